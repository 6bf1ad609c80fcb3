/-! THE REFERENCE's street methods do the mathematics -/
theorem fu_one {n : Nat} (h : 0 < n) : ∃ m, n = m + 1 := ⟨n - 1, by omega⟩
section Ref
variable {τ : TT} {S : SS}
theorem x3_whoL (W : WF S) {b : Nat} (hb : b ≤ 9) : ∀ r l n, l + r = S 12 0 → r < n → T_X3_whoHas_L2 (Ro τ 13 S) n (nI b) (nI l) = some (nI (whoG S b r l)) := by
  have h12 := W.nl
  intro r
  induction r with
  | zero =>
    intro l n h hn
    obtain ⟨n, rfl⟩ := fu_one hn
    unfold T_X3_whoHas_L2
    simp (disch := omega) only [n_mod, q_dec, ro_gf, ro_ld, ro_sd, ro_pf, e_vl, e_cV, e_cI, nI_add, q_mul, q_sub, q_rem, q_div, q_eq, q_lt, q_le, c0, c1, c2, c3, c4, c5, c6, c7, c8, c9, c10, c99]
    rw [if_pos (by omega)]
    rfl
  | succ r ih =>
    intro l n h hn
    obtain ⟨n, rfl⟩ := fu_one (by omega : 0 < n)
    have hl : l < S 12 0 := by omega
    have hw := W.bea hl
    have h11 := W.nb
    unfold T_X3_whoHas_L2
    simp (disch := omega) only [n_mod, q_dec, ro_gf, ro_ld, ro_sd, ro_pf, e_vl, e_cV, e_cI, nI_add, q_mul, q_sub, q_rem, q_div, q_eq, q_lt, q_le, c0, c1, c2, c3, c4, c5, c6, c7, c8, c9, c10, c99]
    rw [if_neg (by omega)]
    unfold whoG
    by_cases e : S 9 l = b
    · rw [if_pos e, if_pos e]
    · rw [if_neg e, if_neg e]
      exact ih (l + 1) n (by omega) (by omega)
theorem x3_who (W : WF S) {b : Nat} (hb : b ≤ 9) : T_X3_whoHas (Ro τ 13 S) (nI b) = some (nI (who S b)) := by
  have h12 := W.nl
  unfold T_X3_whoHas
  rw [c0]
  exact x3_whoL W hb _ 0 FU (by omega) (FU_gt (by omega))
theorem x3_frOut (W : WF S) {b : Nat} (hb : b < S 11 0) : T_X3_isFriendOut (Ro τ 13 S) (nI b) = some (if S 4 b < 9 ∧ who S (S 4 b) < 9 then 1 else 0) := by
  have h11 := W.nb
  have h4 := W.bag hb
  have hw := who_le W (S 4 b)
  unfold T_X3_isFriendOut
  simp (disch := omega) only [n_mod, q_dec, ro_gf, ro_ld, ro_sd, ro_pf, e_vl, e_cV, e_cI, nI_add, q_mul, q_sub, q_rem, q_div, q_eq, q_lt, q_le, c0, c1, c2, c3, c4, c5, c6, c7, c8, c9, c10, c99]
  by_cases e : 9 ≤ S 4 b
  · rw [if_pos e, if_neg (by omega)]
  · rw [if_neg e]
    simp (disch := omega) only [x3_who W (show S 4 b ≤ 9 by omega), n_mod, q_dec, ro_gf, ro_ld, ro_sd, ro_pf, e_vl, e_cV, e_cI, nI_add, q_mul, q_sub, q_rem, q_div, q_eq, q_lt, q_le, c0, c1, c2, c3, c4, c5, c6, c7, c8, c9, c10, c99]
    by_cases e2 : 9 ≤ who S (S 4 b)
    · rw [if_pos e2, if_neg (by omega)]
    · rw [if_neg e2, if_pos (by omega)]
theorem x3_pull (W : WF S) {b : Nat} (hb : b < S 11 0) : T_X3_pullOf (Ro τ 13 S) (nI b) = some (nI (pull S b)) := by
  have h11 := W.nb
  have h4 := W.bag hb
  unfold T_X3_pullOf pull
  simp (disch := omega) only [x3_frOut W hb, n_mod, q_dec, ro_gf, ro_ld, ro_sd, ro_pf, e_vl, e_cV, e_cI, nI_add, q_mul, q_sub, q_rem, q_div, q_eq, q_lt, q_le, c0, c1, c2, c3, c4, c5, c6, c7, c8, c9, c10, c99]
  by_cases k1 : S 1 b = 1
  · simp only [k1, if_true]
  by_cases k2 : S 1 b = 2
  · simp [k2]
  by_cases k3 : S 1 b = 3
  · simp [k3]
  by_cases k4 : S 1 b = 4
  · simp only [k4]
    by_cases e : S 4 b < 9 ∧ who S (S 4 b) < 9
    · simp [e, ← c1, ← c0]
    · simp [e, ← c1, ← c0]
  by_cases k5 : S 1 b = 5
  · simp [k5]
  · simp [k1, k2, k3, k4, k5]
theorem x3_isLed (W : WF S) {l : Nat} (hl : l < S 12 0) : T_X3_isLed (Ro τ 13 S) (nI l) = some (if led S l then 1 else 0) := by
  have h12 := W.nl
  have h11 := W.nb
  have hw := W.bea hl
  unfold T_X3_isLed
  simp (disch := omega) only [n_mod, q_dec, ro_gf, ro_ld, ro_sd, ro_pf, e_vl, e_cV, e_cI, nI_add, q_mul, q_sub, q_rem, q_div, q_eq, q_lt, q_le, c0, c1, c2, c3, c4, c5, c6, c7, c8, c9, c10, c99]
  unfold led
  by_cases e : 9 ≤ S 9 l
  · rw [if_pos e, if_neg (by omega)]
  · have hb : S 9 l < S 11 0 := by omega
    have hp := pull_le W hb
    rw [if_neg e, x3_pull W hb]
    simp (disch := omega) only [n_mod, q_dec, ro_gf, ro_ld, ro_sd, ro_pf, e_vl, e_cV, e_cI, nI_add, q_mul, q_sub, q_rem, q_div, q_eq, q_lt, q_le, c0, c1, c2, c3, c4, c5, c6, c7, c8, c9, c10, c99]
    by_cases e2 : pull S (S 9 l) ≤ S 6 l
    · rw [if_pos e2, if_neg (by omega)]
    · rw [if_neg e2, if_pos (by omega)]
theorem tw_all : ∀ a, a < 10 → ∀ g, g < 10 → T_X3_towards (fun _ _ _ => 0, fun _ => 0) (nI a) (nI g) = some (nI (tw a g)) := by decide +kernel
theorem x3_towards {σ : ST} {a g : Nat} (ha : a ≤ 9) (hg : g ≤ 9) : T_X3_towards σ (nI a) (nI g) = some (nI (tw a g)) := tw_all a (by omega) g (by omega)
theorem goal_le (W : WF S) {b w : Nat} (hb : b < S 11 0) (hw : w ≤ 9) : goal S b w ≤ 9 := by
  have h4 := W.bag hb
  unfold goal
  split
  · omega
  · split
    · exact hw
    · split
      · rename_i h
        have h1 := who_lt W h.2.2
        exact (W.bea h1.1).2.2.1
      · omega
theorem x3_goalJ (W : WF S) {b : Nat} (hb : b < S 11 0) : T_X3_goalOf_j42 (Ro τ 13 S) (nI b) = some (nI (if S 1 b = 4 ∧ S 4 b < 9 ∧ who S (S 4 b) < 9 then S 8 (who S (S 4 b)) else S 3 b)) := by
  have h11 := W.nb
  have h12 := W.nl
  have h4 := W.bag hb
  unfold T_X3_goalOf_j42
  simp (disch := omega) only [x3_frOut W hb, n_mod, q_dec, ro_gf, ro_ld, ro_sd, ro_pf, e_vl, e_cV, e_cI, nI_add, q_mul, q_sub, q_rem, q_div, q_eq, q_lt, q_le, c0, c1, c2, c3, c4, c5, c6, c7, c8, c9, c10, c99]
  by_cases k4 : S 1 b = 4
  · rw [if_pos k4]
    by_cases e : S 4 b < 9 ∧ who S (S 4 b) < 9
    · have hw := who_lt W e.2
      simp (disch := omega) only [if_pos e, x3_who W (show S 4 b ≤ 9 by omega), n_mod, q_dec, ro_gf, ro_ld, ro_sd, ro_pf, e_vl, e_cV, e_cI, nI_add, q_mul, q_sub, q_rem, q_div, q_eq, q_lt, q_le, c0, c1, c2, c3, c4, c5, c6, c7, c8, c9, c10, c99]
      rw [if_neg (by omega), if_pos ⟨k4, e⟩]
    · simp (disch := omega) only [if_neg e, n_mod, q_dec, ro_gf, ro_ld, ro_sd, ro_pf, e_vl, e_cV, e_cI, nI_add, q_mul, q_sub, q_rem, q_div, q_eq, q_lt, q_le, c0, c1, c2, c3, c4, c5, c6, c7, c8, c9, c10, c99]
      rw [if_pos trivial, if_neg (fun q => e q.2)]
  · rw [if_neg k4, if_neg (fun q => k4 q.1)]
theorem x3_goal (W : WF S) (hh : S 13 0 < 1000000) {b w : Nat} (hb : b < S 11 0) (hw : w ≤ 9) : T_X3_goalOf (Ro τ 13 S) (nI b) (nI w) = some (nI (goal S b w)) := by
  have h11 := W.nb
  have h4 := W.bag hb
  have h14 := W.col
  unfold T_X3_goalOf goal
  simp (disch := omega) only [x3_goalJ W hb, n_mod, q_dec, ro_gf, ro_ld, ro_sd, ro_pf, e_vl, e_cV, e_cI, nI_add, q_mul, q_sub, q_rem, q_div, q_eq, q_lt, q_le, c0, c1, c2, c3, c4, c5, c6, c7, c8, c9, c10, c99]
  by_cases k2 : S 1 b = 2
  · rw [if_pos k2, if_pos k2]
  · rw [if_neg k2, if_neg k2]
    by_cases k3 : S 1 b = 3
    · rw [if_pos k3]
      by_cases e : S 13 0 % 2 = 1
      · rw [if_pos e, if_pos ⟨k3, e⟩]
      · rw [if_neg e, if_neg (show ¬ (S 1 b = 3 ∧ S 13 0 % 2 = 1) from fun q => e q.2)]
    · rw [if_neg k3, if_neg (show ¬ (S 1 b = 3 ∧ S 13 0 % 2 = 1) from fun q => k3 q.1)]
/-- what WF says stays when breath, place, tallies change -/
theorem WF.same {T : SS} (W : WF S) (h : ∀ f i, f ≠ 8 → f ≠ 10 → f ≠ 5 → f < 15 → T f i = S f i) (h8 : ∀ l, l < S 12 0 → T 8 l ≤ 9) (h10 : ∀ l, l < S 12 0 → T 10 l ≤ 9) (h5 : ∀ b, b < S 11 0 → T 5 b ≤ 99) : WF T := by
  obtain ⟨w1, w2, w3, w4, w5, w6⟩ := W
  have e11 := h 11 0 (by decide) (by decide) (by decide) (by decide)
  have e12 := h 12 0 (by decide) (by decide) (by decide) (by decide)
  have e14 := h 14 0 (by decide) (by decide) (by decide) (by decide)
  refine ⟨by omega, by omega, fun b hb => ?_, fun l hl => ?_, fun l l' hl hl' => ?_, by omega⟩
  · rw [e11] at hb
    have := w3 b hb
    have := h5 b hb
    rw [h 1 b (by decide) (by decide) (by decide) (by decide), h 2 b (by decide) (by decide) (by decide) (by decide), h 3 b (by decide) (by decide) (by decide) (by decide), h 4 b (by decide) (by decide) (by decide) (by decide), e11]
    omega
  · rw [e12] at hl
    have := w4 l hl
    have := h8 l hl
    have := h10 l hl
    rw [h 6 l (by decide) (by decide) (by decide) (by decide), h 7 l (by decide) (by decide) (by decide) (by decide), h 9 l (by decide) (by decide) (by decide) (by decide), e11]
    omega
  · rw [e12] at hl hl'
    rw [h 9 l (by decide) (by decide) (by decide) (by decide), h 9 l' (by decide) (by decide) (by decide) (by decide)]
    exact w5 l l' hl hl'
theorem up_at (S : SS) (f i x : Nat) : up S f i x f i = x := by simp [up]
theorem up_ne (S : SS) {f i x f' i' : Nat} (h : ¬ (f' = f ∧ i' = i)) : up S f i x f' i' = S f' i' := by simp [up, h]
theorem WF.up8 (W : WF S) {l x : Nat} (hx : x ≤ 9) : WF (up S 8 l x) := by
  refine W.same (fun f i h8 _ _ _ => up_ne S (fun q => h8 q.1)) (fun k hk => ?_) (fun k hk => ?_) (fun k hk => ?_)
  · by_cases e : k = l
    · subst e; rw [up_at]; exact hx
    · rw [up_ne S (fun q => e q.2)]; exact (W.bea hk).2.2.1
  · rw [up_ne S (by omega)]; exact (W.bea hk).2.2.2.2
  · rw [up_ne S (by omega)]; exact (W.bag hk).2.2.2.2
theorem WF.up10 (W : WF S) {l x : Nat} (hx : x ≤ 9) : WF (up S 10 l x) := by
  refine W.same (fun f i _ h10 _ _ => up_ne S (fun q => h10 q.1)) (fun k hk => ?_) (fun k hk => ?_) (fun k hk => ?_)
  · rw [up_ne S (by omega)]; exact (W.bea hk).2.2.1
  · by_cases e : k = l
    · subst e; rw [up_at]; exact hx
    · rw [up_ne S (fun q => e q.2)]; exact (W.bea hk).2.2.2.2
  · rw [up_ne S (by omega)]; exact (W.bag hk).2.2.2.2
theorem WF.up5 (W : WF S) {b x : Nat} (hx : x ≤ 99) : WF (up S 5 b x) := by
  refine W.same (fun f i _ _ h5 _ => up_ne S (fun q => h5 q.1)) (fun k hk => ?_) (fun k hk => ?_) (fun k hk => ?_)
  · rw [up_ne S (by omega)]; exact (W.bea hk).2.2.1
  · rw [up_ne S (by omega)]; exact (W.bea hk).2.2.2.2
  · by_cases e : k = b
    · subst e; rw [up_at]; exact hx
    · rw [up_ne S (fun q => e q.2)]; exact (W.bag hk).2.2.2.2
theorem WF.upT (W : WF S) {f i x : Nat} (hf : 15 ≤ f) : WF (up S f i x) := by
  refine W.same (fun f' i' _ _ _ h => up_ne S (by omega)) (fun k hk => ?_) (fun k hk => ?_) (fun k hk => ?_)
  · rw [up_ne S (by omega)]; exact (W.bea hk).2.2.1
  · rw [up_ne S (by omega)]; exact (W.bea hk).2.2.2.2
  · rw [up_ne S (by omega)]; exact (W.bag hk).2.2.2.2
theorem WF.up13 (W : WF S) {x : Nat} : WF (up S 13 0 x) := by
  obtain ⟨w1, w2, w3, w4, w5, w6⟩ := W
  have e : ∀ f i, f ≠ 13 → up S 13 0 x f i = S f i := fun f i h => up_ne S (fun q => h q.1)
  refine ⟨by rw [e _ _ (by decide)]; exact w1, by rw [e _ _ (by decide)]; exact w2, fun b hb => ?_, fun l hl => ?_, fun l l' hl hl' => ?_, by rw [e _ _ (by decide)]; exact w6⟩
  · rw [e _ _ (by decide)] at hb
    simp only [e 1 b (by decide), e 2 b (by decide), e 3 b (by decide), e 4 b (by decide), e 5 b (by decide), e 11 0 (by decide)]
    exact w3 b hb
  · rw [e _ _ (by decide)] at hl
    simp only [e 6 l (by decide), e 7 l (by decide), e 8 l (by decide), e 9 l (by decide), e 10 l (by decide), e 11 0 (by decide)]
    exact w4 l hl
  · rw [e _ _ (by decide)] at hl hl'
    simp only [e 9 l (by decide), e 9 l' (by decide)]
    exact w5 l l' hl hl'
theorem WF.step (W : WF S) {l g : Nat} (hl : l < S 12 0) : WF (stepG S l g) := by
  have hw := W.bea hl
  unfold stepG
  split
  · exact W
  · exact (W.up8 (tw_le (by omega))).up10 (by omega)
theorem x3_goLs (W : WF S) {l g k n : Nat} (hl : l < S 12 0) (hg : g ≤ 9) (hk : k < 10) : T_X3_goesLed_L36 (n + 1) (nI l) (nI g) (nI (k + 1)) (Ro τ 13 S) = if S 8 l = g then some (Ro τ 13 S) else T_X3_goesLed_L36 n (nI l) (nI g) (nI k) (Ro τ 13 (stepG S l g)) := by
  have h12 := W.nl
  have hw := W.bea hl
  have ht : tw (S 8 l) g ≤ 9 := tw_le (by omega)
  conv => lhs; unfold T_X3_goesLed_L36
  simp (disch := omega) only [x3_towards (σ := Ro τ 13 S) (show S 8 l ≤ 9 by omega) hg, up_at, up_ne S (show ¬ (10 = 8 ∧ l = l) by omega), n_mod, q_dec, ro_gf, ro_ld, ro_sd, ro_pf, e_vl, e_cV, e_cI, nI_add, q_mul, q_sub, q_rem, q_div, q_eq, q_lt, q_le, c0, c1, c2, c3, c4, c5, c6, c7, c8, c9, c10, c99]
  rw [if_neg (by omega)]
  by_cases e : S 8 l = g
  · rw [if_pos e, if_pos e]
  · rw [if_neg e, if_neg e]
    unfold stepG
    rw [if_neg e]
    by_cases e2 : S 10 l ≤ 0
    · rw [if_pos e2, show S 10 l - 0 = S 10 l - 1 by omega]
    · rw [if_neg e2]
theorem x3_goL0 {l g n : Nat} : T_X3_goesLed_L36 (n + 1) (nI l) (nI g) (nI 0) (Ro τ 13 S) = some (Ro τ 13 S) := by
  unfold T_X3_goesLed_L36
  rw [c0, if_pos (Int32.le_refl _)]
theorem step_l {l g : Nat} : stepG S l g 12 0 = S 12 0 ∧ stepG S l g 11 0 = S 11 0 := by
  unfold stepG
  split
  · exact ⟨rfl, rfl⟩
  · simp [up]
theorem step_done {l g : Nat} (h : S 8 l = g) : stepG S l g = S := by unfold stepG; rw [if_pos h]
theorem x3_goLed (W : WF S) (hh : S 13 0 < 1000000) {l : Nat} (hl : l < S 12 0) (h9 : S 9 l < 9) : T_X3_goesLed (nI l) (Ro τ 13 S) = some (Ro τ 13 (goLed S l)) := by
  have h12 := W.nl
  have h11 := W.nb
  have hw := W.bea hl
  have hb : S 9 l < S 11 0 := by omega
  have hbg := W.bag hb
  have hg := goal_le W hb (w := S 7 l) (by omega)
  obtain ⟨m, hm⟩ : ∃ m, FU = m + 3 := ⟨2997, rfl⟩
  unfold T_X3_goesLed goLed
  simp (disch := omega) only [x3_goal W hh hb (show S 7 l ≤ 9 by omega), n_mod, q_dec, ro_gf, ro_ld, ro_sd, ro_pf, e_vl, e_cV, e_cI, nI_add, q_mul, q_sub, q_rem, q_div, q_eq, q_lt, q_le, c0, c1, c2, c3, c4, c5, c6, c7, c8, c9, c10, c99]
  rw [hm]
  by_cases e : S 1 (S 9 l) = 5
  · rw [if_pos e, if_pos e]
    have s1 := x3_goLs (τ := τ) (n := m + 2) (k := 1) W hl hg (by decide)
    rw [s1]
    by_cases e2 : S 8 l = goal S (S 9 l) (S 7 l)
    · rw [if_pos e2, step_done e2, step_done e2]
    · rw [if_neg e2]
      have W2 := W.step (g := goal S (S 9 l) (S 7 l)) hl
      have s2 := x3_goLs (τ := τ) (n := m + 1) (k := 0) W2 (by rw [step_l.1]; exact hl) hg (by decide)
      rw [s2]
      by_cases e3 : stepG S l (goal S (S 9 l) (S 7 l)) 8 l = goal S (S 9 l) (S 7 l)
      · rw [if_pos e3, step_done e3]
      · rw [if_neg e3, x3_goL0]
  · rw [if_neg e, if_neg e]
    have s1 := x3_goLs (τ := τ) (n := m + 2) (k := 0) W hl hg (by decide)
    rw [s1]
    by_cases e2 : S 8 l = goal S (S 9 l) (S 7 l)
    · rw [if_pos e2, step_done e2]
    · rw [if_neg e2, x3_goL0]
theorem x3_oneN (W : WF S) {l : Nat} (hl : l < S 12 0) : T_X3_goesOne_j55 (nI l) (Ro τ 13 S) = some (Ro τ 13 (oneN S l)) := by
  have h12 := W.nl
  have hw := W.bea hl
  have ht : tw (S 8 l) (S 7 l) ≤ 9 := tw_le (by omega)
  unfold T_X3_goesOne_j55 oneN
  simp (disch := omega) only [x3_towards (σ := Ro τ 13 S) (show S 8 l ≤ 9 by omega) (show S 7 l ≤ 9 by omega), up_ne S (show ¬ (10 = 8 ∧ l = l) by omega), n_mod, q_dec, ro_gf, ro_ld, ro_sd, ro_pf, e_vl, e_cV, e_cI, nI_add, q_mul, q_sub, q_rem, q_div, q_eq, q_lt, q_le, c0, c1, c2, c3, c4, c5, c6, c7, c8, c9, c10, c99]
  by_cases e : 9 ≤ S 10 l
  · rw [if_pos e, if_pos e, Nat.add_zero]
  · rw [if_neg e, if_neg e]
theorem x3_one (W : WF S) (hh : S 13 0 < 1000000) {l : Nat} (hl : l < S 12 0) (z : Bool) : T_X3_goesOne (nI l) (if z then 1 else 0) (Ro τ 13 S) = some (Ro τ 13 (one S l z)) := by
  have h12 := W.nl
  have hw := W.bea hl
  unfold T_X3_goesOne one
  simp (disch := omega) only [x3_isLed W hl, x3_oneN W hl, up_ne S (show ¬ (28 = 10 ∧ l = l) by omega), n_mod, q_dec, ro_gf, ro_ld, ro_sd, ro_pf, e_vl, e_cV, e_cI, nI_add, q_mul, q_sub, q_rem, q_div, q_eq, q_lt, q_le, c0, c1, c2, c3, c4, c5, c6, c7, c8, c9, c10, c99]
  by_cases e : S 10 l = 0
  · rw [if_pos e, if_pos e]
  · rw [if_neg e, if_neg e]
    by_cases e2 : led S l
    · have hz : nI 1 ≠ nI 0 := by decide
      rw [if_pos e2, if_neg hz]
      cases z with
      | false =>
        have W2 := W.upT (f := 27) (i := l) (x := S 27 l + 1) (by decide)
        have h9 : S 9 l < 9 := e2.1
        have g := x3_goLed (τ := τ) W2 (by rw [up_ne S (by omega)]; exact hh) (l := l) (by rw [up_ne S (by omega)]; exact hl) (by rw [up_ne S (by omega)]; exact h9)
        simp only [g, e_cV]
        simp
        rw [if_pos e2]
      | true => simp [← c0, ← c1]
    · rw [if_neg e2, if_pos rfl, if_neg (fun q => e2 q.1)]
theorem one_keeps {l : Nat} {z : Bool} {f i : Nat} (hf : f ≠ 8 ∧ f ≠ 10 ∧ f ≠ 27 ∧ f ≠ 28) : one S l z f i = S f i := by
  have st : ∀ (T : SS) (g : Nat), stepG T l g f i = T f i := by
    intro T g
    unfold stepG
    split
    · rfl
    · rw [up_ne _ (by omega), up_ne _ (by omega)]
  unfold one
  split
  · rw [up_ne _ (by omega), up_ne _ (by omega)]
  · split
    · unfold goLed
      split
      · rw [st, st, up_ne _ (by omega)]
      · rw [st, up_ne _ (by omega)]
    · unfold oneN
      rw [up_ne _ (by omega), up_ne _ (by omega)]
theorem WF.one (W : WF S) {l : Nat} {z : Bool} (hl : l < S 12 0) : WF (one S l z) := by
  have hw := W.bea hl
  unfold Jvm.Pilot.@@N@@.one
  split
  · exact (W.up10 (by omega)).upT (by decide)
  · split
    · have W2 := W.upT (f := 27) (i := l) (x := S 27 l + 1) (by decide)
      have hl2 : l < up S 27 l (S 27 l + 1) 12 0 := by rw [up_ne S (by omega)]; exact hl
      unfold goLed
      split
      · exact (W2.step hl2).step (by rw [step_l.1]; exact hl2)
      · exact W2.step hl2
    · exact (W.up8 (tw_le (by omega))).up10 (by split <;> omega)
theorem allOne_keeps {z f i : Nat} (hf : f ≠ 8 ∧ f ≠ 10 ∧ f ≠ 27 ∧ f ≠ 28) : ∀ r S l, allOne S z r l f i = S f i
  | 0, S, l => rfl
  | r + 1, S, l => by
    show allOne (one S l (decide (l = z))) z r (l + 1) f i = _
    rw [allOne_keeps hf r, one_keeps hf]
theorem WF.allOne {z : Nat} : ∀ r S l, WF S → l + r = S 12 0 → WF (allOne S z r l)
  | 0, S, l, W, h => W
  | r + 1, S, l, W, h => WF.allOne r _ _ (W.one (by omega)) (by rw [one_keeps (by decide)]; omega)
theorem x3_hour1 (q : Bool) : ∀ r S l n, WF S → S 13 0 < 1000000 → S 30 0 ≤ 9 → l + r = S 12 0 → r < n → T_X3_goesHour_L12 n (if q then 1 else 0) (nI l) (Ro τ 13 S) = T_X3_goesHour_L50 FU (nI 0) (Ro τ 13 (allOne S (if q then S 30 0 else 9) r l)) := by
  intro r
  induction r with
  | zero =>
    intro S l n W hh h30 h hn
    have h12 := W.nl
    obtain ⟨n, rfl⟩ := fu_one hn
    conv => lhs; unfold T_X3_goesHour_L12
    simp (disch := omega) only [n_mod, q_dec, ro_gf, ro_ld, ro_sd, ro_pf, e_vl, e_cV, e_cI, nI_add, q_mul, q_sub, q_rem, q_div, q_eq, q_lt, q_le, c0, c1, c2, c3, c4, c5, c6, c7, c8, c9, c10, c99]
    rw [if_pos (by omega)]
    rfl
  | succ r ih =>
    intro S l n W hh h30 h hn
    have h12 := W.nl
    obtain ⟨n, rfl⟩ := fu_one (by omega : 0 < n)
    have hl : l < S 12 0 := by omega
    have hz : nI 1 ≠ nI 0 := by decide
    have g0 := x3_one (τ := τ) W hh hl false
    have g1 := x3_one (τ := τ) W hh hl true
    simp only [if_true, Bool.false_eq_true, if_false, c0, c1] at g0 g1
    have ihx := fun z => ih (one S l z) (l + 1) n (W.one hl) (by rw [one_keeps (by decide)]; exact hh) (by rw [one_keeps (by decide)]; exact h30) (by rw [one_keeps (by decide)]; omega) (by omega)
    conv => lhs; unfold T_X3_goesHour_L12
    simp (disch := omega) only [n_mod, q_dec, ro_gf, ro_ld, ro_sd, ro_pf, e_vl, e_cV, e_cI, nI_add, q_mul, q_sub, q_rem, q_div, q_eq, q_lt, q_le, c0, c1, c2, c3, c4, c5, c6, c7, c8, c9, c10, c99]
    rw [if_neg (by omega)]
    have h5 : ¬ l = 9 := by omega
    cases q with
    | false =>
      simp only [Bool.false_eq_true, if_false, c0] at ihx ⊢
      rw [if_pos trivial]
      unfold T_X3_goesHour_j38 T_X3_goesHour_j39
      simp (disch := omega) only [c0, g0, n_mod, q_dec, ro_gf, ro_ld, ro_sd, ro_pf, e_vl, e_cV, e_cI, nI_add, q_mul, q_sub, q_rem, q_div, q_eq, q_lt, q_le, c0, c1, c2, c3, c4, c5, c6, c7, c8, c9, c10, c99]
      rw [ihx false]
      show _ = T_X3_goesHour_L50 FU (nI 0) (Ro τ 13 (allOne (one S l (decide (l = 9))) 9 r (l + 1)))
      rw [decide_eq_false h5]
    | true =>
      simp only [if_true, c1] at ihx ⊢
      rw [if_neg hz]
      unfold T_X3_goesHour_j38 T_X3_goesHour_j39
      simp (disch := omega) only [c0, c1, g0, g1, n_mod, q_dec, ro_gf, ro_ld, ro_sd, ro_pf, e_vl, e_cV, e_cI, nI_add, q_mul, q_sub, q_rem, q_div, q_eq, q_lt, q_le, c0, c1, c2, c3, c4, c5, c6, c7, c8, c9, c10, c99]
      show _ = T_X3_goesHour_L50 FU (nI 0) (Ro τ 13 (allOne (one S l (decide (l = S 30 0))) (S 30 0) r (l + 1)))
      by_cases e : l = S 30 0
      · rw [if_pos e, ihx true, one_keeps (by decide), decide_eq_true e]
      · rw [if_neg e, ihx false, one_keeps (by decide), decide_eq_false e]
theorem grow_keeps {l f i : Nat} (hf : f ≠ 5 ∧ f ≠ 29) : growOne S l f i = S f i := by
  unfold growOne
  split
  · rfl
  · show up _ 29 0 _ f i = _
    rw [up_ne _ (by omega), up_ne _ (by omega)]
theorem allGrow_keeps {f i : Nat} (hf : f ≠ 5 ∧ f ≠ 29) : ∀ r S l, allGrow S r l f i = S f i
  | 0, S, l => rfl
  | r + 1, S, l => by
    show allGrow (growOne S l) r (l + 1) f i = _
    rw [allGrow_keeps hf r, grow_keeps hf]
theorem WF.grow (W : WF S) {l : Nat} (hl : l < S 12 0) : WF (growOne S l) := by
  have hw := W.bea hl
  have h11 := W.nb
  unfold growOne
  split
  · exact W
  · rename_i e
    have hb := W.bag (show S 9 l < S 11 0 by omega)
    exact (W.up5 (by split <;> omega)).upT (by decide)
theorem WF.allGrow : ∀ r S l, WF S → l + r = S 12 0 → WF (allGrow S r l)
  | 0, S, l, W, h => W
  | r + 1, S, l, W, h => WF.allGrow r _ _ (W.grow (by omega)) (by rw [grow_keeps (by decide)]; omega)
theorem x3_hour2 : ∀ r S l n, WF S → l + r = S 12 0 → r < n → T_X3_goesHour_L50 n (nI l) (Ro τ 13 S) = some (Ro τ 13 (allGrow S r l)) := by
  intro r
  induction r with
  | zero =>
    intro S l n W h hn
    have h12 := W.nl
    obtain ⟨n, rfl⟩ := fu_one hn
    unfold T_X3_goesHour_L50
    simp (disch := omega) only [n_mod, q_dec, ro_gf, ro_ld, ro_sd, ro_pf, e_vl, e_cV, e_cI, nI_add, q_mul, q_sub, q_rem, q_div, q_eq, q_lt, q_le, c0, c1, c2, c3, c4, c5, c6, c7, c8, c9, c10, c99]
    rw [if_pos (by omega)]
    rfl
  | succ r ih =>
    intro S l n W h hn
    have h12 := W.nl
    have h11 := W.nb
    have h14 := W.col
    obtain ⟨n, rfl⟩ := fu_one (by omega : 0 < n)
    have hl : l < S 12 0 := by omega
    have hw := W.bea hl
    have ihx := ih (growOne S l) (l + 1) n (W.grow hl) (by rw [grow_keeps (by decide)]; omega) (by omega)
    unfold T_X3_goesHour_L50 T_X3_goesHour_j105
    simp (disch := omega) only [n_mod, q_dec, ro_gf, ro_ld, ro_sd, ro_pf, e_vl, e_cV, e_cI, nI_add, q_mul, q_sub, q_rem, q_div, q_eq, q_lt, q_le, c0, c1, c2, c3, c4, c5, c6, c7, c8, c9, c10, c99]
    rw [if_neg (by omega)]
    show _ = some (Ro τ 13 (allGrow (growOne S l) r (l + 1)))
    by_cases e : S 9 l = 9
    · rw [if_pos e]
      have eg : growOne S l = S := by unfold growOne; rw [if_pos e]
      rw [eg] at ihx ⊢
      exact ihx
    · have hb : S 9 l < S 11 0 := by omega
      have hbg := W.bag hb
      rw [if_neg e]
      have key : growOne S l = up (up S 5 (S 9 l) (if 99 ≤ S 5 (S 9 l) then S 5 (S 9 l) else S 5 (S 9 l) + 1)) 29 0 (S 29 0 + (if S 1 (S 9 l) = 2 ∧ S 8 l = S 14 0 then 1 else 0)) := by
        unfold growOne
        rw [if_neg e]
        show up _ 29 0 _ = _
        simp only [up_ne S (show ¬ (29 = 5 ∧ 0 = S 9 l) by omega), up_ne S (show ¬ (1 = 5 ∧ S 9 l = S 9 l) by omega), up_ne S (show ¬ (8 = 5 ∧ l = S 9 l) by omega), up_ne S (show ¬ (14 = 5 ∧ 0 = S 9 l) by omega)]
      have fin : ∀ x, x = (if 99 ≤ S 5 (S 9 l) then S 5 (S 9 l) else S 5 (S 9 l) + 1) → ∀ y, y = S 29 0 + (if S 1 (S 9 l) = 2 ∧ S 8 l = S 14 0 then 1 else 0) → T_X3_goesHour_L50 n (nI (l + 1)) (Ro τ 13 (up (up S 5 (S 9 l) x) 29 0 y)) = some (Ro τ 13 (allGrow (growOne S l) r (l + 1))) := by
        intro x hx y hy
        rw [hx, hy, ← key]
        exact ihx
      simp (disch := omega) only [up_ne S (show ¬ (29 = 5 ∧ 0 = S 9 l) by omega), up_ne S (show ¬ (1 = 5 ∧ S 9 l = S 9 l) by omega), up_ne S (show ¬ (8 = 5 ∧ l = S 9 l) by omega), up_ne S (show ¬ (14 = 5 ∧ 0 = S 9 l) by omega), up_ne S (show ¬ (9 = 5 ∧ l = S 9 l) by omega), n_mod, q_dec, ro_gf, ro_ld, ro_sd, ro_pf, e_vl, e_cV, e_cI, nI_add, q_mul, q_sub, q_rem, q_div, q_eq, q_lt, q_le, c0, c1, c2, c3, c4, c5, c6, c7, c8, c9, c10, c99]
      by_cases e2 : 99 ≤ S 5 (S 9 l) <;> by_cases e3 : S 1 (S 9 l) = 2 <;> by_cases e4 : S 8 l = S 14 0
      all_goals simp only [e2, e3, e4, if_true, if_false, true_and, and_true, false_and, and_false]
      all_goals refine fin _ ?_ _ ?_
      all_goals simp [e2, e3, e4]
theorem WF.hour (W : WF S) (z : Nat) : WF (hourS S z) := by
  have W1 := W.up13 (x := S 13 0 + 1)
  have W2 := WF.allOne (z := z) (S 12 0) (up S 13 0 (S 13 0 + 1)) 0 W1 (by rw [up_ne S (by decide)]; omega)
  exact WF.allGrow _ _ 0 W2 (by omega)
theorem x3_hour (W : WF S) (hh : S 13 0 < 999999) (h30 : S 30 0 ≤ 9) (q : Bool) : T_X3_goesHour (if q then 1 else 0) (Ro τ 13 S) = some (Ro τ 13 (hourS S (if q then S 30 0 else 9))) := by
  have h12 := W.nl
  have W1 := W.up13 (x := S 13 0 + 1)
  unfold T_X3_goesHour
  simp (disch := omega) only [n_mod, q_dec, ro_gf, ro_ld, ro_sd, ro_pf, e_vl, e_cV, e_cI, nI_add, q_mul, q_sub, q_rem, q_div, q_eq, q_lt, q_le, c0, c1, c2, c3, c4, c5, c6, c7, c8, c9, c10, c99]
  have e1 := x3_hour1 (τ := τ) q (S 12 0) (up S 13 0 (S 13 0 + 1)) 0 FU W1 (by rw [up_at]; omega) (by rw [up_ne S (by decide)]; exact h30) (by rw [up_ne S (by decide)]; omega) (FU_gt (by omega))
  rw [up_ne S (show ¬ (30 = 13 ∧ 0 = 0) by decide)] at e1
  simp only [c0, c1] at e1
  rw [e1]
  have W2 := WF.allOne (z := if q then S 30 0 else 9) (S 12 0) (up S 13 0 (S 13 0 + 1)) 0 W1 (by rw [up_ne S (by decide)]; omega)
  refine x3_hour2 _ _ 0 FU W2 (by omega) (FU_gt ?_)
  rw [allOne_keeps (by decide), up_ne S (by decide)]
  omega
end Ref
