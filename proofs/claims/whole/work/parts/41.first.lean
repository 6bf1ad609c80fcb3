/-! FIRST HOURS: both sides' loops -/
def firstN (p : SS → Bool) : Nat → Nat → SS → Nat
  | 0, _, _ => 61
  | r + 1, k, X => if p X = true then k else firstN p r (k + 1) (hourS X 9)
def kF (x : Nat) : Nat := if x = 61 then 4294967287 else x
theorem kF_ne {x : Nat} (h : x < 61) : kF x = x := by unfold kF; rw [if_neg (by omega)]
theorem pred_lt {s k : Nat} (hs : s < 1000000) (hk : k < 1000000) : nI s - nI 1 < nI k ↔ s ≤ k := by
  by_cases e : s = 0
  · subst e
    have h : nI 0 - nI 1 = -nI 1 := by decide
    rw [h, Int32.lt_iff_toInt_lt, nI_toInt (by omega), show (-nI 1).toInt = -1 by decide]
    omega
  · rw [q_sub (by omega), q_lt (by omega) (by omega)]
    omega
theorem firstN_le (p : SS → Bool) : ∀ r k X, k + r ≤ 61 → (firstN p r k X = 61 ∨ (k ≤ firstN p r k X ∧ firstN p r k X < k + r))
  | 0, k, X, _ => Or.inl rfl
  | r + 1, k, X, h => by
    unfold firstN
    split
    · exact Or.inr ⟨Nat.le_refl _, by omega⟩
    · rcases firstN_le p r (k + 1) (hourS X 9) (by omega) with h1 | ⟨h1, h2⟩
      · exact Or.inl h1
      · exact Or.inr ⟨by omega, by omega⟩
/-- a shorter look -/
theorem firstN_short (p : SS → Bool) : ∀ r r' k X, r' ≤ r → k + r ≤ 61 → firstN p r' k X = if firstN p r k X < k + r' then firstN p r k X else 61
  | r, 0, k, X, _, hk => by
    rcases firstN_le p r k X hk with h1 | ⟨h1, h2⟩
    · rw [if_neg (by omega)]; rfl
    · rw [if_neg (by omega)]; rfl
  | 0, r' + 1, k, X, h, _ => by omega
  | r + 1, r' + 1, k, X, h, hk => by
    unfold firstN
    by_cases e : p X = true
    · rw [if_pos e, if_pos e, if_pos (by omega)]
    · rw [if_neg e, if_neg e, firstN_short p r r' (k + 1) (hourS X 9) (by omega) (by omega), show k + 1 + r' = k + (r' + 1) by omega]
def allAt (S : SS) : Nat → Nat → Bool
  | 0, _ => true
  | r + 1, l => if S 8 l = S 8 0 then allAt S r (l + 1) else false
theorem nI_m1 {l : Nat} (h : l < 1000) : ¬ nI l = -nI 1 := by
  intro q
  have q2 := congrArg Int32.toInt q
  rw [nI_toInt (by omega), show (-nI 1).toInt = -1 by decide] at q2
  omega
section First
variable {τ : TT} {o : Nat} {D C S : SS}
theorem x0_allAt (W : WF S) (R : SC D C S) : ∀ r l n, 1 ≤ l → (l + r = S 12 0 ∨ (r = 0 ∧ S 12 0 ≤ l)) → l < 100 → r < n → T_X0_allAtOnePlace_L2 o (Ro τ o C) n (nI l) = some (nI (if allAt S r l = true then 1 else 0)) := by
  have h12 := W.nl
  have r7 := R.c7
  intro r
  induction r with
  | zero =>
    intro l n h1 h hl hn
    obtain ⟨n, rfl⟩ := fu_one hn
    unfold T_X0_allAtOnePlace_L2 allAt
    simp only [ro_gf, r7]
    rw [if_pos (by rw [q_le (by omega) (by omega)]; omega)]
    rfl
  | succ r ih =>
    intro l n h1 h hl' hn
    obtain ⟨n, rfl⟩ := fu_one (by omega : 0 < n)
    have hl : l < S 12 0 := by omega
    have w := W.bea hl
    have w0 := W.bea (show 0 < S 12 0 by omega)
    unfold T_X0_allAtOnePlace_L2 allAt
    simp (disch := omega) only [r7, (R.bea hl).2.2.1, (R.bea (show 0 < S 12 0 by omega)).2.2.1, n_mod, q_dec, ro_gf, ro_ld, ro_sd, ro_pf, e_vl, e_cV, e_cI, nI_add, q_mul, q_sub, q_rem, q_div, q_eq, q_lt, q_le, c0, c1, c2, c3, c4, c5, c6, c7, c8, c9, c10, c99]
    rw [if_neg (by omega)]
    by_cases e : S 8 l = S 8 0
    · rw [if_pos e, if_pos e]
      exact ih (l + 1) n (by omega) (by omega) (by omega) (by omega)
    · rw [if_neg e, if_neg e]
      rfl
theorem x3_allAt (W : WF S) : ∀ r l n, 1 ≤ l → (l + r = S 12 0 ∨ (r = 0 ∧ S 12 0 ≤ l)) → l < 100 → r < n → T_X3_areAtOne_L2 (Ro τ 13 S) n (nI l) = some (nI (if allAt S r l = true then 1 else 0)) := by
  have h12 := W.nl
  intro r
  induction r with
  | zero =>
    intro l n h1 h hl hn
    obtain ⟨n, rfl⟩ := fu_one hn
    unfold T_X3_areAtOne_L2 allAt
    simp (disch := omega) only [n_mod, q_dec, ro_gf, ro_ld, ro_sd, ro_pf, e_vl, e_cV, e_cI, nI_add, q_mul, q_sub, q_rem, q_div, q_eq, q_lt, q_le, c0, c1, c2, c3, c4, c5, c6, c7, c8, c9, c10, c99]
    rw [if_pos (by omega)]
    rfl
  | succ r ih =>
    intro l n h1 h hl' hn
    obtain ⟨n, rfl⟩ := fu_one (by omega : 0 < n)
    have hl : l < S 12 0 := by omega
    have w := W.bea hl
    have w0 := W.bea (show 0 < S 12 0 by omega)
    unfold T_X3_areAtOne_L2 allAt
    simp (disch := omega) only [n_mod, q_dec, ro_gf, ro_ld, ro_sd, ro_pf, e_vl, e_cV, e_cI, nI_add, q_mul, q_sub, q_rem, q_div, q_eq, q_lt, q_le, c0, c1, c2, c3, c4, c5, c6, c7, c8, c9, c10, c99]
    rw [if_neg (by omega)]
    by_cases e : S 8 l = S 8 0
    · rw [if_pos e, if_pos e]
      exact ih (l + 1) n (by omega) (by omega) (by omega) (by omega)
    · rw [if_neg e, if_neg e]
      rfl
def allP (S : SS) : Bool := allAt S (S 12 0 - 1) 1
theorem x0_all (W : WF S) (R : SC D C S) : T_X0_allAtOnePlace o (Ro τ o C) = some (nI (if allP S = true then 1 else 0)) := by
  have h12 := W.nl
  unfold T_X0_allAtOnePlace
  rw [c1]
  have := x0_allAt (τ := τ) (o := o) W R (S 12 0 - 1) 1 FU (by omega) (by omega) (by omega) (FU_gt (by omega))
  exact this
theorem x3_all (W : WF S) : T_X3_areAtOne (Ro τ 13 S) = some (nI (if allP S = true then 1 else 0)) := by
  have h12 := W.nl
  unfold T_X3_areAtOne
  rw [c1]
  exact x3_allAt (τ := τ) W (S 12 0 - 1) 1 FU (by omega) (by omega) (by omega) (FU_gt (by omega))
end First
section First2
variable {τ : TT} {D S0 : SS}
theorem x2_fA {l v s : Nat} (hs : s ≤ 61) : ∀ r k X C n, SC D C X → C 18 0 = kN 9 → WF X → l < X 12 0 ∧ v ≤ 9 → X 13 0 + r ≤ 5000 → k + r = s → r < n → ∃ C', T_X2_firstAt_L3 n (nI l) (nI v) (nI s - nI 1) (nI k) (Ro τ 2 C) = some (nI (id (firstN (fun X => decide (X 8 l = v)) r k X)), Ro τ 2 C') := by
  intro r
  induction r with
  | zero =>
    intro k X C n R ha W hx hh h hn
    obtain ⟨n, rfl⟩ := fu_one hn
    refine ⟨C, ?_⟩
    unfold T_X2_firstAt_L3
    rw [if_pos ((pred_lt (by omega) (by omega)).mpr (by omega))]
    rfl
  | succ r ih =>
    intro k X C n R ha W hx hh h hn
    obtain ⟨n, rfl⟩ := fu_one (by omega : 0 < n)
    have h12 := W.nl
    have w := W.bea hx.1
    obtain ⟨C1, g1, g2, g3⟩ := x0_hour1 (τ := τ) (o := 2) (by decide : 9 ≤ 9) W (by omega) R ha
    obtain ⟨C', i1⟩ := ih (k + 1) (hourS X 9) C1 n g2 g3 (W.hour 9) (by simpa only [hourS_keeps (show 12 ≠ 5 ∧ 12 ≠ 8 ∧ 12 ≠ 10 ∧ 12 ≠ 13 ∧ 12 ≠ 27 ∧ 12 ≠ 28 ∧ 12 ≠ 29 by decide)] using hx) (by rw [hourS_13]; omega) (by omega) (by omega)
    have fs : firstN (fun X => decide (X 8 l = v)) (r + 1) k X = if X 8 l = v then k else firstN (fun X => decide (X 8 l = v)) r (k + 1) (hourS X 9) := by
      show (if decide (X 8 l = v) = true then _ else _) = _
      by_cases e : X 8 l = v
      · rw [if_pos e, if_pos (decide_eq_true e)]
      · rw [if_neg e, if_neg (by simpa using e)]
    rw [fs]
    unfold T_X2_firstAt_L3
    rw [if_neg (fun q => by have := (pred_lt (by omega) (by omega)).mp q; omega)]
    simp (disch := omega) only [(R.bea hx.1).2.2.1, ro_ld, q_eq, c1]
    by_cases e : X 8 l = v
    · refine ⟨C, ?_⟩
      rw [if_pos e, if_pos e]
      rfl
    · refine ⟨C', ?_⟩
      rw [if_neg e, if_neg e, g1]
      simp only [e_cV, e_vl, c1, nI_add, if_true]
      exact i1
theorem x2_fM {a b s : Nat} (hs : s ≤ 61) : ∀ r k X C n, SC D C X → C 18 0 = kN 9 → WF X → a < X 12 0 ∧ b < X 12 0 → X 13 0 + r ≤ 5000 → k + r = s → r < n → ∃ C', T_X2_firstMeeting_L3 n (nI a) (nI b) (nI s - nI 1) (nI k) (Ro τ 2 C) = some (nI (id (firstN (fun X => decide (X 8 a = X 8 b)) r k X)), Ro τ 2 C') := by
  intro r
  induction r with
  | zero =>
    intro k X C n R ha W hx hh h hn
    obtain ⟨n, rfl⟩ := fu_one hn
    refine ⟨C, ?_⟩
    unfold T_X2_firstMeeting_L3
    rw [if_pos ((pred_lt (by omega) (by omega)).mpr (by omega))]
    rfl
  | succ r ih =>
    intro k X C n R ha W hx hh h hn
    obtain ⟨n, rfl⟩ := fu_one (by omega : 0 < n)
    have h12 := W.nl
    have w := W.bea hx.1
    have w2 := W.bea hx.2
    obtain ⟨C1, g1, g2, g3⟩ := x0_hour1 (τ := τ) (o := 2) (by decide : 9 ≤ 9) W (by omega) R ha
    obtain ⟨C', i1⟩ := ih (k + 1) (hourS X 9) C1 n g2 g3 (W.hour 9) (by simpa only [hourS_keeps (show 12 ≠ 5 ∧ 12 ≠ 8 ∧ 12 ≠ 10 ∧ 12 ≠ 13 ∧ 12 ≠ 27 ∧ 12 ≠ 28 ∧ 12 ≠ 29 by decide)] using hx) (by rw [hourS_13]; omega) (by omega) (by omega)
    have fs : firstN (fun X => decide (X 8 a = X 8 b)) (r + 1) k X = if X 8 a = X 8 b then k else firstN (fun X => decide (X 8 a = X 8 b)) r (k + 1) (hourS X 9) := by
      show (if decide (X 8 a = X 8 b) = true then _ else _) = _
      by_cases e : X 8 a = X 8 b
      · rw [if_pos e, if_pos (decide_eq_true e)]
      · rw [if_neg e, if_neg (by simpa using e)]
    rw [fs]
    unfold T_X2_firstMeeting_L3
    rw [if_neg (fun q => by have := (pred_lt (by omega) (by omega)).mp q; omega)]
    simp (disch := omega) only [(R.bea hx.1).2.2.1, (R.bea hx.2).2.2.1, ro_ld, q_eq, c1]
    by_cases e : X 8 a = X 8 b
    · refine ⟨C, ?_⟩
      rw [if_pos e, if_pos e]
      rfl
    · refine ⟨C', ?_⟩
      rw [if_neg e, if_neg e, g1]
      simp only [e_cV, e_vl, c1, nI_add, if_true]
      exact i1
theorem x2_fB {l s : Nat} (hs : s = 61) : ∀ r k X C n, SC D C X → C 18 0 = kN 9 → WF X → l < X 12 0 → X 13 0 + r ≤ 5000 → k + r = s → r < n → ∃ C', T_X2_breathless_L28 n (nI l) (nI k) (Ro τ 2 C) = some (nI (kF (firstN (fun X => decide (X 10 l = 0)) r k X)), Ro τ 2 C') := by
  intro r
  induction r with
  | zero =>
    intro k X C n R ha W hx hh h hn
    obtain ⟨n, rfl⟩ := fu_one hn
    refine ⟨C, ?_⟩
    unfold T_X2_breathless_L28
    rw [c60, if_pos (by rw [q_lt (by omega) (by omega)]; omega), c9, m9]
    rfl
  | succ r ih =>
    intro k X C n R ha W hx hh h hn
    obtain ⟨n, rfl⟩ := fu_one (by omega : 0 < n)
    have h12 := W.nl
    have w := W.bea hx
    have nl1 := nI_m1 (show l < 1000 by omega)
    obtain ⟨C1, g1, g2, g3⟩ := x0_hour1 (τ := τ) (o := 2) (by decide : 9 ≤ 9) W (by omega) R ha
    obtain ⟨C', i1⟩ := ih (k + 1) (hourS X 9) C1 n g2 g3 (W.hour 9) (by simpa only [hourS_keeps (show 12 ≠ 5 ∧ 12 ≠ 8 ∧ 12 ≠ 10 ∧ 12 ≠ 13 ∧ 12 ≠ 27 ∧ 12 ≠ 28 ∧ 12 ≠ 29 by decide)] using hx) (by rw [hourS_13]; omega) (by omega) (by omega)
    have fs : firstN (fun X => decide (X 10 l = 0)) (r + 1) k X = if X 10 l = 0 then k else firstN (fun X => decide (X 10 l = 0)) r (k + 1) (hourS X 9) := by
      show (if decide (X 10 l = 0) = true then _ else _) = _
      by_cases e : X 10 l = 0
      · rw [if_pos e, if_pos (decide_eq_true e)]
      · rw [if_neg e, if_neg (by simpa using e)]
    rw [fs]
    unfold T_X2_breathless_L28
    rw [c60, if_neg (by rw [q_lt (by omega) (by omega)]; omega)]
    unfold T_X2_breathless_j67
    rw [c1, if_neg nl1]
    simp (disch := omega) only [(R.bea hx).2.2.2.2, n_mod, q_dec, ro_gf, ro_ld, ro_sd, ro_pf, e_vl, e_cV, e_cI, nI_add, q_mul, q_sub, q_rem, q_div, q_eq, q_lt, q_le, c0, c1, c2, c3, c4, c5, c6, c7, c8, c9, c10, c99]
    by_cases e : X 10 l = 0
    · refine ⟨C, ?_⟩
      rw [if_pos e, if_pos e]
      rw [kF_ne (by omega)]
    · refine ⟨C', ?_⟩
      rw [if_neg e, if_neg e, g1]
      simp only [e_cV, e_vl, c1, nI_add, if_true]
      exact i1
theorem x2_fH {l s : Nat} (hs : s = 61) : ∀ r k X C n, SC D C X → C 18 0 = kN 9 → WF X → l < X 12 0 → X 13 0 + r ≤ 5000 → k + r = s → r < n → ∃ C', T_X2_hers_L23 n (nI l) (nI k) (Ro τ 2 C) = some (nI (kF (firstN (fun X => decide (led X l)) r k X)), Ro τ 2 C') := by
  intro r
  induction r with
  | zero =>
    intro k X C n R ha W hx hh h hn
    obtain ⟨n, rfl⟩ := fu_one hn
    refine ⟨C, ?_⟩
    unfold T_X2_hers_L23
    rw [c60, if_pos (by rw [q_lt (by omega) (by omega)]; omega), c9, m9]
    rfl
  | succ r ih =>
    intro k X C n R ha W hx hh h hn
    obtain ⟨n, rfl⟩ := fu_one (by omega : 0 < n)
    have h12 := W.nl
    skip
    obtain ⟨C1, g1, g2, g3⟩ := x0_hour1 (τ := τ) (o := 2) (by decide : 9 ≤ 9) W (by omega) R ha
    obtain ⟨C', i1⟩ := ih (k + 1) (hourS X 9) C1 n g2 g3 (W.hour 9) (by simpa only [hourS_keeps (show 12 ≠ 5 ∧ 12 ≠ 8 ∧ 12 ≠ 10 ∧ 12 ≠ 13 ∧ 12 ≠ 27 ∧ 12 ≠ 28 ∧ 12 ≠ 29 by decide)] using hx) (by rw [hourS_13]; omega) (by omega) (by omega)
    have fs : firstN (fun X => decide (led X l)) (r + 1) k X = if led X l then k else firstN (fun X => decide (led X l)) r (k + 1) (hourS X 9) := by
      show (if decide (led X l) = true then _ else _) = _
      by_cases e : led X l
      · rw [if_pos e, if_pos (decide_eq_true e)]
      · rw [if_neg e, if_neg (by simpa using e)]
    rw [fs]
    unfold T_X2_hers_L23
    rw [c60, if_neg (by rw [q_lt (by omega) (by omega)]; omega)]
    rw [x0_isLed W R hx]
    simp only [e_cV]
    by_cases e : led X l
    · refine ⟨C, ?_⟩
      rw [if_pos e, if_pos e, if_neg (by decide), kF_ne (by omega)]
    · refine ⟨C', ?_⟩
      rw [if_neg e, if_neg e, if_pos (show nI 0 = 0 from rfl), c1, g1]
      simp only [e_cV, e_vl, c1, nI_add, if_true]
      exact i1
theorem x2_fG {zz s : Nat} (hs : s = 61) : ∀ r k X C n, SC D C X → C 18 0 = kN 9 → WF X → X 12 0 ≤ 5 → X 13 0 + r ≤ 5000 → k + r = s → r < n → ∃ C', T_X2_gathering_L6 n  (nI k) (Ro τ 2 C) = some (nI (kF (firstN (fun X => decide (allP X = true)) r k X)), Ro τ 2 C') := by
  intro r
  induction r with
  | zero =>
    intro k X C n R ha W hx hh h hn
    obtain ⟨n, rfl⟩ := fu_one hn
    refine ⟨C, ?_⟩
    unfold T_X2_gathering_L6
    rw [c60, if_pos (by rw [q_lt (by omega) (by omega)]; omega), c9, m9]
    rfl
  | succ r ih =>
    intro k X C n R ha W hx hh h hn
    obtain ⟨n, rfl⟩ := fu_one (by omega : 0 < n)
    have h12 := W.nl
    skip
    obtain ⟨C1, g1, g2, g3⟩ := x0_hour1 (τ := τ) (o := 2) (by decide : 9 ≤ 9) W (by omega) R ha
    obtain ⟨C', i1⟩ := ih (k + 1) (hourS X 9) C1 n g2 g3 (W.hour 9) (by simpa only [hourS_keeps (show 12 ≠ 5 ∧ 12 ≠ 8 ∧ 12 ≠ 10 ∧ 12 ≠ 13 ∧ 12 ≠ 27 ∧ 12 ≠ 28 ∧ 12 ≠ 29 by decide)] using hx) (by rw [hourS_13]; omega) (by omega) (by omega)
    have fs : firstN (fun X => decide (allP X = true)) (r + 1) k X = if allP X = true then k else firstN (fun X => decide (allP X = true)) r (k + 1) (hourS X 9) := by
      show (if decide (allP X = true) = true then _ else _) = _
      by_cases e : allP X = true
      · rw [if_pos e, if_pos (decide_eq_true e)]
      · rw [if_neg e, if_neg (by simpa using e)]
    rw [fs]
    unfold T_X2_gathering_L6
    rw [c60, if_neg (by rw [q_lt (by omega) (by omega)]; omega)]
    rw [x0_all W R]
    simp only [e_cV]
    by_cases e : allP X = true
    · refine ⟨C, ?_⟩
      rw [if_pos e, if_pos e, if_neg (by decide), kF_ne (by omega)]
    · refine ⟨C', ?_⟩
      rw [if_neg e, if_neg e, if_pos (show nI 0 = 0 from rfl), c1, g1]
      simp only [e_cV, e_vl, c1, nI_add, if_true]
      exact i1
theorem x3_fA_fin {l v m k' : Nat} (hk' : k' < 1000) {k n : Nat} {X : SS} (τ : TT) : T_X3_comesTo_L11 (n + 1) (nI l) (nI v) (nI m) (nI k') (nI k) (Ro τ 13 X) = some (nI k', Ro τ 13 (gtS 2 X)) := by
  unfold T_X3_comesTo_L11 T_X3_comesTo_j52
  rw [x3_forgets, c0]
  simp (disch := omega) only [e_cV, q_le, Nat.zero_le, if_true, ite_self]
theorem x3_fA {l v m : Nat} (hm : m ≤ 60) : ∀ r k X n, OS 180 S0 X → WF X → l < X 12 0 ∧ v ≤ 9 → X 13 0 + r ≤ 5000 → k + r = m + 1 → r + 1 < n → ∃ F, (∀ τ, T_X3_comesTo_L11 n (nI l) (nI v) (nI m) (nI 4294967287) (nI k) (Ro τ 13 X) = some (nI (kF (firstN (fun X => decide (X 8 l = v)) r k X)), Ro τ 13 (gtS 2 F))) ∧ OS 180 S0 F := by
  intro r
  induction r with
  | zero =>
    intro k X n hO W hx hh h hn
    obtain ⟨n, rfl⟩ := fu_one (by omega : 0 < n)
    refine ⟨X, fun τ => ?_, hO⟩
    unfold T_X3_comesTo_L11 T_X3_comesTo_j52
    rw [ if_pos (by rw [q_lt (by omega) (by omega)]; omega), x3_forgets]
    rfl
  | succ r ih =>
    intro k X n hO W hx hh h hn
    obtain ⟨n, rfl⟩ := fu_one (by omega : 0 < n)
    obtain ⟨n2, rfl⟩ := fu_one (by omega : 0 < n)
    have h12 := W.nl
    have w := W.bea hx.1
    have g1 := fun τ => x3_h (τ := τ) W (by omega) hO.2.2
    obtain ⟨F, i1, i2⟩ := ih (k + 1) (hourS X 9) (n2 + 1) (hO.hour 9) (W.hour 9) (by simpa only [hourS_keeps (show 12 ≠ 5 ∧ 12 ≠ 8 ∧ 12 ≠ 10 ∧ 12 ≠ 13 ∧ 12 ≠ 27 ∧ 12 ≠ 28 ∧ 12 ≠ 29 by decide)] using hx) (by rw [hourS_13]; omega) (by omega) (by omega)
    have fs : firstN (fun X => decide (X 8 l = v)) (r + 1) k X = if X 8 l = v then k else firstN (fun X => decide (X 8 l = v)) r (k + 1) (hourS X 9) := by
      show (if decide (X 8 l = v) = true then _ else _) = _
      by_cases e : X 8 l = v
      · rw [if_pos e, if_pos (decide_eq_true e)]
      · rw [if_neg e, if_neg (by simpa using e)]
    have fin := fun τ kk => x3_fA_fin (l := l) (v := v) (m := m) (k' := k) (by omega) (k := kk) (n := n2) (X := hourS X 9) τ
    rw [fs]
    unfold T_X3_comesTo_L11 T_X3_comesTo_j39
    by_cases e : X 8 l = v
    · refine ⟨hourS X 9, fun τ => ?_, hO.hour 9⟩
      rw [ if_neg (by rw [q_lt (by omega) (by omega)]; omega), c0, if_neg (by rw [le_NN (by omega)]; exact id)]
      simp (disch := omega) only [n_mod, q_dec, ro_gf, ro_ld, ro_sd, ro_pf, e_vl, e_cV, e_cI, nI_add, q_mul, q_sub, q_rem, q_div, q_eq, q_lt, q_le, c0, c1, c2, c3, c4, c5, c6, c7, c8, c9, c10, c99]
      rw [if_pos e, if_pos e, g1]
      simp only [e_cV, e_vl, c1, nI_add, if_true]
      rw [fin, kF_ne (by omega)]
    · refine ⟨F, fun τ => ?_, i2⟩
      rw [ if_neg (by rw [q_lt (by omega) (by omega)]; omega), c0, if_neg (by rw [le_NN (by omega)]; exact id)]
      simp (disch := omega) only [n_mod, q_dec, ro_gf, ro_ld, ro_sd, ro_pf, e_vl, e_cV, e_cI, nI_add, q_mul, q_sub, q_rem, q_div, q_eq, q_lt, q_le, c0, c1, c2, c3, c4, c5, c6, c7, c8, c9, c10, c99]
      rw [if_neg e, if_neg e, g1]
      simp only [e_cV, e_vl, c1, nI_add, if_true]
      first | rw [m9] | rw [c9, m9]
      exact i1 τ
theorem x3_fM_fin {a b m k' : Nat} (hk' : k' < 1000) {k n : Nat} {X : SS} (τ : TT) : T_X3_meetsIn_L10 (n + 1) (nI a) (nI b) (nI k') (nI k) (Ro τ 13 X) = some (nI k', Ro τ 13 (gtS 2 X)) := by
  unfold T_X3_meetsIn_L10 T_X3_meetsIn_j55
  rw [x3_forgets, c0]
  simp (disch := omega) only [e_cV, q_le, Nat.zero_le, if_true, ite_self]
theorem x3_fM {a b m : Nat} (hm : m = 60) : ∀ r k X n, OS 180 S0 X → WF X → a < X 12 0 ∧ b < X 12 0 → X 13 0 + r ≤ 5000 → k + r = m + 1 → r + 1 < n → ∃ F, (∀ τ, T_X3_meetsIn_L10 n (nI a) (nI b) (nI 4294967287) (nI k) (Ro τ 13 X) = some (nI (kF (firstN (fun X => decide (X 8 a = X 8 b)) r k X)), Ro τ 13 (gtS 2 F))) ∧ OS 180 S0 F := by
  intro r
  induction r with
  | zero =>
    intro k X n hO W hx hh h hn
    obtain ⟨n, rfl⟩ := fu_one (by omega : 0 < n)
    refine ⟨X, fun τ => ?_, hO⟩
    unfold T_X3_meetsIn_L10 T_X3_meetsIn_j55
    rw [c60, if_pos (by rw [q_lt (by omega) (by omega)]; omega), x3_forgets]
    rfl
  | succ r ih =>
    intro k X n hO W hx hh h hn
    obtain ⟨n, rfl⟩ := fu_one (by omega : 0 < n)
    obtain ⟨n2, rfl⟩ := fu_one (by omega : 0 < n)
    have h12 := W.nl
    have w := W.bea hx.1
    have w2 := W.bea hx.2
    have g1 := fun τ => x3_h (τ := τ) W (by omega) hO.2.2
    obtain ⟨F, i1, i2⟩ := ih (k + 1) (hourS X 9) (n2 + 1) (hO.hour 9) (W.hour 9) (by simpa only [hourS_keeps (show 12 ≠ 5 ∧ 12 ≠ 8 ∧ 12 ≠ 10 ∧ 12 ≠ 13 ∧ 12 ≠ 27 ∧ 12 ≠ 28 ∧ 12 ≠ 29 by decide)] using hx) (by rw [hourS_13]; omega) (by omega) (by omega)
    have fs : firstN (fun X => decide (X 8 a = X 8 b)) (r + 1) k X = if X 8 a = X 8 b then k else firstN (fun X => decide (X 8 a = X 8 b)) r (k + 1) (hourS X 9) := by
      show (if decide (X 8 a = X 8 b) = true then _ else _) = _
      by_cases e : X 8 a = X 8 b
      · rw [if_pos e, if_pos (decide_eq_true e)]
      · rw [if_neg e, if_neg (by simpa using e)]
    have fin := fun τ kk => x3_fM_fin (a := a) (b := b) (m := m) (k' := k) (by omega) (k := kk) (n := n2) (X := hourS X 9) τ
    rw [fs]
    unfold T_X3_meetsIn_L10 T_X3_meetsIn_j43
    by_cases e : X 8 a = X 8 b
    · refine ⟨hourS X 9, fun τ => ?_, hO.hour 9⟩
      rw [c60, if_neg (by rw [q_lt (by omega) (by omega)]; omega), c0, if_neg (by rw [le_NN (by omega)]; exact id)]
      simp (disch := omega) only [n_mod, q_dec, ro_gf, ro_ld, ro_sd, ro_pf, e_vl, e_cV, e_cI, nI_add, q_mul, q_sub, q_rem, q_div, q_eq, q_lt, q_le, c0, c1, c2, c3, c4, c5, c6, c7, c8, c9, c10, c99]
      rw [if_pos e, if_pos e, g1]
      simp only [e_cV, e_vl, c1, nI_add, if_true]
      rw [fin, kF_ne (by omega)]
    · refine ⟨F, fun τ => ?_, i2⟩
      rw [c60, if_neg (by rw [q_lt (by omega) (by omega)]; omega), c0, if_neg (by rw [le_NN (by omega)]; exact id)]
      simp (disch := omega) only [n_mod, q_dec, ro_gf, ro_ld, ro_sd, ro_pf, e_vl, e_cV, e_cI, nI_add, q_mul, q_sub, q_rem, q_div, q_eq, q_lt, q_le, c0, c1, c2, c3, c4, c5, c6, c7, c8, c9, c10, c99]
      rw [if_neg e, if_neg e, g1]
      simp only [e_cV, e_vl, c1, nI_add, if_true]
      first | rw [m9] | rw [c9, m9]
      exact i1 τ
theorem x3_fB_fin {l m k' : Nat} (hk' : k' < 1000) {k n : Nat} {X : SS} (τ : TT) : T_X3_outOf_L9 (n + 1) (nI l) (nI k') (nI k) (Ro τ 13 X) = some (nI k', Ro τ 13 (gtS 2 X)) := by
  unfold T_X3_outOf_L9 T_X3_outOf_j46
  rw [x3_forgets, c0]
  simp (disch := omega) only [e_cV, q_le, Nat.zero_le, if_true, ite_self]
theorem x3_fB {l m : Nat} (hm : m = 60) : ∀ r k X n, OS 180 S0 X → WF X → l < X 12 0 → X 13 0 + r ≤ 5000 → k + r = m + 1 → r + 1 < n → ∃ F, (∀ τ, T_X3_outOf_L9 n (nI l) (nI 4294967287) (nI k) (Ro τ 13 X) = some (nI (kF (firstN (fun X => decide (X 10 l = 0)) r k X)), Ro τ 13 (gtS 2 F))) ∧ OS 180 S0 F := by
  intro r
  induction r with
  | zero =>
    intro k X n hO W hx hh h hn
    obtain ⟨n, rfl⟩ := fu_one (by omega : 0 < n)
    refine ⟨X, fun τ => ?_, hO⟩
    unfold T_X3_outOf_L9 T_X3_outOf_j46
    rw [c60, if_pos (by rw [q_lt (by omega) (by omega)]; omega), x3_forgets]
    rfl
  | succ r ih =>
    intro k X n hO W hx hh h hn
    obtain ⟨n, rfl⟩ := fu_one (by omega : 0 < n)
    obtain ⟨n2, rfl⟩ := fu_one (by omega : 0 < n)
    have h12 := W.nl
    have w := W.bea hx
    have g1 := fun τ => x3_h (τ := τ) W (by omega) hO.2.2
    obtain ⟨F, i1, i2⟩ := ih (k + 1) (hourS X 9) (n2 + 1) (hO.hour 9) (W.hour 9) (by simpa only [hourS_keeps (show 12 ≠ 5 ∧ 12 ≠ 8 ∧ 12 ≠ 10 ∧ 12 ≠ 13 ∧ 12 ≠ 27 ∧ 12 ≠ 28 ∧ 12 ≠ 29 by decide)] using hx) (by rw [hourS_13]; omega) (by omega) (by omega)
    have fs : firstN (fun X => decide (X 10 l = 0)) (r + 1) k X = if X 10 l = 0 then k else firstN (fun X => decide (X 10 l = 0)) r (k + 1) (hourS X 9) := by
      show (if decide (X 10 l = 0) = true then _ else _) = _
      by_cases e : X 10 l = 0
      · rw [if_pos e, if_pos (decide_eq_true e)]
      · rw [if_neg e, if_neg (by simpa using e)]
    have fin := fun τ kk => x3_fB_fin (l := l) (m := m) (k' := k) (by omega) (k := kk) (n := n2) (X := hourS X 9) τ
    rw [fs]
    unfold T_X3_outOf_L9 T_X3_outOf_j34
    by_cases e : X 10 l = 0
    · refine ⟨hourS X 9, fun τ => ?_, hO.hour 9⟩
      rw [c60, if_neg (by rw [q_lt (by omega) (by omega)]; omega), c0, if_neg (by rw [le_NN (by omega)]; exact id)]
      simp (disch := omega) only [n_mod, q_dec, ro_gf, ro_ld, ro_sd, ro_pf, e_vl, e_cV, e_cI, nI_add, q_mul, q_sub, q_rem, q_div, q_eq, q_lt, q_le, c0, c1, c2, c3, c4, c5, c6, c7, c8, c9, c10, c99]
      rw [if_pos e, if_pos e, g1]
      simp only [e_cV, e_vl, c1, nI_add, if_true]
      rw [fin, kF_ne (by omega)]
    · refine ⟨F, fun τ => ?_, i2⟩
      rw [c60, if_neg (by rw [q_lt (by omega) (by omega)]; omega), c0, if_neg (by rw [le_NN (by omega)]; exact id)]
      simp (disch := omega) only [n_mod, q_dec, ro_gf, ro_ld, ro_sd, ro_pf, e_vl, e_cV, e_cI, nI_add, q_mul, q_sub, q_rem, q_div, q_eq, q_lt, q_le, c0, c1, c2, c3, c4, c5, c6, c7, c8, c9, c10, c99]
      rw [if_neg e, if_neg e, g1]
      simp only [e_cV, e_vl, c1, nI_add, if_true]
      first | rw [m9] | rw [c9, m9]
      exact i1 τ
theorem x3_fH_fin {l m k' : Nat} (hk' : k' < 1000) {k n : Nat} {X : SS} (τ : TT) : T_X3_hers_L23 (n + 1) (nI l) (nI k') (nI k) (Ro τ 13 X) = some (nI k', Ro τ 13 (gtS 2 X)) := by
  unfold T_X3_hers_L23 T_X3_hers_j59
  rw [x3_forgets, c0]
  simp (disch := omega) only [e_cV, q_le, Nat.zero_le, if_true, ite_self]
theorem x3_fH {l m : Nat} (hm : m = 60) : ∀ r k X n, OS 180 S0 X → WF X → l < X 12 0 → X 13 0 + r ≤ 5000 → k + r = m + 1 → r + 1 < n → ∃ F, (∀ τ, T_X3_hers_L23 n (nI l) (nI 4294967287) (nI k) (Ro τ 13 X) = some (nI (kF (firstN (fun X => decide (led X l)) r k X)), Ro τ 13 (gtS 2 F))) ∧ OS 180 S0 F := by
  intro r
  induction r with
  | zero =>
    intro k X n hO W hx hh h hn
    obtain ⟨n, rfl⟩ := fu_one (by omega : 0 < n)
    refine ⟨X, fun τ => ?_, hO⟩
    unfold T_X3_hers_L23 T_X3_hers_j59
    rw [c60, if_pos (by rw [q_lt (by omega) (by omega)]; omega), x3_forgets]
    rfl
  | succ r ih =>
    intro k X n hO W hx hh h hn
    obtain ⟨n, rfl⟩ := fu_one (by omega : 0 < n)
    obtain ⟨n2, rfl⟩ := fu_one (by omega : 0 < n)
    have h12 := W.nl
    skip
    have g1 := fun τ => x3_h (τ := τ) W (by omega) hO.2.2
    obtain ⟨F, i1, i2⟩ := ih (k + 1) (hourS X 9) (n2 + 1) (hO.hour 9) (W.hour 9) (by simpa only [hourS_keeps (show 12 ≠ 5 ∧ 12 ≠ 8 ∧ 12 ≠ 10 ∧ 12 ≠ 13 ∧ 12 ≠ 27 ∧ 12 ≠ 28 ∧ 12 ≠ 29 by decide)] using hx) (by rw [hourS_13]; omega) (by omega) (by omega)
    have fs : firstN (fun X => decide (led X l)) (r + 1) k X = if led X l then k else firstN (fun X => decide (led X l)) r (k + 1) (hourS X 9) := by
      show (if decide (led X l) = true then _ else _) = _
      by_cases e : led X l
      · rw [if_pos e, if_pos (decide_eq_true e)]
      · rw [if_neg e, if_neg (by simpa using e)]
    have fin := fun τ kk => x3_fH_fin (l := l) (m := m) (k' := k) (by omega) (k := kk) (n := n2) (X := hourS X 9) τ
    rw [fs]
    unfold T_X3_hers_L23 T_X3_hers_j47
    by_cases e : led X l
    · refine ⟨hourS X 9, fun τ => ?_, hO.hour 9⟩
      rw [c60, if_neg (by rw [q_lt (by omega) (by omega)]; omega), c0, if_neg (by rw [le_NN (by omega)]; exact id)]
      rw [x3_isLed W hx]
      simp only [e_cV, c0, c1]
      rw [if_pos e, if_pos e, if_neg (by decide), g1]
      simp only [e_cV, e_vl, c1, nI_add, if_true]
      rw [fin, kF_ne (by omega)]
    · refine ⟨F, fun τ => ?_, i2⟩
      rw [c60, if_neg (by rw [q_lt (by omega) (by omega)]; omega), c0, if_neg (by rw [le_NN (by omega)]; exact id)]
      rw [x3_isLed W hx]
      simp only [e_cV, c0, c1]
      rw [if_neg e, if_neg e, if_pos (show nI 0 = nI 0 from rfl), g1]
      simp only [e_cV, e_vl, c1, nI_add, if_true]
      first | rw [m9] | rw [c9, m9]
      exact i1 τ
theorem x3_fG_fin {zz m k' : Nat} (hk' : k' < 1000) {k n : Nat} {X : SS} (τ : TT) : T_X3_gathering_L9 (n + 1)  (nI k') (nI k) (Ro τ 13 X) = some (nI k', Ro τ 13 (gtS 2 X)) := by
  unfold T_X3_gathering_L9 T_X3_gathering_j44
  rw [x3_forgets, c0]
  simp (disch := omega) only [e_cV, q_le, Nat.zero_le, if_true, ite_self]
theorem x3_fG {zz m : Nat} (hm : m = 60) : ∀ r k X n, OS 180 S0 X → WF X → X 12 0 ≤ 5 → X 13 0 + r ≤ 5000 → k + r = m + 1 → r + 1 < n → ∃ F, (∀ τ, T_X3_gathering_L9 n  (nI 4294967287) (nI k) (Ro τ 13 X) = some (nI (kF (firstN (fun X => decide (allP X = true)) r k X)), Ro τ 13 (gtS 2 F))) ∧ OS 180 S0 F := by
  intro r
  induction r with
  | zero =>
    intro k X n hO W hx hh h hn
    obtain ⟨n, rfl⟩ := fu_one (by omega : 0 < n)
    refine ⟨X, fun τ => ?_, hO⟩
    unfold T_X3_gathering_L9 T_X3_gathering_j44
    rw [c60, if_pos (by rw [q_lt (by omega) (by omega)]; omega), x3_forgets]
    rfl
  | succ r ih =>
    intro k X n hO W hx hh h hn
    obtain ⟨n, rfl⟩ := fu_one (by omega : 0 < n)
    obtain ⟨n2, rfl⟩ := fu_one (by omega : 0 < n)
    have h12 := W.nl
    skip
    have g1 := fun τ => x3_h (τ := τ) W (by omega) hO.2.2
    obtain ⟨F, i1, i2⟩ := ih (k + 1) (hourS X 9) (n2 + 1) (hO.hour 9) (W.hour 9) (by simpa only [hourS_keeps (show 12 ≠ 5 ∧ 12 ≠ 8 ∧ 12 ≠ 10 ∧ 12 ≠ 13 ∧ 12 ≠ 27 ∧ 12 ≠ 28 ∧ 12 ≠ 29 by decide)] using hx) (by rw [hourS_13]; omega) (by omega) (by omega)
    have fs : firstN (fun X => decide (allP X = true)) (r + 1) k X = if allP X = true then k else firstN (fun X => decide (allP X = true)) r (k + 1) (hourS X 9) := by
      show (if decide (allP X = true) = true then _ else _) = _
      by_cases e : allP X = true
      · rw [if_pos e, if_pos (decide_eq_true e)]
      · rw [if_neg e, if_neg (by simpa using e)]
    have fin := fun τ kk => x3_fG_fin (zz := zz) (m := m) (k' := k) (by omega) (k := kk) (n := n2) (X := hourS X 9) τ
    rw [fs]
    unfold T_X3_gathering_L9 T_X3_gathering_j32
    by_cases e : allP X = true
    · refine ⟨hourS X 9, fun τ => ?_, hO.hour 9⟩
      rw [c60, if_neg (by rw [q_lt (by omega) (by omega)]; omega), c0, if_neg (by rw [le_NN (by omega)]; exact id)]
      rw [x3_all W]
      simp only [e_cV]
      rw [if_pos e, if_pos e, if_neg (by decide), g1]
      simp only [e_cV, e_vl, c1, nI_add, if_true]
      rw [fin, kF_ne (by omega)]
    · refine ⟨F, fun τ => ?_, i2⟩
      rw [c60, if_neg (by rw [q_lt (by omega) (by omega)]; omega), c0, if_neg (by rw [le_NN (by omega)]; exact id)]
      rw [x3_all W]
      simp only [e_cV]
      rw [if_neg e, if_neg e, if_pos (show nI 0 = nI 0 from rfl), g1]
      simp only [e_cV, e_vl, c1, nI_add, if_true]
      first | rw [m9] | rw [c9, m9]
      exact i1 τ
end First2
