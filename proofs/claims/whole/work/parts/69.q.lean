/-! a giving, thought -/
/-- S, the first l bearers given what e says, nobody else with a bag, no hours held -/
def TeS (S : SS) (e : Nat → Nat) (l : Nat) : SS := fun f i => if f = 9 then (if i < l then e i else 9) else if f = 5 then 0 else S f i
def gvR (e : Nat → Nat) : Nat → Nat → SS → SS
  | 0, _, X => X
  | r + 1, l, X => gvR e r (l + 1) (if e l = 9 then up X 9 l 9 else up (up X 9 l (e l)) 5 (e l) 0)
/-- e is a way of giving nb bags to nl bearers -/
def Way (e : Nat → Nat) (nb nl : Nat) : Prop := (∀ l, l < nl → e l = 9 ∨ e l < nb) ∧ ∀ l m, l < nl → m < nl → e l = e m → e l ≠ 9 → l = m
section Giv
variable {G : GG} {P : Nat → Nat} {A C S X Y F : SS} {τ : TT} {o c : Nat} {e : Nat → Nat}
theorem Te_oth {f i l : Nat} (hf : f ≠ 9 ∧ f ≠ 5) : TeS S e l f i = S f i := by
  unfold TeS
  rw [if_neg hf.1, if_neg hf.2]
theorem Te_9 {i l : Nat} : TeS S e l 9 i = if i < l then e i else 9 := if_pos rfl
theorem Te_5 {i l : Nat} : TeS S e l 5 i = 0 := by
  unfold TeS
  rw [if_neg (by decide), if_pos rfl]
theorem WF.Te (W : WF S) (w : Way e (S 11 0) (S 12 0)) {l : Nat} (hl : l ≤ S 12 0) : WF (TeS S e l) := by
  have h11 := W.nb
  have h12 := W.nl
  refine ⟨by rw [Te_oth (by decide)]; exact W.nb, by rw [Te_oth (by decide)]; exact W.nl, fun b hb => ?_, fun k hk => ?_, fun k m hk hm h h9 => ?_, by rw [Te_oth (by decide)]; exact W.col⟩
  · rw [Te_oth (by decide)] at hb
    have q := W.bag hb
    rw [Te_oth (by decide), Te_oth (by decide), Te_oth (by decide), Te_oth (by decide), Te_5, Te_oth (by decide)]
    exact ⟨q.1, q.2.1, q.2.2.1, q.2.2.2.1, by omega⟩
  · rw [Te_oth (by decide)] at hk
    have q := W.bea hk
    rw [Te_oth (f := 6) (by decide), Te_oth (f := 7) (by decide), Te_oth (f := 8) (by decide), Te_oth (f := 10) (by decide), Te_9, Te_oth (f := 11) (by decide)]
    refine ⟨q.1, q.2.1, q.2.2.1, ?_, q.2.2.2.2⟩
    split
    · exact w.1 k hk
    · exact Or.inl rfl
  · rw [Te_oth (by decide)] at hk hm
    rw [Te_9] at h h9
    rw [Te_9] at h
    by_cases q : k < l
    · rw [if_pos q] at h h9
      by_cases q2 : m < l
      · rw [if_pos q2] at h
        exact w.2 k m hk hm h h9
      · rw [if_neg q2] at h
        exact absurd h h9
    · rw [if_neg q] at h9
      exact absurd rfl h9
theorem Te_who {b l : Nat} (h : ∀ k, k < l → e k ≠ b) (hb : b ≠ 9) : who (TeS S e l) b = 9 := who_none (fun k hk q => by
  rw [Te_9] at q
  split at q
  · rename_i z; exact h k z q
  · exact hb q.symm)
theorem Te_step (W : WF S) (w : Way e (S 11 0) (S 12 0)) {l : Nat} (hl : l < S 12 0) : TeS S e (l + 1) = if e l = 9 then TeS S e l else gvS (TeS S e l) (e l) l := by
  by_cases q : e l = 9
  · rw [if_pos q]
    funext f i
    by_cases h : f = 9
    · subst h
      rw [Te_9, Te_9]
      by_cases z : i = l
      · subst z
        rw [if_pos (by omega), if_neg (by omega), q]
      · by_cases z2 : i < l
        · rw [if_pos (by omega), if_pos z2]
        · rw [if_neg (by omega), if_neg z2]
    · unfold TeS
      rw [if_neg h, if_neg h]
  · rw [if_neg q]
    have hw : who (TeS S e l) (e l) = 9 := Te_who (fun k hk z => by
      have := w.2 k l (by omega) hl z (by omega)
      omega) q
    unfold gvS
    rw [hw, if_neg (by omega)]
    funext f i
    by_cases h5 : f = 5
    · subst h5
      rw [Te_5]
      by_cases z : i = e l
      · rw [z, up_at]
      · rw [up_ne _ (fun y => z y.2), up_ne _ (by omega), Te_5]
    · rw [up_ne _ (fun y => h5 y.1)]
      by_cases h9 : f = 9
      · subst h9
        rw [Te_9]
        by_cases z : i = l
        · rw [z, up_at, if_pos (by omega)]
        · rw [up_ne _ (fun y => z y.2), Te_9]
          by_cases z2 : i < l
          · rw [if_pos (by omega), if_pos z2]
          · rw [if_neg (by omega), if_neg z2]
      · rw [up_ne _ (fun y => h9 y.1), Te_oth ⟨h9, h5⟩, Te_oth ⟨h9, h5⟩]
theorem x0_takeB (h6 : C 0 0 ≤ 6) : ∀ r b n C', b + r = C 0 0 → C' 0 0 = C 0 0 → r < n → ∃ D, T_X0_takeAllBags_L26 o n (nI b) (Ro τ o C') = some (Ro τ o D) ∧ (∀ i, b ≤ i → i < C 0 0 → D 6 i = NN ∧ D 5 i = 0) ∧ (∀ f i, (f ≠ 6 ∧ f ≠ 5) ∨ i < b → D f i = C' f i) := by
  intro r
  induction r with
  | zero =>
    intro b n C' h e0 hn
    obtain ⟨n, rfl⟩ := fu_one hn
    refine ⟨C', ?_, fun i _ _ => by omega, fun _ _ _ => rfl⟩
    unfold T_X0_takeAllBags_L26
    rw [ro_gf, e0, if_pos (by rw [q_le (by omega) (by omega)]; omega)]
  | succ r ih =>
    intro b n C' h e0 hn
    obtain ⟨n, rfl⟩ := fu_one (by omega : 0 < n)
    obtain ⟨D, i1, i2, i3⟩ := ih (b + 1) n (up (up C' 6 b NN) 5 b 0) (by omega) (by rw [up_ne _ (by omega), up_ne _ (by omega)]; exact e0) (by omega)
    refine ⟨D, ?_, fun i h1 h2 => ?_, fun f i q => ?_⟩
    · unfold T_X0_takeAllBags_L26
      rw [ro_gf, e0, if_neg (by rw [q_le (by omega) (by omega)]; omega), q_m9, ro_sd (by omega) (by omega), c0, ro_sd (by omega) (by omega), c1, nI_add, e_vl]
      exact i1
    · by_cases z : i = b
      · rw [z, i3 6 b (Or.inr (by omega)), i3 5 b (Or.inr (by omega)), up_at, up_ne _ (by omega), up_at]
        exact ⟨rfl, rfl⟩
      · exact i2 i (by omega) h2
    · rw [i3 f i (by omega), up_ne _ (by omega), up_ne _ (by omega)]
theorem x0_takeL (h6 : C 0 0 ≤ 6) (h5 : C 7 0 ≤ 5) : ∀ r l n C', l + r = C 7 0 → C' 0 0 = C 0 0 → C' 7 0 = C 7 0 → r < n → ∃ D, T_X0_takeAllBags_L2 o n (nI l) (Ro τ o C') = some (Ro τ o D) ∧ (∀ i, i < C 0 0 → D 6 i = NN ∧ D 5 i = 0) ∧ (∀ i, l ≤ i → i < C 7 0 → D 11 i = NN) ∧ (∀ f i, (f ≠ 6 ∧ f ≠ 5 ∧ f ≠ 11) ∨ (f = 11 ∧ i < l) → D f i = C' f i) := by
  intro r
  induction r with
  | zero =>
    intro l n C' h e0 e7 hn
    obtain ⟨n, rfl⟩ := fu_one hn
    obtain ⟨D, i1, i2, i3⟩ := x0_takeB (τ := τ) (o := o) h6 (C 0 0) 0 FU C' (by omega) e0 (FU_gt (by omega))
    refine ⟨D, ?_, fun i hi => i2 i (by omega) hi, fun i h1 h2 => by omega, fun f i q => i3 f i (by omega)⟩
    unfold T_X0_takeAllBags_L2
    rw [ro_gf, e7, if_pos (by rw [q_le (by omega) (by omega)]; omega)]
    exact i1
  | succ r ih =>
    intro l n C' h e0 e7 hn
    obtain ⟨n, rfl⟩ := fu_one (by omega : 0 < n)
    obtain ⟨D, i1, i2, i3, i4⟩ := ih (l + 1) n (up C' 11 l NN) (by omega) (by rw [up_ne _ (by omega)]; exact e0) (by rw [up_ne _ (by omega)]; exact e7) (by omega)
    refine ⟨D, ?_, i2, fun i h1 h2 => ?_, fun f i q => ?_⟩
    · unfold T_X0_takeAllBags_L2
      rw [ro_gf, e7, if_neg (by rw [q_le (by omega) (by omega)]; omega), q_m9, ro_sd (by omega) (by omega), c1, nI_add, e_vl]
      exact i1
    · by_cases z : i = l
      · rw [z, i4 11 l (Or.inr ⟨rfl, by omega⟩), up_at]
      · exact i3 i (by omega) h2
    · rw [i4 f i (by omega), up_ne _ (by omega)]
theorem x0_take (W : WF S) (R : SB C S) (t : T0 C) : ∃ D, T_X0_takeAllBags o (Ro τ o C) = some (Ro τ o D) ∧ SB D (TeS S e 0) ∧ T0 D := by
  have h11 := W.nb
  have h12 := W.nl
  have r0 := R.1.1
  have r7 := R.1.2.1
  obtain ⟨D, i1, i2, i3, i4⟩ := x0_takeL (τ := τ) (o := o) (C := C) (by omega) (by omega) (C 7 0) 0 FU C (by omega) rfl rfl (FU_gt (by omega))
  refine ⟨D, i1, ⟨⟨?_, ?_, ?_, ?_⟩, fun b hb => ?_, fun l hl => ?_⟩, t.same (fun f i q => i4 f i (by omega))⟩
  · rw [i4 _ _ (by omega), Te_oth (by decide)]; exact R.1.1
  · rw [i4 _ _ (by omega), Te_oth (by decide)]; exact R.1.2.1
  · rw [i4 _ _ (by omega), Te_oth (by decide)]; exact R.1.2.2.1
  · rw [i4 _ _ (by omega), Te_oth (by decide)]; exact R.1.2.2.2
  · rw [Te_oth (by decide)] at hb
    have q := R.bag hb
    have q2 := i2 b (by omega)
    rw [i4 1 b (by omega), i4 2 b (by omega), i4 3 b (by omega), i4 4 b (by omega), q2.1, q2.2, Te_oth (by decide), Te_oth (by decide), Te_oth (by decide), Te_oth (by decide), Te_5, Te_who (fun k hk => by omega) (by omega)]
    exact ⟨q.1, q.2.1, q.2.2.1, q.2.2.2.1, rfl, rfl⟩
  · rw [Te_oth (by decide)] at hl
    have q := R.bea hl
    rw [i4 8 l (by omega), i4 9 l (by omega), i4 10 l (by omega), i4 12 l (by omega), i3 l (by omega) (by omega), Te_oth (f := 6) (by decide), Te_oth (f := 7) (by decide), Te_oth (f := 8) (by decide), Te_oth (f := 10) (by decide), Te_9]
    exact ⟨q.1, q.2.1, q.2.2.1, rfl, q.2.2.2.2⟩
theorem x1_choice {V : SS} (hV : τ.1 12 = V) {l : Nat} (h4 : V 3 0 ≤ 4) (hl : l < V 3 0) : T_X1_choiceOf (Ro τ 2 C) (nI l) = some (nI (V 0 l)) := by
  unfold T_X1_choiceOf
  rw [c0, if_neg (by rw [q_lt (by omega) (by omega)]; omega), rx_gf (by decide), hV, if_neg (by rw [q_le (by omega) (by omega)]; omega), rx_ld (by decide) (by omega) (by omega), hV]
theorem x0_hand9 (h6 : C 0 0 ≤ 6) {l : Nat} : T_X0_hand o (nI NN) (nI l) (Ro τ o C) = some (nI 0, Ro τ o C) := by
  have := x0_hasBag (τ := τ) (o := o) (C := C) (b := 9) h6 (Or.inl rfl)
  rw [kN_9, if_pos (by trivial)] at this
  unfold T_X0_hand
  rw [this]
  simp only [e_cV]
  rw [c0, if_pos (by trivial)]
theorem x2_giveL {V : SS} (W : WF S) (w : Way e (S 11 0) (S 12 0)) (hV : τ.1 12 = V) (h4 : S 12 0 ≤ 4) (v3 : V 3 0 = S 12 0) (v0 : ∀ l, l < S 12 0 → V 0 l = kN (e l)) : ∀ r l n C, l + r = S 12 0 → SB C (TeS S e l) → T0 C → r < n → ∃ D, T_X2_thinkGiven_L13 n (nI l) (Ro τ 2 C) = some (Ro τ 2 D) ∧ SB D (TeS S e (S 12 0)) ∧ T0 D := by
  have h11 := W.nb
  intro r
  induction r with
  | zero =>
    intro l n C h R t hn
    obtain ⟨n, rfl⟩ := fu_one hn
    have el : l = S 12 0 := by omega
    have e7 := R.1.2.1
    rw [Te_oth (by decide)] at e7
    refine ⟨C, ?_, by rw [← el]; exact R, t⟩
    unfold T_X2_thinkGiven_L13
    rw [ro_gf, e7, if_pos (by rw [q_le (by omega) (by omega)]; omega)]
  | succ r ih =>
    intro l n C h R t hn
    obtain ⟨n, rfl⟩ := fu_one (by omega : 0 < n)
    have e7 := R.1.2.1
    have e0 := R.1.1
    rw [Te_oth (by decide)] at e7 e0
    have st := Te_step W w (l := l) (by omega)
    have ch := x1_choice (τ := τ) (C := C) hV (l := l) (by omega) (by omega)
    rw [v0 l (by omega)] at ch
    by_cases q : e l = 9
    · rw [if_pos q] at st
      obtain ⟨D, i1, i2⟩ := ih (l + 1) n C (by omega) (by rw [st]; exact R) t (by omega)
      refine ⟨D, ?_, i2⟩
      unfold T_X2_thinkGiven_L13
      rw [ro_gf, e7, if_neg (by rw [q_le (by omega) (by omega)]; omega), ch, q]
      simp only [e_cV]
      rw [kN_9, x0_hand9 (by omega)]
      simp only [e_cI]
      rw [c1, nI_add, e_vl]
      exact i1
    · rw [if_neg q] at st
      have hb : e l < S 11 0 := by
        rcases w.1 l (by omega) with z | z
        · exact absurd z q
        · exact z
      obtain ⟨C1, j1, j2, j3⟩ := x0_hand (τ := τ) (o := 2) (W.Te w (l := l) (by omega)) R (b := e l) (l := l) (by rw [Te_oth (by decide)]; exact hb) (by rw [Te_oth (by decide)]; omega)
      obtain ⟨D, i1, i2⟩ := ih (l + 1) n C1 (by omega) (by rw [st]; exact j2) (t.same (fun f i q => j3 f i (by omega) (by omega) (by omega))) (by omega)
      refine ⟨D, ?_, i2⟩
      unfold T_X2_thinkGiven_L13
      rw [ro_gf, e7, if_neg (by rw [q_le (by omega) (by omega)]; omega), ch, kN_ne q]
      simp only [e_cV]
      rw [j1]
      simp only [e_cI]
      rw [c1, nI_add, e_vl]
      exact i1
theorem x2_given1 {V : SS} (K : TK S) (R : SB (G 1) S) (w : Way e (S 11 0) (S 12 0)) (h4 : S 12 0 ≤ 4) (v3 : V 3 0 = S 12 0) (v0 : ∀ l, l < S 12 0 → V 0 l = kN (e l)) : ∃ D, T_X2_thinkGiven (Ro (wo G 12 V, P) 2 C) = some (Ro (wo G 12 V, P) 2 D) ∧ SB D (TeS S e (S 12 0)) ∧ T0 D := by
  obtain ⟨C1, t1, t2⟩ := x2_think2 (G := wo G 12 V) (P := P) C
  rw [wo_ne _ _ (show 1 ≠ 12 by decide)] at t2
  obtain ⟨C2, u1, u2, u3⟩ := x0_take (τ := (wo G 12 V, P)) (o := 2) (e := e) K.1 (t2.sb K.1 R) t2.t0
  obtain ⟨D, w1, w2, w3⟩ := x2_giveL (τ := (wo G 12 V, P)) K.1 w (wo_at G 12 V) h4 v3 v0 (S 12 0) 0 FU C2 (by omega) u2 u3 (FU_gt (by omega))
  refine ⟨D, ?_, w2, w3⟩
  unfold T_X2_thinkGiven
  rw [t1]
  simp only [e_cV]
  rw [u1]
  simp only [e_cV]
  rw [c0]
  exact w1
theorem gvR_oth {f i : Nat} (hf : f ≠ 9 ∧ f ≠ 5) : ∀ r l X, gvR e r l X f i = X f i
  | 0, l, X => rfl
  | r + 1, l, X => by
    show gvR e r (l + 1) _ f i = _
    rw [gvR_oth hf r (l + 1)]
    split
    · rw [up_ne _ (by omega)]
    · rw [up_ne _ (by omega), up_ne _ (by omega)]
theorem gvR_9 {i : Nat} : ∀ r l X, gvR e r l X 9 i = if l ≤ i ∧ i < l + r then e i else X 9 i
  | 0, l, X => by rw [if_neg (by omega)]; rfl
  | r + 1, l, X => by
    show gvR e r (l + 1) _ 9 i = _
    rw [gvR_9 r (l + 1)]
    by_cases z : i = l
    · subst z
      rw [if_neg (show ¬ (i + 1 ≤ i ∧ i < i + 1 + r) by omega), if_pos (show i ≤ i ∧ i < i + (r + 1) by omega)]
      by_cases q : e i = 9
      · rw [if_pos q, up_at, q]
      · rw [if_neg q, up_ne _ (by omega), up_at]
    · have : (if e l = 9 then up X 9 l 9 else up (up X 9 l (e l)) 5 (e l) 0) 9 i = X 9 i := by
        split
        · rw [up_ne _ (fun y => z y.2)]
        · rw [up_ne _ (by omega), up_ne _ (fun y => z y.2)]
      rw [this]
      by_cases q : l ≤ i ∧ i < l + (r + 1)
      · rw [if_pos q, if_pos (by omega)]
      · rw [if_neg q, if_neg (by omega)]
theorem gvR_50 {i : Nat} : ∀ r l X, X 5 i = 0 → gvR e r l X 5 i = 0
  | 0, l, X, h => h
  | r + 1, l, X, h => by
    show gvR e r (l + 1) _ 5 i = _
    refine gvR_50 r (l + 1) _ ?_
    split
    · rw [up_ne _ (by omega)]; exact h
    · by_cases z : i = e l
      · rw [z, up_at]
      · rw [up_ne _ (fun y => z y.2), up_ne _ (by omega)]; exact h
theorem gvR_5g {j : Nat} (h9 : e j ≠ 9) : ∀ r l X, l ≤ j → j < l + r → gvR e r l X 5 (e j) = 0
  | 0, l, X, h1, h2 => by omega
  | r + 1, l, X, h1, h2 => by
    show gvR e r (l + 1) _ 5 (e j) = _
    by_cases z : l = j
    · subst z
      refine gvR_50 r (l + 1) _ ?_
      rw [if_neg h9, up_at]
    · exact gvR_5g h9 r (l + 1) _ (by omega) (by omega)
theorem gvR_5b {i B : Nat} : ∀ r l X, X 5 i ≤ B → gvR e r l X 5 i ≤ B
  | 0, l, X, h => h
  | r + 1, l, X, h => by
    show gvR e r (l + 1) _ 5 i ≤ _
    refine gvR_5b r (l + 1) _ ?_
    split
    · rw [up_ne _ (by omega)]; exact h
    · by_cases z : i = e l
      · rw [z, up_at]; omega
      · rw [up_ne _ (fun y => z y.2), up_ne _ (by omega)]; exact h
theorem WF.gvR (W : WF X) (w : Way e (X 11 0) (X 12 0)) : WF (Jvm.Pilot.@@N@@.gvR e (X 12 0) 0 X) := by
  refine ⟨by rw [gvR_oth (by decide)]; exact W.nb, by rw [gvR_oth (by decide)]; exact W.nl, fun b hb => ?_, fun k hk => ?_, fun k m hk hm h h9 => ?_, by rw [gvR_oth (by decide)]; exact W.col⟩
  · rw [gvR_oth (by decide)] at hb
    have q := W.bag hb
    rw [gvR_oth (by decide), gvR_oth (by decide), gvR_oth (by decide), gvR_oth (by decide), gvR_oth (by decide)]
    exact ⟨q.1, q.2.1, q.2.2.1, q.2.2.2.1, gvR_5b _ _ _ q.2.2.2.2⟩
  · rw [gvR_oth (by decide)] at hk
    have q := W.bea hk
    rw [gvR_oth (f := 6) (by decide), gvR_oth (f := 7) (by decide), gvR_oth (f := 8) (by decide), gvR_oth (f := 10) (by decide), gvR_9, gvR_oth (f := 11) (by decide), if_pos (by omega)]
    exact ⟨q.1, q.2.1, q.2.2.1, w.1 k hk, q.2.2.2.2⟩
  · rw [gvR_oth (by decide)] at hk hm
    rw [gvR_9, if_pos (by omega)] at h h9
    rw [gvR_9, if_pos (by omega)] at h
    exact w.2 k m hk hm h h9
/-- what the reference gives, held hours of bags left aside not looked at, stands as what the class gives -/
theorem str_gvR (W : WF S) (k : Eqs S X) (w : Way e (S 11 0) (S 12 0)) : Str (TeS S e (S 12 0)) (hx (fun _ => 0) (Jvm.Pilot.@@N@@.gvR e (S 12 0) 0 X)) := by
  have h11 := W.nb
  have h12 := W.nl
  have k11 : X 11 0 = S 11 0 := k 11 0 (inr (by decide) (by omega))
  have k12 : X 12 0 = S 12 0 := k 12 0 (inr (by decide) (by omega))
  have W2 : WF (Jvm.Pilot.@@N@@.gvR e (S 12 0) 0 X) := by
    have := (k.wf W).gvR (e := e) (by rw [k11, k12]; exact w)
    rw [k12] at this
    exact this
  have g : ∀ f i, f ≠ 9 ∧ f ≠ 5 → hx (fun _ => 0) (Jvm.Pilot.@@N@@.gvR e (S 12 0) 0 X) f i = X f i := fun f i hf => by rw [hx_ne hf.2, gvR_oth hf]
  refine ⟨?_, ?_, ?_, ?_, fun b hb => ?_, fun l hl => ?_⟩
  · rw [g _ _ (by decide), Te_oth (by decide)]; exact k11
  · rw [g _ _ (by decide), Te_oth (by decide)]; exact k12
  · rw [g _ _ (by decide), Te_oth (by decide)]; exact k 13 0 (inr (by decide) (by omega))
  · rw [g _ _ (by decide), Te_oth (by decide)]; exact k 14 0 (inr (by decide) (by omega))
  · rw [Te_oth (by decide)] at hb
    rw [g 1 _ (by decide), g 2 _ (by decide), g 3 _ (by decide), g 4 _ (by decide), Te_oth (by decide), Te_oth (by decide), Te_oth (by decide), Te_oth (by decide), Te_5]
    refine ⟨k 1 b (inr (by decide) (by omega)), k 2 b (inr (by decide) (by omega)), k 3 b (inr (by decide) (by omega)), k 4 b (inr (by decide) (by omega)), ?_⟩
    by_cases z : who (Jvm.Pilot.@@N@@.gvR e (S 12 0) 0 X) b = 9
    · show (if 5 = 5 ∧ who (Jvm.Pilot.@@N@@.gvR e (S 12 0) 0 X) b = 9 then 0 else _) = 0
      rw [if_pos ⟨rfl, z⟩]
    · rw [hx_had z]
      have hle := who_le W2 b
      have hw := who_lt W2 (b := b) (by omega)
      rw [gvR_oth (by decide), k12] at hw
      have h9 := hw.2
      rw [gvR_9, if_pos (by omega)] at h9
      have := gvR_5g (e := e) (j := who (Jvm.Pilot.@@N@@.gvR e (S 12 0) 0 X) b) (by omega) (S 12 0) 0 X (by omega) (by omega)
      rw [h9] at this
      exact this
  · rw [Te_oth (by decide)] at hl
    rw [g 6 _ (by decide), g 7 _ (by decide), g 8 _ (by decide), g 10 _ (by decide), Te_oth (f := 6) (by decide), Te_oth (f := 7) (by decide), Te_oth (f := 8) (by decide), Te_oth (f := 10) (by decide), hx_ne (by decide), gvR_9, Te_9, if_pos (by omega), if_pos (by omega)]
    exact ⟨k 6 l (inr (by decide) (by omega)), k 7 l (inr (by decide) (by omega)), k 8 l (inr (by decide) (by omega)), rfl, k 10 l (inr (by decide) (by omega))⟩
theorem x3_gvL {nl : Nat} (hl : nl ≤ 4) (hc : c < 20000) (w : ∀ l, l < nl → eW nl c l = 9 ∨ eW nl c l < 6) : ∀ r l n X, l + r = nl → X 12 0 = nl → r < n → T_X3_givesAll_L2 n (nI c) (nI l) (Ro τ 13 X) = some (Ro τ 13 (gvR (eW nl c) r l X)) := by
  intro r
  induction r with
  | zero =>
    intro l n X h e12 hn
    obtain ⟨n, rfl⟩ := fu_one hn
    unfold T_X3_givesAll_L2
    rw [ro_gf, e12, if_pos (by rw [q_le (by omega) (by omega)]; omega)]
    rfl
  | succ r ih =>
    intro l n X h e12 hn
    obtain ⟨n, rfl⟩ := fu_one (by omega : 0 < n)
    have hd : dg7 nl c l < 7 := Nat.mod_lt _ (by decide)
    have hw := w l (by omega)
    unfold T_X3_givesAll_L2 T_X3_givesAll_j34
    rw [ro_gf, e12, if_neg (by rw [q_le (by omega) (by omega)]; omega), x3_dig e12 (by omega) (by omega) hc]
    simp only [e_cV]
    show _ = some (Ro τ 13 (gvR (eW nl c) r (l + 1) _))
    rw [c6, i_eq (by omega) (by omega), c9, ro_sd (by omega) (by omega), ro_sd (by omega) (by omega), i_le (by omega) (by omega), c1, nI_add, e_vl, c0, i_le (by omega) (by omega), e_vl]
    unfold eW at hw ⊢
    by_cases q : dg7 nl c l = 6
    · rw [if_pos q, if_pos (show 6 ≤ dg7 nl c l by omega), if_pos q, if_pos (by trivial)]
      exact ih (l + 1) n _ (by omega) (by rw [up_ne _ (by omega)]; exact e12) (by omega)
    · rw [if_neg q] at hw
      rw [if_neg q, if_neg (show ¬ 6 ≤ dg7 nl c l by omega), if_neg q, if_neg (by omega), ro_sd (by omega) (by omega), e_vl]
      exact ih (l + 1) n _ (by omega) (by rw [up_ne _ (by omega), up_ne _ (by omega)]; exact e12) (by omega)
theorem x3_gvA {nl : Nat} (hl : nl ≤ 4) (hc : c < 20000) (w : ∀ l, l < nl → eW nl c l = 9 ∨ eW nl c l < 6) (h12 : X 12 0 = nl) : T_X3_givesAll (nI c) (Ro τ 13 X) = some (Ro τ 13 (gvR (eW nl c) nl 0 X)) := by
  unfold T_X3_givesAll
  rw [c0]
  exact x3_gvL hl hc w nl 0 FU X (by omega) h12 (FU_gt (by omega))
end Giv
