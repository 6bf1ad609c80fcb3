/-! arm in arm -/
theorem sub_int {a b : Nat} (ha : a < 1000) (hb : b < 1000) : (nI a - nI b).toInt = (a : Int) - (b : Int) := by
  rw [Int32.toInt_sub, nI_toInt (by omega), nI_toInt (by omega)]
  exact Int.bmod_eq_of_le (by omega) (by omega)
def ldr (S : SS) (a b : Nat) : Nat := if led S a then (if led S b ∧ pull S (S 9 a) + S 6 b < pull S (S 9 b) + S 6 a then b else a) else if led S b then b else 9
def armP (S : SS) (a L : Nat) : Nat := if L = 9 then tw (S 8 a) (S 7 a) else if S 1 (S 9 L) = 5 then tw (tw (S 8 a) (goal S (S 9 L) (S 7 L))) (goal S (S 9 L) (S 7 L)) else tw (S 8 a) (goal S (S 9 L) (S 7 L))
/-- an hour of two arm in arm -/
def armS (S : SS) (a b : Nat) : SS := up (up (up S 13 0 (S 13 0 + 1)) 8 a (armP (up S 13 0 (S 13 0 + 1)) a (ldr (up S 13 0 (S 13 0 + 1)) a b))) 8 b (armP (up S 13 0 (S 13 0 + 1)) a (ldr (up S 13 0 (S 13 0 + 1)) a b))
section Arm
variable {G : GG} {P : Nat → Nat} {C A S F X Y Z D S0 : SS} {τ : TT} {o : Nat}
theorem ldr_cases {a b : Nat} (W : WF S) : ldr S a b = 9 ∧ ¬ led S a ∧ ¬ led S b ∨ ldr S a b = a ∧ led S a ∨ ldr S a b = b ∧ led S b := by
  unfold ldr
  by_cases h1 : led S a
  · rw [if_pos h1]
    by_cases h2 : led S b ∧ pull S (S 9 a) + S 6 b < pull S (S 9 b) + S 6 a
    · rw [if_pos h2]; exact Or.inr (Or.inr ⟨rfl, h2.1⟩)
    · rw [if_neg h2]; exact Or.inr (Or.inl ⟨rfl, h1⟩)
  · rw [if_neg h1]
    by_cases h2 : led S b
    · rw [if_pos h2]; exact Or.inr (Or.inr ⟨rfl, h2⟩)
    · rw [if_neg h2]; exact Or.inl ⟨rfl, h1, h2⟩
theorem ldr_lt {a b : Nat} (W : WF S) (ha : a < S 12 0) (hb : b < S 12 0) (h : ldr S a b ≠ 9) : ldr S a b < S 12 0 ∧ led S (ldr S a b) := by
  rcases ldr_cases (a := a) (b := b) W with ⟨q, -⟩ | ⟨q, k⟩ | ⟨q, k⟩
  · exact absurd q h
  · rw [q]; exact ⟨ha, k⟩
  · rw [q]; exact ⟨hb, k⟩
theorem armP_le {a L : Nat} (W : WF S) (ha : a < S 12 0) (hL : L ≠ 9 → L < S 12 0 ∧ led S L) : armP S a L ≤ 9 := by
  have wa := W.bea ha
  unfold armP
  by_cases e : L = 9
  · rw [if_pos e]; exact tw_le (by omega)
  · rw [if_neg e]
    have hl := hL e
    split
    · exact tw_le (tw_le (by omega))
    · exact tw_le (by omega)
theorem arm_keeps {a b f i : Nat} (hf : f ≠ 8 ∧ f ≠ 13) : armS S a b f i = S f i := by
  unfold armS
  rw [up_ne _ (by omega), up_ne _ (by omega), up_ne _ (by omega)]
theorem arm_13 {a b : Nat} : armS S a b 13 0 = S 13 0 + 1 := by
  unfold armS
  rw [up_ne _ (by omega), up_ne _ (by omega), up_at]
theorem WF.arm (W : WF S) {a b : Nat} (ha : a < S 12 0) (hb : b < S 12 0) : WF (armS S a b) := by
  have W1 : WF (up S 13 0 (S 13 0 + 1)) := W.up13
  have e12 : up S 13 0 (S 13 0 + 1) 12 0 = S 12 0 := up_ne _ (by omega)
  have hp := armP_le (a := a) (L := ldr (up S 13 0 (S 13 0 + 1)) a b) W1 (by omega) (fun h => ldr_lt W1 (by omega) (by omega) h)
  exact (W1.up8 hp).up8 hp
theorem x0_above (W : WF S) (R : SC D C S) {l : Nat} (hl : l < S 12 0) (h9 : S 9 l < 9) : T_X0_aboveWill o (Ro τ o C) (nI l) = some (nI (pull S (S 9 l)) - nI (S 6 l)) := by
  have h12 := W.nl
  have h11 := W.nb
  have r := R.bea hl
  have w := W.bea hl
  unfold T_X0_aboveWill
  rw [ro_ld (by omega) (by omega), r.2.2.2.1, kN_ne (by omega), x0_pull W R (by omega)]
  simp only [e_cV]
  rw [ro_ld (by omega) (by omega), r.1]
theorem x0_leader (W : WF S) (R : SC D C S) {a b : Nat} (ha : a < S 12 0) (hb : b < S 12 0) : T_X0_leaderOf o (Ro τ o C) (nI a) (nI b) = some (nI (kN (ldr S a b))) := by
  have h12 := W.nl
  have h11 := W.nb
  have wa := W.bea ha
  have wb := W.bea hb
  unfold T_X0_leaderOf ldr
  rw [x0_isLed W R ha, x0_isLed W R hb]
  simp only [e_cV]
  by_cases h1 : led S a
  · have pa := pull_le W (b := S 9 a) (by have := h1.1; omega)
    rw [if_pos h1, if_pos h1, c0, if_neg (by decide)]
    by_cases h2 : led S b
    · have pb := pull_le W (b := S 9 b) (by have := h2.1; omega)
      rw [if_pos h2, if_neg (by decide), x0_above W R hb h2.1, x0_above W R ha h1.1]
      simp only [e_cV]
      have cmp : nI (pull S (S 9 b)) - nI (S 6 b) ≤ nI (pull S (S 9 a)) - nI (S 6 a) ↔ ¬ (pull S (S 9 a) + S 6 b < pull S (S 9 b) + S 6 a) := by
        rw [Int32.le_iff_toInt_le, sub_int (by omega) (by omega), sub_int (by omega) (by omega)]
        omega
      by_cases h3 : pull S (S 9 a) + S 6 b < pull S (S 9 b) + S 6 a
      · rw [if_neg (fun q => cmp.mp q h3), if_pos ⟨h2, h3⟩, kN_ne (by omega)]
      · rw [if_pos (cmp.mpr h3), if_neg (fun q => h3 q.2), kN_ne (by omega)]
    · rw [if_neg h2, if_pos (by trivial), if_neg (fun q => h2 q.1), kN_ne (by omega)]
  · rw [if_neg h1, if_neg h1, c0, if_pos (by trivial)]
    by_cases h2 : led S b
    · rw [if_pos h2, if_pos h2, if_neg (by decide), kN_ne (by omega)]
    · rw [if_neg h2, if_neg h2, if_pos (by trivial), c9, m9]; rfl
theorem x0_arm (W : WF S) (hh : S 13 0 < 900000) (R : SC D C S) {a b : Nat} (ha : a < S 12 0) (hb : b < S 12 0) : ∃ C', T_X0_goArmInArm o (nI a) (nI b) (Ro τ o C) = some (Ro τ o C') ∧ SC D C' (armS S a b) := by
  have h12 := W.nl
  have h11 := W.nb
  have W1 : WF (up S 13 0 (S 13 0 + 1)) := W.up13
  have R1 : SC D (up C 14 0 (C 14 0 + 1)) (up S 13 0 (S 13 0 + 1)) := by
    have := R.upt (f := 14) (g := 13) (i := 0) (x := C 14 0 + 1) (y := C 14 0 + 1) (by omega)
    rw [R.c14] at this ⊢
    exact this
  have e12 : up S 13 0 (S 13 0 + 1) 12 0 = S 12 0 := up_ne _ (by omega)
  have e11 : up S 13 0 (S 13 0 + 1) 11 0 = S 11 0 := up_ne _ (by omega)
  have e13 : up S 13 0 (S 13 0 + 1) 13 0 = S 13 0 + 1 := up_at _ _ _ _
  have hL := ldr_lt (a := a) (b := b) W1 (by omega) (by omega)
  have ld := x0_leader (τ := τ) (o := o) W1 R1 (a := a) (b := b) (by omega) (by omega)
  have r := R1.bea (l := a) (by omega)
  have w := W1.bea (l := a) (by omega)
  refine ⟨up (up (up C 14 0 (C 14 0 + 1)) 10 a (armP (up S 13 0 (S 13 0 + 1)) a (ldr (up S 13 0 (S 13 0 + 1)) a b))) 10 b (armP (up S 13 0 (S 13 0 + 1)) a (ldr (up S 13 0 (S 13 0 + 1)) a b)), ?_, ?_⟩
  · have j : ∀ p, T_X0_goArmInArm_j70 o (nI a) (nI b) (nI p) (Ro τ o (up C 14 0 (C 14 0 + 1))) = some (Ro τ o (up (up (up C 14 0 (C 14 0 + 1)) 10 a p) 10 b p)) := by
      intro p
      unfold T_X0_goArmInArm_j70
      rw [ro_sd (by omega) (by omega), ro_sd (by omega) (by omega)]
    unfold T_X0_goArmInArm
    rw [ro_gf, c1, nI_add, ro_pf, ld]
    simp only [e_cV]
    unfold armP
    by_cases e : ldr (up S 13 0 (S 13 0 + 1)) a b = 9
    · rw [if_pos e, e, c0, if_neg (by rw [kN_9]; decide), ro_ld (by omega) (by omega), r.2.2.1, ro_ld (by omega) (by omega), r.2.1, x0_tow1 (by omega) (by omega)]
      simp only [e_cV]
      exact j _
    · obtain ⟨q1, q2⟩ := hL e
      have rl := R1.bea q1
      have wl := W1.bea q1
      have hb9 : up S 13 0 (S 13 0 + 1) 9 (ldr (up S 13 0 (S 13 0 + 1)) a b) < up S 13 0 (S 13 0 + 1) 11 0 := by have := q2.1; omega
      have gl := goal_le W1 (b := up S 13 0 (S 13 0 + 1) 9 (ldr (up S 13 0 (S 13 0 + 1)) a b)) (w := up S 13 0 (S 13 0 + 1) 7 (ldr (up S 13 0 (S 13 0 + 1)) a b)) hb9 wl.2.1
      rw [if_neg e, kN_ne e, c0, if_pos (by rw [q_le (by omega) (by omega)]; omega), ro_ld (by omega) (by omega), r.2.2.1, ro_ld (by omega) (by omega), rl.2.2.2.1, kN_ne (by omega), x0_goal W1 (by omega) R1 hb9 q1]
      simp only [e_cV]
      rw [ro_ld (by omega) (by omega), rl.2.2.2.1, kN_ne (by omega), x0_pace W1 R1 hb9]
      simp only [e_cV]
      by_cases e5 : up S 13 0 (S 13 0 + 1) 1 (up S 13 0 (S 13 0 + 1) 9 (ldr (up S 13 0 (S 13 0 + 1)) a b)) = 5
      · rw [if_pos e5, if_pos e5, x0_tow2 (by omega) gl]
        simp only [e_cV]
        exact j _
      · rw [if_neg e5, if_neg e5, x0_tow1 (by omega) gl]
        simp only [e_cV]
        exact j _
  · unfold armS
    exact (R1.upd (Or.inl ⟨rfl, rfl⟩)).upd (Or.inl ⟨rfl, rfl⟩)
theorem x3_above (W : WF S) {l : Nat} (hl : l < S 12 0) : T_X3_above (Ro τ 13 S) (nI l) = some (if S 9 l = 9 then nI 0 else nI (pull S (S 9 l)) - nI (S 6 l)) := by
  have h12 := W.nl
  have h11 := W.nb
  have w := W.bea hl
  unfold T_X3_above
  rw [ro_ld (by omega) (by omega), c9, i_eq (by omega) (by omega)]
  by_cases e : S 9 l = 9
  · rw [if_pos e, if_pos e, c0]
  · rw [if_neg e, if_neg e, ro_ld (by omega) (by omega), x3_pull W (by omega)]
    simp only [e_cV]
    rw [ro_ld (by omega) (by omega)]
theorem ab_int (W : WF S) {l : Nat} (hl : l < S 12 0) : ((if S 9 l = 9 then nI 0 else nI (pull S (S 9 l)) - nI (S 6 l) : Int32)).toInt = if S 9 l = 9 then 0 else (pull S (S 9 l) : Int) - (S 6 l : Int) := by
  have h11 := W.nb
  have w := W.bea hl
  by_cases e : S 9 l = 9
  · rw [if_pos e, if_pos e]; rfl
  · have p := pull_le W (b := S 9 l) (by omega)
    rw [if_neg e, if_neg e, sub_int (by omega) (by omega)]
theorem x3_armL {a b g : Nat} (ha : a < 5) (hb : b < 5) (hg : g ≤ 9) : ∀ k S n, S 8 a ≤ 9 → k ≤ 2 → k < n → T_X3_goesArm_L103 n (nI a) (nI b) (nI g) (nI k) (Ro τ 13 S) = some (Ro τ 13 (up (up S 8 a (if k = 0 then S 8 a else if k = 1 then tw (S 8 a) g else tw (tw (S 8 a) g) g)) 8 b (if k = 0 then S 8 a else if k = 1 then tw (S 8 a) g else tw (tw (S 8 a) g) g))) := by
  have base : ∀ S n, T_X3_goesArm_L103 (n + 1) (nI a) (nI b) (nI g) (nI 0) (Ro τ 13 S) = some (Ro τ 13 (up S 8 b (S 8 a))) := by
    intro S n
    unfold T_X3_goesArm_L103
    rw [c0, if_pos (by decide), ro_ld (by omega) (by omega), ro_sd (by omega) (by omega)]
  have step : ∀ S n k, S 8 a ≤ 9 → k < 5 → T_X3_goesArm_L103 (n + 1) (nI a) (nI b) (nI g) (nI (k + 1)) (Ro τ 13 S) = T_X3_goesArm_L103 n (nI a) (nI b) (nI g) (nI k) (Ro τ 13 (up S 8 a (tw (S 8 a) g))) := by
    intro S n k h1 hk
    conv => lhs; unfold T_X3_goesArm_L103
    rw [c0, if_neg (by rw [q_le (by omega) (by omega)]; omega), ro_ld (by omega) (by omega), x3_towards h1 hg]
    simp only [e_cV]
    rw [ro_sd (by omega) (by omega), e_vl]
    have e : nI (k + 1) + -1 = nI k := q_dec k
    rw [e]
  intro k S n h8 hk hn
  have hk' : k = 0 ∨ k = 1 ∨ k = 2 := by omega
  rcases hk' with rfl | rfl | rfl
  · obtain ⟨n, rfl⟩ := fu_one hn
    rw [base, if_pos rfl, up_self]
  · obtain ⟨n, rfl⟩ := fu_one (by omega : 0 < n)
    obtain ⟨n, rfl⟩ := fu_one (by omega : 0 < n)
    rw [step S _ 0 h8 (by decide), base, up_at, if_neg (by decide), if_pos rfl]
  · obtain ⟨n, rfl⟩ := fu_one (by omega : 0 < n)
    obtain ⟨n, rfl⟩ := fu_one (by omega : 0 < n)
    obtain ⟨n, rfl⟩ := fu_one (by omega : 0 < n)
    rw [step S _ 1 h8 (by decide), step _ _ 0 (by rw [up_at]; exact tw_le h8) (by decide), base, up_at, up_up, up_at, if_neg (by decide), if_neg (by decide)]
theorem x3_arm (W : WF S) (hh : S 13 0 < 900000) {a b : Nat} (ha : a < S 12 0) (hb : b < S 12 0) : T_X3_goesArm (nI a) (nI b) (Ro τ 13 S) = some (Ro τ 13 (armS S a b)) := by
  have h12 := W.nl
  have h11 := W.nb
  have W1 : WF (up S 13 0 (S 13 0 + 1)) := W.up13
  have e12 : up S 13 0 (S 13 0 + 1) 12 0 = S 12 0 := up_ne _ (by omega)
  have e11 : up S 13 0 (S 13 0 + 1) 11 0 = S 11 0 := up_ne _ (by omega)
  have e13 : up S 13 0 (S 13 0 + 1) 13 0 = S 13 0 + 1 := up_at _ _ _ _
  have xa := x3_above (τ := τ) W1 (l := a) (by omega)
  have xb := x3_above (τ := τ) W1 (l := b) (by omega)
  have ia := ab_int W1 (l := a) (by omega)
  have ib := ab_int W1 (l := b) (by omega)
  have wa := W1.bea (l := a) (by omega)
  have wb := W1.bea (l := b) (by omega)
  unfold T_X3_goesArm
  rw [ro_gf, c1, nI_add, ro_pf, xb]
  simp only [e_cV]
  rw [xa]
  simp only [e_cV]
  -- the two ends
  have fin0 : ∀ l, l < S 12 0 → (if up S 13 0 (S 13 0 + 1) 9 l = 9 then nI 0 else nI (pull (up S 13 0 (S 13 0 + 1)) (up S 13 0 (S 13 0 + 1) 9 l)) - nI (up S 13 0 (S 13 0 + 1) 6 l) : Int32) ≤ nI 0 → ldr (up S 13 0 (S 13 0 + 1)) a b = 9 → T_X3_goesArm_j28 (nI a) (nI b) (nI l) (Ro τ 13 (up S 13 0 (S 13 0 + 1))) = some (Ro τ 13 (armS S a b)) := by
    intro l hl h1 h2
    unfold T_X3_goesArm_j28 T_X3_goesArm_j42 T_X3_goesArm_j74
    rw [x3_above W1 (by omega)]
    simp only [e_cV]
    rw [c0, if_pos h1, if_pos (by trivial), ro_ld (by omega) (by omega), if_pos (by trivial), c1, x3_armL (by omega) (by omega) (by omega) 1 _ FU (by omega) (by decide) (FU_gt (by decide))]
    unfold armS armP
    rw [if_neg (by decide), if_pos rfl, if_pos h2]
  have fin1 : ∀ l, l < S 12 0 → led (up S 13 0 (S 13 0 + 1)) l → ldr (up S 13 0 (S 13 0 + 1)) a b = l → T_X3_goesArm_j28 (nI a) (nI b) (nI l) (Ro τ 13 (up S 13 0 (S 13 0 + 1))) = some (Ro τ 13 (armS S a b)) := by
    intro l hl h1 h2
    have wl := W1.bea (l := l) (by omega)
    have il := ab_int W1 (l := l) (by omega)
    have hb9 : up S 13 0 (S 13 0 + 1) 9 l < up S 13 0 (S 13 0 + 1) 11 0 := by have := h1.1; omega
    have gl := goal_le W1 hb9 wl.2.1
    have h3 : ¬ (if up S 13 0 (S 13 0 + 1) 9 l = 9 then nI 0 else nI (pull (up S 13 0 (S 13 0 + 1)) (up S 13 0 (S 13 0 + 1) 9 l)) - nI (up S 13 0 (S 13 0 + 1) 6 l) : Int32) ≤ nI 0 := by
      rw [Int32.le_iff_toInt_le, il, if_neg (by omega), nI_toInt (by omega)]
      have := h1.2
      omega
    unfold T_X3_goesArm_j28 T_X3_goesArm_j42 T_X3_goesArm_j74
    rw [x3_above W1 (by omega)]
    simp only [e_cV]
    rw [c0, if_neg h3, c1, if_neg (by decide), ro_ld (by omega) (by omega), ro_ld (by omega) (by omega), x3_goal W1 (by omega) hb9 wl.2.1]
    simp only [e_cV]
    rw [if_neg (by decide), ro_ld (by omega) (by omega), ro_ld (by omega) (by omega), c5, i_eq (by have := (W1.bag hb9).1; omega) (by omega)]
    unfold armS armP
    rw [h2, if_neg (show ¬ l = 9 by omega)]
    by_cases e5 : up S 13 0 (S 13 0 + 1) 1 (up S 13 0 (S 13 0 + 1) 9 l) = 5
    · rw [if_pos e5, if_pos e5, c2, x3_armL (by omega) (by omega) gl 2 _ FU (by omega) (by decide) (FU_gt (by decide)), if_neg (by decide), if_neg (by decide)]
    · rw [if_neg e5, if_neg e5, x3_armL (by omega) (by omega) gl 1 _ FU (by omega) (by decide) (FU_gt (by decide)), if_neg (by decide), if_pos rfl]
  have la : led (up S 13 0 (S 13 0 + 1)) a ↔ 0 < (if up S 13 0 (S 13 0 + 1) 9 a = 9 then 0 else (pull (up S 13 0 (S 13 0 + 1)) (up S 13 0 (S 13 0 + 1) 9 a) : Int) - (up S 13 0 (S 13 0 + 1) 6 a : Int)) := by
    by_cases e : up S 13 0 (S 13 0 + 1) 9 a = 9
    · rw [if_pos e]; exact ⟨fun q => by have := q.1; omega, fun q => by omega⟩
    · rw [if_neg e]; exact ⟨fun q => by have := q.2; omega, fun q => ⟨by omega, by omega⟩⟩
  have lb : led (up S 13 0 (S 13 0 + 1)) b ↔ 0 < (if up S 13 0 (S 13 0 + 1) 9 b = 9 then 0 else (pull (up S 13 0 (S 13 0 + 1)) (up S 13 0 (S 13 0 + 1) 9 b) : Int) - (up S 13 0 (S 13 0 + 1) 6 b : Int)) := by
    by_cases e : up S 13 0 (S 13 0 + 1) 9 b = 9
    · rw [if_pos e]; exact ⟨fun q => by have := q.1; omega, fun q => by omega⟩
    · rw [if_neg e]; exact ⟨fun q => by have := q.2; omega, fun q => ⟨by omega, by omega⟩⟩
  by_cases cmp : (if up S 13 0 (S 13 0 + 1) 9 b = 9 then nI 0 else nI (pull (up S 13 0 (S 13 0 + 1)) (up S 13 0 (S 13 0 + 1) 9 b)) - nI (up S 13 0 (S 13 0 + 1) 6 b) : Int32) ≤ (if up S 13 0 (S 13 0 + 1) 9 a = 9 then nI 0 else nI (pull (up S 13 0 (S 13 0 + 1)) (up S 13 0 (S 13 0 + 1) 9 a)) - nI (up S 13 0 (S 13 0 + 1) 6 a))
  · rw [if_pos cmp]
    rw [Int32.le_iff_toInt_le, ia, ib] at cmp
    by_cases h1 : led (up S 13 0 (S 13 0 + 1)) a
    · refine fin1 a ha h1 ?_
      unfold ldr
      rw [if_pos h1, if_neg]
      rintro ⟨h2, h3⟩
      have q1 := h1.1
      have q2 := h2.1
      rw [if_neg (by omega), if_neg (by omega)] at cmp
      omega
    · have h2 : ¬ led (up S 13 0 (S 13 0 + 1)) b := fun q => h1 (la.mpr (by have := lb.mp q; omega))
      refine fin0 a ha ?_ (by unfold ldr; rw [if_neg h1, if_neg h2])
      rw [Int32.le_iff_toInt_le, ia, nI_toInt (by omega)]
      have := fun q => h1 (la.mpr q)
      omega
  · rw [if_neg cmp]
    rw [Int32.le_iff_toInt_le, ia, ib] at cmp
    by_cases h2 : led (up S 13 0 (S 13 0 + 1)) b
    · refine fin1 b hb h2 ?_
      unfold ldr
      by_cases h1 : led (up S 13 0 (S 13 0 + 1)) a
      · rw [if_pos h1, if_pos]
        have q1 := h1.1
        have q2 := h2.1
        rw [if_neg (by omega), if_neg (by omega)] at cmp
        exact ⟨h2, by omega⟩
      · rw [if_neg h1, if_pos h2]
    · have h1 : ¬ led (up S 13 0 (S 13 0 + 1)) a := fun q => by
        have a1 := la.mp q
        have a2 := fun z => h2 (lb.mpr z)
        omega
      refine fin0 b hb ?_ (by unfold ldr; rw [if_neg h1, if_neg h2])
      rw [Int32.le_iff_toInt_le, ib, nI_toInt (by omega)]
      have := fun q => h2 (lb.mpr q)
      omega
theorem arm_loop {a b m : Nat} (hm : m ≤ 60) : ∀ r k X C n, SC D C X → WF X → OS 180 S0 X → a < X 12 0 ∧ b < X 12 0 → X 13 0 + r ≤ 5000 → k + r = m → r < n → ∃ C' F res, T_X2_arm_L58 n (nI a) (nI b) (nI m) (nI k) (Ro (G, P) 2 C) = some (res, Ro (G, P) 2 C') ∧ (∀ τ, T_X3_arm_L50 n (nI a) (nI b) (nI m) (nI k) (Ro τ 13 X) = some (res, Ro τ 13 (gtS 2 F))) ∧ OS 180 S0 F := by
  intro r
  induction r with
  | zero =>
    intro k X C n R W hO hx hh h hn
    obtain ⟨n, rfl⟩ := fu_one hn
    have h12 := W.nl
    refine ⟨C, X, nI (X 8 a), ?_, fun τ => ?_, hO⟩
    · unfold T_X2_arm_L58
      rw [if_pos (by rw [q_le (by omega) (by omega)]; omega), ro_ld (by omega) (by omega), (R.bea hx.1).2.2.1]
    · unfold T_X3_arm_L50
      rw [if_pos (by rw [q_le (by omega) (by omega)]; omega), ro_ld (by omega) (by omega), x3_forgets]
      rfl
  | succ r ih =>
    intro k X C n R W hO hx hh h hn
    obtain ⟨n, rfl⟩ := fu_one (by omega : 0 < n)
    have h12 := W.nl
    obtain ⟨C1, g1, g2⟩ := x0_arm (τ := (G, P)) (o := 2) W (by omega) R hx.1 hx.2
    have g3 := fun τ => x3_arm (τ := τ) W (by omega) hx.1 hx.2
    obtain ⟨C', F, res, i1, i2, i3⟩ := ih (k + 1) (armS X a b) C1 n g2 (W.arm hx.1 hx.2) (hO.any (fun g j q => arm_keeps (by unfold NS at q; omega))) (by rw [arm_keeps (by decide)]; exact hx) (by rw [arm_13]; omega) (by omega) (by omega)
    refine ⟨C', F, res, ?_, fun τ => ?_, i3⟩
    · unfold T_X2_arm_L58
      rw [if_neg (by rw [q_le (by omega) (by omega)]; omega), g1]
      simp only [e_cV]
      rw [c1, nI_add, e_vl]
      exact i1
    · unfold T_X3_arm_L50
      rw [if_neg (by rw [q_le (by omega) (by omega)]; omega), g3]
      simp only [e_cV]
      rw [c1, nI_add, e_vl]
      exact i2 τ
theorem ok_arm (J : Inv G P) (a0 a1 a2 : Int32) : OKm G P (T_X2_arm a0 a1 a2) (T_X3_arm a0 a1 a2) := by
  have K := J.tk
  have h12 := K.1.nl
  rcases chk_two J a0 a1 with ⟨x, y, hx, hy, hxy, rfl, rfl, e1, e2⟩ | ⟨e1, e2⟩
  · rcases chk_hours a2 with ⟨n, hn, rfl, e5, e6⟩ | ⟨k, hk, e5, e6⟩
    · obtain ⟨C1, t1, t2⟩ := x2_think2 (G := G) (P := P) (G 2)
      have K2 := K.keep (w := 2)
      have e12 : kpS 2 (G 13) 12 0 = G 13 12 0 := kpS_oth (by decide)
      have h13 := K2.2.1
      have R0 := Eqs.keep (w := 2) |>.sb K.1 (t2.sb K.1 J.sb)
      have e8 : C1 10 x = kpS 2 (G 13) 8 x := (R0.bea (l := x) (by omega)).2.2.1
      have wx := K2.1.bea (l := x) (by omega)
      have R1 : SB (up C1 10 y (kpS 2 (G 13) 8 x)) (up (kpS 2 (G 13)) 8 y (kpS 2 (G 13) 8 x)) := R0.upg (by unfold PW; omega)
      have T1 := t2.t0.up (f := 10) (i := y) (x := kpS 2 (G 13) 8 x) (by decide)
      obtain ⟨C', F, res, i1, i2, i3⟩ := arm_loop (G := G) (P := P) (S0 := kpS 2 (G 13)) (a := x) (b := y) hn n 0 (up (kpS 2 (G 13)) 8 y (kpS 2 (G 13) 8 x)) (up C1 10 y (kpS 2 (G 13) 8 x)) FU (T1.sc R1) (K2.1.up8 wx.2.2.1) ((OS.keep K.2.2).any (fun g j q => up_ne _ (by unfold NS at q; omega))) (by rw [up_ne _ (by omega)]; omega) (by rw [up_ne _ (by omega)]; omega) (by omega) (FU_gt (by omega))
      refine ok_q2 (r := res) (C := C') J ?_ (fun τ => ⟨_, ?_, (KR.think K.2.2 i3).mono (by decide)⟩)
      · unfold T_X2_arm
        simp only [e1, e5, t1, e_cV, d0, eq00, eq10, if_true, if_false]
        rw [ro_ld (by omega) (by omega), e8, ro_sd (by omega) (by omega)]
        exact i1
      · unfold T_X3_arm T_X3_arm_j17
        simp only [e2, e6, x3_thinks, e_cV, d0, eq00, eq10, if_true, if_false]
        rw [ro_ld (by omega) (by omega), ro_sd (by omega) (by omega)]
        exact i2 τ
    · refine ok_ref k J (by omega) ?_ (fun τ => ?_)
      · unfold T_X2_arm; simp (disch := omega) only [e1, e5, (neg_ok k (by omega) (by omega)).2.1, cI_id, Nat.reduceEqDiff, Nat.reduceLeDiff, reduceIte, eq_self, ng1, ng2, ng3, ng4, ng6, rx_gf, rx_ld, rx_pf, rx_sd, m9, NN_lt, lt_NN, NN_le, le_NN, if_true, if_false, n_mod, q_dec, ro_gf, ro_ld, ro_sd, ro_pf, e_vl, e_cV, e_cI, nI_add, q_mul, q_sub, q_rem, q_div, q_eq, q_lt, q_le, c0, c1, c2, c3, c4, c5, c6, c7, c8, c9, c10, c99]
      · unfold T_X3_arm T_X3_arm_j17; simp (disch := omega) only [e2, e6, (neg_ok k (by omega) (by omega)).2.1, cI_id, Nat.reduceEqDiff, Nat.reduceLeDiff, reduceIte, eq_self, ng1, ng2, ng3, ng4, ng6, rx_gf, rx_ld, rx_pf, rx_sd, m9, NN_lt, lt_NN, NN_le, le_NN, if_true, if_false, n_mod, q_dec, ro_gf, ro_ld, ro_sd, ro_pf, e_vl, e_cV, e_cI, nI_add, q_mul, q_sub, q_rem, q_div, q_eq, q_lt, q_le, c0, c1, c2, c3, c4, c5, c6, c7, c8, c9, c10, c99]
  · refine ok_ref 1 J (by decide) ?_ (fun τ => ?_)
    · unfold T_X2_arm; simp (disch := omega) only [e1, cI_id, Nat.reduceEqDiff, Nat.reduceLeDiff, reduceIte, eq_self, ng1, ng2, ng3, ng4, ng6, rx_gf, rx_ld, rx_pf, rx_sd, m9, NN_lt, lt_NN, NN_le, le_NN, if_true, if_false, n_mod, q_dec, ro_gf, ro_ld, ro_sd, ro_pf, e_vl, e_cV, e_cI, nI_add, q_mul, q_sub, q_rem, q_div, q_eq, q_lt, q_le, c0, c1, c2, c3, c4, c5, c6, c7, c8, c9, c10, c99]
    · unfold T_X3_arm T_X3_arm_j17; simp (disch := omega) only [e2, (neg_ok 1 (by omega) (by omega)).2.1, cI_id, Nat.reduceEqDiff, Nat.reduceLeDiff, reduceIte, eq_self, ng1, ng2, ng3, ng4, ng6, rx_gf, rx_ld, rx_pf, rx_sd, m9, NN_lt, lt_NN, NN_le, le_NN, if_true, if_false, n_mod, q_dec, ro_gf, ro_ld, ro_sd, ro_pf, e_vl, e_cV, e_cI, nI_add, q_mul, q_sub, q_rem, q_div, q_eq, q_lt, q_le, c0, c1, c2, c3, c4, c5, c6, c7, c8, c9, c10, c99]
end Arm
