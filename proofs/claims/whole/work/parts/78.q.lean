/-! a statement carried out, on the mind and in place -/
def MD (C Z : SS) : Prop := SB C Z ∧ C 18 0 = kN 9 ∧ TK Z
def CYo (x : Nat) (C' Z Z' : SS) : Prop := (x = 0 ∨ (x = 1 ∧ MD C' Z')) ∧ OS 180 Z Z'
theorem Str.run {X Y : SS} : ∀ r X Y, Str X Y → WF X → WF Y → X 13 0 + r < 900000 → Str (runS X r) (runS Y r)
  | 0, X, Y, h, _, _, _ => h
  | r + 1, X, Y, h, WX, WY, hh => by
    show Str (runS (hourS X 9) r) (runS (hourS Y 9) r)
    exact Str.run (X := X) (Y := Y) r (hourS X 9) (hourS Y 9) (h.hour WX WY (by omega)) (WX.hour 9) (WY.hour 9) (by rw [hourS_13]; omega)
section Cy
variable {τ : TT} {A C Z : SS} {t : Nat → Nat} {N d1 d2 d3 : Nat}
theorem MD.os (M : MD C Z) : OS 180 Z Z := OS.refl M.2.2.2.2
theorem hasB (h6 : C 0 0 ≤ 6) {o d : Nat} (hd : d ≤ 9) : T_X0_hasBag o (Ro τ o C) (nI d) = some (nI (if d < C 0 0 then 1 else 0)) := by
  unfold T_X0_hasBag
  rw [c0, if_neg (by rw [q_lt (by omega) (by omega)]; omega), ro_gf, i_le (by omega) (by omega)]
  by_cases q : C 0 0 ≤ d
  · rw [if_pos q, if_neg (by omega)]
  · rw [if_neg q, if_pos (by omega), c1]
theorem hasL (h5 : C 7 0 ≤ 5) {o d : Nat} (hd : d ≤ 9) : T_X0_hasBearer o (Ro τ o C) (nI d) = some (nI (if d < C 7 0 then 1 else 0)) := by
  unfold T_X0_hasBearer
  rw [c0, if_neg (by rw [q_lt (by omega) (by omega)]; omega), ro_gf, i_le (by omega) (by omega)]
  by_cases q : C 7 0 ≤ d
  · rw [if_pos q, if_neg (by omega)]
  · rw [if_neg q, if_pos (by omega), c1]
theorem isB (h6 : Z 11 0 ≤ 6) {d : Nat} (hd : d ≤ 9) : T_X3_isBag (Ro τ 13 Z) (nI d) = some (nI (if d < Z 11 0 then 1 else 0)) := by
  unfold T_X3_isBag
  rw [c0, if_neg (by rw [q_lt (by omega) (by omega)]; omega), ro_gf, i_le (by omega) (by omega)]
  by_cases q : Z 11 0 ≤ d
  · rw [if_pos q, if_neg (by omega)]
  · rw [if_neg q, if_pos (by omega), c1]
theorem isL (h5 : Z 12 0 ≤ 5) {d : Nat} (hd : d ≤ 9) : T_X3_isBearer (Ro τ 13 Z) (nI d) = some (nI (if d < Z 12 0 then 1 else 0)) := by
  unfold T_X3_isBearer
  rw [c0, if_neg (by rw [q_lt (by omega) (by omega)]; omega), ro_gf, i_le (by omega) (by omega)]
  by_cases q : Z 12 0 ≤ d
  · rw [if_pos q, if_neg (by omega)]
  · rw [if_neg q, if_pos (by omega), c1]
theorem cy_b (M : MD C Z) (h1 : d1 ≤ 9) (h2 : d2 ≤ 9) (h3 : d3 ≤ 9) : ∃ x C' Z', (if nI 6 ≤ nI d1 then some (nI 0, Ro τ 2 C) else cI (T_X0_addBag 2 (nI d1) (nI d2) (nI d3) (Ro τ 2 C)) (fun x15 σ16 => if x15 < nI 0 then some (nI 0, σ16) else some (nI 1, σ16))) = some (nI x, Ro τ 2 C') ∧ (∀ τ', (if nI 5 < nI d1 then some (nI 0, Ro τ' 13 Z) else gf (Ro τ' 13 Z) 13 11 (fun x21 => if x21 = nI 6 then some (nI 0, Ro τ' 13 Z) else cV (T_X3_addsBag (nI d1) (nI d2) (nI d3) (Ro τ' 13 Z)) (fun σ24 => some (nI 1, σ24)))) = some (nI x, Ro τ' 13 Z')) ∧ CYo x C' Z Z' := by
  have h11 := M.2.2.1.nb
  have e0 := M.1.1.1
  by_cases q : 6 ≤ d1
  · refine ⟨0, C, Z, ?_, fun τ' => ?_, Or.inl rfl, M.os⟩
    · rw [if_pos (by rw [q_le (by omega) (by omega)]; exact q)]
    · rw [if_pos (by rw [q_lt (by omega) (by omega)]; omega)]
  · by_cases q2 : Z 11 0 = 6
    · refine ⟨0, C, Z, ?_, fun τ' => ?_, Or.inl rfl, M.os⟩
      · rw [if_neg (by rw [q_le (by omega) (by omega)]; exact q)]
        unfold T_X0_addBag
        rw [ro_gf, e0, q2, c6, if_neg (by decide), q_m9]
        simp only [e_cI]
        rw [if_pos (by decide)]
      · rw [if_neg (by rw [q_lt (by omega) (by omega)]; omega), ro_gf, q2, if_pos (by trivial)]
    · obtain ⟨C', a1, a2, a3⟩ := x0_addBag (τ := τ) (o := 2) M.2.2.1 M.1 (k := d1) (f := d2) (h := d3) (by omega)
      refine ⟨1, C', aBS Z d1 d2 d3, ?_, fun τ' => ?_, Or.inr ⟨rfl, a2, by rw [a3 _ _ (by decide)]; exact M.2.1, M.2.2.aB (by omega) h2 h3 (by omega)⟩, M.os.any (fun g j y => aB_oth (by unfold NS at y; omega))⟩
      · rw [if_neg (by rw [q_le (by omega) (by omega)]; exact q), a1]
        simp only [e_cI]
        rw [if_neg (by rw [q_lt (by omega) (by omega)]; omega)]
      · rw [if_neg (by rw [q_lt (by omega) (by omega)]; omega), ro_gf, if_neg (by rw [q_eq (by omega) (by omega)]; exact q2), x3_addsBag (by omega)]
        simp only [e_cV]
theorem cy_l (M : MD C Z) (h1 : d1 ≤ 9) (h2 : d2 ≤ 9) (h3 : d3 ≤ 9) : ∃ x C' Z', (cI (T_X0_addBearer 2 (nI d1) (nI d2) (nI d3) (Ro τ 2 C)) (fun x15 σ16 => if x15 < nI 0 then some (nI 0, σ16) else some (nI 1, σ16))) = some (nI x, Ro τ 2 C') ∧ (∀ τ', gf (Ro τ' 13 Z) 13 12 (fun x21 => if x21 = nI 5 then some (nI 0, Ro τ' 13 Z) else cV (T_X3_addsBearer (nI d1) (nI d2) (nI d3) (Ro τ' 13 Z)) (fun σ24 => some (nI 1, σ24))) = some (nI x, Ro τ' 13 Z')) ∧ CYo x C' Z Z' := by
  have h12 := M.2.2.1.nl
  have e7 := M.1.1.2.1
  by_cases q2 : Z 12 0 = 5
  · refine ⟨0, C, Z, ?_, fun τ' => ?_, Or.inl rfl, M.os⟩
    · unfold T_X0_addBearer
      rw [ro_gf, e7, q2, c5, if_neg (by decide), q_m9]
      simp only [e_cI]
      rw [if_pos (by decide)]
    · rw [ro_gf, q2, if_pos (by trivial)]
  · obtain ⟨C', a1, a2, a3⟩ := x0_addBearer (τ := τ) (o := 2) M.2.2.1 M.1 (w := d1) (v := d2) (a := d3) h1 h2 h3 (by omega)
    refine ⟨1, C', aLS Z d1 d2 d3, ?_, fun τ' => ?_, Or.inr ⟨rfl, a2, by rw [a3 _ _ (by decide)]; exact M.2.1, M.2.2.aL h1 h2 h3 (by omega)⟩, M.os.any (fun g j y => aL_oth (by unfold NS at y; omega))⟩
    · rw [a1]
      simp only [e_cI]
      rw [if_neg (by rw [q_lt (by omega) (by omega)]; omega)]
    · rw [ro_gf, if_neg (by rw [q_eq (by omega) (by omega)]; exact q2), x3_addsBearer (by omega)]
      simp only [e_cV]
theorem cy_c (M : MD C Z) (h1 : d1 ≤ 9) : ∃ x C' Z', (pf (Ro τ 2 C) 2 13 (nI d1) (fun σ14 => some (nI 1, σ14))) = some (nI x, Ro τ 2 C') ∧ (∀ τ', pf (Ro τ' 13 Z) 13 14 (nI d1) (fun σ20 => some (nI 1, σ20)) = some (nI x, Ro τ' 13 Z')) ∧ CYo x C' Z Z' := by
  refine ⟨1, up C 13 0 d1, up Z 14 0 d1, ?_, fun τ' => ?_, Or.inr ⟨rfl, M.1.up14, by rw [up_ne _ (by omega)]; exact M.2.1, M.2.2.upg (by omega)⟩, M.os.any (fun g j y => up_ne _ (by unfold NS at y; omega))⟩
  · rw [ro_pf]
  · rw [ro_pf]
theorem cy_f (M : MD C Z) (h1 : d1 ≤ 9) (h2 : d2 ≤ 9) : ∃ x C' Z', (cI (T_X0_befriend 2 (nI d1) (nI d2) (Ro τ 2 C)) (fun x12 σ13 => rz x12 (some (x12, σ13)))) = some (nI x, Ro τ 2 C') ∧ (∀ τ', cV (T_X3_isBag (Ro τ' 13 Z) (nI d1)) (fun x14 => if x14 = nI 0 then some (nI 0, Ro τ' 13 Z) else cV (T_X3_isBag (Ro τ' 13 Z) (nI d2)) (fun x16 => if x16 = nI 0 then some (nI 0, Ro τ' 13 Z) else cV (T_X3_befriends (nI d1) (nI d2) (Ro τ' 13 Z)) (fun σ19 => some (nI 1, σ19)))) = some (nI x, Ro τ' 13 Z')) ∧ CYo x C' Z Z' := by
  have h11 := M.2.2.1.nb
  have e0 := M.1.1.1
  by_cases q1 : d1 < Z 11 0
  · by_cases q2 : d2 < Z 11 0
    · obtain ⟨C', a1, a2, a3⟩ := x0_befriend (τ := τ) (o := 2) M.2.2.1 M.1 q1 q2
      refine ⟨1, C', bfS Z d1 d2, ?_, fun τ' => ?_, Or.inr ⟨rfl, a2, by rw [a3 _ _ (by decide)]; exact M.2.1, M.2.2.bf q1 q2⟩, M.os.any (fun g j y => bf_oth (by unfold NS at y; omega))⟩
      · rw [a1]
        simp only [e_cI]
        rw [rz_n1]
      · rw [isB (by omega) h1, if_pos q1, isB (by omega) h2, if_pos q2, x3_befriends M.2.2.1 q1 q2]
        simp only [e_cV]
        rw [if_neg (by decide), if_neg (by decide)]
    · refine ⟨0, C, Z, ?_, fun τ' => ?_, Or.inl rfl, M.os⟩
      · unfold T_X0_befriend
        rw [hasB (by omega) h1, e0, if_pos q1, hasB (by omega) h2, e0, if_neg q2]
        simp only [e_cV]
        rw [c0, if_neg (by decide), if_pos (by trivial)]
        simp only [e_cI]
        rw [rz_n0]
      · rw [isB (by omega) h1, if_pos q1, isB (by omega) h2, if_neg q2]
        simp only [e_cV]
        rw [if_neg (by decide), if_pos (by trivial)]
  · refine ⟨0, C, Z, ?_, fun τ' => ?_, Or.inl rfl, M.os⟩
    · unfold T_X0_befriend
      rw [hasB (by omega) h1, e0, if_neg q1]
      simp only [e_cV]
      rw [c0, if_pos (by trivial)]
      simp only [e_cI]
      rw [rz_n0]
    · rw [isB (by omega) h1, if_neg q1]
      simp only [e_cV]
      rw [if_pos (by trivial)]
theorem cy_g (M : MD C Z) (h1 : d1 ≤ 9) (h2 : d2 ≤ 9) : ∃ x C' Z', (cI (T_X0_hand 2 (nI d1) (nI d2) (Ro τ 2 C)) (fun x12 σ13 => rz x12 (some (x12, σ13)))) = some (nI x, Ro τ 2 C') ∧ (∀ τ', cV (T_X3_isBag (Ro τ' 13 Z) (nI d1)) (fun x14 => if x14 = nI 0 then some (nI 0, Ro τ' 13 Z) else cV (T_X3_isBearer (Ro τ' 13 Z) (nI d2)) (fun x16 => if x16 = nI 0 then some (nI 0, Ro τ' 13 Z) else cV (T_X3_givesHer (nI d1) (nI d2) (Ro τ' 13 Z)) (fun σ19 => some (nI 1, σ19)))) = some (nI x, Ro τ' 13 Z')) ∧ CYo x C' Z Z' := by
  have h11 := M.2.2.1.nb
  have h12 := M.2.2.1.nl
  have e0 := M.1.1.1
  have e7 := M.1.1.2.1
  by_cases q1 : d1 < Z 11 0
  · by_cases q2 : d2 < Z 12 0
    · obtain ⟨C', a1, a2, a3⟩ := x0_hand (τ := τ) (o := 2) M.2.2.1 M.1 q1 q2
      refine ⟨1, C', gvS Z d1 d2, ?_, fun τ' => ?_, Or.inr ⟨rfl, a2, by rw [a3 _ _ (by decide) (by decide) (by decide)]; exact M.2.1, M.2.2.gv q1 q2⟩, M.os.any (fun g j y => gv_oth (by unfold NS at y; omega))⟩
      · rw [a1]
        simp only [e_cI]
        rw [rz_n1]
      · rw [isB (by omega) h1, if_pos q1, isL (by omega) h2, if_pos q2, x3_give M.2.2.1 q1 q2]
        simp only [e_cV]
        rw [if_neg (by decide), if_neg (by decide)]
    · refine ⟨0, C, Z, ?_, fun τ' => ?_, Or.inl rfl, M.os⟩
      · unfold T_X0_hand
        rw [hasB (by omega) h1, e0, if_pos q1, hasL (by omega) h2, e7, if_neg q2]
        simp only [e_cV]
        rw [c0, if_neg (by decide), if_pos (by trivial)]
        simp only [e_cI]
        rw [rz_n0]
      · rw [isB (by omega) h1, if_pos q1, isL (by omega) h2, if_neg q2]
        simp only [e_cV]
        rw [if_neg (by decide), if_pos (by trivial)]
  · refine ⟨0, C, Z, ?_, fun τ' => ?_, Or.inl rfl, M.os⟩
    · unfold T_X0_hand
      rw [hasB (by omega) h1, e0, if_neg q1]
      simp only [e_cV]
      rw [c0, if_pos (by trivial)]
      simp only [e_cI]
      rw [rz_n0]
    · rw [isB (by omega) h1, if_neg q1]
      simp only [e_cV]
      rw [if_pos (by trivial)]
theorem x3_comL {m : Nat} (hm : m ≤ 60) : ∀ r k n Z, k + r = m → WF Z → Z 13 0 + r ≤ 5000 → Z 30 0 ≤ 9 → r < n → T_X3_comesHours_L26 n (nI m) (nI k) (Ro τ 13 Z) = some (nI 1, Ro τ 13 (runS Z r)) := by
  intro r
  induction r with
  | zero =>
    intro k n Z h W hh h30 hn
    obtain ⟨n, rfl⟩ := fu_one hn
    unfold T_X3_comesHours_L26
    rw [if_pos (by rw [q_le (by omega) (by omega)]; omega), c1]
    rfl
  | succ r ih =>
    intro k n Z h W hh h30 hn
    obtain ⟨n, rfl⟩ := fu_one (by omega : 0 < n)
    unfold T_X3_comesHours_L26
    rw [if_neg (by rw [q_le (by omega) (by omega)]; omega), c0, x3_h W (by omega) h30]
    simp only [e_cV]
    rw [c1, nI_add, e_vl]
    exact ih (k + 1) n (hourS Z 9) (by omega) (W.hour 9) (by rw [hourS_13]; omega) (by rw [hourS_keeps (by decide)]; exact h30) (by omega)
theorem in_60 {σ : ST} {k : Nat} (h : k ≤ 999) : T_X3_isIn σ (nI k) (nI 1) (nI 60) = some (nI (if 1 ≤ k ∧ k ≤ 60 then 1 else 0)) := by
  unfold T_X3_isIn
  rw [i_lt (by omega) (by omega), i_lt (by omega) (by omega), c0, c1]
  by_cases q1 : k < 1
  · rw [if_pos q1, if_neg (by omega)]
  · rw [if_neg q1]
    by_cases q2 : 60 < k
    · rw [if_pos q2, if_neg (by omega)]
    · rw [if_neg q2, if_pos (by omega)]
theorem cy_h (M : MD C Z) (h1 : d1 ≤ 9) (h2 : d2 ≤ 9) : ∃ x C' Z', T_X2_carryOut_j164 (nI d1) (nI d2) (Ro τ 2 C) = some (nI x, Ro τ 2 C') ∧ (∀ τ', T_X3_comes_j205 (nI (10 * d1 + d2)) (Ro τ' 13 Z) = some (nI x, Ro τ' 13 Z')) ∧ CYo x C' Z Z' := by
  have W := M.2.2.1
  have h13 := M.2.2.2.1
  have e14 : C 14 0 = Z 13 0 := M.1.1.2.2.2
  by_cases q : 1 ≤ 10 * d1 + d2 ∧ 10 * d1 + d2 ≤ 60
  · by_cases q2 : Z 13 0 + (10 * d1 + d2) ≤ 999
    · obtain ⟨S', s1, s2, s3⟩ := M.1.now W
      obtain ⟨C', a1, a2, a3⟩ := x0_hours (τ := τ) (o := 2) s2 q.2 (by rw [s3 _ _ (by decide)]; omega) s1 M.2.1
      have st : Str S' Z := Str.of (fun f i z => (s3 f i (by have := z.2.1; omega)).symm) s2
      have st2 := Str.run (X := S') (Y := Z) (10 * d1 + d2) S' Z st s2 W (by rw [s3 _ _ (by decide)]; omega)
      have KZ : TK (runS Z (10 * d1 + d2)) := ⟨W.run _ _, by rw [runS_13]; omega, by rw [runS_keeps (by decide)]; exact M.2.2.2.2⟩
      refine ⟨1, C', runS Z (10 * d1 + d2), ?_, fun τ' => ?_, Or.inr ⟨rfl, st2.sb a2.sb, a3, KZ⟩, M.os.run _⟩
      · unfold T_X2_carryOut_j164
        rw [c10, q_mul, nI_add, e_vl, c1, if_neg (by rw [q_lt (by omega) (by omega)]; omega), c60, if_neg (by rw [q_lt (by omega) (by omega)]; omega), ro_gf, e14, nI_add, c999, if_pos (by rw [q_le (by omega) (by omega)]; exact q2), a1]
        simp only [e_cV]
      · unfold T_X3_comes_j205 T_X3_comesHours
        rw [c1, c60, in_60 (by omega), if_pos q]
        simp only [e_cV]
        rw [c0, if_neg (by decide), ro_gf, nI_add, c999, if_pos (by rw [q_le (by omega) (by omega)]; exact q2), x3_comL q.2 (10 * d1 + d2) 0 FU Z (by omega) W (by omega) M.2.2.2.2 (FU_gt (by omega))]
        simp only [e_cI]
        rw [rz_n1]
    · refine ⟨0, C, Z, ?_, fun τ' => ?_, Or.inl rfl, M.os⟩
      · unfold T_X2_carryOut_j164
        rw [c10, q_mul, nI_add, e_vl, c1, if_neg (by rw [q_lt (by omega) (by omega)]; omega), c60, if_neg (by rw [q_lt (by omega) (by omega)]; omega), ro_gf, e14, nI_add, c999, if_neg (by rw [q_le (by omega) (by omega)]; exact q2), c0]
      · unfold T_X3_comes_j205 T_X3_comesHours
        rw [c1, c60, in_60 (by omega), if_pos q]
        simp only [e_cV]
        rw [c0, if_neg (by decide), ro_gf, nI_add, c999, if_neg (by rw [q_le (by omega) (by omega)]; exact q2)]
        simp only [e_cI]
        rw [rz_n0]
  · refine ⟨0, C, Z, ?_, fun τ' => ?_, Or.inl rfl, M.os⟩
    · unfold T_X2_carryOut_j164
      rw [c10, q_mul, nI_add, e_vl, c1, c0]
      by_cases q1 : 10 * d1 + d2 < 1
      · rw [if_pos (by rw [q_lt (by omega) (by omega)]; exact q1)]
      · rw [if_neg (by rw [q_lt (by omega) (by omega)]; exact q1), c60, if_pos (by rw [q_lt (by omega) (by omega)]; omega)]
    · unfold T_X3_comes_j205 T_X3_comesHours
      rw [c1, c60, in_60 (by omega), if_neg q]
      simp only [e_cV]
      rw [c0, if_pos (by trivial)]
      simp only [e_cI]
      rw [rz_n0]
end Cy
