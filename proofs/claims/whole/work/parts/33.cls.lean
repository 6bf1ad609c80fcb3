/-! THE CLASS's street does the mathematics: C is its state as it holds it, S the mathematics' -/
def kN (x : Nat) : Nat := if x = 9 then 4294967287 else x
theorem kN_9 : kN 9 = 4294967287 := rfl
theorem kN_ne {x : Nat} (h : x ≠ 9) : kN x = x := by unfold kN; rw [if_neg h]
theorem kN_lt {x : Nat} (h : x ≤ 9) : kN x < 4294967296 := by unfold kN; split <;> omega
theorem NN_neg : nI 4294967287 < nI 0 := by decide
theorem m9 : (-nI 9 : Int32) = nI 4294967287 := by decide
theorem kN_neg {x : Nat} (h : x ≤ 9) : nI (kN x) < nI 0 ↔ x = 9 := by
  by_cases e : x = 9
  · subst e; rw [kN_9]; exact ⟨fun _ => rfl, fun _ => NN_neg⟩
  · rw [kN_ne e, q_lt (by omega) (by omega)]; omega
theorem kN_eq {a b : Nat} (ha : a ≤ 9) (hb : b ≤ 9) : kN a = kN b ↔ a = b := by
  unfold kN
  split <;> split <;> omega
theorem up_self (S : SS) (f i : Nat) : up S f i (S f i) = S := by
  funext f' i'
  unfold up
  split
  · rename_i h; rw [h.1, h.2]
  · rfl
theorem up_up (S : SS) (f i x y : Nat) : up (up S f i x) f i y = up S f i y := by
  funext f' i'
  unfold up
  split <;> rfl
theorem up_comm (S : SS) {f i x g j y : Nat} (h : ¬ (f = g ∧ i = j)) : up (up S f i x) g j y = up (up S g j y) f i x := by
  funext f' i'
  unfold up
  by_cases h1 : f' = g ∧ i' = j
  · by_cases h2 : f' = f ∧ i' = i
    · exact absurd ⟨h2.1.symm.trans h1.1, h2.2.symm.trans h1.2⟩ h
    · rw [if_pos h1, if_neg h2, if_pos h1]
  · by_cases h2 : f' = f ∧ i' = i
    · rw [if_neg h1, if_pos h2, if_pos h2]
    · rw [if_neg h1, if_neg h2, if_neg h2, if_neg h1]
theorem whoG_congr {S T : SS} {b : Nat} (h : ∀ i, S 9 i = T 9 i) : ∀ r l, whoG S b r l = whoG T b r l
  | 0, _ => rfl
  | r + 1, l => by
    unfold whoG
    rw [h l, whoG_congr h r (l + 1)]
theorem who_congr {S T : SS} {b : Nat} (h : ∀ i, S 9 i = T 9 i) (h12 : S 12 0 = T 12 0) : who S b = who T b := by
  unfold who
  rw [h12, whoG_congr h]
theorem who_up {S : SS} {f i x b : Nat} (h9 : f ≠ 9) (h12 : f ≠ 12) : who (up S f i x) b = who S b :=
  who_congr (fun j => up_ne S (fun q => h9 q.1.symm)) (up_ne S (fun q => h12 q.1.symm))
/-- the class's street C stands for S; D: what the tallies of S were when the class's were nought -/
def SC (D C S : SS) : Prop :=
  (C 0 0 = S 11 0 ∧ C 7 0 = S 12 0 ∧ C 13 0 = S 14 0 ∧ C 14 0 = S 13 0) ∧
  (∀ b, b < S 11 0 → C 1 b = S 1 b ∧ C 2 b = S 2 b ∧ C 3 b = S 3 b ∧ C 4 b = kN (S 4 b) ∧ C 5 b = S 5 b ∧ C 6 b = kN (who S b)) ∧
  (∀ l, l < S 12 0 → C 8 l = S 6 l ∧ C 9 l = S 7 l ∧ C 10 l = S 8 l ∧ C 11 l = kN (S 9 l) ∧ C 12 l = S 10 l) ∧
  ((∀ l, l < 5 → S 27 l = C 15 l + D 27 l ∧ S 28 l = C 16 l + D 28 l) ∧ S 29 0 = C 17 0 + D 29 0)
section Cls
variable {τ : TT} {o : Nat} {D C S : SS}
theorem SC.c0 (R : SC D C S) : C 0 0 = S 11 0 := R.1.1
theorem SC.c7 (R : SC D C S) : C 7 0 = S 12 0 := R.1.2.1
theorem SC.c13 (R : SC D C S) : C 13 0 = S 14 0 := R.1.2.2.1
theorem SC.c14 (R : SC D C S) : C 14 0 = S 13 0 := R.1.2.2.2
theorem SC.bag (R : SC D C S) {b : Nat} (hb : b < S 11 0) : C 1 b = S 1 b ∧ C 2 b = S 2 b ∧ C 3 b = S 3 b ∧ C 4 b = kN (S 4 b) ∧ C 5 b = S 5 b ∧ C 6 b = kN (who S b) := R.2.1 b hb
theorem SC.bea (R : SC D C S) {l : Nat} (hl : l < S 12 0) : C 8 l = S 6 l ∧ C 9 l = S 7 l ∧ C 10 l = S 8 l ∧ C 11 l = kN (S 9 l) ∧ C 12 l = S 10 l := R.2.2.1 l hl
theorem x0_hasBag (h6 : C 0 0 ≤ 6) {b : Nat} (hb : b = 9 ∨ b < C 0 0) : T_X0_hasBag o (Ro τ o C) (nI (kN b)) = some (if b = 9 then nI 0 else nI 1) := by
  unfold T_X0_hasBag
  simp (disch := omega) only [n_mod, q_dec, ro_gf, ro_ld, ro_sd, ro_pf, e_vl, e_cV, e_cI, nI_add, q_mul, q_sub, q_rem, q_div, q_eq, q_lt, q_le, c0, c1, c2, c3, c4, c5, c6, c7, c8, c9, c10, c99]
  by_cases e : b = 9
  · subst e
    rw [kN_9, if_pos NN_neg, if_pos rfl]
  · rw [kN_ne e, if_neg e]
    simp (disch := omega) only [n_mod, q_dec, ro_gf, ro_ld, ro_sd, ro_pf, e_vl, e_cV, e_cI, nI_add, q_mul, q_sub, q_rem, q_div, q_eq, q_lt, q_le, c0, c1, c2, c3, c4, c5, c6, c7, c8, c9, c10, c99]
    rw [if_neg (by omega), if_neg (by omega)]
theorem x0_hasBag1 (h6 : C 0 0 ≤ 6) {b : Nat} (hb : b < C 0 0) : T_X0_hasBag o (Ro τ o C) (nI b) = some (nI 1) := by
  have h := x0_hasBag (τ := τ) (o := o) h6 (Or.inr hb)
  rw [kN_ne (by omega), if_neg (by omega)] at h
  exact h
theorem x0_hasBearer (h5 : C 7 0 ≤ 5) {l : Nat} (hl : l = 9 ∨ l < C 7 0) : T_X0_hasBearer o (Ro τ o C) (nI (kN l)) = some (if l = 9 then nI 0 else nI 1) := by
  unfold T_X0_hasBearer
  simp (disch := omega) only [n_mod, q_dec, ro_gf, ro_ld, ro_sd, ro_pf, e_vl, e_cV, e_cI, nI_add, q_mul, q_sub, q_rem, q_div, q_eq, q_lt, q_le, c0, c1, c2, c3, c4, c5, c6, c7, c8, c9, c10, c99]
  by_cases e : l = 9
  · subst e
    rw [kN_9, if_pos NN_neg, if_pos rfl]
  · rw [kN_ne e, if_neg e]
    simp (disch := omega) only [n_mod, q_dec, ro_gf, ro_ld, ro_sd, ro_pf, e_vl, e_cV, e_cI, nI_add, q_mul, q_sub, q_rem, q_div, q_eq, q_lt, q_le, c0, c1, c2, c3, c4, c5, c6, c7, c8, c9, c10, c99]
    rw [if_neg (by omega), if_neg (by omega)]
theorem who_cases (W : WF S) (b : Nat) : who S b = 9 ∨ who S b < S 12 0 := by
  rcases who_spec S b with ⟨h, -⟩ | ⟨h, -⟩
  · exact Or.inl h
  · exact Or.inr h
theorem x0_kof (W : WF S) (R : SC D C S) {b : Nat} (hb : b < S 11 0) : T_X0_keeperOfFriend o (Ro τ o C) (nI b) = some (nI (kN (if S 4 b < 9 then who S (S 4 b) else 9))) := by
  have h11 := W.nb
  have hbg := W.bag hb
  have r := R.bag hb
  have r0 := R.c0
  unfold T_X0_keeperOfFriend
  simp (disch := omega) only [r.2.2.2.1, n_mod, q_dec, ro_gf, ro_ld, ro_sd, ro_pf, e_vl, e_cV, e_cI, nI_add, q_mul, q_sub, q_rem, q_div, q_eq, q_lt, q_le, c0, c1, c2, c3, c4, c5, c6, c7, c8, c9, c10, c99]
  by_cases e : S 4 b = 9
  · rw [if_pos ((kN_neg (by omega)).mpr e), if_neg (by omega), m9]
    rfl
  · have h4 : S 4 b < S 11 0 := by omega
    have r4 := R.bag h4
    rw [if_neg (fun q => e ((kN_neg (by omega)).mp q)), kN_ne e]
    simp (disch := omega) only [r0, r4.2.2.2.2.2, n_mod, q_dec, ro_gf, ro_ld, ro_sd, ro_pf, e_vl, e_cV, e_cI, nI_add, q_mul, q_sub, q_rem, q_div, q_eq, q_lt, q_le, c0, c1, c2, c3, c4, c5, c6, c7, c8, c9, c10, c99]
    rw [if_neg (by omega), if_pos (by omega)]
theorem x0_pullBy {b h : Nat} {q : Bool} (hb : b < 6) (hk : C 1 b ≤ 5) (hf : C 2 b ≤ 9) (hh : h ≤ 99) : T_X0_pullBy o (Ro τ o C) (nI b) (nI h) (nI (if q then 1 else 0)) = some (nI (if C 1 b = 1 then C 2 b + h else if C 1 b = 2 then C 2 b + 4 else if C 1 b = 3 then C 2 b / 2 else if C 1 b = 4 then (if q then C 2 b + 2 else C 2 b) else if C 1 b = 5 then 2 * (C 2 b + h) else C 2 b)) := by
  unfold T_X0_pullBy
  simp (disch := first | omega | (split <;> omega)) only [n_mod, q_dec, ro_gf, ro_ld, ro_sd, ro_pf, e_vl, e_cV, e_cI, nI_add, q_mul, q_sub, q_rem, q_div, q_eq, q_lt, q_le, c0, c1, c2, c3, c4, c5, c6, c7, c8, c9, c10, c99]
  by_cases k1 : C 1 b = 1
  · simp only [k1, if_true]
  by_cases k2 : C 1 b = 2
  · simp [k2]
  by_cases k3 : C 1 b = 3
  · simp [k3]
  by_cases k4 : C 1 b = 4
  · simp only [k4]
    cases q <;> simp
  by_cases k5 : C 1 b = 5
  · simp [k5]
  · simp [k1, k2, k3, k4, k5]
theorem x0_pull (W : WF S) (R : SC D C S) {b : Nat} (hb : b < S 11 0) : T_X0_pullOf o (Ro τ o C) (nI b) = some (nI (pull S b)) := by
  have h11 := W.nb
  have hbg := W.bag hb
  have r := R.bag hb
  have r0 := R.c0
  have hw : (if S 4 b < 9 then who S (S 4 b) else 9) ≤ 9 := by
    split
    · exact who_le W _
    · omega
  have pb := fun q => x0_pullBy (τ := τ) (o := o) (C := C) (b := b) (h := S 5 b) (q := q) (by omega) (by omega) (by omega) (by omega)
  unfold T_X0_pullOf T_X0_pullOf_j29
  simp (disch := omega) only [x0_hasBag1 (τ := τ) (o := o) (C := C) (show C 0 0 ≤ 6 by omega) (show b < C 0 0 by omega), x0_kof W R hb, r.2.2.2.2.1, n_mod, q_dec, ro_gf, ro_ld, ro_sd, ro_pf, e_vl, e_cV, e_cI, nI_add, q_mul, q_sub, q_rem, q_div, q_eq, q_lt, q_le, c0, c1, c2, c3, c4, c5, c6, c7, c8, c9, c10, c99]
  rw [if_neg (by decide : ¬ (1 = 0))]
  have p0 := pb false
  have p1 := pb true
  simp only [if_true, Bool.false_eq_true, if_false] at p0 p1
  rw [p0, p1]
  simp only [e_cV, r.1, r.2.1]
  unfold pull
  by_cases e : S 4 b < 9 ∧ who S (S 4 b) < 9
  · rw [if_neg (fun q => by have := (kN_neg hw).mp q; rw [if_pos e.1] at this; omega)]
    simp only [e, and_self, if_true]
  · have e2 : (if S 4 b < 9 then who S (S 4 b) else 9) = 9 := by
      by_cases e3 : S 4 b < 9
      · rw [if_pos e3]
        have := who_le W (S 4 b)
        omega
      · rw [if_neg e3]
    rw [if_pos ((kN_neg hw).mpr e2)]
    simp only [e, if_false]
end Cls
