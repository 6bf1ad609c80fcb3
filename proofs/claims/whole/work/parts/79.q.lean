/-! the letters carried out, all of them -/
section Ca
variable {τ : TT} {A C Z F1 : SS} {t : Nat → Nat} {N : Nat}
theorem dAt (hN : N ≤ 96) (hA : ∀ k, k < N → τ.1 0 6 k = t k ∧ t k ≤ 255) {q : Nat} (hq : q ≤ 200) : ∃ y, T_X2_digitAt (Ro τ 2 C) (nI q) = some y ∧ (q < N → 48 ≤ t q → y = nI (t q - 48)) := by
  unfold T_X2_digitAt
  rw [c0, if_neg (by rw [q_lt (by omega) (by omega)]; omega), c96, i_le (by omega) (by omega)]
  by_cases z : 96 ≤ q
  · rw [if_pos z]
    exact ⟨_, rfl, fun h => by omega⟩
  · rw [if_neg z, rx_ld (by decide) (by omega) (by omega)]
    refine ⟨_, rfl, fun h h2 => ?_⟩
    rw [(hA q h).1, c48, q_sub h2]
theorem carry (hN : N ≤ 96) (hA : ∀ k, k < N → τ.1 0 6 k = t k ∧ t k ≤ 255) {i : Nat} (hi : i < 40) (g : GdS t N i) (rc : Rec t Z i) (M : MD C Z) : ∃ x C' Z', T_X2_carryOut (nI (stN t i)) (Ro τ 2 C) = some (nI x, Ro τ 2 C') ∧ (∀ τ', T_X3_comes (nI i) (Ro τ' 13 Z) = some (nI x, Ro τ' 13 Z')) ∧ CYo x C' Z Z' := by
  obtain ⟨g1, g2, g3⟩ := g
  obtain ⟨r1, r2, v1, v2, v3⟩ := rc
  obtain ⟨o1, o2, o3⟩ := scN_ok _ _ hN g3 (by omega)
  generalize hp : stN t i = p at *
  have tp := hA p g1
  obtain ⟨y1, a1, b1⟩ := dAt (τ := τ) (C := C) hN hA (q := p + 1) (by omega)
  obtain ⟨y2, a2, b2⟩ := dAt (τ := τ) (C := C) hN hA (q := p + 2) (by omega)
  obtain ⟨y3, a3, b3⟩ := dAt (τ := τ) (C := C) hN hA (q := p + 3) (by omega)
  have cls : T_X2_carryOut (nI p) (Ro τ 2 C) = (fun x7 => if x7 = nI 98 then if nI 6 ≤ y1 then some (nI 0, Ro τ 2 C) else cI (T_X0_addBag 2 y1 y2 y3 (Ro τ 2 C)) (fun x15 σ16 => if x15 < nI 0 then some (nI 0, σ16) else some (nI 1, σ16)) else if x7 = nI 99 then pf (Ro τ 2 C) 2 13 y1 (fun σ14 => some (nI 1, σ14)) else if x7 = 100 then T_X2_carryOut_j164 y1 y2 (Ro τ 2 C) else if x7 = 101 then T_X2_carryOut_j164 y1 y2 (Ro τ 2 C) else if x7 = nI 102 then cI (T_X0_befriend 2 y1 y2 (Ro τ 2 C)) (fun x12 σ13 => rz x12 (some (x12, σ13))) else if x7 = nI 103 then cI (T_X0_hand 2 y1 y2 (Ro τ 2 C)) (fun x10 σ11 => rz x10 (some (x10, σ11))) else if x7 = nI 104 then T_X2_carryOut_j164 y1 y2 (Ro τ 2 C) else if x7 = 105 then T_X2_carryOut_j164 y1 y2 (Ro τ 2 C) else if x7 = 106 then T_X2_carryOut_j164 y1 y2 (Ro τ 2 C) else if x7 = 107 then T_X2_carryOut_j164 y1 y2 (Ro τ 2 C) else if x7 = nI 108 then cI (T_X0_addBearer 2 y1 y2 y3 (Ro τ 2 C)) (fun x8 σ9 => if x8 < nI 0 then some (nI 0, σ9) else some (nI 1, σ9)) else T_X2_carryOut_j164 y1 y2 (Ro τ 2 C)) (nI (t p)) := by
    unfold T_X2_carryOut
    rw [c1, nI_add, a1, c2, nI_add, a2, c3, nI_add, a3]
    simp only [e_cV]
    rw [rx_ld (by decide) (by omega) (by omega), tp.1]
    rfl
  have ref : ∀ τ', T_X3_comes (nI i) (Ro τ' 13 Z) = (fun x3 => if x3 = nI 98 then if nI 5 < nI (Z 18 (3 * i)) then some (nI 0, Ro τ' 13 Z) else gf (Ro τ' 13 Z) 13 11 (fun x21 => if x21 = nI 6 then some (nI 0, Ro τ' 13 Z) else cV (T_X3_addsBag (nI (Z 18 (3 * i))) (nI (Z 18 (3 * i + 1))) (nI (Z 18 (3 * i + 2))) (Ro τ' 13 Z)) (fun σ24 => some (nI 1, σ24))) else if x3 = nI 99 then pf (Ro τ' 13 Z) 13 14 (nI (Z 18 (3 * i))) (fun σ20 => some (nI 1, σ20)) else if x3 = 100 then T_X3_comes_j205 (nI (Z 18 (3 * i))) (Ro τ' 13 Z) else if x3 = 101 then T_X3_comes_j205 (nI (Z 18 (3 * i))) (Ro τ' 13 Z) else if x3 = nI 102 then cV (T_X3_isBag (Ro τ' 13 Z) (nI (Z 18 (3 * i)))) (fun x14 => if x14 = nI 0 then some (nI 0, Ro τ' 13 Z) else cV (T_X3_isBag (Ro τ' 13 Z) (nI (Z 18 (3 * i + 1)))) (fun x16 => if x16 = nI 0 then some (nI 0, Ro τ' 13 Z) else cV (T_X3_befriends (nI (Z 18 (3 * i))) (nI (Z 18 (3 * i + 1))) (Ro τ' 13 Z)) (fun σ19 => some (nI 1, σ19)))) else if x3 = nI 103 then cV (T_X3_isBag (Ro τ' 13 Z) (nI (Z 18 (3 * i)))) (fun x8 => if x8 = nI 0 then some (nI 0, Ro τ' 13 Z) else cV (T_X3_isBearer (Ro τ' 13 Z) (nI (Z 18 (3 * i + 1)))) (fun x10 => if x10 = nI 0 then some (nI 0, Ro τ' 13 Z) else cV (T_X3_givesHer (nI (Z 18 (3 * i))) (nI (Z 18 (3 * i + 1))) (Ro τ' 13 Z)) (fun σ13 => some (nI 1, σ13)))) else if x3 = nI 104 then T_X3_comes_j205 (nI (Z 18 (3 * i))) (Ro τ' 13 Z) else if x3 = 105 then T_X3_comes_j205 (nI (Z 18 (3 * i))) (Ro τ' 13 Z) else if x3 = 106 then T_X3_comes_j205 (nI (Z 18 (3 * i))) (Ro τ' 13 Z) else if x3 = 107 then T_X3_comes_j205 (nI (Z 18 (3 * i))) (Ro τ' 13 Z) else if x3 = nI 108 then gf (Ro τ' 13 Z) 13 12 (fun x4 => if x4 = nI 5 then some (nI 0, Ro τ' 13 Z) else cV (T_X3_addsBearer (nI (Z 18 (3 * i))) (nI (Z 18 (3 * i + 1))) (nI (Z 18 (3 * i + 2))) (Ro τ' 13 Z)) (fun σ7 => some (nI 1, σ7))) else T_X3_comes_j205 (nI (Z 18 (3 * i))) (Ro τ' 13 Z)) (nI (t p)) := by
    intro τ'
    unfold T_X3_comes
    rw [c3, q_mul, ro_ld (by omega) (by omega), c1, nI_add, ro_ld (by omega) (by omega), ro_ld (by omega) (by omega), r1, c2, nI_add, ro_ld (by omega) (by omega), ro_ld (by omega) (by omega)]
    rfl
  have cases : (t p = 98 ∨ t p = 108) ∨ t p = 99 ∨ t p = 104 ∨ t p = 102 ∨ t p = 103 := by
    have z0 := g2
    unfold dcK at z0
    split at z0
    · omega
    · split at z0
      · omega
      · split at z0 <;> omega
  rcases cases with (k | k) | k | k | k | k
  · rw [k] at cls ref v1 v2 v3 o1
    have d3 : dcK 98 = 3 := rfl
    rw [d3] at o1
    have w1 : p + 1 < N ∧ 48 ≤ t (p + 1) ∧ t (p + 1) ≤ 57 := o1 0 (by omega)
    have w2 : p + 2 < N ∧ 48 ≤ t (p + 2) ∧ t (p + 2) ≤ 57 := o1 1 (by omega)
    have w3 : p + 3 < N ∧ 48 ≤ t (p + 3) ∧ t (p + 3) ≤ 57 := o1 2 (by omega)
    rw [b1 w1.1 w1.2.1, b2 w2.1 w2.2.1, b3 w3.1 w3.2.1] at cls
    rw [if_neg (by decide)] at v1
    rw [v1, v2 (by decide) (by decide), v3 (Or.inl rfl)] at ref
    obtain ⟨x, C', Z', e1, e2, e3⟩ := cy_b (τ := τ) M (d1 := t (p + 1) - 48) (d2 := t (p + 2) - 48) (d3 := t (p + 3) - 48) (by have := w1.2.2; omega) (by have := w2.2.2; omega) (by have := w3.2.2; omega)
    exact ⟨x, C', Z', cls.trans ((if_pos rfl).trans e1), fun τ' => (ref τ').trans ((if_pos rfl).trans (e2 τ')), e3⟩
  · rw [k] at cls ref v1 v2 v3 o1
    have d3 : dcK 108 = 3 := rfl
    rw [d3] at o1
    have w1 : p + 1 < N ∧ 48 ≤ t (p + 1) ∧ t (p + 1) ≤ 57 := o1 0 (by omega)
    have w2 : p + 2 < N ∧ 48 ≤ t (p + 2) ∧ t (p + 2) ≤ 57 := o1 1 (by omega)
    have w3 : p + 3 < N ∧ 48 ≤ t (p + 3) ∧ t (p + 3) ≤ 57 := o1 2 (by omega)
    rw [b1 w1.1 w1.2.1, b2 w2.1 w2.2.1, b3 w3.1 w3.2.1] at cls
    rw [if_neg (by decide)] at v1
    rw [v1, v2 (by decide) (by decide), v3 (Or.inr rfl)] at ref
    obtain ⟨x, C', Z', e1, e2, e3⟩ := cy_l (τ := τ) M (d1 := t (p + 1) - 48) (d2 := t (p + 2) - 48) (d3 := t (p + 3) - 48) (by have := w1.2.2; omega) (by have := w2.2.2; omega) (by have := w3.2.2; omega)
    refine ⟨x, C', Z', cls.trans (Eq.trans ?_ e1), fun τ' => (ref τ').trans (Eq.trans ?_ (e2 τ')), e3⟩
    · show (if nI 108 = nI 98 then _ else _) = _
      rw [if_neg (by decide), if_neg (by decide), if_neg (by decide), if_neg (by decide), if_neg (by decide), if_neg (by decide), if_neg (by decide), if_neg (by decide), if_neg (by decide), if_neg (by decide), if_pos (by trivial)]
    · show (if nI 108 = nI 98 then _ else _) = _
      rw [if_neg (by decide), if_neg (by decide), if_neg (by decide), if_neg (by decide), if_neg (by decide), if_neg (by decide), if_neg (by decide), if_neg (by decide), if_neg (by decide), if_neg (by decide), if_pos (by trivial)]
  · rw [k] at cls ref v1 v2 v3 o1
    have d3 : dcK 99 = 1 := rfl
    rw [d3] at o1
    have w1 : p + 1 < N ∧ 48 ≤ t (p + 1) ∧ t (p + 1) ≤ 57 := o1 0 (by omega)
    rw [b1 w1.1 w1.2.1] at cls
    rw [if_neg (by decide)] at v1
    rw [v1] at ref
    obtain ⟨x, C', Z', e1, e2, e3⟩ := cy_c (τ := τ) M (d1 := t (p + 1) - 48) (by have := w1.2.2; omega)
    refine ⟨x, C', Z', cls.trans (Eq.trans ?_ e1), fun τ' => (ref τ').trans (Eq.trans ?_ (e2 τ')), e3⟩
    · show (if nI 99 = nI 98 then _ else _) = _
      rw [if_neg (by decide), if_pos (by trivial)]
    · show (if nI 99 = nI 98 then _ else _) = _
      rw [if_neg (by decide), if_pos (by trivial)]
  · rw [k] at cls ref v1 v2 v3 o1
    have d3 : dcK 104 = 2 := rfl
    rw [d3] at o1
    have w1 : p + 1 < N ∧ 48 ≤ t (p + 1) ∧ t (p + 1) ≤ 57 := o1 0 (by omega)
    have w2 : p + 2 < N ∧ 48 ≤ t (p + 2) ∧ t (p + 2) ≤ 57 := o1 1 (by omega)
    have w21 : 48 ≤ t (p + 1 + 1) := w2.2.1
    rw [b1 w1.1 w1.2.1, b2 w2.1 w2.2.1] at cls
    rw [if_pos rfl, show 10 * (t (p + 1) - 48) + t (p + 1 + 1) - 48 = 10 * (t (p + 1) - 48) + (t (p + 1 + 1) - 48) by omega] at v1
    rw [v1] at ref
    obtain ⟨x, C', Z', e1, e2, e3⟩ := cy_h (τ := τ) M (d1 := t (p + 1) - 48) (d2 := t (p + 2) - 48) (by have := w1.2.2; omega) (by have := w2.2.2; omega)
    refine ⟨x, C', Z', cls.trans (Eq.trans ?_ e1), fun τ' => (ref τ').trans (Eq.trans ?_ (e2 τ')), e3⟩
    · show (if nI 104 = nI 98 then _ else _) = _
      rw [if_neg (by decide), if_neg (by decide), if_neg (by decide), if_neg (by decide), if_neg (by decide), if_neg (by decide), if_pos (by trivial)]
    · show (if nI 104 = nI 98 then _ else _) = _
      rw [if_neg (by decide), if_neg (by decide), if_neg (by decide), if_neg (by decide), if_neg (by decide), if_neg (by decide), if_pos (by trivial)]
  · rw [k] at cls ref v1 v2 v3 o1
    have d3 : dcK 102 = 2 := rfl
    rw [d3] at o1
    have w1 : p + 1 < N ∧ 48 ≤ t (p + 1) ∧ t (p + 1) ≤ 57 := o1 0 (by omega)
    have w2 : p + 2 < N ∧ 48 ≤ t (p + 2) ∧ t (p + 2) ≤ 57 := o1 1 (by omega)
    rw [b1 w1.1 w1.2.1, b2 w2.1 w2.2.1] at cls
    rw [if_neg (by decide)] at v1
    rw [v1, v2 (by decide) (by decide)] at ref
    obtain ⟨x, C', Z', e1, e2, e3⟩ := cy_f (τ := τ) M (d1 := t (p + 1) - 48) (d2 := t (p + 2) - 48) (by have := w1.2.2; omega) (by have := w2.2.2; omega)
    refine ⟨x, C', Z', cls.trans (Eq.trans ?_ e1), fun τ' => (ref τ').trans (Eq.trans ?_ (e2 τ')), e3⟩
    · show (if nI 102 = nI 98 then _ else _) = _
      rw [if_neg (by decide), if_neg (by decide), if_neg (by decide), if_neg (by decide), if_pos (by trivial)]
    · show (if nI 102 = nI 98 then _ else _) = _
      rw [if_neg (by decide), if_neg (by decide), if_neg (by decide), if_neg (by decide), if_pos (by trivial)]
  · rw [k] at cls ref v1 v2 v3 o1
    have d3 : dcK 103 = 2 := rfl
    rw [d3] at o1
    have w1 : p + 1 < N ∧ 48 ≤ t (p + 1) ∧ t (p + 1) ≤ 57 := o1 0 (by omega)
    have w2 : p + 2 < N ∧ 48 ≤ t (p + 2) ∧ t (p + 2) ≤ 57 := o1 1 (by omega)
    rw [b1 w1.1 w1.2.1, b2 w2.1 w2.2.1] at cls
    rw [if_neg (by decide)] at v1
    rw [v1, v2 (by decide) (by decide)] at ref
    obtain ⟨x, C', Z', e1, e2, e3⟩ := cy_g (τ := τ) M (d1 := t (p + 1) - 48) (d2 := t (p + 2) - 48) (by have := w1.2.2; omega) (by have := w2.2.2; omega)
    refine ⟨x, C', Z', cls.trans (Eq.trans ?_ e1), fun τ' => (ref τ').trans (Eq.trans ?_ (e2 τ')), e3⟩
    · show (if nI 103 = nI 98 then _ else _) = _
      rw [if_neg (by decide), if_neg (by decide), if_neg (by decide), if_neg (by decide), if_neg (by decide), if_pos (by trivial)]
    · show (if nI 103 = nI 98 then _ else _) = _
      rw [if_neg (by decide), if_neg (by decide), if_neg (by decide), if_neg (by decide), if_neg (by decide), if_pos (by trivial)]
end Ca
