/-! the letters read, in the reference -/
def RD (t : Nat → Nat) (N q : Nat) (Y : SS) : Prop := (Y 19 0 = N ∧ ∀ k, k < N → Y 15 k = t k ∧ t k ≤ 255) ∧ Y 20 0 = q
def VL (t : Nat → Nat) (k q x : Nat) (Y : SS) : Prop := Y 18 x = (if k = 104 then 10 * (t q - 48) + t (q + 1) - 48 else t q - 48) ∧ (k ≠ 104 → k ≠ 99 → Y 18 (x + 1) = t (q + 1) - 48) ∧ (k = 98 ∨ k = 108 → Y 18 (x + 2) = t (q + 2) - 48)
section Rd
variable {τ : TT} {A Y : SS} {t : Nat → Nat} {N q : Nat}
theorem RD.up (h : RD t N q Y) {f i x : Nat} (hf : f ≠ 15 ∧ f ≠ 19 ∧ f ≠ 20) : RD t N q (Jvm.Pilot.@@N@@.up Y f i x) := by
  refine ⟨⟨by rw [up_ne _ (by omega)]; exact h.1.1, fun k hk => by rw [up_ne _ (by omega)]; exact h.1.2 k hk⟩, by rw [up_ne _ (by omega)]; exact h.2⟩
theorem RD.go (h : RD t N q Y) (x : Nat) : RD t N x (Jvm.Pilot.@@N@@.up Y 20 0 x) := by
  refine ⟨⟨by rw [up_ne _ (by omega)]; exact h.1.1, fun k hk => by rw [up_ne _ (by omega)]; exact h.1.2 k hk⟩, up_at _ _ _ _⟩
theorem RD.next (h : RD t N q Y) (hN : N ≤ 96) (hq : q ≤ 200) : T_X3_next (Ro τ 13 Y) = some (if q < N then nI (t q) else -nI 1) := x3_next hN h.1.1 h.1.2 hq h.2
theorem in_dig {σ : ST} {k : Nat} (h : k ≤ 255) : T_X3_isIn σ (nI k) (nI 48) (nI 57) = some (nI (if 48 ≤ k ∧ k ≤ 57 then 1 else 0)) := by
  unfold T_X3_isIn
  rw [i_lt (by omega) (by omega), i_lt (by omega) (by omega), c0, c1]
  by_cases q1 : k < 48
  · rw [if_pos q1, if_neg (by omega)]
  · rw [if_neg q1]
    by_cases q2 : 57 < k
    · rw [if_pos q2, if_neg (by omega)]
    · rw [if_neg q2, if_pos (by omega)]
theorem in_end {σ : ST} : T_X3_isIn σ (-nI 1) (nI 48) (nI 57) = some (nI 0) := by
  unfold T_X3_isIn
  rw [if_pos (by decide), c0]
theorem rdS (h : RD t N q Y) (hN : N ≤ 96) (hq : q ≤ 200) {x m v i n : Nat} (hi : i < m) (hm : m ≤ 5) (hv : v ≤ 1000) : T_X3_readsDigits_L5 (n + 1) (nI x) (nI m) (nI v) (nI i) (Ro τ 13 Y) = if q < N ∧ 48 ≤ t q ∧ t q ≤ 57 then T_X3_readsDigits_L5 n (nI x) (nI m) (nI (10 * v + t q - 48)) (nI (i + 1)) (Ro τ 13 (up Y 20 0 (q + 1))) else some (nI 0, Ro τ 13 Y) := by
  conv => lhs; unfold T_X3_readsDigits_L5
  rw [if_neg (by rw [q_le (by omega) (by omega)]; omega), h.next hN hq]
  simp only [e_cV]
  rw [c48, c57]
  by_cases z : q < N
  · have tq := (h.1.2 q z).2
    rw [if_pos z, in_dig tq]
    simp only [e_cV]
    by_cases z2 : 48 ≤ t q ∧ t q ≤ 57
    · rw [if_pos z2, c0, if_neg (show ¬ nI 1 = nI 0 by decide), if_pos (show q < N ∧ 48 ≤ t q ∧ t q ≤ 57 from ⟨z, z2⟩), c10, q_mul, nI_add, q_sub (by omega), e_vl, ro_gf, h.2, c1, nI_add, ro_pf, nI_add, e_vl]
    · rw [if_neg z2, c0, if_pos (show nI 0 = nI 0 from rfl), if_neg (show ¬ (q < N ∧ 48 ≤ t q ∧ t q ≤ 57) from fun y => z2 y.2)]
  · rw [if_neg z, in_end, if_neg (fun y => z y.1)]
    simp only [e_cV]
    rw [c0, if_pos (by trivial)]
theorem rdE {x m v n : Nat} (hx : x < 144) (hm : m ≤ 5) : T_X3_readsDigits_L5 (n + 1) (nI x) (nI m) (nI v) (nI m) (Ro τ 13 Y) = some (nI 1, Ro τ 13 (up Y 18 x v)) := by
  unfold T_X3_readsDigits_L5
  rw [if_pos (by rw [q_le (by omega) (by omega)]; omega), ro_sd (by omega) (by omega), c1]
theorem rz_n1 {α : Type} {M : Option α} : rz (nI 1) M = M := rz_of (Or.inr rfl)
theorem rz_n0 {α : Type} {M : Option α} : rz (nI 0) M = M := rz_of (Or.inl rfl)
theorem FU_2 : ∃ m, FU = m + 3 := ⟨2997, rfl⟩
theorem rd1 (h : RD t N q Y) (hN : N ≤ 96) (hq : q ≤ 200) {x : Nat} (hx : x < 144) : T_X3_readsDigits (nI x) (nI 1) (Ro τ 13 Y) = if q < N ∧ 48 ≤ t q ∧ t q ≤ 57 then some (nI 1, Ro τ 13 (up (up Y 20 0 (q + 1)) 18 x (t q - 48))) else some (nI 0, Ro τ 13 Y) := by
  obtain ⟨m, hm⟩ := FU_2
  unfold T_X3_readsDigits
  rw [c0, hm, rdS h hN hq (by omega) (by omega) (by omega), Nat.mul_zero, Nat.zero_add, Nat.zero_add, rdE hx (by omega)]
theorem rd2 (h : RD t N q Y) (hN : N ≤ 96) (hq : q ≤ 199) {x : Nat} (hx : x < 144) : T_X3_readsDigits (nI x) (nI 2) (Ro τ 13 Y) = if q < N ∧ 48 ≤ t q ∧ t q ≤ 57 then (if q + 1 < N ∧ 48 ≤ t (q + 1) ∧ t (q + 1) ≤ 57 then some (nI 1, Ro τ 13 (up (up (up Y 20 0 (q + 1)) 20 0 (q + 2)) 18 x (10 * (t q - 48) + t (q + 1) - 48))) else some (nI 0, Ro τ 13 (up Y 20 0 (q + 1)))) else some (nI 0, Ro τ 13 Y) := by
  obtain ⟨m, hm⟩ := FU_2
  unfold T_X3_readsDigits
  rw [c0, hm, rdS h hN (by omega) (by omega) (by omega) (by omega), Nat.mul_zero, Nat.zero_add, Nat.zero_add]
  by_cases z : q < N ∧ 48 ≤ t q ∧ t q ≤ 57
  · rw [if_pos z, if_pos z, rdS (h.go (q + 1)) hN (by omega) (by omega) (by omega) (by omega), rdE hx (by omega)]
  · rw [if_neg z, if_neg z]
/-- what reading a statement's digits leaves -/
def RA (t : Nat → Nat) (N k q x r : Nat) (Y Y' : SS) : Prop := (∀ g i, g ≠ 18 → g ≠ 20 → Y' g i = Y g i) ∧ (∀ i, i < x → Y' 18 i = Y 18 i) ∧ ((r = 1 ∧ scN t N (dcK k) q = scN t N 0 (q + dcK k) ∧ Y' 20 0 = q + dcK k ∧ q + dcK k ≤ N ∧ VL t k q x Y') ∨ (r = 0 ∧ scN t N (dcK k) q = Y' 20 0 ∧ Y' 20 0 ≤ N))
theorem ra_j44 (h : RD t N q Y) (hN : N ≤ 96) (hq : q ≤ N) {x k : Nat} (hx : x + 2 < 144) (hk : k = 98 ∨ k = 108) : ∃ r Y', (∀ τ, T_X3_readsAll_j44 (nI x) (Ro τ 13 Y) = some (nI r, Ro τ 13 Y')) ∧ RA t N k q x r Y Y' := by
  have d3 : dcK k = 3 := by unfold dcK; rw [if_pos hk]
  unfold RA
  rw [d3]
  have k104 : ¬ k = 104 := by omega
  by_cases z1 : q < N ∧ 48 ≤ t q ∧ t q ≤ 57
  · have h1 := (h.go (q + 1)).up (f := 18) (i := x) (x := t q - 48) (by decide)
    rw [scN_st z1]
    by_cases z2 : q + 1 < N ∧ 48 ≤ t (q + 1) ∧ t (q + 1) ≤ 57
    · have h2 := (h1.go (q + 1 + 1)).up (f := 18) (i := x + 1) (x := t (q + 1) - 48) (by decide)
      rw [scN_st z2]
      by_cases z3 : q + 1 + 1 < N ∧ 48 ≤ t (q + 1 + 1) ∧ t (q + 1 + 1) ≤ 57
      · rw [scN_st z3]
        refine ⟨1, up (up (up (up (up (up Y 20 0 (q + 1)) 18 x (t q - 48)) 20 0 (q + 1 + 1)) 18 (x + 1) (t (q + 1) - 48)) 20 0 (q + 1 + 1 + 1)) 18 (x + 2) (t (q + 1 + 1) - 48), fun τ => ?_, fun g i h18 h20 => ?_, fun i hi => ?_, Or.inl ⟨rfl, rfl, ?_, by omega, ?_, fun _ _ => ?_, fun _ => ?_⟩⟩
        · unfold T_X3_readsAll_j44
          rw [c1, rd1 h hN (by omega) (by omega), if_pos z1]
          simp only [e_cI]
          rw [c0, if_neg (by decide), nI_add, rd1 h1 hN (by omega) (by omega), if_pos z2]
          simp only [e_cI]
          rw [if_neg (by decide), c2, nI_add, rd1 h2 hN (by omega) (by omega), if_pos z3]
          simp only [e_cI]
          rw [if_neg (by decide)]
        · rw [up_ne _ (by omega), up_ne _ (by omega), up_ne _ (by omega), up_ne _ (by omega), up_ne _ (by omega), up_ne _ (by omega)]
        · rw [up_ne _ (by omega), up_ne _ (by omega), up_ne _ (by omega), up_ne _ (by omega), up_ne _ (by omega), up_ne _ (by omega)]
        · rw [up_ne _ (by omega), up_at]
        · rw [if_neg k104, up_ne _ (by omega), up_ne _ (by omega), up_ne _ (by omega), up_ne _ (by omega), up_at]
        · rw [up_ne _ (by omega), up_ne _ (by omega), up_at]
        · rw [up_at]
      · refine ⟨0, up (up (up (up Y 20 0 (q + 1)) 18 x (t q - 48)) 20 0 (q + 1 + 1)) 18 (x + 1) (t (q + 1) - 48), fun τ => ?_, fun g i h18 h20 => ?_, fun i hi => ?_, Or.inr ⟨rfl, ?_, ?_⟩⟩
        · unfold T_X3_readsAll_j44
          rw [c1, rd1 h hN (by omega) (by omega), if_pos z1]
          simp only [e_cI]
          rw [c0, if_neg (by decide), nI_add, rd1 h1 hN (by omega) (by omega), if_pos z2]
          simp only [e_cI]
          rw [if_neg (by decide), c2, nI_add, rd1 h2 hN (by omega) (by omega), if_neg z3]
          simp only [e_cI]
          rw [if_pos (by trivial)]
        · rw [up_ne _ (by omega), up_ne _ (by omega), up_ne _ (by omega), up_ne _ (by omega)]
        · rw [up_ne _ (by omega), up_ne _ (by omega), up_ne _ (by omega), up_ne _ (by omega)]
        · rw [scN_sf z3, up_ne _ (by omega), up_at]
        · rw [up_ne _ (by omega), up_at]; omega
    · refine ⟨0, up (up Y 20 0 (q + 1)) 18 x (t q - 48), fun τ => ?_, fun g i h18 h20 => ?_, fun i hi => ?_, Or.inr ⟨rfl, ?_, ?_⟩⟩
      · unfold T_X3_readsAll_j44
        rw [c1, rd1 h hN (by omega) (by omega), if_pos z1]
        simp only [e_cI]
        rw [c0, if_neg (by decide), nI_add, rd1 h1 hN (by omega) (by omega), if_neg z2]
        simp only [e_cI]
        rw [if_pos (by trivial)]
      · rw [up_ne _ (by omega), up_ne _ (by omega)]
      · rw [up_ne _ (by omega), up_ne _ (by omega)]
      · rw [scN_sf z2, up_ne _ (by omega), up_at]
      · rw [up_ne _ (by omega), up_at]; omega
  · refine ⟨0, Y, fun τ => ?_, fun _ _ _ _ => rfl, fun _ _ => rfl, Or.inr ⟨rfl, ?_, ?_⟩⟩
    · unfold T_X3_readsAll_j44
      rw [c1, rd1 h hN (by omega) (by omega), if_neg z1]
      simp only [e_cI]
      rw [c0, if_pos (by trivial)]
    · rw [scN_sf z1, h.2]
    · rw [h.2]; exact hq
theorem ra_all (h : RD t N q Y) (hN : N ≤ 96) (hq : q ≤ N) {x k : Nat} (hx : x + 2 < 144) (hk : dcK k ≠ 0) : ∃ r Y', (∀ τ, T_X3_readsAll (nI k) (nI x) (Ro τ 13 Y) = some (nI r, Ro τ 13 Y')) ∧ RA t N k q x r Y Y' := by
  have cases : (k = 98 ∨ k = 108) ∨ k = 99 ∨ k = 104 ∨ k = 102 ∨ k = 103 := by
    unfold dcK at hk
    split at hk
    · omega
    · split at hk
      · omega
      · split at hk <;> omega
  rcases cases with z | rfl | rfl | z
  · obtain ⟨r, Y', h1, h2⟩ := ra_j44 h hN hq hx z
    refine ⟨r, Y', fun τ => ?_, h2⟩
    rw [← h1 τ]
    unfold T_X3_readsAll
    rcases z with rfl | rfl
    · rw [c98, if_pos (by trivial)]
    · rw [c98, if_neg (by decide), c99, if_neg (by decide), c104, if_neg (by decide), c108, if_pos (by trivial)]
  · have d1 : dcK 99 = 1 := rfl
    unfold RA
    rw [d1]
    by_cases z1 : q < N ∧ 48 ≤ t q ∧ t q ≤ 57
    · refine ⟨1, up (up Y 20 0 (q + 1)) 18 x (t q - 48), fun τ => ?_, fun g i h18 h20 => ?_, fun i hi => ?_, Or.inl ⟨rfl, scN_st z1, ?_, by omega, ?_, fun _ q => absurd rfl q, fun q => by omega⟩⟩
      · unfold T_X3_readsAll
        rw [c98, if_neg (by decide), c99, if_pos (by trivial), c1, rd1 h hN (by omega) (by omega), if_pos z1]
        simp only [e_cI]
        rw [rz_n1]
      · rw [up_ne _ (by omega), up_ne _ (by omega)]
      · rw [up_ne _ (by omega), up_ne _ (by omega)]
      · rw [up_ne _ (by omega), up_at]
      · rw [if_neg (by decide), up_at]
    · refine ⟨0, Y, fun τ => ?_, fun _ _ _ _ => rfl, fun _ _ => rfl, Or.inr ⟨rfl, ?_, ?_⟩⟩
      · unfold T_X3_readsAll
        rw [c98, if_neg (by decide), c99, if_pos (by trivial), c1, rd1 h hN (by omega) (by omega), if_neg z1]
        simp only [e_cI]
        rw [rz_n0]
      · rw [scN_sf z1, h.2]
      · rw [h.2]; exact hq
  · have d2 : dcK 104 = 2 := rfl
    unfold RA
    rw [d2]
    have st : ∀ τ, T_X3_readsAll (nI 104) (nI x) (Ro τ 13 Y) = cI (T_X3_readsDigits (nI x) (nI 2) (Ro τ 13 Y)) (fun x5 σ6 => rz x5 (some (x5, σ6))) := by
      intro τ
      unfold T_X3_readsAll
      rw [c98, if_neg (by decide), c99, if_neg (by decide), c104, if_pos (by trivial), c2]
    by_cases z1 : q < N ∧ 48 ≤ t q ∧ t q ≤ 57
    · by_cases z2 : q + 1 < N ∧ 48 ≤ t (q + 1) ∧ t (q + 1) ≤ 57
      · refine ⟨1, up (up (up Y 20 0 (q + 1)) 20 0 (q + 2)) 18 x (10 * (t q - 48) + t (q + 1) - 48), fun τ => ?_, fun g i h18 h20 => ?_, fun i hi => ?_, Or.inl ⟨rfl, ?_, ?_, by omega, ?_, fun q => absurd rfl q, fun q => by omega⟩⟩
        · rw [st, rd2 h hN (by omega) (by omega), if_pos z1, if_pos z2]
          simp only [e_cI]
          rw [rz_n1]
        · rw [up_ne _ (by omega), up_ne _ (by omega), up_ne _ (by omega)]
        · rw [up_ne _ (by omega), up_ne _ (by omega), up_ne _ (by omega)]
        · rw [scN_st z1, scN_st z2]
        · rw [up_ne _ (by omega), up_at]
        · rw [if_pos (by trivial), up_at]
      · refine ⟨0, up Y 20 0 (q + 1), fun τ => ?_, fun g i h18 h20 => ?_, fun i hi => ?_, Or.inr ⟨rfl, ?_, ?_⟩⟩
        · rw [st, rd2 h hN (by omega) (by omega), if_pos z1, if_neg z2]
          simp only [e_cI]
          rw [rz_n0]
        · rw [up_ne _ (by omega)]
        · rw [up_ne _ (by omega)]
        · rw [scN_st z1, scN_sf z2, up_at]
        · rw [up_at]; omega
    · refine ⟨0, Y, fun τ => ?_, fun _ _ _ _ => rfl, fun _ _ => rfl, Or.inr ⟨rfl, ?_, ?_⟩⟩
      · rw [st, rd2 h hN (by omega) (by omega), if_neg z1]
        simp only [e_cI]
        rw [rz_n0]
      · rw [scN_sf z1, h.2]
      · rw [h.2]; exact hq
  · have d2 : dcK k = 2 := by rcases z with rfl | rfl <;> rfl
    unfold RA
    rw [d2]
    have st : ∀ τ, T_X3_readsAll (nI k) (nI x) (Ro τ 13 Y) = cI (T_X3_readsDigits (nI x) (nI 1) (Ro τ 13 Y)) (fun x1 σ2 => if x1 = nI 0 then some (nI 0, σ2) else cI (T_X3_readsDigits (nI (x + 1)) (nI 1) σ2) (fun x3 σ4 => if x3 = nI 0 then some (nI 0, σ4) else some (nI 1, σ4))) := by
      intro τ
      unfold T_X3_readsAll
      rw [c98, if_neg (by rcases z with rfl | rfl <;> decide), c99, if_neg (by rcases z with rfl | rfl <;> decide), c104, if_neg (by rcases z with rfl | rfl <;> decide), c108, if_neg (by rcases z with rfl | rfl <;> decide), c1, c0, nI_add]
    by_cases z1 : q < N ∧ 48 ≤ t q ∧ t q ≤ 57
    · have h1 := (h.go (q + 1)).up (f := 18) (i := x) (x := t q - 48) (by decide)
      by_cases z2 : q + 1 < N ∧ 48 ≤ t (q + 1) ∧ t (q + 1) ≤ 57
      · refine ⟨1, up (up (up (up Y 20 0 (q + 1)) 18 x (t q - 48)) 20 0 (q + 1 + 1)) 18 (x + 1) (t (q + 1) - 48), fun τ => ?_, fun g i h18 h20 => ?_, fun i hi => ?_, Or.inl ⟨rfl, ?_, ?_, by omega, ?_, fun _ _ => ?_, fun q => by omega⟩⟩
        · rw [st, rd1 h hN (by omega) (by omega), if_pos z1]
          simp only [e_cI]
          rw [if_neg (by decide), rd1 h1 hN (by omega) (by omega), if_pos z2]
          simp only [e_cI]
          rw [if_neg (by decide)]
        · rw [up_ne _ (by omega), up_ne _ (by omega), up_ne _ (by omega), up_ne _ (by omega)]
        · rw [up_ne _ (by omega), up_ne _ (by omega), up_ne _ (by omega), up_ne _ (by omega)]
        · rw [scN_st z1, scN_st z2]
        · rw [up_ne _ (by omega), up_at]
        · rw [if_neg (by omega), up_ne _ (by omega), up_ne _ (by omega), up_at]
        · rw [up_at]
      · refine ⟨0, up (up Y 20 0 (q + 1)) 18 x (t q - 48), fun τ => ?_, fun g i h18 h20 => ?_, fun i hi => ?_, Or.inr ⟨rfl, ?_, ?_⟩⟩
        · rw [st, rd1 h hN (by omega) (by omega), if_pos z1]
          simp only [e_cI]
          rw [if_neg (by decide), rd1 h1 hN (by omega) (by omega), if_neg z2]
          simp only [e_cI]
          rw [if_pos (by trivial)]
        · rw [up_ne _ (by omega), up_ne _ (by omega)]
        · rw [up_ne _ (by omega), up_ne _ (by omega)]
        · rw [scN_st z1, scN_sf z2, up_ne _ (by omega), up_at]
        · rw [up_ne _ (by omega), up_at]; omega
    · refine ⟨0, Y, fun τ => ?_, fun _ _ _ _ => rfl, fun _ _ => rfl, Or.inr ⟨rfl, ?_, ?_⟩⟩
      · rw [st, rd1 h hN (by omega) (by omega), if_neg z1]
        simp only [e_cI]
        rw [if_pos (by trivial)]
      · rw [scN_sf z1, h.2]
      · rw [h.2]; exact hq
end Rd
