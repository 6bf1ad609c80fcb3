/-! THE LAW: every script comes to its end -/
section Law
variable {G : GG} {P : Nat → Nat} {xs : Nat → Int32} {L : Nat}
theorem lds_ok {α : Type} {i : Nat} {F : Int32 → Option α} (h : i < L) (hL : L ≤ 3072) : lds xs L (nI i) F = F (xs i) := by
  unfold lds
  rw [nI_clamp (by omega), if_neg]
  rintro (q | q)
  · rw [c0, q_lt (by omega) (by omega)] at q; omega
  · omega
theorem lg_self (x : Int64) : lg_cmp x x = 0 := by
  unfold lg_cmp
  simp
/-- the next step of the law comes to its end from wherever the tie holds -/
def Nx (K : Int32 → ST → Option Unit) (i : Nat) : Prop := ∀ G P, Inv G P → K (nI (i + 6)) (nV G, P) = some ()
theorem lj_feed {K : Int32 → ST → Option Unit} {i : Nat} (hi : i + 6 ≤ L) (hL : L ≤ 3072) (J : Inv G P) (hK : Nx K i) : T_L_law_j248 xs L K (nI i) (nV G, P) = some () := by
  unfold T_L_law_j248
  have ld : ∀ k F, k < 6 → lds xs L (nI i + nI k) F = (F (xs (i + k)) : Option Unit) := fun k F hk => by rw [nI_add, lds_ok (by omega) hL]
  obtain ⟨r, G1, P1, G2, h1, h2, h3⟩ := ok_feed J (xs (i + 1))
  rw [c1, ld _ _ (by omega), h1]
  simp only [e_cI]
  rw [ld _ _ (by omega), h2]
  simp only [e_cI]
  rw [if_pos (by trivial), c6, nI_add, e_vl]
  exact hK G2 P1 h3
theorem lj_bequest {K : Int32 → ST → Option Unit} {i : Nat} (hi : i + 6 ≤ L) (hL : L ≤ 3072) (J : Inv G P) (hK : Nx K i) : T_L_law_j271 xs L K (nI i) (nV G, P) = some () := by
  unfold T_L_law_j271
  obtain ⟨r, G1, P1, G2, h1, h2, h3⟩ := ok_bequest J
  rw [h1]
  simp only [e_cI]
  rw [h2]
  simp only [e_cI]
  rw [if_pos (by trivial), c6, nI_add, e_vl]
  exact hK G2 P1 h3
theorem lj_bagOf {K : Int32 → ST → Option Unit} {i : Nat} (hi : i + 6 ≤ L) (hL : L ≤ 3072) (J : Inv G P) (hK : Nx K i) : T_L_law_j284 xs L K (nI i) (nV G, P) = some () := by
  unfold T_L_law_j284
  have ld : ∀ k F, k < 6 → lds xs L (nI i + nI k) F = (F (xs (i + k)) : Option Unit) := fun k F hk => by rw [nI_add, lds_ok (by omega) hL]
  obtain ⟨r, G1, P1, G2, h1, h2, h3⟩ := ok_bagOf J (xs (i + 1)) (xs (i + 2))
  rw [c1, c2, ld _ _ (by omega), ld _ _ (by omega), h1]
  simp only [e_cI]
  rw [ld _ _ (by omega), ld _ _ (by omega), h2]
  simp only [e_cI]
  rw [if_pos (by trivial), c6, nI_add, e_vl]
  exact hK G2 P1 h3
theorem lj_bearerOf {K : Int32 → ST → Option Unit} {i : Nat} (hi : i + 6 ≤ L) (hL : L ≤ 3072) (J : Inv G P) (hK : Nx K i) : T_L_law_j317 xs L K (nI i) (nV G, P) = some () := by
  unfold T_L_law_j317
  have ld : ∀ k F, k < 6 → lds xs L (nI i + nI k) F = (F (xs (i + k)) : Option Unit) := fun k F hk => by rw [nI_add, lds_ok (by omega) hL]
  obtain ⟨r, G1, P1, G2, h1, h2, h3⟩ := ok_bearerOf J (xs (i + 1)) (xs (i + 2))
  rw [c1, c2, ld _ _ (by omega), ld _ _ (by omega), h1]
  simp only [e_cI]
  rw [ld _ _ (by omega), ld _ _ (by omega), h2]
  simp only [e_cI]
  rw [if_pos (by trivial), c6, nI_add, e_vl]
  exact hK G2 P1 h3
theorem lj_bag {K : Int32 → ST → Option Unit} {i : Nat} (hi : i + 6 ≤ L) (hL : L ≤ 3072) (J : Inv G P) (hK : Nx K i) : T_L_law_j350 xs L K (nI i) (nV G, P) = some () := by
  unfold T_L_law_j350
  have ld : ∀ k F, k < 6 → lds xs L (nI i + nI k) F = (F (xs (i + k)) : Option Unit) := fun k F hk => by rw [nI_add, lds_ok (by omega) hL]
  obtain ⟨r, G1, P1, G2, h1, h2, h3⟩ := ok_bag J (xs (i + 1)) (xs (i + 2)) (xs (i + 3))
  rw [c1, c2, c3, ld _ _ (by omega), ld _ _ (by omega), ld _ _ (by omega), h1]
  simp only [e_cI]
  rw [ld _ _ (by omega), ld _ _ (by omega), ld _ _ (by omega), h2]
  simp only [e_cI]
  rw [if_pos (by trivial), c6, nI_add, e_vl]
  exact hK G2 P1 h3
theorem lj_bearer {K : Int32 → ST → Option Unit} {i : Nat} (hi : i + 6 ≤ L) (hL : L ≤ 3072) (J : Inv G P) (hK : Nx K i) : T_L_law_j393 xs L K (nI i) (nV G, P) = some () := by
  unfold T_L_law_j393
  have ld : ∀ k F, k < 6 → lds xs L (nI i + nI k) F = (F (xs (i + k)) : Option Unit) := fun k F hk => by rw [nI_add, lds_ok (by omega) hL]
  obtain ⟨r, G1, P1, G2, h1, h2, h3⟩ := ok_bearer J (xs (i + 1)) (xs (i + 2)) (xs (i + 3))
  rw [c1, c2, c3, ld _ _ (by omega), ld _ _ (by omega), ld _ _ (by omega), h1]
  simp only [e_cI]
  rw [ld _ _ (by omega), ld _ _ (by omega), ld _ _ (by omega), h2]
  simp only [e_cI]
  rw [if_pos (by trivial), c6, nI_add, e_vl]
  exact hK G2 P1 h3
theorem lj_gives {K : Int32 → ST → Option Unit} {i : Nat} (hi : i + 6 ≤ L) (hL : L ≤ 3072) (J : Inv G P) (hK : Nx K i) : T_L_law_j436 xs L K (nI i) (nV G, P) = some () := by
  unfold T_L_law_j436
  have ld : ∀ k F, k < 6 → lds xs L (nI i + nI k) F = (F (xs (i + k)) : Option Unit) := fun k F hk => by rw [nI_add, lds_ok (by omega) hL]
  obtain ⟨r, G1, P1, G2, h1, h2, h3⟩ := ok_gives J (xs (i + 1)) (xs (i + 2))
  rw [c1, c2, ld _ _ (by omega), ld _ _ (by omega), h1]
  simp only [e_cI]
  rw [ld _ _ (by omega), ld _ _ (by omega), h2]
  simp only [e_cI]
  rw [if_pos (by trivial), c6, nI_add, e_vl]
  exact hK G2 P1 h3
theorem lj_friends {K : Int32 → ST → Option Unit} {i : Nat} (hi : i + 6 ≤ L) (hL : L ≤ 3072) (J : Inv G P) (hK : Nx K i) : T_L_law_j469 xs L K (nI i) (nV G, P) = some () := by
  unfold T_L_law_j469
  have ld : ∀ k F, k < 6 → lds xs L (nI i + nI k) F = (F (xs (i + k)) : Option Unit) := fun k F hk => by rw [nI_add, lds_ok (by omega) hL]
  obtain ⟨r, G1, P1, G2, h1, h2, h3⟩ := ok_friends J (xs (i + 1)) (xs (i + 2))
  rw [c1, c2, ld _ _ (by omega), ld _ _ (by omega), h1]
  simp only [e_cI]
  rw [ld _ _ (by omega), ld _ _ (by omega), h2]
  simp only [e_cI]
  rw [if_pos (by trivial), c6, nI_add, e_vl]
  exact hK G2 P1 h3
theorem lj_wants {K : Int32 → ST → Option Unit} {i : Nat} (hi : i + 6 ≤ L) (hL : L ≤ 3072) (J : Inv G P) (hK : Nx K i) : T_L_law_j502 xs L K (nI i) (nV G, P) = some () := by
  unfold T_L_law_j502
  have ld : ∀ k F, k < 6 → lds xs L (nI i + nI k) F = (F (xs (i + k)) : Option Unit) := fun k F hk => by rw [nI_add, lds_ok (by omega) hL]
  obtain ⟨r, G1, P1, G2, h1, h2, h3⟩ := ok_wants J (xs (i + 1)) (xs (i + 2))
  rw [c1, c2, ld _ _ (by omega), ld _ _ (by omega), h1]
  simp only [e_cI]
  rw [ld _ _ (by omega), ld _ _ (by omega), h2]
  simp only [e_cI]
  rw [if_pos (by trivial), c6, nI_add, e_vl]
  exact hK G2 P1 h3
theorem lj_put {K : Int32 → ST → Option Unit} {i : Nat} (hi : i + 6 ≤ L) (hL : L ≤ 3072) (J : Inv G P) (hK : Nx K i) : T_L_law_j535 xs L K (nI i) (nV G, P) = some () := by
  unfold T_L_law_j535
  have ld : ∀ k F, k < 6 → lds xs L (nI i + nI k) F = (F (xs (i + k)) : Option Unit) := fun k F hk => by rw [nI_add, lds_ok (by omega) hL]
  obtain ⟨r, G1, P1, G2, h1, h2, h3⟩ := ok_put J (xs (i + 1)) (xs (i + 2))
  rw [c1, c2, ld _ _ (by omega), ld _ _ (by omega), h1]
  simp only [e_cI]
  rw [ld _ _ (by omega), ld _ _ (by omega), h2]
  simp only [e_cI]
  rw [if_pos (by trivial), c6, nI_add, e_vl]
  exact hK G2 P1 h3
theorem lj_colonel {K : Int32 → ST → Option Unit} {i : Nat} (hi : i + 6 ≤ L) (hL : L ≤ 3072) (J : Inv G P) (hK : Nx K i) : T_L_law_j568 xs L K (nI i) (nV G, P) = some () := by
  unfold T_L_law_j568
  have ld : ∀ k F, k < 6 → lds xs L (nI i + nI k) F = (F (xs (i + k)) : Option Unit) := fun k F hk => by rw [nI_add, lds_ok (by omega) hL]
  obtain ⟨r, G1, P1, G2, h1, h2, h3⟩ := ok_colonel J (xs (i + 1))
  rw [c1, ld _ _ (by omega), h1]
  simp only [e_cI]
  rw [ld _ _ (by omega), h2]
  simp only [e_cI]
  rw [if_pos (by trivial), c6, nI_add, e_vl]
  exact hK G2 P1 h3
theorem lj_hours {K : Int32 → ST → Option Unit} {i : Nat} (hi : i + 6 ≤ L) (hL : L ≤ 3072) (J : Inv G P) (hK : Nx K i) : T_L_law_j591 xs L K (nI i) (nV G, P) = some () := by
  unfold T_L_law_j591
  have ld : ∀ k F, k < 6 → lds xs L (nI i + nI k) F = (F (xs (i + k)) : Option Unit) := fun k F hk => by rw [nI_add, lds_ok (by omega) hL]
  obtain ⟨r, G1, P1, G2, h1, h2, h3⟩ := ok_hours J (xs (i + 1))
  rw [c1, ld _ _ (by omega), h1]
  simp only [e_cI]
  rw [ld _ _ (by omega), h2]
  simp only [e_cI]
  rw [if_pos (by trivial), c6, nI_add, e_vl]
  exact hK G2 P1 h3
theorem lj_back {K : Int32 → ST → Option Unit} {i : Nat} (hi : i + 6 ≤ L) (hL : L ≤ 3072) (J : Inv G P) (hK : Nx K i) : T_L_law_j614 xs L K (nI i) (nV G, P) = some () := by
  unfold T_L_law_j614
  obtain ⟨r, G1, P1, G2, h1, h2, h3⟩ := ok_back J
  rw [h1]
  simp only [e_cI]
  rw [h2]
  simp only [e_cI]
  rw [if_pos (by trivial), c6, nI_add, e_vl]
  exact hK G2 P1 h3
theorem lj_behind {K : Int32 → ST → Option Unit} {i : Nat} (hi : i + 6 ≤ L) (hL : L ≤ 3072) (J : Inv G P) (hK : Nx K i) : T_L_law_j627 xs L K (nI i) (nV G, P) = some () := by
  unfold T_L_law_j627
  have ld : ∀ k F, k < 6 → lds xs L (nI i + nI k) F = (F (xs (i + k)) : Option Unit) := fun k F hk => by rw [nI_add, lds_ok (by omega) hL]
  obtain ⟨r, G1, P1, G2, h1, h2, h3⟩ := ok_behind J (xs (i + 1)) (xs (i + 2)) (xs (i + 3))
  rw [c1, c2, c3, ld _ _ (by omega), ld _ _ (by omega), ld _ _ (by omega), h1]
  simp only [e_cI]
  rw [ld _ _ (by omega), ld _ _ (by omega), ld _ _ (by omega), h2]
  simp only [e_cI]
  rw [if_pos (by trivial), c6, nI_add, e_vl]
  exact hK G2 P1 h3
theorem lj_meet {K : Int32 → ST → Option Unit} {i : Nat} (hi : i + 6 ≤ L) (hL : L ≤ 3072) (J : Inv G P) (hK : Nx K i) : T_L_law_j670 xs L K (nI i) (nV G, P) = some () := by
  unfold T_L_law_j670
  have ld : ∀ k F, k < 6 → lds xs L (nI i + nI k) F = (F (xs (i + k)) : Option Unit) := fun k F hk => by rw [nI_add, lds_ok (by omega) hL]
  obtain ⟨r, G1, P1, G2, h1, h2, h3⟩ := ok_meet J (xs (i + 1)) (xs (i + 2))
  rw [c1, c2, ld _ _ (by omega), ld _ _ (by omega), h1]
  simp only [e_cI]
  rw [ld _ _ (by omega), ld _ _ (by omega), h2]
  simp only [e_cI]
  rw [if_pos (by trivial), c6, nI_add, e_vl]
  exact hK G2 P1 h3
theorem lj_company {K : Int32 → ST → Option Unit} {i : Nat} (hi : i + 6 ≤ L) (hL : L ≤ 3072) (J : Inv G P) (hK : Nx K i) : T_L_law_j703 xs L K (nI i) (nV G, P) = some () := by
  unfold T_L_law_j703
  have ld : ∀ k F, k < 6 → lds xs L (nI i + nI k) F = (F (xs (i + k)) : Option Unit) := fun k F hk => by rw [nI_add, lds_ok (by omega) hL]
  obtain ⟨r, G1, P1, G2, h1, h2, h3⟩ := ok_company J (xs (i + 1)) (xs (i + 2))
  rw [c1, c2, ld _ _ (by omega), ld _ _ (by omega), h1]
  simp only [e_cI]
  rw [ld _ _ (by omega), ld _ _ (by omega), h2]
  simp only [e_cI]
  rw [if_pos (by trivial), c6, nI_add, e_vl]
  exact hK G2 P1 h3
theorem lj_breathless {K : Int32 → ST → Option Unit} {i : Nat} (hi : i + 6 ≤ L) (hL : L ≤ 3072) (J : Inv G P) (hK : Nx K i) : T_L_law_j736 xs L K (nI i) (nV G, P) = some () := by
  unfold T_L_law_j736
  have ld : ∀ k F, k < 6 → lds xs L (nI i + nI k) F = (F (xs (i + k)) : Option Unit) := fun k F hk => by rw [nI_add, lds_ok (by omega) hL]
  obtain ⟨r, G1, P1, G2, h1, h2, h3⟩ := ok_breathless J (xs (i + 1))
  rw [c1, ld _ _ (by omega), h1]
  simp only [e_cI]
  rw [ld _ _ (by omega), h2]
  simp only [e_cI]
  rw [if_pos (by trivial), c6, nI_add, e_vl]
  exact hK G2 P1 h3
theorem lj_snaps {K : Int32 → ST → Option Unit} {i : Nat} (hi : i + 6 ≤ L) (hL : L ≤ 3072) (J : Inv G P) (hK : Nx K i) : T_L_law_j759 xs L K (nI i) (nV G, P) = some () := by
  unfold T_L_law_j759
  have ld : ∀ k F, k < 6 → lds xs L (nI i + nI k) F = (F (xs (i + k)) : Option Unit) := fun k F hk => by rw [nI_add, lds_ok (by omega) hL]
  obtain ⟨r, G1, P1, G2, h1, h2, h3⟩ := ok_snaps J (xs (i + 1)) (xs (i + 2))
  rw [c1, c2, ld _ _ (by omega), ld _ _ (by omega), h1]
  simp only [e_cI]
  rw [ld _ _ (by omega), ld _ _ (by omega), h2]
  simp only [e_cI]
  rw [if_pos (by trivial), c6, nI_add, e_vl]
  exact hK G2 P1 h3
theorem lj_bestBag {K : Int32 → ST → Option Unit} {i : Nat} (hi : i + 6 ≤ L) (hL : L ≤ 3072) (J : Inv G P) (hK : Nx K i) : T_L_law_j792 xs L K (nI i) (nV G, P) = some () := by
  unfold T_L_law_j792
  have ld : ∀ k F, k < 6 → lds xs L (nI i + nI k) F = (F (xs (i + k)) : Option Unit) := fun k F hk => by rw [nI_add, lds_ok (by omega) hL]
  obtain ⟨r, G1, P1, G2, h1, h2, h3⟩ := ok_bestBag J (xs (i + 1)) (xs (i + 2)) (xs (i + 3))
  rw [c1, c2, c3, ld _ _ (by omega), ld _ _ (by omega), ld _ _ (by omega), h1]
  simp only [e_cI]
  rw [ld _ _ (by omega), ld _ _ (by omega), ld _ _ (by omega), h2]
  simp only [e_cI]
  rw [if_pos (by trivial), c6, nI_add, e_vl]
  exact hK G2 P1 h3
theorem lj_hers {K : Int32 → ST → Option Unit} {i : Nat} (hi : i + 6 ≤ L) (hL : L ≤ 3072) (J : Inv G P) (hK : Nx K i) : T_L_law_j835 xs L K (nI i) (nV G, P) = some () := by
  unfold T_L_law_j835
  have ld : ∀ k F, k < 6 → lds xs L (nI i + nI k) F = (F (xs (i + k)) : Option Unit) := fun k F hk => by rw [nI_add, lds_ok (by omega) hL]
  obtain ⟨r, G1, P1, G2, h1, h2, h3⟩ := ok_hers J (xs (i + 1))
  rw [c1, ld _ _ (by omega), h1]
  simp only [e_cI]
  rw [ld _ _ (by omega), h2]
  simp only [e_cI]
  rw [if_pos (by trivial), c6, nI_add, e_vl]
  exact hK G2 P1 h3
theorem lj_errand {K : Int32 → ST → Option Unit} {i : Nat} (hi : i + 6 ≤ L) (hL : L ≤ 3072) (J : Inv G P) (hK : Nx K i) : T_L_law_j858 xs L K (nI i) (nV G, P) = some () := by
  unfold T_L_law_j858
  have ld : ∀ k F, k < 6 → lds xs L (nI i + nI k) F = (F (xs (i + k)) : Option Unit) := fun k F hk => by rw [nI_add, lds_ok (by omega) hL]
  obtain ⟨r, G1, P1, G2, h1, h2, h3⟩ := ok_errand J (xs (i + 1)) (xs (i + 2))
  rw [c1, c2, ld _ _ (by omega), ld _ _ (by omega), h1]
  simp only [e_cI]
  rw [ld _ _ (by omega), ld _ _ (by omega), h2]
  simp only [e_cI]
  rw [if_pos (by trivial), c6, nI_add, e_vl]
  exact hK G2 P1 h3
theorem lj_defy {K : Int32 → ST → Option Unit} {i : Nat} (hi : i + 6 ≤ L) (hL : L ≤ 3072) (J : Inv G P) (hK : Nx K i) : T_L_law_j891 xs L K (nI i) (nV G, P) = some () := by
  unfold T_L_law_j891
  have ld : ∀ k F, k < 6 → lds xs L (nI i + nI k) F = (F (xs (i + k)) : Option Unit) := fun k F hk => by rw [nI_add, lds_ok (by omega) hL]
  obtain ⟨r, G1, P1, G2, h1, h2, h3⟩ := ok_defy J (xs (i + 1)) (xs (i + 2)) (xs (i + 3))
  rw [c1, c2, c3, ld _ _ (by omega), ld _ _ (by omega), ld _ _ (by omega), h1]
  simp only [e_cI]
  rw [ld _ _ (by omega), ld _ _ (by omega), ld _ _ (by omega), h2]
  simp only [e_cI]
  rw [if_pos (by trivial), c6, nI_add, e_vl]
  exact hK G2 P1 h3
theorem lj_given {K : Int32 → ST → Option Unit} {i : Nat} (hi : i + 6 ≤ L) (hL : L ≤ 3072) (J : Inv G P) (hK : Nx K i) : T_L_law_j934 xs L K (nI i) (nV G, P) = some () := by
  unfold T_L_law_j934
  have ld : ∀ k F, k < 6 → lds xs L (nI i + nI k) F = (F (xs (i + k)) : Option Unit) := fun k F hk => by rw [nI_add, lds_ok (by omega) hL]
  obtain ⟨r, G1, P1, G2, h1, h2, h3⟩ := ok_given J (xs (i + 1)) (xs (i + 2)) (xs (i + 3))
  rw [c1, c2, c3, ld _ _ (by omega), ld _ _ (by omega), ld _ _ (by omega), h1]
  simp only [e_cI]
  rw [ld _ _ (by omega), ld _ _ (by omega), ld _ _ (by omega), h2]
  simp only [e_cI]
  rw [if_pos (by trivial), c6, nI_add, e_vl]
  exact hK G2 P1 h3
theorem lj_quiet {K : Int32 → ST → Option Unit} {i : Nat} (hi : i + 6 ≤ L) (hL : L ≤ 3072) (J : Inv G P) (hK : Nx K i) : T_L_law_j977 xs L K (nI i) (nV G, P) = some () := by
  unfold T_L_law_j977
  have ld : ∀ k F, k < 6 → lds xs L (nI i + nI k) F = (F (xs (i + k)) : Option Unit) := fun k F hk => by rw [nI_add, lds_ok (by omega) hL]
  obtain ⟨r, G1, P1, G2, h1, h2, h3⟩ := ok_quiet J (xs (i + 1)) (xs (i + 2))
  rw [c1, c2, ld _ _ (by omega), ld _ _ (by omega), h1]
  simp only [e_cI]
  rw [ld _ _ (by omega), ld _ _ (by omega), h2]
  simp only [e_cI]
  rw [if_pos (by trivial), c6, nI_add, e_vl]
  exact hK G2 P1 h3
theorem lj_stable {K : Int32 → ST → Option Unit} {i : Nat} (hi : i + 6 ≤ L) (hL : L ≤ 3072) (J : Inv G P) (hK : Nx K i) : T_L_law_j1010 xs L K (nI i) (nV G, P) = some () := by
  unfold T_L_law_j1010
  have ld : ∀ k F, k < 6 → lds xs L (nI i + nI k) F = (F (xs (i + k)) : Option Unit) := fun k F hk => by rw [nI_add, lds_ok (by omega) hL]
  obtain ⟨r, G1, P1, G2, h1, h2, h3⟩ := ok_stable J (xs (i + 1))
  rw [c1, ld _ _ (by omega), h1]
  simp only [e_cI]
  rw [ld _ _ (by omega), h2]
  simp only [e_cI]
  rw [if_pos (by trivial), c6, nI_add, e_vl]
  exact hK G2 P1 h3
theorem lj_whose {K : Int32 → ST → Option Unit} {i : Nat} (hi : i + 6 ≤ L) (hL : L ≤ 3072) (J : Inv G P) (hK : Nx K i) : T_L_law_j1033 xs L K (nI i) (nV G, P) = some () := by
  unfold T_L_law_j1033
  have ld : ∀ k F, k < 6 → lds xs L (nI i + nI k) F = (F (xs (i + k)) : Option Unit) := fun k F hk => by rw [nI_add, lds_ok (by omega) hL]
  obtain ⟨r, G1, P1, G2, h1, h2, h3⟩ := ok_whose J (xs (i + 1)) (xs (i + 2))
  rw [c1, c2, ld _ _ (by omega), ld _ _ (by omega), h1]
  simp only [e_cI]
  rw [ld _ _ (by omega), ld _ _ (by omega), h2]
  simp only [e_cI]
  rw [if_pos (by trivial), c6, nI_add, e_vl]
  exact hK G2 P1 h3
theorem lj_nextTell {K : Int32 → ST → Option Unit} {i : Nat} (hi : i + 6 ≤ L) (hL : L ≤ 3072) (J : Inv G P) (hK : Nx K i) : T_L_law_j1066 xs L K (nI i) (nV G, P) = some () := by
  unfold T_L_law_j1066
  have ld : ∀ k F, k < 6 → lds xs L (nI i + nI k) F = (F (xs (i + k)) : Option Unit) := fun k F hk => by rw [nI_add, lds_ok (by omega) hL]
  obtain ⟨r, G1, P1, G2, h1, h2, h3⟩ := ok_nextTell J (xs (i + 1)) (xs (i + 2)) (xs (i + 3))
  rw [c1, c2, c3, ld _ _ (by omega), ld _ _ (by omega), ld _ _ (by omega), h1]
  simp only [e_cI]
  rw [ld _ _ (by omega), ld _ _ (by omega), ld _ _ (by omega), h2]
  simp only [e_cI]
  rw [if_pos (by trivial), c6, nI_add, e_vl]
  exact hK G2 P1 h3
theorem lj_arm {K : Int32 → ST → Option Unit} {i : Nat} (hi : i + 6 ≤ L) (hL : L ≤ 3072) (J : Inv G P) (hK : Nx K i) : T_L_law_j1109 xs L K (nI i) (nV G, P) = some () := by
  unfold T_L_law_j1109
  have ld : ∀ k F, k < 6 → lds xs L (nI i + nI k) F = (F (xs (i + k)) : Option Unit) := fun k F hk => by rw [nI_add, lds_ok (by omega) hL]
  obtain ⟨r, G1, P1, G2, h1, h2, h3⟩ := ok_arm J (xs (i + 1)) (xs (i + 2)) (xs (i + 3))
  rw [c1, c2, c3, ld _ _ (by omega), ld _ _ (by omega), ld _ _ (by omega), h1]
  simp only [e_cI]
  rw [ld _ _ (by omega), ld _ _ (by omega), ld _ _ (by omega), h2]
  simp only [e_cI]
  rw [if_pos (by trivial), c6, nI_add, e_vl]
  exact hK G2 P1 h3
theorem lj_sleep {K : Int32 → ST → Option Unit} {i : Nat} (hi : i + 6 ≤ L) (hL : L ≤ 3072) (J : Inv G P) (hK : Nx K i) : T_L_law_j1152 xs L K (nI i) (nV G, P) = some () := by
  unfold T_L_law_j1152
  have ld : ∀ k F, k < 6 → lds xs L (nI i + nI k) F = (F (xs (i + k)) : Option Unit) := fun k F hk => by rw [nI_add, lds_ok (by omega) hL]
  obtain ⟨r, G1, P1, G2, h1, h2, h3⟩ := ok_sleep J (xs (i + 1)) (xs (i + 2)) (xs (i + 3)) (xs (i + 4)) (xs (i + 5))
  rw [c1, c2, c3, c4, c5, ld _ _ (by omega), ld _ _ (by omega), ld _ _ (by omega), ld _ _ (by omega), ld _ _ (by omega), h1]
  simp only [e_cJ]
  rw [ld _ _ (by omega), ld _ _ (by omega), ld _ _ (by omega), ld _ _ (by omega), ld _ _ (by omega), h2]
  simp only [e_cJ]
  rw [lg_self, if_pos (by trivial), c6, nI_add, e_vl]
  exact hK G2 P1 h3
theorem lj_swap {K : Int32 → ST → Option Unit} {i : Nat} (hi : i + 6 ≤ L) (hL : L ≤ 3072) (J : Inv G P) (hK : Nx K i) : T_L_law_j1216 xs L K (nI i) (nV G, P) = some () := by
  unfold T_L_law_j1216
  have ld : ∀ k F, k < 6 → lds xs L (nI i + nI k) F = (F (xs (i + k)) : Option Unit) := fun k F hk => by rw [nI_add, lds_ok (by omega) hL]
  obtain ⟨r, G1, P1, G2, h1, h2, h3⟩ := ok_swap J (xs (i + 1))
  rw [c1, ld _ _ (by omega), h1]
  simp only [e_cI]
  rw [ld _ _ (by omega), h2]
  simp only [e_cI]
  rw [if_pos (by trivial), c6, nI_add, e_vl]
  exact hK G2 P1 h3
theorem lj_heir {K : Int32 → ST → Option Unit} {i : Nat} (hi : i + 6 ≤ L) (hL : L ≤ 3072) (J : Inv G P) (hK : Nx K i) : T_L_law_j1239 xs L K (nI i) (nV G, P) = some () := by
  unfold T_L_law_j1239
  have ld : ∀ k F, k < 6 → lds xs L (nI i + nI k) F = (F (xs (i + k)) : Option Unit) := fun k F hk => by rw [nI_add, lds_ok (by omega) hL]
  obtain ⟨r, G1, P1, G2, h1, h2, h3⟩ := ok_heir J (xs (i + 1))
  rw [c1, ld _ _ (by omega), h1]
  simp only [e_cI]
  rw [ld _ _ (by omega), h2]
  simp only [e_cI]
  rw [if_pos (by trivial), c6, nI_add, e_vl]
  exact hK G2 P1 h3
theorem lj_far {K : Int32 → ST → Option Unit} {i : Nat} (hi : i + 6 ≤ L) (hL : L ≤ 3072) (J : Inv G P) (hK : Nx K i) : T_L_law_j1262 xs L K (nI i) (nV G, P) = some () := by
  unfold T_L_law_j1262
  have ld : ∀ k F, k < 6 → lds xs L (nI i + nI k) F = (F (xs (i + k)) : Option Unit) := fun k F hk => by rw [nI_add, lds_ok (by omega) hL]
  obtain ⟨r, G1, P1, G2, h1, h2, h3⟩ := ok_far J (xs (i + 1)) (xs (i + 2))
  rw [c1, c2, ld _ _ (by omega), ld _ _ (by omega), h1]
  simp only [e_cI]
  rw [ld _ _ (by omega), ld _ _ (by omega), h2]
  simp only [e_cI]
  rw [if_pos (by trivial), c6, nI_add, e_vl]
  exact hK G2 P1 h3
theorem lj_tired {K : Int32 → ST → Option Unit} {i : Nat} (hi : i + 6 ≤ L) (hL : L ≤ 3072) (J : Inv G P) (hK : Nx K i) : T_L_law_j1295 xs L K (nI i) (nV G, P) = some () := by
  unfold T_L_law_j1295
  have ld : ∀ k F, k < 6 → lds xs L (nI i + nI k) F = (F (xs (i + k)) : Option Unit) := fun k F hk => by rw [nI_add, lds_ok (by omega) hL]
  obtain ⟨r, G1, P1, G2, h1, h2, h3⟩ := ok_tired J (xs (i + 1))
  rw [c1, ld _ _ (by omega), h1]
  simp only [e_cI]
  rw [ld _ _ (by omega), h2]
  simp only [e_cI]
  rw [if_pos (by trivial), c6, nI_add, e_vl]
  exact hK G2 P1 h3
theorem lj_visits {K : Int32 → ST → Option Unit} {i : Nat} (hi : i + 6 ≤ L) (hL : L ≤ 3072) (J : Inv G P) (hK : Nx K i) : T_L_law_j1318 xs L K (nI i) (nV G, P) = some () := by
  unfold T_L_law_j1318
  have ld : ∀ k F, k < 6 → lds xs L (nI i + nI k) F = (F (xs (i + k)) : Option Unit) := fun k F hk => by rw [nI_add, lds_ok (by omega) hL]
  obtain ⟨r, G1, P1, G2, h1, h2, h3⟩ := ok_visits J (xs (i + 1)) (xs (i + 2)) (xs (i + 3))
  rw [c1, c2, c3, ld _ _ (by omega), ld _ _ (by omega), ld _ _ (by omega), h1]
  simp only [e_cI]
  rw [ld _ _ (by omega), ld _ _ (by omega), ld _ _ (by omega), h2]
  simp only [e_cI]
  rw [if_pos (by trivial), c6, nI_add, e_vl]
  exact hK G2 P1 h3
theorem lj_together {K : Int32 → ST → Option Unit} {i : Nat} (hi : i + 6 ≤ L) (hL : L ≤ 3072) (J : Inv G P) (hK : Nx K i) : T_L_law_j1361 xs L K (nI i) (nV G, P) = some () := by
  unfold T_L_law_j1361
  have ld : ∀ k F, k < 6 → lds xs L (nI i + nI k) F = (F (xs (i + k)) : Option Unit) := fun k F hk => by rw [nI_add, lds_ok (by omega) hL]
  obtain ⟨r, G1, P1, G2, h1, h2, h3⟩ := ok_together J (xs (i + 1)) (xs (i + 2)) (xs (i + 3))
  rw [c1, c2, c3, ld _ _ (by omega), ld _ _ (by omega), ld _ _ (by omega), h1]
  simp only [e_cI]
  rw [ld _ _ (by omega), ld _ _ (by omega), ld _ _ (by omega), h2]
  simp only [e_cI]
  rw [if_pos (by trivial), c6, nI_add, e_vl]
  exact hK G2 P1 h3
theorem lj_rests {K : Int32 → ST → Option Unit} {i : Nat} (hi : i + 6 ≤ L) (hL : L ≤ 3072) (J : Inv G P) (hK : Nx K i) : T_L_law_j1404 xs L K (nI i) (nV G, P) = some () := by
  unfold T_L_law_j1404
  have ld : ∀ k F, k < 6 → lds xs L (nI i + nI k) F = (F (xs (i + k)) : Option Unit) := fun k F hk => by rw [nI_add, lds_ok (by omega) hL]
  obtain ⟨r, G1, P1, G2, h1, h2, h3⟩ := ok_rests J (xs (i + 1)) (xs (i + 2))
  rw [c1, c2, ld _ _ (by omega), ld _ _ (by omega), h1]
  simp only [e_cI]
  rw [ld _ _ (by omega), ld _ _ (by omega), h2]
  simp only [e_cI]
  rw [if_pos (by trivial), c6, nI_add, e_vl]
  exact hK G2 P1 h3
theorem lj_firstSnap {K : Int32 → ST → Option Unit} {i : Nat} (hi : i + 6 ≤ L) (hL : L ≤ 3072) (J : Inv G P) (hK : Nx K i) : T_L_law_j1437 xs L K (nI i) (nV G, P) = some () := by
  unfold T_L_law_j1437
  obtain ⟨r, G1, P1, G2, h1, h2, h3⟩ := ok_firstSnap J
  rw [h1]
  simp only [e_cI]
  rw [h2]
  simp only [e_cI]
  rw [if_pos (by trivial), c6, nI_add, e_vl]
  exact hK G2 P1 h3
theorem lj_busy {K : Int32 → ST → Option Unit} {i : Nat} (hi : i + 6 ≤ L) (hL : L ≤ 3072) (J : Inv G P) (hK : Nx K i) : T_L_law_j1450 xs L K (nI i) (nV G, P) = some () := by
  unfold T_L_law_j1450
  have ld : ∀ k F, k < 6 → lds xs L (nI i + nI k) F = (F (xs (i + k)) : Option Unit) := fun k F hk => by rw [nI_add, lds_ok (by omega) hL]
  obtain ⟨r, G1, P1, G2, h1, h2, h3⟩ := ok_busy J (xs (i + 1)) (xs (i + 2))
  rw [c1, c2, ld _ _ (by omega), ld _ _ (by omega), h1]
  simp only [e_cI]
  rw [ld _ _ (by omega), ld _ _ (by omega), h2]
  simp only [e_cI]
  rw [if_pos (by trivial), c6, nI_add, e_vl]
  exact hK G2 P1 h3
theorem lj_tamed {K : Int32 → ST → Option Unit} {i : Nat} (hi : i + 6 ≤ L) (hL : L ≤ 3072) (J : Inv G P) (hK : Nx K i) : T_L_law_j1483 xs L K (nI i) (nV G, P) = some () := by
  unfold T_L_law_j1483
  have ld : ∀ k F, k < 6 → lds xs L (nI i + nI k) F = (F (xs (i + k)) : Option Unit) := fun k F hk => by rw [nI_add, lds_ok (by omega) hL]
  obtain ⟨r, G1, P1, G2, h1, h2, h3⟩ := ok_tamed J (xs (i + 1))
  rw [c1, ld _ _ (by omega), h1]
  simp only [e_cI]
  rw [ld _ _ (by omega), h2]
  simp only [e_cI]
  rw [if_pos (by trivial), c6, nI_add, e_vl]
  exact hK G2 P1 h3
theorem lj_unled {K : Int32 → ST → Option Unit} {i : Nat} (hi : i + 6 ≤ L) (hL : L ≤ 3072) (J : Inv G P) (hK : Nx K i) : T_L_law_j1506 xs L K (nI i) (nV G, P) = some () := by
  unfold T_L_law_j1506
  obtain ⟨r, F, h1, h2, h3⟩ := ok_unled J
  have h2 := h2 (G, P)
  rw [Ro_self] at h2
  have J2 := J.query (G' := G) (F := F) ⟨fun _ _ _ => rfl, fun _ _ _ _ => rfl⟩ h3
  rw [h1]
  simp only [e_cV]
  rw [h2]
  simp only [e_cI]
  rw [if_pos (by trivial), c6, nI_add, e_vl]
  exact hK _ P J2
theorem lj_gathering {K : Int32 → ST → Option Unit} {i : Nat} (hi : i + 6 ≤ L) (hL : L ≤ 3072) (J : Inv G P) (hK : Nx K i) : T_L_law_j1519 xs L K (nI i) (nV G, P) = some () := by
  unfold T_L_law_j1519
  obtain ⟨r, G1, P1, G2, h1, h2, h3⟩ := ok_gathering J
  rw [h1]
  simp only [e_cI]
  rw [h2]
  simp only [e_cI]
  rw [if_pos (by trivial), c6, nI_add, e_vl]
  exact hK G2 P1 h3
theorem lj_bestHabit {K : Int32 → ST → Option Unit} {i : Nat} (hi : i + 6 ≤ L) (hL : L ≤ 3072) (J : Inv G P) (hK : Nx K i) : T_L_law_j1532 xs L K (nI i) (nV G, P) = some () := by
  unfold T_L_law_j1532
  have ld : ∀ k F, k < 6 → lds xs L (nI i + nI k) F = (F (xs (i + k)) : Option Unit) := fun k F hk => by rw [nI_add, lds_ok (by omega) hL]
  obtain ⟨r, G1, P1, G2, h1, h2, h3⟩ := ok_bestHabit J (xs (i + 1)) (xs (i + 2))
  rw [c1, c2, ld _ _ (by omega), ld _ _ (by omega), h1]
  simp only [e_cI]
  rw [ld _ _ (by omega), ld _ _ (by omega), h2]
  simp only [e_cI]
  rw [if_pos (by trivial), c6, nI_add, e_vl]
  exact hK G2 P1 h3
theorem lj_farthest {K : Int32 → ST → Option Unit} {i : Nat} (hi : i + 6 ≤ L) (hL : L ≤ 3072) (J : Inv G P) (hK : Nx K i) : T_L_law_j1565 xs L K (nI i) (nV G, P) = some () := by
  unfold T_L_law_j1565
  have ld : ∀ k F, k < 6 → lds xs L (nI i + nI k) F = (F (xs (i + k)) : Option Unit) := fun k F hk => by rw [nI_add, lds_ok (by omega) hL]
  obtain ⟨r, G1, P1, G2, h1, h2, h3⟩ := ok_farthest J (xs (i + 1)) (xs (i + 2))
  rw [c1, c2, ld _ _ (by omega), ld _ _ (by omega), h1]
  simp only [e_cI]
  rw [ld _ _ (by omega), ld _ _ (by omega), h2]
  simp only [e_cI]
  rw [if_pos (by trivial), c6, nI_add, e_vl]
  exact hK G2 P1 h3
theorem lj_row {K : Int32 → ST → Option Unit} {i : Nat} (hi : i + 6 ≤ L) (hL : L ≤ 3072) (J : Inv G P) (hK : Nx K i) : T_L_law_j1598 xs L K (nI i) (nV G, P) = some () := by
  unfold T_L_law_j1598
  have ld : ∀ k F, k < 6 → lds xs L (nI i + nI k) F = (F (xs (i + k)) : Option Unit) := fun k F hk => by rw [nI_add, lds_ok (by omega) hL]
  obtain ⟨r, G1, P1, G2, h1, h2, h3⟩ := ok_row J (xs (i + 1))
  rw [c1, ld _ _ (by omega), h1]
  simp only [e_cI]
  rw [ld _ _ (by omega), h2]
  simp only [e_cI]
  rw [if_pos (by trivial), c6, nI_add, e_vl]
  exact hK G2 P1 h3
theorem lj_judge {K : Int32 → ST → Option Unit} {i : Nat} (hi : i + 6 ≤ L) (hL : L ≤ 3072) (J : Inv G P) (hK : Nx K i) : T_L_law_j1621 xs L K (nI i) (nV G, P) = some () := by
  unfold T_L_law_j1621
  have ld : ∀ k F, k < 6 → lds xs L (nI i + nI k) F = (F (xs (i + k)) : Option Unit) := fun k F hk => by rw [nI_add, lds_ok (by omega) hL]
  obtain ⟨r, G1, P1, G2, h1, h2, h3⟩ := ok_judge J (xs (i + 1))
  rw [c1, ld _ _ (by omega), h1]
  simp only [e_cI]
  rw [ld _ _ (by omega), h2]
  simp only [e_cI]
  rw [if_pos (by trivial), c6, nI_add, e_vl]
  exact hK G2 P1 h3
theorem lj_clear {K : Int32 → ST → Option Unit} {i : Nat} (hi : i + 6 ≤ L) (hL : L ≤ 3072) (J : Inv G P) (hK : Nx K i) : T_L_law_j1644 xs L K (nI i) (nV G, P) = some () := by
  unfold T_L_law_j1644
  obtain ⟨r, G1, P1, G2, h1, h2, h3⟩ := ok_clear J
  rw [h1]
  simp only [e_cI]
  rw [h2]
  simp only [e_cI]
  rw [if_pos (by trivial), c6, nI_add, e_vl]
  exact hK G2 P1 h3
theorem lj_lots {K : Int32 → ST → Option Unit} {i : Nat} (hi : i + 6 ≤ L) (hL : L ≤ 3072) (J : Inv G P) (hK : Nx K i) : T_L_law_j1657 xs L K (nI i) (nV G, P) = some () := by
  unfold T_L_law_j1657
  have ld : ∀ k F, k < 6 → lds xs L (nI i + nI k) F = (F (xs (i + k)) : Option Unit) := fun k F hk => by rw [nI_add, lds_ok (by omega) hL]
  obtain ⟨r, G1, P1, G2, h1, h2, h3⟩ := ok_lots J (xs (i + 1)) (xs (i + 2)) (xs (i + 3))
  rw [c1, c2, c3, ld _ _ (by omega), ld _ _ (by omega), ld _ _ (by omega), h1]
  simp only [e_cI]
  rw [ld _ _ (by omega), ld _ _ (by omega), ld _ _ (by omega), h2]
  simp only [e_cI]
  rw [if_pos (by trivial), c6, nI_add, e_vl]
  exact hK G2 P1 h3
theorem lj_image {K : Int32 → ST → Option Unit} {i : Nat} (hi : i + 6 ≤ L) (hL : L ≤ 3072) (J : Inv G P) (hK : Nx K i) : T_L_law_j1700 xs L K (nI i) (nV G, P) = some () := by
  unfold T_L_law_j1700
  obtain ⟨r, G1, P1, G2, h1, h2, h3⟩ := ok_image J
  rw [h1]
  simp only [e_cI]
  rw [h2]
  simp only [e_cI]
  rw [if_pos (by trivial), c6, nI_add, e_vl]
  exact hK G2 P1 h3
theorem lj_restore {K : Int32 → ST → Option Unit} {i : Nat} (hi : i + 6 ≤ L) (hL : L ≤ 3072) (J : Inv G P) (hK : Nx K i) : T_L_law_j1713 xs L K (nI i) (nV G, P) = some () := by
  unfold T_L_law_j1713
  obtain ⟨r, G1, P1, G2, h1, h2, h3⟩ := ok_restore J
  rw [h1]
  simp only [e_cI]
  rw [h2]
  simp only [e_cI]
  rw [if_pos (by trivial), c6, nI_add, e_vl]
  exact hK G2 P1 h3
theorem lj_count {K : Int32 → ST → Option Unit} {i : Nat} (hi : i + 6 ≤ L) (hL : L ≤ 3072) (J : Inv G P) (hK : Nx K i) : T_L_law_j1726 xs L K (nI i) (nV G, P) = some () := by
  unfold T_L_law_j1726
  have ld : ∀ k F, k < 6 → lds xs L (nI i + nI k) F = (F (xs (i + k)) : Option Unit) := fun k F hk => by rw [nI_add, lds_ok (by omega) hL]
  obtain ⟨r, h1, h2⟩ := ok_count J (xs (i + 1))
  have h2 := h2 (G, P)
  rw [Ro_self] at h2
  rw [c1, ld _ _ (by omega), h1]
  simp only [e_cV]
  rw [ld _ _ (by omega), h2]
  simp only [e_cV]
  rw [if_pos (by trivial), c6, nI_add, e_vl]
  exact hK G P J
theorem lt_end {L i : Nat} (hL : L ≤ 3072) (h : L < i + 6) (h4 : i ≤ 4000) : Int32.ofNat L - 6 < nI i := by
  show nI L - nI 6 < nI i
  by_cases q : 6 ≤ L
  · rw [q_sub q, q_lt (by omega) (by omega)]; omega
  · rw [Int32.lt_iff_toInt_lt, sub_int (by omega) (by omega), nI_toInt (by omega)]; omega
theorem law_step {n i : Nat} (hi : i + 6 ≤ L) (hL : L ≤ 3072) (J : Inv G P) (hK : Nx (fun v3 s => T_L_law_L18 xs L n v3 s) i) : T_L_law_L18 xs L (n + 1) (nI i) (nV G, P) = some () := by
  unfold T_L_law_L18
  have eL : Int32.ofNat L - 6 = nI (L - 6) := by
    show nI L - 6 = _
    rw [c6, q_sub (by omega)]
  rw [eL, if_neg (by rw [q_lt (by omega) (by omega)]; omega), lds_ok (by omega) hL]
  generalize xs i &&& 63 = w
  by_cases e : w = 0
  · rw [if_pos e]; exact lj_feed hi hL J hK
  rw [if_neg e]; clear e
  by_cases e : w = 1
  · rw [if_pos e]; exact lj_bequest hi hL J hK
  rw [if_neg e]; clear e
  by_cases e : w = 2
  · rw [if_pos e]; exact lj_bagOf hi hL J hK
  rw [if_neg e]; clear e
  by_cases e : w = 3
  · rw [if_pos e]; exact lj_bearerOf hi hL J hK
  rw [if_neg e]; clear e
  by_cases e : w = 4
  · rw [if_pos e]; exact lj_bag hi hL J hK
  rw [if_neg e]; clear e
  by_cases e : w = 5
  · rw [if_pos e]; exact lj_bearer hi hL J hK
  rw [if_neg e]; clear e
  by_cases e : w = 6
  · rw [if_pos e]; exact lj_gives hi hL J hK
  rw [if_neg e]; clear e
  by_cases e : w = 7
  · rw [if_pos e]; exact lj_friends hi hL J hK
  rw [if_neg e]; clear e
  by_cases e : w = 8
  · rw [if_pos e]; exact lj_wants hi hL J hK
  rw [if_neg e]; clear e
  by_cases e : w = 9
  · rw [if_pos e]; exact lj_put hi hL J hK
  rw [if_neg e]; clear e
  by_cases e : w = 10
  · rw [if_pos e]; exact lj_colonel hi hL J hK
  rw [if_neg e]; clear e
  by_cases e : w = 11
  · rw [if_pos e]; exact lj_hours hi hL J hK
  rw [if_neg e]; clear e
  by_cases e : w = 12
  · rw [if_pos e]; exact lj_back hi hL J hK
  rw [if_neg e]; clear e
  by_cases e : w = 13
  · rw [if_pos e]; exact lj_behind hi hL J hK
  rw [if_neg e]; clear e
  by_cases e : w = 14
  · rw [if_pos e]; exact lj_meet hi hL J hK
  rw [if_neg e]; clear e
  by_cases e : w = 15
  · rw [if_pos e]; exact lj_company hi hL J hK
  rw [if_neg e]; clear e
  by_cases e : w = 16
  · rw [if_pos e]; exact lj_breathless hi hL J hK
  rw [if_neg e]; clear e
  by_cases e : w = 17
  · rw [if_pos e]; exact lj_snaps hi hL J hK
  rw [if_neg e]; clear e
  by_cases e : w = 18
  · rw [if_pos e]; exact lj_bestBag hi hL J hK
  rw [if_neg e]; clear e
  by_cases e : w = 19
  · rw [if_pos e]; exact lj_hers hi hL J hK
  rw [if_neg e]; clear e
  by_cases e : w = 20
  · rw [if_pos e]; exact lj_errand hi hL J hK
  rw [if_neg e]; clear e
  by_cases e : w = 21
  · rw [if_pos e]; exact lj_defy hi hL J hK
  rw [if_neg e]; clear e
  by_cases e : w = 22
  · rw [if_pos e]; exact lj_given hi hL J hK
  rw [if_neg e]; clear e
  by_cases e : w = 23
  · rw [if_pos e]; exact lj_quiet hi hL J hK
  rw [if_neg e]; clear e
  by_cases e : w = 24
  · rw [if_pos e]; exact lj_stable hi hL J hK
  rw [if_neg e]; clear e
  by_cases e : w = 25
  · rw [if_pos e]; exact lj_whose hi hL J hK
  rw [if_neg e]; clear e
  by_cases e : w = 26
  · rw [if_pos e]; exact lj_nextTell hi hL J hK
  rw [if_neg e]; clear e
  by_cases e : w = 27
  · rw [if_pos e]; exact lj_arm hi hL J hK
  rw [if_neg e]; clear e
  by_cases e : w = 28
  · rw [if_pos e]; exact lj_sleep hi hL J hK
  rw [if_neg e]; clear e
  by_cases e : w = 29
  · rw [if_pos e]; exact lj_swap hi hL J hK
  rw [if_neg e]; clear e
  by_cases e : w = 30
  · rw [if_pos e]; exact lj_heir hi hL J hK
  rw [if_neg e]; clear e
  by_cases e : w = 31
  · rw [if_pos e]; exact lj_far hi hL J hK
  rw [if_neg e]; clear e
  by_cases e : w = 32
  · rw [if_pos e]; exact lj_tired hi hL J hK
  rw [if_neg e]; clear e
  by_cases e : w = 33
  · rw [if_pos e]; exact lj_visits hi hL J hK
  rw [if_neg e]; clear e
  by_cases e : w = 34
  · rw [if_pos e]; exact lj_together hi hL J hK
  rw [if_neg e]; clear e
  by_cases e : w = 35
  · rw [if_pos e]; exact lj_rests hi hL J hK
  rw [if_neg e]; clear e
  by_cases e : w = 36
  · rw [if_pos e]; exact lj_firstSnap hi hL J hK
  rw [if_neg e]; clear e
  by_cases e : w = 37
  · rw [if_pos e]; exact lj_busy hi hL J hK
  rw [if_neg e]; clear e
  by_cases e : w = 38
  · rw [if_pos e]; exact lj_tamed hi hL J hK
  rw [if_neg e]; clear e
  by_cases e : w = 39
  · rw [if_pos e]; exact lj_unled hi hL J hK
  rw [if_neg e]; clear e
  by_cases e : w = 40
  · rw [if_pos e]; exact lj_gathering hi hL J hK
  rw [if_neg e]; clear e
  by_cases e : w = 41
  · rw [if_pos e]; exact lj_bestHabit hi hL J hK
  rw [if_neg e]; clear e
  by_cases e : w = 42
  · rw [if_pos e]; exact lj_farthest hi hL J hK
  rw [if_neg e]; clear e
  by_cases e : w = 43
  · rw [if_pos e]; exact lj_row hi hL J hK
  rw [if_neg e]; clear e
  by_cases e : w = 44
  · rw [if_pos e]; exact lj_judge hi hL J hK
  rw [if_neg e]; clear e
  by_cases e : w = 45
  · rw [if_pos e]; exact lj_clear hi hL J hK
  rw [if_neg e]; clear e
  by_cases e : w = 46
  · rw [if_pos e]; exact lj_lots hi hL J hK
  rw [if_neg e]; clear e
  by_cases e : w = 47
  · rw [if_pos e]; exact lj_image hi hL J hK
  rw [if_neg e]; clear e
  by_cases e : w = 48
  · rw [if_pos e]; exact lj_restore hi hL J hK
  rw [if_neg e]; clear e
  by_cases e : w = 49
  · rw [if_pos e]; exact lj_count hi hL J hK
  rw [if_neg e]; clear e
  rw [c6, nI_add, e_vl]
  exact hK G P J
theorem law_all (hL : L ≤ 3072) : ∀ r i n G P, L ≤ i + 6 * r → i ≤ 4000 → r < n → Inv G P → T_L_law_L18 xs L n (nI i) (nV G, P) = some () := by
  intro r
  induction r with
  | zero =>
    intro i n G P h h4 hn J
    obtain ⟨n, rfl⟩ := fu_one hn
    unfold T_L_law_L18
    rw [if_pos (lt_end hL (by omega) h4)]
  | succ r ih =>
    intro i n G P h h4 hn J
    obtain ⟨n, rfl⟩ := fu_one (by omega : 0 < n)
    by_cases q : i + 6 ≤ L
    · exact law_step q hL J (fun G P J => ih (i + 6) n G P (by omega) (by omega) (by omega) J)
    · unfold T_L_law_L18
      rw [if_pos (lt_end hL (by omega) h4)]
def g0 : GG := fun o k i => natOf (st0.1 o k i)
theorem g0_st : st0 = (nV g0, st0.2) := by
  show (st0.1, st0.2) = _
  rw [show st0.1 = nV g0 from nV_all st0.1]
theorem g0_13 {k i : Nat} (h : ¬ (k = 30 ∧ i = 0)) : g0 13 k i = 0 := by
  show natOf (if 13 = 13 then (if k = 30 ∧ i = 0 then 9 else 0) else _) = 0
  rw [if_pos rfl, if_neg h]; rfl
theorem g0_o {o k i : Nat} (h : o ≠ 13) (h2 : k ≠ 18) : g0 o k i = 0 := by
  show natOf (if o = 13 then _ else if (1 ≤ o ∧ o ≤ 11) ∧ (k = 18 ∧ i = 0) then _ else 0) = 0
  rw [if_neg h, if_neg (by omega)]; rfl
theorem g0_30 : g0 13 30 0 = 9 := rfl
theorem inv0 : Inv g0 st0.2 := by
  have hw : WF (g0 13) := by
    refine ⟨?_, ?_, fun b hb => ?_, fun l hl => ?_, fun l m hl => ?_, ?_⟩
    · rw [g0_13 (by omega)]; omega
    · rw [g0_13 (by omega)]; omega
    · rw [g0_13 (by omega)] at hb; omega
    · rw [g0_13 (by omega)] at hl; omega
    · rw [g0_13 (by omega)] at hl; omega
    · rw [g0_13 (by omega)]; omega
  refine ⟨⟨⟨⟨?_, ?_, ?_, ?_⟩, fun b hb => ?_, fun l hl => ?_⟩, hw, ?_, ?_⟩, ⟨?_, ?_, fun q => ?_⟩, ⟨?_, ?_, fun k hk => ?_, fun k hk => ⟨?_, ?_, fun j hj q => ?_⟩⟩, ⟨?_, ?_, fun k hk => ?_⟩, ⟨?_, ?_, fun k hk => ?_⟩, fun k hk => ?_⟩
  · rw [g0_13 (by omega), g0_o (by omega) (by omega)]
  · rw [g0_13 (by omega), g0_o (by omega) (by omega)]
  · rw [g0_13 (by omega), g0_o (by omega) (by omega)]
  · rw [g0_13 (by omega), g0_o (by omega) (by omega)]
  · rw [g0_13 (by omega)] at hb; omega
  · rw [g0_13 (by omega)] at hl; omega
  · rw [g0_13 (by omega)]; omega
  · rw [g0_30]; omega
  · rw [g0_13 (by omega), g0_o (by omega) (by omega)]
  · rw [g0_o (by omega) (by omega)]; omega
  · rw [g0_o (by omega) (by omega)] at q; exact absurd rfl q
  · rw [g0_13 (by omega), g0_o (by omega) (by omega)]
  · rw [g0_o (by omega) (by omega)]; omega
  · rw [g0_o (by omega) (by omega)] at hk; omega
  · show 4 ≤ 4 + k; omega
  · show 4 + k ≤ 11; omega
  · have q : 4 + k = 4 + j := q
    omega
  · rw [g0_13 (by omega), g0_o (by omega) (by omega)]
  · rw [g0_o (by omega) (by omega)]; omega
  · rw [g0_o (by omega) (by omega)] at hk; omega
  · rw [g0_13 (by omega), g0_o (by omega) (by omega)]
  · rw [g0_o (by omega) (by omega)]; omega
  · rw [g0_o (by omega) (by omega)] at hk; omega
  · rw [g0_13 (by omega), g0_o (by omega) (by omega)]
end Law
theorem law_ok (L : Nat) (hL : L ≤ 3072) (xs : Nat → Int32) : T_L_law_L18 xs L FU 0 st0 = some () := by
  rw [g0_st, c0]
  exact law_all hL 512 0 FU g0 st0.2 (by omega) (by omega) (FU_gt (by omega)) inv0
