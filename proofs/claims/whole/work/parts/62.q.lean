/-! RANKS -/
theorem sumN_mono {g h : Nat → Nat} : ∀ r l, (∀ i, l ≤ i → i < l + r → g i ≤ h i) → sumN g r l ≤ sumN h r l
  | 0, l, _ => Nat.le_refl _
  | r + 1, l, k => by
    show g l + sumN g r (l + 1) ≤ h l + sumN h r (l + 1)
    have h1 := k l (Nat.le_refl _) (by omega)
    have h2 := sumN_mono r (l + 1) (fun i a b => k i (by omega) (by omega))
    omega
theorem sumN_lt {g h : Nat → Nat} {i0 : Nat} : ∀ r l, (∀ i, l ≤ i → i < l + r → g i ≤ h i) → l ≤ i0 → i0 < l + r → g i0 < h i0 → sumN g r l < sumN h r l
  | 0, l, _, h1, h2, _ => by omega
  | r + 1, l, k, h1, h2, h3 => by
    show g l + sumN g r (l + 1) < h l + sumN h r (l + 1)
    have k1 := k l (Nat.le_refl _) (by omega)
    by_cases e : i0 = l
    · have k2 := sumN_mono r (l + 1) (fun i a b => k i (by omega) (by omega))
      rw [e] at h3
      omega
    · have k2 := sumN_lt r (l + 1) (fun i a b => k i (by omega) (by omega)) (by omega) (by omega) h3
      omega
theorem sumN_snoc {g : Nat → Nat} : ∀ r l, sumN g (r + 1) l = sumN g r l + g (l + r)
  | 0, l => by show g l + 0 = 0 + g l; omega
  | r + 1, l => by
    show g l + sumN g (r + 1) (l + 1) = g l + sumN g r (l + 1) + g (l + (r + 1))
    rw [sumN_snoc r (l + 1), show l + 1 + r = l + (r + 1) by omega]; omega
theorem sumN_ones : ∀ r l, sumN (fun _ => 1) r l = r
  | 0, l => rfl
  | r + 1, l => by show 1 + sumN (fun _ => 1) r (l + 1) = r + 1; rw [sumN_ones r (l + 1)]; omega
theorem sumN_zero {g : Nat → Nat} : ∀ r l, (∀ i, l ≤ i → i < l + r → g i = 0) → sumN g r l = 0
  | 0, l, _ => rfl
  | r + 1, l, h => by
    show g l + sumN g r (l + 1) = 0
    rw [h l (Nat.le_refl _) (by omega), sumN_zero r (l + 1) (fun i a b => h i (by omega) (by omega))]
theorem sumN_ex {g : Nat → Nat} : ∀ r l, 0 < sumN g r l → ∃ i, l ≤ i ∧ i < l + r ∧ 0 < g i
  | 0, l, h => by have : (0 : Nat) < 0 := h; omega
  | r + 1, l, h => by
    have h' : 0 < g l + sumN g r (l + 1) := h
    by_cases e : 0 < g l
    · exact ⟨l, Nat.le_refl _, by omega, e⟩
    · obtain ⟨i, a, b, c⟩ := sumN_ex (g := g) r (l + 1) (by omega)
      exact ⟨i, by omega, by omega, c⟩
theorem sumN_at {g : Nat → Nat} {i0 : Nat} : ∀ r l, l ≤ i0 → i0 < l + r → (∀ i, l ≤ i → i < l + r → i ≠ i0 → g i = 0) → sumN g r l = g i0
  | 0, l, h1, h2, _ => by omega
  | r + 1, l, h1, h2, h => by
    show g l + sumN g r (l + 1) = g i0
    by_cases e : i0 = l
    · rw [e, sumN_zero r (l + 1) (fun i a b => h i (by omega) (by omega) (by omega))]; omega
    · rw [h l (Nat.le_refl _) (by omega) (by omega), sumN_at r (l + 1) (by omega) (by omega) (fun i a b c => h i (by omega) (by omega) c)]; omega
theorem sumN_upd {g h : Nat → Nat} {i0 : Nat} : ∀ r l, l ≤ i0 → i0 < l + r → (∀ i, l ≤ i → i < l + r → i ≠ i0 → h i = g i) → h i0 = g i0 + 1 → sumN h r l = sumN g r l + 1
  | 0, l, h1, h2, _, _ => by omega
  | r + 1, l, h1, h2, k, h3 => by
    show h l + sumN h r (l + 1) = g l + sumN g r (l + 1) + 1
    by_cases e : i0 = l
    · rw [← e, h3, sumN_congr r (i0 + 1) (fun i a b => k i (by omega) (by omega) (by omega))]; omega
    · rw [k l (Nat.le_refl _) (by omega) (by omega), sumN_upd r (l + 1) (by omega) (by omega) (fun i a b c => k i (by omega) (by omega) c) h3]; omega
abbrev lto (v : Nat → Nat) (k x : Nat) : Prop := v k < v x ∨ (v k = v x ∧ k < x)
def rkv (v : Nat → Nat) (n x : Nat) : Nat := sumN (fun k => if lto v k x then 1 else 0) n 0
theorem rk_lt {v : Nat → Nat} {n x y : Nat} (hx : x < n) (h : lto v x y) : rkv v n x < rkv v n y := by
  refine sumN_lt (i0 := x) n 0 (fun i _ _ => ?_) (Nat.zero_le _) (by omega) ?_
  · by_cases e : lto v i x
    · rw [if_pos e, if_pos (by omega)]; exact Nat.le_refl _
    · rw [if_neg e]; omega
  · rw [if_neg (by omega), if_pos h]; decide
theorem rk_inj {v : Nat → Nat} {n x y : Nat} (hx : x < n) (hy : y < n) (h : rkv v n x = rkv v n y) : x = y := by
  by_cases e : x = y
  · exact e
  · have : lto v x y ∨ lto v y x := by omega
    rcases this with q | q
    · have := rk_lt hx q; omega
    · have := rk_lt hy q; omega
theorem rk_iff {v : Nat → Nat} {n x y : Nat} (hx : x < n) (hy : y < n) : rkv v n x < rkv v n y ↔ lto v x y := by
  refine ⟨fun h => ?_, fun h => rk_lt hx h⟩
  by_cases e : lto v x y
  · exact e
  · by_cases e2 : x = y
    · subst e2; omega
    · have := rk_lt (v := v) (n := n) hy (show lto v y x by omega); omega
theorem rk_bound {v : Nat → Nat} {n x : Nat} (hx : x < n) : rkv v n x < n := by
  have h := sumN_lt (g := fun k => if lto v k x then 1 else 0) (h := fun _ => 1) (i0 := x) n 0 (fun i _ _ => by
    show (if lto v i x then 1 else 0) ≤ 1
    split <;> omega) (Nat.zero_le _) (by omega) (by
    show (if lto v x x then 1 else 0) < 1
    rw [if_neg (by omega)]; decide)
  rw [sumN_ones] at h
  exact h
theorem rk_surj {v : Nat → Nat} {n j : Nat} (hj : j < n) : ∃ x, x < n ∧ rkv v n x = j := by
  have hle : ∀ j, sumN (fun x => if rkv v n x = j then 1 else 0) n 0 ≤ 1 := by
    intro j
    by_cases h : 0 < sumN (fun x => if rkv v n x = j then 1 else 0) n 0
    · obtain ⟨i, a, b, c⟩ := sumN_ex n 0 h
      have ci : rkv v n i = j := by
        by_cases e : rkv v n i = j
        · exact e
        · rw [if_neg e] at c; omega
      rw [sumN_at (i0 := i) n 0 (Nat.zero_le _) (by omega) (fun k _ hk hne => if_neg (fun q => hne (rk_inj (by omega) (by omega) (q.trans ci.symm))))]
      split <;> omega
    · omega
  have tot : sumN (fun j => sumN (fun x => if rkv v n x = j then 1 else 0) n 0) n 0 = n := by
    rw [sumN_swap (fun j x => if rkv v n x = j then 1 else 0)]
    have : sumN (fun x => sumN (fun j => if rkv v n x = j then 1 else 0) n 0) n 0 = sumN (fun _ => 1) n 0 := by
      refine sumN_congr _ _ (fun x _ hx => ?_)
      show sumN (fun j => if rkv v n x = j then 1 else 0) n 0 = 1
      rw [sumN_ind, if_pos ⟨Nat.zero_le _, by have := rk_bound (v := v) (n := n) (x := x) (by omega); omega⟩]
    rw [this, sumN_ones]
  by_cases h : 0 < sumN (fun x => if rkv v n x = j then 1 else 0) n 0
  · obtain ⟨i, a, b, c⟩ := sumN_ex n 0 h
    refine ⟨i, by omega, ?_⟩
    by_cases e : rkv v n i = j
    · exact e
    · rw [if_neg e] at c; omega
  · have := sumN_lt (g := fun j => sumN (fun x => if rkv v n x = j then 1 else 0) n 0) (h := fun _ => 1) (i0 := j) n 0 (fun i _ _ => hle i) (Nat.zero_le _) (by omega) (show sumN (fun x => if rkv v n x = j then 1 else 0) n 0 < 1 by omega)
    rw [tot, sumN_ones] at this
    omega
/-- the first such, 9 none -/
def fsB (p : Nat → Bool) : Nat → Nat → Nat
  | 0, _ => 9
  | r + 1, l => if p l = true then l else fsB p r (l + 1)
theorem fsB_spec (p : Nat → Bool) : ∀ r l, l + r ≤ 9 → (fsB p r l = 9 ∧ ∀ k, l ≤ k → k < l + r → p k = false) ∨ (l ≤ fsB p r l ∧ fsB p r l < l + r ∧ p (fsB p r l) = true)
  | 0, l, _ => Or.inl ⟨rfl, fun k h1 h2 => by omega⟩
  | r + 1, l, hb => by
    unfold fsB
    by_cases h : p l = true
    · rw [if_pos h]; exact Or.inr ⟨Nat.le_refl _, by omega, h⟩
    · rw [if_neg h]
      rcases fsB_spec p r (l + 1) (by omega) with ⟨h1, h2⟩ | ⟨h1, h2, h3⟩
      · refine Or.inl ⟨h1, fun k g1 g2 => ?_⟩
        by_cases e : k = l
        · rw [e]; simpa using h
        · exact h2 k (by omega) (by omega)
      · exact Or.inr ⟨by omega, by omega, h3⟩
theorem fsB_congr {p q : Nat → Bool} : ∀ r l, (∀ k, l ≤ k → k < l + r → p k = q k) → fsB p r l = fsB q r l
  | 0, l, _ => rfl
  | r + 1, l, h => by
    unfold fsB
    rw [h l (Nat.le_refl _) (by omega), fsB_congr r (l + 1) (fun k a b => h k (by omega) (by omega))]
/-- a bag's pull, HELD 0, no friends -/
def pp (S : SS) (b : Nat) : Nat := if S 1 b = 2 then S 2 b + 4 else if S 1 b = 3 then S 2 b / 2 else if S 1 b = 5 then 2 * S 2 b else S 2 b
section Rk
variable {G : GG} {P : Nat → Nat} {C A S F X Y Z D S0 : SS} {τ : TT} {o : Nat}
theorem pp_le (W : WF S) {b : Nat} (hb : b < S 11 0) : pp S b ≤ 18 := by
  have := W.bag hb
  unfold pp
  repeat' split
  all_goals omega
theorem x0_pp (W : WF S) (R : SB C S) {b : Nat} (hb : b < S 11 0) : T_X0_plainPullOf o (Ro τ o C) (nI b) = some (nI (pp S b)) := by
  have h11 := W.nb
  have r0 := R.1.1
  have rb := R.bag hb
  have w := W.bag hb
  have hB := x0_hasBag1 (τ := τ) (o := o) (C := C) (b := b) (by omega) (by omega)
  have pb := x0_pullBy (τ := τ) (o := o) (C := C) (b := b) (h := 0) (q := false) (by omega) (by omega) (by omega) (by omega)
  unfold T_X0_plainPullOf
  rw [hB]
  simp only [e_cV]
  rw [c0, if_neg (by decide)]
  have pb' : T_X0_pullBy o (Ro τ o C) (nI b) (nI 0) (nI 0) = some (nI (pp S b)) := by
    have := pb
    simp only [Bool.false_eq_true, if_false] at this
    rw [this, rb.1, rb.2.1]
    congr 2
    unfold pp
    by_cases e1 : S 1 b = 1
    · rw [if_pos e1, if_neg (by omega), if_neg (by omega), if_neg (by omega)]; omega
    · rw [if_neg e1]
      by_cases e2 : S 1 b = 2
      · rw [if_pos e2, if_pos e2]
      · rw [if_neg e2, if_neg e2]
        by_cases e3 : S 1 b = 3
        · rw [if_pos e3, if_pos e3]
        · rw [if_neg e3, if_neg e3]
          by_cases e4 : S 1 b = 4
          · rw [if_pos e4, if_neg (by omega)]
          · rw [if_neg e4]
            by_cases e5 : S 1 b = 5
            · rw [if_pos e5, if_pos e5]; omega
            · rw [if_neg e5, if_neg e5]
  rw [pb']
  rfl
theorem x3_pp (W : WF S) {b : Nat} (hb : b < S 11 0) : T_X3_plainPull (Ro τ 13 S) (nI b) = some (nI (pp S b)) := by
  have h11 := W.nb
  have w := W.bag hb
  unfold T_X3_plainPull pp
  rw [ro_ld (by omega) (by omega), c2, i_eq (by omega) (by omega), ro_ld (by omega) (by omega), c4, nI_add, ro_ld (by omega) (by omega), c3, i_eq (by omega) (by omega), ro_ld (by omega) (by omega), q_div (by omega) (by omega), ro_ld (by omega) (by omega), c5, i_eq (by omega) (by omega), ro_ld (by omega) (by omega), q_mul, ro_ld (by omega) (by omega)]
  repeat' split
  all_goals rfl
theorem x_cmp {σ : ST} {a b : Nat} (ha : a < 1000) (hb : b < 1000) : T_J6_compare_7cf53 σ (nI a) (nI b) = some (if a < b then -nI 1 else if a = b then nI 0 else nI 1) := by
  unfold T_J6_compare_7cf53
  rw [i_le (by omega) (by omega), i_eq (by omega) (by omega), c0, c1]
  by_cases e : a < b
  · rw [if_neg (by omega), if_pos e]
  · rw [if_pos (by omega), if_neg e]
    split <;> rfl
theorem x0_rkLL (W : WF S) (R : SB C S) {i : Nat} (hi : i < S 12 0) : ∀ r k a n, k + r = S 12 0 → r < n → T_X0_rankOfBearer_L4 o (Ro τ o C) n (nI i) (nI a) (nI k) = some (nI (a + sumN (fun k => if lto (S 6) k i then 1 else 0) r k)) := by
  have h12 := W.nl
  have r7 := R.1.2.1
  intro r
  induction r with
  | zero =>
    intro k a n h hn
    obtain ⟨n, rfl⟩ := fu_one hn
    unfold T_X0_rankOfBearer_L4
    rw [ro_gf, r7, if_pos (by rw [q_le (by omega) (by omega)]; omega)]
    rfl
  | succ r ih =>
    intro k a n h hn
    obtain ⟨n, rfl⟩ := fu_one (by omega : 0 < n)
    have ri := (R.bea hi).1
    have rk := (R.bea (l := k) (by omega)).1
    have wi := (W.bea hi).1
    have wk := (W.bea (l := k) (by omega)).1
    unfold T_X0_rankOfBearer_L4
    rw [ro_gf, r7, if_neg (by rw [q_le (by omega) (by omega)]; omega), ro_ld (by omega) (by omega), ro_ld (by omega) (by omega), ro_ld (by omega) (by omega), ro_ld (by omega) (by omega), ri, rk, i_lt (by omega) (by omega), i_eq (by omega) (by omega), i_le (by omega) (by omega), c1, nI_add, nI_add]
    simp only [e_vl]
    show _ = some (nI (a + ((if lto (S 6) k i then 1 else 0) + sumN (fun k => if lto (S 6) k i then 1 else 0) r (k + 1))))
    by_cases e1 : S 6 k < S 6 i
    · rw [if_pos e1, if_pos (show lto (S 6) k i from Or.inl e1), ih (k + 1) (a + 1) n (by omega) (by omega), Nat.add_assoc]
    · rw [if_neg e1]
      by_cases e2 : S 6 k = S 6 i
      · rw [if_pos e2]
        by_cases e3 : i ≤ k
        · rw [if_pos e3, if_neg (show ¬ lto (S 6) k i by omega), ih (k + 1) a n (by omega) (by omega), Nat.zero_add]
        · rw [if_neg e3, if_pos (show lto (S 6) k i by omega), ih (k + 1) (a + 1) n (by omega) (by omega), Nat.add_assoc]
      · rw [if_neg e2, if_neg (show ¬ lto (S 6) k i by omega), ih (k + 1) a n (by omega) (by omega), Nat.zero_add]
theorem x0_rkL (W : WF S) (R : SB C S) {i : Nat} (hi : i < S 12 0) : T_X0_rankOfBearer o (Ro τ o C) (nI i) = some (nI (rkv (S 6) (S 12 0) i)) := by
  have h12 := W.nl
  have := x0_rkLL (τ := τ) (o := o) W R hi (S 12 0) 0 0 FU (by omega) (FU_gt (by omega))
  rw [Nat.zero_add] at this
  exact this
theorem x0_rkBL (W : WF S) (R : SB C S) {i : Nat} (hi : i < S 11 0) : ∀ r k a n, k + r = S 11 0 → r < n → T_X0_rankOfBag_L4 o (Ro τ o C) n (nI i) (nI a) (nI k) = some (nI (a + sumN (fun k => if lto (pp S) k i then 1 else 0) r k)) := by
  have h11 := W.nb
  have r0 := R.1.1
  intro r
  induction r with
  | zero =>
    intro k a n h hn
    obtain ⟨n, rfl⟩ := fu_one hn
    unfold T_X0_rankOfBag_L4
    rw [ro_gf, r0, if_pos (by rw [q_le (by omega) (by omega)]; omega)]
    rfl
  | succ r ih =>
    intro k a n h hn
    obtain ⟨n, rfl⟩ := fu_one (by omega : 0 < n)
    have pi := pp_le W hi
    have pk := pp_le W (b := k) (by omega)
    unfold T_X0_rankOfBag_L4
    rw [ro_gf, r0, if_neg (by rw [q_le (by omega) (by omega)]; omega), x0_pp W R (by omega)]
    simp only [e_cV]
    rw [x0_pp W R hi]
    simp only [e_cV]
    rw [x_cmp (by omega) (by omega)]
    simp only [e_cV]
    rw [c0, c1, nI_add, nI_add]
    simp only [e_vl]
    show _ = some (nI (a + ((if lto (pp S) k i then 1 else 0) + sumN (fun k => if lto (pp S) k i then 1 else 0) r (k + 1))))
    by_cases e1 : pp S k < pp S i
    · rw [if_pos e1, if_pos (show -nI 1 < nI 0 by decide), if_pos (show lto (pp S) k i from Or.inl e1), ih (k + 1) (a + 1) n (by omega) (by omega), Nat.add_assoc]
    · rw [if_neg e1]
      by_cases e2 : pp S k = pp S i
      · rw [if_pos e2, if_neg (show ¬ nI 0 < nI 0 by decide), if_pos (by trivial), i_le (by omega) (by omega)]
        by_cases e3 : i ≤ k
        · rw [if_pos e3, if_neg (show ¬ lto (pp S) k i by omega), ih (k + 1) a n (by omega) (by omega), Nat.zero_add]
        · rw [if_neg e3, if_pos (show lto (pp S) k i by omega), ih (k + 1) (a + 1) n (by omega) (by omega), Nat.add_assoc]
      · rw [if_neg e2, if_neg (show ¬ nI 1 < nI 0 by decide), if_neg (show ¬ nI 1 = nI 0 by decide), if_neg (show ¬ lto (pp S) k i by omega), ih (k + 1) a n (by omega) (by omega), Nat.zero_add]
theorem x0_rkB (W : WF S) (R : SB C S) {i : Nat} (hi : i < S 11 0) : T_X0_rankOfBag o (Ro τ o C) (nI i) = some (nI (rkv (pp S) (S 11 0) i)) := by
  have h11 := W.nb
  have := x0_rkBL (τ := τ) (o := o) W R hi (S 11 0) 0 0 FU (by omega) (FU_gt (by omega))
  rw [Nat.zero_add] at this
  exact this
theorem x0_bagRL (W : WF S) (R : SB C S) {j : Nat} (hj : j < 100) : ∀ r b n, b + r = S 11 0 → r < n → T_X0_bagRanked_L2 o (Ro τ o C) n (nI j) (nI b) = some (nI (kN (fsB (fun b => decide (rkv (pp S) (S 11 0) b = j)) r b))) := by
  have h11 := W.nb
  have r0 := R.1.1
  intro r
  induction r with
  | zero =>
    intro b n h hn
    obtain ⟨n, rfl⟩ := fu_one hn
    unfold T_X0_bagRanked_L2
    rw [ro_gf, r0, if_pos (by rw [q_le (by omega) (by omega)]; omega)]
    rfl
  | succ r ih =>
    intro b n h hn
    obtain ⟨n, rfl⟩ := fu_one (by omega : 0 < n)
    have bd := rk_bound (v := pp S) (n := S 11 0) (x := b) (by omega)
    unfold T_X0_bagRanked_L2 fsB
    rw [ro_gf, r0, if_neg (by rw [q_le (by omega) (by omega)]; omega), x0_rkB W R (by omega)]
    simp only [e_cV]
    rw [i_eq (by omega) (by omega), c1, nI_add]
    simp only [e_vl]
    by_cases e : rkv (pp S) (S 11 0) b = j
    · rw [if_pos e, if_pos (decide_eq_true e), kN_ne (by omega)]
    · rw [if_neg e, if_neg (by simpa using e)]
      exact ih (b + 1) n (by omega) (by omega)
def bagR (S : SS) (j : Nat) : Nat := fsB (fun b => decide (rkv (pp S) (S 11 0) b = j)) (S 11 0) 0
theorem x0_bagR (W : WF S) (R : SB C S) {j : Nat} (hj : j < 100) : T_X0_bagRanked o (Ro τ o C) (nI j) = some (nI (kN (bagR S j))) := by
  have h11 := W.nb
  exact x0_bagRL (τ := τ) (o := o) W R hj (S 11 0) 0 FU (by omega) (FU_gt (by omega))
theorem x0_beaRL (W : WF S) (R : SB C S) {j : Nat} (hj : j < 100) : ∀ r b n, b + r = S 12 0 → r < n → T_X0_bearerRanked_L2 o (Ro τ o C) n (nI j) (nI b) = some (nI (kN (fsB (fun b => decide (rkv (S 6) (S 12 0) b = j)) r b))) := by
  have h12 := W.nl
  have r7 := R.1.2.1
  intro r
  induction r with
  | zero =>
    intro b n h hn
    obtain ⟨n, rfl⟩ := fu_one hn
    unfold T_X0_bearerRanked_L2
    rw [ro_gf, r7, if_pos (by rw [q_le (by omega) (by omega)]; omega)]
    rfl
  | succ r ih =>
    intro b n h hn
    obtain ⟨n, rfl⟩ := fu_one (by omega : 0 < n)
    have bd := rk_bound (v := S 6) (n := S 12 0) (x := b) (by omega)
    unfold T_X0_bearerRanked_L2 fsB
    rw [ro_gf, r7, if_neg (by rw [q_le (by omega) (by omega)]; omega), x0_rkL W R (by omega)]
    simp only [e_cV]
    rw [i_eq (by omega) (by omega), c1, nI_add]
    simp only [e_vl]
    by_cases e : rkv (S 6) (S 12 0) b = j
    · rw [if_pos e, if_pos (decide_eq_true e), kN_ne (by omega)]
    · rw [if_neg e, if_neg (by simpa using e)]
      exact ih (b + 1) n (by omega) (by omega)
def beaR (S : SS) (j : Nat) : Nat := fsB (fun b => decide (rkv (S 6) (S 12 0) b = j)) (S 12 0) 0
theorem x0_beaR (W : WF S) (R : SB C S) {j : Nat} (hj : j < 100) : T_X0_bearerRanked o (Ro τ o C) (nI j) = some (nI (kN (beaR S j))) := by
  have h12 := W.nl
  exact x0_beaRL (τ := τ) (o := o) W R hj (S 12 0) 0 FU (by omega) (FU_gt (by omega))
theorem beaR_ok (W : WF S) {j : Nat} (hj : j < S 12 0) : beaR S j < S 12 0 ∧ rkv (S 6) (S 12 0) (beaR S j) = j := by
  have h12 := W.nl
  obtain ⟨x, hx, e⟩ := rk_surj (v := S 6) hj
  rcases fsB_spec (fun b => decide (rkv (S 6) (S 12 0) b = j)) (S 12 0) 0 (by omega) with ⟨-, h2⟩ | ⟨h1, h2, h3⟩
  · have := h2 x (Nat.zero_le _) (by omega)
    simp [e] at this
  · exact ⟨by show fsB _ _ _ < _; omega, of_decide_eq_true h3⟩
theorem bagR_ok (W : WF S) {j : Nat} (hj : j < S 11 0) : bagR S j < S 11 0 ∧ rkv (pp S) (S 11 0) (bagR S j) = j := by
  have h11 := W.nb
  obtain ⟨x, hx, e⟩ := rk_surj (v := pp S) hj
  rcases fsB_spec (fun b => decide (rkv (pp S) (S 11 0) b = j)) (S 11 0) 0 (by omega) with ⟨-, h2⟩ | ⟨h1, h2, h3⟩
  · have := h2 x (Nat.zero_le _) (by omega)
    simp [e] at this
  · exact ⟨by show fsB _ _ _ < _; omega, of_decide_eq_true h3⟩
theorem bagR_no (W : WF S) {j : Nat} (hj : S 11 0 ≤ j) : bagR S j = 9 := by
  have h11 := W.nb
  rcases fsB_spec (fun b => decide (rkv (pp S) (S 11 0) b = j)) (S 11 0) 0 (by omega) with ⟨h1, -⟩ | ⟨h1, h2, h3⟩
  · exact h1
  · have h3' : rkv (pp S) (S 11 0) (fsB (fun b => decide (rkv (pp S) (S 11 0) b = j)) (S 11 0) 0) = j := by simpa using h3
    have := rk_bound (v := pp S) (n := S 11 0) (x := fsB (fun b => decide (rkv (pp S) (S 11 0) b = j)) (S 11 0) 0) (by omega)
    omega
end Rk
