/-! THE REFERENCE: what is kept and put back -/
theorem ofN (n : Nat) : Int32.ofNat n = nI n := rfl
def kpA (S : SS) (f n c : Nat) : SS := fun g j => if g = 22 ∧ c ≤ j ∧ j < c + n then S f (j - c) else if g = 25 ∧ j = 0 then c + n else S g j
def gtA (S : SS) (f n c : Nat) : SS := fun g j => if g = f ∧ j < n then S 22 (c + j) else if g = 25 ∧ j = 0 then c + n else S g j
def KS (S : SS) (q c : Nat) : Prop := S 24 0 = q ∧ S 25 0 = c
section Keep
variable {τ : TT} {S : SS}
theorem KS.kp {q c f n : Nat} (h : KS S q c) : KS (kpA S f n c) q (c + n) := ⟨by simp [kpA, h.1], by simp [kpA]⟩
theorem KS.gt {q c f n : Nat} (h : KS S q c) (hf : f ≠ 24 ∧ f ≠ 25) : KS (gtA S f n c) q (c + n) := by
  refine ⟨?_, ?_⟩
  · unfold gtA
    rw [if_neg (by omega), if_neg (by omega)]
    exact h.1
  · unfold gtA
    rw [if_neg (by omega), if_pos ⟨rfl, rfl⟩]
theorem x3_kpL {f n c : Nat} (hf : f ≠ 22 ∧ f ≠ 24 ∧ f ≠ 25) (hn : n ≤ 6) (hc : c + n ≤ 660) : ∀ r v S m, v + r = n → KS S 1 (c + v) → r < m → T_X3_passes_L2 f n m (nI v) (Ro τ 13 S) = some (Ro τ 13 (fun g j => if g = 22 ∧ c + v ≤ j ∧ j < c + n then S f (j - c) else if g = 25 ∧ j = 0 then c + n else S g j)) := by
  intro r
  induction r with
  | zero =>
    intro v S m h K hm
    obtain ⟨m, rfl⟩ := fu_one hm
    unfold T_X3_passes_L2
    rw [ofN, if_pos (by rw [q_le (by omega) (by omega)]; omega)]
    congr 2
    funext g j
    by_cases h1 : g = 25 ∧ j = 0
    · rw [if_neg (by omega), if_pos h1, h1.1, h1.2, K.2]; omega
    · rw [if_neg (by omega), if_neg h1]
  | succ r ih =>
    intro v S m h K hm
    obtain ⟨m, rfl⟩ := fu_one (by omega : 0 < m)
    have k1 := K.1
    have k2 := K.2
    have K2 : KS (up (up S 22 (c + v) (S f v)) 25 0 (c + v + 1)) 1 (c + (v + 1)) := ⟨by rw [up_ne _ (by omega), up_ne _ (by omega)]; exact k1, by rw [up_at]; omega⟩
    have ihx := ih (v + 1) (up (up S 22 (c + v) (S f v)) 25 0 (c + v + 1)) m (by omega) K2 (by omega)
    unfold T_X3_passes_L2 T_X3_passes_j42
    rw [ofN]
    simp (disch := omega) only [k1, k2, up_ne S (show ¬ (25 = 22 ∧ 0 = c + v) by omega), n_mod, q_dec, ro_gf, ro_ld, ro_sd, ro_pf, e_vl, e_cV, e_cI, nI_add, q_mul, q_sub, q_rem, q_div, q_eq, q_lt, q_le, c0, c1, c2, c3, c4, c5, c6, c7, c8, c9, c10, c99]
    rw [if_neg (by omega), if_neg (by omega), ihx]
    congr 2
    funext g j
    have ef : ∀ j, up (up S 22 (c + v) (S f v)) 25 0 (c + v + 1) f j = S f j := fun j => by rw [up_ne _ (by omega), up_ne _ (by omega)]
    rw [ef]
    by_cases h0 : g = 22
    · subst h0
      by_cases h1 : j = c + v
      · subst h1
        rw [if_neg (by omega), if_neg (by omega), if_pos (by omega), up_ne _ (by omega), up_at, Nat.add_sub_cancel_left]
      · by_cases h2 : c + (v + 1) ≤ j ∧ j < c + n
        · rw [if_pos (by omega), if_pos (by omega)]
        · rw [if_neg (by omega), if_neg (by omega), if_neg (by omega), if_neg (by omega), up_ne _ (by omega), up_ne _ (by omega)]
    · simp only [h0, false_and, if_false]
      by_cases h1 : g = 25 ∧ j = 0
      · rw [if_pos h1, if_pos h1]
      · rw [if_neg h1, if_neg h1, up_ne _ (by omega), up_ne _ (by omega)]
theorem x3_kp {f n c : Nat} {α : Type} {F : ST → Option α} (K : KS S 1 c) (hf : f ≠ 22 ∧ f ≠ 24 ∧ f ≠ 25) (hn : n ≤ 6) (hc : c + n ≤ 660) : cV (T_X3_passes f n (Ro τ 13 S)) F = F (Ro τ 13 (kpA S f n c)) := by
  have h := x3_kpL (τ := τ) hf hn hc n 0 S FU (by omega) K (FU_gt (by omega))
  unfold T_X3_passes
  rw [c0, h]
  rfl
theorem x3_gtL {f n c : Nat} (hf : f ≠ 22 ∧ f ≠ 24 ∧ f ≠ 25) (hn : n ≤ 6) (hc : c + n ≤ 660) : ∀ r v S m, v + r = n → KS S 0 (c + v) → r < m → T_X3_passes_L2 f n m (nI v) (Ro τ 13 S) = some (Ro τ 13 (fun g j => if g = f ∧ v ≤ j ∧ j < n then S 22 (c + j) else if g = 25 ∧ j = 0 then c + n else S g j)) := by
  intro r
  induction r with
  | zero =>
    intro v S m h K hm
    obtain ⟨m, rfl⟩ := fu_one hm
    unfold T_X3_passes_L2
    rw [ofN, if_pos (by rw [q_le (by omega) (by omega)]; omega)]
    congr 2
    funext g j
    by_cases h1 : g = 25 ∧ j = 0
    · rw [if_neg (by omega), if_pos h1, h1.1, h1.2, K.2]; omega
    · rw [if_neg (by omega), if_neg h1]
  | succ r ih =>
    intro v S m h K hm
    obtain ⟨m, rfl⟩ := fu_one (by omega : 0 < m)
    have k1 := K.1
    have k2 := K.2
    have K2 : KS (up (up S f v (S 22 (c + v))) 25 0 (c + v + 1)) 0 (c + (v + 1)) := ⟨by rw [up_ne _ (by omega), up_ne _ (by omega)]; exact k1, by rw [up_at]; omega⟩
    have ihx := ih (v + 1) (up (up S f v (S 22 (c + v))) 25 0 (c + v + 1)) m (by omega) K2 (by omega)
    unfold T_X3_passes_L2 T_X3_passes_j42
    rw [ofN]
    simp (disch := omega) only [k1, k2, up_ne S (show ¬ (25 = f ∧ 0 = v) by omega), n_mod, q_dec, ro_gf, ro_ld, ro_sd, ro_pf, e_vl, e_cV, e_cI, nI_add, q_mul, q_sub, q_rem, q_div, q_eq, q_lt, q_le, c0, c1, c2, c3, c4, c5, c6, c7, c8, c9, c10, c99]
    rw [if_neg (by omega), if_pos trivial, ihx]
    congr 2
    funext g j
    have ef : ∀ j, up (up S f v (S 22 (c + v))) 25 0 (c + v + 1) 22 j = S 22 j := fun j => by rw [up_ne _ (by omega), up_ne _ (by omega)]
    rw [ef]
    by_cases h0 : g = f
    · subst h0
      by_cases h1 : j = v
      · subst h1
        rw [if_neg (by omega), if_neg (by omega), if_pos (by omega), up_ne _ (by omega), up_at]
      · by_cases h2 : v + 1 ≤ j ∧ j < n
        · rw [if_pos (by omega), if_pos (by omega)]
        · rw [if_neg (by omega), if_neg (by omega), if_neg (by omega), if_neg (by omega), up_ne _ (by omega), up_ne _ (by omega)]
    · simp only [h0, false_and, if_false]
      by_cases h1 : g = 25 ∧ j = 0
      · rw [if_pos h1, if_pos h1]
      · rw [if_neg h1, if_neg h1, up_ne _ (by omega), up_ne _ (by omega)]
theorem x3_gt {f n c : Nat} {α : Type} {F : ST → Option α} (K : KS S 0 c) (hf : f ≠ 22 ∧ f ≠ 24 ∧ f ≠ 25) (hn : n ≤ 6) (hc : c + n ≤ 660) : cV (T_X3_passes f n (Ro τ 13 S)) F = F (Ro τ 13 (gtA S f n c)) := by
  have h := x3_gtL (τ := τ) hf hn hc n 0 S FU (by omega) K (FU_gt (by omega))
  unfold T_X3_passes
  rw [c0, h]
  show F _ = F _
  congr 2
  unfold gtA
  funext g j
  simp only [Nat.zero_le, true_and]
theorem x3_kp1 {f c : Nat} {α : Type} {F : ST → Option α} (K : KS S 1 c) (hf : f ≠ 22 ∧ f ≠ 24 ∧ f ≠ 25) (hc : c + 1 ≤ 660) : gf (Ro τ 13 S) 13 f (fun x => cI (T_X3_passOne x (Ro τ 13 S)) (fun y s => pf s 13 f y F)) = F (Ro τ 13 (kpA S f 1 c)) := by
  have k1 := K.1
  have k2 := K.2
  unfold T_X3_passOne T_X3_passOne_j20 T_X3_passOne_j38
  simp (disch := omega) only [k1, k2, up_ne S (show ¬ (25 = 22 ∧ 0 = c) by omega), n_mod, q_dec, ro_gf, ro_ld, ro_sd, ro_pf, e_vl, e_cV, e_cI, nI_add, q_mul, q_sub, q_rem, q_div, q_eq, q_lt, q_le, c0, c1, c2, c3, c4, c5, c6, c7, c8, c9, c10, c99]
  rw [if_neg (by decide), if_neg (by decide)]
  simp only [e_cI, ro_pf]
  congr 2
  funext g j
  unfold kpA up
  by_cases h0 : g = f ∧ j = 0
  · rw [if_pos h0, if_neg (by omega), if_neg (by omega), h0.1, h0.2]
  · rw [if_neg h0]
    by_cases h1 : g = 22 ∧ j = c
    · rw [if_neg (by omega), if_pos h1, if_pos (by omega), h1.2, Nat.sub_self]
    · by_cases h2 : g = 25 ∧ j = 0
      · rw [if_pos h2, if_neg (by omega), if_pos h2]
      · rw [if_neg h2, if_neg h1, if_neg (by omega), if_neg h2]
theorem x3_gt1 {f c : Nat} {α : Type} {F : ST → Option α} (K : KS S 0 c) (hf : f ≠ 22 ∧ f ≠ 24 ∧ f ≠ 25) (hc : c + 1 ≤ 660) : gf (Ro τ 13 S) 13 f (fun x => cI (T_X3_passOne x (Ro τ 13 S)) (fun y s => pf s 13 f y F)) = F (Ro τ 13 (gtA S f 1 c)) := by
  have k1 := K.1
  have k2 := K.2
  unfold T_X3_passOne T_X3_passOne_j20 T_X3_passOne_j38
  simp (disch := omega) only [k1, k2, n_mod, q_dec, ro_gf, ro_ld, ro_sd, ro_pf, e_vl, e_cV, e_cI, nI_add, q_mul, q_sub, q_rem, q_div, q_eq, q_lt, q_le, c0, c1, c2, c3, c4, c5, c6, c7, c8, c9, c10, c99]
  simp only [if_true, e_cI, ro_pf]
  congr 2
  funext g j
  unfold gtA up
  by_cases h0 : g = f ∧ j = 0
  · rw [if_pos h0, if_pos (by omega), h0.2, Nat.add_zero]
  · rw [if_neg h0, if_neg (show ¬ (g = f ∧ j < 1) by omega)]
end Keep
def kpL : List (Nat × Nat) → Nat → SS → SS
  | [], _, S => S
  | q :: r, c, S => kpL r (c + q.2) (kpA S q.1 q.2 c)
def gtL : List (Nat × Nat) → Nat → SS → SS
  | [], _, S => S
  | q :: r, c, S => gtL r (c + q.2) (gtA S q.1 q.2 c)
def flS : List (Nat × Nat) := [(1, 6), (2, 6), (3, 6), (4, 6), (5, 6), (6, 5), (7, 5), (8, 5), (9, 5), (10, 5), (11, 1), (12, 1), (13, 1), (14, 1)]
def kpX (w : Nat) (S : SS) : SS := kpL flS (60 * w) (up (up S 25 0 (60 * w)) 24 0 1)
def gtX (w : Nat) (S : SS) : SS := gtL flS (60 * w) (up (up S 25 0 (60 * w)) 24 0 0)
section Keep2
variable {τ : TT} {S : SS}
theorem x3_keepX {w : Nat} (hw : w ≤ 10) : T_X3_passesAll (nI w) (nI 1) (Ro τ 13 S) = some (Ro τ 13 (kpX w S)) := by
  have K0 : KS (up (up S 25 0 (60 * w)) 24 0 1) 1 (60 * w) := ⟨up_at _ _ _ _, by rw [up_ne _ (by omega), up_at]⟩
  unfold T_X3_passesAll
  rw [show (60 : Int32) * nI w = nI (60 * w) from by rw [c60, q_mul], ro_pf, ← c1, e_rz1, c1, ro_pf]
  refine (x3_kp (f := 1) (n := 6) K0 (by decide) (by decide) (by omega)).trans ?_
  have K1 := K0.kp (f := 1) (n := 6)
  refine (x3_kp (f := 2) (n := 6) K1 (by decide) (by decide) (by omega)).trans ?_
  have K2 := K1.kp (f := 2) (n := 6)
  refine (x3_kp (f := 3) (n := 6) K2 (by decide) (by decide) (by omega)).trans ?_
  have K3 := K2.kp (f := 3) (n := 6)
  refine (x3_kp (f := 4) (n := 6) K3 (by decide) (by decide) (by omega)).trans ?_
  have K4 := K3.kp (f := 4) (n := 6)
  refine (x3_kp (f := 5) (n := 6) K4 (by decide) (by decide) (by omega)).trans ?_
  have K5 := K4.kp (f := 5) (n := 6)
  refine (x3_kp (f := 6) (n := 5) K5 (by decide) (by decide) (by omega)).trans ?_
  have K6 := K5.kp (f := 6) (n := 5)
  refine (x3_kp (f := 7) (n := 5) K6 (by decide) (by decide) (by omega)).trans ?_
  have K7 := K6.kp (f := 7) (n := 5)
  refine (x3_kp (f := 8) (n := 5) K7 (by decide) (by decide) (by omega)).trans ?_
  have K8 := K7.kp (f := 8) (n := 5)
  refine (x3_kp (f := 9) (n := 5) K8 (by decide) (by decide) (by omega)).trans ?_
  have K9 := K8.kp (f := 9) (n := 5)
  refine (x3_kp (f := 10) (n := 5) K9 (by decide) (by decide) (by omega)).trans ?_
  have K10 := K9.kp (f := 10) (n := 5)
  refine (x3_kp1 (f := 11) K10 (by decide) (by omega)).trans ?_
  have K11 := K10.kp (f := 11) (n := 1)
  refine (x3_kp1 (f := 12) K11 (by decide) (by omega)).trans ?_
  have K12 := K11.kp (f := 12) (n := 1)
  refine (x3_kp1 (f := 13) K12 (by decide) (by omega)).trans ?_
  have K13 := K12.kp (f := 13) (n := 1)
  refine (x3_kp1 (f := 14) K13 (by decide) (by omega)).trans ?_
  have K14 := K13.kp (f := 14) (n := 1)
  rfl
theorem x3_putX {w : Nat} (hw : w ≤ 10) : T_X3_passesAll (nI w) (nI 0) (Ro τ 13 S) = some (Ro τ 13 (gtX w S)) := by
  have K0 : KS (up (up S 25 0 (60 * w)) 24 0 0) 0 (60 * w) := ⟨up_at _ _ _ _, by rw [up_ne _ (by omega), up_at]⟩
  unfold T_X3_passesAll
  rw [show (60 : Int32) * nI w = nI (60 * w) from by rw [c60, q_mul], ro_pf, ← c0, e_rz0, c0, ro_pf]
  refine (x3_gt (f := 1) (n := 6) K0 (by decide) (by decide) (by omega)).trans ?_
  have K1 := K0.gt (f := 1) (n := 6) (by decide)
  refine (x3_gt (f := 2) (n := 6) K1 (by decide) (by decide) (by omega)).trans ?_
  have K2 := K1.gt (f := 2) (n := 6) (by decide)
  refine (x3_gt (f := 3) (n := 6) K2 (by decide) (by decide) (by omega)).trans ?_
  have K3 := K2.gt (f := 3) (n := 6) (by decide)
  refine (x3_gt (f := 4) (n := 6) K3 (by decide) (by decide) (by omega)).trans ?_
  have K4 := K3.gt (f := 4) (n := 6) (by decide)
  refine (x3_gt (f := 5) (n := 6) K4 (by decide) (by decide) (by omega)).trans ?_
  have K5 := K4.gt (f := 5) (n := 6) (by decide)
  refine (x3_gt (f := 6) (n := 5) K5 (by decide) (by decide) (by omega)).trans ?_
  have K6 := K5.gt (f := 6) (n := 5) (by decide)
  refine (x3_gt (f := 7) (n := 5) K6 (by decide) (by decide) (by omega)).trans ?_
  have K7 := K6.gt (f := 7) (n := 5) (by decide)
  refine (x3_gt (f := 8) (n := 5) K7 (by decide) (by decide) (by omega)).trans ?_
  have K8 := K7.gt (f := 8) (n := 5) (by decide)
  refine (x3_gt (f := 9) (n := 5) K8 (by decide) (by decide) (by omega)).trans ?_
  have K9 := K8.gt (f := 9) (n := 5) (by decide)
  refine (x3_gt (f := 10) (n := 5) K9 (by decide) (by decide) (by omega)).trans ?_
  have K10 := K9.gt (f := 10) (n := 5) (by decide)
  refine (x3_gt1 (f := 11) K10 (by decide) (by omega)).trans ?_
  have K11 := K10.gt (f := 11) (n := 1) (by decide)
  refine (x3_gt1 (f := 12) K11 (by decide) (by omega)).trans ?_
  have K12 := K11.gt (f := 12) (n := 1) (by decide)
  refine (x3_gt1 (f := 13) K12 (by decide) (by omega)).trans ?_
  have K13 := K12.gt (f := 13) (n := 1) (by decide)
  refine (x3_gt1 (f := 14) K13 (by decide) (by omega)).trans ?_
  have K14 := K13.gt (f := 14) (n := 1) (by decide)
  rfl
end Keep2
def lenF (f : Nat) : Nat := if f ≤ 5 then 6 else if f ≤ 10 then 5 else 1
def offF (f : Nat) : Nat := if f ≤ 6 then 6 * (f - 1) else if f ≤ 11 then 30 + 5 * (f - 6) else 55 + (f - 11)
/-- a place in what an image holds -/
def InR (f i : Nat) : Prop := 1 ≤ f ∧ f ≤ 14 ∧ i < lenF f
def fr (S : SS) (w : Nat) : SS := fun f i => S 22 (60 * w + offF f + i)
def totL : List (Nat × Nat) → Nat
  | [] => 0
  | q :: r => q.2 + totL r
theorem kpA_oth {S : SS} {f n c g j : Nat} (h : g ≠ 22 ∧ g ≠ 25) : kpA S f n c g j = S g j := by
  unfold kpA
  rw [if_neg (by omega), if_neg (by omega)]
theorem kpL_oth {g j : Nat} (h : g ≠ 22 ∧ g ≠ 25) : ∀ L c S, kpL L c S g j = S g j
  | [], c, S => rfl
  | q :: r, c, S => by
    show kpL r (c + q.2) (kpA S q.1 q.2 c) g j = _
    rw [kpL_oth h r, kpA_oth h]
theorem kpL_out {j : Nat} : ∀ L c S, (j < c ∨ c + totL L ≤ j) → kpL L c S 22 j = S 22 j
  | [], c, S, _ => rfl
  | q :: r, c, S, h => by
    show kpL r (c + q.2) (kpA S q.1 q.2 c) 22 j = _
    have e : totL (q :: r) = q.2 + totL r := rfl
    rw [kpL_out r _ _ (by omega)]
    unfold kpA
    rw [if_neg (by omega), if_neg (by omega)]
theorem kpL_in {f n i : Nat} {L2 : List (Nat × Nat)} (hf : f ≠ 22 ∧ f ≠ 25) (hi : i < n) : ∀ L1 c S, kpL (L1 ++ (f, n) :: L2) c S 22 (c + totL L1 + i) = S f i
  | [], c, S => by
    show kpL L2 (c + n) (kpA S f n c) 22 (c + 0 + i) = _
    rw [kpL_out _ _ _ (by omega)]
    unfold kpA
    rw [if_pos (by omega)]
    congr 1
    omega
  | q :: r, c, S => by
    show kpL (r ++ (f, n) :: L2) (c + q.2) (kpA S q.1 q.2 c) 22 (c + (q.2 + totL r) + i) = _
    have := kpL_in (L2 := L2) hf hi r (c + q.2) (kpA S q.1 q.2 c)
    rw [show c + (q.2 + totL r) + i = c + q.2 + totL r + i by omega, this, kpA_oth hf]
theorem InR.c {f i : Nat} (h : InR f i) : f = 1 ∨ f = 2 ∨ f = 3 ∨ f = 4 ∨ f = 5 ∨ f = 6 ∨ f = 7 ∨ f = 8 ∨ f = 9 ∨ f = 10 ∨ f = 11 ∨ f = 12 ∨ f = 13 ∨ f = 14 := by
  have := h.1
  have := h.2.1
  omega
theorem kpX_oth {S : SS} {w g j : Nat} (h : g ≠ 22 ∧ g ≠ 24 ∧ g ≠ 25) : kpX w S g j = S g j := by
  unfold kpX
  rw [kpL_oth ⟨h.1, h.2.2⟩, up_ne _ (by omega), up_ne _ (by omega)]
theorem kpX_out {S : SS} {w j : Nat} (h : j < 60 * w ∨ 60 * w + 59 ≤ j) : kpX w S 22 j = S 22 j := by
  unfold kpX
  rw [kpL_out _ _ _ h, up_ne _ (by omega), up_ne _ (by omega)]
theorem kpX_fr {S : SS} {w f i : Nat} (h : InR f i) : fr (kpX w S) w f i = S f i := by
  have key : ∀ L1 f n L2, flS = L1 ++ (f, n) :: L2 → f < 22 → i < n → kpX w S 22 (60 * w + totL L1 + i) = S f i := by
    intro L1 f n L2 e hf hi
    unfold kpX
    rw [e, kpL_in ⟨by omega, by omega⟩ hi, up_ne _ (by omega), up_ne _ (by omega)]
  have hi := h.2.2
  show kpX w S 22 (60 * w + offF f + i) = S f i
  rcases h.c with e | e | e | e | e | e | e | e | e | e | e | e | e | e <;> subst e
  · exact key [] 1 6 _ rfl (by decide) hi
  · exact key [(1, 6)] 2 6 _ rfl (by decide) hi
  · exact key [(1, 6), (2, 6)] 3 6 _ rfl (by decide) hi
  · exact key [(1, 6), (2, 6), (3, 6)] 4 6 _ rfl (by decide) hi
  · exact key [(1, 6), (2, 6), (3, 6), (4, 6)] 5 6 _ rfl (by decide) hi
  · exact key [(1, 6), (2, 6), (3, 6), (4, 6), (5, 6)] 6 5 _ rfl (by decide) hi
  · exact key [(1, 6), (2, 6), (3, 6), (4, 6), (5, 6), (6, 5)] 7 5 _ rfl (by decide) hi
  · exact key [(1, 6), (2, 6), (3, 6), (4, 6), (5, 6), (6, 5), (7, 5)] 8 5 _ rfl (by decide) hi
  · exact key [(1, 6), (2, 6), (3, 6), (4, 6), (5, 6), (6, 5), (7, 5), (8, 5)] 9 5 _ rfl (by decide) hi
  · exact key [(1, 6), (2, 6), (3, 6), (4, 6), (5, 6), (6, 5), (7, 5), (8, 5), (9, 5)] 10 5 _ rfl (by decide) hi
  · exact key [(1, 6), (2, 6), (3, 6), (4, 6), (5, 6), (6, 5), (7, 5), (8, 5), (9, 5), (10, 5)] 11 1 _ rfl (by decide) hi
  · exact key [(1, 6), (2, 6), (3, 6), (4, 6), (5, 6), (6, 5), (7, 5), (8, 5), (9, 5), (10, 5), (11, 1)] 12 1 _ rfl (by decide) hi
  · exact key [(1, 6), (2, 6), (3, 6), (4, 6), (5, 6), (6, 5), (7, 5), (8, 5), (9, 5), (10, 5), (11, 1), (12, 1)] 13 1 _ rfl (by decide) hi
  · exact key [(1, 6), (2, 6), (3, 6), (4, 6), (5, 6), (6, 5), (7, 5), (8, 5), (9, 5), (10, 5), (11, 1), (12, 1), (13, 1)] 14 1 _ rfl (by decide) hi
theorem gtA_oth {S : SS} {f n c g j : Nat} (h : g ≠ f ∧ g ≠ 25) : gtA S f n c g j = S g j := by
  unfold gtA
  rw [if_neg (by omega), if_neg (by omega)]
theorem gtL_oth {g j : Nat} : ∀ L c S, (∀ q ∈ L, q.1 ≠ g) → g ≠ 25 → gtL L c S g j = S g j
  | [], c, S, _, _ => rfl
  | q :: r, c, S, h, h25 => by
    show gtL r (c + q.2) (gtA S q.1 q.2 c) g j = _
    rw [gtL_oth r _ _ (fun p hp => h p (List.mem_cons_of_mem _ hp)) h25, gtA_oth ⟨fun e => h q List.mem_cons_self e.symm, h25⟩]
theorem gtL_in {f n i : Nat} {L2 : List (Nat × Nat)} (hf : f ≠ 22 ∧ f ≠ 25) (hi : i < n) (h2 : ∀ q ∈ L2, q.1 ≠ f) : ∀ L1 c S, (∀ q ∈ L1, q.1 ≠ 22) → gtL (L1 ++ (f, n) :: L2) c S f i = S 22 (c + totL L1 + i)
  | [], c, S, _ => by
    show gtL L2 (c + n) (gtA S f n c) f i = _
    rw [gtL_oth _ _ _ h2 hf.2]
    unfold gtA
    rw [if_pos ⟨rfl, hi⟩]
    rfl
  | q :: r, c, S, h => by
    show gtL (r ++ (f, n) :: L2) (c + q.2) (gtA S q.1 q.2 c) f i = S 22 (c + (q.2 + totL r) + i)
    rw [gtL_in hf hi h2 r _ _ (fun p hp => h p (List.mem_cons_of_mem _ hp)), gtA_oth ⟨fun e => h q List.mem_cons_self e.symm, by decide⟩]
    congr 1
    omega
theorem gtX_oth {S : SS} {w g j : Nat} (h : g = 0 ∨ 15 ≤ g) (h2 : g ≠ 24 ∧ g ≠ 25) : gtX w S g j = S g j := by
  unfold gtX
  rw [gtL_oth _ _ _ (by intro q hq; have : ∀ q ∈ flS, 1 ≤ q.1 ∧ q.1 ≤ 14 := by decide
                        have := this q hq; omega) h2.2, up_ne _ (by omega), up_ne _ (by omega)]
theorem gtX_in {S : SS} {w f i : Nat} (h : InR f i) : gtX w S f i = fr S w f i := by
  have key : ∀ L1 f n L2, flS = L1 ++ (f, n) :: L2 → f < 22 → i < n → (∀ q ∈ L2, q.1 ≠ f) → (∀ q ∈ L1, q.1 ≠ 22) → gtX w S f i = S 22 (60 * w + totL L1 + i) := by
    intro L1 f n L2 e hf hi h1 h2
    unfold gtX
    rw [e, gtL_in ⟨by omega, by omega⟩ hi h1 _ _ _ h2, up_ne _ (by omega), up_ne _ (by omega)]
  have hi := h.2.2
  show gtX w S f i = S 22 (60 * w + offF f + i)
  rcases h.c with e | e | e | e | e | e | e | e | e | e | e | e | e | e <;> subst e
  · exact key [] 1 6 _ rfl (by decide) hi (by decide) (by decide)
  · exact key [(1, 6)] 2 6 _ rfl (by decide) hi (by decide) (by decide)
  · exact key [(1, 6), (2, 6)] 3 6 _ rfl (by decide) hi (by decide) (by decide)
  · exact key [(1, 6), (2, 6), (3, 6)] 4 6 _ rfl (by decide) hi (by decide) (by decide)
  · exact key [(1, 6), (2, 6), (3, 6), (4, 6)] 5 6 _ rfl (by decide) hi (by decide) (by decide)
  · exact key [(1, 6), (2, 6), (3, 6), (4, 6), (5, 6)] 6 5 _ rfl (by decide) hi (by decide) (by decide)
  · exact key [(1, 6), (2, 6), (3, 6), (4, 6), (5, 6), (6, 5)] 7 5 _ rfl (by decide) hi (by decide) (by decide)
  · exact key [(1, 6), (2, 6), (3, 6), (4, 6), (5, 6), (6, 5), (7, 5)] 8 5 _ rfl (by decide) hi (by decide) (by decide)
  · exact key [(1, 6), (2, 6), (3, 6), (4, 6), (5, 6), (6, 5), (7, 5), (8, 5)] 9 5 _ rfl (by decide) hi (by decide) (by decide)
  · exact key [(1, 6), (2, 6), (3, 6), (4, 6), (5, 6), (6, 5), (7, 5), (8, 5), (9, 5)] 10 5 _ rfl (by decide) hi (by decide) (by decide)
  · exact key [(1, 6), (2, 6), (3, 6), (4, 6), (5, 6), (6, 5), (7, 5), (8, 5), (9, 5), (10, 5)] 11 1 _ rfl (by decide) hi (by decide) (by decide)
  · exact key [(1, 6), (2, 6), (3, 6), (4, 6), (5, 6), (6, 5), (7, 5), (8, 5), (9, 5), (10, 5), (11, 1)] 12 1 _ rfl (by decide) hi (by decide) (by decide)
  · exact key [(1, 6), (2, 6), (3, 6), (4, 6), (5, 6), (6, 5), (7, 5), (8, 5), (9, 5), (10, 5), (11, 1), (12, 1)] 13 1 _ rfl (by decide) hi (by decide) (by decide)
  · exact key [(1, 6), (2, 6), (3, 6), (4, 6), (5, 6), (6, 5), (7, 5), (8, 5), (9, 5), (10, 5), (11, 1), (12, 1), (13, 1)] 14 1 _ rfl (by decide) hi (by decide) (by decide)
/-- the two again, by what they do alone -/
theorem kpS_ex (w : Nat) (S : SS) : ∃ F : SS, (w ≤ 10 → ∀ τ, T_X3_passesAll (nI w) (nI 1) (Ro τ 13 S) = some (Ro τ 13 F)) ∧ (∀ g j, (g ≠ 22 ∧ g ≠ 24 ∧ g ≠ 25) → F g j = S g j) ∧ (∀ j, (j < 60 * w ∨ 60 * w + 59 ≤ j) → F 22 j = S 22 j) ∧ (∀ f i, InR f i → fr F w f i = S f i) :=
  ⟨kpX w S, fun h τ => x3_keepX h, fun g j h => kpX_oth h, fun j h => kpX_out h, fun f i h => kpX_fr h⟩
theorem gtS_ex (w : Nat) (S : SS) : ∃ F : SS, (w ≤ 10 → ∀ τ, T_X3_passesAll (nI w) (nI 0) (Ro τ 13 S) = some (Ro τ 13 F)) ∧ (∀ g j, (g = 0 ∨ 15 ≤ g) → (g ≠ 24 ∧ g ≠ 25) → F g j = S g j) ∧ (∀ f i, InR f i → F f i = fr S w f i) :=
  ⟨gtX w S, fun h τ => x3_putX h, fun g j h h2 => gtX_oth h h2, fun f i h => gtX_in h⟩
noncomputable def kpS (w : Nat) (S : SS) : SS := Classical.choose (kpS_ex w S)
noncomputable def gtS (w : Nat) (S : SS) : SS := Classical.choose (gtS_ex w S)
section Again
variable {τ : TT} {S : SS} {w : Nat}
theorem x3_keepAll (hw : w ≤ 10) : T_X3_passesAll (nI w) (nI 1) (Ro τ 13 S) = some (Ro τ 13 (kpS w S)) := (Classical.choose_spec (kpS_ex w S)).1 hw τ
theorem kpS_oth {g j : Nat} (h : g ≠ 22 ∧ g ≠ 24 ∧ g ≠ 25) : kpS w S g j = S g j := (Classical.choose_spec (kpS_ex w S)).2.1 g j h
theorem kpS_out {j : Nat} (h : j < 60 * w ∨ 60 * w + 59 ≤ j) : kpS w S 22 j = S 22 j := (Classical.choose_spec (kpS_ex w S)).2.2.1 j h
theorem kpS_fr {f i : Nat} (h : InR f i) : fr (kpS w S) w f i = S f i := (Classical.choose_spec (kpS_ex w S)).2.2.2 f i h
theorem x3_putAll (hw : w ≤ 10) : T_X3_passesAll (nI w) (nI 0) (Ro τ 13 S) = some (Ro τ 13 (gtS w S)) := (Classical.choose_spec (gtS_ex w S)).1 hw τ
theorem gtS_oth {g j : Nat} (h : g = 0 ∨ 15 ≤ g) (h2 : g ≠ 24 ∧ g ≠ 25) : gtS w S g j = S g j := (Classical.choose_spec (gtS_ex w S)).2.1 g j h h2
theorem gtS_in {f i : Nat} (h : InR f i) : gtS w S f i = fr S w f i := (Classical.choose_spec (gtS_ex w S)).2.2 f i h
end Again
