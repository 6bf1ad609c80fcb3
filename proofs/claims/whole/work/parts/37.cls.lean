/-! THE CLASS: copying, hours on -/
theorem NN_int : (nI 4294967287).toInt = -9 := by decide
theorem NN_lt {x : Nat} (h : x < 2147483648) : nI 4294967287 < nI x ↔ True := by
  rw [Int32.lt_iff_toInt_lt, NN_int, nI_toInt h]
  exact ⟨fun _ => trivial, fun _ => by omega⟩
theorem lt_NN {x : Nat} (h : x < 2147483648) : nI x < nI 4294967287 ↔ False := by
  rw [Int32.lt_iff_toInt_lt, NN_int, nI_toInt h]
  exact ⟨fun _ => by omega, fun q => q.elim⟩
theorem NN_le {x : Nat} (h : x < 2147483648) : nI 4294967287 ≤ nI x ↔ True := by
  rw [Int32.le_iff_toInt_le, NN_int, nI_toInt h]
  exact ⟨fun _ => trivial, fun _ => by omega⟩
theorem le_NN {x : Nat} (h : x < 2147483648) : nI x ≤ nI 4294967287 ↔ False := by
  rw [Int32.le_iff_toInt_le, NN_int, nI_toInt h]
  exact ⟨fun _ => by omega, fun q => q.elim⟩
section Rx
variable {α : Type} {τ : TT} {o o' k n i x : Nat} {S : SS}
theorem rx_gf {F : Int32 → Option α} (h : o' ≠ o) : gf (Ro τ o S) o' k F = F (nI (τ.1 o' k 0)) := by
  show F (nI (wo τ.1 o S o' k 0)) = _
  rw [wo_ne _ _ h]
theorem rx_ld {F : Int32 → Option α} (h : o' ≠ o) (hi : i < n) (hn : n < 2147483648) : ld (Ro τ o S) o' k n (nI i) F = F (nI (τ.1 o' k i)) := by
  unfold ld
  rw [if_neg (nI_in hi hn), nI_clamp (by omega)]
  show F (nI (wo τ.1 o S o' k i)) = _
  rw [wo_ne _ _ h]
theorem rx_up (h : o' ≠ o) : (upd3 (Ro τ o S).1 o' k i (nI x), (Ro τ o S).2) = Ro (wo τ.1 o' (up (τ.1 o') k i x), τ.2) o S := by
  unfold Ro
  congr 1
  funext o'' k' i'
  show (if o'' = o' ∧ k' = k ∧ i' = i then nI x else nI (wo τ.1 o S o'' k' i')) = nI (wo (wo τ.1 o' (up (τ.1 o') k i x)) o S o'' k' i')
  by_cases h1 : o'' = o
  · subst h1
    rw [wo_at, wo_at, if_neg (fun q => h q.1.symm)]
  · rw [wo_ne _ _ h1, wo_ne _ _ h1]
    by_cases h2 : o'' = o'
    · subst h2
      rw [wo_at]
      unfold up
      by_cases h3 : k' = k ∧ i' = i
      · rw [if_pos h3, if_pos ⟨rfl, h3⟩]
      · rw [if_neg h3, if_neg (fun q => h3 q.2)]
    · rw [wo_ne _ _ h2, if_neg (fun q => h2 q.1)]
theorem rx_pf {F : ST → Option α} (h : o' ≠ o) : pf (Ro τ o S) o' k (nI x) F = F (Ro (wo τ.1 o' (up (τ.1 o') k 0 x), τ.2) o S) := by
  unfold pf
  rw [rx_up h]
theorem rx_sd {F : ST → Option α} (h : o' ≠ o) (hi : i < n) (hn : n < 2147483648) : sd (Ro τ o S) o' k n (nI i) (nI x) F = F (Ro (wo τ.1 o' (up (τ.1 o') k i x), τ.2) o S) := by
  unfold sd
  rw [if_neg (nI_in hi hn), nI_clamp (by omega), rx_up h]
def cpA (A C : SS) (k k' z : Nat) : SS := fun f i => if f = k' ∧ i < z then A k i else C f i
theorem rx_cp {F : ST → Option α} {k' n' z : Nat} (h : o' ≠ o) (hz : z ≤ n) (hz' : z ≤ n') (hn : n < 2147483648) : cp (Ro τ o S) o' k n o k' n' (nI z) F = F (Ro τ o (cpA (τ.1 o') S k k' z)) := by
  have hc : (nI z).toNatClampNeg = z := nI_clamp (by omega)
  unfold cp
  rw [hc, if_neg (by rw [show (0 : Int32) = nI 0 from rfl, q_lt (by omega) (by omega)]; omega)]
  congr 1
  unfold Ro
  congr 1
  funext o'' f i
  unfold updA va_cpy cpA
  show (if o'' = o ∧ f = k' then (fun k_1 => if 0 ≤ k_1 ∧ k_1 < 0 + z then nI (wo τ.1 o S o' k (0 + (k_1 - 0))) else nI (wo τ.1 o S o k' k_1)) else fun j => nI (wo τ.1 o S o'' f j)) i = nI (wo τ.1 o (fun f i => if f = k' ∧ i < z then τ.1 o' k i else S f i) o'' f i)
  by_cases h1 : o'' = o
  · subst h1
    rw [wo_at, wo_at]
    by_cases h2 : f = k'
    · subst h2
      rw [if_pos ⟨rfl, rfl⟩]
      by_cases h3 : i < z
      · rw [if_pos (by omega), if_pos ⟨rfl, h3⟩]
        rw [wo_ne _ _ h, Nat.zero_add, Nat.sub_zero]
      · rw [if_neg (by omega), if_neg (fun q => h3 q.2)]
    · rw [if_neg (fun q => h2 q.2), if_neg (fun q => h2 q.1)]
  · rw [wo_ne _ _ h1, wo_ne _ _ h1, if_neg (fun q => h1 q.1)]
end Rx
/-- C' is a copy of the street A, its tallies at nought -/
def CQ (A C' : SS) : Prop := (C' 0 0 = A 0 0 ∧ C' 7 0 = A 7 0 ∧ C' 13 0 = A 13 0 ∧ C' 14 0 = A 14 0) ∧ (∀ f i, 1 ≤ f → f ≤ 6 → i < 6 → C' f i = A f i) ∧ (∀ f i, 8 ≤ f → f ≤ 12 → i < 5 → C' f i = A f i) ∧ (∀ i, i < 5 → C' 15 i = 0 ∧ C' 16 i = 0) ∧ C' 17 0 = 0 ∧ C' 18 0 = kN 9
/-- the class's street C stands for S, the tallies aside -/
def SB (C S : SS) : Prop :=
  (C 0 0 = S 11 0 ∧ C 7 0 = S 12 0 ∧ C 13 0 = S 14 0 ∧ C 14 0 = S 13 0) ∧
  (∀ b, b < S 11 0 → C 1 b = S 1 b ∧ C 2 b = S 2 b ∧ C 3 b = S 3 b ∧ C 4 b = kN (S 4 b) ∧ C 5 b = S 5 b ∧ C 6 b = kN (who S b)) ∧
  (∀ l, l < S 12 0 → C 8 l = S 6 l ∧ C 9 l = S 7 l ∧ C 10 l = S 8 l ∧ C 11 l = kN (S 9 l) ∧ C 12 l = S 10 l)
theorem SC.sb {D C S : SS} (R : SC D C S) : SB C S := ⟨R.1, R.2.1, R.2.2.1⟩
theorem SB.sc {C S : SS} (R : SB C S) : SC (fun f i => S f i - C (if f = 27 then 15 else if f = 28 then 16 else 17) i) C S → SC (fun f i => S f i - C (if f = 27 then 15 else if f = 28 then 16 else 17) i) C S := fun h => h
theorem CQ.sb {A C S : SS} (h : CQ A C) (W : WF S) (R : SB A S) : SB C S := by
  obtain ⟨⟨h1, h2, h3, h4⟩, h5, h6, -⟩ := h
  obtain ⟨⟨r1, r2, r3, r4⟩, r5, r6⟩ := R
  have w1 := W.nb
  have w2 := W.nl
  refine ⟨⟨h1.trans r1, h2.trans r2, h3.trans r3, h4.trans r4⟩, fun b hb => ?_, fun l hl => ?_⟩
  · rw [h5 1 b (by omega) (by omega) (by omega), h5 2 b (by omega) (by omega) (by omega), h5 3 b (by omega) (by omega) (by omega), h5 4 b (by omega) (by omega) (by omega), h5 5 b (by omega) (by omega) (by omega), h5 6 b (by omega) (by omega) (by omega)]
    exact r5 b hb
  · rw [h6 8 l (by omega) (by omega) (by omega), h6 9 l (by omega) (by omega) (by omega), h6 10 l (by omega) (by omega) (by omega), h6 11 l (by omega) (by omega) (by omega), h6 12 l (by omega) (by omega) (by omega)]
    exact r6 l hl
theorem SB.cp0 {C S : SS} (R : SB C S) (h : (∀ i, i < 5 → C 15 i = 0 ∧ C 16 i = 0) ∧ C 17 0 = 0) : SC S C S := by
  refine ⟨R.1, R.2.1, R.2.2, fun l hl => ?_, ?_⟩
  · rw [(h.1 l hl).1, (h.1 l hl).2]; omega
  · rw [h.2]; omega
theorem CQ.sc {A C S : SS} (h : CQ A C) (W : WF S) (R : SB A S) : SC S C S := (h.sb W R).cp0 ⟨h.2.2.2.1, h.2.2.2.2.1⟩
section Cls5
variable {τ : TT} {o : Nat} {D C S : SS}
theorem x0_st : ∃ C', T_X0_startTallies o (Ro τ o C) = some (Ro τ o C') ∧ (∀ f i, f < 15 → C' f i = C f i) ∧ (∀ i, i < 5 → C' 15 i = 0 ∧ C' 16 i = 0) ∧ C' 17 0 = 0 ∧ C' 18 0 = kN 9 := by
  obtain ⟨m, hm⟩ : ∃ m, FU = m + 6 := ⟨2994, rfl⟩
  refine ⟨up (up (up (up (up (up (up (up (up (up (up (up C 15 0 0) 16 0 0) 15 1 0) 16 1 0) 15 2 0) 16 2 0) 15 3 0) 16 3 0) 15 4 0) 16 4 0) 17 0 0) 18 0 (kN 9), ?_, ?_, ?_, ?_, ?_⟩
  · unfold T_X0_startTallies
    rw [hm]
    simp (disch := omega) only [T_X0_startTallies_L2, rx_gf, rx_ld, rx_pf, rx_sd, m9, NN_lt, lt_NN, NN_le, le_NN, if_true, if_false, n_mod, q_dec, ro_gf, ro_ld, ro_sd, ro_pf, e_vl, e_cV, e_cI, nI_add, q_mul, q_sub, q_rem, q_div, q_eq, q_lt, q_le, c0, c1, c2, c3, c4, c5, c6, c7, c8, c9, c10, c99]
    simp (disch := omega) only [T_X0_startTallies_L2, kN_9, if_pos, if_neg, rx_gf, rx_ld, rx_pf, rx_sd, m9, NN_lt, lt_NN, NN_le, le_NN, if_true, if_false, n_mod, q_dec, ro_gf, ro_ld, ro_sd, ro_pf, e_vl, e_cV, e_cI, nI_add, q_mul, q_sub, q_rem, q_div, q_eq, q_lt, q_le, c0, c1, c2, c3, c4, c5, c6, c7, c8, c9, c10, c99]
  · intro f i hf
    simp only [up]
    rw [if_neg (by omega), if_neg (by omega), if_neg (by omega), if_neg (by omega), if_neg (by omega), if_neg (by omega), if_neg (by omega), if_neg (by omega), if_neg (by omega), if_neg (by omega), if_neg (by omega), if_neg (by omega)]
  · intro i hi
    have : i = 0 ∨ i = 1 ∨ i = 2 ∨ i = 3 ∨ i = 4 := by omega
    rcases this with rfl | rfl | rfl | rfl | rfl <;> simp [up]
  · simp [up]
  · simp [up]
theorem x0_copy {o0 : Nat} (h : o0 ≠ o) : ∃ C', T_X0_copyFrom o o0 (Ro τ o C) = some (Ro τ o C') ∧ CQ (τ.1 o0) C' := by
  unfold T_X0_copyFrom
  simp (disch := omega) only [rx_cp h, rx_gf, rx_ld, rx_pf, rx_sd, m9, NN_lt, lt_NN, NN_le, le_NN, if_true, if_false, n_mod, q_dec, ro_gf, ro_ld, ro_sd, ro_pf, e_vl, e_cV, e_cI, nI_add, q_mul, q_sub, q_rem, q_div, q_eq, q_lt, q_le, c0, c1, c2, c3, c4, c5, c6, c7, c8, c9, c10, c99]
  obtain ⟨C', e, e1, e2, e3, e4⟩ := x0_st (τ := τ) (o := o) (C := up (up (cpA (τ.1 o0) (cpA (τ.1 o0) (cpA (τ.1 o0) (cpA (τ.1 o0) (cpA (τ.1 o0) (up (cpA (τ.1 o0) (cpA (τ.1 o0) (cpA (τ.1 o0) (cpA (τ.1 o0) (cpA (τ.1 o0) (cpA (τ.1 o0) (up C 0 0 (τ.1 o0 0 0)) 1 1 6) 2 2 6) 3 3 6) 4 4 6) 5 5 6) 6 6 6) 7 0 (τ.1 o0 7 0)) 8 8 5) 9 9 5) 10 10 5) 11 11 5) 12 12 5) 13 0 (τ.1 o0 13 0)) 14 0 (τ.1 o0 14 0))
  rw [e]
  refine ⟨C', rfl, ⟨?_, ?_, ?_, ?_⟩, ?_, ?_, e2, e3, e4⟩
  · rw [e1 _ _ (by decide)]; simp [up, cpA]
  · rw [e1 _ _ (by decide)]; simp [up, cpA]
  · rw [e1 _ _ (by decide)]; simp [up, cpA]
  · rw [e1 _ _ (by decide)]; simp [up, cpA]
  · intro f i h1 h2 h3
    rw [e1 _ _ (by omega)]
    have : f = 1 ∨ f = 2 ∨ f = 3 ∨ f = 4 ∨ f = 5 ∨ f = 6 := by omega
    rcases this with rfl | rfl | rfl | rfl | rfl | rfl <;> simp [up, cpA, h3]
  · intro f i h1 h2 h3
    rw [e1 _ _ (by omega)]
    have : f = 8 ∨ f = 9 ∨ f = 10 ∨ f = 11 ∨ f = 12 := by omega
    rcases this with rfl | rfl | rfl | rfl | rfl <;> simp [up, cpA, h3]
end Cls5
def runS (S : SS) : Nat → SS
  | 0 => S
  | r + 1 => runS (hourS S 9) r
section Cls6
variable {τ : TT} {o : Nat} {D C S : SS}
theorem x0_hL {K : Int32 → Int32 → ST → Option ST} {v1 : Int32} {v2 : Nat} {z : Nat} (hz : z ≤ 9) : ∀ r C S l n, WF S → S 13 0 < 1000000 → SC D C S → C 18 0 = kN z → l + r = S 12 0 → r < n → ∃ C', T_X0_goHours_L19 o K n v1 (nI v2) (nI l) (Ro τ o C) = K v1 (nI (v2 + 1)) (Ro τ o C') ∧ SC D C' (allGrow (allOne S z r l) (S 12 0) 0) ∧ C' 18 0 = kN z := by
  intro r
  induction r with
  | zero =>
    intro C S l n W hh R ha h hn
    obtain ⟨n, rfl⟩ := fu_one hn
    have h12 := W.nl
    obtain ⟨C', b1, b2, b3⟩ := x0_behind (τ := τ) (o := o) W R (F := fun σ5 => vl (nI v2 + 1) (fun x6 => K v1 x6 σ5))
    refine ⟨C', ?_, b2, b3.trans ha⟩
    unfold T_X0_goHours_L19
    simp (disch := omega) only [ro_gf, R.c7, q_le]
    rw [if_pos (by omega), b1]
    simp only [e_vl, c1, nI_add]
  | succ r ih =>
    intro C S l n W hh R ha h hn
    obtain ⟨n, rfl⟩ := fu_one (by omega : 0 < n)
    have h12 := W.nl
    have hl : l < S 12 0 := by omega
    obtain ⟨C1, g1, g2, g3⟩ := x0_go (τ := τ) (o := o) W hh R hl hz ha
    obtain ⟨C', b1, b2, b3⟩ := ih C1 (one S l (decide (l = z))) (l + 1) n (W.one hl) (by rw [one_keeps (by decide)]; exact hh) g2 g3 (by rw [one_keeps (by decide)]; omega) (by omega)
    rw [one_keeps (by decide)] at b2
    refine ⟨C', ?_, b2, b3⟩
    unfold T_X0_goHours_L19
    simp (disch := omega) only [ro_gf, R.c7, q_le]
    rw [if_neg (by omega), g1]
    simp only [e_cV, e_vl, c1, nI_add]
    exact b1
theorem x0_hour {K : Int32 → Int32 → ST → Option ST} {v1 : Int32} {v2 : Nat} {z : Nat} (hz : z ≤ 9) (W : WF S) (hh : S 13 0 < 999999) (R : SC D C S) (ha : C 18 0 = kN z) : ∃ C', gf (Ro τ o C) o 14 (fun x1 => pf (Ro τ o C) o 14 (x1 + 1) (fun σ2 => T_X0_goHours_L19 o K FU v1 (nI v2) 0 σ2)) = K v1 (nI (v2 + 1)) (Ro τ o C') ∧ SC D C' (hourS S z) ∧ C' 18 0 = kN z := by
  have h12 := W.nl
  have r14 := R.c14
  have R1 := R.upt (f := 14) (g := 13) (i := 0) (x := S 13 0 + 1) (y := S 13 0 + 1) (Or.inr (Or.inr (Or.inr ⟨rfl, rfl, rfl⟩)))
  have W1 := W.up13 (x := S 13 0 + 1)
  obtain ⟨C', b1, b2, b3⟩ := x0_hL (τ := τ) (o := o) (D := D) (K := K) (v1 := v1) (v2 := v2) hz (S 12 0) (up C 14 0 (S 13 0 + 1)) (up S 13 0 (S 13 0 + 1)) 0 FU W1 (by rw [up_at]; omega) R1 (by rw [up_ne _ (by omega)]; exact ha) (by rw [up_ne _ (by omega)]; omega) (FU_gt (by omega))
  refine ⟨C', ?_, ?_, b3⟩
  · simp only [ro_gf, r14, c1, nI_add, ro_pf]
    exact b1
  · show SC D C' (allGrow (allOne (up S 13 0 (S 13 0 + 1)) z (S 12 0) 0) (allOne (up S 13 0 (S 13 0 + 1)) z (S 12 0) 0 12 0) 0)
    rw [allOne_keeps (by decide)]
    exact b2
theorem hourS_keeps {z f i : Nat} (hf : f ≠ 5 ∧ f ≠ 8 ∧ f ≠ 10 ∧ f ≠ 13 ∧ f ≠ 27 ∧ f ≠ 28 ∧ f ≠ 29) : hourS S z f i = S f i := by
  show allGrow _ _ _ f i = _
  rw [allGrow_keeps (by omega), allOne_keeps (by omega), up_ne _ (by omega)]
theorem hourS_13 {z : Nat} : hourS S z 13 0 = S 13 0 + 1 := by
  show allGrow _ _ _ 13 0 = _
  rw [allGrow_keeps (by omega), allOne_keeps (by omega), up_at]
theorem runS_keeps {f i : Nat} (hf : f ≠ 5 ∧ f ≠ 8 ∧ f ≠ 10 ∧ f ≠ 13 ∧ f ≠ 27 ∧ f ≠ 28 ∧ f ≠ 29) : ∀ r S, runS S r f i = S f i
  | 0, S => rfl
  | r + 1, S => by
    show runS (hourS S 9) r f i = _
    rw [runS_keeps hf r, hourS_keeps hf]
theorem runS_13 : ∀ r S, runS S r 13 0 = S 13 0 + r
  | 0, S => rfl
  | r + 1, S => by
    show runS (hourS S 9) r 13 0 = _
    rw [runS_13 r, hourS_13]; omega
theorem WF.run : ∀ r S, WF S → WF (runS S r)
  | 0, S, W => W
  | r + 1, S, W => WF.run r _ (W.hour 9)
theorem x0_hoursL {z : Nat} (hz : z ≤ 9) : ∀ r C S k n, WF S → S 13 0 + r < 999999 → SC D C S → C 18 0 = kN 9 → k + r < 2147483648 → r < n → ∃ C', T_X0_goHours_L2 o n (nI (k + r)) (nI k) (Ro τ o C) = some (Ro τ o C') ∧ SC D C' (runS S r) ∧ C' 18 0 = kN 9 := by
  intro r
  induction r with
  | zero =>
    intro C S k n W hh R ha h hn
    obtain ⟨n, rfl⟩ := fu_one hn
    refine ⟨C, ?_, R, ha⟩
    unfold T_X0_goHours_L2
    rw [if_pos (by rw [q_le (by omega) (by omega)]; omega)]
  | succ r ih =>
    intro C S k n W hh R ha h hn
    obtain ⟨n, rfl⟩ := fu_one (by omega : 0 < n)
    obtain ⟨C1, g1, g2, g3⟩ := x0_hour (τ := τ) (o := o) (D := D) (K := fun v1 v2 s => T_X0_goHours_L2 o n v1 v2 s) (v1 := nI (k + (r + 1))) (v2 := k) (by decide : 9 ≤ 9) W (by omega) R ha
    obtain ⟨C', b1, b2, b3⟩ := ih C1 (hourS S 9) (k + 1) n (W.hour 9) (by rw [hourS_13]; omega) g2 g3 (by omega) (by omega)
    refine ⟨C', ?_, b2, b3⟩
    unfold T_X0_goHours_L2
    rw [if_neg (by rw [q_le (by omega) (by omega)]; omega), g1]
    show T_X0_goHours_L2 o n (nI (k + (r + 1))) (nI (k + 1)) (Ro τ o C1) = _
    rw [← b1]
    congr 2
    omega
/-- n hours on -/
theorem x0_hours (W : WF S) {n : Nat} (hn : n ≤ 60) (hh : S 13 0 < 900000) (R : SC D C S) (ha : C 18 0 = kN 9) : ∃ C', T_X0_goHours o (nI n) (Ro τ o C) = some (Ro τ o C') ∧ SC D C' (runS S n) ∧ C' 18 0 = kN 9 := by
  obtain ⟨C', b1, b2⟩ := x0_hoursL (τ := τ) (o := o) (D := D) (by decide : 9 ≤ 9) n C S 0 FU W (by omega) R ha (by omega) (FU_gt (by omega))
  rw [Nat.zero_add] at b1
  exact ⟨C', b1, b2⟩
/-- one hour on, z asleep -/
theorem x0_hour1 {z : Nat} (hz : z ≤ 9) (W : WF S) (hh : S 13 0 < 999999) (R : SC D C S) (ha : C 18 0 = kN z) : ∃ C', T_X0_goHours o (nI 1) (Ro τ o C) = some (Ro τ o C') ∧ SC D C' (hourS S z) ∧ C' 18 0 = kN z := by
  obtain ⟨m, hm⟩ : ∃ m, FU = m + 2 := ⟨2998, rfl⟩
  obtain ⟨C1, g1, g2, g3⟩ := x0_hour (τ := τ) (o := o) (D := D) (K := fun v1 v2 s => T_X0_goHours_L2 o (m + 1) v1 v2 s) (v1 := nI 1) (v2 := 0) hz W hh R ha
  refine ⟨C1, ?_, g2, g3⟩
  unfold T_X0_goHours
  rw [hm]
  unfold T_X0_goHours_L2
  rw [if_neg (by decide)]
  rw [c0] at g1 ⊢
  rw [g1]
  unfold T_X0_goHours_L2
  rw [if_pos (by decide)]
end Cls6
