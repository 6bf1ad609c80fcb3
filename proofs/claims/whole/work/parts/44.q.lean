/-! THE QUESTIONS, second lot -/
def sumN (g : Nat → Nat) : Nat → Nat → Nat
  | 0, _ => 0
  | r + 1, l => g l + sumN g r (l + 1)
theorem sumN_le {g : Nat → Nat} {N : Nat} : ∀ r l, (∀ i, l ≤ i → i < l + r → g i ≤ N) → sumN g r l ≤ r * N
  | 0, l, _ => by show 0 ≤ _; omega
  | r + 1, l, h => by
    show g l + sumN g r (l + 1) ≤ (r + 1) * N
    have h1 := h l (Nat.le_refl _) (by omega)
    have h2 := sumN_le r (l + 1) (fun i a b => h i (by omega) (by omega))
    rw [Nat.add_mul]
    omega
theorem sumN_congr {g g' : Nat → Nat} : ∀ r l, (∀ i, l ≤ i → i < l + r → g i = g' i) → sumN g r l = sumN g' r l
  | 0, l, _ => rfl
  | r + 1, l, h => by
    show g l + sumN g r (l + 1) = g' l + sumN g' r (l + 1)
    rw [h l (Nat.le_refl _) (by omega), sumN_congr r (l + 1) (fun i a b => h i (by omega) (by omega))]
section Sums
variable {τ : TT} {o : Nat} {D C S : SS}
theorem x0_breathL (W : WF S) (R : SB C S) : ∀ r l a n, l + r = S 12 0 → r < n → T_X0_allBreath_L4 o (Ro τ o C) n (nI a) (nI l) = some (nI (a + sumN (S 10) r l)) := by
  have h12 := W.nl
  intro r
  induction r with
  | zero =>
    intro l a n h hn
    obtain ⟨n, rfl⟩ := fu_one hn
    unfold T_X0_allBreath_L4
    simp (disch := omega) only [R.1.2.1, n_mod, q_dec, ro_gf, ro_ld, ro_sd, ro_pf, e_vl, e_cV, e_cI, nI_add, q_mul, q_sub, q_rem, q_div, q_eq, q_lt, q_le, c0, c1, c2, c3, c4, c5, c6, c7, c8, c9, c10, c99]
    rw [if_pos (by omega)]
    rfl
  | succ r ih =>
    intro l a n h hn
    obtain ⟨n, rfl⟩ := fu_one (by omega : 0 < n)
    have hl : l < S 12 0 := by omega
    unfold T_X0_allBreath_L4
    simp (disch := omega) only [R.1.2.1, (R.bea hl).2.2.2.2, n_mod, q_dec, ro_gf, ro_ld, ro_sd, ro_pf, e_vl, e_cV, e_cI, nI_add, q_mul, q_sub, q_rem, q_div, q_eq, q_lt, q_le, c0, c1, c2, c3, c4, c5, c6, c7, c8, c9, c10, c99]
    rw [if_neg (by omega), ih (l + 1) (a + S 10 l) n (by omega) (by omega), Nat.add_assoc]
    rfl
theorem x0_breath (W : WF S) (R : SB C S) : T_X0_allBreath o (Ro τ o C) = some (nI (sumN (S 10) (S 12 0) 0)) := by
  have h12 := W.nl
  have := x0_breathL (τ := τ) (o := o) W R (S 12 0) 0 0 FU (by omega) (FU_gt (by omega))
  rw [Nat.zero_add] at this
  exact this
theorem x3_breathL (W : WF S) : ∀ r l a n, l + r = S 12 0 → r < n → T_X3_allBreath_L4 (Ro τ 13 S) n (nI a) (nI l) = some (nI (a + sumN (S 10) r l)) := by
  have h12 := W.nl
  intro r
  induction r with
  | zero =>
    intro l a n h hn
    obtain ⟨n, rfl⟩ := fu_one hn
    unfold T_X3_allBreath_L4
    simp (disch := omega) only [n_mod, q_dec, ro_gf, ro_ld, ro_sd, ro_pf, e_vl, e_cV, e_cI, nI_add, q_mul, q_sub, q_rem, q_div, q_eq, q_lt, q_le, c0, c1, c2, c3, c4, c5, c6, c7, c8, c9, c10, c99]
    rw [if_pos (by omega)]
    rfl
  | succ r ih =>
    intro l a n h hn
    obtain ⟨n, rfl⟩ := fu_one (by omega : 0 < n)
    have hl : l < S 12 0 := by omega
    unfold T_X3_allBreath_L4
    simp (disch := omega) only [n_mod, q_dec, ro_gf, ro_ld, ro_sd, ro_pf, e_vl, e_cV, e_cI, nI_add, q_mul, q_sub, q_rem, q_div, q_eq, q_lt, q_le, c0, c1, c2, c3, c4, c5, c6, c7, c8, c9, c10, c99]
    rw [if_neg (by omega), ih (l + 1) (a + S 10 l) n (by omega) (by omega), Nat.add_assoc]
    rfl
theorem x3_breath (W : WF S) : T_X3_allBreath (Ro τ 13 S) = some (nI (sumN (S 10) (S 12 0) 0)) := by
  have h12 := W.nl
  have := x3_breathL (τ := τ) W (S 12 0) 0 0 FU (by omega) (FU_gt (by omega))
  rw [Nat.zero_add] at this
  exact this
theorem x0_ledHL (h12 : C 7 0 ≤ 5) : ∀ r l a n, l + r = C 7 0 → r < n → T_X0_allLedHours_L4 o (Ro τ o C) n (nI a) (nI l) = some (nI (a + sumN (C 15) r l)) := by
  intro r
  induction r with
  | zero =>
    intro l a n h hn
    obtain ⟨n, rfl⟩ := fu_one hn
    unfold T_X0_allLedHours_L4
    simp (disch := omega) only [n_mod, q_dec, ro_gf, ro_ld, ro_sd, ro_pf, e_vl, e_cV, e_cI, nI_add, q_mul, q_sub, q_rem, q_div, q_eq, q_lt, q_le, c0, c1, c2, c3, c4, c5, c6, c7, c8, c9, c10, c99]
    rw [if_pos (by omega)]
    rfl
  | succ r ih =>
    intro l a n h hn
    obtain ⟨n, rfl⟩ := fu_one (by omega : 0 < n)
    unfold T_X0_allLedHours_L4
    simp (disch := omega) only [n_mod, q_dec, ro_gf, ro_ld, ro_sd, ro_pf, e_vl, e_cV, e_cI, nI_add, q_mul, q_sub, q_rem, q_div, q_eq, q_lt, q_le, c0, c1, c2, c3, c4, c5, c6, c7, c8, c9, c10, c99]
    rw [if_neg (by omega), ih (l + 1) (a + C 15 l) n (by omega) (by omega), Nat.add_assoc]
    rfl
theorem x0_ledH (h12 : C 7 0 ≤ 5) : T_X0_allLedHours o (Ro τ o C) = some (nI (sumN (C 15) (C 7 0) 0)) := by
  have := x0_ledHL (τ := τ) (o := o) h12 (C 7 0) 0 0 FU (by omega) (FU_gt (by omega))
  rw [Nat.zero_add] at this
  exact this
theorem x3_ledL (h12 : S 12 0 ≤ 5) : ∀ r l a n, l + r = S 12 0 → r < n → T_X3_allLed_L10 n (nI a) (nI l) (Ro τ 13 S) = some (nI (a + sumN (S 27) r l), Ro τ 13 S) := by
  intro r
  induction r with
  | zero =>
    intro l a n h hn
    obtain ⟨n, rfl⟩ := fu_one hn
    unfold T_X3_allLed_L10
    simp (disch := omega) only [n_mod, q_dec, ro_gf, ro_ld, ro_sd, ro_pf, e_vl, e_cV, e_cI, nI_add, q_mul, q_sub, q_rem, q_div, q_eq, q_lt, q_le, c0, c1, c2, c3, c4, c5, c6, c7, c8, c9, c10, c99]
    rw [if_pos (by omega)]
    rfl
  | succ r ih =>
    intro l a n h hn
    obtain ⟨n, rfl⟩ := fu_one (by omega : 0 < n)
    unfold T_X3_allLed_L10
    simp (disch := omega) only [n_mod, q_dec, ro_gf, ro_ld, ro_sd, ro_pf, e_vl, e_cV, e_cI, nI_add, q_mul, q_sub, q_rem, q_div, q_eq, q_lt, q_le, c0, c1, c2, c3, c4, c5, c6, c7, c8, c9, c10, c99]
    rw [if_neg (by omega), ih (l + 1) (a + S 27 l) n (by omega) (by omega), Nat.add_assoc]
    rfl
end Sums
/-- in an hour each is led, or rests, once at most; each crocodile's bearer is snapped at once at most -/
theorem stepG_t {S : SS} {l g f i : Nat} (hf : f ≠ 8 ∧ f ≠ 10) : stepG S l g f i = S f i := by
  unfold stepG
  split
  · rfl
  · rw [up_ne _ (by omega), up_ne _ (by omega)]
theorem one_27 {S : SS} {l : Nat} {z : Bool} {i : Nat} : one S l z 27 i ≤ S 27 i + (if i = l then 1 else 0) ∧ S 27 i ≤ one S l z 27 i := by
  unfold one
  split
  · rw [up_ne _ (by omega), up_ne _ (by omega)]; omega
  · split
    · have e : ∀ T : SS, goLed T l 27 i = T 27 i := by
        intro T
        unfold goLed
        split
        · rw [stepG_t (by decide), stepG_t (by decide)]
        · rw [stepG_t (by decide)]
      rw [e]
      by_cases h : i = l
      · subst h; rw [up_at, if_pos rfl]; omega
      · rw [up_ne _ (fun q => h q.2), if_neg h]; omega
    · unfold oneN
      rw [up_ne _ (by omega), up_ne _ (by omega)]; omega
theorem allOne_27 {z i : Nat} : ∀ r S l, allOne S z r l 27 i ≤ S 27 i + (if l ≤ i ∧ i < l + r then 1 else 0) ∧ S 27 i ≤ allOne S z r l 27 i
  | 0, S, l => by show S 27 i ≤ _ ∧ S 27 i ≤ S 27 i; omega
  | r + 1, S, l => by
    show allOne (one S l (decide (l = z))) z r (l + 1) 27 i ≤ _ ∧ S 27 i ≤ allOne (one S l (decide (l = z))) z r (l + 1) 27 i
    have h1 := allOne_27 (z := z) (i := i) r (one S l (decide (l = z))) (l + 1)
    have h2 := one_27 (S := S) (l := l) (z := decide (l = z)) (i := i)
    by_cases e : i = l
    · rw [if_pos e] at h2
      rw [if_neg (by omega)] at h1
      rw [if_pos (by omega)]
      omega
    · rw [if_neg e] at h2
      by_cases e2 : l ≤ i ∧ i < l + (r + 1)
      · rw [if_pos e2]
        rw [if_pos (by omega)] at h1
        omega
      · rw [if_neg e2]
        rw [if_neg (by omega)] at h1
        omega
theorem hour_27 {S : SS} {z i : Nat} : hourS S z 27 i ≤ S 27 i + 1 ∧ S 27 i ≤ hourS S z 27 i := by
  show allGrow _ _ _ 27 i ≤ _ ∧ _ ≤ allGrow _ _ _ 27 i
  rw [allGrow_keeps (by decide)]
  have h := allOne_27 (z := z) (i := i) (S 12 0) (up S 13 0 (S 13 0 + 1)) 0
  rw [up_ne _ (by omega)] at h
  split at h <;> omega
theorem run_27 {i : Nat} : ∀ r S, runS S r 27 i ≤ S 27 i + r ∧ S 27 i ≤ runS S r 27 i
  | 0, S => ⟨Nat.le_refl _, Nat.le_refl _⟩
  | r + 1, S => by
    have h1 := run_27 (i := i) r (hourS S 9)
    have h2 := hour_27 (S := S) (z := 9) (i := i)
    show runS (hourS S 9) r 27 i ≤ _ ∧ _ ≤ runS (hourS S 9) r 27 i
    omega
theorem snapC_le {S : SS} : ∀ r l, snapC S r l ≤ r
  | 0, l => Nat.le_refl _
  | r + 1, l => by
    show sn1 S l + snapC S r (l + 1) ≤ r + 1
    have := snapC_le (S := S) r (l + 1)
    have : sn1 S l ≤ 1 := by unfold sn1; split <;> omega
    omega
theorem hour_29 {S : SS} {z : Nat} (h12 : S 12 0 ≤ 5) : hourS S z 29 0 ≤ S 29 0 + 5 ∧ S 29 0 ≤ hourS S z 29 0 := by
  show allGrow _ _ _ 29 0 ≤ _ ∧ _ ≤ allGrow _ _ _ 29 0
  rw [allGrow29, allOne_keeps (by decide), allOne_keeps (by decide), up_ne _ (by omega), up_ne _ (by omega)]
  have := snapC_le (S := allOne (up S 13 0 (S 13 0 + 1)) z (S 12 0) 0) (S 12 0) 0
  omega
theorem run_29 : ∀ r S, S 12 0 ≤ 5 → runS S r 29 0 ≤ S 29 0 + 5 * r ∧ S 29 0 ≤ runS S r 29 0
  | 0, S, _ => ⟨Nat.le_refl _, Nat.le_refl _⟩
  | r + 1, S, h => by
    have h1 := run_29 r (hourS S 9) (by rw [hourS_keeps (by decide)]; exact h)
    have h2 := hour_29 (S := S) (z := 9) h
    show runS (hourS S 9) r 29 0 ≤ _ ∧ _ ≤ runS (hourS S 9) r 29 0
    omega
section Q2
variable {G : GG} {P : Nat → Nat} {C S X : SS} {τ : TT}
theorem x2_think2 (C : SS) : ∃ C', T_X2_think (Ro (G, P) 2 C) = some (Ro (G, P) 2 C') ∧ CQ (G 1) C' := by
  obtain ⟨C', h1, h2⟩ := x0_copy (τ := (G, P)) (o := 2) (o0 := 1) (C := C) (by decide)
  refine ⟨C', ?_, h2⟩
  unfold T_X2_think
  rw [h1]
  rfl
theorem think_run (R : SB (G 1) X) (W : WF X) (hh : X 13 0 ≤ 999) {n : Nat} (hn : n ≤ 60) (C : SS) : ∃ C1 C2, T_X2_think (Ro (G, P) 2 C) = some (Ro (G, P) 2 C1) ∧ T_X0_goHours 2 (nI n) (Ro (G, P) 2 C1) = some (Ro (G, P) 2 C2) ∧ SC X C2 (runS X n) ∧ C2 18 0 = kN 9 := by
  obtain ⟨C1, t1, t2⟩ := x2_think2 (G := G) (P := P) C
  obtain ⟨C2, g1, g2, g3⟩ := x0_hours (τ := (G, P)) (o := 2) W hn (by omega) (t2.sc W R) t2.2.2.2.2.2
  exact ⟨C1, C2, t1, g1, g2, g3⟩
theorem Eqs.cnt : Eqs X (cntS X) := fun f i q => cnt_oth (by have := q.2.1; omega)
theorem TK.cnt (K : TK X) : TK (cntS X) := ⟨Eqs.cnt.wf K.1, by rw [cnt_oth (by decide)]; exact K.2.1, by rw [cnt_oth (by decide)]; exact K.2.2⟩
theorem OS.cnt {a : Nat} (h : OS a S X) : OS a S (cntS X) := h.any (fun g j q => cnt_oth (by unfold NS at q; omega))
/-- behind n hours, tallied -/
noncomputable def rnC (S : SS) (n : Nat) : SS := runS (cntS (kpS 2 S)) n
theorem x3_snapsIn (K : TK S) {n : Nat} (hn : n ≤ 60) : T_X3_snapsIn (nI n) (Ro τ 13 S) = some (nI (rnC S n 29 0), Ro τ 13 (gtS 2 (rnC S n))) := by
  have K2 := (K.keep (w := 2)).cnt
  unfold T_X3_snapsIn rnC
  simp only [x3_thinks, x3_counts, e_cV]
  rw [x3_goes K2.1 hn (by have := K2.2.1; omega) K2.2.2]
  simp only [e_cV, x3_forgets, ro_gf]
  rw [gtS_oth (by decide) (by decide)]
theorem KR.rnC (K : TK S) (n : Nat) : KR 120 S (gtS 2 (rnC S n)) := KR.think K.2.2 ((OS.keep K.2.2).cnt.run n)
/-- the same of the class, with what its tallies then are -/
theorem cls_rnC (K : TK S) (R : SB (G 1) S) {n : Nat} (hn : n ≤ 60) (C : SS) : ∃ C1 C2, T_X2_think (Ro (G, P) 2 C) = some (Ro (G, P) 2 C1) ∧ T_X0_goHours 2 (nI n) (Ro (G, P) 2 C1) = some (Ro (G, P) 2 C2) ∧ SB C2 (rnC S n) ∧ WF (rnC S n) ∧ (∀ l, l < 5 → C2 15 l = rnC S n 27 l ∧ C2 16 l = rnC S n 28 l) ∧ C2 17 0 = rnC S n 29 0 := by
  have K2 := (K.keep (w := 2)).cnt
  obtain ⟨C1, C2, h1, h2, h3, -⟩ := think_run (P := P) ((Eqs.keep.trans Eqs.cnt).sb K.1 R) K2.1 K2.2.1 hn C
  refine ⟨C1, C2, h1, h2, h3.sb, K2.1.run n _, fun l hl => ?_, ?_⟩
  · have a := h3.2.2.2.1 l hl
    have b := cnt_27 (S := kpS 2 S) hl
    rw [b.1, b.2] at a
    exact ⟨a.1.symm, a.2.symm⟩
  · have a := h3.2.2.2.2
    rw [cnt_29] at a
    exact a.symm
theorem rnC_12 {n : Nat} : rnC S n 12 0 = S 12 0 := by
  show runS _ _ 12 0 = _
  rw [runS_keeps (by decide), cnt_oth (by decide), kpS_oth (by decide)]
theorem rnC_27 {n l : Nat} (hl : l < 5) : rnC S n 27 l ≤ n := by
  have := (run_27 (i := l) n (cntS (kpS 2 S))).1
  rw [(cnt_27 hl).1] at this
  show runS _ _ 27 l ≤ n
  omega
theorem rnC_29 {n : Nat} (h : S 12 0 ≤ 5) : rnC S n 29 0 ≤ 5 * n := by
  have := (run_29 n (cntS (kpS 2 S)) (by rw [cnt_oth (by decide), kpS_oth (by decide)]; exact h)).1
  rw [cnt_29] at this
  show runS _ _ 29 0 ≤ 5 * n
  omega
theorem x0_pullK {o : Nat} {D : SS} (W : WF S) (R : SC D C S) {b : Nat} (hb : b = 9 ∨ b < S 11 0) : T_X0_pullOf o (Ro τ o C) (nI (kN b)) = some (nI (if b = 9 then 4294967287 else pull S b)) := by
  have h11 := W.nb
  have r0 := R.c0
  by_cases e : b = 9
  · have hB := x0_hasBag (τ := τ) (o := o) (C := C) (b := b) (by omega) (by omega)
    unfold T_X0_pullOf
    rw [hB, if_pos e, if_pos e]
    simp only [e_cV, c0, if_true, c9, m9]
  · rw [kN_ne e, x0_pull W R (by omega), if_neg e]
theorem ok_rests (J : Inv G P) (a0 a1 : Int32) : OKm G P (T_X2_rests a0 a1) (T_X3_rests a0 a1) := by
  have K := J.tk
  have h12 := K.1.nl
  rcases chk_bearer J a0 with ⟨l, hl, rfl, e1, e2⟩ | ⟨e1, e2⟩
  · rcases chk_hours a1 with ⟨n, hn, rfl, e3, e4⟩ | ⟨k, hk, e3, e4⟩
    · obtain ⟨C1, C2, t1, t2, t3, t4, t5, t6⟩ := cls_rnC (P := P) K J.sb hn (G 2)
      refine ok_q2 (r := nI (rnC (G 13) n 28 l)) (C := C2) J ?_ (fun τ => ⟨gtS 2 (rnC (G 13) n), ?_, (KR.rnC K n).mono (by decide)⟩)
      · unfold T_X2_rests
        simp (disch := omega) only [e1, e3, t1, t2, (t5 l (by omega)).2, Nat.reduceEqDiff, Nat.reduceLeDiff, reduceIte, eq_self, ng1, ng2, ng3, ng4, ng6, rx_gf, rx_ld, rx_pf, rx_sd, m9, NN_lt, lt_NN, NN_le, le_NN, if_true, if_false, n_mod, q_dec, ro_gf, ro_ld, ro_sd, ro_pf, e_vl, e_cV, e_cI, nI_add, q_mul, q_sub, q_rem, q_div, q_eq, q_lt, q_le, c0, c1, c2, c3, c4, c5, c6, c7, c8, c9, c10, c99]
      · unfold T_X3_rests T_X3_rests_j16
        simp (disch := omega) only [e2, e4, x3_snapsIn K hn, gtS_oth (S := rnC (G 13) n) (w := 2) (g := 28) (by decide) (by decide), Nat.reduceEqDiff, Nat.reduceLeDiff, reduceIte, eq_self, ng1, ng2, ng3, ng4, ng6, rx_gf, rx_ld, rx_pf, rx_sd, m9, NN_lt, lt_NN, NN_le, le_NN, if_true, if_false, n_mod, q_dec, ro_gf, ro_ld, ro_sd, ro_pf, e_vl, e_cV, e_cI, nI_add, q_mul, q_sub, q_rem, q_div, q_eq, q_lt, q_le, c0, c1, c2, c3, c4, c5, c6, c7, c8, c9, c10, c99]
    · refine ok_ref k J (by omega) ?_ (fun τ => ?_)
      · unfold T_X2_rests
        simp (disch := omega) only [e1, e3, (neg_ok k (by omega) (by omega)).2.1, cI_id, Nat.reduceEqDiff, Nat.reduceLeDiff, reduceIte, eq_self, ng1, ng2, ng3, ng4, ng6, rx_gf, rx_ld, rx_pf, rx_sd, m9, NN_lt, lt_NN, NN_le, le_NN, if_true, if_false, n_mod, q_dec, ro_gf, ro_ld, ro_sd, ro_pf, e_vl, e_cV, e_cI, nI_add, q_mul, q_sub, q_rem, q_div, q_eq, q_lt, q_le, c0, c1, c2, c3, c4, c5, c6, c7, c8, c9, c10, c99]
      · unfold T_X3_rests T_X3_rests_j16
        simp (disch := omega) only [e2, e4, (neg_ok k (by omega) (by omega)).2.1, cI_id, Nat.reduceEqDiff, Nat.reduceLeDiff, reduceIte, eq_self, ng1, ng2, ng3, ng4, ng6, rx_gf, rx_ld, rx_pf, rx_sd, m9, NN_lt, lt_NN, NN_le, le_NN, if_true, if_false, n_mod, q_dec, ro_gf, ro_ld, ro_sd, ro_pf, e_vl, e_cV, e_cI, nI_add, q_mul, q_sub, q_rem, q_div, q_eq, q_lt, q_le, c0, c1, c2, c3, c4, c5, c6, c7, c8, c9, c10, c99]
  · refine ok_ref 1 J (by decide) ?_ (fun τ => ?_)
    · unfold T_X2_rests; simp (disch := omega) only [e1, cI_id, Nat.reduceEqDiff, Nat.reduceLeDiff, reduceIte, eq_self, ng1, ng2, ng3, ng4, ng6, rx_gf, rx_ld, rx_pf, rx_sd, m9, NN_lt, lt_NN, NN_le, le_NN, if_true, if_false, n_mod, q_dec, ro_gf, ro_ld, ro_sd, ro_pf, e_vl, e_cV, e_cI, nI_add, q_mul, q_sub, q_rem, q_div, q_eq, q_lt, q_le, c0, c1, c2, c3, c4, c5, c6, c7, c8, c9, c10, c99]
    · unfold T_X3_rests T_X3_rests_j16; simp (disch := omega) only [e2, cI_id, Nat.reduceEqDiff, Nat.reduceLeDiff, reduceIte, eq_self, ng1, ng2, ng3, ng4, ng6, rx_gf, rx_ld, rx_pf, rx_sd, m9, NN_lt, lt_NN, NN_le, le_NN, if_true, if_false, n_mod, q_dec, ro_gf, ro_ld, ro_sd, ro_pf, e_vl, e_cV, e_cI, nI_add, q_mul, q_sub, q_rem, q_div, q_eq, q_lt, q_le, c0, c1, c2, c3, c4, c5, c6, c7, c8, c9, c10, c99]
theorem ok_behind (J : Inv G P) (a0 a1 a2 : Int32) : OKm G P (T_X2_behind a0 a1 a2) (T_X3_behind a0 a1 a2) := by
  have K := J.tk
  have h12 := K.1.nl
  rcases chk_bearer J a0 with ⟨l, hl, rfl, e1, e2⟩ | ⟨e1, e2⟩
  · rcases chk_hours a1 with ⟨n, hn, rfl, e3, e4⟩ | ⟨k, hk, e3, e4⟩
    · rcases chk_what a2 3 (by decide) with ⟨x, hx, rfl, e5⟩ | ⟨ho, e5⟩
      · have K2 := (K.keep (w := 2)).cnt
        obtain ⟨C1, C2, t1, t2, t3, -⟩ := think_run (P := P) ((Eqs.keep.trans Eqs.cnt).sb K.1 J.sb) K2.1 K2.2.1 hn (G 2)
        have WY : WF (rnC (G 13) n) := K2.1.run n _
        have t3 : SC (cntS (kpS 2 (G 13))) C2 (rnC (G 13) n) := t3
        have e12 : rnC (G 13) n 12 0 = G 13 12 0 := rnC_12
        have hly : l < rnC (G 13) n 12 0 := by rw [e12]; exact hl
        have h11 := WY.nb
        have r := t3.bea hly
        have w := WY.bea hly
        have a := (t3.2.2.2.1 l (by omega)).1
        rw [(cnt_27 (show l < 5 by omega)).1] at a
        have hled := rnC_27 (S := G 13) (n := n) (l := l) (by omega)
        have pk := x0_pullK (τ := (G, P)) (o := 2) WY t3 w.2.2.2.1
        have KRr := (KR.rnC K n).mono (b := 60) (by decide)
        have goes : ∀ τ, T_X3_goes (nI n) (Ro τ 13 (cntS (kpS 2 (G 13)))) = some (Ro τ 13 (rnC (G 13) n)) := fun τ => x3_goes K2.1 hn (by have := K2.2.1; omega) K2.2.2
        have pre : ∀ τ, T_X3_behind (nI l) (nI n) (nI x) (Ro τ 13 (G 13)) = some (nI (if x = 0 then rnC (G 13) n 8 l else if x = 1 then rnC (G 13) n 10 l else if x = 2 then rnC (G 13) n 27 l else if rnC (G 13) n 9 l = 9 then 4294967287 else pull (rnC (G 13) n) (rnC (G 13) n 9 l)), Ro τ 13 (gtS 2 (rnC (G 13) n))) := by
          intro τ
          unfold T_X3_behind T_X3_behind_j16 T_X3_behind_j36 T_X3_behind_j87 T_X3_behind_j132
          simp only [e2, e4, c3, e5, x3_thinks, x3_counts, goes, x3_forgets, e_cV, e_cI, c0, c1, c2, eq00, eq10, if_true, if_false]
          simp (disch := omega) only [ro_ld, c9, q_le, m9, q_eq]
          by_cases e9 : rnC (G 13) n 9 l = 9
          · rw [if_pos (by omega), if_pos e9]
            have hx' : x = 0 ∨ x = 1 ∨ x = 2 ∨ x = 3 := by omega
            rcases hx' with rfl | rfl | rfl | rfl <;> simp only [Nat.reduceEqDiff, if_true, if_false]
          · rw [if_neg (by omega), if_neg e9, x3_pull WY (by omega)]
            have hx' : x = 0 ∨ x = 1 ∨ x = 2 ∨ x = 3 := by omega
            rcases hx' with rfl | rfl | rfl | rfl <;> simp only [Nat.reduceEqDiff, if_true, if_false, e_cV]
        refine ok_q2 (C := C2) J ?_ (fun τ => ⟨_, pre τ, KRr⟩)
        unfold T_X2_behind
        have hx' : x = 0 ∨ x = 1 ∨ x = 2 ∨ x = 3 := by omega
        rcases hx' with rfl | rfl | rfl | rfl
        · simp (disch := omega) only [e1, e3, t1, t2, if_pos, if_neg, r.2.2.1, Nat.reduceEqDiff, Nat.reduceLeDiff, reduceIte, eq_self, ng1, ng2, ng3, ng4, ng6, rx_gf, rx_ld, rx_pf, rx_sd, m9, NN_lt, lt_NN, NN_le, le_NN, if_true, if_false, n_mod, q_dec, ro_gf, ro_ld, ro_sd, ro_pf, e_vl, e_cV, e_cI, nI_add, q_mul, q_sub, q_rem, q_div, q_eq, q_lt, q_le, c0, c1, c2, c3, c4, c5, c6, c7, c8, c9, c10, c99]
        · simp (disch := omega) only [e1, e3, t1, t2, if_pos, if_neg, r.2.2.2.2, Nat.reduceEqDiff, Nat.reduceLeDiff, reduceIte, eq_self, ng1, ng2, ng3, ng4, ng6, rx_gf, rx_ld, rx_pf, rx_sd, m9, NN_lt, lt_NN, NN_le, le_NN, if_true, if_false, n_mod, q_dec, ro_gf, ro_ld, ro_sd, ro_pf, e_vl, e_cV, e_cI, nI_add, q_mul, q_sub, q_rem, q_div, q_eq, q_lt, q_le, c0, c1, c2, c3, c4, c5, c6, c7, c8, c9, c10, c99]
        · simp (disch := omega) only [e1, e3, t1, t2, if_pos, if_neg, show C2 15 l = rnC (G 13) n 27 l from a.symm, Nat.reduceEqDiff, Nat.reduceLeDiff, reduceIte, eq_self, ng1, ng2, ng3, ng4, ng6, rx_gf, rx_ld, rx_pf, rx_sd, m9, NN_lt, lt_NN, NN_le, le_NN, if_true, if_false, n_mod, q_dec, ro_gf, ro_ld, ro_sd, ro_pf, e_vl, e_cV, e_cI, nI_add, q_mul, q_sub, q_rem, q_div, q_eq, q_lt, q_le, c0, c1, c2, c3, c4, c5, c6, c7, c8, c9, c10, c99]
        · simp (disch := omega) only [e1, e3, t1, t2, if_pos, if_neg, r.2.2.2.1, pk, Nat.reduceEqDiff, Nat.reduceLeDiff, reduceIte, eq_self, ng1, ng2, ng3, ng4, ng6, rx_gf, rx_ld, rx_pf, rx_sd, m9, NN_lt, lt_NN, NN_le, le_NN, if_true, if_false, n_mod, q_dec, ro_gf, ro_ld, ro_sd, ro_pf, e_vl, e_cV, e_cI, nI_add, q_mul, q_sub, q_rem, q_div, q_eq, q_lt, q_le, c0, c1, c2, c3, c4, c5, c6, c7, c8, c9, c10, c99]
      · refine ok_ref 2 J (by decide) ?_ (fun τ => ?_)
        · unfold T_X2_behind T_X2_behind_j44
          simp (disch := omega) only [e1, e3, cI_id, e_cV, e_cI, c0, c1, c2, eq00, eq10, if_true, if_false]
          rcases ho with q | ⟨q1, q2⟩
          · simp only [q, if_true]
          · rw [c3]; simp only [q1, q2, if_false]
        · unfold T_X3_behind T_X3_behind_j16 T_X3_behind_j36
          simp only [c3, e2, e4, e5, cI_id, e_cV, e_cI, c0, c1, c2, eq00, eq10, ng2, if_true, if_false]
    · refine ok_ref k J (by omega) ?_ (fun τ => ?_)
      · unfold T_X2_behind
        simp (disch := omega) only [e1, e3, (neg_ok k (by omega) (by omega)).2.1, cI_id, Nat.reduceEqDiff, Nat.reduceLeDiff, reduceIte, eq_self, ng1, ng2, ng3, ng4, ng6, rx_gf, rx_ld, rx_pf, rx_sd, m9, NN_lt, lt_NN, NN_le, le_NN, if_true, if_false, n_mod, q_dec, ro_gf, ro_ld, ro_sd, ro_pf, e_vl, e_cV, e_cI, nI_add, q_mul, q_sub, q_rem, q_div, q_eq, q_lt, q_le, c0, c1, c2, c3, c4, c5, c6, c7, c8, c9, c10, c99]
      · unfold T_X3_behind T_X3_behind_j16 T_X3_behind_j36
        simp (disch := omega) only [e2, e4, (neg_ok k (by omega) (by omega)).2.1, cI_id, Nat.reduceEqDiff, Nat.reduceLeDiff, reduceIte, eq_self, ng1, ng2, ng3, ng4, ng6, rx_gf, rx_ld, rx_pf, rx_sd, m9, NN_lt, lt_NN, NN_le, le_NN, if_true, if_false, n_mod, q_dec, ro_gf, ro_ld, ro_sd, ro_pf, e_vl, e_cV, e_cI, nI_add, q_mul, q_sub, q_rem, q_div, q_eq, q_lt, q_le, c0, c1, c2, c3, c4, c5, c6, c7, c8, c9, c10, c99]
  · refine ok_ref 1 J (by decide) ?_ (fun τ => ?_)
    · unfold T_X2_behind; simp (disch := omega) only [e1, cI_id, Nat.reduceEqDiff, Nat.reduceLeDiff, reduceIte, eq_self, ng1, ng2, ng3, ng4, ng6, rx_gf, rx_ld, rx_pf, rx_sd, m9, NN_lt, lt_NN, NN_le, le_NN, if_true, if_false, n_mod, q_dec, ro_gf, ro_ld, ro_sd, ro_pf, e_vl, e_cV, e_cI, nI_add, q_mul, q_sub, q_rem, q_div, q_eq, q_lt, q_le, c0, c1, c2, c3, c4, c5, c6, c7, c8, c9, c10, c99]
    · unfold T_X3_behind T_X3_behind_j16 T_X3_behind_j36; simp (disch := omega) only [e2, cI_id, Nat.reduceEqDiff, Nat.reduceLeDiff, reduceIte, eq_self, ng1, ng2, ng3, ng4, ng6, rx_gf, rx_ld, rx_pf, rx_sd, m9, NN_lt, lt_NN, NN_le, le_NN, if_true, if_false, n_mod, q_dec, ro_gf, ro_ld, ro_sd, ro_pf, e_vl, e_cV, e_cI, nI_add, q_mul, q_sub, q_rem, q_div, q_eq, q_lt, q_le, c0, c1, c2, c3, c4, c5, c6, c7, c8, c9, c10, c99]
theorem ok_tired (J : Inv G P) (a0 : Int32) : OKm G P (T_X2_tired a0) (T_X3_tired a0) := by
  have K := J.tk
  rcases chk_hours a0 with ⟨n, hn, rfl, e3, e4⟩ | ⟨k, hk, e3, e4⟩
  · have K2 := K.keep (w := 2)
    obtain ⟨C1, C2, t1, t2, t3, -⟩ := think_run (P := P) (Eqs.keep.sb K.1 J.sb) K2.1 K2.2.1 hn (G 2)
    have WY : WF (runS (kpS 2 (G 13)) n) := K2.1.run n _
    have goes : ∀ τ, T_X3_goes (nI n) (Ro τ 13 (kpS 2 (G 13))) = some (Ro τ 13 (runS (kpS 2 (G 13)) n)) := fun τ => x3_goes K2.1 hn (by have := K2.2.1; omega) K2.2.2
    refine ok_q2 (r := nI (sumN (runS (kpS 2 (G 13)) n 10) (runS (kpS 2 (G 13)) n 12 0) 0)) (C := C2) J ?_ (fun τ => ⟨gtS 2 (runS (kpS 2 (G 13)) n), ?_, (KR.think K.2.2 ((OS.keep K.2.2).run n)).mono (by decide)⟩)
    · unfold T_X2_tired
      simp (disch := omega) only [e3, t1, t2, x0_breath WY t3.sb, Nat.reduceEqDiff, Nat.reduceLeDiff, reduceIte, eq_self, ng1, ng2, ng3, ng4, ng6, rx_gf, rx_ld, rx_pf, rx_sd, m9, NN_lt, lt_NN, NN_le, le_NN, if_true, if_false, n_mod, q_dec, ro_gf, ro_ld, ro_sd, ro_pf, e_vl, e_cV, e_cI, nI_add, q_mul, q_sub, q_rem, q_div, q_eq, q_lt, q_le, c0, c1, c2, c3, c4, c5, c6, c7, c8, c9, c10, c99]
    · unfold T_X3_tired
      simp (disch := omega) only [e4, x3_thinks, goes, x3_breath WY, x3_forgets, Nat.reduceEqDiff, Nat.reduceLeDiff, reduceIte, eq_self, ng1, ng2, ng3, ng4, ng6, rx_gf, rx_ld, rx_pf, rx_sd, m9, NN_lt, lt_NN, NN_le, le_NN, if_true, if_false, n_mod, q_dec, ro_gf, ro_ld, ro_sd, ro_pf, e_vl, e_cV, e_cI, nI_add, q_mul, q_sub, q_rem, q_div, q_eq, q_lt, q_le, c0, c1, c2, c3, c4, c5, c6, c7, c8, c9, c10, c99]
  · refine ok_ref k J (by omega) ?_ (fun τ => ?_)
    · unfold T_X2_tired
      simp (disch := omega) only [e3, (neg_ok k (by omega) (by omega)).2.1, cI_id, Nat.reduceEqDiff, Nat.reduceLeDiff, reduceIte, eq_self, ng1, ng2, ng3, ng4, ng6, rx_gf, rx_ld, rx_pf, rx_sd, m9, NN_lt, lt_NN, NN_le, le_NN, if_true, if_false, n_mod, q_dec, ro_gf, ro_ld, ro_sd, ro_pf, e_vl, e_cV, e_cI, nI_add, q_mul, q_sub, q_rem, q_div, q_eq, q_lt, q_le, c0, c1, c2, c3, c4, c5, c6, c7, c8, c9, c10, c99]
    · unfold T_X3_tired
      simp (disch := omega) only [e4, (neg_ok k (by omega) (by omega)).2.1, cI_id, Nat.reduceEqDiff, Nat.reduceLeDiff, reduceIte, eq_self, ng1, ng2, ng3, ng4, ng6, rx_gf, rx_ld, rx_pf, rx_sd, m9, NN_lt, lt_NN, NN_le, le_NN, if_true, if_false, n_mod, q_dec, ro_gf, ro_ld, ro_sd, ro_pf, e_vl, e_cV, e_cI, nI_add, q_mul, q_sub, q_rem, q_div, q_eq, q_lt, q_le, c0, c1, c2, c3, c4, c5, c6, c7, c8, c9, c10, c99]
end Q2
