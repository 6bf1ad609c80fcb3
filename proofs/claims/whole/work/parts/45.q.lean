/-! THE QUESTIONS, third lot: first hours -/
def T0 (C : SS) : Prop := ((∀ i, i < 5 → C 15 i = 0 ∧ C 16 i = 0) ∧ C 17 0 = 0) ∧ C 18 0 = kN 9
/-- the first of s hours, thought of from Y, behind which she is at v -/
noncomputable def fAt (Y : SS) (l v s : Nat) : Nat := firstN (fun X => decide (X 8 l = v)) s 0 (kpS 2 Y)
theorem i_eq {α : Type} {a b : Nat} {x y : α} {i : Decidable (nI a = nI b)} (ha : a < 4294967296) (hb : b < 4294967296) : @ite α (nI a = nI b) i x y = if a = b then x else y := by
  by_cases h : a = b
  · rw [if_pos h, if_pos ((q_eq ha hb).mpr h)]
  · rw [if_neg h, if_neg (fun q => h ((q_eq ha hb).mp q))]
theorem i_le {α : Type} {a b : Nat} {x y : α} {i : Decidable (nI a ≤ nI b)} (ha : a < 2147483648) (hb : b < 2147483648) : @ite α (nI a ≤ nI b) i x y = if a ≤ b then x else y := by
  by_cases h : a ≤ b
  · rw [if_pos h, if_pos ((q_le ha hb).mpr h)]
  · rw [if_neg h, if_neg (fun q => h ((q_le ha hb).mp q))]
theorem i_lt {α : Type} {a b : Nat} {x y : α} {i : Decidable (nI a < nI b)} (ha : a < 2147483648) (hb : b < 2147483648) : @ite α (nI a < nI b) i x y = if a < b then x else y := by
  by_cases h : a < b
  · rw [if_pos h, if_pos ((q_lt ha hb).mpr h)]
  · rw [if_neg h, if_neg (fun q => h ((q_lt ha hb).mp q))]
theorem fAt_le {Y : SS} {l v s : Nat} (h : s ≤ 61) : fAt Y l v s = 61 ∨ fAt Y l v s < s := by
  unfold fAt
  rcases firstN_le (fun X => decide (X 8 l = v)) s 0 (kpS 2 Y) (by omega) with h | h
  · exact Or.inl h
  · exact Or.inr (by omega)
theorem fAt_short {Y : SS} {l v s : Nat} (h : s ≤ 61) : fAt Y l v s = if fAt Y l v 61 < s then fAt Y l v 61 else 61 := by
  unfold fAt
  have := firstN_short (fun X => decide (X 8 l = v)) 61 s 0 (kpS 2 Y) h (by omega)
  rw [Nat.zero_add] at this
  exact this
section Q3
variable {G : GG} {P : Nat → Nat} {C A S Y : SS} {τ : TT}
theorem CQ.t0 (h : CQ A C) : T0 C := ⟨⟨h.2.2.2.1, h.2.2.2.2.1⟩, h.2.2.2.2.2⟩
theorem T0.same {C' : SS} (h : T0 C) (k : ∀ f i, (15 ≤ f ∧ f ≤ 18) → C' f i = C f i) : T0 C' := by
  refine ⟨⟨fun i hi => ?_, ?_⟩, ?_⟩
  · rw [k _ _ (by omega), k _ _ (by omega)]; exact h.1.1 i hi
  · rw [k _ _ (by omega)]; exact h.1.2
  · rw [k _ _ (by omega)]; exact h.2
theorem T0.up {f i x : Nat} (h : T0 C) (hf : f < 15) : T0 (Jvm.Pilot.@@N@@.up C f i x) := h.same (fun g j q => up_ne _ (by omega))
theorem T0.sc (h : T0 C) (R : SB C S) : SC S C S := R.cp0 h.1
theorem cls_fA (R : SB C Y) (t : T0 C) (K : TK Y) {l v m : Nat} (hl : l < Y 12 0) (hv : v ≤ 9) (hm : m ≤ 61) : ∃ C', T_X2_firstAt (nI l) (nI v) (nI m - nI 1) (Ro τ 2 C) = some (nI (fAt Y l v m), Ro τ 2 C') := by
  have K2 := K.keep (w := 2)
  have h13 := K2.2.1
  have e12 : kpS 2 Y 12 0 = Y 12 0 := kpS_oth (by decide)
  obtain ⟨C', f1⟩ := x2_fA (τ := τ) (l := l) (v := v) (s := m) hm m 0 (kpS 2 Y) C FU (t.sc (Eqs.keep.sb K.1 R)) t.2 K2.1 (by omega) (by omega) (by omega) (FU_gt (by omega))
  refine ⟨C', ?_⟩
  unfold T_X2_firstAt
  rw [c0, f1]
  rfl
theorem ref_fA (K : TK Y) {l v m : Nat} (hl : l < Y 12 0) (hv : v ≤ 9) (hm : m ≤ 60) : ∃ F, (∀ τ, T_X3_comesTo (nI l) (nI v) (nI m) (Ro τ 13 Y) = some (nI (kF (fAt Y l v (m + 1))), Ro τ 13 F)) ∧ KR 120 Y F := by
  have K2 := K.keep (w := 2)
  have h13 := K2.2.1
  have e12 : kpS 2 Y 12 0 = Y 12 0 := kpS_oth (by decide)
  obtain ⟨F, f2, f3⟩ := x3_fA (l := l) (v := v) (m := m) (S0 := kpS 2 Y) hm (m + 1) 0 (kpS 2 Y) FU (OS.keep K.2.2) K2.1 (by omega) (by omega) (by omega) (FU_gt (by omega))
  refine ⟨_, fun τ => ?_, KR.think K.2.2 f3⟩
  unfold T_X3_comesTo
  rw [x3_thinks]
  simp only [e_cV, c0, c9, m9]
  exact f2 τ
theorem TK.upg (K : TK Y) {g i x : Nat} (h : (g = 1 ∧ x ≤ 5) ∨ (g = 2 ∧ x ≤ 9) ∨ (g = 3 ∧ x ≤ 9) ∨ (g = 6 ∧ x ≤ 9) ∨ (g = 7 ∧ x ≤ 9) ∨ (g = 8 ∧ x ≤ 9) ∨ (g = 14 ∧ x ≤ 9)) : TK (Jvm.Pilot.@@N@@.up Y g i x) := ⟨K.1.upg h, by rw [up_ne _ (by omega)]; exact K.2.1, by rw [up_ne _ (by omega)]; exact K.2.2⟩
theorem ref_errandBy (K : TK S) {l v w m : Nat} (hl : l < S 12 0) (hv : v ≤ 9) (hw : w ≤ 9) (hm : m ≤ 60) : ∃ F, (∀ τ, T_X3_errandBy (nI l) (nI v) (nI w) (nI m) (Ro τ 13 S) = some (nI (kF (fAt (up (up S 7 l v) 6 l w) l v (m + 1))), Ro τ 13 F)) ∧ KR 120 S F := by
  have h12 := K.1.nl
  have KY : TK (up (up S 7 l v) 6 l w) := (K.upg (by omega)).upg (by omega)
  obtain ⟨F, f1, f2⟩ := ref_fA KY (l := l) (v := v) (m := m) (by rw [up_ne _ (by omega), up_ne _ (by omega)]; exact hl) hv hm
  refine ⟨up (up F 7 l (S 7 l)) 6 l (S 6 l), fun τ => ?_, ?_⟩
  · unfold T_X3_errandBy
    simp (disch := omega) only [ro_ld, ro_sd]
    rw [f1]
    simp (disch := omega) only [e_cI, ro_sd]
  · have h1 := f2.back (by decide)
    have h2 := h1.back (by decide)
    rw [up_ne S (show ¬ (6 = 7 ∧ l = l) by omega), up_comm F (by omega)] at h2
    exact h2
theorem ok_hers (J : Inv G P) (a0 : Int32) : OKm G P (T_X2_hers a0) (T_X3_hers a0) := by
  have K := J.tk
  rcases chk_bearer J a0 with ⟨x, hx, rfl, e1, e2⟩ | ⟨e1, e2⟩
  · 
    obtain ⟨C1, t1, t2⟩ := x2_think2 (G := G) (P := P) (G 2)
    have K2 := K.keep (w := 2)
    have e12 : kpS 2 (G 13) 12 0 = G 13 12 0 := kpS_oth (by decide)
    have R1 := t2.sc K2.1 (Eqs.keep.sb K.1 J.sb)
    have t3 := t2.2.2.2.2.2
    have h13 := K2.2.1
    obtain ⟨C2, f1⟩ := x2_fH (τ := (G, P)) (l := x) (s := 61) rfl 61 0 (kpS 2 (G 13)) C1 FU R1 t3 K2.1 (by omega) (by omega) rfl (FU_gt (by decide))
    refine ok_q2 (r := nI (kF (firstN (fun X => decide (led X x)) 61 0 (kpS 2 (G 13))))) (C := C2) J ?_ (fun τ => ?_)
    · unfold T_X2_hers
      simp only [e1, t1, e_cV, c0, f1, eq00, eq10, if_true, if_false]
    · obtain ⟨F, f2, f3⟩ := x3_fH (l := x) (m := 60) (S0 := kpS 2 (G 13)) rfl 61 0 (kpS 2 (G 13)) FU (OS.keep K.2.2) K2.1 (by omega) (by omega) rfl (FU_gt (by decide))
      refine ⟨_, ?_, (KR.think K.2.2 f3).mono (by decide)⟩
      unfold T_X3_hers
      simp only [e2, x3_thinks, e_cV, c0, c9, m9, f2, e_cI, eq00, eq10, if_true, if_false]
  · refine ok_ref 1 J (by decide) ?_ (fun τ => ?_)
    · unfold T_X2_hers; simp (disch := omega) only [e1, cI_id, Nat.reduceEqDiff, Nat.reduceLeDiff, reduceIte, eq_self, ng1, ng2, ng3, ng4, ng6, rx_gf, rx_ld, rx_pf, rx_sd, m9, NN_lt, lt_NN, NN_le, le_NN, if_true, if_false, n_mod, q_dec, ro_gf, ro_ld, ro_sd, ro_pf, e_vl, e_cV, e_cI, nI_add, q_mul, q_sub, q_rem, q_div, q_eq, q_lt, q_le, c0, c1, c2, c3, c4, c5, c6, c7, c8, c9, c10, c99]
    · unfold T_X3_hers; simp (disch := omega) only [e2, cI_id, Nat.reduceEqDiff, Nat.reduceLeDiff, reduceIte, eq_self, ng1, ng2, ng3, ng4, ng6, rx_gf, rx_ld, rx_pf, rx_sd, m9, NN_lt, lt_NN, NN_le, le_NN, if_true, if_false, n_mod, q_dec, ro_gf, ro_ld, ro_sd, ro_pf, e_vl, e_cV, e_cI, nI_add, q_mul, q_sub, q_rem, q_div, q_eq, q_lt, q_le, c0, c1, c2, c3, c4, c5, c6, c7, c8, c9, c10, c99]
theorem ok_gathering (J : Inv G P) : OKm G P (T_X2_gathering) (T_X3_gathering) := by
  have K := J.tk
  have h12 := K.1.nl
  obtain ⟨C1, t1, t2⟩ := x2_think2 (G := G) (P := P) (G 2)
  have K2 := K.keep (w := 2)
  have e12 : kpS 2 (G 13) 12 0 = G 13 12 0 := kpS_oth (by decide)
  have R1 := t2.sc K2.1 (Eqs.keep.sb K.1 J.sb)
  have t3 := t2.2.2.2.2.2
  have h13 := K2.2.1
  obtain ⟨C2, f1⟩ := x2_fG (τ := (G, P)) (zz := 0) (s := 61) rfl 61 0 (kpS 2 (G 13)) C1 FU R1 t3 K2.1 (by omega) (by omega) rfl (FU_gt (by decide))
  refine ok_q2 (r := nI (kF (firstN (fun X => decide (allP X = true)) 61 0 (kpS 2 (G 13))))) (C := C2) J ?_ (fun τ => ?_)
  · unfold T_X2_gathering
    simp only [t1, e_cV, c0, f1]
  · obtain ⟨F, f2, f3⟩ := x3_fG (zz := 0) (m := 60) (S0 := kpS 2 (G 13)) rfl 61 0 (kpS 2 (G 13)) FU (OS.keep K.2.2) K2.1 (by omega) (by omega) rfl (FU_gt (by decide))
    refine ⟨_, ?_, (KR.think K.2.2 f3).mono (by decide)⟩
    unfold T_X3_gathering
    simp only [x3_thinks, e_cV, c0, c9, m9, f2, e_cI]
theorem ok_errand (J : Inv G P) (a0 a1 : Int32) : OKm G P (T_X2_errand a0 a1) (T_X3_errand a0 a1) := by
  have K := J.tk
  have h12 := K.1.nl
  rcases chk_bearer J a0 with ⟨l, hl, rfl, e1, e2⟩ | ⟨e1, e2⟩
  · rcases chk_place a1 with ⟨v, hv, rfl, e3, e4⟩ | ⟨e3, e4⟩
    · have w := K.1.bea hl
      obtain ⟨C1, t1, t2⟩ := x2_think2 (G := G) (P := P) (G 2)
      have eY : up (up (G 13) 7 l v) 6 l (G 13 6 l) = up (G 13) 7 l v := by
        have := up_self (up (G 13) 7 l v) 6 l
        rw [up_ne _ (show ¬ (6 = 7 ∧ l = l) by omega)] at this
        exact this
      have R1 := (t2.sb K.1 J.sb).upg (f := 9) (g := 7) (i := l) (x := v) (by unfold PW; omega)
      obtain ⟨C2, f1⟩ := cls_fA (τ := (G, P)) R1 (t2.t0.up (by decide)) (K.upg (by omega)) (l := l) (v := v) (m := 61) (by rw [up_ne _ (by omega)]; exact hl) hv (Nat.le_refl _)
      obtain ⟨F, f2, f3⟩ := ref_errandBy K hl hv w.1 (m := 60) (Nat.le_refl _)
      have hle := fAt_le (Y := up (G 13) 7 l v) (l := l) (v := v) (Nat.le_refl 61)
      refine ok_q2 (r := nI (kF (fAt (up (G 13) 7 l v) l v 61))) (C := C2) J ?_ (fun τ => ⟨F, ?_, f3.mono (by decide)⟩)
      · unfold T_X2_errand
        simp (disch := omega) only [e1, e3, t1, e_cV, ro_sd, c60, l60, f1, e_cI]
        rw [c0, if_neg (by decide), if_neg (by decide), x2_orNone (by omega)]
        rfl
      · have := f2 τ
        rw [eY] at this
        unfold T_X3_errand
        simp (disch := omega) only [e2, e4, e_cV, ro_ld, c60, this, e_cI]
        rw [c0, if_neg (by decide), if_neg (by decide)]
    · refine ok_ref 1 J (by decide) ?_ (fun τ => ?_)
      · unfold T_X2_errand T_X2_errand_j18; simp (disch := omega) only [e1, e3, cI_id, Nat.reduceEqDiff, Nat.reduceLeDiff, reduceIte, eq_self, ng1, ng2, ng3, ng4, ng6, rx_gf, rx_ld, rx_pf, rx_sd, m9, NN_lt, lt_NN, NN_le, le_NN, if_true, if_false, n_mod, q_dec, ro_gf, ro_ld, ro_sd, ro_pf, e_vl, e_cV, e_cI, nI_add, q_mul, q_sub, q_rem, q_div, q_eq, q_lt, q_le, c0, c1, c2, c3, c4, c5, c6, c7, c8, c9, c10, c99]
      · unfold T_X3_errand T_X3_errand_j32; simp (disch := omega) only [e2, e4, cI_id, Nat.reduceEqDiff, Nat.reduceLeDiff, reduceIte, eq_self, ng1, ng2, ng3, ng4, ng6, rx_gf, rx_ld, rx_pf, rx_sd, m9, NN_lt, lt_NN, NN_le, le_NN, if_true, if_false, n_mod, q_dec, ro_gf, ro_ld, ro_sd, ro_pf, e_vl, e_cV, e_cI, nI_add, q_mul, q_sub, q_rem, q_div, q_eq, q_lt, q_le, c0, c1, c2, c3, c4, c5, c6, c7, c8, c9, c10, c99]
  · refine ok_ref 1 J (by decide) ?_ (fun τ => ?_)
    · unfold T_X2_errand T_X2_errand_j18; simp (disch := omega) only [e1, cI_id, Nat.reduceEqDiff, Nat.reduceLeDiff, reduceIte, eq_self, ng1, ng2, ng3, ng4, ng6, rx_gf, rx_ld, rx_pf, rx_sd, m9, NN_lt, lt_NN, NN_le, le_NN, if_true, if_false, n_mod, q_dec, ro_gf, ro_ld, ro_sd, ro_pf, e_vl, e_cV, e_cI, nI_add, q_mul, q_sub, q_rem, q_div, q_eq, q_lt, q_le, c0, c1, c2, c3, c4, c5, c6, c7, c8, c9, c10, c99]
    · unfold T_X3_errand T_X3_errand_j32; simp (disch := omega) only [e2, cI_id, Nat.reduceEqDiff, Nat.reduceLeDiff, reduceIte, eq_self, ng1, ng2, ng3, ng4, ng6, rx_gf, rx_ld, rx_pf, rx_sd, m9, NN_lt, lt_NN, NN_le, le_NN, if_true, if_false, n_mod, q_dec, ro_gf, ro_ld, ro_sd, ro_pf, e_vl, e_cV, e_cI, nI_add, q_mul, q_sub, q_rem, q_div, q_eq, q_lt, q_le, c0, c1, c2, c3, c4, c5, c6, c7, c8, c9, c10, c99]
theorem kF_neg {x : Nat} (h : x ≤ 61) : nI (kF x) < nI 0 ↔ x = 61 := by
  unfold kF
  split
  · rename_i e; exact ⟨fun _ => e, fun _ => by decide⟩
  · rw [q_lt (by omega) (by omega)]; omega
theorem defy_loop (J : Inv G P) {l v m : Nat} (hl : l < G 13 12 0) (hv : v ≤ 9) (hm : m ≤ 60) : ∀ r w n C Y, w + r = 10 → r < n → KR 120 (G 13) Y → ∃ res C' F, T_X2_defy_L45 n (nI l) (nI v) (nI m) (nI w) (Ro (G, P) 2 C) = some (res, Ro (G, P) 2 C') ∧ (∀ τ, T_X3_defy_L40 n (nI l) (nI v) (nI m) (nI w) (Ro τ 13 Y) = some (res, Ro τ 13 F)) ∧ KR 120 (G 13) F := by
  have K := J.tk
  have h12 := K.1.nl
  intro r
  induction r with
  | zero =>
    intro w n C Y h hn k
    obtain ⟨n, rfl⟩ := fu_one hn
    refine ⟨nI NN, C, Y, ?_, fun τ => ?_, k⟩
    · unfold T_X2_defy_L45
      rw [c10, if_pos (by rw [q_le (by omega) (by omega)]; omega)]
      rfl
    · unfold T_X3_defy_L40
      rw [c10, if_pos (by rw [q_le (by omega) (by omega)]; omega)]
      rfl
  | succ r ih =>
    intro w n C Y h hn k
    obtain ⟨n, rfl⟩ := fu_one (by omega : 0 < n)
    have KY := k.tk K
    have e12 : Y 12 0 = G 13 12 0 := k.1 12 0 (inr (by decide) (by omega))
    obtain ⟨C1, t1, t2⟩ := x2_think2 (G := G) (P := P) C
    have R1 := ((t2.sb KY.1 (k.1.sb K.1 J.sb)).upg (f := 9) (g := 7) (i := l) (x := v) (by unfold PW; omega)).upg (f := 8) (g := 6) (i := l) (x := w) (by unfold PW; omega)
    obtain ⟨C2, f1⟩ := cls_fA (τ := (G, P)) R1 ((t2.t0.up (by decide)).up (by decide)) ((KY.upg (by omega)).upg (by omega)) (l := l) (v := v) (m := m + 1) (by rw [up_ne _ (by omega), up_ne _ (by omega)]; omega) hv (by omega)
    obtain ⟨F, f2, f3⟩ := ref_errandBy KY (l := l) (v := v) (w := w) (m := m) (by omega) hv (by omega) hm
    have hle := fAt_le (Y := up (up Y 7 l v) 6 l w) (l := l) (v := v) (show m + 1 ≤ 61 by omega)
    have em : nI m = nI (m + 1) - nI 1 := (q_dec0 m).symm
    unfold T_X2_defy_L45 T_X3_defy_L40
    by_cases e : fAt (up (up Y 7 l v) 6 l w) l v (m + 1) = 61
    · obtain ⟨res, C', F', g1, g2, g3⟩ := ih (w + 1) n C2 F (by omega) (by omega) (k.trans f3)
      refine ⟨res, C', F', ?_, fun τ => ?_, g3⟩
      · rw [c10, if_neg (by rw [q_le (by omega) (by omega)]; omega), t1]
        simp (disch := omega) only [e_cV, ro_sd]
        rw [← em] at f1
        rw [f1]
        simp (disch := omega) only [e_cI, e_vl, q_lt, c1, nI_add]
        rw [if_pos (by omega)]
        exact g1
      · rw [c10, if_neg (by rw [q_le (by omega) (by omega)]; omega), f2]
        simp only [e_cI, e_vl, c0, c1, nI_add]
        rw [if_pos ((kF_neg (by omega)).mpr e)]
        exact g2 τ
    · refine ⟨nI w, C2, F, ?_, fun τ => ?_, k.trans f3⟩
      · rw [c10, if_neg (by rw [q_le (by omega) (by omega)]; omega), t1]
        simp (disch := omega) only [e_cV, ro_sd]
        rw [← em] at f1
        rw [f1]
        simp (disch := omega) only [e_cI, e_vl, q_lt, c1, nI_add]
        rw [if_neg (by omega)]
      · rw [c10, if_neg (by rw [q_le (by omega) (by omega)]; omega), f2]
        simp only [e_cI, e_vl, c0, c1, nI_add]
        rw [if_neg (fun q => e ((kF_neg (by omega)).mp q))]
theorem ok_defy (J : Inv G P) (a0 a1 a2 : Int32) : OKm G P (T_X2_defy a0 a1 a2) (T_X3_defy a0 a1 a2) := by
  have K := J.tk
  rcases chk_bearer J a0 with ⟨l, hl, rfl, e1, e2⟩ | ⟨e1, e2⟩
  · rcases chk_place a1 with ⟨v, hv, rfl, e3, e4⟩ | ⟨e3, e4⟩
    · rcases chk_hours a2 with ⟨n, hn, rfl, e5, e6⟩ | ⟨k, hk, e5, e6⟩
      · obtain ⟨res, C', F, g1, g2, g3⟩ := defy_loop J hl hv hn 10 0 FU (G 2) (G 13) rfl (FU_gt (by decide)) (KR.refl K.2.2)
        refine ok_q2 (r := res) (C := C') J ?_ (fun τ => ⟨F, ?_, g3.mono (by decide)⟩)
        · unfold T_X2_defy
          simp only [e1, e3, e5, e_cV, c0, eq00, eq10, if_true, if_false]
          exact g1
        · unfold T_X3_defy T_X3_defy_j23
          simp only [e2, e4, e6, e_cV, c0, eq00, eq10, if_true, if_false]
          exact g2 τ
      · refine ok_ref k J (by omega) ?_ (fun τ => ?_)
        · unfold T_X2_defy; simp (disch := omega) only [e1, e3, e5, (neg_ok k (by omega) (by omega)).2.1, cI_id, Nat.reduceEqDiff, Nat.reduceLeDiff, reduceIte, eq_self, ng1, ng2, ng3, ng4, ng6, rx_gf, rx_ld, rx_pf, rx_sd, m9, NN_lt, lt_NN, NN_le, le_NN, if_true, if_false, n_mod, q_dec, ro_gf, ro_ld, ro_sd, ro_pf, e_vl, e_cV, e_cI, nI_add, q_mul, q_sub, q_rem, q_div, q_eq, q_lt, q_le, c0, c1, c2, c3, c4, c5, c6, c7, c8, c9, c10, c99]
        · unfold T_X3_defy T_X3_defy_j15 T_X3_defy_j23; simp (disch := omega) only [e2, e4, e6, (neg_ok k (by omega) (by omega)).2.1, cI_id, Nat.reduceEqDiff, Nat.reduceLeDiff, reduceIte, eq_self, ng1, ng2, ng3, ng4, ng6, rx_gf, rx_ld, rx_pf, rx_sd, m9, NN_lt, lt_NN, NN_le, le_NN, if_true, if_false, n_mod, q_dec, ro_gf, ro_ld, ro_sd, ro_pf, e_vl, e_cV, e_cI, nI_add, q_mul, q_sub, q_rem, q_div, q_eq, q_lt, q_le, c0, c1, c2, c3, c4, c5, c6, c7, c8, c9, c10, c99]
    · refine ok_ref 1 J (by decide) ?_ (fun τ => ?_)
      · unfold T_X2_defy T_X2_defy_j18; simp (disch := omega) only [e1, e3, cI_id, Nat.reduceEqDiff, Nat.reduceLeDiff, reduceIte, eq_self, ng1, ng2, ng3, ng4, ng6, rx_gf, rx_ld, rx_pf, rx_sd, m9, NN_lt, lt_NN, NN_le, le_NN, if_true, if_false, n_mod, q_dec, ro_gf, ro_ld, ro_sd, ro_pf, e_vl, e_cV, e_cI, nI_add, q_mul, q_sub, q_rem, q_div, q_eq, q_lt, q_le, c0, c1, c2, c3, c4, c5, c6, c7, c8, c9, c10, c99]
      · unfold T_X3_defy T_X3_defy_j15 T_X3_defy_j23; simp (disch := omega) only [e2, e4, (neg_ok 1 (by omega) (by omega)).2.1, cI_id, Nat.reduceEqDiff, Nat.reduceLeDiff, reduceIte, eq_self, ng1, ng2, ng3, ng4, ng6, rx_gf, rx_ld, rx_pf, rx_sd, m9, NN_lt, lt_NN, NN_le, le_NN, if_true, if_false, n_mod, q_dec, ro_gf, ro_ld, ro_sd, ro_pf, e_vl, e_cV, e_cI, nI_add, q_mul, q_sub, q_rem, q_div, q_eq, q_lt, q_le, c0, c1, c2, c3, c4, c5, c6, c7, c8, c9, c10, c99]
  · refine ok_ref 1 J (by decide) ?_ (fun τ => ?_)
    · unfold T_X2_defy T_X2_defy_j18; simp (disch := omega) only [e1, cI_id, Nat.reduceEqDiff, Nat.reduceLeDiff, reduceIte, eq_self, ng1, ng2, ng3, ng4, ng6, rx_gf, rx_ld, rx_pf, rx_sd, m9, NN_lt, lt_NN, NN_le, le_NN, if_true, if_false, n_mod, q_dec, ro_gf, ro_ld, ro_sd, ro_pf, e_vl, e_cV, e_cI, nI_add, q_mul, q_sub, q_rem, q_div, q_eq, q_lt, q_le, c0, c1, c2, c3, c4, c5, c6, c7, c8, c9, c10, c99]
    · unfold T_X3_defy T_X3_defy_j15 T_X3_defy_j23; simp (disch := omega) only [e2, (neg_ok 1 (by omega) (by omega)).2.1, cI_id, Nat.reduceEqDiff, Nat.reduceLeDiff, reduceIte, eq_self, ng1, ng2, ng3, ng4, ng6, rx_gf, rx_ld, rx_pf, rx_sd, m9, NN_lt, lt_NN, NN_le, le_NN, if_true, if_false, n_mod, q_dec, ro_gf, ro_ld, ro_sd, ro_pf, e_vl, e_cV, e_cI, nI_add, q_mul, q_sub, q_rem, q_div, q_eq, q_lt, q_le, c0, c1, c2, c3, c4, c5, c6, c7, c8, c9, c10, c99]
/-- she is given a bag for a thought, from Y -/
noncomputable def gv1 (Y : SS) (b l : Nat) : SS := gvS (kpS 1 Y) b l
theorem TK.gv (K : TK Y) {b l : Nat} (hb : b < Y 11 0) (hl : l < Y 12 0) : TK (gvS Y b l) := ⟨K.1.gv hb hl, by rw [gv_oth (by decide)]; exact K.2.1, by rw [gv_oth (by decide)]; exact K.2.2⟩
theorem ref_comesWith (K : TK Y) {l b v : Nat} (hl : l < Y 12 0) (hb : b < Y 11 0) (hv : v ≤ 9) : ∃ F, (∀ τ, T_X3_comesWith (nI l) (nI b) (nI v) (Ro τ 13 Y) = some (nI (kF (fAt (gv1 Y b l) l v 61)), Ro τ 13 F)) ∧ KR 60 Y F := by
  have K1 := K.keep (w := 1)
  have e12 : kpS 1 Y 12 0 = Y 12 0 := kpS_oth (by decide)
  have e11 : kpS 1 Y 11 0 = Y 11 0 := kpS_oth (by decide)
  have K2 : TK (gv1 Y b l) := K1.gv (by omega) (by omega)
  obtain ⟨F, f1, f2⟩ := ref_fA K2 (l := l) (v := v) (m := 60) (by unfold gv1; rw [gv_oth (by decide)]; omega) hv (Nat.le_refl _)
  refine ⟨gtS 1 F, fun τ => ?_, KR.try1 K.2.2 ?_⟩
  · unfold T_X3_comesWith
    rw [c1, x3_keepAll (by decide)]
    simp only [e_cV]
    rw [x3_give K1.1 (by omega) (by omega)]
    simp only [e_cV]
    have := f1 τ
    unfold gv1 at this
    rw [c60, this]
    simp only [e_cI]
    rw [c0, x3_putAll (by decide)]
    rfl
  · have o1 : OS 120 (kpS 1 Y) (gv1 Y b l) := (OS.keep K.2.2).any (fun g j q => gv_oth (by unfold NS at q; omega))
    exact o1.trans f2.2
theorem kF_61 : kF 61 = 4294967287 := rfl
theorem bestBag_loop (J : Inv G P) {l v : Nat} {what : Nat} (hw : what ≤ 1) (hl : l < G 13 12 0) (hv : v ≤ 9) : ∀ r b n bs s C Y, b + r = G 13 11 0 → r < n → KR 60 (G 13) Y → s ≤ 61 → ((bs = 9 ∧ s = 61) ∨ (bs < 6 ∧ s < 61)) → ∃ res C' F, T_X2_bestBag_L51 n (nI l) (nI v) (nI what) (nI (kN bs)) (nI s) (nI b) (Ro (G, P) 2 C) = some (res, Ro (G, P) 2 C') ∧ (∀ τ, T_X3_bestBag_L59 n (nI l) (nI v) (nI what) (nI (kN bs)) (nI (kF s)) (nI b) (Ro τ 13 Y) = some (res, Ro τ 13 F)) ∧ KR 60 (G 13) F := by
  have K := J.tk
  have h12 := K.1.nl
  have h11 := K.1.nb
  have r0 : G 1 0 0 = G 13 11 0 := J.sb.1.1
  intro r
  induction r with
  | zero =>
    intro b n bs s C Y h hn k hs hbs
    obtain ⟨n, rfl⟩ := fu_one hn
    have e11 : Y 11 0 = G 13 11 0 := k.1 11 0 (inr (by decide) (by omega))
    refine ⟨if what = 0 then nI (kN bs) else nI (kF s), C, Y, ?_, fun τ => ?_, k⟩
    · unfold T_X2_bestBag_L51
      rw [rx_gf (by decide)]
      show (if nI (G 1 0 0) ≤ nI b then _ else _) = _
      rw [r0, if_pos (by rw [q_le (by omega) (by omega)]; omega), c0, i_eq (by omega) (by omega), x2_orNone hs]
      split <;> rfl
    · unfold T_X3_bestBag_L59
      rw [ro_gf, e11, if_pos (by rw [q_le (by omega) (by omega)]; omega), c0, i_eq (by omega) (by omega)]
      split <;> rfl
  | succ r ih =>
    intro b n bs s C Y h hn k hs hbs
    obtain ⟨n, rfl⟩ := fu_one (by omega : 0 < n)
    have KY := k.tk K
    have e12 : Y 12 0 = G 13 12 0 := k.1 12 0 (inr (by decide) (by omega))
    have e11 : Y 11 0 = G 13 11 0 := k.1 11 0 (inr (by decide) (by omega))
    have K1 := KY.keep (w := 1)
    have e12k : kpS 1 Y 12 0 = Y 12 0 := kpS_oth (by decide)
    have e11k : kpS 1 Y 11 0 = Y 11 0 := kpS_oth (by decide)
    obtain ⟨C1, t1, t2⟩ := x2_think2 (G := G) (P := P) C
    obtain ⟨C2, g1, g2, g3⟩ := x0_hand (τ := (G, P)) (o := 2) K1.1 ((t2.sb KY.1 (k.1.sb K.1 J.sb)) |> Eqs.keep.sb KY.1) (b := b) (l := l) (by omega) (by omega)
    have T2 : T0 C2 := t2.t0.same (fun f i q => g3 f i (by omega) (by omega) (by omega))
    have K2 : TK (gv1 Y b l) := K1.gv (by omega) (by omega)
    obtain ⟨C3, f1⟩ := cls_fA (τ := (G, P)) (Y := gv1 Y b l) g2 T2 K2 (l := l) (v := v) (m := s) (by unfold gv1; rw [gv_oth (by decide)]; omega) hv hs
    obtain ⟨F, f2, f3⟩ := ref_comesWith KY (l := l) (b := b) (v := v) (by omega) (by omega) hv
    rw [fAt_short hs] at f1
    have hle := fAt_le (Y := gv1 Y b l) (l := l) (v := v) (Nat.le_refl 61)
    have hcls : T_X2_bestBag_L51 (n + 1) (nI l) (nI v) (nI what) (nI (kN bs)) (nI s) (nI b) (Ro (G, P) 2 C) = if fAt (gv1 Y b l) l v 61 < s then T_X2_bestBag_L51 n (nI l) (nI v) (nI what) (nI (kN b)) (nI (fAt (gv1 Y b l) l v 61)) (nI (b + 1)) (Ro (G, P) 2 C3) else T_X2_bestBag_L51 n (nI l) (nI v) (nI what) (nI (kN bs)) (nI s) (nI (b + 1)) (Ro (G, P) 2 C3) := by
      conv => lhs; unfold T_X2_bestBag_L51
      rw [rx_gf (by decide)]
      show (if nI (G 1 0 0) ≤ nI b then _ else _) = _
      rw [r0, if_neg (by rw [q_le (by omega) (by omega)]; omega), t1]
      simp only [e_cV]
      rw [g1]
      simp only [e_cI, c1]
      rw [f1]
      simp only [e_cI, e_vl, nI_add]
      by_cases e : fAt (gv1 Y b l) l v 61 < s
      · rw [if_pos e, if_pos e, if_neg (by rw [q_le (by omega) (by omega)]; omega), kN_ne (by omega)]
      · rw [if_neg e, if_neg e, if_pos (by rw [q_le (by omega) (by omega)]; omega)]
    have href : ∀ τ, T_X3_bestBag_L59 (n + 1) (nI l) (nI v) (nI what) (nI (kN bs)) (nI (kF s)) (nI b) (Ro τ 13 Y) = if fAt (gv1 Y b l) l v 61 < s then T_X3_bestBag_L59 n (nI l) (nI v) (nI what) (nI (kN b)) (nI (kF (fAt (gv1 Y b l) l v 61))) (nI (b + 1)) (Ro τ 13 F) else T_X3_bestBag_L59 n (nI l) (nI v) (nI what) (nI (kN bs)) (nI (kF s)) (nI (b + 1)) (Ro τ 13 F) := by
      intro τ
      conv => lhs; unfold T_X3_bestBag_L59 T_X3_bestBag_j98
      rw [ro_gf, e11, if_neg (by rw [q_le (by omega) (by omega)]; omega), f2]
      simp only [e_cI, e_vl, nI_add, c0, c1]
      by_cases e0 : fAt (gv1 Y b l) l v 61 = 61
      · rw [if_pos ((kF_neg (by omega)).mpr e0), if_neg (by omega)]
      · rw [if_neg (fun q => e0 ((kF_neg (by omega)).mp q))]
        rcases hbs with ⟨q1, q2⟩ | ⟨q1, q2⟩
        · rw [if_pos ((kN_neg (by omega)).mpr q1), if_pos (by omega), kN_ne (show b ≠ 9 by omega)]
        · rw [if_neg (fun q => absurd ((kN_neg (by omega)).mp q) (by omega)), kF_ne (by omega), kF_ne q2, i_lt (by omega) (by omega), kN_ne (show b ≠ 9 by omega)]
    by_cases e : fAt (gv1 Y b l) l v 61 < s
    · obtain ⟨res, C', F', i1, i2, i3⟩ := ih (b + 1) n b (fAt (gv1 Y b l) l v 61) C3 F (by omega) (by omega) (k.trans f3) (by omega) (by omega)
      refine ⟨res, C', F', ?_, fun τ => ?_, i3⟩
      · rw [hcls, if_pos e]; exact i1
      · rw [href, if_pos e]; exact i2 τ
    · obtain ⟨res, C', F', i1, i2, i3⟩ := ih (b + 1) n bs s C3 F (by omega) (by omega) (k.trans f3) hs hbs
      refine ⟨res, C', F', ?_, fun τ => ?_, i3⟩
      · rw [hcls, if_neg e]; exact i1
      · rw [href, if_neg e]; exact i2 τ
theorem ok_bestBag (J : Inv G P) (a0 a1 a2 : Int32) : OKm G P (T_X2_bestBag a0 a1 a2) (T_X3_bestBag a0 a1 a2) := by
  have K := J.tk
  have h11 := K.1.nb
  rcases chk_bearer J a0 with ⟨l, hl, rfl, e1, e2⟩ | ⟨e1, e2⟩
  · rcases chk_place a1 with ⟨v, hv, rfl, e3, e4⟩ | ⟨e3, e4⟩
    · rcases chk_what a2 1 (by decide) with ⟨x, hx, rfl, e5⟩ | ⟨ho, e5⟩
      · obtain ⟨res, C', F, g1, g2, g3⟩ := bestBag_loop J hx hl hv (G 13 11 0) 0 FU 9 61 (G 2) (G 13) (by omega) (FU_gt (by omega)) (KR.refl K.2.2) (by decide) (Or.inl ⟨rfl, rfl⟩)
        refine ok_q2 (r := res) (C := C') J ?_ (fun τ => ⟨F, ?_, g3⟩)
        · have n1 : ¬ nI x < nI 0 := by rw [q_lt (by omega) (by omega)]; omega
          have n2 : nI x ≤ nI 1 := by rw [q_le (by omega) (by omega)]; omega
          unfold T_X2_bestBag
          simp only [e1, e3, e_cV, c0, c1, eq00, eq10, n1, n2, if_true, if_false]
          exact g1
        · unfold T_X3_bestBag T_X3_bestBag_j34
          simp only [e2, e4, c0, c1, e5, e_cV, eq00, eq10, if_true, if_false]
          exact g2 τ
      · refine ok_ref 2 J (by decide) ?_ (fun τ => ?_)
        · unfold T_X2_bestBag T_X2_bestBag_j33
          simp only [e1, e3, cI_id, e_cV, e_cI, c0, c1, c2, eq00, eq10, if_true, if_false]
          rcases ho with q | ⟨q1, q2⟩
          · simp only [q, if_true]
          · simp only [q1, q2, if_false]
        · unfold T_X3_bestBag T_X3_bestBag_j34
          simp only [e2, e4, c0, c1, c2, e5, cI_id, e_cV, e_cI, eq00, eq10, ng2, if_true, if_false]
    · refine ok_ref 1 J (by decide) ?_ (fun τ => ?_)
      · unfold T_X2_bestBag T_X2_bestBag_j18; simp (disch := omega) only [e1, e3, cI_id, Nat.reduceEqDiff, Nat.reduceLeDiff, reduceIte, eq_self, ng1, ng2, ng3, ng4, ng6, rx_gf, rx_ld, rx_pf, rx_sd, m9, NN_lt, lt_NN, NN_le, le_NN, if_true, if_false, n_mod, q_dec, ro_gf, ro_ld, ro_sd, ro_pf, e_vl, e_cV, e_cI, nI_add, q_mul, q_sub, q_rem, q_div, q_eq, q_lt, q_le, c0, c1, c2, c3, c4, c5, c6, c7, c8, c9, c10, c99]
      · unfold T_X3_bestBag T_X3_bestBag_j15 T_X3_bestBag_j34; simp (disch := omega) only [e2, e4, (neg_ok 1 (by omega) (by omega)).2.1, cI_id, Nat.reduceEqDiff, Nat.reduceLeDiff, reduceIte, eq_self, ng1, ng2, ng3, ng4, ng6, rx_gf, rx_ld, rx_pf, rx_sd, m9, NN_lt, lt_NN, NN_le, le_NN, if_true, if_false, n_mod, q_dec, ro_gf, ro_ld, ro_sd, ro_pf, e_vl, e_cV, e_cI, nI_add, q_mul, q_sub, q_rem, q_div, q_eq, q_lt, q_le, c0, c1, c2, c3, c4, c5, c6, c7, c8, c9, c10, c99]
  · refine ok_ref 1 J (by decide) ?_ (fun τ => ?_)
    · unfold T_X2_bestBag T_X2_bestBag_j18; simp (disch := omega) only [e1, cI_id, Nat.reduceEqDiff, Nat.reduceLeDiff, reduceIte, eq_self, ng1, ng2, ng3, ng4, ng6, rx_gf, rx_ld, rx_pf, rx_sd, m9, NN_lt, lt_NN, NN_le, le_NN, if_true, if_false, n_mod, q_dec, ro_gf, ro_ld, ro_sd, ro_pf, e_vl, e_cV, e_cI, nI_add, q_mul, q_sub, q_rem, q_div, q_eq, q_lt, q_le, c0, c1, c2, c3, c4, c5, c6, c7, c8, c9, c10, c99]
    · unfold T_X3_bestBag T_X3_bestBag_j15 T_X3_bestBag_j34; simp (disch := omega) only [e2, (neg_ok 1 (by omega) (by omega)).2.1, cI_id, Nat.reduceEqDiff, Nat.reduceLeDiff, reduceIte, eq_self, ng1, ng2, ng3, ng4, ng6, rx_gf, rx_ld, rx_pf, rx_sd, m9, NN_lt, lt_NN, NN_le, le_NN, if_true, if_false, n_mod, q_dec, ro_gf, ro_ld, ro_sd, ro_pf, e_vl, e_cV, e_cI, nI_add, q_mul, q_sub, q_rem, q_div, q_eq, q_lt, q_le, c0, c1, c2, c3, c4, c5, c6, c7, c8, c9, c10, c99]
end Q3
