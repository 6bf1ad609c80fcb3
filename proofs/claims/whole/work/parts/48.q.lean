/-! THE QUESTIONS, sixth lot: farthest, snaps, swap -/
theorem cmp_lt {a m : Nat} (ha : a < 1000) (hm : m = 4294967287 ∨ m < 1000) : nI m < nI a ↔ (m = 4294967287 ∨ m < a) := by
  rcases hm with rfl | h
  · rw [NN_lt (by omega)]
    exact ⟨fun _ => Or.inl rfl, fun _ => trivial⟩
  · rw [q_lt (by omega) (by omega)]; omega
theorem cmp_le {a m : Nat} (ha : a < 1000) (hm : m = 4294967287 ∨ m < 1000) : nI a ≤ nI m ↔ ¬ (m = 4294967287 ∨ m < a) := by
  rcases hm with rfl | h
  · rw [le_NN (by omega)]
    exact ⟨fun q => q.elim, fun q => q (Or.inl rfl)⟩
  · rw [q_le (by omega) (by omega)]; omega
def fxJ (X : SS) (i : Nat) : Nat → Nat → Nat × Nat → Nat × Nat
  | 0, _, q => q
  | r + 1, j, q => fxJ X i r (j + 1) (if q.2 = 4294967287 ∨ q.2 < apa (X 8 i) (X 8 j) then (10 * i + j, apa (X 8 i) (X 8 j)) else q)
def fxI (X : SS) : Nat → Nat → Nat × Nat → Nat × Nat
  | 0, _, q => q
  | r + 1, i, q => fxI X r (i + 1) (fxJ X i (X 12 0 - (i + 1)) (i + 1) q)
theorem fxJ_ok {X : SS} {i : Nat} : ∀ r j q, (q.2 = 4294967287 ∨ q.2 < 1000) → ((fxJ X i r j q).2 = 4294967287 ∨ (fxJ X i r j q).2 < 1000)
  | 0, j, q, h => h
  | r + 1, j, q, h => by
    refine fxJ_ok r (j + 1) _ ?_
    split
    · exact Or.inr (Nat.lt_of_le_of_lt apa_le (by decide))
    · exact h
section Q6
variable {G : GG} {P : Nat → Nat} {C A S Y Z F D S0 X : SS} {τ : TT} {a : Nat}
theorem x2_farJ (W : WF X) (R : SB C X) {i w : Nat} (hi : i < X 12 0) {K : Int32 → Int32 → Int32 → Int32 → ST → Option (Int32 × ST)} : ∀ r j q n, j + r = X 12 0 → r < n → (q.2 = 4294967287 ∨ q.2 < 1000) → T_X2_farthest_L58 K n (nI w) (nI q.1) (nI q.2) (nI i) (nI j) (Ro τ 2 C) = K (nI w) (nI (fxJ X i r j q).1) (nI (fxJ X i r j q).2) (nI (i + 1)) (Ro τ 2 C) := by
  have h12 := W.nl
  have r7 := R.1.2.1
  intro r
  induction r with
  | zero =>
    intro j q n h hn hq
    obtain ⟨n, rfl⟩ := fu_one hn
    unfold T_X2_farthest_L58
    rw [ro_gf, r7, if_pos (by rw [q_le (by omega) (by omega)]; omega), e_vl, c1, nI_add]
    rfl
  | succ r ih =>
    intro j q n h hn hq
    obtain ⟨n, rfl⟩ := fu_one (by omega : 0 < n)
    have hj : j < X 12 0 := by omega
    have w1 := W.bea hi
    have w2 := W.bea hj
    have ap := apa_le (a := X 8 i) (g := X 8 j)
    unfold T_X2_farthest_L58 fxJ
    rw [ro_gf, r7, if_neg (by rw [q_le (by omega) (by omega)]; omega), ro_ld (by omega) (by omega), (R.bea hi).2.2.1, ro_ld (by omega) (by omega), (R.bea hj).2.2.1, x2_apa (by omega) (by omega)]
    simp only [e_cV]
    by_cases e : q.2 = 4294967287 ∨ q.2 < apa (X 8 i) (X 8 j)
    · rw [if_neg (fun z => (cmp_le (by omega) hq).mp z e), if_pos e, c10, q_mul, nI_add, e_vl, c1, nI_add, e_vl]
      exact ih (j + 1) (10 * i + j, apa (X 8 i) (X 8 j)) n (by omega) (by omega) (Or.inr (Nat.lt_of_le_of_lt ap (by decide)))
    · rw [if_pos ((cmp_le (by omega) hq).mpr e), if_neg e, c1, nI_add, e_vl]
      exact ih (j + 1) q n (by omega) (by omega) hq
theorem x3_farJ (W : WF X) {i w : Nat} (hi : i < X 12 0) {K : Int32 → Int32 → Int32 → Int32 → ST → Option (Int32 × ST)} : ∀ r j q n, j + r = X 12 0 → r < n → (q.2 = 4294967287 ∨ q.2 < 1000) → T_X3_farthest_L66 K n (nI w) (nI q.1) (nI q.2) (nI i) (nI j) (Ro τ 13 X) = K (nI w) (nI (fxJ X i r j q).1) (nI (fxJ X i r j q).2) (nI (i + 1)) (Ro τ 13 X) := by
  have h12 := W.nl
  intro r
  induction r with
  | zero =>
    intro j q n h hn hq
    obtain ⟨n, rfl⟩ := fu_one hn
    unfold T_X3_farthest_L66
    rw [ro_gf, if_pos (by rw [q_le (by omega) (by omega)]; omega), e_vl, c1, nI_add]
    rfl
  | succ r ih =>
    intro j q n h hn hq
    obtain ⟨n, rfl⟩ := fu_one (by omega : 0 < n)
    have hj : j < X 12 0 := by omega
    have ap := apa_le (a := X 8 i) (g := X 8 j)
    unfold T_X3_farthest_L66 fxJ
    rw [ro_gf, if_neg (by rw [q_le (by omega) (by omega)]; omega), x3_apart W hi hj]
    simp only [e_cV]
    by_cases e : q.2 = 4294967287 ∨ q.2 < apa (X 8 i) (X 8 j)
    · rw [if_pos ((cmp_lt (by omega) hq).mpr e), if_pos e, c10, q_mul, nI_add, e_vl, c1, nI_add, e_vl]
      exact ih (j + 1) (10 * i + j, apa (X 8 i) (X 8 j)) n (by omega) (by omega) (Or.inr (Nat.lt_of_le_of_lt ap (by decide)))
    · rw [if_neg (fun z => e ((cmp_lt (by omega) hq).mp z)), if_neg e, c1, nI_add, e_vl]
      exact ih (j + 1) q n (by omega) (by omega) hq
theorem x2_farI (W : WF X) (R : SB C X) {w : Nat} (hw : w ≤ 1) : ∀ r i q n, i + r = X 12 0 → r < n → (q.2 = 4294967287 ∨ q.2 < 1000) → T_X2_farthest_L40 n (nI w) (nI q.1) (nI q.2) (nI i) (Ro τ 2 C) = some (nI (if w = 0 then (fxI X r i q).1 else (fxI X r i q).2), Ro τ 2 C) := by
  have h12 := W.nl
  have r7 := R.1.2.1
  intro r
  induction r with
  | zero =>
    intro i q n h hn hq
    obtain ⟨n, rfl⟩ := fu_one hn
    unfold T_X2_farthest_L40
    rw [ro_gf, r7, if_pos (by rw [q_le (by omega) (by omega)]; omega), c0, i_eq (by omega) (by omega)]
    show _ = some (nI (if w = 0 then q.1 else q.2), _)
    split <;> rfl
  | succ r ih =>
    intro i q n h hn hq
    obtain ⟨n, rfl⟩ := fu_one (by omega : 0 < n)
    unfold T_X2_farthest_L40 fxI
    rw [ro_gf, r7, if_neg (by rw [q_le (by omega) (by omega)]; omega), c1, nI_add, e_vl, x2_farJ W R (by omega) (X 12 0 - (i + 1)) (i + 1) q FU (by omega) (FU_gt (by omega)) hq]
    exact ih (i + 1) _ n (by omega) (by omega) (fxJ_ok _ _ _ hq)
theorem x3_farI (W : WF X) {w : Nat} (hw : w ≤ 1) : ∀ r i q n, i + r = X 12 0 → r < n → (q.2 = 4294967287 ∨ q.2 < 1000) → T_X3_farthest_L51 n (nI w) (nI q.1) (nI q.2) (nI i) (Ro τ 13 X) = some (nI (if w = 0 then (fxI X r i q).1 else (fxI X r i q).2), Ro τ 13 (gtS 2 X)) := by
  have h12 := W.nl
  intro r
  induction r with
  | zero =>
    intro i q n h hn hq
    obtain ⟨n, rfl⟩ := fu_one hn
    unfold T_X3_farthest_L51
    rw [ro_gf, if_pos (by rw [q_le (by omega) (by omega)]; omega), x3_forgets, c0]
    show _ = some (nI (if w = 0 then q.1 else q.2), _)
    simp only [e_cV]
    rw [i_eq (by omega) (by omega)]
    split <;> rfl
  | succ r ih =>
    intro i q n h hn hq
    obtain ⟨n, rfl⟩ := fu_one (by omega : 0 < n)
    unfold T_X3_farthest_L51 fxI
    rw [ro_gf, if_neg (by rw [q_le (by omega) (by omega)]; omega), c1, nI_add, e_vl, x3_farJ W (by omega) (X 12 0 - (i + 1)) (i + 1) q FU (by omega) (FU_gt (by omega)) hq]
    exact ih (i + 1) _ n (by omega) (by omega) (fxJ_ok _ _ _ hq)
theorem ok_farthest (J : Inv G P) (a0 a1 : Int32) : OKm G P (T_X2_farthest a0 a1) (T_X3_farthest a0 a1) := by
  have K := J.tk
  rcases chk_hours a0 with ⟨n, hn, rfl, e3, e4⟩ | ⟨k, hk, e3, e4⟩
  · rcases x2_hw n 1 hn a1 (by decide) with ⟨x, hx, rfl, e5, e6⟩ | ⟨e5, e6⟩
    · have K2 := K.keep (w := 2)
      obtain ⟨C1, C2, t1, t2, t3, -⟩ := think_run (P := P) (Eqs.keep.sb K.1 J.sb) K2.1 K2.2.1 hn (G 2)
      have WY : WF (runS (kpS 2 (G 13)) n) := K2.1.run n _
      have h12 := WY.nl
      have goes : ∀ τ, T_X3_goes (nI n) (Ro τ 13 (kpS 2 (G 13))) = some (Ro τ 13 (runS (kpS 2 (G 13)) n)) := fun τ => x3_goes K2.1 hn (by have := K2.2.1; omega) K2.2.2
      refine ok_q2 (r := nI (if x = 0 then (fxI (runS (kpS 2 (G 13)) n) (runS (kpS 2 (G 13)) n 12 0) 0 (4294967287, 4294967287)).1 else (fxI (runS (kpS 2 (G 13)) n) (runS (kpS 2 (G 13)) n 12 0) 0 (4294967287, 4294967287)).2)) (C := C2) J ?_ (fun τ => ⟨_, ?_, (KR.think K.2.2 ((OS.keep K.2.2).run n)).mono (by decide)⟩)
      · unfold T_X2_farthest
        simp only [d1, e5, t1, t2, e_cV, d0, d9, m9, eq00, eq10, if_true, if_false]
        exact x2_farI WY t3.sb hx _ 0 (4294967287, 4294967287) FU (by omega) (FU_gt (by omega)) (Or.inl rfl)
      · unfold T_X3_farthest T_X3_farthest_j21
        simp only [d0, d1, e4, e6, x3_thinks, goes, e_cV, d9, m9, eq00, eq10, if_true, if_false]
        exact x3_farI WY hx _ 0 (4294967287, 4294967287) FU (by omega) (FU_gt (by omega)) (Or.inl rfl)
    · refine ok_ref 2 J (by decide) ?_ (fun τ => ?_)
      · unfold T_X2_farthest
        simp only [d1, e5, e_cV, d0, (neg_ok 2 (by omega) (by omega)).2.1, if_false, cI_id]
      · unfold T_X3_farthest T_X3_farthest_j21
        simp only [d1, e4, e6, e_cV, d0, d2, eq00, if_true, (neg_ok 2 (by omega) (by omega)).2.1, if_false, cI_id]
  · refine ok_ref k J (by omega) ?_ (fun τ => ?_)
    · unfold T_X2_farthest
      simp only [d1, x2_hwBad hk e3, e_cV, d0, (neg_ok k (by omega) (by omega)).2.1, if_false, cI_id]
    · unfold T_X3_farthest T_X3_farthest_j21
      simp only [e4, e_cV, d0, (neg_ok k (by omega) (by omega)).2.1, if_false, cI_id]
/-! snaps -/
/-- the class goes n hours from a thought of Y -/
theorem cls_rn (R : SB C Y) (t : T0 C) (K : TK Y) {n : Nat} (hn : n ≤ 60) : ∃ C2, T_X0_goHours 2 (nI n) (Ro τ 2 C) = some (Ro τ 2 C2) ∧ SB C2 (rnC Y n) ∧ WF (rnC Y n) ∧ (∀ l, l < 5 → C2 15 l = rnC Y n 27 l ∧ C2 16 l = rnC Y n 28 l) ∧ C2 17 0 = rnC Y n 29 0 := by
  have K2 := (K.keep (w := 2)).cnt
  obtain ⟨C2, h2, h3, -⟩ := x0_hours (τ := τ) (o := 2) K2.1 hn (by have := K2.2.1; omega) (t.sc ((Eqs.keep.trans Eqs.cnt).sb K.1 R)) t.2
  refine ⟨C2, h2, h3.sb, K2.1.run n _, fun l hl => ?_, ?_⟩
  · have a := h3.2.2.2.1 l hl
    have b := cnt_27 (S := kpS 2 Y) hl
    rw [b.1, b.2] at a
    exact ⟨a.1.symm, a.2.symm⟩
  · have a := h3.2.2.2.2
    rw [cnt_29] at a
    exact a.symm
theorem whereC_loop (J : Inv G P) {m : Nat} (hm : m ≤ 60) : ∀ r v n b f1 f2 C Z, v + r = 10 → r < n → KU 120 (G 13) 14 0 Z → ((f1 = 1000000 ∧ f2 = 1000) ∨ (f1 = f2 ∧ f1 ≤ 300)) → ∃ res C' F, T_X2_whereColonel_L8 n (nI m) (nI b) (nI f1) (nI v) (Ro (G, P) 2 C) = some (res, Ro (G, P) 2 C') ∧ (∀ τ, T_X3_bestColonel_L15 n (nI m) (nI (G 13 14 0)) (nI b) (nI f2) (nI v) (Ro τ 13 Z) = some (res, Ro τ 13 F)) ∧ KR 120 (G 13) F := by
  have K := J.tk
  have h12 := K.1.nl
  intro r
  induction r with
  | zero =>
    intro v n b f1 f2 C Z h hn k hf
    obtain ⟨n, rfl⟩ := fu_one hn
    refine ⟨nI b, C, up Z 14 0 (G 13 14 0), ?_, fun τ => ?_, k⟩
    · unfold T_X2_whereColonel_L8
      rw [c10, if_pos (by rw [q_le (by omega) (by omega)]; omega)]
    · unfold T_X3_bestColonel_L15
      rw [c10, if_pos (by rw [q_le (by omega) (by omega)]; omega), ro_pf]
  | succ r ih =>
    intro v n b f1 f2 C Z h hn k hf
    obtain ⟨n, rfl⟩ := fu_one (by omega : 0 < n)
    have KZ : TK (up Z 14 0 v) := k.tk K (by omega)
    have e12 : up Z 14 0 v 12 0 = G 13 12 0 := k.at (inr (by decide) (by omega)) (by omega)
    obtain ⟨C1, t1, t2⟩ := x2_think2 (G := G) (P := P) C
    obtain ⟨C2, g1, g2, g3, g4, g5⟩ := cls_rn (τ := (G, P)) (k.sb14 (x := v) K J.sb t2) (t2.t0.up (by decide)) KZ hm
    have s1 := fun τ => x3_snapsIn (τ := τ) KZ hm
    have k2 : KU 120 (G 13) 14 0 (gtS 2 (rnC (up Z 14 0 v) m)) := k.step (by decide) (KR.rnC KZ m)
    have hb := rnC_29 (S := up Z 14 0 v) (n := m) (by omega)
    unfold T_X2_whereColonel_L8 T_X3_bestColonel_L15
    by_cases e : rnC (up Z 14 0 v) m 29 0 < f1
    · obtain ⟨res, C', F, i1, i2, i3⟩ := ih (v + 1) n v (rnC (up Z 14 0 v) m 29 0) (rnC (up Z 14 0 v) m 29 0) C2 _ (by omega) (by omega) k2 (Or.inr ⟨rfl, by omega⟩)
      refine ⟨res, C', F, ?_, fun τ => ?_, i3⟩
      · rw [c10, if_neg (by rw [q_le (by omega) (by omega)]; omega), t1]
        simp only [e_cV]
        rw [ro_pf, g1]
        simp only [e_cV]
        rw [ro_gf, g5, if_neg (by rw [q_le (by omega) (by omega)]; omega), ro_gf, g5, c1, nI_add, e_vl]
        exact i1
      · rw [c10, if_neg (by rw [q_le (by omega) (by omega)]; omega), ro_pf, s1 τ]
        simp only [e_cI]
        rw [if_pos (by rw [q_lt (by omega) (by omega)]; omega), c1, nI_add, e_vl]
        exact i2 τ
    · obtain ⟨res, C', F, i1, i2, i3⟩ := ih (v + 1) n b f1 f2 C2 _ (by omega) (by omega) k2 hf
      refine ⟨res, C', F, ?_, fun τ => ?_, i3⟩
      · rw [c10, if_neg (by rw [q_le (by omega) (by omega)]; omega), t1]
        simp only [e_cV]
        rw [ro_pf, g1]
        simp only [e_cV]
        rw [ro_gf, g5, if_pos (by rw [q_le (by omega) (by omega)]; omega), c1, nI_add, e_vl]
        exact i1
      · rw [c10, if_neg (by rw [q_le (by omega) (by omega)]; omega), ro_pf, s1 τ]
        simp only [e_cI]
        rw [if_neg (by rw [q_lt (by omega) (by omega)]; omega), c1, nI_add, e_vl]
        exact i2 τ
def amn (t : Nat → Nat) : Nat → Nat → Nat → Nat
  | 0, _, b => b
  | r + 1, v, b => amn t r (v + 1) (if t v < t b then v else b)
theorem x2_llL {t : Nat → Nat} {N : Nat} (hN : C 7 0 = N) (h5 : N ≤ 5) (ht : ∀ l, l < 5 → C 15 l = t l ∧ t l < 1000) : ∀ r l b n, l + r = N → b < N → r < n → T_X2_leastLed_L5 (Ro τ 2 C) n (nI b) (nI l) = some (nI (amn t r l b)) := by
  intro r
  induction r with
  | zero =>
    intro l b n h hb hn
    obtain ⟨n, rfl⟩ := fu_one hn
    unfold T_X2_leastLed_L5
    rw [ro_gf, hN, if_pos (by rw [q_le (by omega) (by omega)]; omega)]
    rfl
  | succ r ih =>
    intro l b n h hb hn
    obtain ⟨n, rfl⟩ := fu_one (by omega : 0 < n)
    have h1 := ht l (by omega)
    have h2 := ht b (by omega)
    unfold T_X2_leastLed_L5 amn
    rw [ro_gf, hN, if_neg (by rw [q_le (by omega) (by omega)]; omega), c0, if_neg (by rw [q_lt (by omega) (by omega)]; omega), ro_ld (by omega) (by omega), ro_ld (by omega) (by omega), h1.1, h2.1, i_le (by omega) (by omega), c1, nI_add]
    simp only [e_vl]
    by_cases e : t l < t b
    · rw [if_neg (by omega), if_pos e]
      exact ih (l + 1) l n (by omega) (by omega) (by omega)
    · rw [if_pos (by omega), if_neg e]
      exact ih (l + 1) b n (by omega) hb (by omega)
theorem x3_llL {t : Nat → Nat} {N : Nat} (hN : X 12 0 = N) (h5 : N ≤ 5) (ht : ∀ l, l < 5 → X 27 l = t l ∧ t l < 1000) : ∀ r l b n, l + r = N → b < N → r < n → T_X3_leastLed_L22 n (nI b) (nI l) (Ro τ 13 X) = some (nI (amn t r l b), Ro τ 13 X) := by
  intro r
  induction r with
  | zero =>
    intro l b n h hb hn
    obtain ⟨n, rfl⟩ := fu_one hn
    unfold T_X3_leastLed_L22
    rw [ro_gf, hN, if_pos (by rw [q_le (by omega) (by omega)]; omega)]
    rfl
  | succ r ih =>
    intro l b n h hb hn
    obtain ⟨n, rfl⟩ := fu_one (by omega : 0 < n)
    have h1 := ht l (by omega)
    have h2 := ht b (by omega)
    unfold T_X3_leastLed_L22 amn
    rw [ro_gf, hN, if_neg (by rw [q_le (by omega) (by omega)]; omega), ro_ld (by omega) (by omega), ro_ld (by omega) (by omega), h1.1, h2.1, i_le (by omega) (by omega), c1, nI_add]
    simp only [e_vl]
    by_cases e : t l < t b
    · rw [if_neg (by omega), if_pos e]
      exact ih (l + 1) l n (by omega) (by omega) (by omega)
    · rw [if_pos (by omega), if_neg e]
      exact ih (l + 1) b n (by omega) hb (by omega)
theorem ok_snaps (J : Inv G P) (a0 a1 : Int32) : OKm G P (T_X2_snaps a0 a1) (T_X3_snaps a0 a1) := by
  have K := J.tk
  have h12 := K.1.nl
  rcases chk_hours a0 with ⟨n, hn, rfl, e3, e4⟩ | ⟨k, hk, e3, e4⟩
  · rcases x2_hw n 2 hn a1 (by decide) with ⟨x, hx, rfl, e5, e6⟩ | ⟨e5, e6⟩
    · have hx' : x = 0 ∨ x = 1 ∨ x = 2 := by omega
      have kr := (KR.rnC K n).mono (b := 60) (by decide)
      have pre3 : ∀ τ, T_X3_snaps (nI n) (nI x) (Ro τ 13 (G 13)) = T_X3_snaps_j21 (nI n) (nI x) (nI 0) (Ro τ 13 (G 13)) := by
        intro τ
        unfold T_X3_snaps
        simp only [d0, d2, e4, e6, e_cV, eq00, eq10, if_true, if_false]
      have pre2 : T_X2_snaps (nI n) (nI x) (Ro (G, P) 2 (G 2)) = if nI x = nI 1 then cI (T_X2_whereColonel (nI n) (Ro (G, P) 2 (G 2))) (fun x10 σ11 => some (x10, σ11)) else cV (T_X2_think (Ro (G, P) 2 (G 2))) (fun σ4 => cV (T_X0_goHours 2 (nI n) σ4) (fun σ6 => if nI x = nI 0 then gf σ6 2 17 (fun x9 => some (x9, σ6)) else cV (T_X2_leastLed σ6) (fun x7 => some (x7, σ6)))) := by
        unfold T_X2_snaps
        simp only [d0, d1, d2, e5, e_cV, eq00, eq10, if_true, if_false]
      rcases hx' with rfl | rfl | rfl
      · obtain ⟨C1, C2, t1, t2, t3, t4, t5, t6⟩ := cls_rnC (P := P) K J.sb hn (G 2)
        refine ok_q2 (r := nI (rnC (G 13) n 29 0)) (C := C2) J ?_ (fun τ => ⟨gtS 2 (rnC (G 13) n), ?_, kr⟩)
        · rw [pre2, if_neg (by decide), t1]
          simp only [e_cV]
          rw [t2]
          simp only [e_cV]
          rw [if_pos (by trivial), ro_gf, t6]
        · rw [pre3]
          unfold T_X3_snaps_j21
          rw [c0, if_pos (by trivial), if_pos (by trivial), x3_snapsIn K hn]
          rfl
      · obtain ⟨res, C', F, i1, i2, i3⟩ := whereC_loop J hn 10 0 FU 0 1000000 1000 (G 2) (G 13) rfl (FU_gt (by decide)) (KU.start K.2.2) (Or.inl ⟨rfl, rfl⟩)
        refine ok_q2 (r := res) (C := C') J ?_ (fun τ => ⟨F, ?_, i3.mono (by decide)⟩)
        · rw [pre2, if_pos (by trivial), cI_id]
          unfold T_X2_whereColonel
          exact i1
        · rw [pre3]
          unfold T_X3_snaps_j21 T_X3_bestColonel
          rw [c0, if_pos (by trivial), if_neg (by decide), c1, if_pos (by trivial), cI_id, ro_gf]
          exact i2 τ
      · obtain ⟨C1, C2, t1, t2, t3, t4, t5, t6⟩ := cls_rnC (P := P) K J.sb hn (G 2)
        have e12 : rnC (G 13) n 12 0 = G 13 12 0 := rnC_12
        have c7' : C2 7 0 = G 13 12 0 := t3.1.2.1.trans e12
        have ht : ∀ l, l < 5 → C2 15 l = rnC (G 13) n 27 l ∧ rnC (G 13) n 27 l < 1000 := fun l hl => ⟨(t5 l hl).1, by have := rnC_27 (S := G 13) (n := n) hl; omega⟩
        have ht3 : ∀ l, l < 5 → gtS 2 (rnC (G 13) n) 27 l = rnC (G 13) n 27 l ∧ rnC (G 13) n 27 l < 1000 := fun l hl => ⟨gtS_oth (by omega) (by omega), (ht l hl).2⟩
        have g12 : gtS 2 (rnC (G 13) n) 12 0 = G 13 12 0 := kr.1 12 0 (inr (by decide) (by omega))
        refine ok_q2 (r := nI (if G 13 12 0 = 0 then NN else amn (rnC (G 13) n 27) (G 13 12 0 - 1) 1 0)) (C := C2) J ?_ (fun τ => ⟨gtS 2 (rnC (G 13) n), ?_, kr⟩)
        · rw [pre2, if_neg (by decide), t1]
          simp only [e_cV]
          rw [t2]
          simp only [e_cV]
          rw [if_neg (by decide)]
          unfold T_X2_leastLed
          obtain ⟨m, hm⟩ : ∃ m, FU = m + 1 := ⟨2999, rfl⟩
          by_cases e : G 13 12 0 = 0
          · rw [if_pos e, hm]
            unfold T_X2_leastLed_L5
            rw [ro_gf, c7', if_pos (by rw [c0, q_le (by omega) (by omega)]; omega)]
            rfl
          · rw [if_neg e]
            have := x2_llL (τ := (G, P)) c7' h12 ht (G 13 12 0 - 1) 1 0 m (by omega) (by omega) (by have : m = 2999 := by (have := hm; unfold FU at this; omega)
                                                                                                    omega)
            rw [hm]
            unfold T_X2_leastLed_L5
            rw [ro_gf, c7', if_neg (by rw [c0, q_le (by omega) (by omega)]; omega), c9, m9, c0, if_pos NN_neg, c1, nI_add, e_vl, this]
            rfl
        · rw [pre3]
          unfold T_X3_snaps_j21 T_X3_leastLed
          rw [c0, if_pos (by trivial), if_neg (by decide), c1, if_neg (by decide), cI_id, x3_snapsIn K hn]
          simp only [e_cI]
          rw [ro_gf, g12, i_eq (by omega) (by omega)]
          by_cases e : G 13 12 0 = 0
          · rw [if_pos e, if_pos e]
            obtain ⟨m, hm⟩ : ∃ m, FU = m + 1 := ⟨2999, rfl⟩
            rw [hm]
            unfold T_X3_leastLed_L22
            rw [ro_gf, g12, if_pos (by rw [q_le (by omega) (by omega)]; omega)]
            rfl
          · rw [if_neg e, if_neg e]
            exact x3_llL g12 h12 ht3 (G 13 12 0 - 1) 1 0 FU (by omega) (by omega) (FU_gt (by omega))
    · refine ok_ref 2 J (by decide) ?_ (fun τ => ?_)
      · unfold T_X2_snaps
        simp only [d2, e5, e_cV, d0, (neg_ok 2 (by omega) (by omega)).2.1, if_false, cI_id]
      · unfold T_X3_snaps T_X3_snaps_j21
        simp only [d2, e4, e6, e_cV, d0, eq00, if_true, (neg_ok 2 (by omega) (by omega)).2.1, if_false, cI_id]
  · refine ok_ref k J (by omega) ?_ (fun τ => ?_)
    · unfold T_X2_snaps
      simp only [d2, x2_hwBad hk e3, e_cV, d0, (neg_ok k (by omega) (by omega)).2.1, if_false, cI_id]
    · unfold T_X3_snaps T_X3_snaps_j21
      simp only [e4, e_cV, d0, (neg_ok k (by omega) (by omega)).2.1, if_false, cI_id]
end Q6
