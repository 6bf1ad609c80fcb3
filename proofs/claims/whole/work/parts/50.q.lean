/-! THE QUESTIONS, eighth lot: lots, heir -/
theorem and_nat (x : Int32) : ∃ y, y < 2147483648 ∧ x &&& 2147483647 = nI y := by
  refine ⟨natOf (x &&& 2147483647), ?_, (nI_natOf _).symm⟩
  unfold natOf
  cases x with
  | ofUInt32 u =>
    show (u &&& 2147483647).toNat < 2147483648
    rw [UInt32.toNat_and]
    exact Nat.lt_of_le_of_lt Nat.and_le_right (by decide)
theorem draw_nat (x : Int32) : ∃ d, d ≤ 9 ∧ (x &&& 2147483647) / 65536 - (x &&& 2147483647) / 65536 / 10 * 10 = nI d := by
  obtain ⟨y, hy, e⟩ := and_nat x
  refine ⟨y / 65536 % 10, by omega, ?_⟩
  have h1 : y / 65536 < 2147483648 := Nat.lt_of_le_of_lt (Nat.div_le_self _ _) hy
  have h2 : nI y / nI 65536 = nI (y / 65536) := q_div hy (by decide)
  have h3 := q_rem h1 (show 10 < 2147483648 by decide)
  rw [e]
  show nI y / nI 65536 - nI y / nI 65536 / nI 10 * nI 10 = _
  rw [h2]
  exact h3
section Q8
variable {G : GG} {P : Nat → Nat} {C A S Y Z F D S0 X : SS} {τ : TT}
theorem SC.upg (R : SC D C X) {f g i x : Nat} (hf : PW f g) : SC D (up C f i x) (up X g i x) := by
  have b := R.sb.upg hf (i := i) (x := x)
  have hf1 : f ≤ 10 ∧ g ≤ 8 := by unfold PW at hf; omega
  refine ⟨b.1, b.2.1, b.2.2, fun l hl => ?_, ?_⟩
  · rw [up_ne _ (by omega), up_ne _ (by omega), up_ne _ (by omega), up_ne _ (by omega)]; exact R.2.2.2.1 l hl
  · rw [up_ne _ (by omega), up_ne _ (by omega)]; exact R.2.2.2.2
theorem draws (v1 v3 : Int32) : ∀ r l z C X, l + r = X 12 0 → SC D C X → WF X → ∃ z' C' X', (∀ K n v5 v6, r < n → T_X2_lots_L63 K n v1 v3 z v5 v6 (nI l) (Ro (G, P) 2 C) = cV (T_X0_goHours 2 24 (Ro (G, P) 2 C')) (fun σ3 => if v3 = 0 then cV (T_X0_allLedHours 2 σ3) (fun x7 => vl (v5 + x7) (fun x9 => vl (v6 + 1) (fun x10 => K v1 v3 z' x9 x10 σ3))) else gf σ3 2 17 (fun x4 => vl (v5 + x4) (fun x5 => vl (v6 + 1) (fun x6 => K v1 v3 z' x5 x6 σ3))))) ∧ (∀ τ K n v6 v7 v8, r < n → T_X3_lots_L68 K n v1 v3 z v6 v7 v8 (nI l) (Ro τ 13 X) = cV (T_X3_goes 24 (Ro τ 13 X')) (fun σ3 => T_X3_lots_L124 K FU v1 v3 z' v6 v7 v8 0 σ3)) ∧ SC D C' X' ∧ WF X' ∧ C' 18 0 = C 18 0 ∧ ∀ f i, f ≠ 7 → X' f i = X f i := by
  intro r
  induction r with
  | zero =>
    intro l z C X h R W
    have h12 := W.nl
    refine ⟨z, C, X, fun K n v5 v6 hn => ?_, fun τ K n v6 v7 v8 hn => ?_, R, W, rfl, fun _ _ _ => rfl⟩
    · obtain ⟨n, rfl⟩ := fu_one hn
      unfold T_X2_lots_L63
      rw [ro_gf, R.c7, if_pos (by rw [q_le (by omega) (by omega)]; omega)]
    · obtain ⟨n, rfl⟩ := fu_one hn
      unfold T_X3_lots_L68
      rw [ro_gf, if_pos (by rw [q_le (by omega) (by omega)]; omega)]
  | succ r ih =>
    intro l z C X h R W
    have h12 := W.nl
    obtain ⟨d, hd, ed⟩ := draw_nat (z * 1103515245 + 12345)
    obtain ⟨z', C', X', i1, i2, i3, i4, i5, i6⟩ := ih (l + 1) (z * 1103515245 + 12345) (up C 9 l d) (up X 7 l d) (by rw [up_ne _ (by omega)]; omega) (R.upg (by unfold PW; omega)) (W.upg (by omega))
    refine ⟨z', C', X', fun K n v5 v6 hn => ?_, fun τ K n v6 v7 v8 hn => ?_, i3, i4, by rw [i5, up_ne _ (by omega)], fun f i q => by rw [i6 f i q, up_ne _ (fun z => q z.1)]⟩
    · obtain ⟨n, rfl⟩ := fu_one (by omega : 0 < n)
      conv => lhs; unfold T_X2_lots_L63
      rw [ro_gf, R.c7, if_neg (by rw [q_le (by omega) (by omega)]; omega), e_vl, ed, ro_sd (by omega) (by omega), c1, nI_add, e_vl, i1 K n v5 v6 (by omega), c1]
    · obtain ⟨n, rfl⟩ := fu_one (by omega : 0 < n)
      conv => lhs; unfold T_X3_lots_L68
      rw [ro_gf, if_neg (by rw [q_le (by omega) (by omega)]; omega), e_vl, ed, ro_sd (by omega) (by omega), c1, nI_add, e_vl, i2 τ K n v6 v7 v8 (by omega)]
theorem x3_lotsE {v1 v3 z : Int32} {K : Int32 → Int32 → Int32 → Int32 → Int32 → Int32 → ST → Option (Int32 × ST)} (h12 : X 12 0 ≤ 5) : ∀ r l a b w n, l + r = X 12 0 → r < n → T_X3_lots_L124 K n v1 v3 z (nI a) (nI b) (nI w) (nI l) (Ro τ 13 X) = K v1 v3 z (nI (a + sumN (X 27) r l)) (nI (b + X 29 0)) (nI (w + 1)) (Ro τ 13 (gtS 2 X)) := by
  intro r
  induction r with
  | zero =>
    intro l a b w n h hn
    obtain ⟨n, rfl⟩ := fu_one hn
    unfold T_X3_lots_L124
    rw [ro_gf, if_pos (by rw [q_le (by omega) (by omega)]; omega), ro_gf, nI_add, e_vl, x3_forgets]
    simp only [e_cV]
    rw [c1, nI_add, e_vl]
    rfl
  | succ r ih =>
    intro l a b w n h hn
    obtain ⟨n, rfl⟩ := fu_one (by omega : 0 < n)
    unfold T_X3_lots_L124
    rw [ro_gf, if_neg (by rw [q_le (by omega) (by omega)]; omega), ro_ld (by omega) (by omega), nI_add, e_vl, c1, nI_add, e_vl, ih (l + 1) (a + X 27 l) b w n (by omega) (by omega), Nat.add_assoc]
    rfl
theorem lots_loop (J : Inv G P) {m what : Nat} (hm : m ≤ 20) (hw : what ≤ 1) : ∀ r w n z a b C Y, w + r = m → r < n → KR 60 (G 13) Y → ∃ res C' F, T_X2_lots_L50 n (nI m) (nI what) z (nI (if what = 0 then a else b)) (nI w) (Ro (G, P) 2 C) = some (res, Ro (G, P) 2 C') ∧ (∀ τ, T_X3_lots_L51 n (nI m) (nI what) z (nI a) (nI b) (nI w) (Ro τ 13 Y) = some (res, Ro τ 13 F)) ∧ KR 60 (G 13) F := by
  have K := J.tk
  have h12 := K.1.nl
  intro r
  induction r with
  | zero =>
    intro w n z a b C Y h hn k
    obtain ⟨n, rfl⟩ := fu_one hn
    refine ⟨nI (if what = 0 then a else b), C, Y, ?_, fun τ => ?_, k⟩
    · unfold T_X2_lots_L50
      rw [if_pos (by rw [q_le (by omega) (by omega)]; omega)]
    · unfold T_X3_lots_L51
      rw [if_pos (by rw [q_le (by omega) (by omega)]; omega), c0, i_eq (by omega) (by omega)]
      split <;> rfl
  | succ r ih =>
    intro w n z a b C Y h hn k
    obtain ⟨n, rfl⟩ := fu_one (by omega : 0 < n)
    have KY := k.tk K
    have K2 := (KY.keep (w := 2)).cnt
    have h13 := K2.2.1
    have e12 : cntS (kpS 2 Y) 12 0 = Y 12 0 := by rw [cnt_oth (by decide), kpS_oth (by decide)]
    obtain ⟨C1, t1, t2⟩ := x2_think2 (G := G) (P := P) C
    have R1 := t2.sc K2.1 (((k.1.trans Eqs.keep).trans Eqs.cnt).sb K.1 J.sb)
    obtain ⟨z', C2, X, d1, d2, d3, d4, d5, d6⟩ := draws (G := G) (P := P) (nI m) (nI what) (cntS (kpS 2 Y) 12 0) 0 z C1 (cntS (kpS 2 Y)) (by omega) R1 K2.1
    have hX13 : X 13 0 ≤ 999 := by rw [d6 _ _ (by decide)]; exact h13
    have hX12 : X 12 0 = Y 12 0 := by rw [d6 _ _ (by decide)]; exact e12
    have hX30 : X 30 0 ≤ 9 := by rw [d6 _ _ (by decide)]; exact K2.2.2
    obtain ⟨C3, g1, g2, g3⟩ := x0_hours (τ := (G, P)) (o := 2) d4 (n := 24) (by decide) (by omega) d3 (by rw [d5]; exact t2.2.2.2.2.2)
    have goes := fun τ => x3_goes (τ := τ) d4 (n := 24) (by decide) (by omega) hX30
    have hY12 := KY.1.nl
    have e12r : runS X 24 12 0 = Y 12 0 := by rw [runS_keeps (by decide)]; exact hX12
    have e7 : C3 7 0 = Y 12 0 := g2.c7.trans e12r
    have led3 : sumN (C3 15) (C3 7 0) 0 = sumN (runS X 24 27) (Y 12 0) 0 := by
      rw [e7]
      refine sumN_congr _ _ (fun i h1 h2 => ?_)
      have a1 := g2.2.2.2.1 i (by omega)
      rw [(cnt_27 (by omega)).1] at a1
      exact a1.1.symm
    have sn3 : C3 17 0 = runS X 24 29 0 := by
      have a1 := g2.2.2.2.2
      rw [cnt_29] at a1
      exact a1.symm
    have hO : OS 180 (kpS 2 Y) (runS X 24) := by
      refine OS.run ?_ 24
      exact ((OS.keep KY.2.2).cnt).any (fun g j q => d6 g j (by unfold NS at q; omega))
    have k2 : KR 60 (G 13) (gtS 2 (runS X 24)) := k.trans ((KR.think KY.2.2 hO).mono (by decide))
    obtain ⟨res, C', F, i1, i2, i3⟩ := ih (w + 1) n z' (a + sumN (runS X 24 27) (Y 12 0) 0) (b + runS X 24 29 0) C3 _ (by omega) (by omega) k2
    refine ⟨res, C', F, ?_, fun τ => ?_, i3⟩
    · unfold T_X2_lots_L50
      rw [if_neg (by rw [q_le (by omega) (by omega)]; omega), t1]
      simp only [e_cV]
      rw [c0, d1 _ _ _ _ (FU_gt (by omega)), c24, g1]
      simp only [e_cV]
      rw [c0, i_eq (by omega) (by omega)]
      by_cases e : what = 0
      · rw [if_pos e] at i1 ⊢
        rw [if_pos e, x0_ledH (by omega), led3]
        simp only [e_cV, e_vl, nI_add]
        rw [c1, nI_add]
        exact i1
      · rw [if_neg e] at i1 ⊢
        rw [if_neg e, ro_gf, sn3]
        simp only [e_vl, nI_add]
        rw [c1, nI_add]
        exact i1
    · unfold T_X3_lots_L51
      rw [if_neg (by rw [q_le (by omega) (by omega)]; omega), x3_thinks]
      simp only [e_cV]
      rw [x3_counts]
      simp only [e_cV]
      rw [c0, d2 _ _ _ _ _ _ (FU_gt (by omega)), c24, goes]
      simp only [e_cV]
      rw [c0, x3_lotsE (by omega) (runS X 24 12 0) 0 a b w FU (by omega) (FU_gt (by omega)), e12r]
      exact i2 τ
theorem bnd_chk (a : Int32) (lo hi : Nat) (h : lo ≤ hi) (hh : hi < 900) : (∃ n, lo ≤ n ∧ n ≤ hi ∧ a = nI n ∧ nI lo ≤ a ∧ a ≤ nI hi) ∨ (¬ nI lo ≤ a) ∨ (nI lo ≤ a ∧ ¬ a ≤ nI hi) := by
  by_cases e1 : nI lo ≤ a
  · by_cases e2 : a ≤ nI hi
    · refine Or.inl ⟨a.toInt.toNat, ?_⟩
      have f1 := e1
      have f2 := e2
      rw [Int32.le_iff_toInt_le, nI_toInt (by omega)] at f1 f2
      refine ⟨by omega, by omega, ?_, e1, e2⟩
      apply Int32.toInt_inj.mp
      rw [nI_toInt (by omega)]
      omega
    · exact Or.inr (Or.inr ⟨e1, e2⟩)
  · exact Or.inr (Or.inl e1)
theorem ok_lots (J : Inv G P) (a0 a1 a2 : Int32) : OKm G P (T_X2_lots a0 a1 a2) (T_X3_lots a0 a1 a2) := by
  have K := J.tk
  rcases bnd_chk a0 1 20 (by decide) (by decide) with ⟨n, h1, hn, rfl, e1, e2⟩ | e1 | ⟨e1, e2⟩
  · rcases chk_what a2 1 (by decide) with ⟨x, hx, rfl, e5⟩ | ⟨ho, e5⟩
    · obtain ⟨res, C', F, i1, i2, i3⟩ := lots_loop (P := P) J hn hx n 0 FU a1 0 0 (G 2) (G 13) (by omega) (FU_gt (by omega)) (KR.refl K.2.2)
      have e0 : (if x = 0 then 0 else 0) = 0 := by split <;> rfl
      rw [e0] at i1
      refine ok_q2 (r := res) (C := C') J ?_ (fun τ => ⟨F, ?_, i3⟩)
      · unfold T_X2_lots
        rw [c1, if_pos e1, show (20 : Int32) = nI 20 from rfl, if_pos e2, c0, if_neg (by rw [q_lt (by omega) (by omega)]; omega), if_pos (by rw [q_le (by omega) (by omega)]; omega)]
        exact i1
      · unfold T_X3_lots T_X3_lots_j27 T_X3_bound
        rw [c1, if_pos e1, show (20 : Int32) = nI 20 from rfl, if_pos e2]
        simp only [e_cV, d0, e5, eq00, eq10, if_true, if_false]
        exact i2 τ
    · refine ok_ref 2 J (by decide) ?_ (fun τ => ?_)
      · unfold T_X2_lots T_X2_lots_j34
        rw [c1, if_pos e1, show (20 : Int32) = nI 20 from rfl, if_pos e2, cI_id, c0, c2]
        rcases ho with q | ⟨q1, q2⟩
        · rw [if_pos q]
        · rw [if_neg q1, if_neg q2]
      · unfold T_X3_lots T_X3_lots_j27 T_X3_bound
        rw [c1, if_pos e1, show (20 : Int32) = nI 20 from rfl, if_pos e2]
        simp only [e_cV, d0, e5, d2, cI_id, eq00, eq10, if_true, if_false]
        rw [if_neg (by decide)]
  · refine ok_ref 4 J (by decide) ?_ (fun τ => ?_)
    · unfold T_X2_lots
      rw [c1, if_neg e1, cI_id, c4]
    · unfold T_X3_lots T_X3_lots_j27 T_X3_bound
      rw [c1, if_neg e1]
      simp only [e_cV, d0, d4, cI_id]
      rw [if_neg (by decide), if_neg (by decide)]
  · refine ok_ref 6 J (by decide) ?_ (fun τ => ?_)
    · unfold T_X2_lots
      rw [c1, if_pos e1, show (20 : Int32) = nI 20 from rfl, if_neg e2, cI_id, c6]
    · unfold T_X3_lots T_X3_lots_j27 T_X3_bound
      rw [c1, if_pos e1, show (20 : Int32) = nI 20 from rfl, if_neg e2]
      simp only [e_cV, d0, d6, cI_id]
      rw [if_neg (by decide), if_neg (by decide)]
/-! heir -/
def hwN (S : SS) : Nat → Nat → Nat → Nat
  | 0, _, b => b
  | r + 1, l, b => hwN S r (l + 1) (if S 9 l = 9 ∧ (b = 4294967287 ∨ S 6 b < S 6 l) then l else b)
def hbN (S : SS) : Nat → Nat → Nat → Nat
  | 0, _, b => b
  | r + 1, l, b => hbN S r (l + 1) (if b = 4294967287 ∨ pull S b < pull S l then l else b)
theorem now_gf {k : Nat} {α : Type} {F : Int32 → Option α} : gf (Ro (G, P) 2 C) 1 k F = F (nI (G 1 k 0)) := rx_gf (by decide)
theorem now_ld {k i n : Nat} {α : Type} {F : Int32 → Option α} (hi : i < n) (hn : n < 2147483648) : ld (Ro (G, P) 2 C) 1 k n (nI i) F = F (nI (G 1 k i)) := rx_ld (by decide) hi hn
theorem x2_hwL (J : Inv G P) : ∀ r l b n, l + r = G 13 12 0 → r < n → (b = 4294967287 ∨ b < G 13 12 0) → T_X2_strongestWilled_L5 (Ro (G, P) 2 C) n (nI b) (nI l) = some (nI (hwN (G 13) r l b)) := by
  have W := J.wf
  have h12 := W.nl
  have h11 := W.nb
  have r7 : G 1 7 0 = G 13 12 0 := J.sb.1.2.1
  intro r
  induction r with
  | zero =>
    intro l b n h hn hb
    obtain ⟨n, rfl⟩ := fu_one hn
    unfold T_X2_strongestWilled_L5
    rw [now_gf, r7, if_pos (by rw [q_le (by omega) (by omega)]; omega)]
    rfl
  | succ r ih =>
    intro l b n h hn hb
    obtain ⟨n, rfl⟩ := fu_one (by omega : 0 < n)
    have rl := J.sb.bea (l := l) (by omega)
    have wl := W.bea (l := l) (by omega)
    unfold T_X2_strongestWilled_L5 hwN
    rw [now_gf, r7, if_neg (by rw [q_le (by omega) (by omega)]; omega), now_ld (by omega) (by omega), rl.2.2.2.1, c0, c1, nI_add]
    simp only [e_vl]
    by_cases e : G 13 9 l = 9
    · rw [if_neg (by rw [e, kN_9]; decide)]
      rcases hb with rfl | hb
      · rw [if_pos NN_neg, if_pos ⟨e, Or.inl rfl⟩]
        exact ih (l + 1) l n (by omega) (by omega) (Or.inr (by omega))
      · have rb := J.sb.bea (l := b) hb
        have wb := W.bea (l := b) hb
        rw [if_neg (by rw [q_lt (by omega) (by omega)]; omega), now_ld (by omega) (by omega), now_ld (by omega) (by omega), rl.1, rb.1, i_le (by omega) (by omega)]
        by_cases e2 : G 13 6 b < G 13 6 l
        · rw [if_neg (by omega), if_pos ⟨e, Or.inr e2⟩]
          exact ih (l + 1) l n (by omega) (by omega) (Or.inr (by omega))
        · rw [if_pos (by omega), if_neg (by omega)]
          exact ih (l + 1) b n (by omega) (by omega) (Or.inr hb)
    · rw [if_pos (by rw [kN_ne e, q_le (by omega) (by omega)]; omega), if_neg (fun q => e q.1)]
      exact ih (l + 1) b n (by omega) (by omega) hb
theorem x3_hwL (W : WF S) : ∀ r l b n, l + r = S 12 0 → r < n → (b = 4294967287 ∨ b < S 12 0) → T_X3_heir_L21 n (nI 0) (nI b) (nI l) (Ro τ 13 S) = T_X3_heir_L73 FU (nI 0) (nI (hwN S r l b)) (nI 0) (Ro τ 13 S) := by
  have h12 := W.nl
  have h11 := W.nb
  intro r
  induction r with
  | zero =>
    intro l b n h hn hb
    obtain ⟨n, rfl⟩ := fu_one hn
    unfold T_X3_heir_L21
    rw [ro_gf, if_pos (by rw [q_le (by omega) (by omega)]; omega)]
    rfl
  | succ r ih =>
    intro l b n h hn hb
    obtain ⟨n, rfl⟩ := fu_one (by omega : 0 < n)
    have wl := W.bea (l := l) (by omega)
    unfold T_X3_heir_L21 hwN
    rw [ro_gf, if_neg (by rw [q_le (by omega) (by omega)]; omega), c0, if_pos (by trivial), ro_ld (by omega) (by omega), c9, i_eq (by omega) (by omega), c1, nI_add]
    simp only [e_vl]
    by_cases e : S 9 l = 9
    · rw [if_pos e]
      rcases hb with rfl | hb
      · rw [if_pos NN_neg, if_pos ⟨e, Or.inl rfl⟩]
        exact ih (l + 1) l n (by omega) (by omega) (Or.inr (by omega))
      · have wb := W.bea (l := b) hb
        rw [if_neg (by rw [q_lt (by omega) (by omega)]; omega), ro_ld (by omega) (by omega), ro_ld (by omega) (by omega), i_le (by omega) (by omega)]
        by_cases e2 : S 6 b < S 6 l
        · rw [if_neg (by omega), if_pos ⟨e, Or.inr e2⟩]
          exact ih (l + 1) l n (by omega) (by omega) (Or.inr (by omega))
        · rw [if_pos (by omega), if_neg (by omega)]
          exact ih (l + 1) b n (by omega) (by omega) (Or.inr hb)
    · rw [if_neg e, if_neg (fun q => e q.1)]
      exact ih (l + 1) b n (by omega) (by omega) hb
theorem x2_hbL (J : Inv G P) : ∀ r l b n, l + r = G 13 11 0 → r < n → (b = 4294967287 ∨ b < G 13 11 0) → T_X2_strongestBag_L5 (Ro (G, P) 2 C) n (nI b) (nI l) = some (nI (hbN (G 13) r l b)) := by
  have W := J.wf
  have h11 := W.nb
  have r0 : G 1 0 0 = G 13 11 0 := J.sb.1.1
  intro r
  induction r with
  | zero =>
    intro l b n h hn hb
    obtain ⟨n, rfl⟩ := fu_one hn
    unfold T_X2_strongestBag_L5
    rw [now_gf, r0, if_pos (by rw [q_le (by omega) (by omega)]; omega)]
    rfl
  | succ r ih =>
    intro l b n h hn hb
    obtain ⟨n, rfl⟩ := fu_one (by omega : 0 < n)
    have pl := pull_le W (b := l) (by omega)
    unfold T_X2_strongestBag_L5 hbN
    rw [now_gf, r0, if_neg (by rw [q_le (by omega) (by omega)]; omega), c0, c1, nI_add]
    simp only [e_vl]
    rcases hb with rfl | hb
    · rw [if_pos NN_neg, if_pos (Or.inl rfl)]
      exact ih (l + 1) l n (by omega) (by omega) (Or.inr (by omega))
    · have pb := pull_le W (b := b) hb
      rw [if_neg (by rw [q_lt (by omega) (by omega)]; omega), now_pull J (by omega), now_pull J hb]
      simp only [e_cV]
      rw [i_le (by omega) (by omega)]
      by_cases e2 : pull (G 13) b < pull (G 13) l
      · rw [if_neg (by omega), if_pos (Or.inr e2)]
        exact ih (l + 1) l n (by omega) (by omega) (Or.inr (by omega))
      · rw [if_pos (by omega), if_neg (by omega)]
        exact ih (l + 1) b n (by omega) (by omega) (Or.inr hb)
theorem x3_hbL (W : WF S) : ∀ r l b n, l + r = S 11 0 → r < n → (b = 4294967287 ∨ b < S 11 0) → T_X3_heir_L73 n (nI 1) (nI b) (nI l) (Ro τ 13 S) = some (nI (hbN S r l b), Ro τ 13 S) := by
  have h11 := W.nb
  intro r
  induction r with
  | zero =>
    intro l b n h hn hb
    obtain ⟨n, rfl⟩ := fu_one hn
    unfold T_X3_heir_L73
    rw [ro_gf, if_pos (by rw [q_le (by omega) (by omega)]; omega)]
    rfl
  | succ r ih =>
    intro l b n h hn hb
    obtain ⟨n, rfl⟩ := fu_one (by omega : 0 < n)
    have pl := pull_le W (b := l) (by omega)
    unfold T_X3_heir_L73 hbN
    rw [ro_gf, if_neg (by rw [q_le (by omega) (by omega)]; omega), c1, if_pos (by trivial), c0, nI_add]
    simp only [e_vl]
    rcases hb with rfl | hb
    · rw [if_pos NN_neg, if_pos (Or.inl rfl)]
      exact ih (l + 1) l n (by omega) (by omega) (Or.inr (by omega))
    · have pb := pull_le W (b := b) hb
      rw [if_neg (by rw [q_lt (by omega) (by omega)]; omega), x3_pull W (by omega), x3_pull W hb]
      simp only [e_cV]
      rw [i_le (by omega) (by omega)]
      by_cases e2 : pull S b < pull S l
      · rw [if_neg (by omega), if_pos (Or.inr e2)]
        exact ih (l + 1) l n (by omega) (by omega) (Or.inr (by omega))
      · rw [if_pos (by omega), if_neg (by omega)]
        exact ih (l + 1) b n (by omega) (by omega) (Or.inr hb)
theorem ok_heir (J : Inv G P) (a0 : Int32) : OKm G P (T_X2_heir a0) (T_X3_heir a0) := by
  have W := J.wf
  have h12 := W.nl
  have h11 := W.nb
  rcases chk_what a0 1 (by decide) with ⟨x, hx, rfl, e5⟩ | ⟨ho, e5⟩
  · have hx' : x = 0 ∨ x = 1 := by omega
    rcases hx' with rfl | rfl
    · refine ok_q0 (r := nI (hwN (G 13) (G 13 12 0) 0 4294967287)) J ?_ (fun τ => ?_)
      · unfold T_X2_heir T_X2_strongestWilled
        rw [c0, if_neg (by decide), c1, if_pos (by decide), if_pos (by trivial), c9, m9, x2_hwL J (G 13 12 0) 0 4294967287 FU (by omega) (FU_gt (by omega)) (Or.inl rfl)]
        rfl
      · unfold T_X3_heir
        simp only [d0, d1, e5, e_cV, d9, m9, eq00, eq10, if_true, if_false]
        rw [x3_hwL W (G 13 12 0) 0 4294967287 FU (by omega) (FU_gt (by omega)) (Or.inl rfl)]
        obtain ⟨m, hm⟩ : ∃ m, FU = m + 1 := ⟨2999, rfl⟩
        rw [hm]
        unfold T_X3_heir_L73
        rw [ro_gf, c1, if_neg (show ¬ nI 0 = nI 1 by decide), ite_self]
    · refine ok_q0 (r := nI (hbN (G 13) (G 13 11 0) 0 4294967287)) J ?_ (fun τ => ?_)
      · unfold T_X2_heir T_X2_strongestBag
        rw [c0, if_neg (by decide), c1, if_pos (by decide), if_neg (by decide), c9, m9, x2_hbL J (G 13 11 0) 0 4294967287 FU (by omega) (FU_gt (by omega)) (Or.inl rfl)]
        rfl
      · unfold T_X3_heir
        simp only [d0, d1, e5, e_cV, d9, m9, eq00, eq10, if_true, if_false]
        obtain ⟨m, hm⟩ : ∃ m, FU = m + 1 := ⟨2999, rfl⟩
        have e : T_X3_heir_L21 FU (nI 1) (nI 4294967287) (nI 0) (Ro τ 13 (G 13)) = T_X3_heir_L73 FU (nI 1) (nI 4294967287) 0 (Ro τ 13 (G 13)) := by
          rw [hm]
          unfold T_X3_heir_L21
          rw [ro_gf, c0, if_neg (show ¬ nI 1 = nI 0 by decide), ite_self, ← hm]
        rw [e, c0, x3_hbL W (G 13 11 0) 0 4294967287 FU (by omega) (FU_gt (by omega)) (Or.inl rfl)]
  · refine ok_ref 2 J (by decide) ?_ (fun τ => ?_)
    · unfold T_X2_heir T_X2_heir_j9
      rw [cI_id, c0, c1, c2]
      rcases ho with q | ⟨q1, q2⟩
      · rw [if_pos q]
      · rw [if_neg q1, if_neg q2]
    · unfold T_X3_heir
      simp only [d0, d1, d2, e5, e_cV, cI_id, eq00, eq10, if_true, if_false]
end Q8
