/-! THE QUESTIONS, fourth lot: a field changed for a thought; hours counted -/
/-- Z is S but for what the thought changed, and for the place f i, which is set back at the end -/
def KU (a : Nat) (S : SS) (f i : Nat) (Z : SS) : Prop := KR a S (up Z f i (S f i))
section Q4
variable {G : GG} {P : Nat → Nat} {C A S Y Z F : SS} {τ : TT} {a : Nat}
theorem KU.start {f i : Nat} (h : S 30 0 ≤ 9) : KU a S f i S := by
  unfold KU
  rw [up_self]
  exact KR.refl h
theorem KU.step {f i x : Nat} (k : KU a S f i Z) (hf : 1 ≤ f ∧ f ≤ 14) (h : KR a (up Z f i x) F) : KU a S f i F := by
  unfold KU at k ⊢
  have h2 : KR a (up (up Z f i (S f i)) f i x) F := by rw [up_up]; exact h
  have h3 := h2.back hf
  rw [up_at] at h3
  exact k.trans h3
theorem KU.mono {b f i : Nat} (k : KU a S f i Z) (hb : b ≤ a) : KU b S f i Z := KR.mono k hb
theorem KU.tk {f i x : Nat} (k : KU a S f i Z) (K : TK S) (h : (f = 1 ∧ x ≤ 5) ∨ (f = 2 ∧ x ≤ 9) ∨ (f = 3 ∧ x ≤ 9) ∨ (f = 6 ∧ x ≤ 9) ∨ (f = 7 ∧ x ≤ 9) ∨ (f = 8 ∧ x ≤ 9) ∨ (f = 14 ∧ x ≤ 9)) : TK (up Z f i x) := by
  have k2 : TK (up Z f i (S f i)) := KR.tk k K
  have := k2.upg h (i := i)
  rw [up_up] at this
  exact this
theorem KU.sb {f g i x : Nat} (k : KU a S f i Z) (K : TK S) (R : SB A S) (t : CQ A C) (h : PW g f) : SB (up C g i x) (up Z f i x) := by
  have k2 : KR a S (up Z f i (S f i)) := k
  have := (t.sb (k2.tk K).1 (k2.1.sb K.1 R)).upg h (i := i) (x := x)
  rw [up_up] at this
  exact this
theorem KU.sb14 {x : Nat} (k : KU a S 14 0 Z) (K : TK S) (R : SB A S) (t : CQ A C) : SB (up C 13 0 x) (up Z 14 0 x) := by
  have k2 : KR a S (up Z 14 0 (S 14 0)) := k
  have := (t.sb (k2.tk K).1 (k2.1.sb K.1 R)).up14 (x := x)
  rw [up_up] at this
  exact this
theorem KU.at {f i g j x : Nat} (k : KU a S f i Z) (h : InR g j) (hn : ¬ (g = f ∧ j = i)) : up Z f i x g j = S g j := by
  have k2 : KR a S (up Z f i (S f i)) := k
  have := k2.1 g j h
  rw [up_ne _ hn] at this ⊢
  exact this
theorem now_hasBearer (J : Inv G P) {l : Nat} (hl : l = 9 ∨ l < G 13 12 0) : T_X0_hasBearer 1 (Ro (G, P) 2 C) (nI (kN l)) = some (if l = 9 then nI 0 else nI 1) := by
  have h7 : G 1 7 0 = G 13 12 0 := J.sb.1.2.1
  have h12 := J.wf.nl
  rw [Ro_sw, x0_hasBearer (by omega) (by omega)]
theorem bestHabit_loop (J : Inv G P) {b l v : Nat} (hb : b < G 13 11 0) (hl : l < G 13 12 0) (hv : v ≤ 9) : ∀ r h n bs s C Z, h + r = 10 → r < n → KU 60 (G 13) 3 b Z → s ≤ 61 → ((bs = 4294967287 ∧ s = 61) ∨ (bs < 10 ∧ s < 61)) → ∃ res C' F, T_X2_bestHabit_L59 n (nI b) (nI v) (nI l) (nI bs) (nI s) (nI h) (Ro (G, P) 2 C) = some (res, Ro (G, P) 2 C') ∧ (∀ τ, T_X3_bestHabit_L55 n (nI b) (nI v) (nI l) (nI (G 13 3 b)) (nI bs) (nI (kF s)) (nI h) (Ro τ 13 Z) = some (res, Ro τ 13 F)) ∧ KR 60 (G 13) F := by
  have K := J.tk
  have h12 := K.1.nl
  have h11 := K.1.nb
  intro r
  induction r with
  | zero =>
    intro h n bs s C Z hr hn k hs hbs
    obtain ⟨n, rfl⟩ := fu_one hn
    refine ⟨nI bs, C, up Z 3 b (G 13 3 b), ?_, fun τ => ?_, k⟩
    · unfold T_X2_bestHabit_L59
      rw [c10, if_pos (by rw [q_le (by omega) (by omega)]; omega)]
    · unfold T_X3_bestHabit_L55
      rw [c10, if_pos (by rw [q_le (by omega) (by omega)]; omega), ro_sd (by omega) (by omega)]
  | succ r ih =>
    intro h n bs s C Z hr hn k hs hbs
    obtain ⟨n, rfl⟩ := fu_one (by omega : 0 < n)
    have KZ : TK (up Z 3 b h) := k.tk K (by omega)
    have e12 : up Z 3 b h 12 0 = G 13 12 0 := k.at (inr (by decide) (by omega)) (by omega)
    obtain ⟨C1, t1, t2⟩ := x2_think2 (G := G) (P := P) C
    obtain ⟨C3, f1⟩ := cls_fA (τ := (G, P)) (k.sb (x := h) K J.sb t2 (g := 3) (by unfold PW; omega)) (t2.t0.up (by decide)) KZ (l := l) (v := v) (m := s) (by omega) hv hs
    obtain ⟨F, f2, f3⟩ := ref_fA KZ (l := l) (v := v) (m := 60) (by omega) hv (Nat.le_refl _)
    have f2 : ∀ τ, T_X3_comesTo (nI l) (nI v) (nI 60) (Ro τ 13 (up Z 3 b h)) = some (nI (kF (fAt (up Z 3 b h) l v 61)), Ro τ 13 F) := f2
    have k2 : KU 60 (G 13) 3 b F := k.step (by decide) (f3.mono (by decide))
    rw [fAt_short hs] at f1
    have hle := fAt_le (Y := up Z 3 b h) (l := l) (v := v) (Nat.le_refl 61)
    have hcls : T_X2_bestHabit_L59 (n + 1) (nI b) (nI v) (nI l) (nI bs) (nI s) (nI h) (Ro (G, P) 2 C) = if fAt (up Z 3 b h) l v 61 < s then T_X2_bestHabit_L59 n (nI b) (nI v) (nI l) (nI h) (nI (fAt (up Z 3 b h) l v 61)) (nI (h + 1)) (Ro (G, P) 2 C3) else T_X2_bestHabit_L59 n (nI b) (nI v) (nI l) (nI bs) (nI s) (nI (h + 1)) (Ro (G, P) 2 C3) := by
      conv => lhs; unfold T_X2_bestHabit_L59
      rw [c10, if_neg (by rw [q_le (by omega) (by omega)]; omega), t1]
      simp only [e_cV]
      rw [ro_sd (by omega) (by omega), c1, f1]
      simp only [e_cI, e_vl, nI_add]
      by_cases e : fAt (up Z 3 b h) l v 61 < s
      · rw [if_pos e, if_pos e, if_neg (by rw [q_le (by omega) (by omega)]; omega)]
      · rw [if_neg e, if_neg e, if_pos (by rw [q_le (by omega) (by omega)]; omega)]
    have href : ∀ τ, T_X3_bestHabit_L55 (n + 1) (nI b) (nI v) (nI l) (nI (G 13 3 b)) (nI bs) (nI (kF s)) (nI h) (Ro τ 13 Z) = if fAt (up Z 3 b h) l v 61 < s then T_X3_bestHabit_L55 n (nI b) (nI v) (nI l) (nI (G 13 3 b)) (nI h) (nI (kF (fAt (up Z 3 b h) l v 61))) (nI (h + 1)) (Ro τ 13 F) else T_X3_bestHabit_L55 n (nI b) (nI v) (nI l) (nI (G 13 3 b)) (nI bs) (nI (kF s)) (nI (h + 1)) (Ro τ 13 F) := by
      intro τ
      conv => lhs; unfold T_X3_bestHabit_L55 T_X3_bestHabit_j100
      rw [c10, if_neg (by rw [q_le (by omega) (by omega)]; omega), ro_sd (by omega) (by omega), c60, f2]
      simp only [e_cI, e_vl, nI_add, c0, c1]
      by_cases e0 : fAt (up Z 3 b h) l v 61 = 61
      · rw [if_pos ((kF_neg (by omega)).mpr e0), if_neg (by omega)]
      · rw [if_neg (fun q => e0 ((kF_neg (by omega)).mp q))]
        rcases hbs with ⟨q1, q2⟩ | ⟨q1, q2⟩
        · rw [if_pos (by rw [q1]; exact NN_neg), if_pos (by omega)]
        · rw [if_neg (by rw [q_lt (by omega) (by omega)]; omega), kF_ne (by omega), kF_ne q2, i_lt (by omega) (by omega)]
    by_cases e : fAt (up Z 3 b h) l v 61 < s
    · obtain ⟨res, C', F', i1, i2, i3⟩ := ih (h + 1) n h (fAt (up Z 3 b h) l v 61) C3 F (by omega) (by omega) k2 (by omega) (by omega)
      refine ⟨res, C', F', ?_, fun τ => ?_, i3⟩
      · rw [hcls, if_pos e]; exact i1
      · rw [href, if_pos e]; exact i2 τ
    · obtain ⟨res, C', F', i1, i2, i3⟩ := ih (h + 1) n bs s C3 F (by omega) (by omega) k2 hs hbs
      refine ⟨res, C', F', ?_, fun τ => ?_, i3⟩
      · rw [hcls, if_neg e]; exact i1
      · rw [href, if_neg e]; exact i2 τ
theorem ok_bestHabit (J : Inv G P) (a0 a1 : Int32) : OKm G P (T_X2_bestHabit a0 a1) (T_X3_bestHabit a0 a1) := by
  have K := J.tk
  have h11 := K.1.nb
  rcases chk_bag J a0 with ⟨b, hb, rfl, e1, e2⟩ | ⟨e1, e2⟩
  · rcases chk_place a1 with ⟨v, hv, rfl, e3, e4⟩ | ⟨e3, e4⟩
    · have rb := J.sb.bag hb
      have hwl := who_le K.1 b
      have hw := now_hasBearer (C := G 2) J (who_cases K.1 b)
      by_cases e : who (G 13) b = 9
      · refine ok_q0 (r := nI NN) J ?_ (fun τ => ?_)
        · unfold T_X2_bestHabit
          simp only [e1, e3, e_cV, c0, eq00, eq10, if_true, if_false]
          rw [rx_ld (by decide) (by omega) (by omega)]
          show cV (T_X0_hasBearer 1 _ (nI (G 1 6 b))) _ = _
          rw [rb.2.2.2.2.2, hw, if_pos e]
          simp only [e_cV, if_true]
          rfl
        · unfold T_X3_bestHabit
          simp only [e2, e4, e_cV, c0, eq00, eq10, if_true, if_false]
          rw [x3_who K.1 (by omega), e]
          simp only [e_cV, c9, if_true]
          rfl
      · have hl := who_lt K.1 (b := b) (by omega)
        obtain ⟨res, C', F, g1, g2, g3⟩ := bestHabit_loop J hb hl.1 hv 10 0 FU 4294967287 61 (G 2) (G 13) rfl (FU_gt (by omega)) (KU.start K.2.2) (by decide) (Or.inl ⟨rfl, rfl⟩)
        refine ok_q2 (r := res) (C := C') J ?_ (fun τ => ⟨F, ?_, g3⟩)
        · unfold T_X2_bestHabit
          simp only [e1, e3, e_cV, c0, eq00, eq10, if_true, if_false]
          rw [rx_ld (by decide) (by omega) (by omega)]
          show cV (T_X0_hasBearer 1 _ (nI (G 1 6 b))) _ = _
          rw [rb.2.2.2.2.2, hw, if_neg e]
          simp only [e_cV, eq10, if_false]
          rw [rb.2.2.2.2.2, kN_ne e]
          exact g1
        · unfold T_X3_bestHabit
          simp only [e2, e4, e_cV, c0, eq00, eq10, if_true, if_false]
          rw [x3_who K.1 (by omega)]
          simp only [e_cV]
          rw [c9, if_neg (by rw [q_eq (by omega) (by omega)]; exact e), ro_ld (by omega) (by omega)]
          exact g2 τ
    · refine ok_ref 1 J (by decide) ?_ (fun τ => ?_)
      · unfold T_X2_bestHabit T_X2_bestHabit_j18; simp (disch := omega) only [e1, e3, cI_id, Nat.reduceEqDiff, Nat.reduceLeDiff, reduceIte, eq_self, ng1, ng2, ng3, ng4, ng6, rx_gf, rx_ld, rx_pf, rx_sd, m9, NN_lt, lt_NN, NN_le, le_NN, if_true, if_false, n_mod, q_dec, ro_gf, ro_ld, ro_sd, ro_pf, e_vl, e_cV, e_cI, nI_add, q_mul, q_sub, q_rem, q_div, q_eq, q_lt, q_le, c0, c1, c2, c3, c4, c5, c6, c7, c8, c9, c10, c99]
      · unfold T_X3_bestHabit T_X3_bestHabit_j15; simp (disch := omega) only [e2, e4, cI_id, Nat.reduceEqDiff, Nat.reduceLeDiff, reduceIte, eq_self, ng1, ng2, ng3, ng4, ng6, rx_gf, rx_ld, rx_pf, rx_sd, m9, NN_lt, lt_NN, NN_le, le_NN, if_true, if_false, n_mod, q_dec, ro_gf, ro_ld, ro_sd, ro_pf, e_vl, e_cV, e_cI, nI_add, q_mul, q_sub, q_rem, q_div, q_eq, q_lt, q_le, c0, c1, c2, c3, c4, c5, c6, c7, c8, c9, c10, c99]
  · refine ok_ref 1 J (by decide) ?_ (fun τ => ?_)
    · unfold T_X2_bestHabit T_X2_bestHabit_j18; simp (disch := omega) only [e1, cI_id, Nat.reduceEqDiff, Nat.reduceLeDiff, reduceIte, eq_self, ng1, ng2, ng3, ng4, ng6, rx_gf, rx_ld, rx_pf, rx_sd, m9, NN_lt, lt_NN, NN_le, le_NN, if_true, if_false, n_mod, q_dec, ro_gf, ro_ld, ro_sd, ro_pf, e_vl, e_cV, e_cI, nI_add, q_mul, q_sub, q_rem, q_div, q_eq, q_lt, q_le, c0, c1, c2, c3, c4, c5, c6, c7, c8, c9, c10, c99]
    · unfold T_X3_bestHabit T_X3_bestHabit_j15; simp (disch := omega) only [e2, cI_id, Nat.reduceEqDiff, Nat.reduceLeDiff, reduceIte, eq_self, ng1, ng2, ng3, ng4, ng6, rx_gf, rx_ld, rx_pf, rx_sd, m9, NN_lt, lt_NN, NN_le, le_NN, if_true, if_false, n_mod, q_dec, ro_gf, ro_ld, ro_sd, ro_pf, e_vl, e_cV, e_cI, nI_add, q_mul, q_sub, q_rem, q_div, q_eq, q_lt, q_le, c0, c1, c2, c3, c4, c5, c6, c7, c8, c9, c10, c99]
/-! the greatest figure that does not lead -/
def dnN (p : Nat → Bool) : Nat → Nat
  | 0 => 4294967287
  | k + 1 => if p k = true then k else dnN p k
def lastN (p : Nat → Bool) : Nat → Nat → Nat → Nat
  | 0, _, x => x
  | r + 1, v, x => lastN p r (v + 1) (if p v = true then v else x)
theorem dn_last (p : Nat → Bool) : dnN p 10 = lastN p 10 0 4294967287 := rfl
theorem tamedC_loop (J : Inv G P) {b l : Nat} (hb : b < G 13 11 0) (hl : l < G 13 12 0) {C1 : SS} (t : CQ (G 1) C1) : ∀ k n x, k ≤ 10 → k < n → ∃ C', T_X2_tamed_L48 n (nI b) (nI l) (nI k - nI 1) (Ro (G, P) 2 (up C1 2 b x)) = some (nI (dnN (fun v => decide (¬ led (up (G 13) 2 b v) l)) k), Ro (G, P) 2 C') := by
  have K := J.tk
  have h12 := K.1.nl
  have h11 := K.1.nb
  intro k
  induction k with
  | zero =>
    intro n x hk hn
    obtain ⟨n, rfl⟩ := fu_one hn
    refine ⟨up C1 2 b x, ?_⟩
    unfold T_X2_tamed_L48
    rw [c0, if_pos ((pred_lt (by omega) (by omega)).mpr (by omega))]
    rfl
  | succ k ih =>
    intro n x hk hn
    obtain ⟨n, rfl⟩ := fu_one (by omega : 0 < n)
    obtain ⟨C', i1⟩ := ih n k (by omega) (by omega)
    have R := (t.sb K.1 J.sb).upg (f := 2) (g := 2) (i := b) (x := k) (by unfold PW; omega)
    have e := x0_isLed (τ := (G, P)) (o := 2) (K.1.upg (by omega)) ((t.t0.up (f := 2) (i := b) (x := k) (by decide)).sc R) (l := l) (by rw [up_ne _ (by omega)]; exact hl)
    unfold T_X2_tamed_L48 dnN
    rw [c0, q_dec0, if_neg (by rw [q_lt (by omega) (by omega)]; omega), ro_sd (by omega) (by omega), up_up, e]
    simp only [e_cV]
    by_cases h : led (up (G 13) 2 b k) l
    · refine ⟨C', ?_⟩
      rw [if_pos h, if_neg (by decide), if_neg (by show ¬ (decide _ = true); rw [decide_eq_true_iff]; exact fun q => q h), e_vl]
      have e2 : nI k + -1 = nI k - nI 1 := by rw [← c1, Int32.sub_eq_add_neg]
      rw [e2]
      exact i1
    · refine ⟨up C1 2 b k, ?_⟩
      rw [if_neg h, if_pos (by trivial), if_pos (decide_eq_true h)]
theorem tamedR_loop (J : Inv G P) {b l : Nat} (hb : b < G 13 11 0) (hl : l < G 13 12 0) : ∀ r v n x y, v + r = 10 → r < n → ∀ τ, T_X3_tamed_L43 n (nI b) (nI l) (nI (G 13 2 b)) (nI x) (nI v) (Ro τ 13 (up (G 13) 2 b y)) = some (nI (lastN (fun v => decide (¬ led (up (G 13) 2 b v) l)) r v x), Ro τ 13 (G 13)) := by
  have K := J.tk
  have h12 := K.1.nl
  have h11 := K.1.nb
  intro r
  induction r with
  | zero =>
    intro v n x y h hn τ
    obtain ⟨n, rfl⟩ := fu_one hn
    unfold T_X3_tamed_L43
    rw [c10, if_pos (by rw [q_le (by omega) (by omega)]; omega), ro_sd (by omega) (by omega), up_up, up_self]
    rfl
  | succ r ih =>
    intro v n x y h hn τ
    obtain ⟨n, rfl⟩ := fu_one (by omega : 0 < n)
    have e := x3_isLed (τ := τ) (K.1.upg (g := 2) (i := b) (x := v) (by omega)) (l := l) (by rw [up_ne _ (by omega)]; exact hl)
    have i1 := fun x => ih (v + 1) n x v (by omega) (by omega) τ
    unfold T_X3_tamed_L43 lastN
    rw [c10, if_neg (by rw [q_le (by omega) (by omega)]; omega), ro_sd (by omega) (by omega), up_up, e]
    simp only [e_cV, e_vl, c0, c1, nI_add]
    by_cases h : led (up (G 13) 2 b v) l
    · rw [if_pos h, if_neg (by decide), if_neg (by show ¬ (decide _ = true); rw [decide_eq_true_iff]; exact fun q => q h)]
      exact i1 x
    · rw [if_neg h, if_pos (by trivial), if_pos (decide_eq_true h)]
      exact i1 v
theorem ok_tamed (J : Inv G P) (a0 : Int32) : OKm G P (T_X2_tamed a0) (T_X3_tamed a0) := by
  have K := J.tk
  have h11 := K.1.nb
  rcases chk_bag J a0 with ⟨b, hb, rfl, e1, e2⟩ | ⟨e1, e2⟩
  · have rb := J.sb.bag hb
    have hwl := who_le K.1 b
    have hw := now_hasBearer (C := G 2) J (who_cases K.1 b)
    by_cases e : who (G 13) b = 9
    · refine ok_q0 (r := nI NN) J ?_ (fun τ => ?_)
      · unfold T_X2_tamed
        simp only [e1, e_cV, c0, eq00, eq10, if_true, if_false]
        rw [rx_ld (by decide) (by omega) (by omega)]
        show cV (T_X0_hasBearer 1 _ (nI (G 1 6 b))) _ = _
        rw [rb.2.2.2.2.2, hw, if_pos e]
        simp only [e_cV, if_true]
        rfl
      · unfold T_X3_tamed
        simp only [e2, e_cV, c0, eq00, eq10, if_true, if_false]
        rw [x3_who K.1 (by omega), e]
        simp only [e_cV, c9, if_true]
        rfl
    · have hl := who_lt K.1 (b := b) (by omega)
      obtain ⟨C1, t1, t2⟩ := x2_think2 (G := G) (P := P) (G 2)
      obtain ⟨C2, f1⟩ := tamedC_loop J hb hl.1 t2 10 FU (C1 2 b) (Nat.le_refl _) (FU_gt (by decide))
      refine ok_q2 (r := nI (dnN (fun v => decide (¬ led (up (G 13) 2 b v) (who (G 13) b))) 10)) (C := C2) J ?_ (fun τ => ⟨G 13, ?_, KR.refl K.2.2⟩)
      · unfold T_X2_tamed
        simp only [e1, e_cV, c0, eq00, eq10, if_true, if_false]
        rw [rx_ld (by decide) (by omega) (by omega)]
        show cV (T_X0_hasBearer 1 _ (nI (G 1 6 b))) _ = _
        rw [rb.2.2.2.2.2, hw, if_neg e]
        simp only [e_cV, eq10, if_false]
        rw [rb.2.2.2.2.2, kN_ne e, t1]
        simp only [e_cV]
        rw [up_self, show nI 10 - nI 1 = 9 by decide] at f1
        exact f1
      · have g := tamedR_loop J hb hl.1 10 0 FU 4294967287 (G 13 2 b) rfl (FU_gt (by decide)) τ
        rw [up_self] at g
        unfold T_X3_tamed
        simp only [e2, e_cV, c0, eq00, eq10, if_true, if_false]
        rw [x3_who K.1 (by omega)]
        simp only [e_cV]
        rw [c9, if_neg (by rw [q_eq (by omega) (by omega)]; exact e), ro_ld (by omega) (by omega), dn_last]
        exact g
  · refine ok_ref 1 J (by decide) ?_ (fun τ => ?_)
    · unfold T_X2_tamed; simp (disch := omega) only [e1, cI_id, Nat.reduceEqDiff, Nat.reduceLeDiff, reduceIte, eq_self, ng1, ng2, ng3, ng4, ng6, rx_gf, rx_ld, rx_pf, rx_sd, m9, NN_lt, lt_NN, NN_le, le_NN, if_true, if_false, n_mod, q_dec, ro_gf, ro_ld, ro_sd, ro_pf, e_vl, e_cV, e_cI, nI_add, q_mul, q_sub, q_rem, q_div, q_eq, q_lt, q_le, c0, c1, c2, c3, c4, c5, c6, c7, c8, c9, c10, c99]
    · unfold T_X3_tamed; simp (disch := omega) only [e2, cI_id, Nat.reduceEqDiff, Nat.reduceLeDiff, reduceIte, eq_self, ng1, ng2, ng3, ng4, ng6, rx_gf, rx_ld, rx_pf, rx_sd, m9, NN_lt, lt_NN, NN_le, le_NN, if_true, if_false, n_mod, q_dec, ro_gf, ro_ld, ro_sd, ro_pf, e_vl, e_cV, e_cI, nI_add, q_mul, q_sub, q_rem, q_div, q_eq, q_lt, q_le, c0, c1, c2, c3, c4, c5, c6, c7, c8, c9, c10, c99]
end Q4
