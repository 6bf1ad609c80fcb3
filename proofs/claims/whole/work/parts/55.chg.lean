/-! wants, put, colonel, gives; judge -/
section Rem
variable {G : GG} {P : Nat → Nat} {C S F X D S0 : SS} {τ : TT}
theorem wo3 (G : GG) {a b : Nat} (X Y Z : SS) (h : a ≠ b) : wo (wo (wo G a X) b Y) a Z = wo (wo G b Y) a Z := by
  rw [wo_comm G X Y h, wo_wo]
theorem ok_rem {cls ref : ST → Option (Int32 × ST)} {tail rtail : ST → Option (Int32 × ST)} {r : Int32} (J : Inv G P) (h1 : cls (nV G, P) = cV (T_X2_remember (nV G, P)) tail) (h2 : ∀ τ, ref (Ro τ 13 (G 13)) = cV (T_X3_keepsBack (Ro τ 13 (G 13))) rtail) (h : ∀ G1 P1 F, G1 1 = G 1 → (∀ f i, 1 ≤ f → f ≤ 14 → F f i = G 13 f i) → TK F → SB (G 1) F → ∃ N U, tail (nV G1, P1) = some (r, (nV (wo G1 1 N), P1)) ∧ (∀ τ, rtail (Ro τ 13 F) = some (r, Ro τ 13 U)) ∧ SB N U ∧ TK U ∧ (∀ g j, (g = 0 ∨ 15 ≤ g) → U g j = F g j)) : OKm G P cls ref := by
  obtain ⟨G1, P1, F, r1, r2, r3, r4, r5⟩ := remember_ok J
  have e1 : wo G1 13 (G 13) 1 = G 1 := by rw [wo_ne _ _ (by decide)]; exact r4
  have s1 : SB (G 1) F := by
    have := r3.sb
    rw [wo_ne _ _ (by decide), wo_at, r4] at this
    exact this
  have s2 : TK F := by
    have := r3.tk
    rw [wo_at] at this
    exact this
  obtain ⟨N, U, t1, t2, t3, t4, t5⟩ := h (wo G1 13 (G 13)) P1 F e1 r5 s2 s1
  refine ok_gen (G1 := wo (wo G1 13 (G 13)) 1 N) (P1 := P1) (F := U) (r := r) ?_ ?_ (fun τ => ?_) ?_
  · rw [h1, r1]
    exact t1
  · rw [wo_ne _ _ (by decide), wo_at]
  · rw [h2, r2]
    exact t2 τ
  · have k := inv_now r3 t3 t4 (fun g j q => by rw [wo_at]; exact t5 g j q)
    rw [wo3 _ _ _ _ (by decide)] at k ⊢
    exact k
theorem ok_wants (J : Inv G P) (a0 a1 : Int32) : OKm G P (T_X2_wants a0 a1) (T_X3_wants a0 a1) := by
  have h12 := J.wf.nl
  rcases chk_bearer J a0 with ⟨l, hl, rfl, e1, e2⟩ | ⟨e1, e2⟩
  · rcases chk_place a1 with ⟨v, hv, rfl, e3, e4⟩ | ⟨e3, e4⟩
    · have E1 := e1 (G 2)
      rw [← Ro_G] at E1
      refine ok_rem (r := nI (G 13 7 l)) J (tail := fun σ6 => ld σ6 1 9 5 (nI l) (fun x7 => sd σ6 1 9 5 (nI l) (nI v) (fun σ8 => some (x7, σ8)))) (rtail := fun σ6 => ld σ6 13 7 5 (nI l) (fun x7 => sd σ6 13 7 5 (nI l) (nI v) (fun σ8 => some (x7, σ8)))) ?_ (fun τ => ?_) (fun G1 P1 F g1 g2 g3 g4 => ⟨up (G 1) 9 l v, up F 7 l v, ?_, fun τ => ?_, g4.upg (by unfold PW; omega), g3.upg (by omega), fun g j q => up_ne _ (by omega)⟩)
      · unfold T_X2_wants
        simp only [E1, e3, e_cV, d0, eq10, if_false]
      · unfold T_X3_wants
        simp only [e2, e4, e_cV, d0, eq10, if_false]
      · show ld (nV G1, P1) 1 9 5 (nI l) _ = _
        rw [Ro_G (o := 1), ro_ld (by omega) (by omega), ro_sd (by omega) (by omega), g1, (J.sb.bea hl).2.1]
        rfl
      · show ld (Ro τ 13 F) 13 7 5 (nI l) _ = _
        rw [ro_ld (by omega) (by omega), ro_sd (by omega) (by omega), g2 _ _ (by decide) (by decide)]
    · refine ok_ref 1 J (by decide) ?_ (fun τ => ?_)
      · unfold T_X2_wants T_X2_wants_j18; simp (disch := omega) only [e1, e3, cI_id, Nat.reduceEqDiff, Nat.reduceLeDiff, reduceIte, eq_self, ng1, ng2, ng3, ng4, ng6, rx_gf, rx_ld, rx_pf, rx_sd, m9, NN_lt, lt_NN, NN_le, le_NN, if_true, if_false, n_mod, q_dec, ro_gf, ro_ld, ro_sd, ro_pf, e_vl, e_cV, e_cI, nI_add, q_mul, q_sub, q_rem, q_div, q_eq, q_lt, q_le, c0, c1, c2, c3, c4, c5, c6, c7, c8, c9, c10, c99]
      · unfold T_X3_wants T_X3_wants_j15; simp (disch := omega) only [e2, e4, cI_id, Nat.reduceEqDiff, Nat.reduceLeDiff, reduceIte, eq_self, ng1, ng2, ng3, ng4, ng6, rx_gf, rx_ld, rx_pf, rx_sd, m9, NN_lt, lt_NN, NN_le, le_NN, if_true, if_false, n_mod, q_dec, ro_gf, ro_ld, ro_sd, ro_pf, e_vl, e_cV, e_cI, nI_add, q_mul, q_sub, q_rem, q_div, q_eq, q_lt, q_le, c0, c1, c2, c3, c4, c5, c6, c7, c8, c9, c10, c99]
  · refine ok_ref 1 J (by decide) ?_ (fun τ => ?_)
    · unfold T_X2_wants T_X2_wants_j18; simp (disch := omega) only [e1, cI_id, Nat.reduceEqDiff, Nat.reduceLeDiff, reduceIte, eq_self, ng1, ng2, ng3, ng4, ng6, rx_gf, rx_ld, rx_pf, rx_sd, m9, NN_lt, lt_NN, NN_le, le_NN, if_true, if_false, n_mod, q_dec, ro_gf, ro_ld, ro_sd, ro_pf, e_vl, e_cV, e_cI, nI_add, q_mul, q_sub, q_rem, q_div, q_eq, q_lt, q_le, c0, c1, c2, c3, c4, c5, c6, c7, c8, c9, c10, c99]
    · unfold T_X3_wants T_X3_wants_j15; simp (disch := omega) only [e2, cI_id, Nat.reduceEqDiff, Nat.reduceLeDiff, reduceIte, eq_self, ng1, ng2, ng3, ng4, ng6, rx_gf, rx_ld, rx_pf, rx_sd, m9, NN_lt, lt_NN, NN_le, le_NN, if_true, if_false, n_mod, q_dec, ro_gf, ro_ld, ro_sd, ro_pf, e_vl, e_cV, e_cI, nI_add, q_mul, q_sub, q_rem, q_div, q_eq, q_lt, q_le, c0, c1, c2, c3, c4, c5, c6, c7, c8, c9, c10, c99]
theorem ok_put (J : Inv G P) (a0 a1 : Int32) : OKm G P (T_X2_put a0 a1) (T_X3_put a0 a1) := by
  have h12 := J.wf.nl
  rcases chk_bearer J a0 with ⟨l, hl, rfl, e1, e2⟩ | ⟨e1, e2⟩
  · rcases chk_place a1 with ⟨v, hv, rfl, e3, e4⟩ | ⟨e3, e4⟩
    · have E1 := e1 (G 2)
      rw [← Ro_G] at E1
      refine ok_rem (r := nI (G 13 8 l)) J (tail := fun σ6 => ld σ6 1 10 5 (nI l) (fun x7 => sd σ6 1 10 5 (nI l) (nI v) (fun σ8 => some (x7, σ8)))) (rtail := fun σ6 => ld σ6 13 8 5 (nI l) (fun x7 => sd σ6 13 8 5 (nI l) (nI v) (fun σ8 => some (x7, σ8)))) ?_ (fun τ => ?_) (fun G1 P1 F g1 g2 g3 g4 => ⟨up (G 1) 10 l v, up F 8 l v, ?_, fun τ => ?_, g4.upg (by unfold PW; omega), g3.upg (by omega), fun g j q => up_ne _ (by omega)⟩)
      · unfold T_X2_put
        simp only [E1, e3, e_cV, d0, eq10, if_false]
      · unfold T_X3_put
        simp only [e2, e4, e_cV, d0, eq10, if_false]
      · show ld (nV G1, P1) 1 10 5 (nI l) _ = _
        rw [Ro_G (o := 1), ro_ld (by omega) (by omega), ro_sd (by omega) (by omega), g1, (J.sb.bea hl).2.2.1]
        rfl
      · show ld (Ro τ 13 F) 13 8 5 (nI l) _ = _
        rw [ro_ld (by omega) (by omega), ro_sd (by omega) (by omega), g2 _ _ (by decide) (by decide)]
    · refine ok_ref 1 J (by decide) ?_ (fun τ => ?_)
      · unfold T_X2_put T_X2_put_j18; simp (disch := omega) only [e1, e3, cI_id, Nat.reduceEqDiff, Nat.reduceLeDiff, reduceIte, eq_self, ng1, ng2, ng3, ng4, ng6, rx_gf, rx_ld, rx_pf, rx_sd, m9, NN_lt, lt_NN, NN_le, le_NN, if_true, if_false, n_mod, q_dec, ro_gf, ro_ld, ro_sd, ro_pf, e_vl, e_cV, e_cI, nI_add, q_mul, q_sub, q_rem, q_div, q_eq, q_lt, q_le, c0, c1, c2, c3, c4, c5, c6, c7, c8, c9, c10, c99]
      · unfold T_X3_put T_X3_put_j15; simp (disch := omega) only [e2, e4, cI_id, Nat.reduceEqDiff, Nat.reduceLeDiff, reduceIte, eq_self, ng1, ng2, ng3, ng4, ng6, rx_gf, rx_ld, rx_pf, rx_sd, m9, NN_lt, lt_NN, NN_le, le_NN, if_true, if_false, n_mod, q_dec, ro_gf, ro_ld, ro_sd, ro_pf, e_vl, e_cV, e_cI, nI_add, q_mul, q_sub, q_rem, q_div, q_eq, q_lt, q_le, c0, c1, c2, c3, c4, c5, c6, c7, c8, c9, c10, c99]
  · refine ok_ref 1 J (by decide) ?_ (fun τ => ?_)
    · unfold T_X2_put T_X2_put_j18; simp (disch := omega) only [e1, cI_id, Nat.reduceEqDiff, Nat.reduceLeDiff, reduceIte, eq_self, ng1, ng2, ng3, ng4, ng6, rx_gf, rx_ld, rx_pf, rx_sd, m9, NN_lt, lt_NN, NN_le, le_NN, if_true, if_false, n_mod, q_dec, ro_gf, ro_ld, ro_sd, ro_pf, e_vl, e_cV, e_cI, nI_add, q_mul, q_sub, q_rem, q_div, q_eq, q_lt, q_le, c0, c1, c2, c3, c4, c5, c6, c7, c8, c9, c10, c99]
    · unfold T_X3_put T_X3_put_j15; simp (disch := omega) only [e2, cI_id, Nat.reduceEqDiff, Nat.reduceLeDiff, reduceIte, eq_self, ng1, ng2, ng3, ng4, ng6, rx_gf, rx_ld, rx_pf, rx_sd, m9, NN_lt, lt_NN, NN_le, le_NN, if_true, if_false, n_mod, q_dec, ro_gf, ro_ld, ro_sd, ro_pf, e_vl, e_cV, e_cI, nI_add, q_mul, q_sub, q_rem, q_div, q_eq, q_lt, q_le, c0, c1, c2, c3, c4, c5, c6, c7, c8, c9, c10, c99]
theorem ok_colonel (J : Inv G P) (a0 : Int32) : OKm G P (T_X2_colonel a0) (T_X3_colonel a0) := by
  rcases chk_place a0 with ⟨v, hv, rfl, e3, e4⟩ | ⟨e3, e4⟩
  · refine ok_rem (r := nI (G 13 14 0)) J (tail := fun σ4 => gf σ4 1 13 (fun x5 => pf σ4 1 13 (nI v) (fun σ6 => some (x5, σ6)))) (rtail := fun σ4 => gf σ4 13 14 (fun x5 => pf σ4 13 14 (nI v) (fun σ6 => some (x5, σ6)))) ?_ (fun τ => ?_) (fun G1 P1 F g1 g2 g3 g4 => ⟨up (G 1) 13 0 v, up F 14 0 v, ?_, fun τ => ?_, g4.up14, g3.upg (by omega), fun g j q => up_ne _ (by omega)⟩)
    · unfold T_X2_colonel
      simp only [e3, e_cV, d0, eq10, if_false]
    · unfold T_X3_colonel
      simp only [e4, e_cV, d0, eq10, if_false]
    · show gf (nV G1, P1) 1 13 _ = _
      rw [Ro_G (o := 1), ro_gf, ro_pf, g1, J.sb.1.2.2.1]
      rfl
    · show gf (Ro τ 13 F) 13 14 _ = _
      rw [ro_gf, ro_pf, g2 _ _ (by decide) (by decide)]
  · refine ok_ref 1 J (by decide) ?_ (fun τ => ?_)
    · unfold T_X2_colonel; simp (disch := omega) only [e3, cI_id, Nat.reduceEqDiff, Nat.reduceLeDiff, reduceIte, eq_self, ng1, ng2, ng3, ng4, ng6, rx_gf, rx_ld, rx_pf, rx_sd, m9, NN_lt, lt_NN, NN_le, le_NN, if_true, if_false, n_mod, q_dec, ro_gf, ro_ld, ro_sd, ro_pf, e_vl, e_cV, e_cI, nI_add, q_mul, q_sub, q_rem, q_div, q_eq, q_lt, q_le, c0, c1, c2, c3, c4, c5, c6, c7, c8, c9, c10, c99]
    · unfold T_X3_colonel; simp (disch := omega) only [e4, cI_id, Nat.reduceEqDiff, Nat.reduceLeDiff, reduceIte, eq_self, ng1, ng2, ng3, ng4, ng6, rx_gf, rx_ld, rx_pf, rx_sd, m9, NN_lt, lt_NN, NN_le, le_NN, if_true, if_false, n_mod, q_dec, ro_gf, ro_ld, ro_sd, ro_pf, e_vl, e_cV, e_cI, nI_add, q_mul, q_sub, q_rem, q_div, q_eq, q_lt, q_le, c0, c1, c2, c3, c4, c5, c6, c7, c8, c9, c10, c99]
theorem x3_bagNow (W : WF S) {l : Nat} (hl : l < S 12 0) : T_X3_bagNow (Ro τ 13 S) (nI l) = some (nI (kN (S 9 l))) := by
  have h12 := W.nl
  have h11 := W.nb
  have w := (W.bea hl).2.2.2.1
  unfold T_X3_bagNow kN
  rw [ro_ld (by omega) (by omega), c9, m9]
  by_cases e : S 9 l = 9
  · rw [if_pos e, if_pos (by rw [q_le (by omega) (by omega)]; omega)]
  · rw [if_neg e, if_neg (by rw [q_le (by omega) (by omega)]; omega), ro_ld (by omega) (by omega)]
theorem ok_gives (J : Inv G P) (a0 a1 : Int32) : OKm G P (T_X2_gives a0 a1) (T_X3_gives a0 a1) := by
  have h12 := J.wf.nl
  have h11 := J.wf.nb
  rcases chk_bag J a0 with ⟨b, hb, rfl, e1, e2⟩ | ⟨e1, e2⟩
  · rcases chk_bearer J a1 with ⟨l, hl, rfl, e3, e4⟩ | ⟨e3, e4⟩
    · have E1 := e1 (G 2)
      have E3 := e3 (G 2)
      rw [← Ro_G] at E1 E3
      refine ok_rem (r := nI (kN (G 13 9 l))) J (tail := fun σ6 => ld σ6 1 11 5 (nI l) (fun x7 => cI (T_X0_hand 1 (nI b) (nI l) σ6) (fun x8 σ9 => some (x7, σ9)))) (rtail := fun σ6 => cV (T_X3_bagNow σ6 (nI l)) (fun x7 => cV (T_X3_givesHer (nI b) (nI l) σ6) (fun σ10 => some (x7, σ10)))) ?_ (fun τ => ?_) (fun G1 P1 F g1 g2 g3 g4 => ?_)
      · unfold T_X2_gives
        simp only [E1, E3, e_cV, d0, eq10, if_false]
      · unfold T_X3_gives
        simp only [e2, e4, e_cV, d0, eq10, if_false]
      · have f11 : F 11 0 = G 13 11 0 := g2 _ _ (by decide) (by decide)
        have f12 : F 12 0 = G 13 12 0 := g2 _ _ (by decide) (by decide)
        obtain ⟨N, n1, n2, -⟩ := x0_hand (τ := (G1, P1)) (o := 1) g3.1 g4 (b := b) (l := l) (by omega) (by omega)
        refine ⟨N, gvS F b l, ?_, fun τ => ?_, n2, ?_, fun g j q => gv_oth (by omega)⟩
        · show ld (nV G1, P1) 1 11 5 (nI l) _ = _
          rw [Ro_G (o := 1), ro_ld (by omega) (by omega), g1, n1, (J.sb.bea hl).2.2.2.1]
          rfl
        · show cV (T_X3_bagNow (Ro τ 13 F) (nI l)) _ = _
          rw [x3_bagNow g3.1 (by omega)]
          simp only [e_cV]
          rw [x3_give g3.1 (by omega) (by omega), g2 _ _ (by decide) (by decide)]
          rfl
        · exact ⟨g3.1.gv (by omega) (by omega), by rw [gv_oth (by decide)]; exact g3.2.1, by rw [gv_oth (by decide)]; exact g3.2.2⟩
    · refine ok_ref 1 J (by decide) ?_ (fun τ => ?_)
      · unfold T_X2_gives T_X2_gives_j22; simp (disch := omega) only [e1, e3, cI_id, Nat.reduceEqDiff, Nat.reduceLeDiff, reduceIte, eq_self, ng1, ng2, ng3, ng4, ng6, rx_gf, rx_ld, rx_pf, rx_sd, m9, NN_lt, lt_NN, NN_le, le_NN, if_true, if_false, n_mod, q_dec, ro_gf, ro_ld, ro_sd, ro_pf, e_vl, e_cV, e_cI, nI_add, q_mul, q_sub, q_rem, q_div, q_eq, q_lt, q_le, c0, c1, c2, c3, c4, c5, c6, c7, c8, c9, c10, c99]
      · unfold T_X3_gives T_X3_gives_j16; simp (disch := omega) only [e2, e4, cI_id, Nat.reduceEqDiff, Nat.reduceLeDiff, reduceIte, eq_self, ng1, ng2, ng3, ng4, ng6, rx_gf, rx_ld, rx_pf, rx_sd, m9, NN_lt, lt_NN, NN_le, le_NN, if_true, if_false, n_mod, q_dec, ro_gf, ro_ld, ro_sd, ro_pf, e_vl, e_cV, e_cI, nI_add, q_mul, q_sub, q_rem, q_div, q_eq, q_lt, q_le, c0, c1, c2, c3, c4, c5, c6, c7, c8, c9, c10, c99]
  · refine ok_ref 1 J (by decide) ?_ (fun τ => ?_)
    · unfold T_X2_gives T_X2_gives_j22; simp (disch := omega) only [e1, cI_id, Nat.reduceEqDiff, Nat.reduceLeDiff, reduceIte, eq_self, ng1, ng2, ng3, ng4, ng6, rx_gf, rx_ld, rx_pf, rx_sd, m9, NN_lt, lt_NN, NN_le, le_NN, if_true, if_false, n_mod, q_dec, ro_gf, ro_ld, ro_sd, ro_pf, e_vl, e_cV, e_cI, nI_add, q_mul, q_sub, q_rem, q_div, q_eq, q_lt, q_le, c0, c1, c2, c3, c4, c5, c6, c7, c8, c9, c10, c99]
    · unfold T_X3_gives T_X3_gives_j16; simp (disch := omega) only [e2, cI_id, Nat.reduceEqDiff, Nat.reduceLeDiff, reduceIte, eq_self, ng1, ng2, ng3, ng4, ng6, rx_gf, rx_ld, rx_pf, rx_sd, m9, NN_lt, lt_NN, NN_le, le_NN, if_true, if_false, n_mod, q_dec, ro_gf, ro_ld, ro_sd, ro_pf, e_vl, e_cV, e_cI, nI_add, q_mul, q_sub, q_rem, q_div, q_eq, q_lt, q_le, c0, c1, c2, c3, c4, c5, c6, c7, c8, c9, c10, c99]
/-! the row looked at -/
def unt (ρ : Nat → Nat) (l : Nat) : Nat → Nat → SS → Nat
  | 0, _, _ => 61
  | r + 1, k, X => if ρ k = X 8 l then unt ρ l r (k + 1) (hourS X 9) else k
theorem unt_le (ρ : Nat → Nat) (l : Nat) : ∀ r k X, k + r ≤ 12 → (unt ρ l r k X = 61 ∨ unt ρ l r k X < 12)
  | 0, k, X, _ => Or.inl rfl
  | r + 1, k, X, h => by
    unfold unt
    split
    · exact unt_le ρ l r (k + 1) (hourS X 9) (by omega)
    · exact Or.inr (by omega)
theorem x2_unt {ρ : Nat → Nat} {N l : Nat} (h9 : τ.1 0 9 0 = N) (hN : N ≤ 12) (h8 : ∀ k, k < N → τ.1 0 8 k = ρ k ∧ ρ k ≤ 99) : ∀ r k X C n, SC D C X → C 18 0 = kN 9 → WF X → l < X 12 0 → X 13 0 + r ≤ 5000 → k + r = N → r < n → ∃ C', T_X2_firstUntrue_L2 n (nI l) (nI k) (Ro τ 2 C) = some (nI (kF (unt ρ l r k X)), Ro τ 2 C') := by
  intro r
  induction r with
  | zero =>
    intro k X C n R ha W hx hh h hn
    obtain ⟨n, rfl⟩ := fu_one hn
    refine ⟨C, ?_⟩
    unfold T_X2_firstUntrue_L2
    rw [rx_gf (by decide), h9, if_pos (by rw [q_le (by omega) (by omega)]; omega), c9, m9]
    rfl
  | succ r ih =>
    intro k X C n R ha W hx hh h hn
    obtain ⟨n, rfl⟩ := fu_one (by omega : 0 < n)
    have h12 := W.nl
    have w := W.bea hx
    have hk := h8 k (by omega)
    obtain ⟨C1, g1, g2, g3⟩ := x0_hour1 (τ := τ) (o := 2) (by decide : 9 ≤ 9) W (by omega) R ha
    obtain ⟨C', i1⟩ := ih (k + 1) (hourS X 9) C1 n g2 g3 (W.hour 9) (by rw [hourS_keeps (by decide)]; exact hx) (by rw [hourS_13]; omega) (by omega) (by omega)
    unfold T_X2_firstUntrue_L2 unt
    rw [rx_gf (by decide), h9, if_neg (by rw [q_le (by omega) (by omega)]; omega), rx_ld (by decide) (by omega) (by omega), hk.1, ro_ld (by omega) (by omega), (R.bea hx).2.2.1, i_eq (by omega) (by omega)]
    by_cases e : ρ k = X 8 l
    · refine ⟨C', ?_⟩
      rw [if_pos e, if_pos e, c1, g1]
      simp only [e_cV, e_vl, nI_add]
      exact i1
    · refine ⟨C, ?_⟩
      rw [if_neg e, if_neg e, kF_ne (by omega)]
theorem x3_unt_fin {l N k' : Nat} (hk' : k' < 1000) (hN : N ≤ 12) {k n : Nat} (hk : k < 1000) (τ : TT) : T_X3_judge_L34 (n + 1) (nI l) (nI N) (nI k') (nI k) (Ro τ 13 X) = some (nI k', Ro τ 13 (gtS 2 X)) := by
  unfold T_X3_judge_L34 T_X3_judge_j79
  rw [x3_forgets, c0]
  simp (disch := omega) only [e_cV, q_le, Nat.zero_le, if_true, ite_self]
theorem x3_unt {ρ : Nat → Nat} {N l : Nat} (hN : N ≤ 12) : ∀ r k X n, OS 180 S0 X → WF X → (∀ j, j < N → X 34 j = ρ j ∧ ρ j ≤ 99) → l < X 12 0 → X 13 0 + r ≤ 5000 → k + r = N → r + 1 < n → ∃ F, (∀ τ, T_X3_judge_L34 n (nI l) (nI N) (nI 4294967287) (nI k) (Ro τ 13 X) = some (nI (kF (unt ρ l r k X)), Ro τ 13 (gtS 2 F))) ∧ OS 180 S0 F := by
  intro r
  induction r with
  | zero =>
    intro k X n hO W h8 hx hh h hn
    obtain ⟨n, rfl⟩ := fu_one (by omega : 0 < n)
    refine ⟨X, fun τ => ?_, hO⟩
    unfold T_X3_judge_L34 T_X3_judge_j79
    rw [if_pos (by rw [q_le (by omega) (by omega)]; omega), x3_forgets]
    rfl
  | succ r ih =>
    intro k X n hO W h8 hx hh h hn
    obtain ⟨n, rfl⟩ := fu_one (by omega : 0 < n)
    obtain ⟨n2, rfl⟩ := fu_one (by omega : 0 < n)
    have h12 := W.nl
    have w := W.bea hx
    have hk := h8 k (by omega)
    have g1 := fun τ => x3_h (τ := τ) W (by omega) hO.2.2
    obtain ⟨F, i1, i2⟩ := ih (k + 1) (hourS X 9) (n2 + 1) (hO.hour 9) (W.hour 9) (fun j hj => by rw [hourS_keeps (by decide)]; exact h8 j hj) (by rw [hourS_keeps (by decide)]; exact hx) (by rw [hourS_13]; omega) (by omega) (by omega)
    unfold T_X3_judge_L34 T_X3_judge_j67 unt
    by_cases e : ρ k = X 8 l
    · refine ⟨F, fun τ => ?_, i2⟩
      rw [if_neg (by rw [q_le (by omega) (by omega)]; omega), c0, if_neg (by rw [le_NN (by omega)]; exact id), ro_ld (by omega) (by omega), ro_ld (by omega) (by omega), hk.1, i_eq (by omega) (by omega), if_pos e.symm, if_pos e, g1]
      simp only [e_cV, e_vl]
      rw [c1, nI_add, c9, m9]
      exact i1 τ
    · refine ⟨hourS X 9, fun τ => ?_, hO.hour 9⟩
      rw [if_neg (by rw [q_le (by omega) (by omega)]; omega), c0, if_neg (by rw [le_NN (by omega)]; exact id), ro_ld (by omega) (by omega), ro_ld (by omega) (by omega), hk.1, i_eq (by omega) (by omega), if_neg (fun q => e q.symm), if_neg e, g1]
      simp only [e_cV, e_vl]
      rw [c1, nI_add, x3_unt_fin (by omega) hN (by omega), kF_ne (by omega)]
theorem ok_judge (J : Inv G P) (a0 : Int32) : OKm G P (T_X2_judge a0) (T_X3_judge a0) := by
  have K := J.tk
  obtain ⟨l1, l2, l3⟩ := J.pR
  rcases chk_bearer J a0 with ⟨l, hl, rfl, e1, e2⟩ | ⟨e1, e2⟩
  · have nE : Eqs (G 13) (up (G 13) 35 0 0) := fun f i q => up_ne _ (by have := q.2.1; omega)
    have KY : TK (up (G 13) 35 0 0) := ⟨K.1.upT (by decide), by rw [up_ne _ (by omega)]; exact K.2.1, by rw [up_ne _ (by omega)]; exact K.2.2⟩
    have K2 := KY.keep (w := 2)
    have h13 := K2.2.1
    have e12 : kpS 2 (up (G 13) 35 0 0) 12 0 = G 13 12 0 := by rw [kpS_oth (by decide), up_ne _ (by omega)]
    obtain ⟨C1, t1, t2⟩ := x2_think2 (G := G) (P := P) (G 2)
    have R1 := t2.sc K2.1 ((nE.trans Eqs.keep).sb K.1 J.sb)
    obtain ⟨C2, f1⟩ := x2_unt (τ := (G, P)) (ρ := G 0 8) (N := G 0 9 0) (l := l) rfl l2 (fun k hk => ⟨rfl, (l3 k hk).2⟩) (G 0 9 0) 0 (kpS 2 (up (G 13) 35 0 0)) C1 FU R1 t2.2.2.2.2.2 K2.1 (by omega) (by omega) (by omega) (FU_gt (by omega))
    obtain ⟨F, f2, f3⟩ := x3_unt (S0 := kpS 2 (up (G 13) 35 0 0)) (ρ := G 0 8) (N := G 0 9 0) (l := l) l2 (G 0 9 0) 0 (kpS 2 (up (G 13) 35 0 0)) FU (OS.keep KY.2.2) K2.1 (fun j hj => by rw [kpS_oth (by decide), up_ne _ (by omega)]; exact ⟨(l3 j hj).1.symm, (l3 j hj).2⟩) (by omega) (by omega) (by omega) (FU_gt (by omega))
    have kr := (KR.think KY.2.2 f3).mono (b := 60) (by decide)
    refine ok_gen (G1 := wo (wo G 0 (up (G 0) 9 0 0)) 2 C2) (P1 := P) (F := gtS 2 F) (r := nI (kF (unt (G 0 8) l (G 0 9 0) 0 (kpS 2 (up (G 13) 35 0 0))))) ?_ ?_ (fun τ => ?_) ?_
    · have E1 := e1 (G 2)
      rw [Ro_G (o := 2)]
      unfold T_X2_judge T_X2_firstUntrue
      simp only [E1, t1, e_cV, d0, eq10, if_false]
      rw [f1]
      simp only [e_cI]
      rw [rx_pf (by decide)]
      rfl
    · rw [wo_ne _ _ (by decide), wo_ne _ _ (by decide)]
    · unfold T_X3_judge
      simp only [e2, e_cV, d0, eq10, if_false]
      rw [ro_gf, ro_pf, x3_thinks, ← l1]
      simp only [e_cV]
      rw [c9, m9]
      exact f2 τ
    · have J2 := inv_clear J
      have k2 := J2.query (G' := wo (wo (wo G 0 (up (G 0) 9 0 0)) 2 C2) 13 (up (G 13) 35 0 0)) (F := gtS 2 F) ⟨fun f i h => ?_, fun o h0 h2 _ => ?_⟩ (by rw [wo_at]; exact kr)
      · rw [wo_wo] at k2
        exact k2
      · rw [wo_ne (wo (wo G 0 (up (G 0) 9 0 0)) 2 C2) _ (show (0 : Nat) ≠ 13 by decide), wo_ne (wo G 0 (up (G 0) 9 0 0)) C2 (show (0 : Nat) ≠ 2 by decide), wo_ne (wo G 0 (up (G 0) 9 0 0)) (up (G 13) 35 0 0) (show (0 : Nat) ≠ 13 by decide)]
      · by_cases e : o = 13
        · rw [e, wo_at, wo_at]
        · rw [wo_ne _ _ e, wo_ne _ _ h2, wo_ne _ _ e]
  · refine ok_ref 1 J (by decide) ?_ (fun τ => ?_)
    · unfold T_X2_judge; simp (disch := omega) only [e1, cI_id, Nat.reduceEqDiff, Nat.reduceLeDiff, reduceIte, eq_self, ng1, ng2, ng3, ng4, ng6, rx_gf, rx_ld, rx_pf, rx_sd, m9, NN_lt, lt_NN, NN_le, le_NN, if_true, if_false, n_mod, q_dec, ro_gf, ro_ld, ro_sd, ro_pf, e_vl, e_cV, e_cI, nI_add, q_mul, q_sub, q_rem, q_div, q_eq, q_lt, q_le, c0, c1, c2, c3, c4, c5, c6, c7, c8, c9, c10, c99]
    · unfold T_X3_judge; simp (disch := omega) only [e2, cI_id, Nat.reduceEqDiff, Nat.reduceLeDiff, reduceIte, eq_self, ng1, ng2, ng3, ng4, ng6, rx_gf, rx_ld, rx_pf, rx_sd, m9, NN_lt, lt_NN, NN_le, le_NN, if_true, if_false, n_mod, q_dec, ro_gf, ro_ld, ro_sd, ro_pf, e_vl, e_cV, e_cI, nI_add, q_mul, q_sub, q_rem, q_div, q_eq, q_lt, q_le, c0, c1, c2, c3, c4, c5, c6, c7, c8, c9, c10, c99]
end Rem
