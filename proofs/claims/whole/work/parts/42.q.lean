/-! THE QUESTIONS, first lot -/
theorem l60 : nI 60 = nI 61 - nI 1 := by decide
theorem out_ne {a : Int32} {n : Nat} (h : (¬ a < nI 0 ∧ nI n ≤ a) ∨ a < nI 0) (hn : n < 1000) {j : Nat} (hj : j < n) : (a = nI j) ↔ False := by
  constructor
  · rintro rfl
    rcases h with ⟨-, h⟩ | h
    · rw [q_le (by omega) (by omega)] at h; omega
    · rw [q_lt (by omega) (by omega)] at h; omega
  · exact fun q => q.elim
theorem pull_congr {S T : SS} (h : ∀ f i, f < 15 → S f i = T f i) (b : Nat) : pull S b = pull T b := by
  have hw : ∀ c, who S c = who T c := fun c => who_congr (fun i => h 9 i (by decide)) (h 12 0 (by decide))
  unfold pull
  rw [h 1 b (by decide), h 2 b (by decide), h 5 b (by decide), h 4 b (by decide), hw]
theorem SB.bag {C S : SS} (R : SB C S) {b : Nat} (hb : b < S 11 0) : C 1 b = S 1 b ∧ C 2 b = S 2 b ∧ C 3 b = S 3 b ∧ C 4 b = kN (S 4 b) ∧ C 5 b = S 5 b ∧ C 6 b = kN (who S b) := R.2.1 b hb
theorem SB.bea {C S : SS} (R : SB C S) {l : Nat} (hl : l < S 12 0) : C 8 l = S 6 l ∧ C 9 l = S 7 l ∧ C 10 l = S 8 l ∧ C 11 l = kN (S 9 l) ∧ C 12 l = S 10 l := R.2.2 l hl
theorem SB.now {C S : SS} (R : SB C S) (W : WF S) : ∃ S', SC (fun _ _ => 0) C S' ∧ WF S' ∧ (∀ f i, f < 15 → S' f i = S f i) := by
  refine ⟨fun f i => if f = 27 then C 15 i else if f = 28 then C 16 i else if f = 29 then C 17 i else S f i, ?_, ?_, fun f i h => ?_⟩
  · have hw : ∀ b, who (fun f i => if f = 27 then C 15 i else if f = 28 then C 16 i else if f = 29 then C 17 i else S f i) b = who S b := fun b => who_congr (fun i => rfl) rfl
    refine ⟨R.1, fun b hb => ?_, R.2.2, fun l hl => ⟨rfl, rfl⟩, rfl⟩
    rw [hw]
    exact R.2.1 b hb
  · exact W
  · show (if f = 27 then _ else if f = 28 then _ else if f = 29 then _ else _) = _
    rw [if_neg (by omega), if_neg (by omega), if_neg (by omega)]
theorem Ro_sw {G : GG} {P : Nat → Nat} {C : SS} : Ro (G, P) 2 C = Ro (wo G 2 C, P) 1 (G 1) := by
  have := Ro_self (wo G 2 C, P) 1
  have e : wo G 2 C 1 = G 1 := wo_ne G C (by decide)
  simp only [e] at this
  rw [this]
  rfl
section Now
variable {G : GG} {P : Nat → Nat} {C : SS}
theorem now_pull (J : Inv G P) {b : Nat} (hb : b < G 13 11 0) : T_X0_pullOf 1 (Ro (G, P) 2 C) (nI b) = some (nI (pull (G 13) b)) := by
  obtain ⟨S', R, W, e⟩ := J.sb.now J.wf
  rw [Ro_sw, x0_pull W R (by rw [e 11 0 (by decide)]; exact hb), pull_congr e]
theorem now_led (J : Inv G P) {l : Nat} (hl : l < G 13 12 0) : T_X0_isLed 1 (Ro (G, P) 2 C) (nI l) = some (nI (if led (G 13) l then 1 else 0)) := by
  obtain ⟨S', R, W, e⟩ := J.sb.now J.wf
  rw [Ro_sw, x0_isLed W R (by rw [e 12 0 (by decide)]; exact hl)]
  unfold led
  rw [pull_congr e, e 9 l (by decide), e 6 l (by decide)]
theorem x2_think (C : SS) : ∃ C', T_X2_think (Ro (G, P) 2 C) = some (Ro (G, P) 2 C') ∧ (∀ X, SB (G 1) X → WF X → SC X C' X) ∧ C' 18 0 = kN 9 := by
  obtain ⟨C', h1, h2⟩ := x0_copy (τ := (G, P)) (o := 2) (o0 := 1) (C := C) (by decide)
  refine ⟨C', ?_, fun X R W => h2.sc W R, h2.2.2.2.2.2⟩
  unfold T_X2_think
  rw [h1]
  rfl
theorem x2_orNone {σ : ST} {x : Nat} (h : x ≤ 61) : T_X2_orNone σ (nI x) = some (nI (kF x)) := by
  unfold T_X2_orNone kF
  rw [c60, c9, m9]
  by_cases e : x = 61
  · rw [if_pos e, if_neg (by rw [q_le (by omega) (by omega)]; omega)]
  · rw [if_neg e, if_pos (by rw [q_le (by omega) (by omega)]; omega)]
theorem ok_bagOf (J : Inv G P) (a0 a1 : Int32) : OKm G P (T_X2_bagOf a0 a1) (T_X3_bagOf a0 a1) := by
  have W := J.wf
  have h11 := W.nb
  rcases chk_bag J a0 with ⟨b, hb, rfl, e1, e2⟩ | ⟨e1, e2⟩
  · have w := W.bag hb
    have r := J.sb.bag hb
    have hw := who_le W b
    rcases in_or_out a1 7 (by decide) with ⟨x, hx, rfl⟩ | ho
    · have hx' : x = 0 ∨ x = 1 ∨ x = 2 ∨ x = 3 ∨ x = 4 ∨ x = 5 ∨ x = 6 := by omega
      have rs : ∀ (r : Int32), T_X2_bagOf (nI b) (nI x) (Ro (G, P) 2 (G 2)) = some (r, Ro (G, P) 2 (G 2)) → (∀ τ, T_X3_bagOf (nI b) (nI x) (Ro τ 13 (G 13)) = some (r, Ro τ 13 (G 13))) → OKm G P (T_X2_bagOf (nI b) (nI x)) (T_X3_bagOf (nI b) (nI x)) := fun r h1 h2 => ok_q0 J h1 h2
      rcases hx' with rfl | rfl | rfl | rfl | rfl | rfl | rfl
      · refine rs (nI (G 13 1 b)) ?_ (fun τ => ?_)
        · unfold T_X2_bagOf; simp (disch := omega) only [e1, r.1, Nat.reduceEqDiff, Nat.reduceLeDiff, reduceIte, eq_self, ng1, ng2, ng3, ng4, ng6, rx_gf, rx_ld, rx_pf, rx_sd, m9, NN_lt, lt_NN, NN_le, le_NN, if_true, if_false, n_mod, q_dec, ro_gf, ro_ld, ro_sd, ro_pf, e_vl, e_cV, e_cI, nI_add, q_mul, q_sub, q_rem, q_div, q_eq, q_lt, q_le, c0, c1, c2, c3, c4, c5, c6, c7, c8, c9, c10, c99]
        · unfold T_X3_bagOf; simp (disch := omega) only [e2, Nat.reduceEqDiff, Nat.reduceLeDiff, reduceIte, eq_self, ng1, ng2, ng3, ng4, ng6, rx_gf, rx_ld, rx_pf, rx_sd, m9, NN_lt, lt_NN, NN_le, le_NN, if_true, if_false, n_mod, q_dec, ro_gf, ro_ld, ro_sd, ro_pf, e_vl, e_cV, e_cI, nI_add, q_mul, q_sub, q_rem, q_div, q_eq, q_lt, q_le, c0, c1, c2, c3, c4, c5, c6, c7, c8, c9, c10, c99]
      · refine rs (nI (G 13 2 b)) ?_ (fun τ => ?_)
        · unfold T_X2_bagOf; simp (disch := omega) only [e1, r.2.1, Nat.reduceEqDiff, Nat.reduceLeDiff, reduceIte, eq_self, ng1, ng2, ng3, ng4, ng6, rx_gf, rx_ld, rx_pf, rx_sd, m9, NN_lt, lt_NN, NN_le, le_NN, if_true, if_false, n_mod, q_dec, ro_gf, ro_ld, ro_sd, ro_pf, e_vl, e_cV, e_cI, nI_add, q_mul, q_sub, q_rem, q_div, q_eq, q_lt, q_le, c0, c1, c2, c3, c4, c5, c6, c7, c8, c9, c10, c99]
        · unfold T_X3_bagOf; simp (disch := omega) only [e2, Nat.reduceEqDiff, Nat.reduceLeDiff, reduceIte, eq_self, ng1, ng2, ng3, ng4, ng6, rx_gf, rx_ld, rx_pf, rx_sd, m9, NN_lt, lt_NN, NN_le, le_NN, if_true, if_false, n_mod, q_dec, ro_gf, ro_ld, ro_sd, ro_pf, e_vl, e_cV, e_cI, nI_add, q_mul, q_sub, q_rem, q_div, q_eq, q_lt, q_le, c0, c1, c2, c3, c4, c5, c6, c7, c8, c9, c10, c99]
      · refine rs (nI (G 13 3 b)) ?_ (fun τ => ?_)
        · unfold T_X2_bagOf; simp (disch := omega) only [e1, r.2.2.1, Nat.reduceEqDiff, Nat.reduceLeDiff, reduceIte, eq_self, ng1, ng2, ng3, ng4, ng6, rx_gf, rx_ld, rx_pf, rx_sd, m9, NN_lt, lt_NN, NN_le, le_NN, if_true, if_false, n_mod, q_dec, ro_gf, ro_ld, ro_sd, ro_pf, e_vl, e_cV, e_cI, nI_add, q_mul, q_sub, q_rem, q_div, q_eq, q_lt, q_le, c0, c1, c2, c3, c4, c5, c6, c7, c8, c9, c10, c99]
        · unfold T_X3_bagOf; simp (disch := omega) only [e2, Nat.reduceEqDiff, Nat.reduceLeDiff, reduceIte, eq_self, ng1, ng2, ng3, ng4, ng6, rx_gf, rx_ld, rx_pf, rx_sd, m9, NN_lt, lt_NN, NN_le, le_NN, if_true, if_false, n_mod, q_dec, ro_gf, ro_ld, ro_sd, ro_pf, e_vl, e_cV, e_cI, nI_add, q_mul, q_sub, q_rem, q_div, q_eq, q_lt, q_le, c0, c1, c2, c3, c4, c5, c6, c7, c8, c9, c10, c99]
      · refine rs (nI (kN (G 13 4 b))) ?_ (fun τ => ?_)
        · unfold T_X2_bagOf; simp (disch := omega) only [e1, r.2.2.2.1, Nat.reduceEqDiff, Nat.reduceLeDiff, reduceIte, eq_self, ng1, ng2, ng3, ng4, ng6, rx_gf, rx_ld, rx_pf, rx_sd, m9, NN_lt, lt_NN, NN_le, le_NN, if_true, if_false, n_mod, q_dec, ro_gf, ro_ld, ro_sd, ro_pf, e_vl, e_cV, e_cI, nI_add, q_mul, q_sub, q_rem, q_div, q_eq, q_lt, q_le, c0, c1, c2, c3, c4, c5, c6, c7, c8, c9, c10, c99]
        · unfold T_X3_bagOf kN; simp (disch := omega) only [e2, Nat.reduceEqDiff, Nat.reduceLeDiff, reduceIte, eq_self, ng1, ng2, ng3, ng4, ng6, rx_gf, rx_ld, rx_pf, rx_sd, m9, NN_lt, lt_NN, NN_le, le_NN, if_true, if_false, n_mod, q_dec, ro_gf, ro_ld, ro_sd, ro_pf, e_vl, e_cV, e_cI, nI_add, q_mul, q_sub, q_rem, q_div, q_eq, q_lt, q_le, c0, c1, c2, c3, c4, c5, c6, c7, c8, c9, c10, c99]
          by_cases e : G 13 4 b = 9
          · rw [if_pos e, if_pos (by omega)]
          · rw [if_neg e, if_neg (by omega)]
      · refine rs (nI (G 13 5 b)) ?_ (fun τ => ?_)
        · unfold T_X2_bagOf; simp (disch := omega) only [e1, r.2.2.2.2.1, Nat.reduceEqDiff, Nat.reduceLeDiff, reduceIte, eq_self, ng1, ng2, ng3, ng4, ng6, rx_gf, rx_ld, rx_pf, rx_sd, m9, NN_lt, lt_NN, NN_le, le_NN, if_true, if_false, n_mod, q_dec, ro_gf, ro_ld, ro_sd, ro_pf, e_vl, e_cV, e_cI, nI_add, q_mul, q_sub, q_rem, q_div, q_eq, q_lt, q_le, c0, c1, c2, c3, c4, c5, c6, c7, c8, c9, c10, c99]
        · unfold T_X3_bagOf; simp (disch := omega) only [e2, Nat.reduceEqDiff, Nat.reduceLeDiff, reduceIte, eq_self, ng1, ng2, ng3, ng4, ng6, rx_gf, rx_ld, rx_pf, rx_sd, m9, NN_lt, lt_NN, NN_le, le_NN, if_true, if_false, n_mod, q_dec, ro_gf, ro_ld, ro_sd, ro_pf, e_vl, e_cV, e_cI, nI_add, q_mul, q_sub, q_rem, q_div, q_eq, q_lt, q_le, c0, c1, c2, c3, c4, c5, c6, c7, c8, c9, c10, c99]
      · refine rs (nI (kN (who (G 13) b))) ?_ (fun τ => ?_)
        · unfold T_X2_bagOf; simp (disch := omega) only [e1, r.2.2.2.2.2, Nat.reduceEqDiff, Nat.reduceLeDiff, reduceIte, eq_self, ng1, ng2, ng3, ng4, ng6, rx_gf, rx_ld, rx_pf, rx_sd, m9, NN_lt, lt_NN, NN_le, le_NN, if_true, if_false, n_mod, q_dec, ro_gf, ro_ld, ro_sd, ro_pf, e_vl, e_cV, e_cI, nI_add, q_mul, q_sub, q_rem, q_div, q_eq, q_lt, q_le, c0, c1, c2, c3, c4, c5, c6, c7, c8, c9, c10, c99]
        · unfold T_X3_bagOf kN; simp (disch := omega) only [e2, x3_who W (show b ≤ 9 by omega), Nat.reduceEqDiff, Nat.reduceLeDiff, reduceIte, eq_self, ng1, ng2, ng3, ng4, ng6, rx_gf, rx_ld, rx_pf, rx_sd, m9, NN_lt, lt_NN, NN_le, le_NN, if_true, if_false, n_mod, q_dec, ro_gf, ro_ld, ro_sd, ro_pf, e_vl, e_cV, e_cI, nI_add, q_mul, q_sub, q_rem, q_div, q_eq, q_lt, q_le, c0, c1, c2, c3, c4, c5, c6, c7, c8, c9, c10, c99]
          by_cases e : who (G 13) b = 9
          · rw [if_pos e, if_pos (by omega)]
          · rw [if_neg e, if_neg (by omega)]
      · refine rs (nI (pull (G 13) b)) ?_ (fun τ => ?_)
        · unfold T_X2_bagOf; simp (disch := omega) only [e1, now_pull J hb, Nat.reduceEqDiff, Nat.reduceLeDiff, reduceIte, eq_self, ng1, ng2, ng3, ng4, ng6, rx_gf, rx_ld, rx_pf, rx_sd, m9, NN_lt, lt_NN, NN_le, le_NN, if_true, if_false, n_mod, q_dec, ro_gf, ro_ld, ro_sd, ro_pf, e_vl, e_cV, e_cI, nI_add, q_mul, q_sub, q_rem, q_div, q_eq, q_lt, q_le, c0, c1, c2, c3, c4, c5, c6, c7, c8, c9, c10, c99]
        · unfold T_X3_bagOf; simp (disch := omega) only [e2, x3_pull W hb, Nat.reduceEqDiff, Nat.reduceLeDiff, reduceIte, eq_self, ng1, ng2, ng3, ng4, ng6, rx_gf, rx_ld, rx_pf, rx_sd, m9, NN_lt, lt_NN, NN_le, le_NN, if_true, if_false, n_mod, q_dec, ro_gf, ro_ld, ro_sd, ro_pf, e_vl, e_cV, e_cI, nI_add, q_mul, q_sub, q_rem, q_div, q_eq, q_lt, q_le, c0, c1, c2, c3, c4, c5, c6, c7, c8, c9, c10, c99]
    · refine ok_ref 2 J (by decide) ?_ (fun τ => ?_)
      · unfold T_X2_bagOf; simp (disch := omega) only [e1, out_ne ho, cI_id, Nat.reduceEqDiff, Nat.reduceLeDiff, reduceIte, eq_self, ng1, ng2, ng3, ng4, ng6, rx_gf, rx_ld, rx_pf, rx_sd, m9, NN_lt, lt_NN, NN_le, le_NN, if_true, if_false, n_mod, q_dec, ro_gf, ro_ld, ro_sd, ro_pf, e_vl, e_cV, e_cI, nI_add, q_mul, q_sub, q_rem, q_div, q_eq, q_lt, q_le, c0, c1, c2, c3, c4, c5, c6, c7, c8, c9, c10, c99]
      · unfold T_X3_bagOf; simp (disch := omega) only [e2, out_ne ho, cI_id, Nat.reduceEqDiff, Nat.reduceLeDiff, reduceIte, eq_self, ng1, ng2, ng3, ng4, ng6, rx_gf, rx_ld, rx_pf, rx_sd, m9, NN_lt, lt_NN, NN_le, le_NN, if_true, if_false, n_mod, q_dec, ro_gf, ro_ld, ro_sd, ro_pf, e_vl, e_cV, e_cI, nI_add, q_mul, q_sub, q_rem, q_div, q_eq, q_lt, q_le, c0, c1, c2, c3, c4, c5, c6, c7, c8, c9, c10, c99]
  · refine ok_ref 1 J (by decide) ?_ (fun τ => ?_)
    · unfold T_X2_bagOf; simp (disch := omega) only [e1, cI_id, Nat.reduceEqDiff, Nat.reduceLeDiff, reduceIte, eq_self, ng1, ng2, ng3, ng4, ng6, rx_gf, rx_ld, rx_pf, rx_sd, m9, NN_lt, lt_NN, NN_le, le_NN, if_true, if_false, n_mod, q_dec, ro_gf, ro_ld, ro_sd, ro_pf, e_vl, e_cV, e_cI, nI_add, q_mul, q_sub, q_rem, q_div, q_eq, q_lt, q_le, c0, c1, c2, c3, c4, c5, c6, c7, c8, c9, c10, c99]
    · unfold T_X3_bagOf; simp (disch := omega) only [e2, cI_id, Nat.reduceEqDiff, Nat.reduceLeDiff, reduceIte, eq_self, ng1, ng2, ng3, ng4, ng6, rx_gf, rx_ld, rx_pf, rx_sd, m9, NN_lt, lt_NN, NN_le, le_NN, if_true, if_false, n_mod, q_dec, ro_gf, ro_ld, ro_sd, ro_pf, e_vl, e_cV, e_cI, nI_add, q_mul, q_sub, q_rem, q_div, q_eq, q_lt, q_le, c0, c1, c2, c3, c4, c5, c6, c7, c8, c9, c10, c99]
theorem ok_bearerOf (J : Inv G P) (a0 a1 : Int32) : OKm G P (T_X2_bearerOf a0 a1) (T_X3_bearerOf a0 a1) := by
  have W := J.wf
  have h12 := W.nl
  have h11 := W.nb
  rcases chk_bearer J a0 with ⟨b, hb, rfl, e1, e2⟩ | ⟨e1, e2⟩
  · have w := W.bea hb
    have r := J.sb.bea hb
    rcases in_or_out a1 6 (by decide) with ⟨x, hx, rfl⟩ | ho
    · have hx' : x = 0 ∨ x = 1 ∨ x = 2 ∨ x = 3 ∨ x = 4 ∨ x = 5 := by omega
      have rs : ∀ (r : Int32), T_X2_bearerOf (nI b) (nI x) (Ro (G, P) 2 (G 2)) = some (r, Ro (G, P) 2 (G 2)) → (∀ τ, T_X3_bearerOf (nI b) (nI x) (Ro τ 13 (G 13)) = some (r, Ro τ 13 (G 13))) → OKm G P (T_X2_bearerOf (nI b) (nI x)) (T_X3_bearerOf (nI b) (nI x)) := fun r h1 h2 => ok_q0 J h1 h2
      rcases hx' with rfl | rfl | rfl | rfl | rfl | rfl
      · refine rs (nI (G 13 6 b)) ?_ (fun τ => ?_)
        · unfold T_X2_bearerOf; simp (disch := omega) only [e1, r.1, Nat.reduceEqDiff, Nat.reduceLeDiff, reduceIte, eq_self, ng1, ng2, ng3, ng4, ng6, rx_gf, rx_ld, rx_pf, rx_sd, m9, NN_lt, lt_NN, NN_le, le_NN, if_true, if_false, n_mod, q_dec, ro_gf, ro_ld, ro_sd, ro_pf, e_vl, e_cV, e_cI, nI_add, q_mul, q_sub, q_rem, q_div, q_eq, q_lt, q_le, c0, c1, c2, c3, c4, c5, c6, c7, c8, c9, c10, c99]
        · unfold T_X3_bearerOf; simp (disch := omega) only [e2, Nat.reduceEqDiff, Nat.reduceLeDiff, reduceIte, eq_self, ng1, ng2, ng3, ng4, ng6, rx_gf, rx_ld, rx_pf, rx_sd, m9, NN_lt, lt_NN, NN_le, le_NN, if_true, if_false, n_mod, q_dec, ro_gf, ro_ld, ro_sd, ro_pf, e_vl, e_cV, e_cI, nI_add, q_mul, q_sub, q_rem, q_div, q_eq, q_lt, q_le, c0, c1, c2, c3, c4, c5, c6, c7, c8, c9, c10, c99]
      · refine rs (nI (G 13 7 b)) ?_ (fun τ => ?_)
        · unfold T_X2_bearerOf; simp (disch := omega) only [e1, r.2.1, Nat.reduceEqDiff, Nat.reduceLeDiff, reduceIte, eq_self, ng1, ng2, ng3, ng4, ng6, rx_gf, rx_ld, rx_pf, rx_sd, m9, NN_lt, lt_NN, NN_le, le_NN, if_true, if_false, n_mod, q_dec, ro_gf, ro_ld, ro_sd, ro_pf, e_vl, e_cV, e_cI, nI_add, q_mul, q_sub, q_rem, q_div, q_eq, q_lt, q_le, c0, c1, c2, c3, c4, c5, c6, c7, c8, c9, c10, c99]
        · unfold T_X3_bearerOf; simp (disch := omega) only [e2, Nat.reduceEqDiff, Nat.reduceLeDiff, reduceIte, eq_self, ng1, ng2, ng3, ng4, ng6, rx_gf, rx_ld, rx_pf, rx_sd, m9, NN_lt, lt_NN, NN_le, le_NN, if_true, if_false, n_mod, q_dec, ro_gf, ro_ld, ro_sd, ro_pf, e_vl, e_cV, e_cI, nI_add, q_mul, q_sub, q_rem, q_div, q_eq, q_lt, q_le, c0, c1, c2, c3, c4, c5, c6, c7, c8, c9, c10, c99]
      · refine rs (nI (G 13 8 b)) ?_ (fun τ => ?_)
        · unfold T_X2_bearerOf; simp (disch := omega) only [e1, r.2.2.1, Nat.reduceEqDiff, Nat.reduceLeDiff, reduceIte, eq_self, ng1, ng2, ng3, ng4, ng6, rx_gf, rx_ld, rx_pf, rx_sd, m9, NN_lt, lt_NN, NN_le, le_NN, if_true, if_false, n_mod, q_dec, ro_gf, ro_ld, ro_sd, ro_pf, e_vl, e_cV, e_cI, nI_add, q_mul, q_sub, q_rem, q_div, q_eq, q_lt, q_le, c0, c1, c2, c3, c4, c5, c6, c7, c8, c9, c10, c99]
        · unfold T_X3_bearerOf; simp (disch := omega) only [e2, Nat.reduceEqDiff, Nat.reduceLeDiff, reduceIte, eq_self, ng1, ng2, ng3, ng4, ng6, rx_gf, rx_ld, rx_pf, rx_sd, m9, NN_lt, lt_NN, NN_le, le_NN, if_true, if_false, n_mod, q_dec, ro_gf, ro_ld, ro_sd, ro_pf, e_vl, e_cV, e_cI, nI_add, q_mul, q_sub, q_rem, q_div, q_eq, q_lt, q_le, c0, c1, c2, c3, c4, c5, c6, c7, c8, c9, c10, c99]
      · refine rs (nI (kN (G 13 9 b))) ?_ (fun τ => ?_)
        · unfold T_X2_bearerOf; simp (disch := omega) only [e1, r.2.2.2.1, Nat.reduceEqDiff, Nat.reduceLeDiff, reduceIte, eq_self, ng1, ng2, ng3, ng4, ng6, rx_gf, rx_ld, rx_pf, rx_sd, m9, NN_lt, lt_NN, NN_le, le_NN, if_true, if_false, n_mod, q_dec, ro_gf, ro_ld, ro_sd, ro_pf, e_vl, e_cV, e_cI, nI_add, q_mul, q_sub, q_rem, q_div, q_eq, q_lt, q_le, c0, c1, c2, c3, c4, c5, c6, c7, c8, c9, c10, c99]
        · unfold T_X3_bearerOf T_X3_bagNow kN; simp (disch := omega) only [e2, Nat.reduceEqDiff, Nat.reduceLeDiff, reduceIte, eq_self, ng1, ng2, ng3, ng4, ng6, rx_gf, rx_ld, rx_pf, rx_sd, m9, NN_lt, lt_NN, NN_le, le_NN, if_true, if_false, n_mod, q_dec, ro_gf, ro_ld, ro_sd, ro_pf, e_vl, e_cV, e_cI, nI_add, q_mul, q_sub, q_rem, q_div, q_eq, q_lt, q_le, c0, c1, c2, c3, c4, c5, c6, c7, c8, c9, c10, c99]
          by_cases e : G 13 9 b = 9
          · rw [if_pos e, if_pos (by omega)]; rfl
          · rw [if_neg e, if_neg (by omega)]; rfl
      · refine rs (nI (G 13 10 b)) ?_ (fun τ => ?_)
        · unfold T_X2_bearerOf; simp (disch := omega) only [e1, r.2.2.2.2, Nat.reduceEqDiff, Nat.reduceLeDiff, reduceIte, eq_self, ng1, ng2, ng3, ng4, ng6, rx_gf, rx_ld, rx_pf, rx_sd, m9, NN_lt, lt_NN, NN_le, le_NN, if_true, if_false, n_mod, q_dec, ro_gf, ro_ld, ro_sd, ro_pf, e_vl, e_cV, e_cI, nI_add, q_mul, q_sub, q_rem, q_div, q_eq, q_lt, q_le, c0, c1, c2, c3, c4, c5, c6, c7, c8, c9, c10, c99]
        · unfold T_X3_bearerOf; simp (disch := omega) only [e2, Nat.reduceEqDiff, Nat.reduceLeDiff, reduceIte, eq_self, ng1, ng2, ng3, ng4, ng6, rx_gf, rx_ld, rx_pf, rx_sd, m9, NN_lt, lt_NN, NN_le, le_NN, if_true, if_false, n_mod, q_dec, ro_gf, ro_ld, ro_sd, ro_pf, e_vl, e_cV, e_cI, nI_add, q_mul, q_sub, q_rem, q_div, q_eq, q_lt, q_le, c0, c1, c2, c3, c4, c5, c6, c7, c8, c9, c10, c99]
      · refine rs (nI (if led (G 13) b then 1 else 0)) ?_ (fun τ => ?_)
        · unfold T_X2_bearerOf; simp (disch := omega) only [e1, now_led J hb, Nat.reduceEqDiff, Nat.reduceLeDiff, reduceIte, eq_self, ng1, ng2, ng3, ng4, ng6, rx_gf, rx_ld, rx_pf, rx_sd, m9, NN_lt, lt_NN, NN_le, le_NN, if_true, if_false, n_mod, q_dec, ro_gf, ro_ld, ro_sd, ro_pf, e_vl, e_cV, e_cI, nI_add, q_mul, q_sub, q_rem, q_div, q_eq, q_lt, q_le, c0, c1, c2, c3, c4, c5, c6, c7, c8, c9, c10, c99]
          split <;> rfl
        · unfold T_X3_bearerOf; simp (disch := omega) only [e2, x3_isLed W hb, Nat.reduceEqDiff, Nat.reduceLeDiff, reduceIte, eq_self, ng1, ng2, ng3, ng4, ng6, rx_gf, rx_ld, rx_pf, rx_sd, m9, NN_lt, lt_NN, NN_le, le_NN, if_true, if_false, n_mod, q_dec, ro_gf, ro_ld, ro_sd, ro_pf, e_vl, e_cV, e_cI, nI_add, q_mul, q_sub, q_rem, q_div, q_eq, q_lt, q_le, c0, c1, c2, c3, c4, c5, c6, c7, c8, c9, c10, c99]
          split <;> rfl
    · refine ok_ref 2 J (by decide) ?_ (fun τ => ?_)
      · unfold T_X2_bearerOf; simp (disch := omega) only [e1, out_ne ho, cI_id, Nat.reduceEqDiff, Nat.reduceLeDiff, reduceIte, eq_self, ng1, ng2, ng3, ng4, ng6, rx_gf, rx_ld, rx_pf, rx_sd, m9, NN_lt, lt_NN, NN_le, le_NN, if_true, if_false, n_mod, q_dec, ro_gf, ro_ld, ro_sd, ro_pf, e_vl, e_cV, e_cI, nI_add, q_mul, q_sub, q_rem, q_div, q_eq, q_lt, q_le, c0, c1, c2, c3, c4, c5, c6, c7, c8, c9, c10, c99]
      · unfold T_X3_bearerOf; simp (disch := omega) only [e2, out_ne ho, cI_id, Nat.reduceEqDiff, Nat.reduceLeDiff, reduceIte, eq_self, ng1, ng2, ng3, ng4, ng6, rx_gf, rx_ld, rx_pf, rx_sd, m9, NN_lt, lt_NN, NN_le, le_NN, if_true, if_false, n_mod, q_dec, ro_gf, ro_ld, ro_sd, ro_pf, e_vl, e_cV, e_cI, nI_add, q_mul, q_sub, q_rem, q_div, q_eq, q_lt, q_le, c0, c1, c2, c3, c4, c5, c6, c7, c8, c9, c10, c99]
  · refine ok_ref 1 J (by decide) ?_ (fun τ => ?_)
    · unfold T_X2_bearerOf; simp (disch := omega) only [e1, cI_id, Nat.reduceEqDiff, Nat.reduceLeDiff, reduceIte, eq_self, ng1, ng2, ng3, ng4, ng6, rx_gf, rx_ld, rx_pf, rx_sd, m9, NN_lt, lt_NN, NN_le, le_NN, if_true, if_false, n_mod, q_dec, ro_gf, ro_ld, ro_sd, ro_pf, e_vl, e_cV, e_cI, nI_add, q_mul, q_sub, q_rem, q_div, q_eq, q_lt, q_le, c0, c1, c2, c3, c4, c5, c6, c7, c8, c9, c10, c99]
    · unfold T_X3_bearerOf; simp (disch := omega) only [e2, cI_id, Nat.reduceEqDiff, Nat.reduceLeDiff, reduceIte, eq_self, ng1, ng2, ng3, ng4, ng6, rx_gf, rx_ld, rx_pf, rx_sd, m9, NN_lt, lt_NN, NN_le, le_NN, if_true, if_false, n_mod, q_dec, ro_gf, ro_ld, ro_sd, ro_pf, e_vl, e_cV, e_cI, nI_add, q_mul, q_sub, q_rem, q_div, q_eq, q_lt, q_le, c0, c1, c2, c3, c4, c5, c6, c7, c8, c9, c10, c99]
theorem apart_all : ∀ a, a < 10 → ∀ g, g < 10 → (let x3 := ((nI g - nI a) + 10) - ((nI g - nI a) + 10) / 10 * 10; (if x3 ≤ 5 then some x3 else some (10 - x3)) = some (nI (apa a g))) := by decide +kernel
theorem x3_apart {τ : TT} {S : SS} (W : WF S) {a b : Nat} (ha : a < S 12 0) (hb : b < S 12 0) : T_X3_apart (Ro τ 13 S) (nI a) (nI b) = some (nI (apa (S 8 a) (S 8 b))) := by
  have h12 := W.nl
  have w1 := W.bea ha
  have w2 := W.bea hb
  unfold T_X3_apart
  simp (disch := omega) only [ro_ld]
  exact apart_all _ (by omega) _ (by omega)
theorem ok_far (J : Inv G P) (a0 a1 : Int32) : OKm G P (T_X2_far a0 a1) (T_X3_far a0 a1) := by
  have W := J.wf
  have h12 := W.nl
  rcases chk_bearer J a0 with ⟨x, hx, rfl, e1, e2⟩ | ⟨e1, e2⟩
  · rcases chk_bearer J a1 with ⟨y, hy, rfl, e3, e4⟩ | ⟨e3, e4⟩
    · have w1 := W.bea hx
      have w2 := W.bea hy
      have r1 := J.sb.bea hx
      have r2 := J.sb.bea hy
      refine ok_q0 (r := nI (apa (G 13 8 x) (G 13 8 y))) J ?_ (fun τ => ?_)
      · unfold T_X2_far; simp (disch := omega) only [e1, e3, r1.2.2.1, r2.2.2.1, x2_apa (show G 13 8 x ≤ 9 by omega) (show G 13 8 y ≤ 9 by omega), Nat.reduceEqDiff, Nat.reduceLeDiff, reduceIte, eq_self, ng1, ng2, ng3, ng4, ng6, rx_gf, rx_ld, rx_pf, rx_sd, m9, NN_lt, lt_NN, NN_le, le_NN, if_true, if_false, n_mod, q_dec, ro_gf, ro_ld, ro_sd, ro_pf, e_vl, e_cV, e_cI, nI_add, q_mul, q_sub, q_rem, q_div, q_eq, q_lt, q_le, c0, c1, c2, c3, c4, c5, c6, c7, c8, c9, c10, c99]
      · unfold T_X3_far; simp (disch := omega) only [e2, e4, x3_apart W hx hy, Nat.reduceEqDiff, Nat.reduceLeDiff, reduceIte, eq_self, ng1, ng2, ng3, ng4, ng6, rx_gf, rx_ld, rx_pf, rx_sd, m9, NN_lt, lt_NN, NN_le, le_NN, if_true, if_false, n_mod, q_dec, ro_gf, ro_ld, ro_sd, ro_pf, e_vl, e_cV, e_cI, nI_add, q_mul, q_sub, q_rem, q_div, q_eq, q_lt, q_le, c0, c1, c2, c3, c4, c5, c6, c7, c8, c9, c10, c99]
    · refine ok_ref 1 J (by decide) ?_ (fun τ => ?_)
      · unfold T_X2_far T_X2_far_j22; simp (disch := omega) only [e1, e3, cI_id, Nat.reduceEqDiff, Nat.reduceLeDiff, reduceIte, eq_self, ng1, ng2, ng3, ng4, ng6, rx_gf, rx_ld, rx_pf, rx_sd, m9, NN_lt, lt_NN, NN_le, le_NN, if_true, if_false, n_mod, q_dec, ro_gf, ro_ld, ro_sd, ro_pf, e_vl, e_cV, e_cI, nI_add, q_mul, q_sub, q_rem, q_div, q_eq, q_lt, q_le, c0, c1, c2, c3, c4, c5, c6, c7, c8, c9, c10, c99]
      · unfold T_X3_far T_X3_far_j16; simp (disch := omega) only [e2, e4, cI_id, Nat.reduceEqDiff, Nat.reduceLeDiff, reduceIte, eq_self, ng1, ng2, ng3, ng4, ng6, rx_gf, rx_ld, rx_pf, rx_sd, m9, NN_lt, lt_NN, NN_le, le_NN, if_true, if_false, n_mod, q_dec, ro_gf, ro_ld, ro_sd, ro_pf, e_vl, e_cV, e_cI, nI_add, q_mul, q_sub, q_rem, q_div, q_eq, q_lt, q_le, c0, c1, c2, c3, c4, c5, c6, c7, c8, c9, c10, c99]
  · refine ok_ref 1 J (by decide) ?_ (fun τ => ?_)
    · unfold T_X2_far T_X2_far_j22; simp (disch := omega) only [e1, cI_id, Nat.reduceEqDiff, Nat.reduceLeDiff, reduceIte, eq_self, ng1, ng2, ng3, ng4, ng6, rx_gf, rx_ld, rx_pf, rx_sd, m9, NN_lt, lt_NN, NN_le, le_NN, if_true, if_false, n_mod, q_dec, ro_gf, ro_ld, ro_sd, ro_pf, e_vl, e_cV, e_cI, nI_add, q_mul, q_sub, q_rem, q_div, q_eq, q_lt, q_le, c0, c1, c2, c3, c4, c5, c6, c7, c8, c9, c10, c99]
    · unfold T_X3_far T_X3_far_j16; simp (disch := omega) only [e2, cI_id, Nat.reduceEqDiff, Nat.reduceLeDiff, reduceIte, eq_self, ng1, ng2, ng3, ng4, ng6, rx_gf, rx_ld, rx_pf, rx_sd, m9, NN_lt, lt_NN, NN_le, le_NN, if_true, if_false, n_mod, q_dec, ro_gf, ro_ld, ro_sd, ro_pf, e_vl, e_cV, e_cI, nI_add, q_mul, q_sub, q_rem, q_div, q_eq, q_lt, q_le, c0, c1, c2, c3, c4, c5, c6, c7, c8, c9, c10, c99]
theorem ok_meet (J : Inv G P) (a0 a1 : Int32) : OKm G P (T_X2_meet a0 a1) (T_X3_meet a0 a1) := by
  have K := J.tk
  rcases chk_two J a0 a1 with ⟨x, y, hx, hy, hxy, rfl, rfl, e1, e2⟩ | ⟨e1, e2⟩
  · obtain ⟨C1, t1, t2, t3⟩ := x2_think (G := G) (P := P) (G 2)
    have K2 := K.keep (w := 2)
    have E : Eqs (G 13) (kpS 2 (G 13)) := Eqs.keep
    have e12 : kpS 2 (G 13) 12 0 = G 13 12 0 := kpS_oth (by decide)
    obtain ⟨C2, f1⟩ := x2_fM (τ := (G, P)) (a := x) (b := y) (s := 61) (Nat.le_refl _) 61 0 (kpS 2 (G 13)) C1 FU (t2 _ (E.sb K.1 J.sb) K2.1) t3 K2.1 (by omega) (by have := K2.2.1; omega) rfl (FU_gt (by decide))
    have hle := firstN_le (fun X => decide (X 8 x = X 8 y)) 61 0 (kpS 2 (G 13)) (Nat.le_refl _)
    refine ok_q2 (r := nI (kF (firstN (fun X => decide (X 8 x = X 8 y)) 61 0 (kpS 2 (G 13))))) (C := C2) J ?_ (fun τ => ?_)
    · unfold T_X2_meet T_X2_firstMeeting
      simp only [e1, t1, e_cV, c0, c60, l60, f1, e_cI, id]
      rw [if_neg (by decide), x2_orNone (by omega)]
      rfl
    · obtain ⟨F, f2, f3⟩ := x3_fM (a := x) (b := y) (m := 60) (S0 := kpS 2 (G 13)) rfl 61 0 (kpS 2 (G 13)) FU (OS.keep K.2.2) K2.1 (by omega) (by have := K2.2.1; omega) rfl (FU_gt (by decide))
      refine ⟨_, ?_, (KR.think K.2.2 f3).mono (by decide)⟩
      unfold T_X3_meet T_X3_meetsIn
      simp only [e2, x3_thinks, e_cV, c0, c9, m9, f2, e_cI]
      rw [if_neg (by decide)]
  · refine ok_ref 1 J (by decide) ?_ (fun τ => ?_)
    · unfold T_X2_meet; simp (disch := omega) only [e1, cI_id, Nat.reduceEqDiff, Nat.reduceLeDiff, reduceIte, eq_self, ng1, ng2, ng3, ng4, ng6, rx_gf, rx_ld, rx_pf, rx_sd, m9, NN_lt, lt_NN, NN_le, le_NN, if_true, if_false, n_mod, q_dec, ro_gf, ro_ld, ro_sd, ro_pf, e_vl, e_cV, e_cI, nI_add, q_mul, q_sub, q_rem, q_div, q_eq, q_lt, q_le, c0, c1, c2, c3, c4, c5, c6, c7, c8, c9, c10, c99]
    · unfold T_X3_meet; simp (disch := omega) only [e2, cI_id, Nat.reduceEqDiff, Nat.reduceLeDiff, reduceIte, eq_self, ng1, ng2, ng3, ng4, ng6, rx_gf, rx_ld, rx_pf, rx_sd, m9, NN_lt, lt_NN, NN_le, le_NN, if_true, if_false, n_mod, q_dec, ro_gf, ro_ld, ro_sd, ro_pf, e_vl, e_cV, e_cI, nI_add, q_mul, q_sub, q_rem, q_div, q_eq, q_lt, q_le, c0, c1, c2, c3, c4, c5, c6, c7, c8, c9, c10, c99]
end Now
