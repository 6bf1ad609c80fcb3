/-! CHANGES OF THE STREET, both sides at once -/
def PW (f g : Nat) : Prop := (f = 9 ∧ g = 7) ∨ (f = 8 ∧ g = 6) ∨ (f = 10 ∧ g = 8) ∨ (f = 1 ∧ g = 1) ∨ (f = 2 ∧ g = 2) ∨ (f = 3 ∧ g = 3) ∨ (f = 5 ∧ g = 5)
section Chg
variable {C S T : SS}
theorem SB.upg (R : SB C S) {f g i x : Nat} (hf : PW f g) : SB (up C f i x) (up S g i x) := by
  obtain ⟨⟨r1, r2, r3, r4⟩, r5, r6⟩ := R
  have hg : g ≤ 8 := by unfold PW at hf; omega
  have hf' : f ≤ 10 ∧ f ≠ 0 ∧ f ≠ 7 ∧ f ≠ 4 ∧ f ≠ 6 := by unfold PW at hf; omega
  have hwho : ∀ b, who (up S g i x) b = who S b := fun b => who_up (by omega) (by omega)
  have e : ∀ g' i', g' ≠ g → up S g i x g' i' = S g' i' := fun g' i' h => up_ne S (fun q => h q.1)
  have ec : ∀ f' i', f' ≠ f → up C f i x f' i' = C f' i' := fun f' i' h => up_ne C (fun q => h q.1)
  have two : ∀ f' g' j, (f' = f ↔ g' = g) → C f' j = S g' j → up C f i x f' j = up S g i x g' j := by
    intro f' g' j h1 h2
    unfold up
    by_cases h : f' = f ∧ j = i
    · rw [if_pos h, if_pos ⟨h1.mp h.1, h.2⟩]
    · rw [if_neg h, if_neg (fun q => h ⟨h1.mpr q.1, q.2⟩)]
      exact h2
  refine ⟨⟨?_, ?_, ?_, ?_⟩, fun b hb => ?_, fun l hl => ?_⟩
  · rw [ec _ _ (by omega), e _ _ (by omega)]; exact r1
  · rw [ec _ _ (by omega), e _ _ (by omega)]; exact r2
  · rw [ec _ _ (by omega), e _ _ (by omega)]; exact r3
  · rw [ec _ _ (by omega), e _ _ (by omega)]; exact r4
  · rw [e _ _ (by omega)] at hb
    have r := r5 b hb
    refine ⟨two 1 1 b (by unfold PW at hf; omega) r.1, two 2 2 b (by unfold PW at hf; omega) r.2.1, two 3 3 b (by unfold PW at hf; omega) r.2.2.1, ?_, two 5 5 b (by unfold PW at hf; omega) r.2.2.2.2.1, ?_⟩
    · rw [ec _ _ (by omega), e 4 _ (by unfold PW at hf; omega)]; exact r.2.2.2.1
    · rw [ec _ _ (by omega), hwho]; exact r.2.2.2.2.2
  · rw [e _ _ (by omega)] at hl
    have r := r6 l hl
    refine ⟨two 8 6 l (by unfold PW at hf; omega) r.1, two 9 7 l (by unfold PW at hf; omega) r.2.1, two 10 8 l (by unfold PW at hf; omega) r.2.2.1, ?_, ?_⟩
    · rw [ec _ _ (by omega), e 9 _ (by omega)]; exact r.2.2.2.1
    · rw [ec _ _ (by omega), e 10 _ (by omega)]; exact r.2.2.2.2
theorem SB.up14 (R : SB C S) {x : Nat} : SB (up C 13 0 x) (up S 14 0 x) := by
  have hwho : ∀ b, who (up S 14 0 x) b = who S b := fun b => who_up (by decide) (by decide)
  refine ⟨⟨?_, ?_, ?_, ?_⟩, fun b hb => ?_, fun l hl => ?_⟩
  · rw [up_ne _ (by omega), up_ne _ (by omega)]; exact R.1.1
  · rw [up_ne _ (by omega), up_ne _ (by omega)]; exact R.1.2.1
  · rw [up_at, up_at]
  · rw [up_ne _ (by omega), up_ne _ (by omega)]; exact R.1.2.2.2
  · rw [up_ne _ (by omega)] at hb
    rw [hwho]
    simp only [up_ne _ (show ¬ (1 = 13 ∧ b = 0) by omega), up_ne _ (show ¬ (2 = 13 ∧ b = 0) by omega), up_ne _ (show ¬ (3 = 13 ∧ b = 0) by omega), up_ne _ (show ¬ (4 = 13 ∧ b = 0) by omega), up_ne _ (show ¬ (5 = 13 ∧ b = 0) by omega), up_ne _ (show ¬ (6 = 13 ∧ b = 0) by omega), up_ne _ (show ¬ (1 = 14 ∧ b = 0) by omega), up_ne _ (show ¬ (2 = 14 ∧ b = 0) by omega), up_ne _ (show ¬ (3 = 14 ∧ b = 0) by omega), up_ne _ (show ¬ (4 = 14 ∧ b = 0) by omega), up_ne _ (show ¬ (5 = 14 ∧ b = 0) by omega)]
    exact R.bag hb
  · rw [up_ne _ (by omega)] at hl
    simp only [up_ne _ (show ¬ (8 = 13 ∧ l = 0) by omega), up_ne _ (show ¬ (9 = 13 ∧ l = 0) by omega), up_ne _ (show ¬ (10 = 13 ∧ l = 0) by omega), up_ne _ (show ¬ (11 = 13 ∧ l = 0) by omega), up_ne _ (show ¬ (12 = 13 ∧ l = 0) by omega), up_ne _ (show ¬ (6 = 14 ∧ l = 0) by omega), up_ne _ (show ¬ (7 = 14 ∧ l = 0) by omega), up_ne _ (show ¬ (8 = 14 ∧ l = 0) by omega), up_ne _ (show ¬ (9 = 14 ∧ l = 0) by omega), up_ne _ (show ¬ (10 = 14 ∧ l = 0) by omega)]
    exact R.bea hl
theorem WF.upg (W : WF S) {g i x : Nat} (h : (g = 1 ∧ x ≤ 5) ∨ (g = 2 ∧ x ≤ 9) ∨ (g = 3 ∧ x ≤ 9) ∨ (g = 6 ∧ x ≤ 9) ∨ (g = 7 ∧ x ≤ 9) ∨ (g = 8 ∧ x ≤ 9) ∨ (g = 14 ∧ x ≤ 9)) : WF (up S g i x) := by
  have e : ∀ g' i', g' ≠ g → up S g i x g' i' = S g' i' := fun g' i' h => up_ne S (fun q => h q.1)
  have le : ∀ g' i' N, S g' i' ≤ N → (g' = g → x ≤ N) → up S g i x g' i' ≤ N := by
    intro g' i' N h1 h2
    unfold up
    split
    · rename_i q; exact h2 q.1
    · exact h1
  refine ⟨by rw [e 11 _ (by omega)]; exact W.nb, by rw [e 12 _ (by omega)]; exact W.nl, fun b hb => ?_, fun l hl => ?_, fun l l' hl hl' => ?_, le 14 0 9 W.col (by omega)⟩
  · rw [e 11 _ (by omega)] at hb
    have w := W.bag hb
    exact ⟨le 1 b 5 w.1 (by omega), le 2 b 9 w.2.1 (by omega), le 3 b 9 w.2.2.1 (by omega), by rw [e 4 _ (by omega), e 11 _ (by omega)]; exact w.2.2.2.1, le 5 b 99 w.2.2.2.2 (by omega)⟩
  · rw [e 12 _ (by omega)] at hl
    have w := W.bea hl
    exact ⟨le 6 l 9 w.1 (by omega), le 7 l 9 w.2.1 (by omega), le 8 l 9 w.2.2.1 (by omega), by rw [e 9 _ (by omega), e 11 _ (by omega)]; exact w.2.2.2.1, le 10 l 9 w.2.2.2.2 (by omega)⟩
  · rw [e 12 _ (by omega)] at hl hl'
    rw [e 9 _ (by omega), e 9 _ (by omega)]
    exact W.inj hl hl'
theorem who_eq (W : WF S) {c k : Nat} (h9 : c ≠ 9) (hk : k < S 12 0) (e : S 9 k = c) : who S c = k := by
  rcases who_spec S c with ⟨-, h⟩ | ⟨h1, h2, -⟩
  · exact absurd e (h k hk)
  · exact W.inj h1 hk (h2.trans e.symm) (by rw [h2]; exact h9)
theorem who_none {c : Nat} (h : ∀ k, k < S 12 0 → S 9 k ≠ c) : who S c = 9 := by
  rcases who_spec S c with ⟨h1, -⟩ | ⟨h1, h2, -⟩
  · exact h1
  · exact absurd h2 (h _ h1)
/-- she is given the bag -/
def gvS (S : SS) (b l : Nat) : SS := up (up (if who S b < 9 then up S 9 (who S b) 9 else S) 9 l b) 5 b 0
theorem gv_9 {b l k : Nat} (hb : b < 9) (hl : l < S 12 0) : gvS S b l 9 k = if k = l then b else if k = who S b ∧ who S b < 9 then 9 else S 9 k := by
  unfold gvS
  rw [up_ne _ (by omega)]
  by_cases e : k = l
  · subst e; rw [up_at, if_pos rfl]
  · rw [up_ne _ (fun q => e q.2), if_neg e]
    by_cases h : who S b < 9
    · rw [if_pos h]
      by_cases e2 : k = who S b
      · rw [if_pos ⟨e2, h⟩, e2, up_at]
      · rw [if_neg (fun q => e2 q.1), up_ne _ (fun q => e2 q.2)]
    · rw [if_neg h, if_neg (fun q => h q.2)]
theorem gv_oth {b l f i : Nat} (hf : f ≠ 9 ∧ f ≠ 5) : gvS S b l f i = S f i := by
  unfold gvS
  rw [up_ne _ (by omega), up_ne _ (by omega)]
  split
  · rw [up_ne _ (by omega)]
  · rfl
theorem gv_5 {b l i : Nat} : gvS S b l 5 i = if i = b then 0 else S 5 i := by
  unfold gvS
  by_cases e : i = b
  · subst e; rw [up_at, if_pos rfl]
  · rw [up_ne _ (fun q => e q.2), up_ne _ (by omega), if_neg e]
    split
    · rw [up_ne _ (by omega)]
    · rfl
theorem WF.gv (W : WF S) {b l : Nat} (hb : b < S 11 0) (hl : l < S 12 0) : WF (gvS S b l) := by
  have h11 := W.nb
  have h12 := W.nl
  have g9 := fun k => gv_9 (S := S) (b := b) (l := l) (k := k) (by omega) hl
  have own : ∀ k, k < S 12 0 → gvS S b l 9 k = b → k = l := by
    intro k hk h
    rw [g9] at h
    by_cases e : k = l
    · exact e
    · rw [if_neg e] at h
      by_cases e2 : k = who S b ∧ who S b < 9
      · rw [if_pos e2] at h; omega
      · rw [if_neg e2] at h
        have := who_eq W (by omega) hk h
        omega
  have ne : ∀ k, k < S 12 0 → k ≠ l → gvS S b l 9 k ≠ 9 → gvS S b l 9 k = S 9 k := by
    intro k hk h1 h2
    rw [g9, if_neg h1] at h2 ⊢
    by_cases e2 : k = who S b ∧ who S b < 9
    · rw [if_pos e2] at h2; omega
    · rw [if_neg e2]
  refine ⟨by rw [gv_oth (by decide)]; exact W.nb, by rw [gv_oth (by decide)]; exact W.nl, fun c hc => ?_, fun k hk => ?_, fun k k' hk hk' h h9 => ?_, by rw [gv_oth (by decide)]; exact W.col⟩
  · rw [gv_oth (by decide)] at hc
    have w := W.bag hc
    rw [gv_oth (by decide), gv_oth (by decide), gv_oth (by decide), gv_oth (by decide), gv_oth (by decide), gv_5]
    refine ⟨w.1, w.2.1, w.2.2.1, w.2.2.2.1, ?_⟩
    split
    · omega
    · exact w.2.2.2.2
  · rw [gv_oth (by decide)] at hk
    have w := W.bea hk
    rw [gv_oth (f := 6) (by decide), gv_oth (f := 7) (by decide), gv_oth (f := 8) (by decide), gv_oth (f := 10) (by decide), gv_oth (f := 11) (by decide), g9]
    refine ⟨w.1, w.2.1, w.2.2.1, ?_, w.2.2.2.2⟩
    split
    · exact Or.inr hb
    · split
      · exact Or.inl rfl
      · exact w.2.2.2.1
  · rw [gv_oth (by decide)] at hk hk'
    by_cases e : k = l
    · have hb1 : gvS S b l 9 k = b := by rw [g9, if_pos e]
      rw [hb1] at h
      exact e.trans (own k' hk' h.symm).symm
    · by_cases e' : k' = l
      · have hb1 : gvS S b l 9 k' = b := by rw [g9, if_pos e']
        rw [hb1] at h
        exact absurd (own k hk h) e
      · have a1 := ne k hk e h9
        have a2 := ne k' hk' e' (by rw [← h]; exact h9)
        rw [a1, a2] at h
        exact W.inj hk hk' h (by rw [← a1]; exact h9)
theorem gv_who (W : WF S) {b l c : Nat} (hb : b < S 11 0) (hl : l < S 12 0) (hc : c < S 11 0) : who (gvS S b l) c = if c = b then l else if c = S 9 l then 9 else who S c := by
  have h11 := W.nb
  have h12 := W.nl
  have W2 := W.gv hb hl
  have g9 := fun k => gv_9 (S := S) (b := b) (l := l) (k := k) (by omega) hl
  have e12 : gvS S b l 12 0 = S 12 0 := gv_oth (by decide)
  by_cases e : c = b
  · rw [if_pos e]
    refine who_eq W2 (by omega) (by rw [e12]; exact hl) ?_
    rw [g9, if_pos rfl]; exact e.symm
  · rw [if_neg e]
    by_cases e2 : c = S 9 l
    · rw [if_pos e2]
      refine who_none (fun k hk h => ?_)
      rw [e12] at hk
      rw [g9] at h
      by_cases e3 : k = l
      · rw [if_pos e3] at h; omega
      · rw [if_neg e3] at h
        by_cases e4 : k = who S b ∧ who S b < 9
        · rw [if_pos e4] at h; omega
        · rw [if_neg e4] at h
          exact e3 (W.inj hk hl (h.trans e2) (by omega))
    · rw [if_neg e2]
      rcases who_spec S c with ⟨h1, h2⟩ | ⟨h1, h2, -⟩
      · rw [h1]
        refine who_none (fun k hk h => ?_)
        rw [e12] at hk
        rw [g9] at h
        by_cases e3 : k = l
        · rw [if_pos e3] at h; omega
        · rw [if_neg e3] at h
          by_cases e4 : k = who S b ∧ who S b < 9
          · rw [if_pos e4] at h; omega
          · rw [if_neg e4] at h
            exact h2 k hk h
      · refine who_eq W2 (by omega) (by rw [e12]; exact h1) ?_
        rw [g9, if_neg (fun q => e2 (by rw [← q]; exact h2.symm))]
        by_cases e4 : who S c = who S b ∧ who S b < 9
        · have := who_lt W e4.2
          rw [← e4.1] at this
          omega
        · rw [if_neg e4]; exact h2
end Chg
section Chg2
variable {τ : TT} {o : Nat} {C S : SS}
theorem x3_give (W : WF S) {b l : Nat} (hb : b < S 11 0) (hl : l < S 12 0) : T_X3_givesHer (nI b) (nI l) (Ro τ 13 S) = some (Ro τ 13 (gvS S b l)) := by
  have h11 := W.nb
  have h12 := W.nl
  have hw := who_le W b
  unfold T_X3_givesHer T_X3_givesHer_j20 gvS
  simp (disch := omega) only [x3_who W (show b ≤ 9 by omega), Nat.reduceEqDiff, Nat.reduceLeDiff, reduceIte, eq_self, ng1, ng2, ng3, ng4, ng6, rx_gf, rx_ld, rx_pf, rx_sd, m9, NN_lt, lt_NN, NN_le, le_NN, if_true, if_false, n_mod, q_dec, ro_gf, ro_ld, ro_sd, ro_pf, e_vl, e_cV, e_cI, nI_add, q_mul, q_sub, q_rem, q_div, q_eq, q_lt, q_le, c0, c1, c2, c3, c4, c5, c6, c7, c8, c9, c10, c99]
  by_cases e : who S b < 9
  · have := who_lt W e
    rw [if_neg (by omega), if_pos e]
    simp (disch := omega) only [Nat.reduceEqDiff, Nat.reduceLeDiff, reduceIte, eq_self, ng1, ng2, ng3, ng4, ng6, rx_gf, rx_ld, rx_pf, rx_sd, m9, NN_lt, lt_NN, NN_le, le_NN, if_true, if_false, n_mod, q_dec, ro_gf, ro_ld, ro_sd, ro_pf, e_vl, e_cV, e_cI, nI_add, q_mul, q_sub, q_rem, q_div, q_eq, q_lt, q_le, c0, c1, c2, c3, c4, c5, c6, c7, c8, c9, c10, c99]
  · rw [if_pos (by omega), if_neg e]
/-- the class gives her the bag -/
theorem x0_hand (W : WF S) (R : SB C S) {b l : Nat} (hb : b < S 11 0) (hl : l < S 12 0) : ∃ C', T_X0_hand o (nI b) (nI l) (Ro τ o C) = some (nI 1, Ro τ o C') ∧ SB C' (gvS S b l) ∧ (∀ f i, f ≠ 11 → f ≠ 6 → f ≠ 5 → C' f i = C f i) := by
  have h11 := W.nb
  have h12 := W.nl
  have hw := who_le W b
  have r0 := R.1.1
  have r7 := R.1.2.1
  have rb := R.bag hb
  have rl := R.bea hl
  have wl := W.bea hl
  have e0 : (0 : Nat) ≠ 11 ∧ (0 : Nat) ≠ 6 := by decide
  have hbag := x0_hasBag1 (τ := τ) (o := o) (C := C) (show C 0 0 ≤ 6 by omega) (show b < C 0 0 by omega)
  have hbea : T_X0_hasBearer o (Ro τ o C) (nI l) = some (nI 1) := by
    have := x0_hasBearer (τ := τ) (o := o) (C := C) (l := l) (by omega) (Or.inr (by omega))
    rw [kN_ne (by omega), if_neg (by omega)] at this
    exact this
  have hkee := x0_hasBearer (τ := τ) (o := o) (C := C) (l := who S b) (by omega) (by rw [r7]; exact who_cases W b)
  -- behind the first store
  let C1 : SS := if who S b < 9 then up C 11 (who S b) 4294967287 else C
  have c1ne : ∀ f i, f ≠ 11 → C1 f i = C f i := by
    intro f i h
    show (if who S b < 9 then up C 11 (who S b) 4294967287 else C) f i = _
    split
    · exact up_ne _ (fun q => h q.1)
    · rfl
  have c1l : C1 11 l = if l = who S b then 4294967287 else kN (S 9 l) := by
    show (if who S b < 9 then up C 11 (who S b) 4294967287 else C) 11 l = _
    by_cases h : who S b < 9
    · rw [if_pos h]
      by_cases e : l = who S b
      · rw [if_pos e, ← e, up_at]
      · rw [if_neg e, up_ne _ (fun q => e q.2)]; exact rl.2.2.2.1
    · rw [if_neg h, if_neg (by omega)]; exact rl.2.2.2.1
  -- behind the second
  let C2 : SS := if l = who S b ∨ S 9 l = 9 then C1 else up C1 6 (S 9 l) 4294967287
  refine ⟨up (up (up C2 11 l b) 6 b l) 5 b 0, ?_, ?_, ?_⟩
  · unfold T_X0_hand
    have tail : ∀ Cx : SS, Cx = C1 → T_X0_hand_j44 o (nI b) (nI l) (Ro τ o Cx) = some (nI 1, Ro τ o (up (up (up C2 11 l b) 6 b l) 5 b 0)) := by
      intro Cx hx
      subst hx
      have hb2 := x0_hasBag (τ := τ) (o := o) (C := C1) (b := if l = who S b then 9 else S 9 l) (by rw [c1ne _ _ (by decide)]; omega) (by rw [c1ne _ _ (by decide), r0]; split <;> omega)
      have ek : C1 11 l = kN (if l = who S b then 9 else S 9 l) := by
        rw [c1l]; split <;> rfl
      unfold T_X0_hand_j44 T_X0_hand_j70
      simp (disch := omega) only [ek, hb2, Nat.reduceEqDiff, Nat.reduceLeDiff, reduceIte, eq_self, ng1, ng2, ng3, ng4, ng6, rx_gf, rx_ld, rx_pf, rx_sd, m9, NN_lt, lt_NN, NN_le, le_NN, if_true, if_false, n_mod, q_dec, ro_gf, ro_ld, ro_sd, ro_pf, e_vl, e_cV, e_cI, nI_add, q_mul, q_sub, q_rem, q_div, q_eq, q_lt, q_le, c0, c1, c2, c3, c4, c5, c6, c7, c8, c9, c10, c99]
      show _ = some (nI 1, Ro τ o (up (up (up (if l = who S b ∨ S 9 l = 9 then C1 else up C1 6 (S 9 l) 4294967287) 11 l b) 6 b l) 5 b 0))
      by_cases e : l = who S b
      · rw [if_pos (Or.inl e)]
        simp only [e, if_true]
      · by_cases e2 : S 9 l = 9
        · rw [if_pos (Or.inr e2)]
          simp only [e, e2, if_true, if_false]
        · rw [if_neg (show ¬ (l = who S b ∨ S 9 l = 9) from fun q => q.elim e e2)]
          simp only [e, e2, if_false]
          rw [if_neg (by decide), kN_ne e2]
          simp (disch := omega) only [Nat.reduceEqDiff, Nat.reduceLeDiff, reduceIte, eq_self, ng1, ng2, ng3, ng4, ng6, rx_gf, rx_ld, rx_pf, rx_sd, m9, NN_lt, lt_NN, NN_le, le_NN, if_true, if_false, n_mod, q_dec, ro_gf, ro_ld, ro_sd, ro_pf, e_vl, e_cV, e_cI, nI_add, q_mul, q_sub, q_rem, q_div, q_eq, q_lt, q_le, c0, c1, c2, c3, c4, c5, c6, c7, c8, c9, c10, c99]
    have hT := tail C1 rfl
    simp (disch := omega) only [hbag, hbea, rb.2.2.2.2.2, hkee, c9, m9, ro_ld, e_cV]
    rw [if_neg (by decide), if_neg (by decide)]
    by_cases e : who S b = 9
    · have eC : C1 = C := by
        show (if who S b < 9 then _ else C) = C
        rw [if_neg (by omega)]
      rw [if_pos e, if_pos (show nI 0 = 0 from rfl)]
      rw [eC] at hT
      exact hT
    · have eC : C1 = up C 11 (who S b) 4294967287 := by
        show (if who S b < 9 then _ else C) = _
        rw [if_pos (by omega)]
      have := who_lt W (show who S b < 9 by omega)
      rw [if_neg e, if_neg (by decide), kN_ne e]
      simp (disch := omega) only [ro_sd]
      rw [eC] at hT
      exact hT
  · have g9 := fun k => gv_9 (S := S) (b := b) (l := l) (k := k) (by omega) hl
    have c2ne : ∀ f i, f ≠ 11 → f ≠ 6 → C2 f i = C f i := by
      intro f i h1 h2
      show (if l = who S b ∨ S 9 l = 9 then C1 else up C1 6 (S 9 l) 4294967287) f i = _
      split
      · exact c1ne f i h1
      · rw [up_ne _ (fun q => h2 q.1)]; exact c1ne f i h1
    refine ⟨⟨?_, ?_, ?_, ?_⟩, fun c hc => ?_, fun k hk => ?_⟩
    · rw [up_ne _ (by omega), up_ne _ (by omega), up_ne _ (by omega), c2ne _ _ (by decide) (by decide), gv_oth (by decide)]; exact R.1.1
    · rw [up_ne _ (by omega), up_ne _ (by omega), up_ne _ (by omega), c2ne _ _ (by decide) (by decide), gv_oth (by decide)]; exact R.1.2.1
    · rw [up_ne _ (by omega), up_ne _ (by omega), up_ne _ (by omega), c2ne _ _ (by decide) (by decide), gv_oth (by decide)]; exact R.1.2.2.1
    · rw [up_ne _ (by omega), up_ne _ (by omega), up_ne _ (by omega), c2ne _ _ (by decide) (by decide), gv_oth (by decide)]; exact R.1.2.2.2
    · rw [gv_oth (by decide)] at hc
      have r := R.bag hc
      have n : ∀ f, f ≠ 11 → f ≠ 6 → f ≠ 5 → up (up (up C2 11 l b) 6 b l) 5 b 0 f c = C f c := fun f h1 h2 h3 => by
        rw [up_ne _ (by omega), up_ne _ (by omega), up_ne _ (by omega)]; exact c2ne f c h1 h2
      rw [n 1 (by decide) (by decide) (by decide), n 2 (by decide) (by decide) (by decide), n 3 (by decide) (by decide) (by decide), n 4 (by decide) (by decide) (by decide), gv_oth (by decide), gv_oth (by decide), gv_oth (by decide), gv_oth (by decide), gv_5, gv_who W hb hl hc]
      refine ⟨r.1, r.2.1, r.2.2.1, r.2.2.2.1, ?_, ?_⟩
      · by_cases e : c = b
        · rw [if_pos e, e, up_at]
        · rw [if_neg e, up_ne _ (fun q => e q.2), up_ne _ (by omega), up_ne _ (by omega), c2ne _ _ (by decide) (by decide)]; exact r.2.2.2.2.1
      · rw [up_ne _ (by omega)]
        by_cases e : c = b
        · rw [if_pos e, e, up_at, kN_ne (by omega)]
        · rw [if_neg e, up_ne _ (fun q => e q.2), up_ne _ (by omega)]
          show (if l = who S b ∨ S 9 l = 9 then C1 else up C1 6 (S 9 l) 4294967287) 6 c = _
          by_cases e2 : c = S 9 l
          · rw [if_pos e2]
            by_cases e3 : l = who S b
            · exfalso
              have := who_lt W (b := b) (by omega)
              rw [← e3] at this
              omega
            · rw [if_neg (by omega), ← e2, up_at]; rfl
          · rw [if_neg e2]
            split
            · rw [c1ne _ _ (by decide)]; exact r.2.2.2.2.2
            · rw [up_ne _ (fun q => e2 q.2), c1ne _ _ (by decide)]; exact r.2.2.2.2.2
    · rw [gv_oth (by decide)] at hk
      have r := R.bea hk
      have n : ∀ f, f ≠ 11 → f ≠ 6 → f ≠ 5 → up (up (up C2 11 l b) 6 b l) 5 b 0 f k = C f k := fun f h1 h2 h3 => by
        rw [up_ne _ (by omega), up_ne _ (by omega), up_ne _ (by omega)]; exact c2ne f k h1 h2
      rw [n 8 (by decide) (by decide) (by decide), n 9 (by decide) (by decide) (by decide), n 10 (by decide) (by decide) (by decide), n 12 (by decide) (by decide) (by decide), gv_oth (f := 6) (by decide), gv_oth (f := 7) (by decide), gv_oth (f := 8) (by decide), gv_oth (f := 10) (by decide), g9]
      refine ⟨r.1, r.2.1, r.2.2.1, ?_, r.2.2.2.2⟩
      rw [up_ne _ (by omega), up_ne _ (by omega)]
      by_cases e : k = l
      · rw [if_pos e, e, up_at, kN_ne (by omega)]
      · rw [if_neg e, up_ne _ (fun q => e q.2)]
        have e2 : C2 11 k = C1 11 k := by
          show (if l = who S b ∨ S 9 l = 9 then C1 else up C1 6 (S 9 l) 4294967287) 11 k = _
          split
          · rfl
          · rw [up_ne _ (by omega)]
        rw [e2]
        show (if who S b < 9 then up C 11 (who S b) 4294967287 else C) 11 k = _
        by_cases h : who S b < 9
        · rw [if_pos h]
          by_cases e3 : k = who S b
          · rw [if_pos ⟨e3, h⟩, ← e3, up_at]; rfl
          · rw [if_neg (fun q => e3 q.1), up_ne _ (fun q => e3 q.2)]; exact r.2.2.2.1
        · rw [if_neg h, if_neg (fun q => h q.2)]; exact r.2.2.2.1
  · intro f i h1 h2 h3
    rw [up_ne _ (by omega), up_ne _ (by omega), up_ne _ (by omega)]
    show (if l = who S b ∨ S 9 l = 9 then C1 else up C1 6 (S 9 l) 4294967287) f i = _
    split
    · exact c1ne f i h1
    · rw [up_ne _ (by omega)]; exact c1ne f i h1
end Chg2
