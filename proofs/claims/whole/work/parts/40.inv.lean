/-! THE TIE of class and reference -/
def SG (C S : SS) : Prop := SB C S ∧ WF S ∧ S 13 0 ≤ 999
def Inv (G : GG) (P : Nat → Nat) : Prop :=
  (SB (G 1) (G 13) ∧ TK (G 13)) ∧
  (G 0 3 0 = G 13 23 0 ∧ G 0 3 0 ≤ 1 ∧ (G 0 3 0 ≠ 0 → SG (G 3) (fr (G 13) 0))) ∧
  (G 0 5 0 = G 13 26 0 ∧ G 0 5 0 ≤ 8 ∧ (∀ k, k < G 0 5 0 → SG (G (P k)) (fr (G 13) (3 + k))) ∧ (∀ k, k < 8 → 4 ≤ P k ∧ P k ≤ 11 ∧ ∀ j, j < 8 → P k = P j → k = j)) ∧
  (G 0 7 0 = G 13 19 0 ∧ G 0 7 0 ≤ 96 ∧ ∀ k, k < G 0 7 0 → G 0 6 k = G 13 15 k ∧ G 0 6 k ≤ 255) ∧
  (G 0 9 0 = G 13 35 0 ∧ G 0 9 0 ≤ 12 ∧ ∀ k, k < G 0 9 0 → G 0 8 k = G 13 34 k ∧ G 0 8 k ≤ 99) ∧
  (∀ k, k < 7 → G 0 10 k = G 13 0 k)
/-- the class's frame of a question: past, letters, row, refusals, now stay -/
def Ks (G G' : GG) : Prop := (∀ f i, f ≠ 11 → G' 0 f i = G 0 f i) ∧ (∀ o, o ≠ 0 → o ≠ 2 → o ≠ 12 → G' o = G o)
theorem SG.congr {C S T : SS} (h : SG C S) (e : Eqs S T) : SG C T := ⟨e.sb h.2.1 h.1, e.wf h.2.1, by rw [e 13 0 (inr (by decide) (by omega))]; exact h.2.2⟩
theorem OS.fr {a w : Nat} {S T : SS} (h : OS a S T) (ha : 60 ≤ a) (hw : w = 0 ∨ 3 ≤ w) : Eqs (fr S w) (fr T w) := by
  intro f i q
  have := off_lt q
  exact h.2.1 _ (by omega)
section Frame
variable {α : Type} {G G' : GG} {P : Nat → Nat} {F C : SS}
theorem Inv.sb (J : Inv G P) : SB (G 1) (G 13) := J.1.1
theorem Inv.tk (J : Inv G P) : TK (G 13) := J.1.2
theorem Inv.wf (J : Inv G P) : WF (G 13) := J.1.2.1
theorem Inv.query (J : Inv G P) (K : Ks G G') (k : KR 60 (G 13) F) : Inv (wo G' 13 F) P := by
  obtain ⟨⟨j1, j2⟩, ⟨j3, j4, j5⟩, ⟨j6, j7, j8, j9⟩, ⟨j10, j11, j12⟩, ⟨j13, j14, j15⟩, j16⟩ := J
  obtain ⟨k1, k2⟩ := K
  have e0 : ∀ f i, f ≠ 11 → wo G' 13 F 0 f i = G 0 f i := fun f i h => by rw [wo_ne _ _ (by decide)]; exact k1 f i h
  have eo : ∀ o, o ≠ 0 → o ≠ 2 → o ≠ 12 → o ≠ 13 → wo G' 13 F o = G o := fun o h1 h2 h3 h4 => by rw [wo_ne _ _ h4]; exact k2 o h1 h2 h3
  have e13 : wo G' 13 F 13 = F := wo_at _ _ _
  have n := k.2.1
  unfold Inv
  rw [e13, eo 1 (by decide) (by decide) (by decide) (by decide), eo 3 (by decide) (by decide) (by decide) (by decide)]
  simp only [e0 3 0 (by decide), e0 5 0 (by decide), e0 7 0 (by decide), e0 9 0 (by decide), e0 6 _ (by decide), e0 8 _ (by decide), e0 10 _ (by decide)]
  refine ⟨⟨k.1.sb j2.1 j1, k.tk j2⟩, ⟨?_, j4, fun h => (j5 h).congr (k.2.fr (by decide) (Or.inl rfl))⟩, ⟨?_, j7, fun q hq => ?_, j9⟩, ⟨?_, j11, fun q hq => ?_⟩, ⟨?_, j14, fun q hq => ?_⟩, fun q hq => ?_⟩
  · rw [n 23 0 (by unfold NS; omega)]; exact j3
  · rw [n 26 0 (by unfold NS; omega)]; exact j6
  · have := j9 q (by omega)
    rw [eo (P q) (by omega) (by omega) (by omega) (by omega)]
    exact (j8 q hq).congr (k.2.fr (by decide) (Or.inr (by omega)))
  · rw [n 19 0 (by unfold NS; omega)]; exact j10
  · rw [n 15 q (by unfold NS; omega)]; exact j12 q hq
  · rw [n 35 0 (by unfold NS; omega)]; exact j13
  · rw [n 34 q (by unfold NS; omega)]; exact j15 q hq
  · rw [n 0 q (by unfold NS; omega)]; exact j16 q hq
/-- a call of both sides: one answer, and the tie again -/
def OKm (G : GG) (P : Nat → Nat) (cls ref : ST → Option (α × ST)) : Prop := ∃ r G1 P1 G2, cls (nV G, P) = some (r, (nV G1, P1)) ∧ ref (nV G1, P1) = some (r, (nV G2, P1)) ∧ Inv G2 P1
theorem ok_query {cls ref : ST → Option (α × ST)} {r : α} (J : Inv G P) (h1 : cls (nV G, P) = some (r, (nV G', P))) (K : Ks G G') (h2 : ∀ τ, ∃ F, ref (Ro τ 13 (G 13)) = some (r, Ro τ 13 F) ∧ KR 60 (G 13) F) : OKm G P cls ref := by
  have e : G' 13 = G 13 := K.2 13 (by decide) (by decide) (by decide)
  obtain ⟨F, this, k⟩ := h2 (G', P)
  refine ⟨r, G', P, wo G' 13 F, h1, ?_, J.query K k⟩
  rw [← e, Ro_self] at this
  exact this
theorem Ks.refl : Ks G G := ⟨fun _ _ _ => rfl, fun _ _ _ _ => rfl⟩
theorem Ks.mind : Ks G (wo G 2 C) := ⟨fun f i _ => by rw [wo_ne _ _ (by decide)], fun o _ h2 _ => by rw [wo_ne _ _ h2]⟩
theorem ok_q2 {cls ref : ST → Option (α × ST)} {r : α} (J : Inv G P) (h1 : cls (Ro (G, P) 2 (G 2)) = some (r, Ro (G, P) 2 C)) (h2 : ∀ τ, ∃ F, ref (Ro τ 13 (G 13)) = some (r, Ro τ 13 F) ∧ KR 60 (G 13) F) : OKm G P cls ref := by
  refine ok_query (G' := wo G 2 C) J ?_ Ks.mind h2
  rw [Ro_self] at h1
  exact h1
theorem ok_q0 {cls ref : ST → Option (α × ST)} {r : α} (J : Inv G P) (h1 : cls (Ro (G, P) 2 (G 2)) = some (r, Ro (G, P) 2 (G 2))) (h2 : ∀ τ, ref (Ro τ 13 (G 13)) = some (r, Ro τ 13 (G 13))) : OKm G P cls ref := ok_q2 J h1 (fun τ => ⟨_, h2 τ, KR.refl J.tk.2.2⟩)
end Frame
theorem cI_id {β : Type} {T : Option (Int32 × β)} : cI T (fun x s => some (x, s)) = T := by cases T <;> rfl
theorem cJ_id {β : Type} {T : Option (Int64 × β)} : cJ T (fun x s => some (x, s)) = T := by cases T <;> rfl
theorem cV_id {β : Type} {T : Option β} : cV T (fun x => some x) = T := by cases T <;> rfl
theorem neg_ok : ∀ k, k < 7 → 1 ≤ k → -(-nI k) = nI k ∧ ¬ (-nI k = nI 0) ∧ -nI k < nI 0 := by decide
theorem ng1 : (-nI 1 = nI 0) ↔ False := by decide
theorem ng2 : (-nI 2 = nI 0) ↔ False := by decide
theorem ng3 : (-nI 3 = nI 0) ↔ False := by decide
theorem ng4 : (-nI 4 = nI 0) ↔ False := by decide
theorem ng6 : (-nI 6 = nI 0) ↔ False := by decide
theorem eq00 : (nI 0 = nI 0) ↔ True := ⟨fun _ => trivial, fun _ => rfl⟩
theorem eq10 : (nI 1 = nI 0) ↔ False := by decide
section Refuse
variable {G : GG} {P : Nat → Nat} {τ : TT} {o k : Nat} {S : SS}
theorem x2_refuse (ho : o ≠ 0) (hk : 1 ≤ k ∧ k ≤ 6) : T_X2_refuse (-nI k) (Ro τ o S) = some (-nI k, Ro (wo τ.1 0 (up (τ.1 0) 10 k (τ.1 0 10 k + 1)), τ.2) o S) := by
  have h := neg_ok k (by omega) hk.1
  have ho' : (0 : Nat) ≠ o := fun e => ho e.symm
  unfold T_X2_refuse
  rw [h.1, c0, c7, if_neg (by rw [q_le (by omega) (by omega)]; omega), if_neg (by rw [q_le (by omega) (by omega)]; omega)]
  simp (disch := first | assumption | omega) only [rx_ld, rx_sd, n_mod, q_dec, ro_gf, ro_ld, ro_sd, ro_pf, e_vl, e_cV, e_cI, nI_add, q_mul, q_sub, q_rem, q_div, q_eq, q_lt, q_le, c0, c1, c2, c3, c4, c5, c6, c7, c8, c9, c10, c99]
theorem x3_no (hk : 1 ≤ k ∧ k ≤ 6) : T_X3_no (-nI k) (Ro τ 13 S) = some (-nI k, Ro τ 13 (up S 0 k (S 0 k + 1))) := by
  have h := neg_ok k (by omega) hk.1
  unfold T_X3_no
  rw [h.1]
  simp (disch := omega) only [n_mod, q_dec, ro_gf, ro_ld, ro_sd, ro_pf, e_vl, e_cV, e_cI, nI_add, q_mul, q_sub, q_rem, q_div, q_eq, q_lt, q_le, c0, c1, c2, c3, c4, c5, c6, c7, c8, c9, c10, c99]
theorem Inv.refuse (J : Inv G P) (hk : k < 7) : Inv (wo (wo G 0 (up (G 0) 10 k (G 0 10 k + 1))) 13 (up (G 13) 0 k (G 13 0 k + 1))) P := by
  obtain ⟨⟨j1, j2⟩, ⟨j3, j4, j5⟩, ⟨j6, j7, j8, j9⟩, ⟨j10, j11, j12⟩, ⟨j13, j14, j15⟩, j16⟩ := J
  have e0 : wo (wo G 0 (up (G 0) 10 k (G 0 10 k + 1))) 13 (up (G 13) 0 k (G 13 0 k + 1)) 0 = up (G 0) 10 k (G 0 10 k + 1) := by rw [wo_ne _ _ (by decide), wo_at]
  have e13 : wo (wo G 0 (up (G 0) 10 k (G 0 10 k + 1))) 13 (up (G 13) 0 k (G 13 0 k + 1)) 13 = up (G 13) 0 k (G 13 0 k + 1) := wo_at _ _ _
  have eo : ∀ o, o ≠ 0 → o ≠ 13 → wo (wo G 0 (up (G 0) 10 k (G 0 10 k + 1))) 13 (up (G 13) 0 k (G 13 0 k + 1)) o = G o := fun o h1 h2 => by rw [wo_ne _ _ h2, wo_ne _ _ h1]
  have u0 : ∀ f i, f ≠ 10 → up (G 0) 10 k (G 0 10 k + 1) f i = G 0 f i := fun f i h => up_ne _ (fun q => h q.1)
  have u13 : ∀ f i, f ≠ 0 → up (G 13) 0 k (G 13 0 k + 1) f i = G 13 f i := fun f i h => up_ne _ (fun q => h q.1)
  have eq : Eqs (G 13) (up (G 13) 0 k (G 13 0 k + 1)) := fun f i q => u13 f i (by have := q.1; omega)
  have ef : ∀ w, fr (up (G 13) 0 k (G 13 0 k + 1)) w = fr (G 13) w := fun w => by funext f i; exact u13 22 _ (by decide)
  unfold Inv
  rw [e0, e13, eo 1 (by decide) (by decide), eo 3 (by decide) (by decide)]
  simp only [u0 3 0 (by decide), u0 5 0 (by decide), u0 7 0 (by decide), u0 9 0 (by decide), u0 6 _ (by decide), u0 8 _ (by decide), u13 23 0 (by decide), u13 26 0 (by decide), u13 19 0 (by decide), u13 35 0 (by decide), u13 15 _ (by decide), u13 34 _ (by decide), ef]
  refine ⟨⟨eq.sb j2.1 j1, eq.wf j2.1, by rw [u13 _ _ (by decide)]; exact j2.2.1, by rw [u13 _ _ (by decide)]; exact j2.2.2⟩, ⟨j3, j4, j5⟩, ⟨j6, j7, fun q hq => ?_, j9⟩, ⟨j10, j11, j12⟩, ⟨j13, j14, j15⟩, fun q hq => ?_⟩
  · have := j9 q (by omega)
    rw [eo (P q) (by omega) (by omega)]
    exact j8 q hq
  · have := j16 q hq
    by_cases e : q = k
    · subst e
      rw [up_at, up_at, this]
    · rw [up_ne _ (fun z => e z.2), up_ne _ (fun z => e z.2)]
      exact this
theorem ok_ref {cls ref : ST → Option (Int32 × ST)} (k : Nat) (J : Inv G P) (hk : 1 ≤ k ∧ k ≤ 6) (h1 : cls (Ro (G, P) 2 (G 2)) = T_X2_refuse (-nI k) (Ro (G, P) 2 (G 2))) (h2 : ∀ τ, ref (Ro τ 13 (G 13)) = T_X3_no (-nI k) (Ro τ 13 (G 13))) : OKm G P cls ref := by
  rw [x2_refuse (by decide) hk, Ro_self] at h1
  refine ⟨-nI k, wo G 0 (up (G 0) 10 k (G 0 10 k + 1)), P, wo (wo G 0 (up (G 0) 10 k (G 0 10 k + 1))) 13 (up (G 13) 0 k (G 13 0 k + 1)), ?_, ?_, J.refuse (by omega)⟩
  · rw [h1]
    unfold Ro
    have e : wo (wo G 0 (up (G 0) 10 k (G 0 10 k + 1))) 2 (G 2) = wo G 0 (up (G 0) 10 k (G 0 10 k + 1)) := by
      have := wo_self (wo G 0 (up (G 0) 10 k (G 0 10 k + 1))) 2
      rw [wo_ne G _ (by decide)] at this
      exact this
    simp only [e]
  · have := h2 (wo G 0 (up (G 0) 10 k (G 0 10 k + 1)), P)
    rw [x3_no hk] at this
    have e : wo G 0 (up (G 0) 10 k (G 0 10 k + 1)) 13 = G 13 := wo_ne _ _ (by decide)
    have e2 := Ro_self (wo G 0 (up (G 0) 10 k (G 0 10 k + 1)), P) 13
    simp only [e] at e2
    rw [e2] at this
    exact this
end Refuse
/-! the checks of what is asked -/
theorem in_or_out (a : Int32) (n : Nat) (hn : n < 1000) : (∃ l, l < n ∧ a = nI l) ∨ (¬ a < nI 0 ∧ nI n ≤ a) ∨ a < nI 0 := by
  by_cases h : a < nI 0
  · exact Or.inr (Or.inr h)
  · by_cases h2 : nI n ≤ a
    · exact Or.inr (Or.inl ⟨h, h2⟩)
    · refine Or.inl ⟨a.toInt.toNat, ?_⟩
      rw [Int32.lt_iff_toInt_lt, nI_toInt (by omega)] at h
      rw [Int32.le_iff_toInt_le, nI_toInt (by omega)] at h2
      refine ⟨by omega, ?_⟩
      apply Int32.toInt_inj.mp
      rw [nI_toInt (by omega)]
      omega
section Checks
variable {G : GG} {P : Nat → Nat} {C : SS}
theorem chk_bearer (J : Inv G P) (a : Int32) : (∃ l, l < G 13 12 0 ∧ a = nI l ∧ (∀ C, T_X0_hasBearer 1 (Ro (G, P) 2 C) a = some (nI 1)) ∧ ∀ τ, T_X3_isBearer (Ro τ 13 (G 13)) a = some (nI 1)) ∨ ((∀ C, T_X0_hasBearer 1 (Ro (G, P) 2 C) a = some (nI 0)) ∧ ∀ τ, T_X3_isBearer (Ro τ 13 (G 13)) a = some (nI 0)) := by
  have h7 : G 1 7 0 = G 13 12 0 := J.sb.1.2.1
  have h12 := J.wf.nl
  unfold T_X0_hasBearer T_X3_isBearer
  rcases in_or_out a (G 13 12 0) (by omega) with ⟨l, hl, rfl⟩ | ⟨h1, h2⟩ | h
  · refine Or.inl ⟨l, hl, rfl, fun C => ?_, fun τ => ?_⟩
    · simp (disch := omega) only [if_neg, h7, Nat.reduceEqDiff, Nat.reduceLeDiff, reduceIte, eq_self, ng1, ng2, ng3, ng4, ng6, rx_gf, rx_ld, rx_pf, rx_sd, m9, NN_lt, lt_NN, NN_le, le_NN, if_true, if_false, n_mod, q_dec, ro_gf, ro_ld, ro_sd, ro_pf, e_vl, e_cV, e_cI, nI_add, q_mul, q_sub, q_rem, q_div, q_eq, q_lt, q_le, c0, c1, c2, c3, c4, c5, c6, c7, c8, c9, c10, c99]
    · simp (disch := omega) only [if_neg, h7, Nat.reduceEqDiff, Nat.reduceLeDiff, reduceIte, eq_self, ng1, ng2, ng3, ng4, ng6, rx_gf, rx_ld, rx_pf, rx_sd, m9, NN_lt, lt_NN, NN_le, le_NN, if_true, if_false, n_mod, q_dec, ro_gf, ro_ld, ro_sd, ro_pf, e_vl, e_cV, e_cI, nI_add, q_mul, q_sub, q_rem, q_div, q_eq, q_lt, q_le, c0, c1, c2, c3, c4, c5, c6, c7, c8, c9, c10, c99]
  · refine Or.inr ⟨fun C => ?_, fun τ => ?_⟩
    · rw [c0, if_neg h1, rx_gf (by decide)]
      show (if nI (G 1 7 0) ≤ a then _ else _) = _
      rw [h7, if_pos h2]
    · rw [c0, if_neg h1, ro_gf, if_pos h2]
  · refine Or.inr ⟨fun C => ?_, fun τ => ?_⟩
    · rw [c0, if_pos h]
    · rw [c0, if_pos h]
theorem chk_bag (J : Inv G P) (a : Int32) : (∃ l, l < G 13 11 0 ∧ a = nI l ∧ (∀ C, T_X0_hasBag 1 (Ro (G, P) 2 C) a = some (nI 1)) ∧ ∀ τ, T_X3_isBag (Ro τ 13 (G 13)) a = some (nI 1)) ∨ ((∀ C, T_X0_hasBag 1 (Ro (G, P) 2 C) a = some (nI 0)) ∧ ∀ τ, T_X3_isBag (Ro τ 13 (G 13)) a = some (nI 0)) := by
  have h7 : G 1 0 0 = G 13 11 0 := J.sb.1.1
  have h12 := J.wf.nb
  unfold T_X0_hasBag T_X3_isBag
  rcases in_or_out a (G 13 11 0) (by omega) with ⟨l, hl, rfl⟩ | ⟨h1, h2⟩ | h
  · refine Or.inl ⟨l, hl, rfl, fun C => ?_, fun τ => ?_⟩
    · simp (disch := omega) only [if_neg, h7, Nat.reduceEqDiff, Nat.reduceLeDiff, reduceIte, eq_self, ng1, ng2, ng3, ng4, ng6, rx_gf, rx_ld, rx_pf, rx_sd, m9, NN_lt, lt_NN, NN_le, le_NN, if_true, if_false, n_mod, q_dec, ro_gf, ro_ld, ro_sd, ro_pf, e_vl, e_cV, e_cI, nI_add, q_mul, q_sub, q_rem, q_div, q_eq, q_lt, q_le, c0, c1, c2, c3, c4, c5, c6, c7, c8, c9, c10, c99]
    · simp (disch := omega) only [if_neg, h7, Nat.reduceEqDiff, Nat.reduceLeDiff, reduceIte, eq_self, ng1, ng2, ng3, ng4, ng6, rx_gf, rx_ld, rx_pf, rx_sd, m9, NN_lt, lt_NN, NN_le, le_NN, if_true, if_false, n_mod, q_dec, ro_gf, ro_ld, ro_sd, ro_pf, e_vl, e_cV, e_cI, nI_add, q_mul, q_sub, q_rem, q_div, q_eq, q_lt, q_le, c0, c1, c2, c3, c4, c5, c6, c7, c8, c9, c10, c99]
  · refine Or.inr ⟨fun C => ?_, fun τ => ?_⟩
    · rw [c0, if_neg h1, rx_gf (by decide)]
      show (if nI (G 1 0 0) ≤ a then _ else _) = _
      rw [h7, if_pos h2]
    · rw [c0, if_neg h1, ro_gf, if_pos h2]
  · refine Or.inr ⟨fun C => ?_, fun τ => ?_⟩
    · rw [c0, if_pos h]
    · rw [c0, if_pos h]
theorem chk_place (a : Int32) : (∃ v, v ≤ 9 ∧ a = nI v ∧ (∀ σ, T_X2_isPlace σ a = some (nI 1)) ∧ ∀ σ, T_X3_isPlace σ a = some (nI 1)) ∨ ((∀ σ, T_X2_isPlace σ a = some (nI 0)) ∧ ∀ σ, T_X3_isPlace σ a = some (nI 0)) := by
  unfold T_X2_isPlace T_X3_isPlace
  rcases in_or_out a 10 (by omega) with ⟨l, hl, rfl⟩ | ⟨h1, h2⟩ | h
  · refine Or.inl ⟨l, by omega, rfl, fun σ => ?_, fun σ => ?_⟩
    · simp (disch := omega) only [if_neg, Nat.reduceEqDiff, Nat.reduceLeDiff, reduceIte, eq_self, ng1, ng2, ng3, ng4, ng6, rx_gf, rx_ld, rx_pf, rx_sd, m9, NN_lt, lt_NN, NN_le, le_NN, if_true, if_false, n_mod, q_dec, ro_gf, ro_ld, ro_sd, ro_pf, e_vl, e_cV, e_cI, nI_add, q_mul, q_sub, q_rem, q_div, q_eq, q_lt, q_le, c0, c1, c2, c3, c4, c5, c6, c7, c8, c9, c10, c99]
    · simp (disch := omega) only [if_neg, Nat.reduceEqDiff, Nat.reduceLeDiff, reduceIte, eq_self, ng1, ng2, ng3, ng4, ng6, rx_gf, rx_ld, rx_pf, rx_sd, m9, NN_lt, lt_NN, NN_le, le_NN, if_true, if_false, n_mod, q_dec, ro_gf, ro_ld, ro_sd, ro_pf, e_vl, e_cV, e_cI, nI_add, q_mul, q_sub, q_rem, q_div, q_eq, q_lt, q_le, c0, c1, c2, c3, c4, c5, c6, c7, c8, c9, c10, c99]
  · refine Or.inr ⟨fun σ => ?_, fun σ => ?_⟩
    · rw [c0, c10, if_neg h1, if_pos h2]
    · rw [c0, c10, if_neg h1, if_pos h2]
  · refine Or.inr ⟨fun σ => ?_, fun σ => ?_⟩
    · rw [c0, if_pos h]
    · rw [c0, if_pos h]
theorem le_lt {a : Int32} {n : Nat} (hn : n < 1000) : (a ≤ nI n ↔ ¬ nI (n + 1) ≤ a) := by
  rw [Int32.le_iff_toInt_le, Int32.le_iff_toInt_le, nI_toInt (by omega), nI_toInt (by omega)]
  omega
theorem lt_le {a : Int32} {n : Nat} (hn : n < 1000) : (nI n < a ↔ nI (n + 1) ≤ a) := by
  rw [Int32.lt_iff_toInt_lt, Int32.le_iff_toInt_le, nI_toInt (by omega), nI_toInt (by omega)]
  omega
theorem ge_lt {a : Int32} {n : Nat} (hn : n < 1000) : (nI n ≤ a ↔ ¬ a < nI n) := by
  rw [Int32.le_iff_toInt_le, Int32.lt_iff_toInt_lt, nI_toInt (by omega)]
  omega
theorem chk_hours (a : Int32) : (∃ n, n ≤ 60 ∧ a = nI n ∧ (∀ σ, T_X2_wrongHours σ a = some (nI 0)) ∧ ∀ σ, T_X3_notHours σ a = some (nI 0)) ∨ (∃ k, (k = 4 ∨ k = 6) ∧ (∀ σ, T_X2_wrongHours σ a = some (-nI k)) ∧ ∀ σ, T_X3_notHours σ a = some (-nI k)) := by
  unfold T_X2_wrongHours T_X3_notHours T_X3_bound
  simp only [cV_id]
  rcases in_or_out a 61 (by omega) with ⟨l, hl, rfl⟩ | ⟨h1, h2⟩ | h
  · refine Or.inl ⟨l, by omega, rfl, fun σ => ?_, fun σ => ?_⟩
    · simp (disch := omega) only [c60, if_pos, Nat.reduceEqDiff, Nat.reduceLeDiff, reduceIte, eq_self, ng1, ng2, ng3, ng4, ng6, rx_gf, rx_ld, rx_pf, rx_sd, m9, NN_lt, lt_NN, NN_le, le_NN, if_true, if_false, n_mod, q_dec, ro_gf, ro_ld, ro_sd, ro_pf, e_vl, e_cV, e_cI, nI_add, q_mul, q_sub, q_rem, q_div, q_eq, q_lt, q_le, c0, c1, c2, c3, c4, c5, c6, c7, c8, c9, c10, c99]
    · simp (disch := omega) only [c60, if_pos, Nat.reduceEqDiff, Nat.reduceLeDiff, reduceIte, eq_self, ng1, ng2, ng3, ng4, ng6, rx_gf, rx_ld, rx_pf, rx_sd, m9, NN_lt, lt_NN, NN_le, le_NN, if_true, if_false, n_mod, q_dec, ro_gf, ro_ld, ro_sd, ro_pf, e_vl, e_cV, e_cI, nI_add, q_mul, q_sub, q_rem, q_div, q_eq, q_lt, q_le, c0, c1, c2, c3, c4, c5, c6, c7, c8, c9, c10, c99]
  · have g1 : nI 0 ≤ a := (ge_lt (by decide)).mpr h1
    have g2 : ¬ a ≤ nI 60 := fun q => (le_lt (by decide)).mp q h2
    refine Or.inr ⟨6, Or.inr rfl, fun σ => ?_, fun σ => ?_⟩
    · rw [c0, c60, if_pos g1, if_neg g2, c6]
    · rw [c0, c60, if_pos g1, if_neg g2, c6]
  · have g1 : ¬ nI 0 ≤ a := fun q => (ge_lt (by decide)).mp q h
    refine Or.inr ⟨4, Or.inl rfl, fun σ => ?_, fun σ => ?_⟩
    · rw [c0, if_neg g1, c4]
    · rw [c0, if_neg g1, c4]
/-- the last of what is asked: up to m -/
theorem chk_what (a : Int32) (m : Nat) (hm : m < 20) : (∃ w, w ≤ m ∧ a = nI w ∧ ∀ σ, T_X3_isIn σ a (nI 0) (nI m) = some (nI 1)) ∨ ((a < nI 0 ∨ (¬ a < nI 0 ∧ ¬ a ≤ nI m)) ∧ ∀ σ, T_X3_isIn σ a (nI 0) (nI m) = some (nI 0)) := by
  unfold T_X3_isIn
  rcases in_or_out a (m + 1) (by omega) with ⟨l, hl, rfl⟩ | ⟨h1, h2⟩ | h
  · refine Or.inl ⟨l, by omega, rfl, fun σ => ?_⟩
    simp (disch := omega) only [if_neg, Nat.reduceEqDiff, Nat.reduceLeDiff, reduceIte, eq_self, ng1, ng2, ng3, ng4, ng6, rx_gf, rx_ld, rx_pf, rx_sd, m9, NN_lt, lt_NN, NN_le, le_NN, if_true, if_false, n_mod, q_dec, ro_gf, ro_ld, ro_sd, ro_pf, e_vl, e_cV, e_cI, nI_add, q_mul, q_sub, q_rem, q_div, q_eq, q_lt, q_le, c0, c1, c2, c3, c4, c5, c6, c7, c8, c9, c10, c99]
  · refine Or.inr ⟨Or.inr ⟨h1, fun q => (le_lt (by omega)).mp q h2⟩, fun σ => ?_⟩
    rw [if_neg h1, if_pos ((lt_le (by omega)).mpr h2), c0]
  · refine Or.inr ⟨Or.inl h, fun σ => ?_⟩
    rw [if_pos h, c0]
theorem x2_hw (n m : Nat) (hn : n ≤ 60) (a : Int32) (hm : m < 20) : (∃ w, w ≤ m ∧ a = nI w ∧ (∀ σ, T_X2_wrongHoursOrWhat σ (nI n) a (nI m) = some (nI 0)) ∧ ∀ σ, T_X3_isIn σ a (nI 0) (nI m) = some (nI 1)) ∨ ((∀ σ, T_X2_wrongHoursOrWhat σ (nI n) a (nI m) = some (-nI 2)) ∧ ∀ σ, T_X3_isIn σ a (nI 0) (nI m) = some (nI 0)) := by
  have e : ∀ σ, T_X2_wrongHours σ (nI n) = some (nI 0) := by
    intro σ
    unfold T_X2_wrongHours
    simp (disch := omega) only [c60, if_pos, Nat.reduceEqDiff, Nat.reduceLeDiff, reduceIte, eq_self, ng1, ng2, ng3, ng4, ng6, rx_gf, rx_ld, rx_pf, rx_sd, m9, NN_lt, lt_NN, NN_le, le_NN, if_true, if_false, n_mod, q_dec, ro_gf, ro_ld, ro_sd, ro_pf, e_vl, e_cV, e_cI, nI_add, q_mul, q_sub, q_rem, q_div, q_eq, q_lt, q_le, c0, c1, c2, c3, c4, c5, c6, c7, c8, c9, c10, c99]
  unfold T_X2_wrongHoursOrWhat
  rcases chk_what a m hm with ⟨w, hw, rfl, h⟩ | ⟨h1, h⟩
  · refine Or.inl ⟨w, hw, rfl, fun σ => ?_, h⟩
    simp (disch := omega) only [e, if_pos, if_neg, Nat.reduceEqDiff, Nat.reduceLeDiff, reduceIte, eq_self, ng1, ng2, ng3, ng4, ng6, rx_gf, rx_ld, rx_pf, rx_sd, m9, NN_lt, lt_NN, NN_le, le_NN, if_true, if_false, n_mod, q_dec, ro_gf, ro_ld, ro_sd, ro_pf, e_vl, e_cV, e_cI, nI_add, q_mul, q_sub, q_rem, q_div, q_eq, q_lt, q_le, c0, c1, c2, c3, c4, c5, c6, c7, c8, c9, c10, c99]
  · refine Or.inr ⟨fun σ => ?_, h⟩
    rw [e]
    simp only [e_cV, c0, c2, if_true]
    rcases h1 with q | ⟨q1, q2⟩
    · simp only [q, if_true]
    · simp only [q1, q2, if_false]
theorem x2_hwBad {a b : Int32} {m k : Nat} (hk : k = 4 ∨ k = 6) (h : ∀ σ, T_X2_wrongHours σ a = some (-nI k)) (σ : ST) : T_X2_wrongHoursOrWhat σ a b (nI m) = some (-nI k) := by
  unfold T_X2_wrongHoursOrWhat
  rw [h]
  have := (neg_ok k (by omega) (by omega)).2.1
  simp only [e_cV, c0, this, if_false]
theorem chk_two (J : Inv G P) (a b : Int32) : (∃ x y, x < G 13 12 0 ∧ y < G 13 12 0 ∧ x ≠ y ∧ a = nI x ∧ b = nI y ∧ (∀ C, T_X2_areTwo (Ro (G, P) 2 C) a b = some (nI 1)) ∧ ∀ τ, T_X3_areTwo (Ro τ 13 (G 13)) a b = some (nI 1)) ∨ ((∀ C, T_X2_areTwo (Ro (G, P) 2 C) a b = some (nI 0)) ∧ ∀ τ, T_X3_areTwo (Ro τ 13 (G 13)) a b = some (nI 0)) := by
  have h12 := J.wf.nl
  unfold T_X2_areTwo T_X3_areTwo
  rcases chk_bearer J a with ⟨x, hx, rfl, e1, e2⟩ | ⟨e1, e2⟩
  · rcases chk_bearer J b with ⟨y, hy, rfl, e3, e4⟩ | ⟨e3, e4⟩
    · by_cases e : x = y
      · refine Or.inr ⟨fun C => ?_, fun τ => ?_⟩
        · simp (disch := omega) only [e1, e3, e, Nat.reduceEqDiff, Nat.reduceLeDiff, reduceIte, eq_self, ng1, ng2, ng3, ng4, ng6, rx_gf, rx_ld, rx_pf, rx_sd, m9, NN_lt, lt_NN, NN_le, le_NN, if_true, if_false, n_mod, q_dec, ro_gf, ro_ld, ro_sd, ro_pf, e_vl, e_cV, e_cI, nI_add, q_mul, q_sub, q_rem, q_div, q_eq, q_lt, q_le, c0, c1, c2, c3, c4, c5, c6, c7, c8, c9, c10, c99]
        · simp (disch := omega) only [e2, e4, e, Nat.reduceEqDiff, Nat.reduceLeDiff, reduceIte, eq_self, ng1, ng2, ng3, ng4, ng6, rx_gf, rx_ld, rx_pf, rx_sd, m9, NN_lt, lt_NN, NN_le, le_NN, if_true, if_false, n_mod, q_dec, ro_gf, ro_ld, ro_sd, ro_pf, e_vl, e_cV, e_cI, nI_add, q_mul, q_sub, q_rem, q_div, q_eq, q_lt, q_le, c0, c1, c2, c3, c4, c5, c6, c7, c8, c9, c10, c99]
      · refine Or.inl ⟨x, y, hx, hy, e, rfl, rfl, fun C => ?_, fun τ => ?_⟩
        · simp (disch := omega) only [e1, e3, e, Nat.reduceEqDiff, Nat.reduceLeDiff, reduceIte, eq_self, ng1, ng2, ng3, ng4, ng6, rx_gf, rx_ld, rx_pf, rx_sd, m9, NN_lt, lt_NN, NN_le, le_NN, if_true, if_false, n_mod, q_dec, ro_gf, ro_ld, ro_sd, ro_pf, e_vl, e_cV, e_cI, nI_add, q_mul, q_sub, q_rem, q_div, q_eq, q_lt, q_le, c0, c1, c2, c3, c4, c5, c6, c7, c8, c9, c10, c99]
        · simp (disch := omega) only [e2, e4, e, Nat.reduceEqDiff, Nat.reduceLeDiff, reduceIte, eq_self, ng1, ng2, ng3, ng4, ng6, rx_gf, rx_ld, rx_pf, rx_sd, m9, NN_lt, lt_NN, NN_le, le_NN, if_true, if_false, n_mod, q_dec, ro_gf, ro_ld, ro_sd, ro_pf, e_vl, e_cV, e_cI, nI_add, q_mul, q_sub, q_rem, q_div, q_eq, q_lt, q_le, c0, c1, c2, c3, c4, c5, c6, c7, c8, c9, c10, c99]
    · refine Or.inr ⟨fun C => ?_, fun τ => ?_⟩
      · simp (disch := omega) only [e1, e3, Nat.reduceEqDiff, Nat.reduceLeDiff, reduceIte, eq_self, ng1, ng2, ng3, ng4, ng6, rx_gf, rx_ld, rx_pf, rx_sd, m9, NN_lt, lt_NN, NN_le, le_NN, if_true, if_false, n_mod, q_dec, ro_gf, ro_ld, ro_sd, ro_pf, e_vl, e_cV, e_cI, nI_add, q_mul, q_sub, q_rem, q_div, q_eq, q_lt, q_le, c0, c1, c2, c3, c4, c5, c6, c7, c8, c9, c10, c99]
      · simp (disch := omega) only [e2, e4, Nat.reduceEqDiff, Nat.reduceLeDiff, reduceIte, eq_self, ng1, ng2, ng3, ng4, ng6, rx_gf, rx_ld, rx_pf, rx_sd, m9, NN_lt, lt_NN, NN_le, le_NN, if_true, if_false, n_mod, q_dec, ro_gf, ro_ld, ro_sd, ro_pf, e_vl, e_cV, e_cI, nI_add, q_mul, q_sub, q_rem, q_div, q_eq, q_lt, q_le, c0, c1, c2, c3, c4, c5, c6, c7, c8, c9, c10, c99]
  · refine Or.inr ⟨fun C => ?_, fun τ => ?_⟩
    · simp (disch := omega) only [e1, Nat.reduceEqDiff, Nat.reduceLeDiff, reduceIte, eq_self, ng1, ng2, ng3, ng4, ng6, rx_gf, rx_ld, rx_pf, rx_sd, m9, NN_lt, lt_NN, NN_le, le_NN, if_true, if_false, n_mod, q_dec, ro_gf, ro_ld, ro_sd, ro_pf, e_vl, e_cV, e_cI, nI_add, q_mul, q_sub, q_rem, q_div, q_eq, q_lt, q_le, c0, c1, c2, c3, c4, c5, c6, c7, c8, c9, c10, c99]
    · simp (disch := omega) only [e2, Nat.reduceEqDiff, Nat.reduceLeDiff, reduceIte, eq_self, ng1, ng2, ng3, ng4, ng6, rx_gf, rx_ld, rx_pf, rx_sd, m9, NN_lt, lt_NN, NN_le, le_NN, if_true, if_false, n_mod, q_dec, ro_gf, ro_ld, ro_sd, ro_pf, e_vl, e_cV, e_cI, nI_add, q_mul, q_sub, q_rem, q_div, q_eq, q_lt, q_le, c0, c1, c2, c3, c4, c5, c6, c7, c8, c9, c10, c99]
end Checks
