/-! CHANGES: what stays of the tie -/
theorem wo_comm (G : GG) {a b : Nat} (X Y : SS) (h : a ≠ b) : wo (wo G a X) b Y = wo (wo G b Y) a X := by
  funext o
  unfold wo
  by_cases e1 : o = b
  · rw [if_pos e1]
    by_cases e2 : o = a
    · omega
    · rw [if_neg e2, if_pos e1]
  · rw [if_neg e1]
    by_cases e2 : o = a
    · rw [if_pos e2, if_pos e2]
    · rw [if_neg e2, if_neg e2, if_neg e1]
def IvI (A N : SS) (F : SS) : Prop := A 3 0 = F 23 0 ∧ A 3 0 ≤ 1 ∧ (A 3 0 ≠ 0 → SG N (fr F 0))
def IvP (A : SS) (G : GG) (P : Nat → Nat) (F : SS) : Prop := A 5 0 = F 26 0 ∧ A 5 0 ≤ 8 ∧ (∀ k, k < A 5 0 → SG (G (P k)) (fr F (3 + k))) ∧ (∀ k, k < 8 → 4 ≤ P k ∧ P k ≤ 11 ∧ ∀ j, j < 8 → P k = P j → k = j)
def IvL (A F : SS) : Prop := A 7 0 = F 19 0 ∧ A 7 0 ≤ 96 ∧ ∀ k, k < A 7 0 → A 6 k = F 15 k ∧ A 6 k ≤ 255
def IvR (A F : SS) : Prop := A 9 0 = F 35 0 ∧ A 9 0 ≤ 12 ∧ ∀ k, k < A 9 0 → A 8 k = F 34 k ∧ A 8 k ≤ 99
def IvC (A F : SS) : Prop := ∀ k, k < 7 → A 10 k = F 0 k
section Pieces
variable {α : Type} {G G1 : GG} {P P1 : Nat → Nat} {F C A N : SS}
theorem Inv.pI (J : Inv G P) : IvI (G 0) (G 3) (G 13) := J.2.1
theorem Inv.pP (J : Inv G P) : IvP (G 0) G P (G 13) := J.2.2.1
theorem Inv.pL (J : Inv G P) : IvL (G 0) (G 13) := J.2.2.2.1
theorem Inv.pR (J : Inv G P) : IvR (G 0) (G 13) := J.2.2.2.2.1
theorem Inv.pC (J : Inv G P) : IvC (G 0) (G 13) := J.2.2.2.2.2
theorem inv_of (h1 : SB (G1 1) F) (h2 : TK F) (h3 : IvI (G1 0) (G1 3) F) (h4 : IvP (G1 0) G1 P F) (h5 : IvL (G1 0) F) (h6 : IvR (G1 0) F) (h7 : IvC (G1 0) F) : Inv (wo G1 13 F) P := by
  unfold Inv
  rw [wo_at, wo_ne _ _ (show (0 : Nat) ≠ 13 by decide), wo_ne _ _ (show (1 : Nat) ≠ 13 by decide), wo_ne _ _ (show (3 : Nat) ≠ 13 by decide)]
  refine ⟨⟨h1, h2⟩, h3, ⟨h4.1, h4.2.1, fun k hk => ?_, h4.2.2.2⟩, h5, h6, h7⟩
  have := h4.2.2.2 k (by have := h4.2.1; omega)
  rw [wo_ne _ _ (by omega)]
  exact h4.2.2.1 k hk
theorem IvI.same {A' N' F' : SS} (h : IvI A N F) (h1 : A' 3 0 = A 3 0) (h2 : N' = N) (h3 : F' 23 0 = F 23 0) (h4 : ∀ j, j < 60 → F' 22 j = F 22 j) : IvI A' N' F' := by
  subst h2
  refine ⟨by rw [h1, h3]; exact h.1, by rw [h1]; exact h.2.1, fun q => ?_⟩
  rw [h1] at q
  exact (h.2.2 q).congr (fun f i z => h4 _ (by have := off_lt z; omega))
theorem IvL.same {A' F' : SS} (h : IvL A F) (h1 : ∀ f i, (f = 6 ∨ f = 7) → A' f i = A f i) (h2 : ∀ f i, (f = 15 ∨ f = 19) → F' f i = F f i) : IvL A' F' := by
  refine ⟨by rw [h1 _ _ (Or.inr rfl), h2 _ _ (Or.inr rfl)]; exact h.1, by rw [h1 _ _ (Or.inr rfl)]; exact h.2.1, fun k hk => ?_⟩
  rw [h1 _ _ (Or.inr rfl)] at hk
  rw [h1 _ _ (Or.inl rfl), h2 _ _ (Or.inl rfl)]
  exact h.2.2 k hk
theorem IvR.same {A' F' : SS} (h : IvR A F) (h1 : ∀ f i, (f = 8 ∨ f = 9) → A' f i = A f i) (h2 : ∀ f i, (f = 34 ∨ f = 35) → F' f i = F f i) : IvR A' F' := by
  refine ⟨by rw [h1 _ _ (Or.inr rfl), h2 _ _ (Or.inr rfl)]; exact h.1, by rw [h1 _ _ (Or.inr rfl)]; exact h.2.1, fun k hk => ?_⟩
  rw [h1 _ _ (Or.inr rfl)] at hk
  rw [h1 _ _ (Or.inl rfl), h2 _ _ (Or.inl rfl)]
  exact h.2.2 k hk
theorem IvC.same {A' F' : SS} (h : IvC A F) (h1 : ∀ i, A' 10 i = A 10 i) (h2 : ∀ i, F' 0 i = F 0 i) : IvC A' F' := fun k hk => by rw [h1, h2]; exact h k hk
theorem IvP.same {A' F' : SS} {G' : GG} (h : IvP A G P F) (h1 : A' 5 0 = A 5 0) (h2 : ∀ o, 4 ≤ o → o ≤ 11 → G' o = G o) (h3 : F' 26 0 = F 26 0) (h4 : ∀ j, 180 ≤ j → F' 22 j = F 22 j) : IvP A' G' P F' := by
  refine ⟨by rw [h1, h3]; exact h.1, by rw [h1]; exact h.2.1, fun k hk => ?_, h.2.2.2⟩
  rw [h1] at hk
  have hk8 := h.2.1
  have p := h.2.2.2 k (by omega)
  rw [h2 _ p.1 p.2.1]
  exact (h.2.2.1 k hk).congr (fun f i z => h4 _ (by omega))
theorem IvP.none {A' F' : SS} {G' : GG} (h : IvP A G P F) (h1 : A' 5 0 = 0) (h3 : F' 26 0 = 0) : IvP A' G' P F' :=
  ⟨by rw [h1, h3], by rw [h1]; omega, fun k hk => by rw [h1] at hk; omega, h.2.2.2⟩
/-- both sides, in general -/
theorem ok_gen {cls ref : ST → Option (α × ST)} {r : α} (h1 : cls (nV G, P) = some (r, (nV G1, P1))) (e : G1 13 = G 13) (h2 : ∀ τ, ref (Ro τ 13 (G 13)) = some (r, Ro τ 13 F)) (h3 : Inv (wo G1 13 F) P1) : OKm G P cls ref := by
  refine ⟨r, G1, P1, wo G1 13 F, h1, ?_, h3⟩
  have := h2 (G1, P1)
  rw [← e, Ro_self] at this
  exact this
/-- the street alone is changed, nothing can be taken back -/
theorem inv_fresh (J : Inv G P) (h0 : ∀ f i, f ≠ 5 → f ≠ 11 → G1 0 f i = G 0 f i) (h5 : G1 0 5 0 = 0) (h3 : G1 3 = G 3) (hN : SB (G1 1) F) (hF : TK F) (n : ∀ g j, (g = 0 ∨ g = 15 ∨ g = 19 ∨ g = 23 ∨ g = 34 ∨ g = 35) → F g j = G 13 g j) (n26 : F 26 0 = 0) (k : ∀ j, j < 60 → F 22 j = G 13 22 j) : Inv (wo G1 13 F) P :=
  inv_of hN hF (J.pI.same (h0 _ _ (by decide) (by decide)) h3 (n _ _ (by omega)) k) (J.pP.none h5 n26) (J.pL.same (fun f i q => h0 f i (by omega) (by omega)) (fun f i q => n f i (by omega))) (J.pR.same (fun f i q => h0 f i (by omega) (by omega)) (fun f i q => n f i (by omega))) (J.pC.same (fun i => h0 _ _ (by decide) (by decide)) (fun i => n _ _ (by omega)))
/-- the street alone is changed -/
theorem inv_now (J : Inv G P) (hN : SB N F) (hF : TK F) (n : ∀ g j, (g = 0 ∨ 15 ≤ g) → F g j = G 13 g j) : Inv (wo (wo G 1 N) 13 F) P := by
  have e0 : wo G 1 N 0 = G 0 := wo_ne _ _ (by decide)
  have e3 : wo G 1 N 3 = G 3 := wo_ne _ _ (by decide)
  have e1 : wo G 1 N 1 = N := wo_at _ _ _
  refine inv_of (by rw [e1]; exact hN) hF ?_ ?_ ?_ ?_ ?_
  · rw [e0, e3]; exact J.pI.same rfl rfl (n _ _ (by omega)) (fun j _ => n _ _ (by omega))
  · rw [e0]; exact J.pP.same rfl (fun o h1 h2 => wo_ne _ _ (by omega)) (n _ _ (by omega)) (fun j _ => n _ _ (by omega))
  · rw [e0]; exact J.pL.same (fun _ _ _ => rfl) (fun f i q => n _ _ (by omega))
  · rw [e0]; exact J.pR.same (fun _ _ _ => rfl) (fun f i q => n _ _ (by omega))
  · rw [e0]; exact J.pC.same (fun _ => rfl) (fun i => n _ _ (by omega))
/-- letters or the row alone are changed -/
theorem inv_tape (J : Inv G P) (hA : ∀ f i, f ≠ 6 → f ≠ 7 → f ≠ 8 → f ≠ 9 → A f i = G 0 f i) (hF : ∀ g j, g ≠ 15 → g ≠ 19 → g ≠ 34 → g ≠ 35 → F g j = G 13 g j) (hL : IvL A F) (hR : IvR A F) : Inv (wo (wo G 0 A) 13 F) P := by
  have e0 : wo G 0 A 0 = A := wo_at _ _ _
  have e3 : wo G 0 A 3 = G 3 := wo_ne _ _ (by decide)
  have e1 : wo G 0 A 1 = G 1 := wo_ne _ _ (by decide)
  have eq : Eqs (G 13) F := fun f i q => hF f i (by have := q.2.1; omega) (by have := q.2.1; omega) (by have := q.2.1; omega) (by have := q.2.1; omega)
  refine inv_of (by rw [e1]; exact eq.sb J.wf J.sb) ⟨eq.wf J.wf, by rw [hF _ _ (by decide) (by decide) (by decide) (by decide)]; exact J.tk.2.1, by rw [hF _ _ (by decide) (by decide) (by decide) (by decide)]; exact J.tk.2.2⟩ ?_ ?_ ?_ ?_ ?_
  · rw [e0, e3]; exact J.pI.same (hA _ _ (by decide) (by decide) (by decide) (by decide)) rfl (hF _ _ (by decide) (by decide) (by decide) (by decide)) (fun j _ => hF _ _ (by decide) (by decide) (by decide) (by decide))
  · rw [e0]; exact J.pP.same (hA _ _ (by decide) (by decide) (by decide) (by decide)) (fun o h1 h2 => wo_ne _ _ (by omega)) (hF _ _ (by decide) (by decide) (by decide) (by decide)) (fun j _ => hF _ _ (by decide) (by decide) (by decide) (by decide))
  · rw [e0]; exact hL
  · rw [e0]; exact hR
  · rw [e0]; exact J.pC.same (fun _ => hA _ _ (by decide) (by decide) (by decide) (by decide)) (fun i => hF _ _ (by decide) (by decide) (by decide) (by decide))
theorem Ro_G {o : Nat} : (nV G, P) = Ro (G, P) o (G o) := (Ro_self (G, P) o).symm
theorem Ro_nV {o : Nat} : Ro (G, P) o C = (nV (wo G o C), P) := rfl
/-! feed, row, clear -/
theorem ok_feed (J : Inv G P) (a0 : Int32) : OKm G P (T_X2_feed a0) (T_X3_feed a0) := by
  obtain ⟨l1, l2, l3⟩ := J.pL
  rcases bnd_chk a0 0 255 (by decide) (by decide) with ⟨n, h1, hn, rfl, e1, e2⟩ | e1 | ⟨e1, e2⟩
  · by_cases hc : G 0 7 0 = 96
    · refine ok_ref 6 J (by decide) ?_ (fun τ => ?_)
      · unfold T_X2_feed T_X2_feed_j27
        rw [c0, if_pos e1, c255, if_neg (by rw [q_lt (by omega) (by omega)]; omega), rx_gf (by decide)]
        show (if nI (G 0 7 0) < 96 then _ else _) = _
        rw [hc, c96, if_neg (by decide), cI_id, c6]
      · unfold T_X3_feed T_X3_feed_j25 T_X3_bound
        rw [c0, if_pos e1, c255, if_pos e2]
        simp only [e_cV]
        rw [if_pos (by trivial), ro_gf, ← l1, hc, c96, if_pos (by trivial), c6, if_neg (by decide), cI_id]
    · have hc' : G 0 7 0 < 96 := by omega
      refine ok_gen (G1 := wo G 0 (up (up (G 0) 6 (G 0 7 0) n) 7 0 (G 0 7 0 + 1))) (F := up (up (G 13) 15 (G 13 19 0) n) 19 0 (G 13 19 0 + 1)) (P1 := P) (r := nI (G 0 7 0 + 1)) ?_ (wo_ne _ _ (by decide)) (fun τ => ?_) ?_
      · rw [Ro_G (o := 0)]
        unfold T_X2_feed
        rw [c0, if_pos e1, c255, if_neg (by rw [q_lt (by omega) (by omega)]; omega), ro_gf, c96, if_pos (by rw [q_lt (by omega) (by omega)]; omega), ro_gf, ro_sd (by omega) (by omega), ro_gf, up_ne _ (by omega), c1, nI_add, ro_pf, ro_gf, up_at]
        rfl
      · have hl : G 13 19 0 < 96 := by omega
        unfold T_X3_feed T_X3_feed_j25 T_X3_bound
        rw [c0, if_pos e1, c255, if_pos e2]
        simp only [e_cV]
        rw [if_pos (by trivial), ro_gf, c96, if_neg (by rw [q_eq (by omega) (by omega)]; omega), if_pos (by trivial), ro_gf, ro_sd (by omega) (by omega), ro_gf, up_ne _ (by omega), c1, nI_add, ro_pf, ro_gf, up_at, l1]
      · refine inv_tape J (fun f i h1 h2 _ _ => by rw [up_ne _ (by omega), up_ne _ (by omega)]) (fun g j h1 h2 _ _ => by rw [up_ne _ (by omega), up_ne _ (by omega)]) ⟨by rw [up_at, up_at, l1], by rw [up_at]; omega, fun k hk => ?_⟩ (J.pR.same (fun f i q => by rw [up_ne _ (by omega), up_ne _ (by omega)]) (fun f i q => by rw [up_ne _ (by omega), up_ne _ (by omega)]))
        rw [up_at] at hk
        rw [up_ne (up (G 0) 6 (G 0 7 0) n) (show ¬ (6 = 7 ∧ k = 0) by omega), up_ne (up (G 13) 15 (G 13 19 0) n) (show ¬ (15 = 19 ∧ k = 0) by omega)]
        by_cases e : k = G 0 7 0
        · rw [e, up_at, l1, up_at]; omega
        · rw [up_ne _ (fun q => e q.2), up_ne _ (fun q => e (by rw [l1]; exact q.2))]
          exact l3 k (by omega)
  · refine ok_ref 4 J (by decide) ?_ (fun τ => ?_)
    · unfold T_X2_feed
      rw [c0, if_neg e1, cI_id, c4]
    · unfold T_X3_feed T_X3_feed_j25 T_X3_bound
      rw [c0, if_neg e1]
      simp only [e_cV]
      rw [c4, if_neg (by decide), if_neg (by decide), cI_id]
  · refine ok_ref 6 J (by decide) ?_ (fun τ => ?_)
    · unfold T_X2_feed T_X2_feed_j27
      rw [c0, if_pos e1, c255, if_pos (by rw [lt_le (by decide)]; exact Classical.byContradiction (fun q => e2 ((le_lt (by decide)).mpr q))), cI_id, c6]
    · unfold T_X3_feed T_X3_feed_j25 T_X3_bound
      rw [c0, if_pos e1, c255, if_neg e2]
      simp only [e_cV]
      rw [c6, if_neg (by decide), if_neg (by decide), cI_id]
theorem ok_row (J : Inv G P) (a0 : Int32) : OKm G P (T_X2_row a0) (T_X3_row a0) := by
  obtain ⟨l1, l2, l3⟩ := J.pR
  rcases bnd_chk a0 0 99 (by decide) (by decide) with ⟨n, h1, hn, rfl, e1, e2⟩ | e1 | ⟨e1, e2⟩
  · by_cases hc : G 0 9 0 = 12
    · refine ok_ref 6 J (by decide) ?_ (fun τ => ?_)
      · unfold T_X2_row T_X2_row_j26
        rw [c0, if_pos e1, c99, if_neg (by rw [q_lt (by omega) (by omega)]; omega), rx_gf (by decide)]
        show (if nI (G 0 9 0) < 12 then _ else _) = _
        rw [hc, c12, if_neg (by decide), cI_id, c6]
      · unfold T_X3_row T_X3_row_j24 T_X3_bound
        rw [c0, if_pos e1, c99, if_pos e2]
        simp only [e_cV]
        rw [if_pos (by trivial), ro_gf, ← l1, hc, c12, if_pos (by trivial), c6, if_neg (by decide), cI_id]
    · have hc' : G 0 9 0 < 12 := by omega
      refine ok_gen (G1 := wo G 0 (up (up (G 0) 8 (G 0 9 0) n) 9 0 (G 0 9 0 + 1))) (F := up (up (G 13) 34 (G 13 35 0) n) 35 0 (G 13 35 0 + 1)) (P1 := P) (r := nI (G 0 9 0 + 1)) ?_ (wo_ne _ _ (by decide)) (fun τ => ?_) ?_
      · rw [Ro_G (o := 0)]
        unfold T_X2_row
        rw [c0, if_pos e1, c99, if_neg (by rw [q_lt (by omega) (by omega)]; omega), ro_gf, c12, if_pos (by rw [q_lt (by omega) (by omega)]; omega), ro_gf, ro_sd (by omega) (by omega), ro_gf, up_ne _ (by omega), c1, nI_add, ro_pf, ro_gf, up_at]
        rfl
      · have hl : G 13 35 0 < 12 := by omega
        unfold T_X3_row T_X3_row_j24 T_X3_bound
        rw [c0, if_pos e1, c99, if_pos e2]
        simp only [e_cV]
        rw [if_pos (by trivial), ro_gf, c12, if_neg (by rw [q_eq (by omega) (by omega)]; omega), if_pos (by trivial), ro_gf, ro_sd (by omega) (by omega), ro_gf, up_ne _ (by omega), c1, nI_add, ro_pf, ro_gf, up_at, l1]
      · refine inv_tape J (fun f i _ _ h1 h2 => by rw [up_ne _ (by omega), up_ne _ (by omega)]) (fun g j _ _ h1 h2 => by rw [up_ne _ (by omega), up_ne _ (by omega)]) (J.pL.same (fun f i q => by rw [up_ne _ (by omega), up_ne _ (by omega)]) (fun f i q => by rw [up_ne _ (by omega), up_ne _ (by omega)])) ⟨by rw [up_at, up_at, l1], by rw [up_at]; omega, fun k hk => ?_⟩
        rw [up_at] at hk
        rw [up_ne (up (G 0) 8 (G 0 9 0) n) (show ¬ (8 = 9 ∧ k = 0) by omega), up_ne (up (G 13) 34 (G 13 35 0) n) (show ¬ (34 = 35 ∧ k = 0) by omega)]
        by_cases e : k = G 0 9 0
        · rw [e, up_at, l1, up_at]; omega
        · rw [up_ne _ (fun q => e q.2), up_ne _ (fun q => e (by rw [l1]; exact q.2))]
          exact l3 k (by omega)
  · refine ok_ref 4 J (by decide) ?_ (fun τ => ?_)
    · unfold T_X2_row
      rw [c0, if_neg e1, cI_id, c4]
    · unfold T_X3_row T_X3_row_j24 T_X3_bound
      rw [c0, if_neg e1]
      simp only [e_cV]
      rw [c4, if_neg (by decide), if_neg (by decide), cI_id]
  · refine ok_ref 6 J (by decide) ?_ (fun τ => ?_)
    · unfold T_X2_row T_X2_row_j26
      rw [c0, if_pos e1, c99, if_pos (by rw [lt_le (by decide)]; exact Classical.byContradiction (fun q => e2 ((le_lt (by decide)).mpr q))), cI_id, c6]
    · unfold T_X3_row T_X3_row_j24 T_X3_bound
      rw [c0, if_pos e1, c99, if_neg e2]
      simp only [e_cV]
      rw [c6, if_neg (by decide), if_neg (by decide), cI_id]
/-- the row emptied -/
theorem inv_clear (J : Inv G P) : Inv (wo (wo G 0 (up (G 0) 9 0 0)) 13 (up (G 13) 35 0 0)) P :=
  inv_tape J (fun f i _ _ _ h => up_ne _ (fun q => h q.1)) (fun g j _ _ _ h => up_ne _ (fun q => h q.1)) (J.pL.same (fun f i q => up_ne _ (by omega)) (fun f i q => up_ne _ (by omega))) ⟨by rw [up_at, up_at], by rw [up_at]; omega, fun k hk => by rw [up_at] at hk; omega⟩
theorem ok_clear (J : Inv G P) : OKm G P (T_X2_clear) (T_X3_clear) := by
  have l1 := J.pR.1
  refine ok_gen (G1 := wo G 0 (up (G 0) 9 0 0)) (F := up (G 13) 35 0 0) (P1 := P) (r := nI (G 0 9 0)) ?_ (wo_ne _ _ (by decide)) (fun τ => ?_) (inv_clear J)
  · rw [Ro_G (o := 0)]
    unfold T_X2_clear
    rw [ro_gf, c0, ro_pf]
    rfl
  · unfold T_X3_clear
    rw [ro_gf, c0, ro_pf, l1]
/-! bag, bearer -/
theorem neg_lt {a : Int32} : ¬ nI 0 ≤ a ↔ a < nI 0 := by
  rw [Int32.le_iff_toInt_le, Int32.lt_iff_toInt_lt]; omega
theorem dig_chk (a : Int32) (m : Nat) (hm : m < 100) : (∃ n, n ≤ m ∧ a = nI n) ∨ (a < nI 0) ∨ (¬ a < nI 0 ∧ nI (m + 1) ≤ a ∧ nI m < a) := by
  rcases in_or_out a (m + 1) (by omega) with ⟨l, hl, rfl⟩ | ⟨h1, h2⟩ | h
  · exact Or.inl ⟨l, by omega, rfl⟩
  · exact Or.inr (Or.inr ⟨h1, h2, (lt_le (by omega)).mpr h2⟩)
  · exact Or.inr (Or.inl h)
end Pieces
