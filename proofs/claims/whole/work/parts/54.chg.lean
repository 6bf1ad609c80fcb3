/-! CHANGES: image, restore, back, and what is remembered -/
def sh (S : SS) (v : Nat) : SS := fun g j => if g = 22 ∧ 180 ≤ j ∧ j < v then S 22 (j + 60) else S g j
section Past
variable {G : GG} {P : Nat → Nat} {C S F X D : SS} {τ : TT}
theorem fr_kp {w : Nat} : Eqs S (fr (kpS w S) w) := fun f i q => kpS_fr q
theorem fr_oth {w w' : Nat} (h : w ≠ w') : Eqs (fr S w') (fr (kpS w S) w') := by
  intro f i q
  have := off_lt q
  refine kpS_out ?_
  rcases Nat.lt_or_ge w' w with h1 | h1
  · exact Or.inl (by omega)
  · exact Or.inr (by omega)
theorem ok_image (J : Inv G P) : OKm G P (T_X2_image) (T_X3_image) := by
  have K := J.tk
  have r14 : G 1 14 0 = G 13 13 0 := J.sb.1.2.2.2
  obtain ⟨C, c1', c2'⟩ := x0_copy (τ := (G, P)) (o := 3) (o0 := 1) (C := G 3) (by decide)
  have K2 : TK (up (G 13) 23 0 1) := ⟨K.1.upT (by decide), by rw [up_ne _ (by omega)]; exact K.2.1, by rw [up_ne _ (by omega)]; exact K.2.2⟩
  have eq : Eqs (G 13) (up (G 13) 23 0 1) := fun f i q => up_ne _ (by have := q.2.1; omega)
  have e22 : ∀ j, up (G 13) 23 0 1 22 j = G 13 22 j := fun j => up_ne _ (by omega)
  have R : SB (G 1) (kpS 0 (up (G 13) 23 0 1)) := (eq.trans Eqs.keep).sb K.1 J.sb
  have k0 := fun g j (h : g ≠ 22 ∧ g ≠ 24 ∧ g ≠ 25) => kpS_oth (w := 0) (S := up (G 13) 23 0 1) (g := g) (j := j) h
  refine ok_gen (G1 := wo (wo G 0 (up (G 0) 3 0 1)) 3 C) (P1 := P) (F := kpS 0 (up (G 13) 23 0 1)) (r := nI (G 13 13 0)) ?_ ?_ (fun τ => ?_) (inv_of ?_ K2.keep ?_ ?_ ?_ ?_ ?_)
  · rw [Ro_G (o := 3)]
    unfold T_X2_image
    rw [c1']
    simp only [e_cV, e_rz1]
    rw [c1, rx_pf (by decide)]
    show gf (Ro (wo G 0 (up (G 0) 3 0 1), P) 3 C) 1 14 _ = _
    rw [rx_gf (by decide)]
    show some (nI (wo G 0 (up (G 0) 3 0 1) 1 14 0), _) = _
    rw [wo_ne _ _ (by decide), r14]
    rfl
  · rw [wo_ne _ _ (by decide), wo_ne _ _ (by decide)]
  · unfold T_X3_image
    rw [e_rz1, c1, ro_pf, c0, x3_keepAll (w := 0) (by decide)]
    simp only [e_cV]
    rw [ro_gf, k0 13 0 (by decide), up_ne _ (by omega)]
  · rw [wo_ne _ _ (by decide), wo_ne _ _ (by decide)]; exact R
  · rw [wo_ne _ _ (show (0 : Nat) ≠ 3 by decide), wo_at, wo_at]
    refine ⟨by rw [up_at, k0 23 0 (by decide), up_at], by rw [up_at]; omega, fun _ => ?_⟩
    have s1 : SG C (up (G 13) 23 0 1) := ⟨c2'.sb K2.1 (eq.sb K.1 J.sb), K2.1, K2.2.1⟩
    exact s1.congr fr_kp
  · rw [wo_ne _ _ (show (0 : Nat) ≠ 3 by decide), wo_at]
    refine J.pP.same (up_ne _ (by omega)) (fun o h1 h2 => by rw [wo_ne _ _ (by omega), wo_ne _ _ (by omega)]) (by rw [k0 _ _ (by decide), up_ne _ (by omega)]) (fun j hj => ?_)
    rw [kpS_out (by omega), e22]
  · rw [wo_ne _ _ (show (0 : Nat) ≠ 3 by decide), wo_at]
    exact J.pL.same (fun f i q => up_ne _ (by omega)) (fun f i q => by rw [k0 _ _ (by omega), up_ne _ (by omega)])
  · rw [wo_ne _ _ (show (0 : Nat) ≠ 3 by decide), wo_at]
    exact J.pR.same (fun f i q => up_ne _ (by omega)) (fun f i q => by rw [k0 _ _ (by omega), up_ne _ (by omega)])
  · rw [wo_ne _ _ (show (0 : Nat) ≠ 3 by decide), wo_at]
    exact J.pC.same (fun i => up_ne _ (by omega)) (fun i => by rw [k0 _ _ (by omega), up_ne _ (by omega)])
theorem gt_eqs {w : Nat} : Eqs (fr S w) (gtS w S) := fun f i q => gtS_in q
theorem SG.put {N : SS} {w : Nat} (h : SG N (fr S w)) (t : CQ N C) (h30 : S 30 0 ≤ 9) : SB C (gtS w S) ∧ TK (gtS w S) := by
  refine ⟨gt_eqs.sb h.2.1 (t.sb h.2.1 h.1), gt_eqs.wf h.2.1, ?_, ?_⟩
  · rw [gt_eqs 13 0 (inr (by decide) (by omega))]; exact h.2.2
  · rw [gtS_oth (by omega) (by omega)]; exact h30
theorem ok_restore (J : Inv G P) : OKm G P (T_X2_restore) (T_X3_restore) := by
  have K := J.tk
  obtain ⟨i1, i2, i3⟩ := J.pI
  by_cases e : G 0 3 0 = 0
  · refine ok_ref 3 J (by decide) ?_ (fun τ => ?_)
    · unfold T_X2_restore
      rw [rx_gf (by decide)]
      show (if nI (G 0 3 0) = 0 then _ else _) = _
      rw [e, c0, if_pos (by trivial), cI_id, c3]
    · unfold T_X3_restore
      rw [ro_gf, ← i1, e, c0, if_pos (by trivial), cI_id, c3]
  · obtain ⟨C, c1', c2'⟩ := x0_copy (τ := (G, P)) (o := 1) (o0 := 3) (C := G 1) (by decide)
    obtain ⟨s1, s2⟩ := (i3 e).put c2' K.2.2
    have g0 := fun g j (h : (g = 0 ∨ 15 ≤ g)) (h2 : g ≠ 24 ∧ g ≠ 25) => gtS_oth (w := 0) (S := G 13) (g := g) (j := j) h h2
    have e14 : C 14 0 = gtS 0 (G 13) 13 0 := s1.1.2.2.2
    refine ok_gen (G1 := wo (wo G 0 (up (G 0) 5 0 0)) 1 C) (P1 := P) (F := up (gtS 0 (G 13)) 26 0 0) (r := nI (gtS 0 (G 13) 13 0)) ?_ ?_ (fun τ => ?_) ?_
    · rw [Ro_G (o := 1)]
      unfold T_X2_restore
      rw [rx_gf (by decide)]
      show (if nI (G 0 3 0) = 0 then _ else _) = _
      rw [c0, if_neg (by rw [q_eq (by omega) (by omega)]; exact e), c1']
      simp only [e_cV]
      rw [x2_forget (by decide)]
      simp only [e_cV]
      rw [ro_gf, e14]
      rfl
    · rw [wo_ne _ _ (by decide), wo_ne _ _ (by decide)]
    · unfold T_X3_restore
      rw [ro_gf, c0, if_neg (by rw [q_eq (by omega) (by omega)]; omega), x3_putAll (w := 0) (by decide)]
      simp only [e_cV]
      rw [ro_pf, ro_gf, up_ne _ (by omega)]
    · refine inv_fresh J (fun g i h5 _ => ?_) ?_ ?_ ?_ s2.up26 (fun g j q => ?_) (up_at _ _ _ _) (fun j _ => ?_)
      · rw [wo_ne _ _ (by decide), wo_at, up_ne _ (fun q => h5 q.1)]
      · rw [wo_ne _ _ (by decide), wo_at, up_at]
      · rw [wo_ne _ _ (by decide), wo_ne _ _ (by decide)]
      · rw [wo_at]; exact s1.up26
      · rw [up_ne _ (by omega), g0 _ _ (by omega) (by omega)]
      · rw [up_ne _ (by omega), g0 _ _ (by omega) (by omega)]
theorem pl_ok {k : Nat} {α : Type} {σ : ST} {F : Nat → Option α} (hk : k < 8) (h : 4 ≤ σ.2 k ∧ σ.2 k ≤ 11) : pl σ (nI k) F = F (σ.2 k) := by
  unfold pl
  have e : (nI k).toNatClampNeg = k := nI_clamp (by omega)
  rw [e, if_neg]
  intro q
  rcases q with q | q | q
  · rw [c0, q_lt (by omega) (by omega)] at q; omega
  · omega
  · exact q ⟨by omega, h.2⟩
theorem ps_ok {k o : Nat} {α : Type} {σ : ST} {F : ST → Option α} (hk : k < 8) : ps σ (nI k) o F = F (σ.1, fun j => if j = k then o else σ.2 j) := by
  unfold ps
  have e : (nI k).toNatClampNeg = k := nI_clamp (by omega)
  rw [e, if_neg]
  intro q
  rcases q with q | q
  · rw [c0, q_lt (by omega) (by omega)] at q; omega
  · omega
theorem ok_back (J : Inv G P) : OKm G P (T_X2_back) (T_X3_back) := by
  have K := J.tk
  obtain ⟨i1, i2, i3, i4⟩ := J.pP
  by_cases e : G 0 5 0 = 0
  · refine ok_ref 3 J (by decide) ?_ (fun τ => ?_)
    · unfold T_X2_back
      rw [rx_gf (by decide)]
      show (if 0 < nI (G 0 5 0) then _ else _) = _
      rw [e, c0, if_neg (by decide), cI_id, c3]
    · unfold T_X3_back
      rw [ro_gf, ← i1, e, c0, if_pos (by trivial), cI_id, c3]
  · obtain ⟨k, hk⟩ : ∃ k, G 0 5 0 = k + 1 := ⟨G 0 5 0 - 1, by omega⟩
    have hk3 : G 13 26 0 = k + 1 := by omega
    have hP := i4 k (by omega)
    obtain ⟨C, c1', c2'⟩ := x0_copy (τ := (wo G 0 (up (G 0) 5 0 k), P)) (o := 1) (o0 := P k) (C := G 1) (by omega)
    have c2' : CQ (G (P k)) C := by
      have := c2'
      simp only [wo_ne G (up (G 0) 5 0 k) (show P k ≠ 0 by omega)] at this
      exact this
    have eq : ∀ w, Eqs (fr (G 13) w) (fr (up (G 13) 26 0 k) w) := fun w f i q => up_ne _ (by omega)
    obtain ⟨s1, s2⟩ := ((i3 k (by omega)).congr (eq (3 + k))).put c2' (by rw [up_ne _ (by omega)]; exact K.2.2)
    have g0 := fun g j (h : (g = 0 ∨ 15 ≤ g)) (h2 : g ≠ 24 ∧ g ≠ 25) => gtS_oth (w := 3 + k) (S := up (G 13) 26 0 k) (g := g) (j := j) h h2
    refine ok_gen (G1 := wo (wo G 0 (up (G 0) 5 0 k)) 1 C) (P1 := P) (F := gtS (3 + k) (up (G 13) 26 0 k)) (r := nI k) ?_ ?_ (fun τ => ?_) (inv_of ?_ s2 ?_ ?_ ?_ ?_ ?_)
    · rw [Ro_G (o := 1)]
      unfold T_X2_back
      rw [rx_gf (by decide), rx_gf (by decide)]
      show (if 0 < nI (G 0 5 0) then pf _ 0 5 (nI (G 0 5 0) - 1) _ else _) = _
      rw [hk, c0, if_pos (by rw [q_lt (by omega) (by omega)]; omega), c1, q_dec0, rx_pf (by decide)]
      show gf (Ro (wo G 0 (up (G 0) 5 0 k), P) 1 (G 1)) 0 5 _ = _
      rw [rx_gf (by decide)]
      show pl _ (nI (wo G 0 (up (G 0) 5 0 k) 0 5 0)) _ = _
      rw [wo_at, up_at, pl_ok (by omega) (by exact ⟨hP.1, hP.2.1⟩)]
      show cV (T_X0_copyFrom 1 (P k) (Ro (wo G 0 (up (G 0) 5 0 k), P) 1 (G 1))) _ = _
      rw [c1']
      simp only [e_cV]
      rw [rx_gf (by decide)]
      show some (nI (wo G 0 (up (G 0) 5 0 k) 0 5 0), _) = _
      rw [wo_at, up_at]
      rfl
    · rw [wo_ne _ _ (by decide), wo_ne _ _ (by decide)]
    · unfold T_X3_back
      rw [ro_gf, hk3, c0, if_neg (by rw [q_eq (by omega) (by omega)]; omega), ro_gf, hk3, c1, q_dec0, ro_pf, ro_gf, up_at, c3, nI_add, x3_putAll (w := 3 + k) (by omega)]
      simp only [e_cV]
      rw [ro_gf, g0 _ _ (by omega) (by omega), up_at]
    · rw [wo_at]; exact s1
    · rw [wo_ne _ _ (show (0 : Nat) ≠ 1 by decide), wo_at, wo_ne _ _ (show (3 : Nat) ≠ 1 by decide), wo_ne _ _ (show (3 : Nat) ≠ 0 by decide)]
      exact J.pI.same (up_ne _ (by omega)) rfl (by rw [g0 _ _ (by omega) (by omega), up_ne _ (by omega)]) (fun j _ => by rw [g0 _ _ (by omega) (by omega), up_ne _ (by omega)])
    · rw [wo_ne _ _ (show (0 : Nat) ≠ 1 by decide), wo_at]
      refine ⟨by rw [up_at, g0 _ _ (by omega) (by omega), up_at], by rw [up_at]; omega, fun q hq => ?_, i4⟩
      rw [up_at] at hq
      have hq4 := i4 q (by omega)
      rw [wo_ne _ _ (by omega), wo_ne _ _ (by omega)]
      exact (i3 q (by omega)).congr (fun f i z => by
        show gtS (3 + k) (up (G 13) 26 0 k) 22 _ = _
        rw [g0 _ _ (by omega) (by omega), up_ne _ (by omega)]
        rfl)
    · rw [wo_ne _ _ (show (0 : Nat) ≠ 1 by decide), wo_at]
      exact J.pL.same (fun f i q => up_ne _ (by omega)) (fun f i q => by rw [g0 _ _ (by omega) (by omega), up_ne _ (by omega)])
    · rw [wo_ne _ _ (show (0 : Nat) ≠ 1 by decide), wo_at]
      exact J.pR.same (fun f i q => up_ne _ (by omega)) (fun f i q => by rw [g0 _ _ (by omega) (by omega), up_ne _ (by omega)])
    · rw [wo_ne _ _ (show (0 : Nat) ≠ 1 by decide), wo_at]
      exact J.pC.same (fun i => up_ne _ (by omega)) (fun i => by rw [g0 _ _ (by omega) (by omega), up_ne _ (by omega)])
/-! what is remembered -/
theorem remember_core (J : Inv G P) (hc : G 0 5 0 < 8) (Z : SS) : ∃ G1 F, T_X2_remember_j58 (nV (wo G 13 Z), P) = some (nV (wo G1 13 Z), P) ∧ (∀ τ, T_X3_keepsBack_j51 (Ro τ 13 (G 13)) = some (Ro τ 13 F)) ∧ Inv (wo G1 13 F) P ∧ G1 1 = G 1 ∧ (∀ f i, 1 ≤ f → f ≤ 14 → F f i = G 13 f i) := by
  have K := J.tk
  obtain ⟨i1, i2, i3, i4⟩ := J.pP
  have hP := i4 (G 0 5 0) hc
  obtain ⟨C, c1', c2'⟩ := x0_copy (τ := (wo G 13 Z, P)) (o := P (G 0 5 0)) (o0 := 1) (C := wo G 13 Z (P (G 0 5 0))) (by omega)
  have c2' : CQ (G 1) C := by
    have := c2'
    simp only [wo_ne G Z (show (1 : Nat) ≠ 13 by decide)] at this
    exact this
  have k0 := fun g j (h : g ≠ 22 ∧ g ≠ 24 ∧ g ≠ 25) => kpS_oth (w := 3 + G 0 5 0) (S := G 13) (g := g) (j := j) h
  have nF : ∀ g j, g ≠ 22 → g ≠ 24 → g ≠ 25 → g ≠ 26 → up (kpS (3 + G 0 5 0) (G 13)) 26 0 (G 0 5 0 + 1) g j = G 13 g j := fun g j h1 h2 h3 h4 => by rw [up_ne _ (fun q => h4 q.1), k0 _ _ ⟨h1, h2, h3⟩]
  have nE : Eqs (G 13) (up (kpS (3 + G 0 5 0) (G 13)) 26 0 (G 0 5 0 + 1)) := fun f i q => nF f i (by have := q.2.1; omega) (by have := q.2.1; omega) (by have := q.2.1; omega) (by have := q.2.1; omega)
  have a0 : wo (wo G 0 (up (G 0) 5 0 (G 0 5 0 + 1))) (P (G 0 5 0)) C 0 = up (G 0) 5 0 (G 0 5 0 + 1) := by rw [wo_ne _ _ (by omega), wo_at]
  have ao : ∀ o, o ≠ 0 → o ≠ P (G 0 5 0) → wo (wo G 0 (up (G 0) 5 0 (G 0 5 0 + 1))) (P (G 0 5 0)) C o = G o := fun o h1 h2 => by rw [wo_ne _ _ h2, wo_ne _ _ h1]
  refine ⟨wo (wo G 0 (up (G 0) 5 0 (G 0 5 0 + 1))) (P (G 0 5 0)) C, up (kpS (3 + G 0 5 0) (G 13)) 26 0 (G 0 5 0 + 1), ?_, fun τ => ?_, inv_of ?_ ⟨nE.wf K.1, ?_, ?_⟩ ?_ ?_ ?_ ?_ ?_, ao 1 (by decide) (by omega), fun f i h1 h2 => nF f i (by omega) (by omega) (by omega) (by omega)⟩
  · rw [Ro_G (o := P (G 0 5 0))]
    unfold T_X2_remember_j58
    rw [rx_gf (by omega)]
    show pl _ (nI (wo G 13 Z 0 5 0)) _ = _
    rw [wo_ne _ _ (show (0 : Nat) ≠ 13 by decide), pl_ok hc (by exact ⟨hP.1, hP.2.1⟩)]
    show cV (T_X0_copyFrom (P (G 0 5 0)) 1 (Ro (wo G 13 Z, P) (P (G 0 5 0)) (wo G 13 Z (P (G 0 5 0))))) _ = _
    rw [c1']
    simp only [e_cV]
    rw [rx_gf (by omega)]
    show pf _ 0 5 (nI (wo G 13 Z 0 5 0) + 1) _ = _
    rw [wo_ne _ _ (show (0 : Nat) ≠ 13 by decide), c1, nI_add, rx_pf (by omega)]
    show some (nV (wo (wo (wo G 13 Z) 0 (up (wo G 13 Z 0) 5 0 (G 0 5 0 + 1))) (P (G 0 5 0)) C), P) = _
    rw [wo_ne _ _ (show (0 : Nat) ≠ 13 by decide), wo_comm G Z _ (show (13 : Nat) ≠ 0 by decide), wo_comm _ Z C (show (13 : Nat) ≠ P (G 0 5 0) by omega)]
  · unfold T_X3_keepsBack_j51
    rw [ro_gf, ← i1, c3, nI_add, c1, x3_keepAll (w := 3 + G 0 5 0) (by omega)]
    simp only [e_cV]
    rw [ro_gf, k0 _ _ (by decide), ← i1, nI_add, ro_pf]
  · rw [ao 1 (by decide) (by omega)]; exact nE.sb K.1 J.sb
  · rw [nF _ _ (by decide) (by decide) (by decide) (by decide)]; exact K.2.1
  · rw [nF _ _ (by decide) (by decide) (by decide) (by decide)]; exact K.2.2
  · rw [a0, ao 3 (by decide) (by omega)]
    refine J.pI.same (up_ne _ (by omega)) rfl (nF _ _ (by decide) (by decide) (by decide) (by decide)) (fun j hj => ?_)
    rw [up_ne _ (by omega), kpS_out (by omega)]
  · rw [a0]
    refine ⟨by rw [up_at, up_at], by rw [up_at]; omega, fun q hq => ?_, i4⟩
    rw [up_at] at hq
    by_cases e : q = G 0 5 0
    · rw [e, wo_at]
      have s1 : SG C (G 13) := ⟨c2'.sb K.1 J.sb, K.1, K.2.1⟩
      have e2 : Eqs (fr (kpS (3 + G 0 5 0) (G 13)) (3 + G 0 5 0)) (fr (up (kpS (3 + G 0 5 0) (G 13)) 26 0 (G 0 5 0 + 1)) (3 + G 0 5 0)) := fun f i z => up_ne _ (by omega)
      exact (s1.congr fr_kp).congr e2
    · have hq4 := i4 q (by omega)
      rw [ao _ (by omega) (fun z => e (hq4.2.2 _ hc z))]
      have e2 : Eqs (fr (kpS (3 + G 0 5 0) (G 13)) (3 + q)) (fr (up (kpS (3 + G 0 5 0) (G 13)) 26 0 (G 0 5 0 + 1)) (3 + q)) := fun f i z => up_ne _ (by omega)
      exact ((i3 q (by omega)).congr (fr_oth (by omega))).congr e2
  · rw [a0]
    exact J.pL.same (fun f i q => up_ne _ (by omega)) (fun f i q => nF _ _ (by omega) (by omega) (by omega) (by omega))
  · rw [a0]
    exact J.pR.same (fun f i q => up_ne _ (by omega)) (fun f i q => nF _ _ (by omega) (by omega) (by omega) (by omega))
  · rw [a0]
    exact J.pC.same (fun i => up_ne _ (by omega)) (fun i => nF _ _ (by omega) (by omega) (by omega) (by omega))
theorem sh_ne {v g j : Nat} (h : ¬ (g = 22 ∧ 180 ≤ j ∧ j < v)) : sh S v g j = S g j := if_neg h
theorem x3_shift : ∀ r v n, v + r = 600 → 180 ≤ v → r < n → T_X3_keepsBack_L13 n (nI v) (Ro τ 13 (sh S v)) = T_X3_keepsBack_j51 (Ro τ 13 (up (sh S 600) 26 0 (S 26 0 - 1))) ∨ S 26 0 = 0 := by
  intro r
  induction r with
  | zero =>
    intro v n h hv hn
    obtain ⟨n, rfl⟩ := fu_one hn
    obtain rfl : v = 600 := by omega
    by_cases e : S 26 0 = 0
    · exact Or.inr e
    · left
      unfold T_X3_keepsBack_L13
      rw [c600, if_pos (by rw [q_le (by omega) (by omega)]; omega), ro_gf, sh_ne (by omega)]
      obtain ⟨k, hk⟩ : ∃ k, S 26 0 = k + 1 := ⟨S 26 0 - 1, by omega⟩
      rw [hk, c1, q_dec0, ro_pf, Nat.add_sub_cancel]
  | succ r ih =>
    intro v n h hv hn
    obtain ⟨n, rfl⟩ := fu_one (by omega : 0 < n)
    have st : up (sh S v) 22 v (sh S v 22 (v + 60)) = sh S (v + 1) := by
      funext g j
      by_cases e : g = 22 ∧ j = v
      · rw [e.1, e.2, up_at, sh_ne (by omega)]
        show _ = (if 22 = 22 ∧ 180 ≤ v ∧ v < v + 1 then S 22 (v + 60) else S 22 v)
        rw [if_pos (by omega)]
      · rw [up_ne _ e]
        unfold sh
        by_cases e2 : g = 22 ∧ 180 ≤ j ∧ j < v
        · rw [if_pos e2, if_pos (by omega)]
        · rw [if_neg e2, if_neg (by omega)]
    rcases ih (v + 1) n (by omega) (by omega) (by omega) with i1 | i1
    · left
      unfold T_X3_keepsBack_L13
      rw [c600, if_neg (by rw [q_le (by omega) (by omega)]; omega), c60, nI_add, ro_ld (by omega) (by omega), ro_sd (by omega) (by omega), c1, nI_add, e_vl, st]
      exact i1
    · exact Or.inr i1
/-- the pointers turned on, up to v -/
def rotP (P : Nat → Nat) (v : Nat) : Nat → Nat := fun k => if k + 1 < v then P (k + 1) else P k
theorem x2_rotL {w : Nat} {V : VT} (i4 : ∀ k, k < 8 → 4 ≤ P k ∧ P k ≤ 11 ∧ ∀ j, j < 8 → P k = P j → k = j) : ∀ r v n, v + r = 8 → 1 ≤ v → r < n → T_X2_remember_L18 n w (nI v) (V, rotP P v) = T_X2_remember_j58 (upd3 V 0 5 0 7, fun j => if j = 7 then w else rotP P 8 j) := by
  intro r
  induction r with
  | zero =>
    intro v n h hv hn
    obtain ⟨n, rfl⟩ := fu_one hn
    obtain rfl : v = 8 := by omega
    unfold T_X2_remember_L18
    rw [c8, if_pos (by decide), c7, ps_ok (by decide)]
    rfl
  | succ r ih =>
    intro v n h hv hn
    obtain ⟨n, rfl⟩ := fu_one (by omega : 0 < n)
    obtain ⟨u, rfl⟩ : ∃ u, v = u + 1 := ⟨v - 1, by omega⟩
    have hv2 := i4 (u + 1) (by omega)
    have e : rotP P (u + 1) (u + 1) = P (u + 1) := if_neg (by omega)
    unfold T_X2_remember_L18
    rw [c8, if_neg (by rw [q_le (by omega) (by omega)]; omega), pl_ok (by omega) (by show 4 ≤ rotP P (u + 1) (u + 1) ∧ rotP P (u + 1) (u + 1) ≤ 11; rw [e]; exact ⟨hv2.1, hv2.2.1⟩), c1, q_dec0, ps_ok (by omega), nI_add, e_vl]
    have st : (fun j => if j = u then rotP P (u + 1) (u + 1) else rotP P (u + 1) j) = rotP P (u + 1 + 1) := by
      funext j
      rw [e]
      unfold rotP
      by_cases e1 : j = u
      · rw [if_pos e1, if_pos (by omega), e1]
      · rw [if_neg e1]
        by_cases e2 : j + 1 < u + 1
        · rw [if_pos e2, if_pos (by omega)]
        · rw [if_neg e2, if_neg (by omega)]
    show T_X2_remember_L18 n w (nI (u + 1 + 1)) (V, fun j => if j = u then rotP P (u + 1) (u + 1) else rotP P (u + 1) j) = _
    rw [st]
    exact ih (u + 1 + 1) n (by omega) (by omega) (by omega)
theorem remember_ok (J : Inv G P) : ∃ G1 P1 F, T_X2_remember (nV G, P) = some (nV (wo G1 13 (G 13)), P1) ∧ (∀ τ, T_X3_keepsBack (Ro τ 13 (G 13)) = some (Ro τ 13 F)) ∧ Inv (wo G1 13 F) P1 ∧ G1 1 = G 1 ∧ (∀ f i, 1 ≤ f → f ≤ 14 → F f i = G 13 f i) := by
  have K := J.tk
  obtain ⟨i1, i2, i3, i4⟩ := J.pP
  by_cases hc : G 0 5 0 < 8
  · obtain ⟨G1, F, r1, r2, r3, r4, r5⟩ := remember_core J hc (G 13)
    refine ⟨G1, P, F, ?_, fun τ => ?_, r3, r4, r5⟩
    · rw [wo_self] at r1
      rw [Ro_G (o := 1)]
      unfold T_X2_remember
      rw [rx_gf (by decide)]
      show (if nI (G 0 5 0) < 8 then _ else _) = _
      rw [c8, if_pos (by rw [q_lt (by omega) (by omega)]; exact hc), ← Ro_G]
      exact r1
    · unfold T_X3_keepsBack
      rw [ro_gf, c8, if_neg (by rw [q_eq (by omega) (by omega)]; omega)]
      exact r2 τ
  · have h8 : G 0 5 0 = 8 := by omega
    have s26 : G 13 26 0 = 8 := by omega
    have nY : ∀ g j, g ≠ 22 → g ≠ 26 → up (sh (G 13) 600) 26 0 7 g j = G 13 g j := fun g j h1 h2 => by rw [up_ne _ (fun q => h2 q.1), sh_ne (fun q => h1 q.1)]
    have nE : Eqs (G 13) (up (sh (G 13) 600) 26 0 7) := fun f i q => nY f i (by have := q.2.1; omega) (by have := q.2.1; omega)
    have pr : ∀ k, k < 8 → (if k = 7 then P 0 else rotP P 8 k) = if k = 7 then P 0 else P (k + 1) := fun k hk => by
      by_cases e : k = 7
      · rw [if_pos e, if_pos e]
      · rw [if_neg e, if_neg e]
        exact if_pos (by omega)
    have J2 : Inv (wo (wo G 0 (up (G 0) 5 0 7)) 13 (up (sh (G 13) 600) 26 0 7)) (fun k => if k = 7 then P 0 else rotP P 8 k) := by
      have a0 : wo G 0 (up (G 0) 5 0 7) 0 = up (G 0) 5 0 7 := wo_at _ _ _
      have ao : ∀ o, o ≠ 0 → wo G 0 (up (G 0) 5 0 7) o = G o := fun o h => wo_ne _ _ h
      refine inv_of (by rw [ao 1 (by decide)]; exact nE.sb K.1 J.sb) ⟨nE.wf K.1, by rw [nY _ _ (by decide) (by decide)]; exact K.2.1, by rw [nY _ _ (by decide) (by decide)]; exact K.2.2⟩ ?_ ?_ ?_ ?_ ?_
      · rw [a0, ao 3 (by decide)]
        exact J.pI.same (up_ne _ (by omega)) rfl (nY _ _ (by decide) (by decide)) (fun j hj => by rw [up_ne _ (by omega), sh_ne (by omega)])
      · rw [a0]
        refine ⟨by rw [up_at, up_at], by rw [up_at]; omega, fun q hq => ?_, fun q hq => ?_⟩
        · rw [up_at] at hq
          have p := i4 (q + 1) (by omega)
          show SG (wo G 0 (up (G 0) 5 0 7) (if q = 7 then P 0 else rotP P 8 q)) _
          rw [pr q (by omega), if_neg (by omega), ao _ (by omega)]
          refine (i3 (q + 1) (by omega)).congr (fun f i z => ?_)
          have := off_lt z
          show up (sh (G 13) 600) 26 0 7 22 (60 * (3 + q) + offF f + i) = G 13 22 (60 * (3 + (q + 1)) + offF f + i)
          rw [up_ne _ (by omega)]
          show (if 22 = 22 ∧ 180 ≤ 60 * (3 + q) + offF f + i ∧ 60 * (3 + q) + offF f + i < 600 then G 13 22 (60 * (3 + q) + offF f + i + 60) else _) = _
          rw [if_pos (by omega)]
          congr 1
          omega
        · show 4 ≤ (if q = 7 then P 0 else rotP P 8 q) ∧ (if q = 7 then P 0 else rotP P 8 q) ≤ 11 ∧ ∀ j, j < 8 → (if q = 7 then P 0 else rotP P 8 q) = (if j = 7 then P 0 else rotP P 8 j) → q = j
          rw [pr q hq]
          by_cases e : q = 7
          · have p := i4 0 (by omega)
            rw [if_pos e]
            refine ⟨p.1, p.2.1, fun j hj h => ?_⟩
            replace h : P 0 = (if j = 7 then P 0 else rotP P 8 j) := h
            rw [pr j hj] at h
            by_cases e2 : j = 7
            · omega
            · rw [if_neg e2] at h
              have := p.2.2 (j + 1) (by omega) h
              omega
          · have p := i4 (q + 1) (by omega)
            rw [if_neg e]
            refine ⟨p.1, p.2.1, fun j hj h => ?_⟩
            replace h : P (q + 1) = (if j = 7 then P 0 else rotP P 8 j) := h
            rw [pr j hj] at h
            by_cases e2 : j = 7
            · rw [if_pos e2] at h
              have := p.2.2 0 (by omega) h
              omega
            · rw [if_neg e2] at h
              have := p.2.2 (j + 1) (by omega) h
              omega
      · rw [a0]
        exact J.pL.same (fun f i q => up_ne _ (by omega)) (fun f i q => nY _ _ (by omega) (by omega))
      · rw [a0]
        exact J.pR.same (fun f i q => up_ne _ (by omega)) (fun f i q => nY _ _ (by omega) (by omega))
      · rw [a0]
        exact J.pC.same (fun i => up_ne _ (by omega)) (fun i => nY _ _ (by omega) (by omega))
    have b13 : wo (wo G 0 (up (G 0) 5 0 7)) 13 (up (sh (G 13) 600) 26 0 7) 13 = up (sh (G 13) 600) 26 0 7 := wo_at _ _ _
    have b0 : wo (wo G 0 (up (G 0) 5 0 7)) 13 (up (sh (G 13) 600) 26 0 7) 0 = up (G 0) 5 0 7 := by rw [wo_ne _ _ (by decide), wo_at]
    have b1 : wo (wo G 0 (up (G 0) 5 0 7)) 13 (up (sh (G 13) 600) 26 0 7) 1 = G 1 := by rw [wo_ne _ _ (by decide), wo_ne _ _ (by decide)]
    obtain ⟨G1, F, r1, r2, r3, r4, r5⟩ := remember_core J2 (by rw [b0, up_at]; omega) (G 13)
    rw [b1] at r4
    rw [b13] at r2 r5
    have w13 : wo (wo (wo G 0 (up (G 0) 5 0 7)) 13 (up (sh (G 13) 600) 26 0 7)) 13 (G 13) = wo G 0 (up (G 0) 5 0 7) := by
      rw [wo_wo]
      have := wo_self (wo G 0 (up (G 0) 5 0 7)) 13
      rw [wo_ne _ _ (by decide)] at this
      exact this
    rw [w13] at r1
    refine ⟨G1, fun k => if k = 7 then P 0 else rotP P 8 k, F, ?_, fun τ => ?_, r3, r4, fun f i h1 h2 => by rw [r5 f i h1 h2, nY _ _ (by omega) (by omega)]⟩
    · have p0 := i4 0 (by decide)
      have rl := x2_rotL (w := P 0) (V := nV G) i4 7 1 FU rfl (by decide) (FU_gt (by decide))
      have e1 : rotP P 1 = P := by funext k; exact if_neg (by omega)
      have eV : upd3 (nV G) 0 5 0 7 = nV (wo G 0 (up (G 0) 5 0 7)) := by
        have := ro_up (τ := (G, P)) (o := 0) (k := 5) (i := 0) (x := 7) (S := G 0)
        rw [← Ro_G] at this
        exact congrArg Prod.fst this
      rw [e1, eV] at rl
      have g8 : T_X2_remember (nV G, P) = pl (nV G, P) 0 (fun w2 => T_X2_remember_L18 FU w2 1 (nV G, P)) := by
        unfold T_X2_remember
        rw [Ro_G (o := 0), ro_gf, h8, c8, if_neg (by decide), ← Ro_G]
      rw [g8, c0, pl_ok (by decide) (by exact ⟨p0.1, p0.2.1⟩), c1]
      exact rl.trans r1
    · have x := x3_shift (τ := τ) (S := G 13) 420 180 FU rfl (by decide) (FU_gt (by decide))
      have e0 : sh (G 13) 180 = G 13 := by funext g j; exact sh_ne (by omega)
      rw [e0, s26] at x
      unfold T_X3_keepsBack
      rw [ro_gf, s26, c8, if_pos (by trivial), c180]
      rcases x with x | x
      · rw [x]; exact r2 τ
      · omega
end Past
