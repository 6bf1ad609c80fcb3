/-! bequest: both sides alike -/
section Bq2
variable {G : GG} {P : Nat → Nat} {F1 : SS}
theorem inv_let (J : Inv G P) (h : ∀ g j, g ≠ 16 → g ≠ 17 → g ≠ 18 → g ≠ 19 → g ≠ 20 → g ≠ 21 → F1 g j = G 13 g j) (h19 : F1 19 0 = 0) : Inv (wo (wo G 0 (up (G 0) 7 0 0)) 13 F1) P := by
  have e0 : wo G 0 (up (G 0) 7 0 0) 0 = up (G 0) 7 0 0 := wo_at _ _ _
  have e1 : wo G 0 (up (G 0) 7 0 0) 1 = G 1 := wo_ne _ _ (by decide)
  have e3 : wo G 0 (up (G 0) 7 0 0) 3 = G 3 := wo_ne _ _ (by decide)
  have eq : Eqs (G 13) F1 := fun f i q => by have := q.2.1; exact h f i (by omega) (by omega) (by omega) (by omega) (by omega) (by omega)
  have hh : ∀ g j, (g = 0 ∨ g = 22 ∨ g = 23 ∨ g = 26 ∨ g = 34 ∨ g = 35) → F1 g j = G 13 g j := fun g j q => h g j (by omega) (by omega) (by omega) (by omega) (by omega) (by omega)
  refine inv_of (by rw [e1]; exact eq.sb J.wf J.sb) ⟨eq.wf J.wf, by rw [eq 13 0 (inr (by decide) (by omega))]; exact J.tk.2.1, by rw [h 30 0 (by decide) (by decide) (by decide) (by decide) (by decide) (by decide)]; exact J.tk.2.2⟩ ?_ ?_ ?_ ?_ ?_
  · rw [e0, e3]; exact J.pI.same (up_ne _ (by omega)) rfl (hh _ _ (by omega)) (fun j _ => hh _ _ (by omega))
  · rw [e0]; exact J.pP.same (up_ne _ (by omega)) (fun o h1 h2 => wo_ne _ _ (by omega)) (hh _ _ (by omega)) (fun j _ => hh _ _ (by omega))
  · rw [e0]; exact ⟨by rw [up_at, h19], by rw [up_at]; omega, fun k hk => by rw [up_at] at hk; omega⟩
  · rw [e0]; exact J.pR.same (fun f i q => up_ne _ (by omega)) (fun f i q => hh _ _ (by omega))
  · rw [e0]; exact J.pC.same (fun i => up_ne _ (by omega)) (fun i => hh _ _ (by omega))
theorem ok_bequest (J : Inv G P) : OKm G P (T_X2_bequest) (T_X3_bequest) := by
  obtain ⟨l1, l2, l3⟩ := J.pL
  have hA : ∀ k, k < G 0 7 0 → up (G 0) 7 0 0 6 k = G 13 15 k ∧ G 13 15 k ≤ 255 := fun k hk => by
    have := l3 k hk
    rw [up_ne _ (by omega)]
    exact ⟨this.1, by omega⟩
  have hR : RD (G 13 15) (G 0 7 0) (stN (G 13 15) 0) (up (up (G 13) 20 0 0) 21 0 0) := by
    refine ⟨⟨?_, fun k hk => ?_⟩, ?_⟩
    · rw [up_ne _ (by omega), up_ne _ (by omega), l1]
    · rw [up_ne _ (by omega), up_ne _ (by omega)]; exact ⟨rfl, (hA k hk).2⟩
    · rw [up_ne _ (by omega), up_at]; rfl
  have s0 : stN (G 13 15) 0 = 0 := rfl
  obtain ⟨Y', p1, p2⟩ := parse (A := up (G 0) 7 0 0) (t := G 13 15) (N := G 0 7 0) l2 hA 34 0 FU FU (nI NN) (up (up (G 13) 20 0 0) 21 0 0) (by omega) (by omega) (by omega) (Or.inl rfl) (fun _ => rfl) hR (up_at _ _ _ _) (fun i hi => by omega) (Nat.le_of_lt (FU_gt (by omega))) (FU_gt (by omega))
  have fr : ∀ g j, g ≠ 16 → g ≠ 17 → g ≠ 18 → g ≠ 19 → g ≠ 20 → g ≠ 21 → up Y' 19 0 0 g j = G 13 g j := fun g j h1 h2 h3 h4 h5 h6 => by rw [up_ne _ (by omega), p1 g j h1 h2 h3 h5 h6, up_ne _ (by omega), up_ne _ (by omega)]
  have JL := inv_let J fr (up_at _ _ _ _)
  have ref0 : ∀ τ, T_X3_bequest (Ro τ 13 (G 13)) = T_X3_bequest_L12 FU (nI 1) (Ro τ 13 (up (up (G 13) 20 0 0) 21 0 0)) := by
    intro τ
    unfold T_X3_bequest
    rw [c0, ro_pf, ro_pf, c1]
  have cls0 : T_X2_bequest (nV G, P) = cV (T_X2_formFault_L5 (Ro (G, P) 0 (up (G 0) 7 0 0)) FU (nI (G 0 7 0)) (nI NN) (nI 0)) (fun x3 => if x3 < nI 0 then cV (T_X2_think (Ro (G, P) 0 (up (G 0) 7 0 0))) (fun σ6 => T_X2_bequest_L35 FU (nI (G 0 7 0)) (nI 0) (nI 0) σ6) else some (((-1000)) - x3, Ro (G, P) 0 (up (G 0) 7 0 0))) := by
    unfold T_X2_bequest T_X2_formFault
    rw [Ro_G (o := 0), ro_gf, c0, ro_pf, q_m9]
  rcases p2 with ⟨n, q1, q2, q3, q4, q5, q6, q7⟩ | ⟨f, q1, q2, q3, q4⟩
  · have e2 : wo G 0 (up (G 0) 7 0 0) 2 = G 2 := wo_ne _ _ (by decide)
    have eR : Ro (G, P) 0 (up (G 0) 7 0 0) = Ro (wo G 0 (up (G 0) 7 0 0), P) 2 (G 2) := by
      have := Ro_self (wo G 0 (up (G 0) 7 0 0), P) 2
      simp only [e2] at this
      rw [this]
      rfl
    obtain ⟨C1, t1, t2⟩ := x2_think2 (G := wo G 0 (up (G 0) 7 0 0)) (P := P) (G 2)
    rw [wo_ne _ _ (show 1 ≠ 0 by decide)] at t2
    have h30 : up Y' 19 0 0 30 0 ≤ 9 := by rw [fr _ _ (by decide) (by decide) (by decide) (by decide) (by decide) (by decide)]; exact J.tk.2.2
    have eq : Eqs (G 13) (kpS 1 (up Y' 19 0 0)) := fun f i q => by
      have := q.2.1
      rw [kpS_oth (by omega)]
      exact fr f i (by omega) (by omega) (by omega) (by omega) (by omega) (by omega)
    have M : MD C1 (kpS 1 (up Y' 19 0 0)) := ⟨eq.sb J.wf (t2.sb J.wf J.sb), t2.2.2.2.2.2, eq.wf J.wf, by rw [eq 13 0 (inr (by decide) (by omega))]; exact J.tk.2.1, by rw [kpS_oth (by decide)]; exact h30⟩
    obtain ⟨C', Z', z0, z1⟩ := beq_loop (τ := (wo G 0 (up (G 0) 7 0 0), P)) (t := G 13 15) (N := G 0 7 0) (F1 := up Y' 19 0 0) l2 (fun k hk => by
      show wo G 0 (up (G 0) 7 0 0) 0 6 k = _ ∧ _
      rw [wo_at]
      exact hA k hk) q3 q2 (fun i hi => by
      have o := q4 i hi
      refine ⟨o.1, ?_, ?_, o.2.2.2.same (fun k _ => up_ne _ (by omega))⟩
      · rw [up_ne _ (by omega)]; exact o.2.1
      · rw [up_ne _ (by omega)]; exact o.2.2.1) (by rw [up_ne _ (by omega)]; exact q5) h30 n 0 FU FU C1 (kpS 1 (up Y' 19 0 0)) (by omega) (Or.inl rfl) M (OS.keep h30) (Nat.le_of_lt (FU_gt (by omega))) (FU_gt (by omega))
    have cls1 : T_X2_bequest (nV G, P) = T_X2_bequest_L35 FU (nI (G 0 7 0)) (nI 0) (nI (stN (G 13 15) 0)) (Ro (wo G 0 (up (G 0) 7 0 0), P) 2 C1) := by
      have := q6 (G, P)
      rw [s0] at this
      rw [cls0, this]
      simp only [e_cV]
      rw [if_pos (by decide), eR, t1]
      simp only [e_cV]
      rfl
    have ref1 : ∀ τ, T_X3_bequest (Ro τ 13 (G 13)) = T_X3_bequest_L86 FU (nI 0) (Ro τ 13 (kpS 1 (up Y' 19 0 0))) := by
      intro τ
      rw [ref0, q7]
      unfold T_X3_bequest_j60
      rw [c0, ro_pf, if_neg (by decide), c1, x3_keepAll (by decide)]
      simp only [e_cV]
    rcases z1 with ⟨w, w1, w2⟩ | ⟨w0, w1, w2⟩
    · have JQ := JL.query (G' := wo (wo (wo G 0 (up (G 0) 7 0 0)) 13 (up Y' 19 0 0)) 2 C') (F := gtS 1 Z') ⟨fun f i _ => by rw [wo_ne _ _ (by decide)], fun o h0 h2 h12 => wo_ne _ _ h2⟩ (by rw [wo_at]; exact KR.try1 h30 z0)
      rw [wo3 _ _ _ _ (by decide)] at JQ
      refine ok_gen (G1 := wo (wo G 0 (up (G 0) 7 0 0)) 2 C') (P1 := P) (F := gtS 1 Z') (r := w) ?_ ?_ (fun τ => ?_) JQ
      · rw [cls1, w1]
        rfl
      · rw [wo_ne _ _ (by decide), wo_ne _ _ (by decide)]
      · rw [ref1, w2]
    · obtain ⟨C2, y1, y2⟩ := x0_copy (τ := (wo (wo G 0 (up (G 0) 7 0 0)) 2 C', P)) (o := 1) (o0 := 2) (C := wo G 0 (up (G 0) 7 0 0) 1) (by decide)
      have y2 : CQ (wo (wo G 0 (up (G 0) 7 0 0)) 2 C' 2) C2 := y2
      rw [wo_at] at y2
      have g30 : wo (wo G 0 (up (G 0) 7 0 0)) 2 C' 0 = up (G 0) 7 0 0 := by rw [wo_ne _ _ (by decide), wo_at]
      have zf : ∀ g j, NS g → g ≠ 16 → g ≠ 17 → g ≠ 18 → g ≠ 19 → g ≠ 20 → g ≠ 21 → Z' g j = G 13 g j := fun g j h0 h1 h2 h3 h4 h5 h6 => by
        rw [z0.1 g j h0, kpS_oth (by unfold NS at h0; omega)]
        exact fr g j h1 h2 h3 h4 h5 h6
      have z22 : ∀ j, j < 60 → up Z' 26 0 0 22 j = G 13 22 j := fun j hj => by
        rw [up_ne _ (by omega), z0.2.1 j (by omega), kpS_out (by omega)]
        exact fr _ _ (by decide) (by decide) (by decide) (by decide) (by decide) (by decide)
      refine ok_gen (G1 := wo (wo (wo (wo G 0 (up (G 0) 7 0 0)) 2 C') 0 (up (up (G 0) 7 0 0) 5 0 0)) 1 C2) (P1 := P) (F := up Z' 26 0 0) (r := nI n) ?_ ?_ (fun τ => ?_) ?_
      · rw [cls1, w1, Ro_sw, y1]
        simp only [e_cV]
        rw [x2_forget (by decide), g30]
        rfl
      · rw [wo_ne _ _ (by decide), wo_ne _ _ (by decide), wo_ne _ _ (by decide), wo_ne _ _ (by decide)]
      · rw [ref1, w2]
      · have e0 : wo (wo (wo (wo G 0 (up (G 0) 7 0 0)) 2 C') 0 (up (up (G 0) 7 0 0) 5 0 0)) 1 C2 0 = up (up (G 0) 7 0 0) 5 0 0 := by rw [wo_ne _ _ (by decide), wo_at]
        have e1 : wo (wo (wo (wo G 0 (up (G 0) 7 0 0)) 2 C') 0 (up (up (G 0) 7 0 0) 5 0 0)) 1 C2 1 = C2 := wo_at _ _ _
        have e3 : wo (wo (wo (wo G 0 (up (G 0) 7 0 0)) 2 C') 0 (up (up (G 0) 7 0 0) 5 0 0)) 1 C2 3 = G 3 := by rw [wo_ne _ _ (by decide), wo_ne _ _ (by decide), wo_ne _ _ (by decide), wo_ne _ _ (by decide)]
        refine inv_of (by rw [e1]; exact (y2.sb w0.2.2.1 w0.1).up26) w0.2.2.up26 ?_ ?_ ?_ ?_ ?_
        · rw [e0, e3]
          exact J.pI.same (by rw [up_ne _ (by omega), up_ne _ (by omega)]) rfl (by rw [up_ne _ (by omega)]; exact zf _ _ (by unfold NS; omega) (by decide) (by decide) (by decide) (by decide) (by decide) (by decide)) z22
        · rw [e0]
          exact J.pP.none (up_at _ _ _ _) (up_at _ _ _ _)
        · rw [e0]
          refine ⟨?_, ?_, fun k hk => ?_⟩
          · rw [up_ne _ (by omega), up_at, up_ne _ (by omega), z0.1 _ _ (by unfold NS; omega), kpS_oth (by decide), up_at]
          · rw [up_ne _ (by omega), up_at]; omega
          · rw [up_ne _ (by omega), up_at] at hk; omega
        · rw [e0]
          exact J.pR.same (fun f i q => by rw [up_ne _ (by omega), up_ne _ (by omega)]) (fun f i q => by rw [up_ne _ (by omega)]; exact zf _ _ (by unfold NS; omega) (by omega) (by omega) (by omega) (by omega) (by omega) (by omega))
        · rw [e0]
          exact J.pC.same (fun i => by rw [up_ne _ (by omega), up_ne _ (by omega)]) (fun i => by rw [up_ne _ (by omega)]; exact zf _ _ (by unfold NS; omega) (by omega) (by omega) (by omega) (by omega) (by omega) (by omega))
  · refine ok_gen (G1 := wo G 0 (up (G 0) 7 0 0)) (P1 := P) (F := up Y' 19 0 0) (r := (-1000) - nI f) ?_ (wo_ne _ _ (by decide)) (fun τ => ?_) JL
    · have := q3 (G, P)
      rw [s0] at this
      rw [cls0, this]
      simp only [e_cV]
      rw [if_neg (by rw [q_lt (by omega) (by omega)]; omega)]
      rfl
    · rw [ref0, q4]
      unfold T_X3_bequest_j60
      rw [c0, ro_pf, if_pos (by trivial), ro_gf, up_ne _ (by omega), q2]
end Bq2
