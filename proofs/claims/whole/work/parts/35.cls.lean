section Cls3
variable {τ : TT} {o : Nat} {D C S : SS}
theorem x0_goN (W : WF S) (R : SC D C S) {l : Nat} (hl : l < S 12 0) : ∃ C', T_X0_go_j123 o (nI l) (Ro τ o C) = some (Ro τ o C') ∧ SC D C' (oneN S l) ∧ C' 18 0 = C 18 0 := by
  have h12 := W.nl
  have hw := W.bea hl
  have q := R.bea hl
  have ht : tw (S 8 l) (S 7 l) ≤ 9 := tw_le (by omega)
  refine ⟨up (up C 10 l (tw (S 8 l) (S 7 l))) 12 l (if 9 ≤ S 10 l then S 10 l else S 10 l + 1), ?_, (R.upd (Or.inl ⟨rfl, rfl⟩)).upd (Or.inr (Or.inl ⟨rfl, rfl⟩)), by rw [up_ne _ (by omega), up_ne _ (by omega)]⟩
  unfold T_X0_go_j123
  simp (disch := omega) only [q.2.2.1, q.2.1, x0_tow1 (σ := Ro τ o C) (show S 8 l ≤ 9 by omega) (show S 7 l ≤ 9 by omega), up_ne C (show ¬ (12 = 10 ∧ l = l) by omega), q.2.2.2.2, x_min, n_mod, q_dec, ro_gf, ro_ld, ro_sd, ro_pf, e_vl, e_cV, e_cI, nI_add, q_mul, q_sub, q_rem, q_div, q_eq, q_lt, q_le, c0, c1, c2, c3, c4, c5, c6, c7, c8, c9, c10, c99]
  have e : (if 9 < S 10 l + 1 then 9 else S 10 l + 1) = (if 9 ≤ S 10 l then S 10 l else S 10 l + 1) := by
    split <;> split <;> omega
  rw [e]
theorem x0_go (W : WF S) (hh : S 13 0 < 1000000) (R : SC D C S) {l z : Nat} (hl : l < S 12 0) (hz : z ≤ 9) (ha : C 18 0 = kN z) : ∃ C', T_X0_go o (nI l) (Ro τ o C) = some (Ro τ o C') ∧ SC D C' (one S l (decide (l = z))) ∧ C' 18 0 = kN z := by
  have h12 := W.nl
  have h11 := W.nb
  have hw := W.bea hl
  have q := R.bea hl
  have kz := kN_lt hz
  have t5 := R.2.2.2.1 l (by omega)
  have hlz : l = kN z ↔ l = z := by
    have := @kN_eq l z (by omega) hz
    rw [kN_ne (show l ≠ 9 by omega)] at this
    exact this
  obtain ⟨CN, n1, n2, n3⟩ := x0_goN (τ := τ) (o := o) W R hl
  unfold T_X0_go one
  simp (disch := omega) only [q.2.2.2.2, ha, hlz, n1, x0_isLed W R hl, q.2.2.1, q.2.2.2.1, up_ne C (show ¬ (16 = 12 ∧ l = l) by omega), n_mod, q_dec, ro_gf, ro_ld, ro_sd, ro_pf, e_vl, e_cV, e_cI, nI_add, q_mul, q_sub, q_rem, q_div, q_eq, q_lt, q_le, c0, c1, c2, c3, c4, c5, c6, c7, c8, c9, c10, c99]
  by_cases e : S 10 l = 0
  · rw [if_pos e, if_pos e]
    exact ⟨_, rfl, (R.upd (Or.inr (Or.inl ⟨rfl, rfl⟩))).upt (Or.inr (Or.inl ⟨rfl, rfl, by omega⟩)), by rw [up_ne _ (by omega), up_ne _ (by omega)]; exact ha⟩
  · rw [if_neg e, if_neg e]
    by_cases ez : l = z
    · rw [if_pos ez, if_neg (fun h => by rw [decide_eq_true ez] at h; exact absurd h.2 (by decide))]
      exact ⟨CN, rfl, n2, n3.trans ha⟩
    · rw [if_neg ez]
      by_cases e2 : led S l
      · have h9 : S 9 l < 9 := e2.1
        have hb : S 9 l < S 11 0 := by omega
        have hbg := W.bag hb
        have hg := goal_le W hb (w := S 7 l) (by omega)
        have W2 := W.upT (f := 27) (i := l) (x := S 27 l + 1) (by decide)
        have eg : goal (up S 27 l (S 27 l + 1)) (up S 27 l (S 27 l + 1) 9 l) (up S 27 l (S 27 l + 1) 7 l) = goal S (S 9 l) (S 7 l) := by
          unfold goal
          simp only [who_up (S := S) (f := 27) (i := l) (x := S 27 l + 1) (by decide) (by decide)]
          simp [up]
        have ge := goLed_eq W2 (l := l) (by rw [up_ne _ (by omega)]; exact hl) (by rw [eg]; exact hg)
        rw [eg] at ge
        simp only [up_ne S (show ¬ (9 = 27 ∧ l = l) by omega), up_ne S (show ¬ (8 = 27 ∧ l = l) by omega), up_ne S (show ¬ (10 = 27 ∧ l = l) by omega), up_ne S (show ¬ (1 = 27 ∧ S 9 l = l) by omega)] at ge
        rw [if_pos e2, if_neg (by decide), kN_ne (by omega : S 9 l ≠ 9), if_pos (show led S l ∧ decide (l = z) = false from ⟨e2, decide_eq_false ez⟩)]
        rw [x0_goal W hh R hb hl]
        simp only [e_cV]
        rw [x0_pace W R hb]
        simp only [e_cV]
        generalize hG : goal S (S 9 l) (S 7 l) = g at hg ge ⊢
        generalize hA : (if S 1 (S 9 l) = 5 then tw (tw (S 8 l) g) g else tw (S 8 l) g) = A at ge
        have hA9 : A ≤ 9 := by
          rw [← hA]
          split
          · exact tw_le (tw_le (by omega))
          · exact tw_le (by omega)
        have tow : T_X0_toward (Ro τ o C) (nI (S 8 l)) (nI g) (nI (if S 1 (S 9 l) = 5 then 2 else 1)) = some (nI A) := by
          rw [← hA]
          by_cases k : S 1 (S 9 l) = 5
          · rw [if_pos k, if_pos k]; exact x0_tow2 (by omega) hg
          · rw [if_neg k, if_neg k]; exact x0_tow1 (by omega) hg
        have ha2 := @apa_le (S 8 l) A
        rw [tow, ge]
        simp (disch := omega) only [up_ne C (show ¬ (12 = 10 ∧ l = l) by omega), up_at, q.2.2.2.2, x2_apa (show S 8 l ≤ 9 by omega) hA9, x_max (show S 10 l ≤ 9 by omega) ha2, up_ne C (show ¬ (15 = 10 ∧ l = l) by omega), up_ne (up C 10 l A) (show ¬ (15 = 12 ∧ l = l) by omega), n_mod, q_dec, ro_gf, ro_ld, ro_sd, ro_pf, e_vl, e_cV, e_cI, nI_add, q_mul, q_sub, q_rem, q_div, q_eq, q_lt, q_le, c0, c1, c2, c3, c4, c5, c6, c7, c8, c9, c10, c99]
        refine ⟨_, rfl, ?_, by rw [up_ne _ (by omega), up_ne _ (by omega), up_ne _ (by omega)]; exact ha⟩
        rw [up_comm (up C 10 l A) (by omega), up_comm C (by omega)]
        exact ((R.upt (Or.inl ⟨rfl, rfl, by omega⟩)).upd (Or.inl ⟨rfl, rfl⟩)).upd (Or.inr (Or.inl ⟨rfl, rfl⟩))
      · rw [if_neg e2, if_pos rfl, if_neg (fun h => e2 h.1)]
        exact ⟨CN, rfl, n2, n3.trans ha⟩
end Cls3
