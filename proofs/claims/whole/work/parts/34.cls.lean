section Cls2
variable {τ : TT} {o : Nat} {D C S : SS}
theorem x0_goal (W : WF S) (hh : S 13 0 < 1000000) (R : SC D C S) {b l : Nat} (hb : b < S 11 0) (hl : l < S 12 0) : T_X0_goalOf o (Ro τ o C) (nI b) (nI l) = some (nI (goal S b (S 7 l))) := by
  have h11 := W.nb
  have h12 := W.nl
  have h14 := W.col
  have hbg := W.bag hb
  have hw := W.bea hl
  have r := R.bag hb
  have q := R.bea hl
  have r0 := R.c0
  have r7 := R.c7
  have hk : (if S 4 b < 9 then who S (S 4 b) else 9) = 9 ∨ (if S 4 b < 9 then who S (S 4 b) else 9) < C 7 0 := by
    split
    · rw [r7]; exact who_cases W _
    · exact Or.inl rfl
  unfold T_X0_goalOf goal
  simp (disch := omega) only [x0_kof W R hb, x0_hasBearer (τ := τ) (o := o) (C := C) (show C 7 0 ≤ 5 by omega) hk, r.1, r.2.2.1, q.2.1, R.c13, R.c14, n_mod, q_dec, ro_gf, ro_ld, ro_sd, ro_pf, e_vl, e_cV, e_cI, nI_add, q_mul, q_sub, q_rem, q_div, q_eq, q_lt, q_le, c0, c1, c2, c3, c4, c5, c6, c7, c8, c9, c10, c99]
  by_cases k2 : S 1 b = 2
  · rw [if_pos k2, if_pos k2]
  rw [if_neg k2, if_neg k2]
  by_cases k3 : S 1 b = 3
  · rw [if_pos k3]
    by_cases e : S 13 0 % 2 = 0
    · rw [if_pos e, if_neg (show ¬ (S 1 b = 3 ∧ S 13 0 % 2 = 1) by omega), if_neg (show ¬ (S 1 b = 4 ∧ S 4 b < 9 ∧ who S (S 4 b) < 9) by omega)]
    · rw [if_neg e, if_pos ⟨k3, by omega⟩]
  rw [if_neg k3, if_neg (show ¬ (S 1 b = 3 ∧ S 13 0 % 2 = 1) by omega)]
  by_cases k4 : S 1 b = 4
  · rw [if_pos k4]
    by_cases e : S 4 b < 9 ∧ who S (S 4 b) < 9
    · have hwl := who_lt W e.2
      have qw := R.bea hwl.1
      rw [if_pos e.1, if_neg (show ¬ who S (S 4 b) = 9 by omega), if_neg (by decide), kN_ne (show who S (S 4 b) ≠ 9 by omega), if_pos ⟨k4, e⟩]
      simp (disch := omega) only [qw.2.2.1, n_mod, q_dec, ro_gf, ro_ld, ro_sd, ro_pf, e_vl, e_cV, e_cI, nI_add, q_mul, q_sub, q_rem, q_div, q_eq, q_lt, q_le, c0, c1, c2, c3, c4, c5, c6, c7, c8, c9, c10, c99]
    · have e2 : (if S 4 b < 9 then who S (S 4 b) else 9) = 9 := by
        by_cases e3 : S 4 b < 9
        · rw [if_pos e3]
          have := who_le W (S 4 b)
          omega
        · rw [if_neg e3]
      rw [e2, if_pos rfl, if_pos rfl, if_neg (fun z => e z.2)]
  · rw [if_neg k4, if_neg (fun z => k4 z.1)]
theorem x0_isLed (W : WF S) (R : SC D C S) {l : Nat} (hl : l < S 12 0) : T_X0_isLed o (Ro τ o C) (nI l) = some (nI (if led S l then 1 else 0)) := by
  have h11 := W.nb
  have h12 := W.nl
  have hw := W.bea hl
  have q := R.bea hl
  have r0 := R.c0
  unfold T_X0_isLed
  simp (disch := omega) only [q.2.2.2.1, x0_hasBag (τ := τ) (o := o) (C := C) (b := S 9 l) (show C 0 0 ≤ 6 by omega) (by omega), q.1, n_mod, q_dec, ro_gf, ro_ld, ro_sd, ro_pf, e_vl, e_cV, e_cI, nI_add, q_mul, q_sub, q_rem, q_div, q_eq, q_lt, q_le, c0, c1, c2, c3, c4, c5, c6, c7, c8, c9, c10, c99]
  unfold led
  by_cases e : S 9 l = 9
  · rw [if_pos e, if_pos rfl, if_neg (by omega)]
  · have hb : S 9 l < S 11 0 := by omega
    have hp := pull_le W hb
    rw [if_neg e, if_neg (by decide), kN_ne e, x0_pull W R hb]
    simp (disch := omega) only [n_mod, q_dec, ro_gf, ro_ld, ro_sd, ro_pf, e_vl, e_cV, e_cI, nI_add, q_mul, q_sub, q_rem, q_div, q_eq, q_lt, q_le, c0, c1, c2, c3, c4, c5, c6, c7, c8, c9, c10, c99]
    by_cases e2 : pull S (S 9 l) ≤ S 6 l
    · rw [if_pos e2, if_neg (by omega)]
    · rw [if_neg e2, if_pos (by omega)]
theorem x0_pace (W : WF S) (R : SC D C S) {b : Nat} (hb : b < S 11 0) : T_X0_paceOf o (Ro τ o C) (nI b) = some (nI (if S 1 b = 5 then 2 else 1)) := by
  have h11 := W.nb
  have hbg := W.bag hb
  have r := R.bag hb
  unfold T_X0_paceOf
  simp (disch := omega) only [r.1, n_mod, q_dec, ro_gf, ro_ld, ro_sd, ro_pf, e_vl, e_cV, e_cI, nI_add, q_mul, q_sub, q_rem, q_div, q_eq, q_lt, q_le, c0, c1, c2, c3, c4, c5, c6, c7, c8, c9, c10, c99]
  by_cases e : S 1 b = 5
  · rw [if_pos e, if_pos e]
  · rw [if_neg e, if_neg e]
theorem tow_all : ∀ a, a < 10 → ∀ g, g < 10 → T_X0_toward (fun _ _ _ => 0, fun _ => 0) (nI a) (nI g) (nI 1) = some (nI (tw a g)) ∧ T_X0_toward (fun _ _ _ => 0, fun _ => 0) (nI a) (nI g) (nI 2) = some (nI (tw (tw a g) g)) := by decide +kernel
theorem x0_tow1 {σ : ST} {a g : Nat} (ha : a ≤ 9) (hg : g ≤ 9) : T_X0_toward σ (nI a) (nI g) (nI 1) = some (nI (tw a g)) := (tow_all a (by omega) g (by omega)).1
theorem x0_tow2 {σ : ST} {a g : Nat} (ha : a ≤ 9) (hg : g ≤ 9) : T_X0_toward σ (nI a) (nI g) (nI 2) = some (nI (tw (tw a g) g)) := (tow_all a (by omega) g (by omega)).2
def apa (a g : Nat) : Nat := if (g + 10 - a) % 10 ≤ 10 - (g + 10 - a) % 10 then (g + 10 - a) % 10 else 10 - (g + 10 - a) % 10
theorem apa_all : ∀ a, a < 10 → ∀ g, g < 10 → T_X2_placesApart (fun _ _ _ => 0, fun _ => 0) (nI a) (nI g) = some (nI (apa a g)) := by decide +kernel
theorem x2_apa {σ : ST} {a g : Nat} (ha : a ≤ 9) (hg : g ≤ 9) : T_X2_placesApart σ (nI a) (nI g) = some (nI (apa a g)) := apa_all a (by omega) g (by omega)
theorem apa_le {a g : Nat} : apa a g ≤ 10 := by unfold apa; split <;> omega
theorem max_all : ∀ a, a < 10 → ∀ g, g < 11 → T_J9_max_7cf53 (fun _ _ _ => 0, fun _ => 0) (nI 0) (nI a - nI g) = some (nI (a - g)) := by decide +kernel
theorem x_max {σ : ST} {a g : Nat} (ha : a ≤ 9) (hg : g ≤ 10) : T_J9_max_7cf53 σ (nI 0) (nI a - nI g) = some (nI (a - g)) := max_all a (by omega) g (by omega)
theorem x_min {σ : ST} {a b : Nat} (ha : a < 2147483648) (hb : b < 2147483648) : T_J9_min_7cf53 σ (nI a) (nI b) = some (nI (if b < a then b else a)) := by
  unfold T_J9_min_7cf53
  simp only [q_lt hb ha]
  split <;> rfl
theorem apa1_all : ∀ a, a < 10 → ∀ g, g < 10 → apa a (tw a g) = (if a = g then 0 else 1) ∧ apa a (tw (tw a g) g) = (if a = g then 0 else if tw a g = g then 1 else 2) := by decide +kernel
theorem tw_same {a : Nat} (h : a ≤ 9) : tw a a = a := by
  unfold tw
  rw [if_pos (by omega)]
/-- one who is led, in one piece -/
theorem goLed_eq (W : WF S) {l : Nat} (hl : l < S 12 0) (hg : goal S (S 9 l) (S 7 l) ≤ 9) : goLed S l = up (up S 8 l (if S 1 (S 9 l) = 5 then tw (tw (S 8 l) (goal S (S 9 l) (S 7 l))) (goal S (S 9 l) (S 7 l)) else tw (S 8 l) (goal S (S 9 l) (S 7 l)))) 10 l (S 10 l - apa (S 8 l) (if S 1 (S 9 l) = 5 then tw (tw (S 8 l) (goal S (S 9 l) (S 7 l))) (goal S (S 9 l) (S 7 l)) else tw (S 8 l) (goal S (S 9 l) (S 7 l)))) := by
  have hw := W.bea hl
  unfold goLed
  generalize goal S (S 9 l) (S 7 l) = g at hg ⊢
  have hA := apa1_all (S 8 l) (by omega) g (by omega)
  by_cases k : S 1 (S 9 l) = 5
  · rw [if_pos k, if_pos k, hA.2]
    by_cases e : S 8 l = g
    · rw [step_done e, step_done e, if_pos e, ← e, tw_same (by omega), tw_same (by omega), up_self, Nat.sub_zero, up_self]
    · have s1 : stepG S l g = up (up S 8 l (tw (S 8 l) g)) 10 l (S 10 l - 1) := by unfold stepG; rw [if_neg e]
      rw [s1, if_neg e]
      have a1 : up (up S 8 l (tw (S 8 l) g)) 10 l (S 10 l - 1) 8 l = tw (S 8 l) g := by rw [up_ne _ (by omega), up_at]
      have a2 : up (up S 8 l (tw (S 8 l) g)) 10 l (S 10 l - 1) 10 l = S 10 l - 1 := up_at _ _ _ _
      by_cases e2 : tw (S 8 l) g = g
      · rw [step_done (by rw [a1]; exact e2), if_pos e2, e2, tw_same hg]
      · unfold stepG
        rw [a1, a2, if_neg e2, if_neg e2, up_comm _ (by omega : ¬ (10 = 8 ∧ l = l)), up_up, up_up]
        congr 1
  · rw [if_neg k, if_neg k, hA.1]
    by_cases e : S 8 l = g
    · rw [step_done e, if_pos e, ← e, tw_same (by omega), up_self, Nat.sub_zero, up_self]
    · unfold stepG
      rw [if_neg e, if_neg e]
theorem who_bound {x : Nat} : who (up S 8 x x) x = who S x := who_up (by decide) (by decide)
theorem SC.upd (R : SC D C S) {f g i x : Nat} (hf : (f = 10 ∧ g = 8) ∨ (f = 12 ∧ g = 10) ∨ (f = 5 ∧ g = 5)) : SC D (up C f i x) (up S g i x) := by
  obtain ⟨⟨r1, r2, r3, r4⟩, r5, r6, r7, r8⟩ := R
  have e : ∀ g' i', g' ≠ g → up S g i x g' i' = S g' i' := fun g' i' h => up_ne S (fun q => h q.1)
  have ec : ∀ f' i', f' ≠ f → up C f i x f' i' = C f' i' := fun f' i' h => up_ne C (fun q => h q.1)
  have hwho : ∀ b, who (up S g i x) b = who S b := fun b => who_up (by omega) (by omega)
  refine ⟨⟨?_, ?_, ?_, ?_⟩, fun b hb => ?_, fun l hl => ?_, fun l hl => ?_, ?_⟩
  · rw [e _ _ (by omega), ec _ _ (by omega)]; exact r1
  · rw [e _ _ (by omega), ec _ _ (by omega)]; exact r2
  · rw [e _ _ (by omega), ec _ _ (by omega)]; exact r3
  · rw [e _ _ (by omega), ec _ _ (by omega)]; exact r4
  · rw [e _ _ (by omega)] at hb
    have := r5 b hb
    rw [hwho, e 1 _ (by omega), e 2 _ (by omega), e 3 _ (by omega), e 4 _ (by omega), ec 1 _ (by omega), ec 2 _ (by omega), ec 3 _ (by omega), ec 4 _ (by omega), ec 6 _ (by omega)]
    refine ⟨this.1, this.2.1, this.2.2.1, this.2.2.2.1, ?_, this.2.2.2.2.2⟩
    rcases hf with ⟨rfl, rfl⟩ | ⟨rfl, rfl⟩ | ⟨rfl, rfl⟩
    · rw [e _ _ (by omega), ec _ _ (by omega)]; exact this.2.2.2.2.1
    · rw [e _ _ (by omega), ec _ _ (by omega)]; exact this.2.2.2.2.1
    · unfold up
      by_cases h : b = i
      · simp [h]
      · simp [h]; exact this.2.2.2.2.1
  · rw [e _ _ (by omega)] at hl
    have := r6 l hl
    rw [e 6 _ (by omega), e 7 _ (by omega), e 9 _ (by omega), ec 8 _ (by omega), ec 9 _ (by omega), ec 11 _ (by omega)]
    refine ⟨this.1, this.2.1, ?_, this.2.2.2.1, ?_⟩
    · rcases hf with ⟨rfl, rfl⟩ | ⟨rfl, rfl⟩ | ⟨rfl, rfl⟩
      · unfold up
        by_cases h : l = i
        · simp [h]
        · simp [h]; exact this.2.2.1
      · rw [e _ _ (by omega), ec _ _ (by omega)]; exact this.2.2.1
      · rw [e _ _ (by omega), ec _ _ (by omega)]; exact this.2.2.1
    · rcases hf with ⟨rfl, rfl⟩ | ⟨rfl, rfl⟩ | ⟨rfl, rfl⟩
      · rw [e _ _ (by omega), ec _ _ (by omega)]; exact this.2.2.2.2
      · unfold up
        by_cases h : l = i
        · simp [h]
        · simp [h]; exact this.2.2.2.2
      · rw [e _ _ (by omega), ec _ _ (by omega)]; exact this.2.2.2.2
  · rw [e 27 _ (by omega), e 28 _ (by omega), ec 15 _ (by omega), ec 16 _ (by omega)]
    exact r7 l hl
  · rw [e 29 _ (by omega), ec 17 _ (by omega)]; exact r8
/-- the tallies, the hour -/
theorem SC.upt (R : SC D C S) {f g i x y : Nat} (hf : (f = 15 ∧ g = 27 ∧ y = x + D 27 i) ∨ (f = 16 ∧ g = 28 ∧ y = x + D 28 i) ∨ (f = 17 ∧ g = 29 ∧ y = x + D 29 0) ∨ (f = 14 ∧ g = 13 ∧ x = y)) : SC D (up C f i x) (up S g i y) := by
  obtain ⟨⟨r1, r2, r3, r4⟩, r5, r6, r7, r8⟩ := R
  have e : ∀ g' i', g' ≠ g → up S g i y g' i' = S g' i' := fun g' i' h => up_ne S (fun q => h q.1)
  have ec : ∀ f' i', f' ≠ f → up C f i x f' i' = C f' i' := fun f' i' h => up_ne C (fun q => h q.1)
  have hwho : ∀ b, who (up S g i y) b = who S b := fun b => who_up (by omega) (by omega)
  refine ⟨⟨?_, ?_, ?_, ?_⟩, fun b hb => ?_, fun l hl => ?_, fun l hl => ⟨?_, ?_⟩, ?_⟩
  · rw [e _ _ (by omega), ec _ _ (by omega)]; exact r1
  · rw [e _ _ (by omega), ec _ _ (by omega)]; exact r2
  · rw [e _ _ (by omega), ec _ _ (by omega)]; exact r3
  · rcases hf with ⟨rfl, rfl, -⟩ | ⟨rfl, rfl, -⟩ | ⟨rfl, rfl, -⟩ | ⟨rfl, rfl, h⟩
    · rw [e _ _ (by omega), ec _ _ (by omega)]; exact r4
    · rw [e _ _ (by omega), ec _ _ (by omega)]; exact r4
    · rw [e _ _ (by omega), ec _ _ (by omega)]; exact r4
    · unfold up
      by_cases h0 : (0 : Nat) = i
      · simp [h0.symm, h]
      · simp [h0]; exact r4
  · rw [e _ _ (by omega)] at hb
    rw [hwho, e 1 _ (by omega), e 2 _ (by omega), e 3 _ (by omega), e 4 _ (by omega), e 5 _ (by omega), ec 1 _ (by omega), ec 2 _ (by omega), ec 3 _ (by omega), ec 4 _ (by omega), ec 5 _ (by omega), ec 6 _ (by omega)]
    exact r5 b hb
  · rw [e _ _ (by omega)] at hl
    rw [e 6 _ (by omega), e 7 _ (by omega), e 8 _ (by omega), e 9 _ (by omega), e 10 _ (by omega), ec 8 _ (by omega), ec 9 _ (by omega), ec 10 _ (by omega), ec 11 _ (by omega), ec 12 _ (by omega)]
    exact r6 l hl
  · rcases hf with ⟨rfl, rfl, h⟩ | ⟨rfl, rfl, -⟩ | ⟨rfl, rfl, -⟩ | ⟨rfl, rfl, -⟩
    · unfold up
      by_cases h0 : l = i
      · simp [h0, h]
      · simp [h0]; exact (r7 l hl).1
    all_goals (rw [e _ _ (by omega), ec _ _ (by omega)]; exact (r7 l hl).1)
  · rcases hf with ⟨rfl, rfl, -⟩ | ⟨rfl, rfl, h⟩ | ⟨rfl, rfl, -⟩ | ⟨rfl, rfl, -⟩
    · rw [e _ _ (by omega), ec _ _ (by omega)]; exact (r7 l hl).2
    · unfold up
      by_cases h0 : l = i
      · simp [h0, h]
      · simp [h0]; exact (r7 l hl).2
    all_goals (rw [e _ _ (by omega), ec _ _ (by omega)]; exact (r7 l hl).2)
  · rcases hf with ⟨rfl, rfl, -⟩ | ⟨rfl, rfl, -⟩ | ⟨rfl, rfl, h⟩ | ⟨rfl, rfl, -⟩
    · rw [e _ _ (by omega), ec _ _ (by omega)]; exact r8
    · rw [e _ _ (by omega), ec _ _ (by omega)]; exact r8
    · unfold up
      by_cases h0 : (0 : Nat) = i
      · simp [h0.symm, h]
      · simp [h0]; exact r8
    · rw [e _ _ (by omega), ec _ _ (by omega)]; exact r8
end Cls2
