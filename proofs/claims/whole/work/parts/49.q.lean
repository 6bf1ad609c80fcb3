/-! THE QUESTIONS, seventh lot: swap, lots -/
/-- two change bags -/
def swS (S : SS) (a b : Nat) : SS :=
  let T := up (up S 9 a (S 9 b)) 9 b (S 9 a)
  let T1 := if T 9 a < 9 then up T 5 (T 9 a) 0 else T
  if T1 9 b < 9 then up T1 5 (T1 9 b) 0 else T1
section Sw
variable {S : SS} {a b : Nat}
theorem sw_9 (hab : a ≠ b) (k : Nat) : swS S a b 9 k = if k = a then S 9 b else if k = b then S 9 a else S 9 k := by
  have base : up (up S 9 a (S 9 b)) 9 b (S 9 a) 9 k = if k = a then S 9 b else if k = b then S 9 a else S 9 k := by
    by_cases e : k = b
    · subst e; rw [up_at, if_neg (fun q => hab q.symm), if_pos (by trivial)]
    · rw [up_ne _ (fun q => e q.2)]
      by_cases e2 : k = a
      · subst e2; rw [up_at, if_pos (by trivial)]
      · rw [up_ne _ (fun q => e2 q.2), if_neg e2, if_neg e]
  unfold swS
  rw [← base]
  split <;> split <;> (first | rfl | (rw [up_ne _ (by omega)]; done) | (rw [up_ne _ (by omega), up_ne _ (by omega)]; done))
theorem sw_oth {f i : Nat} (hf : f ≠ 9 ∧ f ≠ 5) : swS S a b f i = S f i := by
  unfold swS
  have base : up (up S 9 a (S 9 b)) 9 b (S 9 a) f i = S f i := by rw [up_ne _ (by omega), up_ne _ (by omega)]
  rw [← base]
  split <;> split <;> (first | rfl | (rw [up_ne _ (by omega)]; done) | (rw [up_ne _ (by omega), up_ne _ (by omega)]; done))
theorem sw_5 (hab : a ≠ b) (c : Nat) (hc : c < 9) : swS S a b 5 c = if c = S 9 a ∨ c = S 9 b then 0 else S 5 c := by
  have ea : up (up S 9 a (S 9 b)) 9 b (S 9 a) 9 a = S 9 b := by rw [up_ne _ (fun q => hab q.2), up_at]
  have eb : up (up S 9 a (S 9 b)) 9 b (S 9 a) 9 b = S 9 a := up_at _ _ _ _
  have e5 : up (up S 9 a (S 9 b)) 9 b (S 9 a) 5 c = S 5 c := by rw [up_ne _ (by omega), up_ne _ (by omega)]
  unfold swS
  rw [ea]
  by_cases h1 : S 9 b < 9
  · rw [if_pos h1, up_ne _ (show ¬ (9 = 5 ∧ b = S 9 b) by omega), eb]
    by_cases h2 : S 9 a < 9
    · rw [if_pos h2]
      by_cases e : c = S 9 a
      · rw [if_pos (Or.inl e), e, up_at]
      · rw [up_ne _ (fun q => e q.2)]
        by_cases e' : c = S 9 b
        · rw [if_pos (Or.inr e'), e', up_at]
        · rw [if_neg (fun q => q.elim e e'), up_ne _ (fun q => e' q.2), e5]
    · rw [if_neg h2]
      by_cases e' : c = S 9 b
      · rw [if_pos (Or.inr e'), e', up_at]
      · rw [if_neg (by omega), up_ne _ (fun q => e' q.2), e5]
  · rw [if_neg h1, eb]
    by_cases h2 : S 9 a < 9
    · rw [if_pos h2]
      by_cases e : c = S 9 a
      · rw [if_pos (Or.inl e), e, up_at]
      · rw [if_neg (by omega), up_ne _ (fun q => e q.2), e5]
    · rw [if_neg h2, if_neg (by omega), e5]
theorem WF.sw (W : WF S) (ha : a < S 12 0) (hb : b < S 12 0) (hab : a ≠ b) : WF (swS S a b) := by
  have h11 := W.nb
  have h12 := W.nl
  have wa := W.bea ha
  have wb := W.bea hb
  refine ⟨by rw [sw_oth (by decide)]; exact W.nb, by rw [sw_oth (by decide)]; exact W.nl, fun c hc => ?_, fun k hk => ?_, fun k k' hk hk' h h9 => ?_, by rw [sw_oth (by decide)]; exact W.col⟩
  · rw [sw_oth (by decide)] at hc
    have w := W.bag hc
    rw [sw_oth (by decide), sw_oth (by decide), sw_oth (by decide), sw_oth (by decide), sw_oth (by decide), sw_5 hab _ (by omega)]
    refine ⟨w.1, w.2.1, w.2.2.1, w.2.2.2.1, ?_⟩
    split
    · omega
    · exact w.2.2.2.2
  · rw [sw_oth (by decide)] at hk
    have w := W.bea hk
    rw [sw_oth (f := 6) (by decide), sw_oth (f := 7) (by decide), sw_oth (f := 8) (by decide), sw_oth (f := 10) (by decide), sw_oth (f := 11) (by decide), sw_9 hab]
    refine ⟨w.1, w.2.1, w.2.2.1, ?_, w.2.2.2.2⟩
    split
    · exact wb.2.2.2.1
    · split
      · exact wa.2.2.2.1
      · exact w.2.2.2.1
  · rw [sw_oth (by decide)] at hk hk'
    rw [sw_9 hab] at h h9
    rw [sw_9 hab k'] at h
    have I := fun {x y : Nat} (hx : x < S 12 0) (hy : y < S 12 0) (e : S 9 x = S 9 y) (h9 : S 9 x ≠ 9) => W.inj hx hy e h9
    by_cases e1 : k = a
    · rw [if_pos e1] at h h9
      by_cases e2 : k' = a
      · omega
      · rw [if_neg e2] at h
        by_cases e3 : k' = b
        · rw [if_pos e3] at h
          have := I hb ha h h9
          omega
        · rw [if_neg e3] at h
          have := I hb hk' h h9
          omega
    · rw [if_neg e1] at h h9
      by_cases e1b : k = b
      · rw [if_pos e1b] at h h9
        by_cases e2 : k' = a
        · rw [if_pos e2] at h
          have := I ha hb h h9
          omega
        · rw [if_neg e2] at h
          by_cases e3 : k' = b
          · omega
          · rw [if_neg e3] at h
            have := I ha hk' h h9
            omega
      · rw [if_neg e1b] at h h9
        by_cases e2 : k' = a
        · rw [if_pos e2] at h
          have := I hk hb h h9
          omega
        · rw [if_neg e2] at h
          by_cases e3 : k' = b
          · rw [if_pos e3] at h
            have := I hk ha h h9
            omega
          · rw [if_neg e3] at h
            exact I hk hk' h h9
theorem sw_who (W : WF S) (ha : a < S 12 0) (hb : b < S 12 0) (hab : a ≠ b) {c : Nat} (hc : c < S 11 0) : who (swS S a b) c = if c = S 9 b then a else if c = S 9 a then b else who S c := by
  have h11 := W.nb
  have W2 := W.sw ha hb hab
  have e12 : swS S a b 12 0 = S 12 0 := sw_oth (by decide)
  by_cases e1 : c = S 9 b
  · rw [if_pos e1]
    exact who_eq W2 (by omega) (by omega) (by rw [sw_9 hab, if_pos rfl]; exact e1.symm)
  · rw [if_neg e1]
    by_cases e2 : c = S 9 a
    · rw [if_pos e2]
      exact who_eq W2 (by omega) (by omega) (by rw [sw_9 hab, if_neg (fun q => hab q.symm), if_pos rfl]; exact e2.symm)
    · rw [if_neg e2]
      rcases who_spec S c with ⟨h1, h2⟩ | ⟨h1, h2, -⟩
      · rw [h1]
        refine who_none (fun k hk h => ?_)
        rw [e12] at hk
        rw [sw_9 hab] at h
        by_cases e3 : k = a
        · rw [if_pos e3] at h; omega
        · rw [if_neg e3] at h
          by_cases e4 : k = b
          · rw [if_pos e4] at h; omega
          · rw [if_neg e4] at h
            exact h2 k hk h
      · refine who_eq W2 (by omega) (by omega) ?_
        rw [sw_9 hab, if_neg (fun q => e2 (by rw [← q]; exact h2.symm)), if_neg (fun q => e1 (by rw [← q]; exact h2.symm))]
        exact h2
end Sw
section Q7
variable {G : GG} {P : Nat → Nat} {C A S Y Z F D S0 X : SS} {τ : TT} {o : Nat}
theorem x0_keepK (h6 : C 0 0 ≤ 6) {l c : Nat} (hl : l < 5) (hc : c = 9 ∨ c < C 0 0) (e : C 11 l = kN c) : T_X0_startKeeping o (nI l) (Ro τ o C) = some (Ro τ o (if c = 9 then C else up (up C 6 c l) 5 c 0)) := by
  have hB := x0_hasBag (τ := τ) (o := o) (C := C) (b := c) h6 hc
  unfold T_X0_startKeeping
  rw [ro_ld (by omega) (by omega), e, hB]
  simp only [e_cV]
  by_cases h : c = 9
  · rw [if_pos h, if_pos h, c0, if_pos (by trivial)]
  · rw [if_neg h, if_neg h, c0, if_neg (by decide), kN_ne h, ro_sd (by omega) (by omega), ro_sd (by omega) (by omega)]
theorem x0_change (W : WF S) (R : SB C S) {a b : Nat} (ha : a < S 12 0) (hb : b < S 12 0) (hab : a ≠ b) : ∃ C', T_X0_changeBags o (nI a) (nI b) (Ro τ o C) = some (Ro τ o C') ∧ SB C' (swS S a b) ∧ (∀ f i, f ≠ 11 → f ≠ 6 → f ≠ 5 → C' f i = C f i) := by
  have h11 := W.nb
  have h12 := W.nl
  have r0 := R.1.1
  have ra := R.bea ha
  have rb := R.bea hb
  have wa := (W.bea ha).2.2.2.1
  have wb := (W.bea hb).2.2.2.1
  have hne : S 9 a ≠ 9 → S 9 a ≠ S 9 b := fun h q => hab (W.inj ha hb q h)
  let C1 : SS := up (up C 11 a (C 11 b)) 11 b (C 11 a)
  have c1ne : ∀ f i, f ≠ 11 → C1 f i = C f i := fun f i h => by
    show up (up C 11 a (C 11 b)) 11 b (C 11 a) f i = _
    rw [up_ne _ (fun q => h q.1), up_ne _ (fun q => h q.1)]
  have c1a : C1 11 a = kN (S 9 b) := by
    show up (up C 11 a (C 11 b)) 11 b (C 11 a) 11 a = _
    rw [up_ne _ (fun q => hab q.2), up_at]; exact rb.2.2.2.1
  have c1b : C1 11 b = kN (S 9 a) := by
    show up (up C 11 a (C 11 b)) 11 b (C 11 a) 11 b = _
    rw [up_at]; exact ra.2.2.2.1
  let C2 : SS := if S 9 b = 9 then C1 else up (up C1 6 (S 9 b) a) 5 (S 9 b) 0
  have c2ne : ∀ f i, f ≠ 6 → f ≠ 5 → C2 f i = C1 f i := fun f i h1 h2 => by
    show (if S 9 b = 9 then C1 else up (up C1 6 (S 9 b) a) 5 (S 9 b) 0) f i = _
    split
    · rfl
    · rw [up_ne _ (fun q => h2 q.1), up_ne _ (fun q => h1 q.1)]
  let C3 : SS := if S 9 a = 9 then C2 else up (up C2 6 (S 9 a) b) 5 (S 9 a) 0
  have c3ne : ∀ f i, f ≠ 6 → f ≠ 5 → C3 f i = C2 f i := fun f i h1 h2 => by
    show (if S 9 a = 9 then C2 else up (up C2 6 (S 9 a) b) 5 (S 9 a) 0) f i = _
    split
    · rfl
    · rw [up_ne _ (fun q => h2 q.1), up_ne _ (fun q => h1 q.1)]
  have k1 := x0_keepK (τ := τ) (o := o) (C := C1) (l := a) (c := S 9 b) (by rw [c1ne _ _ (by decide)]; omega) (by omega) (by rw [c1ne _ _ (by decide)]; omega) c1a
  have k2 := x0_keepK (τ := τ) (o := o) (C := C2) (l := b) (c := S 9 a) (by rw [c2ne _ _ (by decide) (by decide), c1ne _ _ (by decide)]; omega) (by omega) (by rw [c2ne _ _ (by decide) (by decide), c1ne _ _ (by decide)]; omega) (by rw [c2ne _ _ (by decide) (by decide)]; exact c1b)
  have cne : ∀ f i, f ≠ 11 → f ≠ 6 → f ≠ 5 → C3 f i = C f i := fun f i h1 h2 h3 => by rw [c3ne f i h2 h3, c2ne f i h2 h3, c1ne f i h1]
  refine ⟨C3, ?_, ⟨⟨?_, ?_, ?_, ?_⟩, fun c hc => ?_, fun k hk => ?_⟩, cne⟩
  · unfold T_X0_changeBags
    rw [ro_ld (by omega) (by omega), ro_ld (by omega) (by omega), ro_sd (by omega) (by omega), ro_sd (by omega) (by omega)]
    show cV (T_X0_startKeeping o (nI a) (Ro τ o C1)) _ = _
    rw [k1]
    simp only [e_cV]
    show cV (T_X0_startKeeping o (nI b) (Ro τ o C2)) _ = _
    rw [k2]
    rfl
  · rw [cne _ _ (by decide) (by decide) (by decide), sw_oth (by decide)]; exact R.1.1
  · rw [cne _ _ (by decide) (by decide) (by decide), sw_oth (by decide)]; exact R.1.2.1
  · rw [cne _ _ (by decide) (by decide) (by decide), sw_oth (by decide)]; exact R.1.2.2.1
  · rw [cne _ _ (by decide) (by decide) (by decide), sw_oth (by decide)]; exact R.1.2.2.2
  · rw [sw_oth (by decide)] at hc
    have r := R.bag hc
    rw [cne 1 _ (by decide) (by decide) (by decide), cne 2 _ (by decide) (by decide) (by decide), cne 3 _ (by decide) (by decide) (by decide), cne 4 _ (by decide) (by decide) (by decide), sw_oth (by decide), sw_oth (by decide), sw_oth (by decide), sw_oth (by decide), sw_5 hab _ (by omega), sw_who W ha hb hab hc]
    have e5 : C3 5 c = if c = S 9 a ∨ c = S 9 b then 0 else S 5 c := by
      show (if S 9 a = 9 then C2 else up (up C2 6 (S 9 a) b) 5 (S 9 a) 0) 5 c = _
      have e2 : C2 5 c = if c = S 9 b then 0 else S 5 c := by
        show (if S 9 b = 9 then C1 else up (up C1 6 (S 9 b) a) 5 (S 9 b) 0) 5 c = _
        by_cases h : S 9 b = 9
        · rw [if_pos h, c1ne _ _ (by decide), if_neg (by omega)]; exact r.2.2.2.2.1
        · rw [if_neg h]
          by_cases e : c = S 9 b
          · rw [if_pos e, e, up_at]
          · rw [if_neg e, up_ne _ (fun q => e q.2), up_ne _ (by omega), c1ne _ _ (by decide)]; exact r.2.2.2.2.1
      by_cases h : S 9 a = 9
      · rw [if_pos h, e2]
        by_cases e : c = S 9 b
        · rw [if_pos e, if_pos (Or.inr e)]
        · rw [if_neg e, if_neg (by omega)]
      · rw [if_neg h]
        by_cases e : c = S 9 a
        · rw [if_pos (Or.inl e), e, up_at]
        · rw [up_ne _ (fun q => e q.2), up_ne _ (by omega), e2]
          by_cases e3 : c = S 9 b
          · rw [if_pos e3, if_pos (Or.inr e3)]
          · rw [if_neg e3, if_neg (fun q => q.elim e e3)]
    have e6 : C3 6 c = kN (if c = S 9 b then a else if c = S 9 a then b else who S c) := by
      show (if S 9 a = 9 then C2 else up (up C2 6 (S 9 a) b) 5 (S 9 a) 0) 6 c = _
      have e2 : C2 6 c = if c = S 9 b then a else kN (who S c) := by
        show (if S 9 b = 9 then C1 else up (up C1 6 (S 9 b) a) 5 (S 9 b) 0) 6 c = _
        by_cases h : S 9 b = 9
        · rw [if_pos h, c1ne _ _ (by decide), if_neg (by omega)]; exact r.2.2.2.2.2
        · rw [if_neg h, up_ne _ (by omega)]
          by_cases e : c = S 9 b
          · rw [if_pos e, e, up_at]
          · rw [if_neg e, up_ne _ (fun q => e q.2), c1ne _ _ (by decide)]; exact r.2.2.2.2.2
      by_cases h : S 9 a = 9
      · rw [if_pos h, e2]
        by_cases e : c = S 9 b
        · rw [if_pos e, if_pos e, kN_ne (by omega)]
        · rw [if_neg e, if_neg e, if_neg (by omega)]
      · rw [if_neg h, up_ne _ (by omega)]
        have hn := hne h
        by_cases e : c = S 9 a
        · rw [if_neg (by omega), if_pos e, e, up_at, kN_ne (by omega)]
        · rw [up_ne _ (fun q => e q.2), e2, if_neg e]
          by_cases e3 : c = S 9 b
          · rw [if_pos e3, if_pos e3, kN_ne (by omega)]
          · rw [if_neg e3, if_neg e3]
    exact ⟨r.1, r.2.1, r.2.2.1, r.2.2.2.1, e5, e6⟩
  · rw [sw_oth (by decide)] at hk
    have r := R.bea hk
    rw [cne 8 _ (by decide) (by decide) (by decide), cne 9 _ (by decide) (by decide) (by decide), cne 10 _ (by decide) (by decide) (by decide), cne 12 _ (by decide) (by decide) (by decide), sw_oth (f := 6) (by decide), sw_oth (f := 7) (by decide), sw_oth (f := 8) (by decide), sw_oth (f := 10) (by decide), sw_9 hab]
    refine ⟨r.1, r.2.1, r.2.2.1, ?_, r.2.2.2.2⟩
    rw [c3ne _ _ (by decide) (by decide), c2ne _ _ (by decide) (by decide)]
    by_cases e : k = a
    · rw [if_pos e, e]; exact c1a
    · rw [if_neg e]
      by_cases e2 : k = b
      · rw [if_pos e2, e2]; exact c1b
      · rw [if_neg e2]
        show up (up C 11 a (C 11 b)) 11 b (C 11 a) 11 k = _
        rw [up_ne _ (fun q => e2 q.2), up_ne _ (fun q => e q.2)]; exact r.2.2.2.1
/-- all hours led -/
noncomputable def allH (Y : SS) (n : Nat) : Nat := sumN (rnC Y n 27) (Y 12 0) 0
theorem allH_le (K : TK Y) {n : Nat} (hn : n ≤ 60) : allH Y n ≤ 300 := by
  have h12 := K.1.nl
  have := sumN_le (g := rnC Y n 27) (N := 60) (Y 12 0) 0 (fun i h1 h2 => by have := rnC_27 (S := Y) (n := n) (show i < 5 by omega); omega)
  have h2 : Y 12 0 * 60 ≤ 5 * 60 := Nat.mul_le_mul_right _ h12
  show sumN (rnC Y n 27) (Y 12 0) 0 ≤ 300
  omega
theorem x3_allLed (K : TK Y) {n : Nat} (hn : n ≤ 60) : T_X3_allLed (nI n) (Ro τ 13 Y) = some (nI (allH Y n), Ro τ 13 (gtS 2 (rnC Y n))) := by
  have kr := KR.rnC K n
  have h12 := K.1.nl
  have g12 : gtS 2 (rnC Y n) 12 0 = Y 12 0 := kr.1 12 0 (inr (by decide) (by omega))
  have := x3_ledL (τ := τ) (S := gtS 2 (rnC Y n)) (by omega) (gtS 2 (rnC Y n) 12 0) 0 0 FU (by omega) (FU_gt (by omega))
  unfold T_X3_allLed
  rw [x3_snapsIn K hn]
  simp only [e_cI]
  rw [c0, this, Nat.zero_add, g12]
  unfold allH
  rw [sumN_congr (g' := rnC Y n 27)]
  intro i h1 h2
  exact gtS_oth (by omega) (by omega)
theorem cls_allH (R : SB C Y) (t : T0 C) (K : TK Y) {n : Nat} (hn : n ≤ 60) : ∃ C2, T_X0_goHours 2 (nI n) (Ro τ 2 C) = some (Ro τ 2 C2) ∧ T_X0_allLedHours 2 (Ro τ 2 C2) = some (nI (allH Y n)) := by
  have h12 := K.1.nl
  obtain ⟨C2, g1, g2, g3, g4, g5⟩ := cls_rn (τ := τ) R t K hn
  have e7 : C2 7 0 = Y 12 0 := g2.1.2.1.trans rnC_12
  refine ⟨C2, g1, ?_⟩
  rw [x0_ledH (by omega), e7]
  unfold allH
  rw [sumN_congr (g' := rnC Y n 27)]
  intro i h1 h2
  exact (g4 i (by omega)).1
theorem TK.sw (K : TK Y) {a b : Nat} (ha : a < Y 12 0) (hb : b < Y 12 0) (hab : a ≠ b) : TK (swS Y a b) := ⟨K.1.sw ha hb hab, by rw [sw_oth (by decide)]; exact K.2.1, by rw [sw_oth (by decide)]; exact K.2.2⟩
noncomputable def sw1 (Y : SS) (a b : Nat) : SS := swS (kpS 1 Y) a b
theorem ref_ledSw (K : TK Y) {a b n : Nat} (ha : a < Y 12 0) (hb : b < Y 12 0) (hab : a ≠ b) (hn : n ≤ 60) : ∃ F, (∀ τ, T_X3_ledSwapped (nI a) (nI b) (nI n) (Ro τ 13 Y) = some (nI (allH (sw1 Y a b) n), Ro τ 13 F)) ∧ KR 60 Y F := by
  have K1 := K.keep (w := 1)
  have h12 := K.1.nl
  have h11 := K.1.nb
  have e12 : kpS 1 Y 12 0 = Y 12 0 := kpS_oth (by decide)
  have e11 : kpS 1 Y 11 0 = Y 11 0 := kpS_oth (by decide)
  have K2 : TK (sw1 Y a b) := K1.sw (by omega) (by omega) hab
  have wa := (K1.1.bea (l := a) (by omega)).2.2.2.1
  have wb := (K1.1.bea (l := b) (by omega)).2.2.2.1
  refine ⟨gtS 1 (gtS 2 (rnC (sw1 Y a b) n)), fun τ => ?_, KR.try1 K.2.2 ?_⟩
  · have fin : ∀ n', nI n' = nI n → T_X3_ledSwapped_j80 (nI n') (Ro τ 13 (sw1 Y a b)) = some (nI (allH (sw1 Y a b) n), Ro τ 13 (gtS 1 (gtS 2 (rnC (sw1 Y a b) n)))) := by
      intro n' e
      unfold T_X3_ledSwapped_j80
      rw [e, x3_allLed K2 hn]
      simp only [e_cI]
      rw [c1, c0, x3_putAll (by decide)]
      rfl
    unfold T_X3_ledSwapped
    rw [c1, x3_keepAll (by decide)]
    simp only [e_cV]
    rw [ro_ld (by omega) (by omega), ro_ld (by omega) (by omega), ro_sd (by omega) (by omega), ro_sd (by omega) (by omega)]
    have ea : up (up (kpS 1 Y) 9 a (kpS 1 Y 9 b)) 9 b (kpS 1 Y 9 a) 9 a = kpS 1 Y 9 b := by rw [up_ne _ (fun q => hab q.2), up_at]
    have eb : up (up (kpS 1 Y) 9 a (kpS 1 Y 9 b)) 9 b (kpS 1 Y 9 a) 9 b = kpS 1 Y 9 a := up_at _ _ _ _
    have tail : ∀ T1 : SS, T1 9 b = kpS 1 Y 9 a → sw1 Y a b = (if kpS 1 Y 9 a < 9 then up T1 5 (kpS 1 Y 9 a) 0 else T1) → T_X3_ledSwapped_j57 (nI b) (nI n) (Ro τ 13 T1) = some (nI (allH (sw1 Y a b) n), Ro τ 13 (gtS 1 (gtS 2 (rnC (sw1 Y a b) n)))) := by
      intro T1 h1 h2
      unfold T_X3_ledSwapped_j57
      rw [ro_ld (by omega) (by omega), h1, c9]
      by_cases e : kpS 1 Y 9 a < 9
      · rw [if_pos e] at h2
        rw [if_neg (by rw [q_le (by omega) (by omega)]; omega), ro_ld (by omega) (by omega), h1, c0, ro_sd (by omega) (by omega), ← h2]
        exact fin n rfl
      · rw [if_neg e] at h2
        rw [if_pos (by rw [q_le (by omega) (by omega)]; omega), ← h2]
        exact fin n rfl
    rw [ro_ld (by omega) (by omega), ea, c9]
    by_cases e : kpS 1 Y 9 b < 9
    · rw [if_neg (by rw [q_le (by omega) (by omega)]; omega), ro_ld (by omega) (by omega), ea, c0, ro_sd (by omega) (by omega)]
      refine tail _ (by rw [up_ne _ (by omega)]; exact eb) ?_
      unfold sw1 swS
      dsimp only
      rw [ea, if_pos e, up_ne _ (show ¬ (9 = 5 ∧ b = kpS 1 Y 9 b) by omega), eb]
    · rw [if_pos (by rw [q_le (by omega) (by omega)]; omega)]
      refine tail _ eb ?_
      unfold sw1 swS
      dsimp only
      rw [ea, if_neg e, eb]
  · have o1 : OS 120 (kpS 1 Y) (sw1 Y a b) := (OS.keep K.2.2).any (fun g j q => sw_oth (by unfold NS at q; omega))
    exact o1.trans (KR.rnC K2 n).2
theorem swapJ (J : Inv G P) {m i : Nat} (hm : m ≤ 60) (hi : i < G 13 12 0) : ∀ r j pr fw C Y, j + r = G 13 12 0 → i < j → KR 60 (G 13) Y → fw ≤ 300 → ∃ pr' fw' C' F, (∀ K n, r < n → T_X2_swap_L60 K n (nI m) (nI fw) (nI pr) (nI i) (nI j) (Ro (G, P) 2 C) = K (nI m) (nI fw') (nI pr') (nI (i + 1)) (Ro (G, P) 2 C')) ∧ (∀ τ K n, r < n → T_X3_swap_L43 K n (nI m) (nI pr) (nI fw) (nI i) (nI j) (Ro τ 13 Y) = K (nI m) (nI pr') (nI fw') (nI (i + 1)) (Ro τ 13 F)) ∧ KR 60 (G 13) F ∧ fw' ≤ 300 := by
  have K := J.tk
  have h12 := K.1.nl
  have r7 : G 1 7 0 = G 13 12 0 := J.sb.1.2.1
  intro r
  induction r with
  | zero =>
    intro j pr fw C Y h hij k hf
    have e12 : Y 12 0 = G 13 12 0 := k.1 12 0 (inr (by decide) (by omega))
    refine ⟨pr, fw, C, Y, fun K n hn => ?_, fun τ K n hn => ?_, k, hf⟩
    · obtain ⟨n, rfl⟩ := fu_one hn
      unfold T_X2_swap_L60
      rw [rx_gf (by decide)]
      show (if nI (G 1 7 0) ≤ nI j then _ else _) = _
      rw [r7, if_pos (by rw [q_le (by omega) (by omega)]; omega), c1, nI_add, e_vl]
    · obtain ⟨n, rfl⟩ := fu_one hn
      unfold T_X3_swap_L43
      rw [ro_gf, e12, if_pos (by rw [q_le (by omega) (by omega)]; omega), c1, nI_add, e_vl]
  | succ r ih =>
    intro j pr fw C Y h hij k hf
    have e12 : Y 12 0 = G 13 12 0 := k.1 12 0 (inr (by decide) (by omega))
    have KY := k.tk K
    have K1 := KY.keep (w := 1)
    have e12k : kpS 1 Y 12 0 = Y 12 0 := kpS_oth (by decide)
    have K2 : TK (sw1 Y i j) := K1.sw (by omega) (by omega) (by omega)
    obtain ⟨C1, t1, t2⟩ := x2_think2 (G := G) (P := P) C
    obtain ⟨C2, g1, g2, g3⟩ := x0_change (τ := (G, P)) (o := 2) K1.1 (Eqs.keep.sb KY.1 (t2.sb KY.1 (k.1.sb K.1 J.sb))) (a := i) (b := j) (by omega) (by omega) (by omega)
    have T2 : T0 C2 := t2.t0.same (fun f i q => g3 f i (by omega) (by omega) (by omega))
    obtain ⟨C3, f1, f2⟩ := cls_allH (τ := (G, P)) (Y := sw1 Y i j) g2 T2 K2 hm
    obtain ⟨F, s1, s2⟩ := ref_ledSw KY (a := i) (b := j) (by omega) (by omega) (by omega) hm
    have hle := allH_le K2 hm
    by_cases e : allH (sw1 Y i j) m < fw
    · obtain ⟨pr', fw', C', F', i1, i2, i3, i4⟩ := ih (j + 1) (10 * i + j) (allH (sw1 Y i j) m) C3 F (by omega) (by omega) (k.trans s2) hle
      refine ⟨pr', fw', C', F', fun K n hn => ?_, fun τ K n hn => ?_, i3, i4⟩
      · obtain ⟨n, rfl⟩ := fu_one (by omega : 0 < n)
        unfold T_X2_swap_L60
        rw [rx_gf (by decide)]
        show (if nI (G 1 7 0) ≤ nI j then _ else _) = _
        rw [r7, if_neg (by rw [q_le (by omega) (by omega)]; omega), t1]
        simp only [e_cV]
        rw [g1]
        simp only [e_cV]
        rw [f1]
        simp only [e_cV]
        rw [f2]
        simp only [e_cV]
        rw [if_neg (by rw [q_le (by omega) (by omega)]; omega), c10, q_mul, nI_add, e_vl, c1, nI_add, e_vl]
        exact i1 K n (by omega)
      · obtain ⟨n, rfl⟩ := fu_one (by omega : 0 < n)
        unfold T_X3_swap_L43
        rw [ro_gf, e12, if_neg (by rw [q_le (by omega) (by omega)]; omega), s1]
        simp only [e_cI]
        rw [if_pos (by rw [q_lt (by omega) (by omega)]; omega), c10, q_mul, nI_add, e_vl, c1, nI_add, e_vl]
        exact i2 τ K n (by omega)
    · obtain ⟨pr', fw', C', F', i1, i2, i3, i4⟩ := ih (j + 1) pr fw C3 F (by omega) (by omega) (k.trans s2) hf
      refine ⟨pr', fw', C', F', fun K n hn => ?_, fun τ K n hn => ?_, i3, i4⟩
      · obtain ⟨n, rfl⟩ := fu_one (by omega : 0 < n)
        unfold T_X2_swap_L60
        rw [rx_gf (by decide)]
        show (if nI (G 1 7 0) ≤ nI j then _ else _) = _
        rw [r7, if_neg (by rw [q_le (by omega) (by omega)]; omega), t1]
        simp only [e_cV]
        rw [g1]
        simp only [e_cV]
        rw [f1]
        simp only [e_cV]
        rw [f2]
        simp only [e_cV]
        rw [if_pos (by rw [q_le (by omega) (by omega)]; omega), c1, nI_add, e_vl]
        exact i1 K n (by omega)
      · obtain ⟨n, rfl⟩ := fu_one (by omega : 0 < n)
        unfold T_X3_swap_L43
        rw [ro_gf, e12, if_neg (by rw [q_le (by omega) (by omega)]; omega), s1]
        simp only [e_cI]
        rw [if_neg (by rw [q_lt (by omega) (by omega)]; omega), c1, nI_add, e_vl]
        exact i2 τ K n (by omega)
theorem swapI (J : Inv G P) {m : Nat} (hm : m ≤ 60) : ∀ r i n pr fw C Y, i + r = G 13 12 0 → r < n → KR 60 (G 13) Y → fw ≤ 300 → ∃ res C' F, T_X2_swap_L42 n (nI m) (nI fw) (nI pr) (nI i) (Ro (G, P) 2 C) = some (res, Ro (G, P) 2 C') ∧ (∀ τ, T_X3_swap_L28 n (nI m) (nI pr) (nI fw) (nI i) (Ro τ 13 Y) = some (res, Ro τ 13 F)) ∧ KR 60 (G 13) F := by
  have K := J.tk
  have h12 := K.1.nl
  have r7 : G 1 7 0 = G 13 12 0 := J.sb.1.2.1
  intro r
  induction r with
  | zero =>
    intro i n pr fw C Y h hn k hf
    obtain ⟨n, rfl⟩ := fu_one hn
    have e12 : Y 12 0 = G 13 12 0 := k.1 12 0 (inr (by decide) (by omega))
    refine ⟨nI pr, C, Y, ?_, fun τ => ?_, k⟩
    · unfold T_X2_swap_L42
      rw [rx_gf (by decide)]
      show (if nI (G 1 7 0) ≤ nI i then _ else _) = _
      rw [r7, if_pos (by rw [q_le (by omega) (by omega)]; omega)]
    · unfold T_X3_swap_L28
      rw [ro_gf, e12, if_pos (by rw [q_le (by omega) (by omega)]; omega)]
  | succ r ih =>
    intro i n pr fw C Y h hn k hf
    obtain ⟨n, rfl⟩ := fu_one (by omega : 0 < n)
    have e12 : Y 12 0 = G 13 12 0 := k.1 12 0 (inr (by decide) (by omega))
    obtain ⟨pr', fw', C', F', i1, i2, i3, i4⟩ := swapJ (P := P) J hm (show i < G 13 12 0 by omega) r (i + 1) pr fw C Y (by omega) (by omega) k hf
    obtain ⟨res, C2, F2, j1, j2, j3⟩ := ih (i + 1) n pr' fw' C' F' (by omega) (by omega) i3 i4
    refine ⟨res, C2, F2, ?_, fun τ => ?_, j3⟩
    · unfold T_X2_swap_L42
      rw [rx_gf (by decide)]
      show (if nI (G 1 7 0) ≤ nI i then _ else _) = _
      rw [r7, if_neg (by rw [q_le (by omega) (by omega)]; omega), c1, nI_add, e_vl, i1 _ _ (FU_gt (by omega))]
      exact j1
    · unfold T_X3_swap_L28
      rw [ro_gf, e12, if_neg (by rw [q_le (by omega) (by omega)]; omega), c1, nI_add, e_vl, i2 _ _ _ (FU_gt (by omega))]
      exact j2 τ
theorem ok_swap (J : Inv G P) (a0 : Int32) : OKm G P (T_X2_swap a0) (T_X3_swap a0) := by
  have K := J.tk
  have h12 := K.1.nl
  rcases chk_hours a0 with ⟨n, hn, rfl, e3, e4⟩ | ⟨k, hk, e3, e4⟩
  · obtain ⟨C1, t1, t2⟩ := x2_think2 (G := G) (P := P) (G 2)
    obtain ⟨C2, g1, g2⟩ := cls_allH (τ := (G, P)) (t2.sb K.1 J.sb) t2.t0 K hn
    obtain ⟨res, C', F, i1, i2, i3⟩ := swapI (P := P) J hn (G 13 12 0) 0 FU 4294967287 (allH (G 13) n) C2 (gtS 2 (rnC (G 13) n)) (by omega) (FU_gt (by omega)) ((KR.rnC K n).mono (by decide)) (allH_le K hn)
    refine ok_q2 (r := res) (C := C') J ?_ (fun τ => ⟨F, ?_, i3⟩)
    · unfold T_X2_swap
      simp only [e3, t1, g1, g2, e_cV, d0, d9, m9, eq00, eq10, if_true, if_false]
      exact i1
    · unfold T_X3_swap
      simp only [e4, x3_allLed K hn, e_cV, e_cI, d0, d9, m9, eq00, eq10, if_true, if_false]
      exact i2 τ
  · refine ok_ref k J (by omega) ?_ (fun τ => ?_)
    · unfold T_X2_swap
      simp only [e3, e_cV, d0, (neg_ok k (by omega) (by omega)).2.1, if_false, cI_id]
    · unfold T_X3_swap
      simp only [e4, e_cV, d0, (neg_ok k (by omega) (by omega)).2.1, if_false, cI_id]
end Q7
