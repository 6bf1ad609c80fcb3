/-! WHAT STAYS: the reference's thought, the two sides' tie -/
theorem inr {f i : Nat} (h : 1 ≤ f ∧ f ≤ 14) (hi : (f ≤ 5 ∧ i < 6) ∨ (6 ≤ f ∧ f ≤ 10 ∧ i < 5) ∨ (11 ≤ f ∧ i = 0)) : InR f i := by
  refine ⟨h.1, h.2, ?_⟩
  unfold lenF
  split
  · omega
  · split <;> omega
def Eqs (S T : SS) : Prop := ∀ f i, InR f i → T f i = S f i
def NS (g : Nat) : Prop := g = 0 ∨ (15 ≤ g ∧ g ≤ 21) ∨ g = 23 ∨ g = 26 ∨ g = 34 ∨ g = 35
/-- what is no street stays, but for the frames from a to 180 -/
def OS (a : Nat) (S T : SS) : Prop := (∀ g j, NS g → T g j = S g j) ∧ (∀ j, (j < a ∨ 180 ≤ j) → T 22 j = S 22 j) ∧ T 30 0 ≤ 9
def KR (a : Nat) (S T : SS) : Prop := Eqs S T ∧ OS a S T
section Tie
variable {S T U C : SS} {a : Nat}
theorem Eqs.refl : Eqs S S := fun _ _ _ => rfl
theorem Eqs.trans (h : Eqs S T) (k : Eqs T U) : Eqs S U := fun f i q => (k f i q).trans (h f i q)
theorem OS.refl (h : S 30 0 ≤ 9) : OS a S S := ⟨fun _ _ _ => rfl, fun _ _ => rfl, h⟩
theorem OS.trans (h : OS a S T) (k : OS a T U) : OS a S U := ⟨fun g j q => (k.1 g j q).trans (h.1 g j q), fun j q => (k.2.1 j q).trans (h.2.1 j q), k.2.2⟩
theorem OS.mono {b : Nat} (h : OS a S T) (hb : b ≤ a) : OS b S T := ⟨h.1, fun j q => h.2.1 j (by omega), h.2.2⟩
theorem KR.refl (h : S 30 0 ≤ 9) : KR a S S := ⟨Eqs.refl, OS.refl h⟩
theorem KR.trans (h : KR a S T) (k : KR a T U) : KR a S U := ⟨h.1.trans k.1, h.2.trans k.2⟩
theorem KR.mono {b : Nat} (h : KR a S T) (hb : b ≤ a) : KR b S T := ⟨h.1, h.2.mono hb⟩
theorem OS.hour (h : OS a S T) (z : Nat) : OS a S (hourS T z) := by
  have key : ∀ g j, (NS g ∨ g = 22 ∨ g = 30) → hourS T z g j = T g j := fun g j q => hourS_keeps (by unfold NS at q; omega)
  refine ⟨fun g j q => (key g j (Or.inl q)).trans (h.1 g j q), fun j q => (key _ _ (by omega)).trans (h.2.1 j q), ?_⟩
  rw [key _ _ (by omega)]
  exact h.2.2
theorem OS.run (h : OS a S T) (n : Nat) : OS a S (runS T n) := by
  have key : ∀ g j, (NS g ∨ g = 22 ∨ g = 30) → runS T n g j = T g j := fun g j q => runS_keeps (by unfold NS at q; omega) _ _
  refine ⟨fun g j q => (key g j (Or.inl q)).trans (h.1 g j q), fun j q => (key _ _ (by omega)).trans (h.2.1 j q), ?_⟩
  rw [key _ _ (by omega)]
  exact h.2.2
theorem OS.up (h : OS a S T) {f i x : Nat} (hf : ¬ NS f ∧ f ≠ 22 ∧ f ≠ 30) : OS a S (up T f i x) := by
  have key : ∀ g j, (NS g ∨ g = 22 ∨ g = 30) → Jvm.Pilot.@@N@@.up T f i x g j = T g j := by
    intro g j q
    refine up_ne _ (fun e => ?_)
    rw [e.1] at q
    exact q.elim hf.1 (fun q => q.elim hf.2.1 hf.2.2)
  refine ⟨fun g j q => (key g j (Or.inl q)).trans (h.1 g j q), fun j q => (key _ _ (by omega)).trans (h.2.1 j q), ?_⟩
  rw [key _ _ (by omega)]
  exact h.2.2
/-- any change of the street and the tallies alone -/
theorem OS.any (h : OS a S T) (k : ∀ g j, (NS g ∨ g = 22 ∨ g = 30) → U g j = T g j) : OS a S U := by
  refine ⟨fun g j q => (k g j (Or.inl q)).trans (h.1 g j q), fun j q => (k _ _ (by omega)).trans (h.2.1 j q), ?_⟩
  rw [k _ _ (by omega)]
  exact h.2.2
theorem NS.ne {g : Nat} (h : NS g) : (g = 0 ∨ 15 ≤ g) ∧ g ≠ 22 ∧ g ≠ 24 ∧ g ≠ 25 ∧ g ≠ 27 ∧ g ≠ 28 ∧ g ≠ 29 ∧ g ≠ 30 := by unfold NS at h; omega
theorem off_lt {f i : Nat} (h : InR f i) : offF f + i < 59 := by
  have h1 := h.1
  have h2 := h.2.1
  have h3 := h.2.2
  unfold lenF at h3
  unfold offF
  split at h3
  · rw [if_pos (by omega)]; omega
  · split at h3
    · by_cases e : f = 6
      · subst e; rw [if_pos (by decide)]; omega
      · rw [if_neg (by omega), if_pos (by omega)]; omega
    · by_cases e : f = 11
      · subst e; rw [if_neg (by decide), if_pos (by decide)]; omega
      · rw [if_neg (by omega), if_neg (by omega)]; omega
/-- what was thought of is put back -/
theorem KR.frame {w b : Nat} (hw : w = 1 ∨ w = 2) (h30 : S 30 0 ≤ 9) (hb : b = 60 * w) (h : OS (b + 60) (kpS w S) T) : KR b S (gtS w T) := by
  subst hb
  refine ⟨fun f i q => ?_, fun g j q => ?_, fun j q => ?_, ?_⟩
  · have hq := off_lt q
    rw [gtS_in q, ← kpS_fr (S := S) (w := w) q]
    exact h.2.1 _ (by omega)
  · have n := q.ne
    rw [gtS_oth n.1 ⟨n.2.2.1, n.2.2.2.1⟩, h.1 g j q, kpS_oth ⟨n.2.1, n.2.2.1, n.2.2.2.1⟩]
  · rw [gtS_oth (by omega) (by omega), h.2.1 j (by omega), kpS_out (by omega)]
  · rw [gtS_oth (by omega) (by omega)]
    exact h.2.2
theorem OS.keep {w : Nat} (h30 : S 30 0 ≤ 9) : OS a (kpS w S) (kpS w S) := OS.refl (by rw [kpS_oth (by decide)]; exact h30)
theorem KR.think (h30 : S 30 0 ≤ 9) (h : OS 180 (kpS 2 S) T) : KR 120 S (gtS 2 T) := KR.frame (Or.inr rfl) h30 rfl h
theorem KR.try1 (h30 : S 30 0 ≤ 9) (h : OS 120 (kpS 1 S) T) : KR 60 S (gtS 1 T) := KR.frame (Or.inl rfl) h30 rfl h
/-- a field of the street changed for a thought, and set back -/
theorem KR.back {f i x : Nat} (hf : 1 ≤ f ∧ f ≤ 14) (h : KR a (Jvm.Pilot.@@N@@.up S f i x) T) : KR a S (Jvm.Pilot.@@N@@.up T f i (S f i)) := by
  have n0 : ¬ NS f := by unfold NS; omega
  refine ⟨fun g j q => ?_, fun g j q => ?_, fun j q => ?_, ?_⟩
  · by_cases e : g = f ∧ j = i
    · rw [e.1, e.2, up_at]
    · rw [up_ne _ e, h.1 g j q, up_ne _ e]
  · have e : g ≠ f := fun e => n0 (e ▸ q)
    rw [up_ne _ (fun z => e z.1), h.2.1 g j q, up_ne _ (fun z => e z.1)]
  · rw [up_ne _ (by omega), h.2.2.1 j q, up_ne _ (by omega)]
  · rw [up_ne _ (by omega)]; exact h.2.2.2
theorem Eqs.keep {w : Nat} : Eqs S (kpS w S) := fun f i q => kpS_oth (by have := q.2.1; omega)
theorem whoG_congr2 {b : Nat} : ∀ r l, (∀ i, l ≤ i → i < l + r → S 9 i = T 9 i) → whoG S b r l = whoG T b r l
  | 0, _, _ => rfl
  | r + 1, l, h => by
    unfold whoG
    rw [h l (Nat.le_refl _) (by omega), whoG_congr2 r (l + 1) (fun i h1 h2 => h i (by omega) (by omega))]
theorem Eqs.who (h : Eqs S T) (W : WF S) (b : Nat) : who T b = who S b := by
  have h12 := W.nl
  have e12 := h 12 0 (inr (by decide) (by omega))
  unfold Jvm.Pilot.@@N@@.who
  rw [e12]
  exact whoG_congr2 _ _ (fun i h1 h2 => h 9 i (inr (by decide) (by omega)))
theorem Eqs.wf (h : Eqs S T) (W : WF S) : WF T := by
  have h12 := W.nl
  have h11 := W.nb
  have e12 := h 12 0 (inr (by decide) (by omega))
  have e11 := h 11 0 (inr (by decide) (by omega))
  have e14 := h 14 0 (inr (by decide) (by omega))
  have bg : ∀ f b, 1 ≤ f → f ≤ 5 → b < S 11 0 → T f b = S f b := fun f b h1 h2 h3 => h f b (inr (by omega) (by omega))
  have be : ∀ f b, 6 ≤ f → f ≤ 10 → b < S 12 0 → T f b = S f b := fun f b h1 h2 h3 => h f b (inr (by omega) (by omega))
  obtain ⟨w1, w2, w3, w4, w5, w6⟩ := W
  refine ⟨by omega, by omega, fun b hb => ?_, fun l hl => ?_, fun l l' hl hl' => ?_, by omega⟩
  · rw [e11] at hb
    rw [bg 1 b (by decide) (by decide) hb, bg 2 b (by decide) (by decide) hb, bg 3 b (by decide) (by decide) hb, bg 4 b (by decide) (by decide) hb, bg 5 b (by decide) (by decide) hb, e11]
    exact w3 b hb
  · rw [e12] at hl
    rw [be 6 l (by decide) (by decide) hl, be 7 l (by decide) (by decide) hl, be 8 l (by decide) (by decide) hl, be 9 l (by decide) (by decide) hl, be 10 l (by decide) (by decide) hl, e11]
    exact w4 l hl
  · rw [e12] at hl hl'
    rw [be 9 l (by decide) (by decide) hl, be 9 l' (by decide) (by decide) hl']
    exact w5 l l' hl hl'
theorem Eqs.sb (h : Eqs S T) (W : WF S) (R : SB C S) : SB C T := by
  have h12 := W.nl
  have h11 := W.nb
  have e12 := h 12 0 (inr (by decide) (by omega))
  have e11 := h 11 0 (inr (by decide) (by omega))
  have e14 := h 14 0 (inr (by decide) (by omega))
  have e13 := h 13 0 (inr (by decide) (by omega))
  have bg : ∀ f b, 1 ≤ f → f ≤ 5 → b < S 11 0 → T f b = S f b := fun f b h1 h2 h3 => h f b (inr (by omega) (by omega))
  have be : ∀ f b, 6 ≤ f → f ≤ 10 → b < S 12 0 → T f b = S f b := fun f b h1 h2 h3 => h f b (inr (by omega) (by omega))
  obtain ⟨⟨r1, r2, r3, r4⟩, r5, r6⟩ := R
  refine ⟨⟨by omega, by omega, by omega, by omega⟩, fun b hb => ?_, fun l hl => ?_⟩
  · rw [e11] at hb
    rw [bg 1 b (by decide) (by decide) hb, bg 2 b (by decide) (by decide) hb, bg 3 b (by decide) (by decide) hb, bg 4 b (by decide) (by decide) hb, bg 5 b (by decide) (by decide) hb, h.who W]
    exact r5 b hb
  · rw [e12] at hl
    rw [be 6 l (by decide) (by decide) hl, be 7 l (by decide) (by decide) hl, be 8 l (by decide) (by decide) hl, be 9 l (by decide) (by decide) hl, be 10 l (by decide) (by decide) hl]
    exact r6 l hl
end Tie
/-- a street that can be thought on -/
def TK (S : SS) : Prop := WF S ∧ S 13 0 ≤ 999 ∧ S 30 0 ≤ 9
theorem KR.tk {a : Nat} {S T : SS} (h : KR a S T) (K : TK S) : TK T := ⟨h.1.wf K.1, by rw [h.1 13 0 (inr (by decide) (by omega))]; exact K.2.1, h.2.2.2⟩
theorem TK.keep {S : SS} {w : Nat} (K : TK S) : TK (kpS w S) := ⟨Eqs.keep.wf K.1, by rw [kpS_oth (by decide)]; exact K.2.1, by rw [kpS_oth (by decide)]; exact K.2.2⟩
section Ref2
variable {τ : TT} {S : SS}
theorem x3_thinks : T_X3_thinks (Ro τ 13 S) = some (Ro τ 13 (kpS 2 S)) := by
  unfold T_X3_thinks
  rw [c2, c1, x3_keepAll (by decide)]
  rfl
theorem x3_forgets : T_X3_forgets (Ro τ 13 S) = some (Ro τ 13 (gtS 2 S)) := by
  unfold T_X3_forgets
  rw [c2, c0, x3_putAll (by decide)]
  rfl
theorem x3_h (W : WF S) (hh : S 13 0 < 999999) (h30 : S 30 0 ≤ 9) : T_X3_goesHour (nI 0) (Ro τ 13 S) = some (Ro τ 13 (hourS S 9)) := by
  have := x3_hour (τ := τ) W hh h30 false
  simp only [Bool.false_eq_true, if_false, c0] at this
  exact this
theorem x3_hz (W : WF S) (hh : S 13 0 < 999999) (h30 : S 30 0 ≤ 9) : T_X3_goesHour (nI 1) (Ro τ 13 S) = some (Ro τ 13 (hourS S (S 30 0))) := by
  have := x3_hour (τ := τ) W hh h30 true
  simp only [if_true, c1] at this
  exact this
theorem x3_goesL : ∀ r S k n, WF S → S 13 0 + r < 999999 → S 30 0 ≤ 9 → k + r < 2147483648 → r < n → T_X3_goes_L2 n (nI (k + r)) (nI k) (Ro τ 13 S) = some (Ro τ 13 (runS S r)) := by
  intro r
  induction r with
  | zero =>
    intro S k n W hh h30 h hn
    obtain ⟨n, rfl⟩ := fu_one hn
    unfold T_X3_goes_L2
    rw [if_pos (by rw [q_le (by omega) (by omega)]; omega)]
    rfl
  | succ r ih =>
    intro S k n W hh h30 h hn
    obtain ⟨n, rfl⟩ := fu_one (by omega : 0 < n)
    unfold T_X3_goes_L2
    rw [if_neg (by rw [q_le (by omega) (by omega)]; omega), c0, x3_h W (by omega) h30]
    have := ih (hourS S 9) (k + 1) n (W.hour 9) (by rw [hourS_13]; omega) (by rw [hourS_keeps (by decide)]; exact h30) (by omega) (by omega)
    simp only [e_cV, e_vl, c1, nI_add]
    rw [show k + (r + 1) = k + 1 + r by omega]
    exact this
theorem x3_goes (W : WF S) {n : Nat} (hn : n ≤ 60) (hh : S 13 0 < 900000) (h30 : S 30 0 ≤ 9) : T_X3_goes (nI n) (Ro τ 13 S) = some (Ro τ 13 (runS S n)) := by
  have := x3_goesL (τ := τ) n S 0 FU W (by omega) h30 (by omega) (FU_gt (by omega))
  rw [Nat.zero_add] at this
  exact this
def cntX (S : SS) : SS := up (up (up (up (up (up (up (up (up (up (up S 29 0 0) 27 0 0) 28 0 0) 27 1 0) 28 1 0) 27 2 0) 28 2 0) 27 3 0) 28 3 0) 27 4 0) 28 4 0
theorem x3_countX : T_X3_counts (Ro τ 13 S) = some (Ro τ 13 (cntX S)) := by
  obtain ⟨m, hm⟩ : ∃ m, FU = m + 6 := ⟨2994, rfl⟩
  unfold T_X3_counts cntX
  rw [hm]
  simp (disch := omega) only [T_X3_counts_L7, if_pos, if_neg, n_mod, q_dec, ro_gf, ro_ld, ro_sd, ro_pf, e_vl, e_cV, e_cI, nI_add, q_mul, q_sub, q_rem, q_div, q_eq, q_lt, q_le, c0, c1, c2, c3, c4, c5, c6, c7, c8, c9, c10, c99]
theorem cntX_27 {l : Nat} (hi : l < 5) : cntX S 27 l = 0 ∧ cntX S 28 l = 0 := by
  have : l = 0 ∨ l = 1 ∨ l = 2 ∨ l = 3 ∨ l = 4 := by omega
  rcases this with rfl | rfl | rfl | rfl | rfl <;> simp [up, cntX]
theorem cntX_29 : cntX S 29 0 = 0 := by simp [up, cntX]
theorem cntX_oth {f i : Nat} (h : f ≠ 27 ∧ f ≠ 28 ∧ f ≠ 29) : cntX S f i = S f i := by
  simp only [up, cntX]
  rw [if_neg (by omega), if_neg (by omega), if_neg (by omega), if_neg (by omega), if_neg (by omega), if_neg (by omega), if_neg (by omega), if_neg (by omega), if_neg (by omega), if_neg (by omega), if_neg (by omega)]
end Ref2
theorem cntS_ex (S : SS) : ∃ F : SS, (∀ τ, T_X3_counts (Ro τ 13 S) = some (Ro τ 13 F)) ∧ (∀ l, l < 5 → F 27 l = 0 ∧ F 28 l = 0) ∧ F 29 0 = 0 ∧ (∀ f i, (f ≠ 27 ∧ f ≠ 28 ∧ f ≠ 29) → F f i = S f i) :=
  ⟨cntX S, fun τ => x3_countX, fun l h => cntX_27 h, cntX_29, fun f i h => cntX_oth h⟩
noncomputable def cntS (S : SS) : SS := Classical.choose (cntS_ex S)
section Ref3
variable {τ : TT} {S : SS}
theorem x3_counts : T_X3_counts (Ro τ 13 S) = some (Ro τ 13 (cntS S)) := (Classical.choose_spec (cntS_ex S)).1 τ
theorem cnt_27 {l : Nat} (hi : l < 5) : cntS S 27 l = 0 ∧ cntS S 28 l = 0 := (Classical.choose_spec (cntS_ex S)).2.1 l hi
theorem cnt_29 : cntS S 29 0 = 0 := (Classical.choose_spec (cntS_ex S)).2.2.1
theorem cnt_oth {f i : Nat} (h : f ≠ 27 ∧ f ≠ 28 ∧ f ≠ 29) : cntS S f i = S f i := (Classical.choose_spec (cntS_ex S)).2.2.2 f i h
end Ref3
