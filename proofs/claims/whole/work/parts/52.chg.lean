/-! CHANGES of the street: bags and bearers more, friends, hours -/
def aBS (S : SS) (k f h : Nat) : SS := up (up (up (up (up (up S 1 (S 11 0) k) 2 (S 11 0) f) 3 (S 11 0) h) 4 (S 11 0) 9) 5 (S 11 0) 0) 11 0 (S 11 0 + 1)
def aLS (S : SS) (w v a : Nat) : SS := up (up (up (up (up (up S 6 (S 12 0) w) 7 (S 12 0) v) 8 (S 12 0) a) 9 (S 12 0) 9) 10 (S 12 0) 9) 12 0 (S 12 0 + 1)
def ufS (S : SS) (b : Nat) : SS := up (if S 4 b < 9 then up S 4 (S 4 b) 9 else S) 4 b 9
def bfS (S : SS) (a b : Nat) : SS := if a = b then ufS (ufS S a) b else up (up (ufS (ufS S a) b) 4 a b) 4 b a
section Add
variable {S C : SS} {τ : TT} {o : Nat}
theorem aB_oth {k f h g j : Nat} (hg : 6 ≤ g ∧ g ≠ 11 ∨ g = 0) : aBS S k f h g j = S g j := by
  unfold aBS
  rw [up_ne _ (by omega), up_ne _ (by omega), up_ne _ (by omega), up_ne _ (by omega), up_ne _ (by omega), up_ne _ (by omega)]
theorem aB_11 {k f h : Nat} : aBS S k f h 11 0 = S 11 0 + 1 := up_at _ _ _ _
theorem aB_old {k f h g j : Nat} (hg : g ≠ 11) (hj : j ≠ S 11 0) : aBS S k f h g j = S g j := by
  unfold aBS
  rw [up_ne _ (by omega), up_ne _ (by omega), up_ne _ (by omega), up_ne _ (by omega), up_ne _ (by omega), up_ne _ (by omega)]
theorem aB_new {k f h : Nat} : aBS S k f h 1 (S 11 0) = k ∧ aBS S k f h 2 (S 11 0) = f ∧ aBS S k f h 3 (S 11 0) = h ∧ aBS S k f h 4 (S 11 0) = 9 ∧ aBS S k f h 5 (S 11 0) = 0 := by
  refine ⟨?_, ?_, ?_, ?_, ?_⟩
  · unfold aBS
    rw [up_ne _ (by omega), up_ne _ (by omega), up_ne _ (by omega), up_ne _ (by omega), up_ne _ (by omega), up_at]
  · unfold aBS
    rw [up_ne _ (by omega), up_ne _ (by omega), up_ne _ (by omega), up_ne _ (by omega), up_at]
  · unfold aBS
    rw [up_ne _ (by omega), up_ne _ (by omega), up_ne _ (by omega), up_at]
  · unfold aBS
    rw [up_ne _ (by omega), up_ne _ (by omega), up_at]
  · unfold aBS
    rw [up_ne _ (by omega), up_at]
theorem aB_who {k f h : Nat} (b : Nat) : who (aBS S k f h) b = who S b := who_congr (fun i => aB_oth (by omega)) (aB_oth (by omega))
theorem WF.aB (W : WF S) {k f h : Nat} (hk : k ≤ 5) (hf : f ≤ 9) (hh : h ≤ 9) (hb : S 11 0 < 6) : WF (aBS S k f h) := by
  refine ⟨by rw [aB_11]; omega, by rw [aB_oth (by omega)]; exact W.nl, fun b hb2 => ?_, fun l hl => ?_, fun l l' hl hl' => ?_, by rw [aB_oth (by omega)]; exact W.col⟩
  · rw [aB_11] at hb2 ⊢
    by_cases e : b = S 11 0
    · have n := aB_new (S := S) (k := k) (f := f) (h := h)
      rw [e, n.1, n.2.1, n.2.2.1, n.2.2.2.1, n.2.2.2.2]
      omega
    · have w := W.bag (b := b) (by omega)
      rw [aB_old (by decide) e, aB_old (by decide) e, aB_old (by decide) e, aB_old (by decide) e, aB_old (by decide) e]
      omega
  · rw [aB_oth (g := 12) (by omega)] at hl
    have w := W.bea hl
    rw [aB_11, aB_oth (g := 6) (by omega), aB_oth (g := 7) (by omega), aB_oth (g := 8) (by omega), aB_oth (g := 9) (by omega), aB_oth (g := 10) (by omega)]
    omega
  · rw [aB_oth (g := 12) (by omega)] at hl hl'
    rw [aB_oth (g := 9) (by omega), aB_oth (g := 9) (by omega)]
    exact W.inj hl hl'
theorem x3_addsBag {k f h : Nat} (hb : S 11 0 < 6) : T_X3_addsBag (nI k) (nI f) (nI h) (Ro τ 13 S) = some (Ro τ 13 (aBS S k f h)) := by
  unfold T_X3_addsBag
  rw [ro_gf, ro_sd hb (by omega), ro_gf, up_ne _ (by omega), ro_sd hb (by omega), ro_gf, up_ne _ (by omega), up_ne _ (by omega), ro_sd hb (by omega), ro_gf, up_ne _ (by omega), up_ne _ (by omega), up_ne _ (by omega), c9, ro_sd hb (by omega), ro_gf, up_ne _ (by omega), up_ne _ (by omega), up_ne _ (by omega), up_ne _ (by omega), c0, ro_sd hb (by omega), ro_gf, up_ne _ (by omega), up_ne _ (by omega), up_ne _ (by omega), up_ne _ (by omega), up_ne _ (by omega), c1, nI_add, ro_pf]
  rfl
theorem x0_addBag (W : WF S) (R : SB C S) {k f h : Nat} (hb : S 11 0 < 6) : ∃ C', T_X0_addBag o (nI k) (nI f) (nI h) (Ro τ o C) = some (nI (S 11 0), Ro τ o C') ∧ SB C' (aBS S k f h) ∧ (∀ g i, 7 ≤ g → C' g i = C g i) := by
  have r0 := R.1.1
  have h12 := W.nl
  refine ⟨up (up (up (up (up (up (up C 1 (C 0 0) k) 2 (C 0 0) f) 3 (C 0 0) h) 4 (C 0 0) 4294967287) 5 (C 0 0) 0) 6 (C 0 0) 4294967287) 0 0 (C 0 0 + 1), ?_, ⟨⟨?_, ?_, ?_, ?_⟩, fun b hb2 => ?_, fun l hl => ?_⟩, fun g i hg => ?_⟩
  · have hb' : C 0 0 < 6 := by omega
    unfold T_X0_addBag
    rw [ro_gf, c6, if_pos (by rw [q_lt (by omega) (by omega)]; omega), ro_gf, ro_sd hb' (by omega), ro_gf, up_ne _ (by omega), ro_sd hb' (by omega), ro_gf, up_ne _ (by omega), up_ne _ (by omega), ro_sd hb' (by omega), ro_gf, up_ne _ (by omega), up_ne _ (by omega), up_ne _ (by omega), c9, m9, ro_sd hb' (by omega), ro_gf, up_ne _ (by omega), up_ne _ (by omega), up_ne _ (by omega), up_ne _ (by omega), c0, ro_sd hb' (by omega), ro_gf, up_ne _ (by omega), up_ne _ (by omega), up_ne _ (by omega), up_ne _ (by omega), up_ne _ (by omega), ro_sd hb' (by omega), ro_gf, up_ne _ (by omega), up_ne _ (by omega), up_ne _ (by omega), up_ne _ (by omega), up_ne _ (by omega), up_ne _ (by omega), c1, nI_add, ro_pf, ro_gf, up_at, q_dec0, r0]
  · rw [up_at, aB_11, r0]
  · rw [up_ne _ (by omega), up_ne _ (by omega), up_ne _ (by omega), up_ne _ (by omega), up_ne _ (by omega), up_ne _ (by omega), up_ne _ (by omega), aB_oth (by omega)]; exact R.1.2.1
  · rw [up_ne _ (by omega), up_ne _ (by omega), up_ne _ (by omega), up_ne _ (by omega), up_ne _ (by omega), up_ne _ (by omega), up_ne _ (by omega), aB_oth (by omega)]; exact R.1.2.2.1
  · rw [up_ne _ (by omega), up_ne _ (by omega), up_ne _ (by omega), up_ne _ (by omega), up_ne _ (by omega), up_ne _ (by omega), up_ne _ (by omega), aB_oth (by omega)]; exact R.1.2.2.2
  · rw [aB_11] at hb2
    rw [aB_who]
    by_cases e : b = S 11 0
    · have n := aB_new (S := S) (k := k) (f := f) (h := h)
      have hw : who S b = 9 := who_none (fun l hl q => by have := (W.bea hl).2.2.2.1; omega)
      rw [hw, e, n.1, n.2.1, n.2.2.1, n.2.2.2.1, n.2.2.2.2, ← r0]
      refine ⟨?_, ?_, ?_, ?_, ?_, ?_⟩
      · rw [up_ne _ (by omega), up_ne _ (by omega), up_ne _ (by omega), up_ne _ (by omega), up_ne _ (by omega), up_ne _ (by omega), up_at]
      · rw [up_ne _ (by omega), up_ne _ (by omega), up_ne _ (by omega), up_ne _ (by omega), up_ne _ (by omega), up_at]
      · rw [up_ne _ (by omega), up_ne _ (by omega), up_ne _ (by omega), up_ne _ (by omega), up_at]
      · rw [up_ne _ (by omega), up_ne _ (by omega), up_ne _ (by omega), up_at]; rfl
      · rw [up_ne _ (by omega), up_ne _ (by omega), up_at]
      · rw [up_ne _ (by omega), up_at]; rfl
    · have r := R.bag (b := b) (by omega)
      rw [aB_old (by decide) e, aB_old (by decide) e, aB_old (by decide) e, aB_old (by decide) e, aB_old (by decide) e]
      have n : ∀ g, g ≠ 0 → up (up (up (up (up (up (up C 1 (C 0 0) k) 2 (C 0 0) f) 3 (C 0 0) h) 4 (C 0 0) 4294967287) 5 (C 0 0) 0) 6 (C 0 0) 4294967287) 0 0 (C 0 0 + 1) g b = C g b := fun g hg => by
        rw [up_ne _ (by omega), up_ne _ (by omega), up_ne _ (by omega), up_ne _ (by omega), up_ne _ (by omega), up_ne _ (by omega), up_ne _ (by omega)]
      rw [n 1 (by decide), n 2 (by decide), n 3 (by decide), n 4 (by decide), n 5 (by decide), n 6 (by decide)]
      exact r
  · rw [aB_oth (g := 12) (by omega)] at hl
    have r := R.bea hl
    have n : ∀ g, 7 ≤ g → up (up (up (up (up (up (up C 1 (C 0 0) k) 2 (C 0 0) f) 3 (C 0 0) h) 4 (C 0 0) 4294967287) 5 (C 0 0) 0) 6 (C 0 0) 4294967287) 0 0 (C 0 0 + 1) g l = C g l := fun g hg => by
      rw [up_ne _ (by omega), up_ne _ (by omega), up_ne _ (by omega), up_ne _ (by omega), up_ne _ (by omega), up_ne _ (by omega), up_ne _ (by omega)]
    rw [n 8 (by decide), n 9 (by decide), n 10 (by decide), n 11 (by decide), n 12 (by decide), aB_oth (g := 6) (by omega), aB_oth (g := 7) (by omega), aB_oth (g := 8) (by omega), aB_oth (g := 9) (by omega), aB_oth (g := 10) (by omega)]
    exact r
  · rw [up_ne _ (by omega), up_ne _ (by omega), up_ne _ (by omega), up_ne _ (by omega), up_ne _ (by omega), up_ne _ (by omega), up_ne _ (by omega)]
theorem aL_oth {w v a g j : Nat} (hg : (g ≤ 5 ∨ 11 ≤ g) ∧ g ≠ 12) : aLS S w v a g j = S g j := by
  unfold aLS
  rw [up_ne _ (by omega), up_ne _ (by omega), up_ne _ (by omega), up_ne _ (by omega), up_ne _ (by omega), up_ne _ (by omega)]
theorem aL_12 {w v a : Nat} : aLS S w v a 12 0 = S 12 0 + 1 := up_at _ _ _ _
theorem aL_old {w v a g j : Nat} (hg : g ≠ 12) (hj : j ≠ S 12 0) : aLS S w v a g j = S g j := by
  unfold aLS
  rw [up_ne _ (by omega), up_ne _ (by omega), up_ne _ (by omega), up_ne _ (by omega), up_ne _ (by omega), up_ne _ (by omega)]
theorem aL_new {w v a : Nat} : aLS S w v a 6 (S 12 0) = w ∧ aLS S w v a 7 (S 12 0) = v ∧ aLS S w v a 8 (S 12 0) = a ∧ aLS S w v a 9 (S 12 0) = 9 ∧ aLS S w v a 10 (S 12 0) = 9 := by
  refine ⟨?_, ?_, ?_, ?_, ?_⟩
  · unfold aLS
    rw [up_ne _ (by omega), up_ne _ (by omega), up_ne _ (by omega), up_ne _ (by omega), up_ne _ (by omega), up_at]
  · unfold aLS
    rw [up_ne _ (by omega), up_ne _ (by omega), up_ne _ (by omega), up_ne _ (by omega), up_at]
  · unfold aLS
    rw [up_ne _ (by omega), up_ne _ (by omega), up_ne _ (by omega), up_at]
  · unfold aLS
    rw [up_ne _ (by omega), up_ne _ (by omega), up_at]
  · unfold aLS
    rw [up_ne _ (by omega), up_at]
theorem WF.aL (W : WF S) {w v a : Nat} (hw : w ≤ 9) (hv : v ≤ 9) (ha : a ≤ 9) (hl : S 12 0 < 5) : WF (aLS S w v a) := by
  have n := aL_new (S := S) (w := w) (v := v) (a := a)
  refine ⟨by rw [aL_oth (by omega)]; exact W.nb, by rw [aL_12]; omega, fun b hb => ?_, fun l hl2 => ?_, fun l l' hl2 hl' h h9 => ?_, by rw [aL_oth (by omega)]; exact W.col⟩
  · rw [aL_oth (g := 11) (by omega)] at hb ⊢
    rw [aL_oth (g := 1) (by omega), aL_oth (g := 2) (by omega), aL_oth (g := 3) (by omega), aL_oth (g := 4) (by omega), aL_oth (g := 5) (by omega)]
    exact W.bag hb
  · rw [aL_12] at hl2
    rw [aL_oth (g := 11) (by omega)]
    by_cases e : l = S 12 0
    · rw [e, n.1, n.2.1, n.2.2.1, n.2.2.2.1, n.2.2.2.2]; omega
    · rw [aL_old (by decide) e, aL_old (by decide) e, aL_old (by decide) e, aL_old (by decide) e, aL_old (by decide) e]
      exact W.bea (by omega)
  · rw [aL_12] at hl2 hl'
    by_cases e : l = S 12 0
    · rw [e, n.2.2.2.1] at h9; omega
    · by_cases e' : l' = S 12 0
      · rw [e', n.2.2.2.1] at h; omega
      · rw [aL_old (by decide) e] at h h9
        rw [aL_old (by decide) e'] at h
        exact W.inj (by omega) (by omega) h h9
theorem aL_who (W : WF S) {w v a : Nat} (hw : w ≤ 9) (hv : v ≤ 9) (ha : a ≤ 9) (hl : S 12 0 < 5) {b : Nat} (hb : b < 9) : who (aLS S w v a) b = who S b := by
  have n := aL_new (S := S) (w := w) (v := v) (a := a)
  rcases who_spec S b with ⟨h1, h2⟩ | ⟨h1, h2, -⟩
  · rw [h1]
    refine who_none (fun k hk q => ?_)
    rw [aL_12] at hk
    by_cases e : k = S 12 0
    · rw [e, n.2.2.2.1] at q; omega
    · rw [aL_old (by decide) e] at q
      exact h2 k (by omega) q
  · exact who_eq (W.aL hw hv ha hl) (by omega) (by rw [aL_12]; omega) (by rw [aL_old (by decide) (by omega)]; exact h2)
theorem x3_addsBearer {w v a : Nat} (hl : S 12 0 < 5) : T_X3_addsBearer (nI w) (nI v) (nI a) (Ro τ 13 S) = some (Ro τ 13 (aLS S w v a)) := by
  unfold T_X3_addsBearer
  rw [ro_gf, ro_sd hl (by omega), ro_gf, up_ne _ (by omega), ro_sd hl (by omega), ro_gf, up_ne _ (by omega), up_ne _ (by omega), ro_sd hl (by omega), ro_gf, up_ne _ (by omega), up_ne _ (by omega), up_ne _ (by omega), c9, ro_sd hl (by omega), ro_gf, up_ne _ (by omega), up_ne _ (by omega), up_ne _ (by omega), up_ne _ (by omega), ro_sd hl (by omega), ro_gf, up_ne _ (by omega), up_ne _ (by omega), up_ne _ (by omega), up_ne _ (by omega), up_ne _ (by omega), c1, nI_add, ro_pf]
  rfl
theorem x0_addBearer (W : WF S) (R : SB C S) {w v a : Nat} (hw : w ≤ 9) (hv : v ≤ 9) (ha : a ≤ 9) (hl : S 12 0 < 5) : ∃ C', T_X0_addBearer o (nI w) (nI v) (nI a) (Ro τ o C) = some (nI (S 12 0), Ro τ o C') ∧ SB C' (aLS S w v a) ∧ (∀ g i, 13 ≤ g → C' g i = C g i) := by
  have r7 := R.1.2.1
  have h11 := W.nb
  refine ⟨up (up (up (up (up (up C 8 (C 7 0) w) 9 (C 7 0) v) 10 (C 7 0) a) 11 (C 7 0) 4294967287) 12 (C 7 0) 9) 7 0 (C 7 0 + 1), ?_, ⟨⟨?_, ?_, ?_, ?_⟩, fun b hb => ?_, fun l hl2 => ?_⟩, fun g i hg => ?_⟩
  · have hl' : C 7 0 < 5 := by omega
    unfold T_X0_addBearer
    rw [ro_gf, c5, if_pos (by rw [q_lt (by omega) (by omega)]; omega), ro_gf, ro_sd hl' (by omega), ro_gf, up_ne _ (by omega), ro_sd hl' (by omega), ro_gf, up_ne _ (by omega), up_ne _ (by omega), ro_sd hl' (by omega), ro_gf, up_ne _ (by omega), up_ne _ (by omega), up_ne _ (by omega), c9, m9, ro_sd hl' (by omega), ro_gf, up_ne _ (by omega), up_ne _ (by omega), up_ne _ (by omega), up_ne _ (by omega), ro_sd hl' (by omega), ro_gf, up_ne _ (by omega), up_ne _ (by omega), up_ne _ (by omega), up_ne _ (by omega), up_ne _ (by omega), c1, nI_add, ro_pf, ro_gf, up_at, q_dec0, r7]
  · rw [up_ne _ (by omega), up_ne _ (by omega), up_ne _ (by omega), up_ne _ (by omega), up_ne _ (by omega), up_ne _ (by omega), aL_oth (by omega)]; exact R.1.1
  · rw [up_at, aL_12, r7]
  · rw [up_ne _ (by omega), up_ne _ (by omega), up_ne _ (by omega), up_ne _ (by omega), up_ne _ (by omega), up_ne _ (by omega), aL_oth (by omega)]; exact R.1.2.2.1
  · rw [up_ne _ (by omega), up_ne _ (by omega), up_ne _ (by omega), up_ne _ (by omega), up_ne _ (by omega), up_ne _ (by omega), aL_oth (by omega)]; exact R.1.2.2.2
  · rw [aL_oth (g := 11) (by omega)] at hb
    have r := R.bag hb
    rw [aL_who W hw hv ha hl (by omega)]
    have n : ∀ g, g ≤ 6 → up (up (up (up (up (up C 8 (C 7 0) w) 9 (C 7 0) v) 10 (C 7 0) a) 11 (C 7 0) 4294967287) 12 (C 7 0) 9) 7 0 (C 7 0 + 1) g b = C g b := fun g hg => by
      rw [up_ne _ (by omega), up_ne _ (by omega), up_ne _ (by omega), up_ne _ (by omega), up_ne _ (by omega), up_ne _ (by omega)]
    rw [n 1 (by decide), n 2 (by decide), n 3 (by decide), n 4 (by decide), n 5 (by decide), n 6 (by decide), aL_oth (g := 1) (by omega), aL_oth (g := 2) (by omega), aL_oth (g := 3) (by omega), aL_oth (g := 4) (by omega), aL_oth (g := 5) (by omega)]
    exact r
  · rw [aL_12] at hl2
    by_cases e : l = S 12 0
    · have n := aL_new (S := S) (w := w) (v := v) (a := a)
      rw [e, n.1, n.2.1, n.2.2.1, n.2.2.2.1, n.2.2.2.2, ← r7]
      refine ⟨?_, ?_, ?_, ?_, ?_⟩
      · rw [up_ne _ (by omega), up_ne _ (by omega), up_ne _ (by omega), up_ne _ (by omega), up_ne _ (by omega), up_at]
      · rw [up_ne _ (by omega), up_ne _ (by omega), up_ne _ (by omega), up_ne _ (by omega), up_at]
      · rw [up_ne _ (by omega), up_ne _ (by omega), up_ne _ (by omega), up_at]
      · rw [up_ne _ (by omega), up_ne _ (by omega), up_at]; rfl
      · rw [up_ne _ (by omega), up_at]
    · have r := R.bea (l := l) (by omega)
      rw [aL_old (by decide) e, aL_old (by decide) e, aL_old (by decide) e, aL_old (by decide) e, aL_old (by decide) e]
      have n : ∀ g, g ≠ 7 → up (up (up (up (up (up C 8 (C 7 0) w) 9 (C 7 0) v) 10 (C 7 0) a) 11 (C 7 0) 4294967287) 12 (C 7 0) 9) 7 0 (C 7 0 + 1) g l = C g l := fun g hg => by
        rw [up_ne _ (by omega), up_ne _ (by omega), up_ne _ (by omega), up_ne _ (by omega), up_ne _ (by omega), up_ne _ (by omega)]
      rw [n 8 (by decide), n 9 (by decide), n 10 (by decide), n 11 (by decide), n 12 (by decide)]
      exact r
  · rw [up_ne _ (by omega), up_ne _ (by omega), up_ne _ (by omega), up_ne _ (by omega), up_ne _ (by omega), up_ne _ (by omega)]
/-! friends -/
theorem SB.up4 (R : SB C S) {i x : Nat} : SB (up C 4 i (kN x)) (up S 4 i x) := by
  have hwho : ∀ b, who (up S 4 i x) b = who S b := fun b => who_up (by decide) (by decide)
  refine ⟨⟨?_, ?_, ?_, ?_⟩, fun b hb => ?_, fun l hl => ?_⟩
  · rw [up_ne _ (by omega), up_ne _ (by omega)]; exact R.1.1
  · rw [up_ne _ (by omega), up_ne _ (by omega)]; exact R.1.2.1
  · rw [up_ne _ (by omega), up_ne _ (by omega)]; exact R.1.2.2.1
  · rw [up_ne _ (by omega), up_ne _ (by omega)]; exact R.1.2.2.2
  · rw [up_ne _ (by omega)] at hb
    have r := R.bag hb
    have nc : ∀ g, g ≠ 4 → up C 4 i (kN x) g b = C g b := fun g h => up_ne _ (fun q => h q.1)
    have ns : ∀ g, g ≠ 4 → up S 4 i x g b = S g b := fun g h => up_ne _ (fun q => h q.1)
    rw [hwho, nc 1 (by decide), nc 2 (by decide), nc 3 (by decide), nc 5 (by decide), nc 6 (by decide), ns 1 (by decide), ns 2 (by decide), ns 3 (by decide), ns 5 (by decide)]
    refine ⟨r.1, r.2.1, r.2.2.1, ?_, r.2.2.2.2.1, r.2.2.2.2.2⟩
    by_cases e : b = i
    · rw [e, up_at, up_at]
    · rw [up_ne _ (fun q => e q.2), up_ne _ (fun q => e q.2)]; exact r.2.2.2.1
  · rw [up_ne _ (by omega)] at hl
    have nc : ∀ g, g ≠ 4 → up C 4 i (kN x) g l = C g l := fun g h => up_ne _ (fun q => h q.1)
    have ns : ∀ g, g ≠ 4 → up S 4 i x g l = S g l := fun g h => up_ne _ (fun q => h q.1)
    rw [nc 8 (by decide), nc 9 (by decide), nc 10 (by decide), nc 11 (by decide), nc 12 (by decide), ns 6 (by decide), ns 7 (by decide), ns 8 (by decide), ns 9 (by decide), ns 10 (by decide)]
    exact R.bea hl
theorem WF.up4 (W : WF S) {i x : Nat} (hx : x = 9 ∨ x < S 11 0) : WF (up S 4 i x) := by
  have ns : ∀ g j, g ≠ 4 → up S 4 i x g j = S g j := fun g j h => up_ne _ (fun q => h q.1)
  refine ⟨by rw [ns _ _ (by decide)]; exact W.nb, by rw [ns _ _ (by decide)]; exact W.nl, fun b hb => ?_, fun l hl => ?_, fun l l' hl hl' => ?_, by rw [ns _ _ (by decide)]; exact W.col⟩
  · rw [ns _ _ (by decide)] at hb
    have w := W.bag hb
    rw [ns 1 _ (by decide), ns 2 _ (by decide), ns 3 _ (by decide), ns 5 _ (by decide), ns 11 _ (by decide)]
    refine ⟨w.1, w.2.1, w.2.2.1, ?_, w.2.2.2.2⟩
    by_cases e : b = i
    · rw [e, up_at]; exact hx
    · rw [up_ne _ (fun q => e q.2)]; exact w.2.2.2.1
  · rw [ns _ _ (by decide)] at hl
    rw [ns 6 _ (by decide), ns 7 _ (by decide), ns 8 _ (by decide), ns 9 _ (by decide), ns 10 _ (by decide), ns 11 _ (by decide)]
    exact W.bea hl
  · rw [ns _ _ (by decide)] at hl hl'
    rw [ns _ _ (by decide), ns _ _ (by decide)]
    exact W.inj hl hl'
theorem uf_oth {b g j : Nat} (hg : g ≠ 4) : ufS S b g j = S g j := by
  unfold ufS
  rw [up_ne _ (fun q => hg q.1)]
  split
  · rw [up_ne _ (fun q => hg q.1)]
  · rfl
theorem WF.uf (W : WF S) {b : Nat} : WF (ufS S b) := by
  unfold ufS
  split
  · exact (W.up4 (Or.inl rfl)).up4 (Or.inl rfl)
  · exact W.up4 (Or.inl rfl)
theorem x3_unfriends (W : WF S) {b : Nat} (hb : b < S 11 0) : T_X3_unfriends (nI b) (Ro τ 13 S) = some (Ro τ 13 (ufS S b)) := by
  have h11 := W.nb
  have w := (W.bag hb).2.2.2.1
  unfold T_X3_unfriends T_X3_unfriends_j24 ufS
  rw [ro_ld (by omega) (by omega), c9]
  by_cases e : S 4 b < 9
  · rw [if_pos e, if_neg (by rw [q_le (by omega) (by omega)]; omega), ro_ld (by omega) (by omega), ro_sd (by omega) (by omega), ro_sd (by omega) (by omega)]
  · rw [if_neg e, if_pos (by rw [q_le (by omega) (by omega)]; omega), ro_sd (by omega) (by omega)]
theorem x0_unfriend (W : WF S) (R : SB C S) {b : Nat} (hb : b < S 11 0) : ∃ C', T_X0_unfriend o (nI b) (Ro τ o C) = some (Ro τ o C') ∧ SB C' (ufS S b) ∧ (∀ g i, g ≠ 4 → C' g i = C g i) := by
  have h11 := W.nb
  have w := (W.bag hb).2.2.2.1
  have r0 := R.1.1
  have r4 := (R.bag hb).2.2.2.1
  have hB := x0_hasBag (τ := τ) (o := o) (C := C) (b := S 4 b) (by omega) (by omega)
  unfold T_X0_unfriend T_X0_unfriend_j26 ufS
  by_cases e : S 4 b = 9
  · refine ⟨up C 4 b (kN 9), ?_, ?_, fun g i h => up_ne _ (fun q => h q.1)⟩
    · rw [ro_ld (by omega) (by omega), r4, hB, if_pos e]
      simp only [e_cV]
      rw [c0, if_pos (by trivial), c9, m9, ro_sd (by omega) (by omega)]
      rfl
    · rw [if_neg (by omega)]
      exact R.up4
  · refine ⟨up (up C 4 (S 4 b) (kN 9)) 4 b (kN 9), ?_, ?_, fun g i h => by rw [up_ne _ (fun q => h q.1), up_ne _ (fun q => h q.1)]⟩
    · rw [ro_ld (by omega) (by omega), r4, hB, if_neg e]
      simp only [e_cV]
      rw [c0, if_neg (by decide), ro_ld (by omega) (by omega), r4, kN_ne e, c9, m9, ro_sd (by omega) (by omega), ro_sd (by omega) (by omega)]
      rfl
    · rw [if_pos (by omega)]
      exact R.up4.up4
theorem bf_oth {a b g j : Nat} (hg : g ≠ 4) : bfS S a b g j = S g j := by
  unfold bfS
  split
  · rw [uf_oth hg, uf_oth hg]
  · rw [up_ne _ (fun q => hg q.1), up_ne _ (fun q => hg q.1), uf_oth hg, uf_oth hg]
theorem WF.bf (W : WF S) {a b : Nat} (ha : a < S 11 0) (hb : b < S 11 0) : WF (bfS S a b) := by
  unfold bfS
  split
  · exact W.uf.uf
  · exact (W.uf.uf.up4 (Or.inr (by rw [uf_oth (by decide), uf_oth (by decide)]; exact hb))).up4 (Or.inr (by rw [up_ne _ (by omega), uf_oth (by decide), uf_oth (by decide)]; exact ha))
theorem x3_befriends (W : WF S) {a b : Nat} (ha : a < S 11 0) (hb : b < S 11 0) : T_X3_befriends (nI a) (nI b) (Ro τ 13 S) = some (Ro τ 13 (bfS S a b)) := by
  have h11 := W.nb
  unfold T_X3_befriends bfS
  rw [x3_unfriends W ha]
  simp only [e_cV]
  rw [x3_unfriends W.uf (by rw [uf_oth (by decide)]; exact hb)]
  simp only [e_cV]
  rw [i_eq (by omega) (by omega)]
  by_cases e : a = b
  · rw [if_pos e, if_pos e]
  · rw [if_neg e, if_neg e, ro_sd (by omega) (by omega), ro_sd (by omega) (by omega)]
theorem x0_befriend (W : WF S) (R : SB C S) {a b : Nat} (ha : a < S 11 0) (hb : b < S 11 0) : ∃ C', T_X0_befriend o (nI a) (nI b) (Ro τ o C) = some (nI 1, Ro τ o C') ∧ SB C' (bfS S a b) ∧ (∀ g i, g ≠ 4 → C' g i = C g i) := by
  have h11 := W.nb
  have r0 := R.1.1
  have b1 := x0_hasBag1 (τ := τ) (o := o) (C := C) (b := a) (by omega) (by omega)
  have b2 := x0_hasBag1 (τ := τ) (o := o) (C := C) (b := b) (by omega) (by omega)
  obtain ⟨C1, u1, u2, u3⟩ := x0_unfriend (τ := τ) (o := o) W R ha
  obtain ⟨C2, v1, v2, v3⟩ := x0_unfriend (τ := τ) (o := o) W.uf u2 (b := b) (by rw [uf_oth (by decide)]; exact hb)
  unfold T_X0_befriend bfS
  by_cases e : a = b
  · refine ⟨C2, ?_, by rw [if_pos e]; exact v2, fun g i h => (v3 g i h).trans (u3 g i h)⟩
    rw [b1]
    simp only [e_cV]
    rw [c0, if_neg (by decide), b2]
    simp only [e_cV]
    rw [if_neg (by decide), u1]
    simp only [e_cV]
    rw [v1]
    simp only [e_cV]
    rw [i_eq (by omega) (by omega), if_pos e, c1]
  · refine ⟨up (up C2 4 a b) 4 b a, ?_, ?_, fun g i h => by rw [up_ne _ (fun q => h q.1), up_ne _ (fun q => h q.1)]; exact (v3 g i h).trans (u3 g i h)⟩
    · rw [b1]
      simp only [e_cV]
      rw [c0, if_neg (by decide), b2]
      simp only [e_cV]
      rw [if_neg (by decide), u1]
      simp only [e_cV]
      rw [v1]
      simp only [e_cV]
      rw [i_eq (by omega) (by omega), if_neg e, ro_sd (by omega) (by omega), ro_sd (by omega) (by omega), c1]
    · rw [if_neg e]
      have h1 := v2.up4 (i := a) (x := b)
      have h2 := h1.up4 (i := b) (x := a)
      rw [kN_ne (by omega), kN_ne (by omega)] at h2
      exact h2
end Add
