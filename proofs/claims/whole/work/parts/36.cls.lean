section Cls4
variable {τ : TT} {o : Nat} {D C S : SS}
def incH (x : Nat) : Nat := if 99 ≤ x then x else x + 1
theorem grow_at5 {l b : Nat} : growOne S l 5 b = if S 9 l = b ∧ b ≠ 9 then incH (S 5 b) else S 5 b := by
  unfold growOne
  by_cases e : S 9 l = 9
  · rw [if_pos e, if_neg (by omega)]
  · rw [if_neg e]
    show up _ 29 0 _ 5 b = _
    rw [up_ne _ (by omega)]
    by_cases h : S 9 l = b
    · rw [if_pos (show S 9 l = b ∧ b ≠ 9 from ⟨h, by omega⟩), h, up_at]; rfl
    · rw [if_neg (show ¬ (S 9 l = b ∧ b ≠ 9) from fun q => h q.1), up_ne _ (fun q => h q.2.symm)]
def sn1 (S : SS) (l : Nat) : Nat := if S 9 l ≠ 9 ∧ S 1 (S 9 l) = 2 ∧ S 8 l = S 14 0 then 1 else 0
def snapC (S : SS) : Nat → Nat → Nat
  | 0, _ => 0
  | r + 1, l => sn1 S l + snapC S r (l + 1)
theorem grow_at29 {l : Nat} : growOne S l 29 0 = S 29 0 + sn1 S l := by
  unfold growOne sn1
  by_cases e : S 9 l = 9
  · rw [if_pos e, if_neg (by omega)]; rfl
  · rw [if_neg e]
    show up _ 29 0 _ 29 0 = _
    rw [up_at]
    simp only [up_ne S (show ¬ (29 = 5 ∧ 0 = S 9 l) by omega), up_ne S (show ¬ (1 = 5 ∧ S 9 l = S 9 l) by omega), up_ne S (show ¬ (8 = 5 ∧ l = S 9 l) by omega), up_ne S (show ¬ (14 = 5 ∧ 0 = S 9 l) by omega)]
    simp [e]
theorem snapC_congr {S T : SS} (h : ∀ f i, f ≠ 5 ∧ f ≠ 29 → T f i = S f i) : ∀ r l, snapC T r l = snapC S r l
  | 0, _ => rfl
  | r + 1, l => by
    unfold snapC
    rw [snapC_congr h r (l + 1)]
    unfold sn1
    rw [h 9 _ (by decide), h 1 _ (by decide), h 8 _ (by decide), h 14 _ (by decide)]
theorem allGrow29 : ∀ r S l, allGrow S r l 29 0 = S 29 0 + snapC S r l
  | 0, S, l => rfl
  | r + 1, S, l => by
    show allGrow (growOne S l) r (l + 1) 29 0 = _
    rw [allGrow29 r, grow_at29, snapC_congr (S := S) (T := growOne S l) (fun f i h => grow_keeps h)]
    show _ = S 29 0 + (sn1 S l + snapC S r (l + 1))
    omega
theorem allGrow5 {b : Nat} (hb : b ≠ 9) : ∀ r S l, WF S → l + r ≤ S 12 0 → allGrow S r l 5 b = if whoG S b r l = 9 then S 5 b else incH (S 5 b)
  | 0, S, l, W, h => by
    show S 5 b = if (9 : Nat) = 9 then S 5 b else incH (S 5 b)
    rw [if_pos rfl]
  | r + 1, S, l, W, h => by
    have h12 := W.nl
    show allGrow (growOne S l) r (l + 1) 5 b = _
    rw [allGrow5 hb r _ _ (W.grow (by omega)) (by rw [grow_keeps (by decide)]; omega), grow_at5, whoG_congr (T := S) (fun i => grow_keeps (by decide))]
    show _ = if (if S 9 l = b then l else whoG S b r (l + 1)) = 9 then _ else _
    by_cases e : S 9 l = b
    · have e2 : whoG S b r (l + 1) = 9 := by
        rcases whoG_spec S b r (l + 1) with ⟨h1, -⟩ | ⟨h1, h2, h3, -⟩
        · exact h1
        · exfalso
          have := W.inj (l := l) (l' := whoG S b r (l + 1)) (by omega) (by omega) (by rw [h3]; exact e) (by omega)
          omega
      rw [if_pos e2, if_pos (show S 9 l = b ∧ b ≠ 9 from ⟨e, hb⟩), if_pos e, if_neg (show ¬ l = 9 by omega)]
    · rw [if_neg (show ¬ (S 9 l = b ∧ b ≠ 9) from fun q => e q.1), if_neg e]
def gh1 (C : SS) (b : Nat) : SS := if C 6 b = 4294967287 then C else up C 5 b (incH (C 5 b))
def gh (C : SS) : Nat → Nat → SS
  | 0, _ => C
  | r + 1, b => gh (gh1 C b) r (b + 1)
theorem gh1_ne {b f i : Nat} (h : ¬ (f = 5 ∧ i = b)) : gh1 C b f i = C f i := by
  unfold gh1
  split
  · rfl
  · exact up_ne C h
theorem gh_ne {f i : Nat} : ∀ r C b, (f ≠ 5 ∨ i < b ∨ b + r ≤ i) → gh C r b f i = C f i
  | 0, C, b, h => rfl
  | r + 1, C, b, h => by
    show gh (gh1 C b) r (b + 1) f i = _
    rw [gh_ne r _ _ (by omega), gh1_ne (by omega)]
theorem gh_at {i : Nat} : ∀ r C b, b ≤ i → i < b + r → gh C r b 5 i = if C 6 i = 4294967287 then C 5 i else incH (C 5 i)
  | 0, C, b, h1, h2 => by omega
  | r + 1, C, b, h1, h2 => by
    show gh (gh1 C b) r (b + 1) 5 i = _
    by_cases e : i = b
    · subst e
      rw [gh_ne r _ _ (by omega)]
      unfold gh1
      split
      · rfl
      · rw [up_at]
    · rw [gh_at r _ _ (by omega) (by omega), gh1_ne (by omega), gh1_ne (by omega)]
theorem x0_grow (h6 : C 0 0 ≤ 6) : ∀ r C b n, C 0 0 ≤ 6 → b + r = C 0 0 → r < n → (∀ i, i < C 0 0 → (C 6 i = 4294967287 ∨ C 6 i < 10) ∧ C 5 i ≤ 99) → T_X0_growHeld_L2 o n (nI b) (Ro τ o C) = some (Ro τ o (gh C r b)) := by
  intro r
  induction r with
  | zero =>
    intro C b n h6 h hn hk
    obtain ⟨n, rfl⟩ := fu_one hn
    unfold T_X0_growHeld_L2
    simp (disch := omega) only [n_mod, q_dec, ro_gf, ro_ld, ro_sd, ro_pf, e_vl, e_cV, e_cI, nI_add, q_mul, q_sub, q_rem, q_div, q_eq, q_lt, q_le, c0, c1, c2, c3, c4, c5, c6, c7, c8, c9, c10, c99]
    rw [if_pos (by omega)]
    rfl
  | succ r ih =>
    intro C b n h6 h hn hk
    obtain ⟨n, rfl⟩ := fu_one (by omega : 0 < n)
    have hb := hk b (by omega)
    have e0 : gh1 C b 0 0 = C 0 0 := gh1_ne (by omega)
    have ihx := ih (gh1 C b) (b + 1) n (by omega) (by omega) (by omega) (fun i hi => by
      rw [e0] at hi
      have := hk i hi
      rw [gh1_ne (by omega)]
      refine ⟨this.1, ?_⟩
      unfold gh1
      split
      · exact this.2
      · by_cases e : i = b
        · subst e; rw [up_at]; unfold incH; split <;> omega
        · rw [up_ne _ (by omega)]; exact this.2)
    unfold T_X0_growHeld_L2
    simp (disch := omega) only [x_min, n_mod, q_dec, ro_gf, ro_ld, ro_sd, ro_pf, e_vl, e_cV, e_cI, nI_add, q_mul, q_sub, q_rem, q_div, q_eq, q_lt, q_le, c0, c1, c2, c3, c4, c5, c6, c7, c8, c9, c10, c99]
    rw [if_neg (by omega)]
    show _ = some (Ro τ o (gh (gh1 C b) r (b + 1)))
    by_cases e : C 6 b = 4294967287
    · have eg : gh1 C b = C := by unfold gh1; rw [if_pos e]
      rw [e, if_pos NN_neg]
      rw [eg] at ihx ⊢
      exact ihx
    · have eg : gh1 C b = up C 5 b (incH (C 5 b)) := by unfold gh1; rw [if_neg e]
      have e3 : (if 99 < C 5 b + 1 then 99 else C 5 b + 1) = incH (C 5 b) := by
        unfold incH
        split <;> split <;> omega
      rw [if_neg (by rw [q_lt (by omega) (by omega)]; omega), e3, ← eg]
      exact ihx
theorem x0_snaps (W : WF S) (R : SC D C S) : ∀ r l n x, l + r = S 12 0 → r < n → T_X0_countSnaps_L2 o n (nI l) (Ro τ o (up C 17 0 x)) = some (Ro τ o (up C 17 0 (x + snapC S r l))) := by
  have h12 := W.nl
  have h11 := W.nb
  have h14 := W.col
  intro r
  induction r with
  | zero =>
    intro l n x h hn
    obtain ⟨n, rfl⟩ := fu_one hn
    unfold T_X0_countSnaps_L2
    simp (disch := omega) only [up_ne C (show ¬ (7 = 17 ∧ 0 = 0) by omega), R.c7, n_mod, q_dec, ro_gf, ro_ld, ro_sd, ro_pf, e_vl, e_cV, e_cI, nI_add, q_mul, q_sub, q_rem, q_div, q_eq, q_lt, q_le, c0, c1, c2, c3, c4, c5, c6, c7, c8, c9, c10, c99]
    rw [if_pos (by omega)]
    rfl
  | succ r ih =>
    intro l n x h hn
    obtain ⟨n, rfl⟩ := fu_one (by omega : 0 < n)
    have hl : l < S 12 0 := by omega
    have hw := W.bea hl
    have q := R.bea hl
    have r0 : up C 17 0 x 0 0 = S 11 0 := by rw [up_ne _ (by omega)]; exact R.c0
    have a11 : up C 17 0 x 11 l = kN (S 9 l) := by rw [up_ne _ (by omega)]; exact q.2.2.2.1
    have a10 : up C 17 0 x 10 l = S 8 l := by rw [up_ne _ (by omega)]; exact q.2.2.1
    have a13 : up C 17 0 x 13 0 = S 14 0 := by rw [up_ne _ (by omega)]; exact R.c13
    have a7 : up C 17 0 x 7 0 = S 12 0 := by rw [up_ne _ (by omega)]; exact R.c7
    have ih0 := ih (l + 1) n x (by omega) (by omega)
    have ih1 := ih (l + 1) n (x + 1) (by omega) (by omega)
    unfold T_X0_countSnaps_L2 snapC sn1
    simp (disch := omega) only [a7, a11, x0_hasBag (τ := τ) (o := o) (C := up C 17 0 x) (b := S 9 l) (show up C 17 0 x 0 0 ≤ 6 by omega) (by omega), a10, a13, up_at, up_up, n_mod, q_dec, ro_gf, ro_ld, ro_sd, ro_pf, e_vl, e_cV, e_cI, nI_add, q_mul, q_sub, q_rem, q_div, q_eq, q_lt, q_le, c0, c1, c2, c3, c4, c5, c6, c7, c8, c9, c10, c99]
    rw [if_neg (by omega)]
    by_cases e : S 9 l = 9
    · rw [if_pos e, if_pos rfl, if_neg (by omega), Nat.zero_add]
      exact ih0
    · have hb : S 9 l < S 11 0 := by omega
      have hbg := W.bag hb
      have a1 : up C 17 0 x 1 (S 9 l) = S 1 (S 9 l) := by rw [up_ne _ (by omega)]; exact (R.bag hb).1
      rw [if_neg e, if_neg (by decide), kN_ne e]
      simp (disch := omega) only [a1, n_mod, q_dec, ro_gf, ro_ld, ro_sd, ro_pf, e_vl, e_cV, e_cI, nI_add, q_mul, q_sub, q_rem, q_div, q_eq, q_lt, q_le, c0, c1, c2, c3, c4, c5, c6, c7, c8, c9, c10, c99]
      by_cases e2 : S 1 (S 9 l) = 2
      · rw [if_pos e2]
        by_cases e3 : S 8 l = S 14 0
        · rw [if_pos e3, if_pos ⟨e, e2, e3⟩, ih1]
          congr 3
          omega
        · rw [if_neg e3, if_neg (fun z => e3 z.2.2), Nat.zero_add]
          exact ih0
      · rw [if_neg e2, if_neg (fun z => e2 z.2.1), Nat.zero_add]
        exact ih0
theorem x0_behind (W : WF S) (R : SC D C S) {F : ST → Option ST} : ∃ C', cV (T_X0_growHeld o (Ro τ o C)) (fun σ3 => cV (T_X0_countSnaps o σ3) F) = F (Ro τ o C') ∧ SC D C' (allGrow S (S 12 0) 0) ∧ C' 18 0 = C 18 0 := by
  have h12 := W.nl
  have h11 := W.nb
  have hkeep : ∀ i, i < C 0 0 → (C 6 i = 4294967287 ∨ C 6 i < 10) ∧ C 5 i ≤ 99 := by
    intro i hi
    rw [R.c0] at hi
    have r := R.bag hi
    have w := W.bag hi
    rw [r.2.2.2.2.2, r.2.2.2.2.1]
    refine ⟨?_, by omega⟩
    have := who_le W i
    unfold kN
    split
    · exact Or.inl rfl
    · exact Or.inr (by omega)
  have g1 := x0_grow (τ := τ) (o := o) (C := C) (by rw [R.c0]; exact h11) (C 0 0) C 0 FU (by rw [R.c0]; exact h11) (by omega) (FU_gt (by have := R.c0; omega)) hkeep
  have gne : ∀ f i, f ≠ 5 → gh C (C 0 0) 0 f i = C f i := fun f i h => gh_ne _ _ _ (Or.inl h)
  have R2 : SC D (gh C (C 0 0) 0) (fun f i => if f = 5 then allGrow S (S 12 0) 0 5 i else S f i) := by
    have hw : ∀ b, who (fun f i => if f = 5 then allGrow S (S 12 0) 0 5 i else S f i) b = who S b := fun b => who_congr (fun i => by simp) (by simp)
    refine ⟨⟨?_, ?_, ?_, ?_⟩, fun b hb => ?_, fun l hl => ?_, fun l hl => ?_, ?_⟩
    · rw [gne _ _ (by decide)]; exact R.c0
    · rw [gne _ _ (by decide)]; exact R.c7
    · rw [gne _ _ (by decide)]; exact R.c13
    · rw [gne _ _ (by decide)]; exact R.c14
    · have hb' : b < S 11 0 := hb
      have r := R.bag hb'
      rw [hw, gne 1 _ (by decide), gne 2 _ (by decide), gne 3 _ (by decide), gne 4 _ (by decide), gne 6 _ (by decide)]
      refine ⟨r.1, r.2.1, r.2.2.1, r.2.2.2.1, ?_, r.2.2.2.2.2⟩
      show _ = allGrow S (S 12 0) 0 5 b
      rw [gh_at _ _ _ (Nat.zero_le _) (by rw [R.c0]; omega), allGrow5 (by omega) _ _ _ W (by omega), r.2.2.2.2.2, r.2.2.2.2.1]
      have hwl := who_le W b
      show (if kN (who S b) = 4294967287 then _ else _) = (if who S b = 9 then _ else _)
      by_cases e : who S b = 9
      · rw [if_pos e, e, kN_9, if_pos rfl]
      · rw [if_neg e, kN_ne e, if_neg (by omega)]
    · have r := R.bea (show l < S 12 0 from hl)
      rw [gne 8 _ (by decide), gne 9 _ (by decide), gne 10 _ (by decide), gne 11 _ (by decide), gne 12 _ (by decide)]
      exact r
    · rw [gne 15 _ (by decide), gne 16 _ (by decide)]
      exact R.2.2.2.1 l hl
    · rw [gne 17 _ (by decide)]
      exact R.2.2.2.2
  have W2 : WF (fun f i => if f = 5 then allGrow S (S 12 0) 0 5 i else S f i) := by
    refine W.same (fun f i _ _ h _ => by simp [h]) (fun l hl => ?_) (fun l hl => ?_) (fun b hb => ?_)
    · exact (W.bea hl).2.2.1
    · exact (W.bea hl).2.2.2.2
    · have := (W.bag hb).2.2.2.2
      show allGrow S (S 12 0) 0 5 b ≤ 99
      rw [allGrow5 (by omega) _ _ _ W (by omega)]
      unfold incH
      split
      · exact this
      · split <;> omega
  have s1 := x0_snaps (τ := τ) (o := o) W2 R2 (S 12 0) 0 FU (C 17 0) (by simp) (FU_gt (by omega))
  have e17 : up (gh C (C 0 0) 0) 17 0 (C 17 0) = gh C (C 0 0) 0 := by
    have := gne 17 0 (by decide)
    rw [← this]
    exact up_self _ _ _
  have hsn : snapC (fun f i => if f = 5 then allGrow S (S 12 0) 0 5 i else S f i) (S 12 0) 0 = snapC S (S 12 0) 0 := snapC_congr (fun f i h => by simp [h.1]) _ _
  rw [e17, hsn] at s1
  refine ⟨up (gh C (C 0 0) 0) 17 0 (C 17 0 + snapC S (S 12 0) 0), ?_, ?_, ?_⟩
  · unfold T_X0_growHeld T_X0_countSnaps
    rw [c0, g1]
    show cV (T_X0_countSnaps_L2 o FU (nI 0) (Ro τ o (gh C (C 0 0) 0))) F = _
    rw [s1]
    rfl
  · have R3 := R2.upt (f := 17) (g := 29) (i := 0) (x := C 17 0 + snapC S (S 12 0) 0) (y := S 29 0 + snapC S (S 12 0) 0) (Or.inr (Or.inr (Or.inl ⟨rfl, rfl, by have := R.2.2.2.2; omega⟩)))
    have e : up (fun f i => if f = 5 then allGrow S (S 12 0) 0 5 i else S f i) 29 0 (S 29 0 + snapC S (S 12 0) 0) = fun f i => if f = 5 then allGrow S (S 12 0) 0 5 i else if f = 29 ∧ i = 0 then allGrow S (S 12 0) 0 29 0 else S f i := by
      funext f i
      rw [allGrow29]
      unfold up
      by_cases h1 : f = 29 ∧ i = 0
      · rw [if_pos h1, if_neg (by omega), if_pos h1]
      · rw [if_neg h1, if_neg h1]
    rw [e] at R3
    obtain ⟨⟨q1, q2, q3, q4⟩, q5, q6, q7, q8⟩ := R3
    have k : ∀ f i, f ≠ 5 ∧ f ≠ 29 → allGrow S (S 12 0) 0 f i = S f i := fun f i h => allGrow_keeps h _ _ _
    have hw : ∀ b, who (allGrow S (S 12 0) 0) b = who (fun f i => if f = 5 then allGrow S (S 12 0) 0 5 i else if f = 29 ∧ i = 0 then allGrow S (S 12 0) 0 29 0 else S f i) b := fun b => who_congr (fun i => by rw [k 9 i (by decide)]; simp) (by rw [k 12 0 (by decide)]; simp)
    refine ⟨⟨by rw [k 11 0 (by decide)]; exact q1, by rw [k 12 0 (by decide)]; exact q2, by rw [k 14 0 (by decide)]; exact q3, by rw [k 13 0 (by decide)]; exact q4⟩, fun b hb => ?_, fun l hl => ?_, fun l hl => ?_, q8⟩
    · rw [k 11 0 (by decide)] at hb
      rw [hw, k 1 b (by decide), k 2 b (by decide), k 3 b (by decide), k 4 b (by decide)]
      exact q5 b hb
    · rw [k 12 0 (by decide)] at hl
      rw [k 6 l (by decide), k 7 l (by decide), k 8 l (by decide), k 9 l (by decide), k 10 l (by decide)]
      exact q6 l hl
    · rw [k 27 l (by decide), k 28 l (by decide)]
      exact q7 l hl
  · rw [up_ne _ (by omega), gne 18 0 (by decide)]
end Cls4
