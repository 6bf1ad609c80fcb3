/-! stable: asking and keeping comes to the ranks -/
theorem set_bit : ∀ x, x < 64 → ∀ c, c < 6 → ∀ b, b < 6 → (x ||| 2 ^ c) / 2 ^ b % 2 = if b = c then 1 else x / 2 ^ b % 2 := by decide +kernel
abbrev asd (X : SS) (l b : Nat) : Prop := X 32 l / 2 ^ b % 2 = 1
def GS (S X : SS) : Prop :=
  (∀ f i, f ≠ 32 → f ≠ 33 → X f i = S f i) ∧ (∀ l, l < S 12 0 → X 32 l < 64) ∧ (∀ b, b < S 11 0 → X 33 b = 9 ∨ X 33 b < S 12 0) ∧
  (∀ l, l < S 12 0 → ∀ b b', b < S 11 0 → b' < S 11 0 → asd X l b → lto (pp S) b' b → asd X l b') ∧
  (∀ b, b < S 11 0 → X 33 b = 9 → ∀ l, l < S 12 0 → ¬ asd X l b) ∧
  (∀ b, b < S 11 0 → X 33 b ≠ 9 → asd X (X 33 b) b ∧ ∀ l, l < S 12 0 → asd X l b → l = X 33 b ∨ lto (S 6) (X 33 b) l) ∧
  (∀ b b', b < S 11 0 → b' < S 11 0 → X 33 b = X 33 b' → X 33 b ≠ 9 → b = b')
/-- she asks no more -/
def finA (S X : SS) (l : Nat) : Prop := (∃ b, b < S 11 0 ∧ X 33 b = l) ∨ ∀ b, b < S 11 0 → asd X l b
def muA (S X : SS) : Nat := sumN (fun l => sumN (fun b => X 32 l / 2 ^ b % 2) (S 11 0) 0) (S 12 0) 0
section Sta
variable {G : GG} {P : Nat → Nat} {C A S F X Y Z D S0 : SS} {τ : TT} {o : Nat}
theorem mu_le (W : WF S) : muA S X ≤ 30 := by
  have h11 := W.nb
  have h12 := W.nl
  have h := sumN_le (g := fun l => sumN (fun b => X 32 l / 2 ^ b % 2) (S 11 0) 0) (N := 6) (S 12 0) 0 (fun l _ _ => by
    have := sumN_le (g := fun b => X 32 l / 2 ^ b % 2) (N := 1) (S 11 0) 0 (fun b _ _ => by
      show X 32 l / 2 ^ b % 2 ≤ 1
      have := Nat.mod_lt (X 32 l / 2 ^ b) (show 0 < 2 by decide); omega)
    show sumN (fun b => X 32 l / 2 ^ b % 2) (S 11 0) 0 ≤ 6
    omega)
  show sumN _ _ _ ≤ 30
  have h2 : S 12 0 * 6 ≤ 5 * 6 := Nat.mul_le_mul_right _ h12
  omega
/-- at the end who is kept by which bag is told by the ranks -/
theorem gs_end (W : WF S) (g : GS S X) (hf : ∀ l, l < S 12 0 → finA S X l) {b l : Nat} (hb : b < S 11 0) (hl : l < S 12 0) : X 33 b = l ↔ rkv (pp S) (S 11 0) b = rkv (S 6) (S 12 0) l := by
  obtain ⟨g1, g2, g3, g4, g5, g6, g7⟩ := g
  have h11 := W.nb
  have h12 := W.nl
  have fw : ∀ b l, b < S 11 0 → l < S 12 0 → X 33 b = l → rkv (pp S) (S 11 0) b = rkv (S 6) (S 12 0) l := by
    intro b l hb hl e
    have kb := g6 b hb (by omega)
    rw [e] at kb
    -- bags before b are kept by bearers before l
    have d1 : ∀ b', b' < S 11 0 → lto (pp S) b' b → X 33 b' < S 12 0 ∧ lto (S 6) (X 33 b') l := by
      intro b' hb' ht
      have as' := g4 l hl b b' hb hb' kb.1 ht
      have ne : X 33 b' ≠ 9 := fun q => g5 b' hb' q l hl as'
      have k2 := g6 b' hb' ne
      refine ⟨by have := g3 b' hb'; omega, ?_⟩
      rcases k2.2 l hl as' with q | q
      · have := g7 b b' hb hb' (e.trans q) (by omega)
        subst this
        omega
      · exact q
    have d2 : ∀ l', l' < S 12 0 → lto (S 6) l' l → ∃ b', b' < S 11 0 ∧ X 33 b' = l' ∧ lto (pp S) b' b := by
      intro l' hl' ht
      have nas : ¬ asd X l' b := by
        intro q
        rcases kb.2 l' hl' q with q2 | q2
        · subst q2; omega
        · omega
      rcases hf l' hl' with ⟨b', hb', e'⟩ | h
      · refine ⟨b', hb', e', ?_⟩
        have k2 := g6 b' hb' (by omega)
        rw [e'] at k2
        have nlt : ¬ lto (pp S) b b' := fun q => nas (g4 l' hl' b' b hb' hb k2.1 q)
        have ne : b' ≠ b := fun q => by subst q; omega
        omega
      · exact absurd (h b hb) nas
    show sumN (fun k => if lto (pp S) k b then 1 else 0) (S 11 0) 0 = sumN (fun k => if lto (S 6) k l then 1 else 0) (S 12 0) 0
    have e1 : sumN (fun k => if lto (pp S) k b then 1 else 0) (S 11 0) 0 = sumN (fun k => sumN (fun l' => if X 33 k = l' ∧ lto (pp S) k b then 1 else 0) (S 12 0) 0) (S 11 0) 0 := by
      refine sumN_congr _ _ (fun k _ hk => ?_)
      show (if lto (pp S) k b then 1 else 0) = sumN (fun l' => if X 33 k = l' ∧ lto (pp S) k b then 1 else 0) (S 12 0) 0
      by_cases q : lto (pp S) k b
      · have d := d1 k (by omega) q
        rw [if_pos q, sumN_at (i0 := X 33 k) (S 12 0) 0 (Nat.zero_le _) (by omega) (fun i _ _ hne => if_neg (fun z => hne z.1.symm)), if_pos ⟨rfl, q⟩]
      · rw [if_neg q, sumN_zero _ _ (fun i _ _ => if_neg (fun z => q z.2))]
    have e2 : sumN (fun k => if lto (S 6) k l then 1 else 0) (S 12 0) 0 = sumN (fun l' => sumN (fun k => if X 33 k = l' ∧ lto (pp S) k b then 1 else 0) (S 11 0) 0) (S 12 0) 0 := by
      refine sumN_congr _ _ (fun l' _ hl' => ?_)
      show (if lto (S 6) l' l then 1 else 0) = sumN (fun k => if X 33 k = l' ∧ lto (pp S) k b then 1 else 0) (S 11 0) 0
      by_cases q : lto (S 6) l' l
      · obtain ⟨b', hb', e', ht⟩ := d2 l' (by omega) q
        rw [if_pos q, sumN_at (i0 := b') (S 11 0) 0 (Nat.zero_le _) (by omega) (fun i _ hi hne => if_neg (fun z => hne (g7 i b' (by omega) hb' (z.1.trans e'.symm) (by omega)))), if_pos ⟨e', ht⟩]
      · rw [if_neg q, sumN_zero _ _ (fun i _ hi => if_neg (fun z => q (by have := (d1 i (by omega) z.2).2; rw [z.1] at this; exact this)))]
    rw [e1, e2, sumN_swap (fun k l' => if X 33 k = l' ∧ lto (pp S) k b then 1 else 0)]
  refine ⟨fun e => fw b l hb hl e, fun e => ?_⟩
  rcases hf l hl with ⟨b2, hb2, e2⟩ | h
  · have := fw b2 l hb2 hl e2
    have := rk_inj hb2 hb (this.trans e.symm)
    rw [← this]; exact e2
  · have as := h b hb
    have ne : X 33 b ≠ 9 := fun q => g5 b hb q l hl as
    have hl2 : X 33 b < S 12 0 := by have := g3 b hb; omega
    rcases (g6 b hb ne).2 l hl as with q | q
    · exact q.symm
    · have a1 := fw b (X 33 b) hb hl2 rfl
      have a2 := rk_lt (n := S 12 0) hl2 q
      omega
theorem x3_keptL {l : Nat} (hl : l < 9) (h11 : X 11 0 ≤ 6) (hk : ∀ b, b < X 11 0 → X 33 b ≤ 9) : ∀ r b n, b + r = X 11 0 → r < n → T_X3_isKept_L2 (Ro τ 13 X) n (nI l) (nI b) = some (nI (if fsB (fun b => decide (X 33 b = l)) r b = 9 then 0 else 1)) := by
  intro r
  induction r with
  | zero =>
    intro b n h hn
    obtain ⟨n, rfl⟩ := fu_one hn
    unfold T_X3_isKept_L2
    rw [ro_gf, if_pos (by rw [q_le (by omega) (by omega)]; omega)]
    rfl
  | succ r ih =>
    intro b n h hn
    obtain ⟨n, rfl⟩ := fu_one (by omega : 0 < n)
    have := hk b (by omega)
    unfold T_X3_isKept_L2 fsB
    rw [ro_gf, if_neg (by rw [q_le (by omega) (by omega)]; omega), ro_ld (by omega) (by omega), i_eq (by omega) (by omega), c1, nI_add]
    simp only [e_vl]
    by_cases e : X 33 b = l
    · rw [if_pos e, if_pos (decide_eq_true e), if_neg (by omega)]
    · rw [if_neg e, if_neg (show ¬ decide (X 33 b = l) = true by simpa using e)]
      exact ih (b + 1) n (by omega) (by omega)
def nxA (S X : SS) (l : Nat) : Nat → Nat → Nat → Nat
  | 0, _, c => c
  | r + 1, b, c => nxA S X l r (b + 1) (if ¬ asd X l b ∧ (c = 4294967287 ∨ pp S b < pp S c) then b else c)
theorem nxA_spec (l : Nat) : ∀ r b c, b + r ≤ 6 → (c = 4294967287 ∧ (∀ k, k < b → asd X l k) ∨ c < b ∧ ¬ asd X l c ∧ ∀ k, k < b → ¬ asd X l k → k = c ∨ lto (pp S) c k) → (nxA S X l r b c = 4294967287 ∧ (∀ k, k < b + r → asd X l k) ∨ nxA S X l r b c < b + r ∧ ¬ asd X l (nxA S X l r b c) ∧ ∀ k, k < b + r → ¬ asd X l k → k = nxA S X l r b c ∨ lto (pp S) (nxA S X l r b c) k)
  | 0, b, c, _, h => h
  | r + 1, b, c, h6, h => by
    unfold nxA
    have := nxA_spec l r (b + 1) (if ¬ asd X l b ∧ (c = 4294967287 ∨ pp S b < pp S c) then b else c) (by omega) (by
      by_cases e : ¬ asd X l b ∧ (c = 4294967287 ∨ pp S b < pp S c)
      · rw [if_pos e]
        refine Or.inr ⟨by omega, e.1, fun k hk ha => ?_⟩
        by_cases ek : k = b
        · exact Or.inl ek
        · rcases h with ⟨q1, q2⟩ | ⟨q1, q2, q3⟩
          · exact absurd (q2 k (by omega)) ha
          · have hc : pp S b < pp S c := by
              rcases e.2 with z | z
              · omega
              · exact z
            rcases q3 k (by omega) ha with z | z
            · subst z; exact Or.inr (Or.inl hc)
            · right; omega
      · rw [if_neg e]
        by_cases eb : asd X l b
        · rcases h with ⟨q1, q2⟩ | ⟨q1, q2, q3⟩
          · refine Or.inl ⟨q1, fun k hk => ?_⟩
            by_cases ek : k = b
            · rw [ek]; exact eb
            · exact q2 k (by omega)
          · refine Or.inr ⟨by omega, q2, fun k hk ha => ?_⟩
            by_cases ek : k = b
            · rw [ek] at ha; exact absurd eb ha
            · exact q3 k (by omega) ha
        · rcases h with ⟨q1, q2⟩ | ⟨q1, q2, q3⟩
          · exact absurd ⟨eb, Or.inl q1⟩ e
          · have hc : ¬ pp S b < pp S c := fun z => e ⟨eb, Or.inr z⟩
            refine Or.inr ⟨by omega, q2, fun k hk ha => ?_⟩
            by_cases ek : k = b
            · rw [ek]; right; omega
            · exact q3 k (by omega) ha)
    rw [show b + (r + 1) = b + 1 + r by omega]
    exact this
theorem x3_nxA (W : WF S) (g : GS S X) {l : Nat} (hl : l < S 12 0) : ∀ r b c n, b + r = S 11 0 → r < n → (c = 4294967287 ∨ c < S 11 0) → T_X3_nextAsked_L5 (Ro τ 13 X) n (nI l) (nI c) (nI b) = some (nI (nxA S X l r b c)) := by
  obtain ⟨g1, g2, -⟩ := g
  have h11 := W.nb
  have h12 := W.nl
  have e11 : X 11 0 = S 11 0 := g1 _ _ (by decide) (by decide)
  have WX : WF X := W.same (fun f i _ _ _ q => g1 f i (by omega) (by omega)) (fun l hl => by rw [g1 _ _ (by decide) (by decide)]; exact (W.bea hl).2.2.1) (fun l hl => by rw [g1 _ _ (by decide) (by decide)]; exact (W.bea hl).2.2.2.2) (fun b hb => by rw [g1 _ _ (by decide) (by decide)]; exact (W.bag hb).2.2.2.2)
  have epp : ∀ b, pp X b = pp S b := fun b => by unfold pp; rw [g1 1 b (by decide) (by decide), g1 2 b (by decide) (by decide)]
  have hx := g2 l hl
  intro r
  induction r with
  | zero =>
    intro b c n h hn hc
    obtain ⟨n, rfl⟩ := fu_one hn
    unfold T_X3_nextAsked_L5
    rw [ro_gf, e11, if_pos (by rw [q_le (by omega) (by omega)]; omega)]
    rfl
  | succ r ih =>
    intro b c n h hn hc
    obtain ⟨n, rfl⟩ := fu_one (by omega : 0 < n)
    have pb := pp_le W (b := b) (by omega)
    have bt : X 32 l / 2 ^ b % 2 < 2 := Nat.mod_lt _ (by decide)
    unfold T_X3_nextAsked_L5 nxA
    rw [ro_gf, e11, if_neg (by rw [q_le (by omega) (by omega)]; omega), ro_ld (by omega) (by omega), bit_all _ (by omega) b (by omega), c0, i_eq (by omega) (by omega), c1, nI_add]
    simp only [e_vl]
    by_cases e : X 32 l / 2 ^ b % 2 = 0
    · rw [if_pos e]
      rcases hc with rfl | hc
      · rw [if_pos NN_neg, if_pos (show ¬ asd X l b ∧ (4294967287 = 4294967287 ∨ pp S b < pp S 4294967287) from ⟨fun q => by have : X 32 l / 2 ^ b % 2 = 1 := q; omega, Or.inl rfl⟩)]
        exact ih (b + 1) b n (by omega) (by omega) (Or.inr (by omega))
      · have pc := pp_le W (b := c) hc
        rw [if_neg (by rw [q_lt (by omega) (by omega)]; omega), x3_pp WX (by omega), x3_pp WX (by omega)]
        simp only [e_cV]
        rw [epp, epp, i_le (by omega) (by omega)]
        by_cases e2 : pp S b < pp S c
        · rw [if_neg (by omega), if_pos (show ¬ asd X l b ∧ (c = 4294967287 ∨ pp S b < pp S c) from ⟨fun q => by have : X 32 l / 2 ^ b % 2 = 1 := q; omega, Or.inr e2⟩)]
          exact ih (b + 1) b n (by omega) (by omega) (Or.inr (by omega))
        · rw [if_pos (by omega), if_neg (show ¬ (¬ asd X l b ∧ (c = 4294967287 ∨ pp S b < pp S c)) from fun q => by have := q.2; omega)]
          exact ih (b + 1) c n (by omega) (by omega) (Or.inr hc)
    · rw [if_neg e, if_neg (show ¬ (¬ asd X l b ∧ (c = 4294967287 ∨ pp S b < pp S c)) from fun q => q.1 (show X 32 l / 2 ^ b % 2 = 1 by omega))]
      exact ih (b + 1) c n (by omega) (by omega) hc
theorem x3_rather (W : WF S) (g : ∀ f i, f ≠ 32 → f ≠ 33 → X f i = S f i) {l t : Nat} (hl : l < S 12 0) (ht : t = 9 ∨ t < S 12 0) : T_X3_isRather (Ro τ 13 X) (nI l) (nI t) = some (nI (if t = 9 ∨ lto (S 6) l t then 1 else 0)) := by
  have h12 := W.nl
  have wl := W.bea hl
  unfold T_X3_isRather
  rw [c9, i_eq (by omega) (by omega)]
  by_cases e : t = 9
  · rw [if_pos e, if_pos (Or.inl e), c1]
  · have wt := W.bea (l := t) (by omega)
    rw [if_neg e, ro_ld (by omega) (by omega), ro_ld (by omega) (by omega), ro_ld (by omega) (by omega), ro_ld (by omega) (by omega), g 6 _ (by decide) (by decide), g 6 _ (by decide) (by decide), i_lt (by omega) (by omega), i_eq (by omega) (by omega), i_le (by omega) (by omega), c0, c1]
    by_cases e1 : S 6 l < S 6 t
    · rw [if_pos e1, if_pos (Or.inr (Or.inl e1))]
    · rw [if_neg e1]
      by_cases e2 : S 6 l = S 6 t
      · rw [if_pos e2]
        by_cases e3 : t ≤ l
        · rw [if_pos e3, if_neg (by omega)]
        · rw [if_neg e3, if_pos (by omega)]
      · rw [if_neg e2, if_neg (by omega)]
/-- one asks -/
theorem gs_ask (W : WF S) (g : GS S X) {l : Nat} (hl : l < S 12 0) : ∃ q Y, (∀ τ, T_X3_asks (nI l) (Ro τ 13 X) = some (nI q, Ro τ 13 Y)) ∧ GS S Y ∧ (q = 0 ∧ Y = X ∧ finA S X l ∨ q = 1 ∧ muA S Y = muA S X + 1) := by
  have h11 := W.nb
  have h12 := W.nl
  have g' := g
  obtain ⟨g1, g2, g3, g4, g5, g6, g7⟩ := g
  have e11 : X 11 0 = S 11 0 := g1 _ _ (by decide) (by decide)
  have kp := fun τ => x3_keptL (τ := τ) (X := X) (l := l) (by omega) (by omega) (fun b hb => by have := g3 b (by omega); omega) (S 11 0) 0 FU (by omega) (FU_gt (by omega))
  rcases fsB_spec (fun b => decide (X 33 b = l)) (S 11 0) 0 (by omega) with ⟨k1, k2⟩ | ⟨-, k2, k3⟩
  · have nk : ∀ b, b < S 11 0 → X 33 b ≠ l := fun b hb => by
      have := k2 b (Nat.zero_le _) (by omega)
      simpa using this
    have nx := fun τ => x3_nxA (τ := τ) W g' hl (S 11 0) 0 4294967287 FU (by omega) (FU_gt (by omega)) (Or.inl rfl)
    have sp := nxA_spec (S := S) (X := X) l (S 11 0) 0 4294967287 (by omega) (Or.inl ⟨rfl, fun k hk => by omega⟩)
    rw [Nat.zero_add] at sp
    generalize hcc : nxA S X l (S 11 0) 0 4294967287 = c at nx sp
    have pre : ∀ τ, T_X3_asks (nI l) (Ro τ 13 X) = T_X3_asks_j18 (nI l) (nI c) (Ro τ 13 X) := by
      intro τ
      unfold T_X3_asks T_X3_isKept T_X3_nextAsked
      rw [c0, kp, k1, if_pos (by trivial)]
      simp only [e_cV]
      rw [if_pos (by trivial), c9, m9, nx]
      rfl
    rcases sp with ⟨s1, s2⟩ | ⟨s1, s2, s3⟩
    · refine ⟨0, X, fun τ => ?_, g', Or.inl ⟨rfl, rfl, Or.inr s2⟩⟩
      rw [pre, s1]
      unfold T_X3_asks_j18
      rw [c0, if_neg (by decide)]
    · have hx := g2 l hl
      have oc := or_all (X 32 l) (by omega) c (by omega)
      have ox : X 32 l ||| 2 ^ c < 64 := Nat.or_lt_two_pow (n := 6) hx (Nat.pow_lt_pow_right (by decide) (by omega))
      have hk := g3 c s1
      have e12 : X 12 0 = S 12 0 := g1 _ _ (by decide) (by decide)
      -- the state behind the asking
      let X1 : SS := up X 32 l (X 32 l ||| 2 ^ c)
      have x1o : ∀ f i, f ≠ 32 → X1 f i = X f i := fun f i h => up_ne _ (fun q => h q.1)
      have x1s : ∀ f i, f ≠ 32 → f ≠ 33 → X1 f i = S f i := fun f i h h2 => (x1o f i h).trans (g1 f i h h2)
      have as1 : ∀ l' b, b < S 11 0 → (asd X1 l' b ↔ asd X l' b ∨ (l' = l ∧ b = c)) := by
        intro l' b hb
        by_cases e : l' = l
        · subst e
          show up X 32 l' (X 32 l' ||| 2 ^ c) 32 l' / 2 ^ b % 2 = 1 ↔ _
          rw [up_at, set_bit _ hx c (by omega) b (by omega)]
          by_cases e2 : b = c
          · rw [if_pos e2]; exact ⟨fun _ => Or.inr ⟨rfl, e2⟩, fun _ => rfl⟩
          · rw [if_neg e2]; exact ⟨fun q => Or.inl q, fun q => q.elim id (fun z => absurd z.2 e2)⟩
        · show up X 32 l (X 32 l ||| 2 ^ c) 32 l' / 2 ^ b % 2 = 1 ↔ _
          rw [up_ne _ (fun q => e q.2)]
          exact ⟨fun q => Or.inl q, fun q => q.elim id (fun z => absurd z.1 e)⟩
      have mu1 : ∀ Y : SS, (∀ l', Y 32 l' = X1 32 l') → muA S Y = muA S X + 1 := by
        intro Y hY
        show sumN (fun l => sumN (fun b => Y 32 l / 2 ^ b % 2) (S 11 0) 0) (S 12 0) 0 = sumN (fun l => sumN (fun b => X 32 l / 2 ^ b % 2) (S 11 0) 0) (S 12 0) 0 + 1
        refine sumN_upd (i0 := l) _ _ (Nat.zero_le _) (by omega) (fun i _ _ hne => ?_) ?_
        · show sumN (fun b => Y 32 i / 2 ^ b % 2) _ _ = sumN (fun b => X 32 i / 2 ^ b % 2) _ _
          rw [hY]
          show sumN (fun b => up X 32 l (X 32 l ||| 2 ^ c) 32 i / 2 ^ b % 2) _ _ = _
          rw [up_ne _ (fun q => hne q.2)]
        · show sumN (fun b => Y 32 l / 2 ^ b % 2) _ _ = sumN (fun b => X 32 l / 2 ^ b % 2) _ _ + 1
          rw [hY]
          show sumN (fun b => up X 32 l (X 32 l ||| 2 ^ c) 32 l / 2 ^ b % 2) _ _ = _
          rw [up_at]
          refine sumN_upd (i0 := c) _ _ (Nat.zero_le _) (by omega) (fun i _ hi hne => ?_) ?_
          · show (X 32 l ||| 2 ^ c) / 2 ^ i % 2 = X 32 l / 2 ^ i % 2
            rw [set_bit _ hx c (by omega) i (by omega), if_neg hne]
          · show (X 32 l ||| 2 ^ c) / 2 ^ c % 2 = X 32 l / 2 ^ c % 2 + 1
            rw [set_bit _ hx c (by omega) c (by omega), if_pos rfl]
            have bt : X 32 l / 2 ^ c % 2 < 2 := Nat.mod_lt _ (by decide)
            have : ¬ X 32 l / 2 ^ c % 2 = 1 := s2
            omega
      have down : ∀ l', l' < S 12 0 → ∀ b b', b < S 11 0 → b' < S 11 0 → asd X1 l' b → lto (pp S) b' b → asd X1 l' b' := by
        intro l' hl' b b' hb hb' ha ht
        rw [as1 l' b hb] at ha
        rw [as1 l' b' hb']
        rcases ha with q | ⟨q1, q2⟩
        · exact Or.inl (g4 l' hl' b b' hb hb' q ht)
        · subst q1
          subst q2
          by_cases ha' : asd X l' b'
          · exact Or.inl ha'
          · rcases s3 b' hb' ha' with z | z
            · exact Or.inr ⟨rfl, z⟩
            · omega
      have lim : ∀ l', l' < S 12 0 → X1 32 l' < 64 := by
        intro l' hl'
        show up X 32 l (X 32 l ||| 2 ^ c) 32 l' < 64
        by_cases e : l' = l
        · rw [e, up_at]; exact ox
        · rw [up_ne _ (fun q => e q.2)]; exact g2 l' hl'
      have rt := fun τ => x3_rather (τ := τ) (X := X1) W x1s hl hk
      have step : ∀ τ, T_X3_asks_j18 (nI l) (nI c) (Ro τ 13 X) = if X 33 c = 9 ∨ lto (S 6) l (X 33 c) then some (nI 1, Ro τ 13 (up X1 33 c l)) else some (nI 1, Ro τ 13 X1) := by
        intro τ
        unfold T_X3_asks_j18
        rw [c0, if_pos (by rw [q_le (by omega) (by omega)]; omega), ro_ld (by omega) (by omega), oc.1, ro_sd (by omega) (by omega)]
        show ld (Ro τ 13 X1) 13 33 6 (nI c) _ = _
        rw [ro_ld (by omega) (by omega), x1o 33 c (by decide), rt]
        simp only [e_cV]
        by_cases e : X 33 c = 9 ∨ lto (S 6) l (X 33 c)
        · rw [if_pos e, if_neg (by decide), ro_sd (by omega) (by omega), if_pos e, c1]
        · rw [if_neg e, if_pos (by trivial), if_neg e, c1]
      by_cases e : X 33 c = 9 ∨ lto (S 6) l (X 33 c)
      · have y33 : ∀ b, up X1 33 c l 33 b = if b = c then l else X 33 b := fun b => by
          by_cases q : b = c
          · rw [if_pos q, q, up_at]
          · rw [if_neg q, up_ne _ (fun z => q z.2)]; exact x1o 33 b (by decide)
        have y32 : ∀ l', up X1 33 c l 32 l' = X1 32 l' := fun l' => up_ne _ (by omega)
        have asy : ∀ l' b, (asd (up X1 33 c l) l' b ↔ asd X1 l' b) := fun l' b => by
          show up X1 33 c l 32 l' / 2 ^ b % 2 = 1 ↔ _
          rw [y32]
        refine ⟨1, up X1 33 c l, fun τ => by rw [pre, step, if_pos e], ⟨fun f i h h2 => by rw [up_ne _ (fun q => h2 q.1)]; exact x1s f i h h2, fun l' hl' => by rw [y32]; exact lim l' hl', fun b hb => ?_, fun l' hl' b b' hb hb' ha ht => ?_, fun b hb h9 l' hl' => ?_, fun b hb h9 => ?_, fun b b' hb hb' he h9 => ?_⟩, Or.inr ⟨rfl, mu1 _ y32⟩⟩
        · rw [y33]
          split
          · exact Or.inr hl
          · exact g3 b hb
        · rw [asy] at ha ⊢
          exact down l' hl' b b' hb hb' ha ht
        · rw [y33] at h9
          rw [asy, as1 l' b hb]
          by_cases q : b = c
          · rw [if_pos q] at h9; omega
          · rw [if_neg q] at h9
            rintro (z | z)
            · exact g5 b hb h9 l' hl' z
            · exact q z.2
        · rw [y33] at h9 ⊢
          by_cases q : b = c
          · rw [if_pos q, asy, as1 l b hb]
            refine ⟨Or.inr ⟨rfl, q⟩, fun l' hl' ha => ?_⟩
            rw [asy, as1 l' b hb] at ha
            rcases ha with z | z
            · subst q
              rcases e with e9 | elt
              · exact absurd z (g5 b hb e9 l' hl')
              · have ne : X 33 b ≠ 9 := fun z9 => g5 b hb z9 l' hl' z
                rcases (g6 b hb ne).2 l' hl' z with y | y
                · rw [← y] at elt; exact Or.inr elt
                · right; omega
            · exact Or.inl z.1
          · rw [if_neg q] at h9 ⊢
            have k6 := g6 b hb h9
            rw [asy, as1 _ b hb]
            refine ⟨Or.inl k6.1, fun l' hl' ha => ?_⟩
            rw [asy, as1 l' b hb] at ha
            rcases ha with z | z
            · exact k6.2 l' hl' z
            · exact absurd z.2 q
        · rw [y33, y33] at he
          rw [y33] at h9
          by_cases q : b = c
          · rw [if_pos q] at he
            by_cases q' : b' = c
            · omega
            · rw [if_neg q'] at he
              exact absurd he.symm (nk b' hb')
          · rw [if_neg q] at he h9
            by_cases q' : b' = c
            · rw [if_pos q'] at he
              exact absurd he (nk b hb)
            · rw [if_neg q'] at he
              exact g7 b b' hb hb' he h9
      · refine ⟨1, X1, fun τ => by rw [pre, step, if_neg e], ⟨x1s, lim, fun b hb => by rw [x1o 33 b (by decide)]; exact g3 b hb, down, fun b hb h9 l' hl' => ?_, fun b hb h9 => ?_, fun b b' hb hb' he h9 => ?_⟩, Or.inr ⟨rfl, mu1 _ (fun _ => rfl)⟩⟩
        · rw [x1o 33 b (by decide)] at h9
          rw [as1 l' b hb]
          rintro (z | z)
          · exact g5 b hb h9 l' hl' z
          · rw [z.2] at h9; exact e (Or.inl h9)
        · rw [x1o 33 b (by decide)] at h9 ⊢
          have k6 := g6 b hb h9
          rw [as1 _ b hb]
          refine ⟨Or.inl k6.1, fun l' hl' ha => ?_⟩
          rw [as1 l' b hb] at ha
          rcases ha with z | z
          · exact k6.2 l' hl' z
          · rw [z.1]
            have q2 := z.2
            subst q2
            by_cases q : l = X 33 b
            · exact Or.inl q
            · right; omega
        · rw [x1o 33 b (by decide), x1o 33 b' (by decide)] at he
          rw [x1o 33 b (by decide)] at h9
          exact g7 b b' hb hb' he h9
  · refine ⟨0, X, fun τ => ?_, g', Or.inl ⟨rfl, rfl, Or.inl ⟨fsB (fun b => decide (X 33 b = l)) (S 11 0) 0, by omega, of_decide_eq_true k3⟩⟩⟩
    unfold T_X3_asks T_X3_isKept T_X3_asks_j18
    rw [c0, kp, if_neg (by omega)]
    simp only [e_cV]
    rw [if_neg (by decide), c9, m9, if_neg (by decide)]
/-- a round of asking -/
theorem gs_pass (W : WF S) : ∀ r l gg X, l + r = S 12 0 → GS S X → gg ≤ 1 → ∃ g' Y, (∀ τ K n v1, r < n → T_X3_stable_L66 K n v1 (nI gg) (nI l) (Ro τ 13 X) = K v1 (nI g') (Ro τ 13 Y)) ∧ GS S Y ∧ g' ≤ 1 ∧ muA S X ≤ muA S Y ∧ (gg = 1 → g' = 1) ∧ (g' = 0 → Y = X ∧ ∀ k, l ≤ k → k < S 12 0 → finA S X k) ∧ (g' = 1 → gg = 1 ∨ muA S X < muA S Y) := by
  have h12 := W.nl
  intro r
  induction r with
  | zero =>
    intro l gg X h g hg
    have e12 : X 12 0 = S 12 0 := g.1 _ _ (by decide) (by decide)
    refine ⟨gg, X, fun τ K n v1 hn => ?_, g, hg, Nat.le_refl _, id, fun _ => ⟨rfl, fun k h1 h2 => by omega⟩, fun q => Or.inl q⟩
    obtain ⟨n, rfl⟩ := fu_one hn
    unfold T_X3_stable_L66
    rw [ro_gf, e12, if_pos (by rw [q_le (by omega) (by omega)]; omega)]
  | succ r ih =>
    intro l gg X h g hg
    have e12 : X 12 0 = S 12 0 := g.1 _ _ (by decide) (by decide)
    obtain ⟨q, Y, a1, a2, a3⟩ := gs_ask W g (l := l) (by omega)
    have hq : q ≤ 1 := by omega
    have orv : gg ||| q ≤ 1 ∧ (gg = 1 → gg ||| q = 1) ∧ (q = 1 → gg ||| q = 1) ∧ (gg = 0 → q = 0 → gg ||| q = 0) := by
      have c1 : gg = 0 ∨ gg = 1 := by omega
      have c2 : q = 0 ∨ q = 1 := by omega
      rcases c1 with rfl | rfl <;> rcases c2 with rfl | rfl <;> decide
    obtain ⟨g', Z, b1, b2, b3, b4, b5, b6, b7⟩ := ih (l + 1) (gg ||| q) Y (by omega) a2 orv.1
    have hm : muA S X ≤ muA S Y := by
      rcases a3 with ⟨-, e, -⟩ | ⟨-, e⟩
      · rw [e]; exact Nat.le_refl _
      · omega
    refine ⟨g', Z, fun τ K n v1 hn => ?_, b2, b3, by omega, fun z => b5 (orv.2.1 z), fun z => ?_, fun z => ?_⟩
    · obtain ⟨n, rfl⟩ := fu_one (by omega : 0 < n)
      unfold T_X3_stable_L66
      rw [ro_gf, e12, if_neg (by rw [q_le (by omega) (by omega)]; omega), a1]
      simp only [e_cI]
      rw [fa_or, e_vl, c1, nI_add, e_vl]
      exact b1 τ K n v1 (by omega)
    · obtain ⟨y1, y2⟩ := b6 z
      rcases a3 with ⟨-, e, ef⟩ | ⟨e, -⟩
      · rw [e] at y1 y2
        refine ⟨y1, fun k h1 h2 => ?_⟩
        by_cases ek : k = l
        · rw [ek]; exact ef
        · exact y2 k (by omega) h2
      · have := b5 (orv.2.2.1 e)
        omega
    · rcases b7 z with y | y
      · rcases a3 with ⟨e0, -, -⟩ | ⟨-, e⟩
        · left
          by_cases e : gg = 1
          · exact e
          · have := orv.2.2.2 (by omega) e0
            omega
        · right; omega
      · right; omega
theorem gs_all (W : WF S) : ∀ m n X, muA S X + m = 31 → m + 1 < n → GS S X → ∃ Y, (∀ τ v1, T_X3_stable_L58 n v1 (nI 1) (Ro τ 13 X) = T_X3_stable_L93 FU v1 0 (Ro τ 13 Y)) ∧ GS S Y ∧ ∀ l, l < S 12 0 → finA S Y l := by
  have h12 := W.nl
  intro m
  induction m using Nat.strongRecOn with
  | ind m ih =>
    intro n X h hn g
    obtain ⟨n, rfl⟩ := fu_one (by omega : 0 < n)
    obtain ⟨g', Y, b1, b2, b3, b4, -, b6, b7⟩ := gs_pass W (S 12 0) 0 0 X (by omega) g (by decide)
    have st : ∀ τ v1, T_X3_stable_L58 (n + 1) v1 (nI 1) (Ro τ 13 X) = T_X3_stable_L58 n v1 (nI g') (Ro τ 13 Y) := by
      intro τ v1
      conv => lhs; unfold T_X3_stable_L58
      rw [c0, if_neg (by decide), b1 τ _ FU v1 (FU_gt (by omega))]
    by_cases e : g' = 0
    · obtain ⟨y1, y2⟩ := b6 e
      obtain ⟨n, rfl⟩ := fu_one (by omega : 0 < n)
      refine ⟨Y, fun τ v1 => ?_, b2, fun l hl => by rw [y1]; exact y2 l (Nat.zero_le _) hl⟩
      rw [st, e]
      unfold T_X3_stable_L58
      rw [c0, if_pos (by trivial)]
    · have e1 : g' = 1 := by omega
      have hmu := mu_le (X := Y) W
      have hlt : muA S X < muA S Y := by
        rcases b7 e1 with y | y
        · omega
        · exact y
      obtain ⟨Z, z1, z2, z3⟩ := ih (31 - muA S Y) (by omega) n Y (by omega) (by omega) b2
      exact ⟨Z, fun τ v1 => by rw [st, e1]; exact z1 τ v1, z2, z3⟩
theorem x3_whoL2 {i : Nat} (hi : i < 9) (h11 : X 11 0 ≤ 6) (hk : ∀ b, b < X 11 0 → X 33 b ≤ 9) : ∀ r b n, b + r = X 11 0 → r < n → T_X3_stable_L93 n (nI i) (nI b) (Ro τ 13 X) = some (nI (kN (fsB (fun b => decide (X 33 b = i)) r b)), Ro τ 13 X) := by
  intro r
  induction r with
  | zero =>
    intro b n h hn
    obtain ⟨n, rfl⟩ := fu_one hn
    unfold T_X3_stable_L93
    rw [ro_gf, if_pos (by rw [q_le (by omega) (by omega)]; omega)]
    rfl
  | succ r ih =>
    intro b n h hn
    obtain ⟨n, rfl⟩ := fu_one (by omega : 0 < n)
    have := hk b (by omega)
    unfold T_X3_stable_L93 fsB
    rw [ro_gf, if_neg (by rw [q_le (by omega) (by omega)]; omega), ro_ld (by omega) (by omega), i_eq (by omega) (by omega), c1, nI_add]
    simp only [e_vl]
    by_cases e : X 33 b = i
    · rw [if_pos e, if_pos (decide_eq_true e), kN_ne (by omega)]
    · rw [if_neg e, if_neg (show ¬ decide (X 33 b = i) = true by simpa using e)]
      exact ih (b + 1) n (by omega) (by omega)
theorem x3_st32 {v1 : Int32} : ∀ r k n X, k + r = 5 → r < n → ∃ Y, (∀ τ, T_X3_stable_L16 n v1 (nI k) (Ro τ 13 X) = T_X3_stable_L36 FU v1 0 (Ro τ 13 Y)) ∧ (∀ f i, f ≠ 32 → Y f i = X f i) ∧ (∀ j, j < k → Y 32 j = X 32 j) ∧ ∀ j, k ≤ j → j < 5 → Y 32 j = 0 := by
  intro r
  induction r with
  | zero =>
    intro k n X h hn
    obtain ⟨n, rfl⟩ := fu_one hn
    refine ⟨X, fun τ => ?_, fun _ _ _ => rfl, fun _ _ => rfl, fun j h1 h2 => by omega⟩
    unfold T_X3_stable_L16
    rw [c5, if_pos (by rw [q_le (by omega) (by omega)]; omega)]
  | succ r ih =>
    intro k n X h hn
    obtain ⟨n, rfl⟩ := fu_one (by omega : 0 < n)
    obtain ⟨Y, i1, i2, i3, i4⟩ := ih (k + 1) n (up X 32 k 0) (by omega) (by omega)
    refine ⟨Y, fun τ => ?_, fun f i q => (i2 f i q).trans (up_ne _ (fun z => q z.1)), fun j hj => ?_, fun j h1 h2 => ?_⟩
    · unfold T_X3_stable_L16
      rw [c5, if_neg (by rw [q_le (by omega) (by omega)]; omega), c0, ro_sd (by omega) (by omega), e_vl, c1, nI_add, i1 τ, c0]
    · rw [i3 j (by omega), up_ne _ (by omega)]
    · by_cases e : j = k
      · rw [i3 j (by omega), e, up_at]
      · exact i4 j (by omega) h2
theorem x3_st33 {v1 : Int32} : ∀ r k n X, k + r = 6 → r < n → ∃ Y, (∀ τ, T_X3_stable_L36 n v1 (nI k) (Ro τ 13 X) = T_X3_stable_L58 FU v1 1 (Ro τ 13 Y)) ∧ (∀ f i, f ≠ 33 → Y f i = X f i) ∧ (∀ j, j < k → Y 33 j = X 33 j) ∧ ∀ j, k ≤ j → j < 6 → Y 33 j = 9 := by
  intro r
  induction r with
  | zero =>
    intro k n X h hn
    obtain ⟨n, rfl⟩ := fu_one hn
    refine ⟨X, fun τ => ?_, fun _ _ _ => rfl, fun _ _ => rfl, fun j h1 h2 => by omega⟩
    unfold T_X3_stable_L36
    rw [c6, if_pos (by rw [q_le (by omega) (by omega)]; omega)]
  | succ r ih =>
    intro k n X h hn
    obtain ⟨n, rfl⟩ := fu_one (by omega : 0 < n)
    obtain ⟨Y, i1, i2, i3, i4⟩ := ih (k + 1) n (up X 33 k 9) (by omega) (by omega)
    refine ⟨Y, fun τ => ?_, fun f i q => (i2 f i q).trans (up_ne _ (fun z => q z.1)), fun j hj => ?_, fun j h1 h2 => ?_⟩
    · unfold T_X3_stable_L36
      rw [c6, if_neg (by rw [q_le (by omega) (by omega)]; omega), c9, ro_sd (by omega) (by omega), e_vl, c1, nI_add, i1 τ, c1]
    · rw [i3 j (by omega), up_ne _ (by omega)]
    · by_cases e : j = k
      · rw [i3 j (by omega), e, up_at]
      · exact i4 j (by omega) h2
theorem ok_stable (J : Inv G P) (a0 : Int32) : OKm G P (T_X2_stable a0) (T_X3_stable a0) := by
  have K := J.tk
  have W := J.wf
  have h12 := W.nl
  have h11 := W.nb
  rcases chk_bearer J a0 with ⟨l, hl, rfl, e1, e2⟩ | ⟨e1, e2⟩
  · obtain ⟨Y1, y1, y2, -, y4⟩ := x3_st32 (v1 := nI l) 5 0 FU (G 13) rfl (FU_gt (by decide))
    obtain ⟨Y2, z1, z2, -, z4⟩ := x3_st33 (v1 := nI l) 6 0 FU Y1 rfl (FU_gt (by decide))
    have q32 : ∀ j, j < 5 → Y2 32 j = 0 := fun j hj => (z2 32 j (by decide)).trans (y4 j (Nat.zero_le _) hj)
    have nas : ∀ l b, l < G 13 12 0 → ¬ asd Y2 l b := fun l b hl q => by
      have q2 : Y2 32 l / 2 ^ b % 2 = 1 := q
      rw [q32 l (by omega), Nat.zero_div] at q2
      omega
    have g0 : GS (G 13) Y2 := ⟨fun f i h h2 => (z2 f i h2).trans (y2 f i h), fun l hl => by rw [q32 l (by omega)]; decide, fun b hb => Or.inl (z4 b (Nat.zero_le _) (by omega)), fun l hl b b' hb hb' ha => absurd ha (nas l b hl), fun b hb h9 l hl => nas l b hl, fun b hb h9 => absurd (z4 b (Nat.zero_le _) (by omega)) h9, fun b b' hb hb' he h9 => absurd (z4 b (Nat.zero_le _) (by omega)) h9⟩
    have hmu := mu_le (X := Y2) W
    obtain ⟨F, f1, f2, f3⟩ := gs_all W (31 - muA (G 13) Y2) FU Y2 (by omega) (FU_gt (by omega)) g0
    have f11 : F 11 0 = G 13 11 0 := f2.1 _ _ (by decide) (by decide)
    have rk := rk_bound (v := G 13 6) (n := G 13 12 0) hl
    have kr : KR 60 (G 13) F := ⟨fun f i q => f2.1 f i (by have := q.2.1; omega) (by have := q.2.1; omega), ⟨fun g j q => f2.1 g j (by unfold NS at q; omega) (by unfold NS at q; omega), fun j _ => f2.1 _ _ (by decide) (by decide), by rw [f2.1 _ _ (by decide) (by decide)]; exact K.2.2⟩⟩
    refine ok_q2 (r := nI (kN (bagR (G 13) (rkv (G 13 6) (G 13 12 0) l)))) (C := G 2) J ?_ (fun τ => ⟨F, ?_, kr⟩)
    · unfold T_X2_stable
      simp only [e1, e_cV, d0, eq10, if_false]
      rw [Ro_sw, x0_rkL W J.sb hl]
      simp only [e_cV]
      rw [x0_bagR W J.sb (by omega)]
      rfl
    · unfold T_X3_stable
      simp only [e2, e_cV, d0, eq10, if_false]
      rw [y1, c0, z1, c1, f1, c0, x3_whoL2 (by omega) (by omega) (fun b hb => by have := f2.2.2.1 b (by omega); omega) (F 11 0) 0 FU (by omega) (FU_gt (by omega)), f11]
      have : fsB (fun b => decide (F 33 b = l)) (G 13 11 0) 0 = bagR (G 13) (rkv (G 13 6) (G 13 12 0) l) := by
        unfold bagR
        refine fsB_congr _ _ (fun b _ hb => ?_)
        have := gs_end W f2 f3 (b := b) (by omega) hl
        exact decide_eq_decide.mpr this
      rw [this]
  · refine ok_ref 1 J (by decide) ?_ (fun τ => ?_)
    · unfold T_X2_stable; simp (disch := omega) only [e1, cI_id, Nat.reduceEqDiff, Nat.reduceLeDiff, reduceIte, eq_self, ng1, ng2, ng3, ng4, ng6, rx_gf, rx_ld, rx_pf, rx_sd, m9, NN_lt, lt_NN, NN_le, le_NN, if_true, if_false, n_mod, q_dec, ro_gf, ro_ld, ro_sd, ro_pf, e_vl, e_cV, e_cI, nI_add, q_mul, q_sub, q_rem, q_div, q_eq, q_lt, q_le, c0, c1, c2, c3, c4, c5, c6, c7, c8, c9, c10, c99]
    · unfold T_X3_stable; simp (disch := omega) only [e2, cI_id, Nat.reduceEqDiff, Nat.reduceLeDiff, reduceIte, eq_self, ng1, ng2, ng3, ng4, ng6, rx_gf, rx_ld, rx_pf, rx_sd, m9, NN_lt, lt_NN, NN_le, le_NN, if_true, if_false, n_mod, q_dec, ro_gf, ro_ld, ro_sd, ro_pf, e_vl, e_cV, e_cI, nI_add, q_mul, q_sub, q_rem, q_div, q_eq, q_lt, q_le, c0, c1, c2, c3, c4, c5, c6, c7, c8, c9, c10, c99]
end Sta
