/-! breathless; count -/
/-- the same street, as far as there is one -/
def Str (X Y : SS) : Prop := Y 11 0 = X 11 0 ∧ Y 12 0 = X 12 0 ∧ Y 13 0 = X 13 0 ∧ Y 14 0 = X 14 0 ∧ (∀ b, b < X 11 0 → Y 1 b = X 1 b ∧ Y 2 b = X 2 b ∧ Y 3 b = X 3 b ∧ Y 4 b = X 4 b ∧ Y 5 b = X 5 b) ∧ (∀ l, l < X 12 0 → Y 6 l = X 6 l ∧ Y 7 l = X 7 l ∧ Y 8 l = X 8 l ∧ Y 9 l = X 9 l ∧ Y 10 l = X 10 l)
/-- a street of the class for X -/
def canC (X : SS) : SS := fun f i => if f = 0 then X 11 0 else if f = 7 then X 12 0 else if f = 13 then X 14 0 else if f = 14 then X 13 0 else if f = 4 then kN (X 4 i) else if f = 6 then kN (who X i) else if f ≤ 5 then X f i else if f = 11 then kN (X 9 i) else if f ≤ 12 then X (f - 2) i else if f = 18 then kN 9 else 0
def bst (N : Nat → Nat) : Nat → Nat → Nat → Nat
  | 0, _, b => b
  | r + 1, l, b => bst N r (l + 1) (if N l < 61 ∧ (b = 4294967287 ∨ N l < N b) then l else b)
theorem bst_stay (N : Nat → Nat) {b : Nat} (hb : b ≠ 4294967287) : ∀ r l, (∀ i, l ≤ i → i < l + r → N b ≤ N i) → bst N r l b = b
  | 0, l, _ => rfl
  | r + 1, l, h => by
    unfold bst
    have h1 := h l (Nat.le_refl _) (by omega)
    rw [if_neg (by omega)]
    exact bst_stay N hb r (l + 1) (fun i a b => h i (by omega) (by omega))
theorem bst_first (N : Nat → Nat) {m l0 : Nat} (h0 : N l0 = m) (hm : m < 61) : ∀ r l b, l ≤ l0 → l0 < l + r → l + r < 1000 → (∀ i, l ≤ i → i < l + r → m ≤ N i) → (∀ i, l ≤ i → i < l0 → m < N i) → (b = 4294967287 ∨ m < N b) → bst N r l b = l0
  | 0, l, b, h1, h2, _, _, _, _ => by omega
  | r + 1, l, b, h1, h2, h2', h3, h4, h5 => by
    unfold bst
    by_cases e : l = l0
    · rw [e, if_pos (by omega)]
      exact bst_stay N (by omega) r (l0 + 1) (fun i a b => by rw [h0]; exact h3 i (by omega) (by omega))
    · refine bst_first N h0 hm r (l + 1) _ (by omega) (by omega) (by omega) (fun i a b => h3 i (by omega) (by omega)) (fun i a b => h4 i (by omega) b) ?_
      have := h4 l (Nat.le_refl _) (by omega)
      split
      · exact Or.inr this
      · exact h5
theorem bst_none (N : Nat → Nat) : ∀ r l b, (∀ i, l ≤ i → i < l + r → N i = 61) → bst N r l b = b
  | 0, l, b, _ => rfl
  | r + 1, l, b, h => by
    unfold bst
    have := h l (Nat.le_refl _) (by omega)
    rw [if_neg (by omega)]
    exact bst_none N r (l + 1) b (fun i a b => h i (by omega) (by omega))
theorem bst_congr {N M : Nat → Nat} {B : Nat} (h : ∀ i, i < B → N i = M i) : ∀ r l b, l + r ≤ B → (b = 4294967287 ∨ b < B) → bst N r l b = bst M r l b
  | 0, l, b, _, _ => rfl
  | r + 1, l, b, h1, h2 => by
    unfold bst
    have e : (if N l < 61 ∧ (b = 4294967287 ∨ N l < N b) then l else b) = (if M l < 61 ∧ (b = 4294967287 ∨ M l < M b) then l else b) := by
      rw [h l (by omega)]
      rcases h2 with rfl | h2
      · by_cases q : M l < 61
        · rw [if_pos ⟨q, Or.inl rfl⟩, if_pos ⟨q, Or.inl rfl⟩]
        · rw [if_neg (fun z => q z.1), if_neg (fun z => q z.1)]
      · rw [h b h2]
    rw [e]
    refine bst_congr h r (l + 1) _ (by omega) ?_
    split
    · exact Or.inr (by omega)
    · exact h2
/-- who is out of breath first, 9 nobody -/
def foB (X : SS) : Nat → Nat → Nat
  | 0, _ => 9
  | r + 1, l => if X 10 l = 0 then l else foB X r (l + 1)
theorem foB_spec (X : SS) : ∀ r l, l + r ≤ 5 → (foB X r l = 9 ∧ ∀ k, l ≤ k → k < l + r → X 10 k ≠ 0) ∨ (l ≤ foB X r l ∧ foB X r l < l + r ∧ X 10 (foB X r l) = 0 ∧ ∀ k, l ≤ k → k < foB X r l → X 10 k ≠ 0)
  | 0, l, _ => Or.inl ⟨rfl, fun k h1 h2 => by omega⟩
  | r + 1, l, h5 => by
    unfold foB
    by_cases h : X 10 l = 0
    · rw [if_pos h]
      exact Or.inr ⟨Nat.le_refl _, by omega, h, fun k h1 h2 => by omega⟩
    · rw [if_neg h]
      rcases foB_spec X r (l + 1) (by omega) with ⟨h1, h2⟩ | ⟨h1, h2, h3, h4⟩
      · refine Or.inl ⟨h1, fun k g1 g2 => ?_⟩
        by_cases e : k = l
        · rw [e]; exact h
        · exact h2 k (by omega) (by omega)
      · refine Or.inr ⟨by omega, by omega, h3, fun k g1 g2 => ?_⟩
        by_cases e : k = l
        · rw [e]; exact h
        · exact h4 k (by omega) g2
def jnB : Nat → SS → Nat
  | 0, _ => 4294967287
  | r + 1, X => if foB X (X 12 0) 0 = 9 then jnB r (hourS X 9) else foB X (X 12 0) 0
section Bre
variable {G : GG} {P : Nat → Nat} {C A S F X Y Z D S0 : SS} {τ : TT} {a : Nat}
theorem Str.of (h : Eqs X Y) (W : WF X) : Str X Y := by
  have h12 := W.nl
  have h11 := W.nb
  exact ⟨h 11 0 (inr (by decide) (by omega)), h 12 0 (inr (by decide) (by omega)), h 13 0 (inr (by decide) (by omega)), h 14 0 (inr (by decide) (by omega)), fun b hb => ⟨h 1 b (inr (by decide) (by omega)), h 2 b (inr (by decide) (by omega)), h 3 b (inr (by decide) (by omega)), h 4 b (inr (by decide) (by omega)), h 5 b (inr (by decide) (by omega))⟩, fun l hl => ⟨h 6 l (inr (by decide) (by omega)), h 7 l (inr (by decide) (by omega)), h 8 l (inr (by decide) (by omega)), h 9 l (inr (by decide) (by omega)), h 10 l (inr (by decide) (by omega))⟩⟩
theorem Str.who (h : Str X Y) (b : Nat) : who Y b = who X b := by
  unfold Jvm.Pilot.@@N@@.who
  rw [h.2.1]
  exact (whoG_congr2 _ _ (fun i _ h2 => ((h.2.2.2.2.2 i (by omega)).2.2.2.1).symm)).symm
theorem Str.sb (h : Str X Y) (R : SB C X) : SB C Y := by
  obtain ⟨h1, h2, h3, h4, h5, h6⟩ := h
  have hw := Str.who ⟨h1, h2, h3, h4, h5, h6⟩
  refine ⟨⟨by rw [h1]; exact R.1.1, by rw [h2]; exact R.1.2.1, by rw [h4]; exact R.1.2.2.1, by rw [h3]; exact R.1.2.2.2⟩, fun b hb => ?_, fun l hl => ?_⟩
  · rw [h1] at hb
    have q := h5 b hb
    rw [q.1, q.2.1, q.2.2.1, q.2.2.2.1, q.2.2.2.2, hw]
    exact R.bag hb
  · rw [h2] at hl
    have q := h6 l hl
    rw [q.1, q.2.1, q.2.2.1, q.2.2.2.1, q.2.2.2.2]
    exact R.bea hl
theorem can_sb : SB (canC X) X := ⟨⟨rfl, rfl, rfl, rfl⟩, fun b hb => ⟨rfl, rfl, rfl, rfl, rfl, rfl⟩, fun l hl => ⟨rfl, rfl, rfl, rfl, rfl⟩⟩
theorem can_t0 : T0 (canC X) := ⟨⟨fun i hi => ⟨rfl, rfl⟩, rfl⟩, rfl⟩
theorem kN_inj {x y : Nat} (hx : x ≤ 9) (hy : y ≤ 9) (h : kN x = kN y) : x = y := (kN_eq hx hy).mp h
theorem Str.hour (h : Str X Y) (WX : WF X) (WY : WF Y) (hh : X 13 0 < 900000) : Str (hourS X 9) (hourS Y 9) := by
  have e13 := h.2.2.1
  obtain ⟨C1, a1, a2, a3⟩ := x0_hour1 (τ := (fun _ _ _ => 0, fun _ => 0)) (o := 2) (by decide : 9 ≤ 9) WX (by omega) (can_t0.sc can_sb) can_t0.2
  obtain ⟨C2, b1, b2, b3⟩ := x0_hour1 (τ := (fun _ _ _ => 0, fun _ => 0)) (o := 2) (by decide : 9 ≤ 9) WY (by omega) (can_t0.sc (h.sb can_sb)) can_t0.2
  have e : Ro (fun _ _ _ => 0, fun _ => 0) 2 C1 = Ro (fun _ _ _ => 0, fun _ => 0) 2 C2 := Option.some.inj (a1.symm.trans b1)
  have ee : ∀ f i, nI (C1 f i) = nI (C2 f i) := by
    intro f i
    have := congrFun (congrFun (congrFun (congrArg Prod.fst e) 2) f) i
    change nI (wo _ 2 C1 2 f i) = nI (wo _ 2 C2 2 f i) at this
    rw [wo_at, wo_at] at this
    exact this
  have W1 := WX.hour 9
  have W2 := WY.hour 9
  have n1 := W1.nb
  have n2 := W1.nl
  have m1 := W2.nb
  have m2 := W2.nl
  have R1 := a2.sb
  have R2 := b2.sb
  have q11 : hourS Y 9 11 0 = hourS X 9 11 0 := by
    have := ee 0 0
    rw [R1.1.1, R2.1.1, q_eq (by omega) (by omega)] at this
    exact this.symm
  have q12 : hourS Y 9 12 0 = hourS X 9 12 0 := by
    have := ee 7 0
    rw [R1.1.2.1, R2.1.2.1, q_eq (by omega) (by omega)] at this
    exact this.symm
  refine ⟨q11, q12, ?_, ?_, fun b hb => ?_, fun l hl => ?_⟩
  · rw [hourS_13, hourS_13, e13]
  · have := ee 13 0
    have k1 := W1.col
    have k2 := W2.col
    rw [R1.1.2.2.1, R2.1.2.2.1, q_eq (by omega) (by omega)] at this
    exact this.symm
  · have r1 := R1.bag hb
    have r2 := R2.bag (b := b) (by omega)
    have w1 := W1.bag hb
    have w2 := W2.bag (b := b) (by omega)
    have x1 := ee 1 b
    have x2 := ee 2 b
    have x3 := ee 3 b
    have x4 := ee 4 b
    have x5 := ee 5 b
    rw [r1.1, r2.1, q_eq (by omega) (by omega)] at x1
    rw [r1.2.1, r2.2.1, q_eq (by omega) (by omega)] at x2
    rw [r1.2.2.1, r2.2.2.1, q_eq (by omega) (by omega)] at x3
    rw [r1.2.2.2.1, r2.2.2.2.1, q_eq (kN_lt (by omega)) (kN_lt (by omega))] at x4
    rw [r1.2.2.2.2.1, r2.2.2.2.2.1, q_eq (by omega) (by omega)] at x5
    exact ⟨x1.symm, x2.symm, x3.symm, (kN_inj (by omega) (by omega) x4).symm, x5.symm⟩
  · have r1 := R1.bea hl
    have r2 := R2.bea (l := l) (by omega)
    have w1 := W1.bea hl
    have w2 := W2.bea (l := l) (by omega)
    have x1 := ee 8 l
    have x2 := ee 9 l
    have x3 := ee 10 l
    have x4 := ee 11 l
    have x5 := ee 12 l
    rw [r1.1, r2.1, q_eq (by omega) (by omega)] at x1
    rw [r1.2.1, r2.2.1, q_eq (by omega) (by omega)] at x2
    rw [r1.2.2.1, r2.2.2.1, q_eq (by omega) (by omega)] at x3
    rw [r1.2.2.2.1, r2.2.2.2.1, q_eq (kN_lt (by omega)) (kN_lt (by omega))] at x4
    rw [r1.2.2.2.2, r2.2.2.2.2, q_eq (by omega) (by omega)] at x5
    exact ⟨x1.symm, x2.symm, x3.symm, (kN_inj (by omega) (by omega) x4).symm, x5.symm⟩
theorem firstN_str (p : SS → Bool) (hp : ∀ X Y, Str X Y → WF X → p Y = p X) : ∀ r k X Y, Str X Y → WF X → WF Y → X 13 0 + r < 900000 → firstN p r k Y = firstN p r k X
  | 0, k, X, Y, _, _, _, _ => rfl
  | r + 1, k, X, Y, h, WX, WY, hh => by
    unfold firstN
    rw [hp X Y h WX, firstN_str p hp r (k + 1) (hourS X 9) (hourS Y 9) (h.hour WX WY (by omega)) (WX.hour 9) (WY.hour 9) (by rw [hourS_13]; omega)]
/-- the first hour behind which l is out of breath -/
noncomputable def bAt (Y : SS) (l : Nat) : Nat := firstN (fun X => decide (X 10 l = 0)) 61 0 (kpS 2 Y)
theorem bAt_le {l : Nat} : bAt Y l ≤ 61 := by
  rcases firstN_le (fun X => decide (X 10 l = 0)) 61 0 (kpS 2 Y) (by omega) with h | h
  · unfold bAt; omega
  · unfold bAt; omega
theorem ref_outOf (K : TK Y) {l : Nat} (hl : l < Y 12 0) : ∃ F, (∀ τ, T_X3_outOf (nI l) (Ro τ 13 Y) = some (nI (kF (bAt Y l)), Ro τ 13 F)) ∧ KR 120 Y F := by
  have K2 := K.keep (w := 2)
  have h13 := K2.2.1
  have e12 : kpS 2 Y 12 0 = Y 12 0 := kpS_oth (by decide)
  obtain ⟨F, f2, f3⟩ := x3_fB (l := l) (m := 60) (S0 := kpS 2 Y) rfl 61 0 (kpS 2 Y) FU (OS.keep K.2.2) K2.1 (by omega) (by omega) rfl (FU_gt (by decide))
  refine ⟨_, fun τ => ?_, KR.think K.2.2 f3⟩
  unfold T_X3_outOf
  rw [x3_thinks]
  simp only [e_cV]
  rw [c9, m9, c0]
  exact f2 τ
theorem bAt_kr (K : TK S) (k : KR a S Y) {l : Nat} (hl : l < S 12 0) : bAt Y l = bAt S l := by
  have KY := k.tk K
  have K2 := K.keep (w := 2)
  have KY2 := KY.keep (w := 2)
  have h13 := K2.2.1
  have h12 : kpS 2 S 12 0 = S 12 0 := kpS_oth (by decide)
  have e : Eqs (kpS 2 S) (kpS 2 Y) := fun f i q => by
    have hq := q.2.1
    rw [kpS_oth (by omega), kpS_oth (by omega)]
    exact k.1 f i q
  have key : ∀ r k X Y, Str X Y → WF X → WF Y → l < X 12 0 → X 13 0 + r < 900000 → firstN (fun X => decide (X 10 l = 0)) r k Y = firstN (fun X => decide (X 10 l = 0)) r k X := by
    intro r
    induction r with
    | zero => intros; rfl
    | succ r ih =>
      intro k X Y h WX WY hl hh
      unfold firstN
      have : decide (Y 10 l = 0) = decide (X 10 l = 0) := by rw [(h.2.2.2.2.2 l hl).2.2.2.2]
      show (if decide (Y 10 l = 0) = true then _ else _) = if decide (X 10 l = 0) = true then _ else _
      rw [this, ih (k + 1) (hourS X 9) (hourS Y 9) (h.hour WX WY (by omega)) (WX.hour 9) (WY.hour 9) (by rw [hourS_keeps (by decide)]; exact hl) (by rw [hourS_13]; omega)]
  exact key 61 0 (kpS 2 S) (kpS 2 Y) (Str.of e K2.1) K2.1 KY2.1 (by omega) (by omega)
theorem breathR_loop (K : TK S) : ∀ r l b n Y, l + r = S 12 0 → r < n → KR 120 S Y → (b = 4294967287 ∨ (b < S 12 0 ∧ bAt S b < 61)) → ∃ F, (∀ τ, T_X3_breathless_L34 n (nI b) (nI l) (Ro τ 13 Y) = some (nI (bst (bAt S) r l b), Ro τ 13 F)) ∧ KR 120 S F := by
  have h12 := K.1.nl
  intro r
  induction r with
  | zero =>
    intro l b n Y h hn k hb
    obtain ⟨n, rfl⟩ := fu_one hn
    have e12 : Y 12 0 = S 12 0 := k.1 12 0 (inr (by decide) (by omega))
    refine ⟨Y, fun τ => ?_, k⟩
    unfold T_X3_breathless_L34
    rw [ro_gf, e12, if_pos (by rw [q_le (by omega) (by omega)]; omega)]
    rfl
  | succ r ih =>
    intro l b n Y h hn k hb
    obtain ⟨n, rfl⟩ := fu_one (by omega : 0 < n)
    have e12 : Y 12 0 = S 12 0 := k.1 12 0 (inr (by decide) (by omega))
    have KY := k.tk K
    obtain ⟨F1, f1, g1⟩ := ref_outOf KY (l := l) (by omega)
    have k1 := k.trans g1
    have b1 : bAt Y l = bAt S l := bAt_kr K k (by omega)
    rw [b1] at f1
    have hle := bAt_le (Y := S) (l := l)
    unfold T_X3_breathless_L34 bst
    by_cases e61 : bAt S l = 61
    · obtain ⟨F, i1, i2⟩ := ih (l + 1) b n F1 (by omega) (by omega) k1 hb
      refine ⟨F, fun τ => ?_, i2⟩
      rw [ro_gf, e12, if_neg (by rw [q_le (by omega) (by omega)]; omega), f1, if_neg (show ¬ (bAt S l < 61 ∧ (b = 4294967287 ∨ bAt S l < bAt S b)) by omega)]
      simp only [e_cI]
      rw [c0, if_pos ((kF_neg (by omega)).mpr e61), c1, nI_add, e_vl]
      exact i1 τ
    · rcases hb with rfl | ⟨hb1, hb2⟩
      · obtain ⟨F, i1, i2⟩ := ih (l + 1) l n F1 (by omega) (by omega) k1 (Or.inr ⟨by omega, by omega⟩)
        refine ⟨F, fun τ => ?_, i2⟩
        rw [ro_gf, e12, if_neg (by rw [q_le (by omega) (by omega)]; omega), f1, if_pos (show bAt S l < 61 ∧ (4294967287 = 4294967287 ∨ bAt S l < bAt S 4294967287) from ⟨by omega, Or.inl rfl⟩)]
        simp only [e_cI]
        rw [c0, if_neg (fun q => e61 ((kF_neg (by omega)).mp q)), if_pos NN_neg, c1, nI_add, e_vl]
        exact i1 τ
      · obtain ⟨F2, f2, g2⟩ := ref_outOf (k1.tk K) (l := l) (by rw [k1.1 12 0 (inr (by decide) (by omega))]; omega)
        have k2 := k1.trans g2
        rw [bAt_kr K k1 (by omega)] at f2
        obtain ⟨F3, f3, g3⟩ := ref_outOf (k2.tk K) (l := b) (by rw [k2.1 12 0 (inr (by decide) (by omega))]; omega)
        have k3 := k2.trans g3
        rw [bAt_kr K k2 (by omega)] at f3
        by_cases e : bAt S l < bAt S b
        · obtain ⟨F, i1, i2⟩ := ih (l + 1) l n F3 (by omega) (by omega) k3 (Or.inr ⟨by omega, by omega⟩)
          refine ⟨F, fun τ => ?_, i2⟩
          rw [ro_gf, e12, if_neg (by rw [q_le (by omega) (by omega)]; omega), f1, if_pos (show bAt S l < 61 ∧ (b = 4294967287 ∨ bAt S l < bAt S b) from ⟨by omega, Or.inr e⟩)]
          simp only [e_cI]
          rw [c0, if_neg (fun q => e61 ((kF_neg (by omega)).mp q)), if_neg (by rw [q_lt (by omega) (by omega)]; omega), f2]
          simp only [e_cI]
          rw [f3]
          simp only [e_cI]
          rw [kF_ne (show bAt S l < 61 by omega), kF_ne hb2, if_neg (by rw [q_le (by omega) (by omega)]; omega), c1, nI_add, e_vl]
          exact i1 τ
        · obtain ⟨F, i1, i2⟩ := ih (l + 1) b n F3 (by omega) (by omega) k3 (Or.inr ⟨hb1, hb2⟩)
          refine ⟨F, fun τ => ?_, i2⟩
          rw [ro_gf, e12, if_neg (by rw [q_le (by omega) (by omega)]; omega), f1, if_neg (show ¬ (bAt S l < 61 ∧ (b = 4294967287 ∨ bAt S l < bAt S b)) by omega)]
          simp only [e_cI]
          rw [c0, if_neg (fun q => e61 ((kF_neg (by omega)).mp q)), if_neg (by rw [q_lt (by omega) (by omega)]; omega), f2]
          simp only [e_cI]
          rw [f3]
          simp only [e_cI]
          rw [kF_ne (show bAt S l < 61 by omega), kF_ne hb2, if_pos (by rw [q_le (by omega) (by omega)]; omega), c1, nI_add, e_vl]
          exact i1 τ
theorem x2_foB (W : WF X) (R : SB C X) : ∀ r l n, l + r = X 12 0 → r < n → T_X2_firstOutOfBreath_L2 (Ro τ 2 C) n (nI l) = some (nI (kN (foB X r l))) := by
  have h12 := W.nl
  have r7 := R.1.2.1
  intro r
  induction r with
  | zero =>
    intro l n h hn
    obtain ⟨n, rfl⟩ := fu_one hn
    unfold T_X2_firstOutOfBreath_L2
    rw [ro_gf, r7, if_pos (by rw [q_le (by omega) (by omega)]; omega)]
    rfl
  | succ r ih =>
    intro l n h hn
    obtain ⟨n, rfl⟩ := fu_one (by omega : 0 < n)
    have w := W.bea (l := l) (by omega)
    unfold T_X2_firstOutOfBreath_L2 foB
    rw [ro_gf, r7, if_neg (by rw [q_le (by omega) (by omega)]; omega), ro_ld (by omega) (by omega), (R.bea (l := l) (by omega)).2.2.2.2, c0, i_eq (by omega) (by omega)]
    by_cases e : X 10 l = 0
    · rw [if_pos e, if_pos e, kN_ne (by omega)]
    · rw [if_neg e, if_neg e, c1, nI_add, e_vl]
      exact ih (l + 1) n (by omega) (by omega)
theorem x2_jnB : ∀ r k X C n, SC D C X → C 18 0 = kN 9 → WF X → X 13 0 + r ≤ 5000 → k + r = 61 → r < n → ∃ C', T_X2_breathless_L28 n (-nI 1) (nI k) (Ro τ 2 C) = some (nI (jnB r X), Ro τ 2 C') := by
  intro r
  induction r with
  | zero =>
    intro k X C n R ha W hh h hn
    obtain ⟨n, rfl⟩ := fu_one hn
    refine ⟨C, ?_⟩
    unfold T_X2_breathless_L28
    rw [c60, if_pos (by rw [q_lt (by omega) (by omega)]; omega), c9, m9]
    rfl
  | succ r ih =>
    intro k X C n R ha W hh h hn
    obtain ⟨n, rfl⟩ := fu_one (by omega : 0 < n)
    have h12 := W.nl
    obtain ⟨C1, g1, g2, g3⟩ := x0_hour1 (τ := τ) (o := 2) (by decide : 9 ≤ 9) W (by omega) R ha
    obtain ⟨C', i1⟩ := ih (k + 1) (hourS X 9) C1 n g2 g3 (W.hour 9) (by rw [hourS_13]; omega) (by omega) (by omega)
    have fo := x2_foB (τ := τ) W R.sb (X 12 0) 0 FU (by omega) (FU_gt (by omega))
    have sp := foB_spec X (X 12 0) 0 (by omega)
    unfold T_X2_breathless_L28 T_X2_breathless_j67 T_X2_firstOutOfBreath jnB
    by_cases e : foB X (X 12 0) 0 = 9
    · refine ⟨C', ?_⟩
      rw [c60, if_neg (by rw [q_lt (by omega) (by omega)]; omega), c1, if_pos (by trivial), c0, fo, e, if_pos (by trivial)]
      simp only [e_cV]
      rw [if_pos (show nI (kN 9) < nI 0 from NN_neg), g1]
      simp only [e_cV]
      rw [nI_add, e_vl]
      exact i1
    · refine ⟨C, ?_⟩
      rw [c60, if_neg (by rw [q_lt (by omega) (by omega)]; omega), c1, if_pos (by trivial), c0, fo, if_neg e]
      simp only [e_cV]
      rw [kN_ne e, if_neg (by rw [q_lt (by omega) (by omega)]; omega)]
theorem jn_bst : ∀ r k X, WF X → k + r ≤ 61 → jnB r X = bst (fun l => firstN (fun X => decide (X 10 l = 0)) r k X) (X 12 0) 0 4294967287
  | 0, k, X, W, hk => (bst_none _ _ _ _ (fun i _ _ => rfl)).symm
  | r + 1, k, X, W, hk => by
    have h12 := W.nl
    have sp := foB_spec X (X 12 0) 0 (by omega)
    show (if foB X (X 12 0) 0 = 9 then jnB r (hourS X 9) else foB X (X 12 0) 0) = _
    by_cases e : foB X (X 12 0) 0 = 9
    · rw [if_pos e, jn_bst r (k + 1) (hourS X 9) (W.hour 9) (by omega), hourS_keeps (by decide)]
      refine bst_congr (B := X 12 0) (fun i hi => ?_) _ _ _ (by omega) (Or.inl rfl)
      have hne : X 10 i ≠ 0 := by
        rcases sp with ⟨-, h2⟩ | ⟨h1, h2, -⟩
        · exact h2 i (Nat.zero_le _) (by omega)
        · omega
      show _ = if decide (X 10 i = 0) = true then k else _
      rw [if_neg (by simpa using hne)]
    · rw [if_neg e]
      rcases sp with ⟨h1, -⟩ | ⟨h1, h2, h3, h4⟩
      · exact absurd h1 e
      · refine (bst_first _ (m := k) ?_ (by omega) (X 12 0) 0 4294967287 (Nat.zero_le _) (by omega) (by omega) (fun i _ _ => ?_) (fun i _ hi => ?_) (Or.inl rfl)).symm
        · show (if decide (X 10 (foB X (X 12 0) 0) = 0) = true then k else _) = k
          rw [if_pos (decide_eq_true h3)]
        · rcases firstN_le (fun X => decide (X 10 i = 0)) (r + 1) k X hk with q | q
          · show k ≤ firstN _ _ _ _; omega
          · exact q.1
        · have hne := h4 i (Nat.zero_le _) hi
          show k < (if decide (X 10 i = 0) = true then k else firstN (fun X => decide (X 10 i = 0)) r (k + 1) (hourS X 9))
          rw [if_neg (by simpa using hne)]
          rcases firstN_le (fun X => decide (X 10 i = 0)) r (k + 1) (hourS X 9) (by omega) with q | q
          · rw [q]; omega
          · omega
theorem ok_breathless (J : Inv G P) (a0 : Int32) : OKm G P (T_X2_breathless a0) (T_X3_breathless a0) := by
  have K := J.tk
  have h12 := K.1.nl
  by_cases em : a0 = -nI 1
  · subst em
    obtain ⟨C1, t1, t2⟩ := x2_think2 (G := G) (P := P) (G 2)
    have K2 := K.keep (w := 2)
    have e12 : kpS 2 (G 13) 12 0 = G 13 12 0 := kpS_oth (by decide)
    have R1 := t2.sc K2.1 (Eqs.keep.sb K.1 J.sb)
    have h13 := K2.2.1
    obtain ⟨C2, f1⟩ := x2_jnB (τ := (G, P)) 61 0 (kpS 2 (G 13)) C1 FU R1 t2.2.2.2.2.2 K2.1 (by omega) rfl (FU_gt (by decide))
    obtain ⟨F, f2, f3⟩ := breathR_loop K (G 13 12 0) 0 4294967287 FU (G 13) (by omega) (FU_gt (by omega)) (KR.refl K.2.2) (Or.inl rfl)
    refine ok_q2 (r := nI (jnB 61 (kpS 2 (G 13)))) (C := C2) J ?_ (fun τ => ⟨F, ?_, f3.mono (by decide)⟩)
    · unfold T_X2_breathless T_X2_breathless_j22
      rw [c1, if_pos (by trivial), t1]
      simp only [e_cV]
      rw [c0, f1]
    · unfold T_X3_breathless T_X3_breathless_j19
      rw [c1, if_pos (by trivial), c0, if_pos (show -nI 1 < nI 0 by decide), c9, m9, f2, jn_bst 61 0 (kpS 2 (G 13)) K2.1 (by omega), e12]
      rfl
  · rcases chk_bearer J a0 with ⟨l, hl, rfl, e1, e2⟩ | ⟨e1, e2⟩
    · obtain ⟨C1, t1, t2⟩ := x2_think2 (G := G) (P := P) (G 2)
      have K2 := K.keep (w := 2)
      have e12 : kpS 2 (G 13) 12 0 = G 13 12 0 := kpS_oth (by decide)
      have R1 := t2.sc K2.1 (Eqs.keep.sb K.1 J.sb)
      have h13 := K2.2.1
      obtain ⟨C2, f1⟩ := x2_fB (τ := (G, P)) (l := l) (s := 61) rfl 61 0 (kpS 2 (G 13)) C1 FU R1 t2.2.2.2.2.2 K2.1 (by omega) (by omega) rfl (FU_gt (by decide))
      obtain ⟨F, f2, f3⟩ := ref_outOf K hl
      refine ok_q2 (r := nI (kF (bAt (G 13) l))) (C := C2) J ?_ (fun τ => ⟨F, ?_, f3.mono (by decide)⟩)
      · unfold T_X2_breathless T_X2_breathless_j22
        rw [c1, if_neg em]
        simp only [e1, e_cV, d0, eq10, if_false]
        rw [t1]
        simp only [e_cV]
        exact f1
      · unfold T_X3_breathless T_X3_breathless_j19
        rw [c1, if_neg em]
        simp only [e2, e_cV, d0, eq10, if_false]
        rw [if_neg (by rw [q_lt (by omega) (by omega)]; omega), f2]
        rfl
    · refine ok_ref 1 J (by decide) ?_ (fun τ => ?_)
      · unfold T_X2_breathless
        rw [c1, if_neg em]
        simp only [e1, e_cV, d0, eq00, if_true, cI_id]
      · unfold T_X3_breathless
        rw [c1, if_neg em]
        simp only [e2, e_cV, d0, eq00, if_true, cI_id]
end Bre
