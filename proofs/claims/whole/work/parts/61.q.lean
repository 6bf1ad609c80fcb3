/-! sleep -/
theorem l0 : (0 : Int64) = lN 0 := rfl
theorem l1 : (1 : Int64) = lN 1 := rfl
theorem cmp0 {a b : Nat} (ha : a < 2 ^ 63) (hb : b < 2 ^ 63) : (lg_cmp (lN a) (lN b) = 0) ↔ a = b := by
  unfold lg_cmp
  by_cases h : lN a > lN b
  · rw [if_pos h]
    have := (pk_lLT hb ha).mp h
    exact ⟨fun q => absurd q (by decide), fun q => by omega⟩
  · rw [if_neg h]
    by_cases e : lN a = lN b
    · rw [if_pos e]
      exact ⟨fun _ => (pk_lEQ ha hb).mp e, fun _ => rfl⟩
    · rw [if_neg e]
      exact ⟨fun q => absurd q (by decide), fun q => absurd ((pk_lEQ ha hb).mpr q) e⟩
theorem cmp_ge {a : Nat} (ha : a < 2 ^ 63) (h1 : 1 ≤ a) : (0 : Int32) ≤ lg_cmp (lN a) 1 := by
  unfold lg_cmp
  by_cases h : lN a > 1
  · rw [if_pos h]; decide
  · rw [if_neg h, if_pos]
    · decide
    · have : ¬ (1 < a) := fun q => h ((pk_lLT (by decide) ha).mpr q)
      rw [show a = 1 by omega]; rfl
theorem nzl_ok {α : Type} {a : Nat} (ha : a < 2 ^ 63) (h1 : 1 ≤ a) {M : Option α} : nzl (lN a) M = M := by
  unfold nzl
  rw [if_neg]
  intro q
  have := (pk_lEQ ha (by decide : 0 < 2 ^ 63)).mp q
  omega
theorem gcd_step (a b : Nat) : Nat.gcd b (a % b) = Nat.gcd a b := by
  rw [Nat.gcd_comm a b, Nat.gcd_rec b a, Nat.gcd_comm]
theorem half_step {a b m : Nat} (hb : 0 < b) (hba : b ≤ a) (h : a * b < 2 ^ (m + 1)) : b * (a % b) < 2 ^ m := by
  have h1 : a % b < b := Nat.mod_lt _ hb
  have h2 : a % b + b ≤ a := by
    have := Nat.div_add_mod a b
    have q : 1 ≤ a / b := (Nat.le_div_iff_mul_le hb).mpr (by omega)
    have : b * 1 ≤ b * (a / b) := Nat.mul_le_mul_left b q
    omega
  have h3 : 2 * (a % b) ≤ a := by omega
  have h4 : b * (2 * (a % b)) ≤ b * a := Nat.mul_le_mul_left b h3
  have h5 : b * a = a * b := Nat.mul_comm _ _
  have h6 : b * (2 * (a % b)) = 2 * (b * (a % b)) := by rw [Nat.mul_left_comm]
  have h7 : 2 ^ (m + 1) = 2 * 2 ^ m := by rw [Nat.pow_succ, Nat.mul_comm]
  omega
theorem x2_gcd {σ : ST} : ∀ m a b k n, b ≤ a → a < 2 ^ 62 → a * b < 2 ^ m → k + m < 100 → m + 1 < n → T_X2_commonDivisor_L9 σ n (lN a) (lN b) (nI k) = some (lN (Nat.gcd a b)) := by
  have done : ∀ a k n, a < 2 ^ 62 → k < 100 → T_X2_commonDivisor_L9 σ (n + 1) (lN a) (lN 0) (nI k) = some (lN (Nat.gcd a 0)) := by
    intro a k n ha hk
    unfold T_X2_commonDivisor_L9
    rw [c100, if_neg (by rw [q_le (by omega) (by omega)]; omega), l0, if_pos ((cmp0 (by decide) (by decide)).mpr rfl), Nat.gcd_zero_right]
  intro m
  induction m with
  | zero =>
    intro a b k n hba ha h hk hn
    obtain ⟨n, rfl⟩ := fu_one (by omega : 0 < n)
    have hb : b = 0 := by
      by_cases e : b = 0
      · exact e
      · have : 1 * 1 ≤ a * b := Nat.mul_le_mul (by omega) (by omega)
        omega
    rw [hb]
    exact done a k n ha (by omega)
  | succ m ih =>
    intro a b k n hba ha h hk hn
    obtain ⟨n, rfl⟩ := fu_one (by omega : 0 < n)
    by_cases e : b = 0
    · rw [e]; exact done a k n ha (by omega)
    · have h1 : a % b < b := Nat.mod_lt _ (by omega)
      have i1 := ih b (a % b) (k + 1) n (by omega) (by omega) (half_step (by omega) hba h) (by omega) (by omega)
      unfold T_X2_commonDivisor_L9
      rw [c100, if_neg (by rw [q_le (by omega) (by omega)]; omega), l0, if_neg (fun q => e ((cmp0 (by omega) (by omega)).mp q)), nzl_ok (by omega) (by omega), e_vL, pk_lRem (by omega) (by omega) (by omega), c1, nI_add, e_vl, i1, gcd_step]
theorem x3_gcd {σ : ST} : ∀ m a b n, b ≤ a → a < 2 ^ 62 → a * b < 2 ^ m → m + 1 < n → T_X3_divisor_L6 σ n (lN a) (lN b) = some (lN (Nat.gcd a b)) := by
  have done : ∀ a n, a < 2 ^ 62 → T_X3_divisor_L6 σ (n + 1) (lN a) (lN 0) = some (lN (Nat.gcd a 0)) := by
    intro a n ha
    unfold T_X3_divisor_L6
    rw [l0, if_pos ((cmp0 (by decide) (by decide)).mpr rfl), Nat.gcd_zero_right]
  intro m
  induction m with
  | zero =>
    intro a b n hba ha h hn
    obtain ⟨n, rfl⟩ := fu_one (by omega : 0 < n)
    have hb : b = 0 := by
      by_cases e : b = 0
      · exact e
      · have : 1 * 1 ≤ a * b := Nat.mul_le_mul (by omega) (by omega)
        omega
    rw [hb]
    exact done a n ha
  | succ m ih =>
    intro a b n hba ha h hn
    obtain ⟨n, rfl⟩ := fu_one (by omega : 0 < n)
    by_cases e : b = 0
    · rw [e]; exact done a n ha
    · have h1 : a % b < b := Nat.mod_lt _ (by omega)
      have i1 := ih b (a % b) n (by omega) (by omega) (half_step (by omega) hba h) (by omega)
      unfold T_X3_divisor_L6
      rw [l0, if_neg (fun q => e ((cmp0 (by omega) (by omega)).mp q)), nzl_ok (by omega) (by omega), e_vL, pk_lRem (by omega) (by omega) (by omega), i1, gcd_step]
/-- any two numbers below 2 to the 44 -/
theorem gcd_both {σ σ' : ST} {a b : Nat} (ha : a < 2 ^ 44) (hb0 : 0 < b) (hb : b < 2 ^ 44) : T_X2_commonDivisor σ (lN a) (lN b) = some (lN (Nat.gcd a b)) ∧ T_X3_divisor σ' (lN a) (lN b) = some (lN (Nat.gcd a b)) := by
  have pr : ∀ x y : Nat, x < 2 ^ 44 → y < 2 ^ 44 → x * y < 2 ^ 88 := fun x y hx hy => by
    have h1 : x * y ≤ 2 ^ 44 * y := Nat.mul_le_mul_right y (by omega)
    have h2 : 2 ^ 44 * y < 2 ^ 44 * 2 ^ 44 := Nat.mul_lt_mul_of_pos_left hy (by decide)
    have h3 : 2 ^ 44 * 2 ^ 44 = 2 ^ 88 := by decide
    omega
  unfold T_X2_commonDivisor T_X3_divisor
  by_cases h : b ≤ a
  · refine ⟨?_, ?_⟩
    · rw [c0]
      exact x2_gcd 88 a b 0 FU h (by omega) (pr a b ha hb) (by decide) (FU_gt (by decide))
    · exact x3_gcd 88 a b FU h (by omega) (pr a b ha hb) (FU_gt (by decide))
  · have e : a % b = a := Nat.mod_eq_of_lt (by omega)
    obtain ⟨m, hm⟩ : ∃ m, FU = m + 1 := ⟨2999, rfl⟩
    have hm2 : m = 2999 := by have := hm; unfold FU at this; omega
    refine ⟨?_, ?_⟩
    · have i1 := x2_gcd (σ := σ) 88 b a 1 m (by omega) (by omega) (pr b a hb ha) (by decide) (by omega)
      rw [hm, c0]
      unfold T_X2_commonDivisor_L9
      rw [c100, if_neg (by decide), l0, if_neg (fun q => by have := (cmp0 (by omega) (by omega)).mp q; omega), nzl_ok (by omega) (by omega), e_vL, pk_lRem (by omega) (by omega) (by omega), e, c1, nI_add, e_vl, i1, Nat.gcd_comm]
    · have i1 := x3_gcd (σ := σ') 88 b a m (by omega) (by omega) (pr b a hb ha) (by omega)
      rw [hm]
      unfold T_X3_divisor_L6
      rw [l0, if_neg (fun q => by have := (cmp0 (by omega) (by omega)).mp q; omega), nzl_ok (by omega) (by omega), e_vL, pk_lRem (by omega) (by omega) (by omega), e, i1, Nat.gcd_comm]
def slZ (l s k : Nat) : Nat := if s / 2 ^ k % 2 = 1 then l else 9
def slS (l s : Nat) : Nat → Nat → SS → SS
  | 0, _, X => X
  | r + 1, k, X => slS l s r (k + 1) (hourS X (slZ l s k))
def slW (t s : Nat) : Nat → Nat → Nat → Nat
  | 0, _, w => w
  | r + 1, k, w => slW t s r (k + 1) (w * (if s / 2 ^ k % 2 = 1 then 1 else t - 1))
theorem slW_le {t s : Nat} (ht : t ≤ 20) : ∀ r k w, slW t s r k w ≤ w * 20 ^ r
  | 0, k, w => by show w ≤ w * 1; omega
  | r + 1, k, w => by
    show slW t s r (k + 1) _ ≤ _
    refine Nat.le_trans (slW_le ht r (k + 1) _) ?_
    rw [Nat.pow_succ, Nat.mul_comm (20 ^ r) 20, ← Nat.mul_assoc]
    refine Nat.mul_le_mul_right _ (Nat.mul_le_mul_left _ ?_)
    split <;> omega
theorem slS_keeps {l s f i : Nat} (hf : f ≠ 5 ∧ f ≠ 8 ∧ f ≠ 10 ∧ f ≠ 13 ∧ f ≠ 27 ∧ f ≠ 28 ∧ f ≠ 29) : ∀ r k X, slS l s r k X f i = X f i
  | 0, k, X => rfl
  | r + 1, k, X => by
    show slS l s r (k + 1) _ f i = _
    rw [slS_keeps hf r (k + 1) _, hourS_keeps hf]
section Slp
variable {G : GG} {P : Nat → Nat} {C A S F X Y Z D S0 : SS} {τ : TT}
theorem OS.sl {a l s : Nat} : ∀ r k X, OS a S X → OS a S (slS l s r k X)
  | 0, k, X, h => h
  | r + 1, k, X, h => OS.sl r (k + 1) _ (h.hour _)
theorem WF.sl {l s : Nat} : ∀ r k X, WF X → WF (slS l s r k X)
  | 0, k, X, h => h
  | r + 1, k, X, h => WF.sl r (k + 1) _ (h.hour _)
theorem bit_s {s k : Nat} (hs : s < 1024) (hk : k < 10) : ((nI s >>> (nI k &&& 31)) &&& 1 = 1) ↔ s / 2 ^ k % 2 = 1 := by
  rw [bit_all s hs k hk, c1, q_eq (by omega) (by omega)]
theorem x2_slp {l n t s : Nat} (hl5 : l < 5) (hn : n ≤ 8) (ht : 2 ≤ t ∧ t ≤ 20) (hs : s < 1024) : ∀ r k w X C m, SC D C X → WF X → X 13 0 + r ≤ 5000 → k + r = n → r < m → ∃ C', T_X2_walkAsleep_L10 m (nI l) (nI n) (nI t) (nI s) (lN w) (nI k) (Ro τ 2 C) = some (lN (slW t s r k w), Ro τ 2 C') ∧ SC D C' (slS l s r k X) := by
  intro r
  induction r with
  | zero =>
    intro k w X C m R W hh h hm
    obtain ⟨m, rfl⟩ := fu_one hm
    refine ⟨C, ?_, R⟩
    unfold T_X2_walkAsleep_L10
    rw [if_pos (by rw [q_le (by omega) (by omega)]; omega)]
    rfl
  | succ r ih =>
    intro k w X C m R W hh h hm
    obtain ⟨m, rfl⟩ := fu_one (by omega : 0 < m)
    have hz : slZ l s k ≤ 9 := by unfold slZ; split <;> omega
    have R1 : SC D (up C 18 0 (kN (slZ l s k))) X := by
      have ns : ∀ f i, f ≠ 18 → up C 18 0 (kN (slZ l s k)) f i = C f i := fun f i h => up_ne _ (fun q => h q.1)
      refine ⟨⟨?_, ?_, ?_, ?_⟩, fun b hb => ?_, fun l hl => ?_, fun l hl => ?_, ?_⟩
      · rw [ns _ _ (by decide)]; exact R.c0
      · rw [ns _ _ (by decide)]; exact R.c7
      · rw [ns _ _ (by decide)]; exact R.c13
      · rw [ns _ _ (by decide)]; exact R.c14
      · rw [ns 1 _ (by decide), ns 2 _ (by decide), ns 3 _ (by decide), ns 4 _ (by decide), ns 5 _ (by decide), ns 6 _ (by decide)]; exact R.bag hb
      · rw [ns 8 _ (by decide), ns 9 _ (by decide), ns 10 _ (by decide), ns 11 _ (by decide), ns 12 _ (by decide)]; exact R.bea hl
      · rw [ns 15 _ (by decide), ns 16 _ (by decide)]; exact R.2.2.2.1 l hl
      · rw [ns 17 _ (by decide)]; exact R.2.2.2.2
    obtain ⟨C1, g1, g2, g3⟩ := x0_hour1 (τ := τ) (o := 2) hz W (by omega) R1 (up_at _ _ _ _)
    obtain ⟨C', i1, i2⟩ := ih (k + 1) (w * (if s / 2 ^ k % 2 = 1 then 1 else t - 1)) (hourS X (slZ l s k)) C1 m g2 (W.hour _) (by rw [hourS_13]; omega) (by omega) (by omega)
    refine ⟨C', ?_, i2⟩
    unfold T_X2_walkAsleep_L10 T_X2_walkAsleep_j32 T_X2_walkAsleep_j49 T_X2_walkAsleep_j67
    have tl : (nI t - nI 1).toInt64 = lN (t - 1) := by rw [q_sub (by omega), nI_l (by omega)]
    have ew : slW t s (r + 1) k w = slW t s r (k + 1) (w * (if s / 2 ^ k % 2 = 1 then 1 else t - 1)) := rfl
    by_cases e : s / 2 ^ k % 2 = 1
    · have ez : slZ l s k = l := if_pos e
      rw [if_pos e] at i1 ew
      rw [ez, kN_ne (by omega)] at g1
      rw [if_neg (by rw [q_le (by omega) (by omega)]; omega), if_pos ((bit_s hs (by omega)).mpr e), c1, c0, if_neg (by decide), ro_pf, if_neg (by decide), e_vL, l1, lN_mul, g1]
      simp only [e_cV]
      rw [nI_add, e_vl, ew]
      exact i1
    · have ez : slZ l s k = 9 := if_neg e
      rw [if_neg e] at i1 ew
      rw [ez] at g1
      rw [if_neg (by rw [q_le (by omega) (by omega)]; omega), if_neg (fun q => e ((bit_s hs (by omega)).mp q)), c0, if_pos (by trivial), c9, m9, ro_pf, if_pos (by trivial), e_vL, c1, tl, lN_mul]
      rw [show (4294967287 : Nat) = kN 9 from rfl, g1]
      simp only [e_cV]
      rw [nI_add, e_vl, ew]
      exact i1
theorem x3_slp {l v n t s p : Nat} {u d : Int64} {K1 : Int32 → Int32 → Int32 → Int32 → Int32 → Int64 → Int64 → Int32 → ST → Option (Int64 × ST)} (hl5 : l < 5) (hn : n ≤ 8) (ht : 2 ≤ t ∧ t ≤ 20) (hs : s < 1024) : ∀ r k w X m, WF X → X 30 0 = l → l < X 12 0 → X 13 0 + r ≤ 5000 → k + r = n → r < m → T_X3_sleep_L137 K1 m (nI l) (nI v) (nI n) (nI t) (nI p) u d (nI s) (lN w) (nI k) (Ro τ 13 X) = (if nI (slS l s r k X 8 l) = nI v then T_X3_sleep_j210 K1 (nI l) (nI v) (nI n) (nI t) (nI p) d (nI s) (lN (slW t s r k w)) u (Ro τ 13 (slS l s r k X)) else T_X3_sleep_j210 K1 (nI l) (nI v) (nI n) (nI t) (nI p) d (nI s) 0 u (Ro τ 13 (slS l s r k X))) := by
  intro r
  induction r with
  | zero =>
    intro k w X m W h30 hl hh h hm
    obtain ⟨m, rfl⟩ := fu_one hm
    unfold T_X3_sleep_L137
    rw [if_pos (by rw [q_le (by omega) (by omega)]; omega), ro_ld (by omega) (by omega)]
    rfl
  | succ r ih =>
    intro k w X m W h30 hl hh h hm
    obtain ⟨m, rfl⟩ := fu_one (by omega : 0 < m)
    have i1 := ih (k + 1) (w * (if s / 2 ^ k % 2 = 1 then 1 else t - 1)) (hourS X (slZ l s k)) m (W.hour _) (by rw [hourS_keeps (by decide)]; exact h30) (by rw [hourS_keeps (by decide)]; exact hl) (by rw [hourS_13]; omega) (by omega) (by omega)
    show T_X3_sleep_L137 K1 (m + 1) (nI l) (nI v) (nI n) (nI t) (nI p) u d (nI s) (lN w) (nI k) (Ro τ 13 X) = (if nI (slS l s r (k + 1) (hourS X (slZ l s k)) 8 l) = nI v then T_X3_sleep_j210 K1 (nI l) (nI v) (nI n) (nI t) (nI p) d (nI s) (lN (slW t s r (k + 1) (w * (if s / 2 ^ k % 2 = 1 then 1 else t - 1)))) u (Ro τ 13 (slS l s r (k + 1) (hourS X (slZ l s k)))) else T_X3_sleep_j210 K1 (nI l) (nI v) (nI n) (nI t) (nI p) d (nI s) 0 u (Ro τ 13 (slS l s r (k + 1) (hourS X (slZ l s k)))))
    rw [← i1]
    conv => lhs; unfold T_X3_sleep_L137 T_X3_sleep_j159 T_X3_sleep_j177
    have tl : (nI t - nI 1).toInt64 = lN (t - 1) := by rw [q_sub (by omega), nI_l (by omega)]
    by_cases e : s / 2 ^ k % 2 = 1
    · have ez : slZ l s k = l := if_pos e
      have g1 := x3_hz (τ := τ) W (by omega) (by omega)
      rw [h30] at g1
      rw [if_pos e, ez, if_neg (by rw [q_le (by omega) (by omega)]; omega), if_pos ((bit_s hs (by omega)).mpr e), c1, c0, if_neg (by decide), e_vL, l1, lN_mul, g1]
      simp only [e_cV]
      rw [nI_add, e_vl]
    · have ez : slZ l s k = 9 := if_neg e
      have g1 := x3_h (τ := τ) W (by omega) (by omega)
      rw [if_neg e, ez, if_neg (by rw [q_le (by omega) (by omega)]; omega), if_neg (fun q => e ((bit_s hs (by omega)).mp q)), c0, if_pos (by trivial), c1, tl, e_vL, lN_mul, g1]
      simp only [e_cV]
      rw [nI_add, e_vl]
theorem slp_loop (J : Inv G P) {l v n t p : Nat} (hl : l < G 13 12 0) (hv : v ≤ 9) (hn : n ≤ 8) (ht : 2 ≤ t ∧ t ≤ 20) (hp : p ≤ 1) : ∀ r s m u C Y, s + r = 2 ^ n → r < m → KR 60 (G 13) Y → Y 30 0 = l → u ≤ s * 20 ^ 8 → ∃ res C' F, T_X2_sleep_L62 m (nI l) (nI v) (nI n) (nI t) (nI p) (lN (t ^ n)) (lN u) (nI s) (Ro (G, P) 2 C) = some (res, Ro (G, P) 2 C') ∧ (∀ τ, T_X3_sleep_L119 m (nI l) (nI v) (nI n) (nI t) (nI p) (lN u) (lN (t ^ n)) (nI s) (Ro τ 13 Y) = some (res, Ro τ 13 F)) ∧ KR 60 (G 13) F := by
  have K := J.tk
  have h12 := K.1.nl
  have hp2 : 2 ^ n ≤ 2 ^ 8 := Nat.pow_le_pow_right (by decide) hn
  have htn : t ^ n ≤ 20 ^ 8 := Nat.le_trans (Nat.pow_le_pow_left ht.2 n) (Nat.pow_le_pow_right (by decide) hn)
  have htp : 0 < t ^ n := Nat.pow_pos (by omega)
  have sh : (1 : Int32) <<< (nI n &&& 31) = nI (2 ^ n) := shl_one n (by omega)
  intro r
  induction r with
  | zero =>
    intro s m u C Y h hm k h30 hu
    obtain ⟨m, rfl⟩ := fu_one hm
    have hs8 : s * 20 ^ 8 ≤ 256 * 20 ^ 8 := Nat.mul_le_mul_right _ (by omega)
    obtain ⟨g1, -⟩ := gcd_both (σ := Ro (G, P) 2 C) (σ' := Ro (G, P) 2 C) (a := u) (b := t ^ n) (by omega) htp (by omega)
    have g2 := fun τ => (gcd_both (σ := Ro (G, P) 2 C) (σ' := Ro τ 13 Y) (a := u) (b := t ^ n) (by omega) htp (by omega)).2
    have gp : 1 ≤ Nat.gcd u (t ^ n) := Nat.gcd_pos_of_pos_right _ htp
    have gl : Nat.gcd u (t ^ n) ≤ t ^ n := Nat.gcd_le_right _ htp
    refine ⟨if p = 0 then lN u / lN (Nat.gcd u (t ^ n)) else lN (t ^ n) / lN (Nat.gcd u (t ^ n)), C, Y, ?_, fun τ => ?_, k⟩
    · unfold T_X2_sleep_L62
      rw [sh, if_pos (by rw [q_le (by omega) (by omega)]; omega), g1]
      simp only [e_cV]
      rw [if_pos (cmp_ge (by omega) gp), c0, i_eq (by omega) (by omega)]
      by_cases e : p = 0
      · rw [if_pos e, if_pos e, nzl_ok (by omega) gp]
      · rw [if_neg e, if_neg e, nzl_ok (by omega) gp]
    · unfold T_X3_sleep_L119 T_X3_sleep_j235
      rw [sh, if_pos (by rw [q_le (by omega) (by omega)]; omega), c0, i_eq (by omega) (by omega), g2]
      simp only [e_cV]
      by_cases e : p = 0
      · rw [if_pos e, if_pos e, nzl_ok (by omega) gp]
      · rw [if_neg e, if_neg e, nzl_ok (by omega) gp]
  | succ r ih =>
    intro s m u C Y h hm k h30 hu
    obtain ⟨m, rfl⟩ := fu_one (by omega : 0 < m)
    have KY := k.tk K
    have K2 := KY.keep (w := 2)
    have h13 := K2.2.1
    have e12 : kpS 2 Y 12 0 = G 13 12 0 := by rw [kpS_oth (by decide)]; exact k.1 12 0 (inr (by decide) (by omega))
    obtain ⟨C1, t1, t2⟩ := x2_think2 (G := G) (P := P) C
    have R1 := t2.sc K2.1 ((k.1.trans Eqs.keep).sb K.1 J.sb)
    obtain ⟨C2, g1, g2⟩ := x2_slp (τ := (G, P)) (l := l) (n := n) (t := t) (s := s) (by omega) hn ht (by omega) n 0 1 (kpS 2 Y) C1 FU R1 K2.1 (by omega) (by omega) (FU_gt (by omega))
    have wk : T_X2_walkAsleep (nI l) (nI n) (nI t) (nI s) (Ro (G, P) 2 C) = some (lN (slW t s n 0 1), Ro (G, P) 2 C2) := by
      unfold T_X2_walkAsleep
      rw [t1]
      simp only [e_cV]
      rw [l1, c0]
      exact g1
    have hO : OS 180 (kpS 2 Y) (slS l s n 0 (kpS 2 Y)) := OS.sl n 0 _ (OS.keep KY.2.2)
    have k2 : KR 60 (G 13) (gtS 2 (slS l s n 0 (kpS 2 Y))) := k.trans ((KR.think KY.2.2 hO).mono (by decide))
    have k30 : gtS 2 (slS l s n 0 (kpS 2 Y)) 30 0 = l := by rw [gtS_oth (by omega) (by omega), slS_keeps (by decide), kpS_oth (by decide)]; exact h30
    have sl12 : slS l s n 0 (kpS 2 Y) 12 0 = G 13 12 0 := by rw [slS_keeps (by decide)]; exact e12
    have WZ : WF (slS l s n 0 (kpS 2 Y)) := WF.sl n 0 _ K2.1
    have e8 := (g2.bea (l := l) (by omega)).2.2.1
    have w8 := (WZ.bea (l := l) (by omega)).2.2.1
    have hw : slW t s n 0 1 ≤ 20 ^ 8 := by
      have a1 := slW_le (s := s) ht.2 n 0 1
      have a2 : 20 ^ n ≤ 20 ^ 8 := Nat.pow_le_pow_right (by decide) hn
      omega
    have hs1 : (s + 1) * 20 ^ 8 = s * 20 ^ 8 + 20 ^ 8 := by rw [Nat.add_mul, Nat.one_mul]
    have x3 := fun τ => x3_slp (τ := τ) (l := l) (v := v) (n := n) (t := t) (s := s) (p := p) (u := lN u) (d := lN (t ^ n)) (K1 := fun v1 v2 v3 v4 v5 v7 v9 v11 s => T_X3_sleep_L119 m v1 v2 v3 v4 v5 v7 v9 v11 s) (by omega) hn ht (by omega) n 0 1 (kpS 2 Y) FU K2.1 (by rw [kpS_oth (by decide)]; exact h30) (by omega) (by omega) (by omega) (FU_gt (by omega))
    by_cases e : slS l s n 0 (kpS 2 Y) 8 l = v
    · obtain ⟨res, C', F, i1, i2, i3⟩ := ih (s + 1) m (u + slW t s n 0 1) C2 _ (by omega) (by omega) k2 k30 (by omega)
      refine ⟨res, C', F, ?_, fun τ => ?_, i3⟩
      · unfold T_X2_sleep_L62
        rw [sh, if_neg (by rw [q_le (by omega) (by omega)]; omega), wk]
        simp only [e_cJ]
        rw [ro_ld (by omega) (by omega), e8, i_eq (by omega) (by omega), if_pos e, e_vL, lN_add, c1, nI_add, e_vl]
        exact i1
      · unfold T_X3_sleep_L119
        rw [sh, if_neg (by rw [q_le (by omega) (by omega)]; omega), x3_thinks]
        simp only [e_cV]
        rw [l1, c0, x3, i_eq (by omega) (by omega), if_pos e]
        unfold T_X3_sleep_j210
        rw [e_vL, lN_add, x3_forgets]
        simp only [e_cV]
        rw [c1, nI_add, e_vl]
        exact i2 τ
    · obtain ⟨res, C', F, i1, i2, i3⟩ := ih (s + 1) m u C2 _ (by omega) (by omega) k2 k30 (Nat.le_trans hu (by rw [hs1]; exact Nat.le_add_right _ _))
      refine ⟨res, C', F, ?_, fun τ => ?_, i3⟩
      · unfold T_X2_sleep_L62
        rw [sh, if_neg (by rw [q_le (by omega) (by omega)]; omega), wk]
        simp only [e_cJ]
        rw [ro_ld (by omega) (by omega), e8, i_eq (by omega) (by omega), if_neg e, c1, nI_add, e_vl]
        exact i1
      · unfold T_X3_sleep_L119
        rw [sh, if_neg (by rw [q_le (by omega) (by omega)]; omega), x3_thinks]
        simp only [e_cV]
        rw [l1, c0, x3, i_eq (by omega) (by omega), if_neg e]
        unfold T_X3_sleep_j210
        rw [e_vL, l0, lN_add, x3_forgets]
        simp only [e_cV]
        rw [c1, nI_add, e_vl]
        exact i2 τ
theorem x2_down {l v n t p : Nat} (ht : t ≤ 20) (hn : n ≤ 8) {σ : ST} : ∀ r k d m, k + r = n → r < m → T_X2_sleep_L36 m (nI l) (nI v) (nI n) (nI t) (nI p) (lN d) (nI k) σ = T_X2_sleep_L62 FU (nI l) (nI v) (nI n) (nI t) (nI p) (lN (d * t ^ r)) 0 0 σ := by
  intro r
  induction r with
  | zero =>
    intro k d m h hm
    obtain ⟨m, rfl⟩ := fu_one hm
    unfold T_X2_sleep_L36
    rw [if_pos (by rw [q_le (by omega) (by omega)]; omega), Nat.pow_zero, Nat.mul_one]
  | succ r ih =>
    intro k d m h hm
    obtain ⟨m, rfl⟩ := fu_one (by omega : 0 < m)
    unfold T_X2_sleep_L36
    rw [if_neg (by rw [q_le (by omega) (by omega)]; omega), nI_l (by omega), lN_mul, e_vL, c1, nI_add, e_vl, ih (k + 1) (d * t) m (by omega) (by omega), Nat.pow_succ, Nat.mul_assoc, Nat.mul_comm t]
theorem x3_down {l v n t p : Nat} (ht : t ≤ 20) (hn : n ≤ 8) {u : Int64} {σ : ST} : ∀ r k d m, k + r = n → r < m → T_X3_sleep_L96 m (nI l) (nI v) (nI n) (nI t) (nI p) u (lN d) (nI k) σ = T_X3_sleep_L119 FU (nI l) (nI v) (nI n) (nI t) (nI p) u (lN (d * t ^ r)) 0 σ := by
  intro r
  induction r with
  | zero =>
    intro k d m h hm
    obtain ⟨m, rfl⟩ := fu_one hm
    unfold T_X3_sleep_L96
    rw [if_pos (by rw [q_le (by omega) (by omega)]; omega), Nat.pow_zero, Nat.mul_one]
  | succ r ih =>
    intro k d m h hm
    obtain ⟨m, rfl⟩ := fu_one (by omega : 0 < m)
    unfold T_X3_sleep_L96
    rw [if_neg (by rw [q_le (by omega) (by omega)]; omega), nI_l (by omega), lN_mul, e_vL, c1, nI_add, e_vl, ih (k + 1) (d * t) m (by omega) (by omega), Nat.pow_succ, Nat.mul_assoc, Nat.mul_comm t]
theorem ok_refL {cls ref : ST → Option (Int64 × ST)} (k : Nat) (J : Inv G P) (hk : 1 ≤ k ∧ k ≤ 6) (h1 : cls (Ro (G, P) 2 (G 2)) = cI (T_X2_refuse (-nI k) (Ro (G, P) 2 (G 2))) (fun x3 σ4 => some (4000000000000000000 - x3.toInt64, σ4))) (h2 : ∀ τ, ref (Ro τ 13 (G 13)) = T_X3_lowest (-nI k) (Ro τ 13 (G 13))) : OKm G P cls ref := by
  rw [x2_refuse (by decide) hk, Ro_self] at h1
  simp only [e_cI] at h1
  refine ⟨4000000000000000000 - (-nI k).toInt64, wo G 0 (up (G 0) 10 k (G 0 10 k + 1)), P, wo (wo G 0 (up (G 0) 10 k (G 0 10 k + 1))) 13 (up (G 13) 0 k (G 13 0 k + 1)), ?_, ?_, J.refuse (by omega)⟩
  · rw [h1]
    unfold Ro
    have e : wo (wo G 0 (up (G 0) 10 k (G 0 10 k + 1))) 2 (G 2) = wo G 0 (up (G 0) 10 k (G 0 10 k + 1)) := by
      have := wo_self (wo G 0 (up (G 0) 10 k (G 0 10 k + 1))) 2
      rw [wo_ne G _ (by decide)] at this
      exact this
    simp only [e]
  · have := h2 (wo G 0 (up (G 0) 10 k (G 0 10 k + 1)), P)
    have e : wo G 0 (up (G 0) 10 k (G 0 10 k + 1)) 13 = G 13 := wo_ne _ _ (by decide)
    have e2 := Ro_self (wo G 0 (up (G 0) 10 k (G 0 10 k + 1)), P) 13
    simp only [e] at e2
    rw [e2] at this
    rw [this, ← e2]
    have hneg := (neg_ok k (by omega) hk.1).1
    unfold T_X3_lowest
    rw [hneg, e_vl, ro_ld (by omega) (by omega), c1, nI_add, ro_sd (by omega) (by omega)]
    rfl
theorem ok_sleep (J : Inv G P) (a0 a1 a2 a3 a4 : Int32) : OKm G P (T_X2_sleep a0 a1 a2 a3 a4) (T_X3_sleep a0 a1 a2 a3 a4) := by
  have K := J.tk
  have h12 := K.1.nl
  have rf : ∀ k, (1 ≤ k ∧ k ≤ 6) → T_X2_wrongSleep (Ro (G, P) 2 (G 2)) a0 a1 a2 a3 a4 = some (-nI k) → (∀ τ, T_X3_sleep a0 a1 a2 a3 a4 (Ro τ 13 (G 13)) = T_X3_sleep_j68 a0 a1 a2 a3 a4 (-nI k) (Ro τ 13 (G 13))) → OKm G P (T_X2_sleep a0 a1 a2 a3 a4) (T_X3_sleep a0 a1 a2 a3 a4) := by
    intro k hk h1 h2
    refine ok_refL k J hk ?_ (fun τ => ?_)
    · unfold T_X2_sleep
      rw [h1]
      simp only [e_cV]
      rw [c0, if_neg (neg_ok k (by omega) hk.1).2.1]
    · rw [h2]
      unfold T_X3_sleep_j68
      rw [c0, if_neg (neg_ok k (by omega) hk.1).2.1, cJ_id]
  rcases chk_bearer J a0 with ⟨l, hl, rfl, e1, e2⟩ | ⟨e1, e2⟩
  · rcases chk_place a1 with ⟨v, hv, rfl, e3, e4⟩ | ⟨e3, e4⟩
    · by_cases n0 : a2 < nI 0
      · refine rf 4 (by decide) ?_ (fun τ => ?_)
        · unfold T_X2_wrongSleep
          simp only [e1, e3, e_cV, d0, d4, eq10, n0, if_true, if_false]
        · unfold T_X3_sleep T_X3_sleep_j29
          simp only [e2, e4, e_cV, d0, d4, eq10, n0, if_true, if_false]
      · by_cases t0 : nI 2 ≤ a3
        · rcases dig_chk a2 8 (by decide) with ⟨n, hn, rfl⟩ | q | ⟨-, b1, b2⟩
          · have n8 : ¬ nI 8 < nI n := by rw [q_lt (by omega) (by omega)]; omega
            rcases bnd_chk a3 2 20 (by decide) (by decide) with ⟨t, t1, t2, rfl, t3, t4⟩ | t3 | ⟨t3, t4⟩
            · rcases chk_what a4 1 (by decide) with ⟨p, hp, rfl, e5⟩ | ⟨ho, e5⟩
              · have p1 : ¬ nI p < nI 0 := by rw [q_lt (by omega) (by omega)]; omega
                have p2 : nI p ≤ nI 1 := by rw [q_le (by omega) (by omega)]; omega
                have kY : KR 60 (G 13) (up (G 13) 30 0 l) := ⟨fun f i q => up_ne _ (by have := q.2.1; omega), ⟨fun g j q => up_ne _ (by unfold NS at q; omega), fun j _ => up_ne _ (by omega), by rw [up_at]; omega⟩⟩
                have hp2 : 2 ^ n ≤ 2 ^ 8 := Nat.pow_le_pow_right (by decide) hn
                obtain ⟨res, C', F, i1, i2, i3⟩ := slp_loop (P := P) J hl hv hn ⟨t1, t2⟩ hp (2 ^ n) 0 FU 0 (G 2) (up (G 13) 30 0 l) (by omega) (FU_gt (by omega)) kY (up_at _ _ _ _) (by omega)
                refine ok_q2 (r := res) (C := C') J ?_ (fun τ => ⟨F, ?_, i3⟩)
                · unfold T_X2_sleep T_X2_wrongSleep
                  simp only [e1, e3, e_cV, d0, d1, d2, d8, show (20 : Int32) = nI 20 from id rfl, eq10, n0, t0, n8, t4, p1, p2, if_true, if_false, eq00]
                  rw [l1, x2_down t2 hn n 0 1 FU (by omega) (FU_gt (by omega)), Nat.one_mul, l0, c0]
                  exact i1
                · unfold T_X3_sleep T_X3_sleep_j68
                  simp only [e2, e4, e5, e_cV, d0, d1, d2, d8, show (20 : Int32) = nI 20 from id rfl, eq10, n0, t0, n8, t4, if_true, if_false, eq00]
                  rw [ro_pf, l1, l0, x3_down t2 hn n 0 1 FU (by omega) (FU_gt (by omega)), Nat.one_mul, c0]
                  exact i2 τ
              · refine rf 2 (by decide) ?_ (fun τ => ?_)
                · unfold T_X2_wrongSleep
                  rcases ho with q | ⟨q1, q2⟩
                  · simp only [e1, e3, e_cV, d0, d1, d2, d8, show (20 : Int32) = nI 20 from id rfl, eq10, n0, t0, n8, t4, q, if_true, if_false]
                  · simp only [e1, e3, e_cV, d0, d1, d2, d8, show (20 : Int32) = nI 20 from id rfl, eq10, n0, t0, n8, t4, q1, q2, if_true, if_false]
                · unfold T_X3_sleep
                  simp only [e2, e4, e5, e_cV, d0, d1, d2, d8, show (20 : Int32) = nI 20 from id rfl, eq10, n0, t0, n8, t4, if_true, if_false, eq00]
            · exact absurd t0 t3
            · refine rf 6 (by decide) ?_ (fun τ => ?_)
              · unfold T_X2_wrongSleep
                simp only [e1, e3, e_cV, d0, d2, d6, d8, show (20 : Int32) = nI 20 from id rfl, eq10, n0, t0, n8, t4, if_true, if_false]
              · unfold T_X3_sleep T_X3_sleep_j47
                simp only [e2, e4, e_cV, d0, d2, d6, d8, show (20 : Int32) = nI 20 from id rfl, eq10, n0, t0, n8, t4, if_true, if_false]
          · exact absurd q n0
          · refine rf 6 (by decide) ?_ (fun τ => ?_)
            · unfold T_X2_wrongSleep
              simp only [e1, e3, e_cV, d0, d2, d6, d8, eq10, n0, t0, b2, if_true, if_false]
            · unfold T_X3_sleep T_X3_sleep_j47
              simp only [e2, e4, e_cV, d0, d2, d6, d8, eq10, n0, t0, b2, if_true, if_false]
        · refine rf 4 (by decide) ?_ (fun τ => ?_)
          · unfold T_X2_wrongSleep
            simp only [e1, e3, e_cV, d0, d2, d4, eq10, n0, t0, if_true, if_false]
          · unfold T_X3_sleep T_X3_sleep_j29
            simp only [e2, e4, e_cV, d0, d2, d4, eq10, n0, t0, if_true, if_false]
    · refine rf 1 (by decide) ?_ (fun τ => ?_)
      · unfold T_X2_wrongSleep
        simp only [e1, e3, e_cV, d0, d1, eq10, eq00, if_true, if_false]
      · unfold T_X3_sleep T_X3_sleep_j15
        simp only [e2, e4, e_cV, d0, d1, eq10, eq00, if_true, if_false]
  · refine rf 1 (by decide) ?_ (fun τ => ?_)
    · unfold T_X2_wrongSleep
      simp only [e1, e_cV, d0, d1, eq00, if_true]
    · unfold T_X3_sleep T_X3_sleep_j15
      simp only [e2, e_cV, d0, d1, eq00, if_true]
end Slp
