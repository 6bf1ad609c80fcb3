/-! the ways: both sides' loops -/
section WL
variable {α : Type} {τ : TT} {o k k' n n' z nb nl c : Nat} {V C Y : SS}
theorem ro_cp {F : ST → Option α} (hz : z ≤ n) (hz' : z ≤ n') (hn : n < 2147483648) : cp (Ro τ o V) o k n o k' n' (nI z) F = F (Ro τ o (cpA V V k k' z)) := by
  have hc : (nI z).toNatClampNeg = z := nI_clamp (by omega)
  unfold cp
  rw [hc, if_neg (by rw [show (0 : Int32) = nI 0 from rfl, q_lt (by omega) (by omega)]; omega)]
  congr 1
  unfold Ro
  congr 1
  funext o'' f i
  unfold updA va_cpy cpA
  show (if o'' = o ∧ f = k' then (fun k_1 => if 0 ≤ k_1 ∧ k_1 < 0 + z then nI (wo τ.1 o V o k (0 + (k_1 - 0))) else nI (wo τ.1 o V o k' k_1)) else fun j => nI (wo τ.1 o V o'' f j)) i = nI (wo τ.1 o (fun f i => if f = k' ∧ i < z then V k i else V f i) o'' f i)
  by_cases h1 : o'' = o
  · subst h1
    rw [wo_at, wo_at]
    by_cases h2 : f = k'
    · subst h2
      rw [if_pos ⟨rfl, rfl⟩]
      by_cases h3 : i < z
      · rw [if_pos (by omega), if_pos ⟨rfl, h3⟩, Nat.zero_add, Nat.sub_zero]
      · rw [if_neg (by omega), if_neg (fun q => h3 q.2)]
    · rw [if_neg (fun q => h2 q.2), if_neg (fun q => h2 q.1)]
  · rw [wo_ne _ _ h1, wo_ne _ _ h1, if_neg (fun q => h1 q.1)]
theorem nz_ok {a : Nat} (ha : a < 2147483648) (h1 : 1 ≤ a) {M : Option α} : nz (nI a) M = M := by
  unfold nz
  rw [c0, if_neg (by rw [q_eq (by omega) (by omega)]; omega)]
theorem x1_keep : T_X1_keepBest (Ro τ 12 V) = some (Ro τ 12 (cpA V V 0 1 4)) := by
  unfold T_X1_keepBest
  rw [c4, ro_cp (by omega) (by omega) (by omega)]
theorem max1_all : ∀ a, a < 10 → T_J9_max_7cf53 (fun _ _ _ => 0, fun _ => 0) (nI 1) (nI (a + 1)) = some (nI (a + 1)) := by decide +kernel
theorem x_max1 {σ : ST} {a : Nat} (ha : a ≤ 9) : T_J9_max_7cf53 σ (nI 1) (nI (a + 1)) = some (nI (a + 1)) := max1_all a (by omega)
theorem pred_0 (r : Nat) : nI r + -nI 1 = nI r - nI 1 := by rw [Int32.sub_eq_add_neg]
theorem pow_le5 {a b : Nat} (ha : a ≤ 6) (hb : b ≤ 4) : (a + 1) ^ b ≤ 2401 := by
  have h1 : (a + 1) ^ b ≤ 7 ^ b := Nat.pow_le_pow_left (by omega) b
  have h2 : 7 ^ b ≤ 7 ^ 4 := Nat.pow_le_pow_right (by decide) hb
  have h3 : 7 ^ 4 = 2401 := by decide
  omega
theorem x1_startL (hb : nb ≤ 6) (hl : nl ≤ 4) : ∀ r v n V, v + r = nl → V 2 0 = nb → V 3 0 = nl → V 4 0 = (nb + 1) ^ v → r < n → ∃ V', T_X1_start_L21 n (nI v) (Ro τ 12 V) = some (Ro τ 12 V') ∧ V' 2 0 = nb ∧ V' 3 0 = nl ∧ V' 4 0 = (nb + 1) ^ nl := by
  intro r
  induction r with
  | zero =>
    intro v n V h h2 h3 h4 hn
    obtain ⟨n, rfl⟩ := fu_one hn
    refine ⟨V, ?_, h2, h3, by rw [h4, show v = nl by omega]⟩
    unfold T_X1_start_L21
    rw [ro_gf, h3, if_pos (by rw [q_le (by omega) (by omega)]; omega)]
  | succ r ih =>
    intro v n V h h2 h3 h4 hn
    obtain ⟨n, rfl⟩ := fu_one (by omega : 0 < n)
    obtain ⟨V', i1, i2⟩ := ih (v + 1) n (up V 4 0 (V 4 0 * (V 2 0 + 1))) (by omega) (by rw [up_ne _ (by omega)]; exact h2) (by rw [up_ne _ (by omega)]; exact h3) (by rw [up_at, h4, h2, Nat.pow_succ]) (by omega)
    refine ⟨V', ?_, i2⟩
    unfold T_X1_start_L21
    rw [ro_gf, h3, if_neg (by rw [q_le (by omega) (by omega)]; omega), ro_gf, ro_gf, c1, nI_add, q_mul, ro_pf, nI_add, e_vl]
    exact i1
theorem x1_start (hb : nb ≤ 6) (hl : nl ≤ 4) : ∃ V', T_X1_start (nI nb) (nI nl) (Ro τ 12 V) = some (Ro τ 12 V') ∧ V' 2 0 = nb ∧ V' 3 0 = nl ∧ V' 4 0 = (nb + 1) ^ nl := by
  obtain ⟨V', i1, i2⟩ := x1_startL (τ := τ) hb hl nl 0 FU (up (up (up V 2 0 nb) 3 0 nl) 4 0 1) (by omega) (by rw [up_ne _ (by omega), up_ne _ (by omega), up_at]) (by rw [up_ne _ (by omega), up_at]) (by rw [up_at, Nat.pow_zero]) (FU_gt (by omega))
  refine ⟨V', ?_, i2⟩
  unfold T_X1_start
  rw [ro_pf, c4, x_min (by omega) (by omega), if_neg (by omega)]
  simp only [e_cV]
  rw [ro_pf, c1, ro_pf, c0]
  exact i1
theorem x1_decL (hb : nb ≤ 6) (hl : nl ≤ 4) {k : Nat} (hk : k < 5000) : ∀ r n V rest tk no, V 2 0 = nb → V 3 0 = nl → r ≤ nl → rest = k / (nb + 1) ^ (nl - r) → tk < 1024 → no + r ≤ nl → r < n → ∃ V', T_X1_decode_L27 n (nI rest) (nI tk) (nI no) (nI (nb + 1)) (nI r - nI 1) (Ro τ 12 V) = some (nI (if dkB nb r rest tk no = nl - nb then 1 else 0), Ro τ 12 V') ∧ (∀ f i, f ≠ 0 → V' f i = V f i) ∧ (∀ i, r ≤ i → V' 0 i = V 0 i) ∧ (dkB nb r rest tk no = nl - nb → ∀ i, i < r → V' 0 i = kN (if dgA nb nl k i = nb then 9 else dgA nb nl k i)) := by
  intro r
  induction r with
  | zero =>
    intro n V rest tk no h2 h3 hr e ht ho hn
    obtain ⟨n, rfl⟩ := fu_one hn
    refine ⟨V, ?_, fun _ _ _ => rfl, fun _ _ => rfl, fun _ i hi => by omega⟩
    unfold T_X1_decode_L27 dkB
    rw [c0, if_pos ((pred_lt (by omega) (by omega)).mpr (by omega)), ro_gf, ro_gf, h2, h3, x_max (by omega) (by omega)]
    simp only [e_cV]
    rw [i_eq (by omega) (by omega), c1]
    split <;> rfl
  | succ r ih =>
    intro n V rest tk no h2 h3 hr e ht ho hn
    obtain ⟨n, rfl⟩ := fu_one (by omega : 0 < n)
    have hrest : rest < 5000 := by rw [e]; exact Nat.lt_of_le_of_lt (Nat.div_le_self _ _) hk
    have hd : rest % (nb + 1) < nb + 1 := Nat.mod_lt _ (by omega)
    have hdg : dgA nb nl k r = rest % (nb + 1) := by
      unfold dgA
      rw [e, show nl - 1 - r = nl - (r + 1) by omega]
    have hnext : rest / (nb + 1) = k / (nb + 1) ^ (nl - r) := by
      rw [e, Nat.div_div_eq_div_mul, ← Nat.pow_succ, show (nl - (r + 1)).succ = nl - r by omega]
    have bt : (nI tk >>> (nI (rest % (nb + 1)) &&& 31)) &&& nI 1 = nI (tk / 2 ^ (rest % (nb + 1)) % 2) := bit_all tk ht (rest % (nb + 1)) (by omega)
    have orr : nI tk ||| (nI 1 <<< (nI (rest % (nb + 1)) &&& 31)) = nI (tk ||| 2 ^ (rest % (nb + 1))) ∧ tk ||| 2 ^ (rest % (nb + 1)) < 1024 := or_all tk ht (rest % (nb + 1)) (by omega)
    have hj : ∀ no', no' + r ≤ nl → T_X1_decode_j70 (fun v2 v3 v4 v5 v6 s => T_X1_decode_L27 n v2 v3 v4 v5 v6 s) (nI (rest / (nb + 1))) (nI tk) (nI no') (nI (nb + 1)) (nI r) (nI (rest % (nb + 1))) (Ro τ 12 V) = T_X1_decode_L27 n (nI (rest / (nb + 1))) (nI (tk ||| 2 ^ (rest % (nb + 1)))) (nI no') (nI (nb + 1)) (nI r - nI 1) (Ro τ 12 (up V 0 r (kN (if dgA nb nl k r = nb then 9 else dgA nb nl k r)))) := by
      intro no' _
      unfold T_X1_decode_j70
      rw [c1, orr.1, e_vl, ro_gf, h2, hdg, i_eq (by omega) (by omega)]
      by_cases q : rest % (nb + 1) = nb
      · rw [if_pos q, if_pos q, q_m9, ro_sd (by omega) (by omega), pred_0, e_vl]
        rfl
      · rw [if_neg q, if_neg q, kN_ne (by omega), ro_sd (by omega) (by omega), pred_0, e_vl]
    have fin : ∀ (no' : Nat) (V' : SS), no' + r ≤ nl → (∀ f i, f ≠ 0 → V' f i = up V 0 r (kN (if dgA nb nl k r = nb then 9 else dgA nb nl k r)) f i) → (∀ i, r ≤ i → V' 0 i = up V 0 r (kN (if dgA nb nl k r = nb then 9 else dgA nb nl k r)) 0 i) → (dkB nb r (rest / (nb + 1)) (tk ||| 2 ^ (rest % (nb + 1))) no' = nl - nb → ∀ i, i < r → V' 0 i = kN (if dgA nb nl k i = nb then 9 else dgA nb nl k i)) → (∀ f i, f ≠ 0 → V' f i = V f i) ∧ (∀ i, r + 1 ≤ i → V' 0 i = V 0 i) ∧ (dkB nb r (rest / (nb + 1)) (tk ||| 2 ^ (rest % (nb + 1))) no' = nl - nb → ∀ i, i < r + 1 → V' 0 i = kN (if dgA nb nl k i = nb then 9 else dgA nb nl k i)) := by
      intro no' V' _ a b c
      refine ⟨fun f i hf => by rw [a f i hf, up_ne _ (by omega)], fun i hi => by rw [b i (by omega), up_ne _ (by omega)], fun h i hi => ?_⟩
      by_cases q : i = r
      · rw [q, b r (Nat.le_refl _), up_at]
      · exact c h i (by omega)
    unfold T_X1_decode_L27 dkB
    rw [q_dec0, c0, if_neg (by rw [q_lt (by omega) (by omega)]; omega), nz_ok (by omega) (by omega), q_rem (by omega) (by omega), e_vl, nz_ok (by omega) (by omega), q_div (by omega) (by omega), e_vl, ro_gf, h2, i_eq (by omega) (by omega), c1, bt, i_eq (by omega) (by omega), nI_add, e_vl]
    by_cases q1 : rest % (nb + 1) = nb
    · obtain ⟨V', i1, i2, i3, i4⟩ := ih n (up V 0 r (kN (if dgA nb nl k r = nb then 9 else dgA nb nl k r))) (rest / (nb + 1)) (tk ||| 2 ^ (rest % (nb + 1))) (no + 1) (by rw [up_ne _ (by omega)]; exact h2) (by rw [up_ne _ (by omega)]; exact h3) (by omega) hnext orr.2 (by omega) (by omega)
      have f := fin (no + 1) V' (by omega) i2 i3 i4
      refine ⟨V', ?_, f.1, f.2.1, ?_⟩
      · rw [if_pos q1, if_pos q1, hj _ (by omega), i1]
        rw [q1]
      · rw [if_pos q1]
        rw [q1] at f
        exact f.2.2
    · rw [if_neg q1, if_neg q1]
      by_cases q2 : tk / 2 ^ (rest % (nb + 1)) % 2 = 1
      · refine ⟨V, ?_, fun _ _ _ => rfl, fun _ _ => rfl, fun h => ?_⟩
        · rw [if_pos q2, if_pos q2, if_neg (by omega)]
        · rw [if_pos q2] at h; omega
      · obtain ⟨V', i1, i2, i3, i4⟩ := ih n (up V 0 r (kN (if dgA nb nl k r = nb then 9 else dgA nb nl k r))) (rest / (nb + 1)) (tk ||| 2 ^ (rest % (nb + 1))) no (by rw [up_ne _ (by omega)]; exact h2) (by rw [up_ne _ (by omega)]; exact h3) (by omega) hnext orr.2 (by omega) (by omega)
        have f := fin no V' (by omega) i2 i3 i4
        refine ⟨V', ?_, f.1, f.2.1, ?_⟩
        · rw [if_neg q2, if_neg q2, hj _ (by omega), i1]
        · rw [if_neg q2]
          exact f.2.2
theorem x1_decode (hb : nb ≤ 6) (hl : nl ≤ 4) {k : Nat} (hk : k < 5000) (h2 : V 2 0 = nb) (h3 : V 3 0 = nl) : ∃ V', T_X1_decode (nI k) (Ro τ 12 V) = some (nI (if okA nb nl k = true then 1 else 0), Ro τ 12 V') ∧ (∀ f i, f ≠ 0 → V' f i = V f i) ∧ (okA nb nl k = true → ∀ i, i < nl → V' 0 i = kN (if dgA nb nl k i = nb then 9 else dgA nb nl k i)) := by
  obtain ⟨V', i1, i2, i3, i4⟩ := x1_decL (τ := τ) hb hl hk nl FU V k 0 0 h2 h3 (Nat.le_refl _) (by rw [Nat.sub_self, Nat.pow_zero, Nat.div_one]) (by omega) (by omega) (FU_gt (by omega))
  have e : okA nb nl k = true ↔ dkB nb nl k 0 0 = nl - nb := by unfold okA; exact beq_iff_eq
  refine ⟨V', ?_, i2, fun h => i4 (e.mp h)⟩
  unfold T_X1_decode
  rw [ro_gf, h2, c1, nI_add, x_max1 (by omega)]
  simp only [e_cV]
  rw [ro_gf, h3, e_vl, c0, i1]
  simp only [e]
theorem x3_digL (h12 : Y 12 0 = nl) (hl : nl ≤ 5) : ∀ r p n v, p + r = nl → v < 20000 → r < n → T_X3_digitOf_L7 (Ro τ 13 Y) n (nI v) (nI p) = some (nI (v / 7 ^ r % 7)) := by
  intro r
  induction r with
  | zero =>
    intro p n v h hv hn
    obtain ⟨n, rfl⟩ := fu_one hn
    unfold T_X3_digitOf_L7
    rw [ro_gf, h12, if_pos (by rw [q_le (by omega) (by omega)]; omega), c7, q_rem (by omega) (by omega), Nat.pow_zero, Nat.div_one]
  | succ r ih =>
    intro p n v h hv hn
    obtain ⟨n, rfl⟩ := fu_one (by omega : 0 < n)
    have hd : v / 7 < 20000 := Nat.lt_of_le_of_lt (Nat.div_le_self _ _) hv
    unfold T_X3_digitOf_L7
    rw [ro_gf, h12, if_neg (by rw [q_le (by omega) (by omega)]; omega), c7, q_div (by omega) (by omega), e_vl, c1, nI_add, e_vl, ih (p + 1) n (v / 7) (by omega) hd (by omega), Nat.div_div_eq_div_mul, Nat.pow_succ, Nat.mul_comm]
theorem x3_dig (h12 : Y 12 0 = nl) (hl : nl ≤ 5) {l : Nat} (h : l < nl) (hc : c < 20000) : T_X3_digitOf (Ro τ 13 Y) (nI c) (nI l) = some (nI (dg7 nl c l)) := by
  unfold T_X3_digitOf
  rw [c1, nI_add, e_vl, x3_digL h12 hl (nl - 1 - l) (l + 1) FU c (by omega) hc (FU_gt (by omega))]
  rfl
theorem x3_isWayL (h11 : Y 11 0 = nb) (h12 : Y 12 0 = nl) (hb : nb ≤ 6) (hl : nl ≤ 4) (hc : c < 20000) : ∀ r l n tk mn, l + r = nl → tk < 1024 → mn + r ≤ nl → r < n → T_X3_isWay_L7 (Ro τ 13 Y) n (nI c) (nI tk) (nI mn) (nI l) = some (nI (if iwB nb nl c r l tk mn = (if nb < nl then nb else nl) then 1 else 0)) := by
  intro r
  induction r with
  | zero =>
    intro l n tk mn h ht hm hn
    obtain ⟨n, rfl⟩ := fu_one hn
    unfold T_X3_isWay_L7 T_X3_isWay_j95 iwB
    rw [ro_gf, h12, if_pos (by rw [q_le (by omega) (by omega)]; omega), ro_gf, h11, ro_gf, h12, i_le (by omega) (by omega), ro_gf, ro_gf, h11, h12, i_eq (by omega) (by omega), i_eq (by omega) (by omega), c1, c0]
    by_cases q : nl ≤ nb
    · rw [if_pos q, if_neg (show ¬ nb < nl by omega)]
      split <;> rfl
    · rw [if_neg q, if_pos (show nb < nl by omega)]
      split <;> rfl
  | succ r ih =>
    intro l n tk mn h ht hm hn
    obtain ⟨n, rfl⟩ := fu_one (by omega : 0 < n)
    have hd : dg7 nl c l < 7 := Nat.mod_lt _ (by decide)
    have bt : (nI tk >>> (nI (dg7 nl c l) &&& 31)) &&& nI 1 = nI (tk / 2 ^ (dg7 nl c l) % 2) := bit_all tk ht (dg7 nl c l) (by omega)
    have orr : nI tk ||| (nI 1 <<< (nI (dg7 nl c l) &&& 31)) = nI (tk ||| 2 ^ (dg7 nl c l)) ∧ tk ||| 2 ^ (dg7 nl c l) < 1024 := or_all tk ht (dg7 nl c l) (by omega)
    have i1 := fun tk mn h1 h2 => ih (l + 1) n tk mn (by omega) h1 h2 (by omega)
    unfold T_X3_isWay_L7 iwB
    rw [ro_gf, h12, if_neg (by rw [q_le (by omega) (by omega)]; omega), x3_dig h12 (by omega) (by omega) hc]
    simp only [e_cV]
    rw [c6, i_eq (by omega) (by omega), c1, nI_add, e_vl, ro_gf, h11, i_le (by omega) (by omega), bt, i_eq (by omega) (by omega), orr.1, e_vl, nI_add, e_vl, e_vl, c0]
    by_cases q1 : dg7 nl c l = 6
    · rw [if_pos q1, if_pos q1]
      exact i1 tk mn ht (by omega)
    · rw [if_neg q1, if_neg q1]
      by_cases q2 : nb ≤ dg7 nl c l
      · rw [if_pos q2, if_pos q2, if_neg (by split <;> omega)]
      · rw [if_neg q2, if_neg q2]
        by_cases q3 : tk / 2 ^ dg7 nl c l % 2 = 1
        · rw [if_pos q3, if_pos q3, if_neg (by split <;> omega)]
        · rw [if_neg q3, if_neg q3]
          exact i1 _ _ orr.2 (by omega)
theorem x3_isWay (h11 : Y 11 0 = nb) (h12 : Y 12 0 = nl) (hb : nb ≤ 6) (hl : nl ≤ 4) (hc : c < 20000) : T_X3_isWay (Ro τ 13 Y) (nI c) = some (nI (if okB nb nl c = true then 1 else 0)) := by
  have e : okB nb nl c = true ↔ iwB nb nl c nl 0 0 0 = if nb < nl then nb else nl := by unfold okB; exact beq_iff_eq
  unfold T_X3_isWay
  rw [c0, x3_isWayL h11 h12 hb hl hc nl 0 FU 0 0 (by omega) (by omega) (by omega) (FU_gt (by omega))]
  simp only [e]
theorem x3_wmL (h12 : Y 12 0 = nl) (hl : nl ≤ 4) : ∀ r v n, v + r = nl → r < n → T_X3_manyWays_L4 (Ro τ 13 Y) n (nI (7 ^ v)) (nI v) = some (nI (7 ^ nl)) := by
  intro r
  induction r with
  | zero =>
    intro v n h hn
    obtain ⟨n, rfl⟩ := fu_one hn
    unfold T_X3_manyWays_L4
    rw [ro_gf, h12, if_pos (by rw [q_le (by omega) (by omega)]; omega), show v = nl by omega]
  | succ r ih =>
    intro v n h hn
    obtain ⟨n, rfl⟩ := fu_one (by omega : 0 < n)
    have := ih (v + 1) n (by omega) (by omega)
    unfold T_X3_manyWays_L4
    rw [ro_gf, h12, if_neg (by rw [q_le (by omega) (by omega)]; omega), c7, q_mul, e_vl, c1, nI_add, e_vl, ← Nat.pow_succ]
    exact this
theorem x3_wm (h12 : Y 12 0 = nl) (hl : nl ≤ 4) : T_X3_manyWays (Ro τ 13 Y) = some (nI (7 ^ nl)) := by
  have := x3_wmL (τ := τ) h12 hl nl 0 FU (by omega) (FU_gt (by omega))
  unfold T_X3_manyWays
  rw [Nat.pow_zero] at this
  exact this
theorem x3_bagBy (h12 : Y 12 0 = nl) (hl : nl ≤ 4) (hc : c < 20000) {l : Nat} (h : l < nl) : T_X3_bagBy (Ro τ 13 Y) (nI c) (nI l) = some (nI (kN (eW nl c l))) := by
  have hd : dg7 nl c l < 7 := Nat.mod_lt _ (by decide)
  unfold T_X3_bagBy eW
  rw [ro_gf, h12, if_neg (by rw [q_le (by omega) (by omega)]; omega), x3_dig h12 (by omega) h hc]
  simp only [e_cV]
  rw [c6, i_eq (by omega) (by omega), q_m9]
  by_cases q : dg7 nl c l = 6
  · rw [if_pos q, if_pos q]; rfl
  · rw [if_neg q, if_neg q, kN_ne (by omega)]
end WL
