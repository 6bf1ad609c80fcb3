/-! unled: the greedy count and the count by sets are both the least cover -/
def Aθ (S : SS) (t l : Nat) : Nat := sumN (fun k => if t ≤ S 6 k then 1 else 0) l 0
def Bθ (S : SS) (t s : Nat) : Nat := sumN (fun b => if s / 2 ^ b % 2 = 1 ∧ pp S b < t then 1 else 0) (S 11 0) 0
def spF (S : SS) (l s m : Nat) : Prop := (∃ t, t ≤ 20 ∧ Aθ S t l + Bθ S t s = m) ∧ ∀ t, t ≤ 20 → m ≤ Aθ S t l + Bθ S t s
theorem spF_uniq {S : SS} {l s m n : Nat} (h : spF S l s m) (k : spF S l s n) : m = n := by
  obtain ⟨⟨t, t1, t2⟩, h2⟩ := h
  obtain ⟨⟨u, u1, u2⟩, k2⟩ := k
  have := h2 u u1
  have := k2 t t1
  omega
theorem A_snoc {S : SS} {t l : Nat} : Aθ S t (l + 1) = Aθ S t l + (if t ≤ S 6 l then 1 else 0) := by
  unfold Aθ
  rw [sumN_snoc, Nat.zero_add]
theorem A_anti {S : SS} {t u l : Nat} (h : t ≤ u) : Aθ S u l ≤ Aθ S t l := by
  refine sumN_mono _ _ (fun i _ _ => ?_)
  split
  · rw [if_pos (by omega)]; exact Nat.le_refl _
  · omega
theorem clr_bit : ∀ x, x < 64 → ∀ c, c < 6 → x / 2 ^ c % 2 = 1 → (2 ^ c ≤ x ∧ ∀ b, b < 6 → (x - 2 ^ c) / 2 ^ b % 2 = if b = c then 0 else x / 2 ^ b % 2) := by decide +kernel
theorem B_clr {S : SS} {t s c : Nat} (h11 : S 11 0 ≤ 6) (hs : s < 64) (hc : c < S 11 0) (hb : s / 2 ^ c % 2 = 1) : Bθ S t s = Bθ S t (s - 2 ^ c) + (if pp S c < t then 1 else 0) := by
  have k := (clr_bit s hs c (by omega) hb).2
  by_cases e : pp S c < t
  · rw [if_pos e]
    unfold Bθ
    refine sumN_upd (i0 := c) _ _ (Nat.zero_le _) (by omega) (fun i _ hi hne => ?_) ?_
    · show (if s / 2 ^ i % 2 = 1 ∧ pp S i < t then 1 else 0) = if (s - 2 ^ c) / 2 ^ i % 2 = 1 ∧ pp S i < t then 1 else 0
      rw [k i (by omega), if_neg hne]
    · show (if s / 2 ^ c % 2 = 1 ∧ pp S c < t then 1 else 0) = (if (s - 2 ^ c) / 2 ^ c % 2 = 1 ∧ pp S c < t then 1 else 0) + 1
      rw [k c (by omega), if_pos rfl, if_pos ⟨hb, e⟩, if_neg (fun q => absurd q.1 (by decide))]
  · rw [if_neg e, Nat.add_zero]
    unfold Bθ
    refine sumN_congr _ _ (fun i _ hi => ?_)
    show (if s / 2 ^ i % 2 = 1 ∧ pp S i < t then 1 else 0) = if (s - 2 ^ c) / 2 ^ i % 2 = 1 ∧ pp S i < t then 1 else 0
    rw [k i (by omega)]
    by_cases ei : i = c
    · rw [if_pos ei, ei, if_neg (fun q => e q.2), if_neg (fun q => e q.2)]
    · rw [if_neg ei]
def mxB (S : SS) (U : Nat → Nat) (w s : Nat) : Nat → Nat → Nat → Nat
  | 0, _, u => u
  | r + 1, b, u => mxB S U w s r (b + 1) (if s / 2 ^ b % 2 = 1 ∧ pp S b ≤ w ∧ u < U (s - 2 ^ b) + 1 then U (s - 2 ^ b) + 1 else u)
theorem mxB_ge {S : SS} {U : Nat → Nat} {w s : Nat} : ∀ r b u, u ≤ mxB S U w s r b u
  | 0, b, u => Nat.le_refl _
  | r + 1, b, u => by
    unfold mxB
    have := mxB_ge (S := S) (U := U) (w := w) (s := s) r (b + 1) (if s / 2 ^ b % 2 = 1 ∧ pp S b ≤ w ∧ u < U (s - 2 ^ b) + 1 then U (s - 2 ^ b) + 1 else u)
    refine Nat.le_trans ?_ this
    split <;> omega
theorem mxB_all {S : SS} {U : Nat → Nat} {w s : Nat} : ∀ r b u c, b ≤ c → c < b + r → s / 2 ^ c % 2 = 1 → pp S c ≤ w → U (s - 2 ^ c) + 1 ≤ mxB S U w s r b u
  | 0, b, u, c, h1, h2, _, _ => by omega
  | r + 1, b, u, c, h1, h2, h3, h4 => by
    unfold mxB
    by_cases e : c = b
    · have := mxB_ge (S := S) (U := U) (w := w) (s := s) r (b + 1) (if s / 2 ^ b % 2 = 1 ∧ pp S b ≤ w ∧ u < U (s - 2 ^ b) + 1 then U (s - 2 ^ b) + 1 else u)
      rw [e] at h3 h4 ⊢
      refine Nat.le_trans ?_ this
      by_cases q : u < U (s - 2 ^ b) + 1
      · rw [if_pos ⟨h3, h4, q⟩]; exact Nat.le_refl _
      · rw [if_neg (fun z => q z.2.2)]; omega
    · exact mxB_all r (b + 1) _ c (by omega) (by omega) h3 h4
theorem mxB_or {S : SS} {U : Nat → Nat} {w s : Nat} : ∀ r b u, mxB S U w s r b u = u ∨ ∃ c, b ≤ c ∧ c < b + r ∧ s / 2 ^ c % 2 = 1 ∧ pp S c ≤ w ∧ mxB S U w s r b u = U (s - 2 ^ c) + 1
  | 0, b, u => Or.inl rfl
  | r + 1, b, u => by
    unfold mxB
    rcases mxB_or (S := S) (U := U) (w := w) (s := s) r (b + 1) (if s / 2 ^ b % 2 = 1 ∧ pp S b ≤ w ∧ u < U (s - 2 ^ b) + 1 then U (s - 2 ^ b) + 1 else u) with h | ⟨c, h1, h2, h3, h4, h5⟩
    · by_cases e : s / 2 ^ b % 2 = 1 ∧ pp S b ≤ w ∧ u < U (s - 2 ^ b) + 1
      · rw [if_pos e] at h ⊢
        exact Or.inr ⟨b, Nat.le_refl _, by omega, e.1, e.2.1, h⟩
      · rw [if_neg e] at h ⊢
        exact Or.inl h
    · exact Or.inr ⟨c, by omega, by omega, h3, h4, h5⟩
theorem max_ex (p : Nat → Prop) [DecidablePred p] (v : Nat → Nat) : ∀ n, (∃ b, b < n ∧ p b) → ∃ b, b < n ∧ p b ∧ ∀ c, c < n → p c → v c ≤ v b
  | 0, h => by obtain ⟨b, h1, -⟩ := h; omega
  | n + 1, h => by
    by_cases e : ∃ b, b < n ∧ p b
    · obtain ⟨b, h1, h2, h3⟩ := max_ex p v n e
      by_cases q : p n ∧ v b < v n
      · refine ⟨n, by omega, q.1, fun c hc hp => ?_⟩
        by_cases ec : c = n
        · rw [ec]; exact Nat.le_refl _
        · have := h3 c (by omega) hp
          omega
      · refine ⟨b, by omega, h2, fun c hc hp => ?_⟩
        by_cases ec : c = n
        · rw [ec] at hp ⊢
          exact Nat.le_of_not_lt (fun z => q ⟨hp, z⟩)
        · exact h3 c (by omega) hp
    · obtain ⟨b, h1, h2⟩ := h
      have eb : b = n := by
        by_cases q : b = n
        · exact q
        · exact absurd ⟨b, by omega, h2⟩ e
      refine ⟨b, h1, h2, fun c hc hp => ?_⟩
      by_cases ec : c = n
      · rw [ec, eb]; exact Nat.le_refl _
      · exact absurd ⟨c, by omega, hp⟩ e
theorem dp_step {S : SS} (h11 : S 11 0 ≤ 6) {U : Nat → Nat} {l : Nat} (hw : S 6 l ≤ 9) (hU : ∀ s, s < 64 → spF S l s (U s)) {s : Nat} (hs : s < 64) : spF S (l + 1) s (mxB S U (S 6 l) s (S 11 0) 0 (U s)) := by
  obtain ⟨⟨t0, t1, t2⟩, u2⟩ := hU s hs
  have ge := mxB_ge (S := S) (U := U) (w := S 6 l) (s := s) (S 11 0) 0 (U s)
  have hsub : ∀ c, s - 2 ^ c < 64 := fun c => Nat.lt_of_le_of_lt (Nat.sub_le _ _) hs
  -- never above any cover
  have lb : ∀ t, t ≤ 20 → mxB S U (S 6 l) s (S 11 0) 0 (U s) ≤ Aθ S t (l + 1) + Bθ S t s := by
    intro t ht
    have h1 := u2 t ht
    have eA := A_snoc (S := S) (t := t) (l := l)
    rcases mxB_or (S := S) (U := U) (w := S 6 l) (s := s) (S 11 0) 0 (U s) with h | ⟨c, -, c2, c3, c4, c5⟩
    · rw [h]
      have : Aθ S t l ≤ Aθ S t (l + 1) := by rw [eA]; exact Nat.le_add_right _ _
      omega
    · rw [c5]
      have h2 := (hU (s - 2 ^ c) (hsub c)).2 t ht
      have eB := B_clr (S := S) (t := t) h11 hs (by omega) c3
      by_cases e : t ≤ S 6 l
      · rw [if_pos e] at eA
        have : Bθ S t (s - 2 ^ c) ≤ Bθ S t s := by rw [eB]; exact Nat.le_add_right _ _
        omega
      · rw [if_neg e] at eA
        rw [if_pos (by omega)] at eB
        omega
  refine ⟨?_, lb⟩
  by_cases hc : ∃ t, t ≤ 20 ∧ Aθ S t l + Bθ S t s = U s ∧ S 6 l < t
  · obtain ⟨t, h1, h2, h3⟩ := hc
    have eA := A_snoc (S := S) (t := t) (l := l)
    rw [if_neg (by omega)] at eA
    have := lb t h1
    exact ⟨t, h1, by omega⟩
  · have no : ∀ t, t ≤ 20 → S 6 l < t → U s + 1 ≤ Aθ S t l + Bθ S t s := by
      intro t h1 h2
      have h3 := u2 t h1
      have : Aθ S t l + Bθ S t s ≠ U s := fun q => hc ⟨t, h1, q, h2⟩
      omega
    have ht0 : t0 ≤ S 6 l := by
      by_cases e : t0 ≤ S 6 l
      · exact e
      · exact absurd ⟨t0, t1, t2, by omega⟩ hc
    have eA0 := A_snoc (S := S) (t := t0) (l := l)
    rw [if_pos ht0] at eA0
    have up := lb t0 t1
    have now := no (S 6 l + 1) (by omega) (by omega)
    -- there is a bag for her
    have ex : ∃ b, b < S 11 0 ∧ (s / 2 ^ b % 2 = 1 ∧ pp S b ≤ S 6 l) := by
      refine Classical.byContradiction (fun q => ?_)
      have z : Bθ S (S 6 l + 1) s = 0 := sumN_zero _ _ (fun b _ hb => if_neg (fun y => q ⟨b, by omega, y.1, by omega⟩))
      have a := A_anti (S := S) (t := t0) (u := S 6 l + 1) (l := l) (by omega)
      omega
    obtain ⟨b, b1, b2, b3⟩ := max_ex (fun b => s / 2 ^ b % 2 = 1 ∧ pp S b ≤ S 6 l) (pp S) (S 11 0) ex
    have big : U s ≤ U (s - 2 ^ b) := by
      obtain ⟨⟨v, v1, v2⟩, -⟩ := hU (s - 2 ^ b) (hsub b)
      have eB := B_clr (S := S) (t := v) h11 hs b1 b2.1
      have hv := u2 v v1
      by_cases e : pp S b < v
      · rw [if_pos e] at eB
        by_cases e2 : S 6 l < v
        · have := no v v1 e2; omega
        · have sB : Bθ S v s = Bθ S (S 6 l + 1) s := by
            unfold Bθ
            refine sumN_congr _ _ (fun i _ hi => ?_)
            show (if s / 2 ^ i % 2 = 1 ∧ pp S i < v then 1 else 0) = if s / 2 ^ i % 2 = 1 ∧ pp S i < S 6 l + 1 then 1 else 0
            by_cases q : s / 2 ^ i % 2 = 1 ∧ pp S i < v
            · rw [if_pos q, if_pos ⟨q.1, by omega⟩]
            · rw [if_neg q]
              by_cases q2 : s / 2 ^ i % 2 = 1 ∧ pp S i < S 6 l + 1
              · have := b3 i (by omega) ⟨q2.1, by omega⟩
                exact absurd ⟨q2.1, by omega⟩ q
              · rw [if_neg q2]
          have a := A_anti (S := S) (t := v) (u := S 6 l + 1) (l := l) (by omega)
          omega
      · rw [if_neg e] at eB; omega
    have al := mxB_all (S := S) (U := U) (w := S 6 l) (s := s) (S 11 0) 0 (U s) b (Nat.zero_le _) (by omega) b2.1 b2.2
    exact ⟨t0, t1, by omega⟩
/-- the greedy count -/
def unlC (S : SS) : Nat → Nat → Nat → Nat
  | 0, _, h => h
  | r + 1, i, h => unlC S r (i + 1) (if h < S 11 0 ∧ pp S (bagR S h) ≤ S 6 (beaR S i) then h + 1 else h)
def cntθ (S : SS) (t i : Nat) : Nat := sumN (fun j => if t ≤ S 6 (beaR S j) then 1 else 0) i 0
section Unl
variable {G : GG} {P : Nat → Nat} {C A S F X Y Z D S0 : SS} {τ : TT} {o : Nat}
theorem cnt_all (W : WF S) {t : Nat} : cntθ S t (S 12 0) = Aθ S t (S 12 0) := by
  have h12 := W.nl
  have e1 : cntθ S t (S 12 0) = sumN (fun j => sumN (fun l => if rkv (S 6) (S 12 0) l = j ∧ t ≤ S 6 l then 1 else 0) (S 12 0) 0) (S 12 0) 0 := by
    refine sumN_congr _ _ (fun j _ hj => ?_)
    obtain ⟨b1, b2⟩ := beaR_ok W (j := j) (by omega)
    show (if t ≤ S 6 (beaR S j) then 1 else 0) = sumN (fun l => if rkv (S 6) (S 12 0) l = j ∧ t ≤ S 6 l then 1 else 0) (S 12 0) 0
    rw [sumN_at (i0 := beaR S j) _ _ (Nat.zero_le _) (by omega) (fun i _ hi hne => if_neg (fun z => hne (rk_inj (by omega) b1 (z.1.trans b2.symm))))]
    by_cases e : t ≤ S 6 (beaR S j)
    · rw [if_pos e, if_pos ⟨b2, e⟩]
    · rw [if_neg e, if_neg (fun z => e z.2)]
  have e2 : Aθ S t (S 12 0) = sumN (fun l => sumN (fun j => if rkv (S 6) (S 12 0) l = j ∧ t ≤ S 6 l then 1 else 0) (S 12 0) 0) (S 12 0) 0 := by
    refine sumN_congr _ _ (fun l _ hl => ?_)
    have rb := rk_bound (v := S 6) (n := S 12 0) (x := l) (by omega)
    show (if t ≤ S 6 l then 1 else 0) = sumN (fun j => if rkv (S 6) (S 12 0) l = j ∧ t ≤ S 6 l then 1 else 0) (S 12 0) 0
    rw [sumN_at (i0 := rkv (S 6) (S 12 0) l) _ _ (Nat.zero_le _) (by omega) (fun i _ hi hne => if_neg (fun z => hne z.1.symm))]
    by_cases e : t ≤ S 6 l
    · rw [if_pos e, if_pos ⟨rfl, e⟩]
    · rw [if_neg e, if_neg (fun z => e z.2)]
  rw [e1, e2, sumN_swap (fun j l => if rkv (S 6) (S 12 0) l = j ∧ t ≤ S 6 l then 1 else 0)]
theorem full_bit : ∀ b, b < 6 → 63 / 2 ^ b % 2 = 1 := by decide
theorem B_more (W : WF S) {t h : Nat} (hh : h < S 11 0) (ht : pp S (bagR S h) < t) : h + 1 ≤ Bθ S t 63 := by
  have h11 := W.nb
  obtain ⟨b1, b2⟩ := bagR_ok W hh
  have := sumN_lt (g := fun k => if lto (pp S) k (bagR S h) then 1 else 0) (h := fun b => if 63 / 2 ^ b % 2 = 1 ∧ pp S b < t then 1 else 0) (i0 := bagR S h) (S 11 0) 0 (fun i _ hi => by
    show (if lto (pp S) i (bagR S h) then 1 else 0) ≤ if 63 / 2 ^ i % 2 = 1 ∧ pp S i < t then 1 else 0
    by_cases q : lto (pp S) i (bagR S h)
    · rw [if_pos q, if_pos ⟨full_bit i (by omega), by omega⟩]; exact Nat.le_refl _
    · rw [if_neg q]; omega) (Nat.zero_le _) (by omega) (by
    show (if lto (pp S) (bagR S h) (bagR S h) then 1 else 0) < if 63 / 2 ^ bagR S h % 2 = 1 ∧ pp S (bagR S h) < t then 1 else 0
    rw [if_neg (by omega), if_pos ⟨full_bit _ (by omega), ht⟩]; decide)
  have e : sumN (fun k => if lto (pp S) k (bagR S h) then 1 else 0) (S 11 0) 0 = h := b2
  rw [e] at this
  exact this
theorem B_less (W : WF S) {t h : Nat} (hh : h < S 11 0) (ht : t ≤ pp S (bagR S h)) : Bθ S t 63 ≤ h := by
  obtain ⟨b1, b2⟩ := bagR_ok W hh
  have := sumN_mono (g := fun b => if 63 / 2 ^ b % 2 = 1 ∧ pp S b < t then 1 else 0) (h := fun k => if lto (pp S) k (bagR S h) then 1 else 0) (S 11 0) 0 (fun i _ hi => by
    show (if 63 / 2 ^ i % 2 = 1 ∧ pp S i < t then 1 else 0) ≤ if lto (pp S) i (bagR S h) then 1 else 0
    by_cases q : 63 / 2 ^ i % 2 = 1 ∧ pp S i < t
    · rw [if_pos q, if_pos (show lto (pp S) i (bagR S h) by omega)]; exact Nat.le_refl _
    · rw [if_neg q]; omega)
  have e : sumN (fun k => if lto (pp S) k (bagR S h) then 1 else 0) (S 11 0) 0 = h := b2
  rw [e] at this
  exact this
theorem unl_inv (W : WF S) : ∀ r i h, i + r = S 12 0 → h ≤ S 11 0 → (∀ t, t ≤ 20 → h ≤ Bθ S t 63 + cntθ S t i) → (∃ t, t ≤ 20 ∧ Bθ S t 63 + cntθ S t i ≤ h) → spF S (S 12 0) 63 (unlC S r i h)
  | 0, i, h, hi, _, h1, h2 => by
    have ei : i = S 12 0 := by omega
    rw [ei] at h1 h2
    obtain ⟨t, t1, t2⟩ := h2
    have e := fun t => cnt_all (t := t) W
    have := h1 t t1
    refine ⟨⟨t, t1, ?_⟩, fun u hu => ?_⟩
    · show Aθ S t (S 12 0) + Bθ S t 63 = h
      rw [← e]; omega
    · show h ≤ Aθ S u (S 12 0) + Bθ S u 63
      have := h1 u hu
      rw [← e]; omega
  | r + 1, i, h, hi, hn, h1, h2 => by
    have h12 := W.nl
    have h11 := W.nb
    have snoc : ∀ t, cntθ S t (i + 1) = cntθ S t i + (if t ≤ S 6 (beaR S i) then 1 else 0) := fun t => by
      unfold cntθ
      rw [sumN_snoc, Nat.zero_add]
    obtain ⟨l1, l2⟩ := beaR_ok W (j := i) (by omega)
    have wi := (W.bea l1).1
    unfold unlC
    by_cases e : h < S 11 0 ∧ pp S (bagR S h) ≤ S 6 (beaR S i)
    · rw [if_pos e]
      refine unl_inv W r (i + 1) (h + 1) (by omega) (by omega) (fun t ht => ?_) ?_
      · rw [snoc]
        by_cases q : t ≤ S 6 (beaR S i)
        · have := h1 t ht
          rw [if_pos q]; omega
        · have := B_more W e.1 (t := t) (by omega)
          omega
      · obtain ⟨t, t1, t2⟩ := h2
        refine ⟨t, t1, ?_⟩
        rw [snoc]
        split <;> omega
    · rw [if_neg e]
      refine unl_inv W r (i + 1) h (by omega) hn (fun t ht => ?_) ?_
      · have := h1 t ht
        rw [snoc]; omega
      · by_cases q : h < S 11 0
        · refine ⟨S 6 (beaR S i) + 1, by omega, ?_⟩
          have a := B_less W q (t := S 6 (beaR S i) + 1) (by omega)
          have z : cntθ S (S 6 (beaR S i) + 1) (i + 1) = 0 := by
            refine sumN_zero _ _ (fun j _ hj => if_neg (fun y => ?_))
            obtain ⟨j1, j2⟩ := beaR_ok W (j := j) (by omega)
            by_cases ej : j = i
            · subst ej; omega
            · have := (rk_iff (v := S 6) j1 l1).mp (by rw [j2, l2]; omega)
              omega
          omega
        · refine ⟨20, by omega, ?_⟩
          have z : cntθ S 20 (i + 1) = 0 := by
            refine sumN_zero _ _ (fun j _ hj => if_neg (fun y => ?_))
            obtain ⟨j1, -⟩ := beaR_ok W (j := j) (by omega)
            have := (W.bea j1).1
            omega
          have bb : Bθ S 20 63 ≤ S 11 0 := by
            have := sumN_mono (g := fun b => if 63 / 2 ^ b % 2 = 1 ∧ pp S b < 20 then 1 else 0) (h := fun _ => 1) (S 11 0) 0 (fun i _ _ => by
              show (if 63 / 2 ^ i % 2 = 1 ∧ pp S i < 20 then 1 else 0) ≤ 1
              split <;> omega)
            rw [sumN_ones] at this
            exact this
          omega
theorem unl_cls (W : WF S) : spF S (S 12 0) 63 (unlC S (S 12 0) 0 0) := by
  refine unl_inv W (S 12 0) 0 0 (by omega) (Nat.zero_le _) (fun t _ => Nat.zero_le _) ⟨0, by omega, ?_⟩
  have z : Bθ S 0 63 = 0 := sumN_zero _ _ (fun j _ hj => if_neg (fun y => by omega))
  rw [z]
  exact Nat.le_refl _
theorem x2_unlL (J : Inv G P) : ∀ r i h n, i + r = G 13 12 0 → h ≤ G 13 11 0 → r < n → T_X2_unled_L4 (Ro (G, P) 2 C) n (nI h) (nI i) = some (nI (unlC (G 13) r i h)) := by
  have W := J.wf
  have h12 := W.nl
  have h11 := W.nb
  have r7 : G 1 7 0 = G 13 12 0 := J.sb.1.2.1
  intro r
  induction r with
  | zero =>
    intro i h n hi hh hn
    obtain ⟨n, rfl⟩ := fu_one hn
    unfold T_X2_unled_L4
    rw [now_gf, r7, if_pos (by rw [q_le (by omega) (by omega)]; omega)]
    rfl
  | succ r ih =>
    intro i h n hi hh hn
    obtain ⟨n, rfl⟩ := fu_one (by omega : 0 < n)
    obtain ⟨l1, l2⟩ := beaR_ok W (j := i) (by omega)
    have wi := (W.bea l1).1
    have bl : T_X0_bearerRanked 1 (Ro (G, P) 2 C) (nI i) = some (nI (beaR (G 13) i)) := by
      rw [Ro_sw, x0_beaR W J.sb (by omega), kN_ne (by omega)]
    have bb : T_X0_bagRanked 1 (Ro (G, P) 2 C) (nI h) = some (nI (kN (bagR (G 13) h))) := by
      rw [Ro_sw, x0_bagR W J.sb (by omega)]
    unfold T_X2_unled_L4 unlC
    rw [now_gf, r7, if_neg (by rw [q_le (by omega) (by omega)]; omega), bl]
    simp only [e_cV]
    rw [bb]
    simp only [e_cV]
    rw [c0, if_neg (by rw [q_lt (by omega) (by omega)]; omega), c1, nI_add, nI_add]
    simp only [e_vl]
    by_cases q : h < G 13 11 0
    · obtain ⟨b1, b2⟩ := bagR_ok W q
      have p18 := pp_le W b1
      have pl : T_X0_plainPullOf 1 (Ro (G, P) 2 C) (nI (bagR (G 13) h)) = some (nI (pp (G 13) (bagR (G 13) h))) := by
        rw [Ro_sw, x0_pp W J.sb b1]
      rw [kN_ne (by omega), if_neg (by rw [q_lt (by omega) (by omega)]; omega), pl]
      simp only [e_cV]
      rw [now_ld (by omega) (by omega), (J.sb.bea l1).1, i_lt (by omega) (by omega)]
      by_cases e : pp (G 13) (bagR (G 13) h) ≤ G 13 6 (beaR (G 13) i)
      · rw [if_neg (by omega), if_pos ⟨q, e⟩]
        exact ih (i + 1) (h + 1) n (by omega) (by omega) (by omega)
      · rw [if_pos (by omega), if_neg (fun z => e z.2)]
        exact ih (i + 1) h n (by omega) hh (by omega)
    · rw [bagR_no W (by omega), if_pos (show nI (kN 9) < nI 0 from NN_neg), if_neg (fun z => q z.1)]
      exact ih (i + 1) h n (by omega) hh (by omega)
theorem msk_all : ∀ x, x < 64 → ∀ c, c < 6 → x / 2 ^ c % 2 = 1 → nI x &&& ((1 <<< (nI c &&& 31)) ^^^ (-1)) = nI (x - 2 ^ c) := by decide +kernel
theorem wf_oth37 (W : WF S) (g1 : ∀ f i, f ≠ 37 → X f i = S f i) : WF X := W.oth (fun f i q => g1 f i (by omega))
theorem x3_unB (W : WF S) {U : Nat → Nat} {l s : Nat} (hl : l < S 12 0) (hs : s < 64) (hU : ∀ t, t < 64 → U t ≤ 100) : ∀ r b X, b + r = S 11 0 → (∀ f i, f ≠ 37 → X f i = S f i) → (∀ t, t < s → X 37 t = U t) → X 37 s ≤ 200 → ∃ Y, (∀ τ K23 K34 n, r < n → T_X3_unled_L40 K23 K34 n (nI l) (nI s) (nI b) (Ro τ 13 X) = K34 (nI l) (nI s - nI 1) (Ro τ 13 Y)) ∧ (∀ f i, ¬ (f = 37 ∧ i = s) → Y f i = X f i) ∧ Y 37 s = mxB S U (S 6 l) s r b (X 37 s) := by
  have h11 := W.nb
  have h12 := W.nl
  have wl := (W.bea hl).1
  intro r
  induction r with
  | zero =>
    intro b X h g1 g2 g3
    have e11 : X 11 0 = S 11 0 := g1 _ _ (by decide)
    refine ⟨X, fun τ K23 K34 n hn => ?_, fun _ _ _ => rfl, rfl⟩
    obtain ⟨n, rfl⟩ := fu_one hn
    unfold T_X3_unled_L40
    rw [ro_gf, e11, if_pos (by rw [q_le (by omega) (by omega)]; omega), e_vl]
    have e : nI s + -1 = nI s - nI 1 := by rw [c1]; exact (Int32.sub_eq_add_neg ..).symm
    rw [e]
  | succ r ih =>
    intro b X h g1 g2 g3
    have e11 : X 11 0 = S 11 0 := g1 _ _ (by decide)
    have WX := wf_oth37 W g1
    have epp : pp X b = pp S b := by unfold pp; rw [g1 1 b (by decide), g1 2 b (by decide)]
    have p18 := pp_le W (b := b) (by omega)
    have bt : s / 2 ^ b % 2 < 2 := Nat.mod_lt _ (by decide)
    have ebt := bit_all s (by omega) b (by omega)
    by_cases e1 : s / 2 ^ b % 2 = 1
    · by_cases e2 : pp S b ≤ S 6 l
      · have hcl := clr_bit s hs b (by omega) e1
        have hp : 0 < 2 ^ b := Nat.pow_pos (by decide)
        have us := hU (s - 2 ^ b) (by omega)
        have xs : X 37 (s - 2 ^ b) = U (s - 2 ^ b) := g2 _ (by omega)
        have mk := msk_all s hs b (by omega) e1
        by_cases e3 : X 37 s < U (s - 2 ^ b) + 1
        · obtain ⟨Y, i1, i2, i3⟩ := ih (b + 1) (up X 37 s (U (s - 2 ^ b) + 1)) (by omega) (fun f i q => by rw [up_ne _ (fun z => q z.1)]; exact g1 f i q) (fun t ht => by rw [up_ne _ (by omega)]; exact g2 t ht) (by rw [up_at]; omega)
          refine ⟨Y, fun τ K23 K34 n hn => ?_, fun f i q => (i2 f i q).trans (up_ne _ q), ?_⟩
          · obtain ⟨n, rfl⟩ := fu_one (by omega : 0 < n)
            unfold T_X3_unled_L40
            rw [ro_gf, e11, if_neg (by rw [q_le (by omega) (by omega)]; omega), ebt, c0, i_eq (by omega) (by omega), if_neg (by omega), x3_pp WX (by omega)]
            simp only [e_cV]
            rw [epp, ro_ld (by omega) (by omega), g1 6 _ (by decide), i_le (by omega) (by omega), if_pos e2, mk, ro_ld (by omega) (by omega), xs, c1, nI_add, e_vl, ro_ld (by omega) (by omega), i_le (by omega) (by omega), if_neg (by omega), ro_sd (by omega) (by omega), nI_add, e_vl]
            exact i1 τ K23 K34 n (by omega)
          · rw [i3, up_at]
            show mxB S U (S 6 l) s r (b + 1) (U (s - 2 ^ b) + 1) = mxB S U (S 6 l) s r (b + 1) (if s / 2 ^ b % 2 = 1 ∧ pp S b ≤ S 6 l ∧ X 37 s < U (s - 2 ^ b) + 1 then U (s - 2 ^ b) + 1 else X 37 s)
            rw [if_pos ⟨e1, e2, e3⟩]
        · obtain ⟨Y, i1, i2, i3⟩ := ih (b + 1) X (by omega) g1 g2 g3
          refine ⟨Y, fun τ K23 K34 n hn => ?_, i2, ?_⟩
          · obtain ⟨n, rfl⟩ := fu_one (by omega : 0 < n)
            unfold T_X3_unled_L40
            rw [ro_gf, e11, if_neg (by rw [q_le (by omega) (by omega)]; omega), ebt, c0, i_eq (by omega) (by omega), if_neg (by omega), x3_pp WX (by omega)]
            simp only [e_cV]
            rw [epp, ro_ld (by omega) (by omega), g1 6 _ (by decide), i_le (by omega) (by omega), if_pos e2, mk, ro_ld (by omega) (by omega), xs, c1, nI_add, e_vl, ro_ld (by omega) (by omega), i_le (by omega) (by omega), if_pos (by omega), ro_ld (by omega) (by omega), ro_sd (by omega) (by omega), up_self, nI_add, e_vl]
            exact i1 τ K23 K34 n (by omega)
          · rw [i3]
            show mxB S U (S 6 l) s r (b + 1) (X 37 s) = mxB S U (S 6 l) s r (b + 1) (if s / 2 ^ b % 2 = 1 ∧ pp S b ≤ S 6 l ∧ X 37 s < U (s - 2 ^ b) + 1 then U (s - 2 ^ b) + 1 else X 37 s)
            rw [if_neg (fun z => e3 z.2.2)]
      · obtain ⟨Y, i1, i2, i3⟩ := ih (b + 1) X (by omega) g1 g2 g3
        refine ⟨Y, fun τ K23 K34 n hn => ?_, i2, ?_⟩
        · obtain ⟨n, rfl⟩ := fu_one (by omega : 0 < n)
          unfold T_X3_unled_L40
          rw [ro_gf, e11, if_neg (by rw [q_le (by omega) (by omega)]; omega), ebt, c0, i_eq (by omega) (by omega), if_neg (by omega), x3_pp WX (by omega)]
          simp only [e_cV]
          rw [epp, ro_ld (by omega) (by omega), g1 6 _ (by decide), i_le (by omega) (by omega), if_neg e2, c1, nI_add, e_vl]
          exact i1 τ K23 K34 n (by omega)
        · rw [i3]
          show mxB S U (S 6 l) s r (b + 1) (X 37 s) = mxB S U (S 6 l) s r (b + 1) (if s / 2 ^ b % 2 = 1 ∧ pp S b ≤ S 6 l ∧ X 37 s < U (s - 2 ^ b) + 1 then U (s - 2 ^ b) + 1 else X 37 s)
          rw [if_neg (fun z => e2 z.2.1)]
    · obtain ⟨Y, i1, i2, i3⟩ := ih (b + 1) X (by omega) g1 g2 g3
      refine ⟨Y, fun τ K23 K34 n hn => ?_, i2, ?_⟩
      · obtain ⟨n, rfl⟩ := fu_one (by omega : 0 < n)
        unfold T_X3_unled_L40
        rw [ro_gf, e11, if_neg (by rw [q_le (by omega) (by omega)]; omega), ebt, c0, i_eq (by omega) (by omega), if_pos (by omega), c1, nI_add, e_vl]
        exact i1 τ K23 K34 n (by omega)
      · rw [i3]
        show mxB S U (S 6 l) s r (b + 1) (X 37 s) = mxB S U (S 6 l) s r (b + 1) (if s / 2 ^ b % 2 = 1 ∧ pp S b ≤ S 6 l ∧ X 37 s < U (s - 2 ^ b) + 1 then U (s - 2 ^ b) + 1 else X 37 s)
        rw [if_neg (fun z => e1 z.1)]
theorem x3_unS (W : WF S) {U : Nat → Nat} {l : Nat} (hl : l < S 12 0) (hU : ∀ t, t < 64 → U t ≤ 100) : ∀ k X, k ≤ 64 → (∀ f i, f ≠ 37 → X f i = S f i) → (∀ t, t < k → X 37 t = U t) → ∃ Y, (∀ τ K23 n, k < n → T_X3_unled_L34 K23 n (nI l) (nI k - nI 1) (Ro τ 13 X) = K23 (nI (l + 1)) (Ro τ 13 Y)) ∧ (∀ f i, f ≠ 37 → Y f i = S f i) ∧ (∀ t, k ≤ t → Y 37 t = X 37 t) ∧ ∀ t, t < k → Y 37 t = mxB S U (S 6 l) t (S 11 0) 0 (U t) := by
  have h11 := W.nb
  intro k
  induction k with
  | zero =>
    intro X hk g1 g2
    refine ⟨X, fun τ K23 n hn => ?_, g1, fun _ _ => rfl, fun t ht => by omega⟩
    obtain ⟨n, rfl⟩ := fu_one hn
    unfold T_X3_unled_L34
    rw [c0, if_pos ((pred_lt (by omega) (by omega)).mpr (by omega)), c1, nI_add, e_vl]
  | succ k ih =>
    intro X hk g1 g2
    have uk := hU k (by omega)
    obtain ⟨Y1, a1, a2, a3⟩ := x3_unB W hl (s := k) (by omega) hU (S 11 0) 0 X (by omega) g1 (fun t ht => g2 t (by omega)) (by rw [g2 k (by omega)]; omega)
    obtain ⟨Y, b1, b2, b3, b4⟩ := ih Y1 (by omega) (fun f i q => (a2 f i (fun z => q z.1)).trans (g1 f i q)) (fun t ht => (a2 37 t (by omega)).trans (g2 t (by omega)))
    refine ⟨Y, fun τ K23 n hn => ?_, b2, fun t ht => (b3 t (by omega)).trans (a2 37 t (by omega)), fun t ht => ?_⟩
    · obtain ⟨n, rfl⟩ := fu_one (by omega : 0 < n)
      unfold T_X3_unled_L34
      rw [q_dec0, c0, if_neg (by rw [q_lt (by omega) (by omega)]; omega), a1 τ _ _ FU (FU_gt (by omega))]
      exact b1 τ K23 n (by omega)
    · by_cases e : t = k
      · rw [e, b3 k (Nat.le_refl _), a3, g2 k (by omega)]
      · exact b4 t (by omega)
theorem sp_le (W : WF S) {l s m : Nat} (hl : l ≤ S 12 0) (h : spF S l s m) : m ≤ 11 := by
  have h11 := W.nb
  have h12 := W.nl
  have := h.2 20 (Nat.le_refl _)
  have a1 := sumN_mono (g := fun k => if 20 ≤ S 6 k then 1 else 0) (h := fun _ => 1) l 0 (fun i _ _ => by
    show (if 20 ≤ S 6 i then 1 else 0) ≤ 1
    split <;> omega)
  have a2 := sumN_mono (g := fun b => if s / 2 ^ b % 2 = 1 ∧ pp S b < 20 then 1 else 0) (h := fun _ => 1) (S 11 0) 0 (fun i _ _ => by
    show (if s / 2 ^ i % 2 = 1 ∧ pp S i < 20 then 1 else 0) ≤ 1
    split <;> omega)
  rw [sumN_ones] at a1 a2
  have e1 : Aθ S 20 l = sumN (fun k => if 20 ≤ S 6 k then 1 else 0) l 0 := rfl
  have e2 : Bθ S 20 s = sumN (fun b => if s / 2 ^ b % 2 = 1 ∧ pp S b < 20 then 1 else 0) (S 11 0) 0 := rfl
  omega
theorem x3_unL (W : WF S) : ∀ r l n X, l + r = S 12 0 → r < n → (∀ f i, f ≠ 37 → X f i = S f i) → (∀ t, t < 64 → spF S l t (X 37 t)) → ∃ Y, (∀ τ, T_X3_unled_L23 n (nI l) (Ro τ 13 X) = some (nI (Y 37 63), Ro τ 13 Y)) ∧ (∀ f i, f ≠ 37 → Y f i = S f i) ∧ spF S (S 12 0) 63 (Y 37 63) := by
  have h12 := W.nl
  have h11 := W.nb
  intro r
  induction r with
  | zero =>
    intro l n X h hn g1 g2
    obtain ⟨n, rfl⟩ := fu_one hn
    have e12 : X 12 0 = S 12 0 := g1 _ _ (by decide)
    have el : l = S 12 0 := by omega
    refine ⟨X, fun τ => ?_, g1, by rw [← el]; exact g2 63 (by decide)⟩
    unfold T_X3_unled_L23
    rw [ro_gf, e12, if_pos (by rw [q_le (by omega) (by omega)]; omega), c63, ro_ld (by omega) (by omega)]
  | succ r ih =>
    intro l n X h hn g1 g2
    obtain ⟨n, rfl⟩ := fu_one (by omega : 0 < n)
    have e12 : X 12 0 = S 12 0 := g1 _ _ (by decide)
    obtain ⟨Y1, a1, a2, a3, a4⟩ := x3_unS W (l := l) (U := X 37) (by omega) (fun t ht => by have := sp_le W (by omega) (g2 t ht); omega) 64 X (Nat.le_refl _) g1 (fun t _ => rfl)
    obtain ⟨Y, b1, b2, b3⟩ := ih (l + 1) n Y1 (by omega) (by omega) a2 (fun t ht => by rw [a4 t ht]; exact dp_step h11 (W.bea (by omega)).1 g2 ht)
    refine ⟨Y, fun τ => ?_, b2, b3⟩
    unfold T_X3_unled_L23
    rw [ro_gf, e12, if_neg (by rw [q_le (by omega) (by omega)]; omega), show (63 : Int32) = nI 64 - nI 1 by decide, a1 τ _ FU (FU_gt (by decide))]
    exact b1 τ
theorem x3_un0 : ∀ r k n X, k + r = 64 → r < n → ∃ Y, (∀ τ, T_X3_unled_L2 n (nI k) (Ro τ 13 X) = T_X3_unled_L23 FU 0 (Ro τ 13 Y)) ∧ (∀ f i, f ≠ 37 → Y f i = X f i) ∧ (∀ j, j < k → Y 37 j = X 37 j) ∧ ∀ j, k ≤ j → j < 64 → Y 37 j = 0 := by
  intro r
  induction r with
  | zero =>
    intro k n X h hn
    obtain ⟨n, rfl⟩ := fu_one hn
    refine ⟨X, fun τ => ?_, fun _ _ _ => rfl, fun _ _ => rfl, fun j h1 h2 => by omega⟩
    unfold T_X3_unled_L2
    rw [show (64 : Int32) = nI 64 from rfl, if_pos (by rw [q_le (by omega) (by omega)]; omega)]
  | succ r ih =>
    intro k n X h hn
    obtain ⟨n, rfl⟩ := fu_one (by omega : 0 < n)
    obtain ⟨Y, i1, i2, i3, i4⟩ := ih (k + 1) n (up X 37 k 0) (by omega) (by omega)
    refine ⟨Y, fun τ => ?_, fun f i q => (i2 f i q).trans (up_ne _ (fun z => q z.1)), fun j hj => ?_, fun j h1 h2 => ?_⟩
    · unfold T_X3_unled_L2
      rw [show (64 : Int32) = nI 64 from rfl, if_neg (by rw [q_le (by omega) (by omega)]; omega), c0, ro_sd (by omega) (by omega), e_vl, c1, nI_add, i1 τ, c0]
    · rw [i3 j (by omega), up_ne _ (by omega)]
    · by_cases e : j = k
      · rw [i3 j (by omega), e, up_at]
      · exact i4 j (by omega) h2
theorem ok_unled (J : Inv G P) : ∃ r F, T_X2_unled (nV G, P) = some r ∧ (∀ τ, T_X3_unled (Ro τ 13 (G 13)) = some (r, Ro τ 13 F)) ∧ KR 60 (G 13) F := by
  have K := J.tk
  have W := J.wf
  have h12 := W.nl
  have h11 := W.nb
  obtain ⟨Y1, y1, y2, -, y4⟩ := x3_un0 64 0 FU (G 13) rfl (FU_gt (by decide))
  obtain ⟨F, f1, f2, f3⟩ := x3_unL W (G 13 12 0) 0 FU Y1 (by omega) (FU_gt (by omega)) y2 (fun t ht => by
    rw [y4 t (Nat.zero_le _) ht]
    have z : Bθ (G 13) 0 t = 0 := sumN_zero _ _ (fun j _ hj => if_neg (fun y => by omega))
    exact ⟨⟨0, by omega, by rw [z]; rfl⟩, fun _ _ => Nat.zero_le _⟩)
  have kr : KR 60 (G 13) F := ⟨fun f i q => f2 f i (by have := q.2.1; omega), ⟨fun g j q => f2 g j (by unfold NS at q; omega), fun j _ => f2 _ _ (by decide), by rw [f2 _ _ (by decide)]; exact K.2.2⟩⟩
  refine ⟨nI (unlC (G 13) (G 13 12 0) 0 0), F, ?_, fun τ => ?_, kr⟩
  · rw [Ro_G (o := 2)]
    unfold T_X2_unled
    rw [c0]
    exact x2_unlL J (G 13 12 0) 0 0 FU (by omega) (Nat.zero_le _) (FU_gt (by omega))
  · unfold T_X3_unled
    rw [c0, y1, c0, f1, spF_uniq f3 (unl_cls W)]
end Unl
