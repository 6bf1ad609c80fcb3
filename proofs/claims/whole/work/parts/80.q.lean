/-! bequest -/
section Beq
variable {τ : TT} {A C Z F1 : SS} {t : Nat → Nat} {N J : Nat}
theorem beq_skip (hN : N ≤ 96) (hA : ∀ k, k < N → τ.1 0 6 k = t k ∧ t k ≤ 255) {v3 : Int32} : ∀ m q n C, 1 ≤ q → (∀ u, u < m → q + u < N ∧ t (q + u - 1) ≠ 59) → T_X2_bequest_L35 (n + m) (nI N) v3 (nI q) (Ro τ 2 C) = T_X2_bequest_L35 n (nI N) v3 (nI (q + m)) (Ro τ 2 C)
  | 0, q, n, C, _, _ => rfl
  | m + 1, q, n, C, h1, h => by
    have h0 := h 0 (by omega)
    have h00 : q < N ∧ t (q - 1) ≠ 59 := h0
    have tq := hA (q - 1) (by omega)
    have ih := beq_skip hN hA (v3 := v3) m (q + 1) n C (by omega) (fun u hu => by
      have := h (u + 1) (by omega)
      rw [show q + 1 + u = q + (u + 1) by omega]; exact this)
    rw [show n + (m + 1) = n + m + 1 by omega, show q + (m + 1) = q + 1 + m by omega, ← ih]
    conv => lhs; unfold T_X2_bequest_L35
    rw [if_neg (by rw [q_le (by omega) (by omega)]; omega), c0, if_neg (by rw [q_eq (by omega) (by omega)]; omega), c1, q_sub (by omega), rx_ld (by decide) (by omega) (by omega), tq.1, show (59 : Int32) = nI 59 from id rfl, if_neg (by rw [q_eq (by omega) (by omega)]; exact h00.2), nI_add, e_vl]
theorem beq_loop (hN : N ≤ 96) (hA : ∀ k, k < N → τ.1 0 6 k = t k ∧ t k ≤ 255) (hJ : stN t J = N) (h40 : J ≤ 40) (hR : ∀ i, i < J → GdS t N i ∧ Rec t F1 i) (f21 : F1 21 0 = J) (f30 : F1 30 0 ≤ 9) : ∀ r i n m C Z, i + r = J → (stN t i = 0 ∨ t (stN t i - 1) = 59) → MD C Z → OS 120 (kpS 1 F1) Z → 7 * r + 1 ≤ n → r < m → ∃ C' Z', OS 120 (kpS 1 F1) Z' ∧ ((∃ w : Int32, T_X2_bequest_L35 n (nI N) (nI i) (nI (stN t i)) (Ro τ 2 C) = some (w, Ro τ 2 C') ∧ ∀ τ', T_X3_bequest_L86 m (nI i) (Ro τ' 13 Z) = some (w, Ro τ' 13 (gtS 1 Z'))) ∨ (MD C' Z' ∧ T_X2_bequest_L35 n (nI N) (nI i) (nI (stN t i)) (Ro τ 2 C) = cV (T_X0_copyFrom 1 2 (Ro τ 2 C')) (fun σ2 => cV (T_X2_forgetPast σ2) (fun σ4 => some (nI J, σ4))) ∧ ∀ τ', T_X3_bequest_L86 m (nI i) (Ro τ' 13 Z) = some (nI J, Ro τ' 13 (up Z' 26 0 0)))) := by
  intro r
  induction r with
  | zero =>
    intro i n m C Z h hs M ho hn hm
    obtain ⟨n, rfl⟩ := fu_one (by omega : 0 < n)
    obtain ⟨m, rfl⟩ := fu_one hm
    have e : i = J := by omega
    subst e
    have z21 : Z 21 0 = i := by rw [ho.1 _ _ (by unfold NS; omega), kpS_oth (by decide)]; exact f21
    refine ⟨C, Z, ho, Or.inr ⟨M, ?_, fun τ' => ?_⟩⟩
    · unfold T_X2_bequest_L35
      rw [hJ, if_pos (by rw [q_le (by omega) (by omega)]; omega)]
    · unfold T_X3_bequest_L86
      rw [ro_gf, z21, if_pos (by rw [q_le (by omega) (by omega)]; omega), c0, ro_pf, ro_gf, up_ne _ (by omega), z21]
  | succ r ih =>
    intro i n m C Z h hs M ho hn hm
    obtain ⟨m, rfl⟩ := fu_one (by omega : 0 < m)
    obtain ⟨g, rc⟩ := hR i (by omega)
    have g1 := g.1
    have ok := scN_ok _ _ hN g.2.2 (by omega)
    have hd := dcK_le (t (stN t i))
    have tp := hA _ g1
    have ze : ∀ f k, f = 16 ∨ f = 17 ∨ f = 18 → Z f k = F1 f k := fun f k q => by rw [ho.1 f k (by unfold NS; omega), kpS_oth (by omega)]
    have z21 : Z 21 0 = J := by rw [ho.1 _ _ (by unfold NS; omega), kpS_oth (by decide)]; exact f21
    have rz : Rec t Z i := ⟨by rw [ze _ _ (by omega)]; exact rc.1, by rw [ze _ _ (by omega)]; exact rc.2.1, rc.2.2.same (fun k _ => ze 18 k (by omega))⟩
    obtain ⟨x, C1, Z1, a1, a2, a3, a4⟩ := carry (τ := τ) hN hA (by omega) g rz M
    have ho1 : OS 120 (kpS 1 F1) Z1 := ho.trans (a4.mono (by decide))
    have clsS : ∀ n', T_X2_bequest_L35 (n' + 1) (nI N) (nI i) (nI (stN t i)) (Ro τ 2 C) = T_X2_bequest_j60 (fun v1 v3 v4 s => T_X2_bequest_L35 n' v1 v3 v4 s) (nI N) (nI i) (nI (stN t i)) (Ro τ 2 C) := by
      intro n'
      conv => lhs; unfold T_X2_bequest_L35
      rw [if_neg (by rw [q_le (by omega) (by omega)]; omega), c0]
      by_cases z : stN t i = 0
      · rw [if_pos (by rw [q_eq (by omega) (by omega)]; exact z)]
      · have tq := hA (stN t i - 1) (by omega)
        rw [if_neg (by rw [q_eq (by omega) (by omega)]; exact z), c1, q_sub (by omega), rx_ld (by decide) (by omega) (by omega), tq.1, show (59 : Int32) = nI 59 from id rfl, if_pos (by rw [q_eq (by omega) (by omega)]; omega)]
    have refS : ∀ τ', T_X3_bequest_L86 (m + 1) (nI i) (Ro τ' 13 Z) = if nI x = nI 0 then cV (T_X3_passesAll 1 0 (Ro τ' 13 Z1)) (fun σ7 => ld σ7 13 17 48 (nI i) (fun x8 => some (((-2000)) - x8, σ7))) else T_X3_bequest_L86 m (nI (i + 1)) (Ro τ' 13 Z1) := by
      intro τ'
      conv => lhs; unfold T_X3_bequest_L86
      rw [ro_gf, z21, if_neg (by rw [q_le (by omega) (by omega)]; omega), a2]
      simp only [e_cI]
      rw [c0, ← c0, c1, nI_add, e_vl]
    rcases a3 with rfl | ⟨rfl, M1⟩
    · obtain ⟨n, rfl⟩ := fu_one (by omega : 0 < n)
      refine ⟨C1, Z1, ho1, Or.inl ⟨(-2000) - nI (stN t i), ?_, fun τ' => ?_⟩⟩
      · rw [clsS]
        unfold T_X2_bequest_j60
        rw [a1]
        simp only [e_cI]
        rw [c0, if_pos (by trivial)]
      · have h17 : gtS 1 Z1 17 i = stN t i := by rw [gtS_oth (by omega) (by omega), ho1.1 _ _ (by unfold NS; omega), kpS_oth (by decide)]; exact rc.2.1
        rw [refS, if_pos (by trivial), c1, c0, x3_putAll (by decide)]
        simp only [e_cV]
        rw [ro_ld (by omega) (by omega), h17]
    · obtain ⟨n, rfl⟩ : ∃ n', n = n' + (dcK (t (stN t i)) + 1) + 1 := ⟨n - (dcK (t (stN t i)) + 2), by omega⟩
      obtain ⟨C', Z', i1, i2⟩ := ih (i + 1) n m C1 Z1 (by omega) (Or.inr (by
        show t (stN t i + dcK (t (stN t i)) + 2 - 1) = 59
        rw [show stN t i + dcK (t (stN t i)) + 2 - 1 = stN t i + 1 + dcK (t (stN t i)) by omega]
        exact ok.2.2)) M1 ho1 (by omega) (by omega)
      have skip := beq_skip (τ := τ) hN hA (v3 := nI (i + 1)) (dcK (t (stN t i)) + 1) (stN t i + 1) n C1 (by omega) (fun u hu => by
        by_cases z : u = 0
        · subst z
          refine ⟨by omega, ?_⟩
          rw [show stN t i + 1 + 0 - 1 = stN t i by omega]
          intro y
          have := g.2.1
          rw [y] at this
          exact this (by decide)
        · have := ok.1 (u - 1) (by omega)
          rw [show stN t i + 1 + (u - 1) = stN t i + 1 + u - 1 by omega] at this
          refine ⟨by omega, by omega⟩)
      have cls : T_X2_bequest_L35 (n + (dcK (t (stN t i)) + 1) + 1) (nI N) (nI i) (nI (stN t i)) (Ro τ 2 C) = T_X2_bequest_L35 n (nI N) (nI (i + 1)) (nI (stN t (i + 1))) (Ro τ 2 C1) := by
        rw [clsS]
        unfold T_X2_bequest_j60
        rw [a1]
        simp only [e_cI]
        rw [c0, if_neg (by decide), c1, nI_add, e_vl, nI_add, e_vl, skip]
        have : stN t i + 1 + (dcK (t (stN t i)) + 1) = stN t (i + 1) := by
          show _ = stN t i + dcK (t (stN t i)) + 2
          omega
        rw [this]
      have ref : ∀ τ', T_X3_bequest_L86 (m + 1) (nI i) (Ro τ' 13 Z) = T_X3_bequest_L86 m (nI (i + 1)) (Ro τ' 13 Z1) := by
        intro τ'
        rw [refS, if_neg (by decide)]
      refine ⟨C', Z', i1, ?_⟩
      rcases i2 with ⟨w, p1, p2⟩ | ⟨p0, p1, p2⟩
      · exact Or.inl ⟨w, cls.trans p1, fun τ' => (ref τ').trans (p2 τ')⟩
      · exact Or.inr ⟨p0, cls.trans p1, fun τ' => (ref τ').trans (p2 τ')⟩
end Beq
