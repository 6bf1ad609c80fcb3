/-! the letters read: statement by statement -/
def Rec (t : Nat → Nat) (Y : SS) (i : Nat) : Prop := Y 16 i = t (stN t i) ∧ Y 17 i = stN t i ∧ VL t (t (stN t i)) (stN t i + 1) (3 * i) Y
section Par
variable {τ : TT} {A Y : SS} {t : Nat → Nat} {N q : Nat}
theorem VL.same {k q x : Nat} {Y Y' : SS} (h : VL t k q x Y) (e : ∀ i, i < x + 3 → Y' 18 i = Y 18 i) : VL t k q x Y' := ⟨by rw [e _ (by omega)]; exact h.1, fun a b => by rw [e _ (by omega)]; exact h.2.1 a b, fun a => by rw [e _ (by omega)]; exact h.2.2 a⟩
theorem x3_stm (hN : N ≤ 96) {p j : Nat} (h : RD t N p Y) (hp : p ≤ N) (h21 : Y 21 0 = j) (hj : j < 47) : ∃ r Y', (∀ τ, T_X3_statement (Ro τ 13 Y) = some (nI r, Ro τ 13 Y')) ∧ (∀ g i, g ≠ 16 → g ≠ 17 → g ≠ 18 → g ≠ 20 → Y' g i = Y g i) ∧ (∀ i, i < j → Y' 16 i = Y 16 i ∧ Y' 17 i = Y 17 i) ∧ (∀ i, i < 3 * j → Y' 18 i = Y 18 i) ∧ ((r = 1 ∧ p < N ∧ dcK (t p) ≠ 0 ∧ scN t N (dcK (t p)) (p + 1) = 999 ∧ Y' 20 0 = p + dcK (t p) + 2 ∧ Y' 16 j = t p ∧ Y' 17 j = p ∧ VL t (t p) (p + 1) (3 * j) Y') ∨ (r = 0 ∧ Y' 20 0 ≤ N ∧ ((N ≤ p ∧ Y' 20 0 = p) ∨ (p < N ∧ dcK (t p) = 0 ∧ Y' 20 0 = p) ∨ (p < N ∧ dcK (t p) ≠ 0 ∧ scN t N (dcK (t p)) (p + 1) ≠ 999 ∧ Y' 20 0 = scN t N (dcK (t p)) (p + 1))))) := by
  have nx := fun τ => h.next (τ := τ) hN (by omega)
  by_cases z : p < N
  · have tp := h.1.2 p z
    by_cases z0 : dcK (t p) = 0
    · refine ⟨0, Y, fun τ => ?_, fun _ _ _ _ _ _ => rfl, fun _ _ => ⟨rfl, rfl⟩, fun _ _ => rfl, Or.inr ⟨rfl, by rw [h.2]; omega, Or.inr (Or.inl ⟨z, z0, h.2⟩)⟩⟩
      have ne : t p ≠ 98 ∧ t p ≠ 108 ∧ t p ≠ 103 ∧ t p ≠ 102 ∧ t p ≠ 99 ∧ t p ≠ 104 := by
        refine ⟨?_, ?_, ?_, ?_, ?_, ?_⟩ <;> (intro y; rw [y] at z0; exact absurd z0 (by decide))
      unfold T_X3_statement
      rw [nx, if_pos z]
      simp only [e_cV]
      rw [c98, c108, c103, c102, c99, c104, c0, i_eq (by omega) (by omega), i_eq (by omega) (by omega), i_eq (by omega) (by omega), i_eq (by omega) (by omega), i_eq (by omega) (by omega), i_eq (by omega) (by omega), if_neg ne.1, if_neg ne.2.1, if_neg ne.2.2.1, if_neg ne.2.2.2.1, if_neg ne.2.2.2.2.1, if_neg ne.2.2.2.2.2]
    · have hd := dcK_le (t p)
      have h1 : RD t N (p + 1) (up (up (up Y 16 j (t p)) 17 j p) 20 0 (p + 1)) := ((h.up (f := 16) (i := j) (x := t p) (by decide)).up (f := 17) (i := j) (x := p) (by decide)).go (p + 1)
      obtain ⟨r, Y1, a1, a2, a3, a4⟩ := ra_all h1 hN (by omega) (x := 3 * j) (by omega) z0
      have st : ∀ τ, T_X3_statement (Ro τ 13 Y) = cI (some (nI r, Ro τ 13 Y1)) (fun x9 σ10 => if x9 = nI 0 then some (nI 0, σ10) else cV (T_X3_next σ10) (fun x11 => if x11 = nI 59 then gf σ10 13 20 (fun x13 => pf σ10 13 20 (x13 + nI 1) (fun σ14 => some (nI 1, σ14))) else some (nI 0, σ10))) := by
        intro τ
        have j43 : T_X3_statement_j43 (nI (t p)) (Ro τ 13 Y) = cI (some (nI r, Ro τ 13 Y1)) (fun x9 σ10 => if x9 = nI 0 then some (nI 0, σ10) else cV (T_X3_next σ10) (fun x11 => if x11 = nI 59 then gf σ10 13 20 (fun x13 => pf σ10 13 20 (x13 + nI 1) (fun σ14 => some (nI 1, σ14))) else some (nI 0, σ10))) := by
          rw [← a1 τ]
          unfold T_X3_statement_j43
          rw [ro_gf, h21, ro_sd (by omega) (by omega), ro_gf, up_ne _ (by omega), h21, ro_gf, up_ne _ (by omega), h.2, ro_sd (by omega) (by omega), ro_gf, up_ne _ (by omega), up_ne _ (by omega), h.2, c1, nI_add, ro_pf, ro_gf, up_ne _ (by omega), up_ne _ (by omega), up_ne _ (by omega), h21, c3, q_mul]
          rfl
        have cases : (t p = 98 ∨ t p = 108) ∨ t p = 99 ∨ t p = 104 ∨ t p = 102 ∨ t p = 103 := by
          unfold dcK at z0
          split at z0
          · omega
          · split at z0
            · omega
            · split at z0 <;> omega
        rw [← j43]
        unfold T_X3_statement
        rw [nx, if_pos z]
        simp only [e_cV]
        rcases cases with (k | k) | k | k | k | k <;> rw [k]
        · rw [c98, if_pos (by trivial)]
        · rw [c98, if_neg (by decide), c108, if_pos (by trivial)]
        · rw [c98, if_neg (by decide), c108, if_neg (by decide), c103, if_neg (by decide), c102, if_neg (by decide), c99, if_pos (by trivial)]
        · rw [c98, if_neg (by decide), c108, if_neg (by decide), c103, if_neg (by decide), c102, if_neg (by decide), c99, if_neg (by decide), c104, if_pos (by trivial)]
        · rw [c98, if_neg (by decide), c108, if_neg (by decide), c103, if_neg (by decide), c102, if_pos (by trivial)]
        · rw [c98, if_neg (by decide), c108, if_neg (by decide), c103, if_pos (by trivial)]
      have g1 : ∀ g i, g ≠ 16 → g ≠ 17 → g ≠ 18 → g ≠ 20 → Y1 g i = Y g i := fun g i q1 q2 q3 q4 => by rw [a2 g i q3 q4, up_ne _ (by omega), up_ne _ (by omega), up_ne _ (by omega)]
      have g2 : ∀ i, i < j → Y1 16 i = Y 16 i ∧ Y1 17 i = Y 17 i := fun i hi => ⟨by rw [a2 _ _ (by omega) (by omega), up_ne _ (by omega), up_ne _ (by omega), up_ne _ (by omega)], by rw [a2 _ _ (by omega) (by omega), up_ne _ (by omega), up_ne _ (by omega), up_ne _ (by omega)]⟩
      have g3 : ∀ i, i < 3 * j → Y1 18 i = Y 18 i := fun i hi => by rw [a3 i hi, up_ne _ (by omega), up_ne _ (by omega), up_ne _ (by omega)]
      rcases a4 with ⟨rfl, b1, b2, b3, b4⟩ | ⟨rfl, b1, b2⟩
      · have h2 : RD t N (p + 1 + dcK (t p)) Y1 := ⟨⟨by rw [a2 _ _ (by decide) (by decide)]; exact h1.1.1, fun k hk => by rw [a2 _ _ (by decide) (by decide)]; exact h1.1.2 k hk⟩, b2⟩
        have nx2 := fun τ => h2.next (τ := τ) hN (by omega)
        by_cases y : p + 1 + dcK (t p) < N ∧ t (p + 1 + dcK (t p)) = 59
        · refine ⟨1, up Y1 20 0 (p + 1 + dcK (t p) + 1), fun τ => ?_, fun g i q1 q2 q3 q4 => ?_, fun i hi => ⟨?_, ?_⟩, fun i hi => ?_, Or.inl ⟨rfl, z, z0, ?_, ?_, ?_, ?_, ?_⟩⟩
          · rw [st]
            simp only [e_cI]
            rw [if_neg (by decide), nx2, if_pos y.1, y.2]
            simp only [e_cV]
            rw [if_pos (by trivial), ro_gf, b2, nI_add, ro_pf]
          · rw [up_ne _ (by omega)]; exact g1 g i q1 q2 q3 q4
          · rw [up_ne _ (by omega)]; exact (g2 i hi).1
          · rw [up_ne _ (by omega)]; exact (g2 i hi).2
          · rw [up_ne _ (by omega)]; exact g3 i hi
          · rw [b1, scN_0t y]
          · rw [up_at]; omega
          · rw [up_ne _ (by omega), a2 _ _ (by decide) (by decide), up_ne _ (by omega), up_ne _ (by omega), up_at]
          · rw [up_ne _ (by omega), a2 _ _ (by decide) (by decide), up_ne _ (by omega), up_at]
          · exact b4.same (fun i hi => up_ne _ (by omega))
        · refine ⟨0, Y1, fun τ => ?_, g1, g2, g3, Or.inr ⟨rfl, by omega, Or.inr (Or.inr ⟨z, z0, ?_, ?_⟩)⟩⟩
          · rw [st]
            simp only [e_cI]
            rw [if_neg (by decide), nx2]
            simp only [e_cV]
            by_cases y1 : p + 1 + dcK (t p) < N
            · have tq := (h2.1.2 _ y1).2
              rw [if_pos y1, if_neg (by rw [q_eq (by omega) (by omega)]; exact fun w => y ⟨y1, w⟩)]
            · rw [if_neg y1, if_neg (by decide)]
          · rw [b1, scN_0f y]; omega
          · rw [b1, scN_0f y]; exact b2
      · have hle := scN_le (t := t) (N := N) (dcK (t p)) (p + 1) (by omega)
        refine ⟨0, Y1, fun τ => ?_, g1, g2, g3, Or.inr ⟨rfl, b2, Or.inr (Or.inr ⟨z, z0, by omega, b1.symm⟩)⟩⟩
        rw [st]
        simp only [e_cI]
        rw [if_pos (by trivial)]
  · refine ⟨0, Y, fun τ => ?_, fun _ _ _ _ _ _ => rfl, fun _ _ => ⟨rfl, rfl⟩, fun _ _ => rfl, Or.inr ⟨rfl, by rw [h.2]; exact hp, Or.inl ⟨by omega, h.2⟩⟩⟩
    unfold T_X3_statement
    rw [nx, if_neg z]
    simp only [e_cV]
    rw [if_neg (by decide), if_neg (by decide), if_neg (by decide), if_neg (by decide), if_neg (by decide), if_neg (by decide), c0]
/-- both sides read alike -/
theorem parse (hN : N ≤ 96) (hA : ∀ k, k < N → A 6 k = t k ∧ t k ≤ 255) : ∀ r j n m (v2 : Int32) Y, N + 3 ≤ stN t j + 3 * r → j + r ≤ 40 → stN t j ≤ N → (stN t j = 0 ∨ t (stN t j - 1) = 59) → (stN t j = 0 → j = 0) → RD t N (stN t j) Y → Y 21 0 = j → (∀ i, i < j → GdS t N i ∧ Rec t Y i) → 6 * r ≤ n → r < m → ∃ Y', (∀ g i, g ≠ 16 → g ≠ 17 → g ≠ 18 → g ≠ 20 → g ≠ 21 → Y' g i = Y g i) ∧ ((∃ J, 1 ≤ J ∧ J ≤ 40 ∧ stN t J = N ∧ (∀ i, i < J → GdS t N i ∧ Rec t Y' i) ∧ Y' 21 0 = J ∧ (∀ τ, T_X2_formFault_L5 (Ro τ 0 A) n (nI N) v2 (nI (stN t j)) = some (nI NN)) ∧ ∀ τ, T_X3_bequest_L12 m (nI 1) (Ro τ 13 Y) = T_X3_bequest_j60 (nI 1) (Ro τ 13 Y')) ∨ (∃ f, f ≤ N ∧ Y' 20 0 = f ∧ (∀ τ, T_X2_formFault_L5 (Ro τ 0 A) n (nI N) v2 (nI (stN t j)) = some (nI f)) ∧ ∀ τ, T_X3_bequest_L12 m (nI 1) (Ro τ 13 Y) = T_X3_bequest_j60 (nI 0) (Ro τ 13 Y'))) := by
  intro r
  induction r with
  | zero => intro j n m v2 Y h1 h2 h3; omega
  | succ r ih =>
    intro j n m v2 Y h1 h2 h3 h4 h5 hR h21 hI hn hm
    obtain ⟨m, rfl⟩ := fu_one (by omega : 0 < m)
    have hd := dcK_le (t (stN t j))
    by_cases fin : stN t j = N ∧ j ≠ 0
    · refine ⟨Y, fun _ _ _ _ _ _ _ => rfl, Or.inl ⟨j, by omega, by omega, fin.1, hI, h21, fun τ => ?_, fun τ => ?_⟩⟩
      · obtain ⟨n, rfl⟩ := fu_one (by omega : 0 < n)
        have hne : stN t j ≠ 0 := fun q => fin.2 (h5 q)
        have h59 : t (N - 1) = 59 := by rw [← fin.1]; omega
        unfold T_X2_formFault_L5
        rw [fin.1, if_pos (by rw [q_le (by omega) (by omega)]; omega), c0, if_neg (by rw [q_le (by omega) (by omega)]; omega), c1, q_sub (by omega), ro_ld (by omega) (by omega), (hA _ (by omega)).1, h59, show (59 : Int32) = nI 59 from id rfl, if_pos (by trivial), q_m9]
      · unfold T_X3_bequest_L12
        rw [c0, if_neg (by decide), ro_gf, ro_gf, hR.2, hR.1.1, if_neg (by rw [q_lt (by omega) (by omega)]; omega), ro_gf, h21, if_neg (by rw [q_eq (by omega) (by omega)]; exact fin.2)]
    · have go : ∀ τ, T_X3_bequest_L12 (m + 1) (nI 1) (Ro τ 13 Y) = T_X3_bequest_j34 (fun v1 s => T_X3_bequest_L12 m v1 s) (Ro τ 13 Y) := by
        intro τ
        conv => lhs; unfold T_X3_bequest_L12
        rw [c0, if_neg (by decide), ro_gf, ro_gf, hR.2, hR.1.1]
        by_cases q : stN t j < N
        · rw [if_pos (by rw [q_lt (by omega) (by omega)]; exact q)]
        · rw [if_neg (by rw [q_lt (by omega) (by omega)]; exact q), ro_gf, h21, if_pos (by rw [q_eq (by omega) (by omega)]; exact Classical.not_not.mp (fun y => fin ⟨by omega, y⟩))]
      obtain ⟨x, Y1, s1, s2, s3, s4, s5⟩ := x3_stm hN hR h3 h21 (by omega)
      have e21 : Y1 21 0 = j := by rw [s2 _ _ (by decide) (by decide) (by decide) (by decide)]; exact h21
      rcases s5 with ⟨rfl, b1, b2, b3, b4, b5, b6, b7⟩ | ⟨rfl, b1, b2⟩
      · have ok := scN_ok _ _ hN b3 (by omega)
        have est : stN t (j + 1) = stN t j + dcK (t (stN t j)) + 2 := rfl
        have k1 := h1
        have hdp : 1 ≤ dcK (t (stN t j)) := by omega
        obtain ⟨Y', i1, i2⟩ := ih (j + 1) (n - (dcK (t (stN t j)) + 2)) m (nI 0) (up Y1 21 0 (j + 1)) (by omega) (by omega) (by omega) (Or.inr (by
          rw [est, show stN t j + dcK (t (stN t j)) + 2 - 1 = stN t j + 1 + dcK (t (stN t j)) by omega]
          exact ok.2.2)) (fun q => by omega) (by
          refine RD.up ⟨⟨?_, fun k hk => ?_⟩, ?_⟩ (by decide)
          · rw [s2 _ _ (by decide) (by decide) (by decide) (by decide)]; exact hR.1.1
          · rw [s2 _ _ (by decide) (by decide) (by decide) (by decide)]; exact hR.1.2 k hk
          · rw [b4]; rfl) (up_at _ _ _ _) (fun i hi => by
          by_cases q : i = j
          · subst q
            refine ⟨⟨b1, b2, b3⟩, ?_, ?_, ?_⟩
            · rw [up_ne _ (by omega)]; exact b5
            · rw [up_ne _ (by omega)]; exact b6
            · exact b7.same (fun i hi => up_ne _ (by omega))
          · have o := hI i (by omega)
            refine ⟨o.1, ?_, ?_, ?_⟩
            · rw [up_ne _ (by omega), (s3 i (by omega)).1]; exact o.2.1
            · rw [up_ne _ (by omega), (s3 i (by omega)).2]; exact o.2.2.1
            · exact o.2.2.2.same (fun k hk => by rw [up_ne _ (by omega), s4 k (by omega)])) (by omega) (by omega)
        have cls : ∀ τ, T_X2_formFault_L5 (Ro τ 0 A) n (nI N) v2 (nI (stN t j)) = T_X2_formFault_L5 (Ro τ 0 A) (n - (dcK (t (stN t j)) + 2)) (nI N) (nI 0) (nI (stN t (j + 1))) := by
          intro τ
          have := ff_start (τ := τ) hN hA (n := n - (dcK (t (stN t j)) + 2)) (v2 := v2) b1 h4
          rw [show n - (dcK (t (stN t j)) + 2) + dcK (t (stN t j)) + 2 = n by omega, if_neg b2, if_pos b3] at this
          exact this
        have ref : ∀ τ, T_X3_bequest_L12 (m + 1) (nI 1) (Ro τ 13 Y) = T_X3_bequest_L12 m (nI 1) (Ro τ 13 (up Y1 21 0 (j + 1))) := by
          intro τ
          rw [go]
          unfold T_X3_bequest_j34
          rw [s1]
          simp only [e_cI]
          rw [ro_gf, e21, c0, if_neg (by decide), c1, nI_add, ro_pf]
        refine ⟨Y', fun g i q1 q2 q3 q4 q5 => by rw [i1 g i q1 q2 q3 q4 q5, up_ne _ (by omega), s2 g i q1 q2 q3 q4], ?_⟩
        rcases i2 with ⟨J, c1', c2', c3', c4', c5', c6', c7'⟩ | ⟨f, c1', c2', c3', c4'⟩
        · exact Or.inl ⟨J, c1', c2', c3', c4', c5', fun τ => (cls τ).trans (c6' τ), fun τ => (ref τ).trans (c7' τ)⟩
        · exact Or.inr ⟨f, c1', c2', fun τ => (cls τ).trans (c3' τ), fun τ => (ref τ).trans (c4' τ)⟩
      · obtain ⟨m2, rfl⟩ := fu_one (by omega : 0 < m)
        refine ⟨up Y1 21 0 j, fun g i q1 q2 q3 q4 q5 => by rw [up_ne _ (by omega), s2 g i q1 q2 q3 q4], Or.inr ⟨Y1 20 0, b1, up_ne _ (by omega), fun τ => ?_, fun τ => ?_⟩⟩
        · rcases b2 with ⟨d1', d2'⟩ | ⟨d1', d2', d3'⟩ | ⟨d1', d2', d3', d4'⟩
          · have e0 : j = 0 := Classical.not_not.mp (fun y => fin ⟨by omega, y⟩)
            subst e0
            have e00 : stN t 0 = 0 := rfl
            have N0 : N = 0 := by omega
            obtain ⟨n, rfl⟩ := fu_one (by omega : 0 < n)
            rw [d2', e00, N0]
            unfold T_X2_formFault_L5
            rw [if_pos (by decide), c0, if_pos (by decide)]
          · have := ff_start (τ := τ) hN hA (n := n - (dcK (t (stN t j)) + 2)) (v2 := v2) d1' h4
            rw [show n - (dcK (t (stN t j)) + 2) + dcK (t (stN t j)) + 2 = n by omega, if_pos d2'] at this
            rw [this, d3']
          · have := ff_start (τ := τ) hN hA (n := n - (dcK (t (stN t j)) + 2)) (v2 := v2) d1' h4
            rw [show n - (dcK (t (stN t j)) + 2) + dcK (t (stN t j)) + 2 = n by omega, if_neg d2', if_neg d3'] at this
            rw [this, d4']
        · rw [go]
          unfold T_X3_bequest_j34
          rw [s1]
          simp only [e_cI]
          rw [ro_gf, e21, c0, if_pos (by trivial), nI_add, Nat.add_zero, ro_pf]
          conv => lhs; unfold T_X3_bequest_L12
          rw [c0, if_pos (by trivial)]
end Par
