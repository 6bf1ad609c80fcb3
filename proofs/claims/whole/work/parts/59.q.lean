/-! count -/
theorem sumN_swap (f : Nat → Nat → Nat) : ∀ r l r' l', sumN (fun i => sumN (fun j => f i j) r' l') r l = sumN (fun j => sumN (fun i => f i j) r l) r' l'
  | 0, l, r', l' => by
    show 0 = sumN (fun j => 0) r' l'
    have z : ∀ r' l', sumN (fun _ => 0) r' l' = 0 := by
      intro r'
      induction r' with
      | zero => intro l'; rfl
      | succ r' ih => intro l'; show 0 + sumN (fun _ => 0) r' (l' + 1) = 0; rw [ih]
    exact (z r' l').symm
  | r + 1, l, r', l' => by
    show sumN (fun j => f l j) r' l' + sumN (fun i => sumN (fun j => f i j) r' l') r (l + 1) = sumN (fun j => f l j + sumN (fun i => f i j) r (l + 1)) r' l'
    rw [sumN_swap f r (l + 1) r' l']
    have a : ∀ (g h : Nat → Nat) r' l', sumN g r' l' + sumN h r' l' = sumN (fun j => g j + h j) r' l' := by
      intro g h r'
      induction r' with
      | zero => intro l'; rfl
      | succ r' ih =>
        intro l'
        show g l' + sumN g r' (l' + 1) + (h l' + sumN h r' (l' + 1)) = g l' + h l' + sumN (fun j => g j + h j) r' (l' + 1)
        rw [← ih]; omega
    exact a _ _ r' l'
theorem sumN_ind (c : Nat) : ∀ r l, sumN (fun j => if c = j then 1 else 0) r l = if l ≤ c ∧ c < l + r then 1 else 0
  | 0, l => by
    show 0 = _
    rw [if_neg (by omega)]
  | r + 1, l => by
    show (if c = l then 1 else 0) + sumN (fun j => if c = j then 1 else 0) r (l + 1) = _
    rw [sumN_ind c r (l + 1)]
    by_cases e : c = l
    · rw [if_pos e, if_neg (by omega), if_pos (by omega)]
    · rw [if_neg e]
      by_cases e2 : l + 1 ≤ c ∧ c < l + 1 + r
      · rw [if_pos e2, if_pos (by omega)]
      · rw [if_neg e2, if_neg (by omega)]
section Cnt
variable {G : GG} {P : Nat → Nat} {C A S F X Y Z D S0 : SS} {τ : TT} {a o : Nat}
theorem had_eq (W : WF S) : sumN (fun b => if who S b < 9 then 1 else 0) (S 11 0) 0 = sumN (fun l => if S 9 l < 9 then 1 else 0) (S 12 0) 0 := by
  have h11 := W.nb
  have h12 := W.nl
  have e1 : sumN (fun b => if who S b < 9 then 1 else 0) (S 11 0) 0 = sumN (fun b => sumN (fun l => if S 9 l = b then 1 else 0) (S 12 0) 0) (S 11 0) 0 := by
    refine sumN_congr _ _ (fun b _ hb => ?_)
    show (if who S b < 9 then 1 else 0) = sumN (fun l => if S 9 l = b then 1 else 0) (S 12 0) 0
    rcases who_spec S b with ⟨h1, h2⟩ | ⟨h1, h2, -⟩
    · rw [h1, if_neg (by decide)]
      have z : ∀ r l, (∀ k, l ≤ k → k < l + r → S 9 k ≠ b) → sumN (fun l => if S 9 l = b then 1 else 0) r l = 0 := by
        intro r
        induction r with
        | zero => intros; rfl
        | succ r ih =>
          intro l h
          show (if S 9 l = b then 1 else 0) + sumN (fun l => if S 9 l = b then 1 else 0) r (l + 1) = 0
          rw [if_neg (h l (Nat.le_refl _) (by omega)), ih (l + 1) (fun k a c => h k (by omega) (by omega))]
      exact (z (S 12 0) 0 (fun k _ hk => h2 k (by omega))).symm
    · rw [if_pos (by omega)]
      have := sumN_ind (who S b) (S 12 0) 0
      rw [if_pos (by omega)] at this
      refine this.symm.trans (sumN_congr _ _ (fun l _ hl => ?_))
      show (if who S b = l then 1 else 0) = if S 9 l = b then 1 else 0
      by_cases e : who S b = l
      · rw [if_pos e, if_pos (by rw [← e]; exact h2)]
      · rw [if_neg e, if_neg (fun q => e (W.inj h1 (by omega) (h2.trans q.symm) (by omega)))]
  rw [e1, sumN_swap (fun b l => if S 9 l = b then 1 else 0)]
  refine sumN_congr _ _ (fun l _ hl => ?_)
  show sumN (fun b => if S 9 l = b then 1 else 0) (S 11 0) 0 = if S 9 l < 9 then 1 else 0
  rw [sumN_ind]
  have w := (W.bea (l := l) (by omega)).2.2.2.1
  by_cases e : S 9 l < 9
  · rw [if_pos e, if_pos (by omega)]
  · rw [if_neg e, if_neg (by omega)]
theorem x0_hadL (W : WF S) (R : SB C S) : ∀ r b x n, b + r = S 11 0 → r < n → T_X0_bagsHad_L4 o (Ro τ o C) n (nI x) (nI b) = some (nI (x + sumN (fun b => if who S b < 9 then 1 else 0) r b)) := by
  have h11 := W.nb
  have r0 := R.1.1
  intro r
  induction r with
  | zero =>
    intro b x n h hn
    obtain ⟨n, rfl⟩ := fu_one hn
    unfold T_X0_bagsHad_L4
    rw [ro_gf, r0, if_pos (by rw [q_le (by omega) (by omega)]; omega)]
    rfl
  | succ r ih =>
    intro b x n h hn
    obtain ⟨n, rfl⟩ := fu_one (by omega : 0 < n)
    have hw := who_le W b
    unfold T_X0_bagsHad_L4
    rw [ro_gf, r0, if_neg (by rw [q_le (by omega) (by omega)]; omega), ro_ld (by omega) (by omega), (R.bag (b := b) (by omega)).2.2.2.2.2, c0, c1, nI_add, nI_add]
    simp only [e_vl]
    show _ = some (nI (x + ((if who S b < 9 then 1 else 0) + sumN (fun b => if who S b < 9 then 1 else 0) r (b + 1))))
    by_cases e : who S b = 9
    · rw [if_pos ((kN_neg hw).mpr e), if_neg (by omega), ih (b + 1) x n (by omega) (by omega), Nat.zero_add]
    · rw [if_neg (fun q => e ((kN_neg hw).mp q)), if_pos (by omega), ih (b + 1) (x + 1) n (by omega) (by omega), Nat.add_assoc]
theorem x3_hadL (W : WF S) : ∀ r l x n, l + r = S 12 0 → r < n → T_X3_count_L102 (Ro τ 13 S) n (nI x) (nI l) = some (nI (x + sumN (fun l => if S 9 l < 9 then 1 else 0) r l)) := by
  have h12 := W.nl
  have h11 := W.nb
  intro r
  induction r with
  | zero =>
    intro l x n h hn
    obtain ⟨n, rfl⟩ := fu_one hn
    unfold T_X3_count_L102
    rw [ro_gf, if_pos (by rw [q_le (by omega) (by omega)]; omega)]
    rfl
  | succ r ih =>
    intro l x n h hn
    obtain ⟨n, rfl⟩ := fu_one (by omega : 0 < n)
    have w := (W.bea (l := l) (by omega)).2.2.2.1
    unfold T_X3_count_L102
    rw [ro_gf, if_neg (by rw [q_le (by omega) (by omega)]; omega), ro_ld (by omega) (by omega), c9, i_le (by omega) (by omega), c0, c1, nI_add, nI_add]
    simp only [e_vl]
    rw [nI_add]
    show _ = some (nI (x + ((if S 9 l < 9 then 1 else 0) + sumN (fun l => if S 9 l < 9 then 1 else 0) r (l + 1))))
    by_cases e : 9 ≤ S 9 l
    · rw [if_pos e, if_neg (by omega), ih (l + 1) (x + 0) n (by omega) (by omega), Nat.add_assoc]
    · rw [if_neg e, if_pos (by omega), ih (l + 1) (x + 1) n (by omega) (by omega), Nat.add_assoc]
theorem now_ledL (J : Inv G P) : ∀ r l x n, l + r = G 13 12 0 → r < n → T_X0_ledOnes_L4 1 (Ro (G, P) 2 C) n (nI x) (nI l) = some (nI (x + sumN (fun l => if led (G 13) l then 1 else 0) r l)) := by
  have h12 := J.wf.nl
  have r7 : G 1 7 0 = G 13 12 0 := J.sb.1.2.1
  intro r
  induction r with
  | zero =>
    intro l x n h hn
    obtain ⟨n, rfl⟩ := fu_one hn
    unfold T_X0_ledOnes_L4
    rw [now_gf, r7, if_pos (by rw [q_le (by omega) (by omega)]; omega)]
    rfl
  | succ r ih =>
    intro l x n h hn
    obtain ⟨n, rfl⟩ := fu_one (by omega : 0 < n)
    unfold T_X0_ledOnes_L4
    rw [now_gf, r7, if_neg (by rw [q_le (by omega) (by omega)]; omega), now_led J (by omega)]
    simp only [e_cV, e_vl]
    rw [c0, c1, nI_add, nI_add]
    show _ = some (nI (x + ((if led (G 13) l then 1 else 0) + sumN (fun l => if led (G 13) l then 1 else 0) r (l + 1))))
    by_cases e : led (G 13) l
    · rw [if_pos e, if_neg (by decide), ih (l + 1) (x + 1) n (by omega) (by omega), Nat.add_assoc]
    · rw [if_neg e, if_pos (by trivial), ih (l + 1) x n (by omega) (by omega), Nat.zero_add]
theorem x3_ledOL (W : WF S) : ∀ r l x n, l + r = S 12 0 → r < n → T_X3_count_L144 (Ro τ 13 S) n (nI x) (nI l) = some (nI (x + sumN (fun l => if led S l then 1 else 0) r l)) := by
  have h12 := W.nl
  intro r
  induction r with
  | zero =>
    intro l x n h hn
    obtain ⟨n, rfl⟩ := fu_one hn
    unfold T_X3_count_L144
    rw [ro_gf, if_pos (by rw [q_le (by omega) (by omega)]; omega)]
    rfl
  | succ r ih =>
    intro l x n h hn
    obtain ⟨n, rfl⟩ := fu_one (by omega : 0 < n)
    unfold T_X3_count_L144
    rw [ro_gf, if_neg (by rw [q_le (by omega) (by omega)]; omega), x3_isLed W (by omega)]
    simp only [e_cV, e_vl]
    rw [c0, c1, nI_add, nI_add, nI_add]
    show _ = some (nI (x + ((if led S l then 1 else 0) + sumN (fun l => if led S l then 1 else 0) r (l + 1))))
    by_cases e : led S l
    · rw [if_pos e, if_pos e, if_neg (by decide), ih (l + 1) (x + 1) n (by omega) (by omega), Nat.add_assoc]
    · rw [if_neg e, if_neg e, if_pos (by trivial), ih (l + 1) (x + 0) n (by omega) (by omega), Nat.add_assoc]
theorem ok_count (J : Inv G P) (a0 : Int32) : ∃ r, T_X2_count (nV G, P) a0 = some r ∧ ∀ τ, T_X3_count (Ro τ 13 (G 13)) a0 = some r := by
  have W := J.wf
  have h12 := W.nl
  have h11 := W.nb
  rw [Ro_G (o := 2)]
  rcases in_or_out a0 17 (by decide) with ⟨x, hx, rfl⟩ | ho
  · by_cases hx11 : 11 ≤ x
    · refine ⟨nI (G 13 0 (x - 10)), ?_, fun τ => ?_⟩
      · unfold T_X2_count
        have ne : ∀ k, k < 11 → ¬ nI x = nI k := fun k hk => by rw [q_eq (by omega) (by omega)]; omega
        rw [c0, if_neg (ne 0 (by decide)), c1, if_neg (ne 1 (by decide)), c2, if_neg (ne 2 (by decide)), c3, if_neg (ne 3 (by decide)), c4, if_neg (ne 4 (by decide)), c5, if_neg (ne 5 (by decide)), c6, if_neg (ne 6 (by decide)), c7, if_neg (ne 7 (by decide)), c8, if_neg (ne 8 (by decide)), c9, if_neg (ne 9 (by decide)), show (11 : Int32) = nI 11 from rfl, if_neg (by rw [q_lt (by omega) (by omega)]; omega), show (16 : Int32) = nI 16 from rfl, if_neg (by rw [q_lt (by omega) (by omega)]; omega), c10, q_sub (by omega), rx_ld (by decide) (by omega) (by omega)]
        show some (nI (G 0 10 (x - 10))) = _
        rw [J.pC (x - 10) (by omega)]
      · unfold T_X3_count T_X3_isIn
        rw [show (11 : Int32) = nI 11 from rfl, if_neg (by rw [q_lt (by omega) (by omega)]; omega), show (16 : Int32) = nI 16 from rfl, if_neg (by rw [q_lt (by omega) (by omega)]; omega)]
        simp only [e_cV]
        rw [c1, c0, if_neg (by decide), c10, q_sub (by omega), ro_ld (by omega) (by omega)]
    · have nin : ∀ τ, T_X3_isIn (Ro τ 13 (G 13)) (nI x) 11 16 = some (nI 0) := fun τ => by
        unfold T_X3_isIn
        rw [show (11 : Int32) = nI 11 from rfl, if_pos (by rw [q_lt (by omega) (by omega)]; omega), c0]
      have r0 : G 1 0 0 = G 13 11 0 := J.sb.1.1
      have r7 : G 1 7 0 = G 13 12 0 := J.sb.1.2.1
      have r13 : G 1 13 0 = G 13 14 0 := J.sb.1.2.2.1
      have r14 : G 1 14 0 = G 13 13 0 := J.sb.1.2.2.2
      have hx' : x = 0 ∨ x = 1 ∨ x = 2 ∨ x = 3 ∨ x = 4 ∨ x = 5 ∨ x = 6 ∨ x = 7 ∨ x = 8 ∨ x = 9 ∨ x = 10 := by omega
      have rx0 : ∀ {α : Type} k (F : Int32 → Option α), gf (Ro (G, P) 2 (G 2)) 0 k F = F (nI (G 0 k 0)) := fun k F => rx_gf (by decide)
      have pc : T_X2_count (Ro (G, P) 2 (G 2)) (nI x) = if x = 0 then some (nI (G 13 11 0)) else if x = 1 then some (nI (G 13 12 0)) else if x = 2 then some (nI (G 13 13 0)) else if x = 3 then some (nI (G 13 14 0)) else if x = 4 then T_X0_bagsHad 1 (Ro (G, P) 2 (G 2)) else if x = 5 then T_X0_allBreath 1 (Ro (G, P) 2 (G 2)) else if x = 6 then T_X0_ledOnes 1 (Ro (G, P) 2 (G 2)) else if x = 7 then some (nI (G 0 7 0)) else if x = 8 then some (nI (G 0 9 0)) else if x = 9 then some (nI (G 0 5 0)) else some (nI NN) := by
        unfold T_X2_count
        rw [c0, i_eq (by omega) (by omega), c1, i_eq (by omega) (by omega), c2, i_eq (by omega) (by omega), c3, i_eq (by omega) (by omega), c4, i_eq (by omega) (by omega), c5, i_eq (by omega) (by omega), c6, i_eq (by omega) (by omega), c7, i_eq (by omega) (by omega), c8, i_eq (by omega) (by omega), c9, i_eq (by omega) (by omega), now_gf, r0, now_gf, r7, now_gf, r14, now_gf, r13, cV_id, cV_id, cV_id, rx0, rx0, rx0, show (11 : Int32) = nI 11 from rfl, if_pos (show nI x < nI 11 by rw [q_lt (by omega) (by omega)]; omega), m9]
      have pr : ∀ τ, T_X3_count (Ro τ 13 (G 13)) (nI x) = if x = 0 then some (nI (G 13 11 0)) else if x = 1 then some (nI (G 13 12 0)) else if x = 2 then some (nI (G 13 13 0)) else if x = 3 then some (nI (G 13 14 0)) else if x = 4 then T_X3_count_L102 (Ro τ 13 (G 13)) FU (nI 0) (nI 0) else if x = 5 then T_X3_allBreath (Ro τ 13 (G 13)) else if x = 6 then T_X3_count_L144 (Ro τ 13 (G 13)) FU (nI 0) (nI 0) else if x = 7 then some (nI (G 13 19 0)) else if x = 8 then some (nI (G 13 35 0)) else if x = 9 then some (nI (G 13 26 0)) else some (nI NN) := by
        intro τ
        unfold T_X3_count
        rw [nin]
        simp only [e_cV]
        rw [c0, if_pos (by trivial), i_eq (by omega) (by omega), c1, i_eq (by omega) (by omega), c2, i_eq (by omega) (by omega), c3, i_eq (by omega) (by omega), c4, i_eq (by omega) (by omega), c5, i_eq (by omega) (by omega), c6, i_eq (by omega) (by omega), c7, i_eq (by omega) (by omega), c8, i_eq (by omega) (by omega), c9, i_eq (by omega) (by omega), ro_gf, ro_gf, ro_gf, ro_gf, cV_id, ro_gf, ro_gf, ro_gf, m9]
      have fin : ∀ r, T_X2_count (Ro (G, P) 2 (G 2)) (nI x) = some r → (∀ τ, T_X3_count (Ro τ 13 (G 13)) (nI x) = some r) → ∃ r, T_X2_count (Ro (G, P) 2 (G 2)) (nI x) = some r ∧ ∀ τ, T_X3_count (Ro τ 13 (G 13)) (nI x) = some r := fun r h1 h2 => ⟨r, h1, h2⟩
      rcases hx' with rfl | rfl | rfl | rfl | rfl | rfl | rfl | rfl | rfl | rfl | rfl
      · exact fin _ pc pr
      · exact fin _ pc pr
      · exact fin _ pc pr
      · exact fin _ pc pr
      · refine fin (nI (0 + sumN (fun b => if who (G 13) b < 9 then 1 else 0) (G 13 11 0) 0)) (pc.trans ?_) (fun τ => (pr τ).trans ?_)
        · show T_X0_bagsHad 1 _ = _
          unfold T_X0_bagsHad
          rw [Ro_sw, c0]
          exact x0_hadL W J.sb (G 13 11 0) 0 0 FU (by omega) (FU_gt (by omega))
        · rw [had_eq W]
          exact x3_hadL W (G 13 12 0) 0 0 FU (by omega) (FU_gt (by omega))
      · refine fin (nI (sumN (G 13 10) (G 13 12 0) 0)) (pc.trans ?_) (fun τ => (pr τ).trans ?_)
        · show T_X0_allBreath 1 _ = _
          rw [Ro_sw]
          exact x0_breath W J.sb
        · exact x3_breath W
      · refine fin (nI (0 + sumN (fun l => if led (G 13) l then 1 else 0) (G 13 12 0) 0)) (pc.trans ?_) (fun τ => (pr τ).trans ?_)
        · show T_X0_ledOnes 1 _ = _
          unfold T_X0_ledOnes
          rw [c0]
          exact now_ledL J (G 13 12 0) 0 0 FU (by omega) (FU_gt (by omega))
        · exact x3_ledOL W (G 13 12 0) 0 0 FU (by omega) (FU_gt (by omega))
      · refine fin (nI (G 0 7 0)) pc (fun τ => ?_)
        rw [J.pL.1]; exact pr τ
      · refine fin (nI (G 0 9 0)) pc (fun τ => ?_)
        rw [J.pR.1]; exact pr τ
      · refine fin (nI (G 0 5 0)) pc (fun τ => ?_)
        rw [J.pP.1]; exact pr τ
      · exact fin _ pc pr
  · refine ⟨-9, ?_, fun τ => ?_⟩
    · unfold T_X2_count
      have ne := fun k (hk : k < 17) => out_ne ho (by decide) (j := k) hk
      simp only [d0, d1, d2, d3, d4, d5, d6, d7, d8, d9, ne 0 (by decide), ne 1 (by decide), ne 2 (by decide), ne 3 (by decide), ne 4 (by decide), ne 5 (by decide), ne 6 (by decide), ne 7 (by decide), ne 8 (by decide), ne 9 (by decide), if_false]
      rcases ho with ⟨h1, h2⟩ | h
      · have q : nI 16 < a0 := (lt_le (by decide)).mpr h2
        rw [show (16 : Int32) = nI 16 from rfl, if_pos q, ite_self]
      · have q : a0 < nI 11 := by
          rw [Int32.lt_iff_toInt_lt, nI_toInt (by omega)] at h ⊢
          omega
        rw [show (11 : Int32) = nI 11 from rfl, if_pos q]
    · unfold T_X3_count T_X3_isIn
      have ne := fun k (hk : k < 17) => out_ne ho (by decide) (j := k) hk
      have inn : (if a0 < 11 then some 0 else if 16 < a0 then some 0 else some 1 : Option Int32) = some (nI 0) := by
        rcases ho with ⟨h1, h2⟩ | h
        · have q : nI 16 < a0 := (lt_le (by decide)).mpr h2
          rw [show (16 : Int32) = nI 16 from rfl, if_pos q, ite_self]; rfl
        · have q : a0 < nI 11 := by
            rw [Int32.lt_iff_toInt_lt, nI_toInt (by omega)] at h ⊢
            omega
          rw [show (11 : Int32) = nI 11 from rfl, if_pos q]; rfl
      rw [inn]
      simp only [e_cV, d0, d1, d2, d3, d4, d5, d6, d7, d8, d9, eq00, if_true, ne 0 (by decide), ne 1 (by decide), ne 2 (by decide), ne 3 (by decide), ne 4 (by decide), ne 5 (by decide), ne 6 (by decide), ne 7 (by decide), ne 8 (by decide), ne 9 (by decide), if_false]
end Cnt
