/-! CHANGES: the calls -/
section Calls
variable {G : GG} {P : Nat → Nat} {C S F X D : SS} {τ : TT}
theorem TK.aB (K : TK S) {k f h : Nat} (hk : k ≤ 5) (hf : f ≤ 9) (hh : h ≤ 9) (hb : S 11 0 < 6) : TK (aBS S k f h) := ⟨K.1.aB hk hf hh hb, by rw [aB_oth (by omega)]; exact K.2.1, by rw [aB_oth (by omega)]; exact K.2.2⟩
theorem TK.aL (K : TK S) {w v a : Nat} (hw : w ≤ 9) (hv : v ≤ 9) (ha : a ≤ 9) (hl : S 12 0 < 5) : TK (aLS S w v a) := ⟨K.1.aL hw hv ha hl, by rw [aL_oth (by omega)]; exact K.2.1, by rw [aL_oth (by omega)]; exact K.2.2⟩
theorem TK.bf (K : TK S) {a b : Nat} (ha : a < S 11 0) (hb : b < S 11 0) : TK (bfS S a b) := ⟨K.1.bf ha hb, by rw [bf_oth (by decide)]; exact K.2.1, by rw [bf_oth (by decide)]; exact K.2.2⟩
theorem TK.up26 (K : TK S) {x : Nat} : TK (up S 26 0 x) := ⟨K.1.upT (by decide), by rw [up_ne _ (by omega)]; exact K.2.1, by rw [up_ne _ (by omega)]; exact K.2.2⟩
theorem SB.up26 (R : SB C S) {x : Nat} : SB C (up S 26 0 x) := by
  have hwho : ∀ b, who (up S 26 0 x) b = who S b := fun b => who_up (by decide) (by decide)
  have ns : ∀ g j, g ≠ 26 → up S 26 0 x g j = S g j := fun g j h => up_ne _ (fun q => h q.1)
  refine ⟨⟨?_, ?_, ?_, ?_⟩, fun b hb => ?_, fun l hl => ?_⟩
  · rw [ns _ _ (by decide)]; exact R.1.1
  · rw [ns _ _ (by decide)]; exact R.1.2.1
  · rw [ns _ _ (by decide)]; exact R.1.2.2.1
  · rw [ns _ _ (by decide)]; exact R.1.2.2.2
  · rw [ns _ _ (by decide)] at hb
    rw [hwho, ns 1 _ (by decide), ns 2 _ (by decide), ns 3 _ (by decide), ns 4 _ (by decide), ns 5 _ (by decide)]
    exact R.bag hb
  · rw [ns _ _ (by decide)] at hl
    rw [ns 6 _ (by decide), ns 7 _ (by decide), ns 8 _ (by decide), ns 9 _ (by decide), ns 10 _ (by decide)]
    exact R.bea hl
theorem x2_forget {o : Nat} (ho : o ≠ 0) : T_X2_forgetPast (Ro (G, P) o C) = some (Ro (wo G 0 (up (G 0) 5 0 0), P) o C) := by
  unfold T_X2_forgetPast
  rw [c0, rx_pf (fun q => ho q.symm)]
theorem ok_bag (J : Inv G P) (a0 a1 a2 : Int32) : OKm G P (T_X2_bag a0 a1 a2) (T_X3_bag a0 a1 a2) := by
  have K := J.tk
  have h11 := K.1.nb
  have r0 : G 1 0 0 = G 13 11 0 := J.sb.1.1
  have rf : ∀ k, (1 ≤ k ∧ k ≤ 6) → T_X2_bag a0 a1 a2 (Ro (G, P) 2 (G 2)) = T_X2_refuse (-nI k) (Ro (G, P) 2 (G 2)) → (∀ τ, T_X3_bag a0 a1 a2 (Ro τ 13 (G 13)) = T_X3_bag_j54 a0 a1 a2 (-nI k) (Ro τ 13 (G 13))) → OKm G P (T_X2_bag a0 a1 a2) (T_X3_bag a0 a1 a2) := by
    intro k hk h1 h2
    refine ok_ref k J hk h1 (fun τ => ?_)
    rw [h2]
    unfold T_X3_bag_j54
    rw [c0, if_neg (neg_ok k (by omega) hk.1).2.1, cI_id]
  rcases chk_what a0 5 (by decide) with ⟨k, hk, rfl, e0⟩ | ⟨ho, e0⟩
  · have n1 : ¬ nI k < nI 0 := by rw [q_lt (by omega) (by omega)]; omega
    have n2 : nI k < nI 6 := by rw [q_lt (by omega) (by omega)]; omega
    rcases dig_chk a1 9 (by decide) with ⟨f, hf, rfl⟩ | h1 | ⟨h1, h2, h3⟩
    · have f1 : ¬ nI f < nI 0 := by rw [q_lt (by omega) (by omega)]; omega
      have f2 : ¬ nI 10 ≤ nI f := by rw [q_le (by omega) (by omega)]; omega
      have f3 : ¬ nI 9 < nI f := by rw [q_lt (by omega) (by omega)]; omega
      rcases dig_chk a2 9 (by decide) with ⟨h, hh, rfl⟩ | g1 | ⟨g1, g2, g3⟩
      · have g1 : nI 0 ≤ nI h := by rw [q_le (by omega) (by omega)]; omega
        have g2 : ¬ nI 10 ≤ nI h := by rw [q_le (by omega) (by omega)]; omega
        have g3 : ¬ nI 9 < nI h := by rw [q_lt (by omega) (by omega)]; omega
        by_cases hb : G 13 11 0 = 6
        · refine rf 6 (by decide) ?_ (fun τ => ?_)
          · unfold T_X2_bag T_X2_bag_j56
            simp only [d0, d6, d10, n1, n2, f1, f2, g1, g2, if_true, if_false, cI_id, now_gf, r0, hb]
            rw [if_neg (by decide)]
          · unfold T_X3_bag T_X3_bag_j48
            simp only [d0, d5, d6, d9, e0, e_cV, eq10, f1, f3, g1, g3, if_true, if_false, ro_gf, hb]
        · obtain ⟨N, s1, s2, -⟩ := x0_addBag (τ := (wo G 0 (up (G 0) 5 0 0), P)) (o := 1) K.1 J.sb (k := k) (f := f) (h := h) (by omega)
          refine ok_gen (G1 := wo (wo G 0 (up (G 0) 5 0 0)) 1 N) (P1 := P) (F := aBS (up (G 13) 26 0 0) k f h) (r := nI (G 13 11 0)) ?_ ?_ (fun τ => ?_) ?_
          · rw [Ro_G (o := 1)]
            unfold T_X2_bag
            rw [c0, if_neg n1, c6, if_pos n2, if_neg f1, if_pos g1, c10, if_neg f2, if_neg g2, ro_gf, r0, if_pos (by rw [q_lt (by omega) (by omega)]; omega), x2_forget (by decide)]
            simp only [e_cV]
            rw [s1]
            rfl
          · rw [wo_ne _ _ (by decide), wo_ne _ _ (by decide)]
          · unfold T_X3_bag T_X3_bag_j54
            simp only [d0, d5, d6, d9, e0, e_cV, eq10, f1, f3, g1, g3, if_true, if_false, ro_gf]
            rw [if_neg (by rw [q_eq (by omega) (by omega)]; exact hb), ro_pf, x3_addsBag (by rw [up_ne _ (by omega)]; omega)]
            simp only [e_cV]
            rw [ro_gf, aB_11, up_ne _ (by omega), c1, q_dec0]
          · have eF : aBS (up (G 13) 26 0 0) k f h = up (aBS (G 13) k f h) 26 0 0 := by
              unfold aBS
              rw [up_ne _ (show ¬ (11 = 26 ∧ 0 = 0) by omega)]
              simp only [up_comm _ (show ¬ (26 = 1 ∧ 0 = G 13 11 0) by omega), up_comm _ (show ¬ (26 = 2 ∧ 0 = G 13 11 0) by omega), up_comm _ (show ¬ (26 = 3 ∧ 0 = G 13 11 0) by omega), up_comm _ (show ¬ (26 = 4 ∧ 0 = G 13 11 0) by omega), up_comm _ (show ¬ (26 = 5 ∧ 0 = G 13 11 0) by omega), up_comm _ (show ¬ (26 = 11 ∧ 0 = 0) by omega)]
            rw [eF]
            refine inv_fresh J (fun g i h5 _ => ?_) ?_ ?_ ?_ ((K.aB hk hf hh (by omega)).up26) (fun g j q => ?_) (up_at _ _ _ _) (fun j _ => ?_)
            · rw [wo_ne _ _ (by decide), wo_at, up_ne _ (fun q => h5 q.1)]
            · rw [wo_ne _ _ (by decide), wo_at, up_at]
            · rw [wo_ne _ _ (by decide), wo_ne _ _ (by decide)]
            · rw [wo_at]; exact s2.up26
            · rw [up_ne _ (by omega), aB_oth (by omega)]
            · rw [up_ne _ (by omega), aB_oth (by omega)]
      · refine rf 4 (by decide) ?_ (fun τ => ?_)
        · have g0 : ¬ nI 0 ≤ a2 := neg_lt.mpr g1
          unfold T_X2_bag T_X2_bag_j25
          simp only [d0, d6, d4, n1, n2, f1, g0, if_true, if_false, cI_id]
        · have g0 : ¬ nI 0 ≤ a2 := neg_lt.mpr g1
          unfold T_X3_bag T_X3_bag_j22
          simp only [d0, d5, d4, e0, e_cV, eq10, f1, g0, if_true, if_false]
      · refine rf 6 (by decide) ?_ (fun τ => ?_)
        · have g0 : nI 0 ≤ a2 := Classical.byContradiction (fun q => g1 (neg_lt.mp q))
          unfold T_X2_bag T_X2_bag_j56
          simp only [d0, d6, d10, n1, n2, f1, f2, g0, g2, if_true, if_false, cI_id]
        · have g0 : nI 0 ≤ a2 := Classical.byContradiction (fun q => g1 (neg_lt.mp q))
          unfold T_X3_bag T_X3_bag_j48
          simp only [d0, d5, d6, d9, e0, e_cV, eq10, f1, f3, g0, g3, if_true, if_false]
    · refine rf 4 (by decide) ?_ (fun τ => ?_)
      · unfold T_X2_bag T_X2_bag_j25
        simp only [d0, d6, d4, n1, n2, h1, if_true, if_false, cI_id]
      · unfold T_X3_bag T_X3_bag_j22
        simp only [d0, d5, d4, e0, e_cV, eq10, h1, if_true, if_false]
    · by_cases g : nI 0 ≤ a2
      · refine rf 6 (by decide) ?_ (fun τ => ?_)
        · unfold T_X2_bag T_X2_bag_j56
          simp only [d0, d6, d10, n1, n2, h1, h2, g, if_true, if_false, cI_id]
        · unfold T_X3_bag T_X3_bag_j48
          simp only [d0, d5, d6, d9, e0, e_cV, eq10, h1, h3, g, if_true, if_false]
      · refine rf 4 (by decide) ?_ (fun τ => ?_)
        · unfold T_X2_bag T_X2_bag_j25
          simp only [d0, d6, d4, n1, n2, h1, g, if_true, if_false, cI_id]
        · unfold T_X3_bag T_X3_bag_j22
          simp only [d0, d5, d4, e0, e_cV, eq10, h1, g, if_true, if_false]
  · refine rf 2 (by decide) ?_ (fun τ => ?_)
    · unfold T_X2_bag T_X2_bag_j10
      rcases ho with q | ⟨q1, q2⟩
      · simp only [d0, d2, q, if_true, cI_id]
      · have q3 : ¬ a0 < nI 6 := (ge_lt (by decide)).mp (Classical.byContradiction (fun z => q2 ((le_lt (by decide)).mpr z)))
        simp only [d0, d2, d6, q1, q3, if_false, cI_id]
    · unfold T_X3_bag
      simp only [d0, d2, d5, e0, e_cV, if_true, eq00]
theorem ok_bearer (J : Inv G P) (a0 a1 a2 : Int32) : OKm G P (T_X2_bearer a0 a1 a2) (T_X3_bearer a0 a1 a2) := by
  have K := J.tk
  have h12 := K.1.nl
  have r7 : G 1 7 0 = G 13 12 0 := J.sb.1.2.1
  have rf : ∀ k, (1 ≤ k ∧ k ≤ 6) → T_X2_bearer a0 a1 a2 (Ro (G, P) 2 (G 2)) = T_X2_refuse (-nI k) (Ro (G, P) 2 (G 2)) → (∀ τ, T_X3_bearer a0 a1 a2 (Ro τ 13 (G 13)) = T_X3_bearer_j49 a0 a1 a2 (-nI k) (Ro τ 13 (G 13))) → OKm G P (T_X2_bearer a0 a1 a2) (T_X3_bearer a0 a1 a2) := by
    intro k hk h1 h2
    refine ok_ref k J hk h1 (fun τ => ?_)
    rw [h2]
    unfold T_X3_bearer_j49
    rw [c0, if_neg (neg_ok k (by omega) hk.1).2.1, cI_id]
  by_cases n0 : a0 < nI 0
  · refine rf 4 (by decide) ?_ (fun τ => ?_)
    · unfold T_X2_bearer T_X2_bearer_j12
      simp only [d0, d4, n0, if_true, cI_id]
    · unfold T_X3_bearer T_X3_bearer_j12
      simp only [d0, d4, n0, if_true]
  by_cases n1 : a1 < nI 0
  · refine rf 4 (by decide) ?_ (fun τ => ?_)
    · unfold T_X2_bearer T_X2_bearer_j12
      simp only [d0, d4, n0, n1, if_true, if_false, cI_id]
    · unfold T_X3_bearer T_X3_bearer_j12
      simp only [d0, d4, n0, n1, if_true, if_false]
  by_cases n2 : nI 0 ≤ a2
  case neg =>
    refine rf 4 (by decide) ?_ (fun τ => ?_)
    · unfold T_X2_bearer T_X2_bearer_j12
      simp only [d0, d4, n0, n1, n2, if_false, cI_id]
    · unfold T_X3_bearer T_X3_bearer_j12
      simp only [d0, d4, n0, n1, n2, if_false]
  have n2' : ¬ a2 < nI 0 := fun q => neg_lt.mpr q n2
  rcases dig_chk a0 9 (by decide) with ⟨w, hw, rfl⟩ | q | ⟨-, b1, b2⟩
  · have w1 : ¬ nI 10 ≤ nI w := by rw [q_le (by omega) (by omega)]; omega
    have w2 : ¬ nI 9 < nI w := by rw [q_lt (by omega) (by omega)]; omega
    rcases dig_chk a1 9 (by decide) with ⟨v, hv, rfl⟩ | q | ⟨-, b1, b2⟩
    · have v1 : ¬ nI 10 ≤ nI v := by rw [q_le (by omega) (by omega)]; omega
      have v2 : ¬ nI 9 < nI v := by rw [q_lt (by omega) (by omega)]; omega
      rcases dig_chk a2 9 (by decide) with ⟨a, ha, rfl⟩ | q | ⟨-, b1, b2⟩
      · have a1' : ¬ nI 10 ≤ nI a := by rw [q_le (by omega) (by omega)]; omega
        have a2' : ¬ nI 9 < nI a := by rw [q_lt (by omega) (by omega)]; omega
        by_cases hb : G 13 12 0 = 5
        · refine rf 6 (by decide) ?_ (fun τ => ?_)
          · unfold T_X2_bearer T_X2_bearer_j48
            simp only [d0, d6, d10, d5, n0, n1, n2, w1, v1, a1', if_true, if_false, cI_id, now_gf, r7, hb]
            rw [if_neg (by decide)]
          · unfold T_X3_bearer T_X3_bearer_j43
            simp only [d0, d5, d6, d9, n0, n1, n2, w2, v2, a2', if_true, if_false, ro_gf, hb]
        · obtain ⟨N, s1, s2, -⟩ := x0_addBearer (τ := (wo G 0 (up (G 0) 5 0 0), P)) (o := 1) K.1 J.sb hw hv ha (by omega)
          refine ok_gen (G1 := wo (wo G 0 (up (G 0) 5 0 0)) 1 N) (P1 := P) (F := aLS (up (G 13) 26 0 0) w v a) (r := nI (G 13 12 0)) ?_ ?_ (fun τ => ?_) ?_
          · rw [Ro_G (o := 1)]
            unfold T_X2_bearer
            rw [c0, if_neg n0, if_neg n1, if_pos n2, c10, if_neg w1, if_neg v1, if_neg a1', ro_gf, r7, c5, if_pos (by rw [q_lt (by omega) (by omega)]; omega), x2_forget (by decide)]
            simp only [e_cV]
            rw [s1]
            rfl
          · rw [wo_ne _ _ (by decide), wo_ne _ _ (by decide)]
          · unfold T_X3_bearer T_X3_bearer_j49
            simp only [d0, d5, d9, n0, n1, n2, w2, v2, a2', if_true, if_false, ro_gf]
            rw [if_neg (by rw [q_eq (by omega) (by omega)]; exact hb), ro_pf, x3_addsBearer (by rw [up_ne _ (by omega)]; omega)]
            simp only [e_cV]
            rw [ro_gf, aL_12, up_ne _ (by omega), c1, q_dec0]
          · have eF : aLS (up (G 13) 26 0 0) w v a = up (aLS (G 13) w v a) 26 0 0 := by
              unfold aLS
              rw [up_ne _ (show ¬ (12 = 26 ∧ 0 = 0) by omega)]
              simp only [up_comm _ (show ¬ (26 = 6 ∧ 0 = G 13 12 0) by omega), up_comm _ (show ¬ (26 = 7 ∧ 0 = G 13 12 0) by omega), up_comm _ (show ¬ (26 = 8 ∧ 0 = G 13 12 0) by omega), up_comm _ (show ¬ (26 = 9 ∧ 0 = G 13 12 0) by omega), up_comm _ (show ¬ (26 = 10 ∧ 0 = G 13 12 0) by omega), up_comm _ (show ¬ (26 = 12 ∧ 0 = 0) by omega)]
            rw [eF]
            refine inv_fresh J (fun g i h5 _ => ?_) ?_ ?_ ?_ ((K.aL hw hv ha (by omega)).up26) (fun g j q => ?_) (up_at _ _ _ _) (fun j _ => ?_)
            · rw [wo_ne _ _ (by decide), wo_at, up_ne _ (fun q => h5 q.1)]
            · rw [wo_ne _ _ (by decide), wo_at, up_at]
            · rw [wo_ne _ _ (by decide), wo_ne _ _ (by decide)]
            · rw [wo_at]; exact s2.up26
            · rw [up_ne _ (by omega), aL_oth (by omega)]
            · rw [up_ne _ (by omega), aL_oth (by omega)]
      · exact absurd q n2'
      · refine rf 6 (by decide) ?_ (fun τ => ?_)
        · unfold T_X2_bearer T_X2_bearer_j48
          simp only [d0, d6, d10, n0, n1, n2, w1, v1, b1, if_true, if_false, cI_id]
        · unfold T_X3_bearer T_X3_bearer_j43
          simp only [d0, d6, d9, n0, n1, n2, w2, v2, b2, if_true, if_false]
    · exact absurd q n1
    · refine rf 6 (by decide) ?_ (fun τ => ?_)
      · unfold T_X2_bearer T_X2_bearer_j48
        simp only [d0, d6, d10, n0, n1, n2, w1, b1, if_true, if_false, cI_id]
      · unfold T_X3_bearer T_X3_bearer_j43
        simp only [d0, d6, d9, n0, n1, n2, w2, b2, if_true, if_false]
  · exact absurd q n0
  · refine rf 6 (by decide) ?_ (fun τ => ?_)
    · unfold T_X2_bearer T_X2_bearer_j48
      simp only [d0, d6, d10, n0, n1, n2, b1, if_true, if_false, cI_id]
    · unfold T_X3_bearer T_X3_bearer_j43
      simp only [d0, d6, d9, n0, n1, n2, b2, if_true, if_false]
theorem ok_friends (J : Inv G P) (a0 a1 : Int32) : OKm G P (T_X2_friends a0 a1) (T_X3_friends a0 a1) := by
  have K := J.tk
  have h11 := K.1.nb
  rcases chk_bag J a0 with ⟨a, ha, rfl, e1, e2⟩ | ⟨e1, e2⟩
  · rcases chk_bag J a1 with ⟨b, hb, rfl, e3, e4⟩ | ⟨e3, e4⟩
    · obtain ⟨N, s1, s2, -⟩ := x0_befriend (τ := (wo G 0 (up (G 0) 5 0 0), P)) (o := 1) K.1 J.sb ha hb
      refine ok_gen (G1 := wo (wo G 0 (up (G 0) 5 0 0)) 1 N) (P1 := P) (F := bfS (up (G 13) 26 0 0) a b) (r := nI (if a = b then 0 else 1)) ?_ ?_ (fun τ => ?_) ?_
      · have E1 := e1 (G 2)
        have E3 := e3 (G 2)
        rw [← Ro_G] at E1 E3
        rw [Ro_G (o := 1)] at E1 E3 ⊢
        unfold T_X2_friends
        simp only [E1, E3, e_cV, d0, eq10, if_false]
        rw [x2_forget (by decide)]
        simp only [e_cV]
        rw [s1]
        simp only [e_cI]
        rw [i_eq (by omega) (by omega)]
        split <;> rfl
      · rw [wo_ne _ _ (by decide), wo_ne _ _ (by decide)]
      · unfold T_X3_friends
        simp only [e2, e4, e_cV, d0, eq10, if_false]
        rw [ro_pf, x3_befriends K.up26.1 (by rw [up_ne _ (by omega)]; exact ha) (by rw [up_ne _ (by omega)]; exact hb)]
        simp only [e_cV]
        rw [i_eq (by omega) (by omega)]
        split <;> rfl
      · refine inv_fresh J (fun g i h5 _ => ?_) ?_ ?_ ?_ (K.up26.bf (by rw [up_ne _ (by omega)]; exact ha) (by rw [up_ne _ (by omega)]; exact hb)) (fun g j q => ?_) (by rw [bf_oth (by decide), up_at]) (fun j _ => ?_)
        · rw [wo_ne _ _ (by decide), wo_at, up_ne _ (fun q => h5 q.1)]
        · rw [wo_ne _ _ (by decide), wo_at, up_at]
        · rw [wo_ne _ _ (by decide), wo_ne _ _ (by decide)]
        · rw [wo_at]
          have e26 : bfS (up (G 13) 26 0 0) a b = up (bfS (G 13) a b) 26 0 0 := by
            have uf26 : ∀ (S : SS) b, ufS (up S 26 0 0) b = up (ufS S b) 26 0 0 := by
              intro S b
              unfold ufS
              rw [up_ne _ (show ¬ (4 = 26 ∧ b = 0) by omega)]
              by_cases e : S 4 b < 9
              · rw [if_pos e, if_pos e, up_comm S (show ¬ (26 = 4 ∧ 0 = S 4 b) by omega), up_comm (up S 4 (S 4 b) 9) (show ¬ (26 = 4 ∧ 0 = b) by omega)]
              · rw [if_neg e, if_neg e, up_comm S (show ¬ (26 = 4 ∧ 0 = b) by omega)]
            unfold bfS
            rw [uf26, uf26]
            by_cases e : a = b
            · rw [if_pos e, if_pos e]
            · rw [if_neg e, if_neg e, up_comm (ufS (ufS (G 13) a) b) (show ¬ (26 = 4 ∧ 0 = a) by omega), up_comm (up (ufS (ufS (G 13) a) b) 4 a b) (show ¬ (26 = 4 ∧ 0 = b) by omega)]
          rw [e26]
          exact s2.up26
        · rw [bf_oth (by omega), up_ne _ (by omega)]
        · rw [bf_oth (by omega), up_ne _ (by omega)]
    · refine ok_ref 1 J (by decide) ?_ (fun τ => ?_)
      · unfold T_X2_friends T_X2_friends_j22; simp (disch := omega) only [e1, e3, cI_id, Nat.reduceEqDiff, Nat.reduceLeDiff, reduceIte, eq_self, ng1, ng2, ng3, ng4, ng6, rx_gf, rx_ld, rx_pf, rx_sd, m9, NN_lt, lt_NN, NN_le, le_NN, if_true, if_false, n_mod, q_dec, ro_gf, ro_ld, ro_sd, ro_pf, e_vl, e_cV, e_cI, nI_add, q_mul, q_sub, q_rem, q_div, q_eq, q_lt, q_le, c0, c1, c2, c3, c4, c5, c6, c7, c8, c9, c10, c99]
      · unfold T_X3_friends T_X3_friends_j16; simp (disch := omega) only [e2, e4, cI_id, Nat.reduceEqDiff, Nat.reduceLeDiff, reduceIte, eq_self, ng1, ng2, ng3, ng4, ng6, rx_gf, rx_ld, rx_pf, rx_sd, m9, NN_lt, lt_NN, NN_le, le_NN, if_true, if_false, n_mod, q_dec, ro_gf, ro_ld, ro_sd, ro_pf, e_vl, e_cV, e_cI, nI_add, q_mul, q_sub, q_rem, q_div, q_eq, q_lt, q_le, c0, c1, c2, c3, c4, c5, c6, c7, c8, c9, c10, c99]
  · refine ok_ref 1 J (by decide) ?_ (fun τ => ?_)
    · unfold T_X2_friends T_X2_friends_j22; simp (disch := omega) only [e1, cI_id, Nat.reduceEqDiff, Nat.reduceLeDiff, reduceIte, eq_self, ng1, ng2, ng3, ng4, ng6, rx_gf, rx_ld, rx_pf, rx_sd, m9, NN_lt, lt_NN, NN_le, le_NN, if_true, if_false, n_mod, q_dec, ro_gf, ro_ld, ro_sd, ro_pf, e_vl, e_cV, e_cI, nI_add, q_mul, q_sub, q_rem, q_div, q_eq, q_lt, q_le, c0, c1, c2, c3, c4, c5, c6, c7, c8, c9, c10, c99]
    · unfold T_X3_friends T_X3_friends_j16; simp (disch := omega) only [e2, cI_id, Nat.reduceEqDiff, Nat.reduceLeDiff, reduceIte, eq_self, ng1, ng2, ng3, ng4, ng6, rx_gf, rx_ld, rx_pf, rx_sd, m9, NN_lt, lt_NN, NN_le, le_NN, if_true, if_false, n_mod, q_dec, ro_gf, ro_ld, ro_sd, ro_pf, e_vl, e_cV, e_cI, nI_add, q_mul, q_sub, q_rem, q_div, q_eq, q_lt, q_le, c0, c1, c2, c3, c4, c5, c6, c7, c8, c9, c10, c99]
theorem ok_hours (J : Inv G P) (a0 : Int32) : OKm G P (T_X2_hours a0) (T_X3_hours a0) := by
  have K := J.tk
  have h12 := K.1.nl
  have h13 := K.2.1
  have r14 : G 1 14 0 = G 13 13 0 := J.sb.1.2.2.2
  rcases bnd_chk a0 1 60 (by decide) (by decide) with ⟨n, h1, hn, rfl, e1, e2⟩ | e1 | ⟨e1, e2⟩
  · have n60 : ¬ nI 60 < nI n := by rw [q_lt (by omega) (by omega)]; omega
    by_cases hh : G 13 13 0 + n ≤ 999
    · have K2 := K.up26 (x := 0)
      have KC : TK (cntS (up (G 13) 26 0 0)) := K2.cnt
      obtain ⟨C1, s1, s2, s3, s4, s5⟩ := x0_st (τ := (wo G 0 (up (G 0) 5 0 0), P)) (o := 1) (C := G 1)
      have R1 : SB C1 (cntS (up (G 13) 26 0 0)) := by
        have r := Eqs.cnt.sb K2.1 J.sb.up26 (C := G 1)
        obtain ⟨⟨b1, b2, b3, b4⟩, b5, b6⟩ := r
        refine ⟨⟨?_, ?_, ?_, ?_⟩, fun b hb => ?_, fun l hl => ?_⟩
        · rw [s2 _ _ (by decide)]; exact b1
        · rw [s2 _ _ (by decide)]; exact b2
        · rw [s2 _ _ (by decide)]; exact b3
        · rw [s2 _ _ (by decide)]; exact b4
        · rw [s2 1 _ (by decide), s2 2 _ (by decide), s2 3 _ (by decide), s2 4 _ (by decide), s2 5 _ (by decide), s2 6 _ (by decide)]; exact b5 b hb
        · rw [s2 8 _ (by decide), s2 9 _ (by decide), s2 10 _ (by decide), s2 11 _ (by decide), s2 12 _ (by decide)]; exact b6 l hl
      have T1 : T0 C1 := ⟨⟨s3, s4⟩, s5⟩
      obtain ⟨C2, g1, g2, g3⟩ := x0_hours (τ := (wo G 0 (up (G 0) 5 0 0), P)) (o := 1) KC.1 hn (by have := KC.2.1; omega) (T1.sc R1) T1.2
      have e17 : C2 17 0 = runS (cntS (up (G 13) 26 0 0)) n 29 0 := by
        have a := g2.2.2.2.2
        rw [cnt_29] at a
        exact a.symm
      have oth : ∀ g j, NS g ∨ g = 22 ∨ g = 30 → runS (cntS (up (G 13) 26 0 0)) n g j = up (G 13) 26 0 0 g j := fun g j q => by
        rw [runS_keeps (by unfold NS at q; omega), cnt_oth (by unfold NS at q; omega)]
      refine ok_gen (G1 := wo (wo G 0 (up (G 0) 5 0 0)) 1 C2) (P1 := P) (F := runS (cntS (up (G 13) 26 0 0)) n) (r := nI (runS (cntS (up (G 13) 26 0 0)) n 29 0)) ?_ ?_ (fun τ => ?_) ?_
      · rw [Ro_G (o := 1)]
        unfold T_X2_hours
        rw [c1, if_pos e1, c60, if_neg n60, ro_gf, r14, nI_add, c999, if_pos (by rw [q_le (by omega) (by omega)]; exact hh), x2_forget (by decide)]
        simp only [e_cV]
        rw [s1]
        simp only [e_cV]
        rw [g1]
        simp only [e_cV]
        rw [ro_gf, e17]
        rfl
      · rw [wo_ne _ _ (by decide), wo_ne _ _ (by decide)]
      · unfold T_X3_hours T_X3_hours_j27 T_X3_bound
        rw [c1, if_pos e1, c60, if_pos e2]
        simp only [e_cV]
        rw [c0, if_pos (by trivial), ro_gf, nI_add, c999, if_pos (by rw [q_le (by omega) (by omega)]; exact hh), if_pos (by trivial), ro_pf, x3_counts]
        simp only [e_cV]
        rw [x3_goes KC.1 hn (by have := KC.2.1; omega) KC.2.2]
        simp only [e_cV]
        rw [ro_gf]
      · refine inv_fresh J (fun g i h5 _ => ?_) ?_ ?_ ?_ ⟨KC.1.run n _, ?_, ?_⟩ (fun g j q => ?_) ?_ (fun j _ => ?_)
        · rw [wo_ne _ _ (by decide), wo_at, up_ne _ (fun q => h5 q.1)]
        · rw [wo_ne _ _ (by decide), wo_at, up_at]
        · rw [wo_ne _ _ (by decide), wo_ne _ _ (by decide)]
        · rw [wo_at]; exact g2.sb
        · rw [runS_13, cnt_oth (by decide), up_ne _ (by omega)]; omega
        · rw [oth _ _ (by omega), up_ne _ (by omega)]; exact K.2.2
        · rw [oth _ _ (by unfold NS; omega), up_ne _ (by omega)]
        · rw [oth _ _ (by unfold NS; omega), up_at]
        · rw [oth _ _ (by omega), up_ne _ (by omega)]
    · refine ok_ref 6 J (by decide) ?_ (fun τ => ?_)
      · unfold T_X2_hours T_X2_hours_j33
        rw [c1, if_pos e1, c60, if_neg n60, now_gf, r14, nI_add, c999, if_neg (by rw [q_le (by omega) (by omega)]; exact hh), cI_id, c6]
      · unfold T_X3_hours T_X3_hours_j27 T_X3_bound
        rw [c1, if_pos e1, c60, if_pos e2]
        simp only [e_cV]
        rw [c0, if_pos (by trivial), ro_gf, nI_add, c999, if_neg (by rw [q_le (by omega) (by omega)]; exact hh), c6, if_neg (by decide), cI_id]
  · refine ok_ref 4 J (by decide) ?_ (fun τ => ?_)
    · unfold T_X2_hours
      rw [c1, if_neg e1, cI_id, c4]
    · unfold T_X3_hours T_X3_hours_j27 T_X3_bound
      rw [c1, if_neg e1]
      simp only [e_cV]
      rw [c4, c0, if_neg (by decide), if_neg (by decide), cI_id]
  · have n60 : nI 60 < a0 := (lt_le (by decide)).mpr (Classical.byContradiction (fun q => e2 ((le_lt (by decide)).mpr q)))
    refine ok_ref 6 J (by decide) ?_ (fun τ => ?_)
    · unfold T_X2_hours T_X2_hours_j33
      rw [c1, if_pos e1, c60, if_pos n60, cI_id, c6]
    · unfold T_X3_hours T_X3_hours_j27 T_X3_bound
      rw [c1, if_pos e1, c60, if_neg e2]
      simp only [e_cV]
      rw [c6, c0, if_neg (by decide), if_neg (by decide), cI_id]
end Calls
