/-! given: both sides alike -/
theorem int_m1 : (-nI 1).toInt = -1 := by decide
theorem chk_who (a : Int32) (n : Nat) (hn : n < 1000) : (a = -nI 1) ∨ (∃ l, l < n ∧ a = nI l ∧ -nI 1 ≤ a ∧ ¬ a < -nI 1 ∧ ¬ a < nI 0 ∧ ¬ a = -nI 1) ∨ (¬ a < nI 0 ∧ nI n ≤ a ∧ -nI 1 ≤ a ∧ ¬ a < -nI 1 ∧ ¬ a = -nI 1) ∨ (¬ -nI 1 ≤ a ∧ a < -nI 1) := by
  rcases in_or_out a n hn with ⟨l, hl, rfl⟩ | ⟨h1, h2⟩ | h
  · refine Or.inr (Or.inl ⟨l, hl, rfl, ?_, ?_, ?_, nI_m1 (by omega)⟩)
    · rw [Int32.le_iff_toInt_le, int_m1, nI_toInt (by omega)]; omega
    · rw [Int32.lt_iff_toInt_lt, int_m1, nI_toInt (by omega)]; omega
    · rw [q_lt (by omega) (by omega)]; omega
  · have h3 := h1
    rw [Int32.lt_iff_toInt_lt, nI_toInt (by omega)] at h3
    refine Or.inr (Or.inr (Or.inl ⟨h1, h2, ?_, ?_, fun q => ?_⟩))
    · rw [Int32.le_iff_toInt_le, int_m1]; omega
    · rw [Int32.lt_iff_toInt_lt, int_m1]; omega
    · rw [q, int_m1] at h3; omega
  · rw [Int32.lt_iff_toInt_lt, nI_toInt (by omega)] at h
    by_cases q : a = -nI 1
    · exact Or.inl q
    · have q2 : ¬ a.toInt = -1 := fun y => q (by apply Int32.toInt_inj.mp; rw [y, int_m1])
      refine Or.inr (Or.inr (Or.inr ⟨?_, ?_⟩))
      · rw [Int32.le_iff_toInt_le, int_m1]; omega
      · rw [Int32.lt_iff_toInt_lt, int_m1]; omega
section Gv2
variable {G : GG} {P : Nat → Nat} {A C S X Y F V : SS} {τ : TT} {o c nb nl a b : Nat}
theorem ok_q12 {cls ref : ST → Option (Int32 × ST)} {r : Int32} (J : Inv G P) (h1 : cls (Ro (G, P) 2 (G 2)) = some (r, Ro (wo G 12 V, P) 2 C)) (h2 : ∀ τ, ∃ F, ref (Ro τ 13 (G 13)) = some (r, Ro τ 13 F) ∧ KR 60 (G 13) F) : OKm G P cls ref := by
  refine ok_query (G' := wo (wo G 12 V) 2 C) J ?_ ⟨fun f i _ => ?_, fun o h0 h2 h12 => ?_⟩ h2
  · rw [← Ro_G] at h1
    exact h1
  · rw [wo_ne _ _ (by decide), wo_ne _ _ (by decide)]
  · rw [wo_ne _ _ h2, wo_ne _ _ h12]
theorem x1_bestBag {e : Nat → Nat} (h3 : V 3 0 = nl) (h4 : nl ≤ 4) (h1 : ∀ i, i < nl → V 1 i = kN (e i)) {l : Nat} (hl : l < nl) : T_X1_bestBagOf (Ro τ 12 V) (nI l) = some (nI (kN (e l))) := by
  unfold T_X1_bestBagOf
  rw [c0, if_neg (by rw [q_lt (by omega) (by omega)]; omega), ro_gf, h3, if_neg (by rw [q_le (by omega) (by omega)]; omega), ro_ld (by omega) (by omega), h1 l hl]
theorem x1_bestOut (h3 : V 3 0 = nl) {a : Int32} (h0 : ¬ a < nI 0) (h : nI nl ≤ a) : T_X1_bestBagOf (Ro τ 12 V) a = some (nI NN) := by
  unfold T_X1_bestBagOf
  rw [c0, if_neg h0, ro_gf, h3, if_pos h, q_m9]
theorem x3_bagOut (h3 : Y 12 0 = nl) {a c : Int32} (h : nI nl ≤ a) : T_X3_bagBy (Ro τ 13 Y) c a = some (nI NN) := by
  unfold T_X3_bagBy
  rw [ro_gf, h3, if_pos h, q_m9]
theorem kF_mG {s : Nat} (h : s ≤ 61) : (if nI (mG s) = nI 1000 then nI NN else nI (mG s)) = nI (kF s) := by
  unfold mG kF
  by_cases q : s = 61
  · rw [if_pos q, if_pos q, if_pos (by trivial)]
  · rw [if_neg q, if_neg q, if_neg (by rw [q_eq (by omega) (by omega)]; omega)]
theorem wZ_kF {v : Nat → Nat} {c : Nat} (h : v c ≤ 61) : wZ (fun c => kF (v c)) c = mG (v c) := by
  show (if kF (v c) = 4294967287 then 1000 else kF (v c)) = if v c = 61 then 1000 else v c
  by_cases q : v c = 61
  · rw [if_pos q, q]; rfl
  · rw [if_neg q, kF_ne (by omega), if_neg (by omega)]
theorem ok_given (J : Inv G P) (a0 a1 a2 : Int32) : OKm G P (T_X2_given a0 a1 a2) (T_X3_given a0 a1 a2) := by
  have K := J.tk
  have h12 := K.1.nl
  have h11 := K.1.nb
  have g7 : G 1 7 0 = G 13 12 0 := J.sb.1.2.1
  have g0 : G 1 0 0 = G 13 11 0 := J.sb.1.1
  rcases chk_two J a0 a1 with ⟨a, b, ha, hb, hab, rfl, rfl, e1, e2⟩ | ⟨e1, e2⟩
  · by_cases h4 : G 13 12 0 ≤ 4
    · have cases := chk_who a2 (G 13 12 0) (by omega)
      by_cases hlow : ¬ -nI 1 ≤ a2
      · refine ok_ref 4 J (by decide) ?_ (fun τ => ?_)
        · unfold T_X2_given
          rw [e1]
          simp only [e_cV]
          rw [d0, if_neg (by decide), d1, if_neg hlow, cI_id, c4]
        · unfold T_X3_given T_X3_given_j37
          rw [e2]
          simp only [e_cV]
          rw [d0, if_neg (by decide), d1, if_neg hlow, c4, if_neg (by decide), cI_id]
      · have hlow : -nI 1 ≤ a2 := Classical.not_not.mp hlow
        obtain ⟨V0, s1, s2, s3, s4⟩ := x1_start (τ := (wo G 2 (G 2), P)) (V := G 12) h11 h4
        obtain ⟨k, s, m1, m2, m3, m4, m5⟩ := min_same (nb := G 13 11 0) (nl := G 13 12 0) h11 h4 (w := fun k => vG (G 13) a b (G 13 12 0) (toB (G 13 11 0) (G 13 12 0) k)) (v := wZ (fun c => kF (vG (G 13) a b (G 13 12 0) c))) (m := mG) (I1 := 62) (I2 := 5000) (fun k hk ok => by
          have hle := vG_le (S := G 13) (a := a) (b := b) (nl := G 13 12 0) (c := toB (G 13 11 0) (G 13 12 0) k)
          have e := wZ_kF (v := fun c => vG (G 13) a b (G 13 12 0) c) (c := toB (G 13 11 0) (G 13 12 0) k) hle
          refine ⟨by omega, e, ?_⟩
          rw [e]
          unfold mG
          split <;> omega) (fun x y h1 h2 => by unfold mG; split <;> split <;> omega)
        obtain ⟨V', C', l1, l2, l3, l4⟩ := gvC_loop (a := a) (b := b) J rfl rfl h4 ha hb (v3 := a2) ((G 13 11 0 + 1) ^ (G 13 12 0)) 0 FU V0 (G 2) (NN, 62) (by omega) s2 s3 s4 (Or.inl rfl) (FU_gt (by have := pow_le5 h11 h4; omega))
        obtain ⟨F, b1, b2, b3⟩ := bw_loop K rfl rfl h4 (v1 := nI a) (v2 := nI b) (v3 := nI 0) (z := fun c => kF (vG (G 13) a b (G 13 12 0) c)) (fun c => by
          have hle := vG_le (S := G 13) (a := a) (b := b) (nl := G 13 12 0) (c := c)
          by_cases q : vG (G 13) a b (G 13 12 0) c = 61
          · rw [q]; exact Or.inl rfl
          · show kF _ = NN ∨ kF _ < 1000
            rw [kF_ne (by omega)]; exact Or.inr (by omega)) (gv_hM K rfl rfl h4 ha hb (nI 0)) (7 ^ (G 13 12 0)) 0 FU (G 13) (NN, 5000) (by omega) (KR.refl K.2.2) (Or.inl rfl) (FU_gt (by have h : 7 ^ (G 13 12 0) ≤ 2401 := pow_le5 (a := 6) (by omega) h4; omega))
        rw [m1] at l1 l4
        rw [m2] at b1 b3
        have hk7 := (wA (nb := G 13 11 0) h11 h4 m3).2.1
        have h7 : 7 ^ (G 13 12 0) ≤ 2401 := pow_le5 (a := 6) (by omega) h4
        have b3 : F 31 0 = mG s := by
          rcases b3 with q | q
          · have := congrArg Prod.fst q
            have : toB (G 13 11 0) (G 13 12 0) k = 4294967287 := this
            omega
          · exact q
        have hN := pow_le5 h11 h4
        have l4 : ∀ i, i < G 13 12 0 → V' 1 i = kN (eW (G 13 12 0) (toB (G 13 11 0) (G 13 12 0) k) i) := by
          rcases l4 with q | q
          · have := congrArg Prod.fst q
            have : k = 4294967287 := this
            omega
          · exact q
        have f12 : F 12 0 = G 13 12 0 := b2.1 12 0 (inr (by decide) (by omega))
        have clsE : T_X2_given (nI a) (nI b) a2 (Ro (G, P) 2 (G 2)) = if a2 = -nI 1 then some (nI (kF s), Ro (wo G 12 V', P) 2 C') else cV (T_X1_bestBagOf (Ro (wo G 2 C', P) 12 V') a2) (fun x2 => some (x2, Ro (wo G 12 V', P) 2 C')) := by
          unfold T_X2_given
          rw [e1]
          simp only [e_cV]
          rw [d0, if_neg (by decide), d1, if_pos hlow, rx_gf (by decide)]
          show (if nI (G 1 7 0) ≤ 4 then _ else _) = _
          rw [g7, c4, if_pos (by rw [q_le (by omega) (by omega)]; omega), rx_gf (by decide), rx_gf (by decide)]
          show cV (T_X1_start (nI (G 1 0 0)) (nI (G 1 7 0)) (Ro (G, P) 2 (G 2))) _ = _
          rw [g0, g7, Ro_12, RV_sw, s1]
          simp only [e_cV]
          rw [← RV_sw, show (62 : Int32) = nI 62 from id rfl, l1, RV_sw]
          unfold T_X2_given_L73
          rw [ro_gf, l3, if_pos (by rw [q_le (by omega) (by omega)]; omega), c1, x2_orNone (by omega)]
          simp only [e_cV]
        have refE : ∀ τ, T_X3_given (nI a) (nI b) a2 (Ro τ 13 (G 13)) = if a2 < nI 0 then some (nI (kF s), Ro τ 13 F) else cV (T_X3_bagBy (Ro τ 13 F) (nI (toB (G 13 11 0) (G 13 12 0) k)) a2) (fun x5 => some (x5, Ro τ 13 F)) := by
          intro τ
          unfold T_X3_given T_X3_given_j37 T_X3_bestWay
          rw [e2]
          simp only [e_cV]
          rw [d0, if_neg (by decide), d1, if_pos hlow, ro_gf, c4, if_pos (by rw [q_le (by omega) (by omega)]; omega), if_pos (by trivial), q_m9, b1 τ]
          simp only [e_cI]
          rw [ro_gf, ro_gf, b3, c1000, ← kF_mG (by omega)]
          by_cases q : a2 < nI 0
          · rw [if_pos q, if_pos q]
            split <;> rfl
          · rw [if_neg q, if_neg q]
        rcases cases with q | ⟨l, hl, rfl, q1, q2, q3, q4⟩ | ⟨q1, q2, q3, q4, q5⟩ | ⟨q1, q2⟩
        · refine ok_q12 (V := V') (C := C') (r := nI (kF s)) J ?_ (fun τ => ⟨F, ?_, b2⟩)
          · rw [clsE, if_pos q]
          · rw [refE τ, if_pos (by rw [q]; decide)]
        · refine ok_q12 (V := V') (C := C') (r := nI (kN (eW (G 13 12 0) (toB (G 13 11 0) (G 13 12 0) k) l))) J ?_ (fun τ => ⟨F, ?_, b2⟩)
          · rw [clsE, if_neg q4, x1_bestBag l2 h4 l4 hl]
            rfl
          · rw [refE τ, if_neg q3, x3_bagBy f12 h4 (by omega) hl]
            rfl
        · refine ok_q12 (V := V') (C := C') (r := nI NN) J ?_ (fun τ => ⟨F, ?_, b2⟩)
          · rw [clsE, if_neg q5, x1_bestOut l2 q1 q2]
            rfl
          · rw [refE τ, if_neg q1, x3_bagOut f12 q2]
            rfl
        · exact absurd hlow q1
    · by_cases hlow : -nI 1 ≤ a2
      · refine ok_ref 3 J (by decide) ?_ (fun τ => ?_)
        · unfold T_X2_given
          rw [e1]
          simp only [e_cV]
          rw [d0, if_neg (by decide), d1, if_pos hlow, rx_gf (by decide)]
          show (if nI (G 1 7 0) ≤ 4 then _ else _) = _
          rw [g7, c4, if_neg (by rw [q_le (by omega) (by omega)]; omega), cI_id, c3]
        · unfold T_X3_given T_X3_given_j37
          rw [e2]
          simp only [e_cV]
          rw [d0, if_neg (by decide), d1, if_pos hlow, ro_gf, c4, if_neg (by rw [q_le (by omega) (by omega)]; omega), c3, if_neg (by decide), cI_id]
      · refine ok_ref 4 J (by decide) ?_ (fun τ => ?_)
        · unfold T_X2_given
          rw [e1]
          simp only [e_cV]
          rw [d0, if_neg (by decide), d1, if_neg hlow, cI_id, c4]
        · unfold T_X3_given T_X3_given_j37
          rw [e2]
          simp only [e_cV]
          rw [d0, if_neg (by decide), d1, if_neg hlow, c4, if_neg (by decide), cI_id]
  · refine ok_ref 1 J (by decide) ?_ (fun τ => ?_)
    · unfold T_X2_given
      rw [e1]
      simp only [e_cV]
      rw [d0, if_pos (by trivial), cI_id, c1]
    · unfold T_X3_given T_X3_given_j37
      rw [e2]
      simp only [e_cV]
      rw [d0, if_pos (by trivial), c1, if_neg (by decide), cI_id]
end Gv2
