/-! quiet: both sides alike -/
section Qu2
variable {G : GG} {P : Nat → Nat} {S : SS} {τ : TT}
noncomputable def zQ (S : SS) (h nb nl c : Nat) : Nat := if okB nb nl c = true ∧ c < 7 ^ nl then vQ S h nl c else 0
theorem zQ_eq {h nb nl c : Nat} (ok : okB nb nl c = true) (hc : c < 7 ^ nl) : zQ S h nb nl c = vQ S h nl c := if_pos ⟨ok, hc⟩
theorem zQ_le {h nb nl c : Nat} (K : TK S) (h11 : S 11 0 = nb) (h12 : S 12 0 = nl) (hl : nl ≤ 4) (hh : h ≤ 60) : zQ S h nb nl c ≤ 300 := by
  unfold zQ
  by_cases q : okB nb nl c = true ∧ c < 7 ^ nl
  · rw [if_pos q]; exact vQ_le K h11 h12 hl q.2 q.1 hh
  · rw [if_neg q]; omega
theorem wZ_zQ {h nb nl c : Nat} (K : TK S) (h11 : S 11 0 = nb) (h12 : S 12 0 = nl) (hl : nl ≤ 4) (hh : h ≤ 60) : wZ (zQ S h nb nl) c = zQ S h nb nl c := by
  have := zQ_le (c := c) K h11 h12 hl hh
  show (if zQ S h nb nl c = 4294967287 then 1000 else zQ S h nb nl c) = _
  rw [if_neg (by omega)]
theorem ok_quiet (J : Inv G P) (a0 a1 : Int32) : OKm G P (T_X2_quiet a0 a1) (T_X3_quiet a0 a1) := by
  have K := J.tk
  have h12 := K.1.nl
  have h11 := K.1.nb
  have g7 : G 1 7 0 = G 13 12 0 := J.sb.1.2.1
  have g0 : G 1 0 0 = G 13 11 0 := J.sb.1.1
  have cases := chk_who a1 (G 13 12 0) (by omega)
  by_cases hlow : a1 < -nI 1
  · refine ok_ref 4 J (by decide) ?_ (fun τ => ?_)
    · unfold T_X2_quiet T_X2_quiet_j9
      rw [d1, if_pos hlow, cI_id, c4]
    · unfold T_X3_quiet T_X3_quiet_j9 T_X3_quiet_j39
      rw [d1, if_pos hlow, c4, d0, if_neg (by decide), cI_id]
  · rcases in_or_out a0 61 (by omega) with ⟨h, hh, rfl⟩ | ⟨h1, h2⟩ | h1
    · by_cases h4 : G 13 12 0 ≤ 4
      · have hh : h ≤ 60 := by omega
        obtain ⟨V0, s1, s2, s3, s4⟩ := x1_start (τ := (wo G 2 (G 2), P)) (V := G 12) h11 h4
        have h7 : 7 ^ (G 13 12 0) ≤ 2401 := pow_le5 (a := 6) (by omega) h4
        have hN := pow_le5 h11 h4
        obtain ⟨k, s, m1, m2, m3, m4, m5⟩ := min_same (nb := G 13 11 0) (nl := G 13 12 0) h11 h4 (w := fun k => vQ (G 13) h (G 13 12 0) (toB (G 13 11 0) (G 13 12 0) k)) (v := wZ (zQ (G 13) h (G 13 11 0) (G 13 12 0))) (m := fun x => x) (I1 := 1000000) (I2 := 5000) (fun k hk ok => by
          have wk := wA h11 h4 hk
          have okb : okB (G 13 11 0) (G 13 12 0) (toB (G 13 11 0) (G 13 12 0) k) = true := by rw [← wk.1]; exact ok
          have hle := vQ_le K rfl rfl h4 wk.2.1 okb hh
          refine ⟨by omega, ?_, ?_⟩
          · rw [wZ_zQ K rfl rfl h4 hh, zQ_eq okb wk.2.1]
          · rw [wZ_zQ K rfl rfl h4 hh, zQ_eq okb wk.2.1]; omega) (fun x y h1 h2 => h1)
        obtain ⟨V', C', l1, l2, l3, l4⟩ := quC_loop J rfl rfl h4 hh (v3 := a1) ((G 13 11 0 + 1) ^ (G 13 12 0)) 0 FU V0 (G 2) (NN, 1000000) (by omega) s2 s3 s4 (Or.inl rfl) (FU_gt (by omega))
        obtain ⟨F, b1, b2, b3⟩ := bw_loop K rfl rfl h4 (v1 := -nI 1) (v2 := -nI 1) (v3 := nI h) (z := zQ (G 13) h (G 13 11 0) (G 13 12 0)) (fun c => Or.inr (by have := zQ_le (c := c) K rfl rfl h4 hh; omega)) (fun c Y hc ok kr => by
          obtain ⟨F, q1, q2⟩ := qu_hM K rfl rfl h4 hh (-nI 1) c Y hc ok kr
          rw [← zQ_eq ok hc] at q1
          exact ⟨F, q1, q2⟩) (7 ^ (G 13 12 0)) 0 FU (G 13) (NN, 5000) (by omega) (KR.refl K.2.2) (Or.inl rfl) (FU_gt (by omega))
        rw [m1] at l1 l4
        rw [m2] at b1 b3
        have hk7 := (wA (nb := G 13 11 0) h11 h4 m3).2.1
        have b3 : F 31 0 = s := by
          rcases b3 with q | q
          · have := congrArg Prod.fst q
            have : toB (G 13 11 0) (G 13 12 0) k = 4294967287 := this
            omega
          · exact q
        have l4 : ∀ i, i < G 13 12 0 → V' 1 i = kN (eW (G 13 12 0) (toB (G 13 11 0) (G 13 12 0) k) i) := by
          rcases l4 with q | q
          · have := congrArg Prod.fst q
            have : k = 4294967287 := this
            omega
          · exact q
        have f12 : F 12 0 = G 13 12 0 := b2.1 12 0 (inr (by decide) (by omega))
        have clsE : T_X2_quiet (nI h) a1 (Ro (G, P) 2 (G 2)) = if a1 = -nI 1 then some (nI s, Ro (wo G 12 V', P) 2 C') else cV (T_X1_bestBagOf (Ro (wo G 2 C', P) 12 V') a1) (fun x2 => some (x2, Ro (wo G 12 V', P) 2 C')) := by
          unfold T_X2_quiet
          rw [d1, if_neg hlow, d0, if_pos (by rw [q_le (by omega) (by omega)]; omega), c60, if_pos (by rw [q_le (by omega) (by omega)]; omega), rx_gf (by decide)]
          show (if nI (G 1 7 0) ≤ 4 then _ else _) = _
          rw [g7, c4, if_pos (by rw [q_le (by omega) (by omega)]; omega), rx_gf (by decide), rx_gf (by decide)]
          show cV (T_X1_start (nI (G 1 0 0)) (nI (G 1 7 0)) (Ro (G, P) 2 (G 2))) _ = _
          rw [g0, g7, Ro_12, RV_sw, s1]
          simp only [e_cV]
          rw [← RV_sw, show (1000000 : Int32) = nI 1000000 from id rfl, l1, RV_sw]
          unfold T_X2_quiet_L74
          rw [ro_gf, l3, if_pos (by rw [q_le (by omega) (by omega)]; omega), c1]
        have refE : ∀ τ, T_X3_quiet (nI h) a1 (Ro τ 13 (G 13)) = if a1 < nI 0 then some (nI s, Ro τ 13 F) else cV (T_X3_bagBy (Ro τ 13 F) (nI (toB (G 13 11 0) (G 13 12 0) k)) a1) (fun x5 => some (x5, Ro τ 13 F)) := by
          intro τ
          unfold T_X3_quiet T_X3_quiet_j39 T_X3_bestWay
          rw [d1, if_neg hlow, d0, if_pos (by rw [q_le (by omega) (by omega)]; omega), c60, if_pos (by rw [q_le (by omega) (by omega)]; omega), ro_gf, c4, if_pos (by rw [q_le (by omega) (by omega)]; omega), if_pos (by trivial), q_m9, b1 τ]
          simp only [e_cI]
          rw [ro_gf, b3]
        rcases cases with q | ⟨l, hl, rfl, q1, q2, q3, q4⟩ | ⟨q1, q2, q3, q4, q5⟩ | ⟨q1, q2⟩
        · refine ok_q12 (V := V') (C := C') (r := nI s) J ?_ (fun τ => ⟨F, ?_, b2⟩)
          · rw [clsE, if_pos q]
          · rw [refE τ, if_pos (by rw [q]; decide)]
        · refine ok_q12 (V := V') (C := C') (r := nI (kN (eW (G 13 12 0) (toB (G 13 11 0) (G 13 12 0) k) l))) J ?_ (fun τ => ⟨F, ?_, b2⟩)
          · rw [clsE, if_neg q4, x1_bestBag l2 h4 l4 hl]
            rfl
          · rw [refE τ, if_neg q3, x3_bagBy f12 h4 (by omega) hl]
            rfl
        · refine ok_q12 (V := V') (C := C') (r := nI NN) J ?_ (fun τ => ⟨F, ?_, b2⟩)
          · rw [clsE, if_neg q5, x1_bestOut l2 q1 q2]
            rfl
          · rw [refE τ, if_neg q1, x3_bagOut f12 q2]
            rfl
        · exact absurd q2 hlow
      · refine ok_ref 3 J (by decide) ?_ (fun τ => ?_)
        · unfold T_X2_quiet
          rw [d1, if_neg hlow, d0, if_pos (by rw [q_le (by omega) (by omega)]; omega), c60, if_pos (by rw [q_le (by omega) (by omega)]; omega), rx_gf (by decide)]
          show (if nI (G 1 7 0) ≤ 4 then _ else _) = _
          rw [g7, c4, if_neg (by rw [q_le (by omega) (by omega)]; omega), cI_id, c3]
        · unfold T_X3_quiet T_X3_quiet_j39
          rw [d1, if_neg hlow, d0, if_pos (by rw [q_le (by omega) (by omega)]; omega), c60, if_pos (by rw [q_le (by omega) (by omega)]; omega), ro_gf, c4, if_neg (by rw [q_le (by omega) (by omega)]; omega), c3, if_neg (by decide), cI_id]
    · have p1 : nI 0 ≤ a0 := (ge_lt (by decide)).mpr h1
      have p2 : ¬ a0 ≤ nI 60 := fun q => (le_lt (by decide)).mp q h2
      refine ok_ref 6 J (by decide) ?_ (fun τ => ?_)
      · unfold T_X2_quiet
        rw [d1, if_neg hlow, d0, if_pos p1, c60, if_neg p2, cI_id, c6]
      · unfold T_X3_quiet T_X3_quiet_j39
        rw [d1, if_neg hlow, d0, if_pos p1, c60, if_neg p2, c6, if_neg (by decide), cI_id]
    · have p1 : ¬ nI 0 ≤ a0 := fun q => (ge_lt (by decide)).mp q h1
      refine ok_ref 4 J (by decide) ?_ (fun τ => ?_)
      · unfold T_X2_quiet T_X2_quiet_j9
        rw [d1, if_neg hlow, d0, if_neg p1, cI_id, c4]
      · unfold T_X3_quiet T_X3_quiet_j9 T_X3_quiet_j39
        rw [d1, if_neg hlow, d0, if_neg p1, c4, if_neg (by decide), cI_id]
end Qu2
