/-! quiet -/
def totH (X : SS) : Nat := sumN (X 27) (X 12 0) 0
noncomputable def vQ (S : SS) (h nl c : Nat) : Nat := allH (TeS S (eW nl c) nl) h
theorem Str.trans {X Y Z : SS} (h : Str X Y) (k : Str Y Z) : Str X Z := by
  refine ⟨k.1.trans h.1, k.2.1.trans h.2.1, k.2.2.1.trans h.2.2.1, k.2.2.2.1.trans h.2.2.2.1, fun b hb => ?_, fun l hl => ?_⟩
  · have p := h.2.2.2.2.1 b hb
    have q := k.2.2.2.2.1 b (by rw [h.1]; exact hb)
    exact ⟨q.1.trans p.1, q.2.1.trans p.2.1, q.2.2.1.trans p.2.2.1, q.2.2.2.1.trans p.2.2.2.1, q.2.2.2.2.trans p.2.2.2.2⟩
  · have p := h.2.2.2.2.2 l hl
    have q := k.2.2.2.2.2 l (by rw [h.2.1]; exact hl)
    exact ⟨q.1.trans p.1, q.2.1.trans p.2.1, q.2.2.1.trans p.2.2.1, q.2.2.2.1.trans p.2.2.2.1, q.2.2.2.2.trans p.2.2.2.2⟩
theorem Str.symm {X Y : SS} (h : Str X Y) : Str Y X := by
  refine ⟨h.1.symm, h.2.1.symm, h.2.2.1.symm, h.2.2.2.1.symm, fun b hb => ?_, fun l hl => ?_⟩
  · have p := h.2.2.2.2.1 b (by rw [← h.1]; exact hb)
    exact ⟨p.1.symm, p.2.1.symm, p.2.2.1.symm, p.2.2.2.1.symm, p.2.2.2.2.symm⟩
  · have p := h.2.2.2.2.2 l (by rw [← h.2.1]; exact hl)
    exact ⟨p.1.symm, p.2.1.symm, p.2.2.1.symm, p.2.2.2.1.symm, p.2.2.2.2.symm⟩
theorem Eqs.hx {h : Nat → Nat} {X Y : SS} (e : Eqs X Y) (W : WF X) : Eqs (Jvm.Pilot.@@N@@.hx h X) (Jvm.Pilot.@@N@@.hx h Y) := fun f i q => by
  unfold Jvm.Pilot.@@N@@.hx
  rw [e.who W, e f i q]
section Qui
variable {G : GG} {P : Nat → Nat} {A C D S X Y F V : SS} {τ : TT} {o c nb nl h : Nat}
theorem totH_run (r : Nat) : totH X ≤ totH (runS X r) := by
  unfold totH
  rw [runS_keeps (by decide)]
  exact sumN_mono _ _ (fun i _ _ => (run_27 r X).2)
theorem allH_totH {n : Nat} : totH (rnC Y n) = allH Y n := by
  unfold totH
  rw [rnC_12]
  rfl
theorem ledB_loop {lim : Nat} (hl : lim < 2147483648) (hd : ∀ l, l < 5 → D 27 l = 0) (hh : h ≤ 60) : ∀ r k X C n, SC D C X → C 18 0 = kN 9 → WF X → X 13 0 + r ≤ 5000 → totH (runS X r) ≤ 1000 → k + r = h → r < n → ∃ x C', T_X2_ledHoursBelow_L2 n (nI h) (nI lim) (nI k) (Ro τ 2 C) = some (nI x, Ro τ 2 C') ∧ (totH (runS X r) < lim → x = totH (runS X r)) ∧ (lim ≤ totH (runS X r) → lim ≤ x) ∧ x ≤ 1000 := by
  have tot : ∀ X C, SC D C X → WF X → T_X0_allLedHours 2 (Ro τ 2 C) = some (nI (totH X)) := by
    intro X C R W
    have h12 := W.nl
    have e7 := R.c7
    rw [x0_ledH (by omega), e7]
    unfold totH
    rw [sumN_congr (g' := X 27)]
    intro i h1 h2
    have := (R.2.2.2.1 i (by omega)).1
    rw [hd i (by omega)] at this
    omega
  intro r
  induction r with
  | zero =>
    intro k X C n R ha W h13 ht h hn
    obtain ⟨n, rfl⟩ := fu_one hn
    refine ⟨totH X, C, ?_, fun _ => rfl, fun q => q, ht⟩
    unfold T_X2_ledHoursBelow_L2 T_X2_ledHoursBelow_j32
    rw [if_pos (by rw [q_le (by omega) (by omega)]; omega), tot X C R W]
    rfl
  | succ r ih =>
    intro k X C n R ha W h13 ht h hn
    obtain ⟨n, rfl⟩ := fu_one (by omega : 0 < n)
    have hmono : totH X ≤ totH (runS X (r + 1)) := totH_run (r + 1)
    by_cases q : lim ≤ totH X
    · refine ⟨totH X, C, ?_, fun z => by omega, fun _ => q, by omega⟩
      unfold T_X2_ledHoursBelow_L2 T_X2_ledHoursBelow_j32
      rw [if_neg (by rw [q_le (by omega) (by omega)]; omega), tot X C R W]
      simp only [e_cV]
      rw [if_pos (by rw [q_le (by omega) (by omega)]; exact q)]
    · obtain ⟨C1, g1, g2, g3⟩ := x0_hour1 (τ := τ) (o := 2) (by decide : 9 ≤ 9) W (by omega) R ha
      obtain ⟨x, C', i1, i2⟩ := ih (k + 1) (hourS X 9) C1 n g2 g3 (W.hour 9) (by rw [hourS_13]; omega) ht (by omega) (by omega)
      refine ⟨x, C', ?_, i2⟩
      unfold T_X2_ledHoursBelow_L2
      rw [if_neg (by rw [q_le (by omega) (by omega)]; omega), tot X C R W]
      simp only [e_cV]
      rw [if_neg (by rw [q_le (by omega) (by omega)]; exact q), c1, g1]
      simp only [e_cV]
      rw [nI_add, e_vl]
      exact i1
theorem x2_ledB {lim : Nat} (K : TK Y) (R : SB C Y) (t : T0 C) (hl : lim < 2147483648) (hh : h ≤ 60) : ∃ x C', T_X2_ledHoursBelow (nI h) (nI lim) (Ro τ 2 C) = some (nI x, Ro τ 2 C') ∧ (allH Y h < lim → x = allH Y h) ∧ (lim ≤ allH Y h → lim ≤ x) ∧ x ≤ 1000 := by
  have K2 := (K.keep (w := 2)).cnt
  have h13 := K2.2.1
  have hle := allH_le K hh
  have e := allH_totH (Y := Y) (n := h)
  have e : totH (runS (cntS (kpS 2 Y)) h) = allH Y h := e
  obtain ⟨x, C', i1, i2⟩ := ledB_loop (τ := τ) (D := cntS (kpS 2 Y)) hl (fun l hl => (cnt_27 hl).1) hh h 0 (cntS (kpS 2 Y)) C FU (t.sc ((Eqs.keep.trans Eqs.cnt).sb K.1 R)) t.2 K2.1 (by omega) (by omega) (by omega) (FU_gt (by omega))
  rw [e] at i2
  refine ⟨x, C', ?_, i2⟩
  unfold T_X2_ledHoursBelow
  rw [c0]
  exact i1
theorem vQ_ref (K : TK S) (k : KR 60 S Y) (h11 : S 11 0 = nb) (h12 : S 12 0 = nl) (hl : nl ≤ 4) (hc : c < 7 ^ nl) (ok : okB nb nl c = true) (hh : h ≤ 60) : allH (gvX Y nl c) h = vQ S h nl c := by
  have hb6 : nb ≤ 6 := by rw [← h11]; exact K.1.nb
  have KX := TK.gvX K k h11 h12 hl hc ok
  have st := str_gvX K k h11 h12 hl hc ok
  have w := Way.of h11 h12 hb6 hl hc ok
  have WT := K.1.Te w (l := nl) (by omega)
  have KT : TK (TeS S (eW nl c) nl) := ⟨WT, by rw [Te_oth (by decide)]; exact K.2.1, by rw [Te_oth (by decide)]; exact K.2.2⟩
  have t12 : TeS S (eW nl c) nl 12 0 = nl := by rw [Te_oth (by decide)]; exact h12
  have x12 : gvX Y nl c 12 0 = nl := by
    have := st.2.1
    rw [hx_ne (by decide)] at this
    exact this.trans t12
  have E1 : Eqs (TeS S (eW nl c) nl) (cntS (kpS 2 (TeS S (eW nl c) nl))) := Eqs.keep.trans Eqs.cnt
  have E2 : Eqs (gvX Y nl c) (cntS (kpS 2 (gvX Y nl c))) := Eqs.keep.trans Eqs.cnt
  have K1 := (KT.keep (w := 2)).cnt
  have K2 := (KX.keep (w := 2)).cnt
  have S12 : Str (cntS (kpS 2 (TeS S (eW nl c) nl))) (hx (fun _ => 0) (cntS (kpS 2 (gvX Y nl c)))) := ((Str.of E1 WT).symm.trans st).trans (Str.of (E2.hx KX.1) KX.1.hx0)
  have h13 := K1.2.1
  have e12 : cntS (kpS 2 (TeS S (eW nl c) nl)) 12 0 = nl := by rw [cnt_oth (by decide), kpS_oth (by decide)]; exact t12
  have run := run_str h _ _ S12 K1.1 K2.1.hx0 (by omega) (fun l hl => by rw [hx_ne (by decide), (cnt_27 (by omega)).1, (cnt_27 (by omega)).1])
  unfold vQ allH
  rw [x12, t12, sumN_congr (g' := rnC (TeS S (eW nl c) nl) h 27)]
  intro i h1 h2
  have := run i (by omega)
  rw [run_hx h _ K2.1, hx_ne (by decide)] at this
  exact this
theorem qu_hM (K : TK S) (h11 : S 11 0 = nb) (h12 : S 12 0 = nl) (hl : nl ≤ 4) (hh : h ≤ 60) (v2 : Int32) : ∀ c Y, c < 7 ^ nl → okB nb nl c = true → KR 60 S Y → ∃ F, (∀ τ, (if nI 0 ≤ -nI 1 then T_X3_meetsIn (-nI 1) v2 (Ro τ 13 (gvX Y nl c)) else T_X3_allLed (nI h) (Ro τ 13 (gvX Y nl c))) = some (nI (vQ S h nl c), Ro τ 13 F)) ∧ OS 120 (gvX Y nl c) F ∧ F 31 0 = gvX Y nl c 31 0 := by
  intro c Y hc ok k
  have KX := TK.gvX K k h11 h12 hl hc ok
  refine ⟨gtS 2 (rnC (gvX Y nl c) h), fun τ => ?_, (KR.rnC KX h).2, ?_⟩
  · rw [if_neg (by decide), x3_allLed KX hh, vQ_ref K k h11 h12 hl hc ok hh]
  · rw [gtS_oth (by omega) (by omega)]
    unfold rnC
    rw [runS_keeps (by decide), cnt_oth (by decide), kpS_oth (by decide)]
theorem vQ_le (K : TK S) (h11 : S 11 0 = nb) (h12 : S 12 0 = nl) (hl : nl ≤ 4) (hc : c < 7 ^ nl) (ok : okB nb nl c = true) (hh : h ≤ 60) : vQ S h nl c ≤ 300 := by
  have hb6 : nb ≤ 6 := by rw [← h11]; exact K.1.nb
  have w := Way.of h11 h12 hb6 hl hc ok
  have WT := K.1.Te w (l := nl) (by omega)
  exact allH_le (Y := TeS S (eW nl c) nl) ⟨WT, by rw [Te_oth (by decide)]; exact K.2.1, by rw [Te_oth (by decide)]; exact K.2.2⟩ hh
theorem quC_loop (J : Inv G P) (h11 : G 13 11 0 = nb) (h12 : G 13 12 0 = nl) (h4 : nl ≤ 4) (hh : h ≤ 60) {v3 : Int32} : ∀ r k n V C p, k + r = (nb + 1) ^ nl → V 2 0 = nb → V 3 0 = nl → V 4 0 = (nb + 1) ^ nl → (p = (NN, 1000000) ∨ (p.2 ≤ 300 ∧ ∀ i, i < nl → V 1 i = kN (eW nl (toB nb nl p.1) i))) → r < n → ∃ V' C', T_X2_quiet_L74 n (nI h) v3 (nI p.2) (nI k) (Ro (wo G 12 V, P) 2 C) = T_X2_quiet_L74 1 (nI h) v3 (nI (minA (okA nb nl) (fun k => vQ (G 13) h nl (toB nb nl k)) r k p).2) (nI ((nb + 1) ^ nl)) (Ro (wo G 12 V', P) 2 C') ∧ V' 3 0 = nl ∧ V' 4 0 = (nb + 1) ^ nl ∧ (minA (okA nb nl) (fun k => vQ (G 13) h nl (toB nb nl k)) r k p = (NN, 1000000) ∨ ∀ i, i < nl → V' 1 i = kN (eW nl (toB nb nl (minA (okA nb nl) (fun k => vQ (G 13) h nl (toB nb nl k)) r k p).1) i)) := by
  have K := J.tk
  have hb6 : nb ≤ 6 := by rw [← h11]; exact K.1.nb
  have h7 : (nb + 1) ^ nl ≤ 2401 := pow_le5 hb6 h4
  intro r
  induction r with
  | zero =>
    intro k n V C p hk v2 v3' v4 hp hn
    obtain ⟨n, rfl⟩ := fu_one hn
    refine ⟨V, C, ?_, v3', v4, hp.imp id (fun q => q.2)⟩
    rw [show k = (nb + 1) ^ nl by omega]
    have hz : minA (okA nb nl) (fun k => vQ (G 13) h nl (toB nb nl k)) 0 ((nb + 1) ^ nl) p = p := rfl
    have e : ∀ m, T_X2_quiet_L74 (m + 1) (nI h) v3 (nI p.2) (nI ((nb + 1) ^ nl)) (Ro (wo G 2 C, P) 12 V) = if v3 = -nI 1 then some (nI p.2, Ro (wo G 2 C, P) 12 V) else cV (T_X1_bestBagOf (Ro (wo G 2 C, P) 12 V) v3) (fun x2 => some (x2, Ro (wo G 2 C, P) 12 V)) := by
      intro m
      unfold T_X2_quiet_L74
      rw [ro_gf, v4, if_pos (by rw [q_le (by omega) (by omega)]; omega), c1]
    rw [hz, RV_sw, e n, e 0]
  | succ r ih =>
    intro k n V C p hk v2 v3' v4 hp hn
    obtain ⟨n, rfl⟩ := fu_one (by omega : 0 < n)
    have hmin : minA (okA nb nl) (fun k => vQ (G 13) h nl (toB nb nl k)) (r + 1) k p = minA (okA nb nl) (fun k => vQ (G 13) h nl (toB nb nl k)) r (k + 1) (if okA nb nl k = true ∧ vQ (G 13) h nl (toB nb nl k) < p.2 then (k, vQ (G 13) h nl (toB nb nl k)) else p) := rfl
    obtain ⟨V1, d1, d2, d3⟩ := x1_decode (τ := (wo G 2 C, P)) hb6 h4 (k := k) (by omega) v2 v3'
    have u2 : V1 2 0 = nb := by rw [d2 _ _ (by decide)]; exact v2
    have u3 : V1 3 0 = nl := by rw [d2 _ _ (by decide)]; exact v3'
    have u4 : V1 4 0 = (nb + 1) ^ nl := by rw [d2 _ _ (by decide)]; exact v4
    have hp1 : p = (NN, 1000000) ∨ (p.2 ≤ 300 ∧ ∀ i, i < nl → V1 1 i = kN (eW nl (toB nb nl p.1) i)) := hp.imp id (fun q => ⟨q.1, fun i hi => by rw [d2 _ _ (by decide)]; exact q.2 i hi⟩)
    have hs : p.2 < 2147483648 := by
      rcases hp with rfl | q
      · show 1000000 < 2147483648; omega
      · omega
    by_cases ok : okA nb nl k = true
    · have wk := wA hb6 h4 (k := k) (by omega)
      have okb : okB nb nl (toB nb nl k) = true := by rw [← wk.1]; exact ok
      have w := Way.of (S := G 13) h11 h12 hb6 h4 wk.2.1 okb
      have dg : ∀ i, i < nl → V1 0 i = kN (eW nl (toB nb nl k) i) := fun i hi => by rw [d3 ok i hi, eW_A hb6 h4 (by omega) hi]
      obtain ⟨D, g1, g2, g3⟩ := x2_given1 (V := V1) (P := P) (C := C) K J.sb w (by omega) (by omega) (fun l hl => dg l (by omega))
      rw [h12] at g2
      have WT := K.1.Te w (l := nl) (by omega)
      have t12 : TeS (G 13) (eW nl (toB nb nl k)) nl 12 0 = nl := by rw [Te_oth (by decide)]; exact h12
      have KT : TK (TeS (G 13) (eW nl (toB nb nl k)) nl) := ⟨WT, by rw [Te_oth (by decide)]; exact K.2.1, by rw [Te_oth (by decide)]; exact K.2.2⟩
      obtain ⟨x, C3, m1, m2, m3, m4⟩ := x2_ledB (τ := (wo G 12 V1, P)) (lim := p.2) KT g2 g3 hs hh
      have m2 : vQ (G 13) h nl (toB nb nl k) < p.2 → x = vQ (G 13) h nl (toB nb nl k) := m2
      have m3 : p.2 ≤ vQ (G 13) h nl (toB nb nl k) → p.2 ≤ x := m3
      have hle := vQ_le K h11 h12 h4 wk.2.1 okb hh
      have start : T_X2_quiet_L74 (n + 1) (nI h) v3 (nI p.2) (nI k) (Ro (wo G 12 V, P) 2 C) = if vQ (G 13) h nl (toB nb nl k) < p.2 then T_X2_quiet_L74 n (nI h) v3 (nI (vQ (G 13) h nl (toB nb nl k))) (nI (k + 1)) (Ro (wo G 12 (cpA V1 V1 0 1 4), P) 2 C3) else T_X2_quiet_L74 n (nI h) v3 (nI p.2) (nI (k + 1)) (Ro (wo G 12 V1, P) 2 C3) := by
        conv => lhs; unfold T_X2_quiet_L74
        rw [RV_sw, ro_gf, v4, if_neg (by rw [q_le (by omega) (by omega)]; omega), d1]
        simp only [e_cI]
        rw [if_pos ok, c0, if_neg (by decide), ← RV_sw, g1]
        simp only [e_cV]
        rw [m1]
        simp only [e_cI]
        by_cases q : vQ (G 13) h nl (toB nb nl k) < p.2
        · rw [m2 q, if_pos q, if_neg (by rw [q_le (by omega) (by omega)]; omega), RV_sw, x1_keep]
          simp only [e_cV]
          rw [c1, nI_add, e_vl, ← RV_sw]
        · rw [if_neg q, if_pos (by rw [q_le (by omega) (by omega)]; exact m3 (by omega)), c1, nI_add, e_vl]
      by_cases q : vQ (G 13) h nl (toB nb nl k) < p.2
      · rw [if_pos ⟨ok, q⟩] at hmin
        obtain ⟨V', C', i1, i2⟩ := ih (k + 1) n (cpA V1 V1 0 1 4) C3 (k, vQ (G 13) h nl (toB nb nl k)) (by omega) u2 u3 u4 (Or.inr ⟨hle, fun i hi => by
          show (if 1 = 1 ∧ i < 4 then V1 0 i else V1 1 i) = _
          rw [if_pos ⟨rfl, by omega⟩]
          exact dg i hi⟩) (by omega)
        refine ⟨V', C', ?_, by rw [hmin]; exact i2⟩
        rw [start, if_pos q, hmin]
        exact i1
      · rw [if_neg (fun y => q y.2)] at hmin
        obtain ⟨V', C', i1, i2⟩ := ih (k + 1) n V1 C3 p (by omega) u2 u3 u4 hp1 (by omega)
        refine ⟨V', C', ?_, by rw [hmin]; exact i2⟩
        rw [start, if_neg q, hmin]
        exact i1
    · rw [if_neg (fun y => ok y.1)] at hmin
      obtain ⟨V', C', i1, i2⟩ := ih (k + 1) n V1 C p (by omega) u2 u3 u4 hp1 (by omega)
      refine ⟨V', C', ?_, by rw [hmin]; exact i2⟩
      rw [hmin, ← i1]
      conv => lhs; unfold T_X2_quiet_L74
      rw [RV_sw, ro_gf, v4, if_neg (by rw [q_le (by omega) (by omega)]; omega), d1]
      simp only [e_cI]
      rw [if_neg ok, c0, if_pos (by trivial), c1, nI_add, e_vl, ← RV_sw]
end Qui
