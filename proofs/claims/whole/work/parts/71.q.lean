/-! given -/
noncomputable def vG (S : SS) (a b nl c : Nat) : Nat := firstN (fun X => decide (X 8 a = X 8 b)) 61 0 (TeS S (eW nl c) nl)
def mG (v : Nat) : Nat := if v = 61 then 1000 else v
theorem min60_all : ∀ s, s < 63 → T_J9_min_7cf53 (fun _ _ _ => 0, fun _ => 0) (nI s - nI 1) (nI 60) = some (nI (if s < 61 then s else 61) - nI 1) := by decide +kernel
theorem x_min60 {σ : ST} {s : Nat} (h : s ≤ 62) : T_J9_min_7cf53 σ (nI s - nI 1) (nI 60) = some (nI (if s < 61 then s else 61) - nI 1) := min60_all s (by omega)
theorem lim_lt {v s : Nat} (hv : v ≤ 61) (hs : s ≤ 62) (q : v < s) : (if v < (if s < 61 then s else 61) then v else 61) = v := by
  by_cases h : s < 61
  · rw [if_pos h, if_pos q]
  · rw [if_neg h]
    by_cases h2 : v < 61
    · rw [if_pos h2]
    · rw [if_neg h2]; omega
theorem lim_ge {v s : Nat} (hv : v ≤ 61) (hs : s ≤ 62) (q : ¬ v < s) : (if v < (if s < 61 then s else 61) then v else 61) = 61 ∧ s ≤ 61 := by
  refine ⟨?_, by omega⟩
  by_cases h : s < 61
  · rw [if_pos h, if_neg q]
  · rw [if_neg h]
    by_cases h2 : v < 61
    · omega
    · rw [if_neg h2]
section Gvn
variable {G : GG} {P : Nat → Nat} {A C S X Y F V : SS} {τ : TT} {o c nb nl a b : Nat}
theorem RV_sw : Ro (wo G 12 V, P) 2 C = Ro (wo G 2 C, P) 12 V := by
  unfold Ro
  show (nV (wo (wo G 12 V) 2 C), P) = (nV (wo (wo G 2 C) 12 V), P)
  rw [wo_comm G V C (by decide)]
theorem Ro_12 : Ro (G, P) 2 (G 2) = Ro (wo G 12 (G 12), P) 2 (G 2) := by rw [wo_self]
theorem vG_le : vG S a b nl c ≤ 61 := by
  unfold vG
  rcases firstN_le (fun X => decide (X 8 a = X 8 b)) 61 0 (TeS S (eW nl c) nl) (by omega) with h | h <;> omega
theorem Way.of (h11 : S 11 0 = nb) (h12 : S 12 0 = nl) (hb : nb ≤ 6) (hl : nl ≤ 4) (hc : c < 7 ^ nl) (ok : okB nb nl c = true) : Way (eW nl c) (S 11 0) (S 12 0) := by
  rw [h11, h12]
  exact wD hb hl hc ok
theorem eW_A {k : Nat} (hb : nb ≤ 6) (hl : nl ≤ 4) (hk : k < (nb + 1) ^ nl) {i : Nat} (hi : i < nl) : (if dgA nb nl k i = nb then 9 else dgA nb nl k i) = eW nl (toB nb nl k) i := by
  have h1 := (wA hb hl hk).2.2.2 i hi
  have h2 : dgA nb nl k i < nb + 1 := Nat.mod_lt _ (by omega)
  unfold eW
  rw [h1]
  by_cases q : dgA nb nl k i = nb
  · rw [if_pos q, if_pos q, if_pos (by trivial)]
  · rw [if_neg q, if_neg q, if_neg (by omega)]
theorem TK.gvX (K : TK S) (k : KR 60 S Y) (h11 : S 11 0 = nb) (h12 : S 12 0 = nl) (hl : nl ≤ 4) (hc : c < 7 ^ nl) (ok : okB nb nl c = true) : TK (Jvm.Pilot.@@N@@.gvX Y nl c) := by
  have hb : nb ≤ 6 := by rw [← h11]; exact K.1.nb
  have K1 := (k.tk K).keep (w := 1)
  have e11 : kpS 1 Y 11 0 = nb := by rw [kpS_oth (by decide), k.1 11 0 (inr (by decide) (by omega))]; exact h11
  have e12 : kpS 1 Y 12 0 = nl := by rw [kpS_oth (by decide), k.1 12 0 (inr (by decide) (by omega))]; exact h12
  unfold Jvm.Pilot.@@N@@.gvX
  refine ⟨?_, by rw [gvR_oth (by decide)]; exact K1.2.1, by rw [gvR_oth (by decide)]; exact K1.2.2⟩
  have := K1.1.gvR (Way.of e11 e12 hb hl hc ok)
  rw [e12] at this
  exact this
theorem str_gvX (K : TK S) (k : KR 60 S Y) (h11 : S 11 0 = nb) (h12 : S 12 0 = nl) (hl : nl ≤ 4) (hc : c < 7 ^ nl) (ok : okB nb nl c = true) : Str (TeS S (eW nl c) nl) (hx (fun _ => 0) (Jvm.Pilot.@@N@@.gvX Y nl c)) := by
  have hb : nb ≤ 6 := by rw [← h11]; exact K.1.nb
  have := str_gvR (X := kpS 1 Y) K.1 (k.1.trans Eqs.keep) (Way.of h11 h12 hb hl hc ok)
  rw [h12] at this
  exact this
theorem vG_ref (K : TK S) (k : KR 60 S Y) (h11 : S 11 0 = nb) (h12 : S 12 0 = nl) (hl : nl ≤ 4) (hc : c < 7 ^ nl) (ok : okB nb nl c = true) (ha : a < nl) (hb : b < nl) : firstN (fun X => decide (X 8 a = X 8 b)) 61 0 (kpS 2 (gvX Y nl c)) = vG S a b nl c := by
  have hb6 : nb ≤ 6 := by rw [← h11]; exact K.1.nb
  have KX := TK.gvX K k h11 h12 hl hc ok
  have st := str_gvX K k h11 h12 hl hc ok
  have w := Way.of h11 h12 hb6 hl hc ok
  have WT := K.1.Te w (l := nl) (by omega)
  have t12 : TeS S (eW nl c) nl 12 0 = nl := by rw [Te_oth (by decide)]; exact h12
  have t13 : TeS S (eW nl c) nl 13 0 ≤ 999 := by rw [Te_oth (by decide)]; exact K.2.1
  have x12 : gvX Y nl c 12 0 = nl := by
    have := st.2.1
    rw [hx_ne (by decide)] at this
    exact this.trans t12
  have h1 := fM_str (a := a) (b := b) 61 0 _ _ st WT KX.1.hx0 (by omega) (by omega) (by omega)
  have h2 := fM_hx (h := fun _ => 0) (a := a) (b := b) 61 0 (gvX Y nl c) KX.1
  have h3 := fM_str (a := a) (b := b) 61 0 (gvX Y nl c) (kpS 2 (gvX Y nl c)) (Str.of Eqs.keep KX.1) KX.1 KX.keep.1 (by omega) (by omega) (by have := KX.2.1; omega)
  exact h3.trans (h2.symm.trans h1)
theorem gv_hM (K : TK S) (h11 : S 11 0 = nb) (h12 : S 12 0 = nl) (hl : nl ≤ 4) (ha : a < nl) (hb : b < nl) (v3 : Int32) : ∀ c Y, c < 7 ^ nl → okB nb nl c = true → KR 60 S Y → ∃ F, (∀ τ, (if nI 0 ≤ nI a then T_X3_meetsIn (nI a) (nI b) (Ro τ 13 (gvX Y nl c)) else T_X3_allLed v3 (Ro τ 13 (gvX Y nl c))) = some (nI (kF (vG S a b nl c)), Ro τ 13 F)) ∧ OS 120 (gvX Y nl c) F ∧ F 31 0 = gvX Y nl c 31 0 := by
  intro c Y hc ok k
  have KX := TK.gvX K k h11 h12 hl hc ok
  have st := str_gvX K k h11 h12 hl hc ok
  have t12 : TeS S (eW nl c) nl 12 0 = nl := by rw [Te_oth (by decide)]; exact h12
  have x12 : gvX Y nl c 12 0 = nl := by
    have := st.2.1
    rw [hx_ne (by decide)] at this
    exact this.trans t12
  have K2 := KX.keep (w := 2)
  have e12 : kpS 2 (gvX Y nl c) 12 0 = nl := by rw [kpS_oth (by decide)]; exact x12
  have h13 := K2.2.1
  obtain ⟨F, f1, f2, f3⟩ := x3_fM31 (a := a) (b := b) (m := 60) (S0 := kpS 2 (gvX Y nl c)) rfl 61 0 (kpS 2 (gvX Y nl c)) FU (OS.keep KX.2.2) K2.1 (by omega) (by omega) rfl (FU_gt (by decide))
  refine ⟨gtS 2 F, fun τ => ?_, (KR.think KX.2.2 f2).2, ?_⟩
  · rw [if_pos (by rw [q_le (by omega) (by omega)]; omega)]
    unfold T_X3_meetsIn
    rw [x3_thinks]
    simp only [e_cV]
    rw [c9, m9, c0, f1 τ, vG_ref K k h11 h12 hl hc ok ha hb]
  · rw [gtS_oth (by omega) (by omega), f3, kpS_oth (by decide)]
theorem gvC_loop (J : Inv G P) (h11 : G 13 11 0 = nb) (h12 : G 13 12 0 = nl) (h4 : nl ≤ 4) (ha : a < nl) (hb : b < nl) {v3 : Int32} : ∀ r k n V C p, k + r = (nb + 1) ^ nl → V 2 0 = nb → V 3 0 = nl → V 4 0 = (nb + 1) ^ nl → (p = (NN, 62) ∨ (p.2 ≤ 61 ∧ ∀ i, i < nl → V 1 i = kN (eW nl (toB nb nl p.1) i))) → r < n → ∃ V' C', T_X2_given_L73 n (nI a) (nI b) v3 (nI p.2) (nI k) (Ro (wo G 12 V, P) 2 C) = T_X2_given_L73 1 (nI a) (nI b) v3 (nI (minA (okA nb nl) (fun k => vG (G 13) a b nl (toB nb nl k)) r k p).2) (nI ((nb + 1) ^ nl)) (Ro (wo G 12 V', P) 2 C') ∧ V' 3 0 = nl ∧ V' 4 0 = (nb + 1) ^ nl ∧ (minA (okA nb nl) (fun k => vG (G 13) a b nl (toB nb nl k)) r k p = (NN, 62) ∨ ∀ i, i < nl → V' 1 i = kN (eW nl (toB nb nl (minA (okA nb nl) (fun k => vG (G 13) a b nl (toB nb nl k)) r k p).1) i)) := by
  have K := J.tk
  have hb6 : nb ≤ 6 := by rw [← h11]; exact K.1.nb
  have h7 : (nb + 1) ^ nl ≤ 2401 := pow_le5 hb6 h4
  intro r
  induction r with
  | zero =>
    intro k n V C p h v2 v3' v4 hp hn
    obtain ⟨n, rfl⟩ := fu_one hn
    refine ⟨V, C, ?_, v3', v4, hp.imp id (fun q => q.2)⟩
    rw [show k = (nb + 1) ^ nl by omega]
    have hz : minA (okA nb nl) (fun k => vG (G 13) a b nl (toB nb nl k)) 0 ((nb + 1) ^ nl) p = p := rfl
    have e : ∀ m, T_X2_given_L73 (m + 1) (nI a) (nI b) v3 (nI p.2) (nI ((nb + 1) ^ nl)) (Ro (wo G 2 C, P) 12 V) = if v3 = -nI 1 then cV (T_X2_orNone (Ro (wo G 2 C, P) 12 V) (nI p.2)) (fun x4 => some (x4, Ro (wo G 2 C, P) 12 V)) else cV (T_X1_bestBagOf (Ro (wo G 2 C, P) 12 V) v3) (fun x2 => some (x2, Ro (wo G 2 C, P) 12 V)) := by
      intro m
      unfold T_X2_given_L73
      rw [ro_gf, v4, if_pos (by rw [q_le (by omega) (by omega)]; omega), c1]
    rw [hz, RV_sw, e n, e 0]
  | succ r ih =>
    intro k n V C p h v2 v3' v4 hp hn
    obtain ⟨n, rfl⟩ := fu_one (by omega : 0 < n)
    have hmin : minA (okA nb nl) (fun k => vG (G 13) a b nl (toB nb nl k)) (r + 1) k p = minA (okA nb nl) (fun k => vG (G 13) a b nl (toB nb nl k)) r (k + 1) (if okA nb nl k = true ∧ vG (G 13) a b nl (toB nb nl k) < p.2 then (k, vG (G 13) a b nl (toB nb nl k)) else p) := rfl
    obtain ⟨V1, d1, d2, d3⟩ := x1_decode (τ := (wo G 2 C, P)) hb6 h4 (k := k) (by omega) v2 v3'
    have u2 : V1 2 0 = nb := by rw [d2 _ _ (by decide)]; exact v2
    have u3 : V1 3 0 = nl := by rw [d2 _ _ (by decide)]; exact v3'
    have u4 : V1 4 0 = (nb + 1) ^ nl := by rw [d2 _ _ (by decide)]; exact v4
    have hp1 : p = (NN, 62) ∨ (p.2 ≤ 61 ∧ ∀ i, i < nl → V1 1 i = kN (eW nl (toB nb nl p.1) i)) := hp.imp id (fun q => ⟨q.1, fun i hi => by rw [d2 _ _ (by decide)]; exact q.2 i hi⟩)
    have hs : p.2 ≤ 62 := by
      rcases hp with rfl | q
      · exact Nat.le_refl _
      · omega
    by_cases ok : okA nb nl k = true
    · have wk := wA hb6 h4 (k := k) (by omega)
      have okb : okB nb nl (toB nb nl k) = true := by rw [← wk.1]; exact ok
      have w := Way.of (S := G 13) h11 h12 hb6 h4 wk.2.1 okb
      have dg : ∀ i, i < nl → V1 0 i = kN (eW nl (toB nb nl k) i) := fun i hi => by rw [d3 ok i hi, eW_A hb6 h4 (by omega) hi]
      obtain ⟨D, g1, g2, g3⟩ := x2_given1 (V := V1) (P := P) (C := C) K J.sb w (by omega) (by omega) (fun l hl => dg l (by omega))
      rw [h12] at g2
      have WT := K.1.Te w (l := nl) (by omega)
      have t12 : TeS (G 13) (eW nl (toB nb nl k)) nl 12 0 = nl := by rw [Te_oth (by decide)]; exact h12
      have t13 : TeS (G 13) (eW nl (toB nb nl k)) nl 13 0 ≤ 999 := by rw [Te_oth (by decide)]; exact K.2.1
      obtain ⟨C3, m1⟩ := x2_fM (τ := (wo G 12 V1, P)) (a := a) (b := b) (s := if p.2 < 61 then p.2 else 61) (by split <;> omega) (if p.2 < 61 then p.2 else 61) 0 (TeS (G 13) (eW nl (toB nb nl k)) nl) D FU (g3.sc g2) g3.2 WT (by omega) (by split <;> omega) (by omega) (FU_gt (by split <;> omega))
      have sh := firstN_short (fun X => decide (X 8 a = X 8 b)) 61 (if p.2 < 61 then p.2 else 61) 0 (TeS (G 13) (eW nl (toB nb nl k)) nl) (by split <;> omega) (by omega)
      rw [Nat.zero_add] at sh
      change _ = if vG (G 13) a b nl (toB nb nl k) < _ then vG (G 13) a b nl (toB nb nl k) else 61 at sh
      have hle := vG_le (S := G 13) (a := a) (b := b) (nl := nl) (c := toB nb nl k)
      have start : T_X2_given_L73 (n + 1) (nI a) (nI b) v3 (nI p.2) (nI k) (Ro (wo G 12 V, P) 2 C) = if vG (G 13) a b nl (toB nb nl k) < p.2 then T_X2_given_L73 n (nI a) (nI b) v3 (nI (vG (G 13) a b nl (toB nb nl k))) (nI (k + 1)) (Ro (wo G 12 (cpA V1 V1 0 1 4), P) 2 C3) else T_X2_given_L73 n (nI a) (nI b) v3 (nI p.2) (nI (k + 1)) (Ro (wo G 12 V1, P) 2 C3) := by
        conv => lhs; unfold T_X2_given_L73
        rw [RV_sw, ro_gf, v4, if_neg (by rw [q_le (by omega) (by omega)]; omega), d1]
        simp only [e_cI]
        rw [if_pos ok, c0, if_neg (by decide), ← RV_sw, g1]
        simp only [e_cV]
        rw [c1, c60, x_min60 hs]
        simp only [e_cV]
        unfold T_X2_firstMeeting
        rw [c0, m1, id, sh]
        simp only [e_cI]
        by_cases q : vG (G 13) a b nl (toB nb nl k) < p.2
        · rw [lim_lt hle hs q, if_pos q, if_neg (by rw [q_le (by omega) (by omega)]; omega), RV_sw, x1_keep]
          simp only [e_cV]
          rw [nI_add, e_vl, ← RV_sw]
        · have e2 := lim_ge hle hs q
          rw [e2.1, if_neg q, if_pos (by rw [q_le (by omega) (by omega)]; exact e2.2), nI_add, e_vl]
      by_cases q : vG (G 13) a b nl (toB nb nl k) < p.2
      · rw [if_pos ⟨ok, q⟩] at hmin
        obtain ⟨V', C', i1, i2⟩ := ih (k + 1) n (cpA V1 V1 0 1 4) C3 (k, vG (G 13) a b nl (toB nb nl k)) (by omega) u2 u3 u4 (Or.inr ⟨hle, fun i hi => by
          show (if 1 = 1 ∧ i < 4 then V1 0 i else V1 1 i) = _
          rw [if_pos ⟨rfl, by omega⟩]
          exact dg i hi⟩) (by omega)
        refine ⟨V', C', ?_, by rw [hmin]; exact i2⟩
        rw [start, if_pos q, hmin]
        exact i1
      · rw [if_neg (fun y => q y.2)] at hmin
        obtain ⟨V', C', i1, i2⟩ := ih (k + 1) n V1 C3 p (by omega) u2 u3 u4 hp1 (by omega)
        refine ⟨V', C', ?_, by rw [hmin]; exact i2⟩
        rw [start, if_neg q, hmin]
        exact i1
    · rw [if_neg (fun y => ok y.1)] at hmin
      obtain ⟨V', C', i1, i2⟩ := ih (k + 1) n V1 C p (by omega) u2 u3 u4 hp1 (by omega)
      refine ⟨V', C', ?_, by rw [hmin]; exact i2⟩
      rw [hmin, ← i1]
      conv => lhs; unfold T_X2_given_L73
      rw [RV_sw, ro_gf, v4, if_neg (by rw [q_le (by omega) (by omega)]; omega), d1]
      simp only [e_cI]
      rw [if_neg ok, c0, if_pos (by trivial), c1, nI_add, e_vl, ← RV_sw]
end Gvn
