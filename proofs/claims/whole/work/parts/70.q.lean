/-! the best of the ways, in the reference -/
section BW
variable {τ : TT} {D S0 S : SS}
theorem x3_fM31 {a b m : Nat} (hm : m = 60) : ∀ r k X n, OS 180 S0 X → WF X → a < X 12 0 ∧ b < X 12 0 → X 13 0 + r ≤ 5000 → k + r = m + 1 → r + 1 < n → ∃ F, (∀ τ, T_X3_meetsIn_L10 n (nI a) (nI b) (nI 4294967287) (nI k) (Ro τ 13 X) = some (nI (kF (firstN (fun X => decide (X 8 a = X 8 b)) r k X)), Ro τ 13 (gtS 2 F))) ∧ OS 180 S0 F ∧ F 31 0 = X 31 0 := by
  intro r
  induction r with
  | zero =>
    intro k X n hO W hx hh h hn
    obtain ⟨n, rfl⟩ := fu_one (by omega : 0 < n)
    refine ⟨X, fun τ => ?_, hO, rfl⟩
    unfold T_X3_meetsIn_L10 T_X3_meetsIn_j55
    rw [c60, if_pos (by rw [q_lt (by omega) (by omega)]; omega), x3_forgets]
    rfl
  | succ r ih =>
    intro k X n hO W hx hh h hn
    obtain ⟨n, rfl⟩ := fu_one (by omega : 0 < n)
    obtain ⟨n2, rfl⟩ := fu_one (by omega : 0 < n)
    have h12 := W.nl
    have w := W.bea hx.1
    have w2 := W.bea hx.2
    have g1 := fun τ => x3_h (τ := τ) W (by omega) hO.2.2
    obtain ⟨F, i1, i2, i3⟩ := ih (k + 1) (hourS X 9) (n2 + 1) (hO.hour 9) (W.hour 9) (by simpa only [hourS_keeps (show 12 ≠ 5 ∧ 12 ≠ 8 ∧ 12 ≠ 10 ∧ 12 ≠ 13 ∧ 12 ≠ 27 ∧ 12 ≠ 28 ∧ 12 ≠ 29 by decide)] using hx) (by rw [hourS_13]; omega) (by omega) (by omega)
    have fs : firstN (fun X => decide (X 8 a = X 8 b)) (r + 1) k X = if X 8 a = X 8 b then k else firstN (fun X => decide (X 8 a = X 8 b)) r (k + 1) (hourS X 9) := by
      show (if decide (X 8 a = X 8 b) = true then _ else _) = _
      by_cases e : X 8 a = X 8 b
      · rw [if_pos e, if_pos (decide_eq_true e)]
      · rw [if_neg e, if_neg (by simpa using e)]
    have fin := fun τ kk => x3_fM_fin (a := a) (b := b) (m := m) (k' := k) (by omega) (k := kk) (n := n2) (X := hourS X 9) τ
    rw [fs]
    unfold T_X3_meetsIn_L10 T_X3_meetsIn_j43
    by_cases e : X 8 a = X 8 b
    · refine ⟨hourS X 9, fun τ => ?_, hO.hour 9, hourS_keeps (by decide)⟩
      rw [c60, if_neg (by rw [q_lt (by omega) (by omega)]; omega), c0, if_neg (by rw [le_NN (by omega)]; exact id)]
      simp (disch := omega) only [n_mod, q_dec, ro_gf, ro_ld, ro_sd, ro_pf, e_vl, e_cV, e_cI, nI_add, q_mul, q_sub, q_rem, q_div, q_eq, q_lt, q_le, c0, c1, c2, c3, c4, c5, c6, c7, c8, c9, c10, c99]
      rw [if_pos e, if_pos e, g1]
      simp only [e_cV, e_vl, c1, nI_add, if_true]
      rw [fin, kF_ne (by omega)]
    · refine ⟨F, fun τ => ?_, i2, i3.trans (hourS_keeps (by decide))⟩
      rw [c60, if_neg (by rw [q_lt (by omega) (by omega)]; omega), c0, if_neg (by rw [le_NN (by omega)]; exact id)]
      simp (disch := omega) only [n_mod, q_dec, ro_gf, ro_ld, ro_sd, ro_pf, e_vl, e_cV, e_cI, nI_add, q_mul, q_sub, q_rem, q_div, q_eq, q_lt, q_le, c0, c1, c2, c3, c4, c5, c6, c7, c8, c9, c10, c99]
      rw [if_neg e, if_neg e, g1]
      simp only [e_cV, e_vl, c1, nI_add, if_true]
      first | rw [m9] | rw [c9, m9]
      exact i1 τ
def wZ (z : Nat → Nat) (c : Nat) : Nat := if z c = NN then 1000 else z c
/-- what the reference thinks for the way c -/
noncomputable def gvX (Y : SS) (nl c : Nat) : SS := gvR (eW nl c) nl 0 (kpS 1 Y)
theorem bw_loop {nb nl : Nat} (K : TK S) (h11 : S 11 0 = nb) (h12 : S 12 0 = nl) (h4 : nl ≤ 4) {v1 v2 v3 : Int32} {z : Nat → Nat} (hz : ∀ c, z c = NN ∨ z c < 1000) (hM : ∀ c Y, c < 7 ^ nl → okB nb nl c = true → KR 60 S Y → ∃ F, (∀ τ, (if nI 0 ≤ v1 then T_X3_meetsIn v1 v2 (Ro τ 13 (gvX Y nl c)) else T_X3_allLed v3 (Ro τ 13 (gvX Y nl c))) = some (nI (z c), Ro τ 13 F)) ∧ OS 120 (gvX Y nl c) F ∧ F 31 0 = gvX Y nl c 31 0) : ∀ r c n Y p, c + r = 7 ^ nl → KR 60 S Y → (p = (NN, 5000) ∨ (p.1 < c ∧ Y 31 0 = p.2 ∧ p.2 ≤ 1000)) → r < n → ∃ F, (∀ τ, T_X3_bestWay_L7 n v1 v2 v3 (nI p.1) (nI c) (Ro τ 13 Y) = some (nI (minA (okB nb nl) (wZ z) r c p).1, Ro τ 13 F)) ∧ KR 60 S F ∧ (minA (okB nb nl) (wZ z) r c p = (NN, 5000) ∨ F 31 0 = (minA (okB nb nl) (wZ z) r c p).2) := by
  have hb : nb ≤ 6 := by rw [← h11]; exact K.1.nb
  have h7 : 7 ^ nl ≤ 2401 := pow_le5 (a := 6) (by omega) h4
  intro r
  induction r with
  | zero =>
    intro c n Y p h k hp hn
    obtain ⟨n, rfl⟩ := fu_one hn
    have e12 : Y 12 0 = nl := by rw [k.1 12 0 (inr (by decide) (by omega))]; exact h12
    refine ⟨Y, fun τ => ?_, k, hp.imp id (fun q => q.2.1)⟩
    unfold T_X3_bestWay_L7
    rw [x3_wm e12 h4]
    simp only [e_cV]
    rw [if_pos (by rw [q_le (by omega) (by omega)]; omega)]
    rfl
  | succ r ih =>
    intro c n Y p h k hp hn
    obtain ⟨n, rfl⟩ := fu_one (by omega : 0 < n)
    have e12 : Y 12 0 = nl := by rw [k.1 12 0 (inr (by decide) (by omega))]; exact h12
    have e11 : Y 11 0 = nb := by rw [k.1 11 0 (inr (by decide) (by omega))]; exact h11
    have KY := k.tk K
    show ∃ F, _ ∧ _ ∧ (minA (okB nb nl) (wZ z) r (c + 1) (if okB nb nl c = true ∧ wZ z c < p.2 then (c, wZ z c) else p) = _ ∨ _)
    have hmin : minA (okB nb nl) (wZ z) (r + 1) c p = minA (okB nb nl) (wZ z) r (c + 1) (if okB nb nl c = true ∧ wZ z c < p.2 then (c, wZ z c) else p) := rfl
    by_cases ok : okB nb nl c = true
    · obtain ⟨F0, f1, f2, f3⟩ := hM c Y (by omega) ok k
      have w := wD hb h4 (by omega) ok
      have x12 : kpS 1 Y 12 0 = nl := by rw [kpS_oth (by decide)]; exact e12
      have kF : KR 60 Y (gtS 1 F0) := by
        refine KR.try1 KY.2.2 ?_
        refine OS.trans ?_ f2
        refine (OS.refl (by rw [kpS_oth (by decide)]; exact KY.2.2)).any (fun g j q => ?_)
        exact gvR_oth (by unfold NS at q; omega) _ _ _
      have k1 := k.trans kF
      have e31 : gtS 1 F0 31 0 = Y 31 0 := by
        rw [gtS_oth (by omega) (by omega), f3]
        unfold gvX
        rw [gvR_oth (by decide), kpS_oth (by decide)]
      have kU : ∀ x, KR 60 S (up (gtS 1 F0) 31 0 x) := fun x => ⟨fun f i q => by
        have := q.2.1
        rw [up_ne _ (by omega)]
        exact k1.1 f i q, k1.2.up (by unfold NS; omega)⟩
      have hw : wZ z c ≤ 1000 := by
        unfold wZ
        rcases hz c with q | q
        · rw [if_pos q]; omega
        · split <;> omega
      have start : ∀ τ, T_X3_bestWay_L7 (n + 1) v1 v2 v3 (nI p.1) (nI c) (Ro τ 13 Y) = T_X3_bestWay_j76 (fun v1 v2 v3 v4 v5 s => T_X3_bestWay_L7 n v1 v2 v3 v4 v5 s) v1 v2 v3 (nI p.1) (nI c) (nI (wZ z c)) (Ro τ 13 (gtS 1 F0)) := by
        intro τ
        have f1 := f1 τ
        have j58 : T_X3_bestWay_j58 (fun v1 v2 v3 v4 v5 s => T_X3_bestWay_L7 n v1 v2 v3 v4 v5 s) v1 v2 v3 (nI p.1) (nI c) (nI (z c)) (Ro τ 13 F0) = T_X3_bestWay_j76 (fun v1 v2 v3 v4 v5 s => T_X3_bestWay_L7 n v1 v2 v3 v4 v5 s) v1 v2 v3 (nI p.1) (nI c) (nI (wZ z c)) (Ro τ 13 (gtS 1 F0)) := by
          unfold T_X3_bestWay_j58 wZ
          rw [c1, c0, x3_putAll (by decide)]
          simp only [e_cV]
          rcases hz c with q | q
          · rw [q, if_neg (by rw [le_NN (by omega)]; exact id), if_pos (by trivial), c1000]
          · rw [if_pos (by rw [q_le (by omega) (by omega)]; omega), if_neg (fun y => by rw [y] at q; exact absurd q (by decide))]
        rw [← j58]
        conv => lhs; unfold T_X3_bestWay_L7
        rw [x3_wm e12 h4]
        simp only [e_cV]
        rw [if_neg (by rw [q_le (by omega) (by omega)]; omega), x3_isWay e11 e12 hb h4 (by omega)]
        simp only [e_cV]
        rw [if_pos ok, c0, if_neg (by decide), c1, x3_keepAll (by decide)]
        simp only [e_cV]
        rw [x3_gvA h4 (by omega) (fun l hl => by have := w.1 l hl; omega) x12]
        simp only [e_cV]
        unfold gvX at f1
        by_cases q : nI 0 ≤ v1
        · rw [if_pos q] at f1 ⊢
          rw [f1]
          simp only [e_cI]
        · rw [if_neg q] at f1 ⊢
          rw [f1]
          simp only [e_cI]
      by_cases q : wZ z c < p.2
      · rw [if_pos ⟨ok, q⟩]
        rw [if_pos ⟨ok, q⟩] at hmin
        obtain ⟨F, i1, i2, i3⟩ := ih (c + 1) n (up (gtS 1 F0) 31 0 (wZ z c)) (c, wZ z c) (by omega) (kU _) (Or.inr ⟨Nat.lt_succ_self _, up_at _ _ _ _, hw⟩) (by omega)
        refine ⟨F, fun τ => ?_, i2, by rw [hmin]; exact i3⟩
        rw [start τ, hmin, ← i1 τ]
        unfold T_X3_bestWay_j76 T_X3_bestWay_j93
        rcases hp with rfl | ⟨hp1, hp2, hp3⟩
        · rw [c0, if_pos (show nI NN < nI 0 by decide), ro_pf, c1, nI_add, e_vl]
        · rw [c0, if_neg (by rw [q_lt (by omega) (by omega)]; omega), ro_gf, e31, hp2, if_pos (by rw [q_lt (by omega) (by omega)]; omega), ro_pf, c1, nI_add, e_vl]
      · rw [if_neg (fun y => q y.2)]
        rw [if_neg (fun y => q y.2)] at hmin
        rcases hp with rfl | ⟨hp1, hp2, hp3⟩
        · exact absurd (show wZ z c < 5000 by omega) q
        · obtain ⟨F, i1, i2, i3⟩ := ih (c + 1) n (gtS 1 F0) p (by omega) k1 (Or.inr ⟨by omega, e31.trans hp2, hp3⟩) (by omega)
          refine ⟨F, fun τ => ?_, i2, by rw [hmin]; exact i3⟩
          rw [start τ, hmin, ← i1 τ]
          unfold T_X3_bestWay_j76
          rw [c0, if_neg (by rw [q_lt (by omega) (by omega)]; omega), ro_gf, e31, hp2, if_neg (by rw [q_lt (by omega) (by omega)]; omega), c1, nI_add, e_vl]
    · rw [if_neg (fun y => ok y.1)]
      rw [if_neg (fun y => ok y.1)] at hmin
      obtain ⟨F, i1, i2, i3⟩ := ih (c + 1) n Y p (by omega) k (hp.imp id (fun q => ⟨by omega, q.2⟩)) (by omega)
      refine ⟨F, fun τ => ?_, i2, by rw [hmin]; exact i3⟩
      rw [hmin, ← i1 τ]
      conv => lhs; unfold T_X3_bestWay_L7
      rw [x3_wm e12 h4]
      simp only [e_cV]
      rw [if_neg (by rw [q_le (by omega) (by omega)]; omega), x3_isWay e11 e12 hb h4 (by omega)]
      simp only [e_cV]
      rw [if_neg ok, c0, if_pos (by trivial), c1, nI_add, e_vl]
end BW
