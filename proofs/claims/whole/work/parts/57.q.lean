/-! nextTell; breathless -/
def bitsN (x : Nat) : Nat → Nat → Nat
  | 0, _ => 0
  | r + 1, v => x / 2 ^ v % 2 + bitsN x r (v + 1)
theorem bc_all : ∀ x, x < 1024 → T_J6_bitCount_0f7a4 (fun _ _ _ => 0, fun _ => 0) (nI x) = some (nI (bitsN x 10 0)) := by decide +kernel
theorem x_bc {σ : ST} {x : Nat} (h : x < 1024) : T_J6_bitCount_0f7a4 σ (nI x) = some (nI (bitsN x 10 0)) := by
  rw [← bc_all x h]
  unfold T_J6_bitCount_0f7a4
  rfl
theorem s_l : ∀ n, n < 32 → ((nI n &&& 31).toBitVec.smod 32).toNat = n := by decide +kernel
theorem fa_or (a b : Nat) : nI a ||| nI b = nI (a ||| b) := by
  apply Int32.toBitVec_inj.1
  show BitVec.ofNat 32 a ||| BitVec.ofNat 32 b = BitVec.ofNat 32 (a ||| b)
  apply BitVec.eq_of_getLsbD_eq
  intro i hi
  simp [hi]
theorem bit_all (x : Nat) (hx : x < 1024) (v : Nat) (hv : v < 10) : (nI x >>> (nI v &&& 31)) &&& 1 = nI (x / 2 ^ v % 2) := by
  have h1 : nI x >>> (nI v &&& 31) = nI (x / 2 ^ v) := pk_shrN (by omega) _ v (s_l v (by omega))
  have h2 : nI (x / 2 ^ v) &&& 1 = nI (x / 2 ^ v % 2 ^ 1) := pk_andN (Nat.lt_of_le_of_lt (Nat.div_le_self _ _) (by omega)) 1 (by decide)
  rw [h1, h2]
theorem shl_one (v : Nat) (hv : v < 10) : (1 : Int32) <<< (nI v &&& 31) = nI (2 ^ v) := by
  have h3 : 2 ^ v ≤ 2 ^ 10 := Nat.pow_le_pow_right (by decide) (by omega)
  have h1 : nI 1 <<< (nI v &&& 31) = nI (1 * 2 ^ v) := pk_shlN _ v (s_l v (by omega)) (by omega)
  rw [Nat.one_mul] at h1
  exact h1
theorem or_all (x : Nat) (hx : x < 1024) (v : Nat) (hv : v < 10) : nI x ||| (1 <<< (nI v &&& 31)) = nI (x ||| 2 ^ v) ∧ x ||| 2 ^ v < 1024 := by
  rw [shl_one v hv, fa_or]
  exact ⟨rfl, Nat.or_lt_two_pow (n := 10) hx (Nat.pow_lt_pow_right (by decide) hv)⟩
theorem bitsN_le {x : Nat} : ∀ r v, bitsN x r v ≤ r
  | 0, v => Nat.le_refl _
  | r + 1, v => by
    show x / 2 ^ v % 2 + bitsN x r (v + 1) ≤ r + 1
    have := bitsN_le (x := x) r (v + 1)
    have : x / 2 ^ v % 2 < 2 := Nat.mod_lt _ (by decide)
    omega
section Tell
variable {G : GG} {P : Nat → Nat} {C A S F X Y Z D S0 W' : SS} {τ : TT} {a : Nat}
theorem x3_cntL {x : Nat} (hx : x < 1024) {σ : ST} : ∀ r v b n, v + r = 10 → r < n → T_X3_unlikeBy_L69 n (nI x) (nI b) (nI v) σ = some (nI (b + bitsN x r v), σ) := by
  intro r
  induction r with
  | zero =>
    intro v b n h hn
    obtain ⟨n, rfl⟩ := fu_one hn
    unfold T_X3_unlikeBy_L69
    rw [c10, if_pos (by rw [q_le (by omega) (by omega)]; omega)]
    rfl
  | succ r ih =>
    intro v b n h hn
    obtain ⟨n, rfl⟩ := fu_one (by omega : 0 < n)
    unfold T_X3_unlikeBy_L69
    rw [c10, if_neg (by rw [q_le (by omega) (by omega)]; omega), bit_all x hx v (by omega), nI_add, e_vl, ← nI_succ, e_vl, ih (v + 1) _ n (by omega) (by omega), Nat.add_assoc]
    rfl
theorem ref_atIn (K : TK Y) {l n : Nat} (hl : l < Y 12 0) (hn : n ≤ 60) : ∃ F, (∀ τ, T_X3_atIn (nI l) (nI n) (Ro τ 13 Y) = some (nI (runS (kpS 2 Y) n 8 l), Ro τ 13 F)) ∧ KR 120 Y F := by
  have K2 := K.keep (w := 2)
  have h13 := K2.2.1
  have h12 := K.1.nl
  refine ⟨gtS 2 (runS (kpS 2 Y) n), fun τ => ?_, KR.think K.2.2 ((OS.keep K.2.2).run n)⟩
  unfold T_X3_atIn
  rw [x3_thinks]
  simp only [e_cV]
  rw [x3_goes K2.1 hn (by omega) K2.2.2]
  simp only [e_cV]
  rw [ro_ld (by omega) (by omega), x3_forgets]
  rfl
theorem kinds_loop {l b m v : Nat} (R0 : SB (up (G 1) 13 0 v) S) (K : TK S) (hl : l < S 12 0) (hb : b < S 11 0) (hm : m ≤ 60) : ∀ r k n x C Z, k + r = 6 → r < n → KU 60 S 1 b Z → x < 1024 → ∃ y C' F, T_X2_placesByKinds_L6 n (nI l) (nI b) (nI m) (nI v) (nI x) (nI k) (Ro (G, P) 2 C) = some (nI (bitsN y 10 0), Ro (G, P) 2 C') ∧ (∀ τ, T_X3_unlikeBy_L21 n (nI l) (nI m) (nI b) (nI (S 1 b)) (nI x) (nI k) (Ro τ 13 Z) = some (nI (bitsN y 10 0), Ro τ 13 F)) ∧ KR 60 S F := by
  have h12 := K.1.nl
  have h11 := K.1.nb
  intro r
  induction r with
  | zero =>
    intro k n x C Z h hn kz hx
    obtain ⟨n, rfl⟩ := fu_one hn
    refine ⟨x, C, up Z 1 b (S 1 b), ?_, fun τ => ?_, kz⟩
    · unfold T_X2_placesByKinds_L6
      rw [c6, if_pos (by rw [q_le (by omega) (by omega)]; omega), x_bc hx]
      rfl
    · unfold T_X3_unlikeBy_L21
      rw [c6, if_pos (by rw [q_le (by omega) (by omega)]; omega), ro_sd (by omega) (by omega), c0, x3_cntL hx 10 0 0 FU rfl (FU_gt (by decide)), Nat.zero_add]
  | succ r ih =>
    intro k n x C Z h hn kz hx
    obtain ⟨n, rfl⟩ := fu_one (by omega : 0 < n)
    have KZ : TK (up Z 1 b k) := kz.tk K (by omega)
    have K2 := KZ.keep (w := 2)
    have e12 : up Z 1 b k 12 0 = S 12 0 := kz.at (inr (by decide) (by omega)) (by omega)
    obtain ⟨C1, t1, t2⟩ := x2_think2 (G := G) (P := P) C
    have R1 : SB (up (up C1 13 0 v) 1 b k) (up Z 1 b k) := by
      have q : CQ (up (G 1) 13 0 v) (up C1 13 0 v) := by
        obtain ⟨⟨q1, q2, q3, q4⟩, q5, q6, q7, q8, q9⟩ := t2
        refine ⟨⟨?_, ?_, ?_, ?_⟩, fun f i h1 h2 h3 => ?_, fun f i h1 h2 h3 => ?_, fun i hi => ?_, ?_, ?_⟩
        · rw [up_ne _ (by omega), up_ne _ (by omega)]; exact q1
        · rw [up_ne _ (by omega), up_ne _ (by omega)]; exact q2
        · rw [up_at, up_at]
        · rw [up_ne _ (by omega), up_ne _ (by omega)]; exact q4
        · rw [up_ne _ (by omega), up_ne _ (by omega)]; exact q5 f i h1 h2 h3
        · rw [up_ne _ (by omega), up_ne _ (by omega)]; exact q6 f i h1 h2 h3
        · rw [up_ne _ (by omega), up_ne _ (by omega)]; exact q7 i hi
        · rw [up_ne _ (by omega)]; exact q8
        · rw [up_ne _ (by omega)]; exact q9
      exact kz.sb2 K (q.sb K.1 R0) (by unfold PW; omega)
    have T1 : T0 (up (up C1 13 0 v) 1 b k) := (t2.t0.up (by decide)).up (by decide)
    obtain ⟨C2, g1, g2, -⟩ := x0_hours (τ := (G, P)) (o := 2) K2.1 hm (by have := K2.2.1; omega) (T1.sc (Eqs.keep.sb KZ.1 R1)) T1.2
    have WY : WF (runS (kpS 2 (up Z 1 b k)) m) := K2.1.run m _
    have ey : runS (kpS 2 (up Z 1 b k)) m 12 0 = S 12 0 := by rw [runS_keeps (by decide), kpS_oth (by decide)]; exact e12
    have e8 := (g2.bea (l := l) (by omega)).2.2.1
    have w8 := (WY.bea (l := l) (by omega)).2.2.1
    obtain ⟨F, f2, f3⟩ := ref_atIn KZ (l := l) (n := m) (by omega) hm
    have k2 : KU 60 S 1 b F := kz.step (by decide) (f3.mono (by decide))
    obtain ⟨o1, o2⟩ := or_all x hx (runS (kpS 2 (up Z 1 b k)) m 8 l) (by omega)
    obtain ⟨y, C', F', i1, i2, i3⟩ := ih (k + 1) n (x ||| 2 ^ runS (kpS 2 (up Z 1 b k)) m 8 l) C2 F (by omega) (by omega) k2 o2
    refine ⟨y, C', F', ?_, fun τ => ?_, i3⟩
    · unfold T_X2_placesByKinds_L6
      rw [c6, if_neg (by rw [q_le (by omega) (by omega)]; omega), t1]
      simp only [e_cV]
      rw [ro_pf, ro_sd (by omega) (by omega), g1]
      simp only [e_cV]
      rw [ro_ld (by omega) (by omega), e8, o1, e_vl, ← nI_succ, e_vl]
      exact i1
    · unfold T_X3_unlikeBy_L21
      rw [c6, if_neg (by rw [q_le (by omega) (by omega)]; omega), ro_sd (by omega) (by omega), f2]
      simp only [e_cI]
      rw [o1, e_vl, ← nI_succ, e_vl]
      exact i2 τ
theorem tell_loop (J : Inv G P) {l b m what : Nat} (hw : what ≤ 1) (hl : l < G 13 12 0) (h9 : G 13 9 l = b) (hb : b < G 13 11 0) (hm : m ≤ 60) : ∀ r v n best most C Z, v + r = 10 → r < n → KU 60 (G 13) 14 0 Z → most ≤ 10 → ∃ res C' F, T_X2_nextTell_L71 n (nI l) (nI m) (nI what) (nI b) (nI best) (nI most) (nI v) (Ro (G, P) 2 C) = some (res, Ro (G, P) 2 C') ∧ (∀ τ, T_X3_nextTell_L76 n (nI l) (nI m) (nI what) (nI (G 13 14 0)) (nI best) (nI most) (nI v) (Ro τ 13 Z) = some (res, Ro τ 13 F)) ∧ KR 60 (G 13) F := by
  have K := J.tk
  have h12 := K.1.nl
  have h11 := K.1.nb
  intro r
  induction r with
  | zero =>
    intro v n best most C Z h hn kz hmo
    obtain ⟨n, rfl⟩ := fu_one hn
    refine ⟨nI (if what = 0 then best else most), C, up Z 14 0 (G 13 14 0), ?_, fun τ => ?_, kz⟩
    · unfold T_X2_nextTell_L71
      rw [c10, if_pos (by rw [q_le (by omega) (by omega)]; omega), c0, i_eq (by omega) (by omega)]
      split <;> rfl
    · unfold T_X3_nextTell_L76
      rw [c10, if_pos (by rw [q_le (by omega) (by omega)]; omega), ro_pf, c0, i_eq (by omega) (by omega)]
      split <;> rfl
  | succ r ih =>
    intro v n best most C Z h hn kz hmo
    obtain ⟨n, rfl⟩ := fu_one (by omega : 0 < n)
    have KZ : TK (up Z 14 0 v) := kz.tk K (by omega)
    have z12 : up Z 14 0 v 12 0 = G 13 12 0 := kz.at (inr (by decide) (by omega)) (by omega)
    have z11 : up Z 14 0 v 11 0 = G 13 11 0 := kz.at (inr (by decide) (by omega)) (by omega)
    have z9 : up Z 14 0 v 9 l = b := (kz.at (inr (by decide) (by omega)) (by omega)).trans h9
    have R0 : SB (up (G 1) 13 0 v) (up Z 14 0 v) := by
      have k2 : KR 60 (G 13) (up Z 14 0 (G 13 14 0)) := kz
      have := (k2.1.sb K.1 J.sb).up14 (x := v)
      rw [up_up] at this
      exact this
    obtain ⟨y, C1, F, i1, i2, i3⟩ := kinds_loop (P := P) (v := v) R0 KZ (l := l) (b := b) (m := m) (by omega) (by omega) hm 6 0 FU 0 C (up Z 14 0 v) rfl (FU_gt (by decide)) (KU.start KZ.2.2) (by decide)
    have k2 : KU 60 (G 13) 14 0 F := kz.step (by decide) i3
    have hle := bitsN_le (x := y) 10 0
    have hcls : T_X2_placesByKinds (nI l) (nI b) (nI m) (nI v) (Ro (G, P) 2 C) = some (nI (bitsN y 10 0), Ro (G, P) 2 C1) := by
      unfold T_X2_placesByKinds
      rw [c0]
      exact i1
    have href : ∀ τ, T_X3_unlikeBy (nI l) (nI m) (Ro τ 13 (up Z 14 0 v)) = some (nI (bitsN y 10 0), Ro τ 13 F) := by
      intro τ
      unfold T_X3_unlikeBy
      rw [ro_ld (by omega) (by omega), z9, ro_ld (by omega) (by omega), c0]
      exact i2 τ
    unfold T_X2_nextTell_L71 T_X3_nextTell_L76
    by_cases e : most < bitsN y 10 0
    · obtain ⟨res, C', F', j1, j2, j3⟩ := ih (v + 1) n v (bitsN y 10 0) C1 F (by omega) (by omega) k2 hle
      refine ⟨res, C', F', ?_, fun τ => ?_, j3⟩
      · rw [c10, if_neg (by rw [q_le (by omega) (by omega)]; omega), hcls]
        simp only [e_cI]
        rw [if_neg (by rw [q_le (by omega) (by omega)]; omega), c1, nI_add, e_vl]
        exact j1
      · rw [c10, if_neg (by rw [q_le (by omega) (by omega)]; omega), ro_pf, href]
        simp only [e_cI]
        rw [if_pos (by rw [q_lt (by omega) (by omega)]; omega), c1, nI_add, e_vl]
        exact j2 τ
    · obtain ⟨res, C', F', j1, j2, j3⟩ := ih (v + 1) n best most C1 F (by omega) (by omega) k2 hmo
      refine ⟨res, C', F', ?_, fun τ => ?_, j3⟩
      · rw [c10, if_neg (by rw [q_le (by omega) (by omega)]; omega), hcls]
        simp only [e_cI]
        rw [if_pos (by rw [q_le (by omega) (by omega)]; omega), c1, nI_add, e_vl]
        exact j1
      · rw [c10, if_neg (by rw [q_le (by omega) (by omega)]; omega), ro_pf, href]
        simp only [e_cI]
        rw [if_neg (by rw [q_lt (by omega) (by omega)]; omega), c1, nI_add, e_vl]
        exact j2 τ
theorem ok_nextTell (J : Inv G P) (a0 a1 a2 : Int32) : OKm G P (T_X2_nextTell a0 a1 a2) (T_X3_nextTell a0 a1 a2) := by
  have K := J.tk
  have h12 := K.1.nl
  have h11 := K.1.nb
  rcases chk_bearer J a0 with ⟨l, hl, rfl, e1, e2⟩ | ⟨e1, e2⟩
  · rcases chk_hours a1 with ⟨n, hn, rfl, e3, e4⟩ | ⟨k, hk, e3, e4⟩
    · rcases x2_hw n 1 hn a2 (by decide) with ⟨x, hx, rfl, e5, e6⟩ | ⟨e5, e6⟩
      · have rl := (J.sb.bea hl).2.2.2.1
        have wl := (K.1.bea hl).2.2.2.1
        have hB : T_X0_hasBag 1 (Ro (G, P) 2 (G 2)) (nI (kN (G 13 9 l))) = some (if G 13 9 l = 9 then nI 0 else nI 1) := by
          have r0 : G 1 0 0 = G 13 11 0 := J.sb.1.1
          rw [Ro_sw, x0_hasBag (by omega) (by omega)]
        have pc : T_X2_nextTell (nI l) (nI n) (nI x) (Ro (G, P) 2 (G 2)) = cV (T_X0_hasBag 1 (Ro (G, P) 2 (G 2)) (nI (kN (G 13 9 l)))) (fun x6 => if x6 = nI 0 then some (nI x, Ro (G, P) 2 (G 2)) else T_X2_nextTell_L71 FU (nI l) (nI n) (nI x) (nI (kN (G 13 9 l))) (nI 0) (nI 0) (nI 0) (Ro (G, P) 2 (G 2))) := by
          unfold T_X2_nextTell
          simp only [e1, e5, e_cV, d0, d1, eq10, eq00, if_true, if_false]
          rw [now_ld (by omega) (by omega), rl]
        have pr : ∀ τ, T_X3_nextTell (nI l) (nI n) (nI x) (Ro τ 13 (G 13)) = if G 13 9 l = 9 then some (nI x, Ro τ 13 (G 13)) else T_X3_nextTell_L76 FU (nI l) (nI n) (nI x) (nI (G 13 14 0)) (nI 0) (nI 0) (nI 0) (Ro τ 13 (G 13)) := by
          intro τ
          unfold T_X3_nextTell T_X3_nextTell_j16 T_X3_nextTell_j36
          simp only [e2, e4, e6, e_cV, d0, d1, eq10, eq00, if_true, if_false]
          rw [ro_ld (by omega) (by omega), c9, i_eq (by omega) (by omega), ro_gf]
        by_cases e9 : G 13 9 l = 9
        · refine ok_q0 (r := nI x) J ?_ (fun τ => ?_)
          · rw [pc, hB, if_pos e9]
            simp only [e_cV, if_true]
          · rw [pr, if_pos e9]
        · obtain ⟨res, C', F, i1, i2, i3⟩ := tell_loop (P := P) J hx hl rfl (by omega) hn 10 0 FU 0 0 (G 2) (G 13) rfl (FU_gt (by decide)) (KU.start K.2.2) (by decide)
          refine ok_q2 (r := res) (C := C') J ?_ (fun τ => ⟨F, ?_, i3⟩)
          · rw [pc, hB, if_neg e9]
            simp only [e_cV, eq10, if_false]
            rw [kN_ne e9]
            exact i1
          · rw [pr, if_neg e9]
            exact i2 τ
      · refine ok_ref 2 J (by decide) ?_ (fun τ => ?_)
        · unfold T_X2_nextTell
          simp only [e1, e5, e_cV, d0, d1, d2, eq10, (neg_ok 2 (by omega) (by omega)).2.1, if_false, cI_id]
        · unfold T_X3_nextTell T_X3_nextTell_j16 T_X3_nextTell_j36
          simp only [e2, e4, e6, e_cV, d0, d1, d2, eq00, eq10, if_true, (neg_ok 2 (by omega) (by omega)).2.1, if_false, cI_id]
    · refine ok_ref k J (by omega) ?_ (fun τ => ?_)
      · unfold T_X2_nextTell
        simp only [e1, d1, x2_hwBad hk e3, e_cV, d0, eq10, (neg_ok k (by omega) (by omega)).2.1, if_false, cI_id]
      · unfold T_X3_nextTell T_X3_nextTell_j16 T_X3_nextTell_j36
        simp only [e2, e4, e_cV, d0, d1, eq10, (neg_ok k (by omega) (by omega)).2.1, if_false, cI_id]
  · refine ok_ref 1 J (by decide) ?_ (fun τ => ?_)
    · unfold T_X2_nextTell; simp (disch := omega) only [e1, cI_id, Nat.reduceEqDiff, Nat.reduceLeDiff, reduceIte, eq_self, ng1, ng2, ng3, ng4, ng6, rx_gf, rx_ld, rx_pf, rx_sd, m9, NN_lt, lt_NN, NN_le, le_NN, if_true, if_false, n_mod, q_dec, ro_gf, ro_ld, ro_sd, ro_pf, e_vl, e_cV, e_cI, nI_add, q_mul, q_sub, q_rem, q_div, q_eq, q_lt, q_le, c0, c1, c2, c3, c4, c5, c6, c7, c8, c9, c10, c99]
    · unfold T_X3_nextTell T_X3_nextTell_j16 T_X3_nextTell_j36; simp (disch := omega) only [e2, (neg_ok 1 (by omega) (by omega)).2.1, cI_id, Nat.reduceEqDiff, Nat.reduceLeDiff, reduceIte, eq_self, ng1, ng2, ng3, ng4, ng6, rx_gf, rx_ld, rx_pf, rx_sd, m9, NN_lt, lt_NN, NN_le, le_NN, if_true, if_false, n_mod, q_dec, ro_gf, ro_ld, ro_sd, ro_pf, e_vl, e_cV, e_cI, nI_add, q_mul, q_sub, q_rem, q_div, q_eq, q_lt, q_le, c0, c1, c2, c3, c4, c5, c6, c7, c8, c9, c10, c99]
end Tell
