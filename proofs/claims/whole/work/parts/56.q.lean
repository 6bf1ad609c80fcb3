/-! whose, nextTell -/
section Who
variable {G : GG} {P : Nat → Nat} {C A S F X Y Z D S0 : SS} {τ : TT} {a : Nat}
theorem KU.sb2 {f g i x : Nat} (k : KU a S f i Z) (K : TK S) (R : SB C S) (h : PW g f) : SB (up C g i x) (up Z f i x) := by
  have k2 : KR a S (up Z f i (S f i)) := k
  have := (k2.1.sb K.1 R).upg h (i := i) (x := x)
  rw [up_up] at this
  exact this
theorem x3_walk_fin {l b : Nat} (hb : b ≤ 1) {k n : Nat} {N : Nat} (h35 : X 35 0 = N) (hN : N ≤ 12) (hk : k < 1000) (h : N ≤ k ∨ b = 0) (τ : TT) : T_X3_walksSo_L8 (n + 1) (nI l) (nI b) (nI k) (Ro τ 13 X) = some (nI b, Ro τ 13 (gtS 2 X)) := by
  have rzb : rz (nI b) (some (nI b, Ro τ 13 (gtS 2 X))) = some (nI b, Ro τ 13 (gtS 2 X)) := by
    have : b = 0 ∨ b = 1 := by omega
    rcases this with rfl | rfl
    · exact rz_of (Or.inl rfl)
    · exact rz_of (Or.inr rfl)
  unfold T_X3_walksSo_L8 T_X3_walksSo_j52
  rw [ro_gf, h35, x3_forgets, c0, i_le (by omega) (by omega), i_eq (by omega) (by omega)]
  simp only [e_cV]
  rw [rzb]
  rcases h with h | h
  · rw [if_pos h]
  · rw [if_pos h, ite_self]
theorem x3_walk {ρ : Nat → Nat} {N l : Nat} (hN : N ≤ 12) : ∀ r k X n, OS 180 S0 X → WF X → X 35 0 = N → (∀ j, j < N → X 34 j = ρ j ∧ ρ j ≤ 99) → l < X 12 0 → X 13 0 + r ≤ 5000 → k + r = N → r + 1 < n → ∃ F, (∀ τ, T_X3_walksSo_L8 n (nI l) (nI 1) (nI k) (Ro τ 13 X) = some (nI (if unt ρ l r k X = 61 then 1 else 0), Ro τ 13 (gtS 2 F))) ∧ OS 180 S0 F := by
  intro r
  induction r with
  | zero =>
    intro k X n hO W h35 h8 hx hh h hn
    obtain ⟨n, rfl⟩ := fu_one (by omega : 0 < n)
    refine ⟨X, fun τ => ?_, hO⟩
    rw [x3_walk_fin (by decide) h35 hN (by omega) (Or.inl (by omega))]
    rfl
  | succ r ih =>
    intro k X n hO W h35 h8 hx hh h hn
    obtain ⟨n, rfl⟩ := fu_one (by omega : 0 < n)
    obtain ⟨n2, rfl⟩ := fu_one (by omega : 0 < n)
    have h12 := W.nl
    have w := W.bea hx
    have hk := h8 k (by omega)
    have g1 := fun τ => x3_h (τ := τ) W (by omega) hO.2.2
    have h35' : hourS X 9 35 0 = N := by rw [hourS_keeps (by decide)]; exact h35
    obtain ⟨F, i1, i2⟩ := ih (k + 1) (hourS X 9) (n2 + 1) (hO.hour 9) (W.hour 9) h35' (fun j hj => by rw [hourS_keeps (by decide)]; exact h8 j hj) (by rw [hourS_keeps (by decide)]; exact hx) (by rw [hourS_13]; omega) (by omega) (by omega)
    have st : ∀ τ, T_X3_walksSo_L8 (n2 + 1 + 1) (nI l) (nI 1) (nI k) (Ro τ 13 X) = T_X3_walksSo_L8 (n2 + 1) (nI l) (nI (if ρ k = X 8 l then 1 else 0)) (nI (k + 1)) (Ro τ 13 (hourS X 9)) := by
      intro τ
      conv => lhs; unfold T_X3_walksSo_L8 T_X3_walksSo_j40
      rw [ro_gf, h35, if_neg (by rw [q_le (by omega) (by omega)]; omega), c0, if_neg (by decide), ro_ld (by omega) (by omega), ro_ld (by omega) (by omega), hk.1, i_eq (by omega) (by omega), g1]
      simp only [e_cV, e_vl]
      rw [c1, nI_add]
      by_cases e : ρ k = X 8 l
      · rw [if_pos e.symm, if_pos e]
      · rw [if_neg (fun q => e q.symm), if_neg e]
    unfold unt
    by_cases e : ρ k = X 8 l
    · refine ⟨F, fun τ => ?_, i2⟩
      rw [st, if_pos e, if_pos e]
      exact i1 τ
    · refine ⟨hourS X 9, fun τ => ?_, hO.hour 9⟩
      rw [st, if_neg e, if_neg e, if_neg (by omega), x3_walk_fin (by decide) h35' hN (by omega) (Or.inr rfl)]
/-- how far the row is true, thought from Y -/
noncomputable def uAt (ρ : Nat → Nat) (N l : Nat) (Y : SS) : Nat := unt ρ l N 0 (kpS 2 Y)
theorem ref_walk {ρ : Nat → Nat} {N l : Nat} (hN : N ≤ 12) (K : TK Y) (h35 : Y 35 0 = N) (h8 : ∀ j, j < N → Y 34 j = ρ j ∧ ρ j ≤ 99) (hl : l < Y 12 0) : ∃ F, (∀ τ, T_X3_walksSo (nI l) (Ro τ 13 Y) = some (nI (if uAt ρ N l Y = 61 then 1 else 0), Ro τ 13 F)) ∧ KR 120 Y F := by
  have K2 := K.keep (w := 2)
  have h13 := K2.2.1
  have e12 : kpS 2 Y 12 0 = Y 12 0 := kpS_oth (by decide)
  obtain ⟨F, f2, f3⟩ := x3_walk (S0 := kpS 2 Y) (ρ := ρ) (N := N) (l := l) hN N 0 (kpS 2 Y) FU (OS.keep K.2.2) K2.1 (by rw [kpS_oth (by decide)]; exact h35) (fun j hj => by rw [kpS_oth (by decide)]; exact h8 j hj) (by omega) (by omega) (by omega) (FU_gt (by omega))
  refine ⟨_, fun τ => ?_, KR.think K.2.2 f3⟩
  unfold T_X3_walksSo
  rw [x3_thinks]
  simp only [e_cV]
  rw [c0, c1]
  exact f2 τ
theorem cls_walk {ρ : Nat → Nat} {N l : Nat} (hN : N ≤ 12) (h9 : τ.1 0 9 0 = N) (h8 : ∀ k, k < N → τ.1 0 8 k = ρ k ∧ ρ k ≤ 99) (R : SB C Y) (t : T0 C) (K : TK Y) (hl : l < Y 12 0) : ∃ C', T_X2_firstUntrue (nI l) (Ro τ 2 C) = some (nI (kF (uAt ρ N l Y)), Ro τ 2 C') := by
  have K2 := K.keep (w := 2)
  have h13 := K2.2.1
  have e12 : kpS 2 Y 12 0 = Y 12 0 := kpS_oth (by decide)
  obtain ⟨C', f1⟩ := x2_unt (τ := τ) (ρ := ρ) (N := N) (l := l) h9 hN h8 N 0 (kpS 2 Y) C FU (t.sc (Eqs.keep.sb K.1 R)) t.2 K2.1 (by omega) (by omega) (by omega) (FU_gt (by omega))
  refine ⟨C', ?_⟩
  unfold T_X2_firstUntrue
  rw [c0]
  exact f1
theorem whose_loop (J : Inv G P) {l i cf rf nn ch : Nat} {vw vb : Int32} (hl : l < G 13 12 0) (hi : i < nn) (hnn : nn ≤ 6) (hpw : PW cf rf) (hch : (ch = 6 ∧ rf = 1) ∨ (ch = 10 ∧ (rf = 2 ∨ rf = 3 ∨ rf = 6))) (hst : ∀ (K : Int32 → Int32 → Int32 → Int32 → Int32 → Int32 → ST → Option (Int32 × ST)) (v5 : Int32) (k : Nat) (σ : ST), (if vw = 0 then sd σ 2 1 6 vb (nI k) (fun σ6 => T_X2_whose_j153 K (nI l) vw vb (nI ch) v5 (nI k) σ6) else if vw = 1 then sd σ 2 2 6 vb (nI k) (fun σ5 => T_X2_whose_j153 K (nI l) vw vb (nI ch) v5 (nI k) σ5) else if vw = 2 then sd σ 2 3 6 vb (nI k) (fun σ4 => T_X2_whose_j153 K (nI l) vw vb (nI ch) v5 (nI k) σ4) else sd σ 2 8 5 (nI l) (nI k) (fun σ3 => T_X2_whose_j153 K (nI l) vw vb (nI ch) v5 (nI k) σ3)) = sd σ 2 cf nn (nI i) (nI k) (fun σ => T_X2_whose_j153 K (nI l) vw vb (nI ch) v5 (nI k) σ)) : ∀ r k n bits C Z, k + r = ch → r < n → KU 60 (G 13) rf i Z → ∃ res C' F, T_X2_whose_L75 n (nI l) vw vb (nI ch) bits (nI k) (Ro (G, P) 2 C) = some (res, Ro (G, P) 2 C') ∧ (∀ τ, T_X3_bitsFor_L11 rf nn n (nI l) (nI i) (nI ch) (nI (G 13 rf i)) bits (nI k) (Ro τ 13 Z) = some (res, Ro τ 13 F)) ∧ KR 60 (G 13) F := by
  have K := J.tk
  have h12 := K.1.nl
  obtain ⟨l1, l2, l3⟩ := J.pR
  have hrf : 1 ≤ rf ∧ rf ≤ 6 := by omega
  intro r
  induction r with
  | zero =>
    intro k n bits C Z h hn kz
    obtain ⟨n, rfl⟩ := fu_one hn
    refine ⟨bits, C, up Z rf i (G 13 rf i), ?_, fun τ => ?_, kz⟩
    · unfold T_X2_whose_L75
      rw [if_pos (by rw [q_le (by omega) (by omega)]; omega)]
    · unfold T_X3_bitsFor_L11
      rw [if_pos (by rw [q_le (by omega) (by omega)]; omega), ro_sd hi (by omega)]
  | succ r ih =>
    intro k n bits C Z h hn kz
    obtain ⟨n, rfl⟩ := fu_one (by omega : 0 < n)
    have KZ : TK (up Z rf i k) := kz.tk K (by omega)
    have e12 : up Z rf i k 12 0 = G 13 12 0 := kz.at (inr (by decide) (by omega)) (by omega)
    have nsz : ∀ g j, NS g → up Z rf i k g j = G 13 g j := fun g j q => by
      have k2 : KR 60 (G 13) (up Z rf i (G 13 rf i)) := kz
      have := k2.2.1 g j q
      rw [up_ne _ (by unfold NS at q; omega)] at this ⊢
      exact this
    obtain ⟨C1, t1, t2⟩ := x2_think2 (G := G) (P := P) C
    obtain ⟨C3, f1⟩ := cls_walk (τ := (G, P)) (ρ := G 0 8) (N := G 0 9 0) (l := l) l2 rfl (fun k hk => ⟨rfl, (l3 k hk).2⟩) (kz.sb (x := k) K J.sb t2 hpw) (t2.t0.up (by unfold PW at hpw; omega)) KZ (by omega)
    obtain ⟨F, f2, f3⟩ := ref_walk (ρ := G 0 8) (N := G 0 9 0) (l := l) l2 KZ (by rw [nsz _ _ (by unfold NS; omega)]; exact l1.symm) (fun j hj => by rw [nsz _ _ (by unfold NS; omega)]; exact ⟨(l3 j hj).1.symm, (l3 j hj).2⟩) (by omega)
    have k2 : KU 60 (G 13) rf i F := kz.step (by omega) (f3.mono (by decide))
    have hle := unt_le (G 0 8) l (G 0 9 0) 0 (kpS 2 (up Z rf i k)) (by omega)
    have hu : uAt (G 0 8) (G 0 9 0) l (up Z rf i k) = unt (G 0 8) l (G 0 9 0) 0 (kpS 2 (up Z rf i k)) := rfl
    unfold T_X2_whose_L75 T_X3_bitsFor_L11
    by_cases e : uAt (G 0 8) (G 0 9 0) l (up Z rf i k) = 61
    · obtain ⟨res, C', F', i1, i2, i3⟩ := ih (k + 1) n (bits ||| (1 <<< (nI k &&& 31))) C3 F (by omega) (by omega) k2
      refine ⟨res, C', F', ?_, fun τ => ?_, i3⟩
      · rw [if_neg (by rw [q_le (by omega) (by omega)]; omega), t1]
        simp only [e_cV]
        rw [hst, ro_sd hi (by omega)]
        unfold T_X2_whose_j153
        rw [f1, e]
        simp only [e_cI]
        rw [c0, if_neg (by rw [kF_61]; decide), e_vl, e_vl, ← nI_succ]
        exact i1
      · rw [if_neg (by rw [q_le (by omega) (by omega)]; omega), ro_sd hi (by omega), f2, if_pos e]
        simp only [e_cI]
        rw [c0, if_neg (by decide), e_vl, e_vl, ← nI_succ]
        exact i2 τ
    · obtain ⟨res, C', F', i1, i2, i3⟩ := ih (k + 1) n bits C3 F (by omega) (by omega) k2
      refine ⟨res, C', F', ?_, fun τ => ?_, i3⟩
      · rw [if_neg (by rw [q_le (by omega) (by omega)]; omega), t1]
        simp only [e_cV]
        rw [hst, ro_sd hi (by omega)]
        unfold T_X2_whose_j153
        rw [f1]
        simp only [e_cI]
        rw [c0, kF_ne (by omega), if_pos (by rw [q_le (by omega) (by omega)]; omega), e_vl, c1, nI_add]
        exact i1
      · rw [if_neg (by rw [q_le (by omega) (by omega)]; omega), ro_sd hi (by omega), f2, if_neg e]
        simp only [e_cI]
        rw [c0, if_pos (by trivial), ← c0, Int32.or_zero, e_vl, e_vl, c1, nI_add]
        exact i2 τ
theorem ok_whose (J : Inv G P) (a0 a1 : Int32) : OKm G P (T_X2_whose a0 a1) (T_X3_whose a0 a1) := by
  have K := J.tk
  have h12 := K.1.nl
  have h11 := K.1.nb
  rcases chk_bearer J a0 with ⟨l, hl, rfl, e1, e2⟩ | ⟨e1, e2⟩
  · rcases chk_what a1 3 (by decide) with ⟨x, hx, rfl, e5⟩ | ⟨ho, e5⟩
    · have n1 : ¬ nI x < nI 0 := by rw [q_lt (by omega) (by omega)]; omega
      have n2 : nI x ≤ nI 3 := by rw [q_le (by omega) (by omega)]; omega
      have rl := (J.sb.bea hl).2.2.2.1
      have wl := (K.1.bea hl).2.2.2.1
      have hB : T_X0_hasBag 1 (Ro (G, P) 2 (G 2)) (nI (kN (G 13 9 l))) = some (if G 13 9 l = 9 then nI 0 else nI 1) := by
        have r0 : G 1 0 0 = G 13 11 0 := J.sb.1.1
        rw [Ro_sw, x0_hasBag (by omega) (by omega)]
      have pc : T_X2_whose (nI l) (nI x) (Ro (G, P) 2 (G 2)) = cV (T_X0_hasBag 1 (Ro (G, P) 2 (G 2)) (nI (kN (G 13 9 l)))) (fun x4 => if x4 = nI 0 then some (nI 0, Ro (G, P) 2 (G 2)) else if nI x = nI 0 then T_X2_whose_L75 FU (nI l) (nI x) (nI (kN (G 13 9 l))) (nI 6) (nI 0) (nI 0) (Ro (G, P) 2 (G 2)) else T_X2_whose_L75 FU (nI l) (nI x) (nI (kN (G 13 9 l))) (nI 10) (nI 0) (nI 0) (Ro (G, P) 2 (G 2))) := by
        unfold T_X2_whose
        simp only [e1, e_cV, d0, d3, eq10, n1, n2, if_true, if_false, d6, d10]
        rw [now_ld (by omega) (by omega), rl]
      have pr : ∀ τ, T_X3_whose (nI l) (nI x) (Ro τ 13 (G 13)) = if G 13 9 l = 9 then some (nI 0, Ro τ 13 (G 13)) else if nI x = nI 3 then T_X3_bitsFor 6 5 (nI l) (nI l) (nI 10) (Ro τ 13 (G 13)) else if nI x = nI 0 then T_X3_bitsFor 1 6 (nI l) (nI (G 13 9 l)) (nI 6) (Ro τ 13 (G 13)) else if nI x = nI 1 then T_X3_bitsFor 2 6 (nI l) (nI (G 13 9 l)) (nI 10) (Ro τ 13 (G 13)) else T_X3_bitsFor 3 6 (nI l) (nI (G 13 9 l)) (nI 10) (Ro τ 13 (G 13)) := by
        intro τ
        unfold T_X3_whose T_X3_whose_j27 T_X3_whose_j115
        simp only [e2, e5, e_cV, d0, d1, d3, d6, d10, eq10, eq00, if_true, if_false, cI_id]
        rw [ro_ld (by omega) (by omega), c9, i_eq (by omega) (by omega), ro_ld (by omega) (by omega)]
      by_cases e9 : G 13 9 l = 9
      · refine ok_q0 (r := nI 0) J ?_ (fun τ => ?_)
        · rw [pc, hB, if_pos e9]
          simp only [e_cV, if_true]
        · rw [pr, if_pos e9]
      · have hb : G 13 9 l < G 13 11 0 := by omega
        have fin : ∀ res C' F, T_X2_whose (nI l) (nI x) (Ro (G, P) 2 (G 2)) = some (res, Ro (G, P) 2 C') → (∀ τ, T_X3_whose (nI l) (nI x) (Ro τ 13 (G 13)) = some (res, Ro τ 13 F)) → KR 60 (G 13) F → OKm G P (T_X2_whose (nI l) (nI x)) (T_X3_whose (nI l) (nI x)) := fun res C' F h1 h2 h3 => ok_q2 J h1 (fun τ => ⟨F, h2 τ, h3⟩)
        have pc2 : T_X2_whose (nI l) (nI x) (Ro (G, P) 2 (G 2)) = if nI x = nI 0 then T_X2_whose_L75 FU (nI l) (nI x) (nI (G 13 9 l)) (nI 6) (nI 0) (nI 0) (Ro (G, P) 2 (G 2)) else T_X2_whose_L75 FU (nI l) (nI x) (nI (G 13 9 l)) (nI 10) (nI 0) (nI 0) (Ro (G, P) 2 (G 2)) := by
          rw [pc, hB, if_neg e9]
          simp only [e_cV, eq10, if_false]
          rw [kN_ne e9]
        have hx' : x = 0 ∨ x = 1 ∨ x = 2 ∨ x = 3 := by omega
        rcases hx' with rfl | rfl | rfl | rfl
        · obtain ⟨res, C', F, i1, i2, i3⟩ := whose_loop (P := P) J (l := l) (i := G 13 9 l) (cf := 1) (rf := 1) (nn := 6) (ch := 6) (vw := nI 0) (vb := nI (G 13 9 l)) hl (by omega) (by omega) (by unfold PW; omega) (by omega) (fun K v5 k σ => by rw [c0, if_pos (by trivial)]) 6 0 FU (nI 0) (G 2) (G 13) rfl (FU_gt (by decide)) (KU.start K.2.2)
          refine fin res C' F ?_ (fun τ => ?_) i3
          · rw [pc2, if_pos (by trivial)]; exact i1
          · rw [pr, if_neg e9, if_neg (by decide), if_pos (by trivial)]
            unfold T_X3_bitsFor
            rw [ro_ld (by omega) (by omega), c0]
            exact i2 τ
        · obtain ⟨res, C', F, i1, i2, i3⟩ := whose_loop (P := P) J (l := l) (i := G 13 9 l) (cf := 2) (rf := 2) (nn := 6) (ch := 10) (vw := nI 1) (vb := nI (G 13 9 l)) hl (by omega) (by omega) (by unfold PW; omega) (by omega) (fun K v5 k σ => by rw [c0, c1, if_neg (by decide), if_pos (by trivial)]) 10 0 FU (nI 0) (G 2) (G 13) rfl (FU_gt (by decide)) (KU.start K.2.2)
          refine fin res C' F ?_ (fun τ => ?_) i3
          · rw [pc2, if_neg (by decide)]; exact i1
          · rw [pr, if_neg e9, if_neg (by decide), if_neg (by decide), if_pos (by trivial)]
            unfold T_X3_bitsFor
            rw [ro_ld (by omega) (by omega), c0]
            exact i2 τ
        · obtain ⟨res, C', F, i1, i2, i3⟩ := whose_loop (P := P) J (l := l) (i := G 13 9 l) (cf := 3) (rf := 3) (nn := 6) (ch := 10) (vw := nI 2) (vb := nI (G 13 9 l)) hl (by omega) (by omega) (by unfold PW; omega) (by omega) (fun K v5 k σ => by rw [c0, c1, c2, if_neg (by decide), if_neg (by decide), if_pos (by trivial)]) 10 0 FU (nI 0) (G 2) (G 13) rfl (FU_gt (by decide)) (KU.start K.2.2)
          refine fin res C' F ?_ (fun τ => ?_) i3
          · rw [pc2, if_neg (by decide)]; exact i1
          · rw [pr, if_neg e9, if_neg (by decide), if_neg (by decide), if_neg (by decide)]
            unfold T_X3_bitsFor
            rw [ro_ld (by omega) (by omega), c0]
            exact i2 τ
        · obtain ⟨res, C', F, i1, i2, i3⟩ := whose_loop (P := P) J (l := l) (i := l) (cf := 8) (rf := 6) (nn := 5) (ch := 10) (vw := nI 3) (vb := nI (G 13 9 l)) hl (by omega) (by omega) (by unfold PW; omega) (by omega) (fun K v5 k σ => by rw [c0, c1, c2, if_neg (by decide), if_neg (by decide), if_neg (by decide)]) 10 0 FU (nI 0) (G 2) (G 13) rfl (FU_gt (by decide)) (KU.start K.2.2)
          refine fin res C' F ?_ (fun τ => ?_) i3
          · rw [pc2, if_neg (by decide)]; exact i1
          · rw [pr, if_neg e9, if_pos (by trivial)]
            unfold T_X3_bitsFor
            rw [ro_ld (by omega) (by omega), c0]
            exact i2 τ
    · refine ok_ref 2 J (by decide) ?_ (fun τ => ?_)
      · unfold T_X2_whose T_X2_whose_j26
        simp only [e1, cI_id, e_cV, d0, d2, d3, eq10, if_false]
        rcases ho with q | ⟨q1, q2⟩
        · simp only [q, if_true]
        · simp only [q1, q2, if_false]
      · unfold T_X3_whose T_X3_whose_j27
        simp only [e2, d0, d2, d3, e5, cI_id, e_cV, eq00, eq10, ng2, if_true, if_false]
  · refine ok_ref 1 J (by decide) ?_ (fun τ => ?_)
    · unfold T_X2_whose; simp (disch := omega) only [e1, cI_id, Nat.reduceEqDiff, Nat.reduceLeDiff, reduceIte, eq_self, ng1, ng2, ng3, ng4, ng6, rx_gf, rx_ld, rx_pf, rx_sd, m9, NN_lt, lt_NN, NN_le, le_NN, if_true, if_false, n_mod, q_dec, ro_gf, ro_ld, ro_sd, ro_pf, e_vl, e_cV, e_cI, nI_add, q_mul, q_sub, q_rem, q_div, q_eq, q_lt, q_le, c0, c1, c2, c3, c4, c5, c6, c7, c8, c9, c10, c99]
    · unfold T_X3_whose T_X3_whose_j27; simp (disch := omega) only [e2, (neg_ok 1 (by omega) (by omega)).2.1, cI_id, Nat.reduceEqDiff, Nat.reduceLeDiff, reduceIte, eq_self, ng1, ng2, ng3, ng4, ng6, rx_gf, rx_ld, rx_pf, rx_sd, m9, NN_lt, lt_NN, NN_le, le_NN, if_true, if_false, n_mod, q_dec, ro_gf, ro_ld, ro_sd, ro_pf, e_vl, e_cV, e_cI, nI_add, q_mul, q_sub, q_rem, q_div, q_eq, q_lt, q_le, c0, c1, c2, c3, c4, c5, c6, c7, c8, c9, c10, c99]
end Who
