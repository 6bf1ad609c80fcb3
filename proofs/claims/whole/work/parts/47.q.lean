/-! THE QUESTIONS, fifth lot: hours counted, places tallied -/
theorem d0 : (0 : Int32) = nI 0 := id rfl
theorem d1 : (1 : Int32) = nI 1 := id rfl
theorem d2 : (2 : Int32) = nI 2 := id rfl
theorem d3 : (3 : Int32) = nI 3 := id rfl
theorem d4 : (4 : Int32) = nI 4 := id rfl
theorem d5 : (5 : Int32) = nI 5 := id rfl
theorem d6 : (6 : Int32) = nI 6 := id rfl
theorem d7 : (7 : Int32) = nI 7 := id rfl
theorem d8 : (8 : Int32) = nI 8 := id rfl
theorem d9 : (9 : Int32) = nI 9 := id rfl
theorem d10 : (10 : Int32) = nI 10 := id rfl
theorem d12 : (12 : Int32) = nI 12 := id rfl
theorem d24 : (24 : Int32) = nI 24 := id rfl
theorem d47 : (47 : Int32) = nI 47 := id rfl
theorem d48 : (48 : Int32) = nI 48 := id rfl
theorem d57 : (57 : Int32) = nI 57 := id rfl
theorem d58 : (58 : Int32) = nI 58 := id rfl
theorem d59 : (59 : Int32) = nI 59 := id rfl
theorem d60 : (60 : Int32) = nI 60 := id rfl
theorem d63 : (63 : Int32) = nI 63 := id rfl
theorem d96 : (96 : Int32) = nI 96 := id rfl
theorem d97 : (97 : Int32) = nI 97 := id rfl
theorem d98 : (98 : Int32) = nI 98 := id rfl
theorem d99 : (99 : Int32) = nI 99 := id rfl
theorem d100 : (100 : Int32) = nI 100 := id rfl
theorem d102 : (102 : Int32) = nI 102 := id rfl
theorem d103 : (103 : Int32) = nI 103 := id rfl
theorem d104 : (104 : Int32) = nI 104 := id rfl
theorem d108 : (108 : Int32) = nI 108 := id rfl
theorem d111 : (111 : Int32) = nI 111 := id rfl
theorem d180 : (180 : Int32) = nI 180 := id rfl
theorem d255 : (255 : Int32) = nI 255 := id rfl
theorem d600 : (600 : Int32) = nI 600 := id rfl
theorem d999 : (999 : Int32) = nI 999 := id rfl
theorem d1000 : (1000 : Int32) = nI 1000 := id rfl
def cntN (p : SS → Bool) : Nat → SS → Nat
  | 0, _ => 0
  | r + 1, X => (if p (hourS X 9) = true then 1 else 0) + cntN p r (hourS X 9)
theorem cntN_pos {p : SS → Bool} {r : Nat} {X : SS} (h : p (hourS X 9) = true) : cntN p (r + 1) X = 1 + cntN p r (hourS X 9) := by
  show (if p (hourS X 9) = true then 1 else 0) + _ = _
  rw [if_pos h]
theorem cntN_neg {p : SS → Bool} {r : Nat} {X : SS} (h : ¬ p (hourS X 9) = true) : cntN p (r + 1) X = cntN p r (hourS X 9) := by
  show (if p (hourS X 9) = true then 1 else 0) + _ = _
  rw [if_neg h, Nat.zero_add]
def firstS : Nat → Nat → SS → Nat
  | 0, _, _ => 61
  | r + 1, k, X => if 0 < hourS X 9 29 0 then k else firstS r (k + 1) (hourS X 9)
def manyN (X : SS) (v : Nat) : Nat → Nat → Nat
  | 0, _ => 0
  | r + 1, l => (if X 8 l = v then 1 else 0) + manyN X v r (l + 1)
def many (X : SS) (v : Nat) : Nat := manyN X v (X 12 0) 0
theorem manyN_le {X : SS} {v : Nat} : ∀ r l, manyN X v r l ≤ r
  | 0, l => Nat.le_refl _
  | r + 1, l => by
    show (if X 8 l = v then 1 else 0) + manyN X v r (l + 1) ≤ r + 1
    have := manyN_le (X := X) (v := v) r (l + 1)
    split <;> omega
theorem manyN_congr {X Y : SS} {v : Nat} (h : ∀ l, X 8 l = Y 8 l) : ∀ r l, manyN X v r l = manyN Y v r l
  | 0, l => rfl
  | r + 1, l => by
    show (if X 8 l = v then 1 else 0) + manyN X v r (l + 1) = (if Y 8 l = v then 1 else 0) + manyN Y v r (l + 1)
    rw [h, manyN_congr h r (l + 1)]
def amx (t : Nat → Nat) : Nat → Nat → Nat → Nat
  | 0, _, b => b
  | r + 1, v, b => amx t r (v + 1) (if t b < t v then v else b)
theorem amx_lt {t : Nat → Nat} {N : Nat} : ∀ r v b, v + r ≤ N → b < N → amx t r v b < N
  | 0, v, b, _, h => h
  | r + 1, v, b, h1, h2 => by
    show amx t r (v + 1) (if t b < t v then v else b) < N
    refine amx_lt r (v + 1) _ (by omega) ?_
    split <;> omega
theorem amx_congr {t u : Nat → Nat} {N : Nat} (h : ∀ v, v < N → t v = u v) : ∀ r v b, v + r ≤ N → b < N → amx t r v b = amx u r v b
  | 0, v, b, _, _ => rfl
  | r + 1, v, b, h1, h2 => by
    show amx t r (v + 1) (if t b < t v then v else b) = amx u r (v + 1) (if u b < u v then v else b)
    rw [h b h2, h v (by omega)]
    refine amx_congr h r (v + 1) _ (by omega) ?_
    split <;> omega
/-- the class's tally of places -/
def tl (G : GG) (t : Nat → Nat) : GG := wo G 0 (fun f i => if f = 11 ∧ i < 10 then t i else G 0 f i)
theorem tl_self (G : GG) : tl G (G 0 11) = G := by
  funext o f i
  unfold tl wo
  by_cases h : o = 0
  · subst h
    rw [if_pos (by trivial)]
    by_cases e : f = 11 ∧ i < 10
    · rw [if_pos e, e.1]
    · rw [if_neg e]
  · rw [if_neg h]
theorem tl_at {G : GG} {t : Nat → Nat} {i : Nat} (h : i < 10) : tl G t 0 11 i = t i := by
  unfold tl
  rw [wo_at, if_pos ⟨rfl, h⟩]
theorem tl_up {G : GG} {t : Nat → Nat} {i x : Nat} (h : i < 10) : wo (tl G t) 0 (up (tl G t 0) 11 i x) = tl G (fun j => if j = i then x else t j) := by
  unfold tl
  rw [wo_wo, wo_at]
  congr 1
  funext f j
  unfold up
  by_cases e : f = 11 ∧ j = i
  · rw [if_pos e, if_pos ⟨e.1, by omega⟩]
    show x = if j = i then x else t j
    rw [if_pos e.2]
  · rw [if_neg e]
    by_cases e2 : f = 11 ∧ j < 10
    · rw [if_pos e2]
      show (if f = 11 ∧ j < 10 then t j else G 0 f j) = if j = i then x else t j
      rw [if_pos e2, if_neg (fun q => e ⟨e2.1, q⟩)]
    · rw [if_neg e2]
      show (if f = 11 ∧ j < 10 then t j else G 0 f j) = _
      rw [if_neg e2]
theorem tl_congr {G : GG} {t u : Nat → Nat} (h : ∀ i, i < 10 → t i = u i) : tl G t = tl G u := by
  unfold tl
  congr 1
  funext f i
  by_cases e : f = 11 ∧ i < 10
  · rw [if_pos e, if_pos e, h i e.2]
  · rw [if_neg e, if_neg e]
section Q5
variable {G : GG} {P : Nat → Nat} {C A S Y Z F D S0 X : SS} {τ : TT} {a : Nat}
theorem SC.oth (R : SC D C X) (h : ∀ f i, f < 30 → Y f i = X f i) : SC D C Y := by
  have hw : ∀ b, who Y b = who X b := fun b => who_congr (fun i => h 9 i (by decide)) (h 12 0 (by decide))
  obtain ⟨⟨r1, r2, r3, r4⟩, r5, r6, r7, r8⟩ := R
  refine ⟨⟨?_, ?_, ?_, ?_⟩, fun b hb => ?_, fun l hl => ?_, fun l hl => ?_, ?_⟩
  · rw [h 11 0 (by decide)]; exact r1
  · rw [h 12 0 (by decide)]; exact r2
  · rw [h 14 0 (by decide)]; exact r3
  · rw [h 13 0 (by decide)]; exact r4
  · rw [h 11 0 (by decide)] at hb
    rw [h 1 b (by decide), h 2 b (by decide), h 3 b (by decide), h 4 b (by decide), h 5 b (by decide), hw]
    exact r5 b hb
  · rw [h 12 0 (by decide)] at hl
    rw [h 6 l (by decide), h 7 l (by decide), h 8 l (by decide), h 9 l (by decide), h 10 l (by decide)]
    exact r6 l hl
  · rw [h 27 l (by decide), h 28 l (by decide)]; exact r7 l hl
  · rw [h 29 0 (by decide)]; exact r8
theorem WF.oth (W : WF X) (h : ∀ f i, f < 30 → Y f i = X f i) : WF Y := by
  refine W.same (fun f i _ _ _ q => h f i (by omega)) (fun l hl => ?_) (fun l hl => ?_) (fun b hb => ?_)
  · rw [h 8 l (by decide)]; exact (W.bea hl).2.2.1
  · rw [h 10 l (by decide)]; exact (W.bea hl).2.2.2.2
  · rw [h 5 b (by decide)]; exact (W.bag hb).2.2.2.2
theorem x2_vis {l v m : Nat} (hm : m ≤ 60) : ∀ r k acc X C n, SC D C X → C 18 0 = kN 9 → WF X → l < X 12 0 ∧ v ≤ 9 → X 13 0 + r ≤ 5000 → k + r = m + 1 → r < n → ∃ C', T_X2_visits_L52 n (nI l) (nI v) (nI m) (nI acc) (nI k) (Ro τ 2 C) = some (nI (acc + cntN (fun X => decide (X 8 l = v)) r X), Ro τ 2 C') := by
  intro r
  induction r with
  | zero =>
    intro k acc X C n R ha W hx hh h hn
    obtain ⟨n, rfl⟩ := fu_one hn
    refine ⟨C, ?_⟩
    unfold T_X2_visits_L52
    rw [if_pos (by rw [q_lt (by omega) (by omega)]; omega)]
    rfl
  | succ r ih =>
    intro k acc X C n R ha W hx hh h hn
    obtain ⟨n, rfl⟩ := fu_one (by omega : 0 < n)
    have h12 := W.nl
    obtain ⟨C1, g1, g2, g3⟩ := x0_hour1 (τ := τ) (o := 2) (by decide : 9 ≤ 9) W (by omega) R ha
    have hx2 : l < hourS X 9 12 0 ∧ v ≤ 9 := by simpa only [hourS_keeps (show 12 ≠ 5 ∧ 12 ≠ 8 ∧ 12 ≠ 10 ∧ 12 ≠ 13 ∧ 12 ≠ 27 ∧ 12 ≠ 28 ∧ 12 ≠ 29 by decide)] using hx
    have wa := (W.hour 9).bea hx2.1
    skip
    have i1 := fun acc => ih (k + 1) acc (hourS X 9) C1 n g2 g3 (W.hour 9) hx2 (by rw [hourS_13]; omega) (by omega) (by omega)
    unfold T_X2_visits_L52
    rw [if_neg (by rw [q_lt (by omega) (by omega)]; omega), c1, g1]
    simp (disch := omega) only [e_cV, ro_ld, (g2.bea hx2.1).2.2.1, q_eq]
    by_cases e : hourS X 9 8 l = v
    · obtain ⟨C', i2⟩ := i1 (acc + 1)
      refine ⟨C', ?_⟩
      rw [if_pos e, cntN_pos (decide_eq_true e), ← Nat.add_assoc]
      simp only [e_vl, nI_add]
      exact i2
    · obtain ⟨C', i2⟩ := i1 acc
      refine ⟨C', ?_⟩
      rw [if_neg e, cntN_neg (by simpa using e)]
      simp only [e_vl, nI_add]
      exact i2
theorem x3_vis {l v m : Nat} (hm : m ≤ 60) : ∀ r k acc X n, WF X → X 30 0 ≤ 9 → l < X 12 0 ∧ v ≤ 9 → X 13 0 + r ≤ 5000 → k + r = m → r < n → T_X3_visits_L47 n (nI l) (nI v) (nI m) (nI acc) (nI k) (Ro τ 13 X) = some (nI (acc + cntN (fun X => decide (X 8 l = v)) r X), Ro τ 13 (gtS 2 (runS X r))) := by
  intro r
  induction r with
  | zero =>
    intro k acc X n W h30 hx hh h hn
    obtain ⟨n, rfl⟩ := fu_one hn
    unfold T_X3_visits_L47
    rw [if_pos (by rw [q_le (by omega) (by omega)]; omega), x3_forgets]
    rfl
  | succ r ih =>
    intro k acc X n W h30 hx hh h hn
    obtain ⟨n, rfl⟩ := fu_one (by omega : 0 < n)
    have h12 := W.nl
    have hx2 : l < hourS X 9 12 0 ∧ v ≤ 9 := by simpa only [hourS_keeps (show 12 ≠ 5 ∧ 12 ≠ 8 ∧ 12 ≠ 10 ∧ 12 ≠ 13 ∧ 12 ≠ 27 ∧ 12 ≠ 28 ∧ 12 ≠ 29 by decide)] using hx
    have wa := (W.hour 9).bea hx2.1
    skip
    have i1 := fun acc => ih (k + 1) acc (hourS X 9) n (W.hour 9) (by rw [hourS_keeps (by decide)]; exact h30) hx2 (by rw [hourS_13]; omega) (by omega) (by omega)
    unfold T_X3_visits_L47
    rw [if_neg (by rw [q_le (by omega) (by omega)]; omega), c0, x3_h W (by omega) h30]
    simp (disch := omega) only [e_cV, ro_ld, q_eq, d1]
    by_cases e : hourS X 9 8 l = v
    · rw [if_pos e, cntN_pos (decide_eq_true e), ← Nat.add_assoc]
      simp only [e_vl, nI_add]
      exact i1 (acc + 1)
    · rw [if_neg e, cntN_neg (by simpa using e)]
      simp only [e_vl, nI_add, Nat.add_zero]
      exact i1 acc
theorem x2_tog {a b m : Nat} (hm : m ≤ 60) : ∀ r k acc X C n, SC D C X → C 18 0 = kN 9 → WF X → a < X 12 0 ∧ b < X 12 0 → X 13 0 + r ≤ 5000 → k + r = m + 1 → r < n → ∃ C', T_X2_together_L43 n (nI a) (nI b) (nI m) (nI acc) (nI k) (Ro τ 2 C) = some (nI (acc + cntN (fun X => decide (X 8 a = X 8 b)) r X), Ro τ 2 C') := by
  intro r
  induction r with
  | zero =>
    intro k acc X C n R ha W hx hh h hn
    obtain ⟨n, rfl⟩ := fu_one hn
    refine ⟨C, ?_⟩
    unfold T_X2_together_L43
    rw [if_pos (by rw [q_lt (by omega) (by omega)]; omega)]
    rfl
  | succ r ih =>
    intro k acc X C n R ha W hx hh h hn
    obtain ⟨n, rfl⟩ := fu_one (by omega : 0 < n)
    have h12 := W.nl
    obtain ⟨C1, g1, g2, g3⟩ := x0_hour1 (τ := τ) (o := 2) (by decide : 9 ≤ 9) W (by omega) R ha
    have hx2 : a < hourS X 9 12 0 ∧ b < hourS X 9 12 0 := by simpa only [hourS_keeps (show 12 ≠ 5 ∧ 12 ≠ 8 ∧ 12 ≠ 10 ∧ 12 ≠ 13 ∧ 12 ≠ 27 ∧ 12 ≠ 28 ∧ 12 ≠ 29 by decide)] using hx
    have wa := (W.hour 9).bea hx2.1
    have wb := (W.hour 9).bea hx2.2
    have i1 := fun acc => ih (k + 1) acc (hourS X 9) C1 n g2 g3 (W.hour 9) hx2 (by rw [hourS_13]; omega) (by omega) (by omega)
    unfold T_X2_together_L43
    rw [if_neg (by rw [q_lt (by omega) (by omega)]; omega), c1, g1]
    simp (disch := omega) only [e_cV, ro_ld, (g2.bea hx2.1).2.2.1, (g2.bea hx2.2).2.2.1, q_eq]
    by_cases e : hourS X 9 8 a = hourS X 9 8 b
    · obtain ⟨C', i2⟩ := i1 (acc + 1)
      refine ⟨C', ?_⟩
      rw [if_pos e, cntN_pos (decide_eq_true e), ← Nat.add_assoc]
      simp only [e_vl, nI_add]
      exact i2
    · obtain ⟨C', i2⟩ := i1 acc
      refine ⟨C', ?_⟩
      rw [if_neg e, cntN_neg (by simpa using e)]
      simp only [e_vl, nI_add]
      exact i2
theorem x3_tog {a b m : Nat} (hm : m ≤ 60) : ∀ r k acc X n, WF X → X 30 0 ≤ 9 → a < X 12 0 ∧ b < X 12 0 → X 13 0 + r ≤ 5000 → k + r = m → r < n → T_X3_together_L41 n (nI a) (nI b) (nI m) (nI acc) (nI k) (Ro τ 13 X) = some (nI (acc + cntN (fun X => decide (X 8 a = X 8 b)) r X), Ro τ 13 (gtS 2 (runS X r))) := by
  intro r
  induction r with
  | zero =>
    intro k acc X n W h30 hx hh h hn
    obtain ⟨n, rfl⟩ := fu_one hn
    unfold T_X3_together_L41
    rw [if_pos (by rw [q_le (by omega) (by omega)]; omega), x3_forgets]
    rfl
  | succ r ih =>
    intro k acc X n W h30 hx hh h hn
    obtain ⟨n, rfl⟩ := fu_one (by omega : 0 < n)
    have h12 := W.nl
    have hx2 : a < hourS X 9 12 0 ∧ b < hourS X 9 12 0 := by simpa only [hourS_keeps (show 12 ≠ 5 ∧ 12 ≠ 8 ∧ 12 ≠ 10 ∧ 12 ≠ 13 ∧ 12 ≠ 27 ∧ 12 ≠ 28 ∧ 12 ≠ 29 by decide)] using hx
    have wa := (W.hour 9).bea hx2.1
    have wb := (W.hour 9).bea hx2.2
    have i1 := fun acc => ih (k + 1) acc (hourS X 9) n (W.hour 9) (by rw [hourS_keeps (by decide)]; exact h30) hx2 (by rw [hourS_13]; omega) (by omega) (by omega)
    unfold T_X3_together_L41
    rw [if_neg (by rw [q_le (by omega) (by omega)]; omega), c0, x3_h W (by omega) h30]
    simp (disch := omega) only [e_cV, ro_ld, q_eq, d1]
    by_cases e : hourS X 9 8 a = hourS X 9 8 b
    · rw [if_pos e, cntN_pos (decide_eq_true e), ← Nat.add_assoc]
      simp only [e_vl, nI_add]
      exact i1 (acc + 1)
    · rw [if_neg e, cntN_neg (by simpa using e)]
      simp only [e_vl, nI_add, Nat.add_zero]
      exact i1 acc
theorem ok_visits (J : Inv G P) (a0 a1 a2 : Int32) : OKm G P (T_X2_visits a0 a1 a2) (T_X3_visits a0 a1 a2) := by
  have K := J.tk
  rcases chk_bearer J a0 with ⟨l, hl, rfl, e1, e2⟩ | ⟨e1, e2⟩
  · rcases chk_place a1 with ⟨v, hv, rfl, e3, e4⟩ | ⟨e3, e4⟩
    · rcases chk_hours a2 with ⟨n, hn, rfl, e5, e6⟩ | ⟨k, hk, e5, e6⟩
      · obtain ⟨C1, t1, t2⟩ := x2_think2 (G := G) (P := P) (G 2)
        have K2 := K.keep (w := 2)
        have e12 : kpS 2 (G 13) 12 0 = G 13 12 0 := kpS_oth (by decide)
        have R1 := t2.sc K2.1 (Eqs.keep.sb K.1 J.sb)
        have h13 := K2.2.1
        obtain ⟨C2, f1⟩ := x2_vis (τ := (G, P)) (l := l) (v := v) hn n 1 0 (kpS 2 (G 13)) C1 FU R1 t2.2.2.2.2.2 K2.1 (by omega) (by omega) (by omega) (FU_gt (by omega))
        refine ok_q2 (r := nI (0 + cntN (fun X => decide (X 8 l = v)) n (kpS 2 (G 13)))) (C := C2) J ?_ (fun τ => ⟨_, ?_, (KR.think K.2.2 ((OS.keep K.2.2).run n)).mono (by decide)⟩)
        · unfold T_X2_visits
          simp only [e1, e3, e5, t1, e_cV, d0, d1, f1, eq00, eq10, if_true, if_false]
        · have f2 := x3_vis (τ := τ) (l := l) (v := v) hn n 0 0 (kpS 2 (G 13)) FU K2.1 K2.2.2 (by omega) (by omega) (by omega) (FU_gt (by omega))
          unfold T_X3_visits T_X3_visits_j23
          simp only [e2, e4, e6, x3_thinks, e_cV, d0, d1, f2, eq00, eq10, if_true, if_false]
      · refine ok_ref k J (by omega) ?_ (fun τ => ?_)
        · unfold T_X2_visits; simp (disch := omega) only [e1, e3, e5, (neg_ok k (by omega) (by omega)).2.1, cI_id, Nat.reduceEqDiff, Nat.reduceLeDiff, reduceIte, eq_self, ng1, ng2, ng3, ng4, ng6, rx_gf, rx_ld, rx_pf, rx_sd, m9, NN_lt, lt_NN, NN_le, le_NN, if_true, if_false, n_mod, q_dec, ro_gf, ro_ld, ro_sd, ro_pf, e_vl, e_cV, e_cI, nI_add, q_mul, q_sub, q_rem, q_div, q_eq, q_lt, q_le, c0, c1, c2, c3, c4, c5, c6, c7, c8, c9, c10, c99]
        · unfold T_X3_visits T_X3_visits_j15 T_X3_visits_j23; simp (disch := omega) only [e2, e4, e6, (neg_ok k (by omega) (by omega)).2.1, cI_id, Nat.reduceEqDiff, Nat.reduceLeDiff, reduceIte, eq_self, ng1, ng2, ng3, ng4, ng6, rx_gf, rx_ld, rx_pf, rx_sd, m9, NN_lt, lt_NN, NN_le, le_NN, if_true, if_false, n_mod, q_dec, ro_gf, ro_ld, ro_sd, ro_pf, e_vl, e_cV, e_cI, nI_add, q_mul, q_sub, q_rem, q_div, q_eq, q_lt, q_le, c0, c1, c2, c3, c4, c5, c6, c7, c8, c9, c10, c99]
    · refine ok_ref 1 J (by decide) ?_ (fun τ => ?_)
      · unfold T_X2_visits T_X2_visits_j18; simp (disch := omega) only [e1, e3, cI_id, Nat.reduceEqDiff, Nat.reduceLeDiff, reduceIte, eq_self, ng1, ng2, ng3, ng4, ng6, rx_gf, rx_ld, rx_pf, rx_sd, m9, NN_lt, lt_NN, NN_le, le_NN, if_true, if_false, n_mod, q_dec, ro_gf, ro_ld, ro_sd, ro_pf, e_vl, e_cV, e_cI, nI_add, q_mul, q_sub, q_rem, q_div, q_eq, q_lt, q_le, c0, c1, c2, c3, c4, c5, c6, c7, c8, c9, c10, c99]
      · unfold T_X3_visits T_X3_visits_j15 T_X3_visits_j23; simp (disch := omega) only [e2, e4, (neg_ok 1 (by omega) (by omega)).2.1, cI_id, Nat.reduceEqDiff, Nat.reduceLeDiff, reduceIte, eq_self, ng1, ng2, ng3, ng4, ng6, rx_gf, rx_ld, rx_pf, rx_sd, m9, NN_lt, lt_NN, NN_le, le_NN, if_true, if_false, n_mod, q_dec, ro_gf, ro_ld, ro_sd, ro_pf, e_vl, e_cV, e_cI, nI_add, q_mul, q_sub, q_rem, q_div, q_eq, q_lt, q_le, c0, c1, c2, c3, c4, c5, c6, c7, c8, c9, c10, c99]
  · refine ok_ref 1 J (by decide) ?_ (fun τ => ?_)
    · unfold T_X2_visits T_X2_visits_j18; simp (disch := omega) only [e1, cI_id, Nat.reduceEqDiff, Nat.reduceLeDiff, reduceIte, eq_self, ng1, ng2, ng3, ng4, ng6, rx_gf, rx_ld, rx_pf, rx_sd, m9, NN_lt, lt_NN, NN_le, le_NN, if_true, if_false, n_mod, q_dec, ro_gf, ro_ld, ro_sd, ro_pf, e_vl, e_cV, e_cI, nI_add, q_mul, q_sub, q_rem, q_div, q_eq, q_lt, q_le, c0, c1, c2, c3, c4, c5, c6, c7, c8, c9, c10, c99]
    · unfold T_X3_visits T_X3_visits_j15 T_X3_visits_j23; simp (disch := omega) only [e2, (neg_ok 1 (by omega) (by omega)).2.1, cI_id, Nat.reduceEqDiff, Nat.reduceLeDiff, reduceIte, eq_self, ng1, ng2, ng3, ng4, ng6, rx_gf, rx_ld, rx_pf, rx_sd, m9, NN_lt, lt_NN, NN_le, le_NN, if_true, if_false, n_mod, q_dec, ro_gf, ro_ld, ro_sd, ro_pf, e_vl, e_cV, e_cI, nI_add, q_mul, q_sub, q_rem, q_div, q_eq, q_lt, q_le, c0, c1, c2, c3, c4, c5, c6, c7, c8, c9, c10, c99]
theorem ok_together (J : Inv G P) (a0 a1 a2 : Int32) : OKm G P (T_X2_together a0 a1 a2) (T_X3_together a0 a1 a2) := by
  have K := J.tk
  rcases chk_two J a0 a1 with ⟨x, y, hx, hy, hxy, rfl, rfl, e1, e2⟩ | ⟨e1, e2⟩
  · rcases chk_hours a2 with ⟨n, hn, rfl, e5, e6⟩ | ⟨k, hk, e5, e6⟩
    · obtain ⟨C1, t1, t2⟩ := x2_think2 (G := G) (P := P) (G 2)
      have K2 := K.keep (w := 2)
      have e12 : kpS 2 (G 13) 12 0 = G 13 12 0 := kpS_oth (by decide)
      have R1 := t2.sc K2.1 (Eqs.keep.sb K.1 J.sb)
      have h13 := K2.2.1
      obtain ⟨C2, f1⟩ := x2_tog (τ := (G, P)) (a := x) (b := y) hn n 1 0 (kpS 2 (G 13)) C1 FU R1 t2.2.2.2.2.2 K2.1 (by omega) (by omega) (by omega) (FU_gt (by omega))
      refine ok_q2 (r := nI (0 + cntN (fun X => decide (X 8 x = X 8 y)) n (kpS 2 (G 13)))) (C := C2) J ?_ (fun τ => ⟨_, ?_, (KR.think K.2.2 ((OS.keep K.2.2).run n)).mono (by decide)⟩)
      · unfold T_X2_together
        simp only [e1, e5, t1, e_cV, d0, d1, f1, eq00, eq10, if_true, if_false]
      · have f2 := x3_tog (τ := τ) (a := x) (b := y) hn n 0 0 (kpS 2 (G 13)) FU K2.1 K2.2.2 (by omega) (by omega) (by omega) (FU_gt (by omega))
        unfold T_X3_together T_X3_together_j17
        simp only [e2, e6, x3_thinks, e_cV, d0, d1, f2, eq00, eq10, if_true, if_false]
    · refine ok_ref k J (by omega) ?_ (fun τ => ?_)
      · unfold T_X2_together; simp (disch := omega) only [e1, e5, (neg_ok k (by omega) (by omega)).2.1, cI_id, Nat.reduceEqDiff, Nat.reduceLeDiff, reduceIte, eq_self, ng1, ng2, ng3, ng4, ng6, rx_gf, rx_ld, rx_pf, rx_sd, m9, NN_lt, lt_NN, NN_le, le_NN, if_true, if_false, n_mod, q_dec, ro_gf, ro_ld, ro_sd, ro_pf, e_vl, e_cV, e_cI, nI_add, q_mul, q_sub, q_rem, q_div, q_eq, q_lt, q_le, c0, c1, c2, c3, c4, c5, c6, c7, c8, c9, c10, c99]
      · unfold T_X3_together T_X3_together_j17; simp (disch := omega) only [e2, e6, (neg_ok k (by omega) (by omega)).2.1, cI_id, Nat.reduceEqDiff, Nat.reduceLeDiff, reduceIte, eq_self, ng1, ng2, ng3, ng4, ng6, rx_gf, rx_ld, rx_pf, rx_sd, m9, NN_lt, lt_NN, NN_le, le_NN, if_true, if_false, n_mod, q_dec, ro_gf, ro_ld, ro_sd, ro_pf, e_vl, e_cV, e_cI, nI_add, q_mul, q_sub, q_rem, q_div, q_eq, q_lt, q_le, c0, c1, c2, c3, c4, c5, c6, c7, c8, c9, c10, c99]
  · refine ok_ref 1 J (by decide) ?_ (fun τ => ?_)
    · unfold T_X2_together; simp (disch := omega) only [e1, cI_id, Nat.reduceEqDiff, Nat.reduceLeDiff, reduceIte, eq_self, ng1, ng2, ng3, ng4, ng6, rx_gf, rx_ld, rx_pf, rx_sd, m9, NN_lt, lt_NN, NN_le, le_NN, if_true, if_false, n_mod, q_dec, ro_gf, ro_ld, ro_sd, ro_pf, e_vl, e_cV, e_cI, nI_add, q_mul, q_sub, q_rem, q_div, q_eq, q_lt, q_le, c0, c1, c2, c3, c4, c5, c6, c7, c8, c9, c10, c99]
    · unfold T_X3_together T_X3_together_j17; simp (disch := omega) only [e2, (neg_ok 1 (by omega) (by omega)).2.1, cI_id, Nat.reduceEqDiff, Nat.reduceLeDiff, reduceIte, eq_self, ng1, ng2, ng3, ng4, ng6, rx_gf, rx_ld, rx_pf, rx_sd, m9, NN_lt, lt_NN, NN_le, le_NN, if_true, if_false, n_mod, q_dec, ro_gf, ro_ld, ro_sd, ro_pf, e_vl, e_cV, e_cI, nI_add, q_mul, q_sub, q_rem, q_div, q_eq, q_lt, q_le, c0, c1, c2, c3, c4, c5, c6, c7, c8, c9, c10, c99]
theorem x2_fS (hD : D 29 0 = 0) : ∀ r k X C n, SC D C X → C 18 0 = kN 9 → WF X → X 29 0 + 5 * r ≤ 5000 → X 13 0 + r ≤ 5000 → k + r = 61 → r < n → ∃ C', T_X2_firstSnap_L6 n (nI k) (Ro τ 2 C) = some (nI (kF (firstS r k X)), Ro τ 2 C') := by
  intro r
  induction r with
  | zero =>
    intro k X C n R ha W hx hh h hn
    obtain ⟨n, rfl⟩ := fu_one hn
    refine ⟨C, ?_⟩
    unfold T_X2_firstSnap_L6
    rw [c60, if_pos (by rw [q_lt (by omega) (by omega)]; omega), c9, m9]
    rfl
  | succ r ih =>
    intro k X C n R ha W hx hh h hn
    obtain ⟨n, rfl⟩ := fu_one (by omega : 0 < n)
    have b29 := hour_29 (S := X) (z := 9) W.nl
    obtain ⟨C1, g1, g2, g3⟩ := x0_hour1 (τ := τ) (o := 2) (by decide : 9 ≤ 9) W (by omega) R ha
    obtain ⟨C', i1⟩ := ih (k + 1) (hourS X 9) C1 n g2 g3 (W.hour 9) (by omega) (by rw [hourS_13]; omega) (by omega) (by omega)
    have e17 : C1 17 0 = hourS X 9 29 0 := by have := g2.2.2.2.2; omega
    unfold T_X2_firstSnap_L6 firstS
    rw [c60, if_neg (by rw [q_lt (by omega) (by omega)]; omega), c1, g1]
    simp (disch := omega) only [e_cV, ro_gf, e17, d0, q_le]
    by_cases e : 0 < hourS X 9 29 0
    · refine ⟨C1, ?_⟩
      rw [if_neg (by omega), if_pos e, kF_ne (by omega)]
    · refine ⟨C', ?_⟩
      rw [if_pos (by omega), if_neg e]
      simp only [e_vl, nI_add]
      exact i1
theorem x3_fS_fin {k' : Nat} (hk' : k' < 1000) {k n : Nat} {X : SS} (τ : TT) : T_X3_firstSnap_L13 (n + 1) (nI k') (nI k) (Ro τ 13 X) = some (nI k', Ro τ 13 (gtS 2 X)) := by
  unfold T_X3_firstSnap_L13 T_X3_firstSnap_j48
  rw [x3_forgets, c0]
  simp (disch := omega) only [e_cV, q_le, Nat.zero_le, if_true, ite_self]
theorem x3_fS : ∀ r k X n, OS 180 S0 X → WF X → X 29 0 + 5 * r ≤ 5000 → X 13 0 + r ≤ 5000 → k + r = 61 → r + 1 < n → ∃ F, (∀ τ, T_X3_firstSnap_L13 n (nI 4294967287) (nI k) (Ro τ 13 X) = some (nI (kF (firstS r k X)), Ro τ 13 (gtS 2 F))) ∧ OS 180 S0 F := by
  intro r
  induction r with
  | zero =>
    intro k X n hO W hx hh h hn
    obtain ⟨n, rfl⟩ := fu_one (by omega : 0 < n)
    refine ⟨X, fun τ => ?_, hO⟩
    unfold T_X3_firstSnap_L13 T_X3_firstSnap_j48
    rw [c60, if_pos (by rw [q_lt (by omega) (by omega)]; omega), x3_forgets]
    rfl
  | succ r ih =>
    intro k X n hO W hx hh h hn
    obtain ⟨n, rfl⟩ := fu_one (by omega : 0 < n)
    obtain ⟨n2, rfl⟩ := fu_one (by omega : 0 < n)
    have b29 := hour_29 (S := X) (z := 9) W.nl
    have g1 := fun τ => x3_h (τ := τ) W (by omega) hO.2.2
    obtain ⟨F, i1, i2⟩ := ih (k + 1) (hourS X 9) (n2 + 1) (hO.hour 9) (W.hour 9) (by omega) (by rw [hourS_13]; omega) (by omega) (by omega)
    unfold T_X3_firstSnap_L13 firstS
    by_cases e : 0 < hourS X 9 29 0
    · refine ⟨hourS X 9, fun τ => ?_, hO.hour 9⟩
      rw [c60, if_neg (by rw [q_lt (by omega) (by omega)]; omega), c0, if_neg (by rw [le_NN (by omega)]; exact id), g1]
      simp (disch := omega) only [e_cV, ro_gf, q_le, d1]
      rw [if_neg (by omega), if_pos e]
      simp only [e_vl, nI_add]
      rw [x3_fS_fin (by omega), kF_ne (by omega)]
    · refine ⟨F, fun τ => ?_, i2⟩
      rw [c60, if_neg (by rw [q_lt (by omega) (by omega)]; omega), c0, if_neg (by rw [le_NN (by omega)]; exact id), g1]
      simp (disch := omega) only [e_cV, ro_gf, q_le, d1]
      rw [if_pos (by omega), if_neg e]
      simp only [e_vl, nI_add]
      rw [c9, m9]
      exact i1 τ
theorem ok_firstSnap (J : Inv G P) : OKm G P (T_X2_firstSnap) (T_X3_firstSnap) := by
  have K := J.tk
  have K2 := (K.keep (w := 2)).cnt
  have h13 := K2.2.1
  obtain ⟨C1, t1, t2⟩ := x2_think2 (G := G) (P := P) (G 2)
  have R1 := t2.sc K2.1 ((Eqs.keep.trans Eqs.cnt).sb K.1 J.sb)
  obtain ⟨C2, f1⟩ := x2_fS (τ := (G, P)) cnt_29 60 1 _ C1 FU R1 t2.2.2.2.2.2 K2.1 (by rw [cnt_29]; omega) (by omega) rfl (FU_gt (by decide))
  obtain ⟨F, f2, f3⟩ := x3_fS (S0 := kpS 2 (G 13)) 60 1 (cntS (kpS 2 (G 13))) FU (OS.keep K.2.2).cnt K2.1 (by rw [cnt_29]; omega) (by omega) rfl (FU_gt (by decide))
  refine ok_q2 (r := nI (kF (firstS 60 1 (cntS (kpS 2 (G 13)))))) (C := C2) J ?_ (fun τ => ⟨_, ?_, (KR.think K.2.2 f3).mono (by decide)⟩)
  · unfold T_X2_firstSnap
    simp only [t1, e_cV, d1, f1]
  · unfold T_X3_firstSnap
    simp only [x3_thinks, x3_counts, e_cV, d1, d9, m9, f2]
/-! tallies of places -/
theorem x2_startT : ∀ r v n t, v + r = 10 → r < n → T_X2_startPlaceTally_L2 n (nI v) (Ro (tl G t, P) 2 C) = some (Ro (tl G (fun j => if v ≤ j then 0 else t j), P) 2 C) := by
  intro r
  induction r with
  | zero =>
    intro v n t h hn
    obtain ⟨n, rfl⟩ := fu_one hn
    unfold T_X2_startPlaceTally_L2
    rw [c10, if_pos (by rw [q_le (by omega) (by omega)]; omega), tl_congr (u := fun j => if v ≤ j then 0 else t j)]
    intro i hi
    rw [if_neg (by omega)]
  | succ r ih =>
    intro v n t h hn
    obtain ⟨n, rfl⟩ := fu_one (by omega : 0 < n)
    unfold T_X2_startPlaceTally_L2
    rw [c10, if_neg (by rw [q_le (by omega) (by omega)]; omega), c0, rx_sd (by decide) (by omega) (by omega)]
    show vl _ (fun x2 => T_X2_startPlaceTally_L2 n x2 (Ro (wo (tl G t) 0 (up (tl G t 0) 11 v 0), P) 2 C)) = _
    rw [tl_up (by omega), e_vl, c1, nI_add, ih (v + 1) n _ (by omega) (by omega)]
    rw [tl_congr (u := fun j => if v ≤ j then 0 else t j)]
    intro i hi
    by_cases e1 : v + 1 ≤ i
    · rw [if_pos e1, if_pos (by omega)]
    · rw [if_neg e1]
      by_cases e2 : i = v
      · rw [if_pos e2, if_pos (by omega)]
      · rw [if_neg e2, if_neg (by omega)]
theorem x2_start : T_X2_startPlaceTally (Ro (G, P) 2 C) = some (Ro (tl G (fun _ => 0), P) 2 C) := by
  have := x2_startT (G := G) (P := P) (C := C) 10 0 FU (G 0 11) rfl (FU_gt (by decide))
  rw [tl_self] at this
  unfold T_X2_startPlaceTally
  rw [c0, this]
  simp only [Nat.zero_le, if_true]
theorem isP {v : Nat} (h : v ≤ 9) (σ : ST) : T_X2_isPlace σ (nI v) = some (nI 1) := by
  unfold T_X2_isPlace
  rw [c0, c10, if_neg (by rw [q_lt (by omega) (by omega)]; omega), if_neg (by rw [q_le (by omega) (by omega)]; omega)]
  rfl
theorem x2_tallyL (W : WF X) (R : SB C X) : ∀ r l n t, l + r = X 12 0 → r < n → T_X2_tallyPlaces_L2 n (nI l) (Ro (tl G t, P) 2 C) = some (Ro (tl G (fun v => t v + manyN X v r l), P) 2 C) := by
  have h12 := W.nl
  have r7 := R.1.2.1
  intro r
  induction r with
  | zero =>
    intro l n t h hn
    obtain ⟨n, rfl⟩ := fu_one hn
    unfold T_X2_tallyPlaces_L2
    rw [ro_gf, r7, if_pos (by rw [q_le (by omega) (by omega)]; omega)]
    rfl
  | succ r ih =>
    intro l n t h hn
    obtain ⟨n, rfl⟩ := fu_one (by omega : 0 < n)
    have hl : l < X 12 0 := by omega
    have w := W.bea hl
    have rl := (R.2.2 l hl).2.2.1
    unfold T_X2_tallyPlaces_L2
    rw [ro_gf, r7, if_neg (by rw [q_le (by omega) (by omega)]; omega), ro_ld (by omega) (by omega), rl, isP w.2.2.1]
    simp only [e_cV]
    rw [c0, if_neg (by decide), ro_ld (by omega) (by omega), rl, rx_ld (by decide) (by omega) (by omega)]
    show sd _ 0 11 10 (nI (X 8 l)) (nI (tl G t 0 11 (X 8 l)) + 1) _ = _
    rw [c1, nI_add, rx_sd (by decide) (by omega) (by omega)]
    show vl _ (fun x2 => T_X2_tallyPlaces_L2 n x2 (Ro (wo (tl G t) 0 (up (tl G t 0) 11 (X 8 l) (tl G t 0 11 (X 8 l) + 1)), P) 2 C)) = _
    rw [tl_up (by omega), tl_at (by omega), e_vl, nI_add, ih (l + 1) n _ (by omega) (by omega)]
    rw [tl_congr (u := fun v => t v + manyN X v (r + 1) l)]
    intro i hi
    show (if i = X 8 l then t (X 8 l) + 1 else t i) + manyN X i r (l + 1) = t i + ((if X 8 l = i then 1 else 0) + manyN X i r (l + 1))
    by_cases e : i = X 8 l
    · rw [if_pos e, if_pos e.symm, e]; omega
    · rw [if_neg e, if_neg (fun q => e q.symm)]; omega
theorem x2_tally (W : WF X) (R : SB C X) (t : Nat → Nat) : T_X2_tallyPlaces (Ro (tl G t, P) 2 C) = some (Ro (tl G (fun v => t v + many X v), P) 2 C) := by
  have h12 := W.nl
  exact x2_tallyL W R (X 12 0) 0 FU t (by omega) (FU_gt (by omega))
theorem x2_fullL {t : Nat → Nat} (ht : ∀ v, v < 10 → t v < 100000) : ∀ r v b n, v + r = 10 → b < 10 → r < n → T_X2_fullestPlace_L4 (Ro (tl G t, P) 2 C) n (nI b) (nI v) = some (nI (amx t r v b)) := by
  intro r
  induction r with
  | zero =>
    intro v b n h hb hn
    obtain ⟨n, rfl⟩ := fu_one hn
    unfold T_X2_fullestPlace_L4
    rw [c10, if_pos (by rw [q_le (by omega) (by omega)]; omega)]
    rfl
  | succ r ih =>
    intro v b n h hb hn
    obtain ⟨n, rfl⟩ := fu_one (by omega : 0 < n)
    have h1 := ht v (by omega)
    have h2 := ht b hb
    unfold T_X2_fullestPlace_L4 amx
    rw [c10, if_neg (by rw [q_le (by omega) (by omega)]; omega), rx_ld (by decide) (by omega) (by omega), rx_ld (by decide) (by omega) (by omega)]
    show (if nI (tl G t 0 11 v) ≤ nI (tl G t 0 11 b) then _ else _) = _
    rw [tl_at (by omega), tl_at (by omega), i_le (by omega) (by omega), c1]
    simp only [e_vl, nI_add]
    by_cases e : t b < t v
    · rw [if_neg (by omega), if_pos e]
      exact ih (v + 1) v n (by omega) (by omega) (by omega)
    · rw [if_pos (by omega), if_neg e]
      exact ih (v + 1) b n (by omega) hb (by omega)
theorem x2_full {t : Nat → Nat} (ht : ∀ v, v < 10 → t v < 100000) : T_X2_fullestPlace (Ro (tl G t, P) 2 C) = some (nI (amx t 9 1 0)) := by
  unfold T_X2_fullestPlace
  rw [c0, c1]
  exact x2_fullL ht 9 1 0 FU rfl (by decide) (FU_gt (by decide))
theorem Ks.tally {t : Nat → Nat} : Ks G (wo (tl G t) 2 C) := by
  refine ⟨fun f i h => ?_, fun o h0 h2 _ => ?_⟩
  · rw [wo_ne _ _ (by decide)]
    show wo G 0 _ 0 f i = _
    rw [wo_at, if_neg (fun q => h q.1)]
  · rw [wo_ne _ _ h2]
    show wo G 0 _ o = _
    rw [wo_ne _ _ h0]
theorem ok_qt {cls ref : ST → Option (Int32 × ST)} {r : Int32} {t : Nat → Nat} (J : Inv G P) (h1 : cls (Ro (G, P) 2 (G 2)) = some (r, Ro (tl G t, P) 2 C)) (h2 : ∀ τ, ∃ F, ref (Ro τ 13 (G 13)) = some (r, Ro τ 13 F) ∧ KR 60 (G 13) F) : OKm G P cls ref := by
  refine ok_query (G' := wo (tl G t) 2 C) J ?_ Ks.tally h2
  rw [Ro_self] at h1
  exact h1
theorem x3_manyL (W : WF X) {v : Nat} (hv : v ≤ 9) : ∀ r l a n, l + r = X 12 0 → r < n → T_X3_manyAt_L4 (Ro τ 13 X) n (nI v) (nI a) (nI l) = some (nI (a + manyN X v r l)) := by
  have h12 := W.nl
  intro r
  induction r with
  | zero =>
    intro l a n h hn
    obtain ⟨n, rfl⟩ := fu_one hn
    unfold T_X3_manyAt_L4
    rw [ro_gf, if_pos (by rw [q_le (by omega) (by omega)]; omega)]
    rfl
  | succ r ih =>
    intro l a n h hn
    obtain ⟨n, rfl⟩ := fu_one (by omega : 0 < n)
    have hl : l < X 12 0 := by omega
    have w := W.bea hl
    unfold T_X3_manyAt_L4
    rw [ro_gf, if_neg (by rw [q_le (by omega) (by omega)]; omega), ro_ld (by omega) (by omega), i_eq (by omega) (by omega), c1, c0]
    simp only [e_vl, nI_add]
    show _ = some (nI (a + ((if X 8 l = v then 1 else 0) + manyN X v r (l + 1))))
    by_cases e : X 8 l = v
    · rw [if_pos e, if_pos e, ih (l + 1) (a + 1) n (by omega) (by omega), Nat.add_assoc]
    · rw [if_neg e, if_neg e, ih (l + 1) (a + 0) n (by omega) (by omega), Nat.add_assoc]
theorem x3_many (W : WF X) {v : Nat} (hv : v ≤ 9) : T_X3_manyAt (Ro τ 13 X) (nI v) = some (nI (many X v)) := by
  have h12 := W.nl
  have := x3_manyL (τ := τ) W hv (X 12 0) 0 0 FU (by omega) (FU_gt (by omega))
  rw [Nat.zero_add] at this
  exact this
theorem many_le {v : Nat} (W : WF X) : many X v ≤ 5 := by
  have h12 := W.nl
  have := manyN_le (X := X) (v := v) (X 12 0) 0
  show manyN X v (X 12 0) 0 ≤ 5
  omega
theorem x3_compL (W : WF X) {what : Nat} (hw : what ≤ 1) : ∀ r v b n, v + r = 10 → b < 10 → r < n → T_X3_company_L46 n (nI what) (nI b) (nI v) (Ro τ 13 X) = some (nI (if what = 0 then many X (amx (many X) r v b) else amx (many X) r v b), Ro τ 13 (gtS 2 X)) := by
  intro r
  induction r with
  | zero =>
    intro v b n h hb hn
    obtain ⟨n, rfl⟩ := fu_one hn
    unfold T_X3_company_L46
    rw [c10, if_pos (by rw [q_le (by omega) (by omega)]; omega), x3_many W (by omega), x3_forgets]
    simp only [e_cV]
    rw [c0, i_eq (by omega) (by omega)]
    split <;> rfl
  | succ r ih =>
    intro v b n h hb hn
    obtain ⟨n, rfl⟩ := fu_one (by omega : 0 < n)
    have h1 := many_le (v := v) W
    have h2 := many_le (v := b) W
    unfold T_X3_company_L46 amx
    rw [c10, if_neg (by rw [q_le (by omega) (by omega)]; omega), x3_many W (by omega), x3_many W (by omega)]
    simp only [e_cV, e_vl, d1, nI_add]
    rw [i_le (by omega) (by omega)]
    by_cases e : many X b < many X v
    · rw [if_neg (by omega), if_pos e]
      exact ih (v + 1) v n (by omega) (by omega) (by omega)
    · rw [if_pos (by omega), if_neg e]
      exact ih (v + 1) b n (by omega) hb (by omega)
theorem ok_company (J : Inv G P) (a0 a1 : Int32) : OKm G P (T_X2_company a0 a1) (T_X3_company a0 a1) := by
  have K := J.tk
  rcases chk_hours a0 with ⟨n, hn, rfl, e3, e4⟩ | ⟨k, hk, e3, e4⟩
  · rcases x2_hw n 1 hn a1 (by decide) with ⟨x, hx, rfl, e5, e6⟩ | ⟨e5, e6⟩
    · have K2 := K.keep (w := 2)
      obtain ⟨C1, C2, t1, t2, t3, -⟩ := think_run (P := P) (Eqs.keep.sb K.1 J.sb) K2.1 K2.2.1 hn (G 2)
      have WY : WF (runS (kpS 2 (G 13)) n) := K2.1.run n _
      have goes : ∀ τ, T_X3_goes (nI n) (Ro τ 13 (kpS 2 (G 13))) = some (Ro τ 13 (runS (kpS 2 (G 13)) n)) := fun τ => x3_goes K2.1 hn (by have := K2.2.1; omega) K2.2.2
      have ht : ∀ v, v < 10 → 0 + many (runS (kpS 2 (G 13)) n) v < 100000 := fun v _ => by have := many_le (v := v) WY; omega
      have hb := amx_lt (t := many (runS (kpS 2 (G 13)) n)) (N := 10) 9 1 0 (by decide) (by decide)
      have hz : (fun v => 0 + many (runS (kpS 2 (G 13)) n) v) = many (runS (kpS 2 (G 13)) n) := by funext v; rw [Nat.zero_add]
      have tal := x2_tally (G := G) (P := P) WY t3.sb (fun _ => 0)
      have ful := x2_full (G := G) (P := P) (C := C2) ht
      rw [hz] at tal ful
      refine ok_qt (t := many (runS (kpS 2 (G 13)) n)) (r := nI (if x = 0 then many (runS (kpS 2 (G 13)) n) (amx (many (runS (kpS 2 (G 13)) n)) 9 1 0) else amx (many (runS (kpS 2 (G 13)) n)) 9 1 0)) (C := C2) J ?_ (fun τ => ⟨_, ?_, (KR.think K.2.2 ((OS.keep K.2.2).run n)).mono (by decide)⟩)
      · unfold T_X2_company
        simp only [d1, e5, t1, t2, x2_start, tal, ful, e_cV, d0, eq00, eq10, if_true, if_false]
        rw [i_eq (by omega) (by omega), rx_ld (by decide) (by omega) (by omega)]
        show (if x = 0 then some (nI (tl G (many (runS (kpS 2 (G 13)) n)) 0 11 (amx (many (runS (kpS 2 (G 13)) n)) 9 1 0)), _) else _) = _
        rw [tl_at hb]
        split <;> rfl
      · unfold T_X3_company T_X3_company_j21
        simp only [d0, d1, e4, e6, x3_thinks, goes, e_cV, eq00, eq10, if_true, if_false]
        exact x3_compL WY hx 9 1 0 FU rfl (by decide) (FU_gt (by decide))
    · refine ok_ref 2 J (by decide) ?_ (fun τ => ?_)
      · unfold T_X2_company
        simp only [d1, e5, e_cV, d0, (neg_ok 2 (by omega) (by omega)).2.1, if_false, cI_id]
      · unfold T_X3_company T_X3_company_j21
        simp only [d1, e4, e6, e_cV, d0, d2, eq00, if_true, (neg_ok 2 (by omega) (by omega)).2.1, if_false, cI_id]
  · refine ok_ref k J (by omega) ?_ (fun τ => ?_)
    · unfold T_X2_company
      simp only [d1, x2_hwBad hk e3, e_cV, d0, (neg_ok k (by omega) (by omega)).2.1, if_false, cI_id]
    · unfold T_X3_company T_X3_company_j21
      simp only [e4, e_cV, d0, (neg_ok k (by omega) (by omega)).2.1, if_false, cI_id]
theorem x3_tallyL : ∀ r l X, WF X → l + r = X 12 0 → ∃ Y, (∀ τ K v1 v2 v4 n, r < n → T_X3_busy_L71 K n v1 v2 v4 (nI l) (Ro τ 13 X) = cV (T_X3_goesHour 0 (Ro τ 13 Y)) (fun σ3 => vl (v4 + 1) (fun x4 => K v1 v2 x4 σ3))) ∧ (∀ f i, f ≠ 36 → Y f i = X f i) ∧ ∀ v, Y 36 v = X 36 v + manyN X v r l := by
  intro r
  induction r with
  | zero =>
    intro l X W h
    have h12 := W.nl
    refine ⟨X, fun τ K v1 v2 v4 n hn => ?_, fun _ _ _ => rfl, fun v => rfl⟩
    obtain ⟨n, rfl⟩ := fu_one hn
    unfold T_X3_busy_L71
    rw [ro_gf, if_pos (by rw [q_le (by omega) (by omega)]; omega)]
  | succ r ih =>
    intro l X W h
    have h12 := W.nl
    have hl : l < X 12 0 := by omega
    have w := W.bea hl
    have o1 : ∀ f i, f ≠ 36 → up X 36 (X 8 l) (X 36 (X 8 l) + 1) f i = X f i := fun f i q => up_ne X (fun z => q z.1)
    obtain ⟨Y, i1, i2, i3⟩ := ih (l + 1) (up X 36 (X 8 l) (X 36 (X 8 l) + 1)) (W.oth (fun f i q => o1 f i (by omega))) (by rw [o1 _ _ (by decide)]; omega)
    refine ⟨Y, fun τ K v1 v2 v4 n hn => ?_, fun f i q => (i2 f i q).trans (o1 f i q), fun v => ?_⟩
    · obtain ⟨n, rfl⟩ := fu_one (by omega : 0 < n)
      unfold T_X3_busy_L71
      rw [ro_gf, if_neg (by rw [q_le (by omega) (by omega)]; omega), ro_ld (by omega) (by omega), ro_ld (by omega) (by omega), c1, nI_add, ro_sd (by omega) (by omega), e_vl, nI_add, i1 τ K v1 v2 v4 n (by omega), c1]
    · rw [i3, manyN_congr (Y := X) (fun l => o1 8 l (by decide))]
      show _ = X 36 v + ((if X 8 l = v then 1 else 0) + manyN X v r (l + 1))
      by_cases e : X 8 l = v
      · rw [if_pos e, e, up_at]; omega
      · rw [if_neg e, up_ne X (fun q => e q.2.symm)]; omega
theorem x3_fullL {what : Nat} (hw : what ≤ 1) (ht : ∀ v, v < 10 → X 36 v < 100000) : ∀ r v b n, v + r = 10 → b < 10 → r < n → T_X3_busy_L123 n (nI what) (nI b) (nI v) (Ro τ 13 X) = some (nI (if what = 0 then amx (X 36) r v b else X 36 (amx (X 36) r v b)), Ro τ 13 X) := by
  intro r
  induction r with
  | zero =>
    intro v b n h hb hn
    obtain ⟨n, rfl⟩ := fu_one hn
    unfold T_X3_busy_L123
    rw [c10, if_pos (by rw [q_le (by omega) (by omega)]; omega), ro_ld (by omega) (by omega), c0, i_eq (by omega) (by omega)]
    split <;> rfl
  | succ r ih =>
    intro v b n h hb hn
    obtain ⟨n, rfl⟩ := fu_one (by omega : 0 < n)
    have h1 := ht v (by omega)
    have h2 := ht b hb
    unfold T_X3_busy_L123 amx
    rw [c10, if_neg (by rw [q_le (by omega) (by omega)]; omega), ro_ld (by omega) (by omega), ro_ld (by omega) (by omega), i_le (by omega) (by omega)]
    simp only [e_vl, d1, nI_add]
    by_cases e : X 36 b < X 36 v
    · rw [if_neg (by omega), if_pos e]
      exact ih (v + 1) v n (by omega) (by omega) (by omega)
    · rw [if_pos (by omega), if_neg e]
      exact ih (v + 1) b n (by omega) hb (by omega)
theorem busy_loop {what m : Nat} (hw : what ≤ 1) (hm : m ≤ 60) : ∀ r k n t C X, SC D C X → C 18 0 = kN 9 → WF X → OS 180 S0 X → X 13 0 + r ≤ 5000 → k + r = m → r + 2 < n → (∀ v, v < 10 → t v = X 36 v ∧ t v ≤ 5 * k) → ∃ res t' C' F, cV (T_X2_tallyPlaces (Ro (tl G t, P) 2 C)) (fun σ => T_X2_busy_L32 n (nI m) (nI what) (nI (k + 1)) σ) = some (res, Ro (tl G t', P) 2 C') ∧ (∀ τ, T_X3_busy_L62 n (nI m) (nI what) (nI k) (Ro τ 13 X) = some (res, Ro τ 13 (gtS 2 F))) ∧ OS 180 S0 F := by
  intro r
  induction r with
  | zero =>
    intro k n t C X R ha W hO hh h hn ht
    obtain ⟨n, rfl⟩ := fu_one (by omega : 0 < n)
    obtain ⟨n2, rfl⟩ := fu_one (by omega : 0 < n)
    have h12 := W.nl
    obtain ⟨Y, i1, i2, i3⟩ := x3_tallyL (X 12 0) 0 X W (by omega)
    have WY := W.oth (Y := Y) (fun f i q => i2 f i (by omega))
    have hOY : OS 180 S0 Y := hO.any (fun g j q => i2 g j (by unfold NS at q; omega))
    have e36 : ∀ v, gtS 2 (hourS Y 9) 36 v = Y 36 v := fun v => by rw [gtS_oth (by omega) (by omega), hourS_keeps (by decide)]
    have tY : ∀ v, v < 10 → t v + many X v = gtS 2 (hourS Y 9) 36 v ∧ t v + many X v < 100000 := fun v hv => by
      have a := ht v hv
      have b := many_le (v := v) W
      rw [e36, i3, ← a.1]
      exact ⟨rfl, by omega⟩
    have hb := amx_lt (t := fun v => t v + many X v) (N := 10) 9 1 0 (by decide) (by decide)
    refine ⟨nI (if what = 0 then amx (fun v => t v + many X v) 9 1 0 else t (amx (fun v => t v + many X v) 9 1 0) + many X (amx (fun v => t v + many X v) 9 1 0)), (fun v => t v + many X v), C, hourS Y 9, ?_, fun τ => ?_, hOY.hour 9⟩
    · rw [x2_tally W R.sb t]
      simp only [e_cV]
      unfold T_X2_busy_L32
      rw [if_pos (by rw [q_lt (by omega) (by omega)]; omega), x2_full (fun v hv => (tY v hv).2)]
      simp only [e_cV]
      rw [c0, i_eq (by omega) (by omega), rx_ld (by decide) (by omega) (by omega)]
      show (if what = 0 then _ else some (nI (tl G (fun v => t v + many X v) 0 11 (amx (fun v => t v + many X v) 9 1 0)), _)) = _
      rw [tl_at hb]
      split <;> rfl
    · unfold T_X3_busy_L62
      rw [if_neg (by rw [q_lt (by omega) (by omega)]; omega), c0, i1 _ _ _ _ _ _ (FU_gt (by omega)), c0, x3_h WY (by rw [i2 13 0 (by decide)]; omega) hOY.2.2]
      simp only [e_cV, e_vl, d1, nI_add]
      unfold T_X3_busy_L62
      rw [if_pos (by rw [q_lt (by omega) (by omega)]; omega), x3_forgets]
      simp only [e_cV]
      rw [c0, c1, x3_fullL hw (fun v hv => by have := tY v hv; omega) 9 1 0 FU rfl (by decide) (FU_gt (by decide))]
      rw [amx_congr (t := gtS 2 (hourS Y 9) 36) (u := fun v => t v + many X v) (N := 10) (fun v hv => (tY v hv).1.symm) 9 1 0 (by decide) (by decide), (tY _ hb).1]
  | succ r ih =>
    intro k n t C X R ha W hO hh h hn ht
    obtain ⟨n, rfl⟩ := fu_one (by omega : 0 < n)
    have h12 := W.nl
    obtain ⟨Y, i1, i2, i3⟩ := x3_tallyL (X 12 0) 0 X W (by omega)
    have WY := W.oth (Y := Y) (fun f i q => i2 f i (by omega))
    have RY := R.oth (Y := Y) (fun f i q => i2 f i (by omega))
    have hOY : OS 180 S0 Y := hO.any (fun g j q => i2 g j (by unfold NS at q; omega))
    have y13 : Y 13 0 = X 13 0 := i2 13 0 (by decide)
    obtain ⟨C1, g1, g2, g3⟩ := x0_hour1 (τ := (tl G (fun v => t v + many X v), P)) (o := 2) (by decide : 9 ≤ 9) WY (by omega) RY ha
    obtain ⟨res, t', C', F, j1, j2, j3⟩ := ih (k + 1) n (fun v => t v + many X v) C1 (hourS Y 9) g2 g3 (WY.hour 9) (hOY.hour 9) (by rw [hourS_13]; omega) (by omega) (by omega) (fun v hv => by
      have a := ht v hv
      have b := many_le (v := v) W
      rw [hourS_keeps (by decide), i3, ← a.1]
      exact ⟨rfl, by omega⟩)
    refine ⟨res, t', C', F, ?_, fun τ => ?_, j3⟩
    · rw [x2_tally W R.sb t]
      simp only [e_cV]
      unfold T_X2_busy_L32
      rw [if_neg (by rw [q_lt (by omega) (by omega)]; omega), c1, g1]
      simp only [e_cV, e_vl, nI_add]
      exact j1
    · unfold T_X3_busy_L62
      rw [if_neg (by rw [q_lt (by omega) (by omega)]; omega), c0, i1 _ _ _ _ _ _ (FU_gt (by omega)), c0, x3_h WY (by omega) hOY.2.2]
      simp only [e_cV, e_vl, d1, nI_add]
      exact j2 τ
theorem x3_zeroO {what m : Nat} : ∀ r v n X, v + r = 10 → r < n → ∃ Y, (∀ τ, T_X3_busy_L34 n (nI m) (nI what) (nI v) (Ro τ 13 X) = cV (T_X3_thinks (Ro τ 13 Y)) (fun σ2 => T_X3_busy_L62 FU (nI m) (nI what) 0 σ2)) ∧ (∀ f i, f ≠ 36 → Y f i = X f i) ∧ (∀ j, j < v → Y 36 j = X 36 j) ∧ (∀ j, v ≤ j → j < 10 → Y 36 j = 0) := by
  intro r
  induction r with
  | zero =>
    intro v n X h hn
    obtain ⟨n, rfl⟩ := fu_one hn
    refine ⟨X, fun τ => ?_, fun _ _ _ => rfl, fun _ _ => rfl, fun j h1 h2 => by omega⟩
    unfold T_X3_busy_L34
    rw [c10, if_pos (by rw [q_le (by omega) (by omega)]; omega)]
  | succ r ih =>
    intro v n X h hn
    obtain ⟨n, rfl⟩ := fu_one (by omega : 0 < n)
    obtain ⟨Y, i1, i2, i3, i4⟩ := ih (v + 1) n (up X 36 v 0) (by omega) (by omega)
    refine ⟨Y, fun τ => ?_, fun f i q => (i2 f i q).trans (up_ne _ (fun z => q z.1)), fun j hj => ?_, fun j h1 h2 => ?_⟩
    · unfold T_X3_busy_L34
      rw [c10, if_neg (by rw [q_le (by omega) (by omega)]; omega), c0, ro_sd (by omega) (by omega), e_vl, c1, nI_add, i1 τ, c0]
    · rw [i3 j (by omega), up_ne _ (by omega)]
    · by_cases e : j = v
      · rw [i3 j (by omega), e, up_at]
      · exact i4 j (by omega) h2
theorem ok_busy (J : Inv G P) (a0 a1 : Int32) : OKm G P (T_X2_busy a0 a1) (T_X3_busy a0 a1) := by
  have K := J.tk
  rcases chk_hours a0 with ⟨n, hn, rfl, e3, e4⟩ | ⟨k, hk, e3, e4⟩
  · rcases x2_hw n 1 hn a1 (by decide) with ⟨x, hx, rfl, e5, e6⟩ | ⟨e5, e6⟩
    · obtain ⟨Y, y1, y2, -, y4⟩ := x3_zeroO (what := x) (m := n) 10 0 FU (G 13) rfl (FU_gt (by decide))
      have kY : KR 180 (G 13) Y := ⟨fun f i q => y2 f i (by have := q.2.1; omega), ⟨fun g j q => y2 g j (by unfold NS at q; omega), fun j _ => y2 _ _ (by decide), by rw [y2 _ _ (by decide)]; exact K.2.2⟩⟩
      have KY := kY.tk K
      have K2 := KY.keep (w := 2)
      have h13 := K2.2.1
      obtain ⟨C1, t1, t2⟩ := x2_think2 (G := G) (P := P) (G 2)
      have R1 := t2.sc K2.1 ((kY.1.trans Eqs.keep).sb K.1 J.sb)
      obtain ⟨res, t', C', F, j1, j2, j3⟩ := busy_loop (G := G) (P := P) (S0 := kpS 2 Y) hx hn n 0 FU (fun _ => 0) C1 (kpS 2 Y) R1 t2.2.2.2.2.2 K2.1 (OS.keep KY.2.2) (by omega) (by omega) (FU_gt (by omega)) (fun v hv => ⟨by rw [kpS_oth (by decide), y4 v (Nat.zero_le _) hv], Nat.zero_le _⟩)
      refine ok_qt (t := t') (r := res) (C := C') J ?_ (fun τ => ⟨_, ?_, (kY.mono (by decide)).trans ((KR.think KY.2.2 j3).mono (by decide))⟩)
      · unfold T_X2_busy
        simp only [d1, e5, t1, x2_start, e_cV, d0, eq00, eq10, if_true, if_false]
        exact j1
      · have := y1 τ
        unfold T_X3_busy T_X3_busy_j21
        simp only [d0, d1, e4, e6, e_cV, eq00, eq10, if_true, if_false]
        rw [this, x3_thinks]
        simp only [e_cV]
        rw [c0]
        exact j2 τ
    · refine ok_ref 2 J (by decide) ?_ (fun τ => ?_)
      · unfold T_X2_busy
        simp only [d1, e5, e_cV, d0, (neg_ok 2 (by omega) (by omega)).2.1, if_false, cI_id]
      · unfold T_X3_busy T_X3_busy_j21
        simp only [d1, e4, e6, e_cV, d0, d2, eq00, if_true, (neg_ok 2 (by omega) (by omega)).2.1, if_false, cI_id]
  · refine ok_ref k J (by omega) ?_ (fun τ => ?_)
    · unfold T_X2_busy
      simp only [d1, x2_hwBad hk e3, e_cV, d0, (neg_ok k (by omega) (by omega)).2.1, if_false, cI_id]
    · unfold T_X3_busy T_X3_busy_j21
      simp only [e4, e_cV, d0, (neg_ok k (by omega) (by omega)).2.1, if_false, cI_id]
end Q5
