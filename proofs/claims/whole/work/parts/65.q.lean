/-! held hours of bags that nobody has don't matter -/
/-- X, but for the held hours of bags that nobody has -/
def hx (h : Nat → Nat) (X : SS) : SS := fun f i => if f = 5 ∧ who X i = 9 then h i else X f i
section Hx
variable {C A S F X Y Z D S0 : SS} {τ : TT} {h : Nat → Nat}
theorem hx_ne {f i : Nat} (hf : f ≠ 5) : hx h X f i = X f i := if_neg (fun q => hf q.1)
theorem hx_had {i : Nat} (hi : who X i ≠ 9) : hx h X 5 i = X 5 i := if_neg (fun q => hi q.2)
theorem hx_who (b : Nat) : who (hx h X) b = who X b := who_congr (fun i => hx_ne (by decide)) (hx_ne (by decide))
theorem hx_up {f i v : Nat} (h9 : f ≠ 9) (h12 : f ≠ 12) (h5 : ¬ (f = 5 ∧ who X i = 9)) : hx h (up X f i v) = up (hx h X) f i v := by
  funext g j
  have ew : who (up X f i v) j = who X j := who_up h9 h12
  unfold hx
  rw [ew]
  by_cases e : g = f ∧ j = i
  · rw [e.1, e.2, if_neg h5, up_at, up_at]
  · rw [up_ne _ e, up_ne _ e]
theorem own_had (W : WF X) {l : Nat} (hl : l < X 12 0) (h9 : X 9 l ≠ 9) : who X (X 9 l) ≠ 9 := by
  have h12 := W.nl
  rw [who_eq W h9 hl rfl]
  omega
theorem hx_pull {b : Nat} (hb : who X b ≠ 9) : pull (hx h X) b = pull X b := by
  unfold pull
  simp only [hx_had hb, hx_who, hx_ne (show (1 : Nat) ≠ 5 by decide), hx_ne (show (2 : Nat) ≠ 5 by decide), hx_ne (show (4 : Nat) ≠ 5 by decide)]
theorem hx_goal {b w : Nat} : goal (hx h X) b w = goal X b w := by
  unfold goal
  simp only [hx_who, hx_ne (show (1 : Nat) ≠ 5 by decide), hx_ne (show (14 : Nat) ≠ 5 by decide), hx_ne (show (13 : Nat) ≠ 5 by decide), hx_ne (show (4 : Nat) ≠ 5 by decide), hx_ne (show (8 : Nat) ≠ 5 by decide), hx_ne (show (3 : Nat) ≠ 5 by decide)]
theorem hx_led (W : WF X) {l : Nat} (hl : l < X 12 0) : led (hx h X) l ↔ led X l := by
  unfold led
  rw [hx_ne (by decide), hx_ne (by decide)]
  constructor
  · intro q
    have := q.2
    rw [hx_pull (own_had W hl (by omega))] at this
    exact ⟨q.1, this⟩
  · intro q
    rw [hx_pull (own_had W hl (by omega))]
    exact q
theorem hx_step {l g : Nat} : stepG (hx h X) l g = hx h (stepG X l g) := by
  unfold stepG
  rw [hx_ne (by decide)]
  split
  · rfl
  · rw [hx_up (by decide) (by decide) (by omega), hx_up (by decide) (by decide) (by omega), hx_ne (by decide)]
theorem hx_goLed {l : Nat} : goLed (hx h X) l = hx h (goLed X l) := by
  unfold goLed
  rw [hx_ne (by decide), hx_ne (by decide), hx_ne (by decide), hx_goal, hx_step, hx_step]
  split <;> rfl
theorem hx_one (W : WF X) {l : Nat} {z : Bool} (hl : l < X 12 0) : one (hx h X) l z = hx h (one X l z) := by
  unfold one
  rw [hx_ne (f := 10) (by decide), hx_ne (f := 28) (by decide)]
  by_cases e : X 10 l = 0
  · rw [if_pos e, if_pos e, hx_up (by decide) (by decide) (by omega), hx_up (by decide) (by decide) (by omega)]
  · rw [if_neg e, if_neg e]
    by_cases q : led X l ∧ z = false
    · rw [if_pos q, if_pos ⟨(hx_led W hl).mpr q.1, q.2⟩, hx_ne (f := 27) (by decide), ← hx_up (by decide) (by decide) (by omega), hx_goLed]
    · rw [if_neg q, if_neg (fun y => q ⟨(hx_led W hl).mp y.1, y.2⟩)]
      unfold oneN
      rw [hx_ne (by decide), hx_ne (by decide), hx_ne (by decide), hx_up (by decide) (by decide) (by omega), hx_up (by decide) (by decide) (by omega)]
theorem hx_allOne {z : Nat} : ∀ r X l, WF X → l + r = X 12 0 → allOne (hx h X) z r l = hx h (allOne X z r l)
  | 0, X, l, _, _ => rfl
  | r + 1, X, l, W, e => by
    show allOne (one (hx h X) l (decide (l = z))) z r (l + 1) = hx h (allOne (one X l (decide (l = z))) z r (l + 1))
    rw [hx_one W (by omega)]
    exact hx_allOne r _ (l + 1) (W.one (by omega)) (by rw [one_keeps (by decide)]; omega)
theorem hx_grow (W : WF X) {l : Nat} (hl : l < X 12 0) : growOne (hx h X) l = hx h (growOne X l) := by
  unfold growOne
  rw [hx_ne (by decide)]
  by_cases e : X 9 l = 9
  · rw [if_pos e, if_pos e]
  · have ho := own_had W hl e
    have h5 : ¬ ((5 : Nat) = 5 ∧ who X (X 9 l) = 9) := fun q => ho q.2
    rw [if_neg e, if_neg e]
    dsimp only
    rw [hx_had ho, ← hx_up (by decide) (by decide) h5, hx_ne (by decide), hx_ne (by decide), hx_ne (by decide), hx_ne (by decide), ← hx_up (by decide) (by decide) (by omega)]
theorem hx_allGrow : ∀ r X l, WF X → l + r = X 12 0 → allGrow (hx h X) r l = hx h (allGrow X r l)
  | 0, X, l, _, _ => rfl
  | r + 1, X, l, W, e => by
    show allGrow (growOne (hx h X) l) r (l + 1) = hx h (allGrow (growOne X l) r (l + 1))
    rw [hx_grow W (by omega)]
    exact hx_allGrow r _ (l + 1) (W.grow (by omega)) (by rw [grow_keeps (by decide)]; omega)
theorem hx_hour (W : WF X) : hourS (hx h X) 9 = hx h (hourS X 9) := by
  show allGrow (allOne (up (hx h X) 13 0 (hx h X 13 0 + 1)) 9 (hx h X 12 0) 0) (allOne (up (hx h X) 13 0 (hx h X 13 0 + 1)) 9 (hx h X 12 0) 0 12 0) 0 = hx h (allGrow (allOne (up X 13 0 (X 13 0 + 1)) 9 (X 12 0) 0) (allOne (up X 13 0 (X 13 0 + 1)) 9 (X 12 0) 0 12 0) 0)
  have W1 : WF (up X 13 0 (X 13 0 + 1)) := W.up13
  have W2 := WF.allOne (z := 9) (X 12 0) (up X 13 0 (X 13 0 + 1)) 0 W1 (by rw [up_ne _ (by omega)]; omega)
  rw [hx_ne (by decide), hx_ne (by decide), ← hx_up (by decide) (by decide) (by omega), hx_allOne _ _ _ W1 (by rw [up_ne _ (by omega)]; omega), hx_ne (by decide), hx_allGrow _ _ _ W2 (by omega)]
theorem WF.hx0 (W : WF X) : WF (hx (fun _ => 0) X) := by
  refine W.same (fun f i _ _ h5 _ => hx_ne h5) (fun l hl => ?_) (fun l hl => ?_) (fun b hb => ?_)
  · rw [hx_ne (by decide)]; exact (W.bea hl).2.2.1
  · rw [hx_ne (by decide)]; exact (W.bea hl).2.2.2.2
  · by_cases e : who X b = 9
    · show (if 5 = 5 ∧ who X b = 9 then 0 else X 5 b) ≤ 99
      rw [if_pos ⟨rfl, e⟩]; omega
    · rw [hx_had e]; exact (W.bag hb).2.2.2.2
/-- the meeting, thought from X -/
abbrev pM (a b : Nat) : SS → Bool := fun X => decide (X 8 a = X 8 b)
theorem fM_hx {a b : Nat} : ∀ r k X, WF X → firstN (pM a b) r k (hx h X) = firstN (pM a b) r k X
  | 0, k, X, _ => rfl
  | r + 1, k, X, W => by
    show (if decide (hx h X 8 a = hx h X 8 b) = true then k else firstN (pM a b) r (k + 1) (hourS (hx h X) 9)) = if decide (X 8 a = X 8 b) = true then k else firstN (pM a b) r (k + 1) (hourS X 9)
    rw [hx_ne (by decide), hx_ne (by decide), hx_hour W, fM_hx r (k + 1) _ (W.hour 9)]
theorem run_hx : ∀ r X, WF X → runS (hx h X) r = hx h (runS X r)
  | 0, X, _ => rfl
  | r + 1, X, W => by
    show runS (hourS (hx h X) 9) r = hx h (runS (hourS X 9) r)
    rw [hx_hour W, run_hx r _ (W.hour 9)]
theorem fM_str {a b : Nat} : ∀ r k X Y, Str X Y → WF X → WF Y → a < X 12 0 → b < X 12 0 → X 13 0 + r < 900000 → firstN (pM a b) r k Y = firstN (pM a b) r k X
  | 0, k, X, Y, _, _, _, _, _, _ => rfl
  | r + 1, k, X, Y, h, WX, WY, ha, hb, hh => by
    show (if decide (Y 8 a = Y 8 b) = true then k else firstN (pM a b) r (k + 1) (hourS Y 9)) = if decide (X 8 a = X 8 b) = true then k else firstN (pM a b) r (k + 1) (hourS X 9)
    rw [(h.2.2.2.2.2 a ha).2.2.1, (h.2.2.2.2.2 b hb).2.2.1, fM_str r (k + 1) (hourS X 9) (hourS Y 9) (h.hour WX WY (by omega)) (WX.hour 9) (WY.hour 9) (by rw [hourS_keeps (by decide)]; exact ha) (by rw [hourS_keeps (by decide)]; exact hb) (by rw [hourS_13]; omega)]
/-- hours led go alike, too -/
theorem str_27 (h : Str X Y) (WX : WF X) (WY : WF Y) (hh : X 13 0 < 900000) {l : Nat} (hl : l < X 12 0) (e : Y 27 l = X 27 l) : hourS Y 9 27 l = hourS X 9 27 l := by
  have e13 := h.2.2.1
  have h12 := WX.nl
  obtain ⟨C1, a1, a2, a3⟩ := x0_hour1 (τ := (fun _ _ _ => 0, fun _ => 0)) (o := 2) (by decide : 9 ≤ 9) WX (by omega) (can_t0.sc can_sb) can_t0.2
  obtain ⟨C2, b1, b2, b3⟩ := x0_hour1 (τ := (fun _ _ _ => 0, fun _ => 0)) (o := 2) (by decide : 9 ≤ 9) WY (by omega) (can_t0.sc (h.sb can_sb)) can_t0.2
  have e2 : Ro (fun _ _ _ => 0, fun _ => 0) 2 C1 = Ro (fun _ _ _ => 0, fun _ => 0) 2 C2 := Option.some.inj (a1.symm.trans b1)
  have ee : nI (C1 15 l) = nI (C2 15 l) := by
    have := congrFun (congrFun (congrFun (congrArg Prod.fst e2) 2) 15) l
    change nI (wo _ 2 C1 2 15 l) = nI (wo _ 2 C2 2 15 l) at this
    rw [wo_at, wo_at] at this
    exact this
  have q1 := (a2.2.2.2.1 l (by omega)).1
  have q2 := (b2.2.2.2.1 l (by omega)).1
  have u1 := hour_27 (S := X) (z := 9) (i := l)
  have u2 := hour_27 (S := Y) (z := 9) (i := l)
  rw [q_eq (by omega) (by omega)] at ee
  omega
theorem run_str : ∀ r X Y, Str X Y → WF X → WF Y → X 13 0 + r < 900000 → (∀ l, l < X 12 0 → Y 27 l = X 27 l) → ∀ l, l < X 12 0 → runS Y r 27 l = runS X r 27 l
  | 0, X, Y, _, _, _, _, e, l, hl => e l hl
  | r + 1, X, Y, h, WX, WY, hh, e, l, hl => by
    show runS (hourS Y 9) r 27 l = runS (hourS X 9) r 27 l
    exact run_str r (hourS X 9) (hourS Y 9) (h.hour WX WY (by omega)) (WX.hour 9) (WY.hour 9) (by rw [hourS_13]; omega) (fun k hk => by
      rw [hourS_keeps (by decide)] at hk
      exact str_27 h WX WY (by omega) hk (e k hk)) l (by rw [hourS_keeps (by decide)]; exact hl)
end Hx
