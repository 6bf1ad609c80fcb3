theorem ck_L_7 : Cond.classLink RL 7 RX2 ∈ lw_gd := (in_gd (List.mem_of_getElem? (i := 8) (by decide +kernel)) rfl)
theorem ck_L_10 : Cond.classLink RL 10 RX3 ∈ lw_gd := (in_gd (List.mem_of_getElem? (i := 684) (by decide +kernel)) rfl)
theorem mi_L_9 : ML RL 9 yX2_init := Or.inl (in_gd (List.mem_of_getElem? (i := 10) (by decide +kernel)) rfl)
theorem mi_L_12 : ML RL 12 yX3_init := Or.inl (in_gd (List.mem_of_getElem? (i := 686) (by decide +kernel)) rfl)
def st0 : ST := (fun o k i => if o = 13 then (if k = 30 ∧ i = 0 then 9 else 0) else if (1 ≤ o ∧ o ≤ 11) ∧ (k = 18 ∧ i = 0) then (-9) else 0, fun i => 4 + i)
theorem c_astore_n {y : LY} {l : Launch} {E : ET} {nL : Nat} {Q : State → Prop} {pc : Nat} {lv : List (Nat × Value)} {st : List Value} {cc : ByteArray} {own : String} {rm : Room} {ws : List va_E} {ce sl : Nat} {k0 : Fin 4} {j0 x : Nat} {lv' : List (Nat × Value)} (X : CX y l E cc nL own rm) (hd : decode cc pc = .ok (.astore_n k0, 1)) (hi : (k0 : Nat) = j0) (hn : j0 < nL) (hl' : (j0, Value.ref x) :: lv.filter (fun q => !(q.1 == j0) && !(q.1 + 1 == j0 && q.2.category == 2)) = lv') (k : WC y l E nL Q (pc + 1) lv' st ws ce sl) : WC y l E nL Q pc lv (.ref x :: st) ws ce sl :=
  fun H locs ls hH hS hl => lv_astore_n X.1 X.2.1 hd hi hl hn hl' (fun ls' hl2 => k H locs ls' hH hS hl2)
theorem hlW_len (y : LY) : (hlW y).length = 163 := by
  show (OB1 _ _ _ _ _).length = 163
  rw [OB1.len]
  simp only [List.length_append, List.length_cons, hlA_len, hlC_len, hlS_len, List.length_nil]
def wsF (y : LY) : List va_E := OB1 (hlW y ++ [.inr (3, moB)]) 163 3 (moF y.1 164) (moA y.2.2.2.1)
def flF (y : LY) : List va_E := [.inr (2, hlF y), .inr (0, stF y.1 2), .inl (y.2.2.2.1, 6, .inl (fun _ => 0)), .inl (y.2.2.2.1, 6, .inl (fun _ => 0)), .inl (y.2.2.2.1, 6, .inl (fun _ => 0)), .inl (y.2.2.2.1, 6, .inl (fun _ => 0)), .inl (y.2.2.2.1, 6, .inl (fun _ => 0)), .inl (y.2.2.2.1, 6, .inl (fun _ => 0)), .inl (y.2.2.2.1, 5, .inl (fun _ => 0)), .inl (y.2.2.2.1, 5, .inl (fun _ => 0)), .inl (y.2.2.2.1, 5, .inl (fun _ => 0)), .inl (y.2.2.2.1, 5, .inl (fun _ => 0)), .inl (y.2.2.2.1, 5, .inl (fun _ => 0)), .inl (y.2.2.2.1, 5, .inl (fun _ => 0)), .inl (y.2.2.2.1, 5, .inl (fun _ => 0)), .inr (0, stF y.1 16), .inl (y.2.2.2.1, 6, .inl (fun _ => 0)), .inl (y.2.2.2.1, 6, .inl (fun _ => 0)), .inl (y.2.2.2.1, 6, .inl (fun _ => 0)), .inl (y.2.2.2.1, 6, .inl (fun _ => 0)), .inl (y.2.2.2.1, 6, .inl (fun _ => 0)), .inl (y.2.2.2.1, 6, .inl (fun _ => 0)), .inl (y.2.2.2.1, 5, .inl (fun _ => 0)), .inl (y.2.2.2.1, 5, .inl (fun _ => 0)), .inl (y.2.2.2.1, 5, .inl (fun _ => 0)), .inl (y.2.2.2.1, 5, .inl (fun _ => 0)), .inl (y.2.2.2.1, 5, .inl (fun _ => 0)), .inl (y.2.2.2.1, 5, .inl (fun _ => 0)), .inl (y.2.2.2.1, 5, .inl (fun _ => 0)), .inr (0, stF y.1 30), .inl (y.2.2.2.1, 6, .inl (fun _ => 0)), .inl (y.2.2.2.1, 6, .inl (fun _ => 0)), .inl (y.2.2.2.1, 6, .inl (fun _ => 0)), .inl (y.2.2.2.1, 6, .inl (fun _ => 0)), .inl (y.2.2.2.1, 6, .inl (fun _ => 0)), .inl (y.2.2.2.1, 6, .inl (fun _ => 0)), .inl (y.2.2.2.1, 5, .inl (fun _ => 0)), .inl (y.2.2.2.1, 5, .inl (fun _ => 0)), .inl (y.2.2.2.1, 5, .inl (fun _ => 0)), .inl (y.2.2.2.1, 5, .inl (fun _ => 0)), .inl (y.2.2.2.1, 5, .inl (fun _ => 0)), .inl (y.2.2.2.1, 5, .inl (fun _ => 0)), .inl (y.2.2.2.1, 5, .inl (fun _ => 0)), .inl (y.2.2.2.2, 8, .inr (.inr (.inr (.inr (hlR y 8))))), .inl (y.2.2.2.1, 96, .inl (fun _ => 0)), .inl (y.2.2.2.1, 12, .inl (fun _ => 0)), .inl (y.2.2.2.1, 7, .inl (fun _ => 0)), .inl (y.2.2.2.1, 10, .inl (fun _ => 0)), .inr (1, wyF y.1 49), .inl (y.2.2.2.1, 4, .inl (fun _ => 0)), .inl (y.2.2.2.1, 4, .inl (fun _ => 0)), .inr (0, stF y.1 52), .inl (y.2.2.2.1, 6, .inl (fun _ => 0)), .inl (y.2.2.2.1, 6, .inl (fun _ => 0)), .inl (y.2.2.2.1, 6, .inl (fun _ => 0)), .inl (y.2.2.2.1, 6, .inl (fun _ => 0)), .inl (y.2.2.2.1, 6, .inl (fun _ => 0)), .inl (y.2.2.2.1, 6, .inl (fun _ => 0)), .inl (y.2.2.2.1, 5, .inl (fun _ => 0)), .inl (y.2.2.2.1, 5, .inl (fun _ => 0)), .inl (y.2.2.2.1, 5, .inl (fun _ => 0)), .inl (y.2.2.2.1, 5, .inl (fun _ => 0)), .inl (y.2.2.2.1, 5, .inl (fun _ => 0)), .inl (y.2.2.2.1, 5, .inl (fun _ => 0)), .inl (y.2.2.2.1, 5, .inl (fun _ => 0)), .inr (0, stF y.1 66), .inl (y.2.2.2.1, 6, .inl (fun _ => 0)), .inl (y.2.2.2.1, 6, .inl (fun _ => 0)), .inl (y.2.2.2.1, 6, .inl (fun _ => 0)), .inl (y.2.2.2.1, 6, .inl (fun _ => 0)), .inl (y.2.2.2.1, 6, .inl (fun _ => 0)), .inl (y.2.2.2.1, 6, .inl (fun _ => 0)), .inl (y.2.2.2.1, 5, .inl (fun _ => 0)), .inl (y.2.2.2.1, 5, .inl (fun _ => 0)), .inl (y.2.2.2.1, 5, .inl (fun _ => 0)), .inl (y.2.2.2.1, 5, .inl (fun _ => 0)), .inl (y.2.2.2.1, 5, .inl (fun _ => 0)), .inl (y.2.2.2.1, 5, .inl (fun _ => 0)), .inl (y.2.2.2.1, 5, .inl (fun _ => 0)), .inr (0, stF y.1 80), .inl (y.2.2.2.1, 6, .inl (fun _ => 0)), .inl (y.2.2.2.1, 6, .inl (fun _ => 0)), .inl (y.2.2.2.1, 6, .inl (fun _ => 0)), .inl (y.2.2.2.1, 6, .inl (fun _ => 0)), .inl (y.2.2.2.1, 6, .inl (fun _ => 0)), .inl (y.2.2.2.1, 6, .inl (fun _ => 0)), .inl (y.2.2.2.1, 5, .inl (fun _ => 0)), .inl (y.2.2.2.1, 5, .inl (fun _ => 0)), .inl (y.2.2.2.1, 5, .inl (fun _ => 0)), .inl (y.2.2.2.1, 5, .inl (fun _ => 0)), .inl (y.2.2.2.1, 5, .inl (fun _ => 0)), .inl (y.2.2.2.1, 5, .inl (fun _ => 0)), .inl (y.2.2.2.1, 5, .inl (fun _ => 0)), .inr (0, stF y.1 94), .inl (y.2.2.2.1, 6, .inl (fun _ => 0)), .inl (y.2.2.2.1, 6, .inl (fun _ => 0)), .inl (y.2.2.2.1, 6, .inl (fun _ => 0)), .inl (y.2.2.2.1, 6, .inl (fun _ => 0)), .inl (y.2.2.2.1, 6, .inl (fun _ => 0)), .inl (y.2.2.2.1, 6, .inl (fun _ => 0)), .inl (y.2.2.2.1, 5, .inl (fun _ => 0)), .inl (y.2.2.2.1, 5, .inl (fun _ => 0)), .inl (y.2.2.2.1, 5, .inl (fun _ => 0)), .inl (y.2.2.2.1, 5, .inl (fun _ => 0)), .inl (y.2.2.2.1, 5, .inl (fun _ => 0)), .inl (y.2.2.2.1, 5, .inl (fun _ => 0)), .inl (y.2.2.2.1, 5, .inl (fun _ => 0)), .inr (0, stF y.1 108), .inl (y.2.2.2.1, 6, .inl (fun _ => 0)), .inl (y.2.2.2.1, 6, .inl (fun _ => 0)), .inl (y.2.2.2.1, 6, .inl (fun _ => 0)), .inl (y.2.2.2.1, 6, .inl (fun _ => 0)), .inl (y.2.2.2.1, 6, .inl (fun _ => 0)), .inl (y.2.2.2.1, 6, .inl (fun _ => 0)), .inl (y.2.2.2.1, 5, .inl (fun _ => 0)), .inl (y.2.2.2.1, 5, .inl (fun _ => 0)), .inl (y.2.2.2.1, 5, .inl (fun _ => 0)), .inl (y.2.2.2.1, 5, .inl (fun _ => 0)), .inl (y.2.2.2.1, 5, .inl (fun _ => 0)), .inl (y.2.2.2.1, 5, .inl (fun _ => 0)), .inl (y.2.2.2.1, 5, .inl (fun _ => 0)), .inr (0, stF y.1 122), .inl (y.2.2.2.1, 6, .inl (fun _ => 0)), .inl (y.2.2.2.1, 6, .inl (fun _ => 0)), .inl (y.2.2.2.1, 6, .inl (fun _ => 0)), .inl (y.2.2.2.1, 6, .inl (fun _ => 0)), .inl (y.2.2.2.1, 6, .inl (fun _ => 0)), .inl (y.2.2.2.1, 6, .inl (fun _ => 0)), .inl (y.2.2.2.1, 5, .inl (fun _ => 0)), .inl (y.2.2.2.1, 5, .inl (fun _ => 0)), .inl (y.2.2.2.1, 5, .inl (fun _ => 0)), .inl (y.2.2.2.1, 5, .inl (fun _ => 0)), .inl (y.2.2.2.1, 5, .inl (fun _ => 0)), .inl (y.2.2.2.1, 5, .inl (fun _ => 0)), .inl (y.2.2.2.1, 5, .inl (fun _ => 0)), .inr (0, stF y.1 136), .inl (y.2.2.2.1, 6, .inl (fun _ => 0)), .inl (y.2.2.2.1, 6, .inl (fun _ => 0)), .inl (y.2.2.2.1, 6, .inl (fun _ => 0)), .inl (y.2.2.2.1, 6, .inl (fun _ => 0)), .inl (y.2.2.2.1, 6, .inl (fun _ => 0)), .inl (y.2.2.2.1, 6, .inl (fun _ => 0)), .inl (y.2.2.2.1, 5, .inl (fun _ => 0)), .inl (y.2.2.2.1, 5, .inl (fun _ => 0)), .inl (y.2.2.2.1, 5, .inl (fun _ => 0)), .inl (y.2.2.2.1, 5, .inl (fun _ => 0)), .inl (y.2.2.2.1, 5, .inl (fun _ => 0)), .inl (y.2.2.2.1, 5, .inl (fun _ => 0)), .inl (y.2.2.2.1, 5, .inl (fun _ => 0)), .inr (0, stF y.1 150), .inl (y.2.2.2.1, 6, .inl (fun _ => 0)), .inl (y.2.2.2.1, 6, .inl (fun _ => 0)), .inl (y.2.2.2.1, 6, .inl (fun _ => 0)), .inl (y.2.2.2.1, 6, .inl (fun _ => 0)), .inl (y.2.2.2.1, 6, .inl (fun _ => 0)), .inl (y.2.2.2.1, 6, .inl (fun _ => 0)), .inl (y.2.2.2.1, 5, .inl (fun _ => 0)), .inl (y.2.2.2.1, 5, .inl (fun _ => 0)), .inl (y.2.2.2.1, 5, .inl (fun _ => 0)), .inl (y.2.2.2.1, 5, .inl (fun _ => 0)), .inl (y.2.2.2.1, 5, .inl (fun _ => 0)), .inl (y.2.2.2.1, 5, .inl (fun _ => 0)), .inl (y.2.2.2.1, 5, .inl (fun _ => 0)), .inr (3, moF y.1 164), .inl (y.2.2.2.1, 7, .inl (fun _ => 0)), .inl (y.2.2.2.1, 6, .inl (fun _ => 0)), .inl (y.2.2.2.1, 6, .inl (fun _ => 0)), .inl (y.2.2.2.1, 6, .inl (fun _ => 0)), .inl (y.2.2.2.1, 6, .inl (fun _ => 0)), .inl (y.2.2.2.1, 6, .inl (fun _ => 0)), .inl (y.2.2.2.1, 5, .inl (fun _ => 0)), .inl (y.2.2.2.1, 5, .inl (fun _ => 0)), .inl (y.2.2.2.1, 5, .inl (fun _ => 0)), .inl (y.2.2.2.1, 5, .inl (fun _ => 0)), .inl (y.2.2.2.1, 5, .inl (fun _ => 0)), .inl (y.2.2.2.1, 96, .inl (fun _ => 0)), .inl (y.2.2.2.1, 48, .inl (fun _ => 0)), .inl (y.2.2.2.1, 48, .inl (fun _ => 0)), .inl (y.2.2.2.1, 144, .inl (fun _ => 0)), .inl (y.2.2.2.1, 660, .inl (fun _ => 0)), .inl (y.2.2.2.1, 5, .inl (fun _ => 0)), .inl (y.2.2.2.1, 5, .inl (fun _ => 0)), .inl (y.2.2.2.1, 5, .inl (fun _ => 0)), .inl (y.2.2.2.1, 6, .inl (fun _ => 0)), .inl (y.2.2.2.1, 12, .inl (fun _ => 0)), .inl (y.2.2.2.1, 10, .inl (fun _ => 0)), .inl (y.2.2.2.1, 64, .inl (fun _ => 0))]
set_option maxRecDepth 100000 in
set_option maxHeartbeats 4000000 in
theorem flF_eq (y : LY) : wsF y = flF y := rfl
set_option maxRecDepth 100000 in
theorem hr_o0 {y : LY} {H : Heap} (h : CP y (wsF y) H) : t_OB (ad y 0) (y.2.1 (co 0)) (NF (co 0)) (y.2.2.1 (co 0)) H (fv y st0 0) := by
  obtain ⟨r, hr, ht⟩ := h.2 0 (.inr (2, hlF y)) (by rw [flF_eq]; rfl)
  cases hr
  exact ht.to (fun k hk => match k, (show k < 13 from hk) with
    | 0, _ => rfl
    | 1, _ => rfl
    | 2, _ => rfl
    | 3, _ => rfl
    | 4, _ => rfl
    | 5, _ => rfl
    | 6, _ => rfl
    | 7, _ => rfl
    | 8, _ => rfl
    | 9, _ => rfl
    | 10, _ => rfl
    | 11, _ => rfl
    | 12, _ => rfl
    | k + 13, h => absurd h (by omega))
set_option maxRecDepth 100000 in
theorem hr_o1 {y : LY} {H : Heap} (h : CP y (wsF y) H) : t_OB (ad y 1) (y.2.1 (co 1)) (NF (co 1)) (y.2.2.1 (co 1)) H (fv y st0 1) := by
  obtain ⟨r, hr, ht⟩ := h.2 1 (.inr (0, stF y.1 2)) (by rw [flF_eq]; rfl)
  cases hr
  exact ht.to (fun k hk => match k, (show k < 19 from hk) with
    | 0, _ => rfl
    | 1, _ => rfl
    | 2, _ => rfl
    | 3, _ => rfl
    | 4, _ => rfl
    | 5, _ => rfl
    | 6, _ => rfl
    | 7, _ => rfl
    | 8, _ => rfl
    | 9, _ => rfl
    | 10, _ => rfl
    | 11, _ => rfl
    | 12, _ => rfl
    | 13, _ => rfl
    | 14, _ => rfl
    | 15, _ => rfl
    | 16, _ => rfl
    | 17, _ => rfl
    | 18, _ => rfl
    | k + 19, h => absurd h (by omega))
set_option maxRecDepth 100000 in
theorem hr_o2 {y : LY} {H : Heap} (h : CP y (wsF y) H) : t_OB (ad y 2) (y.2.1 (co 2)) (NF (co 2)) (y.2.2.1 (co 2)) H (fv y st0 2) := by
  obtain ⟨r, hr, ht⟩ := h.2 15 (.inr (0, stF y.1 16)) (by rw [flF_eq]; rfl)
  cases hr
  exact ht.to (fun k hk => match k, (show k < 19 from hk) with
    | 0, _ => rfl
    | 1, _ => rfl
    | 2, _ => rfl
    | 3, _ => rfl
    | 4, _ => rfl
    | 5, _ => rfl
    | 6, _ => rfl
    | 7, _ => rfl
    | 8, _ => rfl
    | 9, _ => rfl
    | 10, _ => rfl
    | 11, _ => rfl
    | 12, _ => rfl
    | 13, _ => rfl
    | 14, _ => rfl
    | 15, _ => rfl
    | 16, _ => rfl
    | 17, _ => rfl
    | 18, _ => rfl
    | k + 19, h => absurd h (by omega))
set_option maxRecDepth 100000 in
theorem hr_o3 {y : LY} {H : Heap} (h : CP y (wsF y) H) : t_OB (ad y 3) (y.2.1 (co 3)) (NF (co 3)) (y.2.2.1 (co 3)) H (fv y st0 3) := by
  obtain ⟨r, hr, ht⟩ := h.2 29 (.inr (0, stF y.1 30)) (by rw [flF_eq]; rfl)
  cases hr
  exact ht.to (fun k hk => match k, (show k < 19 from hk) with
    | 0, _ => rfl
    | 1, _ => rfl
    | 2, _ => rfl
    | 3, _ => rfl
    | 4, _ => rfl
    | 5, _ => rfl
    | 6, _ => rfl
    | 7, _ => rfl
    | 8, _ => rfl
    | 9, _ => rfl
    | 10, _ => rfl
    | 11, _ => rfl
    | 12, _ => rfl
    | 13, _ => rfl
    | 14, _ => rfl
    | 15, _ => rfl
    | 16, _ => rfl
    | 17, _ => rfl
    | 18, _ => rfl
    | k + 19, h => absurd h (by omega))
set_option maxRecDepth 100000 in
theorem hr_o4 {y : LY} {H : Heap} (h : CP y (wsF y) H) : t_OB (ad y 4) (y.2.1 (co 4)) (NF (co 4)) (y.2.2.1 (co 4)) H (fv y st0 4) := by
  obtain ⟨r, hr, ht⟩ := h.2 51 (.inr (0, stF y.1 52)) (by rw [flF_eq]; rfl)
  cases hr
  exact ht.to (fun k hk => match k, (show k < 19 from hk) with
    | 0, _ => rfl
    | 1, _ => rfl
    | 2, _ => rfl
    | 3, _ => rfl
    | 4, _ => rfl
    | 5, _ => rfl
    | 6, _ => rfl
    | 7, _ => rfl
    | 8, _ => rfl
    | 9, _ => rfl
    | 10, _ => rfl
    | 11, _ => rfl
    | 12, _ => rfl
    | 13, _ => rfl
    | 14, _ => rfl
    | 15, _ => rfl
    | 16, _ => rfl
    | 17, _ => rfl
    | 18, _ => rfl
    | k + 19, h => absurd h (by omega))
set_option maxRecDepth 100000 in
theorem hr_o5 {y : LY} {H : Heap} (h : CP y (wsF y) H) : t_OB (ad y 5) (y.2.1 (co 5)) (NF (co 5)) (y.2.2.1 (co 5)) H (fv y st0 5) := by
  obtain ⟨r, hr, ht⟩ := h.2 65 (.inr (0, stF y.1 66)) (by rw [flF_eq]; rfl)
  cases hr
  exact ht.to (fun k hk => match k, (show k < 19 from hk) with
    | 0, _ => rfl
    | 1, _ => rfl
    | 2, _ => rfl
    | 3, _ => rfl
    | 4, _ => rfl
    | 5, _ => rfl
    | 6, _ => rfl
    | 7, _ => rfl
    | 8, _ => rfl
    | 9, _ => rfl
    | 10, _ => rfl
    | 11, _ => rfl
    | 12, _ => rfl
    | 13, _ => rfl
    | 14, _ => rfl
    | 15, _ => rfl
    | 16, _ => rfl
    | 17, _ => rfl
    | 18, _ => rfl
    | k + 19, h => absurd h (by omega))
set_option maxRecDepth 100000 in
theorem hr_o6 {y : LY} {H : Heap} (h : CP y (wsF y) H) : t_OB (ad y 6) (y.2.1 (co 6)) (NF (co 6)) (y.2.2.1 (co 6)) H (fv y st0 6) := by
  obtain ⟨r, hr, ht⟩ := h.2 79 (.inr (0, stF y.1 80)) (by rw [flF_eq]; rfl)
  cases hr
  exact ht.to (fun k hk => match k, (show k < 19 from hk) with
    | 0, _ => rfl
    | 1, _ => rfl
    | 2, _ => rfl
    | 3, _ => rfl
    | 4, _ => rfl
    | 5, _ => rfl
    | 6, _ => rfl
    | 7, _ => rfl
    | 8, _ => rfl
    | 9, _ => rfl
    | 10, _ => rfl
    | 11, _ => rfl
    | 12, _ => rfl
    | 13, _ => rfl
    | 14, _ => rfl
    | 15, _ => rfl
    | 16, _ => rfl
    | 17, _ => rfl
    | 18, _ => rfl
    | k + 19, h => absurd h (by omega))
set_option maxRecDepth 100000 in
theorem hr_o7 {y : LY} {H : Heap} (h : CP y (wsF y) H) : t_OB (ad y 7) (y.2.1 (co 7)) (NF (co 7)) (y.2.2.1 (co 7)) H (fv y st0 7) := by
  obtain ⟨r, hr, ht⟩ := h.2 93 (.inr (0, stF y.1 94)) (by rw [flF_eq]; rfl)
  cases hr
  exact ht.to (fun k hk => match k, (show k < 19 from hk) with
    | 0, _ => rfl
    | 1, _ => rfl
    | 2, _ => rfl
    | 3, _ => rfl
    | 4, _ => rfl
    | 5, _ => rfl
    | 6, _ => rfl
    | 7, _ => rfl
    | 8, _ => rfl
    | 9, _ => rfl
    | 10, _ => rfl
    | 11, _ => rfl
    | 12, _ => rfl
    | 13, _ => rfl
    | 14, _ => rfl
    | 15, _ => rfl
    | 16, _ => rfl
    | 17, _ => rfl
    | 18, _ => rfl
    | k + 19, h => absurd h (by omega))
set_option maxRecDepth 100000 in
theorem hr_o8 {y : LY} {H : Heap} (h : CP y (wsF y) H) : t_OB (ad y 8) (y.2.1 (co 8)) (NF (co 8)) (y.2.2.1 (co 8)) H (fv y st0 8) := by
  obtain ⟨r, hr, ht⟩ := h.2 107 (.inr (0, stF y.1 108)) (by rw [flF_eq]; rfl)
  cases hr
  exact ht.to (fun k hk => match k, (show k < 19 from hk) with
    | 0, _ => rfl
    | 1, _ => rfl
    | 2, _ => rfl
    | 3, _ => rfl
    | 4, _ => rfl
    | 5, _ => rfl
    | 6, _ => rfl
    | 7, _ => rfl
    | 8, _ => rfl
    | 9, _ => rfl
    | 10, _ => rfl
    | 11, _ => rfl
    | 12, _ => rfl
    | 13, _ => rfl
    | 14, _ => rfl
    | 15, _ => rfl
    | 16, _ => rfl
    | 17, _ => rfl
    | 18, _ => rfl
    | k + 19, h => absurd h (by omega))
set_option maxRecDepth 100000 in
theorem hr_o9 {y : LY} {H : Heap} (h : CP y (wsF y) H) : t_OB (ad y 9) (y.2.1 (co 9)) (NF (co 9)) (y.2.2.1 (co 9)) H (fv y st0 9) := by
  obtain ⟨r, hr, ht⟩ := h.2 121 (.inr (0, stF y.1 122)) (by rw [flF_eq]; rfl)
  cases hr
  exact ht.to (fun k hk => match k, (show k < 19 from hk) with
    | 0, _ => rfl
    | 1, _ => rfl
    | 2, _ => rfl
    | 3, _ => rfl
    | 4, _ => rfl
    | 5, _ => rfl
    | 6, _ => rfl
    | 7, _ => rfl
    | 8, _ => rfl
    | 9, _ => rfl
    | 10, _ => rfl
    | 11, _ => rfl
    | 12, _ => rfl
    | 13, _ => rfl
    | 14, _ => rfl
    | 15, _ => rfl
    | 16, _ => rfl
    | 17, _ => rfl
    | 18, _ => rfl
    | k + 19, h => absurd h (by omega))
set_option maxRecDepth 100000 in
theorem hr_o10 {y : LY} {H : Heap} (h : CP y (wsF y) H) : t_OB (ad y 10) (y.2.1 (co 10)) (NF (co 10)) (y.2.2.1 (co 10)) H (fv y st0 10) := by
  obtain ⟨r, hr, ht⟩ := h.2 135 (.inr (0, stF y.1 136)) (by rw [flF_eq]; rfl)
  cases hr
  exact ht.to (fun k hk => match k, (show k < 19 from hk) with
    | 0, _ => rfl
    | 1, _ => rfl
    | 2, _ => rfl
    | 3, _ => rfl
    | 4, _ => rfl
    | 5, _ => rfl
    | 6, _ => rfl
    | 7, _ => rfl
    | 8, _ => rfl
    | 9, _ => rfl
    | 10, _ => rfl
    | 11, _ => rfl
    | 12, _ => rfl
    | 13, _ => rfl
    | 14, _ => rfl
    | 15, _ => rfl
    | 16, _ => rfl
    | 17, _ => rfl
    | 18, _ => rfl
    | k + 19, h => absurd h (by omega))
set_option maxRecDepth 100000 in
theorem hr_o11 {y : LY} {H : Heap} (h : CP y (wsF y) H) : t_OB (ad y 11) (y.2.1 (co 11)) (NF (co 11)) (y.2.2.1 (co 11)) H (fv y st0 11) := by
  obtain ⟨r, hr, ht⟩ := h.2 149 (.inr (0, stF y.1 150)) (by rw [flF_eq]; rfl)
  cases hr
  exact ht.to (fun k hk => match k, (show k < 19 from hk) with
    | 0, _ => rfl
    | 1, _ => rfl
    | 2, _ => rfl
    | 3, _ => rfl
    | 4, _ => rfl
    | 5, _ => rfl
    | 6, _ => rfl
    | 7, _ => rfl
    | 8, _ => rfl
    | 9, _ => rfl
    | 10, _ => rfl
    | 11, _ => rfl
    | 12, _ => rfl
    | 13, _ => rfl
    | 14, _ => rfl
    | 15, _ => rfl
    | 16, _ => rfl
    | 17, _ => rfl
    | 18, _ => rfl
    | k + 19, h => absurd h (by omega))
set_option maxRecDepth 100000 in
theorem hr_o12 {y : LY} {H : Heap} (h : CP y (wsF y) H) : t_OB (ad y 12) (y.2.1 (co 12)) (NF (co 12)) (y.2.2.1 (co 12)) H (fv y st0 12) := by
  obtain ⟨r, hr, ht⟩ := h.2 48 (.inr (1, wyF y.1 49)) (by rw [flF_eq]; rfl)
  cases hr
  exact ht.to (fun k hk => match k, (show k < 5 from hk) with
    | 0, _ => rfl
    | 1, _ => rfl
    | 2, _ => rfl
    | 3, _ => rfl
    | 4, _ => rfl
    | k + 5, h => absurd h (by omega))
set_option maxRecDepth 100000 in
theorem hr_o13 {y : LY} {H : Heap} (h : CP y (wsF y) H) : t_OB (ad y 13) (y.2.1 (co 13)) (NF (co 13)) (y.2.2.1 (co 13)) H (fv y st0 13) := by
  obtain ⟨r, hr, ht⟩ := h.2 163 (.inr (3, moF y.1 164)) (by rw [flF_eq]; rfl)
  cases hr
  exact ht.to (fun k hk => match k, (show k < 38 from hk) with
    | 0, _ => rfl
    | 1, _ => rfl
    | 2, _ => rfl
    | 3, _ => rfl
    | 4, _ => rfl
    | 5, _ => rfl
    | 6, _ => rfl
    | 7, _ => rfl
    | 8, _ => rfl
    | 9, _ => rfl
    | 10, _ => rfl
    | 11, _ => rfl
    | 12, _ => rfl
    | 13, _ => rfl
    | 14, _ => rfl
    | 15, _ => rfl
    | 16, _ => rfl
    | 17, _ => rfl
    | 18, _ => rfl
    | 19, _ => rfl
    | 20, _ => rfl
    | 21, _ => rfl
    | 22, _ => rfl
    | 23, _ => rfl
    | 24, _ => rfl
    | 25, _ => rfl
    | 26, _ => rfl
    | 27, _ => rfl
    | 28, _ => rfl
    | 29, _ => rfl
    | 30, _ => rfl
    | 31, _ => rfl
    | 32, _ => rfl
    | 33, _ => rfl
    | 34, _ => rfl
    | 35, _ => rfl
    | 36, _ => rfl
    | 37, _ => rfl
    | k + 38, h => absurd h (by omega))
set_option maxRecDepth 100000 in
theorem hr_a0 {y : LY} {H : Heap} (h : CP y (wsF y) H) : ∀ k, k < 38 → isA 0 k = true → H[aa y 0 k]? = some (arrV y.2.2.2.1 (fk (co 0) k - 1) (fun _ => .int 0)) := fun k hk hA => match k, hk, hA with
    | 0, _, hA => absurd hA (by decide)
    | 1, _, hA => absurd hA (by decide)
    | 2, _, hA => absurd hA (by decide)
    | 3, _, hA => absurd hA (by decide)
    | 4, _, hA => absurd hA (by decide)
    | 5, _, hA => absurd hA (by decide)
    | 6, _, _ => h.2 44 (.inl (y.2.2.2.1, 96, .inl (fun _ => 0))) (by rw [flF_eq]; rfl)
    | 7, _, hA => absurd hA (by decide)
    | 8, _, _ => h.2 45 (.inl (y.2.2.2.1, 12, .inl (fun _ => 0))) (by rw [flF_eq]; rfl)
    | 9, _, hA => absurd hA (by decide)
    | 10, _, _ => h.2 46 (.inl (y.2.2.2.1, 7, .inl (fun _ => 0))) (by rw [flF_eq]; rfl)
    | 11, _, _ => h.2 47 (.inl (y.2.2.2.1, 10, .inl (fun _ => 0))) (by rw [flF_eq]; rfl)
    | 12, _, hA => absurd hA (by decide)
    | 13, _, hA => absurd hA (by decide)
    | 14, _, hA => absurd hA (by decide)
    | 15, _, hA => absurd hA (by decide)
    | 16, _, hA => absurd hA (by decide)
    | 17, _, hA => absurd hA (by decide)
    | 18, _, hA => absurd hA (by decide)
    | 19, _, hA => absurd hA (by decide)
    | 20, _, hA => absurd hA (by decide)
    | 21, _, hA => absurd hA (by decide)
    | 22, _, hA => absurd hA (by decide)
    | 23, _, hA => absurd hA (by decide)
    | 24, _, hA => absurd hA (by decide)
    | 25, _, hA => absurd hA (by decide)
    | 26, _, hA => absurd hA (by decide)
    | 27, _, hA => absurd hA (by decide)
    | 28, _, hA => absurd hA (by decide)
    | 29, _, hA => absurd hA (by decide)
    | 30, _, hA => absurd hA (by decide)
    | 31, _, hA => absurd hA (by decide)
    | 32, _, hA => absurd hA (by decide)
    | 33, _, hA => absurd hA (by decide)
    | 34, _, hA => absurd hA (by decide)
    | 35, _, hA => absurd hA (by decide)
    | 36, _, hA => absurd hA (by decide)
    | 37, _, hA => absurd hA (by decide)
    | k + 38, h, _ => absurd h (by omega)
set_option maxRecDepth 100000 in
theorem hr_a1 {y : LY} {H : Heap} (h : CP y (wsF y) H) : ∀ k, k < 38 → isA 1 k = true → H[aa y 1 k]? = some (arrV y.2.2.2.1 (fk (co 1) k - 1) (fun _ => .int 0)) := fun k hk hA => match k, hk, hA with
    | 0, _, hA => absurd hA (by decide)
    | 1, _, _ => h.2 2 (.inl (y.2.2.2.1, 6, .inl (fun _ => 0))) (by rw [flF_eq]; rfl)
    | 2, _, _ => h.2 3 (.inl (y.2.2.2.1, 6, .inl (fun _ => 0))) (by rw [flF_eq]; rfl)
    | 3, _, _ => h.2 4 (.inl (y.2.2.2.1, 6, .inl (fun _ => 0))) (by rw [flF_eq]; rfl)
    | 4, _, _ => h.2 5 (.inl (y.2.2.2.1, 6, .inl (fun _ => 0))) (by rw [flF_eq]; rfl)
    | 5, _, _ => h.2 6 (.inl (y.2.2.2.1, 6, .inl (fun _ => 0))) (by rw [flF_eq]; rfl)
    | 6, _, _ => h.2 7 (.inl (y.2.2.2.1, 6, .inl (fun _ => 0))) (by rw [flF_eq]; rfl)
    | 7, _, hA => absurd hA (by decide)
    | 8, _, _ => h.2 8 (.inl (y.2.2.2.1, 5, .inl (fun _ => 0))) (by rw [flF_eq]; rfl)
    | 9, _, _ => h.2 9 (.inl (y.2.2.2.1, 5, .inl (fun _ => 0))) (by rw [flF_eq]; rfl)
    | 10, _, _ => h.2 10 (.inl (y.2.2.2.1, 5, .inl (fun _ => 0))) (by rw [flF_eq]; rfl)
    | 11, _, _ => h.2 11 (.inl (y.2.2.2.1, 5, .inl (fun _ => 0))) (by rw [flF_eq]; rfl)
    | 12, _, _ => h.2 12 (.inl (y.2.2.2.1, 5, .inl (fun _ => 0))) (by rw [flF_eq]; rfl)
    | 13, _, hA => absurd hA (by decide)
    | 14, _, hA => absurd hA (by decide)
    | 15, _, _ => h.2 13 (.inl (y.2.2.2.1, 5, .inl (fun _ => 0))) (by rw [flF_eq]; rfl)
    | 16, _, _ => h.2 14 (.inl (y.2.2.2.1, 5, .inl (fun _ => 0))) (by rw [flF_eq]; rfl)
    | 17, _, hA => absurd hA (by decide)
    | 18, _, hA => absurd hA (by decide)
    | 19, _, hA => absurd hA (by decide)
    | 20, _, hA => absurd hA (by decide)
    | 21, _, hA => absurd hA (by decide)
    | 22, _, hA => absurd hA (by decide)
    | 23, _, hA => absurd hA (by decide)
    | 24, _, hA => absurd hA (by decide)
    | 25, _, hA => absurd hA (by decide)
    | 26, _, hA => absurd hA (by decide)
    | 27, _, hA => absurd hA (by decide)
    | 28, _, hA => absurd hA (by decide)
    | 29, _, hA => absurd hA (by decide)
    | 30, _, hA => absurd hA (by decide)
    | 31, _, hA => absurd hA (by decide)
    | 32, _, hA => absurd hA (by decide)
    | 33, _, hA => absurd hA (by decide)
    | 34, _, hA => absurd hA (by decide)
    | 35, _, hA => absurd hA (by decide)
    | 36, _, hA => absurd hA (by decide)
    | 37, _, hA => absurd hA (by decide)
    | k + 38, h, _ => absurd h (by omega)
set_option maxRecDepth 100000 in
theorem hr_a2 {y : LY} {H : Heap} (h : CP y (wsF y) H) : ∀ k, k < 38 → isA 2 k = true → H[aa y 2 k]? = some (arrV y.2.2.2.1 (fk (co 2) k - 1) (fun _ => .int 0)) := fun k hk hA => match k, hk, hA with
    | 0, _, hA => absurd hA (by decide)
    | 1, _, _ => h.2 16 (.inl (y.2.2.2.1, 6, .inl (fun _ => 0))) (by rw [flF_eq]; rfl)
    | 2, _, _ => h.2 17 (.inl (y.2.2.2.1, 6, .inl (fun _ => 0))) (by rw [flF_eq]; rfl)
    | 3, _, _ => h.2 18 (.inl (y.2.2.2.1, 6, .inl (fun _ => 0))) (by rw [flF_eq]; rfl)
    | 4, _, _ => h.2 19 (.inl (y.2.2.2.1, 6, .inl (fun _ => 0))) (by rw [flF_eq]; rfl)
    | 5, _, _ => h.2 20 (.inl (y.2.2.2.1, 6, .inl (fun _ => 0))) (by rw [flF_eq]; rfl)
    | 6, _, _ => h.2 21 (.inl (y.2.2.2.1, 6, .inl (fun _ => 0))) (by rw [flF_eq]; rfl)
    | 7, _, hA => absurd hA (by decide)
    | 8, _, _ => h.2 22 (.inl (y.2.2.2.1, 5, .inl (fun _ => 0))) (by rw [flF_eq]; rfl)
    | 9, _, _ => h.2 23 (.inl (y.2.2.2.1, 5, .inl (fun _ => 0))) (by rw [flF_eq]; rfl)
    | 10, _, _ => h.2 24 (.inl (y.2.2.2.1, 5, .inl (fun _ => 0))) (by rw [flF_eq]; rfl)
    | 11, _, _ => h.2 25 (.inl (y.2.2.2.1, 5, .inl (fun _ => 0))) (by rw [flF_eq]; rfl)
    | 12, _, _ => h.2 26 (.inl (y.2.2.2.1, 5, .inl (fun _ => 0))) (by rw [flF_eq]; rfl)
    | 13, _, hA => absurd hA (by decide)
    | 14, _, hA => absurd hA (by decide)
    | 15, _, _ => h.2 27 (.inl (y.2.2.2.1, 5, .inl (fun _ => 0))) (by rw [flF_eq]; rfl)
    | 16, _, _ => h.2 28 (.inl (y.2.2.2.1, 5, .inl (fun _ => 0))) (by rw [flF_eq]; rfl)
    | 17, _, hA => absurd hA (by decide)
    | 18, _, hA => absurd hA (by decide)
    | 19, _, hA => absurd hA (by decide)
    | 20, _, hA => absurd hA (by decide)
    | 21, _, hA => absurd hA (by decide)
    | 22, _, hA => absurd hA (by decide)
    | 23, _, hA => absurd hA (by decide)
    | 24, _, hA => absurd hA (by decide)
    | 25, _, hA => absurd hA (by decide)
    | 26, _, hA => absurd hA (by decide)
    | 27, _, hA => absurd hA (by decide)
    | 28, _, hA => absurd hA (by decide)
    | 29, _, hA => absurd hA (by decide)
    | 30, _, hA => absurd hA (by decide)
    | 31, _, hA => absurd hA (by decide)
    | 32, _, hA => absurd hA (by decide)
    | 33, _, hA => absurd hA (by decide)
    | 34, _, hA => absurd hA (by decide)
    | 35, _, hA => absurd hA (by decide)
    | 36, _, hA => absurd hA (by decide)
    | 37, _, hA => absurd hA (by decide)
    | k + 38, h, _ => absurd h (by omega)
set_option maxRecDepth 100000 in
theorem hr_a3 {y : LY} {H : Heap} (h : CP y (wsF y) H) : ∀ k, k < 38 → isA 3 k = true → H[aa y 3 k]? = some (arrV y.2.2.2.1 (fk (co 3) k - 1) (fun _ => .int 0)) := fun k hk hA => match k, hk, hA with
    | 0, _, hA => absurd hA (by decide)
    | 1, _, _ => h.2 30 (.inl (y.2.2.2.1, 6, .inl (fun _ => 0))) (by rw [flF_eq]; rfl)
    | 2, _, _ => h.2 31 (.inl (y.2.2.2.1, 6, .inl (fun _ => 0))) (by rw [flF_eq]; rfl)
    | 3, _, _ => h.2 32 (.inl (y.2.2.2.1, 6, .inl (fun _ => 0))) (by rw [flF_eq]; rfl)
    | 4, _, _ => h.2 33 (.inl (y.2.2.2.1, 6, .inl (fun _ => 0))) (by rw [flF_eq]; rfl)
    | 5, _, _ => h.2 34 (.inl (y.2.2.2.1, 6, .inl (fun _ => 0))) (by rw [flF_eq]; rfl)
    | 6, _, _ => h.2 35 (.inl (y.2.2.2.1, 6, .inl (fun _ => 0))) (by rw [flF_eq]; rfl)
    | 7, _, hA => absurd hA (by decide)
    | 8, _, _ => h.2 36 (.inl (y.2.2.2.1, 5, .inl (fun _ => 0))) (by rw [flF_eq]; rfl)
    | 9, _, _ => h.2 37 (.inl (y.2.2.2.1, 5, .inl (fun _ => 0))) (by rw [flF_eq]; rfl)
    | 10, _, _ => h.2 38 (.inl (y.2.2.2.1, 5, .inl (fun _ => 0))) (by rw [flF_eq]; rfl)
    | 11, _, _ => h.2 39 (.inl (y.2.2.2.1, 5, .inl (fun _ => 0))) (by rw [flF_eq]; rfl)
    | 12, _, _ => h.2 40 (.inl (y.2.2.2.1, 5, .inl (fun _ => 0))) (by rw [flF_eq]; rfl)
    | 13, _, hA => absurd hA (by decide)
    | 14, _, hA => absurd hA (by decide)
    | 15, _, _ => h.2 41 (.inl (y.2.2.2.1, 5, .inl (fun _ => 0))) (by rw [flF_eq]; rfl)
    | 16, _, _ => h.2 42 (.inl (y.2.2.2.1, 5, .inl (fun _ => 0))) (by rw [flF_eq]; rfl)
    | 17, _, hA => absurd hA (by decide)
    | 18, _, hA => absurd hA (by decide)
    | 19, _, hA => absurd hA (by decide)
    | 20, _, hA => absurd hA (by decide)
    | 21, _, hA => absurd hA (by decide)
    | 22, _, hA => absurd hA (by decide)
    | 23, _, hA => absurd hA (by decide)
    | 24, _, hA => absurd hA (by decide)
    | 25, _, hA => absurd hA (by decide)
    | 26, _, hA => absurd hA (by decide)
    | 27, _, hA => absurd hA (by decide)
    | 28, _, hA => absurd hA (by decide)
    | 29, _, hA => absurd hA (by decide)
    | 30, _, hA => absurd hA (by decide)
    | 31, _, hA => absurd hA (by decide)
    | 32, _, hA => absurd hA (by decide)
    | 33, _, hA => absurd hA (by decide)
    | 34, _, hA => absurd hA (by decide)
    | 35, _, hA => absurd hA (by decide)
    | 36, _, hA => absurd hA (by decide)
    | 37, _, hA => absurd hA (by decide)
    | k + 38, h, _ => absurd h (by omega)
set_option maxRecDepth 100000 in
theorem hr_a4 {y : LY} {H : Heap} (h : CP y (wsF y) H) : ∀ k, k < 38 → isA 4 k = true → H[aa y 4 k]? = some (arrV y.2.2.2.1 (fk (co 4) k - 1) (fun _ => .int 0)) := fun k hk hA => match k, hk, hA with
    | 0, _, hA => absurd hA (by decide)
    | 1, _, _ => h.2 52 (.inl (y.2.2.2.1, 6, .inl (fun _ => 0))) (by rw [flF_eq]; rfl)
    | 2, _, _ => h.2 53 (.inl (y.2.2.2.1, 6, .inl (fun _ => 0))) (by rw [flF_eq]; rfl)
    | 3, _, _ => h.2 54 (.inl (y.2.2.2.1, 6, .inl (fun _ => 0))) (by rw [flF_eq]; rfl)
    | 4, _, _ => h.2 55 (.inl (y.2.2.2.1, 6, .inl (fun _ => 0))) (by rw [flF_eq]; rfl)
    | 5, _, _ => h.2 56 (.inl (y.2.2.2.1, 6, .inl (fun _ => 0))) (by rw [flF_eq]; rfl)
    | 6, _, _ => h.2 57 (.inl (y.2.2.2.1, 6, .inl (fun _ => 0))) (by rw [flF_eq]; rfl)
    | 7, _, hA => absurd hA (by decide)
    | 8, _, _ => h.2 58 (.inl (y.2.2.2.1, 5, .inl (fun _ => 0))) (by rw [flF_eq]; rfl)
    | 9, _, _ => h.2 59 (.inl (y.2.2.2.1, 5, .inl (fun _ => 0))) (by rw [flF_eq]; rfl)
    | 10, _, _ => h.2 60 (.inl (y.2.2.2.1, 5, .inl (fun _ => 0))) (by rw [flF_eq]; rfl)
    | 11, _, _ => h.2 61 (.inl (y.2.2.2.1, 5, .inl (fun _ => 0))) (by rw [flF_eq]; rfl)
    | 12, _, _ => h.2 62 (.inl (y.2.2.2.1, 5, .inl (fun _ => 0))) (by rw [flF_eq]; rfl)
    | 13, _, hA => absurd hA (by decide)
    | 14, _, hA => absurd hA (by decide)
    | 15, _, _ => h.2 63 (.inl (y.2.2.2.1, 5, .inl (fun _ => 0))) (by rw [flF_eq]; rfl)
    | 16, _, _ => h.2 64 (.inl (y.2.2.2.1, 5, .inl (fun _ => 0))) (by rw [flF_eq]; rfl)
    | 17, _, hA => absurd hA (by decide)
    | 18, _, hA => absurd hA (by decide)
    | 19, _, hA => absurd hA (by decide)
    | 20, _, hA => absurd hA (by decide)
    | 21, _, hA => absurd hA (by decide)
    | 22, _, hA => absurd hA (by decide)
    | 23, _, hA => absurd hA (by decide)
    | 24, _, hA => absurd hA (by decide)
    | 25, _, hA => absurd hA (by decide)
    | 26, _, hA => absurd hA (by decide)
    | 27, _, hA => absurd hA (by decide)
    | 28, _, hA => absurd hA (by decide)
    | 29, _, hA => absurd hA (by decide)
    | 30, _, hA => absurd hA (by decide)
    | 31, _, hA => absurd hA (by decide)
    | 32, _, hA => absurd hA (by decide)
    | 33, _, hA => absurd hA (by decide)
    | 34, _, hA => absurd hA (by decide)
    | 35, _, hA => absurd hA (by decide)
    | 36, _, hA => absurd hA (by decide)
    | 37, _, hA => absurd hA (by decide)
    | k + 38, h, _ => absurd h (by omega)
set_option maxRecDepth 100000 in
theorem hr_a5 {y : LY} {H : Heap} (h : CP y (wsF y) H) : ∀ k, k < 38 → isA 5 k = true → H[aa y 5 k]? = some (arrV y.2.2.2.1 (fk (co 5) k - 1) (fun _ => .int 0)) := fun k hk hA => match k, hk, hA with
    | 0, _, hA => absurd hA (by decide)
    | 1, _, _ => h.2 66 (.inl (y.2.2.2.1, 6, .inl (fun _ => 0))) (by rw [flF_eq]; rfl)
    | 2, _, _ => h.2 67 (.inl (y.2.2.2.1, 6, .inl (fun _ => 0))) (by rw [flF_eq]; rfl)
    | 3, _, _ => h.2 68 (.inl (y.2.2.2.1, 6, .inl (fun _ => 0))) (by rw [flF_eq]; rfl)
    | 4, _, _ => h.2 69 (.inl (y.2.2.2.1, 6, .inl (fun _ => 0))) (by rw [flF_eq]; rfl)
    | 5, _, _ => h.2 70 (.inl (y.2.2.2.1, 6, .inl (fun _ => 0))) (by rw [flF_eq]; rfl)
    | 6, _, _ => h.2 71 (.inl (y.2.2.2.1, 6, .inl (fun _ => 0))) (by rw [flF_eq]; rfl)
    | 7, _, hA => absurd hA (by decide)
    | 8, _, _ => h.2 72 (.inl (y.2.2.2.1, 5, .inl (fun _ => 0))) (by rw [flF_eq]; rfl)
    | 9, _, _ => h.2 73 (.inl (y.2.2.2.1, 5, .inl (fun _ => 0))) (by rw [flF_eq]; rfl)
    | 10, _, _ => h.2 74 (.inl (y.2.2.2.1, 5, .inl (fun _ => 0))) (by rw [flF_eq]; rfl)
    | 11, _, _ => h.2 75 (.inl (y.2.2.2.1, 5, .inl (fun _ => 0))) (by rw [flF_eq]; rfl)
    | 12, _, _ => h.2 76 (.inl (y.2.2.2.1, 5, .inl (fun _ => 0))) (by rw [flF_eq]; rfl)
    | 13, _, hA => absurd hA (by decide)
    | 14, _, hA => absurd hA (by decide)
    | 15, _, _ => h.2 77 (.inl (y.2.2.2.1, 5, .inl (fun _ => 0))) (by rw [flF_eq]; rfl)
    | 16, _, _ => h.2 78 (.inl (y.2.2.2.1, 5, .inl (fun _ => 0))) (by rw [flF_eq]; rfl)
    | 17, _, hA => absurd hA (by decide)
    | 18, _, hA => absurd hA (by decide)
    | 19, _, hA => absurd hA (by decide)
    | 20, _, hA => absurd hA (by decide)
    | 21, _, hA => absurd hA (by decide)
    | 22, _, hA => absurd hA (by decide)
    | 23, _, hA => absurd hA (by decide)
    | 24, _, hA => absurd hA (by decide)
    | 25, _, hA => absurd hA (by decide)
    | 26, _, hA => absurd hA (by decide)
    | 27, _, hA => absurd hA (by decide)
    | 28, _, hA => absurd hA (by decide)
    | 29, _, hA => absurd hA (by decide)
    | 30, _, hA => absurd hA (by decide)
    | 31, _, hA => absurd hA (by decide)
    | 32, _, hA => absurd hA (by decide)
    | 33, _, hA => absurd hA (by decide)
    | 34, _, hA => absurd hA (by decide)
    | 35, _, hA => absurd hA (by decide)
    | 36, _, hA => absurd hA (by decide)
    | 37, _, hA => absurd hA (by decide)
    | k + 38, h, _ => absurd h (by omega)
set_option maxRecDepth 100000 in
theorem hr_a6 {y : LY} {H : Heap} (h : CP y (wsF y) H) : ∀ k, k < 38 → isA 6 k = true → H[aa y 6 k]? = some (arrV y.2.2.2.1 (fk (co 6) k - 1) (fun _ => .int 0)) := fun k hk hA => match k, hk, hA with
    | 0, _, hA => absurd hA (by decide)
    | 1, _, _ => h.2 80 (.inl (y.2.2.2.1, 6, .inl (fun _ => 0))) (by rw [flF_eq]; rfl)
    | 2, _, _ => h.2 81 (.inl (y.2.2.2.1, 6, .inl (fun _ => 0))) (by rw [flF_eq]; rfl)
    | 3, _, _ => h.2 82 (.inl (y.2.2.2.1, 6, .inl (fun _ => 0))) (by rw [flF_eq]; rfl)
    | 4, _, _ => h.2 83 (.inl (y.2.2.2.1, 6, .inl (fun _ => 0))) (by rw [flF_eq]; rfl)
    | 5, _, _ => h.2 84 (.inl (y.2.2.2.1, 6, .inl (fun _ => 0))) (by rw [flF_eq]; rfl)
    | 6, _, _ => h.2 85 (.inl (y.2.2.2.1, 6, .inl (fun _ => 0))) (by rw [flF_eq]; rfl)
    | 7, _, hA => absurd hA (by decide)
    | 8, _, _ => h.2 86 (.inl (y.2.2.2.1, 5, .inl (fun _ => 0))) (by rw [flF_eq]; rfl)
    | 9, _, _ => h.2 87 (.inl (y.2.2.2.1, 5, .inl (fun _ => 0))) (by rw [flF_eq]; rfl)
    | 10, _, _ => h.2 88 (.inl (y.2.2.2.1, 5, .inl (fun _ => 0))) (by rw [flF_eq]; rfl)
    | 11, _, _ => h.2 89 (.inl (y.2.2.2.1, 5, .inl (fun _ => 0))) (by rw [flF_eq]; rfl)
    | 12, _, _ => h.2 90 (.inl (y.2.2.2.1, 5, .inl (fun _ => 0))) (by rw [flF_eq]; rfl)
    | 13, _, hA => absurd hA (by decide)
    | 14, _, hA => absurd hA (by decide)
    | 15, _, _ => h.2 91 (.inl (y.2.2.2.1, 5, .inl (fun _ => 0))) (by rw [flF_eq]; rfl)
    | 16, _, _ => h.2 92 (.inl (y.2.2.2.1, 5, .inl (fun _ => 0))) (by rw [flF_eq]; rfl)
    | 17, _, hA => absurd hA (by decide)
    | 18, _, hA => absurd hA (by decide)
    | 19, _, hA => absurd hA (by decide)
    | 20, _, hA => absurd hA (by decide)
    | 21, _, hA => absurd hA (by decide)
    | 22, _, hA => absurd hA (by decide)
    | 23, _, hA => absurd hA (by decide)
    | 24, _, hA => absurd hA (by decide)
    | 25, _, hA => absurd hA (by decide)
    | 26, _, hA => absurd hA (by decide)
    | 27, _, hA => absurd hA (by decide)
    | 28, _, hA => absurd hA (by decide)
    | 29, _, hA => absurd hA (by decide)
    | 30, _, hA => absurd hA (by decide)
    | 31, _, hA => absurd hA (by decide)
    | 32, _, hA => absurd hA (by decide)
    | 33, _, hA => absurd hA (by decide)
    | 34, _, hA => absurd hA (by decide)
    | 35, _, hA => absurd hA (by decide)
    | 36, _, hA => absurd hA (by decide)
    | 37, _, hA => absurd hA (by decide)
    | k + 38, h, _ => absurd h (by omega)
set_option maxRecDepth 100000 in
theorem hr_a7 {y : LY} {H : Heap} (h : CP y (wsF y) H) : ∀ k, k < 38 → isA 7 k = true → H[aa y 7 k]? = some (arrV y.2.2.2.1 (fk (co 7) k - 1) (fun _ => .int 0)) := fun k hk hA => match k, hk, hA with
    | 0, _, hA => absurd hA (by decide)
    | 1, _, _ => h.2 94 (.inl (y.2.2.2.1, 6, .inl (fun _ => 0))) (by rw [flF_eq]; rfl)
    | 2, _, _ => h.2 95 (.inl (y.2.2.2.1, 6, .inl (fun _ => 0))) (by rw [flF_eq]; rfl)
    | 3, _, _ => h.2 96 (.inl (y.2.2.2.1, 6, .inl (fun _ => 0))) (by rw [flF_eq]; rfl)
    | 4, _, _ => h.2 97 (.inl (y.2.2.2.1, 6, .inl (fun _ => 0))) (by rw [flF_eq]; rfl)
    | 5, _, _ => h.2 98 (.inl (y.2.2.2.1, 6, .inl (fun _ => 0))) (by rw [flF_eq]; rfl)
    | 6, _, _ => h.2 99 (.inl (y.2.2.2.1, 6, .inl (fun _ => 0))) (by rw [flF_eq]; rfl)
    | 7, _, hA => absurd hA (by decide)
    | 8, _, _ => h.2 100 (.inl (y.2.2.2.1, 5, .inl (fun _ => 0))) (by rw [flF_eq]; rfl)
    | 9, _, _ => h.2 101 (.inl (y.2.2.2.1, 5, .inl (fun _ => 0))) (by rw [flF_eq]; rfl)
    | 10, _, _ => h.2 102 (.inl (y.2.2.2.1, 5, .inl (fun _ => 0))) (by rw [flF_eq]; rfl)
    | 11, _, _ => h.2 103 (.inl (y.2.2.2.1, 5, .inl (fun _ => 0))) (by rw [flF_eq]; rfl)
    | 12, _, _ => h.2 104 (.inl (y.2.2.2.1, 5, .inl (fun _ => 0))) (by rw [flF_eq]; rfl)
    | 13, _, hA => absurd hA (by decide)
    | 14, _, hA => absurd hA (by decide)
    | 15, _, _ => h.2 105 (.inl (y.2.2.2.1, 5, .inl (fun _ => 0))) (by rw [flF_eq]; rfl)
    | 16, _, _ => h.2 106 (.inl (y.2.2.2.1, 5, .inl (fun _ => 0))) (by rw [flF_eq]; rfl)
    | 17, _, hA => absurd hA (by decide)
    | 18, _, hA => absurd hA (by decide)
    | 19, _, hA => absurd hA (by decide)
    | 20, _, hA => absurd hA (by decide)
    | 21, _, hA => absurd hA (by decide)
    | 22, _, hA => absurd hA (by decide)
    | 23, _, hA => absurd hA (by decide)
    | 24, _, hA => absurd hA (by decide)
    | 25, _, hA => absurd hA (by decide)
    | 26, _, hA => absurd hA (by decide)
    | 27, _, hA => absurd hA (by decide)
    | 28, _, hA => absurd hA (by decide)
    | 29, _, hA => absurd hA (by decide)
    | 30, _, hA => absurd hA (by decide)
    | 31, _, hA => absurd hA (by decide)
    | 32, _, hA => absurd hA (by decide)
    | 33, _, hA => absurd hA (by decide)
    | 34, _, hA => absurd hA (by decide)
    | 35, _, hA => absurd hA (by decide)
    | 36, _, hA => absurd hA (by decide)
    | 37, _, hA => absurd hA (by decide)
    | k + 38, h, _ => absurd h (by omega)
set_option maxRecDepth 100000 in
theorem hr_a8 {y : LY} {H : Heap} (h : CP y (wsF y) H) : ∀ k, k < 38 → isA 8 k = true → H[aa y 8 k]? = some (arrV y.2.2.2.1 (fk (co 8) k - 1) (fun _ => .int 0)) := fun k hk hA => match k, hk, hA with
    | 0, _, hA => absurd hA (by decide)
    | 1, _, _ => h.2 108 (.inl (y.2.2.2.1, 6, .inl (fun _ => 0))) (by rw [flF_eq]; rfl)
    | 2, _, _ => h.2 109 (.inl (y.2.2.2.1, 6, .inl (fun _ => 0))) (by rw [flF_eq]; rfl)
    | 3, _, _ => h.2 110 (.inl (y.2.2.2.1, 6, .inl (fun _ => 0))) (by rw [flF_eq]; rfl)
    | 4, _, _ => h.2 111 (.inl (y.2.2.2.1, 6, .inl (fun _ => 0))) (by rw [flF_eq]; rfl)
    | 5, _, _ => h.2 112 (.inl (y.2.2.2.1, 6, .inl (fun _ => 0))) (by rw [flF_eq]; rfl)
    | 6, _, _ => h.2 113 (.inl (y.2.2.2.1, 6, .inl (fun _ => 0))) (by rw [flF_eq]; rfl)
    | 7, _, hA => absurd hA (by decide)
    | 8, _, _ => h.2 114 (.inl (y.2.2.2.1, 5, .inl (fun _ => 0))) (by rw [flF_eq]; rfl)
    | 9, _, _ => h.2 115 (.inl (y.2.2.2.1, 5, .inl (fun _ => 0))) (by rw [flF_eq]; rfl)
    | 10, _, _ => h.2 116 (.inl (y.2.2.2.1, 5, .inl (fun _ => 0))) (by rw [flF_eq]; rfl)
    | 11, _, _ => h.2 117 (.inl (y.2.2.2.1, 5, .inl (fun _ => 0))) (by rw [flF_eq]; rfl)
    | 12, _, _ => h.2 118 (.inl (y.2.2.2.1, 5, .inl (fun _ => 0))) (by rw [flF_eq]; rfl)
    | 13, _, hA => absurd hA (by decide)
    | 14, _, hA => absurd hA (by decide)
    | 15, _, _ => h.2 119 (.inl (y.2.2.2.1, 5, .inl (fun _ => 0))) (by rw [flF_eq]; rfl)
    | 16, _, _ => h.2 120 (.inl (y.2.2.2.1, 5, .inl (fun _ => 0))) (by rw [flF_eq]; rfl)
    | 17, _, hA => absurd hA (by decide)
    | 18, _, hA => absurd hA (by decide)
    | 19, _, hA => absurd hA (by decide)
    | 20, _, hA => absurd hA (by decide)
    | 21, _, hA => absurd hA (by decide)
    | 22, _, hA => absurd hA (by decide)
    | 23, _, hA => absurd hA (by decide)
    | 24, _, hA => absurd hA (by decide)
    | 25, _, hA => absurd hA (by decide)
    | 26, _, hA => absurd hA (by decide)
    | 27, _, hA => absurd hA (by decide)
    | 28, _, hA => absurd hA (by decide)
    | 29, _, hA => absurd hA (by decide)
    | 30, _, hA => absurd hA (by decide)
    | 31, _, hA => absurd hA (by decide)
    | 32, _, hA => absurd hA (by decide)
    | 33, _, hA => absurd hA (by decide)
    | 34, _, hA => absurd hA (by decide)
    | 35, _, hA => absurd hA (by decide)
    | 36, _, hA => absurd hA (by decide)
    | 37, _, hA => absurd hA (by decide)
    | k + 38, h, _ => absurd h (by omega)
set_option maxRecDepth 100000 in
theorem hr_a9 {y : LY} {H : Heap} (h : CP y (wsF y) H) : ∀ k, k < 38 → isA 9 k = true → H[aa y 9 k]? = some (arrV y.2.2.2.1 (fk (co 9) k - 1) (fun _ => .int 0)) := fun k hk hA => match k, hk, hA with
    | 0, _, hA => absurd hA (by decide)
    | 1, _, _ => h.2 122 (.inl (y.2.2.2.1, 6, .inl (fun _ => 0))) (by rw [flF_eq]; rfl)
    | 2, _, _ => h.2 123 (.inl (y.2.2.2.1, 6, .inl (fun _ => 0))) (by rw [flF_eq]; rfl)
    | 3, _, _ => h.2 124 (.inl (y.2.2.2.1, 6, .inl (fun _ => 0))) (by rw [flF_eq]; rfl)
    | 4, _, _ => h.2 125 (.inl (y.2.2.2.1, 6, .inl (fun _ => 0))) (by rw [flF_eq]; rfl)
    | 5, _, _ => h.2 126 (.inl (y.2.2.2.1, 6, .inl (fun _ => 0))) (by rw [flF_eq]; rfl)
    | 6, _, _ => h.2 127 (.inl (y.2.2.2.1, 6, .inl (fun _ => 0))) (by rw [flF_eq]; rfl)
    | 7, _, hA => absurd hA (by decide)
    | 8, _, _ => h.2 128 (.inl (y.2.2.2.1, 5, .inl (fun _ => 0))) (by rw [flF_eq]; rfl)
    | 9, _, _ => h.2 129 (.inl (y.2.2.2.1, 5, .inl (fun _ => 0))) (by rw [flF_eq]; rfl)
    | 10, _, _ => h.2 130 (.inl (y.2.2.2.1, 5, .inl (fun _ => 0))) (by rw [flF_eq]; rfl)
    | 11, _, _ => h.2 131 (.inl (y.2.2.2.1, 5, .inl (fun _ => 0))) (by rw [flF_eq]; rfl)
    | 12, _, _ => h.2 132 (.inl (y.2.2.2.1, 5, .inl (fun _ => 0))) (by rw [flF_eq]; rfl)
    | 13, _, hA => absurd hA (by decide)
    | 14, _, hA => absurd hA (by decide)
    | 15, _, _ => h.2 133 (.inl (y.2.2.2.1, 5, .inl (fun _ => 0))) (by rw [flF_eq]; rfl)
    | 16, _, _ => h.2 134 (.inl (y.2.2.2.1, 5, .inl (fun _ => 0))) (by rw [flF_eq]; rfl)
    | 17, _, hA => absurd hA (by decide)
    | 18, _, hA => absurd hA (by decide)
    | 19, _, hA => absurd hA (by decide)
    | 20, _, hA => absurd hA (by decide)
    | 21, _, hA => absurd hA (by decide)
    | 22, _, hA => absurd hA (by decide)
    | 23, _, hA => absurd hA (by decide)
    | 24, _, hA => absurd hA (by decide)
    | 25, _, hA => absurd hA (by decide)
    | 26, _, hA => absurd hA (by decide)
    | 27, _, hA => absurd hA (by decide)
    | 28, _, hA => absurd hA (by decide)
    | 29, _, hA => absurd hA (by decide)
    | 30, _, hA => absurd hA (by decide)
    | 31, _, hA => absurd hA (by decide)
    | 32, _, hA => absurd hA (by decide)
    | 33, _, hA => absurd hA (by decide)
    | 34, _, hA => absurd hA (by decide)
    | 35, _, hA => absurd hA (by decide)
    | 36, _, hA => absurd hA (by decide)
    | 37, _, hA => absurd hA (by decide)
    | k + 38, h, _ => absurd h (by omega)
set_option maxRecDepth 100000 in
theorem hr_a10 {y : LY} {H : Heap} (h : CP y (wsF y) H) : ∀ k, k < 38 → isA 10 k = true → H[aa y 10 k]? = some (arrV y.2.2.2.1 (fk (co 10) k - 1) (fun _ => .int 0)) := fun k hk hA => match k, hk, hA with
    | 0, _, hA => absurd hA (by decide)
    | 1, _, _ => h.2 136 (.inl (y.2.2.2.1, 6, .inl (fun _ => 0))) (by rw [flF_eq]; rfl)
    | 2, _, _ => h.2 137 (.inl (y.2.2.2.1, 6, .inl (fun _ => 0))) (by rw [flF_eq]; rfl)
    | 3, _, _ => h.2 138 (.inl (y.2.2.2.1, 6, .inl (fun _ => 0))) (by rw [flF_eq]; rfl)
    | 4, _, _ => h.2 139 (.inl (y.2.2.2.1, 6, .inl (fun _ => 0))) (by rw [flF_eq]; rfl)
    | 5, _, _ => h.2 140 (.inl (y.2.2.2.1, 6, .inl (fun _ => 0))) (by rw [flF_eq]; rfl)
    | 6, _, _ => h.2 141 (.inl (y.2.2.2.1, 6, .inl (fun _ => 0))) (by rw [flF_eq]; rfl)
    | 7, _, hA => absurd hA (by decide)
    | 8, _, _ => h.2 142 (.inl (y.2.2.2.1, 5, .inl (fun _ => 0))) (by rw [flF_eq]; rfl)
    | 9, _, _ => h.2 143 (.inl (y.2.2.2.1, 5, .inl (fun _ => 0))) (by rw [flF_eq]; rfl)
    | 10, _, _ => h.2 144 (.inl (y.2.2.2.1, 5, .inl (fun _ => 0))) (by rw [flF_eq]; rfl)
    | 11, _, _ => h.2 145 (.inl (y.2.2.2.1, 5, .inl (fun _ => 0))) (by rw [flF_eq]; rfl)
    | 12, _, _ => h.2 146 (.inl (y.2.2.2.1, 5, .inl (fun _ => 0))) (by rw [flF_eq]; rfl)
    | 13, _, hA => absurd hA (by decide)
    | 14, _, hA => absurd hA (by decide)
    | 15, _, _ => h.2 147 (.inl (y.2.2.2.1, 5, .inl (fun _ => 0))) (by rw [flF_eq]; rfl)
    | 16, _, _ => h.2 148 (.inl (y.2.2.2.1, 5, .inl (fun _ => 0))) (by rw [flF_eq]; rfl)
    | 17, _, hA => absurd hA (by decide)
    | 18, _, hA => absurd hA (by decide)
    | 19, _, hA => absurd hA (by decide)
    | 20, _, hA => absurd hA (by decide)
    | 21, _, hA => absurd hA (by decide)
    | 22, _, hA => absurd hA (by decide)
    | 23, _, hA => absurd hA (by decide)
    | 24, _, hA => absurd hA (by decide)
    | 25, _, hA => absurd hA (by decide)
    | 26, _, hA => absurd hA (by decide)
    | 27, _, hA => absurd hA (by decide)
    | 28, _, hA => absurd hA (by decide)
    | 29, _, hA => absurd hA (by decide)
    | 30, _, hA => absurd hA (by decide)
    | 31, _, hA => absurd hA (by decide)
    | 32, _, hA => absurd hA (by decide)
    | 33, _, hA => absurd hA (by decide)
    | 34, _, hA => absurd hA (by decide)
    | 35, _, hA => absurd hA (by decide)
    | 36, _, hA => absurd hA (by decide)
    | 37, _, hA => absurd hA (by decide)
    | k + 38, h, _ => absurd h (by omega)
set_option maxRecDepth 100000 in
theorem hr_a11 {y : LY} {H : Heap} (h : CP y (wsF y) H) : ∀ k, k < 38 → isA 11 k = true → H[aa y 11 k]? = some (arrV y.2.2.2.1 (fk (co 11) k - 1) (fun _ => .int 0)) := fun k hk hA => match k, hk, hA with
    | 0, _, hA => absurd hA (by decide)
    | 1, _, _ => h.2 150 (.inl (y.2.2.2.1, 6, .inl (fun _ => 0))) (by rw [flF_eq]; rfl)
    | 2, _, _ => h.2 151 (.inl (y.2.2.2.1, 6, .inl (fun _ => 0))) (by rw [flF_eq]; rfl)
    | 3, _, _ => h.2 152 (.inl (y.2.2.2.1, 6, .inl (fun _ => 0))) (by rw [flF_eq]; rfl)
    | 4, _, _ => h.2 153 (.inl (y.2.2.2.1, 6, .inl (fun _ => 0))) (by rw [flF_eq]; rfl)
    | 5, _, _ => h.2 154 (.inl (y.2.2.2.1, 6, .inl (fun _ => 0))) (by rw [flF_eq]; rfl)
    | 6, _, _ => h.2 155 (.inl (y.2.2.2.1, 6, .inl (fun _ => 0))) (by rw [flF_eq]; rfl)
    | 7, _, hA => absurd hA (by decide)
    | 8, _, _ => h.2 156 (.inl (y.2.2.2.1, 5, .inl (fun _ => 0))) (by rw [flF_eq]; rfl)
    | 9, _, _ => h.2 157 (.inl (y.2.2.2.1, 5, .inl (fun _ => 0))) (by rw [flF_eq]; rfl)
    | 10, _, _ => h.2 158 (.inl (y.2.2.2.1, 5, .inl (fun _ => 0))) (by rw [flF_eq]; rfl)
    | 11, _, _ => h.2 159 (.inl (y.2.2.2.1, 5, .inl (fun _ => 0))) (by rw [flF_eq]; rfl)
    | 12, _, _ => h.2 160 (.inl (y.2.2.2.1, 5, .inl (fun _ => 0))) (by rw [flF_eq]; rfl)
    | 13, _, hA => absurd hA (by decide)
    | 14, _, hA => absurd hA (by decide)
    | 15, _, _ => h.2 161 (.inl (y.2.2.2.1, 5, .inl (fun _ => 0))) (by rw [flF_eq]; rfl)
    | 16, _, _ => h.2 162 (.inl (y.2.2.2.1, 5, .inl (fun _ => 0))) (by rw [flF_eq]; rfl)
    | 17, _, hA => absurd hA (by decide)
    | 18, _, hA => absurd hA (by decide)
    | 19, _, hA => absurd hA (by decide)
    | 20, _, hA => absurd hA (by decide)
    | 21, _, hA => absurd hA (by decide)
    | 22, _, hA => absurd hA (by decide)
    | 23, _, hA => absurd hA (by decide)
    | 24, _, hA => absurd hA (by decide)
    | 25, _, hA => absurd hA (by decide)
    | 26, _, hA => absurd hA (by decide)
    | 27, _, hA => absurd hA (by decide)
    | 28, _, hA => absurd hA (by decide)
    | 29, _, hA => absurd hA (by decide)
    | 30, _, hA => absurd hA (by decide)
    | 31, _, hA => absurd hA (by decide)
    | 32, _, hA => absurd hA (by decide)
    | 33, _, hA => absurd hA (by decide)
    | 34, _, hA => absurd hA (by decide)
    | 35, _, hA => absurd hA (by decide)
    | 36, _, hA => absurd hA (by decide)
    | 37, _, hA => absurd hA (by decide)
    | k + 38, h, _ => absurd h (by omega)
set_option maxRecDepth 100000 in
theorem hr_a12 {y : LY} {H : Heap} (h : CP y (wsF y) H) : ∀ k, k < 38 → isA 12 k = true → H[aa y 12 k]? = some (arrV y.2.2.2.1 (fk (co 12) k - 1) (fun _ => .int 0)) := fun k hk hA => match k, hk, hA with
    | 0, _, _ => h.2 49 (.inl (y.2.2.2.1, 4, .inl (fun _ => 0))) (by rw [flF_eq]; rfl)
    | 1, _, _ => h.2 50 (.inl (y.2.2.2.1, 4, .inl (fun _ => 0))) (by rw [flF_eq]; rfl)
    | 2, _, hA => absurd hA (by decide)
    | 3, _, hA => absurd hA (by decide)
    | 4, _, hA => absurd hA (by decide)
    | 5, _, hA => absurd hA (by decide)
    | 6, _, hA => absurd hA (by decide)
    | 7, _, hA => absurd hA (by decide)
    | 8, _, hA => absurd hA (by decide)
    | 9, _, hA => absurd hA (by decide)
    | 10, _, hA => absurd hA (by decide)
    | 11, _, hA => absurd hA (by decide)
    | 12, _, hA => absurd hA (by decide)
    | 13, _, hA => absurd hA (by decide)
    | 14, _, hA => absurd hA (by decide)
    | 15, _, hA => absurd hA (by decide)
    | 16, _, hA => absurd hA (by decide)
    | 17, _, hA => absurd hA (by decide)
    | 18, _, hA => absurd hA (by decide)
    | 19, _, hA => absurd hA (by decide)
    | 20, _, hA => absurd hA (by decide)
    | 21, _, hA => absurd hA (by decide)
    | 22, _, hA => absurd hA (by decide)
    | 23, _, hA => absurd hA (by decide)
    | 24, _, hA => absurd hA (by decide)
    | 25, _, hA => absurd hA (by decide)
    | 26, _, hA => absurd hA (by decide)
    | 27, _, hA => absurd hA (by decide)
    | 28, _, hA => absurd hA (by decide)
    | 29, _, hA => absurd hA (by decide)
    | 30, _, hA => absurd hA (by decide)
    | 31, _, hA => absurd hA (by decide)
    | 32, _, hA => absurd hA (by decide)
    | 33, _, hA => absurd hA (by decide)
    | 34, _, hA => absurd hA (by decide)
    | 35, _, hA => absurd hA (by decide)
    | 36, _, hA => absurd hA (by decide)
    | 37, _, hA => absurd hA (by decide)
    | k + 38, h, _ => absurd h (by omega)
set_option maxRecDepth 100000 in
theorem hr_a13 {y : LY} {H : Heap} (h : CP y (wsF y) H) : ∀ k, k < 38 → isA 13 k = true → H[aa y 13 k]? = some (arrV y.2.2.2.1 (fk (co 13) k - 1) (fun _ => .int 0)) := fun k hk hA => match k, hk, hA with
    | 0, _, _ => h.2 164 (.inl (y.2.2.2.1, 7, .inl (fun _ => 0))) (by rw [flF_eq]; rfl)
    | 1, _, _ => h.2 165 (.inl (y.2.2.2.1, 6, .inl (fun _ => 0))) (by rw [flF_eq]; rfl)
    | 2, _, _ => h.2 166 (.inl (y.2.2.2.1, 6, .inl (fun _ => 0))) (by rw [flF_eq]; rfl)
    | 3, _, _ => h.2 167 (.inl (y.2.2.2.1, 6, .inl (fun _ => 0))) (by rw [flF_eq]; rfl)
    | 4, _, _ => h.2 168 (.inl (y.2.2.2.1, 6, .inl (fun _ => 0))) (by rw [flF_eq]; rfl)
    | 5, _, _ => h.2 169 (.inl (y.2.2.2.1, 6, .inl (fun _ => 0))) (by rw [flF_eq]; rfl)
    | 6, _, _ => h.2 170 (.inl (y.2.2.2.1, 5, .inl (fun _ => 0))) (by rw [flF_eq]; rfl)
    | 7, _, _ => h.2 171 (.inl (y.2.2.2.1, 5, .inl (fun _ => 0))) (by rw [flF_eq]; rfl)
    | 8, _, _ => h.2 172 (.inl (y.2.2.2.1, 5, .inl (fun _ => 0))) (by rw [flF_eq]; rfl)
    | 9, _, _ => h.2 173 (.inl (y.2.2.2.1, 5, .inl (fun _ => 0))) (by rw [flF_eq]; rfl)
    | 10, _, _ => h.2 174 (.inl (y.2.2.2.1, 5, .inl (fun _ => 0))) (by rw [flF_eq]; rfl)
    | 11, _, hA => absurd hA (by decide)
    | 12, _, hA => absurd hA (by decide)
    | 13, _, hA => absurd hA (by decide)
    | 14, _, hA => absurd hA (by decide)
    | 15, _, _ => h.2 175 (.inl (y.2.2.2.1, 96, .inl (fun _ => 0))) (by rw [flF_eq]; rfl)
    | 16, _, _ => h.2 176 (.inl (y.2.2.2.1, 48, .inl (fun _ => 0))) (by rw [flF_eq]; rfl)
    | 17, _, _ => h.2 177 (.inl (y.2.2.2.1, 48, .inl (fun _ => 0))) (by rw [flF_eq]; rfl)
    | 18, _, _ => h.2 178 (.inl (y.2.2.2.1, 144, .inl (fun _ => 0))) (by rw [flF_eq]; rfl)
    | 19, _, hA => absurd hA (by decide)
    | 20, _, hA => absurd hA (by decide)
    | 21, _, hA => absurd hA (by decide)
    | 22, _, _ => h.2 179 (.inl (y.2.2.2.1, 660, .inl (fun _ => 0))) (by rw [flF_eq]; rfl)
    | 23, _, hA => absurd hA (by decide)
    | 24, _, hA => absurd hA (by decide)
    | 25, _, hA => absurd hA (by decide)
    | 26, _, hA => absurd hA (by decide)
    | 27, _, _ => h.2 180 (.inl (y.2.2.2.1, 5, .inl (fun _ => 0))) (by rw [flF_eq]; rfl)
    | 28, _, _ => h.2 181 (.inl (y.2.2.2.1, 5, .inl (fun _ => 0))) (by rw [flF_eq]; rfl)
    | 29, _, hA => absurd hA (by decide)
    | 30, _, hA => absurd hA (by decide)
    | 31, _, hA => absurd hA (by decide)
    | 32, _, _ => h.2 182 (.inl (y.2.2.2.1, 5, .inl (fun _ => 0))) (by rw [flF_eq]; rfl)
    | 33, _, _ => h.2 183 (.inl (y.2.2.2.1, 6, .inl (fun _ => 0))) (by rw [flF_eq]; rfl)
    | 34, _, _ => h.2 184 (.inl (y.2.2.2.1, 12, .inl (fun _ => 0))) (by rw [flF_eq]; rfl)
    | 35, _, hA => absurd hA (by decide)
    | 36, _, _ => h.2 185 (.inl (y.2.2.2.1, 10, .inl (fun _ => 0))) (by rw [flF_eq]; rfl)
    | 37, _, _ => h.2 186 (.inl (y.2.2.2.1, 64, .inl (fun _ => 0))) (by rw [flF_eq]; rfl)
    | k + 38, h, _ => absurd h (by omega)
theorem va0 : ∀ o k i, o < 14 → isA o k = true → st0.1 o k i = 0 := by
  intro o k i ho hA
  unfold st0
  show (if o = 13 then (if k = 30 ∧ i = 0 then (9 : Int32) else 0) else if (1 ≤ o ∧ o ≤ 11) ∧ (k = 18 ∧ i = 0) then (-9) else 0) = 0
  by_cases h : o = 13
  · subst h
    by_cases h2 : k = 30 ∧ i = 0
    · exfalso
      rw [h2.1] at hA
      revert hA
      decide
    · rw [if_pos rfl, if_neg h2]
  · rw [if_neg h]
    by_cases h2 : (1 ≤ o ∧ o ≤ 11) ∧ (k = 18 ∧ i = 0)
    · exfalso
      rw [h2.2.1] at hA
      unfold isA at hA
      rw [co_st h2.1] at hA
      revert hA
      decide
    · rw [if_neg h2]
theorem HR.start {y : LY} {H : Heap} (h : CP y (wsF y) H) : HR y st0 H := by
  refine ⟨fun o ho => match o, ho with
    | 0, _ => hr_o0 h
    | 1, _ => hr_o1 h
    | 2, _ => hr_o2 h
    | 3, _ => hr_o3 h
    | 4, _ => hr_o4 h
    | 5, _ => hr_o5 h
    | 6, _ => hr_o6 h
    | 7, _ => hr_o7 h
    | 8, _ => hr_o8 h
    | 9, _ => hr_o9 h
    | 10, _ => hr_o10 h
    | 11, _ => hr_o11 h
    | 12, _ => hr_o12 h
    | 13, _ => hr_o13 h
    | o + 14, h => absurd h (by omega), fun o k ho hk hA => ?_, ?_⟩
  · have e : ∀ o, o < 14 → isA o k = true → H[aa y o k]? = some (arrV y.2.2.2.1 (fk (co o) k - 1) (fun _ => .int 0)) := fun o ho hA => match o, ho, hA with
    | 0, _, hA => hr_a0 h k hk hA
    | 1, _, hA => hr_a1 h k hk hA
    | 2, _, hA => hr_a2 h k hk hA
    | 3, _, hA => hr_a3 h k hk hA
    | 4, _, hA => hr_a4 h k hk hA
    | 5, _, hA => hr_a5 h k hk hA
    | 6, _, hA => hr_a6 h k hk hA
    | 7, _, hA => hr_a7 h k hk hA
    | 8, _, hA => hr_a8 h k hk hA
    | 9, _, hA => hr_a9 h k hk hA
    | 10, _, hA => hr_a10 h k hk hA
    | 11, _, hA => hr_a11 h k hk hA
    | 12, _, hA => hr_a12 h k hk hA
    | 13, _, hA => hr_a13 h k hk hA
    | o + 14, h, _ => absurd h (by omega)
    rw [e o ho hA]
    congr 1
    exact arrV_congr (fun i _ => by rw [va0 o k i ho hA])
  · have e := h.2 43 (.inl (y.2.2.2.2, 8, .inr (.inr (.inr (.inr (hlR y 8)))))) (by rw [flF_eq]; rfl)
    refine Eq.trans e ?_
    show some (vp_cell _ _) = _
    rw [vp_cell_q]
    congr 1
set_option maxRecDepth 100000 in
set_option maxHeartbeats 4000000 in
/-- the law from its entry, if its loop's function ends well -/
theorem start_of {p : Program} {e : Env} {s : State} {m : MethodId} {below : List Frame} {meth : Method} {c : Code} (l : Launch) {b L : Nat} {xs : Nat → Int32} (hL : L ≤ 3072) (C0 : lw_At p s m meth c b L xs) (hT : T_L_law_L18 xs L FU 0 st0 = some ()) : W p l e room_1 s m #[Value.ref b] below meth c s.heap [] 0 0 (lw_Z below #[Value.ref b] s) (entryFrame m ([Value.ref b] : List Value).toArray 4) := by
  obtain ⟨hx, hb, hr, hml, hown, hts, hX, hbl, hlocks, hgv⟩ := id C0
  have htg : ∀ w ∈ lw_gd, w.before #[Value.ref b] s = true := fun w hw => hts w (List.mem_filter.mp hw).1
  obtain ⟨c0, iS0, hKn0⟩ := u_known (C := RX0) (T := TX0) (N := 19) (n := 19) htg inG0 (htg _ ci_X0)
  obtain ⟨c1, iS1, hKn1⟩ := u_known (C := RX1) (T := TX1) (N := 5) (n := 5) htg inG1 (htg _ ci_X1)
  obtain ⟨c2, iS2, hKn2⟩ := u_known (C := RX2) (T := TX2) (N := 13) (n := 13) htg inG2 (htg _ ci_X2)
  obtain ⟨c3, iS3, hKn3⟩ := u_known (C := RX3) (T := TX3) (N := 38) (n := 38) htg inG3 (htg _ ci_X3)
  have hAO : va_AO RX0 s := va_AO.of (hts (.arrayOver (.object RX0)) (List.mem_append_right _ (List.mem_of_getElem? (i := 100) (by decide +kernel))))
  obtain ⟨comp, cP, kP, g1, g2, g3, g4, g5⟩ := Cond.arrayOver_spec hAO
  obtain ⟨cI, kI, compI, i1, i2, i3⟩ := Cond.arrayClass_spec (htg _ ai_1)
  obtain ⟨y, hy1, hKY⟩ : ∃ y : LY, y.1 = s.heap.size ∧ KY y s := by
    refine ⟨(s.heap.size, (fun k => if k = 0 then c0 else if k = 1 then c1 else if k = 2 then c2 else c3), (fun k => if k = 0 then iS0 else if k = 1 then iS1 else if k = 2 then iS2 else iS3), cI, cP), rfl, fun k q hq => ?_, fun k q hq => ?_⟩
    · match k, hq with
      | 0, hq => cases hq; exact hKn0
      | 1, hq => cases hq; exact hKn1
      | 2, hq => cases hq; exact hKn2
      | 3, hq => cases hq; exact hKn3
      | k + 4, hq => simp [clU] at hq
    · match k, hq with
      | 0, hq => cases hq; exact ⟨fun n z => ⟨fun k h => (by cases h), kI, i2, compI, i3⟩, i1⟩
      | 1, hq => cases hq; exact ⟨fun n z => ⟨fun k h => (by cases h), kP, g3, comp, g4⟩, kP, comp, g3, g4, g1, g5⟩
      | k + 2, hq => simp at hq
  have hNK : NK s := fun w hw => by
    have h1 := hts w (List.mem_filter.mp hw).1
    have h2 := (List.mem_filter.mp hw).2
    cases w <;> first | exact va_Nw.of rfl h1 | (simp [isNestW] at h2)
  have hl := lv_entry ([.ref b]) (n := 4) (Nat.le_of_ble_eq_true rfl)
  rw [lg_entry_eq]
  generalize (lg_sl ([.ref b]) ++ List.replicate (4 - (lg_sl ([.ref b])).length) Slot.unset).toArray = ls at hl ⊢
  have hl : lv_has ls 4 [(0, .ref b)] := hl
  have key : WC y l (p, e, room_1, s, m, #[Value.ref b], below, meth, c, 0, 0) 4 (lw_Z below #[Value.ref b] s) 0 [(0, .ref b)] [] [] 0 0 := by
    have X : CX y l (p, e, room_1, s, m, #[Value.ref b], below, meth, c, 0, 0) cL_law 4 RL room_1 := ⟨hx, hb, hml, hown, htg, hNK, hKY, rfl, Nat.zero_le _, Nat.zero_le _⟩
    have hy : y.1 ≤ s.heap.size := Nat.le_of_eq hy1
    refine c_new (pc := 0) (k0 := 0) (c2 := 2) (f2 := hlB) (C := RX2) (T := TX2) (N := 13) (ap' := [.inr (2, hlB)]) tyX2 X dL_law_0 rfl tyX2_ok ck_L_7 ci_X2 cn_X2 blk_X2 (by decide) (by decide) rfl rfl ?_
    refine c_dup (pc := 3) X dL_law_3 rfl ?_
    refine c_call (pc := 4) (j := 0) (ym := yX2_init) (c' := cX2_init) (n' := 2) (mc := 162) (ms := 1136) (rm' := { frames := 2, cells := 162, slots := 1136, locals := 80 }) X dL_law_4 rfl cx_X2.1 cn_X2 cx_X2.2 ⟨by decide +kernel, by decide +kernel⟩ (by decide +kernel) mi_L_9 ⟨rfl, rfl, by decide, by decide⟩ (by decide) (by decide) hy hAO k_X2 (Nat.le_of_ble_eq_true rfl) ?_
    refine c_astore_n (pc := 7) (lv' := [(1, .ref (y.1 + 0)), (0, .ref b)]) X dL_law_7 rfl (by decide) rfl ?_
    refine c_new (pc := 8) (k0 := 163) (c2 := 3) (f2 := moB) (C := RX3) (T := TX3) (N := 38) (ap' := hlW y ++ [.inr (3, moB)]) tyX3 X dL_law_8 rfl tyX3_ok ck_L_10 ci_X3 cn_X3 blk_X3 (by decide) (by decide) (hlW_len y) rfl ?_
    refine c_dup (pc := 11) X dL_law_11 rfl ?_
    have hlast : (hlW y ++ [(Sum.inr (3, moB) : va_E)])[163]? = some (.inr (3, moB)) := by
      rw [← hlW_len y, List.getElem?_append_right (Nat.le_refl _), Nat.sub_self]
      rfl
    have hlen : (hlW y ++ [(Sum.inr (3, moB) : va_E)]).length = 164 := by
      rw [List.length_append, hlW_len y]; rfl
    have kk := k_X3 (y := y) (l := l) hlast
    rw [hlen] at kk
    refine c_call (pc := 12) (j := 163) (ym := yX3_init) (c' := cX3_init) (n' := 1) (mc := 23) (ms := 1165) (rm' := { frames := 1, cells := 23, slots := 1165, locals := 40 }) X dL_law_12 rfl cx_X3.1 cn_X3 cx_X3.2 ⟨by decide +kernel, by decide +kernel⟩ (by decide +kernel) mi_L_12 ⟨rfl, rfl, by decide, by decide⟩ (by decide) (by decide) hy hAO kk (Nat.le_of_ble_eq_true rfl) ?_
    refine c_astore_n (pc := 15) (lv' := [(2, .ref (y.1 + 163)), (1, .ref (y.1 + 0)), (0, .ref b)]) X dL_law_15 rfl (by decide) rfl ?_
    refine c_iconst (pc := 16) X dL_law_16 kc_0 ?_
    refine c_istore_n (pc := 17) (lv' := [(3, .int 0), (2, .ref (y.1 + 163)), (1, .ref (y.1 + 0)), (0, .ref b)]) X dL_law_17 rfl (by decide) rfl ?_
    refine c_sub [3, 2, 1, 0] (lv' := [(0, .ref b), (1, .ref (y.1 + 0)), (2, .ref (y.1 + 163)), (3, .int 0)]) rfl ?_
    intro H locs ls hH hS hl
    have X2 : CX y l (p, e, room_1, s, m, #[Value.ref b], below, meth, c, 187, 2352) cL_law 4 RL room_1 := ⟨hx, hb, hml, hown, htg, hNK, hKY, rfl, Nat.le_of_ble_eq_true rfl, Nat.le_of_ble_eq_true rfl⟩
    have LLX : LX y (p, e, room_1, s, m, #[Value.ref b], below, meth, c, 187, 2352) b L xs := ⟨hr, hlocks, hX, hbl, by show ¬ y.1 ≤ b; omega, rfl, by show s.heap.size ≤ y.1; omega, Nat.le_of_ble_eq_true rfl, Nat.le_of_ble_eq_true rfl⟩
    exact s_L_law_L18 X2 LLX hy FU 0 st0 () hT H locs ls (HR.start hH) hS hl
  exact key s.heap [] ls ⟨hy1.symm, fun i e h => by simp at h⟩ va_S.rf hl

