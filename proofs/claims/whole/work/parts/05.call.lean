/-! calls, returns, a method's contract -/
/-- a method's start -/
def PU (y : LY) (As : List Value) (σ : ST) : Array Value → State → Prop := fun a U => a = As.toArray ∧ HR y σ U.heap ∧ KY y U ∧ NK U ∧ y.1 ≤ U.heap.size
/-- a method's contract: from any heap that holds the state, with these arguments, it returns that, the heap holding that state; nothing below is touched -/
def MU (y : LY) (l : Launch) (ym : MethodName) (cc : ByteArray) (n : Nat) (r : Option FieldType) (rm : Room) (As : List Value) (σ : ST) (o : Option Value × ST) : Prop :=
  Met l ym (wsU ym cc n r) rm (PU y As σ) (QU y o) 0 0 (Ay y)
theorem PU.blind {y : LY} {As : List Value} {σ : ST} : FrameBlind (PU y As σ) := fun a U g mk h => ⟨h.1, h.2.1, va_K.moved (u := U) (U := U.calling g mk a) (Vm.Alike.refl U.vm) h.2.2.1, NK.same (u := U) (U := U.calling g mk a) rfl h.2.2.2.1, h.2.2.2.2⟩
/-- what the tables say of a method that is called: an object's one, a class's one -/
def CFv (ym : MethodName) (cc : ByteArray) (n : Nat) (r : Option FieldType) (k : Nat) : Prop :=
  Cond.instanceMethod ym ∈ lw_gd ∧ Cond.selects ym.cls ym ym ∈ lw_gd ∧ Cond.initialized ym.cls ∈ lw_gd ∧ Cond.code ym cc n r ∈ lw_gd ∧ (ym.cls ≠ "java/lang/invoke/MethodHandle" ∧ ym.cls ≠ "java/lang/invoke/VarHandle") ∧ (parseMethodDescriptor ym.desc).map (fun d => d.parameters.length) = some k
def CFs (ym : MethodName) (cc : ByteArray) (n : Nat) (r : Option FieldType) (k : Nat) : Prop :=
  Cond.static ym ∈ lw_gd ∧ Cond.initialized ym.cls ∈ lw_gd ∧ Cond.code ym cc n r ∈ lw_gd ∧ (ym.cls ≠ "java/lang/invoke/MethodHandle" ∧ ym.cls ≠ "java/lang/invoke/VarHandle") ∧ (parseMethodDescriptor ym.desc).map (fun d => d.parameters.length) = some k
def ML (own : String) (idx : Nat) (ym : MethodName) : Prop := Cond.methodLink own idx ym ∈ lw_gd ∨ ∃ host, Cond.methodLinkNest own idx ym host ∈ lw_ns
abbrev RF (rm rm' : Room) (n' : Nat) : Prop := rm'.cells = 0 ∧ rm'.slots = 0 ∧ rm'.frames + 1 ≤ rm.frames ∧ 8 + (n' + 11) + rm'.locals ≤ rm.locals
theorem ws_pay {args : Array Value} {s : State} {ym : MethodName} {cc : ByteArray} {n : Nat} {r : Option FieldType} (hts : ∀ w ∈ lw_gd, w.before args s = true) (hc : Cond.code ym cc n r ∈ lw_gd) : ∀ w ∈ wsU ym cc n r, ∀ (a' : Array Value) (U : State), s.WarmedH U.vm → w.before a' U = true := by
  intro w hw a' U hW
  have h : w ∈ lw_gd := by
    rcases List.mem_cons.mp hw with rfl | h
    · exact hc
    · exact h
  exact word_at hW (gd_gd h) (hts w h)
theorem par_len {d : String} {k : Nat} (h : (parseMethodDescriptor d).map (fun d => d.parameters.length) = some k) : ∀ sig, parseMethodDescriptor d = some sig → k = sig.parameters.length := by
  intro sig hs
  rw [hs] at h
  exact (Option.some.inj h).symm
section CallRows
variable {y : LY} {l : Launch} {E : ET} {nL : Nat} {α : Type} {Q : α → State → Prop} {pc : Nat} {lv : List (Nat × Value)} {st stk : List Value} {σ : ST} {M : Option α} {cc : ByteArray} {own : String} {rm : Room}
variable {ym : MethodName} {c' : ByteArray} {n' k' idx : Nat} {r' : Option FieldType} {rm' : Room} {As : List Value}
theorem r_goOn {β : Type} {F : β → Option α} {ψ : β → Option Value × ST} {a : α} {H : Heap} {locs : List Loc} {ls : Array Slot} {b : β} {aa' : Array Value}
    (hrun : va_Run (eP E) l (eE E) (eR E) (eS E) (eM E) (eA E) (eB E) (eT E) (eC E) H locs (eK E) (eL E) 0 0 (F0 (eM E) pc ls stk) st (QU y (ψ b) aa') (Ay y))
    (hS : va_S (Ay y) (eS E).heap H locs) (hl : lv_has ls nL lv) (ha : F b = some a)
    (kk : ∀ b, WW y l E nL Q (pc + 3) lv ((ψ b).1.toList ++ st) (ψ b).2 (F b)) : WE l E H locs (Q a) (F0 (eM E) pc ls stk) := by
  intro T0 hT X0
  obtain ⟨v, st₀, t, T', L, h0, X', hL, e1, e2, ⟨q1, q2, q3, q4⟩, go⟩ := hrun T0 hT X0
  cases q1
  rw [h0] at q3 q4
  obtain ⟨t2, a1, b1⟩ := kk b a ha T'.heap (locs ++ L) ls (by rw [e1]; exact q2) ⟨Nat.le_trans hS.1 (by rw [e1]; exact q3), fun q h1 h2 => by rw [e1, q4 q (Nat.lt_of_lt_of_le h1 hS.1) h2]; exact hS.2.1 q h1 h2, fun q hq => by
      rcases List.mem_append.mp hq with h | h
      · exact hS.2.2 q h
      · exact hL q h⟩ hl T' rfl X'
  exact ⟨t2, go t2 a1, b1⟩
theorem r_callv {β : Type} {T : Option β} {F : β → Option α} {ψ : β → Option Value × ST} {o : Nat} (X : CX y l E cc nL own rm) (hd : decode cc pc = .ok (.invokevirtual idx, 3)) (hC : CFv ym c' n' r' k') (hL : ML own idx ym) (hR : RF rm rm' n') (hy : y.1 ≤ (eS E).heap.size)
    (hO : o < 14) (hcl : clU[co o]? = some (ym.cls, (clU[co o]?.getD (RX0, TX0, 19)).2)) (hM : ∀ b, T = some b → MU y l ym c' n' r' rm' (.ref (ad y o) :: As) σ (ψ b)) (hn : As.length = k') (hstk : stk = As.reverse ++ .ref (ad y o) :: st) (hW : (st.map fun v => v.category).sum ≤ 8)
    (kk : ∀ b, WW y l E nL Q (pc + 3) lv ((ψ b).1.toList ++ st) (ψ b).2 (F b)) : WW y l E nL Q pc lv stk σ (T.bind F) := by
  intro a ha H locs ls hH hS hl
  cases hT : T with
  | none => rw [hT] at ha; cases ha
  | some b =>
    rw [hT] at ha
    obtain ⟨hx, hb, hml, hown, hts, hNK, hK, hrm, hk1, hk2⟩ := X
    obtain ⟨c1, c2, c3, c4, c5, c6⟩ := hC
    obtain ⟨r1, r2, r3, r4⟩ := hR
    subst hrm
    obtain ⟨cell, q1, q2, q3, -⟩ := hH.1 o hO
    have hfc := (hK.1 _ _ hcl).2.1
    have hP : PreV (eS E) H ym.cls (ad y o) (PU y (.ref (ad y o) :: As) σ) As := ⟨PU.blind, ⟨cell, q1, by rw [q3]; rfl, by rw [q2]; exact hfc⟩, fun U hU hW => ⟨rfl, by rw [hU]; exact hH, va_K.moved hW.alike hK, hNK.warm hW, by rw [hU]; exact Nat.le_trans hy hS.1⟩⟩
    have S : CallFix (eP E) (eM E) (eC E) cc nL (eS E) (eA E) lw_gd own := ⟨hx, hb, hml, hown, hts⟩
    have ha' : F b = some a := ha
    rcases hL with h | ⟨host, h⟩
    · exact r_goOn (va_runV S (hM b hT) ⟨⟨r1, r2, r3, r4, ws_pay hts c4, List.mem_cons_self, hts _ c4, hts _ c3, c5, par_len c6, hts _ h⟩, hts _ c1, hts _ c2⟩ hP rfl hn hl.1 hstk (lv_room hW) hd ⟨hk1, hk2⟩) hS hl ha' kk
    · exact r_goOn (va_runVN S (hM b hT) ⟨⟨⟨r1, r2, r3, r4, ws_pay hts c4, List.mem_cons_self⟩, hts _ c4, hts _ c3, c5, par_len c6, va_Nw.use rfl (hNK _ h)⟩, hts _ c1, hts _ c2⟩ hP rfl hn hl.1 hstk (lv_room hW) hd ⟨hk1, hk2⟩) hS hl ha' kk
theorem r_calls {β : Type} {T : Option β} {F : β → Option α} {ψ : β → Option Value × ST} (X : CX y l E cc nL own rm) (hd : decode cc pc = .ok (.invokestatic idx, 3)) (hC : CFs ym c' n' r' k') (hL : ML own idx ym) (hR : RF rm rm' n') (hy : y.1 ≤ (eS E).heap.size)
    (hM : ∀ b, T = some b → MU y l ym c' n' r' rm' As σ (ψ b)) (hn : As.length = k') (hstk : stk = As.reverse ++ st) (hW : (st.map fun v => v.category).sum ≤ 8)
    (kk : ∀ b, WW y l E nL Q (pc + 3) lv ((ψ b).1.toList ++ st) (ψ b).2 (F b)) : WW y l E nL Q pc lv stk σ (T.bind F) := by
  intro a ha H locs ls hH hS hl
  cases hT : T with
  | none => rw [hT] at ha; cases ha
  | some b =>
    rw [hT] at ha
    obtain ⟨hx, hb, hml, hown, hts, hNK, hK, hrm, hk1, hk2⟩ := X
    obtain ⟨c1, c3, c4, c5, c6⟩ := hC
    obtain ⟨r1, r2, r3, r4⟩ := hR
    subst hrm
    have hP : PreS (eS E) H (PU y As σ) As := ⟨PU.blind, fun U hU hW => ⟨rfl, by rw [hU]; exact hH, va_K.moved hW.alike hK, hNK.warm hW, by rw [hU]; exact Nat.le_trans hy hS.1⟩⟩
    have S : CallFix (eP E) (eM E) (eC E) cc nL (eS E) (eA E) lw_gd own := ⟨hx, hb, hml, hown, hts⟩
    have ha' : F b = some a := ha
    rcases hL with h | ⟨host, h⟩
    · exact r_goOn (va_runS S (hM b hT) ⟨⟨r1, r2, r3, r4, ws_pay hts c4, List.mem_cons_self, hts _ c4, hts _ c3, c5, par_len c6, hts _ h⟩, hts _ c1⟩ hP rfl hn hl.1 hstk (lv_room hW) hd ⟨hk1, hk2⟩) hS hl ha' kk
    · exact r_goOn (va_runSN S (hM b hT) ⟨⟨⟨r1, r2, r3, r4, ws_pay hts c4, List.mem_cons_self⟩, hts _ c4, hts _ c3, c5, par_len c6, va_Nw.use rfl (hNK _ h)⟩, hts _ c1, trivial⟩ hP rfl hn hl.1 hstk (lv_room hW) hd ⟨hk1, hk2⟩) hS hl ha' kk
theorem r_callvI {T : Option (Int32 × ST)} {F : Int32 → ST → Option α} {o : Nat} (X : CX y l E cc nL own rm) (hd : decode cc pc = .ok (.invokevirtual idx, 3)) (hC : CFv ym c' n' r' k') (hL : ML own idx ym) (hR : RF rm rm' n') (hy : y.1 ≤ (eS E).heap.size) (hO : o < 14) (hcl : clU[co o]? = some (ym.cls, (clU[co o]?.getD (RX0, TX0, 19)).2)) (hM : ∀ b, T = some b → MU y l ym c' n' r' rm' (.ref (ad y o) :: As) σ (xI b)) (hn : As.length = k') (hstk : stk = As.reverse ++ .ref (ad y o) :: st) (hW : (st.map fun v => v.category).sum ≤ 8) (kk : ∀ x σ', WW y l E nL Q (pc + 3) lv (.int x :: st) σ' (F x σ')) : WW y l E nL Q pc lv stk σ (cI T F) :=
  r_callv (ψ := xI) X hd hC hL hR hy hO hcl hM hn hstk hW (fun q => kk q.1 q.2)
theorem r_callvJ {T : Option (Int64 × ST)} {F : Int64 → ST → Option α} {o : Nat} (X : CX y l E cc nL own rm) (hd : decode cc pc = .ok (.invokevirtual idx, 3)) (hC : CFv ym c' n' r' k') (hL : ML own idx ym) (hR : RF rm rm' n') (hy : y.1 ≤ (eS E).heap.size) (hO : o < 14) (hcl : clU[co o]? = some (ym.cls, (clU[co o]?.getD (RX0, TX0, 19)).2)) (hM : ∀ b, T = some b → MU y l ym c' n' r' rm' (.ref (ad y o) :: As) σ (xJ b)) (hn : As.length = k') (hstk : stk = As.reverse ++ .ref (ad y o) :: st) (hW : (st.map fun v => v.category).sum ≤ 8) (kk : ∀ x σ', WW y l E nL Q (pc + 3) lv (.long x :: st) σ' (F x σ')) : WW y l E nL Q pc lv stk σ (cJ T F) :=
  r_callv (ψ := xJ) X hd hC hL hR hy hO hcl hM hn hstk hW (fun q => kk q.1 q.2)
theorem r_callvV {T : Option ST} {F : ST → Option α} {o : Nat} (X : CX y l E cc nL own rm) (hd : decode cc pc = .ok (.invokevirtual idx, 3)) (hC : CFv ym c' n' r' k') (hL : ML own idx ym) (hR : RF rm rm' n') (hy : y.1 ≤ (eS E).heap.size) (hO : o < 14) (hcl : clU[co o]? = some (ym.cls, (clU[co o]?.getD (RX0, TX0, 19)).2)) (hM : ∀ b, T = some b → MU y l ym c' n' r' rm' (.ref (ad y o) :: As) σ (xV b)) (hn : As.length = k') (hstk : stk = As.reverse ++ .ref (ad y o) :: st) (hW : (st.map fun v => v.category).sum ≤ 8) (kk : ∀ σ', WW y l E nL Q (pc + 3) lv st σ' (F σ')) : WW y l E nL Q pc lv stk σ (cV T F) :=
  r_callv (ψ := xV) X hd hC hL hR hy hO hcl hM hn hstk hW (fun q => kk q)
theorem r_callvp {T : Option Int32} {F : Int32 → Option α} {o : Nat} (X : CX y l E cc nL own rm) (hd : decode cc pc = .ok (.invokevirtual idx, 3)) (hC : CFv ym c' n' r' k') (hL : ML own idx ym) (hR : RF rm rm' n') (hy : y.1 ≤ (eS E).heap.size) (hO : o < 14) (hcl : clU[co o]? = some (ym.cls, (clU[co o]?.getD (RX0, TX0, 19)).2)) (hM : ∀ b, T = some b → MU y l ym c' n' r' rm' (.ref (ad y o) :: As) σ (xp σ b)) (hn : As.length = k') (hstk : stk = As.reverse ++ .ref (ad y o) :: st) (hW : (st.map fun v => v.category).sum ≤ 8) (kk : ∀ x, WW y l E nL Q (pc + 3) lv (.int x :: st) σ (F x)) : WW y l E nL Q pc lv stk σ (cV T F) :=
  r_callv (ψ := xp σ) X hd hC hL hR hy hO hcl hM hn hstk hW (fun q => kk q)
theorem r_callvq {T : Option Int64} {F : Int64 → Option α} {o : Nat} (X : CX y l E cc nL own rm) (hd : decode cc pc = .ok (.invokevirtual idx, 3)) (hC : CFv ym c' n' r' k') (hL : ML own idx ym) (hR : RF rm rm' n') (hy : y.1 ≤ (eS E).heap.size) (hO : o < 14) (hcl : clU[co o]? = some (ym.cls, (clU[co o]?.getD (RX0, TX0, 19)).2)) (hM : ∀ b, T = some b → MU y l ym c' n' r' rm' (.ref (ad y o) :: As) σ (xq σ b)) (hn : As.length = k') (hstk : stk = As.reverse ++ .ref (ad y o) :: st) (hW : (st.map fun v => v.category).sum ≤ 8) (kk : ∀ x, WW y l E nL Q (pc + 3) lv (.long x :: st) σ (F x)) : WW y l E nL Q pc lv stk σ (cV T F) :=
  r_callv (ψ := xq σ) X hd hC hL hR hy hO hcl hM hn hstk hW (fun q => kk q)
theorem r_callsI {T : Option (Int32 × ST)} {F : Int32 → ST → Option α} (X : CX y l E cc nL own rm) (hd : decode cc pc = .ok (.invokestatic idx, 3)) (hC : CFs ym c' n' r' k') (hL : ML own idx ym) (hR : RF rm rm' n') (hy : y.1 ≤ (eS E).heap.size)  (hM : ∀ b, T = some b → MU y l ym c' n' r' rm' (As) σ (xI b)) (hn : As.length = k') (hstk : stk = As.reverse ++ st) (hW : (st.map fun v => v.category).sum ≤ 8) (kk : ∀ x σ', WW y l E nL Q (pc + 3) lv (.int x :: st) σ' (F x σ')) : WW y l E nL Q pc lv stk σ (cI T F) :=
  r_calls (ψ := xI) X hd hC hL hR hy  hM hn hstk hW (fun q => kk q.1 q.2)
theorem r_callsJ {T : Option (Int64 × ST)} {F : Int64 → ST → Option α} (X : CX y l E cc nL own rm) (hd : decode cc pc = .ok (.invokestatic idx, 3)) (hC : CFs ym c' n' r' k') (hL : ML own idx ym) (hR : RF rm rm' n') (hy : y.1 ≤ (eS E).heap.size)  (hM : ∀ b, T = some b → MU y l ym c' n' r' rm' (As) σ (xJ b)) (hn : As.length = k') (hstk : stk = As.reverse ++ st) (hW : (st.map fun v => v.category).sum ≤ 8) (kk : ∀ x σ', WW y l E nL Q (pc + 3) lv (.long x :: st) σ' (F x σ')) : WW y l E nL Q pc lv stk σ (cJ T F) :=
  r_calls (ψ := xJ) X hd hC hL hR hy  hM hn hstk hW (fun q => kk q.1 q.2)
theorem r_callsV {T : Option ST} {F : ST → Option α} (X : CX y l E cc nL own rm) (hd : decode cc pc = .ok (.invokestatic idx, 3)) (hC : CFs ym c' n' r' k') (hL : ML own idx ym) (hR : RF rm rm' n') (hy : y.1 ≤ (eS E).heap.size)  (hM : ∀ b, T = some b → MU y l ym c' n' r' rm' (As) σ (xV b)) (hn : As.length = k') (hstk : stk = As.reverse ++ st) (hW : (st.map fun v => v.category).sum ≤ 8) (kk : ∀ σ', WW y l E nL Q (pc + 3) lv st σ' (F σ')) : WW y l E nL Q pc lv stk σ (cV T F) :=
  r_calls (ψ := xV) X hd hC hL hR hy  hM hn hstk hW (fun q => kk q)
theorem r_callsp {T : Option Int32} {F : Int32 → Option α} (X : CX y l E cc nL own rm) (hd : decode cc pc = .ok (.invokestatic idx, 3)) (hC : CFs ym c' n' r' k') (hL : ML own idx ym) (hR : RF rm rm' n') (hy : y.1 ≤ (eS E).heap.size)  (hM : ∀ b, T = some b → MU y l ym c' n' r' rm' (As) σ (xp σ b)) (hn : As.length = k') (hstk : stk = As.reverse ++ st) (hW : (st.map fun v => v.category).sum ≤ 8) (kk : ∀ x, WW y l E nL Q (pc + 3) lv (.int x :: st) σ (F x)) : WW y l E nL Q pc lv stk σ (cV T F) :=
  r_calls (ψ := xp σ) X hd hC hL hR hy  hM hn hstk hW (fun q => kk q)
theorem r_callsq {T : Option Int64} {F : Int64 → Option α} (X : CX y l E cc nL own rm) (hd : decode cc pc = .ok (.invokestatic idx, 3)) (hC : CFs ym c' n' r' k') (hL : ML own idx ym) (hR : RF rm rm' n') (hy : y.1 ≤ (eS E).heap.size)  (hM : ∀ b, T = some b → MU y l ym c' n' r' rm' (As) σ (xq σ b)) (hn : As.length = k') (hstk : stk = As.reverse ++ st) (hW : (st.map fun v => v.category).sum ≤ 8) (kk : ∀ x, WW y l E nL Q (pc + 3) lv (.long x :: st) σ (F x)) : WW y l E nL Q pc lv stk σ (cV T F) :=
  r_calls (ψ := xq σ) X hd hC hL hR hy  hM hn hstk hW (fun q => kk q)
end CallRows
section RetRows
variable {y : LY} {l : Launch} {E : ET} {nL : Nat} {α : Type} {φ : α → Option Value × ST} {pc : Nat} {lv : List (Nat × Value)} {σ : ST} {cc : ByteArray} {own : String} {rm : Room}
theorem r_iret {x : Int32} {a : α} (X : CX y l E cc nL own rm) (Z : ZX E (some .int)) (hd : decode cc pc = .ok (.ireturn, 1)) (hφ : φ a = (some (.int x), σ)) : WW y l E nL (fun a => QM y E (φ a)) pc lv [.int x] σ (some a) := by
  intro a' ha H locs ls hH hS hl
  cases ha
  obtain ⟨z1, z2, z3, z4⟩ := Z
  have w := W.iret (H := H) (locs := locs) (cells := 0) (slots := 0) (Qc := QU y (φ a)) (free := Ay y) (v := x) (l := l) (R := eR E) (p := eP E) (e := eE E) (s := eS E) (m := eM E) (args := eA E) (below := eB E) (ls := ls) X.1 X.2.1 z1 (fun t ht hW => by rw [QU, hφ]; exact ⟨rfl, by rw [ht]; exact hH, hS.F ht⟩) hS.2.2 hd z2
  show W _ _ _ _ _ _ _ _ _ _ _ _ (eK E) (eL E) _ _
  rw [z3, z4]
  exact w
theorem r_zret {x : Int32} {a : α} (X : CX y l E cc nL own rm) (Z : ZX E (some .boolean)) (hd : decode cc pc = .ok (.ireturn, 1)) (hφ : φ a = (some (.int x), σ)) (hx : x = 0 ∨ x = 1) : WW y l E nL (fun a => QM y E (φ a)) pc lv [.int x] σ (some a) := by
  intro a' ha H locs ls hH hS hl
  cases ha
  obtain ⟨z1, z2, z3, z4⟩ := Z
  have w := W.zret (H := H) (locs := locs) (cells := 0) (slots := 0) (Qc := QU y (φ a)) (free := Ay y) (v := x) (l := l) (R := eR E) (p := eP E) (e := eE E) (s := eS E) (m := eM E) (args := eA E) (below := eB E) (ls := ls) X.1 X.2.1 z1 (nar_z hx) (fun t ht hW => by rw [QU, hφ]; exact ⟨rfl, by rw [ht]; exact hH, hS.F ht⟩) hS.2.2 hd z2
  show W _ _ _ _ _ _ _ _ _ _ _ _ (eK E) (eL E) _ _
  rw [z3, z4]
  exact w
theorem r_zretz {x : Int32} {a : α} (X : CX y l E cc nL own rm) (Z : ZX E (some .boolean)) (hd : decode cc pc = .ok (.ireturn, 1)) (hφ : φ a = (some (.int x), σ)) : WW y l E nL (fun a => QM y E (φ a)) pc lv [.int x] σ (rz x (some a)) := by
  by_cases h : x = 0 ∨ x = 1
  · exact r_of (by simp only [rz]; rw [if_pos h]) (r_zret X Z hd hφ h)
  · exact r_none (by simp only [rz]; rw [if_neg h])
theorem r_lret {x : Int64} {a : α} (X : CX y l E cc nL own rm) (Z : ZX E (some .long)) (hd : decode cc pc = .ok (.lreturn, 1)) (hφ : φ a = (some (.long x), σ)) : WW y l E nL (fun a => QM y E (φ a)) pc lv [.long x] σ (some a) := by
  intro a' ha H locs ls hH hS hl
  cases ha
  obtain ⟨z1, z2, z3, z4⟩ := Z
  have w := W.lret (H := H) (locs := locs) (cells := 0) (slots := 0) (Qc := QU y (φ a)) (free := Ay y) (v := x) (l := l) (R := eR E) (p := eP E) (e := eE E) (s := eS E) (m := eM E) (args := eA E) (below := eB E) (ls := ls) X.1 X.2.1 z1 (fun t ht hW => by rw [QU, hφ]; exact ⟨rfl, by rw [ht]; exact hH, hS.F ht⟩) hS.2.2 hd z2
  show W _ _ _ _ _ _ _ _ _ _ _ _ (eK E) (eL E) _ _
  rw [z3, z4]
  exact w
theorem r_vret {a : α} (X : CX y l E cc nL own rm) (Z : ZX E none) (hd : decode cc pc = .ok (.return_, 1)) (hφ : φ a = (none, σ)) : WW y l E nL (fun a => QM y E (φ a)) pc lv [] σ (some a) := by
  intro a' ha H locs ls hH hS hl
  cases ha
  obtain ⟨z1, z2, z3, z4⟩ := Z
  have w := W.vret (H := H) (locs := locs) (cells := 0) (slots := 0) (Qc := QU y (φ a)) (free := Ay y) (l := l) (R := eR E) (p := eP E) (e := eE E) (s := eS E) (m := eM E) (args := eA E) (below := eB E) (ls := ls) X.1 X.2.1 z1 (fun t ht hW => by rw [QU, hφ]; exact ⟨rfl, by rw [ht]; exact hH, hS.F ht⟩) hS.2.2 hd z2
  show W _ _ _ _ _ _ _ _ _ _ _ _ (eK E) (eL E) _ _
  rw [z3, z4]
  exact w
end RetRows
theorem Met_ofWF {l : Launch} {y : MethodName} {ws ws' : List Cond} {rm : Room} {Pc : Array Value → State → Prop} {Qc : Array Value → State → Outcome → State → Prop} {mc ms : Nat} {free : Addr → Prop} {cc : ByteArray} {maxL : Nat} {ret : Option FieldType}
    (hy : plainFor y = true) (hw : ws = Cond.code y cc maxL ret :: ws')
    (body : ∀ p e s m args below meth c s₁, BodyLoose p l y (headSpec ws rm) cc maxL ret e s m args below meth c s₁ → c.maxLocals = maxL → Pc args s →
      W p l e (headSpec ws rm).room s m args below meth c s.heap [] 0 0 (MQ below Qc args s mc ms free) (entryFrame m args maxL)) : Met l y ws rm Pc Qc mc ms free := by
  refine MetFree.of_bodySF (code := cc) (maxLocals := maxL) (ret := ret) hy ?_ ?_
  · intro args s m h hn
    obtain ⟨meth, c, h1, h2, h3, h4, h5, h6, -, -⟩ := Cond.code_spec hn (atoms_spec (ws := ws) h _ (by rw [hw]; exact List.mem_cons_self))
    exact ⟨meth, c, h1, h2, h3, h4, h5, h6⟩
  · intro p e s m args below meth c s₁ B hml hP _
    have hh0 : s₁.heap = s.heap := by rw [B.state]; rfl
    obtain ⟨t, a1, o, b1, b2, b3⟩ := body p e s m args below meth c s₁ B hml hP s₁ hh0 (Stand.of_body B)
    exact ⟨t, o, a1, b1, b2, ⟨b3.1, b3.2⟩⟩
/-- a method's contract out of the walk of its body -/
theorem MU.of {y : LY} {l : Launch} {ym : MethodName} {cc : ByteArray} {n : Nat} {r : Option FieldType} {rm : Room} {As : List Value} {σ : ST} {α : Type} {φ : α → Option Value × ST} {M : Option α} {a : α} (hM : M = some a) (hy : plainFor ym = true) (hn : Nat.ble (lg_sl As).length n = true)
    (body : ∀ E : ET, CX y l E cc n ym.cls rm → ZX E r → y.1 ≤ (eS E).heap.size → WW y l E n (fun a => QM y E (φ a)) 0 (lv_args 0 As) [] σ M) : MU y l ym cc n r rm As σ (φ a) := by
  refine Met_ofWF (cc := cc) (maxL := n) (ret := r) (ws' := lw_gd) hy rfl ?_
  intro p e s m args below meth c s₁ B hml hv
  obtain ⟨rfl, hH, hK, hNK, hsz⟩ := hv
  have hts := atoms_spec (ws := wsU ym cc n r) B.pre
  have hown : s.vm.findClass ym.cls = some m.cls := findClass_of_methodNamed B.named
  have hlv := lv_entry As (n := n) (Nat.le_of_ble_eq_true hn)
  rw [lg_entry_eq]
  exact body (p, e, (headSpec (wsU ym cc n r) rm).room, s, m, As.toArray, below, meth, c, 0, 0) ⟨B.exec, B.bytes, hml, hown, fun w hw => hts w (List.mem_cons_of_mem _ hw), hNK, hK, rfl, Nat.zero_le _, Nat.zero_le _⟩ ⟨B.returns, B.notSynchronized, rfl, rfl⟩ hsz a hM s.heap [] _ hH va_S.rf hlv

abbrev rmd (d : Nat) : Room := { frames := d, cells := 0, slots := 0, locals := 40 * d }
theorem rf {d d' n' : Nat} (h : Nat.blt d' d = true) (hn : Nat.ble n' 21 = true) : RF (rmd d) (rmd d') n' := by
  have h1 : d' < d := Nat.le_of_ble_eq_true h
  have h2 : n' ≤ 21 := Nat.le_of_ble_eq_true hn
  refine ⟨rfl, rfl, h1, ?_⟩
  show 8 + (n' + 11) + 40 * d' ≤ 40 * d
  omega
theorem hc_0 {o : Nat} (h : 1 ≤ o ∧ o ≤ 11) : clU[co o]? = some (RX0, (clU[co o]?.getD (RX0, TX0, 19)).2) := by
  rw [co_st h]; rfl
theorem hc_1 : clU[co 12]? = some (RX1, (clU[co 12]?.getD (RX0, TX0, 19)).2) := rfl
theorem hc_2 : clU[co 0]? = some (RX2, (clU[co 0]?.getD (RX0, TX0, 19)).2) := rfl
theorem hc_3 : clU[co 13]? = some (RX3, (clU[co 13]?.getD (RX0, TX0, 19)).2) := rfl
