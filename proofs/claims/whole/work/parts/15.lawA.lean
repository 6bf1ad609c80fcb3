/-! THE CLAIM OUT OF ONE WALK OF THE LAW'S BODY. Your part is whole_start (and what it stands on); all else here is the same for every law, but numbers. -/
def R_law : String := "HandbagLadyLaw"
def lw_P (b : Addr) (xs : List Int32) (args : Array Value) (s : State) : Prop := args = #[.ref b] ∧ s.IntsAt b xs ∧ xs.length ≤ 3072 ∧ (Jvm.Cond.and given_1 narrow_1).before args s = true
def lw_Q (_ : Array Value) (s : State) (o : Outcome) (t : State) : Prop := o = .returned (some (.int 1)) ∧ Framed s o t [] 600000 7302250
def lw_Z (below : List Frame) (a : Array Value) (s : State) : State → Prop := fun t => ∃ o, t.status = .running ∧ Ended t below o ∧ lw_Q a s o t
/-- the law's own end, with 1 on the stack, nothing written that was there before, its room as the claim has it -/
theorem lw_ret {p : Program} {l : Launch} {e : Env} {s : State} {m : MethodId} {below : List Frame} {meth : Method} {c : Code} {b : Nat} (hx : p.tables.exec = Jvm.exec) (hb : c.code = code) (hr : meth.sig.returnType = ret) (hlocks : meth.locks = false) {pc : Nat} {H : Heap} {ls : Array Slot} (hdg : decode code pc = .ok (.ireturn, 1)) : W p l e room_1 s m #[Value.ref b] below meth c H [] 600000 7302250 (lw_Z below #[Value.ref b] s) (F0 m pc ls [.int 1]) := by
  intro T hT X
  obtain ⟨fs, hret, hrun, hended, hW, hframe⟩ := X.leave (v := some (.int 1)) (hlocks := hlocks) (fun h => by rw [hr] at h; cases h)
  have hmeth' : T.vm.method? m = some meth := X.method'
  refine ⟨T.setFrames fs, ?_, .returned (some (.int 1)), hrun, hended, rfl, ⟨_, rfl⟩, hW, hframe⟩
  jvm_step X.here [X.here.top, hx, hb, hdg, hmeth', hr, ret, narrow_b1]
  (try refine ⟨rfl, ?_⟩); (try refine ⟨rfl, ?_⟩)
  first | (intro acts; rw [hret _ acts rfl rfl rfl]) | rw [hret _ _ rfl rfl rfl]
  exact Steps.refl _
/-- what holds at the law's entry: the machine, the code, the tables' words (any of lw_tbl by 'hts w (by decide +kernel)'), the script of L ints xs at the cell b, what the Statement gives of the start (any of its parts by flat_of_before) -/
def lw_At (p : Program) (s : State) (m : MethodId) (meth : Method) (c : Code) (b L : Nat) (xs : Nat → Int32) : Prop :=
  p.tables.exec = Jvm.exec ∧ c.code = code ∧ meth.sig.returnType = ret ∧ c.maxLocals = 4 ∧ s.vm.findClass R_law = some m.cls ∧ (∀ w ∈ lw_tbl, w.before #[Value.ref b] s = true) ∧ va_X b L xs s s.heap ∧ b < s.heap.size ∧ meth.locks = false ∧ (Jvm.Cond.and given_1 narrow_1).before #[Value.ref b] s = true

/-- the law's own start, at a place of its loop -/
def LX (y : LY) (E : ET) (b L : Nat) (xs : Nat → Int32) : Prop := (eT E).sig.returnType = ret ∧ (eT E).locks = false ∧ va_X b L xs (eS E) (eS E).heap ∧ b < (eS E).heap.size ∧ ¬ Ay y b ∧ eA E = #[Value.ref b] ∧ (eS E).heap.size ≤ y.1 ∧ eK E ≤ 600000 ∧ eL E ≤ 7302250
def lds {α : Type} (xs : Nat → Int32) (L : Nat) (i : Int32) (F : Int32 → Option α) : Option α := if i < 0 ∨ L ≤ i.toNatClampNeg then none else F (xs i.toNatClampNeg)
theorem rfL {d n' : Nat} (h : Nat.ble d 11 = true) (hn : Nat.ble n' 21 = true) : RF room_1 (rmd d) n' := by
  have h1 : d ≤ 11 := Nat.le_of_ble_eq_true h
  have h2 : n' ≤ 21 := Nat.le_of_ble_eq_true hn
  refine ⟨rfl, rfl, ?_, ?_⟩
  · show d + 1 ≤ 13
    omega
  · show 8 + (n' + 11) + 40 * d ≤ 506
    omega
section LawRows
variable {y : LY} {l : Launch} {E : ET} {nL : Nat} {α : Type} {Q : α → State → Prop} {pc : Nat} {lv : List (Nat × Value)} {st : List Value} {σ : ST} {M : Option α} {cc : ByteArray} {own : String} {rm : Room} {b L : Nat} {xs : Nat → Int32}
theorem r_slen (X : CX y l E cc nL own rm) (hd : decode cc pc = .ok (.arraylength, 1)) (Z : LX y E b L xs) (k : WW y l E nL Q (pc + 1) lv (.int (Int32.ofNat L) :: st) σ M) : WW y l E nL Q pc lv (.ref b :: st) σ M := by
  intro a ha H locs ls hH hS hl
  obtain ⟨-, -, hX, hbl, hbA, -⟩ := Z
  exact va_slen X.1 X.2.1 hX hbl hbA hS hd (k a ha H locs ls hH hS hl)
theorem r_sld {i : Int32} {F : Int32 → Option α} (X : CX y l E cc nL own rm) (hd : decode cc pc = .ok (.iaload, 1)) (Z : LX y E b L xs) (k : ∀ x, WW y l E nL Q (pc + 1) lv (.int x :: st) σ (F x)) : WW y l E nL Q pc lv (.int i :: .ref b :: st) σ (lds xs L i F) := by
  by_cases hin : i < 0 ∨ L ≤ i.toNatClampNeg
  · exact r_none (by simp only [lds]; rw [if_pos hin])
  · refine r_of (M' := F (xs i.toNatClampNeg)) (by simp only [lds]; rw [if_neg hin]) ?_
    intro a ha H locs ls hH hS hl
    obtain ⟨-, -, hX, hbl, hbA, -⟩ := Z
    exact va_sld X.1 X.2.1 hX hbl hbA hS hin hd (k _ a ha H locs ls hH hS hl)
theorem r_lawret (X : CX y l E cL_law nL own room_1) (hd0 : LX y E b L xs) (hd : decode cL_law pc = .ok (.ireturn, 1)) : WW y l E nL (fun _ : Unit => lw_Z (eB E) (eA E) (eS E)) pc lv [.int 1] σ (some ()) := by
  intro a ha H locs ls hH hS hl
  obtain ⟨z1, z2, -, -, -, z3, z4, z5, z6⟩ := hd0
  obtain ⟨hx, hb, -, -, -, -, -, hrm, -, -⟩ := X
  show W (eP E) l (eE E) (eR E) (eS E) (eM E) (eA E) (eB E) (eT E) (eC E) H locs (eK E) (eL E) (lw_Z (eB E) (eA E) (eS E)) (F0 (eM E) pc ls [.int 1])
  rw [z3, hrm]
  refine W.widen z5 z6 (va_forget (fun q hq => Nat.le_trans z4 (hS.2.2 q hq)) ?_)
  exact lw_ret hx hb z1 z2 hd
end LawRows
