/-! THE STATE that both classes read and write, and how it lies in the heap: V o k i is field k of object o at place i (a plain field at place 0);
the second part says which street stands at a place of the row of streets -/
abbrev VT : Type := Nat → Nat → Nat → Int32
abbrev ST : Type := VT × (Nat → Nat)
/-- where it lies: the first address, the classes, the places of the fields, the two classes of arrays -/
abbrev LY : Type := Nat × (Nat → ClassId) × (Nat → Nat → Nat) × ClassId × ClassId
abbrev clU : List vw_C := [(RX0, TX0, 19), (RX1, TX1, 5), (RX2, TX2, 13), (RX3, TX3, 38)]
def co (o : Nat) : Nat := if o = 0 then 2 else if o ≤ 11 then 0 else if o = 12 then 1 else 3
def NF (c : Nat) : Nat := ([19, 5, 13, 38] : List Nat).getD c 0
def fkL : List (List Nat) := [[0, 7, 7, 7, 7, 7, 7, 0, 6, 6, 6, 6, 6, 0, 0, 6, 6, 0, 0], [5, 5, 0, 0, 0], [1001, 1002, 1003, 0, 2000, 0, 97, 0, 13, 0, 8, 11, 1012], [8, 7, 7, 7, 7, 7, 6, 6, 6, 6, 6, 0, 0, 0, 0, 97, 49, 49, 145, 0, 0, 0, 661, 0, 0, 0, 0, 6, 6, 0, 0, 0, 6, 7, 13, 0, 11, 65]]
def fk (c k : Nat) : Nat := (fkL.getD c []).getD k 0
def nadL : List Nat := [0, 1, 15, 29, 51, 65, 79, 93, 107, 121, 135, 149, 48, 163]
def naaL : List (List Nat) := [[0, 0, 0, 0, 43, 0, 44, 0, 45, 0, 46, 47, 0], [0, 2, 3, 4, 5, 6, 7, 0, 8, 9, 10, 11, 12, 0, 0, 13, 14, 0, 0], [0, 16, 17, 18, 19, 20, 21, 0, 22, 23, 24, 25, 26, 0, 0, 27, 28, 0, 0], [0, 30, 31, 32, 33, 34, 35, 0, 36, 37, 38, 39, 40, 0, 0, 41, 42, 0, 0], [0, 52, 53, 54, 55, 56, 57, 0, 58, 59, 60, 61, 62, 0, 0, 63, 64, 0, 0], [0, 66, 67, 68, 69, 70, 71, 0, 72, 73, 74, 75, 76, 0, 0, 77, 78, 0, 0], [0, 80, 81, 82, 83, 84, 85, 0, 86, 87, 88, 89, 90, 0, 0, 91, 92, 0, 0], [0, 94, 95, 96, 97, 98, 99, 0, 100, 101, 102, 103, 104, 0, 0, 105, 106, 0, 0], [0, 108, 109, 110, 111, 112, 113, 0, 114, 115, 116, 117, 118, 0, 0, 119, 120, 0, 0], [0, 122, 123, 124, 125, 126, 127, 0, 128, 129, 130, 131, 132, 0, 0, 133, 134, 0, 0], [0, 136, 137, 138, 139, 140, 141, 0, 142, 143, 144, 145, 146, 0, 0, 147, 148, 0, 0], [0, 150, 151, 152, 153, 154, 155, 0, 156, 157, 158, 159, 160, 0, 0, 161, 162, 0, 0], [49, 50, 0, 0, 0], [164, 165, 166, 167, 168, 169, 170, 171, 172, 173, 174, 0, 0, 0, 0, 175, 176, 177, 178, 0, 0, 0, 179, 0, 0, 0, 0, 180, 181, 0, 0, 0, 182, 183, 184, 0, 185, 186]]
def invL : List (Nat × Nat) := [(0, 0), (1, 0), (1, 2), (1, 3), (1, 4), (1, 5), (1, 6), (1, 7), (1, 9), (1, 10), (1, 11), (1, 12), (1, 13), (1, 16), (1, 17), (2, 0), (2, 2), (2, 3), (2, 4), (2, 5), (2, 6), (2, 7), (2, 9), (2, 10), (2, 11), (2, 12), (2, 13), (2, 16), (2, 17), (3, 0), (3, 2), (3, 3), (3, 4), (3, 5), (3, 6), (3, 7), (3, 9), (3, 10), (3, 11), (3, 12), (3, 13), (3, 16), (3, 17), (0, 5), (0, 7), (0, 9), (0, 11), (0, 12), (12, 0), (12, 1), (12, 2), (4, 0), (4, 2), (4, 3), (4, 4), (4, 5), (4, 6), (4, 7), (4, 9), (4, 10), (4, 11), (4, 12), (4, 13), (4, 16), (4, 17), (5, 0), (5, 2), (5, 3), (5, 4), (5, 5), (5, 6), (5, 7), (5, 9), (5, 10), (5, 11), (5, 12), (5, 13), (5, 16), (5, 17), (6, 0), (6, 2), (6, 3), (6, 4), (6, 5), (6, 6), (6, 7), (6, 9), (6, 10), (6, 11), (6, 12), (6, 13), (6, 16), (6, 17), (7, 0), (7, 2), (7, 3), (7, 4), (7, 5), (7, 6), (7, 7), (7, 9), (7, 10), (7, 11), (7, 12), (7, 13), (7, 16), (7, 17), (8, 0), (8, 2), (8, 3), (8, 4), (8, 5), (8, 6), (8, 7), (8, 9), (8, 10), (8, 11), (8, 12), (8, 13), (8, 16), (8, 17), (9, 0), (9, 2), (9, 3), (9, 4), (9, 5), (9, 6), (9, 7), (9, 9), (9, 10), (9, 11), (9, 12), (9, 13), (9, 16), (9, 17), (10, 0), (10, 2), (10, 3), (10, 4), (10, 5), (10, 6), (10, 7), (10, 9), (10, 10), (10, 11), (10, 12), (10, 13), (10, 16), (10, 17), (11, 0), (11, 2), (11, 3), (11, 4), (11, 5), (11, 6), (11, 7), (11, 9), (11, 10), (11, 11), (11, 12), (11, 13), (11, 16), (11, 17), (13, 0), (13, 1), (13, 2), (13, 3), (13, 4), (13, 5), (13, 6), (13, 7), (13, 8), (13, 9), (13, 10), (13, 11), (13, 16), (13, 17), (13, 18), (13, 19), (13, 23), (13, 28), (13, 29), (13, 33), (13, 34), (13, 35), (13, 37), (13, 38)]
def nad (o : Nat) : Nat := nadL.getD o 0
def naa (o k : Nat) : Nat := (naaL.getD o []).getD k 0
def ad (y : LY) (o : Nat) : Nat := y.1 + nad o
def aa (y : LY) (o k : Nat) : Nat := y.1 + naa o k
def isA (o k : Nat) : Bool := Nat.ble 2 (fk (co o) k) && Nat.blt (fk (co o) k) 1000
theorem inv_ad : ∀ o, o < 14 → invL[nad o]? = some (o, 0) := by decide +kernel
theorem inv_aa : ∀ o, o < 14 → ∀ k, k < 38 → isA o k = true → invL[naa o k]? = some (o, k + 1) := by decide +kernel
theorem inv_ap : invL[naa 0 4]? = some (0, 5) := by decide +kernel
theorem isA_p : isA 0 4 = false := by decide +kernel
theorem ad_inj {y : LY} {o o' : Nat} (h : o < 14) (h' : o' < 14) (e : ad y o = ad y o') : o = o' := by
  have e1 : nad o = nad o' := Nat.add_left_cancel e
  have a := inv_ad o h
  rw [e1, inv_ad o' h'] at a
  simpa using (Option.some.inj a).symm
theorem aa_inj {y : LY} {o o' k k' : Nat} (h : o < 14) (h' : o' < 14) (hk : k < 38) (hk' : k' < 38) (ha : isA o k = true) (ha' : isA o' k' = true) (e : aa y o k = aa y o' k') : o = o' ∧ k = k' := by
  have e1 : naa o k = naa o' k' := Nat.add_left_cancel e
  have a := inv_aa o h k hk ha
  rw [e1, inv_aa o' h' k' hk' ha'] at a
  have b := Option.some.inj a
  simp at b
  exact ⟨b.1.symm, b.2.symm⟩
theorem ad_aa {y : LY} {o o' k : Nat} (h : o < 14) (h' : o' < 14) (hk : k < 38) (ha : isA o' k = true) : ad y o ≠ aa y o' k := by
  intro e
  have e1 : nad o = naa o' k := Nat.add_left_cancel e
  have a := inv_ad o h
  rw [e1, inv_aa o' h' k hk ha] at a
  simp at a
theorem ad_ap {y : LY} {o : Nat} (h : o < 14) : ad y o ≠ aa y 0 4 := by
  intro e
  have e1 : nad o = naa 0 4 := Nat.add_left_cancel e
  have a := inv_ad o h
  rw [e1, inv_ap] at a
  simp at a
theorem aa_ap {y : LY} {o k : Nat} (h : o < 14) (hk : k < 38) (ha : isA o k = true) : aa y o k ≠ aa y 0 4 := by
  intro e
  have e1 : naa o k = naa 0 4 := Nat.add_left_cancel e
  have a := inv_aa o h k hk ha
  rw [e1, inv_ap] at a
  have b := Option.some.inj a
  simp at b
  obtain ⟨rfl, rfl⟩ := b
  rw [isA_p] at ha
  cases ha
def fv (y : LY) (σ : ST) (o k : Nat) : Value := if fk (co o) k = 0 then .int (σ.1 o k 0) else if fk (co o) k < 1000 then .ref (aa y o k) else if fk (co o) k < 2000 then .ref (ad y (fk (co o) k - 1000)) else .ref (aa y o k)
def HR (y : LY) (σ : ST) (H : Heap) : Prop :=
  (∀ o, o < 14 → t_OB (ad y o) (y.2.1 (co o)) (NF (co o)) (y.2.2.1 (co o)) H (fv y σ o)) ∧
  (∀ o k, o < 14 → k < 38 → isA o k = true → H[aa y o k]? = some (arrV y.2.2.2.1 (fk (co o) k - 1) (fun i => .int (σ.1 o k i)))) ∧
  H[aa y 0 4]? = some (arrV y.2.2.2.2 8 (fun i => .ref (ad y (σ.2 i))))
def Ay (y : LY) : Nat → Prop := fun q => y.1 ≤ q
def upd3 (V : VT) (o k i : Nat) (x : Int32) : VT := fun o' k' i' => if o' = o ∧ k' = k ∧ i' = i then x else V o' k' i'
def updA (V : VT) (o k : Nat) (f : Nat → Int32) : VT := fun o' k' => if o' = o ∧ k' = k then f else V o' k'
theorem HR.putA {y : LY} {σ : ST} {H H1 : Heap} (h : HR y σ H) {o k : Nat} (ho : o < 14) (hk : k < 38) (hA : isA o k = true) {f : Nat → Int32} (e : H1[aa y o k]? = some (arrV y.2.2.2.1 (fk (co o) k - 1) (fun i => .int (f i)))) (oq : ∀ q : Nat, q ≠ aa y o k → H1[q]? = H[q]?) : HR y (updA σ.1 o k f, σ.2) H1 := by
  obtain ⟨h1, h2, h3⟩ := h
  have fv0 : ∀ o' k', fv y (updA σ.1 o k f, σ.2) o' k' = fv y σ o' k' := by
    intro o' k'
    unfold fv
    by_cases hf : fk (co o') k' = 0
    · have hn : ¬ (o' = o ∧ k' = k) := by
        rintro ⟨rfl, rfl⟩
        simp [isA, hf] at hA
      simp [hf, updA, hn]
    · simp [hf]
  refine ⟨fun o' ho' => ?_, fun o' k' ho' hk' hA' => ?_, ?_⟩
  · exact ((h1 o' ho').kept (oq _ (ad_aa ho' ho hk hA))).to (fun k' _ => (fv0 o' k').symm)
  · by_cases hn : o' = o ∧ k' = k
    · obtain ⟨rfl, rfl⟩ := hn
      rw [e]
      simp [updA]
    · rw [oq _ (fun q => hn (aa_inj ho' ho hk' hk hA' hA q)), h2 o' k' ho' hk' hA']
      simp [updA, hn]
  · rw [oq _ (fun q => aa_ap ho hk hA q.symm), h3]
theorem upd3_updA (V : VT) (o k i : Nat) (x : Int32) : upd3 V o k i x = updA V o k (upd (V o k) i x) := by
  funext o' k' i'
  unfold upd3 updA upd
  by_cases h : o' = o ∧ k' = k
  · obtain ⟨rfl, rfl⟩ := h
    simp
  · have h2 : ¬ (o' = o ∧ k' = k ∧ i' = i) := fun q => h ⟨q.1, q.2.1⟩
    simp [h, h2]
/-! words -/
def isNestW : Cond → Bool
  | .fieldLinkNest .. => true
  | .methodLinkNest .. => true
  | _ => false
def lw_gd : List Cond := lw_tbl.filter goodWord
def lw_ns : List Cond := lw_tbl.filter isNestW
theorem in_gd {w : Cond} (h : w ∈ tables_1) (g : goodWord w = true) : w ∈ lw_gd := List.mem_filter.mpr ⟨List.mem_append_right _ h, g⟩
theorem in_gs {w : Cond} (h : w ∈ k2_sels lw_privs) (g : goodWord w = true) : w ∈ lw_gd := List.mem_filter.mpr ⟨List.mem_append_left _ h, g⟩
theorem in_ns {w : Cond} (h : w ∈ tables_1) (g : isNestW w = true) : w ∈ lw_ns := List.mem_filter.mpr ⟨List.mem_append_right _ h, g⟩
theorem gd_gd {w : Cond} (h : w ∈ lw_gd) : (w.onTables && w.keeps) = true ∨ ∃ ty, w = .arrayClass ty := good_of_word (List.mem_filter.mp h).2
def wsU (ym : MethodName) (cc : ByteArray) (n : Nat) (r : Option FieldType) : List Cond := .code ym cc n r :: lw_gd
/-- the classes at a state, and the nest mates' links -/
def KY (y : LY) (s : State) : Prop := va_K (y.2.1, y.2.2.1) clU [(y.2.2.2.1, .int), (y.2.2.2.2, .object RX0)] s
def NK (s : State) : Prop := ∀ w ∈ lw_ns, va_Nw w s
theorem NK.warm {s U : State} (hW : s.WarmedH U.vm) (h : NK s) : NK U := by
  intro w hw
  have h1 := h w hw
  have h2 := (List.mem_filter.mp hw).2
  cases w <;> first | exact va_Nw.warmF hW h1 | exact va_Nw.warmM hW h1 | (simp [isNestW] at h2)
theorem NK.same {u U : State} (e : u.vm = U.vm) (h : NK u) : NK U := by
  intro w hw
  have h1 := h w hw
  have h2 := (List.mem_filter.mp hw).2
  cases w <;> first | exact va_Nw.same rfl e h1 | (simp [isNestW] at h2)
abbrev ET : Type := Program × Env × Room × State × MethodId × Array Value × List Frame × Method × Code × Nat × Nat
abbrev eP (E : ET) : Program := E.1
abbrev eE (E : ET) : Env := E.2.1
abbrev eR (E : ET) : Room := E.2.2.1
abbrev eS (E : ET) : State := E.2.2.2.1
abbrev eM (E : ET) : MethodId := E.2.2.2.2.1
abbrev eA (E : ET) : Array Value := E.2.2.2.2.2.1
abbrev eB (E : ET) : List Frame := E.2.2.2.2.2.2.1
abbrev eT (E : ET) : Method := E.2.2.2.2.2.2.2.1
abbrev eC (E : ET) : Code := E.2.2.2.2.2.2.2.2.1
abbrev eK (E : ET) : Nat := E.2.2.2.2.2.2.2.2.2.1
abbrev eL (E : ET) : Nat := E.2.2.2.2.2.2.2.2.2.2
abbrev WE (l : Launch) (E : ET) (H : Heap) (locs : List Loc) (Q : State → Prop) (g : JFrame) : Prop := W (eP E) l (eE E) (eR E) (eS E) (eM E) (eA E) (eB E) (eT E) (eC E) H locs (eK E) (eL E) Q g
/-- what a method's rows stand on: the machine, the code, how many locals, its class, the words, the classes, the room -/
def CX (y : LY) (l : Launch) (E : ET) (cc : ByteArray) (nL : Nat) (own : String) (rm : Room) : Prop :=
  (eP E).tables.exec = Jvm.exec ∧ (eC E).code = cc ∧ (eC E).maxLocals = nL ∧ (eS E).vm.findClass own = some (eM E).cls ∧ (∀ w ∈ lw_gd, w.before (eA E) (eS E) = true) ∧ NK (eS E) ∧ KY y (eS E) ∧ eR E = rm ∧ eK E ≤ (eR E).cells ∧ eL E ≤ (eR E).slots
/-- its end -/
def QU (y : LY) (o : Option Value × ST) : Array Value → State → Outcome → State → Prop := fun _ st oc t => oc = .returned o.1 ∧ HR y o.2 t.heap ∧ va_F (Ay y) st t
def QM (y : LY) (E : ET) (o : Option Value × ST) : State → Prop := MQ (eB E) (QU y o) (eA E) (eS E) 0 0 (Ay y)
def ZX (E : ET) (rt : Option FieldType) : Prop := (eT E).sig.returnType = rt ∧ (eT E).locks = false ∧ eK E = 0 ∧ eL E = 0
def WW (y : LY) (l : Launch) (E : ET) (nL : Nat) {α : Type} (Q : α → State → Prop) (pc : Nat) (lv : List (Nat × Value)) (st : List Value) (σ : ST) (M : Option α) : Prop :=
  ∀ a, M = some a → ∀ (H : Heap) (locs : List Loc) (ls : Array Slot), HR y σ H → va_S (Ay y) (eS E).heap H locs → lv_has ls nL lv → WE l E H locs (Q a) (F0 (eM E) pc ls st)
section Combs
variable {α : Type}
def gf (σ : ST) (o k : Nat) (F : Int32 → Option α) : Option α := F (σ.1 o k 0)
def ld (σ : ST) (o k n : Nat) (i : Int32) (F : Int32 → Option α) : Option α := if i < 0 ∨ n ≤ i.toNatClampNeg then none else F (σ.1 o k i.toNatClampNeg)
def sd (σ : ST) (o k n : Nat) (i x : Int32) (F : ST → Option α) : Option α := if i < 0 ∨ n ≤ i.toNatClampNeg then none else F (upd3 σ.1 o k i.toNatClampNeg x, σ.2)
def pf (σ : ST) (o k : Nat) (x : Int32) (F : ST → Option α) : Option α := F (upd3 σ.1 o k 0 x, σ.2)
def rz (x : Int32) (M : Option α) : Option α := if x = 0 ∨ x = 1 then M else none
def nz (x : Int32) (M : Option α) : Option α := if x = 0 then none else M
def nzl (x : Int64) (M : Option α) : Option α := if x = 0 then none else M
def cp (σ : ST) (o k n o' k' n' : Nat) (z : Int32) (F : ST → Option α) : Option α := if z < 0 ∨ n < z.toNatClampNeg ∨ n' < z.toNatClampNeg then none else F (updA σ.1 o' k' (va_cpy (σ.1 o k) (σ.1 o' k') 0 0 z.toNatClampNeg), σ.2)
def pl (σ : ST) (i : Int32) (F : Nat → Option α) : Option α := if i < 0 ∨ 8 ≤ i.toNatClampNeg ∨ ¬ (1 ≤ σ.2 i.toNatClampNeg ∧ σ.2 i.toNatClampNeg ≤ 11) then none else F (σ.2 i.toNatClampNeg)
def ps (σ : ST) (i : Int32) (o : Nat) (F : ST → Option α) : Option α := if i < 0 ∨ 8 ≤ i.toNatClampNeg then none else F (σ.1, fun j => if j = i.toNatClampNeg then o else σ.2 j)
def vl (x : Int32) (F : Int32 → Option α) : Option α := F x
def vL (x : Int64) (F : Int64 → Option α) : Option α := F x
def cI {β : Type} (T : Option (Int32 × β)) (F : Int32 → β → Option α) : Option α := T.bind fun q => F q.1 q.2
def cJ {β : Type} (T : Option (Int64 × β)) (F : Int64 → β → Option α) : Option α := T.bind fun q => F q.1 q.2
def cV {β : Type} (T : Option β) (F : β → Option α) : Option α := T.bind F
end Combs
abbrev xI (q : Int32 × ST) : Option Value × ST := (some (.int q.1), q.2)
abbrev xJ (q : Int64 × ST) : Option Value × ST := (some (.long q.1), q.2)
abbrev xV (σ : ST) : Option Value × ST := (none, σ)
abbrev xp (σ : ST) (x : Int32) : Option Value × ST := (some (.int x), σ)
abbrev xq (σ : ST) (x : Int64) : Option Value × ST := (some (.long x), σ)
section Rows
variable {y : LY} {l : Launch} {E : ET} {nL : Nat} {α : Type} {Q : α → State → Prop} {pc : Nat} {lv : List (Nat × Value)} {st : List Value} {σ : ST} {M : Option α} {cc : ByteArray} {own : String} {rm : Room}
theorem r_lift {pc' : Nat} {st' : List Value} (h : ∀ (H : Heap) (locs : List Loc) (ls : Array Slot) (QQ : State → Prop), lv_has ls nL lv → WE l E H locs QQ (F0 (eM E) pc' ls st') → WE l E H locs QQ (F0 (eM E) pc ls st)) (k : WW y l E nL Q pc' lv st' σ M) : WW y l E nL Q pc lv st σ M :=
  fun a ha H locs ls hH hS hl => h H locs ls (Q a) hl (k a ha H locs ls hH hS hl)
theorem r_none {M : Option α} (h : M = none) : WW y l E nL Q pc lv st σ M := fun a ha => by rw [h] at ha; cases ha
theorem r_of {M' : Option α} (h : M = M') (k : WW y l E nL Q pc lv st σ M') : WW y l E nL Q pc lv st σ M := by rw [h]; exact k
theorem r_ite {P : Prop} {i : Decidable P} {M1 M2 : Option α} (k1 : P → WW y l E nL Q pc lv st σ M1) (k2 : ¬ P → WW y l E nL Q pc lv st σ M2) : WW y l E nL Q pc lv st σ (@ite _ P i M1 M2) := by
  by_cases h : P
  · rw [if_pos h]; exact k1 h
  · rw [if_neg h]; exact k2 h
theorem r_vl {x : Int32} {F : Int32 → Option α} (k : ∀ z, WW y l E nL Q pc lv (.int z :: st) σ (F z)) : WW y l E nL Q pc lv (.int x :: st) σ (vl x F) := k x
theorem r_vL {x : Int64} {F : Int64 → Option α} (k : ∀ z, WW y l E nL Q pc lv (.long z :: st) σ (F z)) : WW y l E nL Q pc lv (.long x :: st) σ (vL x F) := k x
theorem r_iadd {a b : Int32} (X : CX y l E cc nL own rm) (hd : decode cc pc = .ok (.iadd, 1)) (k : WW y l E nL Q (pc + 1) lv (.int (a + b) :: st) σ M) : WW y l E nL Q pc lv (.int b :: .int a :: st) σ M := r_lift (fun _ _ _ _ hl w => lv_iadd X.1 X.2.1 hd w) k
theorem r_isub {a b : Int32} (X : CX y l E cc nL own rm) (hd : decode cc pc = .ok (.isub, 1)) (k : WW y l E nL Q (pc + 1) lv (.int (a - b) :: st) σ M) : WW y l E nL Q pc lv (.int b :: .int a :: st) σ M := r_lift (fun _ _ _ _ hl w => lv_isub X.1 X.2.1 hd w) k
theorem r_imul {a b : Int32} (X : CX y l E cc nL own rm) (hd : decode cc pc = .ok (.imul, 1)) (k : WW y l E nL Q (pc + 1) lv (.int (a * b) :: st) σ M) : WW y l E nL Q pc lv (.int b :: .int a :: st) σ M := r_lift (fun _ _ _ _ hl w => lv_imul X.1 X.2.1 hd w) k
theorem r_iand {a b : Int32} (X : CX y l E cc nL own rm) (hd : decode cc pc = .ok (.iand, 1)) (k : WW y l E nL Q (pc + 1) lv (.int (a &&& b) :: st) σ M) : WW y l E nL Q pc lv (.int b :: .int a :: st) σ M := r_lift (fun _ _ _ _ hl w => lv_iand X.1 X.2.1 hd w) k
theorem r_ior {a b : Int32} (X : CX y l E cc nL own rm) (hd : decode cc pc = .ok (.ior, 1)) (k : WW y l E nL Q (pc + 1) lv (.int (a ||| b) :: st) σ M) : WW y l E nL Q pc lv (.int b :: .int a :: st) σ M := r_lift (fun _ _ _ _ hl w => lv_ior X.1 X.2.1 hd w) k
theorem r_ixor {a b : Int32} (X : CX y l E cc nL own rm) (hd : decode cc pc = .ok (.ixor, 1)) (k : WW y l E nL Q (pc + 1) lv (.int (a ^^^ b) :: st) σ M) : WW y l E nL Q pc lv (.int b :: .int a :: st) σ M := r_lift (fun _ _ _ _ hl w => lv_ixor X.1 X.2.1 hd w) k
theorem r_ineg {a : Int32} (X : CX y l E cc nL own rm) (hd : decode cc pc = .ok (.ineg, 1)) (k : WW y l E nL Q (pc + 1) lv (.int (-a) :: st) σ M) : WW y l E nL Q pc lv (.int a :: st) σ M := r_lift (fun _ _ _ _ hl w => lv_ineg X.1 X.2.1 hd w) k
theorem r_ladd {a b : Int64} (X : CX y l E cc nL own rm) (hd : decode cc pc = .ok (.ladd, 1)) (k : WW y l E nL Q (pc + 1) lv (.long (a + b) :: st) σ M) : WW y l E nL Q pc lv (.long b :: .long a :: st) σ M := r_lift (fun _ _ _ _ hl w => lv_ladd X.1 X.2.1 hd w) k
theorem r_lsub {a b : Int64} (X : CX y l E cc nL own rm) (hd : decode cc pc = .ok (.lsub, 1)) (k : WW y l E nL Q (pc + 1) lv (.long (a - b) :: st) σ M) : WW y l E nL Q pc lv (.long b :: .long a :: st) σ M := r_lift (fun _ _ _ _ hl w => lv_lsub X.1 X.2.1 hd w) k
theorem r_lmul {a b : Int64} (X : CX y l E cc nL own rm) (hd : decode cc pc = .ok (.lmul, 1)) (k : WW y l E nL Q (pc + 1) lv (.long (a * b) :: st) σ M) : WW y l E nL Q pc lv (.long b :: .long a :: st) σ M := r_lift (fun _ _ _ _ hl w => lv_lmul X.1 X.2.1 hd w) k

theorem r_iconst {n : Int} {v : Int32} (X : CX y l E cc nL own rm) (hd : decode cc pc = .ok (.iconst n, 1)) (hv : Int32.ofInt n = v) (k : WW y l E nL Q (pc + 1) lv (.int v :: st) σ M) : WW y l E nL Q pc lv st σ M := r_lift (fun _ _ _ _ hl w => lv_iconst X.1 X.2.1 hd hv w) k
theorem r_bipush {n : Int} {v : Int32} (X : CX y l E cc nL own rm) (hd : decode cc pc = .ok (.bipush n, 2)) (hv : (Int8.ofInt n).toInt32 = v) (k : WW y l E nL Q (pc + 2) lv (.int v :: st) σ M) : WW y l E nL Q pc lv st σ M := r_lift (fun _ _ _ _ hl w => lv_bipush X.1 X.2.1 hd hv w) k
theorem r_sipush {n : Int} {v : Int32} (X : CX y l E cc nL own rm) (hd : decode cc pc = .ok (.sipush n, 3)) (hv : (Int16.ofInt n).toInt32 = v) (k : WW y l E nL Q (pc + 3) lv (.int v :: st) σ M) : WW y l E nL Q pc lv st σ M := r_lift (fun _ _ _ _ hl w => lv_sipush X.1 X.2.1 hd hv w) k
theorem r_lconst {n : Fin 2} {v : Int64} (X : CX y l E cc nL own rm) (hd : decode cc pc = .ok (.lconst n, 1)) (hv : Int64.ofNat (n : Nat) = v) (k : WW y l E nL Q (pc + 1) lv (.long v :: st) σ M) : WW y l E nL Q pc lv st σ M := r_lift (fun _ _ _ _ hl w => lv_lconst X.1 X.2.1 hd hv w) k
theorem r_ldc {index : Nat} {v : Int32} (X : CX y l E cc nL own rm) (hd : decode cc pc = .ok (.ldc index, 2)) (hw : Cond.constant own index v ∈ lw_gd) (k : WW y l E nL Q (pc + 2) lv (.int v :: st) σ M) : WW y l E nL Q pc lv st σ M := r_lift (fun _ _ _ _ hl w => lv_ldc X.1 X.2.1 X.2.2.2.1 (X.2.2.2.2.1 _ hw) hd w) k
theorem r_ldcw {index : Nat} {v : Int32} (X : CX y l E cc nL own rm) (hd : decode cc pc = .ok (.ldc_w index, 3)) (hw : Cond.constant own index v ∈ lw_gd) (k : WW y l E nL Q (pc + 3) lv (.int v :: st) σ M) : WW y l E nL Q pc lv st σ M := r_lift (fun _ _ _ _ hl w => lv_ldcw X.1 X.2.1 X.2.2.2.1 (X.2.2.2.2.1 _ hw) hd w) k
theorem r_ldc2 {index : Nat} {v : Int64} (X : CX y l E cc nL own rm) (hd : decode cc pc = .ok (.ldc2_w index, 3)) (hw : Cond.constantLong own index v ∈ lw_gd) (k : WW y l E nL Q (pc + 3) lv (.long v :: st) σ M) : WW y l E nL Q pc lv st σ M := r_lift (fun _ _ _ _ hl w => lv_ldc2 X.1 X.2.1 X.2.2.2.1 (X.2.2.2.2.1 _ hw) hd w) k
theorem r_iload_n {k0 : Fin 4} {i : Nat} {x : Int32} (X : CX y l E cc nL own rm) (hd : decode cc pc = .ok (.iload_n k0, 1)) (j : Nat) (hi : (k0 : Nat) = i) (hj : lv[j]? = some (i, .int x)) (k : WW y l E nL Q (pc + 1) lv (.int x :: st) σ M) : WW y l E nL Q pc lv st σ M := r_lift (fun _ _ _ _ hl w => lv_iload_n X.1 X.2.1 hd hi (lv_at hl j hj) w) k
theorem r_iload {i : Nat} {x : Int32} (X : CX y l E cc nL own rm) (hd : decode cc pc = .ok (.iload i, 2)) (j : Nat) (hj : lv[j]? = some (i, .int x)) (k : WW y l E nL Q (pc + 2) lv (.int x :: st) σ M) : WW y l E nL Q pc lv st σ M := r_lift (fun _ _ _ _ hl w => lv_iload X.1 X.2.1 hd (lv_at hl j hj) w) k
theorem r_lload_n {k0 : Fin 4} {i : Nat} {x : Int64} (X : CX y l E cc nL own rm) (hd : decode cc pc = .ok (.lload_n k0, 1)) (j : Nat) (hi : (k0 : Nat) = i) (hj : lv[j]? = some (i, .long x)) (k : WW y l E nL Q (pc + 1) lv (.long x :: st) σ M) : WW y l E nL Q pc lv st σ M := r_lift (fun _ _ _ _ hl w => lv_lload_n X.1 X.2.1 hd hi (lv_at hl j hj) w) k
theorem r_lload {i : Nat} {x : Int64} (X : CX y l E cc nL own rm) (hd : decode cc pc = .ok (.lload i, 2)) (j : Nat) (hj : lv[j]? = some (i, .long x)) (k : WW y l E nL Q (pc + 2) lv (.long x :: st) σ M) : WW y l E nL Q pc lv st σ M := r_lift (fun _ _ _ _ hl w => lv_lload X.1 X.2.1 hd (lv_at hl j hj) w) k
theorem r_aload_n {k0 : Fin 4} {i x : Nat} (X : CX y l E cc nL own rm) (hd : decode cc pc = .ok (.aload_n k0, 1)) (j : Nat) (hi : (k0 : Nat) = i) (hj : lv[j]? = some (i, .ref x)) (k : WW y l E nL Q (pc + 1) lv (.ref x :: st) σ M) : WW y l E nL Q pc lv st σ M := r_lift (fun _ _ _ _ hl w => lv_aload_n X.1 X.2.1 hd hi (lv_at hl j hj) w) k
theorem r_aload {i x : Nat} (X : CX y l E cc nL own rm) (hd : decode cc pc = .ok (.aload i, 2)) (j : Nat) (hj : lv[j]? = some (i, .ref x)) (k : WW y l E nL Q (pc + 2) lv (.ref x :: st) σ M) : WW y l E nL Q pc lv st σ M := r_lift (fun _ _ _ _ hl w => lv_aload X.1 X.2.1 hd (lv_at hl j hj) w) k
theorem r_istore_n {k0 : Fin 4} {i : Nat} {x : Int32} {lv' : List (Nat × Value)} (X : CX y l E cc nL own rm) (hd : decode cc pc = .ok (.istore_n k0, 1)) (hi : (k0 : Nat) = i) (hn : i < nL) (hl' : (i, Value.int x) :: lv.filter (fun q => !(q.1 == i) && !(q.1 + 1 == i && q.2.category == 2)) = lv') (k : WW y l E nL Q (pc + 1) lv' st σ M) : WW y l E nL Q pc lv (.int x :: st) σ M :=
  fun a ha H locs ls hH hS hl => lv_istore_n X.1 X.2.1 hd hi hl hn hl' (fun ls' hl2 => k a ha H locs ls' hH hS hl2)
theorem r_istore {i : Nat} {x : Int32} {lv' : List (Nat × Value)} (X : CX y l E cc nL own rm) (hd : decode cc pc = .ok (.istore i, 2)) (hn : i < nL) (hl' : (i, Value.int x) :: lv.filter (fun q => !(q.1 == i) && !(q.1 + 1 == i && q.2.category == 2)) = lv') (k : WW y l E nL Q (pc + 2) lv' st σ M) : WW y l E nL Q pc lv (.int x :: st) σ M :=
  fun a ha H locs ls hH hS hl => lv_istore X.1 X.2.1 hd hl hn hl' (fun ls' hl2 => k a ha H locs ls' hH hS hl2)
theorem r_lstore_n {k0 : Fin 4} {i : Nat} {x : Int64} {lv' : List (Nat × Value)} (X : CX y l E cc nL own rm) (hd : decode cc pc = .ok (.lstore_n k0, 1)) (hi : (k0 : Nat) = i) (hn : i + 1 < nL) (hl' : (i, Value.long x) :: lv.filter (fun q => !(q.1 == i) && (!(q.1 == i + 1) && !(q.1 + 1 == i && q.2.category == 2))) = lv') (k : WW y l E nL Q (pc + 1) lv' st σ M) : WW y l E nL Q pc lv (.long x :: st) σ M :=
  fun a ha H locs ls hH hS hl => lv_lstore_n X.1 X.2.1 hd hi hl hn hl' (fun ls' hl2 => k a ha H locs ls' hH hS hl2)
theorem r_lstore {i : Nat} {x : Int64} {lv' : List (Nat × Value)} (X : CX y l E cc nL own rm) (hd : decode cc pc = .ok (.lstore i, 2)) (hn : i + 1 < nL) (hl' : (i, Value.long x) :: lv.filter (fun q => !(q.1 == i) && (!(q.1 == i + 1) && !(q.1 + 1 == i && q.2.category == 2))) = lv') (k : WW y l E nL Q (pc + 2) lv' st σ M) : WW y l E nL Q pc lv (.long x :: st) σ M :=
  fun a ha H locs ls hH hS hl => lv_lstore X.1 X.2.1 hd hl hn hl' (fun ls' hl2 => k a ha H locs ls' hH hS hl2)
theorem r_astore_n {k0 : Fin 4} {i x : Nat} {lv' : List (Nat × Value)} (X : CX y l E cc nL own rm) (hd : decode cc pc = .ok (.astore_n k0, 1)) (hi : (k0 : Nat) = i) (hn : i < nL) (hl' : (i, Value.ref x) :: lv.filter (fun q => !(q.1 == i) && !(q.1 + 1 == i && q.2.category == 2)) = lv') (k : WW y l E nL Q (pc + 1) lv' st σ M) : WW y l E nL Q pc lv (.ref x :: st) σ M :=
  fun a ha H locs ls hH hS hl => lv_astore_n X.1 X.2.1 hd hi hl hn hl' (fun ls' hl2 => k a ha H locs ls' hH hS hl2)
theorem r_iinc {i : Nat} {n : Int} {x v : Int32} {lv' : List (Nat × Value)} {F : Int32 → Option α} (X : CX y l E cc nL own rm) (hd : decode cc pc = .ok (.iinc i n, 3)) (j : Nat) (hj : lv[j]? = some (i, .int x)) (hv : x + Int32.ofInt n = v) (hn : i < nL) (hl' : lv.filter (fun q => !(q.1 == i) && !(q.1 + 1 == i && q.2.category == 2)) = lv') (kk : ∀ z : Int32, WW y l E nL Q (pc + 3) ((i, Value.int z) :: lv') st σ (F z)) : WW y l E nL Q pc lv st σ (vl v F) :=
  fun a ha H locs ls hH hS hl => lv_iinc X.1 X.2.1 hd hl hj hv hn (by rw [hl']) (fun ls' hl2 => kk v a ha H locs ls' hH hS hl2)
theorem r_sub (ks : List Nat) {lv' : List (Nat × Value)} (hl' : lv_pick lv ks = lv') (k : WW y l E nL Q pc lv' st σ M) : WW y l E nL Q pc lv st σ M :=
  fun a ha H locs ls hH hS hl => k a ha H locs ls hH hS (lv_sub hl ks hl')
theorem r_goto {off : Int} {tgt : Nat} (X : CX y l E cc nL own rm) (hd : decode cc pc = .ok (.goto off, 3)) (ht : (pc : Int) + off = (tgt : Int)) (k : WW y l E nL Q tgt lv st σ M) : WW y l E nL Q pc lv st σ M := r_lift (fun _ _ _ _ hl w => lv_goto X.1 X.2.1 hd ht w) k
theorem r_dup {v : Value} (X : CX y l E cc nL own rm) (hd : decode cc pc = .ok (.dup, 1)) (hv : v.category = 1) (k : WW y l E nL Q (pc + 1) lv (v :: v :: st) σ M) : WW y l E nL Q pc lv (v :: st) σ M := r_lift (fun _ _ _ _ hl w => lv_dup X.1 X.2.1 hd hv w) k
theorem r_dup2 {v w : Value} (X : CX y l E cc nL own rm) (hd : decode cc pc = .ok (.dup2, 1)) (hv : v.category = 1) (hw : w.category = 1) (k : WW y l E nL Q (pc + 1) lv (v :: w :: v :: w :: st) σ M) : WW y l E nL Q pc lv (v :: w :: st) σ M := r_lift (fun _ _ _ _ hl z => lv_dup2_11 X.1 X.2.1 hd hv hw z) k
theorem r_pop {v : Value} (X : CX y l E cc nL own rm) (hd : decode cc pc = .ok (.pop, 1)) (hv : v.category = 1) (k : WW y l E nL Q (pc + 1) lv st σ M) : WW y l E nL Q pc lv (v :: st) σ M := r_lift (fun _ _ _ _ hl w => lv_pop X.1 X.2.1 hd hv w) k
theorem r_ishl {a b v : Int32} (X : CX y l E cc nL own rm) (hd : decode cc pc = .ok (.ishl, 1)) (hv : a <<< (b &&& 31) = v) (k : WW y l E nL Q (pc + 1) lv (.int v :: st) σ M) : WW y l E nL Q pc lv (.int b :: .int a :: st) σ M := r_lift (fun _ _ _ _ hl w => lv_ishl X.1 X.2.1 hd (by rw [hv]; exact w)) k
theorem r_ishr {a b v : Int32} (X : CX y l E cc nL own rm) (hd : decode cc pc = .ok (.ishr, 1)) (hv : a >>> (b &&& 31) = v) (k : WW y l E nL Q (pc + 1) lv (.int v :: st) σ M) : WW y l E nL Q pc lv (.int b :: .int a :: st) σ M := r_lift (fun _ _ _ _ hl w => lv_ishr X.1 X.2.1 hd (by rw [hv]; exact w)) k
theorem r_iushr {a b v : Int32} (X : CX y l E cc nL own rm) (hd : decode cc pc = .ok (.iushr, 1)) (hv : (a.toUInt32 >>> (b.toUInt32 &&& Int32.toUInt32 31)).toInt32 = v) (k : WW y l E nL Q (pc + 1) lv (.int v :: st) σ M) : WW y l E nL Q pc lv (.int b :: .int a :: st) σ M := r_lift (fun _ _ _ _ hl w => lv_iushr X.1 X.2.1 hd hv w) k
theorem r_i2l {a : Int32} (X : CX y l E cc nL own rm) (hd : decode cc pc = .ok (.i2l, 1)) (k : WW y l E nL Q (pc + 1) lv (.long a.toInt64 :: st) σ M) : WW y l E nL Q pc lv (.int a :: st) σ M := r_lift (fun _ _ _ _ hl w => lv_i2l X.1 X.2.1 hd rfl w) k
theorem r_lcmp {a b : Int64} (X : CX y l E cc nL own rm) (hd : decode cc pc = .ok (.lcmp, 1)) (k : WW y l E nL Q (pc + 1) lv (.int (lg_cmp a b) :: st) σ M) : WW y l E nL Q pc lv (.long b :: .long a :: st) σ M := r_lift (fun _ _ _ _ hl w => W.lcmp X.1 X.2.1 hd w) k
theorem r_idiv {a b : Int32} (X : CX y l E cc nL own rm) (hd : decode cc pc = .ok (.idiv, 1)) (hne : ¬ b = 0) (k : WW y l E nL Q (pc + 1) lv (.int (a / b) :: st) σ M) : WW y l E nL Q pc lv (.int b :: .int a :: st) σ M := r_lift (fun _ _ _ _ hl w => lv_idiv X.1 X.2.1 hd hne w) k
theorem r_irem {a b : Int32} (X : CX y l E cc nL own rm) (hd : decode cc pc = .ok (.irem, 1)) (hne : ¬ b = 0) (k : WW y l E nL Q (pc + 1) lv (.int (a - a / b * b) :: st) σ M) : WW y l E nL Q pc lv (.int b :: .int a :: st) σ M := r_lift (fun _ _ _ _ hl w => lv_irem X.1 X.2.1 hd hne w) k
theorem r_idivz {a b : Int32} (X : CX y l E cc nL own rm) (hd : decode cc pc = .ok (.idiv, 1)) (k : WW y l E nL Q (pc + 1) lv (.int (a / b) :: st) σ M) : WW y l E nL Q pc lv (.int b :: .int a :: st) σ (nz b M) := by
  by_cases h : b = 0
  · exact r_none (by simp [nz, h])
  · exact r_of (by simp [nz, h]) (r_idiv X hd h k)
theorem r_iremz {a b : Int32} (X : CX y l E cc nL own rm) (hd : decode cc pc = .ok (.irem, 1)) (k : WW y l E nL Q (pc + 1) lv (.int (a - a / b * b) :: st) σ M) : WW y l E nL Q pc lv (.int b :: .int a :: st) σ (nz b M) := by
  by_cases h : b = 0
  · exact r_none (by simp [nz, h])
  · exact r_of (by simp [nz, h]) (r_irem X hd h k)
theorem r_ldivz {a b : Int64} (X : CX y l E cc nL own rm) (hd : decode cc pc = .ok (.ldiv, 1)) (k : WW y l E nL Q (pc + 1) lv (.long (a / b) :: st) σ M) : WW y l E nL Q pc lv (.long b :: .long a :: st) σ (nzl b M) := by
  by_cases h : b = 0
  · exact r_none (by simp [nzl, h])
  · exact r_of (by simp [nzl, h]) (r_lift (fun _ _ _ _ hl w => lv_ldiv X.1 X.2.1 hd h w) k)
theorem r_lremz {a b : Int64} (X : CX y l E cc nL own rm) (hd : decode cc pc = .ok (.lrem, 1)) (k : WW y l E nL Q (pc + 1) lv (.long (a - a / b * b) :: st) σ M) : WW y l E nL Q pc lv (.long b :: .long a :: st) σ (nzl b M) := by
  by_cases h : b = 0
  · exact r_none (by simp [nzl, h])
  · exact r_of (by simp [nzl, h]) (r_lift (fun _ _ _ _ hl w => lv_lrem X.1 X.2.1 hd h w) k)
theorem r_if_eq {a : Int32} {off : Int} {tgt : Nat} {M1 M2 : Option α} (X : CX y l E cc nL own rm) (hd : decode cc pc = .ok (.ifCond .eq off, 3)) (ht : (pc : Int) + off = (tgt : Int)) (kt : WW y l E nL Q tgt lv st σ M1) (kf : WW y l E nL Q (pc + 3) lv st σ M2) : WW y l E nL Q pc lv (.int a :: st) σ (if a = 0 then M1 else M2) := by
  intro z hz H locs ls hH hS hl
  refine lv_if_eq X.1 X.2.1 hd ht (fun h => ?_) (fun h => ?_)
  · exact kt z (by rw [if_pos h] at hz; exact hz) H locs ls hH hS hl
  · exact kf z (by rw [if_neg h] at hz; exact hz) H locs ls hH hS hl
theorem r_if_lt {a : Int32} {off : Int} {tgt : Nat} {M1 M2 : Option α} (X : CX y l E cc nL own rm) (hd : decode cc pc = .ok (.ifCond .lt off, 3)) (ht : (pc : Int) + off = (tgt : Int)) (kt : WW y l E nL Q tgt lv st σ M1) (kf : WW y l E nL Q (pc + 3) lv st σ M2) : WW y l E nL Q pc lv (.int a :: st) σ (if a < 0 then M1 else M2) := by
  intro z hz H locs ls hH hS hl
  refine lv_if_lt X.1 X.2.1 hd ht (fun h => ?_) (fun h => ?_)
  · exact kt z (by rw [if_pos h] at hz; exact hz) H locs ls hH hS hl
  · exact kf z (by rw [if_neg h] at hz; exact hz) H locs ls hH hS hl
theorem r_if_ge {a : Int32} {off : Int} {tgt : Nat} {M1 M2 : Option α} (X : CX y l E cc nL own rm) (hd : decode cc pc = .ok (.ifCond .ge off, 3)) (ht : (pc : Int) + off = (tgt : Int)) (kt : WW y l E nL Q tgt lv st σ M1) (kf : WW y l E nL Q (pc + 3) lv st σ M2) : WW y l E nL Q pc lv (.int a :: st) σ (if 0 ≤ a then M1 else M2) := by
  intro z hz H locs ls hH hS hl
  refine lv_if_ge X.1 X.2.1 hd ht (fun h => ?_) (fun h => ?_)
  · exact kt z (by rw [if_pos h] at hz; exact hz) H locs ls hH hS hl
  · exact kf z (by rw [if_neg h] at hz; exact hz) H locs ls hH hS hl
theorem r_if_gt {a : Int32} {off : Int} {tgt : Nat} {M1 M2 : Option α} (X : CX y l E cc nL own rm) (hd : decode cc pc = .ok (.ifCond .gt off, 3)) (ht : (pc : Int) + off = (tgt : Int)) (kt : WW y l E nL Q tgt lv st σ M1) (kf : WW y l E nL Q (pc + 3) lv st σ M2) : WW y l E nL Q pc lv (.int a :: st) σ (if 0 < a then M1 else M2) := by
  intro z hz H locs ls hH hS hl
  refine lv_if_gt X.1 X.2.1 hd ht (fun h => ?_) (fun h => ?_)
  · exact kt z (by rw [if_pos h] at hz; exact hz) H locs ls hH hS hl
  · exact kf z (by rw [if_neg h] at hz; exact hz) H locs ls hH hS hl
theorem r_if_le {a : Int32} {off : Int} {tgt : Nat} {M1 M2 : Option α} (X : CX y l E cc nL own rm) (hd : decode cc pc = .ok (.ifCond .le off, 3)) (ht : (pc : Int) + off = (tgt : Int)) (kt : WW y l E nL Q tgt lv st σ M1) (kf : WW y l E nL Q (pc + 3) lv st σ M2) : WW y l E nL Q pc lv (.int a :: st) σ (if a ≤ 0 then M1 else M2) := by
  intro z hz H locs ls hH hS hl
  refine lv_if_le X.1 X.2.1 hd ht (fun h => ?_) (fun h => ?_)
  · exact kt z (by rw [if_pos h] at hz; exact hz) H locs ls hH hS hl
  · exact kf z (by rw [if_neg h] at hz; exact hz) H locs ls hH hS hl
theorem r_icmp_eq {a b : Int32} {off : Int} {tgt : Nat} {M1 M2 : Option α} (X : CX y l E cc nL own rm) (hd : decode cc pc = .ok (.if_icmp .eq off, 3)) (ht : (pc : Int) + off = (tgt : Int)) (kt : WW y l E nL Q tgt lv st σ M1) (kf : WW y l E nL Q (pc + 3) lv st σ M2) : WW y l E nL Q pc lv (.int b :: .int a :: st) σ (if a = b then M1 else M2) := by
  intro z hz H locs ls hH hS hl
  refine lv_icmp_eq X.1 X.2.1 hd ht (fun h => ?_) (fun h => ?_)
  · exact kt z (by rw [if_pos h] at hz; exact hz) H locs ls hH hS hl
  · exact kf z (by rw [if_neg h] at hz; exact hz) H locs ls hH hS hl
theorem r_icmp_lt {a b : Int32} {off : Int} {tgt : Nat} {M1 M2 : Option α} (X : CX y l E cc nL own rm) (hd : decode cc pc = .ok (.if_icmp .lt off, 3)) (ht : (pc : Int) + off = (tgt : Int)) (kt : WW y l E nL Q tgt lv st σ M1) (kf : WW y l E nL Q (pc + 3) lv st σ M2) : WW y l E nL Q pc lv (.int b :: .int a :: st) σ (if a < b then M1 else M2) := by
  intro z hz H locs ls hH hS hl
  refine lv_icmp_lt X.1 X.2.1 hd ht (fun h => ?_) (fun h => ?_)
  · exact kt z (by rw [if_pos h] at hz; exact hz) H locs ls hH hS hl
  · exact kf z (by rw [if_neg h] at hz; exact hz) H locs ls hH hS hl
theorem r_icmp_ge {a b : Int32} {off : Int} {tgt : Nat} {M1 M2 : Option α} (X : CX y l E cc nL own rm) (hd : decode cc pc = .ok (.if_icmp .ge off, 3)) (ht : (pc : Int) + off = (tgt : Int)) (kt : WW y l E nL Q tgt lv st σ M1) (kf : WW y l E nL Q (pc + 3) lv st σ M2) : WW y l E nL Q pc lv (.int b :: .int a :: st) σ (if b ≤ a then M1 else M2) := by
  intro z hz H locs ls hH hS hl
  refine lv_icmp_ge X.1 X.2.1 hd ht (fun h => ?_) (fun h => ?_)
  · exact kt z (by rw [if_pos h] at hz; exact hz) H locs ls hH hS hl
  · exact kf z (by rw [if_neg h] at hz; exact hz) H locs ls hH hS hl
theorem r_icmp_gt {a b : Int32} {off : Int} {tgt : Nat} {M1 M2 : Option α} (X : CX y l E cc nL own rm) (hd : decode cc pc = .ok (.if_icmp .gt off, 3)) (ht : (pc : Int) + off = (tgt : Int)) (kt : WW y l E nL Q tgt lv st σ M1) (kf : WW y l E nL Q (pc + 3) lv st σ M2) : WW y l E nL Q pc lv (.int b :: .int a :: st) σ (if b < a then M1 else M2) := by
  intro z hz H locs ls hH hS hl
  refine lv_icmp_gt X.1 X.2.1 hd ht (fun h => ?_) (fun h => ?_)
  · exact kt z (by rw [if_pos h] at hz; exact hz) H locs ls hH hS hl
  · exact kf z (by rw [if_neg h] at hz; exact hz) H locs ls hH hS hl
theorem r_icmp_le {a b : Int32} {off : Int} {tgt : Nat} {M1 M2 : Option α} (X : CX y l E cc nL own rm) (hd : decode cc pc = .ok (.if_icmp .le off, 3)) (ht : (pc : Int) + off = (tgt : Int)) (kt : WW y l E nL Q tgt lv st σ M1) (kf : WW y l E nL Q (pc + 3) lv st σ M2) : WW y l E nL Q pc lv (.int b :: .int a :: st) σ (if a ≤ b then M1 else M2) := by
  intro z hz H locs ls hH hS hl
  refine lv_icmp_le X.1 X.2.1 hd ht (fun h => ?_) (fun h => ?_)
  · exact kt z (by rw [if_pos h] at hz; exact hz) H locs ls hH hS hl
  · exact kf z (by rw [if_neg h] at hz; exact hz) H locs ls hH hS hl
theorem r_if_ne {a : Int32} {off : Int} {tgt : Nat} {M1 M2 : Option α} (X : CX y l E cc nL own rm) (hd : decode cc pc = .ok (.ifCond .ne off, 3)) (ht : (pc : Int) + off = (tgt : Int)) (kt : WW y l E nL Q tgt lv st σ M1) (kf : WW y l E nL Q (pc + 3) lv st σ M2) : WW y l E nL Q pc lv (.int a :: st) σ (if a = 0 then M2 else M1) := by
  intro z hz H locs ls hH hS hl
  refine lv_if_ne X.1 X.2.1 hd ht (fun h => ?_) (fun h => ?_)
  · exact kt z (by rw [if_neg h] at hz; exact hz) H locs ls hH hS hl
  · exact kf z (by rw [if_pos h] at hz; exact hz) H locs ls hH hS hl
theorem r_icmp_ne {a b : Int32} {off : Int} {tgt : Nat} {M1 M2 : Option α} (X : CX y l E cc nL own rm) (hd : decode cc pc = .ok (.if_icmp .ne off, 3)) (ht : (pc : Int) + off = (tgt : Int)) (kt : WW y l E nL Q tgt lv st σ M1) (kf : WW y l E nL Q (pc + 3) lv st σ M2) : WW y l E nL Q pc lv (.int b :: .int a :: st) σ (if a = b then M2 else M1) := by
  intro z hz H locs ls hH hS hl
  refine lv_icmp_ne X.1 X.2.1 hd ht (fun h => ?_) (fun h => ?_)
  · exact kt z (by rw [if_neg h] at hz; exact hz) H locs ls hH hS hl
  · exact kf z (by rw [if_pos h] at hz; exact hz) H locs ls hH hS hl

theorem r_lookup {dflt : Int} {ps0 : Array (Int × Int)} {len : Nat} {x : Int32} {off : Int} {tgt : Nat} (X : CX y l E cc nL own rm) (hd : decode cc pc = .ok (.lookupswitch dflt ps0, len)) (hp : (ps0.toList.zip (ps0.toList.drop 1)).all (fun (a, next) => a.1 < next.1) = true) (ho : Op.lookupswitch.offset ps0.toList dflt x.toInt = off) (ht : (pc : Int) + off = (tgt : Int)) (k : WW y l E nL Q tgt lv st σ M) : WW y l E nL Q pc lv (.int x :: st) σ M := r_lift (fun _ _ _ _ hl w => lv_lookup X.1 X.2.1 hd hp ho ht w) k
theorem r_tabOut {dflt lo hi : Int} {offs : Array Int} {len : Nat} {x : Int32} {tgt : Nat} (X : CX y l E cc nL own rm) (hd : decode cc pc = .ok (.tableswitch dflt lo hi offs, len)) (h : x.toInt < lo ∨ hi < x.toInt) (ht : (pc : Int) + dflt = (tgt : Int)) (k : WW y l E nL Q tgt lv st σ M) : WW y l E nL Q pc lv (.int x :: st) σ M := r_lift (fun _ _ _ _ hl w => lv_tableOut X.1 X.2.1 hd h ht w) k
theorem r_tabIn {dflt lo hi : Int} {offs : Array Int} {len : Nat} {x v : Int32} {off : Int} {tgt : Nat} (X : CX y l E cc nL own rm) (hd : decode cc pc = .ok (.tableswitch dflt lo hi offs, len)) (e : x = v) (h1 : ¬ v.toInt < lo) (h2 : ¬ hi < v.toInt) (ho : offs[(v.toInt - lo).toNat]? = some off) (ht : (pc : Int) + off = (tgt : Int)) (k : WW y l E nL Q tgt lv st σ M) : WW y l E nL Q pc lv (.int x :: st) σ M := by
  subst e
  exact r_lift (fun _ _ _ _ hl w => lv_tableIn X.1 X.2.1 hd h1 h2 ho ht w) k
theorem tab_out {x : Int32} {lo hi : Int} (L : List Int32) (h : ∀ v ∈ L, ¬ x = v) (hc : (List.range (hi - lo + 1).toNat).all (fun j => L.any (fun v => decide (v.toInt = lo + (j : Int)))) = true) : x.toInt < lo ∨ hi < x.toInt := by
  rcases Int.lt_or_le x.toInt lo with h1 | h1
  · exact Or.inl h1
  · rcases Int.lt_or_le hi x.toInt with h2 | h2
    · exact Or.inr h2
    · exfalso
      have hj := List.all_eq_true.mp hc (x.toInt - lo).toNat (List.mem_range.mpr (by omega))
      obtain ⟨v, hv, he⟩ := List.any_eq_true.mp hj
      have e1 : v.toInt = x.toInt := by have := of_decide_eq_true he; omega
      exact h v hv (Int32.toInt_inj.mp e1.symm)
end Rows
