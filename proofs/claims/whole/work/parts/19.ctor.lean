/-! THE CONSTRUCTORS: a heap that grows cell by cell from the first address on -/
def CP (y : LY) (ws : List va_E) (H : Heap) : Prop := H.size = y.1 + ws.length ∧ ∀ (i : Nat) (e : va_E), ws[i]? = some e → va_at (y.2.1, y.2.2.1) clU (y.1 + i, e) H
theorem CP.push {y : LY} {ws : List va_E} {H H1 : Heap} {e : va_E} (h : CP y ws H) (z : H1.size = H.size + 1) (o : ∀ q, q < H.size → H1[q]? = H[q]?) (he : va_at (y.2.1, y.2.2.1) clU (y.1 + ws.length, e) H1) : CP y (ws ++ [e]) H1 := by
  refine ⟨by rw [z, h.1, List.length_append, List.length_singleton]; omega, fun i e' hi => ?_⟩
  by_cases hl : i < ws.length
  · rw [List.getElem?_append_left hl] at hi
    exact (h.2 i e' hi).kept (o _ (by show y.1 + i < H.size; rw [h.1]; omega))
  · rw [List.getElem?_append_right (by omega)] at hi
    have hz : i - ws.length < 1 := (List.getElem?_eq_some_iff.mp hi).1
    have e0 : i = ws.length := by omega
    subst e0
    simp at hi
    rw [← hi]
    exact he
theorem CP.put {y : LY} {ws : List va_E} {H H1 : Heap} {e : va_E} {j : Nat} (h : CP y ws H) (hj : j < ws.length) (z : H1.size = H.size) (o : ∀ q, q ≠ y.1 + j → H1[q]? = H[q]?) (he : va_at (y.2.1, y.2.2.1) clU (y.1 + j, e) H1) : CP y (ws.set j e) H1 := by
  refine ⟨by rw [z, h.1, List.length_set], fun i e' hi => ?_⟩
  by_cases hij : i = j
  · subst hij
    rw [List.getElem?_set_self hj] at hi
    rw [← Option.some.inj hi]
    exact he
  · rw [List.getElem?_set_ne (fun q => hij q.symm)] at hi
    exact (h.2 i e' hi).kept (o _ (by show y.1 + i ≠ y.1 + j; omega))
/-- one object under construction, and what was made behind -/
def OB1 (ws0 : List va_E) (i ci : Nat) (fs : List Value) (ap : List va_E) : List va_E := ws0.set i (.inr (ci, fs)) ++ ap
theorem OB1.len {ws0 : List va_E} {i ci : Nat} {fs : List Value} {ap : List va_E} : (OB1 ws0 i ci fs ap).length = ws0.length + ap.length := by simp [OB1]
theorem OB1.at {ws0 : List va_E} {i ci : Nat} {fs : List Value} {ap : List va_E} (hi : i < ws0.length) : (OB1 ws0 i ci fs ap)[i]? = some (.inr (ci, fs)) := by
  unfold OB1
  rw [List.getElem?_append_left (by simpa using hi), List.getElem?_set_self hi]
theorem OB1.set {ws0 : List va_E} {i ci : Nat} {fs fs' : List Value} {ap : List va_E} (hi : i < ws0.length) : (OB1 ws0 i ci fs ap).set i (.inr (ci, fs')) = OB1 ws0 i ci fs' ap := by
  unfold OB1
  rw [List.set_append_left _ _ (by simpa using hi), List.set_set]
theorem OB1.app {ws0 : List va_E} {i ci : Nat} {fs : List Value} {ap b : List va_E} : OB1 ws0 i ci fs ap ++ b = OB1 ws0 i ci fs (ap ++ b) := by simp [OB1]
theorem OB1.sub {ws0 : List va_E} {i ci c2 : Nat} {fs f1 f2 : List Value} {ap b : List va_E} (hi : i < ws0.length) : OB1 (OB1 ws0 i ci fs (ap ++ [.inr (c2, f1)])) (ws0.length + ap.length) c2 f2 b = OB1 ws0 i ci fs (ap ++ .inr (c2, f2) :: b) := by
  unfold OB1
  have e : (ws0.set i (.inr (ci, fs)) ++ (ap ++ [(Sum.inr (c2, f1) : va_E)])).set (ws0.length + ap.length) (.inr (c2, f2)) = ws0.set i (.inr (ci, fs)) ++ (ap ++ [(Sum.inr (c2, f2) : va_E)]) := by
    rw [List.set_append_right _ _ (by simp), List.set_append_right _ _ (by simp)]
    simp
  rw [e]
  simp
theorem OB1.last {ws0 : List va_E} {i ci c2 : Nat} {fs f1 : List Value} {ap : List va_E} : (OB1 ws0 i ci fs (ap ++ [.inr (c2, f1)]))[ws0.length + ap.length]? = some (.inr (c2, f1)) := by
  unfold OB1
  rw [List.getElem?_append_right (by simp), List.getElem?_append_right (by simp)]
  simp
def WC (y : LY) (l : Launch) (E : ET) (nL : Nat) (Q : State → Prop) (pc : Nat) (lv : List (Nat × Value)) (st : List Value) (ws : List va_E) (ce sl : Nat) : Prop :=
  ∀ (H : Heap) (locs : List Loc) (ls : Array Slot), CP y ws H → va_S (Ay y) (eS E).heap H locs → lv_has ls nL lv → W (eP E) l (eE E) (eR E) (eS E) (eM E) (eA E) (eB E) (eT E) (eC E) H locs ce sl Q (F0 (eM E) pc ls st)
/-- a constructor's start, end, contract -/
def PC (y : LY) (i : Nat) (ws : List va_E) : Array Value → State → Prop := fun a U => a = #[Value.ref (y.1 + i)] ∧ CP y ws U.heap ∧ KY y U ∧ NK U ∧ y.1 ≤ U.heap.size ∧ va_AO RX0 U
def QC (y : LY) (ws' : List va_E) : Array Value → State → Outcome → State → Prop := fun _ st oc t => oc = .returned none ∧ CP y ws' t.heap ∧ va_F (Ay y) st t
def MC (y : LY) (l : Launch) (ym : MethodName) (cc : ByteArray) (n : Nat) (rm : Room) (mc ms i : Nat) (ws ws' : List va_E) : Prop := Met l ym (wsU ym cc n none) rm (PC y i ws) (QC y ws') mc ms (Ay y)
theorem PC.blind {y : LY} {i : Nat} {ws : List va_E} : FrameBlind (PC y i ws) := fun a U g mk h => ⟨h.1, h.2.1, va_K.moved (u := U) (U := U.calling g mk a) (Vm.Alike.refl U.vm) h.2.2.1, NK.same (u := U) (U := U.calling g mk a) rfl h.2.2.2.1, h.2.2.2.2.1, va_AO.moved (u := U) (U := U.calling g mk a) (Vm.Alike.refl U.vm) h.2.2.2.2.2⟩
theorem MC.of {y : LY} {l : Launch} {ym : MethodName} {cc : ByteArray} {n : Nat} {rm : Room} {mc ms i : Nat} {ws ws' : List va_E} (hy : plainFor ym = true) (hn : Nat.ble 1 n = true) (hnm : ym.name = "<init>")
    (body : ∀ E : ET, CX y l E cc n ym.cls rm → (eT E).sig.returnType = none → (eT E).locks = false → (eT E).name = "<init>" → y.1 ≤ (eS E).heap.size → va_AO RX0 (eS E) → WC y l E n (MQ (eB E) (QC y ws') (eA E) (eS E) mc ms (Ay y)) 0 [(0, .ref (y.1 + i))] [] ws 0 0) : MC y l ym cc n rm mc ms i ws ws' := by
  refine Met_ofWF (cc := cc) (maxL := n) (ret := none) (ws' := lw_gd) hy rfl ?_
  intro p e s m args below meth c s₁ B hml hv
  obtain ⟨rfl, hH, hK, hNK, hsz, hAO⟩ := hv
  have hts := atoms_spec (ws := wsU ym cc n none) B.pre
  have hown : s.vm.findClass ym.cls = some m.cls := findClass_of_methodNamed B.named
  have hlv := lv_entry [Value.ref (y.1 + i)] (n := n) (Nat.le_of_ble_eq_true hn)
  have hin : meth.name = "<init>" := (name_of_methodNamed B.named B.method).1.trans hnm
  show W _ _ _ _ _ _ _ _ _ _ _ _ _ _ _ (entryFrame m ([Value.ref (y.1 + i)] : List Value).toArray n)
  rw [lg_entry_eq]
  exact body (p, e, (headSpec (wsU ym cc n none) rm).room, s, m, #[Value.ref (y.1 + i)], below, meth, c, 0, 0) ⟨B.exec, B.bytes, hml, hown, fun w hw => hts w (List.mem_cons_of_mem _ hw), hNK, hK, rfl, Nat.zero_le _, Nat.zero_le _⟩ B.returns B.notSynchronized hin hsz hAO s.heap [] _ hH va_S.rf hlv
theorem KY.int {y : LY} {s : State} (h : KY y s) : ArrOfT s y.2.2.2.1 .int ∧ s.vm.findClass ("[" ++ FieldType.int.toString) = some y.2.2.2.1 := h.2 0 _ rfl
theorem KY.ref {y : LY} {s : State} (h : KY y s) : s.vm.findClass ("[" ++ (FieldType.object RX0).toString) = some y.2.2.2.2 := by
  obtain ⟨-, kA, comp, -, -, -, h4⟩ := h.2 1 _ rfl
  exact h4
theorem oi_1 : Cond.instanceMethod objectInit ∈ lw_gd := by decide +kernel
theorem oi_2 : Cond.code objectInit ⟨#[0xb1]⟩ 1 none ∈ lw_gd := by decide +kernel
theorem ai_1 : Cond.arrayClass .int ∈ lw_gd := by decide +kernel
section CtorRows
variable {y : LY} {l : Launch} {E : ET} {nL : Nat} {Q : State → Prop} {pc : Nat} {lv : List (Nat × Value)} {st : List Value} {cc : ByteArray} {own : String} {rm : Room} {ws ws0 ap : List va_E} {i ci ce sl : Nat} {fs : List Value}
theorem c_lift {pc' : Nat} {st' : List Value} (h : ∀ (H : Heap) (locs : List Loc) (ls : Array Slot), lv_has ls nL lv → W (eP E) l (eE E) (eR E) (eS E) (eM E) (eA E) (eB E) (eT E) (eC E) H locs ce sl Q (F0 (eM E) pc' ls st') → W (eP E) l (eE E) (eR E) (eS E) (eM E) (eA E) (eB E) (eT E) (eC E) H locs ce sl Q (F0 (eM E) pc ls st)) (k : WC y l E nL Q pc' lv st' ws ce sl) : WC y l E nL Q pc lv st ws ce sl :=
  fun H locs ls hH hS hl => h H locs ls hl (k H locs ls hH hS hl)
theorem c_iconst {n : Int} {v : Int32} (X : CX y l E cc nL own rm) (hd : decode cc pc = .ok (.iconst n, 1)) (hv : Int32.ofInt n = v) (k : WC y l E nL Q (pc + 1) lv (.int v :: st) ws ce sl) : WC y l E nL Q pc lv st ws ce sl := c_lift (fun _ _ _ hl w => lv_iconst X.1 X.2.1 hd hv w) k
theorem c_bipush {n : Int} {v : Int32} (X : CX y l E cc nL own rm) (hd : decode cc pc = .ok (.bipush n, 2)) (hv : (Int8.ofInt n).toInt32 = v) (k : WC y l E nL Q (pc + 2) lv (.int v :: st) ws ce sl) : WC y l E nL Q pc lv st ws ce sl := c_lift (fun _ _ _ hl w => lv_bipush X.1 X.2.1 hd hv w) k
theorem c_sipush {n : Int} {v : Int32} (X : CX y l E cc nL own rm) (hd : decode cc pc = .ok (.sipush n, 3)) (hv : (Int16.ofInt n).toInt32 = v) (k : WC y l E nL Q (pc + 3) lv (.int v :: st) ws ce sl) : WC y l E nL Q pc lv st ws ce sl := c_lift (fun _ _ _ hl w => lv_sipush X.1 X.2.1 hd hv w) k
theorem c_aload_n {k0 : Fin 4} {j0 x : Nat} (X : CX y l E cc nL own rm) (hd : decode cc pc = .ok (.aload_n k0, 1)) (j : Nat) (hi : (k0 : Nat) = j0) (hj : lv[j]? = some (j0, .ref x)) (k : WC y l E nL Q (pc + 1) lv (.ref x :: st) ws ce sl) : WC y l E nL Q pc lv st ws ce sl := c_lift (fun _ _ _ hl w => lv_aload_n X.1 X.2.1 hd hi (lv_at hl j hj) w) k
theorem c_iload_n {k0 : Fin 4} {j0 : Nat} {x : Int32} (X : CX y l E cc nL own rm) (hd : decode cc pc = .ok (.iload_n k0, 1)) (j : Nat) (hi : (k0 : Nat) = j0) (hj : lv[j]? = some (j0, .int x)) (k : WC y l E nL Q (pc + 1) lv (.int x :: st) ws ce sl) : WC y l E nL Q pc lv st ws ce sl := c_lift (fun _ _ _ hl w => lv_iload_n X.1 X.2.1 hd hi (lv_at hl j hj) w) k
theorem c_dup {v : Value} (X : CX y l E cc nL own rm) (hd : decode cc pc = .ok (.dup, 1)) (hv : v.category = 1) (k : WC y l E nL Q (pc + 1) lv (v :: v :: st) ws ce sl) : WC y l E nL Q pc lv (v :: st) ws ce sl := c_lift (fun _ _ _ hl w => lv_dup X.1 X.2.1 hd hv w) k
theorem c_goto {off : Int} {tgt : Nat} (X : CX y l E cc nL own rm) (hd : decode cc pc = .ok (.goto off, 3)) (ht : (pc : Int) + off = (tgt : Int)) (k : WC y l E nL Q tgt lv st ws ce sl) : WC y l E nL Q pc lv st ws ce sl := c_lift (fun _ _ _ hl w => lv_goto X.1 X.2.1 hd ht w) k
theorem c_geT {a b : Int32} {off : Int} {tgt : Nat} (X : CX y l E cc nL own rm) (hd : decode cc pc = .ok (.if_icmp .ge off, 3)) (ht : (pc : Int) + off = (tgt : Int)) (h : b ≤ a) (k : WC y l E nL Q tgt lv st ws ce sl) : WC y l E nL Q pc lv (.int b :: .int a :: st) ws ce sl := c_lift (fun _ _ _ hl w => lv_icmp_ge X.1 X.2.1 hd ht (fun _ => w) (fun q => absurd h q)) k
theorem c_geF {a b : Int32} {off : Int} {tgt : Nat} (X : CX y l E cc nL own rm) (hd : decode cc pc = .ok (.if_icmp .ge off, 3)) (ht : (pc : Int) + off = (tgt : Int)) (h : ¬ b ≤ a) (k : WC y l E nL Q (pc + 3) lv st ws ce sl) : WC y l E nL Q pc lv (.int b :: .int a :: st) ws ce sl := c_lift (fun _ _ _ hl w => lv_icmp_ge X.1 X.2.1 hd ht (fun q => absurd q h) (fun _ => w)) k
theorem c_istore_n {k0 : Fin 4} {j0 : Nat} {x : Int32} {lv' : List (Nat × Value)} (X : CX y l E cc nL own rm) (hd : decode cc pc = .ok (.istore_n k0, 1)) (hi : (k0 : Nat) = j0) (hn : j0 < nL) (hl' : (j0, Value.int x) :: lv.filter (fun q => !(q.1 == j0) && !(q.1 + 1 == j0 && q.2.category == 2)) = lv') (k : WC y l E nL Q (pc + 1) lv' st ws ce sl) : WC y l E nL Q pc lv (.int x :: st) ws ce sl :=
  fun H locs ls hH hS hl => lv_istore_n X.1 X.2.1 hd hi hl hn hl' (fun ls' hl2 => k H locs ls' hH hS hl2)
theorem c_iinc {j0 : Nat} {n : Int} {x v : Int32} {lv' : List (Nat × Value)} (X : CX y l E cc nL own rm) (hd : decode cc pc = .ok (.iinc j0 n, 3)) (j : Nat) (hj : lv[j]? = some (j0, .int x)) (hv : x + Int32.ofInt n = v) (hn : j0 < nL) (hl' : (j0, Value.int v) :: lv.filter (fun q => !(q.1 == j0) && !(q.1 + 1 == j0 && q.2.category == 2)) = lv') (k : WC y l E nL Q (pc + 3) lv' st ws ce sl) : WC y l E nL Q pc lv st ws ce sl :=
  fun H locs ls hH hS hl => lv_iinc X.1 X.2.1 hd hl hj hv hn hl' (fun ls' hl2 => k H locs ls' hH hS hl2)
theorem c_obj {idx a : Nat} (X : CX y l E cc nL own rm) (hd : decode cc pc = .ok (.invokespecial idx, 3)) (hL : Cond.methodLink own idx objectInit ∈ lw_gd) (hR : 1 ≤ rm.frames ∧ 20 ≤ rm.locals) (hst : (st.map fun v => v.category).sum ≤ 8) (k : WC y l E nL Q (pc + 3) lv st ws ce sl) : WC y l E nL Q pc lv (.ref a :: st) ws ce sl := by
  intro H locs ls hH hS hl
  obtain ⟨hx, hb, hml, hown, hts, hNK, hK, hrm, -⟩ := X
  subst hrm
  exact W.objInit hx hb hown (hts _ hL) (hts _ oi_1) (hts _ oi_2) rfl (by rw [hml]; exact hl.1) rfl hd hR.1 (by show 2 * 0 + _ + 12 ≤ _; have := hR.2; omega) (k H locs ls hH hS hl)
theorem c_newa {n : Int32} {N : Nat} {ap' : List va_E} {k0 : Nat} (X : CX y l E cc nL own rm) (hd : decode cc pc = .ok (.newarray .int, 2)) (hn : ¬ n < 0) (hN : n.toNatClampNeg = N) (hb : N * 4 ≤ 536870912) (hce : ce + 1 ≤ rm.cells) (hsl : sl + N ≤ rm.slots) (hk : ap.length = k0) (hap : ap ++ [.inl (y.2.2.2.1, N, .inl (fun _ => 0))] = ap') (k : WC y l E nL Q (pc + 2) lv (.ref (y.1 + (ws0.length + k0)) :: st) (OB1 ws0 i ci fs ap') (ce + 1) (sl + N)) : WC y l E nL Q pc lv (.int n :: st) (OB1 ws0 i ci fs ap) ce sl := by
  intro H locs ls hH hS hl
  subst hk; subst hap
  obtain ⟨hx, hb', hml, hown, hts, hNK, hK, hrm, -⟩ := X
  subst hrm
  have hz : H.size = y.1 + (ws0.length + ap.length) := by rw [hH.1, OB1.len]
  refine va_newaK hx hb' (atype := .int) (hts _ ai_1) rfl hd rfl hn hN hb hce hsl hz fun H1 cA e1 z1 o1 hAr hNm => ?_
  have hcA : cA = y.2.2.2.1 := Option.some.inj (hNm.symm.trans hK.int.2)
  subst hcA
  refine k H1 locs ls ?_ ⟨by rw [z1]; have := hS.1; omega, fun q g1 g2 => (o1 q (by have := hS.1; omega)).trans (hS.2.1 q g1 g2), hS.2.2⟩ hl
  rw [← OB1.app]
  refine hH.push (by rw [z1, hz]) (fun q hq => o1 q (by omega)) ?_
  show H1[y.1 + (OB1 ws0 i ci fs ap).length]? = some (vp_cell _ _)
  rw [OB1.len, vp_cell_i]
  exact e1
theorem c_newq {n : Int32} {idx : Nat} {ap' : List va_E} {k0 : Nat} (X : CX y l E cc nL own rm) (hd : decode cc pc = .ok (.anewarray idx, 3)) (hcl : Cond.classLink own idx RX0 ∈ lw_gd) (hov : va_AO RX0 (eS E)) (hn : n = 8) (hce : ce + 1 ≤ rm.cells) (hsl : sl + 8 ≤ rm.slots) (hk : ap.length = k0) (hap : ap ++ [.inl (y.2.2.2.2, 8, .inr (.inr (.inr (.inr (fun _ => none)))))] = ap') (k : WC y l E nL Q (pc + 3) lv (.ref (y.1 + (ws0.length + k0)) :: st) (OB1 ws0 i ci fs ap') (ce + 1) (sl + 8)) : WC y l E nL Q pc lv (.int n :: st) (OB1 ws0 i ci fs ap) ce sl := by
  intro H locs ls hH hS hl
  subst hk; subst hap; subst hn
  obtain ⟨hx, hb', hml, hown, hts, hNK, hK, hrm, -⟩ := X
  subst hrm
  have hz : H.size = y.1 + (ws0.length + ap.length) := by rw [hH.1, OB1.len]
  refine W.anew hx hb' hown (hts _ hcl) (va_AO.use hov) rfl hd rfl (by decide) (by decide) hce hsl fun cA kA comp f1 f2 f3 f4 => ?_
  have hcA : cA = y.2.2.2.2 := Option.some.inj (f1.symm.trans hK.ref)
  subst hcA
  rw [hz]
  generalize hH1 : H.push ({ cls := y.2.2.2.2, slots := Array.replicate (8 : Int32).toNatClampNeg .null, vm := .none } : Cell) = H1
  have z1 : H1.size = H.size + 1 := by rw [← hH1, Array.size_push]
  have e1 : H1[H.size]? = some (arrV y.2.2.2.2 (8 : Int32).toNatClampNeg (fun _ => .null)) := by rw [← hH1, Array.getElem?_push_size, ← arrV_new]
  have o1 : ∀ q : Nat, q < H.size → H1[q]? = H[q]? := fun q hq => by rw [← hH1, Array.getElem?_push, if_neg (Nat.ne_of_lt hq)]
  refine k H1 locs ls ?_ ⟨by rw [z1]; have := hS.1; omega, fun q g1 g2 => (o1 q (by have := hS.1; omega)).trans (hS.2.1 q g1 g2), hS.2.2⟩ hl
  rw [← OB1.app]
  refine hH.push z1 o1 ?_
  show H1[y.1 + (OB1 ws0 i ci fs ap).length]? = some (vp_cell _ _)
  rw [OB1.len, ← hz, vp_cell_q]
  exact e1
theorem c_new {idx N : Nat} {C : String} {T : u_T} {c2 : Nat} {ap' : List va_E} {k0 : Nat} {f2 : List Value} (ty : Nat → FieldType) (X : CX y l E cc nL own rm) (hd : decode cc pc = .ok (.new idx, 3)) (hc : clU[c2]? = some (C, T, N)) (hty : ∀ k, k < N → parseFieldDescriptor (T k).2.2.1 = some (ty k)) (hcl : Cond.classLink own idx C ∈ lw_gd) (hins : Cond.instantiable C N ∈ lw_gd) (hini : Cond.initialized C ∈ lw_gd) (hf : ∀ j, j < N → defaultValue (ty j) = vp_V f2 j) (hce : ce + 1 ≤ rm.cells) (hsl : sl + N ≤ rm.slots) (hz : ws.length = k0) (hap : ws ++ [.inr (c2, f2)] = ap') (k : WC y l E nL Q (pc + 3) lv (.ref (y.1 + k0) :: st) ap' (ce + 1) (sl + N)) : WC y l E nL Q pc lv st ws ce sl := by
  intro H locs ls hH hS hl
  subst hz; subst hap
  obtain ⟨hx, hb', hml, hown, hts, hNK, hK, hrm, -⟩ := X
  subst hrm
  have hKn := hK.1 c2 _ hc
  refine W.newcK hx hb' hown (hts _ hcl) (hts _ hins) (hts _ hini) rfl hd hce hsl hKn.2.1 hH.1 fun H1 kC hkC e1 z1 o1 => ?_
  refine k H1 locs ls ?_ ⟨by rw [z1]; have := hS.1; have := hH.1; omega, fun q g1 g2 => (o1 q (by have := hS.1; have := hH.1; omega)).trans (hS.2.1 q g1 g2), hS.2.2⟩ hl
  refine hH.push (by rw [z1, hH.1]) (fun q hq => o1 q (by have := hH.1; omega)) ?_
  exact ⟨_, hc, (u_born ty hts (cl_ws hc).1 hKn hkC e1 hty).to hf⟩
/-- a field of an object under construction -/
theorem c_putU {idx k : Nat} {v : Value} {fs' : List Value} {C : String} {T : u_T} {N : Nat} {ty : FieldType} (X : CX y l E cc nL own rm) (hd : decode cc pc = .ok (.putfield idx, 3)) (hi : i < ws0.length) (hc : clU[ci]? = some (C, T, N)) (hkN : k < N) (hlen : fs.length = N) (hlk : Cond.fieldLink own idx (T k).1 (T k).2.1 (T k).2.2.1 ∈ lw_gd) (hfin : (T k).2.2.2 = false ∨ ((eT E).name = "<init>" ∧ (T k).1 = own)) (hty : parseFieldDescriptor (T k).2.2.1 = some ty) (hn : narrow ty v = v) (hfit : fits ty v = true) (hfs : fs.set k v = fs') (kk : WC y l E nL Q (pc + 3) lv st (OB1 ws0 i ci fs' ap) ce sl) : WC y l E nL Q pc lv (v :: .ref (y.1 + i) :: st) (OB1 ws0 i ci fs ap) ce sl := by
  intro H locs ls hH hS hl
  subst hfs
  obtain ⟨hx, hb, hml, hown, hts, hNK, hK, hrm, -⟩ := X
  obtain ⟨hin, hN⟩ := cl_ws hc
  obtain ⟨r, h1, cell, q1, q2, q3, q4⟩ := hH.2 i _ (OB1.at hi)
  have hr : r = (C, T, N) := Option.some.inj (h1.symm.trans hc)
  subst hr
  obtain ⟨hSl, hfc, kC, hkC, hkind⟩ := hK.1 ci _ hc
  obtain ⟨cf, kf, fi, f, hi', hsl⟩ := hSl k hkN
  have hst := (u_facts hfc hkC (u_lays hts hin hkN) hi').1
  have hlay := hts _ (hin _ (u_in_lay hkN))
  unfold u_lay at hlay
  have hap := cl_ap hts hK (cl_lt hc)
  rw [hN] at hap
  have fin : ∀ H' : Heap, H'[y.1 + i]? = some (cell.setSlot f.slot v) → H'.size = H.size → (∀ q, q ≠ y.1 + i → H'[q]? = H[q]?) → W (eP E) l (eE E) (eR E) (eS E) (eM E) (eA E) (eB E) (eT E) (eC E) H' (locs ++ [⟨y.1 + i, f.slot⟩]) ce sl Q (F0 (eM E) (pc + 3) ls st) := by
    intro H' e1 e2 e3
    refine kk H' _ ls ?_ (hS.put e2 e3 (Nat.le_add_right _ _)) hl
    rw [← OB1.set hi]
    refine hH.put (by rw [OB1.len]; omega) e2 e3 ⟨_, hc, ?_⟩
    rw [hsl] at e1
    exact t_OB.to (V := updV (vp_V fs) k v) ⟨_, e1, q2, q3, t_set q4 hap hkN v⟩ (fun j _ => vp_updV_set (by rw [hlen]; exact hkN) v j)
  by_cases hF : (T k).2.2.2 = true
  · rw [if_pos hF] at hlay
    have hmm : (eT E).name = "<init>" ∧ (T k).1 = own := hfin.resolve_left (by rw [hF]; decide)
    have hcf : (eM E).cls = cf := by
      obtain ⟨_, _, c', _, _, _, -, -, hf', -, -, -, hown2, -⟩ := Cond.laysFinal_spec hlay
      have e1 : c' = cf := by have := hi'.symm.trans hf'; simp at this; exact this.1.symm
      rw [hmm.2] at hown2
      rw [← e1]; exact Option.some.inj (hown.symm.trans hown2)
    have h6 := u_fits hfc hkC hkind (Or.inr hlay) hi' hty hn hfit
    exact W.putFinK hx hb hown (hts _ hlk) hi' hst hcf hmm.1 (by rw [q2]; exact h6) q1 q3 (by rw [hsl]; exact k2_hasslot (q4 k hkN)) rfl rfl hd fin
  · rw [if_neg hF] at hlay
    have h6 := u_store hfc hkC hkind hlay hi' hty hn hfit
    exact W.putK hx hb (f := f) ⟨hown, hts _ hlk, ⟨_, _, _, hi'⟩, hst⟩ (by rw [q2]; exact h6) q1 q3 (by rw [hsl]; exact k2_hasslot (q4 k hkN)) rfl rfl hd fin
theorem c_get {idx k : Nat} {v : Value} {C : String} {T : u_T} {N : Nat} (X : CX y l E cc nL own rm) (hd : decode cc pc = .ok (.getfield idx, 3)) (hi : i < ws0.length) (hc : clU[ci]? = some (C, T, N)) (hkN : k < N) (hlk : Cond.fieldLink own idx (T k).1 (T k).2.1 (T k).2.2.1 ∈ lw_gd) (hv : fs[k]? = some v) (kk : WC y l E nL Q (pc + 3) lv (v :: st) (OB1 ws0 i ci fs ap) ce sl) : WC y l E nL Q pc lv (.ref (y.1 + i) :: st) (OB1 ws0 i ci fs ap) ce sl := by
  intro H locs ls hH hS hl
  obtain ⟨hx, hb, hml, hown, hts, hNK, hK, hrm, -⟩ := X
  obtain ⟨hin, hN⟩ := cl_ws hc
  obtain ⟨r, h1, cell, q1, q2, q3, q4⟩ := hH.2 i _ (OB1.at hi)
  have hr : r = (C, T, N) := Option.some.inj (h1.symm.trans hc)
  subst hr
  obtain ⟨hSl, hfc, kC, hkC, hkind⟩ := hK.1 ci _ hc
  obtain ⟨cf, kf, fi, f, hi', hsl⟩ := hSl k hkN
  exact W.getf hx hb hown (hts _ hlk) hi' (u_facts hfc hkC (u_lays hts hin hkN) hi').1 q1 (by rw [q3]; exact fun h => by cases h) (v := v) (by rw [hsl, q4 k hkN]; simp [vp_V, hv]) rfl rfl hd (kk H locs ls hH hS hl)
/-- a street into the row of streets -/
theorem c_aast {a b : Nat} {z : Int32} {k0 : Nat} {f : Nat → Option Nat} {vs : List Value} {ws' : List va_E} (X : CX y l E cc nL own rm) (hd : decode cc pc = .ok (.aastore, 1)) (ha : ws[a]? = some (.inl (y.2.2.2.2, 8, .inr (.inr (.inr (.inr f)))))) (hb : ws[b]? = some (.inr (0, vs))) (hz : ¬ z < 0) (hk : z.toNatClampNeg = k0) (hk8 : k0 < 8) (hw : ws.set a (.inl (y.2.2.2.2, 8, .inr (.inr (.inr (.inr (va_up f k0 (some (y.1 + b)))))))) = ws') (kk : WC y l E nL Q (pc + 1) lv st ws' ce sl) : WC y l E nL Q pc lv (.ref (y.1 + b) :: .int z :: .ref (y.1 + a) :: st) ws ce sl := by
  intro H locs ls hH hS hl
  subst hk; subst hw
  obtain ⟨hx, hb', hml, hown, hts, hNK, hK, hrm, -⟩ := X
  have hA : H[y.1 + a]? = some (vp_cell y.2.2.2.2 (8, .inr (.inr (.inr (.inr f))))) := hH.2 a _ ha
  obtain ⟨r, h1, cellV, g1, g2, g3, -⟩ := hH.2 b _ hb
  have hcls := (hK.1 0 _ rfl).2
  obtain ⟨kA, comp, k1, k2, k3, -⟩ := (hK.2 1 _ rfl).2
  have hcomp : comp = y.2.1 0 := Option.some.inj (k3.symm.trans hcls.1)
  subst hcomp
  obtain ⟨kC, hkC, -⟩ := hcls.2
  refine W.aast hx hb' hA (fun q h => by cases h) (fun h => by cases h) k1 k2 rfl hkC ⟨hz, by show _ < (arrV _ _ _).slots.size; rw [arrV_size]; exact hk8⟩ g1 (fun q h => by rw [g3] at h; cases h) (by rw [g2]; exact hkC) (by rw [g2]; exact va_assign hcls) rfl rfl hd fun H1 e z1 oq => ?_
  refine kk H1 _ ls (hH.put (List.getElem?_eq_some_iff.mp ha).1 z1 oq ?_) (hS.put z1 oq (Nat.le_add_right _ _)) hl
  show H1[y.1 + a]? = some (vp_cell _ _)
  rw [e]
  rw [vp_cell_q, vp_cell_q, arrV_store]
  congr 2
  funext q
  by_cases hq : q = z.toNatClampNeg
  · subst hq
    simp [updV, va_up, va_rf]
  · simp [updV, va_up, hq]
/-- a constructor is called -/
theorem c_call {idx n' mc ms j : Nat} {ym : MethodName} {c' : ByteArray} {rm' : Room} {ws' : List va_E} (X : CX y l E cc nL own rm) (hd : decode cc pc = .ok (.invokespecial idx, 3)) (hnm : ym.name = "<init>") (hins : Cond.instanceMethod ym ∈ lw_gd) (hini : Cond.initialized ym.cls ∈ lw_gd) (hcode : Cond.code ym c' n' none ∈ lw_gd) (hno : ym.cls ≠ "java/lang/invoke/MethodHandle" ∧ ym.cls ≠ "java/lang/invoke/VarHandle") (hpar : (parseMethodDescriptor ym.desc).map (fun d => d.parameters.length) = some 0) (hL : ML own idx ym)
    (hR : rm'.cells = mc ∧ rm'.slots = ms ∧ rm'.frames + 1 ≤ rm.frames ∧ 8 + (n' + 11) + rm'.locals ≤ rm.locals) (hce : ce + mc ≤ rm.cells) (hsl : sl + ms ≤ rm.slots) (hy : y.1 ≤ (eS E).heap.size) (hAO : va_AO RX0 (eS E)) (hM : MC y l ym c' n' rm' mc ms j ws ws') (hW : (st.map fun v => v.category).sum ≤ 8)
    (kk : WC y l E nL Q (pc + 3) lv st ws' (ce + mc) (sl + ms)) : WC y l E nL Q pc lv (.ref (y.1 + j) :: st) ws ce sl := by
  intro H locs ls hH hS hl
  obtain ⟨hx, hb, hml, hown, hts, hNK, hK, hrm, -, -⟩ := X
  obtain ⟨r1, r2, r3, r4⟩ := hR
  subst hrm
  have hP : PreS (eS E) H (PC y j ws) [.ref (y.1 + j)] := ⟨PC.blind, fun U hU hW => ⟨rfl, by rw [hU]; exact hH, va_K.moved hW.alike hK, hNK.warm hW, by rw [hU]; exact Nat.le_trans hy hS.1, va_AO.moved hW.alike hAO⟩⟩
  have S : CallFix (eP E) (eM E) (eC E) cc nL (eS E) (eA E) lw_gd own := ⟨hx, hb, hml, hown, hts⟩
  have goOn : va_Run (eP E) l (eE E) (eR E) (eS E) (eM E) (eA E) (eB E) (eT E) (eC E) H locs ce sl mc ms (F0 (eM E) pc ls (.ref (y.1 + j) :: st)) st (QC y ws' [Value.ref (y.1 + j)].toArray) (Ay y) → W (eP E) l (eE E) (eR E) (eS E) (eM E) (eA E) (eB E) (eT E) (eC E) H locs ce sl Q (F0 (eM E) pc ls (.ref (y.1 + j) :: st)) := by
    intro hrun T0 hT X0
    obtain ⟨v, st₀, t, T', L, h0, X', hL', e1, e2, ⟨q1, q2, q3, q4⟩, go⟩ := hrun T0 hT X0
    cases q1
    rw [h0] at q3 q4
    obtain ⟨t2, a1, b1⟩ := kk T'.heap (locs ++ L) ls (by rw [e1]; exact q2) ⟨Nat.le_trans hS.1 (by rw [e1]; exact q3), fun q h1 h2 => by rw [e1, q4 q (Nat.lt_of_lt_of_le h1 hS.1) h2]; exact hS.2.1 q h1 h2, fun q hq => by
        rcases List.mem_append.mp hq with h | h
        · exact hS.2.2 q h
        · exact hL' q h⟩ hl T' rfl X'
    exact ⟨t2, go t2 a1, b1⟩
  rcases hL with h | ⟨host, h⟩
  · exact goOn (va_runI (As := []) S hM ⟨⟨r1, r2, r3, r4, ws_pay hts hcode, List.mem_cons_self, hts _ hcode, hts _ hini, hno, par_len hpar, hts _ h⟩, hnm, hts _ hins⟩ hP rfl rfl hl.1 rfl (lv_room hW) hd ⟨hce, hsl⟩)
  · exact goOn (va_runIN (As := []) S hM ⟨⟨⟨r1, r2, r3, r4, ws_pay hts hcode, List.mem_cons_self⟩, hts _ hcode, hts _ hini, hno, par_len hpar, va_Nw.use rfl (hNK _ h)⟩, hnm, hts _ hins⟩ hP rfl rfl hl.1 rfl (lv_room hW) hd ⟨hce, hsl⟩)
theorem c_ret {ws' : List va_E} {mc ms : Nat} (X : CX y l E cc nL own rm) (z1 : (eT E).sig.returnType = none) (z2 : (eT E).locks = false) (hd : decode cc pc = .ok (.return_, 1)) (hw : ws = ws') (hc : ce = mc) (hs : sl = ms) : WC y l E nL (MQ (eB E) (QC y ws') (eA E) (eS E) mc ms (Ay y)) pc lv [] ws ce sl := by
  intro H locs ls hH hS hl
  subst hw; subst hc; subst hs
  exact W.vret (Qc := QC y ws) (free := Ay y) X.1 X.2.1 z1 (fun t ht hW => ⟨rfl, by rw [ht]; exact hH, hS.F ht⟩) hS.2.2 hd z2
theorem c_eq {ws' : List va_E} (h : ws = ws') (k : WC y l E nL Q pc lv st ws' ce sl) : WC y l E nL Q pc lv st ws ce sl := by rw [h]; exact k
theorem c_sub (ks : List Nat) {lv' : List (Nat × Value)} (hl' : lv_pick lv ks = lv') (k : WC y l E nL Q pc lv' st ws ce sl) : WC y l E nL Q pc lv st ws ce sl :=
  fun H locs ls hH hS hl => k H locs ls hH hS (lv_sub hl ks hl')
end CtorRows

theorem OB1.self {ws0 : List va_E} {i ci : Nat} {fs : List Value} (h : ws0[i]? = some (.inr (ci, fs))) : OB1 ws0 i ci fs [] = ws0 := by
  unfold OB1
  rw [List.append_nil]
  apply List.ext_getElem?
  intro j
  by_cases hj : j = i
  · subst hj
    rw [List.getElem?_set_self (List.getElem?_eq_some_iff.mp h).1, h]
  · rw [List.getElem?_set_ne (fun q => hj q.symm)]
theorem arrV_congr {cI : ClassId} {N : Nat} {f g : Nat → Value} (h : ∀ i, i < N → f i = g i) : arrV cI N f = arrV cI N g := by
  unfold arrV
  congr 1
  apply Array.ext
  · simp
  · intro j h1 h2
    simp at h1
    simp [h j h1]
theorem OB1.getA {ws0 A B : List va_E} {i ci : Nat} {fs : List Value} {x : va_E} : (OB1 ws0 i ci fs (A ++ x :: B))[ws0.length + A.length]? = some x := by
  unfold OB1
  rw [List.getElem?_append_right (by simp), List.getElem?_append_right (by simp)]
  simp
theorem OB1.setA {ws0 A B : List va_E} {i ci : Nat} {fs : List Value} {x x' : va_E} : (OB1 ws0 i ci fs (A ++ x :: B)).set (ws0.length + A.length) x' = OB1 ws0 i ci fs (A ++ x' :: B) := by
  unfold OB1
  rw [List.set_append_right _ _ (by simp), List.set_append_right _ _ (by simp)]
  simp
