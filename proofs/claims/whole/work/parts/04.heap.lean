/-! rows that read and write the heap; calls; returns; a method's contract -/
theorem inG0 : ∀ w ∈ u_ws RX0 TX0 19, w ∈ lw_gd := by decide +kernel
theorem inG1 : ∀ w ∈ u_ws RX1 TX1 5, w ∈ lw_gd := by decide +kernel
theorem inG2 : ∀ w ∈ u_ws RX2 TX2 13, w ∈ lw_gd := by decide +kernel
theorem inG3 : ∀ w ∈ u_ws RX3 TX3 38, w ∈ lw_gd := by decide +kernel
theorem cl_lt {ci : Nat} {r : vw_C} (h : clU[ci]? = some r) : ci < 4 := (List.getElem?_eq_some_iff.mp h).1
theorem cl_ws {ci : Nat} {C : String} {T : u_T} {N : Nat} (h : clU[ci]? = some (C, T, N)) : (∀ w ∈ u_ws C T N, w ∈ lw_gd) ∧ NF ci = N := by
  have hl := cl_lt h
  match ci, hl, h with
  | 0, _, h => cases h; exact ⟨inG0, rfl⟩
  | 1, _, h => cases h; exact ⟨inG1, rfl⟩
  | 2, _, h => cases h; exact ⟨inG2, rfl⟩
  | 3, _, h => cases h; exact ⟨inG3, rfl⟩
theorem cl_ap {args : Array Value} {s : State} {y : LY} (hts : ∀ w ∈ lw_gd, w.before args s = true) (hK : KY y s) {ci : Nat} (hl : ci < 4) : ∀ a b, a < NF ci → b < NF ci → a ≠ b → y.2.2.1 ci a ≠ y.2.2.1 ci b := by
  match ci, hl with
  | 0, _ => exact va_apart (own := "") hts inG0 tyX0 tyX0_ok nmX0 hK rfl
  | 1, _ => exact va_apart (own := "") hts inG1 tyX1 tyX1_ok nmX1 hK rfl
  | 2, _ => exact va_apart (own := "") hts inG2 tyX2 tyX2_ok nmX2 hK rfl
  | 3, _ => exact va_apart (own := "") hts inG3 tyX3 tyX3_ok nmX3 hK rfl
/-- a field's link at an entry of a class's pool -/
def FL (own : String) (idx ci k : Nat) : Prop := ∃ (C : String) (T : u_T) (N : Nat), clU[ci]? = some (C, T, N) ∧ k < N ∧ (Cond.fieldLink own idx (T k).1 (T k).2.1 (T k).2.2.1 ∈ lw_gd ∨ ∃ host, Cond.fieldLinkNest own idx (T k).1 (T k).2.1 (T k).2.2.1 host ∈ lw_ns)
/-- and it may be written, and holds a whole number or a truth value -/
def FW (ci k : Nat) (ty : FieldType) : Prop := ∃ (C : String) (T : u_T) (N : Nat), clU[ci]? = some (C, T, N) ∧ (T k).2.2.2 = false ∧ parseFieldDescriptor (T k).2.2.1 = some ty
theorem HR.putF {y : LY} {σ : ST} {H H1 : Heap} (h : HR y σ H) {o k : Nat} (ho : o < 14) (hf : fk (co o) k = 0) {x : Int32} (e : t_OB (ad y o) (y.2.1 (co o)) (NF (co o)) (y.2.2.1 (co o)) H1 (updV (fv y σ o) k (.int x))) (oq : ∀ q : Nat, q ≠ ad y o → H1[q]? = H[q]?) : HR y (upd3 σ.1 o k 0 x, σ.2) H1 := by
  obtain ⟨h1, h2, h3⟩ := h
  refine ⟨fun o' ho' => ?_, fun o' k' ho' hk' hA' => ?_, ?_⟩
  · by_cases hn : o' = o
    · subst hn
      refine e.to (fun k' _ => ?_)
      unfold updV fv
      by_cases hk : k' = k
      · subst hk
        simp [hf, upd3]
      · simp [hk, upd3]
    · refine ((h1 o' ho').kept (oq _ (fun q => hn (ad_inj ho' ho q)))).to (fun k' _ => ?_)
      unfold fv
      simp [upd3, hn]
  · rw [oq _ (fun q => ad_aa ho ho' hk' hA' q.symm), h2 o' k' ho' hk' hA']
    have hn : ¬ (o' = o ∧ k' = k) := by
      rintro ⟨rfl, rfl⟩
      simp [isA, hf] at hA'
    congr 1
    congr 1
    funext i
    have h4 : ¬ (o' = o ∧ k' = k ∧ i = 0) := fun q => hn ⟨q.1, q.2.1⟩
    simp [upd3, h4]
  · rw [oq _ (fun q => ad_ap ho q.symm), h3]
theorem HR.putP {y : LY} {σ : ST} {H H1 : Heap} (h : HR y σ H) {f : Nat → Nat} (e : H1[aa y 0 4]? = some (arrV y.2.2.2.2 8 (fun i => .ref (ad y (f i))))) (oq : ∀ q : Nat, q ≠ aa y 0 4 → H1[q]? = H[q]?) : HR y (σ.1, f) H1 := by
  obtain ⟨h1, h2, h3⟩ := h
  refine ⟨fun o' ho' => ?_, fun o' k' ho' hk' hA' => ?_, e⟩
  · exact (h1 o' ho').kept (oq _ (ad_ap ho'))
  · rw [oq _ (aa_ap ho' hk' hA'), h2 o' k' ho' hk' hA']
theorem le_ad {y : LY} {o : Nat} : Ay y (ad y o) := Nat.le_add_right _ _
theorem le_aa {y : LY} {o k : Nat} : Ay y (aa y o k) := Nat.le_add_right _ _
abbrev AR (o k n : Nat) : Prop := o < 14 ∧ k < 38 ∧ isA o k = true ∧ fk (co o) k - 1 = n
theorem co_st {o : Nat} (h : 1 ≤ o ∧ o ≤ 11) : co o = 0 := by
  unfold co
  rw [if_neg (by omega), if_pos h.2]
theorem ar_st {o k n : Nat} (h : 1 ≤ o ∧ o ≤ 11) (a : AR 1 k n) : AR o k n := by
  have e : co o = co 1 := co_st h
  obtain ⟨-, a2, a3, a4⟩ := a
  refine ⟨by omega, a2, ?_, by rw [e]; exact a4⟩
  unfold isA at a3 ⊢
  rw [e]; exact a3
theorem oc_st {o : Nat} (h : 1 ≤ o ∧ o ≤ 11) : o < 14 ∧ co o = 0 := ⟨by omega, co_st h⟩
section HeapRows
variable {y : LY} {l : Launch} {E : ET} {nL : Nat} {α : Type} {Q : α → State → Prop} {pc : Nat} {lv : List (Nat × Value)} {st : List Value} {σ : ST} {M : Option α} {cc : ByteArray} {own : String} {rm : Room}
theorem r_getU {idx ci k o : Nat} {v : Value} (X : CX y l E cc nL own rm) (hd : decode cc pc = .ok (.getfield idx, 3)) (hF : FL own idx ci k) (hO : o < 14 ∧ co o = ci) (hv : fv y σ o k = v) (kk : WW y l E nL Q (pc + 3) lv (v :: st) σ M) : WW y l E nL Q pc lv (.ref (ad y o) :: st) σ M := by
  intro a ha H locs ls hH hS hl
  obtain ⟨hx, hb, -, hown, hts, hNK, hK, -⟩ := X
  obtain ⟨C, T, N, hc, hk, hlk⟩ := hF
  obtain ⟨ho, rfl⟩ := hO
  obtain ⟨hin, hN⟩ := cl_ws hc
  obtain ⟨cell, q1, q2, q3, q4⟩ := hH.1 o ho
  obtain ⟨hSl, hfc, kC, hkC, hkind⟩ := hK.1 (co o) _ hc
  obtain ⟨cf, kf, fi, f, hi, hsl⟩ := hSl k hk
  have hst := (u_facts hfc hkC (u_lays hts hin hk) hi).1
  have hslot : cell.slots[f.slot]? = some v := by
    rw [hsl]
    exact (q4 k (by rw [hN]; exact hk)).trans (by rw [hv])
  rcases hlk with h | ⟨host, h⟩
  · exact W.getf hx hb hown (hts _ h) hi hst q1 (by rw [q3]; exact fun h => by cases h) hslot rfl rfl hd (kk a ha H locs ls hH hS hl)
  · exact va_Wgetf hx hb hown (va_Nw.use rfl (hNK _ h)) hi hst q1 (by rw [q3]; exact fun h => by cases h) hslot rfl rfl hd (kk a ha H locs ls hH hS hl)
theorem r_geti {idx ci k o : Nat} {F : Int32 → Option α} (X : CX y l E cc nL own rm) (hd : decode cc pc = .ok (.getfield idx, 3)) (hF : FL own idx ci k) (hO : o < 14 ∧ co o = ci) (hf : fk ci k = 0) (kk : ∀ x, WW y l E nL Q (pc + 3) lv (.int x :: st) σ (F x)) : WW y l E nL Q pc lv (.ref (ad y o) :: st) σ (gf σ o k F) :=
  r_getU (v := .int (σ.1 o k 0)) X hd hF hO (by rw [fv, hO.2, if_pos hf]) (kk _)
theorem r_geta {idx ci k o : Nat} (X : CX y l E cc nL own rm) (hd : decode cc pc = .ok (.getfield idx, 3)) (hF : FL own idx ci k) (hO : o < 14 ∧ co o = ci) (hf : ¬ fk ci k = 0 ∧ fk ci k < 1000) (kk : WW y l E nL Q (pc + 3) lv (.ref (aa y o k) :: st) σ M) : WW y l E nL Q pc lv (.ref (ad y o) :: st) σ M :=
  r_getU (v := .ref (aa y o k)) X hd hF hO (by rw [fv, hO.2, if_neg hf.1, if_pos hf.2]) kk
theorem r_geto {idx k : Nat} (t : Nat) (X : CX y l E cc nL own rm) (hd : decode cc pc = .ok (.getfield idx, 3)) (hF : FL own idx 2 k) (hf : fk 2 k = 1000 + t) (ht : t < 1000) (kk : WW y l E nL Q (pc + 3) lv (.ref (ad y t) :: st) σ M) : WW y l E nL Q pc lv (.ref (ad y 0) :: st) σ M :=
  r_getU (v := .ref (ad y t)) X hd hF ⟨by decide, rfl⟩ (by
    rw [fv, show co 0 = 2 from rfl, hf, if_neg (by omega), if_neg (by omega), if_pos (by omega), Nat.add_sub_cancel_left]) kk
theorem r_getp {idx : Nat} (X : CX y l E cc nL own rm) (hd : decode cc pc = .ok (.getfield idx, 3)) (hF : FL own idx 2 4) (kk : WW y l E nL Q (pc + 3) lv (.ref (aa y 0 4) :: st) σ M) : WW y l E nL Q pc lv (.ref (ad y 0) :: st) σ M :=
  r_getU (v := .ref (aa y 0 4)) X hd hF ⟨by decide, rfl⟩ rfl kk
theorem r_putU {idx ci k o : Nat} {x : Int32} {ty : FieldType} {F : ST → Option α} (X : CX y l E cc nL own rm) (hd : decode cc pc = .ok (.putfield idx, 3)) (hF : FL own idx ci k) (hw : FW ci k ty) (hO : o < 14 ∧ co o = ci) (hf : fk ci k = 0) (hn : narrow ty (.int x) = .int x) (hfit : fits ty (.int x) = true) (kk : ∀ σ', σ' = (upd3 σ.1 o k 0 x, σ.2) → WW y l E nL Q (pc + 3) lv st σ' (F σ')) : WW y l E nL Q pc lv (.int x :: .ref (ad y o) :: st) σ (pf σ o k x F) := by
  intro a ha H locs ls hH hS hl
  obtain ⟨hx, hb, -, hown, hts, hNK, hK, -⟩ := X
  obtain ⟨C, T, N, hc, hk, hlk⟩ := hF
  obtain ⟨C', T', N', hc', hfin, hty⟩ := hw
  rw [hc] at hc'
  cases hc'
  obtain ⟨ho, rfl⟩ := hO
  obtain ⟨hin, hN⟩ := cl_ws hc
  obtain ⟨cell, q1, q2, q3, q4⟩ := hH.1 o ho
  obtain ⟨hSl, hfc, kC, hkC, hkind⟩ := hK.1 (co o) _ hc
  obtain ⟨cf, kf, fi, f, hi, hsl⟩ := hSl k hk
  have hst := (u_facts hfc hkC (u_lays hts hin hk) hi).1
  have hlay := hts _ (hin _ (u_in_lay hk))
  unfold u_lay at hlay
  rw [if_neg (by rw [hfin]; decide)] at hlay
  have h6 := u_store hfc hkC hkind hlay hi hty hn hfit
  have hkN : k < NF (co o) := by rw [hN]; exact hk
  have hap := cl_ap hts hK (cl_lt hc)
  have fin : ∀ H' : Heap, H'[ad y o]? = some (cell.setSlot f.slot (.int x)) → H'.size = H.size → (∀ q, q ≠ ad y o → H'[q]? = H[q]?) → WE l E H' (locs ++ [⟨ad y o, f.slot⟩]) (Q a) (F0 (eM E) (pc + 3) ls st) := by
    intro H' e1 e2 e3
    refine kk _ rfl a ha H' _ ls (hH.putF ho hf ?_ e3) (hS.put e2 e3 le_ad) hl
    rw [hsl] at e1
    exact ⟨_, e1, q2, q3, t_set q4 hap hkN (.int x)⟩
  rcases hlk with h | ⟨host, h⟩
  · exact W.putK hx hb (f := f) ⟨hown, hts _ h, ⟨_, _, _, hi⟩, hst⟩ (by rw [q2]; exact h6) q1 q3 (by rw [hsl]; exact k2_hasslot (q4 k hkN)) rfl rfl hd fin
  · exact va_WputK hx hb (f := f) hown (va_Nw.use rfl (hNK _ h)) hi hst (by rw [q2]; exact h6) q1 q3 (by rw [hsl]; exact k2_hasslot (q4 k hkN)) rfl rfl hd fin
theorem r_puti {idx ci k o : Nat} {x : Int32} {F : ST → Option α} (X : CX y l E cc nL own rm) (hd : decode cc pc = .ok (.putfield idx, 3)) (hF : FL own idx ci k) (hw : FW ci k .int) (hO : o < 14 ∧ co o = ci) (hf : fk ci k = 0) (kk : ∀ σ', WW y l E nL Q (pc + 3) lv st σ' (F σ')) : WW y l E nL Q pc lv (.int x :: .ref (ad y o) :: st) σ (pf σ o k x F) :=
  r_putU X hd hF hw hO hf rfl rfl (fun σ' _ => kk σ')
theorem nar_z {x : Int32} (h : x = 0 ∨ x = 1) : narrow .boolean (.int x) = .int x := by
  rcases h with rfl | rfl <;> rfl
theorem fit_z {x : Int32} (h : x = 0 ∨ x = 1) : fits .boolean (.int x) = true := by
  rcases h with rfl | rfl <;> rfl
theorem r_putz {idx ci k o : Nat} {x : Int32} {F : ST → Option α} (X : CX y l E cc nL own rm) (hd : decode cc pc = .ok (.putfield idx, 3)) (hF : FL own idx ci k) (hw : FW ci k .boolean) (hO : o < 14 ∧ co o = ci) (hf : fk ci k = 0) (kk : ∀ σ', WW y l E nL Q (pc + 3) lv st σ' (F σ')) : WW y l E nL Q pc lv (.int x :: .ref (ad y o) :: st) σ (rz x (pf σ o k x F)) := by
  by_cases h : x = 0 ∨ x = 1
  · exact r_of (by simp only [rz]; rw [if_pos h]) (r_putU X hd hF hw hO hf (nar_z h) (fit_z h) (fun σ' _ => kk σ'))
  · exact r_none (by simp only [rz]; rw [if_neg h])
theorem r_iald {o k n : Nat} {i : Int32} {F : Int32 → Option α} (X : CX y l E cc nL own rm) (hd : decode cc pc = .ok (.iaload, 1)) (hA : AR o k n) (kk : ∀ x, WW y l E nL Q (pc + 1) lv (.int x :: st) σ (F x)) : WW y l E nL Q pc lv (.int i :: .ref (aa y o k) :: st) σ (ld σ o k n i F) := by
  by_cases hin : i < 0 ∨ n ≤ i.toNatClampNeg
  · exact r_none (by simp only [ld]; rw [if_pos hin])
  · refine r_of (M' := F (σ.1 o k i.toNatClampNeg)) (by simp only [ld]; rw [if_neg hin]) ?_
    intro a ha H locs ls hH hS hl
    obtain ⟨ho, hk, hA, rfl⟩ := hA
    obtain ⟨hx, hb, -, hown, hts, hNK, hK, -⟩ := X
    have hlt : i.toNatClampNeg < fk (co o) k - 1 := Nat.not_le.mp fun q => hin (Or.inr q)
    exact W.iald (v := .int (σ.1 o k i.toNatClampNeg)) hx hb (hH.2.1 o k ho hk hA) ((hK.2 0 _ rfl).1 _ _) (fun q => by cases q) (by rw [arrV_size]; exact hin) (by rw [arrV_read _ _ hlt]) rfl rfl hd (kk _ a ha H locs ls hH hS hl)
theorem r_iast {o k n : Nat} {i x : Int32} {F : ST → Option α} (X : CX y l E cc nL own rm) (hd : decode cc pc = .ok (.iastore, 1)) (hA : AR o k n) (kk : ∀ σ', WW y l E nL Q (pc + 1) lv st σ' (F σ')) : WW y l E nL Q pc lv (.int x :: .int i :: .ref (aa y o k) :: st) σ (sd σ o k n i x F) := by
  by_cases hin : i < 0 ∨ n ≤ i.toNatClampNeg
  · exact r_none (by simp only [sd]; rw [if_pos hin])
  · refine r_of (M' := F (upd3 σ.1 o k i.toNatClampNeg x, σ.2)) (by simp only [sd]; rw [if_neg hin]) ?_
    intro a ha H locs ls hH hS hl
    obtain ⟨ho, hk, hA, rfl⟩ := hA
    obtain ⟨hx, hb, -, hown, hts, hNK, hK, -⟩ := X
    refine W.iast hx hb (hH.2.1 o k ho hk hA) ((hK.2 0 _ rfl).1 _ _) (fun q => by cases q) (by rw [arrV_size]; exact hin) rfl rfl hd fun H1 e z oq => ?_
    refine kk _ a ha H1 _ ls ?_ (hS.put z oq le_aa) hl
    rw [upd3_updA]
    refine hH.putA ho hk hA ?_ oq
    rw [e, arrV_store]
    congr 2
    funext q
    by_cases hq : q = i.toNatClampNeg
    · subst hq; simp [updV, upd]
    · simp [updV, upd, hq]
theorem r_alen {o k n : Nat} {v : Int32} (X : CX y l E cc nL own rm) (hd : decode cc pc = .ok (.arraylength, 1)) (hA : AR o k n) (hv : Int32.ofNat n = v) (kk : WW y l E nL Q (pc + 1) lv (.int v :: st) σ M) : WW y l E nL Q pc lv (.ref (aa y o k) :: st) σ M := by
  intro a ha H locs ls hH hS hl
  subst hv
  obtain ⟨ho, hk, hA, rfl⟩ := hA
  obtain ⟨hx, hb, -, hown, hts, hNK, hK, -⟩ := X
  exact W.alen (n := Int32.ofNat (fk (co o) k - 1)) hx hb (hH.2.1 o k ho hk hA) ((hK.2 0 _ rfl).1 _ _) (by rw [arrV_size] <;> rfl) rfl rfl hd (kk a ha H locs ls hH hS hl)
theorem r_aald {i : Int32} {F : Nat → Option α} (X : CX y l E cc nL own rm) (hd : decode cc pc = .ok (.aaload, 1)) (kk : ∀ o, 1 ≤ o ∧ o ≤ 11 → WW y l E nL Q (pc + 1) lv (.ref (ad y o) :: st) σ (F o)) : WW y l E nL Q pc lv (.int i :: .ref (aa y 0 4) :: st) σ (pl σ i F) := by
  by_cases hin : i < 0 ∨ 8 ≤ i.toNatClampNeg ∨ ¬ (1 ≤ σ.2 i.toNatClampNeg ∧ σ.2 i.toNatClampNeg ≤ 11)
  · exact r_none (by simp only [pl]; rw [if_pos hin])
  · refine r_of (M' := F (σ.2 i.toNatClampNeg)) (by simp only [pl]; rw [if_neg hin]) ?_
    intro a ha H locs ls hH hS hl
    obtain ⟨hx, hb, -, hown, hts, hNK, hK, -⟩ := X
    have hn1 : ¬ (i < 0 ∨ 8 ≤ i.toNatClampNeg) := fun q => hin (q.elim Or.inl (fun q => Or.inr (Or.inl q)))
    have hO : 1 ≤ σ.2 i.toNatClampNeg ∧ σ.2 i.toNatClampNeg ≤ 11 := Classical.not_not.mp fun q => hin (Or.inr (Or.inr q))
    have hlt : i.toNatClampNeg < 8 := Nat.not_le.mp fun q => hn1 (Or.inr q)
    exact W.aald (v := .ref (ad y (σ.2 i.toNatClampNeg))) (ty := .object RX0) hx hb hH.2.2 ((hK.2 1 _ rfl).1 _ _) rfl (fun q => by cases q) (by rw [arrV_size]; exact hn1) (by rw [arrV_read _ _ hlt]) rfl rfl hd (kk _ hO a ha H locs ls hH hS hl)
theorem r_aast {i : Int32} {o : Nat} {F : ST → Option α} (X : CX y l E cc nL own rm) (hd : decode cc pc = .ok (.aastore, 1)) (hO : 1 ≤ o ∧ o ≤ 11) (kk : ∀ σ', WW y l E nL Q (pc + 1) lv st σ' (F σ')) : WW y l E nL Q pc lv (.ref (ad y o) :: .int i :: .ref (aa y 0 4) :: st) σ (ps σ i o F) := by
  by_cases hin : i < 0 ∨ 8 ≤ i.toNatClampNeg
  · exact r_none (by simp only [ps]; rw [if_pos hin])
  · refine r_of (M' := F (σ.1, fun j => if j = i.toNatClampNeg then o else σ.2 j)) (by simp only [ps]; rw [if_neg hin]) ?_
    intro a ha H locs ls hH hS hl
    obtain ⟨hx, hb, -, hown, hts, hNK, hK, -⟩ := X
    have hlt : i.toNatClampNeg < 8 := Nat.not_le.mp fun q => hin (Or.inr q)
    have h0 : ¬ i < 0 := fun q => hin (Or.inl q)
    obtain ⟨cellV, g1, g2, g3, -⟩ := hH.1 o (oc_st hO).1
    rw [co_st hO] at g2
    have hcls := (hK.1 0 _ rfl).2
    obtain ⟨kA, comp, k1, k2, k3, -⟩ := (hK.2 1 _ rfl).2
    have hcomp : comp = y.2.1 0 := Option.some.inj (k3.symm.trans hcls.1)
    subst hcomp
    obtain ⟨kC, hkC, -⟩ := hcls.2
    refine W.aast hx hb hH.2.2 (fun q h => by cases h) (fun h => by cases h) k1 k2 rfl hkC ⟨h0, by rw [arrV_size]; exact hlt⟩ g1 (fun q h => by rw [g3] at h; cases h) (by rw [g2]; exact hkC) (by rw [g2]; exact va_assign hcls) rfl rfl hd fun H1 e z oq => ?_
    refine kk _ a ha H1 _ ls (hH.putP ?_ oq) (hS.put z oq le_aa) hl
    rw [e, arrV_store]
    congr 2
    funext q
    by_cases hq : q = i.toNatClampNeg
    · subst hq; simp [updV]
    · simp [updV, hq]
end HeapRows
