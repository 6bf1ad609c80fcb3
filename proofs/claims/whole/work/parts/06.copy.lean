/-! System.arraycopy over whole-number arrays -/
theorem nn_pos {z : Int32} (hz : ¬ z < 0) : z.toInt = (z.toNatClampNeg : Int) := by
  have hz0 : (0 : Int) ≤ z.toInt := by
    have := Int32.not_lt.mp hz
    simpa using Int32.le_iff_toInt_le.mp this
  show z.toInt = ((z.toInt.toNat : Nat) : Int)
  omega
theorem acp_1 : Cond.native arraycopyName ∈ lw_gd := by decide +kernel
theorem acp_2 : Cond.static arraycopyName ∈ lw_gd := by decide +kernel
theorem acp_3 : Cond.initialized "java/lang/System" ∈ lw_gd := by decide +kernel
section CopyRows
variable {y : LY} {l : Launch} {E : ET} {nL : Nat} {α : Type} {Q : α → State → Prop} {pc : Nat} {lv : List (Nat × Value)} {st : List Value} {σ : ST} {cc : ByteArray} {own : String} {rm : Room}
theorem r_copy {idx o k n o' k' n' : Nat} {z : Int32} {F : ST → Option α} (X : CX y l E cc nL own rm) (hd : decode cc pc = .ok (.invokestatic idx, 3)) (hL : Cond.methodLink own idx arraycopyName ∈ lw_gd) (hA : AR o k n) (hB : AR o' k' n') (hR : 1 ≤ rm.frames ∧ 8 + (nativeFrameWords "java/lang/System" "arraycopy" 5 + 11) ≤ rm.locals) (hst : (st.map fun v => v.category).sum ≤ 8)
    (kk : ∀ σ', WW y l E nL Q (pc + 3) lv st σ' (F σ')) : WW y l E nL Q pc lv (.int z :: .int 0 :: .ref (aa y o' k') :: .int 0 :: .ref (aa y o k) :: st) σ (cp σ o k n o' k' n' z F) := by
  by_cases hin : z < 0 ∨ n < z.toNatClampNeg ∨ n' < z.toNatClampNeg
  · exact r_none (by simp only [cp]; rw [if_pos hin])
  · refine r_of (M' := F (updA σ.1 o' k' (va_cpy (σ.1 o k) (σ.1 o' k') 0 0 z.toNatClampNeg), σ.2)) (by simp only [cp]; rw [if_neg hin]) ?_
    intro a ha H locs ls hH hS hl
    obtain ⟨ho, hk, hAA, rfl⟩ := hA
    obtain ⟨ho', hk', hBB, rfl⟩ := hB
    obtain ⟨hx, hb, hml, hown, hts, hNK, hK, hrm, hk1, hk2⟩ := X
    subst hrm
    have h3 : ¬ z < 0 := fun q => hin (Or.inl q)
    have h4 : z.toNatClampNeg ≤ fk (co o) k - 1 := Nat.not_lt.mp fun q => hin (Or.inr (Or.inl q))
    have h5 : z.toNatClampNeg ≤ fk (co o') k' - 1 := Nat.not_lt.mp fun q => hin (Or.inr (Or.inr q))
    have z0 : ¬ (0 : Int32) < 0 := by decide
    have zt : (0 : Int32).toInt = 0 := rfl
    have zn : (0 : Int32).toNatClampNeg = 0 := rfl
    have hc0 := hH.2.1 o k ho hk hAA
    have hc1 := hH.2.1 o' k' ho' hk' hBB
    intro T hT X
    obtain ⟨-, k0, hk0, cm0, hkk0⟩ := (hK.2 0 _ rfl).1 (fk (co o) k - 1) (fun i => .int (σ.1 o k i))
    obtain ⟨-, k1, hk1, cm1, hkk1⟩ := (hK.2 0 _ rfl).1 (fk (co o') k' - 1) (fun i => .int (σ.1 o' k' i))
    obtain ⟨vm', X', step⟩ := X.arraycopy hx hown (hts _ hL) (hts _ acp_1) (hts _ acp_2) (hts _ acp_3) (src := aa y o k) (dst := aa y o' k') (srcPos := 0) (destPos := 0) (n := z) (by rw [hT]; exact hc0) (by rw [hT]; exact hc1)
      (fun _ h => by cases h) (fun _ h => by cases h) (fun h => by cases h) (fun h => by cases h) hk0 hk1 hkk0 hkk1 rfl z0 z0 h3
      (by rw [zt, nn_pos h3]; show ¬ _ > ((arrV _ _ _).slots.size : Int); rw [arrV_size]; omega)
      (by rw [zt, nn_pos h3]; show ¬ _ > ((arrV _ _ _).slots.size : Int); rw [arrV_size]; omega)
      (fun vm₁ _ i hi => by
        have e : (arrV y.2.2.2.1 (fk (co o) k - 1) (fun i => .int (σ.1 o k i))).slots.getD ((0 : Int32).toNatClampNeg + i) .null = .int (σ.1 o k (0 + i)) := by
          rw [Array.getD_eq_getD_getElem?, zn, arrV_read _ _ (by omega)]
          rfl
        refine ⟨?_, ?_⟩
        · rw [e]; rfl
        · rw [e]; exact trivial)
      (g := F0 (eM E) pc ls (.int z :: .int 0 :: .ref (aa y o' k') :: .int 0 :: .ref (aa y o k) :: st)) rfl (by rw [hml]; exact hl.1) (rest := st) rfl (by rw [hb]; exact hd) hR.1 (by show 2 * 0 + _ + _ ≤ _; have := hR.2; omega)
    have e1 : copied (arrV y.2.2.2.1 (fk (co o) k - 1) (fun i => .int (σ.1 o k i))) (arrV y.2.2.2.1 (fk (co o') k' - 1) (fun i => .int (σ.1 o' k' i))) 0 0 z = arrV y.2.2.2.1 (fk (co o') k' - 1) (fun i => .int (va_cpy (σ.1 o k) (σ.1 o' k') 0 0 z.toNatClampNeg i)) := va_copied (fun z => .int z) _ _ (σ.1 o k) (σ.1 o' k') (by omega)
    rw [e1] at X' step
    have hl1 : aa y o' k' < H.size := (Array.getElem?_eq_some_iff.mp hc1).1
    have hheap : ((T.setVm vm').setCell (aa y o' k') (arrV y.2.2.2.1 (fk (co o') k' - 1) (fun i => .int (va_cpy (σ.1 o k) (σ.1 o' k') 0 0 z.toNatClampNeg i)))).heap = H.setIfInBounds (aa y o' k') (arrV y.2.2.2.1 (fk (co o') k' - 1) (fun i => .int (va_cpy (σ.1 o k) (σ.1 o' k') 0 0 z.toNatClampNeg i))) := by rw [← hT]; rfl
    have oq : ∀ q : Nat, q ≠ aa y o' k' → (H.setIfInBounds (aa y o' k') (arrV y.2.2.2.1 (fk (co o') k' - 1) (fun i => .int (va_cpy (σ.1 o k) (σ.1 o' k') 0 0 z.toNatClampNeg i))))[q]? = H[q]? := fun q hq => by simp [Array.getElem?_setIfInBounds, Ne.symm hq]
    obtain ⟨t, a1, b1⟩ := kk _ a ha _ _ ls (hH.putA ho' hk' hBB (show (H.setIfInBounds (aa y o' k') _)[aa y o' k']? = some _ by simp [Array.getElem?_setIfInBounds, hl1]) oq) ⟨by simp; exact hS.1, fun q g1 g2 => by
        rw [oq q (fun e => g2 (by rw [e]; exact le_aa))]
        exact hS.2.1 q g1 g2, fun q hq => by
        rcases List.mem_append.mp hq with h | h
        · exact hS.2.2 q h
        · obtain ⟨z, -, hz⟩ := List.mem_map.mp h
          rw [← hz]
          exact le_aa⟩ hl _ hheap X'
    exact ⟨t, step t a1, b1⟩
end CopyRows
