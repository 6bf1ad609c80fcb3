/-! the ways: what the tables say; the least of the ways -/
def eW (nl c l : Nat) : Nat := if dg7 nl c l = 6 then 9 else dg7 nl c l
def chD (nb nl c : Nat) : Bool := if okB nb nl c = true then allB (fun l => (decide (dg7 nl c l = 6) || decide (dg7 nl c l < nb)) && allB (fun m => decide (dg7 nl c m ≠ dg7 nl c l) || decide (dg7 nl c l = 6) || decide (m = l)) nl) nl else true
theorem ways_D : allB (fun nb => allB (fun nl => allB (fun c => chD nb nl c) (7 ^ nl)) 5) 7 = true := by decide +kernel
/-- least of all, the first of them -/
def minA (ok : Nat → Bool) (w : Nat → Nat) : Nat → Nat → Nat × Nat → Nat × Nat
  | 0, _, p => p
  | r + 1, k, p => minA ok w r (k + 1) (if ok k = true ∧ w k < p.2 then (k, w k) else p)
def MiQ (ok : Nat → Bool) (w : Nat → Nat) (INF k : Nat) (p : Nat × Nat) : Prop := (∀ j, j < k → ok j = true → p.2 ≤ w j) ∧ (p = (NN, INF) ∨ (p.1 < k ∧ ok p.1 = true ∧ w p.1 = p.2 ∧ ∀ j, j < p.1 → ok j = true → p.2 < w j))
section Ways
variable {nb nl k c : Nat}
theorem wA (hb : nb ≤ 6) (hl : nl ≤ 4) (hk : k < (nb + 1) ^ nl) : okA nb nl k = okB nb nl (toB nb nl k) ∧ toB nb nl k < 7 ^ nl ∧ (toB nb nl k < toB nb nl (k + 1) ∨ k + 1 = (nb + 1) ^ nl) ∧ ∀ l, l < nl → dg7 nl (toB nb nl k) l = if dgA nb nl k l = nb then 6 else dgA nb nl k l := by
  have h1 : allB (fun nl => allB (fun k => chA nb nl k) ((nb + 1) ^ nl)) 5 = true := allB_spec ways_A nb (by omega)
  have h2 : allB (fun k => chA nb nl k) ((nb + 1) ^ nl) = true := allB_spec h1 nl (by omega)
  have h3 : chA nb nl k = true := allB_spec h2 k hk
  unfold chA at h3
  rw [Bool.and_eq_true, Bool.and_eq_true, Bool.and_eq_true, Bool.or_eq_true] at h3
  refine ⟨eq_of_beq h3.1.1.1, of_decide_eq_true h3.1.1.2, ?_, fun l hl => ?_⟩
  · rcases h3.1.2 with q | q
    · exact Or.inl (of_decide_eq_true q)
    · exact Or.inr (eq_of_beq q)
  · have := allB_spec h3.2 l hl
    exact eq_of_beq this
theorem wB (hb : nb ≤ 6) (hl : nl ≤ 4) (hc : c < 7 ^ nl) (ok : okB nb nl c = true) : toB nb nl (toA nb nl c) = c ∧ toA nb nl c < (nb + 1) ^ nl := by
  have h1 : allB (fun nl => allB (fun k => chB nb nl k) (7 ^ nl)) 5 = true := allB_spec ways_B nb (by omega)
  have h2 : allB (fun k => chB nb nl k) (7 ^ nl) = true := allB_spec h1 nl (by omega)
  have h3 : chB nb nl c = true := allB_spec h2 c hc
  unfold chB at h3
  rw [if_pos ok, Bool.and_eq_true] at h3
  exact ⟨eq_of_beq h3.1, of_decide_eq_true h3.2⟩
theorem wE (hb : nb ≤ 6) (hl : nl ≤ 4) : ∃ k, k < (nb + 1) ^ nl ∧ okA nb nl k = true := by
  have h1 : allB (fun nl => okA nb nl (exA nb nl ((nb + 1) ^ nl)) && decide (exA nb nl ((nb + 1) ^ nl) < (nb + 1) ^ nl)) 5 = true := allB_spec ways_E nb (by omega)
  have h2 : (okA nb nl (exA nb nl ((nb + 1) ^ nl)) && decide (exA nb nl ((nb + 1) ^ nl) < (nb + 1) ^ nl)) = true := allB_spec h1 nl (by omega)
  rw [Bool.and_eq_true] at h2
  exact ⟨_, of_decide_eq_true h2.2, h2.1⟩
theorem wD (hb : nb ≤ 6) (hl : nl ≤ 4) (hc : c < 7 ^ nl) (ok : okB nb nl c = true) : (∀ l, l < nl → eW nl c l = 9 ∨ eW nl c l < nb) ∧ ∀ l m, l < nl → m < nl → eW nl c l = eW nl c m → eW nl c l ≠ 9 → l = m := by
  have h1 : allB (fun nl => allB (fun k => chD nb nl k) (7 ^ nl)) 5 = true := allB_spec ways_D nb (by omega)
  have h2 : allB (fun k => chD nb nl k) (7 ^ nl) = true := allB_spec h1 nl (by omega)
  have h3 : chD nb nl c = true := allB_spec h2 c hc
  unfold chD at h3
  rw [if_pos ok] at h3
  have h4 : ∀ l, l < nl → (dg7 nl c l = 6 ∨ dg7 nl c l < nb) ∧ ∀ m, m < nl → dg7 nl c m ≠ dg7 nl c l ∨ dg7 nl c l = 6 ∨ m = l := by
    intro l hl
    have h5 := allB_spec h3 l hl
    rw [Bool.and_eq_true, Bool.or_eq_true] at h5
    refine ⟨h5.1.imp of_decide_eq_true of_decide_eq_true, fun m hm => ?_⟩
    have h6 := allB_spec h5.2 m hm
    rw [Bool.or_eq_true, Bool.or_eq_true] at h6
    rcases h6 with (q | q) | q
    · exact Or.inl (of_decide_eq_true q)
    · exact Or.inr (Or.inl (of_decide_eq_true q))
    · exact Or.inr (Or.inr (of_decide_eq_true q))
  have h7 : ∀ l, dg7 nl c l < 7 := fun l => Nat.mod_lt _ (by decide)
  refine ⟨fun l hl => ?_, fun l m hl hm e h9 => ?_⟩
  · have := (h4 l hl).1
    unfold eW
    split <;> omega
  · have h8 := (h4 l hl).2 m hm
    have k1 := h7 l
    have k2 := h7 m
    unfold eW at e h9
    split at e
    · rename_i q; rw [if_pos q] at h9; omega
    · rename_i q
      split at e
      · omega
      · omega
theorem toB_mono (hb : nb ≤ 6) (hl : nl ≤ 4) : ∀ d k, k + (d + 1) < (nb + 1) ^ nl → toB nb nl k < toB nb nl (k + (d + 1))
  | 0, k, h => by
    have := (wA (k := k) hb hl (by omega)).2.2.1
    rcases this with q | q
    · exact q
    · omega
  | d + 1, k, h => by
    have h1 := toB_mono hb hl d k (by omega)
    have := (wA (k := k + (d + 1)) hb hl (by omega)).2.2.1
    rcases this with q | q
    · exact Nat.lt_trans h1 q
    · omega
theorem toB_lt (hb : nb ≤ 6) (hl : nl ≤ 4) {a b : Nat} (ha : a < b) (hk : b < (nb + 1) ^ nl) : toB nb nl a < toB nb nl b := by
  have := toB_mono hb hl (b - a - 1) a (by omega)
  rw [show a + (b - a - 1 + 1) = b by omega] at this
  exact this
theorem minA_spec {ok : Nat → Bool} {w : Nat → Nat} {INF : Nat} : ∀ r k p, MiQ ok w INF k p → MiQ ok w INF (k + r) (minA ok w r k p)
  | 0, k, p, h => h
  | r + 1, k, p, h => by
    rw [show k + (r + 1) = k + 1 + r by omega]
    refine minA_spec r (k + 1) _ ?_
    by_cases e : ok k = true ∧ w k < p.2
    · rw [if_pos e]
      refine ⟨fun j hj oj => ?_, Or.inr ⟨Nat.lt_succ_self _, e.1, rfl, fun j hj oj => ?_⟩⟩
      · by_cases q : j = k
        · rw [q]; exact Nat.le_refl _
        · have := h.1 j (by omega) oj
          exact Nat.le_trans (Nat.le_of_lt e.2) this
      · exact Nat.lt_of_lt_of_le e.2 (h.1 j hj oj)
    · rw [if_neg e]
      refine ⟨fun j hj oj => ?_, h.2.imp id (fun q => ⟨by omega, q.2⟩)⟩
      by_cases q : j = k
      · rw [q] at oj ⊢
        rcases Nat.lt_or_ge (w k) p.2 with z | z
        · exact absurd ⟨oj, z⟩ e
        · exact z
      · exact h.1 j (by omega) oj
/-- the two searches find the same way -/
theorem min_same (hb : nb ≤ 6) (hl : nl ≤ 4) {w v m : Nat → Nat} {I1 I2 : Nat} (hw : ∀ k, k < (nb + 1) ^ nl → okA nb nl k = true → w k < I1 ∧ v (toB nb nl k) = m (w k) ∧ v (toB nb nl k) < I2) (hm : ∀ a b, a < b → b < I1 → m a < m b) : ∃ k s, minA (okA nb nl) w ((nb + 1) ^ nl) 0 (NN, I1) = (k, s) ∧ minA (okB nb nl) v (7 ^ nl) 0 (NN, I2) = (toB nb nl k, m s) ∧ k < (nb + 1) ^ nl ∧ okA nb nl k = true ∧ s < I1 := by
  have A := minA_spec (ok := okA nb nl) (w := w) (INF := I1) ((nb + 1) ^ nl) 0 (NN, I1) ⟨fun j hj => by omega, Or.inl rfl⟩
  have B := minA_spec (ok := okB nb nl) (w := v) (INF := I2) (7 ^ nl) 0 (NN, I2) ⟨fun j hj => by omega, Or.inl rfl⟩
  rw [Nat.zero_add] at A B
  obtain ⟨j, hj, oj⟩ := wE hb hl
  have wj := wA hb hl hj
  have oj2 : okB nb nl (toB nb nl j) = true := by rw [← wj.1]; exact oj
  revert A B
  generalize minA (okA nb nl) w ((nb + 1) ^ nl) 0 (NN, I1) = qa
  generalize minA (okB nb nl) v (7 ^ nl) 0 (NN, I2) = qb
  intro A B
  have a1 := A.1 j hj oj
  have b1 := B.1 (toB nb nl j) wj.2.1 oj2
  have hwj := hw j hj oj
  rcases A.2 with rfl | ⟨a2, a3, a4, a5⟩
  · exact absurd a1 (by simp only; omega)
  rcases B.2 with rfl | ⟨b2, b3, b4, b5⟩
  · exact absurd b1 (by simp only; omega)
  have wa := wA hb hl a2
  have hwa := hw qa.1 a2 a3
  rw [a4] at hwa
  have oa2 : okB nb nl (toB nb nl qa.1) = true := by rw [← wa.1]; exact a3
  have wb := wB hb hl b2 b3
  have ob2 : okA nb nl (toA nb nl qb.1) = true := by rw [(wA hb hl wb.2).1, wb.1]; exact b3
  have hwb := hw _ wb.2 ob2
  rw [wb.1] at hwb
  have le1 := A.1 _ wb.2 ob2
  have le2 := B.1 _ wa.2.1 oa2
  have same : toB nb nl qa.1 = qb.1 := by
    rcases Nat.lt_trichotomy qb.1 (toB nb nl qa.1) with q | q | q
    · have hlt : toA nb nl qb.1 < qa.1 := by
        rcases Nat.lt_or_ge (toA nb nl qb.1) qa.1 with z | z
        · exact z
        · exfalso
          rcases Nat.lt_or_eq_of_le z with z | z
          · have := toB_lt hb hl z wb.2
            rw [wb.1] at this; omega
          · rw [z, wb.1] at q; omega
      have := a5 _ hlt ob2
      have := hm _ _ this hwb.1
      omega
    · exact q.symm
    · have h1 := b5 _ q oa2
      rcases Nat.lt_or_eq_of_le le1 with z | z
      · have := hm _ _ z hwb.1
        omega
      · rw [← z] at hwb
        omega
  refine ⟨qa.1, qa.2, rfl, ?_, a2, a3, by omega⟩
  have : qb.2 = m qa.2 := by
    rw [← b4, ← same, hwa.2.1]
  rw [same, ← this]
end Ways
