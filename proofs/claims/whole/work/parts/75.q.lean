/-! the letters read: statements by their starts -/
def dcK (k : Nat) : Nat := if k = 98 ∨ k = 108 then 3 else if k = 99 then 1 else if k = 102 ∨ k = 103 ∨ k = 104 then 2 else 0
def scN (t : Nat → Nat) (N : Nat) : Nat → Nat → Nat
  | 0, i => if i < N ∧ t i = 59 then 999 else i
  | d + 1, i => if i < N ∧ 48 ≤ t i ∧ t i ≤ 57 then scN t N d (i + 1) else i
def stN (t : Nat → Nat) : Nat → Nat
  | 0 => 0
  | j + 1 => stN t j + dcK (t (stN t j)) + 2
def GdS (t : Nat → Nat) (N j : Nat) : Prop := stN t j < N ∧ dcK (t (stN t j)) ≠ 0 ∧ scN t N (dcK (t (stN t j))) (stN t j + 1) = 999
theorem dcK_le (k : Nat) : dcK k ≤ 3 := by unfold dcK; split <;> (try split) <;> (try split) <;> omega
theorem db_all : ∀ k, k < 256 → T_X2_digitsBehind (fun _ _ _ => 0, fun _ => 0) (nI k) = some (nI (if dcK k = 0 then 4294967287 else dcK k)) := by decide +kernel
theorem x2_db {σ : ST} {k : Nat} (h : k ≤ 255) : T_X2_digitsBehind σ (nI k) = some (nI (if dcK k = 0 then 4294967287 else dcK k)) := by
  rw [← db_all k (by omega)]
  rfl
section Let
variable {τ : TT} {A Y : SS} {t : Nat → Nat} {N : Nat}
theorem scN_0t {i : Nat} (h : i < N ∧ t i = 59) : scN t N 0 i = 999 := if_pos h
theorem scN_0f {i : Nat} (h : ¬ (i < N ∧ t i = 59)) : scN t N 0 i = i := if_neg h
theorem scN_st {d i : Nat} (h : i < N ∧ 48 ≤ t i ∧ t i ≤ 57) : scN t N (d + 1) i = scN t N d (i + 1) := if_pos h
theorem scN_sf {d i : Nat} (h : ¬ (i < N ∧ 48 ≤ t i ∧ t i ≤ 57)) : scN t N (d + 1) i = i := if_neg h
theorem scN_ok : ∀ d i, N ≤ 96 → scN t N d i = 999 → i ≤ N → (∀ m, m < d → i + m < N ∧ 48 ≤ t (i + m) ∧ t (i + m) ≤ 57) ∧ i + d < N ∧ t (i + d) = 59
  | 0, i, hN, h, hi => by
    unfold scN at h
    by_cases q : i < N ∧ t i = 59
    · exact ⟨fun m hm => by omega, q.1, q.2⟩
    · rw [if_neg q] at h; omega
  | d + 1, i, hN, h, hi => by
    unfold scN at h
    by_cases q : i < N ∧ 48 ≤ t i ∧ t i ≤ 57
    · rw [if_pos q] at h
      obtain ⟨h1, h2, h3⟩ := scN_ok d (i + 1) hN h (by omega)
      refine ⟨fun m hm => ?_, by omega, ?_⟩
      · by_cases z : m = 0
        · rw [z]; exact q
        · have := h1 (m - 1) (by omega)
          rw [show i + 1 + (m - 1) = i + m by omega] at this
          exact this
      · rw [show i + (d + 1) = i + 1 + d by omega]; exact h3
    · rw [if_neg q] at h; omega
theorem scN_le : ∀ d i, i ≤ N → scN t N d i = 999 ∨ scN t N d i ≤ N
  | 0, i, hi => by
    unfold scN
    split
    · exact Or.inl rfl
    · exact Or.inr hi
  | d + 1, i, hi => by
    unfold scN
    split
    · rename_i q
      exact scN_le d (i + 1) (by omega)
    · exact Or.inr hi
theorem ff_scan (hN : N ≤ 96) (hA : ∀ k, k < N → A 6 k = t k ∧ t k ≤ 255) : ∀ d i n, 1 ≤ i → i ≤ N → t (i - 1) ≠ 59 → d ≤ 3 → T_X2_formFault_L5 (Ro τ 0 A) (n + d + 1) (nI N) (nI d) (nI i) = if scN t N d i = 999 then T_X2_formFault_L5 (Ro τ 0 A) n (nI N) (nI 0) (nI (i + d + 1)) else some (nI (scN t N d i)) := by
  have last : ∀ i n v2, 1 ≤ i → N ≤ i → i ≤ N → t (i - 1) ≠ 59 → T_X2_formFault_L5 (Ro τ 0 A) (n + 1) (nI N) v2 (nI i) = some (nI i) := by
    intro i n v2 h1 h2 h3 h4
    have e : N = i := by omega
    subst e
    unfold T_X2_formFault_L5
    rw [if_pos (by rw [q_le (by omega) (by omega)]; omega), c0, if_neg (by rw [q_le (by omega) (by omega)]; omega), c1, q_sub (by omega), ro_ld (by omega) (by omega), (hA _ (by omega)).1, show (59 : Int32) = nI 59 from id rfl, if_neg (by rw [q_eq (by have := (hA (N - 1) (by omega)).2; omega) (by omega)]; exact h4)]
  intro d
  induction d with
  | zero =>
    intro i n h1 h2 h3 hd
    by_cases q : N ≤ i
    · rw [last i n _ h1 q h2 h3, scN_0f (by omega), if_neg (show ¬ i = 999 by omega)]
    · have ti := hA i (by omega)
      have tp := hA (i - 1) (by omega)
      conv => lhs; unfold T_X2_formFault_L5
      rw [if_neg (by rw [q_le (by omega) (by omega)]; omega), ro_ld (by omega) (by omega), ti.1, c0, if_neg (by rw [q_eq (by omega) (by omega)]; omega), c1, q_sub (by omega), ro_ld (by omega) (by omega), tp.1, show (59 : Int32) = nI 59 from id rfl, if_neg (by rw [q_eq (by omega) (by omega)]; exact h3), if_pos (by rw [q_le (by omega) (by omega)]; omega), i_eq (by omega) (by omega), nI_add, e_vl]
      by_cases z : t i = 59
      · rw [if_pos z, scN_0t ⟨by omega, z⟩, if_pos (by trivial)]
      · rw [if_neg z, scN_0f (fun y => z y.2), if_neg (show ¬ i = 999 by omega)]
  | succ d ih =>
    intro i n h1 h2 h3 hd
    by_cases q : N ≤ i
    · rw [last i (n + (d + 1)) _ h1 q h2 h3, scN_sf (by omega), if_neg (show ¬ i = 999 by omega)]
    · have ti := hA i (by omega)
      have tp := hA (i - 1) (by omega)
      rw [show n + (d + 1) + 1 = (n + d + 1) + 1 by omega]
      conv => lhs; unfold T_X2_formFault_L5
      rw [if_neg (by rw [q_le (by omega) (by omega)]; omega), ro_ld (by omega) (by omega), ti.1, c0, if_neg (by rw [q_eq (by omega) (by omega)]; omega), c1, q_sub (by omega), ro_ld (by omega) (by omega), tp.1, show (59 : Int32) = nI 59 from id rfl, if_neg (by rw [q_eq (by omega) (by omega)]; exact h3), if_neg (by rw [q_le (by omega) (by omega)]; omega), c48, i_lt (by omega) (by omega), c57, i_le (by omega) (by omega), q_dec, nI_add, e_vl, e_vl]
      by_cases z : 48 ≤ t i ∧ t i ≤ 57
      · rw [if_neg (by omega), if_pos z.2, scN_st ⟨by omega, z⟩, ih (i + 1) n (by omega) (by omega) (by rw [Nat.add_sub_cancel]; omega) (by omega), show i + 1 + d + 1 = i + (d + 1) + 1 by omega]
      · rw [scN_sf (fun y => z y.2), if_neg (show ¬ i = 999 by omega)]
        by_cases z2 : t i < 48
        · rw [if_pos z2]
        · rw [if_neg z2, if_neg (by omega)]
theorem ff_start (hN : N ≤ 96) (hA : ∀ k, k < N → A 6 k = t k ∧ t k ≤ 255) {p n : Nat} {v2 : Int32} (hp : p < N) (hs : p = 0 ∨ t (p - 1) = 59) : T_X2_formFault_L5 (Ro τ 0 A) (n + dcK (t p) + 2) (nI N) v2 (nI p) = if dcK (t p) = 0 then some (nI p) else if scN t N (dcK (t p)) (p + 1) = 999 then T_X2_formFault_L5 (Ro τ 0 A) n (nI N) (nI 0) (nI (p + dcK (t p) + 2)) else some (nI (scN t N (dcK (t p)) (p + 1))) := by
  have tp := hA p hp
  have hd := dcK_le (t p)
  have j35 : T_X2_formFault_j35 (Ro τ 0 A) (fun v1 v2 v3 => T_X2_formFault_L5 (Ro τ 0 A) (n + dcK (t p) + 1) v1 v2 v3) (nI N) (nI p) (nI (t p)) = if dcK (t p) = 0 then some (nI p) else if scN t N (dcK (t p)) (p + 1) = 999 then T_X2_formFault_L5 (Ro τ 0 A) n (nI N) (nI 0) (nI (p + dcK (t p) + 2)) else some (nI (scN t N (dcK (t p)) (p + 1))) := by
    unfold T_X2_formFault_j35
    rw [x2_db tp.2]
    simp only [e_cV]
    by_cases z : dcK (t p) = 0
    · rw [if_pos z, if_pos z, c0, if_neg (by decide)]
    · have h59 : t p ≠ 59 := fun y => z (by rw [y]; rfl)
      rw [if_neg z, if_neg z, c0, if_pos (by rw [q_le (by omega) (by omega)]; omega), c1, nI_add, e_vl, ff_scan hN hA (dcK (t p)) (p + 1) n (by omega) (by omega) (by rw [Nat.add_sub_cancel]; exact h59) hd, show p + 1 + dcK (t p) + 1 = p + dcK (t p) + 2 by omega]
  rw [← j35, show n + dcK (t p) + 2 = n + dcK (t p) + 1 + 1 by omega]
  conv => lhs; unfold T_X2_formFault_L5
  rw [if_neg (by rw [q_le (by omega) (by omega)]; omega), ro_ld (by omega) (by omega), tp.1, c0, i_eq (by omega) (by omega)]
  by_cases z : p = 0
  · rw [if_pos z]
  · have tq := hA (p - 1) (by omega)
    rw [if_neg z, c1, q_sub (by omega), ro_ld (by omega) (by omega), tq.1, show (59 : Int32) = nI 59 from id rfl, if_pos (by rw [q_eq (by omega) (by omega)]; omega)]
theorem x3_next (hN : N ≤ 96) (h19 : Y 19 0 = N) (h15 : ∀ k, k < N → Y 15 k = t k ∧ t k ≤ 255) {q : Nat} (hq : q ≤ 200) (h20 : Y 20 0 = q) : T_X3_next (Ro τ 13 Y) = some (if q < N then nI (t q) else -nI 1) := by
  unfold T_X3_next
  rw [ro_gf, ro_gf, h19, h20, i_le (by omega) (by omega)]
  by_cases z : N ≤ q
  · rw [if_pos z, if_neg (by omega), c1]
  · rw [if_neg z, if_pos (by omega), ro_gf, h20, ro_ld (by omega) (by omega), (h15 q (by omega)).1]
end Let
