/-! WHOLE NUMBERS: the state read as natural numbers; what a load, a store, a branch does to them -/
abbrev SS : Type := Nat → Nat → Nat
abbrev GG : Type := Nat → Nat → Nat → Nat
def nV (G : GG) : VT := fun o f i => nI (G o f i)
def up (S : SS) (f i x : Nat) : SS := fun f' i' => if f' = f ∧ i' = i then x else S f' i'
def wo (G : GG) (o : Nat) (S : SS) : GG := fun o' => if o' = o then S else G o'
theorem wo_at (G : GG) (o : Nat) (S : SS) : wo G o S o = S := by simp [wo]
theorem wo_ne (G : GG) {o o' : Nat} (S : SS) (h : o' ≠ o) : wo G o S o' = G o' := by simp [wo, h]
theorem wo_self (G : GG) (o : Nat) : wo G o (G o) = G := by
  funext o'
  by_cases h : o' = o
  · subst h; simp [wo]
  · simp [wo, h]
theorem wo_wo (G : GG) (o : Nat) (S S' : SS) : wo (wo G o S) o S' = wo G o S' := by
  funext o'
  by_cases h : o' = o <;> simp [wo, h]
abbrev TT : Type := GG × (Nat → Nat)
/-- a state, one object of it written out -/
def Ro (τ : TT) (o : Nat) (S : SS) : ST := (nV (wo τ.1 o S), τ.2)
theorem Ro_self (τ : TT) (o : Nat) : Ro τ o (τ.1 o) = (nV τ.1, τ.2) := by rw [Ro, wo_self]
def natOf (x : Int32) : Nat := x.toUInt32.toNat
theorem nI_natOf (x : Int32) : nI (natOf x) = x := by
  unfold nI natOf
  cases x with
  | ofUInt32 u =>
    show (Int32.ofNat u.toNat) = _
    have h : Int32.ofNat u.toNat = Int32.ofUInt32 (UInt32.ofNat u.toNat) := rfl
    rw [h, UInt32.ofNat_toNat]
theorem nV_all (V : VT) : V = nV (fun o f i => natOf (V o f i)) := by
  funext o f i
  exact (nI_natOf _).symm
theorem q_mul (a b : Nat) : nI a * nI b = nI (a * b) := (Int32.ofNat_mul a b).symm
theorem q_sub {a b : Nat} (h : b ≤ a) : nI a - nI b = nI (a - b) := by
  have e : nI a = nI (a - b) + nI b := by rw [nI_add, Nat.sub_add_cancel h]
  rw [e]
  first
    | exact Int32.add_sub_cancel _ _
    | simp
theorem q_div {a b : Nat} (ha : a < 2147483648) (hb : b < 2147483648) : nI a / nI b = nI (a / b) := by
  apply Int32.toInt_inj.mp
  have h1 : a / b < 2147483648 := Nat.lt_of_le_of_lt (Nat.div_le_self a b) ha
  have ea := nI_toInt ha
  have eb := nI_toInt hb
  rw [nI_toInt h1, Jvm.Kit.i32_div (by rw [ea, eb]; omega), ea, eb]
  rfl
theorem q_rem {a b : Nat} (ha : a < 2147483648) (hb : b < 2147483648) : nI a - nI a / nI b * nI b = nI (a % b) := by
  rw [q_div ha hb, q_mul, q_sub (Nat.div_mul_le_self a b)]
  congr 1
  have := Nat.div_add_mod a b
  rw [Nat.mul_comm] at this
  omega
theorem q_eq {a b : Nat} (ha : a < 4294967296) (hb : b < 4294967296) : nI a = nI b ↔ a = b := by
  constructor
  · intro h
    have h1 : natOf (nI a) = natOf (nI b) := by rw [h]
    have key : ∀ c : Nat, c < 4294967296 → natOf (nI c) = c := by
      intro c hc
      show (UInt32.ofNat c).toNat = c
      rw [UInt32.toNat_ofNat']
      omega
    rw [key a ha, key b hb] at h1
    exact h1
  · rintro rfl; rfl
theorem q_lt {a b : Nat} (ha : a < 2147483648) (hb : b < 2147483648) : nI a < nI b ↔ a < b := nI_ltI ha hb
theorem q_le {a b : Nat} (ha : a < 2147483648) (hb : b < 2147483648) : nI a ≤ nI b ↔ a ≤ b := nI_leI ha hb
/-- minus nine, as both classes spell 'none' -/
abbrev NN : Nat := 4294967287
theorem q_m9 : (-9 : Int32) = nI NN := by decide
/-! a load, a store, of a state written out at one object -/
section RoRows
variable {α : Type} {τ : TT} {o k n i x : Nat} {S : SS}
theorem ro_gf {F : Int32 → Option α} : gf (Ro τ o S) o k F = F (nI (S k 0)) := by
  show F (nI (wo τ.1 o S o k 0)) = _
  rw [wo_at]
theorem ro_ld {F : Int32 → Option α} (hi : i < n) (hn : n < 2147483648) : ld (Ro τ o S) o k n (nI i) F = F (nI (S k i)) := by
  unfold ld
  rw [if_neg (nI_in hi hn), nI_clamp (by omega)]
  show F (nI (wo τ.1 o S o k i)) = _
  rw [wo_at]
theorem ro_up {τ : TT} {o k i x : Nat} {S : SS} : (upd3 (Ro τ o S).1 o k i (nI x), (Ro τ o S).2) = Ro τ o (up S k i x) := by
  unfold Ro
  congr 1
  funext o' k' i'
  show (if o' = o ∧ k' = k ∧ i' = i then nI x else nI (wo τ.1 o S o' k' i')) = nI (wo τ.1 o (up S k i x) o' k' i')
  by_cases h : o' = o
  · subst h
    rw [wo_at, wo_at]
    unfold up
    by_cases h2 : k' = k ∧ i' = i
    · simp [h2]
    · have h3 : ¬ (o' = o' ∧ k' = k ∧ i' = i) := fun q => h2 q.2
      rw [if_neg h3, if_neg h2]
  · have h3 : ¬ (o' = o ∧ k' = k ∧ i' = i) := fun q => h q.1
    rw [if_neg h3, wo_ne _ _ h, wo_ne _ _ h]
theorem ro_pf {F : ST → Option α} : pf (Ro τ o S) o k (nI x) F = F (Ro τ o (up S k 0 x)) := by
  unfold pf
  rw [ro_up]
theorem ro_sd {F : ST → Option α} (hi : i < n) (hn : n < 2147483648) : sd (Ro τ o S) o k n (nI i) (nI x) F = F (Ro τ o (up S k i x)) := by
  unfold sd
  rw [if_neg (nI_in hi hn), nI_clamp (by omega), ro_up]
theorem g_gf {G : GG} {P : Nat → Nat} {F : Int32 → Option α} : gf (nV G, P) o k F = F (nI (G o k 0)) := id rfl
theorem g_ld {G : GG} {P : Nat → Nat} {F : Int32 → Option α} (hi : i < n) (hn : n < 2147483648) : ld (nV G, P) o k n (nI i) F = F (nI (G o k i)) := by
  unfold ld
  rw [if_neg (nI_in hi hn), nI_clamp (by omega)]
  rfl
theorem cV_of {β : Type} {T : Option β} {b : β} {F : β → Option α} (h : T = some b) : cV T F = F b := by subst h; rfl
theorem cI_of {β : Type} {T : Option (Int32 × β)} {x : Int32} {b : β} {F : Int32 → β → Option α} (h : T = some (x, b)) : cI T F = F x b := by subst h; rfl
theorem cJ_of {β : Type} {T : Option (Int64 × β)} {x : Int64} {b : β} {F : Int64 → β → Option α} (h : T = some (x, b)) : cJ T F = F x b := by subst h; rfl
theorem vl_of {x y : Int32} {F : Int32 → Option α} (h : x = y) : vl x F = F y := by subst h; rfl
theorem vL_of {x y : Int64} {F : Int64 → Option α} (h : x = y) : vL x F = F y := by subst h; rfl
theorem rz_of {x : Int32} {M : Option α} (h : x = 0 ∨ x = 1) : rz x M = M := by unfold rz; rw [if_pos h]
theorem e_vl {x : Int32} {F : Int32 → Option α} : vl x F = F x := vl_of (Eq.refl x)
theorem e_vL {x : Int64} {F : Int64 → Option α} : vL x F = F x := vL_of (Eq.refl x)
theorem e_cV {β : Type} {b : β} {F : β → Option α} : cV (some b) F = F b := cV_of (Eq.refl (some b))
theorem e_cI {β : Type} {x : Int32} {b : β} {F : Int32 → β → Option α} : cI (some (x, b)) F = F x b := cI_of (Eq.refl (some (x, b)))
theorem e_cJ {β : Type} {x : Int64} {b : β} {F : Int64 → β → Option α} : cJ (some (x, b)) F = F x b := cJ_of (Eq.refl (some (x, b)))
theorem e_rz0 {M : Option α} : rz 0 M = M := rz_of (Or.inl rfl)
theorem e_rz1 {M : Option α} : rz 1 M = M := rz_of (Or.inr rfl)
end RoRows
theorem FU_gt {n : Nat} (h : n < 3000) : n < FU := h
