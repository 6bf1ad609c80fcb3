/-! THE STREET IN WHOLE NUMBERS, fields as the reference numbers them: 1 kind, 2 figure, 3 habit, 4 friend (9 none), 5 held, 6 will, 7 want, 8 at, 9 own (9 none), 10 breath,
11 bags, 12 bearers, 13 hour, 14 colonel, 27 hours led, 28 rests, 29 snaps -/
theorem c0 : (0 : Int32) = nI 0 := rfl
theorem c1 : (1 : Int32) = nI 1 := rfl
theorem c2 : (2 : Int32) = nI 2 := rfl
theorem c3 : (3 : Int32) = nI 3 := rfl
theorem c4 : (4 : Int32) = nI 4 := rfl
theorem c5 : (5 : Int32) = nI 5 := rfl
theorem c6 : (6 : Int32) = nI 6 := rfl
theorem c7 : (7 : Int32) = nI 7 := rfl
theorem c8 : (8 : Int32) = nI 8 := rfl
theorem c9 : (9 : Int32) = nI 9 := rfl
theorem c10 : (10 : Int32) = nI 10 := rfl
theorem c12 : (12 : Int32) = nI 12 := rfl
theorem c24 : (24 : Int32) = nI 24 := rfl
theorem c47 : (47 : Int32) = nI 47 := rfl
theorem c48 : (48 : Int32) = nI 48 := rfl
theorem c57 : (57 : Int32) = nI 57 := rfl
theorem c58 : (58 : Int32) = nI 58 := rfl
theorem c59 : (59 : Int32) = nI 59 := rfl
theorem c60 : (60 : Int32) = nI 60 := rfl
theorem c63 : (63 : Int32) = nI 63 := rfl
theorem c96 : (96 : Int32) = nI 96 := rfl
theorem c97 : (97 : Int32) = nI 97 := rfl
theorem c98 : (98 : Int32) = nI 98 := rfl
theorem c99 : (99 : Int32) = nI 99 := rfl
theorem c100 : (100 : Int32) = nI 100 := rfl
theorem c102 : (102 : Int32) = nI 102 := rfl
theorem c103 : (103 : Int32) = nI 103 := rfl
theorem c104 : (104 : Int32) = nI 104 := rfl
theorem c108 : (108 : Int32) = nI 108 := rfl
theorem c111 : (111 : Int32) = nI 111 := rfl
theorem c180 : (180 : Int32) = nI 180 := rfl
theorem c255 : (255 : Int32) = nI 255 := rfl
theorem c600 : (600 : Int32) = nI 600 := rfl
theorem c999 : (999 : Int32) = nI 999 := rfl
theorem c1000 : (1000 : Int32) = nI 1000 := rfl
theorem q_dec (k : Nat) : nI (k + 1) + -nI 1 = nI k := by
  show nI (k + 1) + (-1) = nI k
  have e : nI (k + 1) = nI k + 1 := nI_succ k
  rw [e]
  first
    | (rw [Int32.add_assoc]; show nI k + 0 = nI k; exact Int32.add_zero _)
    | simp
theorem q_dec0 (k : Nat) : nI (k + 1) - nI 1 = nI k := nI_pred k
theorem n_mod (a b : Nat) : a - a / b * b = a % b := by
  have := Nat.div_add_mod a b
  rw [Nat.mul_comm] at this
  omega
def whoG (S : SS) (b : Nat) : Nat → Nat → Nat
  | 0, _ => 9
  | r + 1, l => if S 9 l = b then l else whoG S b r (l + 1)
/-- who has a bag; 9 nobody -/
def who (S : SS) (b : Nat) : Nat := whoG S b (S 12 0) 0
def pull (S : SS) (b : Nat) : Nat :=
  if S 1 b = 1 then S 2 b + S 5 b else if S 1 b = 2 then S 2 b + 4 else if S 1 b = 3 then S 2 b / 2 else if S 1 b = 4 then (if S 4 b < 9 ∧ who S (S 4 b) < 9 then S 2 b + 2 else S 2 b) else if S 1 b = 5 then 2 * (S 2 b + S 5 b) else S 2 b
def goal (S : SS) (b w : Nat) : Nat :=
  if S 1 b = 2 then (S 14 0 + 5) % 10 else if S 1 b = 3 ∧ S 13 0 % 2 = 1 then w else if S 1 b = 4 ∧ S 4 b < 9 ∧ who S (S 4 b) < 9 then S 8 (who S (S 4 b)) else S 3 b
abbrev led (S : SS) (l : Nat) : Prop := S 9 l < 9 ∧ S 6 l < pull S (S 9 l)
def tw (a g : Nat) : Nat := if (g + 10 - a) % 10 = 0 then a else if 5 < (g + 10 - a) % 10 then (a + 9) % 10 else (a + 1) % 10
/-- one place, towards the goal -/
def stepG (S : SS) (l g : Nat) : SS := if S 8 l = g then S else up (up S 8 l (tw (S 8 l) g)) 10 l (S 10 l - 1)
def goLed (S : SS) (l : Nat) : SS := if S 1 (S 9 l) = 5 then stepG (stepG S l (goal S (S 9 l) (S 7 l))) l (goal S (S 9 l) (S 7 l)) else stepG S l (goal S (S 9 l) (S 7 l))
def oneN (S : SS) (l : Nat) : SS := up (up S 8 l (tw (S 8 l) (S 7 l))) 10 l (if 9 ≤ S 10 l then S 10 l else S 10 l + 1)
/-- what one does in an hour; z: her bag sleeps -/
def one (S : SS) (l : Nat) (z : Bool) : SS :=
  if S 10 l = 0 then up (up S 10 l 3) 28 l (S 28 l + 1) else if led S l ∧ z = false then goLed (up S 27 l (S 27 l + 1)) l else oneN S l
def allOne (S : SS) (z : Nat) : Nat → Nat → SS
  | 0, _ => S
  | r + 1, l => allOne (one S l (decide (l = z))) z r (l + 1)
/-- behind the going: held hours and snaps, bearer by bearer -/
def growOne (S : SS) (l : Nat) : SS :=
  if S 9 l = 9 then S else
    let T := up S 5 (S 9 l) (if 99 ≤ S 5 (S 9 l) then S 5 (S 9 l) else S 5 (S 9 l) + 1)
    up T 29 0 (T 29 0 + (if T 1 (S 9 l) = 2 ∧ T 8 l = T 14 0 then 1 else 0))
def allGrow (S : SS) : Nat → Nat → SS
  | 0, _ => S
  | r + 1, l => allGrow (growOne S l) r (l + 1)
/-- an hour; z: who is asleep (9 nobody) -/
def hourS (S : SS) (z : Nat) : SS :=
  let T := allOne (up S 13 0 (S 13 0 + 1)) z (S 12 0) 0
  allGrow T (T 12 0) 0
def trj (S : SS) : Nat → SS
  | 0 => S
  | n + 1 => hourS (trj S n) 9
def WF (S : SS) : Prop := S 11 0 ≤ 6 ∧ S 12 0 ≤ 5 ∧ (∀ b, b < S 11 0 → S 1 b ≤ 5 ∧ S 2 b ≤ 9 ∧ S 3 b ≤ 9 ∧ (S 4 b = 9 ∨ S 4 b < S 11 0) ∧ S 5 b ≤ 99) ∧ (∀ l, l < S 12 0 → S 6 l ≤ 9 ∧ S 7 l ≤ 9 ∧ S 8 l ≤ 9 ∧ (S 9 l = 9 ∨ S 9 l < S 11 0) ∧ S 10 l ≤ 9) ∧ (∀ l l', l < S 12 0 → l' < S 12 0 → S 9 l = S 9 l' → S 9 l ≠ 9 → l = l') ∧ S 14 0 ≤ 9
theorem WF.nb {S : SS} (h : WF S) : S 11 0 ≤ 6 := h.1
theorem WF.nl {S : SS} (h : WF S) : S 12 0 ≤ 5 := h.2.1
theorem WF.bag {S : SS} (h : WF S) {b : Nat} (hb : b < S 11 0) : S 1 b ≤ 5 ∧ S 2 b ≤ 9 ∧ S 3 b ≤ 9 ∧ (S 4 b = 9 ∨ S 4 b < S 11 0) ∧ S 5 b ≤ 99 := h.2.2.1 b hb
theorem WF.bea {S : SS} (h : WF S) {l : Nat} (hl : l < S 12 0) : S 6 l ≤ 9 ∧ S 7 l ≤ 9 ∧ S 8 l ≤ 9 ∧ (S 9 l = 9 ∨ S 9 l < S 11 0) ∧ S 10 l ≤ 9 := h.2.2.2.1 l hl
theorem WF.inj {S : SS} (h : WF S) {l l' : Nat} (hl : l < S 12 0) (hl' : l' < S 12 0) (e : S 9 l = S 9 l') (h9 : S 9 l ≠ 9) : l = l' := h.2.2.2.2.1 l l' hl hl' e h9
theorem WF.col {S : SS} (h : WF S) : S 14 0 ≤ 9 := h.2.2.2.2.2
theorem whoG_spec (S : SS) (b : Nat) : ∀ r l, (whoG S b r l = 9 ∧ ∀ k, l ≤ k → k < l + r → S 9 k ≠ b) ∨ (l ≤ whoG S b r l ∧ whoG S b r l < l + r ∧ S 9 (whoG S b r l) = b ∧ ∀ k, l ≤ k → k < whoG S b r l → S 9 k ≠ b)
  | 0, l => Or.inl ⟨rfl, fun k h1 h2 => by omega⟩
  | r + 1, l => by
    unfold whoG
    by_cases h : S 9 l = b
    · rw [if_pos h]
      exact Or.inr ⟨Nat.le_refl _, by omega, h, fun k h1 h2 => by omega⟩
    · rw [if_neg h]
      rcases whoG_spec S b r (l + 1) with ⟨h1, h2⟩ | ⟨h1, h2, h3, h4⟩
      · refine Or.inl ⟨h1, fun k g1 g2 => ?_⟩
        by_cases e : k = l
        · rw [e]; exact h
        · exact h2 k (by omega) (by omega)
      · refine Or.inr ⟨by omega, by omega, h3, fun k g1 g2 => ?_⟩
        by_cases e : k = l
        · rw [e]; exact h
        · exact h4 k (by omega) g2
theorem who_spec (S : SS) (b : Nat) : (who S b = 9 ∧ ∀ k, k < S 12 0 → S 9 k ≠ b) ∨ (who S b < S 12 0 ∧ S 9 (who S b) = b ∧ ∀ k, k < who S b → S 9 k ≠ b) := by
  rcases whoG_spec S b (S 12 0) 0 with ⟨h1, h2⟩ | ⟨h1, h2, h3, h4⟩
  · exact Or.inl ⟨h1, fun k h => h2 k (Nat.zero_le _) (by omega)⟩
  · exact Or.inr ⟨by show whoG S b (S 12 0) 0 < _; omega, h3, fun k h => h4 k (Nat.zero_le _) h⟩
theorem who_le {S : SS} (h : WF S) (b : Nat) : who S b ≤ 9 := by
  rcases who_spec S b with ⟨h1, -⟩ | ⟨h1, -⟩
  · omega
  · have := h.nl; omega
theorem who_lt {S : SS} (h : WF S) {b : Nat} (hb : who S b < 9) : who S b < S 12 0 ∧ S 9 (who S b) = b := by
  rcases who_spec S b with ⟨h1, -⟩ | ⟨h1, h2, -⟩
  · omega
  · exact ⟨h1, h2⟩
theorem pull_le {S : SS} (h : WF S) {b : Nat} (hb : b < S 11 0) : pull S b ≤ 300 := by
  have := h.bag hb
  unfold pull
  repeat' split
  all_goals omega
theorem tw_le {a g : Nat} (ha : a ≤ 9) : tw a g ≤ 9 := by
  unfold tw
  repeat' split
  all_goals omega
