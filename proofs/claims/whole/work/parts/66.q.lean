/-! the ways, by number: the class's codes and the reference's -/
def dkB (nb : Nat) : Nat → Nat → Nat → Nat → Nat
  | 0, _, _, no => no
  | r + 1, rest, tk, no => if rest % (nb + 1) = nb then dkB nb r (rest / (nb + 1)) (tk ||| 2 ^ nb) (no + 1) else if tk / 2 ^ (rest % (nb + 1)) % 2 = 1 then 99 else dkB nb r (rest / (nb + 1)) (tk ||| 2 ^ (rest % (nb + 1))) no
def dg7 (nl c l : Nat) : Nat := c / 7 ^ (nl - 1 - l) % 7
def dgA (nb nl k l : Nat) : Nat := k / (nb + 1) ^ (nl - 1 - l) % (nb + 1)
def iwB (nb nl c : Nat) : Nat → Nat → Nat → Nat → Nat
  | 0, _, _, many => many
  | r + 1, l, tk, many => if dg7 nl c l = 6 then iwB nb nl c r (l + 1) tk many else if nb ≤ dg7 nl c l then 99 else if tk / 2 ^ dg7 nl c l % 2 = 1 then 99 else iwB nb nl c r (l + 1) (tk ||| 2 ^ dg7 nl c l) (many + 1)
def okA (nb nl k : Nat) : Bool := dkB nb nl k 0 0 == nl - nb
def okB (nb nl c : Nat) : Bool := iwB nb nl c nl 0 0 0 == (if nb < nl then nb else nl)
def toB (nb : Nat) : Nat → Nat → Nat
  | 0, _ => 0
  | r + 1, k => 7 * toB nb r (k / (nb + 1)) + (if k % (nb + 1) = nb then 6 else k % (nb + 1))
def toA (nb : Nat) : Nat → Nat → Nat
  | 0, _ => 0
  | r + 1, c => (nb + 1) * toA nb r (c / 7) + (if c % 7 = 6 then nb else c % 7)
def allB (p : Nat → Bool) : Nat → Bool
  | 0 => true
  | n + 1 => p n && allB p n
theorem allB_spec {p : Nat → Bool} : ∀ {n}, allB p n = true → ∀ k, k < n → p k = true
  | 0, _, k, h => by omega
  | n + 1, e, k, h => by
    have e' : (p n && allB p n) = true := e
    rw [Bool.and_eq_true] at e'
    by_cases q : k = n
    · rw [q]; exact e'.1
    · exact allB_spec e'.2 k (by omega)
def chA (nb nl k : Nat) : Bool := (okA nb nl k == okB nb nl (toB nb nl k)) && decide (toB nb nl k < 7 ^ nl) && (decide (toB nb nl k < toB nb nl (k + 1)) || (k + 1 == (nb + 1) ^ nl)) && allB (fun l => dg7 nl (toB nb nl k) l == (if dgA nb nl k l = nb then 6 else dgA nb nl k l)) nl
def chB (nb nl c : Nat) : Bool := if okB nb nl c = true then (toB nb nl (toA nb nl c) == c) && decide (toA nb nl c < (nb + 1) ^ nl) else true
def exA (nb nl : Nat) : Nat → Nat
  | 0 => 0
  | n + 1 => if okA nb nl n = true then n else exA nb nl n
theorem ways_A : allB (fun nb => allB (fun nl => allB (fun k => chA nb nl k) ((nb + 1) ^ nl)) 5) 7 = true := by decide +kernel
theorem ways_B : allB (fun nb => allB (fun nl => allB (fun c => chB nb nl c) (7 ^ nl)) 5) 7 = true := by decide +kernel
theorem ways_E : allB (fun nb => allB (fun nl => okA nb nl (exA nb nl ((nb + 1) ^ nl)) && decide (exA nb nl ((nb + 1) ^ nl) < (nb + 1) ^ nl)) 5) 7 = true := by decide +kernel
