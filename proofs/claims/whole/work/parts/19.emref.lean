/-! the reference: its views, and how its numbers are changed -/
theorem pv80 (M : Nat → Nat → Nat) : pgv M 0 8 0 = M 20 0 := rfl
theorem pv81 (M : Nat → Nat → Nat) : pgv M 0 8 1 = M 0 42 := rfl
theorem pv82 (M : Nat → Nat → Nat) : pgv M 0 8 2 = M 0 43 := rfl
theorem pv83 (M : Nat → Nat → Nat) : pgv M 0 8 3 = M 0 62 := rfl
theorem pv0 (M : Nat → Nat → Nat) (j : Nat) : pgv M 0 0 j = M 0 j := by show M 0 (0 + j) = _; rw [Nat.zero_add]
theorem pv1 (M : Nat → Nat → Nat) (j : Nat) : pgv M 0 1 j = M 0 (6 + j) := rfl
theorem pv2 (M : Nat → Nat → Nat) (j : Nat) : pgv M 0 2 j = M 0 (15 + j) := rfl
theorem pv3 (M : Nat → Nat → Nat) (j : Nat) : pgv M 0 3 j = M 0 (24 + j) := rfl
theorem pv4 (M : Nat → Nat → Nat) (j : Nat) : pgv M 0 4 j = M 0 (33 + j) := rfl
theorem pv5 (M : Nat → Nat → Nat) (j : Nat) : pgv M 0 5 j = M 0 (44 + j) := rfl
theorem pv6 (M : Nat → Nat → Nat) (j : Nat) : pgv M 0 6 j = M 0 (50 + j) := rfl
theorem pv7 (M : Nat → Nat → Nat) (j : Nat) : pgv M 0 7 j = M 0 (56 + j) := rfl
theorem ne01 : (nI 0 = nI 1) = False := eq_false (by decide)
theorem ne02 : (nI 0 = nI 2) = False := eq_false (by decide)
theorem ne03 : (nI 0 = nI 3) = False := eq_false (by decide)
theorem ne04 : (nI 0 = nI 4) = False := eq_false (by decide)
theorem ne05 : (nI 0 = nI 5) = False := eq_false (by decide)
theorem ne10 : (nI 1 = nI 0) = False := eq_false (by decide)
theorem ne12 : (nI 1 = nI 2) = False := eq_false (by decide)
theorem ne13 : (nI 1 = nI 3) = False := eq_false (by decide)
theorem ne14 : (nI 1 = nI 4) = False := eq_false (by decide)
theorem ne15 : (nI 1 = nI 5) = False := eq_false (by decide)
theorem ne20 : (nI 2 = nI 0) = False := eq_false (by decide)
theorem ne21 : (nI 2 = nI 1) = False := eq_false (by decide)
theorem ne23 : (nI 2 = nI 3) = False := eq_false (by decide)
theorem ne24 : (nI 2 = nI 4) = False := eq_false (by decide)
theorem ne25 : (nI 2 = nI 5) = False := eq_false (by decide)
theorem ne30 : (nI 3 = nI 0) = False := eq_false (by decide)
theorem ne31 : (nI 3 = nI 1) = False := eq_false (by decide)
theorem ne32 : (nI 3 = nI 2) = False := eq_false (by decide)
theorem ne34 : (nI 3 = nI 4) = False := eq_false (by decide)
theorem ne35 : (nI 3 = nI 5) = False := eq_false (by decide)
theorem ne40 : (nI 4 = nI 0) = False := eq_false (by decide)
theorem ne41 : (nI 4 = nI 1) = False := eq_false (by decide)
theorem ne42 : (nI 4 = nI 2) = False := eq_false (by decide)
theorem ne43 : (nI 4 = nI 3) = False := eq_false (by decide)
theorem ne45 : (nI 4 = nI 5) = False := eq_false (by decide)
theorem ne50 : (nI 5 = nI 0) = False := eq_false (by decide)
theorem ne51 : (nI 5 = nI 1) = False := eq_false (by decide)
theorem ne52 : (nI 5 = nI 2) = False := eq_false (by decide)
theorem ne53 : (nI 5 = nI 3) = False := eq_false (by decide)
theorem ne54 : (nI 5 = nI 4) = False := eq_false (by decide)
def graftM (M : Nat → Nat → Nat) (x y : Int32) : Nat → Nat → Nat := if (ix x (M 20 0) && rg y 0 3) = true then u2 M 0 (tn x) (tn y) else M
def stretchM (M : Nat → Nat → Nat) (x y : Int32) : Nat → Nat → Nat := if (ix x (M 0 42) && rg y 1 9) = true then u2 M 0 (24 + tn x) (tn y) else M
def growP (M : Nat → Nat → Nat) (p a b L : Nat) : Nat → Nat → Nat := u2 (u2 (u2 (u2 (u2 M 0 (p + 6 + M 0 (p + 42)) a) 0 (p + 15 + M 0 (p + 42)) b) 0 (p + 24 + M 0 (p + 42)) L) 0 (p + 33 + M 0 (p + 42)) 0) 0 (p + 42) (M 0 (p + 42) + 1)
def growM (M : Nat → Nat → Nat) (x y z : Int32) : Nat → Nat → Nat := if (ix x (M 20 0) && ix y (M 20 0) && decide (tn x ≠ tn y) && rg z 1 9 && decide (M 0 42 < 9)) = true then growP M 0 (tn x) (tn y) (tn z) else M
def cutM (M : Nat → Nat → Nat) (x : Int32) (b : Bool) : Nat → Nat → Nat := if ix x (M 0 42) = true then u2 M 0 (33 + tn x) (rb b) else M
def windM (M : Nat → Nat → Nat) (x : Int32) : Nat → Nat → Nat := if rg x 0 20 = true then u2 M 0 43 (tn x) else M
def shiftM (M : Nat → Nat → Nat) (x y z : Int32) : Nat → Nat → Nat := if ix x (M 0 62) = true then (if y = nI 0 then (if rg z 0 23 = true then u2 M 0 (44 + tn x) (tn z) else M) else if y = nI 1 then (if ix z (M 20 0) = true then u2 M 0 (50 + tn x) (tn z) else M) else if y = nI 2 then (if rg z 1 60 = true then u2 M 0 (56 + tn x) (tn z) else M) else M) else M
def dropM (M : Nat → Nat → Nat) (x : Int32) : Nat → Nat → Nat := if rg x 0 (M 0 62) = true then u2 M 0 62 (tn x) else M
theorem shl_lt {x i : Nat} (h : x ≤ 1) (hi : i < 9) : i < 32 ∧ x * 2 ^ i < 2 ^ 32 := ⟨by omega, by
  have h1 : 2 ^ i ≤ 2 ^ 9 := Nat.pow_le_pow_right (by decide) (by omega)
  have h2 := Nat.mul_le_mul h h1
  have h3 : 1 * (2 : Nat) ^ 9 < 2 ^ 32 := by decide
  omega⟩
theorem rule_s {v : Nat → Nat → Nat} {i bs x : Nat} (h : bs = bset (fun i => decide (v 4 i = 1)) i) (h1 : x = v 4 i) (h2 : x ≤ 1) : bs ||| x * 2 ^ i = bset (fun i => decide (v 4 i = 1)) (i + 1) := by
  rcases Nat.lt_or_ge x 1 with h3 | h3
  · have h0 : x = 0 := by omega
    rw [bset_f (P := fun i => decide (v 4 i = 1)) (decide_eq_false (by rw [← h1]; omega)), h0, Nat.zero_mul, Nat.or_zero]; exact h
  · have h0 : x = 1 := by omega
    rw [bset_t (P := fun i => decide (v 4 i = 1)) (decide_eq_true (by rw [← h1]; exact h0)), h0, Nat.one_mul, h]
theorem reach_f {v : Nat → Nat → Nat} {t u : Nat} (h : 1000 ≤ dist v t u) : reachP v t u = false := by
  have := dist_le v t u
  exact decide_eq_false (fun q => q (by omega))
theorem reach_t {v : Nat → Nat → Nat} {t u : Nat} (h : dist v t u < 1000) : reachP v t u = true := decide_eq_true (fun q => by omega)
theorem hbit_s {P : Nat → Bool} {bs x i : Nat} (h : bs = bset P i) (h1 : x = rb (P i)) : bs ||| x * 2 ^ i = bset P (i + 1) := by
  cases hp : P i with
  | true => rw [bset_t hp, h1, hp, h]; show _ ||| 1 * 2 ^ i = _; rw [Nat.one_mul]
  | false => rw [bset_f hp, h1, hp, h]; show _ ||| 0 * 2 ^ i = _; rw [Nat.zero_mul, Nat.or_zero]
