/-! what the calls answer, as plain functions; a view v: 0 kinds, 1 2 3 the roots' trees and lengths, 4 whether they are cut, 5 6 7 talks, 8: how many trees, roots, the wind, how many talks -/
def cgv (G : Nat → Nat → Nat) : Nat → Nat → Nat := fun f j => if f = 4 then (if (G 4 0).testBit j then 1 else 0) else G f j
def GW (G : Nat → Nat → Nat) : Prop := G 8 0 ≤ 6 ∧ G 8 1 ≤ 9 ∧ G 8 2 ≤ 20 ∧ G 8 3 ≤ 6 ∧ G 4 0 < 2 ^ G 8 1 ∧ (∀ t, t < G 8 0 → G 0 t ≤ 3) ∧ (∀ i, i < G 8 1 → G 1 i < G 8 0 ∧ G 2 i < G 8 0 ∧ G 1 i ≠ G 2 i ∧ 1 ≤ G 3 i ∧ G 3 i ≤ 9) ∧ (∀ k, k < G 8 3 → G 5 k ≤ 23 ∧ G 6 k < G 8 0 ∧ 1 ≤ G 7 k ∧ G 7 k ≤ 60)
theorem GW.cut {G : Nat → Nat → Nat} (h : GW G) : G 4 0 < 512 := Nat.lt_of_lt_of_le h.2.2.2.2.1 (Nat.pow_le_pow_right (by decide) h.2.1)
/-- a number out of bits -/
def bset (P : Nat → Bool) : Nat → Nat
  | 0 => 0
  | i + 1 => bset P i + (if P i then 2 ^ i else 0)
def cnt (P : Nat → Bool) : Nat → Nat
  | 0 => 0
  | i + 1 => cnt P i + (if P i then 1 else 0)
def nsum (f : Nat → Nat) : Nat → Nat
  | 0 => 0
  | i + 1 => nsum f i + f i
/-- the first from k on, of n looked at; 0: none -/
def lfind (P : Nat → Bool) : Nat → Nat → Nat
  | 0, _ => 0
  | n + 1, k => if P k then k else lfind P n (k + 1)
def pc (x : Nat) : Nat := cnt (fun j => x.testBit j) 10
def loudS (kind b a : Nat) : Nat := if kind = 0 then b - a else if kind = 1 then 2 * (b - a) else if kind = 2 then (b - a) / 2 else 2 * (b - a) - 3
/-- one root looked at: the farther of its trees is nearer by it -/
def rel (d : Nat → Nat) (a b L : Nat) : Nat → Nat := if d b + L < d a then u1 d a (d b + L) else if d a + L < d b then u1 d b (d a + L) else d
def relax (v : Nat → Nat → Nat) (d : Nat → Nat) (i : Nat) : Nat → Nat := if v 4 i = 0 then rel d (v 1 i) (v 2 i) (v 3 i) else d
def relaxTo (v : Nat → Nat → Nat) (d : Nat → Nat) : Nat → (Nat → Nat)
  | 0 => d
  | i + 1 => relax v (relaxTo v d i) i
def rnds (v : Nat → Nat → Nat) (d : Nat → Nat) : Nat → (Nat → Nat)
  | 0 => d
  | k + 1 => relaxTo v (rnds v d k) (v 8 1)
def dz (t : Nat) : Nat → Nat := fun u => if u = t then 0 else 1000
def dist (v : Nat → Nat → Nat) (t : Nat) : Nat → Nat := rnds v (dz t) 6
def hearP (v : Nat → Nat → Nat) (d : Nat → Nat) (b u : Nat) : Bool := decide (v 8 2 < loudS (v 0 u) b (d u))
def hearW (v : Nat → Nat → Nat) (d : Nat → Nat) (b : Nat) : Nat := bset (hearP v d b) (v 8 0)
def hearS (v : Nat → Nat → Nat) (t b : Nat) : Nat := hearW v (dist v t) b
def heardS (v : Nat → Nat → Nat) (k : Nat) : Nat := hearS v (v 6 k) (v 7 k)
def hearersS (v : Nat → Nat → Nat) : Nat := nsum (fun k => pc (heardS v k)) (v 8 3)
def crossP (v : Nat → Nat → Nat) (k j : Nat) : Bool := decide (v 5 k = v 5 j) && decide (heardS v k &&& heardS v j ≠ 0)
def crossS (v : Nat → Nat → Nat) : Nat := nsum (fun k => cnt (crossP v k) k) (v 8 3)
def leastS (v : Nat → Nat → Nat) (t some_ among : Nat) : Nat := lfind (fun b => decide (hearS v t b &&& among = some_)) 60 1
/-- an answer: a number above 0, or NONE -/
def orNone (n : Nat) : Int32 := if n = 0 then -4 else nI n
theorem bset_lt (P : Nat → Bool) : ∀ n, bset P n < 2 ^ n := by
  intro n
  induction n with
  | zero => exact Nat.one_pos
  | succ n ih => show bset P n + _ < 2 ^ (n + 1); rw [Nat.pow_succ]; split <;> omega
theorem bset_le (P : Nat → Bool) {n k : Nat} (h : n ≤ k) : bset P n < 2 ^ k := Nat.lt_of_lt_of_le (bset_lt P n) (Nat.pow_le_pow_right (by decide) h)
theorem bset_or (P : Nat → Bool) (n : Nat) : bset P n ||| 2 ^ n = bset P n + 2 ^ n := by
  rw [Nat.or_comm, ← Nat.one_mul (2 ^ n), Nat.mul_comm, ← Nat.two_pow_add_eq_or_of_lt (bset_lt P n), Nat.add_comm]
theorem bset_congr {P Q : Nat → Bool} : ∀ {n : Nat}, (∀ i, i < n → P i = Q i) → bset P n = bset Q n := by
  intro n
  induction n with
  | zero => intro _; rfl
  | succ n ih => intro h; show bset P n + _ = bset Q n + _; rw [ih (fun i hi => h i (by omega)), h n (by omega)]
theorem cnt_congr {P Q : Nat → Bool} : ∀ {n : Nat}, (∀ i, i < n → P i = Q i) → cnt P n = cnt Q n := by
  intro n
  induction n with
  | zero => intro _; rfl
  | succ n ih => intro h; show cnt P n + _ = cnt Q n + _; rw [ih (fun i hi => h i (by omega)), h n (by omega)]
theorem nsum_congr {f g : Nat → Nat} : ∀ {n : Nat}, (∀ i, i < n → f i = g i) → nsum f n = nsum g n := by
  intro n
  induction n with
  | zero => intro _; rfl
  | succ n ih => intro h; show nsum f n + _ = nsum g n + _; rw [ih (fun i hi => h i (by omega)), h n (by omega)]
theorem cnt_le (P : Nat → Bool) : ∀ n, cnt P n ≤ n := by
  intro n
  induction n with
  | zero => exact Nat.le_refl 0
  | succ n ih => show cnt P n + _ ≤ n + 1; split <;> omega
theorem nsum_le {f : Nat → Nat} {b : Nat} : ∀ {n : Nat}, (∀ i, i < n → f i ≤ b) → nsum f n ≤ n * b := by
  intro n
  induction n with
  | zero => intro _; simp [nsum]
  | succ n ih => intro h; have h1 := ih (fun i hi => h i (by omega)); have h2 := h n (by omega); show nsum f n + f n ≤ (n + 1) * b; rw [Nat.succ_mul]; omega
theorem pc_le (x : Nat) : pc x ≤ 10 := cnt_le _ _
theorem u1_le {d : Nat → Nat} {a v : Nat} (h : v ≤ d a) (x : Nat) : u1 d a v x ≤ d x := by
  unfold u1; split
  · subst_vars; exact h
  · exact Nat.le_refl _
theorem rel_le {d : Nat → Nat} {a b L : Nat} (x : Nat) : rel d a b L x ≤ d x := by
  unfold rel
  split
  · exact u1_le (by omega) x
  · split
    · exact u1_le (by omega) x
    · exact Nat.le_refl _
theorem relax_le (v : Nat → Nat → Nat) (d : Nat → Nat) (i x : Nat) : relax v d i x ≤ d x := by
  unfold relax; split
  · exact rel_le x
  · exact Nat.le_refl _
theorem relaxTo_le (v : Nat → Nat → Nat) (d : Nat → Nat) (x : Nat) : ∀ i, relaxTo v d i x ≤ d x := by
  intro i
  induction i with
  | zero => exact Nat.le_refl _
  | succ i ih => exact Nat.le_trans (relax_le v _ i x) ih
theorem rnds_le (v : Nat → Nat → Nat) (d : Nat → Nat) (x : Nat) : ∀ k, rnds v d k x ≤ d x := by
  intro k
  induction k with
  | zero => exact Nat.le_refl _
  | succ k ih => exact Nat.le_trans (relaxTo_le v _ x _) ih
theorem dz_le (t x : Nat) : dz t x ≤ 1000 := by unfold dz; split <;> omega
theorem dist_le (v : Nat → Nat → Nat) (t x : Nat) : dist v t x ≤ 1000 := Nat.le_trans (rnds_le v _ x 6) (dz_le t x)
theorem u1_congr {d e : Nat → Nat} {a v n : Nat} (h : ∀ x, x < n → d x = e x) : ∀ x, x < n → u1 d a v x = u1 e a v x := by
  intro x hx
  unfold u1; split
  · rfl
  · exact h x hx
theorem rel_congr {d e : Nat → Nat} {a b L n : Nat} (ha : a < n) (hb : b < n) (h : ∀ x, x < n → d x = e x) : ∀ x, x < n → rel d a b L x = rel e a b L x := by
  intro x hx
  unfold rel
  rw [h a ha, h b hb]
  split
  · exact u1_congr h x hx
  · split
    · exact u1_congr h x hx
    · exact h x hx
theorem relax_congr {v : Nat → Nat → Nat} {d e : Nat → Nat} {i n : Nat} (ha : v 1 i < n) (hb : v 2 i < n) (h : ∀ x, x < n → d x = e x) : ∀ x, x < n → relax v d i x = relax v e i x := by
  intro x hx
  unfold relax
  split
  · exact rel_congr ha hb h x hx
  · exact h x hx
theorem loudS_le (k b a : Nat) : loudS k b a ≤ 2 * b := by
  unfold loudS
  split
  · omega
  · split
    · omega
    · split <;> omega
theorem bset_f {P : Nat → Bool} {i : Nat} (h : P i = false) : bset P (i + 1) = bset P i := by
  show bset P i + _ = _; rw [h]; rfl
theorem bset_t {P : Nat → Bool} {i : Nat} (h : P i = true) : bset P (i + 1) = bset P i ||| 2 ^ i := by
  rw [bset_or]; show bset P i + _ = _; rw [h]; rfl
theorem and_pow_f {c i : Nat} (h : c &&& 2 ^ i = 0) : c.testBit i = false := by
  have h1 := congrArg (fun z => Nat.testBit z i) h
  simpa [Nat.testBit_and, Nat.testBit_two_pow_self] using h1
theorem and_pow_z {c i : Nat} (h : c.testBit i = false) : c &&& 2 ^ i = 0 := by
  apply Nat.eq_of_testBit_eq
  intro j
  rw [Nat.testBit_and, Nat.zero_testBit]
  by_cases e : i = j
  · rw [← e, h]; rfl
  · rw [Nat.testBit_two_pow_of_ne e]; simp
theorem and_pow_t {c i : Nat} (h : 0 < c &&& 2 ^ i) : c.testBit i = true := by
  cases hb : c.testBit i with
  | true => rfl
  | false => rw [and_pow_z hb] at h; exact absurd h (Nat.lt_irrefl 0)
def bcE (x : Int32) : Int32 :=
  let y1 := x - (((x).toUInt32 >>> ((nI 1).toUInt32 &&& Int32.toUInt32 31)).toInt32 &&& (1431655765 : Int32))
  let y2 := (y1 &&& (858993459 : Int32)) + (((y1).toUInt32 >>> ((nI 2).toUInt32 &&& Int32.toUInt32 31)).toInt32 &&& (858993459 : Int32))
  let y3 := (y2 + ((y2).toUInt32 >>> ((nI 4).toUInt32 &&& Int32.toUInt32 31)).toInt32) &&& (252645135 : Int32)
  let y4 := y3 + ((y3).toUInt32 >>> ((nI 8).toUInt32 &&& Int32.toUInt32 31)).toInt32
  let y5 := y4 + ((y4).toUInt32 >>> ((nI 16).toUInt32 &&& Int32.toUInt32 31)).toInt32
  y5 &&& nI 63
theorem bcE_ok : ∀ a, a < 1024 → bcE (nI a) = nI (pc a) := by decide +kernel
theorem fill_s {d : Nat → Nat} {i x : Nat} (h : ∀ j, j < i → d j = x) : ∀ j, j < i + 1 → u1 d i x j = x := by
  intro j hj
  unfold u1
  split
  · rfl
  · exact h j (by omega)
