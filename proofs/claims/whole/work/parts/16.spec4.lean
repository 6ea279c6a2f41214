/-! the reference's pages as views -/
def inL (x lo hi : Int64) : Bool := decide (lo ≤ x) && decide (x ≤ hi)
theorem inL_inI (x lo hi : Int32) : inL x.toInt64 lo.toInt64 hi.toInt64 = inI x lo hi := by
  unfold inL inI
  have h : ∀ a b : Int32, (a.toInt64 ≤ b.toInt64) ↔ a ≤ b := fun a b => by rw [Int64.le_iff_toInt_le, Int32.le_iff_toInt_le, Int32.toInt_toInt64, Int32.toInt_toInt64]
  rw [decide_eq_decide.mpr (h lo x), decide_eq_decide.mpr (h x hi)]
theorem inL_ix (x : Int32) {n : Nat} (hn : n < 2 ^ 31) : inL x.toInt64 (lN 0) (nI n - nI 1).toInt64 = ix x n := by rw [← inI_ix x hn, ← inL_inI]; rfl
theorem inL_rg (x : Int32) {a b : Nat} (ha : a < 2 ^ 31) (hb : b < 2 ^ 31) : inL x.toInt64 (lN a) (lN b) = rg x a b := by rw [← inI_rg x ha hb, ← inL_inI, nI_l ha, nI_l hb]
theorem inL_rgN (x : Int32) {b : Nat} (hb : b < 2 ^ 31) : inL x.toInt64 (lN 0) (lN b) = rg x 0 b := inL_rg x (by decide) hb
def pgv (M : Nat → Nat → Nat) (p : Nat) : Nat → Nat → Nat := fun f j => if f = 0 then M 0 (p + j) else if f = 1 then M 0 (p + 6 + j) else if f = 2 then M 0 (p + 15 + j) else if f = 3 then M 0 (p + 24 + j) else if f = 4 then M 0 (p + 33 + j) else if f = 5 then M 0 (p + 44 + j) else if f = 6 then M 0 (p + 50 + j) else if f = 7 then M 0 (p + 56 + j) else if j = 0 then M 20 0 else if j = 1 then M 0 (p + 42) else if j = 2 then M 0 (p + 43) else M 0 (p + 62)
def VW (v : Nat → Nat → Nat) : Prop := v 8 0 ≤ 6 ∧ v 8 1 ≤ 9 ∧ v 8 2 ≤ 20 ∧ v 8 3 ≤ 6 ∧ (∀ t, t < v 8 0 → v 0 t ≤ 3) ∧ (∀ i, i < v 8 1 → v 1 i < v 8 0 ∧ v 2 i < v 8 0 ∧ v 1 i ≠ v 2 i ∧ 1 ≤ v 3 i ∧ v 3 i ≤ 9 ∧ v 4 i ≤ 1) ∧ (∀ k, k < v 8 3 → v 5 k ≤ 23 ∧ v 6 k < v 8 0 ∧ 1 ≤ v 7 k ∧ v 7 k ≤ 60)
theorem dz_s1 {w1 : Nat → Nat} {i t : Nat} (c : i = t) (h : ∀ j, j < i → w1 j = dz t j) : ∀ j, j < i + 1 → u1 w1 i 0 j = dz t j := by
  intro j hj
  unfold u1
  split
  · subst_vars; exact (if_pos rfl).symm
  · exact h j (by omega)
theorem dz_s0 {w1 : Nat → Nat} {i t : Nat} (c : i ≠ t) (h : ∀ j, j < i → w1 j = dz t j) : ∀ j, j < i + 1 → u1 w1 i 1000 j = dz t j := by
  intro j hj
  unfold u1
  split
  · subst_vars; exact (if_neg c).symm
  · exact h j (by omega)
theorem u1_id (d : Nat → Nat) (i : Nat) : u1 d i (d i) = d := by
  funext j
  unfold u1
  split
  · subst_vars; rfl
  · rfl
theorem mrel {v : Nat → Nat → Nat} {w2 w' E : Nat → Nat} {i A B L : Nat} (hA : A < 6) (hB : B < 6) (e1 : v 1 i = A) (e2 : v 2 i = B) (e3 : v 3 i = L) (hd : ∀ x, x < 6 → w2 x = relaxTo v E i x) (h : w' = if v 4 i = 0 then rel w2 A B L else w2) : ∀ x, x < 6 → w' x = relaxTo v E (i + 1) x := by
  intro x hx
  show _ = relax v (relaxTo v E i) i x
  unfold relax
  rw [h]
  by_cases h0 : v 4 i = 0
  · rw [if_pos h0, if_pos h0, e1, e2, e3]; exact rel_congr hA hB hd x hx
  · rw [if_neg h0, if_neg h0]; exact hd x hx
theorem mr_0 {v4 A B L : Nat} {w : Nat → Nat} (h : 0 < v4) : u1 (u1 w A (w A)) B ((u1 w A (w A)) B) = if v4 = 0 then rel w A B L else w := by
  rw [if_neg (by omega), u1_id, u1_id]
theorem mr_1 {v4 A B L : Nat} {w w' : Nat → Nat} (h : v4 = 0) (h2 : w' = rel w A B L) : w' = if v4 = 0 then rel w A B L else w := by
  rw [if_pos h, h2]
theorem mr_ff {A B L : Nat} {w : Nat → Nat} (h1 : w A ≤ w B + L) (h2 : (u1 w A (w A)) B ≤ w A + L) : u1 (u1 w A (w A)) B ((u1 w A (w A)) B) = rel w A B L := by
  rw [u1_id] at h2
  rw [u1_id, u1_id]; unfold rel; rw [if_neg (by omega), if_neg (by omega)]
theorem mr_ft {A B L : Nat} {w : Nat → Nat} (h1 : w A ≤ w B + L) (h2 : w A + L < (u1 w A (w A)) B) : u1 (u1 w A (w A)) B (w A + L) = rel w A B L := by
  rw [u1_id] at h2
  rw [u1_id]; unfold rel; rw [if_neg (by omega), if_pos (by omega)]
theorem mr_tf {A B L : Nat} {w : Nat → Nat} (hn : A ≠ B) (h1 : w B + L < w A) (h2 : (u1 w A (w B + L)) B ≤ w B + L + L) : u1 (u1 w A (w B + L)) B ((u1 w A (w B + L)) B) = rel w A B L := by
  rw [u1_id]; unfold rel; rw [if_pos (by omega)]
theorem mr_tt {A B L : Nat} {w w' : Nat → Nat} (hn : A ≠ B) (h1 : w B + L < w A) (h2 : w B + L + L < (u1 w A (w B + L)) B) : w' = rel w A B L := by
  rw [u1_n _ _ hn.symm] at h2
  omega
theorem bits_k {x lf k : Nat} (hx : x < 1024) (h : lf = x / 2 ^ k) (hl : 0 < lf) : k + 1 ≤ 10 := by
  rcases Nat.lt_or_ge k 10 with h1 | h1
  · omega
  · have h2 : 2 ^ 10 ≤ 2 ^ k := Nat.pow_le_pow_right (by decide) h1
    have h3 : x / 2 ^ k = 0 := Nat.div_eq_of_lt (by omega)
    omega
theorem bits_n (x k : Nat) : cnt (fun j => x.testBit j) k + (x / 2 ^ k &&& 1) = cnt (fun j => x.testBit j) (k + 1) := by
  show _ = cnt (fun j => x.testBit j) k + (if x.testBit k then 1 else 0)
  rw [Nat.and_one_is_mod, Nat.testBit_eq_decide_div_mod_eq]
  congr 1
  by_cases h : x / 2 ^ k % 2 = 1
  · simp [h]
  · simp [h]; omega
theorem cnt_tail {P : Nat → Bool} {k : Nat} (h : ∀ j, k ≤ j → P j = false) : ∀ n, cnt P (k + n) = cnt P k := by
  intro n
  induction n with
  | zero => rfl
  | succ n ih => show cnt P (k + n) + (if P (k + n) then 1 else 0) = _; rw [h (k + n) (by omega), ih]; rfl
theorem bits_e {x lf k : Nat} (hk : k ≤ 10) (h : lf = x / 2 ^ k) (hl : lf = 0) : pc x = cnt (fun j => x.testBit j) k := by
  have h1 : x < 2 ^ k := by
    rcases Nat.lt_or_ge x (2 ^ k) with h2 | h2
    · exact h2
    · have := Nat.div_pos h2 (Nat.two_pow_pos k); omega
  have h2 := cnt_tail (P := fun j => x.testBit j) (k := k) (fun j hj => Nat.testBit_lt_two_pow (Nat.lt_of_lt_of_le h1 (Nat.pow_le_pow_right (by decide) hj))) (10 - k)
  rw [show k + (10 - k) = 10 by omega] at h2
  exact h2
theorem mcross_1 {v : Nat → Nat → Nat} {i j : Nat} (h : v 5 i ≠ v 5 j) : crossP v i j = false := by unfold crossP; rw [decide_eq_false h]; rfl
theorem mcross_2 {v : Nat → Nat → Nat} {e : Nat → Nat} {i j : Nat} (hi : e i = heardS v i) (hj : e j = heardS v j) (h : e i &&& e j = 0) : crossP v i j = false := by
  unfold crossP; rw [← hi, ← hj, h]; simp
theorem mcross_3 {v : Nat → Nat → Nat} {e : Nat → Nat} {i j : Nat} (hi : e i = heardS v i) (hj : e j = heardS v j) (h1 : v 5 i = v 5 j) (h : 0 < e i &&& e j) : crossP v i j = true := by
  unfold crossP; rw [← hi, ← hj, h1, decide_eq_true (show e i &&& e j ≠ 0 by omega)]; simp
/-- n places from p on, put at q -/
def pcopy (r : Nat → Nat) (p q n : Nat) : Nat → Nat := fun j => if q ≤ j ∧ j < q + n then r (p + (j - q)) else r j
theorem pcopy_0 (r : Nat → Nat) (p q : Nat) : pcopy r p q 0 = r := by
  funext j
  exact if_neg (by omega)
theorem pcopy_out {r : Nat → Nat} {p q n j : Nat} (h : j < q ∨ q + n ≤ j) : pcopy r p q n j = r j := if_neg (by omega)
theorem pcopy_in {r : Nat → Nat} {p q n j : Nat} (h : j < n) : pcopy r p q n (q + j) = r (p + j) := by
  unfold pcopy
  rw [if_pos (by omega), Nat.add_sub_cancel_left]
theorem pcopy_s {r : Nat → Nat} {p q n : Nat} (h : p + n < q ∨ q + n ≤ p + n) : u1 (pcopy r p q n) (q + n) (pcopy r p q n (p + n)) = pcopy r p q (n + 1) := by
  rw [pcopy_out (j := p + n) (by omega)]
  funext j
  unfold u1 pcopy
  by_cases h1 : j = q + n
  · subst h1
    rw [if_pos rfl, if_pos (by omega), Nat.add_sub_cancel_left]
  · rw [if_neg h1]
    by_cases h2 : q ≤ j ∧ j < q + n
    · rw [if_pos h2, if_pos (by omega)]
    · rw [if_neg h2, if_neg (by omega)]
