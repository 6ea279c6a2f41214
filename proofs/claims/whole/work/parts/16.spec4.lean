/-! the reference's pages as views -/
def inL (x lo hi : Int64) : Bool := decide (lo ≤ x) && decide (x ≤ hi)
theorem inL_inI (x lo hi : Int32) : inL x.toInt64 lo.toInt64 hi.toInt64 = inI x lo hi := by
  unfold inL inI
  have h : ∀ a b : Int32, (a.toInt64 ≤ b.toInt64) ↔ a ≤ b := fun a b => by rw [Int64.le_iff_toInt_le, Int32.le_iff_toInt_le, Int32.toInt_toInt64, Int32.toInt_toInt64]
  rw [decide_eq_decide.mpr (h lo x), decide_eq_decide.mpr (h x hi)]
theorem inL_ix (x : Int32) {n : Nat} (hn : n < 2 ^ 31) : inL x.toInt64 (lN 0) (nI n - nI 1).toInt64 = ix x n := by rw [← inI_ix x hn, ← inL_inI]; rfl
theorem inL_rg (x : Int32) {a b : Nat} (ha : a < 2 ^ 31) (hb : b < 2 ^ 31) : inL x.toInt64 (lN a) (lN b) = rg x a b := by rw [← inI_rg x ha hb, ← inL_inI, nI_l ha, nI_l hb]
theorem inL_rgN (x : Int32) {b : Nat} (hb : b < 2 ^ 31) : inL x.toInt64 (lN 0) (lN b) = rg x 0 b := inL_rg x (by decide) hb
def pgv (M : Nat → Nat → Nat) (p : Nat) : Nat → Nat → Nat := fun f j => if f = 0 then M 0 (p + j) else if f = 1 then M 0 (p + 6 + j) else if f = 2 then M 0 (p + 15 + j) else if f = 3 then M 0 (p + 24 + j) else if f = 4 then M 0 (p + 33 + j) else if f = 5 then M 0 (p + 44 + j) else if f = 6 then M 0 (p + 50 + j) else if f = 7 then M 0 (p + 56 + j) else if j = 0 then M 20 0 else if j = 1 then M 0 (p + 42) else if j = 2 then M 0 (p + 43) else M 0 (p + 62)
def VW (v : Nat → Nat → Nat) : Prop := v 8 0 ≤ 6 ∧ v 8 1 ≤ 9 ∧ v 8 2 ≤ 20 ∧ v 8 3 ≤ 6 ∧ (∀ t, t < v 8 0 → v 0 t ≤ 3) ∧ (∀ i, i < v 8 1 → v 1 i < v 8 0 ∧ v 2 i < v 8 0 ∧ v 1 i ≠ v 2 i ∧ 1 ≤ v 3 i ∧ v 3 i ≤ 9 ∧ v 4 i ≤ 1) ∧ (∀ k, k < v 8 3 → v 5 k ≤ 23 ∧ v 6 k < v 8 0 ∧ 1 ≤ v 7 k ∧ v 7 k ≤ 60)
theorem dz_s1 {w1 : Nat → Nat} {i t : Nat} (c : i = t) (h : ∀ j, j < i → w1 j = dz t j) : ∀ j, j < i + 1 → u1 w1 i 0 j = dz t j := by
  intro j hj
  unfold u1
  split
  · subst_vars; exact (if_pos rfl).symm
  · exact h j (by omega)
theorem dz_s0 {w1 : Nat → Nat} {i t : Nat} (c : i ≠ t) (h : ∀ j, j < i → w1 j = dz t j) : ∀ j, j < i + 1 → u1 w1 i 1000 j = dz t j := by
  intro j hj
  unfold u1
  split
  · subst_vars; exact (if_neg c).symm
  · exact h j (by omega)
theorem u1_id (d : Nat → Nat) (i : Nat) : u1 d i (d i) = d := by
  funext j
  unfold u1
  split
  · subst_vars; rfl
  · rfl
theorem mrel {v : Nat → Nat → Nat} {w2 w' E : Nat → Nat} {i A B L : Nat} (hA : A < 6) (hB : B < 6) (e1 : v 1 i = A) (e2 : v 2 i = B) (e3 : v 3 i = L) (hd : ∀ x, x < 6 → w2 x = relaxTo v E i x) (h : w' = if v 4 i = 0 then rel w2 A B L else w2) : ∀ x, x < 6 → w' x = relaxTo v E (i + 1) x := by
  intro x hx
  show _ = relax v (relaxTo v E i) i x
  unfold relax
  rw [h]
  by_cases h0 : v 4 i = 0
  · rw [if_pos h0, if_pos h0, e1, e2, e3]; exact rel_congr hA hB hd x hx
  · rw [if_neg h0, if_neg h0]; exact hd x hx
theorem mr_0 {v4 A B L : Nat} {w : Nat → Nat} (h : 0 < v4) : u1 (u1 w A (w A)) B ((u1 w A (w A)) B) = if v4 = 0 then rel w A B L else w := by
  rw [if_neg (by omega), u1_id, u1_id]
theorem mr_1 {v4 A B L : Nat} {w w' : Nat → Nat} (h : v4 = 0) (h2 : w' = rel w A B L) : w' = if v4 = 0 then rel w A B L else w := by
  rw [if_pos h, h2]
theorem mr_ff {A B L : Nat} {w : Nat → Nat} (h1 : w A ≤ w B + L) (h2 : (u1 w A (w A)) B ≤ w A + L) : u1 (u1 w A (w A)) B ((u1 w A (w A)) B) = rel w A B L := by
  rw [u1_id] at h2
  rw [u1_id, u1_id]; unfold rel; rw [if_neg (by omega), if_neg (by omega)]
theorem mr_ft {A B L : Nat} {w : Nat → Nat} (h1 : w A ≤ w B + L) (h2 : w A + L < (u1 w A (w A)) B) : u1 (u1 w A (w A)) B (w A + L) = rel w A B L := by
  rw [u1_id] at h2
  rw [u1_id]; unfold rel; rw [if_neg (by omega), if_pos (by omega)]
theorem mr_tf {A B L : Nat} {w : Nat → Nat} (hn : A ≠ B) (h1 : w B + L < w A) (h2 : (u1 w A (w B + L)) B ≤ w B + L + L) : u1 (u1 w A (w B + L)) B ((u1 w A (w B + L)) B) = rel w A B L := by
  rw [u1_id]; unfold rel; rw [if_pos (by omega)]
theorem mr_tt {A B L : Nat} {w w' : Nat → Nat} (hn : A ≠ B) (h1 : w B + L < w A) (h2 : w B + L + L < (u1 w A (w B + L)) B) : w' = rel w A B L := by
  rw [u1_n _ _ hn.symm] at h2
  omega
