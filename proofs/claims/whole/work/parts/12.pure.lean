/-! plain facts -/
def inI (x lo hi : Int32) : Bool := decide (lo ≤ x) && decide (x ≤ hi)
def rg (x : Int32) (lo hi : Nat) : Bool := decide ((lo : Int) ≤ x.toInt) && decide (x.toInt ≤ (hi : Int))
def ix (x : Int32) (n : Nat) : Bool := decide (0 ≤ x.toInt) && decide (x.toInt < (n : Int))
theorem inI_rg (x : Int32) {a b : Nat} (ha : a < 2 ^ 31) (hb : b < 2 ^ 31) : inI x (nI a) (nI b) = rg x a b := by
  unfold inI rg
  rw [decide_eq_decide.mpr (show (nI a ≤ x) ↔ ((a : Int) ≤ x.toInt) by rw [Int32.le_iff_toInt_le, nI_toInt ha]), decide_eq_decide.mpr (show (x ≤ nI b) ↔ (x.toInt ≤ (b : Int)) by rw [Int32.le_iff_toInt_le, nI_toInt hb])]
theorem nI_m1 {n : Nat} (hn : n < 2 ^ 31) : (nI n - nI 1).toInt = (n : Int) - 1 := by
  by_cases h : n = 0
  · subst h; decide
  · rw [pk_sub (by omega), nI_toInt (by omega)]; omega
theorem inI_ix (x : Int32) {n : Nat} (hn : n < 2 ^ 31) : inI x (nI 0) (nI n - nI 1) = ix x n := by
  unfold inI ix
  rw [decide_eq_decide.mpr (show (nI 0 ≤ x) ↔ ((0 : Int) ≤ x.toInt) by rw [Int32.le_iff_toInt_le, nI_toInt (by decide)]; exact Iff.rfl), decide_eq_decide.mpr (show (x ≤ nI n - nI 1) ↔ (x.toInt < (n : Int)) by rw [Int32.le_iff_toInt_le, nI_m1 hn]; omega)]
theorem ix_sp {x : Int32} {n : Nat} (h : ix x n = true) : ∃ k : Nat, k < n ∧ x = nI k := by
  unfold ix at h
  simp only [Bool.and_eq_true, decide_eq_true_eq] at h
  have h9 := Int32.toInt_lt x
  refine ⟨x.toInt.toNat, by omega, Int32.toInt_inj.mp ?_⟩
  rw [nI_toInt (by omega)]; omega
theorem ix_nI {k n : Nat} (hk : k < 2 ^ 31) : ix (nI k) n = decide (k < n) := by
  unfold ix
  rw [nI_toInt hk]
  by_cases h : k < n
  · simp [h]
  · simp [h]
theorem rg_sp {x : Int32} {a b : Nat} (h : rg x a b = true) : ∃ k : Nat, a ≤ k ∧ k ≤ b ∧ k < 2 ^ 31 ∧ x = nI k := by
  unfold rg at h
  simp only [Bool.and_eq_true, decide_eq_true_eq] at h
  have h9 := Int32.toInt_lt x
  refine ⟨x.toInt.toNat, by omega, by omega, by omega, Int32.toInt_inj.mp ?_⟩
  rw [nI_toInt (by omega)]; omega
theorem rg_nI {k a b : Nat} (hk : k < 2 ^ 31) : rg (nI k) a b = (decide (a ≤ k) && decide (k ≤ b)) := by
  unfold rg
  rw [nI_toInt hk]
  by_cases h : a ≤ k <;> by_cases h2 : k ≤ b <;> simp [h, h2]
