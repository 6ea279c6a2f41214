/-! bits and all of some -/
theorem tb_bset (P : Nat → Bool) : ∀ n j, (bset P n).testBit j = (decide (j < n) && P j) := by
  intro n
  induction n with
  | zero => intro j; show (0 : Nat).testBit j = _; rw [Nat.zero_testBit]; rfl
  | succ n ih =>
    intro j
    show (bset P n + _).testBit j = _
    cases hp : P n with
    | true =>
      rw [if_pos rfl, ← bset_or, Nat.testBit_or, ih]
      by_cases e : j = n
      · subst e; rw [Nat.testBit_two_pow_self, hp]; simp
      · rw [Nat.testBit_two_pow_of_ne (Ne.symm e), Bool.or_false]
        congr 1
        exact decide_eq_decide.mpr ⟨fun h => by omega, fun h => by omega⟩
    | false =>
      rw [if_neg (by decide), Nat.add_zero, ih]
      by_cases e : j = n
      · subst e; rw [hp]; simp
      · congr 1
        exact decide_eq_decide.mpr ⟨fun h => by omega, fun h => by omega⟩
theorem bset_tb {x r : Nat} (h : x < 2 ^ r) : bset (fun i => x.testBit i) r = x := by
  apply Nat.eq_of_testBit_eq
  intro j
  rw [tb_bset]
  by_cases e : j < r
  · rw [decide_eq_true e]; rfl
  · rw [decide_eq_false e, Nat.testBit_lt_two_pow (Nat.lt_of_lt_of_le h (Nat.pow_le_pow_right (by decide) (by omega)))]; rfl
theorem ball_all {P : Nat → Bool} : ∀ {n : Nat}, ball P n = true → ∀ i, i < n → P i = true := by
  intro n
  induction n with
  | zero => intro _ i hi; omega
  | succ n ih =>
    intro h i hi
    have h' : (ball P n && P n) = true := h
    rw [Bool.and_eq_true] at h'
    by_cases e : i = n
    · rw [e]; exact h'.2
    · exact ih h'.1 i (by omega)
theorem ball_mk {P : Nat → Bool} : ∀ {n : Nat}, (∀ i, i < n → P i = true) → ball P n = true := by
  intro n
  induction n with
  | zero => intro _; rfl
  | succ n ih => intro h; show (ball P n && P n) = true; rw [ih (fun i hi => h i (by omega)), h n (by omega)]; rfl
