theorem rg_no {y : Int32} {a b k : Nat} (h : rg y a b = false) (h1 : a ≤ k) (h2 : k ≤ b) (hk : k < 2 ^ 31) : (y = nI k) = False := by
  refine eq_false fun q => ?_
  rw [q, rg_nI hk, decide_eq_true h1, decide_eq_true h2] at h
  exact absurd h (by decide)
