/-! the calls' answers over views, and what they change -/
def cutQ (v : Nat → Nat → Nat) (sm i : Nat) : Bool := !(sm.testBit i) || decide (v 4 i = 0)
theorem cutq_f {v : Nat → Nat → Nat} {sm i : Nat} (h : sm.testBit i = false) : rb (ball (cutQ v sm) (i + 1)) = rb (ball (cutQ v sm) i) := by
  show rb (ball (cutQ v sm) i && cutQ v sm i) = _
  unfold cutQ; rw [h]; simp
theorem cutq_0 {v : Nat → Nat → Nat} {sm i : Nat} (h : ball (cutQ v sm) i = false) : rb (ball (cutQ v sm) (i + 1)) = 0 := by
  show rb (ball (cutQ v sm) i && cutQ v sm i) = _
  rw [h]; rfl
theorem cutq_c {v : Nat → Nat → Nat} {sm i : Nat} (h : sm.testBit i = true) (h2 : v 4 i ≠ 0) : rb (ball (cutQ v sm) (i + 1)) = 0 := by
  show rb (ball (cutQ v sm) i && cutQ v sm i) = _
  unfold cutQ; rw [h, decide_eq_false h2]; simp [rb]
theorem cutq_t {v : Nat → Nat → Nat} {sm i : Nat} (h : ball (cutQ v sm) i = true) (h2 : v 4 i = 0) : rb (ball (cutQ v sm) (i + 1)) = 1 := by
  show rb (ball (cutQ v sm) i && cutQ v sm i) = _
  rw [h]; unfold cutQ; rw [decide_eq_true h2]; simp [rb]
def tn (x : Int32) : Nat := x.toNatClampNeg
theorem tn_nI {k : Nat} (h : k < 2 ^ 31) : tn (nI k) = k := nI_clamp h
theorem pg8 (M : Nat → Nat → Nat) (p : Nat) : pgv M p 8 0 = M 20 0 := rfl
theorem pg83 (M : Nat → Nat → Nat) : pgv M 0 8 3 = M 0 62 := by show M 0 (0 + 62) = _; rw [Nat.zero_add]
def a_book (v : Nat → Nat → Nat) (x y z : Int32) : Int32 := if (rg x 0 23 && ix y (v 8 0) && rg z 1 60) = true then (if v 8 3 = 6 then -3 else nI (v 8 3 + 1)) else -1
def addM (M : Nat → Nat → Nat) (a b c : Nat) : Nat → Nat → Nat := u2 (u2 (u2 (u2 M 0 (44 + M 0 62) a) 0 (50 + M 0 62) b) 0 (56 + M 0 62) c) 0 62 (M 0 62 + 1)
def bookM (M : Nat → Nat → Nat) (x y z : Int32) : Nat → Nat → Nat := if (rg x 0 23 && ix y (M 20 0) && rg z 1 60 && decide (M 0 62 ≠ 6)) = true then addM M (tn x) (tn y) (tn z) else M
theorem a_book_t {v : Nat → Nat → Nat} {x y z : Int32} (h1 : rg x 0 23 = true) (h2 : ix y (v 8 0) = true) (h3 : rg z 1 60 = true) (h4 : v 8 3 ≠ 6) : a_book v x y z = nI (v 8 3 + 1) := by
  unfold a_book; simp [h1, h2, h3, h4]
theorem bookM_t {M : Nat → Nat → Nat} {x y z : Int32} (h1 : rg x 0 23 = true) (h2 : ix y (M 20 0) = true) (h3 : rg z 1 60 = true) (h4 : M 0 62 ≠ 6) : bookM M x y z = addM M (tn x) (tn y) (tn z) := by
  unfold bookM; simp [h1, h2, h3, h4]
