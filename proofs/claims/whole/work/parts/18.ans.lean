/-! the calls' answers over views, and what they change -/
def cutQ (v : Nat → Nat → Nat) (sm i : Nat) : Bool := !(sm.testBit i) || decide (v 4 i = 0)
theorem cutq_f {v : Nat → Nat → Nat} {sm i : Nat} (h : sm.testBit i = false) : rb (ball (cutQ v sm) (i + 1)) = rb (ball (cutQ v sm) i) := by
  show rb (ball (cutQ v sm) i && cutQ v sm i) = _
  unfold cutQ; rw [h]; simp
theorem cutq_0 {v : Nat → Nat → Nat} {sm i : Nat} (h : ball (cutQ v sm) i = false) : rb (ball (cutQ v sm) (i + 1)) = 0 := by
  show rb (ball (cutQ v sm) i && cutQ v sm i) = _
  rw [h]; rfl
theorem cutq_c {v : Nat → Nat → Nat} {sm i : Nat} (h : sm.testBit i = true) (h2 : v 4 i ≠ 0) : rb (ball (cutQ v sm) (i + 1)) = 0 := by
  show rb (ball (cutQ v sm) i && cutQ v sm i) = _
  unfold cutQ; rw [h, decide_eq_false h2]; simp [rb]
theorem cutq_t {v : Nat → Nat → Nat} {sm i : Nat} (h : ball (cutQ v sm) i = true) (h2 : v 4 i = 0) : rb (ball (cutQ v sm) (i + 1)) = 1 := by
  show rb (ball (cutQ v sm) i && cutQ v sm i) = _
  rw [h]; unfold cutQ; rw [decide_eq_true h2]; simp [rb]
def tn (x : Int32) : Nat := x.toNatClampNeg
theorem tn_nI {k : Nat} (h : k < 2 ^ 31) : tn (nI k) = k := nI_clamp h
theorem pg8 (M : Nat → Nat → Nat) (p : Nat) : pgv M p 8 0 = M 20 0 := rfl
theorem pg83 (M : Nat → Nat → Nat) : pgv M 0 8 3 = M 0 62 := by show M 0 (0 + 62) = _; rw [Nat.zero_add]
def a_book (v : Nat → Nat → Nat) (x y z : Int32) : Int32 := if (rg x 0 23 && ix y (v 8 0) && rg z 1 60) = true then (if v 8 3 = 6 then -3 else nI (v 8 3 + 1)) else -1
def addM (M : Nat → Nat → Nat) (a b c : Nat) : Nat → Nat → Nat := u2 (u2 (u2 (u2 M 0 (44 + M 0 62) a) 0 (50 + M 0 62) b) 0 (56 + M 0 62) c) 0 62 (M 0 62 + 1)
def bookM (M : Nat → Nat → Nat) (x y z : Int32) : Nat → Nat → Nat := if (rg x 0 23 && ix y (M 20 0) && rg z 1 60 && decide (M 0 62 ≠ 6)) = true then addM M (tn x) (tn y) (tn z) else M
theorem a_book_t {v : Nat → Nat → Nat} {x y z : Int32} (h1 : rg x 0 23 = true) (h2 : ix y (v 8 0) = true) (h3 : rg z 1 60 = true) (h4 : v 8 3 ≠ 6) : a_book v x y z = nI (v 8 3 + 1) := by
  unfold a_book; simp [h1, h2, h3, h4]
theorem bookM_t {M : Nat → Nat → Nat} {x y z : Int32} (h1 : rg x 0 23 = true) (h2 : ix y (M 20 0) = true) (h3 : rg z 1 60 = true) (h4 : M 0 62 ≠ 6) : bookM M x y z = addM M (tn x) (tn y) (tn z) := by
  unfold bookM; simp [h1, h2, h3, h4]
def mpl (M : Nat → Nat → Nat) (i : Nat) : Nat := M 8 (2 * i)
def mlo (M : Nat → Nat → Nat) (i : Nat) : Nat := M 8 (2 * i + 1)
theorem ball_0 {P : Nat → Bool} {i : Nat} (h : ball P i = false) : rb (ball P (i + 1)) = 0 := by
  show rb (ball P i && P i) = _
  rw [h]; rfl
theorem ball_c {P : Nat → Bool} {i : Nat} (h : P i = false) : rb (ball P (i + 1)) = 0 := by
  show rb (ball P i && P i) = _
  rw [h]; simp [rb]
theorem ball_tt {P : Nat → Bool} {i : Nat} (h : ball P i = true) (h2 : P i = true) : rb (ball P (i + 1)) = 1 := by
  show rb (ball P i && P i) = _
  rw [h, h2]; rfl
theorem cnt_z {P : Nat → Bool} : ∀ {n : Nat}, cnt P n = 0 ↔ ∀ i, i < n → P i = false := by
  intro n
  induction n with
  | zero => exact ⟨fun _ i h => absurd h (Nat.not_lt_zero i), fun _ => rfl⟩
  | succ n ih =>
    show cnt P n + (if P n then 1 else 0) = 0 ↔ _
    refine ⟨fun h i hi => ?_, fun h => ?_⟩
    · cases hp : P n with
      | true => rw [hp] at h; simp at h
      | false =>
        by_cases e : i = n
        · rw [e]; exact hp
        · exact ih.mp (by omega) i (by omega)
    · rw [h n (by omega), ih.mpr (fun i hi => h i (by omega))]; rfl
theorem lfind_z {P : Nat → Bool} : ∀ {n k : Nat}, 1 ≤ k → (lfind P n k = 0 ↔ ∀ i, i < n → P (k + i) = false) := by
  intro n
  induction n with
  | zero => intro k _; exact ⟨fun _ i h => absurd h (Nat.not_lt_zero i), fun _ => rfl⟩
  | succ n ih =>
    intro k hk
    show (if P k then k else lfind P n (k + 1)) = 0 ↔ _
    cases hp : P k with
    | true =>
      refine ⟨fun h => ?_, fun h => ?_⟩
      · simp at h; omega
      · have := h 0 (by omega); rw [Nat.add_zero, hp] at this; cases this
    | false =>
      rw [if_neg (by decide), ih (by omega)]
      refine ⟨fun h i hi => ?_, fun h i hi => ?_⟩
      · by_cases e : i = 0
        · rw [e]; exact hp
        · have := h (i - 1) (by omega); rw [show k + 1 + (i - 1) = k + i by omega] at this; exact this
      · have := h (i + 1) (by omega); rw [show k + (i + 1) = k + 1 + i by omega] at this; exact this
theorem many_z {v : Nat → Nat → Nat} {t n : Nat} {pl lo : Nat → Nat} : manyS v t n pl lo = 0 ↔ lfind (fun b => fitS v t b n pl lo) 60 1 = 0 := by
  unfold manyS
  rw [cnt_z, lfind_z (Nat.le_refl 1)]
  exact ⟨fun h i hi => by have := h i hi; rw [Nat.add_comm] at this; exact this, fun h i hi => by have := h i hi; rw [Nat.add_comm] at this; exact this⟩
theorem say_m0 {v : Nat → Nat → Nat} {t n : Nat} {pl lo : Nat → Nat} (h : manyS v t n pl lo = 0) : sayP v n pl lo t = false := decide_eq_false (fun q => q (many_z.mp h))
theorem say_m1 {v : Nat → Nat → Nat} {t n : Nat} {pl lo : Nat → Nat} (h : 0 < manyS v t n pl lo) : sayP v n pl lo t = true := decide_eq_true (fun q => by have := many_z.mpr q; omega)
def gcdQ (g l k : Nat) : Prop := (k = 0 ∧ g < 2 ^ 44 ∧ l < 2 ^ 34) ∨ (0 < k ∧ l < g ∧ g * l * 2 ^ k < 2 ^ 90) ∨ l = 0
theorem gcdQ_0 {a b : Nat} (ha : a < 2 ^ 44) (hb : b < 2 ^ 34) : gcdQ a b 0 := Or.inl ⟨rfl, ha, hb⟩
theorem gcdQ_s {g l k : Nat} (hl : 0 < l) (hg1 : g < 2 ^ 44) (hl1 : l < 2 ^ 44) (h : gcdQ g l k) : gcdQ l (g % l) (k + 1) := by
  have hm := Nat.mod_lt g hl
  rcases h with ⟨h1, h2, h3⟩ | ⟨h1, h2, h3⟩ | h
  · refine Or.inr (Or.inl ⟨by omega, hm, ?_⟩)
    subst h1
    have h4 : l * (g % l) < 2 ^ 34 * 2 ^ 34 := Nat.mul_lt_mul'' h3 (Nat.lt_trans hm h3)
    calc l * (g % l) * 2 ^ (0 + 1) < 2 ^ 34 * 2 ^ 34 * 2 ^ (0 + 1) := Nat.mul_lt_mul_of_pos_right h4 (by decide)
      _ < 2 ^ 90 := by decide
  · refine Or.inr (Or.inl ⟨by omega, hm, ?_⟩)
    have h5 : 2 * (g % l) ≤ g := by
      have h6 := Nat.div_add_mod g l
      have h7 : 1 ≤ g / l := Nat.div_pos (by omega) hl
      have h8 : l * 1 ≤ l * (g / l) := Nat.mul_le_mul_left l h7
      omega
    calc l * (g % l) * 2 ^ (k + 1) = l * (2 * (g % l)) * 2 ^ k := by rw [Nat.pow_succ]; ac_rfl
      _ ≤ l * g * 2 ^ k := Nat.mul_le_mul_right _ (Nat.mul_le_mul_left _ h5)
      _ = g * l * 2 ^ k := by rw [Nat.mul_comm l g]
      _ < 2 ^ 90 := h3
  · omega
theorem gcdQ_e {g l k : Nat} (h : gcdQ g l k) (hk : 100 ≤ k) : l = 0 := by
  rcases h with ⟨h1, h2, h3⟩ | ⟨h1, h2, h3⟩ | h
  · omega
  · rcases Nat.eq_zero_or_pos l with h0 | h0
    · exact h0
    · have h4 : 1 ≤ g * l := Nat.mul_pos (by omega) h0
      have h5 : 2 ^ 100 ≤ 2 ^ k := Nat.pow_le_pow_right (by decide) hk
      have h6 : 1 * 2 ^ 100 ≤ g * l * 2 ^ k := Nat.mul_le_mul h4 h5
      have h7 : (2 : Nat) ^ 90 < 1 * 2 ^ 100 := by decide
      omega
  · exact h
theorem cg0 (G : Nat → Nat → Nat) (j : Nat) : cgv G 0 j = G 0 j := rfl
theorem cg1 (G : Nat → Nat → Nat) (j : Nat) : cgv G 1 j = G 1 j := rfl
theorem cg2 (G : Nat → Nat → Nat) (j : Nat) : cgv G 2 j = G 2 j := rfl
theorem cg3 (G : Nat → Nat → Nat) (j : Nat) : cgv G 3 j = G 3 j := rfl
theorem cg5 (G : Nat → Nat → Nat) (j : Nat) : cgv G 5 j = G 5 j := rfl
theorem cg6 (G : Nat → Nat → Nat) (j : Nat) : cgv G 6 j = G 6 j := rfl
theorem cg7 (G : Nat → Nat → Nat) (j : Nat) : cgv G 7 j = G 7 j := rfl
theorem cg8 (G : Nat → Nat → Nat) (j : Nat) : cgv G 8 j = G 8 j := rfl
def a_wind (v : Nat → Nat → Nat) (x : Int32) : Int32 := if rg x 0 20 = true then nI (v 8 2) else -1
def windG (G : Nat → Nat → Nat) (x : Int32) : Nat → Nat → Nat := if rg x 0 20 = true then u2 G 8 2 (tn x) else G
def a_far (v : Nat → Nat → Nat) (x y : Int32) : Int32 := if (ix x (v 8 0) && ix y (v 8 0)) = true then (if dist v (tn x) (tn y) = 1000 then -4 else nI (dist v (tn x) (tn y))) else -1
def a_loud (v : Nat → Nat → Nat) (x y z : Int32) : Int32 := if (ix x (v 8 0) && ix y (v 8 0) && rg z 1 60) = true then nI (loudS (v 0 (tn y)) (tn z) (dist v (tn x) (tn y))) else -1
def a_hears (v : Nat → Nat → Nat) (x y : Int32) : Int32 := if (ix x (v 8 0) && rg y 1 60) = true then nI (hearS v (tn x) (tn y)) else -1
def a_graft (v : Nat → Nat → Nat) (x y : Int32) : Int32 := if (ix x (v 8 0) && rg y 0 3) = true then nI (v 0 (tn x)) else -1
def graftG (G : Nat → Nat → Nat) (x y : Int32) : Nat → Nat → Nat := if (ix x (G 8 0) && rg y 0 3) = true then u2 G 0 (tn x) (tn y) else G
def a_stretch (v : Nat → Nat → Nat) (x y : Int32) : Int32 := if (ix x (v 8 1) && rg y 1 9) = true then nI (v 3 (tn x)) else -1
def stretchG (G : Nat → Nat → Nat) (x y : Int32) : Nat → Nat → Nat := if (ix x (G 8 1) && rg y 1 9) = true then u2 G 3 (tn x) (tn y) else G
def a_drop (v : Nat → Nat → Nat) (x : Int32) : Int32 := if rg x 0 (v 8 3) = true then nI (v 8 3) else -1
def dropG (G : Nat → Nat → Nat) (x : Int32) : Nat → Nat → Nat := if rg x 0 (G 8 3) = true then u2 G 8 3 (tn x) else G
def cutBitsS (v : Nat → Nat → Nat) : Nat := bset (fun i => decide (v 4 i = 1)) (v 8 1)
def a_rule (v : Nat → Nat → Nat) (x : Int32) : Int32 := if x = nI 0 then nI (v 8 0) else if x = nI 1 then nI (v 8 1) else if x = nI 2 then nI (v 8 2) else if x = nI 3 then nI (v 8 3) else if x = nI 4 then nI (cutBitsS v) else if x = nI 5 then nI (crossS v) else -1
def a_tree (v : Nat → Nat → Nat) (x y : Int32) : Int32 := if ix x (v 8 0) = true then (if y = nI 0 then nI (v 0 (tn x)) else if y = nI 1 then nI (cnt (wholeP v (tn x)) (v 8 1)) else if y = nI 2 then nI (bset (reachP v (tn x)) (v 8 0)) else if y = nI 3 then nI (bset (fun k => (heardS v k).testBit (tn x)) (v 8 3)) else -1) else -1
def a_root (v : Nat → Nat → Nat) (x y : Int32) : Int32 := if ix x (v 8 1) = true then (if y = nI 0 then nI (v 1 (tn x)) else if y = nI 1 then nI (v 2 (tn x)) else if y = nI 2 then nI (v 3 (tn x)) else if y = nI 3 then nI (v 4 (tn x)) else -1) else -1
def a_talk (v : Nat → Nat → Nat) (x y : Int32) : Int32 := if ix x (v 8 3) = true then (if y = nI 0 then nI (v 5 (tn x)) else if y = nI 1 then nI (v 6 (tn x)) else if y = nI 2 then nI (v 7 (tn x)) else if y = nI 3 then nI (hearS v (v 6 (tn x)) (v 7 (tn x))) else -1) else -1
def a_grow (v : Nat → Nat → Nat) (x y z : Int32) : Int32 := if (ix x (v 8 0) && ix y (v 8 0) && decide (tn x ≠ tn y) && rg z 1 9) = true then (if v 8 1 < 9 then nI (v 8 1 + 1) else -3) else -1
def addR (G : Nat → Nat → Nat) (a b L : Nat) : Nat → Nat → Nat := u2 (u2 (u2 (u2 G 1 (G 8 1) a) 2 (G 8 1) b) 3 (G 8 1) L) 8 1 (G 8 1 + 1)
def growG (G : Nat → Nat → Nat) (x y z : Int32) : Nat → Nat → Nat := if (ix x (G 8 0) && ix y (G 8 0) && decide (tn x ≠ tn y) && rg z 1 9 && decide (G 8 1 < 9)) = true then addR G (tn x) (tn y) (tn z) else G
def addT (G : Nat → Nat → Nat) (a b L : Nat) : Nat → Nat → Nat := u2 (u2 (u2 (u2 G 5 (G 8 3) a) 6 (G 8 3) b) 7 (G 8 3) L) 8 3 (G 8 3 + 1)
def bookG (G : Nat → Nat → Nat) (x y z : Int32) : Nat → Nat → Nat := if (rg x 0 23 && ix y (G 8 0) && rg z 1 60 && decide (G 8 3 < 6)) = true then addT G (tn x) (tn y) (tn z) else G
def a_shift (v : Nat → Nat → Nat) (x y z : Int32) : Int32 := if ix x (v 8 3) = true then (if y = nI 0 then (if rg z 0 23 = true then nI (v 5 (tn x)) else -1) else if y = nI 1 then (if ix z (v 8 0) = true then nI (v 6 (tn x)) else -1) else if y = nI 2 then (if rg z 1 60 = true then nI (v 7 (tn x)) else -1) else -1) else -1
def shiftG (G : Nat → Nat → Nat) (x y z : Int32) : Nat → Nat → Nat := if ix x (G 8 3) = true then (if y = nI 0 then (if rg z 0 23 = true then u2 G 5 (tn x) (tn z) else G) else if y = nI 1 then (if ix z (G 8 0) = true then u2 G 6 (tn x) (tn z) else G) else if y = nI 2 then (if rg z 1 60 = true then u2 G 7 (tn x) (tn z) else G) else G) else G
def a_crossed (v : Nat → Nat → Nat) (x y : Int32) : Int32 := if (ix x (v 8 3) && ix y (v 8 3) && decide (tn x ≠ tn y)) = true then nI (rb (crossP v (tn x) (tn y))) else -1
def a_least (v : Nat → Nat → Nat) (x y : Int32) : Int32 := if (ix x (v 8 0) && rg y 0 (2 ^ v 8 0 - 1)) = true then orNone (leastS v (tn x) (tn y) (tn y)) else -1
def a_just (v : Nat → Nat → Nat) (x y : Int32) : Int32 := if (ix x (v 8 0) && rg y 0 (2 ^ v 8 0 - 1)) = true then orNone (leastS v (tn x) (tn y) (2 ^ v 8 0 - 1)) else -1
theorem cut_bits {G : Nat → Nat → Nat} (hw : GW G) : cutBitsS (cgv G) = G 4 0 := by
  unfold cutBitsS
  refine (bset_congr fun i _ => ?_).trans (bset_tb hw.2.2.2.2.1)
  show decide ((if 4 = 4 then (if (G 4 0).testBit i then 1 else 0) else G 4 i) = 1) = (G 4 0).testBit i
  cases (G 4 0).testBit i <;> rfl
