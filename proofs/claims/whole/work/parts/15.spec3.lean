/-! what was seen, sheets: plain facts -/
def ball (P : Nat → Bool) : Nat → Bool
  | 0 => true
  | i + 1 => ball P i && P i
theorem ball_t {P : Nat → Bool} {i : Nat} (h : ball P i = true) (h2 : P i = true) : ball P (i + 1) = true := by show (ball P i && P i) = true; rw [h, h2]; rfl
theorem ball_f {P : Nat → Bool} {i : Nat} (h2 : P i = false) : ∀ {n : Nat}, i < n → ball P n = false := by
  intro n
  induction n with
  | zero => intro h; exact absurd h (Nat.not_lt_zero _)
  | succ n ih =>
    intro h
    show (ball P n && P n) = false
    by_cases e : i = n
    · subst e; rw [h2]; simp
    · rw [ih (by omega)]; rfl
theorem ball_congr {P Q : Nat → Bool} : ∀ {n : Nat}, (∀ i, i < n → P i = Q i) → ball P n = ball Q n := by
  intro n
  induction n with
  | zero => intro _; rfl
  | succ n ih => intro h; show (ball P n && P n) = (ball Q n && Q n); rw [ih (fun i hi => h i (by omega)), h n (by omega)]
def fitP (v : Nat → Nat → Nat) (d : Nat → Nat) (b : Nat) (pl lo : Nat → Nat) (i : Nat) : Bool := decide (loudS (v 0 (pl i)) b (d (pl i)) = lo i)
def fitW (v : Nat → Nat → Nat) (d : Nat → Nat) (b n : Nat) (pl lo : Nat → Nat) : Bool := ball (fitP v d b pl lo) n
def fitS (v : Nat → Nat → Nat) (t b n : Nat) (pl lo : Nat → Nat) : Bool := fitW v (dist v t) b n pl lo
def manyS (v : Nat → Nat → Nat) (t n : Nat) (pl lo : Nat → Nat) : Nat := cnt (fun j => fitS v t (j + 1) n pl lo) 60
def sayP (v : Nat → Nat → Nat) (n : Nat) (pl lo : Nat → Nat) (t : Nat) : Bool := decide (lfind (fun b => fitS v t b n pl lo) 60 1 ≠ 0)
def sayS (v : Nat → Nat → Nat) (n : Nat) (pl lo : Nat → Nat) : Nat := bset (sayP v n pl lo) (v 8 0)
theorem many_s {P : Nat → Bool} {i : Nat} (h : 1 ≤ i) : cnt P (i + 1 - 1) = cnt P (i - 1 + 1) := by rw [show i + 1 - 1 = i - 1 + 1 by omega]
theorem many_p {f : Nat → Bool} {i : Nat} (h : 1 ≤ i) {b : Bool} (hf : f i = b) : (fun j => f (j + 1)) (i - 1) = b := by show f (i - 1 + 1) = b; rw [show i - 1 + 1 = i by omega]; exact hf
theorem lfind_le (P : Nat → Bool) : ∀ n k, lfind P n k < n + k ∨ lfind P n k = 0 := by
  intro n
  induction n with
  | zero => intro k; exact Or.inr rfl
  | succ n ih =>
    intro k
    show (if P k then k else lfind P n (k + 1)) < _ ∨ (if P k then k else lfind P n (k + 1)) = 0
    split
    · exact Or.inl (by omega)
    · rcases ih (k + 1) with h | h
      · exact Or.inl (by omega)
      · exact Or.inr h
theorem orNone_4 {n : Nat} (hn : n < 2 ^ 31) : orNone n = -4 ↔ n = 0 := by
  unfold orNone
  by_cases h : n = 0
  · simp [h]
  · rw [if_neg h]
    refine ⟨fun q => ?_, fun q => absurd q h⟩
    have h1 := congrArg Int32.toInt q
    rw [nI_toInt hn] at h1
    have h2 : (-4 : Int32).toInt = -4 := by decide
    omega
theorem say_lt (P : Nat → Bool) : lfind P 60 1 < 2 ^ 31 := by rcases lfind_le P 60 1 with h | h <;> omega
theorem say_f {v : Nat → Nat → Nat} {t n : Nat} {pl lo : Nat → Nat} (h : orNone (lfind (fun b => fitS v t b n pl lo) 60 1) = -4) : sayP v n pl lo t = false := decide_eq_false (fun q => q ((orNone_4 (say_lt _)).mp h))
theorem say_t {v : Nat → Nat → Nat} {t n : Nat} {pl lo : Nat → Nat} (h : ¬ orNone (lfind (fun b => fitS v t b n pl lo) 60 1) = -4) : sayP v n pl lo t = true := decide_eq_true (fun q => h ((orNone_4 (say_lt _)).mpr q))
/-- how many are left at the worst: the row of counts, and the greatest -/
def lwB (v : Nat → Nat → Nat) (x n : Nat) (pl lo : Nat → Nat) (t : Nat) : Nat → (Nat → Nat) × Nat → (Nat → Nat) × Nat
  | 0, s => s
  | b + 1, s =>
    let s1 := lwB v x n pl lo t b s
    if fitS v t (b + 1) n pl lo then
      let k := loudS (v 0 x) (b + 1) (dist v t x)
      (u1 s1.1 k (s1.1 k + 1), max s1.2 (u1 s1.1 k (s1.1 k + 1) k))
    else s1
def lwT (v : Nat → Nat → Nat) (x n : Nat) (pl lo : Nat → Nat) : Nat → (Nat → Nat) × Nat
  | 0 => (fun _ => 0, 0)
  | t + 1 => lwB v x n pl lo t 60 (lwT v x n pl lo t)
theorem lw_f {v : Nat → Nat → Nat} {x n j i m2 : Nat} {pl lo l2 : Nat → Nat} {s : (Nat → Nat) × Nat} (hj : 1 ≤ j) (h : fitS v i j n pl lo = false) (hf : (l2, m2) = lwB v x n pl lo i (j - 1) s) : (l2, m2) = lwB v x n pl lo i (j + 1 - 1) s := by
  obtain ⟨k, rfl⟩ : ∃ k, j = k + 1 := ⟨j - 1, by omega⟩
  show _ = lwB v x n pl lo i (k + 1) s
  unfold lwB
  rw [if_neg (by rw [h]; decide)]
  exact hf
theorem lw_t {v : Nat → Nat → Nat} {x n j i m2 : Nat} {pl lo l2 : Nat → Nat} {s : (Nat → Nat) × Nat} (hj : 1 ≤ j) (h : fitS v i j n pl lo = true) (hf : (l2, m2) = lwB v x n pl lo i (j - 1) s) : (u1 l2 (loudS (v 0 x) j (dist v i x)) (l2 (loudS (v 0 x) j (dist v i x)) + 1), max m2 (u1 l2 (loudS (v 0 x) j (dist v i x)) (l2 (loudS (v 0 x) j (dist v i x)) + 1) (loudS (v 0 x) j (dist v i x)))) = lwB v x n pl lo i (j + 1 - 1) s := by
  obtain ⟨k, rfl⟩ : ∃ k, j = k + 1 := ⟨j - 1, by omega⟩
  show _ = lwB v x n pl lo i (k + 1) s
  unfold lwB
  rw [if_pos h]
  rw [show k + 1 - 1 = k by omega] at hf
  rw [← hf]
def fc (x : Int32) (n m : Nat) : Bool := decide (0 ≤ x.toInt) && decide (x.toInt + m ≤ n)
theorem inI_fc (x : Int32) {n m : Nat} (hn : n < 2 ^ 30) (hm : m < 2 ^ 30) : inI x (nI 0) (nI n - nI m) = fc x n m := by
  unfold inI fc
  rw [decide_eq_decide.mpr (show (nI 0 ≤ x) ↔ ((0 : Int) ≤ x.toInt) by rw [Int32.le_iff_toInt_le, nI_toInt (by decide)]; exact Iff.rfl), decide_eq_decide.mpr (show (x ≤ nI n - nI m) ↔ (x.toInt + (m : Int) ≤ (n : Int)) by rw [Int32.le_iff_toInt_le, pk_sub_toInt hn hm]; omega)]
theorem fill_si {d : Nat → Int32} {i : Nat} {x : Int32} (h : ∀ j, j < i → d j = x) : ∀ j, j < i + 1 → upd d i x j = x := by
  intro j hj
  unfold upd
  split
  · rfl
  · exact h j (by omega)
def narr (ln x : Int32) : Int32 := if ln = nI 0 then x.toInt8.toInt32 else if ln = nI 1 then x.toInt16.toInt32 else x
theorem narr_0 {ln x : Int32} (h : ln = nI 0) : narr ln x = x.toInt8.toInt32 := if_pos h
theorem narr_1 {ln x : Int32} (h0 : ¬ ln = nI 0) (h : ln = nI 1) : narr ln x = x.toInt16.toInt32 := by unfold narr; rw [if_neg h0, if_pos h]
theorem narr_2 {ln x : Int32} (h0 : ¬ ln = nI 0) (h : ¬ ln = nI 1) : narr ln x = x := by unfold narr; rw [if_neg h0, if_neg h]
theorem lwB_bd {v : Nat → Nat → Nat} {x n t B : Nat} {pl lo : Nat → Nat} {s : (Nat → Nat) × Nat} (h : (∀ k, s.1 k ≤ B) ∧ s.2 ≤ B) : ∀ b, (∀ k, (lwB v x n pl lo t b s).1 k ≤ B + b) ∧ (lwB v x n pl lo t b s).2 ≤ B + b := by
  intro b
  induction b with
  | zero => exact h
  | succ b ih =>
    unfold lwB
    split
    · refine ⟨fun k => ?_, ?_⟩
      · show u1 _ _ _ k ≤ _
        unfold u1
        split
        · have := ih.1 (loudS (v 0 x) (b + 1) (dist v t x)); omega
        · have := ih.1 k; omega
      · show max _ _ ≤ _
        rw [u1_s]
        have := ih.1 (loudS (v 0 x) (b + 1) (dist v t x))
        have := ih.2
        omega
    · exact ⟨fun k => Nat.le_trans (ih.1 k) (by omega), Nat.le_trans ih.2 (by omega)⟩
theorem lwT_bd (v : Nat → Nat → Nat) (x n : Nat) (pl lo : Nat → Nat) : ∀ t, (∀ k, (lwT v x n pl lo t).1 k ≤ 60 * t) ∧ (lwT v x n pl lo t).2 ≤ 60 * t := by
  intro t
  induction t with
  | zero => exact ⟨fun k => Nat.le_refl 0, Nat.le_refl 0⟩
  | succ t ih => exact lwB_bd ih 60
theorem lw_bd {v : Nat → Nat → Nat} {x n i j m2 : Nat} {pl lo l2 : Nat → Nat} (hf : (l2, m2) = lwB v x n pl lo i j (lwT v x n pl lo i)) : (∀ k, l2 k ≤ 60 * i + j) ∧ m2 ≤ 60 * i + j := by
  have h := lwB_bd (v := v) (x := x) (n := n) (t := i) (pl := pl) (lo := lo) (lwT_bd v x n pl lo i) j
  rw [← hf] at h
  exact h
