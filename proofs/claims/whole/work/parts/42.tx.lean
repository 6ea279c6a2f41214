/-! reading a text: what both readers do, as plain functions over the tape t of n bytes -/
def rV (a at_ : Nat) (hD : Nat → Nat) (K : Nat → Nat → Nat) (wt : Bool) : va_W := rW a at_ hD (K 0 0) (K 0 1) (K 0 2) (K 0 3) (K 0 4) wt
def eorF (t : Nat → Nat) (n lo hi : Nat) : Nat → Nat → Nat
  | 0, p => p
  | f + 1, p => if p < n ∧ lo ≤ t p ∧ t p ≤ hi then eorF t n lo hi f (p + 1) else p
def eor (t : Nat → Nat) (n lo hi p : Nat) : Nat := eorF t n lo hi (n - p) p
theorem eor_y {t : Nat → Nat} {n lo hi p : Nat} (h : p < n) (h1 : lo ≤ t p) (h2 : t p ≤ hi) : eor t n lo hi p = eor t n lo hi (p + 1) := by
  unfold eor
  obtain ⟨f, hf⟩ : ∃ f, n - p = f + 1 := ⟨n - p - 1, by omega⟩
  rw [hf, show n - (p + 1) = f by omega]
  exact if_pos ⟨h, h1, h2⟩
theorem eor_n {t : Nat → Nat} {n lo hi p : Nat} (h : ¬ (p < n ∧ lo ≤ t p ∧ t p ≤ hi)) : eor t n lo hi p = p := by
  unfold eor
  cases hf : n - p with
  | zero => rfl
  | succ f => exact if_neg h
theorem eorF_b (t : Nat → Nat) (n lo hi : Nat) : ∀ f p, p + f = n → p ≤ eorF t n lo hi f p ∧ eorF t n lo hi f p ≤ n ∧ (∀ j, p ≤ j → j < eorF t n lo hi f p → lo ≤ t j ∧ t j ≤ hi) ∧ ¬ (eorF t n lo hi f p < n ∧ lo ≤ t (eorF t n lo hi f p) ∧ t (eorF t n lo hi f p) ≤ hi) := by
  intro f
  induction f with
  | zero =>
    intro p hp
    exact ⟨Nat.le_refl _, by show p ≤ n; omega, fun j h1 h2 => absurd h2 (Nat.not_lt.mpr h1), fun q => by have : p < n := q.1; omega⟩
  | succ f ih =>
    intro p hp
    show p ≤ (if _ then _ else _) ∧ _
    by_cases h : p < n ∧ lo ≤ t p ∧ t p ≤ hi
    · have e : eorF t n lo hi (f + 1) p = eorF t n lo hi f (p + 1) := if_pos h
      obtain ⟨h1, h2, h3, h4⟩ := ih (p + 1) (by omega)
      rw [if_pos h, e]
      refine ⟨by omega, h2, fun j hj1 hj2 => ?_, h4⟩
      by_cases ej : j = p
      · rw [ej]; exact h.2
      · exact h3 j (by omega) hj2
    · have e : eorF t n lo hi (f + 1) p = p := if_neg h
      rw [if_neg h, e]
      exact ⟨Nat.le_refl _, by omega, fun j hj1 hj2 => by omega, h⟩
theorem eor_b {t : Nat → Nat} {n lo hi p : Nat} (h : p ≤ n) : p ≤ eor t n lo hi p ∧ eor t n lo hi p ≤ n ∧ (∀ j, p ≤ j → j < eor t n lo hi p → lo ≤ t j ∧ t j ≤ hi) ∧ ¬ (eor t n lo hi p < n ∧ lo ≤ t (eor t n lo hi p) ∧ t (eor t n lo hi p) ≤ hi) := eorF_b t n lo hi (n - p) p (by omega)
/-- the number that the bytes from a on, k of them, spell -/
def vlF (t : Nat → Nat) (a : Nat) : Nat → Nat
  | 0 => 0
  | k + 1 => 10 * vlF t a k + t (a + k) - 48
def vl (t : Nat → Nat) (a b : Nat) : Nat := vlF t a (b - a)
def NO : Nat := 4294967295
/-! the class: r: 0 fault, 1 its place, 2 the token's kind, 3 its start, 4 its end -/
def cFail (r : Nat → Nat) (c : Nat) : Nat → Nat := if r 0 = 0 then u1 (u1 r 0 c) 1 (r 3) else r
def cTk (t : Nat → Nat) (n : Nat) (r : Nat → Nat) (s : Nat) : Nat → Nat :=
  if n ≤ s then u1 (u1 (u1 r 3 s) 2 3) 4 s
  else if s < eor t n 97 122 s then u1 (u1 (u1 r 3 s) 2 0) 4 (eor t n 97 122 s)
  else if s + 2 < eor t n 48 57 s then cFail (u1 r 3 s) 1
  else if s < eor t n 48 57 s then u1 (u1 (u1 r 3 s) 2 1) 4 (eor t n 48 57 s)
  else if t s = 59 then u1 (u1 (u1 r 3 s) 2 2) 4 (s + 1)
  else cFail (u1 r 3 s) 1
def cTok (t : Nat → Nat) (n : Nat) (r : Nat → Nat) : Nat → Nat := if r 0 = 0 then cTk t n r (eor t n 32 32 (r 4)) else r
def cSign (t : Nat → Nat) (n : Nat) (r : Nat → Nat) : Nat → Nat := cTok t n (if r 2 = 2 then r else cFail r 2)
def cName (t : Nat → Nat) (n : Nat) (r : Nat → Nat) (b : Bool) (c : Nat) : Nat → Nat := cTok t n (if b = true then r else cFail r c)
def cVal (t : Nat → Nat) (r : Nat → Nat) : Nat := if r 2 = 1 then vl t (r 3) (r 4) else NO
def cChk (t : Nat → Nat) (r : Nat → Nat) (lo hi : Nat) (bn : Int32) : Nat → Nat := if cVal t r = NO then cFail r 2 else if lo ≤ cVal t r ∧ cVal t r ≤ hi ∧ nI (cVal t r) ≠ bn then r else cFail r 3
def cNum (t : Nat → Nat) (n : Nat) (r : Nat → Nat) (lo hi : Nat) (bn : Int32) : Nat → Nat := cTok t n (cChk t r lo hi bn)
/-- what always holds of the token -/
def RI (t : Nat → Nat) (n : Nat) (r : Nat → Nat) : Prop := r 3 ≤ n ∧ r 4 ≤ n ∧ r 1 ≤ n ∧ r 0 ≤ 6 ∧ r 2 ≤ 3 ∧ (r 0 = 0 → r 3 ≤ r 4) ∧ (r 2 = 1 → r 4 ≤ r 3 + 2 ∧ ∀ j, r 3 ≤ j → j < r 4 → 48 ≤ t j ∧ t j ≤ 57)
theorem cFail_0 (r : Nat → Nat) {c : Nat} (hc : c ≠ 0) : cFail r c 0 ≠ 0 := by
  unfold cFail
  by_cases h : r 0 = 0
  · rw [if_pos h]; exact hc
  · rw [if_neg h]; exact h
theorem cFail_n {r : Nat → Nat} {c : Nat} (h : r 0 ≠ 0) : cFail r c = r := if_neg h
theorem cTok_n {t : Nat → Nat} {n : Nat} {r : Nat → Nat} (h : r 0 ≠ 0) : cTok t n r = r := if_neg h
theorem RI.fail {t : Nat → Nat} {n : Nat} {r : Nat → Nat} {c : Nat} (h : RI t n r) (hc : 1 ≤ c ∧ c ≤ 6) : RI t n (cFail r c) := by
  obtain ⟨h1, h2, h3, h4, h5, h6, h7⟩ := h
  unfold cFail
  by_cases e : r 0 = 0
  · rw [if_pos e]
    exact ⟨h1, h2, h1, hc.2, h5, fun q => by have q' : c = 0 := q; omega, h7⟩
  · rw [if_neg e]; exact ⟨h1, h2, h3, h4, h5, h6, h7⟩
theorem RI.tok {t : Nat → Nat} {n : Nat} {r : Nat → Nat} (h : RI t n r) : RI t n (cTok t n r) := by
  obtain ⟨h1, h2, h3, h4, h5, h6, h7⟩ := h
  unfold cTok
  by_cases e : r 0 = 0
  · rw [if_pos e]
    obtain ⟨s1, s2, s3, s4⟩ := eor_b (t := t) (n := n) (lo := 32) (hi := 32) h2
    generalize eor t n 32 32 (r 4) = s at s1 s2 s3 s4 ⊢
    obtain ⟨a1, a2, a3, a4⟩ := eor_b (t := t) (n := n) (lo := 97) (hi := 122) s2
    obtain ⟨d1, d2, d3, d4⟩ := eor_b (t := t) (n := n) (lo := 48) (hi := 57) s2
    have hf : RI t n (cFail (u1 r 3 s) 1) := by
      unfold cFail
      rw [if_pos (show u1 r 3 s 0 = 0 from e)]
      refine ⟨s2, h2, s2, (by show 1 ≤ 6; decide), h5, fun q => absurd (show (1 : Nat) = 0 from q) (by decide), fun q => ?_⟩
      exact ⟨by show r 4 ≤ s + 2; omega, fun j j1 j2 => by have j1' : s ≤ j := j1; have j2' : j < r 4 := j2; omega⟩
    unfold cTk
    split
    · exact ⟨s2, s2, h3, h4, (by show 3 ≤ 3; decide), fun _ => Nat.le_refl s, fun q => absurd (show (3 : Nat) = 1 from q) (by decide)⟩
    · split
      · exact ⟨s2, a2, h3, h4, (by show 0 ≤ 3; decide), fun _ => a1, fun q => absurd (show (0 : Nat) = 1 from q) (by decide)⟩
      · split
        · exact hf
        · split
          · refine ⟨s2, d2, h3, h4, (by show 1 ≤ 3; decide), fun _ => d1, fun _ => ⟨?_, d3⟩⟩
            show eor t n 48 57 s ≤ s + 2
            omega
          · split
            · refine ⟨s2, (by show s + 1 ≤ n; omega), h3, h4, (by show 2 ≤ 3; decide), fun _ => (by show s ≤ s + 1; omega), fun q => absurd (show (2 : Nat) = 1 from q) (by decide)⟩
            · exact hf
  · rw [if_neg e]; exact ⟨h1, h2, h3, h4, h5, h6, h7⟩
theorem RI.sign {t : Nat → Nat} {n : Nat} {r : Nat → Nat} (h : RI t n r) : RI t n (cSign t n r) := by
  unfold cSign
  split
  · exact h.tok
  · exact (h.fail (by decide)).tok
theorem RI.name {t : Nat → Nat} {n : Nat} {r : Nat → Nat} {b : Bool} {c : Nat} (h : RI t n r) (hc : 1 ≤ c ∧ c ≤ 6) : RI t n (cName t n r b c) := by
  unfold cName
  split
  · exact h.tok
  · exact (h.fail hc).tok
theorem RI.chk {t : Nat → Nat} {n : Nat} {r : Nat → Nat} {lo hi : Nat} {bn : Int32} (h : RI t n r) : RI t n (cChk t r lo hi bn) := by
  unfold cChk
  split
  · exact h.fail (by decide)
  · split
    · exact h
    · exact h.fail (by decide)
theorem RI.num {t : Nat → Nat} {n : Nat} {r : Nat → Nat} {lo hi : Nat} {bn : Int32} (h : RI t n r) : RI t n (cNum t n r lo hi bn) := h.chk.tok
theorem vlF_le {t : Nat → Nat} {a : Nat} : ∀ {k}, (∀ j, a ≤ j → j < a + k → 48 ≤ t j ∧ t j ≤ 57) → vlF t a k + 1 ≤ 10 ^ k := by
  intro k
  induction k with
  | zero => intro _; exact Nat.le_refl 1
  | succ k ih =>
    intro h
    have h1 := ih (fun j j1 j2 => h j j1 (by omega))
    have h2 := h (a + k) (by omega) (by omega)
    show 10 * vlF t a k + t (a + k) - 48 + 1 ≤ 10 ^ (k + 1)
    rw [Nat.pow_succ]; omega
theorem vl_le {t : Nat → Nat} {n : Nat} {r : Nat → Nat} (h : RI t n r) (hk : r 2 = 1) : vl t (r 3) (r 4) ≤ 99 := by
  obtain ⟨h8, h9⟩ := h.2.2.2.2.2.2 hk
  have h1 := vlF_le (t := t) (a := r 3) (k := r 4 - r 3) (fun j j1 j2 => h9 j j1 (by omega))
  have h2 : 10 ^ (r 4 - r 3) ≤ 10 ^ 2 := Nat.pow_le_pow_right (by decide) (by omega)
  unfold vl
  omega
/-! words -/
def wLen (w : List Nat) : Nat := w.length
def isN (t : Nat → Nat) (a b : Nat) (w : List Nat) : Bool := decide (b - a = w.length) && ball (fun j => decide (t (a + j) = w.getD j 0)) w.length
def wPlain : List Nat := [112, 108, 97, 105, 110]
def wSilver : List Nat := [115, 105, 108, 118, 101, 114]
def wOld : List Nat := [111, 108, 100]
def wSapling : List Nat := [115, 97, 112, 108, 105, 110, 103]
def wRoot : List Nat := [114, 111, 111, 116]
def wWind : List Nat := [119, 105, 110, 100]
def wTalk : List Nat := [116, 97, 108, 107]
theorem isN_l {t : Nat → Nat} {a b : Nat} {w : List Nat} (h : b - a ≠ w.length) : isN t a b w = false := by unfold isN; rw [decide_eq_false h]; rfl
theorem isN_f {t : Nat → Nat} {a b i : Nat} {w : List Nat} (hi : i < w.length) (h : t (a + i) ≠ w.getD i 0) : isN t a b w = false := by
  unfold isN
  rw [ball_f (i := i) (decide_eq_false h) hi, Bool.and_false]
theorem isN_t {t : Nat → Nat} {a b : Nat} {w : List Nat} (h : b - a = w.length) (h2 : ball (fun j => decide (t (a + j) = w.getD j 0)) w.length = true) : isN t a b w = true := by unfold isN; rw [decide_eq_true h, h2]; rfl
theorem isN_at {t : Nat → Nat} {a b : Nat} {w : List Nat} (h : isN t a b w = true) : b - a = w.length ∧ ∀ j, j < w.length → t (a + j) = w.getD j 0 := by
  unfold isN at h
  rw [Bool.and_eq_true, decide_eq_true_eq] at h
  exact ⟨h.1, fun j hj => of_decide_eq_true (ball_all h.2 j hj)⟩
theorem isN_x {t : Nat → Nat} {a b : Nat} (h : isN t a b wWind = true) : isN t a b wTalk = false := by
  have h1 := (isN_at h).2 0 (by decide)
  exact isN_f (i := 0) (by decide) (by rw [h1]; decide)
/-! lines: the class -/
def addTr (G : Nat → Nat → Nat) (k : Nat) : Nat → Nat → Nat := u2 (u2 G 0 (G 8 0) k) 8 0 (G 8 0 + 1)
def addRo (G : Nat → Nat → Nat) (a b L : Nat) : Nat → Nat → Nat := u2 (u2 (u2 (u2 G 1 (G 8 1) a) 2 (G 8 1) b) 3 (G 8 1) L) 8 1 (G 8 1 + 1)
def addTa (G : Nat → Nat → Nat) (a b L : Nat) : Nat → Nat → Nat := u2 (u2 (u2 (u2 G 5 (G 8 3) a) 6 (G 8 3) b) 7 (G 8 3) L) 8 3 (G 8 3 + 1)
def cT0 (t : Nat → Nat) (n : Nat) (r : Nat → Nat) (G : Nat → Nat → Nat) : Nat → Nat := cName t n r (decide (G 8 0 < 6)) 5
def cTreeR (t : Nat → Nat) (n : Nat) (r : Nat → Nat) (G : Nat → Nat → Nat) : Nat → Nat := cSign t n (cT0 t n r G)
def cTreeG (t : Nat → Nat) (n k : Nat) (r : Nat → Nat) (G : Nat → Nat → Nat) : Nat → Nat → Nat := if cTreeR t n r G 0 = 0 then addTr G k else G
def cR1 (t : Nat → Nat) (n : Nat) (r : Nat → Nat) (G : Nat → Nat → Nat) : Nat → Nat := cName t n r (decide (G 8 1 < 9)) 5
def cR2 (t : Nat → Nat) (n : Nat) (r : Nat → Nat) (G : Nat → Nat → Nat) : Nat → Nat := cNum t n (cR1 t n r G) 0 5 (-1)
def cR3 (t : Nat → Nat) (n : Nat) (r : Nat → Nat) (G : Nat → Nat → Nat) : Nat → Nat := cNum t n (cR2 t n r G) 0 5 (nI (cVal t (cR1 t n r G)))
def cR4 (t : Nat → Nat) (n : Nat) (r : Nat → Nat) (G : Nat → Nat → Nat) : Nat → Nat := cNum t n (cR3 t n r G) 1 9 (-1)
def cRootR (t : Nat → Nat) (n : Nat) (r : Nat → Nat) (G : Nat → Nat → Nat) : Nat → Nat := cSign t n (cR4 t n r G)
def cRootG (t : Nat → Nat) (n : Nat) (r : Nat → Nat) (G : Nat → Nat → Nat) : Nat → Nat → Nat := if cRootR t n r G 0 = 0 then addRo G (cVal t (cR1 t n r G)) (cVal t (cR2 t n r G)) (cVal t (cR3 t n r G)) else G
def cW1 (t : Nat → Nat) (n : Nat) (r : Nat → Nat) (wt : Bool) : Nat → Nat := cName t n r (!wt) 4
def cW2 (t : Nat → Nat) (n : Nat) (r : Nat → Nat) (wt : Bool) : Nat → Nat := cNum t n (cW1 t n r wt) 0 20 (-1)
def cWindR (t : Nat → Nat) (n : Nat) (r : Nat → Nat) (wt : Bool) : Nat → Nat := cSign t n (cW2 t n r wt)
def cWindG (t : Nat → Nat) (n : Nat) (r : Nat → Nat) (wt : Bool) (G : Nat → Nat → Nat) : Nat → Nat → Nat := u2 G 8 2 (cVal t (cW1 t n r wt))
def cT1 (t : Nat → Nat) (n : Nat) (r : Nat → Nat) (G : Nat → Nat → Nat) : Nat → Nat := cName t n r (decide (G 8 3 < 6)) 5
def cT2 (t : Nat → Nat) (n : Nat) (r : Nat → Nat) (G : Nat → Nat → Nat) : Nat → Nat := cNum t n (cT1 t n r G) 0 23 (-1)
def cT3 (t : Nat → Nat) (n : Nat) (r : Nat → Nat) (G : Nat → Nat → Nat) : Nat → Nat := cNum t n (cT2 t n r G) 0 5 (-1)
def cT4 (t : Nat → Nat) (n : Nat) (r : Nat → Nat) (G : Nat → Nat → Nat) : Nat → Nat := cNum t n (cT3 t n r G) 1 60 (-1)
def cTalkR (t : Nat → Nat) (n : Nat) (r : Nat → Nat) (G : Nat → Nat → Nat) : Nat → Nat := cSign t n (cT4 t n r G)
def cTalkG (t : Nat → Nat) (n : Nat) (r : Nat → Nat) (G : Nat → Nat → Nat) : Nat → Nat → Nat := if cTalkR t n r G 0 = 0 then addTa G (cVal t (cT1 t n r G)) (cVal t (cT2 t n r G)) (cVal t (cT3 t n r G)) else G
/-- which word a name is: 0 to 3 trees, 4 root, 5 talk, 6 wind; 7: none -/
def nameN (t : Nat → Nat) (a b : Nat) : Nat := if isN t a b wPlain = true then 0 else if isN t a b wSilver = true then 1 else if isN t a b wOld = true then 2 else if isN t a b wSapling = true then 3 else if isN t a b wRoot = true then 4 else if isN t a b wTalk = true then 5 else if isN t a b wWind = true then 6 else 7
def cWh (t : Nat → Nat) (r : Nat → Nat) : Nat := if r 2 = 0 then nameN t (r 3) (r 4) else 7
def cLineR (t : Nat → Nat) (n : Nat) (r : Nat → Nat) (wt : Bool) (G : Nat → Nat → Nat) : Nat → Nat := if cWh t r ≤ 3 then cTreeR t n r G else if cWh t r = 4 then cRootR t n r G else if cWh t r = 5 then cTalkR t n r G else if cWh t r = 6 then cWindR t n r wt else cFail r 2
def cLineW (t : Nat → Nat) (r : Nat → Nat) (wt : Bool) : Bool := if cWh t r = 6 then true else wt
def cLineG (t : Nat → Nat) (n : Nat) (r : Nat → Nat) (wt : Bool) (G : Nat → Nat → Nat) : Nat → Nat → Nat := if cWh t r ≤ 3 then cTreeG t n (cWh t r) r G else if cWh t r = 4 then cRootG t n r G else if cWh t r = 5 then cTalkG t n r G else if cWh t r = 6 then cWindG t n r wt G else G
/-- what always holds of the draft -/
def DI (G : Nat → Nat → Nat) : Prop := G 8 0 ≤ 6 ∧ G 8 1 ≤ 9 ∧ G 8 3 ≤ 6 ∧ G 4 0 = 0 ∧ (∀ k, k < G 8 0 → G 0 k ≤ 3) ∧ (∀ i, i < G 8 1 → G 1 i ≤ 5 ∧ G 2 i ≤ 5 ∧ G 1 i ≠ G 2 i ∧ 1 ≤ G 3 i ∧ G 3 i ≤ 9) ∧ (∀ k, k < G 8 3 → G 5 k ≤ 23 ∧ G 6 k ≤ 5 ∧ 1 ≤ G 7 k ∧ G 7 k ≤ 60)
theorem DI.tree {G : Nat → Nat → Nat} {k : Nat} (h : DI G) (h6 : G 8 0 < 6) (hk : k ≤ 3) : DI (addTr G k) := by
  obtain ⟨h1, h2, h3, h4, h5, h7, h8⟩ := h
  refine ⟨(by show G 8 0 + 1 ≤ 6; omega), h2, h3, h4, fun j hj => ?_, h7, h8⟩
  have hj : j < G 8 0 + 1 := hj
  show u1 (G 0) (G 8 0) k j ≤ 3
  by_cases e : j = G 8 0
  · rw [e, u1_s]; exact hk
  · rw [u1_n _ _ e]; exact h5 j (by omega)
theorem DI.root {G : Nat → Nat → Nat} {a b L : Nat} (h : DI G) (h6 : G 8 1 < 9) (ha : a ≤ 5) (hb : b ≤ 5) (hab : a ≠ b) (hL : 1 ≤ L ∧ L ≤ 9) : DI (addRo G a b L) := by
  obtain ⟨h1, h2, h3, h4, h5, h7, h8⟩ := h
  refine ⟨h1, (by show G 8 1 + 1 ≤ 9; omega), h3, h4, h5, fun i hi => ?_, h8⟩
  have hi : i < G 8 1 + 1 := hi
  show u1 (G 1) (G 8 1) a i ≤ 5 ∧ u1 (G 2) (G 8 1) b i ≤ 5 ∧ u1 (G 1) (G 8 1) a i ≠ u1 (G 2) (G 8 1) b i ∧ 1 ≤ u1 (G 3) (G 8 1) L i ∧ u1 (G 3) (G 8 1) L i ≤ 9
  by_cases e : i = G 8 1
  · rw [e, u1_s, u1_s, u1_s]; exact ⟨ha, hb, hab, hL.1, hL.2⟩
  · rw [u1_n _ _ e, u1_n _ _ e, u1_n _ _ e]; exact h7 i (by omega)
theorem DI.talk {G : Nat → Nat → Nat} {a b L : Nat} (h : DI G) (h6 : G 8 3 < 6) (ha : a ≤ 23) (hb : b ≤ 5) (hL : 1 ≤ L ∧ L ≤ 60) : DI (addTa G a b L) := by
  obtain ⟨h1, h2, h3, h4, h5, h7, h8⟩ := h
  refine ⟨h1, h2, (by show G 8 3 + 1 ≤ 6; omega), h4, h5, h7, fun k hk => ?_⟩
  have hk : k < G 8 3 + 1 := hk
  show u1 (G 5) (G 8 3) a k ≤ 23 ∧ u1 (G 6) (G 8 3) b k ≤ 5 ∧ 1 ≤ u1 (G 7) (G 8 3) L k ∧ u1 (G 7) (G 8 3) L k ≤ 60
  by_cases e : k = G 8 3
  · rw [e, u1_s, u1_s, u1_s]; exact ⟨ha, hb, hL.1, hL.2⟩
  · rw [u1_n _ _ e, u1_n _ _ e, u1_n _ _ e]; exact h8 k (by omega)
theorem tok_0 {t : Nat → Nat} {n : Nat} {r : Nat → Nat} (h : cTok t n r 0 = 0) : r 0 = 0 := by
  by_cases e : r 0 = 0
  · exact e
  · rw [cTok_n e] at h; exact h
theorem sign_0 {t : Nat → Nat} {n : Nat} {r : Nat → Nat} (h : cSign t n r 0 = 0) : r 0 = 0 ∧ r 2 = 2 := by
  have h1 := tok_0 h
  by_cases e : r 2 = 2
  · rw [if_pos e] at h1; exact ⟨h1, e⟩
  · rw [if_neg e] at h1; exact absurd h1 (cFail_0 r (by decide))
theorem name_0 {t : Nat → Nat} {n : Nat} {r : Nat → Nat} {b : Bool} {c : Nat} (hc : c ≠ 0) (h : cName t n r b c 0 = 0) : r 0 = 0 ∧ b = true := by
  have h1 := tok_0 h
  by_cases e : b = true
  · rw [if_pos e] at h1; exact ⟨h1, e⟩
  · rw [if_neg e] at h1; exact absurd h1 (cFail_0 r hc)
theorem chk_0 {t : Nat → Nat} {r : Nat → Nat} {lo hi : Nat} {bn : Int32} (h : cChk t r lo hi bn 0 = 0) : r 0 = 0 ∧ r 2 = 1 ∧ lo ≤ cVal t r ∧ cVal t r ≤ hi ∧ nI (cVal t r) ≠ bn ∧ cChk t r lo hi bn = r ∧ cVal t r = vl t (r 3) (r 4) := by
  unfold cChk at h ⊢
  by_cases e : cVal t r = NO
  · rw [if_pos e] at h; exact absurd h (cFail_0 r (by decide))
  · rw [if_neg e] at h ⊢
    by_cases e2 : lo ≤ cVal t r ∧ cVal t r ≤ hi ∧ nI (cVal t r) ≠ bn
    · rw [if_pos e2] at h ⊢
      have h2 : r 2 = 1 := by
        by_cases q : r 2 = 1
        · exact q
        · exact absurd (if_neg q) e
      exact ⟨h, h2, e2.1, e2.2.1, e2.2.2, rfl, if_pos h2⟩
    · rw [if_neg e2] at h; exact absurd h (cFail_0 r (by decide))
theorem num_0 {t : Nat → Nat} {n : Nat} {r : Nat → Nat} {lo hi : Nat} {bn : Int32} (h : cNum t n r lo hi bn 0 = 0) : r 0 = 0 ∧ r 2 = 1 ∧ lo ≤ cVal t r ∧ cVal t r ≤ hi ∧ nI (cVal t r) ≠ bn ∧ cChk t r lo hi bn = r ∧ cVal t r = vl t (r 3) (r 4) := chk_0 (tok_0 h)
theorem tree_0 {t : Nat → Nat} {n : Nat} {r : Nat → Nat} {G : Nat → Nat → Nat} (h : cTreeR t n r G 0 = 0) : G 8 0 < 6 := of_decide_eq_true (name_0 (by decide) (sign_0 h).1).2
theorem root_0 {t : Nat → Nat} {n : Nat} {r : Nat → Nat} {G : Nat → Nat → Nat} (h : cRootR t n r G 0 = 0) : G 8 1 < 9 := of_decide_eq_true (name_0 (by decide) (num_0 (num_0 (num_0 (sign_0 h).1).1).1).1).2
theorem talk_0 {t : Nat → Nat} {n : Nat} {r : Nat → Nat} {G : Nat → Nat → Nat} (h : cTalkR t n r G 0 = 0) : G 8 3 < 6 := of_decide_eq_true (name_0 (by decide) (num_0 (num_0 (num_0 (sign_0 h).1).1).1).1).2
theorem RI.line {t : Nat → Nat} {n : Nat} {r : Nat → Nat} {wt : Bool} {G : Nat → Nat → Nat} (h : RI t n r) : RI t n (cLineR t n r wt G) := by
  unfold cLineR
  split
  · exact (h.name (by decide)).sign
  · split
    · exact ((((h.name (by decide)).num).num).num).sign
    · split
      · exact ((((h.name (by decide)).num).num).num).sign
      · split
        · exact ((h.name (by decide)).num).sign
        · exact h.fail (by decide)
theorem DI.line {t : Nat → Nat} {n : Nat} {r : Nat → Nat} {wt : Bool} {G : Nat → Nat → Nat} (h : DI G) : DI (cLineG t n r wt G) := by
  unfold cLineG
  split
  · next hk =>
    unfold cTreeG
    split
    · next q => exact h.tree (tree_0 q) hk
    · exact h
  · split
    · unfold cRootG
      split
      · next q =>
        have n3 := num_0 (sign_0 q).1
        have n2 := num_0 n3.1
        have n1 := num_0 n2.1
        refine h.root (root_0 q) n1.2.2.2.1 n2.2.2.2.1 (fun e => n2.2.2.2.2.1 (by rw [e])) ⟨n3.2.2.1, n3.2.2.2.1⟩
      · exact h
    · split
      · unfold cTalkG
        split
        · next q =>
          have n3 := num_0 (sign_0 q).1
          have n2 := num_0 n3.1
          have n1 := num_0 n2.1
          exact h.talk (talk_0 q) n1.2.2.2.1 n2.2.2.2.1 ⟨n3.2.2.1, n3.2.2.2.1⟩
        · exact h
      · split
        · exact h
        · exact h
/-- whether roots or talks name a tree that there is not -/
def lackB (G : Nat → Nat → Nat) : Bool := !(ball (fun i => decide (G 1 i < G 8 0) && decide (G 2 i < G 8 0)) (G 8 1) && ball (fun k => decide (G 6 k < G 8 0)) (G 8 3))
/-- the state behind k lines -/
def cIt (t : Nat → Nat) (n : Nat) (r0 : Nat → Nat) (G0 : Nat → Nat → Nat) : Nat → (Nat → Nat) × Bool × (Nat → Nat → Nat)
  | 0 => (cTok t n r0, false, G0)
  | k + 1 => (cLineR t n (cIt t n r0 G0 k).1 (cIt t n r0 G0 k).2.1 (cIt t n r0 G0 k).2.2, cLineW t (cIt t n r0 G0 k).1 (cIt t n r0 G0 k).2.1, cLineG t n (cIt t n r0 G0 k).1 (cIt t n r0 G0 k).2.1 (cIt t n r0 G0 k).2.2)
def clr (G : Nat → Nat → Nat) : Nat → Nat → Nat := u2 (u2 (u2 (u2 (u2 G 8 0 0) 8 1 0) 4 0 0) 8 2 0) 8 3 0
def rst (r : Nat → Nat) : Nat → Nat := u1 (u1 (u1 r 0 0) 1 0) 4 0
theorem DI.clr (G : Nat → Nat → Nat) : DI (clr G) := ⟨Nat.zero_le 6, Nat.zero_le 9, Nat.zero_le 6, rfl, fun k hk => absurd hk (Nat.not_lt_zero k), fun k hk => absurd hk (Nat.not_lt_zero k), fun k hk => absurd hk (Nat.not_lt_zero k)⟩
theorem RI.tok0 {t : Nat → Nat} {n : Nat} {r : Nat → Nat} (h0 : r 0 = 0) (h1 : r 1 = 0) (h4 : r 4 = 0) (h2 : r 2 ≤ 3) : RI t n (cTok t n r) := by
  have e : cTok t n r = cTok t n (u1 r 3 0) := by
    unfold cTok
    rw [if_pos h0, if_pos (show u1 r 3 0 0 = 0 from h0)]
    show cTk t n r (eor t n 32 32 (r 4)) = cTk t n (u1 r 3 0) (eor t n 32 32 (r 4))
    generalize eor t n 32 32 (r 4) = s
    have e3 : u1 (u1 r 3 0) 3 s = u1 r 3 s := by funext j; unfold u1; split <;> rfl
    unfold cTk
    rw [e3]
  rw [e]
  refine RI.tok ⟨Nat.zero_le _, (by show r 4 ≤ n; omega), (by show r 1 ≤ n; omega), (by show r 0 ≤ 6; omega), h2, fun _ => Nat.zero_le _, fun _ => ⟨(by show r 4 ≤ 0 + 2; omega), fun j _ j2 => by have j2' : j < r 4 := j2; omega⟩⟩
theorem cIt_w {t : Nat → Nat} {n : Nat} {r : Nat → Nat} {G : Nat → Nat → Nat} (h2 : r 2 ≤ 3) : ∀ k, RI t n (cIt t n (rst r) (clr G) k).1 ∧ DI (cIt t n (rst r) (clr G) k).2.2 := by
  intro k
  induction k with
  | zero => exact ⟨RI.tok0 (r := rst r) rfl rfl rfl h2, DI.clr G⟩
  | succ k ih => exact ⟨ih.1.line, ih.2.line⟩
def cWR (t : Nat → Nat) (n : Nat) (r : Nat → Nat) (G : Nat → Nat → Nat) (k : Nat) : Nat → Nat := if lackB (cIt t n (rst r) (clr G) k).2.2 = true then cFail (cIt t n (rst r) (clr G) k).1 6 else (cIt t n (rst r) (clr G) k).1
theorem lk_1 {P : Nat → Bool} {i la : Nat} (h : la = rb (!(ball P i))) (hp : P i = false) : la ||| 1 = rb (!(ball P (i + 1))) := by
  show _ = rb (!(ball P i && P i))
  rw [h, hp]
  cases ball P i <;> rfl
theorem lk_0 {P : Nat → Bool} {i la : Nat} (h : la = rb (!(ball P i))) (hp : P i = true) : la ||| 0 = rb (!(ball P (i + 1))) := by
  show _ = rb (!(ball P i && P i))
  rw [h, hp]
  cases ball P i <;> rfl
theorem lk2_1 {A : Bool} {P : Nat → Bool} {i la : Nat} (h : la = rb (!(A && ball P i))) (hp : P i = false) : la ||| 1 = rb (!(A && ball P (i + 1))) := by
  show _ = rb (!(A && (ball P i && P i)))
  rw [h, hp]
  cases A <;> cases ball P i <;> rfl
theorem lk2_0 {A : Bool} {P : Nat → Bool} {i la : Nat} (h : la = rb (!(A && ball P i))) (hp : P i = true) : la ||| 0 = rb (!(A && ball P (i + 1))) := by
  show _ = rb (!(A && (ball P i && P i)))
  rw [h, hp]
  cases A <;> cases ball P i <;> rfl
theorem cWR_6 {t : Nat → Nat} {n : Nat} {r : Nat → Nat} {G : Nat → Nat → Nat} (h2 : r 2 ≤ 3) (k : Nat) : cWR t n r G k 0 ≤ 6 := by
  have q := (cIt_w (t := t) (n := n) (r := r) (G := G) h2 k).1
  unfold cWR
  split
  · exact (q.fail (by decide)).2.2.2.1
  · exact q.2.2.2.1
