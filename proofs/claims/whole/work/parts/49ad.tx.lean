/-! the two readings of a text: the token -/
theorem eorF_congr {t t' : Nat → Nat} {n lo hi : Nat} (ht : ∀ j, j < n → t j = t' j) : ∀ f p, eorF t n lo hi f p = eorF t' n lo hi f p := by
  intro f
  induction f with
  | zero => intro p; rfl
  | succ f ih =>
    intro p
    show (if p < n ∧ lo ≤ t p ∧ t p ≤ hi then eorF t n lo hi f (p + 1) else p) = (if p < n ∧ lo ≤ t' p ∧ t' p ≤ hi then eorF t' n lo hi f (p + 1) else p)
    rw [ih (p + 1)]
    by_cases h : p < n
    · rw [ht p h]
    · rw [if_neg (fun q => h q.1), if_neg (fun q => h q.1)]
theorem eor_congr {t t' : Nat → Nat} {n lo hi : Nat} (ht : ∀ j, j < n → t j = t' j) (p : Nat) : eor t n lo hi p = eor t' n lo hi p := eorF_congr ht _ p
theorem vl_congr {t t' : Nat → Nat} {n a b : Nat} (ht : ∀ j, j < n → t j = t' j) (hb : b ≤ n) : vl t a b = vl t' a b := by
  have h : ∀ k, a + k ≤ n → vlF t a k = vlF t' a k := by
    intro k
    induction k with
    | zero => intro _; rfl
    | succ k ih => intro hk; show 10 * vlF t a k + t (a + k) - 48 = 10 * vlF t' a k + t' (a + k) - 48; rw [ih (by omega), ht (a + k) (by omega)]
  unfold vl
  by_cases e : a ≤ b
  · exact h _ (by omega)
  · rw [show b - a = 0 by omega]; rfl
theorem isN_congr {t t' : Nat → Nat} {n a b : Nat} {w : List Nat} (ht : ∀ j, j < n → t j = t' j) (hab : a ≤ b) (hb : b ≤ n) : isN t a b w = isN t' a b w := by
  unfold isN
  by_cases h : b - a = w.length
  · rw [decide_eq_true h, Bool.true_and, Bool.true_and]
    exact ball_congr fun j hj => by rw [ht (a + j) (by omega)]
  · rw [decide_eq_false h, Bool.false_and, Bool.false_and]
theorem nameN_congr {t t' : Nat → Nat} {n a b : Nat} (ht : ∀ j, j < n → t j = t' j) (hab : a ≤ b) (hb : b ≤ n) : nameN t a b = nameN t' a b := by
  unfold nameN
  simp only [isN_congr ht hab hb]
/-- the two rows agree on the token, or on the fault -/
def TS (t r q : Nat → Nat) : Prop := r 0 = q 5 ∧ (r 0 ≠ 0 → r 1 = q 6) ∧ (r 0 = 0 → r 3 = q 8 ∧ r 4 = q 7 ∧ q 9 = (r 2 + 1) % 4 ∧ (r 2 = 1 → q 10 = vl t (r 3) (r 4)))
theorem TS.u {t r q : Nat → Nat} (h : TS t r q) {j v : Nat} (hj : j < 5) : TS t r (u1 q j v) := by
  have e : ∀ k, 5 ≤ k → u1 q j v k = q k := fun k hk => u1_n _ _ (by omega)
  unfold TS
  rw [e 5 (by omega), e 6 (by omega), e 8 (by omega), e 7 (by omega), e 9 (by omega), e 10 (by omega)]
  exact h
theorem TS.fail {t r q : Nat → Nat} (h : TS t r q) {c : Nat} (hc : c ≠ 0) : TS t (cFail r c) (mFail q c) := by
  unfold cFail mFail
  by_cases e : r 0 = 0
  · rw [if_pos e, if_pos (h.1 ▸ e)]
    exact ⟨rfl, fun _ => (h.2.2 e).1, fun q => absurd q hc⟩
  · rw [if_neg e, if_neg (h.1 ▸ e)]; exact h
theorem TS.tok {t t' : Nat → Nat} {n : Nat} {r q : Nat → Nat} (ht : ∀ j, j < n → t j = t' j) (h0 : r 0 = q 5) (h1 : r 0 ≠ 0 → r 1 = q 6) (h4 : r 0 = 0 → r 4 = q 7 ∧ r 4 ≤ n) : TS t (cTok t n r) (mStep t' n q) := by
  unfold cTok mStep
  by_cases e : r 0 = 0
  · have e5 : q 5 = 0 := h0 ▸ e
    rw [if_pos e, if_neg (by omega), ← (h4 e).1, ← eor_congr ht]
    have hs := (eor_b (t := t) (n := n) (lo := 32) (hi := 32) (h4 e).2).2.1
    generalize eor t n 32 32 (r 4) = s at hs
    unfold cTk mStp
    by_cases hn : n ≤ s
    · rw [if_pos hn, if_pos hn]
      exact ⟨h0, fun q => absurd e q, fun _ => ⟨rfl, rfl, (show (0 : Nat) = (3 + 1) % 4 from rfl), fun q => absurd (show (3 : Nat) = 1 from q) (by decide)⟩⟩
    · rw [if_neg hn, if_neg hn, ← ht s (by omega)]
      by_cases hl : 97 ≤ t s ∧ t s ≤ 122
      · have b := (eor_b (t := t) (n := n) (lo := 97) (hi := 122) (p := s + 1) (by omega)).1
        rw [← eor_y (t := t) (n := n) (by omega) hl.1 hl.2] at b
        rw [if_pos (by omega), if_pos hl, ← eor_congr ht]
        exact ⟨h0, fun q => absurd e q, fun _ => ⟨rfl, rfl, rfl, fun q => absurd (show (0 : Nat) = 1 from q) (by decide)⟩⟩
      · have b : eor t n 97 122 s = s := eor_n (fun q => hl q.2)
        rw [if_neg (by omega), if_neg hl]
        by_cases hd : 48 ≤ t s ∧ t s ≤ 57
        · have b2 := eor_b (t := t) (n := n) (lo := 48) (hi := 57) (p := s + 1) (by omega)
          rw [← eor_y (t := t) (n := n) (by omega) hd.1 hd.2] at b2
          rw [if_pos hd, ← eor_congr ht]
          by_cases h2 : s + 2 < eor t n 48 57 s
          · rw [if_pos h2, if_pos h2]
            unfold cFail mFail mQ2
            rw [if_pos (show u1 r 3 s 0 = 0 from e), if_pos (show u1 (u1 (u1 (u1 q 7 _) 8 _) 10 _) 9 2 5 = 0 from e5)]
            exact ⟨rfl, fun _ => rfl, fun q => absurd (show (1 : Nat) = 0 from q) (by decide)⟩
          · rw [if_neg h2, if_neg h2, if_pos (by omega)]
            unfold mQ2
            rw [← eor_congr ht]
            refine ⟨h0, fun q => absurd e q, fun _ => ⟨rfl, rfl, rfl, fun _ => ?_⟩⟩
            show vl t' s (min (eor t n 48 57 s) (s + 2)) = vl t s (eor t n 48 57 s)
            rw [Nat.min_eq_left (by omega), vl_congr ht b2.2.1]
        · have b2 : eor t n 48 57 s = s := eor_n (fun q => hd q.2)
          rw [if_neg (by omega), if_neg (by omega), if_neg hd]
          by_cases h9 : t s = 59
          · rw [if_pos h9, if_pos h9]
            exact ⟨h0, fun q => absurd e q, fun _ => ⟨rfl, rfl, rfl, fun q => absurd (show (2 : Nat) = 1 from q) (by decide)⟩⟩
          · rw [if_neg h9, if_neg h9]
            unfold cFail mFail mQ3
            rw [if_pos (show u1 r 3 s 0 = 0 from e), if_pos (show u1 (u1 (u1 (u1 q 8 _) 10 _) 9 _) 7 _ 5 = 0 from e5)]
            exact ⟨rfl, fun _ => rfl, fun q => absurd (show (1 : Nat) = 0 from q) (by decide)⟩
  · rw [if_neg e, if_pos (by omega)]
    exact ⟨h0, h1, fun q => absurd q e⟩
theorem TS.step {t t' : Nat → Nat} {n : Nat} {r q : Nat → Nat} (ht : ∀ j, j < n → t j = t' j) (h : TS t r q) (hI : RI t n r) : TS t (cTok t n r) (mStep t' n q) :=
  TS.tok ht h.1 h.2.1 (fun e => ⟨(h.2.2 e).2.1, hI.2.1⟩)
theorem TS.name {t t' : Nat → Nat} {n : Nat} {r q : Nat → Nat} {b : Bool} {c : Nat} (ht : ∀ j, j < n → t j = t' j) (h : TS t r q) (hI : RI t n r) (hc : 1 ≤ c ∧ c ≤ 6) : TS t (cName t n r b c) (mStep t' n (if b = true then q else mFail q c)) := by
  unfold cName
  by_cases e : b = true
  · rw [if_pos e, if_pos e]; exact h.step ht hI
  · rw [if_neg e, if_neg e]; exact (h.fail (by omega)).step ht (hI.fail hc)
theorem TS.sign {t t' : Nat → Nat} {n : Nat} {r q : Nat → Nat} (ht : ∀ j, j < n → t j = t' j) (h : TS t r q) (hI : RI t n r) : TS t (cSign t n r) (mStep t' n (if q 5 = 0 ∧ q 9 ≠ 3 then mFail q 2 else q)) := by
  unfold cSign
  by_cases e : r 0 = 0
  · have h9 := (h.2.2 e).2.2.1
    have h2 := hI.2.2.2.2.1
    by_cases e2 : r 2 = 2
    · rw [if_pos e2, if_neg (fun z => z.2 (by rw [h9, e2]))]; exact h.step ht hI
    · rw [if_neg e2, if_pos ⟨h.1 ▸ e, by omega⟩]; exact (h.fail (by decide)).step ht (hI.fail (by decide))
  · have e3 : (if r 2 = 2 then r else cFail r 2) = r := by
      split
      · rfl
      · exact cFail_n e
    rw [e3, if_neg (fun z => e (h.1.trans z.1))]
    exact h.step ht hI
theorem TS.chk {t : Nat → Nat} {n : Nat} {r q : Nat → Nat} {lo hi : Nat} (h : TS t r q) (hI : RI t n r) : TS t (cChk t r lo hi (-1)) (mChk q lo hi) := by
  by_cases e : r 0 = 0
  · have e5 : q 5 = 0 := h.1 ▸ e
    obtain ⟨a1, a2, a3, a4⟩ := h.2.2 e
    have h2 := hI.2.2.2.2.1
    by_cases e2 : r 2 = 1
    · have hv := vl_le hI e2
      have ev : cVal t r = vl t (r 3) (r 4) := if_pos e2
      have eq : mChk1 q = q := if_neg (fun z => z.2 (by rw [a3, e2]))
      unfold cChk mChk
      rw [eq, ev, if_neg (by unfold NO; omega), a4 e2]
      have hne : nI (vl t (r 3) (r 4)) ≠ -1 := fun z => by
        have := congrArg Int32.toInt z
        rw [nI_toInt (by omega)] at this
        have h9 : (-1 : Int32).toInt = -1 := by decide
        omega
      by_cases hr : lo ≤ vl t (r 3) (r 4) ∧ vl t (r 3) (r 4) ≤ hi
      · rw [if_pos ⟨hr.1, hr.2, hne⟩, if_neg (fun z => z.2 hr)]; exact h
      · rw [if_neg (fun z => hr ⟨z.1, z.2.1⟩), if_pos ⟨e5, hr⟩]; exact h.fail (by decide)
    · have ev : cVal t r = NO := if_neg e2
      have eq : mChk1 q = mFail q 2 := if_pos ⟨e5, by omega⟩
      unfold cChk mChk
      rw [eq, ev, if_pos rfl, if_neg (fun z => mFail_0 q (by decide) z.1)]
      exact h.fail (by decide)
  · have e5 : q 5 ≠ 0 := h.1 ▸ e
    have eq : mChk1 q = q := if_neg (fun z => e5 z.1)
    have e1 : mChk q lo hi = q := by unfold mChk; rw [eq, if_neg (fun z => e5 z.1)]
    have e2 : cChk t r lo hi (-1) = r := by
      unfold cChk
      split
      · exact cFail_n e
      · split
        · rfl
        · exact cFail_n e
    rw [e1, e2]; exact h
theorem TS.num {t t' : Nat → Nat} {n : Nat} {r q : Nat → Nat} {lo hi : Nat} (ht : ∀ j, j < n → t j = t' j) (h : TS t r q) (hI : RI t n r) : TS t (cNum t n r lo hi (-1)) (mNum t' n q lo hi) := (h.chk hI).step ht hI.chk
/-- the second tree of a root is not the first -/
theorem TS.chk2 {t : Nat → Nat} {n : Nat} {r q : Nat → Nat} {v : Nat} {bn : Int32} (hv : r 0 = 0 → bn = nI v ∧ v ≤ 5) (h : TS t r q) (hI : RI t n r) : TS t (cChk t r 0 5 bn) (mChk (if q 5 = 0 ∧ q 9 = 2 ∧ q 10 = v then mFail q 3 else q) 0 5) := by
  by_cases e : r 0 = 0
  · have e5 : q 5 = 0 := h.1 ▸ e
    obtain ⟨hb, hv⟩ := hv e
    subst hb
    obtain ⟨a1, a2, a3, a4⟩ := h.2.2 e
    have h2 := hI.2.2.2.2.1
    by_cases e2 : r 2 = 1
    · have hl := vl_le hI e2
      have ev : cVal t r = vl t (r 3) (r 4) := if_pos e2
      by_cases ex : vl t (r 3) (r 4) = v
      · rw [if_pos ⟨e5, by rw [a3, e2], (a4 e2).trans ex⟩]
        have eq : mChk1 (mFail q 3) = mFail q 3 := if_neg (fun z => mFail_0 q (c := 3) (by decide) z.1)
        unfold cChk mChk
        rw [ev, if_neg (by unfold NO; omega), if_neg (fun z => z.2.2 (by rw [ex])), eq, if_neg (fun z => mFail_0 q (c := 3) (by decide) z.1)]
        exact h.fail (by decide)
      · rw [if_neg (fun z => ex ((a4 e2).symm.trans z.2.2))]
        have eq : mChk1 q = q := if_neg (fun z => z.2 (by rw [a3, e2]))
        unfold cChk mChk
        rw [eq, ev, if_neg (by unfold NO; omega), a4 e2]
        have hne : nI (vl t (r 3) (r 4)) ≠ nI v := fun z => ex ((nI_eq (by omega) (by omega)).mp z)
        by_cases hr : 0 ≤ vl t (r 3) (r 4) ∧ vl t (r 3) (r 4) ≤ 5
        · rw [if_pos ⟨hr.1, hr.2, hne⟩, if_neg (fun z => z.2 hr)]; exact h
        · rw [if_neg (fun z => hr ⟨z.1, z.2.1⟩), if_pos ⟨e5, hr⟩]; exact h.fail (by decide)
    · rw [if_neg (fun z => e2 (by omega))]
      have ev : cVal t r = NO := if_neg e2
      have eq : mChk1 q = mFail q 2 := if_pos ⟨e5, by omega⟩
      unfold cChk mChk
      rw [eq, ev, if_pos rfl, if_neg (fun z => mFail_0 q (by decide) z.1)]
      exact h.fail (by decide)
  · have e5 : q 5 ≠ 0 := h.1 ▸ e
    rw [if_neg (fun z => e5 z.1)]
    have eq : mChk1 q = q := if_neg (fun z => e5 z.1)
    have e1 : mChk q 0 5 = q := by unfold mChk; rw [eq, if_neg (fun z => e5 z.1)]
    have e2 : cChk t r 0 5 bn = r := by
      unfold cChk
      split
      · exact cFail_n e
      · split
        · rfl
        · exact cFail_n e
    rw [e1, e2]; exact h
/-- the number that was read -/
theorem TS.val {t : Nat → Nat} {n : Nat} {r q : Nat → Nat} {lo hi : Nat} (h : TS t r q) (hI : RI t n r) (h0 : cNum t n r lo hi (-1) 0 = 0) : mVal q lo hi = cVal t r := by
  obtain ⟨a1, a2, _, _, _, a6, a7⟩ := num_0 h0
  have h1 := (h.chk hI (lo := lo) (hi := hi)).1
  rw [a6] at h1
  unfold mVal
  rw [if_pos (by omega), a7]
  exact (h.2.2 a1).2.2.2 a2
theorem TS.val2 {t : Nat → Nat} {n : Nat} {r q : Nat → Nat} {v : Nat} {bn : Int32} (hv : r 0 = 0 → bn = nI v ∧ v ≤ 5) (h : TS t r q) (hI : RI t n r) (h0 : cNum t n r 0 5 bn 0 = 0) : mVal (if q 5 = 0 ∧ q 9 = 2 ∧ q 10 = v then mFail q 3 else q) 0 5 = cVal t r := by
  obtain ⟨a1, a2, _, _, a5, a6, a7⟩ := num_0 h0
  have h1 := (h.chk2 hv hI).1
  rw [a6] at h1
  have a9 := (h.2.2 a1).2.2.2 a2
  have hv := hv a1
  have hl := vl_le hI a2
  have hne : ¬ (q 5 = 0 ∧ q 9 = 2 ∧ q 10 = v) := fun z => a5 (by rw [a7, ← a9, z.2.2, hv.1])
  rw [if_neg hne] at h1 ⊢
  unfold mVal
  rw [if_pos (by omega), a7]
  exact a9
