/-! reading a text: the reference; q: 1 trees, 2 wind told, 5 broken, 6 its place, 7 spot, 8 here, 9 the token, 10 its value -/
def mFail (q : Nat → Nat) (c : Nat) : Nat → Nat := if q 5 = 0 then u1 (u1 q 5 c) 6 (q 8) else q
def mQ0 (q : Nat → Nat) (s : Nat) : Nat → Nat := u1 (u1 (u1 q 7 s) 8 s) 10 0
def mQ2 (t : Nat → Nat) (n : Nat) (q : Nat → Nat) (s : Nat) : Nat → Nat := u1 (u1 (u1 (u1 q 7 (eor t n 48 57 s)) 8 s) 10 (vl t s (min (eor t n 48 57 s) (s + 2)))) 9 2
def mQ3 (q : Nat → Nat) (s : Nat) : Nat → Nat := u1 (u1 (u1 (u1 q 8 s) 10 0) 9 3) 7 (s + 1)
def mStp (t : Nat → Nat) (n : Nat) (q : Nat → Nat) (s : Nat) : Nat → Nat :=
  if n ≤ s then u1 (mQ0 q s) 9 0
  else if 97 ≤ t s ∧ t s ≤ 122 then u1 (u1 (mQ0 q s) 7 (eor t n 97 122 s)) 9 1
  else if 48 ≤ t s ∧ t s ≤ 57 then (if s + 2 < eor t n 48 57 s then mFail (mQ2 t n q s) 1 else mQ2 t n q s)
  else if t s = 59 then mQ3 q s else mFail (mQ3 q s) 1
def mStep (t : Nat → Nat) (n : Nat) (q : Nat → Nat) : Nat → Nat := if 0 < q 5 then q else mStp t n q (eor t n 32 32 (q 7))
def mChk1 (q : Nat → Nat) : Nat → Nat := if q 5 = 0 ∧ q 9 ≠ 2 then mFail q 2 else q
def mChk (q : Nat → Nat) (lo hi : Nat) : Nat → Nat := if mChk1 q 5 = 0 ∧ ¬ (lo ≤ q 10 ∧ q 10 ≤ hi) then mFail (mChk1 q) 3 else mChk1 q
def mVal (q : Nat → Nat) (lo hi : Nat) : Nat := if mChk q lo hi 5 = 0 then q 10 else lo
def mNum (t : Nat → Nat) (n : Nat) (q : Nat → Nat) (lo hi : Nat) : Nat → Nat := mStep t n (mChk q lo hi)
def hiM (hi : Int32) (v : Nat) : Int32 := if nI v ≤ hi then hi else nI v
/-- what always holds -/
def MI (n : Nat) (q : Nat → Nat) : Prop := q 8 ≤ q 7 ∧ q 7 ≤ n ∧ q 5 ≤ 6 ∧ q 10 ≤ 99 ∧ q 9 ≤ 3
theorem mFail_n {q : Nat → Nat} {c : Nat} (h : q 5 ≠ 0) : mFail q c = q := if_neg h
theorem mFail_0 (q : Nat → Nat) {c : Nat} (hc : c ≠ 0) : mFail q c 5 ≠ 0 := by
  unfold mFail
  by_cases h : q 5 = 0
  · rw [if_pos h]; exact hc
  · rw [if_neg h]; exact h
theorem mFail_o (q : Nat → Nat) (c : Nat) {j : Nat} (h5 : j ≠ 5) (h6 : j ≠ 6) : mFail q c j = q j := by
  unfold mFail
  split
  · rw [u1_n _ _ h6, u1_n _ _ h5]
  · rfl
theorem MI.fail {n : Nat} {q : Nat → Nat} {c : Nat} (h : MI n q) (hc : c ≤ 6) : MI n (mFail q c) := by
  obtain ⟨h1, h2, h3, h4, h5⟩ := h
  unfold mFail
  split
  · exact ⟨h1, h2, hc, h4, h5⟩
  · exact ⟨h1, h2, h3, h4, h5⟩
theorem vl_99 {t : Nat → Nat} {n s e : Nat} (h : s ≤ n) (he : e = min (eor t n 48 57 s) (s + 2)) : vl t s e ≤ 99 := by
  obtain ⟨d1, d2, d3, d4⟩ := eor_b (t := t) (n := n) (lo := 48) (hi := 57) h
  have h1 := vlF_le (t := t) (a := s) (k := e - s) (fun j j1 j2 => d3 j j1 (by omega))
  have h2 : 10 ^ (e - s) ≤ 10 ^ 2 := Nat.pow_le_pow_right (by decide) (by omega)
  unfold vl
  omega
theorem MI.step {t : Nat → Nat} {n : Nat} {q : Nat → Nat} (h : MI n q) : MI n (mStep t n q) := by
  obtain ⟨h1, h2, h3, h4, h5⟩ := h
  unfold mStep
  split
  · exact ⟨h1, h2, h3, h4, h5⟩
  · obtain ⟨s1, s2, s3, s4⟩ := eor_b (t := t) (n := n) (lo := 32) (hi := 32) h2
    generalize eor t n 32 32 (q 7) = s at s1 s2 s3 s4 ⊢
    obtain ⟨a1, a2, a3, a4⟩ := eor_b (t := t) (n := n) (lo := 97) (hi := 122) s2
    obtain ⟨d1, d2, d3, d4⟩ := eor_b (t := t) (n := n) (lo := 48) (hi := 57) s2
    have hv := vl_99 (t := t) (n := n) (s := s) s2 rfl
    unfold mStp
    split
    · exact ⟨Nat.le_refl s, s2, h3, Nat.zero_le 99, Nat.zero_le 3⟩
    · split
      · exact ⟨a1, a2, h3, Nat.zero_le 99, (by show 1 ≤ 3; decide)⟩
      · have h2q : MI n (mQ2 t n q s) := ⟨d1, d2, h3, hv, (by show 2 ≤ 3; decide)⟩
        have h3q : s < n → MI n (mQ3 q s) := fun hs => ⟨(by show s ≤ s + 1; omega), (by show s + 1 ≤ n; omega), h3, Nat.zero_le 99, (by show 3 ≤ 3; decide)⟩
        split
        · split
          · exact h2q.fail (by decide)
          · exact h2q
        · split
          · exact h3q (by omega)
          · exact (h3q (by omega)).fail (by decide)
theorem MI.chk1 {n : Nat} {q : Nat → Nat} (h : MI n q) : MI n (mChk1 q) := by
  unfold mChk1
  split
  · exact h.fail (by decide)
  · exact h
theorem MI.chk {n : Nat} {q : Nat → Nat} {lo hi : Nat} (h : MI n q) : MI n (mChk q lo hi) := by
  unfold mChk
  split
  · exact h.chk1.fail (by decide)
  · exact h.chk1
theorem MI.num {t : Nat → Nat} {n : Nat} {q : Nat → Nat} {lo hi : Nat} (h : MI n q) : MI n (mNum t n q lo hi) := h.chk.step
/-! words, by the reference's rows -/
def strM : List (List Nat) := [wPlain, wSilver, wOld, wSapling, wRoot, wTalk, wWind]
theorem mE : ∀ k, k < 7 → mEnds k ≤ mEnds (k + 1) ∧ mEnds (k + 1) ≤ 33 ∧ mEnds (k + 1) - mEnds k = (strM.getD k []).length ∧ (strM.getD k []).length ≤ 7 ∧ ∀ j, j < 7 → (j < (strM.getD k []).length → mLetters (mEnds k + j) = (strM.getD k []).getD j 0) ∧ (strM.getD k []).getD j 0 < 128 := by decide +kernel
theorem mLet : ∀ j, j < 33 → mLetters j < 128 := by decide +kernel
theorem nameN_at {t : Nat → Nat} {a b k : Nat} (hk : k < 7) (h0 : ∀ j, j < k → isN t a b (strM.getD j []) = false) (h : isN t a b (strM.getD k []) = true) : nameN t a b = k := by
  unfold nameN
  rcases (show k = 0 ∨ k = 1 ∨ k = 2 ∨ k = 3 ∨ k = 4 ∨ k = 5 ∨ k = 6 by omega) with rfl | rfl | rfl | rfl | rfl | rfl | rfl
  · exact if_pos h
  · rw [show isN t a b wPlain = false from h0 0 (by decide), if_neg (by decide)]; exact if_pos h
  · rw [show isN t a b wPlain = false from h0 0 (by decide), show isN t a b wSilver = false from h0 1 (by decide), if_neg (by decide), if_neg (by decide)]; exact if_pos h
  · rw [show isN t a b wPlain = false from h0 0 (by decide), show isN t a b wSilver = false from h0 1 (by decide), show isN t a b wOld = false from h0 2 (by decide), if_neg (by decide), if_neg (by decide), if_neg (by decide)]; exact if_pos h
  · rw [show isN t a b wPlain = false from h0 0 (by decide), show isN t a b wSilver = false from h0 1 (by decide), show isN t a b wOld = false from h0 2 (by decide), show isN t a b wSapling = false from h0 3 (by decide), if_neg (by decide), if_neg (by decide), if_neg (by decide), if_neg (by decide)]; exact if_pos h
  · rw [show isN t a b wPlain = false from h0 0 (by decide), show isN t a b wSilver = false from h0 1 (by decide), show isN t a b wOld = false from h0 2 (by decide), show isN t a b wSapling = false from h0 3 (by decide), show isN t a b wRoot = false from h0 4 (by decide), if_neg (by decide), if_neg (by decide), if_neg (by decide), if_neg (by decide), if_neg (by decide)]; exact if_pos h
  · rw [show isN t a b wPlain = false from h0 0 (by decide), show isN t a b wSilver = false from h0 1 (by decide), show isN t a b wOld = false from h0 2 (by decide), show isN t a b wSapling = false from h0 3 (by decide), show isN t a b wRoot = false from h0 4 (by decide), show isN t a b wTalk = false from h0 5 (by decide), if_neg (by decide), if_neg (by decide), if_neg (by decide), if_neg (by decide), if_neg (by decide), if_neg (by decide)]; exact if_pos h
theorem nameN_7 {t : Nat → Nat} {a b : Nat} (h0 : ∀ j, j < 7 → isN t a b (strM.getD j []) = false) : nameN t a b = 7 := by
  unfold nameN
  rw [show isN t a b wPlain = false from h0 0 (by decide), show isN t a b wSilver = false from h0 1 (by decide), show isN t a b wOld = false from h0 2 (by decide), show isN t a b wSapling = false from h0 3 (by decide), show isN t a b wRoot = false from h0 4 (by decide), show isN t a b wTalk = false from h0 5 (by decide), show isN t a b wWind = false from h0 6 (by decide)]
  rfl
theorem nameN_le (t : Nat → Nat) (a b : Nat) : nameN t a b ≤ 7 := by
  unfold nameN
  repeat' split
  all_goals decide
def mWh (t : Nat → Nat) (q : Nat → Nat) : Nat := if q 9 = 1 then nameN t (q 8) (q 7) else 7
def orN7 (k : Nat) : Int32 := if k = 7 then -4 else nI k
theorem mWh_le (t : Nat → Nat) (q : Nat → Nat) : mWh t q ≤ 7 := by
  unfold mWh
  split
  · exact nameN_le _ _ _
  · decide
/-! lines: the reference -/
def mR1 (t : Nat → Nat) (n : Nat) (q : Nat → Nat) : Nat → Nat := mNum t n q 0 5
def mR2 (t : Nat → Nat) (n : Nat) (q : Nat → Nat) : Nat → Nat := if mR1 t n q 5 = 0 ∧ mR1 t n q 9 = 2 ∧ mR1 t n q 10 = mVal q 0 5 then mFail (mR1 t n q) 3 else mR1 t n q
def mR3 (t : Nat → Nat) (n : Nat) (q : Nat → Nat) : Nat → Nat := mNum t n (mR2 t n q) 0 5
def mR4 (t : Nat → Nat) (n : Nat) (q : Nat → Nat) : Nat → Nat := mNum t n (mR3 t n q) 1 9
def mRv1 (q : Nat → Nat) : Nat := mVal q 0 5
def mRv2 (t : Nat → Nat) (n : Nat) (q : Nat → Nat) : Nat := mVal (mR2 t n q) 0 5
def mRv3 (t : Nat → Nat) (n : Nat) (q : Nat → Nat) : Nat := mVal (mR3 t n q) 1 9
def mRp (t : Nat → Nat) (n : Nat) (q pg : Nat → Nat) : Nat → Nat := u1 (u1 (u1 (u1 pg (6 + pg 42) (mRv1 q)) (15 + pg 42) (mRv2 t n q)) (24 + pg 42) (mRv3 t n q)) 42 (pg 42 + 1)
def mRh (t : Nat → Nat) (n : Nat) (q : Nat → Nat) (hi : Int32) : Int32 := hiM (hiM hi (mRv1 q)) (mRv2 t n q)
def mT1 (t : Nat → Nat) (n : Nat) (q : Nat → Nat) : Nat → Nat := mNum t n q 0 23
def mT2 (t : Nat → Nat) (n : Nat) (q : Nat → Nat) : Nat → Nat := mNum t n (mT1 t n q) 0 5
def mT3 (t : Nat → Nat) (n : Nat) (q : Nat → Nat) : Nat → Nat := mNum t n (mT2 t n q) 1 60
def mTv1 (q : Nat → Nat) : Nat := mVal q 0 23
def mTv2 (t : Nat → Nat) (n : Nat) (q : Nat → Nat) : Nat := mVal (mT1 t n q) 0 5
def mTv3 (t : Nat → Nat) (n : Nat) (q : Nat → Nat) : Nat := mVal (mT2 t n q) 1 60
def mTp (t : Nat → Nat) (n : Nat) (q pg : Nat → Nat) : Nat → Nat := u1 (u1 (u1 (u1 pg (44 + pg 62) (mTv1 q)) (50 + pg 62) (mTv2 t n q)) (56 + pg 62) (mTv3 t n q)) 62 (pg 62 + 1)
def mMoreQ (t : Nat → Nat) (n : Nat) (q : Nat → Nat) (k : Nat) : Nat → Nat := if k ≤ 3 then u1 q 1 (q 1 + 1) else if k = 4 then mR4 t n q else if k = 5 then mT3 t n q else mNum t n q 0 20
def mMoreP (t : Nat → Nat) (n : Nat) (q pg : Nat → Nat) (k : Nat) : Nat → Nat := if k ≤ 3 then u1 pg (q 1) k else if k = 4 then mRp t n q pg else if k = 5 then mTp t n q pg else u1 pg 43 (mVal q 0 20)
def mMoreH (t : Nat → Nat) (n : Nat) (q : Nat → Nat) (hi : Int32) (k : Nat) : Int32 := if k ≤ 3 then hi else if k = 4 then mRh t n q hi else if k = 5 then hiM hi (mTv2 t n q) else hi
def mFull (q pg : Nat → Nat) (k : Nat) : Bool := (decide (k ≤ 3) && decide (q 1 = 6)) || (decide (k = 4) && decide (pg 42 = 9)) || (decide (k = 5) && decide (pg 62 = 6))
def mL1 (q pg : Nat → Nat) (k : Nat) : Nat → Nat := if mFull q pg k = true then mFail q 5 else q
def mL2 (q pg : Nat → Nat) (k : Nat) : Nat → Nat := if k = 6 ∧ q 2 ≠ 0 then mFail (mL1 q pg k) 4 else mL1 q pg k
def mL3 (q pg : Nat → Nat) (k : Nat) : Nat → Nat := u1 (mL2 q pg k) 2 (rb (decide (q 2 ≠ 0) || decide (k = 6)))
def mL4 (t : Nat → Nat) (n : Nat) (q pg : Nat → Nat) (k : Nat) : Nat → Nat := mStep t n (mL3 q pg k)
def mL5 (t : Nat → Nat) (n : Nat) (q pg : Nat → Nat) (k : Nat) : Nat → Nat := mMoreQ t n (mL4 t n q pg k) k
def mL6 (t : Nat → Nat) (n : Nat) (q pg : Nat → Nat) (k : Nat) : Nat → Nat := if mL5 t n q pg k 5 = 0 ∧ mL5 t n q pg k 9 ≠ 3 then mFail (mL5 t n q pg k) 2 else mL5 t n q pg k
def mLineQ (t : Nat → Nat) (n : Nat) (q pg : Nat → Nat) : Nat → Nat := if mWh t q = 7 then mFail q 2 else if 0 < mL4 t n q pg (mWh t q) 5 then mL4 t n q pg (mWh t q) else mStep t n (mL6 t n q pg (mWh t q))
def mLineP (t : Nat → Nat) (n : Nat) (q pg : Nat → Nat) : Nat → Nat := if mWh t q = 7 then pg else if 0 < mL4 t n q pg (mWh t q) 5 then pg else mMoreP t n (mL4 t n q pg (mWh t q)) pg (mWh t q)
def mLineH (t : Nat → Nat) (n : Nat) (q pg : Nat → Nat) (hi : Int32) : Int32 := if mWh t q = 7 then hi else if 0 < mL4 t n q pg (mWh t q) 5 then hi else mMoreH t n (mL4 t n q pg (mWh t q)) hi (mWh t q)
theorem mStep_o (t : Nat → Nat) (n : Nat) (q : Nat → Nat) {j : Nat} (h : j < 5 ∨ 10 < j) : mStep t n q j = q j := by
  unfold mStep
  split
  · rfl
  · unfold mStp
    have e0 : ∀ s, mQ0 q s j = q j := fun s => by unfold mQ0; rw [u1_n _ _ (by omega), u1_n _ _ (by omega), u1_n _ _ (by omega)]
    have e2 : ∀ s, mQ2 t n q s j = q j := fun s => by unfold mQ2; rw [u1_n _ _ (by omega), u1_n _ _ (by omega), u1_n _ _ (by omega), u1_n _ _ (by omega)]
    have e3 : ∀ s, mQ3 q s j = q j := fun s => by unfold mQ3; rw [u1_n _ _ (by omega), u1_n _ _ (by omega), u1_n _ _ (by omega), u1_n _ _ (by omega)]
    split
    · rw [u1_n _ _ (by omega), e0]
    · split
      · rw [u1_n _ _ (by omega), u1_n _ _ (by omega), e0]
      · split
        · split
          · rw [mFail_o _ _ (by omega) (by omega), e2]
          · exact e2 _
        · split
          · exact e3 _
          · rw [mFail_o _ _ (by omega) (by omega), e3]
theorem mChk1_o (q : Nat → Nat) {j : Nat} (h5 : j ≠ 5) (h6 : j ≠ 6) : mChk1 q j = q j := by
  unfold mChk1
  split
  · exact mFail_o _ _ h5 h6
  · rfl
theorem mChk_o (q : Nat → Nat) (lo hi : Nat) {j : Nat} (h5 : j ≠ 5) (h6 : j ≠ 6) : mChk q lo hi j = q j := by
  unfold mChk
  split
  · rw [mFail_o _ _ h5 h6, mChk1_o _ h5 h6]
  · exact mChk1_o _ h5 h6
theorem mNum_o (t : Nat → Nat) (n : Nat) (q : Nat → Nat) (lo hi : Nat) {j : Nat} (h : j < 5 ∨ 10 < j) : mNum t n q lo hi j = q j := by
  unfold mNum
  rw [mStep_o _ _ _ h, mChk_o _ _ _ (by omega) (by omega)]
theorem mR2_o (t : Nat → Nat) (n : Nat) (q : Nat → Nat) {j : Nat} (h : j < 5 ∨ 10 < j) : mR2 t n q j = q j := by
  unfold mR2
  split
  · rw [mFail_o _ _ (by omega) (by omega)]; exact mNum_o _ _ _ _ _ h
  · exact mNum_o _ _ _ _ _ h
theorem mR3_o (t : Nat → Nat) (n : Nat) (q : Nat → Nat) {j : Nat} (h : j < 5 ∨ 10 < j) : mR3 t n q j = q j := by
  unfold mR3; rw [mNum_o _ _ _ _ _ h, mR2_o _ _ _ h]
theorem mR4_o (t : Nat → Nat) (n : Nat) (q : Nat → Nat) {j : Nat} (h : j < 5 ∨ 10 < j) : mR4 t n q j = q j := by
  unfold mR4; rw [mNum_o _ _ _ _ _ h, mR3_o _ _ _ h]
theorem mT3_o (t : Nat → Nat) (n : Nat) (q : Nat → Nat) {j : Nat} (h : j < 5 ∨ 10 < j) : mT3 t n q j = q j := by
  unfold mT3 mT2 mT1; rw [mNum_o _ _ _ _ _ h, mNum_o _ _ _ _ _ h, mNum_o _ _ _ _ _ h]
theorem mMoreQ_3 (t : Nat → Nat) (n : Nat) (q : Nat → Nat) (k : Nat) {j : Nat} (h : (1 < j ∧ j < 5) ∨ 10 < j) : mMoreQ t n q k j = q j := by
  unfold mMoreQ
  split
  · rw [u1_n _ _ (by omega)]
  · split
    · exact mR4_o _ _ _ (by omega)
    · split
      · exact mT3_o _ _ _ (by omega)
      · exact mNum_o _ _ _ _ _ (by omega)
theorem mL2_o (q pg : Nat → Nat) (k : Nat) {j : Nat} (h5 : j ≠ 5) (h6 : j ≠ 6) : mL2 q pg k j = q j := by
  unfold mL2 mL1
  split
  · rw [mFail_o _ _ h5 h6]; split
    · exact mFail_o _ _ h5 h6
    · rfl
  · split
    · exact mFail_o _ _ h5 h6
    · rfl
theorem mL4_o (t : Nat → Nat) (n : Nat) (q pg : Nat → Nat) (k : Nat) {j : Nat} (h : j < 5 ∨ 10 < j) (h2 : j ≠ 2) : mL4 t n q pg k j = q j := by
  unfold mL4 mL3
  rw [mStep_o _ _ _ h, u1_n _ _ h2, mL2_o _ _ _ (by omega) (by omega)]
theorem mL6_o (t : Nat → Nat) (n : Nat) (q pg : Nat → Nat) (k : Nat) {j : Nat} (h : (2 < j ∧ j < 5) ∨ 10 < j) : mL6 t n q pg k j = q j := by
  unfold mL6 mL5
  split
  · rw [mFail_o _ _ (by omega) (by omega), mMoreQ_3 _ _ _ _ (by omega), mL4_o _ _ _ _ _ (by omega) (by omega)]
  · rw [mMoreQ_3 _ _ _ _ (by omega), mL4_o _ _ _ _ _ (by omega) (by omega)]
theorem MI.u {n : Nat} {q : Nat → Nat} {j v : Nat} (h : MI n q) (hj : j < 5) : MI n (u1 q j v) := by
  obtain ⟨h1, h2, h3, h4, h5⟩ := h
  unfold MI
  rw [u1_n _ _ (by omega), u1_n _ _ (by omega), u1_n _ _ (by omega), u1_n _ _ (by omega), u1_n _ _ (by omega)]
  exact ⟨h1, h2, h3, h4, h5⟩
theorem MI.r2 {t : Nat → Nat} {n : Nat} {q : Nat → Nat} (h : MI n q) : MI n (mR2 t n q) := by
  have h1 : MI n (mR1 t n q) := h.num
  unfold mR2
  split
  · exact h1.fail (by decide)
  · exact h1
theorem MI.r4 {t : Nat → Nat} {n : Nat} {q : Nat → Nat} (h : MI n q) : MI n (mR4 t n q) := h.r2.num.num
theorem MI.t3 {t : Nat → Nat} {n : Nat} {q : Nat → Nat} (h : MI n q) : MI n (mT3 t n q) := h.num.num.num
theorem MI.more {t : Nat → Nat} {n : Nat} {q : Nat → Nat} {k : Nat} (h : MI n q) : MI n (mMoreQ t n q k) := by
  unfold mMoreQ
  split
  · exact h.u (by decide)
  · split
    · exact h.r4
    · split
      · exact h.t3
      · exact h.num
theorem MI.l2 {n : Nat} {q pg : Nat → Nat} {k : Nat} (h : MI n q) : MI n (mL2 q pg k) := by
  have h1 : MI n (mL1 q pg k) := by
    unfold mL1
    split
    · exact h.fail (by decide)
    · exact h
  unfold mL2
  split
  · exact h1.fail (by decide)
  · exact h1
theorem MI.l3 {n : Nat} {q pg : Nat → Nat} {k : Nat} (h : MI n q) : MI n (mL3 q pg k) := h.l2.u (by decide)
theorem MI.l4 {t : Nat → Nat} {n : Nat} {q pg : Nat → Nat} {k : Nat} (h : MI n q) : MI n (mL4 t n q pg k) := h.l3.step
theorem MI.l6 {t : Nat → Nat} {n : Nat} {q pg : Nat → Nat} {k : Nat} (h : MI n q) : MI n (mL6 t n q pg k) := by
  have h5 : MI n (mL5 t n q pg k) := h.l4.more
  unfold mL6
  split
  · exact h5.fail (by decide)
  · exact h5
theorem MI.line {t : Nat → Nat} {n : Nat} {q pg : Nat → Nat} (h : MI n q) : MI n (mLineQ t n q pg) := by
  unfold mLineQ
  split
  · exact h.fail (by decide)
  · split
    · exact h.l4
    · exact h.l6.step
theorem mLineQ_3 (t : Nat → Nat) (n : Nat) (q pg : Nat → Nat) {j : Nat} (h : (2 < j ∧ j < 5) ∨ 10 < j) : mLineQ t n q pg j = q j := by
  unfold mLineQ
  split
  · exact mFail_o _ _ (by omega) (by omega)
  · split
    · exact mL4_o _ _ _ _ _ (by omega) (by omega)
    · rw [mStep_o _ _ _ (by omega), mL6_o _ _ _ _ _ h]
/-- room on the page that is read -/
def MP (q pg : Nat → Nat) : Prop := q 1 ≤ 6 ∧ pg 42 ≤ 9 ∧ pg 62 ≤ 6 ∧ q 2 ≤ 1
theorem full_0 {t : Nat → Nat} {n : Nat} {q pg : Nat → Nat} {k : Nat} (h : mL4 t n q pg k 5 = 0) : q 5 = 0 ∧ mFull q pg k = false ∧ ¬ (k = 6 ∧ q 2 ≠ 0) := by
  have h1 : mL3 q pg k 5 = 0 := by
    by_cases e : mL3 q pg k 5 = 0
    · exact e
    · unfold mL4 mStep at h
      rw [if_pos (Nat.pos_of_ne_zero e)] at h
      exact h
  have h2 : mL2 q pg k 5 = 0 := h1
  unfold mL2 at h2
  by_cases e6 : k = 6 ∧ q 2 ≠ 0
  · rw [if_pos e6] at h2; exact absurd h2 (mFail_0 _ (by decide))
  · rw [if_neg e6] at h2
    unfold mL1 at h2
    cases e : mFull q pg k with
    | true => rw [e, if_pos rfl] at h2; exact absurd h2 (mFail_0 _ (by decide))
    | false => rw [e, if_neg (by decide)] at h2; exact ⟨h2, rfl, e6⟩
theorem mFull_f {q pg : Nat → Nat} {k : Nat} (h : mFull q pg k = false) : (k ≤ 3 → q 1 ≠ 6) ∧ (k = 4 → pg 42 ≠ 9) ∧ (k = 5 → pg 62 ≠ 6) := by
  unfold mFull at h
  rw [Bool.or_eq_false_iff, Bool.or_eq_false_iff, Bool.and_eq_false_iff, Bool.and_eq_false_iff, Bool.and_eq_false_iff, decide_eq_false_iff_not, decide_eq_false_iff_not, decide_eq_false_iff_not, decide_eq_false_iff_not, decide_eq_false_iff_not, decide_eq_false_iff_not] at h
  obtain ⟨⟨h1, h2⟩, h3⟩ := h
  exact ⟨fun k3 => h1.resolve_left (fun q => q k3), fun k4 => h2.resolve_left (fun q => q k4), fun k5 => h3.resolve_left (fun q => q k5)⟩
theorem MP.line {t : Nat → Nat} {n : Nat} {q pg : Nat → Nat} (h : MP q pg) : MP (mLineQ t n q pg) (mLineP t n q pg) := by
  obtain ⟨h1, h2, h3, h4⟩ := h
  unfold mLineQ mLineP
  have hk := mWh_le t q
  generalize mWh t q = k at hk
  split
  · unfold MP
    rw [mFail_o _ _ (by decide) (by decide), mFail_o _ _ (by decide) (by decide)]
    exact ⟨h1, h2, h3, h4⟩
  · have w2 : mL4 t n q pg k 2 ≤ 1 := by
      unfold mL4
      rw [mStep_o _ _ _ (by omega)]
      show rb _ ≤ 1
      exact rb_le1 _
    have w1 : mL4 t n q pg k 1 = q 1 := mL4_o _ _ _ _ _ (by omega) (by omega)
    split
    · unfold MP
      rw [w1]
      exact ⟨h1, h2, h3, w2⟩
    · next h5 =>
      have hf := full_0 (t := t) (n := n) (q := q) (pg := pg) (k := k) (by omega)
      have hff := mFull_f hf.2.1
      have s1 : mStep t n (mL6 t n q pg k) 1 = mMoreQ t n (mL4 t n q pg k) k 1 := by
        rw [mStep_o _ _ _ (by omega)]
        unfold mL6 mL5
        split
        · exact mFail_o _ _ (by decide) (by decide)
        · rfl
      have s2 : mStep t n (mL6 t n q pg k) 2 ≤ 1 := by
        rw [mStep_o _ _ _ (by omega)]
        unfold mL6 mL5
        split
        · rw [mFail_o _ _ (by decide) (by decide), mMoreQ_3 _ _ _ _ (by omega)]; exact w2
        · rw [mMoreQ_3 _ _ _ _ (by omega)]; exact w2
      refine ⟨?_, ?_, ?_, s2⟩
      · rw [s1]
        unfold mMoreQ
        split
        · next k3 => rw [u1_s, w1]; have := hff.1 k3; omega
        · split
          · rw [mR4_o _ _ _ (by omega), w1]; exact h1
          · split
            · rw [mT3_o _ _ _ (by omega), w1]; exact h1
            · rw [mNum_o _ _ _ _ _ (by omega), w1]; exact h1
      · unfold mMoreP
        split
        · rw [w1, u1_n _ _ (by omega)]; exact h2
        · split
          · next k4 => have := hff.2.1 k4; unfold mRp; rw [u1_s]; omega
          · split
            · unfold mTp; rw [u1_n _ _ (by omega), u1_n _ _ (by omega), u1_n _ _ (by omega), u1_n _ _ (by omega)]; exact h2
            · rw [u1_n _ _ (by omega)]; exact h2
      · unfold mMoreP
        split
        · rw [w1, u1_n _ _ (by omega)]; exact h3
        · split
          · next k4 => have := hff.2.1 k4; unfold mRp; rw [u1_n _ _ (by omega), u1_n _ _ (by omega), u1_n _ _ (by omega), u1_n _ _ (by omega)]; exact h3
          · split
            · next k5 => have := hff.2.2 k5; unfold mTp; rw [u1_s]; omega
            · rw [u1_n _ _ (by omega)]; exact h3
theorem inL_nn {a b c : Nat} (ha : a < 2 ^ 31) (hb : b < 2 ^ 31) (hc : c < 2 ^ 31) : inL (lN a) (lN b) (lN c) = (decide (b ≤ a) && decide (a ≤ c)) := by
  unfold inL
  rw [decide_eq_decide.mpr (lN_le hb ha), decide_eq_decide.mpr (lN_le ha hc)]
theorem vl_0 (t : Nat → Nat) (a : Nat) : vl t a a = 0 := by unfold vl; rw [Nat.sub_self]; rfl
theorem vl_s {t : Nat → Nat} {a b : Nat} (h : a ≤ b) : vl t a (b + 1) = 10 * vl t a b + t b - 48 := by
  unfold vl
  rw [show b + 1 - a = (b - a) + 1 by omega]
  show 10 * vlF t a (b - a) + t (a + (b - a)) - 48 = _
  rw [show a + (b - a) = b by omega]
theorem nmh_7 {t : Nat → Nat} {q : Nat → Nat} (h : q 9 ≠ 1 ∨ ∀ j, j < 7 → isN t (q 8) (q 7) (strM.getD j []) = false) : mWh t q = 7 := by
  unfold mWh
  by_cases e : q 9 = 1
  · rw [if_pos e]; exact nameN_7 (h.resolve_left (fun z => z e))
  · exact if_neg e
theorem MI.l1 {n : Nat} {q pg : Nat → Nat} {k : Nat} (h : MI n q) : MI n (mL1 q pg k) := by
  unfold mL1
  split
  · exact h.fail (by decide)
  · exact h
theorem mL1_o (q pg : Nat → Nat) (k : Nat) {j : Nat} (h5 : j ≠ 5) (h6 : j ≠ 6) : mL1 q pg k j = q j := by
  unfold mL1
  split
  · exact mFail_o _ _ h5 h6
  · rfl
theorem MI.l5 {t : Nat → Nat} {n : Nat} {q pg : Nat → Nat} {k : Nat} (h : MI n q) : MI n (mL5 t n q pg k) := h.l4.more
theorem MP.l4 {t : Nat → Nat} {n : Nat} {q pg : Nat → Nat} {k : Nat} (h : MP q pg) : MP (mL4 t n q pg k) pg := by
  obtain ⟨h1, h2, h3, h4⟩ := h
  unfold MP
  rw [mL4_o _ _ _ _ _ (by omega) (by omega)]
  refine ⟨h1, h2, h3, ?_⟩
  unfold mL4
  rw [mStep_o _ _ _ (by omega)]
  show rb _ ≤ 1
  exact rb_le1 _
theorem full_4 {t : Nat → Nat} {n : Nat} {q pg : Nat → Nat} {k : Nat} (h : mL4 t n q pg k 5 = 0) : mFull (mL4 t n q pg k) pg k = false := by
  have e := (full_0 h).2.1
  unfold mFull at e ⊢
  rw [mL4_o _ _ _ _ _ (by omega) (by omega)]
  exact e
theorem MI.of0 {n : Nat} {q : Nat → Nat} (h : q 10 ≤ 99) (h9 : q 9 ≤ 3) (h5 : q 5 = 0) (h7 : q 7 = 0) (h8 : q 8 = 0) : MI n q := ⟨by omega, by omega, by omega, h, h9⟩
theorem lineR_t {t : Nat → Nat} {n : Nat} {r : Nat → Nat} {wt : Bool} {G : Nat → Nat → Nat} (h : cWh t r ≤ 3) : cLineR t n r wt G = cTreeR t n r G := if_pos h
theorem lineG_t {t : Nat → Nat} {n : Nat} {r : Nat → Nat} {wt : Bool} {G : Nat → Nat → Nat} {w : Nat} (h : cWh t r = w) (h3 : w ≤ 3) : cLineG t n r wt G = cTreeG t n w r G := by
  unfold cLineG
  rw [h, if_pos h3]
theorem lineR_r {t : Nat → Nat} {n : Nat} {r : Nat → Nat} {wt : Bool} {G : Nat → Nat → Nat} (h : cWh t r = 4) : cLineR t n r wt G = cRootR t n r G := by
  unfold cLineR
  rw [h, if_neg (by decide), if_pos rfl]
theorem lineG_r {t : Nat → Nat} {n : Nat} {r : Nat → Nat} {wt : Bool} {G : Nat → Nat → Nat} (h : cWh t r = 4) : cLineG t n r wt G = cRootG t n r G := by
  unfold cLineG
  rw [h, if_neg (by decide), if_pos rfl]
theorem lineR_a {t : Nat → Nat} {n : Nat} {r : Nat → Nat} {wt : Bool} {G : Nat → Nat → Nat} (h : cWh t r = 5) : cLineR t n r wt G = cTalkR t n r G := by
  unfold cLineR
  rw [h, if_neg (by decide), if_neg (by decide), if_pos rfl]
theorem lineG_a {t : Nat → Nat} {n : Nat} {r : Nat → Nat} {wt : Bool} {G : Nat → Nat → Nat} (h : cWh t r = 5) : cLineG t n r wt G = cTalkG t n r G := by
  unfold cLineG
  rw [h, if_neg (by decide), if_neg (by decide), if_pos rfl]
theorem lineR_w {t : Nat → Nat} {n : Nat} {r : Nat → Nat} {wt : Bool} {G : Nat → Nat → Nat} (h : cWh t r = 6) : cLineR t n r wt G = cWindR t n r wt := by
  unfold cLineR
  rw [h, if_neg (by decide), if_neg (by decide), if_neg (by decide), if_pos rfl]
theorem lineG_w {t : Nat → Nat} {n : Nat} {r : Nat → Nat} {wt : Bool} {G : Nat → Nat → Nat} (h : cWh t r = 6) : cLineG t n r wt G = cWindG t n r wt G := by
  unfold cLineG
  rw [h, if_neg (by decide), if_neg (by decide), if_neg (by decide), if_pos rfl]
theorem lineR_n {t : Nat → Nat} {n : Nat} {r : Nat → Nat} {wt : Bool} {G : Nat → Nat → Nat} (h : cWh t r = 7) : cLineR t n r wt G = cFail r 2 := by
  unfold cLineR
  rw [h, if_neg (by decide), if_neg (by decide), if_neg (by decide), if_neg (by decide)]
theorem lineG_n {t : Nat → Nat} {n : Nat} {r : Nat → Nat} {wt : Bool} {G : Nat → Nat → Nat} (h : cWh t r = 7) : cLineG t n r wt G = G := by
  unfold cLineG
  rw [h, if_neg (by decide), if_neg (by decide), if_neg (by decide), if_neg (by decide)]
theorem lineW_y {t : Nat → Nat} {r : Nat → Nat} {wt : Bool} (h : cWh t r = 6) : cLineW t r wt = true := if_pos h
theorem lineW_n {t : Nat → Nat} {r : Nat → Nat} {wt : Bool} (h : cWh t r ≠ 6) : cLineW t r wt = wt := if_neg h
theorem cIt_01 (t : Nat → Nat) (n : Nat) (r : Nat → Nat) (G : Nat → Nat → Nat) : (cIt t n r G 0).1 = cTok t n r := rfl
theorem cIt_02 (t : Nat → Nat) (n : Nat) (r : Nat → Nat) (G : Nat → Nat → Nat) : (cIt t n r G 0).2.1 = false := rfl
theorem cIt_03 (t : Nat → Nat) (n : Nat) (r : Nat → Nat) (G : Nat → Nat → Nat) : (cIt t n r G 0).2.2 = G := rfl
theorem cIt_1 (t : Nat → Nat) (n : Nat) (r : Nat → Nat) (G : Nat → Nat → Nat) (k : Nat) : (cIt t n r G (k + 1)).1 = cLineR t n (cIt t n r G k).1 (cIt t n r G k).2.1 (cIt t n r G k).2.2 := rfl
theorem cIt_2 (t : Nat → Nat) (n : Nat) (r : Nat → Nat) (G : Nat → Nat → Nat) (k : Nat) : (cIt t n r G (k + 1)).2.1 = cLineW t (cIt t n r G k).1 (cIt t n r G k).2.1 := rfl
theorem cIt_3 (t : Nat → Nat) (n : Nat) (r : Nat → Nat) (G : Nat → Nat → Nat) (k : Nat) : (cIt t n r G (k + 1)).2.2 = cLineG t n (cIt t n r G k).1 (cIt t n r G k).2.1 (cIt t n r G k).2.2 := rfl
/-! reading: the rows of the reference's loops -/
def zrow (g : Nat → Nat) : Nat → Nat → Nat
  | 0 => g
  | k + 1 => u1 (zrow g k) k 0
theorem zrow_lo (g : Nat → Nat) : ∀ k j, j < k → zrow g k j = 0 := by
  intro k
  induction k with
  | zero => intro j hj; exact absurd hj (Nat.not_lt_zero j)
  | succ k ih =>
    intro j hj
    show u1 (zrow g k) k 0 j = 0
    by_cases e : j = k
    · rw [e, u1_s]
    · rw [u1_n _ _ (by omega)]; exact ih j (by omega)
def crow (r g : Nat → Nat) : Nat → Nat → Nat
  | 0 => g
  | k + 1 => u1 (crow r g k) k (r k)
theorem crow_lo (r g : Nat → Nat) : ∀ k j, j < k → crow r g k j = r j := by
  intro k
  induction k with
  | zero => intro j hj; exact absurd hj (Nat.not_lt_zero j)
  | succ k ih =>
    intro j hj
    show u1 (crow r g k) k (r k) j = r j
    by_cases e : j = k
    · rw [e, u1_s]
    · rw [u1_n _ _ (by omega)]; exact ih j (by omega)
theorem crow_hi (r g : Nat → Nat) : ∀ k j, k ≤ j → crow r g k j = g j := by
  intro k
  induction k with
  | zero => intro j _; rfl
  | succ k ih =>
    intro j hj
    show u1 (crow r g k) k (r k) j = g j
    rw [u1_n _ _ (by omega)]; exact ih j (by omega)
/-- the reference's reading behind k lines: its row, its page, the greatest tree named -/
def mIt (t : Nat → Nat) (n : Nat) (q0 p0 : Nat → Nat) (h0 : Int32) : Nat → (Nat → Nat) × (Nat → Nat) × Int32
  | 0 => (mStep t n q0, p0, h0)
  | k + 1 => (mLineQ t n (mIt t n q0 p0 h0 k).1 (mIt t n q0 p0 h0 k).2.1, mLineP t n (mIt t n q0 p0 h0 k).1 (mIt t n q0 p0 h0 k).2.1, mLineH t n (mIt t n q0 p0 h0 k).1 (mIt t n q0 p0 h0 k).2.1 (mIt t n q0 p0 h0 k).2.2)
theorem mIt_01 (t : Nat → Nat) (n : Nat) (q p : Nat → Nat) (h : Int32) : (mIt t n q p h 0).1 = mStep t n q := rfl
theorem mIt_02 (t : Nat → Nat) (n : Nat) (q p : Nat → Nat) (h : Int32) : (mIt t n q p h 0).2.1 = p := rfl
theorem mIt_03 (t : Nat → Nat) (n : Nat) (q p : Nat → Nat) (h : Int32) : (mIt t n q p h 0).2.2 = h := rfl
theorem mIt_1 (t : Nat → Nat) (n : Nat) (q p : Nat → Nat) (h : Int32) (k : Nat) : (mIt t n q p h (k + 1)).1 = mLineQ t n (mIt t n q p h k).1 (mIt t n q p h k).2.1 := rfl
theorem mIt_2 (t : Nat → Nat) (n : Nat) (q p : Nat → Nat) (h : Int32) (k : Nat) : (mIt t n q p h (k + 1)).2.1 = mLineP t n (mIt t n q p h k).1 (mIt t n q p h k).2.1 := rfl
theorem mIt_3 (t : Nat → Nat) (n : Nat) (q p : Nat → Nat) (h : Int32) (k : Nat) : (mIt t n q p h (k + 1)).2.2 = mLineH t n (mIt t n q p h k).1 (mIt t n q p h k).2.1 (mIt t n q p h k).2.2 := rfl
/-- the row as a reading begins -/
def mQb (q : Nat → Nat) : Nat → Nat := u1 (u1 (u1 (u1 q 5 0) 7 0) 1 0) 2 0
theorem mQb_3 (q : Nat → Nat) : mQb q 3 = q 3 := rfl
theorem MI.step0 {t : Nat → Nat} {n : Nat} {q : Nat → Nat} (h5 : q 5 = 0) (h2 : q 7 ≤ n) : MI n (mStep t n q) := by
  have h3 : q 5 ≤ 6 := by omega
  unfold mStep
  rw [if_neg (by omega)]
  obtain ⟨s1, s2, s3, s4⟩ := eor_b (t := t) (n := n) (lo := 32) (hi := 32) h2
  generalize eor t n 32 32 (q 7) = s at s1 s2 s3 s4 ⊢
  obtain ⟨a1, a2, a3, a4⟩ := eor_b (t := t) (n := n) (lo := 97) (hi := 122) s2
  obtain ⟨d1, d2, d3, d4⟩ := eor_b (t := t) (n := n) (lo := 48) (hi := 57) s2
  have hv := vl_99 (t := t) (n := n) (s := s) s2 rfl
  unfold mStp
  split
  · exact ⟨Nat.le_refl s, s2, h3, Nat.zero_le 99, Nat.zero_le 3⟩
  · split
    · exact ⟨a1, a2, h3, Nat.zero_le 99, (by show 1 ≤ 3; decide)⟩
    · have h2q : MI n (mQ2 t n q s) := ⟨d1, d2, h3, hv, (by show 2 ≤ 3; decide)⟩
      have h3q : s < n → MI n (mQ3 q s) := fun hs => ⟨(by show s ≤ s + 1; omega), (by show s + 1 ≤ n; omega), h3, Nat.zero_le 99, (by show 3 ≤ 3; decide)⟩
      split
      · split
        · exact h2q.fail (by decide)
        · exact h2q
      · split
        · exact h3q (by omega)
        · exact (h3q (by omega)).fail (by decide)
def MJ (q : Nat → Nat) : Prop := q 5 = 0 → q 9 ≠ 0 → q 8 < q 7
theorem MJ.step {t : Nat → Nat} {n : Nat} {q : Nat → Nat} (h2 : q 7 ≤ n) : MJ (mStep t n q) := by
  unfold mStep
  split
  · intro h5; omega
  · obtain ⟨s1, s2, s3, s4⟩ := eor_b (t := t) (n := n) (lo := 32) (hi := 32) h2
    generalize eor t n 32 32 (q 7) = s at s1 s2 s3 s4 ⊢
    unfold mStp
    split
    · intro _ h9; exact absurd rfl h9
    · split
      · next ha =>
        intro _ _
        show s < eor t n 97 122 s
        rw [eor_y (by omega) ha.1 ha.2]
        exact (eor_b (t := t) (n := n) (lo := 97) (hi := 122) (p := s + 1) (by omega)).1
      · split
        · next hd =>
          have h : s < eor t n 48 57 s := by
            rw [eor_y (by omega) hd.1 hd.2]
            exact (eor_b (t := t) (n := n) (lo := 48) (hi := 57) (p := s + 1) (by omega)).1
          split
          · intro h5; exact absurd h5 (mFail_0 _ (by decide))
          · intro _ _; exact h
        · split
          · intro _ _; exact Nat.lt_succ_self s
          · intro h5; exact absurd h5 (mFail_0 _ (by decide))
theorem MJ.line {t : Nat → Nat} {n : Nat} {q pg : Nat → Nat} (h : MI n q) : MJ (mLineQ t n q pg) := by
  unfold mLineQ
  split
  · intro h5; exact absurd h5 (mFail_0 _ (by decide))
  · split
    · intro h5; omega
    · exact MJ.step h.l6.2.1
theorem mFail_8 (q : Nat → Nat) (c : Nat) : mFail q c 8 = q 8 := mFail_o _ _ (by decide) (by decide)
theorem mStep_8 {t : Nat → Nat} {n : Nat} {q : Nat → Nat} (h : MI n q) : q 8 ≤ mStep t n q 8 ∧ (q 5 = 0 → q 7 ≤ mStep t n q 8) := by
  obtain ⟨h1, h2, h3, h4, h5⟩ := h
  unfold mStep
  split
  · exact ⟨Nat.le_refl _, fun z => by omega⟩
  · obtain ⟨s1, s2, s3, s4⟩ := eor_b (t := t) (n := n) (lo := 32) (hi := 32) h2
    generalize eor t n 32 32 (q 7) = s at s1 s2 s3 s4 ⊢
    have e : mStp t n q s 8 = s := by
      unfold mStp
      split
      · rfl
      · split
        · rfl
        · split
          · split
            · rw [mFail_8]; rfl
            · rfl
          · split
            · rfl
            · rw [mFail_8]; rfl
    rw [e]
    exact ⟨by omega, fun _ => s1⟩
theorem mChk_8 (q : Nat → Nat) (lo hi : Nat) : mChk q lo hi 8 = q 8 := mChk_o _ _ _ (by decide) (by decide)
theorem mNum_8 {t : Nat → Nat} {n : Nat} {q : Nat → Nat} {lo hi : Nat} (h : MI n q) : q 8 ≤ mNum t n q lo hi 8 := by
  have a := (mStep_8 (t := t) (h.chk (lo := lo) (hi := hi))).1
  rw [mChk_8] at a
  exact a
theorem mMoreQ_8 {t : Nat → Nat} {n : Nat} {q : Nat → Nat} {k : Nat} (h : MI n q) : q 8 ≤ mMoreQ t n q k 8 := by
  unfold mMoreQ
  split
  · exact Nat.le_refl _
  · split
    · have a1 : q 8 ≤ mR1 t n q 8 := mNum_8 h
      have a2 : mR2 t n q 8 = mR1 t n q 8 := by
        unfold mR2
        split
        · exact mFail_8 _ _
        · rfl
      have a3 : mR2 t n q 8 ≤ mR3 t n q 8 := mNum_8 h.r2
      have a4 : mR3 t n q 8 ≤ mR4 t n q 8 := mNum_8 h.r2.num
      omega
    · split
      · have a1 : q 8 ≤ mT1 t n q 8 := mNum_8 h
        have a2 : mT1 t n q 8 ≤ mT2 t n q 8 := mNum_8 h.num
        have a3 : mT2 t n q 8 ≤ mT3 t n q 8 := mNum_8 h.num.num
        omega
      · exact mNum_8 h
theorem mLine_8 {t : Nat → Nat} {n : Nat} {q pg : Nat → Nat} (h : MI n q) (h7 : mLineQ t n q pg 5 = 0) : q 7 ≤ mLineQ t n q pg 8 := by
  unfold mLineQ at h7 ⊢
  generalize mWh t q = k at h7 ⊢
  by_cases e7 : k = 7
  · rw [if_pos e7] at h7; exact absurd h7 (mFail_0 _ (by decide))
  · rw [if_neg e7] at h7 ⊢
    by_cases e5 : 0 < mL4 t n q pg k 5
    · rw [if_pos e5] at h7; omega
    · rw [if_neg e5] at h7 ⊢
      have f := full_0 (t := t) (n := n) (q := q) (pg := pg) (k := k) (by omega)
      have b0 : mL3 q pg k = u1 q 2 (rb (decide (q 2 ≠ 0) || decide (k = 6))) := by
        unfold mL3 mL2 mL1
        rw [if_neg f.2.2, f.2.1, if_neg (by decide)]
      have b1 : q 7 ≤ mL4 t n q pg k 8 := by
        have a := (mStep_8 (t := t) (n := n) (q := mL3 q pg k) h.l3).2 (by rw [b0]; exact f.1)
        rw [b0] at a
        unfold mL4
        rw [b0]
        exact a
      have b2 : mL4 t n q pg k 8 ≤ mL5 t n q pg k 8 := mMoreQ_8 h.l4
      have b3 : mL6 t n q pg k 8 = mL5 t n q pg k 8 := by
        unfold mL6
        split
        · exact mFail_8 _ _
        · rfl
      have b4 := (mStep_8 (t := t) (n := n) (q := mL6 t n q pg k) h.l6).1
      omega
/-- what is still to be read -/
def mMs (n : Nat) (q : Nat → Nat) : Nat := if q 5 = 0 then n + 1 - q 8 else 0
theorem mMs_lt {t : Nat → Nat} {n : Nat} {q pg : Nat → Nat} (h : MI n q) (hJ : MJ q) (h5 : q 5 = 0) (h9 : q 9 ≠ 0) : mMs n (mLineQ t n q pg) < mMs n q := by
  have hj := hJ h5 h9
  obtain ⟨h1, h2, h3, h4, h6⟩ := id h
  unfold mMs
  rw [if_pos h5]
  by_cases e : mLineQ t n q pg 5 = 0
  · rw [if_pos e]
    have a := mLine_8 h e
    omega
  · rw [if_neg e]
    omega
theorem mIt_w {t : Nat → Nat} {n : Nat} {q p : Nat → Nat} {h : Int32} : ∀ k, MI n (mIt t n (mQb q) (zrow p 63) h k).1 ∧ MP (mIt t n (mQb q) (zrow p 63) h k).1 (mIt t n (mQb q) (zrow p 63) h k).2.1 ∧ MJ (mIt t n (mQb q) (zrow p 63) h k).1 ∧ (mIt t n (mQb q) (zrow p 63) h k).1 3 = q 3 := by
  intro k
  induction k with
  | zero =>
    show MI n (mStep t n (mQb q)) ∧ MP (mStep t n (mQb q)) (zrow p 63) ∧ MJ (mStep t n (mQb q)) ∧ mStep t n (mQb q) 3 = q 3
    refine ⟨MI.step0 rfl (Nat.zero_le n), ?_, MJ.step (Nat.zero_le n), ?_⟩
    · unfold MP
      rw [mStep_o _ _ _ (by omega), mStep_o _ _ _ (by omega), zrow_lo _ _ _ (by decide), zrow_lo _ _ _ (by decide)]
      exact ⟨Nat.zero_le 6, Nat.zero_le 9, Nat.zero_le 6, Nat.zero_le 1⟩
    · rw [mStep_o _ _ _ (by omega)]; rfl
  | succ k ih =>
    obtain ⟨i1, i2, i3, i4⟩ := ih
    refine ⟨i1.line, i2.line, MJ.line i1, ?_⟩
    rw [mIt_1, mLineQ_3 _ _ _ _ (by omega), i4]
/-- the end of a reading -/
def mEnd (q : Nat → Nat) (hi : Int32) : Nat → Nat := if q 5 = 0 ∧ ¬ hi < nI (q 1) then mFail q 6 else q
theorem mEnd_6 {n : Nat} {q : Nat → Nat} {hi : Int32} (h : MI n q) : MI n (mEnd q hi) := by
  unfold mEnd
  split
  · exact h.fail (by decide)
  · exact h
def mTQ (q : Nat → Nat) : Nat → Nat := if q 5 = 0 then u1 (u1 (u1 (u1 q 3 0) 4 (q 5)) 0 (q 1)) 11 0 else u1 (u1 q 3 0) 4 (q 5)
theorem mIt_u {t : Nat → Nat} {n : Nat} {q p : Nat → Nat} {h : Int32} : ∀ k, (∀ j, j < k → (mIt t n (mQb q) (zrow p 63) h j).1 5 = 0 ∧ (mIt t n (mQb q) (zrow p 63) h j).1 9 ≠ 0) → (mIt t n (mQb q) (zrow p 63) h k).1 5 = 0 → k ≤ (mIt t n (mQb q) (zrow p 63) h k).1 8 := by
  intro k
  induction k with
  | zero => intro _ _; exact Nat.zero_le _
  | succ k ih =>
    intro hp h5
    obtain ⟨i1, i2, i3, i4⟩ := mIt_w (t := t) (n := n) (q := q) (p := p) (h := h) k
    obtain ⟨j5, j9⟩ := hp k (Nat.lt_succ_self k)
    have a := ih (fun j hj => hp j (by omega)) j5
    have b := i3 j5 j9
    rw [mIt_1] at h5 ⊢
    have c := mLine_8 i1 h5
    omega
