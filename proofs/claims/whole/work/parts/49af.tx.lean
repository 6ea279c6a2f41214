/-! the two readings of a text: the lines -/
section TLN
variable {t t' : Nat → Nat} {n : Nat} {r q pg : Nat → Nat} {G : Nat → Nat → Nat} {wt : Bool} {hi : Int32}
theorem ln_tree {k : Nat} (ht : ∀ j, j < n → t j = t' j) (h : TS t r q) (hI : RI t n r) (hd : DR G pg (q 1) (q 2) wt hi) (hk : mWh t' q = k) (k3 : k ≤ 3) (hD : DI G) : TS t (cTreeR t n r G) (mLineQ t' n q pg) ∧ (cTreeR t n r G 0 = 0 → DR (cTreeG t n k r G) (mLineP t' n q pg) (mLineQ t' n q pg 1) (mLineQ t' n q pg 2) wt (mLineH t' n q pg hi)) := by
  have e80 : G 8 0 = q 1 := hd.1
  have hx : mL2 q pg k = if decide (G 8 0 < 6) = true then q else mFail q 5 := by
    unfold mL2 mL1
    rw [if_neg (fun z => by omega)]
    have hf : mFull q pg k = decide (q 1 = 6) := by
      unfold mFull
      rw [decide_eq_true k3, decide_eq_false (show ¬ k = 4 by omega), decide_eq_false (show ¬ k = 5 by omega), Bool.true_and, Bool.false_and, Bool.false_and, Bool.or_false, Bool.or_false]
    have h6 := hD.1
    rw [hf]
    by_cases e : q 1 = 6
    · rw [decide_eq_true e, decide_eq_false (by omega), if_pos rfl, if_neg (by decide)]
    · rw [decide_eq_false e, decide_eq_true (by omega), if_neg (by decide), if_pos rfl]
  have h4 : TS t (cT0 t n r G) (mL4 t' n q pg k) := h.name2 ht hI ⟨by decide, by decide⟩ hx
  have I4 : RI t n (cT0 t n r G) := hI.name ⟨by decide, by decide⟩
  have l1 : mL4 t' n q pg k 1 = q 1 := mL4_o _ _ _ _ _ (by omega) (by omega)
  have l2 : mL4 t' n q pg k 2 = q 2 := by
    rw [mL4_2, hd.2.2.2.2.2.1, rb_rb, decide_eq_false (by omega), Bool.or_false]
  by_cases e1 : cT0 t n r G 0 = 0
  · obtain ⟨m1, m2, m3⟩ := mLine_g (pg := pg) (hi := hi) hk (by omega) (h4.1 ▸ e1)
    have e5 : mL5 t' n q pg k = u1 (mL4 t' n q pg k) 1 (mL4 t' n q pg k 1 + 1) := if_pos k3
    have h5 : TS t (cT0 t n r G) (mL5 t' n q pg k) := by rw [e5]; exact h4.u (by decide)
    refine ⟨by rw [m1]; exact h5.sign ht I4, fun e9 => ?_⟩
    rw [m1, m2, m3, mSg_o _ _ _ (by decide), mSg_o _ _ _ (by decide), e5, u1_s, u1_n _ _ (by decide), l1, l2]
    have eG : cTreeG t n k r G = addTr G k := if_pos e9
    have eP : mMoreP t' n (mL4 t' n q pg k) pg k = u1 pg (q 1) k := by unfold mMoreP; rw [if_pos k3, l1]
    have eH : mMoreH t' n (mL4 t' n q pg k) hi k = hi := if_pos k3
    rw [eG, eP, eH]
    exact hd.tree (tree_0 e9)
  · have eR : cTreeR t n r G = cT0 t n r G := sign_n e1
    rw [eR, mLine_d (hi := hi) hk (by omega) (by have := h4.1; omega)]
    exact ⟨h4, fun z => absurd z e1⟩
theorem ln_root (ht : ∀ j, j < n → t j = t' j) (h : TS t r q) (hI : RI t n r) (hd : DR G pg (q 1) (q 2) wt hi) (hk : mWh t' q = 4) (hD : DI G) : TS t (cRootR t n r G) (mLineQ t' n q pg) ∧ (cRootR t n r G 0 = 0 → DR (cRootG t n r G) (mLineP t' n q pg) (mLineQ t' n q pg 1) (mLineQ t' n q pg 2) wt (mLineH t' n q pg hi)) := by
  have e81 : G 8 1 = pg 42 := hd.2.1
  have hx : mL2 q pg 4 = if decide (G 8 1 < 9) = true then q else mFail q 5 := by
    unfold mL2 mL1
    rw [if_neg (fun z => by omega)]
    have hf : mFull q pg 4 = decide (pg 42 = 9) := by
      unfold mFull
      rw [decide_eq_false (show ¬ 4 ≤ 3 by omega), decide_eq_true rfl, decide_eq_false (show ¬ 4 = 5 by omega), Bool.true_and, Bool.false_and, Bool.false_and, Bool.false_or, Bool.or_false]
    have h6 := hD.2.1
    rw [hf]
    by_cases e : pg 42 = 9
    · rw [decide_eq_true e, decide_eq_false (by omega), if_pos rfl, if_neg (by decide)]
    · rw [decide_eq_false e, decide_eq_true (by omega), if_neg (by decide), if_pos rfl]
  have h4 : TS t (cR1 t n r G) (mL4 t' n q pg 4) := h.name2 ht hI ⟨by decide, by decide⟩ hx
  have I4 : RI t n (cR1 t n r G) := hI.name ⟨by decide, by decide⟩
  have l1 : mL4 t' n q pg 4 1 = q 1 := mL4_o _ _ _ _ _ (by omega) (by omega)
  have l2 : mL4 t' n q pg 4 2 = q 2 := by
    rw [mL4_2, hd.2.2.2.2.2.1, rb_rb, decide_eq_false (by omega), Bool.or_false]
  by_cases e1 : cR1 t n r G 0 = 0
  · obtain ⟨m1, m2, m3⟩ := mLine_g (pg := pg) (hi := hi) hk (by omega) (h4.1 ▸ e1)
    have h2 : TS t (cR2 t n r G) (mR1 t' n (mL4 t' n q pg 4)) := h4.num ht I4
    have I2 : RI t n (cR2 t n r G) := I4.num
    have hv : cR2 t n r G 0 = 0 → nI (cVal t (cR1 t n r G)) = nI (mVal (mL4 t' n q pg 4) 0 5) ∧ mVal (mL4 t' n q pg 4) 0 5 ≤ 5 := fun z => by
      have v := h4.val I4 z
      have b := (num_0 z).2.2.2.1
      rw [v]; exact ⟨rfl, b⟩
    have h3 : TS t (cR3 t n r G) (mR3 t' n (mL4 t' n q pg 4)) := (h2.chk2 hv I2).step ht I2.chk
    have I3 : RI t n (cR3 t n r G) := I2.num
    have h5 : TS t (cR4 t n r G) (mR4 t' n (mL4 t' n q pg 4)) := h3.num ht I3
    have I5 : RI t n (cR4 t n r G) := I3.num
    have e5 : mL5 t' n q pg 4 = mR4 t' n (mL4 t' n q pg 4) := by unfold mL5 mMoreQ; rw [if_neg (by decide), if_pos rfl]
    refine ⟨by rw [m1, e5]; exact h5.sign ht I5, fun e9 => ?_⟩
    rw [m1, m2, m3, mSg_o _ _ _ (by decide), mSg_o _ _ _ (by decide), e5, mR4_o _ _ _ (by omega), mR4_o _ _ _ (by omega), l1, l2]
    have z4 : cR4 t n r G 0 = 0 := (sign_0 e9).1
    have z3 : cR3 t n r G 0 = 0 := (num_0 z4).1
    have z2 : cR2 t n r G 0 = 0 := (num_0 z3).1
    have v1 : mVal (mL4 t' n q pg 4) 0 5 = cVal t (cR1 t n r G) := h4.val I4 z2
    have v2 : mVal (mR2 t' n (mL4 t' n q pg 4)) 0 5 = cVal t (cR2 t n r G) := h2.val2 hv I2 z3
    have v3 : mVal (mR3 t' n (mL4 t' n q pg 4)) 1 9 = cVal t (cR3 t n r G) := h3.val I3 z4
    have eG : cRootG t n r G = addRo G (cVal t (cR1 t n r G)) (cVal t (cR2 t n r G)) (cVal t (cR3 t n r G)) := if_pos e9
    have eP : mMoreP t' n (mL4 t' n q pg 4) pg 4 = u1 (u1 (u1 (u1 pg (6 + pg 42) (cVal t (cR1 t n r G))) (15 + pg 42) (cVal t (cR2 t n r G))) (24 + pg 42) (cVal t (cR3 t n r G))) 42 (pg 42 + 1) := by
      unfold mMoreP; rw [if_neg (by decide), if_pos rfl]; unfold mRp mRv1 mRv2 mRv3; rw [v1, v2, v3]
    have eH : mMoreH t' n (mL4 t' n q pg 4) hi 4 = hiM (hiM hi (cVal t (cR1 t n r G))) (cVal t (cR2 t n r G)) := by
      unfold mMoreH; rw [if_neg (by decide), if_pos rfl]; unfold mRh mRv1 mRv2; rw [v1, v2]
    rw [eG, eP, eH]
    exact hd.root hD (root_0 e9) (num_0 z2).2.2.2.1 (num_0 z3).2.2.2.1
  · have eR : cRootR t n r G = cR1 t n r G := by
      have f2 : cR2 t n r G = cR1 t n r G := num_n e1
      have f3 : cR3 t n r G = cR1 t n r G := by unfold cR3; rw [f2]; exact num_n e1
      have f4 : cR4 t n r G = cR1 t n r G := by unfold cR4; rw [f3]; exact num_n e1
      unfold cRootR; rw [f4]; exact sign_n e1
    rw [eR, mLine_d (hi := hi) hk (by omega) (by have := h4.1; omega)]
    exact ⟨h4, fun z => absurd z e1⟩
theorem ln_talk (ht : ∀ j, j < n → t j = t' j) (h : TS t r q) (hI : RI t n r) (hd : DR G pg (q 1) (q 2) wt hi) (hk : mWh t' q = 5) (hD : DI G) : TS t (cTalkR t n r G) (mLineQ t' n q pg) ∧ (cTalkR t n r G 0 = 0 → DR (cTalkG t n r G) (mLineP t' n q pg) (mLineQ t' n q pg 1) (mLineQ t' n q pg 2) wt (mLineH t' n q pg hi)) := by
  have e83 : G 8 3 = pg 62 := hd.2.2.1
  have hx : mL2 q pg 5 = if decide (G 8 3 < 6) = true then q else mFail q 5 := by
    unfold mL2 mL1
    rw [if_neg (fun z => by omega)]
    have hf : mFull q pg 5 = decide (pg 62 = 6) := by
      unfold mFull
      rw [decide_eq_false (show ¬ 5 ≤ 3 by omega), decide_eq_false (show ¬ 5 = 4 by omega), decide_eq_true rfl, Bool.true_and, Bool.false_and, Bool.false_and, Bool.false_or, Bool.false_or]
    have h6 := hD.2.2.1
    rw [hf]
    by_cases e : pg 62 = 6
    · rw [decide_eq_true e, decide_eq_false (by omega), if_pos rfl, if_neg (by decide)]
    · rw [decide_eq_false e, decide_eq_true (by omega), if_neg (by decide), if_pos rfl]
  have h4 : TS t (cT1 t n r G) (mL4 t' n q pg 5) := h.name2 ht hI ⟨by decide, by decide⟩ hx
  have I4 : RI t n (cT1 t n r G) := hI.name ⟨by decide, by decide⟩
  have l1 : mL4 t' n q pg 5 1 = q 1 := mL4_o _ _ _ _ _ (by omega) (by omega)
  have l2 : mL4 t' n q pg 5 2 = q 2 := by
    rw [mL4_2, hd.2.2.2.2.2.1, rb_rb, decide_eq_false (by omega), Bool.or_false]
  by_cases e1 : cT1 t n r G 0 = 0
  · obtain ⟨m1, m2, m3⟩ := mLine_g (pg := pg) (hi := hi) hk (by omega) (h4.1 ▸ e1)
    have h2 : TS t (cT2 t n r G) (mT1 t' n (mL4 t' n q pg 5)) := h4.num ht I4
    have I2 : RI t n (cT2 t n r G) := I4.num
    have h3 : TS t (cT3 t n r G) (mT2 t' n (mL4 t' n q pg 5)) := h2.num ht I2
    have I3 : RI t n (cT3 t n r G) := I2.num
    have h5 : TS t (cT4 t n r G) (mT3 t' n (mL4 t' n q pg 5)) := h3.num ht I3
    have I5 : RI t n (cT4 t n r G) := I3.num
    have e5 : mL5 t' n q pg 5 = mT3 t' n (mL4 t' n q pg 5) := by unfold mL5 mMoreQ; rw [if_neg (by decide), if_neg (by decide), if_pos rfl]
    refine ⟨by rw [m1, e5]; exact h5.sign ht I5, fun e9 => ?_⟩
    rw [m1, m2, m3, mSg_o _ _ _ (by decide), mSg_o _ _ _ (by decide), e5, mT3_o _ _ _ (by omega), mT3_o _ _ _ (by omega), l1, l2]
    have z4 : cT4 t n r G 0 = 0 := (sign_0 e9).1
    have z3 : cT3 t n r G 0 = 0 := (num_0 z4).1
    have z2 : cT2 t n r G 0 = 0 := (num_0 z3).1
    have v1 : mVal (mL4 t' n q pg 5) 0 23 = cVal t (cT1 t n r G) := h4.val I4 z2
    have v2 : mVal (mT1 t' n (mL4 t' n q pg 5)) 0 5 = cVal t (cT2 t n r G) := h2.val I2 z3
    have v3 : mVal (mT2 t' n (mL4 t' n q pg 5)) 1 60 = cVal t (cT3 t n r G) := h3.val I3 z4
    have eG : cTalkG t n r G = addTa G (cVal t (cT1 t n r G)) (cVal t (cT2 t n r G)) (cVal t (cT3 t n r G)) := if_pos e9
    have eP : mMoreP t' n (mL4 t' n q pg 5) pg 5 = u1 (u1 (u1 (u1 pg (44 + pg 62) (cVal t (cT1 t n r G))) (50 + pg 62) (cVal t (cT2 t n r G))) (56 + pg 62) (cVal t (cT3 t n r G))) 62 (pg 62 + 1) := by
      unfold mMoreP; rw [if_neg (by decide), if_neg (by decide), if_pos rfl]; unfold mTp mTv1 mTv2 mTv3; rw [v1, v2, v3]
    have eH : mMoreH t' n (mL4 t' n q pg 5) hi 5 = hiM hi (cVal t (cT2 t n r G)) := by
      unfold mMoreH; rw [if_neg (by decide), if_neg (by decide), if_pos rfl]; unfold mTv2; rw [v2]
    rw [eG, eP, eH]
    exact hd.talk hD (talk_0 e9) (num_0 z3).2.2.2.1
  · have eR : cTalkR t n r G = cT1 t n r G := by
      have f2 : cT2 t n r G = cT1 t n r G := num_n e1
      have f3 : cT3 t n r G = cT1 t n r G := by unfold cT3; rw [f2]; exact num_n e1
      have f4 : cT4 t n r G = cT1 t n r G := by unfold cT4; rw [f3]; exact num_n e1
      unfold cTalkR; rw [f4]; exact sign_n e1
    rw [eR, mLine_d (hi := hi) hk (by omega) (by have := h4.1; omega)]
    exact ⟨h4, fun z => absurd z e1⟩
theorem ln_wind (ht : ∀ j, j < n → t j = t' j) (h : TS t r q) (hI : RI t n r) (hd : DR G pg (q 1) (q 2) wt hi) (hk : mWh t' q = 6) (hD : DI G) : TS t (cWindR t n r wt) (mLineQ t' n q pg) ∧ (cWindR t n r wt 0 = 0 → DR (cWindG t n r wt G) (mLineP t' n q pg) (mLineQ t' n q pg 1) (mLineQ t' n q pg 2) true (mLineH t' n q pg hi)) := by
  have hx : mL2 q pg 6 = if (!wt) = true then q else mFail q 4 := by
    unfold mL2 mL1
    have hf : mFull q pg 6 = false := by
      unfold mFull
      rw [decide_eq_false (show ¬ 6 ≤ 3 by omega), decide_eq_false (show ¬ 6 = 4 by omega), decide_eq_false (show ¬ 6 = 5 by omega), Bool.false_and, Bool.false_and, Bool.false_and]; rfl
    rw [hf, if_neg (show ¬ false = true from Bool.false_ne_true), hd.2.2.2.2.2.1]
    cases wt with
    | true => rw [if_pos ⟨rfl, by decide⟩, if_neg (by decide)]
    | false => rw [if_neg (fun z => z.2 rfl), if_pos (by decide)]
  have h4 : TS t (cW1 t n r wt) (mL4 t' n q pg 6) := h.name2 ht hI ⟨by decide, by decide⟩ hx
  have I4 : RI t n (cW1 t n r wt) := hI.name ⟨by decide, by decide⟩
  have l1 : mL4 t' n q pg 6 1 = q 1 := mL4_o _ _ _ _ _ (by omega) (by omega)
  have l2 : mL4 t' n q pg 6 2 = 1 := by
    rw [mL4_2, decide_eq_true (show 6 = 6 from rfl), Bool.or_true]; rfl
  by_cases e1 : cW1 t n r wt 0 = 0
  · obtain ⟨m1, m2, m3⟩ := mLine_g (pg := pg) (hi := hi) hk (by omega) (h4.1 ▸ e1)
    have h5 : TS t (cW2 t n r wt) (mNum t' n (mL4 t' n q pg 6) 0 20) := h4.num ht I4
    have I5 : RI t n (cW2 t n r wt) := I4.num
    have e5 : mL5 t' n q pg 6 = mNum t' n (mL4 t' n q pg 6) 0 20 := by unfold mL5 mMoreQ; rw [if_neg (by decide), if_neg (by decide), if_neg (by decide)]
    refine ⟨by rw [m1, e5]; exact h5.sign ht I5, fun e9 => ?_⟩
    rw [m1, m2, m3, mSg_o _ _ _ (by decide), mSg_o _ _ _ (by decide), e5, mNum_o _ _ _ _ _ (by omega), mNum_o _ _ _ _ _ (by omega), l1, l2]
    have z2 : cW2 t n r wt 0 = 0 := (sign_0 e9).1
    have v1 : mVal (mL4 t' n q pg 6) 0 20 = cVal t (cW1 t n r wt) := h4.val I4 z2
    have eP : mMoreP t' n (mL4 t' n q pg 6) pg 6 = u1 pg 43 (cVal t (cW1 t n r wt)) := by unfold mMoreP; rw [if_neg (by decide), if_neg (by decide), if_neg (by decide), v1]
    have eH : mMoreH t' n (mL4 t' n q pg 6) hi 6 = hi := by unfold mMoreH; rw [if_neg (by decide), if_neg (by decide), if_neg (by decide)]
    rw [eP, eH]
    exact hd.wind hD (num_0 z2).2.2.2.1
  · have eR : cWindR t n r wt = cW1 t n r wt := by
      have f2 : cW2 t n r wt = cW1 t n r wt := num_n e1
      unfold cWindR; rw [f2]; exact sign_n e1
    rw [eR, mLine_d (hi := hi) hk (by omega) (by have := h4.1; omega)]
    exact ⟨h4, fun z => absurd z e1⟩
theorem cWh_le (t r : Nat → Nat) : cWh t r ≤ 7 := by
  unfold cWh; split
  · exact nameN_le _ _ _
  · exact Nat.le_refl 7
theorem ln_all (ht : ∀ j, j < n → t j = t' j) (h : TS t r q) (hI : RI t n r) (hd : DR G pg (q 1) (q 2) wt hi) (hD : DI G) (e : r 0 = 0) : TS t (cLineR t n r wt G) (mLineQ t' n q pg) ∧ (cLineR t n r wt G 0 = 0 → DR (cLineG t n r wt G) (mLineP t' n q pg) (mLineQ t' n q pg 1) (mLineQ t' n q pg 2) (cLineW t r wt) (mLineH t' n q pg hi)) := by
  have hk := h.wh ht hI e
  have h7 := cWh_le t r
  by_cases k3 : cWh t r ≤ 3
  · rw [lineR_t k3, lineG_t rfl k3, lineW_n (by omega)]
    exact ln_tree ht h hI hd hk k3 hD
  · rcases (show cWh t r = 4 ∨ cWh t r = 5 ∨ cWh t r = 6 ∨ cWh t r = 7 by omega) with k | k | k | k
    · rw [lineR_r k, lineG_r k, lineW_n (by omega)]
      exact ln_root ht h hI hd (hk.trans k) hD
    · rw [lineR_a k, lineG_a k, lineW_n (by omega)]
      exact ln_talk ht h hI hd (hk.trans k) hD
    · rw [lineR_w k, lineG_w k, lineW_y k]
      exact ln_wind ht h hI hd (hk.trans k) hD
    · rw [lineR_n k]
      have eQ : mLineQ t' n q pg = mFail q 2 := by unfold mLineQ; rw [hk, k, if_pos rfl]
      rw [eQ]
      exact ⟨h.fail (by decide), fun z => absurd z (cFail_0 r (by decide))⟩
end TLN
/-! as many lines -/
theorem it_0 {t t' : Nat → Nat} {n : Nat} {K0 q p : Nat → Nat} {D0 : Nat → Nat → Nat} (ht : ∀ j, j < n → t j = t' j) : TS t (cIt t n (rst K0) (clr D0) 0).1 (mIt t' n (mQb q) (zrow p 63) (-1) 0).1 ∧ DR (cIt t n (rst K0) (clr D0) 0).2.2 (mIt t' n (mQb q) (zrow p 63) (-1) 0).2.1 ((mIt t' n (mQb q) (zrow p 63) (-1) 0).1 1) ((mIt t' n (mQb q) (zrow p 63) (-1) 0).1 2) (cIt t n (rst K0) (clr D0) 0).2.1 (mIt t' n (mQb q) (zrow p 63) (-1) 0).2.2 := by
  refine ⟨by rw [cIt_01, mIt_01]; exact TS.tok (r := rst K0) (q := mQb q) ht rfl (fun z => absurd rfl z) (fun _ => ⟨rfl, Nat.zero_le n⟩), ?_⟩
  have z : ∀ j, j < 63 → zrow p 63 j = 0 := fun j hj => zrow_lo p 63 j hj
  rw [cIt_02, cIt_03, mIt_01, mIt_02, mIt_03, mStep_o _ _ _ (by omega), mStep_o _ _ _ (by omega)]
  refine ⟨rfl, (z 42 (by omega)).symm, (z 62 (by omega)).symm, (z 43 (by omega)).symm, Nat.zero_le _, rfl, fun i hi => z _ (by omega), fun j hj => absurd hj (Nat.not_lt_zero j), fun j hj => absurd hj (Nat.not_lt_zero j), fun j hj => absurd hj (Nat.not_lt_zero j), fun b hb => ⟨fun _ => ⟨fun j hj => absurd hj (Nat.not_lt_zero j), fun j hj => absurd hj (Nat.not_lt_zero j)⟩, fun _ => ?_⟩⟩
  rw [Int32.lt_iff_toInt_lt, nI_toInt (by omega)]
  have h9 : (-1 : Int32).toInt = -1 := by decide
  omega
theorem it_k {t t' : Nat → Nat} {n : Nat} {K0 q p : Nat → Nat} {D0 : Nat → Nat → Nat} (ht : ∀ j, j < n → t j = t' j) (h2 : K0 2 ≤ 3) : ∀ k, (∀ j, j < k → (cIt t n (rst K0) (clr D0) j).1 0 = 0) → TS t (cIt t n (rst K0) (clr D0) k).1 (mIt t' n (mQb q) (zrow p 63) (-1) k).1 ∧ ((cIt t n (rst K0) (clr D0) k).1 0 = 0 → DR (cIt t n (rst K0) (clr D0) k).2.2 (mIt t' n (mQb q) (zrow p 63) (-1) k).2.1 ((mIt t' n (mQb q) (zrow p 63) (-1) k).1 1) ((mIt t' n (mQb q) (zrow p 63) (-1) k).1 2) (cIt t n (rst K0) (clr D0) k).2.1 (mIt t' n (mQb q) (zrow p 63) (-1) k).2.2) := by
  intro k
  induction k with
  | zero => intro _; exact ⟨(it_0 ht).1, fun _ => (it_0 ht).2⟩
  | succ k ih =>
    intro hj
    have e := hj k (Nat.lt_succ_self k)
    obtain ⟨i1, i2⟩ := ih (fun j hj' => hj j (by omega))
    obtain ⟨w1, w2⟩ := cIt_w (t := t) (n := n) (r := K0) (G := D0) h2 k
    rw [cIt_1, cIt_2, cIt_3, mIt_1, mIt_2, mIt_3]
    exact ln_all ht i1 w1 (i2 e) w2 e
theorem TS.stop {t : Nat → Nat} {n : Nat} {r q : Nat → Nat} (h : TS t r q) (hI : RI t n r) : (r 0 ≠ 0 ∨ r 2 = 3) ↔ (q 5 ≠ 0 ∨ q 9 = 0) := by
  have h2 := hI.2.2.2.2.1
  have h0 := h.1
  by_cases e : r 0 = 0
  · have h9 := (h.2.2 e).2.2.1
    constructor
    · rintro (z | z)
      · exact absurd e z
      · right; rw [h9, z]
    · rintro (z | z)
      · omega
      · right; omega
  · exact ⟨fun _ => Or.inl (by omega), fun _ => Or.inl e⟩
theorem lines_eq {t t' : Nat → Nat} {n : Nat} {K0 q p : Nat → Nat} {D0 : Nat → Nat → Nat} (ht : ∀ j, j < n → t j = t' j) (h2 : K0 2 ≤ 3) {u6 u7 : Nat} (hp6 : u6 ≤ n ∧ (u6 = n ∨ (cIt t n (rst K0) (clr D0) u6).1 0 ≠ 0 ∨ (cIt t n (rst K0) (clr D0) u6).1 2 = 3) ∧ ∀ j, j < u6 → (cIt t n (rst K0) (clr D0) j).1 0 = 0 ∧ (cIt t n (rst K0) (clr D0) j).1 2 ≠ 3) (hp7 : u7 ≤ n ∧ ((mIt t' n (mQb q) (zrow p 63) (-1) u7).1 5 ≠ 0 ∨ (mIt t' n (mQb q) (zrow p 63) (-1) u7).1 9 = 0) ∧ ∀ j, j < u7 → (mIt t' n (mQb q) (zrow p 63) (-1) j).1 5 = 0 ∧ (mIt t' n (mQb q) (zrow p 63) (-1) j).1 9 ≠ 0) : u6 = u7 := by
  obtain ⟨a1, a2, a3⟩ := hp6
  obtain ⟨b1, b2, b3⟩ := hp7
  have hst : ∀ k, k ≤ u6 → (((cIt t n (rst K0) (clr D0) k).1 0 ≠ 0 ∨ (cIt t n (rst K0) (clr D0) k).1 2 = 3) ↔ ((mIt t' n (mQb q) (zrow p 63) (-1) k).1 5 ≠ 0 ∨ (mIt t' n (mQb q) (zrow p 63) (-1) k).1 9 = 0)) := fun k hk =>
    (it_k ht h2 k (fun j hj => (a3 j (by omega)).1)).1.stop (cIt_w (t := t) (n := n) (r := K0) (G := D0) h2 k).1
  rcases Nat.lt_trichotomy u6 u7 with h | h | h
  · have b := b3 u6 h
    rcases a2 with z | z
    · omega
    · rcases (hst u6 (Nat.le_refl _)).mp z with z | z
      · exact absurd b.1 z
      · exact absurd z b.2
  · exact h
  · have a := a3 u7 h
    rcases (hst u7 (by omega)).mpr b2 with z | z
    · exact absurd a.1 z
    · exact absurd z a.2
