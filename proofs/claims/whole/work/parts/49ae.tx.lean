/-! the two readings of a text: a line -/
def DR (G : Nat → Nat → Nat) (pg : Nat → Nat) (q1 q2 : Nat) (wt : Bool) (hi : Int32) : Prop := G 8 0 = q1 ∧ G 8 1 = pg 42 ∧ G 8 3 = pg 62 ∧ G 8 2 = pg 43 ∧ G 8 2 ≤ 20 ∧ q2 = rb wt ∧ (∀ i, i < 9 → pg (33 + i) = 0) ∧ (∀ k, k < G 8 0 → G 0 k = pg k) ∧ (∀ i, i < G 8 1 → G 1 i = pg (6 + i) ∧ G 2 i = pg (15 + i) ∧ G 3 i = pg (24 + i)) ∧ (∀ k, k < G 8 3 → G 5 k = pg (44 + k) ∧ G 6 k = pg (50 + k) ∧ G 7 k = pg (56 + k)) ∧ (∀ b, b ≤ 6 → (hi < nI b ↔ (∀ i, i < G 8 1 → G 1 i < b ∧ G 2 i < b) ∧ ∀ k, k < G 8 3 → G 6 k < b))
theorem hiM_lt {hi : Int32} {v b : Nat} (hv : v < 2 ^ 31) (hb : b < 2 ^ 31) : hiM hi v < nI b ↔ hi < nI b ∧ v < b := by
  unfold hiM
  by_cases h : nI v ≤ hi
  · rw [if_pos h]
    have h1 := Int32.le_iff_toInt_le.mp h
    rw [nI_toInt hv] at h1
    rw [Int32.lt_iff_toInt_lt, nI_toInt hb]
    exact ⟨fun q => ⟨q, by omega⟩, fun q => q.1⟩
  · rw [if_neg h]
    have h1 : ¬ (v : Int) ≤ hi.toInt := fun q => h (Int32.le_iff_toInt_le.mpr (by rw [nI_toInt hv]; exact q))
    rw [Int32.lt_iff_toInt_lt, Int32.lt_iff_toInt_lt, nI_toInt hb, nI_toInt hv]
    exact ⟨fun q => ⟨by omega, by omega⟩, fun q => by omega⟩
theorem DR.tree {G : Nat → Nat → Nat} {pg : Nat → Nat} {q1 q2 : Nat} {wt : Bool} {hi : Int32} {k : Nat} (h : DR G pg q1 q2 wt hi) (h6 : G 8 0 < 6) : DR (addTr G k) (u1 pg q1 k) (q1 + 1) q2 wt hi := by
  obtain ⟨a0, a1, a3, a2, a20, aw, a4, b0, b1, b5, ah⟩ := h
  subst a0
  have hn : ∀ j, 6 ≤ j → u1 pg (G 8 0) k j = pg j := fun j hj => u1_n _ _ (by omega)
  refine ⟨rfl, a1.trans (hn 42 (by omega)).symm, a3.trans (hn 62 (by omega)).symm, a2.trans (hn 43 (by omega)).symm, a20, aw, fun i hi => (hn _ (by omega)).trans (a4 i hi), fun j hj => ?_, fun i hi => ?_, fun j hj => ?_, ah⟩
  · have hj : j < G 8 0 + 1 := hj
    show u1 (G 0) (G 8 0) k j = u1 pg (G 8 0) k j
    by_cases e : j = G 8 0
    · rw [e, u1_s, u1_s]
    · rw [u1_n _ _ e, u1_n _ _ e]; exact b0 j (by omega)
  · have b := b1 i hi
    exact ⟨b.1.trans (hn _ (by omega)).symm, b.2.1.trans (hn _ (by omega)).symm, b.2.2.trans (hn _ (by omega)).symm⟩
  · have b := b5 j hj
    exact ⟨b.1.trans (hn _ (by omega)).symm, b.2.1.trans (hn _ (by omega)).symm, b.2.2.trans (hn _ (by omega)).symm⟩
theorem DR.root {G : Nat → Nat → Nat} {pg : Nat → Nat} {q1 q2 : Nat} {wt : Bool} {hi : Int32} {a b L : Nat} (h : DR G pg q1 q2 wt hi) (hD : DI G) (h9 : G 8 1 < 9) (ha : a ≤ 5) (hb : b ≤ 5) : DR (addRo G a b L) (u1 (u1 (u1 (u1 pg (6 + pg 42) a) (15 + pg 42) b) (24 + pg 42) L) 42 (pg 42 + 1)) q1 q2 wt (hiM (hiM hi a) b) := by
  obtain ⟨a0, a1, a3, a2, a20, aw, a4, b0, b1, b5, ah⟩ := h
  have h80 := hD.1
  have h83 := hD.2.2.1
  rw [← a1]
  have hn : ∀ j, j ≠ 42 → j ≠ 24 + G 8 1 → j ≠ 15 + G 8 1 → j ≠ 6 + G 8 1 → u1 (u1 (u1 (u1 pg (6 + G 8 1) a) (15 + G 8 1) b) (24 + G 8 1) L) 42 (G 8 1 + 1) j = pg j := fun j h1 h2 h3 h4 => by rw [u1_n _ _ h1, u1_n _ _ h2, u1_n _ _ h3, u1_n _ _ h4]
  refine ⟨a0, (u1_s _ 42 (G 8 1 + 1)).symm, a3.trans (hn 62 (by omega) (by omega) (by omega) (by omega)).symm, a2.trans (hn 43 (by omega) (by omega) (by omega) (by omega)).symm, a20, aw, fun i hi => (hn _ (by omega) (by omega) (by omega) (by omega)).trans (a4 i hi), fun j hj => ?_, fun i hi => ?_, fun j hj => ?_, fun c hc => ?_⟩
  · have hj : j < G 8 0 := hj
    exact (b0 j hj).trans (hn _ (by omega) (by omega) (by omega) (by omega)).symm
  · have hi : i < G 8 1 + 1 := hi
    show u1 (G 1) (G 8 1) a i = _ ∧ u1 (G 2) (G 8 1) b i = _ ∧ u1 (G 3) (G 8 1) L i = _
    by_cases e : i = G 8 1
    · rw [e, u1_s, u1_s, u1_s]
      refine ⟨?_, ?_, ?_⟩
      · rw [u1_n _ _ (by omega), u1_n _ _ (by omega), u1_n _ _ (by omega), u1_s]
      · rw [u1_n _ _ (by omega), u1_n _ _ (by omega), u1_s]
      · rw [u1_n _ _ (by omega), u1_s]
    · have c := b1 i (by omega)
      rw [u1_n _ _ e, u1_n _ _ e, u1_n _ _ e]
      exact ⟨c.1.trans (hn _ (by omega) (by omega) (by omega) (by omega)).symm, c.2.1.trans (hn _ (by omega) (by omega) (by omega) (by omega)).symm, c.2.2.trans (hn _ (by omega) (by omega) (by omega) (by omega)).symm⟩
  · have hj : j < G 8 3 := hj
    have c := b5 j hj
    exact ⟨c.1.trans (hn _ (by omega) (by omega) (by omega) (by omega)).symm, c.2.1.trans (hn _ (by omega) (by omega) (by omega) (by omega)).symm, c.2.2.trans (hn _ (by omega) (by omega) (by omega) (by omega)).symm⟩
  · rw [hiM_lt (by omega) (by omega), hiM_lt (by omega) (by omega), ah c hc]
    show _ ↔ (∀ i, i < G 8 1 + 1 → u1 (G 1) (G 8 1) a i < c ∧ u1 (G 2) (G 8 1) b i < c) ∧ ∀ k, k < G 8 3 → G 6 k < c
    constructor
    · rintro ⟨⟨⟨q1, q2⟩, q3⟩, q4⟩
      refine ⟨fun i hi => ?_, q2⟩
      by_cases e : i = G 8 1
      · rw [e, u1_s, u1_s]; exact ⟨q3, q4⟩
      · rw [u1_n _ _ e, u1_n _ _ e]; exact q1 i (by omega)
    · rintro ⟨q1, q2⟩
      have q9 := q1 (G 8 1) (by omega)
      rw [u1_s, u1_s] at q9
      refine ⟨⟨⟨fun i hi => ?_, q2⟩, q9.1⟩, q9.2⟩
      have q8 := q1 i (by omega)
      rw [u1_n _ _ (by omega), u1_n _ _ (by omega)] at q8
      exact q8
theorem DR.talk {G : Nat → Nat → Nat} {pg : Nat → Nat} {q1 q2 : Nat} {wt : Bool} {hi : Int32} {a b L : Nat} (h : DR G pg q1 q2 wt hi) (hD : DI G) (h6 : G 8 3 < 6) (hb : b ≤ 5) : DR (addTa G a b L) (u1 (u1 (u1 (u1 pg (44 + pg 62) a) (50 + pg 62) b) (56 + pg 62) L) 62 (pg 62 + 1)) q1 q2 wt (hiM hi b) := by
  obtain ⟨a0, a1, a3, a2, a20, aw, a4, b0, b1, b5, ah⟩ := h
  have h80 := hD.1
  have h81 := hD.2.1
  rw [← a3]
  have hn : ∀ j, j ≠ 62 → j ≠ 56 + G 8 3 → j ≠ 50 + G 8 3 → j ≠ 44 + G 8 3 → u1 (u1 (u1 (u1 pg (44 + G 8 3) a) (50 + G 8 3) b) (56 + G 8 3) L) 62 (G 8 3 + 1) j = pg j := fun j h1 h2 h3 h4 => by rw [u1_n _ _ h1, u1_n _ _ h2, u1_n _ _ h3, u1_n _ _ h4]
  refine ⟨a0, a1.trans (hn 42 (by omega) (by omega) (by omega) (by omega)).symm, (u1_s _ 62 (G 8 3 + 1)).symm, a2.trans (hn 43 (by omega) (by omega) (by omega) (by omega)).symm, a20, aw, fun i hi => (hn _ (by omega) (by omega) (by omega) (by omega)).trans (a4 i hi), fun j hj => ?_, fun i hi => ?_, fun j hj => ?_, fun c hc => ?_⟩
  · have hj : j < G 8 0 := hj
    exact (b0 j hj).trans (hn _ (by omega) (by omega) (by omega) (by omega)).symm
  · have hi : i < G 8 1 := hi
    have c := b1 i hi
    exact ⟨c.1.trans (hn _ (by omega) (by omega) (by omega) (by omega)).symm, c.2.1.trans (hn _ (by omega) (by omega) (by omega) (by omega)).symm, c.2.2.trans (hn _ (by omega) (by omega) (by omega) (by omega)).symm⟩
  · have hj : j < G 8 3 + 1 := hj
    show u1 (G 5) (G 8 3) a j = _ ∧ u1 (G 6) (G 8 3) b j = _ ∧ u1 (G 7) (G 8 3) L j = _
    by_cases e : j = G 8 3
    · rw [e, u1_s, u1_s, u1_s]
      refine ⟨?_, ?_, ?_⟩
      · rw [u1_n _ _ (by omega), u1_n _ _ (by omega), u1_n _ _ (by omega), u1_s]
      · rw [u1_n _ _ (by omega), u1_n _ _ (by omega), u1_s]
      · rw [u1_n _ _ (by omega), u1_s]
    · have c := b5 j (by omega)
      rw [u1_n _ _ e, u1_n _ _ e, u1_n _ _ e]
      exact ⟨c.1.trans (hn _ (by omega) (by omega) (by omega) (by omega)).symm, c.2.1.trans (hn _ (by omega) (by omega) (by omega) (by omega)).symm, c.2.2.trans (hn _ (by omega) (by omega) (by omega) (by omega)).symm⟩
  · rw [hiM_lt (by omega) (by omega), ah c hc]
    show _ ↔ (∀ i, i < G 8 1 → G 1 i < c ∧ G 2 i < c) ∧ ∀ k, k < G 8 3 + 1 → u1 (G 6) (G 8 3) b k < c
    constructor
    · rintro ⟨⟨q1, q2⟩, q3⟩
      refine ⟨q1, fun i hi => ?_⟩
      by_cases e : i = G 8 3
      · rw [e, u1_s]; exact q3
      · rw [u1_n _ _ e]; exact q2 i (by omega)
    · rintro ⟨q1, q2⟩
      have q9 := q2 (G 8 3) (by omega)
      rw [u1_s] at q9
      refine ⟨⟨q1, fun i hi => ?_⟩, q9⟩
      have q8 := q2 i (by omega)
      rw [u1_n _ _ (by omega)] at q8
      exact q8
theorem DR.wind {G : Nat → Nat → Nat} {pg : Nat → Nat} {q1 q2 : Nat} {wt : Bool} {hi : Int32} {x : Nat} (h : DR G pg q1 q2 wt hi) (hD : DI G) (hx : x ≤ 20) : DR (u2 G 8 2 x) (u1 pg 43 x) q1 1 true hi := by
  obtain ⟨a0, a1, a3, a2, a20, aw, a4, b0, b1, b5, ah⟩ := h
  have h80 := hD.1
  have h81 := hD.2.1
  have h83 := hD.2.2.1
  have hn : ∀ j, j ≠ 43 → u1 pg 43 x j = pg j := fun j h1 => u1_n _ _ h1
  refine ⟨a0, a1.trans (hn 42 (by omega)).symm, a3.trans (hn 62 (by omega)).symm, (u1_s pg 43 x).symm, hx, rfl, fun i hi => (hn _ (by omega)).trans (a4 i hi), fun j hj => ?_, fun i hi => ?_, fun j hj => ?_, ah⟩
  · have hj : j < G 8 0 := hj
    exact (b0 j hj).trans (hn _ (by omega)).symm
  · have hi : i < G 8 1 := hi
    have c := b1 i hi
    exact ⟨c.1.trans (hn _ (by omega)).symm, c.2.1.trans (hn _ (by omega)).symm, c.2.2.trans (hn _ (by omega)).symm⟩
  · have hj : j < G 8 3 := hj
    have c := b5 j hj
    exact ⟨c.1.trans (hn _ (by omega)).symm, c.2.1.trans (hn _ (by omega)).symm, c.2.2.trans (hn _ (by omega)).symm⟩
/-! behind a fault nothing is done -/
theorem num_n {t : Nat → Nat} {n : Nat} {r : Nat → Nat} {lo hi : Nat} {bn : Int32} (h : r 0 ≠ 0) : cNum t n r lo hi bn = r := by
  have e2 : cChk t r lo hi bn = r := by
    unfold cChk
    split
    · exact cFail_n h
    · split
      · rfl
      · exact cFail_n h
  unfold cNum; rw [e2]; exact cTok_n h
theorem sign_n {t : Nat → Nat} {n : Nat} {r : Nat → Nat} (h : r 0 ≠ 0) : cSign t n r = r := by
  have e3 : (if r 2 = 2 then r else cFail r 2) = r := by
    split
    · rfl
    · exact cFail_n h
  unfold cSign; rw [e3]; exact cTok_n h
theorem TS.name2 {t t' : Nat → Nat} {n : Nat} {r q x : Nat → Nat} {b : Bool} {c v : Nat} (ht : ∀ j, j < n → t j = t' j) (h : TS t r q) (hI : RI t n r) (hc : 1 ≤ c ∧ c ≤ 6) (hx : x = if b = true then q else mFail q c) : TS t (cName t n r b c) (mStep t' n (u1 x 2 v)) := by
  unfold cName
  rw [hx]
  by_cases e : b = true
  · rw [if_pos e, if_pos e]; exact (h.u (by decide)).step ht hI
  · rw [if_neg e, if_neg e]; exact ((h.fail (by omega)).u (by decide)).step ht (hI.fail hc)
theorem mSg_o (t : Nat → Nat) (n : Nat) (q : Nat → Nat) {j : Nat} (h : j < 5) : mStep t n (if q 5 = 0 ∧ q 9 ≠ 3 then mFail q 2 else q) j = q j := by
  rw [mStep_o _ _ _ (Or.inl h)]
  split
  · exact mFail_o _ _ (by omega) (by omega)
  · rfl
/-- the reference's line, once its name is full or not -/
theorem mLine_d {t : Nat → Nat} {n : Nat} {q pg : Nat → Nat} {hi : Int32} {k : Nat} (hk : mWh t q = k) (h7 : k ≠ 7) (h5 : 0 < mL4 t n q pg k 5) : mLineQ t n q pg = mL4 t n q pg k := by
  unfold mLineQ; rw [hk, if_neg h7, if_pos h5]
theorem mLine_g {t : Nat → Nat} {n : Nat} {q pg : Nat → Nat} {hi : Int32} {k : Nat} (hk : mWh t q = k) (h7 : k ≠ 7) (h5 : mL4 t n q pg k 5 = 0) : mLineQ t n q pg = mStep t n (if mL5 t n q pg k 5 = 0 ∧ mL5 t n q pg k 9 ≠ 3 then mFail (mL5 t n q pg k) 2 else mL5 t n q pg k) ∧ mLineP t n q pg = mMoreP t n (mL4 t n q pg k) pg k ∧ mLineH t n q pg hi = mMoreH t n (mL4 t n q pg k) hi k := by
  have h9 : ¬ 0 < mL4 t n q pg k 5 := by omega
  unfold mLineQ mLineP mLineH
  rw [hk]
  refine ⟨?_, ?_, ?_⟩
  · rw [if_neg h7, if_neg h9]; rfl
  · rw [if_neg h7, if_neg h9]
  · rw [if_neg h7, if_neg h9]
theorem mL4_2 (t : Nat → Nat) (n : Nat) (q pg : Nat → Nat) (k : Nat) : mL4 t n q pg k 2 = rb (decide (q 2 ≠ 0) || decide (k = 6)) := by
  unfold mL4
  rw [mStep_o _ _ _ (by omega)]
  exact u1_s _ _ _
theorem rb_rb (b c : Bool) : rb (decide (rb b ≠ 0) || c) = rb (b || c) := by cases b <;> cases c <;> rfl
theorem TS.wh {t t' : Nat → Nat} {n : Nat} {r q : Nat → Nat} (ht : ∀ j, j < n → t j = t' j) (h : TS t r q) (hI : RI t n r) (e : r 0 = 0) : mWh t' q = cWh t r := by
  obtain ⟨a1, a2, a3, a4⟩ := h.2.2 e
  have h2 := hI.2.2.2.2.1
  unfold mWh cWh
  by_cases e2 : r 2 = 0
  · rw [if_pos e2, if_pos (by rw [a3, e2]), ← a1, ← a2]
    exact (nameN_congr ht (hI.2.2.2.2.2.1 e) hI.2.1).symm
  · rw [if_neg e2, if_neg (by omega)]
