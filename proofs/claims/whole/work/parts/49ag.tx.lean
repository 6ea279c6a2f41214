/-! the two readings of a text: the end -/
theorem lack_f {G : Nat → Nat → Nat} : lackB G = false ↔ (∀ i, i < G 8 1 → G 1 i < G 8 0 ∧ G 2 i < G 8 0) ∧ ∀ k, k < G 8 3 → G 6 k < G 8 0 := by
  unfold lackB
  constructor
  · intro h
    rw [Bool.not_eq_false', Bool.and_eq_true] at h
    refine ⟨fun i hi => ?_, fun k hk => ?_⟩
    · have a := ball_all h.1 i hi
      rw [Bool.and_eq_true, decide_eq_true_eq, decide_eq_true_eq] at a
      exact a
    · exact of_decide_eq_true (ball_all h.2 k hk)
  · rintro ⟨h1, h2⟩
    rw [Bool.not_eq_false', Bool.and_eq_true]
    refine ⟨ball_mk fun i hi => ?_, ball_mk fun k hk => decide_eq_true (h2 k hk)⟩
    rw [decide_eq_true (h1 i hi).1, decide_eq_true (h1 i hi).2]; rfl
theorem end_TS {t r q pg : Nat → Nat} {G : Nat → Nat → Nat} {wt : Bool} {hi : Int32} (h : TS t r q) (hD : DI G) (hd : r 0 = 0 → DR G pg (q 1) (q 2) wt hi) : TS t (if lackB G = true then cFail r 6 else r) (mEnd q hi) ∧ ((if lackB G = true then cFail r 6 else r) 0 = 0 → DI G ∧ lackB G = false ∧ DR G pg (mEnd q hi 1) (mEnd q hi 2) wt hi) := by
  unfold mEnd
  by_cases e : r 0 = 0
  · have d := hd e
    have hlt : lackB G = false ↔ hi < nI (q 1) := by
      rw [lack_f, ← d.1]
      exact (d.2.2.2.2.2.2.2.2.2.2 (G 8 0) hD.1).symm
    cases hl : lackB G with
    | true =>
      rw [if_pos rfl, if_pos ⟨h.1 ▸ e, fun z => by rw [hlt.mpr z] at hl; exact absurd hl (by decide)⟩]
      exact ⟨h.fail (by decide), fun z => absurd z (cFail_0 r (by decide))⟩
    | false =>
      rw [if_neg Bool.false_ne_true, if_neg (fun z => z.2 (hlt.mp hl))]
      exact ⟨h, fun _ => ⟨hD, rfl, d⟩⟩
  · have e2 : (if lackB G = true then cFail r 6 else r) = r := by
      split
      · exact cFail_n e
      · rfl
    rw [e2, if_neg (fun z => e (h.1.trans z.1))]
    exact ⟨h, fun z => absurd z e⟩
theorem mLineQ_z (t : Nat → Nat) (n : Nat) (q pg : Nat → Nat) : mLineQ t n q pg 0 = q 0 := by
  unfold mLineQ
  generalize mWh t q = k
  split
  · exact mFail_o _ _ (by decide) (by decide)
  · have h4 : mL4 t n q pg k 0 = q 0 := mL4_o _ _ _ _ _ (by omega) (by omega)
    split
    · exact h4
    · rw [mStep_o _ _ _ (by omega)]
      have h5 : mL5 t n q pg k 0 = q 0 := by
        rw [← h4]
        unfold mL5 mMoreQ
        split
        · exact u1_n _ _ (by decide)
        · split
          · exact mR4_o _ _ _ (by omega)
          · split
            · exact mT3_o _ _ _ (by omega)
            · exact mNum_o _ _ _ _ _ (by omega)
      unfold mL6
      split
      · rw [mFail_o _ _ (by decide) (by decide)]; exact h5
      · exact h5
theorem mIt_o {t : Nat → Nat} {n : Nat} {q p : Nat → Nat} {h : Int32} {j : Nat} (hj : j = 0 ∨ 10 < j) : ∀ k, (mIt t n (mQb q) p h k).1 j = q j := by
  intro k
  induction k with
  | zero =>
    rw [mIt_01, mStep_o _ _ _ (by omega)]
    unfold mQb
    rw [u1_n _ _ (by omega), u1_n _ _ (by omega), u1_n _ _ (by omega), u1_n _ _ (by omega)]
  | succ k ih =>
    rw [mIt_1, ← ih]
    rcases hj with e | e
    · rw [e]; exact mLineQ_z _ _ _ _
    · exact mLineQ_3 _ _ _ _ (Or.inr e)
theorem mEnd_o (q : Nat → Nat) (hi : Int32) {j : Nat} (h5 : j ≠ 5) (h6 : j ≠ 6) : mEnd q hi j = q j := by
  unfold mEnd
  split
  · exact mFail_o _ _ h5 h6
  · rfl
theorem tx_rel {G I0 J0 K : Nat → Nat → Nat} {n : Nat} {t : Nat → Nat} {sn : Nat} {pl lo : Nat → Nat} {kb rf : Nat} {kn : Nat → Nat} {kl : Nat → Int32} {kc : Nat → Nat → Int32} {Mt : Nat → Nat → Nat} {la ce : Nat → Int32} (hR : Rel G I0 J0 kb n t sn pl lo K rf kn kl kc Mt la ce) {R E pg : Nat → Nat} {Gd : Nat → Nat → Nat} {wt : Bool} {hi : Int32} (hT : TS t R E) (hR2 : R 2 ≤ 3) (e0 : E 0 = Mt 20 0) (eo : ∀ j, 10 < j → E j = Mt 20 j) (hok : R 0 = 0 → DI Gd ∧ lackB Gd = false ∧ DR Gd pg (E 1) (E 2) wt hi) : Rel (if R 0 = 0 then Gd else G) I0 J0 (if R 0 = 0 then 0 else kb) 0 t (if R 0 = 0 then 0 else sn) pl lo (u3 K 0 R) rf kn kl kc (u3 (u3 (u3 (u3 Mt 20 (mTQ E)) 1 pg) 0 (if E 5 = 0 then crow pg (Mt 0) 63 else Mt 0)) 10 (if E 5 = 0 then u1 (u1 (Mt 10) 0 0) 1 0 else Mt 10)) la ce := by
  obtain ⟨g, i, tt, s, f, c⟩ := hR
  have h0 := hT.1
  by_cases e : R 0 = 0
  · have e5 : E 5 = 0 := h0 ▸ e
    obtain ⟨hD, hl, hd⟩ := hok e
    obtain ⟨l1, l2⟩ := lack_f.mp hl
    obtain ⟨a0, a1, a3, a2, a20, aw, a4, b0, b1, b5, ah⟩ := hd
    obtain ⟨d0, d1, d3, d4, dk, dr, da⟩ := hD
    have eM : mTQ E = u1 (u1 (u1 (u1 E 3 0) 4 (E 5)) 0 (E 1)) 11 0 := if_pos e5
    rw [if_pos e, if_pos e, if_pos e, if_pos e5, if_pos e5, eM]
    have cl : ∀ j, j < 63 → crow pg (Mt 0) 63 j = pg j := fun j hj => crow_lo _ _ 63 j hj
    refine ⟨⟨⟨d0, d1, a20, d3, by rw [d4]; exact Nat.two_pow_pos _, dk, fun j hj => ⟨(l1 j hj).1, (l1 j hj).2, (dr j hj).2.2⟩, fun k hk => ⟨(da k hk).1, l2 k hk, (da k hk).2.2⟩⟩, ?_⟩, ⟨by decide, rfl, rfl, fun z => absurd z (by decide), fun z => absurd z (by decide)⟩, ⟨rfl, Nat.zero_le _, fun j hj => absurd hj (Nat.not_lt_zero j)⟩, ⟨rfl, Nat.zero_le _, fun j hj => absurd hj (Nat.not_lt_zero j)⟩, ⟨h0.symm, hR2, (eo 12 (by decide)).trans f.2.2⟩, c⟩
    refine ⟨a0, a1.trans (cl 42 (by omega)).symm, a2.trans (cl 43 (by omega)).symm, a3.trans (cl 62 (by omega)).symm, fun k hk => ?_, fun j hj => ?_, fun k hk => ?_⟩
    · have hk : k < Gd 8 0 := hk
      exact (b0 k hk).trans ((by rw [Nat.zero_add] : pg k = pg (0 + k)).trans (cl (0 + k) (by omega)).symm)
    · have hj : j < Gd 8 1 := hj
      have b := b1 j hj
      refine ⟨b.1.trans (cl (6 + j) (by omega)).symm, b.2.1.trans (cl (15 + j) (by omega)).symm, b.2.2.trans (cl (24 + j) (by omega)).symm, ?_⟩
      show (if 4 = 4 then (if (Gd 4 0).testBit j then 1 else 0) else Gd 4 j) = crow pg (Mt 0) 63 (33 + j)
      rw [if_pos rfl, d4, Nat.zero_testBit, if_neg Bool.false_ne_true, cl _ (by omega), a4 j (by omega)]
    · have hk : k < Gd 8 3 := hk
      have b := b5 k hk
      exact ⟨b.1.trans (cl (44 + k) (by omega)).symm, b.2.1.trans (cl (50 + k) (by omega)).symm, b.2.2.trans (cl (56 + k) (by omega)).symm⟩
  · have e5 : E 5 ≠ 0 := h0 ▸ e
    have eM : mTQ E = u1 (u1 E 3 0) 4 (E 5) := if_neg e5
    rw [if_neg e, if_neg e, if_neg e, if_neg e5, if_neg e5, eM]
    refine ⟨g.keep e0 (fun _ _ => rfl), i.keep e0 rfl (fun _ _ _ => rfl), ⟨rfl, Nat.zero_le _, fun j hj => absurd hj (Nat.not_lt_zero j)⟩, ⟨(eo 11 (by decide)).trans s.1, s.2⟩, ⟨h0.symm, hR2, (eo 12 (by decide)).trans f.2.2⟩, c⟩
theorem rd_end {t t' : Nat → Nat} {n : Nat} {K0 q p : Nat → Nat} {D0 : Nat → Nat → Nat} (ht : ∀ j, j < n → t j = t' j) (h2 : K0 2 ≤ 3) {u : Nat} (hj : ∀ j, j < u → (cIt t n (rst K0) (clr D0) j).1 0 = 0) : TS t (cWR t n K0 D0 u) (mEnd (mIt t' n (mQb q) (zrow p 63) (-1) u).1 (mIt t' n (mQb q) (zrow p 63) (-1) u).2.2) ∧ (cWR t n K0 D0 u 0 = 0 → DI (cIt t n (rst K0) (clr D0) u).2.2 ∧ lackB (cIt t n (rst K0) (clr D0) u).2.2 = false ∧ DR (cIt t n (rst K0) (clr D0) u).2.2 (mIt t' n (mQb q) (zrow p 63) (-1) u).2.1 (mEnd (mIt t' n (mQb q) (zrow p 63) (-1) u).1 (mIt t' n (mQb q) (zrow p 63) (-1) u).2.2 1) (mEnd (mIt t' n (mQb q) (zrow p 63) (-1) u).1 (mIt t' n (mQb q) (zrow p 63) (-1) u).2.2 2) (cIt t n (rst K0) (clr D0) u).2.1 (mIt t' n (mQb q) (zrow p 63) (-1) u).2.2) := by
  obtain ⟨i1, i2⟩ := it_k (q := q) (p := p) ht h2 u hj
  obtain ⟨w1, w2⟩ := cIt_w (t := t) (n := n) (r := K0) (G := D0) h2 u
  exact end_TS i1 w2 i2
theorem cWR_2 {t : Nat → Nat} {n : Nat} {r : Nat → Nat} {G : Nat → Nat → Nat} (h2 : r 2 ≤ 3) (k : Nat) : cWR t n r G k 2 ≤ 3 := by
  have q := (cIt_w (t := t) (n := n) (r := r) (G := G) h2 k).1
  unfold cWR
  split
  · exact (q.fail (by decide)).2.2.2.2.1
  · exact q.2.2.2.2.1
