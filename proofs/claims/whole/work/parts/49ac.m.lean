/-! the relation over each call -/
theorem u2_3 (M : Nat → Nat → Nat) (k x : Nat) : u2 M 0 k x = u3 M 0 (u1 (M 0) k x) := by
  funext f; unfold u2 u3; split
  · next h => rw [h]
  · rfl
theorem Rel.page3 {G I0 J0 K : Nat → Nat → Nat} {n : Nat} {t : Nat → Nat} {sn : Nat} {pl lo : Nat → Nat} {kb rf : Nat} {kn : Nat → Nat} {kl : Nat → Int32} {kc : Nat → Nat → Int32} {Mt N : Nat → Nat → Nat} {la ce : Nat → Int32} {G1 : Nat → Nat → Nat} (hR : Rel G I0 J0 kb n t sn pl lo K rf kn kl kc Mt la ce) (hg : RelG G1 N) (e80 : G1 8 0 = G 8 0) (h : ∃ r : Nat → Nat, (∀ j, 63 ≤ j → j < 189 → r j = Mt 0 j) ∧ N = u3 Mt 0 r) : Rel G1 I0 J0 kb n t sn pl lo K rf kn kl kc N la ce := by
  obtain ⟨r, h1, e⟩ := h
  subst e
  exact hR.page hg e80 h1 rfl rfl rfl rfl rfl
theorem pg_if {c : Bool} {Mt N : Nat → Nat → Nat} (h : c = true → ∃ r : Nat → Nat, (∀ j, 63 ≤ j → j < 189 → r j = Mt 0 j) ∧ N = u3 Mt 0 r) : ∃ r : Nat → Nat, (∀ j, 63 ≤ j → j < 189 → r j = Mt 0 j) ∧ (if c = true then N else Mt) = u3 Mt 0 r := by
  by_cases q : c = true
  · rw [if_pos q]; exact h q
  · rw [if_neg q]; exact ⟨Mt 0, fun _ _ _ => rfl, (u3_id _ _).symm⟩
theorem pg_1 {Mt : Nat → Nat → Nat} {k x : Nat} (h : k < 63) : ∃ r : Nat → Nat, (∀ j, 63 ≤ j → j < 189 → r j = Mt 0 j) ∧ u2 Mt 0 k x = u3 Mt 0 r := ⟨_, fun j h1 _ => u1_n _ _ (by omega), u2_3 _ _ _⟩
theorem rl_keep {G I0 J0 K : Nat → Nat → Nat} {n : Nat} {t : Nat → Nat} {sn : Nat} {pl lo : Nat → Nat} {kb rf : Nat} {kn : Nat → Nat} {kl : Nat → Int32} {kc : Nat → Nat → Int32} {Mt : Nat → Nat → Nat} {la ce : Nat → Int32} (hR : Rel G I0 J0 kb n t sn pl lo K rf kn kl kc Mt la ce) (x : Int32) : Rel G (keepG G I0 0 x) (keepG G J0 1 x) (keepB kb x) n t sn pl lo K rf kn kl kc (keepM Mt x) la ce := by
  obtain ⟨g, i, tt, s, f, c⟩ := hR
  unfold keepG keepB keepM
  by_cases q : rg x 0 1 = true
  · rw [if_pos q, if_pos q, q, Bool.true_and, Bool.true_and]
    have hk := (rg_tn q).2
    obtain ⟨i1, i2, i3, i4, i5⟩ := i
    have hW := VW.eq g.2 g.1.vw
    have hb : ∀ k, k < 4 → (k ||| 2 ^ 0 < 4 ∧ (k ||| 2 ^ 0).testBit 0 = true ∧ (k ||| 2 ^ 0).testBit 1 = k.testBit 1) ∧ (k ||| 2 ^ 1 < 4 ∧ (k ||| 2 ^ 1).testBit 1 = true ∧ (k ||| 2 ^ 1).testBit 0 = k.testBit 0) := by decide
    obtain ⟨⟨p1, p2, p3⟩, q1, q2, q3⟩ := hb kb i1
    rcases (show tn x = 0 ∨ tn x = 1 by omega) with e | e
    · rw [e, if_pos (by decide), if_neg (by decide)]
      have hin : ∀ j, j < 63 → pcopy (Mt 0) 0 63 63 (63 + j) = Mt 0 (0 + j) := fun j hj => pcopy_in hj
      have hout : ∀ j, (j < 63 ∨ 126 ≤ j) → pcopy (Mt 0) 0 63 63 j = Mt 0 j := fun j hj => pcopy_out (by omega)
      refine ⟨g.keep rfl (fun j hj => hout j (Or.inl hj)), ⟨p1, ?_, ?_, fun _ => ⟨g.1, ?_⟩, fun z => ?_⟩, tt, s, f, c⟩
      · rw [p2]; rfl
      · rw [p3]; exact i3
      · exact g.2.tr (pgq (M := u2 (u3 Mt 0 (pcopy (Mt 0) 0 63 63)) 10 0 1) (N := Mt) (p := 63) (q := 0) rfl hW.1 hW.2.1 hW.2.2.2.1 hin).sy
      · rw [p3] at z
        exact ⟨(i5 z).1, (i5 z).2.tr (pg_same (VW.eq (i5 z).2 (i5 z).1.vw) rfl (fun j h1 h2 => hout j (Or.inr h1)))⟩
    · rw [e, if_neg (by decide), if_pos (by decide)]
      have hin : ∀ j, j < 63 → pcopy (Mt 0) 0 126 63 (126 + j) = Mt 0 (0 + j) := fun j hj => pcopy_in hj
      have hout : ∀ j, j < 126 → pcopy (Mt 0) 0 126 63 j = Mt 0 j := fun j hj => pcopy_out (by omega)
      refine ⟨g.keep rfl (fun j hj => hout j (by omega)), ⟨q1, ?_, ?_, fun z => ?_, fun _ => ⟨g.1, ?_⟩⟩, tt, s, f, c⟩
      · rw [q3]; exact i2
      · rw [q2]; rfl
      · rw [q3] at z
        exact ⟨(i4 z).1, (i4 z).2.tr (pg_same (VW.eq (i4 z).2 (i4 z).1.vw) rfl (fun j h1 h2 => hout j (by omega)))⟩
      · exact g.2.tr (pgq (M := u2 (u3 Mt 0 (pcopy (Mt 0) 0 126 63)) 10 1 1) (N := Mt) (p := 126) (q := 0) rfl hW.1 hW.2.1 hW.2.2.2.1 hin).sy
  · have q : rg x 0 1 = false := by cases z : rg x 0 1 with
      | true => exact absurd z q
      | false => rfl
    rw [q]
    exact ⟨g, i, tt, s, f, c⟩
theorem rl_back {G I0 J0 K : Nat → Nat → Nat} {n : Nat} {t : Nat → Nat} {sn : Nat} {pl lo : Nat → Nat} {kb rf : Nat} {kn : Nat → Nat} {kl : Nat → Int32} {kc : Nat → Nat → Int32} {Mt : Nat → Nat → Nat} {la ce : Nat → Int32} (hR : Rel G I0 J0 kb n t sn pl lo K rf kn kl kc Mt la ce) (x : Int32) : Rel (backG kb G I0 J0 x) I0 J0 kb n t sn pl lo K rf kn kl kc (backM Mt x) la ce := by
  have hR' := hR
  obtain ⟨g, i, tt, s, f, c⟩ := hR
  obtain ⟨i1, i2, i3, i4, i5⟩ := i
  have e0 : G 8 0 = Mt 20 0 := g.2.1
  unfold backG backM
  by_cases q : rg x 0 1 = true
  · rw [if_pos q, if_pos q]
    have hk := (rg_tn q).2
    rcases (show tn x = 0 ∨ tn x = 1 by omega) with e | e
    · rw [e, i2]
      cases z : kb.testBit 0 with
      | true =>
        rw [if_pos rfl, if_neg (show ¬ rb true = 0 by decide)]
        have hI := i4 z
        have hW := VW.eq hI.2 hI.1.vw
        refine hR'.page (G1 := I0) ⟨hI.1, hI.2.tr (pgb hW).sy⟩ ?_ (fun j h1 h2 => pcopy_out (by omega)) rfl rfl rfl rfl rfl
        exact (show I0 8 0 = Mt 20 0 from hI.2.1).trans e0.symm
      | false => rw [if_neg (by decide), if_pos (by decide)]; exact hR'
    · rw [e, i3]
      cases z : kb.testBit 1 with
      | true =>
        rw [if_pos rfl, if_neg (show ¬ rb true = 0 by decide)]
        have hI := i5 z
        have hW := VW.eq hI.2 hI.1.vw
        refine hR'.page (G1 := J0) ⟨hI.1, hI.2.tr (pgb hW).sy⟩ ?_ (fun j h1 h2 => pcopy_out (by omega)) rfl rfl rfl rfl rfl
        exact (show J0 8 0 = Mt 20 0 from hI.2.1).trans e0.symm
      | false => rw [if_neg (by decide), if_pos (by decide)]; exact hR'
  · rw [if_neg q, if_neg q]; exact hR'
theorem rl_qback {G I0 J0 K : Nat → Nat → Nat} {n : Nat} {t : Nat → Nat} {sn : Nat} {pl lo : Nat → Nat} {kb rf : Nat} {kn : Nat → Nat} {kl : Nat → Int32} {kc : Nat → Nat → Int32} {Mt : Nat → Nat → Nat} {la ce : Nat → Int32} (hR : Rel G I0 J0 kb n t sn pl lo K rf kn kl kc Mt la ce) (x : Int32) : a_back (kb.testBit 0) (kb.testBit 1) (cgv I0) (cgv J0) x = m_back Mt x := by
  obtain ⟨g, ⟨i1, i2, i3, i4, i5⟩, -⟩ := hR
  unfold a_back m_back
  by_cases q : rg x 0 1 = true
  · rw [if_pos q, if_pos q]
    have hk := (rg_tn q).2
    rcases (show tn x = 0 ∨ tn x = 1 by omega) with e | e
    · rw [e, i2]
      cases z : kb.testBit 0 with
      | true => rw [if_pos (show pick2 true (kb.testBit 1) 0 = true from rfl), if_neg (show ¬ rb true = 0 by decide)]; exact congrArg nI (crossS_eq (i4 z).2)
      | false => rw [if_neg (show ¬ pick2 false (kb.testBit 1) 0 = true from Bool.false_ne_true), if_pos (by decide)]
    · rw [e, i3]
      cases z : kb.testBit 1 with
      | true => rw [if_pos (show pick2 (kb.testBit 0) true 1 = true from rfl), if_neg (show ¬ rb true = 0 by decide)]; exact congrArg nI (crossS_eq (i5 z).2)
      | false => rw [if_neg (show ¬ pick2 (kb.testBit 0) false 1 = true from Bool.false_ne_true), if_pos (by decide)]
  · rw [if_neg q, if_neg q]
theorem rl_see {G I0 J0 K : Nat → Nat → Nat} {n : Nat} {t : Nat → Nat} {sn : Nat} {pl lo : Nat → Nat} {kb rf : Nat} {kn : Nat → Nat} {kl : Nat → Int32} {kc : Nat → Nat → Int32} {Mt : Nat → Nat → Nat} {la ce : Nat → Int32} (hR : Rel G I0 J0 kb n t sn pl lo K rf kn kl kc Mt la ce) (x y : Int32) : Rel G I0 J0 kb n t (seeN (cgv G) sn x y) (seeP (cgv G) sn pl x y) (seeL (cgv G) sn lo x y) K rf kn kl kc (seeM Mt x y) la ce := by
  obtain ⟨g, i, tt, s, f, c⟩ := hR
  have s1 := s.1
  have e0 : cgv G 8 0 = Mt 20 0 := g.2.1
  unfold seeN seeP seeL seeM
  rw [s1, e0]
  by_cases q : (ix x (Mt 20 0) && rg y 0 120) = true
  · rw [if_pos q, if_pos q, if_pos q, if_pos q]
    by_cases h6 : sn < 6
    · rw [if_pos h6, if_pos h6, if_pos h6, if_pos h6]
      simp only [Bool.and_eq_true] at q
      refine ⟨g.keep rfl (fun _ _ => rfl), i.keep rfl rfl (fun _ _ _ => rfl), tt, ⟨rfl, by omega, fun j hj => ?_⟩, f, c⟩
      show u1 pl sn (tn x) j = u1 (u1 (Mt 8) (2 * sn) (tn x)) (2 * sn + 1) (tn y) (2 * j) ∧ u1 lo sn (tn y) j = u1 (u1 (Mt 8) (2 * sn) (tn x)) (2 * sn + 1) (tn y) (2 * j + 1) ∧ u1 pl sn (tn x) j < G 8 0 ∧ u1 lo sn (tn y) j ≤ 120
      by_cases e : j = sn
      · rw [e, u1_s, u1_s, u1_s, u1_n _ _ (by omega), u1_s]
        exact ⟨rfl, rfl, by rw [show G 8 0 = Mt 20 0 from e0]; exact ix_tn q.1, (rg_tn q.2).2⟩
      · have s3 := s.2.2 j (by omega)
        rw [u1_n _ _ e, u1_n _ _ e, u1_n _ _ (show 2 * j ≠ 2 * sn + 1 by omega), u1_n _ _ (show 2 * j ≠ 2 * sn by omega), u1_n _ _ (show 2 * j + 1 ≠ 2 * sn + 1 by omega), u1_n _ _ (show 2 * j + 1 ≠ 2 * sn by omega)]
        exact s3
    · rw [if_neg h6, if_neg h6, if_neg h6, if_neg h6]; exact ⟨g, i, tt, s, f, c⟩
  · rw [if_neg q, if_neg q, if_neg q, if_neg q]; exact ⟨g, i, tt, s, f, c⟩
theorem rl_forget {G I0 J0 K : Nat → Nat → Nat} {n : Nat} {t : Nat → Nat} {sn : Nat} {pl lo : Nat → Nat} {kb rf : Nat} {kn : Nat → Nat} {kl : Nat → Int32} {kc : Nat → Nat → Int32} {Mt : Nat → Nat → Nat} {la ce : Nat → Int32} (hR : Rel G I0 J0 kb n t sn pl lo K rf kn kl kc Mt la ce) (x : Int32) : Rel G I0 J0 kb n t (forgetN sn x) pl lo K rf kn kl kc (forgetM Mt x) la ce := by
  obtain ⟨g, i, tt, s, f, c⟩ := hR
  unfold forgetN forgetM
  rw [s.1]
  by_cases q : rg x 0 sn = true
  · rw [if_pos q, if_pos q]
    have h := (rg_tn q).2
    have s2 := s.2.1
    exact ⟨g.keep rfl (fun _ _ => rfl), i.keep rfl rfl (fun _ _ _ => rfl), tt, ⟨rfl, by omega, fun j hj => s.2.2 j (by omega)⟩, f, c⟩
  · rw [if_neg q, if_neg q]; exact ⟨g, i, tt, s, f, c⟩
theorem rl_feed {G I0 J0 K : Nat → Nat → Nat} {n : Nat} {t : Nat → Nat} {sn : Nat} {pl lo : Nat → Nat} {kb rf : Nat} {kn : Nat → Nat} {kl : Nat → Int32} {kc : Nat → Nat → Int32} {Mt : Nat → Nat → Nat} {la ce : Nat → Int32} (hR : Rel G I0 J0 kb n t sn pl lo K rf kn kl kc Mt la ce) (x : Int32) : Rel G I0 J0 kb (feedN n x) (feedT n t x) sn pl lo K rf kn kl kc (feedM Mt x) la ce := by
  obtain ⟨g, i, tt, s, f, c⟩ := hR
  unfold feedN feedT feedM
  rw [tt.1]
  by_cases q : rg x 0 127 = true
  · rw [if_pos q, if_pos q, if_pos q]
    by_cases h6 : n < 160
    · rw [if_pos h6, if_pos h6, if_pos h6]
      have h := (rg_tn q).2
      refine ⟨g.keep rfl (fun _ _ => rfl), i.keep rfl rfl (fun _ _ _ => rfl), ⟨rfl, by omega, fun j hj => ?_⟩, s, f, c⟩
      show u1 t n (tn x) j = u1 (Mt 2) n (tn x) j ∧ u1 t n (tn x) j < 128
      by_cases e : j = n
      · rw [e, u1_s, u1_s]; exact ⟨rfl, by omega⟩
      · rw [u1_n _ _ e, u1_n _ _ e]; exact tt.2.2 j (by omega)
    · rw [if_neg h6, if_neg h6, if_neg h6]; exact ⟨g, i, tt, s, f, c⟩
  · rw [if_neg q, if_neg q, if_neg q]; exact ⟨g, i, tt, s, f, c⟩
theorem rl_end {G I0 J0 K : Nat → Nat → Nat} {n : Nat} {t : Nat → Nat} {sn : Nat} {pl lo : Nat → Nat} {kb rf : Nat} {kn : Nat → Nat} {kl : Nat → Int32} {kc : Nat → Nat → Int32} {Mt : Nat → Nat → Nat} {la ce : Nat → Int32} (hR : Rel G I0 J0 kb n t sn pl lo K rf kn kl kc Mt la ce) (x : Int32) : Rel G I0 J0 kb (endN n x) t sn pl lo K rf kn kl kc (endM Mt x) la ce := by
  obtain ⟨g, i, tt, s, f, c⟩ := hR
  unfold endN endM
  rw [tt.1]
  by_cases q : rg x 0 n = true
  · rw [if_pos q, if_pos q]
    have h := (rg_tn q).2
    have t2 := tt.2.1
    exact ⟨g.keep rfl (fun _ _ => rfl), i.keep rfl rfl (fun _ _ _ => rfl), ⟨rfl, by omega, fun j hj => tt.2.2 j (by omega)⟩, s, f, c⟩
  · rw [if_neg q, if_neg q]; exact ⟨g, i, tt, s, f, c⟩
theorem rl_sheet {G I0 J0 K : Nat → Nat → Nat} {n : Nat} {t : Nat → Nat} {sn : Nat} {pl lo : Nat → Nat} {kb rf : Nat} {kn : Nat → Nat} {kl : Nat → Int32} {kc : Nat → Nat → Int32} {Mt : Nat → Nat → Nat} {la ce : Nat → Int32} (hR : Rel G I0 J0 kb n t sn pl lo K rf kn kl kc Mt la ce) (x y z : Int32) : Rel G I0 J0 kb n t sn pl lo K rf (shSt kn x y z (tn z)) (shSt kl x y z y) (shSt kc x y z (fun _ => 0)) (sheetM Mt x y z) (sheetL la x y z) (sheetC ce x y z) := by
  obtain ⟨g, i, tt, s, f, c⟩ := hR
  unfold shSt sheetM sheetL sheetC
  by_cases q : shOk x y z = true
  · rw [if_pos q, if_pos q, if_pos q, if_pos q, if_pos q, if_pos q]
    by_cases h0 : (0 : Int32) ≤ z
    · rw [if_pos h0, if_pos h0, if_pos h0, if_pos h0, if_pos h0, if_pos h0]
      unfold shOk at q
      simp only [Bool.and_eq_true, decide_eq_true_eq] at q
      obtain ⟨⟨q1, q2⟩, q3⟩ := q
      have hz : tn z ≤ 40 := by
        rw [Int32.le_iff_toInt_le, nI_toInt (by omega)] at q3
        show z.toInt.toNat ≤ 40
        omega
      have hy : y ≠ -4 ∧ y ≠ -1 := by
        obtain ⟨k, _, h2, _, e⟩ := rg_sp q2
        rw [e]
        rcases (show k = 0 ∨ k = 1 ∨ k = 2 by omega) with rfl | rfl | rfl <;> decide
      refine ⟨g.keep rfl (fun _ _ => rfl), i.keep rfl rfl (fun _ _ _ => rfl), tt, s, f, fun k hk => ?_⟩
      have ck := c k hk
      show ua kl (tn x) y k = lnm (upd la (tn x) y k) ∧ (upd la (tn x) y k ≠ -4 → upd la (tn x) y k ≠ -1) ∧ ua kn (tn x) (tn z) k = u1 (Mt 12) (tn x) (tn z) k ∧ ua kn (tn x) (tn z) k ≤ 40 ∧ ∀ j, j < 40 → ua kc (tn x) (fun _ => 0) k j = zero40 ce (tn x) 40 (40 * k + j)
      unfold ua upd u1 zero40
      by_cases e : k = tn x
      · rw [if_pos e, if_pos e, if_pos e, if_pos e, if_pos e]
        refine ⟨?_, fun _ => hy.2, rfl, hz, fun j hj => ?_⟩
        · unfold lnm; rw [if_neg hy.1]
        · rw [if_pos (by omega)]
      · rw [if_neg e, if_neg e, if_neg e, if_neg e, if_neg e]
        refine ⟨ck.1, ck.2.1, ck.2.2.1, ck.2.2.2.1, fun j hj => ?_⟩
        rw [if_neg (by omega)]
        exact ck.2.2.2.2 j hj
    · rw [if_neg h0, if_neg h0, if_neg h0, if_neg h0, if_neg h0, if_neg h0]; exact ⟨g, i, tt, s, f, c⟩
  · rw [if_neg q, if_neg q, if_neg q, if_neg q, if_neg q, if_neg q]; exact ⟨g, i, tt, s, f, c⟩
theorem lnm_m {x : Int32} (h : x ≠ -4 → x ≠ -1) : lnm x = -1 ↔ x = -4 := by
  unfold lnm
  by_cases e : x = -4
  · rw [if_pos e]; exact ⟨fun _ => e, fun _ => rfl⟩
  · rw [if_neg e]; exact ⟨fun q => absurd q (h e), fun q => absurd q e⟩
theorem fc_ix (y : Int32) (n : Nat) : fc y n 1 = ix y n := by
  unfold fc ix
  congr 1
theorem rl_qlay {G I0 J0 K : Nat → Nat → Nat} {n : Nat} {t : Nat → Nat} {sn : Nat} {pl lo : Nat → Nat} {kb rf : Nat} {kn : Nat → Nat} {kl : Nat → Int32} {kc : Nat → Nat → Int32} {Mt : Nat → Nat → Nat} {la ce : Nat → Int32} (hR : Rel G I0 J0 kb n t sn pl lo K rf kn kl kc Mt la ce) (x y : Int32) : a_lay kl kn x y = m_lay la (Mt 12) x y := by
  obtain ⟨-, -, -, -, -, c⟩ := hR
  unfold a_lay m_lay
  by_cases q : rg x 0 3 = true
  · rw [if_pos q, if_pos q]
    have ck := c (tn x) (by have := (rg_tn q).2; omega)
    rw [ck.1, ck.2.2.1]
    unfold fcl
    by_cases h : la (tn x) = -4
    · rw [if_pos ((lnm_m ck.2.1).mpr h), if_pos h]; rfl
    · rw [if_neg (fun z => h ((lnm_m ck.2.1).mp z)), if_neg h, fc_ix]
      cases ix y (Mt 12 (tn x)) <;> rfl
  · rw [if_neg q, if_neg q]
theorem rl_lay {G I0 J0 K : Nat → Nat → Nat} {n : Nat} {t : Nat → Nat} {sn : Nat} {pl lo : Nat → Nat} {kb rf : Nat} {kn : Nat → Nat} {kl : Nat → Int32} {kc : Nat → Nat → Int32} {Mt : Nat → Nat → Nat} {la ce : Nat → Int32} (hR : Rel G I0 J0 kb n t sn pl lo K rf kn kl kc Mt la ce) (x y z : Int32) : Rel G I0 J0 kb n t sn pl lo K rf kn kl (layC kc kl kn x y z) Mt la (layM la (Mt 12) ce x y z) := by
  obtain ⟨g, i, tt, s, f, c⟩ := hR
  refine ⟨g, i, tt, s, f, fun k hk => ?_⟩
  have ck := c k hk
  refine ⟨ck.1, ck.2.1, ck.2.2.1, ck.2.2.2.1, fun j hj => ?_⟩
  have cj := ck.2.2.2.2 j hj
  unfold layC layM
  by_cases q : rg x 0 3 = true
  · rw [if_pos q, if_pos q]
    have cx := c (tn x) (by have := (rg_tn q).2; omega)
    rw [cx.1, cx.2.2.1]
    unfold fcl
    by_cases h : la (tn x) = -4
    · rw [if_pos ((lnm_m cx.2.1).mpr h), if_pos h, if_neg (by decide)]; exact cj
    · rw [if_neg (fun z => h ((lnm_m cx.2.1).mp z)), if_neg h, fc_ix]
      cases hi : ix y (Mt 12 (tn x)) with
      | false => rw [if_neg (by decide), if_neg (by decide)]; exact cj
      | true =>
        rw [if_pos rfl, if_pos rfl, if_pos rfl]
        have hy := ix_tn hi
        have h40 := cx.2.2.2.1
        rw [cx.2.2.1] at h40
        unfold ua
        by_cases e : k = tn x
        · rw [if_pos e]
          unfold upd
          have e9 : lnm (la (tn x)) = la (tn x) := by unfold lnm; rw [if_neg h]
          by_cases e2 : j = tn y
          · rw [if_pos e2, if_pos (by omega), e9]
          · rw [if_neg e2, if_neg (by omega), ← e]; exact cj
        · rw [if_neg e]
          unfold upd
          rw [if_neg (by omega)]; exact cj
  · rw [if_neg q, if_neg q]; exact cj
theorem rl_qcount {G I0 J0 K : Nat → Nat → Nat} {n : Nat} {t : Nat → Nat} {sn : Nat} {pl lo : Nat → Nat} {kb rf : Nat} {kn : Nat → Nat} {kl : Nat → Int32} {kc : Nat → Nat → Int32} {Mt : Nat → Nat → Nat} {la ce : Nat → Int32} (hR : Rel G I0 J0 kb n t sn pl lo K rf kn kl kc Mt la ce) (x : Int32) : a_count sn (pc kb) n (decide (kl 0 = -1)) (kn 0) (cgv G) x = m_count (Mt 20 11) (Mt 10 0 + Mt 10 1) (Mt 20 3) (la 0) (Mt 12 0) (pgv Mt 0) x := by
  obtain ⟨g, ⟨i1, i2, i3, -⟩, tt, s, f, c⟩ := hR
  have c0 := c 0 (by decide)
  have hb : ∀ k, k < 4 → pc k = rb (k.testBit 0) + rb (k.testBit 1) := by decide
  have e1 : nsum (cgv G 3) (cgv G 8 1) = nsum (pgv Mt 0 3) (pgv Mt 0 8 1) := by
    rw [← g.2.2.1]; exact nsum_congr fun k hk => (g.2.2.2.2.2.2.1 k hk).2.2.1
  have e2 : nsum (cgv G 7) (cgv G 8 3) = nsum (pgv Mt 0 7) (pgv Mt 0 8 3) := by
    rw [← g.2.2.2.2.1]; exact nsum_congr fun k hk => (g.2.2.2.2.2.2.2 k hk).2.2
  unfold a_count m_count
  rw [s.1, tt.1, i2, i3, hb kb i1, e1, e2, c0.2.2.1]
  rw [show decide (kl 0 = -1) = decide (la 0 = -4) from decide_eq_decide.mpr (by rw [c0.1]; exact lnm_m c0.2.1)]
  simp only [decide_eq_true_eq]
/-! a sheet is read -/
theorem rfs_lo {P : Nat → Bool} : ∀ m k j, k ≤ j → j < rfs P m k → P j = false := by
  intro m
  induction m with
  | zero => intro k j h1 h2; exact absurd h2 (by show ¬ j < k; omega)
  | succ m ih =>
    intro k j h1 h2
    have h2 : j < (if P k = true then k else rfs P m (k + 1)) := h2
    by_cases q : P k = true
    · rw [if_pos q] at h2; omega
    · rw [if_neg q] at h2
      by_cases e : j = k
      · rw [e]; cases z : P k with
        | true => exact absurd z q
        | false => rfl
      · exact ih (k + 1) j (by omega) h2
theorem rdC_ok {v : Nat → Nat → Nat} {l : Int32} {n : Nat} {ce : Nat → Int32} {lane f : Int32} {m : Nat} : ∀ j, j < rdC v l n ce lane f m → rdF l n lane (rdAt f j) = 0 ∧ rdOk (v 8 0) (v 8 3) ce f j = true := by
  intro j hj
  have h := rfs_lo m 0 j (Nat.zero_le j) hj
  unfold rdStop at h
  rw [Bool.or_eq_false_iff] at h
  refine ⟨?_, ?_⟩
  · have := of_decide_eq_false h.1; omega
  · cases z : rdOk (v 8 0) (v 8 3) ce f j with
    | true => rfl
    | false => rw [z] at h; exact absurd h.2 (by decide)
theorem addv_eq {v w : Nat → Nat → Nat} (h : VEq v w) (a b L : Nat) : VEq (addv v a b L) (addv w a b L) := by
  obtain ⟨h0, h1, h2, h3, h4, h5, h6⟩ := h
  unfold addv
  rw [← h3]
  refine ⟨h0, h1, h2, rfl, h4, h5, fun i hi => ?_⟩
  have hi : i < v 8 3 + 1 := hi
  show u1 (v 5) (v 8 3) a i = u1 (w 5) (v 8 3) a i ∧ u1 (v 6) (v 8 3) b i = u1 (w 6) (v 8 3) b i ∧ u1 (v 7) (v 8 3) L i = u1 (w 7) (v 8 3) L i
  by_cases e : i = v 8 3
  · subst e; rw [u1_s, u1_s, u1_s, u1_s, u1_s, u1_s]; exact ⟨rfl, rfl, rfl⟩
  · rw [u1_n _ _ e, u1_n _ _ e, u1_n _ _ e, u1_n _ _ e, u1_n _ _ e, u1_n _ _ e]; exact h6 i (by omega)
theorem rdV_eq {v w : Nat → Nat → Nat} (h : VEq v w) {f : Int32} {ce cf : Nat → Int32} (hc : ∀ j, j < 40 → ce j = cf j) {l lane : Int32} {n : Nat} (hn : n ≤ 40) : ∀ i, (∀ j, j < i → rdF l n lane (rdAt f j) = 0) → VEq (rdV v f ce i) (rdV w f cf i) := by
  intro i
  induction i with
  | zero => intro _; exact h
  | succ i ih =>
    intro hf
    obtain ⟨k, hk, e⟩ := rdF_0 (by omega) (hf i (by omega))
    show VEq (addv (rdV v f ce i) (tn (ce (tn (rdAt f i)))) (tn (ce (tn (rdAt f i) + 1))) (tn (ce (tn (rdAt f i) + 2)))) (addv (rdV w f cf i) (tn (cf (tn (rdAt f i)))) (tn (cf (tn (rdAt f i) + 1))) (tn (cf (tn (rdAt f i) + 2))))
    rw [e, tn_nI (by omega), hc k (by omega), hc (k + 1) (by omega), hc (k + 2) (by omega)]
    exact addv_eq (ih fun j hj => hf j (by omega)) _ _ _
theorem cgv_rdG (G : Nat → Nat → Nat) (f : Int32) (ce : Nat → Int32) : ∀ i, cgv (rdG G f ce i) = rdV (cgv G) f ce i := by
  intro i
  induction i with
  | zero => rfl
  | succ i ih =>
    show cgv (addT (rdG G f ce i) _ _ _) = addv (rdV (cgv G) f ce i) _ _ _
    rw [cgv_talk, ih]
theorem rdV_lo (v : Nat → Nat → Nat) (f : Int32) (ce : Nat → Int32) : ∀ i, VEq v (u2 (rdV v f ce i) 8 3 (v 8 3)) := by
  intro i
  induction i with
  | zero => rw [show rdV v f ce 0 = v from rfl, u2_id]; exact VEq.rf v
  | succ i ih =>
    obtain ⟨h0, h1, h2, h3, h4, h5, h6⟩ := ih
    refine ⟨h0, h1, h2, rfl, h4, h5, fun k hk => ?_⟩
    have h := h6 k hk
    have e : k ≠ rdV v f ce i 8 3 := by rw [rdV_83]; omega
    refine ⟨h.1.trans ?_, h.2.1.trans ?_, h.2.2.trans ?_⟩
    · exact (u1_n (rdV v f ce i 5) _ e).symm
    · exact (u1_n (rdV v f ce i 6) _ e).symm
    · exact (u1_n (rdV v f ce i 7) _ e).symm
theorem rl_read {G I0 J0 K : Nat → Nat → Nat} {n : Nat} {t : Nat → Nat} {sn : Nat} {pl lo : Nat → Nat} {kb rf : Nat} {kn : Nat → Nat} {kl : Nat → Int32} {kc : Nat → Nat → Int32} {Mt : Nat → Nat → Nat} {la ce : Nat → Int32} (hR : Rel G I0 J0 kb n t sn pl lo K rf kn kl kc Mt la ce) (x y z w : Int32) (u7 : Nat → Nat) (hp7 : VEq (pgv (u3 Mt 0 u7) 0) (readV (pgv Mt 0) (lnm (la (tn x))) (Mt 12 (tn x)) (fun j => ce (40 * tn x + j)) x y z w) ∧ ∀ j, 63 ≤ j → j < 189 → u7 j = Mt 0 j) : (a_read (cgv G) (kl (tn x)) (kn (tn x)) (kc (tn x)) x y z w) = (a_read (pgv Mt 0) (lnm (la (tn x))) (Mt 12 (tn x)) (fun j => ce (40 * tn x + j)) x y z w) ∧ Rel (readG G (kl (tn x)) (kn (tn x)) (kc (tn x)) x y z w) I0 J0 kb n t sn pl lo K (readF (cgv G) rf (kl (tn x)) (kn (tn x)) (kc (tn x)) x y z w) kn kl kc (u2 (u3 Mt 0 u7) 20 12 (readF (pgv Mt 0) (Mt 20 12) (lnm (la (tn x))) (Mt 12 (tn x)) (fun j => ce (40 * tn x + j)) x y z w)) la ce := by
  obtain ⟨g, i, tt, s, f, c⟩ := hR
  by_cases q : (rg x 0 3 && rg y 0 2 && rg w 0 13) = true
  · have q' := q
    simp only [Bool.and_eq_true] at q'
    have cx := c (tn x) (by have := (rg_tn q'.1.1).2; omega)
    obtain ⟨c1, c2, c3, c4, c5⟩ := cx
    rw [c1, c3]
    rw [c3] at c4
    have eF := readF_eq g.2 (l := lnm (la (tn x))) c4 (cf := fun j => ce (40 * tn x + j)) c5 rf x y z w
    refine ⟨a_read_eq g.2 c4 c5 x y z w, ?_⟩
    have hG : RelG (readG G (lnm (la (tn x))) (Mt 12 (tn x)) (kc (tn x)) x y z w) (u3 Mt 0 u7) := by
      have hok : ∀ j, j < rdC (cgv G) (lnm (la (tn x))) (Mt 12 (tn x)) (kc (tn x)) y z (tn w) → rdF (lnm (la (tn x))) (Mt 12 (tn x)) y (rdAt z j) = 0 ∧ rdOk (G 8 0) (G 8 3) (kc (tn x)) z j = true := rdC_ok (v := cgv G)
      have hw := rdG_w (f := z) (ce := kc (tn x)) g.1 _ (fun j hj => (hok j hj).2)
      refine ⟨?_, VEq.tr ?_ hp7.1.sy⟩
      · unfold readG; rw [if_pos q]
        split
        · exact hw.dropu (by rw [rdG_83]; omega)
        · exact hw
      · unfold readG readV
        rw [if_pos q, if_pos q, ← rdB_eq g.2 c4 c5, ← rdC_eq g.2 c4 c5]
        split
        · rw [cgv_u2 (by decide), cgv_rdG]
          exact (rdV_lo (cgv G) z (kc (tn x)) _).sy.tr g.2
        · rw [cgv_rdG]
          exact rdV_eq g.2 c5 c4 _ (fun j hj => (hok j hj).1)
    have e80 : readG G (lnm (la (tn x))) (Mt 12 (tn x)) (kc (tn x)) x y z w 8 0 = G 8 0 := hG.2.1.trans g.2.1.symm
    refine ⟨hG.keep rfl (fun _ _ => rfl), i.keep rfl rfl hp7.2, tt, ?_, ⟨f.1, f.2.1, ?_⟩, c⟩
    · unfold RelS; rw [e80]; exact s
    · rw [eF, f.2.2]; rfl
  · have e1 : readG G (kl (tn x)) (kn (tn x)) (kc (tn x)) x y z w = G := if_neg q
    have e2 : readF (cgv G) rf (kl (tn x)) (kn (tn x)) (kc (tn x)) x y z w = rf := if_neg q
    have e3 : readF (pgv Mt 0) (Mt 20 12) (lnm (la (tn x))) (Mt 12 (tn x)) (fun j => ce (40 * tn x + j)) x y z w = Mt 20 12 := if_neg q
    have e4 : readV (pgv Mt 0) (lnm (la (tn x))) (Mt 12 (tn x)) (fun j => ce (40 * tn x + j)) x y z w = pgv Mt 0 := if_neg q
    rw [e1, e2, e3]
    rw [e4] at hp7
    refine ⟨?_, ⟨⟨g.1, g.2.tr hp7.1.sy⟩, i.keep rfl rfl hp7.2, tt, s, ⟨f.1, f.2.1, f.2.2⟩, c⟩⟩
    unfold a_read; rw [if_neg q, if_neg q]
