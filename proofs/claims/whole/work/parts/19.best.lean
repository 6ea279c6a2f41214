/-! the best of some choices -/
def bst (s : Int32 × Nat) (c x : Nat) : Int32 × Nat := if x < s.2 then (nI c, x) else s
def bfold (P : Nat → Bool) (x : Nat → Nat) (L : Nat) : Nat → Int32 × Nat
  | 0 => (-4, L)
  | i + 1 => if P i = true then bst (bfold P x L i) i (x i) else bfold P x L i
def a_told (s : Int32 × Nat) (w : Nat) : Int32 := if w = 0 ∨ s.1 = -4 then s.1 else nI s.2
theorem bf_t {P : Nat → Bool} {x : Nat → Nat} {L i am : Nat} {ch : Int32} (hP : P i = true) (h : (ch, am) = bfold P x L i) : (if x i < am then nI i else ch, if x i < am then x i else am) = bfold P x L (i + 1) := by
  show _ = if P i = true then bst (bfold P x L i) i (x i) else bfold P x L i
  rw [if_pos hP, ← h]
  unfold bst
  by_cases h1 : x i < am
  · rw [if_pos h1, if_pos h1, if_pos h1]
  · rw [if_neg h1, if_neg h1, if_neg h1]
theorem bf_f {P : Nat → Bool} {x : Nat → Nat} {L i am : Nat} {ch : Int32} (hP : P i = false) (h : (ch, am) = bfold P x L i) : (ch, am) = bfold P x L (i + 1) := by
  show _ = if P i = true then bst (bfold P x L i) i (x i) else bfold P x L i
  rw [if_neg (by rw [hP]; decide)]; exact h
theorem bf_k {P : Nat → Bool} {x : Nat → Nat} {L i am : Nat} {ch : Int32} (hx : am ≤ x i) (h : (ch, am) = bfold P x L i) : (ch, am) = bfold P x L (i + 1) := by
  cases hP : P i with
  | true => rw [← bf_t hP h, if_neg (by omega), if_neg (by omega)]
  | false => exact bf_f hP h
theorem bf_le (P : Nat → Bool) (x : Nat → Nat) (L : Nat) : ∀ i, (bfold P x L i).2 ≤ L := by
  intro i
  induction i with
  | zero => exact Nat.le_refl _
  | succ i ih =>
    show (if P i = true then bst (bfold P x L i) i (x i) else bfold P x L i).2 ≤ L
    split
    · unfold bst; split
      · show x i ≤ L; omega
      · exact ih
    · exact ih
theorem bf_am {P : Nat → Bool} {x : Nat → Nat} {L i am : Nat} {ch : Int32} (h : (ch, am) = bfold P x L i) : am ≤ L := by
  have := bf_le P x L i
  rw [← h] at this; exact this
theorem told_s {P : Nat → Bool} {x : Nat → Nat} {L i am w : Nat} {ch : Int32} (h : (ch, am) = bfold P x L i) : (if w = 0 ∨ ch = -4 then ch else nI am) = a_told (bfold P x L i) w := by rw [← h]; rfl
def a_from (L : Nat) (v : Nat → Nat → Nat) (x y : Int32) : Int32 := if (rg x 0 (2 ^ v 8 0 - 1) && rg y 0 1) = true then a_told (bfold (fun t => decide (leastS v t (tn x) (tn x) ≠ 0)) (fun t => leastS v t (tn x) (tn x)) L (v 8 0)) (tn y) else -1
def hushP (v : Nat → Nat → Nat) (t u b sm : Nat) : Bool := cutsB v sm && !((hearS (cutv v sm) t b).testBit u)
def a_hush (L : Nat) (v : Nat → Nat → Nat) (x y z w : Int32) : Int32 := if (ix x (v 8 0) && ix y (v 8 0) && rg z 1 60 && rg w 0 1) = true then a_told (bfold (hushP v (tn x) (tn y) (tn z)) pc L (2 ^ v 8 1)) (1 - tn w) else -1
def a_dear (v : Nat → Nat → Nat) (x : Int32) : Int32 := if rg x 0 1 = true then a_told (bfold (fun i => decide (v 4 i = 0)) (fun i => hearersS (cutv v (2 ^ i))) (hearersS v) (v 8 1)) (tn x) else -1
def a_hour (L : Nat) (v : Nat → Nat → Nat) (x y : Int32) : Int32 := if (ix x (v 8 3) && rg y 0 1) = true then a_told (bfold (fun _ => true) (fun h => crossS (u2 v 5 (tn x) h)) L 24) (tn y) else -1
def a_kind (L : Nat) (v : Nat → Nat → Nat) (x y : Int32) : Int32 := if (ix x (v 8 0) && rg y 0 1) = true then a_told (bfold (fun _ => true) (fun k => crossS (u2 v 0 (tn x) k)) L 4) (tn y) else -1
def calmP (v : Nat → Nat → Nat) (w : Nat) : Bool := decide (crossS (u2 v 8 2 (w - 1)) = 0)
def a_calm (v : Nat → Nat → Nat) : Int32 := if lfind (calmP v) 21 1 = 0 then -4 else nI (lfind (calmP v) 21 1 - 1)
theorem u2_u2 (G : Nat → Nat → Nat) (f i x y : Nat) : u2 (u2 G f i x) f i y = u2 G f i y := by
  funext f'
  unfold u2
  by_cases h : f' = f
  · rw [if_pos h, if_pos h, if_pos h]
    funext j
    unfold u1
    split <;> rfl
  · rw [if_neg h, if_neg h, if_neg h]
theorem cgv_u2 {G : Nat → Nat → Nat} {f i x : Nat} (h : f ≠ 4) : cgv (u2 G f i x) = u2 (cgv G) f i x := by
  funext f' j
  have e1 : u2 G f i x 4 0 = G 4 0 := by unfold u2; rw [if_neg (Ne.symm h)]
  show (if f' = 4 then (if (u2 G f i x 4 0).testBit j then 1 else 0) else u2 G f i x f' j) = _
  rw [e1]
  by_cases h4 : f' = 4
  · subst h4
    rw [if_pos rfl]
    unfold u2
    rw [if_neg (Ne.symm h)]
    rfl
  · rw [if_neg h4]
    unfold u2
    by_cases hf : f' = f
    · rw [if_pos hf, if_pos hf]
      unfold u1
      split
      · rfl
      · exact (if_neg h4).symm
    · rw [if_neg hf, if_neg hf]
      exact (if_neg h4).symm
theorem GW.cutu {G : Nat → Nat → Nat} {c : Nat} (hw : GW G) (h : c < 2 ^ G 8 1) : GW (u2 G 4 0 c) := by
  obtain ⟨h1, h2, h3, h4, h5, h6, h7, h8⟩ := hw
  exact ⟨h1, h2, h3, h4, h, h6, h7, h8⟩
theorem GW.windu {G : Nat → Nat → Nat} {w : Nat} (hw : GW G) (h : w ≤ 20) : GW (u2 G 8 2 w) := by
  obtain ⟨h1, h2, h3, h4, h5, h6, h7, h8⟩ := hw
  exact ⟨h1, h2, h, h4, h5, h6, h7, h8⟩
theorem GW.houru {G : Nat → Nat → Nat} {k x : Nat} (hw : GW G) (h : x ≤ 23) : GW (u2 G 5 k x) := by
  obtain ⟨h1, h2, h3, h4, h5, h6, h7, h8⟩ := hw
  refine ⟨h1, h2, h3, h4, h5, h6, h7, fun j hj => ⟨?_, (h8 j hj).2⟩⟩
  show u1 (G 5) k x j ≤ 23
  unfold u1; split
  · exact h
  · exact (h8 j hj).1
theorem GW.kindu {G : Nat → Nat → Nat} {k x : Nat} (hw : GW G) (h : x ≤ 3) : GW (u2 G 0 k x) := by
  obtain ⟨h1, h2, h3, h4, h5, h6, h7, h8⟩ := hw
  refine ⟨h1, h2, h3, h4, h5, fun j hj => ?_, h7, h8⟩
  show u1 (G 0) k x j ≤ 3
  unfold u1; split
  · exact h
  · exact h6 j hj
theorem or_lt {a b r : Nat} (ha : a < 2 ^ r) (hb : b < 2 ^ r) : a ||| b < 2 ^ r := Nat.or_lt_two_pow ha hb
theorem cgv_cut (G : Nat → Nat → Nat) (sm : Nat) : cgv (u2 G 4 0 (G 4 0 ||| sm)) = cutv (cgv G) sm := by
  funext f j
  unfold cutv cgv
  by_cases h : f = 4
  · subst h
    rw [if_pos rfl, if_pos rfl, if_pos rfl]
    show (if ((G 4 0) ||| sm).testBit j then 1 else 0) = _
    rw [Nat.testBit_or]
    cases (G 4 0).testBit j <;> cases sm.testBit j <;> rfl
  · rw [if_neg h, if_neg h, if_neg h]
    unfold u2; rw [if_neg h]
theorem cuts_and {G : Nat → Nat → Nat} {sm : Nat} (hs : sm < 2 ^ G 8 1) : cutsB (cgv G) sm = decide (sm &&& G 4 0 = 0) := by
  have hb : ∀ i, (!(sm.testBit i) || decide (cgv G 4 i = 0)) = !((sm &&& G 4 0).testBit i) := by
    intro i
    rw [Nat.testBit_and]
    show (!(sm.testBit i) || decide ((if 4 = 4 then (if (G 4 0).testBit i then 1 else 0) else G 4 i) = 0)) = _
    cases sm.testBit i <;> cases (G 4 0).testBit i <;> rfl
  unfold cutsB
  rw [show cgv G 8 1 = G 8 1 from rfl]
  by_cases h : sm &&& G 4 0 = 0
  · rw [decide_eq_true h]
    refine ball_mk fun i _ => ?_
    show (!(sm.testBit i) || decide (cgv G 4 i = 0)) = true
    rw [hb, h, Nat.zero_testBit]; rfl
  · rw [decide_eq_false h]
    cases q : ball (fun i => !(sm.testBit i) || decide (cgv G 4 i = 0)) (G 8 1) with
    | false => rfl
    | true =>
      refine absurd (Nat.eq_of_testBit_eq fun i => ?_) h
      rw [Nat.zero_testBit]
      by_cases hi : i < G 8 1
      · have := ball_all q i hi
        rw [hb] at this
        cases z : (sm &&& G 4 0).testBit i with
        | false => rfl
        | true => rw [z] at this; exact absurd this (by decide)
      · rw [Nat.testBit_and, Nat.testBit_lt_two_pow (Nat.lt_of_lt_of_le hs (Nat.pow_le_pow_right (by decide) (by omega)))]; rfl
theorem sm_lt {i r : Nat} (hr : r ≤ 9) (h : i < 2 ^ r) : i < 512 := Nat.lt_of_lt_of_le h (Nat.pow_le_pow_right (n := 2) (by decide) hr)
theorem hush_f0 {G : Nat → Nat → Nat} {t u b sm : Nat} (hs : sm < 2 ^ G 8 1) (h : 0 < sm &&& G 4 0) : hushP (cgv G) t u b sm = false := by
  unfold hushP; rw [cuts_and hs, decide_eq_false (by omega)]; rfl
theorem hush_f1 {G : Nat → Nat → Nat} {t u b sm : Nat} (h : 0 < hearS (cgv (u2 G 4 0 (G 4 0 ||| sm))) t b &&& 2 ^ u) : hushP (cgv G) t u b sm = false := by
  unfold hushP; rw [← cgv_cut, and_pow_t h]; simp
theorem hush_t {G : Nat → Nat → Nat} {t u b sm : Nat} (hs : sm < 2 ^ G 8 1) (h0 : sm &&& G 4 0 = 0) (h : hearS (cgv (u2 G 4 0 (G 4 0 ||| sm))) t b &&& 2 ^ u = 0) : hushP (cgv G) t u b sm = true := by
  unfold hushP; rw [cuts_and hs, decide_eq_true h0, ← cgv_cut, and_pow_f h]; rfl
theorem least_lt (v : Nat → Nat → Nat) (t a b : Nat) : leastS v t a b < 2 ^ 31 := say_lt _
theorem crossS_le (v : Nat → Nat → Nat) (h : v 8 3 ≤ 6) : crossS v ≤ 36 := by
  unfold crossS
  have h1 := nsum_le (f := fun k => cnt (crossP v k) k) (b := 6) (n := v 8 3) (fun i hi => Nat.le_trans (cnt_le _ _) (by omega))
  omega
theorem hearersS_le (v : Nat → Nat → Nat) (h : v 8 3 ≤ 6) : hearersS v ≤ 60 := by
  unfold hearersS
  have h1 := nsum_le (f := fun k => pc (heardS v k)) (b := 10) (n := v 8 3) (fun i hi => pc_le _)
  omega
theorem calm_v {G : Nat → Nat → Nat} {i : Nat} {b : Bool} (h : decide (crossS (cgv (u2 G 8 2 i)) = 0) = b) : calmP (cgv G) (i + 1) = b := by
  unfold calmP
  rw [← h, cgv_u2 (by decide), Nat.add_sub_cancel]
theorem calm_s {G : Nat → Nat → Nat} {i : Nat} (hi : i < 21) (h : 0 < crossS (cgv (u2 G 8 2 i))) : lfind (calmP (cgv G)) (21 - i) (i + 1) = lfind (calmP (cgv G)) (21 - (i + 1)) (i + 1 + 1) := by
  rw [show 21 - i = 22 - (i + 1) by omega, lfind_s (N := 22) (k := i + 1) (by omega) (calm_v (decide_eq_false (by omega))), show 22 - (i + 1 + 1) = 21 - (i + 1) by omega]
theorem calm_p {G : Nat → Nat → Nat} {i : Nat} (h : crossS (cgv (u2 G 8 2 i)) = 0) : calmP (cgv G) (i + 1) = true := calm_v (decide_eq_true h)
def a_feed (n : Nat) (x : Int32) : Int32 := if rg x 0 127 = true then (if n < 160 then nI (n + 1) else -3) else -1
def feedN (n : Nat) (x : Int32) : Nat := if rg x 0 127 = true then (if n < 160 then n + 1 else n) else n
def feedT (n : Nat) (t : Nat → Nat) (x : Int32) : Nat → Nat := if rg x 0 127 = true then (if n < 160 then u1 t n (tn x) else t) else t
def a_end (n : Nat) (x : Int32) : Int32 := if rg x 0 n = true then nI n else -1
def endN (n : Nat) (x : Int32) : Nat := if rg x 0 n = true then tn x else n
def a_see (v : Nat → Nat → Nat) (n : Nat) (x y : Int32) : Int32 := if (ix x (v 8 0) && rg y 0 120) = true then (if n < 6 then nI (n + 1) else -3) else -1
def seeN (v : Nat → Nat → Nat) (n : Nat) (x y : Int32) : Nat := if (ix x (v 8 0) && rg y 0 120) = true then (if n < 6 then n + 1 else n) else n
def seeP (v : Nat → Nat → Nat) (n : Nat) (pl : Nat → Nat) (x y : Int32) : Nat → Nat := if (ix x (v 8 0) && rg y 0 120) = true then (if n < 6 then u1 pl n (tn x) else pl) else pl
def seeL (v : Nat → Nat → Nat) (n : Nat) (lo : Nat → Nat) (x y : Int32) : Nat → Nat := if (ix x (v 8 0) && rg y 0 120) = true then (if n < 6 then u1 lo n (tn y) else lo) else lo
def a_forget (n : Nat) (x : Int32) : Int32 := if rg x 0 n = true then nI n else -1
def forgetN (n : Nat) (x : Int32) : Nat := if rg x 0 n = true then tn x else n
def a_breaths (v : Nat → Nat → Nat) (n : Nat) (pl lo : Nat → Nat) (x y : Int32) : Int32 := if (ix x (v 8 0) && rg y 0 1) = true then (if tn y = 0 then nI (manyS v (tn x) n pl lo) else orNone (lfind (fun b => fitS v (tn x) b n pl lo) 60 1)) else -1
def kindsP (v : Nat → Nat → Nat) (n : Nat) (pl lo : Nat → Nat) (t k : Nat) : Bool := decide (sayS (u2 v 0 t k) n pl lo ≠ 0)
def a_kinds (v : Nat → Nat → Nat) (n : Nat) (pl lo : Nat → Nat) (x : Int32) : Int32 := if ix x (v 8 0) = true then nI (bset (kindsP v n pl lo (tn x)) 4) else -1
theorem sayS_lt (v : Nat → Nat → Nat) (n : Nat) (pl lo : Nat → Nat) (h : v 8 0 ≤ 6) : sayS v n pl lo < 64 := bset_le _ h
theorem kinds_f {G : Nat → Nat → Nat} {n t k : Nat} {pl lo : Nat → Nat} (h : sayS (cgv (u2 G 0 t k)) n pl lo = 0) : kindsP (cgv G) n pl lo t k = false := by
  unfold kindsP; rw [← cgv_u2 (by decide), h]; rfl
theorem kinds_t {G : Nat → Nat → Nat} {n t k : Nat} {pl lo : Nat → Nat} (h : 0 < sayS (cgv (u2 G 0 t k)) n pl lo) : kindsP (cgv G) n pl lo t k = true := by
  unfold kindsP; rw [← cgv_u2 (by decide)]; exact decide_eq_true (by omega)
def a_ask (v : Nat → Nat → Nat) (n : Nat) (pl lo : Nat → Nat) (x : Int32) : Int32 := if rg x 0 1 = true then a_told (bfold (fun _ => true) (fun u => (lwT v u n pl lo (v 8 0)).2) (nsum (fun t => manyS v t n pl lo) (v 8 0)) (v 8 0)) (tn x) else -1
theorem sm_le {v : Nat → Nat → Nat} {n sm k : Nat} {pl lo : Nat → Nat} (h : sm = nsum (fun t => manyS v t n pl lo) k) : sm ≤ k * 60 := by
  rw [h]; exact nsum_le fun i _ => cnt_le _ 60
/-! years by a seed -/
def drs (s : Int32) : Nat → Int32
  | 0 => s
  | k + 1 => drs s k * (1103515245 : Int32) + nI 12345
def gotS (s : Int32) : Nat := (s >>> (nI 16 &&& 31)).toBitVec.toNat % 2 ^ 15
theorem gotS_lt (s : Int32) : gotS s < 32768 := Nat.mod_lt _ (by decide)
def tog (w : Nat → Nat → Nat) (i x : Nat) : Nat → Nat → Nat := u2 (u2 w 4 i (1 - w 4 i)) 8 2 x
def drv (v : Nat → Nat → Nat) (s : Int32) : Nat → (Nat → Nat → Nat)
  | 0 => v
  | k + 1 => tog (drv v s k) (gotS (drs s (k + 1)) % v 8 1) (gotS (drs s (k + 1)) / 16 % 21)
def a_drift (v : Nat → Nat → Nat) (s y z : Int32) : Int32 := if (rg y 1 60 && rg z 0 1) = true then (if v 8 1 = 0 then -2 else if tn z = 0 then nI (nsum (fun k => hearersS (drv v s (k + 1))) (tn y)) else nI (hearersS (drv v s (tn y)))) else -1
theorem xor_lt {a b r : Nat} (ha : a < 2 ^ r) (hb : b < 2 ^ r) : a ^^^ b < 2 ^ r := Nat.xor_lt_two_pow ha hb
theorem cgv_cw (G : Nat → Nat → Nat) (c w f j : Nat) : cgv (u2 (u2 G 4 0 c) 8 2 w) f j = if f = 4 then (if c.testBit j then 1 else 0) else if f = 8 ∧ j = 2 then w else G f j := by
  unfold cgv
  by_cases h4 : f = 4
  · rw [if_pos h4, if_pos h4]; rfl
  · rw [if_neg h4, if_neg h4]
    unfold u2
    by_cases h8 : f = 8
    · subst h8
      rw [if_pos rfl]
      unfold u1
      by_cases hj : j = 2
      · rw [if_pos hj, if_pos ⟨rfl, hj⟩]
      · rw [if_neg hj, if_neg (show ¬ (8 = 8 ∧ j = 2) from fun q => hj q.2)]; rfl
    · rw [if_neg h8, if_neg h4, if_neg (show ¬ (f = 8 ∧ j = 2) from fun q => h8 q.1)]
theorem drv_0 (G : Nat → Nat → Nat) : cgv (u2 (u2 G 4 0 (G 4 0)) 8 2 (G 8 2)) = cgv G := by
  funext f j
  rw [cgv_cw]
  unfold cgv
  by_cases h4 : f = 4
  · rw [if_pos h4, if_pos h4]
  · rw [if_neg h4, if_neg h4]
    by_cases h8 : f = 8 ∧ j = 2
    · rw [if_pos h8, h8.1, h8.2]
    · rw [if_neg h8]
theorem drv_tog (G : Nat → Nat → Nat) (cb wv i x : Nat) : cgv (u2 (u2 G 4 0 (cb ^^^ 2 ^ i)) 8 2 x) = tog (cgv (u2 (u2 G 4 0 cb) 8 2 wv)) i x := by
  funext f j
  rw [cgv_cw]
  unfold tog
  by_cases h4 : f = 4
  · subst h4
    rw [if_pos rfl]
    show _ = u1 (cgv (u2 (u2 G 4 0 cb) 8 2 wv) 4) i (1 - cgv (u2 (u2 G 4 0 cb) 8 2 wv) 4 i) j
    unfold u1
    rw [cgv_cw, cgv_cw, if_pos rfl, if_pos rfl, Nat.testBit_xor]
    by_cases hj : j = i
    · subst hj
      rw [if_pos rfl, Nat.testBit_two_pow_self]
      cases cb.testBit j <;> rfl
    · rw [if_neg hj, Nat.testBit_two_pow_of_ne (Ne.symm hj)]
      cases cb.testBit j <;> rfl
  · rw [if_neg h4]
    unfold u2
    by_cases h8 : f = 8
    · subst h8
      rw [if_pos rfl]
      unfold u1
      by_cases hj : j = 2
      · rw [if_pos hj, if_pos ⟨rfl, hj⟩]
      · rw [if_neg hj, if_neg (fun q => hj q.2), if_neg (by decide)]
        show _ = cgv (u2 (u2 G 4 0 cb) 8 2 wv) 8 j
        rw [cgv_cw, if_neg (by decide), if_neg (fun q => hj q.2)]
    · rw [if_neg h8, if_neg h4, if_neg (fun q => h8 q.1)]
      show _ = cgv (u2 (u2 G 4 0 cb) 8 2 wv) f j
      rw [cgv_cw, if_neg h4, if_neg (fun q => h8 q.1)]
theorem drv_s {G : Nat → Nat → Nat} {cb wv k : Nat} {s : Int32} (hv : cgv (u2 (u2 G 4 0 cb) 8 2 wv) = drv (cgv G) s k) : cgv (u2 (u2 G 4 0 (cb ^^^ 2 ^ (gotS (drs s k * (1103515245 : Int32) + nI 12345) % G 8 1))) 8 2 (gotS (drs s k * (1103515245 : Int32) + nI 12345) / 16 % 21)) = drv (cgv G) s (k + 1) := by
  rw [drv_tog G cb wv, hv]; rfl
