/-! the answers are functions of what is looked at -/
theorem ix_tn {x : Int32} {n : Nat} (h : ix x n = true) : tn x < n := by
  unfold ix at h
  simp only [Bool.and_eq_true, decide_eq_true_eq] at h
  show x.toInt.toNat < n
  omega
theorem rg_tn {x : Int32} {a b : Nat} (h : rg x a b = true) : a ≤ tn x ∧ tn x ≤ b := by
  unfold rg at h
  simp only [Bool.and_eq_true, decide_eq_true_eq] at h
  show a ≤ x.toInt.toNat ∧ x.toInt.toNat ≤ b
  omega
theorem bfold_congr {P Q : Nat → Bool} {x y : Nat → Nat} {L : Nat} : ∀ {n : Nat}, (∀ i, i < n → P i = Q i) → (∀ i, i < n → P i = true → x i = y i) → bfold P x L n = bfold Q y L n := by
  intro n
  induction n with
  | zero => intro _ _; rfl
  | succ n ih =>
    intro h1 h2
    show (if P n = true then bst (bfold P x L n) n (x n) else bfold P x L n) = (if Q n = true then bst (bfold Q y L n) n (y n) else bfold Q y L n)
    rw [ih (fun i hi => h1 i (by omega)) (fun i hi => h2 i (by omega)), ← h1 n (by omega)]
    by_cases c : P n = true
    · rw [if_pos c, if_pos c, h2 n (by omega) c]
    · rw [if_neg c, if_neg c]
/-- the limit is not looked at where all are less -/
theorem bfold_lim {P : Nat → Bool} {x : Nat → Nat} {L M : Nat} : ∀ {n : Nat}, (∀ i, i < n → x i < L ∧ x i < M) → (bfold P x L n = (-4, L) ∧ bfold P x M n = (-4, M)) ∨ (bfold P x L n = bfold P x M n) := by
  intro n
  induction n with
  | zero => intro _; exact Or.inl ⟨rfl, rfl⟩
  | succ n ih =>
    intro h
    have h9 := h n (by omega)
    show ((if P n = true then bst (bfold P x L n) n (x n) else bfold P x L n) = _ ∧ (if P n = true then bst (bfold P x M n) n (x n) else bfold P x M n) = _) ∨ ((if P n = true then bst (bfold P x L n) n (x n) else bfold P x L n) = (if P n = true then bst (bfold P x M n) n (x n) else bfold P x M n))
    rcases ih (fun i hi => h i (by omega)) with ⟨e1, e2⟩ | e
    · by_cases c : P n = true
      · refine Or.inr ?_
        rw [if_pos c, if_pos c, e1, e2]
        unfold bst
        rw [if_pos h9.1, if_pos h9.2]
      · rw [if_neg c, if_neg c]; exact Or.inl ⟨e1, e2⟩
    · rw [e]; exact Or.inr rfl
theorem told_lim {P : Nat → Bool} {x : Nat → Nat} {L M n : Nat} (h : ∀ i, i < n → x i < L ∧ x i < M) (w : Nat) : a_told (bfold P x L n) w = a_told (bfold P x M n) w := by
  rcases bfold_lim h with ⟨e1, e2⟩ | e
  · rw [e1, e2]; unfold a_told; rw [if_pos (Or.inr rfl), if_pos (Or.inr rfl)]
  · rw [e]
section QEQ
variable {v w : Nat → Nat → Nat}
theorem a_far_eq (h : VEq v w) (x y : Int32) : a_far v x y = a_far w x y := by unfold a_far; rw [dist_eq h, h.1]
theorem a_loud_eq (h : VEq v w) (x y z : Int32) : a_loud v x y z = a_loud w x y z := by
  unfold a_loud; rw [dist_eq h, ← h.1]
  split
  · next c => simp only [Bool.and_eq_true] at c; rw [h.2.2.2.2.1 _ (ix_tn c.1.2)]
  · rfl
theorem a_hears_eq (h : VEq v w) (x y : Int32) : a_hears v x y = a_hears w x y := by unfold a_hears; rw [hearS_eq h, h.1]
theorem a_graft_eq (h : VEq v w) (x y : Int32) : a_graft v x y = a_graft w x y := by
  unfold a_graft; rw [← h.1]
  split
  · next c => simp only [Bool.and_eq_true] at c; rw [h.2.2.2.2.1 _ (ix_tn c.1)]
  · rfl
theorem a_stretch_eq (h : VEq v w) (x y : Int32) : a_stretch v x y = a_stretch w x y := by
  unfold a_stretch; rw [← h.2.1]
  split
  · next c => simp only [Bool.and_eq_true] at c; rw [(h.2.2.2.2.2.1 _ (ix_tn c.1)).2.2.1]
  · rfl
theorem a_cut_eq (h : VEq v w) (x : Int32) : a_cut v x = a_cut w x := by
  unfold a_cut; rw [← h.2.1]
  split
  · next c => rw [(h.2.2.2.2.2.1 _ (ix_tn c)).2.2.2]
  · rfl
theorem a_drop_eq (h : VEq v w) (x : Int32) : a_drop v x = a_drop w x := by unfold a_drop; rw [h.2.2.2.1]
theorem a_wind_eq (h : VEq v w) (x : Int32) : a_wind v x = a_wind w x := by unfold a_wind; rw [h.2.2.1]
theorem a_grow_eq (h : VEq v w) (x y z : Int32) : a_grow v x y z = a_grow w x y z := by unfold a_grow; rw [h.1, h.2.1]
theorem cutBits_eq (h : VEq v w) : cutBitsS v = cutBitsS w := by
  unfold cutBitsS; rw [← h.2.1]
  exact bset_congr fun i hi => by rw [(h.2.2.2.2.2.1 i hi).2.2.2]
theorem a_rule_eq (h : VEq v w) (x : Int32) : a_rule v x = a_rule w x := by unfold a_rule; rw [h.1, h.2.1, h.2.2.1, h.2.2.2.1, cutBits_eq h, crossS_eq h]
theorem a_tree_eq (h : VEq v w) (x y : Int32) : a_tree v x y = a_tree w x y := by
  have e1 : cnt (wholeP v (tn x)) (v 8 1) = cnt (wholeP w (tn x)) (v 8 1) := cnt_congr fun i hi => wholeP_eq h _ hi
  have e2 : bset (reachP v (tn x)) (v 8 0) = bset (reachP w (tn x)) (v 8 0) := bset_congr fun i _ => reachP_eq h _ i
  have e3 : bset (fun k => (heardS v k).testBit (tn x)) (v 8 3) = bset (fun k => (heardS w k).testBit (tn x)) (v 8 3) := bset_congr fun k hk => by rw [heardS_eq h hk]
  unfold a_tree
  rw [e1, e2, e3, ← h.2.1, ← h.2.2.2.1, ← h.1]
  split
  · next c => rw [h.2.2.2.2.1 _ (ix_tn c)]
  · rfl
theorem a_root_eq (h : VEq v w) (x y : Int32) : a_root v x y = a_root w x y := by
  unfold a_root; rw [← h.2.1]
  split
  · next c =>
    have h5 := h.2.2.2.2.2.1 _ (ix_tn c)
    rw [h5.1, h5.2.1, h5.2.2.1, h5.2.2.2]
  · rfl
theorem a_talk_eq (h : VEq v w) (x y : Int32) : a_talk v x y = a_talk w x y := by
  unfold a_talk; rw [← h.2.2.2.1]
  split
  · next c =>
    have h5 := h.2.2.2.2.2.2 _ (ix_tn c)
    rw [h5.1, h5.2.1, h5.2.2, hearS_eq h]
  · rfl
theorem a_shift_eq (h : VEq v w) (x y z : Int32) : a_shift v x y z = a_shift w x y z := by
  unfold a_shift; rw [← h.2.2.2.1, ← h.1]
  split
  · next c =>
    have h5 := h.2.2.2.2.2.2 _ (ix_tn c)
    rw [h5.1, h5.2.1, h5.2.2]
  · rfl
theorem a_crossed_eq (h : VEq v w) (x y : Int32) : a_crossed v x y = a_crossed w x y := by
  unfold a_crossed; rw [← h.2.2.2.1]
  split
  · next c => simp only [Bool.and_eq_true] at c; rw [crossP_eq h (ix_tn c.1.1) (ix_tn c.1.2)]
  · rfl
theorem a_least_eq (h : VEq v w) (x y : Int32) : a_least v x y = a_least w x y := by unfold a_least; rw [leastS_eq h, h.1]
theorem a_just_eq (h : VEq v w) (x y : Int32) : a_just v x y = a_just w x y := by unfold a_just; rw [leastS_eq h, h.1]
theorem least60 (v : Nat → Nat → Nat) (t a b : Nat) : leastS v t a b ≤ 60 := by
  unfold leastS
  rcases lfind_le (fun c => decide (hearS v t c &&& b = a)) 60 1 with q | q <;> omega
theorem a_from_eq (h : VEq v w) (x y : Int32) : a_from 1000 v x y = a_from 1000 w x y := by
  unfold a_from; rw [← h.1]
  split
  · rw [bfold_congr (fun i _ => by rw [leastS_eq h]) (fun i _ _ => leastS_eq h _ _ _)]
  · rfl
theorem hushP_eq (h : VEq v w) (t u b sm : Nat) : hushP v t u b sm = hushP w t u b sm := by unfold hushP; rw [cutsB_eq h, hearS_eq (cutv_eq h sm)]
theorem a_hush_eq (h : VEq v w) (x y z q : Int32) : a_hush 1000 v x y z q = a_hush 1000 w x y z q := by
  unfold a_hush; rw [← h.1, ← h.2.1]
  split
  · rw [bfold_congr (fun i _ => hushP_eq h _ _ _ i) (fun i _ _ => rfl)]
  · rfl
theorem a_dear_eq (h : VEq v w) (x : Int32) : a_dear v x = a_dear w x := by
  unfold a_dear; rw [← h.2.1, hearersS_eq h]
  rw [bfold_congr (fun i hi => by rw [(h.2.2.2.2.2.1 i hi).2.2.2]) (fun i _ _ => hearersS_eq (cutv_eq h _))]
theorem a_hour_eq (h : VEq v w) (x y : Int32) : a_hour 1000 v x y = a_hour 1000 w x y := by
  unfold a_hour; rw [← h.2.2.2.1]
  split
  · rw [bfold_congr (fun i _ => rfl) (fun i _ _ => crossS_eq (vu2_eq h (Or.inl (by decide))))]
  · rfl
theorem a_kind_eq (h : VEq v w) (x y : Int32) : a_kind 1000 v x y = a_kind 1000 w x y := by
  unfold a_kind; rw [← h.1]
  split
  · rw [bfold_congr (fun i _ => rfl) (fun i _ _ => crossS_eq (vu2_eq h (Or.inl (by decide))))]
  · rfl
theorem a_calm_eq (h : VEq v w) : a_calm v = a_calm w := by
  unfold a_calm
  rw [lfind_congr (P := calmP v) (Q := calmP w) (fun k => by unfold calmP; rw [crossS_eq (vu2_eq h (Or.inr rfl))])]
theorem growv_eq (h : VEq v w) (a b L : Nat) : VEq (growv v a b L) (growv w a b L) := by
  obtain ⟨h0, h1, h2, h3, h4, h5, h6⟩ := h
  unfold growv
  rw [← h1]
  refine ⟨h0, rfl, h2, h3, h4, fun i hi => ?_, h6⟩
  have hi : i < v 8 1 + 1 := hi
  show u1 (v 1) (v 8 1) a i = u1 (w 1) (v 8 1) a i ∧ u1 (v 2) (v 8 1) b i = u1 (w 2) (v 8 1) b i ∧ u1 (v 3) (v 8 1) L i = u1 (w 3) (v 8 1) L i ∧ u1 (v 4) (v 8 1) 0 i = u1 (w 4) (v 8 1) 0 i
  by_cases e : i = v 8 1
  · subst e; rw [u1_s, u1_s, u1_s, u1_s, u1_s, u1_s, u1_s, u1_s]; exact ⟨rfl, rfl, rfl, rfl⟩
  · rw [u1_n _ _ e, u1_n _ _ e, u1_n _ _ e, u1_n _ _ e, u1_n _ _ e, u1_n _ _ e, u1_n _ _ e, u1_n _ _ e]; exact h5 i (by omega)
theorem jout_eq (h : VEq v w) (t b L : Nat) : ∀ a, jout v t b L a = jout w t b L a := by
  intro a
  induction a with
  | zero => show ((-4 : Int32), v 8 0 - pc (hearS v t b)) = ((-4 : Int32), w 8 0 - pc (hearS w t b)); rw [hearS_eq h, h.1]
  | succ a ih =>
    show jin (jx v t b L a) a (jout v t b L a) (v 8 0) = jin (jx w t b L a) a (jout w t b L a) (w 8 0)
    rw [ih, ← h.1, show jx v t b L a = jx w t b L a from funext fun c => by unfold jx; rw [h.1, hearS_eq (growv_eq h a c L)]]
theorem a_join_eq (h : VEq v w) (x y z q : Int32) : a_join v x y z q = a_join w x y z q := by
  unfold a_join a_joinT; rw [jout_eq h, h.1, h.2.1]
theorem meanS_eq (h : VEq v w) (q t b am k : Nat) : meanS v q t b am k = meanS w q t b am k := by
  have e1 : downS v = downS w := by
    unfold downS; rw [← h.2.1]
    exact nprod_congr fun i hi => by unfold wd; rw [(h.2.2.2.2.2.1 i hi).2.2.2]
  have e2 : upS v q t b am = upS w q t b am := by
    unfold upS; rw [← h.2.1]
    refine nsum_congr fun sm _ => ?_
    unfold luckF
    rw [cutsB_eq h, ← h.2.1, hearS_eq (cutv_eq h sm), nprod_congr (f := wq v q sm) (g := wq w q sm) (fun i hi => by unfold wq; rw [(h.2.2.2.2.2.1 i hi).2.2.2])]
  unfold meanS; rw [e1, e2]
theorem a_luck_eq (h : VEq v w) (x y z q p : Int32) : a_luck v x y z q p = a_luck w x y z q p := by unfold a_luck; rw [meanS_eq h, h.1]
theorem a_mean_eq (h : VEq v w) (x y z q : Int32) : a_mean v x y z q = a_mean w x y z q := by unfold a_mean; rw [meanS_eq h, h.1]
theorem drv_eq (h : VEq v w) (h0 : v 8 1 ≠ 0) (s : Int32) : ∀ k, VEq (drv v s k) (drv w s k) := by
  intro k
  induction k with
  | zero => exact h
  | succ k ih =>
    rw [drv_n, drv_n, ← h.2.1]
    exact tog_eq ih (by rw [(drv_80 v s k).2.1]; exact Nat.mod_lt _ (by omega))
theorem a_drift_eq (h : VEq v w) (x y z : Int32) : a_drift v x y z = a_drift w x y z := by
  unfold a_drift; rw [← h.2.1]
  by_cases h0 : v 8 1 = 0
  · rw [if_pos h0, if_pos h0]
  · rw [if_neg h0, if_neg h0, hearersS_eq (drv_eq h h0 _ _), nsum_congr (fun k _ => hearersS_eq (drv_eq h h0 x (k + 1)))]
theorem a_see_eq (h : VEq v w) (n : Nat) (x y : Int32) : a_see v n x y = a_see w n x y := by unfold a_see; rw [h.1]
variable {pl lo pl' lo' : Nat → Nat} {n : Nat}
theorem a_breaths_eq (h : VEq v w) (hp : ∀ j, j < n → pl j < v 8 0) (hpl : ∀ j, j < n → pl j = pl' j ∧ lo j = lo' j) (x y : Int32) : a_breaths v n pl lo x y = a_breaths w n pl' lo' x y := by
  unfold a_breaths
  rw [manyS_eq h hp hpl, h.1, lfind_congr (fun b => fitS_eq h hp hpl (tn x) b)]
theorem a_kinds_eq (h : VEq v w) (hp : ∀ j, j < n → pl j < v 8 0) (hpl : ∀ j, j < n → pl j = pl' j ∧ lo j = lo' j) (x : Int32) : a_kinds v n pl lo x = a_kinds w n pl' lo' x := by
  unfold a_kinds
  rw [h.1, bset_congr (P := kindsP v n pl lo (tn x)) (Q := kindsP w n pl' lo' (tn x)) (fun k _ => by unfold kindsP; rw [sayS_eq (vu2_eq h (f := 0) (Or.inl (by decide))) hp hpl])]
theorem a_ask_eq (h : VEq v w) (hp : ∀ j, j < n → pl j < v 8 0) (hpl : ∀ j, j < n → pl j = pl' j ∧ lo j = lo' j) (x : Int32) : a_ask v n pl lo x = a_ask w n pl' lo' x := by
  unfold a_ask
  rw [← h.1, nsum_congr (fun t _ => manyS_eq h hp hpl t), bfold_congr (Q := fun _ => true) (y := fun u => (lwT w u n pl' lo' (v 8 0)).2) (fun i _ => rfl) (fun i hi _ => by rw [lwT_eq h hi hp hpl])]
end QEQ
/-! a sheet's cells that agree as far as is looked -/
theorem rdStop_eq {nT T0 n : Nat} {l lane f : Int32} {ce cf : Nat → Int32} (hn : n ≤ 40) (hc : ∀ j, j < 40 → ce j = cf j) (i : Nat) : rdStop nT T0 l n ce lane f i = rdStop nT T0 l n cf lane f i := by
  unfold rdStop
  by_cases h : rdF l n lane (rdAt f i) = 0
  · obtain ⟨k, hk, e⟩ := rdF_0 (by omega) h
    unfold rdOk
    rw [e, tn_nI (by omega), hc k (by omega), hc (k + 1) (by omega), hc (k + 2) (by omega)]
  · rw [decide_eq_true h, Bool.true_or, Bool.true_or]
theorem rfs_congr {P Q : Nat → Bool} (h : ∀ i, P i = Q i) (m k : Nat) : rfs P m k = rfs Q m k := by rw [show P = Q from funext h]
theorem rdC_eq {v w : Nat → Nat → Nat} (h : VEq v w) {n : Nat} {l lane f : Int32} {ce cf : Nat → Int32} (hn : n ≤ 40) (hc : ∀ j, j < 40 → ce j = cf j) (m : Nat) : rdC v l n ce lane f m = rdC w l n cf lane f m := by
  unfold rdC; rw [← h.1, ← h.2.2.2.1]
  exact rfs_congr (rdStop_eq hn hc) m 0
theorem rdB_eq {v w : Nat → Nat → Nat} (h : VEq v w) {n : Nat} {l lane f : Int32} {ce cf : Nat → Int32} (hn : n ≤ 40) (hc : ∀ j, j < 40 → ce j = cf j) (m : Nat) : rdB v l n ce lane f m = rdB w l n cf lane f m := by
  unfold rdB; rw [rdC_eq h hn hc]
theorem a_read_eq {v w : Nat → Nat → Nat} (h : VEq v w) {n : Nat} {l : Int32} {ce cf : Nat → Int32} (hn : n ≤ 40) (hc : ∀ j, j < 40 → ce j = cf j) (x lane f q : Int32) : a_read v l n ce x lane f q = a_read w l n cf x lane f q := by
  unfold a_read; rw [rdC_eq h hn hc, rdB_eq h hn hc]
theorem readF_eq {v w : Nat → Nat → Nat} (h : VEq v w) {n : Nat} {l : Int32} {ce cf : Nat → Int32} (hn : n ≤ 40) (hc : ∀ j, j < 40 → ce j = cf j) (o : Nat) (x lane f q : Int32) : readF v o l n ce x lane f q = readF w o l n cf x lane f q := by
  unfold readF; rw [rdC_eq h hn hc, rdB_eq h hn hc]
