/-! two views that agree as far as is looked -/
def VEq (v w : Nat → Nat → Nat) : Prop := v 8 0 = w 8 0 ∧ v 8 1 = w 8 1 ∧ v 8 2 = w 8 2 ∧ v 8 3 = w 8 3 ∧ (∀ t, t < v 8 0 → v 0 t = w 0 t) ∧ (∀ i, i < v 8 1 → v 1 i = w 1 i ∧ v 2 i = w 2 i ∧ v 3 i = w 3 i ∧ v 4 i = w 4 i) ∧ (∀ k, k < v 8 3 → v 5 k = w 5 k ∧ v 6 k = w 6 k ∧ v 7 k = w 7 k)
theorem VEq.rf (v : Nat → Nat → Nat) : VEq v v := ⟨rfl, rfl, rfl, rfl, fun _ _ => rfl, fun _ _ => ⟨rfl, rfl, rfl, rfl⟩, fun _ _ => ⟨rfl, rfl, rfl⟩⟩
theorem VEq.sy {v w : Nat → Nat → Nat} (h : VEq v w) : VEq w v := by
  obtain ⟨h0, h1, h2, h3, h4, h5, h6⟩ := h
  exact ⟨h0.symm, h1.symm, h2.symm, h3.symm, fun t ht => (h4 t (h0 ▸ ht)).symm, fun i hi => by have := h5 i (h1 ▸ hi); exact ⟨this.1.symm, this.2.1.symm, this.2.2.1.symm, this.2.2.2.symm⟩, fun k hk => by have := h6 k (h3 ▸ hk); exact ⟨this.1.symm, this.2.1.symm, this.2.2.symm⟩⟩
theorem VEq.tr {u v w : Nat → Nat → Nat} (h : VEq u v) (g : VEq v w) : VEq u w := by
  obtain ⟨h0, h1, h2, h3, h4, h5, h6⟩ := h
  obtain ⟨g0, g1, g2, g3, g4, g5, g6⟩ := g
  refine ⟨h0.trans g0, h1.trans g1, h2.trans g2, h3.trans g3, fun t ht => (h4 t ht).trans (g4 t (h0 ▸ ht)), fun i hi => ?_, fun k hk => ?_⟩
  · have a := h5 i hi; have b := g5 i (h1 ▸ hi); exact ⟨a.1.trans b.1, a.2.1.trans b.2.1, a.2.2.1.trans b.2.2.1, a.2.2.2.trans b.2.2.2⟩
  · have a := h6 k hk; have b := g6 k (h3 ▸ hk); exact ⟨a.1.trans b.1, a.2.1.trans b.2.1, a.2.2.trans b.2.2⟩
theorem relaxTo_eq {v w : Nat → Nat → Nat} (h : VEq v w) (d : Nat → Nat) : ∀ i, i ≤ v 8 1 → relaxTo v d i = relaxTo w d i := by
  intro i
  induction i with
  | zero => intro _; rfl
  | succ i ih =>
    intro hi
    have h5 := h.2.2.2.2.2.1 i (by omega)
    show relax v (relaxTo v d i) i = relax w (relaxTo w d i) i
    rw [ih (by omega)]
    unfold relax
    rw [h5.1, h5.2.1, h5.2.2.1, h5.2.2.2]
theorem rnds_eq {v w : Nat → Nat → Nat} (h : VEq v w) (d : Nat → Nat) : ∀ k, rnds v d k = rnds w d k := by
  intro k
  induction k with
  | zero => rfl
  | succ k ih => show relaxTo v (rnds v d k) (v 8 1) = relaxTo w (rnds w d k) (w 8 1); rw [ih, relaxTo_eq h _ _ (Nat.le_refl _), h.2.1]
theorem dist_eq {v w : Nat → Nat → Nat} (h : VEq v w) (t : Nat) : dist v t = dist w t := rnds_eq h _ 6
theorem hearW_eq {v w : Nat → Nat → Nat} (h : VEq v w) (d : Nat → Nat) (b : Nat) : hearW v d b = hearW w d b := by
  unfold hearW
  rw [← h.1]
  refine bset_congr fun i hi => ?_
  unfold hearP
  rw [h.2.2.1, h.2.2.2.2.1 i hi]
theorem hearS_eq {v w : Nat → Nat → Nat} (h : VEq v w) (t b : Nat) : hearS v t b = hearS w t b := by
  unfold hearS
  rw [dist_eq h, hearW_eq h]
theorem heardS_eq {v w : Nat → Nat → Nat} (h : VEq v w) {k : Nat} (hk : k < v 8 3) : heardS v k = heardS w k := by
  unfold heardS
  have h6 := h.2.2.2.2.2.2 k hk
  rw [h6.2.1, h6.2.2, hearS_eq h]
theorem hearersS_eq {v w : Nat → Nat → Nat} (h : VEq v w) : hearersS v = hearersS w := by
  unfold hearersS
  rw [← h.2.2.2.1]
  exact nsum_congr fun k hk => by rw [heardS_eq h hk]
theorem crossP_eq {v w : Nat → Nat → Nat} (h : VEq v w) {k j : Nat} (hk : k < v 8 3) (hj : j < v 8 3) : crossP v k j = crossP w k j := by
  unfold crossP
  have a := h.2.2.2.2.2.2 k hk
  have b := h.2.2.2.2.2.2 j hj
  rw [a.1, b.1, heardS_eq h hk, heardS_eq h hj]
theorem crossS_eq {v w : Nat → Nat → Nat} (h : VEq v w) : crossS v = crossS w := by
  unfold crossS
  rw [← h.2.2.2.1]
  exact nsum_congr fun k hk => cnt_congr fun j hj => crossP_eq h hk (by omega)
theorem leastS_eq {v w : Nat → Nat → Nat} (h : VEq v w) (t a b : Nat) : leastS v t a b = leastS w t a b := by
  unfold leastS
  congr 1
  funext x
  rw [hearS_eq h]
theorem reachP_eq {v w : Nat → Nat → Nat} (h : VEq v w) (t u : Nat) : reachP v t u = reachP w t u := by unfold reachP; rw [dist_eq h]
theorem wholeP_eq {v w : Nat → Nat → Nat} (h : VEq v w) (t : Nat) {i : Nat} (hi : i < v 8 1) : wholeP v t i = wholeP w t i := by
  have a := h.2.2.2.2.2.1 i hi
  unfold wholeP
  rw [a.1, a.2.1, a.2.2.2]
theorem fitS_eq {v w : Nat → Nat → Nat} (h : VEq v w) {pl lo pl' lo' : Nat → Nat} {n : Nat} (hp : ∀ j, j < n → pl j < v 8 0) (hpl : ∀ j, j < n → pl j = pl' j ∧ lo j = lo' j) (t b : Nat) : fitS v t b n pl lo = fitS w t b n pl' lo' := by
  unfold fitS fitW
  rw [dist_eq h]
  refine ball_congr fun i hi => ?_
  unfold fitP
  rw [h.2.2.2.2.1 _ (hp i hi), (hpl i hi).1, (hpl i hi).2]
theorem manyS_eq {v w : Nat → Nat → Nat} (h : VEq v w) {pl lo pl' lo' : Nat → Nat} {n : Nat} (hp : ∀ j, j < n → pl j < v 8 0) (hpl : ∀ j, j < n → pl j = pl' j ∧ lo j = lo' j) (t : Nat) : manyS v t n pl lo = manyS w t n pl' lo' := by
  unfold manyS
  exact cnt_congr fun j _ => fitS_eq h hp hpl t _
theorem lfind_congr {P Q : Nat → Bool} (h : ∀ k, P k = Q k) (n k : Nat) : lfind P n k = lfind Q n k := by rw [show P = Q from funext h]
theorem sayS_eq {v w : Nat → Nat → Nat} (h : VEq v w) {pl lo pl' lo' : Nat → Nat} {n : Nat} (hp : ∀ j, j < n → pl j < v 8 0) (hpl : ∀ j, j < n → pl j = pl' j ∧ lo j = lo' j) : sayS v n pl lo = sayS w n pl' lo' := by
  unfold sayS
  rw [← h.1]
  refine bset_congr fun t _ => ?_
  unfold sayP
  rw [lfind_congr (fun k => fitS_eq h hp hpl t k)]
theorem lwB_eq {v w : Nat → Nat → Nat} (h : VEq v w) {pl lo pl' lo' : Nat → Nat} {n x : Nat} (hx : x < v 8 0) (hp : ∀ j, j < n → pl j < v 8 0) (hpl : ∀ j, j < n → pl j = pl' j ∧ lo j = lo' j) (t : Nat) (s : (Nat → Nat) × Nat) : ∀ b, lwB v x n pl lo t b s = lwB w x n pl' lo' t b s := by
  intro b
  induction b with
  | zero => rfl
  | succ b ih =>
    unfold lwB
    rw [ih, fitS_eq h hp hpl, h.2.2.2.2.1 x hx, dist_eq h]
theorem lwT_eq {v w : Nat → Nat → Nat} (h : VEq v w) {pl lo pl' lo' : Nat → Nat} {n x : Nat} (hx : x < v 8 0) (hp : ∀ j, j < n → pl j < v 8 0) (hpl : ∀ j, j < n → pl j = pl' j ∧ lo j = lo' j) : ∀ t, lwT v x n pl lo t = lwT w x n pl' lo' t := by
  intro t
  induction t with
  | zero => rfl
  | succ t ih => show lwB v x n pl lo t 60 (lwT v x n pl lo t) = lwB w x n pl' lo' t 60 (lwT w x n pl' lo' t); rw [ih, lwB_eq h hx hp hpl]
theorem VW.eq {v w : Nat → Nat → Nat} (h : VEq v w) (hv : VW v) : VW w := by
  obtain ⟨h0, h1, h2, h3, h4, h5, h6⟩ := h
  obtain ⟨v0, v1, v2, v3, v4, v5, v6⟩ := hv
  refine ⟨h0 ▸ v0, h1 ▸ v1, h2 ▸ v2, h3 ▸ v3, fun t ht => ?_, fun i hi => ?_, fun k hk => ?_⟩
  · rw [← h0] at ht; rw [← h4 t ht]; exact v4 t ht
  · rw [← h1] at hi
    have a := h5 i hi
    rw [← a.1, ← a.2.1, ← a.2.2.1, ← a.2.2.2, ← h0]; exact v5 i hi
  · rw [← h3] at hk
    have a := h6 k hk
    rw [← a.1, ← a.2.1, ← a.2.2, ← h0]; exact v6 k hk
/-- some roots more are cut -/
def cutv (v : Nat → Nat → Nat) (sm : Nat) : Nat → Nat → Nat := fun f j => if f = 4 then (if sm.testBit j then 1 else v 4 j) else v f j
def cutsB (v : Nat → Nat → Nat) (sm : Nat) : Bool := ball (fun i => !(sm.testBit i) || decide (v 4 i = 0)) (v 8 1)
def cutP (r : Nat → Nat) (sm i : Nat) : Nat → Nat := fun j => if 285 ≤ j ∧ j < 285 + i ∧ sm.testBit (j - 285) = true then 1 else pcopy r 0 252 63 j
def cutRow (r : Nat → Nat) (sm : Nat) : Nat → Nat := cutP r sm (r 42)
theorem cutP_0 (r : Nat → Nat) (sm : Nat) : cutP r sm 0 = pcopy r 0 252 63 := by
  funext j; exact if_neg (by omega)
theorem cutP_lo {r : Nat → Nat} {sm i j : Nat} (h : j < 252) : cutP r sm i j = r j := by
  unfold cutP; rw [if_neg (by omega), pcopy_out (by omega)]
theorem cutP_f {r : Nat → Nat} {sm i : Nat} (h : sm.testBit i = false) : cutP r sm (i + 1) = cutP r sm i := by
  funext j
  unfold cutP
  by_cases h1 : j = 285 + i
  · subst h1
    rw [if_neg (by rw [Nat.add_sub_cancel_left, h]; simp), if_neg (by omega)]
  · by_cases h2 : 285 ≤ j ∧ j < 285 + i ∧ sm.testBit (j - 285) = true
    · rw [if_pos h2, if_pos ⟨h2.1, by omega, h2.2.2⟩]
    · rw [if_neg h2, if_neg (fun q => h2 ⟨q.1, by omega, q.2.2⟩)]
theorem cutP_t {r : Nat → Nat} {sm i : Nat} (h : sm.testBit i = true) : u1 (cutP r sm i) (285 + i) 1 = cutP r sm (i + 1) := by
  funext j
  unfold u1 cutP
  by_cases h1 : j = 285 + i
  · subst h1
    rw [if_pos rfl, if_pos ⟨by omega, by omega, by rw [Nat.add_sub_cancel_left]; exact h⟩]
  · rw [if_neg h1]
    by_cases h2 : 285 ≤ j ∧ j < 285 + i ∧ sm.testBit (j - 285) = true
    · rw [if_pos h2, if_pos ⟨h2.1, by omega, h2.2.2⟩]
    · rw [if_neg h2, if_neg (fun q => h2 ⟨q.1, by omega, q.2.2⟩)]
theorem tbt {x i : Nat} (h : x / 2 ^ i &&& 1 = 1) : x.testBit i = true := by
  rw [Nat.and_one_is_mod] at h
  rw [Nat.testBit_eq_decide_div_mod_eq]; simp [h]
theorem tbf {x i : Nat} (h : x / 2 ^ i &&& 1 ≠ 1) : x.testBit i = false := by
  rw [Nat.and_one_is_mod] at h
  rw [Nat.testBit_eq_decide_div_mod_eq]; simp; omega
theorem tbv (x i : Nat) : x / 2 ^ i &&& 1 = rb (x.testBit i) := by
  rw [Nat.and_one_is_mod, Nat.testBit_eq_decide_div_mod_eq]
  by_cases h : x / 2 ^ i % 2 = 1
  · simp [h, rb]
  · simp [h, rb]; omega
