/-! ways, and what is heard: plain facts -/
def relQ (d : Nat → Nat) (a b L : Nat) : Bool := decide (d b + L < d a ∨ d a + L < d b)
theorem rel_q0 {d : Nat → Nat} {a b L : Nat} (h : relQ d a b L = false) : rel d a b L = d := by
  have h1 := of_decide_eq_false h
  unfold rel; rw [if_neg (by omega), if_neg (by omega)]
def reachP (v : Nat → Nat → Nat) (t u : Nat) : Bool := decide (dist v t u ≠ 1000)
def wholeP (v : Nat → Nat → Nat) (t i : Nat) : Bool := decide (v 4 i = 0) && (decide (v 1 i = t) || decide (v 2 i = t))
def crossE (G : Nat → Nat → Nat) (e : Nat → Nat) (k j : Nat) : Bool := decide (G 5 k = G 5 j) && decide (e k &&& e j ≠ 0)
theorem cgv4 {G : Nat → Nat → Nat} {i : Nat} (h : (G 4 0).testBit i = false) : cgv G 4 i = 0 := by unfold cgv; rw [if_pos rfl, h]; rfl
theorem cgv4' {G : Nat → Nat → Nat} {i : Nat} (h : (G 4 0).testBit i = true) : cgv G 4 i = 1 := by unfold cgv; rw [if_pos rfl, h]; rfl
theorem relaxTo_s0 {G : Nat → Nat → Nat} {E d2 : Nat → Nat} {i : Nat} (hc : (G 4 0).testBit i = true) (hd : ∀ x, x < 6 → d2 x = relaxTo (cgv G) E i x) : ∀ x, x < 6 → d2 x = relaxTo (cgv G) E (i + 1) x := by
  intro x hx
  show d2 x = relax (cgv G) (relaxTo (cgv G) E i) i x
  unfold relax
  rw [cgv4' hc, if_neg (by decide)]
  exact hd x hx
theorem relaxTo_s1 {G : Nat → Nat → Nat} {E d2 : Nat → Nat} {i : Nat} (hc : (G 4 0).testBit i = false) (ha : G 1 i < 6) (hb : G 2 i < 6) (hd : ∀ x, x < 6 → d2 x = relaxTo (cgv G) E i x) : ∀ x, x < 6 → rel d2 (G 1 i) (G 2 i) (G 3 i) x = relaxTo (cgv G) E (i + 1) x := by
  intro x hx
  show _ = relax (cgv G) (relaxTo (cgv G) E i) i x
  unfold relax
  rw [cgv4 hc, if_pos rfl]
  exact rel_congr ha hb hd x hx
theorem rnds_bd {v : Nat → Nat → Nat} {t k i : Nat} {d2 : Nat → Nat} (hd : ∀ x, x < 6 → d2 x = relaxTo v (rnds v (dz t) k) i x) : ∀ x, x < 6 → d2 x ≤ 1000 := by
  intro x hx
  rw [hd x hx]
  exact Nat.le_trans (relaxTo_le v _ x i) (Nat.le_trans (rnds_le v _ x k) (dz_le t x))
theorem dz_fill {u : Nat → Nat} {v : Nat → Nat → Nat} {t : Nat} (h : ∀ j, j < 6 → u j = 1000) : ∀ x, x < 6 → u1 u t 0 x = rnds v (dz t) (1 - 1) x := by
  intro x hx
  show u1 u t 0 x = dz t x
  unfold u1 dz
  split
  · rfl
  · exact h x hx
theorem rnds_s {v : Nat → Nat → Nat} {d : Nat → Nat} {k : Nat} (h : 1 ≤ k) : rnds v d (k + 1 - 1) = relaxTo v (rnds v d (k - 1)) (v 8 1) := by
  obtain ⟨j, rfl⟩ : ∃ j, k = j + 1 := ⟨k - 1, by omega⟩
  rfl
theorem dist_conv {v : Nat → Nat → Nat} {t n : Nat} (hn : n ≤ 6) (hr : ∀ i, i < v 8 1 → v 1 i < n ∧ v 2 i < n ∧ 1 ≤ v 3 i) (ht : t < n) : ∀ x, x < 6 → rnds v (dz t) (n - 1) x = dist v t x := by
  sorry
theorem rnds_fix {v : Nat → Nat → Nat} {d : Nat → Nat} {k : Nat} (hr : ∀ i, i < v 8 1 → v 1 i < 6 ∧ v 2 i < 6) (h : ∀ x, x < 6 → rnds v d (k + 1) x = rnds v d k x) : ∀ j, ∀ x, x < 6 → rnds v d (k + j) x = rnds v d k x := by
  sorry
theorem GW.rt {G : Nat → Nat → Nat} (h : GW G) : ∀ i, i < cgv G 8 1 → cgv G 1 i < G 8 0 ∧ cgv G 2 i < G 8 0 ∧ 1 ≤ cgv G 3 i := fun i hi => by
  have h1 := h.2.2.2.2.2.2.1 i hi
  exact ⟨h1.1, h1.2.1, h1.2.2.2.1⟩
theorem meas_end {G : Nat → Nat → Nat} {t rd nr : Nat} {d1 : Nat → Nat} (hw : GW G) (ht : t < G 8 0) (hr1 : 1 ≤ rd) (hr2 : rd ≤ G 8 0) (hd : ∀ x, x < 6 → d1 x = rnds (cgv G) (dz t) (rd - 1) x) (hq : nr = 0 → 2 ≤ rd ∧ ∀ x, x < 6 → rnds (cgv G) (dz t) (rd - 1) x = rnds (cgv G) (dz t) (rd - 2) x) (he : rd = G 8 0 ∨ nr = 0) : ∀ j, j < 6 → nf d1 j = nf (dist (cgv G) t) j := by
  intro x hx
  have hn := hw.1
  show nI _ = nI _
  rw [hd x hx]
  rcases he with he | he
  · rw [he, dist_conv hn hw.rt ht x hx]
  · obtain ⟨h2, h3⟩ := hq he
    have hr : ∀ i, i < cgv G 8 1 → cgv G 1 i < 6 ∧ cgv G 2 i < 6 := fun i hi => by have := hw.rt i hi; omega
    have h4 := rnds_fix (v := cgv G) (d := dz t) (k := rd - 2) hr (fun x hx => by rw [show rd - 2 + 1 = rd - 1 by omega]; exact h3 x hx) (6 - (rd - 2)) x hx
    rw [show rd - 2 + (6 - (rd - 2)) = 6 by omega] at h4
    rw [h3 x hx, ← h4]; rfl
theorem cnt_f {P : Nat → Bool} {i : Nat} (h : P i = false) : cnt P (i + 1) = cnt P i := by show cnt P i + _ = _; rw [h]; rfl
theorem cnt_t {P : Nat → Bool} {i : Nat} (h : P i = true) : cnt P (i + 1) = cnt P i + 1 := by show cnt P i + _ = _; rw [h]; rfl
theorem whole_f0 {G : Nat → Nat → Nat} {t i : Nat} (h : (G 4 0).testBit i = true) : wholeP (cgv G) t i = false := by unfold wholeP; rw [cgv4' h]; rfl
theorem whole_1 {G : Nat → Nat → Nat} {t i : Nat} (h : (G 4 0).testBit i = false) (h1 : G 1 i = t) : wholeP (cgv G) t i = true := by
  unfold wholeP; rw [cgv4 h, show cgv G 1 i = t from h1]; simp
theorem whole_2 {G : Nat → Nat → Nat} {t i : Nat} (h : (G 4 0).testBit i = false) (h1 : G 2 i = t) : wholeP (cgv G) t i = true := by
  unfold wholeP; rw [cgv4 h, show cgv G 2 i = t from h1]; simp
theorem whole_f1 {G : Nat → Nat → Nat} {t i : Nat} (h1 : G 1 i ≠ t) (h2 : G 2 i ≠ t) : wholeP (cgv G) t i = false := by
  unfold wholeP; rw [decide_eq_false (show ¬ cgv G 1 i = t from h1), decide_eq_false (show ¬ cgv G 2 i = t from h2)]; simp
theorem hearS_lt (v : Nat → Nat → Nat) (t b : Nat) (hn : v 8 0 ≤ 6) : hearS v t b < 64 := bset_le _ hn
theorem heardS_lt (v : Nat → Nat → Nat) (k : Nat) (hn : v 8 0 ≤ 6) : heardS v k < 64 := hearS_lt v _ _ hn
theorem lfind_y {P : Nat → Bool} {n k : Nat} (hn : 0 < n) (h : P k = true) : lfind P n k = k := by
  obtain ⟨m, rfl⟩ : ∃ m, n = m + 1 := ⟨n - 1, by omega⟩
  show (if P k then k else _) = k
  rw [h]; rfl
theorem lfind_n {P : Nat → Bool} {n k : Nat} (h : P k = false) : lfind P (n + 1) k = lfind P n (k + 1) := by
  show (if P k then k else _) = _
  rw [h]; rfl
theorem lfind_s {P : Nat → Bool} {N k : Nat} (hk : k < N) (h : P k = false) : lfind P (N - k) k = lfind P (N - (k + 1)) (k + 1) := by
  obtain ⟨m, hm⟩ : ∃ m, N - k = m + 1 := ⟨N - k - 1, by omega⟩
  rw [hm, lfind_n h, show N - (k + 1) = m by omega]
theorem orNone_p {n : Nat} (h : 0 < n) : orNone n = nI n := if_neg (by omega)
theorem listen_s {v : Nat → Nat → Nat} {e1 : Nat → Nat} {i : Nat} (h : ∀ j, j < i → e1 j = heardS v j) : ∀ j, j < i + 1 → u1 e1 i (hearW v (dist v (v 6 i)) (v 7 i)) j = heardS v j := by
  intro j hj
  unfold u1
  split
  · subst_vars; rfl
  · exact h j (by omega)
theorem cross_f1 {G : Nat → Nat → Nat} {e : Nat → Nat} {k j : Nat} (h : G 5 k ≠ G 5 j) : crossE G e k j = false := by unfold crossE; rw [decide_eq_false h]; rfl
theorem cross_f2 {G : Nat → Nat → Nat} {e : Nat → Nat} {k j : Nat} (h : e k &&& e j = 0) : crossE G e k j = false := by unfold crossE; rw [h]; simp
theorem cross_t {G : Nat → Nat → Nat} {e : Nat → Nat} {k j : Nat} (h : G 5 k = G 5 j) (h2 : 0 < e k &&& e j) : crossE G e k j = true := by unfold crossE; rw [h, decide_eq_true (show e k &&& e j ≠ 0 by omega)]; simp
theorem cross_c {G : Nat → Nat → Nat} {e : Nat → Nat} {k j : Nat} {b : Bool} (he : ∀ j, j < G 8 3 → e j = heardS (cgv G) j) (h : crossE G e k j = b) (hk : k < G 8 3) (hj : j < G 8 3) : crossP (cgv G) k j = b := by
  rw [← h]; unfold crossP crossE; rw [← he k hk, ← he j hj]; rfl
