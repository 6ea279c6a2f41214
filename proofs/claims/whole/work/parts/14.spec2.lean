/-! ways, and what is heard: plain facts -/
def relQ (d : Nat → Nat) (a b L : Nat) : Bool := decide (d b + L < d a ∨ d a + L < d b)
theorem rel_q0 {d : Nat → Nat} {a b L : Nat} (h : relQ d a b L = false) : rel d a b L = d := by
  have h1 := of_decide_eq_false h
  unfold rel; rw [if_neg (by omega), if_neg (by omega)]
def reachP (v : Nat → Nat → Nat) (t u : Nat) : Bool := decide (dist v t u ≠ 1000)
def wholeP (v : Nat → Nat → Nat) (t i : Nat) : Bool := decide (v 4 i = 0) && (decide (v 1 i = t) || decide (v 2 i = t))
def crossE (G : Nat → Nat → Nat) (e : Nat → Nat) (k j : Nat) : Bool := decide (G 5 k = G 5 j) && decide (e k &&& e j ≠ 0)
theorem cgv4 {G : Nat → Nat → Nat} {i : Nat} (h : (G 4 0).testBit i = false) : cgv G 4 i = 0 := by unfold cgv; rw [if_pos rfl, h]; rfl
theorem cgv4' {G : Nat → Nat → Nat} {i : Nat} (h : (G 4 0).testBit i = true) : cgv G 4 i = 1 := by unfold cgv; rw [if_pos rfl, h]; rfl
theorem relaxTo_s0 {G : Nat → Nat → Nat} {E d2 : Nat → Nat} {i : Nat} (hc : (G 4 0).testBit i = true) (hd : ∀ x, x < 6 → d2 x = relaxTo (cgv G) E i x) : ∀ x, x < 6 → d2 x = relaxTo (cgv G) E (i + 1) x := by
  intro x hx
  show d2 x = relax (cgv G) (relaxTo (cgv G) E i) i x
  unfold relax
  rw [cgv4' hc, if_neg (by decide)]
  exact hd x hx
theorem relaxTo_s1 {G : Nat → Nat → Nat} {E d2 : Nat → Nat} {i : Nat} (hc : (G 4 0).testBit i = false) (ha : G 1 i < 6) (hb : G 2 i < 6) (hd : ∀ x, x < 6 → d2 x = relaxTo (cgv G) E i x) : ∀ x, x < 6 → rel d2 (G 1 i) (G 2 i) (G 3 i) x = relaxTo (cgv G) E (i + 1) x := by
  intro x hx
  show _ = relax (cgv G) (relaxTo (cgv G) E i) i x
  unfold relax
  rw [cgv4 hc, if_pos rfl]
  exact rel_congr ha hb hd x hx
theorem rnds_bd {v : Nat → Nat → Nat} {t k i : Nat} {d2 : Nat → Nat} (hd : ∀ x, x < 6 → d2 x = relaxTo v (rnds v (dz t) k) i x) : ∀ x, x < 6 → d2 x ≤ 1000 := by
  intro x hx
  rw [hd x hx]
  exact Nat.le_trans (relaxTo_le v _ x i) (Nat.le_trans (rnds_le v _ x k) (dz_le t x))
theorem dz_fill {u : Nat → Nat} {v : Nat → Nat → Nat} {t : Nat} (h : ∀ j, j < 6 → u j = 1000) : ∀ x, x < 6 → u1 u t 0 x = rnds v (dz t) (1 - 1) x := by
  intro x hx
  show u1 u t 0 x = dz t x
  unfold u1 dz
  split
  · rfl
  · exact h x hx
theorem rnds_s {v : Nat → Nat → Nat} {d : Nat → Nat} {k : Nat} (h : 1 ≤ k) : rnds v d (k + 1 - 1) = relaxTo v (rnds v d (k - 1)) (v 8 1) := by
  obtain ⟨j, rfl⟩ : ∃ j, k = j + 1 := ⟨k - 1, by omega⟩
  rfl
theorem relaxTo_mono (v : Nat → Nat → Nat) (d : Nat → Nat) (x : Nat) {i : Nat} : ∀ j, relaxTo v d (i + j) x ≤ relaxTo v d i x := by
  intro j
  induction j with
  | zero => exact Nat.le_refl _
  | succ j ih => exact Nat.le_trans (relax_le v _ (i + j) x) ih
theorem rnds_mono (v : Nat → Nat → Nat) (d : Nat → Nat) (x : Nat) {k : Nat} : ∀ j, rnds v d (k + j) x ≤ rnds v d k x := by
  intro j
  induction j with
  | zero => exact Nat.le_refl _
  | succ j ih => exact Nat.le_trans (relaxTo_le v _ x _) ih
theorem relaxTo_congr {v : Nat → Nat → Nat} {d e : Nat → Nat} (hr : ∀ i, i < v 8 1 → v 1 i < 6 ∧ v 2 i < 6) (h : ∀ x, x < 6 → d x = e x) : ∀ i, i ≤ v 8 1 → ∀ x, x < 6 → relaxTo v d i x = relaxTo v e i x := by
  intro i
  induction i with
  | zero => intro _; exact h
  | succ i ih =>
    intro hi
    have := hr i (by omega)
    exact relax_congr this.1 this.2 (ih (by omega))
theorem rnds_fix {v : Nat → Nat → Nat} {d : Nat → Nat} {k : Nat} (hr : ∀ i, i < v 8 1 → v 1 i < 6 ∧ v 2 i < 6) (h : ∀ x, x < 6 → rnds v d (k + 1) x = rnds v d k x) : ∀ j, ∀ x, x < 6 → rnds v d (k + j) x = rnds v d k x := by
  intro j
  induction j with
  | zero => intro x _; rfl
  | succ j ih =>
    intro x hx
    rw [← h x hx]
    exact relaxTo_congr hr ih _ (Nat.le_refl _) x hx
/-- a tree's way is the nothing that it began with, or it goes on from a nearer one's -/
def wayI (v : Nat → Nat → Nat) (t : Nat) (d : Nat → Nat) : Prop := ∀ x, d x = dz t x ∨ ∃ i y, i < v 8 1 ∧ v 4 i = 0 ∧ (v 1 i = x ∧ v 2 i = y ∨ v 2 i = x ∧ v 1 i = y) ∧ d y + v 3 i ≤ d x
theorem wayI_relax {v : Nat → Nat → Nat} {t : Nat} {d : Nat → Nat} {i : Nat} (hi : i < v 8 1) (h : wayI v t d) : wayI v t (relax v d i) := by
  intro x
  have hle := relax_le v d i
  by_cases e : relax v d i x = d x
  · rw [e]
    rcases h x with q | ⟨j, y, h1, h2, h3, h4⟩
    · exact Or.inl q
    · exact Or.inr ⟨j, y, h1, h2, h3, Nat.le_trans (Nat.add_le_add_right (hle y) _) h4⟩
  · refine Or.inr ?_
    unfold relax at e hle ⊢
    by_cases hc : v 4 i = 0
    · rw [if_pos hc] at e ⊢
      simp only [if_pos hc] at hle
      unfold rel at e hle ⊢
      by_cases h1 : d (v 2 i) + v 3 i < d (v 1 i)
      · rw [if_pos h1] at e ⊢
        simp only [if_pos h1] at hle
        have ex : x = v 1 i := by
          by_cases q : x = v 1 i
          · exact q
          · exact absurd (u1_n _ _ q) e
        refine ⟨i, v 2 i, hi, hc, Or.inl ⟨ex.symm, rfl⟩, ?_⟩
        rw [ex, u1_s]
        have := hle (v 2 i)
        omega
      · rw [if_neg h1] at e ⊢
        simp only [if_neg h1] at hle
        by_cases h2 : d (v 1 i) + v 3 i < d (v 2 i)
        · rw [if_pos h2] at e ⊢
          simp only [if_pos h2] at hle
          have ex : x = v 2 i := by
            by_cases q : x = v 2 i
            · exact q
            · exact absurd (u1_n _ _ q) e
          refine ⟨i, v 1 i, hi, hc, Or.inr ⟨ex.symm, rfl⟩, ?_⟩
          rw [ex, u1_s]
          have := hle (v 1 i)
          omega
        · rw [if_neg h2] at e; exact absurd rfl e
    · rw [if_neg hc] at e; exact absurd rfl e
theorem wayI_to {v : Nat → Nat → Nat} {t : Nat} {d : Nat → Nat} (h : wayI v t d) : ∀ i, i ≤ v 8 1 → wayI v t (relaxTo v d i) := by
  intro i
  induction i with
  | zero => intro _; exact h
  | succ i ih => intro hi; exact wayI_relax (by omega) (ih (by omega))
theorem wayI_r {v : Nat → Nat → Nat} {t : Nat} : ∀ k, wayI v t (rnds v (dz t) k) := by
  intro k
  induction k with
  | zero => exact fun x => Or.inl rfl
  | succ k ih => exact wayI_to ih _ (Nat.le_refl _)
theorem relax_edge {v : Nat → Nat → Nat} {d : Nat → Nat} {i x y : Nat} (hc : v 4 i = 0) (hl : 1 ≤ v 3 i) (he : v 1 i = x ∧ v 2 i = y ∨ v 2 i = x ∧ v 1 i = y) : relax v d i x ≤ d y + v 3 i := by
  unfold relax rel
  rw [if_pos hc]
  rcases he with ⟨e1, e2⟩ | ⟨e1, e2⟩
  · rw [e1, e2]
    by_cases h1 : d y + v 3 i < d x
    · rw [if_pos h1, u1_s]; exact Nat.le_refl _
    · rw [if_neg h1]
      by_cases h2 : d x + v 3 i < d y
      · rw [if_pos h2, u1_n _ _ (fun q => by rw [q] at h2; omega)]; omega
      · rw [if_neg h2]; omega
  · rw [e1, e2]
    by_cases h1 : d x + v 3 i < d y
    · rw [if_pos h1, u1_n _ _ (fun q => by rw [q] at h1; omega)]; omega
    · rw [if_neg h1]
      by_cases h2 : d y + v 3 i < d x
      · rw [if_pos h2, u1_s]; exact Nat.le_refl _
      · rw [if_neg h2]; omega
theorem cnt_mono {P Q : Nat → Bool} : ∀ {n : Nat}, (∀ i, i < n → P i = true → Q i = true) → cnt P n ≤ cnt Q n := by
  intro n
  induction n with
  | zero => intro _; exact Nat.le_refl _
  | succ n ih =>
    intro h
    have h1 := ih (fun i hi => h i (by omega))
    have h2 := h n (by omega)
    show cnt P n + (if P n = true then 1 else 0) ≤ cnt Q n + (if Q n = true then 1 else 0)
    by_cases q : P n = true
    · rw [if_pos q, if_pos (h2 q)]; omega
    · rw [if_neg q]; omega
theorem cnt_lt {P Q : Nat → Bool} {y : Nat} : ∀ {n : Nat}, (∀ i, i < n → P i = true → Q i = true) → y < n → P y = false → Q y = true → cnt P n + 1 ≤ cnt Q n := by
  intro n
  induction n with
  | zero => intro _ h; exact absurd h (by omega)
  | succ n ih =>
    intro h hy hp hq
    have h1 := cnt_mono (P := P) (Q := Q) (n := n) (fun i hi => h i (by omega))
    have h2 := h n (by omega)
    show cnt P n + (if P n = true then 1 else 0) + 1 ≤ cnt Q n + (if Q n = true then 1 else 0)
    by_cases e : y = n
    · rw [← e, hp, hq, if_neg (by decide), if_pos rfl]; rw [e]; omega
    · have h3 := ih (fun i hi => h i (by omega)) (by omega) hp hq
      by_cases q : P n = true
      · rw [if_pos q, if_pos (h2 q)]; omega
      · rw [if_neg q]; omega
theorem dist_at {v : Nat → Nat → Nat} {t n : Nat} (hn : n ≤ 6) (hr : ∀ i, i < v 8 1 → v 1 i < n ∧ v 2 i < n ∧ 1 ≤ v 3 i) : ∀ m x, dist v t x ≤ m → ∀ k, k ≤ 6 → cnt (fun y => decide (dist v t y < dist v t x)) n ≤ k → rnds v (dz t) k x = dist v t x := by
  have hD : ∀ x k, k ≤ 6 → dist v t x ≤ rnds v (dz t) k x := by
    intro x k hk
    have := rnds_mono v (dz t) x (k := k) (6 - k)
    rw [show k + (6 - k) = 6 by omega] at this
    exact this
  have step : ∀ x, dist v t x = dz t x → ∀ k, k ≤ 6 → rnds v (dz t) k x = dist v t x := by
    intro x e k hk
    have h1 := hD x k hk
    have h2 := rnds_le v (dz t) x k
    omega
  intro m
  induction m with
  | zero =>
    intro x hx k hk _
    rcases wayI_r (v := v) (t := t) 6 x with q | ⟨i, y, h1, _, _, h4⟩
    · exact step x q k hk
    · have := (hr i h1).2.2
      have h4 : dist v t y + v 3 i ≤ dist v t x := h4
      omega
  | succ m ih =>
    intro x hx k hk hc
    rcases wayI_r (v := v) (t := t) 6 x with q | ⟨i, y, h1, h2, h3, h4⟩
    · exact step x q k hk
    · have hl := (hr i h1).2.2
      have h4 : dist v t y + v 3 i ≤ dist v t x := h4
      have hy : y < n := by
        have := hr i h1
        rcases h3 with ⟨_, e⟩ | ⟨_, e⟩ <;> omega
      have hlt : cnt (fun z => decide (dist v t z < dist v t y)) n + 1 ≤ cnt (fun z => decide (dist v t z < dist v t x)) n := by
        refine cnt_lt (y := y) (fun z _ hz => ?_) hy (decide_eq_false (by omega)) (decide_eq_true (by omega))
        have := of_decide_eq_true hz
        exact decide_eq_true (by omega)
      obtain ⟨j, rfl⟩ : ∃ j, k = j + 1 := ⟨k - 1, by omega⟩
      have hi := ih y (by omega) j (by omega) (by omega)
      have h5 : rnds v (dz t) (j + 1) x ≤ rnds v (dz t) j y + v 3 i := by
        have a1 := relaxTo_mono v (rnds v (dz t) j) x (i := i + 1) (v 8 1 - (i + 1))
        rw [show i + 1 + (v 8 1 - (i + 1)) = v 8 1 by omega] at a1
        have a2 : relaxTo v (rnds v (dz t) j) (i + 1) x ≤ relaxTo v (rnds v (dz t) j) i y + v 3 i := relax_edge h2 hl h3
        have a3 := relaxTo_le v (rnds v (dz t) j) y i
        show relaxTo v (rnds v (dz t) j) (v 8 1) x ≤ _
        omega
      have h6 := hD x (j + 1) hk
      omega
theorem dist_conv {v : Nat → Nat → Nat} {t n : Nat} (hn : n ≤ 6) (hr : ∀ i, i < v 8 1 → v 1 i < n ∧ v 2 i < n ∧ 1 ≤ v 3 i) (ht : t < n) : ∀ x, x < 6 → rnds v (dz t) (n - 1) x = dist v t x := by
  intro x _
  by_cases hx : x < n
  · refine dist_at hn hr (dist v t x) x (Nat.le_refl _) (n - 1) (by omega) ?_
    have h1 := cnt_lt (P := fun y => decide (dist v t y < dist v t x)) (Q := fun _ => true) (y := x) (n := n) (fun _ _ _ => rfl) hx (decide_eq_false (by omega)) rfl
    have h2 := cnt_le (fun _ => true) n
    omega
  · have hout : ∀ k, rnds v (dz t) k x = dz t x := by
      intro k
      rcases wayI_r (v := v) (t := t) k x with q | ⟨i, y, h1, _, h3, _⟩
      · exact q
      · have := hr i h1
        rcases h3 with ⟨e, _⟩ | ⟨e, _⟩ <;> omega
    exact (hout _).trans (hout 6).symm
theorem GW.rt {G : Nat → Nat → Nat} (h : GW G) : ∀ i, i < cgv G 8 1 → cgv G 1 i < G 8 0 ∧ cgv G 2 i < G 8 0 ∧ 1 ≤ cgv G 3 i := fun i hi => by
  have h1 := h.2.2.2.2.2.2.1 i hi
  exact ⟨h1.1, h1.2.1, h1.2.2.2.1⟩
theorem meas_end {G : Nat → Nat → Nat} {t rd nr : Nat} {d1 : Nat → Nat} (hw : GW G) (ht : t < G 8 0) (hr1 : 1 ≤ rd) (hr2 : rd ≤ G 8 0) (hd : ∀ x, x < 6 → d1 x = rnds (cgv G) (dz t) (rd - 1) x) (hq : nr = 0 → 2 ≤ rd ∧ ∀ x, x < 6 → rnds (cgv G) (dz t) (rd - 1) x = rnds (cgv G) (dz t) (rd - 2) x) (he : rd = G 8 0 ∨ nr = 0) : ∀ j, j < 6 → nf d1 j = nf (dist (cgv G) t) j := by
  intro x hx
  have hn := hw.1
  show nI _ = nI _
  rw [hd x hx]
  rcases he with he | he
  · rw [he, dist_conv hn hw.rt ht x hx]
  · obtain ⟨h2, h3⟩ := hq he
    have hr : ∀ i, i < cgv G 8 1 → cgv G 1 i < 6 ∧ cgv G 2 i < 6 := fun i hi => by have := hw.rt i hi; omega
    have h4 := rnds_fix (v := cgv G) (d := dz t) (k := rd - 2) hr (fun x hx => by rw [show rd - 2 + 1 = rd - 1 by omega]; exact h3 x hx) (6 - (rd - 2)) x hx
    rw [show rd - 2 + (6 - (rd - 2)) = 6 by omega] at h4
    rw [h3 x hx, ← h4]; rfl
theorem cnt_f {P : Nat → Bool} {i : Nat} (h : P i = false) : cnt P (i + 1) = cnt P i := by show cnt P i + _ = _; rw [h]; rfl
theorem cnt_t {P : Nat → Bool} {i : Nat} (h : P i = true) : cnt P (i + 1) = cnt P i + 1 := by show cnt P i + _ = _; rw [h]; rfl
theorem whole_f0 {G : Nat → Nat → Nat} {t i : Nat} (h : (G 4 0).testBit i = true) : wholeP (cgv G) t i = false := by unfold wholeP; rw [cgv4' h]; rfl
theorem whole_1 {G : Nat → Nat → Nat} {t i : Nat} (h : (G 4 0).testBit i = false) (h1 : G 1 i = t) : wholeP (cgv G) t i = true := by
  unfold wholeP; rw [cgv4 h, show cgv G 1 i = t from h1]; simp
theorem whole_2 {G : Nat → Nat → Nat} {t i : Nat} (h : (G 4 0).testBit i = false) (h1 : G 2 i = t) : wholeP (cgv G) t i = true := by
  unfold wholeP; rw [cgv4 h, show cgv G 2 i = t from h1]; simp
theorem whole_f1 {G : Nat → Nat → Nat} {t i : Nat} (h1 : G 1 i ≠ t) (h2 : G 2 i ≠ t) : wholeP (cgv G) t i = false := by
  unfold wholeP; rw [decide_eq_false (show ¬ cgv G 1 i = t from h1), decide_eq_false (show ¬ cgv G 2 i = t from h2)]; simp
theorem hearS_lt (v : Nat → Nat → Nat) (t b : Nat) (hn : v 8 0 ≤ 6) : hearS v t b < 64 := bset_le _ hn
theorem heardS_lt (v : Nat → Nat → Nat) (k : Nat) (hn : v 8 0 ≤ 6) : heardS v k < 64 := hearS_lt v _ _ hn
theorem lfind_y {P : Nat → Bool} {n k : Nat} (hn : 0 < n) (h : P k = true) : lfind P n k = k := by
  obtain ⟨m, rfl⟩ : ∃ m, n = m + 1 := ⟨n - 1, by omega⟩
  show (if P k then k else _) = k
  rw [h]; rfl
theorem lfind_n {P : Nat → Bool} {n k : Nat} (h : P k = false) : lfind P (n + 1) k = lfind P n (k + 1) := by
  show (if P k then k else _) = _
  rw [h]; rfl
theorem lfind_s {P : Nat → Bool} {N k : Nat} (hk : k < N) (h : P k = false) : lfind P (N - k) k = lfind P (N - (k + 1)) (k + 1) := by
  obtain ⟨m, hm⟩ : ∃ m, N - k = m + 1 := ⟨N - k - 1, by omega⟩
  rw [hm, lfind_n h, show N - (k + 1) = m by omega]
theorem orNone_p {n : Nat} (h : 0 < n) : orNone n = nI n := if_neg (by omega)
theorem listen_s {v : Nat → Nat → Nat} {e1 : Nat → Nat} {i : Nat} (h : ∀ j, j < i → e1 j = heardS v j) : ∀ j, j < i + 1 → u1 e1 i (hearW v (dist v (v 6 i)) (v 7 i)) j = heardS v j := by
  intro j hj
  unfold u1
  split
  · subst_vars; rfl
  · exact h j (by omega)
theorem cross_f1 {G : Nat → Nat → Nat} {e : Nat → Nat} {k j : Nat} (h : G 5 k ≠ G 5 j) : crossE G e k j = false := by unfold crossE; rw [decide_eq_false h]; rfl
theorem cross_f2 {G : Nat → Nat → Nat} {e : Nat → Nat} {k j : Nat} (h : e k &&& e j = 0) : crossE G e k j = false := by unfold crossE; rw [h]; simp
theorem cross_t {G : Nat → Nat → Nat} {e : Nat → Nat} {k j : Nat} (h : G 5 k = G 5 j) (h2 : 0 < e k &&& e j) : crossE G e k j = true := by unfold crossE; rw [h, decide_eq_true (show e k &&& e j ≠ 0 by omega)]; simp
theorem cross_c {G : Nat → Nat → Nat} {e : Nat → Nat} {k j : Nat} {b : Bool} (he : ∀ j, j < G 8 3 → e j = heardS (cgv G) j) (h : crossE G e k j = b) (hk : k < G 8 3) (hj : j < G 8 3) : crossP (cgv G) k j = b := by
  rw [← h]; unfold crossP crossE; rw [← he k hk, ← he j hj]; rfl
