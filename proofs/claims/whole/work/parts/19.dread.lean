/-! talks read from a sheet -/
theorem GW.talk {G : Nat → Nat → Nat} {a b L : Nat} (hw : GW G) (h6 : G 8 3 < 6) (ha : a ≤ 23) (hb : b < G 8 0) (hL : 1 ≤ L ∧ L ≤ 60) : GW (addT G a b L) := by
  obtain ⟨h1, h2, h3, h4, h5, h6', h7, h8⟩ := hw
  refine ⟨h1, h2, h3, (by show G 8 3 + 1 ≤ 6; omega), h5, h6', h7, ?_⟩
  intro k hk
  have hk' : k < G 8 3 + 1 := hk
  show u1 (G 5) (G 8 3) a k ≤ 23 ∧ u1 (G 6) (G 8 3) b k < G 8 0 ∧ 1 ≤ u1 (G 7) (G 8 3) L k ∧ u1 (G 7) (G 8 3) L k ≤ 60
  by_cases e : k = G 8 3
  · subst e; rw [u1_s, u1_s, u1_s]; exact ⟨ha, hb, hL.1, hL.2⟩
  · rw [u1_n _ _ e, u1_n _ _ e, u1_n _ _ e]; exact h8 k (by omega)
def rfs (P : Nat → Bool) : Nat → Nat → Nat
  | 0, k => k
  | m + 1, k => if P k = true then k else rfs P m (k + 1)
theorem rfs_n {P : Nat → Bool} {n c : Nat} (h : c < n) (hp : P c = false) : rfs P (n - c) c = rfs P (n - (c + 1)) (c + 1) := by
  obtain ⟨m, hm⟩ : ∃ m, n - c = m + 1 := ⟨n - c - 1, by omega⟩
  rw [hm, show n - (c + 1) = m by omega]
  show (if P c = true then c else rfs P m (c + 1)) = _
  rw [hp]; rfl
theorem rfs_y {P : Nat → Bool} {n c : Nat} (h : c < n) (hp : P c = true) : rfs P (n - c) c = c := by
  obtain ⟨m, hm⟩ : ∃ m, n - c = m + 1 := ⟨n - c - 1, by omega⟩
  rw [hm]
  show (if P c = true then c else rfs P m (c + 1)) = _
  rw [hp]; rfl
theorem rfs_z (P : Nat → Bool) (n : Nat) : rfs P (n - n) n = n := by rw [Nat.sub_self]; rfl
def rdAt (f : Int32) (i : Nat) : Int32 := f + nI (3 * i)
def rdF (l : Int32) (n : Nat) (lane x : Int32) : Nat := if l ≠ -1 ∧ l ≠ lane then 3 else if l = -1 then 1 else if fc x n 3 = true then 0 else 2
theorem rdF_le (l : Int32) (n : Nat) (lane x : Int32) : rdF l n lane x ≤ 3 := by
  unfold rdF; split
  · omega
  · split
    · omega
    · split <;> omega
theorem rdF_0 {l : Int32} {n : Nat} {lane x : Int32} (hn : n < 2 ^ 31) (h : rdF l n lane x = 0) : ∃ k : Nat, k + 3 ≤ n ∧ x = nI k := by
  unfold rdF at h
  split at h
  · omega
  · split at h
    · omega
    · split at h
      · next h2 => exact fc_sp hn h2
      · omega
def rdOk (nT T0 : Nat) (ce : Nat → Int32) (f : Int32) (i : Nat) : Bool := rg (ce (tn (rdAt f i))) 0 23 && ix (ce (tn (rdAt f i) + 1)) nT && rg (ce (tn (rdAt f i) + 2)) 1 60 && decide (T0 + i < 6)
def rdStop (nT T0 : Nat) (l : Int32) (n : Nat) (ce : Nat → Int32) (lane f : Int32) (i : Nat) : Bool := decide (rdF l n lane (rdAt f i) ≠ 0) || !(rdOk nT T0 ce f i)
def rdC (v : Nat → Nat → Nat) (l : Int32) (n : Nat) (ce : Nat → Int32) (lane f : Int32) (m : Nat) : Nat := rfs (rdStop (v 8 0) (v 8 3) l n ce lane f) m 0
def rdB (v : Nat → Nat → Nat) (l : Int32) (n : Nat) (ce : Nat → Int32) (lane f : Int32) (m : Nat) : Bool := decide (rdC v l n ce lane f m < m) && decide (rdF l n lane (rdAt f (rdC v l n ce lane f m)) = 0)
def a_read (v : Nat → Nat → Nat) (l : Int32) (n : Nat) (ce : Nat → Int32) (x lane f w : Int32) : Int32 := if (rg x 0 3 && rg lane 0 2 && rg w 0 13) = true then (if rdB v l n ce lane f (tn w) = true then -20 - nI (rdC v l n ce lane f (tn w)) else nI (rdC v l n ce lane f (tn w))) else -1
def rdG (G : Nat → Nat → Nat) (f : Int32) (ce : Nat → Int32) : Nat → (Nat → Nat → Nat)
  | 0 => G
  | i + 1 => addT (rdG G f ce i) (tn (ce (tn (rdAt f i)))) (tn (ce (tn (rdAt f i) + 1))) (tn (ce (tn (rdAt f i) + 2)))
def readG (G : Nat → Nat → Nat) (l : Int32) (n : Nat) (ce : Nat → Int32) (x lane f w : Int32) : Nat → Nat → Nat := if (rg x 0 3 && rg lane 0 2 && rg w 0 13) = true then (if rdB (cgv G) l n ce lane f (tn w) = true then u2 (rdG G f ce (rdC (cgv G) l n ce lane f (tn w))) 8 3 (G 8 3) else rdG G f ce (rdC (cgv G) l n ce lane f (tn w))) else G
def readF (v : Nat → Nat → Nat) (old : Nat) (l : Int32) (n : Nat) (ce : Nat → Int32) (x lane f w : Int32) : Nat := if (rg x 0 3 && rg lane 0 2 && rg w 0 13) = true then (if rdB v l n ce lane f (tn w) = true then old else if rdC v l n ce lane f (tn w) < tn w then rdF l n lane (rdAt f (rdC v l n ce lane f (tn w))) else 0) else old
theorem rdG_83 (G : Nat → Nat → Nat) (f : Int32) (ce : Nat → Int32) : ∀ i, rdG G f ce i 8 3 = G 8 3 + i := by
  intro i
  induction i with
  | zero => rfl
  | succ i ih => show rdG G f ce i 8 3 + 1 = _; rw [ih]; rfl
theorem rdG_80 (G : Nat → Nat → Nat) (f : Int32) (ce : Nat → Int32) : ∀ i, rdG G f ce i 8 0 = G 8 0 := by
  intro i
  induction i with
  | zero => rfl
  | succ i ih => show rdG G f ce i 8 0 = _; exact ih
theorem rdG_w {G : Nat → Nat → Nat} {f : Int32} {ce : Nat → Int32} (hw : GW G) : ∀ i, (∀ j, j < i → rdOk (G 8 0) (G 8 3) ce f j = true) → GW (rdG G f ce i) := by
  intro i
  induction i with
  | zero => intro _; exact hw
  | succ i ih =>
    intro h
    have h1 := h i (by omega)
    unfold rdOk at h1
    simp only [Bool.and_eq_true, decide_eq_true_eq] at h1
    obtain ⟨⟨⟨a1, a2⟩, a3⟩, a4⟩ := h1
    obtain ⟨x, _, hx, hx', ex⟩ := rg_sp a1
    obtain ⟨y, hy, ey⟩ := ix_sp a2
    obtain ⟨z, hz0, hz, hz', ez⟩ := rg_sp a3
    have h80 := hw.1
    refine (ih fun j hj => h j (by omega)).talk (by rw [rdG_83]; exact a4) ?_ ?_ ?_
    · rw [ex, tn_nI (by omega)]; exact hx
    · rw [ey, tn_nI (by omega), rdG_80]; exact hy
    · rw [ez, tn_nI (by omega)]; exact ⟨hz0, hz⟩
theorem book_nn {v : Nat → Nat → Nat} {x y z : Int32} (hv : v 8 3 ≤ 6) : 0 ≤ a_book v x y z ↔ (rg x 0 23 && ix y (v 8 0) && rg z 1 60 && decide (v 8 3 < 6)) = true := by
  unfold a_book
  by_cases h : (rg x 0 23 && ix y (v 8 0) && rg z 1 60) = true
  · rw [if_pos h, h, Bool.true_and, decide_eq_true_eq]
    by_cases h6 : v 8 3 = 6
    · rw [if_pos h6]
      exact ⟨fun q => absurd q (by decide), fun q => by omega⟩
    · rw [if_neg h6]
      refine ⟨fun _ => by omega, fun _ => ?_⟩
      rw [Int32.le_iff_toInt_le, nI_toInt (by omega)]
      show (0 : Int) ≤ _
      omega
  · rw [if_neg h, Bool.not_eq_true] at *
    rw [h]
    exact ⟨fun q => absurd q (by decide), fun q => by simp at q⟩
theorem bookG_t {G : Nat → Nat → Nat} {x y z : Int32} (h : (rg x 0 23 && ix y (G 8 0) && rg z 1 60 && decide (G 8 3 < 6)) = true) : bookG G x y z = addT G (tn x) (tn y) (tn z) := if_pos h
theorem bookG_f {G : Nat → Nat → Nat} {x y z : Int32} (h : ¬ (rg x 0 23 && ix y (G 8 0) && rg z 1 60 && decide (G 8 3 < 6)) = true) : bookG G x y z = G := if_neg h
/-- what holds before each of the rounds -/
def rdI (v : Nat → Nat → Nat) (l : Int32) (n : Nat) (ce : Nat → Int32) (lane f : Int32) (m c ft : Nat) : Prop := (∀ j, j < c → rdOk (v 8 0) (v 8 3) ce f j = true) ∧ ((ft = 0 ∧ rdC v l n ce lane f m = rfs (rdStop (v 8 0) (v 8 3) l n ce lane f) (m - c) c) ∨ (ft = rdF l n lane (rdAt f c) ∧ ft ≠ 0 ∧ c < m ∧ rdC v l n ce lane f m = c))
theorem rdI_0 (v : Nat → Nat → Nat) (l : Int32) (n : Nat) (ce : Nat → Int32) (lane f : Int32) (m : Nat) : rdI v l n ce lane f m 0 0 := ⟨fun j hj => absurd hj (Nat.not_lt_zero j), Or.inl ⟨rfl, rfl⟩⟩
theorem rdI_f {v : Nat → Nat → Nat} {l : Int32} {n : Nat} {ce : Nat → Int32} {lane f : Int32} {m c ft' : Nat} (h : rdI v l n ce lane f m c 0) (hc : c < m) (hf : ft' = rdF l n lane (rdAt f c)) (h0 : ft' ≠ 0) : rdI v l n ce lane f m c ft' := by
  refine ⟨h.1, Or.inr ⟨hf, h0, hc, ?_⟩⟩
  rcases h.2 with ⟨_, h1⟩ | ⟨_, h1, _⟩
  · rw [h1]; exact rfs_y hc (by unfold rdStop; rw [← hf, decide_eq_true h0]; rfl)
  · exact absurd rfl h1
theorem rdI_s {v : Nat → Nat → Nat} {l : Int32} {n : Nat} {ce : Nat → Int32} {lane f : Int32} {m c : Nat} (h : rdI v l n ce lane f m c 0) (hc : c < m) (hf : rdF l n lane (rdAt f c) = 0) (hk : rdOk (v 8 0) (v 8 3) ce f c = true) : rdI v l n ce lane f m (c + 1) 0 := by
  refine ⟨fun j hj => ?_, Or.inl ⟨rfl, ?_⟩⟩
  · by_cases e : j = c
    · rw [e]; exact hk
    · exact h.1 j (by omega)
  · rcases h.2 with ⟨_, h1⟩ | ⟨_, h1, _⟩
    · rw [h1]; exact rfs_n hc (by unfold rdStop; rw [hf, hk]; rfl)
    · exact absurd rfl h1
theorem rdI_b {v : Nat → Nat → Nat} {l : Int32} {n : Nat} {ce : Nat → Int32} {lane f : Int32} {m c : Nat} (h : rdI v l n ce lane f m c 0) (hc : c < m) (hf : rdF l n lane (rdAt f c) = 0) (hk : ¬ rdOk (v 8 0) (v 8 3) ce f c = true) : rdC v l n ce lane f m = c ∧ rdB v l n ce lane f m = true := by
  have h2 : rdC v l n ce lane f m = c := by
    rcases h.2 with ⟨_, h1⟩ | ⟨_, h1, _⟩
    · rw [h1]; exact rfs_y hc (by unfold rdStop; rw [Bool.not_eq_true] at hk; rw [hk]; simp)
    · exact absurd rfl h1
  refine ⟨h2, ?_⟩
  unfold rdB; rw [h2, hf, decide_eq_true hc]; rfl
theorem rdI_e {v : Nat → Nat → Nat} {l : Int32} {n : Nat} {ce : Nat → Int32} {lane f : Int32} {m c ft : Nat} (h : rdI v l n ce lane f m c ft) (hc : c ≤ m) (he : c = m ∨ ft ≠ 0) : rdC v l n ce lane f m = c ∧ rdB v l n ce lane f m = false ∧ ft = if rdC v l n ce lane f m < m then rdF l n lane (rdAt f (rdC v l n ce lane f m)) else 0 := by
  rcases h.2 with ⟨h0, h1⟩ | ⟨h1, h2, h3, h4⟩
  · have e : c = m := by omega
    subst e
    have h2 : rdC v l n ce lane f c = c := by rw [h1]; exact rfs_z _ _
    refine ⟨h2, ?_, ?_⟩
    · unfold rdB; rw [h2, decide_eq_false (Nat.lt_irrefl c)]; rfl
    · rw [h2, if_neg (Nat.lt_irrefl c)]; exact h0
  · refine ⟨h4, ?_, ?_⟩
    · unfold rdB; rw [h4, ← h1, decide_eq_false h2]; simp
    · rw [h4, if_pos h3]; exact h1
theorem rd_ok {G G1 : Nat → Nat → Nat} {z : Int32} {ce : Nat → Int32} {c a : Nat} (hg : G1 = rdG G z ce c) (hw : GW G1) (ha : a < 2 ^ 31) (ea : rdAt z c = nI a) (h : 0 ≤ a_book (cgv G1) (ce a) (ce (a + 1)) (ce (a + 2))) : rdOk (G 8 0) (G 8 3) ce z c = true ∧ bookG G1 (ce a) (ce (a + 1)) (ce (a + 2)) = rdG G z ce (c + 1) := by
  have h1 := (book_nn (v := cgv G1) (show cgv G1 8 3 ≤ 6 from hw.2.2.2.1)).mp h
  have h2 : (rg (ce a) 0 23 && ix (ce (a + 1)) (G1 8 0) && rg (ce (a + 2)) 1 60 && decide (G1 8 3 < 6)) = true := h1
  refine ⟨?_, ?_⟩
  · unfold rdOk
    rw [ea, tn_nI ha]
    rw [hg, rdG_80, rdG_83] at h2; exact h2
  · rw [bookG_t h2]
    show addT G1 _ _ _ = addT (rdG G z ce c) _ _ _
    rw [ea, tn_nI ha, hg]
theorem rd_no {G G1 : Nat → Nat → Nat} {z : Int32} {ce : Nat → Int32} {c a : Nat} (hg : G1 = rdG G z ce c) (hw : GW G1) (ha : a < 2 ^ 31) (ea : rdAt z c = nI a) (h : ¬ 0 ≤ a_book (cgv G1) (ce a) (ce (a + 1)) (ce (a + 2))) : ¬ rdOk (G 8 0) (G 8 3) ce z c = true ∧ bookG G1 (ce a) (ce (a + 1)) (ce (a + 2)) = G1 := by
  have h1 := fun q => h ((book_nn (v := cgv G1) (show cgv G1 8 3 ≤ 6 from hw.2.2.2.1)).mpr q)
  have h2 : ¬ (rg (ce a) 0 23 && ix (ce (a + 1)) (G1 8 0) && rg (ce (a + 2)) 1 60 && decide (G1 8 3 < 6)) = true := h1
  refine ⟨?_, bookG_f h2⟩
  unfold rdOk
  rw [ea, tn_nI ha]
  rw [hg, rdG_80, rdG_83] at h2; exact h2
