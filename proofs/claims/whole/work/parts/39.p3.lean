/-! the reference's read -/
theorem a_book_eq {v w : Nat → Nat → Nat} (h : VEq v w) (x y z : Int32) : a_book v x y z = a_book w x y z := by
  unfold a_book; rw [h.1, h.2.2.2.1]
theorem rdOk_of {v : Nat → Nat → Nat} {f : Int32} {ce : Nat → Int32} {c a : Nat} (hT : v 8 3 + c ≤ 6) (ea : tn (rdAt f c) = a) : (0 ≤ a_book (rdV v f ce c) (ce a) (ce (a + 1)) (ce (a + 2))) ↔ rdOk (v 8 0) (v 8 3) ce f c = true := by
  rw [book_nn (by rw [rdV_83]; omega), (rdV_8 v f ce c).1, rdV_83]
  unfold rdOk
  rw [ea]
theorem bookM_f {M : Nat → Nat → Nat} {x y z : Int32} (h6 : M 0 62 ≤ 6) (h : ¬ 0 ≤ a_book (pgv M 0) x y z) : bookM M x y z = M := by
  have h1 := fun q => h ((book_nn (v := pgv M 0) h6).mpr q)
  refine if_neg fun q => h1 ?_
  rw [Bool.and_eq_true, decide_eq_true_eq] at q
  rw [Bool.and_eq_true, decide_eq_true_eq]
  exact ⟨q.1, (by have := q.2; show M 0 62 < 6; omega)⟩
theorem bookM_y {M : Nat → Nat → Nat} {x y z : Int32} (h6 : M 0 62 ≤ 6) (h : 0 ≤ a_book (pgv M 0) x y z) : bookM M x y z = addM M (tn x) (tn y) (tn z) ∧ M 0 62 < 6 ∧ tn x ≤ 23 ∧ tn y < M 20 0 ∧ 1 ≤ tn z ∧ tn z ≤ 60 := by
  have h1 := (book_nn (v := pgv M 0) h6).mp h
  rw [Bool.and_eq_true, decide_eq_true_eq] at h1
  obtain ⟨h2, h3⟩ := h1
  have h3 : M 0 62 < 6 := h3
  have h4 := h2
  rw [Bool.and_eq_true, Bool.and_eq_true] at h4
  obtain ⟨⟨a1, a2⟩, a3⟩ := h4
  obtain ⟨x', _, hx, hx', ex⟩ := rg_sp a1
  obtain ⟨y', hy, ey⟩ := ix_sp a2
  obtain ⟨z', hz0, hz, hz', ez⟩ := rg_sp a3
  refine ⟨if_pos ?_, h3, ?_, ?_, ?_⟩
  · rw [Bool.and_eq_true, decide_eq_true_eq]; exact ⟨h2, by omega⟩
  · rw [ex, tn_nI (by omega)]; exact hx
  · rcases Nat.lt_or_ge y' (2 ^ 31) with hl | hl
    · rw [ey, tn_nI hl]; exact hy
    · exact Nat.lt_of_le_of_lt (show tn y ≤ 2147483647 from by unfold tn; have := Int32.toInt_lt y; show y.toInt.toNat ≤ _; omega) (Nat.lt_of_lt_of_le (by omega) (Nat.le_trans hl (Nat.le_of_lt hy)))
  · rw [ez, tn_nI hz']; exact ⟨hz0, hz⟩
/-- a talk more, on the first page -/
theorem pg_add {M : Nat → Nat → Nat} {r : Nat → Nat} {w : Nat → Nat → Nat} {a b c : Nat} (hT : w 8 3 < 6) (hR : w 8 1 ≤ 9) (h0 : w 8 0 ≤ 6) (h : VEq (pgv (u3 M 0 r) 0) w) : VEq (pgv (u3 M 0 (addM (u3 M 0 r) a b c 0)) 0) (addv w a b c) := by
  obtain ⟨e0, e1, e2, e3, e4, e5, e6⟩ := h
  have f0 : M 20 0 = w 8 0 := e0
  have f1 : r 42 = w 8 1 := e1
  have f2 : r 43 = w 8 2 := e2
  have f3 : r 62 = w 8 3 := e3
  have ex : addM (u3 M 0 r) a b c 0 = u1 (u1 (u1 (u1 r (44 + r 62) a) (50 + r 62) b) (56 + r 62) c) 62 (r 62 + 1) := rfl
  have lo : ∀ j, j ≠ 44 + r 62 → j ≠ 50 + r 62 → j ≠ 56 + r 62 → j ≠ 62 → addM (u3 M 0 r) a b c 0 j = r j := by
    intro j h1 h2 h3 h4
    rw [ex, u1_n _ _ h4, u1_n _ _ h3, u1_n _ _ h2, u1_n _ _ h1]
  have l62 : addM (u3 M 0 r) a b c 0 62 = r 62 + 1 := by rw [ex, u1_s]
  refine ⟨f0, ?_, ?_, ?_, fun t ht => ?_, fun i hi => ?_, fun k hk => ?_⟩
  · show addM (u3 M 0 r) a b c 0 (0 + 42) = w 8 1
    rw [Nat.zero_add, lo 42 (by omega) (by omega) (by omega) (by omega)]; exact f1
  · show addM (u3 M 0 r) a b c 0 (0 + 43) = w 8 2
    rw [Nat.zero_add, lo 43 (by omega) (by omega) (by omega) (by omega)]; exact f2
  · show addM (u3 M 0 r) a b c 0 (0 + 62) = w 8 3 + 1
    rw [Nat.zero_add, l62, f3]
  · have ht : t < M 20 0 := ht
    have q := e4 t ht
    show addM (u3 M 0 r) a b c 0 (0 + t) = w 0 t
    rw [lo (0 + t) (by omega) (by omega) (by omega) (by omega)]; exact q
  · have hi : i < addM (u3 M 0 r) a b c 0 (0 + 42) := hi
    rw [Nat.zero_add, lo 42 (by omega) (by omega) (by omega) (by omega)] at hi
    have q := e5 i hi
    have hi9 : i < 9 := by omega
    refine ⟨?_, ?_, ?_, ?_⟩
    · show addM (u3 M 0 r) a b c 0 (0 + 6 + i) = w 1 i
      rw [lo (0 + 6 + i) (by omega) (by omega) (by omega) (by omega)]; exact q.1
    · show addM (u3 M 0 r) a b c 0 (0 + 15 + i) = w 2 i
      rw [lo (0 + 15 + i) (by omega) (by omega) (by omega) (by omega)]; exact q.2.1
    · show addM (u3 M 0 r) a b c 0 (0 + 24 + i) = w 3 i
      rw [lo (0 + 24 + i) (by omega) (by omega) (by omega) (by omega)]; exact q.2.2.1
    · show addM (u3 M 0 r) a b c 0 (0 + 33 + i) = w 4 i
      rw [lo (0 + 33 + i) (by omega) (by omega) (by omega) (by omega)]; exact q.2.2.2
  · have hk : k < addM (u3 M 0 r) a b c 0 (0 + 62) := hk
    rw [Nat.zero_add, l62] at hk
    have g : ∀ off x, (off = 44 ∧ x = a) ∨ (off = 50 ∧ x = b) ∨ (off = 56 ∧ x = c) → ∀ row : Nat → Nat, (∀ j, j < r 62 → r (0 + off + j) = row j) → addM (u3 M 0 r) a b c 0 (0 + off + k) = u1 row (w 8 3) x k := by
      intro off x hox row hrow
      by_cases e : k = r 62
      · rw [← f3, e, u1_s, ex]
        rcases hox with ⟨rfl, rfl⟩ | ⟨rfl, rfl⟩ | ⟨rfl, rfl⟩
        · rw [u1_n _ _ (by omega), u1_n _ _ (by omega), u1_n _ _ (by omega), Nat.zero_add, u1_s]
        · rw [u1_n _ _ (by omega), u1_n _ _ (by omega), Nat.zero_add, u1_s]
        · rw [u1_n _ _ (by omega), Nat.zero_add, u1_s]
      · rw [← f3, u1_n _ _ e, lo (0 + off + k) (by omega) (by omega) (by omega) (by omega)]
        exact hrow k (by omega)
    refine ⟨?_, ?_, ?_⟩
    · exact g 44 a (Or.inl ⟨rfl, rfl⟩) (w 5) (fun j hj => (e6 j hj).1)
    · exact g 50 b (Or.inr (Or.inl ⟨rfl, rfl⟩)) (w 6) (fun j hj => (e6 j hj).2.1)
    · exact g 56 c (Or.inr (Or.inr ⟨rfl, rfl⟩)) (w 7) (fun j hj => (e6 j hj).2.2)
theorem addM_0 (M : Nat → Nat → Nat) (a b c : Nat) : addM M a b c = u3 M 0 (addM M a b c 0) := by
  funext f
  by_cases h : f = 0
  · subst h; rfl
  · show addM M a b c f = u3 M 0 _ f
    unfold u3 addM
    rw [if_neg h]
    show u2 _ 0 _ _ f = _
    unfold u2
    rw [if_neg h, if_neg h, if_neg h, if_neg h]
theorem addM_hi {M : Nat → Nat → Nat} {a b c j : Nat} (h : M 0 62 < 6) (hj : 63 ≤ j) : addM M a b c 0 j = M 0 j := by
  show u1 (u1 (u1 (u1 (M 0) (44 + M 0 62) a) (50 + M 0 62) b) (56 + M 0 62) c) 62 (M 0 62 + 1) j = _
  rw [u1_n _ _ (by omega), u1_n _ _ (by omega), u1_n _ _ (by omega), u1_n _ _ (by omega)]
/-- what is laid aside: the first page as it was -/
def RA (r0 r : Nat → Nat) : Prop := (∀ j, j < 63 → r (189 + j) = r0 j) ∧ ∀ j, 63 ≤ j → j < 189 → r j = r0 j
theorem RA.cp (r : Nat → Nat) : RA r (pcopy r 0 189 63) := ⟨fun j hj => by rw [pcopy_in hj, Nat.zero_add], fun j h1 h2 => pcopy_out (by omega)⟩
theorem pcopy_lo {r : Nat → Nat} {j : Nat} (h : j < 189) : pcopy r 0 189 63 j = r j := pcopy_out (by omega)
theorem pg_aside {M : Nat → Nat → Nat} (hW : VW (pgv M 0)) : VEq (pgv (u3 M 0 (pcopy (M 0) 0 189 63)) 0) (pgv M 0) :=
  pgq (M := u3 M 0 (pcopy (M 0) 0 189 63)) (N := M) (p := 0) (q := 0) rfl hW.1 hW.2.1 hW.2.2.2.1 (fun j hj => pcopy_lo (by omega))
theorem pg_back {M : Nat → Nat → Nat} {r : Nat → Nat} (hW : VW (pgv M 0)) (h : RA (M 0) r) : VEq (pgv (u3 M 0 (pcopy r 189 0 63)) 0) (pgv M 0) :=
  pgq (M := u3 M 0 (pcopy r 189 0 63)) (N := M) (p := 0) (q := 0) rfl hW.1 hW.2.1 hW.2.2.2.1 (fun j hj => by
    show pcopy r 189 0 63 (0 + j) = M 0 (0 + j)
    rw [pcopy_in hj, h.1 j hj, Nat.zero_add])
theorem RA.bk {r0 r : Nat → Nat} (h : RA r0 r) : ∀ j, 63 ≤ j → j < 189 → pcopy r 189 0 63 j = r0 j := fun j h1 h2 => by rw [pcopy_out (by omega)]; exact h.2 j h1 h2
theorem RA.add {M : Nat → Nat → Nat} {r : Nat → Nat} {a b c : Nat} (h : RA (M 0) r) (h6 : r 62 < 6) : RA (M 0) (addM (u3 M 0 r) a b c 0) :=
  ⟨fun j hj => by rw [addM_hi (M := u3 M 0 r) h6 (by omega)]; exact h.1 j hj, fun j h1 h2 => by rw [addM_hi (M := u3 M 0 r) h6 h1]; exact h.2 j h1 h2⟩
/-- the state before each of the cells -/
def rdJ (v : Nat → Nat → Nat) (la : Int32) (n : Nat) (ce : Nat → Int32) (lane z : Int32) (m i c by_ : Nat) : Prop := rdI v (lnm la) n ce lane z m c by_ ∧ (by_ = 0 → 3 * c ≤ i ∧ i ≤ 3 * c + 2 ∧ rdH la lane z n i)
theorem rdJ_0 (v : Nat → Nat → Nat) (la : Int32) (n : Nat) (ce : Nat → Int32) (lane z : Int32) (m : Nat) : rdJ v la n ce lane z m 0 0 0 := ⟨rdI_0 _ _ _ _ _ _ _, fun _ => ⟨by omega, by omega, fun q => absurd q (by decide)⟩⟩
theorem rdJ_f {v : Nat → Nat → Nat} {la : Int32} {n : Nat} {ce : Nat → Int32} {lane z : Int32} {m i c b i' : Nat} (h : rdJ v la n ce lane z m i c 0) (hc : i < 3 * m) (hb : b ≠ 0) (hf : rdF (lnm la) n lane (rdAt z c) = b) : rdJ v la n ce lane z m i' c b := by
  have h2 := h.2 rfl
  exact ⟨rdI_f h.1 (by omega) hf.symm hb, fun q => absurd q hb⟩
theorem rdJ_g {v : Nat → Nat → Nat} {la : Int32} {n : Nat} {ce : Nat → Int32} {lane z : Int32} {m i c : Nat} (h : rdJ v la n ce lane z m i c 0) (hn : n ≤ 40) (h1 : ¬ la = -4) (h2 : la = lane) (hf : fi z i n = true) (hi : i % 3 ≠ 2) : rdJ v la n ce lane z m (i + 1) c 0 := by
  have h3 := h.2 rfl
  exact ⟨h.1, fun _ => ⟨by omega, by omega, rdH_s hn h1 h2 h3.2.2 hf⟩⟩
theorem rdJ_s {v : Nat → Nat → Nat} {la : Int32} {n : Nat} {ce : Nat → Int32} {lane : Int32} {m i c q : Nat} (h : rdJ v la n ce lane (nI q) m i c 0) (hm : i < 3 * m) (hn : n ≤ 40) (h1 : ¬ la = -4) (h9 : la ≠ -1) (h2 : la = lane) (hq : q + i < n) (hi : i % 3 = 2) (hk : rdOk (v 8 0) (v 8 3) ce (nI q) c = true) : rdJ v la n ce lane (nI q) m (i + 1) (c + 1) 0 := by
  have h3 := h.2 rfl
  have h0 := rd0 (l := la) (lane := lane) (n := n) (i := i) (c := c) (q := q) h1 h9 h2 hn (by omega) hq
  refine ⟨rdI_s h.1 (by omega) h0 hk, fun _ => ⟨by omega, by omega, fun _ => ⟨h1, h2, q, rfl, by omega⟩⟩⟩
theorem rdJ_b {v : Nat → Nat → Nat} {la : Int32} {n : Nat} {ce : Nat → Int32} {lane : Int32} {m i c q : Nat} (h : rdJ v la n ce lane (nI q) m i c 0) (hm : i < 3 * m) (hn : n ≤ 40) (h1 : ¬ la = -4) (h9 : la ≠ -1) (h2 : la = lane) (hq : q + i < n) (hi : i % 3 = 2) (hk : ¬ rdOk (v 8 0) (v 8 3) ce (nI q) c = true) : rdC v (lnm la) n ce lane (nI q) m = c ∧ rdB v (lnm la) n ce lane (nI q) m = true := by
  have h3 := h.2 rfl
  have h0 := rd0 (l := la) (lane := lane) (n := n) (i := i) (c := c) (q := q) h1 h9 h2 hn (by omega) hq
  exact rdI_b h.1 (by omega) h0 hk
theorem rdJ_e {v : Nat → Nat → Nat} {la : Int32} {n : Nat} {ce : Nat → Int32} {lane z : Int32} {m i c b : Nat} (h : rdJ v la n ce lane z m i c b) (hc : c ≤ m) (he : (i = 3 * m) ∨ b ≠ 0) : rdC v (lnm la) n ce lane z m = c ∧ rdB v (lnm la) n ce lane z m = false ∧ b = if rdC v (lnm la) n ce lane z m < m then rdF (lnm la) n lane (rdAt z (rdC v (lnm la) n ce lane z m)) else 0 := by
  refine rdI_e h.1 hc ?_
  by_cases hb : b = 0
  · have := h.2 hb
    exact Or.inl (by omega)
  · exact Or.inr hb
theorem rdJ_T {v : Nat → Nat → Nat} {la : Int32} {n : Nat} {ce : Nat → Int32} {lane z : Int32} {m i c b : Nat} (h : rdJ v la n ce lane z m i c b) (hv : v 8 3 ≤ 6) : v 8 3 + c ≤ 6 := by
  have h1 := h.1.1
  by_cases e : c = 0
  · omega
  · have h2 := h1 (c - 1) (by omega)
    unfold rdOk at h2
    rw [Bool.and_eq_true, decide_eq_true_eq] at h2
    omega
theorem u3_id (M : Nat → Nat → Nat) (f : Nat) : u3 M f (M f) = M := by
  funext g
  unfold u3
  split
  · subst_vars; rfl
  · rfl
theorem u32_id (M : Nat → Nat → Nat) (r : Nat → Nat) : u2 (u3 M 0 r) 20 12 (M 20 12) = u3 M 0 r := u2_id (u3 M 0 r) 20 12
