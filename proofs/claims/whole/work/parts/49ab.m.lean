/-! the relation's parts are kept where they are not written -/
theorem pg_same {M N : Nat → Nat → Nat} {p : Nat} (hW : VW (pgv M p)) (h20 : N 20 0 = M 20 0) (h : ∀ j, p ≤ j → j < p + 63 → N 0 j = M 0 j) : VEq (pgv M p) (pgv N p) :=
  (pgq (M := N) (N := M) (p := p) (q := p) h20 hW.1 hW.2.1 hW.2.2.2.1 (fun j hj => h (p + j) (by omega) (by omega))).sy
theorem RelG.keep {G Mt N : Nat → Nat → Nat} (h : RelG G Mt) (h20 : N 20 0 = Mt 20 0) (h0 : ∀ j, j < 63 → N 0 j = Mt 0 j) : RelG G N :=
  ⟨h.1, h.2.tr (pg_same (VW.eq h.2 h.1.vw) h20 (fun j _ hj => h0 j (by omega)))⟩
theorem RelI.keep {kb : Nat} {I0 J0 Mt N : Nat → Nat → Nat} (h : RelI kb I0 J0 Mt) (h20 : N 20 0 = Mt 20 0) (h10 : N 10 = Mt 10) (h0 : ∀ j, 63 ≤ j → j < 189 → N 0 j = Mt 0 j) : RelI kb I0 J0 N := by
  obtain ⟨a1, a2, a3, a4, a5⟩ := h
  refine ⟨a1, by rw [h10]; exact a2, by rw [h10]; exact a3, fun q => ?_, fun q => ?_⟩
  · have b := a4 q
    exact ⟨b.1, b.2.tr (pg_same (VW.eq b.2 b.1.vw) h20 (fun j h1 h2 => h0 j h1 (by omega)))⟩
  · have b := a5 q
    exact ⟨b.1, b.2.tr (pg_same (VW.eq b.2 b.1.vw) h20 (fun j h1 h2 => h0 j (by omega) (by omega)))⟩
theorem Rel.keep {G I0 J0 K : Nat → Nat → Nat} {n : Nat} {t : Nat → Nat} {sn : Nat} {pl lo : Nat → Nat} {kb rf : Nat} {kn : Nat → Nat} {kl : Nat → Int32} {kc : Nat → Nat → Int32} {Mt N : Nat → Nat → Nat} {la ce : Nat → Int32} (hR : Rel G I0 J0 kb n t sn pl lo K rf kn kl kc Mt la ce) (h0 : ∀ j, j < 189 → N 0 j = Mt 0 j) (h2 : N 2 = Mt 2) (h8 : N 8 = Mt 8) (h10 : N 10 = Mt 10) (h12 : N 12 = Mt 12) (h20 : N 20 = Mt 20) : Rel G I0 J0 kb n t sn pl lo K rf kn kl kc N la ce := by
  obtain ⟨g, i, tt, s, f, c⟩ := hR
  refine ⟨g.keep (by rw [h20]) (fun j hj => h0 j (by omega)), i.keep (by rw [h20]) h10 (fun j _ hj => h0 j hj), ?_, ?_, ?_, ?_⟩
  · unfold RelT; rw [h20, h2]; exact tt
  · unfold RelS; rw [h20, h8]; exact s
  · unfold RelF; rw [h20]; exact f
  · unfold RelC; rw [h12]; exact c
/-- the first page alone is written -/
theorem Rel.page {G I0 J0 K : Nat → Nat → Nat} {n : Nat} {t : Nat → Nat} {sn : Nat} {pl lo : Nat → Nat} {kb rf : Nat} {kn : Nat → Nat} {kl : Nat → Int32} {kc : Nat → Nat → Int32} {Mt N : Nat → Nat → Nat} {la ce : Nat → Int32} {G1 : Nat → Nat → Nat} (hR : Rel G I0 J0 kb n t sn pl lo K rf kn kl kc Mt la ce) (hg : RelG G1 N) (e80 : G1 8 0 = G 8 0) (h0 : ∀ j, 63 ≤ j → j < 189 → N 0 j = Mt 0 j) (h2 : N 2 = Mt 2) (h8 : N 8 = Mt 8) (h10 : N 10 = Mt 10) (h12 : N 12 = Mt 12) (h20 : N 20 = Mt 20) : Rel G1 I0 J0 kb n t sn pl lo K rf kn kl kc N la ce := by
  obtain ⟨g, i, tt, s, f, c⟩ := hR
  refine ⟨hg, i.keep (by rw [h20]) h10 h0, ?_, ?_, ?_, ?_⟩
  · unfold RelT; rw [h20, h2]; exact tt
  · unfold RelS; rw [h20, h8, e80]; exact s
  · unfold RelF; rw [h20]; exact f
  · unfold RelC; rw [h12]; exact c
theorem pgu_0 {M : Nat → Nat → Nat} {i x : Nat} (hW : VW (pgv M 0)) (hi : i < 6) : VEq (pgv (u2 M 0 (0 + i) x) 0) (u2 (pgv M 0) 0 i x) := by
  have h0 : M 20 0 ≤ 6 := hW.1
  have h1 : M 0 42 ≤ 9 := hW.2.1
  have h3 : M 0 62 ≤ 6 := hW.2.2.2.1
  have hn : ∀ j, j ≠ 0 + i → u2 M 0 (0 + i) x 0 j = M 0 j := fun j hj => u1_n _ _ hj
  refine ⟨rfl, hn 42 (by omega), hn 43 (by omega), hn 62 (by omega), fun q hq => ?_, fun q hq => ?_, fun q hq => ?_⟩
  · have hq : q < M 20 0 := hq
    show u1 (M 0) (0 + i) x (0 + q) = u1 (pgv M 0 0) i x q
    by_cases e : q = i
    · subst e; rw [u1_s, u1_s]
    · rw [u1_n _ _ e, u1_n _ _ (show 0 + q ≠ 0 + i by omega)]; rfl
  · have hq : q < M 0 42 := by have e : u2 M 0 (0 + i) x 0 (0 + 42) = M 0 42 := hn 42 (by omega); exact e ▸ hq
    refine ⟨hn (0 + 6 + q) (by omega), hn (0 + 15 + q) (by omega), hn (0 + 24 + q) (by omega), hn (0 + 33 + q) (by omega)⟩
  · have hq : q < M 0 62 := by have e : u2 M 0 (0 + i) x 0 (0 + 62) = M 0 62 := hn 62 (by omega); exact e ▸ hq
    refine ⟨hn (0 + 44 + q) (by omega), hn (0 + 50 + q) (by omega), hn (0 + 56 + q) (by omega)⟩
theorem pgu_3 {M : Nat → Nat → Nat} {i x : Nat} (hW : VW (pgv M 0)) (hi : i < 9) : VEq (pgv (u2 M 0 (24 + i) x) 0) (u2 (pgv M 0) 3 i x) := by
  have h0 : M 20 0 ≤ 6 := hW.1
  have h1 : M 0 42 ≤ 9 := hW.2.1
  have h3 : M 0 62 ≤ 6 := hW.2.2.2.1
  have hn : ∀ j, j ≠ 24 + i → u2 M 0 (24 + i) x 0 j = M 0 j := fun j hj => u1_n _ _ hj
  refine ⟨rfl, hn 42 (by omega), hn 43 (by omega), hn 62 (by omega), fun q hq => ?_, fun q hq => ?_, fun q hq => ?_⟩
  · have hq : q < M 20 0 := hq
    exact hn (0 + q) (by omega)
  · have hq : q < M 0 42 := by have e : u2 M 0 (24 + i) x 0 (0 + 42) = M 0 42 := hn 42 (by omega); exact e ▸ hq
    refine ⟨hn (0 + 6 + q) (by omega), hn (0 + 15 + q) (by omega), ?_, hn (0 + 33 + q) (by omega)⟩
    show u1 (M 0) (24 + i) x (0 + 24 + q) = u1 (pgv M 0 3) i x q
    by_cases e : q = i
    · subst e; rw [u1_s, u1_s]
    · rw [u1_n _ _ e, u1_n _ _ (show 0 + 24 + q ≠ 24 + i by omega)]; rfl
  · have hq : q < M 0 62 := by have e : u2 M 0 (24 + i) x 0 (0 + 62) = M 0 62 := hn 62 (by omega); exact e ▸ hq
    refine ⟨hn (0 + 44 + q) (by omega), hn (0 + 50 + q) (by omega), hn (0 + 56 + q) (by omega)⟩
theorem pgu_4 {M : Nat → Nat → Nat} {i x : Nat} (hW : VW (pgv M 0)) (hi : i < 9) : VEq (pgv (u2 M 0 (33 + i) x) 0) (u2 (pgv M 0) 4 i x) := by
  have h0 : M 20 0 ≤ 6 := hW.1
  have h1 : M 0 42 ≤ 9 := hW.2.1
  have h3 : M 0 62 ≤ 6 := hW.2.2.2.1
  have hn : ∀ j, j ≠ 33 + i → u2 M 0 (33 + i) x 0 j = M 0 j := fun j hj => u1_n _ _ hj
  refine ⟨rfl, hn 42 (by omega), hn 43 (by omega), hn 62 (by omega), fun q hq => ?_, fun q hq => ?_, fun q hq => ?_⟩
  · have hq : q < M 20 0 := hq
    exact hn (0 + q) (by omega)
  · have hq : q < M 0 42 := by have e : u2 M 0 (33 + i) x 0 (0 + 42) = M 0 42 := hn 42 (by omega); exact e ▸ hq
    refine ⟨hn (0 + 6 + q) (by omega), hn (0 + 15 + q) (by omega), hn (0 + 24 + q) (by omega), ?_⟩
    show u1 (M 0) (33 + i) x (0 + 33 + q) = u1 (pgv M 0 4) i x q
    by_cases e : q = i
    · subst e; rw [u1_s, u1_s]
    · rw [u1_n _ _ e, u1_n _ _ (show 0 + 33 + q ≠ 33 + i by omega)]; rfl
  · have hq : q < M 0 62 := by have e : u2 M 0 (33 + i) x 0 (0 + 62) = M 0 62 := hn 62 (by omega); exact e ▸ hq
    refine ⟨hn (0 + 44 + q) (by omega), hn (0 + 50 + q) (by omega), hn (0 + 56 + q) (by omega)⟩
theorem pgu_5 {M : Nat → Nat → Nat} {i x : Nat} (hW : VW (pgv M 0)) (hi : i < 6) : VEq (pgv (u2 M 0 (44 + i) x) 0) (u2 (pgv M 0) 5 i x) := by
  have h0 : M 20 0 ≤ 6 := hW.1
  have h1 : M 0 42 ≤ 9 := hW.2.1
  have h3 : M 0 62 ≤ 6 := hW.2.2.2.1
  have hn : ∀ j, j ≠ 44 + i → u2 M 0 (44 + i) x 0 j = M 0 j := fun j hj => u1_n _ _ hj
  refine ⟨rfl, hn 42 (by omega), hn 43 (by omega), hn 62 (by omega), fun q hq => ?_, fun q hq => ?_, fun q hq => ?_⟩
  · have hq : q < M 20 0 := hq
    exact hn (0 + q) (by omega)
  · have hq : q < M 0 42 := by have e : u2 M 0 (44 + i) x 0 (0 + 42) = M 0 42 := hn 42 (by omega); exact e ▸ hq
    refine ⟨hn (0 + 6 + q) (by omega), hn (0 + 15 + q) (by omega), hn (0 + 24 + q) (by omega), hn (0 + 33 + q) (by omega)⟩
  · have hq : q < M 0 62 := by have e : u2 M 0 (44 + i) x 0 (0 + 62) = M 0 62 := hn 62 (by omega); exact e ▸ hq
    refine ⟨?_, hn (0 + 50 + q) (by omega), hn (0 + 56 + q) (by omega)⟩
    show u1 (M 0) (44 + i) x (0 + 44 + q) = u1 (pgv M 0 5) i x q
    by_cases e : q = i
    · subst e; rw [u1_s, u1_s]
    · rw [u1_n _ _ e, u1_n _ _ (show 0 + 44 + q ≠ 44 + i by omega)]; rfl
theorem pgu_6 {M : Nat → Nat → Nat} {i x : Nat} (hW : VW (pgv M 0)) (hi : i < 6) : VEq (pgv (u2 M 0 (50 + i) x) 0) (u2 (pgv M 0) 6 i x) := by
  have h0 : M 20 0 ≤ 6 := hW.1
  have h1 : M 0 42 ≤ 9 := hW.2.1
  have h3 : M 0 62 ≤ 6 := hW.2.2.2.1
  have hn : ∀ j, j ≠ 50 + i → u2 M 0 (50 + i) x 0 j = M 0 j := fun j hj => u1_n _ _ hj
  refine ⟨rfl, hn 42 (by omega), hn 43 (by omega), hn 62 (by omega), fun q hq => ?_, fun q hq => ?_, fun q hq => ?_⟩
  · have hq : q < M 20 0 := hq
    exact hn (0 + q) (by omega)
  · have hq : q < M 0 42 := by have e : u2 M 0 (50 + i) x 0 (0 + 42) = M 0 42 := hn 42 (by omega); exact e ▸ hq
    refine ⟨hn (0 + 6 + q) (by omega), hn (0 + 15 + q) (by omega), hn (0 + 24 + q) (by omega), hn (0 + 33 + q) (by omega)⟩
  · have hq : q < M 0 62 := by have e : u2 M 0 (50 + i) x 0 (0 + 62) = M 0 62 := hn 62 (by omega); exact e ▸ hq
    refine ⟨hn (0 + 44 + q) (by omega), ?_, hn (0 + 56 + q) (by omega)⟩
    show u1 (M 0) (50 + i) x (0 + 50 + q) = u1 (pgv M 0 6) i x q
    by_cases e : q = i
    · subst e; rw [u1_s, u1_s]
    · rw [u1_n _ _ e, u1_n _ _ (show 0 + 50 + q ≠ 50 + i by omega)]; rfl
theorem pgu_7 {M : Nat → Nat → Nat} {i x : Nat} (hW : VW (pgv M 0)) (hi : i < 6) : VEq (pgv (u2 M 0 (56 + i) x) 0) (u2 (pgv M 0) 7 i x) := by
  have h0 : M 20 0 ≤ 6 := hW.1
  have h1 : M 0 42 ≤ 9 := hW.2.1
  have h3 : M 0 62 ≤ 6 := hW.2.2.2.1
  have hn : ∀ j, j ≠ 56 + i → u2 M 0 (56 + i) x 0 j = M 0 j := fun j hj => u1_n _ _ hj
  refine ⟨rfl, hn 42 (by omega), hn 43 (by omega), hn 62 (by omega), fun q hq => ?_, fun q hq => ?_, fun q hq => ?_⟩
  · have hq : q < M 20 0 := hq
    exact hn (0 + q) (by omega)
  · have hq : q < M 0 42 := by have e : u2 M 0 (56 + i) x 0 (0 + 42) = M 0 42 := hn 42 (by omega); exact e ▸ hq
    refine ⟨hn (0 + 6 + q) (by omega), hn (0 + 15 + q) (by omega), hn (0 + 24 + q) (by omega), hn (0 + 33 + q) (by omega)⟩
  · have hq : q < M 0 62 := by have e : u2 M 0 (56 + i) x 0 (0 + 62) = M 0 62 := hn 62 (by omega); exact e ▸ hq
    refine ⟨hn (0 + 44 + q) (by omega), hn (0 + 50 + q) (by omega), ?_⟩
    show u1 (M 0) (56 + i) x (0 + 56 + q) = u1 (pgv M 0 7) i x q
    by_cases e : q = i
    · subst e; rw [u1_s, u1_s]
    · rw [u1_n _ _ e, u1_n _ _ (show 0 + 56 + q ≠ 56 + i by omega)]; rfl
theorem pgu_w {M : Nat → Nat → Nat} {i x : Nat} (hW : VW (pgv M 0)) (hi : i < 1) : VEq (pgv (u2 M 0 (43) x) 0) (u2 (pgv M 0) 8 2 x) := by
  have h0 : M 20 0 ≤ 6 := hW.1
  have h1 : M 0 42 ≤ 9 := hW.2.1
  have h3 : M 0 62 ≤ 6 := hW.2.2.2.1
  have hn : ∀ j, j ≠ 43 → u2 M 0 (43) x 0 j = M 0 j := fun j hj => u1_n _ _ hj
  refine ⟨rfl, hn 42 (by omega), (by show u1 (M 0) 43 x 43 = u1 (pgv M 0 8) 2 x 2; rw [u1_s, u1_s]), hn 62 (by omega), fun q hq => ?_, fun q hq => ?_, fun q hq => ?_⟩
  · have hq : q < M 20 0 := hq
    exact hn (0 + q) (by omega)
  · have hq : q < M 0 42 := by have e : u2 M 0 (43) x 0 (0 + 42) = M 0 42 := hn 42 (by omega); exact e ▸ hq
    refine ⟨hn (0 + 6 + q) (by omega), hn (0 + 15 + q) (by omega), hn (0 + 24 + q) (by omega), hn (0 + 33 + q) (by omega)⟩
  · have hq : q < M 0 62 := by have e : u2 M 0 (43) x 0 (0 + 62) = M 0 62 := hn 62 (by omega); exact e ▸ hq
    refine ⟨hn (0 + 44 + q) (by omega), hn (0 + 50 + q) (by omega), hn (0 + 56 + q) (by omega)⟩
theorem GW.lenu {G : Nat → Nat → Nat} {k x : Nat} (hw : GW G) (h : 1 ≤ x ∧ x ≤ 9) : GW (u2 G 3 k x) := by
  obtain ⟨h1, h2, h3, h4, h5, h6, h7, h8⟩ := hw
  refine ⟨h1, h2, h3, h4, h5, h6, fun i hi => ⟨(h7 i hi).1, (h7 i hi).2.1, (h7 i hi).2.2.1, ?_⟩, h8⟩
  show 1 ≤ u1 (G 3) k x i ∧ u1 (G 3) k x i ≤ 9
  unfold u1; split
  · exact h
  · exact (h7 i hi).2.2.2
theorem GW.placeu {G : Nat → Nat → Nat} {k x : Nat} (hw : GW G) (h : x < G 8 0) : GW (u2 G 6 k x) := by
  obtain ⟨h1, h2, h3, h4, h5, h6, h7, h8⟩ := hw
  refine ⟨h1, h2, h3, h4, h5, h6, h7, fun j hj => ⟨(h8 j hj).1, ?_, (h8 j hj).2.2⟩⟩
  show u1 (G 6) k x j < G 8 0
  unfold u1; split
  · exact h
  · exact (h8 j hj).2.1
theorem GW.breathu {G : Nat → Nat → Nat} {k x : Nat} (hw : GW G) (h : 1 ≤ x ∧ x ≤ 60) : GW (u2 G 7 k x) := by
  obtain ⟨h1, h2, h3, h4, h5, h6, h7, h8⟩ := hw
  refine ⟨h1, h2, h3, h4, h5, h6, h7, fun j hj => ⟨(h8 j hj).1, (h8 j hj).2.1, ?_⟩⟩
  show 1 ≤ u1 (G 7) k x j ∧ u1 (G 7) k x j ≤ 60
  unfold u1; split
  · exact h
  · exact (h8 j hj).2.2
theorem GW.dropu {G : Nat → Nat → Nat} {x : Nat} (hw : GW G) (h : x ≤ G 8 3) : GW (u2 G 8 3 x) := by
  obtain ⟨h1, h2, h3, h4, h5, h6, h7, h8⟩ := hw
  exact ⟨h1, h2, h3, Nat.le_trans h h4, h5, h6, h7, fun j hj => h8 j (Nat.lt_of_lt_of_le hj h)⟩
theorem g_up {G M : Nat → Nat → Nat} {f i x k : Nat} (h : RelG G M) (hf : f ≠ 4) (hf8 : f ≠ 8 ∨ i = 2) (hG : GW (u2 G f i x)) (hp : VEq (pgv (u2 M 0 k x) 0) (u2 (pgv M 0) f i x)) : RelG (u2 G f i x) (u2 M 0 k x) := by
  refine ⟨hG, ?_⟩
  rw [cgv_u2 hf]
  exact (vu2_eq h.2 hf8).tr hp.sy
theorem rg_graft {G M : Nat → Nat → Nat} (h : RelG G M) (x y : Int32) : RelG (graftG G x y) (graftM M x y) := by
  have hW := VW.eq h.2 h.1.vw
  have e : G 8 0 = M 20 0 := h.2.1
  unfold graftG graftM
  rw [e]
  split
  · next c =>
    simp only [Bool.and_eq_true] at c
    have h1 := ix_tn c.1
    have h6 := hW.1
    have h6 : M 20 0 ≤ 6 := h6
    have hp := pgu_0 (i := tn x) (x := tn y) hW (by omega)
    rw [Nat.zero_add] at hp
    exact g_up h (by decide) (Or.inl (by decide)) (h.1.kindu (rg_tn c.2).2) hp
  · exact h
theorem rg_stretch {G M : Nat → Nat → Nat} (h : RelG G M) (x y : Int32) : RelG (stretchG G x y) (stretchM M x y) := by
  have hW := VW.eq h.2 h.1.vw
  have e : G 8 1 = M 0 42 := h.2.2.1
  unfold stretchG stretchM
  rw [e]
  split
  · next c =>
    simp only [Bool.and_eq_true] at c
    have h1 := ix_tn c.1
    have h6 : M 0 42 ≤ 9 := hW.2.1
    exact g_up h (by decide) (Or.inl (by decide)) (h.1.lenu (rg_tn c.2)) (pgu_3 (i := tn x) (x := tn y) hW (by omega))
  · exact h
theorem rg_wind {G M : Nat → Nat → Nat} (h : RelG G M) (x : Int32) : RelG (windG G x) (windM M x) := by
  have hW := VW.eq h.2 h.1.vw
  unfold windG windM
  split
  · next c => exact g_up h (by decide) (Or.inr rfl) (h.1.windu (rg_tn c).2) (pgu_w (i := 0) hW (by decide))
  · exact h
theorem rg_shift {G M : Nat → Nat → Nat} (h : RelG G M) (x y z : Int32) : RelG (shiftG G x y z) (shiftM M x y z) := by
  have hW := VW.eq h.2 h.1.vw
  have e : G 8 3 = M 0 62 := h.2.2.2.2.1
  have e0 : G 8 0 = M 20 0 := h.2.1
  have h6 : M 0 62 ≤ 6 := hW.2.2.2.1
  unfold shiftG shiftM
  rw [e, e0]
  split
  · next c =>
    have h1 := ix_tn c
    split
    · split
      · next d => exact g_up h (by decide) (Or.inl (by decide)) (h.1.houru (rg_tn d).2) (pgu_5 hW (by omega))
      · exact h
    · split
      · split
        · next d => exact g_up h (by decide) (Or.inl (by decide)) (h.1.placeu (by rw [e0]; exact ix_tn d)) (pgu_6 hW (by omega))
        · exact h
      · split
        · split
          · next d => exact g_up h (by decide) (Or.inl (by decide)) (h.1.breathu (rg_tn d)) (pgu_7 hW (by omega))
          · exact h
        · exact h
  · exact h
theorem rg_drop {G M : Nat → Nat → Nat} (h : RelG G M) (x : Int32) : RelG (dropG G x) (dropM M x) := by
  have hW := VW.eq h.2 h.1.vw
  have e : G 8 3 = M 0 62 := h.2.2.2.2.1
  have h6 : M 0 62 ≤ 6 := hW.2.2.2.1
  have h9 : M 0 42 ≤ 9 := hW.2.1
  have h0 : M 20 0 ≤ 6 := hW.1
  unfold dropG dropM
  rw [e]
  split
  · next c =>
    have h1 := (rg_tn c).2
    refine ⟨h.1.dropu (by rw [e]; exact h1), ?_⟩
    rw [cgv_u2 (by decide)]
    have hn : ∀ j, j ≠ 62 → u2 M 0 62 (tn x) 0 j = M 0 j := fun j hj => u1_n _ _ hj
    obtain ⟨b0, b1, b2, b3, b4, b5, b6⟩ := h.2
    refine ⟨b0, b1.trans (hn 42 (by omega)).symm, b2.trans (hn 43 (by omega)).symm, rfl, fun q hq => (b4 q hq).trans (hn (0 + q) ?_).symm, fun q hq => ?_, fun q hq => ?_⟩
    · have hq : q < G 8 0 := hq
      have : G 8 0 = M 20 0 := b0
      omega
    · have b := b5 q hq
      have hq : q < G 8 1 := hq
      have : G 8 1 = M 0 42 := b1
      exact ⟨b.1.trans (hn _ (by omega)).symm, b.2.1.trans (hn _ (by omega)).symm, b.2.2.1.trans (hn _ (by omega)).symm, b.2.2.2.trans (hn _ (by omega)).symm⟩
    · have hq : q < tn x := hq
      have b := b6 q (by show q < G 8 3; omega)
      exact ⟨b.1.trans (hn _ (by omega)).symm, b.2.1.trans (hn _ (by omega)).symm, b.2.2.trans (hn _ (by omega)).symm⟩
  · exact h
theorem bit_or {c i r : Nat} (hc : c < 2 ^ r) (hi : i < r) : c ||| 2 ^ i < 2 ^ r := Nat.or_lt_two_pow hc (Nat.pow_lt_pow_right (by decide) hi)
theorem bit_mend : ∀ i, i < 9 → ∀ j, j < 9 → (511 - 2 ^ i).testBit j = decide (j ≠ i) := by decide +kernel
theorem rg_cut {G M : Nat → Nat → Nat} (h : RelG G M) (x : Int32) (b : Bool) : RelG (cutG G x b) (cutM M x b) := by
  have hW := VW.eq h.2 h.1.vw
  have e : G 8 1 = M 0 42 := h.2.2.1
  have h9 : M 0 42 ≤ 9 := hW.2.1
  unfold cutG cutM
  rw [e]
  split
  · next c =>
    have h1 := ix_tn c
    have hc := h.1.2.2.2.2.1
    refine ⟨h.1.cutu ?_, ?_⟩
    · cases b with
      | true => rw [if_pos rfl]; exact bit_or hc (by omega)
      | false => rw [if_neg (by decide)]; exact Nat.lt_of_le_of_lt Nat.and_le_left hc
    · refine VEq.tr ?_ (pgu_4 (i := tn x) (x := rb b) hW (by omega)).sy
      refine VEq.tr ?_ (vu2_eq h.2 (Or.inl (by decide)))
      refine ⟨rfl, rfl, rfl, rfl, fun _ _ => rfl, fun q hq => ⟨rfl, rfl, rfl, ?_⟩, fun _ _ => ⟨rfl, rfl, rfl⟩⟩
      have hq : q < G 8 1 := hq
      show (if ((if b = true then G 4 0 ||| 2 ^ tn x else G 4 0 &&& (511 - 2 ^ tn x))).testBit q then 1 else 0) = u1 (cgv G 4) (tn x) (rb b) q
      by_cases e9 : q = tn x
      · rw [e9, u1_s]
        cases b with
        | true => rw [if_pos rfl, Nat.testBit_or, Nat.testBit_two_pow_self, Bool.or_true]; rfl
        | false => rw [if_neg (show ¬ false = true from Bool.false_ne_true), Nat.testBit_and, bit_mend _ (by omega) _ (by omega), decide_eq_false (fun q => q rfl), Bool.and_false]; rfl
      · rw [u1_n _ _ e9]
        show _ = (if (G 4 0).testBit q then 1 else 0)
        cases b with
        | true => rw [if_pos rfl, Nat.testBit_or, Nat.testBit_two_pow_of_ne (Ne.symm e9), Bool.or_false]
        | false => rw [if_neg (show ¬ false = true from Bool.false_ne_true), Nat.testBit_and, bit_mend _ (by omega) _ (by omega), decide_eq_true e9, Bool.and_true]
  · exact h
theorem pg_grow0 {M : Nat → Nat → Nat} {a b L : Nat} (hW : VW (pgv M 0)) (h9 : M 0 42 < 9) : VEq (growv (pgv M 0) a b L) (pgv (growP M 0 a b L) 0) := by
  have h0 : M 20 0 ≤ 6 := hW.1
  have h3 : M 0 62 ≤ 6 := hW.2.2.2.1
  have hr : ∀ j, growP M 0 a b L 0 j = if j = 42 then M 0 42 + 1 else if j = 33 + M 0 42 then 0 else if j = 24 + M 0 42 then L else if j = 15 + M 0 42 then b else if j = 6 + M 0 42 then a else M 0 j := by
    intro j
    show u1 (u1 (u1 (u1 (u1 (M 0) (0 + 6 + M 0 (0 + 42)) a) (0 + 15 + M 0 (0 + 42)) b) (0 + 24 + M 0 (0 + 42)) L) (0 + 33 + M 0 (0 + 42)) 0) (0 + 42) (M 0 (0 + 42) + 1) j = _
    unfold u1
    simp only [Nat.zero_add]
  have hn : ∀ j, j ≠ 42 → j ≠ 33 + M 0 42 → j ≠ 24 + M 0 42 → j ≠ 15 + M 0 42 → j ≠ 6 + M 0 42 → growP M 0 a b L 0 j = M 0 j := fun j h1 h2 h3 h4 h5 => by rw [hr, if_neg h1, if_neg h2, if_neg h3, if_neg h4, if_neg h5]
  refine ⟨rfl, ?_, (hn 43 (by omega) (by omega) (by omega) (by omega) (by omega)).symm, (hn 62 (by omega) (by omega) (by omega) (by omega) (by omega)).symm, fun q hq => ?_, fun q hq => ?_, fun q hq => ?_⟩
  · show M 0 42 + 1 = growP M 0 a b L 0 42
    rw [hr, if_pos rfl]
  · have hq : q < M 20 0 := hq
    exact (hn (0 + q) (by omega) (by omega) (by omega) (by omega) (by omega)).symm
  · have hq : q < M 0 42 + 1 := hq
    show u1 (pgv M 0 1) (M 0 42) a q = growP M 0 a b L 0 (6 + q) ∧ u1 (pgv M 0 2) (M 0 42) b q = growP M 0 a b L 0 (15 + q) ∧ u1 (pgv M 0 3) (M 0 42) L q = growP M 0 a b L 0 (24 + q) ∧ u1 (pgv M 0 4) (M 0 42) 0 q = growP M 0 a b L 0 (33 + q)
    by_cases e : q = M 0 42
    · rw [e, u1_s, u1_s, u1_s, u1_s, hr, hr, hr, hr]
      refine ⟨?_, ?_, ?_, ?_⟩
      · rw [if_neg (by omega), if_neg (by omega), if_neg (by omega), if_neg (by omega), if_pos rfl]
      · rw [if_neg (by omega), if_neg (by omega), if_neg (by omega), if_pos rfl]
      · rw [if_neg (by omega), if_neg (by omega), if_pos rfl]
      · rw [if_neg (by omega), if_pos rfl]
    · rw [u1_n _ _ e, u1_n _ _ e, u1_n _ _ e, u1_n _ _ e]
      exact ⟨(hn _ (by omega) (by omega) (by omega) (by omega) (by omega)).symm, (hn _ (by omega) (by omega) (by omega) (by omega) (by omega)).symm, (hn _ (by omega) (by omega) (by omega) (by omega) (by omega)).symm, (hn _ (by omega) (by omega) (by omega) (by omega) (by omega)).symm⟩
  · have hq : q < M 0 62 := hq
    exact ⟨(hn _ (by omega) (by omega) (by omega) (by omega) (by omega)).symm, (hn _ (by omega) (by omega) (by omega) (by omega) (by omega)).symm, (hn _ (by omega) (by omega) (by omega) (by omega) (by omega)).symm⟩
theorem rg_grow {G M : Nat → Nat → Nat} (h : RelG G M) (x y z : Int32) : RelG (growG G x y z) (growM M x y z) := by
  have hW := VW.eq h.2 h.1.vw
  have e : G 8 1 = M 0 42 := h.2.2.1
  have e0 : G 8 0 = M 20 0 := h.2.1
  unfold growG growM
  rw [e, e0]
  split
  · next c =>
    simp only [Bool.and_eq_true, decide_eq_true_eq] at c
    obtain ⟨⟨⟨⟨c1, c2⟩, c3⟩, c4⟩, c5⟩ := c
    refine ⟨h.1.grow (by rw [e]; exact c5) (by rw [e0]; exact ix_tn c1) (by rw [e0]; exact ix_tn c2) c3 (rg_tn c4), ?_⟩
    rw [show cgv (addR G (tn x) (tn y) (tn z)) = growv (cgv G) (tn x) (tn y) (tn z) from cgv_grow h.1 _ _ _]
    exact (growv_eq h.2 _ _ _).tr (pg_grow0 hW c5)
  · exact h
theorem cgv_talk (G : Nat → Nat → Nat) (a b L : Nat) : cgv (addT G a b L) = addv (cgv G) a b L := by
  unfold addT addv
  rw [cgv_u2 (by decide), cgv_u2 (by decide), cgv_u2 (by decide), cgv_u2 (by decide)]
  rfl
theorem rg_add {G M : Nat → Nat → Nat} (h : RelG G M) {a b L : Nat} (h6 : G 8 3 < 6) (ha : a ≤ 23) (hb : b < G 8 0) (hL : 1 ≤ L ∧ L ≤ 60) : RelG (addT G a b L) (addM M a b L) := by
  have hW := VW.eq h.2 h.1.vw
  refine ⟨h.1.talk h6 ha hb hL, ?_⟩
  rw [cgv_talk, addM_0]
  have := pg_add (M := M) (r := M 0) (w := cgv G) (a := a) (b := b) (c := L) h6 h.1.2.1 h.1.1 (by rw [u3_id]; exact h.2.sy)
  rw [u3_id] at this
  exact this.sy
theorem rg_book {G M : Nat → Nat → Nat} (h : RelG G M) (x y z : Int32) : RelG (bookG G x y z) (bookM M x y z) := by
  have e : G 8 3 = M 0 62 := h.2.2.2.2.1
  have e0 : G 8 0 = M 20 0 := h.2.1
  have h6 := h.1.2.2.2.1
  unfold bookG bookM
  rw [← e, ← e0, show decide (G 8 3 < 6) = decide (G 8 3 ≠ 6) from decide_eq_decide.mpr ⟨fun q => by omega, fun q => by omega⟩]
  split
  · next c =>
    simp only [Bool.and_eq_true, decide_eq_true_eq] at c
    obtain ⟨⟨⟨c1, c2⟩, c3⟩, c4⟩ := c
    exact rg_add h (by omega) (rg_tn c1).2 (ix_tn c2) (rg_tn c3)
  · exact h
