/-! the reference's pages: what is tried lies behind 252 -/
def RK (r0 r : Nat → Nat) : Prop := ∀ j, j < 252 → r j = r0 j
theorem RK.rf (r : Nat → Nat) : RK r r := fun _ _ => rfl
theorem RK.u1 {r0 r : Nat → Nat} {i x : Nat} (h : RK r0 r) (hi : 252 ≤ i) : RK r0 (u1 r i x) := fun j hj => by rw [u1_n _ _ (by omega)]; exact h j hj
theorem RK.cp {r0 r : Nat → Nat} (h : RK r0 r) : RK r0 (pcopy r 0 252 63) := fun j hj => by rw [pcopy_out (by omega)]; exact h j hj
theorem RK.ct {r0 r : Nat → Nat} {sm : Nat} (h : RK r0 r) : RK r0 (cutRow r sm) := fun j hj => by unfold cutRow; rw [cutP_lo (by omega)]; exact h j hj
theorem u30 (M : Nat → Nat → Nat) (r : Nat → Nat) : u3 M 0 r 0 = r := rfl
theorem u3x (M : Nat → Nat → Nat) (r : Nat → Nat) {f : Nat} (h : f ≠ 0) : u3 M 0 r f = M f := if_neg h
theorem u33 (M : Nat → Nat → Nat) (f : Nat) (r s : Nat → Nat) : u3 (u3 M f r) f s = u3 M f s := by
  funext g; unfold u3; split <;> rfl
/-- pages of a row that agree -/
theorem pgq {M N : Nat → Nat → Nat} {p q : Nat} (h20 : M 20 0 = N 20 0) (hn : N 20 0 ≤ 6) (hr : N 0 (q + 42) ≤ 9) (ht : N 0 (q + 62) ≤ 6) (h : ∀ j, j < 63 → M 0 (p + j) = N 0 (q + j)) : VEq (pgv M p) (pgv N q) := by
  refine ⟨h20, h 42 (by omega), h 43 (by omega), h 62 (by omega), fun t hq => ?_, fun i hq => ?_, fun k hq => ?_⟩
  · have hq : t < M 20 0 := hq
    exact h t (by omega)
  · have hq : i < M 0 (p + 42) := hq
    rw [h 42 (by omega)] at hq
    refine ⟨?_, ?_, ?_, ?_⟩
    · show M 0 (p + 6 + i) = N 0 (q + 6 + i); rw [Nat.add_assoc, Nat.add_assoc]; exact h _ (by omega)
    · show M 0 (p + 15 + i) = N 0 (q + 15 + i); rw [Nat.add_assoc, Nat.add_assoc]; exact h _ (by omega)
    · show M 0 (p + 24 + i) = N 0 (q + 24 + i); rw [Nat.add_assoc, Nat.add_assoc]; exact h _ (by omega)
    · show M 0 (p + 33 + i) = N 0 (q + 33 + i); rw [Nat.add_assoc, Nat.add_assoc]; exact h _ (by omega)
  · have hq : k < M 0 (p + 62) := hq
    rw [h 62 (by omega)] at hq
    refine ⟨?_, ?_, ?_⟩
    · show M 0 (p + 44 + k) = N 0 (q + 44 + k); rw [Nat.add_assoc, Nat.add_assoc]; exact h _ (by omega)
    · show M 0 (p + 50 + k) = N 0 (q + 50 + k); rw [Nat.add_assoc, Nat.add_assoc]; exact h _ (by omega)
    · show M 0 (p + 56 + k) = N 0 (q + 56 + k); rw [Nat.add_assoc, Nat.add_assoc]; exact h _ (by omega)
theorem pg0 {M : Nat → Nat → Nat} {r : Nat → Nat} (hW : VW (pgv M 0)) (h : RK (M 0) r) : VEq (pgv (u3 M 0 r) 0) (pgv M 0) :=
  pgq (M := u3 M 0 r) (N := M) (p := 0) (q := 0) rfl hW.1 hW.2.1 hW.2.2.2.1 (fun j hj => h (0 + j) (by omega))
theorem pgW {M : Nat → Nat → Nat} {r : Nat → Nat} (hW : VW (pgv M 0)) (h : RK (M 0) r) : VW (pgv (u3 M 0 r) 0) := VW.eq (pg0 hW h).sy hW
/-- the page that is tried, as the first one is -/
theorem pgc {M : Nat → Nat → Nat} {r : Nat → Nat} (hW : VW (pgv M 0)) (h : RK (M 0) r) : VEq (pgv (u3 M 0 (pcopy r 0 252 63)) 252) (pgv M 0) :=
  pgq (M := u3 M 0 (pcopy r 0 252 63)) (N := M) (p := 252) (q := 0) rfl hW.1 hW.2.1 hW.2.2.2.1 (fun j hj => by
    show pcopy r 0 252 63 (252 + j) = M 0 (0 + j)
    rw [pcopy_in hj]; exact h (0 + j) (by omega))
theorem cutv_eq {v w : Nat → Nat → Nat} (h : VEq v w) (sm : Nat) : VEq (cutv v sm) (cutv w sm) := by
  obtain ⟨h0, h1, h2, h3, h4, h5, h6⟩ := h
  refine ⟨h0, h1, h2, h3, h4, fun i hi => ⟨(h5 i hi).1, (h5 i hi).2.1, (h5 i hi).2.2.1, ?_⟩, h6⟩
  show (if 4 = 4 then (if sm.testBit i then 1 else v 4 i) else v 4 i) = (if 4 = 4 then (if sm.testBit i then 1 else w 4 i) else w 4 i)
  rw [(h5 i hi).2.2.2]
theorem cutv_w {v : Nat → Nat → Nat} (h : VW v) (sm : Nat) : VW (cutv v sm) := by
  obtain ⟨h0, h1, h2, h3, h4, h5, h6⟩ := h
  refine ⟨h0, h1, h2, h3, h4, fun i hi => ⟨(h5 i hi).1, (h5 i hi).2.1, (h5 i hi).2.2.1, (h5 i hi).2.2.2.1, (h5 i hi).2.2.2.2.1, ?_⟩, h6⟩
  show (if 4 = 4 then (if sm.testBit i then 1 else v 4 i) else v 4 i) ≤ 1
  rw [if_pos rfl]
  split
  · omega
  · exact (h5 i hi).2.2.2.2.2
theorem cutsB_eq {v w : Nat → Nat → Nat} (h : VEq v w) (sm : Nat) : cutsB v sm = cutsB w sm := by
  unfold cutsB
  rw [← h.2.1]
  exact ball_congr fun i hi => by rw [(h.2.2.2.2.2.1 i hi).2.2.2]
theorem cutsRK {M : Nat → Nat → Nat} {r : Nat → Nat} (hW : VW (pgv M 0)) (h : RK (M 0) r) (sm : Nat) : cutsB (pgv (u3 M 0 r) 0) sm = cutsB (pgv M 0) sm := cutsB_eq (pg0 hW h) sm
/-- the page that is tried, some roots cut -/
theorem cutVE {M : Nat → Nat → Nat} {r : Nat → Nat} {sm : Nat} (hW : VW (pgv M 0)) (h : RK (M 0) r) : VEq (pgv (u3 M 0 (cutRow r sm)) 252) (cutv (pgv M 0) sm) := by
  have h42 : r 42 = M 0 42 := h 42 (by omega)
  have h9 : M 0 42 ≤ 9 := hW.2.1
  have h62 : M 0 62 ≤ 6 := hW.2.2.2.1
  have h6 : M 20 0 ≤ 6 := hW.1
  have lo : ∀ k, k < 63 → (k < 33 ∨ 42 ≤ k) → cutRow r sm (252 + k) = M 0 k := by
    intro k hk hk2
    unfold cutRow cutP
    rw [if_neg (by omega), pcopy_in hk, Nat.zero_add]
    exact h k (by omega)
  refine ⟨rfl, lo 42 (by omega) (by omega), lo 43 (by omega) (by omega), lo 62 (by omega) (by omega), fun t hq => ?_, fun i hq => ?_, fun k hq => ?_⟩
  · have hq : t < M 20 0 := hq
    show cutRow r sm (252 + t) = pgv M 0 0 t
    rw [pv0]; exact lo t (by omega) (by omega)
  · have hq : i < cutRow r sm (252 + 42) := hq
    rw [lo 42 (by omega) (by omega)] at hq
    refine ⟨?_, ?_, ?_, ?_⟩
    · have := lo (6 + i) (by omega) (by omega); rw [← Nat.add_assoc] at this; exact this
    · have := lo (15 + i) (by omega) (by omega); rw [← Nat.add_assoc] at this; exact this
    · have := lo (24 + i) (by omega) (by omega); rw [← Nat.add_assoc] at this; exact this
    · show cutP r sm (r 42) (285 + i) = if sm.testBit i then 1 else M 0 (33 + i)
      unfold cutP
      rw [Nat.add_sub_cancel_left]
      cases ht : sm.testBit i with
      | true => rw [if_pos ⟨by omega, by omega, rfl⟩]; rfl
      | false =>
        rw [if_neg (fun q => by have := q.2.2; cases this), show 285 + i = 252 + (33 + i) by omega, pcopy_in (by omega), Nat.zero_add]
        exact h _ (by omega)
  · have hq : k < cutRow r sm (252 + 62) := hq
    rw [lo 62 (by omega) (by omega)] at hq
    refine ⟨?_, ?_, ?_⟩
    · have := lo (44 + k) (by omega) (by omega); rw [← Nat.add_assoc] at this; exact this
    · have := lo (50 + k) (by omega) (by omega); rw [← Nat.add_assoc] at this; exact this
    · have := lo (56 + k) (by omega) (by omega); rw [← Nat.add_assoc] at this; exact this
theorem cutVW {M : Nat → Nat → Nat} {r : Nat → Nat} {sm : Nat} (hW : VW (pgv M 0)) (h : RK (M 0) r) : VW (pgv (u3 M 0 (cutRow r sm)) 252) := VW.eq (cutVE hW h).sy (cutv_w hW sm)
theorem hcl1 {M : Nat → Nat → Nat} {r : Nat → Nat} (hW : VW (pgv M 0)) (h : RK (M 0) r) : ∀ i, i < r 42 → r (33 + i) ≤ 1 := by
  intro i hi
  rw [h 42 (by omega)] at hi
  have h9 : M 0 42 ≤ 9 := hW.2.1
  rw [h (33 + i) (by omega)]
  exact (hW.2.2.2.2.2.1 i hi).2.2.2.2.2
/-- one number of a view changed -/
theorem vu2_eq {v w : Nat → Nat → Nat} {f i x : Nat} (h : VEq v w) (hf : f ≠ 8 ∨ i = 2) : VEq (u2 v f i x) (u2 w f i x) := by
  obtain ⟨h0, h1, h2, h3, h4, h5, h6⟩ := h
  have a : ∀ f', f' ≠ f → u2 v f i x f' = v f' := fun f' e => if_neg e
  have b : ∀ f', f' ≠ f → u2 w f i x f' = w f' := fun f' e => if_neg e
  have c : ∀ f' j, v f' j = w f' j → u2 v f i x f' j = u2 w f i x f' j := by
    intro f' j e
    unfold u2
    by_cases hh : f' = f
    · rw [if_pos hh, if_pos hh]; unfold u1; split
      · rfl
      · exact e
    · rw [if_neg hh, if_neg hh]; exact e
  have e8 : ∀ j, j ≠ 2 → u2 v f i x 8 j = v 8 j := by
    intro j hj
    unfold u2
    by_cases hh : 8 = f
    · rw [if_pos hh, u1_n]; rcases hf with q | q
      · exact absurd hh.symm q
      · omega
    · rw [if_neg hh]
  refine ⟨c 8 0 h0, c 8 1 h1, c 8 2 h2, c 8 3 h3, fun t ht => c 0 t (h4 t (by rw [e8 0 (by omega)] at ht; exact ht)), fun k hk => ?_, fun k hk => ?_⟩
  · have hk := h5 k (by rw [e8 1 (by omega)] at hk; exact hk)
    exact ⟨c 1 k hk.1, c 2 k hk.2.1, c 3 k hk.2.2.1, c 4 k hk.2.2.2⟩
  · have hk := h6 k (by rw [e8 3 (by omega)] at hk; exact hk)
    exact ⟨c 5 k hk.1, c 6 k hk.2.1, c 7 k hk.2.2⟩
theorem pg_hour {M : Nat → Nat → Nat} {r : Nat → Nat} {w : Nat → Nat → Nat} {k x y : Nat} (hw : VW w) (hk : k < 6) (h : VEq (pgv (u3 M 0 r) 252) (u2 w 5 k x)) : VEq (pgv (u3 M 0 (u1 r (296 + k) y)) 252) (u2 w 5 k y) := by
  have h2 : VEq (u2 (pgv (u3 M 0 r) 252) 5 k y) (u2 w 5 k y) := by
    have := vu2_eq (f := 5) (i := k) (x := y) h (Or.inl (by decide))
    rw [u2_u2] at this; exact this
  refine VEq.tr ?_ h2
  have hr : w 8 1 ≤ 9 := hw.2.1
  have h0 : w 8 0 ≤ 6 := hw.1
  have e0 : pgv (u3 M 0 r) 252 8 0 = w 8 0 := h.1
  have e1 : pgv (u3 M 0 r) 252 8 1 = w 8 1 := h.2.1
  have e3 : pgv (u3 M 0 r) 252 8 3 = w 8 3 := h.2.2.2.1
  have hn : ∀ j, j ≠ 296 + k → u1 r (296 + k) y j = r j := fun j hj => u1_n _ _ hj
  refine ⟨rfl, hn _ (by omega), hn _ (by omega), hn _ (by omega), fun t ht => hn _ (by have ht : t < pgv (u3 M 0 r) 252 8 0 := ht; omega), fun i hi => ?_, fun j hj => ?_⟩
  · have hi : i < u1 r (296 + k) y (252 + 42) := hi
    rw [hn _ (by omega)] at hi
    have hi : i < pgv (u3 M 0 r) 252 8 1 := hi
    exact ⟨hn _ (by omega), hn _ (by omega), hn _ (by omega), hn _ (by omega)⟩
  · have hj : j < u1 r (296 + k) y (252 + 62) := hj
    rw [hn _ (by omega)] at hj
    have hj : j < pgv (u3 M 0 r) 252 8 3 := hj
    have hw3 := hw.2.2.2.1
    refine ⟨?_, hn _ (by omega), hn _ (by omega)⟩
    show u1 r (296 + k) y (252 + 44 + j) = u1 (pgv (u3 M 0 r) 252 5) k y j
    unfold u1
    by_cases e : j = k
    · rw [if_pos (by omega), if_pos e]
    · rw [if_neg (by omega), if_neg e]; rfl
theorem pg_kind {M : Nat → Nat → Nat} {r : Nat → Nat} {w : Nat → Nat → Nat} {k x y : Nat} (hw : VW w) (hk : k < 6) (h : VEq (pgv (u3 M 0 r) 252) (u2 w 0 k x)) : VEq (pgv (u3 M 0 (u1 r (252 + k) y)) 252) (u2 w 0 k y) := by
  have h2 : VEq (u2 (pgv (u3 M 0 r) 252) 0 k y) (u2 w 0 k y) := by
    have := vu2_eq (f := 0) (i := k) (x := y) h (Or.inl (by decide))
    rw [u2_u2] at this; exact this
  refine VEq.tr ?_ h2
  have hr : w 8 1 ≤ 9 := hw.2.1
  have h0 : w 8 0 ≤ 6 := hw.1
  have e0 : pgv (u3 M 0 r) 252 8 0 = w 8 0 := h.1
  have e1 : pgv (u3 M 0 r) 252 8 1 = w 8 1 := h.2.1
  have e3 : pgv (u3 M 0 r) 252 8 3 = w 8 3 := h.2.2.2.1
  have hn : ∀ j, j ≠ 252 + k → u1 r (252 + k) y j = r j := fun j hj => u1_n _ _ hj
  refine ⟨rfl, hn _ (by omega), hn _ (by omega), hn _ (by omega), fun t ht => ?_, fun i hi => ?_, fun j hj => ?_⟩
  · show u1 r (252 + k) y (252 + t) = u1 (pgv (u3 M 0 r) 252 0) k y t
    unfold u1
    by_cases e : t = k
    · rw [if_pos (by omega), if_pos e]
    · rw [if_neg (by omega), if_neg e]; rfl
  · exact ⟨hn _ (by omega), hn _ (by omega), hn _ (by omega), hn _ (by omega)⟩
  · exact ⟨hn _ (by omega), hn _ (by omega), hn _ (by omega)⟩
theorem pg_wind {M : Nat → Nat → Nat} {r : Nat → Nat} {w : Nat → Nat → Nat} {x y : Nat} (hw : VW w) (h : VEq (pgv (u3 M 0 r) 252) (u2 w 8 2 x)) : VEq (pgv (u3 M 0 (u1 r 295 y)) 252) (u2 w 8 2 y) := by
  have h2 : VEq (u2 (pgv (u3 M 0 r) 252) 8 2 y) (u2 w 8 2 y) := by
    have := vu2_eq (f := 8) (i := 2) (x := y) h (Or.inr rfl)
    rw [u2_u2] at this; exact this
  refine VEq.tr ?_ h2
  have hr : w 8 1 ≤ 9 := hw.2.1
  have h0 : w 8 0 ≤ 6 := hw.1
  have h3 : w 8 3 ≤ 6 := hw.2.2.2.1
  have e0 : pgv (u3 M 0 r) 252 8 0 = w 8 0 := h.1
  have e1 : pgv (u3 M 0 r) 252 8 1 = w 8 1 := h.2.1
  have e3 : pgv (u3 M 0 r) 252 8 3 = w 8 3 := h.2.2.2.1
  have hn : ∀ j, j ≠ 295 → u1 r 295 y j = r j := fun j hj => u1_n _ _ hj
  refine ⟨rfl, hn (252 + 42) (by omega), u1_s r 295 y, hn (252 + 62) (by omega), fun t ht => ?_, fun i hi => ?_, fun j hj => ?_⟩
  · have ht : t < pgv (u3 M 0 r) 252 8 0 := ht
    exact hn (252 + t) (by omega)
  · have hi : i < u1 r 295 y (252 + 42) := hi
    rw [hn _ (by omega)] at hi
    have hi : i < pgv (u3 M 0 r) 252 8 1 := hi
    exact ⟨hn _ (by omega), hn _ (by omega), hn _ (by omega), hn _ (by omega)⟩
  · have hj : j < u1 r 295 y (252 + 62) := hj
    rw [hn _ (by omega)] at hj
    have hj : j < pgv (u3 M 0 r) 252 8 3 := hj
    exact ⟨hn _ (by omega), hn _ (by omega), hn _ (by omega)⟩
theorem vu2_self {v w : Nat → Nat → Nat} {f i : Nat} (h : VEq v w) : VEq v (u2 w f i (w f i)) := by rw [u2_id]; exact h
theorem VW.kindu {v : Nat → Nat → Nat} {k x : Nat} (hv : VW v) (h : x ≤ 3) : VW (u2 v 0 k x) := by
  obtain ⟨h0, h1, h2, h3, h4, h5, h6⟩ := hv
  refine ⟨h0, h1, h2, h3, fun j hj => ?_, h5, h6⟩
  show u1 (v 0) k x j ≤ 3
  unfold u1; split
  · exact h
  · exact h4 j hj
theorem VW.houru {v : Nat → Nat → Nat} {k x : Nat} (hv : VW v) (h : x ≤ 23) : VW (u2 v 5 k x) := by
  obtain ⟨h0, h1, h2, h3, h4, h5, h6⟩ := hv
  refine ⟨h0, h1, h2, h3, h4, h5, fun j hj => ⟨?_, (h6 j hj).2⟩⟩
  show u1 (v 5) k x j ≤ 23
  unfold u1; split
  · exact h
  · exact (h6 j hj).1
theorem VW.windu {v : Nat → Nat → Nat} {x : Nat} (hv : VW v) (h : x ≤ 20) : VW (u2 v 8 2 x) := by
  obtain ⟨h0, h1, h2, h3, h4, h5, h6⟩ := hv
  exact ⟨h0, h1, h, h3, h4, h5, h6⟩
/-- the page that is tried, a root more -/
theorem pg_grow {M : Nat → Nat → Nat} {r : Nat → Nat} {a b L : Nat} (hW : VW (pgv M 0)) (h9 : M 0 42 < 9) (h : RK (M 0) r) :
    VEq (pgv (u3 M 0 (u1 (u1 (u1 (u1 (u1 (pcopy r 0 252 63) (252 + 6 + M 0 42) a) (252 + 15 + M 0 42) b) (252 + 24 + M 0 42) L) (252 + 33 + M 0 42) 0) (252 + 42) (M 0 42 + 1))) 252) (growv (pgv M 0) a b L) := by
  have h6 : M 20 0 ≤ 6 := hW.1
  have h62 : M 0 62 ≤ 6 := hW.2.2.2.1
  have lo : ∀ k, k < 63 → k ≠ 6 + M 0 42 → k ≠ 15 + M 0 42 → k ≠ 24 + M 0 42 → k ≠ 33 + M 0 42 → k ≠ 42 → u1 (u1 (u1 (u1 (u1 (pcopy r 0 252 63) (252 + 6 + M 0 42) a) (252 + 15 + M 0 42) b) (252 + 24 + M 0 42) L) (252 + 33 + M 0 42) 0) (252 + 42) (M 0 42 + 1) (252 + k) = M 0 k := by
    intro k hk k1 k2 k3 k4 k5
    rw [u1_n _ _ (by omega), u1_n _ _ (by omega), u1_n _ _ (by omega), u1_n _ _ (by omega), u1_n _ _ (by omega), pcopy_in hk, Nat.zero_add]
    exact h k (by omega)
  have e42 : u1 (u1 (u1 (u1 (u1 (pcopy r 0 252 63) (252 + 6 + M 0 42) a) (252 + 15 + M 0 42) b) (252 + 24 + M 0 42) L) (252 + 33 + M 0 42) 0) (252 + 42) (M 0 42 + 1) (252 + 42) = M 0 42 + 1 := u1_s _ _ _
  refine ⟨rfl, e42, lo 43 (by omega) (by omega) (by omega) (by omega) (by omega) (by omega), lo 62 (by omega) (by omega) (by omega) (by omega) (by omega) (by omega), fun t hq => ?_, fun i hq => ?_, fun k hq => ?_⟩
  · have hq : t < M 20 0 := hq
    show _ = pgv M 0 0 t
    rw [pv0]; exact lo t (by omega) (by omega) (by omega) (by omega) (by omega) (by omega)
  · have hq : i < u1 (u1 (u1 (u1 (u1 (pcopy r 0 252 63) (252 + 6 + M 0 42) a) (252 + 15 + M 0 42) b) (252 + 24 + M 0 42) L) (252 + 33 + M 0 42) 0) (252 + 42) (M 0 42 + 1) (252 + 42) := hq
    rw [e42] at hq
    have gv : ∀ (f off x : Nat), 1 ≤ f → f ≤ 4 → off = 9 * f - 3 → (i = M 0 42 → u1 (u1 (u1 (u1 (u1 (pcopy r 0 252 63) (252 + 6 + M 0 42) a) (252 + 15 + M 0 42) b) (252 + 24 + M 0 42) L) (252 + 33 + M 0 42) 0) (252 + 42) (M 0 42 + 1) (252 + off + i) = x) → u1 (u1 (u1 (u1 (u1 (pcopy r 0 252 63) (252 + 6 + M 0 42) a) (252 + 15 + M 0 42) b) (252 + 24 + M 0 42) L) (252 + 33 + M 0 42) 0) (252 + 42) (M 0 42 + 1) (252 + off + i) = u1 (fun j => M 0 (off + j)) (M 0 42) x i := by
      intro f off x f1 f4 ho hx
      by_cases e : i = M 0 42
      · rw [hx e, e, u1_s]
      · rw [u1_n _ _ e]
        have q := lo (off + i) (by omega) (by omega) (by omega) (by omega) (by omega) (by omega)
        rw [← Nat.add_assoc] at q
        exact q
    refine ⟨?_, ?_, ?_, ?_⟩
    · exact gv 1 6 a (by decide) (by decide) rfl (fun e => by subst e; rw [u1_n _ _ (by omega), u1_n _ _ (by omega), u1_n _ _ (by omega), u1_n _ _ (by omega), u1_s])
    · exact gv 2 15 b (by decide) (by decide) rfl (fun e => by subst e; rw [u1_n _ _ (by omega), u1_n _ _ (by omega), u1_n _ _ (by omega), u1_s])
    · exact gv 3 24 L (by decide) (by decide) rfl (fun e => by subst e; rw [u1_n _ _ (by omega), u1_n _ _ (by omega), u1_s])
    · exact gv 4 33 0 (by decide) (by decide) rfl (fun e => by subst e; rw [u1_n _ _ (by omega), u1_s])
  · have hq : k < u1 (u1 (u1 (u1 (u1 (pcopy r 0 252 63) (252 + 6 + M 0 42) a) (252 + 15 + M 0 42) b) (252 + 24 + M 0 42) L) (252 + 33 + M 0 42) 0) (252 + 42) (M 0 42 + 1) (252 + 62) := hq
    rw [lo 62 (by omega) (by omega) (by omega) (by omega) (by omega) (by omega)] at hq
    refine ⟨?_, ?_, ?_⟩
    · have := lo (44 + k) (by omega) (by omega) (by omega) (by omega) (by omega) (by omega); rw [← Nat.add_assoc] at this; exact this
    · have := lo (50 + k) (by omega) (by omega) (by omega) (by omega) (by omega) (by omega); rw [← Nat.add_assoc] at this; exact this
    · have := lo (56 + k) (by omega) (by omega) (by omega) (by omega) (by omega) (by omega); rw [← Nat.add_assoc] at this; exact this
theorem VW.growu {v : Nat → Nat → Nat} {a b L : Nat} (hv : VW v) (h9 : v 8 1 < 9) (ha : a < v 8 0) (hb : b < v 8 0) (hab : a ≠ b) (hL : 1 ≤ L ∧ L ≤ 9) : VW (growv v a b L) := by
  obtain ⟨h0, h1, h2, h3, h4, h5, h6⟩ := hv
  refine ⟨h0, (by show v 8 1 + 1 ≤ 9; omega), h2, h3, h4, ?_, h6⟩
  intro i hi
  have hi' : i < v 8 1 + 1 := hi
  show u1 (v 1) (v 8 1) a i < v 8 0 ∧ u1 (v 2) (v 8 1) b i < v 8 0 ∧ u1 (v 1) (v 8 1) a i ≠ u1 (v 2) (v 8 1) b i ∧ 1 ≤ u1 (v 3) (v 8 1) L i ∧ u1 (v 3) (v 8 1) L i ≤ 9 ∧ u1 (v 4) (v 8 1) 0 i ≤ 1
  by_cases e : i = v 8 1
  · subst e; rw [u1_s, u1_s, u1_s, u1_s]; exact ⟨ha, hb, hab, hL.1, hL.2, by decide⟩
  · rw [u1_n _ _ e, u1_n _ _ e, u1_n _ _ e, u1_n _ _ e]; exact h5 i (by omega)
theorem nI_nneg {n : Nat} {v : Int32} (h : n < 2 ^ 31) (hv : v.toInt < 0) : ¬ nI n = v := fun q => by
  have h1 := congrArg Int32.toInt q
  rw [nI_toInt h] at h1
  omega
theorem rb_le1 (b : Bool) : rb b ≤ 1 := by cases b <;> decide
theorem mwhole_f1 {v : Nat → Nat → Nat} {t i : Nat} (h : 0 < v 4 i) : wholeP v t i = false := by unfold wholeP; rw [decide_eq_false (by omega)]; rfl
theorem mwhole_f2 {v : Nat → Nat → Nat} {t i : Nat} (h : v 1 i ≠ t) (h2 : v 2 i ≠ t) : wholeP v t i = false := by unfold wholeP; rw [decide_eq_false h, decide_eq_false h2]; simp
theorem mwhole_t1 {v : Nat → Nat → Nat} {t i : Nat} (h : v 4 i = 0) (h2 : v 1 i = t) : wholeP v t i = true := by unfold wholeP; rw [decide_eq_true h, decide_eq_true h2]; rfl
theorem mwhole_t2 {v : Nat → Nat → Nat} {t i : Nat} (h : v 4 i = 0) (h2 : v 2 i = t) : wholeP v t i = true := by unfold wholeP; rw [decide_eq_true h, decide_eq_true h2]; simp
theorem hear_all (v : Nat → Nat → Nat) (t b : Nat) : hearS v t b &&& (2 ^ v 8 0 - 1) = hearS v t b := by
  have h : hearS v t b < 2 ^ v 8 0 := bset_lt _ _
  rw [Nat.and_two_pow_sub_one_eq_mod, Nat.mod_eq_of_lt h]
theorem bf_t1 {P : Nat → Bool} {x : Nat → Nat} {L i am : Nat} {ch : Int32} (hP : P i = true) (hx : x i < am) (h : (ch, am) = bfold P x L i) : (nI i, x i) = bfold P x L (i + 1) := by
  rw [← bf_t hP h, if_pos hx, if_pos hx]
theorem hushP_f {v : Nat → Nat → Nat} {t u b sm : Nat} (h : cutsB v sm = false) : hushP v t u b sm = false := by unfold hushP; rw [h]; rfl
theorem hushP_g {v : Nat → Nat → Nat} {t u b sm : Nat} (h : (hearS (cutv v sm) t b).testBit u = true) : hushP v t u b sm = false := by unfold hushP; rw [h]; simp
theorem hushP_t {v : Nat → Nat → Nat} {t u b sm : Nat} (h0 : cutsB v sm = true) (h : (hearS (cutv v sm) t b).testBit u = false) : hushP v t u b sm = true := by unfold hushP; rw [h0, h]; rfl
theorem jin_y {x : Nat → Nat} {a k am X : Nat} {ch : Int32} {s : Int32 × Nat} (hk : a < k) (hx : X = x k) (hl : X < am) (h : (ch, am) = jin x a s k) : (nI (10 * a + k), X) = jin x a s (k + 1) := by
  rw [← jin_s hk hx h, if_pos hl, if_pos hl]
theorem jin_n {x : Nat → Nat} {a k am X : Nat} {ch : Int32} {s : Int32 × Nat} (hk : a < k) (hx : X = x k) (hl : am ≤ X) (h : (ch, am) = jin x a s k) : (ch, am) = jin x a s (k + 1) := by
  rw [← jin_s hk hx h, if_neg (by omega), if_neg (by omega)]
theorem cuts_pow {v : Nat → Nat → Nat} {i : Nat} (hi : i < v 8 1) : cutsB v (2 ^ i) = decide (v 4 i = 0) := by
  unfold cutsB
  by_cases h : v 4 i = 0
  · rw [decide_eq_true h]
    refine ball_mk fun j hj => ?_
    by_cases e : i = j
    · rw [← e, h]; simp
    · rw [Nat.testBit_two_pow_of_ne e]; rfl
  · rw [decide_eq_false h]
    exact ball_f (i := i) (by rw [Nat.testBit_two_pow_self, decide_eq_false h]; rfl) hi
theorem hb_t {x : Nat → Nat} {L i few wh : Nat} (h : ∃ c : Int32, (c, few) = bfold (fun _ => true) x L i ∧ (i ≠ 0 → c = nI wh)) (hx : x i < few) : ∃ c : Int32, (c, x i) = bfold (fun _ => true) x L (i + 1) ∧ (i + 1 ≠ 0 → c = nI i) := by
  obtain ⟨c, h1, _⟩ := h
  exact ⟨nI i, bf_t1 rfl hx h1, fun _ => rfl⟩
theorem hb_k {x : Nat → Nat} {L i few wh : Nat} (h : ∃ c : Int32, (c, few) = bfold (fun _ => true) x L i ∧ (i ≠ 0 → c = nI wh)) (hx : few ≤ x i) (hi : i ≠ 0) : ∃ c : Int32, (c, few) = bfold (fun _ => true) x L (i + 1) ∧ (i + 1 ≠ 0 → c = nI wh) := by
  obtain ⟨c, h1, h2⟩ := h
  exact ⟨c, bf_k hx h1, fun _ => h2 hi⟩
theorem hb_e {x : Nat → Nat} {L n few wh w : Nat} (h : ∃ c : Int32, (c, few) = bfold (fun _ => true) x L n ∧ (n ≠ 0 → c = nI wh)) (hn : n ≠ 0) (hw : wh < 2 ^ 31) : a_told (bfold (fun _ => true) x L n) w = if w = 0 then nI wh else nI few := by
  obtain ⟨c, h1, h2⟩ := h
  rw [← told_s h1, h2 hn]
  by_cases e : w = 0
  · rw [if_pos (Or.inl e), if_pos e]
  · rw [if_neg (fun q => q.elim e (nI_nneg hw (by decide))), if_neg e]
theorem calm_n {v : Nat → Nat → Nat} {i : Nat} {b : Bool} (h : decide (crossS (u2 v 8 2 i) = 0) = b) : calmP v (i + 1) = b := by
  unfold calmP; rw [← h, Nat.add_sub_cancel]
theorem calm_m {v : Nat → Nat → Nat} {i : Nat} (hi : i < 21) (h : 0 < crossS (u2 v 8 2 i)) : lfind (calmP v) (21 - i) (i + 1) = lfind (calmP v) (21 - (i + 1)) (i + 1 + 1) := by
  rw [show 21 - i = 22 - (i + 1) by omega, lfind_s (N := 22) (k := i + 1) (by omega) (calm_n (decide_eq_false (by omega))), show 22 - (i + 1 + 1) = 21 - (i + 1) by omega]
theorem kinds_f' {v : Nat → Nat → Nat} {n t k : Nat} {pl lo : Nat → Nat} (h : sayS (u2 v 0 t k) n pl lo = 0) : kindsP v n pl lo t k = false := by unfold kindsP; rw [h]; rfl
theorem kinds_t' {v : Nat → Nat → Nat} {n t k : Nat} {pl lo : Nat → Nat} (h : 0 < sayS (u2 v 0 t k) n pl lo) : kindsP v n pl lo t k = true := by unfold kindsP; exact decide_eq_true (by omega)
