set_option maxHeartbeats 4000000 in
set_option maxRecDepth 100000 in
theorem c_X1_shorten (l : Launch) (D : va_G) (tk : Nat → ClassId) (h : Nat → Nat) (G : Nat → Nat → Nat) (d e : Nat → Nat) (a b L : Nat) (ha : a < 6) (hb2 : b < 6) (hda : d a ≤ 1000) (hdb : d b ≤ 1000) (hL : 1 ≤ L ∧ L ≤ 9) : MX l yX1_shorten cX1_shorten 6 (some .boolean) ⟨1, 0, 0, 40⟩ D (TYS tk) [.ref (h 0), .int (nI a), .int (nI b), .int (nI L)] (gW tk h G d e) (fun (_ : Unit) => True) (fun _ => some (.int (nI (rb (relQ d a b L))))) (fun _ => gW tk h G (rel d a b L) e) 0 0 := by
  refine MX.of_z (by decide) rfl ?_
  intro zp ze zs zm za zb zt zc zA zQ ls C0 hnm X hl hE
  have hx := C0.1
  have hb := C0.2.1
  have ht := C0.2.2.2.2.1
  have X : Hx D zA zs zs.heap [] (gW tk h G d e) := X
  have hl : lv_has ls 6 [(0, .ref (h 0)), (1, .int (nI a)), (2, .int (nI b)), (3, .int (nI L))] := hl
  obtain ⟨H, hH⟩ : ∃ H, H = zs.heap := ⟨_, rfl⟩
  rw [← hH] at X ⊢
  obtain ⟨locs, hlo⟩ : ∃ L : List Loc, L = [] := ⟨_, rfl⟩
  rw [← hlo] at X ⊢
  refine lv_aload_n hx hb dX1_shorten_0 rfl (lv_at hl 0 rfl) ?_
  refine g_get (v := .ref (h 8)) C0 X kX1 0 12 tb60 rfl rfl rfl dX1_shorten_1 ?_
  refine lv_iload_n hx hb dX1_shorten_4 rfl (lv_at hl 1 rfl) ?_
  refine g_iald (v := nI (d a)) (i := a) C0 X 8 0 rfl rfl (by omega) rfl rfl dX1_shorten_5 ?_
  refine lv_aload_n hx hb dX1_shorten_6 rfl (lv_at hl 0 rfl) ?_
  refine g_get (v := .ref (h 8)) C0 X kX1 0 12 tb60 rfl rfl rfl dX1_shorten_7 ?_
  refine lv_iload_n hx hb dX1_shorten_10 rfl (lv_at hl 2 rfl) ?_
  refine g_iald (v := nI (d b)) (i := b) C0 X 8 0 rfl rfl (by omega) rfl rfl dX1_shorten_11 ?_
  refine g_icmp_ge (x := d a) (y := d b) (tgt := 19) C0 (by omega) (by omega) dX1_shorten_12 rfl (fun c1 => ?_) (fun c2 => ?_)
  · refine lv_iload_n hx hb dX1_shorten_19 rfl (lv_at hl 1 rfl) ?_
    refine lv_istore (lv' := [(4, .int (nI a)), (0, .ref (h 0)), (1, .int (nI a)), (2, .int (nI b)), (3, .int (nI L))]) hx hb dX1_shorten_20 hl (by decide) rfl (fun ls hl => ?_)
    refine lv_aload_n hx hb dX1_shorten_22 rfl (lv_at hl 1 rfl) ?_
    refine g_get (v := .ref (h 8)) C0 X kX1 0 12 tb60 rfl rfl rfl dX1_shorten_23 ?_
    refine lv_iload_n hx hb dX1_shorten_26 rfl (lv_at hl 2 rfl) ?_
    refine g_iald (v := nI (d a)) (i := a) C0 X 8 0 rfl rfl (by omega) rfl rfl dX1_shorten_27 ?_
    refine lv_aload_n hx hb dX1_shorten_28 rfl (lv_at hl 1 rfl) ?_
    refine g_get (v := .ref (h 8)) C0 X kX1 0 12 tb60 rfl rfl rfl dX1_shorten_29 ?_
    refine lv_iload_n hx hb dX1_shorten_32 rfl (lv_at hl 3 rfl) ?_
    refine g_iald (v := nI (d b)) (i := b) C0 X 8 0 rfl rfl (by omega) rfl rfl dX1_shorten_33 ?_
    refine g_min' C0 hl tb434 tb435 tb15 tb436 (by omega) (by omega) ⟨rfl, rfl, rfl, rfl⟩ dX1_shorten_34 ?_
    refine lv_iload_n hx hb dX1_shorten_37 rfl (lv_at hl 4 rfl) ?_
    refine g_iadd (n := min (d a) (d b) + L) C0 (by first | rfl | omega) dX1_shorten_38 ?_
    refine lv_istore (lv' := [(5, .int (nI (min (d a) (d b) + L))), (4, .int (nI a)), (0, .ref (h 0)), (1, .int (nI a)), (2, .int (nI b)), (3, .int (nI L))]) hx hb dX1_shorten_39 hl (by decide) rfl (fun ls hl => ?_)
    refine lv_iload hx hb dX1_shorten_41 (lv_at hl 0 rfl) ?_
    refine lv_aload_n hx hb dX1_shorten_43 rfl (lv_at hl 2 rfl) ?_
    refine g_get (v := .ref (h 8)) C0 X kX1 0 12 tb60 rfl rfl rfl dX1_shorten_44 ?_
    refine lv_iload hx hb dX1_shorten_47 (lv_at hl 1 rfl) ?_
    refine g_iald (v := nI (d a)) (i := a) C0 X 8 0 rfl rfl (by omega) rfl rfl dX1_shorten_49 ?_
    refine g_icmp_lt (x := min (d a) (d b) + L) (y := d a) (tgt := 55) C0 (by omega) (by omega) dX1_shorten_50 rfl (fun c3 => ?_) (fun c4 => ?_)
    · refine lv_aload_n hx hb dX1_shorten_55 rfl (lv_at hl 2 rfl) ?_
      refine g_get (v := .ref (h 8)) C0 X kX1 0 12 tb60 rfl rfl rfl dX1_shorten_56 ?_
      refine lv_iload hx hb dX1_shorten_59 (lv_at hl 1 rfl) ?_
      refine lv_iload hx hb dX1_shorten_61 (lv_at hl 0 rfl) ?_
      refine g_iast (g := nf (u1 d a (min (d a) (d b) + L))) (i := a) C0 X 8 0 rfl rfl (by omega) rfl (nf_u1 _ _ _) dX1_shorten_63 (fun H locs X => ?_)
      have X : Hx D zA zs H locs (gW tk h G (u1 d a (min (d a) (d b) + L)) e) := X
      refine g_iconst (n := 1) C0 rfl dX1_shorten_64 ?_
      exact hE (v := true) () (by rw [show relQ d a b L = true from decide_eq_true (by omega)]) trivial (X.to (by first | rw [show rel d a b L = u1 d b (min (d a) (d b) + L) by unfold rel; rw [if_neg (by omega), if_pos (by omega), Nat.min_eq_left (by omega)]] | rw [show rel d a b L = u1 d a (min (d a) (d b) + L) by unfold rel; rw [if_pos (by omega), Nat.min_eq_right (by omega)]])) dX1_shorten_65
    · refine g_iconst (n := 0) C0 rfl dX1_shorten_53 ?_
      exact hE (v := false) () (by rw [show relQ d a b L = false from decide_eq_false (by omega)]) trivial (X.to (by rw [show rel d a b L = d by unfold rel; rw [if_neg (by omega), if_neg (by omega)]])) dX1_shorten_54
  · refine lv_iload_n hx hb dX1_shorten_15 rfl (lv_at hl 2 rfl) ?_
    refine lv_goto (tgt := 20) hx hb dX1_shorten_16 (by decide) ?_
    refine lv_istore (lv' := [(4, .int (nI b)), (0, .ref (h 0)), (1, .int (nI a)), (2, .int (nI b)), (3, .int (nI L))]) hx hb dX1_shorten_20 hl (by decide) rfl (fun ls hl => ?_)
    refine lv_aload_n hx hb dX1_shorten_22 rfl (lv_at hl 1 rfl) ?_
    refine g_get (v := .ref (h 8)) C0 X kX1 0 12 tb60 rfl rfl rfl dX1_shorten_23 ?_
    refine lv_iload_n hx hb dX1_shorten_26 rfl (lv_at hl 2 rfl) ?_
    refine g_iald (v := nI (d a)) (i := a) C0 X 8 0 rfl rfl (by omega) rfl rfl dX1_shorten_27 ?_
    refine lv_aload_n hx hb dX1_shorten_28 rfl (lv_at hl 1 rfl) ?_
    refine g_get (v := .ref (h 8)) C0 X kX1 0 12 tb60 rfl rfl rfl dX1_shorten_29 ?_
    refine lv_iload_n hx hb dX1_shorten_32 rfl (lv_at hl 3 rfl) ?_
    refine g_iald (v := nI (d b)) (i := b) C0 X 8 0 rfl rfl (by omega) rfl rfl dX1_shorten_33 ?_
    refine g_min' C0 hl tb434 tb435 tb15 tb436 (by omega) (by omega) ⟨rfl, rfl, rfl, rfl⟩ dX1_shorten_34 ?_
    refine lv_iload_n hx hb dX1_shorten_37 rfl (lv_at hl 4 rfl) ?_
    refine g_iadd (n := min (d a) (d b) + L) C0 (by first | rfl | omega) dX1_shorten_38 ?_
    refine lv_istore (lv' := [(5, .int (nI (min (d a) (d b) + L))), (4, .int (nI b)), (0, .ref (h 0)), (1, .int (nI a)), (2, .int (nI b)), (3, .int (nI L))]) hx hb dX1_shorten_39 hl (by decide) rfl (fun ls hl => ?_)
    refine lv_iload hx hb dX1_shorten_41 (lv_at hl 0 rfl) ?_
    refine lv_aload_n hx hb dX1_shorten_43 rfl (lv_at hl 2 rfl) ?_
    refine g_get (v := .ref (h 8)) C0 X kX1 0 12 tb60 rfl rfl rfl dX1_shorten_44 ?_
    refine lv_iload hx hb dX1_shorten_47 (lv_at hl 1 rfl) ?_
    refine g_iald (v := nI (d b)) (i := b) C0 X 8 0 rfl rfl (by omega) rfl rfl dX1_shorten_49 ?_
    refine g_icmp_lt (x := min (d a) (d b) + L) (y := d b) (tgt := 55) C0 (by omega) (by omega) dX1_shorten_50 rfl (fun c5 => ?_) (fun c6 => ?_)
    · refine lv_aload_n hx hb dX1_shorten_55 rfl (lv_at hl 2 rfl) ?_
      refine g_get (v := .ref (h 8)) C0 X kX1 0 12 tb60 rfl rfl rfl dX1_shorten_56 ?_
      refine lv_iload hx hb dX1_shorten_59 (lv_at hl 1 rfl) ?_
      refine lv_iload hx hb dX1_shorten_61 (lv_at hl 0 rfl) ?_
      refine g_iast (g := nf (u1 d b (min (d a) (d b) + L))) (i := b) C0 X 8 0 rfl rfl (by omega) rfl (nf_u1 _ _ _) dX1_shorten_63 (fun H locs X => ?_)
      have X : Hx D zA zs H locs (gW tk h G (u1 d b (min (d a) (d b) + L)) e) := X
      refine g_iconst (n := 1) C0 rfl dX1_shorten_64 ?_
      exact hE (v := true) () (by rw [show relQ d a b L = true from decide_eq_true (by omega)]) trivial (X.to (by first | rw [show rel d a b L = u1 d b (min (d a) (d b) + L) by unfold rel; rw [if_neg (by omega), if_pos (by omega), Nat.min_eq_left (by omega)]] | rw [show rel d a b L = u1 d a (min (d a) (d b) + L) by unfold rel; rw [if_pos (by omega), Nat.min_eq_right (by omega)]])) dX1_shorten_65
    · refine g_iconst (n := 0) C0 rfl dX1_shorten_53 ?_
      exact hE (v := false) () (by rw [show relQ d a b L = false from decide_eq_false (by omega)]) trivial (X.to (by rw [show rel d a b L = d by unfold rel; rw [if_neg (by omega), if_neg (by omega)]])) dX1_shorten_54
set_option maxHeartbeats 4000000 in
set_option maxRecDepth 100000 in
theorem c_X1_measure (l : Launch) (D : va_G) (tk : Nat → ClassId) (h : Nat → Nat) (G : Nat → Nat → Nat) (d e : Nat → Nat) (t : Nat) (hw : GW G) (ht0 : t < G 8 0) : MX l yX1_measure cX1_measure 5 (some (.array .int)) ⟨2, 0, 0, 65⟩ D (TYS tk) [.ref (h 0), .int (nI t)] (gW tk h G d e) (fun (_ : Unit) => True) (fun _ => some (.ref (h 8))) (fun _ => gW tk h G (dist (cgv G) t) e) 0 0 := by
  refine MX.of_a (by decide) rfl ?_
  intro zp ze zs zm za zb zt zc zA zQ ls C0 hnm X hl hE
  have hx := C0.1
  have hb := C0.2.1
  have ht := C0.2.2.2.2.1
  have X : Hx D zA zs zs.heap [] (gW tk h G d e) := X
  have hl : lv_has ls 5 [(0, .ref (h 0)), (1, .int (nI t))] := hl
  obtain ⟨hw1, hw2, hw3, hw4, hw5, hw6, hw7, hw8⟩ := id hw
  have hw0 := hw.cut
  obtain ⟨H, hH⟩ : ∃ H, H = zs.heap := ⟨_, rfl⟩
  rw [← hH] at X ⊢
  obtain ⟨locs, hlo⟩ : ∃ L : List Loc, L = [] := ⟨_, rfl⟩
  rw [← hlo] at X ⊢
  refine lv_aload_n hx hb dX1_measure_0 rfl (lv_at hl 0 rfl) ?_
  refine g_get (v := .ref (h 8)) C0 X kX1 0 12 tb60 rfl rfl rfl dX1_measure_1 ?_
  refine g_sipush (n := 1000) C0 (by decide) dX1_measure_4 ?_
  refine g_callS (As := [.ref (h 8), .int (nI 1000)]) (rest := []) (wr := []) (C0.sz hl) X (c_fillG l D tk h G d e 1000) ⟨tb423, tb425, tb14, ⟨by decide, by decide, rfl⟩, rfl, rfl, Nat.le_of_ble_eq_true rfl, Nat.le_of_ble_eq_true rfl⟩ tb424 rfl [0, 1, 2, 3, 4, 5, 6, 7, 8, 9] [] rfl rfl rfl rfl rfl (Nat.le_of_ble_eq_true rfl) ⟨Nat.le_of_ble_eq_true rfl, Nat.le_of_ble_eq_true rfl⟩ dX1_measure_7 (fun uq1 H locs hp2 X => ?_)
  have X : Hx D zA zs H locs (gW tk h G uq1 e) := X
  have hp2 : ∀ j, j < 6 → uq1 j = 1000 := hp2
  refine lv_aload_n hx hb dX1_measure_10 rfl (lv_at hl 0 rfl) ?_
  refine g_get (v := .ref (h 8)) C0 X kX1 0 12 tb60 rfl rfl rfl dX1_measure_11 ?_
  refine lv_iload_n hx hb dX1_measure_14 rfl (lv_at hl 1 rfl) ?_
  refine g_iconst (n := 0) C0 rfl dX1_measure_15 ?_
  refine g_iast (g := nf (u1 uq1 t 0)) (i := t) C0 X 8 0 rfl rfl (by omega) rfl (nf_u1 _ _ _) dX1_measure_16 (fun H locs X => ?_)
  have X : Hx D zA zs H locs (gW tk h G (u1 uq1 t 0) e) := X
  refine g_iconst (n := 1) C0 rfl dX1_measure_17 ?_
  refine lv_istore_n (lv' := [(2, .int (nI 1)), (0, .ref (h 0)), (1, .int (nI t))]) hx hb dX1_measure_18 rfl hl (by decide) rfl (fun ls hl => ?_)
  refine g_iconst (n := 1) C0 rfl dX1_measure_19 ?_
  refine lv_istore_n (lv' := [(3, .int (nI 1)), (2, .int (nI 1)), (0, .ref (h 0)), (1, .int (nI t))]) hx hb dX1_measure_20 rfl hl (by decide) rfl (fun ls hl => ?_)
  have J21 : ∀ (fz : Nat) (rd nr : Nat) (d1 : Nat → Nat), G 8 0 - rd < fz → ∀ (hr1 : 1 ≤ rd) (hr2 : rd ≤ G 8 0) (hnr : nr ≤ 1) (hd : ∀ x, x < 6 → d1 x = rnds (cgv G) (dz t) (rd - 1) x) (hq : nr = 0 → 2 ≤ rd ∧ ∀ x, x < 6 → rnds (cgv G) (dz t) (rd - 1) x = rnds (cgv G) (dz t) (rd - 2) x) (H : Heap) (locs : List Loc) (ls : Array Slot), Hx D zA zs H locs (gW tk h G d1 e) → lv_has ls 5 [(3, .int (nI rd)), (2, .int (nI nr)), (0, .ref (h 0)), (1, .int (nI t))] → W zp l ze ⟨2, 0, 0, 65⟩ zs zm za zb zt zc H locs 0 0 zQ (F0 zm 21 ls []) := by
    intro fz
    induction fz with
    | zero => intro rd nr d1 hz; exact absurd hz (Nat.not_lt_zero _)
    | succ fz ih21 =>
      intro rd nr d1 hz21 hr1 hr2 hnr hd hq H locs ls X hl
      refine lv_iload_n hx hb dX1_measure_21 rfl (lv_at hl 0 rfl) ?_
      refine lv_aload_n hx hb dX1_measure_22 rfl (lv_at hl 2 rfl) ?_
      refine g_get (v := .int (nI (G 8 0))) C0 X kX1 0 0 tb31 rfl rfl rfl dX1_measure_23 ?_
      refine g_icmp_ge (x := rd) (y := G 8 0) (tgt := 98) C0 (by omega) (by omega) dX1_measure_26 rfl (fun c3 => ?_) (fun c4 => ?_)
      · have X := X.cong (g := nf (dist (cgv G) t)) 8 rfl (meas_end hw ht0 hr1 hr2 hd hq (by omega))
        have X : Hx D zA zs H locs (gW tk h G (dist (cgv G) t) e) := X
        refine lv_aload_n hx hb dX1_measure_98 rfl (lv_at hl 2 rfl) ?_
        refine g_get (v := .ref (h 8)) C0 X kX1 0 12 tb60 rfl rfl rfl dX1_measure_99 ?_
        exact hE (v := h 8) () rfl trivial X dX1_measure_102
      · refine lv_iload_n hx hb dX1_measure_29 rfl (lv_at hl 1 rfl) ?_
        refine g_ifeq (x := nr) (tgt := 98) C0 (by omega) dX1_measure_30 rfl (fun c5 => ?_) (fun c6 => ?_)
        · have X := X.cong (g := nf (dist (cgv G) t)) 8 rfl (meas_end hw ht0 hr1 hr2 hd hq (by omega))
          have X : Hx D zA zs H locs (gW tk h G (dist (cgv G) t) e) := X
          refine lv_aload_n hx hb dX1_measure_98 rfl (lv_at hl 2 rfl) ?_
          refine g_get (v := .ref (h 8)) C0 X kX1 0 12 tb60 rfl rfl rfl dX1_measure_99 ?_
          exact hE (v := h 8) () rfl trivial X dX1_measure_102
        · refine g_iconst (n := 0) C0 rfl dX1_measure_33 ?_
          refine lv_istore_n (lv' := [(2, .int (nI 0)), (3, .int (nI rd)), (0, .ref (h 0)), (1, .int (nI t))]) hx hb dX1_measure_34 rfl hl (by decide) rfl (fun ls hl => ?_)
          refine g_iconst (n := 0) C0 rfl dX1_measure_35 ?_
          refine lv_istore (lv' := [(4, .int (nI 0)), (2, .int (nI 0)), (3, .int (nI rd)), (0, .ref (h 0)), (1, .int (nI t))]) hx hb dX1_measure_36 hl (by decide) rfl (fun ls hl => ?_)
          have J38 : ∀ (fz : Nat) (i nr2 : Nat) (d2 : Nat → Nat), G 8 1 - i < fz → ∀ (hi : i ≤ G 8 1) (hn2 : nr2 ≤ 1) (hd2 : ∀ x, x < 6 → d2 x = relaxTo (cgv G) (rnds (cgv G) (dz t) (rd - 1)) i x) (hq2 : nr2 = 0 → ∀ x, x < 6 → d2 x = rnds (cgv G) (dz t) (rd - 1) x) (H : Heap) (locs : List Loc) (ls : Array Slot), Hx D zA zs H locs (gW tk h G d2 e) → lv_has ls 5 [(4, .int (nI i)), (2, .int (nI nr2)), (3, .int (nI rd)), (0, .ref (h 0)), (1, .int (nI t))] → W zp l ze ⟨2, 0, 0, 65⟩ zs zm za zb zt zc H locs 0 0 zQ (F0 zm 38 ls []) := by
            intro fz
            induction fz with
            | zero => intro i nr2 d2 hz; exact absurd hz (Nat.not_lt_zero _)
            | succ fz ih38 =>
              intro i nr2 d2 hz38 hi hn2 hd2 hq2 H locs ls X hl
              refine lv_iload hx hb dX1_measure_38 (lv_at hl 0 rfl) ?_
              refine lv_aload_n hx hb dX1_measure_40 rfl (lv_at hl 3 rfl) ?_
              refine g_get (v := .int (nI (G 8 1))) C0 X kX1 0 2 tb37 rfl rfl rfl dX1_measure_41 ?_
              refine g_icmp_ge (x := i) (y := G 8 1) (tgt := 92) C0 (by omega) (by omega) dX1_measure_44 rfl (fun c7 => ?_) (fun c8 => ?_)
              · refine g_iinc (j := 1) (z := rd + 1) (lv' := [(3, .int (nI (rd + 1))), (4, .int (nI i)), (2, .int (nI nr2)), (0, .ref (h 0)), (1, .int (nI t))]) C0 rfl (by first | rfl | omega) dX1_measure_92 hl (k := 2) rfl (by decide) rfl (fun ls hl => ?_)
                refine lv_goto (tgt := 21) hx hb dX1_measure_95 (by decide) ?_
                exact ih21 (rd + 1) nr2 d2 (by omega) (by omega) (by omega) (by omega) (by intro x hx; rw [rnds_s hr1, hd2 x hx, show i = G 8 1 by omega]; rfl) (by exact fun h0 => ⟨by omega, fun x hx => by rw [rnds_s hr1, show rd + 1 - 2 = rd - 1 by omega, ← hq2 h0 x hx, hd2 x hx, show i = G 8 1 by omega]; rfl⟩) H locs ls X (lv_sub hl [0, 2, 3, 4] rfl)
              · refine lv_aload_n hx hb dX1_measure_47 rfl (lv_at hl 3 rfl) ?_
                refine lv_iload hx hb dX1_measure_48 (lv_at hl 0 rfl) ?_
                have hr7 := hw7 i (by omega)
                refine g_callV (As := [.int (nI i)]) (rest := []) (wr := []) (C0.sz hl) X (c_X1_isWhole l D tk h G d2 e i (by first | assumption | omega) (by first | assumption | omega)) ⟨tb426, tb429, tb2, ⟨by decide, by decide, rfl⟩, rfl, rfl, Nat.le_of_ble_eq_true rfl, Nat.le_of_ble_eq_true rfl⟩ tb427 tb428 0 1 rfl rfl rfl rfl [0, 1, 2, 3, 4, 5, 6, 7, 8, 9] [] rfl rfl rfl rfl rfl (Nat.le_of_ble_eq_true rfl) ⟨Nat.le_of_ble_eq_true rfl, Nat.le_of_ble_eq_true rfl⟩ dX1_measure_50 (fun _ H locs _ X => ?_)
                have X : Hx D zA zs H locs (gW tk h G d2 e) := X
                refine g_ifeqB (x := !(G 4 0).testBit i) (tgt := 86) C0 dX1_measure_53 rfl (fun c9 => ?_) (fun c10 => ?_)
                · refine g_iinc (j := 1) (z := i + 1) (lv' := [(4, .int (nI (i + 1))), (2, .int (nI nr2)), (3, .int (nI rd)), (0, .ref (h 0)), (1, .int (nI t))]) C0 rfl (by first | rfl | omega) dX1_measure_86 hl (k := 0) rfl (by decide) rfl (fun ls hl => ?_)
                  refine lv_goto (tgt := 38) hx hb dX1_measure_89 (by decide) ?_
                  exact ih38 (i + 1) nr2 d2 (by omega) (by omega) (by omega) (by first | exact relaxTo_s0 (by simpa using c9) hd2 | exact relaxTo_s1 (by simpa using c8) (by omega) (by omega) hd2) (by first | exact hq2 | (rw [rel_q0 c9]; exact hq2) | exact fun h0 => absurd h0 (by decide)) H locs ls X (lv_sub hl [0, 1, 2, 3, 4] rfl)
                · refine lv_aload_n hx hb dX1_measure_56 rfl (lv_at hl 3 rfl) ?_
                  refine lv_aload_n hx hb dX1_measure_57 rfl (lv_at hl 3 rfl) ?_
                  refine g_get (v := .ref (h 2)) C0 X kX1 0 3 tb40 rfl rfl rfl dX1_measure_58 ?_
                  refine lv_iload hx hb dX1_measure_61 (lv_at hl 0 rfl) ?_
                  refine g_iald (v := nI (G 1 i)) (i := i) C0 X 2 0 rfl rfl (by omega) rfl rfl dX1_measure_63 ?_
                  refine lv_aload_n hx hb dX1_measure_64 rfl (lv_at hl 3 rfl) ?_
                  refine g_get (v := .ref (h 3)) C0 X kX1 0 4 tb42 rfl rfl rfl dX1_measure_65 ?_
                  refine lv_iload hx hb dX1_measure_68 (lv_at hl 0 rfl) ?_
                  refine g_iald (v := nI (G 2 i)) (i := i) C0 X 3 0 rfl rfl (by omega) rfl rfl dX1_measure_70 ?_
                  refine lv_aload_n hx hb dX1_measure_71 rfl (lv_at hl 3 rfl) ?_
                  refine g_get (v := .ref (h 4)) C0 X kX1 0 5 tb44 rfl rfl rfl dX1_measure_72 ?_
                  refine lv_iload hx hb dX1_measure_75 (lv_at hl 0 rfl) ?_
                  refine g_iald (v := nI (G 3 i)) (i := i) C0 X 4 0 rfl rfl (by omega) rfl rfl dX1_measure_77 ?_
                  have hb1 := rnds_bd hd2 (G 1 i) (by omega)
                  have hb2 := rnds_bd hd2 (G 2 i) (by omega)
                  refine g_callV (As := [.int (nI (G 1 i)), .int (nI (G 2 i)), .int (nI (G 3 i))]) (rest := []) (wr := []) (C0.sz hl) X (c_X1_shorten l D tk h G d2 e (G 1 i) (G 2 i) (G 3 i) (by first | assumption | omega) (by first | assumption | omega) (by first | assumption | omega) (by first | assumption | omega) (by first | assumption | omega)) ⟨tb430, tb433, tb2, ⟨by decide, by decide, rfl⟩, rfl, rfl, Nat.le_of_ble_eq_true rfl, Nat.le_of_ble_eq_true rfl⟩ tb432 tbs14 0 1 rfl rfl rfl rfl [0, 1, 2, 3, 4, 5, 6, 7, 8, 9] [] rfl rfl rfl rfl rfl (Nat.le_of_ble_eq_true rfl) ⟨Nat.le_of_ble_eq_true rfl, Nat.le_of_ble_eq_true rfl⟩ dX1_measure_78 (fun _ H locs _ X => ?_)
                  have X : Hx D zA zs H locs (gW tk h G (rel d2 (G 1 i) (G 2 i) (G 3 i)) e) := X
                  refine g_ifeqB (x := relQ d2 (G 1 i) (G 2 i) (G 3 i)) (tgt := 86) C0 dX1_measure_81 rfl (fun c11 => ?_) (fun c12 => ?_)
                  · refine g_iinc (j := 1) (z := i + 1) (lv' := [(4, .int (nI (i + 1))), (2, .int (nI nr2)), (3, .int (nI rd)), (0, .ref (h 0)), (1, .int (nI t))]) C0 rfl (by first | rfl | omega) dX1_measure_86 hl (k := 0) rfl (by decide) rfl (fun ls hl => ?_)
                    refine lv_goto (tgt := 38) hx hb dX1_measure_89 (by decide) ?_
                    exact ih38 (i + 1) nr2 (rel d2 (G 1 i) (G 2 i) (G 3 i)) (by omega) (by omega) (by omega) (by first | exact relaxTo_s0 (by simpa using c11) hd2 | exact relaxTo_s1 (by simpa using c10) (by omega) (by omega) hd2) (by first | exact hq2 | (rw [rel_q0 c11]; exact hq2) | exact fun h0 => absurd h0 (by decide)) H locs ls X (lv_sub hl [0, 1, 2, 3, 4] rfl)
                  · refine g_iconst (n := 1) C0 rfl dX1_measure_84 ?_
                    refine lv_istore_n (lv' := [(2, .int (nI 1)), (4, .int (nI i)), (3, .int (nI rd)), (0, .ref (h 0)), (1, .int (nI t))]) hx hb dX1_measure_85 rfl hl (by decide) rfl (fun ls hl => ?_)
                    refine g_iinc (j := 1) (z := i + 1) (lv' := [(4, .int (nI (i + 1))), (2, .int (nI 1)), (3, .int (nI rd)), (0, .ref (h 0)), (1, .int (nI t))]) C0 rfl (by first | rfl | omega) dX1_measure_86 hl (k := 1) rfl (by decide) rfl (fun ls hl => ?_)
                    refine lv_goto (tgt := 38) hx hb dX1_measure_89 (by decide) ?_
                    exact ih38 (i + 1) 1 (rel d2 (G 1 i) (G 2 i) (G 3 i)) (by omega) (by omega) (by omega) (by first | exact relaxTo_s0 (by simpa using c12) hd2 | exact relaxTo_s1 (by simpa using c10) (by omega) (by omega) hd2) (by first | exact hq2 | (rw [rel_q0 c12]; exact hq2) | exact fun h0 => absurd h0 (by decide)) H locs ls X (lv_sub hl [0, 1, 2, 3, 4] rfl)
          exact J38 ((G 8 1 - 0) + 1) 0 0 d1 (Nat.lt_succ_self _) (by omega) (by omega) (by exact hd) (by exact fun _ => hd) H locs ls X (lv_sub hl [0, 1, 2, 3, 4] rfl)
  exact J21 ((G 8 0 - 1) + 1) 1 1 (u1 uq1 t 0) (Nat.lt_succ_self _) (by omega) (by omega) (by omega) (by exact dz_fill hp2) (by omega) H locs ls X (lv_sub hl [0, 1, 2, 3] rfl)
set_option maxHeartbeats 4000000 in
set_option maxRecDepth 100000 in
theorem c_X1_hearers (l : Launch) (D : va_G) (tk : Nat → ClassId) (h : Nat → Nat) (G : Nat → Nat → Nat) (d e : Nat → Nat) (t b : Nat) (hw : GW G) (ht0 : t < G 8 0) (hb : b ≤ 60) : MX l yX1_hearers cX1_hearers 3 (some .int) ⟨3, 0, 0, 89⟩ D (TYS tk) [.ref (h 0), .int (nI t), .int (nI b)] (gW tk h G d e) (fun (_ : Unit) => True) (fun _ => some (.int (nI (hearS (cgv G) t b)))) (fun _ => gW tk h G (dist (cgv G) t) e) 0 0 := by
  refine MX.of_i (by decide) rfl ?_
  intro zp ze zs zm za zb zt zc zA zQ ls C0 hnm X hl hE
  have hx := C0.1
  have hb := C0.2.1
  have ht := C0.2.2.2.2.1
  have X : Hx D zA zs zs.heap [] (gW tk h G d e) := X
  have hl : lv_has ls 3 [(0, .ref (h 0)), (1, .int (nI t)), (2, .int (nI b))] := hl
  obtain ⟨H, hH⟩ : ∃ H, H = zs.heap := ⟨_, rfl⟩
  rw [← hH] at X ⊢
  obtain ⟨locs, hlo⟩ : ∃ L : List Loc, L = [] := ⟨_, rfl⟩
  rw [← hlo] at X ⊢
  refine lv_aload_n hx hb dX1_hearers_0 rfl (lv_at hl 0 rfl) ?_
  refine lv_aload_n hx hb dX1_hearers_1 rfl (lv_at hl 0 rfl) ?_
  refine lv_iload_n hx hb dX1_hearers_2 rfl (lv_at hl 1 rfl) ?_
  refine g_callV (As := [.int (nI t)]) (rest := [.ref (h 0)]) (wr := []) (C0.sz hl) X (c_X1_measure l D tk h G d e t (by first | assumption | omega) (by first | assumption | omega)) ⟨tb419, tb422, tb2, ⟨by decide, by decide, rfl⟩, rfl, rfl, Nat.le_of_ble_eq_true rfl, Nat.le_of_ble_eq_true rfl⟩ tb420 tb421 0 1 rfl rfl rfl rfl [0, 1, 2, 3, 4, 5, 6, 7, 8, 9] [] rfl rfl rfl rfl rfl (Nat.le_of_ble_eq_true rfl) ⟨Nat.le_of_ble_eq_true rfl, Nat.le_of_ble_eq_true rfl⟩ dX1_hearers_3 (fun _ H locs _ X => ?_)
  have X : Hx D zA zs H locs (gW tk h G (dist (cgv G) t) e) := X
  refine lv_iload_n hx hb dX1_hearers_6 rfl (lv_at hl 2 rfl) ?_
  refine g_callV (As := [.ref (h 8), .int (nI b)]) (rest := []) (wr := []) (C0.sz hl) X (c_X1_hearersWithin l D tk h G (dist (cgv G) t) e b (by first | assumption | omega) (by exact fun x _ => dist_le _ _ x) (by first | assumption | omega)) ⟨tb437, tb440, tb2, ⟨by decide, by decide, rfl⟩, rfl, rfl, Nat.le_of_ble_eq_true rfl, Nat.le_of_ble_eq_true rfl⟩ tb439 tbs15 0 1 rfl rfl rfl rfl [0, 1, 2, 3, 4, 5, 6, 7, 8, 9] [] rfl rfl rfl rfl rfl (Nat.le_of_ble_eq_true rfl) ⟨Nat.le_of_ble_eq_true rfl, Nat.le_of_ble_eq_true rfl⟩ dX1_hearers_7 (fun _ H locs _ X => ?_)
  have X : Hx D zA zs H locs (gW tk h G (dist (cgv G) t) e) := X
  exact hE (v := nI (hearW (cgv G) (dist (cgv G) t) b)) () rfl trivial X dX1_hearers_10
set_option maxHeartbeats 4000000 in
set_option maxRecDepth 100000 in
theorem c_X1_treesInReach (l : Launch) (D : va_G) (tk : Nat → ClassId) (h : Nat → Nat) (G : Nat → Nat → Nat) (d e : Nat → Nat) (t : Nat) (hw : GW G) (ht0 : t < G 8 0) : MX l yX1_treesInReach cX1_treesInReach 5 (some .int) ⟨3, 0, 0, 89⟩ D (TYS tk) [.ref (h 0), .int (nI t)] (gW tk h G d e) (fun (_ : Unit) => True) (fun _ => some (.int (nI (bset (reachP (cgv G) t) (G 8 0))))) (fun _ => gW tk h G (dist (cgv G) t) e) 0 0 := by
  refine MX.of_i (by decide) rfl ?_
  intro zp ze zs zm za zb zt zc zA zQ ls C0 hnm X hl hE
  have hx := C0.1
  have hb := C0.2.1
  have ht := C0.2.2.2.2.1
  have X : Hx D zA zs zs.heap [] (gW tk h G d e) := X
  have hl : lv_has ls 5 [(0, .ref (h 0)), (1, .int (nI t))] := hl
  obtain ⟨hw1, hw2, hw3, hw4, hw5, hw6, hw7, hw8⟩ := id hw
  obtain ⟨H, hH⟩ : ∃ H, H = zs.heap := ⟨_, rfl⟩
  rw [← hH] at X ⊢
  obtain ⟨locs, hlo⟩ : ∃ L : List Loc, L = [] := ⟨_, rfl⟩
  rw [← hlo] at X ⊢
  refine lv_aload_n hx hb dX1_treesInReach_0 rfl (lv_at hl 0 rfl) ?_
  refine lv_iload_n hx hb dX1_treesInReach_1 rfl (lv_at hl 1 rfl) ?_
  refine g_callV (As := [.int (nI t)]) (rest := []) (wr := []) (C0.sz hl) X (c_X1_measure l D tk h G d e t (by first | assumption | omega) (by first | assumption | omega)) ⟨tb419, tb422, tb2, ⟨by decide, by decide, rfl⟩, rfl, rfl, Nat.le_of_ble_eq_true rfl, Nat.le_of_ble_eq_true rfl⟩ tb420 tb421 0 1 rfl rfl rfl rfl [0, 1, 2, 3, 4, 5, 6, 7, 8, 9] [] rfl rfl rfl rfl rfl (Nat.le_of_ble_eq_true rfl) ⟨Nat.le_of_ble_eq_true rfl, Nat.le_of_ble_eq_true rfl⟩ dX1_treesInReach_2 (fun _ H locs _ X => ?_)
  have X : Hx D zA zs H locs (gW tk h G (dist (cgv G) t) e) := X
  refine lv_astore_n (lv' := [(2, .ref (h 8)), (0, .ref (h 0)), (1, .int (nI t))]) hx hb dX1_treesInReach_5 rfl hl (by decide) rfl (fun ls hl => ?_)
  refine g_iconst (n := 0) C0 rfl dX1_treesInReach_6 ?_
  refine lv_istore_n (lv' := [(3, .int (nI 0)), (2, .ref (h 8)), (0, .ref (h 0)), (1, .int (nI t))]) hx hb dX1_treesInReach_7 rfl hl (by decide) rfl (fun ls hl => ?_)
  refine g_iconst (n := 0) C0 rfl dX1_treesInReach_8 ?_
  refine lv_istore (lv' := [(4, .int (nI 0)), (3, .int (nI 0)), (2, .ref (h 8)), (0, .ref (h 0)), (1, .int (nI t))]) hx hb dX1_treesInReach_9 hl (by decide) rfl (fun ls hl => ?_)
  have J11 : ∀ (fz : Nat) (i bs : Nat), G 8 0 - i < fz → ∀ (hi : i ≤ G 8 0) (hbs : bs = bset (reachP (cgv G) t) i) (H : Heap) (locs : List Loc) (ls : Array Slot), Hx D zA zs H locs (gW tk h G (dist (cgv G) t) e) → lv_has ls 5 [(4, .int (nI i)), (3, .int (nI bs)), (2, .ref (h 8)), (0, .ref (h 0)), (1, .int (nI t))] → W zp l ze ⟨3, 0, 0, 89⟩ zs zm za zb zt zc H locs 0 0 zQ (F0 zm 11 ls []) := by
    intro fz
    induction fz with
    | zero => intro i bs hz; exact absurd hz (Nat.not_lt_zero _)
    | succ fz ih11 =>
      intro i bs hz11 hi hbs H locs ls X hl
      refine lv_iload hx hb dX1_treesInReach_11 (lv_at hl 0 rfl) ?_
      refine lv_aload_n hx hb dX1_treesInReach_13 rfl (lv_at hl 3 rfl) ?_
      refine g_get (v := .int (nI (G 8 0))) C0 X kX1 0 0 tb31 rfl rfl rfl dX1_treesInReach_14 ?_
      refine g_icmp_ge (x := i) (y := G 8 0) (tgt := 43) C0 (by omega) (by omega) dX1_treesInReach_17 rfl (fun c1 => ?_) (fun c2 => ?_)
      · refine lv_iload_n hx hb dX1_treesInReach_43 rfl (lv_at hl 1 rfl) ?_
        exact hE (v := nI bs) () (by rw [hbs, show i = G 8 0 by omega]) trivial X dX1_treesInReach_44
      · refine lv_aload_n hx hb dX1_treesInReach_20 rfl (lv_at hl 2 rfl) ?_
        refine lv_iload hx hb dX1_treesInReach_21 (lv_at hl 0 rfl) ?_
        refine g_iald (v := nI ((dist (cgv G) t) i)) (i := i) C0 X 8 0 rfl rfl (by omega) rfl rfl dX1_treesInReach_23 ?_
        refine g_sipush (n := 1000) C0 (by decide) dX1_treesInReach_24 ?_
        have hL := dist_le (cgv G) t i
        refine g_icmp_eq (x := (dist (cgv G) t) i) (y := 1000) (tgt := 37) C0 (by omega) (by omega) dX1_treesInReach_27 rfl (fun c3 => ?_) (fun c4 => ?_)
        · refine g_iinc (j := 1) (z := i + 1) (lv' := [(4, .int (nI (i + 1))), (3, .int (nI bs)), (2, .ref (h 8)), (0, .ref (h 0)), (1, .int (nI t))]) C0 rfl (by first | rfl | omega) dX1_treesInReach_37 hl (k := 0) rfl (by decide) rfl (fun ls hl => ?_)
          refine lv_goto (tgt := 11) hx hb dX1_treesInReach_40 (by decide) ?_
          exact ih11 (i + 1) bs (by omega) (by omega) (by first | (rw [bset_f (decide_eq_false (fun q => q c3))]; exact hbs) | (rw [bset_t (decide_eq_true c3), hbs])) H locs ls X (lv_sub hl [0, 1, 2, 3, 4] rfl)
        · refine lv_iload_n hx hb dX1_treesInReach_30 rfl (lv_at hl 1 rfl) ?_
          refine g_iconst (n := 1) C0 rfl dX1_treesInReach_31 ?_
          refine lv_iload hx hb dX1_treesInReach_32 (lv_at hl 0 rfl) ?_
          refine g_ishl (n := 2 ^ i) C0 (by exact sh_ok (by omega)) (by first | exact Nat.one_mul _ | rfl) dX1_treesInReach_34 ?_
          refine g_ior (n := bs ||| (2 ^ i)) C0 rfl dX1_treesInReach_35 ?_
          refine lv_istore_n (lv' := [(3, .int (nI (bs ||| (2 ^ i)))), (4, .int (nI i)), (2, .ref (h 8)), (0, .ref (h 0)), (1, .int (nI t))]) hx hb dX1_treesInReach_36 rfl hl (by decide) rfl (fun ls hl => ?_)
          refine g_iinc (j := 1) (z := i + 1) (lv' := [(4, .int (nI (i + 1))), (3, .int (nI (bs ||| (2 ^ i)))), (2, .ref (h 8)), (0, .ref (h 0)), (1, .int (nI t))]) C0 rfl (by first | rfl | omega) dX1_treesInReach_37 hl (k := 1) rfl (by decide) rfl (fun ls hl => ?_)
          refine lv_goto (tgt := 11) hx hb dX1_treesInReach_40 (by decide) ?_
          exact ih11 (i + 1) (bs ||| (2 ^ i)) (by omega) (by omega) (by first | (rw [bset_f (decide_eq_false (fun q => q c4))]; exact hbs) | (rw [bset_t (decide_eq_true c4), hbs])) H locs ls X (lv_sub hl [0, 1, 2, 3, 4] rfl)
  exact J11 ((G 8 0 - 0) + 1) 0 0 (Nat.lt_succ_self _) (by omega) (by rfl) H locs ls X (lv_sub hl [0, 1, 2, 3, 4] rfl)
set_option maxHeartbeats 4000000 in
set_option maxRecDepth 100000 in
theorem c_X1_wholeRootsOf (l : Launch) (D : va_G) (tk : Nat → ClassId) (h : Nat → Nat) (G : Nat → Nat → Nat) (d e : Nat → Nat) (t : Nat) (hw : GW G) (ht0 : t < G 8 0) : MX l yX1_wholeRootsOf cX1_wholeRootsOf 4 (some .int) ⟨1, 0, 0, 21⟩ D (TYS tk) [.ref (h 0), .int (nI t)] (gW tk h G d e) (fun (_ : Unit) => True) (fun _ => some (.int (nI (cnt (wholeP (cgv G) t) (G 8 1))))) (fun _ => gW tk h G d e) 0 0 := by
  refine MX.of_i (by decide) rfl ?_
  intro zp ze zs zm za zb zt zc zA zQ ls C0 hnm X hl hE
  have hx := C0.1
  have hb := C0.2.1
  have ht := C0.2.2.2.2.1
  have X : Hx D zA zs zs.heap [] (gW tk h G d e) := X
  have hl : lv_has ls 4 [(0, .ref (h 0)), (1, .int (nI t))] := hl
  obtain ⟨hw1, hw2, hw3, hw4, hw5, hw6, hw7, hw8⟩ := id hw
  have hw0 := hw.cut
  obtain ⟨H, hH⟩ : ∃ H, H = zs.heap := ⟨_, rfl⟩
  rw [← hH] at X ⊢
  obtain ⟨locs, hlo⟩ : ∃ L : List Loc, L = [] := ⟨_, rfl⟩
  rw [← hlo] at X ⊢
  refine g_iconst (n := 0) C0 rfl dX1_wholeRootsOf_0 ?_
  refine lv_istore_n (lv' := [(2, .int (nI 0)), (0, .ref (h 0)), (1, .int (nI t))]) hx hb dX1_wholeRootsOf_1 rfl hl (by decide) rfl (fun ls hl => ?_)
  refine g_iconst (n := 0) C0 rfl dX1_wholeRootsOf_2 ?_
  refine lv_istore_n (lv' := [(3, .int (nI 0)), (2, .int (nI 0)), (0, .ref (h 0)), (1, .int (nI t))]) hx hb dX1_wholeRootsOf_3 rfl hl (by decide) rfl (fun ls hl => ?_)
  have J4 : ∀ (fz : Nat) (i bs : Nat), G 8 1 - i < fz → ∀ (hi : i ≤ G 8 1) (hbs : bs = cnt (wholeP (cgv G) t) i) (hbl : bs ≤ i) (H : Heap) (locs : List Loc) (ls : Array Slot), Hx D zA zs H locs (gW tk h G d e) → lv_has ls 4 [(3, .int (nI i)), (2, .int (nI bs)), (0, .ref (h 0)), (1, .int (nI t))] → W zp l ze ⟨1, 0, 0, 21⟩ zs zm za zb zt zc H locs 0 0 zQ (F0 zm 4 ls []) := by
    intro fz
    induction fz with
    | zero => intro i bs hz; exact absurd hz (Nat.not_lt_zero _)
    | succ fz ih4 =>
      intro i bs hz4 hi hbs hbl H locs ls X hl
      refine lv_iload_n hx hb dX1_wholeRootsOf_4 rfl (lv_at hl 0 rfl) ?_
      refine lv_aload_n hx hb dX1_wholeRootsOf_5 rfl (lv_at hl 2 rfl) ?_
      refine g_get (v := .int (nI (G 8 1))) C0 X kX1 0 2 tb37 rfl rfl rfl dX1_wholeRootsOf_6 ?_
      refine g_icmp_ge (x := i) (y := G 8 1) (tgt := 49) C0 (by omega) (by omega) dX1_wholeRootsOf_9 rfl (fun c1 => ?_) (fun c2 => ?_)
      · refine lv_iload_n hx hb dX1_wholeRootsOf_49 rfl (lv_at hl 1 rfl) ?_
        exact hE (v := nI bs) () (by rw [hbs, show i = G 8 1 by omega]) trivial X dX1_wholeRootsOf_50
      · refine lv_aload_n hx hb dX1_wholeRootsOf_12 rfl (lv_at hl 2 rfl) ?_
        refine lv_iload_n hx hb dX1_wholeRootsOf_13 rfl (lv_at hl 0 rfl) ?_
        have hr7 := hw7 i (by omega)
        refine g_callV (As := [.int (nI i)]) (rest := []) (wr := []) (C0.sz hl) X (c_X1_isWhole l D tk h G d e i (by first | assumption | omega) (by first | assumption | omega)) ⟨tb426, tb429, tb2, ⟨by decide, by decide, rfl⟩, rfl, rfl, Nat.le_of_ble_eq_true rfl, Nat.le_of_ble_eq_true rfl⟩ tb427 tb428 0 1 rfl rfl rfl rfl [0, 1, 2, 3, 4, 5, 6, 7, 8, 9] [] rfl rfl rfl rfl rfl (Nat.le_of_ble_eq_true rfl) ⟨Nat.le_of_ble_eq_true rfl, Nat.le_of_ble_eq_true rfl⟩ dX1_wholeRootsOf_14 (fun _ H locs _ X => ?_)
        have X : Hx D zA zs H locs (gW tk h G d e) := X
        refine g_ifeqB (x := !(G 4 0).testBit i) (tgt := 43) C0 dX1_wholeRootsOf_17 rfl (fun c3 => ?_) (fun c4 => ?_)
        · refine g_iinc (j := 1) (z := i + 1) (lv' := [(3, .int (nI (i + 1))), (2, .int (nI bs)), (0, .ref (h 0)), (1, .int (nI t))]) C0 rfl (by first | rfl | omega) dX1_wholeRootsOf_43 hl (k := 0) rfl (by decide) rfl (fun ls hl => ?_)
          refine lv_goto (tgt := 4) hx hb dX1_wholeRootsOf_46 (by decide) ?_
          exact ih4 (i + 1) bs (by omega) (by omega) (by first | (rw [cnt_f (whole_f0 (by simpa using c3))]; exact hbs) | (rw [cnt_t (whole_1 (by simpa using c2) c3)]; omega) | (rw [cnt_t (whole_2 (by simpa using c) c3)]; omega) | (rw [cnt_f (whole_f1 c2 c3)]; exact hbs)) (by omega) H locs ls X (lv_sub hl [0, 1, 2, 3] rfl)
        · refine lv_aload_n hx hb dX1_wholeRootsOf_20 rfl (lv_at hl 2 rfl) ?_
          refine g_get (v := .ref (h 2)) C0 X kX1 0 3 tb40 rfl rfl rfl dX1_wholeRootsOf_21 ?_
          refine lv_iload_n hx hb dX1_wholeRootsOf_24 rfl (lv_at hl 0 rfl) ?_
          refine g_iald (v := nI (G 1 i)) (i := i) C0 X 2 0 rfl rfl (by omega) rfl rfl dX1_wholeRootsOf_25 ?_
          refine lv_iload_n hx hb dX1_wholeRootsOf_26 rfl (lv_at hl 3 rfl) ?_
          refine g_icmp_eq (x := G 1 i) (y := t) (tgt := 40) C0 (by omega) (by omega) dX1_wholeRootsOf_27 rfl (fun c5 => ?_) (fun c6 => ?_)
          · refine g_iinc (j := 1) (z := bs + 1) (lv' := [(2, .int (nI (bs + 1))), (3, .int (nI i)), (0, .ref (h 0)), (1, .int (nI t))]) C0 rfl (by first | rfl | omega) dX1_wholeRootsOf_40 hl (k := 1) rfl (by decide) rfl (fun ls hl => ?_)
            refine g_iinc (j := 1) (z := i + 1) (lv' := [(3, .int (nI (i + 1))), (2, .int (nI (bs + 1))), (0, .ref (h 0)), (1, .int (nI t))]) C0 rfl (by first | rfl | omega) dX1_wholeRootsOf_43 hl (k := 1) rfl (by decide) rfl (fun ls hl => ?_)
            refine lv_goto (tgt := 4) hx hb dX1_wholeRootsOf_46 (by decide) ?_
            exact ih4 (i + 1) (bs + 1) (by omega) (by omega) (by first | (rw [cnt_f (whole_f0 (by simpa using c5))]; exact hbs) | (rw [cnt_t (whole_1 (by simpa using c4) c5)]; omega) | (rw [cnt_t (whole_2 (by simpa using c2) c5)]; omega) | (rw [cnt_f (whole_f1 c4 c5)]; exact hbs)) (by omega) H locs ls X (lv_sub hl [0, 1, 2, 3] rfl)
          · refine lv_aload_n hx hb dX1_wholeRootsOf_30 rfl (lv_at hl 2 rfl) ?_
            refine g_get (v := .ref (h 3)) C0 X kX1 0 4 tb42 rfl rfl rfl dX1_wholeRootsOf_31 ?_
            refine lv_iload_n hx hb dX1_wholeRootsOf_34 rfl (lv_at hl 0 rfl) ?_
            refine g_iald (v := nI (G 2 i)) (i := i) C0 X 3 0 rfl rfl (by omega) rfl rfl dX1_wholeRootsOf_35 ?_
            refine lv_iload_n hx hb dX1_wholeRootsOf_36 rfl (lv_at hl 3 rfl) ?_
            refine g_icmp_ne (x := G 2 i) (y := t) (tgt := 43) C0 (by omega) (by omega) dX1_wholeRootsOf_37 rfl (fun c7 => ?_) (fun c8 => ?_)
            · refine g_iinc (j := 1) (z := i + 1) (lv' := [(3, .int (nI (i + 1))), (2, .int (nI bs)), (0, .ref (h 0)), (1, .int (nI t))]) C0 rfl (by first | rfl | omega) dX1_wholeRootsOf_43 hl (k := 0) rfl (by decide) rfl (fun ls hl => ?_)
              refine lv_goto (tgt := 4) hx hb dX1_wholeRootsOf_46 (by decide) ?_
              exact ih4 (i + 1) bs (by omega) (by omega) (by first | (rw [cnt_f (whole_f0 (by simpa using c7))]; exact hbs) | (rw [cnt_t (whole_1 (by simpa using c6) c7)]; omega) | (rw [cnt_t (whole_2 (by simpa using c4) c7)]; omega) | (rw [cnt_f (whole_f1 c6 c7)]; exact hbs)) (by omega) H locs ls X (lv_sub hl [0, 1, 2, 3] rfl)
            · refine g_iinc (j := 1) (z := bs + 1) (lv' := [(2, .int (nI (bs + 1))), (3, .int (nI i)), (0, .ref (h 0)), (1, .int (nI t))]) C0 rfl (by first | rfl | omega) dX1_wholeRootsOf_40 hl (k := 1) rfl (by decide) rfl (fun ls hl => ?_)
              refine g_iinc (j := 1) (z := i + 1) (lv' := [(3, .int (nI (i + 1))), (2, .int (nI (bs + 1))), (0, .ref (h 0)), (1, .int (nI t))]) C0 rfl (by first | rfl | omega) dX1_wholeRootsOf_43 hl (k := 1) rfl (by decide) rfl (fun ls hl => ?_)
              refine lv_goto (tgt := 4) hx hb dX1_wholeRootsOf_46 (by decide) ?_
              exact ih4 (i + 1) (bs + 1) (by omega) (by omega) (by first | (rw [cnt_f (whole_f0 (by simpa using c8))]; exact hbs) | (rw [cnt_t (whole_1 (by simpa using c6) c8)]; omega) | (rw [cnt_t (whole_2 (by simpa using c4) c8)]; omega) | (rw [cnt_f (whole_f1 c6 c8)]; exact hbs)) (by omega) H locs ls X (lv_sub hl [0, 1, 2, 3] rfl)
  exact J4 ((G 8 1 - 0) + 1) 0 0 (Nat.lt_succ_self _) (by omega) (by rfl) (by omega) H locs ls X (lv_sub hl [0, 1, 2, 3] rfl)
set_option maxHeartbeats 4000000 in
set_option maxRecDepth 100000 in
theorem c_X1_leastBreath (l : Launch) (D : va_G) (tk : Nat → ClassId) (h : Nat → Nat) (G : Nat → Nat → Nat) (d e : Nat → Nat) (t sm am : Nat) (hw : GW G) (ht0 : t < G 8 0) (hs : sm < 2 ^ 31) : MX l yX1_leastBreath cX1_leastBreath 6 (some .int) ⟨3, 0, 0, 89⟩ D (TYS tk) [.ref (h 0), .int (nI t), .int (nI sm), .int (nI am)] (gW tk h G d e) (fun (_ : Unit) => True) (fun _ => some (.int (orNone (leastS (cgv G) t sm am)))) (fun _ => gW tk h G (dist (cgv G) t) e) 0 0 := by
  refine MX.of_i (by decide) rfl ?_
  intro zp ze zs zm za zb zt zc zA zQ ls C0 hnm X hl hE
  have hx := C0.1
  have hb := C0.2.1
  have ht := C0.2.2.2.2.1
  have X : Hx D zA zs zs.heap [] (gW tk h G d e) := X
  have hl : lv_has ls 6 [(0, .ref (h 0)), (1, .int (nI t)), (2, .int (nI sm)), (3, .int (nI am))] := hl
  obtain ⟨hw1, hw2, hw3, hw4, hw5, hw6, hw7, hw8⟩ := id hw
  obtain ⟨H, hH⟩ : ∃ H, H = zs.heap := ⟨_, rfl⟩
  rw [← hH] at X ⊢
  obtain ⟨locs, hlo⟩ : ∃ L : List Loc, L = [] := ⟨_, rfl⟩
  rw [← hlo] at X ⊢
  refine lv_aload_n hx hb dX1_leastBreath_0 rfl (lv_at hl 0 rfl) ?_
  refine lv_iload_n hx hb dX1_leastBreath_1 rfl (lv_at hl 1 rfl) ?_
  refine g_callV (As := [.int (nI t)]) (rest := []) (wr := []) (C0.sz hl) X (c_X1_measure l D tk h G d e t (by first | assumption | omega) (by first | assumption | omega)) ⟨tb419, tb422, tb2, ⟨by decide, by decide, rfl⟩, rfl, rfl, Nat.le_of_ble_eq_true rfl, Nat.le_of_ble_eq_true rfl⟩ tb420 tb421 0 1 rfl rfl rfl rfl [0, 1, 2, 3, 4, 5, 6, 7, 8, 9] [] rfl rfl rfl rfl rfl (Nat.le_of_ble_eq_true rfl) ⟨Nat.le_of_ble_eq_true rfl, Nat.le_of_ble_eq_true rfl⟩ dX1_leastBreath_2 (fun _ H locs _ X => ?_)
  have X : Hx D zA zs H locs (gW tk h G (dist (cgv G) t) e) := X
  refine lv_astore (lv' := [(4, .ref (h 8)), (0, .ref (h 0)), (1, .int (nI t)), (2, .int (nI sm)), (3, .int (nI am))]) hx hb dX1_leastBreath_5 hl (by decide) rfl (fun ls hl => ?_)
  refine g_iconst (n := 1) C0 rfl dX1_leastBreath_7 ?_
  refine lv_istore (lv' := [(5, .int (nI 1)), (4, .ref (h 8)), (0, .ref (h 0)), (1, .int (nI t)), (2, .int (nI sm)), (3, .int (nI am))]) hx hb dX1_leastBreath_8 hl (by decide) rfl (fun ls hl => ?_)
  have J10 : ∀ (fz : Nat) (i : Nat), 61 - i < fz → ∀ (hi1 : 1 ≤ i) (hi : i ≤ 61) (hbs : leastS (cgv G) t sm am = lfind (fun b => decide (hearS (cgv G) t b &&& am = sm)) (61 - i) i) (H : Heap) (locs : List Loc) (ls : Array Slot), Hx D zA zs H locs (gW tk h G (dist (cgv G) t) e) → lv_has ls 6 [(5, .int (nI i)), (4, .ref (h 8)), (0, .ref (h 0)), (1, .int (nI t)), (2, .int (nI sm)), (3, .int (nI am))] → W zp l ze ⟨3, 0, 0, 89⟩ zs zm za zb zt zc H locs 0 0 zQ (F0 zm 10 ls []) := by
    intro fz
    induction fz with
    | zero => intro i hz; exact absurd hz (Nat.not_lt_zero _)
    | succ fz ih10 =>
      intro i hz10 hi1 hi hbs H locs ls X hl
      refine lv_iload hx hb dX1_leastBreath_10 (lv_at hl 0 rfl) ?_
      refine g_bipush (n := 60) C0 (by decide) dX1_leastBreath_12 ?_
      refine g_icmp_gt (x := i) (y := 60) (tgt := 40) C0 (by omega) (by omega) dX1_leastBreath_14 rfl (fun c1 => ?_) (fun c2 => ?_)
      · refine lv_bipush (v := (-4)) hx hb dX1_leastBreath_40 (by decide) ?_
        exact hE (v := (-4)) () (by rw [hbs, show 61 - i = 0 by omega]; rfl) trivial X dX1_leastBreath_42
      · refine lv_aload_n hx hb dX1_leastBreath_17 rfl (lv_at hl 2 rfl) ?_
        refine lv_aload hx hb dX1_leastBreath_18 (lv_at hl 1 rfl) ?_
        refine lv_iload hx hb dX1_leastBreath_20 (lv_at hl 0 rfl) ?_
        refine g_callV (As := [.ref (h 8), .int (nI i)]) (rest := []) (wr := []) (C0.sz hl) X (c_X1_hearersWithin l D tk h G (dist (cgv G) t) e i (by first | assumption | omega) (by exact fun x _ => dist_le _ _ x) (by first | assumption | omega)) ⟨tb437, tb440, tb2, ⟨by decide, by decide, rfl⟩, rfl, rfl, Nat.le_of_ble_eq_true rfl, Nat.le_of_ble_eq_true rfl⟩ tb439 tbs15 0 1 rfl rfl rfl rfl [0, 1, 2, 3, 4, 5, 6, 7, 8, 9] [] rfl rfl rfl rfl rfl (Nat.le_of_ble_eq_true rfl) ⟨Nat.le_of_ble_eq_true rfl, Nat.le_of_ble_eq_true rfl⟩ dX1_leastBreath_22 (fun _ H locs _ X => ?_)
        have X : Hx D zA zs H locs (gW tk h G (dist (cgv G) t) e) := X
        refine lv_iload_n hx hb dX1_leastBreath_25 rfl (lv_at hl 5 rfl) ?_
        refine g_iand (n := (hearW (cgv G) (dist (cgv G) t) i) &&& am) C0 rfl dX1_leastBreath_26 ?_
        refine lv_iload_n hx hb dX1_leastBreath_27 rfl (lv_at hl 4 rfl) ?_
        have hL := hearS_lt (cgv G) t i hw1
        refine g_icmp_ne (x := (hearW (cgv G) (dist (cgv G) t) i) &&& am) (y := sm) (tgt := 34) C0 (by first | exact and_31 (Nat.lt_of_lt_of_le hL (by decide)) | omega) (by first | exact and_31 (Nat.lt_of_lt_of_le hL (by decide)) | omega) dX1_leastBreath_28 rfl (fun c3 => ?_) (fun c4 => ?_)
        · refine g_iinc (j := 1) (z := i + 1) (lv' := [(5, .int (nI (i + 1))), (4, .ref (h 8)), (0, .ref (h 0)), (1, .int (nI t)), (2, .int (nI sm)), (3, .int (nI am))]) C0 rfl (by first | rfl | omega) dX1_leastBreath_34 hl (k := 0) rfl (by decide) rfl (fun ls hl => ?_)
          refine lv_goto (tgt := 10) hx hb dX1_leastBreath_37 (by decide) ?_
          exact ih10 (i + 1) (by omega) (by omega) (by omega) (by rw [hbs]; exact lfind_s (by omega) (decide_eq_false c3)) H locs ls X (lv_sub hl [0, 1, 2, 3, 4, 5] rfl)
        · refine lv_iload hx hb dX1_leastBreath_31 (lv_at hl 0 rfl) ?_
          exact hE (v := nI i) () (by rw [hbs, lfind_y (by omega) (decide_eq_true c4)]; exact congrArg (fun z => some (Value.int z)) (orNone_p (by omega))) trivial X dX1_leastBreath_33
  exact J10 ((61 - 1) + 1) 1 (Nat.lt_succ_self _) (by omega) (by omega) (by rfl) H locs ls X (lv_sub hl [0, 1, 2, 3, 4, 5] rfl)
set_option maxHeartbeats 4000000 in
set_option maxRecDepth 100000 in
theorem c_X1_listen (l : Launch) (D : va_G) (tk : Nat → ClassId) (h : Nat → Nat) (G : Nat → Nat → Nat) (d e : Nat → Nat) (hw : GW G) : MX l yX1_listen cX1_listen 2 (some (.array .int)) ⟨3, 0, 0, 89⟩ D (TYS tk) [.ref (h 0)] (gW tk h G d e) (fun (u : (Nat → Nat) × (Nat → Nat)) => ∀ j, j < G 8 3 → u.2 j = heardS (cgv G) j) (fun u => some (.ref (h 9))) (fun u => gW tk h G u.1 u.2) 0 0 := by
  refine MX.of_a (by decide) rfl ?_
  intro zp ze zs zm za zb zt zc zA zQ ls C0 hnm X hl hE
  have hx := C0.1
  have hb := C0.2.1
  have ht := C0.2.2.2.2.1
  have X : Hx D zA zs zs.heap [] (gW tk h G d e) := X
  have hl : lv_has ls 2 [(0, .ref (h 0))] := hl
  obtain ⟨hw1, hw2, hw3, hw4, hw5, hw6, hw7, hw8⟩ := id hw
  obtain ⟨H, hH⟩ : ∃ H, H = zs.heap := ⟨_, rfl⟩
  rw [← hH] at X ⊢
  obtain ⟨locs, hlo⟩ : ∃ L : List Loc, L = [] := ⟨_, rfl⟩
  rw [← hlo] at X ⊢
  refine g_iconst (n := 0) C0 rfl dX1_listen_0 ?_
  refine lv_istore_n (lv' := [(1, .int (nI 0)), (0, .ref (h 0))]) hx hb dX1_listen_1 rfl hl (by decide) rfl (fun ls hl => ?_)
  have J2 : ∀ (fz : Nat) (i : Nat) (d1 e1 : Nat → Nat), G 8 3 - i < fz → ∀ (hi : i ≤ G 8 3) (he : ∀ j, j < i → e1 j = heardS (cgv G) j) (H : Heap) (locs : List Loc) (ls : Array Slot), Hx D zA zs H locs (gW tk h G d1 e1) → lv_has ls 2 [(1, .int (nI i)), (0, .ref (h 0))] → W zp l ze ⟨3, 0, 0, 89⟩ zs zm za zb zt zc H locs 0 0 zQ (F0 zm 2 ls []) := by
    intro fz
    induction fz with
    | zero => intro i d1 e1 hz; exact absurd hz (Nat.not_lt_zero _)
    | succ fz ih2 =>
      intro i d1 e1 hz2 hi he H locs ls X hl
      refine lv_iload_n hx hb dX1_listen_2 rfl (lv_at hl 0 rfl) ?_
      refine lv_aload_n hx hb dX1_listen_3 rfl (lv_at hl 1 rfl) ?_
      refine g_get (v := .int (nI (G 8 3))) C0 X kX1 0 8 tb51 rfl rfl rfl dX1_listen_4 ?_
      refine g_icmp_ge (x := i) (y := G 8 3) (tgt := 42) C0 (by omega) (by omega) dX1_listen_7 rfl (fun c1 => ?_) (fun c2 => ?_)
      · refine lv_aload_n hx hb dX1_listen_42 rfl (lv_at hl 1 rfl) ?_
        refine g_get (v := .ref (h 9)) C0 X kX1 0 13 tb61 rfl rfl rfl dX1_listen_43 ?_
        exact hE (v := h 9) (d1, e1) rfl (by intro j hj; exact he j (by omega)) X dX1_listen_46
      · refine lv_aload_n hx hb dX1_listen_10 rfl (lv_at hl 1 rfl) ?_
        refine g_get (v := .ref (h 9)) C0 X kX1 0 13 tb61 rfl rfl rfl dX1_listen_11 ?_
        refine lv_iload_n hx hb dX1_listen_14 rfl (lv_at hl 0 rfl) ?_
        refine lv_aload_n hx hb dX1_listen_15 rfl (lv_at hl 1 rfl) ?_
        refine lv_aload_n hx hb dX1_listen_16 rfl (lv_at hl 1 rfl) ?_
        refine lv_aload_n hx hb dX1_listen_17 rfl (lv_at hl 1 rfl) ?_
        refine g_get (v := .ref (h 6)) C0 X kX1 0 10 tb56 rfl rfl rfl dX1_listen_18 ?_
        refine lv_iload_n hx hb dX1_listen_21 rfl (lv_at hl 0 rfl) ?_
        refine g_iald (v := nI (G 6 i)) (i := i) C0 X 6 0 rfl rfl (by omega) rfl rfl dX1_listen_22 ?_
        have hr8 := hw8 i (by omega)
        refine g_callV (As := [.int (nI (G 6 i))]) (rest := [.ref (h 0), .int (nI i), .ref (h 9)]) (wr := []) (C0.sz hl) X (c_X1_measure l D tk h G d1 e1 (G 6 i) (by first | assumption | omega) (by first | assumption | omega)) ⟨tb419, tb422, tb2, ⟨by decide, by decide, rfl⟩, rfl, rfl, Nat.le_of_ble_eq_true rfl, Nat.le_of_ble_eq_true rfl⟩ tb420 tb421 0 1 rfl rfl rfl rfl [0, 1, 2, 3, 4, 5, 6, 7, 8, 9] [] rfl rfl rfl rfl rfl (Nat.le_of_ble_eq_true rfl) ⟨Nat.le_of_ble_eq_true rfl, Nat.le_of_ble_eq_true rfl⟩ dX1_listen_23 (fun _ H locs _ X => ?_)
        have X : Hx D zA zs H locs (gW tk h G (dist (cgv G) (G 6 i)) e1) := X
        refine lv_aload_n hx hb dX1_listen_26 rfl (lv_at hl 1 rfl) ?_
        refine g_get (v := .ref (h 7)) C0 X kX1 0 11 tb58 rfl rfl rfl dX1_listen_27 ?_
        refine lv_iload_n hx hb dX1_listen_30 rfl (lv_at hl 0 rfl) ?_
        refine g_iald (v := nI (G 7 i)) (i := i) C0 X 7 0 rfl rfl (by omega) rfl rfl dX1_listen_31 ?_
        refine g_callV (As := [.ref (h 8), .int (nI (G 7 i))]) (rest := [.int (nI i), .ref (h 9)]) (wr := []) (C0.sz hl) X (c_X1_hearersWithin l D tk h G (dist (cgv G) (G 6 i)) e1 (G 7 i) (by first | assumption | omega) (by exact fun x _ => dist_le _ _ x) (by first | assumption | omega)) ⟨tb437, tb440, tb2, ⟨by decide, by decide, rfl⟩, rfl, rfl, Nat.le_of_ble_eq_true rfl, Nat.le_of_ble_eq_true rfl⟩ tb439 tbs15 0 1 rfl rfl rfl rfl [0, 1, 2, 3, 4, 5, 6, 7, 8, 9] [] rfl rfl rfl rfl rfl (Nat.le_of_ble_eq_true rfl) ⟨Nat.le_of_ble_eq_true rfl, Nat.le_of_ble_eq_true rfl⟩ dX1_listen_32 (fun _ H locs _ X => ?_)
        have X : Hx D zA zs H locs (gW tk h G (dist (cgv G) (G 6 i)) e1) := X
        refine g_iast (g := nf (u1 e1 i (hearW (cgv G) (dist (cgv G) (G 6 i)) (G 7 i)))) (i := i) C0 X 9 0 rfl rfl (by omega) rfl (nf_u1 _ _ _) dX1_listen_35 (fun H locs X => ?_)
        have X : Hx D zA zs H locs (gW tk h G (dist (cgv G) (G 6 i)) (u1 e1 i (hearW (cgv G) (dist (cgv G) (G 6 i)) (G 7 i)))) := X
        refine g_iinc (j := 1) (z := i + 1) (lv' := [(1, .int (nI (i + 1))), (0, .ref (h 0))]) C0 rfl (by first | rfl | omega) dX1_listen_36 hl (k := 0) rfl (by decide) rfl (fun ls hl => ?_)
        refine lv_goto (tgt := 2) hx hb dX1_listen_39 (by decide) ?_
        exact ih2 (i + 1) (dist (cgv G) (G 6 i)) (u1 e1 i (hearW (cgv G) (dist (cgv G) (G 6 i)) (G 7 i))) (by omega) (by omega) (by exact listen_s he) H locs ls X (lv_sub hl [0, 1] rfl)
  exact J2 ((G 8 3 - 0) + 1) 0 d e (Nat.lt_succ_self _) (by omega) (by intro j hj; omega) H locs ls X (lv_sub hl [0, 1] rfl)
set_option maxHeartbeats 4000000 in
set_option maxRecDepth 100000 in
theorem c_X1_areCrossed (l : Launch) (D : va_G) (tk : Nat → ClassId) (h : Nat → Nat) (G : Nat → Nat → Nat) (d e : Nat → Nat) (kk jj : Nat) (hw : GW G) (hk : kk < G 8 3) (hj : jj < G 8 3) (he : ∀ j, j < G 8 3 → e j < 64) : MX l yX1_areCrossed cX1_areCrossed 4 (some .boolean) ⟨0, 0, 0, 0⟩ D (TYS tk) [.ref (h 0), .int (nI kk), .int (nI jj), .ref (h 9)] (gW tk h G d e) (fun (_ : Unit) => True) (fun _ => some (.int (nI (rb (crossE G e kk jj))))) (fun _ => gW tk h G d e) 0 0 := by
  refine MX.of_z (by decide) rfl ?_
  intro zp ze zs zm za zb zt zc zA zQ ls C0 hnm X hl hE
  have hx := C0.1
  have hb := C0.2.1
  have ht := C0.2.2.2.2.1
  have X : Hx D zA zs zs.heap [] (gW tk h G d e) := X
  have hl : lv_has ls 4 [(0, .ref (h 0)), (1, .int (nI kk)), (2, .int (nI jj)), (3, .ref (h 9))] := hl
  obtain ⟨hw1, hw2, hw3, hw4, hw5, hw6, hw7, hw8⟩ := id hw
  have hk8 := hw8 kk hk
  have hj8 := hw8 jj hj
  obtain ⟨H, hH⟩ : ∃ H, H = zs.heap := ⟨_, rfl⟩
  rw [← hH] at X ⊢
  obtain ⟨locs, hlo⟩ : ∃ L : List Loc, L = [] := ⟨_, rfl⟩
  rw [← hlo] at X ⊢
  refine lv_aload_n hx hb dX1_areCrossed_0 rfl (lv_at hl 0 rfl) ?_
  refine g_get (v := .ref (h 5)) C0 X kX1 0 9 tb54 rfl rfl rfl dX1_areCrossed_1 ?_
  refine lv_iload_n hx hb dX1_areCrossed_4 rfl (lv_at hl 1 rfl) ?_
  refine g_iald (v := nI (G 5 kk)) (i := kk) C0 X 5 0 rfl rfl (by omega) rfl rfl dX1_areCrossed_5 ?_
  refine lv_aload_n hx hb dX1_areCrossed_6 rfl (lv_at hl 0 rfl) ?_
  refine g_get (v := .ref (h 5)) C0 X kX1 0 9 tb54 rfl rfl rfl dX1_areCrossed_7 ?_
  refine lv_iload_n hx hb dX1_areCrossed_10 rfl (lv_at hl 2 rfl) ?_
  refine g_iald (v := nI (G 5 jj)) (i := jj) C0 X 5 0 rfl rfl (by omega) rfl rfl dX1_areCrossed_11 ?_
  refine g_icmp_ne (x := G 5 kk) (y := G 5 jj) (tgt := 29) C0 (by omega) (by omega) dX1_areCrossed_12 rfl (fun c1 => ?_) (fun c2 => ?_)
  · refine g_iconst (n := 0) C0 rfl dX1_areCrossed_29 ?_
    exact hE (v := false) () (by first | rw [show crossE G e kk jj = false from cross_f1 c1] | rw [show crossE G e kk jj = false from cross_f2 c1] | (rw [show crossE G e kk jj = true from cross_t c c1])) trivial X dX1_areCrossed_30
  · refine lv_aload_n hx hb dX1_areCrossed_15 rfl (lv_at hl 3 rfl) ?_
    refine lv_iload_n hx hb dX1_areCrossed_16 rfl (lv_at hl 1 rfl) ?_
    refine g_iald (v := nI (e kk)) (i := kk) C0 X 9 0 rfl rfl (by omega) rfl rfl dX1_areCrossed_17 ?_
    refine lv_aload_n hx hb dX1_areCrossed_18 rfl (lv_at hl 3 rfl) ?_
    refine lv_iload_n hx hb dX1_areCrossed_19 rfl (lv_at hl 2 rfl) ?_
    refine g_iald (v := nI (e jj)) (i := jj) C0 X 9 0 rfl rfl (by omega) rfl rfl dX1_areCrossed_20 ?_
    refine g_iand (n := (e kk) &&& (e jj)) C0 rfl dX1_areCrossed_21 ?_
    refine g_ifeq (x := (e kk) &&& (e jj)) (tgt := 29) C0 (by exact and_31 (Nat.lt_of_lt_of_le (he kk hk) (by decide))) dX1_areCrossed_22 rfl (fun c3 => ?_) (fun c4 => ?_)
    · refine g_iconst (n := 0) C0 rfl dX1_areCrossed_29 ?_
      exact hE (v := false) () (by first | rw [show crossE G e kk jj = false from cross_f1 c3] | rw [show crossE G e kk jj = false from cross_f2 c3] | (rw [show crossE G e kk jj = true from cross_t c2 c3])) trivial X dX1_areCrossed_30
    · refine g_iconst (n := 1) C0 rfl dX1_areCrossed_25 ?_
      refine lv_goto (tgt := 30) hx hb dX1_areCrossed_26 (by decide) ?_
      exact hE (v := true) () (by first | rw [show crossE G e kk jj = false from cross_f1 c4] | rw [show crossE G e kk jj = false from cross_f2 c4] | (rw [show crossE G e kk jj = true from cross_t c2 c4])) trivial X dX1_areCrossed_30
set_option maxHeartbeats 4000000 in
set_option maxRecDepth 100000 in
theorem c_X1_talksHeardAt (l : Launch) (D : va_G) (tk : Nat → ClassId) (h : Nat → Nat) (G : Nat → Nat → Nat) (d e : Nat → Nat) (t : Nat) (hw : GW G) (ht0 : t < G 8 0) : MX l yX1_talksHeardAt cX1_talksHeardAt 5 (some .int) ⟨4, 0, 0, 110⟩ D (TYS tk) [.ref (h 0), .int (nI t)] (gW tk h G d e) (fun (u : (Nat → Nat) × (Nat → Nat)) => True) (fun u => some (.int (nI (bset (fun k => (heardS (cgv G) k).testBit t) (G 8 3))))) (fun u => gW tk h G u.1 u.2) 0 0 := by
  refine MX.of_i (by decide) rfl ?_
  intro zp ze zs zm za zb zt zc zA zQ ls C0 hnm X hl hE
  have hx := C0.1
  have hb := C0.2.1
  have ht := C0.2.2.2.2.1
  have X : Hx D zA zs zs.heap [] (gW tk h G d e) := X
  have hl : lv_has ls 5 [(0, .ref (h 0)), (1, .int (nI t))] := hl
  obtain ⟨hw1, hw2, hw3, hw4, hw5, hw6, hw7, hw8⟩ := id hw
  obtain ⟨H, hH⟩ : ∃ H, H = zs.heap := ⟨_, rfl⟩
  rw [← hH] at X ⊢
  obtain ⟨locs, hlo⟩ : ∃ L : List Loc, L = [] := ⟨_, rfl⟩
  rw [← hlo] at X ⊢
  refine lv_aload_n hx hb dX1_talksHeardAt_0 rfl (lv_at hl 0 rfl) ?_
  refine g_callV (As := []) (rest := []) (wr := []) (C0.sz hl) X (c_X1_listen l D tk h G d e (by first | assumption | omega)) ⟨tb415, tb418, tb2, ⟨by decide, by decide, rfl⟩, rfl, rfl, Nat.le_of_ble_eq_true rfl, Nat.le_of_ble_eq_true rfl⟩ tb416 tb417 0 1 rfl rfl rfl rfl [0, 1, 2, 3, 4, 5, 6, 7, 8, 9] [] rfl rfl rfl rfl rfl (Nat.le_of_ble_eq_true rfl) ⟨Nat.le_of_ble_eq_true rfl, Nat.le_of_ble_eq_true rfl⟩ dX1_talksHeardAt_1 (fun uq1 H locs hp2 X => ?_)
  have X : Hx D zA zs H locs (gW tk h G uq1.1 uq1.2) := X
  have hp2 : ∀ j, j < G 8 3 → uq1.2 j = heardS (cgv G) j := hp2
  refine lv_astore_n (lv' := [(2, .ref (h 9)), (0, .ref (h 0)), (1, .int (nI t))]) hx hb dX1_talksHeardAt_4 rfl hl (by decide) rfl (fun ls hl => ?_)
  refine g_iconst (n := 0) C0 rfl dX1_talksHeardAt_5 ?_
  refine lv_istore_n (lv' := [(3, .int (nI 0)), (2, .ref (h 9)), (0, .ref (h 0)), (1, .int (nI t))]) hx hb dX1_talksHeardAt_6 rfl hl (by decide) rfl (fun ls hl => ?_)
  refine g_iconst (n := 0) C0 rfl dX1_talksHeardAt_7 ?_
  refine lv_istore (lv' := [(4, .int (nI 0)), (3, .int (nI 0)), (2, .ref (h 9)), (0, .ref (h 0)), (1, .int (nI t))]) hx hb dX1_talksHeardAt_8 hl (by decide) rfl (fun ls hl => ?_)
  have J10 : ∀ (fz : Nat) (i bs : Nat), G 8 3 - i < fz → ∀ (hi : i ≤ G 8 3) (hbs : bs = bset (fun k => (heardS (cgv G) k).testBit t) i) (H : Heap) (locs : List Loc) (ls : Array Slot), Hx D zA zs H locs (gW tk h G uq1.1 uq1.2) → lv_has ls 5 [(4, .int (nI i)), (3, .int (nI bs)), (2, .ref (h 9)), (0, .ref (h 0)), (1, .int (nI t))] → W zp l ze ⟨4, 0, 0, 110⟩ zs zm za zb zt zc H locs 0 0 zQ (F0 zm 10 ls []) := by
    intro fz
    induction fz with
    | zero => intro i bs hz; exact absurd hz (Nat.not_lt_zero _)
    | succ fz ih10 =>
      intro i bs hz10 hi hbs H locs ls X hl
      refine lv_iload hx hb dX1_talksHeardAt_10 (lv_at hl 0 rfl) ?_
      refine lv_aload_n hx hb dX1_talksHeardAt_12 rfl (lv_at hl 3 rfl) ?_
      refine g_get (v := .int (nI (G 8 3))) C0 X kX1 0 8 tb51 rfl rfl rfl dX1_talksHeardAt_13 ?_
      refine g_icmp_ge (x := i) (y := G 8 3) (tgt := 43) C0 (by omega) (by omega) dX1_talksHeardAt_16 rfl (fun c3 => ?_) (fun c4 => ?_)
      · refine lv_iload_n hx hb dX1_talksHeardAt_43 rfl (lv_at hl 1 rfl) ?_
        exact hE (v := nI bs) (uq1.1, uq1.2) (by rw [hbs, show i = G 8 3 by omega]) trivial X dX1_talksHeardAt_44
      · refine lv_aload_n hx hb dX1_talksHeardAt_19 rfl (lv_at hl 2 rfl) ?_
        have hL := heardS_lt (cgv G) i hw1
        have hee := hp2 i (by omega)
        refine lv_iload hx hb dX1_talksHeardAt_20 (lv_at hl 0 rfl) ?_
        refine g_iald (v := nI (uq1.2 i)) (i := i) C0 X 9 0 rfl rfl (by omega) rfl rfl dX1_talksHeardAt_22 ?_
        refine g_iconst (n := 1) C0 rfl dX1_talksHeardAt_23 ?_
        refine lv_iload_n hx hb dX1_talksHeardAt_24 rfl (lv_at hl 4 rfl) ?_
        refine g_ishl (n := 2 ^ t) C0 (by exact sh_ok (by omega)) (by first | exact Nat.one_mul _ | rfl) dX1_talksHeardAt_25 ?_
        refine g_iand (n := (uq1.2 i) &&& (2 ^ t)) C0 rfl dX1_talksHeardAt_26 ?_
        refine g_ifeq (x := (uq1.2 i) &&& (2 ^ t)) (tgt := 37) C0 (by exact and_31 (by omega)) dX1_talksHeardAt_27 rfl (fun c5 => ?_) (fun c6 => ?_)
        · refine g_iinc (j := 1) (z := i + 1) (lv' := [(4, .int (nI (i + 1))), (3, .int (nI bs)), (2, .ref (h 9)), (0, .ref (h 0)), (1, .int (nI t))]) C0 rfl (by first | rfl | omega) dX1_talksHeardAt_37 hl (k := 0) rfl (by decide) rfl (fun ls hl => ?_)
          refine lv_goto (tgt := 10) hx hb dX1_talksHeardAt_40 (by decide) ?_
          exact ih10 (i + 1) bs (by omega) (by omega) (by first | (rw [bset_f (by rw [← hee]; exact and_pow_f c5)]; exact hbs) | (rw [bset_t (by rw [← hee]; exact and_pow_t c5), hbs])) H locs ls X (lv_sub hl [0, 1, 2, 3, 4] rfl)
        · refine lv_iload_n hx hb dX1_talksHeardAt_30 rfl (lv_at hl 1 rfl) ?_
          refine g_iconst (n := 1) C0 rfl dX1_talksHeardAt_31 ?_
          refine lv_iload hx hb dX1_talksHeardAt_32 (lv_at hl 0 rfl) ?_
          refine g_ishl (n := 2 ^ i) C0 (by exact sh_ok (by omega)) (by first | exact Nat.one_mul _ | rfl) dX1_talksHeardAt_34 ?_
          refine g_ior (n := bs ||| (2 ^ i)) C0 rfl dX1_talksHeardAt_35 ?_
          refine lv_istore_n (lv' := [(3, .int (nI (bs ||| (2 ^ i)))), (4, .int (nI i)), (2, .ref (h 9)), (0, .ref (h 0)), (1, .int (nI t))]) hx hb dX1_talksHeardAt_36 rfl hl (by decide) rfl (fun ls hl => ?_)
          refine g_iinc (j := 1) (z := i + 1) (lv' := [(4, .int (nI (i + 1))), (3, .int (nI (bs ||| (2 ^ i)))), (2, .ref (h 9)), (0, .ref (h 0)), (1, .int (nI t))]) C0 rfl (by first | rfl | omega) dX1_talksHeardAt_37 hl (k := 1) rfl (by decide) rfl (fun ls hl => ?_)
          refine lv_goto (tgt := 10) hx hb dX1_talksHeardAt_40 (by decide) ?_
          exact ih10 (i + 1) (bs ||| (2 ^ i)) (by omega) (by omega) (by first | (rw [bset_f (by rw [← hee]; exact and_pow_f c6)]; exact hbs) | (rw [bset_t (by rw [← hee]; exact and_pow_t c6), hbs])) H locs ls X (lv_sub hl [0, 1, 2, 3, 4] rfl)
  exact J10 ((G 8 3 - 0) + 1) 0 0 (Nat.lt_succ_self _) (by omega) (by rfl) H locs ls X (lv_sub hl [0, 1, 2, 3, 4] rfl)
set_option maxHeartbeats 4000000 in
set_option maxRecDepth 100000 in
theorem c_X1_hearersOfAllTalks (l : Launch) (D : va_G) (tk : Nat → ClassId) (h : Nat → Nat) (G : Nat → Nat → Nat) (d e : Nat → Nat) (hw : GW G) : MX l yX1_hearersOfAllTalks cX1_hearersOfAllTalks 4 (some .int) ⟨4, 0, 0, 110⟩ D (TYS tk) [.ref (h 0)] (gW tk h G d e) (fun (u : (Nat → Nat) × (Nat → Nat)) => True) (fun u => some (.int (nI (hearersS (cgv G))))) (fun u => gW tk h G u.1 u.2) 0 0 := by
  refine MX.of_i (by decide) rfl ?_
  intro zp ze zs zm za zb zt zc zA zQ ls C0 hnm X hl hE
  have hx := C0.1
  have hb := C0.2.1
  have ht := C0.2.2.2.2.1
  have X : Hx D zA zs zs.heap [] (gW tk h G d e) := X
  have hl : lv_has ls 4 [(0, .ref (h 0))] := hl
  obtain ⟨hw1, hw2, hw3, hw4, hw5, hw6, hw7, hw8⟩ := id hw
  obtain ⟨H, hH⟩ : ∃ H, H = zs.heap := ⟨_, rfl⟩
  rw [← hH] at X ⊢
  obtain ⟨locs, hlo⟩ : ∃ L : List Loc, L = [] := ⟨_, rfl⟩
  rw [← hlo] at X ⊢
  refine lv_aload_n hx hb dX1_hearersOfAllTalks_0 rfl (lv_at hl 0 rfl) ?_
  refine g_callV (As := []) (rest := []) (wr := []) (C0.sz hl) X (c_X1_listen l D tk h G d e (by first | assumption | omega)) ⟨tb415, tb418, tb2, ⟨by decide, by decide, rfl⟩, rfl, rfl, Nat.le_of_ble_eq_true rfl, Nat.le_of_ble_eq_true rfl⟩ tb416 tb417 0 1 rfl rfl rfl rfl [0, 1, 2, 3, 4, 5, 6, 7, 8, 9] [] rfl rfl rfl rfl rfl (Nat.le_of_ble_eq_true rfl) ⟨Nat.le_of_ble_eq_true rfl, Nat.le_of_ble_eq_true rfl⟩ dX1_hearersOfAllTalks_1 (fun uq1 H locs hp2 X => ?_)
  have X : Hx D zA zs H locs (gW tk h G uq1.1 uq1.2) := X
  have hp2 : ∀ j, j < G 8 3 → uq1.2 j = heardS (cgv G) j := hp2
  refine lv_astore_n (lv' := [(1, .ref (h 9)), (0, .ref (h 0))]) hx hb dX1_hearersOfAllTalks_4 rfl hl (by decide) rfl (fun ls hl => ?_)
  refine g_iconst (n := 0) C0 rfl dX1_hearersOfAllTalks_5 ?_
  refine lv_istore_n (lv' := [(2, .int (nI 0)), (1, .ref (h 9)), (0, .ref (h 0))]) hx hb dX1_hearersOfAllTalks_6 rfl hl (by decide) rfl (fun ls hl => ?_)
  refine g_iconst (n := 0) C0 rfl dX1_hearersOfAllTalks_7 ?_
  refine lv_istore_n (lv' := [(3, .int (nI 0)), (2, .int (nI 0)), (1, .ref (h 9)), (0, .ref (h 0))]) hx hb dX1_hearersOfAllTalks_8 rfl hl (by decide) rfl (fun ls hl => ?_)
  have J9 : ∀ (fz : Nat) (i bs : Nat), G 8 3 - i < fz → ∀ (hi : i ≤ G 8 3) (hbs : bs = nsum (fun k => pc (heardS (cgv G) k)) i) (H : Heap) (locs : List Loc) (ls : Array Slot), Hx D zA zs H locs (gW tk h G uq1.1 uq1.2) → lv_has ls 4 [(3, .int (nI i)), (2, .int (nI bs)), (1, .ref (h 9)), (0, .ref (h 0))] → W zp l ze ⟨4, 0, 0, 110⟩ zs zm za zb zt zc H locs 0 0 zQ (F0 zm 9 ls []) := by
    intro fz
    induction fz with
    | zero => intro i bs hz; exact absurd hz (Nat.not_lt_zero _)
    | succ fz ih9 =>
      intro i bs hz9 hi hbs H locs ls X hl
      refine lv_iload_n hx hb dX1_hearersOfAllTalks_9 rfl (lv_at hl 0 rfl) ?_
      refine lv_aload_n hx hb dX1_hearersOfAllTalks_10 rfl (lv_at hl 3 rfl) ?_
      refine g_get (v := .int (nI (G 8 3))) C0 X kX1 0 8 tb51 rfl rfl rfl dX1_hearersOfAllTalks_11 ?_
      refine g_icmp_ge (x := i) (y := G 8 3) (tgt := 32) C0 (by omega) (by omega) dX1_hearersOfAllTalks_14 rfl (fun c3 => ?_) (fun c4 => ?_)
      · refine lv_iload_n hx hb dX1_hearersOfAllTalks_32 rfl (lv_at hl 1 rfl) ?_
        exact hE (v := nI bs) (uq1.1, uq1.2) (by rw [hbs, show i = G 8 3 by omega]; rfl) trivial X dX1_hearersOfAllTalks_33
      · refine lv_iload_n hx hb dX1_hearersOfAllTalks_17 rfl (lv_at hl 1 rfl) ?_
        have hL := heardS_lt (cgv G) i hw1
        have hee := hp2 i (by omega)
        refine lv_aload_n hx hb dX1_hearersOfAllTalks_18 rfl (lv_at hl 2 rfl) ?_
        refine lv_iload_n hx hb dX1_hearersOfAllTalks_19 rfl (lv_at hl 0 rfl) ?_
        refine g_iald (v := nI (uq1.2 i)) (i := i) C0 X 9 0 rfl rfl (by omega) rfl rfl dX1_hearersOfAllTalks_20 ?_
        refine g_callS (As := [.int (nI (uq1.2 i))]) (rest := [.int (nI bs)]) (wr := (gW tk h G uq1.1 uq1.2)) (C0.sz hl) X (c_J6_bitCount_0f7a4 l D tk (uq1.2 i) (by first | assumption | omega)) ⟨tb624, tb607, tb16, ⟨by decide, by decide, rfl⟩, rfl, rfl, Nat.le_of_ble_eq_true rfl, Nat.le_of_ble_eq_true rfl⟩ tb606 rfl [] [0, 1, 2, 3, 4, 5, 6, 7, 8, 9] rfl rfl rfl rfl rfl (Nat.le_of_ble_eq_true rfl) ⟨Nat.le_of_ble_eq_true rfl, Nat.le_of_ble_eq_true rfl⟩ dX1_hearersOfAllTalks_21 (fun _ H locs _ X => ?_)
        have X : Hx D zA zs H locs (gW tk h G uq1.1 uq1.2) := X
        refine g_iadd (n := bs + (pc (uq1.2 i))) C0 (by first | rfl | omega) dX1_hearersOfAllTalks_24 ?_
        refine lv_istore_n (lv' := [(2, .int (nI (bs + (pc (uq1.2 i))))), (3, .int (nI i)), (1, .ref (h 9)), (0, .ref (h 0))]) hx hb dX1_hearersOfAllTalks_25 rfl hl (by decide) rfl (fun ls hl => ?_)
        refine g_iinc (j := 1) (z := i + 1) (lv' := [(3, .int (nI (i + 1))), (2, .int (nI (bs + (pc (uq1.2 i))))), (1, .ref (h 9)), (0, .ref (h 0))]) C0 rfl (by first | rfl | omega) dX1_hearersOfAllTalks_26 hl (k := 1) rfl (by decide) rfl (fun ls hl => ?_)
        refine lv_goto (tgt := 9) hx hb dX1_hearersOfAllTalks_29 (by decide) ?_
        exact ih9 (i + 1) (bs + (pc (uq1.2 i))) (by omega) (by omega) (by rw [hbs, hee]; rfl) H locs ls X (lv_sub hl [0, 1, 2, 3] rfl)
  exact J9 ((G 8 3 - 0) + 1) 0 0 (Nat.lt_succ_self _) (by omega) (by rfl) H locs ls X (lv_sub hl [0, 1, 2, 3] rfl)
set_option maxHeartbeats 4000000 in
set_option maxRecDepth 100000 in
theorem c_X1_crossedPairs (l : Launch) (D : va_G) (tk : Nat → ClassId) (h : Nat → Nat) (G : Nat → Nat → Nat) (d e : Nat → Nat) (hw : GW G) : MX l yX1_crossedPairs cX1_crossedPairs 5 (some .int) ⟨4, 0, 0, 110⟩ D (TYS tk) [.ref (h 0)] (gW tk h G d e) (fun (u : (Nat → Nat) × (Nat → Nat)) => True) (fun u => some (.int (nI (crossS (cgv G))))) (fun u => gW tk h G u.1 u.2) 0 0 := by
  refine MX.of_i (by decide) rfl ?_
  intro zp ze zs zm za zb zt zc zA zQ ls C0 hnm X hl hE
  have hx := C0.1
  have hb := C0.2.1
  have ht := C0.2.2.2.2.1
  have X : Hx D zA zs zs.heap [] (gW tk h G d e) := X
  have hl : lv_has ls 5 [(0, .ref (h 0))] := hl
  obtain ⟨hw1, hw2, hw3, hw4, hw5, hw6, hw7, hw8⟩ := id hw
  obtain ⟨H, hH⟩ : ∃ H, H = zs.heap := ⟨_, rfl⟩
  rw [← hH] at X ⊢
  obtain ⟨locs, hlo⟩ : ∃ L : List Loc, L = [] := ⟨_, rfl⟩
  rw [← hlo] at X ⊢
  refine lv_aload_n hx hb dX1_crossedPairs_0 rfl (lv_at hl 0 rfl) ?_
  refine g_callV (As := []) (rest := []) (wr := []) (C0.sz hl) X (c_X1_listen l D tk h G d e (by first | assumption | omega)) ⟨tb415, tb418, tb2, ⟨by decide, by decide, rfl⟩, rfl, rfl, Nat.le_of_ble_eq_true rfl, Nat.le_of_ble_eq_true rfl⟩ tb416 tb417 0 1 rfl rfl rfl rfl [0, 1, 2, 3, 4, 5, 6, 7, 8, 9] [] rfl rfl rfl rfl rfl (Nat.le_of_ble_eq_true rfl) ⟨Nat.le_of_ble_eq_true rfl, Nat.le_of_ble_eq_true rfl⟩ dX1_crossedPairs_1 (fun uq1 H locs hp2 X => ?_)
  have X : Hx D zA zs H locs (gW tk h G uq1.1 uq1.2) := X
  have hp2 : ∀ j, j < G 8 3 → uq1.2 j = heardS (cgv G) j := hp2
  refine lv_astore_n (lv' := [(1, .ref (h 9)), (0, .ref (h 0))]) hx hb dX1_crossedPairs_4 rfl hl (by decide) rfl (fun ls hl => ?_)
  refine g_iconst (n := 0) C0 rfl dX1_crossedPairs_5 ?_
  refine lv_istore_n (lv' := [(2, .int (nI 0)), (1, .ref (h 9)), (0, .ref (h 0))]) hx hb dX1_crossedPairs_6 rfl hl (by decide) rfl (fun ls hl => ?_)
  refine g_iconst (n := 0) C0 rfl dX1_crossedPairs_7 ?_
  refine lv_istore_n (lv' := [(3, .int (nI 0)), (2, .int (nI 0)), (1, .ref (h 9)), (0, .ref (h 0))]) hx hb dX1_crossedPairs_8 rfl hl (by decide) rfl (fun ls hl => ?_)
  have J9 : ∀ (fz : Nat) (i bs : Nat), G 8 3 - i < fz → ∀ (hi : i ≤ G 8 3) (hbs : bs = nsum (fun k => cnt (crossP (cgv G) k) k) i) (H : Heap) (locs : List Loc) (ls : Array Slot), Hx D zA zs H locs (gW tk h G uq1.1 uq1.2) → lv_has ls 5 [(3, .int (nI i)), (2, .int (nI bs)), (1, .ref (h 9)), (0, .ref (h 0))] → W zp l ze ⟨4, 0, 0, 110⟩ zs zm za zb zt zc H locs 0 0 zQ (F0 zm 9 ls []) := by
    intro fz
    induction fz with
    | zero => intro i bs hz; exact absurd hz (Nat.not_lt_zero _)
    | succ fz ih9 =>
      intro i bs hz9 hi hbs H locs ls X hl
      refine lv_iload_n hx hb dX1_crossedPairs_9 rfl (lv_at hl 0 rfl) ?_
      refine lv_aload_n hx hb dX1_crossedPairs_10 rfl (lv_at hl 3 rfl) ?_
      refine g_get (v := .int (nI (G 8 3))) C0 X kX1 0 8 tb51 rfl rfl rfl dX1_crossedPairs_11 ?_
      refine g_icmp_ge (x := i) (y := G 8 3) (tgt := 52) C0 (by omega) (by omega) dX1_crossedPairs_14 rfl (fun c3 => ?_) (fun c4 => ?_)
      · refine lv_iload_n hx hb dX1_crossedPairs_52 rfl (lv_at hl 1 rfl) ?_
        exact hE (v := nI bs) (uq1.1, uq1.2) (by rw [hbs, show i = G 8 3 by omega]; rfl) trivial X dX1_crossedPairs_53
      · refine g_iconst (n := 0) C0 rfl dX1_crossedPairs_17 ?_
        refine lv_istore (lv' := [(4, .int (nI 0)), (3, .int (nI i)), (2, .int (nI bs)), (1, .ref (h 9)), (0, .ref (h 0))]) hx hb dX1_crossedPairs_18 hl (by decide) rfl (fun ls hl => ?_)
        have J20 : ∀ (fz : Nat) (j bs2 : Nat), i - j < fz → ∀ (hj : j ≤ i) (hbs2 : bs2 = nsum (fun k => cnt (crossP (cgv G) k) k) i + cnt (crossP (cgv G) i) j) (H : Heap) (locs : List Loc) (ls : Array Slot), Hx D zA zs H locs (gW tk h G uq1.1 uq1.2) → lv_has ls 5 [(4, .int (nI j)), (3, .int (nI i)), (2, .int (nI bs2)), (1, .ref (h 9)), (0, .ref (h 0))] → W zp l ze ⟨4, 0, 0, 110⟩ zs zm za zb zt zc H locs 0 0 zQ (F0 zm 20 ls []) := by
          intro fz
          induction fz with
          | zero => intro j bs2 hz; exact absurd hz (Nat.not_lt_zero _)
          | succ fz ih20 =>
            intro j bs2 hz20 hj hbs2 H locs ls X hl
            refine lv_iload hx hb dX1_crossedPairs_20 (lv_at hl 0 rfl) ?_
            refine lv_iload_n hx hb dX1_crossedPairs_22 rfl (lv_at hl 1 rfl) ?_
            refine g_icmp_ge (x := j) (y := i) (tgt := 46) C0 (by omega) (by omega) dX1_crossedPairs_23 rfl (fun c5 => ?_) (fun c6 => ?_)
            · refine g_iinc (j := 1) (z := i + 1) (lv' := [(3, .int (nI (i + 1))), (4, .int (nI j)), (2, .int (nI bs2)), (1, .ref (h 9)), (0, .ref (h 0))]) C0 rfl (by first | rfl | omega) dX1_crossedPairs_46 hl (k := 1) rfl (by decide) rfl (fun ls hl => ?_)
              refine lv_goto (tgt := 9) hx hb dX1_crossedPairs_49 (by decide) ?_
              exact ih9 (i + 1) bs2 (by omega) (by omega) (by rw [hbs2, show j = i by omega]; rfl) H locs ls X (lv_sub hl [0, 2, 3, 4] rfl)
            · refine lv_aload_n hx hb dX1_crossedPairs_26 rfl (lv_at hl 4 rfl) ?_
              refine lv_iload_n hx hb dX1_crossedPairs_27 rfl (lv_at hl 1 rfl) ?_
              refine lv_iload hx hb dX1_crossedPairs_28 (lv_at hl 0 rfl) ?_
              refine lv_aload_n hx hb dX1_crossedPairs_30 rfl (lv_at hl 3 rfl) ?_
              refine g_callV (As := [.int (nI i), .int (nI j), .ref (h 9)]) (rest := []) (wr := []) (C0.sz hl) X (c_X1_areCrossed l D tk h G uq1.1 uq1.2 i j (by first | assumption | omega) (by first | assumption | omega) (by first | assumption | omega) (by intro j hj; rw [hp2 j hj]; exact heardS_lt (cgv G) j hw1)) ⟨tb448, tb451, tb2, ⟨by decide, by decide, rfl⟩, rfl, rfl, Nat.le_of_ble_eq_true rfl, Nat.le_of_ble_eq_true rfl⟩ tb449 tb450 0 1 rfl rfl rfl rfl [0, 1, 2, 3, 4, 5, 6, 7, 8, 9] [] rfl rfl rfl rfl rfl (Nat.le_of_ble_eq_true rfl) ⟨Nat.le_of_ble_eq_true rfl, Nat.le_of_ble_eq_true rfl⟩ dX1_crossedPairs_31 (fun _ H locs _ X => ?_)
              have X : Hx D zA zs H locs (gW tk h G uq1.1 uq1.2) := X
              refine g_ifeqB (x := crossE G uq1.2 i j) (tgt := 40) C0 dX1_crossedPairs_34 rfl (fun c7 => ?_) (fun c8 => ?_)
              · refine g_iinc (j := 1) (z := j + 1) (lv' := [(4, .int (nI (j + 1))), (3, .int (nI i)), (2, .int (nI bs2)), (1, .ref (h 9)), (0, .ref (h 0))]) C0 rfl (by first | rfl | omega) dX1_crossedPairs_40 hl (k := 0) rfl (by decide) rfl (fun ls hl => ?_)
                refine lv_goto (tgt := 20) hx hb dX1_crossedPairs_43 (by decide) ?_
                exact ih20 (j + 1) bs2 (by omega) (by omega) (by first | (rw [cnt_f (cross_c hp2 c7 (by omega) (by omega))]; exact hbs2) | (rw [cnt_t (cross_c hp2 c7 (by omega) (by omega))]; omega)) H locs ls X (lv_sub hl [0, 1, 2, 3, 4] rfl)
              · refine g_iinc (j := 1) (z := bs2 + 1) (lv' := [(2, .int (nI (bs2 + 1))), (4, .int (nI j)), (3, .int (nI i)), (1, .ref (h 9)), (0, .ref (h 0))]) C0 rfl (by first | rfl | omega) dX1_crossedPairs_37 hl (k := 2) rfl (by decide) rfl (fun ls hl => ?_)
                refine g_iinc (j := 1) (z := j + 1) (lv' := [(4, .int (nI (j + 1))), (2, .int (nI (bs2 + 1))), (3, .int (nI i)), (1, .ref (h 9)), (0, .ref (h 0))]) C0 rfl (by first | rfl | omega) dX1_crossedPairs_40 hl (k := 1) rfl (by decide) rfl (fun ls hl => ?_)
                refine lv_goto (tgt := 20) hx hb dX1_crossedPairs_43 (by decide) ?_
                exact ih20 (j + 1) (bs2 + 1) (by omega) (by omega) (by first | (rw [cnt_f (cross_c hp2 c8 (by omega) (by omega))]; exact hbs2) | (rw [cnt_t (cross_c hp2 c8 (by omega) (by omega))]; omega)) H locs ls X (lv_sub hl [0, 2, 1, 3, 4] rfl)
        exact J20 ((i - 0) + 1) 0 bs (Nat.lt_succ_self _) (by omega) (by rw [hbs]; rfl) H locs ls X (lv_sub hl [0, 1, 2, 3, 4] rfl)
  exact J9 ((G 8 3 - 0) + 1) 0 0 (Nat.lt_succ_self _) (by omega) (by rfl) H locs ls X (lv_sub hl [0, 1, 2, 3] rfl)
