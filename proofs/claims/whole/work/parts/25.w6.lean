set_option maxHeartbeats 4000000 in
set_option maxRecDepth 100000 in
theorem c_X7_cuts (l : Launch) (D : va_G) (tk : Nat → ClassId) (h : Nat → Nat) (Mt : Nat → Nat → Nat) (hi : Int32) (la ce : Nat → Int32) (sm : Nat) (hr9 : Mt 0 42 ≤ 9) (hs1 : sm < 1024) (hc1 : ∀ i, i < Mt 0 42 → Mt 0 (33 + i) ≤ 1) : MX l yX7_cuts cX7_cuts 4 (some .boolean) ⟨1, 0, 0, 23⟩ D (TYS tk) [.ref (h 0), .int (nI sm)] (mW tk h Mt hi la ce) (fun (_ : Unit) => True) (fun _ => some (.int (nI (rb (cutsB (pgv Mt 0) sm))))) (fun _ => mW tk h (u3 Mt 0 (cutRow (Mt 0) sm)) hi la ce) 0 0 := by
  refine MX.of_z (by decide) rfl ?_
  intro zp ze zs zm za zb zt zc zA zQ ls C0 hnm X hl hE
  have hx := C0.1
  have hb := C0.2.1
  have ht := C0.2.2.2.2.1
  have X : Hx D zA zs zs.heap [] (mW tk h Mt hi la ce) := X
  have hl : lv_has ls 4 [(0, .ref (h 0)), (1, .int (nI sm))] := hl
  obtain ⟨H, hH⟩ : ∃ H, H = zs.heap := ⟨_, rfl⟩
  rw [← hH] at X ⊢
  obtain ⟨locs, hlo⟩ : ∃ L : List Loc, L = [] := ⟨_, rfl⟩
  rw [← hlo] at X ⊢
  refine lv_aload_n hx hb dX7_cuts_0 rfl (lv_at hl 0 rfl) ?_
  refine g_iconst (n := 0) C0 rfl dX7_cuts_1 ?_
  refine g_sipush (n := 252) C0 (by decide) dX7_cuts_2 ?_
  refine g_callV (As := [.int (nI 0), .int (nI 252)]) (rest := []) (wr := []) (C0.sz hl) X (c_X7_copies l D tk h Mt hi la ce 0 252 (by first | assumption | omega) (by first | assumption | omega) (by first | assumption | omega)) ⟨tb1096, tb1099, tb8, ⟨by decide, by decide, rfl⟩, rfl, rfl, Nat.le_of_ble_eq_true rfl, Nat.le_of_ble_eq_true rfl⟩ tb1098 tbs46 0 7 rfl rfl rfl rfl [0, 1, 2, 3, 4, 5, 6, 7, 8, 9, 10, 11, 12, 13] [] rfl rfl rfl rfl rfl (Nat.le_of_ble_eq_true rfl) ⟨Nat.le_of_ble_eq_true rfl, Nat.le_of_ble_eq_true rfl⟩ dX7_cuts_5 (fun _ H locs _ X => ?_)
  have X : Hx D zA zs H locs (mW tk h (u3 Mt 0 (pcopy (Mt 0) 0 252 63)) hi la ce) := X
  refine g_iconst (n := 1) C0 rfl dX7_cuts_8 ?_
  refine lv_istore_n (lv' := [(2, .int (nI 1)), (0, .ref (h 0)), (1, .int (nI sm))]) hx hb dX7_cuts_9 rfl hl (by decide) rfl (fun ls hl => ?_)
  refine g_iconst (n := 0) C0 rfl dX7_cuts_10 ?_
  refine lv_istore_n (lv' := [(3, .int (nI 0)), (2, .int (nI 1)), (0, .ref (h 0)), (1, .int (nI sm))]) hx hb dX7_cuts_11 rfl hl (by decide) rfl (fun ls hl => ?_)
  have J12 : ∀ (fz : Nat) (i wh : Nat) (r1 : Nat → Nat), Mt 0 42 - i < fz → ∀ (hi1 : i ≤ Mt 0 42) (hwl : wh ≤ 1) (hwh0 : wh = rb (ball (cutQ (pgv Mt 0) sm) i)) (hr : r1 = cutP (Mt 0) sm i) (H : Heap) (locs : List Loc) (ls : Array Slot), Hx D zA zs H locs (mW tk h (u3 Mt 0 r1) hi la ce) → lv_has ls 4 [(3, .int (nI i)), (2, .int (nI wh)), (0, .ref (h 0)), (1, .int (nI sm))] → W zp l ze ⟨1, 0, 0, 23⟩ zs zm za zb zt zc H locs 0 0 zQ (F0 zm 12 ls []) := by
    intro fz
    induction fz with
    | zero => intro i wh r1 hz; exact absurd hz (Nat.not_lt_zero _)
    | succ fz ih12 =>
      intro i wh r1 hz12 hi1 hwl hwh0 hr H locs ls X hl
      have e42 : r1 42 = Mt 0 42 := by rw [hr]; exact cutP_lo (by omega)
      refine lv_iload_n hx hb dX7_cuts_12 rfl (lv_at hl 0 rfl) ?_
      refine lv_aload_n hx hb dX7_cuts_13 rfl (lv_at hl 2 rfl) ?_
      refine g_get (v := .ref (h 1)) C0 X kX7 0 0 tb797 rfl rfl rfl dX7_cuts_14 ?_
      refine g_bipush (n := 42) C0 (by decide) dX7_cuts_17 ?_
      refine g_iald (v := nI (r1 42)) (i := 42) C0 X 1 0 rfl rfl (by omega) rfl rfl dX7_cuts_19 ?_
      refine g_icmp_ge (x := i) (y := r1 42) (tgt := 71) C0 (by omega) (by omega) dX7_cuts_20 rfl (fun c1 => ?_) (fun c2 => ?_)
      · refine lv_iload_n hx hb dX7_cuts_71 rfl (lv_at hl 1 rfl) ?_
        refine g_top (y := nI (rb (ball (cutQ (pgv Mt 0) sm) i))) (by rw [hwh0]) ?_
        exact hE (v := ball (cutQ (pgv Mt 0) sm) i) () (by rw [show cutsB (pgv Mt 0) sm = ball (cutQ (pgv Mt 0) sm) (Mt 0 42) by unfold cutsB; rw [show pgv Mt 0 8 1 = Mt 0 42 by show Mt 0 (0 + 42) = _; rw [Nat.zero_add]]; rfl, show Mt 0 42 = i by omega]) trivial (X.to (by rw [hr, show i = Mt 0 42 by omega]; rfl)) dX7_cuts_72
      · refine lv_iload_n hx hb dX7_cuts_23 rfl (lv_at hl 3 rfl) ?_
        refine lv_iload_n hx hb dX7_cuts_24 rfl (lv_at hl 0 rfl) ?_
        refine g_ishr (n := sm / 2 ^ i) C0 (by omega) (by first | decide | omega) rfl dX7_cuts_25 ?_
        refine g_iconst (n := 1) C0 rfl dX7_cuts_26 ?_
        refine g_iand (n := (sm / 2 ^ i) &&& 1) C0 rfl dX7_cuts_27 ?_
        refine g_iconst (n := 1) C0 rfl dX7_cuts_28 ?_
        refine g_icmp_ne (x := (sm / 2 ^ i) &&& 1) (y := 1) (tgt := 65) C0 (by first | decide | exact Nat.lt_of_le_of_lt Nat.and_le_right (by decide)) (by first | decide | exact Nat.lt_of_le_of_lt Nat.and_le_right (by decide)) dX7_cuts_29 rfl (fun c3 => ?_) (fun c4 => ?_)
        · refine g_iinc (j := 1) (z := i + 1) (lv' := [(3, .int (nI (i + 1))), (2, .int (nI wh)), (0, .ref (h 0)), (1, .int (nI sm))]) C0 rfl (by first | rfl | omega) dX7_cuts_65 hl (k := 0) rfl (by decide) rfl (fun ls hl => ?_)
          refine lv_goto (tgt := 12) hx hb dX7_cuts_68 (by decide) ?_
          exact ih12 (i + 1) wh r1 (by omega) (by omega) (by omega) (by exact hwh0.trans (cutq_f (tbf c3)).symm) (by first | (rw [cutP_f (tbf c3)]; exact hr) | (rw [hr]; exact cutP_t (tbt c2)) | (rw [hr]; exact cutP_t (tbt c))) H locs ls X (lv_sub hl [0, 1, 2, 3] rfl)
        · refine lv_iload_n hx hb dX7_cuts_32 rfl (lv_at hl 1 rfl) ?_
          have hwh := rb_lt (ball (cutQ (pgv Mt 0) sm) i)
          refine g_ifeq (x := wh) (tgt := 52) C0 (by omega) dX7_cuts_33 rfl (fun c5 => ?_) (fun c6 => ?_)
          · refine g_iconst (n := 0) C0 rfl dX7_cuts_52 ?_
            refine lv_istore_n (lv' := [(2, .int (nI 0)), (3, .int (nI i)), (0, .ref (h 0)), (1, .int (nI sm))]) hx hb dX7_cuts_53 rfl hl (by decide) rfl (fun ls hl => ?_)
            refine lv_aload_n hx hb dX7_cuts_54 rfl (lv_at hl 2 rfl) ?_
            refine g_get (v := .ref (h 1)) C0 X kX7 0 0 tb797 rfl rfl rfl dX7_cuts_55 ?_
            refine g_sipush (n := 285) C0 (by decide) dX7_cuts_58 ?_
            refine lv_iload_n hx hb dX7_cuts_61 rfl (lv_at hl 1 rfl) ?_
            refine g_iadd (n := 285 + i) C0 (by first | rfl | omega) dX7_cuts_62 ?_
            refine g_iconst (n := 1) C0 rfl dX7_cuts_63 ?_
            refine g_iast (g := nf (u1 r1 (285 + i) 1)) (i := 285 + i) C0 X 1 0 rfl rfl (by omega) rfl (nf_u1 _ _ _) dX7_cuts_64 (fun H locs X => ?_)
            have X : Hx D zA zs H locs (mW tk h (u2 (u3 Mt 0 r1) 0 (285 + i) 1) hi la ce) := X
            refine g_iinc (j := 1) (z := i + 1) (lv' := [(3, .int (nI (i + 1))), (2, .int (nI 0)), (0, .ref (h 0)), (1, .int (nI sm))]) C0 rfl (by first | rfl | omega) dX7_cuts_65 hl (k := 1) rfl (by decide) rfl (fun ls hl => ?_)
            refine lv_goto (tgt := 12) hx hb dX7_cuts_68 (by decide) ?_
            exact ih12 (i + 1) 0 (u1 r1 (285 + i) 1) (by omega) (by omega) (by omega) (by exact (cutq_0 (rb_0 (hwh0.symm.trans c5))).symm) (by first | (rw [cutP_f (tbf c5)]; exact hr) | (rw [hr]; exact cutP_t (tbt c4)) | (rw [hr]; exact cutP_t (tbt c2))) H locs ls X (lv_sub hl [0, 1, 2, 3] rfl)
          · have e33 : r1 (33 + i) = Mt 0 (33 + i) := by rw [hr]; exact cutP_lo (by omega)
            have hc2 := hc1 i (by omega)
            refine lv_aload_n hx hb dX7_cuts_36 rfl (lv_at hl 2 rfl) ?_
            refine g_get (v := .ref (h 1)) C0 X kX7 0 0 tb797 rfl rfl rfl dX7_cuts_37 ?_
            refine g_bipush (n := 33) C0 (by decide) dX7_cuts_40 ?_
            refine lv_iload_n hx hb dX7_cuts_42 rfl (lv_at hl 0 rfl) ?_
            refine g_iadd (n := 33 + i) C0 (by first | rfl | omega) dX7_cuts_43 ?_
            refine g_iald (v := nI (r1 (33 + i))) (i := 33 + i) C0 X 1 0 rfl rfl (by omega) rfl rfl dX7_cuts_44 ?_
            refine g_ifne (x := r1 (33 + i)) (tgt := 52) C0 (by omega) dX7_cuts_45 rfl (fun c7 => ?_) (fun c8 => ?_)
            · refine g_iconst (n := 0) C0 rfl dX7_cuts_52 ?_
              refine lv_istore_n (lv' := [(2, .int (nI 0)), (3, .int (nI i)), (0, .ref (h 0)), (1, .int (nI sm))]) hx hb dX7_cuts_53 rfl hl (by decide) rfl (fun ls hl => ?_)
              refine lv_aload_n hx hb dX7_cuts_54 rfl (lv_at hl 2 rfl) ?_
              refine g_get (v := .ref (h 1)) C0 X kX7 0 0 tb797 rfl rfl rfl dX7_cuts_55 ?_
              refine g_sipush (n := 285) C0 (by decide) dX7_cuts_58 ?_
              refine lv_iload_n hx hb dX7_cuts_61 rfl (lv_at hl 1 rfl) ?_
              refine g_iadd (n := 285 + i) C0 (by first | rfl | omega) dX7_cuts_62 ?_
              refine g_iconst (n := 1) C0 rfl dX7_cuts_63 ?_
              refine g_iast (g := nf (u1 r1 (285 + i) 1)) (i := 285 + i) C0 X 1 0 rfl rfl (by omega) rfl (nf_u1 _ _ _) dX7_cuts_64 (fun H locs X => ?_)
              have X : Hx D zA zs H locs (mW tk h (u2 (u3 Mt 0 r1) 0 (285 + i) 1) hi la ce) := X
              refine g_iinc (j := 1) (z := i + 1) (lv' := [(3, .int (nI (i + 1))), (2, .int (nI 0)), (0, .ref (h 0)), (1, .int (nI sm))]) C0 rfl (by first | rfl | omega) dX7_cuts_65 hl (k := 1) rfl (by decide) rfl (fun ls hl => ?_)
              refine lv_goto (tgt := 12) hx hb dX7_cuts_68 (by decide) ?_
              exact ih12 (i + 1) 0 (u1 r1 (285 + i) 1) (by omega) (by omega) (by omega) (by exact (cutq_c (tbt c4) (by show Mt 0 (0 + 33 + i) ≠ 0; rw [show 0 + 33 + i = 33 + i by omega]; omega)).symm) (by first | (rw [cutP_f (tbf c7)]; exact hr) | (rw [hr]; exact cutP_t (tbt c6)) | (rw [hr]; exact cutP_t (tbt c4))) H locs ls X (lv_sub hl [0, 1, 2, 3] rfl)
            · refine g_iconst (n := 1) C0 rfl dX7_cuts_48 ?_
              refine lv_goto (tgt := 53) hx hb dX7_cuts_49 (by decide) ?_
              refine lv_istore_n (lv' := [(2, .int (nI 1)), (3, .int (nI i)), (0, .ref (h 0)), (1, .int (nI sm))]) hx hb dX7_cuts_53 rfl hl (by decide) rfl (fun ls hl => ?_)
              refine lv_aload_n hx hb dX7_cuts_54 rfl (lv_at hl 2 rfl) ?_
              refine g_get (v := .ref (h 1)) C0 X kX7 0 0 tb797 rfl rfl rfl dX7_cuts_55 ?_
              refine g_sipush (n := 285) C0 (by decide) dX7_cuts_58 ?_
              refine lv_iload_n hx hb dX7_cuts_61 rfl (lv_at hl 1 rfl) ?_
              refine g_iadd (n := 285 + i) C0 (by first | rfl | omega) dX7_cuts_62 ?_
              refine g_iconst (n := 1) C0 rfl dX7_cuts_63 ?_
              refine g_iast (g := nf (u1 r1 (285 + i) 1)) (i := 285 + i) C0 X 1 0 rfl rfl (by omega) rfl (nf_u1 _ _ _) dX7_cuts_64 (fun H locs X => ?_)
              have X : Hx D zA zs H locs (mW tk h (u2 (u3 Mt 0 r1) 0 (285 + i) 1) hi la ce) := X
              refine g_iinc (j := 1) (z := i + 1) (lv' := [(3, .int (nI (i + 1))), (2, .int (nI 1)), (0, .ref (h 0)), (1, .int (nI sm))]) C0 rfl (by first | rfl | omega) dX7_cuts_65 hl (k := 1) rfl (by decide) rfl (fun ls hl => ?_)
              refine lv_goto (tgt := 12) hx hb dX7_cuts_68 (by decide) ?_
              exact ih12 (i + 1) 1 (u1 r1 (285 + i) 1) (by omega) (by omega) (by omega) (by exact (cutq_t (rb_1 (hwh0 ▸ c6)) (by show Mt 0 (0 + 33 + i) = 0; rw [show 0 + 33 + i = 33 + i by omega]; omega)).symm) (by first | (rw [cutP_f (tbf c8)]; exact hr) | (rw [hr]; exact cutP_t (tbt c6)) | (rw [hr]; exact cutP_t (tbt c4))) H locs ls X (lv_sub hl [0, 1, 2, 3] rfl)
  exact J12 ((Mt 0 42 - 0) + 1) 0 1 (pcopy (Mt 0) 0 252 63) (Nat.lt_succ_self _) (by omega) (by omega) (by rfl) (by exact (cutP_0 _ _).symm) H locs ls X (lv_sub hl [0, 1, 2, 3] rfl)
set_option maxHeartbeats 4000000 in
set_option maxRecDepth 100000 in
theorem c_X7_books (l : Launch) (D : va_G) (tk : Nat → ClassId) (h : Nat → Nat) (Mt : Nat → Nat → Nat) (hi : Int32) (la ce : Nat → Int32) (x y z : Int32) (hn : Mt 20 0 ≤ 6) (hm6 : Mt 0 62 ≤ 6) : MX l yX7_books cX7_books 5 (some .int) ⟨2, 0, 0, 46⟩ D (TYS tk) [.ref (h 0), .int x, .int y, .int z] (mW tk h Mt hi la ce) (fun (_ : Unit) => True) (fun _ => some (.int (a_book (pgv Mt 0) x y z))) (fun _ => mW tk h (bookM Mt x y z) hi la ce) 0 0 := by
  refine MX.of_i (by decide) rfl ?_
  intro zp ze zs zm za zb zt zc zA zQ ls C0 hnm X hl hE
  have hx := C0.1
  have hb := C0.2.1
  have ht := C0.2.2.2.2.1
  have X : Hx D zA zs zs.heap [] (mW tk h Mt hi la ce) := X
  have hl : lv_has ls 5 [(0, .ref (h 0)), (1, .int x), (2, .int y), (3, .int z)] := hl
  obtain ⟨H, hH⟩ : ∃ H, H = zs.heap := ⟨_, rfl⟩
  rw [← hH] at X ⊢
  obtain ⟨locs, hlo⟩ : ∃ L : List Loc, L = [] := ⟨_, rfl⟩
  rw [← hlo] at X ⊢
  refine lv_iload_n hx hb dX7_books_0 rfl (lv_at hl 1 rfl) ?_
  refine lv_i2l hx hb dX7_books_1 rfl ?_
  refine g_lconst (n := 0) C0 rfl dX7_books_2 ?_
  refine lv_ldc2 (v := lN 23) hx hb C0.2.2.2.1 (ht _ tb1051) dX7_books_3 ?_
  refine g_callS (As := [.long (Int32.toInt64 x), .long (lN 0), .long (lN 23)]) (rest := []) (wr := (mW tk h Mt hi la ce)) (C0.sz hl) X (c_X7_in l D tk (Int32.toInt64 x) (lN 0) (lN 23)) ⟨tb885, tb887, tb8, ⟨by decide, by decide, rfl⟩, rfl, rfl, Nat.le_of_ble_eq_true rfl, Nat.le_of_ble_eq_true rfl⟩ tb886 rfl [] [0, 1, 2, 3, 4, 5, 6, 7, 8, 9, 10, 11, 12, 13] rfl rfl rfl rfl rfl (Nat.le_of_ble_eq_true rfl) ⟨Nat.le_of_ble_eq_true rfl, Nat.le_of_ble_eq_true rfl⟩ dX7_books_6 (fun _ H locs _ X => ?_)
  have X : Hx D zA zs H locs (mW tk h Mt hi la ce) := X
  refine g_top (y := nI (rb (rg x 0 23))) (by rw [inL_rg x (by first | decide | omega) (by first | decide | omega)]) ?_
  refine g_ifeqB (x := rg x 0 23) (tgt := 27) C0 dX7_books_9 rfl (fun c1 => ?_) (fun c2 => ?_)
  · refine lv_iconst (v := (-1)) hx hb dX7_books_27 (by decide) ?_
    exact hE (v := (-1)) () (by simp only [a_book, pg8, c1]; rfl) trivial (X.to (by simp only [bookM, c1]; rfl)) dX7_books_28
  · obtain ⟨a, hk_aa, hk_ab, hk_ac, rfl⟩ := rg_sp c2
    refine lv_aload_n hx hb dX7_books_12 rfl (lv_at hl 0 rfl) ?_
    refine lv_iload_n hx hb dX7_books_13 rfl (lv_at hl 2 rfl) ?_
    refine g_callV (As := [.int y]) (rest := []) (wr := []) (C0.sz hl) X (c_X7_isTree l D tk h Mt hi la ce y (by first | assumption | omega)) ⟨tb980, tb983, tb8, ⟨by decide, by decide, rfl⟩, rfl, rfl, Nat.le_of_ble_eq_true rfl, Nat.le_of_ble_eq_true rfl⟩ tb982 tbs37 0 7 rfl rfl rfl rfl [0, 1, 2, 3, 4, 5, 6, 7, 8, 9, 10, 11, 12, 13] [] rfl rfl rfl rfl rfl (Nat.le_of_ble_eq_true rfl) ⟨Nat.le_of_ble_eq_true rfl, Nat.le_of_ble_eq_true rfl⟩ dX7_books_14 (fun _ H locs _ X => ?_)
    have X : Hx D zA zs H locs (mW tk h Mt hi la ce) := X
    refine g_ifeqB (x := ix y (Mt 20 0)) (tgt := 27) C0 dX7_books_17 rfl (fun c3 => ?_) (fun c4 => ?_)
    · refine lv_iconst (v := (-1)) hx hb dX7_books_27 (by decide) ?_
      exact hE (v := (-1)) () (by simp only [a_book, pg8, c2, c3]; rfl) trivial (X.to (by simp only [bookM, c2, c3]; rfl)) dX7_books_28
    · obtain ⟨b, hk_b, rfl⟩ := ix_sp c4
      refine lv_iload_n hx hb dX7_books_20 rfl (lv_at hl 3 rfl) ?_
      refine g_callS (As := [.int z]) (rest := []) (wr := (mW tk h Mt hi la ce)) (C0.sz hl) X (c_X7_isBreath l D tk z) ⟨tb1009, tb1011, tb8, ⟨by decide, by decide, rfl⟩, rfl, rfl, Nat.le_of_ble_eq_true rfl, Nat.le_of_ble_eq_true rfl⟩ tb1010 rfl [] [0, 1, 2, 3, 4, 5, 6, 7, 8, 9, 10, 11, 12, 13] rfl rfl rfl rfl rfl (Nat.le_of_ble_eq_true rfl) ⟨Nat.le_of_ble_eq_true rfl, Nat.le_of_ble_eq_true rfl⟩ dX7_books_21 (fun _ H locs _ X => ?_)
      have X : Hx D zA zs H locs (mW tk h Mt hi la ce) := X
      refine g_ifneB (x := rg z 1 60) (tgt := 29) C0 dX7_books_24 rfl (fun c5 => ?_) (fun c6 => ?_)
      · obtain ⟨q, hk_qa, hk_qb, hk_qc, rfl⟩ := rg_sp c5
        refine lv_aload_n hx hb dX7_books_29 rfl (lv_at hl 0 rfl) ?_
        refine g_get (v := .ref (h 1)) C0 X kX7 0 0 tb797 rfl rfl rfl dX7_books_30 ?_
        refine g_bipush (n := 62) C0 (by decide) dX7_books_33 ?_
        refine g_iald (v := nI (Mt 0 62)) (i := 62) C0 X 1 0 rfl rfl (by omega) rfl rfl dX7_books_35 ?_
        refine lv_istore (lv' := [(4, .int (nI (Mt 0 62))), (0, .ref (h 0)), (1, .int (nI a)), (2, .int (nI b)), (3, .int (nI q))]) hx hb dX7_books_36 hl (by decide) rfl (fun ls hl => ?_)
        refine lv_iload hx hb dX7_books_38 (lv_at hl 0 rfl) ?_
        refine g_bipush (n := 6) C0 (by decide) dX7_books_40 ?_
        refine g_icmp_ne (x := Mt 0 62) (y := 6) (tgt := 48) C0 (by omega) (by omega) dX7_books_42 rfl (fun c7 => ?_) (fun c8 => ?_)
        · refine lv_aload_n hx hb dX7_books_48 rfl (lv_at hl 1 rfl) ?_
          refine g_get (v := .ref (h 1)) C0 X kX7 0 0 tb797 rfl rfl rfl dX7_books_49 ?_
          refine g_bipush (n := 44) C0 (by decide) dX7_books_52 ?_
          refine lv_iload hx hb dX7_books_54 (lv_at hl 0 rfl) ?_
          refine g_iadd (n := 44 + (Mt 0 62)) C0 (by first | rfl | omega) dX7_books_56 ?_
          refine lv_iload_n hx hb dX7_books_57 rfl (lv_at hl 2 rfl) ?_
          refine g_iast (g := nf (u1 (Mt 0) (44 + (Mt 0 62)) a)) (i := 44 + (Mt 0 62)) C0 X 1 0 rfl rfl (by omega) rfl (nf_u1 _ _ _) dX7_books_58 (fun H locs X => ?_)
          have X : Hx D zA zs H locs (mW tk h (u2 Mt 0 (44 + (Mt 0 62)) a) hi la ce) := X
          refine lv_aload_n hx hb dX7_books_59 rfl (lv_at hl 1 rfl) ?_
          refine g_get (v := .ref (h 1)) C0 X kX7 0 0 tb797 rfl rfl rfl dX7_books_60 ?_
          refine g_bipush (n := 50) C0 (by decide) dX7_books_63 ?_
          refine lv_iload hx hb dX7_books_65 (lv_at hl 0 rfl) ?_
          refine g_iadd (n := 50 + (Mt 0 62)) C0 (by first | rfl | omega) dX7_books_67 ?_
          refine lv_iload_n hx hb dX7_books_68 rfl (lv_at hl 3 rfl) ?_
          refine g_iast (g := nf (u1 (u1 (Mt 0) (44 + (Mt 0 62)) a) (50 + (Mt 0 62)) b)) (i := 50 + (Mt 0 62)) C0 X 1 0 rfl rfl (by omega) rfl (nf_u1 _ _ _) dX7_books_69 (fun H locs X => ?_)
          have X : Hx D zA zs H locs (mW tk h (u2 (u2 Mt 0 (44 + (Mt 0 62)) a) 0 (50 + (Mt 0 62)) b) hi la ce) := X
          refine lv_aload_n hx hb dX7_books_70 rfl (lv_at hl 1 rfl) ?_
          refine g_get (v := .ref (h 1)) C0 X kX7 0 0 tb797 rfl rfl rfl dX7_books_71 ?_
          refine g_bipush (n := 56) C0 (by decide) dX7_books_74 ?_
          refine lv_iload hx hb dX7_books_76 (lv_at hl 0 rfl) ?_
          refine g_iadd (n := 56 + (Mt 0 62)) C0 (by first | rfl | omega) dX7_books_78 ?_
          refine lv_iload_n hx hb dX7_books_79 rfl (lv_at hl 4 rfl) ?_
          refine g_iast (g := nf (u1 (u1 (u1 (Mt 0) (44 + (Mt 0 62)) a) (50 + (Mt 0 62)) b) (56 + (Mt 0 62)) q)) (i := 56 + (Mt 0 62)) C0 X 1 0 rfl rfl (by omega) rfl (nf_u1 _ _ _) dX7_books_80 (fun H locs X => ?_)
          have X : Hx D zA zs H locs (mW tk h (u2 (u2 (u2 Mt 0 (44 + (Mt 0 62)) a) 0 (50 + (Mt 0 62)) b) 0 (56 + (Mt 0 62)) q) hi la ce) := X
          refine lv_aload_n hx hb dX7_books_81 rfl (lv_at hl 1 rfl) ?_
          refine g_get (v := .ref (h 1)) C0 X kX7 0 0 tb797 rfl rfl rfl dX7_books_82 ?_
          refine g_bipush (n := 62) C0 (by decide) dX7_books_85 ?_
          refine lv_dup2_11 hx hb dX7_books_87 rfl rfl ?_
          refine g_iald (v := nI ((u1 (u1 (u1 (Mt 0) (44 + (Mt 0 62)) a) (50 + (Mt 0 62)) b) (56 + (Mt 0 62)) q) 62)) (i := 62) C0 X 1 0 rfl rfl (by omega) rfl (by first | rfl | exact congrArg nI (u1_s _ _ _)) dX7_books_88 ?_
          refine g_top (y := nI (Mt 0 62)) (by refine congrArg nI ?_; unfold u1; repeat rw [if_neg (by omega)]) ?_
          refine g_iconst (n := 1) C0 rfl dX7_books_89 ?_
          refine g_iadd (n := Mt 0 62 + 1) C0 (by first | rfl | omega) dX7_books_90 ?_
          refine g_iast (g := nf (u1 (u1 (u1 (u1 (Mt 0) (44 + (Mt 0 62)) a) (50 + (Mt 0 62)) b) (56 + (Mt 0 62)) q) 62 (Mt 0 62 + 1))) (i := 62) C0 X 1 0 rfl rfl (by omega) rfl (nf_u1 _ _ _) dX7_books_91 (fun H locs X => ?_)
          have X : Hx D zA zs H locs (mW tk h (u2 (u2 (u2 (u2 Mt 0 (44 + (Mt 0 62)) a) 0 (50 + (Mt 0 62)) b) 0 (56 + (Mt 0 62)) q) 0 62 (Mt 0 62 + 1)) hi la ce) := X
          refine lv_aload_n hx hb dX7_books_92 rfl (lv_at hl 1 rfl) ?_
          refine g_get (v := .ref (h 1)) C0 X kX7 0 0 tb797 rfl rfl rfl dX7_books_93 ?_
          refine g_bipush (n := 62) C0 (by decide) dX7_books_96 ?_
          refine g_iald (v := nI (Mt 0 62 + 1)) (i := 62) C0 X 1 0 rfl rfl (by omega) rfl (by first | rfl | exact congrArg nI (u1_s _ _ _)) dX7_books_98 ?_
          exact hE (v := nI (Mt 0 62 + 1)) () (by rw [a_book_t c2 c4 c5 (by show Mt 0 (0 + 62) ≠ 6; rw [Nat.zero_add]; omega)]; rfl) trivial (X.to (by rw [bookM_t c2 c4 c5 (by omega), tn_nI hk_ac, tn_nI (by omega), tn_nI hk_qc]; rfl)) dX7_books_99
        · refine lv_bipush (v := (-3)) hx hb dX7_books_45 (by decide) ?_
          exact hE (v := (-3)) () (by simp only [a_book, pg8, pg83, c2, c4, c5, c8]; rfl) trivial (X.to (by simp only [bookM, c2, c4, c5, c8]; rfl)) dX7_books_47
      · refine lv_iconst (v := (-1)) hx hb dX7_books_27 (by decide) ?_
        exact hE (v := (-1)) () (by simp only [a_book, pg8, c2, c4, c6]; rfl) trivial (X.to (by simp only [bookM, c2, c4, c6]; rfl)) dX7_books_28
