set_option maxHeartbeats 4000000 in
set_option maxRecDepth 100000 in
theorem c_X7_leastOf (l : Launch) (D : va_G) (tk : Nat → ClassId) (h : Nat → Nat) (Mt : Nat → Nat → Nat) (hi : Int32) (la ce : Nat → Int32) (t sm : Nat) (hW : VW (pgv Mt 0)) (ht0 : t < 6) (hs : sm < 2 ^ 31) : MX l yX7_leastOf cX7_leastOf 4 (some .int) ⟨2, 0, 0, 49⟩ D (TYS tk) [.ref (h 0), .int (nI t), .int (nI sm)] (mW tk h Mt hi la ce) (fun (_ : Unit) => True) (fun _ => some (.int (orNone (leastS (pgv Mt 0) t sm sm)))) (fun _ => mW tk h (u3 Mt 6 (dist (pgv Mt 0) t)) hi la ce) 0 0 := by
  refine MX.of_i (by decide) rfl ?_
  intro zp ze zs zm za zb zt zc zA zQ ls C0 hnm X hl hE
  have hx := C0.1
  have hb := C0.2.1
  have ht := C0.2.2.2.2.1
  have X : Hx D zA zs zs.heap [] (mW tk h Mt hi la ce) := X
  have hl : lv_has ls 4 [(0, .ref (h 0)), (1, .int (nI t)), (2, .int (nI sm))] := hl
  have hv1 := hW.1
  obtain ⟨H, hH⟩ : ∃ H, H = zs.heap := ⟨_, rfl⟩
  rw [← hH] at X ⊢
  obtain ⟨locs, hlo⟩ : ∃ L : List Loc, L = [] := ⟨_, rfl⟩
  rw [← hlo] at X ⊢
  refine lv_aload_n hx hb dX7_leastOf_0 rfl (lv_at hl 0 rfl) ?_
  refine g_iconst (n := 0) C0 rfl dX7_leastOf_1 ?_
  refine lv_iload_n hx hb dX7_leastOf_2 rfl (lv_at hl 1 rfl) ?_
  refine g_callV (As := [.int (nI 0), .int (nI t)]) (rest := []) (wr := []) (C0.sz hl) X (c_X7_waysOn l D tk h Mt hi la ce 0 t (by omega) (by exact hW) (by omega)) ⟨tb961, tb964, tb8, ⟨by decide, by decide, rfl⟩, rfl, rfl, Nat.le_of_ble_eq_true rfl, Nat.le_of_ble_eq_true rfl⟩ tb963 tbs34 0 7 rfl rfl rfl rfl [0, 1, 2, 3, 4, 5, 6, 7, 8, 9, 10, 11, 12, 13] [] rfl rfl rfl rfl rfl (Nat.le_of_ble_eq_true rfl) ⟨Nat.le_of_ble_eq_true rfl, Nat.le_of_ble_eq_true rfl⟩ dX7_leastOf_3 (fun _ H locs _ X => ?_)
  have X : Hx D zA zs H locs (mW tk h (u3 Mt 6 (dist (pgv Mt 0) t)) hi la ce) := X
  refine g_iconst (n := 1) C0 rfl dX7_leastOf_6 ?_
  refine lv_istore_n (lv' := [(3, .int (nI 1)), (0, .ref (h 0)), (1, .int (nI t)), (2, .int (nI sm))]) hx hb dX7_leastOf_7 rfl hl (by decide) rfl (fun ls hl => ?_)
  have J8 : ∀ (fz : Nat) (i : Nat), 61 - i < fz → ∀ (hi1 : 1 ≤ i) (hi2 : i ≤ 61) (hbs : leastS (pgv Mt 0) t sm sm = lfind (fun b => decide (hearS (pgv Mt 0) t b &&& sm = sm)) (61 - i) i) (H : Heap) (locs : List Loc) (ls : Array Slot), Hx D zA zs H locs (mW tk h (u3 Mt 6 (dist (pgv Mt 0) t)) hi la ce) → lv_has ls 4 [(3, .int (nI i)), (0, .ref (h 0)), (1, .int (nI t)), (2, .int (nI sm))] → W zp l ze ⟨2, 0, 0, 49⟩ zs zm za zb zt zc H locs 0 0 zQ (F0 zm 8 ls []) := by
    intro fz
    induction fz with
    | zero => intro i hz; exact absurd hz (Nat.not_lt_zero _)
    | succ fz ih8 =>
      intro i hz8 hi1 hi2 hbs H locs ls X hl
      refine lv_iload_n hx hb dX7_leastOf_8 rfl (lv_at hl 0 rfl) ?_
      refine g_bipush (n := 60) C0 (by decide) dX7_leastOf_9 ?_
      refine g_icmp_gt (x := i) (y := 60) (tgt := 34) C0 (by omega) (by omega) dX7_leastOf_11 rfl (fun c1 => ?_) (fun c2 => ?_)
      · refine lv_bipush (v := (-4)) hx hb dX7_leastOf_34 (by decide) ?_
        exact hE (v := (-4)) () (by rw [hbs, show 61 - i = 0 by omega]; rfl) trivial X dX7_leastOf_36
      · refine lv_aload_n hx hb dX7_leastOf_14 rfl (lv_at hl 1 rfl) ?_
        refine g_iconst (n := 0) C0 rfl dX7_leastOf_15 ?_
        refine lv_iload_n hx hb dX7_leastOf_16 rfl (lv_at hl 0 rfl) ?_
        refine g_callV (As := [.int (nI 0), .int (nI i)]) (rest := []) (wr := []) (C0.sz hl) X (c_X7_hearersOn l D tk h (u3 Mt 6 (dist (pgv Mt 0) t)) hi la ce 0 i (by omega) (by exact hW) (by exact fun x _ => dist_le _ _ x) (by omega)) ⟨tb965, tb968, tb8, ⟨by decide, by decide, rfl⟩, rfl, rfl, Nat.le_of_ble_eq_true rfl, Nat.le_of_ble_eq_true rfl⟩ tb967 tbs35 0 7 rfl rfl rfl rfl [0, 1, 2, 3, 4, 5, 6, 7, 8, 9, 10, 11, 12, 13] [] rfl rfl rfl rfl rfl (Nat.le_of_ble_eq_true rfl) ⟨Nat.le_of_ble_eq_true rfl, Nat.le_of_ble_eq_true rfl⟩ dX7_leastOf_17 (fun _ H locs _ X => ?_)
        have X : Hx D zA zs H locs (mW tk h (u3 Mt 6 (dist (pgv Mt 0) t)) hi la ce) := X
        refine lv_iload_n hx hb dX7_leastOf_20 rfl (lv_at hl 3 rfl) ?_
        refine g_iand (n := (hearW (pgv Mt 0) ((u3 Mt 6 (dist (pgv Mt 0) t)) 6) i) &&& sm) C0 rfl dX7_leastOf_21 ?_
        refine lv_iload_n hx hb dX7_leastOf_22 rfl (lv_at hl 3 rfl) ?_
        have hL := hearS_lt (pgv Mt 0) t i hv1
        refine g_icmp_ne (x := (hearW (pgv Mt 0) ((u3 Mt 6 (dist (pgv Mt 0) t)) 6) i) &&& sm) (y := sm) (tgt := 28) C0 (by first | exact and_31 (Nat.lt_of_lt_of_le hL (by decide)) | omega) (by first | exact and_31 (Nat.lt_of_lt_of_le hL (by decide)) | omega) dX7_leastOf_23 rfl (fun c3 => ?_) (fun c4 => ?_)
        · refine g_iinc (j := 1) (z := i + 1) (lv' := [(3, .int (nI (i + 1))), (0, .ref (h 0)), (1, .int (nI t)), (2, .int (nI sm))]) C0 rfl (by first | rfl | omega) dX7_leastOf_28 hl (k := 0) rfl (by decide) rfl (fun ls hl => ?_)
          refine lv_goto (tgt := 8) hx hb dX7_leastOf_31 (by decide) ?_
          exact ih8 (i + 1) (by omega) (by omega) (by omega) (by rw [hbs]; exact lfind_s (by omega) (decide_eq_false c3)) H locs ls X (lv_sub hl [0, 1, 2, 3] rfl)
        · refine lv_iload_n hx hb dX7_leastOf_26 rfl (lv_at hl 0 rfl) ?_
          exact hE (v := nI i) () (by rw [hbs, lfind_y (by omega) (decide_eq_true c4)]; exact congrArg (fun z => some (Value.int z)) (orNone_p (by omega))) trivial X dX7_leastOf_27
  exact J8 ((61 - 1) + 1) 1 (Nat.lt_succ_self _) (by omega) (by omega) (by rfl) H locs ls X (lv_sub hl [0, 1, 2, 3] rfl)
set_option maxHeartbeats 4000000 in
set_option maxRecDepth 100000 in
theorem c_X7_isAsSeen (l : Launch) (D : va_G) (tk : Nat → ClassId) (h : Nat → Nat) (Mt : Nat → Nat → Nat) (hi : Int32) (la ce : Nat → Int32) (p b : Nat) (hp : p ≤ 252) (hW : VW (pgv Mt p)) (hn : Mt 20 11 ≤ 6) (hs : ∀ j, j < Mt 20 11 → Mt 8 (2 * j) < Mt 20 0 ∧ Mt 8 (2 * j + 1) ≤ 120) (hd : ∀ x, x < 6 → Mt 6 x ≤ 1000) (hb : b ≤ 60) : MX l yX7_isAsSeen cX7_isAsSeen 5 (some .boolean) ⟨2, 0, 0, 46⟩ D (TYS tk) [.ref (h 0), .int (nI p), .int (nI b)] (mW tk h Mt hi la ce) (fun (_ : Unit) => True) (fun _ => some (.int (nI (rb (fitW (pgv Mt p) (Mt 6) b (Mt 20 11) (mpl Mt) (mlo Mt)))))) (fun _ => mW tk h Mt hi la ce) 0 0 := by
  refine MX.of_z (by decide) rfl ?_
  intro zp ze zs zm za zb zt zc zA zQ ls C0 hnm X hl hE
  have hx := C0.1
  have hb := C0.2.1
  have ht := C0.2.2.2.2.1
  have X : Hx D zA zs zs.heap [] (mW tk h Mt hi la ce) := X
  have hl : lv_has ls 5 [(0, .ref (h 0)), (1, .int (nI p)), (2, .int (nI b))] := hl
  obtain ⟨hv1, hv2, hv3, hv4, hv5, hv6, hv7⟩ := id hW
  have hb1 : Mt 20 0 ≤ 6 := hv1
  obtain ⟨H, hH⟩ : ∃ H, H = zs.heap := ⟨_, rfl⟩
  rw [← hH] at X ⊢
  obtain ⟨locs, hlo⟩ : ∃ L : List Loc, L = [] := ⟨_, rfl⟩
  rw [← hlo] at X ⊢
  refine g_iconst (n := 1) C0 rfl dX7_isAsSeen_0 ?_
  refine lv_istore_n (lv' := [(3, .int (nI 1)), (0, .ref (h 0)), (1, .int (nI p)), (2, .int (nI b))]) hx hb dX7_isAsSeen_1 rfl hl (by decide) rfl (fun ls hl => ?_)
  refine g_iconst (n := 0) C0 rfl dX7_isAsSeen_2 ?_
  refine lv_istore (lv' := [(4, .int (nI 0)), (3, .int (nI 1)), (0, .ref (h 0)), (1, .int (nI p)), (2, .int (nI b))]) hx hb dX7_isAsSeen_3 hl (by decide) rfl (fun ls hl => ?_)
  have J5 : ∀ (fz : Nat) (i fl : Nat), Mt 20 11 - i < fz → ∀ (hi1 : i ≤ Mt 20 11) (hfl : fl ≤ 1) (hf : fl = rb (ball (fitP (pgv Mt p) (Mt 6) b (mpl Mt) (mlo Mt)) i)) (H : Heap) (locs : List Loc) (ls : Array Slot), Hx D zA zs H locs (mW tk h Mt hi la ce) → lv_has ls 5 [(4, .int (nI i)), (3, .int (nI fl)), (0, .ref (h 0)), (1, .int (nI p)), (2, .int (nI b))] → W zp l ze ⟨2, 0, 0, 46⟩ zs zm za zb zt zc H locs 0 0 zQ (F0 zm 5 ls []) := by
    intro fz
    induction fz with
    | zero => intro i fl hz; exact absurd hz (Nat.not_lt_zero _)
    | succ fz ih5 =>
      intro i fl hz5 hi1 hfl hf H locs ls X hl
      refine lv_iload hx hb dX7_isAsSeen_5 (lv_at hl 0 rfl) ?_
      refine lv_aload_n hx hb dX7_isAsSeen_7 rfl (lv_at hl 2 rfl) ?_
      refine g_get (v := .int (nI (Mt 20 11))) C0 X kX7 0 20 tb817 rfl rfl rfl dX7_isAsSeen_8 ?_
      refine g_icmp_ge (x := i) (y := Mt 20 11) (tgt := 75) C0 (by omega) (by omega) dX7_isAsSeen_11 rfl (fun c1 => ?_) (fun c2 => ?_)
      · refine lv_iload_n hx hb dX7_isAsSeen_75 rfl (lv_at hl 1 rfl) ?_
        refine g_top (y := nI (rb (ball (fitP (pgv Mt p) (Mt 6) b (mpl Mt) (mlo Mt)) i))) (by rw [hf]) ?_
        exact hE (v := ball (fitP (pgv Mt p) (Mt 6) b (mpl Mt) (mlo Mt)) i) () (by unfold fitW; rw [show Mt 20 11 = i by omega]) trivial X dX7_isAsSeen_76
      · have hs1 := hs i (by omega)
        have hk : Mt 0 (p + Mt 8 (2 * i)) ≤ 3 := hv5 (Mt 8 (2 * i)) hs1.1
        have hdi := hd (Mt 8 (2 * i)) (by omega)
        refine lv_iload_n hx hb dX7_isAsSeen_14 rfl (lv_at hl 1 rfl) ?_
        refine g_ifeq (x := fl) (tgt := 67) C0 (by omega) dX7_isAsSeen_15 rfl (fun c3 => ?_) (fun c4 => ?_)
        · refine g_iconst (n := 0) C0 rfl dX7_isAsSeen_67 ?_
          refine lv_istore_n (lv' := [(3, .int (nI 0)), (4, .int (nI i)), (0, .ref (h 0)), (1, .int (nI p)), (2, .int (nI b))]) hx hb dX7_isAsSeen_68 rfl hl (by decide) rfl (fun ls hl => ?_)
          refine g_iinc (j := 1) (z := i + 1) (lv' := [(4, .int (nI (i + 1))), (3, .int (nI 0)), (0, .ref (h 0)), (1, .int (nI p)), (2, .int (nI b))]) C0 rfl (by first | rfl | omega) dX7_isAsSeen_69 hl (k := 1) rfl (by decide) rfl (fun ls hl => ?_)
          refine lv_goto (tgt := 5) hx hb dX7_isAsSeen_72 (by decide) ?_
          exact ih5 (i + 1) 0 (by omega) (by omega) (by omega) (by exact (ball_0 (rb_0 (hf.symm.trans c3))).symm) H locs ls X (lv_sub hl [0, 1, 2, 3, 4] rfl)
        · refine lv_aload_n hx hb dX7_isAsSeen_18 rfl (lv_at hl 2 rfl) ?_
          refine lv_aload_n hx hb dX7_isAsSeen_19 rfl (lv_at hl 2 rfl) ?_
          refine g_get (v := .ref (h 8)) C0 X kX7 0 19 tb816 rfl rfl rfl dX7_isAsSeen_20 ?_
          refine g_iconst (n := 2) C0 rfl dX7_isAsSeen_23 ?_
          refine lv_iload hx hb dX7_isAsSeen_24 (lv_at hl 0 rfl) ?_
          refine g_imul (n := 2 * i) C0 rfl dX7_isAsSeen_26 ?_
          refine g_iald (v := nI (Mt 8 (2 * i))) (i := 2 * i) C0 X 8 0 rfl rfl (by omega) rfl rfl dX7_isAsSeen_27 ?_
          refine g_callV (As := [.int (nI (Mt 8 (2 * i)))]) (rest := []) (wr := []) (C0.sz hl) X (c_X7_isTree l D tk h Mt hi la ce (nI (Mt 8 (2 * i))) (by first | assumption | omega)) ⟨tb980, tb983, tb8, ⟨by decide, by decide, rfl⟩, rfl, rfl, Nat.le_of_ble_eq_true rfl, Nat.le_of_ble_eq_true rfl⟩ tb982 tbs37 0 7 rfl rfl rfl rfl [0, 1, 2, 3, 4, 5, 6, 7, 8, 9, 10, 11, 12, 13] [] rfl rfl rfl rfl rfl (Nat.le_of_ble_eq_true rfl) ⟨Nat.le_of_ble_eq_true rfl, Nat.le_of_ble_eq_true rfl⟩ dX7_isAsSeen_28 (fun _ H locs _ X => ?_)
          have X : Hx D zA zs H locs (mW tk h Mt hi la ce) := X
          refine g_top (y := nI (rb true)) (by rw [ix_nI (by omega), decide_eq_true hs1.1]) ?_
          refine g_ifeqB (x := true) (tgt := 67) C0 dX7_isAsSeen_31 rfl (fun q => absurd q (by decide)) (fun _ => ?_)
          refine lv_aload_n hx hb dX7_isAsSeen_34 rfl (lv_at hl 2 rfl) ?_
          refine lv_iload_n hx hb dX7_isAsSeen_35 rfl (lv_at hl 3 rfl) ?_
          refine lv_aload_n hx hb dX7_isAsSeen_36 rfl (lv_at hl 2 rfl) ?_
          refine g_get (v := .ref (h 8)) C0 X kX7 0 19 tb816 rfl rfl rfl dX7_isAsSeen_37 ?_
          refine g_iconst (n := 2) C0 rfl dX7_isAsSeen_40 ?_
          refine lv_iload hx hb dX7_isAsSeen_41 (lv_at hl 0 rfl) ?_
          refine g_imul (n := 2 * i) C0 rfl dX7_isAsSeen_43 ?_
          refine g_iald (v := nI (Mt 8 (2 * i))) (i := 2 * i) C0 X 8 0 rfl rfl (by omega) rfl rfl dX7_isAsSeen_44 ?_
          refine lv_iload_n hx hb dX7_isAsSeen_45 rfl (lv_at hl 4 rfl) ?_
          refine g_callV (As := [.int (nI p), .int (nI (Mt 8 (2 * i))), .int (nI b)]) (rest := []) (wr := []) (C0.sz hl) X (c_X7_loudOn l D tk h Mt hi la ce p (Mt 8 (2 * i)) b (by first | assumption | omega) (by first | assumption | omega) (by first | assumption | omega) (by first | assumption | omega) (by first | assumption | omega)) ⟨tb969, tb972, tb8, ⟨by decide, by decide, rfl⟩, rfl, rfl, Nat.le_of_ble_eq_true rfl, Nat.le_of_ble_eq_true rfl⟩ tb971 tbs36 0 7 rfl rfl rfl rfl [0, 1, 2, 3, 4, 5, 6, 7, 8, 9, 10, 11, 12, 13] [] rfl rfl rfl rfl rfl (Nat.le_of_ble_eq_true rfl) ⟨Nat.le_of_ble_eq_true rfl, Nat.le_of_ble_eq_true rfl⟩ dX7_isAsSeen_46 (fun _ H locs _ X => ?_)
          have X : Hx D zA zs H locs (mW tk h Mt hi la ce) := X
          refine lv_aload_n hx hb dX7_isAsSeen_49 rfl (lv_at hl 2 rfl) ?_
          refine g_get (v := .ref (h 8)) C0 X kX7 0 19 tb816 rfl rfl rfl dX7_isAsSeen_50 ?_
          refine g_iconst (n := 2) C0 rfl dX7_isAsSeen_53 ?_
          refine lv_iload hx hb dX7_isAsSeen_54 (lv_at hl 0 rfl) ?_
          refine g_imul (n := 2 * i) C0 rfl dX7_isAsSeen_56 ?_
          refine g_iconst (n := 1) C0 rfl dX7_isAsSeen_57 ?_
          refine g_iadd (n := (2 * i) + 1) C0 (by first | rfl | omega) dX7_isAsSeen_58 ?_
          refine g_iald (v := nI (Mt 8 ((2 * i) + 1))) (i := (2 * i) + 1) C0 X 8 0 rfl rfl (by omega) rfl rfl dX7_isAsSeen_59 ?_
          have hL := loudS_le (Mt 0 (p + Mt 8 (2 * i))) b (Mt 6 (Mt 8 (2 * i)))
          refine g_icmp_ne (x := loudS (Mt 0 (p + (Mt 8 (2 * i)))) b (Mt 6 (Mt 8 (2 * i)))) (y := Mt 8 ((2 * i) + 1)) (tgt := 67) C0 (by omega) (by omega) dX7_isAsSeen_60 rfl (fun c7 => ?_) (fun c8 => ?_)
          · refine g_iconst (n := 0) C0 rfl dX7_isAsSeen_67 ?_
            refine lv_istore_n (lv' := [(3, .int (nI 0)), (4, .int (nI i)), (0, .ref (h 0)), (1, .int (nI p)), (2, .int (nI b))]) hx hb dX7_isAsSeen_68 rfl hl (by decide) rfl (fun ls hl => ?_)
            refine g_iinc (j := 1) (z := i + 1) (lv' := [(4, .int (nI (i + 1))), (3, .int (nI 0)), (0, .ref (h 0)), (1, .int (nI p)), (2, .int (nI b))]) C0 rfl (by first | rfl | omega) dX7_isAsSeen_69 hl (k := 1) rfl (by decide) rfl (fun ls hl => ?_)
            refine lv_goto (tgt := 5) hx hb dX7_isAsSeen_72 (by decide) ?_
            exact ih5 (i + 1) 0 (by omega) (by omega) (by omega) (by exact (ball_c (decide_eq_false c7)).symm) H locs ls X (lv_sub hl [0, 1, 2, 3, 4] rfl)
          · refine g_iconst (n := 1) C0 rfl dX7_isAsSeen_63 ?_
            refine lv_goto (tgt := 68) hx hb dX7_isAsSeen_64 (by decide) ?_
            refine lv_istore_n (lv' := [(3, .int (nI 1)), (4, .int (nI i)), (0, .ref (h 0)), (1, .int (nI p)), (2, .int (nI b))]) hx hb dX7_isAsSeen_68 rfl hl (by decide) rfl (fun ls hl => ?_)
            refine g_iinc (j := 1) (z := i + 1) (lv' := [(4, .int (nI (i + 1))), (3, .int (nI 1)), (0, .ref (h 0)), (1, .int (nI p)), (2, .int (nI b))]) C0 rfl (by first | rfl | omega) dX7_isAsSeen_69 hl (k := 1) rfl (by decide) rfl (fun ls hl => ?_)
            refine lv_goto (tgt := 5) hx hb dX7_isAsSeen_72 (by decide) ?_
            exact ih5 (i + 1) 1 (by omega) (by omega) (by omega) (by exact (ball_tt (rb_1 (hf ▸ c4)) (decide_eq_true c8)).symm) H locs ls X (lv_sub hl [0, 1, 2, 3, 4] rfl)
  exact J5 ((Mt 20 11 - 0) + 1) 0 1 (Nat.lt_succ_self _) (by omega) (by omega) (by rfl) H locs ls X (lv_sub hl [0, 1, 2, 3, 4] rfl)
set_option maxHeartbeats 4000000 in
set_option maxRecDepth 100000 in
theorem c_X7_breathsOn (l : Launch) (D : va_G) (tk : Nat → ClassId) (h : Nat → Nat) (Mt : Nat → Nat → Nat) (hi : Int32) (la ce : Nat → Int32) (p t : Nat) (hp : p ≤ 252) (hW : VW (pgv Mt p)) (hn : Mt 20 11 ≤ 6) (hs : ∀ j, j < Mt 20 11 → Mt 8 (2 * j) < Mt 20 0 ∧ Mt 8 (2 * j + 1) ≤ 120) (ht0 : t < 6) : MX l yX7_breathsOn cX7_breathsOn 5 (some .int) ⟨3, 0, 0, 70⟩ D (TYS tk) [.ref (h 0), .int (nI p), .int (nI t)] (mW tk h Mt hi la ce) (fun (_ : Unit) => True) (fun _ => some (.int (nI (manyS (pgv Mt p) t (Mt 20 11) (mpl Mt) (mlo Mt))))) (fun _ => mW tk h (u3 Mt 6 (dist (pgv Mt p) t)) hi la ce) 0 0 := by
  refine MX.of_i (by decide) rfl ?_
  intro zp ze zs zm za zb zt zc zA zQ ls C0 hnm X hl hE
  have hx := C0.1
  have hb := C0.2.1
  have ht := C0.2.2.2.2.1
  have X : Hx D zA zs zs.heap [] (mW tk h Mt hi la ce) := X
  have hl : lv_has ls 5 [(0, .ref (h 0)), (1, .int (nI p)), (2, .int (nI t))] := hl
  obtain ⟨H, hH⟩ : ∃ H, H = zs.heap := ⟨_, rfl⟩
  rw [← hH] at X ⊢
  obtain ⟨locs, hlo⟩ : ∃ L : List Loc, L = [] := ⟨_, rfl⟩
  rw [← hlo] at X ⊢
  refine g_iconst (n := 0) C0 rfl dX7_breathsOn_0 ?_
  refine lv_istore_n (lv' := [(3, .int (nI 0)), (0, .ref (h 0)), (1, .int (nI p)), (2, .int (nI t))]) hx hb dX7_breathsOn_1 rfl hl (by decide) rfl (fun ls hl => ?_)
  refine lv_aload_n hx hb dX7_breathsOn_2 rfl (lv_at hl 1 rfl) ?_
  refine lv_iload_n hx hb dX7_breathsOn_3 rfl (lv_at hl 2 rfl) ?_
  refine lv_iload_n hx hb dX7_breathsOn_4 rfl (lv_at hl 3 rfl) ?_
  refine g_callV (As := [.int (nI p), .int (nI t)]) (rest := []) (wr := []) (C0.sz hl) X (c_X7_waysOn l D tk h Mt hi la ce p t (by omega) (by exact hW) (by omega)) ⟨tb961, tb964, tb8, ⟨by decide, by decide, rfl⟩, rfl, rfl, Nat.le_of_ble_eq_true rfl, Nat.le_of_ble_eq_true rfl⟩ tb963 tbs34 0 7 rfl rfl rfl rfl [0, 1, 2, 3, 4, 5, 6, 7, 8, 9, 10, 11, 12, 13] [] rfl rfl rfl rfl rfl (Nat.le_of_ble_eq_true rfl) ⟨Nat.le_of_ble_eq_true rfl, Nat.le_of_ble_eq_true rfl⟩ dX7_breathsOn_5 (fun _ H locs _ X => ?_)
  have X : Hx D zA zs H locs (mW tk h (u3 Mt 6 (dist (pgv Mt p) t)) hi la ce) := X
  refine g_iconst (n := 1) C0 rfl dX7_breathsOn_8 ?_
  refine lv_istore (lv' := [(4, .int (nI 1)), (3, .int (nI 0)), (0, .ref (h 0)), (1, .int (nI p)), (2, .int (nI t))]) hx hb dX7_breathsOn_9 hl (by decide) rfl (fun ls hl => ?_)
  have J11 : ∀ (fz : Nat) (i m : Nat), 61 - i < fz → ∀ (hi1 : 1 ≤ i) (hi2 : i ≤ 61) (hm : m = cnt (fun j => fitS (pgv Mt p) t (j + 1) (Mt 20 11) (mpl Mt) (mlo Mt)) (i - 1)) (H : Heap) (locs : List Loc) (ls : Array Slot), Hx D zA zs H locs (mW tk h (u3 Mt 6 (dist (pgv Mt p) t)) hi la ce) → lv_has ls 5 [(4, .int (nI i)), (3, .int (nI m)), (0, .ref (h 0)), (1, .int (nI p)), (2, .int (nI t))] → W zp l ze ⟨3, 0, 0, 70⟩ zs zm za zb zt zc H locs 0 0 zQ (F0 zm 11 ls []) := by
    intro fz
    induction fz with
    | zero => intro i m hz; exact absurd hz (Nat.not_lt_zero _)
    | succ fz ih11 =>
      intro i m hz11 hi1 hi2 hm H locs ls X hl
      refine lv_iload hx hb dX7_breathsOn_11 (lv_at hl 0 rfl) ?_
      refine g_bipush (n := 60) C0 (by decide) dX7_breathsOn_13 ?_
      refine g_icmp_gt (x := i) (y := 60) (tgt := 42) C0 (by omega) (by omega) dX7_breathsOn_15 rfl (fun c1 => ?_) (fun c2 => ?_)
      · refine lv_iload_n hx hb dX7_breathsOn_42 rfl (lv_at hl 1 rfl) ?_
        exact hE (v := nI m) () (by rw [hm, show i - 1 = 60 by omega]; rfl) trivial X dX7_breathsOn_43
      · refine lv_iload_n hx hb dX7_breathsOn_18 rfl (lv_at hl 1 rfl) ?_
        refine lv_aload_n hx hb dX7_breathsOn_19 rfl (lv_at hl 2 rfl) ?_
        refine lv_iload_n hx hb dX7_breathsOn_20 rfl (lv_at hl 3 rfl) ?_
        refine lv_iload hx hb dX7_breathsOn_21 (lv_at hl 0 rfl) ?_
        refine g_callV (As := [.int (nI p), .int (nI i)]) (rest := [.int (nI m)]) (wr := []) (C0.sz hl) X (c_X7_isAsSeen l D tk h (u3 Mt 6 (dist (pgv Mt p) t)) hi la ce p i (by omega) (by exact hW) (by exact hn) (by exact hs) (by exact fun x _ => dist_le _ _ x) (by omega)) ⟨tb1158, tb1161, tb8, ⟨by decide, by decide, rfl⟩, rfl, rfl, Nat.le_of_ble_eq_true rfl, Nat.le_of_ble_eq_true rfl⟩ tb1160 tbs50 0 7 rfl rfl rfl rfl [0, 1, 2, 3, 4, 5, 6, 7, 8, 9, 10, 11, 12, 13] [] rfl rfl rfl rfl rfl (Nat.le_of_ble_eq_true rfl) ⟨Nat.le_of_ble_eq_true rfl, Nat.le_of_ble_eq_true rfl⟩ dX7_breathsOn_23 (fun _ H locs _ X => ?_)
        have X : Hx D zA zs H locs (mW tk h (u3 Mt 6 (dist (pgv Mt p) t)) hi la ce) := X
        refine g_ifeqB (x := fitW (pgv Mt p) ((u3 Mt 6 (dist (pgv Mt p) t)) 6) i (Mt 20 11) (mpl Mt) (mlo Mt)) (tgt := 33) C0 dX7_breathsOn_26 rfl (fun c3 => ?_) (fun c4 => ?_)
        · refine g_iconst (n := 0) C0 rfl dX7_breathsOn_33 ?_
          refine g_iadd (n := m) C0 (by first | rfl | omega) dX7_breathsOn_34 ?_
          refine lv_istore_n (lv' := [(3, .int (nI m)), (4, .int (nI i)), (0, .ref (h 0)), (1, .int (nI p)), (2, .int (nI t))]) hx hb dX7_breathsOn_35 rfl hl (by decide) rfl (fun ls hl => ?_)
          refine g_iinc (j := 1) (z := i + 1) (lv' := [(4, .int (nI (i + 1))), (3, .int (nI m)), (0, .ref (h 0)), (1, .int (nI p)), (2, .int (nI t))]) C0 rfl (by first | rfl | omega) dX7_breathsOn_36 hl (k := 1) rfl (by decide) rfl (fun ls hl => ?_)
          refine lv_goto (tgt := 11) hx hb dX7_breathsOn_39 (by decide) ?_
          exact ih11 (i + 1) m (by omega) (by omega) (by omega) (by rw [many_s hi1, cnt_f (P := fun j => fitS (pgv Mt p) t (j + 1) (Mt 20 11) (mpl Mt) (mlo Mt)) (i := i - 1) (many_p (f := fun b => fitS (pgv Mt p) t b (Mt 20 11) (mpl Mt) (mlo Mt)) hi1 c3)]; omega) H locs ls X (lv_sub hl [0, 1, 2, 3, 4] rfl)
        · refine g_iconst (n := 1) C0 rfl dX7_breathsOn_29 ?_
          refine lv_goto (tgt := 34) hx hb dX7_breathsOn_30 (by decide) ?_
          refine g_iadd (n := m + 1) C0 (by first | rfl | omega) dX7_breathsOn_34 ?_
          refine lv_istore_n (lv' := [(3, .int (nI (m + 1))), (4, .int (nI i)), (0, .ref (h 0)), (1, .int (nI p)), (2, .int (nI t))]) hx hb dX7_breathsOn_35 rfl hl (by decide) rfl (fun ls hl => ?_)
          refine g_iinc (j := 1) (z := i + 1) (lv' := [(4, .int (nI (i + 1))), (3, .int (nI (m + 1))), (0, .ref (h 0)), (1, .int (nI p)), (2, .int (nI t))]) C0 rfl (by first | rfl | omega) dX7_breathsOn_36 hl (k := 1) rfl (by decide) rfl (fun ls hl => ?_)
          refine lv_goto (tgt := 11) hx hb dX7_breathsOn_39 (by decide) ?_
          exact ih11 (i + 1) (m + 1) (by omega) (by omega) (by omega) (by rw [many_s hi1, cnt_t (P := fun j => fitS (pgv Mt p) t (j + 1) (Mt 20 11) (mpl Mt) (mlo Mt)) (i := i - 1) (many_p (f := fun b => fitS (pgv Mt p) t b (Mt 20 11) (mpl Mt) (mlo Mt)) hi1 c4)]; omega) H locs ls X (lv_sub hl [0, 1, 2, 3, 4] rfl)
  exact J11 ((61 - 1) + 1) 1 0 (Nat.lt_succ_self _) (by omega) (by omega) (by rfl) H locs ls X (lv_sub hl [0, 1, 2, 3, 4] rfl)
set_option maxHeartbeats 4000000 in
set_option maxRecDepth 100000 in
theorem c_X7_sayersOn (l : Launch) (D : va_G) (tk : Nat → ClassId) (h : Nat → Nat) (Mt : Nat → Nat → Nat) (hi : Int32) (la ce : Nat → Int32) (p : Nat) (hp : p ≤ 252) (hW : VW (pgv Mt p)) (hn : Mt 20 11 ≤ 6) (hs : ∀ j, j < Mt 20 11 → Mt 8 (2 * j) < Mt 20 0 ∧ Mt 8 (2 * j + 1) ≤ 120) : MX l yX7_sayersOn cX7_sayersOn 4 (some .int) ⟨4, 0, 0, 94⟩ D (TYS tk) [.ref (h 0), .int (nI p)] (mW tk h Mt hi la ce) (fun (u : Nat → Nat) => True) (fun u => some (.int (nI (sayS (pgv Mt p) (Mt 20 11) (mpl Mt) (mlo Mt))))) (fun u => mW tk h (u3 Mt 6 u) hi la ce) 0 0 := by
  refine MX.of_i (by decide) rfl ?_
  intro zp ze zs zm za zb zt zc zA zQ ls C0 hnm X hl hE
  have hx := C0.1
  have hb := C0.2.1
  have ht := C0.2.2.2.2.1
  have X : Hx D zA zs zs.heap [] (mW tk h Mt hi la ce) := X
  have hl : lv_has ls 4 [(0, .ref (h 0)), (1, .int (nI p))] := hl
  obtain ⟨hv1, hv2, hv3, hv4, hv5, hv6, hv7⟩ := id hW
  have hb1 : Mt 20 0 ≤ 6 := hv1
  obtain ⟨H, hH⟩ : ∃ H, H = zs.heap := ⟨_, rfl⟩
  rw [← hH] at X ⊢
  obtain ⟨locs, hlo⟩ : ∃ L : List Loc, L = [] := ⟨_, rfl⟩
  rw [← hlo] at X ⊢
  refine g_iconst (n := 0) C0 rfl dX7_sayersOn_0 ?_
  refine lv_istore_n (lv' := [(2, .int (nI 0)), (0, .ref (h 0)), (1, .int (nI p))]) hx hb dX7_sayersOn_1 rfl hl (by decide) rfl (fun ls hl => ?_)
  refine g_iconst (n := 0) C0 rfl dX7_sayersOn_2 ?_
  refine lv_istore_n (lv' := [(3, .int (nI 0)), (2, .int (nI 0)), (0, .ref (h 0)), (1, .int (nI p))]) hx hb dX7_sayersOn_3 rfl hl (by decide) rfl (fun ls hl => ?_)
  have J4 : ∀ (fz : Nat) (i bs : Nat) (w1 : Nat → Nat), Mt 20 0 - i < fz → ∀ (hi1 : i ≤ Mt 20 0) (hbs : bs = bset (sayP (pgv Mt p) (Mt 20 11) (mpl Mt) (mlo Mt)) i) (H : Heap) (locs : List Loc) (ls : Array Slot), Hx D zA zs H locs (mW tk h (u3 Mt 6 w1) hi la ce) → lv_has ls 4 [(3, .int (nI i)), (2, .int (nI bs)), (0, .ref (h 0)), (1, .int (nI p))] → W zp l ze ⟨4, 0, 0, 94⟩ zs zm za zb zt zc H locs 0 0 zQ (F0 zm 4 ls []) := by
    intro fz
    induction fz with
    | zero => intro i bs w1 hz; exact absurd hz (Nat.not_lt_zero _)
    | succ fz ih4 =>
      intro i bs w1 hz4 hi1 hbs H locs ls X hl
      refine lv_iload_n hx hb dX7_sayersOn_4 rfl (lv_at hl 0 rfl) ?_
      refine lv_aload_n hx hb dX7_sayersOn_5 rfl (lv_at hl 2 rfl) ?_
      refine g_get (v := .int (nI (Mt 20 0))) C0 X kX7 0 1 tb798 rfl rfl rfl dX7_sayersOn_6 ?_
      refine g_icmp_ge (x := i) (y := Mt 20 0) (tgt := 37) C0 (by omega) (by omega) dX7_sayersOn_9 rfl (fun c1 => ?_) (fun c2 => ?_)
      · refine lv_iload_n hx hb dX7_sayersOn_37 rfl (lv_at hl 1 rfl) ?_
        exact hE (v := nI bs) w1 (by rw [hbs, show i = Mt 20 0 by omega]; rfl) trivial X dX7_sayersOn_38
      · refine lv_iload_n hx hb dX7_sayersOn_12 rfl (lv_at hl 1 rfl) ?_
        refine lv_aload_n hx hb dX7_sayersOn_13 rfl (lv_at hl 2 rfl) ?_
        refine lv_iload_n hx hb dX7_sayersOn_14 rfl (lv_at hl 3 rfl) ?_
        refine lv_iload_n hx hb dX7_sayersOn_15 rfl (lv_at hl 0 rfl) ?_
        refine g_callV (As := [.int (nI p), .int (nI i)]) (rest := [.int (nI bs)]) (wr := []) (C0.sz hl) X (c_X7_breathsOn l D tk h (u3 Mt 6 w1) hi la ce p i (by omega) (by exact hW) (by exact hn) (by exact hs) (by omega)) ⟨tb1154, tb1157, tb8, ⟨by decide, by decide, rfl⟩, rfl, rfl, Nat.le_of_ble_eq_true rfl, Nat.le_of_ble_eq_true rfl⟩ tb1156 tbs49 0 7 rfl rfl rfl rfl [0, 1, 2, 3, 4, 5, 6, 7, 8, 9, 10, 11, 12, 13] [] rfl rfl rfl rfl rfl (Nat.le_of_ble_eq_true rfl) ⟨Nat.le_of_ble_eq_true rfl, Nat.le_of_ble_eq_true rfl⟩ dX7_sayersOn_16 (fun _ H locs _ X => ?_)
        have X : Hx D zA zs H locs (mW tk h (u3 Mt 6 (dist (pgv Mt p) i)) hi la ce) := X
        have hL : manyS (pgv Mt p) i (Mt 20 11) (mpl Mt) (mlo Mt) ≤ 60 := cnt_le _ 60
        refine g_ifle (x := manyS (pgv Mt p) i (Mt 20 11) (mpl Mt) (mlo Mt)) (tgt := 28) C0 (by omega) dX7_sayersOn_19 rfl (fun c3 => ?_) (fun c4 => ?_)
        · refine g_iconst (n := 0) C0 rfl dX7_sayersOn_28 ?_
          refine g_ior (n := bs ||| 0) C0 rfl dX7_sayersOn_29 ?_
          refine lv_istore_n (lv' := [(2, .int (nI (bs ||| 0))), (3, .int (nI i)), (0, .ref (h 0)), (1, .int (nI p))]) hx hb dX7_sayersOn_30 rfl hl (by decide) rfl (fun ls hl => ?_)
          refine g_iinc (j := 1) (z := i + 1) (lv' := [(3, .int (nI (i + 1))), (2, .int (nI (bs ||| 0))), (0, .ref (h 0)), (1, .int (nI p))]) C0 rfl (by first | rfl | omega) dX7_sayersOn_31 hl (k := 1) rfl (by decide) rfl (fun ls hl => ?_)
          refine lv_goto (tgt := 4) hx hb dX7_sayersOn_34 (by decide) ?_
          exact ih4 (i + 1) (bs ||| 0) (dist (pgv Mt p) i) (by omega) (by omega) (by first | (rw [bset_f (say_m0 c3), Nat.or_zero]; exact hbs) | (rw [bset_t (say_m1 c3), hbs])) H locs ls X (lv_sub hl [0, 1, 2, 3] rfl)
        · refine g_iconst (n := 1) C0 rfl dX7_sayersOn_22 ?_
          refine lv_iload_n hx hb dX7_sayersOn_23 rfl (lv_at hl 0 rfl) ?_
          refine g_ishl (n := 2 ^ i) C0 (by exact sh_ok (by omega)) (by first | exact Nat.one_mul _ | rfl) dX7_sayersOn_24 ?_
          refine lv_goto (tgt := 29) hx hb dX7_sayersOn_25 (by decide) ?_
          refine g_ior (n := bs ||| (2 ^ i)) C0 rfl dX7_sayersOn_29 ?_
          refine lv_istore_n (lv' := [(2, .int (nI (bs ||| (2 ^ i)))), (3, .int (nI i)), (0, .ref (h 0)), (1, .int (nI p))]) hx hb dX7_sayersOn_30 rfl hl (by decide) rfl (fun ls hl => ?_)
          refine g_iinc (j := 1) (z := i + 1) (lv' := [(3, .int (nI (i + 1))), (2, .int (nI (bs ||| (2 ^ i)))), (0, .ref (h 0)), (1, .int (nI p))]) C0 rfl (by first | rfl | omega) dX7_sayersOn_31 hl (k := 1) rfl (by decide) rfl (fun ls hl => ?_)
          refine lv_goto (tgt := 4) hx hb dX7_sayersOn_34 (by decide) ?_
          exact ih4 (i + 1) (bs ||| (2 ^ i)) (dist (pgv Mt p) i) (by omega) (by omega) (by first | (rw [bset_f (say_m0 c4), Nat.or_zero]; exact hbs) | (rw [bset_t (say_m1 c4), hbs])) H locs ls X (lv_sub hl [0, 1, 2, 3] rfl)
  exact J4 ((Mt 20 0 - 0) + 1) 0 0 (Mt 6) (Nat.lt_succ_self _) (by omega) (by rfl) H locs ls X (lv_sub hl [0, 1, 2, 3] rfl)
set_option maxHeartbeats 4000000 in
set_option maxRecDepth 100000 in
theorem c_X7_lowest (l : Launch) (D : va_G) (tk : Nat → ClassId) (a b w : Nat) (ha : a < 2 ^ 62) (hb0 : 0 < b) (hb2 : b < 2 ^ 62) (hw1 : w ≤ 1) : MX l yX7_lowest cX7_lowest 11 (some .long) ⟨0, 0, 0, 0⟩ D (TYS tk) [.long (lN a), .long (lN b), .int (nI w)] ([]) (fun (_ : Unit) => True) (fun _ => some (.long (lN (if w = 0 then a / Nat.gcd a b else b / Nat.gcd a b)))) (fun _ => []) 0 0 := by
  refine MX.of_l (by decide) rfl ?_
  intro zp ze zs zm za zb zt zc zA zQ ls C0 hnm X hl hE
  have hx := C0.1
  have hb := C0.2.1
  have ht := C0.2.2.2.2.1
  have X : Hx D zA zs zs.heap [] ([]) := X
  have hl : lv_has ls 11 [(0, .long (lN a)), (2, .long (lN b)), (4, .int (nI w))] := hl
  obtain ⟨H, hH⟩ : ∃ H, H = zs.heap := ⟨_, rfl⟩
  rw [← hH] at X ⊢
  obtain ⟨locs, hlo⟩ : ∃ L : List Loc, L = [] := ⟨_, rfl⟩
  rw [← hlo] at X ⊢
  refine lv_lload_n hx hb dX7_lowest_0 rfl (lv_at hl 0 rfl) ?_
  refine lv_lstore (lv' := [(5, .long (lN a)), (0, .long (lN a)), (2, .long (lN b)), (4, .int (nI w))]) hx hb dX7_lowest_1 hl (by decide) rfl (fun ls hl => ?_)
  refine lv_lload_n hx hb dX7_lowest_3 rfl (lv_at hl 2 rfl) ?_
  refine lv_lstore (lv' := [(7, .long (lN b)), (5, .long (lN a)), (0, .long (lN a)), (2, .long (lN b)), (4, .int (nI w))]) hx hb dX7_lowest_4 hl (by decide) rfl (fun ls hl => ?_)
  have J6 : ∀ (fz : Nat) (gg ll : Nat), ll < fz → ∀ (hg : Nat.gcd gg ll = Nat.gcd a b) (hg1 : gg < 2 ^ 62) (hl1 : ll < 2 ^ 62) (H : Heap) (locs : List Loc) (ls : Array Slot), Hx D zA zs H locs ([]) → lv_has ls 11 [(7, .long (lN ll)), (5, .long (lN gg)), (0, .long (lN a)), (2, .long (lN b)), (4, .int (nI w))] → W zp l ze ⟨0, 0, 0, 0⟩ zs zm za zb zt zc H locs 0 0 zQ (F0 zm 6 ls []) := by
    intro fz
    induction fz with
    | zero => intro gg ll hz; exact absurd hz (Nat.not_lt_zero _)
    | succ fz ih6 =>
      intro gg ll hz6 hg hg1 hl1 H locs ls X hl
      refine lv_lload hx hb dX7_lowest_6 (lv_at hl 0 rfl) ?_
      refine g_lconst (n := 0) C0 rfl dX7_lowest_8 ?_
      refine g_lcmp_eq C0 (by omega) (by omega) dX7_lowest_9 dX7_lowest_10 rfl (fun c1 => ?_) (fun c2 => ?_)
      · have hgz : gg = Nat.gcd a b := by rw [← hg, c1]; exact (Nat.gcd_zero_right gg).symm
        have hgp : 0 < Nat.gcd a b := Nat.gcd_pos_of_pos_right a hb0
        refine lv_iload hx hb dX7_lowest_31 (lv_at hl 4 rfl) ?_
        refine g_ifne (x := w) (tgt := 40) C0 (by omega) dX7_lowest_33 rfl (fun c3 => ?_) (fun c4 => ?_)
        · refine lv_lload_n hx hb dX7_lowest_40 rfl (lv_at hl 3 rfl) ?_
          refine lv_lload hx hb dX7_lowest_41 (lv_at hl 1 rfl) ?_
          refine g_ldiv (n := b / gg) C0 (by omega) rfl dX7_lowest_43 ?_
          exact hE (v := lN (b / gg)) () (by first | rw [if_pos c3, ← hgz] | rw [if_neg (by omega), ← hgz]) trivial X dX7_lowest_44
        · refine lv_lload_n hx hb dX7_lowest_36 rfl (lv_at hl 2 rfl) ?_
          refine lv_goto (tgt := 41) hx hb dX7_lowest_37 (by decide) ?_
          refine lv_lload hx hb dX7_lowest_41 (lv_at hl 1 rfl) ?_
          refine g_ldiv (n := a / gg) C0 (by omega) rfl dX7_lowest_43 ?_
          exact hE (v := lN (a / gg)) () (by first | rw [if_pos c4, ← hgz] | rw [if_neg (by omega), ← hgz]) trivial X dX7_lowest_44
      · refine lv_lload hx hb dX7_lowest_13 (lv_at hl 1 rfl) ?_
        refine lv_lload hx hb dX7_lowest_15 (lv_at hl 0 rfl) ?_
        refine g_lrem (n := gg % ll) C0 (by omega) rfl dX7_lowest_17 ?_
        refine lv_lstore (lv' := [(9, .long (lN (gg % ll))), (7, .long (lN ll)), (5, .long (lN gg)), (0, .long (lN a)), (2, .long (lN b)), (4, .int (nI w))]) hx hb dX7_lowest_18 hl (by decide) rfl (fun ls hl => ?_)
        have hml := Nat.mod_lt gg (show 0 < ll by omega)
        refine lv_lload hx hb dX7_lowest_20 (lv_at hl 1 rfl) ?_
        refine lv_lstore (lv' := [(5, .long (lN ll)), (9, .long (lN (gg % ll))), (7, .long (lN ll)), (0, .long (lN a)), (2, .long (lN b)), (4, .int (nI w))]) hx hb dX7_lowest_22 hl (by decide) rfl (fun ls hl => ?_)
        refine lv_lload hx hb dX7_lowest_24 (lv_at hl 1 rfl) ?_
        refine lv_lstore (lv' := [(7, .long (lN (gg % ll))), (5, .long (lN ll)), (9, .long (lN (gg % ll))), (0, .long (lN a)), (2, .long (lN b)), (4, .int (nI w))]) hx hb dX7_lowest_26 hl (by decide) rfl (fun ls hl => ?_)
        refine lv_goto (tgt := 6) hx hb dX7_lowest_28 (by decide) ?_
        exact ih6 ll (gg % ll) (by omega) (by rw [Nat.gcd_comm, ← Nat.gcd_rec, Nat.gcd_comm]; exact hg) (by omega) (by exact Nat.lt_trans (Nat.mod_lt _ (by omega)) hl1) H locs ls X (lv_sub hl [0, 1, 3, 4, 5] rfl)
  exact J6 ((b) + 1) a b (Nat.lt_succ_self _) (by rfl) (by omega) (by omega) H locs ls X (lv_sub hl [0, 1, 2, 3, 4] rfl)
