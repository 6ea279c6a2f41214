set_option maxHeartbeats 4000000 in
set_option maxRecDepth 100000 in
theorem c_X7_rule (l : Launch) (D : va_G) (tk : Nat → ClassId) (h : Nat → Nat) (Mt : Nat → Nat → Nat) (hi : Int32) (la ce : Nat → Int32) (x : Int32) (hW : VW (pgv Mt 0)) : MX l yX7_rule cX7_rule 4 (some .int) ⟨5, 0, 0, 119⟩ D (TYS tk) [.ref (h 0), .int x] (mW tk h Mt hi la ce) (fun (u : (Nat → Nat) × (Nat → Nat)) => True) (fun u => some (.int (a_rule (pgv Mt 0) x))) (fun u => mW tk h (u3 (u3 Mt 6 u.1) 7 u.2) hi la ce) 0 0 := by
  refine MX.of_i (by decide) rfl ?_
  intro zp ze zs zm za zb zt zc zA zQ ls C0 hnm X hl hE
  have hx := C0.1
  have hb := C0.2.1
  have ht := C0.2.2.2.2.1
  have X : Hx D zA zs zs.heap [] (mW tk h Mt hi la ce) := X
  have hl : lv_has ls 4 [(0, .ref (h 0)), (1, .int x)] := hl
  obtain ⟨hv1, hv2, hv3, hv4, hv5, hv6, hv7⟩ := id hW
  have hb1 : Mt 20 0 ≤ 6 := hv1
  have hb2 : Mt 0 42 ≤ 9 := hv2
  have hb3 : Mt 0 43 ≤ 20 := hv3
  have hb4 : Mt 0 62 ≤ 6 := hv4
  have hkd : ∀ t, t < Mt 20 0 → Mt 0 t ≤ 3 := fun t ht => by have q := hv5 t ht; rw [pv0] at q; exact q
  have hrt : ∀ i, i < Mt 0 42 → Mt 0 (6 + i) < Mt 20 0 ∧ Mt 0 (15 + i) < Mt 20 0 ∧ Mt 0 (6 + i) ≠ Mt 0 (15 + i) ∧ 1 ≤ Mt 0 (24 + i) ∧ Mt 0 (24 + i) ≤ 9 ∧ Mt 0 (33 + i) ≤ 1 := fun i hi => hv6 i hi
  have htk : ∀ k, k < Mt 0 62 → Mt 0 (44 + k) ≤ 23 ∧ Mt 0 (50 + k) < Mt 20 0 ∧ 1 ≤ Mt 0 (56 + k) ∧ Mt 0 (56 + k) ≤ 60 := fun k hk => hv7 k hk
  obtain ⟨H, hH⟩ : ∃ H, H = zs.heap := ⟨_, rfl⟩
  rw [← hH] at X ⊢
  obtain ⟨locs, hlo⟩ : ∃ L : List Loc, L = [] := ⟨_, rfl⟩
  rw [← hlo] at X ⊢
  refine g_iconst (n := 0) C0 rfl dX7_rule_0 ?_
  refine lv_istore_n (lv' := [(2, .int (nI 0)), (0, .ref (h 0)), (1, .int x)]) hx hb dX7_rule_1 rfl hl (by decide) rfl (fun ls hl => ?_)
  refine g_iconst (n := 0) C0 rfl dX7_rule_2 ?_
  refine lv_istore_n (lv' := [(3, .int (nI 0)), (2, .int (nI 0)), (0, .ref (h 0)), (1, .int x)]) hx hb dX7_rule_3 rfl hl (by decide) rfl (fun ls hl => ?_)
  have J4 : ∀ (fz : Nat) (i bs : Nat), Mt 0 42 - i < fz → ∀ (hi1 : i ≤ Mt 0 42) (hbs : bs = bset (fun i => decide (pgv Mt 0 4 i = 1)) i) (H : Heap) (locs : List Loc) (ls : Array Slot), Hx D zA zs H locs (mW tk h Mt hi la ce) → lv_has ls 4 [(3, .int (nI i)), (2, .int (nI bs)), (0, .ref (h 0)), (1, .int x)] → W zp l ze ⟨5, 0, 0, 119⟩ zs zm za zb zt zc H locs 0 0 zQ (F0 zm 4 ls []) := by
    intro fz
    induction fz with
    | zero => intro i bs hz; exact absurd hz (Nat.not_lt_zero _)
    | succ fz ih4 =>
      intro i bs hz4 hi1 hbs H locs ls X hl
      refine lv_iload_n hx hb dX7_rule_4 rfl (lv_at hl 0 rfl) ?_
      refine lv_aload_n hx hb dX7_rule_5 rfl (lv_at hl 2 rfl) ?_
      refine g_get (v := .ref (h 1)) C0 X kX7 0 0 tb797 rfl rfl rfl dX7_rule_6 ?_
      refine g_bipush (n := 42) C0 (by decide) dX7_rule_9 ?_
      refine g_iald (v := nI (Mt 0 42)) (i := 42) C0 X 1 0 rfl rfl (by omega) rfl rfl dX7_rule_11 ?_
      refine g_icmp_ge (x := i) (y := Mt 0 42) (tgt := 35) C0 (by omega) (by omega) dX7_rule_12 rfl (fun c1 => ?_) (fun c2 => ?_)
      · refine lv_iload_n hx hb dX7_rule_35 rfl (lv_at hl 3 rfl) ?_
        by_cases c3 : x = nI 0
        · refine g_swIn (k := 0) (lo' := 0) (tgt := 76) C0 (c3) rfl rfl dX7_rule_36 rfl rfl rfl rfl ?_
          refine lv_aload_n hx hb dX7_rule_76 rfl (lv_at hl 2 rfl) ?_
          refine g_get (v := .int (nI (Mt 20 0))) C0 X kX7 0 1 tb798 rfl rfl rfl dX7_rule_77 ?_
          exact hE (v := nI (Mt 20 0)) (Mt 6, Mt 7) (by rw [a_rule]; simp only [pv80, pv81, pv82, pv83, pv0, pv1, pv2, pv3, pv4, pv5, pv6, pv7, eq_self, if_pos c3]) trivial X dX7_rule_80
        by_cases c4 : x = nI 1
        · refine g_swIn (k := 1) (lo' := 0) (tgt := 81) C0 (c4) rfl rfl dX7_rule_36 rfl rfl rfl rfl ?_
          refine lv_aload_n hx hb dX7_rule_81 rfl (lv_at hl 2 rfl) ?_
          refine g_get (v := .ref (h 1)) C0 X kX7 0 0 tb797 rfl rfl rfl dX7_rule_82 ?_
          refine g_bipush (n := 42) C0 (by decide) dX7_rule_85 ?_
          refine g_iald (v := nI (Mt 0 42)) (i := 42) C0 X 1 0 rfl rfl (by omega) rfl rfl dX7_rule_87 ?_
          exact hE (v := nI (Mt 0 42)) (Mt 6, Mt 7) (by rw [a_rule]; simp only [pv80, pv81, pv82, pv83, pv0, pv1, pv2, pv3, pv4, pv5, pv6, pv7, eq_self, if_neg c3, if_pos c4]) trivial X dX7_rule_88
        by_cases c5 : x = nI 2
        · refine g_swIn (k := 2) (lo' := 0) (tgt := 89) C0 (c5) rfl rfl dX7_rule_36 rfl rfl rfl rfl ?_
          refine lv_aload_n hx hb dX7_rule_89 rfl (lv_at hl 2 rfl) ?_
          refine g_get (v := .ref (h 1)) C0 X kX7 0 0 tb797 rfl rfl rfl dX7_rule_90 ?_
          refine g_bipush (n := 43) C0 (by decide) dX7_rule_93 ?_
          refine g_iald (v := nI (Mt 0 43)) (i := 43) C0 X 1 0 rfl rfl (by omega) rfl rfl dX7_rule_95 ?_
          exact hE (v := nI (Mt 0 43)) (Mt 6, Mt 7) (by rw [a_rule]; simp only [pv80, pv81, pv82, pv83, pv0, pv1, pv2, pv3, pv4, pv5, pv6, pv7, eq_self, if_neg c3, if_neg c4, if_pos c5]) trivial X dX7_rule_96
        by_cases c6 : x = nI 3
        · refine g_swIn (k := 3) (lo' := 0) (tgt := 97) C0 (c6) rfl rfl dX7_rule_36 rfl rfl rfl rfl ?_
          refine lv_aload_n hx hb dX7_rule_97 rfl (lv_at hl 2 rfl) ?_
          refine g_get (v := .ref (h 1)) C0 X kX7 0 0 tb797 rfl rfl rfl dX7_rule_98 ?_
          refine g_bipush (n := 62) C0 (by decide) dX7_rule_101 ?_
          refine g_iald (v := nI (Mt 0 62)) (i := 62) C0 X 1 0 rfl rfl (by omega) rfl rfl dX7_rule_103 ?_
          exact hE (v := nI (Mt 0 62)) (Mt 6, Mt 7) (by rw [a_rule]; simp only [pv80, pv81, pv82, pv83, pv0, pv1, pv2, pv3, pv4, pv5, pv6, pv7, eq_self, if_neg c3, if_neg c4, if_neg c5, if_pos c6]) trivial X dX7_rule_104
        by_cases c7 : x = nI 4
        · refine g_swIn (k := 4) (lo' := 0) (tgt := 105) C0 (c7) rfl rfl dX7_rule_36 rfl rfl rfl rfl ?_
          refine lv_iload_n hx hb dX7_rule_105 rfl (lv_at hl 1 rfl) ?_
          exact hE (v := nI bs) (Mt 6, Mt 7) (by rw [a_rule]; simp only [pv80, pv81, pv82, pv83, pv0, pv1, pv2, pv3, pv4, pv5, pv6, pv7, eq_self, if_neg c3, if_neg c4, if_neg c5, if_neg c6, if_pos c7]; rw [hbs, show i = Mt 0 42 by omega]; rfl) trivial X dX7_rule_106
        by_cases c8 : x = nI 5
        · refine g_swIn (k := 5) (lo' := 0) (tgt := 107) C0 (c8) rfl rfl dX7_rule_36 rfl rfl rfl rfl ?_
          refine lv_aload_n hx hb dX7_rule_107 rfl (lv_at hl 2 rfl) ?_
          refine g_iconst (n := 0) C0 rfl dX7_rule_108 ?_
          refine g_callV (As := [.int (nI 0)]) (rest := []) (wr := []) (C0.sz hl) X (c_X7_crossedOn l D tk h Mt hi la ce 0 (by first | assumption | omega) (by first | assumption | omega)) ⟨tb949, tb952, tb8, ⟨by decide, by decide, rfl⟩, rfl, rfl, Nat.le_of_ble_eq_true rfl, Nat.le_of_ble_eq_true rfl⟩ tb951 tbs31 0 7 rfl rfl rfl rfl [0, 1, 2, 3, 4, 5, 6, 7, 8, 9, 10, 11, 12, 13] [] rfl rfl rfl rfl rfl (Nat.le_of_ble_eq_true rfl) ⟨Nat.le_of_ble_eq_true rfl, Nat.le_of_ble_eq_true rfl⟩ dX7_rule_109 (fun uq9 H locs _ X => ?_)
          have X : Hx D zA zs H locs (mW tk h (u3 (u3 Mt 6 uq9.1) 7 uq9.2) hi la ce) := X
          exact hE (v := nI (crossS (pgv Mt 0))) (uq9.1, uq9.2) (by rw [a_rule]; simp only [pv80, pv81, pv82, pv83, pv0, pv1, pv2, pv3, pv4, pv5, pv6, pv7, eq_self, if_neg c3, if_neg c4, if_neg c5, if_neg c6, if_neg c7, if_pos c8]) trivial X dX7_rule_112
        refine g_swOut (n := 6) (lo' := 0) (tgt := 113) C0 (by intro j hj1 hj; rcases (show j = 0 ∨ j = 1 ∨ j = 2 ∨ j = 3 ∨ j = 4 ∨ j = 5 by omega) with rfl | rfl | rfl | rfl | rfl | rfl <;> assumption) rfl dX7_rule_36 rfl rfl rfl ?_
        refine lv_iconst (v := (-1)) hx hb dX7_rule_113 (by decide) ?_
        exact hE (v := (-1)) (Mt 6, Mt 7) (by rw [a_rule]; simp only [pv80, pv81, pv82, pv83, pv0, pv1, pv2, pv3, pv4, pv5, pv6, pv7, eq_self, if_neg c3, if_neg c4, if_neg c5, if_neg c6, if_neg c7, if_neg c8]) trivial X dX7_rule_114
      · have hr := hrt i (by omega)
        refine lv_iload_n hx hb dX7_rule_15 rfl (lv_at hl 1 rfl) ?_
        refine lv_aload_n hx hb dX7_rule_16 rfl (lv_at hl 2 rfl) ?_
        refine g_get (v := .ref (h 1)) C0 X kX7 0 0 tb797 rfl rfl rfl dX7_rule_17 ?_
        refine g_bipush (n := 33) C0 (by decide) dX7_rule_20 ?_
        refine lv_iload_n hx hb dX7_rule_22 rfl (lv_at hl 0 rfl) ?_
        refine g_iadd (n := 33 + i) C0 (by first | rfl | omega) dX7_rule_23 ?_
        refine g_iald (v := nI (Mt 0 (33 + i))) (i := 33 + i) C0 X 1 0 rfl rfl (by omega) rfl rfl dX7_rule_24 ?_
        refine lv_iload_n hx hb dX7_rule_25 rfl (lv_at hl 0 rfl) ?_
        refine g_ishl (n := (Mt 0 (33 + i)) * 2 ^ i) C0 (by exact shl_lt hr.2.2.2.2.2 (show i < 9 by omega)) (by first | exact Nat.one_mul _ | rfl) dX7_rule_26 ?_
        refine g_ior (n := bs ||| ((Mt 0 (33 + i)) * 2 ^ i)) C0 rfl dX7_rule_27 ?_
        refine lv_istore_n (lv' := [(2, .int (nI (bs ||| ((Mt 0 (33 + i)) * 2 ^ i)))), (3, .int (nI i)), (0, .ref (h 0)), (1, .int x)]) hx hb dX7_rule_28 rfl hl (by decide) rfl (fun ls hl => ?_)
        refine g_iinc (j := 1) (z := i + 1) (lv' := [(3, .int (nI (i + 1))), (2, .int (nI (bs ||| ((Mt 0 (33 + i)) * 2 ^ i)))), (0, .ref (h 0)), (1, .int x)]) C0 rfl (by first | rfl | omega) dX7_rule_29 hl (k := 1) rfl (by decide) rfl (fun ls hl => ?_)
        refine lv_goto (tgt := 4) hx hb dX7_rule_32 (by decide) ?_
        exact ih4 (i + 1) (bs ||| ((Mt 0 (33 + i)) * 2 ^ i)) (by omega) (by omega) (by exact rule_s hbs rfl hr.2.2.2.2.2) H locs ls X (lv_sub hl [0, 1, 2, 3] rfl)
  exact J4 ((Mt 0 42 - 0) + 1) 0 0 (Nat.lt_succ_self _) (by omega) (by rfl) H locs ls X (lv_sub hl [0, 1, 2, 3] rfl)
set_option maxHeartbeats 4000000 in
set_option maxRecDepth 100000 in
theorem c_X7_far (l : Launch) (D : va_G) (tk : Nat → ClassId) (h : Nat → Nat) (Mt : Nat → Nat → Nat) (hi : Int32) (la ce : Nat → Int32) (x y : Int32) (hW : VW (pgv Mt 0)) : MX l yX7_far cX7_far 3 (some .int) ⟨2, 0, 0, 46⟩ D (TYS tk) [.ref (h 0), .int x, .int y] (mW tk h Mt hi la ce) (fun (u : (Nat → Nat)) => True) (fun u => some (.int (a_far (pgv Mt 0) x y))) (fun u => mW tk h (u3 Mt 6 u) hi la ce) 0 0 := by
  refine MX.of_i (by decide) rfl ?_
  intro zp ze zs zm za zb zt zc zA zQ ls C0 hnm X hl hE
  have hx := C0.1
  have hb := C0.2.1
  have ht := C0.2.2.2.2.1
  have X : Hx D zA zs zs.heap [] (mW tk h Mt hi la ce) := X
  have hl : lv_has ls 3 [(0, .ref (h 0)), (1, .int x), (2, .int y)] := hl
  obtain ⟨hv1, hv2, hv3, hv4, hv5, hv6, hv7⟩ := id hW
  have hb1 : Mt 20 0 ≤ 6 := hv1
  have hb2 : Mt 0 42 ≤ 9 := hv2
  have hb3 : Mt 0 43 ≤ 20 := hv3
  have hb4 : Mt 0 62 ≤ 6 := hv4
  have hkd : ∀ t, t < Mt 20 0 → Mt 0 t ≤ 3 := fun t ht => by have q := hv5 t ht; rw [pv0] at q; exact q
  have hrt : ∀ i, i < Mt 0 42 → Mt 0 (6 + i) < Mt 20 0 ∧ Mt 0 (15 + i) < Mt 20 0 ∧ Mt 0 (6 + i) ≠ Mt 0 (15 + i) ∧ 1 ≤ Mt 0 (24 + i) ∧ Mt 0 (24 + i) ≤ 9 ∧ Mt 0 (33 + i) ≤ 1 := fun i hi => hv6 i hi
  have htk : ∀ k, k < Mt 0 62 → Mt 0 (44 + k) ≤ 23 ∧ Mt 0 (50 + k) < Mt 20 0 ∧ 1 ≤ Mt 0 (56 + k) ∧ Mt 0 (56 + k) ≤ 60 := fun k hk => hv7 k hk
  obtain ⟨H, hH⟩ : ∃ H, H = zs.heap := ⟨_, rfl⟩
  rw [← hH] at X ⊢
  obtain ⟨locs, hlo⟩ : ∃ L : List Loc, L = [] := ⟨_, rfl⟩
  rw [← hlo] at X ⊢
  refine lv_aload_n hx hb dX7_far_0 rfl (lv_at hl 0 rfl) ?_
  refine lv_iload_n hx hb dX7_far_1 rfl (lv_at hl 1 rfl) ?_
  refine g_callV (As := [.int x]) (rest := []) (wr := []) (C0.sz hl) X (c_X7_isTree l D tk h Mt hi la ce x (by first | assumption | omega)) ⟨tb980, tb983, tb8, ⟨by decide, by decide, rfl⟩, rfl, rfl, Nat.le_of_ble_eq_true rfl, Nat.le_of_ble_eq_true rfl⟩ tb982 tbs37 0 7 rfl rfl rfl rfl [0, 1, 2, 3, 4, 5, 6, 7, 8, 9, 10, 11, 12, 13] [] rfl rfl rfl rfl rfl (Nat.le_of_ble_eq_true rfl) ⟨Nat.le_of_ble_eq_true rfl, Nat.le_of_ble_eq_true rfl⟩ dX7_far_2 (fun _ H locs _ X => ?_)
  have X : Hx D zA zs H locs (mW tk h Mt hi la ce) := X
  refine g_ifeqB (x := ix x (Mt 20 0)) (tgt := 16) C0 dX7_far_5 rfl (fun c1 => ?_) (fun c2 => ?_)
  · refine lv_iconst (v := (-1)) hx hb dX7_far_16 (by decide) ?_
    exact hE (v := (-1)) (Mt 6) (by simp only [a_far, c1, pv80, pv81, pv82, pv83, pv0, pv1, pv2, pv3, pv4, pv5, pv6, pv7, eq_self, ne01, ne02, ne03, ne04, ne05, ne10, ne12, ne13, ne14, ne15, ne20, ne21, ne23, ne24, ne25, ne30, ne31, ne32, ne34, ne35, ne40, ne41, ne42, ne43, ne45, ne50, ne51, ne52, ne53, ne54, if_true, if_false, Bool.false_eq_true, Bool.and_self, Bool.and_true, Bool.and_false, Bool.true_and, Bool.false_and, Bool.not_true, Bool.not_false, decide_true, decide_false] <;> rfl) trivial X dX7_far_17
  · obtain ⟨xq, hk_xq, rfl⟩ := ix_sp c2
    refine lv_aload_n hx hb dX7_far_8 rfl (lv_at hl 0 rfl) ?_
    refine lv_iload_n hx hb dX7_far_9 rfl (lv_at hl 2 rfl) ?_
    refine g_callV (As := [.int y]) (rest := []) (wr := []) (C0.sz hl) X (c_X7_isTree l D tk h Mt hi la ce y (by first | assumption | omega)) ⟨tb980, tb983, tb8, ⟨by decide, by decide, rfl⟩, rfl, rfl, Nat.le_of_ble_eq_true rfl, Nat.le_of_ble_eq_true rfl⟩ tb982 tbs37 0 7 rfl rfl rfl rfl [0, 1, 2, 3, 4, 5, 6, 7, 8, 9, 10, 11, 12, 13] [] rfl rfl rfl rfl rfl (Nat.le_of_ble_eq_true rfl) ⟨Nat.le_of_ble_eq_true rfl, Nat.le_of_ble_eq_true rfl⟩ dX7_far_10 (fun _ H locs _ X => ?_)
    have X : Hx D zA zs H locs (mW tk h Mt hi la ce) := X
    refine g_ifneB (x := ix y (Mt 20 0)) (tgt := 18) C0 dX7_far_13 rfl (fun c3 => ?_) (fun c4 => ?_)
    · obtain ⟨yq, hk_yq, rfl⟩ := ix_sp c3
      refine lv_aload_n hx hb dX7_far_18 rfl (lv_at hl 0 rfl) ?_
      refine g_iconst (n := 0) C0 rfl dX7_far_19 ?_
      refine lv_iload_n hx hb dX7_far_20 rfl (lv_at hl 1 rfl) ?_
      refine g_callV (As := [.int (nI 0), .int (nI xq)]) (rest := []) (wr := []) (C0.sz hl) X (c_X7_waysOn l D tk h Mt hi la ce 0 xq (by first | assumption | omega) (by exact hW) (by first | assumption | omega)) ⟨tb961, tb964, tb8, ⟨by decide, by decide, rfl⟩, rfl, rfl, Nat.le_of_ble_eq_true rfl, Nat.le_of_ble_eq_true rfl⟩ tb963 tbs34 0 7 rfl rfl rfl rfl [0, 1, 2, 3, 4, 5, 6, 7, 8, 9, 10, 11, 12, 13] [] rfl rfl rfl rfl rfl (Nat.le_of_ble_eq_true rfl) ⟨Nat.le_of_ble_eq_true rfl, Nat.le_of_ble_eq_true rfl⟩ dX7_far_21 (fun _ H locs _ X => ?_)
      have X : Hx D zA zs H locs (mW tk h (u3 Mt 6 (dist (pgv Mt 0) xq)) hi la ce) := X
      refine lv_aload_n hx hb dX7_far_24 rfl (lv_at hl 0 rfl) ?_
      refine g_get (v := .ref (h 6)) C0 X kX7 0 17 tb814 rfl rfl rfl dX7_far_25 ?_
      refine lv_iload_n hx hb dX7_far_28 rfl (lv_at hl 2 rfl) ?_
      refine g_iald (v := nI ((dist (pgv Mt 0) xq) yq)) (i := yq) C0 X 6 0 rfl rfl (by omega) rfl rfl dX7_far_29 ?_
      have hL := dist_le (pgv Mt 0) xq yq
      refine g_sipush (n := 1000) C0 (by decide) dX7_far_30 ?_
      refine g_icmp_ge (x := (dist (pgv Mt 0) xq) yq) (y := 1000) (tgt := 45) C0 (by omega) (by omega) dX7_far_33 rfl (fun c5 => ?_) (fun c6 => ?_)
      · refine lv_bipush (v := (-4)) hx hb dX7_far_45 (by decide) ?_
        exact hE (v := (-4)) (dist (pgv Mt 0) xq) (by simp only [a_far, c2, c3, c5, tn_nI (k := xq) (by omega), tn_nI (k := yq) (by omega), pv80, pv81, pv82, pv83, pv0, pv1, pv2, pv3, pv4, pv5, pv6, pv7, eq_self, show dist (pgv Mt 0) xq yq = 1000 by omega, if_true, if_false, Bool.false_eq_true, Bool.and_self, Bool.and_true, Bool.and_false, Bool.true_and, Bool.false_and, Bool.not_true, Bool.not_false, decide_true, decide_false]) trivial X dX7_far_47
      · refine lv_aload_n hx hb dX7_far_36 rfl (lv_at hl 0 rfl) ?_
        refine g_get (v := .ref (h 6)) C0 X kX7 0 17 tb814 rfl rfl rfl dX7_far_37 ?_
        refine lv_iload_n hx hb dX7_far_40 rfl (lv_at hl 2 rfl) ?_
        refine g_iald (v := nI ((dist (pgv Mt 0) xq) yq)) (i := yq) C0 X 6 0 rfl rfl (by omega) rfl rfl dX7_far_41 ?_
        refine lv_goto (tgt := 47) hx hb dX7_far_42 (by decide) ?_
        exact hE (v := nI ((dist (pgv Mt 0) xq) yq)) (dist (pgv Mt 0) xq) (by simp only [a_far, c2, c3, c6, tn_nI (k := xq) (by omega), tn_nI (k := yq) (by omega), pv80, pv81, pv82, pv83, pv0, pv1, pv2, pv3, pv4, pv5, pv6, pv7, eq_self, show ¬ dist (pgv Mt 0) xq yq = 1000 by omega, if_true, if_false, Bool.false_eq_true, Bool.and_self, Bool.and_true, Bool.and_false, Bool.true_and, Bool.false_and, Bool.not_true, Bool.not_false, decide_true, decide_false]) trivial X dX7_far_47
    · refine lv_iconst (v := (-1)) hx hb dX7_far_16 (by decide) ?_
      exact hE (v := (-1)) (Mt 6) (by simp only [a_far, c2, c4, tn_nI (k := xq) (by omega), pv80, pv81, pv82, pv83, pv0, pv1, pv2, pv3, pv4, pv5, pv6, pv7, eq_self, ne01, ne02, ne03, ne04, ne05, ne10, ne12, ne13, ne14, ne15, ne20, ne21, ne23, ne24, ne25, ne30, ne31, ne32, ne34, ne35, ne40, ne41, ne42, ne43, ne45, ne50, ne51, ne52, ne53, ne54, if_true, if_false, Bool.false_eq_true, Bool.and_self, Bool.and_true, Bool.and_false, Bool.true_and, Bool.false_and, Bool.not_true, Bool.not_false, decide_true, decide_false] <;> rfl) trivial X dX7_far_17
set_option maxHeartbeats 4000000 in
set_option maxRecDepth 100000 in
theorem c_X7_loud (l : Launch) (D : va_G) (tk : Nat → ClassId) (h : Nat → Nat) (Mt : Nat → Nat → Nat) (hi : Int32) (la ce : Nat → Int32) (x y z : Int32) (hW : VW (pgv Mt 0)) : MX l yX7_loud cX7_loud 4 (some .int) ⟨2, 0, 0, 46⟩ D (TYS tk) [.ref (h 0), .int x, .int y, .int z] (mW tk h Mt hi la ce) (fun (u : (Nat → Nat)) => True) (fun u => some (.int (a_loud (pgv Mt 0) x y z))) (fun u => mW tk h (u3 Mt 6 u) hi la ce) 0 0 := by
  refine MX.of_i (by decide) rfl ?_
  intro zp ze zs zm za zb zt zc zA zQ ls C0 hnm X hl hE
  have hx := C0.1
  have hb := C0.2.1
  have ht := C0.2.2.2.2.1
  have X : Hx D zA zs zs.heap [] (mW tk h Mt hi la ce) := X
  have hl : lv_has ls 4 [(0, .ref (h 0)), (1, .int x), (2, .int y), (3, .int z)] := hl
  obtain ⟨hv1, hv2, hv3, hv4, hv5, hv6, hv7⟩ := id hW
  have hb1 : Mt 20 0 ≤ 6 := hv1
  have hb2 : Mt 0 42 ≤ 9 := hv2
  have hb3 : Mt 0 43 ≤ 20 := hv3
  have hb4 : Mt 0 62 ≤ 6 := hv4
  have hkd : ∀ t, t < Mt 20 0 → Mt 0 t ≤ 3 := fun t ht => by have q := hv5 t ht; rw [pv0] at q; exact q
  have hrt : ∀ i, i < Mt 0 42 → Mt 0 (6 + i) < Mt 20 0 ∧ Mt 0 (15 + i) < Mt 20 0 ∧ Mt 0 (6 + i) ≠ Mt 0 (15 + i) ∧ 1 ≤ Mt 0 (24 + i) ∧ Mt 0 (24 + i) ≤ 9 ∧ Mt 0 (33 + i) ≤ 1 := fun i hi => hv6 i hi
  have htk : ∀ k, k < Mt 0 62 → Mt 0 (44 + k) ≤ 23 ∧ Mt 0 (50 + k) < Mt 20 0 ∧ 1 ≤ Mt 0 (56 + k) ∧ Mt 0 (56 + k) ≤ 60 := fun k hk => hv7 k hk
  obtain ⟨H, hH⟩ : ∃ H, H = zs.heap := ⟨_, rfl⟩
  rw [← hH] at X ⊢
  obtain ⟨locs, hlo⟩ : ∃ L : List Loc, L = [] := ⟨_, rfl⟩
  rw [← hlo] at X ⊢
  refine lv_aload_n hx hb dX7_loud_0 rfl (lv_at hl 0 rfl) ?_
  refine lv_iload_n hx hb dX7_loud_1 rfl (lv_at hl 1 rfl) ?_
  refine g_callV (As := [.int x]) (rest := []) (wr := []) (C0.sz hl) X (c_X7_isTree l D tk h Mt hi la ce x (by first | assumption | omega)) ⟨tb980, tb983, tb8, ⟨by decide, by decide, rfl⟩, rfl, rfl, Nat.le_of_ble_eq_true rfl, Nat.le_of_ble_eq_true rfl⟩ tb982 tbs37 0 7 rfl rfl rfl rfl [0, 1, 2, 3, 4, 5, 6, 7, 8, 9, 10, 11, 12, 13] [] rfl rfl rfl rfl rfl (Nat.le_of_ble_eq_true rfl) ⟨Nat.le_of_ble_eq_true rfl, Nat.le_of_ble_eq_true rfl⟩ dX7_loud_2 (fun _ H locs _ X => ?_)
  have X : Hx D zA zs H locs (mW tk h Mt hi la ce) := X
  refine g_ifeqB (x := ix x (Mt 20 0)) (tgt := 23) C0 dX7_loud_5 rfl (fun c1 => ?_) (fun c2 => ?_)
  · refine lv_iconst (v := (-1)) hx hb dX7_loud_23 (by decide) ?_
    exact hE (v := (-1)) (Mt 6) (by simp only [a_loud, c1, pv80, pv81, pv82, pv83, pv0, pv1, pv2, pv3, pv4, pv5, pv6, pv7, eq_self, ne01, ne02, ne03, ne04, ne05, ne10, ne12, ne13, ne14, ne15, ne20, ne21, ne23, ne24, ne25, ne30, ne31, ne32, ne34, ne35, ne40, ne41, ne42, ne43, ne45, ne50, ne51, ne52, ne53, ne54, if_true, if_false, Bool.false_eq_true, Bool.and_self, Bool.and_true, Bool.and_false, Bool.true_and, Bool.false_and, Bool.not_true, Bool.not_false, decide_true, decide_false] <;> rfl) trivial X dX7_loud_24
  · obtain ⟨xq, hk_xq, rfl⟩ := ix_sp c2
    refine lv_aload_n hx hb dX7_loud_8 rfl (lv_at hl 0 rfl) ?_
    refine lv_iload_n hx hb dX7_loud_9 rfl (lv_at hl 2 rfl) ?_
    refine g_callV (As := [.int y]) (rest := []) (wr := []) (C0.sz hl) X (c_X7_isTree l D tk h Mt hi la ce y (by first | assumption | omega)) ⟨tb980, tb983, tb8, ⟨by decide, by decide, rfl⟩, rfl, rfl, Nat.le_of_ble_eq_true rfl, Nat.le_of_ble_eq_true rfl⟩ tb982 tbs37 0 7 rfl rfl rfl rfl [0, 1, 2, 3, 4, 5, 6, 7, 8, 9, 10, 11, 12, 13] [] rfl rfl rfl rfl rfl (Nat.le_of_ble_eq_true rfl) ⟨Nat.le_of_ble_eq_true rfl, Nat.le_of_ble_eq_true rfl⟩ dX7_loud_10 (fun _ H locs _ X => ?_)
    have X : Hx D zA zs H locs (mW tk h Mt hi la ce) := X
    refine g_ifeqB (x := ix y (Mt 20 0)) (tgt := 23) C0 dX7_loud_13 rfl (fun c3 => ?_) (fun c4 => ?_)
    · refine lv_iconst (v := (-1)) hx hb dX7_loud_23 (by decide) ?_
      exact hE (v := (-1)) (Mt 6) (by simp only [a_loud, c2, c3, tn_nI (k := xq) (by omega), pv80, pv81, pv82, pv83, pv0, pv1, pv2, pv3, pv4, pv5, pv6, pv7, eq_self, ne01, ne02, ne03, ne04, ne05, ne10, ne12, ne13, ne14, ne15, ne20, ne21, ne23, ne24, ne25, ne30, ne31, ne32, ne34, ne35, ne40, ne41, ne42, ne43, ne45, ne50, ne51, ne52, ne53, ne54, if_true, if_false, Bool.false_eq_true, Bool.and_self, Bool.and_true, Bool.and_false, Bool.true_and, Bool.false_and, Bool.not_true, Bool.not_false, decide_true, decide_false] <;> rfl) trivial X dX7_loud_24
    · obtain ⟨yq, hk_yq, rfl⟩ := ix_sp c4
      refine lv_iload_n hx hb dX7_loud_16 rfl (lv_at hl 3 rfl) ?_
      refine g_callS (As := [.int z]) (rest := []) (wr := (mW tk h Mt hi la ce)) (C0.sz hl) X (c_X7_isBreath l D tk z) ⟨tb1009, tb1011, tb8, ⟨by decide, by decide, rfl⟩, rfl, rfl, Nat.le_of_ble_eq_true rfl, Nat.le_of_ble_eq_true rfl⟩ tb1010 rfl [] [0, 1, 2, 3, 4, 5, 6, 7, 8, 9, 10, 11, 12, 13] rfl rfl rfl rfl rfl (Nat.le_of_ble_eq_true rfl) ⟨Nat.le_of_ble_eq_true rfl, Nat.le_of_ble_eq_true rfl⟩ dX7_loud_17 (fun _ H locs _ X => ?_)
      have X : Hx D zA zs H locs (mW tk h Mt hi la ce) := X
      refine g_ifneB (x := rg z 1 60) (tgt := 25) C0 dX7_loud_20 rfl (fun c5 => ?_) (fun c6 => ?_)
      · obtain ⟨zq, hk_zqa, hk_zqb, hk_zqc, rfl⟩ := rg_sp c5
        refine lv_aload_n hx hb dX7_loud_25 rfl (lv_at hl 0 rfl) ?_
        refine g_iconst (n := 0) C0 rfl dX7_loud_26 ?_
        refine lv_iload_n hx hb dX7_loud_27 rfl (lv_at hl 1 rfl) ?_
        refine g_callV (As := [.int (nI 0), .int (nI xq)]) (rest := []) (wr := []) (C0.sz hl) X (c_X7_waysOn l D tk h Mt hi la ce 0 xq (by first | assumption | omega) (by exact hW) (by first | assumption | omega)) ⟨tb961, tb964, tb8, ⟨by decide, by decide, rfl⟩, rfl, rfl, Nat.le_of_ble_eq_true rfl, Nat.le_of_ble_eq_true rfl⟩ tb963 tbs34 0 7 rfl rfl rfl rfl [0, 1, 2, 3, 4, 5, 6, 7, 8, 9, 10, 11, 12, 13] [] rfl rfl rfl rfl rfl (Nat.le_of_ble_eq_true rfl) ⟨Nat.le_of_ble_eq_true rfl, Nat.le_of_ble_eq_true rfl⟩ dX7_loud_28 (fun _ H locs _ X => ?_)
        have X : Hx D zA zs H locs (mW tk h (u3 Mt 6 (dist (pgv Mt 0) xq)) hi la ce) := X
        refine lv_aload_n hx hb dX7_loud_31 rfl (lv_at hl 0 rfl) ?_
        refine g_iconst (n := 0) C0 rfl dX7_loud_32 ?_
        refine lv_iload_n hx hb dX7_loud_33 rfl (lv_at hl 2 rfl) ?_
        refine lv_iload_n hx hb dX7_loud_34 rfl (lv_at hl 3 rfl) ?_
        refine g_callV (As := [.int (nI 0), .int (nI yq), .int (nI zq)]) (rest := []) (wr := []) (C0.sz hl) X (c_X7_loudOn l D tk h (u3 Mt 6 (dist (pgv Mt 0) xq)) hi la ce 0 yq zq (by omega) (by omega) (by rw [Nat.zero_add]; exact hkd yq (by omega)) (by exact dist_le _ _ _) (by omega)) ⟨tb969, tb972, tb8, ⟨by decide, by decide, rfl⟩, rfl, rfl, Nat.le_of_ble_eq_true rfl, Nat.le_of_ble_eq_true rfl⟩ tb971 tbs36 0 7 rfl rfl rfl rfl [0, 1, 2, 3, 4, 5, 6, 7, 8, 9, 10, 11, 12, 13] [] rfl rfl rfl rfl rfl (Nat.le_of_ble_eq_true rfl) ⟨Nat.le_of_ble_eq_true rfl, Nat.le_of_ble_eq_true rfl⟩ dX7_loud_35 (fun _ H locs _ X => ?_)
        have X : Hx D zA zs H locs (mW tk h (u3 Mt 6 (dist (pgv Mt 0) xq)) hi la ce) := X
        exact hE (v := nI (loudS (Mt 0 (0 + yq)) zq ((u3 Mt 6 (dist (pgv Mt 0) xq)) 6 yq))) (dist (pgv Mt 0) xq) (by simp only [a_loud, c2, c4, c5, tn_nI (k := xq) (by omega), tn_nI (k := yq) (by omega), tn_nI (k := zq) (by omega), pv80, pv81, pv82, pv83, pv0, pv1, pv2, pv3, pv4, pv5, pv6, pv7, eq_self, Nat.zero_add, if_true, if_false, Bool.false_eq_true, Bool.and_self, Bool.and_true, Bool.and_false, Bool.true_and, Bool.false_and, Bool.not_true, Bool.not_false, decide_true, decide_false] <;> rfl) trivial X dX7_loud_38
      · refine lv_iconst (v := (-1)) hx hb dX7_loud_23 (by decide) ?_
        exact hE (v := (-1)) (Mt 6) (by simp only [a_loud, c2, c4, c6, tn_nI (k := xq) (by omega), tn_nI (k := yq) (by omega), pv80, pv81, pv82, pv83, pv0, pv1, pv2, pv3, pv4, pv5, pv6, pv7, eq_self, ne01, ne02, ne03, ne04, ne05, ne10, ne12, ne13, ne14, ne15, ne20, ne21, ne23, ne24, ne25, ne30, ne31, ne32, ne34, ne35, ne40, ne41, ne42, ne43, ne45, ne50, ne51, ne52, ne53, ne54, if_true, if_false, Bool.false_eq_true, Bool.and_self, Bool.and_true, Bool.and_false, Bool.true_and, Bool.false_and, Bool.not_true, Bool.not_false, decide_true, decide_false] <;> rfl) trivial X dX7_loud_24
set_option maxHeartbeats 4000000 in
set_option maxRecDepth 100000 in
theorem c_X7_root (l : Launch) (D : va_G) (tk : Nat → ClassId) (h : Nat → Nat) (Mt : Nat → Nat → Nat) (hi : Int32) (la ce : Nat → Int32) (x y : Int32) (hW : VW (pgv Mt 0)) : MX l yX7_root cX7_root 3 (some .int) ⟨2, 0, 0, 46⟩ D (TYS tk) [.ref (h 0), .int x, .int y] (mW tk h Mt hi la ce) (fun (_ : Unit) => True) (fun _ => some (.int (a_root (pgv Mt 0) x y))) (fun _ => mW tk h Mt hi la ce) 0 0 := by
  refine MX.of_i (by decide) rfl ?_
  intro zp ze zs zm za zb zt zc zA zQ ls C0 hnm X hl hE
  have hx := C0.1
  have hb := C0.2.1
  have ht := C0.2.2.2.2.1
  have X : Hx D zA zs zs.heap [] (mW tk h Mt hi la ce) := X
  have hl : lv_has ls 3 [(0, .ref (h 0)), (1, .int x), (2, .int y)] := hl
  obtain ⟨hv1, hv2, hv3, hv4, hv5, hv6, hv7⟩ := id hW
  have hb1 : Mt 20 0 ≤ 6 := hv1
  have hb2 : Mt 0 42 ≤ 9 := hv2
  have hb3 : Mt 0 43 ≤ 20 := hv3
  have hb4 : Mt 0 62 ≤ 6 := hv4
  have hkd : ∀ t, t < Mt 20 0 → Mt 0 t ≤ 3 := fun t ht => by have q := hv5 t ht; rw [pv0] at q; exact q
  have hrt : ∀ i, i < Mt 0 42 → Mt 0 (6 + i) < Mt 20 0 ∧ Mt 0 (15 + i) < Mt 20 0 ∧ Mt 0 (6 + i) ≠ Mt 0 (15 + i) ∧ 1 ≤ Mt 0 (24 + i) ∧ Mt 0 (24 + i) ≤ 9 ∧ Mt 0 (33 + i) ≤ 1 := fun i hi => hv6 i hi
  have htk : ∀ k, k < Mt 0 62 → Mt 0 (44 + k) ≤ 23 ∧ Mt 0 (50 + k) < Mt 20 0 ∧ 1 ≤ Mt 0 (56 + k) ∧ Mt 0 (56 + k) ≤ 60 := fun k hk => hv7 k hk
  obtain ⟨H, hH⟩ : ∃ H, H = zs.heap := ⟨_, rfl⟩
  rw [← hH] at X ⊢
  obtain ⟨locs, hlo⟩ : ∃ L : List Loc, L = [] := ⟨_, rfl⟩
  rw [← hlo] at X ⊢
  refine lv_aload_n hx hb dX7_root_0 rfl (lv_at hl 0 rfl) ?_
  refine lv_iload_n hx hb dX7_root_1 rfl (lv_at hl 1 rfl) ?_
  refine g_callV (As := [.int x]) (rest := []) (wr := []) (C0.sz hl) X (c_X7_isRoot l D tk h Mt hi la ce x (by first | assumption | omega)) ⟨tb989, tb992, tb8, ⟨by decide, by decide, rfl⟩, rfl, rfl, Nat.le_of_ble_eq_true rfl, Nat.le_of_ble_eq_true rfl⟩ tb991 tbs38 0 7 rfl rfl rfl rfl [0, 1, 2, 3, 4, 5, 6, 7, 8, 9, 10, 11, 12, 13] [] rfl rfl rfl rfl rfl (Nat.le_of_ble_eq_true rfl) ⟨Nat.le_of_ble_eq_true rfl, Nat.le_of_ble_eq_true rfl⟩ dX7_root_2 (fun _ H locs _ X => ?_)
  have X : Hx D zA zs H locs (mW tk h Mt hi la ce) := X
  refine g_ifeqB (x := ix x (Mt 0 42)) (tgt := 37) C0 dX7_root_5 rfl (fun c1 => ?_) (fun c2 => ?_)
  · refine lv_iconst (v := (-1)) hx hb dX7_root_37 (by decide) ?_
    exact hE (v := (-1)) () (by simp only [a_root, c1, pv80, pv81, pv82, pv83, pv0, pv1, pv2, pv3, pv4, pv5, pv6, pv7, eq_self, ne01, ne02, ne03, ne04, ne05, ne10, ne12, ne13, ne14, ne15, ne20, ne21, ne23, ne24, ne25, ne30, ne31, ne32, ne34, ne35, ne40, ne41, ne42, ne43, ne45, ne50, ne51, ne52, ne53, ne54, if_true, if_false, Bool.false_eq_true, Bool.and_self, Bool.and_true, Bool.and_false, Bool.true_and, Bool.false_and, Bool.not_true, Bool.not_false, decide_true, decide_false] <;> rfl) trivial X dX7_root_38
  · obtain ⟨xq, hk_xq, rfl⟩ := ix_sp c2
    refine lv_iload_n hx hb dX7_root_8 rfl (lv_at hl 2 rfl) ?_
    refine lv_i2l hx hb dX7_root_9 rfl ?_
    refine g_lconst (n := 0) C0 rfl dX7_root_10 ?_
    refine lv_ldc2 (v := lN 3) hx hb C0.2.2.2.1 (ht _ tb984) dX7_root_11 ?_
    refine g_callS (As := [.long (Int32.toInt64 y), .long (lN 0), .long (lN 3)]) (rest := []) (wr := (mW tk h Mt hi la ce)) (C0.sz hl) X (c_X7_in l D tk (Int32.toInt64 y) (lN 0) (lN 3)) ⟨tb885, tb887, tb8, ⟨by decide, by decide, rfl⟩, rfl, rfl, Nat.le_of_ble_eq_true rfl, Nat.le_of_ble_eq_true rfl⟩ tb886 rfl [] [0, 1, 2, 3, 4, 5, 6, 7, 8, 9, 10, 11, 12, 13] rfl rfl rfl rfl rfl (Nat.le_of_ble_eq_true rfl) ⟨Nat.le_of_ble_eq_true rfl, Nat.le_of_ble_eq_true rfl⟩ dX7_root_14 (fun _ H locs _ X => ?_)
    have X : Hx D zA zs H locs (mW tk h Mt hi la ce) := X
    refine g_top (y := nI (rb (rg y 0 3))) (by rw [inL_rg y (by first | decide | omega) (by first | decide | omega)]) ?_
    refine g_ifeqB (x := rg y 0 3) (tgt := 37) C0 dX7_root_17 rfl (fun c3 => ?_) (fun c4 => ?_)
    · refine lv_iconst (v := (-1)) hx hb dX7_root_37 (by decide) ?_
      exact hE (v := (-1)) () (by simp only [a_root, c2, c3, tn_nI (k := xq) (by omega), pv80, pv81, pv82, pv83, pv0, pv1, pv2, pv3, pv4, pv5, pv6, pv7, eq_self, rg_no c3 (k := 0) (by decide) (by decide) (by decide), rg_no c3 (k := 1) (by decide) (by decide) (by decide), rg_no c3 (k := 2) (by decide) (by decide) (by decide), rg_no c3 (k := 3) (by decide) (by decide) (by decide), ne01, ne02, ne03, ne04, ne05, ne10, ne12, ne13, ne14, ne15, ne20, ne21, ne23, ne24, ne25, ne30, ne31, ne32, ne34, ne35, ne40, ne41, ne42, ne43, ne45, ne50, ne51, ne52, ne53, ne54, if_true, if_false, Bool.false_eq_true, Bool.and_self, Bool.and_true, Bool.and_false, Bool.true_and, Bool.false_and, Bool.not_true, Bool.not_false, decide_true, decide_false] <;> rfl) trivial X dX7_root_38
    · obtain ⟨yq, hk_yqa, hk_yqb, hk_yqc, rfl⟩ := rg_sp c4
      have hr := hrt xq (by omega)
      refine lv_aload_n hx hb dX7_root_20 rfl (lv_at hl 0 rfl) ?_
      rcases (show yq = 0 ∨ yq = 1 ∨ yq = 2 ∨ yq = 3 by omega) with rfl | rfl | rfl | rfl
      · refine g_get (v := .ref (h 1)) C0 X kX7 0 0 tb797 rfl rfl rfl dX7_root_21 ?_
        refine g_bipush (n := 6) C0 (by decide) dX7_root_24 ?_
        refine g_bipush (n := 9) C0 (by decide) dX7_root_26 ?_
        refine lv_iload_n hx hb dX7_root_28 rfl (lv_at hl 2 rfl) ?_
        refine g_imul (n := 9 * 0) C0 rfl dX7_root_29 ?_
        refine g_iadd (n := 6 + (9 * 0)) C0 (by first | rfl | omega) dX7_root_30 ?_
        refine lv_iload_n hx hb dX7_root_31 rfl (lv_at hl 1 rfl) ?_
        refine g_iadd (n := (6 + (9 * 0)) + xq) C0 (by first | rfl | omega) dX7_root_32 ?_
        refine g_iald (v := nI (Mt 0 ((6 + (9 * 0)) + xq))) (i := (6 + (9 * 0)) + xq) C0 X 1 0 rfl rfl (by omega) rfl rfl dX7_root_33 ?_
        refine lv_goto (tgt := 38) hx hb dX7_root_34 (by decide) ?_
        exact hE (v := nI (Mt 0 ((6 + (9 * 0)) + xq))) () (by simp only [a_root, c2, c4, tn_nI (k := xq) (by omega), tn_nI (k := 0) (by omega), pv80, pv81, pv82, pv83, pv0, pv1, pv2, pv3, pv4, pv5, pv6, pv7, eq_self, ne01, ne02, ne03, ne04, ne05, ne10, ne12, ne13, ne14, ne15, ne20, ne21, ne23, ne24, ne25, ne30, ne31, ne32, ne34, ne35, ne40, ne41, ne42, ne43, ne45, ne50, ne51, ne52, ne53, ne54, if_true, if_false, Bool.false_eq_true, Bool.and_self, Bool.and_true, Bool.and_false, Bool.true_and, Bool.false_and, Bool.not_true, Bool.not_false, decide_true, decide_false] <;> rfl) trivial X dX7_root_38
      · refine g_get (v := .ref (h 1)) C0 X kX7 0 0 tb797 rfl rfl rfl dX7_root_21 ?_
        refine g_bipush (n := 6) C0 (by decide) dX7_root_24 ?_
        refine g_bipush (n := 9) C0 (by decide) dX7_root_26 ?_
        refine lv_iload_n hx hb dX7_root_28 rfl (lv_at hl 2 rfl) ?_
        refine g_imul (n := 9 * 1) C0 rfl dX7_root_29 ?_
        refine g_iadd (n := 6 + (9 * 1)) C0 (by first | rfl | omega) dX7_root_30 ?_
        refine lv_iload_n hx hb dX7_root_31 rfl (lv_at hl 1 rfl) ?_
        refine g_iadd (n := (6 + (9 * 1)) + xq) C0 (by first | rfl | omega) dX7_root_32 ?_
        refine g_iald (v := nI (Mt 0 ((6 + (9 * 1)) + xq))) (i := (6 + (9 * 1)) + xq) C0 X 1 0 rfl rfl (by omega) rfl rfl dX7_root_33 ?_
        refine lv_goto (tgt := 38) hx hb dX7_root_34 (by decide) ?_
        exact hE (v := nI (Mt 0 ((6 + (9 * 1)) + xq))) () (by simp only [a_root, c2, c4, tn_nI (k := xq) (by omega), tn_nI (k := 1) (by omega), pv80, pv81, pv82, pv83, pv0, pv1, pv2, pv3, pv4, pv5, pv6, pv7, eq_self, ne01, ne02, ne03, ne04, ne05, ne10, ne12, ne13, ne14, ne15, ne20, ne21, ne23, ne24, ne25, ne30, ne31, ne32, ne34, ne35, ne40, ne41, ne42, ne43, ne45, ne50, ne51, ne52, ne53, ne54, if_true, if_false, Bool.false_eq_true, Bool.and_self, Bool.and_true, Bool.and_false, Bool.true_and, Bool.false_and, Bool.not_true, Bool.not_false, decide_true, decide_false] <;> rfl) trivial X dX7_root_38
      · refine g_get (v := .ref (h 1)) C0 X kX7 0 0 tb797 rfl rfl rfl dX7_root_21 ?_
        refine g_bipush (n := 6) C0 (by decide) dX7_root_24 ?_
        refine g_bipush (n := 9) C0 (by decide) dX7_root_26 ?_
        refine lv_iload_n hx hb dX7_root_28 rfl (lv_at hl 2 rfl) ?_
        refine g_imul (n := 9 * 2) C0 rfl dX7_root_29 ?_
        refine g_iadd (n := 6 + (9 * 2)) C0 (by first | rfl | omega) dX7_root_30 ?_
        refine lv_iload_n hx hb dX7_root_31 rfl (lv_at hl 1 rfl) ?_
        refine g_iadd (n := (6 + (9 * 2)) + xq) C0 (by first | rfl | omega) dX7_root_32 ?_
        refine g_iald (v := nI (Mt 0 ((6 + (9 * 2)) + xq))) (i := (6 + (9 * 2)) + xq) C0 X 1 0 rfl rfl (by omega) rfl rfl dX7_root_33 ?_
        refine lv_goto (tgt := 38) hx hb dX7_root_34 (by decide) ?_
        exact hE (v := nI (Mt 0 ((6 + (9 * 2)) + xq))) () (by simp only [a_root, c2, c4, tn_nI (k := xq) (by omega), tn_nI (k := 2) (by omega), pv80, pv81, pv82, pv83, pv0, pv1, pv2, pv3, pv4, pv5, pv6, pv7, eq_self, ne01, ne02, ne03, ne04, ne05, ne10, ne12, ne13, ne14, ne15, ne20, ne21, ne23, ne24, ne25, ne30, ne31, ne32, ne34, ne35, ne40, ne41, ne42, ne43, ne45, ne50, ne51, ne52, ne53, ne54, if_true, if_false, Bool.false_eq_true, Bool.and_self, Bool.and_true, Bool.and_false, Bool.true_and, Bool.false_and, Bool.not_true, Bool.not_false, decide_true, decide_false] <;> rfl) trivial X dX7_root_38
      · refine g_get (v := .ref (h 1)) C0 X kX7 0 0 tb797 rfl rfl rfl dX7_root_21 ?_
        refine g_bipush (n := 6) C0 (by decide) dX7_root_24 ?_
        refine g_bipush (n := 9) C0 (by decide) dX7_root_26 ?_
        refine lv_iload_n hx hb dX7_root_28 rfl (lv_at hl 2 rfl) ?_
        refine g_imul (n := 9 * 3) C0 rfl dX7_root_29 ?_
        refine g_iadd (n := 6 + (9 * 3)) C0 (by first | rfl | omega) dX7_root_30 ?_
        refine lv_iload_n hx hb dX7_root_31 rfl (lv_at hl 1 rfl) ?_
        refine g_iadd (n := (6 + (9 * 3)) + xq) C0 (by first | rfl | omega) dX7_root_32 ?_
        refine g_iald (v := nI (Mt 0 ((6 + (9 * 3)) + xq))) (i := (6 + (9 * 3)) + xq) C0 X 1 0 rfl rfl (by omega) rfl rfl dX7_root_33 ?_
        refine lv_goto (tgt := 38) hx hb dX7_root_34 (by decide) ?_
        exact hE (v := nI (Mt 0 ((6 + (9 * 3)) + xq))) () (by simp only [a_root, c2, c4, tn_nI (k := xq) (by omega), tn_nI (k := 3) (by omega), pv80, pv81, pv82, pv83, pv0, pv1, pv2, pv3, pv4, pv5, pv6, pv7, eq_self, ne01, ne02, ne03, ne04, ne05, ne10, ne12, ne13, ne14, ne15, ne20, ne21, ne23, ne24, ne25, ne30, ne31, ne32, ne34, ne35, ne40, ne41, ne42, ne43, ne45, ne50, ne51, ne52, ne53, ne54, if_true, if_false, Bool.false_eq_true, Bool.and_self, Bool.and_true, Bool.and_false, Bool.true_and, Bool.false_and, Bool.not_true, Bool.not_false, decide_true, decide_false] <;> rfl) trivial X dX7_root_38
set_option maxHeartbeats 4000000 in
set_option maxRecDepth 100000 in
theorem c_X7_talk (l : Launch) (D : va_G) (tk : Nat → ClassId) (h : Nat → Nat) (Mt : Nat → Nat → Nat) (hi : Int32) (la ce : Nat → Int32) (x y : Int32) (hW : VW (pgv Mt 0)) : MX l yX7_talk cX7_talk 3 (some .int) ⟨3, 0, 0, 72⟩ D (TYS tk) [.ref (h 0), .int x, .int y] (mW tk h Mt hi la ce) (fun (u : (Nat → Nat)) => True) (fun u => some (.int (a_talk (pgv Mt 0) x y))) (fun u => mW tk h (u3 Mt 6 u) hi la ce) 0 0 := by
  refine MX.of_i (by decide) rfl ?_
  intro zp ze zs zm za zb zt zc zA zQ ls C0 hnm X hl hE
  have hx := C0.1
  have hb := C0.2.1
  have ht := C0.2.2.2.2.1
  have X : Hx D zA zs zs.heap [] (mW tk h Mt hi la ce) := X
  have hl : lv_has ls 3 [(0, .ref (h 0)), (1, .int x), (2, .int y)] := hl
  obtain ⟨hv1, hv2, hv3, hv4, hv5, hv6, hv7⟩ := id hW
  have hb1 : Mt 20 0 ≤ 6 := hv1
  have hb2 : Mt 0 42 ≤ 9 := hv2
  have hb3 : Mt 0 43 ≤ 20 := hv3
  have hb4 : Mt 0 62 ≤ 6 := hv4
  have hkd : ∀ t, t < Mt 20 0 → Mt 0 t ≤ 3 := fun t ht => by have q := hv5 t ht; rw [pv0] at q; exact q
  have hrt : ∀ i, i < Mt 0 42 → Mt 0 (6 + i) < Mt 20 0 ∧ Mt 0 (15 + i) < Mt 20 0 ∧ Mt 0 (6 + i) ≠ Mt 0 (15 + i) ∧ 1 ≤ Mt 0 (24 + i) ∧ Mt 0 (24 + i) ≤ 9 ∧ Mt 0 (33 + i) ≤ 1 := fun i hi => hv6 i hi
  have htk : ∀ k, k < Mt 0 62 → Mt 0 (44 + k) ≤ 23 ∧ Mt 0 (50 + k) < Mt 20 0 ∧ 1 ≤ Mt 0 (56 + k) ∧ Mt 0 (56 + k) ≤ 60 := fun k hk => hv7 k hk
  obtain ⟨H, hH⟩ : ∃ H, H = zs.heap := ⟨_, rfl⟩
  rw [← hH] at X ⊢
  obtain ⟨locs, hlo⟩ : ∃ L : List Loc, L = [] := ⟨_, rfl⟩
  rw [← hlo] at X ⊢
  refine lv_aload_n hx hb dX7_talk_0 rfl (lv_at hl 0 rfl) ?_
  refine lv_iload_n hx hb dX7_talk_1 rfl (lv_at hl 1 rfl) ?_
  refine g_callV (As := [.int x]) (rest := []) (wr := []) (C0.sz hl) X (c_X7_isTalk l D tk h Mt hi la ce x (by first | assumption | omega)) ⟨tb997, tb1000, tb8, ⟨by decide, by decide, rfl⟩, rfl, rfl, Nat.le_of_ble_eq_true rfl, Nat.le_of_ble_eq_true rfl⟩ tb999 tbs39 0 7 rfl rfl rfl rfl [0, 1, 2, 3, 4, 5, 6, 7, 8, 9, 10, 11, 12, 13] [] rfl rfl rfl rfl rfl (Nat.le_of_ble_eq_true rfl) ⟨Nat.le_of_ble_eq_true rfl, Nat.le_of_ble_eq_true rfl⟩ dX7_talk_2 (fun _ H locs _ X => ?_)
  have X : Hx D zA zs H locs (mW tk h Mt hi la ce) := X
  refine g_ifeqB (x := ix x (Mt 0 62)) (tgt := 20) C0 dX7_talk_5 rfl (fun c1 => ?_) (fun c2 => ?_)
  · refine lv_iconst (v := (-1)) hx hb dX7_talk_20 (by decide) ?_
    exact hE (v := (-1)) (Mt 6) (by simp only [a_talk, c1, pv80, pv81, pv82, pv83, pv0, pv1, pv2, pv3, pv4, pv5, pv6, pv7, eq_self, ne01, ne02, ne03, ne04, ne05, ne10, ne12, ne13, ne14, ne15, ne20, ne21, ne23, ne24, ne25, ne30, ne31, ne32, ne34, ne35, ne40, ne41, ne42, ne43, ne45, ne50, ne51, ne52, ne53, ne54, if_true, if_false, Bool.false_eq_true, Bool.and_self, Bool.and_true, Bool.and_false, Bool.true_and, Bool.false_and, Bool.not_true, Bool.not_false, decide_true, decide_false] <;> rfl) trivial X dX7_talk_21
  · obtain ⟨xq, hk_xq, rfl⟩ := ix_sp c2
    refine lv_iload_n hx hb dX7_talk_8 rfl (lv_at hl 2 rfl) ?_
    refine lv_i2l hx hb dX7_talk_9 rfl ?_
    refine g_lconst (n := 0) C0 rfl dX7_talk_10 ?_
    refine lv_ldc2 (v := lN 3) hx hb C0.2.2.2.1 (ht _ tb984) dX7_talk_11 ?_
    refine g_callS (As := [.long (Int32.toInt64 y), .long (lN 0), .long (lN 3)]) (rest := []) (wr := (mW tk h Mt hi la ce)) (C0.sz hl) X (c_X7_in l D tk (Int32.toInt64 y) (lN 0) (lN 3)) ⟨tb885, tb887, tb8, ⟨by decide, by decide, rfl⟩, rfl, rfl, Nat.le_of_ble_eq_true rfl, Nat.le_of_ble_eq_true rfl⟩ tb886 rfl [] [0, 1, 2, 3, 4, 5, 6, 7, 8, 9, 10, 11, 12, 13] rfl rfl rfl rfl rfl (Nat.le_of_ble_eq_true rfl) ⟨Nat.le_of_ble_eq_true rfl, Nat.le_of_ble_eq_true rfl⟩ dX7_talk_14 (fun _ H locs _ X => ?_)
    have X : Hx D zA zs H locs (mW tk h Mt hi la ce) := X
    refine g_top (y := nI (rb (rg y 0 3))) (by rw [inL_rg y (by first | decide | omega) (by first | decide | omega)]) ?_
    refine g_ifneB (x := rg y 0 3) (tgt := 22) C0 dX7_talk_17 rfl (fun c3 => ?_) (fun c4 => ?_)
    · obtain ⟨yq, hk_yqa, hk_yqb, hk_yqc, rfl⟩ := rg_sp c3
      have hr := htk xq (by omega)
      refine lv_iload_n hx hb dX7_talk_22 rfl (lv_at hl 2 rfl) ?_
      rcases (show yq = 0 ∨ yq = 1 ∨ yq = 2 ∨ yq = 3 by omega) with rfl | rfl | rfl | rfl
      · refine g_iconst (n := 3) C0 rfl dX7_talk_23 ?_
        refine g_icmp_ge (x := 0) (y := 3) (tgt := 44) C0 (by decide) (by decide) dX7_talk_24 rfl (fun q => absurd q (by decide)) (fun _ => ?_)
        refine lv_aload_n hx hb dX7_talk_27 rfl (lv_at hl 0 rfl) ?_
        refine g_get (v := .ref (h 1)) C0 X kX7 0 0 tb797 rfl rfl rfl dX7_talk_28 ?_
        refine g_bipush (n := 44) C0 (by decide) dX7_talk_31 ?_
        refine g_bipush (n := 6) C0 (by decide) dX7_talk_33 ?_
        refine lv_iload_n hx hb dX7_talk_35 rfl (lv_at hl 2 rfl) ?_
        refine g_imul (n := 6 * 0) C0 rfl dX7_talk_36 ?_
        refine g_iadd (n := 44 + (6 * 0)) C0 (by first | rfl | omega) dX7_talk_37 ?_
        refine lv_iload_n hx hb dX7_talk_38 rfl (lv_at hl 1 rfl) ?_
        refine g_iadd (n := (44 + (6 * 0)) + xq) C0 (by first | rfl | omega) dX7_talk_39 ?_
        refine g_iald (v := nI (Mt 0 ((44 + (6 * 0)) + xq))) (i := (44 + (6 * 0)) + xq) C0 X 1 0 rfl rfl (by omega) rfl rfl dX7_talk_40 ?_
        refine lv_goto (tgt := 67) hx hb dX7_talk_41 (by decide) ?_
        exact hE (v := nI (Mt 0 ((44 + (6 * 0)) + xq))) (Mt 6) (by simp only [a_talk, c2, c3, tn_nI (k := xq) (by omega), tn_nI (k := 0) (by omega), pv80, pv81, pv82, pv83, pv0, pv1, pv2, pv3, pv4, pv5, pv6, pv7, eq_self, ne01, ne02, ne03, ne04, ne05, ne10, ne12, ne13, ne14, ne15, ne20, ne21, ne23, ne24, ne25, ne30, ne31, ne32, ne34, ne35, ne40, ne41, ne42, ne43, ne45, ne50, ne51, ne52, ne53, ne54, if_true, if_false, Bool.false_eq_true, Bool.and_self, Bool.and_true, Bool.and_false, Bool.true_and, Bool.false_and, Bool.not_true, Bool.not_false, decide_true, decide_false] <;> rfl) trivial X dX7_talk_67
      · refine g_iconst (n := 3) C0 rfl dX7_talk_23 ?_
        refine g_icmp_ge (x := 1) (y := 3) (tgt := 44) C0 (by decide) (by decide) dX7_talk_24 rfl (fun q => absurd q (by decide)) (fun _ => ?_)
        refine lv_aload_n hx hb dX7_talk_27 rfl (lv_at hl 0 rfl) ?_
        refine g_get (v := .ref (h 1)) C0 X kX7 0 0 tb797 rfl rfl rfl dX7_talk_28 ?_
        refine g_bipush (n := 44) C0 (by decide) dX7_talk_31 ?_
        refine g_bipush (n := 6) C0 (by decide) dX7_talk_33 ?_
        refine lv_iload_n hx hb dX7_talk_35 rfl (lv_at hl 2 rfl) ?_
        refine g_imul (n := 6 * 1) C0 rfl dX7_talk_36 ?_
        refine g_iadd (n := 44 + (6 * 1)) C0 (by first | rfl | omega) dX7_talk_37 ?_
        refine lv_iload_n hx hb dX7_talk_38 rfl (lv_at hl 1 rfl) ?_
        refine g_iadd (n := (44 + (6 * 1)) + xq) C0 (by first | rfl | omega) dX7_talk_39 ?_
        refine g_iald (v := nI (Mt 0 ((44 + (6 * 1)) + xq))) (i := (44 + (6 * 1)) + xq) C0 X 1 0 rfl rfl (by omega) rfl rfl dX7_talk_40 ?_
        refine lv_goto (tgt := 67) hx hb dX7_talk_41 (by decide) ?_
        exact hE (v := nI (Mt 0 ((44 + (6 * 1)) + xq))) (Mt 6) (by simp only [a_talk, c2, c3, tn_nI (k := xq) (by omega), tn_nI (k := 1) (by omega), pv80, pv81, pv82, pv83, pv0, pv1, pv2, pv3, pv4, pv5, pv6, pv7, eq_self, ne01, ne02, ne03, ne04, ne05, ne10, ne12, ne13, ne14, ne15, ne20, ne21, ne23, ne24, ne25, ne30, ne31, ne32, ne34, ne35, ne40, ne41, ne42, ne43, ne45, ne50, ne51, ne52, ne53, ne54, if_true, if_false, Bool.false_eq_true, Bool.and_self, Bool.and_true, Bool.and_false, Bool.true_and, Bool.false_and, Bool.not_true, Bool.not_false, decide_true, decide_false] <;> rfl) trivial X dX7_talk_67
      · refine g_iconst (n := 3) C0 rfl dX7_talk_23 ?_
        refine g_icmp_ge (x := 2) (y := 3) (tgt := 44) C0 (by decide) (by decide) dX7_talk_24 rfl (fun q => absurd q (by decide)) (fun _ => ?_)
        refine lv_aload_n hx hb dX7_talk_27 rfl (lv_at hl 0 rfl) ?_
        refine g_get (v := .ref (h 1)) C0 X kX7 0 0 tb797 rfl rfl rfl dX7_talk_28 ?_
        refine g_bipush (n := 44) C0 (by decide) dX7_talk_31 ?_
        refine g_bipush (n := 6) C0 (by decide) dX7_talk_33 ?_
        refine lv_iload_n hx hb dX7_talk_35 rfl (lv_at hl 2 rfl) ?_
        refine g_imul (n := 6 * 2) C0 rfl dX7_talk_36 ?_
        refine g_iadd (n := 44 + (6 * 2)) C0 (by first | rfl | omega) dX7_talk_37 ?_
        refine lv_iload_n hx hb dX7_talk_38 rfl (lv_at hl 1 rfl) ?_
        refine g_iadd (n := (44 + (6 * 2)) + xq) C0 (by first | rfl | omega) dX7_talk_39 ?_
        refine g_iald (v := nI (Mt 0 ((44 + (6 * 2)) + xq))) (i := (44 + (6 * 2)) + xq) C0 X 1 0 rfl rfl (by omega) rfl rfl dX7_talk_40 ?_
        refine lv_goto (tgt := 67) hx hb dX7_talk_41 (by decide) ?_
        exact hE (v := nI (Mt 0 ((44 + (6 * 2)) + xq))) (Mt 6) (by simp only [a_talk, c2, c3, tn_nI (k := xq) (by omega), tn_nI (k := 2) (by omega), pv80, pv81, pv82, pv83, pv0, pv1, pv2, pv3, pv4, pv5, pv6, pv7, eq_self, ne01, ne02, ne03, ne04, ne05, ne10, ne12, ne13, ne14, ne15, ne20, ne21, ne23, ne24, ne25, ne30, ne31, ne32, ne34, ne35, ne40, ne41, ne42, ne43, ne45, ne50, ne51, ne52, ne53, ne54, if_true, if_false, Bool.false_eq_true, Bool.and_self, Bool.and_true, Bool.and_false, Bool.true_and, Bool.false_and, Bool.not_true, Bool.not_false, decide_true, decide_false] <;> rfl) trivial X dX7_talk_67
      · refine g_iconst (n := 3) C0 rfl dX7_talk_23 ?_
        refine g_icmp_ge (x := 3) (y := 3) (tgt := 44) C0 (by decide) (by decide) dX7_talk_24 rfl (fun _ => ?_) (fun q => absurd q (by decide))
        refine lv_aload_n hx hb dX7_talk_44 rfl (lv_at hl 0 rfl) ?_
        refine g_iconst (n := 0) C0 rfl dX7_talk_45 ?_
        refine lv_aload_n hx hb dX7_talk_46 rfl (lv_at hl 0 rfl) ?_
        refine g_get (v := .ref (h 1)) C0 X kX7 0 0 tb797 rfl rfl rfl dX7_talk_47 ?_
        refine g_bipush (n := 50) C0 (by decide) dX7_talk_50 ?_
        refine lv_iload_n hx hb dX7_talk_52 rfl (lv_at hl 1 rfl) ?_
        refine g_iadd (n := 50 + xq) C0 (by first | rfl | omega) dX7_talk_53 ?_
        refine g_iald (v := nI (Mt 0 (50 + xq))) (i := 50 + xq) C0 X 1 0 rfl rfl (by omega) rfl rfl dX7_talk_54 ?_
        refine lv_aload_n hx hb dX7_talk_55 rfl (lv_at hl 0 rfl) ?_
        refine g_get (v := .ref (h 1)) C0 X kX7 0 0 tb797 rfl rfl rfl dX7_talk_56 ?_
        refine g_bipush (n := 56) C0 (by decide) dX7_talk_59 ?_
        refine lv_iload_n hx hb dX7_talk_61 rfl (lv_at hl 1 rfl) ?_
        refine g_iadd (n := 56 + xq) C0 (by first | rfl | omega) dX7_talk_62 ?_
        refine g_iald (v := nI (Mt 0 (56 + xq))) (i := 56 + xq) C0 X 1 0 rfl rfl (by omega) rfl rfl dX7_talk_63 ?_
        refine g_callV (As := [.int (nI 0), .int (nI (Mt 0 (50 + xq))), .int (nI (Mt 0 (56 + xq)))]) (rest := []) (wr := []) (C0.sz hl) X (c_X7_hearsOn l D tk h Mt hi la ce 0 (Mt 0 (50 + xq)) (Mt 0 (56 + xq)) (by omega) (by exact hW) (by omega) (by omega)) ⟨tb957, tb960, tb8, ⟨by decide, by decide, rfl⟩, rfl, rfl, Nat.le_of_ble_eq_true rfl, Nat.le_of_ble_eq_true rfl⟩ tb959 tbs33 0 7 rfl rfl rfl rfl [0, 1, 2, 3, 4, 5, 6, 7, 8, 9, 10, 11, 12, 13] [] rfl rfl rfl rfl rfl (Nat.le_of_ble_eq_true rfl) ⟨Nat.le_of_ble_eq_true rfl, Nat.le_of_ble_eq_true rfl⟩ dX7_talk_64 (fun _ H locs _ X => ?_)
        have X : Hx D zA zs H locs (mW tk h (u3 Mt 6 (dist (pgv Mt 0) (Mt 0 (50 + xq)))) hi la ce) := X
        exact hE (v := nI (hearS (pgv Mt 0) (Mt 0 (50 + xq)) (Mt 0 (56 + xq)))) (dist (pgv Mt 0) (Mt 0 (50 + xq))) (by simp only [a_talk, c2, c3, tn_nI (k := xq) (by omega), tn_nI (k := 3) (by omega), pv80, pv81, pv82, pv83, pv0, pv1, pv2, pv3, pv4, pv5, pv6, pv7, eq_self, ne01, ne02, ne03, ne04, ne05, ne10, ne12, ne13, ne14, ne15, ne20, ne21, ne23, ne24, ne25, ne30, ne31, ne32, ne34, ne35, ne40, ne41, ne42, ne43, ne45, ne50, ne51, ne52, ne53, ne54, if_true, if_false, Bool.false_eq_true, Bool.and_self, Bool.and_true, Bool.and_false, Bool.true_and, Bool.false_and, Bool.not_true, Bool.not_false, decide_true, decide_false] <;> rfl) trivial X dX7_talk_67
    · refine lv_iconst (v := (-1)) hx hb dX7_talk_20 (by decide) ?_
      exact hE (v := (-1)) (Mt 6) (by simp only [a_talk, c2, c4, tn_nI (k := xq) (by omega), pv80, pv81, pv82, pv83, pv0, pv1, pv2, pv3, pv4, pv5, pv6, pv7, eq_self, rg_no c4 (k := 0) (by decide) (by decide) (by decide), rg_no c4 (k := 1) (by decide) (by decide) (by decide), rg_no c4 (k := 2) (by decide) (by decide) (by decide), rg_no c4 (k := 3) (by decide) (by decide) (by decide), ne01, ne02, ne03, ne04, ne05, ne10, ne12, ne13, ne14, ne15, ne20, ne21, ne23, ne24, ne25, ne30, ne31, ne32, ne34, ne35, ne40, ne41, ne42, ne43, ne45, ne50, ne51, ne52, ne53, ne54, if_true, if_false, Bool.false_eq_true, Bool.and_self, Bool.and_true, Bool.and_false, Bool.true_and, Bool.false_and, Bool.not_true, Bool.not_false, decide_true, decide_false] <;> rfl) trivial X dX7_talk_21
set_option maxHeartbeats 4000000 in
set_option maxRecDepth 100000 in
theorem c_X7_graft (l : Launch) (D : va_G) (tk : Nat → ClassId) (h : Nat → Nat) (Mt : Nat → Nat → Nat) (hi : Int32) (la ce : Nat → Int32) (x y : Int32) (hW : VW (pgv Mt 0)) : MX l yX7_graft cX7_graft 3 (some .int) ⟨2, 0, 0, 46⟩ D (TYS tk) [.ref (h 0), .int x, .int y] (mW tk h Mt hi la ce) (fun (_ : Unit) => True) (fun _ => some (.int (a_graft (pgv Mt 0) x y))) (fun _ => mW tk h (graftM Mt x y) hi la ce) 0 0 := by
  refine MX.of_i (by decide) rfl ?_
  intro zp ze zs zm za zb zt zc zA zQ ls C0 hnm X hl hE
  have hx := C0.1
  have hb := C0.2.1
  have ht := C0.2.2.2.2.1
  have X : Hx D zA zs zs.heap [] (mW tk h Mt hi la ce) := X
  have hl : lv_has ls 3 [(0, .ref (h 0)), (1, .int x), (2, .int y)] := hl
  obtain ⟨hv1, hv2, hv3, hv4, hv5, hv6, hv7⟩ := id hW
  have hb1 : Mt 20 0 ≤ 6 := hv1
  have hb2 : Mt 0 42 ≤ 9 := hv2
  have hb3 : Mt 0 43 ≤ 20 := hv3
  have hb4 : Mt 0 62 ≤ 6 := hv4
  have hkd : ∀ t, t < Mt 20 0 → Mt 0 t ≤ 3 := fun t ht => by have q := hv5 t ht; rw [pv0] at q; exact q
  have hrt : ∀ i, i < Mt 0 42 → Mt 0 (6 + i) < Mt 20 0 ∧ Mt 0 (15 + i) < Mt 20 0 ∧ Mt 0 (6 + i) ≠ Mt 0 (15 + i) ∧ 1 ≤ Mt 0 (24 + i) ∧ Mt 0 (24 + i) ≤ 9 ∧ Mt 0 (33 + i) ≤ 1 := fun i hi => hv6 i hi
  have htk : ∀ k, k < Mt 0 62 → Mt 0 (44 + k) ≤ 23 ∧ Mt 0 (50 + k) < Mt 20 0 ∧ 1 ≤ Mt 0 (56 + k) ∧ Mt 0 (56 + k) ≤ 60 := fun k hk => hv7 k hk
  obtain ⟨H, hH⟩ : ∃ H, H = zs.heap := ⟨_, rfl⟩
  rw [← hH] at X ⊢
  obtain ⟨locs, hlo⟩ : ∃ L : List Loc, L = [] := ⟨_, rfl⟩
  rw [← hlo] at X ⊢
  refine lv_aload_n hx hb dX7_graft_0 rfl (lv_at hl 0 rfl) ?_
  refine lv_aload_n hx hb dX7_graft_1 rfl (lv_at hl 0 rfl) ?_
  refine lv_iload_n hx hb dX7_graft_2 rfl (lv_at hl 1 rfl) ?_
  refine g_callV (As := [.int x]) (rest := [.ref (h 0)]) (wr := []) (C0.sz hl) X (c_X7_isTree l D tk h Mt hi la ce x (by first | assumption | omega)) ⟨tb980, tb983, tb8, ⟨by decide, by decide, rfl⟩, rfl, rfl, Nat.le_of_ble_eq_true rfl, Nat.le_of_ble_eq_true rfl⟩ tb982 tbs37 0 7 rfl rfl rfl rfl [0, 1, 2, 3, 4, 5, 6, 7, 8, 9, 10, 11, 12, 13] [] rfl rfl rfl rfl rfl (Nat.le_of_ble_eq_true rfl) ⟨Nat.le_of_ble_eq_true rfl, Nat.le_of_ble_eq_true rfl⟩ dX7_graft_3 (fun _ H locs _ X => ?_)
  have X : Hx D zA zs H locs (mW tk h Mt hi la ce) := X
  refine g_ifeqB (x := ix x (Mt 20 0)) (tgt := 25) C0 dX7_graft_6 rfl (fun c1 => ?_) (fun c2 => ?_)
  · refine g_iconst (n := 0) C0 rfl dX7_graft_25 ?_
    refine lv_iload_n hx hb dX7_graft_26 rfl (lv_at hl 1 rfl) ?_
    refine lv_iload_n hx hb dX7_graft_27 rfl (lv_at hl 2 rfl) ?_
    refine g_callV (As := [.int (nI 0), .int x, .int y]) (rest := []) (wr := []) (C0.sz hl) X (c_putsF l D tk h Mt hi la ce 0 x y (by first | assumption | omega)) ⟨tb1017, tb1020, tb8, ⟨by decide, by decide, rfl⟩, rfl, rfl, Nat.le_of_ble_eq_true rfl, Nat.le_of_ble_eq_true rfl⟩ tb1019 tbs40 0 7 rfl rfl rfl rfl [0, 1, 2, 3, 4, 5, 6, 7, 8, 9, 10, 11, 12, 13] [] rfl rfl rfl rfl rfl (Nat.le_of_ble_eq_true rfl) ⟨Nat.le_of_ble_eq_true rfl, Nat.le_of_ble_eq_true rfl⟩ dX7_graft_28 (fun _ H locs _ X => ?_)
    have X : Hx D zA zs H locs (mW tk h Mt hi la ce) := X
    exact hE (v := (-1)) () (by simp only [a_graft, c1, pv80, pv81, pv82, pv83, pv0, pv1, pv2, pv3, pv4, pv5, pv6, pv7, eq_self, ne01, ne02, ne03, ne04, ne05, ne10, ne12, ne13, ne14, ne15, ne20, ne21, ne23, ne24, ne25, ne30, ne31, ne32, ne34, ne35, ne40, ne41, ne42, ne43, ne45, ne50, ne51, ne52, ne53, ne54, if_true, if_false, Bool.false_eq_true, Bool.and_self, Bool.and_true, Bool.and_false, Bool.true_and, Bool.false_and, Bool.not_true, Bool.not_false, decide_true, decide_false] <;> rfl) trivial (X.to (by simp only [graftM, c1, pv80, pv81, pv82, pv83, pv0, pv1, pv2, pv3, pv4, pv5, pv6, pv7, eq_self, ne01, ne02, ne03, ne04, ne05, ne10, ne12, ne13, ne14, ne15, ne20, ne21, ne23, ne24, ne25, ne30, ne31, ne32, ne34, ne35, ne40, ne41, ne42, ne43, ne45, ne50, ne51, ne52, ne53, ne54, if_true, if_false, Bool.false_eq_true, Bool.and_self, Bool.and_true, Bool.and_false, Bool.true_and, Bool.false_and, Bool.not_true, Bool.not_false, decide_true, decide_false] <;> rfl)) dX7_graft_31
  · obtain ⟨xq, hk_xq, rfl⟩ := ix_sp c2
    refine lv_iload_n hx hb dX7_graft_9 rfl (lv_at hl 2 rfl) ?_
    refine lv_i2l hx hb dX7_graft_10 rfl ?_
    refine g_lconst (n := 0) C0 rfl dX7_graft_11 ?_
    refine lv_ldc2 (v := lN 3) hx hb C0.2.2.2.1 (ht _ tb984) dX7_graft_12 ?_
    refine g_callS (As := [.long (Int32.toInt64 y), .long (lN 0), .long (lN 3)]) (rest := [.ref (h 0)]) (wr := (mW tk h Mt hi la ce)) (C0.sz hl) X (c_X7_in l D tk (Int32.toInt64 y) (lN 0) (lN 3)) ⟨tb885, tb887, tb8, ⟨by decide, by decide, rfl⟩, rfl, rfl, Nat.le_of_ble_eq_true rfl, Nat.le_of_ble_eq_true rfl⟩ tb886 rfl [] [0, 1, 2, 3, 4, 5, 6, 7, 8, 9, 10, 11, 12, 13] rfl rfl rfl rfl rfl (Nat.le_of_ble_eq_true rfl) ⟨Nat.le_of_ble_eq_true rfl, Nat.le_of_ble_eq_true rfl⟩ dX7_graft_15 (fun _ H locs _ X => ?_)
    have X : Hx D zA zs H locs (mW tk h Mt hi la ce) := X
    refine g_top (y := nI (rb (rg y 0 3))) (by rw [inL_rg y (by first | decide | omega) (by first | decide | omega)]) ?_
    refine g_ifeqB (x := rg y 0 3) (tgt := 25) C0 dX7_graft_18 rfl (fun c3 => ?_) (fun c4 => ?_)
    · refine g_iconst (n := 0) C0 rfl dX7_graft_25 ?_
      refine lv_iload_n hx hb dX7_graft_26 rfl (lv_at hl 1 rfl) ?_
      refine lv_iload_n hx hb dX7_graft_27 rfl (lv_at hl 2 rfl) ?_
      refine g_callV (As := [.int (nI 0), .int (nI xq), .int y]) (rest := []) (wr := []) (C0.sz hl) X (c_putsF l D tk h Mt hi la ce 0 (nI xq) y (by first | assumption | omega)) ⟨tb1017, tb1020, tb8, ⟨by decide, by decide, rfl⟩, rfl, rfl, Nat.le_of_ble_eq_true rfl, Nat.le_of_ble_eq_true rfl⟩ tb1019 tbs40 0 7 rfl rfl rfl rfl [0, 1, 2, 3, 4, 5, 6, 7, 8, 9, 10, 11, 12, 13] [] rfl rfl rfl rfl rfl (Nat.le_of_ble_eq_true rfl) ⟨Nat.le_of_ble_eq_true rfl, Nat.le_of_ble_eq_true rfl⟩ dX7_graft_28 (fun _ H locs _ X => ?_)
      have X : Hx D zA zs H locs (mW tk h Mt hi la ce) := X
      exact hE (v := (-1)) () (by simp only [a_graft, c2, c3, tn_nI (k := xq) (by omega), pv80, pv81, pv82, pv83, pv0, pv1, pv2, pv3, pv4, pv5, pv6, pv7, eq_self, ne01, ne02, ne03, ne04, ne05, ne10, ne12, ne13, ne14, ne15, ne20, ne21, ne23, ne24, ne25, ne30, ne31, ne32, ne34, ne35, ne40, ne41, ne42, ne43, ne45, ne50, ne51, ne52, ne53, ne54, if_true, if_false, Bool.false_eq_true, Bool.and_self, Bool.and_true, Bool.and_false, Bool.true_and, Bool.false_and, Bool.not_true, Bool.not_false, decide_true, decide_false] <;> rfl) trivial (X.to (by simp only [graftM, c2, c3, tn_nI (k := xq) (by omega), pv80, pv81, pv82, pv83, pv0, pv1, pv2, pv3, pv4, pv5, pv6, pv7, eq_self, ne01, ne02, ne03, ne04, ne05, ne10, ne12, ne13, ne14, ne15, ne20, ne21, ne23, ne24, ne25, ne30, ne31, ne32, ne34, ne35, ne40, ne41, ne42, ne43, ne45, ne50, ne51, ne52, ne53, ne54, if_true, if_false, Bool.false_eq_true, Bool.and_self, Bool.and_true, Bool.and_false, Bool.true_and, Bool.false_and, Bool.not_true, Bool.not_false, decide_true, decide_false] <;> rfl)) dX7_graft_31
    · obtain ⟨yq, hk_yqa, hk_yqb, hk_yqc, rfl⟩ := rg_sp c4
      refine g_iconst (n := 1) C0 rfl dX7_graft_21 ?_
      refine lv_goto (tgt := 26) hx hb dX7_graft_22 (by decide) ?_
      refine lv_iload_n hx hb dX7_graft_26 rfl (lv_at hl 1 rfl) ?_
      refine lv_iload_n hx hb dX7_graft_27 rfl (lv_at hl 2 rfl) ?_
      refine g_callV (As := [.int (nI 1), .int (nI xq), .int (nI yq)]) (rest := []) (wr := []) (C0.sz hl) X (c_putsT l D tk h Mt hi la ce 1 xq yq (by first | assumption | omega) (by first | assumption | omega)) ⟨tb1017, tb1020, tb8, ⟨by decide, by decide, rfl⟩, rfl, rfl, Nat.le_of_ble_eq_true rfl, Nat.le_of_ble_eq_true rfl⟩ tb1019 tbs40 0 7 rfl rfl rfl rfl [0, 1, 2, 3, 4, 5, 6, 7, 8, 9, 10, 11, 12, 13] [] rfl rfl rfl rfl rfl (Nat.le_of_ble_eq_true rfl) ⟨Nat.le_of_ble_eq_true rfl, Nat.le_of_ble_eq_true rfl⟩ dX7_graft_28 (fun _ H locs _ X => ?_)
      have X : Hx D zA zs H locs (mW tk h (u2 Mt 0 xq yq) hi la ce) := X
      exact hE (v := nI (Mt 0 xq)) () (by simp only [a_graft, c2, c4, tn_nI (k := xq) (by omega), tn_nI (k := yq) (by omega), pv80, pv81, pv82, pv83, pv0, pv1, pv2, pv3, pv4, pv5, pv6, pv7, eq_self, ne01, ne02, ne03, ne04, ne05, ne10, ne12, ne13, ne14, ne15, ne20, ne21, ne23, ne24, ne25, ne30, ne31, ne32, ne34, ne35, ne40, ne41, ne42, ne43, ne45, ne50, ne51, ne52, ne53, ne54, if_true, if_false, Bool.false_eq_true, Bool.and_self, Bool.and_true, Bool.and_false, Bool.true_and, Bool.false_and, Bool.not_true, Bool.not_false, decide_true, decide_false] <;> rfl) trivial (X.to (by simp only [graftM, c2, c4, tn_nI (k := xq) (by omega), tn_nI (k := yq) (by omega), pv80, pv81, pv82, pv83, pv0, pv1, pv2, pv3, pv4, pv5, pv6, pv7, eq_self, ne01, ne02, ne03, ne04, ne05, ne10, ne12, ne13, ne14, ne15, ne20, ne21, ne23, ne24, ne25, ne30, ne31, ne32, ne34, ne35, ne40, ne41, ne42, ne43, ne45, ne50, ne51, ne52, ne53, ne54, if_true, if_false, Bool.false_eq_true, Bool.and_self, Bool.and_true, Bool.and_false, Bool.true_and, Bool.false_and, Bool.not_true, Bool.not_false, decide_true, decide_false] <;> rfl)) dX7_graft_31
set_option maxHeartbeats 4000000 in
set_option maxRecDepth 100000 in
theorem c_X7_stretch (l : Launch) (D : va_G) (tk : Nat → ClassId) (h : Nat → Nat) (Mt : Nat → Nat → Nat) (hi : Int32) (la ce : Nat → Int32) (x y : Int32) (hW : VW (pgv Mt 0)) : MX l yX7_stretch cX7_stretch 3 (some .int) ⟨2, 0, 0, 46⟩ D (TYS tk) [.ref (h 0), .int x, .int y] (mW tk h Mt hi la ce) (fun (_ : Unit) => True) (fun _ => some (.int (a_stretch (pgv Mt 0) x y))) (fun _ => mW tk h (stretchM Mt x y) hi la ce) 0 0 := by
  refine MX.of_i (by decide) rfl ?_
  intro zp ze zs zm za zb zt zc zA zQ ls C0 hnm X hl hE
  have hx := C0.1
  have hb := C0.2.1
  have ht := C0.2.2.2.2.1
  have X : Hx D zA zs zs.heap [] (mW tk h Mt hi la ce) := X
  have hl : lv_has ls 3 [(0, .ref (h 0)), (1, .int x), (2, .int y)] := hl
  obtain ⟨hv1, hv2, hv3, hv4, hv5, hv6, hv7⟩ := id hW
  have hb1 : Mt 20 0 ≤ 6 := hv1
  have hb2 : Mt 0 42 ≤ 9 := hv2
  have hb3 : Mt 0 43 ≤ 20 := hv3
  have hb4 : Mt 0 62 ≤ 6 := hv4
  have hkd : ∀ t, t < Mt 20 0 → Mt 0 t ≤ 3 := fun t ht => by have q := hv5 t ht; rw [pv0] at q; exact q
  have hrt : ∀ i, i < Mt 0 42 → Mt 0 (6 + i) < Mt 20 0 ∧ Mt 0 (15 + i) < Mt 20 0 ∧ Mt 0 (6 + i) ≠ Mt 0 (15 + i) ∧ 1 ≤ Mt 0 (24 + i) ∧ Mt 0 (24 + i) ≤ 9 ∧ Mt 0 (33 + i) ≤ 1 := fun i hi => hv6 i hi
  have htk : ∀ k, k < Mt 0 62 → Mt 0 (44 + k) ≤ 23 ∧ Mt 0 (50 + k) < Mt 20 0 ∧ 1 ≤ Mt 0 (56 + k) ∧ Mt 0 (56 + k) ≤ 60 := fun k hk => hv7 k hk
  obtain ⟨H, hH⟩ : ∃ H, H = zs.heap := ⟨_, rfl⟩
  rw [← hH] at X ⊢
  obtain ⟨locs, hlo⟩ : ∃ L : List Loc, L = [] := ⟨_, rfl⟩
  rw [← hlo] at X ⊢
  refine lv_aload_n hx hb dX7_stretch_0 rfl (lv_at hl 0 rfl) ?_
  refine lv_aload_n hx hb dX7_stretch_1 rfl (lv_at hl 0 rfl) ?_
  refine lv_iload_n hx hb dX7_stretch_2 rfl (lv_at hl 1 rfl) ?_
  refine g_callV (As := [.int x]) (rest := [.ref (h 0)]) (wr := []) (C0.sz hl) X (c_X7_isRoot l D tk h Mt hi la ce x (by first | assumption | omega)) ⟨tb989, tb992, tb8, ⟨by decide, by decide, rfl⟩, rfl, rfl, Nat.le_of_ble_eq_true rfl, Nat.le_of_ble_eq_true rfl⟩ tb991 tbs38 0 7 rfl rfl rfl rfl [0, 1, 2, 3, 4, 5, 6, 7, 8, 9, 10, 11, 12, 13] [] rfl rfl rfl rfl rfl (Nat.le_of_ble_eq_true rfl) ⟨Nat.le_of_ble_eq_true rfl, Nat.le_of_ble_eq_true rfl⟩ dX7_stretch_3 (fun _ H locs _ X => ?_)
  have X : Hx D zA zs H locs (mW tk h Mt hi la ce) := X
  refine g_ifeqB (x := ix x (Mt 0 42)) (tgt := 25) C0 dX7_stretch_6 rfl (fun c1 => ?_) (fun c2 => ?_)
  · refine g_iconst (n := 0) C0 rfl dX7_stretch_25 ?_
    refine g_bipush (n := 24) C0 (by decide) dX7_stretch_26 ?_
    refine lv_iload_n hx hb dX7_stretch_28 rfl (lv_at hl 1 rfl) ?_
    refine lv_iadd hx hb dX7_stretch_29 ?_
    refine lv_iload_n hx hb dX7_stretch_30 rfl (lv_at hl 2 rfl) ?_
    refine g_callV (As := [.int (nI 0), .int ((nI 24) + x), .int y]) (rest := []) (wr := []) (C0.sz hl) X (c_putsF l D tk h Mt hi la ce 0 ((nI 24) + x) y (by first | assumption | omega)) ⟨tb1017, tb1020, tb8, ⟨by decide, by decide, rfl⟩, rfl, rfl, Nat.le_of_ble_eq_true rfl, Nat.le_of_ble_eq_true rfl⟩ tb1019 tbs40 0 7 rfl rfl rfl rfl [0, 1, 2, 3, 4, 5, 6, 7, 8, 9, 10, 11, 12, 13] [] rfl rfl rfl rfl rfl (Nat.le_of_ble_eq_true rfl) ⟨Nat.le_of_ble_eq_true rfl, Nat.le_of_ble_eq_true rfl⟩ dX7_stretch_31 (fun _ H locs _ X => ?_)
    have X : Hx D zA zs H locs (mW tk h Mt hi la ce) := X
    exact hE (v := (-1)) () (by simp only [a_stretch, c1, pv80, pv81, pv82, pv83, pv0, pv1, pv2, pv3, pv4, pv5, pv6, pv7, eq_self, ne01, ne02, ne03, ne04, ne05, ne10, ne12, ne13, ne14, ne15, ne20, ne21, ne23, ne24, ne25, ne30, ne31, ne32, ne34, ne35, ne40, ne41, ne42, ne43, ne45, ne50, ne51, ne52, ne53, ne54, if_true, if_false, Bool.false_eq_true, Bool.and_self, Bool.and_true, Bool.and_false, Bool.true_and, Bool.false_and, Bool.not_true, Bool.not_false, decide_true, decide_false] <;> rfl) trivial (X.to (by simp only [stretchM, c1, pv80, pv81, pv82, pv83, pv0, pv1, pv2, pv3, pv4, pv5, pv6, pv7, eq_self, ne01, ne02, ne03, ne04, ne05, ne10, ne12, ne13, ne14, ne15, ne20, ne21, ne23, ne24, ne25, ne30, ne31, ne32, ne34, ne35, ne40, ne41, ne42, ne43, ne45, ne50, ne51, ne52, ne53, ne54, if_true, if_false, Bool.false_eq_true, Bool.and_self, Bool.and_true, Bool.and_false, Bool.true_and, Bool.false_and, Bool.not_true, Bool.not_false, decide_true, decide_false] <;> rfl)) dX7_stretch_34
  · obtain ⟨xq, hk_xq, rfl⟩ := ix_sp c2
    refine lv_iload_n hx hb dX7_stretch_9 rfl (lv_at hl 2 rfl) ?_
    refine lv_i2l hx hb dX7_stretch_10 rfl ?_
    refine g_lconst (n := 1) C0 rfl dX7_stretch_11 ?_
    refine lv_ldc2 (v := lN 9) hx hb C0.2.2.2.1 (ht _ tb1025) dX7_stretch_12 ?_
    refine g_callS (As := [.long (Int32.toInt64 y), .long (lN 1), .long (lN 9)]) (rest := [.ref (h 0)]) (wr := (mW tk h Mt hi la ce)) (C0.sz hl) X (c_X7_in l D tk (Int32.toInt64 y) (lN 1) (lN 9)) ⟨tb885, tb887, tb8, ⟨by decide, by decide, rfl⟩, rfl, rfl, Nat.le_of_ble_eq_true rfl, Nat.le_of_ble_eq_true rfl⟩ tb886 rfl [] [0, 1, 2, 3, 4, 5, 6, 7, 8, 9, 10, 11, 12, 13] rfl rfl rfl rfl rfl (Nat.le_of_ble_eq_true rfl) ⟨Nat.le_of_ble_eq_true rfl, Nat.le_of_ble_eq_true rfl⟩ dX7_stretch_15 (fun _ H locs _ X => ?_)
    have X : Hx D zA zs H locs (mW tk h Mt hi la ce) := X
    refine g_top (y := nI (rb (rg y 1 9))) (by rw [inL_rg y (by first | decide | omega) (by first | decide | omega)]) ?_
    refine g_ifeqB (x := rg y 1 9) (tgt := 25) C0 dX7_stretch_18 rfl (fun c3 => ?_) (fun c4 => ?_)
    · refine g_iconst (n := 0) C0 rfl dX7_stretch_25 ?_
      refine g_bipush (n := 24) C0 (by decide) dX7_stretch_26 ?_
      refine lv_iload_n hx hb dX7_stretch_28 rfl (lv_at hl 1 rfl) ?_
      refine g_iadd (n := 24 + xq) C0 (by first | rfl | omega) dX7_stretch_29 ?_
      refine lv_iload_n hx hb dX7_stretch_30 rfl (lv_at hl 2 rfl) ?_
      refine g_callV (As := [.int (nI 0), .int (nI (24 + xq)), .int y]) (rest := []) (wr := []) (C0.sz hl) X (c_putsF l D tk h Mt hi la ce 0 (nI (24 + xq)) y (by first | assumption | omega)) ⟨tb1017, tb1020, tb8, ⟨by decide, by decide, rfl⟩, rfl, rfl, Nat.le_of_ble_eq_true rfl, Nat.le_of_ble_eq_true rfl⟩ tb1019 tbs40 0 7 rfl rfl rfl rfl [0, 1, 2, 3, 4, 5, 6, 7, 8, 9, 10, 11, 12, 13] [] rfl rfl rfl rfl rfl (Nat.le_of_ble_eq_true rfl) ⟨Nat.le_of_ble_eq_true rfl, Nat.le_of_ble_eq_true rfl⟩ dX7_stretch_31 (fun _ H locs _ X => ?_)
      have X : Hx D zA zs H locs (mW tk h Mt hi la ce) := X
      exact hE (v := (-1)) () (by simp only [a_stretch, c2, c3, tn_nI (k := xq) (by omega), pv80, pv81, pv82, pv83, pv0, pv1, pv2, pv3, pv4, pv5, pv6, pv7, eq_self, ne01, ne02, ne03, ne04, ne05, ne10, ne12, ne13, ne14, ne15, ne20, ne21, ne23, ne24, ne25, ne30, ne31, ne32, ne34, ne35, ne40, ne41, ne42, ne43, ne45, ne50, ne51, ne52, ne53, ne54, if_true, if_false, Bool.false_eq_true, Bool.and_self, Bool.and_true, Bool.and_false, Bool.true_and, Bool.false_and, Bool.not_true, Bool.not_false, decide_true, decide_false] <;> rfl) trivial (X.to (by simp only [stretchM, c2, c3, tn_nI (k := xq) (by omega), pv80, pv81, pv82, pv83, pv0, pv1, pv2, pv3, pv4, pv5, pv6, pv7, eq_self, ne01, ne02, ne03, ne04, ne05, ne10, ne12, ne13, ne14, ne15, ne20, ne21, ne23, ne24, ne25, ne30, ne31, ne32, ne34, ne35, ne40, ne41, ne42, ne43, ne45, ne50, ne51, ne52, ne53, ne54, if_true, if_false, Bool.false_eq_true, Bool.and_self, Bool.and_true, Bool.and_false, Bool.true_and, Bool.false_and, Bool.not_true, Bool.not_false, decide_true, decide_false] <;> rfl)) dX7_stretch_34
    · obtain ⟨yq, hk_yqa, hk_yqb, hk_yqc, rfl⟩ := rg_sp c4
      refine g_iconst (n := 1) C0 rfl dX7_stretch_21 ?_
      refine lv_goto (tgt := 26) hx hb dX7_stretch_22 (by decide) ?_
      refine g_bipush (n := 24) C0 (by decide) dX7_stretch_26 ?_
      refine lv_iload_n hx hb dX7_stretch_28 rfl (lv_at hl 1 rfl) ?_
      refine g_iadd (n := 24 + xq) C0 (by first | rfl | omega) dX7_stretch_29 ?_
      refine lv_iload_n hx hb dX7_stretch_30 rfl (lv_at hl 2 rfl) ?_
      refine g_callV (As := [.int (nI 1), .int (nI (24 + xq)), .int (nI yq)]) (rest := []) (wr := []) (C0.sz hl) X (c_putsT l D tk h Mt hi la ce 1 (24 + xq) yq (by first | assumption | omega) (by first | assumption | omega)) ⟨tb1017, tb1020, tb8, ⟨by decide, by decide, rfl⟩, rfl, rfl, Nat.le_of_ble_eq_true rfl, Nat.le_of_ble_eq_true rfl⟩ tb1019 tbs40 0 7 rfl rfl rfl rfl [0, 1, 2, 3, 4, 5, 6, 7, 8, 9, 10, 11, 12, 13] [] rfl rfl rfl rfl rfl (Nat.le_of_ble_eq_true rfl) ⟨Nat.le_of_ble_eq_true rfl, Nat.le_of_ble_eq_true rfl⟩ dX7_stretch_31 (fun _ H locs _ X => ?_)
      have X : Hx D zA zs H locs (mW tk h (u2 Mt 0 (24 + xq) yq) hi la ce) := X
      exact hE (v := nI (Mt 0 (24 + xq))) () (by simp only [a_stretch, c2, c4, tn_nI (k := xq) (by omega), tn_nI (k := yq) (by omega), pv80, pv81, pv82, pv83, pv0, pv1, pv2, pv3, pv4, pv5, pv6, pv7, eq_self, ne01, ne02, ne03, ne04, ne05, ne10, ne12, ne13, ne14, ne15, ne20, ne21, ne23, ne24, ne25, ne30, ne31, ne32, ne34, ne35, ne40, ne41, ne42, ne43, ne45, ne50, ne51, ne52, ne53, ne54, if_true, if_false, Bool.false_eq_true, Bool.and_self, Bool.and_true, Bool.and_false, Bool.true_and, Bool.false_and, Bool.not_true, Bool.not_false, decide_true, decide_false] <;> rfl) trivial (X.to (by simp only [stretchM, c2, c4, tn_nI (k := xq) (by omega), tn_nI (k := yq) (by omega), pv80, pv81, pv82, pv83, pv0, pv1, pv2, pv3, pv4, pv5, pv6, pv7, eq_self, ne01, ne02, ne03, ne04, ne05, ne10, ne12, ne13, ne14, ne15, ne20, ne21, ne23, ne24, ne25, ne30, ne31, ne32, ne34, ne35, ne40, ne41, ne42, ne43, ne45, ne50, ne51, ne52, ne53, ne54, if_true, if_false, Bool.false_eq_true, Bool.and_self, Bool.and_true, Bool.and_false, Bool.true_and, Bool.false_and, Bool.not_true, Bool.not_false, decide_true, decide_false] <;> rfl)) dX7_stretch_34
set_option maxHeartbeats 4000000 in
set_option maxRecDepth 100000 in
theorem c_X7_grow (l : Launch) (D : va_G) (tk : Nat → ClassId) (h : Nat → Nat) (Mt : Nat → Nat → Nat) (hi : Int32) (la ce : Nat → Int32) (x y z : Int32) (hW : VW (pgv Mt 0)) : MX l yX7_grow cX7_grow 4 (some .int) ⟨2, 0, 0, 46⟩ D (TYS tk) [.ref (h 0), .int x, .int y, .int z] (mW tk h Mt hi la ce) (fun (_ : Unit) => True) (fun _ => some (.int (a_grow (pgv Mt 0) x y z))) (fun _ => mW tk h (growM Mt x y z) hi la ce) 0 0 := by
  refine MX.of_i (by decide) rfl ?_
  intro zp ze zs zm za zb zt zc zA zQ ls C0 hnm X hl hE
  have hx := C0.1
  have hb := C0.2.1
  have ht := C0.2.2.2.2.1
  have X : Hx D zA zs zs.heap [] (mW tk h Mt hi la ce) := X
  have hl : lv_has ls 4 [(0, .ref (h 0)), (1, .int x), (2, .int y), (3, .int z)] := hl
  obtain ⟨hv1, hv2, hv3, hv4, hv5, hv6, hv7⟩ := id hW
  have hb1 : Mt 20 0 ≤ 6 := hv1
  have hb2 : Mt 0 42 ≤ 9 := hv2
  have hb3 : Mt 0 43 ≤ 20 := hv3
  have hb4 : Mt 0 62 ≤ 6 := hv4
  have hkd : ∀ t, t < Mt 20 0 → Mt 0 t ≤ 3 := fun t ht => by have q := hv5 t ht; rw [pv0] at q; exact q
  have hrt : ∀ i, i < Mt 0 42 → Mt 0 (6 + i) < Mt 20 0 ∧ Mt 0 (15 + i) < Mt 20 0 ∧ Mt 0 (6 + i) ≠ Mt 0 (15 + i) ∧ 1 ≤ Mt 0 (24 + i) ∧ Mt 0 (24 + i) ≤ 9 ∧ Mt 0 (33 + i) ≤ 1 := fun i hi => hv6 i hi
  have htk : ∀ k, k < Mt 0 62 → Mt 0 (44 + k) ≤ 23 ∧ Mt 0 (50 + k) < Mt 20 0 ∧ 1 ≤ Mt 0 (56 + k) ∧ Mt 0 (56 + k) ≤ 60 := fun k hk => hv7 k hk
  obtain ⟨H, hH⟩ : ∃ H, H = zs.heap := ⟨_, rfl⟩
  rw [← hH] at X ⊢
  obtain ⟨locs, hlo⟩ : ∃ L : List Loc, L = [] := ⟨_, rfl⟩
  rw [← hlo] at X ⊢
  refine lv_aload_n hx hb dX7_grow_0 rfl (lv_at hl 0 rfl) ?_
  refine lv_iload_n hx hb dX7_grow_1 rfl (lv_at hl 1 rfl) ?_
  refine g_callV (As := [.int x]) (rest := []) (wr := []) (C0.sz hl) X (c_X7_isTree l D tk h Mt hi la ce x (by first | assumption | omega)) ⟨tb980, tb983, tb8, ⟨by decide, by decide, rfl⟩, rfl, rfl, Nat.le_of_ble_eq_true rfl, Nat.le_of_ble_eq_true rfl⟩ tb982 tbs37 0 7 rfl rfl rfl rfl [0, 1, 2, 3, 4, 5, 6, 7, 8, 9, 10, 11, 12, 13] [] rfl rfl rfl rfl rfl (Nat.le_of_ble_eq_true rfl) ⟨Nat.le_of_ble_eq_true rfl, Nat.le_of_ble_eq_true rfl⟩ dX7_grow_2 (fun _ H locs _ X => ?_)
  have X : Hx D zA zs H locs (mW tk h Mt hi la ce) := X
  refine g_ifeqB (x := ix x (Mt 20 0)) (tgt := 33) C0 dX7_grow_5 rfl (fun c1 => ?_) (fun c2 => ?_)
  · refine lv_iconst (v := (-1)) hx hb dX7_grow_33 (by decide) ?_
    exact hE (v := (-1)) () (by simp [a_grow, pv80, pv81, pv82, pv83, pv0, pv1, pv2, pv3, pv4, pv5, pv6, pv7, c1]) trivial (X.to (by simp [growM, c1])) dX7_grow_34
  · obtain ⟨xq, hk_xq, rfl⟩ := ix_sp c2
    refine lv_aload_n hx hb dX7_grow_8 rfl (lv_at hl 0 rfl) ?_
    refine lv_iload_n hx hb dX7_grow_9 rfl (lv_at hl 2 rfl) ?_
    refine g_callV (As := [.int y]) (rest := []) (wr := []) (C0.sz hl) X (c_X7_isTree l D tk h Mt hi la ce y (by first | assumption | omega)) ⟨tb980, tb983, tb8, ⟨by decide, by decide, rfl⟩, rfl, rfl, Nat.le_of_ble_eq_true rfl, Nat.le_of_ble_eq_true rfl⟩ tb982 tbs37 0 7 rfl rfl rfl rfl [0, 1, 2, 3, 4, 5, 6, 7, 8, 9, 10, 11, 12, 13] [] rfl rfl rfl rfl rfl (Nat.le_of_ble_eq_true rfl) ⟨Nat.le_of_ble_eq_true rfl, Nat.le_of_ble_eq_true rfl⟩ dX7_grow_10 (fun _ H locs _ X => ?_)
    have X : Hx D zA zs H locs (mW tk h Mt hi la ce) := X
    refine g_ifeqB (x := ix y (Mt 20 0)) (tgt := 33) C0 dX7_grow_13 rfl (fun c3 => ?_) (fun c4 => ?_)
    · refine lv_iconst (v := (-1)) hx hb dX7_grow_33 (by decide) ?_
      exact hE (v := (-1)) () (by simp [a_grow, pv80, pv81, pv82, pv83, pv0, pv1, pv2, pv3, pv4, pv5, pv6, pv7, c2, c3, tn_nI (k := xq) (by omega)]) trivial (X.to (by simp [growM, c2, c3, tn_nI (k := xq) (by omega)])) dX7_grow_34
    · obtain ⟨yq, hk_yq, rfl⟩ := ix_sp c4
      refine lv_iload_n hx hb dX7_grow_16 rfl (lv_at hl 1 rfl) ?_
      refine lv_iload_n hx hb dX7_grow_17 rfl (lv_at hl 2 rfl) ?_
      refine g_icmp_eq (x := xq) (y := yq) (tgt := 33) C0 (by omega) (by omega) dX7_grow_18 rfl (fun c5 => ?_) (fun c6 => ?_)
      · refine lv_iconst (v := (-1)) hx hb dX7_grow_33 (by decide) ?_
        exact hE (v := (-1)) () (by simp [a_grow, pv80, pv81, pv82, pv83, pv0, pv1, pv2, pv3, pv4, pv5, pv6, pv7, c2, c4, c5, tn_nI (k := xq) (by omega), tn_nI (k := yq) (by omega)]) trivial (X.to (by simp [growM, c2, c4, c5, tn_nI (k := xq) (by omega), tn_nI (k := yq) (by omega)])) dX7_grow_34
      · refine lv_iload_n hx hb dX7_grow_21 rfl (lv_at hl 3 rfl) ?_
        refine lv_i2l hx hb dX7_grow_22 rfl ?_
        refine g_lconst (n := 1) C0 rfl dX7_grow_23 ?_
        refine lv_ldc2 (v := lN 9) hx hb C0.2.2.2.1 (ht _ tb1025) dX7_grow_24 ?_
        refine g_callS (As := [.long (Int32.toInt64 z), .long (lN 1), .long (lN 9)]) (rest := []) (wr := (mW tk h Mt hi la ce)) (C0.sz hl) X (c_X7_in l D tk (Int32.toInt64 z) (lN 1) (lN 9)) ⟨tb885, tb887, tb8, ⟨by decide, by decide, rfl⟩, rfl, rfl, Nat.le_of_ble_eq_true rfl, Nat.le_of_ble_eq_true rfl⟩ tb886 rfl [] [0, 1, 2, 3, 4, 5, 6, 7, 8, 9, 10, 11, 12, 13] rfl rfl rfl rfl rfl (Nat.le_of_ble_eq_true rfl) ⟨Nat.le_of_ble_eq_true rfl, Nat.le_of_ble_eq_true rfl⟩ dX7_grow_27 (fun _ H locs _ X => ?_)
        have X : Hx D zA zs H locs (mW tk h Mt hi la ce) := X
        refine g_top (y := nI (rb (rg z 1 9))) (by rw [inL_rg z (by first | decide | omega) (by first | decide | omega)]) ?_
        refine g_ifneB (x := rg z 1 9) (tgt := 35) C0 dX7_grow_30 rfl (fun c7 => ?_) (fun c8 => ?_)
        · obtain ⟨zq, hk_zqa, hk_zqb, hk_zqc, rfl⟩ := rg_sp c7
          refine lv_aload_n hx hb dX7_grow_35 rfl (lv_at hl 0 rfl) ?_
          refine g_get (v := .ref (h 1)) C0 X kX7 0 0 tb797 rfl rfl rfl dX7_grow_36 ?_
          refine g_bipush (n := 42) C0 (by decide) dX7_grow_39 ?_
          refine g_iald (v := nI (Mt 0 42)) (i := 42) C0 X 1 0 rfl rfl (by omega) rfl rfl dX7_grow_41 ?_
          refine g_bipush (n := 9) C0 (by decide) dX7_grow_42 ?_
          refine g_icmp_ne (x := Mt 0 42) (y := 9) (tgt := 50) C0 (by omega) (by omega) dX7_grow_44 rfl (fun c9 => ?_) (fun c10 => ?_)
          · refine lv_aload_n hx hb dX7_grow_50 rfl (lv_at hl 0 rfl) ?_
            refine g_iconst (n := 0) C0 rfl dX7_grow_51 ?_
            refine lv_iload_n hx hb dX7_grow_52 rfl (lv_at hl 1 rfl) ?_
            refine lv_iload_n hx hb dX7_grow_53 rfl (lv_at hl 2 rfl) ?_
            refine lv_iload_n hx hb dX7_grow_54 rfl (lv_at hl 3 rfl) ?_
            refine g_callV (As := [.int (nI 0), .int (nI xq), .int (nI yq), .int (nI zq)]) (rest := []) (wr := []) (C0.sz hl) X (c_X7_growsOn l D tk h Mt hi la ce 0 xq yq zq (by omega) (by show Mt 0 42 < 9; omega)) ⟨tb1030, tb1033, tb8, ⟨by decide, by decide, rfl⟩, rfl, rfl, Nat.le_of_ble_eq_true rfl, Nat.le_of_ble_eq_true rfl⟩ tb1032 tbs41 0 7 rfl rfl rfl rfl [0, 1, 2, 3, 4, 5, 6, 7, 8, 9, 10, 11, 12, 13] [] rfl rfl rfl rfl rfl (Nat.le_of_ble_eq_true rfl) ⟨Nat.le_of_ble_eq_true rfl, Nat.le_of_ble_eq_true rfl⟩ dX7_grow_55 (fun _ H locs _ X => ?_)
            have X : Hx D zA zs H locs (mW tk h (u2 (u2 (u2 (u2 (u2 Mt 0 (0 + 6 + Mt 0 (0 + 42)) xq) 0 (0 + 15 + Mt 0 (0 + 42)) yq) 0 (0 + 24 + Mt 0 (0 + 42)) zq) 0 (0 + 33 + Mt 0 (0 + 42)) 0) 0 (0 + 42) (Mt 0 (0 + 42) + 1)) hi la ce) := X
            refine lv_aload_n hx hb dX7_grow_58 rfl (lv_at hl 0 rfl) ?_
            refine g_get (v := .ref (h 1)) C0 X kX7 0 0 tb797 rfl rfl rfl dX7_grow_59 ?_
            refine g_bipush (n := 42) C0 (by decide) dX7_grow_62 ?_
            refine g_iald (v := nI ((u1 (u1 (u1 (u1 (u1 (Mt 0) (0 + 6 + Mt 0 (0 + 42)) xq) (0 + 15 + Mt 0 (0 + 42)) yq) (0 + 24 + Mt 0 (0 + 42)) zq) (0 + 33 + Mt 0 (0 + 42)) 0) (0 + 42) (Mt 0 (0 + 42) + 1)) 42)) (i := 42) C0 X 1 0 rfl rfl (by omega) rfl (by first | rfl | exact congrArg nI (u1_s _ _ _)) dX7_grow_64 ?_
            refine g_top (y := nI (Mt 0 42 + 1)) (by rfl) ?_
            exact hE (v := nI (Mt 0 42 + 1)) () (by rw [a_grow, if_pos (by simp [pv80, c2, c4, c6, c7, tn_nI (k := xq) (by omega), tn_nI (k := yq) (by omega), tn_nI (k := zq) (by omega)]), pv81, if_pos (show Mt 0 42 < 9 by omega)]) trivial (X.to (by rw [growM, if_pos (by simp [c2, c4, c6, c7, tn_nI (k := xq) (by omega), tn_nI (k := yq) (by omega), tn_nI (k := zq) (by omega), show Mt 0 42 < 9 by omega]), tn_nI (k := xq) (by omega), tn_nI (k := yq) (by omega), tn_nI (k := zq) (by omega)]; rfl)) dX7_grow_65
          · refine lv_bipush (v := (-3)) hx hb dX7_grow_47 (by decide) ?_
            exact hE (v := (-3)) () (by simp [a_grow, pv80, pv81, pv82, pv83, pv0, pv1, pv2, pv3, pv4, pv5, pv6, pv7, c2, c4, c6, c7, c10, tn_nI (k := xq) (by omega), tn_nI (k := yq) (by omega), tn_nI (k := zq) (by omega)]) trivial (X.to (by simp [growM, c2, c4, c6, c7, c10, tn_nI (k := xq) (by omega), tn_nI (k := yq) (by omega), tn_nI (k := zq) (by omega)])) dX7_grow_49
        · refine lv_iconst (v := (-1)) hx hb dX7_grow_33 (by decide) ?_
          exact hE (v := (-1)) () (by simp [a_grow, pv80, pv81, pv82, pv83, pv0, pv1, pv2, pv3, pv4, pv5, pv6, pv7, c2, c4, c6, c8, tn_nI (k := xq) (by omega), tn_nI (k := yq) (by omega)]) trivial (X.to (by simp [growM, c2, c4, c6, c8, tn_nI (k := xq) (by omega), tn_nI (k := yq) (by omega)])) dX7_grow_34
set_option maxHeartbeats 4000000 in
set_option maxRecDepth 100000 in
theorem c_X7_cut (l : Launch) (D : va_G) (tk : Nat → ClassId) (h : Nat → Nat) (Mt : Nat → Nat → Nat) (hi : Int32) (la ce : Nat → Int32) (x : Int32) (wb : Bool) (hW : VW (pgv Mt 0)) : MX l yX7_cut cX7_cut 3 (some .int) ⟨2, 0, 0, 46⟩ D (TYS tk) [.ref (h 0), .int x, .int (nI (rb wb))] (mW tk h Mt hi la ce) (fun (_ : Unit) => True) (fun _ => some (.int (a_cut (pgv Mt 0) x))) (fun _ => mW tk h (cutM Mt x wb) hi la ce) 0 0 := by
  refine MX.of_i (by decide) rfl ?_
  intro zp ze zs zm za zb zt zc zA zQ ls C0 hnm X hl hE
  have hx := C0.1
  have hb := C0.2.1
  have ht := C0.2.2.2.2.1
  have X : Hx D zA zs zs.heap [] (mW tk h Mt hi la ce) := X
  have hl : lv_has ls 3 [(0, .ref (h 0)), (1, .int x), (2, .int (nI (rb wb)))] := hl
  obtain ⟨hv1, hv2, hv3, hv4, hv5, hv6, hv7⟩ := id hW
  have hb1 : Mt 20 0 ≤ 6 := hv1
  have hb2 : Mt 0 42 ≤ 9 := hv2
  have hb3 : Mt 0 43 ≤ 20 := hv3
  have hb4 : Mt 0 62 ≤ 6 := hv4
  have hkd : ∀ t, t < Mt 20 0 → Mt 0 t ≤ 3 := fun t ht => by have q := hv5 t ht; rw [pv0] at q; exact q
  have hrt : ∀ i, i < Mt 0 42 → Mt 0 (6 + i) < Mt 20 0 ∧ Mt 0 (15 + i) < Mt 20 0 ∧ Mt 0 (6 + i) ≠ Mt 0 (15 + i) ∧ 1 ≤ Mt 0 (24 + i) ∧ Mt 0 (24 + i) ≤ 9 ∧ Mt 0 (33 + i) ≤ 1 := fun i hi => hv6 i hi
  have htk : ∀ k, k < Mt 0 62 → Mt 0 (44 + k) ≤ 23 ∧ Mt 0 (50 + k) < Mt 20 0 ∧ 1 ≤ Mt 0 (56 + k) ∧ Mt 0 (56 + k) ≤ 60 := fun k hk => hv7 k hk
  obtain ⟨H, hH⟩ : ∃ H, H = zs.heap := ⟨_, rfl⟩
  rw [← hH] at X ⊢
  obtain ⟨locs, hlo⟩ : ∃ L : List Loc, L = [] := ⟨_, rfl⟩
  rw [← hlo] at X ⊢
  refine lv_aload_n hx hb dX7_cut_0 rfl (lv_at hl 0 rfl) ?_
  refine lv_aload_n hx hb dX7_cut_1 rfl (lv_at hl 0 rfl) ?_
  refine lv_iload_n hx hb dX7_cut_2 rfl (lv_at hl 1 rfl) ?_
  refine g_callV (As := [.int x]) (rest := [.ref (h 0)]) (wr := []) (C0.sz hl) X (c_X7_isRoot l D tk h Mt hi la ce x (by first | assumption | omega)) ⟨tb989, tb992, tb8, ⟨by decide, by decide, rfl⟩, rfl, rfl, Nat.le_of_ble_eq_true rfl, Nat.le_of_ble_eq_true rfl⟩ tb991 tbs38 0 7 rfl rfl rfl rfl [0, 1, 2, 3, 4, 5, 6, 7, 8, 9, 10, 11, 12, 13] [] rfl rfl rfl rfl rfl (Nat.le_of_ble_eq_true rfl) ⟨Nat.le_of_ble_eq_true rfl, Nat.le_of_ble_eq_true rfl⟩ dX7_cut_3 (fun _ H locs _ X => ?_)
  have X : Hx D zA zs H locs (mW tk h Mt hi la ce) := X
  rcases Bool.eq_false_or_eq_true (ix x (Mt 0 42)) with c1 | c1
  · refine g_top (y := nI 1) (by rw [c1]; rfl) ?_
    obtain ⟨xq, hk_xq, rfl⟩ := ix_sp c1
    refine g_bipush (n := 33) C0 (by decide) dX7_cut_6 ?_
    refine lv_iload_n hx hb dX7_cut_8 rfl (lv_at hl 1 rfl) ?_
    refine g_iadd (n := 33 + xq) C0 (by first | rfl | omega) dX7_cut_9 ?_
    refine lv_iload_n hx hb dX7_cut_10 rfl (lv_at hl 2 rfl) ?_
    refine g_ifeqB (x := wb) (tgt := 18) C0 dX7_cut_11 rfl (fun c2 => ?_) (fun c3 => ?_)
    · refine g_iconst (n := 0) C0 rfl dX7_cut_18 ?_
      refine g_callV (As := [.int (nI 1), .int (nI (33 + xq)), .int (nI 0)]) (rest := []) (wr := []) (C0.sz hl) X (c_putsT l D tk h Mt hi la ce 1 (33 + xq) 0 (by first | assumption | omega) (by first | assumption | omega)) ⟨tb1017, tb1020, tb8, ⟨by decide, by decide, rfl⟩, rfl, rfl, Nat.le_of_ble_eq_true rfl, Nat.le_of_ble_eq_true rfl⟩ tb1019 tbs40 0 7 rfl rfl rfl rfl [0, 1, 2, 3, 4, 5, 6, 7, 8, 9, 10, 11, 12, 13] [] rfl rfl rfl rfl rfl (Nat.le_of_ble_eq_true rfl) ⟨Nat.le_of_ble_eq_true rfl, Nat.le_of_ble_eq_true rfl⟩ dX7_cut_19 (fun _ H locs _ X => ?_)
      have X : Hx D zA zs H locs (mW tk h (u2 Mt 0 (33 + xq) 0) hi la ce) := X
      exact hE (v := nI (Mt 0 (33 + xq))) () (by simp only [a_cut, c1, c2, tn_nI (k := xq) (by omega), pv80, pv81, pv82, pv83, pv0, pv1, pv2, pv3, pv4, pv5, pv6, pv7, eq_self, ne01, ne02, ne03, ne04, ne05, ne10, ne12, ne13, ne14, ne15, ne20, ne21, ne23, ne24, ne25, ne30, ne31, ne32, ne34, ne35, ne40, ne41, ne42, ne43, ne45, ne50, ne51, ne52, ne53, ne54, if_true, if_false, Bool.false_eq_true, Bool.and_self, Bool.and_true, Bool.and_false, Bool.true_and, Bool.false_and, Bool.not_true, Bool.not_false, decide_true, decide_false] <;> rfl) trivial (X.to (by simp only [cutM, c1, c2, tn_nI (k := xq) (by omega), pv80, pv81, pv82, pv83, pv0, pv1, pv2, pv3, pv4, pv5, pv6, pv7, eq_self, ne01, ne02, ne03, ne04, ne05, ne10, ne12, ne13, ne14, ne15, ne20, ne21, ne23, ne24, ne25, ne30, ne31, ne32, ne34, ne35, ne40, ne41, ne42, ne43, ne45, ne50, ne51, ne52, ne53, ne54, if_true, if_false, Bool.false_eq_true, Bool.and_self, Bool.and_true, Bool.and_false, Bool.true_and, Bool.false_and, Bool.not_true, Bool.not_false, decide_true, decide_false] <;> rfl)) dX7_cut_22
    · refine g_iconst (n := 1) C0 rfl dX7_cut_14 ?_
      refine lv_goto (tgt := 19) hx hb dX7_cut_15 (by decide) ?_
      refine g_callV (As := [.int (nI 1), .int (nI (33 + xq)), .int (nI 1)]) (rest := []) (wr := []) (C0.sz hl) X (c_putsT l D tk h Mt hi la ce 1 (33 + xq) 1 (by first | assumption | omega) (by first | assumption | omega)) ⟨tb1017, tb1020, tb8, ⟨by decide, by decide, rfl⟩, rfl, rfl, Nat.le_of_ble_eq_true rfl, Nat.le_of_ble_eq_true rfl⟩ tb1019 tbs40 0 7 rfl rfl rfl rfl [0, 1, 2, 3, 4, 5, 6, 7, 8, 9, 10, 11, 12, 13] [] rfl rfl rfl rfl rfl (Nat.le_of_ble_eq_true rfl) ⟨Nat.le_of_ble_eq_true rfl, Nat.le_of_ble_eq_true rfl⟩ dX7_cut_19 (fun _ H locs _ X => ?_)
      have X : Hx D zA zs H locs (mW tk h (u2 Mt 0 (33 + xq) 1) hi la ce) := X
      exact hE (v := nI (Mt 0 (33 + xq))) () (by simp only [a_cut, c1, c3, tn_nI (k := xq) (by omega), pv80, pv81, pv82, pv83, pv0, pv1, pv2, pv3, pv4, pv5, pv6, pv7, eq_self, ne01, ne02, ne03, ne04, ne05, ne10, ne12, ne13, ne14, ne15, ne20, ne21, ne23, ne24, ne25, ne30, ne31, ne32, ne34, ne35, ne40, ne41, ne42, ne43, ne45, ne50, ne51, ne52, ne53, ne54, if_true, if_false, Bool.false_eq_true, Bool.and_self, Bool.and_true, Bool.and_false, Bool.true_and, Bool.false_and, Bool.not_true, Bool.not_false, decide_true, decide_false] <;> rfl) trivial (X.to (by simp only [cutM, c1, c3, tn_nI (k := xq) (by omega), pv80, pv81, pv82, pv83, pv0, pv1, pv2, pv3, pv4, pv5, pv6, pv7, eq_self, ne01, ne02, ne03, ne04, ne05, ne10, ne12, ne13, ne14, ne15, ne20, ne21, ne23, ne24, ne25, ne30, ne31, ne32, ne34, ne35, ne40, ne41, ne42, ne43, ne45, ne50, ne51, ne52, ne53, ne54, if_true, if_false, Bool.false_eq_true, Bool.and_self, Bool.and_true, Bool.and_false, Bool.true_and, Bool.false_and, Bool.not_true, Bool.not_false, decide_true, decide_false] <;> rfl)) dX7_cut_22
  · refine g_top (y := nI 0) (by rw [c1]; rfl) ?_
    refine g_bipush (n := 33) C0 (by decide) dX7_cut_6 ?_
    refine lv_iload_n hx hb dX7_cut_8 rfl (lv_at hl 1 rfl) ?_
    refine lv_iadd hx hb dX7_cut_9 ?_
    refine lv_iload_n hx hb dX7_cut_10 rfl (lv_at hl 2 rfl) ?_
    refine g_ifeqB (x := wb) (tgt := 18) C0 dX7_cut_11 rfl (fun c4 => ?_) (fun c5 => ?_)
    · refine g_iconst (n := 0) C0 rfl dX7_cut_18 ?_
      refine g_callV (As := [.int (nI 0), .int ((nI 33) + x), .int (nI 0)]) (rest := []) (wr := []) (C0.sz hl) X (c_putsF l D tk h Mt hi la ce 0 ((nI 33) + x) (nI 0) (by first | assumption | omega)) ⟨tb1017, tb1020, tb8, ⟨by decide, by decide, rfl⟩, rfl, rfl, Nat.le_of_ble_eq_true rfl, Nat.le_of_ble_eq_true rfl⟩ tb1019 tbs40 0 7 rfl rfl rfl rfl [0, 1, 2, 3, 4, 5, 6, 7, 8, 9, 10, 11, 12, 13] [] rfl rfl rfl rfl rfl (Nat.le_of_ble_eq_true rfl) ⟨Nat.le_of_ble_eq_true rfl, Nat.le_of_ble_eq_true rfl⟩ dX7_cut_19 (fun _ H locs _ X => ?_)
      have X : Hx D zA zs H locs (mW tk h Mt hi la ce) := X
      exact hE (v := (-1)) () (by simp only [a_cut, c1, c4, pv80, pv81, pv82, pv83, pv0, pv1, pv2, pv3, pv4, pv5, pv6, pv7, eq_self, ne01, ne02, ne03, ne04, ne05, ne10, ne12, ne13, ne14, ne15, ne20, ne21, ne23, ne24, ne25, ne30, ne31, ne32, ne34, ne35, ne40, ne41, ne42, ne43, ne45, ne50, ne51, ne52, ne53, ne54, if_true, if_false, Bool.false_eq_true, Bool.and_self, Bool.and_true, Bool.and_false, Bool.true_and, Bool.false_and, Bool.not_true, Bool.not_false, decide_true, decide_false] <;> rfl) trivial (X.to (by simp only [cutM, c1, c4, pv80, pv81, pv82, pv83, pv0, pv1, pv2, pv3, pv4, pv5, pv6, pv7, eq_self, ne01, ne02, ne03, ne04, ne05, ne10, ne12, ne13, ne14, ne15, ne20, ne21, ne23, ne24, ne25, ne30, ne31, ne32, ne34, ne35, ne40, ne41, ne42, ne43, ne45, ne50, ne51, ne52, ne53, ne54, if_true, if_false, Bool.false_eq_true, Bool.and_self, Bool.and_true, Bool.and_false, Bool.true_and, Bool.false_and, Bool.not_true, Bool.not_false, decide_true, decide_false] <;> rfl)) dX7_cut_22
    · refine g_iconst (n := 1) C0 rfl dX7_cut_14 ?_
      refine lv_goto (tgt := 19) hx hb dX7_cut_15 (by decide) ?_
      refine g_callV (As := [.int (nI 0), .int ((nI 33) + x), .int (nI 1)]) (rest := []) (wr := []) (C0.sz hl) X (c_putsF l D tk h Mt hi la ce 0 ((nI 33) + x) (nI 1) (by first | assumption | omega)) ⟨tb1017, tb1020, tb8, ⟨by decide, by decide, rfl⟩, rfl, rfl, Nat.le_of_ble_eq_true rfl, Nat.le_of_ble_eq_true rfl⟩ tb1019 tbs40 0 7 rfl rfl rfl rfl [0, 1, 2, 3, 4, 5, 6, 7, 8, 9, 10, 11, 12, 13] [] rfl rfl rfl rfl rfl (Nat.le_of_ble_eq_true rfl) ⟨Nat.le_of_ble_eq_true rfl, Nat.le_of_ble_eq_true rfl⟩ dX7_cut_19 (fun _ H locs _ X => ?_)
      have X : Hx D zA zs H locs (mW tk h Mt hi la ce) := X
      exact hE (v := (-1)) () (by simp only [a_cut, c1, c5, pv80, pv81, pv82, pv83, pv0, pv1, pv2, pv3, pv4, pv5, pv6, pv7, eq_self, ne01, ne02, ne03, ne04, ne05, ne10, ne12, ne13, ne14, ne15, ne20, ne21, ne23, ne24, ne25, ne30, ne31, ne32, ne34, ne35, ne40, ne41, ne42, ne43, ne45, ne50, ne51, ne52, ne53, ne54, if_true, if_false, Bool.false_eq_true, Bool.and_self, Bool.and_true, Bool.and_false, Bool.true_and, Bool.false_and, Bool.not_true, Bool.not_false, decide_true, decide_false] <;> rfl) trivial (X.to (by simp only [cutM, c1, c5, pv80, pv81, pv82, pv83, pv0, pv1, pv2, pv3, pv4, pv5, pv6, pv7, eq_self, ne01, ne02, ne03, ne04, ne05, ne10, ne12, ne13, ne14, ne15, ne20, ne21, ne23, ne24, ne25, ne30, ne31, ne32, ne34, ne35, ne40, ne41, ne42, ne43, ne45, ne50, ne51, ne52, ne53, ne54, if_true, if_false, Bool.false_eq_true, Bool.and_self, Bool.and_true, Bool.and_false, Bool.true_and, Bool.false_and, Bool.not_true, Bool.not_false, decide_true, decide_false] <;> rfl)) dX7_cut_22
set_option maxHeartbeats 4000000 in
set_option maxRecDepth 100000 in
theorem c_X7_wind (l : Launch) (D : va_G) (tk : Nat → ClassId) (h : Nat → Nat) (Mt : Nat → Nat → Nat) (hi : Int32) (la ce : Nat → Int32) (x : Int32) (hW : VW (pgv Mt 0)) : MX l yX7_wind cX7_wind 2 (some .int) ⟨1, 0, 0, 25⟩ D (TYS tk) [.ref (h 0), .int x] (mW tk h Mt hi la ce) (fun (_ : Unit) => True) (fun _ => some (.int (a_wind (pgv Mt 0) x))) (fun _ => mW tk h (windM Mt x) hi la ce) 0 0 := by
  refine MX.of_i (by decide) rfl ?_
  intro zp ze zs zm za zb zt zc zA zQ ls C0 hnm X hl hE
  have hx := C0.1
  have hb := C0.2.1
  have ht := C0.2.2.2.2.1
  have X : Hx D zA zs zs.heap [] (mW tk h Mt hi la ce) := X
  have hl : lv_has ls 2 [(0, .ref (h 0)), (1, .int x)] := hl
  obtain ⟨hv1, hv2, hv3, hv4, hv5, hv6, hv7⟩ := id hW
  have hb1 : Mt 20 0 ≤ 6 := hv1
  have hb2 : Mt 0 42 ≤ 9 := hv2
  have hb3 : Mt 0 43 ≤ 20 := hv3
  have hb4 : Mt 0 62 ≤ 6 := hv4
  have hkd : ∀ t, t < Mt 20 0 → Mt 0 t ≤ 3 := fun t ht => by have q := hv5 t ht; rw [pv0] at q; exact q
  have hrt : ∀ i, i < Mt 0 42 → Mt 0 (6 + i) < Mt 20 0 ∧ Mt 0 (15 + i) < Mt 20 0 ∧ Mt 0 (6 + i) ≠ Mt 0 (15 + i) ∧ 1 ≤ Mt 0 (24 + i) ∧ Mt 0 (24 + i) ≤ 9 ∧ Mt 0 (33 + i) ≤ 1 := fun i hi => hv6 i hi
  have htk : ∀ k, k < Mt 0 62 → Mt 0 (44 + k) ≤ 23 ∧ Mt 0 (50 + k) < Mt 20 0 ∧ 1 ≤ Mt 0 (56 + k) ∧ Mt 0 (56 + k) ≤ 60 := fun k hk => hv7 k hk
  obtain ⟨H, hH⟩ : ∃ H, H = zs.heap := ⟨_, rfl⟩
  rw [← hH] at X ⊢
  obtain ⟨locs, hlo⟩ : ∃ L : List Loc, L = [] := ⟨_, rfl⟩
  rw [← hlo] at X ⊢
  refine lv_aload_n hx hb dX7_wind_0 rfl (lv_at hl 0 rfl) ?_
  refine lv_iload_n hx hb dX7_wind_1 rfl (lv_at hl 1 rfl) ?_
  refine lv_i2l hx hb dX7_wind_2 rfl ?_
  refine g_lconst (n := 0) C0 rfl dX7_wind_3 ?_
  refine lv_ldc2 (v := lN 20) hx hb C0.2.2.2.1 (ht _ tb1042) dX7_wind_4 ?_
  refine g_callS (As := [.long (Int32.toInt64 x), .long (lN 0), .long (lN 20)]) (rest := [.ref (h 0)]) (wr := (mW tk h Mt hi la ce)) (C0.sz hl) X (c_X7_in l D tk (Int32.toInt64 x) (lN 0) (lN 20)) ⟨tb885, tb887, tb8, ⟨by decide, by decide, rfl⟩, rfl, rfl, Nat.le_of_ble_eq_true rfl, Nat.le_of_ble_eq_true rfl⟩ tb886 rfl [] [0, 1, 2, 3, 4, 5, 6, 7, 8, 9, 10, 11, 12, 13] rfl rfl rfl rfl rfl (Nat.le_of_ble_eq_true rfl) ⟨Nat.le_of_ble_eq_true rfl, Nat.le_of_ble_eq_true rfl⟩ dX7_wind_7 (fun _ H locs _ X => ?_)
  have X : Hx D zA zs H locs (mW tk h Mt hi la ce) := X
  refine g_top (y := nI (rb (rg x 0 20))) (by rw [inL_rg x (by first | decide | omega) (by first | decide | omega)]) ?_
  rcases Bool.eq_false_or_eq_true (rg x 0 20) with c1 | c1
  · refine g_top (y := nI 1) (by rw [c1]; rfl) ?_
    obtain ⟨xq, hk_xqa, hk_xqb, hk_xqc, rfl⟩ := rg_sp c1
    refine g_bipush (n := 43) C0 (by decide) dX7_wind_10 ?_
    refine lv_iload_n hx hb dX7_wind_12 rfl (lv_at hl 1 rfl) ?_
    refine g_callV (As := [.int (nI 1), .int (nI 43), .int (nI xq)]) (rest := []) (wr := []) (C0.sz hl) X (c_putsT l D tk h Mt hi la ce 1 43 xq (by first | assumption | omega) (by first | assumption | omega)) ⟨tb1017, tb1020, tb8, ⟨by decide, by decide, rfl⟩, rfl, rfl, Nat.le_of_ble_eq_true rfl, Nat.le_of_ble_eq_true rfl⟩ tb1019 tbs40 0 7 rfl rfl rfl rfl [0, 1, 2, 3, 4, 5, 6, 7, 8, 9, 10, 11, 12, 13] [] rfl rfl rfl rfl rfl (Nat.le_of_ble_eq_true rfl) ⟨Nat.le_of_ble_eq_true rfl, Nat.le_of_ble_eq_true rfl⟩ dX7_wind_13 (fun _ H locs _ X => ?_)
    have X : Hx D zA zs H locs (mW tk h (u2 Mt 0 43 xq) hi la ce) := X
    exact hE (v := nI (Mt 0 43)) () (by simp only [a_wind, c1, tn_nI (k := xq) (by omega), pv80, pv81, pv82, pv83, pv0, pv1, pv2, pv3, pv4, pv5, pv6, pv7, eq_self, ne01, ne02, ne03, ne04, ne05, ne10, ne12, ne13, ne14, ne15, ne20, ne21, ne23, ne24, ne25, ne30, ne31, ne32, ne34, ne35, ne40, ne41, ne42, ne43, ne45, ne50, ne51, ne52, ne53, ne54, if_true, if_false, Bool.false_eq_true, Bool.and_self, Bool.and_true, Bool.and_false, Bool.true_and, Bool.false_and, Bool.not_true, Bool.not_false, decide_true, decide_false] <;> rfl) trivial (X.to (by simp only [windM, c1, tn_nI (k := xq) (by omega), pv80, pv81, pv82, pv83, pv0, pv1, pv2, pv3, pv4, pv5, pv6, pv7, eq_self, ne01, ne02, ne03, ne04, ne05, ne10, ne12, ne13, ne14, ne15, ne20, ne21, ne23, ne24, ne25, ne30, ne31, ne32, ne34, ne35, ne40, ne41, ne42, ne43, ne45, ne50, ne51, ne52, ne53, ne54, if_true, if_false, Bool.false_eq_true, Bool.and_self, Bool.and_true, Bool.and_false, Bool.true_and, Bool.false_and, Bool.not_true, Bool.not_false, decide_true, decide_false] <;> rfl)) dX7_wind_16
  · refine g_top (y := nI 0) (by rw [c1]; rfl) ?_
    refine g_bipush (n := 43) C0 (by decide) dX7_wind_10 ?_
    refine lv_iload_n hx hb dX7_wind_12 rfl (lv_at hl 1 rfl) ?_
    refine g_callV (As := [.int (nI 0), .int (nI 43), .int x]) (rest := []) (wr := []) (C0.sz hl) X (c_putsF l D tk h Mt hi la ce 0 (nI 43) x (by first | assumption | omega)) ⟨tb1017, tb1020, tb8, ⟨by decide, by decide, rfl⟩, rfl, rfl, Nat.le_of_ble_eq_true rfl, Nat.le_of_ble_eq_true rfl⟩ tb1019 tbs40 0 7 rfl rfl rfl rfl [0, 1, 2, 3, 4, 5, 6, 7, 8, 9, 10, 11, 12, 13] [] rfl rfl rfl rfl rfl (Nat.le_of_ble_eq_true rfl) ⟨Nat.le_of_ble_eq_true rfl, Nat.le_of_ble_eq_true rfl⟩ dX7_wind_13 (fun _ H locs _ X => ?_)
    have X : Hx D zA zs H locs (mW tk h Mt hi la ce) := X
    exact hE (v := (-1)) () (by simp only [a_wind, c1, pv80, pv81, pv82, pv83, pv0, pv1, pv2, pv3, pv4, pv5, pv6, pv7, eq_self, ne01, ne02, ne03, ne04, ne05, ne10, ne12, ne13, ne14, ne15, ne20, ne21, ne23, ne24, ne25, ne30, ne31, ne32, ne34, ne35, ne40, ne41, ne42, ne43, ne45, ne50, ne51, ne52, ne53, ne54, if_true, if_false, Bool.false_eq_true, Bool.and_self, Bool.and_true, Bool.and_false, Bool.true_and, Bool.false_and, Bool.not_true, Bool.not_false, decide_true, decide_false] <;> rfl) trivial (X.to (by simp only [windM, c1, pv80, pv81, pv82, pv83, pv0, pv1, pv2, pv3, pv4, pv5, pv6, pv7, eq_self, ne01, ne02, ne03, ne04, ne05, ne10, ne12, ne13, ne14, ne15, ne20, ne21, ne23, ne24, ne25, ne30, ne31, ne32, ne34, ne35, ne40, ne41, ne42, ne43, ne45, ne50, ne51, ne52, ne53, ne54, if_true, if_false, Bool.false_eq_true, Bool.and_self, Bool.and_true, Bool.and_false, Bool.true_and, Bool.false_and, Bool.not_true, Bool.not_false, decide_true, decide_false] <;> rfl)) dX7_wind_16
set_option maxHeartbeats 4000000 in
set_option maxRecDepth 100000 in
theorem c_X7_drop (l : Launch) (D : va_G) (tk : Nat → ClassId) (h : Nat → Nat) (Mt : Nat → Nat → Nat) (hi : Int32) (la ce : Nat → Int32) (x : Int32) (hW : VW (pgv Mt 0)) : MX l yX7_drop cX7_drop 2 (some .int) ⟨1, 0, 0, 25⟩ D (TYS tk) [.ref (h 0), .int x] (mW tk h Mt hi la ce) (fun (_ : Unit) => True) (fun _ => some (.int (a_drop (pgv Mt 0) x))) (fun _ => mW tk h (dropM Mt x) hi la ce) 0 0 := by
  refine MX.of_i (by decide) rfl ?_
  intro zp ze zs zm za zb zt zc zA zQ ls C0 hnm X hl hE
  have hx := C0.1
  have hb := C0.2.1
  have ht := C0.2.2.2.2.1
  have X : Hx D zA zs zs.heap [] (mW tk h Mt hi la ce) := X
  have hl : lv_has ls 2 [(0, .ref (h 0)), (1, .int x)] := hl
  obtain ⟨hv1, hv2, hv3, hv4, hv5, hv6, hv7⟩ := id hW
  have hb1 : Mt 20 0 ≤ 6 := hv1
  have hb2 : Mt 0 42 ≤ 9 := hv2
  have hb3 : Mt 0 43 ≤ 20 := hv3
  have hb4 : Mt 0 62 ≤ 6 := hv4
  have hkd : ∀ t, t < Mt 20 0 → Mt 0 t ≤ 3 := fun t ht => by have q := hv5 t ht; rw [pv0] at q; exact q
  have hrt : ∀ i, i < Mt 0 42 → Mt 0 (6 + i) < Mt 20 0 ∧ Mt 0 (15 + i) < Mt 20 0 ∧ Mt 0 (6 + i) ≠ Mt 0 (15 + i) ∧ 1 ≤ Mt 0 (24 + i) ∧ Mt 0 (24 + i) ≤ 9 ∧ Mt 0 (33 + i) ≤ 1 := fun i hi => hv6 i hi
  have htk : ∀ k, k < Mt 0 62 → Mt 0 (44 + k) ≤ 23 ∧ Mt 0 (50 + k) < Mt 20 0 ∧ 1 ≤ Mt 0 (56 + k) ∧ Mt 0 (56 + k) ≤ 60 := fun k hk => hv7 k hk
  obtain ⟨H, hH⟩ : ∃ H, H = zs.heap := ⟨_, rfl⟩
  rw [← hH] at X ⊢
  obtain ⟨locs, hlo⟩ : ∃ L : List Loc, L = [] := ⟨_, rfl⟩
  rw [← hlo] at X ⊢
  refine lv_aload_n hx hb dX7_drop_0 rfl (lv_at hl 0 rfl) ?_
  refine lv_iload_n hx hb dX7_drop_1 rfl (lv_at hl 1 rfl) ?_
  refine lv_i2l hx hb dX7_drop_2 rfl ?_
  refine g_lconst (n := 0) C0 rfl dX7_drop_3 ?_
  refine lv_aload_n hx hb dX7_drop_4 rfl (lv_at hl 0 rfl) ?_
  refine g_get (v := .ref (h 1)) C0 X kX7 0 0 tb797 rfl rfl rfl dX7_drop_5 ?_
  refine g_bipush (n := 62) C0 (by decide) dX7_drop_8 ?_
  refine g_iald (v := nI (Mt 0 62)) (i := 62) C0 X 1 0 rfl rfl (by omega) rfl rfl dX7_drop_10 ?_
  refine g_i2l C0 (by omega) dX7_drop_11 ?_
  refine g_callS (As := [.long (Int32.toInt64 x), .long (lN 0), .long (lN (Mt 0 62))]) (rest := [.ref (h 0)]) (wr := (mW tk h Mt hi la ce)) (C0.sz hl) X (c_X7_in l D tk (Int32.toInt64 x) (lN 0) (lN (Mt 0 62))) ⟨tb885, tb887, tb8, ⟨by decide, by decide, rfl⟩, rfl, rfl, Nat.le_of_ble_eq_true rfl, Nat.le_of_ble_eq_true rfl⟩ tb886 rfl [] [0, 1, 2, 3, 4, 5, 6, 7, 8, 9, 10, 11, 12, 13] rfl rfl rfl rfl rfl (Nat.le_of_ble_eq_true rfl) ⟨Nat.le_of_ble_eq_true rfl, Nat.le_of_ble_eq_true rfl⟩ dX7_drop_12 (fun _ H locs _ X => ?_)
  have X : Hx D zA zs H locs (mW tk h Mt hi la ce) := X
  refine g_top (y := nI (rb (rg x 0 (Mt 0 62)))) (by rw [inL_rg x (by first | decide | omega) (by first | decide | omega)]) ?_
  rcases Bool.eq_false_or_eq_true (rg x 0 (Mt 0 62)) with c1 | c1
  · refine g_top (y := nI 1) (by rw [c1]; rfl) ?_
    obtain ⟨xq, hk_xqa, hk_xqb, hk_xqc, rfl⟩ := rg_sp c1
    refine g_bipush (n := 62) C0 (by decide) dX7_drop_15 ?_
    refine lv_iload_n hx hb dX7_drop_17 rfl (lv_at hl 1 rfl) ?_
    refine g_callV (As := [.int (nI 1), .int (nI 62), .int (nI xq)]) (rest := []) (wr := []) (C0.sz hl) X (c_putsT l D tk h Mt hi la ce 1 62 xq (by first | assumption | omega) (by first | assumption | omega)) ⟨tb1017, tb1020, tb8, ⟨by decide, by decide, rfl⟩, rfl, rfl, Nat.le_of_ble_eq_true rfl, Nat.le_of_ble_eq_true rfl⟩ tb1019 tbs40 0 7 rfl rfl rfl rfl [0, 1, 2, 3, 4, 5, 6, 7, 8, 9, 10, 11, 12, 13] [] rfl rfl rfl rfl rfl (Nat.le_of_ble_eq_true rfl) ⟨Nat.le_of_ble_eq_true rfl, Nat.le_of_ble_eq_true rfl⟩ dX7_drop_18 (fun _ H locs _ X => ?_)
    have X : Hx D zA zs H locs (mW tk h (u2 Mt 0 62 xq) hi la ce) := X
    exact hE (v := nI (Mt 0 62)) () (by simp only [a_drop, c1, tn_nI (k := xq) (by omega), pv80, pv81, pv82, pv83, pv0, pv1, pv2, pv3, pv4, pv5, pv6, pv7, eq_self, ne01, ne02, ne03, ne04, ne05, ne10, ne12, ne13, ne14, ne15, ne20, ne21, ne23, ne24, ne25, ne30, ne31, ne32, ne34, ne35, ne40, ne41, ne42, ne43, ne45, ne50, ne51, ne52, ne53, ne54, if_true, if_false, Bool.false_eq_true, Bool.and_self, Bool.and_true, Bool.and_false, Bool.true_and, Bool.false_and, Bool.not_true, Bool.not_false, decide_true, decide_false] <;> rfl) trivial (X.to (by simp only [dropM, c1, tn_nI (k := xq) (by omega), pv80, pv81, pv82, pv83, pv0, pv1, pv2, pv3, pv4, pv5, pv6, pv7, eq_self, ne01, ne02, ne03, ne04, ne05, ne10, ne12, ne13, ne14, ne15, ne20, ne21, ne23, ne24, ne25, ne30, ne31, ne32, ne34, ne35, ne40, ne41, ne42, ne43, ne45, ne50, ne51, ne52, ne53, ne54, if_true, if_false, Bool.false_eq_true, Bool.and_self, Bool.and_true, Bool.and_false, Bool.true_and, Bool.false_and, Bool.not_true, Bool.not_false, decide_true, decide_false] <;> rfl)) dX7_drop_21
  · refine g_top (y := nI 0) (by rw [c1]; rfl) ?_
    refine g_bipush (n := 62) C0 (by decide) dX7_drop_15 ?_
    refine lv_iload_n hx hb dX7_drop_17 rfl (lv_at hl 1 rfl) ?_
    refine g_callV (As := [.int (nI 0), .int (nI 62), .int x]) (rest := []) (wr := []) (C0.sz hl) X (c_putsF l D tk h Mt hi la ce 0 (nI 62) x (by first | assumption | omega)) ⟨tb1017, tb1020, tb8, ⟨by decide, by decide, rfl⟩, rfl, rfl, Nat.le_of_ble_eq_true rfl, Nat.le_of_ble_eq_true rfl⟩ tb1019 tbs40 0 7 rfl rfl rfl rfl [0, 1, 2, 3, 4, 5, 6, 7, 8, 9, 10, 11, 12, 13] [] rfl rfl rfl rfl rfl (Nat.le_of_ble_eq_true rfl) ⟨Nat.le_of_ble_eq_true rfl, Nat.le_of_ble_eq_true rfl⟩ dX7_drop_18 (fun _ H locs _ X => ?_)
    have X : Hx D zA zs H locs (mW tk h Mt hi la ce) := X
    exact hE (v := (-1)) () (by simp only [a_drop, c1, pv80, pv81, pv82, pv83, pv0, pv1, pv2, pv3, pv4, pv5, pv6, pv7, eq_self, ne01, ne02, ne03, ne04, ne05, ne10, ne12, ne13, ne14, ne15, ne20, ne21, ne23, ne24, ne25, ne30, ne31, ne32, ne34, ne35, ne40, ne41, ne42, ne43, ne45, ne50, ne51, ne52, ne53, ne54, if_true, if_false, Bool.false_eq_true, Bool.and_self, Bool.and_true, Bool.and_false, Bool.true_and, Bool.false_and, Bool.not_true, Bool.not_false, decide_true, decide_false] <;> rfl) trivial (X.to (by simp only [dropM, c1, pv80, pv81, pv82, pv83, pv0, pv1, pv2, pv3, pv4, pv5, pv6, pv7, eq_self, ne01, ne02, ne03, ne04, ne05, ne10, ne12, ne13, ne14, ne15, ne20, ne21, ne23, ne24, ne25, ne30, ne31, ne32, ne34, ne35, ne40, ne41, ne42, ne43, ne45, ne50, ne51, ne52, ne53, ne54, if_true, if_false, Bool.false_eq_true, Bool.and_self, Bool.and_true, Bool.and_false, Bool.true_and, Bool.false_and, Bool.not_true, Bool.not_false, decide_true, decide_false] <;> rfl)) dX7_drop_21
set_option maxHeartbeats 4000000 in
set_option maxRecDepth 100000 in
theorem c_X7_book (l : Launch) (D : va_G) (tk : Nat → ClassId) (h : Nat → Nat) (Mt : Nat → Nat → Nat) (hi : Int32) (la ce : Nat → Int32) (x y z : Int32) (hW : VW (pgv Mt 0)) : MX l yX7_book cX7_book 4 (some .int) ⟨3, 0, 0, 70⟩ D (TYS tk) [.ref (h 0), .int x, .int y, .int z] (mW tk h Mt hi la ce) (fun (_ : Unit) => True) (fun _ => some (.int (a_book (pgv Mt 0) x y z))) (fun _ => mW tk h (bookM Mt x y z) hi la ce) 0 0 := by
  refine MX.of_i (by decide) rfl ?_
  intro zp ze zs zm za zb zt zc zA zQ ls C0 hnm X hl hE
  have hx := C0.1
  have hb := C0.2.1
  have ht := C0.2.2.2.2.1
  have X : Hx D zA zs zs.heap [] (mW tk h Mt hi la ce) := X
  have hl : lv_has ls 4 [(0, .ref (h 0)), (1, .int x), (2, .int y), (3, .int z)] := hl
  obtain ⟨hv1, hv2, hv3, hv4, hv5, hv6, hv7⟩ := id hW
  have hb1 : Mt 20 0 ≤ 6 := hv1
  have hb2 : Mt 0 42 ≤ 9 := hv2
  have hb3 : Mt 0 43 ≤ 20 := hv3
  have hb4 : Mt 0 62 ≤ 6 := hv4
  have hkd : ∀ t, t < Mt 20 0 → Mt 0 t ≤ 3 := fun t ht => by have q := hv5 t ht; rw [pv0] at q; exact q
  have hrt : ∀ i, i < Mt 0 42 → Mt 0 (6 + i) < Mt 20 0 ∧ Mt 0 (15 + i) < Mt 20 0 ∧ Mt 0 (6 + i) ≠ Mt 0 (15 + i) ∧ 1 ≤ Mt 0 (24 + i) ∧ Mt 0 (24 + i) ≤ 9 ∧ Mt 0 (33 + i) ≤ 1 := fun i hi => hv6 i hi
  have htk : ∀ k, k < Mt 0 62 → Mt 0 (44 + k) ≤ 23 ∧ Mt 0 (50 + k) < Mt 20 0 ∧ 1 ≤ Mt 0 (56 + k) ∧ Mt 0 (56 + k) ≤ 60 := fun k hk => hv7 k hk
  obtain ⟨H, hH⟩ : ∃ H, H = zs.heap := ⟨_, rfl⟩
  rw [← hH] at X ⊢
  obtain ⟨locs, hlo⟩ : ∃ L : List Loc, L = [] := ⟨_, rfl⟩
  rw [← hlo] at X ⊢
  refine lv_aload_n hx hb dX7_book_0 rfl (lv_at hl 0 rfl) ?_
  refine lv_iload_n hx hb dX7_book_1 rfl (lv_at hl 1 rfl) ?_
  refine lv_iload_n hx hb dX7_book_2 rfl (lv_at hl 2 rfl) ?_
  refine lv_iload_n hx hb dX7_book_3 rfl (lv_at hl 3 rfl) ?_
  refine g_callV (As := [.int x, .int y, .int z]) (rest := []) (wr := []) (C0.sz hl) X (c_X7_books l D tk h Mt hi la ce x y z (by first | assumption | omega) (by first | assumption | omega)) ⟨tb1047, tb1050, tb8, ⟨by decide, by decide, rfl⟩, rfl, rfl, Nat.le_of_ble_eq_true rfl, Nat.le_of_ble_eq_true rfl⟩ tb1049 tbs42 0 7 rfl rfl rfl rfl [0, 1, 2, 3, 4, 5, 6, 7, 8, 9, 10, 11, 12, 13] [] rfl rfl rfl rfl rfl (Nat.le_of_ble_eq_true rfl) ⟨Nat.le_of_ble_eq_true rfl, Nat.le_of_ble_eq_true rfl⟩ dX7_book_4 (fun _ H locs _ X => ?_)
  have X : Hx D zA zs H locs (mW tk h (bookM Mt x y z) hi la ce) := X
  exact hE (v := a_book (pgv Mt 0) x y z) () rfl trivial X dX7_book_7
set_option maxHeartbeats 4000000 in
set_option maxRecDepth 100000 in
theorem c_X7_shift (l : Launch) (D : va_G) (tk : Nat → ClassId) (h : Nat → Nat) (Mt : Nat → Nat → Nat) (hi : Int32) (la ce : Nat → Int32) (x y z : Int32) (hW : VW (pgv Mt 0)) : MX l yX7_shift cX7_shift 5 (some .int) ⟨2, 0, 0, 46⟩ D (TYS tk) [.ref (h 0), .int x, .int y, .int z] (mW tk h Mt hi la ce) (fun (_ : Unit) => True) (fun _ => some (.int (a_shift (pgv Mt 0) x y z))) (fun _ => mW tk h (shiftM Mt x y z) hi la ce) 0 0 := by
  refine MX.of_i (by decide) rfl ?_
  intro zp ze zs zm za zb zt zc zA zQ ls C0 hnm X hl hE
  have hx := C0.1
  have hb := C0.2.1
  have ht := C0.2.2.2.2.1
  have X : Hx D zA zs zs.heap [] (mW tk h Mt hi la ce) := X
  have hl : lv_has ls 5 [(0, .ref (h 0)), (1, .int x), (2, .int y), (3, .int z)] := hl
  obtain ⟨hv1, hv2, hv3, hv4, hv5, hv6, hv7⟩ := id hW
  have hb1 : Mt 20 0 ≤ 6 := hv1
  have hb2 : Mt 0 42 ≤ 9 := hv2
  have hb3 : Mt 0 43 ≤ 20 := hv3
  have hb4 : Mt 0 62 ≤ 6 := hv4
  have hkd : ∀ t, t < Mt 20 0 → Mt 0 t ≤ 3 := fun t ht => by have q := hv5 t ht; rw [pv0] at q; exact q
  have hrt : ∀ i, i < Mt 0 42 → Mt 0 (6 + i) < Mt 20 0 ∧ Mt 0 (15 + i) < Mt 20 0 ∧ Mt 0 (6 + i) ≠ Mt 0 (15 + i) ∧ 1 ≤ Mt 0 (24 + i) ∧ Mt 0 (24 + i) ≤ 9 ∧ Mt 0 (33 + i) ≤ 1 := fun i hi => hv6 i hi
  have htk : ∀ k, k < Mt 0 62 → Mt 0 (44 + k) ≤ 23 ∧ Mt 0 (50 + k) < Mt 20 0 ∧ 1 ≤ Mt 0 (56 + k) ∧ Mt 0 (56 + k) ≤ 60 := fun k hk => hv7 k hk
  obtain ⟨H, hH⟩ : ∃ H, H = zs.heap := ⟨_, rfl⟩
  rw [← hH] at X ⊢
  obtain ⟨locs, hlo⟩ : ∃ L : List Loc, L = [] := ⟨_, rfl⟩
  rw [← hlo] at X ⊢
  refine lv_iload_n hx hb dX7_shift_0 rfl (lv_at hl 2 rfl) ?_
  refine lv_if_ne (tgt := 16) hx hb dX7_shift_1 rfl (fun c1 => ?_) (fun c2 => ?_)
  · have hz3 : ¬ y = nI 0 := c1
    refine lv_iload_n hx hb dX7_shift_16 rfl (lv_at hl 2 rfl) ?_
    refine g_iconst (n := 1) C0 rfl dX7_shift_17 ?_
    refine lv_icmp_ne (tgt := 29) hx hb dX7_shift_18 rfl (fun c4 => ?_) (fun c5 => ?_)
    · have hz6 : ¬ y = nI 1 := c4
      refine lv_iload_n hx hb dX7_shift_29 rfl (lv_at hl 2 rfl) ?_
      refine g_iconst (n := 2) C0 rfl dX7_shift_30 ?_
      refine lv_icmp_ne (tgt := 45) hx hb dX7_shift_31 rfl (fun c7 => ?_) (fun c8 => ?_)
      · have hz9 : ¬ y = nI 2 := c7
        refine g_iconst (n := 0) C0 rfl dX7_shift_45 ?_
        refine lv_istore (lv' := [(4, .int (nI 0)), (0, .ref (h 0)), (1, .int x), (2, .int y), (3, .int z)]) hx hb dX7_shift_46 hl (by decide) rfl (fun ls hl => ?_)
        refine lv_aload_n hx hb dX7_shift_48 rfl (lv_at hl 1 rfl) ?_
        refine lv_aload_n hx hb dX7_shift_49 rfl (lv_at hl 1 rfl) ?_
        refine lv_iload_n hx hb dX7_shift_50 rfl (lv_at hl 2 rfl) ?_
        refine g_callV (As := [.int x]) (rest := [.ref (h 0)]) (wr := []) (C0.sz hl) X (c_X7_isTalk l D tk h Mt hi la ce x (by first | assumption | omega)) ⟨tb997, tb1000, tb8, ⟨by decide, by decide, rfl⟩, rfl, rfl, Nat.le_of_ble_eq_true rfl, Nat.le_of_ble_eq_true rfl⟩ tb999 tbs39 0 7 rfl rfl rfl rfl [0, 1, 2, 3, 4, 5, 6, 7, 8, 9, 10, 11, 12, 13] [] rfl rfl rfl rfl rfl (Nat.le_of_ble_eq_true rfl) ⟨Nat.le_of_ble_eq_true rfl, Nat.le_of_ble_eq_true rfl⟩ dX7_shift_51 (fun _ H locs _ X => ?_)
        have X : Hx D zA zs H locs (mW tk h Mt hi la ce) := X
        refine g_ifeqB (x := ix x (Mt 0 62)) (tgt := 66) C0 dX7_shift_54 rfl (fun c10 => ?_) (fun c11 => ?_)
        · refine g_iconst (n := 0) C0 rfl dX7_shift_66 ?_
          refine g_bipush (n := 44) C0 (by decide) dX7_shift_67 ?_
          refine g_bipush (n := 6) C0 (by decide) dX7_shift_69 ?_
          refine lv_iload_n hx hb dX7_shift_71 rfl (lv_at hl 3 rfl) ?_
          refine lv_imul hx hb dX7_shift_72 ?_
          refine lv_iadd hx hb dX7_shift_73 ?_
          refine lv_iload_n hx hb dX7_shift_74 rfl (lv_at hl 2 rfl) ?_
          refine lv_iadd hx hb dX7_shift_75 ?_
          refine lv_iload_n hx hb dX7_shift_76 rfl (lv_at hl 4 rfl) ?_
          refine g_callV (As := [.int (nI 0), .int (((nI 44) + ((nI 6) * y)) + x), .int z]) (rest := []) (wr := []) (C0.sz hl) X (c_putsF l D tk h Mt hi la ce 0 (((nI 44) + ((nI 6) * y)) + x) z (by first | assumption | omega)) ⟨tb1017, tb1020, tb8, ⟨by decide, by decide, rfl⟩, rfl, rfl, Nat.le_of_ble_eq_true rfl, Nat.le_of_ble_eq_true rfl⟩ tb1019 tbs40 0 7 rfl rfl rfl rfl [0, 1, 2, 3, 4, 5, 6, 7, 8, 9, 10, 11, 12, 13] [] rfl rfl rfl rfl rfl (Nat.le_of_ble_eq_true rfl) ⟨Nat.le_of_ble_eq_true rfl, Nat.le_of_ble_eq_true rfl⟩ dX7_shift_77 (fun _ H locs _ X => ?_)
          have X : Hx D zA zs H locs (mW tk h Mt hi la ce) := X
          exact hE (v := (-1)) () (by simp only [a_shift, c1, hz3, c4, hz6, c7, hz9, c10, pv80, pv81, pv82, pv83, pv0, pv1, pv2, pv3, pv4, pv5, pv6, pv7, eq_self, ne01, ne02, ne03, ne04, ne05, ne10, ne12, ne13, ne14, ne15, ne20, ne21, ne23, ne24, ne25, ne30, ne31, ne32, ne34, ne35, ne40, ne41, ne42, ne43, ne45, ne50, ne51, ne52, ne53, ne54, if_true, if_false, Bool.false_eq_true, Bool.and_self, Bool.and_true, Bool.and_false, Bool.true_and, Bool.false_and, Bool.not_true, Bool.not_false, decide_true, decide_false] <;> rfl) trivial (X.to (by simp only [shiftM, c1, hz3, c4, hz6, c7, hz9, c10, pv80, pv81, pv82, pv83, pv0, pv1, pv2, pv3, pv4, pv5, pv6, pv7, eq_self, ne01, ne02, ne03, ne04, ne05, ne10, ne12, ne13, ne14, ne15, ne20, ne21, ne23, ne24, ne25, ne30, ne31, ne32, ne34, ne35, ne40, ne41, ne42, ne43, ne45, ne50, ne51, ne52, ne53, ne54, if_true, if_false, Bool.false_eq_true, Bool.and_self, Bool.and_true, Bool.and_false, Bool.true_and, Bool.false_and, Bool.not_true, Bool.not_false, decide_true, decide_false] <;> rfl)) dX7_shift_80
        · obtain ⟨xq, hk_xq, rfl⟩ := ix_sp c11
          refine lv_iload hx hb dX7_shift_57 (lv_at hl 0 rfl) ?_
          refine g_ifeq (x := 0) (tgt := 66) C0 (by decide) dX7_shift_59 rfl (fun _ => ?_) (fun q => absurd q (by decide))
          refine g_iconst (n := 0) C0 rfl dX7_shift_66 ?_
          refine g_bipush (n := 44) C0 (by decide) dX7_shift_67 ?_
          refine g_bipush (n := 6) C0 (by decide) dX7_shift_69 ?_
          refine lv_iload_n hx hb dX7_shift_71 rfl (lv_at hl 3 rfl) ?_
          refine lv_imul hx hb dX7_shift_72 ?_
          refine lv_iadd hx hb dX7_shift_73 ?_
          refine lv_iload_n hx hb dX7_shift_74 rfl (lv_at hl 2 rfl) ?_
          refine lv_iadd hx hb dX7_shift_75 ?_
          refine lv_iload_n hx hb dX7_shift_76 rfl (lv_at hl 4 rfl) ?_
          refine g_callV (As := [.int (nI 0), .int (((nI 44) + ((nI 6) * y)) + (nI xq)), .int z]) (rest := []) (wr := []) (C0.sz hl) X (c_putsF l D tk h Mt hi la ce 0 (((nI 44) + ((nI 6) * y)) + (nI xq)) z (by first | assumption | omega)) ⟨tb1017, tb1020, tb8, ⟨by decide, by decide, rfl⟩, rfl, rfl, Nat.le_of_ble_eq_true rfl, Nat.le_of_ble_eq_true rfl⟩ tb1019 tbs40 0 7 rfl rfl rfl rfl [0, 1, 2, 3, 4, 5, 6, 7, 8, 9, 10, 11, 12, 13] [] rfl rfl rfl rfl rfl (Nat.le_of_ble_eq_true rfl) ⟨Nat.le_of_ble_eq_true rfl, Nat.le_of_ble_eq_true rfl⟩ dX7_shift_77 (fun _ H locs _ X => ?_)
          have X : Hx D zA zs H locs (mW tk h Mt hi la ce) := X
          exact hE (v := (-1)) () (by simp only [a_shift, c1, hz3, c4, hz6, c7, hz9, c11, tn_nI (k := xq) (by omega), pv80, pv81, pv82, pv83, pv0, pv1, pv2, pv3, pv4, pv5, pv6, pv7, eq_self, ne01, ne02, ne03, ne04, ne05, ne10, ne12, ne13, ne14, ne15, ne20, ne21, ne23, ne24, ne25, ne30, ne31, ne32, ne34, ne35, ne40, ne41, ne42, ne43, ne45, ne50, ne51, ne52, ne53, ne54, if_true, if_false, Bool.false_eq_true, Bool.and_self, Bool.and_true, Bool.and_false, Bool.true_and, Bool.false_and, Bool.not_true, Bool.not_false, decide_true, decide_false] <;> rfl) trivial (X.to (by simp only [shiftM, c1, hz3, c4, hz6, c7, hz9, c11, tn_nI (k := xq) (by omega), pv80, pv81, pv82, pv83, pv0, pv1, pv2, pv3, pv4, pv5, pv6, pv7, eq_self, ne01, ne02, ne03, ne04, ne05, ne10, ne12, ne13, ne14, ne15, ne20, ne21, ne23, ne24, ne25, ne30, ne31, ne32, ne34, ne35, ne40, ne41, ne42, ne43, ne45, ne50, ne51, ne52, ne53, ne54, if_true, if_false, Bool.false_eq_true, Bool.and_self, Bool.and_true, Bool.and_false, Bool.true_and, Bool.false_and, Bool.not_true, Bool.not_false, decide_true, decide_false] <;> rfl)) dX7_shift_80
      · obtain rfl : y = nI 2 := c8
        refine lv_iload_n hx hb dX7_shift_34 rfl (lv_at hl 3 rfl) ?_
        refine g_callS (As := [.int z]) (rest := []) (wr := (mW tk h Mt hi la ce)) (C0.sz hl) X (c_X7_isBreath l D tk z) ⟨tb1009, tb1011, tb8, ⟨by decide, by decide, rfl⟩, rfl, rfl, Nat.le_of_ble_eq_true rfl, Nat.le_of_ble_eq_true rfl⟩ tb1010 rfl [] [0, 1, 2, 3, 4, 5, 6, 7, 8, 9, 10, 11, 12, 13] rfl rfl rfl rfl rfl (Nat.le_of_ble_eq_true rfl) ⟨Nat.le_of_ble_eq_true rfl, Nat.le_of_ble_eq_true rfl⟩ dX7_shift_35 (fun _ H locs _ X => ?_)
        have X : Hx D zA zs H locs (mW tk h Mt hi la ce) := X
        refine g_ifeqB (x := rg z 1 60) (tgt := 45) C0 dX7_shift_38 rfl (fun c14 => ?_) (fun c15 => ?_)
        · refine g_iconst (n := 0) C0 rfl dX7_shift_45 ?_
          refine lv_istore (lv' := [(4, .int (nI 0)), (0, .ref (h 0)), (1, .int x), (2, .int (nI 2)), (3, .int z)]) hx hb dX7_shift_46 hl (by decide) rfl (fun ls hl => ?_)
          refine lv_aload_n hx hb dX7_shift_48 rfl (lv_at hl 1 rfl) ?_
          refine lv_aload_n hx hb dX7_shift_49 rfl (lv_at hl 1 rfl) ?_
          refine lv_iload_n hx hb dX7_shift_50 rfl (lv_at hl 2 rfl) ?_
          refine g_callV (As := [.int x]) (rest := [.ref (h 0)]) (wr := []) (C0.sz hl) X (c_X7_isTalk l D tk h Mt hi la ce x (by first | assumption | omega)) ⟨tb997, tb1000, tb8, ⟨by decide, by decide, rfl⟩, rfl, rfl, Nat.le_of_ble_eq_true rfl, Nat.le_of_ble_eq_true rfl⟩ tb999 tbs39 0 7 rfl rfl rfl rfl [0, 1, 2, 3, 4, 5, 6, 7, 8, 9, 10, 11, 12, 13] [] rfl rfl rfl rfl rfl (Nat.le_of_ble_eq_true rfl) ⟨Nat.le_of_ble_eq_true rfl, Nat.le_of_ble_eq_true rfl⟩ dX7_shift_51 (fun _ H locs _ X => ?_)
          have X : Hx D zA zs H locs (mW tk h Mt hi la ce) := X
          refine g_ifeqB (x := ix x (Mt 0 62)) (tgt := 66) C0 dX7_shift_54 rfl (fun c16 => ?_) (fun c17 => ?_)
          · refine g_iconst (n := 0) C0 rfl dX7_shift_66 ?_
            refine g_bipush (n := 44) C0 (by decide) dX7_shift_67 ?_
            refine g_bipush (n := 6) C0 (by decide) dX7_shift_69 ?_
            refine lv_iload_n hx hb dX7_shift_71 rfl (lv_at hl 3 rfl) ?_
            refine g_imul (n := 6 * 2) C0 rfl dX7_shift_72 ?_
            refine g_iadd (n := 44 + (6 * 2)) C0 (by first | rfl | omega) dX7_shift_73 ?_
            refine lv_iload_n hx hb dX7_shift_74 rfl (lv_at hl 2 rfl) ?_
            refine lv_iadd hx hb dX7_shift_75 ?_
            refine lv_iload_n hx hb dX7_shift_76 rfl (lv_at hl 4 rfl) ?_
            refine g_callV (As := [.int (nI 0), .int ((nI (44 + (6 * 2))) + x), .int z]) (rest := []) (wr := []) (C0.sz hl) X (c_putsF l D tk h Mt hi la ce 0 ((nI (44 + (6 * 2))) + x) z (by first | assumption | omega)) ⟨tb1017, tb1020, tb8, ⟨by decide, by decide, rfl⟩, rfl, rfl, Nat.le_of_ble_eq_true rfl, Nat.le_of_ble_eq_true rfl⟩ tb1019 tbs40 0 7 rfl rfl rfl rfl [0, 1, 2, 3, 4, 5, 6, 7, 8, 9, 10, 11, 12, 13] [] rfl rfl rfl rfl rfl (Nat.le_of_ble_eq_true rfl) ⟨Nat.le_of_ble_eq_true rfl, Nat.le_of_ble_eq_true rfl⟩ dX7_shift_77 (fun _ H locs _ X => ?_)
            have X : Hx D zA zs H locs (mW tk h Mt hi la ce) := X
            exact hE (v := (-1)) () (by simp only [a_shift, c1, hz3, c4, hz6, c14, c16, pv80, pv81, pv82, pv83, pv0, pv1, pv2, pv3, pv4, pv5, pv6, pv7, eq_self, ne01, ne02, ne03, ne04, ne05, ne10, ne12, ne13, ne14, ne15, ne20, ne21, ne23, ne24, ne25, ne30, ne31, ne32, ne34, ne35, ne40, ne41, ne42, ne43, ne45, ne50, ne51, ne52, ne53, ne54, if_true, if_false, Bool.false_eq_true, Bool.and_self, Bool.and_true, Bool.and_false, Bool.true_and, Bool.false_and, Bool.not_true, Bool.not_false, decide_true, decide_false] <;> rfl) trivial (X.to (by simp only [shiftM, c1, hz3, c4, hz6, c14, c16, pv80, pv81, pv82, pv83, pv0, pv1, pv2, pv3, pv4, pv5, pv6, pv7, eq_self, ne01, ne02, ne03, ne04, ne05, ne10, ne12, ne13, ne14, ne15, ne20, ne21, ne23, ne24, ne25, ne30, ne31, ne32, ne34, ne35, ne40, ne41, ne42, ne43, ne45, ne50, ne51, ne52, ne53, ne54, if_true, if_false, Bool.false_eq_true, Bool.and_self, Bool.and_true, Bool.and_false, Bool.true_and, Bool.false_and, Bool.not_true, Bool.not_false, decide_true, decide_false] <;> rfl)) dX7_shift_80
          · obtain ⟨xq, hk_xq, rfl⟩ := ix_sp c17
            refine lv_iload hx hb dX7_shift_57 (lv_at hl 0 rfl) ?_
            refine g_ifeq (x := 0) (tgt := 66) C0 (by decide) dX7_shift_59 rfl (fun _ => ?_) (fun q => absurd q (by decide))
            refine g_iconst (n := 0) C0 rfl dX7_shift_66 ?_
            refine g_bipush (n := 44) C0 (by decide) dX7_shift_67 ?_
            refine g_bipush (n := 6) C0 (by decide) dX7_shift_69 ?_
            refine lv_iload_n hx hb dX7_shift_71 rfl (lv_at hl 3 rfl) ?_
            refine g_imul (n := 6 * 2) C0 rfl dX7_shift_72 ?_
            refine g_iadd (n := 44 + (6 * 2)) C0 (by first | rfl | omega) dX7_shift_73 ?_
            refine lv_iload_n hx hb dX7_shift_74 rfl (lv_at hl 2 rfl) ?_
            refine g_iadd (n := (44 + (6 * 2)) + xq) C0 (by first | rfl | omega) dX7_shift_75 ?_
            refine lv_iload_n hx hb dX7_shift_76 rfl (lv_at hl 4 rfl) ?_
            refine g_callV (As := [.int (nI 0), .int (nI ((44 + (6 * 2)) + xq)), .int z]) (rest := []) (wr := []) (C0.sz hl) X (c_putsF l D tk h Mt hi la ce 0 (nI ((44 + (6 * 2)) + xq)) z (by first | assumption | omega)) ⟨tb1017, tb1020, tb8, ⟨by decide, by decide, rfl⟩, rfl, rfl, Nat.le_of_ble_eq_true rfl, Nat.le_of_ble_eq_true rfl⟩ tb1019 tbs40 0 7 rfl rfl rfl rfl [0, 1, 2, 3, 4, 5, 6, 7, 8, 9, 10, 11, 12, 13] [] rfl rfl rfl rfl rfl (Nat.le_of_ble_eq_true rfl) ⟨Nat.le_of_ble_eq_true rfl, Nat.le_of_ble_eq_true rfl⟩ dX7_shift_77 (fun _ H locs _ X => ?_)
            have X : Hx D zA zs H locs (mW tk h Mt hi la ce) := X
            exact hE (v := (-1)) () (by simp only [a_shift, c1, hz3, c4, hz6, c14, c17, tn_nI (k := xq) (by omega), pv80, pv81, pv82, pv83, pv0, pv1, pv2, pv3, pv4, pv5, pv6, pv7, eq_self, ne01, ne02, ne03, ne04, ne05, ne10, ne12, ne13, ne14, ne15, ne20, ne21, ne23, ne24, ne25, ne30, ne31, ne32, ne34, ne35, ne40, ne41, ne42, ne43, ne45, ne50, ne51, ne52, ne53, ne54, if_true, if_false, Bool.false_eq_true, Bool.and_self, Bool.and_true, Bool.and_false, Bool.true_and, Bool.false_and, Bool.not_true, Bool.not_false, decide_true, decide_false] <;> rfl) trivial (X.to (by simp only [shiftM, c1, hz3, c4, hz6, c14, c17, tn_nI (k := xq) (by omega), pv80, pv81, pv82, pv83, pv0, pv1, pv2, pv3, pv4, pv5, pv6, pv7, eq_self, ne01, ne02, ne03, ne04, ne05, ne10, ne12, ne13, ne14, ne15, ne20, ne21, ne23, ne24, ne25, ne30, ne31, ne32, ne34, ne35, ne40, ne41, ne42, ne43, ne45, ne50, ne51, ne52, ne53, ne54, if_true, if_false, Bool.false_eq_true, Bool.and_self, Bool.and_true, Bool.and_false, Bool.true_and, Bool.false_and, Bool.not_true, Bool.not_false, decide_true, decide_false] <;> rfl)) dX7_shift_80
        · obtain ⟨zq, hk_zqa, hk_zqb, hk_zqc, rfl⟩ := rg_sp c15
          refine g_iconst (n := 1) C0 rfl dX7_shift_41 ?_
          refine lv_goto (tgt := 46) hx hb dX7_shift_42 (by decide) ?_
          refine lv_istore (lv' := [(4, .int (nI 1)), (0, .ref (h 0)), (1, .int x), (2, .int (nI 2)), (3, .int (nI zq))]) hx hb dX7_shift_46 hl (by decide) rfl (fun ls hl => ?_)
          refine lv_aload_n hx hb dX7_shift_48 rfl (lv_at hl 1 rfl) ?_
          refine lv_aload_n hx hb dX7_shift_49 rfl (lv_at hl 1 rfl) ?_
          refine lv_iload_n hx hb dX7_shift_50 rfl (lv_at hl 2 rfl) ?_
          refine g_callV (As := [.int x]) (rest := [.ref (h 0)]) (wr := []) (C0.sz hl) X (c_X7_isTalk l D tk h Mt hi la ce x (by first | assumption | omega)) ⟨tb997, tb1000, tb8, ⟨by decide, by decide, rfl⟩, rfl, rfl, Nat.le_of_ble_eq_true rfl, Nat.le_of_ble_eq_true rfl⟩ tb999 tbs39 0 7 rfl rfl rfl rfl [0, 1, 2, 3, 4, 5, 6, 7, 8, 9, 10, 11, 12, 13] [] rfl rfl rfl rfl rfl (Nat.le_of_ble_eq_true rfl) ⟨Nat.le_of_ble_eq_true rfl, Nat.le_of_ble_eq_true rfl⟩ dX7_shift_51 (fun _ H locs _ X => ?_)
          have X : Hx D zA zs H locs (mW tk h Mt hi la ce) := X
          refine g_ifeqB (x := ix x (Mt 0 62)) (tgt := 66) C0 dX7_shift_54 rfl (fun c20 => ?_) (fun c21 => ?_)
          · refine g_iconst (n := 0) C0 rfl dX7_shift_66 ?_
            refine g_bipush (n := 44) C0 (by decide) dX7_shift_67 ?_
            refine g_bipush (n := 6) C0 (by decide) dX7_shift_69 ?_
            refine lv_iload_n hx hb dX7_shift_71 rfl (lv_at hl 3 rfl) ?_
            refine g_imul (n := 6 * 2) C0 rfl dX7_shift_72 ?_
            refine g_iadd (n := 44 + (6 * 2)) C0 (by first | rfl | omega) dX7_shift_73 ?_
            refine lv_iload_n hx hb dX7_shift_74 rfl (lv_at hl 2 rfl) ?_
            refine lv_iadd hx hb dX7_shift_75 ?_
            refine lv_iload_n hx hb dX7_shift_76 rfl (lv_at hl 4 rfl) ?_
            refine g_callV (As := [.int (nI 0), .int ((nI (44 + (6 * 2))) + x), .int (nI zq)]) (rest := []) (wr := []) (C0.sz hl) X (c_putsF l D tk h Mt hi la ce 0 ((nI (44 + (6 * 2))) + x) (nI zq) (by first | assumption | omega)) ⟨tb1017, tb1020, tb8, ⟨by decide, by decide, rfl⟩, rfl, rfl, Nat.le_of_ble_eq_true rfl, Nat.le_of_ble_eq_true rfl⟩ tb1019 tbs40 0 7 rfl rfl rfl rfl [0, 1, 2, 3, 4, 5, 6, 7, 8, 9, 10, 11, 12, 13] [] rfl rfl rfl rfl rfl (Nat.le_of_ble_eq_true rfl) ⟨Nat.le_of_ble_eq_true rfl, Nat.le_of_ble_eq_true rfl⟩ dX7_shift_77 (fun _ H locs _ X => ?_)
            have X : Hx D zA zs H locs (mW tk h Mt hi la ce) := X
            exact hE (v := (-1)) () (by simp only [a_shift, c1, hz3, c4, hz6, c15, c20, tn_nI (k := zq) (by omega), pv80, pv81, pv82, pv83, pv0, pv1, pv2, pv3, pv4, pv5, pv6, pv7, eq_self, ne01, ne02, ne03, ne04, ne05, ne10, ne12, ne13, ne14, ne15, ne20, ne21, ne23, ne24, ne25, ne30, ne31, ne32, ne34, ne35, ne40, ne41, ne42, ne43, ne45, ne50, ne51, ne52, ne53, ne54, if_true, if_false, Bool.false_eq_true, Bool.and_self, Bool.and_true, Bool.and_false, Bool.true_and, Bool.false_and, Bool.not_true, Bool.not_false, decide_true, decide_false] <;> rfl) trivial (X.to (by simp only [shiftM, c1, hz3, c4, hz6, c15, c20, tn_nI (k := zq) (by omega), pv80, pv81, pv82, pv83, pv0, pv1, pv2, pv3, pv4, pv5, pv6, pv7, eq_self, ne01, ne02, ne03, ne04, ne05, ne10, ne12, ne13, ne14, ne15, ne20, ne21, ne23, ne24, ne25, ne30, ne31, ne32, ne34, ne35, ne40, ne41, ne42, ne43, ne45, ne50, ne51, ne52, ne53, ne54, if_true, if_false, Bool.false_eq_true, Bool.and_self, Bool.and_true, Bool.and_false, Bool.true_and, Bool.false_and, Bool.not_true, Bool.not_false, decide_true, decide_false] <;> rfl)) dX7_shift_80
          · obtain ⟨xq, hk_xq, rfl⟩ := ix_sp c21
            refine lv_iload hx hb dX7_shift_57 (lv_at hl 0 rfl) ?_
            refine g_ifeq (x := 1) (tgt := 66) C0 (by decide) dX7_shift_59 rfl (fun q => absurd q (by decide)) (fun _ => ?_)
            refine g_iconst (n := 1) C0 rfl dX7_shift_62 ?_
            refine lv_goto (tgt := 67) hx hb dX7_shift_63 (by decide) ?_
            refine g_bipush (n := 44) C0 (by decide) dX7_shift_67 ?_
            refine g_bipush (n := 6) C0 (by decide) dX7_shift_69 ?_
            refine lv_iload_n hx hb dX7_shift_71 rfl (lv_at hl 3 rfl) ?_
            refine g_imul (n := 6 * 2) C0 rfl dX7_shift_72 ?_
            refine g_iadd (n := 44 + (6 * 2)) C0 (by first | rfl | omega) dX7_shift_73 ?_
            refine lv_iload_n hx hb dX7_shift_74 rfl (lv_at hl 2 rfl) ?_
            refine g_iadd (n := (44 + (6 * 2)) + xq) C0 (by first | rfl | omega) dX7_shift_75 ?_
            refine lv_iload_n hx hb dX7_shift_76 rfl (lv_at hl 4 rfl) ?_
            refine g_callV (As := [.int (nI 1), .int (nI ((44 + (6 * 2)) + xq)), .int (nI zq)]) (rest := []) (wr := []) (C0.sz hl) X (c_putsT l D tk h Mt hi la ce 1 ((44 + (6 * 2)) + xq) zq (by first | assumption | omega) (by first | assumption | omega)) ⟨tb1017, tb1020, tb8, ⟨by decide, by decide, rfl⟩, rfl, rfl, Nat.le_of_ble_eq_true rfl, Nat.le_of_ble_eq_true rfl⟩ tb1019 tbs40 0 7 rfl rfl rfl rfl [0, 1, 2, 3, 4, 5, 6, 7, 8, 9, 10, 11, 12, 13] [] rfl rfl rfl rfl rfl (Nat.le_of_ble_eq_true rfl) ⟨Nat.le_of_ble_eq_true rfl, Nat.le_of_ble_eq_true rfl⟩ dX7_shift_77 (fun _ H locs _ X => ?_)
            have X : Hx D zA zs H locs (mW tk h (u2 Mt 0 ((44 + (6 * 2)) + xq) zq) hi la ce) := X
            exact hE (v := nI (Mt 0 ((44 + (6 * 2)) + xq))) () (by simp only [a_shift, c1, hz3, c4, hz6, c15, c21, tn_nI (k := zq) (by omega), tn_nI (k := xq) (by omega), pv80, pv81, pv82, pv83, pv0, pv1, pv2, pv3, pv4, pv5, pv6, pv7, eq_self, ne01, ne02, ne03, ne04, ne05, ne10, ne12, ne13, ne14, ne15, ne20, ne21, ne23, ne24, ne25, ne30, ne31, ne32, ne34, ne35, ne40, ne41, ne42, ne43, ne45, ne50, ne51, ne52, ne53, ne54, if_true, if_false, Bool.false_eq_true, Bool.and_self, Bool.and_true, Bool.and_false, Bool.true_and, Bool.false_and, Bool.not_true, Bool.not_false, decide_true, decide_false] <;> rfl) trivial (X.to (by simp only [shiftM, c1, hz3, c4, hz6, c15, c21, tn_nI (k := zq) (by omega), tn_nI (k := xq) (by omega), pv80, pv81, pv82, pv83, pv0, pv1, pv2, pv3, pv4, pv5, pv6, pv7, eq_self, ne01, ne02, ne03, ne04, ne05, ne10, ne12, ne13, ne14, ne15, ne20, ne21, ne23, ne24, ne25, ne30, ne31, ne32, ne34, ne35, ne40, ne41, ne42, ne43, ne45, ne50, ne51, ne52, ne53, ne54, if_true, if_false, Bool.false_eq_true, Bool.and_self, Bool.and_true, Bool.and_false, Bool.true_and, Bool.false_and, Bool.not_true, Bool.not_false, decide_true, decide_false] <;> rfl)) dX7_shift_80
    · obtain rfl : y = nI 1 := c5
      refine lv_aload_n hx hb dX7_shift_21 rfl (lv_at hl 0 rfl) ?_
      refine lv_iload_n hx hb dX7_shift_22 rfl (lv_at hl 3 rfl) ?_
      refine g_callV (As := [.int z]) (rest := []) (wr := []) (C0.sz hl) X (c_X7_isTree l D tk h Mt hi la ce z (by first | assumption | omega)) ⟨tb980, tb983, tb8, ⟨by decide, by decide, rfl⟩, rfl, rfl, Nat.le_of_ble_eq_true rfl, Nat.le_of_ble_eq_true rfl⟩ tb982 tbs37 0 7 rfl rfl rfl rfl [0, 1, 2, 3, 4, 5, 6, 7, 8, 9, 10, 11, 12, 13] [] rfl rfl rfl rfl rfl (Nat.le_of_ble_eq_true rfl) ⟨Nat.le_of_ble_eq_true rfl, Nat.le_of_ble_eq_true rfl⟩ dX7_shift_23 (fun _ H locs _ X => ?_)
      have X : Hx D zA zs H locs (mW tk h Mt hi la ce) := X
      refine lv_goto (tgt := 46) hx hb dX7_shift_26 (by decide) ?_
      refine lv_istore (lv' := [(4, .int (nI (rb (ix z (Mt 20 0))))), (0, .ref (h 0)), (1, .int x), (2, .int (nI 1)), (3, .int z)]) hx hb dX7_shift_46 hl (by decide) rfl (fun ls hl => ?_)
      refine lv_aload_n hx hb dX7_shift_48 rfl (lv_at hl 1 rfl) ?_
      refine lv_aload_n hx hb dX7_shift_49 rfl (lv_at hl 1 rfl) ?_
      refine lv_iload_n hx hb dX7_shift_50 rfl (lv_at hl 2 rfl) ?_
      refine g_callV (As := [.int x]) (rest := [.ref (h 0)]) (wr := []) (C0.sz hl) X (c_X7_isTalk l D tk h Mt hi la ce x (by first | assumption | omega)) ⟨tb997, tb1000, tb8, ⟨by decide, by decide, rfl⟩, rfl, rfl, Nat.le_of_ble_eq_true rfl, Nat.le_of_ble_eq_true rfl⟩ tb999 tbs39 0 7 rfl rfl rfl rfl [0, 1, 2, 3, 4, 5, 6, 7, 8, 9, 10, 11, 12, 13] [] rfl rfl rfl rfl rfl (Nat.le_of_ble_eq_true rfl) ⟨Nat.le_of_ble_eq_true rfl, Nat.le_of_ble_eq_true rfl⟩ dX7_shift_51 (fun _ H locs _ X => ?_)
      have X : Hx D zA zs H locs (mW tk h Mt hi la ce) := X
      refine g_ifeqB (x := ix x (Mt 0 62)) (tgt := 66) C0 dX7_shift_54 rfl (fun c24 => ?_) (fun c25 => ?_)
      · refine g_iconst (n := 0) C0 rfl dX7_shift_66 ?_
        refine g_bipush (n := 44) C0 (by decide) dX7_shift_67 ?_
        refine g_bipush (n := 6) C0 (by decide) dX7_shift_69 ?_
        refine lv_iload_n hx hb dX7_shift_71 rfl (lv_at hl 3 rfl) ?_
        refine g_imul (n := 6 * 1) C0 rfl dX7_shift_72 ?_
        refine g_iadd (n := 44 + (6 * 1)) C0 (by first | rfl | omega) dX7_shift_73 ?_
        refine lv_iload_n hx hb dX7_shift_74 rfl (lv_at hl 2 rfl) ?_
        refine lv_iadd hx hb dX7_shift_75 ?_
        refine lv_iload_n hx hb dX7_shift_76 rfl (lv_at hl 4 rfl) ?_
        refine g_callV (As := [.int (nI 0), .int ((nI (44 + (6 * 1))) + x), .int z]) (rest := []) (wr := []) (C0.sz hl) X (c_putsF l D tk h Mt hi la ce 0 ((nI (44 + (6 * 1))) + x) z (by first | assumption | omega)) ⟨tb1017, tb1020, tb8, ⟨by decide, by decide, rfl⟩, rfl, rfl, Nat.le_of_ble_eq_true rfl, Nat.le_of_ble_eq_true rfl⟩ tb1019 tbs40 0 7 rfl rfl rfl rfl [0, 1, 2, 3, 4, 5, 6, 7, 8, 9, 10, 11, 12, 13] [] rfl rfl rfl rfl rfl (Nat.le_of_ble_eq_true rfl) ⟨Nat.le_of_ble_eq_true rfl, Nat.le_of_ble_eq_true rfl⟩ dX7_shift_77 (fun _ H locs _ X => ?_)
        have X : Hx D zA zs H locs (mW tk h Mt hi la ce) := X
        exact hE (v := (-1)) () (by simp only [a_shift, c1, hz3, c24, pv80, pv81, pv82, pv83, pv0, pv1, pv2, pv3, pv4, pv5, pv6, pv7, eq_self, ne01, ne02, ne03, ne04, ne05, ne10, ne12, ne13, ne14, ne15, ne20, ne21, ne23, ne24, ne25, ne30, ne31, ne32, ne34, ne35, ne40, ne41, ne42, ne43, ne45, ne50, ne51, ne52, ne53, ne54, if_true, if_false, Bool.false_eq_true, Bool.and_self, Bool.and_true, Bool.and_false, Bool.true_and, Bool.false_and, Bool.not_true, Bool.not_false, decide_true, decide_false] <;> rfl) trivial (X.to (by simp only [shiftM, c1, hz3, c24, pv80, pv81, pv82, pv83, pv0, pv1, pv2, pv3, pv4, pv5, pv6, pv7, eq_self, ne01, ne02, ne03, ne04, ne05, ne10, ne12, ne13, ne14, ne15, ne20, ne21, ne23, ne24, ne25, ne30, ne31, ne32, ne34, ne35, ne40, ne41, ne42, ne43, ne45, ne50, ne51, ne52, ne53, ne54, if_true, if_false, Bool.false_eq_true, Bool.and_self, Bool.and_true, Bool.and_false, Bool.true_and, Bool.false_and, Bool.not_true, Bool.not_false, decide_true, decide_false] <;> rfl)) dX7_shift_80
      · obtain ⟨xq, hk_xq, rfl⟩ := ix_sp c25
        refine lv_iload hx hb dX7_shift_57 (lv_at hl 0 rfl) ?_
        refine g_ifeqB (x := ix z (Mt 20 0)) (tgt := 66) C0 dX7_shift_59 rfl (fun c26 => ?_) (fun c27 => ?_)
        · refine g_iconst (n := 0) C0 rfl dX7_shift_66 ?_
          refine g_bipush (n := 44) C0 (by decide) dX7_shift_67 ?_
          refine g_bipush (n := 6) C0 (by decide) dX7_shift_69 ?_
          refine lv_iload_n hx hb dX7_shift_71 rfl (lv_at hl 3 rfl) ?_
          refine g_imul (n := 6 * 1) C0 rfl dX7_shift_72 ?_
          refine g_iadd (n := 44 + (6 * 1)) C0 (by first | rfl | omega) dX7_shift_73 ?_
          refine lv_iload_n hx hb dX7_shift_74 rfl (lv_at hl 2 rfl) ?_
          refine g_iadd (n := (44 + (6 * 1)) + xq) C0 (by first | rfl | omega) dX7_shift_75 ?_
          refine lv_iload_n hx hb dX7_shift_76 rfl (lv_at hl 4 rfl) ?_
          refine g_callV (As := [.int (nI 0), .int (nI ((44 + (6 * 1)) + xq)), .int z]) (rest := []) (wr := []) (C0.sz hl) X (c_putsF l D tk h Mt hi la ce 0 (nI ((44 + (6 * 1)) + xq)) z (by first | assumption | omega)) ⟨tb1017, tb1020, tb8, ⟨by decide, by decide, rfl⟩, rfl, rfl, Nat.le_of_ble_eq_true rfl, Nat.le_of_ble_eq_true rfl⟩ tb1019 tbs40 0 7 rfl rfl rfl rfl [0, 1, 2, 3, 4, 5, 6, 7, 8, 9, 10, 11, 12, 13] [] rfl rfl rfl rfl rfl (Nat.le_of_ble_eq_true rfl) ⟨Nat.le_of_ble_eq_true rfl, Nat.le_of_ble_eq_true rfl⟩ dX7_shift_77 (fun _ H locs _ X => ?_)
          have X : Hx D zA zs H locs (mW tk h Mt hi la ce) := X
          exact hE (v := (-1)) () (by simp only [a_shift, c1, hz3, c25, c26, tn_nI (k := xq) (by omega), pv80, pv81, pv82, pv83, pv0, pv1, pv2, pv3, pv4, pv5, pv6, pv7, eq_self, ne01, ne02, ne03, ne04, ne05, ne10, ne12, ne13, ne14, ne15, ne20, ne21, ne23, ne24, ne25, ne30, ne31, ne32, ne34, ne35, ne40, ne41, ne42, ne43, ne45, ne50, ne51, ne52, ne53, ne54, if_true, if_false, Bool.false_eq_true, Bool.and_self, Bool.and_true, Bool.and_false, Bool.true_and, Bool.false_and, Bool.not_true, Bool.not_false, decide_true, decide_false] <;> rfl) trivial (X.to (by simp only [shiftM, c1, hz3, c25, c26, tn_nI (k := xq) (by omega), pv80, pv81, pv82, pv83, pv0, pv1, pv2, pv3, pv4, pv5, pv6, pv7, eq_self, ne01, ne02, ne03, ne04, ne05, ne10, ne12, ne13, ne14, ne15, ne20, ne21, ne23, ne24, ne25, ne30, ne31, ne32, ne34, ne35, ne40, ne41, ne42, ne43, ne45, ne50, ne51, ne52, ne53, ne54, if_true, if_false, Bool.false_eq_true, Bool.and_self, Bool.and_true, Bool.and_false, Bool.true_and, Bool.false_and, Bool.not_true, Bool.not_false, decide_true, decide_false] <;> rfl)) dX7_shift_80
        · obtain ⟨zq, hk_zq, rfl⟩ := ix_sp c27
          refine g_iconst (n := 1) C0 rfl dX7_shift_62 ?_
          refine lv_goto (tgt := 67) hx hb dX7_shift_63 (by decide) ?_
          refine g_bipush (n := 44) C0 (by decide) dX7_shift_67 ?_
          refine g_bipush (n := 6) C0 (by decide) dX7_shift_69 ?_
          refine lv_iload_n hx hb dX7_shift_71 rfl (lv_at hl 3 rfl) ?_
          refine g_imul (n := 6 * 1) C0 rfl dX7_shift_72 ?_
          refine g_iadd (n := 44 + (6 * 1)) C0 (by first | rfl | omega) dX7_shift_73 ?_
          refine lv_iload_n hx hb dX7_shift_74 rfl (lv_at hl 2 rfl) ?_
          refine g_iadd (n := (44 + (6 * 1)) + xq) C0 (by first | rfl | omega) dX7_shift_75 ?_
          refine lv_iload_n hx hb dX7_shift_76 rfl (lv_at hl 4 rfl) ?_
          refine g_callV (As := [.int (nI 1), .int (nI ((44 + (6 * 1)) + xq)), .int (nI zq)]) (rest := []) (wr := []) (C0.sz hl) X (c_putsT l D tk h Mt hi la ce 1 ((44 + (6 * 1)) + xq) zq (by first | assumption | omega) (by first | assumption | omega)) ⟨tb1017, tb1020, tb8, ⟨by decide, by decide, rfl⟩, rfl, rfl, Nat.le_of_ble_eq_true rfl, Nat.le_of_ble_eq_true rfl⟩ tb1019 tbs40 0 7 rfl rfl rfl rfl [0, 1, 2, 3, 4, 5, 6, 7, 8, 9, 10, 11, 12, 13] [] rfl rfl rfl rfl rfl (Nat.le_of_ble_eq_true rfl) ⟨Nat.le_of_ble_eq_true rfl, Nat.le_of_ble_eq_true rfl⟩ dX7_shift_77 (fun _ H locs _ X => ?_)
          have X : Hx D zA zs H locs (mW tk h (u2 Mt 0 ((44 + (6 * 1)) + xq) zq) hi la ce) := X
          exact hE (v := nI (Mt 0 ((44 + (6 * 1)) + xq))) () (by simp only [a_shift, c1, hz3, c25, c27, tn_nI (k := xq) (by omega), tn_nI (k := zq) (by omega), pv80, pv81, pv82, pv83, pv0, pv1, pv2, pv3, pv4, pv5, pv6, pv7, eq_self, ne01, ne02, ne03, ne04, ne05, ne10, ne12, ne13, ne14, ne15, ne20, ne21, ne23, ne24, ne25, ne30, ne31, ne32, ne34, ne35, ne40, ne41, ne42, ne43, ne45, ne50, ne51, ne52, ne53, ne54, if_true, if_false, Bool.false_eq_true, Bool.and_self, Bool.and_true, Bool.and_false, Bool.true_and, Bool.false_and, Bool.not_true, Bool.not_false, decide_true, decide_false] <;> rfl) trivial (X.to (by simp only [shiftM, c1, hz3, c25, c27, tn_nI (k := xq) (by omega), tn_nI (k := zq) (by omega), pv80, pv81, pv82, pv83, pv0, pv1, pv2, pv3, pv4, pv5, pv6, pv7, eq_self, ne01, ne02, ne03, ne04, ne05, ne10, ne12, ne13, ne14, ne15, ne20, ne21, ne23, ne24, ne25, ne30, ne31, ne32, ne34, ne35, ne40, ne41, ne42, ne43, ne45, ne50, ne51, ne52, ne53, ne54, if_true, if_false, Bool.false_eq_true, Bool.and_self, Bool.and_true, Bool.and_false, Bool.true_and, Bool.false_and, Bool.not_true, Bool.not_false, decide_true, decide_false] <;> rfl)) dX7_shift_80
  · obtain rfl : y = nI 0 := c2
    refine lv_iload_n hx hb dX7_shift_4 rfl (lv_at hl 3 rfl) ?_
    refine lv_i2l hx hb dX7_shift_5 rfl ?_
    refine g_lconst (n := 0) C0 rfl dX7_shift_6 ?_
    refine lv_ldc2 (v := lN 23) hx hb C0.2.2.2.1 (ht _ tb1051) dX7_shift_7 ?_
    refine g_callS (As := [.long (Int32.toInt64 z), .long (lN 0), .long (lN 23)]) (rest := []) (wr := (mW tk h Mt hi la ce)) (C0.sz hl) X (c_X7_in l D tk (Int32.toInt64 z) (lN 0) (lN 23)) ⟨tb885, tb887, tb8, ⟨by decide, by decide, rfl⟩, rfl, rfl, Nat.le_of_ble_eq_true rfl, Nat.le_of_ble_eq_true rfl⟩ tb886 rfl [] [0, 1, 2, 3, 4, 5, 6, 7, 8, 9, 10, 11, 12, 13] rfl rfl rfl rfl rfl (Nat.le_of_ble_eq_true rfl) ⟨Nat.le_of_ble_eq_true rfl, Nat.le_of_ble_eq_true rfl⟩ dX7_shift_10 (fun _ H locs _ X => ?_)
    have X : Hx D zA zs H locs (mW tk h Mt hi la ce) := X
    refine g_top (y := nI (rb (rg z 0 23))) (by rw [inL_rg z (by first | decide | omega) (by first | decide | omega)]) ?_
    refine lv_goto (tgt := 46) hx hb dX7_shift_13 (by decide) ?_
    refine lv_istore (lv' := [(4, .int (nI (rb (rg z 0 23)))), (0, .ref (h 0)), (1, .int x), (2, .int (nI 0)), (3, .int z)]) hx hb dX7_shift_46 hl (by decide) rfl (fun ls hl => ?_)
    refine lv_aload_n hx hb dX7_shift_48 rfl (lv_at hl 1 rfl) ?_
    refine lv_aload_n hx hb dX7_shift_49 rfl (lv_at hl 1 rfl) ?_
    refine lv_iload_n hx hb dX7_shift_50 rfl (lv_at hl 2 rfl) ?_
    refine g_callV (As := [.int x]) (rest := [.ref (h 0)]) (wr := []) (C0.sz hl) X (c_X7_isTalk l D tk h Mt hi la ce x (by first | assumption | omega)) ⟨tb997, tb1000, tb8, ⟨by decide, by decide, rfl⟩, rfl, rfl, Nat.le_of_ble_eq_true rfl, Nat.le_of_ble_eq_true rfl⟩ tb999 tbs39 0 7 rfl rfl rfl rfl [0, 1, 2, 3, 4, 5, 6, 7, 8, 9, 10, 11, 12, 13] [] rfl rfl rfl rfl rfl (Nat.le_of_ble_eq_true rfl) ⟨Nat.le_of_ble_eq_true rfl, Nat.le_of_ble_eq_true rfl⟩ dX7_shift_51 (fun _ H locs _ X => ?_)
    have X : Hx D zA zs H locs (mW tk h Mt hi la ce) := X
    refine g_ifeqB (x := ix x (Mt 0 62)) (tgt := 66) C0 dX7_shift_54 rfl (fun c28 => ?_) (fun c29 => ?_)
    · refine g_iconst (n := 0) C0 rfl dX7_shift_66 ?_
      refine g_bipush (n := 44) C0 (by decide) dX7_shift_67 ?_
      refine g_bipush (n := 6) C0 (by decide) dX7_shift_69 ?_
      refine lv_iload_n hx hb dX7_shift_71 rfl (lv_at hl 3 rfl) ?_
      refine g_imul (n := 6 * 0) C0 rfl dX7_shift_72 ?_
      refine g_iadd (n := 44 + (6 * 0)) C0 (by first | rfl | omega) dX7_shift_73 ?_
      refine lv_iload_n hx hb dX7_shift_74 rfl (lv_at hl 2 rfl) ?_
      refine lv_iadd hx hb dX7_shift_75 ?_
      refine lv_iload_n hx hb dX7_shift_76 rfl (lv_at hl 4 rfl) ?_
      refine g_callV (As := [.int (nI 0), .int ((nI (44 + (6 * 0))) + x), .int z]) (rest := []) (wr := []) (C0.sz hl) X (c_putsF l D tk h Mt hi la ce 0 ((nI (44 + (6 * 0))) + x) z (by first | assumption | omega)) ⟨tb1017, tb1020, tb8, ⟨by decide, by decide, rfl⟩, rfl, rfl, Nat.le_of_ble_eq_true rfl, Nat.le_of_ble_eq_true rfl⟩ tb1019 tbs40 0 7 rfl rfl rfl rfl [0, 1, 2, 3, 4, 5, 6, 7, 8, 9, 10, 11, 12, 13] [] rfl rfl rfl rfl rfl (Nat.le_of_ble_eq_true rfl) ⟨Nat.le_of_ble_eq_true rfl, Nat.le_of_ble_eq_true rfl⟩ dX7_shift_77 (fun _ H locs _ X => ?_)
      have X : Hx D zA zs H locs (mW tk h Mt hi la ce) := X
      exact hE (v := (-1)) () (by simp only [a_shift, c28, pv80, pv81, pv82, pv83, pv0, pv1, pv2, pv3, pv4, pv5, pv6, pv7, eq_self, ne01, ne02, ne03, ne04, ne05, ne10, ne12, ne13, ne14, ne15, ne20, ne21, ne23, ne24, ne25, ne30, ne31, ne32, ne34, ne35, ne40, ne41, ne42, ne43, ne45, ne50, ne51, ne52, ne53, ne54, if_true, if_false, Bool.false_eq_true, Bool.and_self, Bool.and_true, Bool.and_false, Bool.true_and, Bool.false_and, Bool.not_true, Bool.not_false, decide_true, decide_false] <;> rfl) trivial (X.to (by simp only [shiftM, c28, pv80, pv81, pv82, pv83, pv0, pv1, pv2, pv3, pv4, pv5, pv6, pv7, eq_self, ne01, ne02, ne03, ne04, ne05, ne10, ne12, ne13, ne14, ne15, ne20, ne21, ne23, ne24, ne25, ne30, ne31, ne32, ne34, ne35, ne40, ne41, ne42, ne43, ne45, ne50, ne51, ne52, ne53, ne54, if_true, if_false, Bool.false_eq_true, Bool.and_self, Bool.and_true, Bool.and_false, Bool.true_and, Bool.false_and, Bool.not_true, Bool.not_false, decide_true, decide_false] <;> rfl)) dX7_shift_80
    · obtain ⟨xq, hk_xq, rfl⟩ := ix_sp c29
      refine lv_iload hx hb dX7_shift_57 (lv_at hl 0 rfl) ?_
      refine g_ifeqB (x := rg z 0 23) (tgt := 66) C0 dX7_shift_59 rfl (fun c30 => ?_) (fun c31 => ?_)
      · refine g_iconst (n := 0) C0 rfl dX7_shift_66 ?_
        refine g_bipush (n := 44) C0 (by decide) dX7_shift_67 ?_
        refine g_bipush (n := 6) C0 (by decide) dX7_shift_69 ?_
        refine lv_iload_n hx hb dX7_shift_71 rfl (lv_at hl 3 rfl) ?_
        refine g_imul (n := 6 * 0) C0 rfl dX7_shift_72 ?_
        refine g_iadd (n := 44 + (6 * 0)) C0 (by first | rfl | omega) dX7_shift_73 ?_
        refine lv_iload_n hx hb dX7_shift_74 rfl (lv_at hl 2 rfl) ?_
        refine g_iadd (n := (44 + (6 * 0)) + xq) C0 (by first | rfl | omega) dX7_shift_75 ?_
        refine lv_iload_n hx hb dX7_shift_76 rfl (lv_at hl 4 rfl) ?_
        refine g_callV (As := [.int (nI 0), .int (nI ((44 + (6 * 0)) + xq)), .int z]) (rest := []) (wr := []) (C0.sz hl) X (c_putsF l D tk h Mt hi la ce 0 (nI ((44 + (6 * 0)) + xq)) z (by first | assumption | omega)) ⟨tb1017, tb1020, tb8, ⟨by decide, by decide, rfl⟩, rfl, rfl, Nat.le_of_ble_eq_true rfl, Nat.le_of_ble_eq_true rfl⟩ tb1019 tbs40 0 7 rfl rfl rfl rfl [0, 1, 2, 3, 4, 5, 6, 7, 8, 9, 10, 11, 12, 13] [] rfl rfl rfl rfl rfl (Nat.le_of_ble_eq_true rfl) ⟨Nat.le_of_ble_eq_true rfl, Nat.le_of_ble_eq_true rfl⟩ dX7_shift_77 (fun _ H locs _ X => ?_)
        have X : Hx D zA zs H locs (mW tk h Mt hi la ce) := X
        exact hE (v := (-1)) () (by simp only [a_shift, c29, c30, tn_nI (k := xq) (by omega), pv80, pv81, pv82, pv83, pv0, pv1, pv2, pv3, pv4, pv5, pv6, pv7, eq_self, ne01, ne02, ne03, ne04, ne05, ne10, ne12, ne13, ne14, ne15, ne20, ne21, ne23, ne24, ne25, ne30, ne31, ne32, ne34, ne35, ne40, ne41, ne42, ne43, ne45, ne50, ne51, ne52, ne53, ne54, if_true, if_false, Bool.false_eq_true, Bool.and_self, Bool.and_true, Bool.and_false, Bool.true_and, Bool.false_and, Bool.not_true, Bool.not_false, decide_true, decide_false] <;> rfl) trivial (X.to (by simp only [shiftM, c29, c30, tn_nI (k := xq) (by omega), pv80, pv81, pv82, pv83, pv0, pv1, pv2, pv3, pv4, pv5, pv6, pv7, eq_self, ne01, ne02, ne03, ne04, ne05, ne10, ne12, ne13, ne14, ne15, ne20, ne21, ne23, ne24, ne25, ne30, ne31, ne32, ne34, ne35, ne40, ne41, ne42, ne43, ne45, ne50, ne51, ne52, ne53, ne54, if_true, if_false, Bool.false_eq_true, Bool.and_self, Bool.and_true, Bool.and_false, Bool.true_and, Bool.false_and, Bool.not_true, Bool.not_false, decide_true, decide_false] <;> rfl)) dX7_shift_80
      · obtain ⟨zq, hk_zqa, hk_zqb, hk_zqc, rfl⟩ := rg_sp c31
        refine g_iconst (n := 1) C0 rfl dX7_shift_62 ?_
        refine lv_goto (tgt := 67) hx hb dX7_shift_63 (by decide) ?_
        refine g_bipush (n := 44) C0 (by decide) dX7_shift_67 ?_
        refine g_bipush (n := 6) C0 (by decide) dX7_shift_69 ?_
        refine lv_iload_n hx hb dX7_shift_71 rfl (lv_at hl 3 rfl) ?_
        refine g_imul (n := 6 * 0) C0 rfl dX7_shift_72 ?_
        refine g_iadd (n := 44 + (6 * 0)) C0 (by first | rfl | omega) dX7_shift_73 ?_
        refine lv_iload_n hx hb dX7_shift_74 rfl (lv_at hl 2 rfl) ?_
        refine g_iadd (n := (44 + (6 * 0)) + xq) C0 (by first | rfl | omega) dX7_shift_75 ?_
        refine lv_iload_n hx hb dX7_shift_76 rfl (lv_at hl 4 rfl) ?_
        refine g_callV (As := [.int (nI 1), .int (nI ((44 + (6 * 0)) + xq)), .int (nI zq)]) (rest := []) (wr := []) (C0.sz hl) X (c_putsT l D tk h Mt hi la ce 1 ((44 + (6 * 0)) + xq) zq (by first | assumption | omega) (by first | assumption | omega)) ⟨tb1017, tb1020, tb8, ⟨by decide, by decide, rfl⟩, rfl, rfl, Nat.le_of_ble_eq_true rfl, Nat.le_of_ble_eq_true rfl⟩ tb1019 tbs40 0 7 rfl rfl rfl rfl [0, 1, 2, 3, 4, 5, 6, 7, 8, 9, 10, 11, 12, 13] [] rfl rfl rfl rfl rfl (Nat.le_of_ble_eq_true rfl) ⟨Nat.le_of_ble_eq_true rfl, Nat.le_of_ble_eq_true rfl⟩ dX7_shift_77 (fun _ H locs _ X => ?_)
        have X : Hx D zA zs H locs (mW tk h (u2 Mt 0 ((44 + (6 * 0)) + xq) zq) hi la ce) := X
        exact hE (v := nI (Mt 0 ((44 + (6 * 0)) + xq))) () (by simp only [a_shift, c29, c31, tn_nI (k := xq) (by omega), tn_nI (k := zq) (by omega), pv80, pv81, pv82, pv83, pv0, pv1, pv2, pv3, pv4, pv5, pv6, pv7, eq_self, ne01, ne02, ne03, ne04, ne05, ne10, ne12, ne13, ne14, ne15, ne20, ne21, ne23, ne24, ne25, ne30, ne31, ne32, ne34, ne35, ne40, ne41, ne42, ne43, ne45, ne50, ne51, ne52, ne53, ne54, if_true, if_false, Bool.false_eq_true, Bool.and_self, Bool.and_true, Bool.and_false, Bool.true_and, Bool.false_and, Bool.not_true, Bool.not_false, decide_true, decide_false] <;> rfl) trivial (X.to (by simp only [shiftM, c29, c31, tn_nI (k := xq) (by omega), tn_nI (k := zq) (by omega), pv80, pv81, pv82, pv83, pv0, pv1, pv2, pv3, pv4, pv5, pv6, pv7, eq_self, ne01, ne02, ne03, ne04, ne05, ne10, ne12, ne13, ne14, ne15, ne20, ne21, ne23, ne24, ne25, ne30, ne31, ne32, ne34, ne35, ne40, ne41, ne42, ne43, ne45, ne50, ne51, ne52, ne53, ne54, if_true, if_false, Bool.false_eq_true, Bool.and_self, Bool.and_true, Bool.and_false, Bool.true_and, Bool.false_and, Bool.not_true, Bool.not_false, decide_true, decide_false] <;> rfl)) dX7_shift_80
set_option maxHeartbeats 4000000 in
set_option maxRecDepth 100000 in
theorem c_X7_hears (l : Launch) (D : va_G) (tk : Nat → ClassId) (h : Nat → Nat) (Mt : Nat → Nat → Nat) (hi : Int32) (la ce : Nat → Int32) (x y : Int32) (hW : VW (pgv Mt 0)) : MX l yX7_hears cX7_hears 3 (some .int) ⟨3, 0, 0, 72⟩ D (TYS tk) [.ref (h 0), .int x, .int y] (mW tk h Mt hi la ce) (fun (u : (Nat → Nat)) => True) (fun u => some (.int (a_hears (pgv Mt 0) x y))) (fun u => mW tk h (u3 Mt 6 u) hi la ce) 0 0 := by
  refine MX.of_i (by decide) rfl ?_
  intro zp ze zs zm za zb zt zc zA zQ ls C0 hnm X hl hE
  have hx := C0.1
  have hb := C0.2.1
  have ht := C0.2.2.2.2.1
  have X : Hx D zA zs zs.heap [] (mW tk h Mt hi la ce) := X
  have hl : lv_has ls 3 [(0, .ref (h 0)), (1, .int x), (2, .int y)] := hl
  obtain ⟨hv1, hv2, hv3, hv4, hv5, hv6, hv7⟩ := id hW
  have hb1 : Mt 20 0 ≤ 6 := hv1
  have hb2 : Mt 0 42 ≤ 9 := hv2
  have hb3 : Mt 0 43 ≤ 20 := hv3
  have hb4 : Mt 0 62 ≤ 6 := hv4
  have hkd : ∀ t, t < Mt 20 0 → Mt 0 t ≤ 3 := fun t ht => by have q := hv5 t ht; rw [pv0] at q; exact q
  have hrt : ∀ i, i < Mt 0 42 → Mt 0 (6 + i) < Mt 20 0 ∧ Mt 0 (15 + i) < Mt 20 0 ∧ Mt 0 (6 + i) ≠ Mt 0 (15 + i) ∧ 1 ≤ Mt 0 (24 + i) ∧ Mt 0 (24 + i) ≤ 9 ∧ Mt 0 (33 + i) ≤ 1 := fun i hi => hv6 i hi
  have htk : ∀ k, k < Mt 0 62 → Mt 0 (44 + k) ≤ 23 ∧ Mt 0 (50 + k) < Mt 20 0 ∧ 1 ≤ Mt 0 (56 + k) ∧ Mt 0 (56 + k) ≤ 60 := fun k hk => hv7 k hk
  obtain ⟨H, hH⟩ : ∃ H, H = zs.heap := ⟨_, rfl⟩
  rw [← hH] at X ⊢
  obtain ⟨locs, hlo⟩ : ∃ L : List Loc, L = [] := ⟨_, rfl⟩
  rw [← hlo] at X ⊢
  refine lv_aload_n hx hb dX7_hears_0 rfl (lv_at hl 0 rfl) ?_
  refine lv_iload_n hx hb dX7_hears_1 rfl (lv_at hl 1 rfl) ?_
  refine g_callV (As := [.int x]) (rest := []) (wr := []) (C0.sz hl) X (c_X7_isTree l D tk h Mt hi la ce x (by first | assumption | omega)) ⟨tb980, tb983, tb8, ⟨by decide, by decide, rfl⟩, rfl, rfl, Nat.le_of_ble_eq_true rfl, Nat.le_of_ble_eq_true rfl⟩ tb982 tbs37 0 7 rfl rfl rfl rfl [0, 1, 2, 3, 4, 5, 6, 7, 8, 9, 10, 11, 12, 13] [] rfl rfl rfl rfl rfl (Nat.le_of_ble_eq_true rfl) ⟨Nat.le_of_ble_eq_true rfl, Nat.le_of_ble_eq_true rfl⟩ dX7_hears_2 (fun _ H locs _ X => ?_)
  have X : Hx D zA zs H locs (mW tk h Mt hi la ce) := X
  refine g_ifeqB (x := ix x (Mt 20 0)) (tgt := 25) C0 dX7_hears_5 rfl (fun c1 => ?_) (fun c2 => ?_)
  · refine lv_iconst (v := (-1)) hx hb dX7_hears_25 (by decide) ?_
    exact hE (v := (-1)) (Mt 6) (by simp only [a_hears, c1, pv80, pv81, pv82, pv83, pv0, pv1, pv2, pv3, pv4, pv5, pv6, pv7, eq_self, ne01, ne02, ne03, ne04, ne05, ne10, ne12, ne13, ne14, ne15, ne20, ne21, ne23, ne24, ne25, ne30, ne31, ne32, ne34, ne35, ne40, ne41, ne42, ne43, ne45, ne50, ne51, ne52, ne53, ne54, if_true, if_false, Bool.false_eq_true, Bool.and_self, Bool.and_true, Bool.and_false, Bool.true_and, Bool.false_and, Bool.not_true, Bool.not_false, decide_true, decide_false] <;> rfl) trivial X dX7_hears_26
  · obtain ⟨xq, hk_xq, rfl⟩ := ix_sp c2
    refine lv_iload_n hx hb dX7_hears_8 rfl (lv_at hl 2 rfl) ?_
    refine g_callS (As := [.int y]) (rest := []) (wr := (mW tk h Mt hi la ce)) (C0.sz hl) X (c_X7_isBreath l D tk y) ⟨tb1009, tb1011, tb8, ⟨by decide, by decide, rfl⟩, rfl, rfl, Nat.le_of_ble_eq_true rfl, Nat.le_of_ble_eq_true rfl⟩ tb1010 rfl [] [0, 1, 2, 3, 4, 5, 6, 7, 8, 9, 10, 11, 12, 13] rfl rfl rfl rfl rfl (Nat.le_of_ble_eq_true rfl) ⟨Nat.le_of_ble_eq_true rfl, Nat.le_of_ble_eq_true rfl⟩ dX7_hears_9 (fun _ H locs _ X => ?_)
    have X : Hx D zA zs H locs (mW tk h Mt hi la ce) := X
    refine g_ifeqB (x := rg y 1 60) (tgt := 25) C0 dX7_hears_12 rfl (fun c3 => ?_) (fun c4 => ?_)
    · refine lv_iconst (v := (-1)) hx hb dX7_hears_25 (by decide) ?_
      exact hE (v := (-1)) (Mt 6) (by simp only [a_hears, c2, c3, tn_nI (k := xq) (by omega), pv80, pv81, pv82, pv83, pv0, pv1, pv2, pv3, pv4, pv5, pv6, pv7, eq_self, ne01, ne02, ne03, ne04, ne05, ne10, ne12, ne13, ne14, ne15, ne20, ne21, ne23, ne24, ne25, ne30, ne31, ne32, ne34, ne35, ne40, ne41, ne42, ne43, ne45, ne50, ne51, ne52, ne53, ne54, if_true, if_false, Bool.false_eq_true, Bool.and_self, Bool.and_true, Bool.and_false, Bool.true_and, Bool.false_and, Bool.not_true, Bool.not_false, decide_true, decide_false] <;> rfl) trivial X dX7_hears_26
    · obtain ⟨yq, hk_yqa, hk_yqb, hk_yqc, rfl⟩ := rg_sp c4
      refine lv_aload_n hx hb dX7_hears_15 rfl (lv_at hl 0 rfl) ?_
      refine g_iconst (n := 0) C0 rfl dX7_hears_16 ?_
      refine lv_iload_n hx hb dX7_hears_17 rfl (lv_at hl 1 rfl) ?_
      refine lv_iload_n hx hb dX7_hears_18 rfl (lv_at hl 2 rfl) ?_
      refine g_callV (As := [.int (nI 0), .int (nI xq), .int (nI yq)]) (rest := []) (wr := []) (C0.sz hl) X (c_X7_hearsOn l D tk h Mt hi la ce 0 xq yq (by first | assumption | omega) (by exact hW) (by first | assumption | omega) (by first | assumption | omega)) ⟨tb957, tb960, tb8, ⟨by decide, by decide, rfl⟩, rfl, rfl, Nat.le_of_ble_eq_true rfl, Nat.le_of_ble_eq_true rfl⟩ tb959 tbs33 0 7 rfl rfl rfl rfl [0, 1, 2, 3, 4, 5, 6, 7, 8, 9, 10, 11, 12, 13] [] rfl rfl rfl rfl rfl (Nat.le_of_ble_eq_true rfl) ⟨Nat.le_of_ble_eq_true rfl, Nat.le_of_ble_eq_true rfl⟩ dX7_hears_19 (fun _ H locs _ X => ?_)
      have X : Hx D zA zs H locs (mW tk h (u3 Mt 6 (dist (pgv Mt 0) xq)) hi la ce) := X
      refine lv_goto (tgt := 26) hx hb dX7_hears_22 (by decide) ?_
      exact hE (v := nI (hearS (pgv Mt 0) xq yq)) (dist (pgv Mt 0) xq) (by simp only [a_hears, c2, c4, tn_nI (k := xq) (by omega), tn_nI (k := yq) (by omega), pv80, pv81, pv82, pv83, pv0, pv1, pv2, pv3, pv4, pv5, pv6, pv7, eq_self, ne01, ne02, ne03, ne04, ne05, ne10, ne12, ne13, ne14, ne15, ne20, ne21, ne23, ne24, ne25, ne30, ne31, ne32, ne34, ne35, ne40, ne41, ne42, ne43, ne45, ne50, ne51, ne52, ne53, ne54, if_true, if_false, Bool.false_eq_true, Bool.and_self, Bool.and_true, Bool.and_false, Bool.true_and, Bool.false_and, Bool.not_true, Bool.not_false, decide_true, decide_false] <;> rfl) trivial X dX7_hears_26
set_option maxHeartbeats 4000000 in
set_option maxRecDepth 100000 in
theorem c_X7_least (l : Launch) (D : va_G) (tk : Nat → ClassId) (h : Nat → Nat) (Mt : Nat → Nat → Nat) (hi : Int32) (la ce : Nat → Int32) (x y : Int32) (hW : VW (pgv Mt 0)) : MX l yX7_least cX7_least 3 (some .int) ⟨3, 0, 0, 72⟩ D (TYS tk) [.ref (h 0), .int x, .int y] (mW tk h Mt hi la ce) (fun (u : (Nat → Nat)) => True) (fun u => some (.int (a_least (pgv Mt 0) x y))) (fun u => mW tk h (u3 Mt 6 u) hi la ce) 0 0 := by
  refine MX.of_i (by decide) rfl ?_
  intro zp ze zs zm za zb zt zc zA zQ ls C0 hnm X hl hE
  have hx := C0.1
  have hb := C0.2.1
  have ht := C0.2.2.2.2.1
  have X : Hx D zA zs zs.heap [] (mW tk h Mt hi la ce) := X
  have hl : lv_has ls 3 [(0, .ref (h 0)), (1, .int x), (2, .int y)] := hl
  obtain ⟨hv1, hv2, hv3, hv4, hv5, hv6, hv7⟩ := id hW
  have hb1 : Mt 20 0 ≤ 6 := hv1
  have hb2 : Mt 0 42 ≤ 9 := hv2
  have hb3 : Mt 0 43 ≤ 20 := hv3
  have hb4 : Mt 0 62 ≤ 6 := hv4
  have hkd : ∀ t, t < Mt 20 0 → Mt 0 t ≤ 3 := fun t ht => by have q := hv5 t ht; rw [pv0] at q; exact q
  have hrt : ∀ i, i < Mt 0 42 → Mt 0 (6 + i) < Mt 20 0 ∧ Mt 0 (15 + i) < Mt 20 0 ∧ Mt 0 (6 + i) ≠ Mt 0 (15 + i) ∧ 1 ≤ Mt 0 (24 + i) ∧ Mt 0 (24 + i) ≤ 9 ∧ Mt 0 (33 + i) ≤ 1 := fun i hi => hv6 i hi
  have htk : ∀ k, k < Mt 0 62 → Mt 0 (44 + k) ≤ 23 ∧ Mt 0 (50 + k) < Mt 20 0 ∧ 1 ≤ Mt 0 (56 + k) ∧ Mt 0 (56 + k) ≤ 60 := fun k hk => hv7 k hk
  obtain ⟨H, hH⟩ : ∃ H, H = zs.heap := ⟨_, rfl⟩
  rw [← hH] at X ⊢
  obtain ⟨locs, hlo⟩ : ∃ L : List Loc, L = [] := ⟨_, rfl⟩
  rw [← hlo] at X ⊢
  refine lv_aload_n hx hb dX7_least_0 rfl (lv_at hl 0 rfl) ?_
  refine lv_iload_n hx hb dX7_least_1 rfl (lv_at hl 1 rfl) ?_
  refine g_callV (As := [.int x]) (rest := []) (wr := []) (C0.sz hl) X (c_X7_isTree l D tk h Mt hi la ce x (by first | assumption | omega)) ⟨tb980, tb983, tb8, ⟨by decide, by decide, rfl⟩, rfl, rfl, Nat.le_of_ble_eq_true rfl, Nat.le_of_ble_eq_true rfl⟩ tb982 tbs37 0 7 rfl rfl rfl rfl [0, 1, 2, 3, 4, 5, 6, 7, 8, 9, 10, 11, 12, 13] [] rfl rfl rfl rfl rfl (Nat.le_of_ble_eq_true rfl) ⟨Nat.le_of_ble_eq_true rfl, Nat.le_of_ble_eq_true rfl⟩ dX7_least_2 (fun _ H locs _ X => ?_)
  have X : Hx D zA zs H locs (mW tk h Mt hi la ce) := X
  refine g_ifeqB (x := ix x (Mt 20 0)) (tgt := 25) C0 dX7_least_5 rfl (fun c1 => ?_) (fun c2 => ?_)
  · refine lv_iconst (v := (-1)) hx hb dX7_least_25 (by decide) ?_
    exact hE (v := (-1)) (Mt 6) (by simp only [a_least, c1, pv80, pv81, pv82, pv83, pv0, pv1, pv2, pv3, pv4, pv5, pv6, pv7, eq_self, ne01, ne02, ne03, ne04, ne05, ne10, ne12, ne13, ne14, ne15, ne20, ne21, ne23, ne24, ne25, ne30, ne31, ne32, ne34, ne35, ne40, ne41, ne42, ne43, ne45, ne50, ne51, ne52, ne53, ne54, if_true, if_false, Bool.false_eq_true, Bool.and_self, Bool.and_true, Bool.and_false, Bool.true_and, Bool.false_and, Bool.not_true, Bool.not_false, decide_true, decide_false] <;> rfl) trivial X dX7_least_26
  · obtain ⟨xq, hk_xq, rfl⟩ := ix_sp c2
    refine lv_aload_n hx hb dX7_least_8 rfl (lv_at hl 0 rfl) ?_
    refine lv_iload_n hx hb dX7_least_9 rfl (lv_at hl 2 rfl) ?_
    refine g_callV (As := [.int y]) (rest := []) (wr := []) (C0.sz hl) X (c_X7_isSome l D tk h Mt hi la ce y (by first | assumption | omega)) ⟨tb1072, tb1075, tb8, ⟨by decide, by decide, rfl⟩, rfl, rfl, Nat.le_of_ble_eq_true rfl, Nat.le_of_ble_eq_true rfl⟩ tb1074 tbs43 0 7 rfl rfl rfl rfl [0, 1, 2, 3, 4, 5, 6, 7, 8, 9, 10, 11, 12, 13] [] rfl rfl rfl rfl rfl (Nat.le_of_ble_eq_true rfl) ⟨Nat.le_of_ble_eq_true rfl, Nat.le_of_ble_eq_true rfl⟩ dX7_least_10 (fun _ H locs _ X => ?_)
    have X : Hx D zA zs H locs (mW tk h Mt hi la ce) := X
    refine g_ifeqB (x := rg y 0 (2 ^ Mt 20 0 - 1)) (tgt := 25) C0 dX7_least_13 rfl (fun c3 => ?_) (fun c4 => ?_)
    · refine lv_iconst (v := (-1)) hx hb dX7_least_25 (by decide) ?_
      exact hE (v := (-1)) (Mt 6) (by simp only [a_least, c2, c3, tn_nI (k := xq) (by omega), pv80, pv81, pv82, pv83, pv0, pv1, pv2, pv3, pv4, pv5, pv6, pv7, eq_self, ne01, ne02, ne03, ne04, ne05, ne10, ne12, ne13, ne14, ne15, ne20, ne21, ne23, ne24, ne25, ne30, ne31, ne32, ne34, ne35, ne40, ne41, ne42, ne43, ne45, ne50, ne51, ne52, ne53, ne54, if_true, if_false, Bool.false_eq_true, Bool.and_self, Bool.and_true, Bool.and_false, Bool.true_and, Bool.false_and, Bool.not_true, Bool.not_false, decide_true, decide_false] <;> rfl) trivial X dX7_least_26
    · obtain ⟨yq, hk_yqa, hk_yqb, hk_yqc, rfl⟩ := rg_sp c4
      refine lv_aload_n hx hb dX7_least_16 rfl (lv_at hl 0 rfl) ?_
      refine lv_iload_n hx hb dX7_least_17 rfl (lv_at hl 1 rfl) ?_
      refine lv_iload_n hx hb dX7_least_18 rfl (lv_at hl 2 rfl) ?_
      refine g_callV (As := [.int (nI xq), .int (nI yq)]) (rest := []) (wr := []) (C0.sz hl) X (c_X7_leastOf l D tk h Mt hi la ce xq yq (by exact hW) (by first | assumption | omega) (by first | assumption | omega)) ⟨tb1076, tb1079, tb8, ⟨by decide, by decide, rfl⟩, rfl, rfl, Nat.le_of_ble_eq_true rfl, Nat.le_of_ble_eq_true rfl⟩ tb1078 tbs44 0 7 rfl rfl rfl rfl [0, 1, 2, 3, 4, 5, 6, 7, 8, 9, 10, 11, 12, 13] [] rfl rfl rfl rfl rfl (Nat.le_of_ble_eq_true rfl) ⟨Nat.le_of_ble_eq_true rfl, Nat.le_of_ble_eq_true rfl⟩ dX7_least_19 (fun _ H locs _ X => ?_)
      have X : Hx D zA zs H locs (mW tk h (u3 Mt 6 (dist (pgv Mt 0) xq)) hi la ce) := X
      refine lv_goto (tgt := 26) hx hb dX7_least_22 (by decide) ?_
      exact hE (v := orNone (leastS (pgv Mt 0) xq yq yq)) (dist (pgv Mt 0) xq) (by simp only [a_least, c2, c4, tn_nI (k := xq) (by omega), tn_nI (k := yq) (by omega), pv80, pv81, pv82, pv83, pv0, pv1, pv2, pv3, pv4, pv5, pv6, pv7, eq_self, ne01, ne02, ne03, ne04, ne05, ne10, ne12, ne13, ne14, ne15, ne20, ne21, ne23, ne24, ne25, ne30, ne31, ne32, ne34, ne35, ne40, ne41, ne42, ne43, ne45, ne50, ne51, ne52, ne53, ne54, if_true, if_false, Bool.false_eq_true, Bool.and_self, Bool.and_true, Bool.and_false, Bool.true_and, Bool.false_and, Bool.not_true, Bool.not_false, decide_true, decide_false] <;> rfl) trivial X dX7_least_26
