set_option maxHeartbeats 4000000 in
set_option maxRecDepth 100000 in
theorem c_X7_rule (l : Launch) (D : va_G) (tk : Nat → ClassId) (h : Nat → Nat) (Mt : Nat → Nat → Nat) (hi : Int32) (la ce : Nat → Int32) (x : Int32) (hW : VW (pgv Mt 0)) : MX l yX7_rule cX7_rule 4 (some .int) ⟨5, 0, 0, 119⟩ D (TYS tk) [.ref (h 0), .int x] (mW tk h Mt hi la ce) (fun (u : (Nat → Nat) × (Nat → Nat)) => True) (fun u => some (.int (a_rule (pgv Mt 0) x))) (fun u => mW tk h (u3 (u3 Mt 6 u.1) 7 u.2) hi la ce) 0 0 := by
  refine MX.of_i (by decide) rfl ?_
  intro zp ze zs zm za zb zt zc zA zQ ls C0 hnm X hl hE
  have hx := C0.1
  have hb := C0.2.1
  have ht := C0.2.2.2.2.1
  have X : Hx D zA zs zs.heap [] (mW tk h Mt hi la ce) := X
  have hl : lv_has ls 4 [(0, .ref (h 0)), (1, .int x)] := hl
  obtain ⟨hv1, hv2, hv3, hv4, hv5, hv6, hv7⟩ := id hW
  have hb1 : Mt 20 0 ≤ 6 := hv1
  have hb2 : Mt 0 42 ≤ 9 := hv2
  have hb3 : Mt 0 43 ≤ 20 := hv3
  have hb4 : Mt 0 62 ≤ 6 := hv4
  have hkd : ∀ t, t < Mt 20 0 → Mt 0 t ≤ 3 := fun t ht => by have q := hv5 t ht; rw [pv0] at q; exact q
  have hrt : ∀ i, i < Mt 0 42 → Mt 0 (6 + i) < Mt 20 0 ∧ Mt 0 (15 + i) < Mt 20 0 ∧ Mt 0 (6 + i) ≠ Mt 0 (15 + i) ∧ 1 ≤ Mt 0 (24 + i) ∧ Mt 0 (24 + i) ≤ 9 ∧ Mt 0 (33 + i) ≤ 1 := fun i hi => hv6 i hi
  have htk : ∀ k, k < Mt 0 62 → Mt 0 (44 + k) ≤ 23 ∧ Mt 0 (50 + k) < Mt 20 0 ∧ 1 ≤ Mt 0 (56 + k) ∧ Mt 0 (56 + k) ≤ 60 := fun k hk => hv7 k hk
  obtain ⟨H, hH⟩ : ∃ H, H = zs.heap := ⟨_, rfl⟩
  rw [← hH] at X ⊢
  obtain ⟨locs, hlo⟩ : ∃ L : List Loc, L = [] := ⟨_, rfl⟩
  rw [← hlo] at X ⊢
  refine g_iconst (n := 0) C0 rfl dX7_rule_0 ?_
  refine lv_istore_n (lv' := [(2, .int (nI 0)), (0, .ref (h 0)), (1, .int x)]) hx hb dX7_rule_1 rfl hl (by decide) rfl (fun ls hl => ?_)
  refine g_iconst (n := 0) C0 rfl dX7_rule_2 ?_
  refine lv_istore_n (lv' := [(3, .int (nI 0)), (2, .int (nI 0)), (0, .ref (h 0)), (1, .int x)]) hx hb dX7_rule_3 rfl hl (by decide) rfl (fun ls hl => ?_)
  have J4 : ∀ (fz : Nat) (i bs : Nat), Mt 0 42 - i < fz → ∀ (hi1 : i ≤ Mt 0 42) (hbs : bs = bset (fun i => decide (pgv Mt 0 4 i = 1)) i) (H : Heap) (locs : List Loc) (ls : Array Slot), Hx D zA zs H locs (mW tk h Mt hi la ce) → lv_has ls 4 [(3, .int (nI i)), (2, .int (nI bs)), (0, .ref (h 0)), (1, .int x)] → W zp l ze ⟨5, 0, 0, 119⟩ zs zm za zb zt zc H locs 0 0 zQ (F0 zm 4 ls []) := by
    intro fz
    induction fz with
    | zero => intro i bs hz; exact absurd hz (Nat.not_lt_zero _)
    | succ fz ih4 =>
      intro i bs hz4 hi1 hbs H locs ls X hl
      refine lv_iload_n hx hb dX7_rule_4 rfl (lv_at hl 0 rfl) ?_
      refine lv_aload_n hx hb dX7_rule_5 rfl (lv_at hl 2 rfl) ?_
      refine g_get (v := .ref (h 1)) C0 X kX7 0 0 tb798 rfl rfl rfl dX7_rule_6 ?_
      refine g_bipush (n := 42) C0 (by decide) dX7_rule_9 ?_
      refine g_iald (v := nI (Mt 0 42)) (i := 42) C0 X 1 0 rfl rfl (by omega) rfl rfl dX7_rule_11 ?_
      refine g_icmp_ge (x := i) (y := Mt 0 42) (tgt := 35) C0 (by omega) (by omega) dX7_rule_12 rfl (fun c1 => ?_) (fun c2 => ?_)
      · refine lv_iload_n hx hb dX7_rule_35 rfl (lv_at hl 3 rfl) ?_
        by_cases c3 : x = nI 0
        · refine g_swIn (k := 0) (lo' := 0) (tgt := 76) C0 (c3) rfl rfl dX7_rule_36 rfl rfl rfl rfl ?_
          refine lv_aload_n hx hb dX7_rule_76 rfl (lv_at hl 2 rfl) ?_
          refine g_get (v := .int (nI (Mt 20 0))) C0 X kX7 0 1 tb799 rfl rfl rfl dX7_rule_77 ?_
          exact hE (v := nI (Mt 20 0)) (Mt 6, Mt 7) (by rw [a_rule]; simp only [pv80, pv81, pv82, pv83, pv0, pv1, pv2, pv3, pv4, pv5, pv6, pv7, eq_self, if_pos c3]) trivial X dX7_rule_80
        by_cases c4 : x = nI 1
        · refine g_swIn (k := 1) (lo' := 0) (tgt := 81) C0 (c4) rfl rfl dX7_rule_36 rfl rfl rfl rfl ?_
          refine lv_aload_n hx hb dX7_rule_81 rfl (lv_at hl 2 rfl) ?_
          refine g_get (v := .ref (h 1)) C0 X kX7 0 0 tb798 rfl rfl rfl dX7_rule_82 ?_
          refine g_bipush (n := 42) C0 (by decide) dX7_rule_85 ?_
          refine g_iald (v := nI (Mt 0 42)) (i := 42) C0 X 1 0 rfl rfl (by omega) rfl rfl dX7_rule_87 ?_
          exact hE (v := nI (Mt 0 42)) (Mt 6, Mt 7) (by rw [a_rule]; simp only [pv80, pv81, pv82, pv83, pv0, pv1, pv2, pv3, pv4, pv5, pv6, pv7, eq_self, if_neg c3, if_pos c4]) trivial X dX7_rule_88
        by_cases c5 : x = nI 2
        · refine g_swIn (k := 2) (lo' := 0) (tgt := 89) C0 (c5) rfl rfl dX7_rule_36 rfl rfl rfl rfl ?_
          refine lv_aload_n hx hb dX7_rule_89 rfl (lv_at hl 2 rfl) ?_
          refine g_get (v := .ref (h 1)) C0 X kX7 0 0 tb798 rfl rfl rfl dX7_rule_90 ?_
          refine g_bipush (n := 43) C0 (by decide) dX7_rule_93 ?_
          refine g_iald (v := nI (Mt 0 43)) (i := 43) C0 X 1 0 rfl rfl (by omega) rfl rfl dX7_rule_95 ?_
          exact hE (v := nI (Mt 0 43)) (Mt 6, Mt 7) (by rw [a_rule]; simp only [pv80, pv81, pv82, pv83, pv0, pv1, pv2, pv3, pv4, pv5, pv6, pv7, eq_self, if_neg c3, if_neg c4, if_pos c5]) trivial X dX7_rule_96
        by_cases c6 : x = nI 3
        · refine g_swIn (k := 3) (lo' := 0) (tgt := 97) C0 (c6) rfl rfl dX7_rule_36 rfl rfl rfl rfl ?_
          refine lv_aload_n hx hb dX7_rule_97 rfl (lv_at hl 2 rfl) ?_
          refine g_get (v := .ref (h 1)) C0 X kX7 0 0 tb798 rfl rfl rfl dX7_rule_98 ?_
          refine g_bipush (n := 62) C0 (by decide) dX7_rule_101 ?_
          refine g_iald (v := nI (Mt 0 62)) (i := 62) C0 X 1 0 rfl rfl (by omega) rfl rfl dX7_rule_103 ?_
          exact hE (v := nI (Mt 0 62)) (Mt 6, Mt 7) (by rw [a_rule]; simp only [pv80, pv81, pv82, pv83, pv0, pv1, pv2, pv3, pv4, pv5, pv6, pv7, eq_self, if_neg c3, if_neg c4, if_neg c5, if_pos c6]) trivial X dX7_rule_104
        by_cases c7 : x = nI 4
        · refine g_swIn (k := 4) (lo' := 0) (tgt := 105) C0 (c7) rfl rfl dX7_rule_36 rfl rfl rfl rfl ?_
          refine lv_iload_n hx hb dX7_rule_105 rfl (lv_at hl 1 rfl) ?_
          exact hE (v := nI bs) (Mt 6, Mt 7) (by rw [a_rule]; simp only [pv80, pv81, pv82, pv83, pv0, pv1, pv2, pv3, pv4, pv5, pv6, pv7, eq_self, if_neg c3, if_neg c4, if_neg c5, if_neg c6, if_pos c7]; rw [hbs, show i = Mt 0 42 by omega]; rfl) trivial X dX7_rule_106
        by_cases c8 : x = nI 5
        · refine g_swIn (k := 5) (lo' := 0) (tgt := 107) C0 (c8) rfl rfl dX7_rule_36 rfl rfl rfl rfl ?_
          refine lv_aload_n hx hb dX7_rule_107 rfl (lv_at hl 2 rfl) ?_
          refine g_iconst (n := 0) C0 rfl dX7_rule_108 ?_
          refine g_callV (As := [.int (nI 0)]) (rest := []) (wr := []) (C0.sz hl) X (c_X7_crossedOn l D tk h Mt hi la ce 0 (by first | assumption | omega) (by first | assumption | omega)) ⟨tb950, tb953, tb8, ⟨by decide, by decide, rfl⟩, rfl, rfl, Nat.le_of_ble_eq_true rfl, Nat.le_of_ble_eq_true rfl⟩ tb952 tbs31 0 7 rfl rfl rfl rfl [0, 1, 2, 3, 4, 5, 6, 7, 8, 9, 10, 11, 12, 13] [] rfl rfl rfl rfl rfl (Nat.le_of_ble_eq_true rfl) ⟨Nat.le_of_ble_eq_true rfl, Nat.le_of_ble_eq_true rfl⟩ dX7_rule_109 (fun uq9 H locs _ X => ?_)
          have X : Hx D zA zs H locs (mW tk h (u3 (u3 Mt 6 uq9.1) 7 uq9.2) hi la ce) := X
          exact hE (v := nI (crossS (pgv Mt 0))) (uq9.1, uq9.2) (by rw [a_rule]; simp only [pv80, pv81, pv82, pv83, pv0, pv1, pv2, pv3, pv4, pv5, pv6, pv7, eq_self, if_neg c3, if_neg c4, if_neg c5, if_neg c6, if_neg c7, if_pos c8]) trivial X dX7_rule_112
        refine g_swOut (n := 6) (lo' := 0) (tgt := 113) C0 (by intro j hj1 hj; rcases (show j = 0 ∨ j = 1 ∨ j = 2 ∨ j = 3 ∨ j = 4 ∨ j = 5 by omega) with rfl | rfl | rfl | rfl | rfl | rfl <;> assumption) rfl dX7_rule_36 rfl rfl rfl ?_
        refine lv_iconst (v := (-1)) hx hb dX7_rule_113 (by decide) ?_
        exact hE (v := (-1)) (Mt 6, Mt 7) (by rw [a_rule]; simp only [pv80, pv81, pv82, pv83, pv0, pv1, pv2, pv3, pv4, pv5, pv6, pv7, eq_self, if_neg c3, if_neg c4, if_neg c5, if_neg c6, if_neg c7, if_neg c8]) trivial X dX7_rule_114
      · have hr := hrt i (by omega)
        refine lv_iload_n hx hb dX7_rule_15 rfl (lv_at hl 1 rfl) ?_
        refine lv_aload_n hx hb dX7_rule_16 rfl (lv_at hl 2 rfl) ?_
        refine g_get (v := .ref (h 1)) C0 X kX7 0 0 tb798 rfl rfl rfl dX7_rule_17 ?_
        refine g_bipush (n := 33) C0 (by decide) dX7_rule_20 ?_
        refine lv_iload_n hx hb dX7_rule_22 rfl (lv_at hl 0 rfl) ?_
        refine g_iadd (n := 33 + i) C0 (by first | rfl | omega) dX7_rule_23 ?_
        refine g_iald (v := nI (Mt 0 (33 + i))) (i := 33 + i) C0 X 1 0 rfl rfl (by omega) rfl rfl dX7_rule_24 ?_
        refine lv_iload_n hx hb dX7_rule_25 rfl (lv_at hl 0 rfl) ?_
        refine g_ishl (n := (Mt 0 (33 + i)) * 2 ^ i) C0 (by exact shl_lt hr.2.2.2.2.2 (show i < 9 by omega)) (by first | exact Nat.one_mul _ | rfl) dX7_rule_26 ?_
        refine g_ior (n := bs ||| ((Mt 0 (33 + i)) * 2 ^ i)) C0 rfl dX7_rule_27 ?_
        refine lv_istore_n (lv' := [(2, .int (nI (bs ||| ((Mt 0 (33 + i)) * 2 ^ i)))), (3, .int (nI i)), (0, .ref (h 0)), (1, .int x)]) hx hb dX7_rule_28 rfl hl (by decide) rfl (fun ls hl => ?_)
        refine g_iinc (j := 1) (z := i + 1) (lv' := [(3, .int (nI (i + 1))), (2, .int (nI (bs ||| ((Mt 0 (33 + i)) * 2 ^ i)))), (0, .ref (h 0)), (1, .int x)]) C0 rfl (by first | rfl | omega) dX7_rule_29 hl (k := 1) rfl (by decide) rfl (fun ls hl => ?_)
        refine lv_goto (tgt := 4) hx hb dX7_rule_32 (by decide) ?_
        exact ih4 (i + 1) (bs ||| ((Mt 0 (33 + i)) * 2 ^ i)) (by omega) (by omega) (by exact rule_s hbs rfl hr.2.2.2.2.2) H locs ls X (lv_sub hl [0, 1, 2, 3] rfl)
  exact J4 ((Mt 0 42 - 0) + 1) 0 0 (Nat.lt_succ_self _) (by omega) (by rfl) H locs ls X (lv_sub hl [0, 1, 2, 3] rfl)
set_option maxHeartbeats 4000000 in
set_option maxRecDepth 100000 in
theorem c_X7_far (l : Launch) (D : va_G) (tk : Nat → ClassId) (h : Nat → Nat) (Mt : Nat → Nat → Nat) (hi : Int32) (la ce : Nat → Int32) (x y : Int32) (hW : VW (pgv Mt 0)) : MX l yX7_far cX7_far 3 (some .int) ⟨2, 0, 0, 46⟩ D (TYS tk) [.ref (h 0), .int x, .int y] (mW tk h Mt hi la ce) (fun (u : (Nat → Nat)) => True) (fun u => some (.int (a_far (pgv Mt 0) x y))) (fun u => mW tk h (u3 Mt 6 u) hi la ce) 0 0 := by
  refine MX.of_i (by decide) rfl ?_
  intro zp ze zs zm za zb zt zc zA zQ ls C0 hnm X hl hE
  have hx := C0.1
  have hb := C0.2.1
  have ht := C0.2.2.2.2.1
  have X : Hx D zA zs zs.heap [] (mW tk h Mt hi la ce) := X
  have hl : lv_has ls 3 [(0, .ref (h 0)), (1, .int x), (2, .int y)] := hl
  obtain ⟨hv1, hv2, hv3, hv4, hv5, hv6, hv7⟩ := id hW
  have hb1 : Mt 20 0 ≤ 6 := hv1
  have hb2 : Mt 0 42 ≤ 9 := hv2
  have hb3 : Mt 0 43 ≤ 20 := hv3
  have hb4 : Mt 0 62 ≤ 6 := hv4
  have hkd : ∀ t, t < Mt 20 0 → Mt 0 t ≤ 3 := fun t ht => by have q := hv5 t ht; rw [pv0] at q; exact q
  have hrt : ∀ i, i < Mt 0 42 → Mt 0 (6 + i) < Mt 20 0 ∧ Mt 0 (15 + i) < Mt 20 0 ∧ Mt 0 (6 + i) ≠ Mt 0 (15 + i) ∧ 1 ≤ Mt 0 (24 + i) ∧ Mt 0 (24 + i) ≤ 9 ∧ Mt 0 (33 + i) ≤ 1 := fun i hi => hv6 i hi
  have htk : ∀ k, k < Mt 0 62 → Mt 0 (44 + k) ≤ 23 ∧ Mt 0 (50 + k) < Mt 20 0 ∧ 1 ≤ Mt 0 (56 + k) ∧ Mt 0 (56 + k) ≤ 60 := fun k hk => hv7 k hk
  obtain ⟨H, hH⟩ : ∃ H, H = zs.heap := ⟨_, rfl⟩
  rw [← hH] at X ⊢
  obtain ⟨locs, hlo⟩ : ∃ L : List Loc, L = [] := ⟨_, rfl⟩
  rw [← hlo] at X ⊢
  refine lv_aload_n hx hb dX7_far_0 rfl (lv_at hl 0 rfl) ?_
  refine lv_iload_n hx hb dX7_far_1 rfl (lv_at hl 1 rfl) ?_
  refine g_callV (As := [.int x]) (rest := []) (wr := []) (C0.sz hl) X (c_X7_isTree l D tk h Mt hi la ce x (by first | assumption | omega)) ⟨tb981, tb984, tb8, ⟨by decide, by decide, rfl⟩, rfl, rfl, Nat.le_of_ble_eq_true rfl, Nat.le_of_ble_eq_true rfl⟩ tb983 tbs37 0 7 rfl rfl rfl rfl [0, 1, 2, 3, 4, 5, 6, 7, 8, 9, 10, 11, 12, 13] [] rfl rfl rfl rfl rfl (Nat.le_of_ble_eq_true rfl) ⟨Nat.le_of_ble_eq_true rfl, Nat.le_of_ble_eq_true rfl⟩ dX7_far_2 (fun _ H locs _ X => ?_)
  have X : Hx D zA zs H locs (mW tk h Mt hi la ce) := X
  refine g_ifeqB (x := ix x (Mt 20 0)) (tgt := 16) C0 dX7_far_5 rfl (fun c1 => ?_) (fun c2 => ?_)
  · refine lv_iconst (v := (-1)) hx hb dX7_far_16 (by decide) ?_
    exact hE (v := (-1)) (Mt 6) (by simp only [a_far, c1, pv80, pv81, pv82, pv83, pv0, pv1, pv2, pv3, pv4, pv5, pv6, pv7, eq_self, ne01, ne02, ne03, ne04, ne05, ne10, ne12, ne13, ne14, ne15, ne20, ne21, ne23, ne24, ne25, ne30, ne31, ne32, ne34, ne35, ne40, ne41, ne42, ne43, ne45, ne50, ne51, ne52, ne53, ne54, if_true, if_false, Bool.false_eq_true, Bool.and_self, Bool.and_true, Bool.and_false, Bool.true_and, Bool.false_and, Bool.not_true, Bool.not_false, decide_true, decide_false] <;> rfl) trivial X dX7_far_17
  · obtain ⟨xq, hk_xq, rfl⟩ := ix_sp c2
    refine lv_aload_n hx hb dX7_far_8 rfl (lv_at hl 0 rfl) ?_
    refine lv_iload_n hx hb dX7_far_9 rfl (lv_at hl 2 rfl) ?_
    refine g_callV (As := [.int y]) (rest := []) (wr := []) (C0.sz hl) X (c_X7_isTree l D tk h Mt hi la ce y (by first | assumption | omega)) ⟨tb981, tb984, tb8, ⟨by decide, by decide, rfl⟩, rfl, rfl, Nat.le_of_ble_eq_true rfl, Nat.le_of_ble_eq_true rfl⟩ tb983 tbs37 0 7 rfl rfl rfl rfl [0, 1, 2, 3, 4, 5, 6, 7, 8, 9, 10, 11, 12, 13] [] rfl rfl rfl rfl rfl (Nat.le_of_ble_eq_true rfl) ⟨Nat.le_of_ble_eq_true rfl, Nat.le_of_ble_eq_true rfl⟩ dX7_far_10 (fun _ H locs _ X => ?_)
    have X : Hx D zA zs H locs (mW tk h Mt hi la ce) := X
    refine g_ifneB (x := ix y (Mt 20 0)) (tgt := 18) C0 dX7_far_13 rfl (fun c3 => ?_) (fun c4 => ?_)
    · obtain ⟨yq, hk_yq, rfl⟩ := ix_sp c3
      refine lv_aload_n hx hb dX7_far_18 rfl (lv_at hl 0 rfl) ?_
      refine g_iconst (n := 0) C0 rfl dX7_far_19 ?_
      refine lv_iload_n hx hb dX7_far_20 rfl (lv_at hl 1 rfl) ?_
      refine g_callV (As := [.int (nI 0), .int (nI xq)]) (rest := []) (wr := []) (C0.sz hl) X (c_X7_waysOn l D tk h Mt hi la ce 0 xq (by first | assumption | omega) (by exact hW) (by first | assumption | omega)) ⟨tb962, tb965, tb8, ⟨by decide, by decide, rfl⟩, rfl, rfl, Nat.le_of_ble_eq_true rfl, Nat.le_of_ble_eq_true rfl⟩ tb964 tbs34 0 7 rfl rfl rfl rfl [0, 1, 2, 3, 4, 5, 6, 7, 8, 9, 10, 11, 12, 13] [] rfl rfl rfl rfl rfl (Nat.le_of_ble_eq_true rfl) ⟨Nat.le_of_ble_eq_true rfl, Nat.le_of_ble_eq_true rfl⟩ dX7_far_21 (fun _ H locs _ X => ?_)
      have X : Hx D zA zs H locs (mW tk h (u3 Mt 6 (dist (pgv Mt 0) xq)) hi la ce) := X
      refine lv_aload_n hx hb dX7_far_24 rfl (lv_at hl 0 rfl) ?_
      refine g_get (v := .ref (h 6)) C0 X kX7 0 17 tb815 rfl rfl rfl dX7_far_25 ?_
      refine lv_iload_n hx hb dX7_far_28 rfl (lv_at hl 2 rfl) ?_
      refine g_iald (v := nI ((dist (pgv Mt 0) xq) yq)) (i := yq) C0 X 6 0 rfl rfl (by omega) rfl rfl dX7_far_29 ?_
      have hL := dist_le (pgv Mt 0) xq yq
      refine g_sipush (n := 1000) C0 (by decide) dX7_far_30 ?_
      refine g_icmp_ge (x := (dist (pgv Mt 0) xq) yq) (y := 1000) (tgt := 45) C0 (by omega) (by omega) dX7_far_33 rfl (fun c5 => ?_) (fun c6 => ?_)
      · refine lv_bipush (v := (-4)) hx hb dX7_far_45 (by decide) ?_
        exact hE (v := (-4)) (dist (pgv Mt 0) xq) (by simp only [a_far, c2, c3, c5, tn_nI (k := xq) (by omega), tn_nI (k := yq) (by omega), pv80, pv81, pv82, pv83, pv0, pv1, pv2, pv3, pv4, pv5, pv6, pv7, eq_self, show dist (pgv Mt 0) xq yq = 1000 by omega, if_true, if_false, Bool.false_eq_true, Bool.and_self, Bool.and_true, Bool.and_false, Bool.true_and, Bool.false_and, Bool.not_true, Bool.not_false, decide_true, decide_false]) trivial X dX7_far_47
      · refine lv_aload_n hx hb dX7_far_36 rfl (lv_at hl 0 rfl) ?_
        refine g_get (v := .ref (h 6)) C0 X kX7 0 17 tb815 rfl rfl rfl dX7_far_37 ?_
        refine lv_iload_n hx hb dX7_far_40 rfl (lv_at hl 2 rfl) ?_
        refine g_iald (v := nI ((dist (pgv Mt 0) xq) yq)) (i := yq) C0 X 6 0 rfl rfl (by omega) rfl rfl dX7_far_41 ?_
        refine lv_goto (tgt := 47) hx hb dX7_far_42 (by decide) ?_
        exact hE (v := nI ((dist (pgv Mt 0) xq) yq)) (dist (pgv Mt 0) xq) (by simp only [a_far, c2, c3, c6, tn_nI (k := xq) (by omega), tn_nI (k := yq) (by omega), pv80, pv81, pv82, pv83, pv0, pv1, pv2, pv3, pv4, pv5, pv6, pv7, eq_self, show ¬ dist (pgv Mt 0) xq yq = 1000 by omega, if_true, if_false, Bool.false_eq_true, Bool.and_self, Bool.and_true, Bool.and_false, Bool.true_and, Bool.false_and, Bool.not_true, Bool.not_false, decide_true, decide_false]) trivial X dX7_far_47
    · refine lv_iconst (v := (-1)) hx hb dX7_far_16 (by decide) ?_
      exact hE (v := (-1)) (Mt 6) (by simp only [a_far, c2, c4, tn_nI (k := xq) (by omega), pv80, pv81, pv82, pv83, pv0, pv1, pv2, pv3, pv4, pv5, pv6, pv7, eq_self, ne01, ne02, ne03, ne04, ne05, ne10, ne12, ne13, ne14, ne15, ne20, ne21, ne23, ne24, ne25, ne30, ne31, ne32, ne34, ne35, ne40, ne41, ne42, ne43, ne45, ne50, ne51, ne52, ne53, ne54, if_true, if_false, Bool.false_eq_true, Bool.and_self, Bool.and_true, Bool.and_false, Bool.true_and, Bool.false_and, Bool.not_true, Bool.not_false, decide_true, decide_false] <;> rfl) trivial X dX7_far_17
set_option maxHeartbeats 4000000 in
set_option maxRecDepth 100000 in
theorem c_X7_loud (l : Launch) (D : va_G) (tk : Nat → ClassId) (h : Nat → Nat) (Mt : Nat → Nat → Nat) (hi : Int32) (la ce : Nat → Int32) (x y z : Int32) (hW : VW (pgv Mt 0)) : MX l yX7_loud cX7_loud 4 (some .int) ⟨2, 0, 0, 46⟩ D (TYS tk) [.ref (h 0), .int x, .int y, .int z] (mW tk h Mt hi la ce) (fun (u : (Nat → Nat)) => True) (fun u => some (.int (a_loud (pgv Mt 0) x y z))) (fun u => mW tk h (u3 Mt 6 u) hi la ce) 0 0 := by
  refine MX.of_i (by decide) rfl ?_
  intro zp ze zs zm za zb zt zc zA zQ ls C0 hnm X hl hE
  have hx := C0.1
  have hb := C0.2.1
  have ht := C0.2.2.2.2.1
  have X : Hx D zA zs zs.heap [] (mW tk h Mt hi la ce) := X
  have hl : lv_has ls 4 [(0, .ref (h 0)), (1, .int x), (2, .int y), (3, .int z)] := hl
  obtain ⟨hv1, hv2, hv3, hv4, hv5, hv6, hv7⟩ := id hW
  have hb1 : Mt 20 0 ≤ 6 := hv1
  have hb2 : Mt 0 42 ≤ 9 := hv2
  have hb3 : Mt 0 43 ≤ 20 := hv3
  have hb4 : Mt 0 62 ≤ 6 := hv4
  have hkd : ∀ t, t < Mt 20 0 → Mt 0 t ≤ 3 := fun t ht => by have q := hv5 t ht; rw [pv0] at q; exact q
  have hrt : ∀ i, i < Mt 0 42 → Mt 0 (6 + i) < Mt 20 0 ∧ Mt 0 (15 + i) < Mt 20 0 ∧ Mt 0 (6 + i) ≠ Mt 0 (15 + i) ∧ 1 ≤ Mt 0 (24 + i) ∧ Mt 0 (24 + i) ≤ 9 ∧ Mt 0 (33 + i) ≤ 1 := fun i hi => hv6 i hi
  have htk : ∀ k, k < Mt 0 62 → Mt 0 (44 + k) ≤ 23 ∧ Mt 0 (50 + k) < Mt 20 0 ∧ 1 ≤ Mt 0 (56 + k) ∧ Mt 0 (56 + k) ≤ 60 := fun k hk => hv7 k hk
  obtain ⟨H, hH⟩ : ∃ H, H = zs.heap := ⟨_, rfl⟩
  rw [← hH] at X ⊢
  obtain ⟨locs, hlo⟩ : ∃ L : List Loc, L = [] := ⟨_, rfl⟩
  rw [← hlo] at X ⊢
  refine lv_aload_n hx hb dX7_loud_0 rfl (lv_at hl 0 rfl) ?_
  refine lv_iload_n hx hb dX7_loud_1 rfl (lv_at hl 1 rfl) ?_
  refine g_callV (As := [.int x]) (rest := []) (wr := []) (C0.sz hl) X (c_X7_isTree l D tk h Mt hi la ce x (by first | assumption | omega)) ⟨tb981, tb984, tb8, ⟨by decide, by decide, rfl⟩, rfl, rfl, Nat.le_of_ble_eq_true rfl, Nat.le_of_ble_eq_true rfl⟩ tb983 tbs37 0 7 rfl rfl rfl rfl [0, 1, 2, 3, 4, 5, 6, 7, 8, 9, 10, 11, 12, 13] [] rfl rfl rfl rfl rfl (Nat.le_of_ble_eq_true rfl) ⟨Nat.le_of_ble_eq_true rfl, Nat.le_of_ble_eq_true rfl⟩ dX7_loud_2 (fun _ H locs _ X => ?_)
  have X : Hx D zA zs H locs (mW tk h Mt hi la ce) := X
  refine g_ifeqB (x := ix x (Mt 20 0)) (tgt := 23) C0 dX7_loud_5 rfl (fun c1 => ?_) (fun c2 => ?_)
  · refine lv_iconst (v := (-1)) hx hb dX7_loud_23 (by decide) ?_
    exact hE (v := (-1)) (Mt 6) (by simp only [a_loud, c1, pv80, pv81, pv82, pv83, pv0, pv1, pv2, pv3, pv4, pv5, pv6, pv7, eq_self, ne01, ne02, ne03, ne04, ne05, ne10, ne12, ne13, ne14, ne15, ne20, ne21, ne23, ne24, ne25, ne30, ne31, ne32, ne34, ne35, ne40, ne41, ne42, ne43, ne45, ne50, ne51, ne52, ne53, ne54, if_true, if_false, Bool.false_eq_true, Bool.and_self, Bool.and_true, Bool.and_false, Bool.true_and, Bool.false_and, Bool.not_true, Bool.not_false, decide_true, decide_false] <;> rfl) trivial X dX7_loud_24
  · obtain ⟨xq, hk_xq, rfl⟩ := ix_sp c2
    refine lv_aload_n hx hb dX7_loud_8 rfl (lv_at hl 0 rfl) ?_
    refine lv_iload_n hx hb dX7_loud_9 rfl (lv_at hl 2 rfl) ?_
    refine g_callV (As := [.int y]) (rest := []) (wr := []) (C0.sz hl) X (c_X7_isTree l D tk h Mt hi la ce y (by first | assumption | omega)) ⟨tb981, tb984, tb8, ⟨by decide, by decide, rfl⟩, rfl, rfl, Nat.le_of_ble_eq_true rfl, Nat.le_of_ble_eq_true rfl⟩ tb983 tbs37 0 7 rfl rfl rfl rfl [0, 1, 2, 3, 4, 5, 6, 7, 8, 9, 10, 11, 12, 13] [] rfl rfl rfl rfl rfl (Nat.le_of_ble_eq_true rfl) ⟨Nat.le_of_ble_eq_true rfl, Nat.le_of_ble_eq_true rfl⟩ dX7_loud_10 (fun _ H locs _ X => ?_)
    have X : Hx D zA zs H locs (mW tk h Mt hi la ce) := X
    refine g_ifeqB (x := ix y (Mt 20 0)) (tgt := 23) C0 dX7_loud_13 rfl (fun c3 => ?_) (fun c4 => ?_)
    · refine lv_iconst (v := (-1)) hx hb dX7_loud_23 (by decide) ?_
      exact hE (v := (-1)) (Mt 6) (by simp only [a_loud, c2, c3, tn_nI (k := xq) (by omega), pv80, pv81, pv82, pv83, pv0, pv1, pv2, pv3, pv4, pv5, pv6, pv7, eq_self, ne01, ne02, ne03, ne04, ne05, ne10, ne12, ne13, ne14, ne15, ne20, ne21, ne23, ne24, ne25, ne30, ne31, ne32, ne34, ne35, ne40, ne41, ne42, ne43, ne45, ne50, ne51, ne52, ne53, ne54, if_true, if_false, Bool.false_eq_true, Bool.and_self, Bool.and_true, Bool.and_false, Bool.true_and, Bool.false_and, Bool.not_true, Bool.not_false, decide_true, decide_false] <;> rfl) trivial X dX7_loud_24
    · obtain ⟨yq, hk_yq, rfl⟩ := ix_sp c4
      refine lv_iload_n hx hb dX7_loud_16 rfl (lv_at hl 3 rfl) ?_
      refine g_callS (As := [.int z]) (rest := []) (wr := (mW tk h Mt hi la ce)) (C0.sz hl) X (c_X7_isBreath l D tk z) ⟨tb1010, tb1012, tb8, ⟨by decide, by decide, rfl⟩, rfl, rfl, Nat.le_of_ble_eq_true rfl, Nat.le_of_ble_eq_true rfl⟩ tb1011 rfl [] [0, 1, 2, 3, 4, 5, 6, 7, 8, 9, 10, 11, 12, 13] rfl rfl rfl rfl rfl (Nat.le_of_ble_eq_true rfl) ⟨Nat.le_of_ble_eq_true rfl, Nat.le_of_ble_eq_true rfl⟩ dX7_loud_17 (fun _ H locs _ X => ?_)
      have X : Hx D zA zs H locs (mW tk h Mt hi la ce) := X
      refine g_ifneB (x := rg z 1 60) (tgt := 25) C0 dX7_loud_20 rfl (fun c5 => ?_) (fun c6 => ?_)
      · obtain ⟨zq, hk_zqa, hk_zqb, hk_zqc, rfl⟩ := rg_sp c5
        refine lv_aload_n hx hb dX7_loud_25 rfl (lv_at hl 0 rfl) ?_
        refine g_iconst (n := 0) C0 rfl dX7_loud_26 ?_
        refine lv_iload_n hx hb dX7_loud_27 rfl (lv_at hl 1 rfl) ?_
        refine g_callV (As := [.int (nI 0), .int (nI xq)]) (rest := []) (wr := []) (C0.sz hl) X (c_X7_waysOn l D tk h Mt hi la ce 0 xq (by first | assumption | omega) (by exact hW) (by first | assumption | omega)) ⟨tb962, tb965, tb8, ⟨by decide, by decide, rfl⟩, rfl, rfl, Nat.le_of_ble_eq_true rfl, Nat.le_of_ble_eq_true rfl⟩ tb964 tbs34 0 7 rfl rfl rfl rfl [0, 1, 2, 3, 4, 5, 6, 7, 8, 9, 10, 11, 12, 13] [] rfl rfl rfl rfl rfl (Nat.le_of_ble_eq_true rfl) ⟨Nat.le_of_ble_eq_true rfl, Nat.le_of_ble_eq_true rfl⟩ dX7_loud_28 (fun _ H locs _ X => ?_)
        have X : Hx D zA zs H locs (mW tk h (u3 Mt 6 (dist (pgv Mt 0) xq)) hi la ce) := X
        refine lv_aload_n hx hb dX7_loud_31 rfl (lv_at hl 0 rfl) ?_
        refine g_iconst (n := 0) C0 rfl dX7_loud_32 ?_
        refine lv_iload_n hx hb dX7_loud_33 rfl (lv_at hl 2 rfl) ?_
        refine lv_iload_n hx hb dX7_loud_34 rfl (lv_at hl 3 rfl) ?_
        refine g_callV (As := [.int (nI 0), .int (nI yq), .int (nI zq)]) (rest := []) (wr := []) (C0.sz hl) X (c_X7_loudOn l D tk h (u3 Mt 6 (dist (pgv Mt 0) xq)) hi la ce 0 yq zq (by omega) (by omega) (by rw [Nat.zero_add]; exact hkd yq (by omega)) (by exact dist_le _ _ _) (by omega)) ⟨tb970, tb973, tb8, ⟨by decide, by decide, rfl⟩, rfl, rfl, Nat.le_of_ble_eq_true rfl, Nat.le_of_ble_eq_true rfl⟩ tb972 tbs36 0 7 rfl rfl rfl rfl [0, 1, 2, 3, 4, 5, 6, 7, 8, 9, 10, 11, 12, 13] [] rfl rfl rfl rfl rfl (Nat.le_of_ble_eq_true rfl) ⟨Nat.le_of_ble_eq_true rfl, Nat.le_of_ble_eq_true rfl⟩ dX7_loud_35 (fun _ H locs _ X => ?_)
        have X : Hx D zA zs H locs (mW tk h (u3 Mt 6 (dist (pgv Mt 0) xq)) hi la ce) := X
        exact hE (v := nI (loudS (Mt 0 (0 + yq)) zq ((u3 Mt 6 (dist (pgv Mt 0) xq)) 6 yq))) (dist (pgv Mt 0) xq) (by simp only [a_loud, c2, c4, c5, tn_nI (k := xq) (by omega), tn_nI (k := yq) (by omega), tn_nI (k := zq) (by omega), pv80, pv81, pv82, pv83, pv0, pv1, pv2, pv3, pv4, pv5, pv6, pv7, eq_self, Nat.zero_add, if_true, if_false, Bool.false_eq_true, Bool.and_self, Bool.and_true, Bool.and_false, Bool.true_and, Bool.false_and, Bool.not_true, Bool.not_false, decide_true, decide_false]) trivial X dX7_loud_38
      · refine lv_iconst (v := (-1)) hx hb dX7_loud_23 (by decide) ?_
        exact hE (v := (-1)) (Mt 6) (by simp only [a_loud, c2, c4, c6, tn_nI (k := xq) (by omega), tn_nI (k := yq) (by omega), pv80, pv81, pv82, pv83, pv0, pv1, pv2, pv3, pv4, pv5, pv6, pv7, eq_self, ne01, ne02, ne03, ne04, ne05, ne10, ne12, ne13, ne14, ne15, ne20, ne21, ne23, ne24, ne25, ne30, ne31, ne32, ne34, ne35, ne40, ne41, ne42, ne43, ne45, ne50, ne51, ne52, ne53, ne54, if_true, if_false, Bool.false_eq_true, Bool.and_self, Bool.and_true, Bool.and_false, Bool.true_and, Bool.false_and, Bool.not_true, Bool.not_false, decide_true, decide_false] <;> rfl) trivial X dX7_loud_24
