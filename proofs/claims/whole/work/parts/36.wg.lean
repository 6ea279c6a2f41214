set_option maxHeartbeats 4000000 in
set_option maxRecDepth 100000 in
theorem c_X7_tree (l : Launch) (D : va_G) (tk : Nat → ClassId) (h : Nat → Nat) (Mt : Nat → Nat → Nat) (hi : Int32) (la ce : Nat → Int32) (x y : Int32) (hW : VW (pgv Mt 0)) : MX l yX7_tree cX7_tree 7 (some .int) ⟨4, 0, 0, 95⟩ D (TYS tk) [.ref (h 0), .int x, .int y] (mW tk h Mt hi la ce) (fun (u : (Nat → Nat) × (Nat → Nat)) => True) (fun u => some (.int (a_tree (pgv Mt 0) x y))) (fun u => mW tk h (u3 (u3 Mt 6 u.1) 7 u.2) hi la ce) 0 0 := by
  refine MX.of_i (by decide) rfl ?_
  intro zp ze zs zm za zb zt zc zA zQ ls C0 hnm X hl hE
  have hx := C0.1
  have hb := C0.2.1
  have ht := C0.2.2.2.2.1
  have X : Hx D zA zs zs.heap [] (mW tk h Mt hi la ce) := X
  have hl : lv_has ls 7 [(0, .ref (h 0)), (1, .int x), (2, .int y)] := hl
  obtain ⟨hv1, hv2, hv3, hv4, hv5, hv6, hv7⟩ := id hW
  have hb1 : Mt 20 0 ≤ 6 := hv1
  have hb2 : Mt 0 42 ≤ 9 := hv2
  have hb3 : Mt 0 43 ≤ 20 := hv3
  have hb4 : Mt 0 62 ≤ 6 := hv4
  have hkd : ∀ t, t < Mt 20 0 → Mt 0 t ≤ 3 := fun t ht => by have q := hv5 t ht; rw [pv0] at q; exact q
  have hrt : ∀ i, i < Mt 0 42 → Mt 0 (6 + i) < Mt 20 0 ∧ Mt 0 (15 + i) < Mt 20 0 ∧ Mt 0 (6 + i) ≠ Mt 0 (15 + i) ∧ 1 ≤ Mt 0 (24 + i) ∧ Mt 0 (24 + i) ≤ 9 ∧ Mt 0 (33 + i) ≤ 1 := fun i hi => hv6 i hi
  have htk : ∀ k, k < Mt 0 62 → Mt 0 (44 + k) ≤ 23 ∧ Mt 0 (50 + k) < Mt 20 0 ∧ 1 ≤ Mt 0 (56 + k) ∧ Mt 0 (56 + k) ≤ 60 := fun k hk => hv7 k hk
  obtain ⟨H, hH⟩ : ∃ H, H = zs.heap := ⟨_, rfl⟩
  rw [← hH] at X ⊢
  obtain ⟨locs, hlo⟩ : ∃ L : List Loc, L = [] := ⟨_, rfl⟩
  rw [← hlo] at X ⊢
  refine lv_aload_n hx hb dX7_tree_0 rfl (lv_at hl 0 rfl) ?_
  refine lv_iload_n hx hb dX7_tree_1 rfl (lv_at hl 1 rfl) ?_
  refine g_callV (As := [.int x]) (rest := []) (wr := []) (C0.sz hl) X (c_X7_isTree l D tk h Mt hi la ce x (by first | assumption | omega)) ⟨tb980, tb983, tb8, ⟨by decide, by decide, rfl⟩, rfl, rfl, Nat.le_of_ble_eq_true rfl, Nat.le_of_ble_eq_true rfl⟩ tb982 tbs37 0 7 rfl rfl rfl rfl [0, 1, 2, 3, 4, 5, 6, 7, 8, 9, 10, 11, 12, 13] [] rfl rfl rfl rfl rfl (Nat.le_of_ble_eq_true rfl) ⟨Nat.le_of_ble_eq_true rfl, Nat.le_of_ble_eq_true rfl⟩ dX7_tree_2 (fun _ H locs _ X => ?_)
  have X : Hx D zA zs H locs (mW tk h Mt hi la ce) := X
  refine g_ifeqB (x := ix x (Mt 20 0)) (tgt := 20) C0 dX7_tree_5 rfl (fun c1 => ?_) (fun c2 => ?_)
  · refine lv_iconst (v := (-1)) hx hb dX7_tree_20 (by decide) ?_
    exact hE (v := (-1)) (Mt 6, Mt 7) (by simp only [a_tree, c1, pv80, pv81, pv82, pv83, pv0, pv1, pv2, pv3, pv4, pv5, pv6, pv7, eq_self, ne01, ne02, ne03, ne04, ne05, ne10, ne12, ne13, ne14, ne15, ne20, ne21, ne23, ne24, ne25, ne30, ne31, ne32, ne34, ne35, ne40, ne41, ne42, ne43, ne45, ne50, ne51, ne52, ne53, ne54, if_true, if_false, Bool.false_eq_true, Bool.and_self, Bool.and_true, Bool.and_false, Bool.true_and, Bool.false_and, Bool.not_true, Bool.not_false, decide_true, decide_false] <;> rfl) trivial X dX7_tree_21
  · obtain ⟨xq, hk_xq, rfl⟩ := ix_sp c2
    refine lv_iload_n hx hb dX7_tree_8 rfl (lv_at hl 2 rfl) ?_
    refine lv_i2l hx hb dX7_tree_9 rfl ?_
    refine g_lconst (n := 0) C0 rfl dX7_tree_10 ?_
    refine lv_ldc2 (v := lN 3) hx hb C0.2.2.2.1 (ht _ tb984) dX7_tree_11 ?_
    refine g_callS (As := [.long (Int32.toInt64 y), .long (lN 0), .long (lN 3)]) (rest := []) (wr := (mW tk h Mt hi la ce)) (C0.sz hl) X (c_X7_in l D tk (Int32.toInt64 y) (lN 0) (lN 3)) ⟨tb885, tb887, tb8, ⟨by decide, by decide, rfl⟩, rfl, rfl, Nat.le_of_ble_eq_true rfl, Nat.le_of_ble_eq_true rfl⟩ tb886 rfl [] [0, 1, 2, 3, 4, 5, 6, 7, 8, 9, 10, 11, 12, 13] rfl rfl rfl rfl rfl (Nat.le_of_ble_eq_true rfl) ⟨Nat.le_of_ble_eq_true rfl, Nat.le_of_ble_eq_true rfl⟩ dX7_tree_14 (fun _ H locs _ X => ?_)
    have X : Hx D zA zs H locs (mW tk h Mt hi la ce) := X
    refine g_top (y := nI (rb (rg y 0 3))) (by rw [inL_rg y (by first | decide | omega) (by first | decide | omega)]) ?_
    refine g_ifneB (x := rg y 0 3) (tgt := 22) C0 dX7_tree_17 rfl (fun c3 => ?_) (fun c4 => ?_)
    · obtain ⟨yq, hk_yqa, hk_yqb, hk_yqc, rfl⟩ := rg_sp c3
      refine g_iconst (n := 0) C0 rfl dX7_tree_22 ?_
      refine lv_istore_n (lv' := [(3, .int (nI 0)), (0, .ref (h 0)), (1, .int (nI xq)), (2, .int (nI yq))]) hx hb dX7_tree_23 rfl hl (by decide) rfl (fun ls hl => ?_)
      refine g_iconst (n := 0) C0 rfl dX7_tree_24 ?_
      refine lv_istore (lv' := [(4, .int (nI 0)), (3, .int (nI 0)), (0, .ref (h 0)), (1, .int (nI xq)), (2, .int (nI yq))]) hx hb dX7_tree_25 hl (by decide) rfl (fun ls hl => ?_)
      refine g_iconst (n := 0) C0 rfl dX7_tree_27 ?_
      refine lv_istore (lv' := [(5, .int (nI 0)), (4, .int (nI 0)), (3, .int (nI 0)), (0, .ref (h 0)), (1, .int (nI xq)), (2, .int (nI yq))]) hx hb dX7_tree_28 hl (by decide) rfl (fun ls hl => ?_)
      refine g_iconst (n := 0) C0 rfl dX7_tree_30 ?_
      refine lv_istore (lv' := [(6, .int (nI 0)), (5, .int (nI 0)), (4, .int (nI 0)), (3, .int (nI 0)), (0, .ref (h 0)), (1, .int (nI xq)), (2, .int (nI yq))]) hx hb dX7_tree_31 hl (by decide) rfl (fun ls hl => ?_)
      have J33 : ∀ (fz : Nat) (i wh : Nat), Mt 0 42 - i < fz → ∀ (hi1 : i ≤ Mt 0 42) (hwh : wh = cnt (wholeP (pgv Mt 0) xq) i) (H : Heap) (locs : List Loc) (ls : Array Slot), Hx D zA zs H locs (mW tk h Mt hi la ce) → lv_has ls 7 [(6, .int (nI i)), (5, .int (nI 0)), (4, .int (nI 0)), (3, .int (nI wh)), (0, .ref (h 0)), (1, .int (nI xq)), (2, .int (nI yq))] → W zp l ze ⟨4, 0, 0, 95⟩ zs zm za zb zt zc H locs 0 0 zQ (F0 zm 33 ls []) := by
        intro fz
        induction fz with
        | zero => intro i wh hz; exact absurd hz (Nat.not_lt_zero _)
        | succ fz ih33 =>
          intro i wh hz33 hi1 hwh H locs ls X hl
          refine lv_iload hx hb dX7_tree_33 (lv_at hl 0 rfl) ?_
          refine lv_aload_n hx hb dX7_tree_35 rfl (lv_at hl 4 rfl) ?_
          refine g_get (v := .ref (h 1)) C0 X kX7 0 0 tb797 rfl rfl rfl dX7_tree_36 ?_
          refine g_bipush (n := 42) C0 (by decide) dX7_tree_39 ?_
          refine g_iald (v := nI (Mt 0 42)) (i := 42) C0 X 1 0 rfl rfl (by omega) rfl rfl dX7_tree_41 ?_
          refine g_icmp_ge (x := i) (y := Mt 0 42) (tgt := 100) C0 (by omega) (by omega) dX7_tree_42 rfl (fun c5 => ?_) (fun c6 => ?_)
          · refine lv_aload_n hx hb dX7_tree_100 rfl (lv_at hl 4 rfl) ?_
            refine g_iconst (n := 0) C0 rfl dX7_tree_101 ?_
            refine lv_iload_n hx hb dX7_tree_102 rfl (lv_at hl 5 rfl) ?_
            refine g_callV (As := [.int (nI 0), .int (nI xq)]) (rest := []) (wr := []) (C0.sz hl) X (c_X7_waysOn l D tk h Mt hi la ce 0 xq (by first | assumption | omega) (by exact hW) (by first | assumption | omega)) ⟨tb961, tb964, tb8, ⟨by decide, by decide, rfl⟩, rfl, rfl, Nat.le_of_ble_eq_true rfl, Nat.le_of_ble_eq_true rfl⟩ tb963 tbs34 0 7 rfl rfl rfl rfl [0, 1, 2, 3, 4, 5, 6, 7, 8, 9, 10, 11, 12, 13] [] rfl rfl rfl rfl rfl (Nat.le_of_ble_eq_true rfl) ⟨Nat.le_of_ble_eq_true rfl, Nat.le_of_ble_eq_true rfl⟩ dX7_tree_103 (fun _ H locs _ X => ?_)
            have X : Hx D zA zs H locs (mW tk h (u3 Mt 6 (dist (pgv Mt 0) xq)) hi la ce) := X
            refine g_iconst (n := 0) C0 rfl dX7_tree_106 ?_
            refine lv_istore (lv' := [(6, .int (nI 0)), (5, .int (nI 0)), (4, .int (nI 0)), (3, .int (nI wh)), (0, .ref (h 0)), (1, .int (nI xq)), (2, .int (nI yq))]) hx hb dX7_tree_107 hl (by decide) rfl (fun ls hl => ?_)
            have J109 : ∀ (fz : Nat) (j bs : Nat), Mt 20 0 - j < fz → ∀ (hj1 : j ≤ Mt 20 0) (hbs : bs = bset (reachP (pgv Mt 0) xq) j) (H : Heap) (locs : List Loc) (ls : Array Slot), Hx D zA zs H locs (mW tk h (u3 Mt 6 (dist (pgv Mt 0) xq)) hi la ce) → lv_has ls 7 [(6, .int (nI j)), (5, .int (nI 0)), (4, .int (nI bs)), (3, .int (nI wh)), (0, .ref (h 0)), (1, .int (nI xq)), (2, .int (nI yq))] → W zp l ze ⟨4, 0, 0, 95⟩ zs zm za zb zt zc H locs 0 0 zQ (F0 zm 109 ls []) := by
              intro fz
              induction fz with
              | zero => intro j bs hz; exact absurd hz (Nat.not_lt_zero _)
              | succ fz ih109 =>
                intro j bs hz109 hj1 hbs H locs ls X hl
                refine lv_iload hx hb dX7_tree_109 (lv_at hl 0 rfl) ?_
                refine lv_aload_n hx hb dX7_tree_111 rfl (lv_at hl 4 rfl) ?_
                refine g_get (v := .int (nI (Mt 20 0))) C0 X kX7 0 1 tb798 rfl rfl rfl dX7_tree_112 ?_
                refine g_icmp_ge (x := j) (y := Mt 20 0) (tgt := 150) C0 (by omega) (by omega) dX7_tree_115 rfl (fun c7 => ?_) (fun c8 => ?_)
                · refine lv_aload_n hx hb dX7_tree_150 rfl (lv_at hl 4 rfl) ?_
                  refine g_iconst (n := 0) C0 rfl dX7_tree_151 ?_
                  refine g_callV (As := [.int (nI 0)]) (rest := []) (wr := []) (C0.sz hl) X (c_X7_talksOn l D tk h (u3 Mt 6 (dist (pgv Mt 0) xq)) hi la ce 0 (by omega) (by exact hW)) ⟨tb953, tb956, tb8, ⟨by decide, by decide, rfl⟩, rfl, rfl, Nat.le_of_ble_eq_true rfl, Nat.le_of_ble_eq_true rfl⟩ tb955 tbs32 0 7 rfl rfl rfl rfl [0, 1, 2, 3, 4, 5, 6, 7, 8, 9, 10, 11, 12, 13] [] rfl rfl rfl rfl rfl (Nat.le_of_ble_eq_true rfl) ⟨Nat.le_of_ble_eq_true rfl, Nat.le_of_ble_eq_true rfl⟩ dX7_tree_152 (fun uq9 H locs hp10 X => ?_)
                  have X : Hx D zA zs H locs (mW tk h (u3 (u3 Mt 6 uq9.1) 7 uq9.2) hi la ce) := X
                  have hp10 : ∀ j, j < Mt 0 (0 + 62) → uq9.2 j = heardS (pgv Mt 0) j := hp10
                  have hpT := hp10
                  refine lv_pop hx hb dX7_tree_155 rfl ?_
                  refine g_iconst (n := 0) C0 rfl dX7_tree_156 ?_
                  refine lv_istore (lv' := [(6, .int (nI 0)), (5, .int (nI 0)), (4, .int (nI bs)), (3, .int (nI wh)), (0, .ref (h 0)), (1, .int (nI xq)), (2, .int (nI yq))]) hx hb dX7_tree_157 hl (by decide) rfl (fun ls hl => ?_)
                  have J159 : ∀ (fz : Nat) (k ts : Nat), Mt 0 62 - k < fz → ∀ (hk1 : k ≤ Mt 0 62) (hts : ts = bset (fun k => (heardS (pgv Mt 0) k).testBit xq) k) (H : Heap) (locs : List Loc) (ls : Array Slot), Hx D zA zs H locs (mW tk h (u3 (u3 Mt 6 uq9.1) 7 uq9.2) hi la ce) → lv_has ls 7 [(6, .int (nI k)), (5, .int (nI ts)), (4, .int (nI bs)), (3, .int (nI wh)), (0, .ref (h 0)), (1, .int (nI xq)), (2, .int (nI yq))] → W zp l ze ⟨4, 0, 0, 95⟩ zs zm za zb zt zc H locs 0 0 zQ (F0 zm 159 ls []) := by
                    intro fz
                    induction fz with
                    | zero => intro k ts hz; exact absurd hz (Nat.not_lt_zero _)
                    | succ fz ih159 =>
                      intro k ts hz159 hk1 hts H locs ls X hl
                      refine lv_iload hx hb dX7_tree_159 (lv_at hl 0 rfl) ?_
                      refine lv_aload_n hx hb dX7_tree_161 rfl (lv_at hl 4 rfl) ?_
                      refine g_get (v := .ref (h 1)) C0 X kX7 0 0 tb797 rfl rfl rfl dX7_tree_162 ?_
                      refine g_bipush (n := 62) C0 (by decide) dX7_tree_165 ?_
                      refine g_iald (v := nI (Mt 0 62)) (i := 62) C0 X 1 0 rfl rfl (by omega) rfl rfl dX7_tree_167 ?_
                      refine g_icmp_ge (x := k) (y := Mt 0 62) (tgt := 196) C0 (by omega) (by omega) dX7_tree_168 rfl (fun c11 => ?_) (fun c12 => ?_)
                      · have ewh : wh = cnt (wholeP (pgv Mt 0) xq) (Mt 0 42) := by rw [hwh, show i = Mt 0 42 by omega]
                        have ebs : bs = bset (reachP (pgv Mt 0) xq) (Mt 20 0) := by rw [hbs, show j = Mt 20 0 by omega]
                        have ets : ts = bset (fun k => (heardS (pgv Mt 0) k).testBit xq) (Mt 0 62) := by rw [hts, show k = Mt 0 62 by omega]
                        rcases (show yq = 0 ∨ yq = 1 ∨ yq = 2 ∨ yq = 3 by omega) with rfl | rfl | rfl | rfl
                        · have ewh : wh = cnt (wholeP (pgv Mt 0) xq) (Mt 0 42) := by rw [hwh, show i = Mt 0 42 by omega]
                          have ebs : bs = bset (reachP (pgv Mt 0) xq) (Mt 20 0) := by rw [hbs, show j = Mt 20 0 by omega]
                          have ets : ts = bset (fun k => (heardS (pgv Mt 0) k).testBit xq) (Mt 0 62) := by rw [hts, show k = Mt 0 62 by omega]
                          refine lv_iload_n hx hb dX7_tree_196 rfl (lv_at hl 6 rfl) ?_
                          refine g_ifne (x := 0) (tgt := 209) C0 (by decide) dX7_tree_197 rfl (fun q => absurd q (by decide)) (fun _ => ?_)
                          refine lv_aload_n hx hb dX7_tree_200 rfl (lv_at hl 4 rfl) ?_
                          refine g_get (v := .ref (h 1)) C0 X kX7 0 0 tb797 rfl rfl rfl dX7_tree_201 ?_
                          refine lv_iload_n hx hb dX7_tree_204 rfl (lv_at hl 5 rfl) ?_
                          refine g_iald (v := nI (Mt 0 xq)) (i := xq) C0 X 1 0 rfl rfl (by omega) rfl rfl dX7_tree_205 ?_
                          refine lv_goto (tgt := 230) hx hb dX7_tree_206 (by decide) ?_
                          exact hE (v := nI (Mt 0 xq)) (uq9.1, uq9.2) (by simp only [a_tree, c2, c3, c5, c7, c11, tn_nI (k := xq) (by omega), tn_nI (k := 0) (by omega), pv80, pv81, pv82, pv83, pv0, pv1, pv2, pv3, pv4, pv5, pv6, pv7, eq_self, ne01, ne02, ne03, ne04, ne05, ne10, ne12, ne13, ne14, ne15, ne20, ne21, ne23, ne24, ne25, ne30, ne31, ne32, ne34, ne35, ne40, ne41, ne42, ne43, ne45, ne50, ne51, ne52, ne53, ne54, ← ewh, ← ebs, ← ets, if_true, if_false, Bool.false_eq_true, Bool.and_self, Bool.and_true, Bool.and_false, Bool.true_and, Bool.false_and, Bool.not_true, Bool.not_false, decide_true, decide_false] <;> rfl) trivial X dX7_tree_230
                        · have ewh : wh = cnt (wholeP (pgv Mt 0) xq) (Mt 0 42) := by rw [hwh, show i = Mt 0 42 by omega]
                          have ebs : bs = bset (reachP (pgv Mt 0) xq) (Mt 20 0) := by rw [hbs, show j = Mt 20 0 by omega]
                          have ets : ts = bset (fun k => (heardS (pgv Mt 0) k).testBit xq) (Mt 0 62) := by rw [hts, show k = Mt 0 62 by omega]
                          refine lv_iload_n hx hb dX7_tree_196 rfl (lv_at hl 6 rfl) ?_
                          refine g_ifne (x := 1) (tgt := 209) C0 (by decide) dX7_tree_197 rfl (fun _ => ?_) (fun q => absurd q (by decide))
                          refine lv_iload_n hx hb dX7_tree_209 rfl (lv_at hl 6 rfl) ?_
                          refine g_iconst (n := 1) C0 rfl dX7_tree_210 ?_
                          refine g_icmp_ne (x := 1) (y := 1) (tgt := 218) C0 (by decide) (by decide) dX7_tree_211 rfl (fun q => absurd q (by decide)) (fun _ => ?_)
                          refine lv_iload_n hx hb dX7_tree_214 rfl (lv_at hl 3 rfl) ?_
                          refine lv_goto (tgt := 230) hx hb dX7_tree_215 (by decide) ?_
                          exact hE (v := nI wh) (uq9.1, uq9.2) (by simp only [a_tree, c2, c3, c5, c7, c11, tn_nI (k := xq) (by omega), tn_nI (k := 1) (by omega), pv80, pv81, pv82, pv83, pv0, pv1, pv2, pv3, pv4, pv5, pv6, pv7, eq_self, ne01, ne02, ne03, ne04, ne05, ne10, ne12, ne13, ne14, ne15, ne20, ne21, ne23, ne24, ne25, ne30, ne31, ne32, ne34, ne35, ne40, ne41, ne42, ne43, ne45, ne50, ne51, ne52, ne53, ne54, ← ewh, ← ebs, ← ets, if_true, if_false, Bool.false_eq_true, Bool.and_self, Bool.and_true, Bool.and_false, Bool.true_and, Bool.false_and, Bool.not_true, Bool.not_false, decide_true, decide_false] <;> rfl) trivial X dX7_tree_230
                        · have ewh : wh = cnt (wholeP (pgv Mt 0) xq) (Mt 0 42) := by rw [hwh, show i = Mt 0 42 by omega]
                          have ebs : bs = bset (reachP (pgv Mt 0) xq) (Mt 20 0) := by rw [hbs, show j = Mt 20 0 by omega]
                          have ets : ts = bset (fun k => (heardS (pgv Mt 0) k).testBit xq) (Mt 0 62) := by rw [hts, show k = Mt 0 62 by omega]
                          refine lv_iload_n hx hb dX7_tree_196 rfl (lv_at hl 6 rfl) ?_
                          refine g_ifne (x := 2) (tgt := 209) C0 (by decide) dX7_tree_197 rfl (fun _ => ?_) (fun q => absurd q (by decide))
                          refine lv_iload_n hx hb dX7_tree_209 rfl (lv_at hl 6 rfl) ?_
                          refine g_iconst (n := 1) C0 rfl dX7_tree_210 ?_
                          refine g_icmp_ne (x := 2) (y := 1) (tgt := 218) C0 (by decide) (by decide) dX7_tree_211 rfl (fun _ => ?_) (fun q => absurd q (by decide))
                          refine lv_iload_n hx hb dX7_tree_218 rfl (lv_at hl 6 rfl) ?_
                          refine g_iconst (n := 2) C0 rfl dX7_tree_219 ?_
                          refine g_icmp_ne (x := 2) (y := 2) (tgt := 228) C0 (by decide) (by decide) dX7_tree_220 rfl (fun q => absurd q (by decide)) (fun _ => ?_)
                          refine lv_iload hx hb dX7_tree_223 (lv_at hl 2 rfl) ?_
                          refine lv_goto (tgt := 230) hx hb dX7_tree_225 (by decide) ?_
                          exact hE (v := nI bs) (uq9.1, uq9.2) (by simp only [a_tree, c2, c3, c5, c7, c11, tn_nI (k := xq) (by omega), tn_nI (k := 2) (by omega), pv80, pv81, pv82, pv83, pv0, pv1, pv2, pv3, pv4, pv5, pv6, pv7, eq_self, ne01, ne02, ne03, ne04, ne05, ne10, ne12, ne13, ne14, ne15, ne20, ne21, ne23, ne24, ne25, ne30, ne31, ne32, ne34, ne35, ne40, ne41, ne42, ne43, ne45, ne50, ne51, ne52, ne53, ne54, ← ewh, ← ebs, ← ets, if_true, if_false, Bool.false_eq_true, Bool.and_self, Bool.and_true, Bool.and_false, Bool.true_and, Bool.false_and, Bool.not_true, Bool.not_false, decide_true, decide_false] <;> rfl) trivial X dX7_tree_230
                        · have ewh : wh = cnt (wholeP (pgv Mt 0) xq) (Mt 0 42) := by rw [hwh, show i = Mt 0 42 by omega]
                          have ebs : bs = bset (reachP (pgv Mt 0) xq) (Mt 20 0) := by rw [hbs, show j = Mt 20 0 by omega]
                          have ets : ts = bset (fun k => (heardS (pgv Mt 0) k).testBit xq) (Mt 0 62) := by rw [hts, show k = Mt 0 62 by omega]
                          refine lv_iload_n hx hb dX7_tree_196 rfl (lv_at hl 6 rfl) ?_
                          refine g_ifne (x := 3) (tgt := 209) C0 (by decide) dX7_tree_197 rfl (fun _ => ?_) (fun q => absurd q (by decide))
                          refine lv_iload_n hx hb dX7_tree_209 rfl (lv_at hl 6 rfl) ?_
                          refine g_iconst (n := 1) C0 rfl dX7_tree_210 ?_
                          refine g_icmp_ne (x := 3) (y := 1) (tgt := 218) C0 (by decide) (by decide) dX7_tree_211 rfl (fun _ => ?_) (fun q => absurd q (by decide))
                          refine lv_iload_n hx hb dX7_tree_218 rfl (lv_at hl 6 rfl) ?_
                          refine g_iconst (n := 2) C0 rfl dX7_tree_219 ?_
                          refine g_icmp_ne (x := 3) (y := 2) (tgt := 228) C0 (by decide) (by decide) dX7_tree_220 rfl (fun _ => ?_) (fun q => absurd q (by decide))
                          refine lv_iload hx hb dX7_tree_228 (lv_at hl 1 rfl) ?_
                          exact hE (v := nI ts) (uq9.1, uq9.2) (by simp only [a_tree, c2, c3, c5, c7, c11, tn_nI (k := xq) (by omega), tn_nI (k := 3) (by omega), pv80, pv81, pv82, pv83, pv0, pv1, pv2, pv3, pv4, pv5, pv6, pv7, eq_self, ne01, ne02, ne03, ne04, ne05, ne10, ne12, ne13, ne14, ne15, ne20, ne21, ne23, ne24, ne25, ne30, ne31, ne32, ne34, ne35, ne40, ne41, ne42, ne43, ne45, ne50, ne51, ne52, ne53, ne54, ← ewh, ← ebs, ← ets, if_true, if_false, Bool.false_eq_true, Bool.and_self, Bool.and_true, Bool.and_false, Bool.true_and, Bool.false_and, Bool.not_true, Bool.not_false, decide_true, decide_false] <;> rfl) trivial X dX7_tree_230
                      · have he := hpT k (by show k < Mt 0 (0 + 62); rw [Nat.zero_add]; omega)
                        have hLh := heardS_lt (pgv Mt 0) k hv1
                        have hLu : (u3 (u3 Mt 6 uq9.1) 7 uq9.2) 7 k < 64 := by show _ < 64; rw [show (u3 (u3 Mt 6 uq9.1) 7 uq9.2) 7 k = heardS (pgv Mt 0) k from he]; exact hLh
                        refine lv_iload hx hb dX7_tree_171 (lv_at hl 1 rfl) ?_
                        refine lv_aload_n hx hb dX7_tree_173 rfl (lv_at hl 4 rfl) ?_
                        refine g_get (v := .ref (h 7)) C0 X kX7 0 18 tb815 rfl rfl rfl dX7_tree_174 ?_
                        refine lv_iload hx hb dX7_tree_177 (lv_at hl 0 rfl) ?_
                        refine g_iald (v := nI (uq9.2 k)) (i := k) C0 X 7 0 rfl rfl (by omega) rfl rfl dX7_tree_179 ?_
                        refine lv_iload_n hx hb dX7_tree_180 rfl (lv_at hl 5 rfl) ?_
                        refine g_ishr (n := (uq9.2 k) / 2 ^ xq) C0 (by exact Nat.lt_trans (show _ < 64 from hLu) (by decide)) (by first | decide | omega) rfl dX7_tree_181 ?_
                        refine g_iconst (n := 1) C0 rfl dX7_tree_182 ?_
                        refine g_iand (n := ((uq9.2 k) / 2 ^ xq) &&& 1) C0 rfl dX7_tree_183 ?_
                        refine g_top (y := nI (rb ((heardS (pgv Mt 0) k).testBit xq))) (by rw [tbv, he]) ?_
                        refine lv_iload hx hb dX7_tree_184 (lv_at hl 0 rfl) ?_
                        refine g_ishl (n := (rb ((heardS (pgv Mt 0) k).testBit xq)) * 2 ^ k) C0 (by exact shl_lt (rb_le1 _) (show k < 9 by omega)) (by first | exact Nat.one_mul _ | rfl) dX7_tree_186 ?_
                        refine g_ior (n := ts ||| ((rb ((heardS (pgv Mt 0) k).testBit xq)) * 2 ^ k)) C0 rfl dX7_tree_187 ?_
                        refine lv_istore (lv' := [(5, .int (nI (ts ||| ((rb ((heardS (pgv Mt 0) k).testBit xq)) * 2 ^ k)))), (6, .int (nI k)), (4, .int (nI bs)), (3, .int (nI wh)), (0, .ref (h 0)), (1, .int (nI xq)), (2, .int (nI yq))]) hx hb dX7_tree_188 hl (by decide) rfl (fun ls hl => ?_)
                        refine g_iinc (j := 1) (z := k + 1) (lv' := [(6, .int (nI (k + 1))), (5, .int (nI (ts ||| ((rb ((heardS (pgv Mt 0) k).testBit xq)) * 2 ^ k)))), (4, .int (nI bs)), (3, .int (nI wh)), (0, .ref (h 0)), (1, .int (nI xq)), (2, .int (nI yq))]) C0 rfl (by first | rfl | omega) dX7_tree_190 hl (k := 1) rfl (by decide) rfl (fun ls hl => ?_)
                        refine lv_goto (tgt := 159) hx hb dX7_tree_193 (by decide) ?_
                        exact ih159 (k + 1) (ts ||| ((rb ((heardS (pgv Mt 0) k).testBit xq)) * 2 ^ k)) (by omega) (by omega) (by exact hbit_s (P := fun k => (heardS (pgv Mt 0) k).testBit xq) hts rfl) H locs ls X (lv_sub hl [0, 1, 2, 3, 4, 5, 6] rfl)
                  exact J159 ((Mt 0 62 - 0) + 1) 0 0 (Nat.lt_succ_self _) (by omega) (by rfl) H locs ls X (lv_sub hl [0, 1, 2, 3, 4, 5, 6] rfl)
                · have hL := dist_le (pgv Mt 0) xq j
                  refine lv_iload hx hb dX7_tree_118 (lv_at hl 2 rfl) ?_
                  refine lv_aload_n hx hb dX7_tree_120 rfl (lv_at hl 4 rfl) ?_
                  refine g_get (v := .ref (h 6)) C0 X kX7 0 17 tb814 rfl rfl rfl dX7_tree_121 ?_
                  refine lv_iload hx hb dX7_tree_124 (lv_at hl 0 rfl) ?_
                  refine g_iald (v := nI ((dist (pgv Mt 0) xq) j)) (i := j) C0 X 6 0 rfl rfl (by omega) rfl rfl dX7_tree_126 ?_
                  refine g_sipush (n := 1000) C0 (by decide) dX7_tree_127 ?_
                  refine g_icmp_ge (x := (dist (pgv Mt 0) xq) j) (y := 1000) (tgt := 140) C0 (by omega) (by omega) dX7_tree_130 rfl (fun c31 => ?_) (fun c32 => ?_)
                  · refine g_iconst (n := 0) C0 rfl dX7_tree_140 ?_
                    refine g_ior (n := bs ||| 0) C0 rfl dX7_tree_141 ?_
                    refine lv_istore (lv' := [(4, .int (nI (bs ||| 0))), (6, .int (nI j)), (5, .int (nI 0)), (3, .int (nI wh)), (0, .ref (h 0)), (1, .int (nI xq)), (2, .int (nI yq))]) hx hb dX7_tree_142 hl (by decide) rfl (fun ls hl => ?_)
                    refine g_iinc (j := 1) (z := j + 1) (lv' := [(6, .int (nI (j + 1))), (4, .int (nI (bs ||| 0))), (5, .int (nI 0)), (3, .int (nI wh)), (0, .ref (h 0)), (1, .int (nI xq)), (2, .int (nI yq))]) C0 rfl (by first | rfl | omega) dX7_tree_144 hl (k := 1) rfl (by decide) rfl (fun ls hl => ?_)
                    refine lv_goto (tgt := 109) hx hb dX7_tree_147 (by decide) ?_
                    exact ih109 (j + 1) (bs ||| 0) (by omega) (by omega) (by first | (rw [bset_f (reach_f c31), Nat.or_zero]; exact hbs) | (rw [bset_t (reach_t c31), hbs])) H locs ls X (lv_sub hl [0, 2, 1, 3, 4, 5, 6] rfl)
                  · refine g_iconst (n := 1) C0 rfl dX7_tree_133 ?_
                    refine lv_iload hx hb dX7_tree_134 (lv_at hl 0 rfl) ?_
                    refine g_ishl (n := 2 ^ j) C0 (by exact sh_ok (by omega)) (by first | exact Nat.one_mul _ | rfl) dX7_tree_136 ?_
                    refine lv_goto (tgt := 141) hx hb dX7_tree_137 (by decide) ?_
                    refine g_ior (n := bs ||| (2 ^ j)) C0 rfl dX7_tree_141 ?_
                    refine lv_istore (lv' := [(4, .int (nI (bs ||| (2 ^ j)))), (6, .int (nI j)), (5, .int (nI 0)), (3, .int (nI wh)), (0, .ref (h 0)), (1, .int (nI xq)), (2, .int (nI yq))]) hx hb dX7_tree_142 hl (by decide) rfl (fun ls hl => ?_)
                    refine g_iinc (j := 1) (z := j + 1) (lv' := [(6, .int (nI (j + 1))), (4, .int (nI (bs ||| (2 ^ j)))), (5, .int (nI 0)), (3, .int (nI wh)), (0, .ref (h 0)), (1, .int (nI xq)), (2, .int (nI yq))]) C0 rfl (by first | rfl | omega) dX7_tree_144 hl (k := 1) rfl (by decide) rfl (fun ls hl => ?_)
                    refine lv_goto (tgt := 109) hx hb dX7_tree_147 (by decide) ?_
                    exact ih109 (j + 1) (bs ||| (2 ^ j)) (by omega) (by omega) (by first | (rw [bset_f (reach_f c32), Nat.or_zero]; exact hbs) | (rw [bset_t (reach_t c32), hbs])) H locs ls X (lv_sub hl [0, 2, 1, 3, 4, 5, 6] rfl)
            exact J109 ((Mt 20 0 - 0) + 1) 0 0 (Nat.lt_succ_self _) (by omega) (by rfl) H locs ls X (lv_sub hl [0, 1, 2, 3, 4, 5, 6] rfl)
          · have hr := hrt i (by omega)
            refine lv_iload_n hx hb dX7_tree_45 rfl (lv_at hl 3 rfl) ?_
            refine lv_aload_n hx hb dX7_tree_46 rfl (lv_at hl 4 rfl) ?_
            refine g_get (v := .ref (h 1)) C0 X kX7 0 0 tb797 rfl rfl rfl dX7_tree_47 ?_
            refine g_bipush (n := 33) C0 (by decide) dX7_tree_50 ?_
            refine lv_iload hx hb dX7_tree_52 (lv_at hl 0 rfl) ?_
            refine g_iadd (n := 33 + i) C0 (by first | rfl | omega) dX7_tree_54 ?_
            refine g_iald (v := nI (Mt 0 (33 + i))) (i := 33 + i) C0 X 1 0 rfl rfl (by omega) rfl rfl dX7_tree_55 ?_
            refine g_ifne (x := Mt 0 (33 + i)) (tgt := 91) C0 (by omega) dX7_tree_56 rfl (fun c33 => ?_) (fun c34 => ?_)
            · refine g_iconst (n := 0) C0 rfl dX7_tree_91 ?_
              refine g_iadd (n := wh) C0 (by first | rfl | omega) dX7_tree_92 ?_
              refine lv_istore_n (lv' := [(3, .int (nI wh)), (6, .int (nI i)), (5, .int (nI 0)), (4, .int (nI 0)), (0, .ref (h 0)), (1, .int (nI xq)), (2, .int (nI yq))]) hx hb dX7_tree_93 rfl hl (by decide) rfl (fun ls hl => ?_)
              refine g_iinc (j := 1) (z := i + 1) (lv' := [(6, .int (nI (i + 1))), (3, .int (nI wh)), (5, .int (nI 0)), (4, .int (nI 0)), (0, .ref (h 0)), (1, .int (nI xq)), (2, .int (nI yq))]) C0 rfl (by first | rfl | omega) dX7_tree_94 hl (k := 1) rfl (by decide) rfl (fun ls hl => ?_)
              refine lv_goto (tgt := 33) hx hb dX7_tree_97 (by decide) ?_
              exact ih33 (i + 1) wh (by omega) (by omega) (by first | (rw [cnt_f (mwhole_f1 c33)]; exact hwh) | (rw [cnt_f (mwhole_f2 c6 c33)]; exact hwh)) H locs ls X (lv_sub hl [0, 2, 3, 1, 4, 5, 6] rfl)
            · refine lv_aload_n hx hb dX7_tree_59 rfl (lv_at hl 4 rfl) ?_
              refine g_get (v := .ref (h 1)) C0 X kX7 0 0 tb797 rfl rfl rfl dX7_tree_60 ?_
              refine g_bipush (n := 6) C0 (by decide) dX7_tree_63 ?_
              refine lv_iload hx hb dX7_tree_65 (lv_at hl 0 rfl) ?_
              refine g_iadd (n := 6 + i) C0 (by first | rfl | omega) dX7_tree_67 ?_
              refine g_iald (v := nI (Mt 0 (6 + i))) (i := 6 + i) C0 X 1 0 rfl rfl (by omega) rfl rfl dX7_tree_68 ?_
              refine lv_iload_n hx hb dX7_tree_69 rfl (lv_at hl 5 rfl) ?_
              refine g_icmp_eq (x := Mt 0 (6 + i)) (y := xq) (tgt := 87) C0 (by omega) (by omega) dX7_tree_70 rfl (fun c35 => ?_) (fun c36 => ?_)
              · refine g_iconst (n := 1) C0 rfl dX7_tree_87 ?_
                refine lv_goto (tgt := 92) hx hb dX7_tree_88 (by decide) ?_
                refine g_iadd (n := wh + 1) C0 (by first | rfl | omega) dX7_tree_92 ?_
                refine lv_istore_n (lv' := [(3, .int (nI (wh + 1))), (6, .int (nI i)), (5, .int (nI 0)), (4, .int (nI 0)), (0, .ref (h 0)), (1, .int (nI xq)), (2, .int (nI yq))]) hx hb dX7_tree_93 rfl hl (by decide) rfl (fun ls hl => ?_)
                refine g_iinc (j := 1) (z := i + 1) (lv' := [(6, .int (nI (i + 1))), (3, .int (nI (wh + 1))), (5, .int (nI 0)), (4, .int (nI 0)), (0, .ref (h 0)), (1, .int (nI xq)), (2, .int (nI yq))]) C0 rfl (by first | rfl | omega) dX7_tree_94 hl (k := 1) rfl (by decide) rfl (fun ls hl => ?_)
                refine lv_goto (tgt := 33) hx hb dX7_tree_97 (by decide) ?_
                exact ih33 (i + 1) (wh + 1) (by omega) (by omega) (by first | (rw [cnt_t (mwhole_t1 c34 c35), hwh]) | (rw [cnt_t (mwhole_t2 c6 c35), hwh])) H locs ls X (lv_sub hl [0, 2, 3, 1, 4, 5, 6] rfl)
              · refine lv_aload_n hx hb dX7_tree_73 rfl (lv_at hl 4 rfl) ?_
                refine g_get (v := .ref (h 1)) C0 X kX7 0 0 tb797 rfl rfl rfl dX7_tree_74 ?_
                refine g_bipush (n := 15) C0 (by decide) dX7_tree_77 ?_
                refine lv_iload hx hb dX7_tree_79 (lv_at hl 0 rfl) ?_
                refine g_iadd (n := 15 + i) C0 (by first | rfl | omega) dX7_tree_81 ?_
                refine g_iald (v := nI (Mt 0 (15 + i))) (i := 15 + i) C0 X 1 0 rfl rfl (by omega) rfl rfl dX7_tree_82 ?_
                refine lv_iload_n hx hb dX7_tree_83 rfl (lv_at hl 5 rfl) ?_
                refine g_icmp_ne (x := Mt 0 (15 + i)) (y := xq) (tgt := 91) C0 (by omega) (by omega) dX7_tree_84 rfl (fun c37 => ?_) (fun c38 => ?_)
                · refine g_iconst (n := 0) C0 rfl dX7_tree_91 ?_
                  refine g_iadd (n := wh) C0 (by first | rfl | omega) dX7_tree_92 ?_
                  refine lv_istore_n (lv' := [(3, .int (nI wh)), (6, .int (nI i)), (5, .int (nI 0)), (4, .int (nI 0)), (0, .ref (h 0)), (1, .int (nI xq)), (2, .int (nI yq))]) hx hb dX7_tree_93 rfl hl (by decide) rfl (fun ls hl => ?_)
                  refine g_iinc (j := 1) (z := i + 1) (lv' := [(6, .int (nI (i + 1))), (3, .int (nI wh)), (5, .int (nI 0)), (4, .int (nI 0)), (0, .ref (h 0)), (1, .int (nI xq)), (2, .int (nI yq))]) C0 rfl (by first | rfl | omega) dX7_tree_94 hl (k := 1) rfl (by decide) rfl (fun ls hl => ?_)
                  refine lv_goto (tgt := 33) hx hb dX7_tree_97 (by decide) ?_
                  exact ih33 (i + 1) wh (by omega) (by omega) (by first | (rw [cnt_f (mwhole_f1 c37)]; exact hwh) | (rw [cnt_f (mwhole_f2 c36 c37)]; exact hwh)) H locs ls X (lv_sub hl [0, 2, 3, 1, 4, 5, 6] rfl)
                · refine g_iconst (n := 1) C0 rfl dX7_tree_87 ?_
                  refine lv_goto (tgt := 92) hx hb dX7_tree_88 (by decide) ?_
                  refine g_iadd (n := wh + 1) C0 (by first | rfl | omega) dX7_tree_92 ?_
                  refine lv_istore_n (lv' := [(3, .int (nI (wh + 1))), (6, .int (nI i)), (5, .int (nI 0)), (4, .int (nI 0)), (0, .ref (h 0)), (1, .int (nI xq)), (2, .int (nI yq))]) hx hb dX7_tree_93 rfl hl (by decide) rfl (fun ls hl => ?_)
                  refine g_iinc (j := 1) (z := i + 1) (lv' := [(6, .int (nI (i + 1))), (3, .int (nI (wh + 1))), (5, .int (nI 0)), (4, .int (nI 0)), (0, .ref (h 0)), (1, .int (nI xq)), (2, .int (nI yq))]) C0 rfl (by first | rfl | omega) dX7_tree_94 hl (k := 1) rfl (by decide) rfl (fun ls hl => ?_)
                  refine lv_goto (tgt := 33) hx hb dX7_tree_97 (by decide) ?_
                  exact ih33 (i + 1) (wh + 1) (by omega) (by omega) (by first | (rw [cnt_t (mwhole_t1 c36 c38), hwh]) | (rw [cnt_t (mwhole_t2 c34 c38), hwh])) H locs ls X (lv_sub hl [0, 2, 3, 1, 4, 5, 6] rfl)
      exact J33 ((Mt 0 42 - 0) + 1) 0 0 (Nat.lt_succ_self _) (by omega) (by rfl) H locs ls X (lv_sub hl [0, 1, 2, 3, 4, 5, 6] rfl)
    · refine lv_iconst (v := (-1)) hx hb dX7_tree_20 (by decide) ?_
      exact hE (v := (-1)) (Mt 6, Mt 7) (by simp only [a_tree, c2, c4, tn_nI (k := xq) (by omega), pv80, pv81, pv82, pv83, pv0, pv1, pv2, pv3, pv4, pv5, pv6, pv7, eq_self, rg_no c4 (k := 0) (by decide) (by decide) (by decide), rg_no c4 (k := 1) (by decide) (by decide) (by decide), rg_no c4 (k := 2) (by decide) (by decide) (by decide), rg_no c4 (k := 3) (by decide) (by decide) (by decide), ne01, ne02, ne03, ne04, ne05, ne10, ne12, ne13, ne14, ne15, ne20, ne21, ne23, ne24, ne25, ne30, ne31, ne32, ne34, ne35, ne40, ne41, ne42, ne43, ne45, ne50, ne51, ne52, ne53, ne54, if_true, if_false, Bool.false_eq_true, Bool.and_self, Bool.and_true, Bool.and_false, Bool.true_and, Bool.false_and, Bool.not_true, Bool.not_false, decide_true, decide_false] <;> rfl) trivial X dX7_tree_21
set_option maxHeartbeats 4000000 in
set_option maxRecDepth 100000 in
theorem c_X7_crossed (l : Launch) (D : va_G) (tk : Nat → ClassId) (h : Nat → Nat) (Mt : Nat → Nat → Nat) (hi : Int32) (la ce : Nat → Int32) (x y : Int32) (hW : VW (pgv Mt 0)) : MX l yX7_crossed cX7_crossed 3 (some .int) ⟨4, 0, 0, 95⟩ D (TYS tk) [.ref (h 0), .int x, .int y] (mW tk h Mt hi la ce) (fun (u : (Nat → Nat) × (Nat → Nat)) => True) (fun u => some (.int (a_crossed (pgv Mt 0) x y))) (fun u => mW tk h (u3 (u3 Mt 6 u.1) 7 u.2) hi la ce) 0 0 := by
  refine MX.of_i (by decide) rfl ?_
  intro zp ze zs zm za zb zt zc zA zQ ls C0 hnm X hl hE
  have hx := C0.1
  have hb := C0.2.1
  have ht := C0.2.2.2.2.1
  have X : Hx D zA zs zs.heap [] (mW tk h Mt hi la ce) := X
  have hl : lv_has ls 3 [(0, .ref (h 0)), (1, .int x), (2, .int y)] := hl
  obtain ⟨hv1, hv2, hv3, hv4, hv5, hv6, hv7⟩ := id hW
  have hb1 : Mt 20 0 ≤ 6 := hv1
  have hb2 : Mt 0 42 ≤ 9 := hv2
  have hb3 : Mt 0 43 ≤ 20 := hv3
  have hb4 : Mt 0 62 ≤ 6 := hv4
  have hkd : ∀ t, t < Mt 20 0 → Mt 0 t ≤ 3 := fun t ht => by have q := hv5 t ht; rw [pv0] at q; exact q
  have hrt : ∀ i, i < Mt 0 42 → Mt 0 (6 + i) < Mt 20 0 ∧ Mt 0 (15 + i) < Mt 20 0 ∧ Mt 0 (6 + i) ≠ Mt 0 (15 + i) ∧ 1 ≤ Mt 0 (24 + i) ∧ Mt 0 (24 + i) ≤ 9 ∧ Mt 0 (33 + i) ≤ 1 := fun i hi => hv6 i hi
  have htk : ∀ k, k < Mt 0 62 → Mt 0 (44 + k) ≤ 23 ∧ Mt 0 (50 + k) < Mt 20 0 ∧ 1 ≤ Mt 0 (56 + k) ∧ Mt 0 (56 + k) ≤ 60 := fun k hk => hv7 k hk
  obtain ⟨H, hH⟩ : ∃ H, H = zs.heap := ⟨_, rfl⟩
  rw [← hH] at X ⊢
  obtain ⟨locs, hlo⟩ : ∃ L : List Loc, L = [] := ⟨_, rfl⟩
  rw [← hlo] at X ⊢
  refine lv_aload_n hx hb dX7_crossed_0 rfl (lv_at hl 0 rfl) ?_
  refine lv_iload_n hx hb dX7_crossed_1 rfl (lv_at hl 1 rfl) ?_
  refine g_callV (As := [.int x]) (rest := []) (wr := []) (C0.sz hl) X (c_X7_isTalk l D tk h Mt hi la ce x (by first | assumption | omega)) ⟨tb997, tb1000, tb8, ⟨by decide, by decide, rfl⟩, rfl, rfl, Nat.le_of_ble_eq_true rfl, Nat.le_of_ble_eq_true rfl⟩ tb999 tbs39 0 7 rfl rfl rfl rfl [0, 1, 2, 3, 4, 5, 6, 7, 8, 9, 10, 11, 12, 13] [] rfl rfl rfl rfl rfl (Nat.le_of_ble_eq_true rfl) ⟨Nat.le_of_ble_eq_true rfl, Nat.le_of_ble_eq_true rfl⟩ dX7_crossed_2 (fun _ H locs _ X => ?_)
  have X : Hx D zA zs H locs (mW tk h Mt hi la ce) := X
  refine g_ifeqB (x := ix x (Mt 0 62)) (tgt := 21) C0 dX7_crossed_5 rfl (fun c1 => ?_) (fun c2 => ?_)
  · refine lv_iconst (v := (-1)) hx hb dX7_crossed_21 (by decide) ?_
    exact hE (v := (-1)) (Mt 6, Mt 7) (by simp [a_crossed, pv83, c1]) trivial X dX7_crossed_22
  · obtain ⟨xq, hk_xq, rfl⟩ := ix_sp c2
    refine lv_aload_n hx hb dX7_crossed_8 rfl (lv_at hl 0 rfl) ?_
    refine lv_iload_n hx hb dX7_crossed_9 rfl (lv_at hl 2 rfl) ?_
    refine g_callV (As := [.int y]) (rest := []) (wr := []) (C0.sz hl) X (c_X7_isTalk l D tk h Mt hi la ce y (by first | assumption | omega)) ⟨tb997, tb1000, tb8, ⟨by decide, by decide, rfl⟩, rfl, rfl, Nat.le_of_ble_eq_true rfl, Nat.le_of_ble_eq_true rfl⟩ tb999 tbs39 0 7 rfl rfl rfl rfl [0, 1, 2, 3, 4, 5, 6, 7, 8, 9, 10, 11, 12, 13] [] rfl rfl rfl rfl rfl (Nat.le_of_ble_eq_true rfl) ⟨Nat.le_of_ble_eq_true rfl, Nat.le_of_ble_eq_true rfl⟩ dX7_crossed_10 (fun _ H locs _ X => ?_)
    have X : Hx D zA zs H locs (mW tk h Mt hi la ce) := X
    refine g_ifeqB (x := ix y (Mt 0 62)) (tgt := 21) C0 dX7_crossed_13 rfl (fun c3 => ?_) (fun c4 => ?_)
    · refine lv_iconst (v := (-1)) hx hb dX7_crossed_21 (by decide) ?_
      exact hE (v := (-1)) (Mt 6, Mt 7) (by simp [a_crossed, pv83, c2, c3, tn_nI (k := xq) (by omega)]) trivial X dX7_crossed_22
    · obtain ⟨yq, hk_yq, rfl⟩ := ix_sp c4
      refine lv_iload_n hx hb dX7_crossed_16 rfl (lv_at hl 1 rfl) ?_
      refine lv_iload_n hx hb dX7_crossed_17 rfl (lv_at hl 2 rfl) ?_
      refine g_icmp_ne (x := xq) (y := yq) (tgt := 23) C0 (by omega) (by omega) dX7_crossed_18 rfl (fun c5 => ?_) (fun c6 => ?_)
      · refine lv_aload_n hx hb dX7_crossed_23 rfl (lv_at hl 0 rfl) ?_
        refine g_iconst (n := 0) C0 rfl dX7_crossed_24 ?_
        refine g_callV (As := [.int (nI 0)]) (rest := []) (wr := []) (C0.sz hl) X (c_X7_talksOn l D tk h Mt hi la ce 0 (by omega) (by exact hW)) ⟨tb953, tb956, tb8, ⟨by decide, by decide, rfl⟩, rfl, rfl, Nat.le_of_ble_eq_true rfl, Nat.le_of_ble_eq_true rfl⟩ tb955 tbs32 0 7 rfl rfl rfl rfl [0, 1, 2, 3, 4, 5, 6, 7, 8, 9, 10, 11, 12, 13] [] rfl rfl rfl rfl rfl (Nat.le_of_ble_eq_true rfl) ⟨Nat.le_of_ble_eq_true rfl, Nat.le_of_ble_eq_true rfl⟩ dX7_crossed_25 (fun uq7 H locs hp8 X => ?_)
        have X : Hx D zA zs H locs (mW tk h (u3 (u3 Mt 6 uq7.1) 7 uq7.2) hi la ce) := X
        have hp8 : ∀ j, j < Mt 0 (0 + 62) → uq7.2 j = heardS (pgv Mt 0) j := hp8
        have hpT := hp8
        refine lv_pop hx hb dX7_crossed_28 rfl ?_
        have hr1 := htk xq (by omega)
        have hr2 := htk yq (by omega)
        refine lv_aload_n hx hb dX7_crossed_29 rfl (lv_at hl 0 rfl) ?_
        refine g_get (v := .ref (h 1)) C0 X kX7 0 0 tb797 rfl rfl rfl dX7_crossed_30 ?_
        refine g_bipush (n := 44) C0 (by decide) dX7_crossed_33 ?_
        refine lv_iload_n hx hb dX7_crossed_35 rfl (lv_at hl 1 rfl) ?_
        refine g_iadd (n := 44 + xq) C0 (by first | rfl | omega) dX7_crossed_36 ?_
        refine g_iald (v := nI (Mt 0 (44 + xq))) (i := 44 + xq) C0 X 1 0 rfl rfl (by omega) rfl rfl dX7_crossed_37 ?_
        refine lv_aload_n hx hb dX7_crossed_38 rfl (lv_at hl 0 rfl) ?_
        refine g_get (v := .ref (h 1)) C0 X kX7 0 0 tb797 rfl rfl rfl dX7_crossed_39 ?_
        refine g_bipush (n := 44) C0 (by decide) dX7_crossed_42 ?_
        refine lv_iload_n hx hb dX7_crossed_44 rfl (lv_at hl 2 rfl) ?_
        refine g_iadd (n := 44 + yq) C0 (by first | rfl | omega) dX7_crossed_45 ?_
        refine g_iald (v := nI (Mt 0 (44 + yq))) (i := 44 + yq) C0 X 1 0 rfl rfl (by omega) rfl rfl dX7_crossed_46 ?_
        refine g_icmp_ne (x := Mt 0 (44 + xq)) (y := Mt 0 (44 + yq)) (tgt := 70) C0 (by omega) (by omega) dX7_crossed_47 rfl (fun c9 => ?_) (fun c10 => ?_)
        · refine g_iconst (n := 0) C0 rfl dX7_crossed_70 ?_
          exact hE (v := nI 0) (uq7.1, uq7.2) (by rw [a_crossed, if_pos (by simp [pv83, c2, c4, c5, tn_nI (k := xq) (by omega), tn_nI (k := yq) (by omega)]), tn_nI (k := xq) (by omega), tn_nI (k := yq) (by omega), mcross_1 c9]; rfl) trivial X dX7_crossed_71
        · have e1 := hpT xq (by show xq < Mt 0 (0 + 62); rw [Nat.zero_add]; omega)
          have e2 := hpT yq (by show yq < Mt 0 (0 + 62); rw [Nat.zero_add]; omega)
          have hL1 := heardS_lt (pgv Mt 0) xq hv1
          refine lv_aload_n hx hb dX7_crossed_50 rfl (lv_at hl 0 rfl) ?_
          refine g_get (v := .ref (h 7)) C0 X kX7 0 18 tb815 rfl rfl rfl dX7_crossed_51 ?_
          refine lv_iload_n hx hb dX7_crossed_54 rfl (lv_at hl 1 rfl) ?_
          refine g_iald (v := nI (uq7.2 xq)) (i := xq) C0 X 7 0 rfl rfl (by omega) rfl rfl dX7_crossed_55 ?_
          refine lv_aload_n hx hb dX7_crossed_56 rfl (lv_at hl 0 rfl) ?_
          refine g_get (v := .ref (h 7)) C0 X kX7 0 18 tb815 rfl rfl rfl dX7_crossed_57 ?_
          refine lv_iload_n hx hb dX7_crossed_60 rfl (lv_at hl 2 rfl) ?_
          refine g_iald (v := nI (uq7.2 yq)) (i := yq) C0 X 7 0 rfl rfl (by omega) rfl rfl dX7_crossed_61 ?_
          refine g_iand (n := (uq7.2 xq) &&& (uq7.2 yq)) C0 rfl dX7_crossed_62 ?_
          refine g_ifeq (x := (uq7.2 xq) &&& (uq7.2 yq)) (tgt := 70) C0 (by exact and_31 (by show _ < 2 ^ 31; exact Nat.lt_of_le_of_lt (Nat.le_of_eq e1) (by omega))) dX7_crossed_63 rfl (fun c11 => ?_) (fun c12 => ?_)
          · refine g_iconst (n := 0) C0 rfl dX7_crossed_70 ?_
            exact hE (v := nI 0) (uq7.1, uq7.2) (by rw [a_crossed, if_pos (by simp [pv83, c2, c4, c5, tn_nI (k := xq) (by omega), tn_nI (k := yq) (by omega)]), tn_nI (k := xq) (by omega), tn_nI (k := yq) (by omega), mcross_2 e1 e2 c11]; rfl) trivial X dX7_crossed_71
          · refine g_iconst (n := 1) C0 rfl dX7_crossed_66 ?_
            refine lv_goto (tgt := 71) hx hb dX7_crossed_67 (by decide) ?_
            exact hE (v := nI 1) (uq7.1, uq7.2) (by rw [a_crossed, if_pos (by simp [pv83, c2, c4, c5, tn_nI (k := xq) (by omega), tn_nI (k := yq) (by omega)]), tn_nI (k := xq) (by omega), tn_nI (k := yq) (by omega), mcross_3 e1 e2 c10 c12]; rfl) trivial X dX7_crossed_71
      · refine lv_iconst (v := (-1)) hx hb dX7_crossed_21 (by decide) ?_
        exact hE (v := (-1)) (Mt 6, Mt 7) (by simp [a_crossed, pv83, c2, c4, c6, tn_nI (k := xq) (by omega), tn_nI (k := yq) (by omega)]) trivial X dX7_crossed_22
set_option maxHeartbeats 4000000 in
set_option maxRecDepth 100000 in
theorem c_X7_just (l : Launch) (D : va_G) (tk : Nat → ClassId) (h : Nat → Nat) (Mt : Nat → Nat → Nat) (hi : Int32) (la ce : Nat → Int32) (x y : Int32) (hW : VW (pgv Mt 0)) : MX l yX7_just cX7_just 4 (some .int) ⟨2, 0, 0, 49⟩ D (TYS tk) [.ref (h 0), .int x, .int y] (mW tk h Mt hi la ce) (fun (u : (Nat → Nat)) => True) (fun u => some (.int (a_just (pgv Mt 0) x y))) (fun u => mW tk h (u3 Mt 6 u) hi la ce) 0 0 := by
  refine MX.of_i (by decide) rfl ?_
  intro zp ze zs zm za zb zt zc zA zQ ls C0 hnm X hl hE
  have hx := C0.1
  have hb := C0.2.1
  have ht := C0.2.2.2.2.1
  have X : Hx D zA zs zs.heap [] (mW tk h Mt hi la ce) := X
  have hl : lv_has ls 4 [(0, .ref (h 0)), (1, .int x), (2, .int y)] := hl
  obtain ⟨hv1, hv2, hv3, hv4, hv5, hv6, hv7⟩ := id hW
  have hb1 : Mt 20 0 ≤ 6 := hv1
  have hb2 : Mt 0 42 ≤ 9 := hv2
  have hb3 : Mt 0 43 ≤ 20 := hv3
  have hb4 : Mt 0 62 ≤ 6 := hv4
  have hkd : ∀ t, t < Mt 20 0 → Mt 0 t ≤ 3 := fun t ht => by have q := hv5 t ht; rw [pv0] at q; exact q
  have hrt : ∀ i, i < Mt 0 42 → Mt 0 (6 + i) < Mt 20 0 ∧ Mt 0 (15 + i) < Mt 20 0 ∧ Mt 0 (6 + i) ≠ Mt 0 (15 + i) ∧ 1 ≤ Mt 0 (24 + i) ∧ Mt 0 (24 + i) ≤ 9 ∧ Mt 0 (33 + i) ≤ 1 := fun i hi => hv6 i hi
  have htk : ∀ k, k < Mt 0 62 → Mt 0 (44 + k) ≤ 23 ∧ Mt 0 (50 + k) < Mt 20 0 ∧ 1 ≤ Mt 0 (56 + k) ∧ Mt 0 (56 + k) ≤ 60 := fun k hk => hv7 k hk
  have hpw := Nat.pow_le_pow_right (n := 2) (by decide) hb1
  obtain ⟨H, hH⟩ : ∃ H, H = zs.heap := ⟨_, rfl⟩
  rw [← hH] at X ⊢
  obtain ⟨locs, hlo⟩ : ∃ L : List Loc, L = [] := ⟨_, rfl⟩
  rw [← hlo] at X ⊢
  refine lv_aload_n hx hb dX7_just_0 rfl (lv_at hl 0 rfl) ?_
  refine lv_iload_n hx hb dX7_just_1 rfl (lv_at hl 1 rfl) ?_
  refine g_callV (As := [.int x]) (rest := []) (wr := []) (C0.sz hl) X (c_X7_isTree l D tk h Mt hi la ce x (by first | assumption | omega)) ⟨tb980, tb983, tb8, ⟨by decide, by decide, rfl⟩, rfl, rfl, Nat.le_of_ble_eq_true rfl, Nat.le_of_ble_eq_true rfl⟩ tb982 tbs37 0 7 rfl rfl rfl rfl [0, 1, 2, 3, 4, 5, 6, 7, 8, 9, 10, 11, 12, 13] [] rfl rfl rfl rfl rfl (Nat.le_of_ble_eq_true rfl) ⟨Nat.le_of_ble_eq_true rfl, Nat.le_of_ble_eq_true rfl⟩ dX7_just_2 (fun _ H locs _ X => ?_)
  have X : Hx D zA zs H locs (mW tk h Mt hi la ce) := X
  refine g_ifeqB (x := ix x (Mt 20 0)) (tgt := 16) C0 dX7_just_5 rfl (fun c1 => ?_) (fun c2 => ?_)
  · refine lv_iconst (v := (-1)) hx hb dX7_just_16 (by decide) ?_
    exact hE (v := (-1)) (Mt 6) (by simp only [a_just, c1, pv80, pv81, pv82, pv83, pv0, pv1, pv2, pv3, pv4, pv5, pv6, pv7, eq_self, ne01, ne02, ne03, ne04, ne05, ne10, ne12, ne13, ne14, ne15, ne20, ne21, ne23, ne24, ne25, ne30, ne31, ne32, ne34, ne35, ne40, ne41, ne42, ne43, ne45, ne50, ne51, ne52, ne53, ne54, if_true, if_false, Bool.false_eq_true, Bool.and_self, Bool.and_true, Bool.and_false, Bool.true_and, Bool.false_and, Bool.not_true, Bool.not_false, decide_true, decide_false] <;> rfl) trivial X dX7_just_17
  · obtain ⟨xq, hk_xq, rfl⟩ := ix_sp c2
    refine lv_aload_n hx hb dX7_just_8 rfl (lv_at hl 0 rfl) ?_
    refine lv_iload_n hx hb dX7_just_9 rfl (lv_at hl 2 rfl) ?_
    refine g_callV (As := [.int y]) (rest := []) (wr := []) (C0.sz hl) X (c_X7_isSome l D tk h Mt hi la ce y (by first | assumption | omega)) ⟨tb1072, tb1075, tb8, ⟨by decide, by decide, rfl⟩, rfl, rfl, Nat.le_of_ble_eq_true rfl, Nat.le_of_ble_eq_true rfl⟩ tb1074 tbs43 0 7 rfl rfl rfl rfl [0, 1, 2, 3, 4, 5, 6, 7, 8, 9, 10, 11, 12, 13] [] rfl rfl rfl rfl rfl (Nat.le_of_ble_eq_true rfl) ⟨Nat.le_of_ble_eq_true rfl, Nat.le_of_ble_eq_true rfl⟩ dX7_just_10 (fun _ H locs _ X => ?_)
    have X : Hx D zA zs H locs (mW tk h Mt hi la ce) := X
    refine g_ifneB (x := rg y 0 (2 ^ Mt 20 0 - 1)) (tgt := 18) C0 dX7_just_13 rfl (fun c3 => ?_) (fun c4 => ?_)
    · obtain ⟨yq, hk_yqa, hk_yqb, hk_yqc, rfl⟩ := rg_sp c3
      refine lv_aload_n hx hb dX7_just_18 rfl (lv_at hl 0 rfl) ?_
      refine g_iconst (n := 0) C0 rfl dX7_just_19 ?_
      refine lv_iload_n hx hb dX7_just_20 rfl (lv_at hl 1 rfl) ?_
      refine g_callV (As := [.int (nI 0), .int (nI xq)]) (rest := []) (wr := []) (C0.sz hl) X (c_X7_waysOn l D tk h Mt hi la ce 0 xq (by first | assumption | omega) (by exact hW) (by first | assumption | omega)) ⟨tb961, tb964, tb8, ⟨by decide, by decide, rfl⟩, rfl, rfl, Nat.le_of_ble_eq_true rfl, Nat.le_of_ble_eq_true rfl⟩ tb963 tbs34 0 7 rfl rfl rfl rfl [0, 1, 2, 3, 4, 5, 6, 7, 8, 9, 10, 11, 12, 13] [] rfl rfl rfl rfl rfl (Nat.le_of_ble_eq_true rfl) ⟨Nat.le_of_ble_eq_true rfl, Nat.le_of_ble_eq_true rfl⟩ dX7_just_21 (fun _ H locs _ X => ?_)
      have X : Hx D zA zs H locs (mW tk h (u3 Mt 6 (dist (pgv Mt 0) xq)) hi la ce) := X
      refine g_iconst (n := 1) C0 rfl dX7_just_24 ?_
      refine lv_istore_n (lv' := [(3, .int (nI 1)), (0, .ref (h 0)), (1, .int (nI xq)), (2, .int (nI yq))]) hx hb dX7_just_25 rfl hl (by decide) rfl (fun ls hl => ?_)
      have J26 : ∀ (fz : Nat) (i : Nat), 61 - i < fz → ∀ (hi1 : 1 ≤ i) (hi2 : i ≤ 61) (hbs : leastS (pgv Mt 0) xq yq (2 ^ Mt 20 0 - 1) = lfind (fun b => decide (hearS (pgv Mt 0) xq b &&& (2 ^ Mt 20 0 - 1) = yq)) (61 - i) i) (H : Heap) (locs : List Loc) (ls : Array Slot), Hx D zA zs H locs (mW tk h (u3 Mt 6 (dist (pgv Mt 0) xq)) hi la ce) → lv_has ls 4 [(3, .int (nI i)), (0, .ref (h 0)), (1, .int (nI xq)), (2, .int (nI yq))] → W zp l ze ⟨2, 0, 0, 49⟩ zs zm za zb zt zc H locs 0 0 zQ (F0 zm 26 ls []) := by
        intro fz
        induction fz with
        | zero => intro i hz; exact absurd hz (Nat.not_lt_zero _)
        | succ fz ih26 =>
          intro i hz26 hi1 hi2 hbs H locs ls X hl
          refine lv_iload_n hx hb dX7_just_26 rfl (lv_at hl 0 rfl) ?_
          refine g_bipush (n := 60) C0 (by decide) dX7_just_27 ?_
          refine g_icmp_gt (x := i) (y := 60) (tgt := 50) C0 (by omega) (by omega) dX7_just_29 rfl (fun c5 => ?_) (fun c6 => ?_)
          · refine lv_bipush (v := (-4)) hx hb dX7_just_50 (by decide) ?_
            exact hE (v := (-4)) (dist (pgv Mt 0) xq) (by rw [a_just, if_pos (by rw [pv80, c2, c3]; rfl), tn_nI (k := xq) (by omega), tn_nI (k := yq) (by omega), pv80, hbs, show 61 - i = 0 by omega]; rfl) trivial X dX7_just_52
          · refine lv_aload_n hx hb dX7_just_32 rfl (lv_at hl 1 rfl) ?_
            refine g_iconst (n := 0) C0 rfl dX7_just_33 ?_
            refine lv_iload_n hx hb dX7_just_34 rfl (lv_at hl 0 rfl) ?_
            refine g_callV (As := [.int (nI 0), .int (nI i)]) (rest := []) (wr := []) (C0.sz hl) X (c_X7_hearersOn l D tk h (u3 Mt 6 (dist (pgv Mt 0) xq)) hi la ce 0 i (by omega) (by exact hW) (by exact fun x _ => dist_le _ _ x) (by omega)) ⟨tb965, tb968, tb8, ⟨by decide, by decide, rfl⟩, rfl, rfl, Nat.le_of_ble_eq_true rfl, Nat.le_of_ble_eq_true rfl⟩ tb967 tbs35 0 7 rfl rfl rfl rfl [0, 1, 2, 3, 4, 5, 6, 7, 8, 9, 10, 11, 12, 13] [] rfl rfl rfl rfl rfl (Nat.le_of_ble_eq_true rfl) ⟨Nat.le_of_ble_eq_true rfl, Nat.le_of_ble_eq_true rfl⟩ dX7_just_35 (fun _ H locs _ X => ?_)
            have X : Hx D zA zs H locs (mW tk h (u3 Mt 6 (dist (pgv Mt 0) xq)) hi la ce) := X
            have hLj := hearS_lt (pgv Mt 0) xq i hv1
            refine lv_iload_n hx hb dX7_just_38 rfl (lv_at hl 3 rfl) ?_
            refine g_icmp_ne (x := hearW (pgv Mt 0) ((u3 Mt 6 (dist (pgv Mt 0) xq)) 6) i) (y := yq) (tgt := 44) C0 (by first | exact Nat.lt_trans hLj (by decide) | omega) (by first | exact Nat.lt_trans hLj (by decide) | omega) dX7_just_39 rfl (fun c7 => ?_) (fun c8 => ?_)
            · refine g_iinc (j := 1) (z := i + 1) (lv' := [(3, .int (nI (i + 1))), (0, .ref (h 0)), (1, .int (nI xq)), (2, .int (nI yq))]) C0 rfl (by first | rfl | omega) dX7_just_44 hl (k := 0) rfl (by decide) rfl (fun ls hl => ?_)
              refine lv_goto (tgt := 26) hx hb dX7_just_47 (by decide) ?_
              exact ih26 (i + 1) (by omega) (by omega) (by omega) (by rw [hbs]; exact lfind_s (by omega) (decide_eq_false (by rw [show hearS (pgv Mt 0) xq i &&& (2 ^ Mt 20 0 - 1) = hearS (pgv Mt 0) xq i from hear_all (pgv Mt 0) xq i]; exact c7))) H locs ls X (lv_sub hl [0, 1, 2, 3] rfl)
            · refine lv_iload_n hx hb dX7_just_42 rfl (lv_at hl 0 rfl) ?_
              exact hE (v := nI i) (dist (pgv Mt 0) xq) (by rw [a_just, if_pos (by rw [pv80, c2, c3]; rfl), tn_nI (k := xq) (by omega), tn_nI (k := yq) (by omega), pv80, hbs, lfind_y (by omega) (decide_eq_true (by rw [show hearS (pgv Mt 0) xq i &&& (2 ^ Mt 20 0 - 1) = hearS (pgv Mt 0) xq i from hear_all (pgv Mt 0) xq i]; exact c8))]; exact congrArg (fun z => some (Value.int z)) (orNone_p (by omega))) trivial X dX7_just_43
      exact J26 ((61 - 1) + 1) 1 (Nat.lt_succ_self _) (by omega) (by omega) (by rfl) H locs ls X (lv_sub hl [0, 1, 2, 3] rfl)
    · refine lv_iconst (v := (-1)) hx hb dX7_just_16 (by decide) ?_
      exact hE (v := (-1)) (Mt 6) (by simp only [a_just, c2, c4, tn_nI (k := xq) (by omega), pv80, pv81, pv82, pv83, pv0, pv1, pv2, pv3, pv4, pv5, pv6, pv7, eq_self, ne01, ne02, ne03, ne04, ne05, ne10, ne12, ne13, ne14, ne15, ne20, ne21, ne23, ne24, ne25, ne30, ne31, ne32, ne34, ne35, ne40, ne41, ne42, ne43, ne45, ne50, ne51, ne52, ne53, ne54, if_true, if_false, Bool.false_eq_true, Bool.and_self, Bool.and_true, Bool.and_false, Bool.true_and, Bool.false_and, Bool.not_true, Bool.not_false, decide_true, decide_false] <;> rfl) trivial X dX7_just_17
set_option maxHeartbeats 4000000 in
set_option maxRecDepth 100000 in
theorem c_X7_from (l : Launch) (D : va_G) (tk : Nat → ClassId) (h : Nat → Nat) (Mt : Nat → Nat → Nat) (hi : Int32) (la ce : Nat → Int32) (x y : Int32) (hW : VW (pgv Mt 0)) : MX l yX7_from cX7_from 7 (some .int) ⟨3, 0, 0, 72⟩ D (TYS tk) [.ref (h 0), .int x, .int y] (mW tk h Mt hi la ce) (fun (u : (Nat → Nat)) => True) (fun u => some (.int (a_from 1000 (pgv Mt 0) x y))) (fun u => mW tk h (u3 Mt 6 u) hi la ce) 0 0 := by
  refine MX.of_i (by decide) rfl ?_
  intro zp ze zs zm za zb zt zc zA zQ ls C0 hnm X hl hE
  have hx := C0.1
  have hb := C0.2.1
  have ht := C0.2.2.2.2.1
  have X : Hx D zA zs zs.heap [] (mW tk h Mt hi la ce) := X
  have hl : lv_has ls 7 [(0, .ref (h 0)), (1, .int x), (2, .int y)] := hl
  obtain ⟨hv1, hv2, hv3, hv4, hv5, hv6, hv7⟩ := id hW
  have hb1 : Mt 20 0 ≤ 6 := hv1
  have hb2 : Mt 0 42 ≤ 9 := hv2
  have hb3 : Mt 0 43 ≤ 20 := hv3
  have hb4 : Mt 0 62 ≤ 6 := hv4
  have hkd : ∀ t, t < Mt 20 0 → Mt 0 t ≤ 3 := fun t ht => by have q := hv5 t ht; rw [pv0] at q; exact q
  have hrt : ∀ i, i < Mt 0 42 → Mt 0 (6 + i) < Mt 20 0 ∧ Mt 0 (15 + i) < Mt 20 0 ∧ Mt 0 (6 + i) ≠ Mt 0 (15 + i) ∧ 1 ≤ Mt 0 (24 + i) ∧ Mt 0 (24 + i) ≤ 9 ∧ Mt 0 (33 + i) ≤ 1 := fun i hi => hv6 i hi
  have htk : ∀ k, k < Mt 0 62 → Mt 0 (44 + k) ≤ 23 ∧ Mt 0 (50 + k) < Mt 20 0 ∧ 1 ≤ Mt 0 (56 + k) ∧ Mt 0 (56 + k) ≤ 60 := fun k hk => hv7 k hk
  have hpw := Nat.pow_le_pow_right (n := 2) (by decide) hb1
  obtain ⟨H, hH⟩ : ∃ H, H = zs.heap := ⟨_, rfl⟩
  rw [← hH] at X ⊢
  obtain ⟨locs, hlo⟩ : ∃ L : List Loc, L = [] := ⟨_, rfl⟩
  rw [← hlo] at X ⊢
  refine lv_aload_n hx hb dX7_from_0 rfl (lv_at hl 0 rfl) ?_
  refine lv_iload_n hx hb dX7_from_1 rfl (lv_at hl 1 rfl) ?_
  refine g_callV (As := [.int x]) (rest := []) (wr := []) (C0.sz hl) X (c_X7_isSome l D tk h Mt hi la ce x (by first | assumption | omega)) ⟨tb1072, tb1075, tb8, ⟨by decide, by decide, rfl⟩, rfl, rfl, Nat.le_of_ble_eq_true rfl, Nat.le_of_ble_eq_true rfl⟩ tb1074 tbs43 0 7 rfl rfl rfl rfl [0, 1, 2, 3, 4, 5, 6, 7, 8, 9, 10, 11, 12, 13] [] rfl rfl rfl rfl rfl (Nat.le_of_ble_eq_true rfl) ⟨Nat.le_of_ble_eq_true rfl, Nat.le_of_ble_eq_true rfl⟩ dX7_from_2 (fun _ H locs _ X => ?_)
  have X : Hx D zA zs H locs (mW tk h Mt hi la ce) := X
  refine g_ifeqB (x := rg x 0 (2 ^ Mt 20 0 - 1)) (tgt := 18) C0 dX7_from_5 rfl (fun c1 => ?_) (fun c2 => ?_)
  · refine lv_iconst (v := (-1)) hx hb dX7_from_18 (by decide) ?_
    exact hE (v := (-1)) (Mt 6) (by simp only [a_from, c1, pv80, pv81, pv82, pv83, pv0, pv1, pv2, pv3, pv4, pv5, pv6, pv7, eq_self, ne01, ne02, ne03, ne04, ne05, ne10, ne12, ne13, ne14, ne15, ne20, ne21, ne23, ne24, ne25, ne30, ne31, ne32, ne34, ne35, ne40, ne41, ne42, ne43, ne45, ne50, ne51, ne52, ne53, ne54, if_true, if_false, Bool.false_eq_true, Bool.and_self, Bool.and_true, Bool.and_false, Bool.true_and, Bool.false_and, Bool.not_true, Bool.not_false, decide_true, decide_false] <;> rfl) trivial X dX7_from_19
  · obtain ⟨xq, hk_xqa, hk_xqb, hk_xqc, rfl⟩ := rg_sp c2
    refine lv_iload_n hx hb dX7_from_8 rfl (lv_at hl 2 rfl) ?_
    refine lv_i2l hx hb dX7_from_9 rfl ?_
    refine g_lconst (n := 0) C0 rfl dX7_from_10 ?_
    refine g_lconst (n := 1) C0 rfl dX7_from_11 ?_
    refine g_callS (As := [.long (Int32.toInt64 y), .long (lN 0), .long (lN 1)]) (rest := []) (wr := (mW tk h Mt hi la ce)) (C0.sz hl) X (c_X7_in l D tk (Int32.toInt64 y) (lN 0) (lN 1)) ⟨tb885, tb887, tb8, ⟨by decide, by decide, rfl⟩, rfl, rfl, Nat.le_of_ble_eq_true rfl, Nat.le_of_ble_eq_true rfl⟩ tb886 rfl [] [0, 1, 2, 3, 4, 5, 6, 7, 8, 9, 10, 11, 12, 13] rfl rfl rfl rfl rfl (Nat.le_of_ble_eq_true rfl) ⟨Nat.le_of_ble_eq_true rfl, Nat.le_of_ble_eq_true rfl⟩ dX7_from_12 (fun _ H locs _ X => ?_)
    have X : Hx D zA zs H locs (mW tk h Mt hi la ce) := X
    refine g_top (y := nI (rb (rg y 0 1))) (by rw [inL_rg y (by first | decide | omega) (by first | decide | omega)]) ?_
    refine g_ifneB (x := rg y 0 1) (tgt := 20) C0 dX7_from_15 rfl (fun c3 => ?_) (fun c4 => ?_)
    · obtain ⟨yq, hk_yqa, hk_yqb, hk_yqc, rfl⟩ := rg_sp c3
      refine g_sipush (n := 1000) C0 (by decide) dX7_from_20 ?_
      refine lv_istore_n (lv' := [(3, .int (nI 1000)), (0, .ref (h 0)), (1, .int (nI xq)), (2, .int (nI yq))]) hx hb dX7_from_23 rfl hl (by decide) rfl (fun ls hl => ?_)
      refine lv_bipush (v := (-4)) hx hb dX7_from_24 (by decide) ?_
      refine lv_istore (lv' := [(4, .int (-4)), (3, .int (nI 1000)), (0, .ref (h 0)), (1, .int (nI xq)), (2, .int (nI yq))]) hx hb dX7_from_26 hl (by decide) rfl (fun ls hl => ?_)
      refine g_iconst (n := 0) C0 rfl dX7_from_28 ?_
      refine lv_istore (lv' := [(5, .int (nI 0)), (4, .int (-4)), (3, .int (nI 1000)), (0, .ref (h 0)), (1, .int (nI xq)), (2, .int (nI yq))]) hx hb dX7_from_29 hl (by decide) rfl (fun ls hl => ?_)
      have J31 : ∀ (fz : Nat) (i be : Nat) (wh : Int32) (d1 : Nat → Nat), Mt 20 0 - i < fz → ∀ (hi1 : i ≤ Mt 20 0) (hbf : (wh, be) = bfold (fun t => decide (leastS (pgv Mt 0) t xq xq ≠ 0)) (fun t => leastS (pgv Mt 0) t xq xq) 1000 i) (H : Heap) (locs : List Loc) (ls : Array Slot), Hx D zA zs H locs (mW tk h (u3 Mt 6 d1) hi la ce) → lv_has ls 7 [(5, .int (nI i)), (4, .int wh), (3, .int (nI be)), (0, .ref (h 0)), (1, .int (nI xq)), (2, .int (nI yq))] → W zp l ze ⟨3, 0, 0, 72⟩ zs zm za zb zt zc H locs 0 0 zQ (F0 zm 31 ls []) := by
        intro fz
        induction fz with
        | zero => intro i be wh d1 hz; exact absurd hz (Nat.not_lt_zero _)
        | succ fz ih31 =>
          intro i be wh d1 hz31 hi1 hbf H locs ls X hl
          refine lv_iload hx hb dX7_from_31 (lv_at hl 0 rfl) ?_
          refine lv_aload_n hx hb dX7_from_33 rfl (lv_at hl 3 rfl) ?_
          refine g_get (v := .int (nI (Mt 20 0))) C0 X kX7 0 1 tb798 rfl rfl rfl dX7_from_34 ?_
          refine g_icmp_ge (x := i) (y := Mt 20 0) (tgt := 97) C0 (by omega) (by omega) dX7_from_37 rfl (fun c5 => ?_) (fun c6 => ?_)
          · refine lv_iload hx hb dX7_from_97 (lv_at hl 1 rfl) ?_
            refine lv_bipush (v := (-4)) hx hb dX7_from_99 (by decide) ?_
            refine lv_icmp_eq (tgt := 108) hx hb dX7_from_101 rfl (fun c7 => ?_) (fun c8 => ?_)
            · refine lv_iload hx hb dX7_from_108 (lv_at hl 1 rfl) ?_
              refine lv_goto (tgt := 114) hx hb dX7_from_110 (by decide) ?_
              exact hE (v := wh) (d1) (by rw [a_from, if_pos (by rw [pv80, c2, c3]; rfl), tn_nI (k := xq) (by omega), tn_nI (k := yq) (by omega), pv80, show Mt 20 0 = i by omega, ← told_s hbf, if_pos (Or.inr c7)]) trivial X dX7_from_114
            · refine lv_iload_n hx hb dX7_from_104 rfl (lv_at hl 5 rfl) ?_
              refine g_ifne (x := yq) (tgt := 113) C0 (by omega) dX7_from_105 rfl (fun c9 => ?_) (fun c10 => ?_)
              · refine lv_iload_n hx hb dX7_from_113 rfl (lv_at hl 2 rfl) ?_
                exact hE (v := nI be) (d1) (by rw [a_from, if_pos (by rw [pv80, c2, c3]; rfl), tn_nI (k := xq) (by omega), tn_nI (k := yq) (by omega), pv80, show Mt 20 0 = i by omega, ← told_s hbf, if_neg (fun q => q.elim (by omega) c8)]) trivial X dX7_from_114
              · refine lv_iload hx hb dX7_from_108 (lv_at hl 1 rfl) ?_
                refine lv_goto (tgt := 114) hx hb dX7_from_110 (by decide) ?_
                exact hE (v := wh) (d1) (by rw [a_from, if_pos (by rw [pv80, c2, c3]; rfl), tn_nI (k := xq) (by omega), tn_nI (k := yq) (by omega), pv80, show Mt 20 0 = i by omega, ← told_s hbf, if_pos (Or.inl c10)]) trivial X dX7_from_114
          · refine lv_aload_n hx hb dX7_from_40 rfl (lv_at hl 3 rfl) ?_
            refine lv_iload hx hb dX7_from_41 (lv_at hl 0 rfl) ?_
            refine lv_iload_n hx hb dX7_from_43 rfl (lv_at hl 4 rfl) ?_
            refine g_callV (As := [.int (nI i), .int (nI xq)]) (rest := []) (wr := []) (C0.sz hl) X (c_X7_leastOf l D tk h (u3 Mt 6 d1) hi la ce i xq (by exact hW) (by omega) (by omega)) ⟨tb1076, tb1079, tb8, ⟨by decide, by decide, rfl⟩, rfl, rfl, Nat.le_of_ble_eq_true rfl, Nat.le_of_ble_eq_true rfl⟩ tb1078 tbs44 0 7 rfl rfl rfl rfl [0, 1, 2, 3, 4, 5, 6, 7, 8, 9, 10, 11, 12, 13] [] rfl rfl rfl rfl rfl (Nat.le_of_ble_eq_true rfl) ⟨Nat.le_of_ble_eq_true rfl, Nat.le_of_ble_eq_true rfl⟩ dX7_from_44 (fun _ H locs _ X => ?_)
            have X : Hx D zA zs H locs (mW tk h (u3 Mt 6 (dist (pgv Mt 0) i)) hi la ce) := X
            have hamL := fun q : be ≤ 1000 => q
            have hLl := least_lt (pgv Mt 0) i xq xq
            refine lv_istore (lv' := [(6, .int (orNone (leastS (pgv Mt 0) i xq xq))), (5, .int (nI i)), (4, .int wh), (3, .int (nI be)), (0, .ref (h 0)), (1, .int (nI xq)), (2, .int (nI yq))]) hx hb dX7_from_47 hl (by decide) rfl (fun ls hl => ?_)
            refine lv_iload hx hb dX7_from_49 (lv_at hl 0 rfl) ?_
            refine lv_bipush (v := (-4)) hx hb dX7_from_51 (by decide) ?_
            refine lv_icmp_eq (tgt := 67) hx hb dX7_from_53 rfl (fun c11 => ?_) (fun c12 => ?_)
            · refine lv_iload hx hb dX7_from_67 (lv_at hl 2 rfl) ?_
              refine lv_istore (lv' := [(4, .int wh), (6, .int (orNone (leastS (pgv Mt 0) i xq xq))), (5, .int (nI i)), (3, .int (nI be)), (0, .ref (h 0)), (1, .int (nI xq)), (2, .int (nI yq))]) hx hb dX7_from_69 hl (by decide) rfl (fun ls hl => ?_)
              refine lv_iload hx hb dX7_from_71 (lv_at hl 1 rfl) ?_
              refine lv_bipush (v := (-4)) hx hb dX7_from_73 (by decide) ?_
              refine lv_icmp_eq (tgt := 89) hx hb dX7_from_75 rfl (fun c13 => ?_) (fun c14 => ?_)
              · refine lv_iload_n hx hb dX7_from_89 rfl (lv_at hl 3 rfl) ?_
                refine lv_istore_n (lv' := [(3, .int (nI be)), (4, .int wh), (6, .int (orNone (leastS (pgv Mt 0) i xq xq))), (5, .int (nI i)), (0, .ref (h 0)), (1, .int (nI xq)), (2, .int (nI yq))]) hx hb dX7_from_90 rfl hl (by decide) rfl (fun ls hl => ?_)
                refine g_iinc (j := 1) (z := i + 1) (lv' := [(5, .int (nI (i + 1))), (3, .int (nI be)), (4, .int wh), (6, .int (orNone (leastS (pgv Mt 0) i xq xq))), (0, .ref (h 0)), (1, .int (nI xq)), (2, .int (nI yq))]) C0 rfl (by first | rfl | omega) dX7_from_91 hl (k := 3) rfl (by decide) rfl (fun ls hl => ?_)
                refine lv_goto (tgt := 31) hx hb dX7_from_94 (by decide) ?_
                exact ih31 (i + 1) be wh (dist (pgv Mt 0) i) (by omega) (by omega) (by exact bf_f (decide_eq_false (fun q => q ((orNone_4 (least_lt _ _ _ _)).mp c11))) hbf) H locs ls X (lv_sub hl [0, 2, 1, 4, 5, 6] rfl)
              · exact absurd c11 c14
            · have hne : leastS (pgv Mt 0) i xq xq ≠ 0 := fun q => c12 ((orNone_4 (least_lt _ _ _ _)).mpr q)
              have ecv : orNone (leastS (pgv Mt 0) i xq xq) = nI (leastS (pgv Mt 0) i xq xq) := by exact orNone_p (by omega)
              have hl : lv_has ls 7 [(6, .int (nI (leastS (pgv Mt 0) i xq xq))), (5, .int (nI i)), (4, .int wh), (3, .int (nI be)), (0, .ref (h 0)), (1, .int (nI xq)), (2, .int (nI yq))] := by rw [ecv] at hl; exact hl
              refine lv_iload hx hb dX7_from_56 (lv_at hl 0 rfl) ?_
              refine lv_iload_n hx hb dX7_from_58 rfl (lv_at hl 3 rfl) ?_
              refine g_icmp_ge (x := leastS (pgv Mt 0) i xq xq) (y := be) (tgt := 67) C0 (by have := bf_am hbf; omega) (by have := bf_am hbf; omega) dX7_from_59 rfl (fun c15 => ?_) (fun c16 => ?_)
              · refine lv_iload hx hb dX7_from_67 (lv_at hl 2 rfl) ?_
                refine lv_istore (lv' := [(4, .int wh), (6, .int (nI (leastS (pgv Mt 0) i xq xq))), (5, .int (nI i)), (3, .int (nI be)), (0, .ref (h 0)), (1, .int (nI xq)), (2, .int (nI yq))]) hx hb dX7_from_69 hl (by decide) rfl (fun ls hl => ?_)
                refine lv_iload hx hb dX7_from_71 (lv_at hl 1 rfl) ?_
                refine lv_bipush (v := (-4)) hx hb dX7_from_73 (by decide) ?_
                refine lv_icmp_eq (tgt := 89) hx hb dX7_from_75 rfl (fun q => absurd q (nI_nneg (by omega) (by decide))) (fun _ => ?_)
                refine lv_iload hx hb dX7_from_78 (lv_at hl 1 rfl) ?_
                refine lv_iload_n hx hb dX7_from_80 rfl (lv_at hl 3 rfl) ?_
                refine g_icmp_ge (x := leastS (pgv Mt 0) i xq xq) (y := be) (tgt := 89) C0 (by have := bf_am hbf; omega) (by have := bf_am hbf; omega) dX7_from_81 rfl (fun c19 => ?_) (fun c20 => ?_)
                · refine lv_iload_n hx hb dX7_from_89 rfl (lv_at hl 3 rfl) ?_
                  refine lv_istore_n (lv' := [(3, .int (nI be)), (4, .int wh), (6, .int (nI (leastS (pgv Mt 0) i xq xq))), (5, .int (nI i)), (0, .ref (h 0)), (1, .int (nI xq)), (2, .int (nI yq))]) hx hb dX7_from_90 rfl hl (by decide) rfl (fun ls hl => ?_)
                  refine g_iinc (j := 1) (z := i + 1) (lv' := [(5, .int (nI (i + 1))), (3, .int (nI be)), (4, .int wh), (6, .int (nI (leastS (pgv Mt 0) i xq xq))), (0, .ref (h 0)), (1, .int (nI xq)), (2, .int (nI yq))]) C0 rfl (by first | rfl | omega) dX7_from_91 hl (k := 3) rfl (by decide) rfl (fun ls hl => ?_)
                  refine lv_goto (tgt := 31) hx hb dX7_from_94 (by decide) ?_
                  exact ih31 (i + 1) be wh (dist (pgv Mt 0) i) (by omega) (by omega) (by exact bf_k (by omega) hbf) H locs ls X (lv_sub hl [0, 2, 1, 4, 5, 6] rfl)
                · refine lv_iload hx hb dX7_from_84 (lv_at hl 1 rfl) ?_
                  refine lv_goto (tgt := 90) hx hb dX7_from_86 (by decide) ?_
                  refine lv_istore_n (lv' := [(3, .int (nI (leastS (pgv Mt 0) i xq xq))), (4, .int wh), (6, .int (nI (leastS (pgv Mt 0) i xq xq))), (5, .int (nI i)), (0, .ref (h 0)), (1, .int (nI xq)), (2, .int (nI yq))]) hx hb dX7_from_90 rfl hl (by decide) rfl (fun ls hl => ?_)
                  refine g_iinc (j := 1) (z := i + 1) (lv' := [(5, .int (nI (i + 1))), (3, .int (nI (leastS (pgv Mt 0) i xq xq))), (4, .int wh), (6, .int (nI (leastS (pgv Mt 0) i xq xq))), (0, .ref (h 0)), (1, .int (nI xq)), (2, .int (nI yq))]) C0 rfl (by first | rfl | omega) dX7_from_91 hl (k := 3) rfl (by decide) rfl (fun ls hl => ?_)
                  refine lv_goto (tgt := 31) hx hb dX7_from_94 (by decide) ?_
                  exact ih31 (i + 1) (leastS (pgv Mt 0) i xq xq) wh (dist (pgv Mt 0) i) (by omega) (by omega) (by exfalso; omega) H locs ls X (lv_sub hl [0, 2, 1, 4, 5, 6] rfl)
              · refine lv_iload hx hb dX7_from_62 (lv_at hl 1 rfl) ?_
                refine lv_goto (tgt := 69) hx hb dX7_from_64 (by decide) ?_
                refine lv_istore (lv' := [(4, .int (nI i)), (6, .int (nI (leastS (pgv Mt 0) i xq xq))), (5, .int (nI i)), (3, .int (nI be)), (0, .ref (h 0)), (1, .int (nI xq)), (2, .int (nI yq))]) hx hb dX7_from_69 hl (by decide) rfl (fun ls hl => ?_)
                refine lv_iload hx hb dX7_from_71 (lv_at hl 1 rfl) ?_
                refine lv_bipush (v := (-4)) hx hb dX7_from_73 (by decide) ?_
                refine lv_icmp_eq (tgt := 89) hx hb dX7_from_75 rfl (fun q => absurd q (nI_nneg (by omega) (by decide))) (fun _ => ?_)
                refine lv_iload hx hb dX7_from_78 (lv_at hl 1 rfl) ?_
                refine lv_iload_n hx hb dX7_from_80 rfl (lv_at hl 3 rfl) ?_
                refine g_icmp_ge (x := leastS (pgv Mt 0) i xq xq) (y := be) (tgt := 89) C0 (by have := bf_am hbf; omega) (by have := bf_am hbf; omega) dX7_from_81 rfl (fun c23 => ?_) (fun c24 => ?_)
                · refine lv_iload_n hx hb dX7_from_89 rfl (lv_at hl 3 rfl) ?_
                  refine lv_istore_n (lv' := [(3, .int (nI be)), (4, .int (nI i)), (6, .int (nI (leastS (pgv Mt 0) i xq xq))), (5, .int (nI i)), (0, .ref (h 0)), (1, .int (nI xq)), (2, .int (nI yq))]) hx hb dX7_from_90 rfl hl (by decide) rfl (fun ls hl => ?_)
                  refine g_iinc (j := 1) (z := i + 1) (lv' := [(5, .int (nI (i + 1))), (3, .int (nI be)), (4, .int (nI i)), (6, .int (nI (leastS (pgv Mt 0) i xq xq))), (0, .ref (h 0)), (1, .int (nI xq)), (2, .int (nI yq))]) C0 rfl (by first | rfl | omega) dX7_from_91 hl (k := 3) rfl (by decide) rfl (fun ls hl => ?_)
                  refine lv_goto (tgt := 31) hx hb dX7_from_94 (by decide) ?_
                  exact ih31 (i + 1) be (nI i) (dist (pgv Mt 0) i) (by omega) (by omega) (by exfalso; omega) H locs ls X (lv_sub hl [0, 2, 1, 4, 5, 6] rfl)
                · refine lv_iload hx hb dX7_from_84 (lv_at hl 1 rfl) ?_
                  refine lv_goto (tgt := 90) hx hb dX7_from_86 (by decide) ?_
                  refine lv_istore_n (lv' := [(3, .int (nI (leastS (pgv Mt 0) i xq xq))), (4, .int (nI i)), (6, .int (nI (leastS (pgv Mt 0) i xq xq))), (5, .int (nI i)), (0, .ref (h 0)), (1, .int (nI xq)), (2, .int (nI yq))]) hx hb dX7_from_90 rfl hl (by decide) rfl (fun ls hl => ?_)
                  refine g_iinc (j := 1) (z := i + 1) (lv' := [(5, .int (nI (i + 1))), (3, .int (nI (leastS (pgv Mt 0) i xq xq))), (4, .int (nI i)), (6, .int (nI (leastS (pgv Mt 0) i xq xq))), (0, .ref (h 0)), (1, .int (nI xq)), (2, .int (nI yq))]) C0 rfl (by first | rfl | omega) dX7_from_91 hl (k := 3) rfl (by decide) rfl (fun ls hl => ?_)
                  refine lv_goto (tgt := 31) hx hb dX7_from_94 (by decide) ?_
                  exact ih31 (i + 1) (leastS (pgv Mt 0) i xq xq) (nI i) (dist (pgv Mt 0) i) (by omega) (by omega) (by exact bf_t1 (P := (fun t => decide (leastS (pgv Mt 0) t xq xq ≠ 0))) (x := (fun t => leastS (pgv Mt 0) t xq xq)) (decide_eq_true hne) (by omega) hbf) H locs ls X (lv_sub hl [0, 2, 1, 4, 5, 6] rfl)
      exact J31 ((Mt 20 0 - 0) + 1) 0 1000 (-4) (Mt 6) (Nat.lt_succ_self _) (by omega) (by rfl) H locs ls X (lv_sub hl [0, 1, 2, 3, 4, 5] rfl)
    · refine lv_iconst (v := (-1)) hx hb dX7_from_18 (by decide) ?_
      exact hE (v := (-1)) (Mt 6) (by simp only [a_from, c2, c4, tn_nI (k := xq) (by omega), pv80, pv81, pv82, pv83, pv0, pv1, pv2, pv3, pv4, pv5, pv6, pv7, eq_self, ne01, ne02, ne03, ne04, ne05, ne10, ne12, ne13, ne14, ne15, ne20, ne21, ne23, ne24, ne25, ne30, ne31, ne32, ne34, ne35, ne40, ne41, ne42, ne43, ne45, ne50, ne51, ne52, ne53, ne54, if_true, if_false, Bool.false_eq_true, Bool.and_self, Bool.and_true, Bool.and_false, Bool.true_and, Bool.false_and, Bool.not_true, Bool.not_false, decide_true, decide_false] <;> rfl) trivial X dX7_from_19
set_option maxHeartbeats 4000000 in
set_option maxRecDepth 100000 in
theorem c_X7_hush (l : Launch) (D : va_G) (tk : Nat → ClassId) (h : Nat → Nat) (Mt : Nat → Nat → Nat) (hi : Int32) (la ce : Nat → Int32) (x y z w : Int32) (hW : VW (pgv Mt 0)) : MX l yX7_hush cX7_hush 8 (some .int) ⟨3, 0, 0, 72⟩ D (TYS tk) [.ref (h 0), .int x, .int y, .int z, .int w] (mW tk h Mt hi la ce) (fun (u : (Nat → Nat) × (Nat → Nat)) => RK (Mt 0) u.1) (fun u => some (.int (a_hush 1000 (pgv Mt 0) x y z w))) (fun u => mW tk h (u3 (u3 Mt 0 u.1) 6 u.2) hi la ce) 0 0 := by
  refine MX.of_i (by decide) rfl ?_
  intro zp ze zs zm za zb zt zc zA zQ ls C0 hnm X hl hE
  have hx := C0.1
  have hb := C0.2.1
  have ht := C0.2.2.2.2.1
  have X : Hx D zA zs zs.heap [] (mW tk h Mt hi la ce) := X
  have hl : lv_has ls 8 [(0, .ref (h 0)), (1, .int x), (2, .int y), (3, .int z), (4, .int w)] := hl
  obtain ⟨hv1, hv2, hv3, hv4, hv5, hv6, hv7⟩ := id hW
  have hb1 : Mt 20 0 ≤ 6 := hv1
  have hb2 : Mt 0 42 ≤ 9 := hv2
  have hb3 : Mt 0 43 ≤ 20 := hv3
  have hb4 : Mt 0 62 ≤ 6 := hv4
  have hkd : ∀ t, t < Mt 20 0 → Mt 0 t ≤ 3 := fun t ht => by have q := hv5 t ht; rw [pv0] at q; exact q
  have hrt : ∀ i, i < Mt 0 42 → Mt 0 (6 + i) < Mt 20 0 ∧ Mt 0 (15 + i) < Mt 20 0 ∧ Mt 0 (6 + i) ≠ Mt 0 (15 + i) ∧ 1 ≤ Mt 0 (24 + i) ∧ Mt 0 (24 + i) ≤ 9 ∧ Mt 0 (33 + i) ≤ 1 := fun i hi => hv6 i hi
  have htk : ∀ k, k < Mt 0 62 → Mt 0 (44 + k) ≤ 23 ∧ Mt 0 (50 + k) < Mt 20 0 ∧ 1 ≤ Mt 0 (56 + k) ∧ Mt 0 (56 + k) ≤ 60 := fun k hk => hv7 k hk
  have hpw := Nat.pow_le_pow_right (n := 2) (by decide) hb2
  obtain ⟨H, hH⟩ : ∃ H, H = zs.heap := ⟨_, rfl⟩
  rw [← hH] at X ⊢
  obtain ⟨locs, hlo⟩ : ∃ L : List Loc, L = [] := ⟨_, rfl⟩
  rw [← hlo] at X ⊢
  refine lv_aload_n hx hb dX7_hush_0 rfl (lv_at hl 0 rfl) ?_
  refine lv_iload_n hx hb dX7_hush_1 rfl (lv_at hl 1 rfl) ?_
  refine g_callV (As := [.int x]) (rest := []) (wr := []) (C0.sz hl) X (c_X7_isTree l D tk h Mt hi la ce x (by first | assumption | omega)) ⟨tb980, tb983, tb8, ⟨by decide, by decide, rfl⟩, rfl, rfl, Nat.le_of_ble_eq_true rfl, Nat.le_of_ble_eq_true rfl⟩ tb982 tbs37 0 7 rfl rfl rfl rfl [0, 1, 2, 3, 4, 5, 6, 7, 8, 9, 10, 11, 12, 13] [] rfl rfl rfl rfl rfl (Nat.le_of_ble_eq_true rfl) ⟨Nat.le_of_ble_eq_true rfl, Nat.le_of_ble_eq_true rfl⟩ dX7_hush_2 (fun _ H locs _ X => ?_)
  have X : Hx D zA zs H locs (mW tk h Mt hi la ce) := X
  refine g_ifeqB (x := ix x (Mt 20 0)) (tgt := 34) C0 dX7_hush_5 rfl (fun c1 => ?_) (fun c2 => ?_)
  · refine lv_iconst (v := (-1)) hx hb dX7_hush_34 (by decide) ?_
    exact hE (v := (-1)) (Mt 0, Mt 6) (by simp only [a_hush, c1, pv80, pv81, pv82, pv83, pv0, pv1, pv2, pv3, pv4, pv5, pv6, pv7, eq_self, ne01, ne02, ne03, ne04, ne05, ne10, ne12, ne13, ne14, ne15, ne20, ne21, ne23, ne24, ne25, ne30, ne31, ne32, ne34, ne35, ne40, ne41, ne42, ne43, ne45, ne50, ne51, ne52, ne53, ne54, if_true, if_false, Bool.false_eq_true, Bool.and_self, Bool.and_true, Bool.and_false, Bool.true_and, Bool.false_and, Bool.not_true, Bool.not_false, decide_true, decide_false] <;> rfl) (by exact RK.rf _) X dX7_hush_35
  · obtain ⟨xq, hk_xq, rfl⟩ := ix_sp c2
    refine lv_aload_n hx hb dX7_hush_8 rfl (lv_at hl 0 rfl) ?_
    refine lv_iload_n hx hb dX7_hush_9 rfl (lv_at hl 2 rfl) ?_
    refine g_callV (As := [.int y]) (rest := []) (wr := []) (C0.sz hl) X (c_X7_isTree l D tk h Mt hi la ce y (by first | assumption | omega)) ⟨tb980, tb983, tb8, ⟨by decide, by decide, rfl⟩, rfl, rfl, Nat.le_of_ble_eq_true rfl, Nat.le_of_ble_eq_true rfl⟩ tb982 tbs37 0 7 rfl rfl rfl rfl [0, 1, 2, 3, 4, 5, 6, 7, 8, 9, 10, 11, 12, 13] [] rfl rfl rfl rfl rfl (Nat.le_of_ble_eq_true rfl) ⟨Nat.le_of_ble_eq_true rfl, Nat.le_of_ble_eq_true rfl⟩ dX7_hush_10 (fun _ H locs _ X => ?_)
    have X : Hx D zA zs H locs (mW tk h Mt hi la ce) := X
    refine g_ifeqB (x := ix y (Mt 20 0)) (tgt := 34) C0 dX7_hush_13 rfl (fun c3 => ?_) (fun c4 => ?_)
    · refine lv_iconst (v := (-1)) hx hb dX7_hush_34 (by decide) ?_
      exact hE (v := (-1)) (Mt 0, Mt 6) (by simp only [a_hush, c2, c3, tn_nI (k := xq) (by omega), pv80, pv81, pv82, pv83, pv0, pv1, pv2, pv3, pv4, pv5, pv6, pv7, eq_self, ne01, ne02, ne03, ne04, ne05, ne10, ne12, ne13, ne14, ne15, ne20, ne21, ne23, ne24, ne25, ne30, ne31, ne32, ne34, ne35, ne40, ne41, ne42, ne43, ne45, ne50, ne51, ne52, ne53, ne54, if_true, if_false, Bool.false_eq_true, Bool.and_self, Bool.and_true, Bool.and_false, Bool.true_and, Bool.false_and, Bool.not_true, Bool.not_false, decide_true, decide_false] <;> rfl) (by exact RK.rf _) X dX7_hush_35
    · obtain ⟨yq, hk_yq, rfl⟩ := ix_sp c4
      refine lv_iload_n hx hb dX7_hush_16 rfl (lv_at hl 3 rfl) ?_
      refine g_callS (As := [.int z]) (rest := []) (wr := (mW tk h Mt hi la ce)) (C0.sz hl) X (c_X7_isBreath l D tk z) ⟨tb1009, tb1011, tb8, ⟨by decide, by decide, rfl⟩, rfl, rfl, Nat.le_of_ble_eq_true rfl, Nat.le_of_ble_eq_true rfl⟩ tb1010 rfl [] [0, 1, 2, 3, 4, 5, 6, 7, 8, 9, 10, 11, 12, 13] rfl rfl rfl rfl rfl (Nat.le_of_ble_eq_true rfl) ⟨Nat.le_of_ble_eq_true rfl, Nat.le_of_ble_eq_true rfl⟩ dX7_hush_17 (fun _ H locs _ X => ?_)
      have X : Hx D zA zs H locs (mW tk h Mt hi la ce) := X
      refine g_ifeqB (x := rg z 1 60) (tgt := 34) C0 dX7_hush_20 rfl (fun c5 => ?_) (fun c6 => ?_)
      · refine lv_iconst (v := (-1)) hx hb dX7_hush_34 (by decide) ?_
        exact hE (v := (-1)) (Mt 0, Mt 6) (by simp only [a_hush, c2, c4, c5, tn_nI (k := xq) (by omega), tn_nI (k := yq) (by omega), pv80, pv81, pv82, pv83, pv0, pv1, pv2, pv3, pv4, pv5, pv6, pv7, eq_self, ne01, ne02, ne03, ne04, ne05, ne10, ne12, ne13, ne14, ne15, ne20, ne21, ne23, ne24, ne25, ne30, ne31, ne32, ne34, ne35, ne40, ne41, ne42, ne43, ne45, ne50, ne51, ne52, ne53, ne54, if_true, if_false, Bool.false_eq_true, Bool.and_self, Bool.and_true, Bool.and_false, Bool.true_and, Bool.false_and, Bool.not_true, Bool.not_false, decide_true, decide_false] <;> rfl) (by exact RK.rf _) X dX7_hush_35
      · obtain ⟨zq, hk_zqa, hk_zqb, hk_zqc, rfl⟩ := rg_sp c6
        refine lv_iload hx hb dX7_hush_23 (lv_at hl 4 rfl) ?_
        refine lv_i2l hx hb dX7_hush_25 rfl ?_
        refine g_lconst (n := 0) C0 rfl dX7_hush_26 ?_
        refine g_lconst (n := 1) C0 rfl dX7_hush_27 ?_
        refine g_callS (As := [.long (Int32.toInt64 w), .long (lN 0), .long (lN 1)]) (rest := []) (wr := (mW tk h Mt hi la ce)) (C0.sz hl) X (c_X7_in l D tk (Int32.toInt64 w) (lN 0) (lN 1)) ⟨tb885, tb887, tb8, ⟨by decide, by decide, rfl⟩, rfl, rfl, Nat.le_of_ble_eq_true rfl, Nat.le_of_ble_eq_true rfl⟩ tb886 rfl [] [0, 1, 2, 3, 4, 5, 6, 7, 8, 9, 10, 11, 12, 13] rfl rfl rfl rfl rfl (Nat.le_of_ble_eq_true rfl) ⟨Nat.le_of_ble_eq_true rfl, Nat.le_of_ble_eq_true rfl⟩ dX7_hush_28 (fun _ H locs _ X => ?_)
        have X : Hx D zA zs H locs (mW tk h Mt hi la ce) := X
        refine g_top (y := nI (rb (rg w 0 1))) (by rw [inL_rg w (by first | decide | omega) (by first | decide | omega)]) ?_
        refine g_ifneB (x := rg w 0 1) (tgt := 36) C0 dX7_hush_31 rfl (fun c7 => ?_) (fun c8 => ?_)
        · obtain ⟨wq, hk_wqa, hk_wqb, hk_wqc, rfl⟩ := rg_sp c7
          refine g_sipush (n := 1000) C0 (by decide) dX7_hush_36 ?_
          refine lv_istore (lv' := [(5, .int (nI 1000)), (0, .ref (h 0)), (1, .int (nI xq)), (2, .int (nI yq)), (3, .int (nI zq)), (4, .int (nI wq))]) hx hb dX7_hush_39 hl (by decide) rfl (fun ls hl => ?_)
          refine lv_bipush (v := (-4)) hx hb dX7_hush_41 (by decide) ?_
          refine lv_istore (lv' := [(6, .int (-4)), (5, .int (nI 1000)), (0, .ref (h 0)), (1, .int (nI xq)), (2, .int (nI yq)), (3, .int (nI zq)), (4, .int (nI wq))]) hx hb dX7_hush_43 hl (by decide) rfl (fun ls hl => ?_)
          refine g_iconst (n := 0) C0 rfl dX7_hush_45 ?_
          refine lv_istore (lv' := [(7, .int (nI 0)), (6, .int (-4)), (5, .int (nI 1000)), (0, .ref (h 0)), (1, .int (nI xq)), (2, .int (nI yq)), (3, .int (nI zq)), (4, .int (nI wq))]) hx hb dX7_hush_46 hl (by decide) rfl (fun ls hl => ?_)
          have J48 : ∀ (fz : Nat) (i few : Nat) (wh : Int32) (r1 d1 : Nat → Nat), 2 ^ Mt 0 42 - i < fz → ∀ (hi1 : i ≤ 2 ^ Mt 0 42) (hr : RK (Mt 0) r1) (hbf : (wh, few) = bfold (hushP (pgv Mt 0) xq yq zq) pc 1000 i) (H : Heap) (locs : List Loc) (ls : Array Slot), Hx D zA zs H locs (mW tk h (u3 (u3 Mt 0 r1) 6 d1) hi la ce) → lv_has ls 8 [(7, .int (nI i)), (6, .int wh), (5, .int (nI few)), (0, .ref (h 0)), (1, .int (nI xq)), (2, .int (nI yq)), (3, .int (nI zq)), (4, .int (nI wq))] → W zp l ze ⟨3, 0, 0, 72⟩ zs zm za zb zt zc H locs 0 0 zQ (F0 zm 48 ls []) := by
            intro fz
            induction fz with
            | zero => intro i few wh r1 d1 hz; exact absurd hz (Nat.not_lt_zero _)
            | succ fz ih48 =>
              intro i few wh r1 d1 hz48 hi1 hr hbf H locs ls X hl
              refine lv_iload hx hb dX7_hush_48 (lv_at hl 0 rfl) ?_
              refine g_iconst (n := 1) C0 rfl dX7_hush_50 ?_
              refine lv_aload_n hx hb dX7_hush_51 rfl (lv_at hl 3 rfl) ?_
              refine g_get (v := .ref (h 1)) C0 X kX7 0 0 tb797 rfl rfl rfl dX7_hush_52 ?_
              refine g_bipush (n := 42) C0 (by decide) dX7_hush_55 ?_
              refine g_iald (v := nI (r1 42)) (i := 42) C0 X 1 0 rfl rfl (by omega) rfl rfl dX7_hush_57 ?_
              refine g_top (y := nI (Mt 0 42)) (by rw [hr 42 (by decide)]) ?_
              refine g_ishl (n := 2 ^ (Mt 0 42)) C0 (by exact sh_ok (by omega)) (by first | exact Nat.one_mul _ | rfl) dX7_hush_58 ?_
              refine g_icmp_ge (x := i) (y := 2 ^ (Mt 0 42)) (tgt := 114) C0 (by first | omega | exact sh_31 (by omega)) (by first | omega | exact sh_31 (by omega)) dX7_hush_59 rfl (fun c9 => ?_) (fun c10 => ?_)
              · refine lv_iload hx hb dX7_hush_114 (lv_at hl 1 rfl) ?_
                refine lv_bipush (v := (-4)) hx hb dX7_hush_116 (by decide) ?_
                refine lv_icmp_eq (tgt := 127) hx hb dX7_hush_118 rfl (fun c11 => ?_) (fun c12 => ?_)
                · refine lv_iload hx hb dX7_hush_127 (lv_at hl 1 rfl) ?_
                  refine lv_goto (tgt := 134) hx hb dX7_hush_129 (by decide) ?_
                  exact hE (v := wh) (r1, d1) (by rw [a_hush, if_pos (by rw [pv80, c2, c4, c6, c7]; rfl), tn_nI (k := xq) (by omega), tn_nI (k := yq) (by omega), tn_nI (k := zq) (by omega), tn_nI (k := wq) (by omega), pv81, show 2 ^ Mt 0 42 = i by omega, ← told_s hbf, if_pos (Or.inr c11)]) (by exact hr) X dX7_hush_134
                · refine lv_iload hx hb dX7_hush_121 (lv_at hl 7 rfl) ?_
                  refine g_iconst (n := 1) C0 rfl dX7_hush_123 ?_
                  refine g_icmp_ne (x := wq) (y := 1) (tgt := 132) C0 (by omega) (by omega) dX7_hush_124 rfl (fun c13 => ?_) (fun c14 => ?_)
                  · refine lv_iload hx hb dX7_hush_132 (lv_at hl 2 rfl) ?_
                    exact hE (v := nI few) (r1, d1) (by rw [a_hush, if_pos (by rw [pv80, c2, c4, c6, c7]; rfl), tn_nI (k := xq) (by omega), tn_nI (k := yq) (by omega), tn_nI (k := zq) (by omega), tn_nI (k := wq) (by omega), pv81, show 2 ^ Mt 0 42 = i by omega, ← told_s hbf, if_neg (fun q => q.elim (by omega) c12)]) (by exact hr) X dX7_hush_134
                  · refine lv_iload hx hb dX7_hush_127 (lv_at hl 1 rfl) ?_
                    refine lv_goto (tgt := 134) hx hb dX7_hush_129 (by decide) ?_
                    exact hE (v := wh) (r1, d1) (by rw [a_hush, if_pos (by rw [pv80, c2, c4, c6, c7]; rfl), tn_nI (k := xq) (by omega), tn_nI (k := yq) (by omega), tn_nI (k := zq) (by omega), tn_nI (k := wq) (by omega), pv81, show 2 ^ Mt 0 42 = i by omega, ← told_s hbf, if_pos (Or.inl (by omega))]) (by exact hr) X dX7_hush_134
              · refine lv_iload hx hb dX7_hush_62 (lv_at hl 0 rfl) ?_
                refine g_callS (As := [.int (nI i)]) (rest := []) (wr := (mW tk h (u3 (u3 Mt 0 r1) 6 d1) hi la ce)) (C0.sz hl) X (c_X7_bitsOf l D tk i (by first | assumption | omega)) ⟨tb973, tb975, tb8, ⟨by decide, by decide, rfl⟩, rfl, rfl, Nat.le_of_ble_eq_true rfl, Nat.le_of_ble_eq_true rfl⟩ tb974 rfl [] [0, 1, 2, 3, 4, 5, 6, 7, 8, 9, 10, 11, 12, 13] rfl rfl rfl rfl rfl (Nat.le_of_ble_eq_true rfl) ⟨Nat.le_of_ble_eq_true rfl, Nat.le_of_ble_eq_true rfl⟩ dX7_hush_64 (fun _ H locs _ X => ?_)
                have X : Hx D zA zs H locs (mW tk h (u3 (u3 Mt 0 r1) 6 d1) hi la ce) := X
                have hpc := pc_le i
                have hamL : few ≤ 1000 := bf_am hbf
                refine lv_iload hx hb dX7_hush_67 (lv_at hl 2 rfl) ?_
                refine g_icmp_ge (x := pc i) (y := few) (tgt := 108) C0 (by omega) (by omega) dX7_hush_69 rfl (fun c15 => ?_) (fun c16 => ?_)
                · refine g_iinc (j := 1) (z := i + 1) (lv' := [(7, .int (nI (i + 1))), (6, .int wh), (5, .int (nI few)), (0, .ref (h 0)), (1, .int (nI xq)), (2, .int (nI yq)), (3, .int (nI zq)), (4, .int (nI wq))]) C0 rfl (by first | rfl | omega) dX7_hush_108 hl (k := 0) rfl (by decide) rfl (fun ls hl => ?_)
                  refine lv_goto (tgt := 48) hx hb dX7_hush_111 (by decide) ?_
                  exact ih48 (i + 1) few wh r1 d1 (by omega) (by omega) (by exact hr) (by exact bf_k (by omega) hbf) H locs ls X (lv_sub hl [0, 1, 2, 3, 4, 5, 6, 7] rfl)
                · refine lv_aload_n hx hb dX7_hush_72 rfl (lv_at hl 3 rfl) ?_
                  refine lv_iload hx hb dX7_hush_73 (lv_at hl 0 rfl) ?_
                  refine g_callV (As := [.int (nI i)]) (rest := []) (wr := []) (C0.sz hl) X (c_X7_cuts l D tk h (u3 (u3 Mt 0 r1) 6 d1) hi la ce i (by show r1 42 ≤ 9; rw [hr 42 (by decide)]; exact hb2) (by omega) (by exact hcl1 hW hr)) ⟨tb1092, tb1095, tb8, ⟨by decide, by decide, rfl⟩, rfl, rfl, Nat.le_of_ble_eq_true rfl, Nat.le_of_ble_eq_true rfl⟩ tb1094 tbs45 0 7 rfl rfl rfl rfl [0, 1, 2, 3, 4, 5, 6, 7, 8, 9, 10, 11, 12, 13] [] rfl rfl rfl rfl rfl (Nat.le_of_ble_eq_true rfl) ⟨Nat.le_of_ble_eq_true rfl, Nat.le_of_ble_eq_true rfl⟩ dX7_hush_75 (fun _ H locs _ X => ?_)
                  have X : Hx D zA zs H locs (mW tk h (u3 (u3 Mt 6 d1) 0 (cutRow ((u3 Mt 0 r1) 0) i)) hi la ce) := X
                  refine g_top (y := nI (rb (cutsB (pgv Mt 0) i))) (by exact congrArg (fun q => nI (rb q)) (cutsRK hW hr _)) ?_
                  refine g_ifeqB (x := (cutsB (pgv Mt 0) i)) (tgt := 108) C0 dX7_hush_78 rfl (fun c17 => ?_) (fun c18 => ?_)
                  · refine g_iinc (j := 1) (z := i + 1) (lv' := [(7, .int (nI (i + 1))), (6, .int wh), (5, .int (nI few)), (0, .ref (h 0)), (1, .int (nI xq)), (2, .int (nI yq)), (3, .int (nI zq)), (4, .int (nI wq))]) C0 rfl (by first | rfl | omega) dX7_hush_108 hl (k := 0) rfl (by decide) rfl (fun ls hl => ?_)
                    refine lv_goto (tgt := 48) hx hb dX7_hush_111 (by decide) ?_
                    exact ih48 (i + 1) few wh (cutRow ((u3 Mt 0 r1) 0) i) d1 (by omega) (by omega) (by exact hr.ct) (by exact bf_f (hushP_f c17) hbf) H locs ls X (lv_sub hl [0, 1, 2, 3, 4, 5, 6, 7] rfl)
                  · refine lv_aload_n hx hb dX7_hush_81 rfl (lv_at hl 3 rfl) ?_
                    refine g_sipush (n := 252) C0 (by decide) dX7_hush_82 ?_
                    refine lv_iload_n hx hb dX7_hush_85 rfl (lv_at hl 4 rfl) ?_
                    refine lv_iload_n hx hb dX7_hush_86 rfl (lv_at hl 6 rfl) ?_
                    refine g_callV (As := [.int (nI 252), .int (nI xq), .int (nI zq)]) (rest := []) (wr := []) (C0.sz hl) X (c_X7_hearsOn l D tk h (u3 (u3 Mt 6 d1) 0 (cutRow ((u3 Mt 0 r1) 0) i)) hi la ce 252 xq zq (by omega) (by exact cutVW hW hr) (by omega) (by omega)) ⟨tb957, tb960, tb8, ⟨by decide, by decide, rfl⟩, rfl, rfl, Nat.le_of_ble_eq_true rfl, Nat.le_of_ble_eq_true rfl⟩ tb959 tbs33 0 7 rfl rfl rfl rfl [0, 1, 2, 3, 4, 5, 6, 7, 8, 9, 10, 11, 12, 13] [] rfl rfl rfl rfl rfl (Nat.le_of_ble_eq_true rfl) ⟨Nat.le_of_ble_eq_true rfl, Nat.le_of_ble_eq_true rfl⟩ dX7_hush_87 (fun _ H locs _ X => ?_)
                    have X : Hx D zA zs H locs (mW tk h (u3 (u3 Mt 0 (cutRow ((u3 Mt 0 r1) 0) i)) 6 (dist (pgv (u3 (u3 Mt 6 d1) 0 (cutRow ((u3 Mt 0 r1) 0) i)) 252) xq)) hi la ce) := X
                    refine g_top (y := nI (hearS (cutv (pgv Mt 0) i) xq zq)) (by exact congrArg nI (hearS_eq (cutVE hW hr) _ _)) ?_
                    have hLh := hearS_lt (cutv (pgv Mt 0) i) xq zq hv1
                    refine lv_iload_n hx hb dX7_hush_90 rfl (lv_at hl 5 rfl) ?_
                    refine g_ishr (n := (hearS (cutv (pgv Mt 0) i) xq zq) / 2 ^ yq) C0 (by first | exact Nat.lt_trans hLh (by decide) | omega) (by first | decide | omega) rfl dX7_hush_91 ?_
                    refine g_iconst (n := 1) C0 rfl dX7_hush_92 ?_
                    refine g_iand (n := ((hearS (cutv (pgv Mt 0) i) xq zq) / 2 ^ yq) &&& 1) C0 rfl dX7_hush_93 ?_
                    refine g_top (y := nI (rb ((hearS (cutv (pgv Mt 0) i) xq zq).testBit yq))) (by rw [tbv]) ?_
                    refine g_ifneB (x := ((hearS (cutv (pgv Mt 0) i) xq zq).testBit yq)) (tgt := 108) C0 dX7_hush_94 rfl (fun c19 => ?_) (fun c20 => ?_)
                    · refine g_iinc (j := 1) (z := i + 1) (lv' := [(7, .int (nI (i + 1))), (6, .int wh), (5, .int (nI few)), (0, .ref (h 0)), (1, .int (nI xq)), (2, .int (nI yq)), (3, .int (nI zq)), (4, .int (nI wq))]) C0 rfl (by first | rfl | omega) dX7_hush_108 hl (k := 0) rfl (by decide) rfl (fun ls hl => ?_)
                      refine lv_goto (tgt := 48) hx hb dX7_hush_111 (by decide) ?_
                      exact ih48 (i + 1) few wh (cutRow ((u3 Mt 0 r1) 0) i) (dist (pgv (u3 (u3 Mt 6 d1) 0 (cutRow ((u3 Mt 0 r1) 0) i)) 252) xq) (by omega) (by omega) (by exact hr.ct) (by exact bf_f (hushP_g c19) hbf) H locs ls X (lv_sub hl [0, 1, 2, 3, 4, 5, 6, 7] rfl)
                    · refine lv_iload hx hb dX7_hush_97 (lv_at hl 0 rfl) ?_
                      refine g_callS (As := [.int (nI i)]) (rest := []) (wr := (mW tk h (u3 (u3 Mt 0 (cutRow ((u3 Mt 0 r1) 0) i)) 6 (dist (pgv (u3 (u3 Mt 6 d1) 0 (cutRow ((u3 Mt 0 r1) 0) i)) 252) xq)) hi la ce)) (C0.sz hl) X (c_X7_bitsOf l D tk i (by first | assumption | omega)) ⟨tb973, tb975, tb8, ⟨by decide, by decide, rfl⟩, rfl, rfl, Nat.le_of_ble_eq_true rfl, Nat.le_of_ble_eq_true rfl⟩ tb974 rfl [] [0, 1, 2, 3, 4, 5, 6, 7, 8, 9, 10, 11, 12, 13] rfl rfl rfl rfl rfl (Nat.le_of_ble_eq_true rfl) ⟨Nat.le_of_ble_eq_true rfl, Nat.le_of_ble_eq_true rfl⟩ dX7_hush_99 (fun _ H locs _ X => ?_)
                      have X : Hx D zA zs H locs (mW tk h (u3 (u3 Mt 0 (cutRow ((u3 Mt 0 r1) 0) i)) 6 (dist (pgv (u3 (u3 Mt 6 d1) 0 (cutRow ((u3 Mt 0 r1) 0) i)) 252) xq)) hi la ce) := X
                      refine lv_istore (lv' := [(5, .int (nI (pc i))), (7, .int (nI i)), (6, .int wh), (0, .ref (h 0)), (1, .int (nI xq)), (2, .int (nI yq)), (3, .int (nI zq)), (4, .int (nI wq))]) hx hb dX7_hush_102 hl (by decide) rfl (fun ls hl => ?_)
                      refine lv_iload hx hb dX7_hush_104 (lv_at hl 1 rfl) ?_
                      refine lv_istore (lv' := [(6, .int (nI i)), (5, .int (nI (pc i))), (7, .int (nI i)), (0, .ref (h 0)), (1, .int (nI xq)), (2, .int (nI yq)), (3, .int (nI zq)), (4, .int (nI wq))]) hx hb dX7_hush_106 hl (by decide) rfl (fun ls hl => ?_)
                      refine g_iinc (j := 1) (z := i + 1) (lv' := [(7, .int (nI (i + 1))), (6, .int (nI i)), (5, .int (nI (pc i))), (0, .ref (h 0)), (1, .int (nI xq)), (2, .int (nI yq)), (3, .int (nI zq)), (4, .int (nI wq))]) C0 rfl (by first | rfl | omega) dX7_hush_108 hl (k := 2) rfl (by decide) rfl (fun ls hl => ?_)
                      refine lv_goto (tgt := 48) hx hb dX7_hush_111 (by decide) ?_
                      exact ih48 (i + 1) (pc i) (nI i) (cutRow ((u3 Mt 0 r1) 0) i) (dist (pgv (u3 (u3 Mt 6 d1) 0 (cutRow ((u3 Mt 0 r1) 0) i)) 252) xq) (by omega) (by omega) (by exact hr.ct) (by exact bf_t1 (hushP_t c18 c20) (by omega) hbf) H locs ls X (lv_sub hl [0, 1, 2, 3, 4, 5, 6, 7] rfl)
          exact J48 ((2 ^ Mt 0 42 - 0) + 1) 0 1000 (-4) (Mt 0) (Mt 6) (Nat.lt_succ_self _) (by exact Nat.zero_le _) (by exact RK.rf _) (by rfl) H locs ls X (lv_sub hl [0, 1, 2, 3, 4, 5, 6, 7] rfl)
        · refine lv_iconst (v := (-1)) hx hb dX7_hush_34 (by decide) ?_
          exact hE (v := (-1)) (Mt 0, Mt 6) (by simp only [a_hush, c2, c4, c6, c8, tn_nI (k := xq) (by omega), tn_nI (k := yq) (by omega), tn_nI (k := zq) (by omega), pv80, pv81, pv82, pv83, pv0, pv1, pv2, pv3, pv4, pv5, pv6, pv7, eq_self, ne01, ne02, ne03, ne04, ne05, ne10, ne12, ne13, ne14, ne15, ne20, ne21, ne23, ne24, ne25, ne30, ne31, ne32, ne34, ne35, ne40, ne41, ne42, ne43, ne45, ne50, ne51, ne52, ne53, ne54, if_true, if_false, Bool.false_eq_true, Bool.and_self, Bool.and_true, Bool.and_false, Bool.true_and, Bool.false_and, Bool.not_true, Bool.not_false, decide_true, decide_false] <;> rfl) (by exact RK.rf _) X dX7_hush_35
set_option maxHeartbeats 4000000 in
set_option maxRecDepth 100000 in
theorem c_X7_join (l : Launch) (D : va_G) (tk : Nat → ClassId) (h : Nat → Nat) (Mt : Nat → Nat → Nat) (hi : Int32) (la ce : Nat → Int32) (x y z w : Int32) (hW : VW (pgv Mt 0)) : MX l yX7_join cX7_join 10 (some .int) ⟨3, 0, 0, 72⟩ D (TYS tk) [.ref (h 0), .int x, .int y, .int z, .int w] (mW tk h Mt hi la ce) (fun (u : (Nat → Nat) × (Nat → Nat)) => RK (Mt 0) u.1) (fun u => some (.int (a_join (pgv Mt 0) x y z w))) (fun u => mW tk h (u3 (u3 Mt 0 u.1) 6 u.2) hi la ce) 0 0 := by
  refine MX.of_i (by decide) rfl ?_
  intro zp ze zs zm za zb zt zc zA zQ ls C0 hnm X hl hE
  have hx := C0.1
  have hb := C0.2.1
  have ht := C0.2.2.2.2.1
  have X : Hx D zA zs zs.heap [] (mW tk h Mt hi la ce) := X
  have hl : lv_has ls 10 [(0, .ref (h 0)), (1, .int x), (2, .int y), (3, .int z), (4, .int w)] := hl
  obtain ⟨hv1, hv2, hv3, hv4, hv5, hv6, hv7⟩ := id hW
  have hb1 : Mt 20 0 ≤ 6 := hv1
  have hb2 : Mt 0 42 ≤ 9 := hv2
  have hb3 : Mt 0 43 ≤ 20 := hv3
  have hb4 : Mt 0 62 ≤ 6 := hv4
  have hkd : ∀ t, t < Mt 20 0 → Mt 0 t ≤ 3 := fun t ht => by have q := hv5 t ht; rw [pv0] at q; exact q
  have hrt : ∀ i, i < Mt 0 42 → Mt 0 (6 + i) < Mt 20 0 ∧ Mt 0 (15 + i) < Mt 20 0 ∧ Mt 0 (6 + i) ≠ Mt 0 (15 + i) ∧ 1 ≤ Mt 0 (24 + i) ∧ Mt 0 (24 + i) ≤ 9 ∧ Mt 0 (33 + i) ≤ 1 := fun i hi => hv6 i hi
  have htk : ∀ k, k < Mt 0 62 → Mt 0 (44 + k) ≤ 23 ∧ Mt 0 (50 + k) < Mt 20 0 ∧ 1 ≤ Mt 0 (56 + k) ∧ Mt 0 (56 + k) ≤ 60 := fun k hk => hv7 k hk
  obtain ⟨H, hH⟩ : ∃ H, H = zs.heap := ⟨_, rfl⟩
  rw [← hH] at X ⊢
  obtain ⟨locs, hlo⟩ : ∃ L : List Loc, L = [] := ⟨_, rfl⟩
  rw [← hlo] at X ⊢
  refine lv_aload_n hx hb dX7_join_0 rfl (lv_at hl 0 rfl) ?_
  refine lv_iload_n hx hb dX7_join_1 rfl (lv_at hl 1 rfl) ?_
  refine g_callV (As := [.int x]) (rest := []) (wr := []) (C0.sz hl) X (c_X7_isTree l D tk h Mt hi la ce x (by first | assumption | omega)) ⟨tb980, tb983, tb8, ⟨by decide, by decide, rfl⟩, rfl, rfl, Nat.le_of_ble_eq_true rfl, Nat.le_of_ble_eq_true rfl⟩ tb982 tbs37 0 7 rfl rfl rfl rfl [0, 1, 2, 3, 4, 5, 6, 7, 8, 9, 10, 11, 12, 13] [] rfl rfl rfl rfl rfl (Nat.le_of_ble_eq_true rfl) ⟨Nat.le_of_ble_eq_true rfl, Nat.le_of_ble_eq_true rfl⟩ dX7_join_2 (fun _ H locs _ X => ?_)
  have X : Hx D zA zs H locs (mW tk h Mt hi la ce) := X
  refine g_ifeqB (x := ix x (Mt 20 0)) (tgt := 38) C0 dX7_join_5 rfl (fun c1 => ?_) (fun c2 => ?_)
  · refine lv_iconst (v := (-1)) hx hb dX7_join_38 (by decide) ?_
    exact hE (v := (-1)) (Mt 0, Mt 6) (by simp only [a_join, c1, pv80, pv81, pv82, pv83, pv0, pv1, pv2, pv3, pv4, pv5, pv6, pv7, eq_self, ne01, ne02, ne03, ne04, ne05, ne10, ne12, ne13, ne14, ne15, ne20, ne21, ne23, ne24, ne25, ne30, ne31, ne32, ne34, ne35, ne40, ne41, ne42, ne43, ne45, ne50, ne51, ne52, ne53, ne54, if_true, if_false, Bool.false_eq_true, Bool.and_self, Bool.and_true, Bool.and_false, Bool.true_and, Bool.false_and, Bool.not_true, Bool.not_false, decide_true, decide_false] <;> rfl) (by exact RK.rf _) X dX7_join_39
  · obtain ⟨xq, hk_xq, rfl⟩ := ix_sp c2
    refine lv_iload_n hx hb dX7_join_8 rfl (lv_at hl 2 rfl) ?_
    refine g_callS (As := [.int y]) (rest := []) (wr := (mW tk h Mt hi la ce)) (C0.sz hl) X (c_X7_isBreath l D tk y) ⟨tb1009, tb1011, tb8, ⟨by decide, by decide, rfl⟩, rfl, rfl, Nat.le_of_ble_eq_true rfl, Nat.le_of_ble_eq_true rfl⟩ tb1010 rfl [] [0, 1, 2, 3, 4, 5, 6, 7, 8, 9, 10, 11, 12, 13] rfl rfl rfl rfl rfl (Nat.le_of_ble_eq_true rfl) ⟨Nat.le_of_ble_eq_true rfl, Nat.le_of_ble_eq_true rfl⟩ dX7_join_9 (fun _ H locs _ X => ?_)
    have X : Hx D zA zs H locs (mW tk h Mt hi la ce) := X
    refine g_ifeqB (x := rg y 1 60) (tgt := 38) C0 dX7_join_12 rfl (fun c3 => ?_) (fun c4 => ?_)
    · refine lv_iconst (v := (-1)) hx hb dX7_join_38 (by decide) ?_
      exact hE (v := (-1)) (Mt 0, Mt 6) (by simp only [a_join, c2, c3, tn_nI (k := xq) (by omega), pv80, pv81, pv82, pv83, pv0, pv1, pv2, pv3, pv4, pv5, pv6, pv7, eq_self, ne01, ne02, ne03, ne04, ne05, ne10, ne12, ne13, ne14, ne15, ne20, ne21, ne23, ne24, ne25, ne30, ne31, ne32, ne34, ne35, ne40, ne41, ne42, ne43, ne45, ne50, ne51, ne52, ne53, ne54, if_true, if_false, Bool.false_eq_true, Bool.and_self, Bool.and_true, Bool.and_false, Bool.true_and, Bool.false_and, Bool.not_true, Bool.not_false, decide_true, decide_false] <;> rfl) (by exact RK.rf _) X dX7_join_39
    · obtain ⟨yq, hk_yqa, hk_yqb, hk_yqc, rfl⟩ := rg_sp c4
      refine lv_iload_n hx hb dX7_join_15 rfl (lv_at hl 3 rfl) ?_
      refine lv_i2l hx hb dX7_join_16 rfl ?_
      refine g_lconst (n := 1) C0 rfl dX7_join_17 ?_
      refine lv_ldc2 (v := lN 9) hx hb C0.2.2.2.1 (ht _ tb1025) dX7_join_18 ?_
      refine g_callS (As := [.long (Int32.toInt64 z), .long (lN 1), .long (lN 9)]) (rest := []) (wr := (mW tk h Mt hi la ce)) (C0.sz hl) X (c_X7_in l D tk (Int32.toInt64 z) (lN 1) (lN 9)) ⟨tb885, tb887, tb8, ⟨by decide, by decide, rfl⟩, rfl, rfl, Nat.le_of_ble_eq_true rfl, Nat.le_of_ble_eq_true rfl⟩ tb886 rfl [] [0, 1, 2, 3, 4, 5, 6, 7, 8, 9, 10, 11, 12, 13] rfl rfl rfl rfl rfl (Nat.le_of_ble_eq_true rfl) ⟨Nat.le_of_ble_eq_true rfl, Nat.le_of_ble_eq_true rfl⟩ dX7_join_21 (fun _ H locs _ X => ?_)
      have X : Hx D zA zs H locs (mW tk h Mt hi la ce) := X
      refine g_top (y := nI (rb (rg z 1 9))) (by rw [inL_rg z (by first | decide | omega) (by first | decide | omega)]) ?_
      refine g_ifeqB (x := rg z 1 9) (tgt := 38) C0 dX7_join_24 rfl (fun c5 => ?_) (fun c6 => ?_)
      · refine lv_iconst (v := (-1)) hx hb dX7_join_38 (by decide) ?_
        exact hE (v := (-1)) (Mt 0, Mt 6) (by simp only [a_join, c2, c4, c5, tn_nI (k := xq) (by omega), tn_nI (k := yq) (by omega), pv80, pv81, pv82, pv83, pv0, pv1, pv2, pv3, pv4, pv5, pv6, pv7, eq_self, ne01, ne02, ne03, ne04, ne05, ne10, ne12, ne13, ne14, ne15, ne20, ne21, ne23, ne24, ne25, ne30, ne31, ne32, ne34, ne35, ne40, ne41, ne42, ne43, ne45, ne50, ne51, ne52, ne53, ne54, if_true, if_false, Bool.false_eq_true, Bool.and_self, Bool.and_true, Bool.and_false, Bool.true_and, Bool.false_and, Bool.not_true, Bool.not_false, decide_true, decide_false] <;> rfl) (by exact RK.rf _) X dX7_join_39
      · obtain ⟨zq, hk_zqa, hk_zqb, hk_zqc, rfl⟩ := rg_sp c6
        refine lv_iload hx hb dX7_join_27 (lv_at hl 4 rfl) ?_
        refine lv_i2l hx hb dX7_join_29 rfl ?_
        refine g_lconst (n := 0) C0 rfl dX7_join_30 ?_
        refine g_lconst (n := 1) C0 rfl dX7_join_31 ?_
        refine g_callS (As := [.long (Int32.toInt64 w), .long (lN 0), .long (lN 1)]) (rest := []) (wr := (mW tk h Mt hi la ce)) (C0.sz hl) X (c_X7_in l D tk (Int32.toInt64 w) (lN 0) (lN 1)) ⟨tb885, tb887, tb8, ⟨by decide, by decide, rfl⟩, rfl, rfl, Nat.le_of_ble_eq_true rfl, Nat.le_of_ble_eq_true rfl⟩ tb886 rfl [] [0, 1, 2, 3, 4, 5, 6, 7, 8, 9, 10, 11, 12, 13] rfl rfl rfl rfl rfl (Nat.le_of_ble_eq_true rfl) ⟨Nat.le_of_ble_eq_true rfl, Nat.le_of_ble_eq_true rfl⟩ dX7_join_32 (fun _ H locs _ X => ?_)
        have X : Hx D zA zs H locs (mW tk h Mt hi la ce) := X
        refine g_top (y := nI (rb (rg w 0 1))) (by rw [inL_rg w (by first | decide | omega) (by first | decide | omega)]) ?_
        refine g_ifneB (x := rg w 0 1) (tgt := 40) C0 dX7_join_35 rfl (fun c7 => ?_) (fun c8 => ?_)
        · obtain ⟨wq, hk_wqa, hk_wqb, hk_wqc, rfl⟩ := rg_sp c7
          refine lv_aload_n hx hb dX7_join_40 rfl (lv_at hl 0 rfl) ?_
          refine g_get (v := .ref (h 1)) C0 X kX7 0 0 tb797 rfl rfl rfl dX7_join_41 ?_
          refine g_bipush (n := 42) C0 (by decide) dX7_join_44 ?_
          refine g_iald (v := nI (Mt 0 42)) (i := 42) C0 X 1 0 rfl rfl (by omega) rfl rfl dX7_join_46 ?_
          refine g_bipush (n := 9) C0 (by decide) dX7_join_47 ?_
          refine g_icmp_ne (x := Mt 0 42) (y := 9) (tgt := 55) C0 (by omega) (by omega) dX7_join_49 rfl (fun c9 => ?_) (fun c10 => ?_)
          · refine lv_aload_n hx hb dX7_join_55 rfl (lv_at hl 0 rfl) ?_
            refine g_iconst (n := 0) C0 rfl dX7_join_56 ?_
            refine lv_iload_n hx hb dX7_join_57 rfl (lv_at hl 1 rfl) ?_
            refine lv_iload_n hx hb dX7_join_58 rfl (lv_at hl 2 rfl) ?_
            refine g_callV (As := [.int (nI 0), .int (nI xq), .int (nI yq)]) (rest := []) (wr := []) (C0.sz hl) X (c_X7_hearsOn l D tk h Mt hi la ce 0 xq yq (by omega) (by exact hW) (by omega) (by omega)) ⟨tb957, tb960, tb8, ⟨by decide, by decide, rfl⟩, rfl, rfl, Nat.le_of_ble_eq_true rfl, Nat.le_of_ble_eq_true rfl⟩ tb959 tbs33 0 7 rfl rfl rfl rfl [0, 1, 2, 3, 4, 5, 6, 7, 8, 9, 10, 11, 12, 13] [] rfl rfl rfl rfl rfl (Nat.le_of_ble_eq_true rfl) ⟨Nat.le_of_ble_eq_true rfl, Nat.le_of_ble_eq_true rfl⟩ dX7_join_59 (fun _ H locs _ X => ?_)
            have X : Hx D zA zs H locs (mW tk h (u3 Mt 6 (dist (pgv Mt 0) xq)) hi la ce) := X
            have hLh := hearS_lt (pgv Mt 0) xq yq hv1
            have hPh : pc (hearS (pgv Mt 0) xq yq) ≤ Mt 20 0 := pc_hear (pgv Mt 0) xq yq hv1
            refine g_callS (As := [.int (nI (hearS (pgv Mt 0) xq yq))]) (rest := []) (wr := (mW tk h (u3 Mt 6 (dist (pgv Mt 0) xq)) hi la ce)) (C0.sz hl) X (c_X7_bitsOf l D tk (hearS (pgv Mt 0) xq yq) (by first | assumption | omega)) ⟨tb973, tb975, tb8, ⟨by decide, by decide, rfl⟩, rfl, rfl, Nat.le_of_ble_eq_true rfl, Nat.le_of_ble_eq_true rfl⟩ tb974 rfl [] [0, 1, 2, 3, 4, 5, 6, 7, 8, 9, 10, 11, 12, 13] rfl rfl rfl rfl rfl (Nat.le_of_ble_eq_true rfl) ⟨Nat.le_of_ble_eq_true rfl, Nat.le_of_ble_eq_true rfl⟩ dX7_join_62 (fun _ H locs _ X => ?_)
            have X : Hx D zA zs H locs (mW tk h (u3 Mt 6 (dist (pgv Mt 0) xq)) hi la ce) := X
            refine lv_istore (lv' := [(5, .int (nI (pc (hearS (pgv Mt 0) xq yq)))), (0, .ref (h 0)), (1, .int (nI xq)), (2, .int (nI yq)), (3, .int (nI zq)), (4, .int (nI wq))]) hx hb dX7_join_65 hl (by decide) rfl (fun ls hl => ?_)
            refine lv_bipush (v := (-4)) hx hb dX7_join_67 (by decide) ?_
            refine lv_istore (lv' := [(6, .int (-4)), (5, .int (nI (pc (hearS (pgv Mt 0) xq yq)))), (0, .ref (h 0)), (1, .int (nI xq)), (2, .int (nI yq)), (3, .int (nI zq)), (4, .int (nI wq))]) hx hb dX7_join_69 hl (by decide) rfl (fun ls hl => ?_)
            refine g_iconst (n := 0) C0 rfl dX7_join_71 ?_
            refine lv_istore (lv' := [(7, .int (nI 0)), (6, .int (-4)), (5, .int (nI (pc (hearS (pgv Mt 0) xq yq)))), (0, .ref (h 0)), (1, .int (nI xq)), (2, .int (nI yq)), (3, .int (nI zq)), (4, .int (nI wq))]) hx hb dX7_join_72 hl (by decide) rfl (fun ls hl => ?_)
            have J74 : ∀ (fz : Nat) (i mo : Nat) (wh : Int32) (r1 d1 : Nat → Nat), Mt 20 0 - i < fz → ∀ (hi1 : i ≤ Mt 20 0) (hmo : mo ≤ Mt 20 0) (hr : RK (Mt 0) r1) (hbf : (wh, Mt 20 0 - mo) = jout (pgv Mt 0) xq yq zq i) (H : Heap) (locs : List Loc) (ls : Array Slot), Hx D zA zs H locs (mW tk h (u3 (u3 Mt 0 r1) 6 d1) hi la ce) → lv_has ls 10 [(7, .int (nI i)), (6, .int wh), (5, .int (nI mo)), (0, .ref (h 0)), (1, .int (nI xq)), (2, .int (nI yq)), (3, .int (nI zq)), (4, .int (nI wq))] → W zp l ze ⟨3, 0, 0, 72⟩ zs zm za zb zt zc H locs 0 0 zQ (F0 zm 74 ls []) := by
              intro fz
              induction fz with
              | zero => intro i mo wh r1 d1 hz; exact absurd hz (Nat.not_lt_zero _)
              | succ fz ih74 =>
                intro i mo wh r1 d1 hz74 hi1 hmo hr hbf H locs ls X hl
                refine lv_iload hx hb dX7_join_74 (lv_at hl 0 rfl) ?_
                refine lv_aload_n hx hb dX7_join_76 rfl (lv_at hl 3 rfl) ?_
                refine g_get (v := .int (nI (Mt 20 0))) C0 X kX7 0 1 tb798 rfl rfl rfl dX7_join_77 ?_
                refine g_icmp_ge (x := i) (y := Mt 20 0) (tgt := 182) C0 (by omega) (by omega) dX7_join_80 rfl (fun c11 => ?_) (fun c12 => ?_)
                · refine lv_iload hx hb dX7_join_182 (lv_at hl 1 rfl) ?_
                  refine lv_bipush (v := (-4)) hx hb dX7_join_184 (by decide) ?_
                  refine lv_icmp_eq (tgt := 194) hx hb dX7_join_186 rfl (fun c13 => ?_) (fun c14 => ?_)
                  · refine lv_iload hx hb dX7_join_194 (lv_at hl 1 rfl) ?_
                    refine lv_goto (tgt := 201) hx hb dX7_join_196 (by decide) ?_
                    exact hE (v := wh) (r1, d1) (by rw [a_join, if_pos (by rw [pv80, c2, c4, c6, c7]; rfl), tn_nI (k := xq) (by omega), tn_nI (k := yq) (by omega), tn_nI (k := zq) (by omega), tn_nI (k := wq) (by omega), pv81, if_neg (show ¬ Mt 0 42 = 9 by omega), show jout (pgv Mt 0) xq yq zq (pgv Mt 0 8 0) = jout (pgv Mt 0) xq yq zq i by rw [pv80, show Mt 20 0 = i by omega], join_t hbf, if_pos (Or.inr c13)]) (by exact hr) X dX7_join_201
                  · refine lv_iload hx hb dX7_join_189 (lv_at hl 7 rfl) ?_
                    refine g_ifne (x := wq) (tgt := 199) C0 (by omega) dX7_join_191 rfl (fun c15 => ?_) (fun c16 => ?_)
                    · refine lv_iload hx hb dX7_join_199 (lv_at hl 2 rfl) ?_
                      exact hE (v := nI mo) (r1, d1) (by rw [a_join, if_pos (by rw [pv80, c2, c4, c6, c7]; rfl), tn_nI (k := xq) (by omega), tn_nI (k := yq) (by omega), tn_nI (k := zq) (by omega), tn_nI (k := wq) (by omega), pv81, if_neg (show ¬ Mt 0 42 = 9 by omega), show jout (pgv Mt 0) xq yq zq (pgv Mt 0 8 0) = jout (pgv Mt 0) xq yq zq i by rw [pv80, show Mt 20 0 = i by omega], join_t hbf, if_neg (fun q => q.elim (by omega) c14), pv80, show Mt 20 0 - (Mt 20 0 - mo) = mo by omega]) (by exact hr) X dX7_join_201
                    · refine lv_iload hx hb dX7_join_194 (lv_at hl 1 rfl) ?_
                      refine lv_goto (tgt := 201) hx hb dX7_join_196 (by decide) ?_
                      exact hE (v := wh) (r1, d1) (by rw [a_join, if_pos (by rw [pv80, c2, c4, c6, c7]; rfl), tn_nI (k := xq) (by omega), tn_nI (k := yq) (by omega), tn_nI (k := zq) (by omega), tn_nI (k := wq) (by omega), pv81, if_neg (show ¬ Mt 0 42 = 9 by omega), show jout (pgv Mt 0) xq yq zq (pgv Mt 0 8 0) = jout (pgv Mt 0) xq yq zq i by rw [pv80, show Mt 20 0 = i by omega], join_t hbf, if_pos (Or.inl (by omega))]) (by exact hr) X dX7_join_201
                · refine lv_iload hx hb dX7_join_83 (lv_at hl 0 rfl) ?_
                  refine g_iconst (n := 1) C0 rfl dX7_join_85 ?_
                  refine g_iadd (n := i + 1) C0 (by first | rfl | omega) dX7_join_86 ?_
                  refine lv_istore (lv' := [(8, .int (nI (i + 1))), (7, .int (nI i)), (6, .int wh), (5, .int (nI mo)), (0, .ref (h 0)), (1, .int (nI xq)), (2, .int (nI yq)), (3, .int (nI zq)), (4, .int (nI wq))]) hx hb dX7_join_87 hl (by decide) rfl (fun ls hl => ?_)
                  have J89 : ∀ (fz : Nat) (j mo2 : Nat) (wh2 : Int32) (r2 d2 : Nat → Nat), Mt 20 0 - j < fz → ∀ (hj1 : i < j) (hj : j ≤ Mt 20 0) (hmo2 : mo2 ≤ Mt 20 0) (hr2 : RK (Mt 0) r2) (hb2 : (wh2, Mt 20 0 - mo2) = jin (jx (pgv Mt 0) xq yq zq i) i (wh, Mt 20 0 - mo) j) (H : Heap) (locs : List Loc) (ls : Array Slot), Hx D zA zs H locs (mW tk h (u3 (u3 Mt 0 r2) 6 d2) hi la ce) → lv_has ls 10 [(8, .int (nI j)), (7, .int (nI i)), (6, .int wh2), (5, .int (nI mo2)), (0, .ref (h 0)), (1, .int (nI xq)), (2, .int (nI yq)), (3, .int (nI zq)), (4, .int (nI wq))] → W zp l ze ⟨3, 0, 0, 72⟩ zs zm za zb zt zc H locs 0 0 zQ (F0 zm 89 ls []) := by
                    intro fz
                    induction fz with
                    | zero => intro j mo2 wh2 r2 d2 hz; exact absurd hz (Nat.not_lt_zero _)
                    | succ fz ih89 =>
                      intro j mo2 wh2 r2 d2 hz89 hj1 hj hmo2 hr2 hb2 H locs ls X hl
                      refine lv_iload hx hb dX7_join_89 (lv_at hl 0 rfl) ?_
                      refine lv_aload_n hx hb dX7_join_91 rfl (lv_at hl 4 rfl) ?_
                      refine g_get (v := .int (nI (Mt 20 0))) C0 X kX7 0 1 tb798 rfl rfl rfl dX7_join_92 ?_
                      refine g_icmp_ge (x := j) (y := Mt 20 0) (tgt := 176) C0 (by omega) (by omega) dX7_join_95 rfl (fun c17 => ?_) (fun c18 => ?_)
                      · refine g_iinc (j := 1) (z := i + 1) (lv' := [(7, .int (nI (i + 1))), (8, .int (nI j)), (6, .int wh2), (5, .int (nI mo2)), (0, .ref (h 0)), (1, .int (nI xq)), (2, .int (nI yq)), (3, .int (nI zq)), (4, .int (nI wq))]) C0 rfl (by first | rfl | omega) dX7_join_176 hl (k := 1) rfl (by decide) rfl (fun ls hl => ?_)
                        refine lv_goto (tgt := 74) hx hb dX7_join_179 (by decide) ?_
                        exact ih74 (i + 1) mo2 wh2 r2 d2 (by omega) (by omega) (by omega) (by exact hr2) (by show (wh2, Mt 20 0 - mo2) = jin (jx (pgv Mt 0) xq yq zq i) i (jout (pgv Mt 0) xq yq zq i) (Mt 20 0); rw [← hbf, show Mt 20 0 = j by omega]; rw [show Mt 20 0 = j by omega] at hb2; exact hb2) H locs ls X (lv_sub hl [0, 2, 3, 4, 5, 6, 7, 8] rfl)
                      · refine lv_aload_n hx hb dX7_join_98 rfl (lv_at hl 4 rfl) ?_
                        refine g_iconst (n := 0) C0 rfl dX7_join_99 ?_
                        refine g_sipush (n := 252) C0 (by decide) dX7_join_100 ?_
                        refine g_callV (As := [.int (nI 0), .int (nI 252)]) (rest := []) (wr := []) (C0.sz hl) X (c_X7_copies l D tk h (u3 (u3 Mt 0 r2) 6 d2) hi la ce 0 252 (by omega) (by omega) (by omega)) ⟨tb1096, tb1099, tb8, ⟨by decide, by decide, rfl⟩, rfl, rfl, Nat.le_of_ble_eq_true rfl, Nat.le_of_ble_eq_true rfl⟩ tb1098 tbs46 0 7 rfl rfl rfl rfl [0, 1, 2, 3, 4, 5, 6, 7, 8, 9, 10, 11, 12, 13] [] rfl rfl rfl rfl rfl (Nat.le_of_ble_eq_true rfl) ⟨Nat.le_of_ble_eq_true rfl, Nat.le_of_ble_eq_true rfl⟩ dX7_join_103 (fun _ H locs _ X => ?_)
                        have X : Hx D zA zs H locs (mW tk h (u3 (u3 Mt 6 d2) 0 (pcopy ((u3 Mt 0 r2) 0) 0 252 63)) hi la ce) := X
                        refine lv_aload_n hx hb dX7_join_106 rfl (lv_at hl 4 rfl) ?_
                        refine g_sipush (n := 252) C0 (by decide) dX7_join_107 ?_
                        refine lv_iload hx hb dX7_join_110 (lv_at hl 1 rfl) ?_
                        refine lv_iload hx hb dX7_join_112 (lv_at hl 0 rfl) ?_
                        refine lv_iload_n hx hb dX7_join_114 rfl (lv_at hl 7 rfl) ?_
                        refine g_callV (As := [.int (nI 252), .int (nI i), .int (nI j), .int (nI zq)]) (rest := []) (wr := []) (C0.sz hl) X (c_X7_growsOn l D tk h (u3 (u3 Mt 6 d2) 0 (pcopy ((u3 Mt 0 r2) 0) 0 252 63)) hi la ce 252 i j zq (by omega) (by show pcopy r2 0 252 63 (252 + 42) < 9; rw [pcopy_in (by decide)]; show r2 (0 + 42) < 9; rw [hr2 (0 + 42) (by decide)]; show Mt 0 42 < 9; omega)) ⟨tb1030, tb1033, tb8, ⟨by decide, by decide, rfl⟩, rfl, rfl, Nat.le_of_ble_eq_true rfl, Nat.le_of_ble_eq_true rfl⟩ tb1032 tbs41 0 7 rfl rfl rfl rfl [0, 1, 2, 3, 4, 5, 6, 7, 8, 9, 10, 11, 12, 13] [] rfl rfl rfl rfl rfl (Nat.le_of_ble_eq_true rfl) ⟨Nat.le_of_ble_eq_true rfl, Nat.le_of_ble_eq_true rfl⟩ dX7_join_115 (fun _ H locs _ X => ?_)
                        have X : Hx D zA zs H locs (mW tk h (u2 (u2 (u2 (u2 (u2 (u3 (u3 Mt 6 d2) 0 (pcopy ((u3 Mt 0 r2) 0) 0 252 63)) 0 (252 + 6 + (u3 (u3 Mt 6 d2) 0 (pcopy ((u3 Mt 0 r2) 0) 0 252 63)) 0 (252 + 42)) i) 0 (252 + 15 + (u3 (u3 Mt 6 d2) 0 (pcopy ((u3 Mt 0 r2) 0) 0 252 63)) 0 (252 + 42)) j) 0 (252 + 24 + (u3 (u3 Mt 6 d2) 0 (pcopy ((u3 Mt 0 r2) 0) 0 252 63)) 0 (252 + 42)) zq) 0 (252 + 33 + (u3 (u3 Mt 6 d2) 0 (pcopy ((u3 Mt 0 r2) 0) 0 252 63)) 0 (252 + 42)) 0) 0 (252 + 42) ((u3 (u3 Mt 6 d2) 0 (pcopy ((u3 Mt 0 r2) 0) 0 252 63)) 0 (252 + 42) + 1)) hi la ce) := X
                        have e42 : pcopy r2 0 252 63 (252 + 42) = Mt 0 42 := by rw [pcopy_in (by decide)]; exact hr2 (0 + 42) (by decide)
                        have X : Hx D zA zs H locs (mW tk h (u3 (u3 Mt 0 (u1 (u1 (u1 (u1 (u1 (pcopy r2 0 252 63) (252 + 6 + pcopy r2 0 252 63 (252 + 42)) i) (252 + 15 + pcopy r2 0 252 63 (252 + 42)) j) (252 + 24 + pcopy r2 0 252 63 (252 + 42)) zq) (252 + 33 + pcopy r2 0 252 63 (252 + 42)) 0) (252 + 42) (pcopy r2 0 252 63 (252 + 42) + 1))) 6 d2) hi la ce) := X
                        rw [e42] at X
                        have X : Hx D zA zs H locs (mW tk h (u3 (u3 Mt 0 (u1 (u1 (u1 (u1 (u1 (pcopy r2 0 252 63) (252 + 6 + Mt 0 42) i) (252 + 15 + Mt 0 42) j) (252 + 24 + Mt 0 42) zq) (252 + 33 + Mt 0 42) 0) (252 + 42) (Mt 0 42 + 1))) 6 d2) hi la ce) := X
                        have hGE := pg_grow (a := i) (b := j) (L := zq) hW (show Mt 0 42 < 9 by omega) hr2
                        have hGW := VW.growu (a := i) (b := j) (L := zq) hW (show Mt 0 42 < 9 by omega) (show i < Mt 20 0 by omega) (show j < Mt 20 0 by omega) (by omega) ⟨by omega, by omega⟩
                        refine lv_aload_n hx hb dX7_join_118 rfl (lv_at hl 4 rfl) ?_
                        refine g_sipush (n := 252) C0 (by decide) dX7_join_119 ?_
                        refine lv_iload_n hx hb dX7_join_122 rfl (lv_at hl 5 rfl) ?_
                        refine lv_iload_n hx hb dX7_join_123 rfl (lv_at hl 6 rfl) ?_
                        refine g_callV (As := [.int (nI 252), .int (nI xq), .int (nI yq)]) (rest := []) (wr := []) (C0.sz hl) X (c_X7_hearsOn l D tk h (u3 (u3 Mt 0 (u1 (u1 (u1 (u1 (u1 (pcopy r2 0 252 63) (252 + 6 + Mt 0 42) i) (252 + 15 + Mt 0 42) j) (252 + 24 + Mt 0 42) zq) (252 + 33 + Mt 0 42) 0) (252 + 42) (Mt 0 42 + 1))) 6 d2) hi la ce 252 xq yq (by omega) (by exact VW.eq hGE.sy hGW) (by omega) (by omega)) ⟨tb957, tb960, tb8, ⟨by decide, by decide, rfl⟩, rfl, rfl, Nat.le_of_ble_eq_true rfl, Nat.le_of_ble_eq_true rfl⟩ tb959 tbs33 0 7 rfl rfl rfl rfl [0, 1, 2, 3, 4, 5, 6, 7, 8, 9, 10, 11, 12, 13] [] rfl rfl rfl rfl rfl (Nat.le_of_ble_eq_true rfl) ⟨Nat.le_of_ble_eq_true rfl, Nat.le_of_ble_eq_true rfl⟩ dX7_join_124 (fun _ H locs _ X => ?_)
                        have X : Hx D zA zs H locs (mW tk h (u3 (u3 Mt 0 (u1 (u1 (u1 (u1 (u1 (pcopy r2 0 252 63) (252 + 6 + Mt 0 42) i) (252 + 15 + Mt 0 42) j) (252 + 24 + Mt 0 42) zq) (252 + 33 + Mt 0 42) 0) (252 + 42) (Mt 0 42 + 1))) 6 (dist (pgv (u3 Mt 0 (u1 (u1 (u1 (u1 (u1 (pcopy r2 0 252 63) (252 + 6 + Mt 0 42) i) (252 + 15 + Mt 0 42) j) (252 + 24 + Mt 0 42) zq) (252 + 33 + Mt 0 42) 0) (252 + 42) (Mt 0 42 + 1))) 252) xq)) hi la ce) := X
                        refine g_top (y := nI (hearS (growv (pgv Mt 0) i j zq) xq yq)) (by exact congrArg nI (hearS_eq hGE _ _)) ?_
                        have hLj := hearS_lt (growv (pgv Mt 0) i j zq) xq yq hv1
                        refine g_callS (As := [.int (nI (hearS (growv (pgv Mt 0) i j zq) xq yq))]) (rest := []) (wr := (mW tk h (u3 (u3 Mt 0 (u1 (u1 (u1 (u1 (u1 (pcopy r2 0 252 63) (252 + 6 + Mt 0 42) i) (252 + 15 + Mt 0 42) j) (252 + 24 + Mt 0 42) zq) (252 + 33 + Mt 0 42) 0) (252 + 42) (Mt 0 42 + 1))) 6 (dist (pgv (u3 Mt 0 (u1 (u1 (u1 (u1 (u1 (pcopy r2 0 252 63) (252 + 6 + Mt 0 42) i) (252 + 15 + Mt 0 42) j) (252 + 24 + Mt 0 42) zq) (252 + 33 + Mt 0 42) 0) (252 + 42) (Mt 0 42 + 1))) 252) xq)) hi la ce)) (C0.sz hl) X (c_X7_bitsOf l D tk (hearS (growv (pgv Mt 0) i j zq) xq yq) (by first | assumption | omega)) ⟨tb973, tb975, tb8, ⟨by decide, by decide, rfl⟩, rfl, rfl, Nat.le_of_ble_eq_true rfl, Nat.le_of_ble_eq_true rfl⟩ tb974 rfl [] [0, 1, 2, 3, 4, 5, 6, 7, 8, 9, 10, 11, 12, 13] rfl rfl rfl rfl rfl (Nat.le_of_ble_eq_true rfl) ⟨Nat.le_of_ble_eq_true rfl, Nat.le_of_ble_eq_true rfl⟩ dX7_join_127 (fun _ H locs _ X => ?_)
                        have X : Hx D zA zs H locs (mW tk h (u3 (u3 Mt 0 (u1 (u1 (u1 (u1 (u1 (pcopy r2 0 252 63) (252 + 6 + Mt 0 42) i) (252 + 15 + Mt 0 42) j) (252 + 24 + Mt 0 42) zq) (252 + 33 + Mt 0 42) 0) (252 + 42) (Mt 0 42 + 1))) 6 (dist (pgv (u3 Mt 0 (u1 (u1 (u1 (u1 (u1 (pcopy r2 0 252 63) (252 + 6 + Mt 0 42) i) (252 + 15 + Mt 0 42) j) (252 + 24 + Mt 0 42) zq) (252 + 33 + Mt 0 42) 0) (252 + 42) (Mt 0 42 + 1))) 252) xq)) hi la ce) := X
                        have hPj : pc (hearS (growv (pgv Mt 0) i j zq) xq yq) ≤ Mt 20 0 := pc_hear _ xq yq hv1
                        refine lv_istore (lv' := [(9, .int (nI (pc (hearS (growv (pgv Mt 0) i j zq) xq yq)))), (8, .int (nI j)), (7, .int (nI i)), (6, .int wh2), (5, .int (nI mo2)), (0, .ref (h 0)), (1, .int (nI xq)), (2, .int (nI yq)), (3, .int (nI zq)), (4, .int (nI wq))]) hx hb dX7_join_130 hl (by decide) rfl (fun ls hl => ?_)
                        refine lv_iload hx hb dX7_join_132 (lv_at hl 0 rfl) ?_
                        refine lv_iload hx hb dX7_join_134 (lv_at hl 4 rfl) ?_
                        refine g_icmp_le (x := pc (hearS (growv (pgv Mt 0) i j zq) xq yq)) (y := mo2) (tgt := 150) C0 (by omega) (by omega) dX7_join_136 rfl (fun c19 => ?_) (fun c20 => ?_)
                        · refine lv_iload hx hb dX7_join_150 (lv_at hl 3 rfl) ?_
                          refine lv_istore (lv' := [(6, .int wh2), (9, .int (nI (pc (hearS (growv (pgv Mt 0) i j zq) xq yq)))), (8, .int (nI j)), (7, .int (nI i)), (5, .int (nI mo2)), (0, .ref (h 0)), (1, .int (nI xq)), (2, .int (nI yq)), (3, .int (nI zq)), (4, .int (nI wq))]) hx hb dX7_join_152 hl (by decide) rfl (fun ls hl => ?_)
                          refine lv_iload hx hb dX7_join_154 (lv_at hl 1 rfl) ?_
                          refine lv_iload hx hb dX7_join_156 (lv_at hl 4 rfl) ?_
                          refine g_icmp_le (x := pc (hearS (growv (pgv Mt 0) i j zq) xq yq)) (y := mo2) (tgt := 166) C0 (by omega) (by omega) dX7_join_158 rfl (fun c21 => ?_) (fun c22 => ?_)
                          · refine lv_iload hx hb dX7_join_166 (lv_at hl 4 rfl) ?_
                            refine lv_istore (lv' := [(5, .int (nI mo2)), (6, .int wh2), (9, .int (nI (pc (hearS (growv (pgv Mt 0) i j zq) xq yq)))), (8, .int (nI j)), (7, .int (nI i)), (0, .ref (h 0)), (1, .int (nI xq)), (2, .int (nI yq)), (3, .int (nI zq)), (4, .int (nI wq))]) hx hb dX7_join_168 hl (by decide) rfl (fun ls hl => ?_)
                            refine g_iinc (j := 1) (z := j + 1) (lv' := [(8, .int (nI (j + 1))), (5, .int (nI mo2)), (6, .int wh2), (9, .int (nI (pc (hearS (growv (pgv Mt 0) i j zq) xq yq)))), (7, .int (nI i)), (0, .ref (h 0)), (1, .int (nI xq)), (2, .int (nI yq)), (3, .int (nI zq)), (4, .int (nI wq))]) C0 rfl (by first | rfl | omega) dX7_join_170 hl (k := 3) rfl (by decide) rfl (fun ls hl => ?_)
                            refine lv_goto (tgt := 89) hx hb dX7_join_173 (by decide) ?_
                            exact ih89 (j + 1) mo2 wh2 (u1 (u1 (u1 (u1 (u1 (pcopy r2 0 252 63) (252 + 6 + Mt 0 42) i) (252 + 15 + Mt 0 42) j) (252 + 24 + Mt 0 42) zq) (252 + 33 + Mt 0 42) 0) (252 + 42) (Mt 0 42 + 1)) (dist (pgv (u3 Mt 0 (u1 (u1 (u1 (u1 (u1 (pcopy r2 0 252 63) (252 + 6 + Mt 0 42) i) (252 + 15 + Mt 0 42) j) (252 + 24 + Mt 0 42) zq) (252 + 33 + Mt 0 42) 0) (252 + 42) (Mt 0 42 + 1))) 252) xq) (by omega) (by omega) (by omega) (by omega) (by exact (((((hr2.cp).u1 (by omega)).u1 (by omega)).u1 (by omega)).u1 (by omega)).u1 (by omega)) (by exact jin_n (X := Mt 20 0 - (pc (hearS (growv (pgv Mt 0) i j zq) xq yq))) (by omega) rfl (by omega) hb2) H locs ls X (lv_sub hl [0, 4, 2, 1, 5, 6, 7, 8, 9] rfl)
                          · refine lv_iload hx hb dX7_join_161 (lv_at hl 1 rfl) ?_
                            refine lv_goto (tgt := 168) hx hb dX7_join_163 (by decide) ?_
                            refine lv_istore (lv' := [(5, .int (nI (pc (hearS (growv (pgv Mt 0) i j zq) xq yq)))), (6, .int wh2), (9, .int (nI (pc (hearS (growv (pgv Mt 0) i j zq) xq yq)))), (8, .int (nI j)), (7, .int (nI i)), (0, .ref (h 0)), (1, .int (nI xq)), (2, .int (nI yq)), (3, .int (nI zq)), (4, .int (nI wq))]) hx hb dX7_join_168 hl (by decide) rfl (fun ls hl => ?_)
                            refine g_iinc (j := 1) (z := j + 1) (lv' := [(8, .int (nI (j + 1))), (5, .int (nI (pc (hearS (growv (pgv Mt 0) i j zq) xq yq)))), (6, .int wh2), (9, .int (nI (pc (hearS (growv (pgv Mt 0) i j zq) xq yq)))), (7, .int (nI i)), (0, .ref (h 0)), (1, .int (nI xq)), (2, .int (nI yq)), (3, .int (nI zq)), (4, .int (nI wq))]) C0 rfl (by first | rfl | omega) dX7_join_170 hl (k := 3) rfl (by decide) rfl (fun ls hl => ?_)
                            refine lv_goto (tgt := 89) hx hb dX7_join_173 (by decide) ?_
                            exact ih89 (j + 1) (pc (hearS (growv (pgv Mt 0) i j zq) xq yq)) wh2 (u1 (u1 (u1 (u1 (u1 (pcopy r2 0 252 63) (252 + 6 + Mt 0 42) i) (252 + 15 + Mt 0 42) j) (252 + 24 + Mt 0 42) zq) (252 + 33 + Mt 0 42) 0) (252 + 42) (Mt 0 42 + 1)) (dist (pgv (u3 Mt 0 (u1 (u1 (u1 (u1 (u1 (pcopy r2 0 252 63) (252 + 6 + Mt 0 42) i) (252 + 15 + Mt 0 42) j) (252 + 24 + Mt 0 42) zq) (252 + 33 + Mt 0 42) 0) (252 + 42) (Mt 0 42 + 1))) 252) xq) (by omega) (by omega) (by omega) (by omega) (by exact (((((hr2.cp).u1 (by omega)).u1 (by omega)).u1 (by omega)).u1 (by omega)).u1 (by omega)) (by exfalso; omega) H locs ls X (lv_sub hl [0, 4, 2, 1, 5, 6, 7, 8, 9] rfl)
                        · refine g_bipush (n := 10) C0 (by decide) dX7_join_139 ?_
                          refine lv_iload hx hb dX7_join_141 (lv_at hl 2 rfl) ?_
                          refine g_imul (n := 10 * i) C0 rfl dX7_join_143 ?_
                          refine lv_iload hx hb dX7_join_144 (lv_at hl 1 rfl) ?_
                          refine g_iadd (n := (10 * i) + j) C0 (by first | rfl | omega) dX7_join_146 ?_
                          refine lv_goto (tgt := 152) hx hb dX7_join_147 (by decide) ?_
                          refine lv_istore (lv' := [(6, .int (nI ((10 * i) + j))), (9, .int (nI (pc (hearS (growv (pgv Mt 0) i j zq) xq yq)))), (8, .int (nI j)), (7, .int (nI i)), (5, .int (nI mo2)), (0, .ref (h 0)), (1, .int (nI xq)), (2, .int (nI yq)), (3, .int (nI zq)), (4, .int (nI wq))]) hx hb dX7_join_152 hl (by decide) rfl (fun ls hl => ?_)
                          refine lv_iload hx hb dX7_join_154 (lv_at hl 1 rfl) ?_
                          refine lv_iload hx hb dX7_join_156 (lv_at hl 4 rfl) ?_
                          refine g_icmp_le (x := pc (hearS (growv (pgv Mt 0) i j zq) xq yq)) (y := mo2) (tgt := 166) C0 (by omega) (by omega) dX7_join_158 rfl (fun c23 => ?_) (fun c24 => ?_)
                          · refine lv_iload hx hb dX7_join_166 (lv_at hl 4 rfl) ?_
                            refine lv_istore (lv' := [(5, .int (nI mo2)), (6, .int (nI ((10 * i) + j))), (9, .int (nI (pc (hearS (growv (pgv Mt 0) i j zq) xq yq)))), (8, .int (nI j)), (7, .int (nI i)), (0, .ref (h 0)), (1, .int (nI xq)), (2, .int (nI yq)), (3, .int (nI zq)), (4, .int (nI wq))]) hx hb dX7_join_168 hl (by decide) rfl (fun ls hl => ?_)
                            refine g_iinc (j := 1) (z := j + 1) (lv' := [(8, .int (nI (j + 1))), (5, .int (nI mo2)), (6, .int (nI ((10 * i) + j))), (9, .int (nI (pc (hearS (growv (pgv Mt 0) i j zq) xq yq)))), (7, .int (nI i)), (0, .ref (h 0)), (1, .int (nI xq)), (2, .int (nI yq)), (3, .int (nI zq)), (4, .int (nI wq))]) C0 rfl (by first | rfl | omega) dX7_join_170 hl (k := 3) rfl (by decide) rfl (fun ls hl => ?_)
                            refine lv_goto (tgt := 89) hx hb dX7_join_173 (by decide) ?_
                            exact ih89 (j + 1) mo2 (nI ((10 * i) + j)) (u1 (u1 (u1 (u1 (u1 (pcopy r2 0 252 63) (252 + 6 + Mt 0 42) i) (252 + 15 + Mt 0 42) j) (252 + 24 + Mt 0 42) zq) (252 + 33 + Mt 0 42) 0) (252 + 42) (Mt 0 42 + 1)) (dist (pgv (u3 Mt 0 (u1 (u1 (u1 (u1 (u1 (pcopy r2 0 252 63) (252 + 6 + Mt 0 42) i) (252 + 15 + Mt 0 42) j) (252 + 24 + Mt 0 42) zq) (252 + 33 + Mt 0 42) 0) (252 + 42) (Mt 0 42 + 1))) 252) xq) (by omega) (by omega) (by omega) (by omega) (by exact (((((hr2.cp).u1 (by omega)).u1 (by omega)).u1 (by omega)).u1 (by omega)).u1 (by omega)) (by exfalso; omega) H locs ls X (lv_sub hl [0, 4, 2, 1, 5, 6, 7, 8, 9] rfl)
                          · refine lv_iload hx hb dX7_join_161 (lv_at hl 1 rfl) ?_
                            refine lv_goto (tgt := 168) hx hb dX7_join_163 (by decide) ?_
                            refine lv_istore (lv' := [(5, .int (nI (pc (hearS (growv (pgv Mt 0) i j zq) xq yq)))), (6, .int (nI ((10 * i) + j))), (9, .int (nI (pc (hearS (growv (pgv Mt 0) i j zq) xq yq)))), (8, .int (nI j)), (7, .int (nI i)), (0, .ref (h 0)), (1, .int (nI xq)), (2, .int (nI yq)), (3, .int (nI zq)), (4, .int (nI wq))]) hx hb dX7_join_168 hl (by decide) rfl (fun ls hl => ?_)
                            refine g_iinc (j := 1) (z := j + 1) (lv' := [(8, .int (nI (j + 1))), (5, .int (nI (pc (hearS (growv (pgv Mt 0) i j zq) xq yq)))), (6, .int (nI ((10 * i) + j))), (9, .int (nI (pc (hearS (growv (pgv Mt 0) i j zq) xq yq)))), (7, .int (nI i)), (0, .ref (h 0)), (1, .int (nI xq)), (2, .int (nI yq)), (3, .int (nI zq)), (4, .int (nI wq))]) C0 rfl (by first | rfl | omega) dX7_join_170 hl (k := 3) rfl (by decide) rfl (fun ls hl => ?_)
                            refine lv_goto (tgt := 89) hx hb dX7_join_173 (by decide) ?_
                            exact ih89 (j + 1) (pc (hearS (growv (pgv Mt 0) i j zq) xq yq)) (nI ((10 * i) + j)) (u1 (u1 (u1 (u1 (u1 (pcopy r2 0 252 63) (252 + 6 + Mt 0 42) i) (252 + 15 + Mt 0 42) j) (252 + 24 + Mt 0 42) zq) (252 + 33 + Mt 0 42) 0) (252 + 42) (Mt 0 42 + 1)) (dist (pgv (u3 Mt 0 (u1 (u1 (u1 (u1 (u1 (pcopy r2 0 252 63) (252 + 6 + Mt 0 42) i) (252 + 15 + Mt 0 42) j) (252 + 24 + Mt 0 42) zq) (252 + 33 + Mt 0 42) 0) (252 + 42) (Mt 0 42 + 1))) 252) xq) (by omega) (by omega) (by omega) (by omega) (by exact (((((hr2.cp).u1 (by omega)).u1 (by omega)).u1 (by omega)).u1 (by omega)).u1 (by omega)) (by exact jin_y (X := Mt 20 0 - (pc (hearS (growv (pgv Mt 0) i j zq) xq yq))) (by omega) rfl (by omega) hb2) H locs ls X (lv_sub hl [0, 4, 2, 1, 5, 6, 7, 8, 9] rfl)
                  exact J89 ((Mt 20 0 - (i + 1)) + 1) (i + 1) mo wh r1 d1 (Nat.lt_succ_self _) (by omega) (by omega) (by omega) (by exact hr) (by exact (jin_0 _ _ _ _ (by omega)).symm) H locs ls X (lv_sub hl [0, 1, 2, 3, 4, 5, 6, 7, 8] rfl)
            exact J74 ((Mt 20 0 - 0) + 1) 0 (pc (hearS (pgv Mt 0) xq yq)) (-4) (Mt 0) (dist (pgv Mt 0) xq) (Nat.lt_succ_self _) (by omega) (by omega) (by exact RK.rf _) (by rfl) H locs ls X (lv_sub hl [0, 1, 2, 3, 4, 5, 6, 7] rfl)
          · refine lv_bipush (v := (-3)) hx hb dX7_join_52 (by decide) ?_
            exact hE (v := (-3)) (Mt 0, Mt 6) (by rw [a_join, if_pos (by rw [pv80, c2, c4, c6, c7]; rfl), pv81, if_pos c10]) (by exact RK.rf _) X dX7_join_54
        · refine lv_iconst (v := (-1)) hx hb dX7_join_38 (by decide) ?_
          exact hE (v := (-1)) (Mt 0, Mt 6) (by simp only [a_join, c2, c4, c6, c8, tn_nI (k := xq) (by omega), tn_nI (k := yq) (by omega), tn_nI (k := zq) (by omega), pv80, pv81, pv82, pv83, pv0, pv1, pv2, pv3, pv4, pv5, pv6, pv7, eq_self, ne01, ne02, ne03, ne04, ne05, ne10, ne12, ne13, ne14, ne15, ne20, ne21, ne23, ne24, ne25, ne30, ne31, ne32, ne34, ne35, ne40, ne41, ne42, ne43, ne45, ne50, ne51, ne52, ne53, ne54, if_true, if_false, Bool.false_eq_true, Bool.and_self, Bool.and_true, Bool.and_false, Bool.true_and, Bool.false_and, Bool.not_true, Bool.not_false, decide_true, decide_false] <;> rfl) (by exact RK.rf _) X dX7_join_39
set_option maxHeartbeats 4000000 in
set_option maxRecDepth 100000 in
theorem c_X7_dear (l : Launch) (D : va_G) (tk : Nat → ClassId) (h : Nat → Nat) (Mt : Nat → Nat → Nat) (hi : Int32) (la ce : Nat → Int32) (x : Int32) (hW : VW (pgv Mt 0)) : MX l yX7_dear cX7_dear 6 (some .int) ⟨4, 0, 0, 95⟩ D (TYS tk) [.ref (h 0), .int x] (mW tk h Mt hi la ce) (fun (u : (Nat → Nat) × (Nat → Nat) × (Nat → Nat)) => RK (Mt 0) u.1) (fun u => some (.int (a_dear (pgv Mt 0) x))) (fun u => mW tk h (u3 (u3 (u3 Mt 0 u.1) 6 u.2.1) 7 u.2.2) hi la ce) 0 0 := by
  refine MX.of_i (by decide) rfl ?_
  intro zp ze zs zm za zb zt zc zA zQ ls C0 hnm X hl hE
  have hx := C0.1
  have hb := C0.2.1
  have ht := C0.2.2.2.2.1
  have X : Hx D zA zs zs.heap [] (mW tk h Mt hi la ce) := X
  have hl : lv_has ls 6 [(0, .ref (h 0)), (1, .int x)] := hl
  obtain ⟨hv1, hv2, hv3, hv4, hv5, hv6, hv7⟩ := id hW
  have hb1 : Mt 20 0 ≤ 6 := hv1
  have hb2 : Mt 0 42 ≤ 9 := hv2
  have hb3 : Mt 0 43 ≤ 20 := hv3
  have hb4 : Mt 0 62 ≤ 6 := hv4
  have hkd : ∀ t, t < Mt 20 0 → Mt 0 t ≤ 3 := fun t ht => by have q := hv5 t ht; rw [pv0] at q; exact q
  have hrt : ∀ i, i < Mt 0 42 → Mt 0 (6 + i) < Mt 20 0 ∧ Mt 0 (15 + i) < Mt 20 0 ∧ Mt 0 (6 + i) ≠ Mt 0 (15 + i) ∧ 1 ≤ Mt 0 (24 + i) ∧ Mt 0 (24 + i) ≤ 9 ∧ Mt 0 (33 + i) ≤ 1 := fun i hi => hv6 i hi
  have htk : ∀ k, k < Mt 0 62 → Mt 0 (44 + k) ≤ 23 ∧ Mt 0 (50 + k) < Mt 20 0 ∧ 1 ≤ Mt 0 (56 + k) ∧ Mt 0 (56 + k) ≤ 60 := fun k hk => hv7 k hk
  have hpw := Nat.pow_le_pow_right (n := 2) (by decide) hb2
  have hLL := hearersS_le (pgv Mt 0) hv4
  obtain ⟨H, hH⟩ : ∃ H, H = zs.heap := ⟨_, rfl⟩
  rw [← hH] at X ⊢
  obtain ⟨locs, hlo⟩ : ∃ L : List Loc, L = [] := ⟨_, rfl⟩
  rw [← hlo] at X ⊢
  refine lv_iload_n hx hb dX7_dear_0 rfl (lv_at hl 1 rfl) ?_
  refine lv_i2l hx hb dX7_dear_1 rfl ?_
  refine g_lconst (n := 0) C0 rfl dX7_dear_2 ?_
  refine g_lconst (n := 1) C0 rfl dX7_dear_3 ?_
  refine g_callS (As := [.long (Int32.toInt64 x), .long (lN 0), .long (lN 1)]) (rest := []) (wr := (mW tk h Mt hi la ce)) (C0.sz hl) X (c_X7_in l D tk (Int32.toInt64 x) (lN 0) (lN 1)) ⟨tb885, tb887, tb8, ⟨by decide, by decide, rfl⟩, rfl, rfl, Nat.le_of_ble_eq_true rfl, Nat.le_of_ble_eq_true rfl⟩ tb886 rfl [] [0, 1, 2, 3, 4, 5, 6, 7, 8, 9, 10, 11, 12, 13] rfl rfl rfl rfl rfl (Nat.le_of_ble_eq_true rfl) ⟨Nat.le_of_ble_eq_true rfl, Nat.le_of_ble_eq_true rfl⟩ dX7_dear_4 (fun _ H locs _ X => ?_)
  have X : Hx D zA zs H locs (mW tk h Mt hi la ce) := X
  refine g_top (y := nI (rb (rg x 0 1))) (by rw [inL_rg x (by first | decide | omega) (by first | decide | omega)]) ?_
  refine g_ifneB (x := rg x 0 1) (tgt := 12) C0 dX7_dear_7 rfl (fun c1 => ?_) (fun c2 => ?_)
  · obtain ⟨xq, hk_xqa, hk_xqb, hk_xqc, rfl⟩ := rg_sp c1
    refine lv_aload_n hx hb dX7_dear_12 rfl (lv_at hl 0 rfl) ?_
    refine g_iconst (n := 0) C0 rfl dX7_dear_13 ?_
    refine g_callV (As := [.int (nI 0)]) (rest := []) (wr := []) (C0.sz hl) X (c_X7_talksOn l D tk h Mt hi la ce 0 (by omega) (by exact hW)) ⟨tb953, tb956, tb8, ⟨by decide, by decide, rfl⟩, rfl, rfl, Nat.le_of_ble_eq_true rfl, Nat.le_of_ble_eq_true rfl⟩ tb955 tbs32 0 7 rfl rfl rfl rfl [0, 1, 2, 3, 4, 5, 6, 7, 8, 9, 10, 11, 12, 13] [] rfl rfl rfl rfl rfl (Nat.le_of_ble_eq_true rfl) ⟨Nat.le_of_ble_eq_true rfl, Nat.le_of_ble_eq_true rfl⟩ dX7_dear_14 (fun uq3 H locs hp4 X => ?_)
    have X : Hx D zA zs H locs (mW tk h (u3 (u3 Mt 6 uq3.1) 7 uq3.2) hi la ce) := X
    have hp4 : ∀ j, j < Mt 0 (0 + 62) → uq3.2 j = heardS (pgv Mt 0) j := hp4
    refine lv_istore_n (lv' := [(2, .int (nI (hearersS (pgv Mt 0)))), (0, .ref (h 0)), (1, .int (nI xq))]) hx hb dX7_dear_17 rfl hl (by decide) rfl (fun ls hl => ?_)
    refine lv_bipush (v := (-4)) hx hb dX7_dear_18 (by decide) ?_
    refine lv_istore_n (lv' := [(3, .int (-4)), (2, .int (nI (hearersS (pgv Mt 0)))), (0, .ref (h 0)), (1, .int (nI xq))]) hx hb dX7_dear_20 rfl hl (by decide) rfl (fun ls hl => ?_)
    refine g_iconst (n := 0) C0 rfl dX7_dear_21 ?_
    refine lv_istore (lv' := [(4, .int (nI 0)), (3, .int (-4)), (2, .int (nI (hearersS (pgv Mt 0)))), (0, .ref (h 0)), (1, .int (nI xq))]) hx hb dX7_dear_22 hl (by decide) rfl (fun ls hl => ?_)
    have J24 : ∀ (fz : Nat) (i few : Nat) (wh : Int32) (r1 d1 e1 : Nat → Nat), Mt 0 42 - i < fz → ∀ (hi1 : i ≤ Mt 0 42) (hr : RK (Mt 0) r1) (hbf : (wh, few) = bfold (fun i => decide (pgv Mt 0 4 i = 0)) (fun i => hearersS (cutv (pgv Mt 0) (2 ^ i))) (hearersS (pgv Mt 0)) i) (H : Heap) (locs : List Loc) (ls : Array Slot), Hx D zA zs H locs (mW tk h (u3 (u3 (u3 Mt 0 r1) 6 d1) 7 e1) hi la ce) → lv_has ls 6 [(4, .int (nI i)), (3, .int wh), (2, .int (nI few)), (0, .ref (h 0)), (1, .int (nI xq))] → W zp l ze ⟨4, 0, 0, 95⟩ zs zm za zb zt zc H locs 0 0 zQ (F0 zm 24 ls []) := by
      intro fz
      induction fz with
      | zero => intro i few wh r1 d1 e1 hz; exact absurd hz (Nat.not_lt_zero _)
      | succ fz ih24 =>
        intro i few wh r1 d1 e1 hz24 hi1 hr hbf H locs ls X hl
        refine lv_iload hx hb dX7_dear_24 (lv_at hl 0 rfl) ?_
        refine lv_aload_n hx hb dX7_dear_26 rfl (lv_at hl 3 rfl) ?_
        refine g_get (v := .ref (h 1)) C0 X kX7 0 0 tb797 rfl rfl rfl dX7_dear_27 ?_
        refine g_bipush (n := 42) C0 (by decide) dX7_dear_30 ?_
        refine g_iald (v := nI (r1 42)) (i := 42) C0 X 1 0 rfl rfl (by omega) rfl rfl dX7_dear_32 ?_
        refine g_top (y := nI (Mt 0 42)) (by rw [hr 42 (by decide)]) ?_
        refine g_icmp_ge (x := i) (y := Mt 0 42) (tgt := 88) C0 (by omega) (by omega) dX7_dear_33 rfl (fun c5 => ?_) (fun c6 => ?_)
        · refine lv_iload_n hx hb dX7_dear_88 rfl (lv_at hl 1 rfl) ?_
          refine lv_bipush (v := (-4)) hx hb dX7_dear_89 (by decide) ?_
          refine lv_icmp_eq (tgt := 98) hx hb dX7_dear_91 rfl (fun c7 => ?_) (fun c8 => ?_)
          · refine lv_iload_n hx hb dX7_dear_98 rfl (lv_at hl 1 rfl) ?_
            refine lv_goto (tgt := 103) hx hb dX7_dear_99 (by decide) ?_
            exact hE (v := wh) (r1, d1, e1) (by rw [a_dear, if_pos c1, tn_nI (k := xq) (by omega), pv81, show Mt 0 42 = i by omega, ← told_s hbf, if_pos (Or.inr c7)]) (by exact hr) X dX7_dear_103
          · refine lv_iload_n hx hb dX7_dear_94 rfl (lv_at hl 4 rfl) ?_
            refine g_ifne (x := xq) (tgt := 102) C0 (by omega) dX7_dear_95 rfl (fun c9 => ?_) (fun c10 => ?_)
            · refine lv_iload_n hx hb dX7_dear_102 rfl (lv_at hl 2 rfl) ?_
              exact hE (v := nI few) (r1, d1, e1) (by rw [a_dear, if_pos c1, tn_nI (k := xq) (by omega), pv81, show Mt 0 42 = i by omega, ← told_s hbf, if_neg (fun q => q.elim (by omega) c8)]) (by exact hr) X dX7_dear_103
            · refine lv_iload_n hx hb dX7_dear_98 rfl (lv_at hl 1 rfl) ?_
              refine lv_goto (tgt := 103) hx hb dX7_dear_99 (by decide) ?_
              exact hE (v := wh) (r1, d1, e1) (by rw [a_dear, if_pos c1, tn_nI (k := xq) (by omega), pv81, show Mt 0 42 = i by omega, ← told_s hbf, if_pos (Or.inl c10)]) (by exact hr) X dX7_dear_103
        · refine lv_aload_n hx hb dX7_dear_36 rfl (lv_at hl 3 rfl) ?_
          refine g_iconst (n := 1) C0 rfl dX7_dear_37 ?_
          refine lv_iload hx hb dX7_dear_38 (lv_at hl 0 rfl) ?_
          refine g_ishl (n := 2 ^ i) C0 (by exact sh_ok (by omega)) (by first | exact Nat.one_mul _ | rfl) dX7_dear_40 ?_
          have hp2 : 2 ^ i < 2 ^ 9 := Nat.pow_lt_pow_right (by decide) (by omega)
          refine g_callV (As := [.int (nI (2 ^ i))]) (rest := []) (wr := []) (C0.sz hl) X (c_X7_cuts l D tk h (u3 (u3 (u3 Mt 0 r1) 6 d1) 7 e1) hi la ce (2 ^ i) (by show r1 42 ≤ 9; rw [hr 42 (by decide)]; exact hb2) (by omega) (by exact hcl1 hW hr)) ⟨tb1092, tb1095, tb8, ⟨by decide, by decide, rfl⟩, rfl, rfl, Nat.le_of_ble_eq_true rfl, Nat.le_of_ble_eq_true rfl⟩ tb1094 tbs45 0 7 rfl rfl rfl rfl [0, 1, 2, 3, 4, 5, 6, 7, 8, 9, 10, 11, 12, 13] [] rfl rfl rfl rfl rfl (Nat.le_of_ble_eq_true rfl) ⟨Nat.le_of_ble_eq_true rfl, Nat.le_of_ble_eq_true rfl⟩ dX7_dear_41 (fun _ H locs _ X => ?_)
          have X : Hx D zA zs H locs (mW tk h (u3 (u3 (u3 Mt 6 d1) 7 e1) 0 (cutRow ((u3 Mt 0 r1) 0) (2 ^ i))) hi la ce) := X
          refine g_top (y := nI (rb (cutsB (pgv Mt 0) (2 ^ i)))) (by exact congrArg (fun q => nI (rb q)) (cutsRK hW hr _)) ?_
          refine g_ifeqB (x := (cutsB (pgv Mt 0) (2 ^ i))) (tgt := 82) C0 dX7_dear_44 rfl (fun c11 => ?_) (fun c12 => ?_)
          · refine g_iinc (j := 1) (z := i + 1) (lv' := [(4, .int (nI (i + 1))), (3, .int wh), (2, .int (nI few)), (0, .ref (h 0)), (1, .int (nI xq))]) C0 rfl (by first | rfl | omega) dX7_dear_82 hl (k := 0) rfl (by decide) rfl (fun ls hl => ?_)
            refine lv_goto (tgt := 24) hx hb dX7_dear_85 (by decide) ?_
            exact ih24 (i + 1) few wh (cutRow ((u3 Mt 0 r1) 0) (2 ^ i)) d1 e1 (by omega) (by omega) (by exact hr.ct) (by exact bf_f (P := (fun i => decide (pgv Mt 0 4 i = 0))) ((cuts_pow (show i < pgv Mt 0 8 1 from by show i < Mt 0 42; omega)) ▸ c11) hbf) H locs ls X (lv_sub hl [0, 1, 2, 3, 4] rfl)
          · refine lv_aload_n hx hb dX7_dear_47 rfl (lv_at hl 3 rfl) ?_
            refine g_sipush (n := 252) C0 (by decide) dX7_dear_48 ?_
            refine g_callV (As := [.int (nI 252)]) (rest := []) (wr := []) (C0.sz hl) X (c_X7_talksOn l D tk h (u3 (u3 (u3 Mt 6 d1) 7 e1) 0 (cutRow ((u3 Mt 0 r1) 0) (2 ^ i))) hi la ce 252 (by omega) (by exact cutVW hW hr)) ⟨tb953, tb956, tb8, ⟨by decide, by decide, rfl⟩, rfl, rfl, Nat.le_of_ble_eq_true rfl, Nat.le_of_ble_eq_true rfl⟩ tb955 tbs32 0 7 rfl rfl rfl rfl [0, 1, 2, 3, 4, 5, 6, 7, 8, 9, 10, 11, 12, 13] [] rfl rfl rfl rfl rfl (Nat.le_of_ble_eq_true rfl) ⟨Nat.le_of_ble_eq_true rfl, Nat.le_of_ble_eq_true rfl⟩ dX7_dear_51 (fun uq13 H locs hp14 X => ?_)
            have X : Hx D zA zs H locs (mW tk h (u3 (u3 (u3 Mt 0 (cutRow ((u3 Mt 0 r1) 0) (2 ^ i))) 6 uq13.1) 7 uq13.2) hi la ce) := X
            have hp14 : ∀ j, j < (u3 (u3 (u3 Mt 6 d1) 7 e1) 0 (cutRow ((u3 Mt 0 r1) 0) (2 ^ i))) 0 (252 + 62) → uq13.2 j = heardS (pgv (u3 (u3 (u3 Mt 6 d1) 7 e1) 0 (cutRow ((u3 Mt 0 r1) 0) (2 ^ i))) 252) j := hp14
            refine g_top (y := nI (hearersS (cutv (pgv Mt 0) (2 ^ i)))) (by exact congrArg nI (hearersS_eq (cutVE hW hr))) ?_
            have hLx := hearersS_le (cutv (pgv Mt 0) (2 ^ i)) hv4
            have hamL : few ≤ hearersS (pgv Mt 0) := bf_am hbf
            refine lv_istore (lv' := [(5, .int (nI (hearersS (cutv (pgv Mt 0) (2 ^ i))))), (4, .int (nI i)), (3, .int wh), (2, .int (nI few)), (0, .ref (h 0)), (1, .int (nI xq))]) hx hb dX7_dear_54 hl (by decide) rfl (fun ls hl => ?_)
            refine lv_iload hx hb dX7_dear_56 (lv_at hl 0 rfl) ?_
            refine lv_iload_n hx hb dX7_dear_58 rfl (lv_at hl 3 rfl) ?_
            refine g_icmp_ge (x := hearersS (cutv (pgv Mt 0) (2 ^ i))) (y := few) (tgt := 67) C0 (by omega) (by omega) dX7_dear_59 rfl (fun c15 => ?_) (fun c16 => ?_)
            · refine lv_iload_n hx hb dX7_dear_67 rfl (lv_at hl 2 rfl) ?_
              refine lv_istore_n (lv' := [(3, .int wh), (5, .int (nI (hearersS (cutv (pgv Mt 0) (2 ^ i))))), (4, .int (nI i)), (2, .int (nI few)), (0, .ref (h 0)), (1, .int (nI xq))]) hx hb dX7_dear_68 rfl hl (by decide) rfl (fun ls hl => ?_)
              refine lv_iload hx hb dX7_dear_69 (lv_at hl 1 rfl) ?_
              refine lv_iload_n hx hb dX7_dear_71 rfl (lv_at hl 3 rfl) ?_
              refine g_icmp_ge (x := hearersS (cutv (pgv Mt 0) (2 ^ i))) (y := few) (tgt := 80) C0 (by omega) (by omega) dX7_dear_72 rfl (fun c17 => ?_) (fun c18 => ?_)
              · refine lv_iload_n hx hb dX7_dear_80 rfl (lv_at hl 3 rfl) ?_
                refine lv_istore_n (lv' := [(2, .int (nI few)), (3, .int wh), (5, .int (nI (hearersS (cutv (pgv Mt 0) (2 ^ i))))), (4, .int (nI i)), (0, .ref (h 0)), (1, .int (nI xq))]) hx hb dX7_dear_81 rfl hl (by decide) rfl (fun ls hl => ?_)
                refine g_iinc (j := 1) (z := i + 1) (lv' := [(4, .int (nI (i + 1))), (2, .int (nI few)), (3, .int wh), (5, .int (nI (hearersS (cutv (pgv Mt 0) (2 ^ i))))), (0, .ref (h 0)), (1, .int (nI xq))]) C0 rfl (by first | rfl | omega) dX7_dear_82 hl (k := 3) rfl (by decide) rfl (fun ls hl => ?_)
                refine lv_goto (tgt := 24) hx hb dX7_dear_85 (by decide) ?_
                exact ih24 (i + 1) few wh (cutRow ((u3 Mt 0 r1) 0) (2 ^ i)) uq13.1 uq13.2 (by omega) (by omega) (by exact hr.ct) (by exact bf_k (by show _ ≤ hearersS (cutv (pgv Mt 0) (2 ^ i)); omega) hbf) H locs ls X (lv_sub hl [0, 2, 1, 4, 5] rfl)
              · refine lv_iload hx hb dX7_dear_75 (lv_at hl 1 rfl) ?_
                refine lv_goto (tgt := 81) hx hb dX7_dear_77 (by decide) ?_
                refine lv_istore_n (lv' := [(2, .int (nI (hearersS (cutv (pgv Mt 0) (2 ^ i))))), (3, .int wh), (5, .int (nI (hearersS (cutv (pgv Mt 0) (2 ^ i))))), (4, .int (nI i)), (0, .ref (h 0)), (1, .int (nI xq))]) hx hb dX7_dear_81 rfl hl (by decide) rfl (fun ls hl => ?_)
                refine g_iinc (j := 1) (z := i + 1) (lv' := [(4, .int (nI (i + 1))), (2, .int (nI (hearersS (cutv (pgv Mt 0) (2 ^ i))))), (3, .int wh), (5, .int (nI (hearersS (cutv (pgv Mt 0) (2 ^ i))))), (0, .ref (h 0)), (1, .int (nI xq))]) C0 rfl (by first | rfl | omega) dX7_dear_82 hl (k := 3) rfl (by decide) rfl (fun ls hl => ?_)
                refine lv_goto (tgt := 24) hx hb dX7_dear_85 (by decide) ?_
                exact ih24 (i + 1) (hearersS (cutv (pgv Mt 0) (2 ^ i))) wh (cutRow ((u3 Mt 0 r1) 0) (2 ^ i)) uq13.1 uq13.2 (by omega) (by omega) (by exact hr.ct) (by exfalso; omega) H locs ls X (lv_sub hl [0, 2, 1, 4, 5] rfl)
            · refine lv_iload hx hb dX7_dear_62 (lv_at hl 1 rfl) ?_
              refine lv_goto (tgt := 68) hx hb dX7_dear_64 (by decide) ?_
              refine lv_istore_n (lv' := [(3, .int (nI i)), (5, .int (nI (hearersS (cutv (pgv Mt 0) (2 ^ i))))), (4, .int (nI i)), (2, .int (nI few)), (0, .ref (h 0)), (1, .int (nI xq))]) hx hb dX7_dear_68 rfl hl (by decide) rfl (fun ls hl => ?_)
              refine lv_iload hx hb dX7_dear_69 (lv_at hl 1 rfl) ?_
              refine lv_iload_n hx hb dX7_dear_71 rfl (lv_at hl 3 rfl) ?_
              refine g_icmp_ge (x := hearersS (cutv (pgv Mt 0) (2 ^ i))) (y := few) (tgt := 80) C0 (by omega) (by omega) dX7_dear_72 rfl (fun c19 => ?_) (fun c20 => ?_)
              · refine lv_iload_n hx hb dX7_dear_80 rfl (lv_at hl 3 rfl) ?_
                refine lv_istore_n (lv' := [(2, .int (nI few)), (3, .int (nI i)), (5, .int (nI (hearersS (cutv (pgv Mt 0) (2 ^ i))))), (4, .int (nI i)), (0, .ref (h 0)), (1, .int (nI xq))]) hx hb dX7_dear_81 rfl hl (by decide) rfl (fun ls hl => ?_)
                refine g_iinc (j := 1) (z := i + 1) (lv' := [(4, .int (nI (i + 1))), (2, .int (nI few)), (3, .int (nI i)), (5, .int (nI (hearersS (cutv (pgv Mt 0) (2 ^ i))))), (0, .ref (h 0)), (1, .int (nI xq))]) C0 rfl (by first | rfl | omega) dX7_dear_82 hl (k := 3) rfl (by decide) rfl (fun ls hl => ?_)
                refine lv_goto (tgt := 24) hx hb dX7_dear_85 (by decide) ?_
                exact ih24 (i + 1) few (nI i) (cutRow ((u3 Mt 0 r1) 0) (2 ^ i)) uq13.1 uq13.2 (by omega) (by omega) (by exact hr.ct) (by exfalso; omega) H locs ls X (lv_sub hl [0, 2, 1, 4, 5] rfl)
              · refine lv_iload hx hb dX7_dear_75 (lv_at hl 1 rfl) ?_
                refine lv_goto (tgt := 81) hx hb dX7_dear_77 (by decide) ?_
                refine lv_istore_n (lv' := [(2, .int (nI (hearersS (cutv (pgv Mt 0) (2 ^ i))))), (3, .int (nI i)), (5, .int (nI (hearersS (cutv (pgv Mt 0) (2 ^ i))))), (4, .int (nI i)), (0, .ref (h 0)), (1, .int (nI xq))]) hx hb dX7_dear_81 rfl hl (by decide) rfl (fun ls hl => ?_)
                refine g_iinc (j := 1) (z := i + 1) (lv' := [(4, .int (nI (i + 1))), (2, .int (nI (hearersS (cutv (pgv Mt 0) (2 ^ i))))), (3, .int (nI i)), (5, .int (nI (hearersS (cutv (pgv Mt 0) (2 ^ i))))), (0, .ref (h 0)), (1, .int (nI xq))]) C0 rfl (by first | rfl | omega) dX7_dear_82 hl (k := 3) rfl (by decide) rfl (fun ls hl => ?_)
                refine lv_goto (tgt := 24) hx hb dX7_dear_85 (by decide) ?_
                exact ih24 (i + 1) (hearersS (cutv (pgv Mt 0) (2 ^ i))) (nI i) (cutRow ((u3 Mt 0 r1) 0) (2 ^ i)) uq13.1 uq13.2 (by omega) (by omega) (by exact hr.ct) (by exact bf_t1 (P := (fun i => decide (pgv Mt 0 4 i = 0))) (x := (fun i => hearersS (cutv (pgv Mt 0) (2 ^ i)))) ((cuts_pow (show i < pgv Mt 0 8 1 from by show i < Mt 0 42; omega)) ▸ c12) (by show hearersS (cutv (pgv Mt 0) (2 ^ i)) < _; omega) hbf) H locs ls X (lv_sub hl [0, 2, 1, 4, 5] rfl)
    exact J24 ((Mt 0 42 - 0) + 1) 0 (hearersS (pgv Mt 0)) (-4) (Mt 0) uq3.1 uq3.2 (Nat.lt_succ_self _) (by omega) (by exact RK.rf _) (by rfl) H locs ls X (lv_sub hl [0, 1, 2, 3, 4] rfl)
  · refine lv_iconst (v := (-1)) hx hb dX7_dear_10 (by decide) ?_
    exact hE (v := (-1)) (Mt 0, Mt 6, Mt 7) (by simp only [a_dear, c2, pv80, pv81, pv82, pv83, pv0, pv1, pv2, pv3, pv4, pv5, pv6, pv7, eq_self, ne01, ne02, ne03, ne04, ne05, ne10, ne12, ne13, ne14, ne15, ne20, ne21, ne23, ne24, ne25, ne30, ne31, ne32, ne34, ne35, ne40, ne41, ne42, ne43, ne45, ne50, ne51, ne52, ne53, ne54, if_true, if_false, Bool.false_eq_true, Bool.and_self, Bool.and_true, Bool.and_false, Bool.true_and, Bool.false_and, Bool.not_true, Bool.not_false, decide_true, decide_false] <;> rfl) (by exact RK.rf _) X dX7_dear_11
set_option maxHeartbeats 4000000 in
set_option maxRecDepth 100000 in
theorem c_X7_hour (l : Launch) (D : va_G) (tk : Nat → ClassId) (h : Nat → Nat) (Mt : Nat → Nat → Nat) (hi : Int32) (la ce : Nat → Int32) (x y : Int32) (hW : VW (pgv Mt 0)) : MX l yX7_hour cX7_hour 7 (some .int) ⟨5, 0, 0, 119⟩ D (TYS tk) [.ref (h 0), .int x, .int y] (mW tk h Mt hi la ce) (fun (u : (Nat → Nat) × (Nat → Nat) × (Nat → Nat)) => RK (Mt 0) u.1) (fun u => some (.int (a_hour 1000 (pgv Mt 0) x y))) (fun u => mW tk h (u3 (u3 (u3 Mt 0 u.1) 6 u.2.1) 7 u.2.2) hi la ce) 0 0 := by
  refine MX.of_i (by decide) rfl ?_
  intro zp ze zs zm za zb zt zc zA zQ ls C0 hnm X hl hE
  have hx := C0.1
  have hb := C0.2.1
  have ht := C0.2.2.2.2.1
  have X : Hx D zA zs zs.heap [] (mW tk h Mt hi la ce) := X
  have hl : lv_has ls 7 [(0, .ref (h 0)), (1, .int x), (2, .int y)] := hl
  obtain ⟨hv1, hv2, hv3, hv4, hv5, hv6, hv7⟩ := id hW
  have hb1 : Mt 20 0 ≤ 6 := hv1
  have hb2 : Mt 0 42 ≤ 9 := hv2
  have hb3 : Mt 0 43 ≤ 20 := hv3
  have hb4 : Mt 0 62 ≤ 6 := hv4
  have hkd : ∀ t, t < Mt 20 0 → Mt 0 t ≤ 3 := fun t ht => by have q := hv5 t ht; rw [pv0] at q; exact q
  have hrt : ∀ i, i < Mt 0 42 → Mt 0 (6 + i) < Mt 20 0 ∧ Mt 0 (15 + i) < Mt 20 0 ∧ Mt 0 (6 + i) ≠ Mt 0 (15 + i) ∧ 1 ≤ Mt 0 (24 + i) ∧ Mt 0 (24 + i) ≤ 9 ∧ Mt 0 (33 + i) ≤ 1 := fun i hi => hv6 i hi
  have htk : ∀ k, k < Mt 0 62 → Mt 0 (44 + k) ≤ 23 ∧ Mt 0 (50 + k) < Mt 20 0 ∧ 1 ≤ Mt 0 (56 + k) ∧ Mt 0 (56 + k) ≤ 60 := fun k hk => hv7 k hk
  obtain ⟨H, hH⟩ : ∃ H, H = zs.heap := ⟨_, rfl⟩
  rw [← hH] at X ⊢
  obtain ⟨locs, hlo⟩ : ∃ L : List Loc, L = [] := ⟨_, rfl⟩
  rw [← hlo] at X ⊢
  refine lv_aload_n hx hb dX7_hour_0 rfl (lv_at hl 0 rfl) ?_
  refine lv_iload_n hx hb dX7_hour_1 rfl (lv_at hl 1 rfl) ?_
  refine g_callV (As := [.int x]) (rest := []) (wr := []) (C0.sz hl) X (c_X7_isTalk l D tk h Mt hi la ce x (by first | assumption | omega)) ⟨tb997, tb1000, tb8, ⟨by decide, by decide, rfl⟩, rfl, rfl, Nat.le_of_ble_eq_true rfl, Nat.le_of_ble_eq_true rfl⟩ tb999 tbs39 0 7 rfl rfl rfl rfl [0, 1, 2, 3, 4, 5, 6, 7, 8, 9, 10, 11, 12, 13] [] rfl rfl rfl rfl rfl (Nat.le_of_ble_eq_true rfl) ⟨Nat.le_of_ble_eq_true rfl, Nat.le_of_ble_eq_true rfl⟩ dX7_hour_2 (fun _ H locs _ X => ?_)
  have X : Hx D zA zs H locs (mW tk h Mt hi la ce) := X
  refine g_ifeqB (x := ix x (Mt 0 62)) (tgt := 18) C0 dX7_hour_5 rfl (fun c1 => ?_) (fun c2 => ?_)
  · refine lv_iconst (v := (-1)) hx hb dX7_hour_18 (by decide) ?_
    exact hE (v := (-1)) (Mt 0, Mt 6, Mt 7) (by simp only [a_hour, c1, pv80, pv81, pv82, pv83, pv0, pv1, pv2, pv3, pv4, pv5, pv6, pv7, eq_self, ne01, ne02, ne03, ne04, ne05, ne10, ne12, ne13, ne14, ne15, ne20, ne21, ne23, ne24, ne25, ne30, ne31, ne32, ne34, ne35, ne40, ne41, ne42, ne43, ne45, ne50, ne51, ne52, ne53, ne54, if_true, if_false, Bool.false_eq_true, Bool.and_self, Bool.and_true, Bool.and_false, Bool.true_and, Bool.false_and, Bool.not_true, Bool.not_false, decide_true, decide_false] <;> rfl) (by exact RK.rf _) X dX7_hour_19
  · obtain ⟨xq, hk_xq, rfl⟩ := ix_sp c2
    refine lv_iload_n hx hb dX7_hour_8 rfl (lv_at hl 2 rfl) ?_
    refine lv_i2l hx hb dX7_hour_9 rfl ?_
    refine g_lconst (n := 0) C0 rfl dX7_hour_10 ?_
    refine g_lconst (n := 1) C0 rfl dX7_hour_11 ?_
    refine g_callS (As := [.long (Int32.toInt64 y), .long (lN 0), .long (lN 1)]) (rest := []) (wr := (mW tk h Mt hi la ce)) (C0.sz hl) X (c_X7_in l D tk (Int32.toInt64 y) (lN 0) (lN 1)) ⟨tb885, tb887, tb8, ⟨by decide, by decide, rfl⟩, rfl, rfl, Nat.le_of_ble_eq_true rfl, Nat.le_of_ble_eq_true rfl⟩ tb886 rfl [] [0, 1, 2, 3, 4, 5, 6, 7, 8, 9, 10, 11, 12, 13] rfl rfl rfl rfl rfl (Nat.le_of_ble_eq_true rfl) ⟨Nat.le_of_ble_eq_true rfl, Nat.le_of_ble_eq_true rfl⟩ dX7_hour_12 (fun _ H locs _ X => ?_)
    have X : Hx D zA zs H locs (mW tk h Mt hi la ce) := X
    refine g_top (y := nI (rb (rg y 0 1))) (by rw [inL_rg y (by first | decide | omega) (by first | decide | omega)]) ?_
    refine g_ifneB (x := rg y 0 1) (tgt := 20) C0 dX7_hour_15 rfl (fun c3 => ?_) (fun c4 => ?_)
    · obtain ⟨yq, hk_yqa, hk_yqb, hk_yqc, rfl⟩ := rg_sp c3
      refine g_sipush (n := 1000) C0 (by decide) dX7_hour_20 ?_
      refine lv_istore_n (lv' := [(3, .int (nI 1000)), (0, .ref (h 0)), (1, .int (nI xq)), (2, .int (nI yq))]) hx hb dX7_hour_23 rfl hl (by decide) rfl (fun ls hl => ?_)
      refine g_iconst (n := 0) C0 rfl dX7_hour_24 ?_
      refine lv_istore (lv' := [(4, .int (nI 0)), (3, .int (nI 1000)), (0, .ref (h 0)), (1, .int (nI xq)), (2, .int (nI yq))]) hx hb dX7_hour_25 hl (by decide) rfl (fun ls hl => ?_)
      refine lv_aload_n hx hb dX7_hour_27 rfl (lv_at hl 2 rfl) ?_
      refine g_iconst (n := 0) C0 rfl dX7_hour_28 ?_
      refine g_sipush (n := 252) C0 (by decide) dX7_hour_29 ?_
      refine g_callV (As := [.int (nI 0), .int (nI 252)]) (rest := []) (wr := []) (C0.sz hl) X (c_X7_copies l D tk h Mt hi la ce 0 252 (by omega) (by omega) (by omega)) ⟨tb1096, tb1099, tb8, ⟨by decide, by decide, rfl⟩, rfl, rfl, Nat.le_of_ble_eq_true rfl, Nat.le_of_ble_eq_true rfl⟩ tb1098 tbs46 0 7 rfl rfl rfl rfl [0, 1, 2, 3, 4, 5, 6, 7, 8, 9, 10, 11, 12, 13] [] rfl rfl rfl rfl rfl (Nat.le_of_ble_eq_true rfl) ⟨Nat.le_of_ble_eq_true rfl, Nat.le_of_ble_eq_true rfl⟩ dX7_hour_32 (fun _ H locs _ X => ?_)
      have X : Hx D zA zs H locs (mW tk h (u3 Mt 0 (pcopy (Mt 0) 0 252 63)) hi la ce) := X
      refine g_iconst (n := 0) C0 rfl dX7_hour_35 ?_
      refine lv_istore (lv' := [(5, .int (nI 0)), (4, .int (nI 0)), (3, .int (nI 1000)), (0, .ref (h 0)), (1, .int (nI xq)), (2, .int (nI yq))]) hx hb dX7_hour_36 hl (by decide) rfl (fun ls hl => ?_)
      have J38 : ∀ (fz : Nat) (i few wh x0 : Nat) (r1 d1 e1 : Nat → Nat), 24 - i < fz → ∀ (hi1 : i ≤ 24) (hwh : wh ≤ 24) (hfw : few ≤ 1000) (h0 : i = 0 → few = 1000) (hr : RK (Mt 0) r1) (hv : VEq (pgv (u3 Mt 0 r1) 252) (u2 (pgv Mt 0) 5 xq x0)) (hbf : ∃ c : Int32, (c, few) = bfold (fun _ => true) (fun h => crossS (u2 (pgv Mt 0) 5 xq h)) 1000 i ∧ (i ≠ 0 → c = nI wh)) (H : Heap) (locs : List Loc) (ls : Array Slot), Hx D zA zs H locs (mW tk h (u3 (u3 (u3 Mt 0 r1) 6 d1) 7 e1) hi la ce) → lv_has ls 7 [(5, .int (nI i)), (4, .int (nI wh)), (3, .int (nI few)), (0, .ref (h 0)), (1, .int (nI xq)), (2, .int (nI yq))] → W zp l ze ⟨5, 0, 0, 119⟩ zs zm za zb zt zc H locs 0 0 zQ (F0 zm 38 ls []) := by
        intro fz
        induction fz with
        | zero => intro i few wh x0 r1 d1 e1 hz; exact absurd hz (Nat.not_lt_zero _)
        | succ fz ih38 =>
          intro i few wh x0 r1 d1 e1 hz38 hi1 hwh hfw h0 hr hv hbf H locs ls X hl
          refine lv_iload hx hb dX7_hour_38 (lv_at hl 0 rfl) ?_
          refine g_bipush (n := 24) C0 (by decide) dX7_hour_40 ?_
          refine g_icmp_ge (x := i) (y := 24) (tgt := 100) C0 (by omega) (by omega) dX7_hour_42 rfl (fun c5 => ?_) (fun c6 => ?_)
          · refine lv_iload_n hx hb dX7_hour_100 rfl (lv_at hl 5 rfl) ?_
            refine g_ifne (x := yq) (tgt := 109) C0 (by omega) dX7_hour_101 rfl (fun c7 => ?_) (fun c8 => ?_)
            · refine lv_iload_n hx hb dX7_hour_109 rfl (lv_at hl 2 rfl) ?_
              exact hE (v := nI few) (r1, d1, e1) (by rw [a_hour, if_pos (by simp only [pv80, pv83, c2, c3]; rfl), tn_nI (k := xq) (by omega), tn_nI (k := yq) (by omega), hb_e (show ∃ c : Int32, (c, few) = bfold _ _ 1000 24 ∧ (24 ≠ 0 → c = nI wh) by have q := hbf; rw [show i = 24 by omega] at q; exact q) (by decide) (by omega), if_neg (by omega)]) (by exact hr) X dX7_hour_110
            · refine lv_iload hx hb dX7_hour_104 (lv_at hl 1 rfl) ?_
              refine lv_goto (tgt := 110) hx hb dX7_hour_106 (by decide) ?_
              exact hE (v := nI wh) (r1, d1, e1) (by rw [a_hour, if_pos (by simp only [pv80, pv83, c2, c3]; rfl), tn_nI (k := xq) (by omega), tn_nI (k := yq) (by omega), hb_e (show ∃ c : Int32, (c, few) = bfold _ _ 1000 24 ∧ (24 ≠ 0 → c = nI wh) by have q := hbf; rw [show i = 24 by omega] at q; exact q) (by decide) (by omega), if_pos c8]) (by exact hr) X dX7_hour_110
          · refine lv_aload_n hx hb dX7_hour_45 rfl (lv_at hl 3 rfl) ?_
            refine g_get (v := .ref (h 1)) C0 X kX7 0 0 tb797 rfl rfl rfl dX7_hour_46 ?_
            refine g_sipush (n := 296) C0 (by decide) dX7_hour_49 ?_
            refine lv_iload_n hx hb dX7_hour_52 rfl (lv_at hl 4 rfl) ?_
            refine g_iadd (n := 296 + xq) C0 (by first | rfl | omega) dX7_hour_53 ?_
            refine lv_iload hx hb dX7_hour_54 (lv_at hl 0 rfl) ?_
            refine g_iast (g := nf (u1 r1 (296 + xq) i)) (i := 296 + xq) C0 X 1 0 rfl rfl (by omega) rfl (nf_u1 _ _ _) dX7_hour_56 (fun H locs X => ?_)
            have X : Hx D zA zs H locs (mW tk h (u2 (u3 (u3 (u3 Mt 0 r1) 6 d1) 7 e1) 0 (296 + xq) i) hi la ce) := X
            have hv2 := pg_hour (y := i) hW (show xq < 6 by omega) hv
            have hvw : VW (u2 (pgv Mt 0) 5 xq i) := hW.houru (by omega)
            refine lv_aload_n hx hb dX7_hour_57 rfl (lv_at hl 3 rfl) ?_
            refine g_sipush (n := 252) C0 (by decide) dX7_hour_58 ?_
            refine g_callV (As := [.int (nI 252)]) (rest := []) (wr := []) (C0.sz hl) X (c_X7_crossedOn l D tk h (u2 (u3 (u3 (u3 Mt 0 r1) 6 d1) 7 e1) 0 (296 + xq) i) hi la ce 252 (by omega) (by exact VW.eq hv2.sy hvw)) ⟨tb949, tb952, tb8, ⟨by decide, by decide, rfl⟩, rfl, rfl, Nat.le_of_ble_eq_true rfl, Nat.le_of_ble_eq_true rfl⟩ tb951 tbs31 0 7 rfl rfl rfl rfl [0, 1, 2, 3, 4, 5, 6, 7, 8, 9, 10, 11, 12, 13] [] rfl rfl rfl rfl rfl (Nat.le_of_ble_eq_true rfl) ⟨Nat.le_of_ble_eq_true rfl, Nat.le_of_ble_eq_true rfl⟩ dX7_hour_61 (fun uq9 H locs _ X => ?_)
            have X : Hx D zA zs H locs (mW tk h (u3 (u3 (u2 (u3 Mt 0 r1) 0 (296 + xq) i) 6 uq9.1) 7 uq9.2) hi la ce) := X
            refine g_top (y := nI (crossS (u2 (pgv Mt 0) 5 xq i))) (by exact congrArg nI (crossS_eq hv2)) ?_
            have hLx := crossS_le (u2 (pgv Mt 0) 5 xq i) hv4
            refine lv_istore (lv' := [(6, .int (nI (crossS (u2 (pgv Mt 0) 5 xq i)))), (5, .int (nI i)), (4, .int (nI wh)), (3, .int (nI few)), (0, .ref (h 0)), (1, .int (nI xq)), (2, .int (nI yq))]) hx hb dX7_hour_64 hl (by decide) rfl (fun ls hl => ?_)
            refine lv_iload hx hb dX7_hour_66 (lv_at hl 0 rfl) ?_
            refine lv_iload_n hx hb dX7_hour_68 rfl (lv_at hl 3 rfl) ?_
            refine g_icmp_ge (x := crossS (u2 (pgv Mt 0) 5 xq i)) (y := few) (tgt := 77) C0 (by omega) (by omega) dX7_hour_69 rfl (fun c10 => ?_) (fun c11 => ?_)
            · refine lv_iload hx hb dX7_hour_77 (lv_at hl 2 rfl) ?_
              refine lv_istore (lv' := [(4, .int (nI wh)), (6, .int (nI (crossS (u2 (pgv Mt 0) 5 xq i)))), (5, .int (nI i)), (3, .int (nI few)), (0, .ref (h 0)), (1, .int (nI xq)), (2, .int (nI yq))]) hx hb dX7_hour_79 hl (by decide) rfl (fun ls hl => ?_)
              refine lv_iload hx hb dX7_hour_81 (lv_at hl 1 rfl) ?_
              refine lv_iload_n hx hb dX7_hour_83 rfl (lv_at hl 3 rfl) ?_
              refine g_icmp_ge (x := crossS (u2 (pgv Mt 0) 5 xq i)) (y := few) (tgt := 92) C0 (by omega) (by omega) dX7_hour_84 rfl (fun c12 => ?_) (fun c13 => ?_)
              · refine lv_iload_n hx hb dX7_hour_92 rfl (lv_at hl 3 rfl) ?_
                refine lv_istore_n (lv' := [(3, .int (nI few)), (4, .int (nI wh)), (6, .int (nI (crossS (u2 (pgv Mt 0) 5 xq i)))), (5, .int (nI i)), (0, .ref (h 0)), (1, .int (nI xq)), (2, .int (nI yq))]) hx hb dX7_hour_93 rfl hl (by decide) rfl (fun ls hl => ?_)
                refine g_iinc (j := 1) (z := i + 1) (lv' := [(5, .int (nI (i + 1))), (3, .int (nI few)), (4, .int (nI wh)), (6, .int (nI (crossS (u2 (pgv Mt 0) 5 xq i)))), (0, .ref (h 0)), (1, .int (nI xq)), (2, .int (nI yq))]) C0 rfl (by first | rfl | omega) dX7_hour_94 hl (k := 3) rfl (by decide) rfl (fun ls hl => ?_)
                refine lv_goto (tgt := 38) hx hb dX7_hour_97 (by decide) ?_
                exact ih38 (i + 1) few wh i (u1 r1 (296 + xq) i) uq9.1 uq9.2 (by omega) (by omega) (by omega) (by omega) (by intro q; omega) (by exact hr.u1 (by omega)) (by exact hv2) (by exact hb_k (x := (fun h => crossS (u2 (pgv Mt 0) 5 xq h))) hbf (by show _ ≤ crossS _; omega) (fun q => by have := h0 q; omega)) H locs ls X (lv_sub hl [0, 2, 1, 4, 5, 6] rfl)
              · refine lv_iload hx hb dX7_hour_87 (lv_at hl 1 rfl) ?_
                refine lv_goto (tgt := 93) hx hb dX7_hour_89 (by decide) ?_
                refine lv_istore_n (lv' := [(3, .int (nI (crossS (u2 (pgv Mt 0) 5 xq i)))), (4, .int (nI wh)), (6, .int (nI (crossS (u2 (pgv Mt 0) 5 xq i)))), (5, .int (nI i)), (0, .ref (h 0)), (1, .int (nI xq)), (2, .int (nI yq))]) hx hb dX7_hour_93 rfl hl (by decide) rfl (fun ls hl => ?_)
                refine g_iinc (j := 1) (z := i + 1) (lv' := [(5, .int (nI (i + 1))), (3, .int (nI (crossS (u2 (pgv Mt 0) 5 xq i)))), (4, .int (nI wh)), (6, .int (nI (crossS (u2 (pgv Mt 0) 5 xq i)))), (0, .ref (h 0)), (1, .int (nI xq)), (2, .int (nI yq))]) C0 rfl (by first | rfl | omega) dX7_hour_94 hl (k := 3) rfl (by decide) rfl (fun ls hl => ?_)
                refine lv_goto (tgt := 38) hx hb dX7_hour_97 (by decide) ?_
                exact ih38 (i + 1) (crossS (u2 (pgv Mt 0) 5 xq i)) wh i (u1 r1 (296 + xq) i) uq9.1 uq9.2 (by omega) (by omega) (by omega) (by omega) (by intro q; omega) (by exact hr.u1 (by omega)) (by exact hv2) (by exfalso; omega) H locs ls X (lv_sub hl [0, 2, 1, 4, 5, 6] rfl)
            · refine lv_iload hx hb dX7_hour_72 (lv_at hl 1 rfl) ?_
              refine lv_goto (tgt := 79) hx hb dX7_hour_74 (by decide) ?_
              refine lv_istore (lv' := [(4, .int (nI i)), (6, .int (nI (crossS (u2 (pgv Mt 0) 5 xq i)))), (5, .int (nI i)), (3, .int (nI few)), (0, .ref (h 0)), (1, .int (nI xq)), (2, .int (nI yq))]) hx hb dX7_hour_79 hl (by decide) rfl (fun ls hl => ?_)
              refine lv_iload hx hb dX7_hour_81 (lv_at hl 1 rfl) ?_
              refine lv_iload_n hx hb dX7_hour_83 rfl (lv_at hl 3 rfl) ?_
              refine g_icmp_ge (x := crossS (u2 (pgv Mt 0) 5 xq i)) (y := few) (tgt := 92) C0 (by omega) (by omega) dX7_hour_84 rfl (fun c14 => ?_) (fun c15 => ?_)
              · refine lv_iload_n hx hb dX7_hour_92 rfl (lv_at hl 3 rfl) ?_
                refine lv_istore_n (lv' := [(3, .int (nI few)), (4, .int (nI i)), (6, .int (nI (crossS (u2 (pgv Mt 0) 5 xq i)))), (5, .int (nI i)), (0, .ref (h 0)), (1, .int (nI xq)), (2, .int (nI yq))]) hx hb dX7_hour_93 rfl hl (by decide) rfl (fun ls hl => ?_)
                refine g_iinc (j := 1) (z := i + 1) (lv' := [(5, .int (nI (i + 1))), (3, .int (nI few)), (4, .int (nI i)), (6, .int (nI (crossS (u2 (pgv Mt 0) 5 xq i)))), (0, .ref (h 0)), (1, .int (nI xq)), (2, .int (nI yq))]) C0 rfl (by first | rfl | omega) dX7_hour_94 hl (k := 3) rfl (by decide) rfl (fun ls hl => ?_)
                refine lv_goto (tgt := 38) hx hb dX7_hour_97 (by decide) ?_
                exact ih38 (i + 1) few i i (u1 r1 (296 + xq) i) uq9.1 uq9.2 (by omega) (by omega) (by omega) (by omega) (by intro q; omega) (by exact hr.u1 (by omega)) (by exact hv2) (by exfalso; omega) H locs ls X (lv_sub hl [0, 2, 1, 4, 5, 6] rfl)
              · refine lv_iload hx hb dX7_hour_87 (lv_at hl 1 rfl) ?_
                refine lv_goto (tgt := 93) hx hb dX7_hour_89 (by decide) ?_
                refine lv_istore_n (lv' := [(3, .int (nI (crossS (u2 (pgv Mt 0) 5 xq i)))), (4, .int (nI i)), (6, .int (nI (crossS (u2 (pgv Mt 0) 5 xq i)))), (5, .int (nI i)), (0, .ref (h 0)), (1, .int (nI xq)), (2, .int (nI yq))]) hx hb dX7_hour_93 rfl hl (by decide) rfl (fun ls hl => ?_)
                refine g_iinc (j := 1) (z := i + 1) (lv' := [(5, .int (nI (i + 1))), (3, .int (nI (crossS (u2 (pgv Mt 0) 5 xq i)))), (4, .int (nI i)), (6, .int (nI (crossS (u2 (pgv Mt 0) 5 xq i)))), (0, .ref (h 0)), (1, .int (nI xq)), (2, .int (nI yq))]) C0 rfl (by first | rfl | omega) dX7_hour_94 hl (k := 3) rfl (by decide) rfl (fun ls hl => ?_)
                refine lv_goto (tgt := 38) hx hb dX7_hour_97 (by decide) ?_
                exact ih38 (i + 1) (crossS (u2 (pgv Mt 0) 5 xq i)) i i (u1 r1 (296 + xq) i) uq9.1 uq9.2 (by omega) (by omega) (by omega) (by omega) (by intro q; omega) (by exact hr.u1 (by omega)) (by exact hv2) (by exact hb_t (x := (fun h => crossS (u2 (pgv Mt 0) 5 xq h))) hbf (by show crossS _ < _; omega)) H locs ls X (lv_sub hl [0, 2, 1, 4, 5, 6] rfl)
      exact J38 ((24 - 0) + 1) 0 1000 0 (pgv Mt 0 5 xq) (pcopy (Mt 0) 0 252 63) (Mt 6) (Mt 7) (Nat.lt_succ_self _) (by omega) (by omega) (by omega) (by intro _; rfl) (by exact (RK.rf _).cp) (by exact vu2_self (pgc hW (RK.rf _))) (by exact ⟨-4, rfl, fun q => absurd rfl q⟩) H locs ls X (lv_sub hl [0, 1, 2, 3, 4, 5] rfl)
    · refine lv_iconst (v := (-1)) hx hb dX7_hour_18 (by decide) ?_
      exact hE (v := (-1)) (Mt 0, Mt 6, Mt 7) (by simp only [a_hour, c2, c4, tn_nI (k := xq) (by omega), pv80, pv81, pv82, pv83, pv0, pv1, pv2, pv3, pv4, pv5, pv6, pv7, eq_self, ne01, ne02, ne03, ne04, ne05, ne10, ne12, ne13, ne14, ne15, ne20, ne21, ne23, ne24, ne25, ne30, ne31, ne32, ne34, ne35, ne40, ne41, ne42, ne43, ne45, ne50, ne51, ne52, ne53, ne54, if_true, if_false, Bool.false_eq_true, Bool.and_self, Bool.and_true, Bool.and_false, Bool.true_and, Bool.false_and, Bool.not_true, Bool.not_false, decide_true, decide_false] <;> rfl) (by exact RK.rf _) X dX7_hour_19
set_option maxHeartbeats 4000000 in
set_option maxRecDepth 100000 in
theorem c_X7_kind (l : Launch) (D : va_G) (tk : Nat → ClassId) (h : Nat → Nat) (Mt : Nat → Nat → Nat) (hi : Int32) (la ce : Nat → Int32) (x y : Int32) (hW : VW (pgv Mt 0)) : MX l yX7_kind cX7_kind 7 (some .int) ⟨5, 0, 0, 119⟩ D (TYS tk) [.ref (h 0), .int x, .int y] (mW tk h Mt hi la ce) (fun (u : (Nat → Nat) × (Nat → Nat) × (Nat → Nat)) => RK (Mt 0) u.1) (fun u => some (.int (a_kind 1000 (pgv Mt 0) x y))) (fun u => mW tk h (u3 (u3 (u3 Mt 0 u.1) 6 u.2.1) 7 u.2.2) hi la ce) 0 0 := by
  refine MX.of_i (by decide) rfl ?_
  intro zp ze zs zm za zb zt zc zA zQ ls C0 hnm X hl hE
  have hx := C0.1
  have hb := C0.2.1
  have ht := C0.2.2.2.2.1
  have X : Hx D zA zs zs.heap [] (mW tk h Mt hi la ce) := X
  have hl : lv_has ls 7 [(0, .ref (h 0)), (1, .int x), (2, .int y)] := hl
  obtain ⟨hv1, hv2, hv3, hv4, hv5, hv6, hv7⟩ := id hW
  have hb1 : Mt 20 0 ≤ 6 := hv1
  have hb2 : Mt 0 42 ≤ 9 := hv2
  have hb3 : Mt 0 43 ≤ 20 := hv3
  have hb4 : Mt 0 62 ≤ 6 := hv4
  have hkd : ∀ t, t < Mt 20 0 → Mt 0 t ≤ 3 := fun t ht => by have q := hv5 t ht; rw [pv0] at q; exact q
  have hrt : ∀ i, i < Mt 0 42 → Mt 0 (6 + i) < Mt 20 0 ∧ Mt 0 (15 + i) < Mt 20 0 ∧ Mt 0 (6 + i) ≠ Mt 0 (15 + i) ∧ 1 ≤ Mt 0 (24 + i) ∧ Mt 0 (24 + i) ≤ 9 ∧ Mt 0 (33 + i) ≤ 1 := fun i hi => hv6 i hi
  have htk : ∀ k, k < Mt 0 62 → Mt 0 (44 + k) ≤ 23 ∧ Mt 0 (50 + k) < Mt 20 0 ∧ 1 ≤ Mt 0 (56 + k) ∧ Mt 0 (56 + k) ≤ 60 := fun k hk => hv7 k hk
  obtain ⟨H, hH⟩ : ∃ H, H = zs.heap := ⟨_, rfl⟩
  rw [← hH] at X ⊢
  obtain ⟨locs, hlo⟩ : ∃ L : List Loc, L = [] := ⟨_, rfl⟩
  rw [← hlo] at X ⊢
  refine lv_aload_n hx hb dX7_kind_0 rfl (lv_at hl 0 rfl) ?_
  refine lv_iload_n hx hb dX7_kind_1 rfl (lv_at hl 1 rfl) ?_
  refine g_callV (As := [.int x]) (rest := []) (wr := []) (C0.sz hl) X (c_X7_isTree l D tk h Mt hi la ce x (by first | assumption | omega)) ⟨tb980, tb983, tb8, ⟨by decide, by decide, rfl⟩, rfl, rfl, Nat.le_of_ble_eq_true rfl, Nat.le_of_ble_eq_true rfl⟩ tb982 tbs37 0 7 rfl rfl rfl rfl [0, 1, 2, 3, 4, 5, 6, 7, 8, 9, 10, 11, 12, 13] [] rfl rfl rfl rfl rfl (Nat.le_of_ble_eq_true rfl) ⟨Nat.le_of_ble_eq_true rfl, Nat.le_of_ble_eq_true rfl⟩ dX7_kind_2 (fun _ H locs _ X => ?_)
  have X : Hx D zA zs H locs (mW tk h Mt hi la ce) := X
  refine g_ifeqB (x := ix x (Mt 20 0)) (tgt := 18) C0 dX7_kind_5 rfl (fun c1 => ?_) (fun c2 => ?_)
  · refine lv_iconst (v := (-1)) hx hb dX7_kind_18 (by decide) ?_
    exact hE (v := (-1)) (Mt 0, Mt 6, Mt 7) (by simp only [a_kind, c1, pv80, pv81, pv82, pv83, pv0, pv1, pv2, pv3, pv4, pv5, pv6, pv7, eq_self, ne01, ne02, ne03, ne04, ne05, ne10, ne12, ne13, ne14, ne15, ne20, ne21, ne23, ne24, ne25, ne30, ne31, ne32, ne34, ne35, ne40, ne41, ne42, ne43, ne45, ne50, ne51, ne52, ne53, ne54, if_true, if_false, Bool.false_eq_true, Bool.and_self, Bool.and_true, Bool.and_false, Bool.true_and, Bool.false_and, Bool.not_true, Bool.not_false, decide_true, decide_false] <;> rfl) (by exact RK.rf _) X dX7_kind_19
  · obtain ⟨xq, hk_xq, rfl⟩ := ix_sp c2
    refine lv_iload_n hx hb dX7_kind_8 rfl (lv_at hl 2 rfl) ?_
    refine lv_i2l hx hb dX7_kind_9 rfl ?_
    refine g_lconst (n := 0) C0 rfl dX7_kind_10 ?_
    refine g_lconst (n := 1) C0 rfl dX7_kind_11 ?_
    refine g_callS (As := [.long (Int32.toInt64 y), .long (lN 0), .long (lN 1)]) (rest := []) (wr := (mW tk h Mt hi la ce)) (C0.sz hl) X (c_X7_in l D tk (Int32.toInt64 y) (lN 0) (lN 1)) ⟨tb885, tb887, tb8, ⟨by decide, by decide, rfl⟩, rfl, rfl, Nat.le_of_ble_eq_true rfl, Nat.le_of_ble_eq_true rfl⟩ tb886 rfl [] [0, 1, 2, 3, 4, 5, 6, 7, 8, 9, 10, 11, 12, 13] rfl rfl rfl rfl rfl (Nat.le_of_ble_eq_true rfl) ⟨Nat.le_of_ble_eq_true rfl, Nat.le_of_ble_eq_true rfl⟩ dX7_kind_12 (fun _ H locs _ X => ?_)
    have X : Hx D zA zs H locs (mW tk h Mt hi la ce) := X
    refine g_top (y := nI (rb (rg y 0 1))) (by rw [inL_rg y (by first | decide | omega) (by first | decide | omega)]) ?_
    refine g_ifneB (x := rg y 0 1) (tgt := 20) C0 dX7_kind_15 rfl (fun c3 => ?_) (fun c4 => ?_)
    · obtain ⟨yq, hk_yqa, hk_yqb, hk_yqc, rfl⟩ := rg_sp c3
      refine g_sipush (n := 1000) C0 (by decide) dX7_kind_20 ?_
      refine lv_istore_n (lv' := [(3, .int (nI 1000)), (0, .ref (h 0)), (1, .int (nI xq)), (2, .int (nI yq))]) hx hb dX7_kind_23 rfl hl (by decide) rfl (fun ls hl => ?_)
      refine g_iconst (n := 0) C0 rfl dX7_kind_24 ?_
      refine lv_istore (lv' := [(4, .int (nI 0)), (3, .int (nI 1000)), (0, .ref (h 0)), (1, .int (nI xq)), (2, .int (nI yq))]) hx hb dX7_kind_25 hl (by decide) rfl (fun ls hl => ?_)
      refine lv_aload_n hx hb dX7_kind_27 rfl (lv_at hl 2 rfl) ?_
      refine g_iconst (n := 0) C0 rfl dX7_kind_28 ?_
      refine g_sipush (n := 252) C0 (by decide) dX7_kind_29 ?_
      refine g_callV (As := [.int (nI 0), .int (nI 252)]) (rest := []) (wr := []) (C0.sz hl) X (c_X7_copies l D tk h Mt hi la ce 0 252 (by omega) (by omega) (by omega)) ⟨tb1096, tb1099, tb8, ⟨by decide, by decide, rfl⟩, rfl, rfl, Nat.le_of_ble_eq_true rfl, Nat.le_of_ble_eq_true rfl⟩ tb1098 tbs46 0 7 rfl rfl rfl rfl [0, 1, 2, 3, 4, 5, 6, 7, 8, 9, 10, 11, 12, 13] [] rfl rfl rfl rfl rfl (Nat.le_of_ble_eq_true rfl) ⟨Nat.le_of_ble_eq_true rfl, Nat.le_of_ble_eq_true rfl⟩ dX7_kind_32 (fun _ H locs _ X => ?_)
      have X : Hx D zA zs H locs (mW tk h (u3 Mt 0 (pcopy (Mt 0) 0 252 63)) hi la ce) := X
      refine g_iconst (n := 0) C0 rfl dX7_kind_35 ?_
      refine lv_istore (lv' := [(5, .int (nI 0)), (4, .int (nI 0)), (3, .int (nI 1000)), (0, .ref (h 0)), (1, .int (nI xq)), (2, .int (nI yq))]) hx hb dX7_kind_36 hl (by decide) rfl (fun ls hl => ?_)
      have J38 : ∀ (fz : Nat) (i few wh x0 : Nat) (r1 d1 e1 : Nat → Nat), 4 - i < fz → ∀ (hi1 : i ≤ 4) (hwh : wh ≤ 4) (hfw : few ≤ 1000) (h0 : i = 0 → few = 1000) (hr : RK (Mt 0) r1) (hv : VEq (pgv (u3 Mt 0 r1) 252) (u2 (pgv Mt 0) 0 xq x0)) (hbf : ∃ c : Int32, (c, few) = bfold (fun _ => true) (fun h => crossS (u2 (pgv Mt 0) 0 xq h)) 1000 i ∧ (i ≠ 0 → c = nI wh)) (H : Heap) (locs : List Loc) (ls : Array Slot), Hx D zA zs H locs (mW tk h (u3 (u3 (u3 Mt 0 r1) 6 d1) 7 e1) hi la ce) → lv_has ls 7 [(5, .int (nI i)), (4, .int (nI wh)), (3, .int (nI few)), (0, .ref (h 0)), (1, .int (nI xq)), (2, .int (nI yq))] → W zp l ze ⟨5, 0, 0, 119⟩ zs zm za zb zt zc H locs 0 0 zQ (F0 zm 38 ls []) := by
        intro fz
        induction fz with
        | zero => intro i few wh x0 r1 d1 e1 hz; exact absurd hz (Nat.not_lt_zero _)
        | succ fz ih38 =>
          intro i few wh x0 r1 d1 e1 hz38 hi1 hwh hfw h0 hr hv hbf H locs ls X hl
          refine lv_iload hx hb dX7_kind_38 (lv_at hl 0 rfl) ?_
          refine g_iconst (n := 4) C0 rfl dX7_kind_40 ?_
          refine g_icmp_ge (x := i) (y := 4) (tgt := 99) C0 (by omega) (by omega) dX7_kind_41 rfl (fun c5 => ?_) (fun c6 => ?_)
          · refine lv_iload_n hx hb dX7_kind_99 rfl (lv_at hl 5 rfl) ?_
            refine g_ifne (x := yq) (tgt := 108) C0 (by omega) dX7_kind_100 rfl (fun c7 => ?_) (fun c8 => ?_)
            · refine lv_iload_n hx hb dX7_kind_108 rfl (lv_at hl 2 rfl) ?_
              exact hE (v := nI few) (r1, d1, e1) (by rw [a_kind, if_pos (by simp only [pv80, pv83, c2, c3]; rfl), tn_nI (k := xq) (by omega), tn_nI (k := yq) (by omega), hb_e (show ∃ c : Int32, (c, few) = bfold _ _ 1000 4 ∧ (4 ≠ 0 → c = nI wh) by have q := hbf; rw [show i = 4 by omega] at q; exact q) (by decide) (by omega), if_neg (by omega)]) (by exact hr) X dX7_kind_109
            · refine lv_iload hx hb dX7_kind_103 (lv_at hl 1 rfl) ?_
              refine lv_goto (tgt := 109) hx hb dX7_kind_105 (by decide) ?_
              exact hE (v := nI wh) (r1, d1, e1) (by rw [a_kind, if_pos (by simp only [pv80, pv83, c2, c3]; rfl), tn_nI (k := xq) (by omega), tn_nI (k := yq) (by omega), hb_e (show ∃ c : Int32, (c, few) = bfold _ _ 1000 4 ∧ (4 ≠ 0 → c = nI wh) by have q := hbf; rw [show i = 4 by omega] at q; exact q) (by decide) (by omega), if_pos c8]) (by exact hr) X dX7_kind_109
          · refine lv_aload_n hx hb dX7_kind_44 rfl (lv_at hl 3 rfl) ?_
            refine g_get (v := .ref (h 1)) C0 X kX7 0 0 tb797 rfl rfl rfl dX7_kind_45 ?_
            refine g_sipush (n := 252) C0 (by decide) dX7_kind_48 ?_
            refine lv_iload_n hx hb dX7_kind_51 rfl (lv_at hl 4 rfl) ?_
            refine g_iadd (n := 252 + xq) C0 (by first | rfl | omega) dX7_kind_52 ?_
            refine lv_iload hx hb dX7_kind_53 (lv_at hl 0 rfl) ?_
            refine g_iast (g := nf (u1 r1 (252 + xq) i)) (i := 252 + xq) C0 X 1 0 rfl rfl (by omega) rfl (nf_u1 _ _ _) dX7_kind_55 (fun H locs X => ?_)
            have X : Hx D zA zs H locs (mW tk h (u2 (u3 (u3 (u3 Mt 0 r1) 6 d1) 7 e1) 0 (252 + xq) i) hi la ce) := X
            have hv2 := pg_kind (y := i) hW (show xq < 6 by omega) hv
            have hvw : VW (u2 (pgv Mt 0) 0 xq i) := hW.kindu (by omega)
            refine lv_aload_n hx hb dX7_kind_56 rfl (lv_at hl 3 rfl) ?_
            refine g_sipush (n := 252) C0 (by decide) dX7_kind_57 ?_
            refine g_callV (As := [.int (nI 252)]) (rest := []) (wr := []) (C0.sz hl) X (c_X7_crossedOn l D tk h (u2 (u3 (u3 (u3 Mt 0 r1) 6 d1) 7 e1) 0 (252 + xq) i) hi la ce 252 (by omega) (by exact VW.eq hv2.sy hvw)) ⟨tb949, tb952, tb8, ⟨by decide, by decide, rfl⟩, rfl, rfl, Nat.le_of_ble_eq_true rfl, Nat.le_of_ble_eq_true rfl⟩ tb951 tbs31 0 7 rfl rfl rfl rfl [0, 1, 2, 3, 4, 5, 6, 7, 8, 9, 10, 11, 12, 13] [] rfl rfl rfl rfl rfl (Nat.le_of_ble_eq_true rfl) ⟨Nat.le_of_ble_eq_true rfl, Nat.le_of_ble_eq_true rfl⟩ dX7_kind_60 (fun uq9 H locs _ X => ?_)
            have X : Hx D zA zs H locs (mW tk h (u3 (u3 (u2 (u3 Mt 0 r1) 0 (252 + xq) i) 6 uq9.1) 7 uq9.2) hi la ce) := X
            refine g_top (y := nI (crossS (u2 (pgv Mt 0) 0 xq i))) (by exact congrArg nI (crossS_eq hv2)) ?_
            have hLx := crossS_le (u2 (pgv Mt 0) 0 xq i) hv4
            refine lv_istore (lv' := [(6, .int (nI (crossS (u2 (pgv Mt 0) 0 xq i)))), (5, .int (nI i)), (4, .int (nI wh)), (3, .int (nI few)), (0, .ref (h 0)), (1, .int (nI xq)), (2, .int (nI yq))]) hx hb dX7_kind_63 hl (by decide) rfl (fun ls hl => ?_)
            refine lv_iload hx hb dX7_kind_65 (lv_at hl 0 rfl) ?_
            refine lv_iload_n hx hb dX7_kind_67 rfl (lv_at hl 3 rfl) ?_
            refine g_icmp_ge (x := crossS (u2 (pgv Mt 0) 0 xq i)) (y := few) (tgt := 76) C0 (by omega) (by omega) dX7_kind_68 rfl (fun c10 => ?_) (fun c11 => ?_)
            · refine lv_iload hx hb dX7_kind_76 (lv_at hl 2 rfl) ?_
              refine lv_istore (lv' := [(4, .int (nI wh)), (6, .int (nI (crossS (u2 (pgv Mt 0) 0 xq i)))), (5, .int (nI i)), (3, .int (nI few)), (0, .ref (h 0)), (1, .int (nI xq)), (2, .int (nI yq))]) hx hb dX7_kind_78 hl (by decide) rfl (fun ls hl => ?_)
              refine lv_iload hx hb dX7_kind_80 (lv_at hl 1 rfl) ?_
              refine lv_iload_n hx hb dX7_kind_82 rfl (lv_at hl 3 rfl) ?_
              refine g_icmp_ge (x := crossS (u2 (pgv Mt 0) 0 xq i)) (y := few) (tgt := 91) C0 (by omega) (by omega) dX7_kind_83 rfl (fun c12 => ?_) (fun c13 => ?_)
              · refine lv_iload_n hx hb dX7_kind_91 rfl (lv_at hl 3 rfl) ?_
                refine lv_istore_n (lv' := [(3, .int (nI few)), (4, .int (nI wh)), (6, .int (nI (crossS (u2 (pgv Mt 0) 0 xq i)))), (5, .int (nI i)), (0, .ref (h 0)), (1, .int (nI xq)), (2, .int (nI yq))]) hx hb dX7_kind_92 rfl hl (by decide) rfl (fun ls hl => ?_)
                refine g_iinc (j := 1) (z := i + 1) (lv' := [(5, .int (nI (i + 1))), (3, .int (nI few)), (4, .int (nI wh)), (6, .int (nI (crossS (u2 (pgv Mt 0) 0 xq i)))), (0, .ref (h 0)), (1, .int (nI xq)), (2, .int (nI yq))]) C0 rfl (by first | rfl | omega) dX7_kind_93 hl (k := 3) rfl (by decide) rfl (fun ls hl => ?_)
                refine lv_goto (tgt := 38) hx hb dX7_kind_96 (by decide) ?_
                exact ih38 (i + 1) few wh i (u1 r1 (252 + xq) i) uq9.1 uq9.2 (by omega) (by omega) (by omega) (by omega) (by intro q; omega) (by exact hr.u1 (by omega)) (by exact hv2) (by exact hb_k (x := (fun h => crossS (u2 (pgv Mt 0) 0 xq h))) hbf (by show _ ≤ crossS _; omega) (fun q => by have := h0 q; omega)) H locs ls X (lv_sub hl [0, 2, 1, 4, 5, 6] rfl)
              · refine lv_iload hx hb dX7_kind_86 (lv_at hl 1 rfl) ?_
                refine lv_goto (tgt := 92) hx hb dX7_kind_88 (by decide) ?_
                refine lv_istore_n (lv' := [(3, .int (nI (crossS (u2 (pgv Mt 0) 0 xq i)))), (4, .int (nI wh)), (6, .int (nI (crossS (u2 (pgv Mt 0) 0 xq i)))), (5, .int (nI i)), (0, .ref (h 0)), (1, .int (nI xq)), (2, .int (nI yq))]) hx hb dX7_kind_92 rfl hl (by decide) rfl (fun ls hl => ?_)
                refine g_iinc (j := 1) (z := i + 1) (lv' := [(5, .int (nI (i + 1))), (3, .int (nI (crossS (u2 (pgv Mt 0) 0 xq i)))), (4, .int (nI wh)), (6, .int (nI (crossS (u2 (pgv Mt 0) 0 xq i)))), (0, .ref (h 0)), (1, .int (nI xq)), (2, .int (nI yq))]) C0 rfl (by first | rfl | omega) dX7_kind_93 hl (k := 3) rfl (by decide) rfl (fun ls hl => ?_)
                refine lv_goto (tgt := 38) hx hb dX7_kind_96 (by decide) ?_
                exact ih38 (i + 1) (crossS (u2 (pgv Mt 0) 0 xq i)) wh i (u1 r1 (252 + xq) i) uq9.1 uq9.2 (by omega) (by omega) (by omega) (by omega) (by intro q; omega) (by exact hr.u1 (by omega)) (by exact hv2) (by exfalso; omega) H locs ls X (lv_sub hl [0, 2, 1, 4, 5, 6] rfl)
            · refine lv_iload hx hb dX7_kind_71 (lv_at hl 1 rfl) ?_
              refine lv_goto (tgt := 78) hx hb dX7_kind_73 (by decide) ?_
              refine lv_istore (lv' := [(4, .int (nI i)), (6, .int (nI (crossS (u2 (pgv Mt 0) 0 xq i)))), (5, .int (nI i)), (3, .int (nI few)), (0, .ref (h 0)), (1, .int (nI xq)), (2, .int (nI yq))]) hx hb dX7_kind_78 hl (by decide) rfl (fun ls hl => ?_)
              refine lv_iload hx hb dX7_kind_80 (lv_at hl 1 rfl) ?_
              refine lv_iload_n hx hb dX7_kind_82 rfl (lv_at hl 3 rfl) ?_
              refine g_icmp_ge (x := crossS (u2 (pgv Mt 0) 0 xq i)) (y := few) (tgt := 91) C0 (by omega) (by omega) dX7_kind_83 rfl (fun c14 => ?_) (fun c15 => ?_)
              · refine lv_iload_n hx hb dX7_kind_91 rfl (lv_at hl 3 rfl) ?_
                refine lv_istore_n (lv' := [(3, .int (nI few)), (4, .int (nI i)), (6, .int (nI (crossS (u2 (pgv Mt 0) 0 xq i)))), (5, .int (nI i)), (0, .ref (h 0)), (1, .int (nI xq)), (2, .int (nI yq))]) hx hb dX7_kind_92 rfl hl (by decide) rfl (fun ls hl => ?_)
                refine g_iinc (j := 1) (z := i + 1) (lv' := [(5, .int (nI (i + 1))), (3, .int (nI few)), (4, .int (nI i)), (6, .int (nI (crossS (u2 (pgv Mt 0) 0 xq i)))), (0, .ref (h 0)), (1, .int (nI xq)), (2, .int (nI yq))]) C0 rfl (by first | rfl | omega) dX7_kind_93 hl (k := 3) rfl (by decide) rfl (fun ls hl => ?_)
                refine lv_goto (tgt := 38) hx hb dX7_kind_96 (by decide) ?_
                exact ih38 (i + 1) few i i (u1 r1 (252 + xq) i) uq9.1 uq9.2 (by omega) (by omega) (by omega) (by omega) (by intro q; omega) (by exact hr.u1 (by omega)) (by exact hv2) (by exfalso; omega) H locs ls X (lv_sub hl [0, 2, 1, 4, 5, 6] rfl)
              · refine lv_iload hx hb dX7_kind_86 (lv_at hl 1 rfl) ?_
                refine lv_goto (tgt := 92) hx hb dX7_kind_88 (by decide) ?_
                refine lv_istore_n (lv' := [(3, .int (nI (crossS (u2 (pgv Mt 0) 0 xq i)))), (4, .int (nI i)), (6, .int (nI (crossS (u2 (pgv Mt 0) 0 xq i)))), (5, .int (nI i)), (0, .ref (h 0)), (1, .int (nI xq)), (2, .int (nI yq))]) hx hb dX7_kind_92 rfl hl (by decide) rfl (fun ls hl => ?_)
                refine g_iinc (j := 1) (z := i + 1) (lv' := [(5, .int (nI (i + 1))), (3, .int (nI (crossS (u2 (pgv Mt 0) 0 xq i)))), (4, .int (nI i)), (6, .int (nI (crossS (u2 (pgv Mt 0) 0 xq i)))), (0, .ref (h 0)), (1, .int (nI xq)), (2, .int (nI yq))]) C0 rfl (by first | rfl | omega) dX7_kind_93 hl (k := 3) rfl (by decide) rfl (fun ls hl => ?_)
                refine lv_goto (tgt := 38) hx hb dX7_kind_96 (by decide) ?_
                exact ih38 (i + 1) (crossS (u2 (pgv Mt 0) 0 xq i)) i i (u1 r1 (252 + xq) i) uq9.1 uq9.2 (by omega) (by omega) (by omega) (by omega) (by intro q; omega) (by exact hr.u1 (by omega)) (by exact hv2) (by exact hb_t (x := (fun h => crossS (u2 (pgv Mt 0) 0 xq h))) hbf (by show crossS _ < _; omega)) H locs ls X (lv_sub hl [0, 2, 1, 4, 5, 6] rfl)
      exact J38 ((4 - 0) + 1) 0 1000 0 (pgv Mt 0 0 xq) (pcopy (Mt 0) 0 252 63) (Mt 6) (Mt 7) (Nat.lt_succ_self _) (by omega) (by omega) (by omega) (by intro _; rfl) (by exact (RK.rf _).cp) (by exact vu2_self (pgc hW (RK.rf _))) (by exact ⟨-4, rfl, fun q => absurd rfl q⟩) H locs ls X (lv_sub hl [0, 1, 2, 3, 4, 5] rfl)
    · refine lv_iconst (v := (-1)) hx hb dX7_kind_18 (by decide) ?_
      exact hE (v := (-1)) (Mt 0, Mt 6, Mt 7) (by simp only [a_kind, c2, c4, tn_nI (k := xq) (by omega), pv80, pv81, pv82, pv83, pv0, pv1, pv2, pv3, pv4, pv5, pv6, pv7, eq_self, ne01, ne02, ne03, ne04, ne05, ne10, ne12, ne13, ne14, ne15, ne20, ne21, ne23, ne24, ne25, ne30, ne31, ne32, ne34, ne35, ne40, ne41, ne42, ne43, ne45, ne50, ne51, ne52, ne53, ne54, if_true, if_false, Bool.false_eq_true, Bool.and_self, Bool.and_true, Bool.and_false, Bool.true_and, Bool.false_and, Bool.not_true, Bool.not_false, decide_true, decide_false] <;> rfl) (by exact RK.rf _) X dX7_kind_19
set_option maxHeartbeats 4000000 in
set_option maxRecDepth 100000 in
theorem c_X7_calm (l : Launch) (D : va_G) (tk : Nat → ClassId) (h : Nat → Nat) (Mt : Nat → Nat → Nat) (hi : Int32) (la ce : Nat → Int32) (hW : VW (pgv Mt 0)) : MX l yX7_calm cX7_calm 2 (some .int) ⟨5, 0, 0, 119⟩ D (TYS tk) [.ref (h 0)] (mW tk h Mt hi la ce) (fun (u : (Nat → Nat) × (Nat → Nat) × (Nat → Nat)) => RK (Mt 0) u.1) (fun u => some (.int (a_calm (pgv Mt 0)))) (fun u => mW tk h (u3 (u3 (u3 Mt 0 u.1) 6 u.2.1) 7 u.2.2) hi la ce) 0 0 := by
  refine MX.of_i (by decide) rfl ?_
  intro zp ze zs zm za zb zt zc zA zQ ls C0 hnm X hl hE
  have hx := C0.1
  have hb := C0.2.1
  have ht := C0.2.2.2.2.1
  have X : Hx D zA zs zs.heap [] (mW tk h Mt hi la ce) := X
  have hl : lv_has ls 2 [(0, .ref (h 0))] := hl
  obtain ⟨hv1, hv2, hv3, hv4, hv5, hv6, hv7⟩ := id hW
  have hb1 : Mt 20 0 ≤ 6 := hv1
  have hb2 : Mt 0 42 ≤ 9 := hv2
  have hb3 : Mt 0 43 ≤ 20 := hv3
  have hb4 : Mt 0 62 ≤ 6 := hv4
  have hkd : ∀ t, t < Mt 20 0 → Mt 0 t ≤ 3 := fun t ht => by have q := hv5 t ht; rw [pv0] at q; exact q
  have hrt : ∀ i, i < Mt 0 42 → Mt 0 (6 + i) < Mt 20 0 ∧ Mt 0 (15 + i) < Mt 20 0 ∧ Mt 0 (6 + i) ≠ Mt 0 (15 + i) ∧ 1 ≤ Mt 0 (24 + i) ∧ Mt 0 (24 + i) ≤ 9 ∧ Mt 0 (33 + i) ≤ 1 := fun i hi => hv6 i hi
  have htk : ∀ k, k < Mt 0 62 → Mt 0 (44 + k) ≤ 23 ∧ Mt 0 (50 + k) < Mt 20 0 ∧ 1 ≤ Mt 0 (56 + k) ∧ Mt 0 (56 + k) ≤ 60 := fun k hk => hv7 k hk
  obtain ⟨H, hH⟩ : ∃ H, H = zs.heap := ⟨_, rfl⟩
  rw [← hH] at X ⊢
  obtain ⟨locs, hlo⟩ : ∃ L : List Loc, L = [] := ⟨_, rfl⟩
  rw [← hlo] at X ⊢
  refine lv_aload_n hx hb dX7_calm_0 rfl (lv_at hl 0 rfl) ?_
  refine g_iconst (n := 0) C0 rfl dX7_calm_1 ?_
  refine g_sipush (n := 252) C0 (by decide) dX7_calm_2 ?_
  refine g_callV (As := [.int (nI 0), .int (nI 252)]) (rest := []) (wr := []) (C0.sz hl) X (c_X7_copies l D tk h Mt hi la ce 0 252 (by omega) (by omega) (by omega)) ⟨tb1096, tb1099, tb8, ⟨by decide, by decide, rfl⟩, rfl, rfl, Nat.le_of_ble_eq_true rfl, Nat.le_of_ble_eq_true rfl⟩ tb1098 tbs46 0 7 rfl rfl rfl rfl [0, 1, 2, 3, 4, 5, 6, 7, 8, 9, 10, 11, 12, 13] [] rfl rfl rfl rfl rfl (Nat.le_of_ble_eq_true rfl) ⟨Nat.le_of_ble_eq_true rfl, Nat.le_of_ble_eq_true rfl⟩ dX7_calm_5 (fun _ H locs _ X => ?_)
  have X : Hx D zA zs H locs (mW tk h (u3 Mt 0 (pcopy (Mt 0) 0 252 63)) hi la ce) := X
  refine g_iconst (n := 0) C0 rfl dX7_calm_8 ?_
  refine lv_istore_n (lv' := [(1, .int (nI 0)), (0, .ref (h 0))]) hx hb dX7_calm_9 rfl hl (by decide) rfl (fun ls hl => ?_)
  have J10 : ∀ (fz : Nat) (i x0 : Nat) (r1 d1 e1 : Nat → Nat), 21 - i < fz → ∀ (hi1 : i ≤ 21) (hr : RK (Mt 0) r1) (hv : VEq (pgv (u3 Mt 0 r1) 252) (u2 (pgv Mt 0) 8 2 x0)) (hf : lfind (calmP (pgv Mt 0)) 21 1 = lfind (calmP (pgv Mt 0)) (21 - i) (i + 1)) (H : Heap) (locs : List Loc) (ls : Array Slot), Hx D zA zs H locs (mW tk h (u3 (u3 (u3 Mt 0 r1) 6 d1) 7 e1) hi la ce) → lv_has ls 2 [(1, .int (nI i)), (0, .ref (h 0))] → W zp l ze ⟨5, 0, 0, 119⟩ zs zm za zb zt zc H locs 0 0 zQ (F0 zm 10 ls []) := by
    intro fz
    induction fz with
    | zero => intro i x0 r1 d1 e1 hz; exact absurd hz (Nat.not_lt_zero _)
    | succ fz ih10 =>
      intro i x0 r1 d1 e1 hz10 hi1 hr hv hf H locs ls X hl
      refine lv_iload_n hx hb dX7_calm_10 rfl (lv_at hl 0 rfl) ?_
      refine g_bipush (n := 20) C0 (by decide) dX7_calm_11 ?_
      refine g_icmp_gt (x := i) (y := 20) (tgt := 43) C0 (by omega) (by omega) dX7_calm_13 rfl (fun c1 => ?_) (fun c2 => ?_)
      · refine lv_bipush (v := (-4)) hx hb dX7_calm_43 (by decide) ?_
        exact hE (v := (-4)) (r1, d1, e1) (by rw [a_calm, hf, show 21 - i = 0 by omega]; rfl) (by exact hr) X dX7_calm_45
      · refine lv_aload_n hx hb dX7_calm_16 rfl (lv_at hl 1 rfl) ?_
        refine g_get (v := .ref (h 1)) C0 X kX7 0 0 tb797 rfl rfl rfl dX7_calm_17 ?_
        refine g_sipush (n := 295) C0 (by decide) dX7_calm_20 ?_
        refine lv_iload_n hx hb dX7_calm_23 rfl (lv_at hl 0 rfl) ?_
        refine g_iast (g := nf (u1 r1 295 i)) (i := 295) C0 X 1 0 rfl rfl (by omega) rfl (nf_u1 _ _ _) dX7_calm_24 (fun H locs X => ?_)
        have X : Hx D zA zs H locs (mW tk h (u2 (u3 (u3 (u3 Mt 0 r1) 6 d1) 7 e1) 0 295 i) hi la ce) := X
        have hv2 := pg_wind (y := i) hW hv
        have hvw : VW (u2 (pgv Mt 0) 8 2 i) := hW.windu (by omega)
        refine lv_aload_n hx hb dX7_calm_25 rfl (lv_at hl 1 rfl) ?_
        refine g_sipush (n := 252) C0 (by decide) dX7_calm_26 ?_
        refine g_callV (As := [.int (nI 252)]) (rest := []) (wr := []) (C0.sz hl) X (c_X7_crossedOn l D tk h (u2 (u3 (u3 (u3 Mt 0 r1) 6 d1) 7 e1) 0 295 i) hi la ce 252 (by omega) (by exact VW.eq hv2.sy hvw)) ⟨tb949, tb952, tb8, ⟨by decide, by decide, rfl⟩, rfl, rfl, Nat.le_of_ble_eq_true rfl, Nat.le_of_ble_eq_true rfl⟩ tb951 tbs31 0 7 rfl rfl rfl rfl [0, 1, 2, 3, 4, 5, 6, 7, 8, 9, 10, 11, 12, 13] [] rfl rfl rfl rfl rfl (Nat.le_of_ble_eq_true rfl) ⟨Nat.le_of_ble_eq_true rfl, Nat.le_of_ble_eq_true rfl⟩ dX7_calm_29 (fun uq3 H locs _ X => ?_)
        have X : Hx D zA zs H locs (mW tk h (u3 (u3 (u2 (u3 Mt 0 r1) 0 295 i) 6 uq3.1) 7 uq3.2) hi la ce) := X
        refine g_top (y := nI (crossS (u2 (pgv Mt 0) 8 2 i))) (by exact congrArg nI (crossS_eq hv2)) ?_
        have hLx := crossS_le (u2 (pgv Mt 0) 8 2 i) hv4
        refine g_ifne (x := crossS (u2 (pgv Mt 0) 8 2 i)) (tgt := 37) C0 (by omega) dX7_calm_32 rfl (fun c4 => ?_) (fun c5 => ?_)
        · refine g_iinc (j := 1) (z := i + 1) (lv' := [(1, .int (nI (i + 1))), (0, .ref (h 0))]) C0 rfl (by first | rfl | omega) dX7_calm_37 hl (k := 0) rfl (by decide) rfl (fun ls hl => ?_)
          refine lv_goto (tgt := 10) hx hb dX7_calm_40 (by decide) ?_
          exact ih10 (i + 1) i (u1 r1 295 i) uq3.1 uq3.2 (by omega) (by omega) (by exact hr.u1 (by omega)) (by exact hv2) (by rw [hf]; exact calm_m (by omega) c4) H locs ls X (lv_sub hl [0, 1] rfl)
        · refine lv_iload_n hx hb dX7_calm_35 rfl (lv_at hl 0 rfl) ?_
          exact hE (v := nI i) (u1 r1 295 i, uq3.1, uq3.2) (by rw [a_calm, hf, lfind_y (P := calmP (pgv Mt 0)) (by omega) (calm_n (decide_eq_true c5)), if_neg (by omega)]; rfl) (by exact hr.u1 (by omega)) X dX7_calm_36
  exact J10 ((21 - 0) + 1) 0 (pgv Mt 0 8 2) (pcopy (Mt 0) 0 252 63) (Mt 6) (Mt 7) (Nat.lt_succ_self _) (by omega) (by exact (RK.rf _).cp) (by exact vu2_self (pgc hW (RK.rf _))) (by rfl) H locs ls X (lv_sub hl [0, 1] rfl)
