set_option maxHeartbeats 4000000 in
set_option maxRecDepth 100000 in
theorem c_X7_read (l : Launch) (D : va_G) (tk : Nat → ClassId) (h : Nat → Nat) (Mt : Nat → Nat → Nat) (hi : Int32) (la ce : Nat → Int32) (x y z w : Int32) (hW : VW (pgv Mt 0)) (hln : ∀ k, k < 4 → Mt 12 k ≤ 40) (hla : ∀ k, k < 4 → la k ≠ -4 → la k ≠ -1) : MX l yX7_read cX7_read 9 (some .int) ⟨3, 0, 0, 70⟩ D (TYS tk) [.ref (h 0), .int x, .int y, .int z, .int w] (mW tk h Mt hi la ce) (fun (u : (Nat → Nat)) => VEq (pgv (u3 Mt 0 u) 0) (readV (pgv Mt 0) (lnm (la (tn x))) (Mt 12 (tn x)) (fun j => ce (40 * tn x + j)) x y z w) ∧ ∀ j, 63 ≤ j → j < 189 → u j = Mt 0 j) (fun u => some (.int (a_read (pgv Mt 0) (lnm (la (tn x))) (Mt 12 (tn x)) (fun j => ce (40 * tn x + j)) x y z w))) (fun u => mW tk h (u2 (u3 Mt 0 u) 20 12 (readF (pgv Mt 0) (Mt 20 12) (lnm (la (tn x))) (Mt 12 (tn x)) (fun j => ce (40 * tn x + j)) x y z w)) hi la ce) 0 0 := by
  refine MX.of_i (by decide) rfl ?_
  intro zp ze zs zm za zb zt zc zA zQ ls C0 hnm X hl hE
  have hx := C0.1
  have hb := C0.2.1
  have ht := C0.2.2.2.2.1
  have X : Hx D zA zs zs.heap [] (mW tk h Mt hi la ce) := X
  have hl : lv_has ls 9 [(0, .ref (h 0)), (1, .int x), (2, .int y), (3, .int z), (4, .int w)] := hl
  obtain ⟨hv1, hv2, hv3, hv4, hv5, hv6, hv7⟩ := id hW
  have hb1 : Mt 20 0 ≤ 6 := hv1
  have hb2 : Mt 0 42 ≤ 9 := hv2
  have hb3 : Mt 0 43 ≤ 20 := hv3
  have hb4 : Mt 0 62 ≤ 6 := hv4
  have hkd : ∀ t, t < Mt 20 0 → Mt 0 t ≤ 3 := fun t ht => by have q := hv5 t ht; rw [pv0] at q; exact q
  have hrt : ∀ i, i < Mt 0 42 → Mt 0 (6 + i) < Mt 20 0 ∧ Mt 0 (15 + i) < Mt 20 0 ∧ Mt 0 (6 + i) ≠ Mt 0 (15 + i) ∧ 1 ≤ Mt 0 (24 + i) ∧ Mt 0 (24 + i) ≤ 9 ∧ Mt 0 (33 + i) ≤ 1 := fun i hi => hv6 i hi
  have htk : ∀ k, k < Mt 0 62 → Mt 0 (44 + k) ≤ 23 ∧ Mt 0 (50 + k) < Mt 20 0 ∧ 1 ≤ Mt 0 (56 + k) ∧ Mt 0 (56 + k) ≤ 60 := fun k hk => hv7 k hk
  have hv2x := hv2
  obtain ⟨H, hH⟩ : ∃ H, H = zs.heap := ⟨_, rfl⟩
  rw [← hH] at X ⊢
  obtain ⟨locs, hlo⟩ : ∃ L : List Loc, L = [] := ⟨_, rfl⟩
  rw [← hlo] at X ⊢
  refine lv_iload_n hx hb dX7_read_0 rfl (lv_at hl 1 rfl) ?_
  refine lv_i2l hx hb dX7_read_1 rfl ?_
  refine g_lconst (n := 0) C0 rfl dX7_read_2 ?_
  refine lv_ldc2 (v := lN 3) hx hb C0.2.2.2.1 (ht _ tb984) dX7_read_3 ?_
  refine g_callS (As := [.long (Int32.toInt64 x), .long (lN 0), .long (lN 3)]) (rest := []) (wr := (mW tk h Mt hi la ce)) (C0.sz hl) X (c_X7_in l D tk (Int32.toInt64 x) (lN 0) (lN 3)) ⟨tb885, tb887, tb8, ⟨by decide, by decide, rfl⟩, rfl, rfl, Nat.le_of_ble_eq_true rfl, Nat.le_of_ble_eq_true rfl⟩ tb886 rfl [] [0, 1, 2, 3, 4, 5, 6, 7, 8, 9, 10, 11, 12, 13] rfl rfl rfl rfl rfl (Nat.le_of_ble_eq_true rfl) ⟨Nat.le_of_ble_eq_true rfl, Nat.le_of_ble_eq_true rfl⟩ dX7_read_6 (fun _ H locs _ X => ?_)
  have X : Hx D zA zs H locs (mW tk h Mt hi la ce) := X
  refine g_top (y := nI (rb (rg x 0 3))) (by rw [inL_rg x (by first | decide | omega) (by first | decide | omega)]) ?_
  refine g_ifeqB (x := rg x 0 3) (tgt := 37) C0 dX7_read_9 rfl (fun c1 => ?_) (fun c2 => ?_)
  · refine lv_iconst (v := (-1)) hx hb dX7_read_37 (by decide) ?_
    exact hE (v := (-1)) (Mt 0) (by rw [a_read, if_neg (by simp [c1])]) (by exact ⟨by rw [readV, if_neg (by simp [c1])]; exact VEq.rf _, fun j _ _ => rfl⟩) (X.to (by rw [readF, if_neg (by simp [c1])]; rw [u32_id, u3_id])) dX7_read_38
  · obtain ⟨xq, hk_xqa, hk_xqb, hk_xqc, rfl⟩ := rg_sp c2
    refine lv_iload_n hx hb dX7_read_12 rfl (lv_at hl 2 rfl) ?_
    refine lv_i2l hx hb dX7_read_13 rfl ?_
    refine g_lconst (n := 0) C0 rfl dX7_read_14 ?_
    refine lv_ldc2 (v := lN 2) hx hb C0.2.2.2.1 (ht _ tb1191) dX7_read_15 ?_
    refine g_callS (As := [.long (Int32.toInt64 y), .long (lN 0), .long (lN 2)]) (rest := []) (wr := (mW tk h Mt hi la ce)) (C0.sz hl) X (c_X7_in l D tk (Int32.toInt64 y) (lN 0) (lN 2)) ⟨tb885, tb887, tb8, ⟨by decide, by decide, rfl⟩, rfl, rfl, Nat.le_of_ble_eq_true rfl, Nat.le_of_ble_eq_true rfl⟩ tb886 rfl [] [0, 1, 2, 3, 4, 5, 6, 7, 8, 9, 10, 11, 12, 13] rfl rfl rfl rfl rfl (Nat.le_of_ble_eq_true rfl) ⟨Nat.le_of_ble_eq_true rfl, Nat.le_of_ble_eq_true rfl⟩ dX7_read_18 (fun _ H locs _ X => ?_)
    have X : Hx D zA zs H locs (mW tk h Mt hi la ce) := X
    refine g_top (y := nI (rb (rg y 0 2))) (by rw [inL_rg y (by first | decide | omega) (by first | decide | omega)]) ?_
    refine g_ifeqB (x := rg y 0 2) (tgt := 37) C0 dX7_read_21 rfl (fun c3 => ?_) (fun c4 => ?_)
    · refine lv_iconst (v := (-1)) hx hb dX7_read_37 (by decide) ?_
      exact hE (v := (-1)) (Mt 0) (by rw [a_read, if_neg (by simp [c2, c3])]) (by exact ⟨by rw [readV, if_neg (by simp [c2, c3])]; exact VEq.rf _, fun j _ _ => rfl⟩) (X.to (by rw [readF, if_neg (by simp [c2, c3])]; rw [u32_id, u3_id])) dX7_read_38
    · obtain ⟨yq, hk_yqa, hk_yqb, hk_yqc, rfl⟩ := rg_sp c4
      refine lv_iload hx hb dX7_read_24 (lv_at hl 4 rfl) ?_
      refine lv_i2l hx hb dX7_read_26 rfl ?_
      refine g_lconst (n := 0) C0 rfl dX7_read_27 ?_
      refine lv_ldc2 (v := lN 13) hx hb C0.2.2.2.1 (ht _ tb1200) dX7_read_28 ?_
      refine g_callS (As := [.long (Int32.toInt64 w), .long (lN 0), .long (lN 13)]) (rest := []) (wr := (mW tk h Mt hi la ce)) (C0.sz hl) X (c_X7_in l D tk (Int32.toInt64 w) (lN 0) (lN 13)) ⟨tb885, tb887, tb8, ⟨by decide, by decide, rfl⟩, rfl, rfl, Nat.le_of_ble_eq_true rfl, Nat.le_of_ble_eq_true rfl⟩ tb886 rfl [] [0, 1, 2, 3, 4, 5, 6, 7, 8, 9, 10, 11, 12, 13] rfl rfl rfl rfl rfl (Nat.le_of_ble_eq_true rfl) ⟨Nat.le_of_ble_eq_true rfl, Nat.le_of_ble_eq_true rfl⟩ dX7_read_31 (fun _ H locs _ X => ?_)
      have X : Hx D zA zs H locs (mW tk h Mt hi la ce) := X
      refine g_top (y := nI (rb (rg w 0 13))) (by rw [inL_rg w (by first | decide | omega) (by first | decide | omega)]) ?_
      refine g_ifneB (x := rg w 0 13) (tgt := 39) C0 dX7_read_34 rfl (fun c5 => ?_) (fun c6 => ?_)
      · obtain ⟨wq, hk_wqa, hk_wqb, hk_wqc, rfl⟩ := rg_sp c5
        have hla9 : la xq ≠ -4 → la xq ≠ -1 := hla xq (by omega)
        refine lv_aload_n hx hb dX7_read_39 rfl (lv_at hl 0 rfl) ?_
        refine g_iconst (n := 0) C0 rfl dX7_read_40 ?_
        refine g_sipush (n := 189) C0 (by decide) dX7_read_41 ?_
        refine g_callV (As := [.int (nI 0), .int (nI 189)]) (rest := []) (wr := []) (C0.sz hl) X (c_X7_copies l D tk h Mt hi la ce 0 189 (by omega) (by omega) (by omega)) ⟨tb1096, tb1099, tb8, ⟨by decide, by decide, rfl⟩, rfl, rfl, Nat.le_of_ble_eq_true rfl, Nat.le_of_ble_eq_true rfl⟩ tb1098 tbs46 0 7 rfl rfl rfl rfl [0, 1, 2, 3, 4, 5, 6, 7, 8, 9, 10, 11, 12, 13] [] rfl rfl rfl rfl rfl (Nat.le_of_ble_eq_true rfl) ⟨Nat.le_of_ble_eq_true rfl, Nat.le_of_ble_eq_true rfl⟩ dX7_read_44 (fun _ H locs _ X => ?_)
        have X : Hx D zA zs H locs (mW tk h (u3 Mt 0 (pcopy (Mt 0) 0 189 63)) hi la ce) := X
        refine g_iconst (n := 0) C0 rfl dX7_read_47 ?_
        refine lv_istore (lv' := [(5, .int (nI 0)), (0, .ref (h 0)), (1, .int (nI xq)), (2, .int (nI yq)), (3, .int z), (4, .int (nI wq))]) hx hb dX7_read_48 hl (by decide) rfl (fun ls hl => ?_)
        refine g_iconst (n := 0) C0 rfl dX7_read_50 ?_
        refine lv_istore (lv' := [(6, .int (nI 0)), (5, .int (nI 0)), (0, .ref (h 0)), (1, .int (nI xq)), (2, .int (nI yq)), (3, .int z), (4, .int (nI wq))]) hx hb dX7_read_51 hl (by decide) rfl (fun ls hl => ?_)
        refine g_iconst (n := 0) C0 rfl dX7_read_53 ?_
        refine lv_istore (lv' := [(7, .int (nI 0)), (6, .int (nI 0)), (5, .int (nI 0)), (0, .ref (h 0)), (1, .int (nI xq)), (2, .int (nI yq)), (3, .int z), (4, .int (nI wq))]) hx hb dX7_read_54 hl (by decide) rfl (fun ls hl => ?_)
        have J56 : ∀ (fz : Nat) (by1 came i : Nat) (r1 : Nat → Nat), 3 * wq - i < fz → ∀ (hi1 : i ≤ 3 * wq) (hcm : came ≤ wq) (hby : by1 ≤ 3) (hra : RA (Mt 0) r1) (hv : VEq (pgv (u3 Mt 0 r1) 0) (rdV (pgv Mt 0) z (fun j => ce (40 * xq + j)) came)) (hJ : rdJ (pgv Mt 0) (la xq) (Mt 12 xq) (fun j => ce (40 * xq + j)) (nI yq) z wq i came by1) (H : Heap) (locs : List Loc) (ls : Array Slot), Hx D zA zs H locs (mW tk h (u3 Mt 0 r1) hi la ce) → lv_has ls 9 [(7, .int (nI i)), (6, .int (nI came)), (5, .int (nI by1)), (0, .ref (h 0)), (1, .int (nI xq)), (2, .int (nI yq)), (3, .int z), (4, .int (nI wq))] → W zp l ze ⟨3, 0, 0, 70⟩ zs zm za zb zt zc H locs 0 0 zQ (F0 zm 56 ls []) := by
          intro fz
          induction fz with
          | zero => intro by1 came i r1 hz; exact absurd hz (Nat.not_lt_zero _)
          | succ fz ih56 =>
            intro by1 came i r1 hz56 hi1 hcm hby hra hv hJ H locs ls X hl
            refine lv_iload hx hb dX7_read_56 (lv_at hl 0 rfl) ?_
            refine g_iconst (n := 3) C0 rfl dX7_read_58 ?_
            refine lv_iload hx hb dX7_read_59 (lv_at hl 7 rfl) ?_
            refine g_imul (n := 3 * wq) C0 rfl dX7_read_61 ?_
            refine g_icmp_ge (x := i) (y := 3 * wq) (tgt := 207) C0 (by omega) (by omega) dX7_read_62 rfl (fun c7 => ?_) (fun c8 => ?_)
            · refine lv_aload_n hx hb dX7_read_207 rfl (lv_at hl 3 rfl) ?_
              refine lv_iload hx hb dX7_read_208 (lv_at hl 2 rfl) ?_
              refine g_put (v := .int (nI by1)) (ft := .int) C0 X kX7 0 26 tb823 rfl rfl rfl rfl rfl rfl rfl dX7_read_210 (fun H locs X => ?_)
              have X : Hx D zA zs H locs (mW tk h (u2 (u3 Mt 0 r1) 20 12 by1) hi la ce) := X
              refine lv_iload hx hb dX7_read_213 (lv_at hl 1 rfl) ?_
              have hE1 := rdJ_e hJ hcm (Or.inl (by omega))
              have hE3 := hE1.2.2
              rw [hE1.1] at hE3
              exact hE (v := nI came) r1 (by rw [a_read, if_pos (by rw [c2, c4, c5]; rfl), tn_nI (k := xq) (by omega), tn_nI (k := wq) (by omega), if_neg (by rw [hE1.2.1]; decide), hE1.1]) (by exact ⟨by rw [readV, if_pos (by rw [c2, c4, c5]; rfl), tn_nI (k := xq) (by omega), tn_nI (k := wq) (by omega), if_neg (by rw [hE1.2.1]; decide), hE1.1]; exact hv, hra.2⟩) (X.to (by rw [readF, if_pos (by rw [c2, c4, c5]; rfl), tn_nI (k := xq) (by omega), tn_nI (k := wq) (by omega), if_neg (by rw [hE1.2.1]; decide), hE1.1, ← hE3])) dX7_read_215
            · refine lv_iload hx hb dX7_read_65 (lv_at hl 2 rfl) ?_
              refine g_ifne (x := by1) (tgt := 207) C0 (by omega) dX7_read_67 rfl (fun c9 => ?_) (fun c10 => ?_)
              · refine lv_aload_n hx hb dX7_read_207 rfl (lv_at hl 3 rfl) ?_
                refine lv_iload hx hb dX7_read_208 (lv_at hl 2 rfl) ?_
                refine g_put (v := .int (nI by1)) (ft := .int) C0 X kX7 0 26 tb823 rfl rfl rfl rfl rfl rfl rfl dX7_read_210 (fun H locs X => ?_)
                have X : Hx D zA zs H locs (mW tk h (u2 (u3 Mt 0 r1) 20 12 by1) hi la ce) := X
                refine lv_iload hx hb dX7_read_213 (lv_at hl 1 rfl) ?_
                have hE1 := rdJ_e hJ hcm (Or.inr (by omega))
                have hE3 := hE1.2.2
                rw [hE1.1] at hE3
                exact hE (v := nI came) r1 (by rw [a_read, if_pos (by rw [c2, c4, c5]; rfl), tn_nI (k := xq) (by omega), tn_nI (k := wq) (by omega), if_neg (by rw [hE1.2.1]; decide), hE1.1]) (by exact ⟨by rw [readV, if_pos (by rw [c2, c4, c5]; rfl), tn_nI (k := xq) (by omega), tn_nI (k := wq) (by omega), if_neg (by rw [hE1.2.1]; decide), hE1.1]; exact hv, hra.2⟩) (X.to (by rw [readF, if_pos (by rw [c2, c4, c5]; rfl), tn_nI (k := xq) (by omega), tn_nI (k := wq) (by omega), if_neg (by rw [hE1.2.1]; decide), hE1.1, ← hE3])) dX7_read_215
              · obtain rfl : by1 = 0 := c10
                refine lv_aload_n hx hb dX7_read_70 rfl (lv_at hl 3 rfl) ?_
                refine g_get (v := .ref (h 11)) C0 X kX7 0 23 tb820 rfl rfl rfl dX7_read_71 ?_
                refine lv_iload_n hx hb dX7_read_74 rfl (lv_at hl 4 rfl) ?_
                refine g_iald (v := la xq) (i := xq) C0 X 11 0 rfl rfl (by omega) rfl rfl dX7_read_75 ?_
                refine lv_bipush (v := (-4)) hx hb dX7_read_76 (by decide) ?_
                refine lv_icmp_ne (tgt := 85) hx hb dX7_read_78 rfl (fun c11 => ?_) (fun c12 => ?_)
                · refine lv_aload_n hx hb dX7_read_85 rfl (lv_at hl 3 rfl) ?_
                  refine g_get (v := .ref (h 11)) C0 X kX7 0 23 tb820 rfl rfl rfl dX7_read_86 ?_
                  refine lv_iload_n hx hb dX7_read_89 rfl (lv_at hl 4 rfl) ?_
                  refine g_iald (v := la xq) (i := xq) C0 X 11 0 rfl rfl (by omega) rfl rfl dX7_read_90 ?_
                  refine lv_iload_n hx hb dX7_read_91 rfl (lv_at hl 5 rfl) ?_
                  refine lv_icmp_eq (tgt := 99) hx hb dX7_read_92 rfl (fun c13 => ?_) (fun c14 => ?_)
                  · refine lv_iload_n hx hb dX7_read_99 rfl (lv_at hl 6 rfl) ?_
                    refine lv_i2l hx hb dX7_read_100 rfl ?_
                    refine lv_iload hx hb dX7_read_101 (lv_at hl 0 rfl) ?_
                    refine g_i2l C0 (by omega) dX7_read_103 ?_
                    refine lv_ladd hx hb dX7_read_104 ?_
                    refine g_lconst (n := 0) C0 rfl dX7_read_105 ?_
                    refine lv_aload_n hx hb dX7_read_106 rfl (lv_at hl 3 rfl) ?_
                    refine g_get (v := .ref (h 12)) C0 X kX7 0 24 tb821 rfl rfl rfl dX7_read_107 ?_
                    refine lv_iload_n hx hb dX7_read_110 rfl (lv_at hl 4 rfl) ?_
                    refine g_iald (v := nI (Mt 12 xq)) (i := xq) C0 X 12 0 rfl rfl (by omega) rfl rfl dX7_read_111 ?_
                    refine g_iconst (n := 1) C0 rfl dX7_read_112 ?_
                    refine lv_isub hx hb dX7_read_113 ?_
                    refine lv_i2l hx hb dX7_read_114 rfl ?_
                    refine g_callS (As := [.long ((Int32.toInt64 z) + (lN i)), .long (lN 0), .long (Int32.toInt64 ((nI (Mt 12 xq)) - (nI 1)))]) (rest := []) (wr := (mW tk h (u3 Mt 0 r1) hi la ce)) (C0.sz hl) X (c_X7_in l D tk ((Int32.toInt64 z) + (lN i)) (lN 0) (Int32.toInt64 ((nI (Mt 12 xq)) - (nI 1)))) ⟨tb885, tb887, tb8, ⟨by decide, by decide, rfl⟩, rfl, rfl, Nat.le_of_ble_eq_true rfl, Nat.le_of_ble_eq_true rfl⟩ tb886 rfl [] [0, 1, 2, 3, 4, 5, 6, 7, 8, 9, 10, 11, 12, 13] rfl rfl rfl rfl rfl (Nat.le_of_ble_eq_true rfl) ⟨Nat.le_of_ble_eq_true rfl, Nat.le_of_ble_eq_true rfl⟩ dX7_read_115 (fun _ H locs _ X => ?_)
                    have X : Hx D zA zs H locs (mW tk h (u3 Mt 0 r1) hi la ce) := X
                    refine g_top (y := nI (rb (fi z i (Mt 12 xq)))) (by rw [inL_fi z (by omega) (by have := hln xq (by omega); omega)]) ?_
                    refine g_ifneB (x := fi z i (Mt 12 xq)) (tgt := 125) C0 dX7_read_118 rfl (fun c15 => ?_) (fun c16 => ?_)
                    · refine g_iconst (n := 0) C0 rfl dX7_read_125 ?_
                      refine lv_istore (lv' := [(5, .int (nI 0)), (7, .int (nI i)), (6, .int (nI came)), (0, .ref (h 0)), (1, .int (nI xq)), (2, .int (nI yq)), (3, .int z), (4, .int (nI wq))]) hx hb dX7_read_126 hl (by decide) rfl (fun ls hl => ?_)
                      refine lv_iload hx hb dX7_read_128 (lv_at hl 0 rfl) ?_
                      refine g_ifne (x := 0) (tgt := 201) C0 (by decide) dX7_read_130 rfl (fun q => absurd q (by decide)) (fun _ => ?_)
                      refine lv_iload hx hb dX7_read_133 (lv_at hl 1 rfl) ?_
                      refine g_iconst (n := 3) C0 rfl dX7_read_135 ?_
                      refine g_irem (n := i % 3) C0 (by omega) rfl dX7_read_136 ?_
                      refine g_iconst (n := 2) C0 rfl dX7_read_137 ?_
                      refine g_icmp_ne (x := i % 3) (y := 2) (tgt := 201) C0 (by omega) (by omega) dX7_read_138 rfl (fun c19 => ?_) (fun c20 => ?_)
                      · refine g_iinc (j := 1) (z := i + 1) (lv' := [(7, .int (nI (i + 1))), (5, .int (nI 0)), (6, .int (nI came)), (0, .ref (h 0)), (1, .int (nI xq)), (2, .int (nI yq)), (3, .int z), (4, .int (nI wq))]) C0 rfl (by first | rfl | omega) dX7_read_201 hl (k := 1) rfl (by decide) rfl (fun ls hl => ?_)
                        refine lv_goto (tgt := 56) hx hb dX7_read_204 (by decide) ?_
                        exact ih56 0 came (i + 1) r1 (by omega) (by omega) (by first | omega | (have q := hJ.2 rfl; omega)) (by omega) (by exact hra) (by exact hv) (by exact rdJ_g hJ (hln xq (by omega)) c11 c13 c15 (by omega)) H locs ls X (lv_sub hl [0, 2, 1, 3, 4, 5, 6, 7] rfl)
                      · obtain ⟨-, -, fq, hzq, hfq9⟩ := rdH_s (hln xq (by omega)) c11 c13 (hJ.2 rfl).2.2 c15 (by omega)
                        subst hzq
                        have hfq : fq + i < Mt 12 xq := by omega
                        have hln9 := hln xq (by omega)
                        refine g_bipush (n := 40) C0 (by decide) dX7_read_141 ?_
                        refine lv_iload_n hx hb dX7_read_143 rfl (lv_at hl 4 rfl) ?_
                        refine g_imul (n := 40 * xq) C0 rfl dX7_read_144 ?_
                        refine lv_iload_n hx hb dX7_read_145 rfl (lv_at hl 6 rfl) ?_
                        refine g_iadd (n := (40 * xq) + fq) C0 (by first | rfl | omega) dX7_read_146 ?_
                        refine lv_iload hx hb dX7_read_147 (lv_at hl 1 rfl) ?_
                        refine g_iadd (n := ((40 * xq) + fq) + i) C0 (by first | rfl | omega) dX7_read_149 ?_
                        refine lv_istore (lv' := [(8, .int (nI (((40 * xq) + fq) + i))), (5, .int (nI 0)), (7, .int (nI i)), (6, .int (nI came)), (0, .ref (h 0)), (1, .int (nI xq)), (2, .int (nI yq)), (3, .int (nI fq)), (4, .int (nI wq))]) hx hb dX7_read_150 hl (by decide) rfl (fun ls hl => ?_)
                        have hi3 : i = 3 * came + 2 := by have := hJ.2 rfl; omega
                        have eat : tn (rdAt (nI fq) came) = fq + 3 * came := by rw [rdAt_n, tn_nI (by omega)]
                        have hT := rdJ_T hJ hv4
                        refine lv_aload_n hx hb dX7_read_152 rfl (lv_at hl 4 rfl) ?_
                        refine lv_aload_n hx hb dX7_read_153 rfl (lv_at hl 4 rfl) ?_
                        refine g_get (v := .ref (h 13)) C0 X kX7 0 25 tb822 rfl rfl rfl dX7_read_154 ?_
                        refine lv_iload hx hb dX7_read_157 (lv_at hl 0 rfl) ?_
                        refine g_iconst (n := 2) C0 rfl dX7_read_159 ?_
                        refine g_isub (n := (((40 * xq) + fq) + i) - 2) C0 (by omega) rfl dX7_read_160 ?_
                        refine g_iald (v := ce ((((40 * xq) + fq) + i) - 2)) (i := (((40 * xq) + fq) + i) - 2) C0 X 13 0 rfl rfl (by omega) rfl rfl dX7_read_161 ?_
                        refine lv_aload_n hx hb dX7_read_162 rfl (lv_at hl 4 rfl) ?_
                        refine g_get (v := .ref (h 13)) C0 X kX7 0 25 tb822 rfl rfl rfl dX7_read_163 ?_
                        refine lv_iload hx hb dX7_read_166 (lv_at hl 0 rfl) ?_
                        refine g_iconst (n := 1) C0 rfl dX7_read_168 ?_
                        refine g_isub (n := (((40 * xq) + fq) + i) - 1) C0 (by omega) rfl dX7_read_169 ?_
                        refine g_iald (v := ce ((((40 * xq) + fq) + i) - 1)) (i := (((40 * xq) + fq) + i) - 1) C0 X 13 0 rfl rfl (by omega) rfl rfl dX7_read_170 ?_
                        refine lv_aload_n hx hb dX7_read_171 rfl (lv_at hl 4 rfl) ?_
                        refine g_get (v := .ref (h 13)) C0 X kX7 0 25 tb822 rfl rfl rfl dX7_read_172 ?_
                        refine lv_iload hx hb dX7_read_175 (lv_at hl 0 rfl) ?_
                        refine g_iald (v := ce (((40 * xq) + fq) + i)) (i := ((40 * xq) + fq) + i) C0 X 13 0 rfl rfl (by omega) rfl rfl dX7_read_177 ?_
                        refine g_callV (As := [.int (ce ((((40 * xq) + fq) + i) - 2)), .int (ce ((((40 * xq) + fq) + i) - 1)), .int (ce (((40 * xq) + fq) + i))]) (rest := []) (wr := []) (C0.sz hl) X (c_X7_books l D tk h (u3 Mt 0 r1) hi la ce (ce ((((40 * xq) + fq) + i) - 2)) (ce ((((40 * xq) + fq) + i) - 1)) (ce (((40 * xq) + fq) + i)) (by exact hb1) (by have q := hv.2.2.2.1; rw [rdV_83] at q; have q2 : r1 62 = Mt 0 62 + came := q; have q3 : Mt 0 62 + came ≤ 6 := hT; show r1 62 ≤ 6; omega)) ⟨tb1047, tb1050, tb8, ⟨by decide, by decide, rfl⟩, rfl, rfl, Nat.le_of_ble_eq_true rfl, Nat.le_of_ble_eq_true rfl⟩ tb1049 tbs42 0 7 rfl rfl rfl rfl [0, 1, 2, 3, 4, 5, 6, 7, 8, 9, 10, 11, 12, 13] [] rfl rfl rfl rfl rfl (Nat.le_of_ble_eq_true rfl) ⟨Nat.le_of_ble_eq_true rfl, Nat.le_of_ble_eq_true rfl⟩ dX7_read_178 (fun _ H locs _ X => ?_)
                        have X : Hx D zA zs H locs (mW tk h (bookM (u3 Mt 0 r1) (ce ((((40 * xq) + fq) + i) - 2)) (ce ((((40 * xq) + fq) + i) - 1)) (ce (((40 * xq) + fq) + i))) hi la ce) := X
                        have hbe : 40 * xq + fq + i - 2 = 40 * xq + (fq + 3 * came) ∧ 40 * xq + fq + i - 1 = 40 * xq + (fq + 3 * came + 1) ∧ 40 * xq + fq + i = 40 * xq + (fq + 3 * came + 2) := by omega
                        have hbk := rdOk_of (v := pgv Mt 0) (f := nI fq) (ce := (fun j => ce (40 * xq + j))) (c := came) hT eat
                        have hbq := a_book_eq hv (ce (40 * xq + fq + i - 2)) (ce (40 * xq + fq + i - 1)) (ce (40 * xq + fq + i))
                        have hr62 : r1 62 ≤ 6 := by have q := hv.2.2.2.1; rw [rdV_83] at q; have q2 : r1 62 = Mt 0 62 + came := q; have q3 : Mt 0 62 + came ≤ 6 := hT; omega
                        refine lv_if_ge (tgt := 198) hx hb dX7_read_181 rfl (fun c21 => ?_) (fun c22 => ?_)
                        · have hye : 0 ≤ a_book (pgv (u3 Mt 0 r1) 0) (ce (40 * xq + fq + i - 2)) (ce (40 * xq + fq + i - 1)) (ce (40 * xq + fq + i)) := c21
                          have hok : rdOk (pgv Mt 0 8 0) (pgv Mt 0 8 3) (fun j => ce (40 * xq + j)) (nI fq) came = true := hbk.mp (by rw [hbq, hbe.1, hbe.2.1, hbe.2.2] at hye; exact hye)
                          have hbm := bookM_y (M := u3 Mt 0 r1) hr62 hye
                          have hlt : Mt 0 62 + came < 6 := by have q := hv.2.2.2.1; rw [rdV_83] at q; have q2 : r1 62 = Mt 0 62 + came := q; have q3 : r1 62 < 6 := hbm.2.1; omega
                          rw [hbm.1, addM_0, u33] at X
                          have X : Hx D zA zs H locs (mW tk h (u3 Mt 0 (addM (u3 Mt 0 r1) (tn (ce (40 * xq + fq + i - 2))) (tn (ce (40 * xq + fq + i - 1))) (tn (ce (40 * xq + fq + i))) 0)) hi la ce) := X
                          have hv2 : VEq (pgv (u3 Mt 0 (addM (u3 Mt 0 r1) (tn (ce (40 * xq + fq + i - 2))) (tn (ce (40 * xq + fq + i - 1))) (tn (ce (40 * xq + fq + i))) 0)) 0) (rdV (pgv Mt 0) (nI fq) (fun j => ce (40 * xq + j)) (came + 1)) := by
                            have q := pg_add (a := tn (ce (40 * xq + fq + i - 2))) (b := tn (ce (40 * xq + fq + i - 1))) (c := tn (ce (40 * xq + fq + i))) (by rw [rdV_83]; exact hlt) (by rw [(rdV_8 _ _ _ _).2]; exact hv2x) (by rw [(rdV_8 _ _ _ _).1]; exact hv1) hv
                            rw [hbe.1, hbe.2.1, hbe.2.2] at q ⊢
                            show VEq _ (addv (rdV (pgv Mt 0) (nI fq) (fun j => ce (40 * xq + j)) came) (tn ((fun j => ce (40 * xq + j)) (tn (rdAt (nI fq) came)))) (tn ((fun j => ce (40 * xq + j)) (tn (rdAt (nI fq) came) + 1))) (tn ((fun j => ce (40 * xq + j)) (tn (rdAt (nI fq) came) + 2))))
                            rw [eat]; exact q
                          refine g_iinc (j := 1) (z := came + 1) (lv' := [(6, .int (nI (came + 1))), (8, .int (nI (((40 * xq) + fq) + i))), (5, .int (nI 0)), (7, .int (nI i)), (0, .ref (h 0)), (1, .int (nI xq)), (2, .int (nI yq)), (3, .int (nI fq)), (4, .int (nI wq))]) C0 rfl (by first | rfl | omega) dX7_read_198 hl (k := 3) rfl (by decide) rfl (fun ls hl => ?_)
                          refine g_iinc (j := 1) (z := i + 1) (lv' := [(7, .int (nI (i + 1))), (6, .int (nI (came + 1))), (8, .int (nI (((40 * xq) + fq) + i))), (5, .int (nI 0)), (0, .ref (h 0)), (1, .int (nI xq)), (2, .int (nI yq)), (3, .int (nI fq)), (4, .int (nI wq))]) C0 rfl (by first | rfl | omega) dX7_read_201 hl (k := 3) rfl (by decide) rfl (fun ls hl => ?_)
                          refine lv_goto (tgt := 56) hx hb dX7_read_204 (by decide) ?_
                          exact ih56 0 (came + 1) (i + 1) (addM (u3 Mt 0 r1) (tn (ce (40 * xq + fq + i - 2))) (tn (ce (40 * xq + fq + i - 1))) (tn (ce (40 * xq + fq + i))) 0) (by omega) (by omega) (by first | omega | (have q := hJ.2 rfl; omega)) (by omega) (by exact hra.add hbm.2.1) (by exact hv2) (by exact rdJ_s hJ (by omega) (hln xq (by omega)) c11 (hla9 c11) c13 hfq c20 hok) H locs ls X (lv_sub hl [0, 1, 3, 4, 5, 6, 7, 8] rfl)
                        · have hno : ¬ 0 ≤ a_book (pgv (u3 Mt 0 r1) 0) (ce (40 * xq + fq + i - 2)) (ce (40 * xq + fq + i - 1)) (ce (40 * xq + fq + i)) := fun q => c22 q
                          have hnk : ¬ rdOk (pgv Mt 0 8 0) (pgv Mt 0 8 3) (fun j => ce (40 * xq + j)) (nI fq) came = true := fun q => hno (by rw [hbq, hbe.1, hbe.2.1, hbe.2.2]; exact hbk.mpr q)
                          have hbJ := rdJ_b hJ (by omega) hln9 c11 (hla9 c11) c13 hfq c20 hnk
                          have hbm := bookM_f (M := u3 Mt 0 r1) hr62 hno
                          rw [hbm] at X
                          have X : Hx D zA zs H locs (mW tk h (u3 Mt 0 r1) hi la ce) := X
                          refine lv_aload_n hx hb dX7_read_184 rfl (lv_at hl 4 rfl) ?_
                          refine g_sipush (n := 189) C0 (by decide) dX7_read_185 ?_
                          refine g_iconst (n := 0) C0 rfl dX7_read_188 ?_
                          refine g_callV (As := [.int (nI 189), .int (nI 0)]) (rest := []) (wr := []) (C0.sz hl) X (c_X7_copies l D tk h (u3 Mt 0 r1) hi la ce 189 0 (by omega) (by omega) (by omega)) ⟨tb1096, tb1099, tb8, ⟨by decide, by decide, rfl⟩, rfl, rfl, Nat.le_of_ble_eq_true rfl, Nat.le_of_ble_eq_true rfl⟩ tb1098 tbs46 0 7 rfl rfl rfl rfl [0, 1, 2, 3, 4, 5, 6, 7, 8, 9, 10, 11, 12, 13] [] rfl rfl rfl rfl rfl (Nat.le_of_ble_eq_true rfl) ⟨Nat.le_of_ble_eq_true rfl, Nat.le_of_ble_eq_true rfl⟩ dX7_read_189 (fun _ H locs _ X => ?_)
                          have X : Hx D zA zs H locs (mW tk h (u3 Mt 0 (pcopy ((u3 Mt 0 r1) 0) 189 0 63)) hi la ce) := X
                          refine lv_bipush (v := (-20)) hx hb dX7_read_192 (by decide) ?_
                          refine lv_iload hx hb dX7_read_194 (lv_at hl 3 rfl) ?_
                          refine lv_isub hx hb dX7_read_196 ?_
                          exact hE (v := (-20) - (nI came)) (pcopy ((u3 Mt 0 r1) 0) 189 0 63) (by rw [a_read, if_pos (by rw [c2, c4, c5]; rfl), tn_nI (k := xq) (by omega), tn_nI (k := wq) (by omega), if_pos hbJ.2, hbJ.1]) (by exact ⟨by rw [readV, if_pos (by rw [c2, c4, c5]; rfl), tn_nI (k := xq) (by omega), tn_nI (k := wq) (by omega), if_pos hbJ.2]; exact pg_back hW hra, hra.bk⟩) (X.to (by rw [readF, if_pos (by rw [c2, c4, c5]; rfl), tn_nI (k := xq) (by omega), tn_nI (k := wq) (by omega), if_pos hbJ.2]; rw [u32_id])) dX7_read_197
                    · refine g_iconst (n := 2) C0 rfl dX7_read_121 ?_
                      refine lv_goto (tgt := 126) hx hb dX7_read_122 (by decide) ?_
                      refine lv_istore (lv' := [(5, .int (nI 2)), (7, .int (nI i)), (6, .int (nI came)), (0, .ref (h 0)), (1, .int (nI xq)), (2, .int (nI yq)), (3, .int z), (4, .int (nI wq))]) hx hb dX7_read_126 hl (by decide) rfl (fun ls hl => ?_)
                      refine lv_iload hx hb dX7_read_128 (lv_at hl 0 rfl) ?_
                      refine g_ifne (x := 2) (tgt := 201) C0 (by decide) dX7_read_130 rfl (fun _ => ?_) (fun q => absurd q (by decide))
                      refine g_iinc (j := 1) (z := i + 1) (lv' := [(7, .int (nI (i + 1))), (5, .int (nI 2)), (6, .int (nI came)), (0, .ref (h 0)), (1, .int (nI xq)), (2, .int (nI yq)), (3, .int z), (4, .int (nI wq))]) C0 rfl (by first | rfl | omega) dX7_read_201 hl (k := 1) rfl (by decide) rfl (fun ls hl => ?_)
                      refine lv_goto (tgt := 56) hx hb dX7_read_204 (by decide) ?_
                      exact ih56 2 came (i + 1) r1 (by omega) (by omega) (by first | omega | (have q := hJ.2 rfl; omega)) (by omega) (by exact hra) (by exact hv) (by exact rdJ_f hJ (by omega) (by decide) (rd2 c11 (hla9 c11) c13 (hln xq (by omega)) ⟨(hJ.2 rfl).1, (hJ.2 rfl).2.1⟩ (hJ.2 rfl).2.2 c16)) H locs ls X (lv_sub hl [0, 2, 1, 3, 4, 5, 6, 7] rfl)
                  · refine g_iconst (n := 3) C0 rfl dX7_read_95 ?_
                    refine lv_goto (tgt := 126) hx hb dX7_read_96 (by decide) ?_
                    refine lv_istore (lv' := [(5, .int (nI 3)), (7, .int (nI i)), (6, .int (nI came)), (0, .ref (h 0)), (1, .int (nI xq)), (2, .int (nI yq)), (3, .int z), (4, .int (nI wq))]) hx hb dX7_read_126 hl (by decide) rfl (fun ls hl => ?_)
                    refine lv_iload hx hb dX7_read_128 (lv_at hl 0 rfl) ?_
                    refine g_ifne (x := 3) (tgt := 201) C0 (by decide) dX7_read_130 rfl (fun _ => ?_) (fun q => absurd q (by decide))
                    refine g_iinc (j := 1) (z := i + 1) (lv' := [(7, .int (nI (i + 1))), (5, .int (nI 3)), (6, .int (nI came)), (0, .ref (h 0)), (1, .int (nI xq)), (2, .int (nI yq)), (3, .int z), (4, .int (nI wq))]) C0 rfl (by first | rfl | omega) dX7_read_201 hl (k := 1) rfl (by decide) rfl (fun ls hl => ?_)
                    refine lv_goto (tgt := 56) hx hb dX7_read_204 (by decide) ?_
                    exact ih56 3 came (i + 1) r1 (by omega) (by omega) (by first | omega | (have q := hJ.2 rfl; omega)) (by omega) (by exact hra) (by exact hv) (by exact rdJ_f hJ (by omega) (by decide) (rd3 c11 (hla9 c11) c14)) H locs ls X (lv_sub hl [0, 2, 1, 3, 4, 5, 6, 7] rfl)
                · refine g_iconst (n := 1) C0 rfl dX7_read_81 ?_
                  refine lv_goto (tgt := 126) hx hb dX7_read_82 (by decide) ?_
                  refine lv_istore (lv' := [(5, .int (nI 1)), (7, .int (nI i)), (6, .int (nI came)), (0, .ref (h 0)), (1, .int (nI xq)), (2, .int (nI yq)), (3, .int z), (4, .int (nI wq))]) hx hb dX7_read_126 hl (by decide) rfl (fun ls hl => ?_)
                  refine lv_iload hx hb dX7_read_128 (lv_at hl 0 rfl) ?_
                  refine g_ifne (x := 1) (tgt := 201) C0 (by decide) dX7_read_130 rfl (fun _ => ?_) (fun q => absurd q (by decide))
                  refine g_iinc (j := 1) (z := i + 1) (lv' := [(7, .int (nI (i + 1))), (5, .int (nI 1)), (6, .int (nI came)), (0, .ref (h 0)), (1, .int (nI xq)), (2, .int (nI yq)), (3, .int z), (4, .int (nI wq))]) C0 rfl (by first | rfl | omega) dX7_read_201 hl (k := 1) rfl (by decide) rfl (fun ls hl => ?_)
                  refine lv_goto (tgt := 56) hx hb dX7_read_204 (by decide) ?_
                  exact ih56 1 came (i + 1) r1 (by omega) (by omega) (by first | omega | (have q := hJ.2 rfl; omega)) (by omega) (by exact hra) (by exact hv) (by exact rdJ_f hJ (by omega) (by decide) (rd1 c12)) H locs ls X (lv_sub hl [0, 2, 1, 3, 4, 5, 6, 7] rfl)
        exact J56 ((3 * wq - 0) + 1) 0 0 0 (pcopy (Mt 0) 0 189 63) (Nat.lt_succ_self _) (by omega) (by omega) (by omega) (by exact RA.cp _) (by exact pg_aside hW) (by exact rdJ_0 _ _ _ _ _ _ _) H locs ls X (lv_sub hl [0, 1, 2, 3, 4, 5, 6, 7] rfl)
      · refine lv_iconst (v := (-1)) hx hb dX7_read_37 (by decide) ?_
        exact hE (v := (-1)) (Mt 0) (by rw [a_read, if_neg (by simp [c2, c4, c6])]) (by exact ⟨by rw [readV, if_neg (by simp [c2, c4, c6])]; exact VEq.rf _, fun j _ _ => rfl⟩) (X.to (by rw [readF, if_neg (by simp [c2, c4, c6])]; rw [u32_id, u3_id])) dX7_read_38
