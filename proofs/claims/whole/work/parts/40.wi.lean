set_option maxHeartbeats 4000000 in
set_option maxRecDepth 100000 in
theorem c_X7_drift (l : Launch) (D : va_G) (tk : Nat → ClassId) (h : Nat → Nat) (Mt : Nat → Nat → Nat) (hi : Int32) (la ce : Nat → Int32) (x y z : Int32) (hW : VW (pgv Mt 0)) : MX l yX7_drift cX7_drift 10 (some .int) ⟨4, 0, 0, 95⟩ D (TYS tk) [.ref (h 0), .int x, .int y, .int z] (mW tk h Mt hi la ce) (fun (u : (Nat → Nat) × (Nat → Nat) × (Nat → Nat)) => RK (Mt 0) u.1) (fun u => some (.int (a_drift (pgv Mt 0) x y z))) (fun u => mW tk h (u3 (u3 (u3 Mt 0 u.1) 6 u.2.1) 7 u.2.2) hi la ce) 0 0 := by
  refine MX.of_i (by decide) rfl ?_
  intro zp ze zs zm za zb zt zc zA zQ ls C0 hnm X hl hE
  have hx := C0.1
  have hb := C0.2.1
  have ht := C0.2.2.2.2.1
  have X : Hx D zA zs zs.heap [] (mW tk h Mt hi la ce) := X
  have hl : lv_has ls 10 [(0, .ref (h 0)), (1, .int x), (2, .int y), (3, .int z)] := hl
  obtain ⟨hv1, hv2, hv3, hv4, hv5, hv6, hv7⟩ := id hW
  have hb1 : Mt 20 0 ≤ 6 := hv1
  have hb2 : Mt 0 42 ≤ 9 := hv2
  have hb3 : Mt 0 43 ≤ 20 := hv3
  have hb4 : Mt 0 62 ≤ 6 := hv4
  have hkd : ∀ t, t < Mt 20 0 → Mt 0 t ≤ 3 := fun t ht => by have q := hv5 t ht; rw [pv0] at q; exact q
  have hrt : ∀ i, i < Mt 0 42 → Mt 0 (6 + i) < Mt 20 0 ∧ Mt 0 (15 + i) < Mt 20 0 ∧ Mt 0 (6 + i) ≠ Mt 0 (15 + i) ∧ 1 ≤ Mt 0 (24 + i) ∧ Mt 0 (24 + i) ≤ 9 ∧ Mt 0 (33 + i) ≤ 1 := fun i hi => hv6 i hi
  have htk : ∀ k, k < Mt 0 62 → Mt 0 (44 + k) ≤ 23 ∧ Mt 0 (50 + k) < Mt 20 0 ∧ 1 ≤ Mt 0 (56 + k) ∧ Mt 0 (56 + k) ≤ 60 := fun k hk => hv7 k hk
  obtain ⟨H, hH⟩ : ∃ H, H = zs.heap := ⟨_, rfl⟩
  rw [← hH] at X ⊢
  obtain ⟨locs, hlo⟩ : ∃ L : List Loc, L = [] := ⟨_, rfl⟩
  rw [← hlo] at X ⊢
  refine lv_iload_n hx hb dX7_drift_0 rfl (lv_at hl 2 rfl) ?_
  refine lv_i2l hx hb dX7_drift_1 rfl ?_
  refine g_lconst (n := 1) C0 rfl dX7_drift_2 ?_
  refine lv_ldc2 (v := lN 60) hx hb C0.2.2.2.1 (ht _ tb1012) dX7_drift_3 ?_
  refine g_callS (As := [.long (Int32.toInt64 y), .long (lN 1), .long (lN 60)]) (rest := []) (wr := (mW tk h Mt hi la ce)) (C0.sz hl) X (c_X7_in l D tk (Int32.toInt64 y) (lN 1) (lN 60)) ⟨tb885, tb887, tb8, ⟨by decide, by decide, rfl⟩, rfl, rfl, Nat.le_of_ble_eq_true rfl, Nat.le_of_ble_eq_true rfl⟩ tb886 rfl [] [0, 1, 2, 3, 4, 5, 6, 7, 8, 9, 10, 11, 12, 13] rfl rfl rfl rfl rfl (Nat.le_of_ble_eq_true rfl) ⟨Nat.le_of_ble_eq_true rfl, Nat.le_of_ble_eq_true rfl⟩ dX7_drift_6 (fun _ H locs _ X => ?_)
  have X : Hx D zA zs H locs (mW tk h Mt hi la ce) := X
  refine g_top (y := nI (rb (rg y 1 60))) (by rw [inL_rg y (by first | decide | omega) (by first | decide | omega)]) ?_
  refine g_ifeqB (x := rg y 1 60) (tgt := 22) C0 dX7_drift_9 rfl (fun c1 => ?_) (fun c2 => ?_)
  · refine lv_iconst (v := (-1)) hx hb dX7_drift_22 (by decide) ?_
    exact hE (v := (-1)) (Mt 0, Mt 6, Mt 7) (by simp only [a_drift, c1, pv80, pv81, pv82, pv83, pv0, pv1, pv2, pv3, pv4, pv5, pv6, pv7, eq_self, ne01, ne02, ne03, ne04, ne05, ne10, ne12, ne13, ne14, ne15, ne20, ne21, ne23, ne24, ne25, ne30, ne31, ne32, ne34, ne35, ne40, ne41, ne42, ne43, ne45, ne50, ne51, ne52, ne53, ne54, if_true, if_false, Bool.false_eq_true, Bool.and_self, Bool.and_true, Bool.and_false, Bool.true_and, Bool.false_and, Bool.not_true, Bool.not_false, decide_true, decide_false] <;> rfl) (by exact RK.rf _) X dX7_drift_23
  · obtain ⟨yq, hk_yqa, hk_yqb, hk_yqc, rfl⟩ := rg_sp c2
    refine lv_iload_n hx hb dX7_drift_12 rfl (lv_at hl 3 rfl) ?_
    refine lv_i2l hx hb dX7_drift_13 rfl ?_
    refine g_lconst (n := 0) C0 rfl dX7_drift_14 ?_
    refine g_lconst (n := 1) C0 rfl dX7_drift_15 ?_
    refine g_callS (As := [.long (Int32.toInt64 z), .long (lN 0), .long (lN 1)]) (rest := []) (wr := (mW tk h Mt hi la ce)) (C0.sz hl) X (c_X7_in l D tk (Int32.toInt64 z) (lN 0) (lN 1)) ⟨tb885, tb887, tb8, ⟨by decide, by decide, rfl⟩, rfl, rfl, Nat.le_of_ble_eq_true rfl, Nat.le_of_ble_eq_true rfl⟩ tb886 rfl [] [0, 1, 2, 3, 4, 5, 6, 7, 8, 9, 10, 11, 12, 13] rfl rfl rfl rfl rfl (Nat.le_of_ble_eq_true rfl) ⟨Nat.le_of_ble_eq_true rfl, Nat.le_of_ble_eq_true rfl⟩ dX7_drift_16 (fun _ H locs _ X => ?_)
    have X : Hx D zA zs H locs (mW tk h Mt hi la ce) := X
    refine g_top (y := nI (rb (rg z 0 1))) (by rw [inL_rg z (by first | decide | omega) (by first | decide | omega)]) ?_
    refine g_ifneB (x := rg z 0 1) (tgt := 24) C0 dX7_drift_19 rfl (fun c3 => ?_) (fun c4 => ?_)
    · obtain ⟨zq, hk_zqa, hk_zqb, hk_zqc, rfl⟩ := rg_sp c3
      refine lv_aload_n hx hb dX7_drift_24 rfl (lv_at hl 0 rfl) ?_
      refine g_get (v := .ref (h 1)) C0 X kX7 0 0 tb797 rfl rfl rfl dX7_drift_25 ?_
      refine g_bipush (n := 42) C0 (by decide) dX7_drift_28 ?_
      refine g_iald (v := nI (Mt 0 42)) (i := 42) C0 X 1 0 rfl rfl (by omega) rfl rfl dX7_drift_30 ?_
      refine g_ifne (x := Mt 0 42) (tgt := 37) C0 (by omega) dX7_drift_31 rfl (fun c5 => ?_) (fun c6 => ?_)
      · refine lv_aload_n hx hb dX7_drift_37 rfl (lv_at hl 0 rfl) ?_
        refine g_iconst (n := 0) C0 rfl dX7_drift_38 ?_
        refine g_sipush (n := 252) C0 (by decide) dX7_drift_39 ?_
        refine g_callV (As := [.int (nI 0), .int (nI 252)]) (rest := []) (wr := []) (C0.sz hl) X (c_X7_copies l D tk h Mt hi la ce 0 252 (by omega) (by omega) (by omega)) ⟨tb1096, tb1099, tb8, ⟨by decide, by decide, rfl⟩, rfl, rfl, Nat.le_of_ble_eq_true rfl, Nat.le_of_ble_eq_true rfl⟩ tb1098 tbs46 0 7 rfl rfl rfl rfl [0, 1, 2, 3, 4, 5, 6, 7, 8, 9, 10, 11, 12, 13] [] rfl rfl rfl rfl rfl (Nat.le_of_ble_eq_true rfl) ⟨Nat.le_of_ble_eq_true rfl, Nat.le_of_ble_eq_true rfl⟩ dX7_drift_42 (fun _ H locs _ X => ?_)
        have X : Hx D zA zs H locs (mW tk h (u3 Mt 0 (pcopy (Mt 0) 0 252 63)) hi la ce) := X
        refine lv_iload_n hx hb dX7_drift_45 rfl (lv_at hl 1 rfl) ?_
        refine lv_istore (lv' := [(4, .int x), (0, .ref (h 0)), (1, .int x), (2, .int (nI yq)), (3, .int (nI zq))]) hx hb dX7_drift_46 hl (by decide) rfl (fun ls hl => ?_)
        refine g_iconst (n := 0) C0 rfl dX7_drift_48 ?_
        refine lv_istore (lv' := [(5, .int (nI 0)), (4, .int x), (0, .ref (h 0)), (1, .int x), (2, .int (nI yq)), (3, .int (nI zq))]) hx hb dX7_drift_49 hl (by decide) rfl (fun ls hl => ?_)
        refine g_iconst (n := 0) C0 rfl dX7_drift_51 ?_
        refine lv_istore (lv' := [(6, .int (nI 0)), (5, .int (nI 0)), (4, .int x), (0, .ref (h 0)), (1, .int x), (2, .int (nI yq)), (3, .int (nI zq))]) hx hb dX7_drift_52 hl (by decide) rfl (fun ls hl => ?_)
        refine g_iconst (n := 0) C0 rfl dX7_drift_54 ?_
        refine lv_istore (lv' := [(7, .int (nI 0)), (6, .int (nI 0)), (5, .int (nI 0)), (4, .int x), (0, .ref (h 0)), (1, .int x), (2, .int (nI yq)), (3, .int (nI zq))]) hx hb dX7_drift_55 hl (by decide) rfl (fun ls hl => ?_)
        have J57 : ∀ (fz : Nat) (i sm la1 : Nat) (st1 : Int32) (r1 d1 e1 : Nat → Nat), yq - i < fz → ∀ (hi1 : i ≤ yq) (hst : st1 = drs x i) (hr : RK (Mt 0) r1) (hv : VEq (pgv (u3 Mt 0 r1) 252) (drv (pgv Mt 0) x i)) (hsm : sm = nsum (fun k => hearersS (drv (pgv Mt 0) x (k + 1))) i) (hla : 0 < i → la1 = hearersS (drv (pgv Mt 0) x i)) (H : Heap) (locs : List Loc) (ls : Array Slot), Hx D zA zs H locs (mW tk h (u3 (u3 (u3 Mt 0 r1) 6 d1) 7 e1) hi la ce) → lv_has ls 10 [(7, .int (nI i)), (6, .int (nI la1)), (5, .int (nI sm)), (4, .int st1), (0, .ref (h 0)), (1, .int x), (2, .int (nI yq)), (3, .int (nI zq))] → W zp l ze ⟨4, 0, 0, 95⟩ zs zm za zb zt zc H locs 0 0 zQ (F0 zm 57 ls []) := by
          intro fz
          induction fz with
          | zero => intro i sm la1 st1 r1 d1 e1 hz; exact absurd hz (Nat.not_lt_zero _)
          | succ fz ih57 =>
            intro i sm la1 st1 r1 d1 e1 hz57 hi1 hst hr hv hsm hla H locs ls X hl
            refine lv_iload hx hb dX7_drift_57 (lv_at hl 0 rfl) ?_
            refine lv_iload_n hx hb dX7_drift_59 rfl (lv_at hl 6 rfl) ?_
            refine g_icmp_ge (x := i) (y := yq) (tgt := 155) C0 (by omega) (by omega) dX7_drift_60 rfl (fun c7 => ?_) (fun c8 => ?_)
            · refine lv_iload_n hx hb dX7_drift_155 rfl (lv_at hl 7 rfl) ?_
              refine g_ifne (x := zq) (tgt := 164) C0 (by omega) dX7_drift_156 rfl (fun c9 => ?_) (fun c10 => ?_)
              · refine lv_iload hx hb dX7_drift_164 (lv_at hl 1 rfl) ?_
                exact hE (v := nI la1) (r1, d1, e1) (by rw [a_drift, if_pos (by rw [c2, c3]; rfl), pv81, if_neg (by omega), tn_nI (k := yq) (by omega), tn_nI (k := zq) (by omega), if_neg (by omega), hla (by omega), show yq = i by omega]) (by exact hr) X dX7_drift_166
              · refine lv_iload hx hb dX7_drift_159 (lv_at hl 2 rfl) ?_
                refine lv_goto (tgt := 166) hx hb dX7_drift_161 (by decide) ?_
                exact hE (v := nI sm) (r1, d1, e1) (by rw [a_drift, if_pos (by rw [c2, c3]; rfl), pv81, if_neg (by omega), tn_nI (k := yq) (by omega), tn_nI (k := zq) (by omega), if_pos c10, hsm, show yq = i by omega]) (by exact hr) X dX7_drift_166
            · refine lv_iload hx hb dX7_drift_63 (lv_at hl 3 rfl) ?_
              refine lv_ldc (v := (1103515245 : Int32)) hx hb C0.2.2.2.1 (ht _ tb1178) dX7_drift_65 ?_
              refine lv_imul hx hb dX7_drift_67 ?_
              refine g_sipush (n := 12345) C0 (by decide) dX7_drift_68 ?_
              refine lv_iadd hx hb dX7_drift_71 ?_
              obtain ⟨st2, est2⟩ : ∃ z, z = (st1 * (1103515245 : Int32)) + (nI 12345) := ⟨_, rfl⟩
              refine g_top (y := st2) est2.symm ?_
              refine lv_istore (lv' := [(4, .int st2), (7, .int (nI i)), (6, .int (nI la1)), (5, .int (nI sm)), (0, .ref (h 0)), (1, .int x), (2, .int (nI yq)), (3, .int (nI zq))]) hx hb dX7_drift_72 hl (by decide) rfl (fun ls hl => ?_)
              refine lv_iload hx hb dX7_drift_74 (lv_at hl 0 rfl) ?_
              refine g_bipush (n := 16) C0 (by decide) dX7_drift_76 ?_
              refine lv_ishr hx hb dX7_drift_78 ?_
              refine g_sipush (n := 32767) C0 (by decide) dX7_drift_79 ?_
              refine lv_iand hx hb dX7_drift_82 ?_
              obtain ⟨g1, hg1⟩ : ∃ z, z = gotS st2 := ⟨_, rfl⟩
              refine g_top (y := nI g1) (by rw [hg1]; exact pk_and _ 15 (by decide)) ?_
              have hgl : g1 < 32768 := by rw [hg1]; exact gotS_lt st2
              have hmod := Nat.mod_lt g1 (show 0 < Mt 0 42 by omega)
              refine lv_istore (lv' := [(8, .int (nI g1)), (4, .int st2), (7, .int (nI i)), (6, .int (nI la1)), (5, .int (nI sm)), (0, .ref (h 0)), (1, .int x), (2, .int (nI yq)), (3, .int (nI zq))]) hx hb dX7_drift_83 hl (by decide) rfl (fun ls hl => ?_)
              refine g_sipush (n := 285) C0 (by decide) dX7_drift_85 ?_
              refine lv_iload hx hb dX7_drift_88 (lv_at hl 0 rfl) ?_
              refine lv_aload_n hx hb dX7_drift_90 rfl (lv_at hl 5 rfl) ?_
              refine g_get (v := .ref (h 1)) C0 X kX7 0 0 tb797 rfl rfl rfl dX7_drift_91 ?_
              refine g_bipush (n := 42) C0 (by decide) dX7_drift_94 ?_
              refine g_iald (v := nI (r1 42)) (i := 42) C0 X 1 0 rfl rfl (by omega) rfl rfl dX7_drift_96 ?_
              refine g_top (y := nI (Mt 0 42)) (by rw [hr 42 (by decide)]) ?_
              refine g_irem (n := g1 % (Mt 0 42)) C0 (by omega) rfl dX7_drift_97 ?_
              refine g_iadd (n := 285 + (g1 % (Mt 0 42))) C0 (by first | rfl | omega) dX7_drift_98 ?_
              have hvi := hv.2.2.2.2.2.1 (g1 % Mt 0 42) (by rw [hv.2.1, (drv_80 (pgv Mt 0) x i).2.1]; exact hmod)
              have hvW := drv_w hW x i
              have hv1x : r1 (285 + g1 % Mt 0 42) ≤ 1 := by have q := (hvW.2.2.2.2.2.1 (g1 % Mt 0 42) (by rw [(drv_80 (pgv Mt 0) x i).2.1]; exact hmod)).2.2.2.2.2; rw [← hvi.2.2.2] at q; exact q
              refine lv_istore (lv' := [(9, .int (nI (285 + (g1 % (Mt 0 42))))), (8, .int (nI g1)), (4, .int st2), (7, .int (nI i)), (6, .int (nI la1)), (5, .int (nI sm)), (0, .ref (h 0)), (1, .int x), (2, .int (nI yq)), (3, .int (nI zq))]) hx hb dX7_drift_99 hl (by decide) rfl (fun ls hl => ?_)
              refine lv_aload_n hx hb dX7_drift_101 rfl (lv_at hl 6 rfl) ?_
              refine g_get (v := .ref (h 1)) C0 X kX7 0 0 tb797 rfl rfl rfl dX7_drift_102 ?_
              refine lv_iload hx hb dX7_drift_105 (lv_at hl 0 rfl) ?_
              refine g_iconst (n := 1) C0 rfl dX7_drift_107 ?_
              refine lv_aload_n hx hb dX7_drift_108 rfl (lv_at hl 6 rfl) ?_
              refine g_get (v := .ref (h 1)) C0 X kX7 0 0 tb797 rfl rfl rfl dX7_drift_109 ?_
              refine lv_iload hx hb dX7_drift_112 (lv_at hl 0 rfl) ?_
              refine g_iald (v := nI (r1 (285 + (g1 % (Mt 0 42))))) (i := 285 + (g1 % (Mt 0 42))) C0 X 1 0 rfl rfl (by omega) rfl rfl dX7_drift_114 ?_
              refine g_isub (n := 1 - (r1 (285 + (g1 % (Mt 0 42))))) C0 (by omega) rfl dX7_drift_115 ?_
              refine g_iast (g := nf (u1 r1 (285 + (g1 % (Mt 0 42))) (1 - (r1 (285 + (g1 % (Mt 0 42))))))) (i := 285 + (g1 % (Mt 0 42))) C0 X 1 0 rfl rfl (by omega) rfl (nf_u1 _ _ _) dX7_drift_116 (fun H locs X => ?_)
              have X : Hx D zA zs H locs (mW tk h (u2 (u3 (u3 (u3 Mt 0 r1) 6 d1) 7 e1) 0 (285 + (g1 % (Mt 0 42))) (1 - (r1 (285 + (g1 % (Mt 0 42)))))) hi la ce) := X
              refine lv_aload_n hx hb dX7_drift_117 rfl (lv_at hl 6 rfl) ?_
              refine g_get (v := .ref (h 1)) C0 X kX7 0 0 tb797 rfl rfl rfl dX7_drift_118 ?_
              refine g_sipush (n := 295) C0 (by decide) dX7_drift_121 ?_
              refine lv_iload hx hb dX7_drift_124 (lv_at hl 1 rfl) ?_
              refine g_bipush (n := 16) C0 (by decide) dX7_drift_126 ?_
              refine g_idiv (n := g1 / 16) C0 (by omega) rfl dX7_drift_128 ?_
              refine g_bipush (n := 21) C0 (by decide) dX7_drift_129 ?_
              refine g_irem (n := (g1 / 16) % 21) C0 (by omega) rfl dX7_drift_131 ?_
              refine g_iast (g := nf (u1 (u1 r1 (285 + (g1 % (Mt 0 42))) (1 - (r1 (285 + (g1 % (Mt 0 42)))))) 295 ((g1 / 16) % 21))) (i := 295) C0 X 1 0 rfl rfl (by omega) rfl (nf_u1 _ _ _) dX7_drift_132 (fun H locs X => ?_)
              have X : Hx D zA zs H locs (mW tk h (u2 (u2 (u3 (u3 (u3 Mt 0 r1) 6 d1) 7 e1) 0 (285 + (g1 % (Mt 0 42))) (1 - (r1 (285 + (g1 % (Mt 0 42)))))) 0 295 ((g1 / 16) % 21)) hi la ce) := X
              have hv2 := pg_tog (i := g1 % Mt 0 42) (x := g1 / 16 % 21) hvW (by rw [(drv_80 (pgv Mt 0) x i).2.1]; exact hmod) hv
              have hv3 : VEq (pgv (u3 Mt 0 (u1 (u1 r1 (285 + g1 % Mt 0 42) (1 - r1 (285 + g1 % Mt 0 42))) 295 (g1 / 16 % 21))) 252) (drv (pgv Mt 0) x (i + 1)) := by rw [drv_n, ← show st2 = drs x (i + 1) by rw [est2, hst]; rfl, ← hg1]; exact hv2
              refine lv_aload_n hx hb dX7_drift_133 rfl (lv_at hl 6 rfl) ?_
              refine g_sipush (n := 252) C0 (by decide) dX7_drift_134 ?_
              refine g_callV (As := [.int (nI 252)]) (rest := []) (wr := []) (C0.sz hl) X (c_X7_talksOn l D tk h (u2 (u2 (u3 (u3 (u3 Mt 0 r1) 6 d1) 7 e1) 0 (285 + (g1 % (Mt 0 42))) (1 - (r1 (285 + (g1 % (Mt 0 42)))))) 0 295 ((g1 / 16) % 21)) hi la ce 252 (by omega) (by exact VW.eq hv3.sy (drv_w hW x (i + 1)))) ⟨tb953, tb956, tb8, ⟨by decide, by decide, rfl⟩, rfl, rfl, Nat.le_of_ble_eq_true rfl, Nat.le_of_ble_eq_true rfl⟩ tb955 tbs32 0 7 rfl rfl rfl rfl [0, 1, 2, 3, 4, 5, 6, 7, 8, 9, 10, 11, 12, 13] [] rfl rfl rfl rfl rfl (Nat.le_of_ble_eq_true rfl) ⟨Nat.le_of_ble_eq_true rfl, Nat.le_of_ble_eq_true rfl⟩ dX7_drift_137 (fun uq11 H locs hp12 X => ?_)
              have X : Hx D zA zs H locs (mW tk h (u3 (u3 (u2 (u2 (u3 Mt 0 r1) 0 (285 + (g1 % (Mt 0 42))) (1 - (r1 (285 + (g1 % (Mt 0 42)))))) 0 295 ((g1 / 16) % 21)) 6 uq11.1) 7 uq11.2) hi la ce) := X
              have hp12 : ∀ j, j < (u2 (u2 (u3 (u3 (u3 Mt 0 r1) 6 d1) 7 e1) 0 (285 + (g1 % (Mt 0 42))) (1 - (r1 (285 + (g1 % (Mt 0 42)))))) 0 295 ((g1 / 16) % 21)) 0 (252 + 62) → uq11.2 j = heardS (pgv (u2 (u2 (u3 (u3 (u3 Mt 0 r1) 6 d1) 7 e1) 0 (285 + (g1 % (Mt 0 42))) (1 - (r1 (285 + (g1 % (Mt 0 42)))))) 0 295 ((g1 / 16) % 21)) 252) j := hp12
              refine g_top (y := nI (hearersS (drv (pgv Mt 0) x (i + 1)))) (by exact congrArg nI (hearersS_eq hv3)) ?_
              refine lv_istore (lv' := [(6, .int (nI (hearersS (drv (pgv Mt 0) x (i + 1))))), (9, .int (nI (285 + (g1 % (Mt 0 42))))), (8, .int (nI g1)), (4, .int st2), (7, .int (nI i)), (5, .int (nI sm)), (0, .ref (h 0)), (1, .int x), (2, .int (nI yq)), (3, .int (nI zq))]) hx hb dX7_drift_140 hl (by decide) rfl (fun ls hl => ?_)
              refine lv_iload hx hb dX7_drift_142 (lv_at hl 5 rfl) ?_
              refine lv_iload hx hb dX7_drift_144 (lv_at hl 0 rfl) ?_
              refine g_iadd (n := sm + (hearersS (drv (pgv Mt 0) x (i + 1)))) C0 (by first | rfl | omega) dX7_drift_146 ?_
              refine lv_istore (lv' := [(5, .int (nI (sm + (hearersS (drv (pgv Mt 0) x (i + 1)))))), (6, .int (nI (hearersS (drv (pgv Mt 0) x (i + 1))))), (9, .int (nI (285 + (g1 % (Mt 0 42))))), (8, .int (nI g1)), (4, .int st2), (7, .int (nI i)), (0, .ref (h 0)), (1, .int x), (2, .int (nI yq)), (3, .int (nI zq))]) hx hb dX7_drift_147 hl (by decide) rfl (fun ls hl => ?_)
              refine g_iinc (j := 1) (z := i + 1) (lv' := [(7, .int (nI (i + 1))), (5, .int (nI (sm + (hearersS (drv (pgv Mt 0) x (i + 1)))))), (6, .int (nI (hearersS (drv (pgv Mt 0) x (i + 1))))), (9, .int (nI (285 + (g1 % (Mt 0 42))))), (8, .int (nI g1)), (4, .int st2), (0, .ref (h 0)), (1, .int x), (2, .int (nI yq)), (3, .int (nI zq))]) C0 rfl (by first | rfl | omega) dX7_drift_149 hl (k := 5) rfl (by decide) rfl (fun ls hl => ?_)
              refine lv_goto (tgt := 57) hx hb dX7_drift_152 (by decide) ?_
              exact ih57 (i + 1) (sm + (hearersS (drv (pgv Mt 0) x (i + 1)))) (hearersS (drv (pgv Mt 0) x (i + 1))) st2 (u1 (u1 r1 (285 + (g1 % (Mt 0 42))) (1 - (r1 (285 + (g1 % (Mt 0 42)))))) 295 ((g1 / 16) % 21)) uq11.1 uq11.2 (by omega) (by omega) (by rw [est2, hst]; rfl) (by exact (hr.u1 (by omega)).u1 (by omega)) (by exact hv3) (by rw [hsm]; rfl) (by intro _; rfl) H locs ls X (lv_sub hl [0, 2, 1, 5, 6, 7, 8, 9] rfl)
        exact J57 ((yq - 0) + 1) 0 0 0 x (pcopy (Mt 0) 0 252 63) (Mt 6) (Mt 7) (Nat.lt_succ_self _) (by omega) (by rfl) (by exact (RK.rf _).cp) (by exact pgc hW (RK.rf _)) (by rfl) (by intro h; exact absurd h (by decide)) H locs ls X (lv_sub hl [0, 1, 2, 3, 4, 5, 6, 7] rfl)
      · refine lv_bipush (v := (-2)) hx hb dX7_drift_34 (by decide) ?_
        exact hE (v := (-2)) (Mt 0, Mt 6, Mt 7) (by rw [a_drift, if_pos (by rw [c2, c3]; rfl), pv81, if_pos c6]) (by exact RK.rf _) X dX7_drift_36
    · refine lv_iconst (v := (-1)) hx hb dX7_drift_22 (by decide) ?_
      exact hE (v := (-1)) (Mt 0, Mt 6, Mt 7) (by simp only [a_drift, c2, c4, tn_nI (k := yq) (by omega), pv80, pv81, pv82, pv83, pv0, pv1, pv2, pv3, pv4, pv5, pv6, pv7, eq_self, ne01, ne02, ne03, ne04, ne05, ne10, ne12, ne13, ne14, ne15, ne20, ne21, ne23, ne24, ne25, ne30, ne31, ne32, ne34, ne35, ne40, ne41, ne42, ne43, ne45, ne50, ne51, ne52, ne53, ne54, if_true, if_false, Bool.false_eq_true, Bool.and_self, Bool.and_true, Bool.and_false, Bool.true_and, Bool.false_and, Bool.not_true, Bool.not_false, decide_true, decide_false] <;> rfl) (by exact RK.rf _) X dX7_drift_23
set_option maxHeartbeats 4000000 in
set_option maxRecDepth 100000 in
theorem c_X7_keep (l : Launch) (D : va_G) (tk : Nat → ClassId) (h : Nat → Nat) (Mt : Nat → Nat → Nat) (hi : Int32) (la ce : Nat → Int32) (x : Int32) (hW : VW (pgv Mt 0)) (hk0 : Mt 10 0 ≤ 1) (hk1 : Mt 10 1 ≤ 1) : MX l yX7_keep cX7_keep 3 (some .int) ⟨1, 0, 0, 25⟩ D (TYS tk) [.ref (h 0), .int x] (mW tk h Mt hi la ce) (fun (_ : Unit) => True) (fun _ => some (.int (m_keep Mt x))) (fun _ => mW tk h (keepM Mt x) hi la ce) 0 0 := by
  refine MX.of_i (by decide) rfl ?_
  intro zp ze zs zm za zb zt zc zA zQ ls C0 hnm X hl hE
  have hx := C0.1
  have hb := C0.2.1
  have ht := C0.2.2.2.2.1
  have X : Hx D zA zs zs.heap [] (mW tk h Mt hi la ce) := X
  have hl : lv_has ls 3 [(0, .ref (h 0)), (1, .int x)] := hl
  obtain ⟨hv1, hv2, hv3, hv4, hv5, hv6, hv7⟩ := id hW
  have hb1 : Mt 20 0 ≤ 6 := hv1
  have hb2 : Mt 0 42 ≤ 9 := hv2
  have hb3 : Mt 0 43 ≤ 20 := hv3
  have hb4 : Mt 0 62 ≤ 6 := hv4
  have hkd : ∀ t, t < Mt 20 0 → Mt 0 t ≤ 3 := fun t ht => by have q := hv5 t ht; rw [pv0] at q; exact q
  have hrt : ∀ i, i < Mt 0 42 → Mt 0 (6 + i) < Mt 20 0 ∧ Mt 0 (15 + i) < Mt 20 0 ∧ Mt 0 (6 + i) ≠ Mt 0 (15 + i) ∧ 1 ≤ Mt 0 (24 + i) ∧ Mt 0 (24 + i) ≤ 9 ∧ Mt 0 (33 + i) ≤ 1 := fun i hi => hv6 i hi
  have htk : ∀ k, k < Mt 0 62 → Mt 0 (44 + k) ≤ 23 ∧ Mt 0 (50 + k) < Mt 20 0 ∧ 1 ≤ Mt 0 (56 + k) ∧ Mt 0 (56 + k) ≤ 60 := fun k hk => hv7 k hk
  obtain ⟨H, hH⟩ : ∃ H, H = zs.heap := ⟨_, rfl⟩
  rw [← hH] at X ⊢
  obtain ⟨locs, hlo⟩ : ∃ L : List Loc, L = [] := ⟨_, rfl⟩
  rw [← hlo] at X ⊢
  refine lv_iload_n hx hb dX7_keep_0 rfl (lv_at hl 1 rfl) ?_
  refine lv_i2l hx hb dX7_keep_1 rfl ?_
  refine g_lconst (n := 0) C0 rfl dX7_keep_2 ?_
  refine g_lconst (n := 1) C0 rfl dX7_keep_3 ?_
  refine g_callS (As := [.long (Int32.toInt64 x), .long (lN 0), .long (lN 1)]) (rest := []) (wr := (mW tk h Mt hi la ce)) (C0.sz hl) X (c_X7_in l D tk (Int32.toInt64 x) (lN 0) (lN 1)) ⟨tb885, tb887, tb8, ⟨by decide, by decide, rfl⟩, rfl, rfl, Nat.le_of_ble_eq_true rfl, Nat.le_of_ble_eq_true rfl⟩ tb886 rfl [] [0, 1, 2, 3, 4, 5, 6, 7, 8, 9, 10, 11, 12, 13] rfl rfl rfl rfl rfl (Nat.le_of_ble_eq_true rfl) ⟨Nat.le_of_ble_eq_true rfl, Nat.le_of_ble_eq_true rfl⟩ dX7_keep_4 (fun _ H locs _ X => ?_)
  have X : Hx D zA zs H locs (mW tk h Mt hi la ce) := X
  refine g_top (y := nI (rb (rg x 0 1))) (by rw [inL_rg x (by first | decide | omega) (by first | decide | omega)]) ?_
  refine g_ifneB (x := rg x 0 1) (tgt := 12) C0 dX7_keep_7 rfl (fun c1 => ?_) (fun c2 => ?_)
  · obtain ⟨xq, hk_xqa, hk_xqb, hk_xqc, rfl⟩ := rg_sp c1
    rcases (show xq = 0 ∨ xq = 1 by omega) with rfl | rfl
    · refine lv_aload_n hx hb dX7_keep_12 rfl (lv_at hl 0 rfl) ?_
      refine g_iconst (n := 0) C0 rfl dX7_keep_13 ?_
      refine g_bipush (n := 63) C0 (by decide) dX7_keep_14 ?_
      refine lv_iload_n hx hb dX7_keep_16 rfl (lv_at hl 1 rfl) ?_
      refine g_iconst (n := 1) C0 rfl dX7_keep_17 ?_
      refine g_iadd (n := 1) C0 (by first | rfl | omega) dX7_keep_18 ?_
      refine g_imul (n := 63 * 1) C0 rfl dX7_keep_19 ?_
      refine g_callV (As := [.int (nI 0), .int (nI (63 * 1))]) (rest := []) (wr := []) (C0.sz hl) X (c_X7_copies l D tk h Mt hi la ce 0 (63 * 1) (by omega) (by omega) (by omega)) ⟨tb1096, tb1099, tb8, ⟨by decide, by decide, rfl⟩, rfl, rfl, Nat.le_of_ble_eq_true rfl, Nat.le_of_ble_eq_true rfl⟩ tb1098 tbs46 0 7 rfl rfl rfl rfl [0, 1, 2, 3, 4, 5, 6, 7, 8, 9, 10, 11, 12, 13] [] rfl rfl rfl rfl rfl (Nat.le_of_ble_eq_true rfl) ⟨Nat.le_of_ble_eq_true rfl, Nat.le_of_ble_eq_true rfl⟩ dX7_keep_20 (fun _ H locs _ X => ?_)
      have X : Hx D zA zs H locs (mW tk h (u3 Mt 0 (pcopy (Mt 0) 0 (63 * 1) 63)) hi la ce) := X
      refine lv_aload_n hx hb dX7_keep_23 rfl (lv_at hl 0 rfl) ?_
      refine g_get (v := .ref (h 10)) C0 X kX7 0 22 tb819 rfl rfl rfl dX7_keep_24 ?_
      refine lv_iload_n hx hb dX7_keep_27 rfl (lv_at hl 1 rfl) ?_
      refine g_zald (v := nI (Mt 10 0)) (i := 0) C0 X 10 2 rfl rfl (by omega) rfl rfl dX7_keep_28 ?_
      refine g_ifeq (x := Mt 10 0) (tgt := 36) C0 (by omega) dX7_keep_29 rfl (fun c3 => ?_) (fun c4 => ?_)
      · refine g_iconst (n := 0) C0 rfl dX7_keep_36 ?_
        refine lv_istore_n (lv' := [(2, .int (nI 0)), (0, .ref (h 0)), (1, .int (nI 0))]) hx hb dX7_keep_37 rfl hl (by decide) rfl (fun ls hl => ?_)
        refine lv_aload_n hx hb dX7_keep_38 rfl (lv_at hl 1 rfl) ?_
        refine g_get (v := .ref (h 10)) C0 X kX7 0 22 tb819 rfl rfl rfl dX7_keep_39 ?_
        refine lv_iload_n hx hb dX7_keep_42 rfl (lv_at hl 2 rfl) ?_
        refine g_iconst (n := 1) C0 rfl dX7_keep_43 ?_
        refine g_zast (g := nf (u1 (Mt 10) 0 1)) (i := 0) C0 X 10 2 rfl rfl (by omega) rfl (by decide) (nf_u1 _ _ _) dX7_keep_44 (fun H locs X => ?_)
        have X : Hx D zA zs H locs (mW tk h (u2 (u3 Mt 0 (pcopy (Mt 0) 0 (63 * 1) 63)) 10 0 1) hi la ce) := X
        refine lv_iload_n hx hb dX7_keep_45 rfl (lv_at hl 0 rfl) ?_
        exact hE (v := nI 0) () (by rw [m_keep, if_pos c1, tn_nI (k := 0) (by omega)]; exact congrArg (fun z => some (Value.int (nI z))) (by omega)) trivial (X.to (by rw [keepM, if_pos c1, tn_nI (k := 0) (by omega)])) dX7_keep_46
      · refine g_iconst (n := 1) C0 rfl dX7_keep_32 ?_
        refine lv_goto (tgt := 37) hx hb dX7_keep_33 (by decide) ?_
        refine lv_istore_n (lv' := [(2, .int (nI 1)), (0, .ref (h 0)), (1, .int (nI 0))]) hx hb dX7_keep_37 rfl hl (by decide) rfl (fun ls hl => ?_)
        refine lv_aload_n hx hb dX7_keep_38 rfl (lv_at hl 1 rfl) ?_
        refine g_get (v := .ref (h 10)) C0 X kX7 0 22 tb819 rfl rfl rfl dX7_keep_39 ?_
        refine lv_iload_n hx hb dX7_keep_42 rfl (lv_at hl 2 rfl) ?_
        refine g_iconst (n := 1) C0 rfl dX7_keep_43 ?_
        refine g_zast (g := nf (u1 (Mt 10) 0 1)) (i := 0) C0 X 10 2 rfl rfl (by omega) rfl (by decide) (nf_u1 _ _ _) dX7_keep_44 (fun H locs X => ?_)
        have X : Hx D zA zs H locs (mW tk h (u2 (u3 Mt 0 (pcopy (Mt 0) 0 (63 * 1) 63)) 10 0 1) hi la ce) := X
        refine lv_iload_n hx hb dX7_keep_45 rfl (lv_at hl 0 rfl) ?_
        exact hE (v := nI 1) () (by rw [m_keep, if_pos c1, tn_nI (k := 0) (by omega)]; exact congrArg (fun z => some (Value.int (nI z))) (by omega)) trivial (X.to (by rw [keepM, if_pos c1, tn_nI (k := 0) (by omega)])) dX7_keep_46
    · refine lv_aload_n hx hb dX7_keep_12 rfl (lv_at hl 0 rfl) ?_
      refine g_iconst (n := 0) C0 rfl dX7_keep_13 ?_
      refine g_bipush (n := 63) C0 (by decide) dX7_keep_14 ?_
      refine lv_iload_n hx hb dX7_keep_16 rfl (lv_at hl 1 rfl) ?_
      refine g_iconst (n := 1) C0 rfl dX7_keep_17 ?_
      refine g_iadd (n := 2) C0 (by first | rfl | omega) dX7_keep_18 ?_
      refine g_imul (n := 63 * 2) C0 rfl dX7_keep_19 ?_
      refine g_callV (As := [.int (nI 0), .int (nI (63 * 2))]) (rest := []) (wr := []) (C0.sz hl) X (c_X7_copies l D tk h Mt hi la ce 0 (63 * 2) (by omega) (by omega) (by omega)) ⟨tb1096, tb1099, tb8, ⟨by decide, by decide, rfl⟩, rfl, rfl, Nat.le_of_ble_eq_true rfl, Nat.le_of_ble_eq_true rfl⟩ tb1098 tbs46 0 7 rfl rfl rfl rfl [0, 1, 2, 3, 4, 5, 6, 7, 8, 9, 10, 11, 12, 13] [] rfl rfl rfl rfl rfl (Nat.le_of_ble_eq_true rfl) ⟨Nat.le_of_ble_eq_true rfl, Nat.le_of_ble_eq_true rfl⟩ dX7_keep_20 (fun _ H locs _ X => ?_)
      have X : Hx D zA zs H locs (mW tk h (u3 Mt 0 (pcopy (Mt 0) 0 (63 * 2) 63)) hi la ce) := X
      refine lv_aload_n hx hb dX7_keep_23 rfl (lv_at hl 0 rfl) ?_
      refine g_get (v := .ref (h 10)) C0 X kX7 0 22 tb819 rfl rfl rfl dX7_keep_24 ?_
      refine lv_iload_n hx hb dX7_keep_27 rfl (lv_at hl 1 rfl) ?_
      refine g_zald (v := nI (Mt 10 1)) (i := 1) C0 X 10 2 rfl rfl (by omega) rfl rfl dX7_keep_28 ?_
      refine g_ifeq (x := Mt 10 1) (tgt := 36) C0 (by omega) dX7_keep_29 rfl (fun c5 => ?_) (fun c6 => ?_)
      · refine g_iconst (n := 0) C0 rfl dX7_keep_36 ?_
        refine lv_istore_n (lv' := [(2, .int (nI 0)), (0, .ref (h 0)), (1, .int (nI 1))]) hx hb dX7_keep_37 rfl hl (by decide) rfl (fun ls hl => ?_)
        refine lv_aload_n hx hb dX7_keep_38 rfl (lv_at hl 1 rfl) ?_
        refine g_get (v := .ref (h 10)) C0 X kX7 0 22 tb819 rfl rfl rfl dX7_keep_39 ?_
        refine lv_iload_n hx hb dX7_keep_42 rfl (lv_at hl 2 rfl) ?_
        refine g_iconst (n := 1) C0 rfl dX7_keep_43 ?_
        refine g_zast (g := nf (u1 (Mt 10) 1 1)) (i := 1) C0 X 10 2 rfl rfl (by omega) rfl (by decide) (nf_u1 _ _ _) dX7_keep_44 (fun H locs X => ?_)
        have X : Hx D zA zs H locs (mW tk h (u2 (u3 Mt 0 (pcopy (Mt 0) 0 (63 * 2) 63)) 10 1 1) hi la ce) := X
        refine lv_iload_n hx hb dX7_keep_45 rfl (lv_at hl 0 rfl) ?_
        exact hE (v := nI 0) () (by rw [m_keep, if_pos c1, tn_nI (k := 1) (by omega)]; exact congrArg (fun z => some (Value.int (nI z))) (by omega)) trivial (X.to (by rw [keepM, if_pos c1, tn_nI (k := 1) (by omega)])) dX7_keep_46
      · refine g_iconst (n := 1) C0 rfl dX7_keep_32 ?_
        refine lv_goto (tgt := 37) hx hb dX7_keep_33 (by decide) ?_
        refine lv_istore_n (lv' := [(2, .int (nI 1)), (0, .ref (h 0)), (1, .int (nI 1))]) hx hb dX7_keep_37 rfl hl (by decide) rfl (fun ls hl => ?_)
        refine lv_aload_n hx hb dX7_keep_38 rfl (lv_at hl 1 rfl) ?_
        refine g_get (v := .ref (h 10)) C0 X kX7 0 22 tb819 rfl rfl rfl dX7_keep_39 ?_
        refine lv_iload_n hx hb dX7_keep_42 rfl (lv_at hl 2 rfl) ?_
        refine g_iconst (n := 1) C0 rfl dX7_keep_43 ?_
        refine g_zast (g := nf (u1 (Mt 10) 1 1)) (i := 1) C0 X 10 2 rfl rfl (by omega) rfl (by decide) (nf_u1 _ _ _) dX7_keep_44 (fun H locs X => ?_)
        have X : Hx D zA zs H locs (mW tk h (u2 (u3 Mt 0 (pcopy (Mt 0) 0 (63 * 2) 63)) 10 1 1) hi la ce) := X
        refine lv_iload_n hx hb dX7_keep_45 rfl (lv_at hl 0 rfl) ?_
        exact hE (v := nI 1) () (by rw [m_keep, if_pos c1, tn_nI (k := 1) (by omega)]; exact congrArg (fun z => some (Value.int (nI z))) (by omega)) trivial (X.to (by rw [keepM, if_pos c1, tn_nI (k := 1) (by omega)])) dX7_keep_46
  · refine lv_iconst (v := (-1)) hx hb dX7_keep_10 (by decide) ?_
    exact hE (v := (-1)) () (by simp only [m_keep, c2, pv80, pv81, pv82, pv83, pv0, pv1, pv2, pv3, pv4, pv5, pv6, pv7, eq_self, ne01, ne02, ne03, ne04, ne05, ne10, ne12, ne13, ne14, ne15, ne20, ne21, ne23, ne24, ne25, ne30, ne31, ne32, ne34, ne35, ne40, ne41, ne42, ne43, ne45, ne50, ne51, ne52, ne53, ne54, if_true, if_false, Bool.false_eq_true, Bool.and_self, Bool.and_true, Bool.and_false, Bool.true_and, Bool.false_and, Bool.not_true, Bool.not_false, decide_true, decide_false] <;> rfl) trivial (X.to (by simp only [keepM, c2, pv80, pv81, pv82, pv83, pv0, pv1, pv2, pv3, pv4, pv5, pv6, pv7, eq_self, ne01, ne02, ne03, ne04, ne05, ne10, ne12, ne13, ne14, ne15, ne20, ne21, ne23, ne24, ne25, ne30, ne31, ne32, ne34, ne35, ne40, ne41, ne42, ne43, ne45, ne50, ne51, ne52, ne53, ne54, if_true, if_false, Bool.false_eq_true, Bool.and_self, Bool.and_true, Bool.and_false, Bool.true_and, Bool.false_and, Bool.not_true, Bool.not_false, decide_true, decide_false] <;> rfl)) dX7_keep_11
set_option maxHeartbeats 4000000 in
set_option maxRecDepth 100000 in
theorem c_X7_back (l : Launch) (D : va_G) (tk : Nat → ClassId) (h : Nat → Nat) (Mt : Nat → Nat → Nat) (hi : Int32) (la ce : Nat → Int32) (x : Int32) (hW : VW (pgv Mt 0)) (hk0 : Mt 10 0 ≤ 1) (hk1 : Mt 10 1 ≤ 1) (hv0 : Mt 10 0 ≠ 0 → VW (pgv Mt 63)) (hv1x : Mt 10 1 ≠ 0 → VW (pgv Mt 126)) : MX l yX7_back cX7_back 2 (some .int) ⟨5, 0, 0, 119⟩ D (TYS tk) [.ref (h 0), .int x] (mW tk h Mt hi la ce) (fun (u : (Nat → Nat) × (Nat → Nat)) => True) (fun u => some (.int (m_back Mt x))) (fun u => mW tk h (u3 (u3 (backM Mt x) 6 u.1) 7 u.2) hi la ce) 0 0 := by
  refine MX.of_i (by decide) rfl ?_
  intro zp ze zs zm za zb zt zc zA zQ ls C0 hnm X hl hE
  have hx := C0.1
  have hb := C0.2.1
  have ht := C0.2.2.2.2.1
  have X : Hx D zA zs zs.heap [] (mW tk h Mt hi la ce) := X
  have hl : lv_has ls 2 [(0, .ref (h 0)), (1, .int x)] := hl
  obtain ⟨hv1, hv2, hv3, hv4, hv5, hv6, hv7⟩ := id hW
  have hb1 : Mt 20 0 ≤ 6 := hv1
  have hb2 : Mt 0 42 ≤ 9 := hv2
  have hb3 : Mt 0 43 ≤ 20 := hv3
  have hb4 : Mt 0 62 ≤ 6 := hv4
  have hkd : ∀ t, t < Mt 20 0 → Mt 0 t ≤ 3 := fun t ht => by have q := hv5 t ht; rw [pv0] at q; exact q
  have hrt : ∀ i, i < Mt 0 42 → Mt 0 (6 + i) < Mt 20 0 ∧ Mt 0 (15 + i) < Mt 20 0 ∧ Mt 0 (6 + i) ≠ Mt 0 (15 + i) ∧ 1 ≤ Mt 0 (24 + i) ∧ Mt 0 (24 + i) ≤ 9 ∧ Mt 0 (33 + i) ≤ 1 := fun i hi => hv6 i hi
  have htk : ∀ k, k < Mt 0 62 → Mt 0 (44 + k) ≤ 23 ∧ Mt 0 (50 + k) < Mt 20 0 ∧ 1 ≤ Mt 0 (56 + k) ∧ Mt 0 (56 + k) ≤ 60 := fun k hk => hv7 k hk
  obtain ⟨H, hH⟩ : ∃ H, H = zs.heap := ⟨_, rfl⟩
  rw [← hH] at X ⊢
  obtain ⟨locs, hlo⟩ : ∃ L : List Loc, L = [] := ⟨_, rfl⟩
  rw [← hlo] at X ⊢
  refine lv_iload_n hx hb dX7_back_0 rfl (lv_at hl 1 rfl) ?_
  refine lv_i2l hx hb dX7_back_1 rfl ?_
  refine g_lconst (n := 0) C0 rfl dX7_back_2 ?_
  refine g_lconst (n := 1) C0 rfl dX7_back_3 ?_
  refine g_callS (As := [.long (Int32.toInt64 x), .long (lN 0), .long (lN 1)]) (rest := []) (wr := (mW tk h Mt hi la ce)) (C0.sz hl) X (c_X7_in l D tk (Int32.toInt64 x) (lN 0) (lN 1)) ⟨tb885, tb887, tb8, ⟨by decide, by decide, rfl⟩, rfl, rfl, Nat.le_of_ble_eq_true rfl, Nat.le_of_ble_eq_true rfl⟩ tb886 rfl [] [0, 1, 2, 3, 4, 5, 6, 7, 8, 9, 10, 11, 12, 13] rfl rfl rfl rfl rfl (Nat.le_of_ble_eq_true rfl) ⟨Nat.le_of_ble_eq_true rfl, Nat.le_of_ble_eq_true rfl⟩ dX7_back_4 (fun _ H locs _ X => ?_)
  have X : Hx D zA zs H locs (mW tk h Mt hi la ce) := X
  refine g_top (y := nI (rb (rg x 0 1))) (by rw [inL_rg x (by first | decide | omega) (by first | decide | omega)]) ?_
  refine g_ifneB (x := rg x 0 1) (tgt := 12) C0 dX7_back_7 rfl (fun c1 => ?_) (fun c2 => ?_)
  · obtain ⟨xq, hk_xqa, hk_xqb, hk_xqc, rfl⟩ := rg_sp c1
    rcases (show xq = 0 ∨ xq = 1 by omega) with rfl | rfl
    · refine lv_aload_n hx hb dX7_back_12 rfl (lv_at hl 0 rfl) ?_
      refine g_get (v := .ref (h 10)) C0 X kX7 0 22 tb819 rfl rfl rfl dX7_back_13 ?_
      refine lv_iload_n hx hb dX7_back_16 rfl (lv_at hl 1 rfl) ?_
      refine g_zald (v := nI (Mt 10 0)) (i := 0) C0 X 10 2 rfl rfl (by omega) rfl rfl dX7_back_17 ?_
      refine g_ifne (x := Mt 10 0) (tgt := 24) C0 (by omega) dX7_back_18 rfl (fun c3 => ?_) (fun c4 => ?_)
      · refine lv_aload_n hx hb dX7_back_24 rfl (lv_at hl 0 rfl) ?_
        refine g_bipush (n := 63) C0 (by decide) dX7_back_25 ?_
        refine lv_iload_n hx hb dX7_back_27 rfl (lv_at hl 1 rfl) ?_
        refine g_iconst (n := 1) C0 rfl dX7_back_28 ?_
        refine g_iadd (n := 1) C0 (by first | rfl | omega) dX7_back_29 ?_
        refine g_imul (n := 63 * 1) C0 rfl dX7_back_30 ?_
        refine g_iconst (n := 0) C0 rfl dX7_back_31 ?_
        refine g_callV (As := [.int (nI (63 * 1)), .int (nI 0)]) (rest := []) (wr := []) (C0.sz hl) X (c_X7_copies l D tk h Mt hi la ce (63 * 1) 0 (by omega) (by omega) (by omega)) ⟨tb1096, tb1099, tb8, ⟨by decide, by decide, rfl⟩, rfl, rfl, Nat.le_of_ble_eq_true rfl, Nat.le_of_ble_eq_true rfl⟩ tb1098 tbs46 0 7 rfl rfl rfl rfl [0, 1, 2, 3, 4, 5, 6, 7, 8, 9, 10, 11, 12, 13] [] rfl rfl rfl rfl rfl (Nat.le_of_ble_eq_true rfl) ⟨Nat.le_of_ble_eq_true rfl, Nat.le_of_ble_eq_true rfl⟩ dX7_back_32 (fun _ H locs _ X => ?_)
        have X : Hx D zA zs H locs (mW tk h (u3 Mt 0 (pcopy (Mt 0) (63 * 1) 0 63)) hi la ce) := X
        have hvb := hv0 (by omega)
        have hve := pgb hvb
        refine lv_aload_n hx hb dX7_back_35 rfl (lv_at hl 0 rfl) ?_
        refine g_iconst (n := 0) C0 rfl dX7_back_36 ?_
        refine g_callV (As := [.int (nI 0)]) (rest := []) (wr := []) (C0.sz hl) X (c_X7_crossedOn l D tk h (u3 Mt 0 (pcopy (Mt 0) (63 * 1) 0 63)) hi la ce 0 (by omega) (by exact VW.eq hve.sy hvb)) ⟨tb949, tb952, tb8, ⟨by decide, by decide, rfl⟩, rfl, rfl, Nat.le_of_ble_eq_true rfl, Nat.le_of_ble_eq_true rfl⟩ tb951 tbs31 0 7 rfl rfl rfl rfl [0, 1, 2, 3, 4, 5, 6, 7, 8, 9, 10, 11, 12, 13] [] rfl rfl rfl rfl rfl (Nat.le_of_ble_eq_true rfl) ⟨Nat.le_of_ble_eq_true rfl, Nat.le_of_ble_eq_true rfl⟩ dX7_back_37 (fun uq5 H locs _ X => ?_)
        have X : Hx D zA zs H locs (mW tk h (u3 (u3 (u3 Mt 0 (pcopy (Mt 0) (63 * 1) 0 63)) 6 uq5.1) 7 uq5.2) hi la ce) := X
        exact hE (v := nI (crossS (pgv (u3 Mt 0 (pcopy (Mt 0) (63 * 1) 0 63)) 0))) (uq5.1, uq5.2) (by rw [m_back, if_pos c1, tn_nI (k := 0) (by omega), if_neg (by omega), ← crossS_eq hve]) trivial (X.to (by rw [backM, if_pos c1, tn_nI (k := 0) (by omega), if_neg (by omega)] <;> rfl)) dX7_back_40
      · refine lv_bipush (v := (-2)) hx hb dX7_back_21 (by decide) ?_
        exact hE (v := (-2)) (Mt 6, Mt 7) (by rw [m_back, if_pos c1, tn_nI (k := 0) (by omega), if_pos c4]) trivial (X.to (by rw [backM, if_pos c1, tn_nI (k := 0) (by omega), if_pos c4] <;> rfl)) dX7_back_23
    · refine lv_aload_n hx hb dX7_back_12 rfl (lv_at hl 0 rfl) ?_
      refine g_get (v := .ref (h 10)) C0 X kX7 0 22 tb819 rfl rfl rfl dX7_back_13 ?_
      refine lv_iload_n hx hb dX7_back_16 rfl (lv_at hl 1 rfl) ?_
      refine g_zald (v := nI (Mt 10 1)) (i := 1) C0 X 10 2 rfl rfl (by omega) rfl rfl dX7_back_17 ?_
      refine g_ifne (x := Mt 10 1) (tgt := 24) C0 (by omega) dX7_back_18 rfl (fun c6 => ?_) (fun c7 => ?_)
      · refine lv_aload_n hx hb dX7_back_24 rfl (lv_at hl 0 rfl) ?_
        refine g_bipush (n := 63) C0 (by decide) dX7_back_25 ?_
        refine lv_iload_n hx hb dX7_back_27 rfl (lv_at hl 1 rfl) ?_
        refine g_iconst (n := 1) C0 rfl dX7_back_28 ?_
        refine g_iadd (n := 2) C0 (by first | rfl | omega) dX7_back_29 ?_
        refine g_imul (n := 63 * 2) C0 rfl dX7_back_30 ?_
        refine g_iconst (n := 0) C0 rfl dX7_back_31 ?_
        refine g_callV (As := [.int (nI (63 * 2)), .int (nI 0)]) (rest := []) (wr := []) (C0.sz hl) X (c_X7_copies l D tk h Mt hi la ce (63 * 2) 0 (by omega) (by omega) (by omega)) ⟨tb1096, tb1099, tb8, ⟨by decide, by decide, rfl⟩, rfl, rfl, Nat.le_of_ble_eq_true rfl, Nat.le_of_ble_eq_true rfl⟩ tb1098 tbs46 0 7 rfl rfl rfl rfl [0, 1, 2, 3, 4, 5, 6, 7, 8, 9, 10, 11, 12, 13] [] rfl rfl rfl rfl rfl (Nat.le_of_ble_eq_true rfl) ⟨Nat.le_of_ble_eq_true rfl, Nat.le_of_ble_eq_true rfl⟩ dX7_back_32 (fun _ H locs _ X => ?_)
        have X : Hx D zA zs H locs (mW tk h (u3 Mt 0 (pcopy (Mt 0) (63 * 2) 0 63)) hi la ce) := X
        have hvb := hv1x (by omega)
        have hve := pgb hvb
        refine lv_aload_n hx hb dX7_back_35 rfl (lv_at hl 0 rfl) ?_
        refine g_iconst (n := 0) C0 rfl dX7_back_36 ?_
        refine g_callV (As := [.int (nI 0)]) (rest := []) (wr := []) (C0.sz hl) X (c_X7_crossedOn l D tk h (u3 Mt 0 (pcopy (Mt 0) (63 * 2) 0 63)) hi la ce 0 (by omega) (by exact VW.eq hve.sy hvb)) ⟨tb949, tb952, tb8, ⟨by decide, by decide, rfl⟩, rfl, rfl, Nat.le_of_ble_eq_true rfl, Nat.le_of_ble_eq_true rfl⟩ tb951 tbs31 0 7 rfl rfl rfl rfl [0, 1, 2, 3, 4, 5, 6, 7, 8, 9, 10, 11, 12, 13] [] rfl rfl rfl rfl rfl (Nat.le_of_ble_eq_true rfl) ⟨Nat.le_of_ble_eq_true rfl, Nat.le_of_ble_eq_true rfl⟩ dX7_back_37 (fun uq8 H locs _ X => ?_)
        have X : Hx D zA zs H locs (mW tk h (u3 (u3 (u3 Mt 0 (pcopy (Mt 0) (63 * 2) 0 63)) 6 uq8.1) 7 uq8.2) hi la ce) := X
        exact hE (v := nI (crossS (pgv (u3 Mt 0 (pcopy (Mt 0) (63 * 2) 0 63)) 0))) (uq8.1, uq8.2) (by rw [m_back, if_pos c1, tn_nI (k := 1) (by omega), if_neg (by omega), ← crossS_eq hve]) trivial (X.to (by rw [backM, if_pos c1, tn_nI (k := 1) (by omega), if_neg (by omega)] <;> rfl)) dX7_back_40
      · refine lv_bipush (v := (-2)) hx hb dX7_back_21 (by decide) ?_
        exact hE (v := (-2)) (Mt 6, Mt 7) (by rw [m_back, if_pos c1, tn_nI (k := 1) (by omega), if_pos c7]) trivial (X.to (by rw [backM, if_pos c1, tn_nI (k := 1) (by omega), if_pos c7] <;> rfl)) dX7_back_23
  · refine lv_iconst (v := (-1)) hx hb dX7_back_10 (by decide) ?_
    exact hE (v := (-1)) (Mt 6, Mt 7) (by simp only [m_back, c2, pv80, pv81, pv82, pv83, pv0, pv1, pv2, pv3, pv4, pv5, pv6, pv7, eq_self, ne01, ne02, ne03, ne04, ne05, ne10, ne12, ne13, ne14, ne15, ne20, ne21, ne23, ne24, ne25, ne30, ne31, ne32, ne34, ne35, ne40, ne41, ne42, ne43, ne45, ne50, ne51, ne52, ne53, ne54, if_true, if_false, Bool.false_eq_true, Bool.and_self, Bool.and_true, Bool.and_false, Bool.true_and, Bool.false_and, Bool.not_true, Bool.not_false, decide_true, decide_false] <;> rfl) trivial (X.to (by simp only [backM, c2, pv80, pv81, pv82, pv83, pv0, pv1, pv2, pv3, pv4, pv5, pv6, pv7, eq_self, ne01, ne02, ne03, ne04, ne05, ne10, ne12, ne13, ne14, ne15, ne20, ne21, ne23, ne24, ne25, ne30, ne31, ne32, ne34, ne35, ne40, ne41, ne42, ne43, ne45, ne50, ne51, ne52, ne53, ne54, if_true, if_false, Bool.false_eq_true, Bool.and_self, Bool.and_true, Bool.and_false, Bool.true_and, Bool.false_and, Bool.not_true, Bool.not_false, decide_true, decide_false] <;> rfl)) dX7_back_11
set_option maxHeartbeats 4000000 in
set_option maxRecDepth 100000 in
theorem c_X7_sheet (l : Launch) (D : va_G) (tk : Nat → ClassId) (h : Nat → Nat) (Mt : Nat → Nat → Nat) (hi : Int32) (la ce : Nat → Int32) (x y z : Int32) (hW : VW (pgv Mt 0)) : MX l yX7_sheet cX7_sheet 5 (some .int) ⟨1, 0, 0, 25⟩ D (TYS tk) [.ref (h 0), .int x, .int y, .int z] (mW tk h Mt hi la ce) (fun (_ : Unit) => True) (fun _ => some (.int (a_sheet x y z))) (fun _ => mW tk h (sheetM Mt x y z) hi (sheetL la x y z) (sheetC ce x y z)) 0 0 := by
  refine MX.of_i (by decide) rfl ?_
  intro zp ze zs zm za zb zt zc zA zQ ls C0 hnm X hl hE
  have hx := C0.1
  have hb := C0.2.1
  have ht := C0.2.2.2.2.1
  have X : Hx D zA zs zs.heap [] (mW tk h Mt hi la ce) := X
  have hl : lv_has ls 5 [(0, .ref (h 0)), (1, .int x), (2, .int y), (3, .int z)] := hl
  obtain ⟨hv1, hv2, hv3, hv4, hv5, hv6, hv7⟩ := id hW
  have hb1 : Mt 20 0 ≤ 6 := hv1
  have hb2 : Mt 0 42 ≤ 9 := hv2
  have hb3 : Mt 0 43 ≤ 20 := hv3
  have hb4 : Mt 0 62 ≤ 6 := hv4
  have hkd : ∀ t, t < Mt 20 0 → Mt 0 t ≤ 3 := fun t ht => by have q := hv5 t ht; rw [pv0] at q; exact q
  have hrt : ∀ i, i < Mt 0 42 → Mt 0 (6 + i) < Mt 20 0 ∧ Mt 0 (15 + i) < Mt 20 0 ∧ Mt 0 (6 + i) ≠ Mt 0 (15 + i) ∧ 1 ≤ Mt 0 (24 + i) ∧ Mt 0 (24 + i) ≤ 9 ∧ Mt 0 (33 + i) ≤ 1 := fun i hi => hv6 i hi
  have htk : ∀ k, k < Mt 0 62 → Mt 0 (44 + k) ≤ 23 ∧ Mt 0 (50 + k) < Mt 20 0 ∧ 1 ≤ Mt 0 (56 + k) ∧ Mt 0 (56 + k) ≤ 60 := fun k hk => hv7 k hk
  obtain ⟨H, hH⟩ : ∃ H, H = zs.heap := ⟨_, rfl⟩
  rw [← hH] at X ⊢
  obtain ⟨locs, hlo⟩ : ∃ L : List Loc, L = [] := ⟨_, rfl⟩
  rw [← hlo] at X ⊢
  refine lv_iload_n hx hb dX7_sheet_0 rfl (lv_at hl 1 rfl) ?_
  refine lv_i2l hx hb dX7_sheet_1 rfl ?_
  refine g_lconst (n := 0) C0 rfl dX7_sheet_2 ?_
  refine lv_ldc2 (v := lN 3) hx hb C0.2.2.2.1 (ht _ tb984) dX7_sheet_3 ?_
  refine g_callS (As := [.long (Int32.toInt64 x), .long (lN 0), .long (lN 3)]) (rest := []) (wr := (mW tk h Mt hi la ce)) (C0.sz hl) X (c_X7_in l D tk (Int32.toInt64 x) (lN 0) (lN 3)) ⟨tb885, tb887, tb8, ⟨by decide, by decide, rfl⟩, rfl, rfl, Nat.le_of_ble_eq_true rfl, Nat.le_of_ble_eq_true rfl⟩ tb886 rfl [] [0, 1, 2, 3, 4, 5, 6, 7, 8, 9, 10, 11, 12, 13] rfl rfl rfl rfl rfl (Nat.le_of_ble_eq_true rfl) ⟨Nat.le_of_ble_eq_true rfl, Nat.le_of_ble_eq_true rfl⟩ dX7_sheet_6 (fun _ H locs _ X => ?_)
  have X : Hx D zA zs H locs (mW tk h Mt hi la ce) := X
  refine g_top (y := nI (rb (rg x 0 3))) (by rw [inL_rg x (by first | decide | omega) (by first | decide | omega)]) ?_
  refine g_ifeqB (x := rg x 0 3) (tgt := 30) C0 dX7_sheet_9 rfl (fun c1 => ?_) (fun c2 => ?_)
  · refine lv_iconst (v := (-1)) hx hb dX7_sheet_30 (by decide) ?_
    exact hE (v := (-1)) () (by simp only [a_sheet, shOk, c1, if_true, if_false, Bool.false_eq_true, Bool.and_self, Bool.and_true, Bool.and_false, Bool.true_and, Bool.false_and, Bool.not_true, Bool.not_false, decide_true, decide_false]) trivial (X.to (by simp only [sheetM, sheetL, sheetC, shOk, c1, if_true, if_false, Bool.false_eq_true, Bool.and_self, Bool.and_true, Bool.and_false, Bool.true_and, Bool.false_and, Bool.not_true, Bool.not_false, decide_true, decide_false])) dX7_sheet_31
  · obtain ⟨xq, hk_xqa, hk_xqb, hk_xqc, rfl⟩ := rg_sp c2
    refine lv_iload_n hx hb dX7_sheet_12 rfl (lv_at hl 2 rfl) ?_
    refine lv_i2l hx hb dX7_sheet_13 rfl ?_
    refine g_lconst (n := 0) C0 rfl dX7_sheet_14 ?_
    refine lv_ldc2 (v := lN 2) hx hb C0.2.2.2.1 (ht _ tb1191) dX7_sheet_15 ?_
    refine g_callS (As := [.long (Int32.toInt64 y), .long (lN 0), .long (lN 2)]) (rest := []) (wr := (mW tk h Mt hi la ce)) (C0.sz hl) X (c_X7_in l D tk (Int32.toInt64 y) (lN 0) (lN 2)) ⟨tb885, tb887, tb8, ⟨by decide, by decide, rfl⟩, rfl, rfl, Nat.le_of_ble_eq_true rfl, Nat.le_of_ble_eq_true rfl⟩ tb886 rfl [] [0, 1, 2, 3, 4, 5, 6, 7, 8, 9, 10, 11, 12, 13] rfl rfl rfl rfl rfl (Nat.le_of_ble_eq_true rfl) ⟨Nat.le_of_ble_eq_true rfl, Nat.le_of_ble_eq_true rfl⟩ dX7_sheet_18 (fun _ H locs _ X => ?_)
    have X : Hx D zA zs H locs (mW tk h Mt hi la ce) := X
    refine g_top (y := nI (rb (rg y 0 2))) (by rw [inL_rg y (by first | decide | omega) (by first | decide | omega)]) ?_
    refine g_ifeqB (x := rg y 0 2) (tgt := 30) C0 dX7_sheet_21 rfl (fun c3 => ?_) (fun c4 => ?_)
    · refine lv_iconst (v := (-1)) hx hb dX7_sheet_30 (by decide) ?_
      exact hE (v := (-1)) () (by simp only [a_sheet, shOk, c2, c3, tn_nI (k := xq) (by omega), if_true, if_false, Bool.false_eq_true, Bool.and_self, Bool.and_true, Bool.and_false, Bool.true_and, Bool.false_and, Bool.not_true, Bool.not_false, decide_true, decide_false]) trivial (X.to (by simp only [sheetM, sheetL, sheetC, shOk, c2, c3, tn_nI (k := xq) (by omega), if_true, if_false, Bool.false_eq_true, Bool.and_self, Bool.and_true, Bool.and_false, Bool.true_and, Bool.false_and, Bool.not_true, Bool.not_false, decide_true, decide_false])) dX7_sheet_31
    · obtain ⟨yq, hk_yqa, hk_yqb, hk_yqc, rfl⟩ := rg_sp c4
      refine lv_iload_n hx hb dX7_sheet_24 rfl (lv_at hl 3 rfl) ?_
      refine g_bipush (n := 40) C0 (by decide) dX7_sheet_25 ?_
      refine lv_icmp_le (tgt := 32) hx hb dX7_sheet_27 rfl (fun c5 => ?_) (fun c6 => ?_)
      · refine lv_iload_n hx hb dX7_sheet_32 rfl (lv_at hl 3 rfl) ?_
        refine lv_if_ge (tgt := 39) hx hb dX7_sheet_33 rfl (fun c7 => ?_) (fun c8 => ?_)
        · obtain ⟨zq, hzq, rfl⟩ := le_sp (by decide) c5 c7
          refine lv_aload_n hx hb dX7_sheet_39 rfl (lv_at hl 0 rfl) ?_
          refine g_get (v := .ref (h 11)) C0 X kX7 0 23 tb820 rfl rfl rfl dX7_sheet_40 ?_
          refine lv_iload_n hx hb dX7_sheet_43 rfl (lv_at hl 1 rfl) ?_
          refine lv_iload_n hx hb dX7_sheet_44 rfl (lv_at hl 2 rfl) ?_
          refine g_iast (g := upd la xq (nI yq)) (i := xq) C0 X 11 0 rfl rfl (by omega) rfl rfl dX7_sheet_45 (fun H locs X => ?_)
          have X : Hx D zA zs H locs (mW tk h Mt hi (upd la xq (nI yq)) ce) := X
          refine lv_aload_n hx hb dX7_sheet_46 rfl (lv_at hl 0 rfl) ?_
          refine g_get (v := .ref (h 12)) C0 X kX7 0 24 tb821 rfl rfl rfl dX7_sheet_47 ?_
          refine lv_iload_n hx hb dX7_sheet_50 rfl (lv_at hl 1 rfl) ?_
          refine lv_iload_n hx hb dX7_sheet_51 rfl (lv_at hl 3 rfl) ?_
          refine g_iast (g := nf (u1 (Mt 12) xq zq)) (i := xq) C0 X 12 0 rfl rfl (by omega) rfl (nf_u1 _ _ _) dX7_sheet_52 (fun H locs X => ?_)
          have X : Hx D zA zs H locs (mW tk h (u2 Mt 12 xq zq) hi (upd la xq (nI yq)) ce) := X
          refine g_iconst (n := 0) C0 rfl dX7_sheet_53 ?_
          refine lv_istore (lv' := [(4, .int (nI 0)), (0, .ref (h 0)), (1, .int (nI xq)), (2, .int (nI yq)), (3, .int (nI zq))]) hx hb dX7_sheet_54 hl (by decide) rfl (fun ls hl => ?_)
          have J56 : ∀ (fz : Nat) (i : Nat) (cz : Nat → Int32), 40 - i < fz → ∀ (hi1 : i ≤ 40) (hce : cz = zero40 ce xq i) (H : Heap) (locs : List Loc) (ls : Array Slot), Hx D zA zs H locs (mW tk h (u2 Mt 12 xq zq) hi (upd la xq (nI yq)) cz) → lv_has ls 5 [(4, .int (nI i)), (0, .ref (h 0)), (1, .int (nI xq)), (2, .int (nI yq)), (3, .int (nI zq))] → W zp l ze ⟨1, 0, 0, 25⟩ zs zm za zb zt zc H locs 0 0 zQ (F0 zm 56 ls []) := by
            intro fz
            induction fz with
            | zero => intro i cz hz; exact absurd hz (Nat.not_lt_zero _)
            | succ fz ih56 =>
              intro i cz hz56 hi1 hce H locs ls X hl
              refine lv_iload hx hb dX7_sheet_56 (lv_at hl 0 rfl) ?_
              refine g_bipush (n := 40) C0 (by decide) dX7_sheet_58 ?_
              refine g_icmp_ge (x := i) (y := 40) (tgt := 82) C0 (by omega) (by omega) dX7_sheet_60 rfl (fun c9 => ?_) (fun c10 => ?_)
              · refine g_iconst (n := 1) C0 rfl dX7_sheet_82 ?_
                exact hE (v := nI 1) () (by rw [a_sheet, if_pos (by rw [shOk, c2, c4, decide_eq_true c5]; rfl), if_pos c7]) trivial (X.to (by rw [sheetM, sheetL, sheetC, if_pos (by rw [shOk, c2, c4, decide_eq_true c5]; rfl), if_pos c7, if_pos (by rw [shOk, c2, c4, decide_eq_true c5]; rfl), if_pos c7, if_pos (by rw [shOk, c2, c4, decide_eq_true c5]; rfl), if_pos c7, hce, show i = 40 by omega, tn_nI (k := xq) (by omega), tn_nI (k := zq) (by omega)])) dX7_sheet_83
              · refine lv_aload_n hx hb dX7_sheet_63 rfl (lv_at hl 1 rfl) ?_
                refine g_get (v := .ref (h 13)) C0 X kX7 0 25 tb822 rfl rfl rfl dX7_sheet_64 ?_
                refine g_bipush (n := 40) C0 (by decide) dX7_sheet_67 ?_
                refine lv_iload_n hx hb dX7_sheet_69 rfl (lv_at hl 2 rfl) ?_
                refine g_imul (n := 40 * xq) C0 rfl dX7_sheet_70 ?_
                refine lv_iload hx hb dX7_sheet_71 (lv_at hl 0 rfl) ?_
                refine g_iadd (n := (40 * xq) + i) C0 (by first | rfl | omega) dX7_sheet_73 ?_
                refine g_iconst (n := 0) C0 rfl dX7_sheet_74 ?_
                refine g_iast (g := upd cz ((40 * xq) + i) (nI 0)) (i := (40 * xq) + i) C0 X 13 0 rfl rfl (by omega) rfl rfl dX7_sheet_75 (fun H locs X => ?_)
                have X : Hx D zA zs H locs (mW tk h (u2 Mt 12 xq zq) hi (upd la xq (nI yq)) (upd cz ((40 * xq) + i) (nI 0))) := X
                refine g_iinc (j := 1) (z := i + 1) (lv' := [(4, .int (nI (i + 1))), (0, .ref (h 0)), (1, .int (nI xq)), (2, .int (nI yq)), (3, .int (nI zq))]) C0 rfl (by first | rfl | omega) dX7_sheet_76 hl (k := 0) rfl (by decide) rfl (fun ls hl => ?_)
                refine lv_goto (tgt := 56) hx hb dX7_sheet_79 (by decide) ?_
                exact ih56 (i + 1) (upd cz ((40 * xq) + i) (nI 0)) (by omega) (by omega) (by rw [hce]; exact zero40_s _ _ _) H locs ls X (lv_sub hl [0, 1, 2, 3, 4] rfl)
          exact J56 ((40 - 0) + 1) 0 ce (Nat.lt_succ_self _) (by omega) (by exact (zero40_0 _ _).symm) H locs ls X (lv_sub hl [0, 1, 2, 3, 4] rfl)
        · refine lv_bipush (v := (-14)) hx hb dX7_sheet_36 (by decide) ?_
          exact hE (v := (-14)) () (by simp only [a_sheet, shOk, c2, c4, c5, c8, tn_nI (k := xq) (by omega), tn_nI (k := yq) (by omega), if_true, if_false, Bool.false_eq_true, Bool.and_self, Bool.and_true, Bool.and_false, Bool.true_and, Bool.false_and, Bool.not_true, Bool.not_false, decide_true, decide_false]) trivial (X.to (by simp only [sheetM, sheetL, sheetC, shOk, c2, c4, c5, c8, tn_nI (k := xq) (by omega), tn_nI (k := yq) (by omega), if_true, if_false, Bool.false_eq_true, Bool.and_self, Bool.and_true, Bool.and_false, Bool.true_and, Bool.false_and, Bool.not_true, Bool.not_false, decide_true, decide_false])) dX7_sheet_38
      · refine lv_iconst (v := (-1)) hx hb dX7_sheet_30 (by decide) ?_
        exact hE (v := (-1)) () (by simp only [a_sheet, shOk, c2, c4, c6, tn_nI (k := xq) (by omega), tn_nI (k := yq) (by omega), if_true, if_false, Bool.false_eq_true, Bool.and_self, Bool.and_true, Bool.and_false, Bool.true_and, Bool.false_and, Bool.not_true, Bool.not_false, decide_true, decide_false]) trivial (X.to (by simp only [sheetM, sheetL, sheetC, shOk, c2, c4, c6, tn_nI (k := xq) (by omega), tn_nI (k := yq) (by omega), if_true, if_false, Bool.false_eq_true, Bool.and_self, Bool.and_true, Bool.and_false, Bool.true_and, Bool.false_and, Bool.not_true, Bool.not_false, decide_true, decide_false])) dX7_sheet_31
set_option maxHeartbeats 4000000 in
set_option maxRecDepth 100000 in
theorem c_X7_lay (l : Launch) (D : va_G) (tk : Nat → ClassId) (h : Nat → Nat) (Mt : Nat → Nat → Nat) (hi : Int32) (la ce : Nat → Int32) (x y z : Int32) (hW : VW (pgv Mt 0)) (hln : ∀ k, k < 4 → Mt 12 k ≤ 40) : MX l yX7_lay cX7_lay 4 (some .int) ⟨1, 0, 0, 25⟩ D (TYS tk) [.ref (h 0), .int x, .int y, .int z] (mW tk h Mt hi la ce) (fun (_ : Unit) => True) (fun _ => some (.int (m_lay la (Mt 12) x y))) (fun _ => mW tk h Mt hi la (layM la (Mt 12) ce x y z)) 0 0 := by
  refine MX.of_i (by decide) rfl ?_
  intro zp ze zs zm za zb zt zc zA zQ ls C0 hnm X hl hE
  have hx := C0.1
  have hb := C0.2.1
  have ht := C0.2.2.2.2.1
  have X : Hx D zA zs zs.heap [] (mW tk h Mt hi la ce) := X
  have hl : lv_has ls 4 [(0, .ref (h 0)), (1, .int x), (2, .int y), (3, .int z)] := hl
  obtain ⟨hv1, hv2, hv3, hv4, hv5, hv6, hv7⟩ := id hW
  have hb1 : Mt 20 0 ≤ 6 := hv1
  have hb2 : Mt 0 42 ≤ 9 := hv2
  have hb3 : Mt 0 43 ≤ 20 := hv3
  have hb4 : Mt 0 62 ≤ 6 := hv4
  have hkd : ∀ t, t < Mt 20 0 → Mt 0 t ≤ 3 := fun t ht => by have q := hv5 t ht; rw [pv0] at q; exact q
  have hrt : ∀ i, i < Mt 0 42 → Mt 0 (6 + i) < Mt 20 0 ∧ Mt 0 (15 + i) < Mt 20 0 ∧ Mt 0 (6 + i) ≠ Mt 0 (15 + i) ∧ 1 ≤ Mt 0 (24 + i) ∧ Mt 0 (24 + i) ≤ 9 ∧ Mt 0 (33 + i) ≤ 1 := fun i hi => hv6 i hi
  have htk : ∀ k, k < Mt 0 62 → Mt 0 (44 + k) ≤ 23 ∧ Mt 0 (50 + k) < Mt 20 0 ∧ 1 ≤ Mt 0 (56 + k) ∧ Mt 0 (56 + k) ≤ 60 := fun k hk => hv7 k hk
  obtain ⟨H, hH⟩ : ∃ H, H = zs.heap := ⟨_, rfl⟩
  rw [← hH] at X ⊢
  obtain ⟨locs, hlo⟩ : ∃ L : List Loc, L = [] := ⟨_, rfl⟩
  rw [← hlo] at X ⊢
  refine lv_iload_n hx hb dX7_lay_0 rfl (lv_at hl 1 rfl) ?_
  refine lv_i2l hx hb dX7_lay_1 rfl ?_
  refine g_lconst (n := 0) C0 rfl dX7_lay_2 ?_
  refine lv_ldc2 (v := lN 3) hx hb C0.2.2.2.1 (ht _ tb984) dX7_lay_3 ?_
  refine g_callS (As := [.long (Int32.toInt64 x), .long (lN 0), .long (lN 3)]) (rest := []) (wr := (mW tk h Mt hi la ce)) (C0.sz hl) X (c_X7_in l D tk (Int32.toInt64 x) (lN 0) (lN 3)) ⟨tb885, tb887, tb8, ⟨by decide, by decide, rfl⟩, rfl, rfl, Nat.le_of_ble_eq_true rfl, Nat.le_of_ble_eq_true rfl⟩ tb886 rfl [] [0, 1, 2, 3, 4, 5, 6, 7, 8, 9, 10, 11, 12, 13] rfl rfl rfl rfl rfl (Nat.le_of_ble_eq_true rfl) ⟨Nat.le_of_ble_eq_true rfl, Nat.le_of_ble_eq_true rfl⟩ dX7_lay_6 (fun _ H locs _ X => ?_)
  have X : Hx D zA zs H locs (mW tk h Mt hi la ce) := X
  refine g_top (y := nI (rb (rg x 0 3))) (by rw [inL_rg x (by first | decide | omega) (by first | decide | omega)]) ?_
  refine g_ifneB (x := rg x 0 3) (tgt := 14) C0 dX7_lay_9 rfl (fun c1 => ?_) (fun c2 => ?_)
  · obtain ⟨xq, hk_xqa, hk_xqb, hk_xqc, rfl⟩ := rg_sp c1
    refine lv_aload_n hx hb dX7_lay_14 rfl (lv_at hl 0 rfl) ?_
    refine g_get (v := .ref (h 11)) C0 X kX7 0 23 tb820 rfl rfl rfl dX7_lay_15 ?_
    refine lv_iload_n hx hb dX7_lay_18 rfl (lv_at hl 1 rfl) ?_
    refine g_iald (v := la xq) (i := xq) C0 X 11 0 rfl rfl (by omega) rfl rfl dX7_lay_19 ?_
    refine lv_bipush (v := (-4)) hx hb dX7_lay_20 (by decide) ?_
    refine lv_icmp_ne (tgt := 28) hx hb dX7_lay_22 rfl (fun c3 => ?_) (fun c4 => ?_)
    · refine lv_iload_n hx hb dX7_lay_28 rfl (lv_at hl 2 rfl) ?_
      refine lv_i2l hx hb dX7_lay_29 rfl ?_
      refine g_lconst (n := 0) C0 rfl dX7_lay_30 ?_
      refine lv_aload_n hx hb dX7_lay_31 rfl (lv_at hl 0 rfl) ?_
      refine g_get (v := .ref (h 12)) C0 X kX7 0 24 tb821 rfl rfl rfl dX7_lay_32 ?_
      refine lv_iload_n hx hb dX7_lay_35 rfl (lv_at hl 1 rfl) ?_
      refine g_iald (v := nI (Mt 12 xq)) (i := xq) C0 X 12 0 rfl rfl (by omega) rfl rfl dX7_lay_36 ?_
      refine g_iconst (n := 1) C0 rfl dX7_lay_37 ?_
      refine lv_isub hx hb dX7_lay_38 ?_
      refine lv_i2l hx hb dX7_lay_39 rfl ?_
      refine g_callS (As := [.long (Int32.toInt64 y), .long (lN 0), .long (Int32.toInt64 ((nI (Mt 12 xq)) - (nI 1)))]) (rest := []) (wr := (mW tk h Mt hi la ce)) (C0.sz hl) X (c_X7_in l D tk (Int32.toInt64 y) (lN 0) (Int32.toInt64 ((nI (Mt 12 xq)) - (nI 1)))) ⟨tb885, tb887, tb8, ⟨by decide, by decide, rfl⟩, rfl, rfl, Nat.le_of_ble_eq_true rfl, Nat.le_of_ble_eq_true rfl⟩ tb886 rfl [] [0, 1, 2, 3, 4, 5, 6, 7, 8, 9, 10, 11, 12, 13] rfl rfl rfl rfl rfl (Nat.le_of_ble_eq_true rfl) ⟨Nat.le_of_ble_eq_true rfl, Nat.le_of_ble_eq_true rfl⟩ dX7_lay_40 (fun _ H locs _ X => ?_)
      have X : Hx D zA zs H locs (mW tk h Mt hi la ce) := X
      refine g_top (y := nI (rb (ix y (Mt 12 xq)))) (by rw [inL_ix y (by have := hln xq (by omega); omega)]) ?_
      refine g_ifneB (x := ix y (Mt 12 xq)) (tgt := 49) C0 dX7_lay_43 rfl (fun c5 => ?_) (fun c6 => ?_)
      · obtain ⟨yq, hk_yq, rfl⟩ := ix_sp c5
        have hlx := hln xq (by omega)
        refine lv_aload_n hx hb dX7_lay_49 rfl (lv_at hl 0 rfl) ?_
        refine g_get (v := .ref (h 13)) C0 X kX7 0 25 tb822 rfl rfl rfl dX7_lay_50 ?_
        refine g_bipush (n := 40) C0 (by decide) dX7_lay_53 ?_
        refine lv_iload_n hx hb dX7_lay_55 rfl (lv_at hl 1 rfl) ?_
        refine g_imul (n := 40 * xq) C0 rfl dX7_lay_56 ?_
        refine lv_iload_n hx hb dX7_lay_57 rfl (lv_at hl 2 rfl) ?_
        refine g_iadd (n := (40 * xq) + yq) C0 (by first | rfl | omega) dX7_lay_58 ?_
        refine lv_aload_n hx hb dX7_lay_59 rfl (lv_at hl 0 rfl) ?_
        refine g_get (v := .ref (h 11)) C0 X kX7 0 23 tb820 rfl rfl rfl dX7_lay_60 ?_
        refine lv_iload_n hx hb dX7_lay_63 rfl (lv_at hl 1 rfl) ?_
        refine g_iald (v := la xq) (i := xq) C0 X 11 0 rfl rfl (by omega) rfl rfl dX7_lay_64 ?_
        refine lv_if_ne (tgt := 78) hx hb dX7_lay_65 rfl (fun c7 => ?_) (fun c8 => ?_)
        · refine lv_aload_n hx hb dX7_lay_78 rfl (lv_at hl 0 rfl) ?_
          refine g_get (v := .ref (h 11)) C0 X kX7 0 23 tb820 rfl rfl rfl dX7_lay_79 ?_
          refine lv_iload_n hx hb dX7_lay_82 rfl (lv_at hl 1 rfl) ?_
          refine g_iald (v := la xq) (i := xq) C0 X 11 0 rfl rfl (by omega) rfl rfl dX7_lay_83 ?_
          refine g_iconst (n := 1) C0 rfl dX7_lay_84 ?_
          refine lv_icmp_ne (tgt := 98) hx hb dX7_lay_85 rfl (fun c9 => ?_) (fun c10 => ?_)
          · refine lv_iload_n hx hb dX7_lay_98 rfl (lv_at hl 3 rfl) ?_
            refine g_iast (g := upd ce ((40 * xq) + yq) z) (i := (40 * xq) + yq) C0 X 13 0 rfl rfl (by omega) rfl rfl dX7_lay_99 (fun H locs X => ?_)
            have X : Hx D zA zs H locs (mW tk h Mt hi la (upd ce ((40 * xq) + yq) z)) := X
            refine g_iconst (n := 1) C0 rfl dX7_lay_100 ?_
            exact hE (v := nI 1) () (by rw [m_lay, if_pos c1, tn_nI (k := xq) (by omega), if_neg c3, if_pos c5]) trivial (X.to (by rw [layM, if_pos c1, tn_nI (k := xq) (by omega), if_neg c3, if_pos c5, tn_nI (k := yq) (by omega), narr_2 c7 c9])) dX7_lay_101
          · refine lv_iload_n hx hb dX7_lay_88 rfl (lv_at hl 3 rfl) ?_
            refine g_bipush (n := 16) C0 (by decide) dX7_lay_89 ?_
            refine lv_ishl hx hb dX7_lay_91 ?_
            refine g_bipush (n := 16) C0 (by decide) dX7_lay_92 ?_
            refine lv_ishr hx hb dX7_lay_94 ?_
            refine lv_goto (tgt := 99) hx hb dX7_lay_95 (by decide) ?_
            refine g_iast (g := upd ce ((40 * xq) + yq) ((z <<< ((nI 16) &&& 31)) >>> ((nI 16) &&& 31))) (i := (40 * xq) + yq) C0 X 13 0 rfl rfl (by omega) rfl rfl dX7_lay_99 (fun H locs X => ?_)
            have X : Hx D zA zs H locs (mW tk h Mt hi la (upd ce ((40 * xq) + yq) ((z <<< ((nI 16) &&& 31)) >>> ((nI 16) &&& 31)))) := X
            refine g_iconst (n := 1) C0 rfl dX7_lay_100 ?_
            exact hE (v := nI 1) () (by rw [m_lay, if_pos c1, tn_nI (k := xq) (by omega), if_neg c3, if_pos c5]) trivial (X.to (by rw [layM, if_pos c1, tn_nI (k := xq) (by omega), if_neg c3, if_pos c5, tn_nI (k := yq) (by omega), narr_1 c7 c10, ← sx16])) dX7_lay_101
        · refine lv_iload_n hx hb dX7_lay_68 rfl (lv_at hl 3 rfl) ?_
          refine g_bipush (n := 24) C0 (by decide) dX7_lay_69 ?_
          refine lv_ishl hx hb dX7_lay_71 ?_
          refine g_bipush (n := 24) C0 (by decide) dX7_lay_72 ?_
          refine lv_ishr hx hb dX7_lay_74 ?_
          refine lv_goto (tgt := 99) hx hb dX7_lay_75 (by decide) ?_
          refine g_iast (g := upd ce ((40 * xq) + yq) ((z <<< ((nI 24) &&& 31)) >>> ((nI 24) &&& 31))) (i := (40 * xq) + yq) C0 X 13 0 rfl rfl (by omega) rfl rfl dX7_lay_99 (fun H locs X => ?_)
          have X : Hx D zA zs H locs (mW tk h Mt hi la (upd ce ((40 * xq) + yq) ((z <<< ((nI 24) &&& 31)) >>> ((nI 24) &&& 31)))) := X
          refine g_iconst (n := 1) C0 rfl dX7_lay_100 ?_
          exact hE (v := nI 1) () (by rw [m_lay, if_pos c1, tn_nI (k := xq) (by omega), if_neg c3, if_pos c5]) trivial (X.to (by rw [layM, if_pos c1, tn_nI (k := xq) (by omega), if_neg c3, if_pos c5, tn_nI (k := yq) (by omega), narr_0 (la0 c8), ← sx8])) dX7_lay_101
      · refine lv_bipush (v := (-12)) hx hb dX7_lay_46 (by decide) ?_
        exact hE (v := (-12)) () (by rw [m_lay, if_pos c1, tn_nI (k := xq) (by omega), if_neg c3, if_neg (by rw [c6]; decide)]) trivial (X.to (by rw [layM, if_pos c1, tn_nI (k := xq) (by omega), if_neg c3, if_neg (by rw [c6]; decide)])) dX7_lay_48
    · refine lv_bipush (v := (-11)) hx hb dX7_lay_25 (by decide) ?_
      exact hE (v := (-11)) () (by rw [m_lay, if_pos c1, tn_nI (k := xq) (by omega), if_pos c4]) trivial (X.to (by rw [layM, if_pos c1, tn_nI (k := xq) (by omega), if_pos c4])) dX7_lay_27
  · refine lv_iconst (v := (-1)) hx hb dX7_lay_12 (by decide) ?_
    exact hE (v := (-1)) () (by rw [m_lay, if_neg (by rw [c2]; decide)]) trivial (X.to (by rw [layM, if_neg (by rw [c2]; decide)])) dX7_lay_13
set_option maxHeartbeats 4000000 in
set_option maxRecDepth 100000 in
theorem c_X7_torn (l : Launch) (D : va_G) (tk : Nat → ClassId) (h : Nat → Nat) (Mt : Nat → Nat → Nat) (hi : Int32) (la ce : Nat → Int32) (hW : VW (pgv Mt 0)) : MX l yX7_torn cX7_torn 1 (some .int) ⟨0, 0, 0, 0⟩ D (TYS tk) [.ref (h 0)] (mW tk h Mt hi la ce) (fun (_ : Unit) => True) (fun _ => some (.int (nI (Mt 20 12)))) (fun _ => mW tk h Mt hi la ce) 0 0 := by
  refine MX.of_i (by decide) rfl ?_
  intro zp ze zs zm za zb zt zc zA zQ ls C0 hnm X hl hE
  have hx := C0.1
  have hb := C0.2.1
  have ht := C0.2.2.2.2.1
  have X : Hx D zA zs zs.heap [] (mW tk h Mt hi la ce) := X
  have hl : lv_has ls 1 [(0, .ref (h 0))] := hl
  obtain ⟨hv1, hv2, hv3, hv4, hv5, hv6, hv7⟩ := id hW
  have hb1 : Mt 20 0 ≤ 6 := hv1
  have hb2 : Mt 0 42 ≤ 9 := hv2
  have hb3 : Mt 0 43 ≤ 20 := hv3
  have hb4 : Mt 0 62 ≤ 6 := hv4
  have hkd : ∀ t, t < Mt 20 0 → Mt 0 t ≤ 3 := fun t ht => by have q := hv5 t ht; rw [pv0] at q; exact q
  have hrt : ∀ i, i < Mt 0 42 → Mt 0 (6 + i) < Mt 20 0 ∧ Mt 0 (15 + i) < Mt 20 0 ∧ Mt 0 (6 + i) ≠ Mt 0 (15 + i) ∧ 1 ≤ Mt 0 (24 + i) ∧ Mt 0 (24 + i) ≤ 9 ∧ Mt 0 (33 + i) ≤ 1 := fun i hi => hv6 i hi
  have htk : ∀ k, k < Mt 0 62 → Mt 0 (44 + k) ≤ 23 ∧ Mt 0 (50 + k) < Mt 20 0 ∧ 1 ≤ Mt 0 (56 + k) ∧ Mt 0 (56 + k) ≤ 60 := fun k hk => hv7 k hk
  obtain ⟨H, hH⟩ : ∃ H, H = zs.heap := ⟨_, rfl⟩
  rw [← hH] at X ⊢
  obtain ⟨locs, hlo⟩ : ∃ L : List Loc, L = [] := ⟨_, rfl⟩
  rw [← hlo] at X ⊢
  refine lv_aload_n hx hb dX7_torn_0 rfl (lv_at hl 0 rfl) ?_
  refine g_get (v := .int (nI (Mt 20 12))) C0 X kX7 0 26 tb823 rfl rfl rfl dX7_torn_1 ?_
  exact hE (v := nI (Mt 20 12)) () rfl trivial X dX7_torn_4
set_option maxHeartbeats 4000000 in
set_option maxRecDepth 100000 in
theorem c_X7_fault (l : Launch) (D : va_G) (tk : Nat → ClassId) (h : Nat → Nat) (Mt : Nat → Nat → Nat) (hi : Int32) (la ce : Nat → Int32) (hW : VW (pgv Mt 0)) : MX l yX7_fault cX7_fault 1 (some .int) ⟨0, 0, 0, 0⟩ D (TYS tk) [.ref (h 0)] (mW tk h Mt hi la ce) (fun (_ : Unit) => True) (fun _ => some (.int (nI (Mt 20 4)))) (fun _ => mW tk h Mt hi la ce) 0 0 := by
  refine MX.of_i (by decide) rfl ?_
  intro zp ze zs zm za zb zt zc zA zQ ls C0 hnm X hl hE
  have hx := C0.1
  have hb := C0.2.1
  have ht := C0.2.2.2.2.1
  have X : Hx D zA zs zs.heap [] (mW tk h Mt hi la ce) := X
  have hl : lv_has ls 1 [(0, .ref (h 0))] := hl
  obtain ⟨hv1, hv2, hv3, hv4, hv5, hv6, hv7⟩ := id hW
  have hb1 : Mt 20 0 ≤ 6 := hv1
  have hb2 : Mt 0 42 ≤ 9 := hv2
  have hb3 : Mt 0 43 ≤ 20 := hv3
  have hb4 : Mt 0 62 ≤ 6 := hv4
  have hkd : ∀ t, t < Mt 20 0 → Mt 0 t ≤ 3 := fun t ht => by have q := hv5 t ht; rw [pv0] at q; exact q
  have hrt : ∀ i, i < Mt 0 42 → Mt 0 (6 + i) < Mt 20 0 ∧ Mt 0 (15 + i) < Mt 20 0 ∧ Mt 0 (6 + i) ≠ Mt 0 (15 + i) ∧ 1 ≤ Mt 0 (24 + i) ∧ Mt 0 (24 + i) ≤ 9 ∧ Mt 0 (33 + i) ≤ 1 := fun i hi => hv6 i hi
  have htk : ∀ k, k < Mt 0 62 → Mt 0 (44 + k) ≤ 23 ∧ Mt 0 (50 + k) < Mt 20 0 ∧ 1 ≤ Mt 0 (56 + k) ∧ Mt 0 (56 + k) ≤ 60 := fun k hk => hv7 k hk
  obtain ⟨H, hH⟩ : ∃ H, H = zs.heap := ⟨_, rfl⟩
  rw [← hH] at X ⊢
  obtain ⟨locs, hlo⟩ : ∃ L : List Loc, L = [] := ⟨_, rfl⟩
  rw [← hlo] at X ⊢
  refine lv_aload_n hx hb dX7_fault_0 rfl (lv_at hl 0 rfl) ?_
  refine g_get (v := .int (nI (Mt 20 4))) C0 X kX7 0 8 tb805 rfl rfl rfl dX7_fault_1 ?_
  exact hE (v := nI (Mt 20 4)) () rfl trivial X dX7_fault_4
set_option maxHeartbeats 4000000 in
set_option maxRecDepth 100000 in
theorem c_X7_count (l : Launch) (D : va_G) (tk : Nat → ClassId) (h : Nat → Nat) (Mt : Nat → Nat → Nat) (hi : Int32) (la ce : Nat → Int32) (x : Int32) (hW : VW (pgv Mt 0)) (hk0 : Mt 10 0 ≤ 1) (hk1 : Mt 10 1 ≤ 1) : MX l yX7_count cX7_count 5 (some .int) ⟨0, 0, 0, 0⟩ D (TYS tk) [.ref (h 0), .int x] (mW tk h Mt hi la ce) (fun (_ : Unit) => True) (fun _ => some (.int (m_count (Mt 20 11) (Mt 10 0 + Mt 10 1) (Mt 20 3) (la 0) (Mt 12 0) (pgv Mt 0) x))) (fun _ => mW tk h Mt hi la ce) 0 0 := by
  refine MX.of_i (by decide) rfl ?_
  intro zp ze zs zm za zb zt zc zA zQ ls C0 hnm X hl hE
  have hx := C0.1
  have hb := C0.2.1
  have ht := C0.2.2.2.2.1
  have X : Hx D zA zs zs.heap [] (mW tk h Mt hi la ce) := X
  have hl : lv_has ls 5 [(0, .ref (h 0)), (1, .int x)] := hl
  obtain ⟨hv1, hv2, hv3, hv4, hv5, hv6, hv7⟩ := id hW
  have hb1 : Mt 20 0 ≤ 6 := hv1
  have hb2 : Mt 0 42 ≤ 9 := hv2
  have hb3 : Mt 0 43 ≤ 20 := hv3
  have hb4 : Mt 0 62 ≤ 6 := hv4
  have hkd : ∀ t, t < Mt 20 0 → Mt 0 t ≤ 3 := fun t ht => by have q := hv5 t ht; rw [pv0] at q; exact q
  have hrt : ∀ i, i < Mt 0 42 → Mt 0 (6 + i) < Mt 20 0 ∧ Mt 0 (15 + i) < Mt 20 0 ∧ Mt 0 (6 + i) ≠ Mt 0 (15 + i) ∧ 1 ≤ Mt 0 (24 + i) ∧ Mt 0 (24 + i) ≤ 9 ∧ Mt 0 (33 + i) ≤ 1 := fun i hi => hv6 i hi
  have htk : ∀ k, k < Mt 0 62 → Mt 0 (44 + k) ≤ 23 ∧ Mt 0 (50 + k) < Mt 20 0 ∧ 1 ≤ Mt 0 (56 + k) ∧ Mt 0 (56 + k) ≤ 60 := fun k hk => hv7 k hk
  obtain ⟨H, hH⟩ : ∃ H, H = zs.heap := ⟨_, rfl⟩
  rw [← hH] at X ⊢
  obtain ⟨locs, hlo⟩ : ∃ L : List Loc, L = [] := ⟨_, rfl⟩
  rw [← hlo] at X ⊢
  refine g_iconst (n := 0) C0 rfl dX7_count_0 ?_
  refine lv_istore_n (lv' := [(2, .int (nI 0)), (0, .ref (h 0)), (1, .int x)]) hx hb dX7_count_1 rfl hl (by decide) rfl (fun ls hl => ?_)
  refine g_iconst (n := 0) C0 rfl dX7_count_2 ?_
  refine lv_istore_n (lv' := [(3, .int (nI 0)), (2, .int (nI 0)), (0, .ref (h 0)), (1, .int x)]) hx hb dX7_count_3 rfl hl (by decide) rfl (fun ls hl => ?_)
  refine g_iconst (n := 0) C0 rfl dX7_count_4 ?_
  refine lv_istore (lv' := [(4, .int (nI 0)), (3, .int (nI 0)), (2, .int (nI 0)), (0, .ref (h 0)), (1, .int x)]) hx hb dX7_count_5 hl (by decide) rfl (fun ls hl => ?_)
  have J7 : ∀ (fz : Nat) (i sm : Nat), Mt 0 42 - i < fz → ∀ (hi1 : i ≤ Mt 0 42) (hsm : sm = nsum (pgv Mt 0 3) i) (H : Heap) (locs : List Loc) (ls : Array Slot), Hx D zA zs H locs (mW tk h Mt hi la ce) → lv_has ls 5 [(4, .int (nI i)), (3, .int (nI 0)), (2, .int (nI sm)), (0, .ref (h 0)), (1, .int x)] → W zp l ze ⟨0, 0, 0, 0⟩ zs zm za zb zt zc H locs 0 0 zQ (F0 zm 7 ls []) := by
    intro fz
    induction fz with
    | zero => intro i sm hz; exact absurd hz (Nat.not_lt_zero _)
    | succ fz ih7 =>
      intro i sm hz7 hi1 hsm H locs ls X hl
      refine lv_iload hx hb dX7_count_7 (lv_at hl 0 rfl) ?_
      refine lv_aload_n hx hb dX7_count_9 rfl (lv_at hl 3 rfl) ?_
      refine g_get (v := .ref (h 1)) C0 X kX7 0 0 tb797 rfl rfl rfl dX7_count_10 ?_
      refine g_bipush (n := 42) C0 (by decide) dX7_count_13 ?_
      refine g_iald (v := nI (Mt 0 42)) (i := 42) C0 X 1 0 rfl rfl (by omega) rfl rfl dX7_count_15 ?_
      refine g_icmp_ge (x := i) (y := Mt 0 42) (tgt := 38) C0 (by omega) (by omega) dX7_count_16 rfl (fun c1 => ?_) (fun c2 => ?_)
      · refine g_iconst (n := 0) C0 rfl dX7_count_38 ?_
        refine lv_istore (lv' := [(4, .int (nI 0)), (3, .int (nI 0)), (2, .int (nI sm)), (0, .ref (h 0)), (1, .int x)]) hx hb dX7_count_39 hl (by decide) rfl (fun ls hl => ?_)
        have J41 : ∀ (fz : Nat) (j sn : Nat), Mt 0 62 - j < fz → ∀ (hj1 : j ≤ Mt 0 62) (hsn : sn = nsum (pgv Mt 0 7) j) (H : Heap) (locs : List Loc) (ls : Array Slot), Hx D zA zs H locs (mW tk h Mt hi la ce) → lv_has ls 5 [(4, .int (nI j)), (3, .int (nI sn)), (2, .int (nI sm)), (0, .ref (h 0)), (1, .int x)] → W zp l ze ⟨0, 0, 0, 0⟩ zs zm za zb zt zc H locs 0 0 zQ (F0 zm 41 ls []) := by
          intro fz
          induction fz with
          | zero => intro j sn hz; exact absurd hz (Nat.not_lt_zero _)
          | succ fz ih41 =>
            intro j sn hz41 hj1 hsn H locs ls X hl
            refine lv_iload hx hb dX7_count_41 (lv_at hl 0 rfl) ?_
            refine lv_aload_n hx hb dX7_count_43 rfl (lv_at hl 3 rfl) ?_
            refine g_get (v := .ref (h 1)) C0 X kX7 0 0 tb797 rfl rfl rfl dX7_count_44 ?_
            refine g_bipush (n := 62) C0 (by decide) dX7_count_47 ?_
            refine g_iald (v := nI (Mt 0 62)) (i := 62) C0 X 1 0 rfl rfl (by omega) rfl rfl dX7_count_49 ?_
            refine g_icmp_ge (x := j) (y := Mt 0 62) (tgt := 72) C0 (by omega) (by omega) dX7_count_50 rfl (fun c3 => ?_) (fun c4 => ?_)
            · refine lv_iload_n hx hb dX7_count_72 rfl (lv_at hl 4 rfl) ?_
              by_cases c5 : x = nI 0
              · refine g_swIn (k := 0) (lo' := 0) (tgt := 112) C0 (c5) rfl rfl dX7_count_73 rfl rfl rfl rfl ?_
                refine lv_aload_n hx hb dX7_count_112 rfl (lv_at hl 3 rfl) ?_
                refine g_get (v := .int (nI (Mt 20 11))) C0 X kX7 0 20 tb817 rfl rfl rfl dX7_count_113 ?_
                exact hE (v := nI (Mt 20 11)) () (by rw [m_count]; simp only [if_pos c5, ne01, ne02, ne03, ne04, ne05, ne10, ne12, ne13, ne14, ne15, ne20, ne21, ne23, ne24, ne25, ne30, ne31, ne32, ne34, ne35, ne40, ne41, ne42, ne43, ne45, ne50, ne51, ne52, ne53, ne54]) trivial X dX7_count_116
              by_cases c6 : x = nI 1
              · refine g_swIn (k := 1) (lo' := 0) (tgt := 117) C0 (c6) rfl rfl dX7_count_73 rfl rfl rfl rfl ?_
                refine lv_aload_n hx hb dX7_count_117 rfl (lv_at hl 3 rfl) ?_
                refine g_get (v := .ref (h 10)) C0 X kX7 0 22 tb819 rfl rfl rfl dX7_count_118 ?_
                refine g_iconst (n := 0) C0 rfl dX7_count_121 ?_
                refine g_zald (v := nI (Mt 10 0)) (i := 0) C0 X 10 2 rfl rfl (by omega) rfl rfl dX7_count_122 ?_
                refine g_ifeq (x := Mt 10 0) (tgt := 130) C0 (by omega) dX7_count_123 rfl (fun c7 => ?_) (fun c8 => ?_)
                · refine g_iconst (n := 0) C0 rfl dX7_count_130 ?_
                  refine lv_aload_n hx hb dX7_count_131 rfl (lv_at hl 3 rfl) ?_
                  refine g_get (v := .ref (h 10)) C0 X kX7 0 22 tb819 rfl rfl rfl dX7_count_132 ?_
                  refine g_iconst (n := 1) C0 rfl dX7_count_135 ?_
                  refine g_zald (v := nI (Mt 10 1)) (i := 1) C0 X 10 2 rfl rfl (by omega) rfl rfl dX7_count_136 ?_
                  refine g_ifeq (x := Mt 10 1) (tgt := 144) C0 (by omega) dX7_count_137 rfl (fun c9 => ?_) (fun c10 => ?_)
                  · refine g_iconst (n := 0) C0 rfl dX7_count_144 ?_
                    refine g_iadd (n := 0) C0 (by first | rfl | omega) dX7_count_145 ?_
                    exact hE (v := nI 0) () (by rw [m_count]; simp only [if_neg c5, if_pos c6, ne01, ne02, ne03, ne04, ne05, ne10, ne12, ne13, ne14, ne15, ne20, ne21, ne23, ne24, ne25, ne30, ne31, ne32, ne34, ne35, ne40, ne41, ne42, ne43, ne45, ne50, ne51, ne52, ne53, ne54]; exact congrArg (fun z => some (Value.int (nI z))) (by omega)) trivial X dX7_count_146
                  · refine g_iconst (n := 1) C0 rfl dX7_count_140 ?_
                    refine lv_goto (tgt := 145) hx hb dX7_count_141 (by decide) ?_
                    refine g_iadd (n := 1) C0 (by first | rfl | omega) dX7_count_145 ?_
                    exact hE (v := nI 1) () (by rw [m_count]; simp only [if_neg c5, if_pos c6, ne01, ne02, ne03, ne04, ne05, ne10, ne12, ne13, ne14, ne15, ne20, ne21, ne23, ne24, ne25, ne30, ne31, ne32, ne34, ne35, ne40, ne41, ne42, ne43, ne45, ne50, ne51, ne52, ne53, ne54]; exact congrArg (fun z => some (Value.int (nI z))) (by omega)) trivial X dX7_count_146
                · refine g_iconst (n := 1) C0 rfl dX7_count_126 ?_
                  refine lv_goto (tgt := 131) hx hb dX7_count_127 (by decide) ?_
                  refine lv_aload_n hx hb dX7_count_131 rfl (lv_at hl 3 rfl) ?_
                  refine g_get (v := .ref (h 10)) C0 X kX7 0 22 tb819 rfl rfl rfl dX7_count_132 ?_
                  refine g_iconst (n := 1) C0 rfl dX7_count_135 ?_
                  refine g_zald (v := nI (Mt 10 1)) (i := 1) C0 X 10 2 rfl rfl (by omega) rfl rfl dX7_count_136 ?_
                  refine g_ifeq (x := Mt 10 1) (tgt := 144) C0 (by omega) dX7_count_137 rfl (fun c11 => ?_) (fun c12 => ?_)
                  · refine g_iconst (n := 0) C0 rfl dX7_count_144 ?_
                    refine g_iadd (n := 1) C0 (by first | rfl | omega) dX7_count_145 ?_
                    exact hE (v := nI 1) () (by rw [m_count]; simp only [if_neg c5, if_pos c6, ne01, ne02, ne03, ne04, ne05, ne10, ne12, ne13, ne14, ne15, ne20, ne21, ne23, ne24, ne25, ne30, ne31, ne32, ne34, ne35, ne40, ne41, ne42, ne43, ne45, ne50, ne51, ne52, ne53, ne54]; exact congrArg (fun z => some (Value.int (nI z))) (by omega)) trivial X dX7_count_146
                  · refine g_iconst (n := 1) C0 rfl dX7_count_140 ?_
                    refine lv_goto (tgt := 145) hx hb dX7_count_141 (by decide) ?_
                    refine g_iadd (n := 2) C0 (by first | rfl | omega) dX7_count_145 ?_
                    exact hE (v := nI 2) () (by rw [m_count]; simp only [if_neg c5, if_pos c6, ne01, ne02, ne03, ne04, ne05, ne10, ne12, ne13, ne14, ne15, ne20, ne21, ne23, ne24, ne25, ne30, ne31, ne32, ne34, ne35, ne40, ne41, ne42, ne43, ne45, ne50, ne51, ne52, ne53, ne54]; exact congrArg (fun z => some (Value.int (nI z))) (by omega)) trivial X dX7_count_146
              by_cases c13 : x = nI 2
              · refine g_swIn (k := 2) (lo' := 0) (tgt := 147) C0 (c13) rfl rfl dX7_count_73 rfl rfl rfl rfl ?_
                refine lv_aload_n hx hb dX7_count_147 rfl (lv_at hl 3 rfl) ?_
                refine g_get (v := .int (nI (Mt 20 3))) C0 X kX7 0 7 tb804 rfl rfl rfl dX7_count_148 ?_
                exact hE (v := nI (Mt 20 3)) () (by rw [m_count]; simp only [if_neg c5, if_neg c6, if_pos c13, ne01, ne02, ne03, ne04, ne05, ne10, ne12, ne13, ne14, ne15, ne20, ne21, ne23, ne24, ne25, ne30, ne31, ne32, ne34, ne35, ne40, ne41, ne42, ne43, ne45, ne50, ne51, ne52, ne53, ne54]) trivial X dX7_count_151
              by_cases c14 : x = nI 3
              · refine g_swIn (k := 3) (lo' := 0) (tgt := 152) C0 (c14) rfl rfl dX7_count_73 rfl rfl rfl rfl ?_
                refine lv_aload_n hx hb dX7_count_152 rfl (lv_at hl 3 rfl) ?_
                refine g_get (v := .ref (h 11)) C0 X kX7 0 23 tb820 rfl rfl rfl dX7_count_153 ?_
                refine g_iconst (n := 0) C0 rfl dX7_count_156 ?_
                refine g_iald (v := la 0) (i := 0) C0 X 11 0 rfl rfl (by omega) rfl rfl dX7_count_157 ?_
                refine lv_bipush (v := (-4)) hx hb dX7_count_158 (by decide) ?_
                refine lv_icmp_ne (tgt := 168) hx hb dX7_count_160 rfl (fun c15 => ?_) (fun c16 => ?_)
                · refine lv_aload_n hx hb dX7_count_168 rfl (lv_at hl 3 rfl) ?_
                  refine g_get (v := .ref (h 12)) C0 X kX7 0 24 tb821 rfl rfl rfl dX7_count_169 ?_
                  refine g_iconst (n := 0) C0 rfl dX7_count_172 ?_
                  refine g_iald (v := nI (Mt 12 0)) (i := 0) C0 X 12 0 rfl rfl (by omega) rfl rfl dX7_count_173 ?_
                  exact hE (v := nI (Mt 12 0)) () (by rw [m_count]; simp only [if_neg c5, if_neg c6, if_neg c13, if_pos c14, ne01, ne02, ne03, ne04, ne05, ne10, ne12, ne13, ne14, ne15, ne20, ne21, ne23, ne24, ne25, ne30, ne31, ne32, ne34, ne35, ne40, ne41, ne42, ne43, ne45, ne50, ne51, ne52, ne53, ne54]; rw [if_neg c15]) trivial X dX7_count_174
                · refine lv_bipush (v := (-4)) hx hb dX7_count_163 (by decide) ?_
                  refine lv_goto (tgt := 174) hx hb dX7_count_165 (by decide) ?_
                  exact hE (v := (-4)) () (by rw [m_count]; simp only [if_neg c5, if_neg c6, if_neg c13, if_pos c14, ne01, ne02, ne03, ne04, ne05, ne10, ne12, ne13, ne14, ne15, ne20, ne21, ne23, ne24, ne25, ne30, ne31, ne32, ne34, ne35, ne40, ne41, ne42, ne43, ne45, ne50, ne51, ne52, ne53, ne54]; rw [if_pos c16]) trivial X dX7_count_174
              by_cases c17 : x = nI 4
              · refine g_swIn (k := 4) (lo' := 0) (tgt := 175) C0 (c17) rfl rfl dX7_count_73 rfl rfl rfl rfl ?_
                refine lv_iload_n hx hb dX7_count_175 rfl (lv_at hl 2 rfl) ?_
                exact hE (v := nI sm) () (by rw [m_count]; simp only [if_neg c5, if_neg c6, if_neg c13, if_neg c14, if_pos c17, ne01, ne02, ne03, ne04, ne05, ne10, ne12, ne13, ne14, ne15, ne20, ne21, ne23, ne24, ne25, ne30, ne31, ne32, ne34, ne35, ne40, ne41, ne42, ne43, ne45, ne50, ne51, ne52, ne53, ne54]; rw [hsm, show i = Mt 0 42 by omega]; rfl) trivial X dX7_count_176
              by_cases c18 : x = nI 5
              · refine g_swIn (k := 5) (lo' := 0) (tgt := 177) C0 (c18) rfl rfl dX7_count_73 rfl rfl rfl rfl ?_
                refine lv_iload_n hx hb dX7_count_177 rfl (lv_at hl 1 rfl) ?_
                exact hE (v := nI sn) () (by rw [m_count]; simp only [if_neg c5, if_neg c6, if_neg c13, if_neg c14, if_neg c17, if_pos c18, ne01, ne02, ne03, ne04, ne05, ne10, ne12, ne13, ne14, ne15, ne20, ne21, ne23, ne24, ne25, ne30, ne31, ne32, ne34, ne35, ne40, ne41, ne42, ne43, ne45, ne50, ne51, ne52, ne53, ne54]; rw [hsn, show j = Mt 0 62 by omega]; rfl) trivial X dX7_count_178
              refine g_swOut (n := 6) (lo' := 0) (tgt := 179) C0 (by intro j hj1 hj; rcases (show j = 0 ∨ j = 1 ∨ j = 2 ∨ j = 3 ∨ j = 4 ∨ j = 5 by omega) with rfl | rfl | rfl | rfl | rfl | rfl <;> assumption) rfl dX7_count_73 rfl rfl rfl ?_
              refine lv_iconst (v := (-1)) hx hb dX7_count_179 (by decide) ?_
              exact hE (v := (-1)) () (by rw [m_count]; simp only [if_neg c5, if_neg c6, if_neg c13, if_neg c14, if_neg c17, if_neg c18, ne01, ne02, ne03, ne04, ne05, ne10, ne12, ne13, ne14, ne15, ne20, ne21, ne23, ne24, ne25, ne30, ne31, ne32, ne34, ne35, ne40, ne41, ne42, ne43, ne45, ne50, ne51, ne52, ne53, ne54]) trivial X dX7_count_180
            · have hr := htk j (by omega)
              refine lv_iload_n hx hb dX7_count_53 rfl (lv_at hl 1 rfl) ?_
              refine lv_aload_n hx hb dX7_count_54 rfl (lv_at hl 3 rfl) ?_
              refine g_get (v := .ref (h 1)) C0 X kX7 0 0 tb797 rfl rfl rfl dX7_count_55 ?_
              refine g_bipush (n := 56) C0 (by decide) dX7_count_58 ?_
              refine lv_iload hx hb dX7_count_60 (lv_at hl 0 rfl) ?_
              refine g_iadd (n := 56 + j) C0 (by first | rfl | omega) dX7_count_62 ?_
              refine g_iald (v := nI (Mt 0 (56 + j))) (i := 56 + j) C0 X 1 0 rfl rfl (by omega) rfl rfl dX7_count_63 ?_
              refine g_iadd (n := sn + (Mt 0 (56 + j))) C0 (by first | rfl | omega) dX7_count_64 ?_
              refine lv_istore_n (lv' := [(3, .int (nI (sn + (Mt 0 (56 + j))))), (4, .int (nI j)), (2, .int (nI sm)), (0, .ref (h 0)), (1, .int x)]) hx hb dX7_count_65 rfl hl (by decide) rfl (fun ls hl => ?_)
              refine g_iinc (j := 1) (z := j + 1) (lv' := [(4, .int (nI (j + 1))), (3, .int (nI (sn + (Mt 0 (56 + j))))), (2, .int (nI sm)), (0, .ref (h 0)), (1, .int x)]) C0 rfl (by first | rfl | omega) dX7_count_66 hl (k := 1) rfl (by decide) rfl (fun ls hl => ?_)
              refine lv_goto (tgt := 41) hx hb dX7_count_69 (by decide) ?_
              exact ih41 (j + 1) (sn + (Mt 0 (56 + j))) (by omega) (by omega) (by rw [hsn]; rfl) H locs ls X (lv_sub hl [0, 1, 2, 3, 4] rfl)
        exact J41 ((Mt 0 62 - 0) + 1) 0 0 (Nat.lt_succ_self _) (by omega) (by rfl) H locs ls X (lv_sub hl [0, 1, 2, 3, 4] rfl)
      · have hr := hrt i (by omega)
        refine lv_iload_n hx hb dX7_count_19 rfl (lv_at hl 2 rfl) ?_
        refine lv_aload_n hx hb dX7_count_20 rfl (lv_at hl 3 rfl) ?_
        refine g_get (v := .ref (h 1)) C0 X kX7 0 0 tb797 rfl rfl rfl dX7_count_21 ?_
        refine g_bipush (n := 24) C0 (by decide) dX7_count_24 ?_
        refine lv_iload hx hb dX7_count_26 (lv_at hl 0 rfl) ?_
        refine g_iadd (n := 24 + i) C0 (by first | rfl | omega) dX7_count_28 ?_
        refine g_iald (v := nI (Mt 0 (24 + i))) (i := 24 + i) C0 X 1 0 rfl rfl (by omega) rfl rfl dX7_count_29 ?_
        refine g_iadd (n := sm + (Mt 0 (24 + i))) C0 (by first | rfl | omega) dX7_count_30 ?_
        refine lv_istore_n (lv' := [(2, .int (nI (sm + (Mt 0 (24 + i))))), (4, .int (nI i)), (3, .int (nI 0)), (0, .ref (h 0)), (1, .int x)]) hx hb dX7_count_31 rfl hl (by decide) rfl (fun ls hl => ?_)
        refine g_iinc (j := 1) (z := i + 1) (lv' := [(4, .int (nI (i + 1))), (2, .int (nI (sm + (Mt 0 (24 + i))))), (3, .int (nI 0)), (0, .ref (h 0)), (1, .int x)]) C0 rfl (by first | rfl | omega) dX7_count_32 hl (k := 1) rfl (by decide) rfl (fun ls hl => ?_)
        refine lv_goto (tgt := 7) hx hb dX7_count_35 (by decide) ?_
        exact ih7 (i + 1) (sm + (Mt 0 (24 + i))) (by omega) (by omega) (by rw [hsm]; rfl) H locs ls X (lv_sub hl [0, 2, 1, 3, 4] rfl)
  exact J7 ((Mt 0 42 - 0) + 1) 0 0 (Nat.lt_succ_self _) (by omega) (by rfl) H locs ls X (lv_sub hl [0, 1, 2, 3, 4] rfl)
set_option maxHeartbeats 4000000 in
set_option maxRecDepth 100000 in
theorem c_X7_feed (l : Launch) (D : va_G) (tk : Nat → ClassId) (h : Nat → Nat) (Mt : Nat → Nat → Nat) (hi : Int32) (la ce : Nat → Int32) (x : Int32) (hW : VW (pgv Mt 0)) (htp : Mt 20 3 ≤ 160) : MX l yX7_feed cX7_feed 2 (some .int) ⟨1, 0, 0, 25⟩ D (TYS tk) [.ref (h 0), .int x] (mW tk h Mt hi la ce) (fun (_ : Unit) => True) (fun _ => some (.int (a_feed (Mt 20 3) x))) (fun _ => mW tk h (feedM Mt x) hi la ce) 0 0 := by
  refine MX.of_i (by decide) rfl ?_
  intro zp ze zs zm za zb zt zc zA zQ ls C0 hnm X hl hE
  have hx := C0.1
  have hb := C0.2.1
  have ht := C0.2.2.2.2.1
  have X : Hx D zA zs zs.heap [] (mW tk h Mt hi la ce) := X
  have hl : lv_has ls 2 [(0, .ref (h 0)), (1, .int x)] := hl
  obtain ⟨hv1, hv2, hv3, hv4, hv5, hv6, hv7⟩ := id hW
  have hb1 : Mt 20 0 ≤ 6 := hv1
  have hb2 : Mt 0 42 ≤ 9 := hv2
  have hb3 : Mt 0 43 ≤ 20 := hv3
  have hb4 : Mt 0 62 ≤ 6 := hv4
  have hkd : ∀ t, t < Mt 20 0 → Mt 0 t ≤ 3 := fun t ht => by have q := hv5 t ht; rw [pv0] at q; exact q
  have hrt : ∀ i, i < Mt 0 42 → Mt 0 (6 + i) < Mt 20 0 ∧ Mt 0 (15 + i) < Mt 20 0 ∧ Mt 0 (6 + i) ≠ Mt 0 (15 + i) ∧ 1 ≤ Mt 0 (24 + i) ∧ Mt 0 (24 + i) ≤ 9 ∧ Mt 0 (33 + i) ≤ 1 := fun i hi => hv6 i hi
  have htk : ∀ k, k < Mt 0 62 → Mt 0 (44 + k) ≤ 23 ∧ Mt 0 (50 + k) < Mt 20 0 ∧ 1 ≤ Mt 0 (56 + k) ∧ Mt 0 (56 + k) ≤ 60 := fun k hk => hv7 k hk
  obtain ⟨H, hH⟩ : ∃ H, H = zs.heap := ⟨_, rfl⟩
  rw [← hH] at X ⊢
  obtain ⟨locs, hlo⟩ : ∃ L : List Loc, L = [] := ⟨_, rfl⟩
  rw [← hlo] at X ⊢
  refine lv_iload_n hx hb dX7_feed_0 rfl (lv_at hl 1 rfl) ?_
  refine lv_i2l hx hb dX7_feed_1 rfl ?_
  refine g_lconst (n := 0) C0 rfl dX7_feed_2 ?_
  refine lv_ldc2 (v := lN 127) hx hb C0.2.2.2.1 (ht _ tb884) dX7_feed_3 ?_
  refine g_callS (As := [.long (Int32.toInt64 x), .long (lN 0), .long (lN 127)]) (rest := []) (wr := (mW tk h Mt hi la ce)) (C0.sz hl) X (c_X7_in l D tk (Int32.toInt64 x) (lN 0) (lN 127)) ⟨tb885, tb887, tb8, ⟨by decide, by decide, rfl⟩, rfl, rfl, Nat.le_of_ble_eq_true rfl, Nat.le_of_ble_eq_true rfl⟩ tb886 rfl [] [0, 1, 2, 3, 4, 5, 6, 7, 8, 9, 10, 11, 12, 13] rfl rfl rfl rfl rfl (Nat.le_of_ble_eq_true rfl) ⟨Nat.le_of_ble_eq_true rfl, Nat.le_of_ble_eq_true rfl⟩ dX7_feed_6 (fun _ H locs _ X => ?_)
  have X : Hx D zA zs H locs (mW tk h Mt hi la ce) := X
  refine g_top (y := nI (rb (rg x 0 127))) (by rw [inL_rg x (by first | decide | omega) (by first | decide | omega)]) ?_
  refine g_ifneB (x := rg x 0 127) (tgt := 14) C0 dX7_feed_9 rfl (fun c1 => ?_) (fun c2 => ?_)
  · obtain ⟨xq, hk_xqa, hk_xqb, hk_xqc, rfl⟩ := rg_sp c1
    refine lv_aload_n hx hb dX7_feed_14 rfl (lv_at hl 0 rfl) ?_
    refine g_get (v := .int (nI (Mt 20 3))) C0 X kX7 0 7 tb804 rfl rfl rfl dX7_feed_15 ?_
    refine g_sipush (n := 160) C0 (by decide) dX7_feed_18 ?_
    refine g_icmp_ne (x := Mt 20 3) (y := 160) (tgt := 27) C0 (by omega) (by omega) dX7_feed_21 rfl (fun c3 => ?_) (fun c4 => ?_)
    · refine lv_aload_n hx hb dX7_feed_27 rfl (lv_at hl 0 rfl) ?_
      refine g_get (v := .ref (h 3)) C0 X kX7 0 6 tb803 rfl rfl rfl dX7_feed_28 ?_
      refine lv_aload_n hx hb dX7_feed_31 rfl (lv_at hl 0 rfl) ?_
      refine g_get (v := .int (nI (Mt 20 3))) C0 X kX7 0 7 tb804 rfl rfl rfl dX7_feed_32 ?_
      refine lv_iload_n hx hb dX7_feed_35 rfl (lv_at hl 1 rfl) ?_
      refine g_iast (g := nf (u1 (Mt 2) (Mt 20 3) xq)) (i := Mt 20 3) C0 X 3 0 rfl rfl (by omega) rfl (nf_u1 _ _ _) dX7_feed_36 (fun H locs X => ?_)
      have X : Hx D zA zs H locs (mW tk h (u2 Mt 2 (Mt 20 3) xq) hi la ce) := X
      refine lv_aload_n hx hb dX7_feed_37 rfl (lv_at hl 0 rfl) ?_
      refine lv_dup hx hb dX7_feed_38 rfl ?_
      refine g_get (v := .int (nI (Mt 20 3))) C0 X kX7 0 7 tb804 rfl rfl rfl dX7_feed_39 ?_
      refine g_iconst (n := 1) C0 rfl dX7_feed_42 ?_
      refine g_iadd (n := Mt 20 3 + 1) C0 (by first | rfl | omega) dX7_feed_43 ?_
      refine g_put (v := .int (nI (Mt 20 3 + 1))) (ft := .int) C0 X kX7 0 7 tb804 rfl rfl rfl rfl rfl rfl rfl dX7_feed_44 (fun H locs X => ?_)
      have X : Hx D zA zs H locs (mW tk h (u2 (u2 Mt 2 (Mt 20 3) xq) 20 3 (Mt 20 3 + 1)) hi la ce) := X
      refine lv_aload_n hx hb dX7_feed_47 rfl (lv_at hl 0 rfl) ?_
      refine g_get (v := .int (nI (Mt 20 3 + 1))) C0 X kX7 0 7 tb804 rfl rfl rfl dX7_feed_48 ?_
      exact hE (v := nI (Mt 20 3 + 1)) () (by rw [a_feed, if_pos c1, if_pos (show Mt 20 3 < 160 by omega)]) trivial (X.to (by rw [feedM, if_pos c1, if_pos (show Mt 20 3 < 160 by omega), tn_nI (k := xq) (by omega)])) dX7_feed_51
    · refine lv_bipush (v := (-3)) hx hb dX7_feed_24 (by decide) ?_
      exact hE (v := (-3)) () (by rw [a_feed, if_pos c1, if_neg (show ¬ Mt 20 3 < 160 by omega)]) trivial (X.to (by rw [feedM, if_pos c1, if_neg (show ¬ Mt 20 3 < 160 by omega)])) dX7_feed_26
  · refine lv_iconst (v := (-1)) hx hb dX7_feed_12 (by decide) ?_
    exact hE (v := (-1)) () (by simp only [a_feed, c2, pv80, pv81, pv82, pv83, pv0, pv1, pv2, pv3, pv4, pv5, pv6, pv7, eq_self, ne01, ne02, ne03, ne04, ne05, ne10, ne12, ne13, ne14, ne15, ne20, ne21, ne23, ne24, ne25, ne30, ne31, ne32, ne34, ne35, ne40, ne41, ne42, ne43, ne45, ne50, ne51, ne52, ne53, ne54, if_true, if_false, Bool.false_eq_true, Bool.and_self, Bool.and_true, Bool.and_false, Bool.true_and, Bool.false_and, Bool.not_true, Bool.not_false, decide_true, decide_false] <;> rfl) trivial (X.to (by simp only [feedM, c2, pv80, pv81, pv82, pv83, pv0, pv1, pv2, pv3, pv4, pv5, pv6, pv7, eq_self, ne01, ne02, ne03, ne04, ne05, ne10, ne12, ne13, ne14, ne15, ne20, ne21, ne23, ne24, ne25, ne30, ne31, ne32, ne34, ne35, ne40, ne41, ne42, ne43, ne45, ne50, ne51, ne52, ne53, ne54, if_true, if_false, Bool.false_eq_true, Bool.and_self, Bool.and_true, Bool.and_false, Bool.true_and, Bool.false_and, Bool.not_true, Bool.not_false, decide_true, decide_false] <;> rfl)) dX7_feed_13
set_option maxHeartbeats 4000000 in
set_option maxRecDepth 100000 in
theorem c_X7_end (l : Launch) (D : va_G) (tk : Nat → ClassId) (h : Nat → Nat) (Mt : Nat → Nat → Nat) (hi : Int32) (la ce : Nat → Int32) (x : Int32) (hW : VW (pgv Mt 0)) (htp : Mt 20 3 ≤ 160) : MX l yX7_end cX7_end 3 (some .int) ⟨1, 0, 0, 25⟩ D (TYS tk) [.ref (h 0), .int x] (mW tk h Mt hi la ce) (fun (_ : Unit) => True) (fun _ => some (.int (a_end (Mt 20 3) x))) (fun _ => mW tk h (endM Mt x) hi la ce) 0 0 := by
  refine MX.of_i (by decide) rfl ?_
  intro zp ze zs zm za zb zt zc zA zQ ls C0 hnm X hl hE
  have hx := C0.1
  have hb := C0.2.1
  have ht := C0.2.2.2.2.1
  have X : Hx D zA zs zs.heap [] (mW tk h Mt hi la ce) := X
  have hl : lv_has ls 3 [(0, .ref (h 0)), (1, .int x)] := hl
  obtain ⟨hv1, hv2, hv3, hv4, hv5, hv6, hv7⟩ := id hW
  have hb1 : Mt 20 0 ≤ 6 := hv1
  have hb2 : Mt 0 42 ≤ 9 := hv2
  have hb3 : Mt 0 43 ≤ 20 := hv3
  have hb4 : Mt 0 62 ≤ 6 := hv4
  have hkd : ∀ t, t < Mt 20 0 → Mt 0 t ≤ 3 := fun t ht => by have q := hv5 t ht; rw [pv0] at q; exact q
  have hrt : ∀ i, i < Mt 0 42 → Mt 0 (6 + i) < Mt 20 0 ∧ Mt 0 (15 + i) < Mt 20 0 ∧ Mt 0 (6 + i) ≠ Mt 0 (15 + i) ∧ 1 ≤ Mt 0 (24 + i) ∧ Mt 0 (24 + i) ≤ 9 ∧ Mt 0 (33 + i) ≤ 1 := fun i hi => hv6 i hi
  have htk : ∀ k, k < Mt 0 62 → Mt 0 (44 + k) ≤ 23 ∧ Mt 0 (50 + k) < Mt 20 0 ∧ 1 ≤ Mt 0 (56 + k) ∧ Mt 0 (56 + k) ≤ 60 := fun k hk => hv7 k hk
  obtain ⟨H, hH⟩ : ∃ H, H = zs.heap := ⟨_, rfl⟩
  rw [← hH] at X ⊢
  obtain ⟨locs, hlo⟩ : ∃ L : List Loc, L = [] := ⟨_, rfl⟩
  rw [← hlo] at X ⊢
  refine lv_iload_n hx hb dX7_end_0 rfl (lv_at hl 1 rfl) ?_
  refine lv_i2l hx hb dX7_end_1 rfl ?_
  refine g_lconst (n := 0) C0 rfl dX7_end_2 ?_
  refine lv_aload_n hx hb dX7_end_3 rfl (lv_at hl 0 rfl) ?_
  refine g_get (v := .int (nI (Mt 20 3))) C0 X kX7 0 7 tb804 rfl rfl rfl dX7_end_4 ?_
  refine g_i2l C0 (by omega) dX7_end_7 ?_
  refine g_callS (As := [.long (Int32.toInt64 x), .long (lN 0), .long (lN (Mt 20 3))]) (rest := []) (wr := (mW tk h Mt hi la ce)) (C0.sz hl) X (c_X7_in l D tk (Int32.toInt64 x) (lN 0) (lN (Mt 20 3))) ⟨tb885, tb887, tb8, ⟨by decide, by decide, rfl⟩, rfl, rfl, Nat.le_of_ble_eq_true rfl, Nat.le_of_ble_eq_true rfl⟩ tb886 rfl [] [0, 1, 2, 3, 4, 5, 6, 7, 8, 9, 10, 11, 12, 13] rfl rfl rfl rfl rfl (Nat.le_of_ble_eq_true rfl) ⟨Nat.le_of_ble_eq_true rfl, Nat.le_of_ble_eq_true rfl⟩ dX7_end_8 (fun _ H locs _ X => ?_)
  have X : Hx D zA zs H locs (mW tk h Mt hi la ce) := X
  refine g_top (y := nI (rb (rg x 0 (Mt 20 3)))) (by rw [inL_rg x (by first | decide | omega) (by first | decide | omega)]) ?_
  refine g_ifneB (x := rg x 0 (Mt 20 3)) (tgt := 16) C0 dX7_end_11 rfl (fun c1 => ?_) (fun c2 => ?_)
  · obtain ⟨xq, hk_xqa, hk_xqb, hk_xqc, rfl⟩ := rg_sp c1
    refine lv_aload_n hx hb dX7_end_16 rfl (lv_at hl 0 rfl) ?_
    refine g_get (v := .int (nI (Mt 20 3))) C0 X kX7 0 7 tb804 rfl rfl rfl dX7_end_17 ?_
    refine lv_istore_n (lv' := [(2, .int (nI (Mt 20 3))), (0, .ref (h 0)), (1, .int (nI xq))]) hx hb dX7_end_20 rfl hl (by decide) rfl (fun ls hl => ?_)
    refine lv_aload_n hx hb dX7_end_21 rfl (lv_at hl 1 rfl) ?_
    refine lv_iload_n hx hb dX7_end_22 rfl (lv_at hl 2 rfl) ?_
    refine g_put (v := .int (nI xq)) (ft := .int) C0 X kX7 0 7 tb804 rfl rfl rfl rfl rfl rfl rfl dX7_end_23 (fun H locs X => ?_)
    have X : Hx D zA zs H locs (mW tk h (u2 Mt 20 3 xq) hi la ce) := X
    refine lv_iload_n hx hb dX7_end_26 rfl (lv_at hl 0 rfl) ?_
    exact hE (v := nI (Mt 20 3)) () (by simp only [a_end, c1, tn_nI (k := xq) (by omega), if_true, if_false, Bool.false_eq_true, Bool.and_self, Bool.and_true, Bool.and_false, Bool.true_and, Bool.false_and, Bool.not_true, Bool.not_false, decide_true, decide_false]) trivial (X.to (by simp only [endM, c1, tn_nI (k := xq) (by omega), if_true, if_false, Bool.false_eq_true, Bool.and_self, Bool.and_true, Bool.and_false, Bool.true_and, Bool.false_and, Bool.not_true, Bool.not_false, decide_true, decide_false])) dX7_end_27
  · refine lv_iconst (v := (-1)) hx hb dX7_end_14 (by decide) ?_
    exact hE (v := (-1)) () (by simp only [a_end, c2, if_true, if_false, Bool.false_eq_true, Bool.and_self, Bool.and_true, Bool.and_false, Bool.true_and, Bool.false_and, Bool.not_true, Bool.not_false, decide_true, decide_false]) trivial (X.to (by simp only [endM, c2, if_true, if_false, Bool.false_eq_true, Bool.and_self, Bool.and_true, Bool.and_false, Bool.true_and, Bool.false_and, Bool.not_true, Bool.not_false, decide_true, decide_false])) dX7_end_15
