set_option maxHeartbeats 4000000 in
set_option maxRecDepth 100000 in
theorem c_X6_drift (l : Launch) (D : va_G) (tk : Nat → ClassId) (a : Nat) (hL hT : Nat → Nat) (im bs rd : Nat) (hS : Nat → Nat) (sh kb rf : Nat) (G : Nat → Nat → Nat) (d e : Nat → Nat) (T : Nat → Nat → Nat) (td te : Nat → Nat) (x y z : Int32) (hw : GW G) : MX l yX6_drift cX6_drift 10 (some .int) ⟨5, 0, 0, 133⟩ D (TYS tk) [.ref a, .int x, .int y, .int z] (lW a hL hT im bs rd hS sh kb rf ++ gW tk hL G d e ++ gW tk hT T td te) (fun (u : (Nat → Nat) × (Nat → Nat) × (Nat → Nat → Nat) × (Nat → Nat) × (Nat → Nat)) => True) (fun u => some (.int (a_drift (cgv G) x y z))) (fun u => lW a hL hT im bs rd hS sh kb rf ++ gW tk hL G u.1 u.2.1 ++ gW tk hT u.2.2.1 u.2.2.2.1 u.2.2.2.2) 0 0 := by
  refine MX.of_i (by decide) rfl ?_
  intro zp ze zs zm za zb zt zc zA zQ ls C0 hnm X hl hE
  have hx := C0.1
  have hb := C0.2.1
  have ht := C0.2.2.2.2.1
  have X : Hx D zA zs zs.heap [] (lW a hL hT im bs rd hS sh kb rf ++ gW tk hL G d e ++ gW tk hT T td te) := X
  have hl : lv_has ls 10 [(0, .ref a), (1, .int x), (2, .int y), (3, .int z)] := hl
  obtain ⟨hw1, hw2, hw3, hw4, hw5, hw6, hw7, hw8⟩ := id hw
  have hw0 := hw.cut
  obtain ⟨H, hH⟩ : ∃ H, H = zs.heap := ⟨_, rfl⟩
  rw [← hH] at X ⊢
  obtain ⟨locs, hlo⟩ : ∃ L : List Loc, L = [] := ⟨_, rfl⟩
  rw [← hlo] at X ⊢
  refine lv_iload_n hx hb dX6_drift_0 rfl (lv_at hl 2 rfl) ?_
  refine g_iconst (n := 1) C0 rfl dX6_drift_1 ?_
  refine g_bipush (n := 60) C0 (by decide) dX6_drift_2 ?_
  refine g_callS (As := [.int y, .int (nI 1), .int (nI 60)]) (rest := []) (wr := (lW a hL hT im bs rd hS sh kb rf ++ gW tk hL G d e ++ gW tk hT T td te)) (C0.sz hl) X (c_X6_within l D tk y (nI 1) (nI 60)) ⟨tb232, tb234, tb1, ⟨by decide, by decide, rfl⟩, rfl, rfl, Nat.le_of_ble_eq_true rfl, Nat.le_of_ble_eq_true rfl⟩ tb233 rfl [] [0, 1, 2, 3, 4, 5, 6, 7, 8, 9, 10, 11, 12, 13, 14, 15, 16, 17, 18, 19, 20] rfl rfl rfl rfl rfl (Nat.le_of_ble_eq_true rfl) ⟨Nat.le_of_ble_eq_true rfl, Nat.le_of_ble_eq_true rfl⟩ dX6_drift_4 (fun _ H locs _ X => ?_)
  have X : Hx D zA zs H locs (lW a hL hT im bs rd hS sh kb rf ++ gW tk hL G d e ++ gW tk hT T td te) := X
  refine g_top (y := nI (rb (rg y 1 60))) (by rw [inI_rg y (by first | decide | omega) (by first | decide | omega)]) ?_
  refine g_ifeqB (x := rg y 1 60) (tgt := 17) C0 dX6_drift_7 rfl (fun c1 => ?_) (fun c2 => ?_)
  · refine lv_iconst (v := (-1)) hx hb dX6_drift_17 (by decide) ?_
    exact hE (v := (-1)) (d, e, T, td, te) (by simp [a_drift, cg0, cg1, cg2, cg3, cg5, cg6, cg7, cg8, c1]) trivial X dX6_drift_18
  · obtain ⟨yq, hk_yqa, hk_yqb, hk_yqc, rfl⟩ := rg_sp c2
    refine lv_iload_n hx hb dX6_drift_10 rfl (lv_at hl 3 rfl) ?_
    refine g_callS (As := [.int z]) (rest := []) (wr := (lW a hL hT im bs rd hS sh kb rf ++ gW tk hL G d e ++ gW tk hT T td te)) (C0.sz hl) X (c_X6_isEither l D tk z) ⟨tb582, tb584, tb1, ⟨by decide, by decide, rfl⟩, rfl, rfl, Nat.le_of_ble_eq_true rfl, Nat.le_of_ble_eq_true rfl⟩ tb583 rfl [] [0, 1, 2, 3, 4, 5, 6, 7, 8, 9, 10, 11, 12, 13, 14, 15, 16, 17, 18, 19, 20] rfl rfl rfl rfl rfl (Nat.le_of_ble_eq_true rfl) ⟨Nat.le_of_ble_eq_true rfl, Nat.le_of_ble_eq_true rfl⟩ dX6_drift_11 (fun _ H locs _ X => ?_)
    have X : Hx D zA zs H locs (lW a hL hT im bs rd hS sh kb rf ++ gW tk hL G d e ++ gW tk hT T td te) := X
    refine g_ifneB (x := rg z 0 1) (tgt := 19) C0 dX6_drift_14 rfl (fun c3 => ?_) (fun c4 => ?_)
    · obtain ⟨zq, hk_zqa, hk_zqb, hk_zqc, rfl⟩ := rg_sp c3
      refine lv_aload_n hx hb dX6_drift_19 rfl (lv_at hl 0 rfl) ?_
      refine g_get (v := .ref (hL 0)) C0 X kX6 0 0 tb200 rfl rfl rfl dX6_drift_20 ?_
      refine g_get (v := .int (nI (G 8 1))) C0 X kX1 1 2 tb39 rfl rfl rfl dX6_drift_23 ?_
      refine lv_istore (lv' := [(4, .int (nI (G 8 1))), (0, .ref a), (1, .int x), (2, .int (nI yq)), (3, .int (nI zq))]) hx hb dX6_drift_26 hl (by decide) rfl (fun ls hl => ?_)
      refine lv_iload hx hb dX6_drift_28 (lv_at hl 0 rfl) ?_
      refine g_ifne (x := G 8 1) (tgt := 36) C0 (by omega) dX6_drift_30 rfl (fun c5 => ?_) (fun c6 => ?_)
      · refine lv_aload_n hx hb dX6_drift_36 rfl (lv_at hl 1 rfl) ?_
        refine g_get (v := .ref (hT 0)) C0 X kX6 0 1 tb201 rfl rfl rfl dX6_drift_37 ?_
        refine lv_aload_n hx hb dX6_drift_40 rfl (lv_at hl 1 rfl) ?_
        refine g_get (v := .ref (hL 0)) C0 X kX6 0 0 tb200 rfl rfl rfl dX6_drift_41 ?_
        refine g_callV (As := [.ref (hL 0)]) (rest := []) (wr := (lW a hL hT im bs rd hS sh kb rf)) (C0.sz hl) X (c_X1_become l D tk hT T td te hL G d e) ⟨tb392, tb395, tb2, ⟨by decide, by decide, rfl⟩, rfl, rfl, Nat.le_of_ble_eq_true rfl, Nat.le_of_ble_eq_true rfl⟩ tb393 tb394 11 1 rfl rfl rfl rfl [11, 12, 13, 14, 15, 16, 17, 18, 19, 20, 1, 2, 3, 4, 5, 6, 7, 8, 9, 10] [0] rfl rfl rfl rfl rfl (Nat.le_of_ble_eq_true rfl) ⟨Nat.le_of_ble_eq_true rfl, Nat.le_of_ble_eq_true rfl⟩ dX6_drift_44 (fun _ H locs _ X => ?_)
        have X : Hx D zA zs H locs (lW a hL hT im bs rd hS sh kb rf ++ gW tk hT G td te ++ gW tk hL G d e) := X
        have X : Hx D zA zs H locs (lW a hL hT im bs rd hS sh kb rf ++ gW tk hL G d e ++ gW tk hT G td te) := X.sub [0, 11, 12, 13, 14, 15, 16, 17, 18, 19, 20, 1, 2, 3, 4, 5, 6, 7, 8, 9, 10] rfl rfl
        refine lv_iload_n hx hb dX6_drift_47 rfl (lv_at hl 2 rfl) ?_
        refine lv_istore (lv' := [(5, .int x), (4, .int (nI (G 8 1))), (0, .ref a), (1, .int x), (2, .int (nI yq)), (3, .int (nI zq))]) hx hb dX6_drift_48 hl (by decide) rfl (fun ls hl => ?_)
        refine g_iconst (n := 0) C0 rfl dX6_drift_50 ?_
        refine lv_istore (lv' := [(6, .int (nI 0)), (5, .int x), (4, .int (nI (G 8 1))), (0, .ref a), (1, .int x), (2, .int (nI yq)), (3, .int (nI zq))]) hx hb dX6_drift_51 hl (by decide) rfl (fun ls hl => ?_)
        refine g_iconst (n := 0) C0 rfl dX6_drift_53 ?_
        refine lv_istore (lv' := [(7, .int (nI 0)), (6, .int (nI 0)), (5, .int x), (4, .int (nI (G 8 1))), (0, .ref a), (1, .int x), (2, .int (nI yq)), (3, .int (nI zq))]) hx hb dX6_drift_54 hl (by decide) rfl (fun ls hl => ?_)
        refine g_iconst (n := 0) C0 rfl dX6_drift_56 ?_
        refine lv_istore (lv' := [(8, .int (nI 0)), (7, .int (nI 0)), (6, .int (nI 0)), (5, .int x), (4, .int (nI (G 8 1))), (0, .ref a), (1, .int x), (2, .int (nI yq)), (3, .int (nI zq))]) hx hb dX6_drift_57 hl (by decide) rfl (fun ls hl => ?_)
        have J59 : ∀ (fz : Nat) (i cb wv sm la : Nat) (st1 : Int32) (d1 e1 : Nat → Nat), yq - i < fz → ∀ (hi : i ≤ yq) (hst : st1 = drs x i) (hcb : cb < 2 ^ G 8 1) (hv : cgv (u2 (u2 G 4 0 cb) 8 2 wv) = drv (cgv G) x i) (hsm : sm = nsum (fun k => hearersS (drv (cgv G) x (k + 1))) i) (hla : 0 < i → la = hearersS (drv (cgv G) x i)) (H : Heap) (locs : List Loc) (ls : Array Slot), Hx D zA zs H locs (lW a hL hT im bs rd hS sh kb rf ++ gW tk hL G d e ++ gW tk hT (u2 (u2 G 4 0 cb) 8 2 wv) d1 e1) → lv_has ls 10 [(8, .int (nI i)), (7, .int (nI la)), (6, .int (nI sm)), (5, .int st1), (4, .int (nI (G 8 1))), (0, .ref a), (1, .int x), (2, .int (nI yq)), (3, .int (nI zq))] → W zp l ze ⟨5, 0, 0, 133⟩ zs zm za zb zt zc H locs 0 0 zQ (F0 zm 59 ls []) := by
          intro fz
          induction fz with
          | zero => intro i cb wv sm la st1 d1 e1 hz; exact absurd hz (Nat.not_lt_zero _)
          | succ fz ih59 =>
            intro i cb wv sm la st1 d1 e1 hz59 hi hst hcb hv hsm hla H locs ls X hl
            refine lv_iload hx hb dX6_drift_59 (lv_at hl 0 rfl) ?_
            refine lv_iload_n hx hb dX6_drift_61 rfl (lv_at hl 7 rfl) ?_
            refine g_icmp_ge (x := i) (y := yq) (tgt := 144) C0 (by omega) (by omega) dX6_drift_62 rfl (fun c7 => ?_) (fun c8 => ?_)
            · refine lv_iload_n hx hb dX6_drift_144 rfl (lv_at hl 8 rfl) ?_
              refine g_ifne (x := zq) (tgt := 153) C0 (by omega) dX6_drift_145 rfl (fun c9 => ?_) (fun c10 => ?_)
              · refine lv_iload hx hb dX6_drift_153 (lv_at hl 1 rfl) ?_
                exact hE (v := nI la) (d, e, (u2 (u2 G 4 0 cb) 8 2 wv), d1, e1) (by rw [a_drift, c2, c3, if_pos (show (true && true) = true from rfl), cg8, if_neg (by omega), tn_nI (k := yq) (by omega), tn_nI (k := zq) (by omega), if_neg (by omega), hla (by omega), show yq = i by omega]) trivial X dX6_drift_155
              · refine lv_iload hx hb dX6_drift_148 (lv_at hl 2 rfl) ?_
                refine lv_goto (tgt := 155) hx hb dX6_drift_150 (by decide) ?_
                exact hE (v := nI sm) (d, e, (u2 (u2 G 4 0 cb) 8 2 wv), d1, e1) (by rw [a_drift, c2, c3, if_pos (show (true && true) = true from rfl), cg8, if_neg (by omega), tn_nI (k := yq) (by omega), tn_nI (k := zq) (by omega), if_pos c10, hsm, show yq = i by omega]) trivial X dX6_drift_155
            · refine lv_iload hx hb dX6_drift_65 (lv_at hl 3 rfl) ?_
              refine lv_ldcw (v := (1103515245 : Int32)) hx hb C0.2.2.2.1 (ht _ tb719) dX6_drift_67 ?_
              refine lv_imul hx hb dX6_drift_70 ?_
              refine g_sipush (n := 12345) C0 (by decide) dX6_drift_71 ?_
              refine lv_iadd hx hb dX6_drift_74 ?_
              refine lv_topi (fun st2 est2 => ?_)
              refine lv_istore (lv' := [(5, .int st2), (8, .int (nI i)), (7, .int (nI la)), (6, .int (nI sm)), (4, .int (nI (G 8 1))), (0, .ref a), (1, .int x), (2, .int (nI yq)), (3, .int (nI zq))]) hx hb dX6_drift_75 hl (by decide) rfl (fun ls hl => ?_)
              refine lv_iload hx hb dX6_drift_77 (lv_at hl 0 rfl) ?_
              refine g_bipush (n := 16) C0 (by decide) dX6_drift_79 ?_
              refine lv_ishr hx hb dX6_drift_81 ?_
              refine g_sipush (n := 32767) C0 (by decide) dX6_drift_82 ?_
              refine lv_iand hx hb dX6_drift_85 ?_
              obtain ⟨g1, hg1⟩ : ∃ z, z = gotS st2 := ⟨_, rfl⟩
              refine g_top (y := nI g1) (by rw [hg1]; exact pk_and _ 15 (by decide)) ?_
              have hgl : g1 < 32768 := by rw [hg1]; exact gotS_lt st2
              have hmod := Nat.mod_lt g1 (show 0 < G 8 1 by omega)
              refine lv_istore (lv' := [(9, .int (nI g1)), (5, .int st2), (8, .int (nI i)), (7, .int (nI la)), (6, .int (nI sm)), (4, .int (nI (G 8 1))), (0, .ref a), (1, .int x), (2, .int (nI yq)), (3, .int (nI zq))]) hx hb dX6_drift_86 hl (by decide) rfl (fun ls hl => ?_)
              refine lv_aload_n hx hb dX6_drift_88 rfl (lv_at hl 6 rfl) ?_
              refine g_get (v := .ref (hT 0)) C0 X kX6 0 1 tb201 rfl rfl rfl dX6_drift_89 ?_
              refine lv_dup hx hb dX6_drift_92 rfl ?_
              refine g_get (v := .int (nI cb)) C0 X kX1 11 6 tb47 rfl rfl rfl dX6_drift_93 ?_
              refine g_iconst (n := 1) C0 rfl dX6_drift_96 ?_
              refine lv_iload hx hb dX6_drift_97 (lv_at hl 0 rfl) ?_
              refine lv_iload hx hb dX6_drift_99 (lv_at hl 5 rfl) ?_
              refine g_irem (n := g1 % (G 8 1)) C0 (by omega) rfl dX6_drift_101 ?_
              refine g_ishl (n := 2 ^ (g1 % (G 8 1))) C0 (by exact sh_ok (by omega)) (by first | exact Nat.one_mul _ | rfl) dX6_drift_102 ?_
              refine g_ixor (n := cb ^^^ (2 ^ (g1 % (G 8 1)))) C0 rfl dX6_drift_103 ?_
              refine g_put (v := .int (nI (cb ^^^ (2 ^ (g1 % (G 8 1)))))) (ft := .int) C0 X kX1 11 6 tb47 rfl rfl rfl rfl rfl rfl rfl dX6_drift_104 (fun H locs X => ?_)
              have X : Hx D zA zs H locs (lW a hL hT im bs rd hS sh kb rf ++ gW tk hL G d e ++ gW tk hT (u2 (u2 G 8 2 wv) 4 0 (cb ^^^ (2 ^ (g1 % (G 8 1))))) d1 e1) := X
              refine lv_aload_n hx hb dX6_drift_107 rfl (lv_at hl 6 rfl) ?_
              refine g_get (v := .ref (hT 0)) C0 X kX6 0 1 tb201 rfl rfl rfl dX6_drift_108 ?_
              refine lv_iload hx hb dX6_drift_111 (lv_at hl 0 rfl) ?_
              refine g_bipush (n := 16) C0 (by decide) dX6_drift_113 ?_
              refine g_idiv (n := g1 / 16) C0 (by omega) rfl dX6_drift_115 ?_
              refine g_bipush (n := 21) C0 (by decide) dX6_drift_116 ?_
              refine g_irem (n := (g1 / 16) % 21) C0 (by omega) rfl dX6_drift_118 ?_
              refine g_put (v := .int (nI ((g1 / 16) % 21))) (ft := .int) C0 X kX1 11 7 tb49 rfl rfl rfl rfl rfl rfl rfl dX6_drift_119 (fun H locs X => ?_)
              have X : Hx D zA zs H locs (lW a hL hT im bs rd hS sh kb rf ++ gW tk hL G d e ++ gW tk hT (u2 (u2 G 4 0 (cb ^^^ (2 ^ (g1 % (G 8 1))))) 8 2 ((g1 / 16) % 21)) d1 e1) := X
              refine lv_aload_n hx hb dX6_drift_122 rfl (lv_at hl 6 rfl) ?_
              refine g_get (v := .ref (hT 0)) C0 X kX6 0 1 tb201 rfl rfl rfl dX6_drift_123 ?_
              refine g_callV (As := []) (rest := []) (wr := (lW a hL hT im bs rd hS sh kb rf ++ gW tk hL G d e)) (C0.sz hl) X (c_X1_hearersOfAllTalks l D tk hT (u2 (u2 G 4 0 (cb ^^^ (2 ^ (g1 % (G 8 1))))) 8 2 ((g1 / 16) % 21)) d1 e1 (by exact (hw.cutu (xor_lt hcb (Nat.pow_lt_pow_right (by decide) hmod))).windu (by omega))) ⟨tb620, tb623, tb2, ⟨by decide, by decide, rfl⟩, rfl, rfl, Nat.le_of_ble_eq_true rfl, Nat.le_of_ble_eq_true rfl⟩ tb621 tb622 11 1 rfl rfl rfl rfl [11, 12, 13, 14, 15, 16, 17, 18, 19, 20] [0, 1, 2, 3, 4, 5, 6, 7, 8, 9, 10] rfl rfl rfl rfl rfl (Nat.le_of_ble_eq_true rfl) ⟨Nat.le_of_ble_eq_true rfl, Nat.le_of_ble_eq_true rfl⟩ dX6_drift_126 (fun uq11 H locs _ X => ?_)
              have X : Hx D zA zs H locs (lW a hL hT im bs rd hS sh kb rf ++ gW tk hL G d e ++ gW tk hT (u2 (u2 G 4 0 (cb ^^^ (2 ^ (g1 % (G 8 1))))) 8 2 ((g1 / 16) % 21)) uq11.1 uq11.2) := X
              refine lv_istore (lv' := [(7, .int (nI (hearersS (cgv (u2 (u2 G 4 0 (cb ^^^ (2 ^ (g1 % (G 8 1))))) 8 2 ((g1 / 16) % 21)))))), (9, .int (nI g1)), (5, .int st2), (8, .int (nI i)), (6, .int (nI sm)), (4, .int (nI (G 8 1))), (0, .ref a), (1, .int x), (2, .int (nI yq)), (3, .int (nI zq))]) hx hb dX6_drift_129 hl (by decide) rfl (fun ls hl => ?_)
              refine lv_iload hx hb dX6_drift_131 (lv_at hl 4 rfl) ?_
              refine lv_iload hx hb dX6_drift_133 (lv_at hl 0 rfl) ?_
              refine g_iadd (n := sm + (hearersS (cgv (u2 (u2 G 4 0 (cb ^^^ (2 ^ (g1 % (G 8 1))))) 8 2 ((g1 / 16) % 21))))) C0 (by first | rfl | omega) dX6_drift_135 ?_
              refine lv_istore (lv' := [(6, .int (nI (sm + (hearersS (cgv (u2 (u2 G 4 0 (cb ^^^ (2 ^ (g1 % (G 8 1))))) 8 2 ((g1 / 16) % 21))))))), (7, .int (nI (hearersS (cgv (u2 (u2 G 4 0 (cb ^^^ (2 ^ (g1 % (G 8 1))))) 8 2 ((g1 / 16) % 21)))))), (9, .int (nI g1)), (5, .int st2), (8, .int (nI i)), (4, .int (nI (G 8 1))), (0, .ref a), (1, .int x), (2, .int (nI yq)), (3, .int (nI zq))]) hx hb dX6_drift_136 hl (by decide) rfl (fun ls hl => ?_)
              refine g_iinc (j := 1) (z := i + 1) (lv' := [(8, .int (nI (i + 1))), (6, .int (nI (sm + (hearersS (cgv (u2 (u2 G 4 0 (cb ^^^ (2 ^ (g1 % (G 8 1))))) 8 2 ((g1 / 16) % 21))))))), (7, .int (nI (hearersS (cgv (u2 (u2 G 4 0 (cb ^^^ (2 ^ (g1 % (G 8 1))))) 8 2 ((g1 / 16) % 21)))))), (9, .int (nI g1)), (5, .int st2), (4, .int (nI (G 8 1))), (0, .ref a), (1, .int x), (2, .int (nI yq)), (3, .int (nI zq))]) C0 rfl (by first | rfl | omega) dX6_drift_138 hl (k := 4) rfl (by decide) rfl (fun ls hl => ?_)
              refine lv_goto (tgt := 59) hx hb dX6_drift_141 (by decide) ?_
              exact ih59 (i + 1) (cb ^^^ (2 ^ (g1 % (G 8 1)))) ((g1 / 16) % 21) (sm + (hearersS (cgv (u2 (u2 G 4 0 (cb ^^^ (2 ^ (g1 % (G 8 1))))) 8 2 ((g1 / 16) % 21))))) (hearersS (cgv (u2 (u2 G 4 0 (cb ^^^ (2 ^ (g1 % (G 8 1))))) 8 2 ((g1 / 16) % 21)))) st2 uq11.1 uq11.2 (by omega) (by omega) (by rw [est2, hst]; rfl) (by exact xor_lt hcb (Nat.pow_lt_pow_right (by decide) hmod)) (by rw [hg1, est2, hst]; exact drv_s hv) (by rw [hsm, hg1, est2, hst, drv_s hv]; rfl) (by intro _; rw [hg1, est2, hst, drv_s hv]) H locs ls X (lv_sub hl [0, 2, 1, 4, 5, 6, 7, 8, 9] rfl)
        exact J59 ((yq - 0) + 1) 0 (G 4 0) (G 8 2) 0 0 x td te (Nat.lt_succ_self _) (by omega) (by rfl) (by exact hw5) (by exact drv_0 G) (by rfl) (by intro h; exact absurd h (by decide)) H locs ls X (lv_sub hl [0, 1, 2, 3, 4, 5, 6, 7, 8] rfl)
      · refine lv_bipush (v := (-2)) hx hb dX6_drift_33 (by decide) ?_
        exact hE (v := (-2)) (d, e, T, td, te) (by simp [a_drift, cg0, cg1, cg2, cg3, cg5, cg6, cg7, cg8, c2, c3, c6, tn_nI (k := yq) (by omega), tn_nI (k := zq) (by omega)]) trivial X dX6_drift_35
    · refine lv_iconst (v := (-1)) hx hb dX6_drift_17 (by decide) ?_
      exact hE (v := (-1)) (d, e, T, td, te) (by simp [a_drift, cg0, cg1, cg2, cg3, cg5, cg6, cg7, cg8, c2, c4, tn_nI (k := yq) (by omega)]) trivial X dX6_drift_18
