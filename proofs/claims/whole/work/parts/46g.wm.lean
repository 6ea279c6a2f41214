set_option maxHeartbeats 4000000 in
set_option maxRecDepth 100000 in
theorem c_X7_readMore (l : Launch) (D : va_G) (tk : Nat → ClassId) (h : Nat → Nat) (Mt : Nat → Nat → Nat) (hi : Int32) (la ce : Nat → Int32) (n : Nat) (k : Nat) (hq3 : Mt 20 3 = n) (hn : n ≤ 160) (ht8 : ∀ j, j < n → Mt 2 j < 128) (hI : MI n (Mt 20)) (hk : k ≤ 6) (hp : MP (Mt 20) (Mt 1)) (hf : mFull (Mt 20) (Mt 1) k = false) : MX l yX7_readMore cX7_readMore 3 none ⟨5, 0, 0, 112⟩ D (TYS tk) [.ref (h 0), .int (nI k)] (mW tk h Mt hi la ce) (fun (_ : Unit) => True) (fun _ => none) (fun _ => mW tk h (u3 (u3 Mt 20 (mMoreQ (Mt 2) n (Mt 20) k)) 1 (mMoreP (Mt 2) n (Mt 20) (Mt 1) k)) (mMoreH (Mt 2) n (Mt 20) hi k) la ce) 0 0 := by
  refine MX.of_v (by decide) rfl ?_
  intro zp ze zs zm za zb zt zc zA zQ ls C0 hnm X hl hE
  have hx := C0.1
  have hb := C0.2.1
  have ht := C0.2.2.2.2.1
  have X : Hx D zA zs zs.heap [] (mW tk h Mt hi la ce) := X
  have hl : lv_has ls 3 [(0, .ref (h 0)), (1, .int (nI k))] := hl
  obtain ⟨hm1, hm2, hm3, hm4, hm5⟩ := id hI
  obtain ⟨hp1, hp2, hp3, hp4⟩ := id hp
  obtain ⟨hf1, hf2, hf3⟩ := mFull_f hf
  obtain ⟨H, hH⟩ : ∃ H, H = zs.heap := ⟨_, rfl⟩
  rw [← hH] at X ⊢
  obtain ⟨locs, hlo⟩ : ∃ L : List Loc, L = [] := ⟨_, rfl⟩
  rw [← hlo] at X ⊢
  refine lv_iload_n hx hb dX7_readMore_0 rfl (lv_at hl 1 rfl) ?_
  refine g_iconst (n := 3) C0 rfl dX7_readMore_1 ?_
  refine g_icmp_gt (x := k) (y := 3) (tgt := 28) C0 (by omega) (by omega) dX7_readMore_2 rfl (fun c1 => ?_) (fun c2 => ?_)
  · refine lv_iload_n hx hb dX7_readMore_28 rfl (lv_at hl 1 rfl) ?_
    refine g_iconst (n := 4) C0 rfl dX7_readMore_29 ?_
    refine g_icmp_ne (x := k) (y := 4) (tgt := 40) C0 (by omega) (by omega) dX7_readMore_30 rfl (fun c3 => ?_) (fun c4 => ?_)
    · refine lv_iload_n hx hb dX7_readMore_40 rfl (lv_at hl 1 rfl) ?_
      refine g_iconst (n := 5) C0 rfl dX7_readMore_41 ?_
      refine g_icmp_ne (x := k) (y := 5) (tgt := 112) C0 (by omega) (by omega) dX7_readMore_42 rfl (fun c5 => ?_) (fun c6 => ?_)
      · refine lv_aload_n hx hb dX7_readMore_112 rfl (lv_at hl 0 rfl) ?_
        refine g_get (v := .ref (h 2)) C0 X kX7 0 2 tb799 rfl rfl rfl dX7_readMore_113 ?_
        refine g_bipush (n := 43) C0 (by decide) dX7_readMore_116 ?_
        refine lv_aload_n hx hb dX7_readMore_118 rfl (lv_at hl 0 rfl) ?_
        refine g_iconst (n := 0) C0 rfl dX7_readMore_119 ?_
        refine g_bipush (n := 20) C0 (by decide) dX7_readMore_120 ?_
        refine g_callV (As := [.int (nI 0), .int (nI 20)]) (rest := [.int (nI 43), .ref (h 2)]) (wr := []) (C0.sz hl) X (c_X7_number l D tk h Mt hi la ce n 0 20 (by exact hq3) (by exact hn) (by exact ht8) (by exact hI) (by first | assumption | decide | omega) (by first | assumption | decide | omega)) ⟨tb937, tb940, tb8, ⟨by decide, by decide, rfl⟩, rfl, rfl, Nat.le_of_ble_eq_true rfl, Nat.le_of_ble_eq_true rfl⟩ tb939 tbs30 0 7 rfl rfl rfl rfl [0, 1, 2, 3, 4, 5, 6, 7, 8, 9, 10, 11, 12, 13] [] rfl rfl rfl rfl rfl (Nat.le_of_ble_eq_true rfl) ⟨Nat.le_of_ble_eq_true rfl, Nat.le_of_ble_eq_true rfl⟩ dX7_readMore_122 (fun _ H locs _ X => ?_)
        have X : Hx D zA zs H locs (mW tk h (u3 Mt 20 (mNum (Mt 2) n (Mt 20) 0 20)) hi la ce) := X
        refine g_iast (g := nf (u1 (Mt 1) 43 (mVal (Mt 20) 0 20))) (i := 43) C0 X 2 0 rfl rfl (by omega) rfl (nf_u1 _ _ _) dX7_readMore_125 (fun H locs X => ?_)
        have X : Hx D zA zs H locs (mW tk h (u2 (u3 Mt 20 (mNum (Mt 2) n (Mt 20) 0 20)) 1 43 (mVal (Mt 20) 0 20)) hi la ce) := X
        exact hE (v := ()) () rfl trivial (X.to (by rw [mMoreQ, mMoreP, mMoreH, if_neg (by omega), if_neg (by omega), if_neg (by omega), if_neg (by omega), if_neg (by omega), if_neg (by omega), if_neg (by omega), if_neg (by omega), if_neg (by omega)] <;> rfl)) dX7_readMore_126
      · have hf9 := hf3 (by omega)
        refine lv_aload_n hx hb dX7_readMore_45 rfl (lv_at hl 0 rfl) ?_
        refine g_get (v := .ref (h 2)) C0 X kX7 0 2 tb799 rfl rfl rfl dX7_readMore_46 ?_
        refine g_bipush (n := 62) C0 (by decide) dX7_readMore_49 ?_
        refine g_iald (v := nI (Mt 1 62)) (i := 62) C0 X 2 0 rfl rfl (by omega) rfl rfl dX7_readMore_51 ?_
        refine lv_istore_n (lv' := [(2, .int (nI (Mt 1 62))), (0, .ref (h 0)), (1, .int (nI k))]) hx hb dX7_readMore_52 rfl hl (by decide) rfl (fun ls hl => ?_)
        refine lv_aload_n hx hb dX7_readMore_53 rfl (lv_at hl 1 rfl) ?_
        refine g_get (v := .ref (h 2)) C0 X kX7 0 2 tb799 rfl rfl rfl dX7_readMore_54 ?_
        refine g_bipush (n := 44) C0 (by decide) dX7_readMore_57 ?_
        refine lv_iload_n hx hb dX7_readMore_59 rfl (lv_at hl 0 rfl) ?_
        refine g_iadd (n := 44 + (Mt 1 62)) C0 (by first | rfl | omega) dX7_readMore_60 ?_
        refine lv_aload_n hx hb dX7_readMore_61 rfl (lv_at hl 1 rfl) ?_
        refine g_iconst (n := 0) C0 rfl dX7_readMore_62 ?_
        refine g_bipush (n := 23) C0 (by decide) dX7_readMore_63 ?_
        refine g_callV (As := [.int (nI 0), .int (nI 23)]) (rest := [.int (nI (44 + (Mt 1 62))), .ref (h 2)]) (wr := []) (C0.sz hl) X (c_X7_number l D tk h Mt hi la ce n 0 23 (by exact hq3) (by exact hn) (by exact ht8) (by exact hI) (by first | assumption | decide | omega) (by first | assumption | decide | omega)) ⟨tb937, tb940, tb8, ⟨by decide, by decide, rfl⟩, rfl, rfl, Nat.le_of_ble_eq_true rfl, Nat.le_of_ble_eq_true rfl⟩ tb939 tbs30 0 7 rfl rfl rfl rfl [0, 1, 2, 3, 4, 5, 6, 7, 8, 9, 10, 11, 12, 13] [] rfl rfl rfl rfl rfl (Nat.le_of_ble_eq_true rfl) ⟨Nat.le_of_ble_eq_true rfl, Nat.le_of_ble_eq_true rfl⟩ dX7_readMore_65 (fun _ H locs _ X => ?_)
        have X : Hx D zA zs H locs (mW tk h (u3 Mt 20 (mNum (Mt 2) n (Mt 20) 0 23)) hi la ce) := X
        obtain ⟨q1, hq1⟩ : ∃ z, mT1 (Mt 2) n (Mt 20) = z := ⟨_, rfl⟩
        have X : Hx D zA zs H locs (mW tk h (u3 Mt 20 q1) hi la ce) := X.to (by rw [show q1 = mNum (Mt 2) n (Mt 20) 0 23 from by rw [← hq1]; rfl] <;> rfl)
        have hI1 : MI n q1 := by rw [← hq1]; exact hI.num
        have h13 : q1 3 = n := by rw [← hq1, mT1, mNum_o _ _ _ _ _ (by decide)]; exact hq3
        refine g_iast (g := nf (u1 (Mt 1) (44 + (Mt 1 62)) (mVal (Mt 20) 0 23))) (i := 44 + (Mt 1 62)) C0 X 2 0 rfl rfl (by omega) rfl (nf_u1 _ _ _) dX7_readMore_68 (fun H locs X => ?_)
        have X : Hx D zA zs H locs (mW tk h (u2 (u3 Mt 20 q1) 1 (44 + (Mt 1 62)) (mVal (Mt 20) 0 23)) hi la ce) := X
        refine lv_aload_n hx hb dX7_readMore_69 rfl (lv_at hl 1 rfl) ?_
        refine g_get (v := .ref (h 2)) C0 X kX7 0 2 tb799 rfl rfl rfl dX7_readMore_70 ?_
        refine g_bipush (n := 50) C0 (by decide) dX7_readMore_73 ?_
        refine lv_iload_n hx hb dX7_readMore_75 rfl (lv_at hl 0 rfl) ?_
        refine g_iadd (n := 50 + (Mt 1 62)) C0 (by first | rfl | omega) dX7_readMore_76 ?_
        refine lv_aload_n hx hb dX7_readMore_77 rfl (lv_at hl 1 rfl) ?_
        refine g_callV (As := []) (rest := [.int (nI (50 + (Mt 1 62))), .ref (h 2)]) (wr := []) (C0.sz hl) X (c_X7_treeHere l D tk h (u2 (u3 Mt 20 q1) 1 (44 + (Mt 1 62)) (mVal (Mt 20) 0 23)) hi la ce n (by exact h13) (by exact hn) (by exact ht8) (by exact hI1)) ⟨tb933, tb936, tb8, ⟨by decide, by decide, rfl⟩, rfl, rfl, Nat.le_of_ble_eq_true rfl, Nat.le_of_ble_eq_true rfl⟩ tb935 tbs29 0 7 rfl rfl rfl rfl [0, 1, 2, 3, 4, 5, 6, 7, 8, 9, 10, 11, 12, 13] [] rfl rfl rfl rfl rfl (Nat.le_of_ble_eq_true rfl) ⟨Nat.le_of_ble_eq_true rfl, Nat.le_of_ble_eq_true rfl⟩ dX7_readMore_78 (fun _ H locs _ X => ?_)
        have X : Hx D zA zs H locs (mW tk h (u3 (u2 Mt 1 (44 + (Mt 1 62)) (mVal (Mt 20) 0 23)) 20 (mNum (Mt 2) n ((u3 Mt 20 q1) 20) 0 5)) (hiM hi (mVal ((u3 Mt 20 q1) 20) 0 5)) la ce) := X
        obtain ⟨q2, hq2⟩ : ∃ z, mT2 (Mt 2) n (Mt 20) = z := ⟨_, rfl⟩
        have X : Hx D zA zs H locs (mW tk h (u3 (u2 Mt 1 (44 + (Mt 1 62)) (mVal (Mt 20) 0 23)) 20 q2) (hiM hi (mVal ((u3 Mt 20 q1) 20) 0 5)) la ce) := X.to (by rw [show q2 = mNum (Mt 2) n ((u3 Mt 20 q1) 20) 0 5 from by rw [← hq2]; rw [mT2, hq1] <;> rfl] <;> rfl)
        have hI2 : MI n q2 := by rw [← hq2, mT2, hq1]; exact hI1.num
        have h23 : q2 3 = n := by rw [← hq2, mT2, mNum_o _ _ _ _ _ (by decide), hq1]; exact h13
        refine g_iast (g := nf (u1 (u1 (Mt 1) (44 + (Mt 1 62)) (mVal (Mt 20) 0 23)) (50 + (Mt 1 62)) (mVal ((u3 Mt 20 q1) 20) 0 5))) (i := 50 + (Mt 1 62)) C0 X 2 0 rfl rfl (by omega) rfl (nf_u1 _ _ _) dX7_readMore_81 (fun H locs X => ?_)
        have X : Hx D zA zs H locs (mW tk h (u2 (u3 (u2 Mt 1 (44 + (Mt 1 62)) (mVal (Mt 20) 0 23)) 20 q2) 1 (50 + (Mt 1 62)) (mVal ((u3 Mt 20 q1) 20) 0 5)) (hiM hi (mVal ((u3 Mt 20 q1) 20) 0 5)) la ce) := X
        refine lv_aload_n hx hb dX7_readMore_82 rfl (lv_at hl 1 rfl) ?_
        refine g_get (v := .ref (h 2)) C0 X kX7 0 2 tb799 rfl rfl rfl dX7_readMore_83 ?_
        refine g_bipush (n := 56) C0 (by decide) dX7_readMore_86 ?_
        refine lv_iload_n hx hb dX7_readMore_88 rfl (lv_at hl 0 rfl) ?_
        refine g_iadd (n := 56 + (Mt 1 62)) C0 (by first | rfl | omega) dX7_readMore_89 ?_
        refine lv_aload_n hx hb dX7_readMore_90 rfl (lv_at hl 1 rfl) ?_
        refine g_iconst (n := 1) C0 rfl dX7_readMore_91 ?_
        refine g_bipush (n := 60) C0 (by decide) dX7_readMore_92 ?_
        refine g_callV (As := [.int (nI 1), .int (nI 60)]) (rest := [.int (nI (56 + (Mt 1 62))), .ref (h 2)]) (wr := []) (C0.sz hl) X (c_X7_number l D tk h (u2 (u3 (u2 Mt 1 (44 + (Mt 1 62)) (mVal (Mt 20) 0 23)) 20 q2) 1 (50 + (Mt 1 62)) (mVal ((u3 Mt 20 q1) 20) 0 5)) (hiM hi (mVal ((u3 Mt 20 q1) 20) 0 5)) la ce n 1 60 (by exact h23) (by exact hn) (by exact ht8) (by exact hI2) (by first | assumption | decide | omega) (by first | assumption | decide | omega)) ⟨tb937, tb940, tb8, ⟨by decide, by decide, rfl⟩, rfl, rfl, Nat.le_of_ble_eq_true rfl, Nat.le_of_ble_eq_true rfl⟩ tb939 tbs30 0 7 rfl rfl rfl rfl [0, 1, 2, 3, 4, 5, 6, 7, 8, 9, 10, 11, 12, 13] [] rfl rfl rfl rfl rfl (Nat.le_of_ble_eq_true rfl) ⟨Nat.le_of_ble_eq_true rfl, Nat.le_of_ble_eq_true rfl⟩ dX7_readMore_94 (fun _ H locs _ X => ?_)
        have X : Hx D zA zs H locs (mW tk h (u3 (u2 (u2 Mt 1 (44 + (Mt 1 62)) (mVal (Mt 20) 0 23)) 1 (50 + (Mt 1 62)) (mVal ((u3 Mt 20 q1) 20) 0 5)) 20 (mNum (Mt 2) n ((u3 (u2 Mt 1 (44 + (Mt 1 62)) (mVal (Mt 20) 0 23)) 20 q2) 20) 1 60)) (hiM hi (mVal ((u3 Mt 20 q1) 20) 0 5)) la ce) := X
        obtain ⟨q3, hq3q⟩ : ∃ z, mT3 (Mt 2) n (Mt 20) = z := ⟨_, rfl⟩
        have X : Hx D zA zs H locs (mW tk h (u3 (u2 (u2 Mt 1 (44 + (Mt 1 62)) (mVal (Mt 20) 0 23)) 1 (50 + (Mt 1 62)) (mVal ((u3 Mt 20 q1) 20) 0 5)) 20 q3) (hiM hi (mVal ((u3 Mt 20 q1) 20) 0 5)) la ce) := X.to (by rw [show q3 = mNum (Mt 2) n ((u3 (u2 Mt 1 (44 + (Mt 1 62)) (mVal (Mt 20) 0 23)) 20 q2) 20) 1 60 from by rw [← hq3q]; rw [mT3, hq2] <;> rfl] <;> rfl)
        refine g_iast (g := nf (u1 (u1 (u1 (Mt 1) (44 + (Mt 1 62)) (mVal (Mt 20) 0 23)) (50 + (Mt 1 62)) (mVal ((u3 Mt 20 q1) 20) 0 5)) (56 + (Mt 1 62)) (mVal ((u3 (u2 Mt 1 (44 + (Mt 1 62)) (mVal (Mt 20) 0 23)) 20 q2) 20) 1 60))) (i := 56 + (Mt 1 62)) C0 X 2 0 rfl rfl (by omega) rfl (nf_u1 _ _ _) dX7_readMore_97 (fun H locs X => ?_)
        have X : Hx D zA zs H locs (mW tk h (u2 (u3 (u2 (u2 Mt 1 (44 + (Mt 1 62)) (mVal (Mt 20) 0 23)) 1 (50 + (Mt 1 62)) (mVal ((u3 Mt 20 q1) 20) 0 5)) 20 q3) 1 (56 + (Mt 1 62)) (mVal ((u3 (u2 Mt 1 (44 + (Mt 1 62)) (mVal (Mt 20) 0 23)) 20 q2) 20) 1 60)) (hiM hi (mVal ((u3 Mt 20 q1) 20) 0 5)) la ce) := X
        refine lv_aload_n hx hb dX7_readMore_98 rfl (lv_at hl 1 rfl) ?_
        refine g_get (v := .ref (h 2)) C0 X kX7 0 2 tb799 rfl rfl rfl dX7_readMore_99 ?_
        refine g_bipush (n := 62) C0 (by decide) dX7_readMore_102 ?_
        refine lv_dup2_11 hx hb dX7_readMore_104 rfl rfl ?_
        refine g_iald (v := nI ((u1 (u1 (u1 (Mt 1) (44 + (Mt 1 62)) (mVal (Mt 20) 0 23)) (50 + (Mt 1 62)) (mVal ((u3 Mt 20 q1) 20) 0 5)) (56 + (Mt 1 62)) (mVal ((u3 (u2 Mt 1 (44 + (Mt 1 62)) (mVal (Mt 20) 0 23)) 20 q2) 20) 1 60)) 62)) (i := 62) C0 X 2 0 rfl rfl (by omega) rfl (by first | rfl | exact congrArg nI (u1_s _ _ _)) dX7_readMore_105 ?_
        refine g_top (y := nI (Mt 1 62)) (by refine congrArg nI ?_; repeat (first | rw [u1_n _ _ (by omega)] | rfl)) ?_
        refine g_iconst (n := 1) C0 rfl dX7_readMore_106 ?_
        refine g_iadd (n := Mt 1 62 + 1) C0 (by first | rfl | omega) dX7_readMore_107 ?_
        refine g_iast (g := nf (u1 (u1 (u1 (u1 (Mt 1) (44 + (Mt 1 62)) (mVal (Mt 20) 0 23)) (50 + (Mt 1 62)) (mVal ((u3 Mt 20 q1) 20) 0 5)) (56 + (Mt 1 62)) (mVal ((u3 (u2 Mt 1 (44 + (Mt 1 62)) (mVal (Mt 20) 0 23)) 20 q2) 20) 1 60)) 62 (Mt 1 62 + 1))) (i := 62) C0 X 2 0 rfl rfl (by omega) rfl (nf_u1 _ _ _) dX7_readMore_108 (fun H locs X => ?_)
        have X : Hx D zA zs H locs (mW tk h (u2 (u2 (u3 (u2 (u2 Mt 1 (44 + (Mt 1 62)) (mVal (Mt 20) 0 23)) 1 (50 + (Mt 1 62)) (mVal ((u3 Mt 20 q1) 20) 0 5)) 20 q3) 1 (56 + (Mt 1 62)) (mVal ((u3 (u2 Mt 1 (44 + (Mt 1 62)) (mVal (Mt 20) 0 23)) 20 q2) 20) 1 60)) 1 62 (Mt 1 62 + 1)) (hiM hi (mVal ((u3 Mt 20 q1) 20) 0 5)) la ce) := X
        refine lv_goto (tgt := 126) hx hb dX7_readMore_109 (by decide) ?_
        exact hE (v := ()) () rfl trivial (X.to (by rw [mMoreQ, mMoreP, mMoreH, if_neg (by omega), if_neg (by omega), if_pos (by omega), if_neg (by omega), if_neg (by omega), if_pos (by omega), if_neg (by omega), if_neg (by omega), if_pos (by omega), mTp, mTv1, mTv2, mTv3, hq1, hq2, hq3q] <;> rfl)) dX7_readMore_126
    · refine lv_aload_n hx hb dX7_readMore_33 rfl (lv_at hl 0 rfl) ?_
      refine g_callV (As := []) (rest := []) (wr := []) (C0.sz hl) X (c_X7_readRoot l D tk h Mt hi la ce n (by exact hq3) (by exact hn) (by exact ht8) (by exact hI) (by have := hf2 (by omega); omega)) ⟨tb929, tb932, tb8, ⟨by decide, by decide, rfl⟩, rfl, rfl, Nat.le_of_ble_eq_true rfl, Nat.le_of_ble_eq_true rfl⟩ tb931 tbs28 0 7 rfl rfl rfl rfl [0, 1, 2, 3, 4, 5, 6, 7, 8, 9, 10, 11, 12, 13] [] rfl rfl rfl rfl rfl (Nat.le_of_ble_eq_true rfl) ⟨Nat.le_of_ble_eq_true rfl, Nat.le_of_ble_eq_true rfl⟩ dX7_readMore_34 (fun _ H locs _ X => ?_)
      have X : Hx D zA zs H locs (mW tk h (u3 (u3 Mt 20 (mR4 (Mt 2) n (Mt 20))) 1 (mRp (Mt 2) n (Mt 20) (Mt 1))) (mRh (Mt 2) n (Mt 20) hi) la ce) := X
      refine lv_goto (tgt := 126) hx hb dX7_readMore_37 (by decide) ?_
      exact hE (v := ()) () rfl trivial (X.to (by rw [mMoreQ, mMoreP, mMoreH, if_neg (by omega), if_pos (by omega), if_neg (by omega), if_pos (by omega), if_neg (by omega), if_pos (by omega)] <;> rfl)) dX7_readMore_126
  · have hf9 := hf1 (by omega)
    refine lv_aload_n hx hb dX7_readMore_5 rfl (lv_at hl 0 rfl) ?_
    refine g_get (v := .ref (h 2)) C0 X kX7 0 2 tb799 rfl rfl rfl dX7_readMore_6 ?_
    refine lv_aload_n hx hb dX7_readMore_9 rfl (lv_at hl 0 rfl) ?_
    refine g_get (v := .int (nI (Mt 20 1))) C0 X kX7 0 3 tb800 rfl rfl rfl dX7_readMore_10 ?_
    refine lv_iload_n hx hb dX7_readMore_13 rfl (lv_at hl 1 rfl) ?_
    refine g_iast (g := nf (u1 (Mt 1) (Mt 20 1) k)) (i := Mt 20 1) C0 X 2 0 rfl rfl (by omega) rfl (nf_u1 _ _ _) dX7_readMore_14 (fun H locs X => ?_)
    have X : Hx D zA zs H locs (mW tk h (u2 Mt 1 (Mt 20 1) k) hi la ce) := X
    refine lv_aload_n hx hb dX7_readMore_15 rfl (lv_at hl 0 rfl) ?_
    refine lv_dup hx hb dX7_readMore_16 rfl ?_
    refine g_get (v := .int (nI (Mt 20 1))) C0 X kX7 0 3 tb800 rfl rfl rfl dX7_readMore_17 ?_
    refine g_iconst (n := 1) C0 rfl dX7_readMore_20 ?_
    refine g_iadd (n := Mt 20 1 + 1) C0 (by first | rfl | omega) dX7_readMore_21 ?_
    refine g_put (v := .int (nI (Mt 20 1 + 1))) (ft := .int) C0 X kX7 0 3 tb800 rfl rfl rfl rfl rfl rfl rfl dX7_readMore_22 (fun H locs X => ?_)
    have X : Hx D zA zs H locs (mW tk h (u2 (u2 Mt 1 (Mt 20 1) k) 20 1 (Mt 20 1 + 1)) hi la ce) := X
    refine lv_goto (tgt := 126) hx hb dX7_readMore_25 (by decide) ?_
    exact hE (v := ()) () rfl trivial (X.to (by rw [mMoreQ, mMoreP, mMoreH, if_pos (by omega), if_pos (by omega), if_pos (by omega)] <;> rfl)) dX7_readMore_126
