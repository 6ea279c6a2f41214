set_option maxHeartbeats 4000000 in
set_option maxRecDepth 100000 in
theorem c_X7_readRoot (l : Launch) (D : va_G) (tk : Nat → ClassId) (h : Nat → Nat) (Mt : Nat → Nat → Nat) (hi : Int32) (la ce : Nat → Int32) (n : Nat) (hq3 : Mt 20 3 = n) (hn : n ≤ 160) (ht8 : ∀ j, j < n → Mt 2 j < 128) (hI : MI n (Mt 20)) (h42 : Mt 1 42 < 9) : MX l yX7_readRoot cX7_readRoot 3 none ⟨4, 0, 0, 90⟩ D (TYS tk) [.ref (h 0)] (mW tk h Mt hi la ce) (fun (_ : Unit) => True) (fun _ => none) (fun _ => mW tk h (u3 (u3 Mt 20 (mR4 (Mt 2) n (Mt 20))) 1 (mRp (Mt 2) n (Mt 20) (Mt 1))) (mRh (Mt 2) n (Mt 20) hi) la ce) 0 0 := by
  refine MX.of_v (by decide) rfl ?_
  intro zp ze zs zm za zb zt zc zA zQ ls C0 hnm X hl hE
  have hx := C0.1
  have hb := C0.2.1
  have ht := C0.2.2.2.2.1
  have X : Hx D zA zs zs.heap [] (mW tk h Mt hi la ce) := X
  have hl : lv_has ls 3 [(0, .ref (h 0))] := hl
  obtain ⟨hm1, hm2, hm3, hm4, hm5⟩ := id hI
  have hv1 : mVal (Mt 20) 0 5 ≤ 99 := by unfold mVal; split; exact hm4; exact Nat.zero_le 99
  obtain ⟨H, hH⟩ : ∃ H, H = zs.heap := ⟨_, rfl⟩
  rw [← hH] at X ⊢
  obtain ⟨locs, hlo⟩ : ∃ L : List Loc, L = [] := ⟨_, rfl⟩
  rw [← hlo] at X ⊢
  refine lv_aload_n hx hb dX7_readRoot_0 rfl (lv_at hl 0 rfl) ?_
  refine g_get (v := .ref (h 2)) C0 X kX7 0 2 tb799 rfl rfl rfl dX7_readRoot_1 ?_
  refine g_bipush (n := 42) C0 (by decide) dX7_readRoot_4 ?_
  refine g_iald (v := nI (Mt 1 42)) (i := 42) C0 X 2 0 rfl rfl (by omega) rfl rfl dX7_readRoot_6 ?_
  refine lv_istore_n (lv' := [(1, .int (nI (Mt 1 42))), (0, .ref (h 0))]) hx hb dX7_readRoot_7 rfl hl (by decide) rfl (fun ls hl => ?_)
  refine lv_aload_n hx hb dX7_readRoot_8 rfl (lv_at hl 1 rfl) ?_
  refine g_callV (As := []) (rest := []) (wr := []) (C0.sz hl) X (c_X7_treeHere l D tk h Mt hi la ce n (by exact hq3) (by exact hn) (by exact ht8) (by exact hI)) ⟨tb933, tb936, tb8, ⟨by decide, by decide, rfl⟩, rfl, rfl, Nat.le_of_ble_eq_true rfl, Nat.le_of_ble_eq_true rfl⟩ tb935 tbs29 0 7 rfl rfl rfl rfl [0, 1, 2, 3, 4, 5, 6, 7, 8, 9, 10, 11, 12, 13] [] rfl rfl rfl rfl rfl (Nat.le_of_ble_eq_true rfl) ⟨Nat.le_of_ble_eq_true rfl, Nat.le_of_ble_eq_true rfl⟩ dX7_readRoot_9 (fun _ H locs _ X => ?_)
  have X : Hx D zA zs H locs (mW tk h (u3 Mt 20 (mNum (Mt 2) n (Mt 20) 0 5)) (hiM hi (mVal (Mt 20) 0 5)) la ce) := X
  obtain ⟨q1, hq1⟩ : ∃ z, mR1 (Mt 2) n (Mt 20) = z := ⟨_, rfl⟩
  have X : Hx D zA zs H locs (mW tk h (u3 Mt 20 q1) (hiM hi (mVal (Mt 20) 0 5)) la ce) := X.to (by rw [show q1 = mNum (Mt 2) n (Mt 20) 0 5 from by rw [← hq1]; rfl] <;> rfl)
  have hI1 : MI n q1 := by rw [← hq1]; exact hI.num
  have h13 : q1 3 = n := by rw [← hq1, mR1, mNum_o _ _ _ _ _ (by decide)]; exact hq3
  obtain ⟨hj1, hj2, hj3, hj4, hj5⟩ := id hI1
  refine lv_istore_n (lv' := [(2, .int (nI (mVal (Mt 20) 0 5))), (1, .int (nI (Mt 1 42))), (0, .ref (h 0))]) hx hb dX7_readRoot_12 rfl hl (by decide) rfl (fun ls hl => ?_)
  refine lv_aload_n hx hb dX7_readRoot_13 rfl (lv_at hl 2 rfl) ?_
  refine g_get (v := .int (nI (q1 5))) C0 X kX7 0 9 tb806 rfl rfl rfl dX7_readRoot_14 ?_
  refine g_ifne (x := q1 5) (tgt := 41) C0 (by omega) dX7_readRoot_17 rfl (fun c1 => ?_) (fun c2 => ?_)
  · obtain ⟨q2, hq2⟩ : ∃ z, mR2 (Mt 2) n (Mt 20) = z := ⟨_, rfl⟩
    have X : Hx D zA zs H locs (mW tk h (u3 Mt 20 q2) (hiM hi (mVal (Mt 20) 0 5)) la ce) := X.to (by rw [show q2 = q1 from by rw [← hq2]; rw [mR2, hq1]; exact if_neg (fun q => by have z1 := q.1; have z2 := q.2.1; have z3 := q.2.2; omega)] <;> rfl)
    have hI2 : MI n q2 := by rw [← hq2]; exact hI.r2
    have h23 : q2 3 = n := by rw [← hq2, mR2_o _ _ _ (by decide)]; exact hq3
    refine lv_aload_n hx hb dX7_readRoot_41 rfl (lv_at hl 2 rfl) ?_
    refine g_get (v := .ref (h 2)) C0 X kX7 0 2 tb799 rfl rfl rfl dX7_readRoot_42 ?_
    refine g_bipush (n := 6) C0 (by decide) dX7_readRoot_45 ?_
    refine lv_iload_n hx hb dX7_readRoot_47 rfl (lv_at hl 1 rfl) ?_
    refine g_iadd (n := 6 + (Mt 1 42)) C0 (by first | rfl | omega) dX7_readRoot_48 ?_
    refine lv_iload_n hx hb dX7_readRoot_49 rfl (lv_at hl 0 rfl) ?_
    refine g_iast (g := nf (u1 (Mt 1) (6 + (Mt 1 42)) (mVal (Mt 20) 0 5))) (i := 6 + (Mt 1 42)) C0 X 2 0 rfl rfl (by omega) rfl (nf_u1 _ _ _) dX7_readRoot_50 (fun H locs X => ?_)
    have X : Hx D zA zs H locs (mW tk h (u2 (u3 Mt 20 q2) 1 (6 + (Mt 1 42)) (mVal (Mt 20) 0 5)) (hiM hi (mVal (Mt 20) 0 5)) la ce) := X
    refine lv_aload_n hx hb dX7_readRoot_51 rfl (lv_at hl 2 rfl) ?_
    refine g_get (v := .ref (h 2)) C0 X kX7 0 2 tb799 rfl rfl rfl dX7_readRoot_52 ?_
    refine g_bipush (n := 15) C0 (by decide) dX7_readRoot_55 ?_
    refine lv_iload_n hx hb dX7_readRoot_57 rfl (lv_at hl 1 rfl) ?_
    refine g_iadd (n := 15 + (Mt 1 42)) C0 (by first | rfl | omega) dX7_readRoot_58 ?_
    refine lv_aload_n hx hb dX7_readRoot_59 rfl (lv_at hl 2 rfl) ?_
    refine g_callV (As := []) (rest := [.int (nI (15 + (Mt 1 42))), .ref (h 2)]) (wr := []) (C0.sz hl) X (c_X7_treeHere l D tk h (u2 (u3 Mt 20 q2) 1 (6 + (Mt 1 42)) (mVal (Mt 20) 0 5)) (hiM hi (mVal (Mt 20) 0 5)) la ce n (by exact h23) (by exact hn) (by exact ht8) (by exact hI2)) ⟨tb933, tb936, tb8, ⟨by decide, by decide, rfl⟩, rfl, rfl, Nat.le_of_ble_eq_true rfl, Nat.le_of_ble_eq_true rfl⟩ tb935 tbs29 0 7 rfl rfl rfl rfl [0, 1, 2, 3, 4, 5, 6, 7, 8, 9, 10, 11, 12, 13] [] rfl rfl rfl rfl rfl (Nat.le_of_ble_eq_true rfl) ⟨Nat.le_of_ble_eq_true rfl, Nat.le_of_ble_eq_true rfl⟩ dX7_readRoot_60 (fun _ H locs _ X => ?_)
    have X : Hx D zA zs H locs (mW tk h (u3 (u2 Mt 1 (6 + (Mt 1 42)) (mVal (Mt 20) 0 5)) 20 (mNum (Mt 2) n ((u3 Mt 20 q2) 20) 0 5)) (hiM (hiM hi (mVal (Mt 20) 0 5)) (mVal ((u3 Mt 20 q2) 20) 0 5)) la ce) := X
    obtain ⟨q3, hq3q⟩ : ∃ z, mR3 (Mt 2) n (Mt 20) = z := ⟨_, rfl⟩
    have X : Hx D zA zs H locs (mW tk h (u3 (u2 Mt 1 (6 + (Mt 1 42)) (mVal (Mt 20) 0 5)) 20 q3) (hiM (hiM hi (mVal (Mt 20) 0 5)) (mVal ((u3 Mt 20 q2) 20) 0 5)) la ce) := X.to (by rw [show q3 = mNum (Mt 2) n ((u3 Mt 20 q2) 20) 0 5 from by rw [← hq3q]; rw [mR3, hq2] <;> rfl] <;> rfl)
    have hI3 : MI n q3 := by rw [← hq3q, mR3, hq2]; exact hI2.num
    have h33 : q3 3 = n := by rw [← hq3q, mR3_o _ _ _ (by decide)]; exact hq3
    refine g_iast (g := nf (u1 (u1 (Mt 1) (6 + (Mt 1 42)) (mVal (Mt 20) 0 5)) (15 + (Mt 1 42)) (mVal ((u3 Mt 20 q2) 20) 0 5))) (i := 15 + (Mt 1 42)) C0 X 2 0 rfl rfl (by omega) rfl (nf_u1 _ _ _) dX7_readRoot_63 (fun H locs X => ?_)
    have X : Hx D zA zs H locs (mW tk h (u2 (u3 (u2 Mt 1 (6 + (Mt 1 42)) (mVal (Mt 20) 0 5)) 20 q3) 1 (15 + (Mt 1 42)) (mVal ((u3 Mt 20 q2) 20) 0 5)) (hiM (hiM hi (mVal (Mt 20) 0 5)) (mVal ((u3 Mt 20 q2) 20) 0 5)) la ce) := X
    refine lv_aload_n hx hb dX7_readRoot_64 rfl (lv_at hl 2 rfl) ?_
    refine g_get (v := .ref (h 2)) C0 X kX7 0 2 tb799 rfl rfl rfl dX7_readRoot_65 ?_
    refine g_bipush (n := 24) C0 (by decide) dX7_readRoot_68 ?_
    refine lv_iload_n hx hb dX7_readRoot_70 rfl (lv_at hl 1 rfl) ?_
    refine g_iadd (n := 24 + (Mt 1 42)) C0 (by first | rfl | omega) dX7_readRoot_71 ?_
    refine lv_aload_n hx hb dX7_readRoot_72 rfl (lv_at hl 2 rfl) ?_
    refine g_iconst (n := 1) C0 rfl dX7_readRoot_73 ?_
    refine g_bipush (n := 9) C0 (by decide) dX7_readRoot_74 ?_
    refine g_callV (As := [.int (nI 1), .int (nI 9)]) (rest := [.int (nI (24 + (Mt 1 42))), .ref (h 2)]) (wr := []) (C0.sz hl) X (c_X7_number l D tk h (u2 (u3 (u2 Mt 1 (6 + (Mt 1 42)) (mVal (Mt 20) 0 5)) 20 q3) 1 (15 + (Mt 1 42)) (mVal ((u3 Mt 20 q2) 20) 0 5)) (hiM (hiM hi (mVal (Mt 20) 0 5)) (mVal ((u3 Mt 20 q2) 20) 0 5)) la ce n 1 9 (by exact h33) (by exact hn) (by exact ht8) (by exact hI3) (by first | assumption | decide | omega) (by first | assumption | decide | omega)) ⟨tb937, tb940, tb8, ⟨by decide, by decide, rfl⟩, rfl, rfl, Nat.le_of_ble_eq_true rfl, Nat.le_of_ble_eq_true rfl⟩ tb939 tbs30 0 7 rfl rfl rfl rfl [0, 1, 2, 3, 4, 5, 6, 7, 8, 9, 10, 11, 12, 13] [] rfl rfl rfl rfl rfl (Nat.le_of_ble_eq_true rfl) ⟨Nat.le_of_ble_eq_true rfl, Nat.le_of_ble_eq_true rfl⟩ dX7_readRoot_76 (fun _ H locs _ X => ?_)
    have X : Hx D zA zs H locs (mW tk h (u3 (u2 (u2 Mt 1 (6 + (Mt 1 42)) (mVal (Mt 20) 0 5)) 1 (15 + (Mt 1 42)) (mVal ((u3 Mt 20 q2) 20) 0 5)) 20 (mNum (Mt 2) n ((u3 (u2 Mt 1 (6 + (Mt 1 42)) (mVal (Mt 20) 0 5)) 20 q3) 20) 1 9)) (hiM (hiM hi (mVal (Mt 20) 0 5)) (mVal ((u3 Mt 20 q2) 20) 0 5)) la ce) := X
    obtain ⟨q4, hq4⟩ : ∃ z, mR4 (Mt 2) n (Mt 20) = z := ⟨_, rfl⟩
    have X : Hx D zA zs H locs (mW tk h (u3 (u2 (u2 Mt 1 (6 + (Mt 1 42)) (mVal (Mt 20) 0 5)) 1 (15 + (Mt 1 42)) (mVal ((u3 Mt 20 q2) 20) 0 5)) 20 q4) (hiM (hiM hi (mVal (Mt 20) 0 5)) (mVal ((u3 Mt 20 q2) 20) 0 5)) la ce) := X.to (by rw [show q4 = mNum (Mt 2) n ((u3 (u2 Mt 1 (6 + (Mt 1 42)) (mVal (Mt 20) 0 5)) 20 q3) 20) 1 9 from by rw [← hq4]; rw [mR4, hq3q] <;> rfl] <;> rfl)
    refine g_iast (g := nf (u1 (u1 (u1 (Mt 1) (6 + (Mt 1 42)) (mVal (Mt 20) 0 5)) (15 + (Mt 1 42)) (mVal ((u3 Mt 20 q2) 20) 0 5)) (24 + (Mt 1 42)) (mVal ((u3 (u2 Mt 1 (6 + (Mt 1 42)) (mVal (Mt 20) 0 5)) 20 q3) 20) 1 9))) (i := 24 + (Mt 1 42)) C0 X 2 0 rfl rfl (by omega) rfl (nf_u1 _ _ _) dX7_readRoot_79 (fun H locs X => ?_)
    have X : Hx D zA zs H locs (mW tk h (u2 (u3 (u2 (u2 Mt 1 (6 + (Mt 1 42)) (mVal (Mt 20) 0 5)) 1 (15 + (Mt 1 42)) (mVal ((u3 Mt 20 q2) 20) 0 5)) 20 q4) 1 (24 + (Mt 1 42)) (mVal ((u3 (u2 Mt 1 (6 + (Mt 1 42)) (mVal (Mt 20) 0 5)) 20 q3) 20) 1 9)) (hiM (hiM hi (mVal (Mt 20) 0 5)) (mVal ((u3 Mt 20 q2) 20) 0 5)) la ce) := X
    refine lv_aload_n hx hb dX7_readRoot_80 rfl (lv_at hl 2 rfl) ?_
    refine g_get (v := .ref (h 2)) C0 X kX7 0 2 tb799 rfl rfl rfl dX7_readRoot_81 ?_
    refine g_bipush (n := 42) C0 (by decide) dX7_readRoot_84 ?_
    refine lv_dup2_11 hx hb dX7_readRoot_86 rfl rfl ?_
    refine g_iald (v := nI ((u1 (u1 (u1 (Mt 1) (6 + (Mt 1 42)) (mVal (Mt 20) 0 5)) (15 + (Mt 1 42)) (mVal ((u3 Mt 20 q2) 20) 0 5)) (24 + (Mt 1 42)) (mVal ((u3 (u2 Mt 1 (6 + (Mt 1 42)) (mVal (Mt 20) 0 5)) 20 q3) 20) 1 9)) 42)) (i := 42) C0 X 2 0 rfl rfl (by omega) rfl (by first | rfl | exact congrArg nI (u1_s _ _ _)) dX7_readRoot_87 ?_
    refine g_top (y := nI (Mt 1 42)) (by refine congrArg nI ?_; repeat (first | rw [u1_n _ _ (by omega)] | rfl)) ?_
    refine g_iconst (n := 1) C0 rfl dX7_readRoot_88 ?_
    refine g_iadd (n := Mt 1 42 + 1) C0 (by first | rfl | omega) dX7_readRoot_89 ?_
    refine g_iast (g := nf (u1 (u1 (u1 (u1 (Mt 1) (6 + (Mt 1 42)) (mVal (Mt 20) 0 5)) (15 + (Mt 1 42)) (mVal ((u3 Mt 20 q2) 20) 0 5)) (24 + (Mt 1 42)) (mVal ((u3 (u2 Mt 1 (6 + (Mt 1 42)) (mVal (Mt 20) 0 5)) 20 q3) 20) 1 9)) 42 (Mt 1 42 + 1))) (i := 42) C0 X 2 0 rfl rfl (by omega) rfl (nf_u1 _ _ _) dX7_readRoot_90 (fun H locs X => ?_)
    have X : Hx D zA zs H locs (mW tk h (u2 (u2 (u3 (u2 (u2 Mt 1 (6 + (Mt 1 42)) (mVal (Mt 20) 0 5)) 1 (15 + (Mt 1 42)) (mVal ((u3 Mt 20 q2) 20) 0 5)) 20 q4) 1 (24 + (Mt 1 42)) (mVal ((u3 (u2 Mt 1 (6 + (Mt 1 42)) (mVal (Mt 20) 0 5)) 20 q3) 20) 1 9)) 1 42 (Mt 1 42 + 1)) (hiM (hiM hi (mVal (Mt 20) 0 5)) (mVal ((u3 Mt 20 q2) 20) 0 5)) la ce) := X
    exact hE (v := ()) () rfl trivial (X.to (by rw [mRp, mRh, mRv1, mRv2, mRv3, hq2, hq3q, hq4] <;> rfl)) dX7_readRoot_91
  · refine lv_aload_n hx hb dX7_readRoot_20 rfl (lv_at hl 2 rfl) ?_
    refine g_get (v := .int (nI (q1 9))) C0 X kX7 0 13 tb810 rfl rfl rfl dX7_readRoot_21 ?_
    refine g_iconst (n := 2) C0 rfl dX7_readRoot_24 ?_
    refine g_icmp_ne (x := q1 9) (y := 2) (tgt := 41) C0 (by omega) (by omega) dX7_readRoot_25 rfl (fun c3 => ?_) (fun c4 => ?_)
    · obtain ⟨q2, hq2⟩ : ∃ z, mR2 (Mt 2) n (Mt 20) = z := ⟨_, rfl⟩
      have X : Hx D zA zs H locs (mW tk h (u3 Mt 20 q2) (hiM hi (mVal (Mt 20) 0 5)) la ce) := X.to (by rw [show q2 = q1 from by rw [← hq2]; rw [mR2, hq1]; exact if_neg (fun q => by have z1 := q.1; have z2 := q.2.1; have z3 := q.2.2; omega)] <;> rfl)
      have hI2 : MI n q2 := by rw [← hq2]; exact hI.r2
      have h23 : q2 3 = n := by rw [← hq2, mR2_o _ _ _ (by decide)]; exact hq3
      refine lv_aload_n hx hb dX7_readRoot_41 rfl (lv_at hl 2 rfl) ?_
      refine g_get (v := .ref (h 2)) C0 X kX7 0 2 tb799 rfl rfl rfl dX7_readRoot_42 ?_
      refine g_bipush (n := 6) C0 (by decide) dX7_readRoot_45 ?_
      refine lv_iload_n hx hb dX7_readRoot_47 rfl (lv_at hl 1 rfl) ?_
      refine g_iadd (n := 6 + (Mt 1 42)) C0 (by first | rfl | omega) dX7_readRoot_48 ?_
      refine lv_iload_n hx hb dX7_readRoot_49 rfl (lv_at hl 0 rfl) ?_
      refine g_iast (g := nf (u1 (Mt 1) (6 + (Mt 1 42)) (mVal (Mt 20) 0 5))) (i := 6 + (Mt 1 42)) C0 X 2 0 rfl rfl (by omega) rfl (nf_u1 _ _ _) dX7_readRoot_50 (fun H locs X => ?_)
      have X : Hx D zA zs H locs (mW tk h (u2 (u3 Mt 20 q2) 1 (6 + (Mt 1 42)) (mVal (Mt 20) 0 5)) (hiM hi (mVal (Mt 20) 0 5)) la ce) := X
      refine lv_aload_n hx hb dX7_readRoot_51 rfl (lv_at hl 2 rfl) ?_
      refine g_get (v := .ref (h 2)) C0 X kX7 0 2 tb799 rfl rfl rfl dX7_readRoot_52 ?_
      refine g_bipush (n := 15) C0 (by decide) dX7_readRoot_55 ?_
      refine lv_iload_n hx hb dX7_readRoot_57 rfl (lv_at hl 1 rfl) ?_
      refine g_iadd (n := 15 + (Mt 1 42)) C0 (by first | rfl | omega) dX7_readRoot_58 ?_
      refine lv_aload_n hx hb dX7_readRoot_59 rfl (lv_at hl 2 rfl) ?_
      refine g_callV (As := []) (rest := [.int (nI (15 + (Mt 1 42))), .ref (h 2)]) (wr := []) (C0.sz hl) X (c_X7_treeHere l D tk h (u2 (u3 Mt 20 q2) 1 (6 + (Mt 1 42)) (mVal (Mt 20) 0 5)) (hiM hi (mVal (Mt 20) 0 5)) la ce n (by exact h23) (by exact hn) (by exact ht8) (by exact hI2)) ⟨tb933, tb936, tb8, ⟨by decide, by decide, rfl⟩, rfl, rfl, Nat.le_of_ble_eq_true rfl, Nat.le_of_ble_eq_true rfl⟩ tb935 tbs29 0 7 rfl rfl rfl rfl [0, 1, 2, 3, 4, 5, 6, 7, 8, 9, 10, 11, 12, 13] [] rfl rfl rfl rfl rfl (Nat.le_of_ble_eq_true rfl) ⟨Nat.le_of_ble_eq_true rfl, Nat.le_of_ble_eq_true rfl⟩ dX7_readRoot_60 (fun _ H locs _ X => ?_)
      have X : Hx D zA zs H locs (mW tk h (u3 (u2 Mt 1 (6 + (Mt 1 42)) (mVal (Mt 20) 0 5)) 20 (mNum (Mt 2) n ((u3 Mt 20 q2) 20) 0 5)) (hiM (hiM hi (mVal (Mt 20) 0 5)) (mVal ((u3 Mt 20 q2) 20) 0 5)) la ce) := X
      obtain ⟨q3, hq3q⟩ : ∃ z, mR3 (Mt 2) n (Mt 20) = z := ⟨_, rfl⟩
      have X : Hx D zA zs H locs (mW tk h (u3 (u2 Mt 1 (6 + (Mt 1 42)) (mVal (Mt 20) 0 5)) 20 q3) (hiM (hiM hi (mVal (Mt 20) 0 5)) (mVal ((u3 Mt 20 q2) 20) 0 5)) la ce) := X.to (by rw [show q3 = mNum (Mt 2) n ((u3 Mt 20 q2) 20) 0 5 from by rw [← hq3q]; rw [mR3, hq2] <;> rfl] <;> rfl)
      have hI3 : MI n q3 := by rw [← hq3q, mR3, hq2]; exact hI2.num
      have h33 : q3 3 = n := by rw [← hq3q, mR3_o _ _ _ (by decide)]; exact hq3
      refine g_iast (g := nf (u1 (u1 (Mt 1) (6 + (Mt 1 42)) (mVal (Mt 20) 0 5)) (15 + (Mt 1 42)) (mVal ((u3 Mt 20 q2) 20) 0 5))) (i := 15 + (Mt 1 42)) C0 X 2 0 rfl rfl (by omega) rfl (nf_u1 _ _ _) dX7_readRoot_63 (fun H locs X => ?_)
      have X : Hx D zA zs H locs (mW tk h (u2 (u3 (u2 Mt 1 (6 + (Mt 1 42)) (mVal (Mt 20) 0 5)) 20 q3) 1 (15 + (Mt 1 42)) (mVal ((u3 Mt 20 q2) 20) 0 5)) (hiM (hiM hi (mVal (Mt 20) 0 5)) (mVal ((u3 Mt 20 q2) 20) 0 5)) la ce) := X
      refine lv_aload_n hx hb dX7_readRoot_64 rfl (lv_at hl 2 rfl) ?_
      refine g_get (v := .ref (h 2)) C0 X kX7 0 2 tb799 rfl rfl rfl dX7_readRoot_65 ?_
      refine g_bipush (n := 24) C0 (by decide) dX7_readRoot_68 ?_
      refine lv_iload_n hx hb dX7_readRoot_70 rfl (lv_at hl 1 rfl) ?_
      refine g_iadd (n := 24 + (Mt 1 42)) C0 (by first | rfl | omega) dX7_readRoot_71 ?_
      refine lv_aload_n hx hb dX7_readRoot_72 rfl (lv_at hl 2 rfl) ?_
      refine g_iconst (n := 1) C0 rfl dX7_readRoot_73 ?_
      refine g_bipush (n := 9) C0 (by decide) dX7_readRoot_74 ?_
      refine g_callV (As := [.int (nI 1), .int (nI 9)]) (rest := [.int (nI (24 + (Mt 1 42))), .ref (h 2)]) (wr := []) (C0.sz hl) X (c_X7_number l D tk h (u2 (u3 (u2 Mt 1 (6 + (Mt 1 42)) (mVal (Mt 20) 0 5)) 20 q3) 1 (15 + (Mt 1 42)) (mVal ((u3 Mt 20 q2) 20) 0 5)) (hiM (hiM hi (mVal (Mt 20) 0 5)) (mVal ((u3 Mt 20 q2) 20) 0 5)) la ce n 1 9 (by exact h33) (by exact hn) (by exact ht8) (by exact hI3) (by first | assumption | decide | omega) (by first | assumption | decide | omega)) ⟨tb937, tb940, tb8, ⟨by decide, by decide, rfl⟩, rfl, rfl, Nat.le_of_ble_eq_true rfl, Nat.le_of_ble_eq_true rfl⟩ tb939 tbs30 0 7 rfl rfl rfl rfl [0, 1, 2, 3, 4, 5, 6, 7, 8, 9, 10, 11, 12, 13] [] rfl rfl rfl rfl rfl (Nat.le_of_ble_eq_true rfl) ⟨Nat.le_of_ble_eq_true rfl, Nat.le_of_ble_eq_true rfl⟩ dX7_readRoot_76 (fun _ H locs _ X => ?_)
      have X : Hx D zA zs H locs (mW tk h (u3 (u2 (u2 Mt 1 (6 + (Mt 1 42)) (mVal (Mt 20) 0 5)) 1 (15 + (Mt 1 42)) (mVal ((u3 Mt 20 q2) 20) 0 5)) 20 (mNum (Mt 2) n ((u3 (u2 Mt 1 (6 + (Mt 1 42)) (mVal (Mt 20) 0 5)) 20 q3) 20) 1 9)) (hiM (hiM hi (mVal (Mt 20) 0 5)) (mVal ((u3 Mt 20 q2) 20) 0 5)) la ce) := X
      obtain ⟨q4, hq4⟩ : ∃ z, mR4 (Mt 2) n (Mt 20) = z := ⟨_, rfl⟩
      have X : Hx D zA zs H locs (mW tk h (u3 (u2 (u2 Mt 1 (6 + (Mt 1 42)) (mVal (Mt 20) 0 5)) 1 (15 + (Mt 1 42)) (mVal ((u3 Mt 20 q2) 20) 0 5)) 20 q4) (hiM (hiM hi (mVal (Mt 20) 0 5)) (mVal ((u3 Mt 20 q2) 20) 0 5)) la ce) := X.to (by rw [show q4 = mNum (Mt 2) n ((u3 (u2 Mt 1 (6 + (Mt 1 42)) (mVal (Mt 20) 0 5)) 20 q3) 20) 1 9 from by rw [← hq4]; rw [mR4, hq3q] <;> rfl] <;> rfl)
      refine g_iast (g := nf (u1 (u1 (u1 (Mt 1) (6 + (Mt 1 42)) (mVal (Mt 20) 0 5)) (15 + (Mt 1 42)) (mVal ((u3 Mt 20 q2) 20) 0 5)) (24 + (Mt 1 42)) (mVal ((u3 (u2 Mt 1 (6 + (Mt 1 42)) (mVal (Mt 20) 0 5)) 20 q3) 20) 1 9))) (i := 24 + (Mt 1 42)) C0 X 2 0 rfl rfl (by omega) rfl (nf_u1 _ _ _) dX7_readRoot_79 (fun H locs X => ?_)
      have X : Hx D zA zs H locs (mW tk h (u2 (u3 (u2 (u2 Mt 1 (6 + (Mt 1 42)) (mVal (Mt 20) 0 5)) 1 (15 + (Mt 1 42)) (mVal ((u3 Mt 20 q2) 20) 0 5)) 20 q4) 1 (24 + (Mt 1 42)) (mVal ((u3 (u2 Mt 1 (6 + (Mt 1 42)) (mVal (Mt 20) 0 5)) 20 q3) 20) 1 9)) (hiM (hiM hi (mVal (Mt 20) 0 5)) (mVal ((u3 Mt 20 q2) 20) 0 5)) la ce) := X
      refine lv_aload_n hx hb dX7_readRoot_80 rfl (lv_at hl 2 rfl) ?_
      refine g_get (v := .ref (h 2)) C0 X kX7 0 2 tb799 rfl rfl rfl dX7_readRoot_81 ?_
      refine g_bipush (n := 42) C0 (by decide) dX7_readRoot_84 ?_
      refine lv_dup2_11 hx hb dX7_readRoot_86 rfl rfl ?_
      refine g_iald (v := nI ((u1 (u1 (u1 (Mt 1) (6 + (Mt 1 42)) (mVal (Mt 20) 0 5)) (15 + (Mt 1 42)) (mVal ((u3 Mt 20 q2) 20) 0 5)) (24 + (Mt 1 42)) (mVal ((u3 (u2 Mt 1 (6 + (Mt 1 42)) (mVal (Mt 20) 0 5)) 20 q3) 20) 1 9)) 42)) (i := 42) C0 X 2 0 rfl rfl (by omega) rfl (by first | rfl | exact congrArg nI (u1_s _ _ _)) dX7_readRoot_87 ?_
      refine g_top (y := nI (Mt 1 42)) (by refine congrArg nI ?_; repeat (first | rw [u1_n _ _ (by omega)] | rfl)) ?_
      refine g_iconst (n := 1) C0 rfl dX7_readRoot_88 ?_
      refine g_iadd (n := Mt 1 42 + 1) C0 (by first | rfl | omega) dX7_readRoot_89 ?_
      refine g_iast (g := nf (u1 (u1 (u1 (u1 (Mt 1) (6 + (Mt 1 42)) (mVal (Mt 20) 0 5)) (15 + (Mt 1 42)) (mVal ((u3 Mt 20 q2) 20) 0 5)) (24 + (Mt 1 42)) (mVal ((u3 (u2 Mt 1 (6 + (Mt 1 42)) (mVal (Mt 20) 0 5)) 20 q3) 20) 1 9)) 42 (Mt 1 42 + 1))) (i := 42) C0 X 2 0 rfl rfl (by omega) rfl (nf_u1 _ _ _) dX7_readRoot_90 (fun H locs X => ?_)
      have X : Hx D zA zs H locs (mW tk h (u2 (u2 (u3 (u2 (u2 Mt 1 (6 + (Mt 1 42)) (mVal (Mt 20) 0 5)) 1 (15 + (Mt 1 42)) (mVal ((u3 Mt 20 q2) 20) 0 5)) 20 q4) 1 (24 + (Mt 1 42)) (mVal ((u3 (u2 Mt 1 (6 + (Mt 1 42)) (mVal (Mt 20) 0 5)) 20 q3) 20) 1 9)) 1 42 (Mt 1 42 + 1)) (hiM (hiM hi (mVal (Mt 20) 0 5)) (mVal ((u3 Mt 20 q2) 20) 0 5)) la ce) := X
      exact hE (v := ()) () rfl trivial (X.to (by rw [mRp, mRh, mRv1, mRv2, mRv3, hq2, hq3q, hq4] <;> rfl)) dX7_readRoot_91
    · refine lv_aload_n hx hb dX7_readRoot_28 rfl (lv_at hl 2 rfl) ?_
      refine g_get (v := .int (nI (q1 10))) C0 X kX7 0 14 tb811 rfl rfl rfl dX7_readRoot_29 ?_
      refine lv_iload_n hx hb dX7_readRoot_32 rfl (lv_at hl 0 rfl) ?_
      refine g_icmp_ne (x := q1 10) (y := mVal (Mt 20) 0 5) (tgt := 41) C0 (by omega) (by omega) dX7_readRoot_33 rfl (fun c5 => ?_) (fun c6 => ?_)
      · obtain ⟨q2, hq2⟩ : ∃ z, mR2 (Mt 2) n (Mt 20) = z := ⟨_, rfl⟩
        have X : Hx D zA zs H locs (mW tk h (u3 Mt 20 q2) (hiM hi (mVal (Mt 20) 0 5)) la ce) := X.to (by rw [show q2 = q1 from by rw [← hq2]; rw [mR2, hq1]; exact if_neg (fun q => by have z1 := q.1; have z2 := q.2.1; have z3 := q.2.2; omega)] <;> rfl)
        have hI2 : MI n q2 := by rw [← hq2]; exact hI.r2
        have h23 : q2 3 = n := by rw [← hq2, mR2_o _ _ _ (by decide)]; exact hq3
        refine lv_aload_n hx hb dX7_readRoot_41 rfl (lv_at hl 2 rfl) ?_
        refine g_get (v := .ref (h 2)) C0 X kX7 0 2 tb799 rfl rfl rfl dX7_readRoot_42 ?_
        refine g_bipush (n := 6) C0 (by decide) dX7_readRoot_45 ?_
        refine lv_iload_n hx hb dX7_readRoot_47 rfl (lv_at hl 1 rfl) ?_
        refine g_iadd (n := 6 + (Mt 1 42)) C0 (by first | rfl | omega) dX7_readRoot_48 ?_
        refine lv_iload_n hx hb dX7_readRoot_49 rfl (lv_at hl 0 rfl) ?_
        refine g_iast (g := nf (u1 (Mt 1) (6 + (Mt 1 42)) (mVal (Mt 20) 0 5))) (i := 6 + (Mt 1 42)) C0 X 2 0 rfl rfl (by omega) rfl (nf_u1 _ _ _) dX7_readRoot_50 (fun H locs X => ?_)
        have X : Hx D zA zs H locs (mW tk h (u2 (u3 Mt 20 q2) 1 (6 + (Mt 1 42)) (mVal (Mt 20) 0 5)) (hiM hi (mVal (Mt 20) 0 5)) la ce) := X
        refine lv_aload_n hx hb dX7_readRoot_51 rfl (lv_at hl 2 rfl) ?_
        refine g_get (v := .ref (h 2)) C0 X kX7 0 2 tb799 rfl rfl rfl dX7_readRoot_52 ?_
        refine g_bipush (n := 15) C0 (by decide) dX7_readRoot_55 ?_
        refine lv_iload_n hx hb dX7_readRoot_57 rfl (lv_at hl 1 rfl) ?_
        refine g_iadd (n := 15 + (Mt 1 42)) C0 (by first | rfl | omega) dX7_readRoot_58 ?_
        refine lv_aload_n hx hb dX7_readRoot_59 rfl (lv_at hl 2 rfl) ?_
        refine g_callV (As := []) (rest := [.int (nI (15 + (Mt 1 42))), .ref (h 2)]) (wr := []) (C0.sz hl) X (c_X7_treeHere l D tk h (u2 (u3 Mt 20 q2) 1 (6 + (Mt 1 42)) (mVal (Mt 20) 0 5)) (hiM hi (mVal (Mt 20) 0 5)) la ce n (by exact h23) (by exact hn) (by exact ht8) (by exact hI2)) ⟨tb933, tb936, tb8, ⟨by decide, by decide, rfl⟩, rfl, rfl, Nat.le_of_ble_eq_true rfl, Nat.le_of_ble_eq_true rfl⟩ tb935 tbs29 0 7 rfl rfl rfl rfl [0, 1, 2, 3, 4, 5, 6, 7, 8, 9, 10, 11, 12, 13] [] rfl rfl rfl rfl rfl (Nat.le_of_ble_eq_true rfl) ⟨Nat.le_of_ble_eq_true rfl, Nat.le_of_ble_eq_true rfl⟩ dX7_readRoot_60 (fun _ H locs _ X => ?_)
        have X : Hx D zA zs H locs (mW tk h (u3 (u2 Mt 1 (6 + (Mt 1 42)) (mVal (Mt 20) 0 5)) 20 (mNum (Mt 2) n ((u3 Mt 20 q2) 20) 0 5)) (hiM (hiM hi (mVal (Mt 20) 0 5)) (mVal ((u3 Mt 20 q2) 20) 0 5)) la ce) := X
        obtain ⟨q3, hq3q⟩ : ∃ z, mR3 (Mt 2) n (Mt 20) = z := ⟨_, rfl⟩
        have X : Hx D zA zs H locs (mW tk h (u3 (u2 Mt 1 (6 + (Mt 1 42)) (mVal (Mt 20) 0 5)) 20 q3) (hiM (hiM hi (mVal (Mt 20) 0 5)) (mVal ((u3 Mt 20 q2) 20) 0 5)) la ce) := X.to (by rw [show q3 = mNum (Mt 2) n ((u3 Mt 20 q2) 20) 0 5 from by rw [← hq3q]; rw [mR3, hq2] <;> rfl] <;> rfl)
        have hI3 : MI n q3 := by rw [← hq3q, mR3, hq2]; exact hI2.num
        have h33 : q3 3 = n := by rw [← hq3q, mR3_o _ _ _ (by decide)]; exact hq3
        refine g_iast (g := nf (u1 (u1 (Mt 1) (6 + (Mt 1 42)) (mVal (Mt 20) 0 5)) (15 + (Mt 1 42)) (mVal ((u3 Mt 20 q2) 20) 0 5))) (i := 15 + (Mt 1 42)) C0 X 2 0 rfl rfl (by omega) rfl (nf_u1 _ _ _) dX7_readRoot_63 (fun H locs X => ?_)
        have X : Hx D zA zs H locs (mW tk h (u2 (u3 (u2 Mt 1 (6 + (Mt 1 42)) (mVal (Mt 20) 0 5)) 20 q3) 1 (15 + (Mt 1 42)) (mVal ((u3 Mt 20 q2) 20) 0 5)) (hiM (hiM hi (mVal (Mt 20) 0 5)) (mVal ((u3 Mt 20 q2) 20) 0 5)) la ce) := X
        refine lv_aload_n hx hb dX7_readRoot_64 rfl (lv_at hl 2 rfl) ?_
        refine g_get (v := .ref (h 2)) C0 X kX7 0 2 tb799 rfl rfl rfl dX7_readRoot_65 ?_
        refine g_bipush (n := 24) C0 (by decide) dX7_readRoot_68 ?_
        refine lv_iload_n hx hb dX7_readRoot_70 rfl (lv_at hl 1 rfl) ?_
        refine g_iadd (n := 24 + (Mt 1 42)) C0 (by first | rfl | omega) dX7_readRoot_71 ?_
        refine lv_aload_n hx hb dX7_readRoot_72 rfl (lv_at hl 2 rfl) ?_
        refine g_iconst (n := 1) C0 rfl dX7_readRoot_73 ?_
        refine g_bipush (n := 9) C0 (by decide) dX7_readRoot_74 ?_
        refine g_callV (As := [.int (nI 1), .int (nI 9)]) (rest := [.int (nI (24 + (Mt 1 42))), .ref (h 2)]) (wr := []) (C0.sz hl) X (c_X7_number l D tk h (u2 (u3 (u2 Mt 1 (6 + (Mt 1 42)) (mVal (Mt 20) 0 5)) 20 q3) 1 (15 + (Mt 1 42)) (mVal ((u3 Mt 20 q2) 20) 0 5)) (hiM (hiM hi (mVal (Mt 20) 0 5)) (mVal ((u3 Mt 20 q2) 20) 0 5)) la ce n 1 9 (by exact h33) (by exact hn) (by exact ht8) (by exact hI3) (by first | assumption | decide | omega) (by first | assumption | decide | omega)) ⟨tb937, tb940, tb8, ⟨by decide, by decide, rfl⟩, rfl, rfl, Nat.le_of_ble_eq_true rfl, Nat.le_of_ble_eq_true rfl⟩ tb939 tbs30 0 7 rfl rfl rfl rfl [0, 1, 2, 3, 4, 5, 6, 7, 8, 9, 10, 11, 12, 13] [] rfl rfl rfl rfl rfl (Nat.le_of_ble_eq_true rfl) ⟨Nat.le_of_ble_eq_true rfl, Nat.le_of_ble_eq_true rfl⟩ dX7_readRoot_76 (fun _ H locs _ X => ?_)
        have X : Hx D zA zs H locs (mW tk h (u3 (u2 (u2 Mt 1 (6 + (Mt 1 42)) (mVal (Mt 20) 0 5)) 1 (15 + (Mt 1 42)) (mVal ((u3 Mt 20 q2) 20) 0 5)) 20 (mNum (Mt 2) n ((u3 (u2 Mt 1 (6 + (Mt 1 42)) (mVal (Mt 20) 0 5)) 20 q3) 20) 1 9)) (hiM (hiM hi (mVal (Mt 20) 0 5)) (mVal ((u3 Mt 20 q2) 20) 0 5)) la ce) := X
        obtain ⟨q4, hq4⟩ : ∃ z, mR4 (Mt 2) n (Mt 20) = z := ⟨_, rfl⟩
        have X : Hx D zA zs H locs (mW tk h (u3 (u2 (u2 Mt 1 (6 + (Mt 1 42)) (mVal (Mt 20) 0 5)) 1 (15 + (Mt 1 42)) (mVal ((u3 Mt 20 q2) 20) 0 5)) 20 q4) (hiM (hiM hi (mVal (Mt 20) 0 5)) (mVal ((u3 Mt 20 q2) 20) 0 5)) la ce) := X.to (by rw [show q4 = mNum (Mt 2) n ((u3 (u2 Mt 1 (6 + (Mt 1 42)) (mVal (Mt 20) 0 5)) 20 q3) 20) 1 9 from by rw [← hq4]; rw [mR4, hq3q] <;> rfl] <;> rfl)
        refine g_iast (g := nf (u1 (u1 (u1 (Mt 1) (6 + (Mt 1 42)) (mVal (Mt 20) 0 5)) (15 + (Mt 1 42)) (mVal ((u3 Mt 20 q2) 20) 0 5)) (24 + (Mt 1 42)) (mVal ((u3 (u2 Mt 1 (6 + (Mt 1 42)) (mVal (Mt 20) 0 5)) 20 q3) 20) 1 9))) (i := 24 + (Mt 1 42)) C0 X 2 0 rfl rfl (by omega) rfl (nf_u1 _ _ _) dX7_readRoot_79 (fun H locs X => ?_)
        have X : Hx D zA zs H locs (mW tk h (u2 (u3 (u2 (u2 Mt 1 (6 + (Mt 1 42)) (mVal (Mt 20) 0 5)) 1 (15 + (Mt 1 42)) (mVal ((u3 Mt 20 q2) 20) 0 5)) 20 q4) 1 (24 + (Mt 1 42)) (mVal ((u3 (u2 Mt 1 (6 + (Mt 1 42)) (mVal (Mt 20) 0 5)) 20 q3) 20) 1 9)) (hiM (hiM hi (mVal (Mt 20) 0 5)) (mVal ((u3 Mt 20 q2) 20) 0 5)) la ce) := X
        refine lv_aload_n hx hb dX7_readRoot_80 rfl (lv_at hl 2 rfl) ?_
        refine g_get (v := .ref (h 2)) C0 X kX7 0 2 tb799 rfl rfl rfl dX7_readRoot_81 ?_
        refine g_bipush (n := 42) C0 (by decide) dX7_readRoot_84 ?_
        refine lv_dup2_11 hx hb dX7_readRoot_86 rfl rfl ?_
        refine g_iald (v := nI ((u1 (u1 (u1 (Mt 1) (6 + (Mt 1 42)) (mVal (Mt 20) 0 5)) (15 + (Mt 1 42)) (mVal ((u3 Mt 20 q2) 20) 0 5)) (24 + (Mt 1 42)) (mVal ((u3 (u2 Mt 1 (6 + (Mt 1 42)) (mVal (Mt 20) 0 5)) 20 q3) 20) 1 9)) 42)) (i := 42) C0 X 2 0 rfl rfl (by omega) rfl (by first | rfl | exact congrArg nI (u1_s _ _ _)) dX7_readRoot_87 ?_
        refine g_top (y := nI (Mt 1 42)) (by refine congrArg nI ?_; repeat (first | rw [u1_n _ _ (by omega)] | rfl)) ?_
        refine g_iconst (n := 1) C0 rfl dX7_readRoot_88 ?_
        refine g_iadd (n := Mt 1 42 + 1) C0 (by first | rfl | omega) dX7_readRoot_89 ?_
        refine g_iast (g := nf (u1 (u1 (u1 (u1 (Mt 1) (6 + (Mt 1 42)) (mVal (Mt 20) 0 5)) (15 + (Mt 1 42)) (mVal ((u3 Mt 20 q2) 20) 0 5)) (24 + (Mt 1 42)) (mVal ((u3 (u2 Mt 1 (6 + (Mt 1 42)) (mVal (Mt 20) 0 5)) 20 q3) 20) 1 9)) 42 (Mt 1 42 + 1))) (i := 42) C0 X 2 0 rfl rfl (by omega) rfl (nf_u1 _ _ _) dX7_readRoot_90 (fun H locs X => ?_)
        have X : Hx D zA zs H locs (mW tk h (u2 (u2 (u3 (u2 (u2 Mt 1 (6 + (Mt 1 42)) (mVal (Mt 20) 0 5)) 1 (15 + (Mt 1 42)) (mVal ((u3 Mt 20 q2) 20) 0 5)) 20 q4) 1 (24 + (Mt 1 42)) (mVal ((u3 (u2 Mt 1 (6 + (Mt 1 42)) (mVal (Mt 20) 0 5)) 20 q3) 20) 1 9)) 1 42 (Mt 1 42 + 1)) (hiM (hiM hi (mVal (Mt 20) 0 5)) (mVal ((u3 Mt 20 q2) 20) 0 5)) la ce) := X
        exact hE (v := ()) () rfl trivial (X.to (by rw [mRp, mRh, mRv1, mRv2, mRv3, hq2, hq3q, hq4] <;> rfl)) dX7_readRoot_91
      · refine lv_aload_n hx hb dX7_readRoot_36 rfl (lv_at hl 2 rfl) ?_
        refine g_iconst (n := 3) C0 rfl dX7_readRoot_37 ?_
        refine g_callV (As := [.int (nI 3)]) (rest := []) (wr := []) (C0.sz hl) X (c_X7_fails l D tk h (u3 Mt 20 q1) (hiM hi (mVal (Mt 20) 0 5)) la ce 3 (by exact hj3)) ⟨tb908, tb911, tb8, ⟨by decide, by decide, rfl⟩, rfl, rfl, Nat.le_of_ble_eq_true rfl, Nat.le_of_ble_eq_true rfl⟩ tb910 tbs23 0 7 rfl rfl rfl rfl [0, 1, 2, 3, 4, 5, 6, 7, 8, 9, 10, 11, 12, 13] [] rfl rfl rfl rfl rfl (Nat.le_of_ble_eq_true rfl) ⟨Nat.le_of_ble_eq_true rfl, Nat.le_of_ble_eq_true rfl⟩ dX7_readRoot_38 (fun _ H locs _ X => ?_)
        have X : Hx D zA zs H locs (mW tk h (u3 Mt 20 (mFail ((u3 Mt 20 q1) 20) 3)) (hiM hi (mVal (Mt 20) 0 5)) la ce) := X
        obtain ⟨q2, hq2⟩ : ∃ z, mR2 (Mt 2) n (Mt 20) = z := ⟨_, rfl⟩
        have X : Hx D zA zs H locs (mW tk h (u3 Mt 20 q2) (hiM hi (mVal (Mt 20) 0 5)) la ce) := X.to (by rw [show q2 = mFail ((u3 Mt 20 q1) 20) 3 from by rw [← hq2]; rw [mR2, hq1]; exact if_pos ⟨by omega, by omega, c6⟩] <;> rfl)
        have hI2 : MI n q2 := by rw [← hq2]; exact hI.r2
        have h23 : q2 3 = n := by rw [← hq2, mR2_o _ _ _ (by decide)]; exact hq3
        refine lv_aload_n hx hb dX7_readRoot_41 rfl (lv_at hl 2 rfl) ?_
        refine g_get (v := .ref (h 2)) C0 X kX7 0 2 tb799 rfl rfl rfl dX7_readRoot_42 ?_
        refine g_bipush (n := 6) C0 (by decide) dX7_readRoot_45 ?_
        refine lv_iload_n hx hb dX7_readRoot_47 rfl (lv_at hl 1 rfl) ?_
        refine g_iadd (n := 6 + (Mt 1 42)) C0 (by first | rfl | omega) dX7_readRoot_48 ?_
        refine lv_iload_n hx hb dX7_readRoot_49 rfl (lv_at hl 0 rfl) ?_
        refine g_iast (g := nf (u1 (Mt 1) (6 + (Mt 1 42)) (mVal (Mt 20) 0 5))) (i := 6 + (Mt 1 42)) C0 X 2 0 rfl rfl (by omega) rfl (nf_u1 _ _ _) dX7_readRoot_50 (fun H locs X => ?_)
        have X : Hx D zA zs H locs (mW tk h (u2 (u3 Mt 20 q2) 1 (6 + (Mt 1 42)) (mVal (Mt 20) 0 5)) (hiM hi (mVal (Mt 20) 0 5)) la ce) := X
        refine lv_aload_n hx hb dX7_readRoot_51 rfl (lv_at hl 2 rfl) ?_
        refine g_get (v := .ref (h 2)) C0 X kX7 0 2 tb799 rfl rfl rfl dX7_readRoot_52 ?_
        refine g_bipush (n := 15) C0 (by decide) dX7_readRoot_55 ?_
        refine lv_iload_n hx hb dX7_readRoot_57 rfl (lv_at hl 1 rfl) ?_
        refine g_iadd (n := 15 + (Mt 1 42)) C0 (by first | rfl | omega) dX7_readRoot_58 ?_
        refine lv_aload_n hx hb dX7_readRoot_59 rfl (lv_at hl 2 rfl) ?_
        refine g_callV (As := []) (rest := [.int (nI (15 + (Mt 1 42))), .ref (h 2)]) (wr := []) (C0.sz hl) X (c_X7_treeHere l D tk h (u2 (u3 Mt 20 q2) 1 (6 + (Mt 1 42)) (mVal (Mt 20) 0 5)) (hiM hi (mVal (Mt 20) 0 5)) la ce n (by exact h23) (by exact hn) (by exact ht8) (by exact hI2)) ⟨tb933, tb936, tb8, ⟨by decide, by decide, rfl⟩, rfl, rfl, Nat.le_of_ble_eq_true rfl, Nat.le_of_ble_eq_true rfl⟩ tb935 tbs29 0 7 rfl rfl rfl rfl [0, 1, 2, 3, 4, 5, 6, 7, 8, 9, 10, 11, 12, 13] [] rfl rfl rfl rfl rfl (Nat.le_of_ble_eq_true rfl) ⟨Nat.le_of_ble_eq_true rfl, Nat.le_of_ble_eq_true rfl⟩ dX7_readRoot_60 (fun _ H locs _ X => ?_)
        have X : Hx D zA zs H locs (mW tk h (u3 (u2 Mt 1 (6 + (Mt 1 42)) (mVal (Mt 20) 0 5)) 20 (mNum (Mt 2) n ((u3 Mt 20 q2) 20) 0 5)) (hiM (hiM hi (mVal (Mt 20) 0 5)) (mVal ((u3 Mt 20 q2) 20) 0 5)) la ce) := X
        obtain ⟨q3, hq3q⟩ : ∃ z, mR3 (Mt 2) n (Mt 20) = z := ⟨_, rfl⟩
        have X : Hx D zA zs H locs (mW tk h (u3 (u2 Mt 1 (6 + (Mt 1 42)) (mVal (Mt 20) 0 5)) 20 q3) (hiM (hiM hi (mVal (Mt 20) 0 5)) (mVal ((u3 Mt 20 q2) 20) 0 5)) la ce) := X.to (by rw [show q3 = mNum (Mt 2) n ((u3 Mt 20 q2) 20) 0 5 from by rw [← hq3q]; rw [mR3, hq2] <;> rfl] <;> rfl)
        have hI3 : MI n q3 := by rw [← hq3q, mR3, hq2]; exact hI2.num
        have h33 : q3 3 = n := by rw [← hq3q, mR3_o _ _ _ (by decide)]; exact hq3
        refine g_iast (g := nf (u1 (u1 (Mt 1) (6 + (Mt 1 42)) (mVal (Mt 20) 0 5)) (15 + (Mt 1 42)) (mVal ((u3 Mt 20 q2) 20) 0 5))) (i := 15 + (Mt 1 42)) C0 X 2 0 rfl rfl (by omega) rfl (nf_u1 _ _ _) dX7_readRoot_63 (fun H locs X => ?_)
        have X : Hx D zA zs H locs (mW tk h (u2 (u3 (u2 Mt 1 (6 + (Mt 1 42)) (mVal (Mt 20) 0 5)) 20 q3) 1 (15 + (Mt 1 42)) (mVal ((u3 Mt 20 q2) 20) 0 5)) (hiM (hiM hi (mVal (Mt 20) 0 5)) (mVal ((u3 Mt 20 q2) 20) 0 5)) la ce) := X
        refine lv_aload_n hx hb dX7_readRoot_64 rfl (lv_at hl 2 rfl) ?_
        refine g_get (v := .ref (h 2)) C0 X kX7 0 2 tb799 rfl rfl rfl dX7_readRoot_65 ?_
        refine g_bipush (n := 24) C0 (by decide) dX7_readRoot_68 ?_
        refine lv_iload_n hx hb dX7_readRoot_70 rfl (lv_at hl 1 rfl) ?_
        refine g_iadd (n := 24 + (Mt 1 42)) C0 (by first | rfl | omega) dX7_readRoot_71 ?_
        refine lv_aload_n hx hb dX7_readRoot_72 rfl (lv_at hl 2 rfl) ?_
        refine g_iconst (n := 1) C0 rfl dX7_readRoot_73 ?_
        refine g_bipush (n := 9) C0 (by decide) dX7_readRoot_74 ?_
        refine g_callV (As := [.int (nI 1), .int (nI 9)]) (rest := [.int (nI (24 + (Mt 1 42))), .ref (h 2)]) (wr := []) (C0.sz hl) X (c_X7_number l D tk h (u2 (u3 (u2 Mt 1 (6 + (Mt 1 42)) (mVal (Mt 20) 0 5)) 20 q3) 1 (15 + (Mt 1 42)) (mVal ((u3 Mt 20 q2) 20) 0 5)) (hiM (hiM hi (mVal (Mt 20) 0 5)) (mVal ((u3 Mt 20 q2) 20) 0 5)) la ce n 1 9 (by exact h33) (by exact hn) (by exact ht8) (by exact hI3) (by first | assumption | decide | omega) (by first | assumption | decide | omega)) ⟨tb937, tb940, tb8, ⟨by decide, by decide, rfl⟩, rfl, rfl, Nat.le_of_ble_eq_true rfl, Nat.le_of_ble_eq_true rfl⟩ tb939 tbs30 0 7 rfl rfl rfl rfl [0, 1, 2, 3, 4, 5, 6, 7, 8, 9, 10, 11, 12, 13] [] rfl rfl rfl rfl rfl (Nat.le_of_ble_eq_true rfl) ⟨Nat.le_of_ble_eq_true rfl, Nat.le_of_ble_eq_true rfl⟩ dX7_readRoot_76 (fun _ H locs _ X => ?_)
        have X : Hx D zA zs H locs (mW tk h (u3 (u2 (u2 Mt 1 (6 + (Mt 1 42)) (mVal (Mt 20) 0 5)) 1 (15 + (Mt 1 42)) (mVal ((u3 Mt 20 q2) 20) 0 5)) 20 (mNum (Mt 2) n ((u3 (u2 Mt 1 (6 + (Mt 1 42)) (mVal (Mt 20) 0 5)) 20 q3) 20) 1 9)) (hiM (hiM hi (mVal (Mt 20) 0 5)) (mVal ((u3 Mt 20 q2) 20) 0 5)) la ce) := X
        obtain ⟨q4, hq4⟩ : ∃ z, mR4 (Mt 2) n (Mt 20) = z := ⟨_, rfl⟩
        have X : Hx D zA zs H locs (mW tk h (u3 (u2 (u2 Mt 1 (6 + (Mt 1 42)) (mVal (Mt 20) 0 5)) 1 (15 + (Mt 1 42)) (mVal ((u3 Mt 20 q2) 20) 0 5)) 20 q4) (hiM (hiM hi (mVal (Mt 20) 0 5)) (mVal ((u3 Mt 20 q2) 20) 0 5)) la ce) := X.to (by rw [show q4 = mNum (Mt 2) n ((u3 (u2 Mt 1 (6 + (Mt 1 42)) (mVal (Mt 20) 0 5)) 20 q3) 20) 1 9 from by rw [← hq4]; rw [mR4, hq3q] <;> rfl] <;> rfl)
        refine g_iast (g := nf (u1 (u1 (u1 (Mt 1) (6 + (Mt 1 42)) (mVal (Mt 20) 0 5)) (15 + (Mt 1 42)) (mVal ((u3 Mt 20 q2) 20) 0 5)) (24 + (Mt 1 42)) (mVal ((u3 (u2 Mt 1 (6 + (Mt 1 42)) (mVal (Mt 20) 0 5)) 20 q3) 20) 1 9))) (i := 24 + (Mt 1 42)) C0 X 2 0 rfl rfl (by omega) rfl (nf_u1 _ _ _) dX7_readRoot_79 (fun H locs X => ?_)
        have X : Hx D zA zs H locs (mW tk h (u2 (u3 (u2 (u2 Mt 1 (6 + (Mt 1 42)) (mVal (Mt 20) 0 5)) 1 (15 + (Mt 1 42)) (mVal ((u3 Mt 20 q2) 20) 0 5)) 20 q4) 1 (24 + (Mt 1 42)) (mVal ((u3 (u2 Mt 1 (6 + (Mt 1 42)) (mVal (Mt 20) 0 5)) 20 q3) 20) 1 9)) (hiM (hiM hi (mVal (Mt 20) 0 5)) (mVal ((u3 Mt 20 q2) 20) 0 5)) la ce) := X
        refine lv_aload_n hx hb dX7_readRoot_80 rfl (lv_at hl 2 rfl) ?_
        refine g_get (v := .ref (h 2)) C0 X kX7 0 2 tb799 rfl rfl rfl dX7_readRoot_81 ?_
        refine g_bipush (n := 42) C0 (by decide) dX7_readRoot_84 ?_
        refine lv_dup2_11 hx hb dX7_readRoot_86 rfl rfl ?_
        refine g_iald (v := nI ((u1 (u1 (u1 (Mt 1) (6 + (Mt 1 42)) (mVal (Mt 20) 0 5)) (15 + (Mt 1 42)) (mVal ((u3 Mt 20 q2) 20) 0 5)) (24 + (Mt 1 42)) (mVal ((u3 (u2 Mt 1 (6 + (Mt 1 42)) (mVal (Mt 20) 0 5)) 20 q3) 20) 1 9)) 42)) (i := 42) C0 X 2 0 rfl rfl (by omega) rfl (by first | rfl | exact congrArg nI (u1_s _ _ _)) dX7_readRoot_87 ?_
        refine g_top (y := nI (Mt 1 42)) (by refine congrArg nI ?_; repeat (first | rw [u1_n _ _ (by omega)] | rfl)) ?_
        refine g_iconst (n := 1) C0 rfl dX7_readRoot_88 ?_
        refine g_iadd (n := Mt 1 42 + 1) C0 (by first | rfl | omega) dX7_readRoot_89 ?_
        refine g_iast (g := nf (u1 (u1 (u1 (u1 (Mt 1) (6 + (Mt 1 42)) (mVal (Mt 20) 0 5)) (15 + (Mt 1 42)) (mVal ((u3 Mt 20 q2) 20) 0 5)) (24 + (Mt 1 42)) (mVal ((u3 (u2 Mt 1 (6 + (Mt 1 42)) (mVal (Mt 20) 0 5)) 20 q3) 20) 1 9)) 42 (Mt 1 42 + 1))) (i := 42) C0 X 2 0 rfl rfl (by omega) rfl (nf_u1 _ _ _) dX7_readRoot_90 (fun H locs X => ?_)
        have X : Hx D zA zs H locs (mW tk h (u2 (u2 (u3 (u2 (u2 Mt 1 (6 + (Mt 1 42)) (mVal (Mt 20) 0 5)) 1 (15 + (Mt 1 42)) (mVal ((u3 Mt 20 q2) 20) 0 5)) 20 q4) 1 (24 + (Mt 1 42)) (mVal ((u3 (u2 Mt 1 (6 + (Mt 1 42)) (mVal (Mt 20) 0 5)) 20 q3) 20) 1 9)) 1 42 (Mt 1 42 + 1)) (hiM (hiM hi (mVal (Mt 20) 0 5)) (mVal ((u3 Mt 20 q2) 20) 0 5)) la ce) := X
        exact hE (v := ()) () rfl trivial (X.to (by rw [mRp, mRh, mRv1, mRv2, mRv3, hq2, hq3q, hq4] <;> rfl)) dX7_readRoot_91
