set_option maxHeartbeats 4000000 in
set_option maxRecDepth 100000 in
theorem c_rlF (l : Launch) (D : va_G) (tk : Nat → ClassId) (h : Nat → Nat) (Mt : Nat → Nat → Nat) (hi : Int32) (la ce : Nat → Int32) (n : Nat) (hq3 : Mt 20 3 = n) (hn : n ≤ 160) (ht8 : ∀ j, j < n → Mt 2 j < 128) (hI : MI n (Mt 20)) (hp : MP (Mt 20) (Mt 1)) (hk7 : mWh (Mt 2) (Mt 20) = 7) : MX l yX7_readLine cX7_readLine 2 none ⟨6, 0, 0, 134⟩ D (TYS tk) [.ref (h 0)] (mW tk h Mt hi la ce) (fun (_ : Unit) => True) (fun _ => none) (fun _ => mW tk h (u3 (u3 Mt 20 (mLineQ (Mt 2) n (Mt 20) (Mt 1))) 1 (mLineP (Mt 2) n (Mt 20) (Mt 1))) (mLineH (Mt 2) n (Mt 20) (Mt 1) hi) la ce) 0 0 := by
  refine MX.of_v (by decide) rfl ?_
  intro zp ze zs zm za zb zt zc zA zQ ls C0 hnm X hl hE
  have hx := C0.1
  have hb := C0.2.1
  have ht := C0.2.2.2.2.1
  have X : Hx D zA zs zs.heap [] (mW tk h Mt hi la ce) := X
  have hl : lv_has ls 2 [(0, .ref (h 0))] := hl
  obtain ⟨hm1, hm2, hm3, hm4, hm5⟩ := id hI
  obtain ⟨H, hH⟩ : ∃ H, H = zs.heap := ⟨_, rfl⟩
  rw [← hH] at X ⊢
  obtain ⟨locs, hlo⟩ : ∃ L : List Loc, L = [] := ⟨_, rfl⟩
  rw [← hlo] at X ⊢
  refine lv_aload_n hx hb dX7_readLine_0 rfl (lv_at hl 0 rfl) ?_
  refine g_callV (As := []) (rest := []) (wr := []) (C0.sz hl) X (c_X7_nameHere l D tk h Mt hi la ce n (by exact hq3) (by exact hn) (by exact ht8) (by exact hI)) ⟨tb916, tb919, tb8, ⟨by decide, by decide, rfl⟩, rfl, rfl, Nat.le_of_ble_eq_true rfl, Nat.le_of_ble_eq_true rfl⟩ tb918 tbs25 0 7 rfl rfl rfl rfl [0, 1, 2, 3, 4, 5, 6, 7, 8, 9, 10, 11, 12, 13] [] rfl rfl rfl rfl rfl (Nat.le_of_ble_eq_true rfl) ⟨Nat.le_of_ble_eq_true rfl, Nat.le_of_ble_eq_true rfl⟩ dX7_readLine_1 (fun _ H locs _ X => ?_)
  have X : Hx D zA zs H locs (mW tk h Mt hi la ce) := X
  refine g_top (y := (-4 : Int32)) (by rw [hk7]; rfl) ?_
  refine lv_istore_n (lv' := [(1, .int (-4)), (0, .ref (h 0))]) hx hb dX7_readLine_4 rfl hl (by decide) rfl (fun ls hl => ?_)
  refine lv_iload_n hx hb dX7_readLine_5 rfl (lv_at hl 0 rfl) ?_
  refine lv_i2l hx hb dX7_readLine_6 rfl ?_
  refine g_lconst (n := 0) C0 rfl dX7_readLine_7 ?_
  refine lv_ldc2 (v := lN 6) hx hb C0.2.2.2.1 (ht _ tb920) dX7_readLine_8 ?_
  refine g_callS (As := [.long (Int32.toInt64 (-4)), .long (lN 0), .long (lN 6)]) (rest := []) (wr := (mW tk h Mt hi la ce)) (C0.sz hl) X (c_X7_in l D tk (Int32.toInt64 (-4)) (lN 0) (lN 6)) ⟨tb885, tb887, tb8, ⟨by decide, by decide, rfl⟩, rfl, rfl, Nat.le_of_ble_eq_true rfl, Nat.le_of_ble_eq_true rfl⟩ tb886 rfl [] [0, 1, 2, 3, 4, 5, 6, 7, 8, 9, 10, 11, 12, 13] rfl rfl rfl rfl rfl (Nat.le_of_ble_eq_true rfl) ⟨Nat.le_of_ble_eq_true rfl, Nat.le_of_ble_eq_true rfl⟩ dX7_readLine_11 (fun _ H locs _ X => ?_)
  have X : Hx D zA zs H locs (mW tk h Mt hi la ce) := X
  refine g_top (y := nI (rb (rg (-4) 0 6))) (by rw [inL_rg (-4) (by first | decide | omega) (by first | decide | omega)]) ?_
  refine g_top (y := nI (rb false)) (by decide) ?_
  refine g_ifneB (x := false) (tgt := 23) C0 dX7_readLine_14 rfl (fun q => absurd q (by decide)) (fun _ => ?_)
  refine lv_aload_n hx hb dX7_readLine_17 rfl (lv_at hl 1 rfl) ?_
  refine g_iconst (n := 2) C0 rfl dX7_readLine_18 ?_
  refine g_callV (As := [.int (nI 2)]) (rest := []) (wr := []) (C0.sz hl) X (c_X7_fails l D tk h Mt hi la ce 2 (by exact hm3)) ⟨tb908, tb911, tb8, ⟨by decide, by decide, rfl⟩, rfl, rfl, Nat.le_of_ble_eq_true rfl, Nat.le_of_ble_eq_true rfl⟩ tb910 tbs23 0 7 rfl rfl rfl rfl [0, 1, 2, 3, 4, 5, 6, 7, 8, 9, 10, 11, 12, 13] [] rfl rfl rfl rfl rfl (Nat.le_of_ble_eq_true rfl) ⟨Nat.le_of_ble_eq_true rfl, Nat.le_of_ble_eq_true rfl⟩ dX7_readLine_19 (fun _ H locs _ X => ?_)
  have X : Hx D zA zs H locs (mW tk h (u3 Mt 20 (mFail (Mt 20) 2)) hi la ce) := X
  exact hE (v := ()) () rfl trivial (X.to (by rw [mLineQ, mLineP, mLineH, if_pos hk7, if_pos hk7, if_pos hk7] <;> rfl)) dX7_readLine_22
set_option maxHeartbeats 4000000 in
set_option maxRecDepth 100000 in
theorem c_rlT (l : Launch) (D : va_G) (tk : Nat → ClassId) (h : Nat → Nat) (Mt : Nat → Nat → Nat) (hi : Int32) (la ce : Nat → Int32) (n : Nat) (k : Nat) (hq3 : Mt 20 3 = n) (hn : n ≤ 160) (ht8 : ∀ j, j < n → Mt 2 j < 128) (hI : MI n (Mt 20)) (hp : MP (Mt 20) (Mt 1)) (hw : mWh (Mt 2) (Mt 20) = k) (hk6 : k ≤ 6) : MX l yX7_readLine cX7_readLine 2 none ⟨6, 0, 0, 134⟩ D (TYS tk) [.ref (h 0)] (mW tk h Mt hi la ce) (fun (_ : Unit) => True) (fun _ => none) (fun _ => mW tk h (u3 (u3 Mt 20 (mLineQ (Mt 2) n (Mt 20) (Mt 1))) 1 (mLineP (Mt 2) n (Mt 20) (Mt 1))) (mLineH (Mt 2) n (Mt 20) (Mt 1) hi) la ce) 0 0 := by
  refine MX.of_v (by decide) rfl ?_
  intro zp ze zs zm za zb zt zc zA zQ ls C0 hnm X hl hE
  have hx := C0.1
  have hb := C0.2.1
  have ht := C0.2.2.2.2.1
  have X : Hx D zA zs zs.heap [] (mW tk h Mt hi la ce) := X
  have hl : lv_has ls 2 [(0, .ref (h 0))] := hl
  obtain ⟨hm1, hm2, hm3, hm4, hm5⟩ := id hI
  have hk7 : ¬ k = 7 := by omega
  obtain ⟨hp1, hp2, hp3, hp4⟩ := id hp
  obtain ⟨H, hH⟩ : ∃ H, H = zs.heap := ⟨_, rfl⟩
  rw [← hH] at X ⊢
  obtain ⟨locs, hlo⟩ : ∃ L : List Loc, L = [] := ⟨_, rfl⟩
  rw [← hlo] at X ⊢
  refine lv_aload_n hx hb dX7_readLine_0 rfl (lv_at hl 0 rfl) ?_
  refine g_callV (As := []) (rest := []) (wr := []) (C0.sz hl) X (c_X7_nameHere l D tk h Mt hi la ce n (by exact hq3) (by exact hn) (by exact ht8) (by exact hI)) ⟨tb916, tb919, tb8, ⟨by decide, by decide, rfl⟩, rfl, rfl, Nat.le_of_ble_eq_true rfl, Nat.le_of_ble_eq_true rfl⟩ tb918 tbs25 0 7 rfl rfl rfl rfl [0, 1, 2, 3, 4, 5, 6, 7, 8, 9, 10, 11, 12, 13] [] rfl rfl rfl rfl rfl (Nat.le_of_ble_eq_true rfl) ⟨Nat.le_of_ble_eq_true rfl, Nat.le_of_ble_eq_true rfl⟩ dX7_readLine_1 (fun _ H locs _ X => ?_)
  have X : Hx D zA zs H locs (mW tk h Mt hi la ce) := X
  refine g_top (y := nI k) (by rw [hw]; exact if_neg hk7) ?_
  refine lv_istore_n (lv' := [(1, .int (nI k)), (0, .ref (h 0))]) hx hb dX7_readLine_4 rfl hl (by decide) rfl (fun ls hl => ?_)
  refine lv_iload_n hx hb dX7_readLine_5 rfl (lv_at hl 0 rfl) ?_
  refine g_i2l C0 (by omega) dX7_readLine_6 ?_
  refine g_lconst (n := 0) C0 rfl dX7_readLine_7 ?_
  refine lv_ldc2 (v := lN 6) hx hb C0.2.2.2.1 (ht _ tb920) dX7_readLine_8 ?_
  refine g_callS (As := [.long (lN k), .long (lN 0), .long (lN 6)]) (rest := []) (wr := (mW tk h Mt hi la ce)) (C0.sz hl) X (c_X7_in l D tk (lN k) (lN 0) (lN 6)) ⟨tb885, tb887, tb8, ⟨by decide, by decide, rfl⟩, rfl, rfl, Nat.le_of_ble_eq_true rfl, Nat.le_of_ble_eq_true rfl⟩ tb886 rfl [] [0, 1, 2, 3, 4, 5, 6, 7, 8, 9, 10, 11, 12, 13] rfl rfl rfl rfl rfl (Nat.le_of_ble_eq_true rfl) ⟨Nat.le_of_ble_eq_true rfl, Nat.le_of_ble_eq_true rfl⟩ dX7_readLine_11 (fun _ H locs _ X => ?_)
  have X : Hx D zA zs H locs (mW tk h Mt hi la ce) := X
  refine g_top (y := nI (rb true)) (by rw [inL_nn (by omega) (by omega) (by omega), decide_eq_true (show 0 ≤ k by omega), decide_eq_true hk6]; rfl) ?_
  refine g_ifneB (x := true) (tgt := 23) C0 dX7_readLine_14 rfl (fun _ => ?_) (fun q => absurd q (by decide))
  refine lv_aload_n hx hb dX7_readLine_23 rfl (lv_at hl 1 rfl) ?_
  refine lv_iload_n hx hb dX7_readLine_24 rfl (lv_at hl 0 rfl) ?_
  refine g_callV (As := [.int (nI k)]) (rest := []) (wr := []) (C0.sz hl) X (c_X7_isFull l D tk h Mt hi la ce k (by exact hk6) (by exact hp)) ⟨tb921, tb924, tb8, ⟨by decide, by decide, rfl⟩, rfl, rfl, Nat.le_of_ble_eq_true rfl, Nat.le_of_ble_eq_true rfl⟩ tb923 tbs26 0 7 rfl rfl rfl rfl [0, 1, 2, 3, 4, 5, 6, 7, 8, 9, 10, 11, 12, 13] [] rfl rfl rfl rfl rfl (Nat.le_of_ble_eq_true rfl) ⟨Nat.le_of_ble_eq_true rfl, Nat.le_of_ble_eq_true rfl⟩ dX7_readLine_25 (fun _ H locs _ X => ?_)
  have X : Hx D zA zs H locs (mW tk h Mt hi la ce) := X
  have J36 : ∀ (q1 : Nat → Nat) (hq1 : mL1 (Mt 20) (Mt 1) k = q1) (hI1 : MI n q1) (hb1 : q1 5 ≤ 6) (hz2 : q1 2 = Mt 20 2) (H : Heap) (locs : List Loc) (ls : Array Slot), Hx D zA zs H locs (mW tk h (u3 Mt 20 q1) hi la ce) → lv_has ls 2 [(1, .int (nI k)), (0, .ref (h 0))] → W zp l ze ⟨6, 0, 0, 134⟩ zs zm za zb zt zc H locs 0 0 zQ (F0 zm 36 ls []) := by
    intro q1 hq1 hI1 hb1 hz2 H locs ls X hl
    refine lv_iload_n hx hb dX7_readLine_36 rfl (lv_at hl 0 rfl) ?_
    refine g_bipush (n := 6) C0 (by decide) dX7_readLine_37 ?_
    have J54 : ∀ (q2 : Nat → Nat) (hq2 : mL2 (Mt 20) (Mt 1) k = q2) (hI2 : MI n q2) (hb2 : q2 5 ≤ 6) (hy2 : q2 2 = Mt 20 2) (H : Heap) (locs : List Loc) (ls : Array Slot), Hx D zA zs H locs (mW tk h (u3 Mt 20 q2) hi la ce) → lv_has ls 2 [(1, .int (nI k)), (0, .ref (h 0))] → W zp l ze ⟨6, 0, 0, 134⟩ zs zm za zb zt zc H locs 0 0 zQ (F0 zm 54 ls []) := by
      intro q2 hq2 hI2 hb2 hy2 H locs ls X hl
      refine lv_aload_n hx hb dX7_readLine_54 rfl (lv_at hl 1 rfl) ?_
      refine lv_aload_n hx hb dX7_readLine_55 rfl (lv_at hl 1 rfl) ?_
      have J73 : ∀ (H : Heap) (locs : List Loc) (ls : Array Slot), Hx D zA zs H locs (mW tk h (u3 Mt 20 q2) hi la ce) → lv_has ls 2 [(1, .int (nI k)), (0, .ref (h 0))] → W zp l ze ⟨6, 0, 0, 134⟩ zs zm za zb zt zc H locs 0 0 zQ (F0 zm 73 ls [.int (nI (rb (decide (Mt 20 2 ≠ 0) || decide (k = 6)))), .ref (h 0)]) := by
        intro   H locs ls X hl
        refine g_put (v := .int (nI (rb (decide (Mt 20 2 ≠ 0) || decide (k = 6))))) (ft := .boolean) C0 X kX7 0 4 tb801 rfl rfl rfl rfl (by generalize (decide (Mt 20 2 ≠ 0) || decide (k = 6)) = bq; cases bq <;> decide) (by generalize (decide (Mt 20 2 ≠ 0) || decide (k = 6)) = bq; cases bq <;> decide) rfl dX7_readLine_73 (fun H locs X => ?_)
        have X : Hx D zA zs H locs (mW tk h (u2 (u3 Mt 20 q2) 20 2 (rb (decide (Mt 20 2 ≠ 0) || decide (k = 6)))) hi la ce) := X
        obtain ⟨q3, hq3q⟩ : ∃ z, mL3 (Mt 20) (Mt 1) k = z := ⟨_, rfl⟩
        have X : Hx D zA zs H locs (mW tk h (u3 Mt 20 q3) hi la ce) := X.to (by rw [show q3 = u1 q2 2 (rb (decide (Mt 20 2 ≠ 0) || decide (k = 6))) from by rw [← hq3q]; rw [mL3, hq2] <;> rfl] <;> rfl)
        have hI3 : MI n q3 := by rw [← hq3q]; exact hI.l3
        have h33 : q3 3 = n := by rw [← hq3q, mL3, u1_n _ _ (by decide), mL2_o _ _ _ (by decide) (by decide)]; exact hq3
        refine lv_aload_n hx hb dX7_readLine_76 rfl (lv_at hl 1 rfl) ?_
        refine g_callV (As := []) (rest := []) (wr := []) (C0.sz hl) X (c_X7_step l D tk h (u3 Mt 20 q3) hi la ce n (by exact h33) (by exact hn) (by exact ht8) (by exact hI3.2.1) (by exact hI3.2.2.1)) ⟨tb896, tb899, tb8, ⟨by decide, by decide, rfl⟩, rfl, rfl, Nat.le_of_ble_eq_true rfl, Nat.le_of_ble_eq_true rfl⟩ tb898 tbs21 0 7 rfl rfl rfl rfl [0, 1, 2, 3, 4, 5, 6, 7, 8, 9, 10, 11, 12, 13] [] rfl rfl rfl rfl rfl (Nat.le_of_ble_eq_true rfl) ⟨Nat.le_of_ble_eq_true rfl, Nat.le_of_ble_eq_true rfl⟩ dX7_readLine_77 (fun _ H locs _ X => ?_)
        have X : Hx D zA zs H locs (mW tk h (u3 Mt 20 (mStep (Mt 2) n ((u3 Mt 20 q3) 20))) hi la ce) := X
        obtain ⟨q4, hq4⟩ : ∃ z, mL4 (Mt 2) n (Mt 20) (Mt 1) k = z := ⟨_, rfl⟩
        have X : Hx D zA zs H locs (mW tk h (u3 Mt 20 q4) hi la ce) := X.to (by rw [show q4 = mStep (Mt 2) n ((u3 Mt 20 q3) 20) from by rw [← hq4]; rw [mL4, hq3q] <;> rfl] <;> rfl)
        have hI4 : MI n q4 := by rw [← hq4]; exact hI.l4
        have hb4 : q4 5 ≤ 6 := hI4.2.2.1
        have h43 : q4 3 = n := by rw [← hq4, mL4_o _ _ _ _ _ (by decide) (by decide)]; exact hq3
        have hp4q : MP q4 (Mt 1) := by rw [← hq4]; exact hp.l4
        refine lv_aload_n hx hb dX7_readLine_80 rfl (lv_at hl 1 rfl) ?_
        refine g_get (v := .int (nI (q4 5))) C0 X kX7 0 9 tb806 rfl rfl rfl dX7_readLine_81 ?_
        refine g_ifle (x := q4 5) (tgt := 88) C0 (by omega) dX7_readLine_84 rfl (fun c3 => ?_) (fun c4 => ?_)
        · have hf4 : mFull q4 (Mt 1) k = false := by rw [← hq4]; exact full_4 (by rw [hq4]; omega)
          refine lv_aload_n hx hb dX7_readLine_88 rfl (lv_at hl 1 rfl) ?_
          refine lv_iload_n hx hb dX7_readLine_89 rfl (lv_at hl 0 rfl) ?_
          refine g_callV (As := [.int (nI k)]) (rest := []) (wr := []) (C0.sz hl) X (c_X7_readMore l D tk h (u3 Mt 20 q4) hi la ce n k (by exact h43) (by exact hn) (by exact ht8) (by exact hI4) (by exact hk6) (by exact hp4q) (by exact hf4)) ⟨tb925, tb928, tb8, ⟨by decide, by decide, rfl⟩, rfl, rfl, Nat.le_of_ble_eq_true rfl, Nat.le_of_ble_eq_true rfl⟩ tb927 tbs27 0 7 rfl rfl rfl rfl [0, 1, 2, 3, 4, 5, 6, 7, 8, 9, 10, 11, 12, 13] [] rfl rfl rfl rfl rfl (Nat.le_of_ble_eq_true rfl) ⟨Nat.le_of_ble_eq_true rfl, Nat.le_of_ble_eq_true rfl⟩ dX7_readLine_90 (fun _ H locs _ X => ?_)
          have X : Hx D zA zs H locs (mW tk h (u3 (u3 Mt 20 (mMoreQ (Mt 2) n ((u3 Mt 20 q4) 20) k)) 1 (mMoreP (Mt 2) n ((u3 Mt 20 q4) 20) (Mt 1) k)) (mMoreH (Mt 2) n ((u3 Mt 20 q4) 20) hi k) la ce) := X
          obtain ⟨q5, hq5⟩ : ∃ z, mL5 (Mt 2) n (Mt 20) (Mt 1) k = z := ⟨_, rfl⟩
          have X : Hx D zA zs H locs (mW tk h (u3 (u3 Mt 1 (mMoreP (Mt 2) n ((u3 Mt 20 q4) 20) (Mt 1) k)) 20 q5) (mMoreH (Mt 2) n ((u3 Mt 20 q4) 20) hi k) la ce) := X.to (by rw [show q5 = mMoreQ (Mt 2) n ((u3 Mt 20 q4) 20) k from by rw [← hq5]; rw [mL5, hq4] <;> rfl] <;> rfl)
          have hI5 : MI n q5 := by rw [← hq5]; exact hI.l5
          obtain ⟨hb51, hb52, hb5, hb54, hb55⟩ := id hI5
          refine lv_aload_n hx hb dX7_readLine_93 rfl (lv_at hl 1 rfl) ?_
          refine g_get (v := .int (nI (q5 5))) C0 X kX7 0 9 tb806 rfl rfl rfl dX7_readLine_94 ?_
          refine g_ifne (x := q5 5) (tgt := 113) C0 (by omega) dX7_readLine_97 rfl (fun c5 => ?_) (fun c6 => ?_)
          · obtain ⟨q6, hq6⟩ : ∃ z, mL6 (Mt 2) n (Mt 20) (Mt 1) k = z := ⟨_, rfl⟩
            have X : Hx D zA zs H locs (mW tk h (u3 (u3 Mt 1 (mMoreP (Mt 2) n ((u3 Mt 20 q4) 20) (Mt 1) k)) 20 q6) (mMoreH (Mt 2) n ((u3 Mt 20 q4) 20) hi k) la ce) := X.to (by rw [show q6 = q5 from by rw [← hq6]; rw [mL6, hq5]; exact if_neg (by omega)] <;> rfl)
            have hI6 : MI n q6 := by rw [← hq6]; exact hI.l6
            have h63 : q6 3 = n := by rw [← hq6, mL6_o _ _ _ _ _ (by decide)]; exact hq3
            refine lv_aload_n hx hb dX7_readLine_113 rfl (lv_at hl 1 rfl) ?_
            refine g_callV (As := []) (rest := []) (wr := []) (C0.sz hl) X (c_X7_step l D tk h (u3 (u3 Mt 1 (mMoreP (Mt 2) n ((u3 Mt 20 q4) 20) (Mt 1) k)) 20 q6) (mMoreH (Mt 2) n ((u3 Mt 20 q4) 20) hi k) la ce n (by exact h63) (by exact hn) (by exact ht8) (by exact hI6.2.1) (by exact hI6.2.2.1)) ⟨tb896, tb899, tb8, ⟨by decide, by decide, rfl⟩, rfl, rfl, Nat.le_of_ble_eq_true rfl, Nat.le_of_ble_eq_true rfl⟩ tb898 tbs21 0 7 rfl rfl rfl rfl [0, 1, 2, 3, 4, 5, 6, 7, 8, 9, 10, 11, 12, 13] [] rfl rfl rfl rfl rfl (Nat.le_of_ble_eq_true rfl) ⟨Nat.le_of_ble_eq_true rfl, Nat.le_of_ble_eq_true rfl⟩ dX7_readLine_114 (fun _ H locs _ X => ?_)
            have X : Hx D zA zs H locs (mW tk h (u3 (u3 Mt 1 (mMoreP (Mt 2) n ((u3 Mt 20 q4) 20) (Mt 1) k)) 20 (mStep (Mt 2) n ((u3 (u3 Mt 1 (mMoreP (Mt 2) n ((u3 Mt 20 q4) 20) (Mt 1) k)) 20 q6) 20))) (mMoreH (Mt 2) n ((u3 Mt 20 q4) 20) hi k) la ce) := X
            exact hE (v := ()) () rfl trivial (X.to (by rw [mLineQ, mLineP, mLineH, hw, if_neg hk7, if_neg hk7, if_neg hk7, hq4, hq6, if_neg (by omega), if_neg (by omega), if_neg (by omega)] <;> rfl)) dX7_readLine_117
          · refine lv_aload_n hx hb dX7_readLine_100 rfl (lv_at hl 1 rfl) ?_
            refine g_get (v := .int (nI (q5 9))) C0 X kX7 0 13 tb810 rfl rfl rfl dX7_readLine_101 ?_
            refine g_iconst (n := 3) C0 rfl dX7_readLine_104 ?_
            refine g_icmp_eq (x := q5 9) (y := 3) (tgt := 113) C0 (by omega) (by omega) dX7_readLine_105 rfl (fun c7 => ?_) (fun c8 => ?_)
            · obtain ⟨q6, hq6⟩ : ∃ z, mL6 (Mt 2) n (Mt 20) (Mt 1) k = z := ⟨_, rfl⟩
              have X : Hx D zA zs H locs (mW tk h (u3 (u3 Mt 1 (mMoreP (Mt 2) n ((u3 Mt 20 q4) 20) (Mt 1) k)) 20 q6) (mMoreH (Mt 2) n ((u3 Mt 20 q4) 20) hi k) la ce) := X.to (by rw [show q6 = q5 from by rw [← hq6]; rw [mL6, hq5]; exact if_neg (by omega)] <;> rfl)
              have hI6 : MI n q6 := by rw [← hq6]; exact hI.l6
              have h63 : q6 3 = n := by rw [← hq6, mL6_o _ _ _ _ _ (by decide)]; exact hq3
              refine lv_aload_n hx hb dX7_readLine_113 rfl (lv_at hl 1 rfl) ?_
              refine g_callV (As := []) (rest := []) (wr := []) (C0.sz hl) X (c_X7_step l D tk h (u3 (u3 Mt 1 (mMoreP (Mt 2) n ((u3 Mt 20 q4) 20) (Mt 1) k)) 20 q6) (mMoreH (Mt 2) n ((u3 Mt 20 q4) 20) hi k) la ce n (by exact h63) (by exact hn) (by exact ht8) (by exact hI6.2.1) (by exact hI6.2.2.1)) ⟨tb896, tb899, tb8, ⟨by decide, by decide, rfl⟩, rfl, rfl, Nat.le_of_ble_eq_true rfl, Nat.le_of_ble_eq_true rfl⟩ tb898 tbs21 0 7 rfl rfl rfl rfl [0, 1, 2, 3, 4, 5, 6, 7, 8, 9, 10, 11, 12, 13] [] rfl rfl rfl rfl rfl (Nat.le_of_ble_eq_true rfl) ⟨Nat.le_of_ble_eq_true rfl, Nat.le_of_ble_eq_true rfl⟩ dX7_readLine_114 (fun _ H locs _ X => ?_)
              have X : Hx D zA zs H locs (mW tk h (u3 (u3 Mt 1 (mMoreP (Mt 2) n ((u3 Mt 20 q4) 20) (Mt 1) k)) 20 (mStep (Mt 2) n ((u3 (u3 Mt 1 (mMoreP (Mt 2) n ((u3 Mt 20 q4) 20) (Mt 1) k)) 20 q6) 20))) (mMoreH (Mt 2) n ((u3 Mt 20 q4) 20) hi k) la ce) := X
              exact hE (v := ()) () rfl trivial (X.to (by rw [mLineQ, mLineP, mLineH, hw, if_neg hk7, if_neg hk7, if_neg hk7, hq4, hq6, if_neg (by omega), if_neg (by omega), if_neg (by omega)] <;> rfl)) dX7_readLine_117
            · refine lv_aload_n hx hb dX7_readLine_108 rfl (lv_at hl 1 rfl) ?_
              refine g_iconst (n := 2) C0 rfl dX7_readLine_109 ?_
              refine g_callV (As := [.int (nI 2)]) (rest := []) (wr := []) (C0.sz hl) X (c_X7_fails l D tk h (u3 (u3 Mt 1 (mMoreP (Mt 2) n ((u3 Mt 20 q4) 20) (Mt 1) k)) 20 q5) (mMoreH (Mt 2) n ((u3 Mt 20 q4) 20) hi k) la ce 2 (by exact hb5)) ⟨tb908, tb911, tb8, ⟨by decide, by decide, rfl⟩, rfl, rfl, Nat.le_of_ble_eq_true rfl, Nat.le_of_ble_eq_true rfl⟩ tb910 tbs23 0 7 rfl rfl rfl rfl [0, 1, 2, 3, 4, 5, 6, 7, 8, 9, 10, 11, 12, 13] [] rfl rfl rfl rfl rfl (Nat.le_of_ble_eq_true rfl) ⟨Nat.le_of_ble_eq_true rfl, Nat.le_of_ble_eq_true rfl⟩ dX7_readLine_110 (fun _ H locs _ X => ?_)
              have X : Hx D zA zs H locs (mW tk h (u3 (u3 Mt 1 (mMoreP (Mt 2) n ((u3 Mt 20 q4) 20) (Mt 1) k)) 20 (mFail ((u3 (u3 Mt 1 (mMoreP (Mt 2) n ((u3 Mt 20 q4) 20) (Mt 1) k)) 20 q5) 20) 2)) (mMoreH (Mt 2) n ((u3 Mt 20 q4) 20) hi k) la ce) := X
              obtain ⟨q6, hq6⟩ : ∃ z, mL6 (Mt 2) n (Mt 20) (Mt 1) k = z := ⟨_, rfl⟩
              have X : Hx D zA zs H locs (mW tk h (u3 (u3 Mt 1 (mMoreP (Mt 2) n ((u3 Mt 20 q4) 20) (Mt 1) k)) 20 q6) (mMoreH (Mt 2) n ((u3 Mt 20 q4) 20) hi k) la ce) := X.to (by rw [show q6 = mFail ((u3 (u3 Mt 1 (mMoreP (Mt 2) n ((u3 Mt 20 q4) 20) (Mt 1) k)) 20 q5) 20) 2 from by rw [← hq6]; rw [mL6, hq5]; exact if_pos ⟨by omega, by omega⟩] <;> rfl)
              have hI6 : MI n q6 := by rw [← hq6]; exact hI.l6
              have h63 : q6 3 = n := by rw [← hq6, mL6_o _ _ _ _ _ (by decide)]; exact hq3
              refine lv_aload_n hx hb dX7_readLine_113 rfl (lv_at hl 1 rfl) ?_
              refine g_callV (As := []) (rest := []) (wr := []) (C0.sz hl) X (c_X7_step l D tk h (u3 (u3 Mt 1 (mMoreP (Mt 2) n ((u3 Mt 20 q4) 20) (Mt 1) k)) 20 q6) (mMoreH (Mt 2) n ((u3 Mt 20 q4) 20) hi k) la ce n (by exact h63) (by exact hn) (by exact ht8) (by exact hI6.2.1) (by exact hI6.2.2.1)) ⟨tb896, tb899, tb8, ⟨by decide, by decide, rfl⟩, rfl, rfl, Nat.le_of_ble_eq_true rfl, Nat.le_of_ble_eq_true rfl⟩ tb898 tbs21 0 7 rfl rfl rfl rfl [0, 1, 2, 3, 4, 5, 6, 7, 8, 9, 10, 11, 12, 13] [] rfl rfl rfl rfl rfl (Nat.le_of_ble_eq_true rfl) ⟨Nat.le_of_ble_eq_true rfl, Nat.le_of_ble_eq_true rfl⟩ dX7_readLine_114 (fun _ H locs _ X => ?_)
              have X : Hx D zA zs H locs (mW tk h (u3 (u3 Mt 1 (mMoreP (Mt 2) n ((u3 Mt 20 q4) 20) (Mt 1) k)) 20 (mStep (Mt 2) n ((u3 (u3 Mt 1 (mMoreP (Mt 2) n ((u3 Mt 20 q4) 20) (Mt 1) k)) 20 q6) 20))) (mMoreH (Mt 2) n ((u3 Mt 20 q4) 20) hi k) la ce) := X
              exact hE (v := ()) () rfl trivial (X.to (by rw [mLineQ, mLineP, mLineH, hw, if_neg hk7, if_neg hk7, if_neg hk7, hq4, hq6, if_neg (by omega), if_neg (by omega), if_neg (by omega)] <;> rfl)) dX7_readLine_117
        · exact hE (v := ()) () rfl trivial (X.to (by rw [mLineQ, mLineP, mLineH, hw, if_neg hk7, if_neg hk7, if_neg hk7, hq4, if_pos (by omega), if_pos (by omega), if_pos (by omega)] <;> rfl)) dX7_readLine_87
      refine g_get (v := .int (nI (q2 2))) C0 X kX7 0 4 tb801 rfl rfl rfl dX7_readLine_56 ?_
      refine g_ifne (x := q2 2) (tgt := 68) C0 (by omega) dX7_readLine_59 rfl (fun c9 => ?_) (fun c10 => ?_)
      · refine g_iconst (n := 1) C0 rfl dX7_readLine_68 ?_
        refine lv_goto (tgt := 73) hx hb dX7_readLine_69 (by decide) ?_
        refine g_top (y := nI (rb (decide (Mt 20 2 ≠ 0) || decide (k = 6)))) (by first | rw [decide_eq_true (show Mt 20 2 ≠ 0 by omega)]; rfl | rw [decide_eq_true (show k = 6 by omega), Bool.or_true]; rfl | rw [decide_eq_false (show ¬ Mt 20 2 ≠ 0 by omega), decide_eq_false (show ¬ k = 6 by omega)]; rfl) ?_
        exact J73  H locs ls X (lv_sub hl [0, 1] rfl)
      · refine lv_iload_n hx hb dX7_readLine_62 rfl (lv_at hl 0 rfl) ?_
        refine g_bipush (n := 6) C0 (by decide) dX7_readLine_63 ?_
        refine g_icmp_ne (x := k) (y := 6) (tgt := 72) C0 (by omega) (by omega) dX7_readLine_65 rfl (fun c11 => ?_) (fun c12 => ?_)
        · refine g_iconst (n := 0) C0 rfl dX7_readLine_72 ?_
          refine g_top (y := nI (rb (decide (Mt 20 2 ≠ 0) || decide (k = 6)))) (by first | rw [decide_eq_true (show Mt 20 2 ≠ 0 by omega)]; rfl | rw [decide_eq_true (show k = 6 by omega), Bool.or_true]; rfl | rw [decide_eq_false (show ¬ Mt 20 2 ≠ 0 by omega), decide_eq_false (show ¬ k = 6 by omega)]; rfl) ?_
          exact J73  H locs ls X (lv_sub hl [0, 1] rfl)
        · refine g_iconst (n := 1) C0 rfl dX7_readLine_68 ?_
          refine lv_goto (tgt := 73) hx hb dX7_readLine_69 (by decide) ?_
          refine g_top (y := nI (rb (decide (Mt 20 2 ≠ 0) || decide (k = 6)))) (by first | rw [decide_eq_true (show Mt 20 2 ≠ 0 by omega)]; rfl | rw [decide_eq_true (show k = 6 by omega), Bool.or_true]; rfl | rw [decide_eq_false (show ¬ Mt 20 2 ≠ 0 by omega), decide_eq_false (show ¬ k = 6 by omega)]; rfl) ?_
          exact J73  H locs ls X (lv_sub hl [0, 1] rfl)
    refine g_icmp_ne (x := k) (y := 6) (tgt := 54) C0 (by omega) (by omega) dX7_readLine_39 rfl (fun c13 => ?_) (fun c14 => ?_)
    · obtain ⟨q2, hq2⟩ : ∃ z, mL2 (Mt 20) (Mt 1) k = z := ⟨_, rfl⟩
      have X : Hx D zA zs H locs (mW tk h (u3 Mt 20 q2) hi la ce) := X.to (by rw [show q2 = q1 from by rw [← hq2]; rw [mL2, hq1]; exact if_neg (by omega)] <;> rfl)
      have hI2 : MI n q2 := by rw [← hq2]; exact hI.l2
      have hb2 : q2 5 ≤ 6 := hI2.2.2.1
      have hy2 : q2 2 = Mt 20 2 := by rw [← hq2]; exact mL2_o _ _ _ (by decide) (by decide)
      exact J54 q2 (by exact hq2) (by exact hI2) (by exact hb2) (by exact hy2) H locs ls X (lv_sub hl [0, 1] rfl)
    · refine lv_aload_n hx hb dX7_readLine_42 rfl (lv_at hl 1 rfl) ?_
      refine g_get (v := .int (nI (q1 2))) C0 X kX7 0 4 tb801 rfl rfl rfl dX7_readLine_43 ?_
      refine g_ifeq (x := q1 2) (tgt := 54) C0 (by omega) dX7_readLine_46 rfl (fun c15 => ?_) (fun c16 => ?_)
      · obtain ⟨q2, hq2⟩ : ∃ z, mL2 (Mt 20) (Mt 1) k = z := ⟨_, rfl⟩
        have X : Hx D zA zs H locs (mW tk h (u3 Mt 20 q2) hi la ce) := X.to (by rw [show q2 = q1 from by rw [← hq2]; rw [mL2, hq1]; exact if_neg (by omega)] <;> rfl)
        have hI2 : MI n q2 := by rw [← hq2]; exact hI.l2
        have hb2 : q2 5 ≤ 6 := hI2.2.2.1
        have hy2 : q2 2 = Mt 20 2 := by rw [← hq2]; exact mL2_o _ _ _ (by decide) (by decide)
        exact J54 q2 (by exact hq2) (by exact hI2) (by exact hb2) (by exact hy2) H locs ls X (lv_sub hl [0, 1] rfl)
      · refine lv_aload_n hx hb dX7_readLine_49 rfl (lv_at hl 1 rfl) ?_
        refine g_iconst (n := 4) C0 rfl dX7_readLine_50 ?_
        refine g_callV (As := [.int (nI 4)]) (rest := []) (wr := []) (C0.sz hl) X (c_X7_fails l D tk h (u3 Mt 20 q1) hi la ce 4 (by exact hb1)) ⟨tb908, tb911, tb8, ⟨by decide, by decide, rfl⟩, rfl, rfl, Nat.le_of_ble_eq_true rfl, Nat.le_of_ble_eq_true rfl⟩ tb910 tbs23 0 7 rfl rfl rfl rfl [0, 1, 2, 3, 4, 5, 6, 7, 8, 9, 10, 11, 12, 13] [] rfl rfl rfl rfl rfl (Nat.le_of_ble_eq_true rfl) ⟨Nat.le_of_ble_eq_true rfl, Nat.le_of_ble_eq_true rfl⟩ dX7_readLine_51 (fun _ H locs _ X => ?_)
        have X : Hx D zA zs H locs (mW tk h (u3 Mt 20 (mFail ((u3 Mt 20 q1) 20) 4)) hi la ce) := X
        obtain ⟨q2, hq2⟩ : ∃ z, mL2 (Mt 20) (Mt 1) k = z := ⟨_, rfl⟩
        have X : Hx D zA zs H locs (mW tk h (u3 Mt 20 q2) hi la ce) := X.to (by rw [show q2 = mFail ((u3 Mt 20 q1) 20) 4 from by rw [← hq2]; rw [mL2, hq1]; exact if_pos ⟨by omega, by omega⟩] <;> rfl)
        have hI2 : MI n q2 := by rw [← hq2]; exact hI.l2
        have hb2 : q2 5 ≤ 6 := hI2.2.2.1
        have hy2 : q2 2 = Mt 20 2 := by rw [← hq2]; exact mL2_o _ _ _ (by decide) (by decide)
        exact J54 q2 (by exact hq2) (by exact hI2) (by exact hb2) (by exact hy2) H locs ls X (lv_sub hl [0, 1] rfl)
  refine g_ifeqB (x := mFull (Mt 20) (Mt 1) k) (tgt := 36) C0 dX7_readLine_28 rfl (fun c17 => ?_) (fun c18 => ?_)
  · obtain ⟨q1, hq1⟩ : ∃ z, mL1 (Mt 20) (Mt 1) k = z := ⟨_, rfl⟩
    have X : Hx D zA zs H locs (mW tk h (u3 Mt 20 q1) hi la ce) := X.to (by rw [show q1 = Mt 20 from by rw [← hq1]; exact if_neg (by rw [c17]; decide)] <;> rfl)
    have hI1 : MI n q1 := by rw [← hq1]; exact hI.l1
    have hb1 : q1 5 ≤ 6 := hI1.2.2.1
    have hz2 : q1 2 = Mt 20 2 := by rw [← hq1]; exact mL1_o _ _ _ (by decide) (by decide)
    exact J36 q1 (by exact hq1) (by exact hI1) (by exact hb1) (by exact hz2) H locs ls X (lv_sub hl [0, 1] rfl)
  · refine lv_aload_n hx hb dX7_readLine_31 rfl (lv_at hl 1 rfl) ?_
    refine g_iconst (n := 5) C0 rfl dX7_readLine_32 ?_
    refine g_callV (As := [.int (nI 5)]) (rest := []) (wr := []) (C0.sz hl) X (c_X7_fails l D tk h Mt hi la ce 5 (by exact hm3)) ⟨tb908, tb911, tb8, ⟨by decide, by decide, rfl⟩, rfl, rfl, Nat.le_of_ble_eq_true rfl, Nat.le_of_ble_eq_true rfl⟩ tb910 tbs23 0 7 rfl rfl rfl rfl [0, 1, 2, 3, 4, 5, 6, 7, 8, 9, 10, 11, 12, 13] [] rfl rfl rfl rfl rfl (Nat.le_of_ble_eq_true rfl) ⟨Nat.le_of_ble_eq_true rfl, Nat.le_of_ble_eq_true rfl⟩ dX7_readLine_33 (fun _ H locs _ X => ?_)
    have X : Hx D zA zs H locs (mW tk h (u3 Mt 20 (mFail (Mt 20) 5)) hi la ce) := X
    obtain ⟨q1, hq1⟩ : ∃ z, mL1 (Mt 20) (Mt 1) k = z := ⟨_, rfl⟩
    have X : Hx D zA zs H locs (mW tk h (u3 Mt 20 q1) hi la ce) := X.to (by rw [show q1 = mFail (Mt 20) 5 from by rw [← hq1]; exact if_pos c18] <;> rfl)
    have hI1 : MI n q1 := by rw [← hq1]; exact hI.l1
    have hb1 : q1 5 ≤ 6 := hI1.2.2.1
    have hz2 : q1 2 = Mt 20 2 := by rw [← hq1]; exact mL1_o _ _ _ (by decide) (by decide)
    exact J36 q1 (by exact hq1) (by exact hI1) (by exact hb1) (by exact hz2) H locs ls X (lv_sub hl [0, 1] rfl)
