set_option maxHeartbeats 4000000 in
set_option maxRecDepth 100000 in
theorem c_X7_number (l : Launch) (D : va_G) (tk : Nat → ClassId) (h : Nat → Nat) (Mt : Nat → Nat → Nat) (hi : Int32) (la ce : Nat → Int32) (n : Nat) (lo hi9 : Nat) (hq3 : Mt 20 3 = n) (hn : n ≤ 160) (ht8 : ∀ j, j < n → Mt 2 j < 128) (hI : MI n (Mt 20)) (hlo : lo < 128) (hhi : hi9 < 128) : MX l yX7_number cX7_number 4 (some .int) ⟨2, 0, 0, 46⟩ D (TYS tk) [.ref (h 0), .int (nI lo), .int (nI hi9)] (mW tk h Mt hi la ce) (fun (_ : Unit) => True) (fun _ => some (.int (nI (mVal (Mt 20) lo hi9)))) (fun _ => mW tk h (u3 Mt 20 (mNum (Mt 2) n (Mt 20) lo hi9)) hi la ce) 0 0 := by
  refine MX.of_i (by decide) rfl ?_
  intro zp ze zs zm za zb zt zc zA zQ ls C0 hnm X hl hE
  have hx := C0.1
  have hb := C0.2.1
  have ht := C0.2.2.2.2.1
  have X : Hx D zA zs zs.heap [] (mW tk h Mt hi la ce) := X
  have hl : lv_has ls 4 [(0, .ref (h 0)), (1, .int (nI lo)), (2, .int (nI hi9))] := hl
  obtain ⟨hm1, hm2, hm3, hm4, hm5⟩ := id hI
  obtain ⟨H, hH⟩ : ∃ H, H = zs.heap := ⟨_, rfl⟩
  rw [← hH] at X ⊢
  obtain ⟨locs, hlo⟩ : ∃ L : List Loc, L = [] := ⟨_, rfl⟩
  rw [← hlo] at X ⊢
  refine lv_aload_n hx hb dX7_number_0 rfl (lv_at hl 0 rfl) ?_
  refine g_get (v := .int (nI (Mt 20 5))) C0 X kX7 0 9 tb806 rfl rfl rfl dX7_number_1 ?_
  refine g_ifne (x := Mt 20 5) (tgt := 20) C0 (by omega) dX7_number_4 rfl (fun c1 => ?_) (fun c2 => ?_)
  · obtain ⟨q1, hq1⟩ : ∃ z, mChk1 (Mt 20) = z := ⟨_, rfl⟩
    have X : Hx D zA zs H locs (mW tk h (u3 Mt 20 q1) hi la ce) := X.to (by rw [show q1 = Mt 20 from by rw [← hq1]; exact if_neg (by omega)] <;> rfl)
    have hI1 : MI n q1 := by rw [← hq1]; exact hI.chk1
    have hb1 : q1 5 ≤ 6 := hI1.2.2.1
    have hv10 : q1 10 = Mt 20 10 := by rw [← hq1]; exact mChk1_o _ (by decide) (by decide)
    refine lv_aload_n hx hb dX7_number_20 rfl (lv_at hl 0 rfl) ?_
    refine g_get (v := .int (nI (q1 5))) C0 X kX7 0 9 tb806 rfl rfl rfl dX7_number_21 ?_
    refine g_ifne (x := q1 5) (tgt := 47) C0 (by omega) dX7_number_24 rfl (fun c3 => ?_) (fun c4 => ?_)
    · obtain ⟨q2, hq2⟩ : ∃ z, mChk (Mt 20) lo hi9 = z := ⟨_, rfl⟩
      have X : Hx D zA zs H locs (mW tk h (u3 Mt 20 q2) hi la ce) := X.to (by rw [show q2 = q1 from by rw [← hq2]; rw [mChk, hq1]; exact if_neg (fun q => by first | omega | (have hz := c3; rw [Bool.and_eq_true, decide_eq_true_eq, decide_eq_true_eq] at hz; exact q.2 hz))] <;> rfl)
      have hI2 : MI n q2 := by rw [← hq2]; exact hI.chk
      have hb2 : q2 5 ≤ 6 := hI2.2.2.1
      have hw10 : q2 10 = Mt 20 10 := by rw [← hq2]; exact mChk_o _ _ _ (by decide) (by decide)
      have hw3 : q2 3 = n := by rw [← hq2, mChk_o _ _ _ (by decide) (by decide)]; exact hq3
      refine lv_aload_n hx hb dX7_number_47 rfl (lv_at hl 0 rfl) ?_
      refine g_get (v := .int (nI (q2 5))) C0 X kX7 0 9 tb806 rfl rfl rfl dX7_number_48 ?_
      refine g_ifne (x := q2 5) (tgt := 61) C0 (by omega) dX7_number_51 rfl (fun c5 => ?_) (fun c6 => ?_)
      · refine lv_iload_n hx hb dX7_number_61 rfl (lv_at hl 1 rfl) ?_
        refine lv_istore_n (lv' := [(3, .int (nI lo)), (0, .ref (h 0)), (1, .int (nI lo)), (2, .int (nI hi9))]) hx hb dX7_number_62 rfl hl (by decide) rfl (fun ls hl => ?_)
        refine lv_aload_n hx hb dX7_number_63 rfl (lv_at hl 1 rfl) ?_
        refine g_callV (As := []) (rest := []) (wr := []) (C0.sz hl) X (c_X7_step l D tk h (u3 Mt 20 q2) hi la ce n (by exact hw3) (by exact hn) (by exact ht8) (by exact hI2.2.1) (by exact hI2.2.2.1)) ⟨tb896, tb899, tb8, ⟨by decide, by decide, rfl⟩, rfl, rfl, Nat.le_of_ble_eq_true rfl, Nat.le_of_ble_eq_true rfl⟩ tb898 tbs21 0 7 rfl rfl rfl rfl [0, 1, 2, 3, 4, 5, 6, 7, 8, 9, 10, 11, 12, 13] [] rfl rfl rfl rfl rfl (Nat.le_of_ble_eq_true rfl) ⟨Nat.le_of_ble_eq_true rfl, Nat.le_of_ble_eq_true rfl⟩ dX7_number_64 (fun _ H locs _ X => ?_)
        have X : Hx D zA zs H locs (mW tk h (u3 Mt 20 (mStep (Mt 2) n ((u3 Mt 20 q2) 20))) hi la ce) := X
        refine lv_iload_n hx hb dX7_number_67 rfl (lv_at hl 0 rfl) ?_
        exact hE (v := nI lo) () (by rw [mVal, hq2, if_neg (by omega)]) trivial (X.to (by rw [mNum, hq2] <;> rfl)) dX7_number_68
      · refine lv_aload_n hx hb dX7_number_54 rfl (lv_at hl 0 rfl) ?_
        refine g_get (v := .int (nI (q2 10))) C0 X kX7 0 14 tb811 rfl rfl rfl dX7_number_55 ?_
        refine lv_goto (tgt := 62) hx hb dX7_number_58 (by decide) ?_
        refine lv_istore_n (lv' := [(3, .int (nI (q2 10))), (0, .ref (h 0)), (1, .int (nI lo)), (2, .int (nI hi9))]) hx hb dX7_number_62 rfl hl (by decide) rfl (fun ls hl => ?_)
        refine lv_aload_n hx hb dX7_number_63 rfl (lv_at hl 1 rfl) ?_
        refine g_callV (As := []) (rest := []) (wr := []) (C0.sz hl) X (c_X7_step l D tk h (u3 Mt 20 q2) hi la ce n (by exact hw3) (by exact hn) (by exact ht8) (by exact hI2.2.1) (by exact hI2.2.2.1)) ⟨tb896, tb899, tb8, ⟨by decide, by decide, rfl⟩, rfl, rfl, Nat.le_of_ble_eq_true rfl, Nat.le_of_ble_eq_true rfl⟩ tb898 tbs21 0 7 rfl rfl rfl rfl [0, 1, 2, 3, 4, 5, 6, 7, 8, 9, 10, 11, 12, 13] [] rfl rfl rfl rfl rfl (Nat.le_of_ble_eq_true rfl) ⟨Nat.le_of_ble_eq_true rfl, Nat.le_of_ble_eq_true rfl⟩ dX7_number_64 (fun _ H locs _ X => ?_)
        have X : Hx D zA zs H locs (mW tk h (u3 Mt 20 (mStep (Mt 2) n ((u3 Mt 20 q2) 20))) hi la ce) := X
        refine lv_iload_n hx hb dX7_number_67 rfl (lv_at hl 0 rfl) ?_
        exact hE (v := nI (q2 10)) () (by rw [mVal, hq2, if_pos (by omega), hw10]) trivial (X.to (by rw [mNum, hq2] <;> rfl)) dX7_number_68
    · refine lv_aload_n hx hb dX7_number_27 rfl (lv_at hl 0 rfl) ?_
      refine g_get (v := .int (nI (q1 10))) C0 X kX7 0 14 tb811 rfl rfl rfl dX7_number_28 ?_
      refine g_i2l C0 (by omega) dX7_number_31 ?_
      refine lv_iload_n hx hb dX7_number_32 rfl (lv_at hl 1 rfl) ?_
      refine g_i2l C0 (by omega) dX7_number_33 ?_
      refine lv_iload_n hx hb dX7_number_34 rfl (lv_at hl 2 rfl) ?_
      refine g_i2l C0 (by omega) dX7_number_35 ?_
      refine g_callS (As := [.long (lN (q1 10)), .long (lN lo), .long (lN hi9)]) (rest := []) (wr := (mW tk h (u3 Mt 20 q1) hi la ce)) (C0.sz hl) X (c_X7_in l D tk (lN (q1 10)) (lN lo) (lN hi9)) ⟨tb885, tb887, tb8, ⟨by decide, by decide, rfl⟩, rfl, rfl, Nat.le_of_ble_eq_true rfl, Nat.le_of_ble_eq_true rfl⟩ tb886 rfl [] [0, 1, 2, 3, 4, 5, 6, 7, 8, 9, 10, 11, 12, 13] rfl rfl rfl rfl rfl (Nat.le_of_ble_eq_true rfl) ⟨Nat.le_of_ble_eq_true rfl, Nat.le_of_ble_eq_true rfl⟩ dX7_number_36 (fun _ H locs _ X => ?_)
      have X : Hx D zA zs H locs (mW tk h (u3 Mt 20 q1) hi la ce) := X
      refine g_top (y := nI (rb (decide (lo ≤ Mt 20 10) && decide (Mt 20 10 ≤ hi9)))) (by rw [hv10, inL_nn (by omega) (by omega) (by omega)]) ?_
      refine g_ifneB (x := (decide (lo ≤ Mt 20 10) && decide (Mt 20 10 ≤ hi9))) (tgt := 47) C0 dX7_number_39 rfl (fun c7 => ?_) (fun c8 => ?_)
      · obtain ⟨q2, hq2⟩ : ∃ z, mChk (Mt 20) lo hi9 = z := ⟨_, rfl⟩
        have X : Hx D zA zs H locs (mW tk h (u3 Mt 20 q2) hi la ce) := X.to (by rw [show q2 = q1 from by rw [← hq2]; rw [mChk, hq1]; exact if_neg (fun q => by first | omega | (have hz := c7; rw [Bool.and_eq_true, decide_eq_true_eq, decide_eq_true_eq] at hz; exact q.2 hz))] <;> rfl)
        have hI2 : MI n q2 := by rw [← hq2]; exact hI.chk
        have hb2 : q2 5 ≤ 6 := hI2.2.2.1
        have hw10 : q2 10 = Mt 20 10 := by rw [← hq2]; exact mChk_o _ _ _ (by decide) (by decide)
        have hw3 : q2 3 = n := by rw [← hq2, mChk_o _ _ _ (by decide) (by decide)]; exact hq3
        refine lv_aload_n hx hb dX7_number_47 rfl (lv_at hl 0 rfl) ?_
        refine g_get (v := .int (nI (q2 5))) C0 X kX7 0 9 tb806 rfl rfl rfl dX7_number_48 ?_
        refine g_ifne (x := q2 5) (tgt := 61) C0 (by omega) dX7_number_51 rfl (fun c9 => ?_) (fun c10 => ?_)
        · refine lv_iload_n hx hb dX7_number_61 rfl (lv_at hl 1 rfl) ?_
          refine lv_istore_n (lv' := [(3, .int (nI lo)), (0, .ref (h 0)), (1, .int (nI lo)), (2, .int (nI hi9))]) hx hb dX7_number_62 rfl hl (by decide) rfl (fun ls hl => ?_)
          refine lv_aload_n hx hb dX7_number_63 rfl (lv_at hl 1 rfl) ?_
          refine g_callV (As := []) (rest := []) (wr := []) (C0.sz hl) X (c_X7_step l D tk h (u3 Mt 20 q2) hi la ce n (by exact hw3) (by exact hn) (by exact ht8) (by exact hI2.2.1) (by exact hI2.2.2.1)) ⟨tb896, tb899, tb8, ⟨by decide, by decide, rfl⟩, rfl, rfl, Nat.le_of_ble_eq_true rfl, Nat.le_of_ble_eq_true rfl⟩ tb898 tbs21 0 7 rfl rfl rfl rfl [0, 1, 2, 3, 4, 5, 6, 7, 8, 9, 10, 11, 12, 13] [] rfl rfl rfl rfl rfl (Nat.le_of_ble_eq_true rfl) ⟨Nat.le_of_ble_eq_true rfl, Nat.le_of_ble_eq_true rfl⟩ dX7_number_64 (fun _ H locs _ X => ?_)
          have X : Hx D zA zs H locs (mW tk h (u3 Mt 20 (mStep (Mt 2) n ((u3 Mt 20 q2) 20))) hi la ce) := X
          refine lv_iload_n hx hb dX7_number_67 rfl (lv_at hl 0 rfl) ?_
          exact hE (v := nI lo) () (by rw [mVal, hq2, if_neg (by omega)]) trivial (X.to (by rw [mNum, hq2] <;> rfl)) dX7_number_68
        · refine lv_aload_n hx hb dX7_number_54 rfl (lv_at hl 0 rfl) ?_
          refine g_get (v := .int (nI (q2 10))) C0 X kX7 0 14 tb811 rfl rfl rfl dX7_number_55 ?_
          refine lv_goto (tgt := 62) hx hb dX7_number_58 (by decide) ?_
          refine lv_istore_n (lv' := [(3, .int (nI (q2 10))), (0, .ref (h 0)), (1, .int (nI lo)), (2, .int (nI hi9))]) hx hb dX7_number_62 rfl hl (by decide) rfl (fun ls hl => ?_)
          refine lv_aload_n hx hb dX7_number_63 rfl (lv_at hl 1 rfl) ?_
          refine g_callV (As := []) (rest := []) (wr := []) (C0.sz hl) X (c_X7_step l D tk h (u3 Mt 20 q2) hi la ce n (by exact hw3) (by exact hn) (by exact ht8) (by exact hI2.2.1) (by exact hI2.2.2.1)) ⟨tb896, tb899, tb8, ⟨by decide, by decide, rfl⟩, rfl, rfl, Nat.le_of_ble_eq_true rfl, Nat.le_of_ble_eq_true rfl⟩ tb898 tbs21 0 7 rfl rfl rfl rfl [0, 1, 2, 3, 4, 5, 6, 7, 8, 9, 10, 11, 12, 13] [] rfl rfl rfl rfl rfl (Nat.le_of_ble_eq_true rfl) ⟨Nat.le_of_ble_eq_true rfl, Nat.le_of_ble_eq_true rfl⟩ dX7_number_64 (fun _ H locs _ X => ?_)
          have X : Hx D zA zs H locs (mW tk h (u3 Mt 20 (mStep (Mt 2) n ((u3 Mt 20 q2) 20))) hi la ce) := X
          refine lv_iload_n hx hb dX7_number_67 rfl (lv_at hl 0 rfl) ?_
          exact hE (v := nI (q2 10)) () (by rw [mVal, hq2, if_pos (by omega), hw10]) trivial (X.to (by rw [mNum, hq2] <;> rfl)) dX7_number_68
      · refine lv_aload_n hx hb dX7_number_42 rfl (lv_at hl 0 rfl) ?_
        refine g_iconst (n := 3) C0 rfl dX7_number_43 ?_
        refine g_callV (As := [.int (nI 3)]) (rest := []) (wr := []) (C0.sz hl) X (c_X7_fails l D tk h (u3 Mt 20 q1) hi la ce 3 (by exact hb1)) ⟨tb908, tb911, tb8, ⟨by decide, by decide, rfl⟩, rfl, rfl, Nat.le_of_ble_eq_true rfl, Nat.le_of_ble_eq_true rfl⟩ tb910 tbs23 0 7 rfl rfl rfl rfl [0, 1, 2, 3, 4, 5, 6, 7, 8, 9, 10, 11, 12, 13] [] rfl rfl rfl rfl rfl (Nat.le_of_ble_eq_true rfl) ⟨Nat.le_of_ble_eq_true rfl, Nat.le_of_ble_eq_true rfl⟩ dX7_number_44 (fun _ H locs _ X => ?_)
        have X : Hx D zA zs H locs (mW tk h (u3 Mt 20 (mFail ((u3 Mt 20 q1) 20) 3)) hi la ce) := X
        obtain ⟨q2, hq2⟩ : ∃ z, mChk (Mt 20) lo hi9 = z := ⟨_, rfl⟩
        have X : Hx D zA zs H locs (mW tk h (u3 Mt 20 q2) hi la ce) := X.to (by rw [show q2 = mFail ((u3 Mt 20 q1) 20) 3 from by rw [← hq2]; rw [mChk, hq1]; exact if_pos ⟨by omega, fun q => by have hz := c8; rw [decide_eq_true q.1, decide_eq_true q.2] at hz; exact absurd hz (by decide)⟩] <;> rfl)
        have hI2 : MI n q2 := by rw [← hq2]; exact hI.chk
        have hb2 : q2 5 ≤ 6 := hI2.2.2.1
        have hw10 : q2 10 = Mt 20 10 := by rw [← hq2]; exact mChk_o _ _ _ (by decide) (by decide)
        have hw3 : q2 3 = n := by rw [← hq2, mChk_o _ _ _ (by decide) (by decide)]; exact hq3
        refine lv_aload_n hx hb dX7_number_47 rfl (lv_at hl 0 rfl) ?_
        refine g_get (v := .int (nI (q2 5))) C0 X kX7 0 9 tb806 rfl rfl rfl dX7_number_48 ?_
        refine g_ifne (x := q2 5) (tgt := 61) C0 (by omega) dX7_number_51 rfl (fun c11 => ?_) (fun c12 => ?_)
        · refine lv_iload_n hx hb dX7_number_61 rfl (lv_at hl 1 rfl) ?_
          refine lv_istore_n (lv' := [(3, .int (nI lo)), (0, .ref (h 0)), (1, .int (nI lo)), (2, .int (nI hi9))]) hx hb dX7_number_62 rfl hl (by decide) rfl (fun ls hl => ?_)
          refine lv_aload_n hx hb dX7_number_63 rfl (lv_at hl 1 rfl) ?_
          refine g_callV (As := []) (rest := []) (wr := []) (C0.sz hl) X (c_X7_step l D tk h (u3 Mt 20 q2) hi la ce n (by exact hw3) (by exact hn) (by exact ht8) (by exact hI2.2.1) (by exact hI2.2.2.1)) ⟨tb896, tb899, tb8, ⟨by decide, by decide, rfl⟩, rfl, rfl, Nat.le_of_ble_eq_true rfl, Nat.le_of_ble_eq_true rfl⟩ tb898 tbs21 0 7 rfl rfl rfl rfl [0, 1, 2, 3, 4, 5, 6, 7, 8, 9, 10, 11, 12, 13] [] rfl rfl rfl rfl rfl (Nat.le_of_ble_eq_true rfl) ⟨Nat.le_of_ble_eq_true rfl, Nat.le_of_ble_eq_true rfl⟩ dX7_number_64 (fun _ H locs _ X => ?_)
          have X : Hx D zA zs H locs (mW tk h (u3 Mt 20 (mStep (Mt 2) n ((u3 Mt 20 q2) 20))) hi la ce) := X
          refine lv_iload_n hx hb dX7_number_67 rfl (lv_at hl 0 rfl) ?_
          exact hE (v := nI lo) () (by rw [mVal, hq2, if_neg (by omega)]) trivial (X.to (by rw [mNum, hq2] <;> rfl)) dX7_number_68
        · refine lv_aload_n hx hb dX7_number_54 rfl (lv_at hl 0 rfl) ?_
          refine g_get (v := .int (nI (q2 10))) C0 X kX7 0 14 tb811 rfl rfl rfl dX7_number_55 ?_
          refine lv_goto (tgt := 62) hx hb dX7_number_58 (by decide) ?_
          refine lv_istore_n (lv' := [(3, .int (nI (q2 10))), (0, .ref (h 0)), (1, .int (nI lo)), (2, .int (nI hi9))]) hx hb dX7_number_62 rfl hl (by decide) rfl (fun ls hl => ?_)
          refine lv_aload_n hx hb dX7_number_63 rfl (lv_at hl 1 rfl) ?_
          refine g_callV (As := []) (rest := []) (wr := []) (C0.sz hl) X (c_X7_step l D tk h (u3 Mt 20 q2) hi la ce n (by exact hw3) (by exact hn) (by exact ht8) (by exact hI2.2.1) (by exact hI2.2.2.1)) ⟨tb896, tb899, tb8, ⟨by decide, by decide, rfl⟩, rfl, rfl, Nat.le_of_ble_eq_true rfl, Nat.le_of_ble_eq_true rfl⟩ tb898 tbs21 0 7 rfl rfl rfl rfl [0, 1, 2, 3, 4, 5, 6, 7, 8, 9, 10, 11, 12, 13] [] rfl rfl rfl rfl rfl (Nat.le_of_ble_eq_true rfl) ⟨Nat.le_of_ble_eq_true rfl, Nat.le_of_ble_eq_true rfl⟩ dX7_number_64 (fun _ H locs _ X => ?_)
          have X : Hx D zA zs H locs (mW tk h (u3 Mt 20 (mStep (Mt 2) n ((u3 Mt 20 q2) 20))) hi la ce) := X
          refine lv_iload_n hx hb dX7_number_67 rfl (lv_at hl 0 rfl) ?_
          exact hE (v := nI (q2 10)) () (by rw [mVal, hq2, if_pos (by omega), hw10]) trivial (X.to (by rw [mNum, hq2] <;> rfl)) dX7_number_68
  · refine lv_aload_n hx hb dX7_number_7 rfl (lv_at hl 0 rfl) ?_
    refine g_get (v := .int (nI (Mt 20 9))) C0 X kX7 0 13 tb810 rfl rfl rfl dX7_number_8 ?_
    refine g_iconst (n := 2) C0 rfl dX7_number_11 ?_
    refine g_icmp_eq (x := Mt 20 9) (y := 2) (tgt := 20) C0 (by omega) (by omega) dX7_number_12 rfl (fun c13 => ?_) (fun c14 => ?_)
    · obtain ⟨q1, hq1⟩ : ∃ z, mChk1 (Mt 20) = z := ⟨_, rfl⟩
      have X : Hx D zA zs H locs (mW tk h (u3 Mt 20 q1) hi la ce) := X.to (by rw [show q1 = Mt 20 from by rw [← hq1]; exact if_neg (by omega)] <;> rfl)
      have hI1 : MI n q1 := by rw [← hq1]; exact hI.chk1
      have hb1 : q1 5 ≤ 6 := hI1.2.2.1
      have hv10 : q1 10 = Mt 20 10 := by rw [← hq1]; exact mChk1_o _ (by decide) (by decide)
      refine lv_aload_n hx hb dX7_number_20 rfl (lv_at hl 0 rfl) ?_
      refine g_get (v := .int (nI (q1 5))) C0 X kX7 0 9 tb806 rfl rfl rfl dX7_number_21 ?_
      refine g_ifne (x := q1 5) (tgt := 47) C0 (by omega) dX7_number_24 rfl (fun c15 => ?_) (fun c16 => ?_)
      · obtain ⟨q2, hq2⟩ : ∃ z, mChk (Mt 20) lo hi9 = z := ⟨_, rfl⟩
        have X : Hx D zA zs H locs (mW tk h (u3 Mt 20 q2) hi la ce) := X.to (by rw [show q2 = q1 from by rw [← hq2]; rw [mChk, hq1]; exact if_neg (fun q => by first | omega | (have hz := c15; rw [Bool.and_eq_true, decide_eq_true_eq, decide_eq_true_eq] at hz; exact q.2 hz))] <;> rfl)
        have hI2 : MI n q2 := by rw [← hq2]; exact hI.chk
        have hb2 : q2 5 ≤ 6 := hI2.2.2.1
        have hw10 : q2 10 = Mt 20 10 := by rw [← hq2]; exact mChk_o _ _ _ (by decide) (by decide)
        have hw3 : q2 3 = n := by rw [← hq2, mChk_o _ _ _ (by decide) (by decide)]; exact hq3
        refine lv_aload_n hx hb dX7_number_47 rfl (lv_at hl 0 rfl) ?_
        refine g_get (v := .int (nI (q2 5))) C0 X kX7 0 9 tb806 rfl rfl rfl dX7_number_48 ?_
        refine g_ifne (x := q2 5) (tgt := 61) C0 (by omega) dX7_number_51 rfl (fun c17 => ?_) (fun c18 => ?_)
        · refine lv_iload_n hx hb dX7_number_61 rfl (lv_at hl 1 rfl) ?_
          refine lv_istore_n (lv' := [(3, .int (nI lo)), (0, .ref (h 0)), (1, .int (nI lo)), (2, .int (nI hi9))]) hx hb dX7_number_62 rfl hl (by decide) rfl (fun ls hl => ?_)
          refine lv_aload_n hx hb dX7_number_63 rfl (lv_at hl 1 rfl) ?_
          refine g_callV (As := []) (rest := []) (wr := []) (C0.sz hl) X (c_X7_step l D tk h (u3 Mt 20 q2) hi la ce n (by exact hw3) (by exact hn) (by exact ht8) (by exact hI2.2.1) (by exact hI2.2.2.1)) ⟨tb896, tb899, tb8, ⟨by decide, by decide, rfl⟩, rfl, rfl, Nat.le_of_ble_eq_true rfl, Nat.le_of_ble_eq_true rfl⟩ tb898 tbs21 0 7 rfl rfl rfl rfl [0, 1, 2, 3, 4, 5, 6, 7, 8, 9, 10, 11, 12, 13] [] rfl rfl rfl rfl rfl (Nat.le_of_ble_eq_true rfl) ⟨Nat.le_of_ble_eq_true rfl, Nat.le_of_ble_eq_true rfl⟩ dX7_number_64 (fun _ H locs _ X => ?_)
          have X : Hx D zA zs H locs (mW tk h (u3 Mt 20 (mStep (Mt 2) n ((u3 Mt 20 q2) 20))) hi la ce) := X
          refine lv_iload_n hx hb dX7_number_67 rfl (lv_at hl 0 rfl) ?_
          exact hE (v := nI lo) () (by rw [mVal, hq2, if_neg (by omega)]) trivial (X.to (by rw [mNum, hq2] <;> rfl)) dX7_number_68
        · refine lv_aload_n hx hb dX7_number_54 rfl (lv_at hl 0 rfl) ?_
          refine g_get (v := .int (nI (q2 10))) C0 X kX7 0 14 tb811 rfl rfl rfl dX7_number_55 ?_
          refine lv_goto (tgt := 62) hx hb dX7_number_58 (by decide) ?_
          refine lv_istore_n (lv' := [(3, .int (nI (q2 10))), (0, .ref (h 0)), (1, .int (nI lo)), (2, .int (nI hi9))]) hx hb dX7_number_62 rfl hl (by decide) rfl (fun ls hl => ?_)
          refine lv_aload_n hx hb dX7_number_63 rfl (lv_at hl 1 rfl) ?_
          refine g_callV (As := []) (rest := []) (wr := []) (C0.sz hl) X (c_X7_step l D tk h (u3 Mt 20 q2) hi la ce n (by exact hw3) (by exact hn) (by exact ht8) (by exact hI2.2.1) (by exact hI2.2.2.1)) ⟨tb896, tb899, tb8, ⟨by decide, by decide, rfl⟩, rfl, rfl, Nat.le_of_ble_eq_true rfl, Nat.le_of_ble_eq_true rfl⟩ tb898 tbs21 0 7 rfl rfl rfl rfl [0, 1, 2, 3, 4, 5, 6, 7, 8, 9, 10, 11, 12, 13] [] rfl rfl rfl rfl rfl (Nat.le_of_ble_eq_true rfl) ⟨Nat.le_of_ble_eq_true rfl, Nat.le_of_ble_eq_true rfl⟩ dX7_number_64 (fun _ H locs _ X => ?_)
          have X : Hx D zA zs H locs (mW tk h (u3 Mt 20 (mStep (Mt 2) n ((u3 Mt 20 q2) 20))) hi la ce) := X
          refine lv_iload_n hx hb dX7_number_67 rfl (lv_at hl 0 rfl) ?_
          exact hE (v := nI (q2 10)) () (by rw [mVal, hq2, if_pos (by omega), hw10]) trivial (X.to (by rw [mNum, hq2] <;> rfl)) dX7_number_68
      · refine lv_aload_n hx hb dX7_number_27 rfl (lv_at hl 0 rfl) ?_
        refine g_get (v := .int (nI (q1 10))) C0 X kX7 0 14 tb811 rfl rfl rfl dX7_number_28 ?_
        refine g_i2l C0 (by omega) dX7_number_31 ?_
        refine lv_iload_n hx hb dX7_number_32 rfl (lv_at hl 1 rfl) ?_
        refine g_i2l C0 (by omega) dX7_number_33 ?_
        refine lv_iload_n hx hb dX7_number_34 rfl (lv_at hl 2 rfl) ?_
        refine g_i2l C0 (by omega) dX7_number_35 ?_
        refine g_callS (As := [.long (lN (q1 10)), .long (lN lo), .long (lN hi9)]) (rest := []) (wr := (mW tk h (u3 Mt 20 q1) hi la ce)) (C0.sz hl) X (c_X7_in l D tk (lN (q1 10)) (lN lo) (lN hi9)) ⟨tb885, tb887, tb8, ⟨by decide, by decide, rfl⟩, rfl, rfl, Nat.le_of_ble_eq_true rfl, Nat.le_of_ble_eq_true rfl⟩ tb886 rfl [] [0, 1, 2, 3, 4, 5, 6, 7, 8, 9, 10, 11, 12, 13] rfl rfl rfl rfl rfl (Nat.le_of_ble_eq_true rfl) ⟨Nat.le_of_ble_eq_true rfl, Nat.le_of_ble_eq_true rfl⟩ dX7_number_36 (fun _ H locs _ X => ?_)
        have X : Hx D zA zs H locs (mW tk h (u3 Mt 20 q1) hi la ce) := X
        refine g_top (y := nI (rb (decide (lo ≤ Mt 20 10) && decide (Mt 20 10 ≤ hi9)))) (by rw [hv10, inL_nn (by omega) (by omega) (by omega)]) ?_
        refine g_ifneB (x := (decide (lo ≤ Mt 20 10) && decide (Mt 20 10 ≤ hi9))) (tgt := 47) C0 dX7_number_39 rfl (fun c19 => ?_) (fun c20 => ?_)
        · obtain ⟨q2, hq2⟩ : ∃ z, mChk (Mt 20) lo hi9 = z := ⟨_, rfl⟩
          have X : Hx D zA zs H locs (mW tk h (u3 Mt 20 q2) hi la ce) := X.to (by rw [show q2 = q1 from by rw [← hq2]; rw [mChk, hq1]; exact if_neg (fun q => by first | omega | (have hz := c19; rw [Bool.and_eq_true, decide_eq_true_eq, decide_eq_true_eq] at hz; exact q.2 hz))] <;> rfl)
          have hI2 : MI n q2 := by rw [← hq2]; exact hI.chk
          have hb2 : q2 5 ≤ 6 := hI2.2.2.1
          have hw10 : q2 10 = Mt 20 10 := by rw [← hq2]; exact mChk_o _ _ _ (by decide) (by decide)
          have hw3 : q2 3 = n := by rw [← hq2, mChk_o _ _ _ (by decide) (by decide)]; exact hq3
          refine lv_aload_n hx hb dX7_number_47 rfl (lv_at hl 0 rfl) ?_
          refine g_get (v := .int (nI (q2 5))) C0 X kX7 0 9 tb806 rfl rfl rfl dX7_number_48 ?_
          refine g_ifne (x := q2 5) (tgt := 61) C0 (by omega) dX7_number_51 rfl (fun c21 => ?_) (fun c22 => ?_)
          · refine lv_iload_n hx hb dX7_number_61 rfl (lv_at hl 1 rfl) ?_
            refine lv_istore_n (lv' := [(3, .int (nI lo)), (0, .ref (h 0)), (1, .int (nI lo)), (2, .int (nI hi9))]) hx hb dX7_number_62 rfl hl (by decide) rfl (fun ls hl => ?_)
            refine lv_aload_n hx hb dX7_number_63 rfl (lv_at hl 1 rfl) ?_
            refine g_callV (As := []) (rest := []) (wr := []) (C0.sz hl) X (c_X7_step l D tk h (u3 Mt 20 q2) hi la ce n (by exact hw3) (by exact hn) (by exact ht8) (by exact hI2.2.1) (by exact hI2.2.2.1)) ⟨tb896, tb899, tb8, ⟨by decide, by decide, rfl⟩, rfl, rfl, Nat.le_of_ble_eq_true rfl, Nat.le_of_ble_eq_true rfl⟩ tb898 tbs21 0 7 rfl rfl rfl rfl [0, 1, 2, 3, 4, 5, 6, 7, 8, 9, 10, 11, 12, 13] [] rfl rfl rfl rfl rfl (Nat.le_of_ble_eq_true rfl) ⟨Nat.le_of_ble_eq_true rfl, Nat.le_of_ble_eq_true rfl⟩ dX7_number_64 (fun _ H locs _ X => ?_)
            have X : Hx D zA zs H locs (mW tk h (u3 Mt 20 (mStep (Mt 2) n ((u3 Mt 20 q2) 20))) hi la ce) := X
            refine lv_iload_n hx hb dX7_number_67 rfl (lv_at hl 0 rfl) ?_
            exact hE (v := nI lo) () (by rw [mVal, hq2, if_neg (by omega)]) trivial (X.to (by rw [mNum, hq2] <;> rfl)) dX7_number_68
          · refine lv_aload_n hx hb dX7_number_54 rfl (lv_at hl 0 rfl) ?_
            refine g_get (v := .int (nI (q2 10))) C0 X kX7 0 14 tb811 rfl rfl rfl dX7_number_55 ?_
            refine lv_goto (tgt := 62) hx hb dX7_number_58 (by decide) ?_
            refine lv_istore_n (lv' := [(3, .int (nI (q2 10))), (0, .ref (h 0)), (1, .int (nI lo)), (2, .int (nI hi9))]) hx hb dX7_number_62 rfl hl (by decide) rfl (fun ls hl => ?_)
            refine lv_aload_n hx hb dX7_number_63 rfl (lv_at hl 1 rfl) ?_
            refine g_callV (As := []) (rest := []) (wr := []) (C0.sz hl) X (c_X7_step l D tk h (u3 Mt 20 q2) hi la ce n (by exact hw3) (by exact hn) (by exact ht8) (by exact hI2.2.1) (by exact hI2.2.2.1)) ⟨tb896, tb899, tb8, ⟨by decide, by decide, rfl⟩, rfl, rfl, Nat.le_of_ble_eq_true rfl, Nat.le_of_ble_eq_true rfl⟩ tb898 tbs21 0 7 rfl rfl rfl rfl [0, 1, 2, 3, 4, 5, 6, 7, 8, 9, 10, 11, 12, 13] [] rfl rfl rfl rfl rfl (Nat.le_of_ble_eq_true rfl) ⟨Nat.le_of_ble_eq_true rfl, Nat.le_of_ble_eq_true rfl⟩ dX7_number_64 (fun _ H locs _ X => ?_)
            have X : Hx D zA zs H locs (mW tk h (u3 Mt 20 (mStep (Mt 2) n ((u3 Mt 20 q2) 20))) hi la ce) := X
            refine lv_iload_n hx hb dX7_number_67 rfl (lv_at hl 0 rfl) ?_
            exact hE (v := nI (q2 10)) () (by rw [mVal, hq2, if_pos (by omega), hw10]) trivial (X.to (by rw [mNum, hq2] <;> rfl)) dX7_number_68
        · refine lv_aload_n hx hb dX7_number_42 rfl (lv_at hl 0 rfl) ?_
          refine g_iconst (n := 3) C0 rfl dX7_number_43 ?_
          refine g_callV (As := [.int (nI 3)]) (rest := []) (wr := []) (C0.sz hl) X (c_X7_fails l D tk h (u3 Mt 20 q1) hi la ce 3 (by exact hb1)) ⟨tb908, tb911, tb8, ⟨by decide, by decide, rfl⟩, rfl, rfl, Nat.le_of_ble_eq_true rfl, Nat.le_of_ble_eq_true rfl⟩ tb910 tbs23 0 7 rfl rfl rfl rfl [0, 1, 2, 3, 4, 5, 6, 7, 8, 9, 10, 11, 12, 13] [] rfl rfl rfl rfl rfl (Nat.le_of_ble_eq_true rfl) ⟨Nat.le_of_ble_eq_true rfl, Nat.le_of_ble_eq_true rfl⟩ dX7_number_44 (fun _ H locs _ X => ?_)
          have X : Hx D zA zs H locs (mW tk h (u3 Mt 20 (mFail ((u3 Mt 20 q1) 20) 3)) hi la ce) := X
          obtain ⟨q2, hq2⟩ : ∃ z, mChk (Mt 20) lo hi9 = z := ⟨_, rfl⟩
          have X : Hx D zA zs H locs (mW tk h (u3 Mt 20 q2) hi la ce) := X.to (by rw [show q2 = mFail ((u3 Mt 20 q1) 20) 3 from by rw [← hq2]; rw [mChk, hq1]; exact if_pos ⟨by omega, fun q => by have hz := c20; rw [decide_eq_true q.1, decide_eq_true q.2] at hz; exact absurd hz (by decide)⟩] <;> rfl)
          have hI2 : MI n q2 := by rw [← hq2]; exact hI.chk
          have hb2 : q2 5 ≤ 6 := hI2.2.2.1
          have hw10 : q2 10 = Mt 20 10 := by rw [← hq2]; exact mChk_o _ _ _ (by decide) (by decide)
          have hw3 : q2 3 = n := by rw [← hq2, mChk_o _ _ _ (by decide) (by decide)]; exact hq3
          refine lv_aload_n hx hb dX7_number_47 rfl (lv_at hl 0 rfl) ?_
          refine g_get (v := .int (nI (q2 5))) C0 X kX7 0 9 tb806 rfl rfl rfl dX7_number_48 ?_
          refine g_ifne (x := q2 5) (tgt := 61) C0 (by omega) dX7_number_51 rfl (fun c23 => ?_) (fun c24 => ?_)
          · refine lv_iload_n hx hb dX7_number_61 rfl (lv_at hl 1 rfl) ?_
            refine lv_istore_n (lv' := [(3, .int (nI lo)), (0, .ref (h 0)), (1, .int (nI lo)), (2, .int (nI hi9))]) hx hb dX7_number_62 rfl hl (by decide) rfl (fun ls hl => ?_)
            refine lv_aload_n hx hb dX7_number_63 rfl (lv_at hl 1 rfl) ?_
            refine g_callV (As := []) (rest := []) (wr := []) (C0.sz hl) X (c_X7_step l D tk h (u3 Mt 20 q2) hi la ce n (by exact hw3) (by exact hn) (by exact ht8) (by exact hI2.2.1) (by exact hI2.2.2.1)) ⟨tb896, tb899, tb8, ⟨by decide, by decide, rfl⟩, rfl, rfl, Nat.le_of_ble_eq_true rfl, Nat.le_of_ble_eq_true rfl⟩ tb898 tbs21 0 7 rfl rfl rfl rfl [0, 1, 2, 3, 4, 5, 6, 7, 8, 9, 10, 11, 12, 13] [] rfl rfl rfl rfl rfl (Nat.le_of_ble_eq_true rfl) ⟨Nat.le_of_ble_eq_true rfl, Nat.le_of_ble_eq_true rfl⟩ dX7_number_64 (fun _ H locs _ X => ?_)
            have X : Hx D zA zs H locs (mW tk h (u3 Mt 20 (mStep (Mt 2) n ((u3 Mt 20 q2) 20))) hi la ce) := X
            refine lv_iload_n hx hb dX7_number_67 rfl (lv_at hl 0 rfl) ?_
            exact hE (v := nI lo) () (by rw [mVal, hq2, if_neg (by omega)]) trivial (X.to (by rw [mNum, hq2] <;> rfl)) dX7_number_68
          · refine lv_aload_n hx hb dX7_number_54 rfl (lv_at hl 0 rfl) ?_
            refine g_get (v := .int (nI (q2 10))) C0 X kX7 0 14 tb811 rfl rfl rfl dX7_number_55 ?_
            refine lv_goto (tgt := 62) hx hb dX7_number_58 (by decide) ?_
            refine lv_istore_n (lv' := [(3, .int (nI (q2 10))), (0, .ref (h 0)), (1, .int (nI lo)), (2, .int (nI hi9))]) hx hb dX7_number_62 rfl hl (by decide) rfl (fun ls hl => ?_)
            refine lv_aload_n hx hb dX7_number_63 rfl (lv_at hl 1 rfl) ?_
            refine g_callV (As := []) (rest := []) (wr := []) (C0.sz hl) X (c_X7_step l D tk h (u3 Mt 20 q2) hi la ce n (by exact hw3) (by exact hn) (by exact ht8) (by exact hI2.2.1) (by exact hI2.2.2.1)) ⟨tb896, tb899, tb8, ⟨by decide, by decide, rfl⟩, rfl, rfl, Nat.le_of_ble_eq_true rfl, Nat.le_of_ble_eq_true rfl⟩ tb898 tbs21 0 7 rfl rfl rfl rfl [0, 1, 2, 3, 4, 5, 6, 7, 8, 9, 10, 11, 12, 13] [] rfl rfl rfl rfl rfl (Nat.le_of_ble_eq_true rfl) ⟨Nat.le_of_ble_eq_true rfl, Nat.le_of_ble_eq_true rfl⟩ dX7_number_64 (fun _ H locs _ X => ?_)
            have X : Hx D zA zs H locs (mW tk h (u3 Mt 20 (mStep (Mt 2) n ((u3 Mt 20 q2) 20))) hi la ce) := X
            refine lv_iload_n hx hb dX7_number_67 rfl (lv_at hl 0 rfl) ?_
            exact hE (v := nI (q2 10)) () (by rw [mVal, hq2, if_pos (by omega), hw10]) trivial (X.to (by rw [mNum, hq2] <;> rfl)) dX7_number_68
    · refine lv_aload_n hx hb dX7_number_15 rfl (lv_at hl 0 rfl) ?_
      refine g_iconst (n := 2) C0 rfl dX7_number_16 ?_
      refine g_callV (As := [.int (nI 2)]) (rest := []) (wr := []) (C0.sz hl) X (c_X7_fails l D tk h Mt hi la ce 2 (by exact hm3)) ⟨tb908, tb911, tb8, ⟨by decide, by decide, rfl⟩, rfl, rfl, Nat.le_of_ble_eq_true rfl, Nat.le_of_ble_eq_true rfl⟩ tb910 tbs23 0 7 rfl rfl rfl rfl [0, 1, 2, 3, 4, 5, 6, 7, 8, 9, 10, 11, 12, 13] [] rfl rfl rfl rfl rfl (Nat.le_of_ble_eq_true rfl) ⟨Nat.le_of_ble_eq_true rfl, Nat.le_of_ble_eq_true rfl⟩ dX7_number_17 (fun _ H locs _ X => ?_)
      have X : Hx D zA zs H locs (mW tk h (u3 Mt 20 (mFail (Mt 20) 2)) hi la ce) := X
      obtain ⟨q1, hq1⟩ : ∃ z, mChk1 (Mt 20) = z := ⟨_, rfl⟩
      have X : Hx D zA zs H locs (mW tk h (u3 Mt 20 q1) hi la ce) := X.to (by rw [show q1 = mFail (Mt 20) 2 from by rw [← hq1]; exact if_pos ⟨by omega, by omega⟩] <;> rfl)
      have hI1 : MI n q1 := by rw [← hq1]; exact hI.chk1
      have hb1 : q1 5 ≤ 6 := hI1.2.2.1
      have hv10 : q1 10 = Mt 20 10 := by rw [← hq1]; exact mChk1_o _ (by decide) (by decide)
      refine lv_aload_n hx hb dX7_number_20 rfl (lv_at hl 0 rfl) ?_
      refine g_get (v := .int (nI (q1 5))) C0 X kX7 0 9 tb806 rfl rfl rfl dX7_number_21 ?_
      refine g_ifne (x := q1 5) (tgt := 47) C0 (by omega) dX7_number_24 rfl (fun c25 => ?_) (fun c26 => ?_)
      · obtain ⟨q2, hq2⟩ : ∃ z, mChk (Mt 20) lo hi9 = z := ⟨_, rfl⟩
        have X : Hx D zA zs H locs (mW tk h (u3 Mt 20 q2) hi la ce) := X.to (by rw [show q2 = q1 from by rw [← hq2]; rw [mChk, hq1]; exact if_neg (fun q => by first | omega | (have hz := c25; rw [Bool.and_eq_true, decide_eq_true_eq, decide_eq_true_eq] at hz; exact q.2 hz))] <;> rfl)
        have hI2 : MI n q2 := by rw [← hq2]; exact hI.chk
        have hb2 : q2 5 ≤ 6 := hI2.2.2.1
        have hw10 : q2 10 = Mt 20 10 := by rw [← hq2]; exact mChk_o _ _ _ (by decide) (by decide)
        have hw3 : q2 3 = n := by rw [← hq2, mChk_o _ _ _ (by decide) (by decide)]; exact hq3
        refine lv_aload_n hx hb dX7_number_47 rfl (lv_at hl 0 rfl) ?_
        refine g_get (v := .int (nI (q2 5))) C0 X kX7 0 9 tb806 rfl rfl rfl dX7_number_48 ?_
        refine g_ifne (x := q2 5) (tgt := 61) C0 (by omega) dX7_number_51 rfl (fun c27 => ?_) (fun c28 => ?_)
        · refine lv_iload_n hx hb dX7_number_61 rfl (lv_at hl 1 rfl) ?_
          refine lv_istore_n (lv' := [(3, .int (nI lo)), (0, .ref (h 0)), (1, .int (nI lo)), (2, .int (nI hi9))]) hx hb dX7_number_62 rfl hl (by decide) rfl (fun ls hl => ?_)
          refine lv_aload_n hx hb dX7_number_63 rfl (lv_at hl 1 rfl) ?_
          refine g_callV (As := []) (rest := []) (wr := []) (C0.sz hl) X (c_X7_step l D tk h (u3 Mt 20 q2) hi la ce n (by exact hw3) (by exact hn) (by exact ht8) (by exact hI2.2.1) (by exact hI2.2.2.1)) ⟨tb896, tb899, tb8, ⟨by decide, by decide, rfl⟩, rfl, rfl, Nat.le_of_ble_eq_true rfl, Nat.le_of_ble_eq_true rfl⟩ tb898 tbs21 0 7 rfl rfl rfl rfl [0, 1, 2, 3, 4, 5, 6, 7, 8, 9, 10, 11, 12, 13] [] rfl rfl rfl rfl rfl (Nat.le_of_ble_eq_true rfl) ⟨Nat.le_of_ble_eq_true rfl, Nat.le_of_ble_eq_true rfl⟩ dX7_number_64 (fun _ H locs _ X => ?_)
          have X : Hx D zA zs H locs (mW tk h (u3 Mt 20 (mStep (Mt 2) n ((u3 Mt 20 q2) 20))) hi la ce) := X
          refine lv_iload_n hx hb dX7_number_67 rfl (lv_at hl 0 rfl) ?_
          exact hE (v := nI lo) () (by rw [mVal, hq2, if_neg (by omega)]) trivial (X.to (by rw [mNum, hq2] <;> rfl)) dX7_number_68
        · refine lv_aload_n hx hb dX7_number_54 rfl (lv_at hl 0 rfl) ?_
          refine g_get (v := .int (nI (q2 10))) C0 X kX7 0 14 tb811 rfl rfl rfl dX7_number_55 ?_
          refine lv_goto (tgt := 62) hx hb dX7_number_58 (by decide) ?_
          refine lv_istore_n (lv' := [(3, .int (nI (q2 10))), (0, .ref (h 0)), (1, .int (nI lo)), (2, .int (nI hi9))]) hx hb dX7_number_62 rfl hl (by decide) rfl (fun ls hl => ?_)
          refine lv_aload_n hx hb dX7_number_63 rfl (lv_at hl 1 rfl) ?_
          refine g_callV (As := []) (rest := []) (wr := []) (C0.sz hl) X (c_X7_step l D tk h (u3 Mt 20 q2) hi la ce n (by exact hw3) (by exact hn) (by exact ht8) (by exact hI2.2.1) (by exact hI2.2.2.1)) ⟨tb896, tb899, tb8, ⟨by decide, by decide, rfl⟩, rfl, rfl, Nat.le_of_ble_eq_true rfl, Nat.le_of_ble_eq_true rfl⟩ tb898 tbs21 0 7 rfl rfl rfl rfl [0, 1, 2, 3, 4, 5, 6, 7, 8, 9, 10, 11, 12, 13] [] rfl rfl rfl rfl rfl (Nat.le_of_ble_eq_true rfl) ⟨Nat.le_of_ble_eq_true rfl, Nat.le_of_ble_eq_true rfl⟩ dX7_number_64 (fun _ H locs _ X => ?_)
          have X : Hx D zA zs H locs (mW tk h (u3 Mt 20 (mStep (Mt 2) n ((u3 Mt 20 q2) 20))) hi la ce) := X
          refine lv_iload_n hx hb dX7_number_67 rfl (lv_at hl 0 rfl) ?_
          exact hE (v := nI (q2 10)) () (by rw [mVal, hq2, if_pos (by omega), hw10]) trivial (X.to (by rw [mNum, hq2] <;> rfl)) dX7_number_68
      · refine lv_aload_n hx hb dX7_number_27 rfl (lv_at hl 0 rfl) ?_
        refine g_get (v := .int (nI (q1 10))) C0 X kX7 0 14 tb811 rfl rfl rfl dX7_number_28 ?_
        refine g_i2l C0 (by omega) dX7_number_31 ?_
        refine lv_iload_n hx hb dX7_number_32 rfl (lv_at hl 1 rfl) ?_
        refine g_i2l C0 (by omega) dX7_number_33 ?_
        refine lv_iload_n hx hb dX7_number_34 rfl (lv_at hl 2 rfl) ?_
        refine g_i2l C0 (by omega) dX7_number_35 ?_
        refine g_callS (As := [.long (lN (q1 10)), .long (lN lo), .long (lN hi9)]) (rest := []) (wr := (mW tk h (u3 Mt 20 q1) hi la ce)) (C0.sz hl) X (c_X7_in l D tk (lN (q1 10)) (lN lo) (lN hi9)) ⟨tb885, tb887, tb8, ⟨by decide, by decide, rfl⟩, rfl, rfl, Nat.le_of_ble_eq_true rfl, Nat.le_of_ble_eq_true rfl⟩ tb886 rfl [] [0, 1, 2, 3, 4, 5, 6, 7, 8, 9, 10, 11, 12, 13] rfl rfl rfl rfl rfl (Nat.le_of_ble_eq_true rfl) ⟨Nat.le_of_ble_eq_true rfl, Nat.le_of_ble_eq_true rfl⟩ dX7_number_36 (fun _ H locs _ X => ?_)
        have X : Hx D zA zs H locs (mW tk h (u3 Mt 20 q1) hi la ce) := X
        refine g_top (y := nI (rb (decide (lo ≤ Mt 20 10) && decide (Mt 20 10 ≤ hi9)))) (by rw [hv10, inL_nn (by omega) (by omega) (by omega)]) ?_
        refine g_ifneB (x := (decide (lo ≤ Mt 20 10) && decide (Mt 20 10 ≤ hi9))) (tgt := 47) C0 dX7_number_39 rfl (fun c29 => ?_) (fun c30 => ?_)
        · obtain ⟨q2, hq2⟩ : ∃ z, mChk (Mt 20) lo hi9 = z := ⟨_, rfl⟩
          have X : Hx D zA zs H locs (mW tk h (u3 Mt 20 q2) hi la ce) := X.to (by rw [show q2 = q1 from by rw [← hq2]; rw [mChk, hq1]; exact if_neg (fun q => by first | omega | (have hz := c29; rw [Bool.and_eq_true, decide_eq_true_eq, decide_eq_true_eq] at hz; exact q.2 hz))] <;> rfl)
          have hI2 : MI n q2 := by rw [← hq2]; exact hI.chk
          have hb2 : q2 5 ≤ 6 := hI2.2.2.1
          have hw10 : q2 10 = Mt 20 10 := by rw [← hq2]; exact mChk_o _ _ _ (by decide) (by decide)
          have hw3 : q2 3 = n := by rw [← hq2, mChk_o _ _ _ (by decide) (by decide)]; exact hq3
          refine lv_aload_n hx hb dX7_number_47 rfl (lv_at hl 0 rfl) ?_
          refine g_get (v := .int (nI (q2 5))) C0 X kX7 0 9 tb806 rfl rfl rfl dX7_number_48 ?_
          refine g_ifne (x := q2 5) (tgt := 61) C0 (by omega) dX7_number_51 rfl (fun c31 => ?_) (fun c32 => ?_)
          · refine lv_iload_n hx hb dX7_number_61 rfl (lv_at hl 1 rfl) ?_
            refine lv_istore_n (lv' := [(3, .int (nI lo)), (0, .ref (h 0)), (1, .int (nI lo)), (2, .int (nI hi9))]) hx hb dX7_number_62 rfl hl (by decide) rfl (fun ls hl => ?_)
            refine lv_aload_n hx hb dX7_number_63 rfl (lv_at hl 1 rfl) ?_
            refine g_callV (As := []) (rest := []) (wr := []) (C0.sz hl) X (c_X7_step l D tk h (u3 Mt 20 q2) hi la ce n (by exact hw3) (by exact hn) (by exact ht8) (by exact hI2.2.1) (by exact hI2.2.2.1)) ⟨tb896, tb899, tb8, ⟨by decide, by decide, rfl⟩, rfl, rfl, Nat.le_of_ble_eq_true rfl, Nat.le_of_ble_eq_true rfl⟩ tb898 tbs21 0 7 rfl rfl rfl rfl [0, 1, 2, 3, 4, 5, 6, 7, 8, 9, 10, 11, 12, 13] [] rfl rfl rfl rfl rfl (Nat.le_of_ble_eq_true rfl) ⟨Nat.le_of_ble_eq_true rfl, Nat.le_of_ble_eq_true rfl⟩ dX7_number_64 (fun _ H locs _ X => ?_)
            have X : Hx D zA zs H locs (mW tk h (u3 Mt 20 (mStep (Mt 2) n ((u3 Mt 20 q2) 20))) hi la ce) := X
            refine lv_iload_n hx hb dX7_number_67 rfl (lv_at hl 0 rfl) ?_
            exact hE (v := nI lo) () (by rw [mVal, hq2, if_neg (by omega)]) trivial (X.to (by rw [mNum, hq2] <;> rfl)) dX7_number_68
          · refine lv_aload_n hx hb dX7_number_54 rfl (lv_at hl 0 rfl) ?_
            refine g_get (v := .int (nI (q2 10))) C0 X kX7 0 14 tb811 rfl rfl rfl dX7_number_55 ?_
            refine lv_goto (tgt := 62) hx hb dX7_number_58 (by decide) ?_
            refine lv_istore_n (lv' := [(3, .int (nI (q2 10))), (0, .ref (h 0)), (1, .int (nI lo)), (2, .int (nI hi9))]) hx hb dX7_number_62 rfl hl (by decide) rfl (fun ls hl => ?_)
            refine lv_aload_n hx hb dX7_number_63 rfl (lv_at hl 1 rfl) ?_
            refine g_callV (As := []) (rest := []) (wr := []) (C0.sz hl) X (c_X7_step l D tk h (u3 Mt 20 q2) hi la ce n (by exact hw3) (by exact hn) (by exact ht8) (by exact hI2.2.1) (by exact hI2.2.2.1)) ⟨tb896, tb899, tb8, ⟨by decide, by decide, rfl⟩, rfl, rfl, Nat.le_of_ble_eq_true rfl, Nat.le_of_ble_eq_true rfl⟩ tb898 tbs21 0 7 rfl rfl rfl rfl [0, 1, 2, 3, 4, 5, 6, 7, 8, 9, 10, 11, 12, 13] [] rfl rfl rfl rfl rfl (Nat.le_of_ble_eq_true rfl) ⟨Nat.le_of_ble_eq_true rfl, Nat.le_of_ble_eq_true rfl⟩ dX7_number_64 (fun _ H locs _ X => ?_)
            have X : Hx D zA zs H locs (mW tk h (u3 Mt 20 (mStep (Mt 2) n ((u3 Mt 20 q2) 20))) hi la ce) := X
            refine lv_iload_n hx hb dX7_number_67 rfl (lv_at hl 0 rfl) ?_
            exact hE (v := nI (q2 10)) () (by rw [mVal, hq2, if_pos (by omega), hw10]) trivial (X.to (by rw [mNum, hq2] <;> rfl)) dX7_number_68
        · refine lv_aload_n hx hb dX7_number_42 rfl (lv_at hl 0 rfl) ?_
          refine g_iconst (n := 3) C0 rfl dX7_number_43 ?_
          refine g_callV (As := [.int (nI 3)]) (rest := []) (wr := []) (C0.sz hl) X (c_X7_fails l D tk h (u3 Mt 20 q1) hi la ce 3 (by exact hb1)) ⟨tb908, tb911, tb8, ⟨by decide, by decide, rfl⟩, rfl, rfl, Nat.le_of_ble_eq_true rfl, Nat.le_of_ble_eq_true rfl⟩ tb910 tbs23 0 7 rfl rfl rfl rfl [0, 1, 2, 3, 4, 5, 6, 7, 8, 9, 10, 11, 12, 13] [] rfl rfl rfl rfl rfl (Nat.le_of_ble_eq_true rfl) ⟨Nat.le_of_ble_eq_true rfl, Nat.le_of_ble_eq_true rfl⟩ dX7_number_44 (fun _ H locs _ X => ?_)
          have X : Hx D zA zs H locs (mW tk h (u3 Mt 20 (mFail ((u3 Mt 20 q1) 20) 3)) hi la ce) := X
          obtain ⟨q2, hq2⟩ : ∃ z, mChk (Mt 20) lo hi9 = z := ⟨_, rfl⟩
          have X : Hx D zA zs H locs (mW tk h (u3 Mt 20 q2) hi la ce) := X.to (by rw [show q2 = mFail ((u3 Mt 20 q1) 20) 3 from by rw [← hq2]; rw [mChk, hq1]; exact if_pos ⟨by omega, fun q => by have hz := c30; rw [decide_eq_true q.1, decide_eq_true q.2] at hz; exact absurd hz (by decide)⟩] <;> rfl)
          have hI2 : MI n q2 := by rw [← hq2]; exact hI.chk
          have hb2 : q2 5 ≤ 6 := hI2.2.2.1
          have hw10 : q2 10 = Mt 20 10 := by rw [← hq2]; exact mChk_o _ _ _ (by decide) (by decide)
          have hw3 : q2 3 = n := by rw [← hq2, mChk_o _ _ _ (by decide) (by decide)]; exact hq3
          refine lv_aload_n hx hb dX7_number_47 rfl (lv_at hl 0 rfl) ?_
          refine g_get (v := .int (nI (q2 5))) C0 X kX7 0 9 tb806 rfl rfl rfl dX7_number_48 ?_
          refine g_ifne (x := q2 5) (tgt := 61) C0 (by omega) dX7_number_51 rfl (fun c33 => ?_) (fun c34 => ?_)
          · refine lv_iload_n hx hb dX7_number_61 rfl (lv_at hl 1 rfl) ?_
            refine lv_istore_n (lv' := [(3, .int (nI lo)), (0, .ref (h 0)), (1, .int (nI lo)), (2, .int (nI hi9))]) hx hb dX7_number_62 rfl hl (by decide) rfl (fun ls hl => ?_)
            refine lv_aload_n hx hb dX7_number_63 rfl (lv_at hl 1 rfl) ?_
            refine g_callV (As := []) (rest := []) (wr := []) (C0.sz hl) X (c_X7_step l D tk h (u3 Mt 20 q2) hi la ce n (by exact hw3) (by exact hn) (by exact ht8) (by exact hI2.2.1) (by exact hI2.2.2.1)) ⟨tb896, tb899, tb8, ⟨by decide, by decide, rfl⟩, rfl, rfl, Nat.le_of_ble_eq_true rfl, Nat.le_of_ble_eq_true rfl⟩ tb898 tbs21 0 7 rfl rfl rfl rfl [0, 1, 2, 3, 4, 5, 6, 7, 8, 9, 10, 11, 12, 13] [] rfl rfl rfl rfl rfl (Nat.le_of_ble_eq_true rfl) ⟨Nat.le_of_ble_eq_true rfl, Nat.le_of_ble_eq_true rfl⟩ dX7_number_64 (fun _ H locs _ X => ?_)
            have X : Hx D zA zs H locs (mW tk h (u3 Mt 20 (mStep (Mt 2) n ((u3 Mt 20 q2) 20))) hi la ce) := X
            refine lv_iload_n hx hb dX7_number_67 rfl (lv_at hl 0 rfl) ?_
            exact hE (v := nI lo) () (by rw [mVal, hq2, if_neg (by omega)]) trivial (X.to (by rw [mNum, hq2] <;> rfl)) dX7_number_68
          · refine lv_aload_n hx hb dX7_number_54 rfl (lv_at hl 0 rfl) ?_
            refine g_get (v := .int (nI (q2 10))) C0 X kX7 0 14 tb811 rfl rfl rfl dX7_number_55 ?_
            refine lv_goto (tgt := 62) hx hb dX7_number_58 (by decide) ?_
            refine lv_istore_n (lv' := [(3, .int (nI (q2 10))), (0, .ref (h 0)), (1, .int (nI lo)), (2, .int (nI hi9))]) hx hb dX7_number_62 rfl hl (by decide) rfl (fun ls hl => ?_)
            refine lv_aload_n hx hb dX7_number_63 rfl (lv_at hl 1 rfl) ?_
            refine g_callV (As := []) (rest := []) (wr := []) (C0.sz hl) X (c_X7_step l D tk h (u3 Mt 20 q2) hi la ce n (by exact hw3) (by exact hn) (by exact ht8) (by exact hI2.2.1) (by exact hI2.2.2.1)) ⟨tb896, tb899, tb8, ⟨by decide, by decide, rfl⟩, rfl, rfl, Nat.le_of_ble_eq_true rfl, Nat.le_of_ble_eq_true rfl⟩ tb898 tbs21 0 7 rfl rfl rfl rfl [0, 1, 2, 3, 4, 5, 6, 7, 8, 9, 10, 11, 12, 13] [] rfl rfl rfl rfl rfl (Nat.le_of_ble_eq_true rfl) ⟨Nat.le_of_ble_eq_true rfl, Nat.le_of_ble_eq_true rfl⟩ dX7_number_64 (fun _ H locs _ X => ?_)
            have X : Hx D zA zs H locs (mW tk h (u3 Mt 20 (mStep (Mt 2) n ((u3 Mt 20 q2) 20))) hi la ce) := X
            refine lv_iload_n hx hb dX7_number_67 rfl (lv_at hl 0 rfl) ?_
            exact hE (v := nI (q2 10)) () (by rw [mVal, hq2, if_pos (by omega), hw10]) trivial (X.to (by rw [mNum, hq2] <;> rfl)) dX7_number_68
set_option maxHeartbeats 4000000 in
set_option maxRecDepth 100000 in
theorem c_X7_treeHere (l : Launch) (D : va_G) (tk : Nat → ClassId) (h : Nat → Nat) (Mt : Nat → Nat → Nat) (hi : Int32) (la ce : Nat → Int32) (n : Nat) (hq3 : Mt 20 3 = n) (hn : n ≤ 160) (ht8 : ∀ j, j < n → Mt 2 j < 128) (hI : MI n (Mt 20)) : MX l yX7_treeHere cX7_treeHere 2 (some .int) ⟨3, 0, 0, 69⟩ D (TYS tk) [.ref (h 0)] (mW tk h Mt hi la ce) (fun (_ : Unit) => True) (fun _ => some (.int (nI (mVal (Mt 20) 0 5)))) (fun _ => mW tk h (u3 Mt 20 (mNum (Mt 2) n (Mt 20) 0 5)) (hiM hi (mVal (Mt 20) 0 5)) la ce) 0 0 := by
  refine MX.of_i (by decide) rfl ?_
  intro zp ze zs zm za zb zt zc zA zQ ls C0 hnm X hl hE
  have hx := C0.1
  have hb := C0.2.1
  have ht := C0.2.2.2.2.1
  have X : Hx D zA zs zs.heap [] (mW tk h Mt hi la ce) := X
  have hl : lv_has ls 2 [(0, .ref (h 0))] := hl
  obtain ⟨hm1, hm2, hm3, hm4, hm5⟩ := id hI
  obtain ⟨H, hH⟩ : ∃ H, H = zs.heap := ⟨_, rfl⟩
  rw [← hH] at X ⊢
  obtain ⟨locs, hlo⟩ : ∃ L : List Loc, L = [] := ⟨_, rfl⟩
  rw [← hlo] at X ⊢
  refine lv_aload_n hx hb dX7_treeHere_0 rfl (lv_at hl 0 rfl) ?_
  refine g_iconst (n := 0) C0 rfl dX7_treeHere_1 ?_
  refine g_iconst (n := 5) C0 rfl dX7_treeHere_2 ?_
  refine g_callV (As := [.int (nI 0), .int (nI 5)]) (rest := []) (wr := []) (C0.sz hl) X (c_X7_number l D tk h Mt hi la ce n 0 5 (by exact hq3) (by exact hn) (by exact ht8) (by exact hI) (by first | assumption | decide | omega) (by first | assumption | decide | omega)) ⟨tb937, tb940, tb8, ⟨by decide, by decide, rfl⟩, rfl, rfl, Nat.le_of_ble_eq_true rfl, Nat.le_of_ble_eq_true rfl⟩ tb939 tbs30 0 7 rfl rfl rfl rfl [0, 1, 2, 3, 4, 5, 6, 7, 8, 9, 10, 11, 12, 13] [] rfl rfl rfl rfl rfl (Nat.le_of_ble_eq_true rfl) ⟨Nat.le_of_ble_eq_true rfl, Nat.le_of_ble_eq_true rfl⟩ dX7_treeHere_3 (fun _ H locs _ X => ?_)
  have X : Hx D zA zs H locs (mW tk h (u3 Mt 20 (mNum (Mt 2) n (Mt 20) 0 5)) hi la ce) := X
  refine lv_istore_n (lv' := [(1, .int (nI (mVal (Mt 20) 0 5))), (0, .ref (h 0))]) hx hb dX7_treeHere_6 rfl hl (by decide) rfl (fun ls hl => ?_)
  refine lv_aload_n hx hb dX7_treeHere_7 rfl (lv_at hl 1 rfl) ?_
  refine lv_iload_n hx hb dX7_treeHere_8 rfl (lv_at hl 0 rfl) ?_
  refine lv_aload_n hx hb dX7_treeHere_9 rfl (lv_at hl 1 rfl) ?_
  refine g_get (v := .int hi) C0 X kX7 0 5 tb802 rfl rfl rfl dX7_treeHere_10 ?_
  refine lv_icmp_le (tgt := 20) hx hb dX7_treeHere_13 rfl (fun c1 => ?_) (fun c2 => ?_)
  · refine lv_aload_n hx hb dX7_treeHere_20 rfl (lv_at hl 1 rfl) ?_
    refine g_get (v := .int hi) C0 X kX7 0 5 tb802 rfl rfl rfl dX7_treeHere_21 ?_
    refine g_put (v := .int hi) (ft := .int) C0 X kX7 0 5 tb802 rfl rfl rfl rfl rfl rfl rfl dX7_treeHere_24 (fun H locs X => ?_)
    have X : Hx D zA zs H locs (mW tk h (u3 Mt 20 (mNum (Mt 2) n (Mt 20) 0 5)) hi la ce) := X
    refine lv_iload_n hx hb dX7_treeHere_27 rfl (lv_at hl 0 rfl) ?_
    exact hE (v := nI (mVal (Mt 20) 0 5)) () rfl trivial (X.to (by rw [show hiM hi (mVal (Mt 20) 0 5) = hi from if_pos c1] <;> rfl)) dX7_treeHere_28
  · refine lv_iload_n hx hb dX7_treeHere_16 rfl (lv_at hl 0 rfl) ?_
    refine lv_goto (tgt := 24) hx hb dX7_treeHere_17 (by decide) ?_
    refine g_put (v := .int (nI (mVal (Mt 20) 0 5))) (ft := .int) C0 X kX7 0 5 tb802 rfl rfl rfl rfl rfl rfl rfl dX7_treeHere_24 (fun H locs X => ?_)
    have X : Hx D zA zs H locs (mW tk h (u3 Mt 20 (mNum (Mt 2) n (Mt 20) 0 5)) (nI (mVal (Mt 20) 0 5)) la ce) := X
    refine lv_iload_n hx hb dX7_treeHere_27 rfl (lv_at hl 0 rfl) ?_
    exact hE (v := nI (mVal (Mt 20) 0 5)) () rfl trivial (X.to (by rw [show hiM hi (mVal (Mt 20) 0 5) = nI (mVal (Mt 20) 0 5) from if_neg c2] <;> rfl)) dX7_treeHere_28
