set_option maxHeartbeats 4000000 in
set_option maxRecDepth 100000 in
theorem c_X7_step (l : Launch) (D : va_G) (tk : Nat → ClassId) (h : Nat → Nat) (Mt : Nat → Nat → Nat) (hi : Int32) (la ce : Nat → Int32) (n : Nat) (hq3 : Mt 20 3 = n) (hn : n ≤ 160) (ht8 : ∀ j, j < n → Mt 2 j < 128) (h27 : Mt 20 7 ≤ n) (h25 : Mt 20 5 ≤ 6) : MX l yX7_step cX7_step 2 none ⟨1, 0, 0, 25⟩ D (TYS tk) [.ref (h 0)] (mW tk h Mt hi la ce) (fun (_ : Unit) => True) (fun _ => none) (fun _ => mW tk h (u3 Mt 20 (mStep (Mt 2) n (Mt 20))) hi la ce) 0 0 := by
  refine MX.of_v (by decide) rfl ?_
  intro zp ze zs zm za zb zt zc zA zQ ls C0 hnm X hl hE
  have hx := C0.1
  have hb := C0.2.1
  have ht := C0.2.2.2.2.1
  have X : Hx D zA zs zs.heap [] (mW tk h Mt hi la ce) := X
  have hl : lv_has ls 2 [(0, .ref (h 0))] := hl
  obtain ⟨H, hH⟩ : ∃ H, H = zs.heap := ⟨_, rfl⟩
  rw [← hH] at X ⊢
  obtain ⟨locs, hlo⟩ : ∃ L : List Loc, L = [] := ⟨_, rfl⟩
  rw [← hlo] at X ⊢
  refine lv_aload_n hx hb dX7_step_0 rfl (lv_at hl 0 rfl) ?_
  refine g_get (v := .int (nI (Mt 20 5))) C0 X kX7 0 9 tb806 rfl rfl rfl dX7_step_1 ?_
  refine g_ifle (x := Mt 20 5) (tgt := 8) C0 (by omega) dX7_step_4 rfl (fun c1 => ?_) (fun c2 => ?_)
  · have J8 : ∀ (fz : Nat) (s1 : Nat), n - s1 < fz → ∀ (hs1 : s1 ≤ n) (hsp : eor (Mt 2) n 32 32 (Mt 20 7) = eor (Mt 2) n 32 32 s1) (H : Heap) (locs : List Loc) (ls : Array Slot), Hx D zA zs H locs (mW tk h (u2 Mt 20 7 s1) hi la ce) → lv_has ls 2 [(0, .ref (h 0))] → W zp l ze ⟨1, 0, 0, 25⟩ zs zm za zb zt zc H locs 0 0 zQ (F0 zm 8 ls []) := by
      intro fz
      induction fz with
      | zero => intro s1 hz; exact absurd hz (Nat.not_lt_zero _)
      | succ fz ih8 =>
        intro s1 hz8 hs1 hsp H locs ls X hl
        refine lv_aload_n hx hb dX7_step_8 rfl (lv_at hl 0 rfl) ?_
        have h8 : s1 < n → Mt 2 (s1) < 128 := ht8 (s1)
        refine lv_aload_n hx hb dX7_step_9 rfl (lv_at hl 0 rfl) ?_
        refine g_get (v := .int (nI s1)) C0 X kX7 0 11 tb808 rfl rfl rfl dX7_step_10 ?_
        by_cases c3 : s1 < n
        · refine g_callV (As := [.int (nI s1)]) (rest := []) (wr := []) (C0.sz hl) X (c_byT l D tk h (u2 Mt 20 7 s1) hi la ce s1 (by first | omega | (show s1 < Mt 20 3; omega) | (show Mt 20 3 ≤ s1; omega) | (show Mt 20 3 ≤ 160; omega)) (by first | omega | (show s1 < Mt 20 3; omega) | (show Mt 20 3 ≤ s1; omega) | (show Mt 20 3 ≤ 160; omega))) ⟨tb900, tb903, tb8, ⟨by decide, by decide, rfl⟩, rfl, rfl, Nat.le_of_ble_eq_true rfl, Nat.le_of_ble_eq_true rfl⟩ tb902 tbs22 0 7 rfl rfl rfl rfl [0, 1, 2, 3, 4, 5, 6, 7, 8, 9, 10, 11, 12, 13] [] rfl rfl rfl rfl rfl (Nat.le_of_ble_eq_true rfl) ⟨Nat.le_of_ble_eq_true rfl, Nat.le_of_ble_eq_true rfl⟩ dX7_step_13 (fun _ H locs _ X => ?_)
          have X : Hx D zA zs H locs (mW tk h (u2 Mt 20 7 s1) hi la ce) := X
          refine g_bipush (n := 32) C0 (by decide) dX7_step_16 ?_
          refine g_icmp_ne (x := Mt 2 s1) (y := 32) (tgt := 34) C0 (by omega) (by omega) dX7_step_18 rfl (fun c4 => ?_) (fun c5 => ?_)
          · have hes : eor (Mt 2) n 32 32 (Mt 20 7) = s1 := by rw [hsp, eor_n (by omega)]
            refine lv_aload_n hx hb dX7_step_34 rfl (lv_at hl 0 rfl) ?_
            refine lv_aload_n hx hb dX7_step_35 rfl (lv_at hl 0 rfl) ?_
            refine g_get (v := .int (nI s1)) C0 X kX7 0 11 tb808 rfl rfl rfl dX7_step_36 ?_
            refine g_put (v := .int (nI s1)) (ft := .int) C0 X kX7 0 12 tb809 rfl rfl rfl rfl rfl rfl rfl dX7_step_39 (fun H locs X => ?_)
            have X : Hx D zA zs H locs (mW tk h (u2 (u2 Mt 20 7 s1) 20 8 s1) hi la ce) := X
            refine lv_aload_n hx hb dX7_step_42 rfl (lv_at hl 0 rfl) ?_
            refine lv_aload_n hx hb dX7_step_43 rfl (lv_at hl 0 rfl) ?_
            refine g_get (v := .int (nI s1)) C0 X kX7 0 11 tb808 rfl rfl rfl dX7_step_44 ?_
            by_cases c6 : s1 < n
            · refine g_callV (As := [.int (nI s1)]) (rest := []) (wr := []) (C0.sz hl) X (c_byT l D tk h (u2 (u2 Mt 20 7 s1) 20 8 s1) hi la ce s1 (by first | omega | (show s1 < Mt 20 3; omega) | (show Mt 20 3 ≤ s1; omega) | (show Mt 20 3 ≤ 160; omega)) (by first | omega | (show s1 < Mt 20 3; omega) | (show Mt 20 3 ≤ s1; omega) | (show Mt 20 3 ≤ 160; omega))) ⟨tb900, tb903, tb8, ⟨by decide, by decide, rfl⟩, rfl, rfl, Nat.le_of_ble_eq_true rfl, Nat.le_of_ble_eq_true rfl⟩ tb902 tbs22 0 7 rfl rfl rfl rfl [0, 1, 2, 3, 4, 5, 6, 7, 8, 9, 10, 11, 12, 13] [] rfl rfl rfl rfl rfl (Nat.le_of_ble_eq_true rfl) ⟨Nat.le_of_ble_eq_true rfl, Nat.le_of_ble_eq_true rfl⟩ dX7_step_47 (fun _ H locs _ X => ?_)
              have X : Hx D zA zs H locs (mW tk h (u2 (u2 Mt 20 7 s1) 20 8 s1) hi la ce) := X
              refine lv_istore_n (lv' := [(1, .int (nI (Mt 2 s1))), (0, .ref (h 0))]) hx hb dX7_step_50 rfl hl (by decide) rfl (fun ls hl => ?_)
              refine lv_aload_n hx hb dX7_step_51 rfl (lv_at hl 1 rfl) ?_
              refine g_iconst (n := 0) C0 rfl dX7_step_52 ?_
              refine g_put (v := .int (nI 0)) (ft := .int) C0 X kX7 0 14 tb811 rfl rfl rfl rfl rfl rfl rfl dX7_step_53 (fun H locs X => ?_)
              have X : Hx D zA zs H locs (mW tk h (u2 (u2 (u2 Mt 20 7 s1) 20 8 s1) 20 10 0) hi la ce) := X
              refine lv_iload_n hx hb dX7_step_56 rfl (lv_at hl 0 rfl) ?_
              refine lv_bipush (v := (-4)) hx hb dX7_step_57 (by decide) ?_
              refine lv_icmp_ne (tgt := 70) hx hb dX7_step_59 rfl (fun _ => ?_) (fun q => absurd q (nI_nneg (by omega) (by decide)))
              refine lv_iload_n hx hb dX7_step_70 rfl (lv_at hl 0 rfl) ?_
              refine g_i2l C0 (by omega) dX7_step_71 ?_
              refine lv_ldc2 (v := lN 97) hx hb C0.2.2.2.1 (ht _ tb904) dX7_step_72 ?_
              refine lv_ldc2 (v := lN 122) hx hb C0.2.2.2.1 (ht _ tb905) dX7_step_75 ?_
              refine g_callS (As := [.long (lN (Mt 2 s1)), .long (lN 97), .long (lN 122)]) (rest := []) (wr := (mW tk h (u2 (u2 (u2 Mt 20 7 s1) 20 8 s1) 20 10 0) hi la ce)) (C0.sz hl) X (c_X7_in l D tk (lN (Mt 2 s1)) (lN 97) (lN 122)) ⟨tb885, tb887, tb8, ⟨by decide, by decide, rfl⟩, rfl, rfl, Nat.le_of_ble_eq_true rfl, Nat.le_of_ble_eq_true rfl⟩ tb886 rfl [] [0, 1, 2, 3, 4, 5, 6, 7, 8, 9, 10, 11, 12, 13] rfl rfl rfl rfl rfl (Nat.le_of_ble_eq_true rfl) ⟨Nat.le_of_ble_eq_true rfl, Nat.le_of_ble_eq_true rfl⟩ dX7_step_78 (fun _ H locs _ X => ?_)
              have X : Hx D zA zs H locs (mW tk h (u2 (u2 (u2 Mt 20 7 s1) 20 8 s1) 20 10 0) hi la ce) := X
              refine g_top (y := nI (rb (decide (97 ≤ Mt 2 s1) && decide (Mt 2 s1 ≤ 122)))) (by rw [inL_nn (by omega) (by omega) (by omega)]) ?_
              refine g_ifeqB (x := (decide (97 ≤ Mt 2 s1) && decide (Mt 2 s1 ≤ 122))) (tgt := 126) C0 dX7_step_81 rfl (fun c9 => ?_) (fun c10 => ?_)
              · have hNA := c9
                refine lv_iload_n hx hb dX7_step_126 rfl (lv_at hl 0 rfl) ?_
                refine g_i2l C0 (by omega) dX7_step_127 ?_
                refine lv_ldc2 (v := lN 48) hx hb C0.2.2.2.1 (ht _ tb906) dX7_step_128 ?_
                refine lv_ldc2 (v := lN 57) hx hb C0.2.2.2.1 (ht _ tb907) dX7_step_131 ?_
                refine g_callS (As := [.long (lN (Mt 2 s1)), .long (lN 48), .long (lN 57)]) (rest := []) (wr := (mW tk h (u2 (u2 (u2 Mt 20 7 s1) 20 8 s1) 20 10 0) hi la ce)) (C0.sz hl) X (c_X7_in l D tk (lN (Mt 2 s1)) (lN 48) (lN 57)) ⟨tb885, tb887, tb8, ⟨by decide, by decide, rfl⟩, rfl, rfl, Nat.le_of_ble_eq_true rfl, Nat.le_of_ble_eq_true rfl⟩ tb886 rfl [] [0, 1, 2, 3, 4, 5, 6, 7, 8, 9, 10, 11, 12, 13] rfl rfl rfl rfl rfl (Nat.le_of_ble_eq_true rfl) ⟨Nat.le_of_ble_eq_true rfl, Nat.le_of_ble_eq_true rfl⟩ dX7_step_134 (fun _ H locs _ X => ?_)
                have X : Hx D zA zs H locs (mW tk h (u2 (u2 (u2 Mt 20 7 s1) 20 8 s1) 20 10 0) hi la ce) := X
                refine g_top (y := nI (rb (decide (48 ≤ Mt 2 s1) && decide (Mt 2 s1 ≤ 57)))) (by rw [inL_nn (by omega) (by omega) (by omega)]) ?_
                refine g_ifeqB (x := (decide (48 ≤ Mt 2 s1) && decide (Mt 2 s1 ≤ 57))) (tgt := 243) C0 dX7_step_137 rfl (fun c11 => ?_) (fun c12 => ?_)
                · have hND := c11
                  refine lv_aload_n hx hb dX7_step_243 rfl (lv_at hl 1 rfl) ?_
                  refine g_iconst (n := 3) C0 rfl dX7_step_244 ?_
                  refine g_put (v := .int (nI 3)) (ft := .int) C0 X kX7 0 13 tb810 rfl rfl rfl rfl rfl rfl rfl dX7_step_245 (fun H locs X => ?_)
                  have X : Hx D zA zs H locs (mW tk h (u2 (u2 (u2 (u2 Mt 20 7 s1) 20 8 s1) 20 10 0) 20 9 3) hi la ce) := X
                  refine lv_aload_n hx hb dX7_step_248 rfl (lv_at hl 1 rfl) ?_
                  refine lv_dup hx hb dX7_step_249 rfl ?_
                  refine g_get (v := .int (nI s1)) C0 X kX7 0 11 tb808 rfl rfl rfl dX7_step_250 ?_
                  refine g_iconst (n := 1) C0 rfl dX7_step_253 ?_
                  refine g_iadd (n := s1 + 1) C0 (by first | rfl | omega) dX7_step_254 ?_
                  refine g_put (v := .int (nI (s1 + 1))) (ft := .int) C0 X kX7 0 11 tb808 rfl rfl rfl rfl rfl rfl rfl dX7_step_255 (fun H locs X => ?_)
                  have X : Hx D zA zs H locs (mW tk h (u2 (u2 (u2 (u2 Mt 20 8 s1) 20 10 0) 20 9 3) 20 7 (s1 + 1)) hi la ce) := X
                  refine lv_iload_n hx hb dX7_step_258 rfl (lv_at hl 0 rfl) ?_
                  refine g_bipush (n := 59) C0 (by decide) dX7_step_259 ?_
                  refine g_icmp_eq (x := Mt 2 s1) (y := 59) (tgt := 269) C0 (by omega) (by omega) dX7_step_261 rfl (fun c13 => ?_) (fun c14 => ?_)
                  · exact hE (v := ()) () rfl trivial (X.to (by rw [show mStep (Mt 2) n (Mt 20) = mStp (Mt 2) n (Mt 20) s1 from by rw [mStep, if_neg (by omega), hes], mStp, if_neg (by omega), if_neg (show ¬ (97 ≤ Mt 2 s1 ∧ Mt 2 s1 ≤ 122) from fun q => by have hz := hNA; rw [decide_eq_true q.1, decide_eq_true q.2] at hz; exact absurd hz (by decide)), if_neg (show ¬ (48 ≤ Mt 2 s1 ∧ Mt 2 s1 ≤ 57) from fun q => by have hz := hND; rw [decide_eq_true q.1, decide_eq_true q.2] at hz; exact absurd hz (by decide)), if_pos (by omega)] <;> rfl)) dX7_step_269
                  · refine lv_aload_n hx hb dX7_step_264 rfl (lv_at hl 1 rfl) ?_
                    refine g_iconst (n := 1) C0 rfl dX7_step_265 ?_
                    refine g_callV (As := [.int (nI 1)]) (rest := []) (wr := []) (C0.sz hl) X (c_X7_fails l D tk h (u2 (u2 (u2 (u2 Mt 20 8 s1) 20 10 0) 20 9 3) 20 7 (s1 + 1)) hi la ce 1 (by show Mt 20 5 ≤ 6; omega)) ⟨tb908, tb911, tb8, ⟨by decide, by decide, rfl⟩, rfl, rfl, Nat.le_of_ble_eq_true rfl, Nat.le_of_ble_eq_true rfl⟩ tb910 tbs23 0 7 rfl rfl rfl rfl [0, 1, 2, 3, 4, 5, 6, 7, 8, 9, 10, 11, 12, 13] [] rfl rfl rfl rfl rfl (Nat.le_of_ble_eq_true rfl) ⟨Nat.le_of_ble_eq_true rfl, Nat.le_of_ble_eq_true rfl⟩ dX7_step_266 (fun _ H locs _ X => ?_)
                    have X : Hx D zA zs H locs (mW tk h (u3 Mt 20 (mFail ((u2 (u2 (u2 (u2 Mt 20 8 s1) 20 10 0) 20 9 3) 20 7 (s1 + 1)) 20) 1)) hi la ce) := X
                    exact hE (v := ()) () rfl trivial (X.to (by rw [show mStep (Mt 2) n (Mt 20) = mStp (Mt 2) n (Mt 20) s1 from by rw [mStep, if_neg (by omega), hes], mStp, if_neg (by omega), if_neg (show ¬ (97 ≤ Mt 2 s1 ∧ Mt 2 s1 ≤ 122) from fun q => by have hz := hNA; rw [decide_eq_true q.1, decide_eq_true q.2] at hz; exact absurd hz (by decide)), if_neg (show ¬ (48 ≤ Mt 2 s1 ∧ Mt 2 s1 ≤ 57) from fun q => by have hz := hND; rw [decide_eq_true q.1, decide_eq_true q.2] at hz; exact absurd hz (by decide)), if_neg (by omega)] <;> rfl)) dX7_step_269
                · have hYD := c12
                  have J140 : ∀ (fz : Nat) (s3 va : Nat), n - s3 < fz → ∀ (hs3 : s3 ≤ n) (hs3a : s1 ≤ s3) (hva : va = vl (Mt 2) s1 (min s3 (s1 + 2))) (hdg : eor (Mt 2) n 48 57 s1 = eor (Mt 2) n 48 57 s3) (H : Heap) (locs : List Loc) (ls : Array Slot), Hx D zA zs H locs (mW tk h (u2 (u2 (u2 Mt 20 7 s3) 20 8 s1) 20 10 va) hi la ce) → lv_has ls 2 [(0, .ref (h 0))] → W zp l ze ⟨1, 0, 0, 25⟩ zs zm za zb zt zc H locs 0 0 zQ (F0 zm 140 ls []) := by
                    intro fz
                    induction fz with
                    | zero => intro s3 va hz; exact absurd hz (Nat.not_lt_zero _)
                    | succ fz ih140 =>
                      intro s3 va hz140 hs3 hs3a hva hdg H locs ls X hl
                      refine lv_aload_n hx hb dX7_step_140 rfl (lv_at hl 0 rfl) ?_
                      have h8 : s3 < n → Mt 2 (s3) < 128 := ht8 (s3)
                      refine lv_aload_n hx hb dX7_step_141 rfl (lv_at hl 0 rfl) ?_
                      refine g_get (v := .int (nI s3)) C0 X kX7 0 11 tb808 rfl rfl rfl dX7_step_142 ?_
                      by_cases c15 : s3 < n
                      · refine g_callV (As := [.int (nI s3)]) (rest := []) (wr := []) (C0.sz hl) X (c_byT l D tk h (u2 (u2 (u2 Mt 20 7 s3) 20 8 s1) 20 10 va) hi la ce s3 (by first | omega | (show s3 < Mt 20 3; omega) | (show Mt 20 3 ≤ s3; omega) | (show Mt 20 3 ≤ 160; omega)) (by first | omega | (show s3 < Mt 20 3; omega) | (show Mt 20 3 ≤ s3; omega) | (show Mt 20 3 ≤ 160; omega))) ⟨tb900, tb903, tb8, ⟨by decide, by decide, rfl⟩, rfl, rfl, Nat.le_of_ble_eq_true rfl, Nat.le_of_ble_eq_true rfl⟩ tb902 tbs22 0 7 rfl rfl rfl rfl [0, 1, 2, 3, 4, 5, 6, 7, 8, 9, 10, 11, 12, 13] [] rfl rfl rfl rfl rfl (Nat.le_of_ble_eq_true rfl) ⟨Nat.le_of_ble_eq_true rfl, Nat.le_of_ble_eq_true rfl⟩ dX7_step_145 (fun _ H locs _ X => ?_)
                        have X : Hx D zA zs H locs (mW tk h (u2 (u2 (u2 Mt 20 7 s3) 20 8 s1) 20 10 va) hi la ce) := X
                        refine g_i2l C0 (by show Mt 2 s3 < 2 ^ 31; omega) dX7_step_148 ?_
                        refine lv_ldc2 (v := lN 48) hx hb C0.2.2.2.1 (ht _ tb906) dX7_step_149 ?_
                        refine lv_ldc2 (v := lN 57) hx hb C0.2.2.2.1 (ht _ tb907) dX7_step_152 ?_
                        refine g_callS (As := [.long (lN (Mt 2 s3)), .long (lN 48), .long (lN 57)]) (rest := []) (wr := (mW tk h (u2 (u2 (u2 Mt 20 7 s3) 20 8 s1) 20 10 va) hi la ce)) (C0.sz hl) X (c_X7_in l D tk (lN (Mt 2 s3)) (lN 48) (lN 57)) ⟨tb885, tb887, tb8, ⟨by decide, by decide, rfl⟩, rfl, rfl, Nat.le_of_ble_eq_true rfl, Nat.le_of_ble_eq_true rfl⟩ tb886 rfl [] [0, 1, 2, 3, 4, 5, 6, 7, 8, 9, 10, 11, 12, 13] rfl rfl rfl rfl rfl (Nat.le_of_ble_eq_true rfl) ⟨Nat.le_of_ble_eq_true rfl, Nat.le_of_ble_eq_true rfl⟩ dX7_step_155 (fun _ H locs _ X => ?_)
                        have X : Hx D zA zs H locs (mW tk h (u2 (u2 (u2 Mt 20 7 s3) 20 8 s1) 20 10 va) hi la ce) := X
                        refine g_top (y := nI (rb (decide (48 ≤ Mt 2 s3) && decide (Mt 2 s3 ≤ 57)))) (by rw [inL_nn (by omega) (by omega) (by omega)]) ?_
                        refine g_ifeqB (x := (decide (48 ≤ Mt 2 s3) && decide (Mt 2 s3 ≤ 57))) (tgt := 217) C0 dX7_step_158 rfl (fun c16 => ?_) (fun c17 => ?_)
                        · have hde : eor (Mt 2) n 48 57 s1 = s3 := by rw [hdg, eor_n (fun q => by first | omega | (have hz := c16; rw [decide_eq_true q.2.1, decide_eq_true q.2.2] at hz; exact absurd hz (by decide)))]
                          have hX9 : Hx D zA zs H locs (mW tk h (u2 (u2 (u2 Mt 20 7 (eor (Mt 2) n 48 57 s1)) 20 8 s1) 20 10 (vl (Mt 2) s1 (min (eor (Mt 2) n 48 57 s1) (s1 + 2)))) hi la ce) := X.to (by rw [hde, ← hva] <;> rfl)
                          have X := hX9
                          have X : Hx D zA zs H locs (mW tk h (u2 (u2 (u2 Mt 20 7 (eor (Mt 2) n 48 57 s1)) 20 8 s1) 20 10 (vl (Mt 2) s1 (min (eor (Mt 2) n 48 57 s1) (s1 + 2)))) hi la ce) := X
                          refine lv_aload_n hx hb dX7_step_217 rfl (lv_at hl 0 rfl) ?_
                          refine g_iconst (n := 2) C0 rfl dX7_step_218 ?_
                          refine g_put (v := .int (nI 2)) (ft := .int) C0 X kX7 0 13 tb810 rfl rfl rfl rfl rfl rfl rfl dX7_step_219 (fun H locs X => ?_)
                          have X : Hx D zA zs H locs (mW tk h (u2 (u2 (u2 (u2 Mt 20 7 (eor (Mt 2) n 48 57 s1)) 20 8 s1) 20 10 (vl (Mt 2) s1 (min (eor (Mt 2) n 48 57 s1) (s1 + 2)))) 20 9 2) hi la ce) := X
                          refine lv_aload_n hx hb dX7_step_222 rfl (lv_at hl 0 rfl) ?_
                          refine g_get (v := .int (nI (eor (Mt 2) n 48 57 s1))) C0 X kX7 0 11 tb808 rfl rfl rfl dX7_step_223 ?_
                          refine lv_aload_n hx hb dX7_step_226 rfl (lv_at hl 0 rfl) ?_
                          refine g_get (v := .int (nI s1)) C0 X kX7 0 12 tb809 rfl rfl rfl dX7_step_227 ?_
                          refine g_isub (n := (eor (Mt 2) n 48 57 s1) - s1) C0 (by omega) rfl dX7_step_230 ?_
                          refine g_iconst (n := 2) C0 rfl dX7_step_231 ?_
                          refine g_icmp_le (x := (eor (Mt 2) n 48 57 s1) - s1) (y := 2) (tgt := 269) C0 (by omega) (by omega) dX7_step_232 rfl (fun c18 => ?_) (fun c19 => ?_)
                          · exact hE (v := ()) () rfl trivial (X.to (by rw [show mStep (Mt 2) n (Mt 20) = mStp (Mt 2) n (Mt 20) s1 from by rw [mStep, if_neg (by omega), hes], mStp, if_neg (by omega), if_neg (show ¬ (97 ≤ Mt 2 s1 ∧ Mt 2 s1 ≤ 122) from fun q => by have hz := hNA; rw [decide_eq_true q.1, decide_eq_true q.2] at hz; exact absurd hz (by decide)), if_pos (show 48 ≤ Mt 2 s1 ∧ Mt 2 s1 ≤ 57 from ⟨of_decide_eq_true (Bool.and_eq_true_iff.mp hYD).1, of_decide_eq_true (Bool.and_eq_true_iff.mp hYD).2⟩), if_neg (by omega)] <;> rfl)) dX7_step_269
                          · refine lv_aload_n hx hb dX7_step_235 rfl (lv_at hl 0 rfl) ?_
                            refine g_iconst (n := 1) C0 rfl dX7_step_236 ?_
                            refine g_callV (As := [.int (nI 1)]) (rest := []) (wr := []) (C0.sz hl) X (c_X7_fails l D tk h (u2 (u2 (u2 (u2 Mt 20 7 (eor (Mt 2) n 48 57 s1)) 20 8 s1) 20 10 (vl (Mt 2) s1 (min (eor (Mt 2) n 48 57 s1) (s1 + 2)))) 20 9 2) hi la ce 1 (by show Mt 20 5 ≤ 6; omega)) ⟨tb908, tb911, tb8, ⟨by decide, by decide, rfl⟩, rfl, rfl, Nat.le_of_ble_eq_true rfl, Nat.le_of_ble_eq_true rfl⟩ tb910 tbs23 0 7 rfl rfl rfl rfl [0, 1, 2, 3, 4, 5, 6, 7, 8, 9, 10, 11, 12, 13] [] rfl rfl rfl rfl rfl (Nat.le_of_ble_eq_true rfl) ⟨Nat.le_of_ble_eq_true rfl, Nat.le_of_ble_eq_true rfl⟩ dX7_step_237 (fun _ H locs _ X => ?_)
                            have X : Hx D zA zs H locs (mW tk h (u3 Mt 20 (mFail ((u2 (u2 (u2 (u2 Mt 20 7 (eor (Mt 2) n 48 57 s1)) 20 8 s1) 20 10 (vl (Mt 2) s1 (min (eor (Mt 2) n 48 57 s1) (s1 + 2)))) 20 9 2) 20) 1)) hi la ce) := X
                            refine lv_goto (tgt := 269) hx hb dX7_step_240 (by decide) ?_
                            exact hE (v := ()) () rfl trivial (X.to (by rw [show mStep (Mt 2) n (Mt 20) = mStp (Mt 2) n (Mt 20) s1 from by rw [mStep, if_neg (by omega), hes], mStp, if_neg (by omega), if_neg (show ¬ (97 ≤ Mt 2 s1 ∧ Mt 2 s1 ≤ 122) from fun q => by have hz := hNA; rw [decide_eq_true q.1, decide_eq_true q.2] at hz; exact absurd hz (by decide)), if_pos (show 48 ≤ Mt 2 s1 ∧ Mt 2 s1 ≤ 57 from ⟨of_decide_eq_true (Bool.and_eq_true_iff.mp hYD).1, of_decide_eq_true (Bool.and_eq_true_iff.mp hYD).2⟩), if_pos (by omega)] <;> rfl)) dX7_step_269
                        · refine lv_aload_n hx hb dX7_step_161 rfl (lv_at hl 0 rfl) ?_
                          refine lv_aload_n hx hb dX7_step_162 rfl (lv_at hl 0 rfl) ?_
                          refine g_get (v := .int (nI s3)) C0 X kX7 0 11 tb808 rfl rfl rfl dX7_step_163 ?_
                          refine lv_aload_n hx hb dX7_step_166 rfl (lv_at hl 0 rfl) ?_
                          refine g_get (v := .int (nI s1)) C0 X kX7 0 12 tb809 rfl rfl rfl dX7_step_167 ?_
                          refine g_isub (n := s3 - s1) C0 (by omega) rfl dX7_step_170 ?_
                          refine g_iconst (n := 2) C0 rfl dX7_step_171 ?_
                          refine g_icmp_ge (x := s3 - s1) (y := 2) (tgt := 197) C0 (by omega) (by omega) dX7_step_172 rfl (fun c20 => ?_) (fun c21 => ?_)
                          · refine lv_aload_n hx hb dX7_step_197 rfl (lv_at hl 0 rfl) ?_
                            refine g_get (v := .int (nI va)) C0 X kX7 0 14 tb811 rfl rfl rfl dX7_step_198 ?_
                            refine g_put (v := .int (nI va)) (ft := .int) C0 X kX7 0 14 tb811 rfl rfl rfl rfl rfl rfl rfl dX7_step_201 (fun H locs X => ?_)
                            have X : Hx D zA zs H locs (mW tk h (u2 (u2 (u2 Mt 20 7 s3) 20 8 s1) 20 10 va) hi la ce) := X
                            refine lv_aload_n hx hb dX7_step_204 rfl (lv_at hl 0 rfl) ?_
                            refine lv_dup hx hb dX7_step_205 rfl ?_
                            refine g_get (v := .int (nI s3)) C0 X kX7 0 11 tb808 rfl rfl rfl dX7_step_206 ?_
                            refine g_iconst (n := 1) C0 rfl dX7_step_209 ?_
                            refine g_iadd (n := s3 + 1) C0 (by first | rfl | omega) dX7_step_210 ?_
                            refine g_put (v := .int (nI (s3 + 1))) (ft := .int) C0 X kX7 0 11 tb808 rfl rfl rfl rfl rfl rfl rfl dX7_step_211 (fun H locs X => ?_)
                            have X : Hx D zA zs H locs (mW tk h (u2 (u2 (u2 Mt 20 8 s1) 20 10 va) 20 7 (s3 + 1)) hi la ce) := X
                            refine lv_goto (tgt := 140) hx hb dX7_step_214 (by decide) ?_
                            have hYD := c20
                            exact ih140 (s3 + 1) va (by omega) (by omega) (by omega) (by rw [hva, show min (s3 + 1) (s1 + 2) = min s3 (s1 + 2) by omega]) (by rw [hdg, eor_y (by omega) (of_decide_eq_true (Bool.and_eq_true_iff.mp c17).1) (of_decide_eq_true (Bool.and_eq_true_iff.mp c17).2)]) H locs ls X (lv_sub hl [0] rfl)
                          · refine g_bipush (n := 10) C0 (by decide) dX7_step_175 ?_
                            refine lv_aload_n hx hb dX7_step_177 rfl (lv_at hl 0 rfl) ?_
                            refine g_get (v := .int (nI va)) C0 X kX7 0 14 tb811 rfl rfl rfl dX7_step_178 ?_
                            refine g_imul (n := 10 * va) C0 rfl dX7_step_181 ?_
                            refine lv_aload_n hx hb dX7_step_182 rfl (lv_at hl 0 rfl) ?_
                            refine lv_aload_n hx hb dX7_step_183 rfl (lv_at hl 0 rfl) ?_
                            refine g_get (v := .int (nI s3)) C0 X kX7 0 11 tb808 rfl rfl rfl dX7_step_184 ?_
                            refine g_callV (As := [.int (nI s3)]) (rest := [.int (nI (10 * va)), .ref (h 0)]) (wr := []) (C0.sz hl) X (c_byT l D tk h (u2 (u2 (u2 Mt 20 7 s3) 20 8 s1) 20 10 va) hi la ce s3 (by first | omega | (show s3 < Mt 20 3; omega) | (show Mt 20 3 ≤ s3; omega) | (show Mt 20 3 ≤ 160; omega)) (by first | omega | (show s3 < Mt 20 3; omega) | (show Mt 20 3 ≤ s3; omega) | (show Mt 20 3 ≤ 160; omega))) ⟨tb900, tb903, tb8, ⟨by decide, by decide, rfl⟩, rfl, rfl, Nat.le_of_ble_eq_true rfl, Nat.le_of_ble_eq_true rfl⟩ tb902 tbs22 0 7 rfl rfl rfl rfl [0, 1, 2, 3, 4, 5, 6, 7, 8, 9, 10, 11, 12, 13] [] rfl rfl rfl rfl rfl (Nat.le_of_ble_eq_true rfl) ⟨Nat.le_of_ble_eq_true rfl, Nat.le_of_ble_eq_true rfl⟩ dX7_step_187 (fun _ H locs _ X => ?_)
                            have X : Hx D zA zs H locs (mW tk h (u2 (u2 (u2 Mt 20 7 s3) 20 8 s1) 20 10 va) hi la ce) := X
                            refine g_iadd (n := (10 * va) + (Mt 2 s3)) C0 (by first | rfl | omega) dX7_step_190 ?_
                            refine g_bipush (n := 48) C0 (by decide) dX7_step_191 ?_
                            refine g_isub (n := ((10 * va) + (Mt 2 s3)) - 48) C0 (by have hz := of_decide_eq_true (Bool.and_eq_true_iff.mp c17).1; omega) rfl dX7_step_193 ?_
                            refine lv_goto (tgt := 201) hx hb dX7_step_194 (by decide) ?_
                            refine g_put (v := .int (nI (((10 * va) + (Mt 2 s3)) - 48))) (ft := .int) C0 X kX7 0 14 tb811 rfl rfl rfl rfl rfl rfl rfl dX7_step_201 (fun H locs X => ?_)
                            have X : Hx D zA zs H locs (mW tk h (u2 (u2 (u2 Mt 20 7 s3) 20 8 s1) 20 10 (((10 * va) + (Mt 2 s3)) - 48)) hi la ce) := X
                            refine lv_aload_n hx hb dX7_step_204 rfl (lv_at hl 0 rfl) ?_
                            refine lv_dup hx hb dX7_step_205 rfl ?_
                            refine g_get (v := .int (nI s3)) C0 X kX7 0 11 tb808 rfl rfl rfl dX7_step_206 ?_
                            refine g_iconst (n := 1) C0 rfl dX7_step_209 ?_
                            refine g_iadd (n := s3 + 1) C0 (by first | rfl | omega) dX7_step_210 ?_
                            refine g_put (v := .int (nI (s3 + 1))) (ft := .int) C0 X kX7 0 11 tb808 rfl rfl rfl rfl rfl rfl rfl dX7_step_211 (fun H locs X => ?_)
                            have X : Hx D zA zs H locs (mW tk h (u2 (u2 (u2 Mt 20 8 s1) 20 10 (((10 * va) + (Mt 2 s3)) - 48)) 20 7 (s3 + 1)) hi la ce) := X
                            refine lv_goto (tgt := 140) hx hb dX7_step_214 (by decide) ?_
                            have hYD := c21
                            exact ih140 (s3 + 1) (((10 * va) + (Mt 2 s3)) - 48) (by omega) (by omega) (by omega) (by rw [hva, show min (s3 + 1) (s1 + 2) = s3 + 1 by omega, show min s3 (s1 + 2) = s3 by omega, vl_s (by omega)]) (by rw [hdg, eor_y (by omega) (of_decide_eq_true (Bool.and_eq_true_iff.mp c17).1) (of_decide_eq_true (Bool.and_eq_true_iff.mp c17).2)]) H locs ls X (lv_sub hl [0] rfl)
                      · refine g_callV (As := [.int (nI s3)]) (rest := []) (wr := []) (C0.sz hl) X (c_byF l D tk h (u2 (u2 (u2 Mt 20 7 s3) 20 8 s1) 20 10 va) hi la ce s3 (by first | omega | (show s3 < Mt 20 3; omega) | (show Mt 20 3 ≤ s3; omega) | (show Mt 20 3 ≤ 160; omega)) (by first | omega | (show s3 < Mt 20 3; omega) | (show Mt 20 3 ≤ s3; omega) | (show Mt 20 3 ≤ 160; omega))) ⟨tb900, tb903, tb8, ⟨by decide, by decide, rfl⟩, rfl, rfl, Nat.le_of_ble_eq_true rfl, Nat.le_of_ble_eq_true rfl⟩ tb902 tbs22 0 7 rfl rfl rfl rfl [0, 1, 2, 3, 4, 5, 6, 7, 8, 9, 10, 11, 12, 13] [] rfl rfl rfl rfl rfl (Nat.le_of_ble_eq_true rfl) ⟨Nat.le_of_ble_eq_true rfl, Nat.le_of_ble_eq_true rfl⟩ dX7_step_145 (fun _ H locs _ X => ?_)
                        have X : Hx D zA zs H locs (mW tk h (u2 (u2 (u2 Mt 20 7 s3) 20 8 s1) 20 10 va) hi la ce) := X
                        refine lv_i2l hx hb dX7_step_148 rfl ?_
                        refine lv_ldc2 (v := lN 48) hx hb C0.2.2.2.1 (ht _ tb906) dX7_step_149 ?_
                        refine lv_ldc2 (v := lN 57) hx hb C0.2.2.2.1 (ht _ tb907) dX7_step_152 ?_
                        refine g_callS (As := [.long (Int32.toInt64 (-4)), .long (lN 48), .long (lN 57)]) (rest := []) (wr := (mW tk h (u2 (u2 (u2 Mt 20 7 s3) 20 8 s1) 20 10 va) hi la ce)) (C0.sz hl) X (c_X7_in l D tk (Int32.toInt64 (-4)) (lN 48) (lN 57)) ⟨tb885, tb887, tb8, ⟨by decide, by decide, rfl⟩, rfl, rfl, Nat.le_of_ble_eq_true rfl, Nat.le_of_ble_eq_true rfl⟩ tb886 rfl [] [0, 1, 2, 3, 4, 5, 6, 7, 8, 9, 10, 11, 12, 13] rfl rfl rfl rfl rfl (Nat.le_of_ble_eq_true rfl) ⟨Nat.le_of_ble_eq_true rfl, Nat.le_of_ble_eq_true rfl⟩ dX7_step_155 (fun _ H locs _ X => ?_)
                        have X : Hx D zA zs H locs (mW tk h (u2 (u2 (u2 Mt 20 7 s3) 20 8 s1) 20 10 va) hi la ce) := X
                        refine g_top (y := nI (rb (rg (-4) 48 57))) (by rw [inL_rg (-4) (by first | decide | omega) (by first | decide | omega)]) ?_
                        refine g_top (y := nI (rb false)) (by decide) ?_
                        refine g_ifeqB (x := false) (tgt := 217) C0 dX7_step_158 rfl (fun _ => ?_) (fun q => absurd q (by decide))
                        have hde : eor (Mt 2) n 48 57 s1 = s3 := by rw [hdg, eor_n (fun q => by first | omega | (have hz := c15; rw [decide_eq_true q.2.1, decide_eq_true q.2.2] at hz; exact absurd hz (by decide)))]
                        have hX9 : Hx D zA zs H locs (mW tk h (u2 (u2 (u2 Mt 20 7 (eor (Mt 2) n 48 57 s1)) 20 8 s1) 20 10 (vl (Mt 2) s1 (min (eor (Mt 2) n 48 57 s1) (s1 + 2)))) hi la ce) := X.to (by rw [hde, ← hva] <;> rfl)
                        have X := hX9
                        have X : Hx D zA zs H locs (mW tk h (u2 (u2 (u2 Mt 20 7 (eor (Mt 2) n 48 57 s1)) 20 8 s1) 20 10 (vl (Mt 2) s1 (min (eor (Mt 2) n 48 57 s1) (s1 + 2)))) hi la ce) := X
                        refine lv_aload_n hx hb dX7_step_217 rfl (lv_at hl 0 rfl) ?_
                        refine g_iconst (n := 2) C0 rfl dX7_step_218 ?_
                        refine g_put (v := .int (nI 2)) (ft := .int) C0 X kX7 0 13 tb810 rfl rfl rfl rfl rfl rfl rfl dX7_step_219 (fun H locs X => ?_)
                        have X : Hx D zA zs H locs (mW tk h (u2 (u2 (u2 (u2 Mt 20 7 (eor (Mt 2) n 48 57 s1)) 20 8 s1) 20 10 (vl (Mt 2) s1 (min (eor (Mt 2) n 48 57 s1) (s1 + 2)))) 20 9 2) hi la ce) := X
                        refine lv_aload_n hx hb dX7_step_222 rfl (lv_at hl 0 rfl) ?_
                        refine g_get (v := .int (nI (eor (Mt 2) n 48 57 s1))) C0 X kX7 0 11 tb808 rfl rfl rfl dX7_step_223 ?_
                        refine lv_aload_n hx hb dX7_step_226 rfl (lv_at hl 0 rfl) ?_
                        refine g_get (v := .int (nI s1)) C0 X kX7 0 12 tb809 rfl rfl rfl dX7_step_227 ?_
                        refine g_isub (n := (eor (Mt 2) n 48 57 s1) - s1) C0 (by omega) rfl dX7_step_230 ?_
                        refine g_iconst (n := 2) C0 rfl dX7_step_231 ?_
                        refine g_icmp_le (x := (eor (Mt 2) n 48 57 s1) - s1) (y := 2) (tgt := 269) C0 (by omega) (by omega) dX7_step_232 rfl (fun c24 => ?_) (fun c25 => ?_)
                        · exact hE (v := ()) () rfl trivial (X.to (by rw [show mStep (Mt 2) n (Mt 20) = mStp (Mt 2) n (Mt 20) s1 from by rw [mStep, if_neg (by omega), hes], mStp, if_neg (by omega), if_neg (show ¬ (97 ≤ Mt 2 s1 ∧ Mt 2 s1 ≤ 122) from fun q => by have hz := hNA; rw [decide_eq_true q.1, decide_eq_true q.2] at hz; exact absurd hz (by decide)), if_pos (show 48 ≤ Mt 2 s1 ∧ Mt 2 s1 ≤ 57 from ⟨of_decide_eq_true (Bool.and_eq_true_iff.mp hYD).1, of_decide_eq_true (Bool.and_eq_true_iff.mp hYD).2⟩), if_neg (by omega)] <;> rfl)) dX7_step_269
                        · refine lv_aload_n hx hb dX7_step_235 rfl (lv_at hl 0 rfl) ?_
                          refine g_iconst (n := 1) C0 rfl dX7_step_236 ?_
                          refine g_callV (As := [.int (nI 1)]) (rest := []) (wr := []) (C0.sz hl) X (c_X7_fails l D tk h (u2 (u2 (u2 (u2 Mt 20 7 (eor (Mt 2) n 48 57 s1)) 20 8 s1) 20 10 (vl (Mt 2) s1 (min (eor (Mt 2) n 48 57 s1) (s1 + 2)))) 20 9 2) hi la ce 1 (by show Mt 20 5 ≤ 6; omega)) ⟨tb908, tb911, tb8, ⟨by decide, by decide, rfl⟩, rfl, rfl, Nat.le_of_ble_eq_true rfl, Nat.le_of_ble_eq_true rfl⟩ tb910 tbs23 0 7 rfl rfl rfl rfl [0, 1, 2, 3, 4, 5, 6, 7, 8, 9, 10, 11, 12, 13] [] rfl rfl rfl rfl rfl (Nat.le_of_ble_eq_true rfl) ⟨Nat.le_of_ble_eq_true rfl, Nat.le_of_ble_eq_true rfl⟩ dX7_step_237 (fun _ H locs _ X => ?_)
                          have X : Hx D zA zs H locs (mW tk h (u3 Mt 20 (mFail ((u2 (u2 (u2 (u2 Mt 20 7 (eor (Mt 2) n 48 57 s1)) 20 8 s1) 20 10 (vl (Mt 2) s1 (min (eor (Mt 2) n 48 57 s1) (s1 + 2)))) 20 9 2) 20) 1)) hi la ce) := X
                          refine lv_goto (tgt := 269) hx hb dX7_step_240 (by decide) ?_
                          exact hE (v := ()) () rfl trivial (X.to (by rw [show mStep (Mt 2) n (Mt 20) = mStp (Mt 2) n (Mt 20) s1 from by rw [mStep, if_neg (by omega), hes], mStp, if_neg (by omega), if_neg (show ¬ (97 ≤ Mt 2 s1 ∧ Mt 2 s1 ≤ 122) from fun q => by have hz := hNA; rw [decide_eq_true q.1, decide_eq_true q.2] at hz; exact absurd hz (by decide)), if_pos (show 48 ≤ Mt 2 s1 ∧ Mt 2 s1 ≤ 57 from ⟨of_decide_eq_true (Bool.and_eq_true_iff.mp hYD).1, of_decide_eq_true (Bool.and_eq_true_iff.mp hYD).2⟩), if_pos (by omega)] <;> rfl)) dX7_step_269
                  exact J140 ((n - s1) + 1) s1 0 (Nat.lt_succ_self _) (by omega) (by omega) (by rw [show min s1 (s1 + 2) = s1 by omega, vl_0]) (by rfl) H locs ls X (lv_sub hl [1] rfl)
              · have hYA := c10
                have J84 : ∀ (fz : Nat) (s2 : Nat), n - s2 < fz → ∀ (hs2 : s2 ≤ n) (hs2a : s1 ≤ s2) (hal : eor (Mt 2) n 97 122 s1 = eor (Mt 2) n 97 122 s2) (H : Heap) (locs : List Loc) (ls : Array Slot), Hx D zA zs H locs (mW tk h (u2 (u2 (u2 Mt 20 7 s2) 20 8 s1) 20 10 0) hi la ce) → lv_has ls 2 [(0, .ref (h 0))] → W zp l ze ⟨1, 0, 0, 25⟩ zs zm za zb zt zc H locs 0 0 zQ (F0 zm 84 ls []) := by
                  intro fz
                  induction fz with
                  | zero => intro s2 hz; exact absurd hz (Nat.not_lt_zero _)
                  | succ fz ih84 =>
                    intro s2 hz84 hs2 hs2a hal H locs ls X hl
                    refine lv_aload_n hx hb dX7_step_84 rfl (lv_at hl 0 rfl) ?_
                    have h8 : s2 < n → Mt 2 (s2) < 128 := ht8 (s2)
                    refine lv_aload_n hx hb dX7_step_85 rfl (lv_at hl 0 rfl) ?_
                    refine g_get (v := .int (nI s2)) C0 X kX7 0 11 tb808 rfl rfl rfl dX7_step_86 ?_
                    by_cases c26 : s2 < n
                    · refine g_callV (As := [.int (nI s2)]) (rest := []) (wr := []) (C0.sz hl) X (c_byT l D tk h (u2 (u2 (u2 Mt 20 7 s2) 20 8 s1) 20 10 0) hi la ce s2 (by first | omega | (show s2 < Mt 20 3; omega) | (show Mt 20 3 ≤ s2; omega) | (show Mt 20 3 ≤ 160; omega)) (by first | omega | (show s2 < Mt 20 3; omega) | (show Mt 20 3 ≤ s2; omega) | (show Mt 20 3 ≤ 160; omega))) ⟨tb900, tb903, tb8, ⟨by decide, by decide, rfl⟩, rfl, rfl, Nat.le_of_ble_eq_true rfl, Nat.le_of_ble_eq_true rfl⟩ tb902 tbs22 0 7 rfl rfl rfl rfl [0, 1, 2, 3, 4, 5, 6, 7, 8, 9, 10, 11, 12, 13] [] rfl rfl rfl rfl rfl (Nat.le_of_ble_eq_true rfl) ⟨Nat.le_of_ble_eq_true rfl, Nat.le_of_ble_eq_true rfl⟩ dX7_step_89 (fun _ H locs _ X => ?_)
                      have X : Hx D zA zs H locs (mW tk h (u2 (u2 (u2 Mt 20 7 s2) 20 8 s1) 20 10 0) hi la ce) := X
                      refine g_i2l C0 (by show Mt 2 s2 < 2 ^ 31; omega) dX7_step_92 ?_
                      refine lv_ldc2 (v := lN 97) hx hb C0.2.2.2.1 (ht _ tb904) dX7_step_93 ?_
                      refine lv_ldc2 (v := lN 122) hx hb C0.2.2.2.1 (ht _ tb905) dX7_step_96 ?_
                      refine g_callS (As := [.long (lN (Mt 2 s2)), .long (lN 97), .long (lN 122)]) (rest := []) (wr := (mW tk h (u2 (u2 (u2 Mt 20 7 s2) 20 8 s1) 20 10 0) hi la ce)) (C0.sz hl) X (c_X7_in l D tk (lN (Mt 2 s2)) (lN 97) (lN 122)) ⟨tb885, tb887, tb8, ⟨by decide, by decide, rfl⟩, rfl, rfl, Nat.le_of_ble_eq_true rfl, Nat.le_of_ble_eq_true rfl⟩ tb886 rfl [] [0, 1, 2, 3, 4, 5, 6, 7, 8, 9, 10, 11, 12, 13] rfl rfl rfl rfl rfl (Nat.le_of_ble_eq_true rfl) ⟨Nat.le_of_ble_eq_true rfl, Nat.le_of_ble_eq_true rfl⟩ dX7_step_99 (fun _ H locs _ X => ?_)
                      have X : Hx D zA zs H locs (mW tk h (u2 (u2 (u2 Mt 20 7 s2) 20 8 s1) 20 10 0) hi la ce) := X
                      refine g_top (y := nI (rb (decide (97 ≤ Mt 2 s2) && decide (Mt 2 s2 ≤ 122)))) (by rw [inL_nn (by omega) (by omega) (by omega)]) ?_
                      refine g_ifeqB (x := (decide (97 ≤ Mt 2 s2) && decide (Mt 2 s2 ≤ 122))) (tgt := 118) C0 dX7_step_102 rfl (fun c27 => ?_) (fun c28 => ?_)
                      · have hae : eor (Mt 2) n 97 122 s1 = s2 := by rw [hal, eor_n (fun q => by first | omega | (have hz := c27; rw [decide_eq_true q.2.1, decide_eq_true q.2.2] at hz; exact absurd hz (by decide)))]
                        rw [← hae] at X
                        have X : Hx D zA zs H locs (mW tk h (u2 (u2 (u2 Mt 20 7 (eor (Mt 2) n 97 122 s1)) 20 8 s1) 20 10 0) hi la ce) := X
                        refine lv_aload_n hx hb dX7_step_118 rfl (lv_at hl 0 rfl) ?_
                        refine g_iconst (n := 1) C0 rfl dX7_step_119 ?_
                        refine g_put (v := .int (nI 1)) (ft := .int) C0 X kX7 0 13 tb810 rfl rfl rfl rfl rfl rfl rfl dX7_step_120 (fun H locs X => ?_)
                        have X : Hx D zA zs H locs (mW tk h (u2 (u2 (u2 (u2 Mt 20 7 (eor (Mt 2) n 97 122 s1)) 20 8 s1) 20 10 0) 20 9 1) hi la ce) := X
                        refine lv_goto (tgt := 269) hx hb dX7_step_123 (by decide) ?_
                        exact hE (v := ()) () rfl trivial (X.to (by rw [show mStep (Mt 2) n (Mt 20) = mStp (Mt 2) n (Mt 20) s1 from by rw [mStep, if_neg (by omega), hes], mStp, if_neg (by omega), if_pos (show 97 ≤ Mt 2 s1 ∧ Mt 2 s1 ≤ 122 from ⟨of_decide_eq_true (Bool.and_eq_true_iff.mp hYA).1, of_decide_eq_true (Bool.and_eq_true_iff.mp hYA).2⟩)] <;> rfl)) dX7_step_269
                      · refine lv_aload_n hx hb dX7_step_105 rfl (lv_at hl 0 rfl) ?_
                        refine lv_dup hx hb dX7_step_106 rfl ?_
                        refine g_get (v := .int (nI s2)) C0 X kX7 0 11 tb808 rfl rfl rfl dX7_step_107 ?_
                        refine g_iconst (n := 1) C0 rfl dX7_step_110 ?_
                        refine g_iadd (n := s2 + 1) C0 (by first | rfl | omega) dX7_step_111 ?_
                        refine g_put (v := .int (nI (s2 + 1))) (ft := .int) C0 X kX7 0 11 tb808 rfl rfl rfl rfl rfl rfl rfl dX7_step_112 (fun H locs X => ?_)
                        have X : Hx D zA zs H locs (mW tk h (u2 (u2 (u2 Mt 20 8 s1) 20 10 0) 20 7 (s2 + 1)) hi la ce) := X
                        refine lv_goto (tgt := 84) hx hb dX7_step_115 (by decide) ?_
                        have hYA := c28
                        exact ih84 (s2 + 1) (by omega) (by omega) (by omega) (by rw [hal, eor_y (by omega) (of_decide_eq_true (Bool.and_eq_true_iff.mp c28).1) (of_decide_eq_true (Bool.and_eq_true_iff.mp c28).2)]) H locs ls X (lv_sub hl [0] rfl)
                    · refine g_callV (As := [.int (nI s2)]) (rest := []) (wr := []) (C0.sz hl) X (c_byF l D tk h (u2 (u2 (u2 Mt 20 7 s2) 20 8 s1) 20 10 0) hi la ce s2 (by first | omega | (show s2 < Mt 20 3; omega) | (show Mt 20 3 ≤ s2; omega) | (show Mt 20 3 ≤ 160; omega)) (by first | omega | (show s2 < Mt 20 3; omega) | (show Mt 20 3 ≤ s2; omega) | (show Mt 20 3 ≤ 160; omega))) ⟨tb900, tb903, tb8, ⟨by decide, by decide, rfl⟩, rfl, rfl, Nat.le_of_ble_eq_true rfl, Nat.le_of_ble_eq_true rfl⟩ tb902 tbs22 0 7 rfl rfl rfl rfl [0, 1, 2, 3, 4, 5, 6, 7, 8, 9, 10, 11, 12, 13] [] rfl rfl rfl rfl rfl (Nat.le_of_ble_eq_true rfl) ⟨Nat.le_of_ble_eq_true rfl, Nat.le_of_ble_eq_true rfl⟩ dX7_step_89 (fun _ H locs _ X => ?_)
                      have X : Hx D zA zs H locs (mW tk h (u2 (u2 (u2 Mt 20 7 s2) 20 8 s1) 20 10 0) hi la ce) := X
                      refine lv_i2l hx hb dX7_step_92 rfl ?_
                      refine lv_ldc2 (v := lN 97) hx hb C0.2.2.2.1 (ht _ tb904) dX7_step_93 ?_
                      refine lv_ldc2 (v := lN 122) hx hb C0.2.2.2.1 (ht _ tb905) dX7_step_96 ?_
                      refine g_callS (As := [.long (Int32.toInt64 (-4)), .long (lN 97), .long (lN 122)]) (rest := []) (wr := (mW tk h (u2 (u2 (u2 Mt 20 7 s2) 20 8 s1) 20 10 0) hi la ce)) (C0.sz hl) X (c_X7_in l D tk (Int32.toInt64 (-4)) (lN 97) (lN 122)) ⟨tb885, tb887, tb8, ⟨by decide, by decide, rfl⟩, rfl, rfl, Nat.le_of_ble_eq_true rfl, Nat.le_of_ble_eq_true rfl⟩ tb886 rfl [] [0, 1, 2, 3, 4, 5, 6, 7, 8, 9, 10, 11, 12, 13] rfl rfl rfl rfl rfl (Nat.le_of_ble_eq_true rfl) ⟨Nat.le_of_ble_eq_true rfl, Nat.le_of_ble_eq_true rfl⟩ dX7_step_99 (fun _ H locs _ X => ?_)
                      have X : Hx D zA zs H locs (mW tk h (u2 (u2 (u2 Mt 20 7 s2) 20 8 s1) 20 10 0) hi la ce) := X
                      refine g_top (y := nI (rb (rg (-4) 97 122))) (by rw [inL_rg (-4) (by first | decide | omega) (by first | decide | omega)]) ?_
                      refine g_top (y := nI (rb false)) (by decide) ?_
                      refine g_ifeqB (x := false) (tgt := 118) C0 dX7_step_102 rfl (fun _ => ?_) (fun q => absurd q (by decide))
                      have hae : eor (Mt 2) n 97 122 s1 = s2 := by rw [hal, eor_n (fun q => by first | omega | (have hz := c26; rw [decide_eq_true q.2.1, decide_eq_true q.2.2] at hz; exact absurd hz (by decide)))]
                      rw [← hae] at X
                      have X : Hx D zA zs H locs (mW tk h (u2 (u2 (u2 Mt 20 7 (eor (Mt 2) n 97 122 s1)) 20 8 s1) 20 10 0) hi la ce) := X
                      refine lv_aload_n hx hb dX7_step_118 rfl (lv_at hl 0 rfl) ?_
                      refine g_iconst (n := 1) C0 rfl dX7_step_119 ?_
                      refine g_put (v := .int (nI 1)) (ft := .int) C0 X kX7 0 13 tb810 rfl rfl rfl rfl rfl rfl rfl dX7_step_120 (fun H locs X => ?_)
                      have X : Hx D zA zs H locs (mW tk h (u2 (u2 (u2 (u2 Mt 20 7 (eor (Mt 2) n 97 122 s1)) 20 8 s1) 20 10 0) 20 9 1) hi la ce) := X
                      refine lv_goto (tgt := 269) hx hb dX7_step_123 (by decide) ?_
                      exact hE (v := ()) () rfl trivial (X.to (by rw [show mStep (Mt 2) n (Mt 20) = mStp (Mt 2) n (Mt 20) s1 from by rw [mStep, if_neg (by omega), hes], mStp, if_neg (by omega), if_pos (show 97 ≤ Mt 2 s1 ∧ Mt 2 s1 ≤ 122 from ⟨of_decide_eq_true (Bool.and_eq_true_iff.mp hYA).1, of_decide_eq_true (Bool.and_eq_true_iff.mp hYA).2⟩)] <;> rfl)) dX7_step_269
                exact J84 ((n - s1) + 1) s1 (Nat.lt_succ_self _) (by omega) (by omega) (by rfl) H locs ls X (lv_sub hl [1] rfl)
            · refine g_callV (As := [.int (nI s1)]) (rest := []) (wr := []) (C0.sz hl) X (c_byF l D tk h (u2 (u2 Mt 20 7 s1) 20 8 s1) hi la ce s1 (by first | omega | (show s1 < Mt 20 3; omega) | (show Mt 20 3 ≤ s1; omega) | (show Mt 20 3 ≤ 160; omega)) (by first | omega | (show s1 < Mt 20 3; omega) | (show Mt 20 3 ≤ s1; omega) | (show Mt 20 3 ≤ 160; omega))) ⟨tb900, tb903, tb8, ⟨by decide, by decide, rfl⟩, rfl, rfl, Nat.le_of_ble_eq_true rfl, Nat.le_of_ble_eq_true rfl⟩ tb902 tbs22 0 7 rfl rfl rfl rfl [0, 1, 2, 3, 4, 5, 6, 7, 8, 9, 10, 11, 12, 13] [] rfl rfl rfl rfl rfl (Nat.le_of_ble_eq_true rfl) ⟨Nat.le_of_ble_eq_true rfl, Nat.le_of_ble_eq_true rfl⟩ dX7_step_47 (fun _ H locs _ X => ?_)
              have X : Hx D zA zs H locs (mW tk h (u2 (u2 Mt 20 7 s1) 20 8 s1) hi la ce) := X
              refine lv_istore_n (lv' := [(1, .int (-4)), (0, .ref (h 0))]) hx hb dX7_step_50 rfl hl (by decide) rfl (fun ls hl => ?_)
              refine lv_aload_n hx hb dX7_step_51 rfl (lv_at hl 1 rfl) ?_
              refine g_iconst (n := 0) C0 rfl dX7_step_52 ?_
              refine g_put (v := .int (nI 0)) (ft := .int) C0 X kX7 0 14 tb811 rfl rfl rfl rfl rfl rfl rfl dX7_step_53 (fun H locs X => ?_)
              have X : Hx D zA zs H locs (mW tk h (u2 (u2 (u2 Mt 20 7 s1) 20 8 s1) 20 10 0) hi la ce) := X
              refine lv_iload_n hx hb dX7_step_56 rfl (lv_at hl 0 rfl) ?_
              refine lv_bipush (v := (-4)) hx hb dX7_step_57 (by decide) ?_
              refine lv_icmp_ne (tgt := 70) hx hb dX7_step_59 rfl (fun q => absurd q (by decide)) (fun _ => ?_)
              refine lv_aload_n hx hb dX7_step_62 rfl (lv_at hl 1 rfl) ?_
              refine g_iconst (n := 0) C0 rfl dX7_step_63 ?_
              refine g_put (v := .int (nI 0)) (ft := .int) C0 X kX7 0 13 tb810 rfl rfl rfl rfl rfl rfl rfl dX7_step_64 (fun H locs X => ?_)
              have X : Hx D zA zs H locs (mW tk h (u2 (u2 (u2 (u2 Mt 20 7 s1) 20 8 s1) 20 10 0) 20 9 0) hi la ce) := X
              refine lv_goto (tgt := 269) hx hb dX7_step_67 (by decide) ?_
              exact hE (v := ()) () rfl trivial (X.to (by rw [show mStep (Mt 2) n (Mt 20) = mStp (Mt 2) n (Mt 20) s1 from by rw [mStep, if_neg (by omega), hes], mStp, if_pos (by omega)] <;> rfl)) dX7_step_269
          · refine lv_aload_n hx hb dX7_step_21 rfl (lv_at hl 0 rfl) ?_
            refine lv_dup hx hb dX7_step_22 rfl ?_
            refine g_get (v := .int (nI s1)) C0 X kX7 0 11 tb808 rfl rfl rfl dX7_step_23 ?_
            refine g_iconst (n := 1) C0 rfl dX7_step_26 ?_
            refine g_iadd (n := s1 + 1) C0 (by first | rfl | omega) dX7_step_27 ?_
            refine g_put (v := .int (nI (s1 + 1))) (ft := .int) C0 X kX7 0 11 tb808 rfl rfl rfl rfl rfl rfl rfl dX7_step_28 (fun H locs X => ?_)
            have X : Hx D zA zs H locs (mW tk h (u2 Mt 20 7 (s1 + 1)) hi la ce) := X
            refine lv_goto (tgt := 8) hx hb dX7_step_31 (by decide) ?_
            exact ih8 (s1 + 1) (by omega) (by omega) (by rw [hsp, eor_y (by omega) (by omega) (by omega)]) H locs ls X (lv_sub hl [0] rfl)
        · refine g_callV (As := [.int (nI s1)]) (rest := []) (wr := []) (C0.sz hl) X (c_byF l D tk h (u2 Mt 20 7 s1) hi la ce s1 (by first | omega | (show s1 < Mt 20 3; omega) | (show Mt 20 3 ≤ s1; omega) | (show Mt 20 3 ≤ 160; omega)) (by first | omega | (show s1 < Mt 20 3; omega) | (show Mt 20 3 ≤ s1; omega) | (show Mt 20 3 ≤ 160; omega))) ⟨tb900, tb903, tb8, ⟨by decide, by decide, rfl⟩, rfl, rfl, Nat.le_of_ble_eq_true rfl, Nat.le_of_ble_eq_true rfl⟩ tb902 tbs22 0 7 rfl rfl rfl rfl [0, 1, 2, 3, 4, 5, 6, 7, 8, 9, 10, 11, 12, 13] [] rfl rfl rfl rfl rfl (Nat.le_of_ble_eq_true rfl) ⟨Nat.le_of_ble_eq_true rfl, Nat.le_of_ble_eq_true rfl⟩ dX7_step_13 (fun _ H locs _ X => ?_)
          have X : Hx D zA zs H locs (mW tk h (u2 Mt 20 7 s1) hi la ce) := X
          refine g_bipush (n := 32) C0 (by decide) dX7_step_16 ?_
          refine lv_icmp_ne (tgt := 34) hx hb dX7_step_18 rfl (fun _ => ?_) (fun q => absurd q.symm (nI_nneg (by omega) (by decide)))
          have hes : eor (Mt 2) n 32 32 (Mt 20 7) = s1 := by rw [hsp, eor_n (by omega)]
          refine lv_aload_n hx hb dX7_step_34 rfl (lv_at hl 0 rfl) ?_
          refine lv_aload_n hx hb dX7_step_35 rfl (lv_at hl 0 rfl) ?_
          refine g_get (v := .int (nI s1)) C0 X kX7 0 11 tb808 rfl rfl rfl dX7_step_36 ?_
          refine g_put (v := .int (nI s1)) (ft := .int) C0 X kX7 0 12 tb809 rfl rfl rfl rfl rfl rfl rfl dX7_step_39 (fun H locs X => ?_)
          have X : Hx D zA zs H locs (mW tk h (u2 (u2 Mt 20 7 s1) 20 8 s1) hi la ce) := X
          refine lv_aload_n hx hb dX7_step_42 rfl (lv_at hl 0 rfl) ?_
          refine lv_aload_n hx hb dX7_step_43 rfl (lv_at hl 0 rfl) ?_
          refine g_get (v := .int (nI s1)) C0 X kX7 0 11 tb808 rfl rfl rfl dX7_step_44 ?_
          by_cases c35 : s1 < n
          · refine g_callV (As := [.int (nI s1)]) (rest := []) (wr := []) (C0.sz hl) X (c_byT l D tk h (u2 (u2 Mt 20 7 s1) 20 8 s1) hi la ce s1 (by first | omega | (show s1 < Mt 20 3; omega) | (show Mt 20 3 ≤ s1; omega) | (show Mt 20 3 ≤ 160; omega)) (by first | omega | (show s1 < Mt 20 3; omega) | (show Mt 20 3 ≤ s1; omega) | (show Mt 20 3 ≤ 160; omega))) ⟨tb900, tb903, tb8, ⟨by decide, by decide, rfl⟩, rfl, rfl, Nat.le_of_ble_eq_true rfl, Nat.le_of_ble_eq_true rfl⟩ tb902 tbs22 0 7 rfl rfl rfl rfl [0, 1, 2, 3, 4, 5, 6, 7, 8, 9, 10, 11, 12, 13] [] rfl rfl rfl rfl rfl (Nat.le_of_ble_eq_true rfl) ⟨Nat.le_of_ble_eq_true rfl, Nat.le_of_ble_eq_true rfl⟩ dX7_step_47 (fun _ H locs _ X => ?_)
            have X : Hx D zA zs H locs (mW tk h (u2 (u2 Mt 20 7 s1) 20 8 s1) hi la ce) := X
            refine lv_istore_n (lv' := [(1, .int (nI (Mt 2 s1))), (0, .ref (h 0))]) hx hb dX7_step_50 rfl hl (by decide) rfl (fun ls hl => ?_)
            refine lv_aload_n hx hb dX7_step_51 rfl (lv_at hl 1 rfl) ?_
            refine g_iconst (n := 0) C0 rfl dX7_step_52 ?_
            refine g_put (v := .int (nI 0)) (ft := .int) C0 X kX7 0 14 tb811 rfl rfl rfl rfl rfl rfl rfl dX7_step_53 (fun H locs X => ?_)
            have X : Hx D zA zs H locs (mW tk h (u2 (u2 (u2 Mt 20 7 s1) 20 8 s1) 20 10 0) hi la ce) := X
            refine lv_iload_n hx hb dX7_step_56 rfl (lv_at hl 0 rfl) ?_
            refine lv_bipush (v := (-4)) hx hb dX7_step_57 (by decide) ?_
            refine lv_icmp_ne (tgt := 70) hx hb dX7_step_59 rfl (fun _ => ?_) (fun q => absurd q (nI_nneg (by omega) (by decide)))
            refine lv_iload_n hx hb dX7_step_70 rfl (lv_at hl 0 rfl) ?_
            refine g_i2l C0 (by omega) dX7_step_71 ?_
            refine lv_ldc2 (v := lN 97) hx hb C0.2.2.2.1 (ht _ tb904) dX7_step_72 ?_
            refine lv_ldc2 (v := lN 122) hx hb C0.2.2.2.1 (ht _ tb905) dX7_step_75 ?_
            refine g_callS (As := [.long (lN (Mt 2 s1)), .long (lN 97), .long (lN 122)]) (rest := []) (wr := (mW tk h (u2 (u2 (u2 Mt 20 7 s1) 20 8 s1) 20 10 0) hi la ce)) (C0.sz hl) X (c_X7_in l D tk (lN (Mt 2 s1)) (lN 97) (lN 122)) ⟨tb885, tb887, tb8, ⟨by decide, by decide, rfl⟩, rfl, rfl, Nat.le_of_ble_eq_true rfl, Nat.le_of_ble_eq_true rfl⟩ tb886 rfl [] [0, 1, 2, 3, 4, 5, 6, 7, 8, 9, 10, 11, 12, 13] rfl rfl rfl rfl rfl (Nat.le_of_ble_eq_true rfl) ⟨Nat.le_of_ble_eq_true rfl, Nat.le_of_ble_eq_true rfl⟩ dX7_step_78 (fun _ H locs _ X => ?_)
            have X : Hx D zA zs H locs (mW tk h (u2 (u2 (u2 Mt 20 7 s1) 20 8 s1) 20 10 0) hi la ce) := X
            refine g_top (y := nI (rb (decide (97 ≤ Mt 2 s1) && decide (Mt 2 s1 ≤ 122)))) (by rw [inL_nn (by omega) (by omega) (by omega)]) ?_
            refine g_ifeqB (x := (decide (97 ≤ Mt 2 s1) && decide (Mt 2 s1 ≤ 122))) (tgt := 126) C0 dX7_step_81 rfl (fun c38 => ?_) (fun c39 => ?_)
            · have hNA := c38
              refine lv_iload_n hx hb dX7_step_126 rfl (lv_at hl 0 rfl) ?_
              refine g_i2l C0 (by omega) dX7_step_127 ?_
              refine lv_ldc2 (v := lN 48) hx hb C0.2.2.2.1 (ht _ tb906) dX7_step_128 ?_
              refine lv_ldc2 (v := lN 57) hx hb C0.2.2.2.1 (ht _ tb907) dX7_step_131 ?_
              refine g_callS (As := [.long (lN (Mt 2 s1)), .long (lN 48), .long (lN 57)]) (rest := []) (wr := (mW tk h (u2 (u2 (u2 Mt 20 7 s1) 20 8 s1) 20 10 0) hi la ce)) (C0.sz hl) X (c_X7_in l D tk (lN (Mt 2 s1)) (lN 48) (lN 57)) ⟨tb885, tb887, tb8, ⟨by decide, by decide, rfl⟩, rfl, rfl, Nat.le_of_ble_eq_true rfl, Nat.le_of_ble_eq_true rfl⟩ tb886 rfl [] [0, 1, 2, 3, 4, 5, 6, 7, 8, 9, 10, 11, 12, 13] rfl rfl rfl rfl rfl (Nat.le_of_ble_eq_true rfl) ⟨Nat.le_of_ble_eq_true rfl, Nat.le_of_ble_eq_true rfl⟩ dX7_step_134 (fun _ H locs _ X => ?_)
              have X : Hx D zA zs H locs (mW tk h (u2 (u2 (u2 Mt 20 7 s1) 20 8 s1) 20 10 0) hi la ce) := X
              refine g_top (y := nI (rb (decide (48 ≤ Mt 2 s1) && decide (Mt 2 s1 ≤ 57)))) (by rw [inL_nn (by omega) (by omega) (by omega)]) ?_
              refine g_ifeqB (x := (decide (48 ≤ Mt 2 s1) && decide (Mt 2 s1 ≤ 57))) (tgt := 243) C0 dX7_step_137 rfl (fun c40 => ?_) (fun c41 => ?_)
              · have hND := c40
                refine lv_aload_n hx hb dX7_step_243 rfl (lv_at hl 1 rfl) ?_
                refine g_iconst (n := 3) C0 rfl dX7_step_244 ?_
                refine g_put (v := .int (nI 3)) (ft := .int) C0 X kX7 0 13 tb810 rfl rfl rfl rfl rfl rfl rfl dX7_step_245 (fun H locs X => ?_)
                have X : Hx D zA zs H locs (mW tk h (u2 (u2 (u2 (u2 Mt 20 7 s1) 20 8 s1) 20 10 0) 20 9 3) hi la ce) := X
                refine lv_aload_n hx hb dX7_step_248 rfl (lv_at hl 1 rfl) ?_
                refine lv_dup hx hb dX7_step_249 rfl ?_
                refine g_get (v := .int (nI s1)) C0 X kX7 0 11 tb808 rfl rfl rfl dX7_step_250 ?_
                refine g_iconst (n := 1) C0 rfl dX7_step_253 ?_
                refine g_iadd (n := s1 + 1) C0 (by first | rfl | omega) dX7_step_254 ?_
                refine g_put (v := .int (nI (s1 + 1))) (ft := .int) C0 X kX7 0 11 tb808 rfl rfl rfl rfl rfl rfl rfl dX7_step_255 (fun H locs X => ?_)
                have X : Hx D zA zs H locs (mW tk h (u2 (u2 (u2 (u2 Mt 20 8 s1) 20 10 0) 20 9 3) 20 7 (s1 + 1)) hi la ce) := X
                refine lv_iload_n hx hb dX7_step_258 rfl (lv_at hl 0 rfl) ?_
                refine g_bipush (n := 59) C0 (by decide) dX7_step_259 ?_
                refine g_icmp_eq (x := Mt 2 s1) (y := 59) (tgt := 269) C0 (by omega) (by omega) dX7_step_261 rfl (fun c42 => ?_) (fun c43 => ?_)
                · exact hE (v := ()) () rfl trivial (X.to (by rw [show mStep (Mt 2) n (Mt 20) = mStp (Mt 2) n (Mt 20) s1 from by rw [mStep, if_neg (by omega), hes], mStp, if_neg (by omega), if_neg (show ¬ (97 ≤ Mt 2 s1 ∧ Mt 2 s1 ≤ 122) from fun q => by have hz := hNA; rw [decide_eq_true q.1, decide_eq_true q.2] at hz; exact absurd hz (by decide)), if_neg (show ¬ (48 ≤ Mt 2 s1 ∧ Mt 2 s1 ≤ 57) from fun q => by have hz := hND; rw [decide_eq_true q.1, decide_eq_true q.2] at hz; exact absurd hz (by decide)), if_pos (by omega)] <;> rfl)) dX7_step_269
                · refine lv_aload_n hx hb dX7_step_264 rfl (lv_at hl 1 rfl) ?_
                  refine g_iconst (n := 1) C0 rfl dX7_step_265 ?_
                  refine g_callV (As := [.int (nI 1)]) (rest := []) (wr := []) (C0.sz hl) X (c_X7_fails l D tk h (u2 (u2 (u2 (u2 Mt 20 8 s1) 20 10 0) 20 9 3) 20 7 (s1 + 1)) hi la ce 1 (by show Mt 20 5 ≤ 6; omega)) ⟨tb908, tb911, tb8, ⟨by decide, by decide, rfl⟩, rfl, rfl, Nat.le_of_ble_eq_true rfl, Nat.le_of_ble_eq_true rfl⟩ tb910 tbs23 0 7 rfl rfl rfl rfl [0, 1, 2, 3, 4, 5, 6, 7, 8, 9, 10, 11, 12, 13] [] rfl rfl rfl rfl rfl (Nat.le_of_ble_eq_true rfl) ⟨Nat.le_of_ble_eq_true rfl, Nat.le_of_ble_eq_true rfl⟩ dX7_step_266 (fun _ H locs _ X => ?_)
                  have X : Hx D zA zs H locs (mW tk h (u3 Mt 20 (mFail ((u2 (u2 (u2 (u2 Mt 20 8 s1) 20 10 0) 20 9 3) 20 7 (s1 + 1)) 20) 1)) hi la ce) := X
                  exact hE (v := ()) () rfl trivial (X.to (by rw [show mStep (Mt 2) n (Mt 20) = mStp (Mt 2) n (Mt 20) s1 from by rw [mStep, if_neg (by omega), hes], mStp, if_neg (by omega), if_neg (show ¬ (97 ≤ Mt 2 s1 ∧ Mt 2 s1 ≤ 122) from fun q => by have hz := hNA; rw [decide_eq_true q.1, decide_eq_true q.2] at hz; exact absurd hz (by decide)), if_neg (show ¬ (48 ≤ Mt 2 s1 ∧ Mt 2 s1 ≤ 57) from fun q => by have hz := hND; rw [decide_eq_true q.1, decide_eq_true q.2] at hz; exact absurd hz (by decide)), if_neg (by omega)] <;> rfl)) dX7_step_269
              · have hYD := c41
                have J140 : ∀ (fz : Nat) (s3 va : Nat), n - s3 < fz → ∀ (hs3 : s3 ≤ n) (hs3a : s1 ≤ s3) (hva : va = vl (Mt 2) s1 (min s3 (s1 + 2))) (hdg : eor (Mt 2) n 48 57 s1 = eor (Mt 2) n 48 57 s3) (H : Heap) (locs : List Loc) (ls : Array Slot), Hx D zA zs H locs (mW tk h (u2 (u2 (u2 Mt 20 7 s3) 20 8 s1) 20 10 va) hi la ce) → lv_has ls 2 [(0, .ref (h 0))] → W zp l ze ⟨1, 0, 0, 25⟩ zs zm za zb zt zc H locs 0 0 zQ (F0 zm 140 ls []) := by
                  intro fz
                  induction fz with
                  | zero => intro s3 va hz; exact absurd hz (Nat.not_lt_zero _)
                  | succ fz ih140 =>
                    intro s3 va hz140 hs3 hs3a hva hdg H locs ls X hl
                    refine lv_aload_n hx hb dX7_step_140 rfl (lv_at hl 0 rfl) ?_
                    have h8 : s3 < n → Mt 2 (s3) < 128 := ht8 (s3)
                    refine lv_aload_n hx hb dX7_step_141 rfl (lv_at hl 0 rfl) ?_
                    refine g_get (v := .int (nI s3)) C0 X kX7 0 11 tb808 rfl rfl rfl dX7_step_142 ?_
                    by_cases c44 : s3 < n
                    · refine g_callV (As := [.int (nI s3)]) (rest := []) (wr := []) (C0.sz hl) X (c_byT l D tk h (u2 (u2 (u2 Mt 20 7 s3) 20 8 s1) 20 10 va) hi la ce s3 (by first | omega | (show s3 < Mt 20 3; omega) | (show Mt 20 3 ≤ s3; omega) | (show Mt 20 3 ≤ 160; omega)) (by first | omega | (show s3 < Mt 20 3; omega) | (show Mt 20 3 ≤ s3; omega) | (show Mt 20 3 ≤ 160; omega))) ⟨tb900, tb903, tb8, ⟨by decide, by decide, rfl⟩, rfl, rfl, Nat.le_of_ble_eq_true rfl, Nat.le_of_ble_eq_true rfl⟩ tb902 tbs22 0 7 rfl rfl rfl rfl [0, 1, 2, 3, 4, 5, 6, 7, 8, 9, 10, 11, 12, 13] [] rfl rfl rfl rfl rfl (Nat.le_of_ble_eq_true rfl) ⟨Nat.le_of_ble_eq_true rfl, Nat.le_of_ble_eq_true rfl⟩ dX7_step_145 (fun _ H locs _ X => ?_)
                      have X : Hx D zA zs H locs (mW tk h (u2 (u2 (u2 Mt 20 7 s3) 20 8 s1) 20 10 va) hi la ce) := X
                      refine g_i2l C0 (by show Mt 2 s3 < 2 ^ 31; omega) dX7_step_148 ?_
                      refine lv_ldc2 (v := lN 48) hx hb C0.2.2.2.1 (ht _ tb906) dX7_step_149 ?_
                      refine lv_ldc2 (v := lN 57) hx hb C0.2.2.2.1 (ht _ tb907) dX7_step_152 ?_
                      refine g_callS (As := [.long (lN (Mt 2 s3)), .long (lN 48), .long (lN 57)]) (rest := []) (wr := (mW tk h (u2 (u2 (u2 Mt 20 7 s3) 20 8 s1) 20 10 va) hi la ce)) (C0.sz hl) X (c_X7_in l D tk (lN (Mt 2 s3)) (lN 48) (lN 57)) ⟨tb885, tb887, tb8, ⟨by decide, by decide, rfl⟩, rfl, rfl, Nat.le_of_ble_eq_true rfl, Nat.le_of_ble_eq_true rfl⟩ tb886 rfl [] [0, 1, 2, 3, 4, 5, 6, 7, 8, 9, 10, 11, 12, 13] rfl rfl rfl rfl rfl (Nat.le_of_ble_eq_true rfl) ⟨Nat.le_of_ble_eq_true rfl, Nat.le_of_ble_eq_true rfl⟩ dX7_step_155 (fun _ H locs _ X => ?_)
                      have X : Hx D zA zs H locs (mW tk h (u2 (u2 (u2 Mt 20 7 s3) 20 8 s1) 20 10 va) hi la ce) := X
                      refine g_top (y := nI (rb (decide (48 ≤ Mt 2 s3) && decide (Mt 2 s3 ≤ 57)))) (by rw [inL_nn (by omega) (by omega) (by omega)]) ?_
                      refine g_ifeqB (x := (decide (48 ≤ Mt 2 s3) && decide (Mt 2 s3 ≤ 57))) (tgt := 217) C0 dX7_step_158 rfl (fun c45 => ?_) (fun c46 => ?_)
                      · have hde : eor (Mt 2) n 48 57 s1 = s3 := by rw [hdg, eor_n (fun q => by first | omega | (have hz := c45; rw [decide_eq_true q.2.1, decide_eq_true q.2.2] at hz; exact absurd hz (by decide)))]
                        have hX9 : Hx D zA zs H locs (mW tk h (u2 (u2 (u2 Mt 20 7 (eor (Mt 2) n 48 57 s1)) 20 8 s1) 20 10 (vl (Mt 2) s1 (min (eor (Mt 2) n 48 57 s1) (s1 + 2)))) hi la ce) := X.to (by rw [hde, ← hva] <;> rfl)
                        have X := hX9
                        have X : Hx D zA zs H locs (mW tk h (u2 (u2 (u2 Mt 20 7 (eor (Mt 2) n 48 57 s1)) 20 8 s1) 20 10 (vl (Mt 2) s1 (min (eor (Mt 2) n 48 57 s1) (s1 + 2)))) hi la ce) := X
                        refine lv_aload_n hx hb dX7_step_217 rfl (lv_at hl 0 rfl) ?_
                        refine g_iconst (n := 2) C0 rfl dX7_step_218 ?_
                        refine g_put (v := .int (nI 2)) (ft := .int) C0 X kX7 0 13 tb810 rfl rfl rfl rfl rfl rfl rfl dX7_step_219 (fun H locs X => ?_)
                        have X : Hx D zA zs H locs (mW tk h (u2 (u2 (u2 (u2 Mt 20 7 (eor (Mt 2) n 48 57 s1)) 20 8 s1) 20 10 (vl (Mt 2) s1 (min (eor (Mt 2) n 48 57 s1) (s1 + 2)))) 20 9 2) hi la ce) := X
                        refine lv_aload_n hx hb dX7_step_222 rfl (lv_at hl 0 rfl) ?_
                        refine g_get (v := .int (nI (eor (Mt 2) n 48 57 s1))) C0 X kX7 0 11 tb808 rfl rfl rfl dX7_step_223 ?_
                        refine lv_aload_n hx hb dX7_step_226 rfl (lv_at hl 0 rfl) ?_
                        refine g_get (v := .int (nI s1)) C0 X kX7 0 12 tb809 rfl rfl rfl dX7_step_227 ?_
                        refine g_isub (n := (eor (Mt 2) n 48 57 s1) - s1) C0 (by omega) rfl dX7_step_230 ?_
                        refine g_iconst (n := 2) C0 rfl dX7_step_231 ?_
                        refine g_icmp_le (x := (eor (Mt 2) n 48 57 s1) - s1) (y := 2) (tgt := 269) C0 (by omega) (by omega) dX7_step_232 rfl (fun c47 => ?_) (fun c48 => ?_)
                        · exact hE (v := ()) () rfl trivial (X.to (by rw [show mStep (Mt 2) n (Mt 20) = mStp (Mt 2) n (Mt 20) s1 from by rw [mStep, if_neg (by omega), hes], mStp, if_neg (by omega), if_neg (show ¬ (97 ≤ Mt 2 s1 ∧ Mt 2 s1 ≤ 122) from fun q => by have hz := hNA; rw [decide_eq_true q.1, decide_eq_true q.2] at hz; exact absurd hz (by decide)), if_pos (show 48 ≤ Mt 2 s1 ∧ Mt 2 s1 ≤ 57 from ⟨of_decide_eq_true (Bool.and_eq_true_iff.mp hYD).1, of_decide_eq_true (Bool.and_eq_true_iff.mp hYD).2⟩), if_neg (by omega)] <;> rfl)) dX7_step_269
                        · refine lv_aload_n hx hb dX7_step_235 rfl (lv_at hl 0 rfl) ?_
                          refine g_iconst (n := 1) C0 rfl dX7_step_236 ?_
                          refine g_callV (As := [.int (nI 1)]) (rest := []) (wr := []) (C0.sz hl) X (c_X7_fails l D tk h (u2 (u2 (u2 (u2 Mt 20 7 (eor (Mt 2) n 48 57 s1)) 20 8 s1) 20 10 (vl (Mt 2) s1 (min (eor (Mt 2) n 48 57 s1) (s1 + 2)))) 20 9 2) hi la ce 1 (by show Mt 20 5 ≤ 6; omega)) ⟨tb908, tb911, tb8, ⟨by decide, by decide, rfl⟩, rfl, rfl, Nat.le_of_ble_eq_true rfl, Nat.le_of_ble_eq_true rfl⟩ tb910 tbs23 0 7 rfl rfl rfl rfl [0, 1, 2, 3, 4, 5, 6, 7, 8, 9, 10, 11, 12, 13] [] rfl rfl rfl rfl rfl (Nat.le_of_ble_eq_true rfl) ⟨Nat.le_of_ble_eq_true rfl, Nat.le_of_ble_eq_true rfl⟩ dX7_step_237 (fun _ H locs _ X => ?_)
                          have X : Hx D zA zs H locs (mW tk h (u3 Mt 20 (mFail ((u2 (u2 (u2 (u2 Mt 20 7 (eor (Mt 2) n 48 57 s1)) 20 8 s1) 20 10 (vl (Mt 2) s1 (min (eor (Mt 2) n 48 57 s1) (s1 + 2)))) 20 9 2) 20) 1)) hi la ce) := X
                          refine lv_goto (tgt := 269) hx hb dX7_step_240 (by decide) ?_
                          exact hE (v := ()) () rfl trivial (X.to (by rw [show mStep (Mt 2) n (Mt 20) = mStp (Mt 2) n (Mt 20) s1 from by rw [mStep, if_neg (by omega), hes], mStp, if_neg (by omega), if_neg (show ¬ (97 ≤ Mt 2 s1 ∧ Mt 2 s1 ≤ 122) from fun q => by have hz := hNA; rw [decide_eq_true q.1, decide_eq_true q.2] at hz; exact absurd hz (by decide)), if_pos (show 48 ≤ Mt 2 s1 ∧ Mt 2 s1 ≤ 57 from ⟨of_decide_eq_true (Bool.and_eq_true_iff.mp hYD).1, of_decide_eq_true (Bool.and_eq_true_iff.mp hYD).2⟩), if_pos (by omega)] <;> rfl)) dX7_step_269
                      · refine lv_aload_n hx hb dX7_step_161 rfl (lv_at hl 0 rfl) ?_
                        refine lv_aload_n hx hb dX7_step_162 rfl (lv_at hl 0 rfl) ?_
                        refine g_get (v := .int (nI s3)) C0 X kX7 0 11 tb808 rfl rfl rfl dX7_step_163 ?_
                        refine lv_aload_n hx hb dX7_step_166 rfl (lv_at hl 0 rfl) ?_
                        refine g_get (v := .int (nI s1)) C0 X kX7 0 12 tb809 rfl rfl rfl dX7_step_167 ?_
                        refine g_isub (n := s3 - s1) C0 (by omega) rfl dX7_step_170 ?_
                        refine g_iconst (n := 2) C0 rfl dX7_step_171 ?_
                        refine g_icmp_ge (x := s3 - s1) (y := 2) (tgt := 197) C0 (by omega) (by omega) dX7_step_172 rfl (fun c49 => ?_) (fun c50 => ?_)
                        · refine lv_aload_n hx hb dX7_step_197 rfl (lv_at hl 0 rfl) ?_
                          refine g_get (v := .int (nI va)) C0 X kX7 0 14 tb811 rfl rfl rfl dX7_step_198 ?_
                          refine g_put (v := .int (nI va)) (ft := .int) C0 X kX7 0 14 tb811 rfl rfl rfl rfl rfl rfl rfl dX7_step_201 (fun H locs X => ?_)
                          have X : Hx D zA zs H locs (mW tk h (u2 (u2 (u2 Mt 20 7 s3) 20 8 s1) 20 10 va) hi la ce) := X
                          refine lv_aload_n hx hb dX7_step_204 rfl (lv_at hl 0 rfl) ?_
                          refine lv_dup hx hb dX7_step_205 rfl ?_
                          refine g_get (v := .int (nI s3)) C0 X kX7 0 11 tb808 rfl rfl rfl dX7_step_206 ?_
                          refine g_iconst (n := 1) C0 rfl dX7_step_209 ?_
                          refine g_iadd (n := s3 + 1) C0 (by first | rfl | omega) dX7_step_210 ?_
                          refine g_put (v := .int (nI (s3 + 1))) (ft := .int) C0 X kX7 0 11 tb808 rfl rfl rfl rfl rfl rfl rfl dX7_step_211 (fun H locs X => ?_)
                          have X : Hx D zA zs H locs (mW tk h (u2 (u2 (u2 Mt 20 8 s1) 20 10 va) 20 7 (s3 + 1)) hi la ce) := X
                          refine lv_goto (tgt := 140) hx hb dX7_step_214 (by decide) ?_
                          have hYD := c49
                          exact ih140 (s3 + 1) va (by omega) (by omega) (by omega) (by rw [hva, show min (s3 + 1) (s1 + 2) = min s3 (s1 + 2) by omega]) (by rw [hdg, eor_y (by omega) (of_decide_eq_true (Bool.and_eq_true_iff.mp c46).1) (of_decide_eq_true (Bool.and_eq_true_iff.mp c46).2)]) H locs ls X (lv_sub hl [0] rfl)
                        · refine g_bipush (n := 10) C0 (by decide) dX7_step_175 ?_
                          refine lv_aload_n hx hb dX7_step_177 rfl (lv_at hl 0 rfl) ?_
                          refine g_get (v := .int (nI va)) C0 X kX7 0 14 tb811 rfl rfl rfl dX7_step_178 ?_
                          refine g_imul (n := 10 * va) C0 rfl dX7_step_181 ?_
                          refine lv_aload_n hx hb dX7_step_182 rfl (lv_at hl 0 rfl) ?_
                          refine lv_aload_n hx hb dX7_step_183 rfl (lv_at hl 0 rfl) ?_
                          refine g_get (v := .int (nI s3)) C0 X kX7 0 11 tb808 rfl rfl rfl dX7_step_184 ?_
                          refine g_callV (As := [.int (nI s3)]) (rest := [.int (nI (10 * va)), .ref (h 0)]) (wr := []) (C0.sz hl) X (c_byT l D tk h (u2 (u2 (u2 Mt 20 7 s3) 20 8 s1) 20 10 va) hi la ce s3 (by first | omega | (show s3 < Mt 20 3; omega) | (show Mt 20 3 ≤ s3; omega) | (show Mt 20 3 ≤ 160; omega)) (by first | omega | (show s3 < Mt 20 3; omega) | (show Mt 20 3 ≤ s3; omega) | (show Mt 20 3 ≤ 160; omega))) ⟨tb900, tb903, tb8, ⟨by decide, by decide, rfl⟩, rfl, rfl, Nat.le_of_ble_eq_true rfl, Nat.le_of_ble_eq_true rfl⟩ tb902 tbs22 0 7 rfl rfl rfl rfl [0, 1, 2, 3, 4, 5, 6, 7, 8, 9, 10, 11, 12, 13] [] rfl rfl rfl rfl rfl (Nat.le_of_ble_eq_true rfl) ⟨Nat.le_of_ble_eq_true rfl, Nat.le_of_ble_eq_true rfl⟩ dX7_step_187 (fun _ H locs _ X => ?_)
                          have X : Hx D zA zs H locs (mW tk h (u2 (u2 (u2 Mt 20 7 s3) 20 8 s1) 20 10 va) hi la ce) := X
                          refine g_iadd (n := (10 * va) + (Mt 2 s3)) C0 (by first | rfl | omega) dX7_step_190 ?_
                          refine g_bipush (n := 48) C0 (by decide) dX7_step_191 ?_
                          refine g_isub (n := ((10 * va) + (Mt 2 s3)) - 48) C0 (by have hz := of_decide_eq_true (Bool.and_eq_true_iff.mp c46).1; omega) rfl dX7_step_193 ?_
                          refine lv_goto (tgt := 201) hx hb dX7_step_194 (by decide) ?_
                          refine g_put (v := .int (nI (((10 * va) + (Mt 2 s3)) - 48))) (ft := .int) C0 X kX7 0 14 tb811 rfl rfl rfl rfl rfl rfl rfl dX7_step_201 (fun H locs X => ?_)
                          have X : Hx D zA zs H locs (mW tk h (u2 (u2 (u2 Mt 20 7 s3) 20 8 s1) 20 10 (((10 * va) + (Mt 2 s3)) - 48)) hi la ce) := X
                          refine lv_aload_n hx hb dX7_step_204 rfl (lv_at hl 0 rfl) ?_
                          refine lv_dup hx hb dX7_step_205 rfl ?_
                          refine g_get (v := .int (nI s3)) C0 X kX7 0 11 tb808 rfl rfl rfl dX7_step_206 ?_
                          refine g_iconst (n := 1) C0 rfl dX7_step_209 ?_
                          refine g_iadd (n := s3 + 1) C0 (by first | rfl | omega) dX7_step_210 ?_
                          refine g_put (v := .int (nI (s3 + 1))) (ft := .int) C0 X kX7 0 11 tb808 rfl rfl rfl rfl rfl rfl rfl dX7_step_211 (fun H locs X => ?_)
                          have X : Hx D zA zs H locs (mW tk h (u2 (u2 (u2 Mt 20 8 s1) 20 10 (((10 * va) + (Mt 2 s3)) - 48)) 20 7 (s3 + 1)) hi la ce) := X
                          refine lv_goto (tgt := 140) hx hb dX7_step_214 (by decide) ?_
                          have hYD := c50
                          exact ih140 (s3 + 1) (((10 * va) + (Mt 2 s3)) - 48) (by omega) (by omega) (by omega) (by rw [hva, show min (s3 + 1) (s1 + 2) = s3 + 1 by omega, show min s3 (s1 + 2) = s3 by omega, vl_s (by omega)]) (by rw [hdg, eor_y (by omega) (of_decide_eq_true (Bool.and_eq_true_iff.mp c46).1) (of_decide_eq_true (Bool.and_eq_true_iff.mp c46).2)]) H locs ls X (lv_sub hl [0] rfl)
                    · refine g_callV (As := [.int (nI s3)]) (rest := []) (wr := []) (C0.sz hl) X (c_byF l D tk h (u2 (u2 (u2 Mt 20 7 s3) 20 8 s1) 20 10 va) hi la ce s3 (by first | omega | (show s3 < Mt 20 3; omega) | (show Mt 20 3 ≤ s3; omega) | (show Mt 20 3 ≤ 160; omega)) (by first | omega | (show s3 < Mt 20 3; omega) | (show Mt 20 3 ≤ s3; omega) | (show Mt 20 3 ≤ 160; omega))) ⟨tb900, tb903, tb8, ⟨by decide, by decide, rfl⟩, rfl, rfl, Nat.le_of_ble_eq_true rfl, Nat.le_of_ble_eq_true rfl⟩ tb902 tbs22 0 7 rfl rfl rfl rfl [0, 1, 2, 3, 4, 5, 6, 7, 8, 9, 10, 11, 12, 13] [] rfl rfl rfl rfl rfl (Nat.le_of_ble_eq_true rfl) ⟨Nat.le_of_ble_eq_true rfl, Nat.le_of_ble_eq_true rfl⟩ dX7_step_145 (fun _ H locs _ X => ?_)
                      have X : Hx D zA zs H locs (mW tk h (u2 (u2 (u2 Mt 20 7 s3) 20 8 s1) 20 10 va) hi la ce) := X
                      refine lv_i2l hx hb dX7_step_148 rfl ?_
                      refine lv_ldc2 (v := lN 48) hx hb C0.2.2.2.1 (ht _ tb906) dX7_step_149 ?_
                      refine lv_ldc2 (v := lN 57) hx hb C0.2.2.2.1 (ht _ tb907) dX7_step_152 ?_
                      refine g_callS (As := [.long (Int32.toInt64 (-4)), .long (lN 48), .long (lN 57)]) (rest := []) (wr := (mW tk h (u2 (u2 (u2 Mt 20 7 s3) 20 8 s1) 20 10 va) hi la ce)) (C0.sz hl) X (c_X7_in l D tk (Int32.toInt64 (-4)) (lN 48) (lN 57)) ⟨tb885, tb887, tb8, ⟨by decide, by decide, rfl⟩, rfl, rfl, Nat.le_of_ble_eq_true rfl, Nat.le_of_ble_eq_true rfl⟩ tb886 rfl [] [0, 1, 2, 3, 4, 5, 6, 7, 8, 9, 10, 11, 12, 13] rfl rfl rfl rfl rfl (Nat.le_of_ble_eq_true rfl) ⟨Nat.le_of_ble_eq_true rfl, Nat.le_of_ble_eq_true rfl⟩ dX7_step_155 (fun _ H locs _ X => ?_)
                      have X : Hx D zA zs H locs (mW tk h (u2 (u2 (u2 Mt 20 7 s3) 20 8 s1) 20 10 va) hi la ce) := X
                      refine g_top (y := nI (rb (rg (-4) 48 57))) (by rw [inL_rg (-4) (by first | decide | omega) (by first | decide | omega)]) ?_
                      refine g_top (y := nI (rb false)) (by decide) ?_
                      refine g_ifeqB (x := false) (tgt := 217) C0 dX7_step_158 rfl (fun _ => ?_) (fun q => absurd q (by decide))
                      have hde : eor (Mt 2) n 48 57 s1 = s3 := by rw [hdg, eor_n (fun q => by first | omega | (have hz := c44; rw [decide_eq_true q.2.1, decide_eq_true q.2.2] at hz; exact absurd hz (by decide)))]
                      have hX9 : Hx D zA zs H locs (mW tk h (u2 (u2 (u2 Mt 20 7 (eor (Mt 2) n 48 57 s1)) 20 8 s1) 20 10 (vl (Mt 2) s1 (min (eor (Mt 2) n 48 57 s1) (s1 + 2)))) hi la ce) := X.to (by rw [hde, ← hva] <;> rfl)
                      have X := hX9
                      have X : Hx D zA zs H locs (mW tk h (u2 (u2 (u2 Mt 20 7 (eor (Mt 2) n 48 57 s1)) 20 8 s1) 20 10 (vl (Mt 2) s1 (min (eor (Mt 2) n 48 57 s1) (s1 + 2)))) hi la ce) := X
                      refine lv_aload_n hx hb dX7_step_217 rfl (lv_at hl 0 rfl) ?_
                      refine g_iconst (n := 2) C0 rfl dX7_step_218 ?_
                      refine g_put (v := .int (nI 2)) (ft := .int) C0 X kX7 0 13 tb810 rfl rfl rfl rfl rfl rfl rfl dX7_step_219 (fun H locs X => ?_)
                      have X : Hx D zA zs H locs (mW tk h (u2 (u2 (u2 (u2 Mt 20 7 (eor (Mt 2) n 48 57 s1)) 20 8 s1) 20 10 (vl (Mt 2) s1 (min (eor (Mt 2) n 48 57 s1) (s1 + 2)))) 20 9 2) hi la ce) := X
                      refine lv_aload_n hx hb dX7_step_222 rfl (lv_at hl 0 rfl) ?_
                      refine g_get (v := .int (nI (eor (Mt 2) n 48 57 s1))) C0 X kX7 0 11 tb808 rfl rfl rfl dX7_step_223 ?_
                      refine lv_aload_n hx hb dX7_step_226 rfl (lv_at hl 0 rfl) ?_
                      refine g_get (v := .int (nI s1)) C0 X kX7 0 12 tb809 rfl rfl rfl dX7_step_227 ?_
                      refine g_isub (n := (eor (Mt 2) n 48 57 s1) - s1) C0 (by omega) rfl dX7_step_230 ?_
                      refine g_iconst (n := 2) C0 rfl dX7_step_231 ?_
                      refine g_icmp_le (x := (eor (Mt 2) n 48 57 s1) - s1) (y := 2) (tgt := 269) C0 (by omega) (by omega) dX7_step_232 rfl (fun c53 => ?_) (fun c54 => ?_)
                      · exact hE (v := ()) () rfl trivial (X.to (by rw [show mStep (Mt 2) n (Mt 20) = mStp (Mt 2) n (Mt 20) s1 from by rw [mStep, if_neg (by omega), hes], mStp, if_neg (by omega), if_neg (show ¬ (97 ≤ Mt 2 s1 ∧ Mt 2 s1 ≤ 122) from fun q => by have hz := hNA; rw [decide_eq_true q.1, decide_eq_true q.2] at hz; exact absurd hz (by decide)), if_pos (show 48 ≤ Mt 2 s1 ∧ Mt 2 s1 ≤ 57 from ⟨of_decide_eq_true (Bool.and_eq_true_iff.mp hYD).1, of_decide_eq_true (Bool.and_eq_true_iff.mp hYD).2⟩), if_neg (by omega)] <;> rfl)) dX7_step_269
                      · refine lv_aload_n hx hb dX7_step_235 rfl (lv_at hl 0 rfl) ?_
                        refine g_iconst (n := 1) C0 rfl dX7_step_236 ?_
                        refine g_callV (As := [.int (nI 1)]) (rest := []) (wr := []) (C0.sz hl) X (c_X7_fails l D tk h (u2 (u2 (u2 (u2 Mt 20 7 (eor (Mt 2) n 48 57 s1)) 20 8 s1) 20 10 (vl (Mt 2) s1 (min (eor (Mt 2) n 48 57 s1) (s1 + 2)))) 20 9 2) hi la ce 1 (by show Mt 20 5 ≤ 6; omega)) ⟨tb908, tb911, tb8, ⟨by decide, by decide, rfl⟩, rfl, rfl, Nat.le_of_ble_eq_true rfl, Nat.le_of_ble_eq_true rfl⟩ tb910 tbs23 0 7 rfl rfl rfl rfl [0, 1, 2, 3, 4, 5, 6, 7, 8, 9, 10, 11, 12, 13] [] rfl rfl rfl rfl rfl (Nat.le_of_ble_eq_true rfl) ⟨Nat.le_of_ble_eq_true rfl, Nat.le_of_ble_eq_true rfl⟩ dX7_step_237 (fun _ H locs _ X => ?_)
                        have X : Hx D zA zs H locs (mW tk h (u3 Mt 20 (mFail ((u2 (u2 (u2 (u2 Mt 20 7 (eor (Mt 2) n 48 57 s1)) 20 8 s1) 20 10 (vl (Mt 2) s1 (min (eor (Mt 2) n 48 57 s1) (s1 + 2)))) 20 9 2) 20) 1)) hi la ce) := X
                        refine lv_goto (tgt := 269) hx hb dX7_step_240 (by decide) ?_
                        exact hE (v := ()) () rfl trivial (X.to (by rw [show mStep (Mt 2) n (Mt 20) = mStp (Mt 2) n (Mt 20) s1 from by rw [mStep, if_neg (by omega), hes], mStp, if_neg (by omega), if_neg (show ¬ (97 ≤ Mt 2 s1 ∧ Mt 2 s1 ≤ 122) from fun q => by have hz := hNA; rw [decide_eq_true q.1, decide_eq_true q.2] at hz; exact absurd hz (by decide)), if_pos (show 48 ≤ Mt 2 s1 ∧ Mt 2 s1 ≤ 57 from ⟨of_decide_eq_true (Bool.and_eq_true_iff.mp hYD).1, of_decide_eq_true (Bool.and_eq_true_iff.mp hYD).2⟩), if_pos (by omega)] <;> rfl)) dX7_step_269
                exact J140 ((n - s1) + 1) s1 0 (Nat.lt_succ_self _) (by omega) (by omega) (by rw [show min s1 (s1 + 2) = s1 by omega, vl_0]) (by rfl) H locs ls X (lv_sub hl [1] rfl)
            · have hYA := c39
              have J84 : ∀ (fz : Nat) (s2 : Nat), n - s2 < fz → ∀ (hs2 : s2 ≤ n) (hs2a : s1 ≤ s2) (hal : eor (Mt 2) n 97 122 s1 = eor (Mt 2) n 97 122 s2) (H : Heap) (locs : List Loc) (ls : Array Slot), Hx D zA zs H locs (mW tk h (u2 (u2 (u2 Mt 20 7 s2) 20 8 s1) 20 10 0) hi la ce) → lv_has ls 2 [(0, .ref (h 0))] → W zp l ze ⟨1, 0, 0, 25⟩ zs zm za zb zt zc H locs 0 0 zQ (F0 zm 84 ls []) := by
                intro fz
                induction fz with
                | zero => intro s2 hz; exact absurd hz (Nat.not_lt_zero _)
                | succ fz ih84 =>
                  intro s2 hz84 hs2 hs2a hal H locs ls X hl
                  refine lv_aload_n hx hb dX7_step_84 rfl (lv_at hl 0 rfl) ?_
                  have h8 : s2 < n → Mt 2 (s2) < 128 := ht8 (s2)
                  refine lv_aload_n hx hb dX7_step_85 rfl (lv_at hl 0 rfl) ?_
                  refine g_get (v := .int (nI s2)) C0 X kX7 0 11 tb808 rfl rfl rfl dX7_step_86 ?_
                  by_cases c55 : s2 < n
                  · refine g_callV (As := [.int (nI s2)]) (rest := []) (wr := []) (C0.sz hl) X (c_byT l D tk h (u2 (u2 (u2 Mt 20 7 s2) 20 8 s1) 20 10 0) hi la ce s2 (by first | omega | (show s2 < Mt 20 3; omega) | (show Mt 20 3 ≤ s2; omega) | (show Mt 20 3 ≤ 160; omega)) (by first | omega | (show s2 < Mt 20 3; omega) | (show Mt 20 3 ≤ s2; omega) | (show Mt 20 3 ≤ 160; omega))) ⟨tb900, tb903, tb8, ⟨by decide, by decide, rfl⟩, rfl, rfl, Nat.le_of_ble_eq_true rfl, Nat.le_of_ble_eq_true rfl⟩ tb902 tbs22 0 7 rfl rfl rfl rfl [0, 1, 2, 3, 4, 5, 6, 7, 8, 9, 10, 11, 12, 13] [] rfl rfl rfl rfl rfl (Nat.le_of_ble_eq_true rfl) ⟨Nat.le_of_ble_eq_true rfl, Nat.le_of_ble_eq_true rfl⟩ dX7_step_89 (fun _ H locs _ X => ?_)
                    have X : Hx D zA zs H locs (mW tk h (u2 (u2 (u2 Mt 20 7 s2) 20 8 s1) 20 10 0) hi la ce) := X
                    refine g_i2l C0 (by show Mt 2 s2 < 2 ^ 31; omega) dX7_step_92 ?_
                    refine lv_ldc2 (v := lN 97) hx hb C0.2.2.2.1 (ht _ tb904) dX7_step_93 ?_
                    refine lv_ldc2 (v := lN 122) hx hb C0.2.2.2.1 (ht _ tb905) dX7_step_96 ?_
                    refine g_callS (As := [.long (lN (Mt 2 s2)), .long (lN 97), .long (lN 122)]) (rest := []) (wr := (mW tk h (u2 (u2 (u2 Mt 20 7 s2) 20 8 s1) 20 10 0) hi la ce)) (C0.sz hl) X (c_X7_in l D tk (lN (Mt 2 s2)) (lN 97) (lN 122)) ⟨tb885, tb887, tb8, ⟨by decide, by decide, rfl⟩, rfl, rfl, Nat.le_of_ble_eq_true rfl, Nat.le_of_ble_eq_true rfl⟩ tb886 rfl [] [0, 1, 2, 3, 4, 5, 6, 7, 8, 9, 10, 11, 12, 13] rfl rfl rfl rfl rfl (Nat.le_of_ble_eq_true rfl) ⟨Nat.le_of_ble_eq_true rfl, Nat.le_of_ble_eq_true rfl⟩ dX7_step_99 (fun _ H locs _ X => ?_)
                    have X : Hx D zA zs H locs (mW tk h (u2 (u2 (u2 Mt 20 7 s2) 20 8 s1) 20 10 0) hi la ce) := X
                    refine g_top (y := nI (rb (decide (97 ≤ Mt 2 s2) && decide (Mt 2 s2 ≤ 122)))) (by rw [inL_nn (by omega) (by omega) (by omega)]) ?_
                    refine g_ifeqB (x := (decide (97 ≤ Mt 2 s2) && decide (Mt 2 s2 ≤ 122))) (tgt := 118) C0 dX7_step_102 rfl (fun c56 => ?_) (fun c57 => ?_)
                    · have hae : eor (Mt 2) n 97 122 s1 = s2 := by rw [hal, eor_n (fun q => by first | omega | (have hz := c56; rw [decide_eq_true q.2.1, decide_eq_true q.2.2] at hz; exact absurd hz (by decide)))]
                      rw [← hae] at X
                      have X : Hx D zA zs H locs (mW tk h (u2 (u2 (u2 Mt 20 7 (eor (Mt 2) n 97 122 s1)) 20 8 s1) 20 10 0) hi la ce) := X
                      refine lv_aload_n hx hb dX7_step_118 rfl (lv_at hl 0 rfl) ?_
                      refine g_iconst (n := 1) C0 rfl dX7_step_119 ?_
                      refine g_put (v := .int (nI 1)) (ft := .int) C0 X kX7 0 13 tb810 rfl rfl rfl rfl rfl rfl rfl dX7_step_120 (fun H locs X => ?_)
                      have X : Hx D zA zs H locs (mW tk h (u2 (u2 (u2 (u2 Mt 20 7 (eor (Mt 2) n 97 122 s1)) 20 8 s1) 20 10 0) 20 9 1) hi la ce) := X
                      refine lv_goto (tgt := 269) hx hb dX7_step_123 (by decide) ?_
                      exact hE (v := ()) () rfl trivial (X.to (by rw [show mStep (Mt 2) n (Mt 20) = mStp (Mt 2) n (Mt 20) s1 from by rw [mStep, if_neg (by omega), hes], mStp, if_neg (by omega), if_pos (show 97 ≤ Mt 2 s1 ∧ Mt 2 s1 ≤ 122 from ⟨of_decide_eq_true (Bool.and_eq_true_iff.mp hYA).1, of_decide_eq_true (Bool.and_eq_true_iff.mp hYA).2⟩)] <;> rfl)) dX7_step_269
                    · refine lv_aload_n hx hb dX7_step_105 rfl (lv_at hl 0 rfl) ?_
                      refine lv_dup hx hb dX7_step_106 rfl ?_
                      refine g_get (v := .int (nI s2)) C0 X kX7 0 11 tb808 rfl rfl rfl dX7_step_107 ?_
                      refine g_iconst (n := 1) C0 rfl dX7_step_110 ?_
                      refine g_iadd (n := s2 + 1) C0 (by first | rfl | omega) dX7_step_111 ?_
                      refine g_put (v := .int (nI (s2 + 1))) (ft := .int) C0 X kX7 0 11 tb808 rfl rfl rfl rfl rfl rfl rfl dX7_step_112 (fun H locs X => ?_)
                      have X : Hx D zA zs H locs (mW tk h (u2 (u2 (u2 Mt 20 8 s1) 20 10 0) 20 7 (s2 + 1)) hi la ce) := X
                      refine lv_goto (tgt := 84) hx hb dX7_step_115 (by decide) ?_
                      have hYA := c57
                      exact ih84 (s2 + 1) (by omega) (by omega) (by omega) (by rw [hal, eor_y (by omega) (of_decide_eq_true (Bool.and_eq_true_iff.mp c57).1) (of_decide_eq_true (Bool.and_eq_true_iff.mp c57).2)]) H locs ls X (lv_sub hl [0] rfl)
                  · refine g_callV (As := [.int (nI s2)]) (rest := []) (wr := []) (C0.sz hl) X (c_byF l D tk h (u2 (u2 (u2 Mt 20 7 s2) 20 8 s1) 20 10 0) hi la ce s2 (by first | omega | (show s2 < Mt 20 3; omega) | (show Mt 20 3 ≤ s2; omega) | (show Mt 20 3 ≤ 160; omega)) (by first | omega | (show s2 < Mt 20 3; omega) | (show Mt 20 3 ≤ s2; omega) | (show Mt 20 3 ≤ 160; omega))) ⟨tb900, tb903, tb8, ⟨by decide, by decide, rfl⟩, rfl, rfl, Nat.le_of_ble_eq_true rfl, Nat.le_of_ble_eq_true rfl⟩ tb902 tbs22 0 7 rfl rfl rfl rfl [0, 1, 2, 3, 4, 5, 6, 7, 8, 9, 10, 11, 12, 13] [] rfl rfl rfl rfl rfl (Nat.le_of_ble_eq_true rfl) ⟨Nat.le_of_ble_eq_true rfl, Nat.le_of_ble_eq_true rfl⟩ dX7_step_89 (fun _ H locs _ X => ?_)
                    have X : Hx D zA zs H locs (mW tk h (u2 (u2 (u2 Mt 20 7 s2) 20 8 s1) 20 10 0) hi la ce) := X
                    refine lv_i2l hx hb dX7_step_92 rfl ?_
                    refine lv_ldc2 (v := lN 97) hx hb C0.2.2.2.1 (ht _ tb904) dX7_step_93 ?_
                    refine lv_ldc2 (v := lN 122) hx hb C0.2.2.2.1 (ht _ tb905) dX7_step_96 ?_
                    refine g_callS (As := [.long (Int32.toInt64 (-4)), .long (lN 97), .long (lN 122)]) (rest := []) (wr := (mW tk h (u2 (u2 (u2 Mt 20 7 s2) 20 8 s1) 20 10 0) hi la ce)) (C0.sz hl) X (c_X7_in l D tk (Int32.toInt64 (-4)) (lN 97) (lN 122)) ⟨tb885, tb887, tb8, ⟨by decide, by decide, rfl⟩, rfl, rfl, Nat.le_of_ble_eq_true rfl, Nat.le_of_ble_eq_true rfl⟩ tb886 rfl [] [0, 1, 2, 3, 4, 5, 6, 7, 8, 9, 10, 11, 12, 13] rfl rfl rfl rfl rfl (Nat.le_of_ble_eq_true rfl) ⟨Nat.le_of_ble_eq_true rfl, Nat.le_of_ble_eq_true rfl⟩ dX7_step_99 (fun _ H locs _ X => ?_)
                    have X : Hx D zA zs H locs (mW tk h (u2 (u2 (u2 Mt 20 7 s2) 20 8 s1) 20 10 0) hi la ce) := X
                    refine g_top (y := nI (rb (rg (-4) 97 122))) (by rw [inL_rg (-4) (by first | decide | omega) (by first | decide | omega)]) ?_
                    refine g_top (y := nI (rb false)) (by decide) ?_
                    refine g_ifeqB (x := false) (tgt := 118) C0 dX7_step_102 rfl (fun _ => ?_) (fun q => absurd q (by decide))
                    have hae : eor (Mt 2) n 97 122 s1 = s2 := by rw [hal, eor_n (fun q => by first | omega | (have hz := c55; rw [decide_eq_true q.2.1, decide_eq_true q.2.2] at hz; exact absurd hz (by decide)))]
                    rw [← hae] at X
                    have X : Hx D zA zs H locs (mW tk h (u2 (u2 (u2 Mt 20 7 (eor (Mt 2) n 97 122 s1)) 20 8 s1) 20 10 0) hi la ce) := X
                    refine lv_aload_n hx hb dX7_step_118 rfl (lv_at hl 0 rfl) ?_
                    refine g_iconst (n := 1) C0 rfl dX7_step_119 ?_
                    refine g_put (v := .int (nI 1)) (ft := .int) C0 X kX7 0 13 tb810 rfl rfl rfl rfl rfl rfl rfl dX7_step_120 (fun H locs X => ?_)
                    have X : Hx D zA zs H locs (mW tk h (u2 (u2 (u2 (u2 Mt 20 7 (eor (Mt 2) n 97 122 s1)) 20 8 s1) 20 10 0) 20 9 1) hi la ce) := X
                    refine lv_goto (tgt := 269) hx hb dX7_step_123 (by decide) ?_
                    exact hE (v := ()) () rfl trivial (X.to (by rw [show mStep (Mt 2) n (Mt 20) = mStp (Mt 2) n (Mt 20) s1 from by rw [mStep, if_neg (by omega), hes], mStp, if_neg (by omega), if_pos (show 97 ≤ Mt 2 s1 ∧ Mt 2 s1 ≤ 122 from ⟨of_decide_eq_true (Bool.and_eq_true_iff.mp hYA).1, of_decide_eq_true (Bool.and_eq_true_iff.mp hYA).2⟩)] <;> rfl)) dX7_step_269
              exact J84 ((n - s1) + 1) s1 (Nat.lt_succ_self _) (by omega) (by omega) (by rfl) H locs ls X (lv_sub hl [1] rfl)
          · refine g_callV (As := [.int (nI s1)]) (rest := []) (wr := []) (C0.sz hl) X (c_byF l D tk h (u2 (u2 Mt 20 7 s1) 20 8 s1) hi la ce s1 (by first | omega | (show s1 < Mt 20 3; omega) | (show Mt 20 3 ≤ s1; omega) | (show Mt 20 3 ≤ 160; omega)) (by first | omega | (show s1 < Mt 20 3; omega) | (show Mt 20 3 ≤ s1; omega) | (show Mt 20 3 ≤ 160; omega))) ⟨tb900, tb903, tb8, ⟨by decide, by decide, rfl⟩, rfl, rfl, Nat.le_of_ble_eq_true rfl, Nat.le_of_ble_eq_true rfl⟩ tb902 tbs22 0 7 rfl rfl rfl rfl [0, 1, 2, 3, 4, 5, 6, 7, 8, 9, 10, 11, 12, 13] [] rfl rfl rfl rfl rfl (Nat.le_of_ble_eq_true rfl) ⟨Nat.le_of_ble_eq_true rfl, Nat.le_of_ble_eq_true rfl⟩ dX7_step_47 (fun _ H locs _ X => ?_)
            have X : Hx D zA zs H locs (mW tk h (u2 (u2 Mt 20 7 s1) 20 8 s1) hi la ce) := X
            refine lv_istore_n (lv' := [(1, .int (-4)), (0, .ref (h 0))]) hx hb dX7_step_50 rfl hl (by decide) rfl (fun ls hl => ?_)
            refine lv_aload_n hx hb dX7_step_51 rfl (lv_at hl 1 rfl) ?_
            refine g_iconst (n := 0) C0 rfl dX7_step_52 ?_
            refine g_put (v := .int (nI 0)) (ft := .int) C0 X kX7 0 14 tb811 rfl rfl rfl rfl rfl rfl rfl dX7_step_53 (fun H locs X => ?_)
            have X : Hx D zA zs H locs (mW tk h (u2 (u2 (u2 Mt 20 7 s1) 20 8 s1) 20 10 0) hi la ce) := X
            refine lv_iload_n hx hb dX7_step_56 rfl (lv_at hl 0 rfl) ?_
            refine lv_bipush (v := (-4)) hx hb dX7_step_57 (by decide) ?_
            refine lv_icmp_ne (tgt := 70) hx hb dX7_step_59 rfl (fun q => absurd q (by decide)) (fun _ => ?_)
            refine lv_aload_n hx hb dX7_step_62 rfl (lv_at hl 1 rfl) ?_
            refine g_iconst (n := 0) C0 rfl dX7_step_63 ?_
            refine g_put (v := .int (nI 0)) (ft := .int) C0 X kX7 0 13 tb810 rfl rfl rfl rfl rfl rfl rfl dX7_step_64 (fun H locs X => ?_)
            have X : Hx D zA zs H locs (mW tk h (u2 (u2 (u2 (u2 Mt 20 7 s1) 20 8 s1) 20 10 0) 20 9 0) hi la ce) := X
            refine lv_goto (tgt := 269) hx hb dX7_step_67 (by decide) ?_
            exact hE (v := ()) () rfl trivial (X.to (by rw [show mStep (Mt 2) n (Mt 20) = mStp (Mt 2) n (Mt 20) s1 from by rw [mStep, if_neg (by omega), hes], mStp, if_pos (by omega)] <;> rfl)) dX7_step_269
    exact J8 ((n - (Mt 20 7)) + 1) (Mt 20 7) (Nat.lt_succ_self _) (by omega) (by rfl) H locs ls X (lv_sub hl [0] rfl)
  · exact hE (v := ()) () rfl trivial (X.to (by rw [show mStep (Mt 2) n (Mt 20) = Mt 20 from if_pos (by omega)] <;> rfl)) dX7_step_7
