set_option maxHeartbeats 4000000 in
set_option maxRecDepth 100000 in
theorem c_X2_readLine (l : Launch) (D : va_G) (tk : Nat → ClassId) (sK sV : Nat → Nat) (a ta tb : Nat) (hD : Nat → Nat) (K : Nat → Nat → Nat) (wt : Bool) (n : Nat) (t : Nat → Nat) (G : Nat → Nat → Nat) (d e : Nat → Nat) (hn : n ≤ 160) (ht8 : ∀ j, j < n → t j < 128) (hI : RI t n (K 0)) (hd9 : DI G) (hf0 : K 0 0 = 0) : MS l yX2_readLine cX2_readLine 1 none ⟨5, 0, 0, 108⟩ D (TYS tk) sK sV [.ref a] (rV a ta hD K wt ++ tW tk ta tb n t ++ gW tk hD G d e) (fun (_ : Unit) => True) (fun _ => none) (fun _ => rV a ta hD (u3 K 0 (cLineR t n (K 0) wt G)) (cLineW t (K 0) wt) ++ tW tk ta tb n t ++ gW tk hD (cLineG t n (K 0) wt G) d e) 0 0 := by
  refine MS.of_v (by decide) rfl ?_
  intro zp ze zs zm za zb zt zc zA zQ ls C0 hnm S0 X hl hE
  have hx := C0.1
  have hb := C0.2.1
  have ht := C0.2.2.2.2.1
  have X : Hx D zA zs zs.heap [] (rV a ta hD K wt ++ tW tk ta tb n t ++ gW tk hD G d e) := X
  have hl : lv_has ls 1 [(0, .ref a)] := hl
  obtain ⟨hi1, hi2, hi3, hi4, hi5, hi6, hi7⟩ := id hI
  obtain ⟨hd1, hd2, hd3⟩ := id hd9
  have hts := hi6 hf0
  obtain ⟨H, hH⟩ : ∃ H, H = zs.heap := ⟨_, rfl⟩
  rw [← hH] at X ⊢
  obtain ⟨locs, hlo⟩ : ∃ L : List Loc, L = [] := ⟨_, rfl⟩
  rw [← hlo] at X ⊢
  refine lv_aload_n hx hb dX2_readLine_0 rfl (lv_at hl 0 rfl) ?_
  refine g_get (v := .int (nI (K 0 2))) C0 X kX2 0 4 tb140 rfl rfl rfl dX2_readLine_1 ?_
  refine g_ifeq (x := K 0 2) (tgt := 15) C0 (by omega) dX2_readLine_4 rfl (fun c1 => ?_) (fun c2 => ?_)
  · refine lv_aload_n hx hb dX2_readLine_15 rfl (lv_at hl 0 rfl) ?_
    refine g_ldcS C0 S0 (i := 0) (by decide) rfl dX2_readLine_16 ?_
    refine g_callVs (As := [.ref (sK 0)]) (rest := []) (wr := (gW tk hD G d e)) (C0.sz hl) S0 X (c_X2_isNamed l D tk sK sV a ta tb hD K wt n t 0 (by exact hn) (by exact ht8) (by exact hI) (by first | assumption | decide | omega) (by first | assumption | decide | omega)) ⟨tb280, tb283, tb4, ⟨by decide, by decide, rfl⟩, rfl, rfl, Nat.le_of_ble_eq_true rfl, Nat.le_of_ble_eq_true rfl⟩ tb282 tbs5 0 2 rfl rfl rfl rfl [0, 1, 2] [3, 4, 5, 6, 7, 8, 9, 10, 11, 12] rfl rfl rfl rfl rfl (Nat.le_of_ble_eq_true rfl) ⟨Nat.le_of_ble_eq_true rfl, Nat.le_of_ble_eq_true rfl⟩ dX2_readLine_18 (fun _ H locs _ X => ?_)
    have X : Hx D zA zs H locs (gW tk hD G d e ++ rV a ta hD K wt ++ tW tk ta tb n t) := X
    have X : Hx D zA zs H locs (rV a ta hD K wt ++ tW tk ta tb n t ++ gW tk hD G d e) := X.sub [10, 11, 12, 0, 1, 2, 3, 4, 5, 6, 7, 8, 9] rfl rfl
    refine g_ifeqB (x := isN t (K 0 3) (K 0 4) (strW.getD 0 [])) (tgt := 32) C0 dX2_readLine_21 rfl (fun c3 => ?_) (fun c4 => ?_)
    · refine lv_aload_n hx hb dX2_readLine_32 rfl (lv_at hl 0 rfl) ?_
      refine g_ldcS C0 S0 (i := 1) (by decide) rfl dX2_readLine_33 ?_
      refine g_callVs (As := [.ref (sK 1)]) (rest := []) (wr := (gW tk hD G d e)) (C0.sz hl) S0 X (c_X2_isNamed l D tk sK sV a ta tb hD K wt n t 1 (by exact hn) (by exact ht8) (by exact hI) (by first | assumption | decide | omega) (by first | assumption | decide | omega)) ⟨tb280, tb283, tb4, ⟨by decide, by decide, rfl⟩, rfl, rfl, Nat.le_of_ble_eq_true rfl, Nat.le_of_ble_eq_true rfl⟩ tb282 tbs5 0 2 rfl rfl rfl rfl [0, 1, 2] [3, 4, 5, 6, 7, 8, 9, 10, 11, 12] rfl rfl rfl rfl rfl (Nat.le_of_ble_eq_true rfl) ⟨Nat.le_of_ble_eq_true rfl, Nat.le_of_ble_eq_true rfl⟩ dX2_readLine_35 (fun _ H locs _ X => ?_)
      have X : Hx D zA zs H locs (gW tk hD G d e ++ rV a ta hD K wt ++ tW tk ta tb n t) := X
      have X : Hx D zA zs H locs (rV a ta hD K wt ++ tW tk ta tb n t ++ gW tk hD G d e) := X.sub [10, 11, 12, 0, 1, 2, 3, 4, 5, 6, 7, 8, 9] rfl rfl
      refine g_ifeqB (x := isN t (K 0 3) (K 0 4) (strW.getD 1 [])) (tgt := 49) C0 dX2_readLine_38 rfl (fun c5 => ?_) (fun c6 => ?_)
      · refine lv_aload_n hx hb dX2_readLine_49 rfl (lv_at hl 0 rfl) ?_
        refine g_ldcS C0 S0 (i := 2) (by decide) rfl dX2_readLine_50 ?_
        refine g_callVs (As := [.ref (sK 2)]) (rest := []) (wr := (gW tk hD G d e)) (C0.sz hl) S0 X (c_X2_isNamed l D tk sK sV a ta tb hD K wt n t 2 (by exact hn) (by exact ht8) (by exact hI) (by first | assumption | decide | omega) (by first | assumption | decide | omega)) ⟨tb280, tb283, tb4, ⟨by decide, by decide, rfl⟩, rfl, rfl, Nat.le_of_ble_eq_true rfl, Nat.le_of_ble_eq_true rfl⟩ tb282 tbs5 0 2 rfl rfl rfl rfl [0, 1, 2] [3, 4, 5, 6, 7, 8, 9, 10, 11, 12] rfl rfl rfl rfl rfl (Nat.le_of_ble_eq_true rfl) ⟨Nat.le_of_ble_eq_true rfl, Nat.le_of_ble_eq_true rfl⟩ dX2_readLine_52 (fun _ H locs _ X => ?_)
        have X : Hx D zA zs H locs (gW tk hD G d e ++ rV a ta hD K wt ++ tW tk ta tb n t) := X
        have X : Hx D zA zs H locs (rV a ta hD K wt ++ tW tk ta tb n t ++ gW tk hD G d e) := X.sub [10, 11, 12, 0, 1, 2, 3, 4, 5, 6, 7, 8, 9] rfl rfl
        refine g_ifeqB (x := isN t (K 0 3) (K 0 4) (strW.getD 2 [])) (tgt := 66) C0 dX2_readLine_55 rfl (fun c7 => ?_) (fun c8 => ?_)
        · refine lv_aload_n hx hb dX2_readLine_66 rfl (lv_at hl 0 rfl) ?_
          refine g_ldcS C0 S0 (i := 3) (by decide) rfl dX2_readLine_67 ?_
          refine g_callVs (As := [.ref (sK 3)]) (rest := []) (wr := (gW tk hD G d e)) (C0.sz hl) S0 X (c_X2_isNamed l D tk sK sV a ta tb hD K wt n t 3 (by exact hn) (by exact ht8) (by exact hI) (by first | assumption | decide | omega) (by first | assumption | decide | omega)) ⟨tb280, tb283, tb4, ⟨by decide, by decide, rfl⟩, rfl, rfl, Nat.le_of_ble_eq_true rfl, Nat.le_of_ble_eq_true rfl⟩ tb282 tbs5 0 2 rfl rfl rfl rfl [0, 1, 2] [3, 4, 5, 6, 7, 8, 9, 10, 11, 12] rfl rfl rfl rfl rfl (Nat.le_of_ble_eq_true rfl) ⟨Nat.le_of_ble_eq_true rfl, Nat.le_of_ble_eq_true rfl⟩ dX2_readLine_69 (fun _ H locs _ X => ?_)
          have X : Hx D zA zs H locs (gW tk hD G d e ++ rV a ta hD K wt ++ tW tk ta tb n t) := X
          have X : Hx D zA zs H locs (rV a ta hD K wt ++ tW tk ta tb n t ++ gW tk hD G d e) := X.sub [10, 11, 12, 0, 1, 2, 3, 4, 5, 6, 7, 8, 9] rfl rfl
          refine g_ifeqB (x := isN t (K 0 3) (K 0 4) (strW.getD 3 [])) (tgt := 83) C0 dX2_readLine_72 rfl (fun c9 => ?_) (fun c10 => ?_)
          · refine lv_aload_n hx hb dX2_readLine_83 rfl (lv_at hl 0 rfl) ?_
            refine g_ldcS C0 S0 (i := 4) (by decide) rfl dX2_readLine_84 ?_
            refine g_callVs (As := [.ref (sK 4)]) (rest := []) (wr := (gW tk hD G d e)) (C0.sz hl) S0 X (c_X2_isNamed l D tk sK sV a ta tb hD K wt n t 4 (by exact hn) (by exact ht8) (by exact hI) (by first | assumption | decide | omega) (by first | assumption | decide | omega)) ⟨tb280, tb283, tb4, ⟨by decide, by decide, rfl⟩, rfl, rfl, Nat.le_of_ble_eq_true rfl, Nat.le_of_ble_eq_true rfl⟩ tb282 tbs5 0 2 rfl rfl rfl rfl [0, 1, 2] [3, 4, 5, 6, 7, 8, 9, 10, 11, 12] rfl rfl rfl rfl rfl (Nat.le_of_ble_eq_true rfl) ⟨Nat.le_of_ble_eq_true rfl, Nat.le_of_ble_eq_true rfl⟩ dX2_readLine_86 (fun _ H locs _ X => ?_)
            have X : Hx D zA zs H locs (gW tk hD G d e ++ rV a ta hD K wt ++ tW tk ta tb n t) := X
            have X : Hx D zA zs H locs (rV a ta hD K wt ++ tW tk ta tb n t ++ gW tk hD G d e) := X.sub [10, 11, 12, 0, 1, 2, 3, 4, 5, 6, 7, 8, 9] rfl rfl
            refine g_ifeqB (x := isN t (K 0 3) (K 0 4) (strW.getD 4 [])) (tgt := 99) C0 dX2_readLine_89 rfl (fun c11 => ?_) (fun c12 => ?_)
            · refine lv_aload_n hx hb dX2_readLine_99 rfl (lv_at hl 0 rfl) ?_
              refine g_ldcS C0 S0 (i := 5) (by decide) rfl dX2_readLine_100 ?_
              refine g_callVs (As := [.ref (sK 5)]) (rest := []) (wr := (gW tk hD G d e)) (C0.sz hl) S0 X (c_X2_isNamed l D tk sK sV a ta tb hD K wt n t 5 (by exact hn) (by exact ht8) (by exact hI) (by first | assumption | decide | omega) (by first | assumption | decide | omega)) ⟨tb280, tb283, tb4, ⟨by decide, by decide, rfl⟩, rfl, rfl, Nat.le_of_ble_eq_true rfl, Nat.le_of_ble_eq_true rfl⟩ tb282 tbs5 0 2 rfl rfl rfl rfl [0, 1, 2] [3, 4, 5, 6, 7, 8, 9, 10, 11, 12] rfl rfl rfl rfl rfl (Nat.le_of_ble_eq_true rfl) ⟨Nat.le_of_ble_eq_true rfl, Nat.le_of_ble_eq_true rfl⟩ dX2_readLine_102 (fun _ H locs _ X => ?_)
              have X : Hx D zA zs H locs (gW tk hD G d e ++ rV a ta hD K wt ++ tW tk ta tb n t) := X
              have X : Hx D zA zs H locs (rV a ta hD K wt ++ tW tk ta tb n t ++ gW tk hD G d e) := X.sub [10, 11, 12, 0, 1, 2, 3, 4, 5, 6, 7, 8, 9] rfl rfl
              refine g_ifeqB (x := isN t (K 0 3) (K 0 4) (strW.getD 5 [])) (tgt := 115) C0 dX2_readLine_105 rfl (fun c13 => ?_) (fun c14 => ?_)
              · refine lv_aload_n hx hb dX2_readLine_115 rfl (lv_at hl 0 rfl) ?_
                refine g_ldcS C0 S0 (i := 6) (by decide) rfl dX2_readLine_116 ?_
                refine g_callVs (As := [.ref (sK 6)]) (rest := []) (wr := (gW tk hD G d e)) (C0.sz hl) S0 X (c_X2_isNamed l D tk sK sV a ta tb hD K wt n t 6 (by exact hn) (by exact ht8) (by exact hI) (by first | assumption | decide | omega) (by first | assumption | decide | omega)) ⟨tb280, tb283, tb4, ⟨by decide, by decide, rfl⟩, rfl, rfl, Nat.le_of_ble_eq_true rfl, Nat.le_of_ble_eq_true rfl⟩ tb282 tbs5 0 2 rfl rfl rfl rfl [0, 1, 2] [3, 4, 5, 6, 7, 8, 9, 10, 11, 12] rfl rfl rfl rfl rfl (Nat.le_of_ble_eq_true rfl) ⟨Nat.le_of_ble_eq_true rfl, Nat.le_of_ble_eq_true rfl⟩ dX2_readLine_118 (fun _ H locs _ X => ?_)
                have X : Hx D zA zs H locs (gW tk hD G d e ++ rV a ta hD K wt ++ tW tk ta tb n t) := X
                have X : Hx D zA zs H locs (rV a ta hD K wt ++ tW tk ta tb n t ++ gW tk hD G d e) := X.sub [10, 11, 12, 0, 1, 2, 3, 4, 5, 6, 7, 8, 9] rfl rfl
                refine g_ifeqB (x := isN t (K 0 3) (K 0 4) (strW.getD 6 [])) (tgt := 131) C0 dX2_readLine_121 rfl (fun c15 => ?_) (fun c16 => ?_)
                · refine lv_aload_n hx hb dX2_readLine_131 rfl (lv_at hl 0 rfl) ?_
                  refine g_iconst (n := 2) C0 rfl dX2_readLine_132 ?_
                  refine g_callV (As := [.int (nI 2)]) (rest := []) (wr := (tW tk ta tb n t ++ gW tk hD G d e)) (C0.sz hl) X (c_X2_fail l D tk a ta hD K wt 2 (by omega)) ⟨tb271, tb274, tb4, ⟨by decide, by decide, rfl⟩, rfl, rfl, Nat.le_of_ble_eq_true rfl, Nat.le_of_ble_eq_true rfl⟩ tb273 tbs3 0 2 rfl rfl rfl rfl [0] [1, 2, 3, 4, 5, 6, 7, 8, 9, 10, 11, 12] rfl rfl rfl rfl rfl (Nat.le_of_ble_eq_true rfl) ⟨Nat.le_of_ble_eq_true rfl, Nat.le_of_ble_eq_true rfl⟩ dX2_readLine_133 (fun _ H locs _ X => ?_)
                  have X : Hx D zA zs H locs (tW tk ta tb n t ++ gW tk hD G d e ++ rV a ta hD (u3 K 0 (cFail (K 0) 2)) wt) := X
                  have X : Hx D zA zs H locs (rV a ta hD (u3 K 0 (cFail (K 0) 2)) wt ++ tW tk ta tb n t ++ gW tk hD G d e) := X.sub [12, 0, 1, 2, 3, 4, 5, 6, 7, 8, 9, 10, 11] rfl rfl
                  have hwh : cWh t (K 0) = 7 := by
                    rw [cWh, if_pos (by omega), nameN, if_neg (by rw [show isN t (K 0 3) (K 0 4) wPlain = false from c3]; decide), if_neg (by rw [show isN t (K 0 3) (K 0 4) wSilver = false from c5]; decide), if_neg (by rw [show isN t (K 0 3) (K 0 4) wOld = false from c7]; decide), if_neg (by rw [show isN t (K 0 3) (K 0 4) wSapling = false from c9]; decide), if_neg (by rw [show isN t (K 0 3) (K 0 4) wRoot = false from c11]; decide), if_neg (by rw [show isN t (K 0 3) (K 0 4) wTalk = false from c15]; decide), if_neg (by rw [show isN t (K 0 3) (K 0 4) wWind = false from c13]; decide)]
                  exact hE (v := ()) () rfl trivial (X.to (by rw [lineR_n hwh, lineW_n (by omega), lineG_n hwh] <;> rfl)) dX2_readLine_136
                · refine lv_aload_n hx hb dX2_readLine_124 rfl (lv_at hl 0 rfl) ?_
                  refine g_callV (As := []) (rest := []) (wr := []) (C0.sz hl) X (c_X2_readTalk l D tk a ta tb hD K wt n t G d e (by exact hn) (by exact ht8) (by exact hI) (by first | assumption | decide | omega)) ⟨tb375, tb378, tb4, ⟨by decide, by decide, rfl⟩, rfl, rfl, Nat.le_of_ble_eq_true rfl, Nat.le_of_ble_eq_true rfl⟩ tb377 tbs13 0 2 rfl rfl rfl rfl [0, 1, 2, 3, 4, 5, 6, 7, 8, 9, 10, 11, 12] [] rfl rfl rfl rfl rfl (Nat.le_of_ble_eq_true rfl) ⟨Nat.le_of_ble_eq_true rfl, Nat.le_of_ble_eq_true rfl⟩ dX2_readLine_125 (fun _ H locs _ X => ?_)
                  have X : Hx D zA zs H locs (rV a ta hD (u3 K 0 (cTalkR t n (K 0) G)) wt ++ tW tk ta tb n t ++ gW tk hD (cTalkG t n (K 0) G) d e) := X
                  refine lv_goto (tgt := 136) hx hb dX2_readLine_128 (by decide) ?_
                  have hwh : cWh t (K 0) = 5 := by
                    rw [cWh, if_pos (by omega), nameN, if_neg (by rw [show isN t (K 0 3) (K 0 4) wPlain = false from c3]; decide), if_neg (by rw [show isN t (K 0 3) (K 0 4) wSilver = false from c5]; decide), if_neg (by rw [show isN t (K 0 3) (K 0 4) wOld = false from c7]; decide), if_neg (by rw [show isN t (K 0 3) (K 0 4) wSapling = false from c9]; decide), if_neg (by rw [show isN t (K 0 3) (K 0 4) wRoot = false from c11]; decide), if_pos (show isN t (K 0 3) (K 0 4) wTalk = true from c16)]
                  exact hE (v := ()) () rfl trivial (X.to (by rw [lineR_a hwh, lineW_n (by omega), lineG_a hwh] <;> rfl)) dX2_readLine_136
              · refine lv_aload_n hx hb dX2_readLine_108 rfl (lv_at hl 0 rfl) ?_
                refine g_callV (As := []) (rest := []) (wr := []) (C0.sz hl) X (c_X2_readWind l D tk a ta tb hD K wt n t G d e (by exact hn) (by exact ht8) (by exact hI) (by first | assumption | decide | omega)) ⟨tb370, tb373, tb4, ⟨by decide, by decide, rfl⟩, rfl, rfl, Nat.le_of_ble_eq_true rfl, Nat.le_of_ble_eq_true rfl⟩ tb372 tbs12 0 2 rfl rfl rfl rfl [0, 1, 2, 3, 4, 5, 6, 7, 8, 9, 10, 11, 12] [] rfl rfl rfl rfl rfl (Nat.le_of_ble_eq_true rfl) ⟨Nat.le_of_ble_eq_true rfl, Nat.le_of_ble_eq_true rfl⟩ dX2_readLine_109 (fun _ H locs _ X => ?_)
                have X : Hx D zA zs H locs (rV a ta hD (u3 K 0 (cWindR t n (K 0) wt)) true ++ tW tk ta tb n t ++ gW tk hD (cWindG t n (K 0) wt G) d e) := X
                refine lv_goto (tgt := 136) hx hb dX2_readLine_112 (by decide) ?_
                have hwh : cWh t (K 0) = 6 := by
                  rw [cWh, if_pos (by omega), nameN, if_neg (by rw [show isN t (K 0 3) (K 0 4) wPlain = false from c3]; decide), if_neg (by rw [show isN t (K 0 3) (K 0 4) wSilver = false from c5]; decide), if_neg (by rw [show isN t (K 0 3) (K 0 4) wOld = false from c7]; decide), if_neg (by rw [show isN t (K 0 3) (K 0 4) wSapling = false from c9]; decide), if_neg (by rw [show isN t (K 0 3) (K 0 4) wRoot = false from c11]; decide), if_neg (by rw [isN_x c14]; decide), if_pos (show isN t (K 0 3) (K 0 4) wWind = true from c14)]
                exact hE (v := ()) () rfl trivial (X.to (by rw [lineR_w hwh, lineW_y hwh, lineG_w hwh] <;> rfl)) dX2_readLine_136
            · refine lv_aload_n hx hb dX2_readLine_92 rfl (lv_at hl 0 rfl) ?_
              refine g_callV (As := []) (rest := []) (wr := []) (C0.sz hl) X (c_X2_readRoot l D tk a ta tb hD K wt n t G d e (by exact hn) (by exact ht8) (by exact hI) (by first | assumption | decide | omega)) ⟨tb352, tb355, tb4, ⟨by decide, by decide, rfl⟩, rfl, rfl, Nat.le_of_ble_eq_true rfl, Nat.le_of_ble_eq_true rfl⟩ tb354 tbs9 0 2 rfl rfl rfl rfl [0, 1, 2, 3, 4, 5, 6, 7, 8, 9, 10, 11, 12] [] rfl rfl rfl rfl rfl (Nat.le_of_ble_eq_true rfl) ⟨Nat.le_of_ble_eq_true rfl, Nat.le_of_ble_eq_true rfl⟩ dX2_readLine_93 (fun _ H locs _ X => ?_)
              have X : Hx D zA zs H locs (rV a ta hD (u3 K 0 (cRootR t n (K 0) G)) wt ++ tW tk ta tb n t ++ gW tk hD (cRootG t n (K 0) G) d e) := X
              refine lv_goto (tgt := 136) hx hb dX2_readLine_96 (by decide) ?_
              have hwh : cWh t (K 0) = 4 := by
                rw [cWh, if_pos (by omega), nameN, if_neg (by rw [show isN t (K 0 3) (K 0 4) wPlain = false from c3]; decide), if_neg (by rw [show isN t (K 0 3) (K 0 4) wSilver = false from c5]; decide), if_neg (by rw [show isN t (K 0 3) (K 0 4) wOld = false from c7]; decide), if_neg (by rw [show isN t (K 0 3) (K 0 4) wSapling = false from c9]; decide), if_pos (show isN t (K 0 3) (K 0 4) wRoot = true from c12)]
              exact hE (v := ()) () rfl trivial (X.to (by rw [lineR_r hwh, lineW_n (by omega), lineG_r hwh] <;> rfl)) dX2_readLine_136
          · refine lv_aload_n hx hb dX2_readLine_75 rfl (lv_at hl 0 rfl) ?_
            refine g_iconst (n := 3) C0 rfl dX2_readLine_76 ?_
            refine g_callV (As := [.int (nI 3)]) (rest := []) (wr := []) (C0.sz hl) X (c_X2_readTree l D tk a ta tb hD K wt n t G d e 3 (by exact hn) (by exact ht8) (by exact hI) (by first | assumption | decide | omega)) ⟨tb332, tb335, tb4, ⟨by decide, by decide, rfl⟩, rfl, rfl, Nat.le_of_ble_eq_true rfl, Nat.le_of_ble_eq_true rfl⟩ tb334 tbs6 0 2 rfl rfl rfl rfl [0, 1, 2, 3, 4, 5, 6, 7, 8, 9, 10, 11, 12] [] rfl rfl rfl rfl rfl (Nat.le_of_ble_eq_true rfl) ⟨Nat.le_of_ble_eq_true rfl, Nat.le_of_ble_eq_true rfl⟩ dX2_readLine_77 (fun _ H locs _ X => ?_)
            have X : Hx D zA zs H locs (rV a ta hD (u3 K 0 (cTreeR t n (K 0) G)) wt ++ tW tk ta tb n t ++ gW tk hD (cTreeG t n 3 (K 0) G) d e) := X
            refine lv_goto (tgt := 136) hx hb dX2_readLine_80 (by decide) ?_
            have hwh : cWh t (K 0) = 3 := by
              rw [cWh, if_pos (by omega), nameN, if_neg (by rw [show isN t (K 0 3) (K 0 4) wPlain = false from c3]; decide), if_neg (by rw [show isN t (K 0 3) (K 0 4) wSilver = false from c5]; decide), if_neg (by rw [show isN t (K 0 3) (K 0 4) wOld = false from c7]; decide), if_pos (show isN t (K 0 3) (K 0 4) wSapling = true from c10)]
            exact hE (v := ()) () rfl trivial (X.to (by rw [lineR_t (by omega), lineW_n (by omega), lineG_t hwh (by decide)] <;> rfl)) dX2_readLine_136
        · refine lv_aload_n hx hb dX2_readLine_58 rfl (lv_at hl 0 rfl) ?_
          refine g_iconst (n := 2) C0 rfl dX2_readLine_59 ?_
          refine g_callV (As := [.int (nI 2)]) (rest := []) (wr := []) (C0.sz hl) X (c_X2_readTree l D tk a ta tb hD K wt n t G d e 2 (by exact hn) (by exact ht8) (by exact hI) (by first | assumption | decide | omega)) ⟨tb332, tb335, tb4, ⟨by decide, by decide, rfl⟩, rfl, rfl, Nat.le_of_ble_eq_true rfl, Nat.le_of_ble_eq_true rfl⟩ tb334 tbs6 0 2 rfl rfl rfl rfl [0, 1, 2, 3, 4, 5, 6, 7, 8, 9, 10, 11, 12] [] rfl rfl rfl rfl rfl (Nat.le_of_ble_eq_true rfl) ⟨Nat.le_of_ble_eq_true rfl, Nat.le_of_ble_eq_true rfl⟩ dX2_readLine_60 (fun _ H locs _ X => ?_)
          have X : Hx D zA zs H locs (rV a ta hD (u3 K 0 (cTreeR t n (K 0) G)) wt ++ tW tk ta tb n t ++ gW tk hD (cTreeG t n 2 (K 0) G) d e) := X
          refine lv_goto (tgt := 136) hx hb dX2_readLine_63 (by decide) ?_
          have hwh : cWh t (K 0) = 2 := by
            rw [cWh, if_pos (by omega), nameN, if_neg (by rw [show isN t (K 0 3) (K 0 4) wPlain = false from c3]; decide), if_neg (by rw [show isN t (K 0 3) (K 0 4) wSilver = false from c5]; decide), if_pos (show isN t (K 0 3) (K 0 4) wOld = true from c8)]
          exact hE (v := ()) () rfl trivial (X.to (by rw [lineR_t (by omega), lineW_n (by omega), lineG_t hwh (by decide)] <;> rfl)) dX2_readLine_136
      · refine lv_aload_n hx hb dX2_readLine_41 rfl (lv_at hl 0 rfl) ?_
        refine g_iconst (n := 1) C0 rfl dX2_readLine_42 ?_
        refine g_callV (As := [.int (nI 1)]) (rest := []) (wr := []) (C0.sz hl) X (c_X2_readTree l D tk a ta tb hD K wt n t G d e 1 (by exact hn) (by exact ht8) (by exact hI) (by first | assumption | decide | omega)) ⟨tb332, tb335, tb4, ⟨by decide, by decide, rfl⟩, rfl, rfl, Nat.le_of_ble_eq_true rfl, Nat.le_of_ble_eq_true rfl⟩ tb334 tbs6 0 2 rfl rfl rfl rfl [0, 1, 2, 3, 4, 5, 6, 7, 8, 9, 10, 11, 12] [] rfl rfl rfl rfl rfl (Nat.le_of_ble_eq_true rfl) ⟨Nat.le_of_ble_eq_true rfl, Nat.le_of_ble_eq_true rfl⟩ dX2_readLine_43 (fun _ H locs _ X => ?_)
        have X : Hx D zA zs H locs (rV a ta hD (u3 K 0 (cTreeR t n (K 0) G)) wt ++ tW tk ta tb n t ++ gW tk hD (cTreeG t n 1 (K 0) G) d e) := X
        refine lv_goto (tgt := 136) hx hb dX2_readLine_46 (by decide) ?_
        have hwh : cWh t (K 0) = 1 := by
          rw [cWh, if_pos (by omega), nameN, if_neg (by rw [show isN t (K 0 3) (K 0 4) wPlain = false from c3]; decide), if_pos (show isN t (K 0 3) (K 0 4) wSilver = true from c6)]
        exact hE (v := ()) () rfl trivial (X.to (by rw [lineR_t (by omega), lineW_n (by omega), lineG_t hwh (by decide)] <;> rfl)) dX2_readLine_136
    · refine lv_aload_n hx hb dX2_readLine_24 rfl (lv_at hl 0 rfl) ?_
      refine g_iconst (n := 0) C0 rfl dX2_readLine_25 ?_
      refine g_callV (As := [.int (nI 0)]) (rest := []) (wr := []) (C0.sz hl) X (c_X2_readTree l D tk a ta tb hD K wt n t G d e 0 (by exact hn) (by exact ht8) (by exact hI) (by first | assumption | decide | omega)) ⟨tb332, tb335, tb4, ⟨by decide, by decide, rfl⟩, rfl, rfl, Nat.le_of_ble_eq_true rfl, Nat.le_of_ble_eq_true rfl⟩ tb334 tbs6 0 2 rfl rfl rfl rfl [0, 1, 2, 3, 4, 5, 6, 7, 8, 9, 10, 11, 12] [] rfl rfl rfl rfl rfl (Nat.le_of_ble_eq_true rfl) ⟨Nat.le_of_ble_eq_true rfl, Nat.le_of_ble_eq_true rfl⟩ dX2_readLine_26 (fun _ H locs _ X => ?_)
      have X : Hx D zA zs H locs (rV a ta hD (u3 K 0 (cTreeR t n (K 0) G)) wt ++ tW tk ta tb n t ++ gW tk hD (cTreeG t n 0 (K 0) G) d e) := X
      refine lv_goto (tgt := 136) hx hb dX2_readLine_29 (by decide) ?_
      have hwh : cWh t (K 0) = 0 := by
        rw [cWh, if_pos (by omega), nameN, if_pos (show isN t (K 0 3) (K 0 4) wPlain = true from c4)]
      exact hE (v := ()) () rfl trivial (X.to (by rw [lineR_t (by omega), lineW_n (by omega), lineG_t hwh (by decide)] <;> rfl)) dX2_readLine_136
  · refine lv_aload_n hx hb dX2_readLine_7 rfl (lv_at hl 0 rfl) ?_
    refine g_iconst (n := 2) C0 rfl dX2_readLine_8 ?_
    refine g_callV (As := [.int (nI 2)]) (rest := []) (wr := (tW tk ta tb n t ++ gW tk hD G d e)) (C0.sz hl) X (c_X2_fail l D tk a ta hD K wt 2 (by omega)) ⟨tb271, tb274, tb4, ⟨by decide, by decide, rfl⟩, rfl, rfl, Nat.le_of_ble_eq_true rfl, Nat.le_of_ble_eq_true rfl⟩ tb273 tbs3 0 2 rfl rfl rfl rfl [0] [1, 2, 3, 4, 5, 6, 7, 8, 9, 10, 11, 12] rfl rfl rfl rfl rfl (Nat.le_of_ble_eq_true rfl) ⟨Nat.le_of_ble_eq_true rfl, Nat.le_of_ble_eq_true rfl⟩ dX2_readLine_9 (fun _ H locs _ X => ?_)
    have X : Hx D zA zs H locs (tW tk ta tb n t ++ gW tk hD G d e ++ rV a ta hD (u3 K 0 (cFail (K 0) 2)) wt) := X
    have X : Hx D zA zs H locs (rV a ta hD (u3 K 0 (cFail (K 0) 2)) wt ++ tW tk ta tb n t ++ gW tk hD G d e) := X.sub [12, 0, 1, 2, 3, 4, 5, 6, 7, 8, 9, 10, 11] rfl rfl
    refine lv_goto (tgt := 136) hx hb dX2_readLine_12 (by decide) ?_
    have hwh : cWh t (K 0) = 7 := if_neg (by omega)
    exact hE (v := ()) () rfl trivial (X.to (by rw [lineR_n hwh, lineW_n (by omega), lineG_n hwh] <;> rfl)) dX2_readLine_136
