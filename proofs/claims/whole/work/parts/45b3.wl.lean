set_option maxHeartbeats 4000000 in
set_option maxRecDepth 100000 in
theorem c_X2_readTalk (l : Launch) (D : va_G) (tk : Nat → ClassId) (a ta tb : Nat) (hD : Nat → Nat) (K : Nat → Nat → Nat) (wt : Bool) (n : Nat) (t : Nat → Nat) (G : Nat → Nat → Nat) (d e : Nat → Nat) (hn : n ≤ 160) (ht8 : ∀ j, j < n → t j < 128) (hI : RI t n (K 0)) (hd9 : DI G) : MX l yX2_readTalk cX2_readTalk 4 none ⟨3, 0, 0, 70⟩ D (TYS tk) [.ref a] (rV a ta hD K wt ++ tW tk ta tb n t ++ gW tk hD G d e) (fun (_ : Unit) => True) (fun _ => none) (fun _ => rV a ta hD (u3 K 0 (cTalkR t n (K 0) G)) wt ++ tW tk ta tb n t ++ gW tk hD (cTalkG t n (K 0) G) d e) 0 0 := by
  refine MX.of_v (by decide) rfl ?_
  intro zp ze zs zm za zb zt zc zA zQ ls C0 hnm X hl hE
  have hx := C0.1
  have hb := C0.2.1
  have ht := C0.2.2.2.2.1
  have X : Hx D zA zs zs.heap [] (rV a ta hD K wt ++ tW tk ta tb n t ++ gW tk hD G d e) := X
  have hl : lv_has ls 4 [(0, .ref a)] := hl
  obtain ⟨hi1, hi2, hi3, hi4, hi5, hi6, hi7⟩ := id hI
  obtain ⟨hd1, hd2, hd3⟩ := id hd9
  obtain ⟨H, hH⟩ : ∃ H, H = zs.heap := ⟨_, rfl⟩
  rw [← hH] at X ⊢
  obtain ⟨locs, hlo⟩ : ∃ L : List Loc, L = [] := ⟨_, rfl⟩
  rw [← hlo] at X ⊢
  refine lv_aload_n hx hb dX2_readTalk_0 rfl (lv_at hl 0 rfl) ?_
  refine lv_aload_n hx hb dX2_readTalk_1 rfl (lv_at hl 0 rfl) ?_
  refine g_get (v := .ref (hD 0)) C0 X kX2 0 1 tb134 rfl rfl rfl dX2_readTalk_2 ?_
  refine g_get (v := .int (nI (G 8 3))) C0 X kX1 3 8 tb53 rfl rfl rfl dX2_readTalk_5 ?_
  refine g_bipush (n := 6) C0 (by decide) dX2_readTalk_8 ?_
  refine g_icmp_ge (x := G 8 3) (y := 6) (tgt := 17) C0 (by omega) (by omega) dX2_readTalk_10 rfl (fun c1 => ?_) (fun c2 => ?_)
  · refine g_iconst (n := 0) C0 rfl dX2_readTalk_17 ?_
    refine g_iconst (n := 5) C0 rfl dX2_readTalk_18 ?_
    refine g_callV (As := [.int (nI 0), .int (nI 5)]) (rest := []) (wr := (gW tk hD G d e)) (C0.sz hl) X (c_X2_takeName l D tk a ta tb hD K wt n t false 5 (by exact hn) (by exact ht8) (by exact hI) (by first | assumption | decide | omega)) ⟨tb336, tb339, tb4, ⟨by decide, by decide, rfl⟩, rfl, rfl, Nat.le_of_ble_eq_true rfl, Nat.le_of_ble_eq_true rfl⟩ tb338 tbs7 0 2 rfl rfl rfl rfl [0, 1, 2] [3, 4, 5, 6, 7, 8, 9, 10, 11, 12] rfl rfl rfl rfl rfl (Nat.le_of_ble_eq_true rfl) ⟨Nat.le_of_ble_eq_true rfl, Nat.le_of_ble_eq_true rfl⟩ dX2_readTalk_19 (fun _ H locs _ X => ?_)
    have X : Hx D zA zs H locs (gW tk hD G d e ++ rV a ta hD (u3 K 0 (cName t n (K 0) false 5)) wt ++ tW tk ta tb n t) := X
    obtain ⟨r1, hr1⟩ : ∃ z, cT1 t n (K 0) G = z := ⟨_, rfl⟩
    have X : Hx D zA zs H locs (gW tk hD G d e ++ rV a ta hD (u3 K 0 r1) wt ++ tW tk ta tb n t) := X.to (by rw [show r1 = cName t n (K 0) false 5 from by rw [← hr1, cT1, decide_eq_false (show ¬ G 8 3 < 6 by omega)] <;> rfl] <;> rfl)
    have hI1 : RI t n r1 := by rw [← hr1]; exact hI.name (by decide)
    have X : Hx D zA zs H locs (rV a ta hD (u3 K 0 r1) wt ++ tW tk ta tb n t ++ gW tk hD G d e) := X.sub [10, 11, 12, 0, 1, 2, 3, 4, 5, 6, 7, 8, 9] rfl rfl
    refine lv_aload_n hx hb dX2_readTalk_22 rfl (lv_at hl 0 rfl) ?_
    refine g_iconst (n := 0) C0 rfl dX2_readTalk_23 ?_
    refine g_bipush (n := 23) C0 (by decide) dX2_readTalk_24 ?_
    refine lv_iconst (v := (-1)) hx hb dX2_readTalk_26 (by decide) ?_
    refine g_callV (As := [.int (nI 0), .int (nI 23), .int (-1)]) (rest := []) (wr := (gW tk hD G d e)) (C0.sz hl) X (c_X2_takeNumber l D tk a ta tb hD (u3 K 0 r1) wt n t 0 23 (-1) (by exact hn) (by exact ht8) (by exact hI1) (by first | assumption | decide | omega) (by first | assumption | decide | omega)) ⟨tb356, tb359, tb4, ⟨by decide, by decide, rfl⟩, rfl, rfl, Nat.le_of_ble_eq_true rfl, Nat.le_of_ble_eq_true rfl⟩ tb358 tbs10 0 2 rfl rfl rfl rfl [0, 1, 2] [3, 4, 5, 6, 7, 8, 9, 10, 11, 12] rfl rfl rfl rfl rfl (Nat.le_of_ble_eq_true rfl) ⟨Nat.le_of_ble_eq_true rfl, Nat.le_of_ble_eq_true rfl⟩ dX2_readTalk_27 (fun _ H locs _ X => ?_)
    have X : Hx D zA zs H locs (gW tk hD G d e ++ rV a ta hD (u3 K 0 (cNum t n ((u3 K 0 r1) 0) 0 23 (-1))) wt ++ tW tk ta tb n t) := X
    obtain ⟨r2, hr2⟩ : ∃ z, cT2 t n (K 0) G = z := ⟨_, rfl⟩
    have X : Hx D zA zs H locs (gW tk hD G d e ++ rV a ta hD (u3 K 0 r2) wt ++ tW tk ta tb n t) := X.to (by rw [show r2 = cNum t n ((u3 K 0 r1) 0) 0 23 (-1) from by rw [← hr2, cT2, hr1] <;> rfl] <;> rfl)
    have hI2 : RI t n r2 := by rw [← hr2, cT2, hr1]; exact hI1.num
    have X : Hx D zA zs H locs (rV a ta hD (u3 K 0 r2) wt ++ tW tk ta tb n t ++ gW tk hD G d e) := X.sub [10, 11, 12, 0, 1, 2, 3, 4, 5, 6, 7, 8, 9] rfl rfl
    refine lv_istore_n (lv' := [(1, .int (nI (cVal t ((u3 K 0 r1) 0)))), (0, .ref a)]) hx hb dX2_readTalk_30 rfl hl (by decide) rfl (fun ls hl => ?_)
    refine lv_aload_n hx hb dX2_readTalk_31 rfl (lv_at hl 1 rfl) ?_
    refine g_iconst (n := 0) C0 rfl dX2_readTalk_32 ?_
    refine g_iconst (n := 5) C0 rfl dX2_readTalk_33 ?_
    refine lv_iconst (v := (-1)) hx hb dX2_readTalk_34 (by decide) ?_
    refine g_callV (As := [.int (nI 0), .int (nI 5), .int (-1)]) (rest := []) (wr := (gW tk hD G d e)) (C0.sz hl) X (c_X2_takeNumber l D tk a ta tb hD (u3 K 0 r2) wt n t 0 5 (-1) (by exact hn) (by exact ht8) (by exact hI2) (by first | assumption | decide | omega) (by first | assumption | decide | omega)) ⟨tb356, tb359, tb4, ⟨by decide, by decide, rfl⟩, rfl, rfl, Nat.le_of_ble_eq_true rfl, Nat.le_of_ble_eq_true rfl⟩ tb358 tbs10 0 2 rfl rfl rfl rfl [0, 1, 2] [3, 4, 5, 6, 7, 8, 9, 10, 11, 12] rfl rfl rfl rfl rfl (Nat.le_of_ble_eq_true rfl) ⟨Nat.le_of_ble_eq_true rfl, Nat.le_of_ble_eq_true rfl⟩ dX2_readTalk_35 (fun _ H locs _ X => ?_)
    have X : Hx D zA zs H locs (gW tk hD G d e ++ rV a ta hD (u3 K 0 (cNum t n ((u3 K 0 r2) 0) 0 5 (-1))) wt ++ tW tk ta tb n t) := X
    obtain ⟨r3, hr3⟩ : ∃ z, cT3 t n (K 0) G = z := ⟨_, rfl⟩
    have X : Hx D zA zs H locs (gW tk hD G d e ++ rV a ta hD (u3 K 0 r3) wt ++ tW tk ta tb n t) := X.to (by rw [show r3 = cNum t n ((u3 K 0 r2) 0) 0 5 (-1) from by rw [← hr3, cT3, hr2] <;> rfl] <;> rfl)
    have hI3 : RI t n r3 := by rw [← hr3, cT3, hr2]; exact hI2.num
    have X : Hx D zA zs H locs (rV a ta hD (u3 K 0 r3) wt ++ tW tk ta tb n t ++ gW tk hD G d e) := X.sub [10, 11, 12, 0, 1, 2, 3, 4, 5, 6, 7, 8, 9] rfl rfl
    refine lv_istore_n (lv' := [(2, .int (nI (cVal t ((u3 K 0 r2) 0)))), (1, .int (nI (cVal t ((u3 K 0 r1) 0)))), (0, .ref a)]) hx hb dX2_readTalk_38 rfl hl (by decide) rfl (fun ls hl => ?_)
    refine lv_aload_n hx hb dX2_readTalk_39 rfl (lv_at hl 2 rfl) ?_
    refine g_iconst (n := 1) C0 rfl dX2_readTalk_40 ?_
    refine g_bipush (n := 60) C0 (by decide) dX2_readTalk_41 ?_
    refine lv_iconst (v := (-1)) hx hb dX2_readTalk_43 (by decide) ?_
    refine g_callV (As := [.int (nI 1), .int (nI 60), .int (-1)]) (rest := []) (wr := (gW tk hD G d e)) (C0.sz hl) X (c_X2_takeNumber l D tk a ta tb hD (u3 K 0 r3) wt n t 1 60 (-1) (by exact hn) (by exact ht8) (by exact hI3) (by first | assumption | decide | omega) (by first | assumption | decide | omega)) ⟨tb356, tb359, tb4, ⟨by decide, by decide, rfl⟩, rfl, rfl, Nat.le_of_ble_eq_true rfl, Nat.le_of_ble_eq_true rfl⟩ tb358 tbs10 0 2 rfl rfl rfl rfl [0, 1, 2] [3, 4, 5, 6, 7, 8, 9, 10, 11, 12] rfl rfl rfl rfl rfl (Nat.le_of_ble_eq_true rfl) ⟨Nat.le_of_ble_eq_true rfl, Nat.le_of_ble_eq_true rfl⟩ dX2_readTalk_44 (fun _ H locs _ X => ?_)
    have X : Hx D zA zs H locs (gW tk hD G d e ++ rV a ta hD (u3 K 0 (cNum t n ((u3 K 0 r3) 0) 1 60 (-1))) wt ++ tW tk ta tb n t) := X
    obtain ⟨r4, hr4⟩ : ∃ z, cT4 t n (K 0) G = z := ⟨_, rfl⟩
    have X : Hx D zA zs H locs (gW tk hD G d e ++ rV a ta hD (u3 K 0 r4) wt ++ tW tk ta tb n t) := X.to (by rw [show r4 = cNum t n ((u3 K 0 r3) 0) 1 60 (-1) from by rw [← hr4, cT4, hr3] <;> rfl] <;> rfl)
    have hI4 : RI t n r4 := by rw [← hr4, cT4, hr3]; exact hI3.num
    have X : Hx D zA zs H locs (rV a ta hD (u3 K 0 r4) wt ++ tW tk ta tb n t ++ gW tk hD G d e) := X.sub [10, 11, 12, 0, 1, 2, 3, 4, 5, 6, 7, 8, 9] rfl rfl
    refine lv_istore_n (lv' := [(3, .int (nI (cVal t ((u3 K 0 r3) 0)))), (2, .int (nI (cVal t ((u3 K 0 r2) 0)))), (1, .int (nI (cVal t ((u3 K 0 r1) 0)))), (0, .ref a)]) hx hb dX2_readTalk_47 rfl hl (by decide) rfl (fun ls hl => ?_)
    refine lv_aload_n hx hb dX2_readTalk_48 rfl (lv_at hl 3 rfl) ?_
    refine g_callV (As := []) (rest := []) (wr := (gW tk hD G d e)) (C0.sz hl) X (c_X2_takeSign l D tk a ta tb hD (u3 K 0 r4) wt n t (by exact hn) (by exact ht8) (by exact hI4)) ⟨tb340, tb343, tb4, ⟨by decide, by decide, rfl⟩, rfl, rfl, Nat.le_of_ble_eq_true rfl, Nat.le_of_ble_eq_true rfl⟩ tb342 tbs8 0 2 rfl rfl rfl rfl [0, 1, 2] [3, 4, 5, 6, 7, 8, 9, 10, 11, 12] rfl rfl rfl rfl rfl (Nat.le_of_ble_eq_true rfl) ⟨Nat.le_of_ble_eq_true rfl, Nat.le_of_ble_eq_true rfl⟩ dX2_readTalk_49 (fun _ H locs _ X => ?_)
    have X : Hx D zA zs H locs (gW tk hD G d e ++ rV a ta hD (u3 K 0 (cSign t n ((u3 K 0 r4) 0))) wt ++ tW tk ta tb n t) := X
    obtain ⟨r5, hr5⟩ : ∃ z, cTalkR t n (K 0) G = z := ⟨_, rfl⟩
    have X : Hx D zA zs H locs (gW tk hD G d e ++ rV a ta hD (u3 K 0 r5) wt ++ tW tk ta tb n t) := X.to (by rw [show r5 = cSign t n ((u3 K 0 r4) 0) from by rw [← hr5, cTalkR, hr4] <;> rfl] <;> rfl)
    have hI5 : RI t n r5 := by rw [← hr5, cTalkR, hr4]; exact hI4.sign
    have hb6 : r5 0 ≤ 6 := hI5.2.2.2.1
    have X : Hx D zA zs H locs (rV a ta hD (u3 K 0 r5) wt ++ tW tk ta tb n t ++ gW tk hD G d e) := X.sub [10, 11, 12, 0, 1, 2, 3, 4, 5, 6, 7, 8, 9] rfl rfl
    refine lv_aload_n hx hb dX2_readTalk_52 rfl (lv_at hl 3 rfl) ?_
    refine g_get (v := .int (nI (r5 0))) C0 X kX2 0 2 tb136 rfl rfl rfl dX2_readTalk_53 ?_
    refine g_ifne (x := r5 0) (tgt := 70) C0 (by omega) dX2_readTalk_56 rfl (fun c3 => ?_) (fun c4 => ?_)
    · exact hE (v := ()) () rfl trivial (X.to (by rw [cTalkG, hr5, if_neg (by omega)] <;> rfl)) dX2_readTalk_70
    · have hg := talk_0 (t := t) (n := n) (r := K 0) (G := G) (by rw [hr5]; omega)
      refine lv_aload_n hx hb dX2_readTalk_59 rfl (lv_at hl 3 rfl) ?_
      refine g_get (v := .ref (hD 0)) C0 X kX2 0 1 tb134 rfl rfl rfl dX2_readTalk_60 ?_
      refine lv_iload_n hx hb dX2_readTalk_63 rfl (lv_at hl 2 rfl) ?_
      refine lv_iload_n hx hb dX2_readTalk_64 rfl (lv_at hl 1 rfl) ?_
      refine lv_iload_n hx hb dX2_readTalk_65 rfl (lv_at hl 0 rfl) ?_
      refine g_callV (As := [.int (nI (cVal t ((u3 K 0 r1) 0))), .int (nI (cVal t ((u3 K 0 r2) 0))), .int (nI (cVal t ((u3 K 0 r3) 0)))]) (rest := []) (wr := (rV a ta hD (u3 K 0 r5) wt ++ tW tk ta tb n t)) (C0.sz hl) X (c_X1_addTalk l D tk hD G d e (cVal t ((u3 K 0 r1) 0)) (cVal t ((u3 K 0 r2) 0)) (cVal t ((u3 K 0 r3) 0)) (by exact hg)) ⟨tb379, tb382, tb2, ⟨by decide, by decide, rfl⟩, rfl, rfl, Nat.le_of_ble_eq_true rfl, Nat.le_of_ble_eq_true rfl⟩ tb380 tb381 3 1 rfl rfl rfl rfl [3, 4, 5, 6, 7, 8, 9, 10, 11, 12] [0, 1, 2] rfl rfl rfl rfl rfl (Nat.le_of_ble_eq_true rfl) ⟨Nat.le_of_ble_eq_true rfl, Nat.le_of_ble_eq_true rfl⟩ dX2_readTalk_66 (fun _ H locs _ X => ?_)
      have X : Hx D zA zs H locs (rV a ta hD (u3 K 0 r5) wt ++ tW tk ta tb n t ++ gW tk hD (u2 (u2 (u2 (u2 G 5 (G 8 3) (cVal t ((u3 K 0 r1) 0))) 6 (G 8 3) (cVal t ((u3 K 0 r2) 0))) 7 (G 8 3) (cVal t ((u3 K 0 r3) 0))) 8 3 (G 8 3 + 1)) d e) := X
      refine lv_pop hx hb dX2_readTalk_69 rfl ?_
      exact hE (v := ()) () rfl trivial (X.to (by rw [cTalkG, hr5, if_pos (by omega), hr1, hr2, hr3] <;> rfl)) dX2_readTalk_70
  · refine g_iconst (n := 1) C0 rfl dX2_readTalk_13 ?_
    refine lv_goto (tgt := 18) hx hb dX2_readTalk_14 (by decide) ?_
    refine g_iconst (n := 5) C0 rfl dX2_readTalk_18 ?_
    refine g_callV (As := [.int (nI 1), .int (nI 5)]) (rest := []) (wr := (gW tk hD G d e)) (C0.sz hl) X (c_X2_takeName l D tk a ta tb hD K wt n t true 5 (by exact hn) (by exact ht8) (by exact hI) (by first | assumption | decide | omega)) ⟨tb336, tb339, tb4, ⟨by decide, by decide, rfl⟩, rfl, rfl, Nat.le_of_ble_eq_true rfl, Nat.le_of_ble_eq_true rfl⟩ tb338 tbs7 0 2 rfl rfl rfl rfl [0, 1, 2] [3, 4, 5, 6, 7, 8, 9, 10, 11, 12] rfl rfl rfl rfl rfl (Nat.le_of_ble_eq_true rfl) ⟨Nat.le_of_ble_eq_true rfl, Nat.le_of_ble_eq_true rfl⟩ dX2_readTalk_19 (fun _ H locs _ X => ?_)
    have X : Hx D zA zs H locs (gW tk hD G d e ++ rV a ta hD (u3 K 0 (cName t n (K 0) true 5)) wt ++ tW tk ta tb n t) := X
    obtain ⟨r1, hr1⟩ : ∃ z, cT1 t n (K 0) G = z := ⟨_, rfl⟩
    have X : Hx D zA zs H locs (gW tk hD G d e ++ rV a ta hD (u3 K 0 r1) wt ++ tW tk ta tb n t) := X.to (by rw [show r1 = cName t n (K 0) true 5 from by rw [← hr1, cT1, decide_eq_true (show G 8 3 < 6 by omega)] <;> rfl] <;> rfl)
    have hI1 : RI t n r1 := by rw [← hr1]; exact hI.name (by decide)
    have X : Hx D zA zs H locs (rV a ta hD (u3 K 0 r1) wt ++ tW tk ta tb n t ++ gW tk hD G d e) := X.sub [10, 11, 12, 0, 1, 2, 3, 4, 5, 6, 7, 8, 9] rfl rfl
    refine lv_aload_n hx hb dX2_readTalk_22 rfl (lv_at hl 0 rfl) ?_
    refine g_iconst (n := 0) C0 rfl dX2_readTalk_23 ?_
    refine g_bipush (n := 23) C0 (by decide) dX2_readTalk_24 ?_
    refine lv_iconst (v := (-1)) hx hb dX2_readTalk_26 (by decide) ?_
    refine g_callV (As := [.int (nI 0), .int (nI 23), .int (-1)]) (rest := []) (wr := (gW tk hD G d e)) (C0.sz hl) X (c_X2_takeNumber l D tk a ta tb hD (u3 K 0 r1) wt n t 0 23 (-1) (by exact hn) (by exact ht8) (by exact hI1) (by first | assumption | decide | omega) (by first | assumption | decide | omega)) ⟨tb356, tb359, tb4, ⟨by decide, by decide, rfl⟩, rfl, rfl, Nat.le_of_ble_eq_true rfl, Nat.le_of_ble_eq_true rfl⟩ tb358 tbs10 0 2 rfl rfl rfl rfl [0, 1, 2] [3, 4, 5, 6, 7, 8, 9, 10, 11, 12] rfl rfl rfl rfl rfl (Nat.le_of_ble_eq_true rfl) ⟨Nat.le_of_ble_eq_true rfl, Nat.le_of_ble_eq_true rfl⟩ dX2_readTalk_27 (fun _ H locs _ X => ?_)
    have X : Hx D zA zs H locs (gW tk hD G d e ++ rV a ta hD (u3 K 0 (cNum t n ((u3 K 0 r1) 0) 0 23 (-1))) wt ++ tW tk ta tb n t) := X
    obtain ⟨r2, hr2⟩ : ∃ z, cT2 t n (K 0) G = z := ⟨_, rfl⟩
    have X : Hx D zA zs H locs (gW tk hD G d e ++ rV a ta hD (u3 K 0 r2) wt ++ tW tk ta tb n t) := X.to (by rw [show r2 = cNum t n ((u3 K 0 r1) 0) 0 23 (-1) from by rw [← hr2, cT2, hr1] <;> rfl] <;> rfl)
    have hI2 : RI t n r2 := by rw [← hr2, cT2, hr1]; exact hI1.num
    have X : Hx D zA zs H locs (rV a ta hD (u3 K 0 r2) wt ++ tW tk ta tb n t ++ gW tk hD G d e) := X.sub [10, 11, 12, 0, 1, 2, 3, 4, 5, 6, 7, 8, 9] rfl rfl
    refine lv_istore_n (lv' := [(1, .int (nI (cVal t ((u3 K 0 r1) 0)))), (0, .ref a)]) hx hb dX2_readTalk_30 rfl hl (by decide) rfl (fun ls hl => ?_)
    refine lv_aload_n hx hb dX2_readTalk_31 rfl (lv_at hl 1 rfl) ?_
    refine g_iconst (n := 0) C0 rfl dX2_readTalk_32 ?_
    refine g_iconst (n := 5) C0 rfl dX2_readTalk_33 ?_
    refine lv_iconst (v := (-1)) hx hb dX2_readTalk_34 (by decide) ?_
    refine g_callV (As := [.int (nI 0), .int (nI 5), .int (-1)]) (rest := []) (wr := (gW tk hD G d e)) (C0.sz hl) X (c_X2_takeNumber l D tk a ta tb hD (u3 K 0 r2) wt n t 0 5 (-1) (by exact hn) (by exact ht8) (by exact hI2) (by first | assumption | decide | omega) (by first | assumption | decide | omega)) ⟨tb356, tb359, tb4, ⟨by decide, by decide, rfl⟩, rfl, rfl, Nat.le_of_ble_eq_true rfl, Nat.le_of_ble_eq_true rfl⟩ tb358 tbs10 0 2 rfl rfl rfl rfl [0, 1, 2] [3, 4, 5, 6, 7, 8, 9, 10, 11, 12] rfl rfl rfl rfl rfl (Nat.le_of_ble_eq_true rfl) ⟨Nat.le_of_ble_eq_true rfl, Nat.le_of_ble_eq_true rfl⟩ dX2_readTalk_35 (fun _ H locs _ X => ?_)
    have X : Hx D zA zs H locs (gW tk hD G d e ++ rV a ta hD (u3 K 0 (cNum t n ((u3 K 0 r2) 0) 0 5 (-1))) wt ++ tW tk ta tb n t) := X
    obtain ⟨r3, hr3⟩ : ∃ z, cT3 t n (K 0) G = z := ⟨_, rfl⟩
    have X : Hx D zA zs H locs (gW tk hD G d e ++ rV a ta hD (u3 K 0 r3) wt ++ tW tk ta tb n t) := X.to (by rw [show r3 = cNum t n ((u3 K 0 r2) 0) 0 5 (-1) from by rw [← hr3, cT3, hr2] <;> rfl] <;> rfl)
    have hI3 : RI t n r3 := by rw [← hr3, cT3, hr2]; exact hI2.num
    have X : Hx D zA zs H locs (rV a ta hD (u3 K 0 r3) wt ++ tW tk ta tb n t ++ gW tk hD G d e) := X.sub [10, 11, 12, 0, 1, 2, 3, 4, 5, 6, 7, 8, 9] rfl rfl
    refine lv_istore_n (lv' := [(2, .int (nI (cVal t ((u3 K 0 r2) 0)))), (1, .int (nI (cVal t ((u3 K 0 r1) 0)))), (0, .ref a)]) hx hb dX2_readTalk_38 rfl hl (by decide) rfl (fun ls hl => ?_)
    refine lv_aload_n hx hb dX2_readTalk_39 rfl (lv_at hl 2 rfl) ?_
    refine g_iconst (n := 1) C0 rfl dX2_readTalk_40 ?_
    refine g_bipush (n := 60) C0 (by decide) dX2_readTalk_41 ?_
    refine lv_iconst (v := (-1)) hx hb dX2_readTalk_43 (by decide) ?_
    refine g_callV (As := [.int (nI 1), .int (nI 60), .int (-1)]) (rest := []) (wr := (gW tk hD G d e)) (C0.sz hl) X (c_X2_takeNumber l D tk a ta tb hD (u3 K 0 r3) wt n t 1 60 (-1) (by exact hn) (by exact ht8) (by exact hI3) (by first | assumption | decide | omega) (by first | assumption | decide | omega)) ⟨tb356, tb359, tb4, ⟨by decide, by decide, rfl⟩, rfl, rfl, Nat.le_of_ble_eq_true rfl, Nat.le_of_ble_eq_true rfl⟩ tb358 tbs10 0 2 rfl rfl rfl rfl [0, 1, 2] [3, 4, 5, 6, 7, 8, 9, 10, 11, 12] rfl rfl rfl rfl rfl (Nat.le_of_ble_eq_true rfl) ⟨Nat.le_of_ble_eq_true rfl, Nat.le_of_ble_eq_true rfl⟩ dX2_readTalk_44 (fun _ H locs _ X => ?_)
    have X : Hx D zA zs H locs (gW tk hD G d e ++ rV a ta hD (u3 K 0 (cNum t n ((u3 K 0 r3) 0) 1 60 (-1))) wt ++ tW tk ta tb n t) := X
    obtain ⟨r4, hr4⟩ : ∃ z, cT4 t n (K 0) G = z := ⟨_, rfl⟩
    have X : Hx D zA zs H locs (gW tk hD G d e ++ rV a ta hD (u3 K 0 r4) wt ++ tW tk ta tb n t) := X.to (by rw [show r4 = cNum t n ((u3 K 0 r3) 0) 1 60 (-1) from by rw [← hr4, cT4, hr3] <;> rfl] <;> rfl)
    have hI4 : RI t n r4 := by rw [← hr4, cT4, hr3]; exact hI3.num
    have X : Hx D zA zs H locs (rV a ta hD (u3 K 0 r4) wt ++ tW tk ta tb n t ++ gW tk hD G d e) := X.sub [10, 11, 12, 0, 1, 2, 3, 4, 5, 6, 7, 8, 9] rfl rfl
    refine lv_istore_n (lv' := [(3, .int (nI (cVal t ((u3 K 0 r3) 0)))), (2, .int (nI (cVal t ((u3 K 0 r2) 0)))), (1, .int (nI (cVal t ((u3 K 0 r1) 0)))), (0, .ref a)]) hx hb dX2_readTalk_47 rfl hl (by decide) rfl (fun ls hl => ?_)
    refine lv_aload_n hx hb dX2_readTalk_48 rfl (lv_at hl 3 rfl) ?_
    refine g_callV (As := []) (rest := []) (wr := (gW tk hD G d e)) (C0.sz hl) X (c_X2_takeSign l D tk a ta tb hD (u3 K 0 r4) wt n t (by exact hn) (by exact ht8) (by exact hI4)) ⟨tb340, tb343, tb4, ⟨by decide, by decide, rfl⟩, rfl, rfl, Nat.le_of_ble_eq_true rfl, Nat.le_of_ble_eq_true rfl⟩ tb342 tbs8 0 2 rfl rfl rfl rfl [0, 1, 2] [3, 4, 5, 6, 7, 8, 9, 10, 11, 12] rfl rfl rfl rfl rfl (Nat.le_of_ble_eq_true rfl) ⟨Nat.le_of_ble_eq_true rfl, Nat.le_of_ble_eq_true rfl⟩ dX2_readTalk_49 (fun _ H locs _ X => ?_)
    have X : Hx D zA zs H locs (gW tk hD G d e ++ rV a ta hD (u3 K 0 (cSign t n ((u3 K 0 r4) 0))) wt ++ tW tk ta tb n t) := X
    obtain ⟨r5, hr5⟩ : ∃ z, cTalkR t n (K 0) G = z := ⟨_, rfl⟩
    have X : Hx D zA zs H locs (gW tk hD G d e ++ rV a ta hD (u3 K 0 r5) wt ++ tW tk ta tb n t) := X.to (by rw [show r5 = cSign t n ((u3 K 0 r4) 0) from by rw [← hr5, cTalkR, hr4] <;> rfl] <;> rfl)
    have hI5 : RI t n r5 := by rw [← hr5, cTalkR, hr4]; exact hI4.sign
    have hb6 : r5 0 ≤ 6 := hI5.2.2.2.1
    have X : Hx D zA zs H locs (rV a ta hD (u3 K 0 r5) wt ++ tW tk ta tb n t ++ gW tk hD G d e) := X.sub [10, 11, 12, 0, 1, 2, 3, 4, 5, 6, 7, 8, 9] rfl rfl
    refine lv_aload_n hx hb dX2_readTalk_52 rfl (lv_at hl 3 rfl) ?_
    refine g_get (v := .int (nI (r5 0))) C0 X kX2 0 2 tb136 rfl rfl rfl dX2_readTalk_53 ?_
    refine g_ifne (x := r5 0) (tgt := 70) C0 (by omega) dX2_readTalk_56 rfl (fun c5 => ?_) (fun c6 => ?_)
    · exact hE (v := ()) () rfl trivial (X.to (by rw [cTalkG, hr5, if_neg (by omega)] <;> rfl)) dX2_readTalk_70
    · have hg := talk_0 (t := t) (n := n) (r := K 0) (G := G) (by rw [hr5]; omega)
      refine lv_aload_n hx hb dX2_readTalk_59 rfl (lv_at hl 3 rfl) ?_
      refine g_get (v := .ref (hD 0)) C0 X kX2 0 1 tb134 rfl rfl rfl dX2_readTalk_60 ?_
      refine lv_iload_n hx hb dX2_readTalk_63 rfl (lv_at hl 2 rfl) ?_
      refine lv_iload_n hx hb dX2_readTalk_64 rfl (lv_at hl 1 rfl) ?_
      refine lv_iload_n hx hb dX2_readTalk_65 rfl (lv_at hl 0 rfl) ?_
      refine g_callV (As := [.int (nI (cVal t ((u3 K 0 r1) 0))), .int (nI (cVal t ((u3 K 0 r2) 0))), .int (nI (cVal t ((u3 K 0 r3) 0)))]) (rest := []) (wr := (rV a ta hD (u3 K 0 r5) wt ++ tW tk ta tb n t)) (C0.sz hl) X (c_X1_addTalk l D tk hD G d e (cVal t ((u3 K 0 r1) 0)) (cVal t ((u3 K 0 r2) 0)) (cVal t ((u3 K 0 r3) 0)) (by exact hg)) ⟨tb379, tb382, tb2, ⟨by decide, by decide, rfl⟩, rfl, rfl, Nat.le_of_ble_eq_true rfl, Nat.le_of_ble_eq_true rfl⟩ tb380 tb381 3 1 rfl rfl rfl rfl [3, 4, 5, 6, 7, 8, 9, 10, 11, 12] [0, 1, 2] rfl rfl rfl rfl rfl (Nat.le_of_ble_eq_true rfl) ⟨Nat.le_of_ble_eq_true rfl, Nat.le_of_ble_eq_true rfl⟩ dX2_readTalk_66 (fun _ H locs _ X => ?_)
      have X : Hx D zA zs H locs (rV a ta hD (u3 K 0 r5) wt ++ tW tk ta tb n t ++ gW tk hD (u2 (u2 (u2 (u2 G 5 (G 8 3) (cVal t ((u3 K 0 r1) 0))) 6 (G 8 3) (cVal t ((u3 K 0 r2) 0))) 7 (G 8 3) (cVal t ((u3 K 0 r3) 0))) 8 3 (G 8 3 + 1)) d e) := X
      refine lv_pop hx hb dX2_readTalk_69 rfl ?_
      exact hE (v := ()) () rfl trivial (X.to (by rw [cTalkG, hr5, if_pos (by omega), hr1, hr2, hr3] <;> rfl)) dX2_readTalk_70
