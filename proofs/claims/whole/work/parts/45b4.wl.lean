set_option maxHeartbeats 4000000 in
set_option maxRecDepth 100000 in
theorem c_X2_readWind (l : Launch) (D : va_G) (tk : Nat → ClassId) (a ta tb : Nat) (hD : Nat → Nat) (K : Nat → Nat → Nat) (wt : Bool) (n : Nat) (t : Nat → Nat) (G : Nat → Nat → Nat) (d e : Nat → Nat) (hn : n ≤ 160) (ht8 : ∀ j, j < n → t j < 128) (hI : RI t n (K 0)) (hd9 : DI G) : MX l yX2_readWind cX2_readWind 1 none ⟨3, 0, 0, 70⟩ D (TYS tk) [.ref a] (rV a ta hD K wt ++ tW tk ta tb n t ++ gW tk hD G d e) (fun (_ : Unit) => True) (fun _ => none) (fun _ => rV a ta hD (u3 K 0 (cWindR t n (K 0) wt)) true ++ tW tk ta tb n t ++ gW tk hD (cWindG t n (K 0) wt G) d e) 0 0 := by
  refine MX.of_v (by decide) rfl ?_
  intro zp ze zs zm za zb zt zc zA zQ ls C0 hnm X hl hE
  have hx := C0.1
  have hb := C0.2.1
  have ht := C0.2.2.2.2.1
  have X : Hx D zA zs zs.heap [] (rV a ta hD K wt ++ tW tk ta tb n t ++ gW tk hD G d e) := X
  have hl : lv_has ls 1 [(0, .ref a)] := hl
  obtain ⟨hi1, hi2, hi3, hi4, hi5, hi6, hi7⟩ := id hI
  obtain ⟨hd1, hd2, hd3⟩ := id hd9
  obtain ⟨H, hH⟩ : ∃ H, H = zs.heap := ⟨_, rfl⟩
  rw [← hH] at X ⊢
  obtain ⟨locs, hlo⟩ : ∃ L : List Loc, L = [] := ⟨_, rfl⟩
  rw [← hlo] at X ⊢
  refine lv_aload_n hx hb dX2_readWind_0 rfl (lv_at hl 0 rfl) ?_
  refine lv_aload_n hx hb dX2_readWind_1 rfl (lv_at hl 0 rfl) ?_
  refine g_get (v := .int (nI (rb wt))) C0 X kX2 0 7 tb143 rfl rfl rfl dX2_readWind_2 ?_
  refine g_ifneB (x := wt) (tgt := 12) C0 dX2_readWind_5 rfl (fun c1 => ?_) (fun c2 => ?_)
  · refine g_iconst (n := 0) C0 rfl dX2_readWind_12 ?_
    refine g_iconst (n := 4) C0 rfl dX2_readWind_13 ?_
    refine g_callV (As := [.int (nI 0), .int (nI 4)]) (rest := []) (wr := (gW tk hD G d e)) (C0.sz hl) X (c_X2_takeName l D tk a ta tb hD K wt n t false 4 (by exact hn) (by exact ht8) (by exact hI) (by first | assumption | decide | omega)) ⟨tb336, tb339, tb4, ⟨by decide, by decide, rfl⟩, rfl, rfl, Nat.le_of_ble_eq_true rfl, Nat.le_of_ble_eq_true rfl⟩ tb338 tbs7 0 2 rfl rfl rfl rfl [0, 1, 2] [3, 4, 5, 6, 7, 8, 9, 10, 11, 12] rfl rfl rfl rfl rfl (Nat.le_of_ble_eq_true rfl) ⟨Nat.le_of_ble_eq_true rfl, Nat.le_of_ble_eq_true rfl⟩ dX2_readWind_14 (fun _ H locs _ X => ?_)
    have X : Hx D zA zs H locs (gW tk hD G d e ++ rV a ta hD (u3 K 0 (cName t n (K 0) false 4)) wt ++ tW tk ta tb n t) := X
    obtain ⟨r1, hr1⟩ : ∃ z, cW1 t n (K 0) wt = z := ⟨_, rfl⟩
    have X : Hx D zA zs H locs (gW tk hD G d e ++ rV a ta hD (u3 K 0 r1) wt ++ tW tk ta tb n t) := X.to (by rw [show r1 = cName t n (K 0) false 4 from by rw [← hr1, cW1, c1] <;> rfl] <;> rfl)
    have hI1 : RI t n r1 := by rw [← hr1]; exact hI.name (by decide)
    have X : Hx D zA zs H locs (rV a ta hD (u3 K 0 r1) wt ++ tW tk ta tb n t ++ gW tk hD G d e) := X.sub [10, 11, 12, 0, 1, 2, 3, 4, 5, 6, 7, 8, 9] rfl rfl
    refine lv_aload_n hx hb dX2_readWind_17 rfl (lv_at hl 0 rfl) ?_
    refine g_get (v := .ref (hD 0)) C0 X kX2 0 1 tb134 rfl rfl rfl dX2_readWind_18 ?_
    refine lv_aload_n hx hb dX2_readWind_21 rfl (lv_at hl 0 rfl) ?_
    refine g_iconst (n := 0) C0 rfl dX2_readWind_22 ?_
    refine g_bipush (n := 20) C0 (by decide) dX2_readWind_23 ?_
    refine lv_iconst (v := (-1)) hx hb dX2_readWind_25 (by decide) ?_
    refine g_callV (As := [.int (nI 0), .int (nI 20), .int (-1)]) (rest := [.ref (hD 0)]) (wr := (gW tk hD G d e)) (C0.sz hl) X (c_X2_takeNumber l D tk a ta tb hD (u3 K 0 r1) wt n t 0 20 (-1) (by exact hn) (by exact ht8) (by exact hI1) (by first | assumption | decide | omega) (by first | assumption | decide | omega)) ⟨tb356, tb359, tb4, ⟨by decide, by decide, rfl⟩, rfl, rfl, Nat.le_of_ble_eq_true rfl, Nat.le_of_ble_eq_true rfl⟩ tb358 tbs10 0 2 rfl rfl rfl rfl [0, 1, 2] [3, 4, 5, 6, 7, 8, 9, 10, 11, 12] rfl rfl rfl rfl rfl (Nat.le_of_ble_eq_true rfl) ⟨Nat.le_of_ble_eq_true rfl, Nat.le_of_ble_eq_true rfl⟩ dX2_readWind_26 (fun _ H locs _ X => ?_)
    have X : Hx D zA zs H locs (gW tk hD G d e ++ rV a ta hD (u3 K 0 (cNum t n ((u3 K 0 r1) 0) 0 20 (-1))) wt ++ tW tk ta tb n t) := X
    obtain ⟨r2, hr2⟩ : ∃ z, cW2 t n (K 0) wt = z := ⟨_, rfl⟩
    have X : Hx D zA zs H locs (gW tk hD G d e ++ rV a ta hD (u3 K 0 r2) wt ++ tW tk ta tb n t) := X.to (by rw [show r2 = cNum t n ((u3 K 0 r1) 0) 0 20 (-1) from by rw [← hr2, cW2, hr1] <;> rfl] <;> rfl)
    have hI2 : RI t n r2 := by rw [← hr2, cW2, hr1]; exact hI1.num
    have X : Hx D zA zs H locs (rV a ta hD (u3 K 0 r2) wt ++ tW tk ta tb n t ++ gW tk hD G d e) := X.sub [10, 11, 12, 0, 1, 2, 3, 4, 5, 6, 7, 8, 9] rfl rfl
    refine g_put (v := .int (nI (cVal t ((u3 K 0 r1) 0)))) (ft := .int) C0 X kX1 3 7 tb50 rfl rfl rfl rfl rfl rfl rfl dX2_readWind_29 (fun H locs X => ?_)
    have X : Hx D zA zs H locs (rV a ta hD (u3 K 0 r2) wt ++ tW tk ta tb n t ++ gW tk hD (u2 G 8 2 (cVal t ((u3 K 0 r1) 0))) d e) := X
    refine lv_aload_n hx hb dX2_readWind_32 rfl (lv_at hl 0 rfl) ?_
    refine g_iconst (n := 1) C0 rfl dX2_readWind_33 ?_
    refine g_put (v := .int (nI 1)) (ft := .boolean) C0 X kX2 0 7 tb143 rfl rfl rfl rfl (by decide) (by decide) rfl dX2_readWind_34 (fun H locs X => ?_)
    have X : Hx D zA zs H locs (rV a ta hD (u3 K 0 r2) true ++ tW tk ta tb n t ++ gW tk hD (u2 G 8 2 (cVal t ((u3 K 0 r1) 0))) d e) := X
    refine lv_aload_n hx hb dX2_readWind_37 rfl (lv_at hl 0 rfl) ?_
    refine g_callV (As := []) (rest := []) (wr := (gW tk hD (u2 G 8 2 (cVal t ((u3 K 0 r1) 0))) d e)) (C0.sz hl) X (c_X2_takeSign l D tk a ta tb hD (u3 K 0 r2) true n t (by exact hn) (by exact ht8) (by exact hI2)) ⟨tb340, tb343, tb4, ⟨by decide, by decide, rfl⟩, rfl, rfl, Nat.le_of_ble_eq_true rfl, Nat.le_of_ble_eq_true rfl⟩ tb342 tbs8 0 2 rfl rfl rfl rfl [0, 1, 2] [3, 4, 5, 6, 7, 8, 9, 10, 11, 12] rfl rfl rfl rfl rfl (Nat.le_of_ble_eq_true rfl) ⟨Nat.le_of_ble_eq_true rfl, Nat.le_of_ble_eq_true rfl⟩ dX2_readWind_38 (fun _ H locs _ X => ?_)
    have X : Hx D zA zs H locs (gW tk hD (u2 G 8 2 (cVal t ((u3 K 0 r1) 0))) d e ++ rV a ta hD (u3 K 0 (cSign t n ((u3 K 0 r2) 0))) true ++ tW tk ta tb n t) := X
    obtain ⟨r3, hr3⟩ : ∃ z, cWindR t n (K 0) wt = z := ⟨_, rfl⟩
    have X : Hx D zA zs H locs (gW tk hD (u2 G 8 2 (cVal t ((u3 K 0 r1) 0))) d e ++ rV a ta hD (u3 K 0 r3) true ++ tW tk ta tb n t) := X.to (by rw [show r3 = cSign t n ((u3 K 0 r2) 0) from by rw [← hr3, cWindR, hr2] <;> rfl] <;> rfl)
    have X : Hx D zA zs H locs (rV a ta hD (u3 K 0 r3) true ++ tW tk ta tb n t ++ gW tk hD (u2 G 8 2 (cVal t ((u3 K 0 r1) 0))) d e) := X.sub [10, 11, 12, 0, 1, 2, 3, 4, 5, 6, 7, 8, 9] rfl rfl
    exact hE (v := ()) () rfl trivial (X.to (by rw [cWindG, hr1, hr3] <;> rfl)) dX2_readWind_41
  · refine g_iconst (n := 1) C0 rfl dX2_readWind_8 ?_
    refine lv_goto (tgt := 13) hx hb dX2_readWind_9 (by decide) ?_
    refine g_iconst (n := 4) C0 rfl dX2_readWind_13 ?_
    refine g_callV (As := [.int (nI 1), .int (nI 4)]) (rest := []) (wr := (gW tk hD G d e)) (C0.sz hl) X (c_X2_takeName l D tk a ta tb hD K wt n t true 4 (by exact hn) (by exact ht8) (by exact hI) (by first | assumption | decide | omega)) ⟨tb336, tb339, tb4, ⟨by decide, by decide, rfl⟩, rfl, rfl, Nat.le_of_ble_eq_true rfl, Nat.le_of_ble_eq_true rfl⟩ tb338 tbs7 0 2 rfl rfl rfl rfl [0, 1, 2] [3, 4, 5, 6, 7, 8, 9, 10, 11, 12] rfl rfl rfl rfl rfl (Nat.le_of_ble_eq_true rfl) ⟨Nat.le_of_ble_eq_true rfl, Nat.le_of_ble_eq_true rfl⟩ dX2_readWind_14 (fun _ H locs _ X => ?_)
    have X : Hx D zA zs H locs (gW tk hD G d e ++ rV a ta hD (u3 K 0 (cName t n (K 0) true 4)) wt ++ tW tk ta tb n t) := X
    obtain ⟨r1, hr1⟩ : ∃ z, cW1 t n (K 0) wt = z := ⟨_, rfl⟩
    have X : Hx D zA zs H locs (gW tk hD G d e ++ rV a ta hD (u3 K 0 r1) wt ++ tW tk ta tb n t) := X.to (by rw [show r1 = cName t n (K 0) true 4 from by rw [← hr1, cW1, c2] <;> rfl] <;> rfl)
    have hI1 : RI t n r1 := by rw [← hr1]; exact hI.name (by decide)
    have X : Hx D zA zs H locs (rV a ta hD (u3 K 0 r1) wt ++ tW tk ta tb n t ++ gW tk hD G d e) := X.sub [10, 11, 12, 0, 1, 2, 3, 4, 5, 6, 7, 8, 9] rfl rfl
    refine lv_aload_n hx hb dX2_readWind_17 rfl (lv_at hl 0 rfl) ?_
    refine g_get (v := .ref (hD 0)) C0 X kX2 0 1 tb134 rfl rfl rfl dX2_readWind_18 ?_
    refine lv_aload_n hx hb dX2_readWind_21 rfl (lv_at hl 0 rfl) ?_
    refine g_iconst (n := 0) C0 rfl dX2_readWind_22 ?_
    refine g_bipush (n := 20) C0 (by decide) dX2_readWind_23 ?_
    refine lv_iconst (v := (-1)) hx hb dX2_readWind_25 (by decide) ?_
    refine g_callV (As := [.int (nI 0), .int (nI 20), .int (-1)]) (rest := [.ref (hD 0)]) (wr := (gW tk hD G d e)) (C0.sz hl) X (c_X2_takeNumber l D tk a ta tb hD (u3 K 0 r1) wt n t 0 20 (-1) (by exact hn) (by exact ht8) (by exact hI1) (by first | assumption | decide | omega) (by first | assumption | decide | omega)) ⟨tb356, tb359, tb4, ⟨by decide, by decide, rfl⟩, rfl, rfl, Nat.le_of_ble_eq_true rfl, Nat.le_of_ble_eq_true rfl⟩ tb358 tbs10 0 2 rfl rfl rfl rfl [0, 1, 2] [3, 4, 5, 6, 7, 8, 9, 10, 11, 12] rfl rfl rfl rfl rfl (Nat.le_of_ble_eq_true rfl) ⟨Nat.le_of_ble_eq_true rfl, Nat.le_of_ble_eq_true rfl⟩ dX2_readWind_26 (fun _ H locs _ X => ?_)
    have X : Hx D zA zs H locs (gW tk hD G d e ++ rV a ta hD (u3 K 0 (cNum t n ((u3 K 0 r1) 0) 0 20 (-1))) wt ++ tW tk ta tb n t) := X
    obtain ⟨r2, hr2⟩ : ∃ z, cW2 t n (K 0) wt = z := ⟨_, rfl⟩
    have X : Hx D zA zs H locs (gW tk hD G d e ++ rV a ta hD (u3 K 0 r2) wt ++ tW tk ta tb n t) := X.to (by rw [show r2 = cNum t n ((u3 K 0 r1) 0) 0 20 (-1) from by rw [← hr2, cW2, hr1] <;> rfl] <;> rfl)
    have hI2 : RI t n r2 := by rw [← hr2, cW2, hr1]; exact hI1.num
    have X : Hx D zA zs H locs (rV a ta hD (u3 K 0 r2) wt ++ tW tk ta tb n t ++ gW tk hD G d e) := X.sub [10, 11, 12, 0, 1, 2, 3, 4, 5, 6, 7, 8, 9] rfl rfl
    refine g_put (v := .int (nI (cVal t ((u3 K 0 r1) 0)))) (ft := .int) C0 X kX1 3 7 tb50 rfl rfl rfl rfl rfl rfl rfl dX2_readWind_29 (fun H locs X => ?_)
    have X : Hx D zA zs H locs (rV a ta hD (u3 K 0 r2) wt ++ tW tk ta tb n t ++ gW tk hD (u2 G 8 2 (cVal t ((u3 K 0 r1) 0))) d e) := X
    refine lv_aload_n hx hb dX2_readWind_32 rfl (lv_at hl 0 rfl) ?_
    refine g_iconst (n := 1) C0 rfl dX2_readWind_33 ?_
    refine g_put (v := .int (nI 1)) (ft := .boolean) C0 X kX2 0 7 tb143 rfl rfl rfl rfl (by decide) (by decide) rfl dX2_readWind_34 (fun H locs X => ?_)
    have X : Hx D zA zs H locs (rV a ta hD (u3 K 0 r2) true ++ tW tk ta tb n t ++ gW tk hD (u2 G 8 2 (cVal t ((u3 K 0 r1) 0))) d e) := X
    refine lv_aload_n hx hb dX2_readWind_37 rfl (lv_at hl 0 rfl) ?_
    refine g_callV (As := []) (rest := []) (wr := (gW tk hD (u2 G 8 2 (cVal t ((u3 K 0 r1) 0))) d e)) (C0.sz hl) X (c_X2_takeSign l D tk a ta tb hD (u3 K 0 r2) true n t (by exact hn) (by exact ht8) (by exact hI2)) ⟨tb340, tb343, tb4, ⟨by decide, by decide, rfl⟩, rfl, rfl, Nat.le_of_ble_eq_true rfl, Nat.le_of_ble_eq_true rfl⟩ tb342 tbs8 0 2 rfl rfl rfl rfl [0, 1, 2] [3, 4, 5, 6, 7, 8, 9, 10, 11, 12] rfl rfl rfl rfl rfl (Nat.le_of_ble_eq_true rfl) ⟨Nat.le_of_ble_eq_true rfl, Nat.le_of_ble_eq_true rfl⟩ dX2_readWind_38 (fun _ H locs _ X => ?_)
    have X : Hx D zA zs H locs (gW tk hD (u2 G 8 2 (cVal t ((u3 K 0 r1) 0))) d e ++ rV a ta hD (u3 K 0 (cSign t n ((u3 K 0 r2) 0))) true ++ tW tk ta tb n t) := X
    obtain ⟨r3, hr3⟩ : ∃ z, cWindR t n (K 0) wt = z := ⟨_, rfl⟩
    have X : Hx D zA zs H locs (gW tk hD (u2 G 8 2 (cVal t ((u3 K 0 r1) 0))) d e ++ rV a ta hD (u3 K 0 r3) true ++ tW tk ta tb n t) := X.to (by rw [show r3 = cSign t n ((u3 K 0 r2) 0) from by rw [← hr3, cWindR, hr2] <;> rfl] <;> rfl)
    have X : Hx D zA zs H locs (rV a ta hD (u3 K 0 r3) true ++ tW tk ta tb n t ++ gW tk hD (u2 G 8 2 (cVal t ((u3 K 0 r1) 0))) d e) := X.sub [10, 11, 12, 0, 1, 2, 3, 4, 5, 6, 7, 8, 9] rfl rfl
    exact hE (v := ()) () rfl trivial (X.to (by rw [cWindG, hr1, hr3] <;> rfl)) dX2_readWind_41
