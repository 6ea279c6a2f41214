set_option maxHeartbeats 4000000 in
set_option maxRecDepth 100000 in
theorem c_X2_readTree (l : Launch) (D : va_G) (tk : Nat → ClassId) (a ta tb : Nat) (hD : Nat → Nat) (K : Nat → Nat → Nat) (wt : Bool) (n : Nat) (t : Nat → Nat) (G : Nat → Nat → Nat) (d e : Nat → Nat) (k : Nat) (hn : n ≤ 160) (ht8 : ∀ j, j < n → t j < 128) (hI : RI t n (K 0)) (hd9 : DI G) : MX l yX2_readTree cX2_readTree 2 none ⟨3, 0, 0, 68⟩ D (TYS tk) [.ref a, .int (nI k)] (rV a ta hD K wt ++ tW tk ta tb n t ++ gW tk hD G d e) (fun (_ : Unit) => True) (fun _ => none) (fun _ => rV a ta hD (u3 K 0 (cTreeR t n (K 0) G)) wt ++ tW tk ta tb n t ++ gW tk hD (cTreeG t n k (K 0) G) d e) 0 0 := by
  refine MX.of_v (by decide) rfl ?_
  intro zp ze zs zm za zb zt zc zA zQ ls C0 hnm X hl hE
  have hx := C0.1
  have hb := C0.2.1
  have ht := C0.2.2.2.2.1
  have X : Hx D zA zs zs.heap [] (rV a ta hD K wt ++ tW tk ta tb n t ++ gW tk hD G d e) := X
  have hl : lv_has ls 2 [(0, .ref a), (1, .int (nI k))] := hl
  obtain ⟨hi1, hi2, hi3, hi4, hi5, hi6, hi7⟩ := id hI
  obtain ⟨hd1, hd2, hd3⟩ := id hd9
  obtain ⟨H, hH⟩ : ∃ H, H = zs.heap := ⟨_, rfl⟩
  rw [← hH] at X ⊢
  obtain ⟨locs, hlo⟩ : ∃ L : List Loc, L = [] := ⟨_, rfl⟩
  rw [← hlo] at X ⊢
  refine lv_aload_n hx hb dX2_readTree_0 rfl (lv_at hl 0 rfl) ?_
  refine lv_aload_n hx hb dX2_readTree_1 rfl (lv_at hl 0 rfl) ?_
  refine g_get (v := .ref (hD 0)) C0 X kX2 0 1 tb134 rfl rfl rfl dX2_readTree_2 ?_
  refine g_get (v := .int (nI (G 8 0))) C0 X kX1 3 0 tb32 rfl rfl rfl dX2_readTree_5 ?_
  refine g_bipush (n := 6) C0 (by decide) dX2_readTree_8 ?_
  refine g_icmp_ge (x := G 8 0) (y := 6) (tgt := 17) C0 (by omega) (by omega) dX2_readTree_10 rfl (fun c1 => ?_) (fun c2 => ?_)
  · refine g_iconst (n := 0) C0 rfl dX2_readTree_17 ?_
    refine g_iconst (n := 5) C0 rfl dX2_readTree_18 ?_
    refine g_callV (As := [.int (nI 0), .int (nI 5)]) (rest := []) (wr := (gW tk hD G d e)) (C0.sz hl) X (c_X2_takeName l D tk a ta tb hD K wt n t false 5 (by exact hn) (by exact ht8) (by exact hI) (by first | assumption | decide | omega)) ⟨tb336, tb339, tb4, ⟨by decide, by decide, rfl⟩, rfl, rfl, Nat.le_of_ble_eq_true rfl, Nat.le_of_ble_eq_true rfl⟩ tb338 tbs7 0 2 rfl rfl rfl rfl [0, 1, 2] [3, 4, 5, 6, 7, 8, 9, 10, 11, 12] rfl rfl rfl rfl rfl (Nat.le_of_ble_eq_true rfl) ⟨Nat.le_of_ble_eq_true rfl, Nat.le_of_ble_eq_true rfl⟩ dX2_readTree_19 (fun _ H locs _ X => ?_)
    have X : Hx D zA zs H locs (gW tk hD G d e ++ rV a ta hD (u3 K 0 (cName t n (K 0) false 5)) wt ++ tW tk ta tb n t) := X
    have X : Hx D zA zs H locs (gW tk hD G d e ++ rV a ta hD (u3 K 0 (cT0 t n (K 0) G)) wt ++ tW tk ta tb n t) := X.to (by rw [show cT0 t n (K 0) G = cName t n (K 0) false 5 from by rw [cT0, decide_eq_false (show ¬ G 8 0 < 6 by omega)]] <;> rfl)
    have hI1 : RI t n (cT0 t n (K 0) G) := hI.name (by decide)
    have X : Hx D zA zs H locs (rV a ta hD (u3 K 0 (cT0 t n (K 0) G)) wt ++ tW tk ta tb n t ++ gW tk hD G d e) := X.sub [10, 11, 12, 0, 1, 2, 3, 4, 5, 6, 7, 8, 9] rfl rfl
    refine lv_aload_n hx hb dX2_readTree_22 rfl (lv_at hl 0 rfl) ?_
    refine g_callV (As := []) (rest := []) (wr := (gW tk hD G d e)) (C0.sz hl) X (c_X2_takeSign l D tk a ta tb hD (u3 K 0 (cT0 t n (K 0) G)) wt n t (by exact hn) (by exact ht8) (by exact hI1)) ⟨tb340, tb343, tb4, ⟨by decide, by decide, rfl⟩, rfl, rfl, Nat.le_of_ble_eq_true rfl, Nat.le_of_ble_eq_true rfl⟩ tb342 tbs8 0 2 rfl rfl rfl rfl [0, 1, 2] [3, 4, 5, 6, 7, 8, 9, 10, 11, 12] rfl rfl rfl rfl rfl (Nat.le_of_ble_eq_true rfl) ⟨Nat.le_of_ble_eq_true rfl, Nat.le_of_ble_eq_true rfl⟩ dX2_readTree_23 (fun _ H locs _ X => ?_)
    have X : Hx D zA zs H locs (gW tk hD G d e ++ rV a ta hD (u3 K 0 (cSign t n ((u3 K 0 (cT0 t n (K 0) G)) 0))) wt ++ tW tk ta tb n t) := X
    have X : Hx D zA zs H locs (gW tk hD G d e ++ rV a ta hD (u3 K 0 (cTreeR t n (K 0) G)) wt ++ tW tk ta tb n t) := X
    have hI5 : RI t n (cTreeR t n (K 0) G) := hI1.sign
    have hb6 : cTreeR t n (K 0) G 0 ≤ 6 := hI5.2.2.2.1
    have X : Hx D zA zs H locs (rV a ta hD (u3 K 0 (cTreeR t n (K 0) G)) wt ++ tW tk ta tb n t ++ gW tk hD G d e) := X.sub [10, 11, 12, 0, 1, 2, 3, 4, 5, 6, 7, 8, 9] rfl rfl
    refine lv_aload_n hx hb dX2_readTree_26 rfl (lv_at hl 0 rfl) ?_
    refine g_get (v := .int (nI ((cTreeR t n (K 0) G) 0))) C0 X kX2 0 2 tb136 rfl rfl rfl dX2_readTree_27 ?_
    refine g_ifne (x := (cTreeR t n (K 0) G) 0) (tgt := 42) C0 (by omega) dX2_readTree_30 rfl (fun c3 => ?_) (fun c4 => ?_)
    · exact hE (v := ()) () rfl trivial (X.to (by rw [cTreeG, if_neg (by omega)] <;> rfl)) dX2_readTree_42
    · have hg := tree_0 (t := t) (n := n) (r := K 0) (G := G) (by omega)
      refine lv_aload_n hx hb dX2_readTree_33 rfl (lv_at hl 0 rfl) ?_
      refine g_get (v := .ref (hD 0)) C0 X kX2 0 1 tb134 rfl rfl rfl dX2_readTree_34 ?_
      refine lv_iload_n hx hb dX2_readTree_37 rfl (lv_at hl 1 rfl) ?_
      refine g_callV (As := [.int (nI k)]) (rest := []) (wr := (rV a ta hD (u3 K 0 (cTreeR t n (K 0) G)) wt ++ tW tk ta tb n t)) (C0.sz hl) X (c_X1_addTree l D tk hD G d e k (by exact hg)) ⟨tb344, tb347, tb2, ⟨by decide, by decide, rfl⟩, rfl, rfl, Nat.le_of_ble_eq_true rfl, Nat.le_of_ble_eq_true rfl⟩ tb345 tb346 3 1 rfl rfl rfl rfl [3, 4, 5, 6, 7, 8, 9, 10, 11, 12] [0, 1, 2] rfl rfl rfl rfl rfl (Nat.le_of_ble_eq_true rfl) ⟨Nat.le_of_ble_eq_true rfl, Nat.le_of_ble_eq_true rfl⟩ dX2_readTree_38 (fun _ H locs _ X => ?_)
      have X : Hx D zA zs H locs (rV a ta hD (u3 K 0 (cTreeR t n (K 0) G)) wt ++ tW tk ta tb n t ++ gW tk hD (u2 (u2 G 0 (G 8 0) k) 8 0 (G 8 0 + 1)) d e) := X
      refine lv_pop hx hb dX2_readTree_41 rfl ?_
      exact hE (v := ()) () rfl trivial (X.to (by rw [cTreeG, if_pos (by omega)] <;> rfl)) dX2_readTree_42
  · refine g_iconst (n := 1) C0 rfl dX2_readTree_13 ?_
    refine lv_goto (tgt := 18) hx hb dX2_readTree_14 (by decide) ?_
    refine g_iconst (n := 5) C0 rfl dX2_readTree_18 ?_
    refine g_callV (As := [.int (nI 1), .int (nI 5)]) (rest := []) (wr := (gW tk hD G d e)) (C0.sz hl) X (c_X2_takeName l D tk a ta tb hD K wt n t true 5 (by exact hn) (by exact ht8) (by exact hI) (by first | assumption | decide | omega)) ⟨tb336, tb339, tb4, ⟨by decide, by decide, rfl⟩, rfl, rfl, Nat.le_of_ble_eq_true rfl, Nat.le_of_ble_eq_true rfl⟩ tb338 tbs7 0 2 rfl rfl rfl rfl [0, 1, 2] [3, 4, 5, 6, 7, 8, 9, 10, 11, 12] rfl rfl rfl rfl rfl (Nat.le_of_ble_eq_true rfl) ⟨Nat.le_of_ble_eq_true rfl, Nat.le_of_ble_eq_true rfl⟩ dX2_readTree_19 (fun _ H locs _ X => ?_)
    have X : Hx D zA zs H locs (gW tk hD G d e ++ rV a ta hD (u3 K 0 (cName t n (K 0) true 5)) wt ++ tW tk ta tb n t) := X
    have X : Hx D zA zs H locs (gW tk hD G d e ++ rV a ta hD (u3 K 0 (cT0 t n (K 0) G)) wt ++ tW tk ta tb n t) := X.to (by rw [show cT0 t n (K 0) G = cName t n (K 0) true 5 from by rw [cT0, decide_eq_true (show G 8 0 < 6 by omega)]] <;> rfl)
    have hI1 : RI t n (cT0 t n (K 0) G) := hI.name (by decide)
    have X : Hx D zA zs H locs (rV a ta hD (u3 K 0 (cT0 t n (K 0) G)) wt ++ tW tk ta tb n t ++ gW tk hD G d e) := X.sub [10, 11, 12, 0, 1, 2, 3, 4, 5, 6, 7, 8, 9] rfl rfl
    refine lv_aload_n hx hb dX2_readTree_22 rfl (lv_at hl 0 rfl) ?_
    refine g_callV (As := []) (rest := []) (wr := (gW tk hD G d e)) (C0.sz hl) X (c_X2_takeSign l D tk a ta tb hD (u3 K 0 (cT0 t n (K 0) G)) wt n t (by exact hn) (by exact ht8) (by exact hI1)) ⟨tb340, tb343, tb4, ⟨by decide, by decide, rfl⟩, rfl, rfl, Nat.le_of_ble_eq_true rfl, Nat.le_of_ble_eq_true rfl⟩ tb342 tbs8 0 2 rfl rfl rfl rfl [0, 1, 2] [3, 4, 5, 6, 7, 8, 9, 10, 11, 12] rfl rfl rfl rfl rfl (Nat.le_of_ble_eq_true rfl) ⟨Nat.le_of_ble_eq_true rfl, Nat.le_of_ble_eq_true rfl⟩ dX2_readTree_23 (fun _ H locs _ X => ?_)
    have X : Hx D zA zs H locs (gW tk hD G d e ++ rV a ta hD (u3 K 0 (cSign t n ((u3 K 0 (cT0 t n (K 0) G)) 0))) wt ++ tW tk ta tb n t) := X
    have X : Hx D zA zs H locs (gW tk hD G d e ++ rV a ta hD (u3 K 0 (cTreeR t n (K 0) G)) wt ++ tW tk ta tb n t) := X
    have hI5 : RI t n (cTreeR t n (K 0) G) := hI1.sign
    have hb6 : cTreeR t n (K 0) G 0 ≤ 6 := hI5.2.2.2.1
    have X : Hx D zA zs H locs (rV a ta hD (u3 K 0 (cTreeR t n (K 0) G)) wt ++ tW tk ta tb n t ++ gW tk hD G d e) := X.sub [10, 11, 12, 0, 1, 2, 3, 4, 5, 6, 7, 8, 9] rfl rfl
    refine lv_aload_n hx hb dX2_readTree_26 rfl (lv_at hl 0 rfl) ?_
    refine g_get (v := .int (nI ((cTreeR t n (K 0) G) 0))) C0 X kX2 0 2 tb136 rfl rfl rfl dX2_readTree_27 ?_
    refine g_ifne (x := (cTreeR t n (K 0) G) 0) (tgt := 42) C0 (by omega) dX2_readTree_30 rfl (fun c5 => ?_) (fun c6 => ?_)
    · exact hE (v := ()) () rfl trivial (X.to (by rw [cTreeG, if_neg (by omega)] <;> rfl)) dX2_readTree_42
    · have hg := tree_0 (t := t) (n := n) (r := K 0) (G := G) (by omega)
      refine lv_aload_n hx hb dX2_readTree_33 rfl (lv_at hl 0 rfl) ?_
      refine g_get (v := .ref (hD 0)) C0 X kX2 0 1 tb134 rfl rfl rfl dX2_readTree_34 ?_
      refine lv_iload_n hx hb dX2_readTree_37 rfl (lv_at hl 1 rfl) ?_
      refine g_callV (As := [.int (nI k)]) (rest := []) (wr := (rV a ta hD (u3 K 0 (cTreeR t n (K 0) G)) wt ++ tW tk ta tb n t)) (C0.sz hl) X (c_X1_addTree l D tk hD G d e k (by exact hg)) ⟨tb344, tb347, tb2, ⟨by decide, by decide, rfl⟩, rfl, rfl, Nat.le_of_ble_eq_true rfl, Nat.le_of_ble_eq_true rfl⟩ tb345 tb346 3 1 rfl rfl rfl rfl [3, 4, 5, 6, 7, 8, 9, 10, 11, 12] [0, 1, 2] rfl rfl rfl rfl rfl (Nat.le_of_ble_eq_true rfl) ⟨Nat.le_of_ble_eq_true rfl, Nat.le_of_ble_eq_true rfl⟩ dX2_readTree_38 (fun _ H locs _ X => ?_)
      have X : Hx D zA zs H locs (rV a ta hD (u3 K 0 (cTreeR t n (K 0) G)) wt ++ tW tk ta tb n t ++ gW tk hD (u2 (u2 G 0 (G 8 0) k) 8 0 (G 8 0 + 1)) d e) := X
      refine lv_pop hx hb dX2_readTree_41 rfl ?_
      exact hE (v := ()) () rfl trivial (X.to (by rw [cTreeG, if_pos (by omega)] <;> rfl)) dX2_readTree_42
