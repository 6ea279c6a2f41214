set_option maxHeartbeats 4000000 in
set_option maxRecDepth 100000 in
theorem c_X2_fail (l : Launch) (D : va_G) (tk : Nat → ClassId) (a ta : Nat) (hD : Nat → Nat) (K : Nat → Nat → Nat) (wt : Bool) (c : Nat) (hf0 : K 0 0 ≤ 6) : MX l yX2_fail cX2_fail 2 none ⟨0, 0, 0, 0⟩ D (TYS tk) [.ref a, .int (nI c)] (rV a ta hD K wt) (fun (_ : Unit) => True) (fun _ => none) (fun _ => rV a ta hD (u3 K 0 (cFail (K 0) c)) wt) 0 0 := by
  refine MX.of_v (by decide) rfl ?_
  intro zp ze zs zm za zb zt zc zA zQ ls C0 hnm X hl hE
  have hx := C0.1
  have hb := C0.2.1
  have ht := C0.2.2.2.2.1
  have X : Hx D zA zs zs.heap [] (rV a ta hD K wt) := X
  have hl : lv_has ls 2 [(0, .ref a), (1, .int (nI c))] := hl
  obtain ⟨H, hH⟩ : ∃ H, H = zs.heap := ⟨_, rfl⟩
  rw [← hH] at X ⊢
  obtain ⟨locs, hlo⟩ : ∃ L : List Loc, L = [] := ⟨_, rfl⟩
  rw [← hlo] at X ⊢
  refine lv_aload_n hx hb dX2_fail_0 rfl (lv_at hl 0 rfl) ?_
  refine g_get (v := .int (nI (K 0 0))) C0 X kX2 0 2 tb136 rfl rfl rfl dX2_fail_1 ?_
  refine g_ifne (x := K 0 0) (tgt := 20) C0 (by omega) dX2_fail_4 rfl (fun c1 => ?_) (fun c2 => ?_)
  · exact hE (v := ()) () rfl trivial (X.to (by rw [show cFail (K 0) c = K 0 from if_neg (by omega)]; rfl)) dX2_fail_20
  · refine lv_aload_n hx hb dX2_fail_7 rfl (lv_at hl 0 rfl) ?_
    refine lv_iload_n hx hb dX2_fail_8 rfl (lv_at hl 1 rfl) ?_
    refine g_put (v := .int (nI c)) (ft := .int) C0 X kX2 0 2 tb136 rfl rfl rfl rfl rfl rfl rfl dX2_fail_9 (fun H locs X => ?_)
    have X : Hx D zA zs H locs (rV a ta hD (u2 K 0 0 c) wt) := X
    refine lv_aload_n hx hb dX2_fail_12 rfl (lv_at hl 0 rfl) ?_
    refine lv_aload_n hx hb dX2_fail_13 rfl (lv_at hl 0 rfl) ?_
    refine g_get (v := .int (nI (K 0 3))) C0 X kX2 0 5 tb141 rfl rfl rfl dX2_fail_14 ?_
    refine g_put (v := .int (nI (K 0 3))) (ft := .int) C0 X kX2 0 3 tb138 rfl rfl rfl rfl rfl rfl rfl dX2_fail_17 (fun H locs X => ?_)
    have X : Hx D zA zs H locs (rV a ta hD (u2 (u2 K 0 0 c) 0 1 (K 0 3)) wt) := X
    exact hE (v := ()) () rfl trivial (X.to (by rw [show cFail (K 0) c = u1 (u1 (K 0) 0 c) 1 (K 0 3) from if_pos (by omega)]; rfl)) dX2_fail_20
set_option maxHeartbeats 4000000 in
set_option maxRecDepth 100000 in
theorem c_X2_setToken (l : Launch) (D : va_G) (tk : Nat → ClassId) (a ta : Nat) (hD : Nat → Nat) (K : Nat → Nat → Nat) (wt : Bool) (x y : Nat) : MX l yX2_setToken cX2_setToken 3 none ⟨0, 0, 0, 0⟩ D (TYS tk) [.ref a, .int (nI x), .int (nI y)] (rV a ta hD K wt) (fun (_ : Unit) => True) (fun _ => none) (fun _ => rV a ta hD (u2 (u2 K 0 2 x) 0 4 y) wt) 0 0 := by
  refine MX.of_v (by decide) rfl ?_
  intro zp ze zs zm za zb zt zc zA zQ ls C0 hnm X hl hE
  have hx := C0.1
  have hb := C0.2.1
  have ht := C0.2.2.2.2.1
  have X : Hx D zA zs zs.heap [] (rV a ta hD K wt) := X
  have hl : lv_has ls 3 [(0, .ref a), (1, .int (nI x)), (2, .int (nI y))] := hl
  obtain ⟨H, hH⟩ : ∃ H, H = zs.heap := ⟨_, rfl⟩
  rw [← hH] at X ⊢
  obtain ⟨locs, hlo⟩ : ∃ L : List Loc, L = [] := ⟨_, rfl⟩
  rw [← hlo] at X ⊢
  refine lv_aload_n hx hb dX2_setToken_0 rfl (lv_at hl 0 rfl) ?_
  refine lv_iload_n hx hb dX2_setToken_1 rfl (lv_at hl 1 rfl) ?_
  refine g_put (v := .int (nI x)) (ft := .int) C0 X kX2 0 4 tb140 rfl rfl rfl rfl rfl rfl rfl dX2_setToken_2 (fun H locs X => ?_)
  have X : Hx D zA zs H locs (rV a ta hD (u2 K 0 2 x) wt) := X
  refine lv_aload_n hx hb dX2_setToken_5 rfl (lv_at hl 0 rfl) ?_
  refine lv_iload_n hx hb dX2_setToken_6 rfl (lv_at hl 2 rfl) ?_
  refine g_put (v := .int (nI y)) (ft := .int) C0 X kX2 0 6 tb142 rfl rfl rfl rfl rfl rfl rfl dX2_setToken_7 (fun H locs X => ?_)
  have X : Hx D zA zs H locs (rV a ta hD (u2 (u2 K 0 2 x) 0 4 y) wt) := X
  exact hE (v := ()) () rfl trivial X dX2_setToken_10
set_option maxHeartbeats 4000000 in
set_option maxRecDepth 100000 in
theorem c_X2_endOfRun (l : Launch) (D : va_G) (tk : Nat → ClassId) (a ta tb : Nat) (hD : Nat → Nat) (K : Nat → Nat → Nat) (wt : Bool) (n : Nat) (t : Nat → Nat) (p lo hi9 : Nat) (hn : n ≤ 160) (ht8 : ∀ j, j < n → t j < 128) (hp : p ≤ n) (hlo : lo < 128) (hhi : hi9 < 128) : MX l yX2_endOfRun cX2_endOfRun 5 (some .int) ⟨0, 0, 0, 0⟩ D (TYS tk) [.ref a, .int (nI p), .int (nI lo), .int (nI hi9)] (rV a ta hD K wt ++ tW tk ta tb n t) (fun (_ : Unit) => True) (fun _ => some (.int (nI (eor t n lo hi9 p)))) (fun _ => rV a ta hD K wt ++ tW tk ta tb n t) 0 0 := by
  refine MX.of_i (by decide) rfl ?_
  intro zp ze zs zm za zb zt zc zA zQ ls C0 hnm X hl hE
  have hx := C0.1
  have hb := C0.2.1
  have ht := C0.2.2.2.2.1
  have X : Hx D zA zs zs.heap [] (rV a ta hD K wt ++ tW tk ta tb n t) := X
  have hl : lv_has ls 5 [(0, .ref a), (1, .int (nI p)), (2, .int (nI lo)), (3, .int (nI hi9))] := hl
  obtain ⟨H, hH⟩ : ∃ H, H = zs.heap := ⟨_, rfl⟩
  rw [← hH] at X ⊢
  obtain ⟨locs, hlo⟩ : ∃ L : List Loc, L = [] := ⟨_, rfl⟩
  rw [← hlo] at X ⊢
  refine lv_iload_n hx hb dX2_endOfRun_0 rfl (lv_at hl 1 rfl) ?_
  refine lv_istore (lv' := [(4, .int (nI p)), (0, .ref a), (1, .int (nI p)), (2, .int (nI lo)), (3, .int (nI hi9))]) hx hb dX2_endOfRun_1 hl (by decide) rfl (fun ls hl => ?_)
  have J3 : ∀ (fz : Nat) (e : Nat), n - e < fz → ∀ (he : e ≤ n) (heq : eor t n lo hi9 p = eor t n lo hi9 e) (H : Heap) (locs : List Loc) (ls : Array Slot), Hx D zA zs H locs (rV a ta hD K wt ++ tW tk ta tb n t) → lv_has ls 5 [(4, .int (nI e)), (0, .ref a), (1, .int (nI p)), (2, .int (nI lo)), (3, .int (nI hi9))] → W zp l ze ⟨0, 0, 0, 0⟩ zs zm za zb zt zc H locs 0 0 zQ (F0 zm 3 ls []) := by
    intro fz
    induction fz with
    | zero => intro e hz; exact absurd hz (Nat.not_lt_zero _)
    | succ fz ih3 =>
      intro e hz3 he heq H locs ls X hl
      refine lv_iload hx hb dX2_endOfRun_3 (lv_at hl 0 rfl) ?_
      refine lv_aload_n hx hb dX2_endOfRun_5 rfl (lv_at hl 1 rfl) ?_
      refine g_get (v := .ref ta) C0 X kX2 0 0 tb132 rfl rfl rfl dX2_endOfRun_6 ?_
      refine g_get (v := .int (nI n)) C0 X kX5 1 0 tb120 rfl rfl rfl dX2_endOfRun_9 ?_
      refine g_icmp_ge (x := e) (y := n) (tgt := 49) C0 (by omega) (by omega) dX2_endOfRun_12 rfl (fun c1 => ?_) (fun c2 => ?_)
      · refine lv_iload hx hb dX2_endOfRun_49 (lv_at hl 0 rfl) ?_
        exact hE (v := nI e) () (by rw [heq, eor_n (by omega)]) trivial X dX2_endOfRun_51
      · have h8 := ht8 e (by omega)
        refine lv_aload_n hx hb dX2_endOfRun_15 rfl (lv_at hl 1 rfl) ?_
        refine g_get (v := .ref ta) C0 X kX2 0 0 tb132 rfl rfl rfl dX2_endOfRun_16 ?_
        refine g_get (v := .ref tb) C0 X kX5 1 1 tb123 rfl rfl rfl dX2_endOfRun_19 ?_
        refine lv_iload hx hb dX2_endOfRun_22 (lv_at hl 0 rfl) ?_
        refine g_bald (v := nI (t e)) (i := e) C0 X 2 1 rfl rfl (by omega) rfl rfl dX2_endOfRun_24 ?_
        refine lv_iload_n hx hb dX2_endOfRun_25 rfl (lv_at hl 3 rfl) ?_
        refine g_icmp_lt (x := t e) (y := lo) (tgt := 49) C0 (by omega) (by omega) dX2_endOfRun_26 rfl (fun c3 => ?_) (fun c4 => ?_)
        · refine lv_iload hx hb dX2_endOfRun_49 (lv_at hl 0 rfl) ?_
          exact hE (v := nI e) () (by rw [heq, eor_n (by omega)]) trivial X dX2_endOfRun_51
        · refine lv_aload_n hx hb dX2_endOfRun_29 rfl (lv_at hl 1 rfl) ?_
          refine g_get (v := .ref ta) C0 X kX2 0 0 tb132 rfl rfl rfl dX2_endOfRun_30 ?_
          refine g_get (v := .ref tb) C0 X kX5 1 1 tb123 rfl rfl rfl dX2_endOfRun_33 ?_
          refine lv_iload hx hb dX2_endOfRun_36 (lv_at hl 0 rfl) ?_
          refine g_bald (v := nI (t e)) (i := e) C0 X 2 1 rfl rfl (by omega) rfl rfl dX2_endOfRun_38 ?_
          refine lv_iload_n hx hb dX2_endOfRun_39 rfl (lv_at hl 4 rfl) ?_
          refine g_icmp_gt (x := t e) (y := hi9) (tgt := 49) C0 (by omega) (by omega) dX2_endOfRun_40 rfl (fun c5 => ?_) (fun c6 => ?_)
          · refine lv_iload hx hb dX2_endOfRun_49 (lv_at hl 0 rfl) ?_
            exact hE (v := nI e) () (by rw [heq, eor_n (by omega)]) trivial X dX2_endOfRun_51
          · refine g_iinc (j := 1) (z := e + 1) (lv' := [(4, .int (nI (e + 1))), (0, .ref a), (1, .int (nI p)), (2, .int (nI lo)), (3, .int (nI hi9))]) C0 rfl (by first | rfl | omega) dX2_endOfRun_43 hl (k := 0) rfl (by decide) rfl (fun ls hl => ?_)
            refine lv_goto (tgt := 3) hx hb dX2_endOfRun_46 (by decide) ?_
            exact ih3 (e + 1) (by omega) (by omega) (by rw [heq, eor_y (by omega) (by omega) (by omega)]) H locs ls X (lv_sub hl [0, 1, 2, 3, 4] rfl)
  exact J3 ((n - p) + 1) p (Nat.lt_succ_self _) (by omega) (by rfl) H locs ls X (lv_sub hl [0, 1, 2, 3, 4] rfl)
set_option maxHeartbeats 4000000 in
set_option maxRecDepth 100000 in
theorem c_X2_readToken (l : Launch) (D : va_G) (tk : Nat → ClassId) (a ta tb : Nat) (hD : Nat → Nat) (K : Nat → Nat → Nat) (wt : Bool) (n : Nat) (t : Nat → Nat) (hn : n ≤ 160) (ht8 : ∀ j, j < n → t j < 128) (hi2 : K 0 4 ≤ n) (hi4 : K 0 0 ≤ 6) : MX l yX2_readToken cX2_readToken 3 none ⟨1, 0, 0, 24⟩ D (TYS tk) [.ref a] (rV a ta hD K wt ++ tW tk ta tb n t) (fun (_ : Unit) => True) (fun _ => none) (fun _ => rV a ta hD (u3 K 0 (cTok t n (K 0))) wt ++ tW tk ta tb n t) 0 0 := by
  refine MX.of_v (by decide) rfl ?_
  intro zp ze zs zm za zb zt zc zA zQ ls C0 hnm X hl hE
  have hx := C0.1
  have hb := C0.2.1
  have ht := C0.2.2.2.2.1
  have X : Hx D zA zs zs.heap [] (rV a ta hD K wt ++ tW tk ta tb n t) := X
  have hl : lv_has ls 3 [(0, .ref a)] := hl
  obtain ⟨H, hH⟩ : ∃ H, H = zs.heap := ⟨_, rfl⟩
  rw [← hH] at X ⊢
  obtain ⟨locs, hlo⟩ : ∃ L : List Loc, L = [] := ⟨_, rfl⟩
  rw [← hlo] at X ⊢
  refine lv_aload_n hx hb dX2_readToken_0 rfl (lv_at hl 0 rfl) ?_
  refine g_get (v := .int (nI (K 0 0))) C0 X kX2 0 2 tb136 rfl rfl rfl dX2_readToken_1 ?_
  refine g_ifeq (x := K 0 0) (tgt := 8) C0 (by omega) dX2_readToken_4 rfl (fun c1 => ?_) (fun c2 => ?_)
  · have hf : K 0 0 = 0 := c1
    refine lv_aload_n hx hb dX2_readToken_8 rfl (lv_at hl 0 rfl) ?_
    refine lv_aload_n hx hb dX2_readToken_9 rfl (lv_at hl 0 rfl) ?_
    refine lv_aload_n hx hb dX2_readToken_10 rfl (lv_at hl 0 rfl) ?_
    refine g_get (v := .int (nI (K 0 4))) C0 X kX2 0 6 tb142 rfl rfl rfl dX2_readToken_11 ?_
    refine g_bipush (n := 32) C0 (by decide) dX2_readToken_14 ?_
    refine g_bipush (n := 32) C0 (by decide) dX2_readToken_16 ?_
    refine g_callV (As := [.int (nI (K 0 4)), .int (nI 32), .int (nI 32)]) (rest := [.ref a]) (wr := []) (C0.sz hl) X (c_X2_endOfRun l D tk a ta tb hD K wt n t (K 0 4) 32 32 (by first | assumption | omega) (by first | assumption | omega) (by first | assumption | omega) (by first | assumption | omega) (by first | assumption | omega)) ⟨tb263, tb266, tb4, ⟨by decide, by decide, rfl⟩, rfl, rfl, Nat.le_of_ble_eq_true rfl, Nat.le_of_ble_eq_true rfl⟩ tb265 tbs1 0 2 rfl rfl rfl rfl [0, 1, 2] [] rfl rfl rfl rfl rfl (Nat.le_of_ble_eq_true rfl) ⟨Nat.le_of_ble_eq_true rfl, Nat.le_of_ble_eq_true rfl⟩ dX2_readToken_18 (fun _ H locs _ X => ?_)
    have X : Hx D zA zs H locs (rV a ta hD K wt ++ tW tk ta tb n t) := X
    obtain ⟨s1, es1⟩ : ∃ z, z = eor t n 32 32 (K 0 4) := ⟨_, rfl⟩
    refine g_top (y := nI s1) (by rw [es1]) ?_
    have hs := eor_b (t := t) (n := n) (lo := 32) (hi := 32) hi2
    rw [← es1] at hs
    obtain ⟨hs1, hs2, hs3, hs4⟩ := hs
    refine g_put (v := .int (nI s1)) (ft := .int) C0 X kX2 0 5 tb141 rfl rfl rfl rfl rfl rfl rfl dX2_readToken_21 (fun H locs X => ?_)
    have X : Hx D zA zs H locs (rV a ta hD (u2 K 0 3 s1) wt ++ tW tk ta tb n t) := X
    refine lv_aload_n hx hb dX2_readToken_24 rfl (lv_at hl 0 rfl) ?_
    refine lv_aload_n hx hb dX2_readToken_25 rfl (lv_at hl 0 rfl) ?_
    refine g_get (v := .int (nI s1)) C0 X kX2 0 5 tb141 rfl rfl rfl dX2_readToken_26 ?_
    refine g_bipush (n := 97) C0 (by decide) dX2_readToken_29 ?_
    refine g_bipush (n := 122) C0 (by decide) dX2_readToken_31 ?_
    refine g_callV (As := [.int (nI s1), .int (nI 97), .int (nI 122)]) (rest := []) (wr := []) (C0.sz hl) X (c_X2_endOfRun l D tk a ta tb hD (u2 K 0 3 s1) wt n t s1 97 122 (by first | assumption | omega) (by first | assumption | omega) (by first | assumption | omega) (by first | assumption | omega) (by first | assumption | omega)) ⟨tb263, tb266, tb4, ⟨by decide, by decide, rfl⟩, rfl, rfl, Nat.le_of_ble_eq_true rfl, Nat.le_of_ble_eq_true rfl⟩ tb265 tbs1 0 2 rfl rfl rfl rfl [0, 1, 2] [] rfl rfl rfl rfl rfl (Nat.le_of_ble_eq_true rfl) ⟨Nat.le_of_ble_eq_true rfl, Nat.le_of_ble_eq_true rfl⟩ dX2_readToken_33 (fun _ H locs _ X => ?_)
    have X : Hx D zA zs H locs (rV a ta hD (u2 K 0 3 s1) wt ++ tW tk ta tb n t) := X
    have ha := eor_b (t := t) (n := n) (lo := 97) (hi := 122) hs2
    obtain ⟨ha1, ha2, ha3, ha4⟩ := ha
    refine lv_istore_n (lv' := [(1, .int (nI (eor t n 97 122 s1))), (0, .ref a)]) hx hb dX2_readToken_36 rfl hl (by decide) rfl (fun ls hl => ?_)
    refine lv_aload_n hx hb dX2_readToken_37 rfl (lv_at hl 1 rfl) ?_
    refine lv_aload_n hx hb dX2_readToken_38 rfl (lv_at hl 1 rfl) ?_
    refine g_get (v := .int (nI s1)) C0 X kX2 0 5 tb141 rfl rfl rfl dX2_readToken_39 ?_
    refine g_bipush (n := 48) C0 (by decide) dX2_readToken_42 ?_
    refine g_bipush (n := 57) C0 (by decide) dX2_readToken_44 ?_
    refine g_callV (As := [.int (nI s1), .int (nI 48), .int (nI 57)]) (rest := []) (wr := []) (C0.sz hl) X (c_X2_endOfRun l D tk a ta tb hD (u2 K 0 3 s1) wt n t s1 48 57 (by first | assumption | omega) (by first | assumption | omega) (by first | assumption | omega) (by first | assumption | omega) (by first | assumption | omega)) ⟨tb263, tb266, tb4, ⟨by decide, by decide, rfl⟩, rfl, rfl, Nat.le_of_ble_eq_true rfl, Nat.le_of_ble_eq_true rfl⟩ tb265 tbs1 0 2 rfl rfl rfl rfl [0, 1, 2] [] rfl rfl rfl rfl rfl (Nat.le_of_ble_eq_true rfl) ⟨Nat.le_of_ble_eq_true rfl, Nat.le_of_ble_eq_true rfl⟩ dX2_readToken_46 (fun _ H locs _ X => ?_)
    have X : Hx D zA zs H locs (rV a ta hD (u2 K 0 3 s1) wt ++ tW tk ta tb n t) := X
    have hd := eor_b (t := t) (n := n) (lo := 48) (hi := 57) hs2
    obtain ⟨hd1, hd2, hd3, hd4⟩ := hd
    refine lv_istore_n (lv' := [(2, .int (nI (eor t n 48 57 s1))), (1, .int (nI (eor t n 97 122 s1))), (0, .ref a)]) hx hb dX2_readToken_49 rfl hl (by decide) rfl (fun ls hl => ?_)
    refine lv_aload_n hx hb dX2_readToken_50 rfl (lv_at hl 2 rfl) ?_
    refine g_get (v := .int (nI s1)) C0 X kX2 0 5 tb141 rfl rfl rfl dX2_readToken_51 ?_
    refine lv_aload_n hx hb dX2_readToken_54 rfl (lv_at hl 2 rfl) ?_
    refine g_get (v := .ref ta) C0 X kX2 0 0 tb132 rfl rfl rfl dX2_readToken_55 ?_
    refine g_get (v := .int (nI n)) C0 X kX5 1 0 tb120 rfl rfl rfl dX2_readToken_58 ?_
    refine g_icmp_lt (x := s1) (y := n) (tgt := 76) C0 (by omega) (by omega) dX2_readToken_61 rfl (fun c3 => ?_) (fun c4 => ?_)
    · refine lv_iload_n hx hb dX2_readToken_76 rfl (lv_at hl 1 rfl) ?_
      refine lv_aload_n hx hb dX2_readToken_77 rfl (lv_at hl 2 rfl) ?_
      refine g_get (v := .int (nI s1)) C0 X kX2 0 5 tb141 rfl rfl rfl dX2_readToken_78 ?_
      refine g_icmp_le (x := eor t n 97 122 s1) (y := s1) (tgt := 93) C0 (by omega) (by omega) dX2_readToken_81 rfl (fun c5 => ?_) (fun c6 => ?_)
      · refine lv_iload_n hx hb dX2_readToken_93 rfl (lv_at hl 0 rfl) ?_
        refine lv_aload_n hx hb dX2_readToken_94 rfl (lv_at hl 2 rfl) ?_
        refine g_get (v := .int (nI s1)) C0 X kX2 0 5 tb141 rfl rfl rfl dX2_readToken_95 ?_
        refine g_iconst (n := 2) C0 rfl dX2_readToken_98 ?_
        refine g_iadd (n := s1 + 2) C0 (by first | rfl | omega) dX2_readToken_99 ?_
        refine g_icmp_le (x := eor t n 48 57 s1) (y := s1 + 2) (tgt := 111) C0 (by omega) (by omega) dX2_readToken_100 rfl (fun c7 => ?_) (fun c8 => ?_)
        · refine lv_iload_n hx hb dX2_readToken_111 rfl (lv_at hl 0 rfl) ?_
          refine lv_aload_n hx hb dX2_readToken_112 rfl (lv_at hl 2 rfl) ?_
          refine g_get (v := .int (nI s1)) C0 X kX2 0 5 tb141 rfl rfl rfl dX2_readToken_113 ?_
          refine g_icmp_le (x := eor t n 48 57 s1) (y := s1) (tgt := 128) C0 (by omega) (by omega) dX2_readToken_116 rfl (fun c9 => ?_) (fun c10 => ?_)
          · refine lv_aload_n hx hb dX2_readToken_128 rfl (lv_at hl 2 rfl) ?_
            refine g_get (v := .ref ta) C0 X kX2 0 0 tb132 rfl rfl rfl dX2_readToken_129 ?_
            refine g_get (v := .ref tb) C0 X kX5 1 1 tb123 rfl rfl rfl dX2_readToken_132 ?_
            refine lv_aload_n hx hb dX2_readToken_135 rfl (lv_at hl 2 rfl) ?_
            refine g_get (v := .int (nI s1)) C0 X kX2 0 5 tb141 rfl rfl rfl dX2_readToken_136 ?_
            have h8 := ht8 s1 (by omega)
            refine g_bald (v := nI (t s1)) (i := s1) C0 X 2 1 rfl rfl (by omega) rfl rfl dX2_readToken_139 ?_
            refine g_bipush (n := 59) C0 (by decide) dX2_readToken_140 ?_
            refine g_icmp_ne (x := t s1) (y := 59) (tgt := 159) C0 (by omega) (by omega) dX2_readToken_142 rfl (fun c11 => ?_) (fun c12 => ?_)
            · refine lv_aload_n hx hb dX2_readToken_159 rfl (lv_at hl 2 rfl) ?_
              refine g_iconst (n := 1) C0 rfl dX2_readToken_160 ?_
              refine g_callV (As := [.int (nI 1)]) (rest := []) (wr := (tW tk ta tb n t)) (C0.sz hl) X (c_X2_fail l D tk a ta hD (u2 K 0 3 s1) wt 1 (by show K 0 0 ≤ 6; omega)) ⟨tb271, tb274, tb4, ⟨by decide, by decide, rfl⟩, rfl, rfl, Nat.le_of_ble_eq_true rfl, Nat.le_of_ble_eq_true rfl⟩ tb273 tbs3 0 2 rfl rfl rfl rfl [0] [1, 2] rfl rfl rfl rfl rfl (Nat.le_of_ble_eq_true rfl) ⟨Nat.le_of_ble_eq_true rfl, Nat.le_of_ble_eq_true rfl⟩ dX2_readToken_161 (fun _ H locs _ X => ?_)
              have X : Hx D zA zs H locs (tW tk ta tb n t ++ rV a ta hD (u3 K 0 (cFail ((u2 K 0 3 s1) 0) 1)) wt) := X
              have X : Hx D zA zs H locs (rV a ta hD (u3 K 0 (cFail ((u2 K 0 3 s1) 0) 1)) wt ++ tW tk ta tb n t) := X.sub [2, 0, 1] rfl rfl
              have tokE : cTok t n (K 0) = cFail (u1 (K 0) 3 s1) 1 := by
                rw [cTok, if_pos hf]; show cTk t n (K 0) (eor t n 32 32 (K 0 4)) = _
                rw [← es1]
                unfold cTk
                first | (rw [if_pos (by omega)] <;> rfl) | (rw [if_neg (by omega), if_pos (by omega)] <;> rfl) | (rw [if_neg (by omega), if_neg (by omega), if_pos (by omega)] <;> rfl) | (rw [if_neg (by omega), if_neg (by omega), if_neg (by omega), if_pos (by omega)] <;> rfl) | (rw [if_neg (by omega), if_neg (by omega), if_neg (by omega), if_neg (by omega), if_pos (by omega)] <;> rfl) | (rw [if_neg (by omega), if_neg (by omega), if_neg (by omega), if_neg (by omega), if_neg (by omega)] <;> rfl)
              exact hE (v := ()) () rfl trivial (X.to (by rw [tokE] <;> rfl)) dX2_readToken_164
            · refine lv_aload_n hx hb dX2_readToken_145 rfl (lv_at hl 2 rfl) ?_
              refine g_iconst (n := 2) C0 rfl dX2_readToken_146 ?_
              refine lv_aload_n hx hb dX2_readToken_147 rfl (lv_at hl 2 rfl) ?_
              refine g_get (v := .int (nI s1)) C0 X kX2 0 5 tb141 rfl rfl rfl dX2_readToken_148 ?_
              refine g_iconst (n := 1) C0 rfl dX2_readToken_151 ?_
              refine g_iadd (n := s1 + 1) C0 (by first | rfl | omega) dX2_readToken_152 ?_
              refine g_callV (As := [.int (nI 2), .int (nI (s1 + 1))]) (rest := []) (wr := (tW tk ta tb n t)) (C0.sz hl) X (c_X2_setToken l D tk a ta hD (u2 K 0 3 s1) wt 2 (s1 + 1)) ⟨tb267, tb270, tb4, ⟨by decide, by decide, rfl⟩, rfl, rfl, Nat.le_of_ble_eq_true rfl, Nat.le_of_ble_eq_true rfl⟩ tb269 tbs2 0 2 rfl rfl rfl rfl [0] [1, 2] rfl rfl rfl rfl rfl (Nat.le_of_ble_eq_true rfl) ⟨Nat.le_of_ble_eq_true rfl, Nat.le_of_ble_eq_true rfl⟩ dX2_readToken_153 (fun _ H locs _ X => ?_)
              have X : Hx D zA zs H locs (tW tk ta tb n t ++ rV a ta hD (u2 (u2 (u2 K 0 3 s1) 0 2 2) 0 4 (s1 + 1)) wt) := X
              have X : Hx D zA zs H locs (rV a ta hD (u2 (u2 (u2 K 0 3 s1) 0 2 2) 0 4 (s1 + 1)) wt ++ tW tk ta tb n t) := X.sub [2, 0, 1] rfl rfl
              refine lv_goto (tgt := 164) hx hb dX2_readToken_156 (by decide) ?_
              have tokE : cTok t n (K 0) = u1 (u1 (u1 (K 0) 3 s1) 2 2) 4 (s1 + 1) := by
                rw [cTok, if_pos hf]; show cTk t n (K 0) (eor t n 32 32 (K 0 4)) = _
                rw [← es1]
                unfold cTk
                first | (rw [if_pos (by omega)] <;> rfl) | (rw [if_neg (by omega), if_pos (by omega)] <;> rfl) | (rw [if_neg (by omega), if_neg (by omega), if_pos (by omega)] <;> rfl) | (rw [if_neg (by omega), if_neg (by omega), if_neg (by omega), if_pos (by omega)] <;> rfl) | (rw [if_neg (by omega), if_neg (by omega), if_neg (by omega), if_neg (by omega), if_pos (by omega)] <;> rfl) | (rw [if_neg (by omega), if_neg (by omega), if_neg (by omega), if_neg (by omega), if_neg (by omega)] <;> rfl)
              exact hE (v := ()) () rfl trivial (X.to (by rw [tokE] <;> rfl)) dX2_readToken_164
          · refine lv_aload_n hx hb dX2_readToken_119 rfl (lv_at hl 2 rfl) ?_
            refine g_iconst (n := 1) C0 rfl dX2_readToken_120 ?_
            refine lv_iload_n hx hb dX2_readToken_121 rfl (lv_at hl 0 rfl) ?_
            refine g_callV (As := [.int (nI 1), .int (nI (eor t n 48 57 s1))]) (rest := []) (wr := (tW tk ta tb n t)) (C0.sz hl) X (c_X2_setToken l D tk a ta hD (u2 K 0 3 s1) wt 1 (eor t n 48 57 s1)) ⟨tb267, tb270, tb4, ⟨by decide, by decide, rfl⟩, rfl, rfl, Nat.le_of_ble_eq_true rfl, Nat.le_of_ble_eq_true rfl⟩ tb269 tbs2 0 2 rfl rfl rfl rfl [0] [1, 2] rfl rfl rfl rfl rfl (Nat.le_of_ble_eq_true rfl) ⟨Nat.le_of_ble_eq_true rfl, Nat.le_of_ble_eq_true rfl⟩ dX2_readToken_122 (fun _ H locs _ X => ?_)
            have X : Hx D zA zs H locs (tW tk ta tb n t ++ rV a ta hD (u2 (u2 (u2 K 0 3 s1) 0 2 1) 0 4 (eor t n 48 57 s1)) wt) := X
            have X : Hx D zA zs H locs (rV a ta hD (u2 (u2 (u2 K 0 3 s1) 0 2 1) 0 4 (eor t n 48 57 s1)) wt ++ tW tk ta tb n t) := X.sub [2, 0, 1] rfl rfl
            refine lv_goto (tgt := 164) hx hb dX2_readToken_125 (by decide) ?_
            have tokE : cTok t n (K 0) = u1 (u1 (u1 (K 0) 3 s1) 2 1) 4 (eor t n 48 57 s1) := by
              rw [cTok, if_pos hf]; show cTk t n (K 0) (eor t n 32 32 (K 0 4)) = _
              rw [← es1]
              unfold cTk
              first | (rw [if_pos (by omega)] <;> rfl) | (rw [if_neg (by omega), if_pos (by omega)] <;> rfl) | (rw [if_neg (by omega), if_neg (by omega), if_pos (by omega)] <;> rfl) | (rw [if_neg (by omega), if_neg (by omega), if_neg (by omega), if_pos (by omega)] <;> rfl) | (rw [if_neg (by omega), if_neg (by omega), if_neg (by omega), if_neg (by omega), if_pos (by omega)] <;> rfl) | (rw [if_neg (by omega), if_neg (by omega), if_neg (by omega), if_neg (by omega), if_neg (by omega)] <;> rfl)
            exact hE (v := ()) () rfl trivial (X.to (by rw [tokE] <;> rfl)) dX2_readToken_164
        · refine lv_aload_n hx hb dX2_readToken_103 rfl (lv_at hl 2 rfl) ?_
          refine g_iconst (n := 1) C0 rfl dX2_readToken_104 ?_
          refine g_callV (As := [.int (nI 1)]) (rest := []) (wr := (tW tk ta tb n t)) (C0.sz hl) X (c_X2_fail l D tk a ta hD (u2 K 0 3 s1) wt 1 (by show K 0 0 ≤ 6; omega)) ⟨tb271, tb274, tb4, ⟨by decide, by decide, rfl⟩, rfl, rfl, Nat.le_of_ble_eq_true rfl, Nat.le_of_ble_eq_true rfl⟩ tb273 tbs3 0 2 rfl rfl rfl rfl [0] [1, 2] rfl rfl rfl rfl rfl (Nat.le_of_ble_eq_true rfl) ⟨Nat.le_of_ble_eq_true rfl, Nat.le_of_ble_eq_true rfl⟩ dX2_readToken_105 (fun _ H locs _ X => ?_)
          have X : Hx D zA zs H locs (tW tk ta tb n t ++ rV a ta hD (u3 K 0 (cFail ((u2 K 0 3 s1) 0) 1)) wt) := X
          have X : Hx D zA zs H locs (rV a ta hD (u3 K 0 (cFail ((u2 K 0 3 s1) 0) 1)) wt ++ tW tk ta tb n t) := X.sub [2, 0, 1] rfl rfl
          refine lv_goto (tgt := 164) hx hb dX2_readToken_108 (by decide) ?_
          have tokE : cTok t n (K 0) = cFail (u1 (K 0) 3 s1) 1 := by
            rw [cTok, if_pos hf]; show cTk t n (K 0) (eor t n 32 32 (K 0 4)) = _
            rw [← es1]
            unfold cTk
            first | (rw [if_pos (by omega)] <;> rfl) | (rw [if_neg (by omega), if_pos (by omega)] <;> rfl) | (rw [if_neg (by omega), if_neg (by omega), if_pos (by omega)] <;> rfl) | (rw [if_neg (by omega), if_neg (by omega), if_neg (by omega), if_pos (by omega)] <;> rfl) | (rw [if_neg (by omega), if_neg (by omega), if_neg (by omega), if_neg (by omega), if_pos (by omega)] <;> rfl) | (rw [if_neg (by omega), if_neg (by omega), if_neg (by omega), if_neg (by omega), if_neg (by omega)] <;> rfl)
          exact hE (v := ()) () rfl trivial (X.to (by rw [tokE] <;> rfl)) dX2_readToken_164
      · refine lv_aload_n hx hb dX2_readToken_84 rfl (lv_at hl 2 rfl) ?_
        refine g_iconst (n := 0) C0 rfl dX2_readToken_85 ?_
        refine lv_iload_n hx hb dX2_readToken_86 rfl (lv_at hl 1 rfl) ?_
        refine g_callV (As := [.int (nI 0), .int (nI (eor t n 97 122 s1))]) (rest := []) (wr := (tW tk ta tb n t)) (C0.sz hl) X (c_X2_setToken l D tk a ta hD (u2 K 0 3 s1) wt 0 (eor t n 97 122 s1)) ⟨tb267, tb270, tb4, ⟨by decide, by decide, rfl⟩, rfl, rfl, Nat.le_of_ble_eq_true rfl, Nat.le_of_ble_eq_true rfl⟩ tb269 tbs2 0 2 rfl rfl rfl rfl [0] [1, 2] rfl rfl rfl rfl rfl (Nat.le_of_ble_eq_true rfl) ⟨Nat.le_of_ble_eq_true rfl, Nat.le_of_ble_eq_true rfl⟩ dX2_readToken_87 (fun _ H locs _ X => ?_)
        have X : Hx D zA zs H locs (tW tk ta tb n t ++ rV a ta hD (u2 (u2 (u2 K 0 3 s1) 0 2 0) 0 4 (eor t n 97 122 s1)) wt) := X
        have X : Hx D zA zs H locs (rV a ta hD (u2 (u2 (u2 K 0 3 s1) 0 2 0) 0 4 (eor t n 97 122 s1)) wt ++ tW tk ta tb n t) := X.sub [2, 0, 1] rfl rfl
        refine lv_goto (tgt := 164) hx hb dX2_readToken_90 (by decide) ?_
        have tokE : cTok t n (K 0) = u1 (u1 (u1 (K 0) 3 s1) 2 0) 4 (eor t n 97 122 s1) := by
          rw [cTok, if_pos hf]; show cTk t n (K 0) (eor t n 32 32 (K 0 4)) = _
          rw [← es1]
          unfold cTk
          first | (rw [if_pos (by omega)] <;> rfl) | (rw [if_neg (by omega), if_pos (by omega)] <;> rfl) | (rw [if_neg (by omega), if_neg (by omega), if_pos (by omega)] <;> rfl) | (rw [if_neg (by omega), if_neg (by omega), if_neg (by omega), if_pos (by omega)] <;> rfl) | (rw [if_neg (by omega), if_neg (by omega), if_neg (by omega), if_neg (by omega), if_pos (by omega)] <;> rfl) | (rw [if_neg (by omega), if_neg (by omega), if_neg (by omega), if_neg (by omega), if_neg (by omega)] <;> rfl)
        exact hE (v := ()) () rfl trivial (X.to (by rw [tokE] <;> rfl)) dX2_readToken_164
    · refine lv_aload_n hx hb dX2_readToken_64 rfl (lv_at hl 2 rfl) ?_
      refine g_iconst (n := 3) C0 rfl dX2_readToken_65 ?_
      refine lv_aload_n hx hb dX2_readToken_66 rfl (lv_at hl 2 rfl) ?_
      refine g_get (v := .int (nI s1)) C0 X kX2 0 5 tb141 rfl rfl rfl dX2_readToken_67 ?_
      refine g_callV (As := [.int (nI 3), .int (nI s1)]) (rest := []) (wr := (tW tk ta tb n t)) (C0.sz hl) X (c_X2_setToken l D tk a ta hD (u2 K 0 3 s1) wt 3 s1) ⟨tb267, tb270, tb4, ⟨by decide, by decide, rfl⟩, rfl, rfl, Nat.le_of_ble_eq_true rfl, Nat.le_of_ble_eq_true rfl⟩ tb269 tbs2 0 2 rfl rfl rfl rfl [0] [1, 2] rfl rfl rfl rfl rfl (Nat.le_of_ble_eq_true rfl) ⟨Nat.le_of_ble_eq_true rfl, Nat.le_of_ble_eq_true rfl⟩ dX2_readToken_70 (fun _ H locs _ X => ?_)
      have X : Hx D zA zs H locs (tW tk ta tb n t ++ rV a ta hD (u2 (u2 (u2 K 0 3 s1) 0 2 3) 0 4 s1) wt) := X
      have X : Hx D zA zs H locs (rV a ta hD (u2 (u2 (u2 K 0 3 s1) 0 2 3) 0 4 s1) wt ++ tW tk ta tb n t) := X.sub [2, 0, 1] rfl rfl
      refine lv_goto (tgt := 164) hx hb dX2_readToken_73 (by decide) ?_
      have tokE : cTok t n (K 0) = u1 (u1 (u1 (K 0) 3 s1) 2 3) 4 s1 := by
        rw [cTok, if_pos hf]; show cTk t n (K 0) (eor t n 32 32 (K 0 4)) = _
        rw [← es1]
        unfold cTk
        first | (rw [if_pos (by omega)] <;> rfl) | (rw [if_neg (by omega), if_pos (by omega)] <;> rfl) | (rw [if_neg (by omega), if_neg (by omega), if_pos (by omega)] <;> rfl) | (rw [if_neg (by omega), if_neg (by omega), if_neg (by omega), if_pos (by omega)] <;> rfl) | (rw [if_neg (by omega), if_neg (by omega), if_neg (by omega), if_neg (by omega), if_pos (by omega)] <;> rfl) | (rw [if_neg (by omega), if_neg (by omega), if_neg (by omega), if_neg (by omega), if_neg (by omega)] <;> rfl)
      exact hE (v := ()) () rfl trivial (X.to (by rw [tokE] <;> rfl)) dX2_readToken_164
  · exact hE (v := ()) () rfl trivial (X.to (by rw [show cTok t n (K 0) = K 0 from if_neg (by omega)]; rfl)) dX2_readToken_7
set_option maxHeartbeats 4000000 in
set_option maxRecDepth 100000 in
theorem c_X2_takeSign (l : Launch) (D : va_G) (tk : Nat → ClassId) (a ta tb : Nat) (hD : Nat → Nat) (K : Nat → Nat → Nat) (wt : Bool) (n : Nat) (t : Nat → Nat) (hn : n ≤ 160) (ht8 : ∀ j, j < n → t j < 128) (hI : RI t n (K 0)) : MX l yX2_takeSign cX2_takeSign 1 none ⟨2, 0, 0, 46⟩ D (TYS tk) [.ref a] (rV a ta hD K wt ++ tW tk ta tb n t) (fun (_ : Unit) => True) (fun _ => none) (fun _ => rV a ta hD (u3 K 0 (cSign t n (K 0))) wt ++ tW tk ta tb n t) 0 0 := by
  refine MX.of_v (by decide) rfl ?_
  intro zp ze zs zm za zb zt zc zA zQ ls C0 hnm X hl hE
  have hx := C0.1
  have hb := C0.2.1
  have ht := C0.2.2.2.2.1
  have X : Hx D zA zs zs.heap [] (rV a ta hD K wt ++ tW tk ta tb n t) := X
  have hl : lv_has ls 1 [(0, .ref a)] := hl
  obtain ⟨hi1, hi2, hi3, hi4, hi5, hi6, hi7⟩ := id hI
  obtain ⟨H, hH⟩ : ∃ H, H = zs.heap := ⟨_, rfl⟩
  rw [← hH] at X ⊢
  obtain ⟨locs, hlo⟩ : ∃ L : List Loc, L = [] := ⟨_, rfl⟩
  rw [← hlo] at X ⊢
  refine lv_aload_n hx hb dX2_takeSign_0 rfl (lv_at hl 0 rfl) ?_
  refine g_get (v := .int (nI (K 0 2))) C0 X kX2 0 4 tb140 rfl rfl rfl dX2_takeSign_1 ?_
  refine g_iconst (n := 2) C0 rfl dX2_takeSign_4 ?_
  refine g_icmp_eq (x := K 0 2) (y := 2) (tgt := 13) C0 (by omega) (by omega) dX2_takeSign_5 rfl (fun c1 => ?_) (fun c2 => ?_)
  · refine lv_aload_n hx hb dX2_takeSign_13 rfl (lv_at hl 0 rfl) ?_
    refine g_callV (As := []) (rest := []) (wr := []) (C0.sz hl) X (c_X2_readToken l D tk a ta tb hD K wt n t (by first | assumption | omega) (by first | assumption | omega) (by first | exact hI.2.1 | exact (hI.fail (by decide)).2.1) (by first | exact hI.2.2.2.1 | exact (hI.fail (by decide)).2.2.2.1)) ⟨tb259, tb262, tb4, ⟨by decide, by decide, rfl⟩, rfl, rfl, Nat.le_of_ble_eq_true rfl, Nat.le_of_ble_eq_true rfl⟩ tb261 tbs0 0 2 rfl rfl rfl rfl [0, 1, 2] [] rfl rfl rfl rfl rfl (Nat.le_of_ble_eq_true rfl) ⟨Nat.le_of_ble_eq_true rfl, Nat.le_of_ble_eq_true rfl⟩ dX2_takeSign_14 (fun _ H locs _ X => ?_)
    have X : Hx D zA zs H locs (rV a ta hD (u3 K 0 (cTok t n (K 0))) wt ++ tW tk ta tb n t) := X
    exact hE (v := ()) () rfl trivial (X.to (by rw [show cSign t n (K 0) = cTok t n (K 0) from by rw [cSign, if_pos (by omega)]] <;> rfl)) dX2_takeSign_17
  · refine lv_aload_n hx hb dX2_takeSign_8 rfl (lv_at hl 0 rfl) ?_
    refine g_iconst (n := 2) C0 rfl dX2_takeSign_9 ?_
    refine g_callV (As := [.int (nI 2)]) (rest := []) (wr := (tW tk ta tb n t)) (C0.sz hl) X (c_X2_fail l D tk a ta hD K wt 2 (by first | assumption | omega)) ⟨tb271, tb274, tb4, ⟨by decide, by decide, rfl⟩, rfl, rfl, Nat.le_of_ble_eq_true rfl, Nat.le_of_ble_eq_true rfl⟩ tb273 tbs3 0 2 rfl rfl rfl rfl [0] [1, 2] rfl rfl rfl rfl rfl (Nat.le_of_ble_eq_true rfl) ⟨Nat.le_of_ble_eq_true rfl, Nat.le_of_ble_eq_true rfl⟩ dX2_takeSign_10 (fun _ H locs _ X => ?_)
    have X : Hx D zA zs H locs (tW tk ta tb n t ++ rV a ta hD (u3 K 0 (cFail (K 0) 2)) wt) := X
    have X : Hx D zA zs H locs (rV a ta hD (u3 K 0 (cFail (K 0) 2)) wt ++ tW tk ta tb n t) := X.sub [2, 0, 1] rfl rfl
    refine lv_aload_n hx hb dX2_takeSign_13 rfl (lv_at hl 0 rfl) ?_
    refine g_callV (As := []) (rest := []) (wr := []) (C0.sz hl) X (c_X2_readToken l D tk a ta tb hD (u3 K 0 (cFail (K 0) 2)) wt n t (by first | assumption | omega) (by first | assumption | omega) (by first | exact hI.2.1 | exact (hI.fail (by decide)).2.1) (by first | exact hI.2.2.2.1 | exact (hI.fail (by decide)).2.2.2.1)) ⟨tb259, tb262, tb4, ⟨by decide, by decide, rfl⟩, rfl, rfl, Nat.le_of_ble_eq_true rfl, Nat.le_of_ble_eq_true rfl⟩ tb261 tbs0 0 2 rfl rfl rfl rfl [0, 1, 2] [] rfl rfl rfl rfl rfl (Nat.le_of_ble_eq_true rfl) ⟨Nat.le_of_ble_eq_true rfl, Nat.le_of_ble_eq_true rfl⟩ dX2_takeSign_14 (fun _ H locs _ X => ?_)
    have X : Hx D zA zs H locs (rV a ta hD (u3 K 0 (cTok t n ((u3 K 0 (cFail (K 0) 2)) 0))) wt ++ tW tk ta tb n t) := X
    exact hE (v := ()) () rfl trivial (X.to (by rw [show cSign t n (K 0) = cTok t n ((cFail (K 0) 2)) from by rw [cSign, if_neg (by omega)]] <;> rfl)) dX2_takeSign_17
set_option maxHeartbeats 4000000 in
set_option maxRecDepth 100000 in
theorem c_X2_takeName (l : Launch) (D : va_G) (tk : Nat → ClassId) (a ta tb : Nat) (hD : Nat → Nat) (K : Nat → Nat → Nat) (wt : Bool) (n : Nat) (t : Nat → Nat) (bq : Bool) (c : Nat) (hn : n ≤ 160) (ht8 : ∀ j, j < n → t j < 128) (hI : RI t n (K 0)) (hc : 1 ≤ c ∧ c ≤ 6) : MX l yX2_takeName cX2_takeName 3 none ⟨2, 0, 0, 46⟩ D (TYS tk) [.ref a, .int (nI (rb bq)), .int (nI c)] (rV a ta hD K wt ++ tW tk ta tb n t) (fun (_ : Unit) => True) (fun _ => none) (fun _ => rV a ta hD (u3 K 0 (cName t n (K 0) bq c)) wt ++ tW tk ta tb n t) 0 0 := by
  refine MX.of_v (by decide) rfl ?_
  intro zp ze zs zm za zb zt zc zA zQ ls C0 hnm X hl hE
  have hx := C0.1
  have hb := C0.2.1
  have ht := C0.2.2.2.2.1
  have X : Hx D zA zs zs.heap [] (rV a ta hD K wt ++ tW tk ta tb n t) := X
  have hl : lv_has ls 3 [(0, .ref a), (1, .int (nI (rb bq))), (2, .int (nI c))] := hl
  obtain ⟨hi1, hi2, hi3, hi4, hi5, hi6, hi7⟩ := id hI
  obtain ⟨H, hH⟩ : ∃ H, H = zs.heap := ⟨_, rfl⟩
  rw [← hH] at X ⊢
  obtain ⟨locs, hlo⟩ : ∃ L : List Loc, L = [] := ⟨_, rfl⟩
  rw [← hlo] at X ⊢
  refine lv_iload_n hx hb dX2_takeName_0 rfl (lv_at hl 1 rfl) ?_
  refine g_ifneB (x := bq) (tgt := 9) C0 dX2_takeName_1 rfl (fun c1 => ?_) (fun c2 => ?_)
  · refine lv_aload_n hx hb dX2_takeName_9 rfl (lv_at hl 0 rfl) ?_
    refine g_callV (As := []) (rest := []) (wr := []) (C0.sz hl) X (c_X2_readToken l D tk a ta tb hD K wt n t (by first | assumption | omega) (by first | assumption | omega) (by first | exact hI.2.1 | exact (hI.fail hc).2.1) (by first | exact hI.2.2.2.1 | exact (hI.fail hc).2.2.2.1)) ⟨tb259, tb262, tb4, ⟨by decide, by decide, rfl⟩, rfl, rfl, Nat.le_of_ble_eq_true rfl, Nat.le_of_ble_eq_true rfl⟩ tb261 tbs0 0 2 rfl rfl rfl rfl [0, 1, 2] [] rfl rfl rfl rfl rfl (Nat.le_of_ble_eq_true rfl) ⟨Nat.le_of_ble_eq_true rfl, Nat.le_of_ble_eq_true rfl⟩ dX2_takeName_10 (fun _ H locs _ X => ?_)
    have X : Hx D zA zs H locs (rV a ta hD (u3 K 0 (cTok t n (K 0))) wt ++ tW tk ta tb n t) := X
    exact hE (v := ()) () rfl trivial (X.to (by rw [show cName t n (K 0) bq c = cTok t n (K 0) from by rw [cName, c1]; rfl] <;> rfl)) dX2_takeName_13
  · refine lv_aload_n hx hb dX2_takeName_4 rfl (lv_at hl 0 rfl) ?_
    refine lv_iload_n hx hb dX2_takeName_5 rfl (lv_at hl 2 rfl) ?_
    refine g_callV (As := [.int (nI c)]) (rest := []) (wr := (tW tk ta tb n t)) (C0.sz hl) X (c_X2_fail l D tk a ta hD K wt c (by first | assumption | omega)) ⟨tb271, tb274, tb4, ⟨by decide, by decide, rfl⟩, rfl, rfl, Nat.le_of_ble_eq_true rfl, Nat.le_of_ble_eq_true rfl⟩ tb273 tbs3 0 2 rfl rfl rfl rfl [0] [1, 2] rfl rfl rfl rfl rfl (Nat.le_of_ble_eq_true rfl) ⟨Nat.le_of_ble_eq_true rfl, Nat.le_of_ble_eq_true rfl⟩ dX2_takeName_6 (fun _ H locs _ X => ?_)
    have X : Hx D zA zs H locs (tW tk ta tb n t ++ rV a ta hD (u3 K 0 (cFail (K 0) c)) wt) := X
    have X : Hx D zA zs H locs (rV a ta hD (u3 K 0 (cFail (K 0) c)) wt ++ tW tk ta tb n t) := X.sub [2, 0, 1] rfl rfl
    refine lv_aload_n hx hb dX2_takeName_9 rfl (lv_at hl 0 rfl) ?_
    refine g_callV (As := []) (rest := []) (wr := []) (C0.sz hl) X (c_X2_readToken l D tk a ta tb hD (u3 K 0 (cFail (K 0) c)) wt n t (by first | assumption | omega) (by first | assumption | omega) (by first | exact hI.2.1 | exact (hI.fail hc).2.1) (by first | exact hI.2.2.2.1 | exact (hI.fail hc).2.2.2.1)) ⟨tb259, tb262, tb4, ⟨by decide, by decide, rfl⟩, rfl, rfl, Nat.le_of_ble_eq_true rfl, Nat.le_of_ble_eq_true rfl⟩ tb261 tbs0 0 2 rfl rfl rfl rfl [0, 1, 2] [] rfl rfl rfl rfl rfl (Nat.le_of_ble_eq_true rfl) ⟨Nat.le_of_ble_eq_true rfl, Nat.le_of_ble_eq_true rfl⟩ dX2_takeName_10 (fun _ H locs _ X => ?_)
    have X : Hx D zA zs H locs (rV a ta hD (u3 K 0 (cTok t n ((u3 K 0 (cFail (K 0) c)) 0))) wt ++ tW tk ta tb n t) := X
    exact hE (v := ()) () rfl trivial (X.to (by rw [show cName t n (K 0) bq c = cTok t n ((cFail (K 0) c)) from by rw [cName, c2]; rfl] <;> rfl)) dX2_takeName_13
set_option maxHeartbeats 4000000 in
set_option maxRecDepth 100000 in
theorem c_X2_value (l : Launch) (D : va_G) (tk : Nat → ClassId) (a ta tb : Nat) (hD : Nat → Nat) (K : Nat → Nat → Nat) (wt : Bool) (n : Nat) (t : Nat → Nat) (hn : n ≤ 160) (ht8 : ∀ j, j < n → t j < 128) (hI : RI t n (K 0)) (hk : K 0 2 = 1) : MX l yX2_value cX2_value 3 (some .int) ⟨0, 0, 0, 0⟩ D (TYS tk) [.ref a] (rV a ta hD K wt ++ tW tk ta tb n t) (fun (_ : Unit) => True) (fun _ => some (.int (nI (vl t (K 0 3) (K 0 4))))) (fun _ => rV a ta hD K wt ++ tW tk ta tb n t) 0 0 := by
  refine MX.of_i (by decide) rfl ?_
  intro zp ze zs zm za zb zt zc zA zQ ls C0 hnm X hl hE
  have hx := C0.1
  have hb := C0.2.1
  have ht := C0.2.2.2.2.1
  have X : Hx D zA zs zs.heap [] (rV a ta hD K wt ++ tW tk ta tb n t) := X
  have hl : lv_has ls 3 [(0, .ref a)] := hl
  obtain ⟨hi1, hi2, hi3, hi4, hi5, hi6, hi7⟩ := id hI
  obtain ⟨hj1, hj2⟩ := hi7 hk
  obtain ⟨H, hH⟩ : ∃ H, H = zs.heap := ⟨_, rfl⟩
  rw [← hH] at X ⊢
  obtain ⟨locs, hlo⟩ : ∃ L : List Loc, L = [] := ⟨_, rfl⟩
  rw [← hlo] at X ⊢
  refine g_iconst (n := 0) C0 rfl dX2_value_0 ?_
  refine lv_istore_n (lv' := [(1, .int (nI 0)), (0, .ref a)]) hx hb dX2_value_1 rfl hl (by decide) rfl (fun ls hl => ?_)
  refine lv_aload_n hx hb dX2_value_2 rfl (lv_at hl 1 rfl) ?_
  refine g_get (v := .int (nI (K 0 3))) C0 X kX2 0 5 tb141 rfl rfl rfl dX2_value_3 ?_
  refine lv_istore_n (lv' := [(2, .int (nI (K 0 3))), (1, .int (nI 0)), (0, .ref a)]) hx hb dX2_value_6 rfl hl (by decide) rfl (fun ls hl => ?_)
  have J7 : ∀ (fz : Nat) (i nu : Nat), K 0 4 - i < fz → ∀ (hi9 : K 0 3 ≤ i) (hi10 : i ≤ K 0 4 ∨ i = K 0 3) (hnu : nu = vlF t (K 0 3) (i - K 0 3)) (H : Heap) (locs : List Loc) (ls : Array Slot), Hx D zA zs H locs (rV a ta hD K wt ++ tW tk ta tb n t) → lv_has ls 3 [(2, .int (nI i)), (1, .int (nI nu)), (0, .ref a)] → W zp l ze ⟨0, 0, 0, 0⟩ zs zm za zb zt zc H locs 0 0 zQ (F0 zm 7 ls []) := by
    intro fz
    induction fz with
    | zero => intro i nu hz; exact absurd hz (Nat.not_lt_zero _)
    | succ fz ih7 =>
      intro i nu hz7 hi9 hi10 hnu H locs ls X hl
      refine lv_iload_n hx hb dX2_value_7 rfl (lv_at hl 0 rfl) ?_
      refine lv_aload_n hx hb dX2_value_8 rfl (lv_at hl 2 rfl) ?_
      refine g_get (v := .int (nI (K 0 4))) C0 X kX2 0 6 tb142 rfl rfl rfl dX2_value_9 ?_
      refine g_icmp_ge (x := i) (y := K 0 4) (tgt := 39) C0 (by omega) (by omega) dX2_value_12 rfl (fun c1 => ?_) (fun c2 => ?_)
      · refine lv_iload_n hx hb dX2_value_39 rfl (lv_at hl 1 rfl) ?_
        exact hE (v := nI nu) () (by rw [hnu, vl]; exact congrArg (fun z => some (Value.int (nI (vlF t (K 0 3) z)))) (by omega)) trivial X dX2_value_40
      · have h8 := ht8 i (by omega)
        have h9 := hj2 i (by omega) (by omega)
        refine g_bipush (n := 10) C0 (by decide) dX2_value_15 ?_
        refine lv_iload_n hx hb dX2_value_17 rfl (lv_at hl 1 rfl) ?_
        refine g_imul (n := 10 * nu) C0 rfl dX2_value_18 ?_
        refine lv_aload_n hx hb dX2_value_19 rfl (lv_at hl 2 rfl) ?_
        refine g_get (v := .ref ta) C0 X kX2 0 0 tb132 rfl rfl rfl dX2_value_20 ?_
        refine g_get (v := .ref tb) C0 X kX5 1 1 tb123 rfl rfl rfl dX2_value_23 ?_
        refine lv_iload_n hx hb dX2_value_26 rfl (lv_at hl 0 rfl) ?_
        refine g_bald (v := nI (t i)) (i := i) C0 X 2 1 rfl rfl (by omega) rfl rfl dX2_value_27 ?_
        refine g_iadd (n := (10 * nu) + (t i)) C0 (by first | rfl | omega) dX2_value_28 ?_
        refine g_bipush (n := 48) C0 (by decide) dX2_value_29 ?_
        refine g_isub (n := ((10 * nu) + (t i)) - 48) C0 (by omega) rfl dX2_value_31 ?_
        refine lv_istore_n (lv' := [(1, .int (nI (((10 * nu) + (t i)) - 48))), (2, .int (nI i)), (0, .ref a)]) hx hb dX2_value_32 rfl hl (by decide) rfl (fun ls hl => ?_)
        refine g_iinc (j := 1) (z := i + 1) (lv' := [(2, .int (nI (i + 1))), (1, .int (nI (((10 * nu) + (t i)) - 48))), (0, .ref a)]) C0 rfl (by first | rfl | omega) dX2_value_33 hl (k := 1) rfl (by decide) rfl (fun ls hl => ?_)
        refine lv_goto (tgt := 7) hx hb dX2_value_36 (by decide) ?_
        exact ih7 (i + 1) (((10 * nu) + (t i)) - 48) (by omega) (by omega) (by omega) (by rw [hnu, show i + 1 - K 0 3 = (i - K 0 3) + 1 by omega]; show _ = 10 * vlF t (K 0 3) (i - K 0 3) + t (K 0 3 + (i - K 0 3)) - 48; rw [show K 0 3 + (i - K 0 3) = i by omega]) H locs ls X (lv_sub hl [0, 1, 2] rfl)
  exact J7 ((K 0 4 - (K 0 3)) + 1) (K 0 3) 0 (Nat.lt_succ_self _) (by omega) (by omega) (by rw [Nat.sub_self]; rfl) H locs ls X (lv_sub hl [0, 1, 2] rfl)
set_option maxHeartbeats 4000000 in
set_option maxRecDepth 100000 in
theorem c_X2_takeNumber (l : Launch) (D : va_G) (tk : Nat → ClassId) (a ta tb : Nat) (hD : Nat → Nat) (K : Nat → Nat → Nat) (wt : Bool) (n : Nat) (t : Nat → Nat) (lo hi9 : Nat) (bn : Int32) (hn : n ≤ 160) (ht8 : ∀ j, j < n → t j < 128) (hI : RI t n (K 0)) (hlo : lo < 128) (hhi : hi9 < 128) : MX l yX2_takeNumber cX2_takeNumber 5 (some .int) ⟨2, 0, 0, 46⟩ D (TYS tk) [.ref a, .int (nI lo), .int (nI hi9), .int bn] (rV a ta hD K wt ++ tW tk ta tb n t) (fun (_ : Unit) => True) (fun _ => some (.int (nI (cVal t (K 0))))) (fun _ => rV a ta hD (u3 K 0 (cNum t n (K 0) lo hi9 bn)) wt ++ tW tk ta tb n t) 0 0 := by
  refine MX.of_i (by decide) rfl ?_
  intro zp ze zs zm za zb zt zc zA zQ ls C0 hnm X hl hE
  have hx := C0.1
  have hb := C0.2.1
  have ht := C0.2.2.2.2.1
  have X : Hx D zA zs zs.heap [] (rV a ta hD K wt ++ tW tk ta tb n t) := X
  have hl : lv_has ls 5 [(0, .ref a), (1, .int (nI lo)), (2, .int (nI hi9)), (3, .int bn)] := hl
  obtain ⟨hi1, hi2, hi3, hi4, hi5, hi6, hi7⟩ := id hI
  obtain ⟨H, hH⟩ : ∃ H, H = zs.heap := ⟨_, rfl⟩
  rw [← hH] at X ⊢
  obtain ⟨locs, hlo⟩ : ∃ L : List Loc, L = [] := ⟨_, rfl⟩
  rw [← hlo] at X ⊢
  refine lv_aload_n hx hb dX2_takeNumber_0 rfl (lv_at hl 0 rfl) ?_
  refine g_get (v := .int (nI (K 0 2))) C0 X kX2 0 4 tb140 rfl rfl rfl dX2_takeNumber_1 ?_
  refine g_iconst (n := 1) C0 rfl dX2_takeNumber_4 ?_
  refine g_icmp_ne (x := K 0 2) (y := 1) (tgt := 15) C0 (by omega) (by omega) dX2_takeNumber_5 rfl (fun c1 => ?_) (fun c2 => ?_)
  · refine lv_iconst (v := (-1)) hx hb dX2_takeNumber_15 (by decide) ?_
    refine lv_istore (lv' := [(4, .int (-1)), (0, .ref a), (1, .int (nI lo)), (2, .int (nI hi9)), (3, .int bn)]) hx hb dX2_takeNumber_16 hl (by decide) rfl (fun ls hl => ?_)
    refine lv_iload hx hb dX2_takeNumber_18 (lv_at hl 0 rfl) ?_
    refine lv_iconst (v := (-1)) hx hb dX2_takeNumber_20 (by decide) ?_
    refine lv_icmp_ne (tgt := 32) hx hb dX2_takeNumber_21 rfl (fun q => absurd q (by decide)) (fun _ => ?_)
    refine lv_aload_n hx hb dX2_takeNumber_24 rfl (lv_at hl 1 rfl) ?_
    refine g_iconst (n := 2) C0 rfl dX2_takeNumber_25 ?_
    refine g_callV (As := [.int (nI 2)]) (rest := []) (wr := (tW tk ta tb n t)) (C0.sz hl) X (c_X2_fail l D tk a ta hD K wt 2 (by first | assumption | omega)) ⟨tb271, tb274, tb4, ⟨by decide, by decide, rfl⟩, rfl, rfl, Nat.le_of_ble_eq_true rfl, Nat.le_of_ble_eq_true rfl⟩ tb273 tbs3 0 2 rfl rfl rfl rfl [0] [1, 2] rfl rfl rfl rfl rfl (Nat.le_of_ble_eq_true rfl) ⟨Nat.le_of_ble_eq_true rfl, Nat.le_of_ble_eq_true rfl⟩ dX2_takeNumber_26 (fun _ H locs _ X => ?_)
    have X : Hx D zA zs H locs (tW tk ta tb n t ++ rV a ta hD (u3 K 0 (cFail (K 0) 2)) wt) := X
    have X : Hx D zA zs H locs (rV a ta hD (u3 K 0 (cFail (K 0) 2)) wt ++ tW tk ta tb n t) := X.sub [2, 0, 1] rfl rfl
    refine lv_goto (tgt := 53) hx hb dX2_takeNumber_29 (by decide) ?_
    refine lv_aload_n hx hb dX2_takeNumber_53 rfl (lv_at hl 1 rfl) ?_
    refine g_callV (As := []) (rest := []) (wr := []) (C0.sz hl) X (c_X2_readToken l D tk a ta tb hD (u3 K 0 (cFail (K 0) 2)) wt n t (by first | assumption | omega) (by first | assumption | omega) (by first | exact hI.2.1 | exact (hI.fail (by decide)).2.1) (by first | exact hI.2.2.2.1 | exact (hI.fail (by decide)).2.2.2.1)) ⟨tb259, tb262, tb4, ⟨by decide, by decide, rfl⟩, rfl, rfl, Nat.le_of_ble_eq_true rfl, Nat.le_of_ble_eq_true rfl⟩ tb261 tbs0 0 2 rfl rfl rfl rfl [0, 1, 2] [] rfl rfl rfl rfl rfl (Nat.le_of_ble_eq_true rfl) ⟨Nat.le_of_ble_eq_true rfl, Nat.le_of_ble_eq_true rfl⟩ dX2_takeNumber_54 (fun _ H locs _ X => ?_)
    have X : Hx D zA zs H locs (rV a ta hD (u3 K 0 (cTok t n ((u3 K 0 (cFail (K 0) 2)) 0))) wt ++ tW tk ta tb n t) := X
    refine lv_iload hx hb dX2_takeNumber_57 (lv_at hl 0 rfl) ?_
    exact hE (v := (-1)) () (by rw [show cVal t (K 0) = NO from if_neg (by omega)]; rfl) trivial (X.to (by rw [show cNum t n (K 0) lo hi9 bn = cTok t n ((cFail (K 0) 2)) from by rw [cNum, cChk, if_pos (show cVal t (K 0) = NO from if_neg (by omega))]] <;> rfl)) dX2_takeNumber_59
  · have hk : K 0 2 = 1 := by omega
    have hvl := vl_le hI hk
    refine lv_aload_n hx hb dX2_takeNumber_8 rfl (lv_at hl 0 rfl) ?_
    refine g_callV (As := []) (rest := []) (wr := []) (C0.sz hl) X (c_X2_value l D tk a ta tb hD K wt n t (by first | assumption | omega) (by first | assumption | omega) (by first | assumption | omega) (by first | assumption | omega)) ⟨tb360, tb363, tb4, ⟨by decide, by decide, rfl⟩, rfl, rfl, Nat.le_of_ble_eq_true rfl, Nat.le_of_ble_eq_true rfl⟩ tb362 tbs11 0 2 rfl rfl rfl rfl [0, 1, 2] [] rfl rfl rfl rfl rfl (Nat.le_of_ble_eq_true rfl) ⟨Nat.le_of_ble_eq_true rfl, Nat.le_of_ble_eq_true rfl⟩ dX2_takeNumber_9 (fun _ H locs _ X => ?_)
    have X : Hx D zA zs H locs (rV a ta hD K wt ++ tW tk ta tb n t) := X
    refine lv_goto (tgt := 16) hx hb dX2_takeNumber_12 (by decide) ?_
    refine lv_istore (lv' := [(4, .int (nI (vl t (K 0 3) (K 0 4)))), (0, .ref a), (1, .int (nI lo)), (2, .int (nI hi9)), (3, .int bn)]) hx hb dX2_takeNumber_16 hl (by decide) rfl (fun ls hl => ?_)
    refine lv_iload hx hb dX2_takeNumber_18 (lv_at hl 0 rfl) ?_
    refine lv_iconst (v := (-1)) hx hb dX2_takeNumber_20 (by decide) ?_
    refine lv_icmp_ne (tgt := 32) hx hb dX2_takeNumber_21 rfl (fun _ => ?_) (fun q => absurd q (nI_nneg (by omega) (by decide)))
    refine lv_iload hx hb dX2_takeNumber_32 (lv_at hl 0 rfl) ?_
    refine lv_iload_n hx hb dX2_takeNumber_34 rfl (lv_at hl 2 rfl) ?_
    refine lv_iload_n hx hb dX2_takeNumber_35 rfl (lv_at hl 3 rfl) ?_
    refine g_callSN (As := [.int (nI (vl t (K 0 3) (K 0 4))), .int (nI lo), .int (nI hi9)]) (rest := []) (wr := (rV a ta hD K wt ++ tW tk ta tb n t)) (C0.sz hl) X (c_X6_within l D tk (nI (vl t (K 0 3) (K 0 4))) (nI lo) (nI hi9)) ⟨tb364, tb234, tb1, ⟨by decide, by decide, rfl⟩, rfl, rfl, Nat.le_of_ble_eq_true rfl, Nat.le_of_ble_eq_true rfl⟩ tb233 rfl [] [0, 1, 2] rfl rfl rfl rfl rfl (Nat.le_of_ble_eq_true rfl) ⟨Nat.le_of_ble_eq_true rfl, Nat.le_of_ble_eq_true rfl⟩ dX2_takeNumber_36 (fun _ H locs _ X => ?_)
    have X : Hx D zA zs H locs (rV a ta hD K wt ++ tW tk ta tb n t) := X
    refine g_top (y := nI (rb (decide (lo ≤ vl t (K 0 3) (K 0 4)) && decide (vl t (K 0 3) (K 0 4) ≤ hi9)))) (by rw [inI_rg _ (by omega) (by omega), rg_nI (by omega)]) ?_
    refine g_ifeqB (x := (decide (lo ≤ vl t (K 0 3) (K 0 4)) && decide (vl t (K 0 3) (K 0 4) ≤ hi9))) (tgt := 48) C0 dX2_takeNumber_39 rfl (fun c7 => ?_) (fun c8 => ?_)
    · refine lv_aload_n hx hb dX2_takeNumber_48 rfl (lv_at hl 1 rfl) ?_
      refine g_iconst (n := 3) C0 rfl dX2_takeNumber_49 ?_
      refine g_callV (As := [.int (nI 3)]) (rest := []) (wr := (tW tk ta tb n t)) (C0.sz hl) X (c_X2_fail l D tk a ta hD K wt 3 (by first | assumption | omega)) ⟨tb271, tb274, tb4, ⟨by decide, by decide, rfl⟩, rfl, rfl, Nat.le_of_ble_eq_true rfl, Nat.le_of_ble_eq_true rfl⟩ tb273 tbs3 0 2 rfl rfl rfl rfl [0] [1, 2] rfl rfl rfl rfl rfl (Nat.le_of_ble_eq_true rfl) ⟨Nat.le_of_ble_eq_true rfl, Nat.le_of_ble_eq_true rfl⟩ dX2_takeNumber_50 (fun _ H locs _ X => ?_)
      have X : Hx D zA zs H locs (tW tk ta tb n t ++ rV a ta hD (u3 K 0 (cFail (K 0) 3)) wt) := X
      have X : Hx D zA zs H locs (rV a ta hD (u3 K 0 (cFail (K 0) 3)) wt ++ tW tk ta tb n t) := X.sub [2, 0, 1] rfl rfl
      refine lv_aload_n hx hb dX2_takeNumber_53 rfl (lv_at hl 1 rfl) ?_
      refine g_callV (As := []) (rest := []) (wr := []) (C0.sz hl) X (c_X2_readToken l D tk a ta tb hD (u3 K 0 (cFail (K 0) 3)) wt n t (by first | assumption | omega) (by first | assumption | omega) (by first | exact hI.2.1 | exact (hI.fail (by decide)).2.1) (by first | exact hI.2.2.2.1 | exact (hI.fail (by decide)).2.2.2.1)) ⟨tb259, tb262, tb4, ⟨by decide, by decide, rfl⟩, rfl, rfl, Nat.le_of_ble_eq_true rfl, Nat.le_of_ble_eq_true rfl⟩ tb261 tbs0 0 2 rfl rfl rfl rfl [0, 1, 2] [] rfl rfl rfl rfl rfl (Nat.le_of_ble_eq_true rfl) ⟨Nat.le_of_ble_eq_true rfl, Nat.le_of_ble_eq_true rfl⟩ dX2_takeNumber_54 (fun _ H locs _ X => ?_)
      have X : Hx D zA zs H locs (rV a ta hD (u3 K 0 (cTok t n ((u3 K 0 (cFail (K 0) 3)) 0))) wt ++ tW tk ta tb n t) := X
      refine lv_iload hx hb dX2_takeNumber_57 (lv_at hl 0 rfl) ?_
      exact hE (v := nI (vl t (K 0 3) (K 0 4))) () (by rw [show cVal t (K 0) = vl t (K 0 3) (K 0 4) from if_pos (by omega)]) trivial (X.to (by rw [show cNum t n (K 0) lo hi9 bn = cTok t n ((cFail (K 0) 3)) from by rw [cNum, cChk, show cVal t (K 0) = vl t (K 0 3) (K 0 4) from if_pos (by omega), if_neg (show ¬ vl t (K 0 3) (K 0 4) = NO by unfold NO; omega), if_neg (fun q => by have h := c7; rw [decide_eq_true q.1, decide_eq_true q.2.1] at h; exact absurd h (by decide))]] <;> rfl)) dX2_takeNumber_59
    · refine lv_iload hx hb dX2_takeNumber_42 (lv_at hl 0 rfl) ?_
      refine lv_iload_n hx hb dX2_takeNumber_44 rfl (lv_at hl 4 rfl) ?_
      refine lv_icmp_ne (tgt := 53) hx hb dX2_takeNumber_45 rfl (fun c9 => ?_) (fun c10 => ?_)
      · refine lv_aload_n hx hb dX2_takeNumber_53 rfl (lv_at hl 1 rfl) ?_
        refine g_callV (As := []) (rest := []) (wr := []) (C0.sz hl) X (c_X2_readToken l D tk a ta tb hD K wt n t (by first | assumption | omega) (by first | assumption | omega) (by first | exact hI.2.1 | exact (hI.fail (by decide)).2.1) (by first | exact hI.2.2.2.1 | exact (hI.fail (by decide)).2.2.2.1)) ⟨tb259, tb262, tb4, ⟨by decide, by decide, rfl⟩, rfl, rfl, Nat.le_of_ble_eq_true rfl, Nat.le_of_ble_eq_true rfl⟩ tb261 tbs0 0 2 rfl rfl rfl rfl [0, 1, 2] [] rfl rfl rfl rfl rfl (Nat.le_of_ble_eq_true rfl) ⟨Nat.le_of_ble_eq_true rfl, Nat.le_of_ble_eq_true rfl⟩ dX2_takeNumber_54 (fun _ H locs _ X => ?_)
        have X : Hx D zA zs H locs (rV a ta hD (u3 K 0 (cTok t n (K 0))) wt ++ tW tk ta tb n t) := X
        refine lv_iload hx hb dX2_takeNumber_57 (lv_at hl 0 rfl) ?_
        exact hE (v := nI (vl t (K 0 3) (K 0 4))) () (by rw [show cVal t (K 0) = vl t (K 0 3) (K 0 4) from if_pos (by omega)]) trivial (X.to (by rw [show cNum t n (K 0) lo hi9 bn = cTok t n (K 0) from by rw [cNum, cChk, show cVal t (K 0) = vl t (K 0 3) (K 0 4) from if_pos (by omega), if_neg (show ¬ vl t (K 0 3) (K 0 4) = NO by unfold NO; omega), if_pos ⟨of_decide_eq_true (Bool.and_eq_true_iff.mp c8).1, of_decide_eq_true (Bool.and_eq_true_iff.mp c8).2, c9⟩]] <;> rfl)) dX2_takeNumber_59
      · refine lv_aload_n hx hb dX2_takeNumber_48 rfl (lv_at hl 1 rfl) ?_
        refine g_iconst (n := 3) C0 rfl dX2_takeNumber_49 ?_
        refine g_callV (As := [.int (nI 3)]) (rest := []) (wr := (tW tk ta tb n t)) (C0.sz hl) X (c_X2_fail l D tk a ta hD K wt 3 (by first | assumption | omega)) ⟨tb271, tb274, tb4, ⟨by decide, by decide, rfl⟩, rfl, rfl, Nat.le_of_ble_eq_true rfl, Nat.le_of_ble_eq_true rfl⟩ tb273 tbs3 0 2 rfl rfl rfl rfl [0] [1, 2] rfl rfl rfl rfl rfl (Nat.le_of_ble_eq_true rfl) ⟨Nat.le_of_ble_eq_true rfl, Nat.le_of_ble_eq_true rfl⟩ dX2_takeNumber_50 (fun _ H locs _ X => ?_)
        have X : Hx D zA zs H locs (tW tk ta tb n t ++ rV a ta hD (u3 K 0 (cFail (K 0) 3)) wt) := X
        have X : Hx D zA zs H locs (rV a ta hD (u3 K 0 (cFail (K 0) 3)) wt ++ tW tk ta tb n t) := X.sub [2, 0, 1] rfl rfl
        refine lv_aload_n hx hb dX2_takeNumber_53 rfl (lv_at hl 1 rfl) ?_
        refine g_callV (As := []) (rest := []) (wr := []) (C0.sz hl) X (c_X2_readToken l D tk a ta tb hD (u3 K 0 (cFail (K 0) 3)) wt n t (by first | assumption | omega) (by first | assumption | omega) (by first | exact hI.2.1 | exact (hI.fail (by decide)).2.1) (by first | exact hI.2.2.2.1 | exact (hI.fail (by decide)).2.2.2.1)) ⟨tb259, tb262, tb4, ⟨by decide, by decide, rfl⟩, rfl, rfl, Nat.le_of_ble_eq_true rfl, Nat.le_of_ble_eq_true rfl⟩ tb261 tbs0 0 2 rfl rfl rfl rfl [0, 1, 2] [] rfl rfl rfl rfl rfl (Nat.le_of_ble_eq_true rfl) ⟨Nat.le_of_ble_eq_true rfl, Nat.le_of_ble_eq_true rfl⟩ dX2_takeNumber_54 (fun _ H locs _ X => ?_)
        have X : Hx D zA zs H locs (rV a ta hD (u3 K 0 (cTok t n ((u3 K 0 (cFail (K 0) 3)) 0))) wt ++ tW tk ta tb n t) := X
        refine lv_iload hx hb dX2_takeNumber_57 (lv_at hl 0 rfl) ?_
        exact hE (v := nI (vl t (K 0 3) (K 0 4))) () (by rw [show cVal t (K 0) = vl t (K 0 3) (K 0 4) from if_pos (by omega)]) trivial (X.to (by rw [show cNum t n (K 0) lo hi9 bn = cTok t n ((cFail (K 0) 3)) from by rw [cNum, cChk, show cVal t (K 0) = vl t (K 0 3) (K 0 4) from if_pos (by omega), if_neg (show ¬ vl t (K 0 3) (K 0 4) = NO by unfold NO; omega), if_neg (fun q => q.2.2 c10)]] <;> rfl)) dX2_takeNumber_59
