set_option maxHeartbeats 4000000 in
set_option maxRecDepth 100000 in
theorem c_X2_isNamed (l : Launch) (D : va_G) (tk : Nat → ClassId) (sK sV : Nat → Nat) (a ta tb : Nat) (hD : Nat → Nat) (K : Nat → Nat → Nat) (wt : Bool) (n : Nat) (t : Nat → Nat) (w : Nat) (hn : n ≤ 160) (ht8 : ∀ j, j < n → t j < 128) (hI : RI t n (K 0)) (hw7 : w < 7) (hts : K 0 3 ≤ K 0 4) : MS l yX2_isNamed cX2_isNamed 4 (some .boolean) ⟨4, 0, 0, 85⟩ D (TYS tk) sK sV [.ref a, .ref (sK w)] (rV a ta hD K wt ++ tW tk ta tb n t) (fun (_ : Unit) => True) (fun _ => some (.int (nI (rb (isN t (K 0 3) (K 0 4) (strW.getD w [])))))) (fun _ => rV a ta hD K wt ++ tW tk ta tb n t) 0 0 := by
  refine MS.of_z (by decide) rfl ?_
  intro zp ze zs zm za zb zt zc zA zQ ls C0 hnm S0 X hl hE
  have hx := C0.1
  have hb := C0.2.1
  have ht := C0.2.2.2.2.1
  have X : Hx D zA zs zs.heap [] (rV a ta hD K wt ++ tW tk ta tb n t) := X
  have hl : lv_has ls 4 [(0, .ref a), (1, .ref (sK w))] := hl
  obtain ⟨hi1, hi2, hi3, hi4, hi5, hi6, hi7⟩ := id hI
  have hL := str_len w hw7
  obtain ⟨H, hH⟩ : ∃ H, H = zs.heap := ⟨_, rfl⟩
  rw [← hH] at X ⊢
  obtain ⟨locs, hlo⟩ : ∃ L : List Loc, L = [] := ⟨_, rfl⟩
  rw [← hlo] at X ⊢
  refine lv_aload_n hx hb dX2_isNamed_0 rfl (lv_at hl 0 rfl) ?_
  refine g_get (v := .int (nI (K 0 4))) C0 X kX2 0 6 tb142 rfl rfl rfl dX2_isNamed_1 ?_
  refine lv_aload_n hx hb dX2_isNamed_4 rfl (lv_at hl 0 rfl) ?_
  refine g_get (v := .int (nI (K 0 3))) C0 X kX2 0 5 tb141 rfl rfl rfl dX2_isNamed_5 ?_
  refine g_isub (n := (K 0 4) - (K 0 3)) C0 (by omega) rfl dX2_isNamed_8 ?_
  refine lv_aload_n hx hb dX2_isNamed_9 rfl (lv_at hl 1 rfl) ?_
  refine g_callVk (As := []) (rest := [.int (nI ((K 0 4) - (K 0 3)))]) (wr := (rV a ta hD K wt ++ tW tk ta tb n t)) (i := w) (C0.sz hl) S0 X (c_strLen l D tk sK sV w (by assumption)) ⟨tb284, tb287, tb9, ⟨by decide, by decide, rfl⟩, rfl, rfl, Nat.le_of_ble_eq_true rfl, Nat.le_of_ble_eq_true rfl⟩ tb285 tb286 (by first | decide | assumption) rfl rfl [] [0, 1, 2] rfl rfl rfl rfl rfl (Nat.le_of_ble_eq_true rfl) ⟨Nat.le_of_ble_eq_true rfl, Nat.le_of_ble_eq_true rfl⟩ dX2_isNamed_10 (fun _ H locs _ X => ?_)
  have X : Hx D zA zs H locs (rV a ta hD K wt ++ tW tk ta tb n t) := X
  refine g_icmp_ne (x := (K 0 4) - (K 0 3)) (y := strLen.getD w 0) (tgt := 20) C0 (by omega) (by omega) dX2_isNamed_13 rfl (fun c1 => ?_) (fun c2 => ?_)
  · refine g_iconst (n := 0) C0 rfl dX2_isNamed_20 ?_
    refine lv_istore_n (lv' := [(2, .int (nI 0)), (0, .ref a), (1, .ref (sK w))]) hx hb dX2_isNamed_21 rfl hl (by decide) rfl (fun ls hl => ?_)
    refine g_iconst (n := 0) C0 rfl dX2_isNamed_22 ?_
    refine lv_istore_n (lv' := [(3, .int (nI 0)), (2, .int (nI 0)), (0, .ref a), (1, .ref (sK w))]) hx hb dX2_isNamed_23 rfl hl (by decide) rfl (fun ls hl => ?_)
    have J24 : ∀ (fz : Nat) (al i : Nat), strLen.getD w 0 - i < fz → ∀ (hi9 : i ≤ strLen.getD w 0) (ha1 : al = 0 ∨ (al = 1 ∧ K 0 4 - K 0 3 = strLen.getD w 0 ∧ ball (fun j => decide (t (K 0 3 + j) = (strW.getD w []).getD j 0)) i = true)) (ha0 : al = 0 → isN t (K 0 3) (K 0 4) (strW.getD w []) = false) (H : Heap) (locs : List Loc) (ls : Array Slot), Hx D zA zs H locs (rV a ta hD K wt ++ tW tk ta tb n t) → lv_has ls 4 [(3, .int (nI i)), (2, .int (nI al)), (0, .ref a), (1, .ref (sK w))] → W zp l ze ⟨4, 0, 0, 85⟩ zs zm za zb zt zc H locs 0 0 zQ (F0 zm 24 ls []) := by
      intro fz
      induction fz with
      | zero => intro al i hz; exact absurd hz (Nat.not_lt_zero _)
      | succ fz ih24 =>
        intro al i hz24 hi9 ha1 ha0 H locs ls X hl
        refine lv_iload_n hx hb dX2_isNamed_24 rfl (lv_at hl 1 rfl) ?_
        refine g_ifeq (x := al) (tgt := 70) C0 (by omega) dX2_isNamed_25 rfl (fun c3 => ?_) (fun c4 => ?_)
        · refine lv_iload_n hx hb dX2_isNamed_70 rfl (lv_at hl 1 rfl) ?_
          refine g_top (y := nI (rb (isN t (K 0 3) (K 0 4) (strW.getD w [])))) (by rw [ha0 c3, c3]; rfl) ?_
          exact hE (v := isN t (K 0 3) (K 0 4) (strW.getD w [])) () rfl trivial X dX2_isNamed_71
        · refine lv_iload_n hx hb dX2_isNamed_28 rfl (lv_at hl 0 rfl) ?_
          refine lv_aload_n hx hb dX2_isNamed_29 rfl (lv_at hl 3 rfl) ?_
          refine g_callVk (As := []) (rest := [.int (nI i)]) (wr := (rV a ta hD K wt ++ tW tk ta tb n t)) (i := w) (C0.sz hl) S0 X (c_strLen l D tk sK sV w (by assumption)) ⟨tb284, tb287, tb9, ⟨by decide, by decide, rfl⟩, rfl, rfl, Nat.le_of_ble_eq_true rfl, Nat.le_of_ble_eq_true rfl⟩ tb285 tb286 (by first | decide | assumption) rfl rfl [] [0, 1, 2] rfl rfl rfl rfl rfl (Nat.le_of_ble_eq_true rfl) ⟨Nat.le_of_ble_eq_true rfl, Nat.le_of_ble_eq_true rfl⟩ dX2_isNamed_30 (fun _ H locs _ X => ?_)
          have X : Hx D zA zs H locs (rV a ta hD K wt ++ tW tk ta tb n t) := X
          refine g_icmp_ge (x := i) (y := strLen.getD w 0) (tgt := 70) C0 (by omega) (by omega) dX2_isNamed_33 rfl (fun c5 => ?_) (fun c6 => ?_)
          · refine lv_iload_n hx hb dX2_isNamed_70 rfl (lv_at hl 1 rfl) ?_
            have hal := ha1.resolve_left (by omega)
            refine g_top (y := nI (rb (isN t (K 0 3) (K 0 4) (strW.getD w [])))) (by rw [isN_t (w := (strW.getD w [])) (by rw [← hL.1]; exact hal.2.1) (by rw [← hL.1, show strLen.getD w 0 = i by omega]; exact hal.2.2), hal.1]; rfl) ?_
            exact hE (v := isN t (K 0 3) (K 0 4) (strW.getD w [])) () rfl trivial X dX2_isNamed_71
          · have hal := ha1.resolve_left (by omega)
            refine lv_aload_n hx hb dX2_isNamed_36 rfl (lv_at hl 2 rfl) ?_
            refine g_get (v := .ref ta) C0 X kX2 0 0 tb132 rfl rfl rfl dX2_isNamed_37 ?_
            refine g_get (v := .ref tb) C0 X kX5 1 1 tb123 rfl rfl rfl dX2_isNamed_40 ?_
            refine lv_aload_n hx hb dX2_isNamed_43 rfl (lv_at hl 2 rfl) ?_
            refine g_get (v := .int (nI (K 0 3))) C0 X kX2 0 5 tb141 rfl rfl rfl dX2_isNamed_44 ?_
            refine lv_iload_n hx hb dX2_isNamed_47 rfl (lv_at hl 0 rfl) ?_
            refine g_iadd (n := K 0 3 + i) C0 (by first | rfl | omega) dX2_isNamed_48 ?_
            refine g_bald (v := nI (t (K 0 3 + i))) (i := K 0 3 + i) C0 X 2 1 rfl rfl (by omega) rfl rfl dX2_isNamed_49 ?_
            refine lv_aload_n hx hb dX2_isNamed_50 rfl (lv_at hl 3 rfl) ?_
            refine lv_iload_n hx hb dX2_isNamed_51 rfl (lv_at hl 0 rfl) ?_
            refine g_callVk (As := [.int (nI i)]) (rest := [.int (nI (t (K 0 3 + i)))]) (wr := (rV a ta hD K wt ++ tW tk ta tb n t)) (i := w) (C0.sz hl) S0 X (c_strAt l D tk sK sV w i (by first | assumption | omega) (by first | assumption | omega)) ⟨tb294, tb297, tb9, ⟨by decide, by decide, rfl⟩, rfl, rfl, Nat.le_of_ble_eq_true rfl, Nat.le_of_ble_eq_true rfl⟩ tb295 tb296 (by first | decide | assumption) rfl rfl [] [0, 1, 2] rfl rfl rfl rfl rfl (Nat.le_of_ble_eq_true rfl) ⟨Nat.le_of_ble_eq_true rfl, Nat.le_of_ble_eq_true rfl⟩ dX2_isNamed_52 (fun _ H locs _ X => ?_)
            have X : Hx D zA zs H locs (rV a ta hD K wt ++ tW tk ta tb n t) := X
            have h8 := ht8 (K 0 3 + i) (by omega)
            have hB := (str_b w hw7 i (by omega)).2
            refine g_icmp_ne (x := t (K 0 3 + i)) (y := (strW.getD w []).getD i 0) (tgt := 62) C0 (by omega) (by omega) dX2_isNamed_55 rfl (fun c7 => ?_) (fun c8 => ?_)
            · refine g_iconst (n := 0) C0 rfl dX2_isNamed_62 ?_
              refine lv_istore_n (lv' := [(2, .int (nI 0)), (3, .int (nI i)), (0, .ref a), (1, .ref (sK w))]) hx hb dX2_isNamed_63 rfl hl (by decide) rfl (fun ls hl => ?_)
              refine g_iinc (j := 1) (z := i + 1) (lv' := [(3, .int (nI (i + 1))), (2, .int (nI 0)), (0, .ref a), (1, .ref (sK w))]) C0 rfl (by first | rfl | omega) dX2_isNamed_64 hl (k := 1) rfl (by decide) rfl (fun ls hl => ?_)
              refine lv_goto (tgt := 24) hx hb dX2_isNamed_67 (by decide) ?_
              exact ih24 0 (i + 1) (by omega) (by omega) (by exact Or.inl rfl) (by exact fun _ => isN_f (by rw [← hL.1]; omega) c7) H locs ls X (lv_sub hl [0, 1, 2, 3] rfl)
            · refine g_iconst (n := 1) C0 rfl dX2_isNamed_58 ?_
              refine lv_goto (tgt := 63) hx hb dX2_isNamed_59 (by decide) ?_
              refine lv_istore_n (lv' := [(2, .int (nI 1)), (3, .int (nI i)), (0, .ref a), (1, .ref (sK w))]) hx hb dX2_isNamed_63 rfl hl (by decide) rfl (fun ls hl => ?_)
              refine g_iinc (j := 1) (z := i + 1) (lv' := [(3, .int (nI (i + 1))), (2, .int (nI 1)), (0, .ref a), (1, .ref (sK w))]) C0 rfl (by first | rfl | omega) dX2_isNamed_64 hl (k := 1) rfl (by decide) rfl (fun ls hl => ?_)
              refine lv_goto (tgt := 24) hx hb dX2_isNamed_67 (by decide) ?_
              exact ih24 1 (i + 1) (by omega) (by omega) (by exact Or.inr ⟨rfl, hal.2.1, ball_t hal.2.2 (decide_eq_true c8)⟩) (by exact fun q => absurd q (by decide)) H locs ls X (lv_sub hl [0, 1, 2, 3] rfl)
    exact J24 ((strLen.getD w 0 - 0) + 1) 0 0 (Nat.lt_succ_self _) (by omega) (by exact Or.inl rfl) (by exact fun _ => isN_l (by rw [← hL.1]; exact c1)) H locs ls X (lv_sub hl [0, 1, 2, 3] rfl)
  · refine g_iconst (n := 1) C0 rfl dX2_isNamed_16 ?_
    refine lv_goto (tgt := 21) hx hb dX2_isNamed_17 (by decide) ?_
    refine lv_istore_n (lv' := [(2, .int (nI 1)), (0, .ref a), (1, .ref (sK w))]) hx hb dX2_isNamed_21 rfl hl (by decide) rfl (fun ls hl => ?_)
    refine g_iconst (n := 0) C0 rfl dX2_isNamed_22 ?_
    refine lv_istore_n (lv' := [(3, .int (nI 0)), (2, .int (nI 1)), (0, .ref a), (1, .ref (sK w))]) hx hb dX2_isNamed_23 rfl hl (by decide) rfl (fun ls hl => ?_)
    have J24 : ∀ (fz : Nat) (al i : Nat), strLen.getD w 0 - i < fz → ∀ (hi9 : i ≤ strLen.getD w 0) (ha1 : al = 0 ∨ (al = 1 ∧ K 0 4 - K 0 3 = strLen.getD w 0 ∧ ball (fun j => decide (t (K 0 3 + j) = (strW.getD w []).getD j 0)) i = true)) (ha0 : al = 0 → isN t (K 0 3) (K 0 4) (strW.getD w []) = false) (H : Heap) (locs : List Loc) (ls : Array Slot), Hx D zA zs H locs (rV a ta hD K wt ++ tW tk ta tb n t) → lv_has ls 4 [(3, .int (nI i)), (2, .int (nI al)), (0, .ref a), (1, .ref (sK w))] → W zp l ze ⟨4, 0, 0, 85⟩ zs zm za zb zt zc H locs 0 0 zQ (F0 zm 24 ls []) := by
      intro fz
      induction fz with
      | zero => intro al i hz; exact absurd hz (Nat.not_lt_zero _)
      | succ fz ih24 =>
        intro al i hz24 hi9 ha1 ha0 H locs ls X hl
        refine lv_iload_n hx hb dX2_isNamed_24 rfl (lv_at hl 1 rfl) ?_
        refine g_ifeq (x := al) (tgt := 70) C0 (by omega) dX2_isNamed_25 rfl (fun c9 => ?_) (fun c10 => ?_)
        · refine lv_iload_n hx hb dX2_isNamed_70 rfl (lv_at hl 1 rfl) ?_
          refine g_top (y := nI (rb (isN t (K 0 3) (K 0 4) (strW.getD w [])))) (by rw [ha0 c9, c9]; rfl) ?_
          exact hE (v := isN t (K 0 3) (K 0 4) (strW.getD w [])) () rfl trivial X dX2_isNamed_71
        · refine lv_iload_n hx hb dX2_isNamed_28 rfl (lv_at hl 0 rfl) ?_
          refine lv_aload_n hx hb dX2_isNamed_29 rfl (lv_at hl 3 rfl) ?_
          refine g_callVk (As := []) (rest := [.int (nI i)]) (wr := (rV a ta hD K wt ++ tW tk ta tb n t)) (i := w) (C0.sz hl) S0 X (c_strLen l D tk sK sV w (by assumption)) ⟨tb284, tb287, tb9, ⟨by decide, by decide, rfl⟩, rfl, rfl, Nat.le_of_ble_eq_true rfl, Nat.le_of_ble_eq_true rfl⟩ tb285 tb286 (by first | decide | assumption) rfl rfl [] [0, 1, 2] rfl rfl rfl rfl rfl (Nat.le_of_ble_eq_true rfl) ⟨Nat.le_of_ble_eq_true rfl, Nat.le_of_ble_eq_true rfl⟩ dX2_isNamed_30 (fun _ H locs _ X => ?_)
          have X : Hx D zA zs H locs (rV a ta hD K wt ++ tW tk ta tb n t) := X
          refine g_icmp_ge (x := i) (y := strLen.getD w 0) (tgt := 70) C0 (by omega) (by omega) dX2_isNamed_33 rfl (fun c11 => ?_) (fun c12 => ?_)
          · refine lv_iload_n hx hb dX2_isNamed_70 rfl (lv_at hl 1 rfl) ?_
            have hal := ha1.resolve_left (by omega)
            refine g_top (y := nI (rb (isN t (K 0 3) (K 0 4) (strW.getD w [])))) (by rw [isN_t (w := (strW.getD w [])) (by rw [← hL.1]; exact hal.2.1) (by rw [← hL.1, show strLen.getD w 0 = i by omega]; exact hal.2.2), hal.1]; rfl) ?_
            exact hE (v := isN t (K 0 3) (K 0 4) (strW.getD w [])) () rfl trivial X dX2_isNamed_71
          · have hal := ha1.resolve_left (by omega)
            refine lv_aload_n hx hb dX2_isNamed_36 rfl (lv_at hl 2 rfl) ?_
            refine g_get (v := .ref ta) C0 X kX2 0 0 tb132 rfl rfl rfl dX2_isNamed_37 ?_
            refine g_get (v := .ref tb) C0 X kX5 1 1 tb123 rfl rfl rfl dX2_isNamed_40 ?_
            refine lv_aload_n hx hb dX2_isNamed_43 rfl (lv_at hl 2 rfl) ?_
            refine g_get (v := .int (nI (K 0 3))) C0 X kX2 0 5 tb141 rfl rfl rfl dX2_isNamed_44 ?_
            refine lv_iload_n hx hb dX2_isNamed_47 rfl (lv_at hl 0 rfl) ?_
            refine g_iadd (n := K 0 3 + i) C0 (by first | rfl | omega) dX2_isNamed_48 ?_
            refine g_bald (v := nI (t (K 0 3 + i))) (i := K 0 3 + i) C0 X 2 1 rfl rfl (by omega) rfl rfl dX2_isNamed_49 ?_
            refine lv_aload_n hx hb dX2_isNamed_50 rfl (lv_at hl 3 rfl) ?_
            refine lv_iload_n hx hb dX2_isNamed_51 rfl (lv_at hl 0 rfl) ?_
            refine g_callVk (As := [.int (nI i)]) (rest := [.int (nI (t (K 0 3 + i)))]) (wr := (rV a ta hD K wt ++ tW tk ta tb n t)) (i := w) (C0.sz hl) S0 X (c_strAt l D tk sK sV w i (by first | assumption | omega) (by first | assumption | omega)) ⟨tb294, tb297, tb9, ⟨by decide, by decide, rfl⟩, rfl, rfl, Nat.le_of_ble_eq_true rfl, Nat.le_of_ble_eq_true rfl⟩ tb295 tb296 (by first | decide | assumption) rfl rfl [] [0, 1, 2] rfl rfl rfl rfl rfl (Nat.le_of_ble_eq_true rfl) ⟨Nat.le_of_ble_eq_true rfl, Nat.le_of_ble_eq_true rfl⟩ dX2_isNamed_52 (fun _ H locs _ X => ?_)
            have X : Hx D zA zs H locs (rV a ta hD K wt ++ tW tk ta tb n t) := X
            have h8 := ht8 (K 0 3 + i) (by omega)
            have hB := (str_b w hw7 i (by omega)).2
            refine g_icmp_ne (x := t (K 0 3 + i)) (y := (strW.getD w []).getD i 0) (tgt := 62) C0 (by omega) (by omega) dX2_isNamed_55 rfl (fun c13 => ?_) (fun c14 => ?_)
            · refine g_iconst (n := 0) C0 rfl dX2_isNamed_62 ?_
              refine lv_istore_n (lv' := [(2, .int (nI 0)), (3, .int (nI i)), (0, .ref a), (1, .ref (sK w))]) hx hb dX2_isNamed_63 rfl hl (by decide) rfl (fun ls hl => ?_)
              refine g_iinc (j := 1) (z := i + 1) (lv' := [(3, .int (nI (i + 1))), (2, .int (nI 0)), (0, .ref a), (1, .ref (sK w))]) C0 rfl (by first | rfl | omega) dX2_isNamed_64 hl (k := 1) rfl (by decide) rfl (fun ls hl => ?_)
              refine lv_goto (tgt := 24) hx hb dX2_isNamed_67 (by decide) ?_
              exact ih24 0 (i + 1) (by omega) (by omega) (by exact Or.inl rfl) (by exact fun _ => isN_f (by rw [← hL.1]; omega) c13) H locs ls X (lv_sub hl [0, 1, 2, 3] rfl)
            · refine g_iconst (n := 1) C0 rfl dX2_isNamed_58 ?_
              refine lv_goto (tgt := 63) hx hb dX2_isNamed_59 (by decide) ?_
              refine lv_istore_n (lv' := [(2, .int (nI 1)), (3, .int (nI i)), (0, .ref a), (1, .ref (sK w))]) hx hb dX2_isNamed_63 rfl hl (by decide) rfl (fun ls hl => ?_)
              refine g_iinc (j := 1) (z := i + 1) (lv' := [(3, .int (nI (i + 1))), (2, .int (nI 1)), (0, .ref a), (1, .ref (sK w))]) C0 rfl (by first | rfl | omega) dX2_isNamed_64 hl (k := 1) rfl (by decide) rfl (fun ls hl => ?_)
              refine lv_goto (tgt := 24) hx hb dX2_isNamed_67 (by decide) ?_
              exact ih24 1 (i + 1) (by omega) (by omega) (by exact Or.inr ⟨rfl, hal.2.1, ball_t hal.2.2 (decide_eq_true c14)⟩) (by exact fun q => absurd q (by decide)) H locs ls X (lv_sub hl [0, 1, 2, 3] rfl)
    exact J24 ((strLen.getD w 0 - 0) + 1) 1 0 (Nat.lt_succ_self _) (by omega) (by exact Or.inr ⟨rfl, c2, rfl⟩) (by exact fun q => absurd q (by decide)) H locs ls X (lv_sub hl [0, 1, 2, 3] rfl)
set_option maxHeartbeats 4000000 in
set_option maxRecDepth 100000 in
theorem c_X2_readTree (l : Launch) (D : va_G) (tk : Nat → ClassId) (a ta tb : Nat) (hD : Nat → Nat) (K : Nat → Nat → Nat) (wt : Bool) (n : Nat) (t : Nat → Nat) (G : Nat → Nat → Nat) (d e : Nat → Nat) (k : Nat) (hn : n ≤ 160) (ht8 : ∀ j, j < n → t j < 128) (hI : RI t n (K 0)) (hd9 : DI G) : MX l yX2_readTree cX2_readTree 2 none ⟨3, 0, 0, 68⟩ D (TYS tk) [.ref a, .int (nI k)] (rV a ta hD K wt ++ tW tk ta tb n t ++ gW tk hD G d e) (fun (_ : Unit) => True) (fun _ => none) (fun _ => rV a ta hD (u3 K 0 (cTreeR t n (K 0) G)) wt ++ tW tk ta tb n t ++ gW tk hD (cTreeG t n k (K 0) G) d e) 0 0 := by
  refine MX.of_v (by decide) rfl ?_
  intro zp ze zs zm za zb zt zc zA zQ ls C0 hnm X hl hE
  have hx := C0.1
  have hb := C0.2.1
  have ht := C0.2.2.2.2.1
  have X : Hx D zA zs zs.heap [] (rV a ta hD K wt ++ tW tk ta tb n t ++ gW tk hD G d e) := X
  have hl : lv_has ls 2 [(0, .ref a), (1, .int (nI k))] := hl
  obtain ⟨hi1, hi2, hi3, hi4, hi5, hi6, hi7⟩ := id hI
  obtain ⟨hd1, hd2, hd3⟩ := id hd9
  obtain ⟨H, hH⟩ : ∃ H, H = zs.heap := ⟨_, rfl⟩
  rw [← hH] at X ⊢
  obtain ⟨locs, hlo⟩ : ∃ L : List Loc, L = [] := ⟨_, rfl⟩
  rw [← hlo] at X ⊢
  refine lv_aload_n hx hb dX2_readTree_0 rfl (lv_at hl 0 rfl) ?_
  refine lv_aload_n hx hb dX2_readTree_1 rfl (lv_at hl 0 rfl) ?_
  refine g_get (v := .ref (hD 0)) C0 X kX2 0 1 tb134 rfl rfl rfl dX2_readTree_2 ?_
  refine g_get (v := .int (nI (G 8 0))) C0 X kX1 3 0 tb32 rfl rfl rfl dX2_readTree_5 ?_
  refine g_bipush (n := 6) C0 (by decide) dX2_readTree_8 ?_
  refine g_icmp_ge (x := G 8 0) (y := 6) (tgt := 17) C0 (by omega) (by omega) dX2_readTree_10 rfl (fun c1 => ?_) (fun c2 => ?_)
  · refine g_iconst (n := 0) C0 rfl dX2_readTree_17 ?_
    refine g_iconst (n := 5) C0 rfl dX2_readTree_18 ?_
    refine g_callV (As := [.int (nI 0), .int (nI 5)]) (rest := []) (wr := (gW tk hD G d e)) (C0.sz hl) X (c_X2_takeName l D tk a ta tb hD K wt n t false 5 (by exact hn) (by exact ht8) (by exact hI) (by first | assumption | decide | omega)) ⟨tb336, tb339, tb4, ⟨by decide, by decide, rfl⟩, rfl, rfl, Nat.le_of_ble_eq_true rfl, Nat.le_of_ble_eq_true rfl⟩ tb338 tbs7 0 2 rfl rfl rfl rfl [0, 1, 2] [3, 4, 5, 6, 7, 8, 9, 10, 11, 12] rfl rfl rfl rfl rfl (Nat.le_of_ble_eq_true rfl) ⟨Nat.le_of_ble_eq_true rfl, Nat.le_of_ble_eq_true rfl⟩ dX2_readTree_19 (fun _ H locs _ X => ?_)
    have X : Hx D zA zs H locs (gW tk hD G d e ++ rV a ta hD (u3 K 0 (cName t n (K 0) false 5)) wt ++ tW tk ta tb n t) := X
    have X : Hx D zA zs H locs (gW tk hD G d e ++ rV a ta hD (u3 K 0 (cT0 t n (K 0) G)) wt ++ tW tk ta tb n t) := X.to (by rw [show cT0 t n (K 0) G = cName t n (K 0) false 5 from by rw [cT0, decide_eq_false (show ¬ G 8 0 < 6 by omega)]] <;> rfl)
    have hI1 : RI t n (cT0 t n (K 0) G) := hI.name (by decide)
    have X : Hx D zA zs H locs (rV a ta hD (u3 K 0 (cT0 t n (K 0) G)) wt ++ tW tk ta tb n t ++ gW tk hD G d e) := X.sub [10, 11, 12, 0, 1, 2, 3, 4, 5, 6, 7, 8, 9] rfl rfl
    refine lv_aload_n hx hb dX2_readTree_22 rfl (lv_at hl 0 rfl) ?_
    refine g_callV (As := []) (rest := []) (wr := (gW tk hD G d e)) (C0.sz hl) X (c_X2_takeSign l D tk a ta tb hD (u3 K 0 (cT0 t n (K 0) G)) wt n t (by exact hn) (by exact ht8) (by exact hI1)) ⟨tb340, tb343, tb4, ⟨by decide, by decide, rfl⟩, rfl, rfl, Nat.le_of_ble_eq_true rfl, Nat.le_of_ble_eq_true rfl⟩ tb342 tbs8 0 2 rfl rfl rfl rfl [0, 1, 2] [3, 4, 5, 6, 7, 8, 9, 10, 11, 12] rfl rfl rfl rfl rfl (Nat.le_of_ble_eq_true rfl) ⟨Nat.le_of_ble_eq_true rfl, Nat.le_of_ble_eq_true rfl⟩ dX2_readTree_23 (fun _ H locs _ X => ?_)
    have X : Hx D zA zs H locs (gW tk hD G d e ++ rV a ta hD (u3 K 0 (cSign t n ((u3 K 0 (cT0 t n (K 0) G)) 0))) wt ++ tW tk ta tb n t) := X
    have X : Hx D zA zs H locs (gW tk hD G d e ++ rV a ta hD (u3 K 0 (cTreeR t n (K 0) G)) wt ++ tW tk ta tb n t) := X
    have hI5 : RI t n (cTreeR t n (K 0) G) := hI1.sign
    have hb6 : cTreeR t n (K 0) G 0 ≤ 6 := hI5.2.2.2.1
    have X : Hx D zA zs H locs (rV a ta hD (u3 K 0 (cTreeR t n (K 0) G)) wt ++ tW tk ta tb n t ++ gW tk hD G d e) := X.sub [10, 11, 12, 0, 1, 2, 3, 4, 5, 6, 7, 8, 9] rfl rfl
    refine lv_aload_n hx hb dX2_readTree_26 rfl (lv_at hl 0 rfl) ?_
    refine g_get (v := .int (nI ((cTreeR t n (K 0) G) 0))) C0 X kX2 0 2 tb136 rfl rfl rfl dX2_readTree_27 ?_
    refine g_ifne (x := (cTreeR t n (K 0) G) 0) (tgt := 42) C0 (by omega) dX2_readTree_30 rfl (fun c3 => ?_) (fun c4 => ?_)
    · exact hE (v := ()) () rfl trivial (X.to (by rw [cTreeG, if_neg (by omega)] <;> rfl)) dX2_readTree_42
    · have hg := tree_0 (t := t) (n := n) (r := K 0) (G := G) (by omega)
      refine lv_aload_n hx hb dX2_readTree_33 rfl (lv_at hl 0 rfl) ?_
      refine g_get (v := .ref (hD 0)) C0 X kX2 0 1 tb134 rfl rfl rfl dX2_readTree_34 ?_
      refine lv_iload_n hx hb dX2_readTree_37 rfl (lv_at hl 1 rfl) ?_
      refine g_callV (As := [.int (nI k)]) (rest := []) (wr := (rV a ta hD (u3 K 0 (cTreeR t n (K 0) G)) wt ++ tW tk ta tb n t)) (C0.sz hl) X (c_X1_addTree l D tk hD G d e k (by exact hg)) ⟨tb344, tb347, tb2, ⟨by decide, by decide, rfl⟩, rfl, rfl, Nat.le_of_ble_eq_true rfl, Nat.le_of_ble_eq_true rfl⟩ tb345 tb346 3 1 rfl rfl rfl rfl [3, 4, 5, 6, 7, 8, 9, 10, 11, 12] [0, 1, 2] rfl rfl rfl rfl rfl (Nat.le_of_ble_eq_true rfl) ⟨Nat.le_of_ble_eq_true rfl, Nat.le_of_ble_eq_true rfl⟩ dX2_readTree_38 (fun _ H locs _ X => ?_)
      have X : Hx D zA zs H locs (rV a ta hD (u3 K 0 (cTreeR t n (K 0) G)) wt ++ tW tk ta tb n t ++ gW tk hD (u2 (u2 G 0 (G 8 0) k) 8 0 (G 8 0 + 1)) d e) := X
      refine lv_pop hx hb dX2_readTree_41 rfl ?_
      exact hE (v := ()) () rfl trivial (X.to (by rw [cTreeG, if_pos (by omega)] <;> rfl)) dX2_readTree_42
  · refine g_iconst (n := 1) C0 rfl dX2_readTree_13 ?_
    refine lv_goto (tgt := 18) hx hb dX2_readTree_14 (by decide) ?_
    refine g_iconst (n := 5) C0 rfl dX2_readTree_18 ?_
    refine g_callV (As := [.int (nI 1), .int (nI 5)]) (rest := []) (wr := (gW tk hD G d e)) (C0.sz hl) X (c_X2_takeName l D tk a ta tb hD K wt n t true 5 (by exact hn) (by exact ht8) (by exact hI) (by first | assumption | decide | omega)) ⟨tb336, tb339, tb4, ⟨by decide, by decide, rfl⟩, rfl, rfl, Nat.le_of_ble_eq_true rfl, Nat.le_of_ble_eq_true rfl⟩ tb338 tbs7 0 2 rfl rfl rfl rfl [0, 1, 2] [3, 4, 5, 6, 7, 8, 9, 10, 11, 12] rfl rfl rfl rfl rfl (Nat.le_of_ble_eq_true rfl) ⟨Nat.le_of_ble_eq_true rfl, Nat.le_of_ble_eq_true rfl⟩ dX2_readTree_19 (fun _ H locs _ X => ?_)
    have X : Hx D zA zs H locs (gW tk hD G d e ++ rV a ta hD (u3 K 0 (cName t n (K 0) true 5)) wt ++ tW tk ta tb n t) := X
    have X : Hx D zA zs H locs (gW tk hD G d e ++ rV a ta hD (u3 K 0 (cT0 t n (K 0) G)) wt ++ tW tk ta tb n t) := X.to (by rw [show cT0 t n (K 0) G = cName t n (K 0) true 5 from by rw [cT0, decide_eq_true (show G 8 0 < 6 by omega)]] <;> rfl)
    have hI1 : RI t n (cT0 t n (K 0) G) := hI.name (by decide)
    have X : Hx D zA zs H locs (rV a ta hD (u3 K 0 (cT0 t n (K 0) G)) wt ++ tW tk ta tb n t ++ gW tk hD G d e) := X.sub [10, 11, 12, 0, 1, 2, 3, 4, 5, 6, 7, 8, 9] rfl rfl
    refine lv_aload_n hx hb dX2_readTree_22 rfl (lv_at hl 0 rfl) ?_
    refine g_callV (As := []) (rest := []) (wr := (gW tk hD G d e)) (C0.sz hl) X (c_X2_takeSign l D tk a ta tb hD (u3 K 0 (cT0 t n (K 0) G)) wt n t (by exact hn) (by exact ht8) (by exact hI1)) ⟨tb340, tb343, tb4, ⟨by decide, by decide, rfl⟩, rfl, rfl, Nat.le_of_ble_eq_true rfl, Nat.le_of_ble_eq_true rfl⟩ tb342 tbs8 0 2 rfl rfl rfl rfl [0, 1, 2] [3, 4, 5, 6, 7, 8, 9, 10, 11, 12] rfl rfl rfl rfl rfl (Nat.le_of_ble_eq_true rfl) ⟨Nat.le_of_ble_eq_true rfl, Nat.le_of_ble_eq_true rfl⟩ dX2_readTree_23 (fun _ H locs _ X => ?_)
    have X : Hx D zA zs H locs (gW tk hD G d e ++ rV a ta hD (u3 K 0 (cSign t n ((u3 K 0 (cT0 t n (K 0) G)) 0))) wt ++ tW tk ta tb n t) := X
    have X : Hx D zA zs H locs (gW tk hD G d e ++ rV a ta hD (u3 K 0 (cTreeR t n (K 0) G)) wt ++ tW tk ta tb n t) := X
    have hI5 : RI t n (cTreeR t n (K 0) G) := hI1.sign
    have hb6 : cTreeR t n (K 0) G 0 ≤ 6 := hI5.2.2.2.1
    have X : Hx D zA zs H locs (rV a ta hD (u3 K 0 (cTreeR t n (K 0) G)) wt ++ tW tk ta tb n t ++ gW tk hD G d e) := X.sub [10, 11, 12, 0, 1, 2, 3, 4, 5, 6, 7, 8, 9] rfl rfl
    refine lv_aload_n hx hb dX2_readTree_26 rfl (lv_at hl 0 rfl) ?_
    refine g_get (v := .int (nI ((cTreeR t n (K 0) G) 0))) C0 X kX2 0 2 tb136 rfl rfl rfl dX2_readTree_27 ?_
    refine g_ifne (x := (cTreeR t n (K 0) G) 0) (tgt := 42) C0 (by omega) dX2_readTree_30 rfl (fun c5 => ?_) (fun c6 => ?_)
    · exact hE (v := ()) () rfl trivial (X.to (by rw [cTreeG, if_neg (by omega)] <;> rfl)) dX2_readTree_42
    · have hg := tree_0 (t := t) (n := n) (r := K 0) (G := G) (by omega)
      refine lv_aload_n hx hb dX2_readTree_33 rfl (lv_at hl 0 rfl) ?_
      refine g_get (v := .ref (hD 0)) C0 X kX2 0 1 tb134 rfl rfl rfl dX2_readTree_34 ?_
      refine lv_iload_n hx hb dX2_readTree_37 rfl (lv_at hl 1 rfl) ?_
      refine g_callV (As := [.int (nI k)]) (rest := []) (wr := (rV a ta hD (u3 K 0 (cTreeR t n (K 0) G)) wt ++ tW tk ta tb n t)) (C0.sz hl) X (c_X1_addTree l D tk hD G d e k (by exact hg)) ⟨tb344, tb347, tb2, ⟨by decide, by decide, rfl⟩, rfl, rfl, Nat.le_of_ble_eq_true rfl, Nat.le_of_ble_eq_true rfl⟩ tb345 tb346 3 1 rfl rfl rfl rfl [3, 4, 5, 6, 7, 8, 9, 10, 11, 12] [0, 1, 2] rfl rfl rfl rfl rfl (Nat.le_of_ble_eq_true rfl) ⟨Nat.le_of_ble_eq_true rfl, Nat.le_of_ble_eq_true rfl⟩ dX2_readTree_38 (fun _ H locs _ X => ?_)
      have X : Hx D zA zs H locs (rV a ta hD (u3 K 0 (cTreeR t n (K 0) G)) wt ++ tW tk ta tb n t ++ gW tk hD (u2 (u2 G 0 (G 8 0) k) 8 0 (G 8 0 + 1)) d e) := X
      refine lv_pop hx hb dX2_readTree_41 rfl ?_
      exact hE (v := ()) () rfl trivial (X.to (by rw [cTreeG, if_pos (by omega)] <;> rfl)) dX2_readTree_42
set_option maxHeartbeats 4000000 in
set_option maxRecDepth 100000 in
theorem c_X2_readRoot (l : Launch) (D : va_G) (tk : Nat → ClassId) (a ta tb : Nat) (hD : Nat → Nat) (K : Nat → Nat → Nat) (wt : Bool) (n : Nat) (t : Nat → Nat) (G : Nat → Nat → Nat) (d e : Nat → Nat) (hn : n ≤ 160) (ht8 : ∀ j, j < n → t j < 128) (hI : RI t n (K 0)) (hd9 : DI G) : MX l yX2_readRoot cX2_readRoot 4 none ⟨3, 0, 0, 70⟩ D (TYS tk) [.ref a] (rV a ta hD K wt ++ tW tk ta tb n t ++ gW tk hD G d e) (fun (_ : Unit) => True) (fun _ => none) (fun _ => rV a ta hD (u3 K 0 (cRootR t n (K 0) G)) wt ++ tW tk ta tb n t ++ gW tk hD (cRootG t n (K 0) G) d e) 0 0 := by
  refine MX.of_v (by decide) rfl ?_
  intro zp ze zs zm za zb zt zc zA zQ ls C0 hnm X hl hE
  have hx := C0.1
  have hb := C0.2.1
  have ht := C0.2.2.2.2.1
  have X : Hx D zA zs zs.heap [] (rV a ta hD K wt ++ tW tk ta tb n t ++ gW tk hD G d e) := X
  have hl : lv_has ls 4 [(0, .ref a)] := hl
  obtain ⟨hi1, hi2, hi3, hi4, hi5, hi6, hi7⟩ := id hI
  obtain ⟨hd1, hd2, hd3⟩ := id hd9
  obtain ⟨H, hH⟩ : ∃ H, H = zs.heap := ⟨_, rfl⟩
  rw [← hH] at X ⊢
  obtain ⟨locs, hlo⟩ : ∃ L : List Loc, L = [] := ⟨_, rfl⟩
  rw [← hlo] at X ⊢
  refine lv_aload_n hx hb dX2_readRoot_0 rfl (lv_at hl 0 rfl) ?_
  refine lv_aload_n hx hb dX2_readRoot_1 rfl (lv_at hl 0 rfl) ?_
  refine g_get (v := .ref (hD 0)) C0 X kX2 0 1 tb134 rfl rfl rfl dX2_readRoot_2 ?_
  refine g_get (v := .int (nI (G 8 1))) C0 X kX1 3 2 tb38 rfl rfl rfl dX2_readRoot_5 ?_
  refine g_bipush (n := 9) C0 (by decide) dX2_readRoot_8 ?_
  refine g_icmp_ge (x := G 8 1) (y := 9) (tgt := 17) C0 (by omega) (by omega) dX2_readRoot_10 rfl (fun c1 => ?_) (fun c2 => ?_)
  · refine g_iconst (n := 0) C0 rfl dX2_readRoot_17 ?_
    refine g_iconst (n := 5) C0 rfl dX2_readRoot_18 ?_
    refine g_callV (As := [.int (nI 0), .int (nI 5)]) (rest := []) (wr := (gW tk hD G d e)) (C0.sz hl) X (c_X2_takeName l D tk a ta tb hD K wt n t false 5 (by exact hn) (by exact ht8) (by exact hI) (by first | assumption | decide | omega)) ⟨tb336, tb339, tb4, ⟨by decide, by decide, rfl⟩, rfl, rfl, Nat.le_of_ble_eq_true rfl, Nat.le_of_ble_eq_true rfl⟩ tb338 tbs7 0 2 rfl rfl rfl rfl [0, 1, 2] [3, 4, 5, 6, 7, 8, 9, 10, 11, 12] rfl rfl rfl rfl rfl (Nat.le_of_ble_eq_true rfl) ⟨Nat.le_of_ble_eq_true rfl, Nat.le_of_ble_eq_true rfl⟩ dX2_readRoot_19 (fun _ H locs _ X => ?_)
    have X : Hx D zA zs H locs (gW tk hD G d e ++ rV a ta hD (u3 K 0 (cName t n (K 0) false 5)) wt ++ tW tk ta tb n t) := X
    have X : Hx D zA zs H locs (gW tk hD G d e ++ rV a ta hD (u3 K 0 (cR1 t n (K 0) G)) wt ++ tW tk ta tb n t) := X.to (by rw [show cR1 t n (K 0) G = cName t n (K 0) false 5 from by rw [cR1, decide_eq_false (show ¬ G 8 1 < 9 by omega)]] <;> rfl)
    have hI1 : RI t n (cR1 t n (K 0) G) := hI.name (by decide)
    have X : Hx D zA zs H locs (rV a ta hD (u3 K 0 (cR1 t n (K 0) G)) wt ++ tW tk ta tb n t ++ gW tk hD G d e) := X.sub [10, 11, 12, 0, 1, 2, 3, 4, 5, 6, 7, 8, 9] rfl rfl
    refine lv_aload_n hx hb dX2_readRoot_22 rfl (lv_at hl 0 rfl) ?_
    refine g_iconst (n := 0) C0 rfl dX2_readRoot_23 ?_
    refine g_iconst (n := 5) C0 rfl dX2_readRoot_24 ?_
    refine lv_iconst (v := (-1)) hx hb dX2_readRoot_25 (by decide) ?_
    refine g_callV (As := [.int (nI 0), .int (nI 5), .int (-1)]) (rest := []) (wr := (gW tk hD G d e)) (C0.sz hl) X (c_X2_takeNumber l D tk a ta tb hD (u3 K 0 (cR1 t n (K 0) G)) wt n t 0 5 (-1) (by exact hn) (by exact ht8) (by exact hI1) (by first | assumption | decide | omega) (by first | assumption | decide | omega)) ⟨tb356, tb359, tb4, ⟨by decide, by decide, rfl⟩, rfl, rfl, Nat.le_of_ble_eq_true rfl, Nat.le_of_ble_eq_true rfl⟩ tb358 tbs10 0 2 rfl rfl rfl rfl [0, 1, 2] [3, 4, 5, 6, 7, 8, 9, 10, 11, 12] rfl rfl rfl rfl rfl (Nat.le_of_ble_eq_true rfl) ⟨Nat.le_of_ble_eq_true rfl, Nat.le_of_ble_eq_true rfl⟩ dX2_readRoot_26 (fun _ H locs _ X => ?_)
    have X : Hx D zA zs H locs (gW tk hD G d e ++ rV a ta hD (u3 K 0 (cNum t n ((u3 K 0 (cR1 t n (K 0) G)) 0) 0 5 (-1))) wt ++ tW tk ta tb n t) := X
    have X : Hx D zA zs H locs (gW tk hD G d e ++ rV a ta hD (u3 K 0 (cR2 t n (K 0) G)) wt ++ tW tk ta tb n t) := X
    have hI2 : RI t n (cR2 t n (K 0) G) := hI1.num
    have X : Hx D zA zs H locs (rV a ta hD (u3 K 0 (cR2 t n (K 0) G)) wt ++ tW tk ta tb n t ++ gW tk hD G d e) := X.sub [10, 11, 12, 0, 1, 2, 3, 4, 5, 6, 7, 8, 9] rfl rfl
    refine lv_istore_n (lv' := [(1, .int (nI (cVal t ((u3 K 0 (cR1 t n (K 0) G)) 0)))), (0, .ref a)]) hx hb dX2_readRoot_29 rfl hl (by decide) rfl (fun ls hl => ?_)
    refine lv_aload_n hx hb dX2_readRoot_30 rfl (lv_at hl 1 rfl) ?_
    refine g_iconst (n := 0) C0 rfl dX2_readRoot_31 ?_
    refine g_iconst (n := 5) C0 rfl dX2_readRoot_32 ?_
    refine lv_iload_n hx hb dX2_readRoot_33 rfl (lv_at hl 0 rfl) ?_
    refine g_callV (As := [.int (nI 0), .int (nI 5), .int (nI (cVal t ((u3 K 0 (cR1 t n (K 0) G)) 0)))]) (rest := []) (wr := (gW tk hD G d e)) (C0.sz hl) X (c_X2_takeNumber l D tk a ta tb hD (u3 K 0 (cR2 t n (K 0) G)) wt n t 0 5 (nI (cVal t ((u3 K 0 (cR1 t n (K 0) G)) 0))) (by exact hn) (by exact ht8) (by exact hI2) (by first | assumption | decide | omega) (by first | assumption | decide | omega)) ⟨tb356, tb359, tb4, ⟨by decide, by decide, rfl⟩, rfl, rfl, Nat.le_of_ble_eq_true rfl, Nat.le_of_ble_eq_true rfl⟩ tb358 tbs10 0 2 rfl rfl rfl rfl [0, 1, 2] [3, 4, 5, 6, 7, 8, 9, 10, 11, 12] rfl rfl rfl rfl rfl (Nat.le_of_ble_eq_true rfl) ⟨Nat.le_of_ble_eq_true rfl, Nat.le_of_ble_eq_true rfl⟩ dX2_readRoot_34 (fun _ H locs _ X => ?_)
    have X : Hx D zA zs H locs (gW tk hD G d e ++ rV a ta hD (u3 K 0 (cNum t n ((u3 K 0 (cR2 t n (K 0) G)) 0) 0 5 (nI (cVal t ((u3 K 0 (cR1 t n (K 0) G)) 0))))) wt ++ tW tk ta tb n t) := X
    have X : Hx D zA zs H locs (gW tk hD G d e ++ rV a ta hD (u3 K 0 (cR3 t n (K 0) G)) wt ++ tW tk ta tb n t) := X
    have hI3 : RI t n (cR3 t n (K 0) G) := hI2.num
    have X : Hx D zA zs H locs (rV a ta hD (u3 K 0 (cR3 t n (K 0) G)) wt ++ tW tk ta tb n t ++ gW tk hD G d e) := X.sub [10, 11, 12, 0, 1, 2, 3, 4, 5, 6, 7, 8, 9] rfl rfl
    refine lv_istore_n (lv' := [(2, .int (nI (cVal t ((u3 K 0 (cR2 t n (K 0) G)) 0)))), (1, .int (nI (cVal t ((u3 K 0 (cR1 t n (K 0) G)) 0)))), (0, .ref a)]) hx hb dX2_readRoot_37 rfl hl (by decide) rfl (fun ls hl => ?_)
    refine lv_aload_n hx hb dX2_readRoot_38 rfl (lv_at hl 2 rfl) ?_
    refine g_iconst (n := 1) C0 rfl dX2_readRoot_39 ?_
    refine g_bipush (n := 9) C0 (by decide) dX2_readRoot_40 ?_
    refine lv_iconst (v := (-1)) hx hb dX2_readRoot_42 (by decide) ?_
    refine g_callV (As := [.int (nI 1), .int (nI 9), .int (-1)]) (rest := []) (wr := (gW tk hD G d e)) (C0.sz hl) X (c_X2_takeNumber l D tk a ta tb hD (u3 K 0 (cR3 t n (K 0) G)) wt n t 1 9 (-1) (by exact hn) (by exact ht8) (by exact hI3) (by first | assumption | decide | omega) (by first | assumption | decide | omega)) ⟨tb356, tb359, tb4, ⟨by decide, by decide, rfl⟩, rfl, rfl, Nat.le_of_ble_eq_true rfl, Nat.le_of_ble_eq_true rfl⟩ tb358 tbs10 0 2 rfl rfl rfl rfl [0, 1, 2] [3, 4, 5, 6, 7, 8, 9, 10, 11, 12] rfl rfl rfl rfl rfl (Nat.le_of_ble_eq_true rfl) ⟨Nat.le_of_ble_eq_true rfl, Nat.le_of_ble_eq_true rfl⟩ dX2_readRoot_43 (fun _ H locs _ X => ?_)
    have X : Hx D zA zs H locs (gW tk hD G d e ++ rV a ta hD (u3 K 0 (cNum t n ((u3 K 0 (cR3 t n (K 0) G)) 0) 1 9 (-1))) wt ++ tW tk ta tb n t) := X
    have X : Hx D zA zs H locs (gW tk hD G d e ++ rV a ta hD (u3 K 0 (cR4 t n (K 0) G)) wt ++ tW tk ta tb n t) := X
    have hI4 : RI t n (cR4 t n (K 0) G) := hI3.num
    have X : Hx D zA zs H locs (rV a ta hD (u3 K 0 (cR4 t n (K 0) G)) wt ++ tW tk ta tb n t ++ gW tk hD G d e) := X.sub [10, 11, 12, 0, 1, 2, 3, 4, 5, 6, 7, 8, 9] rfl rfl
    refine lv_istore_n (lv' := [(3, .int (nI (cVal t ((u3 K 0 (cR3 t n (K 0) G)) 0)))), (2, .int (nI (cVal t ((u3 K 0 (cR2 t n (K 0) G)) 0)))), (1, .int (nI (cVal t ((u3 K 0 (cR1 t n (K 0) G)) 0)))), (0, .ref a)]) hx hb dX2_readRoot_46 rfl hl (by decide) rfl (fun ls hl => ?_)
    refine lv_aload_n hx hb dX2_readRoot_47 rfl (lv_at hl 3 rfl) ?_
    refine g_callV (As := []) (rest := []) (wr := (gW tk hD G d e)) (C0.sz hl) X (c_X2_takeSign l D tk a ta tb hD (u3 K 0 (cR4 t n (K 0) G)) wt n t (by exact hn) (by exact ht8) (by exact hI4)) ⟨tb340, tb343, tb4, ⟨by decide, by decide, rfl⟩, rfl, rfl, Nat.le_of_ble_eq_true rfl, Nat.le_of_ble_eq_true rfl⟩ tb342 tbs8 0 2 rfl rfl rfl rfl [0, 1, 2] [3, 4, 5, 6, 7, 8, 9, 10, 11, 12] rfl rfl rfl rfl rfl (Nat.le_of_ble_eq_true rfl) ⟨Nat.le_of_ble_eq_true rfl, Nat.le_of_ble_eq_true rfl⟩ dX2_readRoot_48 (fun _ H locs _ X => ?_)
    have X : Hx D zA zs H locs (gW tk hD G d e ++ rV a ta hD (u3 K 0 (cSign t n ((u3 K 0 (cR4 t n (K 0) G)) 0))) wt ++ tW tk ta tb n t) := X
    have X : Hx D zA zs H locs (gW tk hD G d e ++ rV a ta hD (u3 K 0 (cRootR t n (K 0) G)) wt ++ tW tk ta tb n t) := X
    have hI5 : RI t n (cRootR t n (K 0) G) := hI4.sign
    have hb6 : cRootR t n (K 0) G 0 ≤ 6 := hI5.2.2.2.1
    have X : Hx D zA zs H locs (rV a ta hD (u3 K 0 (cRootR t n (K 0) G)) wt ++ tW tk ta tb n t ++ gW tk hD G d e) := X.sub [10, 11, 12, 0, 1, 2, 3, 4, 5, 6, 7, 8, 9] rfl rfl
    refine lv_aload_n hx hb dX2_readRoot_51 rfl (lv_at hl 3 rfl) ?_
    refine g_get (v := .int (nI ((cRootR t n (K 0) G) 0))) C0 X kX2 0 2 tb136 rfl rfl rfl dX2_readRoot_52 ?_
    refine g_ifne (x := (cRootR t n (K 0) G) 0) (tgt := 69) C0 (by omega) dX2_readRoot_55 rfl (fun c3 => ?_) (fun c4 => ?_)
    · exact hE (v := ()) () rfl trivial (X.to (by rw [cRootG, if_neg (by omega)] <;> rfl)) dX2_readRoot_69
    · have hg := root_0 (t := t) (n := n) (r := K 0) (G := G) (by omega)
      refine lv_aload_n hx hb dX2_readRoot_58 rfl (lv_at hl 3 rfl) ?_
      refine g_get (v := .ref (hD 0)) C0 X kX2 0 1 tb134 rfl rfl rfl dX2_readRoot_59 ?_
      refine lv_iload_n hx hb dX2_readRoot_62 rfl (lv_at hl 2 rfl) ?_
      refine lv_iload_n hx hb dX2_readRoot_63 rfl (lv_at hl 1 rfl) ?_
      refine lv_iload_n hx hb dX2_readRoot_64 rfl (lv_at hl 0 rfl) ?_
      refine g_callV (As := [.int (nI (cVal t ((u3 K 0 (cR1 t n (K 0) G)) 0))), .int (nI (cVal t ((u3 K 0 (cR2 t n (K 0) G)) 0))), .int (nI (cVal t ((u3 K 0 (cR3 t n (K 0) G)) 0)))]) (rest := []) (wr := (rV a ta hD (u3 K 0 (cRootR t n (K 0) G)) wt ++ tW tk ta tb n t)) (C0.sz hl) X (c_X1_addRoot l D tk hD G d e (cVal t ((u3 K 0 (cR1 t n (K 0) G)) 0)) (cVal t ((u3 K 0 (cR2 t n (K 0) G)) 0)) (cVal t ((u3 K 0 (cR3 t n (K 0) G)) 0)) (by exact hg)) ⟨tb365, tb368, tb2, ⟨by decide, by decide, rfl⟩, rfl, rfl, Nat.le_of_ble_eq_true rfl, Nat.le_of_ble_eq_true rfl⟩ tb366 tb367 3 1 rfl rfl rfl rfl [3, 4, 5, 6, 7, 8, 9, 10, 11, 12] [0, 1, 2] rfl rfl rfl rfl rfl (Nat.le_of_ble_eq_true rfl) ⟨Nat.le_of_ble_eq_true rfl, Nat.le_of_ble_eq_true rfl⟩ dX2_readRoot_65 (fun _ H locs _ X => ?_)
      have X : Hx D zA zs H locs (rV a ta hD (u3 K 0 (cRootR t n (K 0) G)) wt ++ tW tk ta tb n t ++ gW tk hD (u2 (u2 (u2 (u2 G 1 (G 8 1) (cVal t ((u3 K 0 (cR1 t n (K 0) G)) 0))) 2 (G 8 1) (cVal t ((u3 K 0 (cR2 t n (K 0) G)) 0))) 3 (G 8 1) (cVal t ((u3 K 0 (cR3 t n (K 0) G)) 0))) 8 1 (G 8 1 + 1)) d e) := X
      refine lv_pop hx hb dX2_readRoot_68 rfl ?_
      exact hE (v := ()) () rfl trivial (X.to (by rw [cRootG, if_pos (by omega)] <;> rfl)) dX2_readRoot_69
  · refine g_iconst (n := 1) C0 rfl dX2_readRoot_13 ?_
    refine lv_goto (tgt := 18) hx hb dX2_readRoot_14 (by decide) ?_
    refine g_iconst (n := 5) C0 rfl dX2_readRoot_18 ?_
    refine g_callV (As := [.int (nI 1), .int (nI 5)]) (rest := []) (wr := (gW tk hD G d e)) (C0.sz hl) X (c_X2_takeName l D tk a ta tb hD K wt n t true 5 (by exact hn) (by exact ht8) (by exact hI) (by first | assumption | decide | omega)) ⟨tb336, tb339, tb4, ⟨by decide, by decide, rfl⟩, rfl, rfl, Nat.le_of_ble_eq_true rfl, Nat.le_of_ble_eq_true rfl⟩ tb338 tbs7 0 2 rfl rfl rfl rfl [0, 1, 2] [3, 4, 5, 6, 7, 8, 9, 10, 11, 12] rfl rfl rfl rfl rfl (Nat.le_of_ble_eq_true rfl) ⟨Nat.le_of_ble_eq_true rfl, Nat.le_of_ble_eq_true rfl⟩ dX2_readRoot_19 (fun _ H locs _ X => ?_)
    have X : Hx D zA zs H locs (gW tk hD G d e ++ rV a ta hD (u3 K 0 (cName t n (K 0) true 5)) wt ++ tW tk ta tb n t) := X
    have X : Hx D zA zs H locs (gW tk hD G d e ++ rV a ta hD (u3 K 0 (cR1 t n (K 0) G)) wt ++ tW tk ta tb n t) := X.to (by rw [show cR1 t n (K 0) G = cName t n (K 0) true 5 from by rw [cR1, decide_eq_true (show G 8 1 < 9 by omega)]] <;> rfl)
    have hI1 : RI t n (cR1 t n (K 0) G) := hI.name (by decide)
    have X : Hx D zA zs H locs (rV a ta hD (u3 K 0 (cR1 t n (K 0) G)) wt ++ tW tk ta tb n t ++ gW tk hD G d e) := X.sub [10, 11, 12, 0, 1, 2, 3, 4, 5, 6, 7, 8, 9] rfl rfl
    refine lv_aload_n hx hb dX2_readRoot_22 rfl (lv_at hl 0 rfl) ?_
    refine g_iconst (n := 0) C0 rfl dX2_readRoot_23 ?_
    refine g_iconst (n := 5) C0 rfl dX2_readRoot_24 ?_
    refine lv_iconst (v := (-1)) hx hb dX2_readRoot_25 (by decide) ?_
    refine g_callV (As := [.int (nI 0), .int (nI 5), .int (-1)]) (rest := []) (wr := (gW tk hD G d e)) (C0.sz hl) X (c_X2_takeNumber l D tk a ta tb hD (u3 K 0 (cR1 t n (K 0) G)) wt n t 0 5 (-1) (by exact hn) (by exact ht8) (by exact hI1) (by first | assumption | decide | omega) (by first | assumption | decide | omega)) ⟨tb356, tb359, tb4, ⟨by decide, by decide, rfl⟩, rfl, rfl, Nat.le_of_ble_eq_true rfl, Nat.le_of_ble_eq_true rfl⟩ tb358 tbs10 0 2 rfl rfl rfl rfl [0, 1, 2] [3, 4, 5, 6, 7, 8, 9, 10, 11, 12] rfl rfl rfl rfl rfl (Nat.le_of_ble_eq_true rfl) ⟨Nat.le_of_ble_eq_true rfl, Nat.le_of_ble_eq_true rfl⟩ dX2_readRoot_26 (fun _ H locs _ X => ?_)
    have X : Hx D zA zs H locs (gW tk hD G d e ++ rV a ta hD (u3 K 0 (cNum t n ((u3 K 0 (cR1 t n (K 0) G)) 0) 0 5 (-1))) wt ++ tW tk ta tb n t) := X
    have X : Hx D zA zs H locs (gW tk hD G d e ++ rV a ta hD (u3 K 0 (cR2 t n (K 0) G)) wt ++ tW tk ta tb n t) := X
    have hI2 : RI t n (cR2 t n (K 0) G) := hI1.num
    have X : Hx D zA zs H locs (rV a ta hD (u3 K 0 (cR2 t n (K 0) G)) wt ++ tW tk ta tb n t ++ gW tk hD G d e) := X.sub [10, 11, 12, 0, 1, 2, 3, 4, 5, 6, 7, 8, 9] rfl rfl
    refine lv_istore_n (lv' := [(1, .int (nI (cVal t ((u3 K 0 (cR1 t n (K 0) G)) 0)))), (0, .ref a)]) hx hb dX2_readRoot_29 rfl hl (by decide) rfl (fun ls hl => ?_)
    refine lv_aload_n hx hb dX2_readRoot_30 rfl (lv_at hl 1 rfl) ?_
    refine g_iconst (n := 0) C0 rfl dX2_readRoot_31 ?_
    refine g_iconst (n := 5) C0 rfl dX2_readRoot_32 ?_
    refine lv_iload_n hx hb dX2_readRoot_33 rfl (lv_at hl 0 rfl) ?_
    refine g_callV (As := [.int (nI 0), .int (nI 5), .int (nI (cVal t ((u3 K 0 (cR1 t n (K 0) G)) 0)))]) (rest := []) (wr := (gW tk hD G d e)) (C0.sz hl) X (c_X2_takeNumber l D tk a ta tb hD (u3 K 0 (cR2 t n (K 0) G)) wt n t 0 5 (nI (cVal t ((u3 K 0 (cR1 t n (K 0) G)) 0))) (by exact hn) (by exact ht8) (by exact hI2) (by first | assumption | decide | omega) (by first | assumption | decide | omega)) ⟨tb356, tb359, tb4, ⟨by decide, by decide, rfl⟩, rfl, rfl, Nat.le_of_ble_eq_true rfl, Nat.le_of_ble_eq_true rfl⟩ tb358 tbs10 0 2 rfl rfl rfl rfl [0, 1, 2] [3, 4, 5, 6, 7, 8, 9, 10, 11, 12] rfl rfl rfl rfl rfl (Nat.le_of_ble_eq_true rfl) ⟨Nat.le_of_ble_eq_true rfl, Nat.le_of_ble_eq_true rfl⟩ dX2_readRoot_34 (fun _ H locs _ X => ?_)
    have X : Hx D zA zs H locs (gW tk hD G d e ++ rV a ta hD (u3 K 0 (cNum t n ((u3 K 0 (cR2 t n (K 0) G)) 0) 0 5 (nI (cVal t ((u3 K 0 (cR1 t n (K 0) G)) 0))))) wt ++ tW tk ta tb n t) := X
    have X : Hx D zA zs H locs (gW tk hD G d e ++ rV a ta hD (u3 K 0 (cR3 t n (K 0) G)) wt ++ tW tk ta tb n t) := X
    have hI3 : RI t n (cR3 t n (K 0) G) := hI2.num
    have X : Hx D zA zs H locs (rV a ta hD (u3 K 0 (cR3 t n (K 0) G)) wt ++ tW tk ta tb n t ++ gW tk hD G d e) := X.sub [10, 11, 12, 0, 1, 2, 3, 4, 5, 6, 7, 8, 9] rfl rfl
    refine lv_istore_n (lv' := [(2, .int (nI (cVal t ((u3 K 0 (cR2 t n (K 0) G)) 0)))), (1, .int (nI (cVal t ((u3 K 0 (cR1 t n (K 0) G)) 0)))), (0, .ref a)]) hx hb dX2_readRoot_37 rfl hl (by decide) rfl (fun ls hl => ?_)
    refine lv_aload_n hx hb dX2_readRoot_38 rfl (lv_at hl 2 rfl) ?_
    refine g_iconst (n := 1) C0 rfl dX2_readRoot_39 ?_
    refine g_bipush (n := 9) C0 (by decide) dX2_readRoot_40 ?_
    refine lv_iconst (v := (-1)) hx hb dX2_readRoot_42 (by decide) ?_
    refine g_callV (As := [.int (nI 1), .int (nI 9), .int (-1)]) (rest := []) (wr := (gW tk hD G d e)) (C0.sz hl) X (c_X2_takeNumber l D tk a ta tb hD (u3 K 0 (cR3 t n (K 0) G)) wt n t 1 9 (-1) (by exact hn) (by exact ht8) (by exact hI3) (by first | assumption | decide | omega) (by first | assumption | decide | omega)) ⟨tb356, tb359, tb4, ⟨by decide, by decide, rfl⟩, rfl, rfl, Nat.le_of_ble_eq_true rfl, Nat.le_of_ble_eq_true rfl⟩ tb358 tbs10 0 2 rfl rfl rfl rfl [0, 1, 2] [3, 4, 5, 6, 7, 8, 9, 10, 11, 12] rfl rfl rfl rfl rfl (Nat.le_of_ble_eq_true rfl) ⟨Nat.le_of_ble_eq_true rfl, Nat.le_of_ble_eq_true rfl⟩ dX2_readRoot_43 (fun _ H locs _ X => ?_)
    have X : Hx D zA zs H locs (gW tk hD G d e ++ rV a ta hD (u3 K 0 (cNum t n ((u3 K 0 (cR3 t n (K 0) G)) 0) 1 9 (-1))) wt ++ tW tk ta tb n t) := X
    have X : Hx D zA zs H locs (gW tk hD G d e ++ rV a ta hD (u3 K 0 (cR4 t n (K 0) G)) wt ++ tW tk ta tb n t) := X
    have hI4 : RI t n (cR4 t n (K 0) G) := hI3.num
    have X : Hx D zA zs H locs (rV a ta hD (u3 K 0 (cR4 t n (K 0) G)) wt ++ tW tk ta tb n t ++ gW tk hD G d e) := X.sub [10, 11, 12, 0, 1, 2, 3, 4, 5, 6, 7, 8, 9] rfl rfl
    refine lv_istore_n (lv' := [(3, .int (nI (cVal t ((u3 K 0 (cR3 t n (K 0) G)) 0)))), (2, .int (nI (cVal t ((u3 K 0 (cR2 t n (K 0) G)) 0)))), (1, .int (nI (cVal t ((u3 K 0 (cR1 t n (K 0) G)) 0)))), (0, .ref a)]) hx hb dX2_readRoot_46 rfl hl (by decide) rfl (fun ls hl => ?_)
    refine lv_aload_n hx hb dX2_readRoot_47 rfl (lv_at hl 3 rfl) ?_
    refine g_callV (As := []) (rest := []) (wr := (gW tk hD G d e)) (C0.sz hl) X (c_X2_takeSign l D tk a ta tb hD (u3 K 0 (cR4 t n (K 0) G)) wt n t (by exact hn) (by exact ht8) (by exact hI4)) ⟨tb340, tb343, tb4, ⟨by decide, by decide, rfl⟩, rfl, rfl, Nat.le_of_ble_eq_true rfl, Nat.le_of_ble_eq_true rfl⟩ tb342 tbs8 0 2 rfl rfl rfl rfl [0, 1, 2] [3, 4, 5, 6, 7, 8, 9, 10, 11, 12] rfl rfl rfl rfl rfl (Nat.le_of_ble_eq_true rfl) ⟨Nat.le_of_ble_eq_true rfl, Nat.le_of_ble_eq_true rfl⟩ dX2_readRoot_48 (fun _ H locs _ X => ?_)
    have X : Hx D zA zs H locs (gW tk hD G d e ++ rV a ta hD (u3 K 0 (cSign t n ((u3 K 0 (cR4 t n (K 0) G)) 0))) wt ++ tW tk ta tb n t) := X
    have X : Hx D zA zs H locs (gW tk hD G d e ++ rV a ta hD (u3 K 0 (cRootR t n (K 0) G)) wt ++ tW tk ta tb n t) := X
    have hI5 : RI t n (cRootR t n (K 0) G) := hI4.sign
    have hb6 : cRootR t n (K 0) G 0 ≤ 6 := hI5.2.2.2.1
    have X : Hx D zA zs H locs (rV a ta hD (u3 K 0 (cRootR t n (K 0) G)) wt ++ tW tk ta tb n t ++ gW tk hD G d e) := X.sub [10, 11, 12, 0, 1, 2, 3, 4, 5, 6, 7, 8, 9] rfl rfl
    refine lv_aload_n hx hb dX2_readRoot_51 rfl (lv_at hl 3 rfl) ?_
    refine g_get (v := .int (nI ((cRootR t n (K 0) G) 0))) C0 X kX2 0 2 tb136 rfl rfl rfl dX2_readRoot_52 ?_
    refine g_ifne (x := (cRootR t n (K 0) G) 0) (tgt := 69) C0 (by omega) dX2_readRoot_55 rfl (fun c5 => ?_) (fun c6 => ?_)
    · exact hE (v := ()) () rfl trivial (X.to (by rw [cRootG, if_neg (by omega)] <;> rfl)) dX2_readRoot_69
    · have hg := root_0 (t := t) (n := n) (r := K 0) (G := G) (by omega)
      refine lv_aload_n hx hb dX2_readRoot_58 rfl (lv_at hl 3 rfl) ?_
      refine g_get (v := .ref (hD 0)) C0 X kX2 0 1 tb134 rfl rfl rfl dX2_readRoot_59 ?_
      refine lv_iload_n hx hb dX2_readRoot_62 rfl (lv_at hl 2 rfl) ?_
      refine lv_iload_n hx hb dX2_readRoot_63 rfl (lv_at hl 1 rfl) ?_
      refine lv_iload_n hx hb dX2_readRoot_64 rfl (lv_at hl 0 rfl) ?_
      refine g_callV (As := [.int (nI (cVal t ((u3 K 0 (cR1 t n (K 0) G)) 0))), .int (nI (cVal t ((u3 K 0 (cR2 t n (K 0) G)) 0))), .int (nI (cVal t ((u3 K 0 (cR3 t n (K 0) G)) 0)))]) (rest := []) (wr := (rV a ta hD (u3 K 0 (cRootR t n (K 0) G)) wt ++ tW tk ta tb n t)) (C0.sz hl) X (c_X1_addRoot l D tk hD G d e (cVal t ((u3 K 0 (cR1 t n (K 0) G)) 0)) (cVal t ((u3 K 0 (cR2 t n (K 0) G)) 0)) (cVal t ((u3 K 0 (cR3 t n (K 0) G)) 0)) (by exact hg)) ⟨tb365, tb368, tb2, ⟨by decide, by decide, rfl⟩, rfl, rfl, Nat.le_of_ble_eq_true rfl, Nat.le_of_ble_eq_true rfl⟩ tb366 tb367 3 1 rfl rfl rfl rfl [3, 4, 5, 6, 7, 8, 9, 10, 11, 12] [0, 1, 2] rfl rfl rfl rfl rfl (Nat.le_of_ble_eq_true rfl) ⟨Nat.le_of_ble_eq_true rfl, Nat.le_of_ble_eq_true rfl⟩ dX2_readRoot_65 (fun _ H locs _ X => ?_)
      have X : Hx D zA zs H locs (rV a ta hD (u3 K 0 (cRootR t n (K 0) G)) wt ++ tW tk ta tb n t ++ gW tk hD (u2 (u2 (u2 (u2 G 1 (G 8 1) (cVal t ((u3 K 0 (cR1 t n (K 0) G)) 0))) 2 (G 8 1) (cVal t ((u3 K 0 (cR2 t n (K 0) G)) 0))) 3 (G 8 1) (cVal t ((u3 K 0 (cR3 t n (K 0) G)) 0))) 8 1 (G 8 1 + 1)) d e) := X
      refine lv_pop hx hb dX2_readRoot_68 rfl ?_
      exact hE (v := ()) () rfl trivial (X.to (by rw [cRootG, if_pos (by omega)] <;> rfl)) dX2_readRoot_69
set_option maxHeartbeats 4000000 in
set_option maxRecDepth 100000 in
theorem c_X2_readTalk (l : Launch) (D : va_G) (tk : Nat → ClassId) (a ta tb : Nat) (hD : Nat → Nat) (K : Nat → Nat → Nat) (wt : Bool) (n : Nat) (t : Nat → Nat) (G : Nat → Nat → Nat) (d e : Nat → Nat) (hn : n ≤ 160) (ht8 : ∀ j, j < n → t j < 128) (hI : RI t n (K 0)) (hd9 : DI G) : MX l yX2_readTalk cX2_readTalk 4 none ⟨3, 0, 0, 70⟩ D (TYS tk) [.ref a] (rV a ta hD K wt ++ tW tk ta tb n t ++ gW tk hD G d e) (fun (_ : Unit) => True) (fun _ => none) (fun _ => rV a ta hD (u3 K 0 (cTalkR t n (K 0) G)) wt ++ tW tk ta tb n t ++ gW tk hD (cTalkG t n (K 0) G) d e) 0 0 := by
  refine MX.of_v (by decide) rfl ?_
  intro zp ze zs zm za zb zt zc zA zQ ls C0 hnm X hl hE
  have hx := C0.1
  have hb := C0.2.1
  have ht := C0.2.2.2.2.1
  have X : Hx D zA zs zs.heap [] (rV a ta hD K wt ++ tW tk ta tb n t ++ gW tk hD G d e) := X
  have hl : lv_has ls 4 [(0, .ref a)] := hl
  obtain ⟨hi1, hi2, hi3, hi4, hi5, hi6, hi7⟩ := id hI
  obtain ⟨hd1, hd2, hd3⟩ := id hd9
  obtain ⟨H, hH⟩ : ∃ H, H = zs.heap := ⟨_, rfl⟩
  rw [← hH] at X ⊢
  obtain ⟨locs, hlo⟩ : ∃ L : List Loc, L = [] := ⟨_, rfl⟩
  rw [← hlo] at X ⊢
  refine lv_aload_n hx hb dX2_readTalk_0 rfl (lv_at hl 0 rfl) ?_
  refine lv_aload_n hx hb dX2_readTalk_1 rfl (lv_at hl 0 rfl) ?_
  refine g_get (v := .ref (hD 0)) C0 X kX2 0 1 tb134 rfl rfl rfl dX2_readTalk_2 ?_
  refine g_get (v := .int (nI (G 8 3))) C0 X kX1 3 8 tb53 rfl rfl rfl dX2_readTalk_5 ?_
  refine g_bipush (n := 6) C0 (by decide) dX2_readTalk_8 ?_
  refine g_icmp_ge (x := G 8 3) (y := 6) (tgt := 17) C0 (by omega) (by omega) dX2_readTalk_10 rfl (fun c1 => ?_) (fun c2 => ?_)
  · refine g_iconst (n := 0) C0 rfl dX2_readTalk_17 ?_
    refine g_iconst (n := 5) C0 rfl dX2_readTalk_18 ?_
    refine g_callV (As := [.int (nI 0), .int (nI 5)]) (rest := []) (wr := (gW tk hD G d e)) (C0.sz hl) X (c_X2_takeName l D tk a ta tb hD K wt n t false 5 (by exact hn) (by exact ht8) (by exact hI) (by first | assumption | decide | omega)) ⟨tb336, tb339, tb4, ⟨by decide, by decide, rfl⟩, rfl, rfl, Nat.le_of_ble_eq_true rfl, Nat.le_of_ble_eq_true rfl⟩ tb338 tbs7 0 2 rfl rfl rfl rfl [0, 1, 2] [3, 4, 5, 6, 7, 8, 9, 10, 11, 12] rfl rfl rfl rfl rfl (Nat.le_of_ble_eq_true rfl) ⟨Nat.le_of_ble_eq_true rfl, Nat.le_of_ble_eq_true rfl⟩ dX2_readTalk_19 (fun _ H locs _ X => ?_)
    have X : Hx D zA zs H locs (gW tk hD G d e ++ rV a ta hD (u3 K 0 (cName t n (K 0) false 5)) wt ++ tW tk ta tb n t) := X
    have X : Hx D zA zs H locs (gW tk hD G d e ++ rV a ta hD (u3 K 0 (cT1 t n (K 0) G)) wt ++ tW tk ta tb n t) := X.to (by rw [show cT1 t n (K 0) G = cName t n (K 0) false 5 from by rw [cT1, decide_eq_false (show ¬ G 8 3 < 6 by omega)]] <;> rfl)
    have hI1 : RI t n (cT1 t n (K 0) G) := hI.name (by decide)
    have X : Hx D zA zs H locs (rV a ta hD (u3 K 0 (cT1 t n (K 0) G)) wt ++ tW tk ta tb n t ++ gW tk hD G d e) := X.sub [10, 11, 12, 0, 1, 2, 3, 4, 5, 6, 7, 8, 9] rfl rfl
    refine lv_aload_n hx hb dX2_readTalk_22 rfl (lv_at hl 0 rfl) ?_
    refine g_iconst (n := 0) C0 rfl dX2_readTalk_23 ?_
    refine g_bipush (n := 23) C0 (by decide) dX2_readTalk_24 ?_
    refine lv_iconst (v := (-1)) hx hb dX2_readTalk_26 (by decide) ?_
    refine g_callV (As := [.int (nI 0), .int (nI 23), .int (-1)]) (rest := []) (wr := (gW tk hD G d e)) (C0.sz hl) X (c_X2_takeNumber l D tk a ta tb hD (u3 K 0 (cT1 t n (K 0) G)) wt n t 0 23 (-1) (by exact hn) (by exact ht8) (by exact hI1) (by first | assumption | decide | omega) (by first | assumption | decide | omega)) ⟨tb356, tb359, tb4, ⟨by decide, by decide, rfl⟩, rfl, rfl, Nat.le_of_ble_eq_true rfl, Nat.le_of_ble_eq_true rfl⟩ tb358 tbs10 0 2 rfl rfl rfl rfl [0, 1, 2] [3, 4, 5, 6, 7, 8, 9, 10, 11, 12] rfl rfl rfl rfl rfl (Nat.le_of_ble_eq_true rfl) ⟨Nat.le_of_ble_eq_true rfl, Nat.le_of_ble_eq_true rfl⟩ dX2_readTalk_27 (fun _ H locs _ X => ?_)
    have X : Hx D zA zs H locs (gW tk hD G d e ++ rV a ta hD (u3 K 0 (cNum t n ((u3 K 0 (cT1 t n (K 0) G)) 0) 0 23 (-1))) wt ++ tW tk ta tb n t) := X
    have X : Hx D zA zs H locs (gW tk hD G d e ++ rV a ta hD (u3 K 0 (cT2 t n (K 0) G)) wt ++ tW tk ta tb n t) := X
    have hI2 : RI t n (cT2 t n (K 0) G) := hI1.num
    have X : Hx D zA zs H locs (rV a ta hD (u3 K 0 (cT2 t n (K 0) G)) wt ++ tW tk ta tb n t ++ gW tk hD G d e) := X.sub [10, 11, 12, 0, 1, 2, 3, 4, 5, 6, 7, 8, 9] rfl rfl
    refine lv_istore_n (lv' := [(1, .int (nI (cVal t ((u3 K 0 (cT1 t n (K 0) G)) 0)))), (0, .ref a)]) hx hb dX2_readTalk_30 rfl hl (by decide) rfl (fun ls hl => ?_)
    refine lv_aload_n hx hb dX2_readTalk_31 rfl (lv_at hl 1 rfl) ?_
    refine g_iconst (n := 0) C0 rfl dX2_readTalk_32 ?_
    refine g_iconst (n := 5) C0 rfl dX2_readTalk_33 ?_
    refine lv_iconst (v := (-1)) hx hb dX2_readTalk_34 (by decide) ?_
    refine g_callV (As := [.int (nI 0), .int (nI 5), .int (-1)]) (rest := []) (wr := (gW tk hD G d e)) (C0.sz hl) X (c_X2_takeNumber l D tk a ta tb hD (u3 K 0 (cT2 t n (K 0) G)) wt n t 0 5 (-1) (by exact hn) (by exact ht8) (by exact hI2) (by first | assumption | decide | omega) (by first | assumption | decide | omega)) ⟨tb356, tb359, tb4, ⟨by decide, by decide, rfl⟩, rfl, rfl, Nat.le_of_ble_eq_true rfl, Nat.le_of_ble_eq_true rfl⟩ tb358 tbs10 0 2 rfl rfl rfl rfl [0, 1, 2] [3, 4, 5, 6, 7, 8, 9, 10, 11, 12] rfl rfl rfl rfl rfl (Nat.le_of_ble_eq_true rfl) ⟨Nat.le_of_ble_eq_true rfl, Nat.le_of_ble_eq_true rfl⟩ dX2_readTalk_35 (fun _ H locs _ X => ?_)
    have X : Hx D zA zs H locs (gW tk hD G d e ++ rV a ta hD (u3 K 0 (cNum t n ((u3 K 0 (cT2 t n (K 0) G)) 0) 0 5 (-1))) wt ++ tW tk ta tb n t) := X
    have X : Hx D zA zs H locs (gW tk hD G d e ++ rV a ta hD (u3 K 0 (cT3 t n (K 0) G)) wt ++ tW tk ta tb n t) := X
    have hI3 : RI t n (cT3 t n (K 0) G) := hI2.num
    have X : Hx D zA zs H locs (rV a ta hD (u3 K 0 (cT3 t n (K 0) G)) wt ++ tW tk ta tb n t ++ gW tk hD G d e) := X.sub [10, 11, 12, 0, 1, 2, 3, 4, 5, 6, 7, 8, 9] rfl rfl
    refine lv_istore_n (lv' := [(2, .int (nI (cVal t ((u3 K 0 (cT2 t n (K 0) G)) 0)))), (1, .int (nI (cVal t ((u3 K 0 (cT1 t n (K 0) G)) 0)))), (0, .ref a)]) hx hb dX2_readTalk_38 rfl hl (by decide) rfl (fun ls hl => ?_)
    refine lv_aload_n hx hb dX2_readTalk_39 rfl (lv_at hl 2 rfl) ?_
    refine g_iconst (n := 1) C0 rfl dX2_readTalk_40 ?_
    refine g_bipush (n := 60) C0 (by decide) dX2_readTalk_41 ?_
    refine lv_iconst (v := (-1)) hx hb dX2_readTalk_43 (by decide) ?_
    refine g_callV (As := [.int (nI 1), .int (nI 60), .int (-1)]) (rest := []) (wr := (gW tk hD G d e)) (C0.sz hl) X (c_X2_takeNumber l D tk a ta tb hD (u3 K 0 (cT3 t n (K 0) G)) wt n t 1 60 (-1) (by exact hn) (by exact ht8) (by exact hI3) (by first | assumption | decide | omega) (by first | assumption | decide | omega)) ⟨tb356, tb359, tb4, ⟨by decide, by decide, rfl⟩, rfl, rfl, Nat.le_of_ble_eq_true rfl, Nat.le_of_ble_eq_true rfl⟩ tb358 tbs10 0 2 rfl rfl rfl rfl [0, 1, 2] [3, 4, 5, 6, 7, 8, 9, 10, 11, 12] rfl rfl rfl rfl rfl (Nat.le_of_ble_eq_true rfl) ⟨Nat.le_of_ble_eq_true rfl, Nat.le_of_ble_eq_true rfl⟩ dX2_readTalk_44 (fun _ H locs _ X => ?_)
    have X : Hx D zA zs H locs (gW tk hD G d e ++ rV a ta hD (u3 K 0 (cNum t n ((u3 K 0 (cT3 t n (K 0) G)) 0) 1 60 (-1))) wt ++ tW tk ta tb n t) := X
    have X : Hx D zA zs H locs (gW tk hD G d e ++ rV a ta hD (u3 K 0 (cT4 t n (K 0) G)) wt ++ tW tk ta tb n t) := X
    have hI4 : RI t n (cT4 t n (K 0) G) := hI3.num
    have X : Hx D zA zs H locs (rV a ta hD (u3 K 0 (cT4 t n (K 0) G)) wt ++ tW tk ta tb n t ++ gW tk hD G d e) := X.sub [10, 11, 12, 0, 1, 2, 3, 4, 5, 6, 7, 8, 9] rfl rfl
    refine lv_istore_n (lv' := [(3, .int (nI (cVal t ((u3 K 0 (cT3 t n (K 0) G)) 0)))), (2, .int (nI (cVal t ((u3 K 0 (cT2 t n (K 0) G)) 0)))), (1, .int (nI (cVal t ((u3 K 0 (cT1 t n (K 0) G)) 0)))), (0, .ref a)]) hx hb dX2_readTalk_47 rfl hl (by decide) rfl (fun ls hl => ?_)
    refine lv_aload_n hx hb dX2_readTalk_48 rfl (lv_at hl 3 rfl) ?_
    refine g_callV (As := []) (rest := []) (wr := (gW tk hD G d e)) (C0.sz hl) X (c_X2_takeSign l D tk a ta tb hD (u3 K 0 (cT4 t n (K 0) G)) wt n t (by exact hn) (by exact ht8) (by exact hI4)) ⟨tb340, tb343, tb4, ⟨by decide, by decide, rfl⟩, rfl, rfl, Nat.le_of_ble_eq_true rfl, Nat.le_of_ble_eq_true rfl⟩ tb342 tbs8 0 2 rfl rfl rfl rfl [0, 1, 2] [3, 4, 5, 6, 7, 8, 9, 10, 11, 12] rfl rfl rfl rfl rfl (Nat.le_of_ble_eq_true rfl) ⟨Nat.le_of_ble_eq_true rfl, Nat.le_of_ble_eq_true rfl⟩ dX2_readTalk_49 (fun _ H locs _ X => ?_)
    have X : Hx D zA zs H locs (gW tk hD G d e ++ rV a ta hD (u3 K 0 (cSign t n ((u3 K 0 (cT4 t n (K 0) G)) 0))) wt ++ tW tk ta tb n t) := X
    have X : Hx D zA zs H locs (gW tk hD G d e ++ rV a ta hD (u3 K 0 (cTalkR t n (K 0) G)) wt ++ tW tk ta tb n t) := X
    have hI5 : RI t n (cTalkR t n (K 0) G) := hI4.sign
    have hb6 : cTalkR t n (K 0) G 0 ≤ 6 := hI5.2.2.2.1
    have X : Hx D zA zs H locs (rV a ta hD (u3 K 0 (cTalkR t n (K 0) G)) wt ++ tW tk ta tb n t ++ gW tk hD G d e) := X.sub [10, 11, 12, 0, 1, 2, 3, 4, 5, 6, 7, 8, 9] rfl rfl
    refine lv_aload_n hx hb dX2_readTalk_52 rfl (lv_at hl 3 rfl) ?_
    refine g_get (v := .int (nI ((cTalkR t n (K 0) G) 0))) C0 X kX2 0 2 tb136 rfl rfl rfl dX2_readTalk_53 ?_
    refine g_ifne (x := (cTalkR t n (K 0) G) 0) (tgt := 70) C0 (by omega) dX2_readTalk_56 rfl (fun c3 => ?_) (fun c4 => ?_)
    · exact hE (v := ()) () rfl trivial (X.to (by rw [cTalkG, if_neg (by omega)] <;> rfl)) dX2_readTalk_70
    · have hg := talk_0 (t := t) (n := n) (r := K 0) (G := G) (by omega)
      refine lv_aload_n hx hb dX2_readTalk_59 rfl (lv_at hl 3 rfl) ?_
      refine g_get (v := .ref (hD 0)) C0 X kX2 0 1 tb134 rfl rfl rfl dX2_readTalk_60 ?_
      refine lv_iload_n hx hb dX2_readTalk_63 rfl (lv_at hl 2 rfl) ?_
      refine lv_iload_n hx hb dX2_readTalk_64 rfl (lv_at hl 1 rfl) ?_
      refine lv_iload_n hx hb dX2_readTalk_65 rfl (lv_at hl 0 rfl) ?_
      refine g_callV (As := [.int (nI (cVal t ((u3 K 0 (cT1 t n (K 0) G)) 0))), .int (nI (cVal t ((u3 K 0 (cT2 t n (K 0) G)) 0))), .int (nI (cVal t ((u3 K 0 (cT3 t n (K 0) G)) 0)))]) (rest := []) (wr := (rV a ta hD (u3 K 0 (cTalkR t n (K 0) G)) wt ++ tW tk ta tb n t)) (C0.sz hl) X (c_X1_addTalk l D tk hD G d e (cVal t ((u3 K 0 (cT1 t n (K 0) G)) 0)) (cVal t ((u3 K 0 (cT2 t n (K 0) G)) 0)) (cVal t ((u3 K 0 (cT3 t n (K 0) G)) 0)) (by exact hg)) ⟨tb379, tb382, tb2, ⟨by decide, by decide, rfl⟩, rfl, rfl, Nat.le_of_ble_eq_true rfl, Nat.le_of_ble_eq_true rfl⟩ tb380 tb381 3 1 rfl rfl rfl rfl [3, 4, 5, 6, 7, 8, 9, 10, 11, 12] [0, 1, 2] rfl rfl rfl rfl rfl (Nat.le_of_ble_eq_true rfl) ⟨Nat.le_of_ble_eq_true rfl, Nat.le_of_ble_eq_true rfl⟩ dX2_readTalk_66 (fun _ H locs _ X => ?_)
      have X : Hx D zA zs H locs (rV a ta hD (u3 K 0 (cTalkR t n (K 0) G)) wt ++ tW tk ta tb n t ++ gW tk hD (u2 (u2 (u2 (u2 G 5 (G 8 3) (cVal t ((u3 K 0 (cT1 t n (K 0) G)) 0))) 6 (G 8 3) (cVal t ((u3 K 0 (cT2 t n (K 0) G)) 0))) 7 (G 8 3) (cVal t ((u3 K 0 (cT3 t n (K 0) G)) 0))) 8 3 (G 8 3 + 1)) d e) := X
      refine lv_pop hx hb dX2_readTalk_69 rfl ?_
      exact hE (v := ()) () rfl trivial (X.to (by rw [cTalkG, if_pos (by omega)] <;> rfl)) dX2_readTalk_70
  · refine g_iconst (n := 1) C0 rfl dX2_readTalk_13 ?_
    refine lv_goto (tgt := 18) hx hb dX2_readTalk_14 (by decide) ?_
    refine g_iconst (n := 5) C0 rfl dX2_readTalk_18 ?_
    refine g_callV (As := [.int (nI 1), .int (nI 5)]) (rest := []) (wr := (gW tk hD G d e)) (C0.sz hl) X (c_X2_takeName l D tk a ta tb hD K wt n t true 5 (by exact hn) (by exact ht8) (by exact hI) (by first | assumption | decide | omega)) ⟨tb336, tb339, tb4, ⟨by decide, by decide, rfl⟩, rfl, rfl, Nat.le_of_ble_eq_true rfl, Nat.le_of_ble_eq_true rfl⟩ tb338 tbs7 0 2 rfl rfl rfl rfl [0, 1, 2] [3, 4, 5, 6, 7, 8, 9, 10, 11, 12] rfl rfl rfl rfl rfl (Nat.le_of_ble_eq_true rfl) ⟨Nat.le_of_ble_eq_true rfl, Nat.le_of_ble_eq_true rfl⟩ dX2_readTalk_19 (fun _ H locs _ X => ?_)
    have X : Hx D zA zs H locs (gW tk hD G d e ++ rV a ta hD (u3 K 0 (cName t n (K 0) true 5)) wt ++ tW tk ta tb n t) := X
    have X : Hx D zA zs H locs (gW tk hD G d e ++ rV a ta hD (u3 K 0 (cT1 t n (K 0) G)) wt ++ tW tk ta tb n t) := X.to (by rw [show cT1 t n (K 0) G = cName t n (K 0) true 5 from by rw [cT1, decide_eq_true (show G 8 3 < 6 by omega)]] <;> rfl)
    have hI1 : RI t n (cT1 t n (K 0) G) := hI.name (by decide)
    have X : Hx D zA zs H locs (rV a ta hD (u3 K 0 (cT1 t n (K 0) G)) wt ++ tW tk ta tb n t ++ gW tk hD G d e) := X.sub [10, 11, 12, 0, 1, 2, 3, 4, 5, 6, 7, 8, 9] rfl rfl
    refine lv_aload_n hx hb dX2_readTalk_22 rfl (lv_at hl 0 rfl) ?_
    refine g_iconst (n := 0) C0 rfl dX2_readTalk_23 ?_
    refine g_bipush (n := 23) C0 (by decide) dX2_readTalk_24 ?_
    refine lv_iconst (v := (-1)) hx hb dX2_readTalk_26 (by decide) ?_
    refine g_callV (As := [.int (nI 0), .int (nI 23), .int (-1)]) (rest := []) (wr := (gW tk hD G d e)) (C0.sz hl) X (c_X2_takeNumber l D tk a ta tb hD (u3 K 0 (cT1 t n (K 0) G)) wt n t 0 23 (-1) (by exact hn) (by exact ht8) (by exact hI1) (by first | assumption | decide | omega) (by first | assumption | decide | omega)) ⟨tb356, tb359, tb4, ⟨by decide, by decide, rfl⟩, rfl, rfl, Nat.le_of_ble_eq_true rfl, Nat.le_of_ble_eq_true rfl⟩ tb358 tbs10 0 2 rfl rfl rfl rfl [0, 1, 2] [3, 4, 5, 6, 7, 8, 9, 10, 11, 12] rfl rfl rfl rfl rfl (Nat.le_of_ble_eq_true rfl) ⟨Nat.le_of_ble_eq_true rfl, Nat.le_of_ble_eq_true rfl⟩ dX2_readTalk_27 (fun _ H locs _ X => ?_)
    have X : Hx D zA zs H locs (gW tk hD G d e ++ rV a ta hD (u3 K 0 (cNum t n ((u3 K 0 (cT1 t n (K 0) G)) 0) 0 23 (-1))) wt ++ tW tk ta tb n t) := X
    have X : Hx D zA zs H locs (gW tk hD G d e ++ rV a ta hD (u3 K 0 (cT2 t n (K 0) G)) wt ++ tW tk ta tb n t) := X
    have hI2 : RI t n (cT2 t n (K 0) G) := hI1.num
    have X : Hx D zA zs H locs (rV a ta hD (u3 K 0 (cT2 t n (K 0) G)) wt ++ tW tk ta tb n t ++ gW tk hD G d e) := X.sub [10, 11, 12, 0, 1, 2, 3, 4, 5, 6, 7, 8, 9] rfl rfl
    refine lv_istore_n (lv' := [(1, .int (nI (cVal t ((u3 K 0 (cT1 t n (K 0) G)) 0)))), (0, .ref a)]) hx hb dX2_readTalk_30 rfl hl (by decide) rfl (fun ls hl => ?_)
    refine lv_aload_n hx hb dX2_readTalk_31 rfl (lv_at hl 1 rfl) ?_
    refine g_iconst (n := 0) C0 rfl dX2_readTalk_32 ?_
    refine g_iconst (n := 5) C0 rfl dX2_readTalk_33 ?_
    refine lv_iconst (v := (-1)) hx hb dX2_readTalk_34 (by decide) ?_
    refine g_callV (As := [.int (nI 0), .int (nI 5), .int (-1)]) (rest := []) (wr := (gW tk hD G d e)) (C0.sz hl) X (c_X2_takeNumber l D tk a ta tb hD (u3 K 0 (cT2 t n (K 0) G)) wt n t 0 5 (-1) (by exact hn) (by exact ht8) (by exact hI2) (by first | assumption | decide | omega) (by first | assumption | decide | omega)) ⟨tb356, tb359, tb4, ⟨by decide, by decide, rfl⟩, rfl, rfl, Nat.le_of_ble_eq_true rfl, Nat.le_of_ble_eq_true rfl⟩ tb358 tbs10 0 2 rfl rfl rfl rfl [0, 1, 2] [3, 4, 5, 6, 7, 8, 9, 10, 11, 12] rfl rfl rfl rfl rfl (Nat.le_of_ble_eq_true rfl) ⟨Nat.le_of_ble_eq_true rfl, Nat.le_of_ble_eq_true rfl⟩ dX2_readTalk_35 (fun _ H locs _ X => ?_)
    have X : Hx D zA zs H locs (gW tk hD G d e ++ rV a ta hD (u3 K 0 (cNum t n ((u3 K 0 (cT2 t n (K 0) G)) 0) 0 5 (-1))) wt ++ tW tk ta tb n t) := X
    have X : Hx D zA zs H locs (gW tk hD G d e ++ rV a ta hD (u3 K 0 (cT3 t n (K 0) G)) wt ++ tW tk ta tb n t) := X
    have hI3 : RI t n (cT3 t n (K 0) G) := hI2.num
    have X : Hx D zA zs H locs (rV a ta hD (u3 K 0 (cT3 t n (K 0) G)) wt ++ tW tk ta tb n t ++ gW tk hD G d e) := X.sub [10, 11, 12, 0, 1, 2, 3, 4, 5, 6, 7, 8, 9] rfl rfl
    refine lv_istore_n (lv' := [(2, .int (nI (cVal t ((u3 K 0 (cT2 t n (K 0) G)) 0)))), (1, .int (nI (cVal t ((u3 K 0 (cT1 t n (K 0) G)) 0)))), (0, .ref a)]) hx hb dX2_readTalk_38 rfl hl (by decide) rfl (fun ls hl => ?_)
    refine lv_aload_n hx hb dX2_readTalk_39 rfl (lv_at hl 2 rfl) ?_
    refine g_iconst (n := 1) C0 rfl dX2_readTalk_40 ?_
    refine g_bipush (n := 60) C0 (by decide) dX2_readTalk_41 ?_
    refine lv_iconst (v := (-1)) hx hb dX2_readTalk_43 (by decide) ?_
    refine g_callV (As := [.int (nI 1), .int (nI 60), .int (-1)]) (rest := []) (wr := (gW tk hD G d e)) (C0.sz hl) X (c_X2_takeNumber l D tk a ta tb hD (u3 K 0 (cT3 t n (K 0) G)) wt n t 1 60 (-1) (by exact hn) (by exact ht8) (by exact hI3) (by first | assumption | decide | omega) (by first | assumption | decide | omega)) ⟨tb356, tb359, tb4, ⟨by decide, by decide, rfl⟩, rfl, rfl, Nat.le_of_ble_eq_true rfl, Nat.le_of_ble_eq_true rfl⟩ tb358 tbs10 0 2 rfl rfl rfl rfl [0, 1, 2] [3, 4, 5, 6, 7, 8, 9, 10, 11, 12] rfl rfl rfl rfl rfl (Nat.le_of_ble_eq_true rfl) ⟨Nat.le_of_ble_eq_true rfl, Nat.le_of_ble_eq_true rfl⟩ dX2_readTalk_44 (fun _ H locs _ X => ?_)
    have X : Hx D zA zs H locs (gW tk hD G d e ++ rV a ta hD (u3 K 0 (cNum t n ((u3 K 0 (cT3 t n (K 0) G)) 0) 1 60 (-1))) wt ++ tW tk ta tb n t) := X
    have X : Hx D zA zs H locs (gW tk hD G d e ++ rV a ta hD (u3 K 0 (cT4 t n (K 0) G)) wt ++ tW tk ta tb n t) := X
    have hI4 : RI t n (cT4 t n (K 0) G) := hI3.num
    have X : Hx D zA zs H locs (rV a ta hD (u3 K 0 (cT4 t n (K 0) G)) wt ++ tW tk ta tb n t ++ gW tk hD G d e) := X.sub [10, 11, 12, 0, 1, 2, 3, 4, 5, 6, 7, 8, 9] rfl rfl
    refine lv_istore_n (lv' := [(3, .int (nI (cVal t ((u3 K 0 (cT3 t n (K 0) G)) 0)))), (2, .int (nI (cVal t ((u3 K 0 (cT2 t n (K 0) G)) 0)))), (1, .int (nI (cVal t ((u3 K 0 (cT1 t n (K 0) G)) 0)))), (0, .ref a)]) hx hb dX2_readTalk_47 rfl hl (by decide) rfl (fun ls hl => ?_)
    refine lv_aload_n hx hb dX2_readTalk_48 rfl (lv_at hl 3 rfl) ?_
    refine g_callV (As := []) (rest := []) (wr := (gW tk hD G d e)) (C0.sz hl) X (c_X2_takeSign l D tk a ta tb hD (u3 K 0 (cT4 t n (K 0) G)) wt n t (by exact hn) (by exact ht8) (by exact hI4)) ⟨tb340, tb343, tb4, ⟨by decide, by decide, rfl⟩, rfl, rfl, Nat.le_of_ble_eq_true rfl, Nat.le_of_ble_eq_true rfl⟩ tb342 tbs8 0 2 rfl rfl rfl rfl [0, 1, 2] [3, 4, 5, 6, 7, 8, 9, 10, 11, 12] rfl rfl rfl rfl rfl (Nat.le_of_ble_eq_true rfl) ⟨Nat.le_of_ble_eq_true rfl, Nat.le_of_ble_eq_true rfl⟩ dX2_readTalk_49 (fun _ H locs _ X => ?_)
    have X : Hx D zA zs H locs (gW tk hD G d e ++ rV a ta hD (u3 K 0 (cSign t n ((u3 K 0 (cT4 t n (K 0) G)) 0))) wt ++ tW tk ta tb n t) := X
    have X : Hx D zA zs H locs (gW tk hD G d e ++ rV a ta hD (u3 K 0 (cTalkR t n (K 0) G)) wt ++ tW tk ta tb n t) := X
    have hI5 : RI t n (cTalkR t n (K 0) G) := hI4.sign
    have hb6 : cTalkR t n (K 0) G 0 ≤ 6 := hI5.2.2.2.1
    have X : Hx D zA zs H locs (rV a ta hD (u3 K 0 (cTalkR t n (K 0) G)) wt ++ tW tk ta tb n t ++ gW tk hD G d e) := X.sub [10, 11, 12, 0, 1, 2, 3, 4, 5, 6, 7, 8, 9] rfl rfl
    refine lv_aload_n hx hb dX2_readTalk_52 rfl (lv_at hl 3 rfl) ?_
    refine g_get (v := .int (nI ((cTalkR t n (K 0) G) 0))) C0 X kX2 0 2 tb136 rfl rfl rfl dX2_readTalk_53 ?_
    refine g_ifne (x := (cTalkR t n (K 0) G) 0) (tgt := 70) C0 (by omega) dX2_readTalk_56 rfl (fun c5 => ?_) (fun c6 => ?_)
    · exact hE (v := ()) () rfl trivial (X.to (by rw [cTalkG, if_neg (by omega)] <;> rfl)) dX2_readTalk_70
    · have hg := talk_0 (t := t) (n := n) (r := K 0) (G := G) (by omega)
      refine lv_aload_n hx hb dX2_readTalk_59 rfl (lv_at hl 3 rfl) ?_
      refine g_get (v := .ref (hD 0)) C0 X kX2 0 1 tb134 rfl rfl rfl dX2_readTalk_60 ?_
      refine lv_iload_n hx hb dX2_readTalk_63 rfl (lv_at hl 2 rfl) ?_
      refine lv_iload_n hx hb dX2_readTalk_64 rfl (lv_at hl 1 rfl) ?_
      refine lv_iload_n hx hb dX2_readTalk_65 rfl (lv_at hl 0 rfl) ?_
      refine g_callV (As := [.int (nI (cVal t ((u3 K 0 (cT1 t n (K 0) G)) 0))), .int (nI (cVal t ((u3 K 0 (cT2 t n (K 0) G)) 0))), .int (nI (cVal t ((u3 K 0 (cT3 t n (K 0) G)) 0)))]) (rest := []) (wr := (rV a ta hD (u3 K 0 (cTalkR t n (K 0) G)) wt ++ tW tk ta tb n t)) (C0.sz hl) X (c_X1_addTalk l D tk hD G d e (cVal t ((u3 K 0 (cT1 t n (K 0) G)) 0)) (cVal t ((u3 K 0 (cT2 t n (K 0) G)) 0)) (cVal t ((u3 K 0 (cT3 t n (K 0) G)) 0)) (by exact hg)) ⟨tb379, tb382, tb2, ⟨by decide, by decide, rfl⟩, rfl, rfl, Nat.le_of_ble_eq_true rfl, Nat.le_of_ble_eq_true rfl⟩ tb380 tb381 3 1 rfl rfl rfl rfl [3, 4, 5, 6, 7, 8, 9, 10, 11, 12] [0, 1, 2] rfl rfl rfl rfl rfl (Nat.le_of_ble_eq_true rfl) ⟨Nat.le_of_ble_eq_true rfl, Nat.le_of_ble_eq_true rfl⟩ dX2_readTalk_66 (fun _ H locs _ X => ?_)
      have X : Hx D zA zs H locs (rV a ta hD (u3 K 0 (cTalkR t n (K 0) G)) wt ++ tW tk ta tb n t ++ gW tk hD (u2 (u2 (u2 (u2 G 5 (G 8 3) (cVal t ((u3 K 0 (cT1 t n (K 0) G)) 0))) 6 (G 8 3) (cVal t ((u3 K 0 (cT2 t n (K 0) G)) 0))) 7 (G 8 3) (cVal t ((u3 K 0 (cT3 t n (K 0) G)) 0))) 8 3 (G 8 3 + 1)) d e) := X
      refine lv_pop hx hb dX2_readTalk_69 rfl ?_
      exact hE (v := ()) () rfl trivial (X.to (by rw [cTalkG, if_pos (by omega)] <;> rfl)) dX2_readTalk_70
set_option maxHeartbeats 4000000 in
set_option maxRecDepth 100000 in
theorem c_X2_readWind (l : Launch) (D : va_G) (tk : Nat → ClassId) (a ta tb : Nat) (hD : Nat → Nat) (K : Nat → Nat → Nat) (wt : Bool) (n : Nat) (t : Nat → Nat) (G : Nat → Nat → Nat) (d e : Nat → Nat) (hn : n ≤ 160) (ht8 : ∀ j, j < n → t j < 128) (hI : RI t n (K 0)) (hd9 : DI G) : MX l yX2_readWind cX2_readWind 1 none ⟨3, 0, 0, 70⟩ D (TYS tk) [.ref a] (rV a ta hD K wt ++ tW tk ta tb n t ++ gW tk hD G d e) (fun (_ : Unit) => True) (fun _ => none) (fun _ => rV a ta hD (u3 K 0 (cWindR t n (K 0) wt)) true ++ tW tk ta tb n t ++ gW tk hD (cWindG t n (K 0) wt G) d e) 0 0 := by
  refine MX.of_v (by decide) rfl ?_
  intro zp ze zs zm za zb zt zc zA zQ ls C0 hnm X hl hE
  have hx := C0.1
  have hb := C0.2.1
  have ht := C0.2.2.2.2.1
  have X : Hx D zA zs zs.heap [] (rV a ta hD K wt ++ tW tk ta tb n t ++ gW tk hD G d e) := X
  have hl : lv_has ls 1 [(0, .ref a)] := hl
  obtain ⟨hi1, hi2, hi3, hi4, hi5, hi6, hi7⟩ := id hI
  obtain ⟨hd1, hd2, hd3⟩ := id hd9
  obtain ⟨H, hH⟩ : ∃ H, H = zs.heap := ⟨_, rfl⟩
  rw [← hH] at X ⊢
  obtain ⟨locs, hlo⟩ : ∃ L : List Loc, L = [] := ⟨_, rfl⟩
  rw [← hlo] at X ⊢
  refine lv_aload_n hx hb dX2_readWind_0 rfl (lv_at hl 0 rfl) ?_
  refine lv_aload_n hx hb dX2_readWind_1 rfl (lv_at hl 0 rfl) ?_
  refine g_get (v := .int (nI (rb wt))) C0 X kX2 0 7 tb143 rfl rfl rfl dX2_readWind_2 ?_
  refine g_ifneB (x := wt) (tgt := 12) C0 dX2_readWind_5 rfl (fun c1 => ?_) (fun c2 => ?_)
  · refine g_iconst (n := 0) C0 rfl dX2_readWind_12 ?_
    refine g_iconst (n := 4) C0 rfl dX2_readWind_13 ?_
    refine g_callV (As := [.int (nI 0), .int (nI 4)]) (rest := []) (wr := (gW tk hD G d e)) (C0.sz hl) X (c_X2_takeName l D tk a ta tb hD K wt n t false 4 (by exact hn) (by exact ht8) (by exact hI) (by first | assumption | decide | omega)) ⟨tb336, tb339, tb4, ⟨by decide, by decide, rfl⟩, rfl, rfl, Nat.le_of_ble_eq_true rfl, Nat.le_of_ble_eq_true rfl⟩ tb338 tbs7 0 2 rfl rfl rfl rfl [0, 1, 2] [3, 4, 5, 6, 7, 8, 9, 10, 11, 12] rfl rfl rfl rfl rfl (Nat.le_of_ble_eq_true rfl) ⟨Nat.le_of_ble_eq_true rfl, Nat.le_of_ble_eq_true rfl⟩ dX2_readWind_14 (fun _ H locs _ X => ?_)
    have X : Hx D zA zs H locs (gW tk hD G d e ++ rV a ta hD (u3 K 0 (cName t n (K 0) false 4)) wt ++ tW tk ta tb n t) := X
    have X : Hx D zA zs H locs (gW tk hD G d e ++ rV a ta hD (u3 K 0 (cW1 t n (K 0) wt)) wt ++ tW tk ta tb n t) := X.to (by rw [show cW1 t n (K 0) wt = cName t n (K 0) false 4 from by rw [cW1, c1]; rfl] <;> rfl)
    have hI1 : RI t n (cW1 t n (K 0) wt) := hI.name (by decide)
    have X : Hx D zA zs H locs (rV a ta hD (u3 K 0 (cW1 t n (K 0) wt)) wt ++ tW tk ta tb n t ++ gW tk hD G d e) := X.sub [10, 11, 12, 0, 1, 2, 3, 4, 5, 6, 7, 8, 9] rfl rfl
    refine lv_aload_n hx hb dX2_readWind_17 rfl (lv_at hl 0 rfl) ?_
    refine g_get (v := .ref (hD 0)) C0 X kX2 0 1 tb134 rfl rfl rfl dX2_readWind_18 ?_
    refine lv_aload_n hx hb dX2_readWind_21 rfl (lv_at hl 0 rfl) ?_
    refine g_iconst (n := 0) C0 rfl dX2_readWind_22 ?_
    refine g_bipush (n := 20) C0 (by decide) dX2_readWind_23 ?_
    refine lv_iconst (v := (-1)) hx hb dX2_readWind_25 (by decide) ?_
    refine g_callV (As := [.int (nI 0), .int (nI 20), .int (-1)]) (rest := [.ref (hD 0)]) (wr := (gW tk hD G d e)) (C0.sz hl) X (c_X2_takeNumber l D tk a ta tb hD (u3 K 0 (cW1 t n (K 0) wt)) wt n t 0 20 (-1) (by exact hn) (by exact ht8) (by exact hI1) (by first | assumption | decide | omega) (by first | assumption | decide | omega)) ⟨tb356, tb359, tb4, ⟨by decide, by decide, rfl⟩, rfl, rfl, Nat.le_of_ble_eq_true rfl, Nat.le_of_ble_eq_true rfl⟩ tb358 tbs10 0 2 rfl rfl rfl rfl [0, 1, 2] [3, 4, 5, 6, 7, 8, 9, 10, 11, 12] rfl rfl rfl rfl rfl (Nat.le_of_ble_eq_true rfl) ⟨Nat.le_of_ble_eq_true rfl, Nat.le_of_ble_eq_true rfl⟩ dX2_readWind_26 (fun _ H locs _ X => ?_)
    have X : Hx D zA zs H locs (gW tk hD G d e ++ rV a ta hD (u3 K 0 (cNum t n ((u3 K 0 (cW1 t n (K 0) wt)) 0) 0 20 (-1))) wt ++ tW tk ta tb n t) := X
    have X : Hx D zA zs H locs (gW tk hD G d e ++ rV a ta hD (u3 K 0 (cW2 t n (K 0) wt)) wt ++ tW tk ta tb n t) := X
    have hI2 : RI t n (cW2 t n (K 0) wt) := hI1.num
    have X : Hx D zA zs H locs (rV a ta hD (u3 K 0 (cW2 t n (K 0) wt)) wt ++ tW tk ta tb n t ++ gW tk hD G d e) := X.sub [10, 11, 12, 0, 1, 2, 3, 4, 5, 6, 7, 8, 9] rfl rfl
    refine g_put (v := .int (nI (cVal t ((u3 K 0 (cW1 t n (K 0) wt)) 0)))) (ft := .int) C0 X kX1 3 7 tb50 rfl rfl rfl rfl rfl rfl rfl dX2_readWind_29 (fun H locs X => ?_)
    have X : Hx D zA zs H locs (rV a ta hD (u3 K 0 (cW2 t n (K 0) wt)) wt ++ tW tk ta tb n t ++ gW tk hD (u2 G 8 2 (cVal t ((u3 K 0 (cW1 t n (K 0) wt)) 0))) d e) := X
    refine lv_aload_n hx hb dX2_readWind_32 rfl (lv_at hl 0 rfl) ?_
    refine g_iconst (n := 1) C0 rfl dX2_readWind_33 ?_
    refine g_put (v := .int (nI 1)) (ft := .boolean) C0 X kX2 0 7 tb143 rfl rfl rfl rfl (by decide) (by decide) rfl dX2_readWind_34 (fun H locs X => ?_)
    have X : Hx D zA zs H locs (rV a ta hD (u3 K 0 (cW2 t n (K 0) wt)) true ++ tW tk ta tb n t ++ gW tk hD (u2 G 8 2 (cVal t ((u3 K 0 (cW1 t n (K 0) wt)) 0))) d e) := X
    refine lv_aload_n hx hb dX2_readWind_37 rfl (lv_at hl 0 rfl) ?_
    refine g_callV (As := []) (rest := []) (wr := (gW tk hD (u2 G 8 2 (cVal t ((u3 K 0 (cW1 t n (K 0) wt)) 0))) d e)) (C0.sz hl) X (c_X2_takeSign l D tk a ta tb hD (u3 K 0 (cW2 t n (K 0) wt)) true n t (by exact hn) (by exact ht8) (by exact hI2)) ⟨tb340, tb343, tb4, ⟨by decide, by decide, rfl⟩, rfl, rfl, Nat.le_of_ble_eq_true rfl, Nat.le_of_ble_eq_true rfl⟩ tb342 tbs8 0 2 rfl rfl rfl rfl [0, 1, 2] [3, 4, 5, 6, 7, 8, 9, 10, 11, 12] rfl rfl rfl rfl rfl (Nat.le_of_ble_eq_true rfl) ⟨Nat.le_of_ble_eq_true rfl, Nat.le_of_ble_eq_true rfl⟩ dX2_readWind_38 (fun _ H locs _ X => ?_)
    have X : Hx D zA zs H locs (gW tk hD (u2 G 8 2 (cVal t ((u3 K 0 (cW1 t n (K 0) wt)) 0))) d e ++ rV a ta hD (u3 K 0 (cSign t n ((u3 K 0 (cW2 t n (K 0) wt)) 0))) true ++ tW tk ta tb n t) := X
    have X : Hx D zA zs H locs (gW tk hD (u2 G 8 2 (cVal t ((u3 K 0 (cW1 t n (K 0) wt)) 0))) d e ++ rV a ta hD (u3 K 0 (cWindR t n (K 0) wt)) true ++ tW tk ta tb n t) := X
    have X : Hx D zA zs H locs (rV a ta hD (u3 K 0 (cWindR t n (K 0) wt)) true ++ tW tk ta tb n t ++ gW tk hD (u2 G 8 2 (cVal t ((u3 K 0 (cW1 t n (K 0) wt)) 0))) d e) := X.sub [10, 11, 12, 0, 1, 2, 3, 4, 5, 6, 7, 8, 9] rfl rfl
    exact hE (v := ()) () rfl trivial (X.to (by rfl)) dX2_readWind_41
  · refine g_iconst (n := 1) C0 rfl dX2_readWind_8 ?_
    refine lv_goto (tgt := 13) hx hb dX2_readWind_9 (by decide) ?_
    refine g_iconst (n := 4) C0 rfl dX2_readWind_13 ?_
    refine g_callV (As := [.int (nI 1), .int (nI 4)]) (rest := []) (wr := (gW tk hD G d e)) (C0.sz hl) X (c_X2_takeName l D tk a ta tb hD K wt n t true 4 (by exact hn) (by exact ht8) (by exact hI) (by first | assumption | decide | omega)) ⟨tb336, tb339, tb4, ⟨by decide, by decide, rfl⟩, rfl, rfl, Nat.le_of_ble_eq_true rfl, Nat.le_of_ble_eq_true rfl⟩ tb338 tbs7 0 2 rfl rfl rfl rfl [0, 1, 2] [3, 4, 5, 6, 7, 8, 9, 10, 11, 12] rfl rfl rfl rfl rfl (Nat.le_of_ble_eq_true rfl) ⟨Nat.le_of_ble_eq_true rfl, Nat.le_of_ble_eq_true rfl⟩ dX2_readWind_14 (fun _ H locs _ X => ?_)
    have X : Hx D zA zs H locs (gW tk hD G d e ++ rV a ta hD (u3 K 0 (cName t n (K 0) true 4)) wt ++ tW tk ta tb n t) := X
    have X : Hx D zA zs H locs (gW tk hD G d e ++ rV a ta hD (u3 K 0 (cW1 t n (K 0) wt)) wt ++ tW tk ta tb n t) := X.to (by rw [show cW1 t n (K 0) wt = cName t n (K 0) true 4 from by rw [cW1, c2]; rfl] <;> rfl)
    have hI1 : RI t n (cW1 t n (K 0) wt) := hI.name (by decide)
    have X : Hx D zA zs H locs (rV a ta hD (u3 K 0 (cW1 t n (K 0) wt)) wt ++ tW tk ta tb n t ++ gW tk hD G d e) := X.sub [10, 11, 12, 0, 1, 2, 3, 4, 5, 6, 7, 8, 9] rfl rfl
    refine lv_aload_n hx hb dX2_readWind_17 rfl (lv_at hl 0 rfl) ?_
    refine g_get (v := .ref (hD 0)) C0 X kX2 0 1 tb134 rfl rfl rfl dX2_readWind_18 ?_
    refine lv_aload_n hx hb dX2_readWind_21 rfl (lv_at hl 0 rfl) ?_
    refine g_iconst (n := 0) C0 rfl dX2_readWind_22 ?_
    refine g_bipush (n := 20) C0 (by decide) dX2_readWind_23 ?_
    refine lv_iconst (v := (-1)) hx hb dX2_readWind_25 (by decide) ?_
    refine g_callV (As := [.int (nI 0), .int (nI 20), .int (-1)]) (rest := [.ref (hD 0)]) (wr := (gW tk hD G d e)) (C0.sz hl) X (c_X2_takeNumber l D tk a ta tb hD (u3 K 0 (cW1 t n (K 0) wt)) wt n t 0 20 (-1) (by exact hn) (by exact ht8) (by exact hI1) (by first | assumption | decide | omega) (by first | assumption | decide | omega)) ⟨tb356, tb359, tb4, ⟨by decide, by decide, rfl⟩, rfl, rfl, Nat.le_of_ble_eq_true rfl, Nat.le_of_ble_eq_true rfl⟩ tb358 tbs10 0 2 rfl rfl rfl rfl [0, 1, 2] [3, 4, 5, 6, 7, 8, 9, 10, 11, 12] rfl rfl rfl rfl rfl (Nat.le_of_ble_eq_true rfl) ⟨Nat.le_of_ble_eq_true rfl, Nat.le_of_ble_eq_true rfl⟩ dX2_readWind_26 (fun _ H locs _ X => ?_)
    have X : Hx D zA zs H locs (gW tk hD G d e ++ rV a ta hD (u3 K 0 (cNum t n ((u3 K 0 (cW1 t n (K 0) wt)) 0) 0 20 (-1))) wt ++ tW tk ta tb n t) := X
    have X : Hx D zA zs H locs (gW tk hD G d e ++ rV a ta hD (u3 K 0 (cW2 t n (K 0) wt)) wt ++ tW tk ta tb n t) := X
    have hI2 : RI t n (cW2 t n (K 0) wt) := hI1.num
    have X : Hx D zA zs H locs (rV a ta hD (u3 K 0 (cW2 t n (K 0) wt)) wt ++ tW tk ta tb n t ++ gW tk hD G d e) := X.sub [10, 11, 12, 0, 1, 2, 3, 4, 5, 6, 7, 8, 9] rfl rfl
    refine g_put (v := .int (nI (cVal t ((u3 K 0 (cW1 t n (K 0) wt)) 0)))) (ft := .int) C0 X kX1 3 7 tb50 rfl rfl rfl rfl rfl rfl rfl dX2_readWind_29 (fun H locs X => ?_)
    have X : Hx D zA zs H locs (rV a ta hD (u3 K 0 (cW2 t n (K 0) wt)) wt ++ tW tk ta tb n t ++ gW tk hD (u2 G 8 2 (cVal t ((u3 K 0 (cW1 t n (K 0) wt)) 0))) d e) := X
    refine lv_aload_n hx hb dX2_readWind_32 rfl (lv_at hl 0 rfl) ?_
    refine g_iconst (n := 1) C0 rfl dX2_readWind_33 ?_
    refine g_put (v := .int (nI 1)) (ft := .boolean) C0 X kX2 0 7 tb143 rfl rfl rfl rfl (by decide) (by decide) rfl dX2_readWind_34 (fun H locs X => ?_)
    have X : Hx D zA zs H locs (rV a ta hD (u3 K 0 (cW2 t n (K 0) wt)) true ++ tW tk ta tb n t ++ gW tk hD (u2 G 8 2 (cVal t ((u3 K 0 (cW1 t n (K 0) wt)) 0))) d e) := X
    refine lv_aload_n hx hb dX2_readWind_37 rfl (lv_at hl 0 rfl) ?_
    refine g_callV (As := []) (rest := []) (wr := (gW tk hD (u2 G 8 2 (cVal t ((u3 K 0 (cW1 t n (K 0) wt)) 0))) d e)) (C0.sz hl) X (c_X2_takeSign l D tk a ta tb hD (u3 K 0 (cW2 t n (K 0) wt)) true n t (by exact hn) (by exact ht8) (by exact hI2)) ⟨tb340, tb343, tb4, ⟨by decide, by decide, rfl⟩, rfl, rfl, Nat.le_of_ble_eq_true rfl, Nat.le_of_ble_eq_true rfl⟩ tb342 tbs8 0 2 rfl rfl rfl rfl [0, 1, 2] [3, 4, 5, 6, 7, 8, 9, 10, 11, 12] rfl rfl rfl rfl rfl (Nat.le_of_ble_eq_true rfl) ⟨Nat.le_of_ble_eq_true rfl, Nat.le_of_ble_eq_true rfl⟩ dX2_readWind_38 (fun _ H locs _ X => ?_)
    have X : Hx D zA zs H locs (gW tk hD (u2 G 8 2 (cVal t ((u3 K 0 (cW1 t n (K 0) wt)) 0))) d e ++ rV a ta hD (u3 K 0 (cSign t n ((u3 K 0 (cW2 t n (K 0) wt)) 0))) true ++ tW tk ta tb n t) := X
    have X : Hx D zA zs H locs (gW tk hD (u2 G 8 2 (cVal t ((u3 K 0 (cW1 t n (K 0) wt)) 0))) d e ++ rV a ta hD (u3 K 0 (cWindR t n (K 0) wt)) true ++ tW tk ta tb n t) := X
    have X : Hx D zA zs H locs (rV a ta hD (u3 K 0 (cWindR t n (K 0) wt)) true ++ tW tk ta tb n t ++ gW tk hD (u2 G 8 2 (cVal t ((u3 K 0 (cW1 t n (K 0) wt)) 0))) d e) := X.sub [10, 11, 12, 0, 1, 2, 3, 4, 5, 6, 7, 8, 9] rfl rfl
    exact hE (v := ()) () rfl trivial (X.to (by rfl)) dX2_readWind_41
set_option maxHeartbeats 4000000 in
set_option maxRecDepth 100000 in
theorem c_X2_readLine (l : Launch) (D : va_G) (tk : Nat → ClassId) (sK sV : Nat → Nat) (a ta tb : Nat) (hD : Nat → Nat) (K : Nat → Nat → Nat) (wt : Bool) (n : Nat) (t : Nat → Nat) (G : Nat → Nat → Nat) (d e : Nat → Nat) (hn : n ≤ 160) (ht8 : ∀ j, j < n → t j < 128) (hI : RI t n (K 0)) (hd9 : DI G) (hf0 : K 0 0 = 0) : MS l yX2_readLine cX2_readLine 1 none ⟨5, 0, 0, 108⟩ D (TYS tk) sK sV [.ref a] (rV a ta hD K wt ++ tW tk ta tb n t ++ gW tk hD G d e) (fun (_ : Unit) => True) (fun _ => none) (fun _ => rV a ta hD (u3 K 0 (cLineR t n (K 0) wt G)) (cLineW t (K 0) wt) ++ tW tk ta tb n t ++ gW tk hD (cLineG t n (K 0) wt G) d e) 0 0 := by
  refine MS.of_v (by decide) rfl ?_
  intro zp ze zs zm za zb zt zc zA zQ ls C0 hnm S0 X hl hE
  have hx := C0.1
  have hb := C0.2.1
  have ht := C0.2.2.2.2.1
  have X : Hx D zA zs zs.heap [] (rV a ta hD K wt ++ tW tk ta tb n t ++ gW tk hD G d e) := X
  have hl : lv_has ls 1 [(0, .ref a)] := hl
  obtain ⟨hi1, hi2, hi3, hi4, hi5, hi6, hi7⟩ := id hI
  obtain ⟨hd1, hd2, hd3⟩ := id hd9
  have hts := hi6 hf0
  obtain ⟨H, hH⟩ : ∃ H, H = zs.heap := ⟨_, rfl⟩
  rw [← hH] at X ⊢
  obtain ⟨locs, hlo⟩ : ∃ L : List Loc, L = [] := ⟨_, rfl⟩
  rw [← hlo] at X ⊢
  refine lv_aload_n hx hb dX2_readLine_0 rfl (lv_at hl 0 rfl) ?_
  refine g_get (v := .int (nI (K 0 2))) C0 X kX2 0 4 tb140 rfl rfl rfl dX2_readLine_1 ?_
  refine g_ifeq (x := K 0 2) (tgt := 15) C0 (by omega) dX2_readLine_4 rfl (fun c1 => ?_) (fun c2 => ?_)
  · refine lv_aload_n hx hb dX2_readLine_15 rfl (lv_at hl 0 rfl) ?_
    refine g_ldcS C0 S0 (i := 0) (by decide) rfl dX2_readLine_16 ?_
    refine g_callVs (As := [.ref (sK 0)]) (rest := []) (wr := (gW tk hD G d e)) (C0.sz hl) S0 X (c_X2_isNamed l D tk sK sV a ta tb hD K wt n t 0 (by exact hn) (by exact ht8) (by exact hI) (by first | assumption | decide | omega) (by first | assumption | decide | omega)) ⟨tb280, tb283, tb4, ⟨by decide, by decide, rfl⟩, rfl, rfl, Nat.le_of_ble_eq_true rfl, Nat.le_of_ble_eq_true rfl⟩ tb282 tbs5 0 2 rfl rfl rfl rfl [0, 1, 2] [3, 4, 5, 6, 7, 8, 9, 10, 11, 12] rfl rfl rfl rfl rfl (Nat.le_of_ble_eq_true rfl) ⟨Nat.le_of_ble_eq_true rfl, Nat.le_of_ble_eq_true rfl⟩ dX2_readLine_18 (fun _ H locs _ X => ?_)
    have X : Hx D zA zs H locs (gW tk hD G d e ++ rV a ta hD K wt ++ tW tk ta tb n t) := X
    have X : Hx D zA zs H locs (rV a ta hD K wt ++ tW tk ta tb n t ++ gW tk hD G d e) := X.sub [10, 11, 12, 0, 1, 2, 3, 4, 5, 6, 7, 8, 9] rfl rfl
    refine g_ifeqB (x := isN t (K 0 3) (K 0 4) (strW.getD 0 [])) (tgt := 32) C0 dX2_readLine_21 rfl (fun c3 => ?_) (fun c4 => ?_)
    · refine lv_aload_n hx hb dX2_readLine_32 rfl (lv_at hl 0 rfl) ?_
      refine g_ldcS C0 S0 (i := 1) (by decide) rfl dX2_readLine_33 ?_
      refine g_callVs (As := [.ref (sK 1)]) (rest := []) (wr := (gW tk hD G d e)) (C0.sz hl) S0 X (c_X2_isNamed l D tk sK sV a ta tb hD K wt n t 1 (by exact hn) (by exact ht8) (by exact hI) (by first | assumption | decide | omega) (by first | assumption | decide | omega)) ⟨tb280, tb283, tb4, ⟨by decide, by decide, rfl⟩, rfl, rfl, Nat.le_of_ble_eq_true rfl, Nat.le_of_ble_eq_true rfl⟩ tb282 tbs5 0 2 rfl rfl rfl rfl [0, 1, 2] [3, 4, 5, 6, 7, 8, 9, 10, 11, 12] rfl rfl rfl rfl rfl (Nat.le_of_ble_eq_true rfl) ⟨Nat.le_of_ble_eq_true rfl, Nat.le_of_ble_eq_true rfl⟩ dX2_readLine_35 (fun _ H locs _ X => ?_)
      have X : Hx D zA zs H locs (gW tk hD G d e ++ rV a ta hD K wt ++ tW tk ta tb n t) := X
      have X : Hx D zA zs H locs (rV a ta hD K wt ++ tW tk ta tb n t ++ gW tk hD G d e) := X.sub [10, 11, 12, 0, 1, 2, 3, 4, 5, 6, 7, 8, 9] rfl rfl
      refine g_ifeqB (x := isN t (K 0 3) (K 0 4) (strW.getD 1 [])) (tgt := 49) C0 dX2_readLine_38 rfl (fun c5 => ?_) (fun c6 => ?_)
      · refine lv_aload_n hx hb dX2_readLine_49 rfl (lv_at hl 0 rfl) ?_
        refine g_ldcS C0 S0 (i := 2) (by decide) rfl dX2_readLine_50 ?_
        refine g_callVs (As := [.ref (sK 2)]) (rest := []) (wr := (gW tk hD G d e)) (C0.sz hl) S0 X (c_X2_isNamed l D tk sK sV a ta tb hD K wt n t 2 (by exact hn) (by exact ht8) (by exact hI) (by first | assumption | decide | omega) (by first | assumption | decide | omega)) ⟨tb280, tb283, tb4, ⟨by decide, by decide, rfl⟩, rfl, rfl, Nat.le_of_ble_eq_true rfl, Nat.le_of_ble_eq_true rfl⟩ tb282 tbs5 0 2 rfl rfl rfl rfl [0, 1, 2] [3, 4, 5, 6, 7, 8, 9, 10, 11, 12] rfl rfl rfl rfl rfl (Nat.le_of_ble_eq_true rfl) ⟨Nat.le_of_ble_eq_true rfl, Nat.le_of_ble_eq_true rfl⟩ dX2_readLine_52 (fun _ H locs _ X => ?_)
        have X : Hx D zA zs H locs (gW tk hD G d e ++ rV a ta hD K wt ++ tW tk ta tb n t) := X
        have X : Hx D zA zs H locs (rV a ta hD K wt ++ tW tk ta tb n t ++ gW tk hD G d e) := X.sub [10, 11, 12, 0, 1, 2, 3, 4, 5, 6, 7, 8, 9] rfl rfl
        refine g_ifeqB (x := isN t (K 0 3) (K 0 4) (strW.getD 2 [])) (tgt := 66) C0 dX2_readLine_55 rfl (fun c7 => ?_) (fun c8 => ?_)
        · refine lv_aload_n hx hb dX2_readLine_66 rfl (lv_at hl 0 rfl) ?_
          refine g_ldcS C0 S0 (i := 3) (by decide) rfl dX2_readLine_67 ?_
          refine g_callVs (As := [.ref (sK 3)]) (rest := []) (wr := (gW tk hD G d e)) (C0.sz hl) S0 X (c_X2_isNamed l D tk sK sV a ta tb hD K wt n t 3 (by exact hn) (by exact ht8) (by exact hI) (by first | assumption | decide | omega) (by first | assumption | decide | omega)) ⟨tb280, tb283, tb4, ⟨by decide, by decide, rfl⟩, rfl, rfl, Nat.le_of_ble_eq_true rfl, Nat.le_of_ble_eq_true rfl⟩ tb282 tbs5 0 2 rfl rfl rfl rfl [0, 1, 2] [3, 4, 5, 6, 7, 8, 9, 10, 11, 12] rfl rfl rfl rfl rfl (Nat.le_of_ble_eq_true rfl) ⟨Nat.le_of_ble_eq_true rfl, Nat.le_of_ble_eq_true rfl⟩ dX2_readLine_69 (fun _ H locs _ X => ?_)
          have X : Hx D zA zs H locs (gW tk hD G d e ++ rV a ta hD K wt ++ tW tk ta tb n t) := X
          have X : Hx D zA zs H locs (rV a ta hD K wt ++ tW tk ta tb n t ++ gW tk hD G d e) := X.sub [10, 11, 12, 0, 1, 2, 3, 4, 5, 6, 7, 8, 9] rfl rfl
          refine g_ifeqB (x := isN t (K 0 3) (K 0 4) (strW.getD 3 [])) (tgt := 83) C0 dX2_readLine_72 rfl (fun c9 => ?_) (fun c10 => ?_)
          · refine lv_aload_n hx hb dX2_readLine_83 rfl (lv_at hl 0 rfl) ?_
            refine g_ldcS C0 S0 (i := 4) (by decide) rfl dX2_readLine_84 ?_
            refine g_callVs (As := [.ref (sK 4)]) (rest := []) (wr := (gW tk hD G d e)) (C0.sz hl) S0 X (c_X2_isNamed l D tk sK sV a ta tb hD K wt n t 4 (by exact hn) (by exact ht8) (by exact hI) (by first | assumption | decide | omega) (by first | assumption | decide | omega)) ⟨tb280, tb283, tb4, ⟨by decide, by decide, rfl⟩, rfl, rfl, Nat.le_of_ble_eq_true rfl, Nat.le_of_ble_eq_true rfl⟩ tb282 tbs5 0 2 rfl rfl rfl rfl [0, 1, 2] [3, 4, 5, 6, 7, 8, 9, 10, 11, 12] rfl rfl rfl rfl rfl (Nat.le_of_ble_eq_true rfl) ⟨Nat.le_of_ble_eq_true rfl, Nat.le_of_ble_eq_true rfl⟩ dX2_readLine_86 (fun _ H locs _ X => ?_)
            have X : Hx D zA zs H locs (gW tk hD G d e ++ rV a ta hD K wt ++ tW tk ta tb n t) := X
            have X : Hx D zA zs H locs (rV a ta hD K wt ++ tW tk ta tb n t ++ gW tk hD G d e) := X.sub [10, 11, 12, 0, 1, 2, 3, 4, 5, 6, 7, 8, 9] rfl rfl
            refine g_ifeqB (x := isN t (K 0 3) (K 0 4) (strW.getD 4 [])) (tgt := 99) C0 dX2_readLine_89 rfl (fun c11 => ?_) (fun c12 => ?_)
            · refine lv_aload_n hx hb dX2_readLine_99 rfl (lv_at hl 0 rfl) ?_
              refine g_ldcS C0 S0 (i := 5) (by decide) rfl dX2_readLine_100 ?_
              refine g_callVs (As := [.ref (sK 5)]) (rest := []) (wr := (gW tk hD G d e)) (C0.sz hl) S0 X (c_X2_isNamed l D tk sK sV a ta tb hD K wt n t 5 (by exact hn) (by exact ht8) (by exact hI) (by first | assumption | decide | omega) (by first | assumption | decide | omega)) ⟨tb280, tb283, tb4, ⟨by decide, by decide, rfl⟩, rfl, rfl, Nat.le_of_ble_eq_true rfl, Nat.le_of_ble_eq_true rfl⟩ tb282 tbs5 0 2 rfl rfl rfl rfl [0, 1, 2] [3, 4, 5, 6, 7, 8, 9, 10, 11, 12] rfl rfl rfl rfl rfl (Nat.le_of_ble_eq_true rfl) ⟨Nat.le_of_ble_eq_true rfl, Nat.le_of_ble_eq_true rfl⟩ dX2_readLine_102 (fun _ H locs _ X => ?_)
              have X : Hx D zA zs H locs (gW tk hD G d e ++ rV a ta hD K wt ++ tW tk ta tb n t) := X
              have X : Hx D zA zs H locs (rV a ta hD K wt ++ tW tk ta tb n t ++ gW tk hD G d e) := X.sub [10, 11, 12, 0, 1, 2, 3, 4, 5, 6, 7, 8, 9] rfl rfl
              refine g_ifeqB (x := isN t (K 0 3) (K 0 4) (strW.getD 5 [])) (tgt := 115) C0 dX2_readLine_105 rfl (fun c13 => ?_) (fun c14 => ?_)
              · refine lv_aload_n hx hb dX2_readLine_115 rfl (lv_at hl 0 rfl) ?_
                refine g_ldcS C0 S0 (i := 6) (by decide) rfl dX2_readLine_116 ?_
                refine g_callVs (As := [.ref (sK 6)]) (rest := []) (wr := (gW tk hD G d e)) (C0.sz hl) S0 X (c_X2_isNamed l D tk sK sV a ta tb hD K wt n t 6 (by exact hn) (by exact ht8) (by exact hI) (by first | assumption | decide | omega) (by first | assumption | decide | omega)) ⟨tb280, tb283, tb4, ⟨by decide, by decide, rfl⟩, rfl, rfl, Nat.le_of_ble_eq_true rfl, Nat.le_of_ble_eq_true rfl⟩ tb282 tbs5 0 2 rfl rfl rfl rfl [0, 1, 2] [3, 4, 5, 6, 7, 8, 9, 10, 11, 12] rfl rfl rfl rfl rfl (Nat.le_of_ble_eq_true rfl) ⟨Nat.le_of_ble_eq_true rfl, Nat.le_of_ble_eq_true rfl⟩ dX2_readLine_118 (fun _ H locs _ X => ?_)
                have X : Hx D zA zs H locs (gW tk hD G d e ++ rV a ta hD K wt ++ tW tk ta tb n t) := X
                have X : Hx D zA zs H locs (rV a ta hD K wt ++ tW tk ta tb n t ++ gW tk hD G d e) := X.sub [10, 11, 12, 0, 1, 2, 3, 4, 5, 6, 7, 8, 9] rfl rfl
                refine g_ifeqB (x := isN t (K 0 3) (K 0 4) (strW.getD 6 [])) (tgt := 131) C0 dX2_readLine_121 rfl (fun c15 => ?_) (fun c16 => ?_)
                · refine lv_aload_n hx hb dX2_readLine_131 rfl (lv_at hl 0 rfl) ?_
                  refine g_iconst (n := 2) C0 rfl dX2_readLine_132 ?_
                  refine g_callV (As := [.int (nI 2)]) (rest := []) (wr := (tW tk ta tb n t ++ gW tk hD G d e)) (C0.sz hl) X (c_X2_fail l D tk a ta hD K wt 2 (by omega)) ⟨tb271, tb274, tb4, ⟨by decide, by decide, rfl⟩, rfl, rfl, Nat.le_of_ble_eq_true rfl, Nat.le_of_ble_eq_true rfl⟩ tb273 tbs3 0 2 rfl rfl rfl rfl [0] [1, 2, 3, 4, 5, 6, 7, 8, 9, 10, 11, 12] rfl rfl rfl rfl rfl (Nat.le_of_ble_eq_true rfl) ⟨Nat.le_of_ble_eq_true rfl, Nat.le_of_ble_eq_true rfl⟩ dX2_readLine_133 (fun _ H locs _ X => ?_)
                  have X : Hx D zA zs H locs (tW tk ta tb n t ++ gW tk hD G d e ++ rV a ta hD (u3 K 0 (cFail (K 0) 2)) wt) := X
                  have X : Hx D zA zs H locs (rV a ta hD (u3 K 0 (cFail (K 0) 2)) wt ++ tW tk ta tb n t ++ gW tk hD G d e) := X.sub [12, 0, 1, 2, 3, 4, 5, 6, 7, 8, 9, 10, 11] rfl rfl
                  have hwh : cWh t (K 0) = 7 := by
                    rw [cWh, if_pos (by omega), nameN, if_neg (by rw [show isN t (K 0 3) (K 0 4) wPlain = false from c3]; decide), if_neg (by rw [show isN t (K 0 3) (K 0 4) wSilver = false from c5]; decide), if_neg (by rw [show isN t (K 0 3) (K 0 4) wOld = false from c7]; decide), if_neg (by rw [show isN t (K 0 3) (K 0 4) wSapling = false from c9]; decide), if_neg (by rw [show isN t (K 0 3) (K 0 4) wRoot = false from c11]; decide), if_neg (by rw [show isN t (K 0 3) (K 0 4) wTalk = false from c15]; decide), if_neg (by rw [show isN t (K 0 3) (K 0 4) wWind = false from c13]; decide)]
                  exact hE (v := ()) () rfl trivial (X.to (by rw [cLineR, cLineW, cLineG, hwh] <;> rfl)) dX2_readLine_136
                · refine lv_aload_n hx hb dX2_readLine_124 rfl (lv_at hl 0 rfl) ?_
                  refine g_callV (As := []) (rest := []) (wr := []) (C0.sz hl) X (c_X2_readTalk l D tk a ta tb hD K wt n t G d e (by exact hn) (by exact ht8) (by exact hI) (by first | assumption | decide | omega)) ⟨tb375, tb378, tb4, ⟨by decide, by decide, rfl⟩, rfl, rfl, Nat.le_of_ble_eq_true rfl, Nat.le_of_ble_eq_true rfl⟩ tb377 tbs13 0 2 rfl rfl rfl rfl [0, 1, 2, 3, 4, 5, 6, 7, 8, 9, 10, 11, 12] [] rfl rfl rfl rfl rfl (Nat.le_of_ble_eq_true rfl) ⟨Nat.le_of_ble_eq_true rfl, Nat.le_of_ble_eq_true rfl⟩ dX2_readLine_125 (fun _ H locs _ X => ?_)
                  have X : Hx D zA zs H locs (rV a ta hD (u3 K 0 (cTalkR t n (K 0) G)) wt ++ tW tk ta tb n t ++ gW tk hD (cTalkG t n (K 0) G) d e) := X
                  refine lv_goto (tgt := 136) hx hb dX2_readLine_128 (by decide) ?_
                  have hwh : cWh t (K 0) = 5 := by
                    rw [cWh, if_pos (by omega), nameN, if_neg (by rw [show isN t (K 0 3) (K 0 4) wPlain = false from c3]; decide), if_neg (by rw [show isN t (K 0 3) (K 0 4) wSilver = false from c5]; decide), if_neg (by rw [show isN t (K 0 3) (K 0 4) wOld = false from c7]; decide), if_neg (by rw [show isN t (K 0 3) (K 0 4) wSapling = false from c9]; decide), if_neg (by rw [show isN t (K 0 3) (K 0 4) wRoot = false from c11]; decide), if_pos (show isN t (K 0 3) (K 0 4) wTalk = true from c16)]
                  exact hE (v := ()) () rfl trivial (X.to (by rw [cLineR, cLineW, cLineG, hwh] <;> rfl)) dX2_readLine_136
              · refine lv_aload_n hx hb dX2_readLine_108 rfl (lv_at hl 0 rfl) ?_
                refine g_callV (As := []) (rest := []) (wr := []) (C0.sz hl) X (c_X2_readWind l D tk a ta tb hD K wt n t G d e (by exact hn) (by exact ht8) (by exact hI) (by first | assumption | decide | omega)) ⟨tb370, tb373, tb4, ⟨by decide, by decide, rfl⟩, rfl, rfl, Nat.le_of_ble_eq_true rfl, Nat.le_of_ble_eq_true rfl⟩ tb372 tbs12 0 2 rfl rfl rfl rfl [0, 1, 2, 3, 4, 5, 6, 7, 8, 9, 10, 11, 12] [] rfl rfl rfl rfl rfl (Nat.le_of_ble_eq_true rfl) ⟨Nat.le_of_ble_eq_true rfl, Nat.le_of_ble_eq_true rfl⟩ dX2_readLine_109 (fun _ H locs _ X => ?_)
                have X : Hx D zA zs H locs (rV a ta hD (u3 K 0 (cWindR t n (K 0) wt)) true ++ tW tk ta tb n t ++ gW tk hD (cWindG t n (K 0) wt G) d e) := X
                refine lv_goto (tgt := 136) hx hb dX2_readLine_112 (by decide) ?_
                have hwh : cWh t (K 0) = 6 := by
                  rw [cWh, if_pos (by omega), nameN, if_neg (by rw [show isN t (K 0 3) (K 0 4) wPlain = false from c3]; decide), if_neg (by rw [show isN t (K 0 3) (K 0 4) wSilver = false from c5]; decide), if_neg (by rw [show isN t (K 0 3) (K 0 4) wOld = false from c7]; decide), if_neg (by rw [show isN t (K 0 3) (K 0 4) wSapling = false from c9]; decide), if_neg (by rw [show isN t (K 0 3) (K 0 4) wRoot = false from c11]; decide), if_neg (by rw [isN_x c14]; decide), if_pos (show isN t (K 0 3) (K 0 4) wWind = true from c14)]
                exact hE (v := ()) () rfl trivial (X.to (by rw [cLineR, cLineW, cLineG, hwh] <;> rfl)) dX2_readLine_136
            · refine lv_aload_n hx hb dX2_readLine_92 rfl (lv_at hl 0 rfl) ?_
              refine g_callV (As := []) (rest := []) (wr := []) (C0.sz hl) X (c_X2_readRoot l D tk a ta tb hD K wt n t G d e (by exact hn) (by exact ht8) (by exact hI) (by first | assumption | decide | omega)) ⟨tb352, tb355, tb4, ⟨by decide, by decide, rfl⟩, rfl, rfl, Nat.le_of_ble_eq_true rfl, Nat.le_of_ble_eq_true rfl⟩ tb354 tbs9 0 2 rfl rfl rfl rfl [0, 1, 2, 3, 4, 5, 6, 7, 8, 9, 10, 11, 12] [] rfl rfl rfl rfl rfl (Nat.le_of_ble_eq_true rfl) ⟨Nat.le_of_ble_eq_true rfl, Nat.le_of_ble_eq_true rfl⟩ dX2_readLine_93 (fun _ H locs _ X => ?_)
              have X : Hx D zA zs H locs (rV a ta hD (u3 K 0 (cRootR t n (K 0) G)) wt ++ tW tk ta tb n t ++ gW tk hD (cRootG t n (K 0) G) d e) := X
              refine lv_goto (tgt := 136) hx hb dX2_readLine_96 (by decide) ?_
              have hwh : cWh t (K 0) = 4 := by
                rw [cWh, if_pos (by omega), nameN, if_neg (by rw [show isN t (K 0 3) (K 0 4) wPlain = false from c3]; decide), if_neg (by rw [show isN t (K 0 3) (K 0 4) wSilver = false from c5]; decide), if_neg (by rw [show isN t (K 0 3) (K 0 4) wOld = false from c7]; decide), if_neg (by rw [show isN t (K 0 3) (K 0 4) wSapling = false from c9]; decide), if_pos (show isN t (K 0 3) (K 0 4) wRoot = true from c12)]
              exact hE (v := ()) () rfl trivial (X.to (by rw [cLineR, cLineW, cLineG, hwh] <;> rfl)) dX2_readLine_136
          · refine lv_aload_n hx hb dX2_readLine_75 rfl (lv_at hl 0 rfl) ?_
            refine g_iconst (n := 3) C0 rfl dX2_readLine_76 ?_
            refine g_callV (As := [.int (nI 3)]) (rest := []) (wr := []) (C0.sz hl) X (c_X2_readTree l D tk a ta tb hD K wt n t G d e 3 (by exact hn) (by exact ht8) (by exact hI) (by first | assumption | decide | omega)) ⟨tb332, tb335, tb4, ⟨by decide, by decide, rfl⟩, rfl, rfl, Nat.le_of_ble_eq_true rfl, Nat.le_of_ble_eq_true rfl⟩ tb334 tbs6 0 2 rfl rfl rfl rfl [0, 1, 2, 3, 4, 5, 6, 7, 8, 9, 10, 11, 12] [] rfl rfl rfl rfl rfl (Nat.le_of_ble_eq_true rfl) ⟨Nat.le_of_ble_eq_true rfl, Nat.le_of_ble_eq_true rfl⟩ dX2_readLine_77 (fun _ H locs _ X => ?_)
            have X : Hx D zA zs H locs (rV a ta hD (u3 K 0 (cTreeR t n (K 0) G)) wt ++ tW tk ta tb n t ++ gW tk hD (cTreeG t n 3 (K 0) G) d e) := X
            refine lv_goto (tgt := 136) hx hb dX2_readLine_80 (by decide) ?_
            have hwh : cWh t (K 0) = 3 := by
              rw [cWh, if_pos (by omega), nameN, if_neg (by rw [show isN t (K 0 3) (K 0 4) wPlain = false from c3]; decide), if_neg (by rw [show isN t (K 0 3) (K 0 4) wSilver = false from c5]; decide), if_neg (by rw [show isN t (K 0 3) (K 0 4) wOld = false from c7]; decide), if_pos (show isN t (K 0 3) (K 0 4) wSapling = true from c10)]
            exact hE (v := ()) () rfl trivial (X.to (by rw [cLineR, cLineW, cLineG, hwh] <;> rfl)) dX2_readLine_136
        · refine lv_aload_n hx hb dX2_readLine_58 rfl (lv_at hl 0 rfl) ?_
          refine g_iconst (n := 2) C0 rfl dX2_readLine_59 ?_
          refine g_callV (As := [.int (nI 2)]) (rest := []) (wr := []) (C0.sz hl) X (c_X2_readTree l D tk a ta tb hD K wt n t G d e 2 (by exact hn) (by exact ht8) (by exact hI) (by first | assumption | decide | omega)) ⟨tb332, tb335, tb4, ⟨by decide, by decide, rfl⟩, rfl, rfl, Nat.le_of_ble_eq_true rfl, Nat.le_of_ble_eq_true rfl⟩ tb334 tbs6 0 2 rfl rfl rfl rfl [0, 1, 2, 3, 4, 5, 6, 7, 8, 9, 10, 11, 12] [] rfl rfl rfl rfl rfl (Nat.le_of_ble_eq_true rfl) ⟨Nat.le_of_ble_eq_true rfl, Nat.le_of_ble_eq_true rfl⟩ dX2_readLine_60 (fun _ H locs _ X => ?_)
          have X : Hx D zA zs H locs (rV a ta hD (u3 K 0 (cTreeR t n (K 0) G)) wt ++ tW tk ta tb n t ++ gW tk hD (cTreeG t n 2 (K 0) G) d e) := X
          refine lv_goto (tgt := 136) hx hb dX2_readLine_63 (by decide) ?_
          have hwh : cWh t (K 0) = 2 := by
            rw [cWh, if_pos (by omega), nameN, if_neg (by rw [show isN t (K 0 3) (K 0 4) wPlain = false from c3]; decide), if_neg (by rw [show isN t (K 0 3) (K 0 4) wSilver = false from c5]; decide), if_pos (show isN t (K 0 3) (K 0 4) wOld = true from c8)]
          exact hE (v := ()) () rfl trivial (X.to (by rw [cLineR, cLineW, cLineG, hwh] <;> rfl)) dX2_readLine_136
      · refine lv_aload_n hx hb dX2_readLine_41 rfl (lv_at hl 0 rfl) ?_
        refine g_iconst (n := 1) C0 rfl dX2_readLine_42 ?_
        refine g_callV (As := [.int (nI 1)]) (rest := []) (wr := []) (C0.sz hl) X (c_X2_readTree l D tk a ta tb hD K wt n t G d e 1 (by exact hn) (by exact ht8) (by exact hI) (by first | assumption | decide | omega)) ⟨tb332, tb335, tb4, ⟨by decide, by decide, rfl⟩, rfl, rfl, Nat.le_of_ble_eq_true rfl, Nat.le_of_ble_eq_true rfl⟩ tb334 tbs6 0 2 rfl rfl rfl rfl [0, 1, 2, 3, 4, 5, 6, 7, 8, 9, 10, 11, 12] [] rfl rfl rfl rfl rfl (Nat.le_of_ble_eq_true rfl) ⟨Nat.le_of_ble_eq_true rfl, Nat.le_of_ble_eq_true rfl⟩ dX2_readLine_43 (fun _ H locs _ X => ?_)
        have X : Hx D zA zs H locs (rV a ta hD (u3 K 0 (cTreeR t n (K 0) G)) wt ++ tW tk ta tb n t ++ gW tk hD (cTreeG t n 1 (K 0) G) d e) := X
        refine lv_goto (tgt := 136) hx hb dX2_readLine_46 (by decide) ?_
        have hwh : cWh t (K 0) = 1 := by
          rw [cWh, if_pos (by omega), nameN, if_neg (by rw [show isN t (K 0 3) (K 0 4) wPlain = false from c3]; decide), if_pos (show isN t (K 0 3) (K 0 4) wSilver = true from c6)]
        exact hE (v := ()) () rfl trivial (X.to (by rw [cLineR, cLineW, cLineG, hwh] <;> rfl)) dX2_readLine_136
    · refine lv_aload_n hx hb dX2_readLine_24 rfl (lv_at hl 0 rfl) ?_
      refine g_iconst (n := 0) C0 rfl dX2_readLine_25 ?_
      refine g_callV (As := [.int (nI 0)]) (rest := []) (wr := []) (C0.sz hl) X (c_X2_readTree l D tk a ta tb hD K wt n t G d e 0 (by exact hn) (by exact ht8) (by exact hI) (by first | assumption | decide | omega)) ⟨tb332, tb335, tb4, ⟨by decide, by decide, rfl⟩, rfl, rfl, Nat.le_of_ble_eq_true rfl, Nat.le_of_ble_eq_true rfl⟩ tb334 tbs6 0 2 rfl rfl rfl rfl [0, 1, 2, 3, 4, 5, 6, 7, 8, 9, 10, 11, 12] [] rfl rfl rfl rfl rfl (Nat.le_of_ble_eq_true rfl) ⟨Nat.le_of_ble_eq_true rfl, Nat.le_of_ble_eq_true rfl⟩ dX2_readLine_26 (fun _ H locs _ X => ?_)
      have X : Hx D zA zs H locs (rV a ta hD (u3 K 0 (cTreeR t n (K 0) G)) wt ++ tW tk ta tb n t ++ gW tk hD (cTreeG t n 0 (K 0) G) d e) := X
      refine lv_goto (tgt := 136) hx hb dX2_readLine_29 (by decide) ?_
      have hwh : cWh t (K 0) = 0 := by
        rw [cWh, if_pos (by omega), nameN, if_pos (show isN t (K 0 3) (K 0 4) wPlain = true from c4)]
      exact hE (v := ()) () rfl trivial (X.to (by rw [cLineR, cLineW, cLineG, hwh] <;> rfl)) dX2_readLine_136
  · refine lv_aload_n hx hb dX2_readLine_7 rfl (lv_at hl 0 rfl) ?_
    refine g_iconst (n := 2) C0 rfl dX2_readLine_8 ?_
    refine g_callV (As := [.int (nI 2)]) (rest := []) (wr := (tW tk ta tb n t ++ gW tk hD G d e)) (C0.sz hl) X (c_X2_fail l D tk a ta hD K wt 2 (by omega)) ⟨tb271, tb274, tb4, ⟨by decide, by decide, rfl⟩, rfl, rfl, Nat.le_of_ble_eq_true rfl, Nat.le_of_ble_eq_true rfl⟩ tb273 tbs3 0 2 rfl rfl rfl rfl [0] [1, 2, 3, 4, 5, 6, 7, 8, 9, 10, 11, 12] rfl rfl rfl rfl rfl (Nat.le_of_ble_eq_true rfl) ⟨Nat.le_of_ble_eq_true rfl, Nat.le_of_ble_eq_true rfl⟩ dX2_readLine_9 (fun _ H locs _ X => ?_)
    have X : Hx D zA zs H locs (tW tk ta tb n t ++ gW tk hD G d e ++ rV a ta hD (u3 K 0 (cFail (K 0) 2)) wt) := X
    have X : Hx D zA zs H locs (rV a ta hD (u3 K 0 (cFail (K 0) 2)) wt ++ tW tk ta tb n t ++ gW tk hD G d e) := X.sub [12, 0, 1, 2, 3, 4, 5, 6, 7, 8, 9, 10, 11] rfl rfl
    refine lv_goto (tgt := 136) hx hb dX2_readLine_12 (by decide) ?_
    have hwh : cWh t (K 0) = 7 := if_neg (by omega)
    exact hE (v := ()) () rfl trivial (X.to (by rw [cLineR, cLineW, cLineG, hwh] <;> rfl)) dX2_readLine_136
set_option maxHeartbeats 4000000 in
set_option maxRecDepth 100000 in
theorem c_X1_lacksTree (l : Launch) (D : va_G) (tk : Nat → ClassId) (h : Nat → Nat) (G : Nat → Nat → Nat) (d e : Nat → Nat) (hd9 : DI G) : MX l yX1_lacksTree cX1_lacksTree 3 (some .boolean) ⟨2, 0, 0, 43⟩ D (TYS tk) [.ref (h 0)] (gW tk h G d e) (fun (_ : Unit) => True) (fun _ => some (.int (nI (rb (lackB G))))) (fun _ => gW tk h G d e) 0 0 := by
  refine MX.of_z (by decide) rfl ?_
  intro zp ze zs zm za zb zt zc zA zQ ls C0 hnm X hl hE
  have hx := C0.1
  have hb := C0.2.1
  have ht := C0.2.2.2.2.1
  have X : Hx D zA zs zs.heap [] (gW tk h G d e) := X
  have hl : lv_has ls 3 [(0, .ref (h 0))] := hl
  obtain ⟨hd1, hd2, hd3⟩ := id hd9
  obtain ⟨-, -, -, -, -, hd6, hd7⟩ := id hd9
  obtain ⟨H, hH⟩ : ∃ H, H = zs.heap := ⟨_, rfl⟩
  rw [← hH] at X ⊢
  obtain ⟨locs, hlo⟩ : ∃ L : List Loc, L = [] := ⟨_, rfl⟩
  rw [← hlo] at X ⊢
  refine g_iconst (n := 0) C0 rfl dX1_lacksTree_0 ?_
  refine lv_istore_n (lv' := [(1, .int (nI 0)), (0, .ref (h 0))]) hx hb dX1_lacksTree_1 rfl hl (by decide) rfl (fun ls hl => ?_)
  refine g_iconst (n := 0) C0 rfl dX1_lacksTree_2 ?_
  refine lv_istore_n (lv' := [(2, .int (nI 0)), (1, .int (nI 0)), (0, .ref (h 0))]) hx hb dX1_lacksTree_3 rfl hl (by decide) rfl (fun ls hl => ?_)
  have J4 : ∀ (fz : Nat) (i la : Nat), G 8 1 - i < fz → ∀ (hi9 : i ≤ G 8 1) (hla : la = rb (!(ball (fun i => decide (G 1 i < G 8 0) && decide (G 2 i < G 8 0)) i))) (H : Heap) (locs : List Loc) (ls : Array Slot), Hx D zA zs H locs (gW tk h G d e) → lv_has ls 3 [(2, .int (nI i)), (1, .int (nI la)), (0, .ref (h 0))] → W zp l ze ⟨2, 0, 0, 43⟩ zs zm za zb zt zc H locs 0 0 zQ (F0 zm 4 ls []) := by
    intro fz
    induction fz with
    | zero => intro i la hz; exact absurd hz (Nat.not_lt_zero _)
    | succ fz ih4 =>
      intro i la hz4 hi9 hla H locs ls X hl
      refine lv_iload_n hx hb dX1_lacksTree_4 rfl (lv_at hl 0 rfl) ?_
      refine lv_aload_n hx hb dX1_lacksTree_5 rfl (lv_at hl 2 rfl) ?_
      refine g_get (v := .int (nI (G 8 1))) C0 X kX1 0 2 tb37 rfl rfl rfl dX1_lacksTree_6 ?_
      refine g_icmp_ge (x := i) (y := G 8 1) (tgt := 52) C0 (by omega) (by omega) dX1_lacksTree_9 rfl (fun c1 => ?_) (fun c2 => ?_)
      · refine g_iconst (n := 0) C0 rfl dX1_lacksTree_52 ?_
        refine lv_istore_n (lv' := [(2, .int (nI 0)), (1, .int (nI la)), (0, .ref (h 0))]) hx hb dX1_lacksTree_53 rfl hl (by decide) rfl (fun ls hl => ?_)
        have J54 : ∀ (fz : Nat) (k lb : Nat), G 8 3 - k < fz → ∀ (hk9 : k ≤ G 8 3) (hlb : lb = rb (!(ball (fun i => decide (G 1 i < G 8 0) && decide (G 2 i < G 8 0)) (G 8 1) && ball (fun k => decide (G 6 k < G 8 0)) k))) (H : Heap) (locs : List Loc) (ls : Array Slot), Hx D zA zs H locs (gW tk h G d e) → lv_has ls 3 [(2, .int (nI k)), (1, .int (nI lb)), (0, .ref (h 0))] → W zp l ze ⟨2, 0, 0, 43⟩ zs zm za zb zt zc H locs 0 0 zQ (F0 zm 54 ls []) := by
          intro fz
          induction fz with
          | zero => intro k lb hz; exact absurd hz (Nat.not_lt_zero _)
          | succ fz ih54 =>
            intro k lb hz54 hk9 hlb H locs ls X hl
            refine lv_iload_n hx hb dX1_lacksTree_54 rfl (lv_at hl 0 rfl) ?_
            refine lv_aload_n hx hb dX1_lacksTree_55 rfl (lv_at hl 2 rfl) ?_
            refine g_get (v := .int (nI (G 8 3))) C0 X kX1 0 8 tb51 rfl rfl rfl dX1_lacksTree_56 ?_
            refine g_icmp_ge (x := k) (y := G 8 3) (tgt := 89) C0 (by omega) (by omega) dX1_lacksTree_59 rfl (fun c3 => ?_) (fun c4 => ?_)
            · refine lv_iload_n hx hb dX1_lacksTree_89 rfl (lv_at hl 1 rfl) ?_
              refine g_top (y := nI (rb (lackB G))) (by rw [hlb, show k = G 8 3 by omega]; rfl) ?_
              exact hE (v := lackB G) () rfl trivial X dX1_lacksTree_90
            · have hr := hd7 k (by omega)
              refine lv_iload_n hx hb dX1_lacksTree_62 rfl (lv_at hl 1 rfl) ?_
              refine lv_aload_n hx hb dX1_lacksTree_63 rfl (lv_at hl 2 rfl) ?_
              refine lv_aload_n hx hb dX1_lacksTree_64 rfl (lv_at hl 2 rfl) ?_
              refine g_get (v := .ref (h 6)) C0 X kX1 0 10 tb56 rfl rfl rfl dX1_lacksTree_65 ?_
              refine lv_iload_n hx hb dX1_lacksTree_68 rfl (lv_at hl 0 rfl) ?_
              refine g_iald (v := nI (G 6 k)) (i := k) C0 X 6 0 rfl rfl (by omega) rfl rfl dX1_lacksTree_69 ?_
              refine g_callV (As := [.int (nI (G 6 k))]) (rest := [.int (nI lb)]) (wr := []) (C0.sz hl) X (c_X1_hasTree l D tk h G d e (nI (G 6 k)) (by first | assumption | omega)) ⟨tb387, tb390, tb2, ⟨by decide, by decide, rfl⟩, rfl, rfl, Nat.le_of_ble_eq_true rfl, Nat.le_of_ble_eq_true rfl⟩ tb388 tb389 0 1 rfl rfl rfl rfl [0, 1, 2, 3, 4, 5, 6, 7, 8, 9] [] rfl rfl rfl rfl rfl (Nat.le_of_ble_eq_true rfl) ⟨Nat.le_of_ble_eq_true rfl, Nat.le_of_ble_eq_true rfl⟩ dX1_lacksTree_70 (fun _ H locs _ X => ?_)
              have X : Hx D zA zs H locs (gW tk h G d e) := X
              refine g_top (y := nI (rb (decide (G 6 k < G 8 0)))) (by rw [ix_nI (by omega)]) ?_
              refine g_ifneB (x := (decide (G 6 k < G 8 0))) (tgt := 80) C0 dX1_lacksTree_73 rfl (fun c5 => ?_) (fun c6 => ?_)
              · refine g_iconst (n := 0) C0 rfl dX1_lacksTree_80 ?_
                refine g_ior (n := lb ||| 0) C0 rfl dX1_lacksTree_81 ?_
                refine lv_istore_n (lv' := [(1, .int (nI (lb ||| 0))), (2, .int (nI k)), (0, .ref (h 0))]) hx hb dX1_lacksTree_82 rfl hl (by decide) rfl (fun ls hl => ?_)
                refine g_iinc (j := 1) (z := k + 1) (lv' := [(2, .int (nI (k + 1))), (1, .int (nI (lb ||| 0))), (0, .ref (h 0))]) C0 rfl (by first | rfl | omega) dX1_lacksTree_83 hl (k := 1) rfl (by decide) rfl (fun ls hl => ?_)
                refine lv_goto (tgt := 54) hx hb dX1_lacksTree_86 (by decide) ?_
                exact ih54 (k + 1) (lb ||| 0) (by omega) (by omega) (by exact lk2_0 (P := (fun k => decide (G 6 k < G 8 0))) hlb c5) H locs ls X (lv_sub hl [0, 1, 2] rfl)
              · refine g_iconst (n := 1) C0 rfl dX1_lacksTree_76 ?_
                refine lv_goto (tgt := 81) hx hb dX1_lacksTree_77 (by decide) ?_
                refine g_ior (n := lb ||| 1) C0 rfl dX1_lacksTree_81 ?_
                refine lv_istore_n (lv' := [(1, .int (nI (lb ||| 1))), (2, .int (nI k)), (0, .ref (h 0))]) hx hb dX1_lacksTree_82 rfl hl (by decide) rfl (fun ls hl => ?_)
                refine g_iinc (j := 1) (z := k + 1) (lv' := [(2, .int (nI (k + 1))), (1, .int (nI (lb ||| 1))), (0, .ref (h 0))]) C0 rfl (by first | rfl | omega) dX1_lacksTree_83 hl (k := 1) rfl (by decide) rfl (fun ls hl => ?_)
                refine lv_goto (tgt := 54) hx hb dX1_lacksTree_86 (by decide) ?_
                exact ih54 (k + 1) (lb ||| 1) (by omega) (by omega) (by exact lk2_1 (P := (fun k => decide (G 6 k < G 8 0))) hlb c6) H locs ls X (lv_sub hl [0, 1, 2] rfl)
        exact J54 ((G 8 3 - 0) + 1) 0 la (Nat.lt_succ_self _) (by omega) (by rw [hla, show i = G 8 1 by omega]; exact congrArg (fun z => rb (!z)) (Bool.and_true _).symm) H locs ls X (lv_sub hl [0, 1, 2] rfl)
      · have hr := hd6 i (by omega)
        refine lv_iload_n hx hb dX1_lacksTree_12 rfl (lv_at hl 1 rfl) ?_
        refine lv_aload_n hx hb dX1_lacksTree_13 rfl (lv_at hl 2 rfl) ?_
        refine lv_aload_n hx hb dX1_lacksTree_14 rfl (lv_at hl 2 rfl) ?_
        refine g_get (v := .ref (h 2)) C0 X kX1 0 3 tb40 rfl rfl rfl dX1_lacksTree_15 ?_
        refine lv_iload_n hx hb dX1_lacksTree_18 rfl (lv_at hl 0 rfl) ?_
        refine g_iald (v := nI (G 1 i)) (i := i) C0 X 2 0 rfl rfl (by omega) rfl rfl dX1_lacksTree_19 ?_
        refine g_callV (As := [.int (nI (G 1 i))]) (rest := [.int (nI la)]) (wr := []) (C0.sz hl) X (c_X1_hasTree l D tk h G d e (nI (G 1 i)) (by first | assumption | omega)) ⟨tb387, tb390, tb2, ⟨by decide, by decide, rfl⟩, rfl, rfl, Nat.le_of_ble_eq_true rfl, Nat.le_of_ble_eq_true rfl⟩ tb388 tb389 0 1 rfl rfl rfl rfl [0, 1, 2, 3, 4, 5, 6, 7, 8, 9] [] rfl rfl rfl rfl rfl (Nat.le_of_ble_eq_true rfl) ⟨Nat.le_of_ble_eq_true rfl, Nat.le_of_ble_eq_true rfl⟩ dX1_lacksTree_20 (fun _ H locs _ X => ?_)
        have X : Hx D zA zs H locs (gW tk h G d e) := X
        refine g_top (y := nI (rb (decide (G 1 i < G 8 0)))) (by rw [ix_nI (by omega)]) ?_
        refine g_ifeqB (x := (decide (G 1 i < G 8 0))) (tgt := 39) C0 dX1_lacksTree_23 rfl (fun c7 => ?_) (fun c8 => ?_)
        · refine g_iconst (n := 1) C0 rfl dX1_lacksTree_39 ?_
          refine lv_goto (tgt := 44) hx hb dX1_lacksTree_40 (by decide) ?_
          refine g_ior (n := la ||| 1) C0 rfl dX1_lacksTree_44 ?_
          refine lv_istore_n (lv' := [(1, .int (nI (la ||| 1))), (2, .int (nI i)), (0, .ref (h 0))]) hx hb dX1_lacksTree_45 rfl hl (by decide) rfl (fun ls hl => ?_)
          refine g_iinc (j := 1) (z := i + 1) (lv' := [(2, .int (nI (i + 1))), (1, .int (nI (la ||| 1))), (0, .ref (h 0))]) C0 rfl (by first | rfl | omega) dX1_lacksTree_46 hl (k := 1) rfl (by decide) rfl (fun ls hl => ?_)
          refine lv_goto (tgt := 4) hx hb dX1_lacksTree_49 (by decide) ?_
          exact ih4 (i + 1) (la ||| 1) (by omega) (by omega) (by exact lk_1 (P := (fun i => decide (G 1 i < G 8 0) && decide (G 2 i < G 8 0))) hla (by first | (show (decide (G 1 i < G 8 0) && decide (G 2 i < G 8 0)) = false; rw [c7]; rfl) | (show (decide (G 1 i < G 8 0) && decide (G 2 i < G 8 0)) = false; rw [c7, Bool.and_false]))) H locs ls X (lv_sub hl [0, 1, 2] rfl)
        · refine lv_aload_n hx hb dX1_lacksTree_26 rfl (lv_at hl 2 rfl) ?_
          refine lv_aload_n hx hb dX1_lacksTree_27 rfl (lv_at hl 2 rfl) ?_
          refine g_get (v := .ref (h 3)) C0 X kX1 0 4 tb42 rfl rfl rfl dX1_lacksTree_28 ?_
          refine lv_iload_n hx hb dX1_lacksTree_31 rfl (lv_at hl 0 rfl) ?_
          refine g_iald (v := nI (G 2 i)) (i := i) C0 X 3 0 rfl rfl (by omega) rfl rfl dX1_lacksTree_32 ?_
          refine g_callV (As := [.int (nI (G 2 i))]) (rest := [.int (nI la)]) (wr := []) (C0.sz hl) X (c_X1_hasTree l D tk h G d e (nI (G 2 i)) (by first | assumption | omega)) ⟨tb387, tb390, tb2, ⟨by decide, by decide, rfl⟩, rfl, rfl, Nat.le_of_ble_eq_true rfl, Nat.le_of_ble_eq_true rfl⟩ tb388 tb389 0 1 rfl rfl rfl rfl [0, 1, 2, 3, 4, 5, 6, 7, 8, 9] [] rfl rfl rfl rfl rfl (Nat.le_of_ble_eq_true rfl) ⟨Nat.le_of_ble_eq_true rfl, Nat.le_of_ble_eq_true rfl⟩ dX1_lacksTree_33 (fun _ H locs _ X => ?_)
          have X : Hx D zA zs H locs (gW tk h G d e) := X
          refine g_top (y := nI (rb (decide (G 2 i < G 8 0)))) (by rw [ix_nI (by omega)]) ?_
          refine g_ifneB (x := (decide (G 2 i < G 8 0))) (tgt := 43) C0 dX1_lacksTree_36 rfl (fun c9 => ?_) (fun c10 => ?_)
          · refine g_iconst (n := 0) C0 rfl dX1_lacksTree_43 ?_
            refine g_ior (n := la ||| 0) C0 rfl dX1_lacksTree_44 ?_
            refine lv_istore_n (lv' := [(1, .int (nI (la ||| 0))), (2, .int (nI i)), (0, .ref (h 0))]) hx hb dX1_lacksTree_45 rfl hl (by decide) rfl (fun ls hl => ?_)
            refine g_iinc (j := 1) (z := i + 1) (lv' := [(2, .int (nI (i + 1))), (1, .int (nI (la ||| 0))), (0, .ref (h 0))]) C0 rfl (by first | rfl | omega) dX1_lacksTree_46 hl (k := 1) rfl (by decide) rfl (fun ls hl => ?_)
            refine lv_goto (tgt := 4) hx hb dX1_lacksTree_49 (by decide) ?_
            exact ih4 (i + 1) (la ||| 0) (by omega) (by omega) (by exact lk_0 (P := (fun i => decide (G 1 i < G 8 0) && decide (G 2 i < G 8 0))) hla (by show (decide (G 1 i < G 8 0) && decide (G 2 i < G 8 0)) = true; rw [c8, c9]; rfl)) H locs ls X (lv_sub hl [0, 1, 2] rfl)
          · refine g_iconst (n := 1) C0 rfl dX1_lacksTree_39 ?_
            refine lv_goto (tgt := 44) hx hb dX1_lacksTree_40 (by decide) ?_
            refine g_ior (n := la ||| 1) C0 rfl dX1_lacksTree_44 ?_
            refine lv_istore_n (lv' := [(1, .int (nI (la ||| 1))), (2, .int (nI i)), (0, .ref (h 0))]) hx hb dX1_lacksTree_45 rfl hl (by decide) rfl (fun ls hl => ?_)
            refine g_iinc (j := 1) (z := i + 1) (lv' := [(2, .int (nI (i + 1))), (1, .int (nI (la ||| 1))), (0, .ref (h 0))]) C0 rfl (by first | rfl | omega) dX1_lacksTree_46 hl (k := 1) rfl (by decide) rfl (fun ls hl => ?_)
            refine lv_goto (tgt := 4) hx hb dX1_lacksTree_49 (by decide) ?_
            exact ih4 (i + 1) (la ||| 1) (by omega) (by omega) (by exact lk_1 (P := (fun i => decide (G 1 i < G 8 0) && decide (G 2 i < G 8 0))) hla (by first | (show (decide (G 1 i < G 8 0) && decide (G 2 i < G 8 0)) = false; rw [c10]; rfl) | (show (decide (G 1 i < G 8 0) && decide (G 2 i < G 8 0)) = false; rw [c10, Bool.and_false]))) H locs ls X (lv_sub hl [0, 1, 2] rfl)
  exact J4 ((G 8 1 - 0) + 1) 0 0 (Nat.lt_succ_self _) (by omega) (by rfl) H locs ls X (lv_sub hl [0, 1, 2] rfl)
set_option maxHeartbeats 4000000 in
set_option maxRecDepth 100000 in
theorem c_X2_readWhole (l : Launch) (D : va_G) (tk : Nat → ClassId) (sK sV : Nat → Nat) (a ta tb : Nat) (hD : Nat → Nat) (K : Nat → Nat → Nat) (wt : Bool) (n : Nat) (t : Nat → Nat) (G : Nat → Nat → Nat) (d e : Nat → Nat) (hn : n ≤ 160) (ht8 : ∀ j, j < n → t j < 128) (hk3 : K 0 2 ≤ 3) : MS l yX2_readWhole cX2_readWhole 2 (some .int) ⟨6, 0, 0, 128⟩ D (TYS tk) sK sV [.ref a] (rV a ta hD K wt ++ tW tk ta tb n t ++ gW tk hD G d e) (fun (u : Nat) => u ≤ n ∧ (u = n ∨ (cIt t n (rst (K 0)) (clr G) u).1 0 ≠ 0 ∨ (cIt t n (rst (K 0)) (clr G) u).1 2 = 3) ∧ ∀ j, j < u → (cIt t n (rst (K 0)) (clr G) j).1 0 = 0 ∧ (cIt t n (rst (K 0)) (clr G) j).1 2 ≠ 3) (fun u => some (.int (nI u))) (fun u => rV a ta hD (u3 K 0 (cWR t n (K 0) G u)) ((cIt t n (rst (K 0)) (clr G) u).2.1) ++ tW tk ta tb n t ++ gW tk hD ((cIt t n (rst (K 0)) (clr G) u).2.2) d e) 0 0 := by
  refine MS.of_i (by decide) rfl ?_
  intro zp ze zs zm za zb zt zc zA zQ ls C0 hnm S0 X hl hE
  have hx := C0.1
  have hb := C0.2.1
  have ht := C0.2.2.2.2.1
  have X : Hx D zA zs zs.heap [] (rV a ta hD K wt ++ tW tk ta tb n t ++ gW tk hD G d e) := X
  have hl : lv_has ls 2 [(0, .ref a)] := hl
  obtain ⟨H, hH⟩ : ∃ H, H = zs.heap := ⟨_, rfl⟩
  rw [← hH] at X ⊢
  obtain ⟨locs, hlo⟩ : ∃ L : List Loc, L = [] := ⟨_, rfl⟩
  rw [← hlo] at X ⊢
  refine lv_aload_n hx hb dX2_readWhole_0 rfl (lv_at hl 0 rfl) ?_
  refine g_iconst (n := 0) C0 rfl dX2_readWhole_1 ?_
  refine g_put (v := .int (nI 0)) (ft := .int) C0 X kX2 0 2 tb136 rfl rfl rfl rfl rfl rfl rfl dX2_readWhole_2 (fun H locs X => ?_)
  have X : Hx D zA zs H locs (rV a ta hD (u2 K 0 0 0) wt ++ tW tk ta tb n t ++ gW tk hD G d e) := X
  refine lv_aload_n hx hb dX2_readWhole_5 rfl (lv_at hl 0 rfl) ?_
  refine g_iconst (n := 0) C0 rfl dX2_readWhole_6 ?_
  refine g_put (v := .int (nI 0)) (ft := .int) C0 X kX2 0 3 tb138 rfl rfl rfl rfl rfl rfl rfl dX2_readWhole_7 (fun H locs X => ?_)
  have X : Hx D zA zs H locs (rV a ta hD (u2 (u2 K 0 0 0) 0 1 0) wt ++ tW tk ta tb n t ++ gW tk hD G d e) := X
  refine lv_aload_n hx hb dX2_readWhole_10 rfl (lv_at hl 0 rfl) ?_
  refine g_iconst (n := 0) C0 rfl dX2_readWhole_11 ?_
  refine g_put (v := .int (nI 0)) (ft := .int) C0 X kX2 0 6 tb142 rfl rfl rfl rfl rfl rfl rfl dX2_readWhole_12 (fun H locs X => ?_)
  have X : Hx D zA zs H locs (rV a ta hD (u2 (u2 (u2 K 0 0 0) 0 1 0) 0 4 0) wt ++ tW tk ta tb n t ++ gW tk hD G d e) := X
  refine lv_aload_n hx hb dX2_readWhole_15 rfl (lv_at hl 0 rfl) ?_
  refine g_iconst (n := 0) C0 rfl dX2_readWhole_16 ?_
  refine g_put (v := .int (nI 0)) (ft := .boolean) C0 X kX2 0 7 tb143 rfl rfl rfl rfl (by decide) (by decide) rfl dX2_readWhole_17 (fun H locs X => ?_)
  have X : Hx D zA zs H locs (rV a ta hD (u2 (u2 (u2 K 0 0 0) 0 1 0) 0 4 0) false ++ tW tk ta tb n t ++ gW tk hD G d e) := X
  refine lv_aload_n hx hb dX2_readWhole_20 rfl (lv_at hl 0 rfl) ?_
  refine g_get (v := .ref (hD 0)) C0 X kX2 0 1 tb134 rfl rfl rfl dX2_readWhole_21 ?_
  refine g_callV (As := []) (rest := []) (wr := (rV a ta hD (u2 (u2 (u2 K 0 0 0) 0 1 0) 0 4 0) false ++ tW tk ta tb n t)) (C0.sz hl) X (c_X1_clear l D tk hD G d e) ⟨tb255, tb258, tb2, ⟨by decide, by decide, rfl⟩, rfl, rfl, Nat.le_of_ble_eq_true rfl, Nat.le_of_ble_eq_true rfl⟩ tb256 tb257 3 1 rfl rfl rfl rfl [3, 4, 5, 6, 7, 8, 9, 10, 11, 12] [0, 1, 2] rfl rfl rfl rfl rfl (Nat.le_of_ble_eq_true rfl) ⟨Nat.le_of_ble_eq_true rfl, Nat.le_of_ble_eq_true rfl⟩ dX2_readWhole_24 (fun _ H locs _ X => ?_)
  have X : Hx D zA zs H locs (rV a ta hD (u2 (u2 (u2 K 0 0 0) 0 1 0) 0 4 0) false ++ tW tk ta tb n t ++ gW tk hD (u2 (u2 (u2 (u2 (u2 G 8 0 0) 8 1 0) 4 0 0) 8 2 0) 8 3 0) d e) := X
  refine lv_aload_n hx hb dX2_readWhole_27 rfl (lv_at hl 0 rfl) ?_
  refine g_callV (As := []) (rest := []) (wr := (gW tk hD (u2 (u2 (u2 (u2 (u2 G 8 0 0) 8 1 0) 4 0 0) 8 2 0) 8 3 0) d e)) (C0.sz hl) X (c_X2_readToken l D tk a ta tb hD (u2 (u2 (u2 K 0 0 0) 0 1 0) 0 4 0) false n t (by first | assumption | omega) (by first | assumption | omega) (by exact Nat.zero_le _) (by exact Nat.zero_le _)) ⟨tb259, tb262, tb4, ⟨by decide, by decide, rfl⟩, rfl, rfl, Nat.le_of_ble_eq_true rfl, Nat.le_of_ble_eq_true rfl⟩ tb261 tbs0 0 2 rfl rfl rfl rfl [0, 1, 2] [3, 4, 5, 6, 7, 8, 9, 10, 11, 12] rfl rfl rfl rfl rfl (Nat.le_of_ble_eq_true rfl) ⟨Nat.le_of_ble_eq_true rfl, Nat.le_of_ble_eq_true rfl⟩ dX2_readWhole_28 (fun _ H locs _ X => ?_)
  have X : Hx D zA zs H locs (gW tk hD (u2 (u2 (u2 (u2 (u2 G 8 0 0) 8 1 0) 4 0 0) 8 2 0) 8 3 0) d e ++ rV a ta hD (u3 K 0 (cTok t n ((u2 (u2 (u2 K 0 0 0) 0 1 0) 0 4 0) 0))) false ++ tW tk ta tb n t) := X
  have X : Hx D zA zs H locs (gW tk hD ((cIt t n (rst (K 0)) (clr G) 0).2.2) d e ++ rV a ta hD (u3 K 0 ((cIt t n (rst (K 0)) (clr G) 0).1)) ((cIt t n (rst (K 0)) (clr G) 0).2.1) ++ tW tk ta tb n t) := X
  have X : Hx D zA zs H locs (rV a ta hD (u3 K 0 ((cIt t n (rst (K 0)) (clr G) 0).1)) ((cIt t n (rst (K 0)) (clr G) 0).2.1) ++ tW tk ta tb n t ++ gW tk hD ((cIt t n (rst (K 0)) (clr G) 0).2.2) d e) := X.sub [10, 11, 12, 0, 1, 2, 3, 4, 5, 6, 7, 8, 9] rfl rfl
  refine g_iconst (n := 0) C0 rfl dX2_readWhole_31 ?_
  refine lv_istore_n (lv' := [(1, .int (nI 0)), (0, .ref a)]) hx hb dX2_readWhole_32 rfl hl (by decide) rfl (fun ls hl => ?_)
  have J33 : ∀ (fz : Nat) (k : Nat), n - k < fz → ∀ (hk : k ≤ n) (hpre : ∀ j, j < k → (cIt t n (rst (K 0)) (clr G) j).1 0 = 0 ∧ (cIt t n (rst (K 0)) (clr G) j).1 2 ≠ 3) (H : Heap) (locs : List Loc) (ls : Array Slot), Hx D zA zs H locs (rV a ta hD (u3 K 0 ((cIt t n (rst (K 0)) (clr G) k).1)) ((cIt t n (rst (K 0)) (clr G) k).2.1) ++ tW tk ta tb n t ++ gW tk hD ((cIt t n (rst (K 0)) (clr G) k).2.2) d e) → lv_has ls 2 [(1, .int (nI k)), (0, .ref a)] → W zp l ze ⟨6, 0, 0, 128⟩ zs zm za zb zt zc H locs 0 0 zQ (F0 zm 33 ls []) := by
    intro fz
    induction fz with
    | zero => intro k hz; exact absurd hz (Nat.not_lt_zero _)
    | succ fz ih33 =>
      intro k hz33 hk hpre H locs ls X hl
      refine lv_iload_n hx hb dX2_readWhole_33 rfl (lv_at hl 0 rfl) ?_
      have hw := cIt_w (t := t) (n := n) (r := K 0) (G := G) hk3 k
      obtain ⟨hwI, hwD⟩ := hw
      have hb6 := hwI.2.2.2.1
      have hb3 := hwI.2.2.2.2.1
      refine lv_aload_n hx hb dX2_readWhole_34 rfl (lv_at hl 1 rfl) ?_
      refine g_get (v := .ref ta) C0 X kX2 0 0 tb132 rfl rfl rfl dX2_readWhole_35 ?_
      refine g_get (v := .int (nI n)) C0 X kX5 1 0 tb120 rfl rfl rfl dX2_readWhole_38 ?_
      refine g_icmp_ge (x := k) (y := n) (tgt := 69) C0 (by omega) (by omega) dX2_readWhole_41 rfl (fun c1 => ?_) (fun c2 => ?_)
      · refine lv_aload_n hx hb dX2_readWhole_69 rfl (lv_at hl 1 rfl) ?_
        refine g_get (v := .ref (hD 0)) C0 X kX2 0 1 tb134 rfl rfl rfl dX2_readWhole_70 ?_
        refine g_callV (As := []) (rest := []) (wr := (rV a ta hD (u3 K 0 ((cIt t n (rst (K 0)) (clr G) k).1)) ((cIt t n (rst (K 0)) (clr G) k).2.1) ++ tW tk ta tb n t)) (C0.sz hl) X (c_X1_lacksTree l D tk hD ((cIt t n (rst (K 0)) (clr G) k).2.2) d e (by exact hwD)) ⟨tb383, tb386, tb2, ⟨by decide, by decide, rfl⟩, rfl, rfl, Nat.le_of_ble_eq_true rfl, Nat.le_of_ble_eq_true rfl⟩ tb384 tb385 3 1 rfl rfl rfl rfl [3, 4, 5, 6, 7, 8, 9, 10, 11, 12] [0, 1, 2] rfl rfl rfl rfl rfl (Nat.le_of_ble_eq_true rfl) ⟨Nat.le_of_ble_eq_true rfl, Nat.le_of_ble_eq_true rfl⟩ dX2_readWhole_73 (fun _ H locs _ X => ?_)
        have X : Hx D zA zs H locs (rV a ta hD (u3 K 0 ((cIt t n (rst (K 0)) (clr G) k).1)) ((cIt t n (rst (K 0)) (clr G) k).2.1) ++ tW tk ta tb n t ++ gW tk hD ((cIt t n (rst (K 0)) (clr G) k).2.2) d e) := X
        refine g_ifeqB (x := lackB ((cIt t n (rst (K 0)) (clr G) k).2.2)) (tgt := 85) C0 dX2_readWhole_76 rfl (fun c3 => ?_) (fun c4 => ?_)
        · refine lv_iload_n hx hb dX2_readWhole_85 rfl (lv_at hl 0 rfl) ?_
          exact hE (v := nI k) k rfl (by exact ⟨hk, Or.inl (by omega), hpre⟩) (X.to (by rw [show cWR t n (K 0) G k = (cIt t n (rst (K 0)) (clr G) k).1 from if_neg (by rw [c3]; decide)] <;> rfl)) dX2_readWhole_86
        · refine lv_aload_n hx hb dX2_readWhole_79 rfl (lv_at hl 1 rfl) ?_
          refine g_bipush (n := 6) C0 (by decide) dX2_readWhole_80 ?_
          refine g_callV (As := [.int (nI 6)]) (rest := []) (wr := (tW tk ta tb n t ++ gW tk hD ((cIt t n (rst (K 0)) (clr G) k).2.2) d e)) (C0.sz hl) X (c_X2_fail l D tk a ta hD (u3 K 0 ((cIt t n (rst (K 0)) (clr G) k).1)) ((cIt t n (rst (K 0)) (clr G) k).2.1) 6 (by exact hb6)) ⟨tb271, tb274, tb4, ⟨by decide, by decide, rfl⟩, rfl, rfl, Nat.le_of_ble_eq_true rfl, Nat.le_of_ble_eq_true rfl⟩ tb273 tbs3 0 2 rfl rfl rfl rfl [0] [1, 2, 3, 4, 5, 6, 7, 8, 9, 10, 11, 12] rfl rfl rfl rfl rfl (Nat.le_of_ble_eq_true rfl) ⟨Nat.le_of_ble_eq_true rfl, Nat.le_of_ble_eq_true rfl⟩ dX2_readWhole_82 (fun _ H locs _ X => ?_)
          have X : Hx D zA zs H locs (tW tk ta tb n t ++ gW tk hD ((cIt t n (rst (K 0)) (clr G) k).2.2) d e ++ rV a ta hD (u3 K 0 (cFail ((u3 K 0 ((cIt t n (rst (K 0)) (clr G) k).1)) 0) 6)) ((cIt t n (rst (K 0)) (clr G) k).2.1)) := X
          have X : Hx D zA zs H locs (rV a ta hD (u3 K 0 (cFail ((u3 K 0 ((cIt t n (rst (K 0)) (clr G) k).1)) 0) 6)) ((cIt t n (rst (K 0)) (clr G) k).2.1) ++ tW tk ta tb n t ++ gW tk hD ((cIt t n (rst (K 0)) (clr G) k).2.2) d e) := X.sub [12, 0, 1, 2, 3, 4, 5, 6, 7, 8, 9, 10, 11] rfl rfl
          refine lv_iload_n hx hb dX2_readWhole_85 rfl (lv_at hl 0 rfl) ?_
          exact hE (v := nI k) k rfl (by exact ⟨hk, Or.inl (by omega), hpre⟩) (X.to (by rw [show cWR t n (K 0) G k = cFail ((cIt t n (rst (K 0)) (clr G) k).1) 6 from if_pos c4] <;> rfl)) dX2_readWhole_86
      · refine lv_aload_n hx hb dX2_readWhole_44 rfl (lv_at hl 1 rfl) ?_
        refine g_get (v := .int (nI (((cIt t n (rst (K 0)) (clr G) k).1) 0))) C0 X kX2 0 2 tb136 rfl rfl rfl dX2_readWhole_45 ?_
        refine g_ifne (x := ((cIt t n (rst (K 0)) (clr G) k).1) 0) (tgt := 69) C0 (by omega) dX2_readWhole_48 rfl (fun c5 => ?_) (fun c6 => ?_)
        · refine lv_aload_n hx hb dX2_readWhole_69 rfl (lv_at hl 1 rfl) ?_
          refine g_get (v := .ref (hD 0)) C0 X kX2 0 1 tb134 rfl rfl rfl dX2_readWhole_70 ?_
          refine g_callV (As := []) (rest := []) (wr := (rV a ta hD (u3 K 0 ((cIt t n (rst (K 0)) (clr G) k).1)) ((cIt t n (rst (K 0)) (clr G) k).2.1) ++ tW tk ta tb n t)) (C0.sz hl) X (c_X1_lacksTree l D tk hD ((cIt t n (rst (K 0)) (clr G) k).2.2) d e (by exact hwD)) ⟨tb383, tb386, tb2, ⟨by decide, by decide, rfl⟩, rfl, rfl, Nat.le_of_ble_eq_true rfl, Nat.le_of_ble_eq_true rfl⟩ tb384 tb385 3 1 rfl rfl rfl rfl [3, 4, 5, 6, 7, 8, 9, 10, 11, 12] [0, 1, 2] rfl rfl rfl rfl rfl (Nat.le_of_ble_eq_true rfl) ⟨Nat.le_of_ble_eq_true rfl, Nat.le_of_ble_eq_true rfl⟩ dX2_readWhole_73 (fun _ H locs _ X => ?_)
          have X : Hx D zA zs H locs (rV a ta hD (u3 K 0 ((cIt t n (rst (K 0)) (clr G) k).1)) ((cIt t n (rst (K 0)) (clr G) k).2.1) ++ tW tk ta tb n t ++ gW tk hD ((cIt t n (rst (K 0)) (clr G) k).2.2) d e) := X
          refine g_ifeqB (x := lackB ((cIt t n (rst (K 0)) (clr G) k).2.2)) (tgt := 85) C0 dX2_readWhole_76 rfl (fun c7 => ?_) (fun c8 => ?_)
          · refine lv_iload_n hx hb dX2_readWhole_85 rfl (lv_at hl 0 rfl) ?_
            exact hE (v := nI k) k rfl (by exact ⟨hk, Or.inr (Or.inl (by omega)), hpre⟩) (X.to (by rw [show cWR t n (K 0) G k = (cIt t n (rst (K 0)) (clr G) k).1 from if_neg (by rw [c7]; decide)] <;> rfl)) dX2_readWhole_86
          · refine lv_aload_n hx hb dX2_readWhole_79 rfl (lv_at hl 1 rfl) ?_
            refine g_bipush (n := 6) C0 (by decide) dX2_readWhole_80 ?_
            refine g_callV (As := [.int (nI 6)]) (rest := []) (wr := (tW tk ta tb n t ++ gW tk hD ((cIt t n (rst (K 0)) (clr G) k).2.2) d e)) (C0.sz hl) X (c_X2_fail l D tk a ta hD (u3 K 0 ((cIt t n (rst (K 0)) (clr G) k).1)) ((cIt t n (rst (K 0)) (clr G) k).2.1) 6 (by exact hb6)) ⟨tb271, tb274, tb4, ⟨by decide, by decide, rfl⟩, rfl, rfl, Nat.le_of_ble_eq_true rfl, Nat.le_of_ble_eq_true rfl⟩ tb273 tbs3 0 2 rfl rfl rfl rfl [0] [1, 2, 3, 4, 5, 6, 7, 8, 9, 10, 11, 12] rfl rfl rfl rfl rfl (Nat.le_of_ble_eq_true rfl) ⟨Nat.le_of_ble_eq_true rfl, Nat.le_of_ble_eq_true rfl⟩ dX2_readWhole_82 (fun _ H locs _ X => ?_)
            have X : Hx D zA zs H locs (tW tk ta tb n t ++ gW tk hD ((cIt t n (rst (K 0)) (clr G) k).2.2) d e ++ rV a ta hD (u3 K 0 (cFail ((u3 K 0 ((cIt t n (rst (K 0)) (clr G) k).1)) 0) 6)) ((cIt t n (rst (K 0)) (clr G) k).2.1)) := X
            have X : Hx D zA zs H locs (rV a ta hD (u3 K 0 (cFail ((u3 K 0 ((cIt t n (rst (K 0)) (clr G) k).1)) 0) 6)) ((cIt t n (rst (K 0)) (clr G) k).2.1) ++ tW tk ta tb n t ++ gW tk hD ((cIt t n (rst (K 0)) (clr G) k).2.2) d e) := X.sub [12, 0, 1, 2, 3, 4, 5, 6, 7, 8, 9, 10, 11] rfl rfl
            refine lv_iload_n hx hb dX2_readWhole_85 rfl (lv_at hl 0 rfl) ?_
            exact hE (v := nI k) k rfl (by exact ⟨hk, Or.inr (Or.inl (by omega)), hpre⟩) (X.to (by rw [show cWR t n (K 0) G k = cFail ((cIt t n (rst (K 0)) (clr G) k).1) 6 from if_pos c8] <;> rfl)) dX2_readWhole_86
        · refine lv_aload_n hx hb dX2_readWhole_51 rfl (lv_at hl 1 rfl) ?_
          refine g_get (v := .int (nI (((cIt t n (rst (K 0)) (clr G) k).1) 2))) C0 X kX2 0 4 tb140 rfl rfl rfl dX2_readWhole_52 ?_
          refine g_iconst (n := 3) C0 rfl dX2_readWhole_55 ?_
          refine g_icmp_eq (x := ((cIt t n (rst (K 0)) (clr G) k).1) 2) (y := 3) (tgt := 69) C0 (by omega) (by omega) dX2_readWhole_56 rfl (fun c9 => ?_) (fun c10 => ?_)
          · refine lv_aload_n hx hb dX2_readWhole_69 rfl (lv_at hl 1 rfl) ?_
            refine g_get (v := .ref (hD 0)) C0 X kX2 0 1 tb134 rfl rfl rfl dX2_readWhole_70 ?_
            refine g_callV (As := []) (rest := []) (wr := (rV a ta hD (u3 K 0 ((cIt t n (rst (K 0)) (clr G) k).1)) ((cIt t n (rst (K 0)) (clr G) k).2.1) ++ tW tk ta tb n t)) (C0.sz hl) X (c_X1_lacksTree l D tk hD ((cIt t n (rst (K 0)) (clr G) k).2.2) d e (by exact hwD)) ⟨tb383, tb386, tb2, ⟨by decide, by decide, rfl⟩, rfl, rfl, Nat.le_of_ble_eq_true rfl, Nat.le_of_ble_eq_true rfl⟩ tb384 tb385 3 1 rfl rfl rfl rfl [3, 4, 5, 6, 7, 8, 9, 10, 11, 12] [0, 1, 2] rfl rfl rfl rfl rfl (Nat.le_of_ble_eq_true rfl) ⟨Nat.le_of_ble_eq_true rfl, Nat.le_of_ble_eq_true rfl⟩ dX2_readWhole_73 (fun _ H locs _ X => ?_)
            have X : Hx D zA zs H locs (rV a ta hD (u3 K 0 ((cIt t n (rst (K 0)) (clr G) k).1)) ((cIt t n (rst (K 0)) (clr G) k).2.1) ++ tW tk ta tb n t ++ gW tk hD ((cIt t n (rst (K 0)) (clr G) k).2.2) d e) := X
            refine g_ifeqB (x := lackB ((cIt t n (rst (K 0)) (clr G) k).2.2)) (tgt := 85) C0 dX2_readWhole_76 rfl (fun c11 => ?_) (fun c12 => ?_)
            · refine lv_iload_n hx hb dX2_readWhole_85 rfl (lv_at hl 0 rfl) ?_
              exact hE (v := nI k) k rfl (by exact ⟨hk, Or.inr (Or.inr (by omega)), hpre⟩) (X.to (by rw [show cWR t n (K 0) G k = (cIt t n (rst (K 0)) (clr G) k).1 from if_neg (by rw [c11]; decide)] <;> rfl)) dX2_readWhole_86
            · refine lv_aload_n hx hb dX2_readWhole_79 rfl (lv_at hl 1 rfl) ?_
              refine g_bipush (n := 6) C0 (by decide) dX2_readWhole_80 ?_
              refine g_callV (As := [.int (nI 6)]) (rest := []) (wr := (tW tk ta tb n t ++ gW tk hD ((cIt t n (rst (K 0)) (clr G) k).2.2) d e)) (C0.sz hl) X (c_X2_fail l D tk a ta hD (u3 K 0 ((cIt t n (rst (K 0)) (clr G) k).1)) ((cIt t n (rst (K 0)) (clr G) k).2.1) 6 (by exact hb6)) ⟨tb271, tb274, tb4, ⟨by decide, by decide, rfl⟩, rfl, rfl, Nat.le_of_ble_eq_true rfl, Nat.le_of_ble_eq_true rfl⟩ tb273 tbs3 0 2 rfl rfl rfl rfl [0] [1, 2, 3, 4, 5, 6, 7, 8, 9, 10, 11, 12] rfl rfl rfl rfl rfl (Nat.le_of_ble_eq_true rfl) ⟨Nat.le_of_ble_eq_true rfl, Nat.le_of_ble_eq_true rfl⟩ dX2_readWhole_82 (fun _ H locs _ X => ?_)
              have X : Hx D zA zs H locs (tW tk ta tb n t ++ gW tk hD ((cIt t n (rst (K 0)) (clr G) k).2.2) d e ++ rV a ta hD (u3 K 0 (cFail ((u3 K 0 ((cIt t n (rst (K 0)) (clr G) k).1)) 0) 6)) ((cIt t n (rst (K 0)) (clr G) k).2.1)) := X
              have X : Hx D zA zs H locs (rV a ta hD (u3 K 0 (cFail ((u3 K 0 ((cIt t n (rst (K 0)) (clr G) k).1)) 0) 6)) ((cIt t n (rst (K 0)) (clr G) k).2.1) ++ tW tk ta tb n t ++ gW tk hD ((cIt t n (rst (K 0)) (clr G) k).2.2) d e) := X.sub [12, 0, 1, 2, 3, 4, 5, 6, 7, 8, 9, 10, 11] rfl rfl
              refine lv_iload_n hx hb dX2_readWhole_85 rfl (lv_at hl 0 rfl) ?_
              exact hE (v := nI k) k rfl (by exact ⟨hk, Or.inr (Or.inr (by omega)), hpre⟩) (X.to (by rw [show cWR t n (K 0) G k = cFail ((cIt t n (rst (K 0)) (clr G) k).1) 6 from if_pos c12] <;> rfl)) dX2_readWhole_86
          · refine lv_aload_n hx hb dX2_readWhole_59 rfl (lv_at hl 1 rfl) ?_
            refine g_callVs (As := []) (rest := []) (wr := []) (C0.sz hl) S0 X (c_X2_readLine l D tk sK sV a ta tb hD (u3 K 0 ((cIt t n (rst (K 0)) (clr G) k).1)) ((cIt t n (rst (K 0)) (clr G) k).2.1) n t ((cIt t n (rst (K 0)) (clr G) k).2.2) d e (by exact hn) (by exact ht8) (by exact hwI) (by exact hwD) (by show (cIt t n (rst (K 0)) (clr G) k).1 0 = 0; omega)) ⟨tb275, tb278, tb4, ⟨by decide, by decide, rfl⟩, rfl, rfl, Nat.le_of_ble_eq_true rfl, Nat.le_of_ble_eq_true rfl⟩ tb277 tbs4 0 2 rfl rfl rfl rfl [0, 1, 2, 3, 4, 5, 6, 7, 8, 9, 10, 11, 12] [] rfl rfl rfl rfl rfl (Nat.le_of_ble_eq_true rfl) ⟨Nat.le_of_ble_eq_true rfl, Nat.le_of_ble_eq_true rfl⟩ dX2_readWhole_60 (fun _ H locs _ X => ?_)
            have X : Hx D zA zs H locs (rV a ta hD (u3 K 0 (cLineR t n ((u3 K 0 ((cIt t n (rst (K 0)) (clr G) k).1)) 0) ((cIt t n (rst (K 0)) (clr G) k).2.1) ((cIt t n (rst (K 0)) (clr G) k).2.2))) (cLineW t ((u3 K 0 ((cIt t n (rst (K 0)) (clr G) k).1)) 0) ((cIt t n (rst (K 0)) (clr G) k).2.1)) ++ tW tk ta tb n t ++ gW tk hD (cLineG t n ((u3 K 0 ((cIt t n (rst (K 0)) (clr G) k).1)) 0) ((cIt t n (rst (K 0)) (clr G) k).2.1) ((cIt t n (rst (K 0)) (clr G) k).2.2)) d e) := X
            refine g_iinc (j := 1) (z := k + 1) (lv' := [(1, .int (nI (k + 1))), (0, .ref a)]) C0 rfl (by first | rfl | omega) dX2_readWhole_63 hl (k := 0) rfl (by decide) rfl (fun ls hl => ?_)
            refine lv_goto (tgt := 33) hx hb dX2_readWhole_66 (by decide) ?_
            exact ih33 (k + 1) (by omega) (by omega) (by intro j hj; exact (Decidable.em (j = k)).elim (fun e => by rw [e]; exact ⟨by omega, by omega⟩) (fun e => hpre j (by omega))) H locs ls X (lv_sub hl [0, 1] rfl)
  exact J33 ((n - 0) + 1) 0 (Nat.lt_succ_self _) (by omega) (by intro j hj; exact absurd hj (Nat.not_lt_zero j)) H locs ls X (lv_sub hl [0, 1] rfl)
set_option maxHeartbeats 4000000 in
set_option maxRecDepth 100000 in
theorem c_X6_text (l : Launch) (D : va_G) (tk : Nat → ClassId) (sK sV : Nat → Nat) (a : Nat) (hL hT : Nat → Nat) (im bs rd : Nat) (hS : Nat → Nat) (sh kb rf : Nat) (ta tb : Nat) (hD : Nat → Nat) (K : Nat → Nat → Nat) (wt : Bool) (n : Nat) (t : Nat → Nat) (D0 : Nat → Nat → Nat) (dd de : Nat → Nat) (G : Nat → Nat → Nat) (d e : Nat → Nat) (sn : Nat) (pl lo le : Nat → Nat) (hn : n ≤ 160) (ht8 : ∀ j, j < n → t j < 128) (hk3 : K 0 2 ≤ 3) : MS l yX6_text cX6_text 2 (some .int) ⟨7, 0, 0, 149⟩ D (TYS tk) sK sV [.ref a] (lW a hL hT im bs rd hS sh kb rf ++ rV rd ta hD K wt ++ tW tk ta tb n t ++ gW tk hD D0 dd de ++ gW tk hL G d e ++ sW tk hS sn pl lo le) (fun (u : Nat) => u ≤ n ∧ (u = n ∨ (cIt t n (rst (K 0)) (clr D0) u).1 0 ≠ 0 ∨ (cIt t n (rst (K 0)) (clr D0) u).1 2 = 3) ∧ ∀ j, j < u → (cIt t n (rst (K 0)) (clr D0) j).1 0 = 0 ∧ (cIt t n (rst (K 0)) (clr D0) j).1 2 ≠ 3) (fun u => some (.int (if cWR t n (K 0) D0 u 0 = 0 then nI u else -10 - nI (cWR t n (K 0) D0 u 1)))) (fun u => lW a hL hT im bs rd hS sh (if cWR t n (K 0) D0 u 0 = 0 then 0 else kb) rf ++ rV rd ta hD (u3 K 0 (cWR t n (K 0) D0 u)) ((cIt t n (rst (K 0)) (clr D0) u).2.1) ++ tW tk ta tb 0 t ++ gW tk hD ((cIt t n (rst (K 0)) (clr D0) u).2.2) dd de ++ gW tk hL (if cWR t n (K 0) D0 u 0 = 0 then (cIt t n (rst (K 0)) (clr D0) u).2.2 else G) d e ++ sW tk hS (if cWR t n (K 0) D0 u 0 = 0 then 0 else sn) pl lo le) 0 0 := by
  refine MS.of_i (by decide) rfl ?_
  intro zp ze zs zm za zb zt zc zA zQ ls C0 hnm S0 X hl hE
  have hx := C0.1
  have hb := C0.2.1
  have ht := C0.2.2.2.2.1
  have X : Hx D zA zs zs.heap [] (lW a hL hT im bs rd hS sh kb rf ++ rV rd ta hD K wt ++ tW tk ta tb n t ++ gW tk hD D0 dd de ++ gW tk hL G d e ++ sW tk hS sn pl lo le) := X
  have hl : lv_has ls 2 [(0, .ref a)] := hl
  obtain ⟨H, hH⟩ : ∃ H, H = zs.heap := ⟨_, rfl⟩
  rw [← hH] at X ⊢
  obtain ⟨locs, hlo⟩ : ∃ L : List Loc, L = [] := ⟨_, rfl⟩
  rw [← hlo] at X ⊢
  refine lv_aload_n hx hb dX6_text_0 rfl (lv_at hl 0 rfl) ?_
  refine g_get (v := .ref rd) C0 X kX6 0 4 tb204 rfl rfl rfl dX6_text_1 ?_
  refine g_callVs (As := []) (rest := []) (wr := (lW a hL hT im bs rd hS sh kb rf ++ gW tk hL G d e ++ sW tk hS sn pl lo le)) (C0.sz hl) S0 X (c_X2_readWhole l D tk sK sV rd ta tb hD K wt n t D0 dd de (by first | assumption | omega) (by first | assumption | omega) (by first | assumption | omega)) ⟨tb251, tb254, tb4, ⟨by decide, by decide, rfl⟩, rfl, rfl, Nat.le_of_ble_eq_true rfl, Nat.le_of_ble_eq_true rfl⟩ tb252 tb253 1 2 rfl rfl rfl rfl [1, 2, 3, 4, 5, 6, 7, 8, 9, 10, 11, 12, 13] [0, 14, 15, 16, 17, 18, 19, 20, 21, 22, 23, 24, 25, 26, 27] rfl rfl rfl rfl rfl (Nat.le_of_ble_eq_true rfl) ⟨Nat.le_of_ble_eq_true rfl, Nat.le_of_ble_eq_true rfl⟩ dX6_text_4 (fun uq1 H locs hp2 X => ?_)
  have X : Hx D zA zs H locs (lW a hL hT im bs rd hS sh kb rf ++ gW tk hL G d e ++ sW tk hS sn pl lo le ++ rV rd ta hD (u3 K 0 (cWR t n (K 0) D0 uq1)) ((cIt t n (rst (K 0)) (clr D0) uq1).2.1) ++ tW tk ta tb n t ++ gW tk hD ((cIt t n (rst (K 0)) (clr D0) uq1).2.2) dd de) := X
  have hp2 : uq1 ≤ n ∧ (uq1 = n ∨ (cIt t n (rst (K 0)) (clr D0) uq1).1 0 ≠ 0 ∨ (cIt t n (rst (K 0)) (clr D0) uq1).1 2 = 3) ∧ ∀ j, j < uq1 → (cIt t n (rst (K 0)) (clr D0) j).1 0 = 0 ∧ (cIt t n (rst (K 0)) (clr D0) j).1 2 ≠ 3 := hp2
  have X : Hx D zA zs H locs (lW a hL hT im bs rd hS sh kb rf ++ rV rd ta hD (u3 K 0 (cWR t n (K 0) D0 uq1)) ((cIt t n (rst (K 0)) (clr D0) uq1).2.1) ++ tW tk ta tb n t ++ gW tk hD ((cIt t n (rst (K 0)) (clr D0) uq1).2.2) dd de ++ gW tk hL G d e ++ sW tk hS sn pl lo le) := X.sub [0, 15, 16, 17, 18, 19, 20, 21, 22, 23, 24, 25, 26, 27, 1, 2, 3, 4, 5, 6, 7, 8, 9, 10, 11, 12, 13, 14] rfl rfl
  refine lv_istore_n (lv' := [(1, .int (nI uq1)), (0, .ref a)]) hx hb dX6_text_7 rfl hl (by decide) rfl (fun ls hl => ?_)
  refine lv_aload_n hx hb dX6_text_8 rfl (lv_at hl 1 rfl) ?_
  refine g_get (v := .ref rd) C0 X kX6 0 4 tb204 rfl rfl rfl dX6_text_9 ?_
  refine g_get (v := .ref ta) C0 X kX2 1 0 tb133 rfl rfl rfl dX6_text_12 ?_
  refine g_iconst (n := 0) C0 rfl dX6_text_15 ?_
  refine g_callV (As := [.int (nI 0)]) (rest := []) (wr := (lW a hL hT im bs rd hS sh kb rf ++ rV rd ta hD (u3 K 0 (cWR t n (K 0) D0 uq1)) ((cIt t n (rst (K 0)) (clr D0) uq1).2.1) ++ gW tk hD ((cIt t n (rst (K 0)) (clr D0) uq1).2.2) dd de ++ gW tk hL G d e ++ sW tk hS sn pl lo le)) (C0.sz hl) X (c_X5_keepFirst l D tk ta tb n t 0) ⟨tb243, tb246, tb5, ⟨by decide, by decide, rfl⟩, rfl, rfl, Nat.le_of_ble_eq_true rfl, Nat.le_of_ble_eq_true rfl⟩ tb244 tb245 2 5 rfl rfl rfl rfl [2, 3] [0, 1, 4, 5, 6, 7, 8, 9, 10, 11, 12, 13, 14, 15, 16, 17, 18, 19, 20, 21, 22, 23, 24, 25, 26, 27] rfl rfl rfl rfl rfl (Nat.le_of_ble_eq_true rfl) ⟨Nat.le_of_ble_eq_true rfl, Nat.le_of_ble_eq_true rfl⟩ dX6_text_16 (fun _ H locs _ X => ?_)
  have X : Hx D zA zs H locs (lW a hL hT im bs rd hS sh kb rf ++ rV rd ta hD (u3 K 0 (cWR t n (K 0) D0 uq1)) ((cIt t n (rst (K 0)) (clr D0) uq1).2.1) ++ gW tk hD ((cIt t n (rst (K 0)) (clr D0) uq1).2.2) dd de ++ gW tk hL G d e ++ sW tk hS sn pl lo le ++ tW tk ta tb 0 t) := X
  have X : Hx D zA zs H locs (lW a hL hT im bs rd hS sh kb rf ++ rV rd ta hD (u3 K 0 (cWR t n (K 0) D0 uq1)) ((cIt t n (rst (K 0)) (clr D0) uq1).2.1) ++ tW tk ta tb 0 t ++ gW tk hD ((cIt t n (rst (K 0)) (clr D0) uq1).2.2) dd de ++ gW tk hL G d e ++ sW tk hS sn pl lo le) := X.sub [0, 1, 26, 27, 2, 3, 4, 5, 6, 7, 8, 9, 10, 11, 12, 13, 14, 15, 16, 17, 18, 19, 20, 21, 22, 23, 24, 25] rfl rfl
  refine lv_pop hx hb dX6_text_19 rfl ?_
  refine lv_aload_n hx hb dX6_text_20 rfl (lv_at hl 1 rfl) ?_
  refine g_get (v := .ref rd) C0 X kX6 0 4 tb204 rfl rfl rfl dX6_text_21 ?_
  have hb6 := cWR_6 (t := t) (n := n) (r := K 0) (G := D0) hk3 uq1
  refine g_get (v := .int (nI ((cWR t n (K 0) D0 uq1) 0))) C0 X kX2 1 2 tb137 rfl rfl rfl dX6_text_24 ?_
  refine g_ifeq (x := (cWR t n (K 0) D0 uq1) 0) (tgt := 41) C0 (by omega) dX6_text_27 rfl (fun c3 => ?_) (fun c4 => ?_)
  · refine lv_aload_n hx hb dX6_text_41 rfl (lv_at hl 1 rfl) ?_
    refine g_get (v := .ref (hL 0)) C0 X kX6 0 0 tb200 rfl rfl rfl dX6_text_42 ?_
    refine lv_aload_n hx hb dX6_text_45 rfl (lv_at hl 1 rfl) ?_
    refine g_get (v := .ref rd) C0 X kX6 0 4 tb204 rfl rfl rfl dX6_text_46 ?_
    refine g_get (v := .ref (hD 0)) C0 X kX2 1 1 tb135 rfl rfl rfl dX6_text_49 ?_
    refine g_callV (As := [.ref (hD 0)]) (rest := []) (wr := (lW a hL hT im bs rd hS sh kb rf ++ rV rd ta hD (u3 K 0 (cWR t n (K 0) D0 uq1)) ((cIt t n (rst (K 0)) (clr D0) uq1).2.1) ++ tW tk ta tb 0 t ++ sW tk hS sn pl lo le)) (C0.sz hl) X (c_X1_become l D tk hL G d e hD ((cIt t n (rst (K 0)) (clr D0) uq1).2.2) dd de) ⟨tb392, tb395, tb2, ⟨by decide, by decide, rfl⟩, rfl, rfl, Nat.le_of_ble_eq_true rfl, Nat.le_of_ble_eq_true rfl⟩ tb393 tb394 14 1 rfl rfl rfl rfl [14, 15, 16, 17, 18, 19, 20, 21, 22, 23, 4, 5, 6, 7, 8, 9, 10, 11, 12, 13] [0, 1, 2, 3, 24, 25, 26, 27] rfl rfl rfl rfl rfl (Nat.le_of_ble_eq_true rfl) ⟨Nat.le_of_ble_eq_true rfl, Nat.le_of_ble_eq_true rfl⟩ dX6_text_52 (fun _ H locs _ X => ?_)
    have X : Hx D zA zs H locs (lW a hL hT im bs rd hS sh kb rf ++ rV rd ta hD (u3 K 0 (cWR t n (K 0) D0 uq1)) ((cIt t n (rst (K 0)) (clr D0) uq1).2.1) ++ tW tk ta tb 0 t ++ sW tk hS sn pl lo le ++ gW tk hL ((cIt t n (rst (K 0)) (clr D0) uq1).2.2) d e ++ gW tk hD ((cIt t n (rst (K 0)) (clr D0) uq1).2.2) dd de) := X
    have X : Hx D zA zs H locs (lW a hL hT im bs rd hS sh kb rf ++ rV rd ta hD (u3 K 0 (cWR t n (K 0) D0 uq1)) ((cIt t n (rst (K 0)) (clr D0) uq1).2.1) ++ tW tk ta tb 0 t ++ gW tk hD ((cIt t n (rst (K 0)) (clr D0) uq1).2.2) dd de ++ gW tk hL ((cIt t n (rst (K 0)) (clr D0) uq1).2.2) d e ++ sW tk hS sn pl lo le) := X.sub [0, 1, 2, 3, 18, 19, 20, 21, 22, 23, 24, 25, 26, 27, 8, 9, 10, 11, 12, 13, 14, 15, 16, 17, 4, 5, 6, 7] rfl rfl
    refine lv_aload_n hx hb dX6_text_55 rfl (lv_at hl 1 rfl) ?_
    refine g_get (v := .ref (hS 0)) C0 X kX6 0 5 tb205 rfl rfl rfl dX6_text_56 ?_
    refine g_iconst (n := 0) C0 rfl dX6_text_59 ?_
    refine g_callV (As := [.int (nI 0)]) (rest := []) (wr := (lW a hL hT im bs rd hS sh kb rf ++ rV rd ta hD (u3 K 0 (cWR t n (K 0) D0 uq1)) ((cIt t n (rst (K 0)) (clr D0) uq1).2.1) ++ tW tk ta tb 0 t ++ gW tk hD ((cIt t n (rst (K 0)) (clr D0) uq1).2.2) dd de ++ gW tk hL ((cIt t n (rst (K 0)) (clr D0) uq1).2.2) d e)) (C0.sz hl) X (c_X4_keepFirst l D tk hS sn pl lo le 0) ⟨tb399, tb402, tb6, ⟨by decide, by decide, rfl⟩, rfl, rfl, Nat.le_of_ble_eq_true rfl, Nat.le_of_ble_eq_true rfl⟩ tb400 tb401 24 4 rfl rfl rfl rfl [24, 25, 26, 27] [0, 1, 2, 3, 4, 5, 6, 7, 8, 9, 10, 11, 12, 13, 14, 15, 16, 17, 18, 19, 20, 21, 22, 23] rfl rfl rfl rfl rfl (Nat.le_of_ble_eq_true rfl) ⟨Nat.le_of_ble_eq_true rfl, Nat.le_of_ble_eq_true rfl⟩ dX6_text_60 (fun _ H locs _ X => ?_)
    have X : Hx D zA zs H locs (lW a hL hT im bs rd hS sh kb rf ++ rV rd ta hD (u3 K 0 (cWR t n (K 0) D0 uq1)) ((cIt t n (rst (K 0)) (clr D0) uq1).2.1) ++ tW tk ta tb 0 t ++ gW tk hD ((cIt t n (rst (K 0)) (clr D0) uq1).2.2) dd de ++ gW tk hL ((cIt t n (rst (K 0)) (clr D0) uq1).2.2) d e ++ sW tk hS 0 pl lo le) := X
    refine lv_pop hx hb dX6_text_63 rfl ?_
    refine lv_aload_n hx hb dX6_text_64 rfl (lv_at hl 1 rfl) ?_
    refine g_iconst (n := 0) C0 rfl dX6_text_65 ?_
    refine g_put (v := .int (nI 0)) (ft := .int) C0 X kX6 0 7 tb207 rfl rfl rfl rfl rfl rfl rfl dX6_text_66 (fun H locs X => ?_)
    have X : Hx D zA zs H locs (lW a hL hT im bs rd hS sh 0 rf ++ rV rd ta hD (u3 K 0 (cWR t n (K 0) D0 uq1)) ((cIt t n (rst (K 0)) (clr D0) uq1).2.1) ++ tW tk ta tb 0 t ++ gW tk hD ((cIt t n (rst (K 0)) (clr D0) uq1).2.2) dd de ++ gW tk hL ((cIt t n (rst (K 0)) (clr D0) uq1).2.2) d e ++ sW tk hS 0 pl lo le) := X
    refine lv_iload_n hx hb dX6_text_69 rfl (lv_at hl 0 rfl) ?_
    exact hE (v := nI uq1) uq1 (by rw [if_pos (show cWR t n (K 0) D0 uq1 0 = 0 by omega)]) (by exact hp2) (X.to (by rw [if_pos (show cWR t n (K 0) D0 uq1 0 = 0 by omega), if_pos (show cWR t n (K 0) D0 uq1 0 = 0 by omega), if_pos (show cWR t n (K 0) D0 uq1 0 = 0 by omega)] <;> rfl)) dX6_text_70
  · refine lv_bipush (v := (-10)) hx hb dX6_text_30 (by decide) ?_
    refine lv_aload_n hx hb dX6_text_32 rfl (lv_at hl 1 rfl) ?_
    refine g_get (v := .ref rd) C0 X kX6 0 4 tb204 rfl rfl rfl dX6_text_33 ?_
    refine g_get (v := .int (nI ((cWR t n (K 0) D0 uq1) 1))) C0 X kX2 1 3 tb139 rfl rfl rfl dX6_text_36 ?_
    refine lv_isub hx hb dX6_text_39 ?_
    exact hE (v := (-10) - (nI ((cWR t n (K 0) D0 uq1) 1))) uq1 (by rw [if_neg (show ¬ cWR t n (K 0) D0 uq1 0 = 0 by omega)]) (by exact hp2) (X.to (by rw [if_neg (show ¬ cWR t n (K 0) D0 uq1 0 = 0 by omega), if_neg (show ¬ cWR t n (K 0) D0 uq1 0 = 0 by omega), if_neg (show ¬ cWR t n (K 0) D0 uq1 0 = 0 by omega)] <;> rfl)) dX6_text_40
