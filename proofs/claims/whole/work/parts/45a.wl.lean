set_option maxHeartbeats 4000000 in
set_option maxRecDepth 100000 in
theorem c_X2_isNamed (l : Launch) (D : va_G) (tk : Nat → ClassId) (sK sV : Nat → Nat) (a ta tb : Nat) (hD : Nat → Nat) (K : Nat → Nat → Nat) (wt : Bool) (n : Nat) (t : Nat → Nat) (w : Nat) (hn : n ≤ 160) (ht8 : ∀ j, j < n → t j < 128) (hI : RI t n (K 0)) (hw7 : w < 7) (hts : K 0 3 ≤ K 0 4) : MS l yX2_isNamed cX2_isNamed 4 (some .boolean) ⟨4, 0, 0, 85⟩ D (TYS tk) sK sV [.ref a, .ref (sK w)] (rV a ta hD K wt ++ tW tk ta tb n t) (fun (_ : Unit) => True) (fun _ => some (.int (nI (rb (isN t (K 0 3) (K 0 4) (strW.getD w [])))))) (fun _ => rV a ta hD K wt ++ tW tk ta tb n t) 0 0 := by
  refine MS.of_z (by decide) rfl ?_
  intro zp ze zs zm za zb zt zc zA zQ ls C0 hnm S0 X hl hE
  have hx := C0.1
  have hb := C0.2.1
  have ht := C0.2.2.2.2.1
  have X : Hx D zA zs zs.heap [] (rV a ta hD K wt ++ tW tk ta tb n t) := X
  have hl : lv_has ls 4 [(0, .ref a), (1, .ref (sK w))] := hl
  obtain ⟨hi1, hi2, hi3, hi4, hi5, hi6, hi7⟩ := id hI
  have hL := str_len w hw7
  obtain ⟨H, hH⟩ : ∃ H, H = zs.heap := ⟨_, rfl⟩
  rw [← hH] at X ⊢
  obtain ⟨locs, hlo⟩ : ∃ L : List Loc, L = [] := ⟨_, rfl⟩
  rw [← hlo] at X ⊢
  refine lv_aload_n hx hb dX2_isNamed_0 rfl (lv_at hl 0 rfl) ?_
  refine g_get (v := .int (nI (K 0 4))) C0 X kX2 0 6 tb142 rfl rfl rfl dX2_isNamed_1 ?_
  refine lv_aload_n hx hb dX2_isNamed_4 rfl (lv_at hl 0 rfl) ?_
  refine g_get (v := .int (nI (K 0 3))) C0 X kX2 0 5 tb141 rfl rfl rfl dX2_isNamed_5 ?_
  refine g_isub (n := (K 0 4) - (K 0 3)) C0 (by omega) rfl dX2_isNamed_8 ?_
  refine lv_aload_n hx hb dX2_isNamed_9 rfl (lv_at hl 1 rfl) ?_
  refine g_callVk (As := []) (rest := [.int (nI ((K 0 4) - (K 0 3)))]) (wr := (rV a ta hD K wt ++ tW tk ta tb n t)) (i := w) (C0.sz hl) S0 X (c_strLen l D tk sK sV w (by assumption)) ⟨tb284, tb287, tb9, ⟨by decide, by decide, rfl⟩, rfl, rfl, Nat.le_of_ble_eq_true rfl, Nat.le_of_ble_eq_true rfl⟩ tb285 tb286 (by first | decide | assumption) rfl rfl [] [0, 1, 2] rfl rfl rfl rfl rfl (Nat.le_of_ble_eq_true rfl) ⟨Nat.le_of_ble_eq_true rfl, Nat.le_of_ble_eq_true rfl⟩ dX2_isNamed_10 (fun _ H locs _ X => ?_)
  have X : Hx D zA zs H locs (rV a ta hD K wt ++ tW tk ta tb n t) := X
  refine g_icmp_ne (x := (K 0 4) - (K 0 3)) (y := strLen.getD w 0) (tgt := 20) C0 (by omega) (by omega) dX2_isNamed_13 rfl (fun c1 => ?_) (fun c2 => ?_)
  · refine g_iconst (n := 0) C0 rfl dX2_isNamed_20 ?_
    refine lv_istore_n (lv' := [(2, .int (nI 0)), (0, .ref a), (1, .ref (sK w))]) hx hb dX2_isNamed_21 rfl hl (by decide) rfl (fun ls hl => ?_)
    refine g_iconst (n := 0) C0 rfl dX2_isNamed_22 ?_
    refine lv_istore_n (lv' := [(3, .int (nI 0)), (2, .int (nI 0)), (0, .ref a), (1, .ref (sK w))]) hx hb dX2_isNamed_23 rfl hl (by decide) rfl (fun ls hl => ?_)
    have J24 : ∀ (fz : Nat) (al i : Nat), strLen.getD w 0 - i < fz → ∀ (hi9 : i ≤ strLen.getD w 0) (ha1 : al = 0 ∨ (al = 1 ∧ K 0 4 - K 0 3 = strLen.getD w 0 ∧ ball (fun j => decide (t (K 0 3 + j) = (strW.getD w []).getD j 0)) i = true)) (ha0 : al = 0 → isN t (K 0 3) (K 0 4) (strW.getD w []) = false) (H : Heap) (locs : List Loc) (ls : Array Slot), Hx D zA zs H locs (rV a ta hD K wt ++ tW tk ta tb n t) → lv_has ls 4 [(3, .int (nI i)), (2, .int (nI al)), (0, .ref a), (1, .ref (sK w))] → W zp l ze ⟨4, 0, 0, 85⟩ zs zm za zb zt zc H locs 0 0 zQ (F0 zm 24 ls []) := by
      intro fz
      induction fz with
      | zero => intro al i hz; exact absurd hz (Nat.not_lt_zero _)
      | succ fz ih24 =>
        intro al i hz24 hi9 ha1 ha0 H locs ls X hl
        refine lv_iload_n hx hb dX2_isNamed_24 rfl (lv_at hl 1 rfl) ?_
        refine g_ifeq (x := al) (tgt := 70) C0 (by omega) dX2_isNamed_25 rfl (fun c3 => ?_) (fun c4 => ?_)
        · refine lv_iload_n hx hb dX2_isNamed_70 rfl (lv_at hl 1 rfl) ?_
          refine g_top (y := nI (rb (isN t (K 0 3) (K 0 4) (strW.getD w [])))) (by rw [ha0 c3, c3]; rfl) ?_
          exact hE (v := isN t (K 0 3) (K 0 4) (strW.getD w [])) () rfl trivial X dX2_isNamed_71
        · refine lv_iload_n hx hb dX2_isNamed_28 rfl (lv_at hl 0 rfl) ?_
          refine lv_aload_n hx hb dX2_isNamed_29 rfl (lv_at hl 3 rfl) ?_
          refine g_callVk (As := []) (rest := [.int (nI i)]) (wr := (rV a ta hD K wt ++ tW tk ta tb n t)) (i := w) (C0.sz hl) S0 X (c_strLen l D tk sK sV w (by assumption)) ⟨tb284, tb287, tb9, ⟨by decide, by decide, rfl⟩, rfl, rfl, Nat.le_of_ble_eq_true rfl, Nat.le_of_ble_eq_true rfl⟩ tb285 tb286 (by first | decide | assumption) rfl rfl [] [0, 1, 2] rfl rfl rfl rfl rfl (Nat.le_of_ble_eq_true rfl) ⟨Nat.le_of_ble_eq_true rfl, Nat.le_of_ble_eq_true rfl⟩ dX2_isNamed_30 (fun _ H locs _ X => ?_)
          have X : Hx D zA zs H locs (rV a ta hD K wt ++ tW tk ta tb n t) := X
          refine g_icmp_ge (x := i) (y := strLen.getD w 0) (tgt := 70) C0 (by omega) (by omega) dX2_isNamed_33 rfl (fun c5 => ?_) (fun c6 => ?_)
          · refine lv_iload_n hx hb dX2_isNamed_70 rfl (lv_at hl 1 rfl) ?_
            have hal := ha1.resolve_left (by omega)
            refine g_top (y := nI (rb (isN t (K 0 3) (K 0 4) (strW.getD w [])))) (by rw [isN_t (w := (strW.getD w [])) (by rw [← hL.1]; exact hal.2.1) (by rw [← hL.1, show strLen.getD w 0 = i by omega]; exact hal.2.2), hal.1]; rfl) ?_
            exact hE (v := isN t (K 0 3) (K 0 4) (strW.getD w [])) () rfl trivial X dX2_isNamed_71
          · have hal := ha1.resolve_left (by omega)
            refine lv_aload_n hx hb dX2_isNamed_36 rfl (lv_at hl 2 rfl) ?_
            refine g_get (v := .ref ta) C0 X kX2 0 0 tb132 rfl rfl rfl dX2_isNamed_37 ?_
            refine g_get (v := .ref tb) C0 X kX5 1 1 tb123 rfl rfl rfl dX2_isNamed_40 ?_
            refine lv_aload_n hx hb dX2_isNamed_43 rfl (lv_at hl 2 rfl) ?_
            refine g_get (v := .int (nI (K 0 3))) C0 X kX2 0 5 tb141 rfl rfl rfl dX2_isNamed_44 ?_
            refine lv_iload_n hx hb dX2_isNamed_47 rfl (lv_at hl 0 rfl) ?_
            refine g_iadd (n := K 0 3 + i) C0 (by first | rfl | omega) dX2_isNamed_48 ?_
            refine g_bald (v := nI (t (K 0 3 + i))) (i := K 0 3 + i) C0 X 2 1 rfl rfl (by omega) rfl rfl dX2_isNamed_49 ?_
            refine lv_aload_n hx hb dX2_isNamed_50 rfl (lv_at hl 3 rfl) ?_
            refine lv_iload_n hx hb dX2_isNamed_51 rfl (lv_at hl 0 rfl) ?_
            refine g_callVk (As := [.int (nI i)]) (rest := [.int (nI (t (K 0 3 + i)))]) (wr := (rV a ta hD K wt ++ tW tk ta tb n t)) (i := w) (C0.sz hl) S0 X (c_strAt l D tk sK sV w i (by first | assumption | omega) (by first | assumption | omega)) ⟨tb294, tb297, tb9, ⟨by decide, by decide, rfl⟩, rfl, rfl, Nat.le_of_ble_eq_true rfl, Nat.le_of_ble_eq_true rfl⟩ tb295 tb296 (by first | decide | assumption) rfl rfl [] [0, 1, 2] rfl rfl rfl rfl rfl (Nat.le_of_ble_eq_true rfl) ⟨Nat.le_of_ble_eq_true rfl, Nat.le_of_ble_eq_true rfl⟩ dX2_isNamed_52 (fun _ H locs _ X => ?_)
            have X : Hx D zA zs H locs (rV a ta hD K wt ++ tW tk ta tb n t) := X
            have h8 := ht8 (K 0 3 + i) (by omega)
            have hB := (str_b w hw7 i (by omega)).2
            refine g_icmp_ne (x := t (K 0 3 + i)) (y := (strW.getD w []).getD i 0) (tgt := 62) C0 (by omega) (by omega) dX2_isNamed_55 rfl (fun c7 => ?_) (fun c8 => ?_)
            · refine g_iconst (n := 0) C0 rfl dX2_isNamed_62 ?_
              refine lv_istore_n (lv' := [(2, .int (nI 0)), (3, .int (nI i)), (0, .ref a), (1, .ref (sK w))]) hx hb dX2_isNamed_63 rfl hl (by decide) rfl (fun ls hl => ?_)
              refine g_iinc (j := 1) (z := i + 1) (lv' := [(3, .int (nI (i + 1))), (2, .int (nI 0)), (0, .ref a), (1, .ref (sK w))]) C0 rfl (by first | rfl | omega) dX2_isNamed_64 hl (k := 1) rfl (by decide) rfl (fun ls hl => ?_)
              refine lv_goto (tgt := 24) hx hb dX2_isNamed_67 (by decide) ?_
              exact ih24 0 (i + 1) (by omega) (by omega) (by exact Or.inl rfl) (by exact fun _ => isN_f (by rw [← hL.1]; omega) c7) H locs ls X (lv_sub hl [0, 1, 2, 3] rfl)
            · refine g_iconst (n := 1) C0 rfl dX2_isNamed_58 ?_
              refine lv_goto (tgt := 63) hx hb dX2_isNamed_59 (by decide) ?_
              refine lv_istore_n (lv' := [(2, .int (nI 1)), (3, .int (nI i)), (0, .ref a), (1, .ref (sK w))]) hx hb dX2_isNamed_63 rfl hl (by decide) rfl (fun ls hl => ?_)
              refine g_iinc (j := 1) (z := i + 1) (lv' := [(3, .int (nI (i + 1))), (2, .int (nI 1)), (0, .ref a), (1, .ref (sK w))]) C0 rfl (by first | rfl | omega) dX2_isNamed_64 hl (k := 1) rfl (by decide) rfl (fun ls hl => ?_)
              refine lv_goto (tgt := 24) hx hb dX2_isNamed_67 (by decide) ?_
              exact ih24 1 (i + 1) (by omega) (by omega) (by exact Or.inr ⟨rfl, hal.2.1, ball_t hal.2.2 (decide_eq_true c8)⟩) (by exact fun q => absurd q (by decide)) H locs ls X (lv_sub hl [0, 1, 2, 3] rfl)
    exact J24 ((strLen.getD w 0 - 0) + 1) 0 0 (Nat.lt_succ_self _) (by omega) (by exact Or.inl rfl) (by exact fun _ => isN_l (by rw [← hL.1]; exact c1)) H locs ls X (lv_sub hl [0, 1, 2, 3] rfl)
  · refine g_iconst (n := 1) C0 rfl dX2_isNamed_16 ?_
    refine lv_goto (tgt := 21) hx hb dX2_isNamed_17 (by decide) ?_
    refine lv_istore_n (lv' := [(2, .int (nI 1)), (0, .ref a), (1, .ref (sK w))]) hx hb dX2_isNamed_21 rfl hl (by decide) rfl (fun ls hl => ?_)
    refine g_iconst (n := 0) C0 rfl dX2_isNamed_22 ?_
    refine lv_istore_n (lv' := [(3, .int (nI 0)), (2, .int (nI 1)), (0, .ref a), (1, .ref (sK w))]) hx hb dX2_isNamed_23 rfl hl (by decide) rfl (fun ls hl => ?_)
    have J24 : ∀ (fz : Nat) (al i : Nat), strLen.getD w 0 - i < fz → ∀ (hi9 : i ≤ strLen.getD w 0) (ha1 : al = 0 ∨ (al = 1 ∧ K 0 4 - K 0 3 = strLen.getD w 0 ∧ ball (fun j => decide (t (K 0 3 + j) = (strW.getD w []).getD j 0)) i = true)) (ha0 : al = 0 → isN t (K 0 3) (K 0 4) (strW.getD w []) = false) (H : Heap) (locs : List Loc) (ls : Array Slot), Hx D zA zs H locs (rV a ta hD K wt ++ tW tk ta tb n t) → lv_has ls 4 [(3, .int (nI i)), (2, .int (nI al)), (0, .ref a), (1, .ref (sK w))] → W zp l ze ⟨4, 0, 0, 85⟩ zs zm za zb zt zc H locs 0 0 zQ (F0 zm 24 ls []) := by
      intro fz
      induction fz with
      | zero => intro al i hz; exact absurd hz (Nat.not_lt_zero _)
      | succ fz ih24 =>
        intro al i hz24 hi9 ha1 ha0 H locs ls X hl
        refine lv_iload_n hx hb dX2_isNamed_24 rfl (lv_at hl 1 rfl) ?_
        refine g_ifeq (x := al) (tgt := 70) C0 (by omega) dX2_isNamed_25 rfl (fun c9 => ?_) (fun c10 => ?_)
        · refine lv_iload_n hx hb dX2_isNamed_70 rfl (lv_at hl 1 rfl) ?_
          refine g_top (y := nI (rb (isN t (K 0 3) (K 0 4) (strW.getD w [])))) (by rw [ha0 c9, c9]; rfl) ?_
          exact hE (v := isN t (K 0 3) (K 0 4) (strW.getD w [])) () rfl trivial X dX2_isNamed_71
        · refine lv_iload_n hx hb dX2_isNamed_28 rfl (lv_at hl 0 rfl) ?_
          refine lv_aload_n hx hb dX2_isNamed_29 rfl (lv_at hl 3 rfl) ?_
          refine g_callVk (As := []) (rest := [.int (nI i)]) (wr := (rV a ta hD K wt ++ tW tk ta tb n t)) (i := w) (C0.sz hl) S0 X (c_strLen l D tk sK sV w (by assumption)) ⟨tb284, tb287, tb9, ⟨by decide, by decide, rfl⟩, rfl, rfl, Nat.le_of_ble_eq_true rfl, Nat.le_of_ble_eq_true rfl⟩ tb285 tb286 (by first | decide | assumption) rfl rfl [] [0, 1, 2] rfl rfl rfl rfl rfl (Nat.le_of_ble_eq_true rfl) ⟨Nat.le_of_ble_eq_true rfl, Nat.le_of_ble_eq_true rfl⟩ dX2_isNamed_30 (fun _ H locs _ X => ?_)
          have X : Hx D zA zs H locs (rV a ta hD K wt ++ tW tk ta tb n t) := X
          refine g_icmp_ge (x := i) (y := strLen.getD w 0) (tgt := 70) C0 (by omega) (by omega) dX2_isNamed_33 rfl (fun c11 => ?_) (fun c12 => ?_)
          · refine lv_iload_n hx hb dX2_isNamed_70 rfl (lv_at hl 1 rfl) ?_
            have hal := ha1.resolve_left (by omega)
            refine g_top (y := nI (rb (isN t (K 0 3) (K 0 4) (strW.getD w [])))) (by rw [isN_t (w := (strW.getD w [])) (by rw [← hL.1]; exact hal.2.1) (by rw [← hL.1, show strLen.getD w 0 = i by omega]; exact hal.2.2), hal.1]; rfl) ?_
            exact hE (v := isN t (K 0 3) (K 0 4) (strW.getD w [])) () rfl trivial X dX2_isNamed_71
          · have hal := ha1.resolve_left (by omega)
            refine lv_aload_n hx hb dX2_isNamed_36 rfl (lv_at hl 2 rfl) ?_
            refine g_get (v := .ref ta) C0 X kX2 0 0 tb132 rfl rfl rfl dX2_isNamed_37 ?_
            refine g_get (v := .ref tb) C0 X kX5 1 1 tb123 rfl rfl rfl dX2_isNamed_40 ?_
            refine lv_aload_n hx hb dX2_isNamed_43 rfl (lv_at hl 2 rfl) ?_
            refine g_get (v := .int (nI (K 0 3))) C0 X kX2 0 5 tb141 rfl rfl rfl dX2_isNamed_44 ?_
            refine lv_iload_n hx hb dX2_isNamed_47 rfl (lv_at hl 0 rfl) ?_
            refine g_iadd (n := K 0 3 + i) C0 (by first | rfl | omega) dX2_isNamed_48 ?_
            refine g_bald (v := nI (t (K 0 3 + i))) (i := K 0 3 + i) C0 X 2 1 rfl rfl (by omega) rfl rfl dX2_isNamed_49 ?_
            refine lv_aload_n hx hb dX2_isNamed_50 rfl (lv_at hl 3 rfl) ?_
            refine lv_iload_n hx hb dX2_isNamed_51 rfl (lv_at hl 0 rfl) ?_
            refine g_callVk (As := [.int (nI i)]) (rest := [.int (nI (t (K 0 3 + i)))]) (wr := (rV a ta hD K wt ++ tW tk ta tb n t)) (i := w) (C0.sz hl) S0 X (c_strAt l D tk sK sV w i (by first | assumption | omega) (by first | assumption | omega)) ⟨tb294, tb297, tb9, ⟨by decide, by decide, rfl⟩, rfl, rfl, Nat.le_of_ble_eq_true rfl, Nat.le_of_ble_eq_true rfl⟩ tb295 tb296 (by first | decide | assumption) rfl rfl [] [0, 1, 2] rfl rfl rfl rfl rfl (Nat.le_of_ble_eq_true rfl) ⟨Nat.le_of_ble_eq_true rfl, Nat.le_of_ble_eq_true rfl⟩ dX2_isNamed_52 (fun _ H locs _ X => ?_)
            have X : Hx D zA zs H locs (rV a ta hD K wt ++ tW tk ta tb n t) := X
            have h8 := ht8 (K 0 3 + i) (by omega)
            have hB := (str_b w hw7 i (by omega)).2
            refine g_icmp_ne (x := t (K 0 3 + i)) (y := (strW.getD w []).getD i 0) (tgt := 62) C0 (by omega) (by omega) dX2_isNamed_55 rfl (fun c13 => ?_) (fun c14 => ?_)
            · refine g_iconst (n := 0) C0 rfl dX2_isNamed_62 ?_
              refine lv_istore_n (lv' := [(2, .int (nI 0)), (3, .int (nI i)), (0, .ref a), (1, .ref (sK w))]) hx hb dX2_isNamed_63 rfl hl (by decide) rfl (fun ls hl => ?_)
              refine g_iinc (j := 1) (z := i + 1) (lv' := [(3, .int (nI (i + 1))), (2, .int (nI 0)), (0, .ref a), (1, .ref (sK w))]) C0 rfl (by first | rfl | omega) dX2_isNamed_64 hl (k := 1) rfl (by decide) rfl (fun ls hl => ?_)
              refine lv_goto (tgt := 24) hx hb dX2_isNamed_67 (by decide) ?_
              exact ih24 0 (i + 1) (by omega) (by omega) (by exact Or.inl rfl) (by exact fun _ => isN_f (by rw [← hL.1]; omega) c13) H locs ls X (lv_sub hl [0, 1, 2, 3] rfl)
            · refine g_iconst (n := 1) C0 rfl dX2_isNamed_58 ?_
              refine lv_goto (tgt := 63) hx hb dX2_isNamed_59 (by decide) ?_
              refine lv_istore_n (lv' := [(2, .int (nI 1)), (3, .int (nI i)), (0, .ref a), (1, .ref (sK w))]) hx hb dX2_isNamed_63 rfl hl (by decide) rfl (fun ls hl => ?_)
              refine g_iinc (j := 1) (z := i + 1) (lv' := [(3, .int (nI (i + 1))), (2, .int (nI 1)), (0, .ref a), (1, .ref (sK w))]) C0 rfl (by first | rfl | omega) dX2_isNamed_64 hl (k := 1) rfl (by decide) rfl (fun ls hl => ?_)
              refine lv_goto (tgt := 24) hx hb dX2_isNamed_67 (by decide) ?_
              exact ih24 1 (i + 1) (by omega) (by omega) (by exact Or.inr ⟨rfl, hal.2.1, ball_t hal.2.2 (decide_eq_true c14)⟩) (by exact fun q => absurd q (by decide)) H locs ls X (lv_sub hl [0, 1, 2, 3] rfl)
    exact J24 ((strLen.getD w 0 - 0) + 1) 1 0 (Nat.lt_succ_self _) (by omega) (by exact Or.inr ⟨rfl, c2, rfl⟩) (by exact fun q => absurd q (by decide)) H locs ls X (lv_sub hl [0, 1, 2, 3] rfl)
set_option maxHeartbeats 4000000 in
set_option maxRecDepth 100000 in
theorem c_X1_lacksTree (l : Launch) (D : va_G) (tk : Nat → ClassId) (h : Nat → Nat) (G : Nat → Nat → Nat) (d e : Nat → Nat) (hd9 : DI G) : MX l yX1_lacksTree cX1_lacksTree 3 (some .boolean) ⟨2, 0, 0, 43⟩ D (TYS tk) [.ref (h 0)] (gW tk h G d e) (fun (_ : Unit) => True) (fun _ => some (.int (nI (rb (lackB G))))) (fun _ => gW tk h G d e) 0 0 := by
  refine MX.of_z (by decide) rfl ?_
  intro zp ze zs zm za zb zt zc zA zQ ls C0 hnm X hl hE
  have hx := C0.1
  have hb := C0.2.1
  have ht := C0.2.2.2.2.1
  have X : Hx D zA zs zs.heap [] (gW tk h G d e) := X
  have hl : lv_has ls 3 [(0, .ref (h 0))] := hl
  obtain ⟨hd1, hd2, hd3⟩ := id hd9
  obtain ⟨-, -, -, -, -, hd6, hd7⟩ := id hd9
  obtain ⟨H, hH⟩ : ∃ H, H = zs.heap := ⟨_, rfl⟩
  rw [← hH] at X ⊢
  obtain ⟨locs, hlo⟩ : ∃ L : List Loc, L = [] := ⟨_, rfl⟩
  rw [← hlo] at X ⊢
  refine g_iconst (n := 0) C0 rfl dX1_lacksTree_0 ?_
  refine lv_istore_n (lv' := [(1, .int (nI 0)), (0, .ref (h 0))]) hx hb dX1_lacksTree_1 rfl hl (by decide) rfl (fun ls hl => ?_)
  refine g_iconst (n := 0) C0 rfl dX1_lacksTree_2 ?_
  refine lv_istore_n (lv' := [(2, .int (nI 0)), (1, .int (nI 0)), (0, .ref (h 0))]) hx hb dX1_lacksTree_3 rfl hl (by decide) rfl (fun ls hl => ?_)
  have J4 : ∀ (fz : Nat) (i la : Nat), G 8 1 - i < fz → ∀ (hi9 : i ≤ G 8 1) (hla : la = rb (!(ball (fun i => decide (G 1 i < G 8 0) && decide (G 2 i < G 8 0)) i))) (H : Heap) (locs : List Loc) (ls : Array Slot), Hx D zA zs H locs (gW tk h G d e) → lv_has ls 3 [(2, .int (nI i)), (1, .int (nI la)), (0, .ref (h 0))] → W zp l ze ⟨2, 0, 0, 43⟩ zs zm za zb zt zc H locs 0 0 zQ (F0 zm 4 ls []) := by
    intro fz
    induction fz with
    | zero => intro i la hz; exact absurd hz (Nat.not_lt_zero _)
    | succ fz ih4 =>
      intro i la hz4 hi9 hla H locs ls X hl
      refine lv_iload_n hx hb dX1_lacksTree_4 rfl (lv_at hl 0 rfl) ?_
      refine lv_aload_n hx hb dX1_lacksTree_5 rfl (lv_at hl 2 rfl) ?_
      refine g_get (v := .int (nI (G 8 1))) C0 X kX1 0 2 tb37 rfl rfl rfl dX1_lacksTree_6 ?_
      refine g_icmp_ge (x := i) (y := G 8 1) (tgt := 52) C0 (by omega) (by omega) dX1_lacksTree_9 rfl (fun c1 => ?_) (fun c2 => ?_)
      · refine g_iconst (n := 0) C0 rfl dX1_lacksTree_52 ?_
        refine lv_istore_n (lv' := [(2, .int (nI 0)), (1, .int (nI la)), (0, .ref (h 0))]) hx hb dX1_lacksTree_53 rfl hl (by decide) rfl (fun ls hl => ?_)
        have J54 : ∀ (fz : Nat) (k lb : Nat), G 8 3 - k < fz → ∀ (hk9 : k ≤ G 8 3) (hlb : lb = rb (!(ball (fun i => decide (G 1 i < G 8 0) && decide (G 2 i < G 8 0)) (G 8 1) && ball (fun k => decide (G 6 k < G 8 0)) k))) (H : Heap) (locs : List Loc) (ls : Array Slot), Hx D zA zs H locs (gW tk h G d e) → lv_has ls 3 [(2, .int (nI k)), (1, .int (nI lb)), (0, .ref (h 0))] → W zp l ze ⟨2, 0, 0, 43⟩ zs zm za zb zt zc H locs 0 0 zQ (F0 zm 54 ls []) := by
          intro fz
          induction fz with
          | zero => intro k lb hz; exact absurd hz (Nat.not_lt_zero _)
          | succ fz ih54 =>
            intro k lb hz54 hk9 hlb H locs ls X hl
            refine lv_iload_n hx hb dX1_lacksTree_54 rfl (lv_at hl 0 rfl) ?_
            refine lv_aload_n hx hb dX1_lacksTree_55 rfl (lv_at hl 2 rfl) ?_
            refine g_get (v := .int (nI (G 8 3))) C0 X kX1 0 8 tb51 rfl rfl rfl dX1_lacksTree_56 ?_
            refine g_icmp_ge (x := k) (y := G 8 3) (tgt := 89) C0 (by omega) (by omega) dX1_lacksTree_59 rfl (fun c3 => ?_) (fun c4 => ?_)
            · refine lv_iload_n hx hb dX1_lacksTree_89 rfl (lv_at hl 1 rfl) ?_
              refine g_top (y := nI (rb (lackB G))) (by rw [hlb, show k = G 8 3 by omega]; rfl) ?_
              exact hE (v := lackB G) () rfl trivial X dX1_lacksTree_90
            · have hr := hd7 k (by omega)
              refine lv_iload_n hx hb dX1_lacksTree_62 rfl (lv_at hl 1 rfl) ?_
              refine lv_aload_n hx hb dX1_lacksTree_63 rfl (lv_at hl 2 rfl) ?_
              refine lv_aload_n hx hb dX1_lacksTree_64 rfl (lv_at hl 2 rfl) ?_
              refine g_get (v := .ref (h 6)) C0 X kX1 0 10 tb56 rfl rfl rfl dX1_lacksTree_65 ?_
              refine lv_iload_n hx hb dX1_lacksTree_68 rfl (lv_at hl 0 rfl) ?_
              refine g_iald (v := nI (G 6 k)) (i := k) C0 X 6 0 rfl rfl (by omega) rfl rfl dX1_lacksTree_69 ?_
              refine g_callV (As := [.int (nI (G 6 k))]) (rest := [.int (nI lb)]) (wr := []) (C0.sz hl) X (c_X1_hasTree l D tk h G d e (nI (G 6 k)) (by first | assumption | omega)) ⟨tb387, tb390, tb2, ⟨by decide, by decide, rfl⟩, rfl, rfl, Nat.le_of_ble_eq_true rfl, Nat.le_of_ble_eq_true rfl⟩ tb388 tb389 0 1 rfl rfl rfl rfl [0, 1, 2, 3, 4, 5, 6, 7, 8, 9] [] rfl rfl rfl rfl rfl (Nat.le_of_ble_eq_true rfl) ⟨Nat.le_of_ble_eq_true rfl, Nat.le_of_ble_eq_true rfl⟩ dX1_lacksTree_70 (fun _ H locs _ X => ?_)
              have X : Hx D zA zs H locs (gW tk h G d e) := X
              refine g_top (y := nI (rb (decide (G 6 k < G 8 0)))) (by rw [ix_nI (by omega)]) ?_
              refine g_ifneB (x := (decide (G 6 k < G 8 0))) (tgt := 80) C0 dX1_lacksTree_73 rfl (fun c5 => ?_) (fun c6 => ?_)
              · refine g_iconst (n := 0) C0 rfl dX1_lacksTree_80 ?_
                refine g_ior (n := lb ||| 0) C0 rfl dX1_lacksTree_81 ?_
                refine lv_istore_n (lv' := [(1, .int (nI (lb ||| 0))), (2, .int (nI k)), (0, .ref (h 0))]) hx hb dX1_lacksTree_82 rfl hl (by decide) rfl (fun ls hl => ?_)
                refine g_iinc (j := 1) (z := k + 1) (lv' := [(2, .int (nI (k + 1))), (1, .int (nI (lb ||| 0))), (0, .ref (h 0))]) C0 rfl (by first | rfl | omega) dX1_lacksTree_83 hl (k := 1) rfl (by decide) rfl (fun ls hl => ?_)
                refine lv_goto (tgt := 54) hx hb dX1_lacksTree_86 (by decide) ?_
                exact ih54 (k + 1) (lb ||| 0) (by omega) (by omega) (by exact lk2_0 (P := (fun k => decide (G 6 k < G 8 0))) hlb c5) H locs ls X (lv_sub hl [0, 1, 2] rfl)
              · refine g_iconst (n := 1) C0 rfl dX1_lacksTree_76 ?_
                refine lv_goto (tgt := 81) hx hb dX1_lacksTree_77 (by decide) ?_
                refine g_ior (n := lb ||| 1) C0 rfl dX1_lacksTree_81 ?_
                refine lv_istore_n (lv' := [(1, .int (nI (lb ||| 1))), (2, .int (nI k)), (0, .ref (h 0))]) hx hb dX1_lacksTree_82 rfl hl (by decide) rfl (fun ls hl => ?_)
                refine g_iinc (j := 1) (z := k + 1) (lv' := [(2, .int (nI (k + 1))), (1, .int (nI (lb ||| 1))), (0, .ref (h 0))]) C0 rfl (by first | rfl | omega) dX1_lacksTree_83 hl (k := 1) rfl (by decide) rfl (fun ls hl => ?_)
                refine lv_goto (tgt := 54) hx hb dX1_lacksTree_86 (by decide) ?_
                exact ih54 (k + 1) (lb ||| 1) (by omega) (by omega) (by exact lk2_1 (P := (fun k => decide (G 6 k < G 8 0))) hlb c6) H locs ls X (lv_sub hl [0, 1, 2] rfl)
        exact J54 ((G 8 3 - 0) + 1) 0 la (Nat.lt_succ_self _) (by omega) (by rw [hla, show i = G 8 1 by omega]; exact congrArg (fun z => rb (!z)) (Bool.and_true _).symm) H locs ls X (lv_sub hl [0, 1, 2] rfl)
      · have hr := hd6 i (by omega)
        refine lv_iload_n hx hb dX1_lacksTree_12 rfl (lv_at hl 1 rfl) ?_
        refine lv_aload_n hx hb dX1_lacksTree_13 rfl (lv_at hl 2 rfl) ?_
        refine lv_aload_n hx hb dX1_lacksTree_14 rfl (lv_at hl 2 rfl) ?_
        refine g_get (v := .ref (h 2)) C0 X kX1 0 3 tb40 rfl rfl rfl dX1_lacksTree_15 ?_
        refine lv_iload_n hx hb dX1_lacksTree_18 rfl (lv_at hl 0 rfl) ?_
        refine g_iald (v := nI (G 1 i)) (i := i) C0 X 2 0 rfl rfl (by omega) rfl rfl dX1_lacksTree_19 ?_
        refine g_callV (As := [.int (nI (G 1 i))]) (rest := [.int (nI la)]) (wr := []) (C0.sz hl) X (c_X1_hasTree l D tk h G d e (nI (G 1 i)) (by first | assumption | omega)) ⟨tb387, tb390, tb2, ⟨by decide, by decide, rfl⟩, rfl, rfl, Nat.le_of_ble_eq_true rfl, Nat.le_of_ble_eq_true rfl⟩ tb388 tb389 0 1 rfl rfl rfl rfl [0, 1, 2, 3, 4, 5, 6, 7, 8, 9] [] rfl rfl rfl rfl rfl (Nat.le_of_ble_eq_true rfl) ⟨Nat.le_of_ble_eq_true rfl, Nat.le_of_ble_eq_true rfl⟩ dX1_lacksTree_20 (fun _ H locs _ X => ?_)
        have X : Hx D zA zs H locs (gW tk h G d e) := X
        refine g_top (y := nI (rb (decide (G 1 i < G 8 0)))) (by rw [ix_nI (by omega)]) ?_
        refine g_ifeqB (x := (decide (G 1 i < G 8 0))) (tgt := 39) C0 dX1_lacksTree_23 rfl (fun c7 => ?_) (fun c8 => ?_)
        · refine g_iconst (n := 1) C0 rfl dX1_lacksTree_39 ?_
          refine lv_goto (tgt := 44) hx hb dX1_lacksTree_40 (by decide) ?_
          refine g_ior (n := la ||| 1) C0 rfl dX1_lacksTree_44 ?_
          refine lv_istore_n (lv' := [(1, .int (nI (la ||| 1))), (2, .int (nI i)), (0, .ref (h 0))]) hx hb dX1_lacksTree_45 rfl hl (by decide) rfl (fun ls hl => ?_)
          refine g_iinc (j := 1) (z := i + 1) (lv' := [(2, .int (nI (i + 1))), (1, .int (nI (la ||| 1))), (0, .ref (h 0))]) C0 rfl (by first | rfl | omega) dX1_lacksTree_46 hl (k := 1) rfl (by decide) rfl (fun ls hl => ?_)
          refine lv_goto (tgt := 4) hx hb dX1_lacksTree_49 (by decide) ?_
          exact ih4 (i + 1) (la ||| 1) (by omega) (by omega) (by exact lk_1 (P := (fun i => decide (G 1 i < G 8 0) && decide (G 2 i < G 8 0))) hla (by first | (show (decide (G 1 i < G 8 0) && decide (G 2 i < G 8 0)) = false; rw [c7]; rfl) | (show (decide (G 1 i < G 8 0) && decide (G 2 i < G 8 0)) = false; rw [c7, Bool.and_false]))) H locs ls X (lv_sub hl [0, 1, 2] rfl)
        · refine lv_aload_n hx hb dX1_lacksTree_26 rfl (lv_at hl 2 rfl) ?_
          refine lv_aload_n hx hb dX1_lacksTree_27 rfl (lv_at hl 2 rfl) ?_
          refine g_get (v := .ref (h 3)) C0 X kX1 0 4 tb42 rfl rfl rfl dX1_lacksTree_28 ?_
          refine lv_iload_n hx hb dX1_lacksTree_31 rfl (lv_at hl 0 rfl) ?_
          refine g_iald (v := nI (G 2 i)) (i := i) C0 X 3 0 rfl rfl (by omega) rfl rfl dX1_lacksTree_32 ?_
          refine g_callV (As := [.int (nI (G 2 i))]) (rest := [.int (nI la)]) (wr := []) (C0.sz hl) X (c_X1_hasTree l D tk h G d e (nI (G 2 i)) (by first | assumption | omega)) ⟨tb387, tb390, tb2, ⟨by decide, by decide, rfl⟩, rfl, rfl, Nat.le_of_ble_eq_true rfl, Nat.le_of_ble_eq_true rfl⟩ tb388 tb389 0 1 rfl rfl rfl rfl [0, 1, 2, 3, 4, 5, 6, 7, 8, 9] [] rfl rfl rfl rfl rfl (Nat.le_of_ble_eq_true rfl) ⟨Nat.le_of_ble_eq_true rfl, Nat.le_of_ble_eq_true rfl⟩ dX1_lacksTree_33 (fun _ H locs _ X => ?_)
          have X : Hx D zA zs H locs (gW tk h G d e) := X
          refine g_top (y := nI (rb (decide (G 2 i < G 8 0)))) (by rw [ix_nI (by omega)]) ?_
          refine g_ifneB (x := (decide (G 2 i < G 8 0))) (tgt := 43) C0 dX1_lacksTree_36 rfl (fun c9 => ?_) (fun c10 => ?_)
          · refine g_iconst (n := 0) C0 rfl dX1_lacksTree_43 ?_
            refine g_ior (n := la ||| 0) C0 rfl dX1_lacksTree_44 ?_
            refine lv_istore_n (lv' := [(1, .int (nI (la ||| 0))), (2, .int (nI i)), (0, .ref (h 0))]) hx hb dX1_lacksTree_45 rfl hl (by decide) rfl (fun ls hl => ?_)
            refine g_iinc (j := 1) (z := i + 1) (lv' := [(2, .int (nI (i + 1))), (1, .int (nI (la ||| 0))), (0, .ref (h 0))]) C0 rfl (by first | rfl | omega) dX1_lacksTree_46 hl (k := 1) rfl (by decide) rfl (fun ls hl => ?_)
            refine lv_goto (tgt := 4) hx hb dX1_lacksTree_49 (by decide) ?_
            exact ih4 (i + 1) (la ||| 0) (by omega) (by omega) (by exact lk_0 (P := (fun i => decide (G 1 i < G 8 0) && decide (G 2 i < G 8 0))) hla (by show (decide (G 1 i < G 8 0) && decide (G 2 i < G 8 0)) = true; rw [c8, c9]; rfl)) H locs ls X (lv_sub hl [0, 1, 2] rfl)
          · refine g_iconst (n := 1) C0 rfl dX1_lacksTree_39 ?_
            refine lv_goto (tgt := 44) hx hb dX1_lacksTree_40 (by decide) ?_
            refine g_ior (n := la ||| 1) C0 rfl dX1_lacksTree_44 ?_
            refine lv_istore_n (lv' := [(1, .int (nI (la ||| 1))), (2, .int (nI i)), (0, .ref (h 0))]) hx hb dX1_lacksTree_45 rfl hl (by decide) rfl (fun ls hl => ?_)
            refine g_iinc (j := 1) (z := i + 1) (lv' := [(2, .int (nI (i + 1))), (1, .int (nI (la ||| 1))), (0, .ref (h 0))]) C0 rfl (by first | rfl | omega) dX1_lacksTree_46 hl (k := 1) rfl (by decide) rfl (fun ls hl => ?_)
            refine lv_goto (tgt := 4) hx hb dX1_lacksTree_49 (by decide) ?_
            exact ih4 (i + 1) (la ||| 1) (by omega) (by omega) (by exact lk_1 (P := (fun i => decide (G 1 i < G 8 0) && decide (G 2 i < G 8 0))) hla (by first | (show (decide (G 1 i < G 8 0) && decide (G 2 i < G 8 0)) = false; rw [c10]; rfl) | (show (decide (G 1 i < G 8 0) && decide (G 2 i < G 8 0)) = false; rw [c10, Bool.and_false]))) H locs ls X (lv_sub hl [0, 1, 2] rfl)
  exact J4 ((G 8 1 - 0) + 1) 0 0 (Nat.lt_succ_self _) (by omega) (by rfl) H locs ls X (lv_sub hl [0, 1, 2] rfl)
