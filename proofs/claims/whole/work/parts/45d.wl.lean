set_option maxHeartbeats 4000000 in
set_option maxRecDepth 100000 in
theorem c_X2_readWhole (l : Launch) (D : va_G) (tk : Nat → ClassId) (sK sV : Nat → Nat) (a ta tb : Nat) (hD : Nat → Nat) (K : Nat → Nat → Nat) (wt : Bool) (n : Nat) (t : Nat → Nat) (G : Nat → Nat → Nat) (d e : Nat → Nat) (hn : n ≤ 160) (ht8 : ∀ j, j < n → t j < 128) (hk3 : K 0 2 ≤ 3) : MS l yX2_readWhole cX2_readWhole 2 (some .int) ⟨6, 0, 0, 128⟩ D (TYS tk) sK sV [.ref a] (rV a ta hD K wt ++ tW tk ta tb n t ++ gW tk hD G d e) (fun (u : Nat) => u ≤ n ∧ (u = n ∨ (cIt t n (rst (K 0)) (clr G) u).1 0 ≠ 0 ∨ (cIt t n (rst (K 0)) (clr G) u).1 2 = 3) ∧ ∀ j, j < u → (cIt t n (rst (K 0)) (clr G) j).1 0 = 0 ∧ (cIt t n (rst (K 0)) (clr G) j).1 2 ≠ 3) (fun u => some (.int (nI u))) (fun u => rV a ta hD (u3 K 0 (cWR t n (K 0) G u)) ((cIt t n (rst (K 0)) (clr G) u).2.1) ++ tW tk ta tb n t ++ gW tk hD ((cIt t n (rst (K 0)) (clr G) u).2.2) d e) 0 0 := by
  refine MS.of_i (by decide) rfl ?_
  intro zp ze zs zm za zb zt zc zA zQ ls C0 hnm S0 X hl hE
  have hx := C0.1
  have hb := C0.2.1
  have ht := C0.2.2.2.2.1
  have X : Hx D zA zs zs.heap [] (rV a ta hD K wt ++ tW tk ta tb n t ++ gW tk hD G d e) := X
  have hl : lv_has ls 2 [(0, .ref a)] := hl
  obtain ⟨H, hH⟩ : ∃ H, H = zs.heap := ⟨_, rfl⟩
  rw [← hH] at X ⊢
  obtain ⟨locs, hlo⟩ : ∃ L : List Loc, L = [] := ⟨_, rfl⟩
  rw [← hlo] at X ⊢
  refine lv_aload_n hx hb dX2_readWhole_0 rfl (lv_at hl 0 rfl) ?_
  refine g_iconst (n := 0) C0 rfl dX2_readWhole_1 ?_
  refine g_put (v := .int (nI 0)) (ft := .int) C0 X kX2 0 2 tb136 rfl rfl rfl rfl rfl rfl rfl dX2_readWhole_2 (fun H locs X => ?_)
  have X : Hx D zA zs H locs (rV a ta hD (u2 K 0 0 0) wt ++ tW tk ta tb n t ++ gW tk hD G d e) := X
  refine lv_aload_n hx hb dX2_readWhole_5 rfl (lv_at hl 0 rfl) ?_
  refine g_iconst (n := 0) C0 rfl dX2_readWhole_6 ?_
  refine g_put (v := .int (nI 0)) (ft := .int) C0 X kX2 0 3 tb138 rfl rfl rfl rfl rfl rfl rfl dX2_readWhole_7 (fun H locs X => ?_)
  have X : Hx D zA zs H locs (rV a ta hD (u2 (u2 K 0 0 0) 0 1 0) wt ++ tW tk ta tb n t ++ gW tk hD G d e) := X
  refine lv_aload_n hx hb dX2_readWhole_10 rfl (lv_at hl 0 rfl) ?_
  refine g_iconst (n := 0) C0 rfl dX2_readWhole_11 ?_
  refine g_put (v := .int (nI 0)) (ft := .int) C0 X kX2 0 6 tb142 rfl rfl rfl rfl rfl rfl rfl dX2_readWhole_12 (fun H locs X => ?_)
  have X : Hx D zA zs H locs (rV a ta hD (u2 (u2 (u2 K 0 0 0) 0 1 0) 0 4 0) wt ++ tW tk ta tb n t ++ gW tk hD G d e) := X
  refine lv_aload_n hx hb dX2_readWhole_15 rfl (lv_at hl 0 rfl) ?_
  refine g_iconst (n := 0) C0 rfl dX2_readWhole_16 ?_
  refine g_put (v := .int (nI 0)) (ft := .boolean) C0 X kX2 0 7 tb143 rfl rfl rfl rfl (by decide) (by decide) rfl dX2_readWhole_17 (fun H locs X => ?_)
  have X : Hx D zA zs H locs (rV a ta hD (u2 (u2 (u2 K 0 0 0) 0 1 0) 0 4 0) false ++ tW tk ta tb n t ++ gW tk hD G d e) := X
  refine lv_aload_n hx hb dX2_readWhole_20 rfl (lv_at hl 0 rfl) ?_
  refine g_get (v := .ref (hD 0)) C0 X kX2 0 1 tb134 rfl rfl rfl dX2_readWhole_21 ?_
  refine g_callV (As := []) (rest := []) (wr := (rV a ta hD (u2 (u2 (u2 K 0 0 0) 0 1 0) 0 4 0) false ++ tW tk ta tb n t)) (C0.sz hl) X (c_X1_clear l D tk hD G d e) ⟨tb255, tb258, tb2, ⟨by decide, by decide, rfl⟩, rfl, rfl, Nat.le_of_ble_eq_true rfl, Nat.le_of_ble_eq_true rfl⟩ tb256 tb257 3 1 rfl rfl rfl rfl [3, 4, 5, 6, 7, 8, 9, 10, 11, 12] [0, 1, 2] rfl rfl rfl rfl rfl (Nat.le_of_ble_eq_true rfl) ⟨Nat.le_of_ble_eq_true rfl, Nat.le_of_ble_eq_true rfl⟩ dX2_readWhole_24 (fun _ H locs _ X => ?_)
  have X : Hx D zA zs H locs (rV a ta hD (u2 (u2 (u2 K 0 0 0) 0 1 0) 0 4 0) false ++ tW tk ta tb n t ++ gW tk hD (u2 (u2 (u2 (u2 (u2 G 8 0 0) 8 1 0) 4 0 0) 8 2 0) 8 3 0) d e) := X
  refine lv_aload_n hx hb dX2_readWhole_27 rfl (lv_at hl 0 rfl) ?_
  refine g_callV (As := []) (rest := []) (wr := (gW tk hD (u2 (u2 (u2 (u2 (u2 G 8 0 0) 8 1 0) 4 0 0) 8 2 0) 8 3 0) d e)) (C0.sz hl) X (c_X2_readToken l D tk a ta tb hD (u2 (u2 (u2 K 0 0 0) 0 1 0) 0 4 0) false n t (by first | assumption | omega) (by first | assumption | omega) (by exact Nat.zero_le _) (by exact Nat.zero_le _)) ⟨tb259, tb262, tb4, ⟨by decide, by decide, rfl⟩, rfl, rfl, Nat.le_of_ble_eq_true rfl, Nat.le_of_ble_eq_true rfl⟩ tb261 tbs0 0 2 rfl rfl rfl rfl [0, 1, 2] [3, 4, 5, 6, 7, 8, 9, 10, 11, 12] rfl rfl rfl rfl rfl (Nat.le_of_ble_eq_true rfl) ⟨Nat.le_of_ble_eq_true rfl, Nat.le_of_ble_eq_true rfl⟩ dX2_readWhole_28 (fun _ H locs _ X => ?_)
  have X : Hx D zA zs H locs (gW tk hD (u2 (u2 (u2 (u2 (u2 G 8 0 0) 8 1 0) 4 0 0) 8 2 0) 8 3 0) d e ++ rV a ta hD (u3 K 0 (cTok t n ((u2 (u2 (u2 K 0 0 0) 0 1 0) 0 4 0) 0))) false ++ tW tk ta tb n t) := X
  have X : Hx D zA zs H locs (gW tk hD ((cIt t n (rst (K 0)) (clr G) 0).2.2) d e ++ rV a ta hD (u3 K 0 ((cIt t n (rst (K 0)) (clr G) 0).1)) ((cIt t n (rst (K 0)) (clr G) 0).2.1) ++ tW tk ta tb n t) := X.to (by rw [cIt_01, cIt_02, cIt_03] <;> rfl)
  have X : Hx D zA zs H locs (rV a ta hD (u3 K 0 ((cIt t n (rst (K 0)) (clr G) 0).1)) ((cIt t n (rst (K 0)) (clr G) 0).2.1) ++ tW tk ta tb n t ++ gW tk hD ((cIt t n (rst (K 0)) (clr G) 0).2.2) d e) := X.sub [10, 11, 12, 0, 1, 2, 3, 4, 5, 6, 7, 8, 9] rfl rfl
  refine g_iconst (n := 0) C0 rfl dX2_readWhole_31 ?_
  refine lv_istore_n (lv' := [(1, .int (nI 0)), (0, .ref a)]) hx hb dX2_readWhole_32 rfl hl (by decide) rfl (fun ls hl => ?_)
  have J33 : ∀ (fz : Nat) (k : Nat), n - k < fz → ∀ (hk : k ≤ n) (hpre : ∀ j, j < k → (cIt t n (rst (K 0)) (clr G) j).1 0 = 0 ∧ (cIt t n (rst (K 0)) (clr G) j).1 2 ≠ 3) (H : Heap) (locs : List Loc) (ls : Array Slot), Hx D zA zs H locs (rV a ta hD (u3 K 0 ((cIt t n (rst (K 0)) (clr G) k).1)) ((cIt t n (rst (K 0)) (clr G) k).2.1) ++ tW tk ta tb n t ++ gW tk hD ((cIt t n (rst (K 0)) (clr G) k).2.2) d e) → lv_has ls 2 [(1, .int (nI k)), (0, .ref a)] → W zp l ze ⟨6, 0, 0, 128⟩ zs zm za zb zt zc H locs 0 0 zQ (F0 zm 33 ls []) := by
    intro fz
    induction fz with
    | zero => intro k hz; exact absurd hz (Nat.not_lt_zero _)
    | succ fz ih33 =>
      intro k hz33 hk hpre H locs ls X hl
      refine lv_iload_n hx hb dX2_readWhole_33 rfl (lv_at hl 0 rfl) ?_
      have hw := cIt_w (t := t) (n := n) (r := K 0) (G := G) hk3 k
      obtain ⟨hwI, hwD⟩ := hw
      have hb6 := hwI.2.2.2.1
      have hb3 := hwI.2.2.2.2.1
      refine lv_aload_n hx hb dX2_readWhole_34 rfl (lv_at hl 1 rfl) ?_
      refine g_get (v := .ref ta) C0 X kX2 0 0 tb132 rfl rfl rfl dX2_readWhole_35 ?_
      refine g_get (v := .int (nI n)) C0 X kX5 1 0 tb120 rfl rfl rfl dX2_readWhole_38 ?_
      refine g_icmp_ge (x := k) (y := n) (tgt := 69) C0 (by omega) (by omega) dX2_readWhole_41 rfl (fun c1 => ?_) (fun c2 => ?_)
      · refine lv_aload_n hx hb dX2_readWhole_69 rfl (lv_at hl 1 rfl) ?_
        refine g_get (v := .ref (hD 0)) C0 X kX2 0 1 tb134 rfl rfl rfl dX2_readWhole_70 ?_
        refine g_callV (As := []) (rest := []) (wr := (rV a ta hD (u3 K 0 ((cIt t n (rst (K 0)) (clr G) k).1)) ((cIt t n (rst (K 0)) (clr G) k).2.1) ++ tW tk ta tb n t)) (C0.sz hl) X (c_X1_lacksTree l D tk hD ((cIt t n (rst (K 0)) (clr G) k).2.2) d e (by exact hwD)) ⟨tb383, tb386, tb2, ⟨by decide, by decide, rfl⟩, rfl, rfl, Nat.le_of_ble_eq_true rfl, Nat.le_of_ble_eq_true rfl⟩ tb384 tb385 3 1 rfl rfl rfl rfl [3, 4, 5, 6, 7, 8, 9, 10, 11, 12] [0, 1, 2] rfl rfl rfl rfl rfl (Nat.le_of_ble_eq_true rfl) ⟨Nat.le_of_ble_eq_true rfl, Nat.le_of_ble_eq_true rfl⟩ dX2_readWhole_73 (fun _ H locs _ X => ?_)
        have X : Hx D zA zs H locs (rV a ta hD (u3 K 0 ((cIt t n (rst (K 0)) (clr G) k).1)) ((cIt t n (rst (K 0)) (clr G) k).2.1) ++ tW tk ta tb n t ++ gW tk hD ((cIt t n (rst (K 0)) (clr G) k).2.2) d e) := X
        refine g_ifeqB (x := lackB ((cIt t n (rst (K 0)) (clr G) k).2.2)) (tgt := 85) C0 dX2_readWhole_76 rfl (fun c3 => ?_) (fun c4 => ?_)
        · refine lv_iload_n hx hb dX2_readWhole_85 rfl (lv_at hl 0 rfl) ?_
          exact hE (v := nI k) k rfl (by exact ⟨hk, Or.inl (by omega), hpre⟩) (X.to (by rw [show cWR t n (K 0) G k = (cIt t n (rst (K 0)) (clr G) k).1 from if_neg (by rw [c3]; decide)] <;> rfl)) dX2_readWhole_86
        · refine lv_aload_n hx hb dX2_readWhole_79 rfl (lv_at hl 1 rfl) ?_
          refine g_bipush (n := 6) C0 (by decide) dX2_readWhole_80 ?_
          refine g_callV (As := [.int (nI 6)]) (rest := []) (wr := (tW tk ta tb n t ++ gW tk hD ((cIt t n (rst (K 0)) (clr G) k).2.2) d e)) (C0.sz hl) X (c_X2_fail l D tk a ta hD (u3 K 0 ((cIt t n (rst (K 0)) (clr G) k).1)) ((cIt t n (rst (K 0)) (clr G) k).2.1) 6 (by exact hb6)) ⟨tb271, tb274, tb4, ⟨by decide, by decide, rfl⟩, rfl, rfl, Nat.le_of_ble_eq_true rfl, Nat.le_of_ble_eq_true rfl⟩ tb273 tbs3 0 2 rfl rfl rfl rfl [0] [1, 2, 3, 4, 5, 6, 7, 8, 9, 10, 11, 12] rfl rfl rfl rfl rfl (Nat.le_of_ble_eq_true rfl) ⟨Nat.le_of_ble_eq_true rfl, Nat.le_of_ble_eq_true rfl⟩ dX2_readWhole_82 (fun _ H locs _ X => ?_)
          have X : Hx D zA zs H locs (tW tk ta tb n t ++ gW tk hD ((cIt t n (rst (K 0)) (clr G) k).2.2) d e ++ rV a ta hD (u3 K 0 (cFail ((u3 K 0 ((cIt t n (rst (K 0)) (clr G) k).1)) 0) 6)) ((cIt t n (rst (K 0)) (clr G) k).2.1)) := X
          have X : Hx D zA zs H locs (rV a ta hD (u3 K 0 (cFail ((u3 K 0 ((cIt t n (rst (K 0)) (clr G) k).1)) 0) 6)) ((cIt t n (rst (K 0)) (clr G) k).2.1) ++ tW tk ta tb n t ++ gW tk hD ((cIt t n (rst (K 0)) (clr G) k).2.2) d e) := X.sub [12, 0, 1, 2, 3, 4, 5, 6, 7, 8, 9, 10, 11] rfl rfl
          refine lv_iload_n hx hb dX2_readWhole_85 rfl (lv_at hl 0 rfl) ?_
          exact hE (v := nI k) k rfl (by exact ⟨hk, Or.inl (by omega), hpre⟩) (X.to (by rw [show cWR t n (K 0) G k = cFail ((cIt t n (rst (K 0)) (clr G) k).1) 6 from if_pos c4] <;> rfl)) dX2_readWhole_86
      · refine lv_aload_n hx hb dX2_readWhole_44 rfl (lv_at hl 1 rfl) ?_
        refine g_get (v := .int (nI (((cIt t n (rst (K 0)) (clr G) k).1) 0))) C0 X kX2 0 2 tb136 rfl rfl rfl dX2_readWhole_45 ?_
        refine g_ifne (x := ((cIt t n (rst (K 0)) (clr G) k).1) 0) (tgt := 69) C0 (by omega) dX2_readWhole_48 rfl (fun c5 => ?_) (fun c6 => ?_)
        · refine lv_aload_n hx hb dX2_readWhole_69 rfl (lv_at hl 1 rfl) ?_
          refine g_get (v := .ref (hD 0)) C0 X kX2 0 1 tb134 rfl rfl rfl dX2_readWhole_70 ?_
          refine g_callV (As := []) (rest := []) (wr := (rV a ta hD (u3 K 0 ((cIt t n (rst (K 0)) (clr G) k).1)) ((cIt t n (rst (K 0)) (clr G) k).2.1) ++ tW tk ta tb n t)) (C0.sz hl) X (c_X1_lacksTree l D tk hD ((cIt t n (rst (K 0)) (clr G) k).2.2) d e (by exact hwD)) ⟨tb383, tb386, tb2, ⟨by decide, by decide, rfl⟩, rfl, rfl, Nat.le_of_ble_eq_true rfl, Nat.le_of_ble_eq_true rfl⟩ tb384 tb385 3 1 rfl rfl rfl rfl [3, 4, 5, 6, 7, 8, 9, 10, 11, 12] [0, 1, 2] rfl rfl rfl rfl rfl (Nat.le_of_ble_eq_true rfl) ⟨Nat.le_of_ble_eq_true rfl, Nat.le_of_ble_eq_true rfl⟩ dX2_readWhole_73 (fun _ H locs _ X => ?_)
          have X : Hx D zA zs H locs (rV a ta hD (u3 K 0 ((cIt t n (rst (K 0)) (clr G) k).1)) ((cIt t n (rst (K 0)) (clr G) k).2.1) ++ tW tk ta tb n t ++ gW tk hD ((cIt t n (rst (K 0)) (clr G) k).2.2) d e) := X
          refine g_ifeqB (x := lackB ((cIt t n (rst (K 0)) (clr G) k).2.2)) (tgt := 85) C0 dX2_readWhole_76 rfl (fun c7 => ?_) (fun c8 => ?_)
          · refine lv_iload_n hx hb dX2_readWhole_85 rfl (lv_at hl 0 rfl) ?_
            exact hE (v := nI k) k rfl (by exact ⟨hk, Or.inr (Or.inl (by omega)), hpre⟩) (X.to (by rw [show cWR t n (K 0) G k = (cIt t n (rst (K 0)) (clr G) k).1 from if_neg (by rw [c7]; decide)] <;> rfl)) dX2_readWhole_86
          · refine lv_aload_n hx hb dX2_readWhole_79 rfl (lv_at hl 1 rfl) ?_
            refine g_bipush (n := 6) C0 (by decide) dX2_readWhole_80 ?_
            refine g_callV (As := [.int (nI 6)]) (rest := []) (wr := (tW tk ta tb n t ++ gW tk hD ((cIt t n (rst (K 0)) (clr G) k).2.2) d e)) (C0.sz hl) X (c_X2_fail l D tk a ta hD (u3 K 0 ((cIt t n (rst (K 0)) (clr G) k).1)) ((cIt t n (rst (K 0)) (clr G) k).2.1) 6 (by exact hb6)) ⟨tb271, tb274, tb4, ⟨by decide, by decide, rfl⟩, rfl, rfl, Nat.le_of_ble_eq_true rfl, Nat.le_of_ble_eq_true rfl⟩ tb273 tbs3 0 2 rfl rfl rfl rfl [0] [1, 2, 3, 4, 5, 6, 7, 8, 9, 10, 11, 12] rfl rfl rfl rfl rfl (Nat.le_of_ble_eq_true rfl) ⟨Nat.le_of_ble_eq_true rfl, Nat.le_of_ble_eq_true rfl⟩ dX2_readWhole_82 (fun _ H locs _ X => ?_)
            have X : Hx D zA zs H locs (tW tk ta tb n t ++ gW tk hD ((cIt t n (rst (K 0)) (clr G) k).2.2) d e ++ rV a ta hD (u3 K 0 (cFail ((u3 K 0 ((cIt t n (rst (K 0)) (clr G) k).1)) 0) 6)) ((cIt t n (rst (K 0)) (clr G) k).2.1)) := X
            have X : Hx D zA zs H locs (rV a ta hD (u3 K 0 (cFail ((u3 K 0 ((cIt t n (rst (K 0)) (clr G) k).1)) 0) 6)) ((cIt t n (rst (K 0)) (clr G) k).2.1) ++ tW tk ta tb n t ++ gW tk hD ((cIt t n (rst (K 0)) (clr G) k).2.2) d e) := X.sub [12, 0, 1, 2, 3, 4, 5, 6, 7, 8, 9, 10, 11] rfl rfl
            refine lv_iload_n hx hb dX2_readWhole_85 rfl (lv_at hl 0 rfl) ?_
            exact hE (v := nI k) k rfl (by exact ⟨hk, Or.inr (Or.inl (by omega)), hpre⟩) (X.to (by rw [show cWR t n (K 0) G k = cFail ((cIt t n (rst (K 0)) (clr G) k).1) 6 from if_pos c8] <;> rfl)) dX2_readWhole_86
        · refine lv_aload_n hx hb dX2_readWhole_51 rfl (lv_at hl 1 rfl) ?_
          refine g_get (v := .int (nI (((cIt t n (rst (K 0)) (clr G) k).1) 2))) C0 X kX2 0 4 tb140 rfl rfl rfl dX2_readWhole_52 ?_
          refine g_iconst (n := 3) C0 rfl dX2_readWhole_55 ?_
          refine g_icmp_eq (x := ((cIt t n (rst (K 0)) (clr G) k).1) 2) (y := 3) (tgt := 69) C0 (by omega) (by omega) dX2_readWhole_56 rfl (fun c9 => ?_) (fun c10 => ?_)
          · refine lv_aload_n hx hb dX2_readWhole_69 rfl (lv_at hl 1 rfl) ?_
            refine g_get (v := .ref (hD 0)) C0 X kX2 0 1 tb134 rfl rfl rfl dX2_readWhole_70 ?_
            refine g_callV (As := []) (rest := []) (wr := (rV a ta hD (u3 K 0 ((cIt t n (rst (K 0)) (clr G) k).1)) ((cIt t n (rst (K 0)) (clr G) k).2.1) ++ tW tk ta tb n t)) (C0.sz hl) X (c_X1_lacksTree l D tk hD ((cIt t n (rst (K 0)) (clr G) k).2.2) d e (by exact hwD)) ⟨tb383, tb386, tb2, ⟨by decide, by decide, rfl⟩, rfl, rfl, Nat.le_of_ble_eq_true rfl, Nat.le_of_ble_eq_true rfl⟩ tb384 tb385 3 1 rfl rfl rfl rfl [3, 4, 5, 6, 7, 8, 9, 10, 11, 12] [0, 1, 2] rfl rfl rfl rfl rfl (Nat.le_of_ble_eq_true rfl) ⟨Nat.le_of_ble_eq_true rfl, Nat.le_of_ble_eq_true rfl⟩ dX2_readWhole_73 (fun _ H locs _ X => ?_)
            have X : Hx D zA zs H locs (rV a ta hD (u3 K 0 ((cIt t n (rst (K 0)) (clr G) k).1)) ((cIt t n (rst (K 0)) (clr G) k).2.1) ++ tW tk ta tb n t ++ gW tk hD ((cIt t n (rst (K 0)) (clr G) k).2.2) d e) := X
            refine g_ifeqB (x := lackB ((cIt t n (rst (K 0)) (clr G) k).2.2)) (tgt := 85) C0 dX2_readWhole_76 rfl (fun c11 => ?_) (fun c12 => ?_)
            · refine lv_iload_n hx hb dX2_readWhole_85 rfl (lv_at hl 0 rfl) ?_
              exact hE (v := nI k) k rfl (by exact ⟨hk, Or.inr (Or.inr (by omega)), hpre⟩) (X.to (by rw [show cWR t n (K 0) G k = (cIt t n (rst (K 0)) (clr G) k).1 from if_neg (by rw [c11]; decide)] <;> rfl)) dX2_readWhole_86
            · refine lv_aload_n hx hb dX2_readWhole_79 rfl (lv_at hl 1 rfl) ?_
              refine g_bipush (n := 6) C0 (by decide) dX2_readWhole_80 ?_
              refine g_callV (As := [.int (nI 6)]) (rest := []) (wr := (tW tk ta tb n t ++ gW tk hD ((cIt t n (rst (K 0)) (clr G) k).2.2) d e)) (C0.sz hl) X (c_X2_fail l D tk a ta hD (u3 K 0 ((cIt t n (rst (K 0)) (clr G) k).1)) ((cIt t n (rst (K 0)) (clr G) k).2.1) 6 (by exact hb6)) ⟨tb271, tb274, tb4, ⟨by decide, by decide, rfl⟩, rfl, rfl, Nat.le_of_ble_eq_true rfl, Nat.le_of_ble_eq_true rfl⟩ tb273 tbs3 0 2 rfl rfl rfl rfl [0] [1, 2, 3, 4, 5, 6, 7, 8, 9, 10, 11, 12] rfl rfl rfl rfl rfl (Nat.le_of_ble_eq_true rfl) ⟨Nat.le_of_ble_eq_true rfl, Nat.le_of_ble_eq_true rfl⟩ dX2_readWhole_82 (fun _ H locs _ X => ?_)
              have X : Hx D zA zs H locs (tW tk ta tb n t ++ gW tk hD ((cIt t n (rst (K 0)) (clr G) k).2.2) d e ++ rV a ta hD (u3 K 0 (cFail ((u3 K 0 ((cIt t n (rst (K 0)) (clr G) k).1)) 0) 6)) ((cIt t n (rst (K 0)) (clr G) k).2.1)) := X
              have X : Hx D zA zs H locs (rV a ta hD (u3 K 0 (cFail ((u3 K 0 ((cIt t n (rst (K 0)) (clr G) k).1)) 0) 6)) ((cIt t n (rst (K 0)) (clr G) k).2.1) ++ tW tk ta tb n t ++ gW tk hD ((cIt t n (rst (K 0)) (clr G) k).2.2) d e) := X.sub [12, 0, 1, 2, 3, 4, 5, 6, 7, 8, 9, 10, 11] rfl rfl
              refine lv_iload_n hx hb dX2_readWhole_85 rfl (lv_at hl 0 rfl) ?_
              exact hE (v := nI k) k rfl (by exact ⟨hk, Or.inr (Or.inr (by omega)), hpre⟩) (X.to (by rw [show cWR t n (K 0) G k = cFail ((cIt t n (rst (K 0)) (clr G) k).1) 6 from if_pos c12] <;> rfl)) dX2_readWhole_86
          · refine lv_aload_n hx hb dX2_readWhole_59 rfl (lv_at hl 1 rfl) ?_
            refine g_callVs (As := []) (rest := []) (wr := []) (C0.sz hl) S0 X (c_X2_readLine l D tk sK sV a ta tb hD (u3 K 0 ((cIt t n (rst (K 0)) (clr G) k).1)) ((cIt t n (rst (K 0)) (clr G) k).2.1) n t ((cIt t n (rst (K 0)) (clr G) k).2.2) d e (by exact hn) (by exact ht8) (by exact hwI) (by exact hwD) (by show (cIt t n (rst (K 0)) (clr G) k).1 0 = 0; omega)) ⟨tb275, tb278, tb4, ⟨by decide, by decide, rfl⟩, rfl, rfl, Nat.le_of_ble_eq_true rfl, Nat.le_of_ble_eq_true rfl⟩ tb277 tbs4 0 2 rfl rfl rfl rfl [0, 1, 2, 3, 4, 5, 6, 7, 8, 9, 10, 11, 12] [] rfl rfl rfl rfl rfl (Nat.le_of_ble_eq_true rfl) ⟨Nat.le_of_ble_eq_true rfl, Nat.le_of_ble_eq_true rfl⟩ dX2_readWhole_60 (fun _ H locs _ X => ?_)
            have X : Hx D zA zs H locs (rV a ta hD (u3 K 0 (cLineR t n ((u3 K 0 ((cIt t n (rst (K 0)) (clr G) k).1)) 0) ((cIt t n (rst (K 0)) (clr G) k).2.1) ((cIt t n (rst (K 0)) (clr G) k).2.2))) (cLineW t ((u3 K 0 ((cIt t n (rst (K 0)) (clr G) k).1)) 0) ((cIt t n (rst (K 0)) (clr G) k).2.1)) ++ tW tk ta tb n t ++ gW tk hD (cLineG t n ((u3 K 0 ((cIt t n (rst (K 0)) (clr G) k).1)) 0) ((cIt t n (rst (K 0)) (clr G) k).2.1) ((cIt t n (rst (K 0)) (clr G) k).2.2)) d e) := X
            have X : Hx D zA zs H locs (rV a ta hD (u3 K 0 ((cIt t n (rst (K 0)) (clr G) (k + 1)).1)) ((cIt t n (rst (K 0)) (clr G) (k + 1)).2.1) ++ tW tk ta tb n t ++ gW tk hD ((cIt t n (rst (K 0)) (clr G) (k + 1)).2.2) d e) := X.to (by rw [cIt_1, cIt_2, cIt_3] <;> rfl)
            refine g_iinc (j := 1) (z := k + 1) (lv' := [(1, .int (nI (k + 1))), (0, .ref a)]) C0 rfl (by first | rfl | omega) dX2_readWhole_63 hl (k := 0) rfl (by decide) rfl (fun ls hl => ?_)
            refine lv_goto (tgt := 33) hx hb dX2_readWhole_66 (by decide) ?_
            exact ih33 (k + 1) (by omega) (by omega) (by intro j hj; exact (Decidable.em (j = k)).elim (fun e => by rw [e]; exact ⟨by omega, by omega⟩) (fun e => hpre j (by omega))) H locs ls X (lv_sub hl [0, 1] rfl)
  exact J33 ((n - 0) + 1) 0 (Nat.lt_succ_self _) (by omega) (by intro j hj; exact absurd hj (Nat.not_lt_zero j)) H locs ls X (lv_sub hl [0, 1] rfl)
