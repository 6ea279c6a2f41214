set_option maxHeartbeats 4000000 in
set_option maxRecDepth 100000 in
theorem c_X7_in (l : Launch) (D : va_G) (tk : Nat → ClassId) (x lo hi1 : Int64) : MX l yX7_in cX7_in 6 (some .boolean) ⟨0, 0, 0, 0⟩ D (TYS tk) [.long x, .long lo, .long hi1] ([]) (fun (_ : Unit) => True) (fun _ => some (.int (nI (rb (inL x lo hi1))))) (fun _ => []) 0 0 := by
  refine MX.of_z (by decide) rfl ?_
  intro zp ze zs zm za zb zt zc zA zQ ls C0 hnm X hl hE
  have hx := C0.1
  have hb := C0.2.1
  have ht := C0.2.2.2.2.1
  have X : Hx D zA zs zs.heap [] ([]) := X
  have hl : lv_has ls 6 [(0, .long x), (2, .long lo), (4, .long hi1)] := hl
  obtain ⟨H, hH⟩ : ∃ H, H = zs.heap := ⟨_, rfl⟩
  rw [← hH] at X ⊢
  obtain ⟨locs, hlo⟩ : ∃ L : List Loc, L = [] := ⟨_, rfl⟩
  rw [← hlo] at X ⊢
  refine lv_lload_n hx hb dX7_in_0 rfl (lv_at hl 0 rfl) ?_
  refine lv_lload_n hx hb dX7_in_1 rfl (lv_at hl 1 rfl) ?_
  refine g_lcmpR_lt (x := x) (y := lo) C0 dX7_in_2 dX7_in_3 rfl (fun c1 => ?_) (fun c2 => ?_)
  · refine g_iconst (n := 0) C0 rfl dX7_in_17 ?_
    exact hE (v := false) () (by simp [inL, ← Int64.not_lt, c1]) trivial X dX7_in_18
  · refine lv_lload_n hx hb dX7_in_6 rfl (lv_at hl 0 rfl) ?_
    refine lv_lload hx hb dX7_in_7 (lv_at hl 2 rfl) ?_
    refine g_lcmpR_gt (x := x) (y := hi1) C0 dX7_in_9 dX7_in_10 rfl (fun c3 => ?_) (fun c4 => ?_)
    · refine g_iconst (n := 0) C0 rfl dX7_in_17 ?_
      exact hE (v := false) () (by simp [inL, ← Int64.not_lt, c2, c3]) trivial X dX7_in_18
    · refine g_iconst (n := 1) C0 rfl dX7_in_13 ?_
      refine lv_goto (tgt := 18) hx hb dX7_in_14 (by decide) ?_
      exact hE (v := true) () (by simp [inL, ← Int64.not_lt, c2, c4]) trivial X dX7_in_18
set_option maxHeartbeats 4000000 in
set_option maxRecDepth 100000 in
theorem c_X7_isTree (l : Launch) (D : va_G) (tk : Nat → ClassId) (h : Nat → Nat) (Mt : Nat → Nat → Nat) (hi : Int32) (la ce : Nat → Int32) (t : Int32) (hn : Mt 20 0 < 2 ^ 31) : MX l yX7_isTree cX7_isTree 2 (some .boolean) ⟨1, 0, 0, 25⟩ D (TYS tk) [.ref (h 0), .int t] (mW tk h Mt hi la ce) (fun (_ : Unit) => True) (fun _ => some (.int (nI (rb (ix t (Mt 20 0)))))) (fun _ => mW tk h Mt hi la ce) 0 0 := by
  refine MX.of_z (by decide) rfl ?_
  intro zp ze zs zm za zb zt zc zA zQ ls C0 hnm X hl hE
  have hx := C0.1
  have hb := C0.2.1
  have ht := C0.2.2.2.2.1
  have X : Hx D zA zs zs.heap [] (mW tk h Mt hi la ce) := X
  have hl : lv_has ls 2 [(0, .ref (h 0)), (1, .int t)] := hl
  obtain ⟨H, hH⟩ : ∃ H, H = zs.heap := ⟨_, rfl⟩
  rw [← hH] at X ⊢
  obtain ⟨locs, hlo⟩ : ∃ L : List Loc, L = [] := ⟨_, rfl⟩
  rw [← hlo] at X ⊢
  refine lv_iload_n hx hb dX7_isTree_0 rfl (lv_at hl 1 rfl) ?_
  refine lv_i2l hx hb dX7_isTree_1 rfl ?_
  refine g_lconst (n := 0) C0 rfl dX7_isTree_2 ?_
  refine lv_aload_n hx hb dX7_isTree_3 rfl (lv_at hl 0 rfl) ?_
  refine g_get (v := .int (nI (Mt 20 0))) C0 X kX7 0 1 tb798 rfl rfl rfl dX7_isTree_4 ?_
  refine g_iconst (n := 1) C0 rfl dX7_isTree_7 ?_
  refine lv_isub hx hb dX7_isTree_8 ?_
  refine lv_i2l hx hb dX7_isTree_9 rfl ?_
  refine g_callS (As := [.long (Int32.toInt64 t), .long (lN 0), .long (Int32.toInt64 ((nI (Mt 20 0)) - (nI 1)))]) (rest := []) (wr := (mW tk h Mt hi la ce)) (C0.sz hl) X (c_X7_in l D tk (Int32.toInt64 t) (lN 0) (Int32.toInt64 ((nI (Mt 20 0)) - (nI 1)))) ⟨tb885, tb887, tb8, ⟨by decide, by decide, rfl⟩, rfl, rfl, Nat.le_of_ble_eq_true rfl, Nat.le_of_ble_eq_true rfl⟩ tb886 rfl [] [0, 1, 2, 3, 4, 5, 6, 7, 8, 9, 10, 11, 12, 13] rfl rfl rfl rfl rfl (Nat.le_of_ble_eq_true rfl) ⟨Nat.le_of_ble_eq_true rfl, Nat.le_of_ble_eq_true rfl⟩ dX7_isTree_10 (fun _ H locs _ X => ?_)
  have X : Hx D zA zs H locs (mW tk h Mt hi la ce) := X
  exact hE (v := inL (Int32.toInt64 t) (lN 0) (Int32.toInt64 ((nI (Mt 20 0)) - (nI 1)))) () (by rw [inL_ix t hn]) trivial X dX7_isTree_13
set_option maxHeartbeats 4000000 in
set_option maxRecDepth 100000 in
theorem c_X7_isRoot (l : Launch) (D : va_G) (tk : Nat → ClassId) (h : Nat → Nat) (Mt : Nat → Nat → Nat) (hi : Int32) (la ce : Nat → Int32) (t : Int32) (hn : Mt 0 42 < 2 ^ 31) : MX l yX7_isRoot cX7_isRoot 2 (some .boolean) ⟨1, 0, 0, 25⟩ D (TYS tk) [.ref (h 0), .int t] (mW tk h Mt hi la ce) (fun (_ : Unit) => True) (fun _ => some (.int (nI (rb (ix t (Mt 0 42)))))) (fun _ => mW tk h Mt hi la ce) 0 0 := by
  refine MX.of_z (by decide) rfl ?_
  intro zp ze zs zm za zb zt zc zA zQ ls C0 hnm X hl hE
  have hx := C0.1
  have hb := C0.2.1
  have ht := C0.2.2.2.2.1
  have X : Hx D zA zs zs.heap [] (mW tk h Mt hi la ce) := X
  have hl : lv_has ls 2 [(0, .ref (h 0)), (1, .int t)] := hl
  obtain ⟨H, hH⟩ : ∃ H, H = zs.heap := ⟨_, rfl⟩
  rw [← hH] at X ⊢
  obtain ⟨locs, hlo⟩ : ∃ L : List Loc, L = [] := ⟨_, rfl⟩
  rw [← hlo] at X ⊢
  refine lv_iload_n hx hb dX7_isRoot_0 rfl (lv_at hl 1 rfl) ?_
  refine lv_i2l hx hb dX7_isRoot_1 rfl ?_
  refine g_lconst (n := 0) C0 rfl dX7_isRoot_2 ?_
  refine lv_aload_n hx hb dX7_isRoot_3 rfl (lv_at hl 0 rfl) ?_
  refine g_get (v := .ref (h 1)) C0 X kX7 0 0 tb797 rfl rfl rfl dX7_isRoot_4 ?_
  refine g_bipush (n := 42) C0 (by decide) dX7_isRoot_7 ?_
  refine g_iald (v := nI (Mt 0 42)) (i := 42) C0 X 1 0 rfl rfl (by omega) rfl rfl dX7_isRoot_9 ?_
  refine g_iconst (n := 1) C0 rfl dX7_isRoot_10 ?_
  refine lv_isub hx hb dX7_isRoot_11 ?_
  refine lv_i2l hx hb dX7_isRoot_12 rfl ?_
  refine g_callS (As := [.long (Int32.toInt64 t), .long (lN 0), .long (Int32.toInt64 ((nI (Mt 0 42)) - (nI 1)))]) (rest := []) (wr := (mW tk h Mt hi la ce)) (C0.sz hl) X (c_X7_in l D tk (Int32.toInt64 t) (lN 0) (Int32.toInt64 ((nI (Mt 0 42)) - (nI 1)))) ⟨tb885, tb887, tb8, ⟨by decide, by decide, rfl⟩, rfl, rfl, Nat.le_of_ble_eq_true rfl, Nat.le_of_ble_eq_true rfl⟩ tb886 rfl [] [0, 1, 2, 3, 4, 5, 6, 7, 8, 9, 10, 11, 12, 13] rfl rfl rfl rfl rfl (Nat.le_of_ble_eq_true rfl) ⟨Nat.le_of_ble_eq_true rfl, Nat.le_of_ble_eq_true rfl⟩ dX7_isRoot_13 (fun _ H locs _ X => ?_)
  have X : Hx D zA zs H locs (mW tk h Mt hi la ce) := X
  exact hE (v := inL (Int32.toInt64 t) (lN 0) (Int32.toInt64 ((nI (Mt 0 42)) - (nI 1)))) () (by rw [inL_ix t hn]) trivial X dX7_isRoot_16
set_option maxHeartbeats 4000000 in
set_option maxRecDepth 100000 in
theorem c_X7_isTalk (l : Launch) (D : va_G) (tk : Nat → ClassId) (h : Nat → Nat) (Mt : Nat → Nat → Nat) (hi : Int32) (la ce : Nat → Int32) (t : Int32) (hn : Mt 0 62 < 2 ^ 31) : MX l yX7_isTalk cX7_isTalk 2 (some .boolean) ⟨1, 0, 0, 25⟩ D (TYS tk) [.ref (h 0), .int t] (mW tk h Mt hi la ce) (fun (_ : Unit) => True) (fun _ => some (.int (nI (rb (ix t (Mt 0 62)))))) (fun _ => mW tk h Mt hi la ce) 0 0 := by
  refine MX.of_z (by decide) rfl ?_
  intro zp ze zs zm za zb zt zc zA zQ ls C0 hnm X hl hE
  have hx := C0.1
  have hb := C0.2.1
  have ht := C0.2.2.2.2.1
  have X : Hx D zA zs zs.heap [] (mW tk h Mt hi la ce) := X
  have hl : lv_has ls 2 [(0, .ref (h 0)), (1, .int t)] := hl
  obtain ⟨H, hH⟩ : ∃ H, H = zs.heap := ⟨_, rfl⟩
  rw [← hH] at X ⊢
  obtain ⟨locs, hlo⟩ : ∃ L : List Loc, L = [] := ⟨_, rfl⟩
  rw [← hlo] at X ⊢
  refine lv_iload_n hx hb dX7_isTalk_0 rfl (lv_at hl 1 rfl) ?_
  refine lv_i2l hx hb dX7_isTalk_1 rfl ?_
  refine g_lconst (n := 0) C0 rfl dX7_isTalk_2 ?_
  refine lv_aload_n hx hb dX7_isTalk_3 rfl (lv_at hl 0 rfl) ?_
  refine g_get (v := .ref (h 1)) C0 X kX7 0 0 tb797 rfl rfl rfl dX7_isTalk_4 ?_
  refine g_bipush (n := 62) C0 (by decide) dX7_isTalk_7 ?_
  refine g_iald (v := nI (Mt 0 62)) (i := 62) C0 X 1 0 rfl rfl (by omega) rfl rfl dX7_isTalk_9 ?_
  refine g_iconst (n := 1) C0 rfl dX7_isTalk_10 ?_
  refine lv_isub hx hb dX7_isTalk_11 ?_
  refine lv_i2l hx hb dX7_isTalk_12 rfl ?_
  refine g_callS (As := [.long (Int32.toInt64 t), .long (lN 0), .long (Int32.toInt64 ((nI (Mt 0 62)) - (nI 1)))]) (rest := []) (wr := (mW tk h Mt hi la ce)) (C0.sz hl) X (c_X7_in l D tk (Int32.toInt64 t) (lN 0) (Int32.toInt64 ((nI (Mt 0 62)) - (nI 1)))) ⟨tb885, tb887, tb8, ⟨by decide, by decide, rfl⟩, rfl, rfl, Nat.le_of_ble_eq_true rfl, Nat.le_of_ble_eq_true rfl⟩ tb886 rfl [] [0, 1, 2, 3, 4, 5, 6, 7, 8, 9, 10, 11, 12, 13] rfl rfl rfl rfl rfl (Nat.le_of_ble_eq_true rfl) ⟨Nat.le_of_ble_eq_true rfl, Nat.le_of_ble_eq_true rfl⟩ dX7_isTalk_13 (fun _ H locs _ X => ?_)
  have X : Hx D zA zs H locs (mW tk h Mt hi la ce) := X
  exact hE (v := inL (Int32.toInt64 t) (lN 0) (Int32.toInt64 ((nI (Mt 0 62)) - (nI 1)))) () (by rw [inL_ix t hn]) trivial X dX7_isTalk_16
set_option maxHeartbeats 4000000 in
set_option maxRecDepth 100000 in
theorem c_X7_isBreath (l : Launch) (D : va_G) (tk : Nat → ClassId) (x : Int32) : MX l yX7_isBreath cX7_isBreath 1 (some .boolean) ⟨1, 0, 0, 25⟩ D (TYS tk) [.int x] ([]) (fun (_ : Unit) => True) (fun _ => some (.int (nI (rb (rg x 1 60))))) (fun _ => []) 0 0 := by
  refine MX.of_z (by decide) rfl ?_
  intro zp ze zs zm za zb zt zc zA zQ ls C0 hnm X hl hE
  have hx := C0.1
  have hb := C0.2.1
  have ht := C0.2.2.2.2.1
  have X : Hx D zA zs zs.heap [] ([]) := X
  have hl : lv_has ls 1 [(0, .int x)] := hl
  obtain ⟨H, hH⟩ : ∃ H, H = zs.heap := ⟨_, rfl⟩
  rw [← hH] at X ⊢
  obtain ⟨locs, hlo⟩ : ∃ L : List Loc, L = [] := ⟨_, rfl⟩
  rw [← hlo] at X ⊢
  refine lv_iload_n hx hb dX7_isBreath_0 rfl (lv_at hl 0 rfl) ?_
  refine lv_i2l hx hb dX7_isBreath_1 rfl ?_
  refine g_lconst (n := 1) C0 rfl dX7_isBreath_2 ?_
  refine lv_ldc2 (v := lN 60) hx hb C0.2.2.2.1 (ht _ tb1012) dX7_isBreath_3 ?_
  refine g_callS (As := [.long (Int32.toInt64 x), .long (lN 1), .long (lN 60)]) (rest := []) (wr := []) (C0.sz hl) X (c_X7_in l D tk (Int32.toInt64 x) (lN 1) (lN 60)) ⟨tb885, tb887, tb8, ⟨by decide, by decide, rfl⟩, rfl, rfl, Nat.le_of_ble_eq_true rfl, Nat.le_of_ble_eq_true rfl⟩ tb886 rfl [] [] rfl rfl rfl rfl rfl (Nat.le_of_ble_eq_true rfl) ⟨Nat.le_of_ble_eq_true rfl, Nat.le_of_ble_eq_true rfl⟩ dX7_isBreath_6 (fun _ H locs _ X => ?_)
  have X : Hx D zA zs H locs ([]) := X
  refine g_top (y := nI (rb (rg x 1 60))) (by rw [inL_rg x (by first | decide | omega) (by first | decide | omega)]) ?_
  exact hE (v := rg x 1 60) () (by first | rfl | rw [inL_rg x (by decide) (by decide)]) trivial X dX7_isBreath_9
set_option maxHeartbeats 4000000 in
set_option maxRecDepth 100000 in
theorem c_X7_isSome (l : Launch) (D : va_G) (tk : Nat → ClassId) (h : Nat → Nat) (Mt : Nat → Nat → Nat) (hi : Int32) (la ce : Nat → Int32) (x : Int32) (hn : Mt 20 0 ≤ 6) : MX l yX7_isSome cX7_isSome 2 (some .boolean) ⟨1, 0, 0, 25⟩ D (TYS tk) [.ref (h 0), .int x] (mW tk h Mt hi la ce) (fun (_ : Unit) => True) (fun _ => some (.int (nI (rb (rg x 0 (2 ^ Mt 20 0 - 1)))))) (fun _ => mW tk h Mt hi la ce) 0 0 := by
  refine MX.of_z (by decide) rfl ?_
  intro zp ze zs zm za zb zt zc zA zQ ls C0 hnm X hl hE
  have hx := C0.1
  have hb := C0.2.1
  have ht := C0.2.2.2.2.1
  have X : Hx D zA zs zs.heap [] (mW tk h Mt hi la ce) := X
  have hl : lv_has ls 2 [(0, .ref (h 0)), (1, .int x)] := hl
  have hp := Nat.pow_le_pow_right (n := 2) (by decide) hn
  obtain ⟨H, hH⟩ : ∃ H, H = zs.heap := ⟨_, rfl⟩
  rw [← hH] at X ⊢
  obtain ⟨locs, hlo⟩ : ∃ L : List Loc, L = [] := ⟨_, rfl⟩
  rw [← hlo] at X ⊢
  refine lv_iload_n hx hb dX7_isSome_0 rfl (lv_at hl 1 rfl) ?_
  refine lv_i2l hx hb dX7_isSome_1 rfl ?_
  refine g_lconst (n := 0) C0 rfl dX7_isSome_2 ?_
  refine g_iconst (n := 1) C0 rfl dX7_isSome_3 ?_
  refine lv_aload_n hx hb dX7_isSome_4 rfl (lv_at hl 0 rfl) ?_
  refine g_get (v := .int (nI (Mt 20 0))) C0 X kX7 0 1 tb798 rfl rfl rfl dX7_isSome_5 ?_
  refine g_ishl (n := 2 ^ (Mt 20 0)) C0 (by exact sh_ok (by omega)) (by first | exact Nat.one_mul _ | rfl) dX7_isSome_8 ?_
  refine g_iconst (n := 1) C0 rfl dX7_isSome_9 ?_
  refine g_isub (n := (2 ^ (Mt 20 0)) - 1) C0 (by exact Nat.one_le_two_pow) rfl dX7_isSome_10 ?_
  refine g_i2l C0 (by omega) dX7_isSome_11 ?_
  refine g_callS (As := [.long (Int32.toInt64 x), .long (lN 0), .long (lN ((2 ^ (Mt 20 0)) - 1))]) (rest := []) (wr := (mW tk h Mt hi la ce)) (C0.sz hl) X (c_X7_in l D tk (Int32.toInt64 x) (lN 0) (lN ((2 ^ (Mt 20 0)) - 1))) ⟨tb885, tb887, tb8, ⟨by decide, by decide, rfl⟩, rfl, rfl, Nat.le_of_ble_eq_true rfl, Nat.le_of_ble_eq_true rfl⟩ tb886 rfl [] [0, 1, 2, 3, 4, 5, 6, 7, 8, 9, 10, 11, 12, 13] rfl rfl rfl rfl rfl (Nat.le_of_ble_eq_true rfl) ⟨Nat.le_of_ble_eq_true rfl, Nat.le_of_ble_eq_true rfl⟩ dX7_isSome_12 (fun _ H locs _ X => ?_)
  have X : Hx D zA zs H locs (mW tk h Mt hi la ce) := X
  refine g_top (y := nI (rb (rg x 0 ((2 ^ (Mt 20 0)) - 1)))) (by rw [inL_rg x (by first | decide | omega) (by first | decide | omega)]) ?_
  exact hE (v := rg x 0 ((2 ^ (Mt 20 0)) - 1)) () (by first | rfl | rw [inL_rgN x (by omega)]) trivial X dX7_isSome_15
set_option maxHeartbeats 4000000 in
set_option maxRecDepth 100000 in
theorem c_X7_waysOn (l : Launch) (D : va_G) (tk : Nat → ClassId) (h : Nat → Nat) (Mt : Nat → Nat → Nat) (hi : Int32) (la ce : Nat → Int32) (p t : Nat) (hp : p ≤ 252) (hW : VW (pgv Mt p)) (ht0 : t < 6) : MX l yX7_waysOn cX7_waysOn 9 none ⟨0, 0, 0, 0⟩ D (TYS tk) [.ref (h 0), .int (nI p), .int (nI t)] (mW tk h Mt hi la ce) (fun (_ : Unit) => True) (fun _ => none) (fun _ => mW tk h (u3 Mt 6 (dist (pgv Mt p) t)) hi la ce) 0 0 := by
  refine MX.of_v (by decide) rfl ?_
  intro zp ze zs zm za zb zt zc zA zQ ls C0 hnm X hl hE
  have hx := C0.1
  have hb := C0.2.1
  have ht := C0.2.2.2.2.1
  have X : Hx D zA zs zs.heap [] (mW tk h Mt hi la ce) := X
  have hl : lv_has ls 9 [(0, .ref (h 0)), (1, .int (nI p)), (2, .int (nI t))] := hl
  obtain ⟨hv1, hv2, hv3, hv4, hv5, hv6, hv7⟩ := id hW
  have hb1 : Mt 20 0 ≤ 6 := hv1
  have hb2 : Mt 0 (p + 42) ≤ 9 := hv2
  obtain ⟨H, hH⟩ : ∃ H, H = zs.heap := ⟨_, rfl⟩
  rw [← hH] at X ⊢
  obtain ⟨locs, hlo⟩ : ∃ L : List Loc, L = [] := ⟨_, rfl⟩
  rw [← hlo] at X ⊢
  refine g_iconst (n := 0) C0 rfl dX7_waysOn_0 ?_
  refine lv_istore_n (lv' := [(3, .int (nI 0)), (0, .ref (h 0)), (1, .int (nI p)), (2, .int (nI t))]) hx hb dX7_waysOn_1 rfl hl (by decide) rfl (fun ls hl => ?_)
  have J2 : ∀ (fz : Nat) (i : Nat) (w1 : Nat → Nat), 6 - i < fz → ∀ (hi1 : i ≤ 6) (hd0 : ∀ j, j < i → w1 j = dz t j) (H : Heap) (locs : List Loc) (ls : Array Slot), Hx D zA zs H locs (mW tk h (u3 Mt 6 w1) hi la ce) → lv_has ls 9 [(3, .int (nI i)), (0, .ref (h 0)), (1, .int (nI p)), (2, .int (nI t))] → W zp l ze ⟨0, 0, 0, 0⟩ zs zm za zb zt zc H locs 0 0 zQ (F0 zm 2 ls []) := by
    intro fz
    induction fz with
    | zero => intro i w1 hz; exact absurd hz (Nat.not_lt_zero _)
    | succ fz ih2 =>
      intro i w1 hz2 hi1 hd0 H locs ls X hl
      refine lv_iload_n hx hb dX7_waysOn_2 rfl (lv_at hl 0 rfl) ?_
      refine g_bipush (n := 6) C0 (by decide) dX7_waysOn_3 ?_
      refine g_icmp_ge (x := i) (y := 6) (tgt := 32) C0 (by omega) (by omega) dX7_waysOn_5 rfl (fun c1 => ?_) (fun c2 => ?_)
      · refine g_iconst (n := 0) C0 rfl dX7_waysOn_32 ?_
        refine lv_istore_n (lv' := [(3, .int (nI 0)), (0, .ref (h 0)), (1, .int (nI p)), (2, .int (nI t))]) hx hb dX7_waysOn_33 rfl hl (by decide) rfl (fun ls hl => ?_)
        have J34 : ∀ (fz : Nat) (kk : Nat) (w1 : Nat → Nat), 6 - kk < fz → ∀ (hk6 : kk ≤ 6) (hd1 : ∀ x, x < 6 → w1 x = rnds (pgv Mt p) (dz t) kk x) (H : Heap) (locs : List Loc) (ls : Array Slot), Hx D zA zs H locs (mW tk h (u3 Mt 6 w1) hi la ce) → lv_has ls 9 [(3, .int (nI kk)), (0, .ref (h 0)), (1, .int (nI p)), (2, .int (nI t))] → W zp l ze ⟨0, 0, 0, 0⟩ zs zm za zb zt zc H locs 0 0 zQ (F0 zm 34 ls []) := by
          intro fz
          induction fz with
          | zero => intro kk w1 hz; exact absurd hz (Nat.not_lt_zero _)
          | succ fz ih34 =>
            intro kk w1 hz34 hk6 hd1 H locs ls X hl
            refine lv_iload_n hx hb dX7_waysOn_34 rfl (lv_at hl 0 rfl) ?_
            refine g_bipush (n := 6) C0 (by decide) dX7_waysOn_35 ?_
            refine g_icmp_ge (x := kk) (y := 6) (tgt := 237) C0 (by omega) (by omega) dX7_waysOn_37 rfl (fun c3 => ?_) (fun c4 => ?_)
            · have X := X.cong (g := nf (dist (pgv Mt p) t)) 6 rfl (fun j hj => by show nI (w1 j) = nI (dist (pgv Mt p) t j); rw [hd1 j hj, show kk = 6 by omega]; rfl)
              have X : Hx D zA zs H locs (mW tk h (u3 Mt 6 (dist (pgv Mt p) t)) hi la ce) := X
              exact hE (v := ()) () rfl trivial X dX7_waysOn_237
            · refine g_iconst (n := 0) C0 rfl dX7_waysOn_40 ?_
              refine lv_istore (lv' := [(4, .int (nI 0)), (3, .int (nI kk)), (0, .ref (h 0)), (1, .int (nI p)), (2, .int (nI t))]) hx hb dX7_waysOn_41 hl (by decide) rfl (fun ls hl => ?_)
              have J43 : ∀ (fz : Nat) (i : Nat) (w2 : Nat → Nat), Mt 0 (p + 42) - i < fz → ∀ (hi2 : i ≤ Mt 0 (p + 42)) (hd2 : ∀ x, x < 6 → w2 x = relaxTo (pgv Mt p) (rnds (pgv Mt p) (dz t) kk) i x) (H : Heap) (locs : List Loc) (ls : Array Slot), Hx D zA zs H locs (mW tk h (u3 Mt 6 w2) hi la ce) → lv_has ls 9 [(4, .int (nI i)), (3, .int (nI kk)), (0, .ref (h 0)), (1, .int (nI p)), (2, .int (nI t))] → W zp l ze ⟨0, 0, 0, 0⟩ zs zm za zb zt zc H locs 0 0 zQ (F0 zm 43 ls []) := by
                intro fz
                induction fz with
                | zero => intro i w2 hz; exact absurd hz (Nat.not_lt_zero _)
                | succ fz ih43 =>
                  intro i w2 hz43 hi2 hd2 H locs ls X hl
                  refine lv_iload hx hb dX7_waysOn_43 (lv_at hl 0 rfl) ?_
                  refine lv_aload_n hx hb dX7_waysOn_45 rfl (lv_at hl 2 rfl) ?_
                  refine g_get (v := .ref (h 1)) C0 X kX7 0 0 tb797 rfl rfl rfl dX7_waysOn_46 ?_
                  refine lv_iload_n hx hb dX7_waysOn_49 rfl (lv_at hl 3 rfl) ?_
                  refine g_bipush (n := 42) C0 (by decide) dX7_waysOn_50 ?_
                  refine g_iadd (n := p + 42) C0 (by first | rfl | omega) dX7_waysOn_52 ?_
                  refine g_iald (v := nI (Mt 0 (p + 42))) (i := p + 42) C0 X 1 0 rfl rfl (by omega) rfl rfl dX7_waysOn_53 ?_
                  refine g_icmp_ge (x := i) (y := Mt 0 (p + 42)) (tgt := 231) C0 (by omega) (by omega) dX7_waysOn_54 rfl (fun c5 => ?_) (fun c6 => ?_)
                  · refine g_iinc (j := 1) (z := kk + 1) (lv' := [(3, .int (nI (kk + 1))), (4, .int (nI i)), (0, .ref (h 0)), (1, .int (nI p)), (2, .int (nI t))]) C0 rfl (by first | rfl | omega) dX7_waysOn_231 hl (k := 1) rfl (by decide) rfl (fun ls hl => ?_)
                    refine lv_goto (tgt := 34) hx hb dX7_waysOn_234 (by decide) ?_
                    exact ih34 (kk + 1) w2 (by omega) (by omega) (by intro x hx; rw [hd2 x hx, show i = pgv Mt p 8 1 by show i = Mt 0 (p + 42); omega]; rfl) H locs ls X (lv_sub hl [0, 2, 3, 4] rfl)
                  · have hr : Mt 0 (p + 6 + i) < Mt 20 0 ∧ Mt 0 (p + 15 + i) < Mt 20 0 ∧ Mt 0 (p + 6 + i) ≠ Mt 0 (p + 15 + i) ∧ 1 ≤ Mt 0 (p + 24 + i) ∧ Mt 0 (p + 24 + i) ≤ 9 ∧ Mt 0 (p + 33 + i) ≤ 1 := hv6 i (by show i < Mt 0 (p + 42); omega)
                    have hx1 := rnds_bd hd2 (Mt 0 (p + 6 + i)) (by omega)
                    have hx2 := rnds_bd hd2 (Mt 0 (p + 15 + i)) (by omega)
                    refine lv_aload_n hx hb dX7_waysOn_57 rfl (lv_at hl 2 rfl) ?_
                    refine g_get (v := .ref (h 1)) C0 X kX7 0 0 tb797 rfl rfl rfl dX7_waysOn_58 ?_
                    refine lv_iload_n hx hb dX7_waysOn_61 rfl (lv_at hl 3 rfl) ?_
                    refine g_bipush (n := 6) C0 (by decide) dX7_waysOn_62 ?_
                    refine g_iadd (n := p + 6) C0 (by first | rfl | omega) dX7_waysOn_64 ?_
                    refine lv_iload hx hb dX7_waysOn_65 (lv_at hl 0 rfl) ?_
                    refine g_iadd (n := (p + 6) + i) C0 (by first | rfl | omega) dX7_waysOn_67 ?_
                    refine g_iald (v := nI (Mt 0 ((p + 6) + i))) (i := (p + 6) + i) C0 X 1 0 rfl rfl (by omega) rfl rfl dX7_waysOn_68 ?_
                    refine lv_istore (lv' := [(5, .int (nI (Mt 0 ((p + 6) + i)))), (4, .int (nI i)), (3, .int (nI kk)), (0, .ref (h 0)), (1, .int (nI p)), (2, .int (nI t))]) hx hb dX7_waysOn_69 hl (by decide) rfl (fun ls hl => ?_)
                    refine lv_aload_n hx hb dX7_waysOn_71 rfl (lv_at hl 3 rfl) ?_
                    refine g_get (v := .ref (h 1)) C0 X kX7 0 0 tb797 rfl rfl rfl dX7_waysOn_72 ?_
                    refine lv_iload_n hx hb dX7_waysOn_75 rfl (lv_at hl 4 rfl) ?_
                    refine g_bipush (n := 15) C0 (by decide) dX7_waysOn_76 ?_
                    refine g_iadd (n := p + 15) C0 (by first | rfl | omega) dX7_waysOn_78 ?_
                    refine lv_iload hx hb dX7_waysOn_79 (lv_at hl 1 rfl) ?_
                    refine g_iadd (n := (p + 15) + i) C0 (by first | rfl | omega) dX7_waysOn_81 ?_
                    refine g_iald (v := nI (Mt 0 ((p + 15) + i))) (i := (p + 15) + i) C0 X 1 0 rfl rfl (by omega) rfl rfl dX7_waysOn_82 ?_
                    refine lv_istore (lv' := [(6, .int (nI (Mt 0 ((p + 15) + i)))), (5, .int (nI (Mt 0 ((p + 6) + i)))), (4, .int (nI i)), (3, .int (nI kk)), (0, .ref (h 0)), (1, .int (nI p)), (2, .int (nI t))]) hx hb dX7_waysOn_83 hl (by decide) rfl (fun ls hl => ?_)
                    refine lv_aload_n hx hb dX7_waysOn_85 rfl (lv_at hl 4 rfl) ?_
                    refine g_get (v := .ref (h 1)) C0 X kX7 0 0 tb797 rfl rfl rfl dX7_waysOn_86 ?_
                    refine lv_iload_n hx hb dX7_waysOn_89 rfl (lv_at hl 5 rfl) ?_
                    refine g_bipush (n := 24) C0 (by decide) dX7_waysOn_90 ?_
                    refine g_iadd (n := p + 24) C0 (by first | rfl | omega) dX7_waysOn_92 ?_
                    refine lv_iload hx hb dX7_waysOn_93 (lv_at hl 2 rfl) ?_
                    refine g_iadd (n := (p + 24) + i) C0 (by first | rfl | omega) dX7_waysOn_95 ?_
                    refine g_iald (v := nI (Mt 0 ((p + 24) + i))) (i := (p + 24) + i) C0 X 1 0 rfl rfl (by omega) rfl rfl dX7_waysOn_96 ?_
                    refine lv_istore (lv' := [(7, .int (nI (Mt 0 ((p + 24) + i)))), (6, .int (nI (Mt 0 ((p + 15) + i)))), (5, .int (nI (Mt 0 ((p + 6) + i)))), (4, .int (nI i)), (3, .int (nI kk)), (0, .ref (h 0)), (1, .int (nI p)), (2, .int (nI t))]) hx hb dX7_waysOn_97 hl (by decide) rfl (fun ls hl => ?_)
                    refine lv_aload_n hx hb dX7_waysOn_99 rfl (lv_at hl 5 rfl) ?_
                    refine g_get (v := .ref (h 1)) C0 X kX7 0 0 tb797 rfl rfl rfl dX7_waysOn_100 ?_
                    refine lv_iload_n hx hb dX7_waysOn_103 rfl (lv_at hl 6 rfl) ?_
                    refine g_bipush (n := 33) C0 (by decide) dX7_waysOn_104 ?_
                    refine g_iadd (n := p + 33) C0 (by first | rfl | omega) dX7_waysOn_106 ?_
                    refine lv_iload hx hb dX7_waysOn_107 (lv_at hl 3 rfl) ?_
                    refine g_iadd (n := (p + 33) + i) C0 (by first | rfl | omega) dX7_waysOn_109 ?_
                    refine g_iald (v := nI (Mt 0 ((p + 33) + i))) (i := (p + 33) + i) C0 X 1 0 rfl rfl (by omega) rfl rfl dX7_waysOn_110 ?_
                    refine g_ifne (x := Mt 0 ((p + 33) + i)) (tgt := 118) C0 (by omega) dX7_waysOn_111 rfl (fun c7 => ?_) (fun c8 => ?_)
                    · refine g_iconst (n := 0) C0 rfl dX7_waysOn_118 ?_
                      refine lv_istore (lv' := [(8, .int (nI 0)), (7, .int (nI (Mt 0 ((p + 24) + i)))), (6, .int (nI (Mt 0 ((p + 15) + i)))), (5, .int (nI (Mt 0 ((p + 6) + i)))), (4, .int (nI i)), (3, .int (nI kk)), (0, .ref (h 0)), (1, .int (nI p)), (2, .int (nI t))]) hx hb dX7_waysOn_119 hl (by decide) rfl (fun ls hl => ?_)
                      refine lv_aload_n hx hb dX7_waysOn_121 rfl (lv_at hl 6 rfl) ?_
                      refine g_get (v := .ref (h 6)) C0 X kX7 0 17 tb814 rfl rfl rfl dX7_waysOn_122 ?_
                      refine lv_iload hx hb dX7_waysOn_125 (lv_at hl 3 rfl) ?_
                      refine lv_iload hx hb dX7_waysOn_127 (lv_at hl 0 rfl) ?_
                      refine g_ifeq (x := 0) (tgt := 165) C0 (by decide) dX7_waysOn_129 rfl (fun _ => ?_) (fun q => absurd q (by decide))
                      refine lv_aload_n hx hb dX7_waysOn_165 rfl (lv_at hl 6 rfl) ?_
                      refine g_get (v := .ref (h 6)) C0 X kX7 0 17 tb814 rfl rfl rfl dX7_waysOn_166 ?_
                      refine lv_iload hx hb dX7_waysOn_169 (lv_at hl 3 rfl) ?_
                      refine g_iald (v := nI (w2 (Mt 0 ((p + 6) + i)))) (i := Mt 0 ((p + 6) + i)) C0 X 6 0 rfl rfl (by omega) rfl rfl dX7_waysOn_171 ?_
                      refine g_iast (g := nf (u1 w2 (Mt 0 ((p + 6) + i)) (w2 (Mt 0 ((p + 6) + i))))) (i := Mt 0 ((p + 6) + i)) C0 X 6 0 rfl rfl (by omega) rfl (nf_u1 _ _ _) dX7_waysOn_172 (fun H locs X => ?_)
                      have X : Hx D zA zs H locs (mW tk h (u2 (u3 Mt 6 w2) 6 (Mt 0 ((p + 6) + i)) (w2 (Mt 0 ((p + 6) + i)))) hi la ce) := X
                      refine lv_aload_n hx hb dX7_waysOn_173 rfl (lv_at hl 6 rfl) ?_
                      refine g_get (v := .ref (h 6)) C0 X kX7 0 17 tb814 rfl rfl rfl dX7_waysOn_174 ?_
                      refine lv_iload hx hb dX7_waysOn_177 (lv_at hl 2 rfl) ?_
                      refine lv_iload hx hb dX7_waysOn_179 (lv_at hl 0 rfl) ?_
                      refine g_ifeq (x := 0) (tgt := 217) C0 (by decide) dX7_waysOn_181 rfl (fun _ => ?_) (fun q => absurd q (by decide))
                      refine lv_aload_n hx hb dX7_waysOn_217 rfl (lv_at hl 6 rfl) ?_
                      refine g_get (v := .ref (h 6)) C0 X kX7 0 17 tb814 rfl rfl rfl dX7_waysOn_218 ?_
                      refine lv_iload hx hb dX7_waysOn_221 (lv_at hl 2 rfl) ?_
                      refine g_iald (v := nI ((u1 w2 (Mt 0 ((p + 6) + i)) (w2 (Mt 0 ((p + 6) + i)))) (Mt 0 ((p + 15) + i)))) (i := Mt 0 ((p + 15) + i)) C0 X 6 0 rfl rfl (by omega) rfl (by first | rfl | exact congrArg nI (u1_s _ _ _)) dX7_waysOn_223 ?_
                      refine g_iast (g := nf (u1 (u1 w2 (Mt 0 ((p + 6) + i)) (w2 (Mt 0 ((p + 6) + i)))) (Mt 0 ((p + 15) + i)) ((u1 w2 (Mt 0 ((p + 6) + i)) (w2 (Mt 0 ((p + 6) + i)))) (Mt 0 ((p + 15) + i))))) (i := Mt 0 ((p + 15) + i)) C0 X 6 0 rfl rfl (by omega) rfl (nf_u1 _ _ _) dX7_waysOn_224 (fun H locs X => ?_)
                      have X : Hx D zA zs H locs (mW tk h (u2 (u2 (u3 Mt 6 w2) 6 (Mt 0 ((p + 6) + i)) (w2 (Mt 0 ((p + 6) + i)))) 6 (Mt 0 ((p + 15) + i)) ((u1 w2 (Mt 0 ((p + 6) + i)) (w2 (Mt 0 ((p + 6) + i)))) (Mt 0 ((p + 15) + i)))) hi la ce) := X
                      refine g_iinc (j := 1) (z := i + 1) (lv' := [(4, .int (nI (i + 1))), (8, .int (nI 0)), (7, .int (nI (Mt 0 ((p + 24) + i)))), (6, .int (nI (Mt 0 ((p + 15) + i)))), (5, .int (nI (Mt 0 ((p + 6) + i)))), (3, .int (nI kk)), (0, .ref (h 0)), (1, .int (nI p)), (2, .int (nI t))]) C0 rfl (by first | rfl | omega) dX7_waysOn_225 hl (k := 4) rfl (by decide) rfl (fun ls hl => ?_)
                      refine lv_goto (tgt := 43) hx hb dX7_waysOn_228 (by decide) ?_
                      exact ih43 (i + 1) (u1 (u1 w2 (Mt 0 ((p + 6) + i)) (w2 (Mt 0 ((p + 6) + i)))) (Mt 0 ((p + 15) + i)) ((u1 w2 (Mt 0 ((p + 6) + i)) (w2 (Mt 0 ((p + 6) + i)))) (Mt 0 ((p + 15) + i)))) (by omega) (by omega) (by exact mrel (v := pgv Mt p) (A := Mt 0 (p + 6 + i)) (B := Mt 0 (p + 15 + i)) (L := Mt 0 (p + 24 + i)) (by omega) (by omega) rfl rfl rfl hd2 (by first | exact mr_0 c7 | exact mr_1 c (mr_ff c6 c7) | exact mr_1 c (mr_ft c6 c7) | exact mr_1 c (mr_tf hr.2.2.1 c6 c7) | exact mr_1 c (mr_tt hr.2.2.1 c6 c7))) H locs ls X (lv_sub hl [0, 5, 6, 7, 8] rfl)
                    · refine g_iconst (n := 1) C0 rfl dX7_waysOn_114 ?_
                      refine lv_goto (tgt := 119) hx hb dX7_waysOn_115 (by decide) ?_
                      refine lv_istore (lv' := [(8, .int (nI 1)), (7, .int (nI (Mt 0 ((p + 24) + i)))), (6, .int (nI (Mt 0 ((p + 15) + i)))), (5, .int (nI (Mt 0 ((p + 6) + i)))), (4, .int (nI i)), (3, .int (nI kk)), (0, .ref (h 0)), (1, .int (nI p)), (2, .int (nI t))]) hx hb dX7_waysOn_119 hl (by decide) rfl (fun ls hl => ?_)
                      refine lv_aload_n hx hb dX7_waysOn_121 rfl (lv_at hl 6 rfl) ?_
                      refine g_get (v := .ref (h 6)) C0 X kX7 0 17 tb814 rfl rfl rfl dX7_waysOn_122 ?_
                      refine lv_iload hx hb dX7_waysOn_125 (lv_at hl 3 rfl) ?_
                      refine lv_iload hx hb dX7_waysOn_127 (lv_at hl 0 rfl) ?_
                      refine g_ifeq (x := 1) (tgt := 165) C0 (by decide) dX7_waysOn_129 rfl (fun q => absurd q (by decide)) (fun _ => ?_)
                      refine lv_aload_n hx hb dX7_waysOn_132 rfl (lv_at hl 6 rfl) ?_
                      refine g_get (v := .ref (h 6)) C0 X kX7 0 17 tb814 rfl rfl rfl dX7_waysOn_133 ?_
                      refine lv_iload hx hb dX7_waysOn_136 (lv_at hl 2 rfl) ?_
                      refine g_iald (v := nI (w2 (Mt 0 ((p + 15) + i)))) (i := Mt 0 ((p + 15) + i)) C0 X 6 0 rfl rfl (by omega) rfl rfl dX7_waysOn_138 ?_
                      refine lv_iload hx hb dX7_waysOn_139 (lv_at hl 1 rfl) ?_
                      refine g_iadd (n := (w2 (Mt 0 ((p + 15) + i))) + (Mt 0 ((p + 24) + i))) C0 (by first | rfl | omega) dX7_waysOn_141 ?_
                      refine lv_aload_n hx hb dX7_waysOn_142 rfl (lv_at hl 6 rfl) ?_
                      refine g_get (v := .ref (h 6)) C0 X kX7 0 17 tb814 rfl rfl rfl dX7_waysOn_143 ?_
                      refine lv_iload hx hb dX7_waysOn_146 (lv_at hl 3 rfl) ?_
                      refine g_iald (v := nI (w2 (Mt 0 ((p + 6) + i)))) (i := Mt 0 ((p + 6) + i)) C0 X 6 0 rfl rfl (by omega) rfl rfl dX7_waysOn_148 ?_
                      refine g_icmp_ge (x := (w2 (Mt 0 ((p + 15) + i))) + (Mt 0 ((p + 24) + i))) (y := w2 (Mt 0 ((p + 6) + i))) (tgt := 165) C0 (by omega) (by omega) dX7_waysOn_149 rfl (fun c15 => ?_) (fun c16 => ?_)
                      · refine lv_aload_n hx hb dX7_waysOn_165 rfl (lv_at hl 6 rfl) ?_
                        refine g_get (v := .ref (h 6)) C0 X kX7 0 17 tb814 rfl rfl rfl dX7_waysOn_166 ?_
                        refine lv_iload hx hb dX7_waysOn_169 (lv_at hl 3 rfl) ?_
                        refine g_iald (v := nI (w2 (Mt 0 ((p + 6) + i)))) (i := Mt 0 ((p + 6) + i)) C0 X 6 0 rfl rfl (by omega) rfl rfl dX7_waysOn_171 ?_
                        refine g_iast (g := nf (u1 w2 (Mt 0 ((p + 6) + i)) (w2 (Mt 0 ((p + 6) + i))))) (i := Mt 0 ((p + 6) + i)) C0 X 6 0 rfl rfl (by omega) rfl (nf_u1 _ _ _) dX7_waysOn_172 (fun H locs X => ?_)
                        have X : Hx D zA zs H locs (mW tk h (u2 (u3 Mt 6 w2) 6 (Mt 0 ((p + 6) + i)) (w2 (Mt 0 ((p + 6) + i)))) hi la ce) := X
                        refine lv_aload_n hx hb dX7_waysOn_173 rfl (lv_at hl 6 rfl) ?_
                        refine g_get (v := .ref (h 6)) C0 X kX7 0 17 tb814 rfl rfl rfl dX7_waysOn_174 ?_
                        refine lv_iload hx hb dX7_waysOn_177 (lv_at hl 2 rfl) ?_
                        refine lv_iload hx hb dX7_waysOn_179 (lv_at hl 0 rfl) ?_
                        refine g_ifeq (x := 1) (tgt := 217) C0 (by decide) dX7_waysOn_181 rfl (fun q => absurd q (by decide)) (fun _ => ?_)
                        refine lv_aload_n hx hb dX7_waysOn_184 rfl (lv_at hl 6 rfl) ?_
                        refine g_get (v := .ref (h 6)) C0 X kX7 0 17 tb814 rfl rfl rfl dX7_waysOn_185 ?_
                        refine lv_iload hx hb dX7_waysOn_188 (lv_at hl 3 rfl) ?_
                        refine g_iald (v := nI (w2 (Mt 0 ((p + 6) + i)))) (i := Mt 0 ((p + 6) + i)) C0 X 6 0 rfl rfl (by omega) rfl (by first | rfl | exact congrArg nI (u1_s _ _ _)) dX7_waysOn_190 ?_
                        refine lv_iload hx hb dX7_waysOn_191 (lv_at hl 1 rfl) ?_
                        refine g_iadd (n := (w2 (Mt 0 ((p + 6) + i))) + (Mt 0 ((p + 24) + i))) C0 (by first | rfl | omega) dX7_waysOn_193 ?_
                        refine lv_aload_n hx hb dX7_waysOn_194 rfl (lv_at hl 6 rfl) ?_
                        refine g_get (v := .ref (h 6)) C0 X kX7 0 17 tb814 rfl rfl rfl dX7_waysOn_195 ?_
                        refine lv_iload hx hb dX7_waysOn_198 (lv_at hl 2 rfl) ?_
                        refine g_iald (v := nI ((u1 w2 (Mt 0 ((p + 6) + i)) (w2 (Mt 0 ((p + 6) + i)))) (Mt 0 ((p + 15) + i)))) (i := Mt 0 ((p + 15) + i)) C0 X 6 0 rfl rfl (by omega) rfl (by first | rfl | exact congrArg nI (u1_s _ _ _)) dX7_waysOn_200 ?_
                        refine g_icmp_ge (x := (w2 (Mt 0 ((p + 6) + i))) + (Mt 0 ((p + 24) + i))) (y := (u1 w2 (Mt 0 ((p + 6) + i)) (w2 (Mt 0 ((p + 6) + i)))) (Mt 0 ((p + 15) + i))) (tgt := 217) C0 (by first | omega | (rw [u1_s]; omega) | (rw [u1_n _ _ hr.2.2.1]; omega) | (rw [u1_n _ _ (Ne.symm hr.2.2.1)]; omega)) (by first | omega | (rw [u1_s]; omega) | (rw [u1_n _ _ hr.2.2.1]; omega) | (rw [u1_n _ _ (Ne.symm hr.2.2.1)]; omega)) dX7_waysOn_201 rfl (fun c19 => ?_) (fun c20 => ?_)
                        · refine lv_aload_n hx hb dX7_waysOn_217 rfl (lv_at hl 6 rfl) ?_
                          refine g_get (v := .ref (h 6)) C0 X kX7 0 17 tb814 rfl rfl rfl dX7_waysOn_218 ?_
                          refine lv_iload hx hb dX7_waysOn_221 (lv_at hl 2 rfl) ?_
                          refine g_iald (v := nI ((u1 w2 (Mt 0 ((p + 6) + i)) (w2 (Mt 0 ((p + 6) + i)))) (Mt 0 ((p + 15) + i)))) (i := Mt 0 ((p + 15) + i)) C0 X 6 0 rfl rfl (by omega) rfl (by first | rfl | exact congrArg nI (u1_s _ _ _)) dX7_waysOn_223 ?_
                          refine g_iast (g := nf (u1 (u1 w2 (Mt 0 ((p + 6) + i)) (w2 (Mt 0 ((p + 6) + i)))) (Mt 0 ((p + 15) + i)) ((u1 w2 (Mt 0 ((p + 6) + i)) (w2 (Mt 0 ((p + 6) + i)))) (Mt 0 ((p + 15) + i))))) (i := Mt 0 ((p + 15) + i)) C0 X 6 0 rfl rfl (by omega) rfl (nf_u1 _ _ _) dX7_waysOn_224 (fun H locs X => ?_)
                          have X : Hx D zA zs H locs (mW tk h (u2 (u2 (u3 Mt 6 w2) 6 (Mt 0 ((p + 6) + i)) (w2 (Mt 0 ((p + 6) + i)))) 6 (Mt 0 ((p + 15) + i)) ((u1 w2 (Mt 0 ((p + 6) + i)) (w2 (Mt 0 ((p + 6) + i)))) (Mt 0 ((p + 15) + i)))) hi la ce) := X
                          refine g_iinc (j := 1) (z := i + 1) (lv' := [(4, .int (nI (i + 1))), (8, .int (nI 1)), (7, .int (nI (Mt 0 ((p + 24) + i)))), (6, .int (nI (Mt 0 ((p + 15) + i)))), (5, .int (nI (Mt 0 ((p + 6) + i)))), (3, .int (nI kk)), (0, .ref (h 0)), (1, .int (nI p)), (2, .int (nI t))]) C0 rfl (by first | rfl | omega) dX7_waysOn_225 hl (k := 4) rfl (by decide) rfl (fun ls hl => ?_)
                          refine lv_goto (tgt := 43) hx hb dX7_waysOn_228 (by decide) ?_
                          exact ih43 (i + 1) (u1 (u1 w2 (Mt 0 ((p + 6) + i)) (w2 (Mt 0 ((p + 6) + i)))) (Mt 0 ((p + 15) + i)) ((u1 w2 (Mt 0 ((p + 6) + i)) (w2 (Mt 0 ((p + 6) + i)))) (Mt 0 ((p + 15) + i)))) (by omega) (by omega) (by exact mrel (v := pgv Mt p) (A := Mt 0 (p + 6 + i)) (B := Mt 0 (p + 15 + i)) (L := Mt 0 (p + 24 + i)) (by omega) (by omega) rfl rfl rfl hd2 (by first | exact mr_0 c19 | exact mr_1 c8 (mr_ff c15 c19) | exact mr_1 c8 (mr_ft c15 c19) | exact mr_1 c8 (mr_tf hr.2.2.1 c15 c19) | exact mr_1 c8 (mr_tt hr.2.2.1 c15 c19))) H locs ls X (lv_sub hl [0, 5, 6, 7, 8] rfl)
                        · refine lv_aload_n hx hb dX7_waysOn_204 rfl (lv_at hl 6 rfl) ?_
                          refine g_get (v := .ref (h 6)) C0 X kX7 0 17 tb814 rfl rfl rfl dX7_waysOn_205 ?_
                          refine lv_iload hx hb dX7_waysOn_208 (lv_at hl 3 rfl) ?_
                          refine g_iald (v := nI (w2 (Mt 0 ((p + 6) + i)))) (i := Mt 0 ((p + 6) + i)) C0 X 6 0 rfl rfl (by omega) rfl (by first | rfl | exact congrArg nI (u1_s _ _ _)) dX7_waysOn_210 ?_
                          refine lv_iload hx hb dX7_waysOn_211 (lv_at hl 1 rfl) ?_
                          refine g_iadd (n := (w2 (Mt 0 ((p + 6) + i))) + (Mt 0 ((p + 24) + i))) C0 (by first | rfl | omega) dX7_waysOn_213 ?_
                          refine lv_goto (tgt := 224) hx hb dX7_waysOn_214 (by decide) ?_
                          refine g_iast (g := nf (u1 (u1 w2 (Mt 0 ((p + 6) + i)) (w2 (Mt 0 ((p + 6) + i)))) (Mt 0 ((p + 15) + i)) ((w2 (Mt 0 ((p + 6) + i))) + (Mt 0 ((p + 24) + i))))) (i := Mt 0 ((p + 15) + i)) C0 X 6 0 rfl rfl (by omega) rfl (nf_u1 _ _ _) dX7_waysOn_224 (fun H locs X => ?_)
                          have X : Hx D zA zs H locs (mW tk h (u2 (u2 (u3 Mt 6 w2) 6 (Mt 0 ((p + 6) + i)) (w2 (Mt 0 ((p + 6) + i)))) 6 (Mt 0 ((p + 15) + i)) ((w2 (Mt 0 ((p + 6) + i))) + (Mt 0 ((p + 24) + i)))) hi la ce) := X
                          refine g_iinc (j := 1) (z := i + 1) (lv' := [(4, .int (nI (i + 1))), (8, .int (nI 1)), (7, .int (nI (Mt 0 ((p + 24) + i)))), (6, .int (nI (Mt 0 ((p + 15) + i)))), (5, .int (nI (Mt 0 ((p + 6) + i)))), (3, .int (nI kk)), (0, .ref (h 0)), (1, .int (nI p)), (2, .int (nI t))]) C0 rfl (by first | rfl | omega) dX7_waysOn_225 hl (k := 4) rfl (by decide) rfl (fun ls hl => ?_)
                          refine lv_goto (tgt := 43) hx hb dX7_waysOn_228 (by decide) ?_
                          exact ih43 (i + 1) (u1 (u1 w2 (Mt 0 ((p + 6) + i)) (w2 (Mt 0 ((p + 6) + i)))) (Mt 0 ((p + 15) + i)) ((w2 (Mt 0 ((p + 6) + i))) + (Mt 0 ((p + 24) + i)))) (by omega) (by omega) (by exact mrel (v := pgv Mt p) (A := Mt 0 (p + 6 + i)) (B := Mt 0 (p + 15 + i)) (L := Mt 0 (p + 24 + i)) (by omega) (by omega) rfl rfl rfl hd2 (by first | exact mr_0 c20 | exact mr_1 c8 (mr_ff c15 c20) | exact mr_1 c8 (mr_ft c15 c20) | exact mr_1 c8 (mr_tf hr.2.2.1 c15 c20) | exact mr_1 c8 (mr_tt hr.2.2.1 c15 c20))) H locs ls X (lv_sub hl [0, 5, 6, 7, 8] rfl)
                      · refine lv_aload_n hx hb dX7_waysOn_152 rfl (lv_at hl 6 rfl) ?_
                        refine g_get (v := .ref (h 6)) C0 X kX7 0 17 tb814 rfl rfl rfl dX7_waysOn_153 ?_
                        refine lv_iload hx hb dX7_waysOn_156 (lv_at hl 2 rfl) ?_
                        refine g_iald (v := nI (w2 (Mt 0 ((p + 15) + i)))) (i := Mt 0 ((p + 15) + i)) C0 X 6 0 rfl rfl (by omega) rfl rfl dX7_waysOn_158 ?_
                        refine lv_iload hx hb dX7_waysOn_159 (lv_at hl 1 rfl) ?_
                        refine g_iadd (n := (w2 (Mt 0 ((p + 15) + i))) + (Mt 0 ((p + 24) + i))) C0 (by first | rfl | omega) dX7_waysOn_161 ?_
                        refine lv_goto (tgt := 172) hx hb dX7_waysOn_162 (by decide) ?_
                        refine g_iast (g := nf (u1 w2 (Mt 0 ((p + 6) + i)) ((w2 (Mt 0 ((p + 15) + i))) + (Mt 0 ((p + 24) + i))))) (i := Mt 0 ((p + 6) + i)) C0 X 6 0 rfl rfl (by omega) rfl (nf_u1 _ _ _) dX7_waysOn_172 (fun H locs X => ?_)
                        have X : Hx D zA zs H locs (mW tk h (u2 (u3 Mt 6 w2) 6 (Mt 0 ((p + 6) + i)) ((w2 (Mt 0 ((p + 15) + i))) + (Mt 0 ((p + 24) + i)))) hi la ce) := X
                        refine lv_aload_n hx hb dX7_waysOn_173 rfl (lv_at hl 6 rfl) ?_
                        refine g_get (v := .ref (h 6)) C0 X kX7 0 17 tb814 rfl rfl rfl dX7_waysOn_174 ?_
                        refine lv_iload hx hb dX7_waysOn_177 (lv_at hl 2 rfl) ?_
                        refine lv_iload hx hb dX7_waysOn_179 (lv_at hl 0 rfl) ?_
                        refine g_ifeq (x := 1) (tgt := 217) C0 (by decide) dX7_waysOn_181 rfl (fun q => absurd q (by decide)) (fun _ => ?_)
                        refine lv_aload_n hx hb dX7_waysOn_184 rfl (lv_at hl 6 rfl) ?_
                        refine g_get (v := .ref (h 6)) C0 X kX7 0 17 tb814 rfl rfl rfl dX7_waysOn_185 ?_
                        refine lv_iload hx hb dX7_waysOn_188 (lv_at hl 3 rfl) ?_
                        refine g_iald (v := nI ((w2 (Mt 0 ((p + 15) + i))) + (Mt 0 ((p + 24) + i)))) (i := Mt 0 ((p + 6) + i)) C0 X 6 0 rfl rfl (by omega) rfl (by first | rfl | exact congrArg nI (u1_s _ _ _)) dX7_waysOn_190 ?_
                        refine lv_iload hx hb dX7_waysOn_191 (lv_at hl 1 rfl) ?_
                        refine g_iadd (n := ((w2 (Mt 0 ((p + 15) + i))) + (Mt 0 ((p + 24) + i))) + (Mt 0 ((p + 24) + i))) C0 (by first | rfl | omega) dX7_waysOn_193 ?_
                        refine lv_aload_n hx hb dX7_waysOn_194 rfl (lv_at hl 6 rfl) ?_
                        refine g_get (v := .ref (h 6)) C0 X kX7 0 17 tb814 rfl rfl rfl dX7_waysOn_195 ?_
                        refine lv_iload hx hb dX7_waysOn_198 (lv_at hl 2 rfl) ?_
                        refine g_iald (v := nI ((u1 w2 (Mt 0 ((p + 6) + i)) ((w2 (Mt 0 ((p + 15) + i))) + (Mt 0 ((p + 24) + i)))) (Mt 0 ((p + 15) + i)))) (i := Mt 0 ((p + 15) + i)) C0 X 6 0 rfl rfl (by omega) rfl (by first | rfl | exact congrArg nI (u1_s _ _ _)) dX7_waysOn_200 ?_
                        refine g_icmp_ge (x := ((w2 (Mt 0 ((p + 15) + i))) + (Mt 0 ((p + 24) + i))) + (Mt 0 ((p + 24) + i))) (y := (u1 w2 (Mt 0 ((p + 6) + i)) ((w2 (Mt 0 ((p + 15) + i))) + (Mt 0 ((p + 24) + i)))) (Mt 0 ((p + 15) + i))) (tgt := 217) C0 (by first | omega | (rw [u1_s]; omega) | (rw [u1_n _ _ hr.2.2.1]; omega) | (rw [u1_n _ _ (Ne.symm hr.2.2.1)]; omega)) (by first | omega | (rw [u1_s]; omega) | (rw [u1_n _ _ hr.2.2.1]; omega) | (rw [u1_n _ _ (Ne.symm hr.2.2.1)]; omega)) dX7_waysOn_201 rfl (fun c23 => ?_) (fun c24 => ?_)
                        · refine lv_aload_n hx hb dX7_waysOn_217 rfl (lv_at hl 6 rfl) ?_
                          refine g_get (v := .ref (h 6)) C0 X kX7 0 17 tb814 rfl rfl rfl dX7_waysOn_218 ?_
                          refine lv_iload hx hb dX7_waysOn_221 (lv_at hl 2 rfl) ?_
                          refine g_iald (v := nI ((u1 w2 (Mt 0 ((p + 6) + i)) ((w2 (Mt 0 ((p + 15) + i))) + (Mt 0 ((p + 24) + i)))) (Mt 0 ((p + 15) + i)))) (i := Mt 0 ((p + 15) + i)) C0 X 6 0 rfl rfl (by omega) rfl (by first | rfl | exact congrArg nI (u1_s _ _ _)) dX7_waysOn_223 ?_
                          refine g_iast (g := nf (u1 (u1 w2 (Mt 0 ((p + 6) + i)) ((w2 (Mt 0 ((p + 15) + i))) + (Mt 0 ((p + 24) + i)))) (Mt 0 ((p + 15) + i)) ((u1 w2 (Mt 0 ((p + 6) + i)) ((w2 (Mt 0 ((p + 15) + i))) + (Mt 0 ((p + 24) + i)))) (Mt 0 ((p + 15) + i))))) (i := Mt 0 ((p + 15) + i)) C0 X 6 0 rfl rfl (by omega) rfl (nf_u1 _ _ _) dX7_waysOn_224 (fun H locs X => ?_)
                          have X : Hx D zA zs H locs (mW tk h (u2 (u2 (u3 Mt 6 w2) 6 (Mt 0 ((p + 6) + i)) ((w2 (Mt 0 ((p + 15) + i))) + (Mt 0 ((p + 24) + i)))) 6 (Mt 0 ((p + 15) + i)) ((u1 w2 (Mt 0 ((p + 6) + i)) ((w2 (Mt 0 ((p + 15) + i))) + (Mt 0 ((p + 24) + i)))) (Mt 0 ((p + 15) + i)))) hi la ce) := X
                          refine g_iinc (j := 1) (z := i + 1) (lv' := [(4, .int (nI (i + 1))), (8, .int (nI 1)), (7, .int (nI (Mt 0 ((p + 24) + i)))), (6, .int (nI (Mt 0 ((p + 15) + i)))), (5, .int (nI (Mt 0 ((p + 6) + i)))), (3, .int (nI kk)), (0, .ref (h 0)), (1, .int (nI p)), (2, .int (nI t))]) C0 rfl (by first | rfl | omega) dX7_waysOn_225 hl (k := 4) rfl (by decide) rfl (fun ls hl => ?_)
                          refine lv_goto (tgt := 43) hx hb dX7_waysOn_228 (by decide) ?_
                          exact ih43 (i + 1) (u1 (u1 w2 (Mt 0 ((p + 6) + i)) ((w2 (Mt 0 ((p + 15) + i))) + (Mt 0 ((p + 24) + i)))) (Mt 0 ((p + 15) + i)) ((u1 w2 (Mt 0 ((p + 6) + i)) ((w2 (Mt 0 ((p + 15) + i))) + (Mt 0 ((p + 24) + i)))) (Mt 0 ((p + 15) + i)))) (by omega) (by omega) (by exact mrel (v := pgv Mt p) (A := Mt 0 (p + 6 + i)) (B := Mt 0 (p + 15 + i)) (L := Mt 0 (p + 24 + i)) (by omega) (by omega) rfl rfl rfl hd2 (by first | exact mr_0 c23 | exact mr_1 c8 (mr_ff c16 c23) | exact mr_1 c8 (mr_ft c16 c23) | exact mr_1 c8 (mr_tf hr.2.2.1 c16 c23) | exact mr_1 c8 (mr_tt hr.2.2.1 c16 c23))) H locs ls X (lv_sub hl [0, 5, 6, 7, 8] rfl)
                        · refine lv_aload_n hx hb dX7_waysOn_204 rfl (lv_at hl 6 rfl) ?_
                          refine g_get (v := .ref (h 6)) C0 X kX7 0 17 tb814 rfl rfl rfl dX7_waysOn_205 ?_
                          refine lv_iload hx hb dX7_waysOn_208 (lv_at hl 3 rfl) ?_
                          refine g_iald (v := nI ((w2 (Mt 0 ((p + 15) + i))) + (Mt 0 ((p + 24) + i)))) (i := Mt 0 ((p + 6) + i)) C0 X 6 0 rfl rfl (by omega) rfl (by first | rfl | exact congrArg nI (u1_s _ _ _)) dX7_waysOn_210 ?_
                          refine lv_iload hx hb dX7_waysOn_211 (lv_at hl 1 rfl) ?_
                          refine g_iadd (n := ((w2 (Mt 0 ((p + 15) + i))) + (Mt 0 ((p + 24) + i))) + (Mt 0 ((p + 24) + i))) C0 (by first | rfl | omega) dX7_waysOn_213 ?_
                          refine lv_goto (tgt := 224) hx hb dX7_waysOn_214 (by decide) ?_
                          refine g_iast (g := nf (u1 (u1 w2 (Mt 0 ((p + 6) + i)) ((w2 (Mt 0 ((p + 15) + i))) + (Mt 0 ((p + 24) + i)))) (Mt 0 ((p + 15) + i)) (((w2 (Mt 0 ((p + 15) + i))) + (Mt 0 ((p + 24) + i))) + (Mt 0 ((p + 24) + i))))) (i := Mt 0 ((p + 15) + i)) C0 X 6 0 rfl rfl (by omega) rfl (nf_u1 _ _ _) dX7_waysOn_224 (fun H locs X => ?_)
                          have X : Hx D zA zs H locs (mW tk h (u2 (u2 (u3 Mt 6 w2) 6 (Mt 0 ((p + 6) + i)) ((w2 (Mt 0 ((p + 15) + i))) + (Mt 0 ((p + 24) + i)))) 6 (Mt 0 ((p + 15) + i)) (((w2 (Mt 0 ((p + 15) + i))) + (Mt 0 ((p + 24) + i))) + (Mt 0 ((p + 24) + i)))) hi la ce) := X
                          refine g_iinc (j := 1) (z := i + 1) (lv' := [(4, .int (nI (i + 1))), (8, .int (nI 1)), (7, .int (nI (Mt 0 ((p + 24) + i)))), (6, .int (nI (Mt 0 ((p + 15) + i)))), (5, .int (nI (Mt 0 ((p + 6) + i)))), (3, .int (nI kk)), (0, .ref (h 0)), (1, .int (nI p)), (2, .int (nI t))]) C0 rfl (by first | rfl | omega) dX7_waysOn_225 hl (k := 4) rfl (by decide) rfl (fun ls hl => ?_)
                          refine lv_goto (tgt := 43) hx hb dX7_waysOn_228 (by decide) ?_
                          exact ih43 (i + 1) (u1 (u1 w2 (Mt 0 ((p + 6) + i)) ((w2 (Mt 0 ((p + 15) + i))) + (Mt 0 ((p + 24) + i)))) (Mt 0 ((p + 15) + i)) (((w2 (Mt 0 ((p + 15) + i))) + (Mt 0 ((p + 24) + i))) + (Mt 0 ((p + 24) + i)))) (by omega) (by omega) (by exact mrel (v := pgv Mt p) (A := Mt 0 (p + 6 + i)) (B := Mt 0 (p + 15 + i)) (L := Mt 0 (p + 24 + i)) (by omega) (by omega) rfl rfl rfl hd2 (by first | exact mr_0 c24 | exact mr_1 c8 (mr_ff c16 c24) | exact mr_1 c8 (mr_ft c16 c24) | exact mr_1 c8 (mr_tf hr.2.2.1 c16 c24) | exact mr_1 c8 (mr_tt hr.2.2.1 c16 c24))) H locs ls X (lv_sub hl [0, 5, 6, 7, 8] rfl)
              exact J43 ((Mt 0 (p + 42) - 0) + 1) 0 w1 (Nat.lt_succ_self _) (by omega) (by exact hd1) H locs ls X (lv_sub hl [0, 1, 2, 3, 4] rfl)
        exact J34 ((6 - 0) + 1) 0 w1 (Nat.lt_succ_self _) (by omega) (by intro x hx; exact hd0 x (by omega)) H locs ls X (lv_sub hl [0, 1, 2, 3] rfl)
      · refine lv_aload_n hx hb dX7_waysOn_8 rfl (lv_at hl 1 rfl) ?_
        refine g_get (v := .ref (h 6)) C0 X kX7 0 17 tb814 rfl rfl rfl dX7_waysOn_9 ?_
        refine lv_iload_n hx hb dX7_waysOn_12 rfl (lv_at hl 0 rfl) ?_
        refine lv_iload_n hx hb dX7_waysOn_13 rfl (lv_at hl 0 rfl) ?_
        refine lv_iload_n hx hb dX7_waysOn_14 rfl (lv_at hl 3 rfl) ?_
        refine g_icmp_ne (x := i) (y := t) (tgt := 22) C0 (by omega) (by omega) dX7_waysOn_15 rfl (fun c25 => ?_) (fun c26 => ?_)
        · refine g_sipush (n := 1000) C0 (by decide) dX7_waysOn_22 ?_
          refine g_iast (g := nf (u1 w1 i 1000)) (i := i) C0 X 6 0 rfl rfl (by omega) rfl (nf_u1 _ _ _) dX7_waysOn_25 (fun H locs X => ?_)
          have X : Hx D zA zs H locs (mW tk h (u2 (u3 Mt 6 w1) 6 i 1000) hi la ce) := X
          refine g_iinc (j := 1) (z := i + 1) (lv' := [(3, .int (nI (i + 1))), (0, .ref (h 0)), (1, .int (nI p)), (2, .int (nI t))]) C0 rfl (by first | rfl | omega) dX7_waysOn_26 hl (k := 0) rfl (by decide) rfl (fun ls hl => ?_)
          refine lv_goto (tgt := 2) hx hb dX7_waysOn_29 (by decide) ?_
          exact ih2 (i + 1) (u1 w1 i 1000) (by omega) (by omega) (by first | exact dz_s0 c25 hd0 | exact dz_s1 c25 hd0) H locs ls X (lv_sub hl [0, 1, 2, 3] rfl)
        · refine g_iconst (n := 0) C0 rfl dX7_waysOn_18 ?_
          refine lv_goto (tgt := 25) hx hb dX7_waysOn_19 (by decide) ?_
          refine g_iast (g := nf (u1 w1 i 0)) (i := i) C0 X 6 0 rfl rfl (by omega) rfl (nf_u1 _ _ _) dX7_waysOn_25 (fun H locs X => ?_)
          have X : Hx D zA zs H locs (mW tk h (u2 (u3 Mt 6 w1) 6 i 0) hi la ce) := X
          refine g_iinc (j := 1) (z := i + 1) (lv' := [(3, .int (nI (i + 1))), (0, .ref (h 0)), (1, .int (nI p)), (2, .int (nI t))]) C0 rfl (by first | rfl | omega) dX7_waysOn_26 hl (k := 0) rfl (by decide) rfl (fun ls hl => ?_)
          refine lv_goto (tgt := 2) hx hb dX7_waysOn_29 (by decide) ?_
          exact ih2 (i + 1) (u1 w1 i 0) (by omega) (by omega) (by first | exact dz_s0 c26 hd0 | exact dz_s1 c26 hd0) H locs ls X (lv_sub hl [0, 1, 2, 3] rfl)
  exact J2 ((6 - 0) + 1) 0 (Mt 6) (Nat.lt_succ_self _) (by omega) (by intro j hj; omega) H locs ls X (lv_sub hl [0, 1, 2, 3] rfl)
set_option maxHeartbeats 4000000 in
set_option maxRecDepth 100000 in
theorem c_X7_loudOn (l : Launch) (D : va_G) (tk : Nat → ClassId) (h : Nat → Nat) (Mt : Nat → Nat → Nat) (hi : Int32) (la ce : Nat → Int32) (p x b : Nat) (hp : p ≤ 252) (hu : x < 6) (hk : Mt 0 (p + x) ≤ 3) (hd : Mt 6 x ≤ 1000) (hb : b ≤ 60) : MX l yX7_loudOn cX7_loudOn 6 (some .int) ⟨0, 0, 0, 0⟩ D (TYS tk) [.ref (h 0), .int (nI p), .int (nI x), .int (nI b)] (mW tk h Mt hi la ce) (fun (_ : Unit) => True) (fun _ => some (.int (nI (loudS (Mt 0 (p + x)) b (Mt 6 x))))) (fun _ => mW tk h Mt hi la ce) 0 0 := by
  refine MX.of_i (by decide) rfl ?_
  intro zp ze zs zm za zb zt zc zA zQ ls C0 hnm X hl hE
  have hx := C0.1
  have hb := C0.2.1
  have ht := C0.2.2.2.2.1
  have X : Hx D zA zs zs.heap [] (mW tk h Mt hi la ce) := X
  have hl : lv_has ls 6 [(0, .ref (h 0)), (1, .int (nI p)), (2, .int (nI x)), (3, .int (nI b))] := hl
  obtain ⟨H, hH⟩ : ∃ H, H = zs.heap := ⟨_, rfl⟩
  rw [← hH] at X ⊢
  obtain ⟨locs, hlo⟩ : ∃ L : List Loc, L = [] := ⟨_, rfl⟩
  rw [← hlo] at X ⊢
  refine lv_iload_n hx hb dX7_loudOn_0 rfl (lv_at hl 3 rfl) ?_
  refine lv_aload_n hx hb dX7_loudOn_1 rfl (lv_at hl 0 rfl) ?_
  refine g_get (v := .ref (h 6)) C0 X kX7 0 17 tb814 rfl rfl rfl dX7_loudOn_2 ?_
  refine lv_iload_n hx hb dX7_loudOn_5 rfl (lv_at hl 2 rfl) ?_
  refine g_iald (v := nI (Mt 6 x)) (i := x) C0 X 6 0 rfl rfl (by omega) rfl rfl dX7_loudOn_6 ?_
  refine g_icmp_le (x := b) (y := Mt 6 x) (tgt := 21) C0 (by omega) (by omega) dX7_loudOn_7 rfl (fun c1 => ?_) (fun c2 => ?_)
  · refine g_iconst (n := 0) C0 rfl dX7_loudOn_21 ?_
    refine lv_istore (lv' := [(4, .int (nI 0)), (0, .ref (h 0)), (1, .int (nI p)), (2, .int (nI x)), (3, .int (nI b))]) hx hb dX7_loudOn_22 hl (by decide) rfl (fun ls hl => ?_)
    refine lv_aload_n hx hb dX7_loudOn_24 rfl (lv_at hl 1 rfl) ?_
    refine g_get (v := .ref (h 1)) C0 X kX7 0 0 tb797 rfl rfl rfl dX7_loudOn_25 ?_
    refine lv_iload_n hx hb dX7_loudOn_28 rfl (lv_at hl 2 rfl) ?_
    refine lv_iload_n hx hb dX7_loudOn_29 rfl (lv_at hl 3 rfl) ?_
    refine g_iadd (n := p + x) C0 (by first | rfl | omega) dX7_loudOn_30 ?_
    refine g_iald (v := nI (Mt 0 (p + x))) (i := p + x) C0 X 1 0 rfl rfl (by omega) rfl rfl dX7_loudOn_31 ?_
    refine lv_istore (lv' := [(5, .int (nI (Mt 0 (p + x)))), (4, .int (nI 0)), (0, .ref (h 0)), (1, .int (nI p)), (2, .int (nI x)), (3, .int (nI b))]) hx hb dX7_loudOn_32 hl (by decide) rfl (fun ls hl => ?_)
    refine lv_iload hx hb dX7_loudOn_34 (lv_at hl 0 rfl) ?_
    refine g_ifne (x := Mt 0 (p + x)) (tgt := 44) C0 (by omega) dX7_loudOn_36 rfl (fun c3 => ?_) (fun c4 => ?_)
    · refine lv_iload hx hb dX7_loudOn_44 (lv_at hl 0 rfl) ?_
      refine g_iconst (n := 1) C0 rfl dX7_loudOn_46 ?_
      refine g_icmp_ne (x := Mt 0 (p + x)) (y := 1) (tgt := 57) C0 (by omega) (by omega) dX7_loudOn_47 rfl (fun c5 => ?_) (fun c6 => ?_)
      · refine lv_iload hx hb dX7_loudOn_57 (lv_at hl 0 rfl) ?_
        refine g_iconst (n := 2) C0 rfl dX7_loudOn_59 ?_
        refine g_icmp_ne (x := Mt 0 (p + x)) (y := 2) (tgt := 70) C0 (by omega) (by omega) dX7_loudOn_60 rfl (fun c7 => ?_) (fun c8 => ?_)
        · refine g_iconst (n := 2) C0 rfl dX7_loudOn_70 ?_
          refine lv_iload hx hb dX7_loudOn_71 (lv_at hl 1 rfl) ?_
          refine g_imul (n := 2 * 0) C0 rfl dX7_loudOn_73 ?_
          refine g_iconst (n := 3) C0 rfl dX7_loudOn_74 ?_
          refine g_icmp_le (x := 2 * 0) (y := 3) (tgt := 87) C0 (by omega) (by omega) dX7_loudOn_75 rfl (fun c9 => ?_) (fun c10 => ?_)
          · refine g_iconst (n := 0) C0 rfl dX7_loudOn_87 ?_
            exact hE (v := nI 0) () (by refine congrArg (fun z => some (Value.int (nI z))) (?_ : loudS (Mt 0 (p + x)) b (Mt 6 x) = _); unfold loudS; (repeat' split) <;> omega) trivial X dX7_loudOn_88
          · refine g_iconst (n := 2) C0 rfl dX7_loudOn_78 ?_
            refine lv_iload hx hb dX7_loudOn_79 (lv_at hl 1 rfl) ?_
            refine g_imul (n := 2 * 0) C0 rfl dX7_loudOn_81 ?_
            refine g_iconst (n := 3) C0 rfl dX7_loudOn_82 ?_
            refine g_isub (n := (2 * 0) - 3) C0 (by omega) rfl dX7_loudOn_83 ?_
            refine lv_goto (tgt := 88) hx hb dX7_loudOn_84 (by decide) ?_
            exact hE (v := nI ((2 * 0) - 3)) () (by refine congrArg (fun z => some (Value.int (nI z))) (?_ : loudS (Mt 0 (p + x)) b (Mt 6 x) = _); unfold loudS; (repeat' split) <;> omega) trivial X dX7_loudOn_88
        · refine lv_iload hx hb dX7_loudOn_63 (lv_at hl 1 rfl) ?_
          refine g_iconst (n := 2) C0 rfl dX7_loudOn_65 ?_
          refine g_idiv (n := 0 / 2) C0 (by omega) rfl dX7_loudOn_66 ?_
          refine lv_goto (tgt := 88) hx hb dX7_loudOn_67 (by decide) ?_
          exact hE (v := nI (0 / 2)) () (by refine congrArg (fun z => some (Value.int (nI z))) (?_ : loudS (Mt 0 (p + x)) b (Mt 6 x) = _); unfold loudS; (repeat' split) <;> omega) trivial X dX7_loudOn_88
      · refine g_iconst (n := 2) C0 rfl dX7_loudOn_50 ?_
        refine lv_iload hx hb dX7_loudOn_51 (lv_at hl 1 rfl) ?_
        refine g_imul (n := 2 * 0) C0 rfl dX7_loudOn_53 ?_
        refine lv_goto (tgt := 88) hx hb dX7_loudOn_54 (by decide) ?_
        exact hE (v := nI (2 * 0)) () (by refine congrArg (fun z => some (Value.int (nI z))) (?_ : loudS (Mt 0 (p + x)) b (Mt 6 x) = _); unfold loudS; (repeat' split) <;> omega) trivial X dX7_loudOn_88
    · refine lv_iload hx hb dX7_loudOn_39 (lv_at hl 1 rfl) ?_
      refine lv_goto (tgt := 88) hx hb dX7_loudOn_41 (by decide) ?_
      exact hE (v := nI 0) () (by refine congrArg (fun z => some (Value.int (nI z))) (?_ : loudS (Mt 0 (p + x)) b (Mt 6 x) = _); unfold loudS; (repeat' split) <;> omega) trivial X dX7_loudOn_88
  · refine lv_iload_n hx hb dX7_loudOn_10 rfl (lv_at hl 3 rfl) ?_
    refine lv_aload_n hx hb dX7_loudOn_11 rfl (lv_at hl 0 rfl) ?_
    refine g_get (v := .ref (h 6)) C0 X kX7 0 17 tb814 rfl rfl rfl dX7_loudOn_12 ?_
    refine lv_iload_n hx hb dX7_loudOn_15 rfl (lv_at hl 2 rfl) ?_
    refine g_iald (v := nI (Mt 6 x)) (i := x) C0 X 6 0 rfl rfl (by omega) rfl rfl dX7_loudOn_16 ?_
    refine g_isub (n := b - (Mt 6 x)) C0 (by omega) rfl dX7_loudOn_17 ?_
    refine lv_goto (tgt := 22) hx hb dX7_loudOn_18 (by decide) ?_
    refine lv_istore (lv' := [(4, .int (nI (b - (Mt 6 x)))), (0, .ref (h 0)), (1, .int (nI p)), (2, .int (nI x)), (3, .int (nI b))]) hx hb dX7_loudOn_22 hl (by decide) rfl (fun ls hl => ?_)
    refine lv_aload_n hx hb dX7_loudOn_24 rfl (lv_at hl 1 rfl) ?_
    refine g_get (v := .ref (h 1)) C0 X kX7 0 0 tb797 rfl rfl rfl dX7_loudOn_25 ?_
    refine lv_iload_n hx hb dX7_loudOn_28 rfl (lv_at hl 2 rfl) ?_
    refine lv_iload_n hx hb dX7_loudOn_29 rfl (lv_at hl 3 rfl) ?_
    refine g_iadd (n := p + x) C0 (by first | rfl | omega) dX7_loudOn_30 ?_
    refine g_iald (v := nI (Mt 0 (p + x))) (i := p + x) C0 X 1 0 rfl rfl (by omega) rfl rfl dX7_loudOn_31 ?_
    refine lv_istore (lv' := [(5, .int (nI (Mt 0 (p + x)))), (4, .int (nI (b - (Mt 6 x)))), (0, .ref (h 0)), (1, .int (nI p)), (2, .int (nI x)), (3, .int (nI b))]) hx hb dX7_loudOn_32 hl (by decide) rfl (fun ls hl => ?_)
    refine lv_iload hx hb dX7_loudOn_34 (lv_at hl 0 rfl) ?_
    refine g_ifne (x := Mt 0 (p + x)) (tgt := 44) C0 (by omega) dX7_loudOn_36 rfl (fun c11 => ?_) (fun c12 => ?_)
    · refine lv_iload hx hb dX7_loudOn_44 (lv_at hl 0 rfl) ?_
      refine g_iconst (n := 1) C0 rfl dX7_loudOn_46 ?_
      refine g_icmp_ne (x := Mt 0 (p + x)) (y := 1) (tgt := 57) C0 (by omega) (by omega) dX7_loudOn_47 rfl (fun c13 => ?_) (fun c14 => ?_)
      · refine lv_iload hx hb dX7_loudOn_57 (lv_at hl 0 rfl) ?_
        refine g_iconst (n := 2) C0 rfl dX7_loudOn_59 ?_
        refine g_icmp_ne (x := Mt 0 (p + x)) (y := 2) (tgt := 70) C0 (by omega) (by omega) dX7_loudOn_60 rfl (fun c15 => ?_) (fun c16 => ?_)
        · refine g_iconst (n := 2) C0 rfl dX7_loudOn_70 ?_
          refine lv_iload hx hb dX7_loudOn_71 (lv_at hl 1 rfl) ?_
          refine g_imul (n := 2 * (b - (Mt 6 x))) C0 rfl dX7_loudOn_73 ?_
          refine g_iconst (n := 3) C0 rfl dX7_loudOn_74 ?_
          refine g_icmp_le (x := 2 * (b - (Mt 6 x))) (y := 3) (tgt := 87) C0 (by omega) (by omega) dX7_loudOn_75 rfl (fun c17 => ?_) (fun c18 => ?_)
          · refine g_iconst (n := 0) C0 rfl dX7_loudOn_87 ?_
            exact hE (v := nI 0) () (by refine congrArg (fun z => some (Value.int (nI z))) (?_ : loudS (Mt 0 (p + x)) b (Mt 6 x) = _); unfold loudS; (repeat' split) <;> omega) trivial X dX7_loudOn_88
          · refine g_iconst (n := 2) C0 rfl dX7_loudOn_78 ?_
            refine lv_iload hx hb dX7_loudOn_79 (lv_at hl 1 rfl) ?_
            refine g_imul (n := 2 * (b - (Mt 6 x))) C0 rfl dX7_loudOn_81 ?_
            refine g_iconst (n := 3) C0 rfl dX7_loudOn_82 ?_
            refine g_isub (n := (2 * (b - (Mt 6 x))) - 3) C0 (by omega) rfl dX7_loudOn_83 ?_
            refine lv_goto (tgt := 88) hx hb dX7_loudOn_84 (by decide) ?_
            exact hE (v := nI ((2 * (b - (Mt 6 x))) - 3)) () (by refine congrArg (fun z => some (Value.int (nI z))) (?_ : loudS (Mt 0 (p + x)) b (Mt 6 x) = _); unfold loudS; (repeat' split) <;> omega) trivial X dX7_loudOn_88
        · refine lv_iload hx hb dX7_loudOn_63 (lv_at hl 1 rfl) ?_
          refine g_iconst (n := 2) C0 rfl dX7_loudOn_65 ?_
          refine g_idiv (n := (b - (Mt 6 x)) / 2) C0 (by omega) rfl dX7_loudOn_66 ?_
          refine lv_goto (tgt := 88) hx hb dX7_loudOn_67 (by decide) ?_
          exact hE (v := nI ((b - (Mt 6 x)) / 2)) () (by refine congrArg (fun z => some (Value.int (nI z))) (?_ : loudS (Mt 0 (p + x)) b (Mt 6 x) = _); unfold loudS; (repeat' split) <;> omega) trivial X dX7_loudOn_88
      · refine g_iconst (n := 2) C0 rfl dX7_loudOn_50 ?_
        refine lv_iload hx hb dX7_loudOn_51 (lv_at hl 1 rfl) ?_
        refine g_imul (n := 2 * (b - (Mt 6 x))) C0 rfl dX7_loudOn_53 ?_
        refine lv_goto (tgt := 88) hx hb dX7_loudOn_54 (by decide) ?_
        exact hE (v := nI (2 * (b - (Mt 6 x)))) () (by refine congrArg (fun z => some (Value.int (nI z))) (?_ : loudS (Mt 0 (p + x)) b (Mt 6 x) = _); unfold loudS; (repeat' split) <;> omega) trivial X dX7_loudOn_88
    · refine lv_iload hx hb dX7_loudOn_39 (lv_at hl 1 rfl) ?_
      refine lv_goto (tgt := 88) hx hb dX7_loudOn_41 (by decide) ?_
      exact hE (v := nI (b - (Mt 6 x))) () (by refine congrArg (fun z => some (Value.int (nI z))) (?_ : loudS (Mt 0 (p + x)) b (Mt 6 x) = _); unfold loudS; (repeat' split) <;> omega) trivial X dX7_loudOn_88
