set_option maxHeartbeats 4000000 in
set_option maxRecDepth 100000 in
theorem c_X6_within (l : Launch) (D : va_G) (tk : Nat → ClassId) (x lo hi : Int32) : MX l yX6_within cX6_within 3 (some .boolean) ⟨0, 0, 0, 0⟩ D (TYS tk) [.int x, .int lo, .int hi] ([]) (fun (_ : Unit) => True) (fun _ => some (.int (nI (rb (inI x lo hi))))) (fun _ => []) 0 0 := by
  refine MX.of_z (by decide) rfl ?_
  intro zp ze zs zm za zb zt zc zA zQ ls C0 hnm X hl hE
  have hx := C0.1
  have hb := C0.2.1
  have ht := C0.2.2.2.2.1
  have X : Hx D zA zs zs.heap [] ([]) := X
  have hl : lv_has ls 3 [(0, .int x), (1, .int lo), (2, .int hi)] := hl
  obtain ⟨H, hH⟩ : ∃ H, H = zs.heap := ⟨_, rfl⟩
  rw [← hH] at X ⊢
  obtain ⟨locs, hlo⟩ : ∃ L : List Loc, L = [] := ⟨_, rfl⟩
  rw [← hlo] at X ⊢
  refine lv_iload_n hx hb dX6_within_0 rfl (lv_at hl 0 rfl) ?_
  refine lv_iload_n hx hb dX6_within_1 rfl (lv_at hl 1 rfl) ?_
  refine lv_icmp_lt (tgt := 14) hx hb dX6_within_2 rfl (fun c1 => ?_) (fun c2 => ?_)
  · refine g_iconst (n := 0) C0 rfl dX6_within_14 ?_
    exact hE (v := false) () (by simp [inI, ← Int32.not_lt, c1]) trivial X dX6_within_15
  · refine lv_iload_n hx hb dX6_within_5 rfl (lv_at hl 0 rfl) ?_
    refine lv_iload_n hx hb dX6_within_6 rfl (lv_at hl 2 rfl) ?_
    refine lv_icmp_gt (tgt := 14) hx hb dX6_within_7 rfl (fun c3 => ?_) (fun c4 => ?_)
    · refine g_iconst (n := 0) C0 rfl dX6_within_14 ?_
      exact hE (v := false) () (by simp [inI, ← Int32.not_lt, c2, c3]) trivial X dX6_within_15
    · refine g_iconst (n := 1) C0 rfl dX6_within_10 ?_
      refine lv_goto (tgt := 15) hx hb dX6_within_11 (by decide) ?_
      exact hE (v := true) () (by simp [inI, ← Int32.not_lt, c2, c4]) trivial X dX6_within_15
set_option maxHeartbeats 4000000 in
set_option maxRecDepth 100000 in
theorem c_X6_isBreath (l : Launch) (D : va_G) (tk : Nat → ClassId) (x : Int32) : MX l yX6_isBreath cX6_isBreath 1 (some .boolean) ⟨1, 0, 0, 22⟩ D (TYS tk) [.int x] ([]) (fun (_ : Unit) => True) (fun _ => some (.int (nI (rb (rg x 1 60))))) (fun _ => []) 0 0 := by
  refine MX.of_z (by decide) rfl ?_
  intro zp ze zs zm za zb zt zc zA zQ ls C0 hnm X hl hE
  have hx := C0.1
  have hb := C0.2.1
  have ht := C0.2.2.2.2.1
  have X : Hx D zA zs zs.heap [] ([]) := X
  have hl : lv_has ls 1 [(0, .int x)] := hl
  obtain ⟨H, hH⟩ : ∃ H, H = zs.heap := ⟨_, rfl⟩
  rw [← hH] at X ⊢
  obtain ⟨locs, hlo⟩ : ∃ L : List Loc, L = [] := ⟨_, rfl⟩
  rw [← hlo] at X ⊢
  refine lv_iload_n hx hb dX6_isBreath_0 rfl (lv_at hl 0 rfl) ?_
  refine g_iconst (n := 1) C0 rfl dX6_isBreath_1 ?_
  refine g_bipush (n := 60) C0 (by decide) dX6_isBreath_2 ?_
  refine g_callS (As := [.int x, .int (nI 1), .int (nI 60)]) (rest := []) (wr := []) (C0.sz hl) X (c_X6_within l D tk x (nI 1) (nI 60)) ⟨tb232, tb234, tb1, ⟨by decide, by decide, rfl⟩, rfl, rfl, Nat.le_of_ble_eq_true rfl, Nat.le_of_ble_eq_true rfl⟩ tb233 rfl [] [] rfl rfl rfl rfl rfl (Nat.le_of_ble_eq_true rfl) ⟨Nat.le_of_ble_eq_true rfl, Nat.le_of_ble_eq_true rfl⟩ dX6_isBreath_4 (fun _ H locs _ X => ?_)
  have X : Hx D zA zs H locs ([]) := X
  refine g_top (y := nI (rb (rg x 1 60))) (by rw [inI_rg x (by first | decide | omega) (by first | decide | omega)]) ?_
  exact hE (v := rg x 1 60) () (by first | rfl | rw [inI_rg x (by decide) (by decide)]) trivial X dX6_isBreath_7
set_option maxHeartbeats 4000000 in
set_option maxRecDepth 100000 in
theorem c_X6_isLength (l : Launch) (D : va_G) (tk : Nat → ClassId) (x : Int32) : MX l yX6_isLength cX6_isLength 1 (some .boolean) ⟨1, 0, 0, 22⟩ D (TYS tk) [.int x] ([]) (fun (_ : Unit) => True) (fun _ => some (.int (nI (rb (rg x 1 9))))) (fun _ => []) 0 0 := by
  refine MX.of_z (by decide) rfl ?_
  intro zp ze zs zm za zb zt zc zA zQ ls C0 hnm X hl hE
  have hx := C0.1
  have hb := C0.2.1
  have ht := C0.2.2.2.2.1
  have X : Hx D zA zs zs.heap [] ([]) := X
  have hl : lv_has ls 1 [(0, .int x)] := hl
  obtain ⟨H, hH⟩ : ∃ H, H = zs.heap := ⟨_, rfl⟩
  rw [← hH] at X ⊢
  obtain ⟨locs, hlo⟩ : ∃ L : List Loc, L = [] := ⟨_, rfl⟩
  rw [← hlo] at X ⊢
  refine lv_iload_n hx hb dX6_isLength_0 rfl (lv_at hl 0 rfl) ?_
  refine g_iconst (n := 1) C0 rfl dX6_isLength_1 ?_
  refine g_bipush (n := 9) C0 (by decide) dX6_isLength_2 ?_
  refine g_callS (As := [.int x, .int (nI 1), .int (nI 9)]) (rest := []) (wr := []) (C0.sz hl) X (c_X6_within l D tk x (nI 1) (nI 9)) ⟨tb232, tb234, tb1, ⟨by decide, by decide, rfl⟩, rfl, rfl, Nat.le_of_ble_eq_true rfl, Nat.le_of_ble_eq_true rfl⟩ tb233 rfl [] [] rfl rfl rfl rfl rfl (Nat.le_of_ble_eq_true rfl) ⟨Nat.le_of_ble_eq_true rfl, Nat.le_of_ble_eq_true rfl⟩ dX6_isLength_4 (fun _ H locs _ X => ?_)
  have X : Hx D zA zs H locs ([]) := X
  refine g_top (y := nI (rb (rg x 1 9))) (by rw [inI_rg x (by first | decide | omega) (by first | decide | omega)]) ?_
  exact hE (v := rg x 1 9) () (by first | rfl | rw [inI_rg x (by decide) (by decide)]) trivial X dX6_isLength_7
set_option maxHeartbeats 4000000 in
set_option maxRecDepth 100000 in
theorem c_X6_isTenths (l : Launch) (D : va_G) (tk : Nat → ClassId) (x : Int32) : MX l yX6_isTenths cX6_isTenths 1 (some .boolean) ⟨1, 0, 0, 22⟩ D (TYS tk) [.int x] ([]) (fun (_ : Unit) => True) (fun _ => some (.int (nI (rb (rg x 0 10))))) (fun _ => []) 0 0 := by
  refine MX.of_z (by decide) rfl ?_
  intro zp ze zs zm za zb zt zc zA zQ ls C0 hnm X hl hE
  have hx := C0.1
  have hb := C0.2.1
  have ht := C0.2.2.2.2.1
  have X : Hx D zA zs zs.heap [] ([]) := X
  have hl : lv_has ls 1 [(0, .int x)] := hl
  obtain ⟨H, hH⟩ : ∃ H, H = zs.heap := ⟨_, rfl⟩
  rw [← hH] at X ⊢
  obtain ⟨locs, hlo⟩ : ∃ L : List Loc, L = [] := ⟨_, rfl⟩
  rw [← hlo] at X ⊢
  refine lv_iload_n hx hb dX6_isTenths_0 rfl (lv_at hl 0 rfl) ?_
  refine g_iconst (n := 0) C0 rfl dX6_isTenths_1 ?_
  refine g_bipush (n := 10) C0 (by decide) dX6_isTenths_2 ?_
  refine g_callS (As := [.int x, .int (nI 0), .int (nI 10)]) (rest := []) (wr := []) (C0.sz hl) X (c_X6_within l D tk x (nI 0) (nI 10)) ⟨tb232, tb234, tb1, ⟨by decide, by decide, rfl⟩, rfl, rfl, Nat.le_of_ble_eq_true rfl, Nat.le_of_ble_eq_true rfl⟩ tb233 rfl [] [] rfl rfl rfl rfl rfl (Nat.le_of_ble_eq_true rfl) ⟨Nat.le_of_ble_eq_true rfl, Nat.le_of_ble_eq_true rfl⟩ dX6_isTenths_4 (fun _ H locs _ X => ?_)
  have X : Hx D zA zs H locs ([]) := X
  refine g_top (y := nI (rb (rg x 0 10))) (by rw [inI_rg x (by first | decide | omega) (by first | decide | omega)]) ?_
  exact hE (v := rg x 0 10) () (by first | rfl | rw [inI_rg x (by decide) (by decide)]) trivial X dX6_isTenths_7
set_option maxHeartbeats 4000000 in
set_option maxRecDepth 100000 in
theorem c_X6_isEither (l : Launch) (D : va_G) (tk : Nat → ClassId) (x : Int32) : MX l yX6_isEither cX6_isEither 1 (some .boolean) ⟨1, 0, 0, 22⟩ D (TYS tk) [.int x] ([]) (fun (_ : Unit) => True) (fun _ => some (.int (nI (rb (rg x 0 1))))) (fun _ => []) 0 0 := by
  refine MX.of_z (by decide) rfl ?_
  intro zp ze zs zm za zb zt zc zA zQ ls C0 hnm X hl hE
  have hx := C0.1
  have hb := C0.2.1
  have ht := C0.2.2.2.2.1
  have X : Hx D zA zs zs.heap [] ([]) := X
  have hl : lv_has ls 1 [(0, .int x)] := hl
  obtain ⟨H, hH⟩ : ∃ H, H = zs.heap := ⟨_, rfl⟩
  rw [← hH] at X ⊢
  obtain ⟨locs, hlo⟩ : ∃ L : List Loc, L = [] := ⟨_, rfl⟩
  rw [← hlo] at X ⊢
  refine lv_iload_n hx hb dX6_isEither_0 rfl (lv_at hl 0 rfl) ?_
  refine g_iconst (n := 0) C0 rfl dX6_isEither_1 ?_
  refine g_iconst (n := 1) C0 rfl dX6_isEither_2 ?_
  refine g_callS (As := [.int x, .int (nI 0), .int (nI 1)]) (rest := []) (wr := []) (C0.sz hl) X (c_X6_within l D tk x (nI 0) (nI 1)) ⟨tb232, tb234, tb1, ⟨by decide, by decide, rfl⟩, rfl, rfl, Nat.le_of_ble_eq_true rfl, Nat.le_of_ble_eq_true rfl⟩ tb233 rfl [] [] rfl rfl rfl rfl rfl (Nat.le_of_ble_eq_true rfl) ⟨Nat.le_of_ble_eq_true rfl, Nat.le_of_ble_eq_true rfl⟩ dX6_isEither_3 (fun _ H locs _ X => ?_)
  have X : Hx D zA zs H locs ([]) := X
  refine g_top (y := nI (rb (rg x 0 1))) (by rw [inI_rg x (by first | decide | omega) (by first | decide | omega)]) ?_
  exact hE (v := rg x 0 1) () (by first | rfl | rw [inI_rg x (by decide) (by decide)]) trivial X dX6_isEither_6
set_option maxHeartbeats 4000000 in
set_option maxRecDepth 100000 in
theorem c_X6_isLane (l : Launch) (D : va_G) (tk : Nat → ClassId) (x : Int32) : MX l yX6_isLane cX6_isLane 1 (some .boolean) ⟨1, 0, 0, 22⟩ D (TYS tk) [.int x] ([]) (fun (_ : Unit) => True) (fun _ => some (.int (nI (rb (rg x 0 2))))) (fun _ => []) 0 0 := by
  refine MX.of_z (by decide) rfl ?_
  intro zp ze zs zm za zb zt zc zA zQ ls C0 hnm X hl hE
  have hx := C0.1
  have hb := C0.2.1
  have ht := C0.2.2.2.2.1
  have X : Hx D zA zs zs.heap [] ([]) := X
  have hl : lv_has ls 1 [(0, .int x)] := hl
  obtain ⟨H, hH⟩ : ∃ H, H = zs.heap := ⟨_, rfl⟩
  rw [← hH] at X ⊢
  obtain ⟨locs, hlo⟩ : ∃ L : List Loc, L = [] := ⟨_, rfl⟩
  rw [← hlo] at X ⊢
  refine lv_iload_n hx hb dX6_isLane_0 rfl (lv_at hl 0 rfl) ?_
  refine g_iconst (n := 0) C0 rfl dX6_isLane_1 ?_
  refine g_iconst (n := 2) C0 rfl dX6_isLane_2 ?_
  refine g_callS (As := [.int x, .int (nI 0), .int (nI 2)]) (rest := []) (wr := []) (C0.sz hl) X (c_X6_within l D tk x (nI 0) (nI 2)) ⟨tb232, tb234, tb1, ⟨by decide, by decide, rfl⟩, rfl, rfl, Nat.le_of_ble_eq_true rfl, Nat.le_of_ble_eq_true rfl⟩ tb233 rfl [] [] rfl rfl rfl rfl rfl (Nat.le_of_ble_eq_true rfl) ⟨Nat.le_of_ble_eq_true rfl, Nat.le_of_ble_eq_true rfl⟩ dX6_isLane_3 (fun _ H locs _ X => ?_)
  have X : Hx D zA zs H locs ([]) := X
  refine g_top (y := nI (rb (rg x 0 2))) (by rw [inI_rg x (by first | decide | omega) (by first | decide | omega)]) ?_
  exact hE (v := rg x 0 2) () (by first | rfl | rw [inI_rg x (by decide) (by decide)]) trivial X dX6_isLane_6
set_option maxHeartbeats 4000000 in
set_option maxRecDepth 100000 in
theorem c_X1_hasTree (l : Launch) (D : va_G) (tk : Nat → ClassId) (h : Nat → Nat) (G : Nat → Nat → Nat) (d e : Nat → Nat) (t : Int32) (hn : G 8 0 < 2 ^ 31) : MX l yX1_hasTree cX1_hasTree 2 (some .boolean) ⟨1, 0, 0, 22⟩ D (TYS tk) [.ref (h 0), .int t] (gW tk h G d e) (fun (_ : Unit) => True) (fun _ => some (.int (nI (rb (ix t (G 8 0)))))) (fun _ => gW tk h G d e) 0 0 := by
  refine MX.of_z (by decide) rfl ?_
  intro zp ze zs zm za zb zt zc zA zQ ls C0 hnm X hl hE
  have hx := C0.1
  have hb := C0.2.1
  have ht := C0.2.2.2.2.1
  have X : Hx D zA zs zs.heap [] (gW tk h G d e) := X
  have hl : lv_has ls 2 [(0, .ref (h 0)), (1, .int t)] := hl
  obtain ⟨H, hH⟩ : ∃ H, H = zs.heap := ⟨_, rfl⟩
  rw [← hH] at X ⊢
  obtain ⟨locs, hlo⟩ : ∃ L : List Loc, L = [] := ⟨_, rfl⟩
  rw [← hlo] at X ⊢
  refine lv_iload_n hx hb dX1_hasTree_0 rfl (lv_at hl 1 rfl) ?_
  refine g_iconst (n := 0) C0 rfl dX1_hasTree_1 ?_
  refine lv_aload_n hx hb dX1_hasTree_2 rfl (lv_at hl 0 rfl) ?_
  refine g_get (v := .int (nI (G 8 0))) C0 X kX1 0 0 tb31 rfl rfl rfl dX1_hasTree_3 ?_
  refine g_iconst (n := 1) C0 rfl dX1_hasTree_6 ?_
  refine lv_isub hx hb dX1_hasTree_7 ?_
  refine g_callSN (As := [.int t, .int (nI 0), .int ((nI (G 8 0)) - (nI 1))]) (rest := []) (wr := (gW tk h G d e)) (C0.sz hl) X (c_X6_within l D tk t (nI 0) ((nI (G 8 0)) - (nI 1))) ⟨tb391, tb234, tb1, ⟨by decide, by decide, rfl⟩, rfl, rfl, Nat.le_of_ble_eq_true rfl, Nat.le_of_ble_eq_true rfl⟩ tb233 rfl [] [0, 1, 2, 3, 4, 5, 6, 7, 8, 9] rfl rfl rfl rfl rfl (Nat.le_of_ble_eq_true rfl) ⟨Nat.le_of_ble_eq_true rfl, Nat.le_of_ble_eq_true rfl⟩ dX1_hasTree_8 (fun _ H locs _ X => ?_)
  have X : Hx D zA zs H locs (gW tk h G d e) := X
  exact hE (v := inI t (nI 0) ((nI (G 8 0)) - (nI 1))) () (by rw [inI_ix t hn]) trivial X dX1_hasTree_11
set_option maxHeartbeats 4000000 in
set_option maxRecDepth 100000 in
theorem c_X1_hasRoot (l : Launch) (D : va_G) (tk : Nat → ClassId) (h : Nat → Nat) (G : Nat → Nat → Nat) (d e : Nat → Nat) (t : Int32) (hn : G 8 1 < 2 ^ 31) : MX l yX1_hasRoot cX1_hasRoot 2 (some .boolean) ⟨1, 0, 0, 22⟩ D (TYS tk) [.ref (h 0), .int t] (gW tk h G d e) (fun (_ : Unit) => True) (fun _ => some (.int (nI (rb (ix t (G 8 1)))))) (fun _ => gW tk h G d e) 0 0 := by
  refine MX.of_z (by decide) rfl ?_
  intro zp ze zs zm za zb zt zc zA zQ ls C0 hnm X hl hE
  have hx := C0.1
  have hb := C0.2.1
  have ht := C0.2.2.2.2.1
  have X : Hx D zA zs zs.heap [] (gW tk h G d e) := X
  have hl : lv_has ls 2 [(0, .ref (h 0)), (1, .int t)] := hl
  obtain ⟨H, hH⟩ : ∃ H, H = zs.heap := ⟨_, rfl⟩
  rw [← hH] at X ⊢
  obtain ⟨locs, hlo⟩ : ∃ L : List Loc, L = [] := ⟨_, rfl⟩
  rw [← hlo] at X ⊢
  refine lv_iload_n hx hb dX1_hasRoot_0 rfl (lv_at hl 1 rfl) ?_
  refine g_iconst (n := 0) C0 rfl dX1_hasRoot_1 ?_
  refine lv_aload_n hx hb dX1_hasRoot_2 rfl (lv_at hl 0 rfl) ?_
  refine g_get (v := .int (nI (G 8 1))) C0 X kX1 0 2 tb37 rfl rfl rfl dX1_hasRoot_3 ?_
  refine g_iconst (n := 1) C0 rfl dX1_hasRoot_6 ?_
  refine lv_isub hx hb dX1_hasRoot_7 ?_
  refine g_callSN (As := [.int t, .int (nI 0), .int ((nI (G 8 1)) - (nI 1))]) (rest := []) (wr := (gW tk h G d e)) (C0.sz hl) X (c_X6_within l D tk t (nI 0) ((nI (G 8 1)) - (nI 1))) ⟨tb391, tb234, tb1, ⟨by decide, by decide, rfl⟩, rfl, rfl, Nat.le_of_ble_eq_true rfl, Nat.le_of_ble_eq_true rfl⟩ tb233 rfl [] [0, 1, 2, 3, 4, 5, 6, 7, 8, 9] rfl rfl rfl rfl rfl (Nat.le_of_ble_eq_true rfl) ⟨Nat.le_of_ble_eq_true rfl, Nat.le_of_ble_eq_true rfl⟩ dX1_hasRoot_8 (fun _ H locs _ X => ?_)
  have X : Hx D zA zs H locs (gW tk h G d e) := X
  exact hE (v := inI t (nI 0) ((nI (G 8 1)) - (nI 1))) () (by rw [inI_ix t hn]) trivial X dX1_hasRoot_11
set_option maxHeartbeats 4000000 in
set_option maxRecDepth 100000 in
theorem c_X1_hasTalk (l : Launch) (D : va_G) (tk : Nat → ClassId) (h : Nat → Nat) (G : Nat → Nat → Nat) (d e : Nat → Nat) (t : Int32) (hn : G 8 3 < 2 ^ 31) : MX l yX1_hasTalk cX1_hasTalk 2 (some .boolean) ⟨1, 0, 0, 22⟩ D (TYS tk) [.ref (h 0), .int t] (gW tk h G d e) (fun (_ : Unit) => True) (fun _ => some (.int (nI (rb (ix t (G 8 3)))))) (fun _ => gW tk h G d e) 0 0 := by
  refine MX.of_z (by decide) rfl ?_
  intro zp ze zs zm za zb zt zc zA zQ ls C0 hnm X hl hE
  have hx := C0.1
  have hb := C0.2.1
  have ht := C0.2.2.2.2.1
  have X : Hx D zA zs zs.heap [] (gW tk h G d e) := X
  have hl : lv_has ls 2 [(0, .ref (h 0)), (1, .int t)] := hl
  obtain ⟨H, hH⟩ : ∃ H, H = zs.heap := ⟨_, rfl⟩
  rw [← hH] at X ⊢
  obtain ⟨locs, hlo⟩ : ∃ L : List Loc, L = [] := ⟨_, rfl⟩
  rw [← hlo] at X ⊢
  refine lv_iload_n hx hb dX1_hasTalk_0 rfl (lv_at hl 1 rfl) ?_
  refine g_iconst (n := 0) C0 rfl dX1_hasTalk_1 ?_
  refine lv_aload_n hx hb dX1_hasTalk_2 rfl (lv_at hl 0 rfl) ?_
  refine g_get (v := .int (nI (G 8 3))) C0 X kX1 0 8 tb51 rfl rfl rfl dX1_hasTalk_3 ?_
  refine g_iconst (n := 1) C0 rfl dX1_hasTalk_6 ?_
  refine lv_isub hx hb dX1_hasTalk_7 ?_
  refine g_callSN (As := [.int t, .int (nI 0), .int ((nI (G 8 3)) - (nI 1))]) (rest := []) (wr := (gW tk h G d e)) (C0.sz hl) X (c_X6_within l D tk t (nI 0) ((nI (G 8 3)) - (nI 1))) ⟨tb391, tb234, tb1, ⟨by decide, by decide, rfl⟩, rfl, rfl, Nat.le_of_ble_eq_true rfl, Nat.le_of_ble_eq_true rfl⟩ tb233 rfl [] [0, 1, 2, 3, 4, 5, 6, 7, 8, 9] rfl rfl rfl rfl rfl (Nat.le_of_ble_eq_true rfl) ⟨Nat.le_of_ble_eq_true rfl, Nat.le_of_ble_eq_true rfl⟩ dX1_hasTalk_8 (fun _ H locs _ X => ?_)
  have X : Hx D zA zs H locs (gW tk h G d e) := X
  exact hE (v := inI t (nI 0) ((nI (G 8 3)) - (nI 1))) () (by rw [inI_ix t hn]) trivial X dX1_hasTalk_11
set_option maxHeartbeats 4000000 in
set_option maxRecDepth 100000 in
theorem c_J6_bitCount_0f7a4 (l : Launch) (D : va_G) (tk : Nat → ClassId) (a : Nat) (ha : a < 1024) : MX l yJ6_bitCount_0f7a4 cJ6_bitCount_0f7a4 1 (some .int) ⟨0, 0, 0, 0⟩ D (TYS tk) [.int (nI a)] ([]) (fun (_ : Unit) => True) (fun _ => some (.int (nI (pc a)))) (fun _ => []) 0 0 := by
  refine MX.of_i (by decide) rfl ?_
  intro zp ze zs zm za zb zt zc zA zQ ls C0 hnm X hl hE
  have hx := C0.1
  have hb := C0.2.1
  have ht := C0.2.2.2.2.1
  have X : Hx D zA zs zs.heap [] ([]) := X
  have hl : lv_has ls 1 [(0, .int (nI a))] := hl
  obtain ⟨H, hH⟩ : ∃ H, H = zs.heap := ⟨_, rfl⟩
  rw [← hH] at X ⊢
  obtain ⟨locs, hlo⟩ : ∃ L : List Loc, L = [] := ⟨_, rfl⟩
  rw [← hlo] at X ⊢
  refine lv_iload_n hx hb dJ6_bitCount_0f7a4_0 rfl (lv_at hl 0 rfl) ?_
  refine lv_iload_n hx hb dJ6_bitCount_0f7a4_1 rfl (lv_at hl 0 rfl) ?_
  refine g_iconst (n := 1) C0 rfl dJ6_bitCount_0f7a4_2 ?_
  refine lv_iushr hx hb dJ6_bitCount_0f7a4_3 rfl ?_
  refine lv_ldcw (v := (1431655765 : Int32)) hx hb C0.2.2.2.1 (ht _ tb608) dJ6_bitCount_0f7a4_4 ?_
  refine lv_iand hx hb dJ6_bitCount_0f7a4_7 ?_
  refine lv_isub hx hb dJ6_bitCount_0f7a4_8 ?_
  refine lv_topi (fun y1 e1 => ?_)
  refine lv_istore_n (lv' := [(0, .int y1)]) hx hb dJ6_bitCount_0f7a4_9 rfl hl (by decide) rfl (fun ls hl => ?_)
  refine lv_iload_n hx hb dJ6_bitCount_0f7a4_10 rfl (lv_at hl 0 rfl) ?_
  refine lv_ldcw (v := (858993459 : Int32)) hx hb C0.2.2.2.1 (ht _ tb609) dJ6_bitCount_0f7a4_11 ?_
  refine lv_iand hx hb dJ6_bitCount_0f7a4_14 ?_
  refine lv_iload_n hx hb dJ6_bitCount_0f7a4_15 rfl (lv_at hl 0 rfl) ?_
  refine g_iconst (n := 2) C0 rfl dJ6_bitCount_0f7a4_16 ?_
  refine lv_iushr hx hb dJ6_bitCount_0f7a4_17 rfl ?_
  refine lv_ldcw (v := (858993459 : Int32)) hx hb C0.2.2.2.1 (ht _ tb609) dJ6_bitCount_0f7a4_18 ?_
  refine lv_iand hx hb dJ6_bitCount_0f7a4_21 ?_
  refine lv_iadd hx hb dJ6_bitCount_0f7a4_22 ?_
  refine lv_topi (fun y2 e2 => ?_)
  refine lv_istore_n (lv' := [(0, .int y2)]) hx hb dJ6_bitCount_0f7a4_23 rfl hl (by decide) rfl (fun ls hl => ?_)
  refine lv_iload_n hx hb dJ6_bitCount_0f7a4_24 rfl (lv_at hl 0 rfl) ?_
  refine lv_iload_n hx hb dJ6_bitCount_0f7a4_25 rfl (lv_at hl 0 rfl) ?_
  refine g_iconst (n := 4) C0 rfl dJ6_bitCount_0f7a4_26 ?_
  refine lv_iushr hx hb dJ6_bitCount_0f7a4_27 rfl ?_
  refine lv_iadd hx hb dJ6_bitCount_0f7a4_28 ?_
  refine lv_ldcw (v := (252645135 : Int32)) hx hb C0.2.2.2.1 (ht _ tb610) dJ6_bitCount_0f7a4_29 ?_
  refine lv_iand hx hb dJ6_bitCount_0f7a4_32 ?_
  refine lv_topi (fun y3 e3 => ?_)
  refine lv_istore_n (lv' := [(0, .int y3)]) hx hb dJ6_bitCount_0f7a4_33 rfl hl (by decide) rfl (fun ls hl => ?_)
  refine lv_iload_n hx hb dJ6_bitCount_0f7a4_34 rfl (lv_at hl 0 rfl) ?_
  refine lv_iload_n hx hb dJ6_bitCount_0f7a4_35 rfl (lv_at hl 0 rfl) ?_
  refine g_bipush (n := 8) C0 (by decide) dJ6_bitCount_0f7a4_36 ?_
  refine lv_iushr hx hb dJ6_bitCount_0f7a4_38 rfl ?_
  refine lv_iadd hx hb dJ6_bitCount_0f7a4_39 ?_
  refine lv_topi (fun y4 e4 => ?_)
  refine lv_istore_n (lv' := [(0, .int y4)]) hx hb dJ6_bitCount_0f7a4_40 rfl hl (by decide) rfl (fun ls hl => ?_)
  refine lv_iload_n hx hb dJ6_bitCount_0f7a4_41 rfl (lv_at hl 0 rfl) ?_
  refine lv_iload_n hx hb dJ6_bitCount_0f7a4_42 rfl (lv_at hl 0 rfl) ?_
  refine g_bipush (n := 16) C0 (by decide) dJ6_bitCount_0f7a4_43 ?_
  refine lv_iushr hx hb dJ6_bitCount_0f7a4_45 rfl ?_
  refine lv_iadd hx hb dJ6_bitCount_0f7a4_46 ?_
  refine lv_topi (fun y5 e5 => ?_)
  refine lv_istore_n (lv' := [(0, .int y5)]) hx hb dJ6_bitCount_0f7a4_47 rfl hl (by decide) rfl (fun ls hl => ?_)
  refine lv_iload_n hx hb dJ6_bitCount_0f7a4_48 rfl (lv_at hl 0 rfl) ?_
  refine g_bipush (n := 63) C0 (by decide) dJ6_bitCount_0f7a4_49 ?_
  refine lv_iand hx hb dJ6_bitCount_0f7a4_51 ?_
  exact hE (v := y5 &&& (nI 63)) () (by rw [← bcE_ok a ha]; subst e1 e2 e3 e4 e5; rfl) trivial X dJ6_bitCount_0f7a4_52
set_option maxHeartbeats 4000000 in
set_option maxRecDepth 100000 in
theorem c_fillG (l : Launch) (D : va_G) (tk : Nat → ClassId) (h : Nat → Nat) (G : Nat → Nat → Nat) (d e : Nat → Nat) (x : Nat) : MX l yJ7_fill_53178 cJ7_fill_53178 4 none ⟨0, 0, 0, 0⟩ D (TYS tk) [.ref (h 8), .int (nI x)] (gW tk h G d e) (fun (u : Nat → Nat) => ∀ j, j < 6 → u j = x) (fun u => none) (fun u => gW tk h G u e) 0 0 := by
  refine MX.of_v (by decide) rfl ?_
  intro zp ze zs zm za zb zt zc zA zQ ls C0 hnm X hl hE
  have hx := C0.1
  have hb := C0.2.1
  have ht := C0.2.2.2.2.1
  have X : Hx D zA zs zs.heap [] (gW tk h G d e) := X
  have hl : lv_has ls 4 [(0, .ref (h 8)), (1, .int (nI x))] := hl
  obtain ⟨H, hH⟩ : ∃ H, H = zs.heap := ⟨_, rfl⟩
  rw [← hH] at X ⊢
  obtain ⟨locs, hlo⟩ : ∃ L : List Loc, L = [] := ⟨_, rfl⟩
  rw [← hlo] at X ⊢
  refine g_iconst (n := 0) C0 rfl dJ7_fill_53178_0 ?_
  refine lv_istore_n (lv' := [(2, .int (nI 0)), (0, .ref (h 8)), (1, .int (nI x))]) hx hb dJ7_fill_53178_1 rfl hl (by decide) rfl (fun ls hl => ?_)
  refine lv_aload_n hx hb dJ7_fill_53178_2 rfl (lv_at hl 1 rfl) ?_
  refine g_alen (n := 6) C0 X 8 0 rfl rfl rfl dJ7_fill_53178_3 ?_
  refine lv_istore_n (lv' := [(3, .int (nI 6)), (2, .int (nI 0)), (0, .ref (h 8)), (1, .int (nI x))]) hx hb dJ7_fill_53178_4 rfl hl (by decide) rfl (fun ls hl => ?_)
  have J5 : ∀ (fz : Nat) (i : Nat) (d1 : Nat → Nat), 6 - i < fz → ∀ (hi : i ≤ 6) (hd : ∀ j, j < i → d1 j = x) (H : Heap) (locs : List Loc) (ls : Array Slot), Hx D zA zs H locs (gW tk h G d1 e) → lv_has ls 4 [(3, .int (nI 6)), (2, .int (nI i)), (0, .ref (h 8)), (1, .int (nI x))] → W zp l ze ⟨0, 0, 0, 0⟩ zs zm za zb zt zc H locs 0 0 zQ (F0 zm 5 ls []) := by
    intro fz
    induction fz with
    | zero => intro i d1 hz; exact absurd hz (Nat.not_lt_zero _)
    | succ fz ih5 =>
      intro i d1 hz5 hi hd H locs ls X hl
      refine lv_iload_n hx hb dJ7_fill_53178_5 rfl (lv_at hl 1 rfl) ?_
      refine lv_iload_n hx hb dJ7_fill_53178_6 rfl (lv_at hl 0 rfl) ?_
      refine g_icmp_ge (x := i) (y := 6) (tgt := 20) C0 (by omega) (by omega) dJ7_fill_53178_7 rfl (fun c1 => ?_) (fun c2 => ?_)
      · exact hE (v := ()) d1 rfl (by intro j hj; exact hd j (by omega)) X dJ7_fill_53178_20
      · refine lv_aload_n hx hb dJ7_fill_53178_10 rfl (lv_at hl 2 rfl) ?_
        refine lv_iload_n hx hb dJ7_fill_53178_11 rfl (lv_at hl 1 rfl) ?_
        refine lv_iload_n hx hb dJ7_fill_53178_12 rfl (lv_at hl 3 rfl) ?_
        refine g_iast (g := nf (u1 d1 i x)) (i := i) C0 X 8 0 rfl rfl (by omega) rfl (nf_u1 _ _ _) dJ7_fill_53178_13 (fun H locs X => ?_)
        have X : Hx D zA zs H locs (gW tk h G (u1 d1 i x) e) := X
        refine g_iinc (j := 1) (z := i + 1) (lv' := [(2, .int (nI (i + 1))), (3, .int (nI 6)), (0, .ref (h 8)), (1, .int (nI x))]) C0 rfl (by first | rfl | omega) dJ7_fill_53178_14 hl (k := 1) rfl (by decide) rfl (fun ls hl => ?_)
        refine lv_goto (tgt := 5) hx hb dJ7_fill_53178_17 (by decide) ?_
        exact ih5 (i + 1) (u1 d1 i x) (by omega) (by omega) (by exact fill_s hd) H locs ls X (lv_sub hl [1, 0, 2, 3] rfl)
  exact J5 ((6 - 0) + 1) 0 d (Nat.lt_succ_self _) (by omega) (by intro j hj; omega) H locs ls X (lv_sub hl [0, 1, 2, 3] rfl)
set_option maxHeartbeats 4000000 in
set_option maxRecDepth 100000 in
theorem c_fillS (l : Launch) (D : va_G) (tk : Nat → ClassId) (h : Nat → Nat) (n : Nat) (pl lo le : Nat → Nat) (x : Nat) : MX l yJ7_fill_53178 cJ7_fill_53178 4 none ⟨0, 0, 0, 0⟩ D (TYS tk) [.ref (h 3), .int (nI x)] (sW tk h n pl lo le) (fun (u : Nat → Nat) => ∀ j, j < 121 → u j = x) (fun u => none) (fun u => sW tk h n pl lo u) 0 0 := by
  refine MX.of_v (by decide) rfl ?_
  intro zp ze zs zm za zb zt zc zA zQ ls C0 hnm X hl hE
  have hx := C0.1
  have hb := C0.2.1
  have ht := C0.2.2.2.2.1
  have X : Hx D zA zs zs.heap [] (sW tk h n pl lo le) := X
  have hl : lv_has ls 4 [(0, .ref (h 3)), (1, .int (nI x))] := hl
  obtain ⟨H, hH⟩ : ∃ H, H = zs.heap := ⟨_, rfl⟩
  rw [← hH] at X ⊢
  obtain ⟨locs, hlo⟩ : ∃ L : List Loc, L = [] := ⟨_, rfl⟩
  rw [← hlo] at X ⊢
  refine g_iconst (n := 0) C0 rfl dJ7_fill_53178_0 ?_
  refine lv_istore_n (lv' := [(2, .int (nI 0)), (0, .ref (h 3)), (1, .int (nI x))]) hx hb dJ7_fill_53178_1 rfl hl (by decide) rfl (fun ls hl => ?_)
  refine lv_aload_n hx hb dJ7_fill_53178_2 rfl (lv_at hl 1 rfl) ?_
  refine g_alen (n := 121) C0 X 3 0 rfl rfl rfl dJ7_fill_53178_3 ?_
  refine lv_istore_n (lv' := [(3, .int (nI 121)), (2, .int (nI 0)), (0, .ref (h 3)), (1, .int (nI x))]) hx hb dJ7_fill_53178_4 rfl hl (by decide) rfl (fun ls hl => ?_)
  have J5 : ∀ (fz : Nat) (i : Nat) (d1 : Nat → Nat), 121 - i < fz → ∀ (hi : i ≤ 121) (hd : ∀ j, j < i → d1 j = x) (H : Heap) (locs : List Loc) (ls : Array Slot), Hx D zA zs H locs (sW tk h n pl lo d1) → lv_has ls 4 [(3, .int (nI 121)), (2, .int (nI i)), (0, .ref (h 3)), (1, .int (nI x))] → W zp l ze ⟨0, 0, 0, 0⟩ zs zm za zb zt zc H locs 0 0 zQ (F0 zm 5 ls []) := by
    intro fz
    induction fz with
    | zero => intro i d1 hz; exact absurd hz (Nat.not_lt_zero _)
    | succ fz ih5 =>
      intro i d1 hz5 hi hd H locs ls X hl
      refine lv_iload_n hx hb dJ7_fill_53178_5 rfl (lv_at hl 1 rfl) ?_
      refine lv_iload_n hx hb dJ7_fill_53178_6 rfl (lv_at hl 0 rfl) ?_
      refine g_icmp_ge (x := i) (y := 121) (tgt := 20) C0 (by omega) (by omega) dJ7_fill_53178_7 rfl (fun c1 => ?_) (fun c2 => ?_)
      · exact hE (v := ()) d1 rfl (by intro j hj; exact hd j (by omega)) X dJ7_fill_53178_20
      · refine lv_aload_n hx hb dJ7_fill_53178_10 rfl (lv_at hl 2 rfl) ?_
        refine lv_iload_n hx hb dJ7_fill_53178_11 rfl (lv_at hl 1 rfl) ?_
        refine lv_iload_n hx hb dJ7_fill_53178_12 rfl (lv_at hl 3 rfl) ?_
        refine g_iast (g := nf (u1 d1 i x)) (i := i) C0 X 3 0 rfl rfl (by omega) rfl (nf_u1 _ _ _) dJ7_fill_53178_13 (fun H locs X => ?_)
        have X : Hx D zA zs H locs (sW tk h n pl lo (u1 d1 i x)) := X
        refine g_iinc (j := 1) (z := i + 1) (lv' := [(2, .int (nI (i + 1))), (3, .int (nI 121)), (0, .ref (h 3)), (1, .int (nI x))]) C0 rfl (by first | rfl | omega) dJ7_fill_53178_14 hl (k := 1) rfl (by decide) rfl (fun ls hl => ?_)
        refine lv_goto (tgt := 5) hx hb dJ7_fill_53178_17 (by decide) ?_
        exact ih5 (i + 1) (u1 d1 i x) (by omega) (by omega) (by exact fill_s hd) H locs ls X (lv_sub hl [1, 0, 2, 3] rfl)
  exact J5 ((121 - 0) + 1) 0 le (Nat.lt_succ_self _) (by omega) (by intro j hj; omega) H locs ls X (lv_sub hl [0, 1, 2, 3] rfl)
set_option maxHeartbeats 4000000 in
set_option maxRecDepth 100000 in
theorem c_X1_isWhole (l : Launch) (D : va_G) (tk : Nat → ClassId) (h : Nat → Nat) (G : Nat → Nat → Nat) (d e : Nat → Nat) (i : Nat) (hc : G 4 0 < 512) (hi : i < 9) : MX l yX1_isWhole cX1_isWhole 2 (some .boolean) ⟨0, 0, 0, 0⟩ D (TYS tk) [.ref (h 0), .int (nI i)] (gW tk h G d e) (fun (_ : Unit) => True) (fun _ => some (.int (nI (rb (!(G 4 0).testBit i))))) (fun _ => gW tk h G d e) 0 0 := by
  refine MX.of_z (by decide) rfl ?_
  intro zp ze zs zm za zb zt zc zA zQ ls C0 hnm X hl hE
  have hx := C0.1
  have hb := C0.2.1
  have ht := C0.2.2.2.2.1
  have X : Hx D zA zs zs.heap [] (gW tk h G d e) := X
  have hl : lv_has ls 2 [(0, .ref (h 0)), (1, .int (nI i))] := hl
  obtain ⟨H, hH⟩ : ∃ H, H = zs.heap := ⟨_, rfl⟩
  rw [← hH] at X ⊢
  obtain ⟨locs, hlo⟩ : ∃ L : List Loc, L = [] := ⟨_, rfl⟩
  rw [← hlo] at X ⊢
  refine lv_aload_n hx hb dX1_isWhole_0 rfl (lv_at hl 0 rfl) ?_
  refine g_get (v := .int (nI (G 4 0))) C0 X kX1 0 6 tb46 rfl rfl rfl dX1_isWhole_1 ?_
  refine g_iconst (n := 1) C0 rfl dX1_isWhole_4 ?_
  refine lv_iload_n hx hb dX1_isWhole_5 rfl (lv_at hl 1 rfl) ?_
  refine g_ishl (n := 2 ^ i) C0 (by exact sh_ok (by omega)) (by first | exact Nat.one_mul _ | rfl) dX1_isWhole_6 ?_
  refine g_iand (n := (G 4 0) &&& (2 ^ i)) C0 rfl dX1_isWhole_7 ?_
  refine g_ifne (x := (G 4 0) &&& (2 ^ i)) (tgt := 15) C0 (by exact and_31 (by omega)) dX1_isWhole_8 rfl (fun c1 => ?_) (fun c2 => ?_)
  · refine g_iconst (n := 0) C0 rfl dX1_isWhole_15 ?_
    exact hE (v := false) () (by first | rw [and_pow_t c1]; rfl | rw [and_pow_f c1]; rfl) trivial X dX1_isWhole_16
  · refine g_iconst (n := 1) C0 rfl dX1_isWhole_11 ?_
    refine lv_goto (tgt := 16) hx hb dX1_isWhole_12 (by decide) ?_
    exact hE (v := true) () (by first | rw [and_pow_t c2]; rfl | rw [and_pow_f c2]; rfl) trivial X dX1_isWhole_16
set_option maxHeartbeats 4000000 in
set_option maxRecDepth 100000 in
theorem c_X1_allTrees (l : Launch) (D : va_G) (tk : Nat → ClassId) (h : Nat → Nat) (G : Nat → Nat → Nat) (d e : Nat → Nat) (hn : G 8 0 ≤ 6) : MX l yX1_allTrees cX1_allTrees 1 (some .int) ⟨0, 0, 0, 0⟩ D (TYS tk) [.ref (h 0)] (gW tk h G d e) (fun (_ : Unit) => True) (fun _ => some (.int (nI (2 ^ G 8 0 - 1)))) (fun _ => gW tk h G d e) 0 0 := by
  refine MX.of_i (by decide) rfl ?_
  intro zp ze zs zm za zb zt zc zA zQ ls C0 hnm X hl hE
  have hx := C0.1
  have hb := C0.2.1
  have ht := C0.2.2.2.2.1
  have X : Hx D zA zs zs.heap [] (gW tk h G d e) := X
  have hl : lv_has ls 1 [(0, .ref (h 0))] := hl
  obtain ⟨H, hH⟩ : ∃ H, H = zs.heap := ⟨_, rfl⟩
  rw [← hH] at X ⊢
  obtain ⟨locs, hlo⟩ : ∃ L : List Loc, L = [] := ⟨_, rfl⟩
  rw [← hlo] at X ⊢
  refine g_iconst (n := 1) C0 rfl dX1_allTrees_0 ?_
  refine lv_aload_n hx hb dX1_allTrees_1 rfl (lv_at hl 0 rfl) ?_
  refine g_get (v := .int (nI (G 8 0))) C0 X kX1 0 0 tb31 rfl rfl rfl dX1_allTrees_2 ?_
  refine g_ishl (n := 2 ^ (G 8 0)) C0 (by exact sh_ok (by omega)) (by first | exact Nat.one_mul _ | rfl) dX1_allTrees_5 ?_
  refine g_iconst (n := 1) C0 rfl dX1_allTrees_6 ?_
  refine g_isub (n := (2 ^ (G 8 0)) - 1) C0 (by exact Nat.one_le_two_pow) rfl dX1_allTrees_7 ?_
  exact hE (v := nI ((2 ^ (G 8 0)) - 1)) () rfl trivial X dX1_allTrees_8
set_option maxHeartbeats 4000000 in
set_option maxRecDepth 100000 in
theorem c_X1_hasTrees (l : Launch) (D : va_G) (tk : Nat → ClassId) (h : Nat → Nat) (G : Nat → Nat → Nat) (d e : Nat → Nat) (x : Int32) (hn : G 8 0 ≤ 6) : MX l yX1_hasTrees cX1_hasTrees 2 (some .boolean) ⟨1, 0, 0, 22⟩ D (TYS tk) [.ref (h 0), .int x] (gW tk h G d e) (fun (_ : Unit) => True) (fun _ => some (.int (nI (rb (rg x 0 (2 ^ G 8 0 - 1)))))) (fun _ => gW tk h G d e) 0 0 := by
  refine MX.of_z (by decide) rfl ?_
  intro zp ze zs zm za zb zt zc zA zQ ls C0 hnm X hl hE
  have hx := C0.1
  have hb := C0.2.1
  have ht := C0.2.2.2.2.1
  have X : Hx D zA zs zs.heap [] (gW tk h G d e) := X
  have hl : lv_has ls 2 [(0, .ref (h 0)), (1, .int x)] := hl
  have hp := Nat.pow_le_pow_right (n := 2) (by decide) hn
  obtain ⟨H, hH⟩ : ∃ H, H = zs.heap := ⟨_, rfl⟩
  rw [← hH] at X ⊢
  obtain ⟨locs, hlo⟩ : ∃ L : List Loc, L = [] := ⟨_, rfl⟩
  rw [← hlo] at X ⊢
  refine lv_iload_n hx hb dX1_hasTrees_0 rfl (lv_at hl 1 rfl) ?_
  refine g_iconst (n := 0) C0 rfl dX1_hasTrees_1 ?_
  refine lv_aload_n hx hb dX1_hasTrees_2 rfl (lv_at hl 0 rfl) ?_
  refine g_callV (As := []) (rest := [.int (nI 0), .int x]) (wr := []) (C0.sz hl) X (c_X1_allTrees l D tk h G d e (by first | assumption | omega)) ⟨tb565, tb568, tb2, ⟨by decide, by decide, rfl⟩, rfl, rfl, Nat.le_of_ble_eq_true rfl, Nat.le_of_ble_eq_true rfl⟩ tb566 tb567 0 1 rfl rfl rfl rfl [0, 1, 2, 3, 4, 5, 6, 7, 8, 9] [] rfl rfl rfl rfl rfl (Nat.le_of_ble_eq_true rfl) ⟨Nat.le_of_ble_eq_true rfl, Nat.le_of_ble_eq_true rfl⟩ dX1_hasTrees_3 (fun _ H locs _ X => ?_)
  have X : Hx D zA zs H locs (gW tk h G d e) := X
  refine g_callSN (As := [.int x, .int (nI 0), .int (nI (2 ^ G 8 0 - 1))]) (rest := []) (wr := (gW tk h G d e)) (C0.sz hl) X (c_X6_within l D tk x (nI 0) (nI (2 ^ G 8 0 - 1))) ⟨tb391, tb234, tb1, ⟨by decide, by decide, rfl⟩, rfl, rfl, Nat.le_of_ble_eq_true rfl, Nat.le_of_ble_eq_true rfl⟩ tb233 rfl [] [0, 1, 2, 3, 4, 5, 6, 7, 8, 9] rfl rfl rfl rfl rfl (Nat.le_of_ble_eq_true rfl) ⟨Nat.le_of_ble_eq_true rfl, Nat.le_of_ble_eq_true rfl⟩ dX1_hasTrees_6 (fun _ H locs _ X => ?_)
  have X : Hx D zA zs H locs (gW tk h G d e) := X
  refine g_top (y := nI (rb (rg x 0 (2 ^ G 8 0 - 1)))) (by rw [inI_rg x (by first | decide | omega) (by first | decide | omega)]) ?_
  exact hE (v := rg x 0 (2 ^ G 8 0 - 1)) () (by first | rfl | rw [inI_rg x (by decide) (by omega)]) trivial X dX1_hasTrees_9
set_option maxHeartbeats 4000000 in
set_option maxRecDepth 100000 in
theorem c_X1_loudness (l : Launch) (D : va_G) (tk : Nat → ClassId) (h : Nat → Nat) (G : Nat → Nat → Nat) (d e : Nat → Nat) (x b : Nat) (hu : x < 6) (hk : G 0 x ≤ 3) (hd : d x ≤ 1000) (hb : b ≤ 60) : MX l yX1_loudness cX1_loudness 5 (some .int) ⟨1, 0, 0, 40⟩ D (TYS tk) [.ref (h 0), .int (nI x), .int (nI b), .ref (h 8)] (gW tk h G d e) (fun (_ : Unit) => True) (fun _ => some (.int (nI (loudS (G 0 x) b (d x))))) (fun _ => gW tk h G d e) 0 0 := by
  refine MX.of_i (by decide) rfl ?_
  intro zp ze zs zm za zb zt zc zA zQ ls C0 hnm X hl hE
  have hx := C0.1
  have hb := C0.2.1
  have ht := C0.2.2.2.2.1
  have X : Hx D zA zs zs.heap [] (gW tk h G d e) := X
  have hl : lv_has ls 5 [(0, .ref (h 0)), (1, .int (nI x)), (2, .int (nI b)), (3, .ref (h 8))] := hl
  obtain ⟨H, hH⟩ : ∃ H, H = zs.heap := ⟨_, rfl⟩
  rw [← hH] at X ⊢
  obtain ⟨locs, hlo⟩ : ∃ L : List Loc, L = [] := ⟨_, rfl⟩
  rw [← hlo] at X ⊢
  refine g_iconst (n := 0) C0 rfl dX1_loudness_0 ?_
  refine lv_iload_n hx hb dX1_loudness_1 rfl (lv_at hl 2 rfl) ?_
  refine lv_aload_n hx hb dX1_loudness_2 rfl (lv_at hl 3 rfl) ?_
  refine lv_iload_n hx hb dX1_loudness_3 rfl (lv_at hl 1 rfl) ?_
  refine g_iald (v := nI (d x)) (i := x) C0 X 8 0 rfl rfl (by omega) rfl rfl dX1_loudness_4 ?_
  refine lv_isub hx hb dX1_loudness_5 ?_
  refine g_maxR C0 hl tb445 tb446 tb15 tb447 ⟨rfl, rfl, rfl, rfl⟩ dX1_loudness_6 ?_
  refine g_top (y := nI (b - d x)) (by exact g_max0 (by omega) (by omega)) ?_
  refine lv_istore (lv' := [(4, .int (nI (b - d x))), (0, .ref (h 0)), (1, .int (nI x)), (2, .int (nI b)), (3, .ref (h 8))]) hx hb dX1_loudness_9 hl (by decide) rfl (fun ls hl => ?_)
  refine lv_aload_n hx hb dX1_loudness_11 rfl (lv_at hl 1 rfl) ?_
  refine g_get (v := .ref (h 1)) C0 X kX1 0 1 tb35 rfl rfl rfl dX1_loudness_12 ?_
  refine lv_iload_n hx hb dX1_loudness_15 rfl (lv_at hl 2 rfl) ?_
  refine g_iald (v := nI (G 0 x)) (i := x) C0 X 1 0 rfl rfl (by omega) rfl rfl dX1_loudness_16 ?_
  by_cases c1 : G 0 x = 1
  · refine g_swIn (k := 1) (lo' := 1) (tgt := 44) C0 (congrArg nI c1) rfl rfl dX1_loudness_17 rfl rfl rfl rfl ?_
    refine g_iconst (n := 2) C0 rfl dX1_loudness_44 ?_
    refine lv_iload hx hb dX1_loudness_45 (lv_at hl 0 rfl) ?_
    refine g_imul (n := 2 * (b - d x)) C0 rfl dX1_loudness_47 ?_
    exact hE (v := nI (2 * (b - d x))) () (by simp [loudS, c1]) trivial X dX1_loudness_48
  by_cases c2 : G 0 x = 2
  · refine g_swIn (k := 2) (lo' := 1) (tgt := 49) C0 (congrArg nI c2) rfl rfl dX1_loudness_17 rfl rfl rfl rfl ?_
    refine lv_iload hx hb dX1_loudness_49 (lv_at hl 0 rfl) ?_
    refine g_iconst (n := 2) C0 rfl dX1_loudness_51 ?_
    refine g_idiv (n := (b - d x) / 2) C0 (by omega) rfl dX1_loudness_52 ?_
    exact hE (v := nI ((b - d x) / 2)) () (by simp [loudS, c2]) trivial X dX1_loudness_53
  by_cases c3 : G 0 x = 3
  · refine g_swIn (k := 3) (lo' := 1) (tgt := 54) C0 (congrArg nI c3) rfl rfl dX1_loudness_17 rfl rfl rfl rfl ?_
    refine g_iconst (n := 0) C0 rfl dX1_loudness_54 ?_
    refine g_iconst (n := 2) C0 rfl dX1_loudness_55 ?_
    refine lv_iload hx hb dX1_loudness_56 (lv_at hl 0 rfl) ?_
    refine g_imul (n := 2 * (b - d x)) C0 rfl dX1_loudness_58 ?_
    refine g_iconst (n := 3) C0 rfl dX1_loudness_59 ?_
    refine lv_isub hx hb dX1_loudness_60 ?_
    refine g_maxR C0 hl tb445 tb446 tb15 tb447 ⟨rfl, rfl, rfl, rfl⟩ dX1_loudness_61 ?_
    refine g_top (y := nI (2 * (b - d x) - 3)) (by exact g_max0 (by omega) (by omega)) ?_
    exact hE (v := nI (2 * (b - d x) - 3)) () (by simp [loudS, c3]) trivial X dX1_loudness_64
  refine g_swOutN (n := 4) (lo' := 1) (tgt := 65) C0 (by omega) (by omega) rfl dX1_loudness_17 rfl rfl rfl ?_
  refine lv_iload hx hb dX1_loudness_65 (lv_at hl 0 rfl) ?_
  exact hE (v := nI (b - d x)) () (by rw [show G 0 x = 0 by omega]; rfl) trivial X dX1_loudness_67
set_option maxHeartbeats 4000000 in
set_option maxRecDepth 100000 in
theorem c_X1_hearersWithin (l : Launch) (D : va_G) (tk : Nat → ClassId) (h : Nat → Nat) (G : Nat → Nat → Nat) (d e : Nat → Nat) (b : Nat) (hw : GW G) (hd : ∀ x, x < 6 → d x ≤ 1000) (hb : b ≤ 60) : MX l yX1_hearersWithin cX1_hearersWithin 5 (some .int) ⟨2, 0, 0, 64⟩ D (TYS tk) [.ref (h 0), .ref (h 8), .int (nI b)] (gW tk h G d e) (fun (_ : Unit) => True) (fun _ => some (.int (nI (hearW (cgv G) d b)))) (fun _ => gW tk h G d e) 0 0 := by
  refine MX.of_i (by decide) rfl ?_
  intro zp ze zs zm za zb zt zc zA zQ ls C0 hnm X hl hE
  have hx := C0.1
  have hb := C0.2.1
  have ht := C0.2.2.2.2.1
  have X : Hx D zA zs zs.heap [] (gW tk h G d e) := X
  have hl : lv_has ls 5 [(0, .ref (h 0)), (1, .ref (h 8)), (2, .int (nI b))] := hl
  obtain ⟨hw1, hw2, hw3, hw4, hw5, hw6, hw7, hw8⟩ := id hw
  obtain ⟨H, hH⟩ : ∃ H, H = zs.heap := ⟨_, rfl⟩
  rw [← hH] at X ⊢
  obtain ⟨locs, hlo⟩ : ∃ L : List Loc, L = [] := ⟨_, rfl⟩
  rw [← hlo] at X ⊢
  refine g_iconst (n := 0) C0 rfl dX1_hearersWithin_0 ?_
  refine lv_istore_n (lv' := [(3, .int (nI 0)), (0, .ref (h 0)), (1, .ref (h 8)), (2, .int (nI b))]) hx hb dX1_hearersWithin_1 rfl hl (by decide) rfl (fun ls hl => ?_)
  refine g_iconst (n := 0) C0 rfl dX1_hearersWithin_2 ?_
  refine lv_istore (lv' := [(4, .int (nI 0)), (3, .int (nI 0)), (0, .ref (h 0)), (1, .ref (h 8)), (2, .int (nI b))]) hx hb dX1_hearersWithin_3 hl (by decide) rfl (fun ls hl => ?_)
  have J5 : ∀ (fz : Nat) (i bs : Nat), G 8 0 - i < fz → ∀ (hi : i ≤ G 8 0) (hbs : bs = bset (hearP (cgv G) d b) i) (H : Heap) (locs : List Loc) (ls : Array Slot), Hx D zA zs H locs (gW tk h G d e) → lv_has ls 5 [(4, .int (nI i)), (3, .int (nI bs)), (0, .ref (h 0)), (1, .ref (h 8)), (2, .int (nI b))] → W zp l ze ⟨2, 0, 0, 64⟩ zs zm za zb zt zc H locs 0 0 zQ (F0 zm 5 ls []) := by
    intro fz
    induction fz with
    | zero => intro i bs hz; exact absurd hz (Nat.not_lt_zero _)
    | succ fz ih5 =>
      intro i bs hz5 hi hbs H locs ls X hl
      refine lv_iload hx hb dX1_hearersWithin_5 (lv_at hl 0 rfl) ?_
      refine lv_aload_n hx hb dX1_hearersWithin_7 rfl (lv_at hl 2 rfl) ?_
      refine g_get (v := .int (nI (G 8 0))) C0 X kX1 0 0 tb31 rfl rfl rfl dX1_hearersWithin_8 ?_
      refine g_icmp_ge (x := i) (y := G 8 0) (tgt := 42) C0 (by omega) (by omega) dX1_hearersWithin_11 rfl (fun c1 => ?_) (fun c2 => ?_)
      · refine lv_iload_n hx hb dX1_hearersWithin_42 rfl (lv_at hl 1 rfl) ?_
        exact hE (v := nI bs) () (by rw [hbs, show i = G 8 0 by omega]; rfl) trivial X dX1_hearersWithin_43
      · refine lv_aload_n hx hb dX1_hearersWithin_14 rfl (lv_at hl 2 rfl) ?_
        refine lv_iload hx hb dX1_hearersWithin_15 (lv_at hl 0 rfl) ?_
        refine lv_iload_n hx hb dX1_hearersWithin_17 rfl (lv_at hl 4 rfl) ?_
        refine lv_aload_n hx hb dX1_hearersWithin_18 rfl (lv_at hl 3 rfl) ?_
        have hk := hw6 i (by omega)
        have hdi := hd i (by omega)
        refine g_callV (As := [.int (nI i), .int (nI b), .ref (h 8)]) (rest := []) (wr := []) (C0.sz hl) X (c_X1_loudness l D tk h G d e i b (by first | assumption | omega) (by first | assumption | omega) (by first | assumption | omega) (by first | assumption | omega)) ⟨tb441, tb444, tb2, ⟨by decide, by decide, rfl⟩, rfl, rfl, Nat.le_of_ble_eq_true rfl, Nat.le_of_ble_eq_true rfl⟩ tb442 tb443 0 1 rfl rfl rfl rfl [0, 1, 2, 3, 4, 5, 6, 7, 8, 9] [] rfl rfl rfl rfl rfl (Nat.le_of_ble_eq_true rfl) ⟨Nat.le_of_ble_eq_true rfl, Nat.le_of_ble_eq_true rfl⟩ dX1_hearersWithin_19 (fun _ H locs _ X => ?_)
        have X : Hx D zA zs H locs (gW tk h G d e) := X
        refine lv_aload_n hx hb dX1_hearersWithin_22 rfl (lv_at hl 2 rfl) ?_
        refine g_get (v := .int (nI (G 8 2))) C0 X kX1 0 7 tb48 rfl rfl rfl dX1_hearersWithin_23 ?_
        have hL := loudS_le (G 0 i) b (d i)
        refine g_icmp_le (x := loudS (G 0 i) b (d i)) (y := G 8 2) (tgt := 36) C0 (by omega) (by omega) dX1_hearersWithin_26 rfl (fun c3 => ?_) (fun c4 => ?_)
        · refine g_iinc (j := 1) (z := i + 1) (lv' := [(4, .int (nI (i + 1))), (3, .int (nI bs)), (0, .ref (h 0)), (1, .ref (h 8)), (2, .int (nI b))]) C0 rfl (by first | rfl | omega) dX1_hearersWithin_36 hl (k := 0) rfl (by decide) rfl (fun ls hl => ?_)
          refine lv_goto (tgt := 5) hx hb dX1_hearersWithin_39 (by decide) ?_
          exact ih5 (i + 1) bs (by omega) (by omega) (by first | (rw [bset_f (decide_eq_false (Nat.not_lt.mpr c3))]; exact hbs) | (rw [bset_t (decide_eq_true c3), hbs])) H locs ls X (lv_sub hl [0, 1, 2, 3, 4] rfl)
        · refine lv_iload_n hx hb dX1_hearersWithin_29 rfl (lv_at hl 1 rfl) ?_
          refine g_iconst (n := 1) C0 rfl dX1_hearersWithin_30 ?_
          refine lv_iload hx hb dX1_hearersWithin_31 (lv_at hl 0 rfl) ?_
          refine g_ishl (n := 2 ^ i) C0 (by exact sh_ok (by omega)) (by first | exact Nat.one_mul _ | rfl) dX1_hearersWithin_33 ?_
          refine g_ior (n := bs ||| (2 ^ i)) C0 rfl dX1_hearersWithin_34 ?_
          refine lv_istore_n (lv' := [(3, .int (nI (bs ||| (2 ^ i)))), (4, .int (nI i)), (0, .ref (h 0)), (1, .ref (h 8)), (2, .int (nI b))]) hx hb dX1_hearersWithin_35 rfl hl (by decide) rfl (fun ls hl => ?_)
          refine g_iinc (j := 1) (z := i + 1) (lv' := [(4, .int (nI (i + 1))), (3, .int (nI (bs ||| (2 ^ i)))), (0, .ref (h 0)), (1, .ref (h 8)), (2, .int (nI b))]) C0 rfl (by first | rfl | omega) dX1_hearersWithin_36 hl (k := 1) rfl (by decide) rfl (fun ls hl => ?_)
          refine lv_goto (tgt := 5) hx hb dX1_hearersWithin_39 (by decide) ?_
          exact ih5 (i + 1) (bs ||| (2 ^ i)) (by omega) (by omega) (by first | (rw [bset_f (decide_eq_false (Nat.not_lt.mpr c4))]; exact hbs) | (rw [bset_t (decide_eq_true c4), hbs])) H locs ls X (lv_sub hl [0, 1, 2, 3, 4] rfl)
  exact J5 ((G 8 0 - 0) + 1) 0 0 (Nat.lt_succ_self _) (by omega) (by rfl) H locs ls X (lv_sub hl [0, 1, 2, 3, 4] rfl)
