set_option maxHeartbeats 4000000 in
set_option maxRecDepth 100000 in
theorem c_X6_within (l : Launch) (D : va_G) (tk : Nat → ClassId) (x lo hi : Int32) : MX l yX6_within cX6_within 3 (some .boolean) ⟨0, 0, 0, 0⟩ D (TYS tk) [.int x, .int lo, .int hi] ([]) (fun (_ : Unit) => True) (fun _ => some (.int (nI (rb (inI x lo hi))))) (fun _ => []) 0 0 := by
  refine MX.of_z (by decide) rfl ?_
  intro zp ze zs zm za zb zt zc zA zQ ls C0 hnm X hl hE
  have hx := C0.1
  have hb := C0.2.1
  have ht := C0.2.2.2.2.1
  have X : Hx D zA zs zs.heap [] ([]) := X
  have hl : lv_has ls 3 [(0, .int x), (1, .int lo), (2, .int hi)] := hl
  obtain ⟨H, hH⟩ : ∃ H, H = zs.heap := ⟨_, rfl⟩
  rw [← hH] at X ⊢
  obtain ⟨locs, hlo⟩ : ∃ L : List Loc, L = [] := ⟨_, rfl⟩
  rw [← hlo] at X ⊢
  refine lv_iload_n hx hb dX6_within_0 rfl (lv_at hl 0 rfl) ?_
  refine lv_iload_n hx hb dX6_within_1 rfl (lv_at hl 1 rfl) ?_
  refine lv_icmp_lt (tgt := 14) hx hb dX6_within_2 rfl (fun c1 => ?_) (fun c2 => ?_)
  · refine g_iconst (n := 0) C0 rfl dX6_within_14 ?_
    exact hE (v := false) () (by simp [inI, ← Int32.not_lt, c1]) trivial X dX6_within_15
  · refine lv_iload_n hx hb dX6_within_5 rfl (lv_at hl 0 rfl) ?_
    refine lv_iload_n hx hb dX6_within_6 rfl (lv_at hl 2 rfl) ?_
    refine lv_icmp_gt (tgt := 14) hx hb dX6_within_7 rfl (fun c3 => ?_) (fun c4 => ?_)
    · refine g_iconst (n := 0) C0 rfl dX6_within_14 ?_
      exact hE (v := false) () (by simp [inI, ← Int32.not_lt, c2, c3]) trivial X dX6_within_15
    · refine g_iconst (n := 1) C0 rfl dX6_within_10 ?_
      refine lv_goto (tgt := 15) hx hb dX6_within_11 (by decide) ?_
      exact hE (v := true) () (by simp [inI, ← Int32.not_lt, c2, c4]) trivial X dX6_within_15
set_option maxHeartbeats 4000000 in
set_option maxRecDepth 100000 in
theorem c_X6_isBreath (l : Launch) (D : va_G) (tk : Nat → ClassId) (x : Int32) : MX l yX6_isBreath cX6_isBreath 1 (some .boolean) ⟨1, 0, 0, 22⟩ D (TYS tk) [.int x] ([]) (fun (_ : Unit) => True) (fun _ => some (.int (nI (rb (rg x 1 60))))) (fun _ => []) 0 0 := by
  refine MX.of_z (by decide) rfl ?_
  intro zp ze zs zm za zb zt zc zA zQ ls C0 hnm X hl hE
  have hx := C0.1
  have hb := C0.2.1
  have ht := C0.2.2.2.2.1
  have X : Hx D zA zs zs.heap [] ([]) := X
  have hl : lv_has ls 1 [(0, .int x)] := hl
  obtain ⟨H, hH⟩ : ∃ H, H = zs.heap := ⟨_, rfl⟩
  rw [← hH] at X ⊢
  obtain ⟨locs, hlo⟩ : ∃ L : List Loc, L = [] := ⟨_, rfl⟩
  rw [← hlo] at X ⊢
  refine lv_iload_n hx hb dX6_isBreath_0 rfl (lv_at hl 0 rfl) ?_
  refine g_iconst (n := 1) C0 rfl dX6_isBreath_1 ?_
  refine g_bipush (n := 60) C0 (by decide) dX6_isBreath_2 ?_
  refine g_callS (As := [.int x, .int (nI 1), .int (nI 60)]) (rest := []) (wr := []) (C0.sz hl) X (c_X6_within l D tk x (nI 1) (nI 60)) ⟨tb232, tb234, tb1, ⟨by decide, by decide, rfl⟩, rfl, rfl, Nat.le_of_ble_eq_true rfl, Nat.le_of_ble_eq_true rfl⟩ tb233 rfl [] [] rfl rfl rfl rfl rfl (by decide) ⟨Nat.le_of_ble_eq_true rfl, Nat.le_of_ble_eq_true rfl⟩ dX6_isBreath_4 (fun _ H locs _ X => ?_)
  have X : Hx D zA zs H locs ([]) := X
  exact hE (v := inI x (nI 1) (nI 60)) () (by rw [inI_rg x (by decide) (by decide)]) trivial X dX6_isBreath_7
set_option maxHeartbeats 4000000 in
set_option maxRecDepth 100000 in
theorem c_X6_isLength (l : Launch) (D : va_G) (tk : Nat → ClassId) (x : Int32) : MX l yX6_isLength cX6_isLength 1 (some .boolean) ⟨1, 0, 0, 22⟩ D (TYS tk) [.int x] ([]) (fun (_ : Unit) => True) (fun _ => some (.int (nI (rb (rg x 1 9))))) (fun _ => []) 0 0 := by
  refine MX.of_z (by decide) rfl ?_
  intro zp ze zs zm za zb zt zc zA zQ ls C0 hnm X hl hE
  have hx := C0.1
  have hb := C0.2.1
  have ht := C0.2.2.2.2.1
  have X : Hx D zA zs zs.heap [] ([]) := X
  have hl : lv_has ls 1 [(0, .int x)] := hl
  obtain ⟨H, hH⟩ : ∃ H, H = zs.heap := ⟨_, rfl⟩
  rw [← hH] at X ⊢
  obtain ⟨locs, hlo⟩ : ∃ L : List Loc, L = [] := ⟨_, rfl⟩
  rw [← hlo] at X ⊢
  refine lv_iload_n hx hb dX6_isLength_0 rfl (lv_at hl 0 rfl) ?_
  refine g_iconst (n := 1) C0 rfl dX6_isLength_1 ?_
  refine g_bipush (n := 9) C0 (by decide) dX6_isLength_2 ?_
  refine g_callS (As := [.int x, .int (nI 1), .int (nI 9)]) (rest := []) (wr := []) (C0.sz hl) X (c_X6_within l D tk x (nI 1) (nI 9)) ⟨tb232, tb234, tb1, ⟨by decide, by decide, rfl⟩, rfl, rfl, Nat.le_of_ble_eq_true rfl, Nat.le_of_ble_eq_true rfl⟩ tb233 rfl [] [] rfl rfl rfl rfl rfl (by decide) ⟨Nat.le_of_ble_eq_true rfl, Nat.le_of_ble_eq_true rfl⟩ dX6_isLength_4 (fun _ H locs _ X => ?_)
  have X : Hx D zA zs H locs ([]) := X
  exact hE (v := inI x (nI 1) (nI 9)) () (by rw [inI_rg x (by decide) (by decide)]) trivial X dX6_isLength_7
set_option maxHeartbeats 4000000 in
set_option maxRecDepth 100000 in
theorem c_X6_isTenths (l : Launch) (D : va_G) (tk : Nat → ClassId) (x : Int32) : MX l yX6_isTenths cX6_isTenths 1 (some .boolean) ⟨1, 0, 0, 22⟩ D (TYS tk) [.int x] ([]) (fun (_ : Unit) => True) (fun _ => some (.int (nI (rb (rg x 0 10))))) (fun _ => []) 0 0 := by
  refine MX.of_z (by decide) rfl ?_
  intro zp ze zs zm za zb zt zc zA zQ ls C0 hnm X hl hE
  have hx := C0.1
  have hb := C0.2.1
  have ht := C0.2.2.2.2.1
  have X : Hx D zA zs zs.heap [] ([]) := X
  have hl : lv_has ls 1 [(0, .int x)] := hl
  obtain ⟨H, hH⟩ : ∃ H, H = zs.heap := ⟨_, rfl⟩
  rw [← hH] at X ⊢
  obtain ⟨locs, hlo⟩ : ∃ L : List Loc, L = [] := ⟨_, rfl⟩
  rw [← hlo] at X ⊢
  refine lv_iload_n hx hb dX6_isTenths_0 rfl (lv_at hl 0 rfl) ?_
  refine g_iconst (n := 0) C0 rfl dX6_isTenths_1 ?_
  refine g_bipush (n := 10) C0 (by decide) dX6_isTenths_2 ?_
  refine g_callS (As := [.int x, .int (nI 0), .int (nI 10)]) (rest := []) (wr := []) (C0.sz hl) X (c_X6_within l D tk x (nI 0) (nI 10)) ⟨tb232, tb234, tb1, ⟨by decide, by decide, rfl⟩, rfl, rfl, Nat.le_of_ble_eq_true rfl, Nat.le_of_ble_eq_true rfl⟩ tb233 rfl [] [] rfl rfl rfl rfl rfl (by decide) ⟨Nat.le_of_ble_eq_true rfl, Nat.le_of_ble_eq_true rfl⟩ dX6_isTenths_4 (fun _ H locs _ X => ?_)
  have X : Hx D zA zs H locs ([]) := X
  exact hE (v := inI x (nI 0) (nI 10)) () (by rw [inI_rg x (by decide) (by decide)]) trivial X dX6_isTenths_7
set_option maxHeartbeats 4000000 in
set_option maxRecDepth 100000 in
theorem c_X6_isEither (l : Launch) (D : va_G) (tk : Nat → ClassId) (x : Int32) : MX l yX6_isEither cX6_isEither 1 (some .boolean) ⟨1, 0, 0, 22⟩ D (TYS tk) [.int x] ([]) (fun (_ : Unit) => True) (fun _ => some (.int (nI (rb (rg x 0 1))))) (fun _ => []) 0 0 := by
  refine MX.of_z (by decide) rfl ?_
  intro zp ze zs zm za zb zt zc zA zQ ls C0 hnm X hl hE
  have hx := C0.1
  have hb := C0.2.1
  have ht := C0.2.2.2.2.1
  have X : Hx D zA zs zs.heap [] ([]) := X
  have hl : lv_has ls 1 [(0, .int x)] := hl
  obtain ⟨H, hH⟩ : ∃ H, H = zs.heap := ⟨_, rfl⟩
  rw [← hH] at X ⊢
  obtain ⟨locs, hlo⟩ : ∃ L : List Loc, L = [] := ⟨_, rfl⟩
  rw [← hlo] at X ⊢
  refine lv_iload_n hx hb dX6_isEither_0 rfl (lv_at hl 0 rfl) ?_
  refine g_iconst (n := 0) C0 rfl dX6_isEither_1 ?_
  refine g_iconst (n := 1) C0 rfl dX6_isEither_2 ?_
  refine g_callS (As := [.int x, .int (nI 0), .int (nI 1)]) (rest := []) (wr := []) (C0.sz hl) X (c_X6_within l D tk x (nI 0) (nI 1)) ⟨tb232, tb234, tb1, ⟨by decide, by decide, rfl⟩, rfl, rfl, Nat.le_of_ble_eq_true rfl, Nat.le_of_ble_eq_true rfl⟩ tb233 rfl [] [] rfl rfl rfl rfl rfl (by decide) ⟨Nat.le_of_ble_eq_true rfl, Nat.le_of_ble_eq_true rfl⟩ dX6_isEither_3 (fun _ H locs _ X => ?_)
  have X : Hx D zA zs H locs ([]) := X
  exact hE (v := inI x (nI 0) (nI 1)) () (by rw [inI_rg x (by decide) (by decide)]) trivial X dX6_isEither_6
set_option maxHeartbeats 4000000 in
set_option maxRecDepth 100000 in
theorem c_X6_isLane (l : Launch) (D : va_G) (tk : Nat → ClassId) (x : Int32) : MX l yX6_isLane cX6_isLane 1 (some .boolean) ⟨1, 0, 0, 22⟩ D (TYS tk) [.int x] ([]) (fun (_ : Unit) => True) (fun _ => some (.int (nI (rb (rg x 0 2))))) (fun _ => []) 0 0 := by
  refine MX.of_z (by decide) rfl ?_
  intro zp ze zs zm za zb zt zc zA zQ ls C0 hnm X hl hE
  have hx := C0.1
  have hb := C0.2.1
  have ht := C0.2.2.2.2.1
  have X : Hx D zA zs zs.heap [] ([]) := X
  have hl : lv_has ls 1 [(0, .int x)] := hl
  obtain ⟨H, hH⟩ : ∃ H, H = zs.heap := ⟨_, rfl⟩
  rw [← hH] at X ⊢
  obtain ⟨locs, hlo⟩ : ∃ L : List Loc, L = [] := ⟨_, rfl⟩
  rw [← hlo] at X ⊢
  refine lv_iload_n hx hb dX6_isLane_0 rfl (lv_at hl 0 rfl) ?_
  refine g_iconst (n := 0) C0 rfl dX6_isLane_1 ?_
  refine g_iconst (n := 2) C0 rfl dX6_isLane_2 ?_
  refine g_callS (As := [.int x, .int (nI 0), .int (nI 2)]) (rest := []) (wr := []) (C0.sz hl) X (c_X6_within l D tk x (nI 0) (nI 2)) ⟨tb232, tb234, tb1, ⟨by decide, by decide, rfl⟩, rfl, rfl, Nat.le_of_ble_eq_true rfl, Nat.le_of_ble_eq_true rfl⟩ tb233 rfl [] [] rfl rfl rfl rfl rfl (by decide) ⟨Nat.le_of_ble_eq_true rfl, Nat.le_of_ble_eq_true rfl⟩ dX6_isLane_3 (fun _ H locs _ X => ?_)
  have X : Hx D zA zs H locs ([]) := X
  exact hE (v := inI x (nI 0) (nI 2)) () (by rw [inI_rg x (by decide) (by decide)]) trivial X dX6_isLane_6
set_option maxHeartbeats 4000000 in
set_option maxRecDepth 100000 in
theorem c_X1_hasTree (l : Launch) (D : va_G) (tk : Nat → ClassId) (h : Nat → Nat) (G : Nat → Nat → Nat) (d e : Nat → Nat) (t : Int32) (hn : G 8 0 < 2 ^ 31) : MX l yX1_hasTree cX1_hasTree 2 (some .boolean) ⟨1, 0, 0, 22⟩ D (TYS tk) [.ref (h 0), .int t] (gW tk h G d e) (fun (_ : Unit) => True) (fun _ => some (.int (nI (rb (ix t (G 8 0)))))) (fun _ => gW tk h G d e) 0 0 := by
  refine MX.of_z (by decide) rfl ?_
  intro zp ze zs zm za zb zt zc zA zQ ls C0 hnm X hl hE
  have hx := C0.1
  have hb := C0.2.1
  have ht := C0.2.2.2.2.1
  have X : Hx D zA zs zs.heap [] (gW tk h G d e) := X
  have hl : lv_has ls 2 [(0, .ref (h 0)), (1, .int t)] := hl
  obtain ⟨H, hH⟩ : ∃ H, H = zs.heap := ⟨_, rfl⟩
  rw [← hH] at X ⊢
  obtain ⟨locs, hlo⟩ : ∃ L : List Loc, L = [] := ⟨_, rfl⟩
  rw [← hlo] at X ⊢
  refine lv_iload_n hx hb dX1_hasTree_0 rfl (lv_at hl 1 rfl) ?_
  refine g_iconst (n := 0) C0 rfl dX1_hasTree_1 ?_
  refine lv_aload_n hx hb dX1_hasTree_2 rfl (lv_at hl 0 rfl) ?_
  refine g_get (v := .int (nI (G 8 0))) C0 X kX1 0 0 tb31 rfl rfl rfl dX1_hasTree_3 ?_
  refine g_iconst (n := 1) C0 rfl dX1_hasTree_6 ?_
  refine lv_isub hx hb dX1_hasTree_7 ?_
  refine g_callSN (As := [.int t, .int (nI 0), .int ((nI (G 8 0)) - (nI 1))]) (rest := []) (wr := (gW tk h G d e)) (C0.sz hl) X (c_X6_within l D tk t (nI 0) ((nI (G 8 0)) - (nI 1))) ⟨tb391, tb234, tb1, ⟨by decide, by decide, rfl⟩, rfl, rfl, Nat.le_of_ble_eq_true rfl, Nat.le_of_ble_eq_true rfl⟩ tb233 rfl [] [0, 1, 2, 3, 4, 5, 6, 7, 8, 9] rfl rfl rfl rfl rfl (by decide) ⟨Nat.le_of_ble_eq_true rfl, Nat.le_of_ble_eq_true rfl⟩ dX1_hasTree_8 (fun _ H locs _ X => ?_)
  have X : Hx D zA zs H locs (gW tk h G d e) := X
  exact hE (v := inI t (nI 0) ((nI (G 8 0)) - (nI 1))) () (by rw [inI_ix t hn]) trivial X dX1_hasTree_11
set_option maxHeartbeats 4000000 in
set_option maxRecDepth 100000 in
theorem c_X1_hasRoot (l : Launch) (D : va_G) (tk : Nat → ClassId) (h : Nat → Nat) (G : Nat → Nat → Nat) (d e : Nat → Nat) (t : Int32) (hn : G 8 1 < 2 ^ 31) : MX l yX1_hasRoot cX1_hasRoot 2 (some .boolean) ⟨1, 0, 0, 22⟩ D (TYS tk) [.ref (h 0), .int t] (gW tk h G d e) (fun (_ : Unit) => True) (fun _ => some (.int (nI (rb (ix t (G 8 1)))))) (fun _ => gW tk h G d e) 0 0 := by
  refine MX.of_z (by decide) rfl ?_
  intro zp ze zs zm za zb zt zc zA zQ ls C0 hnm X hl hE
  have hx := C0.1
  have hb := C0.2.1
  have ht := C0.2.2.2.2.1
  have X : Hx D zA zs zs.heap [] (gW tk h G d e) := X
  have hl : lv_has ls 2 [(0, .ref (h 0)), (1, .int t)] := hl
  obtain ⟨H, hH⟩ : ∃ H, H = zs.heap := ⟨_, rfl⟩
  rw [← hH] at X ⊢
  obtain ⟨locs, hlo⟩ : ∃ L : List Loc, L = [] := ⟨_, rfl⟩
  rw [← hlo] at X ⊢
  refine lv_iload_n hx hb dX1_hasRoot_0 rfl (lv_at hl 1 rfl) ?_
  refine g_iconst (n := 0) C0 rfl dX1_hasRoot_1 ?_
  refine lv_aload_n hx hb dX1_hasRoot_2 rfl (lv_at hl 0 rfl) ?_
  refine g_get (v := .int (nI (G 8 1))) C0 X kX1 0 2 tb37 rfl rfl rfl dX1_hasRoot_3 ?_
  refine g_iconst (n := 1) C0 rfl dX1_hasRoot_6 ?_
  refine lv_isub hx hb dX1_hasRoot_7 ?_
  refine g_callSN (As := [.int t, .int (nI 0), .int ((nI (G 8 1)) - (nI 1))]) (rest := []) (wr := (gW tk h G d e)) (C0.sz hl) X (c_X6_within l D tk t (nI 0) ((nI (G 8 1)) - (nI 1))) ⟨tb391, tb234, tb1, ⟨by decide, by decide, rfl⟩, rfl, rfl, Nat.le_of_ble_eq_true rfl, Nat.le_of_ble_eq_true rfl⟩ tb233 rfl [] [0, 1, 2, 3, 4, 5, 6, 7, 8, 9] rfl rfl rfl rfl rfl (by decide) ⟨Nat.le_of_ble_eq_true rfl, Nat.le_of_ble_eq_true rfl⟩ dX1_hasRoot_8 (fun _ H locs _ X => ?_)
  have X : Hx D zA zs H locs (gW tk h G d e) := X
  exact hE (v := inI t (nI 0) ((nI (G 8 1)) - (nI 1))) () (by rw [inI_ix t hn]) trivial X dX1_hasRoot_11
set_option maxHeartbeats 4000000 in
set_option maxRecDepth 100000 in
theorem c_X1_hasTalk (l : Launch) (D : va_G) (tk : Nat → ClassId) (h : Nat → Nat) (G : Nat → Nat → Nat) (d e : Nat → Nat) (t : Int32) (hn : G 8 3 < 2 ^ 31) : MX l yX1_hasTalk cX1_hasTalk 2 (some .boolean) ⟨1, 0, 0, 22⟩ D (TYS tk) [.ref (h 0), .int t] (gW tk h G d e) (fun (_ : Unit) => True) (fun _ => some (.int (nI (rb (ix t (G 8 3)))))) (fun _ => gW tk h G d e) 0 0 := by
  refine MX.of_z (by decide) rfl ?_
  intro zp ze zs zm za zb zt zc zA zQ ls C0 hnm X hl hE
  have hx := C0.1
  have hb := C0.2.1
  have ht := C0.2.2.2.2.1
  have X : Hx D zA zs zs.heap [] (gW tk h G d e) := X
  have hl : lv_has ls 2 [(0, .ref (h 0)), (1, .int t)] := hl
  obtain ⟨H, hH⟩ : ∃ H, H = zs.heap := ⟨_, rfl⟩
  rw [← hH] at X ⊢
  obtain ⟨locs, hlo⟩ : ∃ L : List Loc, L = [] := ⟨_, rfl⟩
  rw [← hlo] at X ⊢
  refine lv_iload_n hx hb dX1_hasTalk_0 rfl (lv_at hl 1 rfl) ?_
  refine g_iconst (n := 0) C0 rfl dX1_hasTalk_1 ?_
  refine lv_aload_n hx hb dX1_hasTalk_2 rfl (lv_at hl 0 rfl) ?_
  refine g_get (v := .int (nI (G 8 3))) C0 X kX1 0 8 tb51 rfl rfl rfl dX1_hasTalk_3 ?_
  refine g_iconst (n := 1) C0 rfl dX1_hasTalk_6 ?_
  refine lv_isub hx hb dX1_hasTalk_7 ?_
  refine g_callSN (As := [.int t, .int (nI 0), .int ((nI (G 8 3)) - (nI 1))]) (rest := []) (wr := (gW tk h G d e)) (C0.sz hl) X (c_X6_within l D tk t (nI 0) ((nI (G 8 3)) - (nI 1))) ⟨tb391, tb234, tb1, ⟨by decide, by decide, rfl⟩, rfl, rfl, Nat.le_of_ble_eq_true rfl, Nat.le_of_ble_eq_true rfl⟩ tb233 rfl [] [0, 1, 2, 3, 4, 5, 6, 7, 8, 9] rfl rfl rfl rfl rfl (by decide) ⟨Nat.le_of_ble_eq_true rfl, Nat.le_of_ble_eq_true rfl⟩ dX1_hasTalk_8 (fun _ H locs _ X => ?_)
  have X : Hx D zA zs H locs (gW tk h G d e) := X
  exact hE (v := inI t (nI 0) ((nI (G 8 3)) - (nI 1))) () (by rw [inI_ix t hn]) trivial X dX1_hasTalk_11
