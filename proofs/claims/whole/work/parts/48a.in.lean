/-! the constructors -/
theorem obI : Cond.code Lib.objectInit ⟨#[0xb1]⟩ 1 none ∈ TB := by
  have h : object_method_1_code = ⟨#[0xb1]⟩ := by decide +kernel
  exact h ▸ tb24
theorem bset0 (c v : Nat × va_E) (t : List va_W) : (bflat ([c] :: t)).set 0 v = bflat ([v] :: t) := by rw [bflat_fl, bflat_fl]; rfl
set_option maxHeartbeats 4000000 in
set_option maxRecDepth 100000 in
theorem c_X0_init (l : Launch) (D : va_G) (tk : Nat → ClassId) (a : Nat) : MX l yX0_init cX0_init 1 none ⟨1, 0, 0, 20⟩ D (TYS tk) [.ref a] [(a, .inr (0, [.int (nI 0), .int (nI 0)]))] (fun (_ : Unit) => True) (fun _ => none) (fun _ => bW a (nI 0) (nI 0)) 0 0 := by
  refine MX.of_v (by decide) rfl ?_
  intro zp ze zs zm za zb zt zc zA zQ ls C0 hnm X hl hE
  have hx := C0.1
  have hb := C0.2.1
  have ht := C0.2.2.2.2.1
  have hl : lv_has ls 1 [(0, .ref a)] := hl
  obtain ⟨H, hH⟩ : ∃ H, H = zs.heap := ⟨_, rfl⟩
  rw [← hH] at X ⊢
  obtain ⟨locs, hlo⟩ : ∃ L : List Loc, L = [] := ⟨_, rfl⟩
  rw [← hlo] at X ⊢
  refine lv_aload_n hx hb dX0_init_0 rfl (lv_at hl 0 rfl) ?_
  refine g_objInit C0 hl.1 tb98 tb23 obI dX0_init_1 (by decide) (by decide) ?_
  refine W.widen (k := 0) (n := 0) (by decide) (by decide) ?_
  exact hE (v := ()) (()) rfl trivial (X.sub [0] rfl rfl) dX0_init_4
set_option maxHeartbeats 4000000 in
set_option maxRecDepth 100000 in
theorem c_X5_init (l : Launch) (D : va_G) (tk : Nat → ClassId) (a : Nat) : MX l yX5_init cX5_init 1 none ⟨1, 1, 160, 20⟩ D (TYS tk) [.ref a] [(a, .inr (5, [.int (nI 0), .null]))] (fun (_ : Nat) => True) (fun _ => none) (fun u => tW tk a u 0 (fun _ => 0)) 1 160 := by
  refine MX.of_v (by decide) rfl ?_
  intro zp ze zs zm za zb zt zc zA zQ ls C0 hnm X hl hE
  have hx := C0.1
  have hb := C0.2.1
  have ht := C0.2.2.2.2.1
  have hl : lv_has ls 1 [(0, .ref a)] := hl
  obtain ⟨H, hH⟩ : ∃ H, H = zs.heap := ⟨_, rfl⟩
  rw [← hH] at X ⊢
  obtain ⟨locs, hlo⟩ : ∃ L : List Loc, L = [] := ⟨_, rfl⟩
  rw [← hlo] at X ⊢
  refine lv_aload_n hx hb dX5_init_0 rfl (lv_at hl 0 rfl) ?_
  refine g_objInit C0 hl.1 tb118 tb23 obI dX5_init_1 (by decide) (by decide) ?_
  refine lv_aload_n hx hb dX5_init_4 rfl (lv_at hl 0 rfl) ?_
  refine g_sipush (n := 160) C0 (by decide) dX5_init_5 ?_
  refine g_newa (atype := .byte) (N' := 160) C0 X 1 rfl tb129 rfl rfl rfl (Nat.le_of_ble_eq_true rfl) (by decide) (Nat.le_of_ble_eq_true rfl) (Nat.le_of_ble_eq_true rfl) dX5_init_8 (fun q0 H X => ?_)
  refine W.widen (k := 1) (n := 160) (by decide) (by decide) ?_
  have X : Hx D zA zs H locs ([(a, .inr (5, [.int (nI 0), .null]))] ++ [(q0, .inl (tk 1, 160, .inl (nf (fun _ => 0))))]) := X
  refine g_putF (v := .ref q0) (ft := .array .byte) C0 X kX5 0 1 tb122 rfl rfl rfl hnm rfl rfl rfl rfl rfl dX5_init_10 (fun H locs X => ?_)
  have X : Hx D zA zs H locs ([(a, .inr (5, [.int (nI 0), .ref q0]))] ++ [(q0, .inl (tk 1, 160, .inl (nf (fun _ => 0))))]) := X
  refine W.widen (k := 1) (n := 160) (by decide) (by decide) ?_
  exact hE (v := ()) (q0) rfl trivial (X.sub [0, 1] rfl rfl) dX5_init_13
set_option maxHeartbeats 4000000 in
set_option maxRecDepth 100000 in
theorem c_X4_init (l : Launch) (D : va_G) (tk : Nat → ClassId) (a : Nat) : MX l yX4_init cX4_init 1 none ⟨1, 3, 133, 20⟩ D (TYS tk) [.ref a] [(a, .inr (4, [.int (nI 0), .null, .null, .null]))] (fun (_ : Nat → Nat) => True) (fun _ => none) (fun u => sW tk (hc a u) 0 (fun _ => 0) (fun _ => 0) (fun _ => 0)) 3 133 := by
  refine MX.of_v (by decide) rfl ?_
  intro zp ze zs zm za zb zt zc zA zQ ls C0 hnm X hl hE
  have hx := C0.1
  have hb := C0.2.1
  have ht := C0.2.2.2.2.1
  have hl : lv_has ls 1 [(0, .ref a)] := hl
  obtain ⟨H, hH⟩ : ∃ H, H = zs.heap := ⟨_, rfl⟩
  rw [← hH] at X ⊢
  obtain ⟨locs, hlo⟩ : ∃ L : List Loc, L = [] := ⟨_, rfl⟩
  rw [← hlo] at X ⊢
  refine lv_aload_n hx hb dX4_init_0 rfl (lv_at hl 0 rfl) ?_
  refine g_objInit C0 hl.1 tb166 tb23 obI dX4_init_1 (by decide) (by decide) ?_
  refine lv_aload_n hx hb dX4_init_4 rfl (lv_at hl 0 rfl) ?_
  refine g_bipush (n := 6) C0 (by decide) dX4_init_5 ?_
  refine g_newa (atype := .int) (N' := 6) C0 X 0 rfl tb91 rfl rfl rfl (Nat.le_of_ble_eq_true rfl) (by decide) (Nat.le_of_ble_eq_true rfl) (Nat.le_of_ble_eq_true rfl) dX4_init_7 (fun q0 H X => ?_)
  refine W.widen (k := 1) (n := 6) (by decide) (by decide) ?_
  have X : Hx D zA zs H locs ([(a, .inr (4, [.int (nI 0), .null, .null, .null]))] ++ [(q0, .inl (tk 0, 6, .inl (nf (fun _ => 0))))]) := X
  refine g_putF (v := .ref q0) (ft := .array .int) C0 X kX4 0 1 tb169 rfl rfl rfl hnm rfl rfl rfl rfl rfl dX4_init_9 (fun H locs X => ?_)
  have X : Hx D zA zs H locs ([(a, .inr (4, [.int (nI 0), .ref q0, .null, .null]))] ++ [(q0, .inl (tk 0, 6, .inl (nf (fun _ => 0))))]) := X
  refine lv_aload_n hx hb dX4_init_12 rfl (lv_at hl 0 rfl) ?_
  refine g_bipush (n := 6) C0 (by decide) dX4_init_13 ?_
  refine g_newa (atype := .int) (N' := 6) C0 X 0 rfl tb91 rfl rfl rfl (Nat.le_of_ble_eq_true rfl) (by decide) (Nat.le_of_ble_eq_true rfl) (Nat.le_of_ble_eq_true rfl) dX4_init_15 (fun q1 H X => ?_)
  refine W.widen (k := 2) (n := 12) (by decide) (by decide) ?_
  have X : Hx D zA zs H locs ([(a, .inr (4, [.int (nI 0), .ref q0, .null, .null]))] ++ [(q0, .inl (tk 0, 6, .inl (nf (fun _ => 0))))] ++ [(q1, .inl (tk 0, 6, .inl (nf (fun _ => 0))))]) := X
  refine g_putF (v := .ref q1) (ft := .array .int) C0 X kX4 0 2 tb170 rfl rfl rfl hnm rfl rfl rfl rfl rfl dX4_init_17 (fun H locs X => ?_)
  have X : Hx D zA zs H locs ([(a, .inr (4, [.int (nI 0), .ref q0, .ref q1, .null]))] ++ [(q0, .inl (tk 0, 6, .inl (nf (fun _ => 0))))] ++ [(q1, .inl (tk 0, 6, .inl (nf (fun _ => 0))))]) := X
  refine lv_aload_n hx hb dX4_init_20 rfl (lv_at hl 0 rfl) ?_
  refine g_bipush (n := 121) C0 (by decide) dX4_init_21 ?_
  refine g_newa (atype := .int) (N' := 121) C0 X 0 rfl tb91 rfl rfl rfl (Nat.le_of_ble_eq_true rfl) (by decide) (Nat.le_of_ble_eq_true rfl) (Nat.le_of_ble_eq_true rfl) dX4_init_23 (fun q2 H X => ?_)
  refine W.widen (k := 3) (n := 133) (by decide) (by decide) ?_
  have X : Hx D zA zs H locs ([(a, .inr (4, [.int (nI 0), .ref q0, .ref q1, .null]))] ++ [(q0, .inl (tk 0, 6, .inl (nf (fun _ => 0))))] ++ [(q1, .inl (tk 0, 6, .inl (nf (fun _ => 0))))] ++ [(q2, .inl (tk 0, 121, .inl (nf (fun _ => 0))))]) := X
  refine g_putF (v := .ref q2) (ft := .array .int) C0 X kX4 0 3 tb171 rfl rfl rfl hnm rfl rfl rfl rfl rfl dX4_init_25 (fun H locs X => ?_)
  have X : Hx D zA zs H locs ([(a, .inr (4, [.int (nI 0), .ref q0, .ref q1, .ref q2]))] ++ [(q0, .inl (tk 0, 6, .inl (nf (fun _ => 0))))] ++ [(q1, .inl (tk 0, 6, .inl (nf (fun _ => 0))))] ++ [(q2, .inl (tk 0, 121, .inl (nf (fun _ => 0))))]) := X
  refine W.widen (k := 3) (n := 133) (by decide) (by decide) ?_
  exact hE (v := ()) (fun k => match k with | 0 => q0 | 1 => q1 | _ => q2) rfl trivial (X.sub [0, 1, 2, 3] rfl rfl) dX4_init_28
set_option maxHeartbeats 4000000 in
set_option maxRecDepth 100000 in
theorem c_X3_init (l : Launch) (D : va_G) (tk : Nat → ClassId) (a : Nat) : MX l yX3_init cX3_init 1 none ⟨1, 1, 40, 20⟩ D (TYS tk) [.ref a] [(a, .inr (3, [.int (nI 0), .null, .int (nI 0)]))] (fun (_ : Nat) => True) (fun _ => none) (fun u => shW tk a u 0 (-1) (nf (fun _ => 0))) 1 40 := by
  refine MX.of_v (by decide) rfl ?_
  intro zp ze zs zm za zb zt zc zA zQ ls C0 hnm X hl hE
  have hx := C0.1
  have hb := C0.2.1
  have ht := C0.2.2.2.2.1
  have hl : lv_has ls 1 [(0, .ref a)] := hl
  obtain ⟨H, hH⟩ : ∃ H, H = zs.heap := ⟨_, rfl⟩
  rw [← hH] at X ⊢
  obtain ⟨locs, hlo⟩ : ∃ L : List Loc, L = [] := ⟨_, rfl⟩
  rw [← hlo] at X ⊢
  refine lv_aload_n hx hb dX3_init_0 rfl (lv_at hl 0 rfl) ?_
  refine g_objInit C0 hl.1 tb187 tb23 obI dX3_init_1 (by decide) (by decide) ?_
  refine lv_aload_n hx hb dX3_init_4 rfl (lv_at hl 0 rfl) ?_
  refine g_bipush (n := 40) C0 (by decide) dX3_init_5 ?_
  refine g_newa (atype := .int) (N' := 40) C0 X 0 rfl tb91 rfl rfl rfl (Nat.le_of_ble_eq_true rfl) (by decide) (Nat.le_of_ble_eq_true rfl) (Nat.le_of_ble_eq_true rfl) dX3_init_7 (fun q0 H X => ?_)
  refine W.widen (k := 1) (n := 40) (by decide) (by decide) ?_
  have X : Hx D zA zs H locs ([(a, .inr (3, [.int (nI 0), .null, .int (nI 0)]))] ++ [(q0, .inl (tk 0, 40, .inl (nf (fun _ => 0))))]) := X
  refine g_putF (v := .ref q0) (ft := .array .int) C0 X kX3 0 1 tb190 rfl rfl rfl hnm rfl rfl rfl rfl rfl dX3_init_9 (fun H locs X => ?_)
  have X : Hx D zA zs H locs ([(a, .inr (3, [.int (nI 0), .ref q0, .int (nI 0)]))] ++ [(q0, .inl (tk 0, 40, .inl (nf (fun _ => 0))))]) := X
  refine lv_aload_n hx hb dX3_init_12 rfl (lv_at hl 0 rfl) ?_
  refine lv_iconst (v := (-1)) hx hb dX3_init_13 (by decide) ?_
  refine g_put (v := .int (-1)) (ft := .int) C0 X kX3 0 2 tb192 rfl rfl rfl rfl rfl rfl rfl dX3_init_14 (fun H locs X => ?_)
  have X : Hx D zA zs H locs ([(a, .inr (3, [.int (nI 0), .ref q0, .int (-1)]))] ++ [(q0, .inl (tk 0, 40, .inl (nf (fun _ => 0))))]) := X
  refine W.widen (k := 1) (n := 40) (by decide) (by decide) ?_
  exact hE (v := ()) (q0) rfl trivial (X.sub [0, 1] rfl rfl) dX3_init_17
set_option maxHeartbeats 4000000 in
set_option maxRecDepth 100000 in
theorem c_X1_init (l : Launch) (D : va_G) (tk : Nat → ClassId) (a : Nat) : MX l yX1_init cX1_init 1 none ⟨1, 9, 63, 20⟩ D (TYS tk) [.ref a] [(a, .inr (1, [.int (nI 0), .null, .int (nI 0), .null, .null, .null, .int (nI 0), .int (nI 0), .int (nI 0), .null, .null, .null, .null, .null]))] (fun (_ : Nat → Nat) => True) (fun _ => none) (fun u => gW tk (hc a u) (fun _ _ => 0) (fun _ => 0) (fun _ => 0)) 9 63 := by
  refine MX.of_v (by decide) rfl ?_
  intro zp ze zs zm za zb zt zc zA zQ ls C0 hnm X hl hE
  have hx := C0.1
  have hb := C0.2.1
  have ht := C0.2.2.2.2.1
  have hl : lv_has ls 1 [(0, .ref a)] := hl
  obtain ⟨H, hH⟩ : ∃ H, H = zs.heap := ⟨_, rfl⟩
  rw [← hH] at X ⊢
  obtain ⟨locs, hlo⟩ : ∃ L : List Loc, L = [] := ⟨_, rfl⟩
  rw [← hlo] at X ⊢
  refine lv_aload_n hx hb dX1_init_0 rfl (lv_at hl 0 rfl) ?_
  refine g_objInit C0 hl.1 tb30 tb23 obI dX1_init_1 (by decide) (by decide) ?_
  refine lv_aload_n hx hb dX1_init_4 rfl (lv_at hl 0 rfl) ?_
  refine g_bipush (n := 6) C0 (by decide) dX1_init_5 ?_
  refine g_newa (atype := .int) (N' := 6) C0 X 0 rfl tb91 rfl rfl rfl (Nat.le_of_ble_eq_true rfl) (by decide) (Nat.le_of_ble_eq_true rfl) (Nat.le_of_ble_eq_true rfl) dX1_init_7 (fun q0 H X => ?_)
  refine W.widen (k := 1) (n := 6) (by decide) (by decide) ?_
  have X : Hx D zA zs H locs ([(a, .inr (1, [.int (nI 0), .null, .int (nI 0), .null, .null, .null, .int (nI 0), .int (nI 0), .int (nI 0), .null, .null, .null, .null, .null]))] ++ [(q0, .inl (tk 0, 6, .inl (nf (fun _ => 0))))]) := X
  refine g_putF (v := .ref q0) (ft := .array .int) C0 X kX1 0 1 tb35 rfl rfl rfl hnm rfl rfl rfl rfl rfl dX1_init_9 (fun H locs X => ?_)
  have X : Hx D zA zs H locs ([(a, .inr (1, [.int (nI 0), .ref q0, .int (nI 0), .null, .null, .null, .int (nI 0), .int (nI 0), .int (nI 0), .null, .null, .null, .null, .null]))] ++ [(q0, .inl (tk 0, 6, .inl (nf (fun _ => 0))))]) := X
  refine lv_aload_n hx hb dX1_init_12 rfl (lv_at hl 0 rfl) ?_
  refine g_bipush (n := 9) C0 (by decide) dX1_init_13 ?_
  refine g_newa (atype := .int) (N' := 9) C0 X 0 rfl tb91 rfl rfl rfl (Nat.le_of_ble_eq_true rfl) (by decide) (Nat.le_of_ble_eq_true rfl) (Nat.le_of_ble_eq_true rfl) dX1_init_15 (fun q1 H X => ?_)
  refine W.widen (k := 2) (n := 15) (by decide) (by decide) ?_
  have X : Hx D zA zs H locs ([(a, .inr (1, [.int (nI 0), .ref q0, .int (nI 0), .null, .null, .null, .int (nI 0), .int (nI 0), .int (nI 0), .null, .null, .null, .null, .null]))] ++ [(q0, .inl (tk 0, 6, .inl (nf (fun _ => 0))))] ++ [(q1, .inl (tk 0, 9, .inl (nf (fun _ => 0))))]) := X
  refine g_putF (v := .ref q1) (ft := .array .int) C0 X kX1 0 3 tb40 rfl rfl rfl hnm rfl rfl rfl rfl rfl dX1_init_17 (fun H locs X => ?_)
  have X : Hx D zA zs H locs ([(a, .inr (1, [.int (nI 0), .ref q0, .int (nI 0), .ref q1, .null, .null, .int (nI 0), .int (nI 0), .int (nI 0), .null, .null, .null, .null, .null]))] ++ [(q0, .inl (tk 0, 6, .inl (nf (fun _ => 0))))] ++ [(q1, .inl (tk 0, 9, .inl (nf (fun _ => 0))))]) := X
  refine lv_aload_n hx hb dX1_init_20 rfl (lv_at hl 0 rfl) ?_
  refine g_bipush (n := 9) C0 (by decide) dX1_init_21 ?_
  refine g_newa (atype := .int) (N' := 9) C0 X 0 rfl tb91 rfl rfl rfl (Nat.le_of_ble_eq_true rfl) (by decide) (Nat.le_of_ble_eq_true rfl) (Nat.le_of_ble_eq_true rfl) dX1_init_23 (fun q2 H X => ?_)
  refine W.widen (k := 3) (n := 24) (by decide) (by decide) ?_
  have X : Hx D zA zs H locs ([(a, .inr (1, [.int (nI 0), .ref q0, .int (nI 0), .ref q1, .null, .null, .int (nI 0), .int (nI 0), .int (nI 0), .null, .null, .null, .null, .null]))] ++ [(q0, .inl (tk 0, 6, .inl (nf (fun _ => 0))))] ++ [(q1, .inl (tk 0, 9, .inl (nf (fun _ => 0))))] ++ [(q2, .inl (tk 0, 9, .inl (nf (fun _ => 0))))]) := X
  refine g_putF (v := .ref q2) (ft := .array .int) C0 X kX1 0 4 tb42 rfl rfl rfl hnm rfl rfl rfl rfl rfl dX1_init_25 (fun H locs X => ?_)
  have X : Hx D zA zs H locs ([(a, .inr (1, [.int (nI 0), .ref q0, .int (nI 0), .ref q1, .ref q2, .null, .int (nI 0), .int (nI 0), .int (nI 0), .null, .null, .null, .null, .null]))] ++ [(q0, .inl (tk 0, 6, .inl (nf (fun _ => 0))))] ++ [(q1, .inl (tk 0, 9, .inl (nf (fun _ => 0))))] ++ [(q2, .inl (tk 0, 9, .inl (nf (fun _ => 0))))]) := X
  refine lv_aload_n hx hb dX1_init_28 rfl (lv_at hl 0 rfl) ?_
  refine g_bipush (n := 9) C0 (by decide) dX1_init_29 ?_
  refine g_newa (atype := .int) (N' := 9) C0 X 0 rfl tb91 rfl rfl rfl (Nat.le_of_ble_eq_true rfl) (by decide) (Nat.le_of_ble_eq_true rfl) (Nat.le_of_ble_eq_true rfl) dX1_init_31 (fun q3 H X => ?_)
  refine W.widen (k := 4) (n := 33) (by decide) (by decide) ?_
  have X : Hx D zA zs H locs ([(a, .inr (1, [.int (nI 0), .ref q0, .int (nI 0), .ref q1, .ref q2, .null, .int (nI 0), .int (nI 0), .int (nI 0), .null, .null, .null, .null, .null]))] ++ [(q0, .inl (tk 0, 6, .inl (nf (fun _ => 0))))] ++ [(q1, .inl (tk 0, 9, .inl (nf (fun _ => 0))))] ++ [(q2, .inl (tk 0, 9, .inl (nf (fun _ => 0))))] ++ [(q3, .inl (tk 0, 9, .inl (nf (fun _ => 0))))]) := X
  refine g_putF (v := .ref q3) (ft := .array .int) C0 X kX1 0 5 tb44 rfl rfl rfl hnm rfl rfl rfl rfl rfl dX1_init_33 (fun H locs X => ?_)
  have X : Hx D zA zs H locs ([(a, .inr (1, [.int (nI 0), .ref q0, .int (nI 0), .ref q1, .ref q2, .ref q3, .int (nI 0), .int (nI 0), .int (nI 0), .null, .null, .null, .null, .null]))] ++ [(q0, .inl (tk 0, 6, .inl (nf (fun _ => 0))))] ++ [(q1, .inl (tk 0, 9, .inl (nf (fun _ => 0))))] ++ [(q2, .inl (tk 0, 9, .inl (nf (fun _ => 0))))] ++ [(q3, .inl (tk 0, 9, .inl (nf (fun _ => 0))))]) := X
  refine lv_aload_n hx hb dX1_init_36 rfl (lv_at hl 0 rfl) ?_
  refine g_bipush (n := 6) C0 (by decide) dX1_init_37 ?_
  refine g_newa (atype := .int) (N' := 6) C0 X 0 rfl tb91 rfl rfl rfl (Nat.le_of_ble_eq_true rfl) (by decide) (Nat.le_of_ble_eq_true rfl) (Nat.le_of_ble_eq_true rfl) dX1_init_39 (fun q4 H X => ?_)
  refine W.widen (k := 5) (n := 39) (by decide) (by decide) ?_
  have X : Hx D zA zs H locs ([(a, .inr (1, [.int (nI 0), .ref q0, .int (nI 0), .ref q1, .ref q2, .ref q3, .int (nI 0), .int (nI 0), .int (nI 0), .null, .null, .null, .null, .null]))] ++ [(q0, .inl (tk 0, 6, .inl (nf (fun _ => 0))))] ++ [(q1, .inl (tk 0, 9, .inl (nf (fun _ => 0))))] ++ [(q2, .inl (tk 0, 9, .inl (nf (fun _ => 0))))] ++ [(q3, .inl (tk 0, 9, .inl (nf (fun _ => 0))))] ++ [(q4, .inl (tk 0, 6, .inl (nf (fun _ => 0))))]) := X
  refine g_putF (v := .ref q4) (ft := .array .int) C0 X kX1 0 9 tb54 rfl rfl rfl hnm rfl rfl rfl rfl rfl dX1_init_41 (fun H locs X => ?_)
  have X : Hx D zA zs H locs ([(a, .inr (1, [.int (nI 0), .ref q0, .int (nI 0), .ref q1, .ref q2, .ref q3, .int (nI 0), .int (nI 0), .int (nI 0), .ref q4, .null, .null, .null, .null]))] ++ [(q0, .inl (tk 0, 6, .inl (nf (fun _ => 0))))] ++ [(q1, .inl (tk 0, 9, .inl (nf (fun _ => 0))))] ++ [(q2, .inl (tk 0, 9, .inl (nf (fun _ => 0))))] ++ [(q3, .inl (tk 0, 9, .inl (nf (fun _ => 0))))] ++ [(q4, .inl (tk 0, 6, .inl (nf (fun _ => 0))))]) := X
  refine lv_aload_n hx hb dX1_init_44 rfl (lv_at hl 0 rfl) ?_
  refine g_bipush (n := 6) C0 (by decide) dX1_init_45 ?_
  refine g_newa (atype := .int) (N' := 6) C0 X 0 rfl tb91 rfl rfl rfl (Nat.le_of_ble_eq_true rfl) (by decide) (Nat.le_of_ble_eq_true rfl) (Nat.le_of_ble_eq_true rfl) dX1_init_47 (fun q5 H X => ?_)
  refine W.widen (k := 6) (n := 45) (by decide) (by decide) ?_
  have X : Hx D zA zs H locs ([(a, .inr (1, [.int (nI 0), .ref q0, .int (nI 0), .ref q1, .ref q2, .ref q3, .int (nI 0), .int (nI 0), .int (nI 0), .ref q4, .null, .null, .null, .null]))] ++ [(q0, .inl (tk 0, 6, .inl (nf (fun _ => 0))))] ++ [(q1, .inl (tk 0, 9, .inl (nf (fun _ => 0))))] ++ [(q2, .inl (tk 0, 9, .inl (nf (fun _ => 0))))] ++ [(q3, .inl (tk 0, 9, .inl (nf (fun _ => 0))))] ++ [(q4, .inl (tk 0, 6, .inl (nf (fun _ => 0))))] ++ [(q5, .inl (tk 0, 6, .inl (nf (fun _ => 0))))]) := X
  refine g_putF (v := .ref q5) (ft := .array .int) C0 X kX1 0 10 tb56 rfl rfl rfl hnm rfl rfl rfl rfl rfl dX1_init_49 (fun H locs X => ?_)
  have X : Hx D zA zs H locs ([(a, .inr (1, [.int (nI 0), .ref q0, .int (nI 0), .ref q1, .ref q2, .ref q3, .int (nI 0), .int (nI 0), .int (nI 0), .ref q4, .ref q5, .null, .null, .null]))] ++ [(q0, .inl (tk 0, 6, .inl (nf (fun _ => 0))))] ++ [(q1, .inl (tk 0, 9, .inl (nf (fun _ => 0))))] ++ [(q2, .inl (tk 0, 9, .inl (nf (fun _ => 0))))] ++ [(q3, .inl (tk 0, 9, .inl (nf (fun _ => 0))))] ++ [(q4, .inl (tk 0, 6, .inl (nf (fun _ => 0))))] ++ [(q5, .inl (tk 0, 6, .inl (nf (fun _ => 0))))]) := X
  refine lv_aload_n hx hb dX1_init_52 rfl (lv_at hl 0 rfl) ?_
  refine g_bipush (n := 6) C0 (by decide) dX1_init_53 ?_
  refine g_newa (atype := .int) (N' := 6) C0 X 0 rfl tb91 rfl rfl rfl (Nat.le_of_ble_eq_true rfl) (by decide) (Nat.le_of_ble_eq_true rfl) (Nat.le_of_ble_eq_true rfl) dX1_init_55 (fun q6 H X => ?_)
  refine W.widen (k := 7) (n := 51) (by decide) (by decide) ?_
  have X : Hx D zA zs H locs ([(a, .inr (1, [.int (nI 0), .ref q0, .int (nI 0), .ref q1, .ref q2, .ref q3, .int (nI 0), .int (nI 0), .int (nI 0), .ref q4, .ref q5, .null, .null, .null]))] ++ [(q0, .inl (tk 0, 6, .inl (nf (fun _ => 0))))] ++ [(q1, .inl (tk 0, 9, .inl (nf (fun _ => 0))))] ++ [(q2, .inl (tk 0, 9, .inl (nf (fun _ => 0))))] ++ [(q3, .inl (tk 0, 9, .inl (nf (fun _ => 0))))] ++ [(q4, .inl (tk 0, 6, .inl (nf (fun _ => 0))))] ++ [(q5, .inl (tk 0, 6, .inl (nf (fun _ => 0))))] ++ [(q6, .inl (tk 0, 6, .inl (nf (fun _ => 0))))]) := X
  refine g_putF (v := .ref q6) (ft := .array .int) C0 X kX1 0 11 tb58 rfl rfl rfl hnm rfl rfl rfl rfl rfl dX1_init_57 (fun H locs X => ?_)
  have X : Hx D zA zs H locs ([(a, .inr (1, [.int (nI 0), .ref q0, .int (nI 0), .ref q1, .ref q2, .ref q3, .int (nI 0), .int (nI 0), .int (nI 0), .ref q4, .ref q5, .ref q6, .null, .null]))] ++ [(q0, .inl (tk 0, 6, .inl (nf (fun _ => 0))))] ++ [(q1, .inl (tk 0, 9, .inl (nf (fun _ => 0))))] ++ [(q2, .inl (tk 0, 9, .inl (nf (fun _ => 0))))] ++ [(q3, .inl (tk 0, 9, .inl (nf (fun _ => 0))))] ++ [(q4, .inl (tk 0, 6, .inl (nf (fun _ => 0))))] ++ [(q5, .inl (tk 0, 6, .inl (nf (fun _ => 0))))] ++ [(q6, .inl (tk 0, 6, .inl (nf (fun _ => 0))))]) := X
  refine lv_aload_n hx hb dX1_init_60 rfl (lv_at hl 0 rfl) ?_
  refine g_bipush (n := 6) C0 (by decide) dX1_init_61 ?_
  refine g_newa (atype := .int) (N' := 6) C0 X 0 rfl tb91 rfl rfl rfl (Nat.le_of_ble_eq_true rfl) (by decide) (Nat.le_of_ble_eq_true rfl) (Nat.le_of_ble_eq_true rfl) dX1_init_63 (fun q7 H X => ?_)
  refine W.widen (k := 8) (n := 57) (by decide) (by decide) ?_
  have X : Hx D zA zs H locs ([(a, .inr (1, [.int (nI 0), .ref q0, .int (nI 0), .ref q1, .ref q2, .ref q3, .int (nI 0), .int (nI 0), .int (nI 0), .ref q4, .ref q5, .ref q6, .null, .null]))] ++ [(q0, .inl (tk 0, 6, .inl (nf (fun _ => 0))))] ++ [(q1, .inl (tk 0, 9, .inl (nf (fun _ => 0))))] ++ [(q2, .inl (tk 0, 9, .inl (nf (fun _ => 0))))] ++ [(q3, .inl (tk 0, 9, .inl (nf (fun _ => 0))))] ++ [(q4, .inl (tk 0, 6, .inl (nf (fun _ => 0))))] ++ [(q5, .inl (tk 0, 6, .inl (nf (fun _ => 0))))] ++ [(q6, .inl (tk 0, 6, .inl (nf (fun _ => 0))))] ++ [(q7, .inl (tk 0, 6, .inl (nf (fun _ => 0))))]) := X
  refine g_putF (v := .ref q7) (ft := .array .int) C0 X kX1 0 12 tb60 rfl rfl rfl hnm rfl rfl rfl rfl rfl dX1_init_65 (fun H locs X => ?_)
  have X : Hx D zA zs H locs ([(a, .inr (1, [.int (nI 0), .ref q0, .int (nI 0), .ref q1, .ref q2, .ref q3, .int (nI 0), .int (nI 0), .int (nI 0), .ref q4, .ref q5, .ref q6, .ref q7, .null]))] ++ [(q0, .inl (tk 0, 6, .inl (nf (fun _ => 0))))] ++ [(q1, .inl (tk 0, 9, .inl (nf (fun _ => 0))))] ++ [(q2, .inl (tk 0, 9, .inl (nf (fun _ => 0))))] ++ [(q3, .inl (tk 0, 9, .inl (nf (fun _ => 0))))] ++ [(q4, .inl (tk 0, 6, .inl (nf (fun _ => 0))))] ++ [(q5, .inl (tk 0, 6, .inl (nf (fun _ => 0))))] ++ [(q6, .inl (tk 0, 6, .inl (nf (fun _ => 0))))] ++ [(q7, .inl (tk 0, 6, .inl (nf (fun _ => 0))))]) := X
  refine lv_aload_n hx hb dX1_init_68 rfl (lv_at hl 0 rfl) ?_
  refine g_bipush (n := 6) C0 (by decide) dX1_init_69 ?_
  refine g_newa (atype := .int) (N' := 6) C0 X 0 rfl tb91 rfl rfl rfl (Nat.le_of_ble_eq_true rfl) (by decide) (Nat.le_of_ble_eq_true rfl) (Nat.le_of_ble_eq_true rfl) dX1_init_71 (fun q8 H X => ?_)
  refine W.widen (k := 9) (n := 63) (by decide) (by decide) ?_
  have X : Hx D zA zs H locs ([(a, .inr (1, [.int (nI 0), .ref q0, .int (nI 0), .ref q1, .ref q2, .ref q3, .int (nI 0), .int (nI 0), .int (nI 0), .ref q4, .ref q5, .ref q6, .ref q7, .null]))] ++ [(q0, .inl (tk 0, 6, .inl (nf (fun _ => 0))))] ++ [(q1, .inl (tk 0, 9, .inl (nf (fun _ => 0))))] ++ [(q2, .inl (tk 0, 9, .inl (nf (fun _ => 0))))] ++ [(q3, .inl (tk 0, 9, .inl (nf (fun _ => 0))))] ++ [(q4, .inl (tk 0, 6, .inl (nf (fun _ => 0))))] ++ [(q5, .inl (tk 0, 6, .inl (nf (fun _ => 0))))] ++ [(q6, .inl (tk 0, 6, .inl (nf (fun _ => 0))))] ++ [(q7, .inl (tk 0, 6, .inl (nf (fun _ => 0))))] ++ [(q8, .inl (tk 0, 6, .inl (nf (fun _ => 0))))]) := X
  refine g_putF (v := .ref q8) (ft := .array .int) C0 X kX1 0 13 tb61 rfl rfl rfl hnm rfl rfl rfl rfl rfl dX1_init_73 (fun H locs X => ?_)
  have X : Hx D zA zs H locs ([(a, .inr (1, [.int (nI 0), .ref q0, .int (nI 0), .ref q1, .ref q2, .ref q3, .int (nI 0), .int (nI 0), .int (nI 0), .ref q4, .ref q5, .ref q6, .ref q7, .ref q8]))] ++ [(q0, .inl (tk 0, 6, .inl (nf (fun _ => 0))))] ++ [(q1, .inl (tk 0, 9, .inl (nf (fun _ => 0))))] ++ [(q2, .inl (tk 0, 9, .inl (nf (fun _ => 0))))] ++ [(q3, .inl (tk 0, 9, .inl (nf (fun _ => 0))))] ++ [(q4, .inl (tk 0, 6, .inl (nf (fun _ => 0))))] ++ [(q5, .inl (tk 0, 6, .inl (nf (fun _ => 0))))] ++ [(q6, .inl (tk 0, 6, .inl (nf (fun _ => 0))))] ++ [(q7, .inl (tk 0, 6, .inl (nf (fun _ => 0))))] ++ [(q8, .inl (tk 0, 6, .inl (nf (fun _ => 0))))]) := X
  refine W.widen (k := 9) (n := 63) (by decide) (by decide) ?_
  exact hE (v := ()) (fun k => match k with | 0 => q0 | 1 => q1 | 2 => q2 | 3 => q3 | 4 => q4 | 5 => q5 | 6 => q6 | 7 => q7 | _ => q8) rfl trivial (X.sub [0, 1, 2, 3, 4, 5, 6, 7, 8, 9] rfl rfl) dX1_init_76
set_option maxHeartbeats 4000000 in
set_option maxRecDepth 100000 in
theorem c_X2_init (l : Launch) (D : va_G) (tk : Nat → ClassId) (a : Nat) : MX l yX2_init cX2_init 1 none ⟨2, 12, 239, 40⟩ D (TYS tk) [.ref a] [(a, .inr (2, [.null, .null, .int (nI 0), .int (nI 0), .int (nI 0), .int (nI 0), .int (nI 0), .int (nI 0)]))] (fun (_ : Nat × Nat × Nat × (Nat → Nat)) => True) (fun _ => none) (fun u => (rV a (u.1) (hc (u.2.2.1) (u.2.2.2)) (fun _ _ => 0) false ++ tW tk (u.1) (u.2.1) 0 (fun _ => 0) ++ gW tk (hc (u.2.2.1) (u.2.2.2)) (fun _ _ => 0) (fun _ => 0) (fun _ => 0))) 12 239 := by
  refine MX.of_v (by decide) rfl ?_
  intro zp ze zs zm za zb zt zc zA zQ ls C0 hnm X hl hE
  have hx := C0.1
  have hb := C0.2.1
  have ht := C0.2.2.2.2.1
  have hl : lv_has ls 1 [(0, .ref a)] := hl
  obtain ⟨H, hH⟩ : ∃ H, H = zs.heap := ⟨_, rfl⟩
  rw [← hH] at X ⊢
  obtain ⟨locs, hlo⟩ : ∃ L : List Loc, L = [] := ⟨_, rfl⟩
  rw [← hlo] at X ⊢
  refine lv_aload_n hx hb dX2_init_0 rfl (lv_at hl 0 rfl) ?_
  refine g_objInit C0 hl.1 tb112 tb23 obI dX2_init_1 (by decide) (by decide) ?_
  refine lv_aload_n hx hb dX2_init_4 rfl (lv_at hl 0 rfl) ?_
  refine g_new (fs := [.int (nI 0), .null]) C0 X kX5 tb113 tb114 tb5 (fun j hj => by rcases (show j = 0 ∨ j = 1 by omega) with rfl | rfl <;> rfl) (Nat.le_of_ble_eq_true rfl) (Nat.le_of_ble_eq_true rfl) dX2_init_5 (fun q0 H X => ?_)
  refine W.widen (k := 1) (n := 2) (by decide) (by decide) ?_
  have X : Hx D zA zs H locs ([(a, .inr (2, [.null, .null, .int (nI 0), .int (nI 0), .int (nI 0), .int (nI 0), .int (nI 0), .int (nI 0)]))] ++ [(q0, .inr (5, [.int (nI 0), .null]))]) := X
  refine lv_dup hx hb dX2_init_8 rfl ?_
  refine g_callIN (As := []) (rest := [.ref q0, .ref a]) (wr := [(a, .inr (2, [.null, .null, .int (nI 0), .int (nI 0), .int (nI 0), .int (nI 0), .int (nI 0), .int (nI 0)]))]) (C0.sz hl) X (c_X5_init l D tk q0) ⟨tb115, tb117, tb5, ⟨by decide, by decide, rfl⟩, rfl, rfl, Nat.le_of_ble_eq_true rfl, Nat.le_of_ble_eq_true rfl⟩ tb116 rfl rfl [1] [0] rfl rfl rfl rfl rfl (Nat.le_of_ble_eq_true rfl) ⟨Nat.le_of_ble_eq_true rfl, Nat.le_of_ble_eq_true rfl⟩ dX2_init_9 (fun u1 H locs _ X => ?_)
  refine W.widen (k := 2) (n := 162) (by decide) (by decide) ?_
  have X : Hx D zA zs H locs ([(a, .inr (2, [.null, .null, .int (nI 0), .int (nI 0), .int (nI 0), .int (nI 0), .int (nI 0), .int (nI 0)]))] ++ tW tk q0 u1 0 (fun _ => 0)) := X
  refine g_putF (v := .ref q0) (ft := .object "AspenLine$Tape") C0 X kX2 0 0 tb132 rfl rfl rfl hnm rfl rfl rfl rfl rfl dX2_init_12 (fun H locs X => ?_)
  have X : Hx D zA zs H locs ([(a, .inr (2, [.ref q0, .null, .int (nI 0), .int (nI 0), .int (nI 0), .int (nI 0), .int (nI 0), .int (nI 0)]))] ++ tW tk q0 u1 0 (fun _ => 0)) := X
  refine lv_aload_n hx hb dX2_init_15 rfl (lv_at hl 0 rfl) ?_
  refine g_new (fs := [.int (nI 0), .null, .int (nI 0), .null, .null, .null, .int (nI 0), .int (nI 0), .int (nI 0), .null, .null, .null, .null, .null]) C0 X kX1 tb130 tb26 tb2 (fun j hj => by rcases (show j = 0 ∨ j = 1 ∨ j = 2 ∨ j = 3 ∨ j = 4 ∨ j = 5 ∨ j = 6 ∨ j = 7 ∨ j = 8 ∨ j = 9 ∨ j = 10 ∨ j = 11 ∨ j = 12 ∨ j = 13 by omega) with rfl | rfl | rfl | rfl | rfl | rfl | rfl | rfl | rfl | rfl | rfl | rfl | rfl | rfl <;> rfl) (Nat.le_of_ble_eq_true rfl) (Nat.le_of_ble_eq_true rfl) dX2_init_16 (fun q2 H X => ?_)
  refine W.widen (k := 3) (n := 176) (by decide) (by decide) ?_
  have X : Hx D zA zs H locs ([(a, .inr (2, [.ref q0, .null, .int (nI 0), .int (nI 0), .int (nI 0), .int (nI 0), .int (nI 0), .int (nI 0)]))] ++ tW tk q0 u1 0 (fun _ => 0) ++ [(q2, .inr (1, [.int (nI 0), .null, .int (nI 0), .null, .null, .null, .int (nI 0), .int (nI 0), .int (nI 0), .null, .null, .null, .null, .null]))]) := X
  refine lv_dup hx hb dX2_init_19 rfl ?_
  refine g_callIN (As := []) (rest := [.ref q2, .ref a]) (wr := ([(a, .inr (2, [.ref q0, .null, .int (nI 0), .int (nI 0), .int (nI 0), .int (nI 0), .int (nI 0), .int (nI 0)]))] ++ tW tk q0 u1 0 (fun _ => 0))) (C0.sz hl) X (c_X1_init l D tk q2) ⟨tb131, tb29, tb2, ⟨by decide, by decide, rfl⟩, rfl, rfl, Nat.le_of_ble_eq_true rfl, Nat.le_of_ble_eq_true rfl⟩ tb28 rfl rfl [3] [0, 1, 2] rfl rfl rfl rfl rfl (Nat.le_of_ble_eq_true rfl) ⟨Nat.le_of_ble_eq_true rfl, Nat.le_of_ble_eq_true rfl⟩ dX2_init_20 (fun u3 H locs _ X => ?_)
  refine W.widen (k := 12) (n := 239) (by decide) (by decide) ?_
  have X : Hx D zA zs H locs ([(a, .inr (2, [.ref q0, .null, .int (nI 0), .int (nI 0), .int (nI 0), .int (nI 0), .int (nI 0), .int (nI 0)]))] ++ tW tk q0 u1 0 (fun _ => 0) ++ gW tk (hc q2 u3) (fun _ _ => 0) (fun _ => 0) (fun _ => 0)) := X
  refine g_putF (v := .ref q2) (ft := .object "AspenLine$Grove") C0 X kX2 0 1 tb134 rfl rfl rfl hnm rfl rfl rfl rfl rfl dX2_init_23 (fun H locs X => ?_)
  have X : Hx D zA zs H locs ([(a, .inr (2, [.ref q0, .ref q2, .int (nI 0), .int (nI 0), .int (nI 0), .int (nI 0), .int (nI 0), .int (nI 0)]))] ++ tW tk q0 u1 0 (fun _ => 0) ++ gW tk (hc q2 u3) (fun _ _ => 0) (fun _ => 0) (fun _ => 0)) := X
  refine W.widen (k := 12) (n := 239) (by decide) (by decide) ?_
  exact hE (v := ()) ((q0, u1, q2, u3)) rfl trivial (X.sub [0, 1, 2, 3, 4, 5, 6, 7, 8, 9, 10, 11, 12] rfl rfl) dX2_init_26
