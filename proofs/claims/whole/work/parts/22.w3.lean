set_option maxHeartbeats 4000000 in
set_option maxRecDepth 100000 in
theorem c_X1_clear (l : Launch) (D : va_G) (tk : Nat → ClassId) (h : Nat → Nat) (G : Nat → Nat → Nat) (d e : Nat → Nat) : MX l yX1_clear cX1_clear 1 none ⟨0, 0, 0, 0⟩ D (TYS tk) [.ref (h 0)] (gW tk h G d e) (fun (_ : Unit) => True) (fun _ => none) (fun _ => gW tk h (u2 (u2 (u2 (u2 (u2 G 8 0 0) 8 1 0) 4 0 0) 8 2 0) 8 3 0) d e) 0 0 := by
  refine MX.of_v (by decide) rfl ?_
  intro zp ze zs zm za zb zt zc zA zQ ls C0 hnm X hl hE
  have hx := C0.1
  have hb := C0.2.1
  have ht := C0.2.2.2.2.1
  have X : Hx D zA zs zs.heap [] (gW tk h G d e) := X
  have hl : lv_has ls 1 [(0, .ref (h 0))] := hl
  obtain ⟨H, hH⟩ : ∃ H, H = zs.heap := ⟨_, rfl⟩
  rw [← hH] at X ⊢
  obtain ⟨locs, hlo⟩ : ∃ L : List Loc, L = [] := ⟨_, rfl⟩
  rw [← hlo] at X ⊢
  refine lv_aload_n hx hb dX1_clear_0 rfl (lv_at hl 0 rfl) ?_
  refine g_iconst (n := 0) C0 rfl dX1_clear_1 ?_
  refine g_put (v := .int (nI 0)) (ft := .int) C0 X kX1 0 0 tb31 rfl rfl rfl rfl rfl rfl rfl dX1_clear_2 (fun H locs X => ?_)
  have X : Hx D zA zs H locs (gW tk h (u2 G 8 0 0) d e) := X
  refine lv_aload_n hx hb dX1_clear_5 rfl (lv_at hl 0 rfl) ?_
  refine g_iconst (n := 0) C0 rfl dX1_clear_6 ?_
  refine g_put (v := .int (nI 0)) (ft := .int) C0 X kX1 0 2 tb37 rfl rfl rfl rfl rfl rfl rfl dX1_clear_7 (fun H locs X => ?_)
  have X : Hx D zA zs H locs (gW tk h (u2 (u2 G 8 0 0) 8 1 0) d e) := X
  refine lv_aload_n hx hb dX1_clear_10 rfl (lv_at hl 0 rfl) ?_
  refine g_iconst (n := 0) C0 rfl dX1_clear_11 ?_
  refine g_put (v := .int (nI 0)) (ft := .int) C0 X kX1 0 6 tb46 rfl rfl rfl rfl rfl rfl rfl dX1_clear_12 (fun H locs X => ?_)
  have X : Hx D zA zs H locs (gW tk h (u2 (u2 (u2 G 8 0 0) 8 1 0) 4 0 0) d e) := X
  refine lv_aload_n hx hb dX1_clear_15 rfl (lv_at hl 0 rfl) ?_
  refine g_iconst (n := 0) C0 rfl dX1_clear_16 ?_
  refine g_put (v := .int (nI 0)) (ft := .int) C0 X kX1 0 7 tb48 rfl rfl rfl rfl rfl rfl rfl dX1_clear_17 (fun H locs X => ?_)
  have X : Hx D zA zs H locs (gW tk h (u2 (u2 (u2 (u2 G 8 0 0) 8 1 0) 4 0 0) 8 2 0) d e) := X
  refine lv_aload_n hx hb dX1_clear_20 rfl (lv_at hl 0 rfl) ?_
  refine g_iconst (n := 0) C0 rfl dX1_clear_21 ?_
  refine g_put (v := .int (nI 0)) (ft := .int) C0 X kX1 0 8 tb51 rfl rfl rfl rfl rfl rfl rfl dX1_clear_22 (fun H locs X => ?_)
  have X : Hx D zA zs H locs (gW tk h (u2 (u2 (u2 (u2 (u2 G 8 0 0) 8 1 0) 4 0 0) 8 2 0) 8 3 0) d e) := X
  exact hE (v := ()) () rfl trivial X dX1_clear_25
set_option maxHeartbeats 4000000 in
set_option maxRecDepth 100000 in
theorem c_X1_keepFirstTalks (l : Launch) (D : va_G) (tk : Nat → ClassId) (h : Nat → Nat) (G : Nat → Nat → Nat) (d e : Nat → Nat) (x : Nat) : MX l yX1_keepFirstTalks cX1_keepFirstTalks 3 (some .int) ⟨0, 0, 0, 0⟩ D (TYS tk) [.ref (h 0), .int (nI x)] (gW tk h G d e) (fun (_ : Unit) => True) (fun _ => some (.int (nI (G 8 3)))) (fun _ => gW tk h (u2 G 8 3 x) d e) 0 0 := by
  refine MX.of_i (by decide) rfl ?_
  intro zp ze zs zm za zb zt zc zA zQ ls C0 hnm X hl hE
  have hx := C0.1
  have hb := C0.2.1
  have ht := C0.2.2.2.2.1
  have X : Hx D zA zs zs.heap [] (gW tk h G d e) := X
  have hl : lv_has ls 3 [(0, .ref (h 0)), (1, .int (nI x))] := hl
  obtain ⟨H, hH⟩ : ∃ H, H = zs.heap := ⟨_, rfl⟩
  rw [← hH] at X ⊢
  obtain ⟨locs, hlo⟩ : ∃ L : List Loc, L = [] := ⟨_, rfl⟩
  rw [← hlo] at X ⊢
  refine lv_aload_n hx hb dX1_keepFirstTalks_0 rfl (lv_at hl 0 rfl) ?_
  refine g_get (v := .int (nI (G 8 3))) C0 X kX1 0 8 tb51 rfl rfl rfl dX1_keepFirstTalks_1 ?_
  refine lv_istore_n (lv' := [(2, .int (nI (G 8 3))), (0, .ref (h 0)), (1, .int (nI x))]) hx hb dX1_keepFirstTalks_4 rfl hl (by decide) rfl (fun ls hl => ?_)
  refine lv_aload_n hx hb dX1_keepFirstTalks_5 rfl (lv_at hl 1 rfl) ?_
  refine lv_iload_n hx hb dX1_keepFirstTalks_6 rfl (lv_at hl 2 rfl) ?_
  refine g_put (v := .int (nI x)) (ft := .int) C0 X kX1 0 8 tb51 rfl rfl rfl rfl rfl rfl rfl dX1_keepFirstTalks_7 (fun H locs X => ?_)
  have X : Hx D zA zs H locs (gW tk h (u2 G 8 3 x) d e) := X
  refine lv_iload_n hx hb dX1_keepFirstTalks_10 rfl (lv_at hl 0 rfl) ?_
  exact hE (v := nI (G 8 3)) () rfl trivial X dX1_keepFirstTalks_11
set_option maxHeartbeats 4000000 in
set_option maxRecDepth 100000 in
theorem c_X1_become (l : Launch) (D : va_G) (tk : Nat → ClassId) (h : Nat → Nat) (G : Nat → Nat → Nat) (d e : Nat → Nat) (g : Nat → Nat) (K : Nat → Nat → Nat) (d2 e2 : Nat → Nat) : MX l yX1_become cX1_become 2 none ⟨1, 0, 0, 40⟩ D (TYS tk) [.ref (h 0), .ref (g 0)] (gW tk h G d e ++ gW tk g K d2 e2) (fun (_ : Unit) => True) (fun _ => none) (fun _ => gW tk h K d e ++ gW tk g K d2 e2) 0 0 := by
  refine MX.of_v (by decide) rfl ?_
  intro zp ze zs zm za zb zt zc zA zQ ls C0 hnm X hl hE
  have hx := C0.1
  have hb := C0.2.1
  have ht := C0.2.2.2.2.1
  have X : Hx D zA zs zs.heap [] (gW tk h G d e ++ gW tk g K d2 e2) := X
  have hl : lv_has ls 2 [(0, .ref (h 0)), (1, .ref (g 0))] := hl
  obtain ⟨H, hH⟩ : ∃ H, H = zs.heap := ⟨_, rfl⟩
  rw [← hH] at X ⊢
  obtain ⟨locs, hlo⟩ : ∃ L : List Loc, L = [] := ⟨_, rfl⟩
  rw [← hlo] at X ⊢
  refine lv_aload_n hx hb dX1_become_0 rfl (lv_at hl 0 rfl) ?_
  refine lv_aload_n hx hb dX1_become_1 rfl (lv_at hl 1 rfl) ?_
  refine g_get (v := .int (nI (K 8 0))) C0 X kX1 10 0 tb31 rfl rfl rfl dX1_become_2 ?_
  refine g_put (v := .int (nI (K 8 0))) (ft := .int) C0 X kX1 0 0 tb31 rfl rfl rfl rfl rfl rfl rfl dX1_become_5 (fun H locs X => ?_)
  have X : Hx D zA zs H locs (gW tk h (u2 G 8 0 (K 8 0)) d e ++ gW tk g K d2 e2) := X
  refine lv_aload_n hx hb dX1_become_8 rfl (lv_at hl 1 rfl) ?_
  refine g_get (v := .ref (g 1)) C0 X kX1 10 1 tb35 rfl rfl rfl dX1_become_9 ?_
  refine g_iconst (n := 0) C0 rfl dX1_become_12 ?_
  refine lv_aload_n hx hb dX1_become_13 rfl (lv_at hl 0 rfl) ?_
  refine g_get (v := .ref (h 1)) C0 X kX1 0 1 tb35 rfl rfl rfl dX1_become_14 ?_
  refine g_iconst (n := 0) C0 rfl dX1_become_17 ?_
  refine g_bipush (n := 6) C0 (by decide) dX1_become_18 ?_
  refine g_copy C0 X hl tb396 tb398 tb397 tb13 11 1 0 rfl rfl rfl rfl ⟨rfl, rfl⟩ dX1_become_20 (fun H locs X => ?_)
  have X : Hx D zA zs H locs (gW tk h (u3 (u2 G 8 0 (K 8 0)) 0 (K 0)) d e ++ gW tk g K d2 e2) := X
  refine lv_aload_n hx hb dX1_become_23 rfl (lv_at hl 0 rfl) ?_
  refine lv_aload_n hx hb dX1_become_24 rfl (lv_at hl 1 rfl) ?_
  refine g_get (v := .int (nI (K 8 1))) C0 X kX1 10 2 tb37 rfl rfl rfl dX1_become_25 ?_
  refine g_put (v := .int (nI (K 8 1))) (ft := .int) C0 X kX1 0 2 tb37 rfl rfl rfl rfl rfl rfl rfl dX1_become_28 (fun H locs X => ?_)
  have X : Hx D zA zs H locs (gW tk h (u2 (u3 (u2 G 8 0 (K 8 0)) 0 (K 0)) 8 1 (K 8 1)) d e ++ gW tk g K d2 e2) := X
  refine lv_aload_n hx hb dX1_become_31 rfl (lv_at hl 1 rfl) ?_
  refine g_get (v := .ref (g 2)) C0 X kX1 10 3 tb40 rfl rfl rfl dX1_become_32 ?_
  refine g_iconst (n := 0) C0 rfl dX1_become_35 ?_
  refine lv_aload_n hx hb dX1_become_36 rfl (lv_at hl 0 rfl) ?_
  refine g_get (v := .ref (h 2)) C0 X kX1 0 3 tb40 rfl rfl rfl dX1_become_37 ?_
  refine g_iconst (n := 0) C0 rfl dX1_become_40 ?_
  refine g_bipush (n := 9) C0 (by decide) dX1_become_41 ?_
  refine g_copy C0 X hl tb396 tb398 tb397 tb13 12 2 0 rfl rfl rfl rfl ⟨rfl, rfl⟩ dX1_become_43 (fun H locs X => ?_)
  have X : Hx D zA zs H locs (gW tk h (u3 (u2 (u3 (u2 G 8 0 (K 8 0)) 0 (K 0)) 8 1 (K 8 1)) 1 (K 1)) d e ++ gW tk g K d2 e2) := X
  refine lv_aload_n hx hb dX1_become_46 rfl (lv_at hl 1 rfl) ?_
  refine g_get (v := .ref (g 3)) C0 X kX1 10 4 tb42 rfl rfl rfl dX1_become_47 ?_
  refine g_iconst (n := 0) C0 rfl dX1_become_50 ?_
  refine lv_aload_n hx hb dX1_become_51 rfl (lv_at hl 0 rfl) ?_
  refine g_get (v := .ref (h 3)) C0 X kX1 0 4 tb42 rfl rfl rfl dX1_become_52 ?_
  refine g_iconst (n := 0) C0 rfl dX1_become_55 ?_
  refine g_bipush (n := 9) C0 (by decide) dX1_become_56 ?_
  refine g_copy C0 X hl tb396 tb398 tb397 tb13 13 3 0 rfl rfl rfl rfl ⟨rfl, rfl⟩ dX1_become_58 (fun H locs X => ?_)
  have X : Hx D zA zs H locs (gW tk h (u3 (u3 (u2 (u3 (u2 G 8 0 (K 8 0)) 0 (K 0)) 8 1 (K 8 1)) 1 (K 1)) 2 (K 2)) d e ++ gW tk g K d2 e2) := X
  refine lv_aload_n hx hb dX1_become_61 rfl (lv_at hl 1 rfl) ?_
  refine g_get (v := .ref (g 4)) C0 X kX1 10 5 tb44 rfl rfl rfl dX1_become_62 ?_
  refine g_iconst (n := 0) C0 rfl dX1_become_65 ?_
  refine lv_aload_n hx hb dX1_become_66 rfl (lv_at hl 0 rfl) ?_
  refine g_get (v := .ref (h 4)) C0 X kX1 0 5 tb44 rfl rfl rfl dX1_become_67 ?_
  refine g_iconst (n := 0) C0 rfl dX1_become_70 ?_
  refine g_bipush (n := 9) C0 (by decide) dX1_become_71 ?_
  refine g_copy C0 X hl tb396 tb398 tb397 tb13 14 4 0 rfl rfl rfl rfl ⟨rfl, rfl⟩ dX1_become_73 (fun H locs X => ?_)
  have X : Hx D zA zs H locs (gW tk h (u3 (u3 (u3 (u2 (u3 (u2 G 8 0 (K 8 0)) 0 (K 0)) 8 1 (K 8 1)) 1 (K 1)) 2 (K 2)) 3 (K 3)) d e ++ gW tk g K d2 e2) := X
  refine lv_aload_n hx hb dX1_become_76 rfl (lv_at hl 0 rfl) ?_
  refine lv_aload_n hx hb dX1_become_77 rfl (lv_at hl 1 rfl) ?_
  refine g_get (v := .int (nI (K 4 0))) C0 X kX1 10 6 tb46 rfl rfl rfl dX1_become_78 ?_
  refine g_put (v := .int (nI (K 4 0))) (ft := .int) C0 X kX1 0 6 tb46 rfl rfl rfl rfl rfl rfl rfl dX1_become_81 (fun H locs X => ?_)
  have X : Hx D zA zs H locs (gW tk h (u2 (u3 (u3 (u3 (u2 (u3 (u2 G 8 0 (K 8 0)) 0 (K 0)) 8 1 (K 8 1)) 1 (K 1)) 2 (K 2)) 3 (K 3)) 4 0 (K 4 0)) d e ++ gW tk g K d2 e2) := X
  refine lv_aload_n hx hb dX1_become_84 rfl (lv_at hl 0 rfl) ?_
  refine lv_aload_n hx hb dX1_become_85 rfl (lv_at hl 1 rfl) ?_
  refine g_get (v := .int (nI (K 8 2))) C0 X kX1 10 7 tb48 rfl rfl rfl dX1_become_86 ?_
  refine g_put (v := .int (nI (K 8 2))) (ft := .int) C0 X kX1 0 7 tb48 rfl rfl rfl rfl rfl rfl rfl dX1_become_89 (fun H locs X => ?_)
  have X : Hx D zA zs H locs (gW tk h (u2 (u2 (u3 (u3 (u3 (u2 (u3 (u2 G 8 0 (K 8 0)) 0 (K 0)) 8 1 (K 8 1)) 1 (K 1)) 2 (K 2)) 3 (K 3)) 4 0 (K 4 0)) 8 2 (K 8 2)) d e ++ gW tk g K d2 e2) := X
  refine lv_aload_n hx hb dX1_become_92 rfl (lv_at hl 0 rfl) ?_
  refine lv_aload_n hx hb dX1_become_93 rfl (lv_at hl 1 rfl) ?_
  refine g_get (v := .int (nI (K 8 3))) C0 X kX1 10 8 tb51 rfl rfl rfl dX1_become_94 ?_
  refine g_put (v := .int (nI (K 8 3))) (ft := .int) C0 X kX1 0 8 tb51 rfl rfl rfl rfl rfl rfl rfl dX1_become_97 (fun H locs X => ?_)
  have X : Hx D zA zs H locs (gW tk h (u2 (u2 (u2 (u3 (u3 (u3 (u2 (u3 (u2 G 8 0 (K 8 0)) 0 (K 0)) 8 1 (K 8 1)) 1 (K 1)) 2 (K 2)) 3 (K 3)) 4 0 (K 4 0)) 8 2 (K 8 2)) 8 3 (K 8 3)) d e ++ gW tk g K d2 e2) := X
  refine lv_aload_n hx hb dX1_become_100 rfl (lv_at hl 1 rfl) ?_
  refine g_get (v := .ref (g 5)) C0 X kX1 10 9 tb54 rfl rfl rfl dX1_become_101 ?_
  refine g_iconst (n := 0) C0 rfl dX1_become_104 ?_
  refine lv_aload_n hx hb dX1_become_105 rfl (lv_at hl 0 rfl) ?_
  refine g_get (v := .ref (h 5)) C0 X kX1 0 9 tb54 rfl rfl rfl dX1_become_106 ?_
  refine g_iconst (n := 0) C0 rfl dX1_become_109 ?_
  refine g_bipush (n := 6) C0 (by decide) dX1_become_110 ?_
  refine g_copy C0 X hl tb396 tb398 tb397 tb13 15 5 0 rfl rfl rfl rfl ⟨rfl, rfl⟩ dX1_become_112 (fun H locs X => ?_)
  have X : Hx D zA zs H locs (gW tk h (u3 (u2 (u2 (u2 (u3 (u3 (u3 (u2 (u3 (u2 G 8 0 (K 8 0)) 0 (K 0)) 8 1 (K 8 1)) 1 (K 1)) 2 (K 2)) 3 (K 3)) 4 0 (K 4 0)) 8 2 (K 8 2)) 8 3 (K 8 3)) 5 (K 5)) d e ++ gW tk g K d2 e2) := X
  refine lv_aload_n hx hb dX1_become_115 rfl (lv_at hl 1 rfl) ?_
  refine g_get (v := .ref (g 6)) C0 X kX1 10 10 tb56 rfl rfl rfl dX1_become_116 ?_
  refine g_iconst (n := 0) C0 rfl dX1_become_119 ?_
  refine lv_aload_n hx hb dX1_become_120 rfl (lv_at hl 0 rfl) ?_
  refine g_get (v := .ref (h 6)) C0 X kX1 0 10 tb56 rfl rfl rfl dX1_become_121 ?_
  refine g_iconst (n := 0) C0 rfl dX1_become_124 ?_
  refine g_bipush (n := 6) C0 (by decide) dX1_become_125 ?_
  refine g_copy C0 X hl tb396 tb398 tb397 tb13 16 6 0 rfl rfl rfl rfl ⟨rfl, rfl⟩ dX1_become_127 (fun H locs X => ?_)
  have X : Hx D zA zs H locs (gW tk h (u3 (u3 (u2 (u2 (u2 (u3 (u3 (u3 (u2 (u3 (u2 G 8 0 (K 8 0)) 0 (K 0)) 8 1 (K 8 1)) 1 (K 1)) 2 (K 2)) 3 (K 3)) 4 0 (K 4 0)) 8 2 (K 8 2)) 8 3 (K 8 3)) 5 (K 5)) 6 (K 6)) d e ++ gW tk g K d2 e2) := X
  refine lv_aload_n hx hb dX1_become_130 rfl (lv_at hl 1 rfl) ?_
  refine g_get (v := .ref (g 7)) C0 X kX1 10 11 tb58 rfl rfl rfl dX1_become_131 ?_
  refine g_iconst (n := 0) C0 rfl dX1_become_134 ?_
  refine lv_aload_n hx hb dX1_become_135 rfl (lv_at hl 0 rfl) ?_
  refine g_get (v := .ref (h 7)) C0 X kX1 0 11 tb58 rfl rfl rfl dX1_become_136 ?_
  refine g_iconst (n := 0) C0 rfl dX1_become_139 ?_
  refine g_bipush (n := 6) C0 (by decide) dX1_become_140 ?_
  refine g_copy C0 X hl tb396 tb398 tb397 tb13 17 7 0 rfl rfl rfl rfl ⟨rfl, rfl⟩ dX1_become_142 (fun H locs X => ?_)
  have X : Hx D zA zs H locs (gW tk h (u3 (u3 (u3 (u2 (u2 (u2 (u3 (u3 (u3 (u2 (u3 (u2 G 8 0 (K 8 0)) 0 (K 0)) 8 1 (K 8 1)) 1 (K 1)) 2 (K 2)) 3 (K 3)) 4 0 (K 4 0)) 8 2 (K 8 2)) 8 3 (K 8 3)) 5 (K 5)) 6 (K 6)) 7 (K 7)) d e ++ gW tk g K d2 e2) := X
  exact hE (v := ()) () rfl trivial X dX1_become_145
set_option maxHeartbeats 4000000 in
set_option maxRecDepth 100000 in
theorem c_X1_addTree (l : Launch) (D : va_G) (tk : Nat → ClassId) (h : Nat → Nat) (G : Nat → Nat → Nat) (d e : Nat → Nat) (x : Nat) (hn : G 8 0 < 6) : MX l yX1_addTree cX1_addTree 2 (some .int) ⟨0, 0, 0, 0⟩ D (TYS tk) [.ref (h 0), .int (nI x)] (gW tk h G d e) (fun (_ : Unit) => True) (fun _ => some (.int (nI (G 8 0 + 1)))) (fun _ => gW tk h (u2 (u2 G 0 (G 8 0) x) 8 0 (G 8 0 + 1)) d e) 0 0 := by
  refine MX.of_i (by decide) rfl ?_
  intro zp ze zs zm za zb zt zc zA zQ ls C0 hnm X hl hE
  have hx := C0.1
  have hb := C0.2.1
  have ht := C0.2.2.2.2.1
  have X : Hx D zA zs zs.heap [] (gW tk h G d e) := X
  have hl : lv_has ls 2 [(0, .ref (h 0)), (1, .int (nI x))] := hl
  obtain ⟨H, hH⟩ : ∃ H, H = zs.heap := ⟨_, rfl⟩
  rw [← hH] at X ⊢
  obtain ⟨locs, hlo⟩ : ∃ L : List Loc, L = [] := ⟨_, rfl⟩
  rw [← hlo] at X ⊢
  refine lv_aload_n hx hb dX1_addTree_0 rfl (lv_at hl 0 rfl) ?_
  refine g_get (v := .int (nI (G 8 0))) C0 X kX1 0 0 tb31 rfl rfl rfl dX1_addTree_1 ?_
  refine g_bipush (n := 6) C0 (by decide) dX1_addTree_4 ?_
  refine g_icmp_lt (x := G 8 0) (y := 6) (tgt := 12) C0 (by omega) (by omega) dX1_addTree_6 rfl (fun c1 => ?_) (fun c2 => ?_)
  · refine lv_aload_n hx hb dX1_addTree_12 rfl (lv_at hl 0 rfl) ?_
    refine g_get (v := .ref (h 1)) C0 X kX1 0 1 tb35 rfl rfl rfl dX1_addTree_13 ?_
    refine lv_aload_n hx hb dX1_addTree_16 rfl (lv_at hl 0 rfl) ?_
    refine g_get (v := .int (nI (G 8 0))) C0 X kX1 0 0 tb31 rfl rfl rfl dX1_addTree_17 ?_
    refine lv_iload_n hx hb dX1_addTree_20 rfl (lv_at hl 1 rfl) ?_
    refine g_iast (g := nf (u1 (G 0) (G 8 0) x)) (i := G 8 0) C0 X 1 0 rfl rfl (by omega) rfl (nf_u1 _ _ _) dX1_addTree_21 (fun H locs X => ?_)
    have X : Hx D zA zs H locs (gW tk h (u2 G 0 (G 8 0) x) d e) := X
    refine lv_aload_n hx hb dX1_addTree_22 rfl (lv_at hl 0 rfl) ?_
    refine lv_dup hx hb dX1_addTree_23 rfl ?_
    refine g_get (v := .int (nI (G 8 0))) C0 X kX1 0 0 tb31 rfl rfl rfl dX1_addTree_24 ?_
    refine g_iconst (n := 1) C0 rfl dX1_addTree_27 ?_
    refine g_iadd (n := G 8 0 + 1) C0 (by first | rfl | omega) dX1_addTree_28 ?_
    refine g_put (v := .int (nI (G 8 0 + 1))) (ft := .int) C0 X kX1 0 0 tb31 rfl rfl rfl rfl rfl rfl rfl dX1_addTree_29 (fun H locs X => ?_)
    have X : Hx D zA zs H locs (gW tk h (u2 (u2 G 0 (G 8 0) x) 8 0 (G 8 0 + 1)) d e) := X
    refine lv_aload_n hx hb dX1_addTree_32 rfl (lv_at hl 0 rfl) ?_
    refine g_get (v := .int (nI (G 8 0 + 1))) C0 X kX1 0 0 tb31 rfl rfl rfl dX1_addTree_33 ?_
    exact hE (v := nI (G 8 0 + 1)) () rfl trivial X dX1_addTree_36
  · omega
set_option maxHeartbeats 4000000 in
set_option maxRecDepth 100000 in
theorem c_X1_addRoot (l : Launch) (D : va_G) (tk : Nat → ClassId) (h : Nat → Nat) (G : Nat → Nat → Nat) (d e : Nat → Nat) (a b L : Nat) (hn : G 8 1 < 9) : MX l yX1_addRoot cX1_addRoot 4 (some .int) ⟨0, 0, 0, 0⟩ D (TYS tk) [.ref (h 0), .int (nI a), .int (nI b), .int (nI L)] (gW tk h G d e) (fun (_ : Unit) => True) (fun _ => some (.int (nI (G 8 1 + 1)))) (fun _ => gW tk h (u2 (u2 (u2 (u2 G 1 (G 8 1) a) 2 (G 8 1) b) 3 (G 8 1) L) 8 1 (G 8 1 + 1)) d e) 0 0 := by
  refine MX.of_i (by decide) rfl ?_
  intro zp ze zs zm za zb zt zc zA zQ ls C0 hnm X hl hE
  have hx := C0.1
  have hb := C0.2.1
  have ht := C0.2.2.2.2.1
  have X : Hx D zA zs zs.heap [] (gW tk h G d e) := X
  have hl : lv_has ls 4 [(0, .ref (h 0)), (1, .int (nI a)), (2, .int (nI b)), (3, .int (nI L))] := hl
  obtain ⟨H, hH⟩ : ∃ H, H = zs.heap := ⟨_, rfl⟩
  rw [← hH] at X ⊢
  obtain ⟨locs, hlo⟩ : ∃ L : List Loc, L = [] := ⟨_, rfl⟩
  rw [← hlo] at X ⊢
  refine lv_aload_n hx hb dX1_addRoot_0 rfl (lv_at hl 0 rfl) ?_
  refine g_get (v := .int (nI (G 8 1))) C0 X kX1 0 2 tb37 rfl rfl rfl dX1_addRoot_1 ?_
  refine g_bipush (n := 9) C0 (by decide) dX1_addRoot_4 ?_
  refine g_icmp_lt (x := G 8 1) (y := 9) (tgt := 12) C0 (by omega) (by omega) dX1_addRoot_6 rfl (fun c1 => ?_) (fun c2 => ?_)
  · refine lv_aload_n hx hb dX1_addRoot_12 rfl (lv_at hl 0 rfl) ?_
    refine g_get (v := .ref (h 2)) C0 X kX1 0 3 tb40 rfl rfl rfl dX1_addRoot_13 ?_
    refine lv_aload_n hx hb dX1_addRoot_16 rfl (lv_at hl 0 rfl) ?_
    refine g_get (v := .int (nI (G 8 1))) C0 X kX1 0 2 tb37 rfl rfl rfl dX1_addRoot_17 ?_
    refine lv_iload_n hx hb dX1_addRoot_20 rfl (lv_at hl 1 rfl) ?_
    refine g_iast (g := nf (u1 (G 1) (G 8 1) a)) (i := G 8 1) C0 X 2 0 rfl rfl (by omega) rfl (nf_u1 _ _ _) dX1_addRoot_21 (fun H locs X => ?_)
    have X : Hx D zA zs H locs (gW tk h (u2 G 1 (G 8 1) a) d e) := X
    refine lv_aload_n hx hb dX1_addRoot_22 rfl (lv_at hl 0 rfl) ?_
    refine g_get (v := .ref (h 3)) C0 X kX1 0 4 tb42 rfl rfl rfl dX1_addRoot_23 ?_
    refine lv_aload_n hx hb dX1_addRoot_26 rfl (lv_at hl 0 rfl) ?_
    refine g_get (v := .int (nI (G 8 1))) C0 X kX1 0 2 tb37 rfl rfl rfl dX1_addRoot_27 ?_
    refine lv_iload_n hx hb dX1_addRoot_30 rfl (lv_at hl 2 rfl) ?_
    refine g_iast (g := nf (u1 (G 2) (G 8 1) b)) (i := G 8 1) C0 X 3 0 rfl rfl (by omega) rfl (nf_u1 _ _ _) dX1_addRoot_31 (fun H locs X => ?_)
    have X : Hx D zA zs H locs (gW tk h (u2 (u2 G 1 (G 8 1) a) 2 (G 8 1) b) d e) := X
    refine lv_aload_n hx hb dX1_addRoot_32 rfl (lv_at hl 0 rfl) ?_
    refine g_get (v := .ref (h 4)) C0 X kX1 0 5 tb44 rfl rfl rfl dX1_addRoot_33 ?_
    refine lv_aload_n hx hb dX1_addRoot_36 rfl (lv_at hl 0 rfl) ?_
    refine g_get (v := .int (nI (G 8 1))) C0 X kX1 0 2 tb37 rfl rfl rfl dX1_addRoot_37 ?_
    refine lv_iload_n hx hb dX1_addRoot_40 rfl (lv_at hl 3 rfl) ?_
    refine g_iast (g := nf (u1 (G 3) (G 8 1) L)) (i := G 8 1) C0 X 4 0 rfl rfl (by omega) rfl (nf_u1 _ _ _) dX1_addRoot_41 (fun H locs X => ?_)
    have X : Hx D zA zs H locs (gW tk h (u2 (u2 (u2 G 1 (G 8 1) a) 2 (G 8 1) b) 3 (G 8 1) L) d e) := X
    refine lv_aload_n hx hb dX1_addRoot_42 rfl (lv_at hl 0 rfl) ?_
    refine lv_dup hx hb dX1_addRoot_43 rfl ?_
    refine g_get (v := .int (nI (G 8 1))) C0 X kX1 0 2 tb37 rfl rfl rfl dX1_addRoot_44 ?_
    refine g_iconst (n := 1) C0 rfl dX1_addRoot_47 ?_
    refine g_iadd (n := G 8 1 + 1) C0 (by first | rfl | omega) dX1_addRoot_48 ?_
    refine g_put (v := .int (nI (G 8 1 + 1))) (ft := .int) C0 X kX1 0 2 tb37 rfl rfl rfl rfl rfl rfl rfl dX1_addRoot_49 (fun H locs X => ?_)
    have X : Hx D zA zs H locs (gW tk h (u2 (u2 (u2 (u2 G 1 (G 8 1) a) 2 (G 8 1) b) 3 (G 8 1) L) 8 1 (G 8 1 + 1)) d e) := X
    refine lv_aload_n hx hb dX1_addRoot_52 rfl (lv_at hl 0 rfl) ?_
    refine g_get (v := .int (nI (G 8 1 + 1))) C0 X kX1 0 2 tb37 rfl rfl rfl dX1_addRoot_53 ?_
    exact hE (v := nI (G 8 1 + 1)) () rfl trivial X dX1_addRoot_56
  · omega
set_option maxHeartbeats 4000000 in
set_option maxRecDepth 100000 in
theorem c_addRootF (l : Launch) (D : va_G) (tk : Nat → ClassId) (h : Nat → Nat) (G : Nat → Nat → Nat) (d e : Nat → Nat) (a b L : Nat) (hn : 9 ≤ G 8 1 ∧ G 8 1 < 2 ^ 31) : MX l yX1_addRoot cX1_addRoot 4 (some .int) ⟨0, 0, 0, 0⟩ D (TYS tk) [.ref (h 0), .int (nI a), .int (nI b), .int (nI L)] (gW tk h G d e) (fun (_ : Unit) => True) (fun _ => some (.int (-3))) (fun _ => gW tk h G d e) 0 0 := by
  refine MX.of_i (by decide) rfl ?_
  intro zp ze zs zm za zb zt zc zA zQ ls C0 hnm X hl hE
  have hx := C0.1
  have hb := C0.2.1
  have ht := C0.2.2.2.2.1
  have X : Hx D zA zs zs.heap [] (gW tk h G d e) := X
  have hl : lv_has ls 4 [(0, .ref (h 0)), (1, .int (nI a)), (2, .int (nI b)), (3, .int (nI L))] := hl
  obtain ⟨H, hH⟩ : ∃ H, H = zs.heap := ⟨_, rfl⟩
  rw [← hH] at X ⊢
  obtain ⟨locs, hlo⟩ : ∃ L : List Loc, L = [] := ⟨_, rfl⟩
  rw [← hlo] at X ⊢
  refine lv_aload_n hx hb dX1_addRoot_0 rfl (lv_at hl 0 rfl) ?_
  refine g_get (v := .int (nI (G 8 1))) C0 X kX1 0 2 tb37 rfl rfl rfl dX1_addRoot_1 ?_
  refine g_bipush (n := 9) C0 (by decide) dX1_addRoot_4 ?_
  refine g_icmp_lt (x := G 8 1) (y := 9) (tgt := 12) C0 (by omega) (by omega) dX1_addRoot_6 rfl (fun c1 => ?_) (fun c2 => ?_)
  · omega
  · refine lv_bipush (v := (-3)) hx hb dX1_addRoot_9 (by decide) ?_
    exact hE (v := (-3)) () rfl trivial X dX1_addRoot_11
set_option maxHeartbeats 4000000 in
set_option maxRecDepth 100000 in
theorem c_X1_addTalk (l : Launch) (D : va_G) (tk : Nat → ClassId) (h : Nat → Nat) (G : Nat → Nat → Nat) (d e : Nat → Nat) (a b L : Nat) (hn : G 8 3 < 6) : MX l yX1_addTalk cX1_addTalk 4 (some .int) ⟨0, 0, 0, 0⟩ D (TYS tk) [.ref (h 0), .int (nI a), .int (nI b), .int (nI L)] (gW tk h G d e) (fun (_ : Unit) => True) (fun _ => some (.int (nI (G 8 3 + 1)))) (fun _ => gW tk h (u2 (u2 (u2 (u2 G 5 (G 8 3) a) 6 (G 8 3) b) 7 (G 8 3) L) 8 3 (G 8 3 + 1)) d e) 0 0 := by
  refine MX.of_i (by decide) rfl ?_
  intro zp ze zs zm za zb zt zc zA zQ ls C0 hnm X hl hE
  have hx := C0.1
  have hb := C0.2.1
  have ht := C0.2.2.2.2.1
  have X : Hx D zA zs zs.heap [] (gW tk h G d e) := X
  have hl : lv_has ls 4 [(0, .ref (h 0)), (1, .int (nI a)), (2, .int (nI b)), (3, .int (nI L))] := hl
  obtain ⟨H, hH⟩ : ∃ H, H = zs.heap := ⟨_, rfl⟩
  rw [← hH] at X ⊢
  obtain ⟨locs, hlo⟩ : ∃ L : List Loc, L = [] := ⟨_, rfl⟩
  rw [← hlo] at X ⊢
  refine lv_aload_n hx hb dX1_addTalk_0 rfl (lv_at hl 0 rfl) ?_
  refine g_get (v := .int (nI (G 8 3))) C0 X kX1 0 8 tb51 rfl rfl rfl dX1_addTalk_1 ?_
  refine g_bipush (n := 6) C0 (by decide) dX1_addTalk_4 ?_
  refine g_icmp_lt (x := G 8 3) (y := 6) (tgt := 12) C0 (by omega) (by omega) dX1_addTalk_6 rfl (fun c1 => ?_) (fun c2 => ?_)
  · refine lv_aload_n hx hb dX1_addTalk_12 rfl (lv_at hl 0 rfl) ?_
    refine g_get (v := .ref (h 5)) C0 X kX1 0 9 tb54 rfl rfl rfl dX1_addTalk_13 ?_
    refine lv_aload_n hx hb dX1_addTalk_16 rfl (lv_at hl 0 rfl) ?_
    refine g_get (v := .int (nI (G 8 3))) C0 X kX1 0 8 tb51 rfl rfl rfl dX1_addTalk_17 ?_
    refine lv_iload_n hx hb dX1_addTalk_20 rfl (lv_at hl 1 rfl) ?_
    refine g_iast (g := nf (u1 (G 5) (G 8 3) a)) (i := G 8 3) C0 X 5 0 rfl rfl (by omega) rfl (nf_u1 _ _ _) dX1_addTalk_21 (fun H locs X => ?_)
    have X : Hx D zA zs H locs (gW tk h (u2 G 5 (G 8 3) a) d e) := X
    refine lv_aload_n hx hb dX1_addTalk_22 rfl (lv_at hl 0 rfl) ?_
    refine g_get (v := .ref (h 6)) C0 X kX1 0 10 tb56 rfl rfl rfl dX1_addTalk_23 ?_
    refine lv_aload_n hx hb dX1_addTalk_26 rfl (lv_at hl 0 rfl) ?_
    refine g_get (v := .int (nI (G 8 3))) C0 X kX1 0 8 tb51 rfl rfl rfl dX1_addTalk_27 ?_
    refine lv_iload_n hx hb dX1_addTalk_30 rfl (lv_at hl 2 rfl) ?_
    refine g_iast (g := nf (u1 (G 6) (G 8 3) b)) (i := G 8 3) C0 X 6 0 rfl rfl (by omega) rfl (nf_u1 _ _ _) dX1_addTalk_31 (fun H locs X => ?_)
    have X : Hx D zA zs H locs (gW tk h (u2 (u2 G 5 (G 8 3) a) 6 (G 8 3) b) d e) := X
    refine lv_aload_n hx hb dX1_addTalk_32 rfl (lv_at hl 0 rfl) ?_
    refine g_get (v := .ref (h 7)) C0 X kX1 0 11 tb58 rfl rfl rfl dX1_addTalk_33 ?_
    refine lv_aload_n hx hb dX1_addTalk_36 rfl (lv_at hl 0 rfl) ?_
    refine g_get (v := .int (nI (G 8 3))) C0 X kX1 0 8 tb51 rfl rfl rfl dX1_addTalk_37 ?_
    refine lv_iload_n hx hb dX1_addTalk_40 rfl (lv_at hl 3 rfl) ?_
    refine g_iast (g := nf (u1 (G 7) (G 8 3) L)) (i := G 8 3) C0 X 7 0 rfl rfl (by omega) rfl (nf_u1 _ _ _) dX1_addTalk_41 (fun H locs X => ?_)
    have X : Hx D zA zs H locs (gW tk h (u2 (u2 (u2 G 5 (G 8 3) a) 6 (G 8 3) b) 7 (G 8 3) L) d e) := X
    refine lv_aload_n hx hb dX1_addTalk_42 rfl (lv_at hl 0 rfl) ?_
    refine lv_dup hx hb dX1_addTalk_43 rfl ?_
    refine g_get (v := .int (nI (G 8 3))) C0 X kX1 0 8 tb51 rfl rfl rfl dX1_addTalk_44 ?_
    refine g_iconst (n := 1) C0 rfl dX1_addTalk_47 ?_
    refine g_iadd (n := G 8 3 + 1) C0 (by first | rfl | omega) dX1_addTalk_48 ?_
    refine g_put (v := .int (nI (G 8 3 + 1))) (ft := .int) C0 X kX1 0 8 tb51 rfl rfl rfl rfl rfl rfl rfl dX1_addTalk_49 (fun H locs X => ?_)
    have X : Hx D zA zs H locs (gW tk h (u2 (u2 (u2 (u2 G 5 (G 8 3) a) 6 (G 8 3) b) 7 (G 8 3) L) 8 3 (G 8 3 + 1)) d e) := X
    refine lv_aload_n hx hb dX1_addTalk_52 rfl (lv_at hl 0 rfl) ?_
    refine g_get (v := .int (nI (G 8 3 + 1))) C0 X kX1 0 8 tb51 rfl rfl rfl dX1_addTalk_53 ?_
    exact hE (v := nI (G 8 3 + 1)) () rfl trivial X dX1_addTalk_56
  · omega
set_option maxHeartbeats 4000000 in
set_option maxRecDepth 100000 in
theorem c_addTalkF (l : Launch) (D : va_G) (tk : Nat → ClassId) (h : Nat → Nat) (G : Nat → Nat → Nat) (d e : Nat → Nat) (a b L : Nat) (hn : 6 ≤ G 8 3 ∧ G 8 3 < 2 ^ 31) : MX l yX1_addTalk cX1_addTalk 4 (some .int) ⟨0, 0, 0, 0⟩ D (TYS tk) [.ref (h 0), .int (nI a), .int (nI b), .int (nI L)] (gW tk h G d e) (fun (_ : Unit) => True) (fun _ => some (.int (-3))) (fun _ => gW tk h G d e) 0 0 := by
  refine MX.of_i (by decide) rfl ?_
  intro zp ze zs zm za zb zt zc zA zQ ls C0 hnm X hl hE
  have hx := C0.1
  have hb := C0.2.1
  have ht := C0.2.2.2.2.1
  have X : Hx D zA zs zs.heap [] (gW tk h G d e) := X
  have hl : lv_has ls 4 [(0, .ref (h 0)), (1, .int (nI a)), (2, .int (nI b)), (3, .int (nI L))] := hl
  obtain ⟨H, hH⟩ : ∃ H, H = zs.heap := ⟨_, rfl⟩
  rw [← hH] at X ⊢
  obtain ⟨locs, hlo⟩ : ∃ L : List Loc, L = [] := ⟨_, rfl⟩
  rw [← hlo] at X ⊢
  refine lv_aload_n hx hb dX1_addTalk_0 rfl (lv_at hl 0 rfl) ?_
  refine g_get (v := .int (nI (G 8 3))) C0 X kX1 0 8 tb51 rfl rfl rfl dX1_addTalk_1 ?_
  refine g_bipush (n := 6) C0 (by decide) dX1_addTalk_4 ?_
  refine g_icmp_lt (x := G 8 3) (y := 6) (tgt := 12) C0 (by omega) (by omega) dX1_addTalk_6 rfl (fun c1 => ?_) (fun c2 => ?_)
  · omega
  · refine lv_bipush (v := (-3)) hx hb dX1_addTalk_9 (by decide) ?_
    exact hE (v := (-3)) () rfl trivial X dX1_addTalk_11
set_option maxHeartbeats 4000000 in
set_option maxRecDepth 100000 in
theorem c_X0_below (l : Launch) (D : va_G) (tk : Nat → ClassId) (a : Nat) (ch am0 : Int32) (x : Nat) : MX l yX0_below cX0_below 2 none ⟨0, 0, 0, 0⟩ D (TYS tk) [.ref a, .int (nI x)] (bW a ch am0) (fun (_ : Unit) => True) (fun _ => none) (fun _ => bW a (-4) (nI x)) 0 0 := by
  refine MX.of_v (by decide) rfl ?_
  intro zp ze zs zm za zb zt zc zA zQ ls C0 hnm X hl hE
  have hx := C0.1
  have hb := C0.2.1
  have ht := C0.2.2.2.2.1
  have X : Hx D zA zs zs.heap [] (bW a ch am0) := X
  have hl : lv_has ls 2 [(0, .ref a), (1, .int (nI x))] := hl
  obtain ⟨H, hH⟩ : ∃ H, H = zs.heap := ⟨_, rfl⟩
  rw [← hH] at X ⊢
  obtain ⟨locs, hlo⟩ : ∃ L : List Loc, L = [] := ⟨_, rfl⟩
  rw [← hlo] at X ⊢
  refine lv_aload_n hx hb dX0_below_0 rfl (lv_at hl 0 rfl) ?_
  refine lv_bipush (v := (-4)) hx hb dX0_below_1 (by decide) ?_
  refine g_put (v := .int (-4)) (ft := .int) C0 X kX0 0 0 tb99 rfl rfl rfl rfl rfl rfl rfl dX0_below_3 (fun H locs X => ?_)
  have X : Hx D zA zs H locs (bW a (-4) am0) := X
  refine lv_aload_n hx hb dX0_below_6 rfl (lv_at hl 0 rfl) ?_
  refine lv_iload_n hx hb dX0_below_7 rfl (lv_at hl 1 rfl) ?_
  refine g_put (v := .int (nI x)) (ft := .int) C0 X kX0 0 1 tb100 rfl rfl rfl rfl rfl rfl rfl dX0_below_8 (fun H locs X => ?_)
  have X : Hx D zA zs H locs (bW a (-4) (nI x)) := X
  exact hE (v := ()) () rfl trivial X dX0_below_11
set_option maxHeartbeats 4000000 in
set_option maxRecDepth 100000 in
theorem c_X0_offer (l : Launch) (D : va_G) (tk : Nat → ClassId) (a : Nat) (ch : Int32) (am : Nat) (c1 x : Nat) (hx1 : x < 2 ^ 31) (ha1 : am < 2 ^ 31) : MX l yX0_offer cX0_offer 3 none ⟨0, 0, 0, 0⟩ D (TYS tk) [.ref a, .int (nI c1), .int (nI x)] (bW a ch (nI am)) (fun (_ : Unit) => True) (fun _ => none) (fun _ => bW a (if x < am then nI c1 else ch) (nI (if x < am then x else am))) 0 0 := by
  refine MX.of_v (by decide) rfl ?_
  intro zp ze zs zm za zb zt zc zA zQ ls C0 hnm X hl hE
  have hx := C0.1
  have hb := C0.2.1
  have ht := C0.2.2.2.2.1
  have X : Hx D zA zs zs.heap [] (bW a ch (nI am)) := X
  have hl : lv_has ls 3 [(0, .ref a), (1, .int (nI c1)), (2, .int (nI x))] := hl
  obtain ⟨H, hH⟩ : ∃ H, H = zs.heap := ⟨_, rfl⟩
  rw [← hH] at X ⊢
  obtain ⟨locs, hlo⟩ : ∃ L : List Loc, L = [] := ⟨_, rfl⟩
  rw [← hlo] at X ⊢
  refine lv_iload_n hx hb dX0_offer_0 rfl (lv_at hl 2 rfl) ?_
  refine lv_aload_n hx hb dX0_offer_1 rfl (lv_at hl 0 rfl) ?_
  refine g_get (v := .int (nI am)) C0 X kX0 0 1 tb100 rfl rfl rfl dX0_offer_2 ?_
  refine g_icmp_ge (x := x) (y := am) (tgt := 18) C0 (by omega) (by omega) dX0_offer_5 rfl (fun c1 => ?_) (fun c2 => ?_)
  · exact hE (v := ()) () rfl trivial (X.to (by first | rw [if_pos c1, if_pos c1] | rw [if_neg (by omega), if_neg (by omega)])) dX0_offer_18
  · refine lv_aload_n hx hb dX0_offer_8 rfl (lv_at hl 0 rfl) ?_
    refine lv_iload_n hx hb dX0_offer_9 rfl (lv_at hl 1 rfl) ?_
    refine g_put (v := .int (nI c1)) (ft := .int) C0 X kX0 0 0 tb99 rfl rfl rfl rfl rfl rfl rfl dX0_offer_10 (fun H locs X => ?_)
    have X : Hx D zA zs H locs (bW a (nI c1) (nI am)) := X
    refine lv_aload_n hx hb dX0_offer_13 rfl (lv_at hl 0 rfl) ?_
    refine lv_iload_n hx hb dX0_offer_14 rfl (lv_at hl 2 rfl) ?_
    refine g_put (v := .int (nI x)) (ft := .int) C0 X kX0 0 1 tb100 rfl rfl rfl rfl rfl rfl rfl dX0_offer_15 (fun H locs X => ?_)
    have X : Hx D zA zs H locs (bW a (nI c1) (nI x)) := X
    exact hE (v := ()) () rfl trivial (X.to (by first | rw [if_pos c2, if_pos c2] | rw [if_neg (by omega), if_neg (by omega)])) dX0_offer_18
set_option maxHeartbeats 4000000 in
set_option maxRecDepth 100000 in
theorem c_X0_isNone (l : Launch) (D : va_G) (tk : Nat → ClassId) (a : Nat) (ch : Int32) (am : Nat) : MX l yX0_isNone cX0_isNone 1 (some .boolean) ⟨0, 0, 0, 0⟩ D (TYS tk) [.ref a] (bW a ch (nI am)) (fun (_ : Unit) => True) (fun _ => some (.int (nI (rb (decide (ch = -4)))))) (fun _ => bW a ch (nI am)) 0 0 := by
  refine MX.of_z (by decide) rfl ?_
  intro zp ze zs zm za zb zt zc zA zQ ls C0 hnm X hl hE
  have hx := C0.1
  have hb := C0.2.1
  have ht := C0.2.2.2.2.1
  have X : Hx D zA zs zs.heap [] (bW a ch (nI am)) := X
  have hl : lv_has ls 1 [(0, .ref a)] := hl
  obtain ⟨H, hH⟩ : ∃ H, H = zs.heap := ⟨_, rfl⟩
  rw [← hH] at X ⊢
  obtain ⟨locs, hlo⟩ : ∃ L : List Loc, L = [] := ⟨_, rfl⟩
  rw [← hlo] at X ⊢
  refine lv_aload_n hx hb dX0_isNone_0 rfl (lv_at hl 0 rfl) ?_
  refine g_get (v := .int ch) C0 X kX0 0 0 tb99 rfl rfl rfl dX0_isNone_1 ?_
  refine lv_bipush (v := (-4)) hx hb dX0_isNone_4 (by decide) ?_
  refine lv_icmp_ne (tgt := 13) hx hb dX0_isNone_6 rfl (fun c1 => ?_) (fun c2 => ?_)
  · refine g_iconst (n := 0) C0 rfl dX0_isNone_13 ?_
    exact hE (v := false) () (by first | rw [decide_eq_true c1] | rw [decide_eq_false c1]) trivial X dX0_isNone_14
  · refine g_iconst (n := 1) C0 rfl dX0_isNone_9 ?_
    refine lv_goto (tgt := 14) hx hb dX0_isNone_10 (by decide) ?_
    exact hE (v := true) () (by first | rw [decide_eq_true c2] | rw [decide_eq_false c2]) trivial X dX0_isNone_14
set_option maxHeartbeats 4000000 in
set_option maxRecDepth 100000 in
theorem c_X0_told (l : Launch) (D : va_G) (tk : Nat → ClassId) (a : Nat) (ch : Int32) (am : Nat) (x : Nat) (hx1 : x < 2 ^ 31) : MX l yX0_told cX0_told 2 (some .int) ⟨1, 0, 0, 20⟩ D (TYS tk) [.ref a, .int (nI x)] (bW a ch (nI am)) (fun (_ : Unit) => True) (fun _ => some (.int (if x = 0 ∨ ch = -4 then ch else nI am))) (fun _ => bW a ch (nI am)) 0 0 := by
  refine MX.of_i (by decide) rfl ?_
  intro zp ze zs zm za zb zt zc zA zQ ls C0 hnm X hl hE
  have hx := C0.1
  have hb := C0.2.1
  have ht := C0.2.2.2.2.1
  have X : Hx D zA zs zs.heap [] (bW a ch (nI am)) := X
  have hl : lv_has ls 2 [(0, .ref a), (1, .int (nI x))] := hl
  obtain ⟨H, hH⟩ : ∃ H, H = zs.heap := ⟨_, rfl⟩
  rw [← hH] at X ⊢
  obtain ⟨locs, hlo⟩ : ∃ L : List Loc, L = [] := ⟨_, rfl⟩
  rw [← hlo] at X ⊢
  refine lv_iload_n hx hb dX0_told_0 rfl (lv_at hl 1 rfl) ?_
  refine g_ifeq (x := x) (tgt := 11) C0 (by omega) dX0_told_1 rfl (fun c1 => ?_) (fun c2 => ?_)
  · refine lv_aload_n hx hb dX0_told_11 rfl (lv_at hl 0 rfl) ?_
    refine g_get (v := .int ch) C0 X kX0 0 0 tb99 rfl rfl rfl dX0_told_12 ?_
    refine lv_goto (tgt := 22) hx hb dX0_told_15 (by decide) ?_
    exact hE (v := ch) () (by first | rw [if_pos (Or.inl c1)] | rw [if_pos (Or.inr (of_decide_eq_true c1))] | rw [if_neg (fun q => q.elim (by omega) (of_decide_eq_false c1))]) trivial X dX0_told_22
  · refine lv_aload_n hx hb dX0_told_4 rfl (lv_at hl 0 rfl) ?_
    refine g_callV (As := []) (rest := []) (wr := []) (C0.sz hl) X (c_X0_isNone l D tk a ch am) ⟨tb597, tb600, tb3, ⟨by decide, by decide, rfl⟩, rfl, rfl, Nat.le_of_ble_eq_true rfl, Nat.le_of_ble_eq_true rfl⟩ tb598 tb599 0 0 rfl rfl rfl rfl [0] [] rfl rfl rfl rfl rfl (Nat.le_of_ble_eq_true rfl) ⟨Nat.le_of_ble_eq_true rfl, Nat.le_of_ble_eq_true rfl⟩ dX0_told_5 (fun _ H locs _ X => ?_)
    have X : Hx D zA zs H locs (bW a ch (nI am)) := X
    refine g_ifeqB (x := decide (ch = -4)) (tgt := 18) C0 dX0_told_8 rfl (fun c3 => ?_) (fun c4 => ?_)
    · refine lv_aload_n hx hb dX0_told_18 rfl (lv_at hl 0 rfl) ?_
      refine g_get (v := .int (nI am)) C0 X kX0 0 1 tb100 rfl rfl rfl dX0_told_19 ?_
      exact hE (v := nI am) () (by first | rw [if_pos (Or.inl c3)] | rw [if_pos (Or.inr (of_decide_eq_true c3))] | rw [if_neg (fun q => q.elim (by omega) (of_decide_eq_false c3))]) trivial X dX0_told_22
    · refine lv_aload_n hx hb dX0_told_11 rfl (lv_at hl 0 rfl) ?_
      refine g_get (v := .int ch) C0 X kX0 0 0 tb99 rfl rfl rfl dX0_told_12 ?_
      refine lv_goto (tgt := 22) hx hb dX0_told_15 (by decide) ?_
      exact hE (v := ch) () (by first | rw [if_pos (Or.inl c4)] | rw [if_pos (Or.inr (of_decide_eq_true c4))] | rw [if_neg (fun q => q.elim (by omega) (of_decide_eq_false c4))]) trivial X dX0_told_22
set_option maxHeartbeats 4000000 in
set_option maxRecDepth 100000 in
theorem c_X5_keepFirst (l : Launch) (D : va_G) (tk : Nat → ClassId) (a b n : Nat) (t : Nat → Nat) (x : Nat) : MX l yX5_keepFirst cX5_keepFirst 3 (some .int) ⟨0, 0, 0, 0⟩ D (TYS tk) [.ref a, .int (nI x)] (tW tk a b n t) (fun (_ : Unit) => True) (fun _ => some (.int (nI n))) (fun _ => tW tk a b x t) 0 0 := by
  refine MX.of_i (by decide) rfl ?_
  intro zp ze zs zm za zb zt zc zA zQ ls C0 hnm X hl hE
  have hx := C0.1
  have hb := C0.2.1
  have ht := C0.2.2.2.2.1
  have X : Hx D zA zs zs.heap [] (tW tk a b n t) := X
  have hl : lv_has ls 3 [(0, .ref a), (1, .int (nI x))] := hl
  obtain ⟨H, hH⟩ : ∃ H, H = zs.heap := ⟨_, rfl⟩
  rw [← hH] at X ⊢
  obtain ⟨locs, hlo⟩ : ∃ L : List Loc, L = [] := ⟨_, rfl⟩
  rw [← hlo] at X ⊢
  refine lv_aload_n hx hb dX5_keepFirst_0 rfl (lv_at hl 0 rfl) ?_
  refine g_get (v := .int (nI n)) C0 X kX5 0 0 tb119 rfl rfl rfl dX5_keepFirst_1 ?_
  refine lv_istore_n (lv' := [(2, .int (nI n)), (0, .ref a), (1, .int (nI x))]) hx hb dX5_keepFirst_4 rfl hl (by decide) rfl (fun ls hl => ?_)
  refine lv_aload_n hx hb dX5_keepFirst_5 rfl (lv_at hl 1 rfl) ?_
  refine lv_iload_n hx hb dX5_keepFirst_6 rfl (lv_at hl 2 rfl) ?_
  refine g_put (v := .int (nI x)) (ft := .int) C0 X kX5 0 0 tb119 rfl rfl rfl rfl rfl rfl rfl dX5_keepFirst_7 (fun H locs X => ?_)
  have X : Hx D zA zs H locs (tW tk a b x t) := X
  refine lv_iload_n hx hb dX5_keepFirst_10 rfl (lv_at hl 0 rfl) ?_
  exact hE (v := nI n) () rfl trivial X dX5_keepFirst_11
set_option maxHeartbeats 4000000 in
set_option maxRecDepth 100000 in
theorem c_X5_add (l : Launch) (D : va_G) (tk : Nat → ClassId) (a b n : Nat) (t : Nat → Nat) (x : Nat) (hn : n ≤ 160) (hx1 : x < 128) : MX l yX5_add cX5_add 2 (some .int) ⟨0, 0, 0, 0⟩ D (TYS tk) [.ref a, .int (nI x)] (tW tk a b n t) (fun (_ : Unit) => True) (fun _ => some (.int (if n < 160 then nI (n + 1) else -3))) (fun _ => tW tk a b (if n < 160 then n + 1 else n) (if n < 160 then u1 t n x else t)) 0 0 := by
  refine MX.of_i (by decide) rfl ?_
  intro zp ze zs zm za zb zt zc zA zQ ls C0 hnm X hl hE
  have hx := C0.1
  have hb := C0.2.1
  have ht := C0.2.2.2.2.1
  have X : Hx D zA zs zs.heap [] (tW tk a b n t) := X
  have hl : lv_has ls 2 [(0, .ref a), (1, .int (nI x))] := hl
  obtain ⟨H, hH⟩ : ∃ H, H = zs.heap := ⟨_, rfl⟩
  rw [← hH] at X ⊢
  obtain ⟨locs, hlo⟩ : ∃ L : List Loc, L = [] := ⟨_, rfl⟩
  rw [← hlo] at X ⊢
  refine lv_aload_n hx hb dX5_add_0 rfl (lv_at hl 0 rfl) ?_
  refine g_get (v := .int (nI n)) C0 X kX5 0 0 tb119 rfl rfl rfl dX5_add_1 ?_
  refine g_sipush (n := 160) C0 (by decide) dX5_add_4 ?_
  refine g_icmp_lt (x := n) (y := 160) (tgt := 13) C0 (by omega) (by omega) dX5_add_7 rfl (fun c1 => ?_) (fun c2 => ?_)
  · refine lv_aload_n hx hb dX5_add_13 rfl (lv_at hl 0 rfl) ?_
    refine g_get (v := .ref b) C0 X kX5 0 1 tb122 rfl rfl rfl dX5_add_14 ?_
    refine lv_aload_n hx hb dX5_add_17 rfl (lv_at hl 0 rfl) ?_
    refine g_get (v := .int (nI n)) C0 X kX5 0 0 tb119 rfl rfl rfl dX5_add_18 ?_
    refine lv_iload_n hx hb dX5_add_21 rfl (lv_at hl 1 rfl) ?_
    refine g_i2b C0 (by omega) dX5_add_22 ?_
    refine g_bast (g := nf (u1 t n x)) (i := n) C0 X 1 1 rfl rfl (by omega) rfl (by omega) (nf_u1 _ _ _) dX5_add_23 (fun H locs X => ?_)
    have X : Hx D zA zs H locs (tW tk a b n (u1 t n x)) := X
    refine lv_aload_n hx hb dX5_add_24 rfl (lv_at hl 0 rfl) ?_
    refine lv_dup hx hb dX5_add_25 rfl ?_
    refine g_get (v := .int (nI n)) C0 X kX5 0 0 tb119 rfl rfl rfl dX5_add_26 ?_
    refine g_iconst (n := 1) C0 rfl dX5_add_29 ?_
    refine g_iadd (n := n + 1) C0 (by first | rfl | omega) dX5_add_30 ?_
    refine g_put (v := .int (nI (n + 1))) (ft := .int) C0 X kX5 0 0 tb119 rfl rfl rfl rfl rfl rfl rfl dX5_add_31 (fun H locs X => ?_)
    have X : Hx D zA zs H locs (tW tk a b (n + 1) (u1 t n x)) := X
    refine lv_aload_n hx hb dX5_add_34 rfl (lv_at hl 0 rfl) ?_
    refine g_get (v := .int (nI (n + 1))) C0 X kX5 0 0 tb119 rfl rfl rfl dX5_add_35 ?_
    exact hE (v := nI (n + 1)) () (by rw [if_pos c1]) trivial (X.to (by rw [if_pos c1, if_pos c1])) dX5_add_38
  · refine lv_bipush (v := (-3)) hx hb dX5_add_10 (by decide) ?_
    exact hE (v := (-3)) () (by rw [if_neg (by omega)]) trivial (X.to (by rw [if_neg (by omega), if_neg (by omega)])) dX5_add_12
set_option maxHeartbeats 4000000 in
set_option maxRecDepth 100000 in
theorem c_X4_keepFirst (l : Launch) (D : va_G) (tk : Nat → ClassId) (h : Nat → Nat) (n : Nat) (pl lo le : Nat → Nat) (x : Nat) : MX l yX4_keepFirst cX4_keepFirst 3 (some .int) ⟨0, 0, 0, 0⟩ D (TYS tk) [.ref (h 0), .int (nI x)] (sW tk h n pl lo le) (fun (_ : Unit) => True) (fun _ => some (.int (nI n))) (fun _ => sW tk h x pl lo le) 0 0 := by
  refine MX.of_i (by decide) rfl ?_
  intro zp ze zs zm za zb zt zc zA zQ ls C0 hnm X hl hE
  have hx := C0.1
  have hb := C0.2.1
  have ht := C0.2.2.2.2.1
  have X : Hx D zA zs zs.heap [] (sW tk h n pl lo le) := X
  have hl : lv_has ls 3 [(0, .ref (h 0)), (1, .int (nI x))] := hl
  obtain ⟨H, hH⟩ : ∃ H, H = zs.heap := ⟨_, rfl⟩
  rw [← hH] at X ⊢
  obtain ⟨locs, hlo⟩ : ∃ L : List Loc, L = [] := ⟨_, rfl⟩
  rw [← hlo] at X ⊢
  refine lv_aload_n hx hb dX4_keepFirst_0 rfl (lv_at hl 0 rfl) ?_
  refine g_get (v := .int (nI n)) C0 X kX4 0 0 tb167 rfl rfl rfl dX4_keepFirst_1 ?_
  refine lv_istore_n (lv' := [(2, .int (nI n)), (0, .ref (h 0)), (1, .int (nI x))]) hx hb dX4_keepFirst_4 rfl hl (by decide) rfl (fun ls hl => ?_)
  refine lv_aload_n hx hb dX4_keepFirst_5 rfl (lv_at hl 1 rfl) ?_
  refine lv_iload_n hx hb dX4_keepFirst_6 rfl (lv_at hl 2 rfl) ?_
  refine g_put (v := .int (nI x)) (ft := .int) C0 X kX4 0 0 tb167 rfl rfl rfl rfl rfl rfl rfl dX4_keepFirst_7 (fun H locs X => ?_)
  have X : Hx D zA zs H locs (sW tk h x pl lo le) := X
  refine lv_iload_n hx hb dX4_keepFirst_10 rfl (lv_at hl 0 rfl) ?_
  exact hE (v := nI n) () rfl trivial X dX4_keepFirst_11
set_option maxHeartbeats 4000000 in
set_option maxRecDepth 100000 in
theorem c_X4_add (l : Launch) (D : va_G) (tk : Nat → ClassId) (h : Nat → Nat) (n : Nat) (pl lo le : Nat → Nat) (x y : Nat) (hn : n ≤ 6) : MX l yX4_add cX4_add 3 (some .int) ⟨0, 0, 0, 0⟩ D (TYS tk) [.ref (h 0), .int (nI x), .int (nI y)] (sW tk h n pl lo le) (fun (_ : Unit) => True) (fun _ => some (.int (if n < 6 then nI (n + 1) else -3))) (fun _ => sW tk h (if n < 6 then n + 1 else n) (if n < 6 then u1 pl n x else pl) (if n < 6 then u1 lo n y else lo) le) 0 0 := by
  refine MX.of_i (by decide) rfl ?_
  intro zp ze zs zm za zb zt zc zA zQ ls C0 hnm X hl hE
  have hx := C0.1
  have hb := C0.2.1
  have ht := C0.2.2.2.2.1
  have X : Hx D zA zs zs.heap [] (sW tk h n pl lo le) := X
  have hl : lv_has ls 3 [(0, .ref (h 0)), (1, .int (nI x)), (2, .int (nI y))] := hl
  obtain ⟨H, hH⟩ : ∃ H, H = zs.heap := ⟨_, rfl⟩
  rw [← hH] at X ⊢
  obtain ⟨locs, hlo⟩ : ∃ L : List Loc, L = [] := ⟨_, rfl⟩
  rw [← hlo] at X ⊢
  refine lv_aload_n hx hb dX4_add_0 rfl (lv_at hl 0 rfl) ?_
  refine g_get (v := .int (nI n)) C0 X kX4 0 0 tb167 rfl rfl rfl dX4_add_1 ?_
  refine g_bipush (n := 6) C0 (by decide) dX4_add_4 ?_
  refine g_icmp_lt (x := n) (y := 6) (tgt := 12) C0 (by omega) (by omega) dX4_add_6 rfl (fun c1 => ?_) (fun c2 => ?_)
  · refine lv_aload_n hx hb dX4_add_12 rfl (lv_at hl 0 rfl) ?_
    refine g_get (v := .ref (h 1)) C0 X kX4 0 1 tb169 rfl rfl rfl dX4_add_13 ?_
    refine lv_aload_n hx hb dX4_add_16 rfl (lv_at hl 0 rfl) ?_
    refine g_get (v := .int (nI n)) C0 X kX4 0 0 tb167 rfl rfl rfl dX4_add_17 ?_
    refine lv_iload_n hx hb dX4_add_20 rfl (lv_at hl 1 rfl) ?_
    refine g_iast (g := nf (u1 pl n x)) (i := n) C0 X 1 0 rfl rfl (by omega) rfl (nf_u1 _ _ _) dX4_add_21 (fun H locs X => ?_)
    have X : Hx D zA zs H locs (sW tk h n (u1 pl n x) lo le) := X
    refine lv_aload_n hx hb dX4_add_22 rfl (lv_at hl 0 rfl) ?_
    refine g_get (v := .ref (h 2)) C0 X kX4 0 2 tb170 rfl rfl rfl dX4_add_23 ?_
    refine lv_aload_n hx hb dX4_add_26 rfl (lv_at hl 0 rfl) ?_
    refine g_get (v := .int (nI n)) C0 X kX4 0 0 tb167 rfl rfl rfl dX4_add_27 ?_
    refine lv_iload_n hx hb dX4_add_30 rfl (lv_at hl 2 rfl) ?_
    refine g_iast (g := nf (u1 lo n y)) (i := n) C0 X 2 0 rfl rfl (by omega) rfl (nf_u1 _ _ _) dX4_add_31 (fun H locs X => ?_)
    have X : Hx D zA zs H locs (sW tk h n (u1 pl n x) (u1 lo n y) le) := X
    refine lv_aload_n hx hb dX4_add_32 rfl (lv_at hl 0 rfl) ?_
    refine lv_dup hx hb dX4_add_33 rfl ?_
    refine g_get (v := .int (nI n)) C0 X kX4 0 0 tb167 rfl rfl rfl dX4_add_34 ?_
    refine g_iconst (n := 1) C0 rfl dX4_add_37 ?_
    refine g_iadd (n := n + 1) C0 (by first | rfl | omega) dX4_add_38 ?_
    refine g_put (v := .int (nI (n + 1))) (ft := .int) C0 X kX4 0 0 tb167 rfl rfl rfl rfl rfl rfl rfl dX4_add_39 (fun H locs X => ?_)
    have X : Hx D zA zs H locs (sW tk h (n + 1) (u1 pl n x) (u1 lo n y) le) := X
    refine lv_aload_n hx hb dX4_add_42 rfl (lv_at hl 0 rfl) ?_
    refine g_get (v := .int (nI (n + 1))) C0 X kX4 0 0 tb167 rfl rfl rfl dX4_add_43 ?_
    exact hE (v := nI (n + 1)) () (by rw [if_pos c1]) trivial (X.to (by rw [if_pos c1, if_pos c1, if_pos c1])) dX4_add_46
  · refine lv_bipush (v := (-3)) hx hb dX4_add_9 (by decide) ?_
    exact hE (v := (-3)) () (by rw [if_neg (by omega)]) trivial (X.to (by rw [if_neg (by omega), if_neg (by omega), if_neg (by omega)])) dX4_add_11
set_option maxHeartbeats 4000000 in
set_option maxRecDepth 100000 in
theorem c_X4_fit (l : Launch) (D : va_G) (tk : Nat → ClassId) (h : Nat → Nat) (n : Nat) (pl lo le : Nat → Nat) (g : Nat → Nat) (G : Nat → Nat → Nat) (d e : Nat → Nat) (b : Nat) (hw : GW G) (hn : n ≤ 6) (hs : ∀ j, j < n → pl j < G 8 0 ∧ lo j ≤ 120) (hd : ∀ x, x < 6 → d x ≤ 1000) (hb : b ≤ 60) : MX l yX4_fit cX4_fit 5 (some .boolean) ⟨2, 0, 0, 64⟩ D (TYS tk) [.ref (h 0), .ref (g 0), .int (nI b), .ref (g 8)] (sW tk h n pl lo le ++ gW tk g G d e) (fun (_ : Unit) => True) (fun _ => some (.int (nI (rb (fitW (cgv G) d b n pl lo))))) (fun _ => sW tk h n pl lo le ++ gW tk g G d e) 0 0 := by
  refine MX.of_z (by decide) rfl ?_
  intro zp ze zs zm za zb zt zc zA zQ ls C0 hnm X hl hE
  have hx := C0.1
  have hb := C0.2.1
  have ht := C0.2.2.2.2.1
  have X : Hx D zA zs zs.heap [] (sW tk h n pl lo le ++ gW tk g G d e) := X
  have hl : lv_has ls 5 [(0, .ref (h 0)), (1, .ref (g 0)), (2, .int (nI b)), (3, .ref (g 8))] := hl
  obtain ⟨hw1, hw2, hw3, hw4, hw5, hw6, hw7, hw8⟩ := id hw
  obtain ⟨H, hH⟩ : ∃ H, H = zs.heap := ⟨_, rfl⟩
  rw [← hH] at X ⊢
  obtain ⟨locs, hlo⟩ : ∃ L : List Loc, L = [] := ⟨_, rfl⟩
  rw [← hlo] at X ⊢
  refine g_iconst (n := 0) C0 rfl dX4_fit_0 ?_
  refine lv_istore (lv' := [(4, .int (nI 0)), (0, .ref (h 0)), (1, .ref (g 0)), (2, .int (nI b)), (3, .ref (g 8))]) hx hb dX4_fit_1 hl (by decide) rfl (fun ls hl => ?_)
  have J3 : ∀ (fz : Nat) (i : Nat), n - i < fz → ∀ (hi : i ≤ n) (hf : ball (fitP (cgv G) d b pl lo) i = true) (H : Heap) (locs : List Loc) (ls : Array Slot), Hx D zA zs H locs (sW tk h n pl lo le ++ gW tk g G d e) → lv_has ls 5 [(4, .int (nI i)), (0, .ref (h 0)), (1, .ref (g 0)), (2, .int (nI b)), (3, .ref (g 8))] → W zp l ze ⟨2, 0, 0, 64⟩ zs zm za zb zt zc H locs 0 0 zQ (F0 zm 3 ls []) := by
    intro fz
    induction fz with
    | zero => intro i hz; exact absurd hz (Nat.not_lt_zero _)
    | succ fz ih3 =>
      intro i hz3 hi hf H locs ls X hl
      refine lv_iload hx hb dX4_fit_3 (lv_at hl 0 rfl) ?_
      refine lv_aload_n hx hb dX4_fit_5 rfl (lv_at hl 1 rfl) ?_
      refine g_get (v := .int (nI n)) C0 X kX4 0 0 tb167 rfl rfl rfl dX4_fit_6 ?_
      refine g_icmp_ge (x := i) (y := n) (tgt := 43) C0 (by omega) (by omega) dX4_fit_9 rfl (fun c1 => ?_) (fun c2 => ?_)
      · refine g_iconst (n := 1) C0 rfl dX4_fit_43 ?_
        exact hE (v := true) () (by rw [show fitW (cgv G) d b n pl lo = true from by rw [show n = i by omega]; exact hf]) trivial X dX4_fit_44
      · have hs1 := hs i (by omega)
        refine lv_aload_n hx hb dX4_fit_12 rfl (lv_at hl 2 rfl) ?_
        refine lv_aload_n hx hb dX4_fit_13 rfl (lv_at hl 1 rfl) ?_
        refine g_get (v := .ref (h 1)) C0 X kX4 0 1 tb169 rfl rfl rfl dX4_fit_14 ?_
        refine lv_iload hx hb dX4_fit_17 (lv_at hl 0 rfl) ?_
        refine g_iald (v := nI (pl i)) (i := i) C0 X 1 0 rfl rfl (by omega) rfl rfl dX4_fit_19 ?_
        refine lv_iload_n hx hb dX4_fit_20 rfl (lv_at hl 3 rfl) ?_
        refine lv_aload_n hx hb dX4_fit_21 rfl (lv_at hl 4 rfl) ?_
        have hk1 := hw6 (pl i) hs1.1
        have hd1 := hd (pl i) (by omega)
        have hL := loudS_le (G 0 (pl i)) b (d (pl i))
        refine g_callV (As := [.int (nI (pl i)), .int (nI b), .ref (g 8)]) (rest := []) (wr := (sW tk h n pl lo le)) (C0.sz hl) X (c_X1_loudness l D tk g G d e (pl i) b (by first | assumption | omega) (by first | assumption | omega) (by first | assumption | omega) (by first | assumption | omega)) ⟨tb691, tb444, tb2, ⟨by decide, by decide, rfl⟩, rfl, rfl, Nat.le_of_ble_eq_true rfl, Nat.le_of_ble_eq_true rfl⟩ tb442 tb443 4 1 rfl rfl rfl rfl [4, 5, 6, 7, 8, 9, 10, 11, 12, 13] [0, 1, 2, 3] rfl rfl rfl rfl rfl (Nat.le_of_ble_eq_true rfl) ⟨Nat.le_of_ble_eq_true rfl, Nat.le_of_ble_eq_true rfl⟩ dX4_fit_22 (fun _ H locs _ X => ?_)
        have X : Hx D zA zs H locs (sW tk h n pl lo le ++ gW tk g G d e) := X
        refine lv_aload_n hx hb dX4_fit_25 rfl (lv_at hl 1 rfl) ?_
        refine g_get (v := .ref (h 2)) C0 X kX4 0 2 tb170 rfl rfl rfl dX4_fit_26 ?_
        refine lv_iload hx hb dX4_fit_29 (lv_at hl 0 rfl) ?_
        refine g_iald (v := nI (lo i)) (i := i) C0 X 2 0 rfl rfl (by omega) rfl rfl dX4_fit_31 ?_
        refine g_icmp_eq (x := loudS (G 0 (pl i)) b (d (pl i))) (y := lo i) (tgt := 37) C0 (by omega) (by omega) dX4_fit_32 rfl (fun c3 => ?_) (fun c4 => ?_)
        · refine g_iinc (j := 1) (z := i + 1) (lv' := [(4, .int (nI (i + 1))), (0, .ref (h 0)), (1, .ref (g 0)), (2, .int (nI b)), (3, .ref (g 8))]) C0 rfl (by first | rfl | omega) dX4_fit_37 hl (k := 0) rfl (by decide) rfl (fun ls hl => ?_)
          refine lv_goto (tgt := 3) hx hb dX4_fit_40 (by decide) ?_
          exact ih3 (i + 1) (by omega) (by omega) (by exact ball_t hf (decide_eq_true c3)) H locs ls X (lv_sub hl [0, 1, 2, 3, 4] rfl)
        · refine g_iconst (n := 0) C0 rfl dX4_fit_35 ?_
          exact hE (v := false) () (by rw [show fitW (cgv G) d b n pl lo = false from ball_f (i := i) (decide_eq_false c4) c2]) trivial X dX4_fit_36
  exact J3 ((n - 0) + 1) 0 (Nat.lt_succ_self _) (by omega) (by rfl) H locs ls X (lv_sub hl [0, 1, 2, 3, 4] rfl)
set_option maxHeartbeats 4000000 in
set_option maxRecDepth 100000 in
theorem c_X4_howManyBreaths (l : Launch) (D : va_G) (tk : Nat → ClassId) (h : Nat → Nat) (n : Nat) (pl lo le : Nat → Nat) (g : Nat → Nat) (G : Nat → Nat → Nat) (d e : Nat → Nat) (t : Nat) (hw : GW G) (hn : n ≤ 6) (hs : ∀ j, j < n → pl j < G 8 0 ∧ lo j ≤ 120) (ht0 : t < G 8 0) : MX l yX4_howManyBreaths cX4_howManyBreaths 6 (some .int) ⟨3, 0, 0, 89⟩ D (TYS tk) [.ref (h 0), .ref (g 0), .int (nI t)] (sW tk h n pl lo le ++ gW tk g G d e) (fun (_ : Unit) => True) (fun _ => some (.int (nI (manyS (cgv G) t n pl lo)))) (fun _ => sW tk h n pl lo le ++ gW tk g G (dist (cgv G) t) e) 0 0 := by
  refine MX.of_i (by decide) rfl ?_
  intro zp ze zs zm za zb zt zc zA zQ ls C0 hnm X hl hE
  have hx := C0.1
  have hb := C0.2.1
  have ht := C0.2.2.2.2.1
  have X : Hx D zA zs zs.heap [] (sW tk h n pl lo le ++ gW tk g G d e) := X
  have hl : lv_has ls 6 [(0, .ref (h 0)), (1, .ref (g 0)), (2, .int (nI t))] := hl
  obtain ⟨hw1, hw2, hw3, hw4, hw5, hw6, hw7, hw8⟩ := id hw
  obtain ⟨H, hH⟩ : ∃ H, H = zs.heap := ⟨_, rfl⟩
  rw [← hH] at X ⊢
  obtain ⟨locs, hlo⟩ : ∃ L : List Loc, L = [] := ⟨_, rfl⟩
  rw [← hlo] at X ⊢
  refine lv_aload_n hx hb dX4_howManyBreaths_0 rfl (lv_at hl 1 rfl) ?_
  refine lv_iload_n hx hb dX4_howManyBreaths_1 rfl (lv_at hl 2 rfl) ?_
  refine g_callV (As := [.int (nI t)]) (rest := []) (wr := (sW tk h n pl lo le)) (C0.sz hl) X (c_X1_measure l D tk g G d e t (by first | assumption | omega) (by first | assumption | omega)) ⟨tb686, tb422, tb2, ⟨by decide, by decide, rfl⟩, rfl, rfl, Nat.le_of_ble_eq_true rfl, Nat.le_of_ble_eq_true rfl⟩ tb420 tb421 4 1 rfl rfl rfl rfl [4, 5, 6, 7, 8, 9, 10, 11, 12, 13] [0, 1, 2, 3] rfl rfl rfl rfl rfl (Nat.le_of_ble_eq_true rfl) ⟨Nat.le_of_ble_eq_true rfl, Nat.le_of_ble_eq_true rfl⟩ dX4_howManyBreaths_2 (fun _ H locs _ X => ?_)
  have X : Hx D zA zs H locs (sW tk h n pl lo le ++ gW tk g G (dist (cgv G) t) e) := X
  refine lv_astore_n (lv' := [(3, .ref (g 8)), (0, .ref (h 0)), (1, .ref (g 0)), (2, .int (nI t))]) hx hb dX4_howManyBreaths_5 rfl hl (by decide) rfl (fun ls hl => ?_)
  refine g_iconst (n := 0) C0 rfl dX4_howManyBreaths_6 ?_
  refine lv_istore (lv' := [(4, .int (nI 0)), (3, .ref (g 8)), (0, .ref (h 0)), (1, .ref (g 0)), (2, .int (nI t))]) hx hb dX4_howManyBreaths_7 hl (by decide) rfl (fun ls hl => ?_)
  refine g_iconst (n := 1) C0 rfl dX4_howManyBreaths_9 ?_
  refine lv_istore (lv' := [(5, .int (nI 1)), (4, .int (nI 0)), (3, .ref (g 8)), (0, .ref (h 0)), (1, .ref (g 0)), (2, .int (nI t))]) hx hb dX4_howManyBreaths_10 hl (by decide) rfl (fun ls hl => ?_)
  have J12 : ∀ (fz : Nat) (i m : Nat), 61 - i < fz → ∀ (hi1 : 1 ≤ i) (hi : i ≤ 61) (hm : m = cnt (fun j => fitS (cgv G) t (j + 1) n pl lo) (i - 1)) (hml : m ≤ i) (H : Heap) (locs : List Loc) (ls : Array Slot), Hx D zA zs H locs (sW tk h n pl lo le ++ gW tk g G (dist (cgv G) t) e) → lv_has ls 6 [(5, .int (nI i)), (4, .int (nI m)), (3, .ref (g 8)), (0, .ref (h 0)), (1, .ref (g 0)), (2, .int (nI t))] → W zp l ze ⟨3, 0, 0, 89⟩ zs zm za zb zt zc H locs 0 0 zQ (F0 zm 12 ls []) := by
    intro fz
    induction fz with
    | zero => intro i m hz; exact absurd hz (Nat.not_lt_zero _)
    | succ fz ih12 =>
      intro i m hz12 hi1 hi hm hml H locs ls X hl
      refine lv_iload hx hb dX4_howManyBreaths_12 (lv_at hl 0 rfl) ?_
      refine g_bipush (n := 60) C0 (by decide) dX4_howManyBreaths_14 ?_
      refine g_icmp_gt (x := i) (y := 60) (tgt := 39) C0 (by omega) (by omega) dX4_howManyBreaths_16 rfl (fun c1 => ?_) (fun c2 => ?_)
      · refine lv_iload hx hb dX4_howManyBreaths_39 (lv_at hl 1 rfl) ?_
        exact hE (v := nI m) () (by rw [hm, show i - 1 = 60 by omega]; rfl) trivial X dX4_howManyBreaths_41
      · refine lv_aload_n hx hb dX4_howManyBreaths_19 rfl (lv_at hl 3 rfl) ?_
        refine lv_aload_n hx hb dX4_howManyBreaths_20 rfl (lv_at hl 4 rfl) ?_
        refine lv_iload hx hb dX4_howManyBreaths_21 (lv_at hl 0 rfl) ?_
        refine lv_aload_n hx hb dX4_howManyBreaths_23 rfl (lv_at hl 2 rfl) ?_
        refine g_callV (As := [.ref (g 0), .int (nI i), .ref (g 8)]) (rest := []) (wr := []) (C0.sz hl) X (c_X4_fit l D tk h n pl lo le g G (dist (cgv G) t) e i (by first | assumption | omega) (by first | assumption | omega) (by first | assumption | omega) (by exact fun x _ => dist_le _ _ x) (by first | assumption | omega)) ⟨tb687, tb690, tb6, ⟨by decide, by decide, rfl⟩, rfl, rfl, Nat.le_of_ble_eq_true rfl, Nat.le_of_ble_eq_true rfl⟩ tb689 tbs17 0 4 rfl rfl rfl rfl [0, 1, 2, 3, 4, 5, 6, 7, 8, 9, 10, 11, 12, 13] [] rfl rfl rfl rfl rfl (Nat.le_of_ble_eq_true rfl) ⟨Nat.le_of_ble_eq_true rfl, Nat.le_of_ble_eq_true rfl⟩ dX4_howManyBreaths_24 (fun _ H locs _ X => ?_)
        have X : Hx D zA zs H locs (sW tk h n pl lo le ++ gW tk g G (dist (cgv G) t) e) := X
        refine g_ifeqB (x := fitW (cgv G) (dist (cgv G) t) i n pl lo) (tgt := 33) C0 dX4_howManyBreaths_27 rfl (fun c3 => ?_) (fun c4 => ?_)
        · refine g_iinc (j := 1) (z := i + 1) (lv' := [(5, .int (nI (i + 1))), (4, .int (nI m)), (3, .ref (g 8)), (0, .ref (h 0)), (1, .ref (g 0)), (2, .int (nI t))]) C0 rfl (by first | rfl | omega) dX4_howManyBreaths_33 hl (k := 0) rfl (by decide) rfl (fun ls hl => ?_)
          refine lv_goto (tgt := 12) hx hb dX4_howManyBreaths_36 (by decide) ?_
          exact ih12 (i + 1) m (by omega) (by omega) (by omega) (by first | (rw [many_s hi1, cnt_f (P := fun j => fitS (cgv G) t (j + 1) n pl lo) (i := i - 1) (many_p (f := fun b => fitS (cgv G) t b n pl lo) hi1 c3)]; exact hm) | (rw [many_s hi1, cnt_t (P := fun j => fitS (cgv G) t (j + 1) n pl lo) (i := i - 1) (many_p (f := fun b => fitS (cgv G) t b n pl lo) hi1 c3)]; omega)) (by omega) H locs ls X (lv_sub hl [0, 1, 2, 3, 4, 5] rfl)
        · refine g_iinc (j := 1) (z := m + 1) (lv' := [(4, .int (nI (m + 1))), (5, .int (nI i)), (3, .ref (g 8)), (0, .ref (h 0)), (1, .ref (g 0)), (2, .int (nI t))]) C0 rfl (by first | rfl | omega) dX4_howManyBreaths_30 hl (k := 1) rfl (by decide) rfl (fun ls hl => ?_)
          refine g_iinc (j := 1) (z := i + 1) (lv' := [(5, .int (nI (i + 1))), (4, .int (nI (m + 1))), (3, .ref (g 8)), (0, .ref (h 0)), (1, .ref (g 0)), (2, .int (nI t))]) C0 rfl (by first | rfl | omega) dX4_howManyBreaths_33 hl (k := 1) rfl (by decide) rfl (fun ls hl => ?_)
          refine lv_goto (tgt := 12) hx hb dX4_howManyBreaths_36 (by decide) ?_
          exact ih12 (i + 1) (m + 1) (by omega) (by omega) (by omega) (by first | (rw [many_s hi1, cnt_f (P := fun j => fitS (cgv G) t (j + 1) n pl lo) (i := i - 1) (many_p (f := fun b => fitS (cgv G) t b n pl lo) hi1 c4)]; exact hm) | (rw [many_s hi1, cnt_t (P := fun j => fitS (cgv G) t (j + 1) n pl lo) (i := i - 1) (many_p (f := fun b => fitS (cgv G) t b n pl lo) hi1 c4)]; omega)) (by omega) H locs ls X (lv_sub hl [0, 1, 2, 3, 4, 5] rfl)
  exact J12 ((61 - 1) + 1) 1 0 (Nat.lt_succ_self _) (by omega) (by omega) (by rfl) (by omega) H locs ls X (lv_sub hl [0, 1, 2, 3, 4, 5] rfl)
set_option maxHeartbeats 4000000 in
set_option maxRecDepth 100000 in
theorem c_X4_leastPossible (l : Launch) (D : va_G) (tk : Nat → ClassId) (h : Nat → Nat) (n : Nat) (pl lo le : Nat → Nat) (g : Nat → Nat) (G : Nat → Nat → Nat) (d e : Nat → Nat) (t : Nat) (hw : GW G) (hn : n ≤ 6) (hs : ∀ j, j < n → pl j < G 8 0 ∧ lo j ≤ 120) (ht0 : t < G 8 0) : MX l yX4_leastPossible cX4_leastPossible 5 (some .int) ⟨3, 0, 0, 89⟩ D (TYS tk) [.ref (h 0), .ref (g 0), .int (nI t)] (sW tk h n pl lo le ++ gW tk g G d e) (fun (_ : Unit) => True) (fun _ => some (.int (orNone (lfind (fun b => fitS (cgv G) t b n pl lo) 60 1)))) (fun _ => sW tk h n pl lo le ++ gW tk g G (dist (cgv G) t) e) 0 0 := by
  refine MX.of_i (by decide) rfl ?_
  intro zp ze zs zm za zb zt zc zA zQ ls C0 hnm X hl hE
  have hx := C0.1
  have hb := C0.2.1
  have ht := C0.2.2.2.2.1
  have X : Hx D zA zs zs.heap [] (sW tk h n pl lo le ++ gW tk g G d e) := X
  have hl : lv_has ls 5 [(0, .ref (h 0)), (1, .ref (g 0)), (2, .int (nI t))] := hl
  obtain ⟨hw1, hw2, hw3, hw4, hw5, hw6, hw7, hw8⟩ := id hw
  obtain ⟨H, hH⟩ : ∃ H, H = zs.heap := ⟨_, rfl⟩
  rw [← hH] at X ⊢
  obtain ⟨locs, hlo⟩ : ∃ L : List Loc, L = [] := ⟨_, rfl⟩
  rw [← hlo] at X ⊢
  refine lv_aload_n hx hb dX4_leastPossible_0 rfl (lv_at hl 1 rfl) ?_
  refine lv_iload_n hx hb dX4_leastPossible_1 rfl (lv_at hl 2 rfl) ?_
  refine g_callV (As := [.int (nI t)]) (rest := []) (wr := (sW tk h n pl lo le)) (C0.sz hl) X (c_X1_measure l D tk g G d e t (by first | assumption | omega) (by first | assumption | omega)) ⟨tb686, tb422, tb2, ⟨by decide, by decide, rfl⟩, rfl, rfl, Nat.le_of_ble_eq_true rfl, Nat.le_of_ble_eq_true rfl⟩ tb420 tb421 4 1 rfl rfl rfl rfl [4, 5, 6, 7, 8, 9, 10, 11, 12, 13] [0, 1, 2, 3] rfl rfl rfl rfl rfl (Nat.le_of_ble_eq_true rfl) ⟨Nat.le_of_ble_eq_true rfl, Nat.le_of_ble_eq_true rfl⟩ dX4_leastPossible_2 (fun _ H locs _ X => ?_)
  have X : Hx D zA zs H locs (sW tk h n pl lo le ++ gW tk g G (dist (cgv G) t) e) := X
  refine lv_astore_n (lv' := [(3, .ref (g 8)), (0, .ref (h 0)), (1, .ref (g 0)), (2, .int (nI t))]) hx hb dX4_leastPossible_5 rfl hl (by decide) rfl (fun ls hl => ?_)
  refine g_iconst (n := 1) C0 rfl dX4_leastPossible_6 ?_
  refine lv_istore (lv' := [(4, .int (nI 1)), (3, .ref (g 8)), (0, .ref (h 0)), (1, .ref (g 0)), (2, .int (nI t))]) hx hb dX4_leastPossible_7 hl (by decide) rfl (fun ls hl => ?_)
  have J9 : ∀ (fz : Nat) (i : Nat), 61 - i < fz → ∀ (hi1 : 1 ≤ i) (hi : i ≤ 61) (hbs : lfind (fun b => fitS (cgv G) t b n pl lo) 60 1 = lfind (fun b => fitS (cgv G) t b n pl lo) (61 - i) i) (H : Heap) (locs : List Loc) (ls : Array Slot), Hx D zA zs H locs (sW tk h n pl lo le ++ gW tk g G (dist (cgv G) t) e) → lv_has ls 5 [(4, .int (nI i)), (3, .ref (g 8)), (0, .ref (h 0)), (1, .ref (g 0)), (2, .int (nI t))] → W zp l ze ⟨3, 0, 0, 89⟩ zs zm za zb zt zc H locs 0 0 zQ (F0 zm 9 ls []) := by
    intro fz
    induction fz with
    | zero => intro i hz; exact absurd hz (Nat.not_lt_zero _)
    | succ fz ih9 =>
      intro i hz9 hi1 hi hbs H locs ls X hl
      refine lv_iload hx hb dX4_leastPossible_9 (lv_at hl 0 rfl) ?_
      refine g_bipush (n := 60) C0 (by decide) dX4_leastPossible_11 ?_
      refine g_icmp_gt (x := i) (y := 60) (tgt := 36) C0 (by omega) (by omega) dX4_leastPossible_13 rfl (fun c1 => ?_) (fun c2 => ?_)
      · refine lv_bipush (v := (-4)) hx hb dX4_leastPossible_36 (by decide) ?_
        exact hE (v := (-4)) () (by rw [hbs, show 61 - i = 0 by omega]; rfl) trivial X dX4_leastPossible_38
      · refine lv_aload_n hx hb dX4_leastPossible_16 rfl (lv_at hl 2 rfl) ?_
        refine lv_aload_n hx hb dX4_leastPossible_17 rfl (lv_at hl 3 rfl) ?_
        refine lv_iload hx hb dX4_leastPossible_18 (lv_at hl 0 rfl) ?_
        refine lv_aload_n hx hb dX4_leastPossible_20 rfl (lv_at hl 1 rfl) ?_
        refine g_callV (As := [.ref (g 0), .int (nI i), .ref (g 8)]) (rest := []) (wr := []) (C0.sz hl) X (c_X4_fit l D tk h n pl lo le g G (dist (cgv G) t) e i (by first | assumption | omega) (by first | assumption | omega) (by first | assumption | omega) (by exact fun x _ => dist_le _ _ x) (by first | assumption | omega)) ⟨tb687, tb690, tb6, ⟨by decide, by decide, rfl⟩, rfl, rfl, Nat.le_of_ble_eq_true rfl, Nat.le_of_ble_eq_true rfl⟩ tb689 tbs17 0 4 rfl rfl rfl rfl [0, 1, 2, 3, 4, 5, 6, 7, 8, 9, 10, 11, 12, 13] [] rfl rfl rfl rfl rfl (Nat.le_of_ble_eq_true rfl) ⟨Nat.le_of_ble_eq_true rfl, Nat.le_of_ble_eq_true rfl⟩ dX4_leastPossible_21 (fun _ H locs _ X => ?_)
        have X : Hx D zA zs H locs (sW tk h n pl lo le ++ gW tk g G (dist (cgv G) t) e) := X
        refine g_ifeqB (x := fitW (cgv G) (dist (cgv G) t) i n pl lo) (tgt := 30) C0 dX4_leastPossible_24 rfl (fun c3 => ?_) (fun c4 => ?_)
        · refine g_iinc (j := 1) (z := i + 1) (lv' := [(4, .int (nI (i + 1))), (3, .ref (g 8)), (0, .ref (h 0)), (1, .ref (g 0)), (2, .int (nI t))]) C0 rfl (by first | rfl | omega) dX4_leastPossible_30 hl (k := 0) rfl (by decide) rfl (fun ls hl => ?_)
          refine lv_goto (tgt := 9) hx hb dX4_leastPossible_33 (by decide) ?_
          exact ih9 (i + 1) (by omega) (by omega) (by omega) (by rw [hbs]; exact lfind_s (by omega) c3) H locs ls X (lv_sub hl [0, 1, 2, 3, 4] rfl)
        · refine lv_iload hx hb dX4_leastPossible_27 (lv_at hl 0 rfl) ?_
          exact hE (v := nI i) () (by rw [hbs, lfind_y (P := fun b => fitS (cgv G) t b n pl lo) (by omega) c4]; exact congrArg (fun z => some (Value.int z)) (orNone_p (by omega))) trivial X dX4_leastPossible_29
  exact J9 ((61 - 1) + 1) 1 (Nat.lt_succ_self _) (by omega) (by omega) (by rfl) H locs ls X (lv_sub hl [0, 1, 2, 3, 4] rfl)
set_option maxHeartbeats 4000000 in
set_option maxRecDepth 100000 in
theorem c_X4_possibleSayers (l : Launch) (D : va_G) (tk : Nat → ClassId) (h : Nat → Nat) (n : Nat) (pl lo le : Nat → Nat) (g : Nat → Nat) (G : Nat → Nat → Nat) (d e : Nat → Nat) (hw : GW G) (hn : n ≤ 6) (hs : ∀ j, j < n → pl j < G 8 0 ∧ lo j ≤ 120) : MX l yX4_possibleSayers cX4_possibleSayers 4 (some .int) ⟨4, 0, 0, 113⟩ D (TYS tk) [.ref (h 0), .ref (g 0)] (sW tk h n pl lo le ++ gW tk g G d e) (fun (u : Nat → Nat) => True) (fun u => some (.int (nI (sayS (cgv G) n pl lo)))) (fun u => sW tk h n pl lo le ++ gW tk g G u e) 0 0 := by
  refine MX.of_i (by decide) rfl ?_
  intro zp ze zs zm za zb zt zc zA zQ ls C0 hnm X hl hE
  have hx := C0.1
  have hb := C0.2.1
  have ht := C0.2.2.2.2.1
  have X : Hx D zA zs zs.heap [] (sW tk h n pl lo le ++ gW tk g G d e) := X
  have hl : lv_has ls 4 [(0, .ref (h 0)), (1, .ref (g 0))] := hl
  obtain ⟨hw1, hw2, hw3, hw4, hw5, hw6, hw7, hw8⟩ := id hw
  obtain ⟨H, hH⟩ : ∃ H, H = zs.heap := ⟨_, rfl⟩
  rw [← hH] at X ⊢
  obtain ⟨locs, hlo⟩ : ∃ L : List Loc, L = [] := ⟨_, rfl⟩
  rw [← hlo] at X ⊢
  refine g_iconst (n := 0) C0 rfl dX4_possibleSayers_0 ?_
  refine lv_istore_n (lv' := [(2, .int (nI 0)), (0, .ref (h 0)), (1, .ref (g 0))]) hx hb dX4_possibleSayers_1 rfl hl (by decide) rfl (fun ls hl => ?_)
  refine g_iconst (n := 0) C0 rfl dX4_possibleSayers_2 ?_
  refine lv_istore_n (lv' := [(3, .int (nI 0)), (2, .int (nI 0)), (0, .ref (h 0)), (1, .ref (g 0))]) hx hb dX4_possibleSayers_3 rfl hl (by decide) rfl (fun ls hl => ?_)
  have J4 : ∀ (fz : Nat) (i bs : Nat) (d1 : Nat → Nat), G 8 0 - i < fz → ∀ (hi : i ≤ G 8 0) (hbs : bs = bset (sayP (cgv G) n pl lo) i) (H : Heap) (locs : List Loc) (ls : Array Slot), Hx D zA zs H locs (sW tk h n pl lo le ++ gW tk g G d1 e) → lv_has ls 4 [(3, .int (nI i)), (2, .int (nI bs)), (0, .ref (h 0)), (1, .ref (g 0))] → W zp l ze ⟨4, 0, 0, 113⟩ zs zm za zb zt zc H locs 0 0 zQ (F0 zm 4 ls []) := by
    intro fz
    induction fz with
    | zero => intro i bs d1 hz; exact absurd hz (Nat.not_lt_zero _)
    | succ fz ih4 =>
      intro i bs d1 hz4 hi hbs H locs ls X hl
      refine lv_iload_n hx hb dX4_possibleSayers_4 rfl (lv_at hl 0 rfl) ?_
      refine lv_aload_n hx hb dX4_possibleSayers_5 rfl (lv_at hl 3 rfl) ?_
      refine g_get (v := .int (nI (G 8 0))) C0 X kX1 4 0 tb34 rfl rfl rfl dX4_possibleSayers_6 ?_
      refine g_icmp_ge (x := i) (y := G 8 0) (tgt := 35) C0 (by omega) (by omega) dX4_possibleSayers_9 rfl (fun c1 => ?_) (fun c2 => ?_)
      · refine lv_iload_n hx hb dX4_possibleSayers_35 rfl (lv_at hl 1 rfl) ?_
        exact hE (v := nI bs) d1 (by rw [hbs, show i = G 8 0 by omega]; rfl) trivial X dX4_possibleSayers_36
      · refine lv_aload_n hx hb dX4_possibleSayers_12 rfl (lv_at hl 2 rfl) ?_
        refine lv_aload_n hx hb dX4_possibleSayers_13 rfl (lv_at hl 3 rfl) ?_
        refine lv_iload_n hx hb dX4_possibleSayers_14 rfl (lv_at hl 0 rfl) ?_
        refine g_callV (As := [.ref (g 0), .int (nI i)]) (rest := []) (wr := []) (C0.sz hl) X (c_X4_leastPossible l D tk h n pl lo le g G d1 e i (by first | assumption | omega) (by first | assumption | omega) (by first | assumption | omega) (by first | assumption | omega)) ⟨tb682, tb685, tb6, ⟨by decide, by decide, rfl⟩, rfl, rfl, Nat.le_of_ble_eq_true rfl, Nat.le_of_ble_eq_true rfl⟩ tb683 tb684 0 4 rfl rfl rfl rfl [0, 1, 2, 3, 4, 5, 6, 7, 8, 9, 10, 11, 12, 13] [] rfl rfl rfl rfl rfl (Nat.le_of_ble_eq_true rfl) ⟨Nat.le_of_ble_eq_true rfl, Nat.le_of_ble_eq_true rfl⟩ dX4_possibleSayers_15 (fun _ H locs _ X => ?_)
        have X : Hx D zA zs H locs (sW tk h n pl lo le ++ gW tk g G (dist (cgv G) i) e) := X
        refine lv_bipush (v := (-4)) hx hb dX4_possibleSayers_18 (by decide) ?_
        refine lv_icmp_eq (tgt := 29) hx hb dX4_possibleSayers_20 rfl (fun c3 => ?_) (fun c4 => ?_)
        · refine g_iinc (j := 1) (z := i + 1) (lv' := [(3, .int (nI (i + 1))), (2, .int (nI bs)), (0, .ref (h 0)), (1, .ref (g 0))]) C0 rfl (by first | rfl | omega) dX4_possibleSayers_29 hl (k := 0) rfl (by decide) rfl (fun ls hl => ?_)
          refine lv_goto (tgt := 4) hx hb dX4_possibleSayers_32 (by decide) ?_
          exact ih4 (i + 1) bs (dist (cgv G) i) (by omega) (by omega) (by first | (rw [bset_f (say_f c3)]; exact hbs) | (rw [bset_t (say_t c3), hbs])) H locs ls X (lv_sub hl [0, 1, 2, 3] rfl)
        · refine lv_iload_n hx hb dX4_possibleSayers_23 rfl (lv_at hl 1 rfl) ?_
          refine g_iconst (n := 1) C0 rfl dX4_possibleSayers_24 ?_
          refine lv_iload_n hx hb dX4_possibleSayers_25 rfl (lv_at hl 0 rfl) ?_
          refine g_ishl (n := 2 ^ i) C0 (by exact sh_ok (by omega)) (by first | exact Nat.one_mul _ | rfl) dX4_possibleSayers_26 ?_
          refine g_ior (n := bs ||| (2 ^ i)) C0 rfl dX4_possibleSayers_27 ?_
          refine lv_istore_n (lv' := [(2, .int (nI (bs ||| (2 ^ i)))), (3, .int (nI i)), (0, .ref (h 0)), (1, .ref (g 0))]) hx hb dX4_possibleSayers_28 rfl hl (by decide) rfl (fun ls hl => ?_)
          refine g_iinc (j := 1) (z := i + 1) (lv' := [(3, .int (nI (i + 1))), (2, .int (nI (bs ||| (2 ^ i)))), (0, .ref (h 0)), (1, .ref (g 0))]) C0 rfl (by first | rfl | omega) dX4_possibleSayers_29 hl (k := 1) rfl (by decide) rfl (fun ls hl => ?_)
          refine lv_goto (tgt := 4) hx hb dX4_possibleSayers_32 (by decide) ?_
          exact ih4 (i + 1) (bs ||| (2 ^ i)) (dist (cgv G) i) (by omega) (by omega) (by first | (rw [bset_f (say_f c4)]; exact hbs) | (rw [bset_t (say_t c4), hbs])) H locs ls X (lv_sub hl [0, 1, 2, 3] rfl)
  exact J4 ((G 8 0 - 0) + 1) 0 0 d (Nat.lt_succ_self _) (by omega) (by rfl) H locs ls X (lv_sub hl [0, 1, 2, 3] rfl)
set_option maxHeartbeats 4000000 in
set_option maxRecDepth 100000 in
theorem c_X4_leftAtWorst (l : Launch) (D : va_G) (tk : Nat → ClassId) (h : Nat → Nat) (n : Nat) (pl lo le : Nat → Nat) (g : Nat → Nat) (G : Nat → Nat → Nat) (d e : Nat → Nat) (x : Nat) (hw : GW G) (hn : n ≤ 6) (hs : ∀ j, j < n → pl j < G 8 0 ∧ lo j ≤ 120) (hx1 : x < G 8 0) : MX l yX4_leftAtWorst cX4_leftAtWorst 8 (some .int) ⟨3, 0, 0, 89⟩ D (TYS tk) [.ref (h 0), .ref (g 0), .int (nI x)] (sW tk h n pl lo le ++ gW tk g G d e) (fun (u : (Nat → Nat) × (Nat → Nat)) => True) (fun u => some (.int (nI ((lwT (cgv G) x n pl lo (G 8 0)).2)))) (fun u => sW tk h n pl lo u.1 ++ gW tk g G u.2 e) 0 0 := by
  refine MX.of_i (by decide) rfl ?_
  intro zp ze zs zm za zb zt zc zA zQ ls C0 hnm X hl hE
  have hx := C0.1
  have hb := C0.2.1
  have ht := C0.2.2.2.2.1
  have X : Hx D zA zs zs.heap [] (sW tk h n pl lo le ++ gW tk g G d e) := X
  have hl : lv_has ls 8 [(0, .ref (h 0)), (1, .ref (g 0)), (2, .int (nI x))] := hl
  obtain ⟨hw1, hw2, hw3, hw4, hw5, hw6, hw7, hw8⟩ := id hw
  obtain ⟨H, hH⟩ : ∃ H, H = zs.heap := ⟨_, rfl⟩
  rw [← hH] at X ⊢
  obtain ⟨locs, hlo⟩ : ∃ L : List Loc, L = [] := ⟨_, rfl⟩
  rw [← hlo] at X ⊢
  refine g_iconst (n := 0) C0 rfl dX4_leftAtWorst_0 ?_
  refine lv_istore_n (lv' := [(3, .int (nI 0)), (0, .ref (h 0)), (1, .ref (g 0)), (2, .int (nI x))]) hx hb dX4_leftAtWorst_1 rfl hl (by decide) rfl (fun ls hl => ?_)
  refine lv_aload_n hx hb dX4_leftAtWorst_2 rfl (lv_at hl 1 rfl) ?_
  refine g_get (v := .ref (h 3)) C0 X kX4 0 3 tb171 rfl rfl rfl dX4_leftAtWorst_3 ?_
  refine g_iconst (n := 0) C0 rfl dX4_leftAtWorst_6 ?_
  refine g_callS (As := [.ref (h 3), .int (nI 0)]) (rest := []) (wr := (gW tk g G d e)) (C0.sz hl) X (c_fillS l D tk h n pl lo le 0) ⟨tb713, tb425, tb14, ⟨by decide, by decide, rfl⟩, rfl, rfl, Nat.le_of_ble_eq_true rfl, Nat.le_of_ble_eq_true rfl⟩ tb424 rfl [0, 1, 2, 3] [4, 5, 6, 7, 8, 9, 10, 11, 12, 13] rfl rfl rfl rfl rfl (Nat.le_of_ble_eq_true rfl) ⟨Nat.le_of_ble_eq_true rfl, Nat.le_of_ble_eq_true rfl⟩ dX4_leftAtWorst_7 (fun uq1 H locs hp2 X => ?_)
  have X : Hx D zA zs H locs (gW tk g G d e ++ sW tk h n pl lo uq1) := X
  have hp2 : ∀ j, j < 121 → uq1 j = 0 := hp2
  have X : Hx D zA zs H locs (sW tk h n pl lo uq1 ++ gW tk g G d e) := X.sub [10, 11, 12, 13, 0, 1, 2, 3, 4, 5, 6, 7, 8, 9] rfl rfl
  have X := X.cong (g := nf (fun _ => 0)) 3 rfl (fun j hj => congrArg nI (hp2 j hj))
  have X : Hx D zA zs H locs (sW tk h n pl lo (fun _ => 0) ++ gW tk g G d e) := X
  refine g_iconst (n := 0) C0 rfl dX4_leftAtWorst_10 ?_
  refine lv_istore (lv' := [(4, .int (nI 0)), (3, .int (nI 0)), (0, .ref (h 0)), (1, .ref (g 0)), (2, .int (nI x))]) hx hb dX4_leftAtWorst_11 hl (by decide) rfl (fun ls hl => ?_)
  have J13 : ∀ (fz : Nat) (i m : Nat) (l1 d1 : Nat → Nat), G 8 0 - i < fz → ∀ (hi : i ≤ G 8 0) (hf1 : (l1, m) = lwT (cgv G) x n pl lo i) (H : Heap) (locs : List Loc) (ls : Array Slot), Hx D zA zs H locs (sW tk h n pl lo l1 ++ gW tk g G d1 e) → lv_has ls 8 [(4, .int (nI i)), (3, .int (nI m)), (0, .ref (h 0)), (1, .ref (g 0)), (2, .int (nI x))] → W zp l ze ⟨3, 0, 0, 89⟩ zs zm za zb zt zc H locs 0 0 zQ (F0 zm 13 ls []) := by
    intro fz
    induction fz with
    | zero => intro i m l1 d1 hz; exact absurd hz (Nat.not_lt_zero _)
    | succ fz ih13 =>
      intro i m l1 d1 hz13 hi hf1 H locs ls X hl
      refine lv_iload hx hb dX4_leftAtWorst_13 (lv_at hl 0 rfl) ?_
      refine lv_aload_n hx hb dX4_leftAtWorst_15 rfl (lv_at hl 3 rfl) ?_
      refine g_get (v := .int (nI (G 8 0))) C0 X kX1 4 0 tb34 rfl rfl rfl dX4_leftAtWorst_16 ?_
      refine g_icmp_ge (x := i) (y := G 8 0) (tgt := 98) C0 (by omega) (by omega) dX4_leftAtWorst_19 rfl (fun c3 => ?_) (fun c4 => ?_)
      · refine lv_iload_n hx hb dX4_leftAtWorst_98 rfl (lv_at hl 1 rfl) ?_
        exact hE (v := nI m) (l1, d1) (by rw [show G 8 0 = i by omega, ← hf1]) trivial X dX4_leftAtWorst_99
      · refine lv_aload_n hx hb dX4_leftAtWorst_22 rfl (lv_at hl 3 rfl) ?_
        refine lv_iload hx hb dX4_leftAtWorst_23 (lv_at hl 0 rfl) ?_
        refine g_callV (As := [.int (nI i)]) (rest := []) (wr := (sW tk h n pl lo l1)) (C0.sz hl) X (c_X1_measure l D tk g G d1 e i (by first | assumption | omega) (by first | assumption | omega)) ⟨tb686, tb422, tb2, ⟨by decide, by decide, rfl⟩, rfl, rfl, Nat.le_of_ble_eq_true rfl, Nat.le_of_ble_eq_true rfl⟩ tb420 tb421 4 1 rfl rfl rfl rfl [4, 5, 6, 7, 8, 9, 10, 11, 12, 13] [0, 1, 2, 3] rfl rfl rfl rfl rfl (Nat.le_of_ble_eq_true rfl) ⟨Nat.le_of_ble_eq_true rfl, Nat.le_of_ble_eq_true rfl⟩ dX4_leftAtWorst_25 (fun _ H locs _ X => ?_)
        have X : Hx D zA zs H locs (sW tk h n pl lo l1 ++ gW tk g G (dist (cgv G) i) e) := X
        refine lv_astore (lv' := [(5, .ref (g 8)), (4, .int (nI i)), (3, .int (nI m)), (0, .ref (h 0)), (1, .ref (g 0)), (2, .int (nI x))]) hx hb dX4_leftAtWorst_28 hl (by decide) rfl (fun ls hl => ?_)
        refine g_iconst (n := 1) C0 rfl dX4_leftAtWorst_30 ?_
        refine lv_istore (lv' := [(6, .int (nI 1)), (5, .ref (g 8)), (4, .int (nI i)), (3, .int (nI m)), (0, .ref (h 0)), (1, .ref (g 0)), (2, .int (nI x))]) hx hb dX4_leftAtWorst_31 hl (by decide) rfl (fun ls hl => ?_)
        have J33 : ∀ (fz : Nat) (j m2 : Nat) (l2 : Nat → Nat), 61 - j < fz → ∀ (hj1 : 1 ≤ j) (hj : j ≤ 61) (hf : (l2, m2) = lwB (cgv G) x n pl lo i (j - 1) (lwT (cgv G) x n pl lo i)) (H : Heap) (locs : List Loc) (ls : Array Slot), Hx D zA zs H locs (sW tk h n pl lo l2 ++ gW tk g G (dist (cgv G) i) e) → lv_has ls 8 [(6, .int (nI j)), (5, .ref (g 8)), (4, .int (nI i)), (3, .int (nI m2)), (0, .ref (h 0)), (1, .ref (g 0)), (2, .int (nI x))] → W zp l ze ⟨3, 0, 0, 89⟩ zs zm za zb zt zc H locs 0 0 zQ (F0 zm 33 ls []) := by
          intro fz
          induction fz with
          | zero => intro j m2 l2 hz; exact absurd hz (Nat.not_lt_zero _)
          | succ fz ih33 =>
            intro j m2 l2 hz33 hj1 hj hf H locs ls X hl
            refine lv_iload hx hb dX4_leftAtWorst_33 (lv_at hl 0 rfl) ?_
            refine g_bipush (n := 60) C0 (by decide) dX4_leftAtWorst_35 ?_
            refine g_icmp_gt (x := j) (y := 60) (tgt := 92) C0 (by omega) (by omega) dX4_leftAtWorst_37 rfl (fun c5 => ?_) (fun c6 => ?_)
            · refine g_iinc (j := 1) (z := i + 1) (lv' := [(4, .int (nI (i + 1))), (6, .int (nI j)), (5, .ref (g 8)), (3, .int (nI m2)), (0, .ref (h 0)), (1, .ref (g 0)), (2, .int (nI x))]) C0 rfl (by first | rfl | omega) dX4_leftAtWorst_92 hl (k := 2) rfl (by decide) rfl (fun ls hl => ?_)
              refine lv_goto (tgt := 13) hx hb dX4_leftAtWorst_95 (by decide) ?_
              exact ih13 (i + 1) m2 l2 (dist (cgv G) i) (by omega) (by omega) (by rw [show j = 61 by omega] at hf; exact hf) H locs ls X (lv_sub hl [0, 3, 4, 5, 6] rfl)
            · refine lv_aload_n hx hb dX4_leftAtWorst_40 rfl (lv_at hl 4 rfl) ?_
              refine lv_aload_n hx hb dX4_leftAtWorst_41 rfl (lv_at hl 5 rfl) ?_
              refine lv_iload hx hb dX4_leftAtWorst_42 (lv_at hl 0 rfl) ?_
              refine lv_aload hx hb dX4_leftAtWorst_44 (lv_at hl 1 rfl) ?_
              refine g_callV (As := [.ref (g 0), .int (nI j), .ref (g 8)]) (rest := []) (wr := []) (C0.sz hl) X (c_X4_fit l D tk h n pl lo l2 g G (dist (cgv G) i) e j (by first | assumption | omega) (by first | assumption | omega) (by first | assumption | omega) (by exact fun x _ => dist_le _ _ x) (by first | assumption | omega)) ⟨tb687, tb690, tb6, ⟨by decide, by decide, rfl⟩, rfl, rfl, Nat.le_of_ble_eq_true rfl, Nat.le_of_ble_eq_true rfl⟩ tb689 tbs17 0 4 rfl rfl rfl rfl [0, 1, 2, 3, 4, 5, 6, 7, 8, 9, 10, 11, 12, 13] [] rfl rfl rfl rfl rfl (Nat.le_of_ble_eq_true rfl) ⟨Nat.le_of_ble_eq_true rfl, Nat.le_of_ble_eq_true rfl⟩ dX4_leftAtWorst_46 (fun _ H locs _ X => ?_)
              have X : Hx D zA zs H locs (sW tk h n pl lo l2 ++ gW tk g G (dist (cgv G) i) e) := X
              refine g_ifeqB (x := fitW (cgv G) (dist (cgv G) i) j n pl lo) (tgt := 86) C0 dX4_leftAtWorst_49 rfl (fun c7 => ?_) (fun c8 => ?_)
              · refine g_iinc (j := 1) (z := j + 1) (lv' := [(6, .int (nI (j + 1))), (5, .ref (g 8)), (4, .int (nI i)), (3, .int (nI m2)), (0, .ref (h 0)), (1, .ref (g 0)), (2, .int (nI x))]) C0 rfl (by first | rfl | omega) dX4_leftAtWorst_86 hl (k := 0) rfl (by decide) rfl (fun ls hl => ?_)
                refine lv_goto (tgt := 33) hx hb dX4_leftAtWorst_89 (by decide) ?_
                exact ih33 (j + 1) m2 l2 (by omega) (by omega) (by omega) (by first | exact lw_f hj1 c7 hf | exact lw_t hj1 c7 hf) H locs ls X (lv_sub hl [0, 1, 2, 3, 4, 5, 6] rfl)
              · refine lv_aload_n hx hb dX4_leftAtWorst_52 rfl (lv_at hl 5 rfl) ?_
                refine lv_iload_n hx hb dX4_leftAtWorst_53 rfl (lv_at hl 6 rfl) ?_
                refine lv_iload hx hb dX4_leftAtWorst_54 (lv_at hl 0 rfl) ?_
                refine lv_aload hx hb dX4_leftAtWorst_56 (lv_at hl 1 rfl) ?_
                have hk1 := hw6 x hx1
                have hdd := dist_le (cgv G) i x
                refine g_callV (As := [.int (nI x), .int (nI j), .ref (g 8)]) (rest := []) (wr := (sW tk h n pl lo l2)) (C0.sz hl) X (c_X1_loudness l D tk g G (dist (cgv G) i) e x j (by first | assumption | omega) (by first | assumption | omega) (by first | assumption | omega) (by first | assumption | omega)) ⟨tb691, tb444, tb2, ⟨by decide, by decide, rfl⟩, rfl, rfl, Nat.le_of_ble_eq_true rfl, Nat.le_of_ble_eq_true rfl⟩ tb442 tb443 4 1 rfl rfl rfl rfl [4, 5, 6, 7, 8, 9, 10, 11, 12, 13] [0, 1, 2, 3] rfl rfl rfl rfl rfl (Nat.le_of_ble_eq_true rfl) ⟨Nat.le_of_ble_eq_true rfl, Nat.le_of_ble_eq_true rfl⟩ dX4_leftAtWorst_58 (fun _ H locs _ X => ?_)
                have X : Hx D zA zs H locs (sW tk h n pl lo l2 ++ gW tk g G (dist (cgv G) i) e) := X
                have hL := loudS_le (G 0 x) j (dist (cgv G) i x)
                refine lv_istore (lv' := [(7, .int (nI (loudS (G 0 x) j ((dist (cgv G) i) x)))), (6, .int (nI j)), (5, .ref (g 8)), (4, .int (nI i)), (3, .int (nI m2)), (0, .ref (h 0)), (1, .ref (g 0)), (2, .int (nI x))]) hx hb dX4_leftAtWorst_61 hl (by decide) rfl (fun ls hl => ?_)
                refine lv_aload_n hx hb dX4_leftAtWorst_63 rfl (lv_at hl 5 rfl) ?_
                refine g_get (v := .ref (h 3)) C0 X kX4 0 3 tb171 rfl rfl rfl dX4_leftAtWorst_64 ?_
                refine lv_iload hx hb dX4_leftAtWorst_67 (lv_at hl 0 rfl) ?_
                refine lv_dup2_11 hx hb dX4_leftAtWorst_69 rfl rfl ?_
                refine g_iald (v := nI (l2 (loudS (G 0 x) j ((dist (cgv G) i) x)))) (i := loudS (G 0 x) j ((dist (cgv G) i) x)) C0 X 3 0 rfl rfl (by omega) rfl rfl dX4_leftAtWorst_70 ?_
                refine g_iconst (n := 1) C0 rfl dX4_leftAtWorst_71 ?_
                refine g_iadd (n := l2 (loudS (G 0 x) j ((dist (cgv G) i) x)) + 1) C0 (by first | rfl | omega) dX4_leftAtWorst_72 ?_
                refine g_iast (g := nf (u1 l2 (loudS (G 0 x) j ((dist (cgv G) i) x)) (l2 (loudS (G 0 x) j ((dist (cgv G) i) x)) + 1))) (i := loudS (G 0 x) j ((dist (cgv G) i) x)) C0 X 3 0 rfl rfl (by omega) rfl (nf_u1 _ _ _) dX4_leftAtWorst_73 (fun H locs X => ?_)
                have X : Hx D zA zs H locs (sW tk h n pl lo (u1 l2 (loudS (G 0 x) j ((dist (cgv G) i) x)) (l2 (loudS (G 0 x) j ((dist (cgv G) i) x)) + 1)) ++ gW tk g G (dist (cgv G) i) e) := X
                refine lv_iload_n hx hb dX4_leftAtWorst_74 rfl (lv_at hl 4 rfl) ?_
                refine lv_aload_n hx hb dX4_leftAtWorst_75 rfl (lv_at hl 5 rfl) ?_
                refine g_get (v := .ref (h 3)) C0 X kX4 0 3 tb171 rfl rfl rfl dX4_leftAtWorst_76 ?_
                refine lv_iload hx hb dX4_leftAtWorst_79 (lv_at hl 0 rfl) ?_
                refine g_iald (v := nI ((u1 l2 (loudS (G 0 x) j ((dist (cgv G) i) x)) (l2 (loudS (G 0 x) j ((dist (cgv G) i) x)) + 1)) (loudS (G 0 x) j ((dist (cgv G) i) x)))) (i := loudS (G 0 x) j ((dist (cgv G) i) x)) C0 X 3 0 rfl rfl (by omega) rfl (by first | rfl | exact congrArg nI (u1_s _ _ _)) dX4_leftAtWorst_81 ?_
                have hle := lw_bd hf
                have hle1 := hle.1 (loudS (G 0 x) j (dist (cgv G) i x))
                refine g_max' C0 hl tb714 tb446 tb15 tb447 (by first | (rw [u1_s]; omega) | omega) (by first | (rw [u1_s]; omega) | omega) ⟨rfl, rfl, rfl, rfl⟩ dX4_leftAtWorst_82 ?_
                refine lv_istore_n (lv' := [(3, .int (nI (max m2 ((u1 l2 (loudS (G 0 x) j ((dist (cgv G) i) x)) (l2 (loudS (G 0 x) j ((dist (cgv G) i) x)) + 1)) (loudS (G 0 x) j ((dist (cgv G) i) x)))))), (7, .int (nI (loudS (G 0 x) j ((dist (cgv G) i) x)))), (6, .int (nI j)), (5, .ref (g 8)), (4, .int (nI i)), (0, .ref (h 0)), (1, .ref (g 0)), (2, .int (nI x))]) hx hb dX4_leftAtWorst_85 rfl hl (by decide) rfl (fun ls hl => ?_)
                refine g_iinc (j := 1) (z := j + 1) (lv' := [(6, .int (nI (j + 1))), (3, .int (nI (max m2 ((u1 l2 (loudS (G 0 x) j ((dist (cgv G) i) x)) (l2 (loudS (G 0 x) j ((dist (cgv G) i) x)) + 1)) (loudS (G 0 x) j ((dist (cgv G) i) x)))))), (7, .int (nI (loudS (G 0 x) j ((dist (cgv G) i) x)))), (5, .ref (g 8)), (4, .int (nI i)), (0, .ref (h 0)), (1, .ref (g 0)), (2, .int (nI x))]) C0 rfl (by first | rfl | omega) dX4_leftAtWorst_86 hl (k := 2) rfl (by decide) rfl (fun ls hl => ?_)
                refine lv_goto (tgt := 33) hx hb dX4_leftAtWorst_89 (by decide) ?_
                exact ih33 (j + 1) (max m2 ((u1 l2 (loudS (G 0 x) j ((dist (cgv G) i) x)) (l2 (loudS (G 0 x) j ((dist (cgv G) i) x)) + 1)) (loudS (G 0 x) j ((dist (cgv G) i) x)))) (u1 l2 (loudS (G 0 x) j ((dist (cgv G) i) x)) (l2 (loudS (G 0 x) j ((dist (cgv G) i) x)) + 1)) (by omega) (by omega) (by omega) (by first | exact lw_f hj1 c8 hf | exact lw_t hj1 c8 hf) H locs ls X (lv_sub hl [0, 3, 4, 1, 5, 6, 7] rfl)
        exact J33 ((61 - 1) + 1) 1 m l1 (Nat.lt_succ_self _) (by omega) (by omega) (by exact hf1) H locs ls X (lv_sub hl [0, 1, 2, 3, 4, 5, 6] rfl)
  exact J13 ((G 8 0 - 0) + 1) 0 0 (fun _ => 0) d (Nat.lt_succ_self _) (by omega) (by rfl) H locs ls X (lv_sub hl [0, 1, 2, 3, 4] rfl)
set_option maxHeartbeats 4000000 in
set_option maxRecDepth 100000 in
theorem c_X3_isNothing (l : Launch) (D : va_G) (tk : Nat → ClassId) (a c n : Nat) (ln : Int32) (ce : Nat → Int32) : MX l yX3_isNothing cX3_isNothing 1 (some .boolean) ⟨0, 0, 0, 0⟩ D (TYS tk) [.ref a] (shW tk a c n ln ce) (fun (_ : Unit) => True) (fun _ => some (.int (nI (rb (decide (ln = -1)))))) (fun _ => shW tk a c n ln ce) 0 0 := by
  refine MX.of_z (by decide) rfl ?_
  intro zp ze zs zm za zb zt zc zA zQ ls C0 hnm X hl hE
  have hx := C0.1
  have hb := C0.2.1
  have ht := C0.2.2.2.2.1
  have X : Hx D zA zs zs.heap [] (shW tk a c n ln ce) := X
  have hl : lv_has ls 1 [(0, .ref a)] := hl
  obtain ⟨H, hH⟩ : ∃ H, H = zs.heap := ⟨_, rfl⟩
  rw [← hH] at X ⊢
  obtain ⟨locs, hlo⟩ : ∃ L : List Loc, L = [] := ⟨_, rfl⟩
  rw [← hlo] at X ⊢
  refine lv_aload_n hx hb dX3_isNothing_0 rfl (lv_at hl 0 rfl) ?_
  refine g_get (v := .int ln) C0 X kX3 0 2 tb192 rfl rfl rfl dX3_isNothing_1 ?_
  refine lv_iconst (v := (-1)) hx hb dX3_isNothing_4 (by decide) ?_
  refine lv_icmp_ne (tgt := 12) hx hb dX3_isNothing_5 rfl (fun c1 => ?_) (fun c2 => ?_)
  · refine g_iconst (n := 0) C0 rfl dX3_isNothing_12 ?_
    exact hE (v := false) () (by first | rw [decide_eq_true c1] | rw [decide_eq_false c1]) trivial X dX3_isNothing_13
  · refine g_iconst (n := 1) C0 rfl dX3_isNothing_8 ?_
    refine lv_goto (tgt := 13) hx hb dX3_isNothing_9 (by decide) ?_
    exact hE (v := true) () (by first | rw [decide_eq_true c2] | rw [decide_eq_false c2]) trivial X dX3_isNothing_13
set_option maxHeartbeats 4000000 in
set_option maxRecDepth 100000 in
theorem c_X3_faultOfCells (l : Launch) (D : va_G) (tk : Nat → ClassId) (a c n : Nat) (ln : Int32) (ce : Nat → Int32) (x : Int32) (m : Nat) (hn : n ≤ 40) (hm : m ≤ 3) : MX l yX3_faultOfCells cX3_faultOfCells 3 (some .int) ⟨1, 0, 0, 22⟩ D (TYS tk) [.ref a, .int x, .int (nI m)] (shW tk a c n ln ce) (fun (_ : Unit) => True) (fun _ => some (.int (nI (if ln = -1 then 1 else if fc x n m then 0 else 2)))) (fun _ => shW tk a c n ln ce) 0 0 := by
  refine MX.of_i (by decide) rfl ?_
  intro zp ze zs zm za zb zt zc zA zQ ls C0 hnm X hl hE
  have hx := C0.1
  have hb := C0.2.1
  have ht := C0.2.2.2.2.1
  have X : Hx D zA zs zs.heap [] (shW tk a c n ln ce) := X
  have hl : lv_has ls 3 [(0, .ref a), (1, .int x), (2, .int (nI m))] := hl
  obtain ⟨H, hH⟩ : ∃ H, H = zs.heap := ⟨_, rfl⟩
  rw [← hH] at X ⊢
  obtain ⟨locs, hlo⟩ : ∃ L : List Loc, L = [] := ⟨_, rfl⟩
  rw [← hlo] at X ⊢
  refine lv_aload_n hx hb dX3_faultOfCells_0 rfl (lv_at hl 0 rfl) ?_
  refine g_callV (As := []) (rest := []) (wr := []) (C0.sz hl) X (c_X3_isNothing l D tk a c n ln ce) ⟨tb760, tb763, tb7, ⟨by decide, by decide, rfl⟩, rfl, rfl, Nat.le_of_ble_eq_true rfl, Nat.le_of_ble_eq_true rfl⟩ tb761 tb762 0 3 rfl rfl rfl rfl [0, 1] [] rfl rfl rfl rfl rfl (Nat.le_of_ble_eq_true rfl) ⟨Nat.le_of_ble_eq_true rfl, Nat.le_of_ble_eq_true rfl⟩ dX3_faultOfCells_1 (fun _ H locs _ X => ?_)
  have X : Hx D zA zs H locs (shW tk a c n ln ce) := X
  refine g_ifeqB (x := decide (ln = -1)) (tgt := 9) C0 dX3_faultOfCells_4 rfl (fun c1 => ?_) (fun c2 => ?_)
  · refine lv_iload_n hx hb dX3_faultOfCells_9 rfl (lv_at hl 1 rfl) ?_
    refine g_iconst (n := 0) C0 rfl dX3_faultOfCells_10 ?_
    refine lv_aload_n hx hb dX3_faultOfCells_11 rfl (lv_at hl 0 rfl) ?_
    refine g_get (v := .int (nI n)) C0 X kX3 0 0 tb188 rfl rfl rfl dX3_faultOfCells_12 ?_
    refine lv_iload_n hx hb dX3_faultOfCells_15 rfl (lv_at hl 2 rfl) ?_
    refine lv_isub hx hb dX3_faultOfCells_16 ?_
    refine g_callSN (As := [.int x, .int (nI 0), .int ((nI n) - (nI m))]) (rest := []) (wr := (shW tk a c n ln ce)) (C0.sz hl) X (c_X6_within l D tk x (nI 0) ((nI n) - (nI m))) ⟨tb764, tb234, tb1, ⟨by decide, by decide, rfl⟩, rfl, rfl, Nat.le_of_ble_eq_true rfl, Nat.le_of_ble_eq_true rfl⟩ tb233 rfl [] [0, 1] rfl rfl rfl rfl rfl (Nat.le_of_ble_eq_true rfl) ⟨Nat.le_of_ble_eq_true rfl, Nat.le_of_ble_eq_true rfl⟩ dX3_faultOfCells_17 (fun _ H locs _ X => ?_)
    have X : Hx D zA zs H locs (shW tk a c n ln ce) := X
    refine g_ifeqB (x := inI x (nI 0) ((nI n) - (nI m))) (tgt := 27) C0 dX3_faultOfCells_20 rfl (fun c3 => ?_) (fun c4 => ?_)
    · refine g_iconst (n := 2) C0 rfl dX3_faultOfCells_27 ?_
      exact hE (v := nI 2) () (by first | rw [if_neg (of_decide_eq_false c1), if_neg (by rw [← inI_fc x (by omega) (by omega), c3]; decide)] | rw [if_neg (of_decide_eq_false c1), if_pos (by rw [← inI_fc x (by omega) (by omega), c3])]) trivial X dX3_faultOfCells_28
    · refine g_iconst (n := 0) C0 rfl dX3_faultOfCells_23 ?_
      refine lv_goto (tgt := 28) hx hb dX3_faultOfCells_24 (by decide) ?_
      exact hE (v := nI 0) () (by first | rw [if_neg (of_decide_eq_false c1), if_neg (by rw [← inI_fc x (by omega) (by omega), c4]; decide)] | rw [if_neg (of_decide_eq_false c1), if_pos (by rw [← inI_fc x (by omega) (by omega), c4])]) trivial X dX3_faultOfCells_28
  · refine g_iconst (n := 1) C0 rfl dX3_faultOfCells_7 ?_
    exact hE (v := nI 1) () (by rw [if_pos (of_decide_eq_true c2)]) trivial X dX3_faultOfCells_8
set_option maxHeartbeats 4000000 in
set_option maxRecDepth 100000 in
theorem c_X3_faultOfReading (l : Launch) (D : va_G) (tk : Nat → ClassId) (a c n : Nat) (ln : Int32) (ce : Nat → Int32) (al x : Int32) (hn : n ≤ 40) : MX l yX3_faultOfReading cX3_faultOfReading 3 (some .int) ⟨2, 0, 0, 44⟩ D (TYS tk) [.ref a, .int al, .int x] (shW tk a c n ln ce) (fun (_ : Unit) => True) (fun _ => some (.int (nI (if ln ≠ -1 ∧ ln ≠ al then 3 else if ln = -1 then 1 else if fc x n 3 then 0 else 2)))) (fun _ => shW tk a c n ln ce) 0 0 := by
  refine MX.of_i (by decide) rfl ?_
  intro zp ze zs zm za zb zt zc zA zQ ls C0 hnm X hl hE
  have hx := C0.1
  have hb := C0.2.1
  have ht := C0.2.2.2.2.1
  have X : Hx D zA zs zs.heap [] (shW tk a c n ln ce) := X
  have hl : lv_has ls 3 [(0, .ref a), (1, .int al), (2, .int x)] := hl
  obtain ⟨H, hH⟩ : ∃ H, H = zs.heap := ⟨_, rfl⟩
  rw [← hH] at X ⊢
  obtain ⟨locs, hlo⟩ : ∃ L : List Loc, L = [] := ⟨_, rfl⟩
  rw [← hlo] at X ⊢
  refine lv_aload_n hx hb dX3_faultOfReading_0 rfl (lv_at hl 0 rfl) ?_
  refine g_callV (As := []) (rest := []) (wr := []) (C0.sz hl) X (c_X3_isNothing l D tk a c n ln ce) ⟨tb760, tb763, tb7, ⟨by decide, by decide, rfl⟩, rfl, rfl, Nat.le_of_ble_eq_true rfl, Nat.le_of_ble_eq_true rfl⟩ tb761 tb762 0 3 rfl rfl rfl rfl [0, 1] [] rfl rfl rfl rfl rfl (Nat.le_of_ble_eq_true rfl) ⟨Nat.le_of_ble_eq_true rfl, Nat.le_of_ble_eq_true rfl⟩ dX3_faultOfReading_1 (fun _ H locs _ X => ?_)
  have X : Hx D zA zs H locs (shW tk a c n ln ce) := X
  refine g_ifneB (x := decide (ln = -1)) (tgt := 17) C0 dX3_faultOfReading_4 rfl (fun c1 => ?_) (fun c2 => ?_)
  · refine lv_aload_n hx hb dX3_faultOfReading_17 rfl (lv_at hl 0 rfl) ?_
    refine lv_iload_n hx hb dX3_faultOfReading_18 rfl (lv_at hl 2 rfl) ?_
    refine g_iconst (n := 3) C0 rfl dX3_faultOfReading_19 ?_
    refine g_callV (As := [.int x, .int (nI 3)]) (rest := []) (wr := []) (C0.sz hl) X (c_X3_faultOfCells l D tk a c n ln ce x 3 (by first | assumption | omega) (by first | assumption | omega)) ⟨tb777, tb759, tb7, ⟨by decide, by decide, rfl⟩, rfl, rfl, Nat.le_of_ble_eq_true rfl, Nat.le_of_ble_eq_true rfl⟩ tb757 tb758 0 3 rfl rfl rfl rfl [0, 1] [] rfl rfl rfl rfl rfl (Nat.le_of_ble_eq_true rfl) ⟨Nat.le_of_ble_eq_true rfl, Nat.le_of_ble_eq_true rfl⟩ dX3_faultOfReading_20 (fun _ H locs _ X => ?_)
    have X : Hx D zA zs H locs (shW tk a c n ln ce) := X
    exact hE (v := nI (if ln = -1 then 1 else if fc x n 3 then 0 else 2)) () (by rw [if_neg (fun q => q.1 (of_decide_eq_true c1))]) trivial X dX3_faultOfReading_23
  · refine lv_aload_n hx hb dX3_faultOfReading_7 rfl (lv_at hl 0 rfl) ?_
    refine g_get (v := .int ln) C0 X kX3 0 2 tb192 rfl rfl rfl dX3_faultOfReading_8 ?_
    refine lv_iload_n hx hb dX3_faultOfReading_11 rfl (lv_at hl 1 rfl) ?_
    refine lv_icmp_eq (tgt := 17) hx hb dX3_faultOfReading_12 rfl (fun c3 => ?_) (fun c4 => ?_)
    · refine lv_aload_n hx hb dX3_faultOfReading_17 rfl (lv_at hl 0 rfl) ?_
      refine lv_iload_n hx hb dX3_faultOfReading_18 rfl (lv_at hl 2 rfl) ?_
      refine g_iconst (n := 3) C0 rfl dX3_faultOfReading_19 ?_
      refine g_callV (As := [.int x, .int (nI 3)]) (rest := []) (wr := []) (C0.sz hl) X (c_X3_faultOfCells l D tk a c n ln ce x 3 (by first | assumption | omega) (by first | assumption | omega)) ⟨tb777, tb759, tb7, ⟨by decide, by decide, rfl⟩, rfl, rfl, Nat.le_of_ble_eq_true rfl, Nat.le_of_ble_eq_true rfl⟩ tb757 tb758 0 3 rfl rfl rfl rfl [0, 1] [] rfl rfl rfl rfl rfl (Nat.le_of_ble_eq_true rfl) ⟨Nat.le_of_ble_eq_true rfl, Nat.le_of_ble_eq_true rfl⟩ dX3_faultOfReading_20 (fun _ H locs _ X => ?_)
      have X : Hx D zA zs H locs (shW tk a c n ln ce) := X
      exact hE (v := nI (if ln = -1 then 1 else if fc x n 3 then 0 else 2)) () (by rw [if_neg (fun q => q.2 c3)]) trivial X dX3_faultOfReading_23
    · refine g_iconst (n := 3) C0 rfl dX3_faultOfReading_15 ?_
      exact hE (v := nI 3) () (by rw [if_pos ⟨of_decide_eq_false c2, c4⟩]) trivial X dX3_faultOfReading_16
set_option maxHeartbeats 4000000 in
set_option maxRecDepth 100000 in
theorem c_fillSh (l : Launch) (D : va_G) (tk : Nat → ClassId) (a c n : Nat) (ln : Int32) (ce : Nat → Int32) (x : Nat) : MX l yJ7_fill_53178 cJ7_fill_53178 4 none ⟨0, 0, 0, 0⟩ D (TYS tk) [.ref c, .int (nI x)] (shW tk a c n ln ce) (fun (u : Nat → Int32) => ∀ j, j < 40 → u j = nI x) (fun u => none) (fun u => shW tk a c n ln u) 0 0 := by
  refine MX.of_v (by decide) rfl ?_
  intro zp ze zs zm za zb zt zc zA zQ ls C0 hnm X hl hE
  have hx := C0.1
  have hb := C0.2.1
  have ht := C0.2.2.2.2.1
  have X : Hx D zA zs zs.heap [] (shW tk a c n ln ce) := X
  have hl : lv_has ls 4 [(0, .ref c), (1, .int (nI x))] := hl
  obtain ⟨H, hH⟩ : ∃ H, H = zs.heap := ⟨_, rfl⟩
  rw [← hH] at X ⊢
  obtain ⟨locs, hlo⟩ : ∃ L : List Loc, L = [] := ⟨_, rfl⟩
  rw [← hlo] at X ⊢
  refine g_iconst (n := 0) C0 rfl dJ7_fill_53178_0 ?_
  refine lv_istore_n (lv' := [(2, .int (nI 0)), (0, .ref c), (1, .int (nI x))]) hx hb dJ7_fill_53178_1 rfl hl (by decide) rfl (fun ls hl => ?_)
  refine lv_aload_n hx hb dJ7_fill_53178_2 rfl (lv_at hl 1 rfl) ?_
  refine g_alen (n := 40) C0 X 1 0 rfl rfl rfl dJ7_fill_53178_3 ?_
  refine lv_istore_n (lv' := [(3, .int (nI 40)), (2, .int (nI 0)), (0, .ref c), (1, .int (nI x))]) hx hb dJ7_fill_53178_4 rfl hl (by decide) rfl (fun ls hl => ?_)
  have J5 : ∀ (fz : Nat) (i : Nat) (d1 : Nat → Int32), 40 - i < fz → ∀ (hi : i ≤ 40) (hd : ∀ j, j < i → d1 j = nI x) (H : Heap) (locs : List Loc) (ls : Array Slot), Hx D zA zs H locs (shW tk a c n ln d1) → lv_has ls 4 [(3, .int (nI 40)), (2, .int (nI i)), (0, .ref c), (1, .int (nI x))] → W zp l ze ⟨0, 0, 0, 0⟩ zs zm za zb zt zc H locs 0 0 zQ (F0 zm 5 ls []) := by
    intro fz
    induction fz with
    | zero => intro i d1 hz; exact absurd hz (Nat.not_lt_zero _)
    | succ fz ih5 =>
      intro i d1 hz5 hi hd H locs ls X hl
      refine lv_iload_n hx hb dJ7_fill_53178_5 rfl (lv_at hl 1 rfl) ?_
      refine lv_iload_n hx hb dJ7_fill_53178_6 rfl (lv_at hl 0 rfl) ?_
      refine g_icmp_ge (x := i) (y := 40) (tgt := 20) C0 (by omega) (by omega) dJ7_fill_53178_7 rfl (fun c1 => ?_) (fun c2 => ?_)
      · exact hE (v := ()) d1 rfl (by intro j hj; exact hd j (by omega)) X dJ7_fill_53178_20
      · refine lv_aload_n hx hb dJ7_fill_53178_10 rfl (lv_at hl 2 rfl) ?_
        refine lv_iload_n hx hb dJ7_fill_53178_11 rfl (lv_at hl 1 rfl) ?_
        refine lv_iload_n hx hb dJ7_fill_53178_12 rfl (lv_at hl 3 rfl) ?_
        refine g_iast (g := upd d1 i (nI x)) (i := i) C0 X 1 0 rfl rfl (by omega) rfl rfl dJ7_fill_53178_13 (fun H locs X => ?_)
        have X : Hx D zA zs H locs (shW tk a c n ln (upd d1 i (nI x))) := X
        refine g_iinc (j := 1) (z := i + 1) (lv' := [(2, .int (nI (i + 1))), (3, .int (nI 40)), (0, .ref c), (1, .int (nI x))]) C0 rfl (by first | rfl | omega) dJ7_fill_53178_14 hl (k := 1) rfl (by decide) rfl (fun ls hl => ?_)
        refine lv_goto (tgt := 5) hx hb dJ7_fill_53178_17 (by decide) ?_
        exact ih5 (i + 1) (upd d1 i (nI x)) (by omega) (by omega) (by exact fill_si hd) H locs ls X (lv_sub hl [1, 0, 2, 3] rfl)
  exact J5 ((40 - 0) + 1) 0 ce (Nat.lt_succ_self _) (by omega) (by intro j hj; omega) H locs ls X (lv_sub hl [0, 1, 2, 3] rfl)
set_option maxHeartbeats 4000000 in
set_option maxRecDepth 100000 in
theorem c_X3_renew (l : Launch) (D : va_G) (tk : Nat → ClassId) (a c n : Nat) (ln : Int32) (ce : Nat → Int32) (x : Int32) (y : Nat) : MX l yX3_renew cX3_renew 3 none ⟨1, 0, 0, 23⟩ D (TYS tk) [.ref a, .int x, .int (nI y)] (shW tk a c n ln ce) (fun (_ : Unit) => True) (fun _ => none) (fun _ => shW tk a c y x (fun _ => 0)) 0 0 := by
  refine MX.of_v (by decide) rfl ?_
  intro zp ze zs zm za zb zt zc zA zQ ls C0 hnm X hl hE
  have hx := C0.1
  have hb := C0.2.1
  have ht := C0.2.2.2.2.1
  have X : Hx D zA zs zs.heap [] (shW tk a c n ln ce) := X
  have hl : lv_has ls 3 [(0, .ref a), (1, .int x), (2, .int (nI y))] := hl
  obtain ⟨H, hH⟩ : ∃ H, H = zs.heap := ⟨_, rfl⟩
  rw [← hH] at X ⊢
  obtain ⟨locs, hlo⟩ : ∃ L : List Loc, L = [] := ⟨_, rfl⟩
  rw [← hlo] at X ⊢
  refine lv_aload_n hx hb dX3_renew_0 rfl (lv_at hl 0 rfl) ?_
  refine lv_iload_n hx hb dX3_renew_1 rfl (lv_at hl 1 rfl) ?_
  refine g_put (v := .int x) (ft := .int) C0 X kX3 0 2 tb192 rfl rfl rfl rfl rfl rfl rfl dX3_renew_2 (fun H locs X => ?_)
  have X : Hx D zA zs H locs (shW tk a c n x ce) := X
  refine lv_aload_n hx hb dX3_renew_5 rfl (lv_at hl 0 rfl) ?_
  refine lv_iload_n hx hb dX3_renew_6 rfl (lv_at hl 2 rfl) ?_
  refine g_put (v := .int (nI y)) (ft := .int) C0 X kX3 0 0 tb188 rfl rfl rfl rfl rfl rfl rfl dX3_renew_7 (fun H locs X => ?_)
  have X : Hx D zA zs H locs (shW tk a c y x ce) := X
  refine lv_aload_n hx hb dX3_renew_10 rfl (lv_at hl 0 rfl) ?_
  refine g_get (v := .ref c) C0 X kX3 0 1 tb190 rfl rfl rfl dX3_renew_11 ?_
  refine g_iconst (n := 0) C0 rfl dX3_renew_14 ?_
  refine g_callS (As := [.ref c, .int (nI 0)]) (rest := []) (wr := []) (C0.sz hl) X (c_fillSh l D tk a c y x ce 0) ⟨tb751, tb425, tb14, ⟨by decide, by decide, rfl⟩, rfl, rfl, Nat.le_of_ble_eq_true rfl, Nat.le_of_ble_eq_true rfl⟩ tb424 rfl [0, 1] [] rfl rfl rfl rfl rfl (Nat.le_of_ble_eq_true rfl) ⟨Nat.le_of_ble_eq_true rfl, Nat.le_of_ble_eq_true rfl⟩ dX3_renew_15 (fun uq1 H locs hp2 X => ?_)
  have X : Hx D zA zs H locs (shW tk a c y x uq1) := X
  have hp2 : ∀ j, j < 40 → uq1 j = nI 0 := hp2
  have X := X.cong (g := fun _ => 0) 1 rfl (fun j hj => hp2 j hj)
  have X : Hx D zA zs H locs (shW tk a c y x (fun _ => 0)) := X
  exact hE (v := ()) () rfl trivial X dX3_renew_18
set_option maxHeartbeats 4000000 in
set_option maxRecDepth 100000 in
theorem c_X3_put (l : Launch) (D : va_G) (tk : Nat → ClassId) (a c n : Nat) (ln : Int32) (ce : Nat → Int32) (i : Nat) (x : Int32) (hi : i < 40) : MX l yX3_put cX3_put 3 none ⟨0, 0, 0, 0⟩ D (TYS tk) [.ref a, .int (nI i), .int x] (shW tk a c n ln ce) (fun (_ : Unit) => True) (fun _ => none) (fun _ => shW tk a c n ln (upd ce i (narr ln x))) 0 0 := by
  refine MX.of_v (by decide) rfl ?_
  intro zp ze zs zm za zb zt zc zA zQ ls C0 hnm X hl hE
  have hx := C0.1
  have hb := C0.2.1
  have ht := C0.2.2.2.2.1
  have X : Hx D zA zs zs.heap [] (shW tk a c n ln ce) := X
  have hl : lv_has ls 3 [(0, .ref a), (1, .int (nI i)), (2, .int x)] := hl
  obtain ⟨H, hH⟩ : ∃ H, H = zs.heap := ⟨_, rfl⟩
  rw [← hH] at X ⊢
  obtain ⟨locs, hlo⟩ : ∃ L : List Loc, L = [] := ⟨_, rfl⟩
  rw [← hlo] at X ⊢
  refine lv_aload_n hx hb dX3_put_0 rfl (lv_at hl 0 rfl) ?_
  refine g_get (v := .int ln) C0 X kX3 0 2 tb192 rfl rfl rfl dX3_put_1 ?_
  by_cases c1 : ln = nI 0
  · refine lv_lookup (off := 28) (tgt := 32) hx hb dX3_put_4 rfl (by show Op.lookupswitch.offset [(0, 28), (1, 39)] 50 (ln).toInt = 28;  rw [c1]; rfl) rfl ?_
    refine lv_aload_n hx hb dX3_put_32 rfl (lv_at hl 0 rfl) ?_
    refine g_get (v := .ref c) C0 X kX3 0 1 tb190 rfl rfl rfl dX3_put_33 ?_
    refine lv_iload_n hx hb dX3_put_36 rfl (lv_at hl 1 rfl) ?_
    refine lv_iload_n hx hb dX3_put_37 rfl (lv_at hl 2 rfl) ?_
    refine lv_i2b hx hb dX3_put_38 rfl ?_
    refine g_iast (g := upd ce i ((x).toInt8.toInt32)) (i := i) C0 X 1 0 rfl rfl (by omega) rfl rfl dX3_put_39 (fun H locs X => ?_)
    have X : Hx D zA zs H locs (shW tk a c n ln (upd ce i ((x).toInt8.toInt32))) := X
    refine lv_goto (tgt := 61) hx hb dX3_put_40 (by decide) ?_
    exact hE (v := ()) () rfl trivial (X.to (by first | rw [narr_0 c1] | rw [narr_1 c c1] | rw [narr_2 c c1])) dX3_put_61
  by_cases c2 : ln = nI 1
  · refine lv_lookup (off := 39) (tgt := 43) hx hb dX3_put_4 rfl (by show Op.lookupswitch.offset [(0, 28), (1, 39)] 50 (ln).toInt = 39; rw [lv_osw (k := nI 0) (a := 0) c1 (by decide)]; rw [c2]; rfl) rfl ?_
    refine lv_aload_n hx hb dX3_put_43 rfl (lv_at hl 0 rfl) ?_
    refine g_get (v := .ref c) C0 X kX3 0 1 tb190 rfl rfl rfl dX3_put_44 ?_
    refine lv_iload_n hx hb dX3_put_47 rfl (lv_at hl 1 rfl) ?_
    refine lv_iload_n hx hb dX3_put_48 rfl (lv_at hl 2 rfl) ?_
    refine lv_i2s hx hb dX3_put_49 rfl ?_
    refine g_iast (g := upd ce i ((x).toInt16.toInt32)) (i := i) C0 X 1 0 rfl rfl (by omega) rfl rfl dX3_put_50 (fun H locs X => ?_)
    have X : Hx D zA zs H locs (shW tk a c n ln (upd ce i ((x).toInt16.toInt32))) := X
    refine lv_goto (tgt := 61) hx hb dX3_put_51 (by decide) ?_
    exact hE (v := ()) () rfl trivial (X.to (by first | rw [narr_0 c2] | rw [narr_1 c1 c2] | rw [narr_2 c1 c2])) dX3_put_61
  refine lv_lookup (off := 50) (tgt := 54) hx hb dX3_put_4 rfl (by show Op.lookupswitch.offset [(0, 28), (1, 39)] 50 (ln).toInt = 50; rw [lv_osw (k := nI 0) (a := 0) c1 (by decide)]; rw [lv_osw (k := nI 1) (a := 1) c2 (by decide)]; rfl) rfl ?_
  refine lv_aload_n hx hb dX3_put_54 rfl (lv_at hl 0 rfl) ?_
  refine g_get (v := .ref c) C0 X kX3 0 1 tb190 rfl rfl rfl dX3_put_55 ?_
  refine lv_iload_n hx hb dX3_put_58 rfl (lv_at hl 1 rfl) ?_
  refine lv_iload_n hx hb dX3_put_59 rfl (lv_at hl 2 rfl) ?_
  refine g_iast (g := upd ce i x) (i := i) C0 X 1 0 rfl rfl (by omega) rfl rfl dX3_put_60 (fun H locs X => ?_)
  have X : Hx D zA zs H locs (shW tk a c n ln (upd ce i x)) := X
  exact hE (v := ()) () rfl trivial (X.to (by first | rw [narr_0 c2] | rw [narr_1 c1 c2] | rw [narr_2 c1 c2])) dX3_put_61
