set_option maxHeartbeats 4000000 in
set_option maxRecDepth 100000 in
theorem c_exK (l : Launch) (D : va_G) (tk : Nat → ClassId) (h : Nat → Nat) (G : Nat → Nat → Nat) (d e : Nat → Nat) (i x : Nat) (hi : i < 6) : MX l yX6_exchange cX6_exchange 4 (some .int) ⟨0, 0, 0, 0⟩ D (TYS tk) [.ref (h 1), .int (nI i), .int (nI x)] (gW tk h G d e) (fun (_ : Unit) => True) (fun _ => some (.int (nI (G 0 i)))) (fun _ => gW tk h (u2 G 0 i x) d e) 0 0 := by
  refine MX.of_i (by decide) rfl ?_
  intro zp ze zs zm za zb zt zc zA zQ ls C0 hnm X hl hE
  have hx := C0.1
  have hb := C0.2.1
  have ht := C0.2.2.2.2.1
  have X : Hx D zA zs zs.heap [] (gW tk h G d e) := X
  have hl : lv_has ls 4 [(0, .ref (h 1)), (1, .int (nI i)), (2, .int (nI x))] := hl
  obtain ⟨H, hH⟩ : ∃ H, H = zs.heap := ⟨_, rfl⟩
  rw [← hH] at X ⊢
  obtain ⟨locs, hlo⟩ : ∃ L : List Loc, L = [] := ⟨_, rfl⟩
  rw [← hlo] at X ⊢
  refine lv_aload_n hx hb dX6_exchange_0 rfl (lv_at hl 0 rfl) ?_
  refine lv_iload_n hx hb dX6_exchange_1 rfl (lv_at hl 1 rfl) ?_
  refine g_iald (v := nI (G 0 i)) (i := i) C0 X 1 0 rfl rfl (by omega) rfl rfl dX6_exchange_2 ?_
  refine lv_istore_n (lv' := [(3, .int (nI (G 0 i))), (0, .ref (h 1)), (1, .int (nI i)), (2, .int (nI x))]) hx hb dX6_exchange_3 rfl hl (by decide) rfl (fun ls hl => ?_)
  refine lv_aload_n hx hb dX6_exchange_4 rfl (lv_at hl 1 rfl) ?_
  refine lv_iload_n hx hb dX6_exchange_5 rfl (lv_at hl 2 rfl) ?_
  refine lv_iload_n hx hb dX6_exchange_6 rfl (lv_at hl 3 rfl) ?_
  refine g_iast (g := nf (u1 (G 0) i x)) (i := i) C0 X 1 0 rfl rfl (by omega) rfl (nf_u1 _ _ _) dX6_exchange_7 (fun H locs X => ?_)
  have X : Hx D zA zs H locs (gW tk h (u2 G 0 i x) d e) := X
  refine lv_iload_n hx hb dX6_exchange_8 rfl (lv_at hl 0 rfl) ?_
  exact hE (v := nI (G 0 i)) () rfl trivial X dX6_exchange_9
set_option maxHeartbeats 4000000 in
set_option maxRecDepth 100000 in
theorem c_exL (l : Launch) (D : va_G) (tk : Nat → ClassId) (h : Nat → Nat) (G : Nat → Nat → Nat) (d e : Nat → Nat) (i x : Nat) (hi : i < 9) : MX l yX6_exchange cX6_exchange 4 (some .int) ⟨0, 0, 0, 0⟩ D (TYS tk) [.ref (h 4), .int (nI i), .int (nI x)] (gW tk h G d e) (fun (_ : Unit) => True) (fun _ => some (.int (nI (G 3 i)))) (fun _ => gW tk h (u2 G 3 i x) d e) 0 0 := by
  refine MX.of_i (by decide) rfl ?_
  intro zp ze zs zm za zb zt zc zA zQ ls C0 hnm X hl hE
  have hx := C0.1
  have hb := C0.2.1
  have ht := C0.2.2.2.2.1
  have X : Hx D zA zs zs.heap [] (gW tk h G d e) := X
  have hl : lv_has ls 4 [(0, .ref (h 4)), (1, .int (nI i)), (2, .int (nI x))] := hl
  obtain ⟨H, hH⟩ : ∃ H, H = zs.heap := ⟨_, rfl⟩
  rw [← hH] at X ⊢
  obtain ⟨locs, hlo⟩ : ∃ L : List Loc, L = [] := ⟨_, rfl⟩
  rw [← hlo] at X ⊢
  refine lv_aload_n hx hb dX6_exchange_0 rfl (lv_at hl 0 rfl) ?_
  refine lv_iload_n hx hb dX6_exchange_1 rfl (lv_at hl 1 rfl) ?_
  refine g_iald (v := nI (G 3 i)) (i := i) C0 X 4 0 rfl rfl (by omega) rfl rfl dX6_exchange_2 ?_
  refine lv_istore_n (lv' := [(3, .int (nI (G 3 i))), (0, .ref (h 4)), (1, .int (nI i)), (2, .int (nI x))]) hx hb dX6_exchange_3 rfl hl (by decide) rfl (fun ls hl => ?_)
  refine lv_aload_n hx hb dX6_exchange_4 rfl (lv_at hl 1 rfl) ?_
  refine lv_iload_n hx hb dX6_exchange_5 rfl (lv_at hl 2 rfl) ?_
  refine lv_iload_n hx hb dX6_exchange_6 rfl (lv_at hl 3 rfl) ?_
  refine g_iast (g := nf (u1 (G 3) i x)) (i := i) C0 X 4 0 rfl rfl (by omega) rfl (nf_u1 _ _ _) dX6_exchange_7 (fun H locs X => ?_)
  have X : Hx D zA zs H locs (gW tk h (u2 G 3 i x) d e) := X
  refine lv_iload_n hx hb dX6_exchange_8 rfl (lv_at hl 0 rfl) ?_
  exact hE (v := nI (G 3 i)) () rfl trivial X dX6_exchange_9
set_option maxHeartbeats 4000000 in
set_option maxRecDepth 100000 in
theorem c_exH (l : Launch) (D : va_G) (tk : Nat → ClassId) (h : Nat → Nat) (G : Nat → Nat → Nat) (d e : Nat → Nat) (i x : Nat) (hi : i < 6) : MX l yX6_exchange cX6_exchange 4 (some .int) ⟨0, 0, 0, 0⟩ D (TYS tk) [.ref (h 5), .int (nI i), .int (nI x)] (gW tk h G d e) (fun (_ : Unit) => True) (fun _ => some (.int (nI (G 5 i)))) (fun _ => gW tk h (u2 G 5 i x) d e) 0 0 := by
  refine MX.of_i (by decide) rfl ?_
  intro zp ze zs zm za zb zt zc zA zQ ls C0 hnm X hl hE
  have hx := C0.1
  have hb := C0.2.1
  have ht := C0.2.2.2.2.1
  have X : Hx D zA zs zs.heap [] (gW tk h G d e) := X
  have hl : lv_has ls 4 [(0, .ref (h 5)), (1, .int (nI i)), (2, .int (nI x))] := hl
  obtain ⟨H, hH⟩ : ∃ H, H = zs.heap := ⟨_, rfl⟩
  rw [← hH] at X ⊢
  obtain ⟨locs, hlo⟩ : ∃ L : List Loc, L = [] := ⟨_, rfl⟩
  rw [← hlo] at X ⊢
  refine lv_aload_n hx hb dX6_exchange_0 rfl (lv_at hl 0 rfl) ?_
  refine lv_iload_n hx hb dX6_exchange_1 rfl (lv_at hl 1 rfl) ?_
  refine g_iald (v := nI (G 5 i)) (i := i) C0 X 5 0 rfl rfl (by omega) rfl rfl dX6_exchange_2 ?_
  refine lv_istore_n (lv' := [(3, .int (nI (G 5 i))), (0, .ref (h 5)), (1, .int (nI i)), (2, .int (nI x))]) hx hb dX6_exchange_3 rfl hl (by decide) rfl (fun ls hl => ?_)
  refine lv_aload_n hx hb dX6_exchange_4 rfl (lv_at hl 1 rfl) ?_
  refine lv_iload_n hx hb dX6_exchange_5 rfl (lv_at hl 2 rfl) ?_
  refine lv_iload_n hx hb dX6_exchange_6 rfl (lv_at hl 3 rfl) ?_
  refine g_iast (g := nf (u1 (G 5) i x)) (i := i) C0 X 5 0 rfl rfl (by omega) rfl (nf_u1 _ _ _) dX6_exchange_7 (fun H locs X => ?_)
  have X : Hx D zA zs H locs (gW tk h (u2 G 5 i x) d e) := X
  refine lv_iload_n hx hb dX6_exchange_8 rfl (lv_at hl 0 rfl) ?_
  exact hE (v := nI (G 5 i)) () rfl trivial X dX6_exchange_9
set_option maxHeartbeats 4000000 in
set_option maxRecDepth 100000 in
theorem c_exS (l : Launch) (D : va_G) (tk : Nat → ClassId) (h : Nat → Nat) (G : Nat → Nat → Nat) (d e : Nat → Nat) (i x : Nat) (hi : i < 6) : MX l yX6_exchange cX6_exchange 4 (some .int) ⟨0, 0, 0, 0⟩ D (TYS tk) [.ref (h 6), .int (nI i), .int (nI x)] (gW tk h G d e) (fun (_ : Unit) => True) (fun _ => some (.int (nI (G 6 i)))) (fun _ => gW tk h (u2 G 6 i x) d e) 0 0 := by
  refine MX.of_i (by decide) rfl ?_
  intro zp ze zs zm za zb zt zc zA zQ ls C0 hnm X hl hE
  have hx := C0.1
  have hb := C0.2.1
  have ht := C0.2.2.2.2.1
  have X : Hx D zA zs zs.heap [] (gW tk h G d e) := X
  have hl : lv_has ls 4 [(0, .ref (h 6)), (1, .int (nI i)), (2, .int (nI x))] := hl
  obtain ⟨H, hH⟩ : ∃ H, H = zs.heap := ⟨_, rfl⟩
  rw [← hH] at X ⊢
  obtain ⟨locs, hlo⟩ : ∃ L : List Loc, L = [] := ⟨_, rfl⟩
  rw [← hlo] at X ⊢
  refine lv_aload_n hx hb dX6_exchange_0 rfl (lv_at hl 0 rfl) ?_
  refine lv_iload_n hx hb dX6_exchange_1 rfl (lv_at hl 1 rfl) ?_
  refine g_iald (v := nI (G 6 i)) (i := i) C0 X 6 0 rfl rfl (by omega) rfl rfl dX6_exchange_2 ?_
  refine lv_istore_n (lv' := [(3, .int (nI (G 6 i))), (0, .ref (h 6)), (1, .int (nI i)), (2, .int (nI x))]) hx hb dX6_exchange_3 rfl hl (by decide) rfl (fun ls hl => ?_)
  refine lv_aload_n hx hb dX6_exchange_4 rfl (lv_at hl 1 rfl) ?_
  refine lv_iload_n hx hb dX6_exchange_5 rfl (lv_at hl 2 rfl) ?_
  refine lv_iload_n hx hb dX6_exchange_6 rfl (lv_at hl 3 rfl) ?_
  refine g_iast (g := nf (u1 (G 6) i x)) (i := i) C0 X 6 0 rfl rfl (by omega) rfl (nf_u1 _ _ _) dX6_exchange_7 (fun H locs X => ?_)
  have X : Hx D zA zs H locs (gW tk h (u2 G 6 i x) d e) := X
  refine lv_iload_n hx hb dX6_exchange_8 rfl (lv_at hl 0 rfl) ?_
  exact hE (v := nI (G 6 i)) () rfl trivial X dX6_exchange_9
set_option maxHeartbeats 4000000 in
set_option maxRecDepth 100000 in
theorem c_exB (l : Launch) (D : va_G) (tk : Nat → ClassId) (h : Nat → Nat) (G : Nat → Nat → Nat) (d e : Nat → Nat) (i x : Nat) (hi : i < 6) : MX l yX6_exchange cX6_exchange 4 (some .int) ⟨0, 0, 0, 0⟩ D (TYS tk) [.ref (h 7), .int (nI i), .int (nI x)] (gW tk h G d e) (fun (_ : Unit) => True) (fun _ => some (.int (nI (G 7 i)))) (fun _ => gW tk h (u2 G 7 i x) d e) 0 0 := by
  refine MX.of_i (by decide) rfl ?_
  intro zp ze zs zm za zb zt zc zA zQ ls C0 hnm X hl hE
  have hx := C0.1
  have hb := C0.2.1
  have ht := C0.2.2.2.2.1
  have X : Hx D zA zs zs.heap [] (gW tk h G d e) := X
  have hl : lv_has ls 4 [(0, .ref (h 7)), (1, .int (nI i)), (2, .int (nI x))] := hl
  obtain ⟨H, hH⟩ : ∃ H, H = zs.heap := ⟨_, rfl⟩
  rw [← hH] at X ⊢
  obtain ⟨locs, hlo⟩ : ∃ L : List Loc, L = [] := ⟨_, rfl⟩
  rw [← hlo] at X ⊢
  refine lv_aload_n hx hb dX6_exchange_0 rfl (lv_at hl 0 rfl) ?_
  refine lv_iload_n hx hb dX6_exchange_1 rfl (lv_at hl 1 rfl) ?_
  refine g_iald (v := nI (G 7 i)) (i := i) C0 X 7 0 rfl rfl (by omega) rfl rfl dX6_exchange_2 ?_
  refine lv_istore_n (lv' := [(3, .int (nI (G 7 i))), (0, .ref (h 7)), (1, .int (nI i)), (2, .int (nI x))]) hx hb dX6_exchange_3 rfl hl (by decide) rfl (fun ls hl => ?_)
  refine lv_aload_n hx hb dX6_exchange_4 rfl (lv_at hl 1 rfl) ?_
  refine lv_iload_n hx hb dX6_exchange_5 rfl (lv_at hl 2 rfl) ?_
  refine lv_iload_n hx hb dX6_exchange_6 rfl (lv_at hl 3 rfl) ?_
  refine g_iast (g := nf (u1 (G 7) i x)) (i := i) C0 X 7 0 rfl rfl (by omega) rfl (nf_u1 _ _ _) dX6_exchange_7 (fun H locs X => ?_)
  have X : Hx D zA zs H locs (gW tk h (u2 G 7 i x) d e) := X
  refine lv_iload_n hx hb dX6_exchange_8 rfl (lv_at hl 0 rfl) ?_
  exact hE (v := nI (G 7 i)) () rfl trivial X dX6_exchange_9
set_option maxHeartbeats 4000000 in
set_option maxRecDepth 100000 in
theorem c_smL (l : Launch) (D : va_G) (tk : Nat → ClassId) (h : Nat → Nat) (G : Nat → Nat → Nat) (d e : Nat → Nat) (x : Nat) (hx1 : x ≤ 9) : MX l yX6_sumOfFirst cX6_sumOfFirst 4 (some .int) ⟨0, 0, 0, 0⟩ D (TYS tk) [.int (nI x), .ref (h 4)] (gW tk h G d e) (fun (_ : Unit) => True) (fun _ => some (.int (nI (nsum (G 3) x)))) (fun _ => gW tk h G d e) 0 0 := by
  refine MX.of_i (by decide) rfl ?_
  intro zp ze zs zm za zb zt zc zA zQ ls C0 hnm X hl hE
  have hx := C0.1
  have hb := C0.2.1
  have ht := C0.2.2.2.2.1
  have X : Hx D zA zs zs.heap [] (gW tk h G d e) := X
  have hl : lv_has ls 4 [(0, .int (nI x)), (1, .ref (h 4))] := hl
  obtain ⟨H, hH⟩ : ∃ H, H = zs.heap := ⟨_, rfl⟩
  rw [← hH] at X ⊢
  obtain ⟨locs, hlo⟩ : ∃ L : List Loc, L = [] := ⟨_, rfl⟩
  rw [← hlo] at X ⊢
  refine g_iconst (n := 0) C0 rfl dX6_sumOfFirst_0 ?_
  refine lv_istore_n (lv' := [(2, .int (nI 0)), (0, .int (nI x)), (1, .ref (h 4))]) hx hb dX6_sumOfFirst_1 rfl hl (by decide) rfl (fun ls hl => ?_)
  refine g_iconst (n := 0) C0 rfl dX6_sumOfFirst_2 ?_
  refine lv_istore_n (lv' := [(3, .int (nI 0)), (2, .int (nI 0)), (0, .int (nI x)), (1, .ref (h 4))]) hx hb dX6_sumOfFirst_3 rfl hl (by decide) rfl (fun ls hl => ?_)
  have J4 : ∀ (fz : Nat) (i sm : Nat), x - i < fz → ∀ (hi : i ≤ x) (hs : sm = nsum (G 3) i) (H : Heap) (locs : List Loc) (ls : Array Slot), Hx D zA zs H locs (gW tk h G d e) → lv_has ls 4 [(3, .int (nI i)), (2, .int (nI sm)), (0, .int (nI x)), (1, .ref (h 4))] → W zp l ze ⟨0, 0, 0, 0⟩ zs zm za zb zt zc H locs 0 0 zQ (F0 zm 4 ls []) := by
    intro fz
    induction fz with
    | zero => intro i sm hz; exact absurd hz (Nat.not_lt_zero _)
    | succ fz ih4 =>
      intro i sm hz4 hi hs H locs ls X hl
      refine lv_iload_n hx hb dX6_sumOfFirst_4 rfl (lv_at hl 0 rfl) ?_
      refine lv_iload_n hx hb dX6_sumOfFirst_5 rfl (lv_at hl 2 rfl) ?_
      refine g_icmp_ge (x := i) (y := x) (tgt := 21) C0 (by omega) (by omega) dX6_sumOfFirst_6 rfl (fun c1 => ?_) (fun c2 => ?_)
      · refine lv_iload_n hx hb dX6_sumOfFirst_21 rfl (lv_at hl 1 rfl) ?_
        exact hE (v := nI sm) () (by rw [hs, show i = x by omega]) trivial X dX6_sumOfFirst_22
      · refine lv_iload_n hx hb dX6_sumOfFirst_9 rfl (lv_at hl 1 rfl) ?_
        refine lv_aload_n hx hb dX6_sumOfFirst_10 rfl (lv_at hl 3 rfl) ?_
        refine lv_iload_n hx hb dX6_sumOfFirst_11 rfl (lv_at hl 0 rfl) ?_
        refine g_iald (v := nI (G 3 i)) (i := i) C0 X 4 0 rfl rfl (by omega) rfl rfl dX6_sumOfFirst_12 ?_
        refine g_iadd (n := sm + (G 3 i)) C0 (by first | rfl | omega) dX6_sumOfFirst_13 ?_
        refine lv_istore_n (lv' := [(2, .int (nI (sm + (G 3 i)))), (3, .int (nI i)), (0, .int (nI x)), (1, .ref (h 4))]) hx hb dX6_sumOfFirst_14 rfl hl (by decide) rfl (fun ls hl => ?_)
        refine g_iinc (j := 1) (z := i + 1) (lv' := [(3, .int (nI (i + 1))), (2, .int (nI (sm + (G 3 i)))), (0, .int (nI x)), (1, .ref (h 4))]) C0 rfl (by first | rfl | omega) dX6_sumOfFirst_15 hl (k := 1) rfl (by decide) rfl (fun ls hl => ?_)
        refine lv_goto (tgt := 4) hx hb dX6_sumOfFirst_18 (by decide) ?_
        exact ih4 (i + 1) (sm + (G 3 i)) (by omega) (by omega) (by rw [hs]; rfl) H locs ls X (lv_sub hl [0, 1, 2, 3] rfl)
  exact J4 ((x - 0) + 1) 0 0 (Nat.lt_succ_self _) (by omega) (by rfl) H locs ls X (lv_sub hl [0, 1, 2, 3] rfl)
set_option maxHeartbeats 4000000 in
set_option maxRecDepth 100000 in
theorem c_smB (l : Launch) (D : va_G) (tk : Nat → ClassId) (h : Nat → Nat) (G : Nat → Nat → Nat) (d e : Nat → Nat) (x : Nat) (hx1 : x ≤ 6) : MX l yX6_sumOfFirst cX6_sumOfFirst 4 (some .int) ⟨0, 0, 0, 0⟩ D (TYS tk) [.int (nI x), .ref (h 7)] (gW tk h G d e) (fun (_ : Unit) => True) (fun _ => some (.int (nI (nsum (G 7) x)))) (fun _ => gW tk h G d e) 0 0 := by
  refine MX.of_i (by decide) rfl ?_
  intro zp ze zs zm za zb zt zc zA zQ ls C0 hnm X hl hE
  have hx := C0.1
  have hb := C0.2.1
  have ht := C0.2.2.2.2.1
  have X : Hx D zA zs zs.heap [] (gW tk h G d e) := X
  have hl : lv_has ls 4 [(0, .int (nI x)), (1, .ref (h 7))] := hl
  obtain ⟨H, hH⟩ : ∃ H, H = zs.heap := ⟨_, rfl⟩
  rw [← hH] at X ⊢
  obtain ⟨locs, hlo⟩ : ∃ L : List Loc, L = [] := ⟨_, rfl⟩
  rw [← hlo] at X ⊢
  refine g_iconst (n := 0) C0 rfl dX6_sumOfFirst_0 ?_
  refine lv_istore_n (lv' := [(2, .int (nI 0)), (0, .int (nI x)), (1, .ref (h 7))]) hx hb dX6_sumOfFirst_1 rfl hl (by decide) rfl (fun ls hl => ?_)
  refine g_iconst (n := 0) C0 rfl dX6_sumOfFirst_2 ?_
  refine lv_istore_n (lv' := [(3, .int (nI 0)), (2, .int (nI 0)), (0, .int (nI x)), (1, .ref (h 7))]) hx hb dX6_sumOfFirst_3 rfl hl (by decide) rfl (fun ls hl => ?_)
  have J4 : ∀ (fz : Nat) (i sm : Nat), x - i < fz → ∀ (hi : i ≤ x) (hs : sm = nsum (G 7) i) (H : Heap) (locs : List Loc) (ls : Array Slot), Hx D zA zs H locs (gW tk h G d e) → lv_has ls 4 [(3, .int (nI i)), (2, .int (nI sm)), (0, .int (nI x)), (1, .ref (h 7))] → W zp l ze ⟨0, 0, 0, 0⟩ zs zm za zb zt zc H locs 0 0 zQ (F0 zm 4 ls []) := by
    intro fz
    induction fz with
    | zero => intro i sm hz; exact absurd hz (Nat.not_lt_zero _)
    | succ fz ih4 =>
      intro i sm hz4 hi hs H locs ls X hl
      refine lv_iload_n hx hb dX6_sumOfFirst_4 rfl (lv_at hl 0 rfl) ?_
      refine lv_iload_n hx hb dX6_sumOfFirst_5 rfl (lv_at hl 2 rfl) ?_
      refine g_icmp_ge (x := i) (y := x) (tgt := 21) C0 (by omega) (by omega) dX6_sumOfFirst_6 rfl (fun c1 => ?_) (fun c2 => ?_)
      · refine lv_iload_n hx hb dX6_sumOfFirst_21 rfl (lv_at hl 1 rfl) ?_
        exact hE (v := nI sm) () (by rw [hs, show i = x by omega]) trivial X dX6_sumOfFirst_22
      · refine lv_iload_n hx hb dX6_sumOfFirst_9 rfl (lv_at hl 1 rfl) ?_
        refine lv_aload_n hx hb dX6_sumOfFirst_10 rfl (lv_at hl 3 rfl) ?_
        refine lv_iload_n hx hb dX6_sumOfFirst_11 rfl (lv_at hl 0 rfl) ?_
        refine g_iald (v := nI (G 7 i)) (i := i) C0 X 7 0 rfl rfl (by omega) rfl rfl dX6_sumOfFirst_12 ?_
        refine g_iadd (n := sm + (G 7 i)) C0 (by first | rfl | omega) dX6_sumOfFirst_13 ?_
        refine lv_istore_n (lv' := [(2, .int (nI (sm + (G 7 i)))), (3, .int (nI i)), (0, .int (nI x)), (1, .ref (h 7))]) hx hb dX6_sumOfFirst_14 rfl hl (by decide) rfl (fun ls hl => ?_)
        refine g_iinc (j := 1) (z := i + 1) (lv' := [(3, .int (nI (i + 1))), (2, .int (nI (sm + (G 7 i)))), (0, .int (nI x)), (1, .ref (h 7))]) C0 rfl (by first | rfl | omega) dX6_sumOfFirst_15 hl (k := 1) rfl (by decide) rfl (fun ls hl => ?_)
        refine lv_goto (tgt := 4) hx hb dX6_sumOfFirst_18 (by decide) ?_
        exact ih4 (i + 1) (sm + (G 7 i)) (by omega) (by omega) (by rw [hs]; rfl) H locs ls X (lv_sub hl [0, 1, 2, 3] rfl)
  exact J4 ((x - 0) + 1) 0 0 (Nat.lt_succ_self _) (by omega) (by rfl) H locs ls X (lv_sub hl [0, 1, 2, 3] rfl)
set_option maxHeartbeats 4000000 in
set_option maxRecDepth 100000 in
theorem c_X6_power (l : Launch) (D : va_G) (tk : Nat → ClassId) (b e1 : Nat) (hb1 : b ≤ 10) (he1 : e1 ≤ 9) : MX l yX6_power cX6_power 5 (some .long) ⟨0, 0, 0, 0⟩ D (TYS tk) [.int (nI b), .int (nI e1)] ([]) (fun (_ : Unit) => True) (fun _ => some (.long (lN (b ^ e1)))) (fun _ => []) 0 0 := by
  refine MX.of_l (by decide) rfl ?_
  intro zp ze zs zm za zb zt zc zA zQ ls C0 hnm X hl hE
  have hx := C0.1
  have hb := C0.2.1
  have ht := C0.2.2.2.2.1
  have X : Hx D zA zs zs.heap [] ([]) := X
  have hl : lv_has ls 5 [(0, .int (nI b)), (1, .int (nI e1))] := hl
  obtain ⟨H, hH⟩ : ∃ H, H = zs.heap := ⟨_, rfl⟩
  rw [← hH] at X ⊢
  obtain ⟨locs, hlo⟩ : ∃ L : List Loc, L = [] := ⟨_, rfl⟩
  rw [← hlo] at X ⊢
  refine g_lconst (n := 1) C0 rfl dX6_power_0 ?_
  refine lv_lstore_n (lv' := [(2, .long (lN 1)), (0, .int (nI b)), (1, .int (nI e1))]) hx hb dX6_power_1 rfl hl (by decide) rfl (fun ls hl => ?_)
  refine g_iconst (n := 0) C0 rfl dX6_power_2 ?_
  refine lv_istore (lv' := [(4, .int (nI 0)), (2, .long (lN 1)), (0, .int (nI b)), (1, .int (nI e1))]) hx hb dX6_power_3 hl (by decide) rfl (fun ls hl => ?_)
  have J5 : ∀ (fz : Nat) (i pr : Nat), e1 - i < fz → ∀ (hi : i ≤ e1) (hp : pr = b ^ i) (H : Heap) (locs : List Loc) (ls : Array Slot), Hx D zA zs H locs ([]) → lv_has ls 5 [(4, .int (nI i)), (2, .long (lN pr)), (0, .int (nI b)), (1, .int (nI e1))] → W zp l ze ⟨0, 0, 0, 0⟩ zs zm za zb zt zc H locs 0 0 zQ (F0 zm 5 ls []) := by
    intro fz
    induction fz with
    | zero => intro i pr hz; exact absurd hz (Nat.not_lt_zero _)
    | succ fz ih5 =>
      intro i pr hz5 hi hp H locs ls X hl
      refine lv_iload hx hb dX6_power_5 (lv_at hl 0 rfl) ?_
      refine lv_iload_n hx hb dX6_power_7 rfl (lv_at hl 3 rfl) ?_
      refine g_icmp_ge (x := i) (y := e1) (tgt := 22) C0 (by omega) (by omega) dX6_power_8 rfl (fun c1 => ?_) (fun c2 => ?_)
      · refine lv_lload_n hx hb dX6_power_22 rfl (lv_at hl 1 rfl) ?_
        exact hE (v := lN pr) () (by rw [hp, show i = e1 by omega]) trivial X dX6_power_23
      · refine lv_lload_n hx hb dX6_power_11 rfl (lv_at hl 1 rfl) ?_
        refine lv_iload_n hx hb dX6_power_12 rfl (lv_at hl 2 rfl) ?_
        refine g_i2l C0 (by omega) dX6_power_13 ?_
        refine g_lmul (n := pr * b) C0 rfl dX6_power_14 ?_
        refine lv_lstore_n (lv' := [(2, .long (lN (pr * b))), (4, .int (nI i)), (0, .int (nI b)), (1, .int (nI e1))]) hx hb dX6_power_15 rfl hl (by decide) rfl (fun ls hl => ?_)
        refine g_iinc (j := 1) (z := i + 1) (lv' := [(4, .int (nI (i + 1))), (2, .long (lN (pr * b))), (0, .int (nI b)), (1, .int (nI e1))]) C0 rfl (by first | rfl | omega) dX6_power_16 hl (k := 1) rfl (by decide) rfl (fun ls hl => ?_)
        refine lv_goto (tgt := 5) hx hb dX6_power_19 (by decide) ?_
        exact ih5 (i + 1) (pr * b) (by omega) (by omega) (by rw [hp]; rfl) H locs ls X (lv_sub hl [0, 1, 2, 3] rfl)
  exact J5 ((e1 - 0) + 1) 0 1 (Nat.lt_succ_self _) (by omega) (by rfl) H locs ls X (lv_sub hl [0, 1, 2, 3] rfl)
set_option maxHeartbeats 4000000 in
set_option maxRecDepth 100000 in
theorem c_X6_commonDivisor (l : Launch) (D : va_G) (tk : Nat → ClassId) (a b : Nat) (ha : a < 2 ^ 44) (hb2 : b < 2 ^ 34) : MX l yX6_commonDivisor cX6_commonDivisor 11 (some .long) ⟨0, 0, 0, 0⟩ D (TYS tk) [.long (lN a), .long (lN b)] ([]) (fun (_ : Unit) => True) (fun _ => some (.long (lN (Nat.gcd a b)))) (fun _ => []) 0 0 := by
  refine MX.of_l (by decide) rfl ?_
  intro zp ze zs zm za zb zt zc zA zQ ls C0 hnm X hl hE
  have hx := C0.1
  have hb := C0.2.1
  have ht := C0.2.2.2.2.1
  have X : Hx D zA zs zs.heap [] ([]) := X
  have hl : lv_has ls 11 [(0, .long (lN a)), (2, .long (lN b))] := hl
  obtain ⟨H, hH⟩ : ∃ H, H = zs.heap := ⟨_, rfl⟩
  rw [← hH] at X ⊢
  obtain ⟨locs, hlo⟩ : ∃ L : List Loc, L = [] := ⟨_, rfl⟩
  rw [← hlo] at X ⊢
  refine lv_lload_n hx hb dX6_commonDivisor_0 rfl (lv_at hl 0 rfl) ?_
  refine lv_lstore (lv' := [(4, .long (lN a)), (0, .long (lN a)), (2, .long (lN b))]) hx hb dX6_commonDivisor_1 hl (by decide) rfl (fun ls hl => ?_)
  refine lv_lload_n hx hb dX6_commonDivisor_3 rfl (lv_at hl 2 rfl) ?_
  refine lv_lstore (lv' := [(6, .long (lN b)), (4, .long (lN a)), (0, .long (lN a)), (2, .long (lN b))]) hx hb dX6_commonDivisor_4 hl (by decide) rfl (fun ls hl => ?_)
  refine g_iconst (n := 0) C0 rfl dX6_commonDivisor_6 ?_
  refine lv_istore (lv' := [(8, .int (nI 0)), (6, .long (lN b)), (4, .long (lN a)), (0, .long (lN a)), (2, .long (lN b))]) hx hb dX6_commonDivisor_7 hl (by decide) rfl (fun ls hl => ?_)
  have J9 : ∀ (fz : Nat) (gg ll st : Nat), 101 - st < fz → ∀ (hg : Nat.gcd gg ll = Nat.gcd a b) (hg1 : gg < 2 ^ 44) (hl1 : ll < 2 ^ 44) (hst : st ≤ 100) (hpo : gcdQ gg ll st) (H : Heap) (locs : List Loc) (ls : Array Slot), Hx D zA zs H locs ([]) → lv_has ls 11 [(8, .int (nI st)), (6, .long (lN ll)), (4, .long (lN gg)), (0, .long (lN a)), (2, .long (lN b))] → W zp l ze ⟨0, 0, 0, 0⟩ zs zm za zb zt zc H locs 0 0 zQ (F0 zm 9 ls []) := by
    intro fz
    induction fz with
    | zero => intro gg ll st hz; exact absurd hz (Nat.not_lt_zero _)
    | succ fz ih9 =>
      intro gg ll st hz9 hg hg1 hl1 hst hpo H locs ls X hl
      refine lv_iload hx hb dX6_commonDivisor_9 (lv_at hl 0 rfl) ?_
      refine g_bipush (n := 100) C0 (by decide) dX6_commonDivisor_11 ?_
      refine g_icmp_ge (x := st) (y := 100) (tgt := 44) C0 (by omega) (by omega) dX6_commonDivisor_13 rfl (fun c1 => ?_) (fun c2 => ?_)
      · refine lv_lload hx hb dX6_commonDivisor_44 (lv_at hl 2 rfl) ?_
        exact hE (v := lN gg) () (by rw [← hg, show ll = 0 from gcdQ_e hpo (by omega), Nat.gcd_zero_right]) trivial X dX6_commonDivisor_46
      · refine lv_lload hx hb dX6_commonDivisor_16 (lv_at hl 1 rfl) ?_
        refine g_lconst (n := 0) C0 rfl dX6_commonDivisor_18 ?_
        refine g_lcmp_eq C0 (by omega) (by omega) dX6_commonDivisor_19 dX6_commonDivisor_20 rfl (fun c3 => ?_) (fun c4 => ?_)
        · refine lv_lload hx hb dX6_commonDivisor_44 (lv_at hl 2 rfl) ?_
          exact hE (v := lN gg) () (by rw [← hg, show ll = 0 from c3, Nat.gcd_zero_right]) trivial X dX6_commonDivisor_46
        · refine lv_lload hx hb dX6_commonDivisor_23 (lv_at hl 2 rfl) ?_
          refine lv_lload hx hb dX6_commonDivisor_25 (lv_at hl 1 rfl) ?_
          refine g_lrem (n := gg % ll) C0 (by omega) rfl dX6_commonDivisor_27 ?_
          have hml := Nat.mod_lt gg (show 0 < ll by omega)
          refine lv_lstore (lv' := [(9, .long (lN (gg % ll))), (8, .int (nI st)), (6, .long (lN ll)), (4, .long (lN gg)), (0, .long (lN a)), (2, .long (lN b))]) hx hb dX6_commonDivisor_28 hl (by decide) rfl (fun ls hl => ?_)
          refine lv_lload hx hb dX6_commonDivisor_30 (lv_at hl 2 rfl) ?_
          refine lv_lstore (lv' := [(4, .long (lN ll)), (9, .long (lN (gg % ll))), (8, .int (nI st)), (6, .long (lN ll)), (0, .long (lN a)), (2, .long (lN b))]) hx hb dX6_commonDivisor_32 hl (by decide) rfl (fun ls hl => ?_)
          refine lv_lload hx hb dX6_commonDivisor_34 (lv_at hl 1 rfl) ?_
          refine lv_lstore (lv' := [(6, .long (lN (gg % ll))), (4, .long (lN ll)), (9, .long (lN (gg % ll))), (8, .int (nI st)), (0, .long (lN a)), (2, .long (lN b))]) hx hb dX6_commonDivisor_36 hl (by decide) rfl (fun ls hl => ?_)
          refine g_iinc (j := 1) (z := st + 1) (lv' := [(8, .int (nI (st + 1))), (6, .long (lN (gg % ll))), (4, .long (lN ll)), (9, .long (lN (gg % ll))), (0, .long (lN a)), (2, .long (lN b))]) C0 rfl (by first | rfl | omega) dX6_commonDivisor_38 hl (k := 3) rfl (by decide) rfl (fun ls hl => ?_)
          refine lv_goto (tgt := 9) hx hb dX6_commonDivisor_41 (by decide) ?_
          exact ih9 ll (gg % ll) (st + 1) (by omega) (by rw [Nat.gcd_comm, ← Nat.gcd_rec, Nat.gcd_comm]; exact hg) (by omega) (by exact Nat.lt_trans (Nat.mod_lt _ (by omega)) hl1) (by omega) (by exact gcdQ_s (by omega) hg1 hl1 hpo) H locs ls X (lv_sub hl [0, 1, 2, 4, 5] rfl)
  exact J9 ((101 - 0) + 1) a b 0 (Nat.lt_succ_self _) (by rfl) (by omega) (by omega) (by omega) (by exact gcdQ_0 ha hb2) H locs ls X (lv_sub hl [0, 1, 2, 3, 4] rfl)
set_option maxHeartbeats 4000000 in
set_option maxRecDepth 100000 in
theorem c_X6_isKept (l : Launch) (D : va_G) (tk : Nat → ClassId) (a : Nat) (hL hT : Nat → Nat) (im bs rd : Nat) (hS : Nat → Nat) (sh kb rf : Nat) (k : Nat) (hk : k < 2) (hkb : kb < 4) : MX l yX6_isKept cX6_isKept 2 (some .boolean) ⟨0, 0, 0, 0⟩ D (TYS tk) [.ref a, .int (nI k)] (lW a hL hT im bs rd hS sh kb rf) (fun (_ : Unit) => True) (fun _ => some (.int (nI (rb (kb.testBit k))))) (fun _ => lW a hL hT im bs rd hS sh kb rf) 0 0 := by
  refine MX.of_z (by decide) rfl ?_
  intro zp ze zs zm za zb zt zc zA zQ ls C0 hnm X hl hE
  have hx := C0.1
  have hb := C0.2.1
  have ht := C0.2.2.2.2.1
  have X : Hx D zA zs zs.heap [] (lW a hL hT im bs rd hS sh kb rf) := X
  have hl : lv_has ls 2 [(0, .ref a), (1, .int (nI k))] := hl
  obtain ⟨H, hH⟩ : ∃ H, H = zs.heap := ⟨_, rfl⟩
  rw [← hH] at X ⊢
  obtain ⟨locs, hlo⟩ : ∃ L : List Loc, L = [] := ⟨_, rfl⟩
  rw [← hlo] at X ⊢
  refine lv_aload_n hx hb dX6_isKept_0 rfl (lv_at hl 0 rfl) ?_
  refine g_get (v := .int (nI kb)) C0 X kX6 0 7 tb207 rfl rfl rfl dX6_isKept_1 ?_
  refine g_iconst (n := 1) C0 rfl dX6_isKept_4 ?_
  refine lv_iload_n hx hb dX6_isKept_5 rfl (lv_at hl 1 rfl) ?_
  refine g_ishl (n := 2 ^ k) C0 (by exact sh_ok (by omega)) (by first | exact Nat.one_mul _ | rfl) dX6_isKept_6 ?_
  refine g_iand (n := kb &&& (2 ^ k)) C0 rfl dX6_isKept_7 ?_
  refine g_ifeq (x := kb &&& (2 ^ k)) (tgt := 15) C0 (by exact and_31 (by omega)) dX6_isKept_8 rfl (fun c1 => ?_) (fun c2 => ?_)
  · refine g_iconst (n := 0) C0 rfl dX6_isKept_15 ?_
    exact hE (v := false) () (by first | rw [and_pow_t c1] | rw [and_pow_f c1]) trivial X dX6_isKept_16
  · refine g_iconst (n := 1) C0 rfl dX6_isKept_11 ?_
    refine lv_goto (tgt := 16) hx hb dX6_isKept_12 (by decide) ?_
    exact hE (v := true) () (by first | rw [and_pow_t c2] | rw [and_pow_f c2]) trivial X dX6_isKept_16
set_option maxHeartbeats 4000000 in
set_option maxRecDepth 100000 in
theorem c_X6_isImage (l : Launch) (D : va_G) (tk : Nat → ClassId) (a : Nat) (hL hT : Nat → Nat) (im bs rd : Nat) (hS : Nat → Nat) (sh kb rf : Nat) (x0 x1 : Nat) (x : Int32) : MX l yX6_isImage cX6_isImage 2 (some .boolean) ⟨1, 0, 0, 22⟩ D (TYS tk) [.ref a, .int x] (lW a hL hT im bs rd hS sh kb rf ++ imW tk im x0 x1) (fun (_ : Unit) => True) (fun _ => some (.int (nI (rb (rg x 0 1))))) (fun _ => lW a hL hT im bs rd hS sh kb rf ++ imW tk im x0 x1) 0 0 := by
  refine MX.of_z (by decide) rfl ?_
  intro zp ze zs zm za zb zt zc zA zQ ls C0 hnm X hl hE
  have hx := C0.1
  have hb := C0.2.1
  have ht := C0.2.2.2.2.1
  have X : Hx D zA zs zs.heap [] (lW a hL hT im bs rd hS sh kb rf ++ imW tk im x0 x1) := X
  have hl : lv_has ls 2 [(0, .ref a), (1, .int x)] := hl
  obtain ⟨H, hH⟩ : ∃ H, H = zs.heap := ⟨_, rfl⟩
  rw [← hH] at X ⊢
  obtain ⟨locs, hlo⟩ : ∃ L : List Loc, L = [] := ⟨_, rfl⟩
  rw [← hlo] at X ⊢
  refine lv_iload_n hx hb dX6_isImage_0 rfl (lv_at hl 1 rfl) ?_
  refine g_iconst (n := 0) C0 rfl dX6_isImage_1 ?_
  refine lv_aload_n hx hb dX6_isImage_2 rfl (lv_at hl 0 rfl) ?_
  refine g_get (v := .ref im) C0 X kX6 0 2 tb202 rfl rfl rfl dX6_isImage_3 ?_
  refine g_alen (n := 2) C0 X 1 3 rfl rfl rfl dX6_isImage_6 ?_
  refine g_iconst (n := 1) C0 rfl dX6_isImage_7 ?_
  refine g_isub (n := 2 - 1) C0 (by omega) rfl dX6_isImage_8 ?_
  refine g_callS (As := [.int x, .int (nI 0), .int (nI (2 - 1))]) (rest := []) (wr := (lW a hL hT im bs rd hS sh kb rf ++ imW tk im x0 x1)) (C0.sz hl) X (c_X6_within l D tk x (nI 0) (nI (2 - 1))) ⟨tb232, tb234, tb1, ⟨by decide, by decide, rfl⟩, rfl, rfl, Nat.le_of_ble_eq_true rfl, Nat.le_of_ble_eq_true rfl⟩ tb233 rfl [] [0, 1] rfl rfl rfl rfl rfl (Nat.le_of_ble_eq_true rfl) ⟨Nat.le_of_ble_eq_true rfl, Nat.le_of_ble_eq_true rfl⟩ dX6_isImage_9 (fun _ H locs _ X => ?_)
  have X : Hx D zA zs H locs (lW a hL hT im bs rd hS sh kb rf ++ imW tk im x0 x1) := X
  refine g_top (y := nI (rb (rg x 0 (2 - 1)))) (by rw [inI_rg x (by first | decide | omega) (by first | decide | omega)]) ?_
  exact hE (v := rg x 0 (2 - 1)) () rfl trivial X dX6_isImage_12
set_option maxHeartbeats 4000000 in
set_option maxRecDepth 100000 in
theorem c_X6_isSheet (l : Launch) (D : va_G) (tk : Nat → ClassId) (a : Nat) (hL hT : Nat → Nat) (im bs rd : Nat) (hS : Nat → Nat) (sh kb rf : Nat) (y0 y1 y2 y3 : Nat) (x : Int32) : MX l yX6_isSheet cX6_isSheet 2 (some .boolean) ⟨1, 0, 0, 22⟩ D (TYS tk) [.ref a, .int x] (lW a hL hT im bs rd hS sh kb rf ++ hsW tk sh y0 y1 y2 y3) (fun (_ : Unit) => True) (fun _ => some (.int (nI (rb (rg x 0 3))))) (fun _ => lW a hL hT im bs rd hS sh kb rf ++ hsW tk sh y0 y1 y2 y3) 0 0 := by
  refine MX.of_z (by decide) rfl ?_
  intro zp ze zs zm za zb zt zc zA zQ ls C0 hnm X hl hE
  have hx := C0.1
  have hb := C0.2.1
  have ht := C0.2.2.2.2.1
  have X : Hx D zA zs zs.heap [] (lW a hL hT im bs rd hS sh kb rf ++ hsW tk sh y0 y1 y2 y3) := X
  have hl : lv_has ls 2 [(0, .ref a), (1, .int x)] := hl
  obtain ⟨H, hH⟩ : ∃ H, H = zs.heap := ⟨_, rfl⟩
  rw [← hH] at X ⊢
  obtain ⟨locs, hlo⟩ : ∃ L : List Loc, L = [] := ⟨_, rfl⟩
  rw [← hlo] at X ⊢
  refine lv_iload_n hx hb dX6_isSheet_0 rfl (lv_at hl 1 rfl) ?_
  refine g_iconst (n := 0) C0 rfl dX6_isSheet_1 ?_
  refine lv_aload_n hx hb dX6_isSheet_2 rfl (lv_at hl 0 rfl) ?_
  refine g_get (v := .ref sh) C0 X kX6 0 6 tb206 rfl rfl rfl dX6_isSheet_3 ?_
  refine g_alen (n := 4) C0 X 1 4 rfl rfl rfl dX6_isSheet_6 ?_
  refine g_iconst (n := 1) C0 rfl dX6_isSheet_7 ?_
  refine g_isub (n := 4 - 1) C0 (by omega) rfl dX6_isSheet_8 ?_
  refine g_callS (As := [.int x, .int (nI 0), .int (nI (4 - 1))]) (rest := []) (wr := (lW a hL hT im bs rd hS sh kb rf ++ hsW tk sh y0 y1 y2 y3)) (C0.sz hl) X (c_X6_within l D tk x (nI 0) (nI (4 - 1))) ⟨tb232, tb234, tb1, ⟨by decide, by decide, rfl⟩, rfl, rfl, Nat.le_of_ble_eq_true rfl, Nat.le_of_ble_eq_true rfl⟩ tb233 rfl [] [0, 1] rfl rfl rfl rfl rfl (Nat.le_of_ble_eq_true rfl) ⟨Nat.le_of_ble_eq_true rfl, Nat.le_of_ble_eq_true rfl⟩ dX6_isSheet_9 (fun _ H locs _ X => ?_)
  have X : Hx D zA zs H locs (lW a hL hT im bs rd hS sh kb rf ++ hsW tk sh y0 y1 y2 y3) := X
  refine g_top (y := nI (rb (rg x 0 (4 - 1)))) (by rw [inI_rg x (by first | decide | omega) (by first | decide | omega)]) ?_
  exact hE (v := rg x 0 (4 - 1)) () rfl trivial X dX6_isSheet_12
set_option maxHeartbeats 4000000 in
set_option maxRecDepth 100000 in
theorem c_X6_wind (l : Launch) (D : va_G) (tk : Nat → ClassId) (a : Nat) (hL hT : Nat → Nat) (im bs rd : Nat) (hS : Nat → Nat) (sh kb rf : Nat) (G : Nat → Nat → Nat) (d e : Nat → Nat) (x : Int32) (hw : GW G) : MX l yX6_wind cX6_wind 3 (some .int) ⟨1, 0, 0, 22⟩ D (TYS tk) [.ref a, .int x] (lW a hL hT im bs rd hS sh kb rf ++ gW tk hL G d e) (fun (_ : Unit) => True) (fun _ => some (.int (a_wind (cgv G) x))) (fun _ => lW a hL hT im bs rd hS sh kb rf ++ gW tk hL (windG G x) d e) 0 0 := by
  refine MX.of_i (by decide) rfl ?_
  intro zp ze zs zm za zb zt zc zA zQ ls C0 hnm X hl hE
  have hx := C0.1
  have hb := C0.2.1
  have ht := C0.2.2.2.2.1
  have X : Hx D zA zs zs.heap [] (lW a hL hT im bs rd hS sh kb rf ++ gW tk hL G d e) := X
  have hl : lv_has ls 3 [(0, .ref a), (1, .int x)] := hl
  obtain ⟨hw1, hw2, hw3, hw4, hw5, hw6, hw7, hw8⟩ := id hw
  obtain ⟨H, hH⟩ : ∃ H, H = zs.heap := ⟨_, rfl⟩
  rw [← hH] at X ⊢
  obtain ⟨locs, hlo⟩ : ∃ L : List Loc, L = [] := ⟨_, rfl⟩
  rw [← hlo] at X ⊢
  refine lv_iload_n hx hb dX6_wind_0 rfl (lv_at hl 1 rfl) ?_
  refine g_iconst (n := 0) C0 rfl dX6_wind_1 ?_
  refine g_bipush (n := 20) C0 (by decide) dX6_wind_2 ?_
  refine g_callS (As := [.int x, .int (nI 0), .int (nI 20)]) (rest := []) (wr := (lW a hL hT im bs rd hS sh kb rf ++ gW tk hL G d e)) (C0.sz hl) X (c_X6_within l D tk x (nI 0) (nI 20)) ⟨tb232, tb234, tb1, ⟨by decide, by decide, rfl⟩, rfl, rfl, Nat.le_of_ble_eq_true rfl, Nat.le_of_ble_eq_true rfl⟩ tb233 rfl [] [0, 1, 2, 3, 4, 5, 6, 7, 8, 9, 10] rfl rfl rfl rfl rfl (Nat.le_of_ble_eq_true rfl) ⟨Nat.le_of_ble_eq_true rfl, Nat.le_of_ble_eq_true rfl⟩ dX6_wind_4 (fun _ H locs _ X => ?_)
  have X : Hx D zA zs H locs (lW a hL hT im bs rd hS sh kb rf ++ gW tk hL G d e) := X
  refine g_top (y := nI (rb (rg x 0 20))) (by rw [inI_rg x (by first | decide | omega) (by first | decide | omega)]) ?_
  refine g_ifneB (x := rg x 0 20) (tgt := 12) C0 dX6_wind_7 rfl (fun c1 => ?_) (fun c2 => ?_)
  · obtain ⟨xq, hk_xqa, hk_xqb, hk_xqc, rfl⟩ := rg_sp c1
    refine lv_aload_n hx hb dX6_wind_12 rfl (lv_at hl 0 rfl) ?_
    refine g_get (v := .ref (hL 0)) C0 X kX6 0 0 tb200 rfl rfl rfl dX6_wind_13 ?_
    refine g_get (v := .int (nI (G 8 2))) C0 X kX1 1 7 tb49 rfl rfl rfl dX6_wind_16 ?_
    refine lv_istore_n (lv' := [(2, .int (nI (G 8 2))), (0, .ref a), (1, .int (nI xq))]) hx hb dX6_wind_19 rfl hl (by decide) rfl (fun ls hl => ?_)
    refine lv_aload_n hx hb dX6_wind_20 rfl (lv_at hl 1 rfl) ?_
    refine g_get (v := .ref (hL 0)) C0 X kX6 0 0 tb200 rfl rfl rfl dX6_wind_21 ?_
    refine lv_iload_n hx hb dX6_wind_24 rfl (lv_at hl 2 rfl) ?_
    refine g_put (v := .int (nI xq)) (ft := .int) C0 X kX1 1 7 tb49 rfl rfl rfl rfl rfl rfl rfl dX6_wind_25 (fun H locs X => ?_)
    have X : Hx D zA zs H locs (lW a hL hT im bs rd hS sh kb rf ++ gW tk hL (u2 G 8 2 xq) d e) := X
    refine lv_iload_n hx hb dX6_wind_28 rfl (lv_at hl 0 rfl) ?_
    exact hE (v := nI (G 8 2)) () (by simp [a_wind, cg0, cg1, cg2, cg3, cg5, cg6, cg7, cg8, c1, tn_nI (k := xq) (by omega)]) trivial (X.to (by simp [windG, c1, tn_nI (k := xq) (by omega)])) dX6_wind_29
  · refine lv_iconst (v := (-1)) hx hb dX6_wind_10 (by decide) ?_
    exact hE (v := (-1)) () (by simp [a_wind, cg0, cg1, cg2, cg3, cg5, cg6, cg7, cg8, c2]) trivial (X.to (by simp [windG, c2])) dX6_wind_11
set_option maxHeartbeats 4000000 in
set_option maxRecDepth 100000 in
theorem c_X6_far (l : Launch) (D : va_G) (tk : Nat → ClassId) (a : Nat) (hL hT : Nat → Nat) (im bs rd : Nat) (hS : Nat → Nat) (sh kb rf : Nat) (G : Nat → Nat → Nat) (d e : Nat → Nat) (x y : Int32) (hw : GW G) : MX l yX6_far cX6_far 4 (some .int) ⟨3, 0, 0, 89⟩ D (TYS tk) [.ref a, .int x, .int y] (lW a hL hT im bs rd hS sh kb rf ++ gW tk hL G d e) (fun (u : (Nat → Nat) × (Nat → Nat)) => True) (fun u => some (.int (a_far (cgv G) x y))) (fun u => lW a hL hT im bs rd hS sh kb rf ++ gW tk hL G u.1 u.2) 0 0 := by
  refine MX.of_i (by decide) rfl ?_
  intro zp ze zs zm za zb zt zc zA zQ ls C0 hnm X hl hE
  have hx := C0.1
  have hb := C0.2.1
  have ht := C0.2.2.2.2.1
  have X : Hx D zA zs zs.heap [] (lW a hL hT im bs rd hS sh kb rf ++ gW tk hL G d e) := X
  have hl : lv_has ls 4 [(0, .ref a), (1, .int x), (2, .int y)] := hl
  obtain ⟨hw1, hw2, hw3, hw4, hw5, hw6, hw7, hw8⟩ := id hw
  obtain ⟨H, hH⟩ : ∃ H, H = zs.heap := ⟨_, rfl⟩
  rw [← hH] at X ⊢
  obtain ⟨locs, hlo⟩ : ∃ L : List Loc, L = [] := ⟨_, rfl⟩
  rw [← hlo] at X ⊢
  refine lv_aload_n hx hb dX6_far_0 rfl (lv_at hl 0 rfl) ?_
  refine g_get (v := .ref (hL 0)) C0 X kX6 0 0 tb200 rfl rfl rfl dX6_far_1 ?_
  refine lv_iload_n hx hb dX6_far_4 rfl (lv_at hl 1 rfl) ?_
  refine g_callV (As := [.int x]) (rest := []) (wr := (lW a hL hT im bs rd hS sh kb rf)) (C0.sz hl) X (c_X1_hasTree l D tk hL G d e x (by first | assumption | omega)) ⟨tb456, tb390, tb2, ⟨by decide, by decide, rfl⟩, rfl, rfl, Nat.le_of_ble_eq_true rfl, Nat.le_of_ble_eq_true rfl⟩ tb388 tb389 1 1 rfl rfl rfl rfl [1, 2, 3, 4, 5, 6, 7, 8, 9, 10] [0] rfl rfl rfl rfl rfl (Nat.le_of_ble_eq_true rfl) ⟨Nat.le_of_ble_eq_true rfl, Nat.le_of_ble_eq_true rfl⟩ dX6_far_5 (fun _ H locs _ X => ?_)
  have X : Hx D zA zs H locs (lW a hL hT im bs rd hS sh kb rf ++ gW tk hL G d e) := X
  refine g_ifeqB (x := ix x (G 8 0)) (tgt := 22) C0 dX6_far_8 rfl (fun c1 => ?_) (fun c2 => ?_)
  · refine lv_iconst (v := (-1)) hx hb dX6_far_22 (by decide) ?_
    exact hE (v := (-1)) (d, e) (by simp [a_far, cg0, cg1, cg2, cg3, cg5, cg6, cg7, cg8, c1]) trivial X dX6_far_23
  · obtain ⟨xq, hk_xq, rfl⟩ := ix_sp c2
    refine lv_aload_n hx hb dX6_far_11 rfl (lv_at hl 0 rfl) ?_
    refine g_get (v := .ref (hL 0)) C0 X kX6 0 0 tb200 rfl rfl rfl dX6_far_12 ?_
    refine lv_iload_n hx hb dX6_far_15 rfl (lv_at hl 2 rfl) ?_
    refine g_callV (As := [.int y]) (rest := []) (wr := (lW a hL hT im bs rd hS sh kb rf)) (C0.sz hl) X (c_X1_hasTree l D tk hL G d e y (by first | assumption | omega)) ⟨tb456, tb390, tb2, ⟨by decide, by decide, rfl⟩, rfl, rfl, Nat.le_of_ble_eq_true rfl, Nat.le_of_ble_eq_true rfl⟩ tb388 tb389 1 1 rfl rfl rfl rfl [1, 2, 3, 4, 5, 6, 7, 8, 9, 10] [0] rfl rfl rfl rfl rfl (Nat.le_of_ble_eq_true rfl) ⟨Nat.le_of_ble_eq_true rfl, Nat.le_of_ble_eq_true rfl⟩ dX6_far_16 (fun _ H locs _ X => ?_)
    have X : Hx D zA zs H locs (lW a hL hT im bs rd hS sh kb rf ++ gW tk hL G d e) := X
    refine g_ifneB (x := ix y (G 8 0)) (tgt := 24) C0 dX6_far_19 rfl (fun c3 => ?_) (fun c4 => ?_)
    · obtain ⟨yq, hk_yq, rfl⟩ := ix_sp c3
      refine lv_aload_n hx hb dX6_far_24 rfl (lv_at hl 0 rfl) ?_
      refine g_get (v := .ref (hL 0)) C0 X kX6 0 0 tb200 rfl rfl rfl dX6_far_25 ?_
      refine lv_iload_n hx hb dX6_far_28 rfl (lv_at hl 1 rfl) ?_
      refine g_callV (As := [.int (nI xq)]) (rest := []) (wr := (lW a hL hT im bs rd hS sh kb rf)) (C0.sz hl) X (c_X1_measure l D tk hL G d e xq (by first | assumption | omega) (by first | assumption | omega)) ⟨tb494, tb422, tb2, ⟨by decide, by decide, rfl⟩, rfl, rfl, Nat.le_of_ble_eq_true rfl, Nat.le_of_ble_eq_true rfl⟩ tb420 tb421 1 1 rfl rfl rfl rfl [1, 2, 3, 4, 5, 6, 7, 8, 9, 10] [0] rfl rfl rfl rfl rfl (Nat.le_of_ble_eq_true rfl) ⟨Nat.le_of_ble_eq_true rfl, Nat.le_of_ble_eq_true rfl⟩ dX6_far_29 (fun _ H locs _ X => ?_)
      have X : Hx D zA zs H locs (lW a hL hT im bs rd hS sh kb rf ++ gW tk hL G (dist (cgv G) xq) e) := X
      refine lv_iload_n hx hb dX6_far_32 rfl (lv_at hl 2 rfl) ?_
      refine g_iald (v := nI ((dist (cgv G) xq) yq)) (i := yq) C0 X 9 0 rfl rfl (by omega) rfl rfl dX6_far_33 ?_
      refine lv_istore_n (lv' := [(3, .int (nI ((dist (cgv G) xq) yq))), (0, .ref a), (1, .int (nI xq)), (2, .int (nI yq))]) hx hb dX6_far_34 rfl hl (by decide) rfl (fun ls hl => ?_)
      refine lv_iload_n hx hb dX6_far_35 rfl (lv_at hl 0 rfl) ?_
      have hL := dist_le (cgv G) xq yq
      refine g_sipush (n := 1000) C0 (by decide) dX6_far_36 ?_
      refine g_icmp_ne (x := (dist (cgv G) xq) yq) (y := 1000) (tgt := 47) C0 (by omega) (by omega) dX6_far_39 rfl (fun c5 => ?_) (fun c6 => ?_)
      · refine lv_iload_n hx hb dX6_far_47 rfl (lv_at hl 0 rfl) ?_
        exact hE (v := nI ((dist (cgv G) xq) yq)) ((dist (cgv G) xq), e) (by simp [a_far, cg0, cg1, cg2, cg3, cg5, cg6, cg7, cg8, c2, c3, c5, tn_nI (k := xq) (by omega), tn_nI (k := yq) (by omega)]) trivial X dX6_far_48
      · refine lv_bipush (v := (-4)) hx hb dX6_far_42 (by decide) ?_
        refine lv_goto (tgt := 48) hx hb dX6_far_44 (by decide) ?_
        exact hE (v := (-4)) ((dist (cgv G) xq), e) (by simp [a_far, cg0, cg1, cg2, cg3, cg5, cg6, cg7, cg8, c2, c3, c6, tn_nI (k := xq) (by omega), tn_nI (k := yq) (by omega)]) trivial X dX6_far_48
    · refine lv_iconst (v := (-1)) hx hb dX6_far_22 (by decide) ?_
      exact hE (v := (-1)) (d, e) (by simp [a_far, cg0, cg1, cg2, cg3, cg5, cg6, cg7, cg8, c2, c4, tn_nI (k := xq) (by omega)]) trivial X dX6_far_23
set_option maxHeartbeats 4000000 in
set_option maxRecDepth 100000 in
theorem c_X6_loud (l : Launch) (D : va_G) (tk : Nat → ClassId) (a : Nat) (hL hT : Nat → Nat) (im bs rd : Nat) (hS : Nat → Nat) (sh kb rf : Nat) (G : Nat → Nat → Nat) (d e : Nat → Nat) (x y z : Int32) (hw : GW G) : MX l yX6_loud cX6_loud 4 (some .int) ⟨3, 0, 0, 89⟩ D (TYS tk) [.ref a, .int x, .int y, .int z] (lW a hL hT im bs rd hS sh kb rf ++ gW tk hL G d e) (fun (u : (Nat → Nat) × (Nat → Nat)) => True) (fun u => some (.int (a_loud (cgv G) x y z))) (fun u => lW a hL hT im bs rd hS sh kb rf ++ gW tk hL G u.1 u.2) 0 0 := by
  refine MX.of_i (by decide) rfl ?_
  intro zp ze zs zm za zb zt zc zA zQ ls C0 hnm X hl hE
  have hx := C0.1
  have hb := C0.2.1
  have ht := C0.2.2.2.2.1
  have X : Hx D zA zs zs.heap [] (lW a hL hT im bs rd hS sh kb rf ++ gW tk hL G d e) := X
  have hl : lv_has ls 4 [(0, .ref a), (1, .int x), (2, .int y), (3, .int z)] := hl
  obtain ⟨hw1, hw2, hw3, hw4, hw5, hw6, hw7, hw8⟩ := id hw
  obtain ⟨H, hH⟩ : ∃ H, H = zs.heap := ⟨_, rfl⟩
  rw [← hH] at X ⊢
  obtain ⟨locs, hlo⟩ : ∃ L : List Loc, L = [] := ⟨_, rfl⟩
  rw [← hlo] at X ⊢
  refine lv_aload_n hx hb dX6_loud_0 rfl (lv_at hl 0 rfl) ?_
  refine g_get (v := .ref (hL 0)) C0 X kX6 0 0 tb200 rfl rfl rfl dX6_loud_1 ?_
  refine lv_iload_n hx hb dX6_loud_4 rfl (lv_at hl 1 rfl) ?_
  refine g_callV (As := [.int x]) (rest := []) (wr := (lW a hL hT im bs rd hS sh kb rf)) (C0.sz hl) X (c_X1_hasTree l D tk hL G d e x (by first | assumption | omega)) ⟨tb456, tb390, tb2, ⟨by decide, by decide, rfl⟩, rfl, rfl, Nat.le_of_ble_eq_true rfl, Nat.le_of_ble_eq_true rfl⟩ tb388 tb389 1 1 rfl rfl rfl rfl [1, 2, 3, 4, 5, 6, 7, 8, 9, 10] [0] rfl rfl rfl rfl rfl (Nat.le_of_ble_eq_true rfl) ⟨Nat.le_of_ble_eq_true rfl, Nat.le_of_ble_eq_true rfl⟩ dX6_loud_5 (fun _ H locs _ X => ?_)
  have X : Hx D zA zs H locs (lW a hL hT im bs rd hS sh kb rf ++ gW tk hL G d e) := X
  refine g_ifeqB (x := ix x (G 8 0)) (tgt := 29) C0 dX6_loud_8 rfl (fun c1 => ?_) (fun c2 => ?_)
  · refine lv_iconst (v := (-1)) hx hb dX6_loud_29 (by decide) ?_
    exact hE (v := (-1)) (d, e) (by simp [a_loud, cg0, cg1, cg2, cg3, cg5, cg6, cg7, cg8, c1]) trivial X dX6_loud_30
  · obtain ⟨xq, hk_xq, rfl⟩ := ix_sp c2
    refine lv_aload_n hx hb dX6_loud_11 rfl (lv_at hl 0 rfl) ?_
    refine g_get (v := .ref (hL 0)) C0 X kX6 0 0 tb200 rfl rfl rfl dX6_loud_12 ?_
    refine lv_iload_n hx hb dX6_loud_15 rfl (lv_at hl 2 rfl) ?_
    refine g_callV (As := [.int y]) (rest := []) (wr := (lW a hL hT im bs rd hS sh kb rf)) (C0.sz hl) X (c_X1_hasTree l D tk hL G d e y (by first | assumption | omega)) ⟨tb456, tb390, tb2, ⟨by decide, by decide, rfl⟩, rfl, rfl, Nat.le_of_ble_eq_true rfl, Nat.le_of_ble_eq_true rfl⟩ tb388 tb389 1 1 rfl rfl rfl rfl [1, 2, 3, 4, 5, 6, 7, 8, 9, 10] [0] rfl rfl rfl rfl rfl (Nat.le_of_ble_eq_true rfl) ⟨Nat.le_of_ble_eq_true rfl, Nat.le_of_ble_eq_true rfl⟩ dX6_loud_16 (fun _ H locs _ X => ?_)
    have X : Hx D zA zs H locs (lW a hL hT im bs rd hS sh kb rf ++ gW tk hL G d e) := X
    refine g_ifeqB (x := ix y (G 8 0)) (tgt := 29) C0 dX6_loud_19 rfl (fun c3 => ?_) (fun c4 => ?_)
    · refine lv_iconst (v := (-1)) hx hb dX6_loud_29 (by decide) ?_
      exact hE (v := (-1)) (d, e) (by simp [a_loud, cg0, cg1, cg2, cg3, cg5, cg6, cg7, cg8, c2, c3, tn_nI (k := xq) (by omega)]) trivial X dX6_loud_30
    · obtain ⟨yq, hk_yq, rfl⟩ := ix_sp c4
      refine lv_iload_n hx hb dX6_loud_22 rfl (lv_at hl 3 rfl) ?_
      refine g_callS (As := [.int z]) (rest := []) (wr := (lW a hL hT im bs rd hS sh kb rf ++ gW tk hL G d e)) (C0.sz hl) X (c_X6_isBreath l D tk z) ⟨tb499, tb501, tb1, ⟨by decide, by decide, rfl⟩, rfl, rfl, Nat.le_of_ble_eq_true rfl, Nat.le_of_ble_eq_true rfl⟩ tb500 rfl [] [0, 1, 2, 3, 4, 5, 6, 7, 8, 9, 10] rfl rfl rfl rfl rfl (Nat.le_of_ble_eq_true rfl) ⟨Nat.le_of_ble_eq_true rfl, Nat.le_of_ble_eq_true rfl⟩ dX6_loud_23 (fun _ H locs _ X => ?_)
      have X : Hx D zA zs H locs (lW a hL hT im bs rd hS sh kb rf ++ gW tk hL G d e) := X
      refine g_ifneB (x := rg z 1 60) (tgt := 31) C0 dX6_loud_26 rfl (fun c5 => ?_) (fun c6 => ?_)
      · obtain ⟨zq, hk_zqa, hk_zqb, hk_zqc, rfl⟩ := rg_sp c5
        refine lv_aload_n hx hb dX6_loud_31 rfl (lv_at hl 0 rfl) ?_
        refine g_get (v := .ref (hL 0)) C0 X kX6 0 0 tb200 rfl rfl rfl dX6_loud_32 ?_
        refine lv_iload_n hx hb dX6_loud_35 rfl (lv_at hl 2 rfl) ?_
        refine lv_iload_n hx hb dX6_loud_36 rfl (lv_at hl 3 rfl) ?_
        refine lv_aload_n hx hb dX6_loud_37 rfl (lv_at hl 0 rfl) ?_
        refine g_get (v := .ref (hL 0)) C0 X kX6 0 0 tb200 rfl rfl rfl dX6_loud_38 ?_
        refine lv_iload_n hx hb dX6_loud_41 rfl (lv_at hl 1 rfl) ?_
        refine g_callV (As := [.int (nI xq)]) (rest := [.int (nI zq), .int (nI yq), .ref (hL 0)]) (wr := (lW a hL hT im bs rd hS sh kb rf)) (C0.sz hl) X (c_X1_measure l D tk hL G d e xq (by first | assumption | omega) (by first | assumption | omega)) ⟨tb494, tb422, tb2, ⟨by decide, by decide, rfl⟩, rfl, rfl, Nat.le_of_ble_eq_true rfl, Nat.le_of_ble_eq_true rfl⟩ tb420 tb421 1 1 rfl rfl rfl rfl [1, 2, 3, 4, 5, 6, 7, 8, 9, 10] [0] rfl rfl rfl rfl rfl (Nat.le_of_ble_eq_true rfl) ⟨Nat.le_of_ble_eq_true rfl, Nat.le_of_ble_eq_true rfl⟩ dX6_loud_42 (fun _ H locs _ X => ?_)
        have X : Hx D zA zs H locs (lW a hL hT im bs rd hS sh kb rf ++ gW tk hL G (dist (cgv G) xq) e) := X
        refine g_callV (As := [.int (nI yq), .int (nI zq), .ref (hL 8)]) (rest := []) (wr := (lW a hL hT im bs rd hS sh kb rf)) (C0.sz hl) X (c_X1_loudness l D tk hL G (dist (cgv G) xq) e yq zq (by omega) (by exact hw6 yq (by omega)) (by exact dist_le _ _ _) (by omega)) ⟨tb502, tb444, tb2, ⟨by decide, by decide, rfl⟩, rfl, rfl, Nat.le_of_ble_eq_true rfl, Nat.le_of_ble_eq_true rfl⟩ tb442 tb443 1 1 rfl rfl rfl rfl [1, 2, 3, 4, 5, 6, 7, 8, 9, 10] [0] rfl rfl rfl rfl rfl (Nat.le_of_ble_eq_true rfl) ⟨Nat.le_of_ble_eq_true rfl, Nat.le_of_ble_eq_true rfl⟩ dX6_loud_45 (fun _ H locs _ X => ?_)
        have X : Hx D zA zs H locs (lW a hL hT im bs rd hS sh kb rf ++ gW tk hL G (dist (cgv G) xq) e) := X
        exact hE (v := nI (loudS (G 0 yq) zq ((dist (cgv G) xq) yq))) ((dist (cgv G) xq), e) (by simp [a_loud, cg0, cg1, cg2, cg3, cg5, cg6, cg7, cg8, c2, c4, c5, tn_nI (k := xq) (by omega), tn_nI (k := yq) (by omega), tn_nI (k := zq) (by omega)]) trivial X dX6_loud_48
      · refine lv_iconst (v := (-1)) hx hb dX6_loud_29 (by decide) ?_
        exact hE (v := (-1)) (d, e) (by simp [a_loud, cg0, cg1, cg2, cg3, cg5, cg6, cg7, cg8, c2, c4, c6, tn_nI (k := xq) (by omega), tn_nI (k := yq) (by omega)]) trivial X dX6_loud_30
set_option maxHeartbeats 4000000 in
set_option maxRecDepth 100000 in
theorem c_X6_hears (l : Launch) (D : va_G) (tk : Nat → ClassId) (a : Nat) (hL hT : Nat → Nat) (im bs rd : Nat) (hS : Nat → Nat) (sh kb rf : Nat) (G : Nat → Nat → Nat) (d e : Nat → Nat) (x y : Int32) (hw : GW G) : MX l yX6_hears cX6_hears 3 (some .int) ⟨4, 0, 0, 111⟩ D (TYS tk) [.ref a, .int x, .int y] (lW a hL hT im bs rd hS sh kb rf ++ gW tk hL G d e) (fun (u : (Nat → Nat) × (Nat → Nat)) => True) (fun u => some (.int (a_hears (cgv G) x y))) (fun u => lW a hL hT im bs rd hS sh kb rf ++ gW tk hL G u.1 u.2) 0 0 := by
  refine MX.of_i (by decide) rfl ?_
  intro zp ze zs zm za zb zt zc zA zQ ls C0 hnm X hl hE
  have hx := C0.1
  have hb := C0.2.1
  have ht := C0.2.2.2.2.1
  have X : Hx D zA zs zs.heap [] (lW a hL hT im bs rd hS sh kb rf ++ gW tk hL G d e) := X
  have hl : lv_has ls 3 [(0, .ref a), (1, .int x), (2, .int y)] := hl
  obtain ⟨hw1, hw2, hw3, hw4, hw5, hw6, hw7, hw8⟩ := id hw
  obtain ⟨H, hH⟩ : ∃ H, H = zs.heap := ⟨_, rfl⟩
  rw [← hH] at X ⊢
  obtain ⟨locs, hlo⟩ : ∃ L : List Loc, L = [] := ⟨_, rfl⟩
  rw [← hlo] at X ⊢
  refine lv_aload_n hx hb dX6_hears_0 rfl (lv_at hl 0 rfl) ?_
  refine g_get (v := .ref (hL 0)) C0 X kX6 0 0 tb200 rfl rfl rfl dX6_hears_1 ?_
  refine lv_iload_n hx hb dX6_hears_4 rfl (lv_at hl 1 rfl) ?_
  refine g_callV (As := [.int x]) (rest := []) (wr := (lW a hL hT im bs rd hS sh kb rf)) (C0.sz hl) X (c_X1_hasTree l D tk hL G d e x (by first | assumption | omega)) ⟨tb456, tb390, tb2, ⟨by decide, by decide, rfl⟩, rfl, rfl, Nat.le_of_ble_eq_true rfl, Nat.le_of_ble_eq_true rfl⟩ tb388 tb389 1 1 rfl rfl rfl rfl [1, 2, 3, 4, 5, 6, 7, 8, 9, 10] [0] rfl rfl rfl rfl rfl (Nat.le_of_ble_eq_true rfl) ⟨Nat.le_of_ble_eq_true rfl, Nat.le_of_ble_eq_true rfl⟩ dX6_hears_5 (fun _ H locs _ X => ?_)
  have X : Hx D zA zs H locs (lW a hL hT im bs rd hS sh kb rf ++ gW tk hL G d e) := X
  refine g_ifeqB (x := ix x (G 8 0)) (tgt := 30) C0 dX6_hears_8 rfl (fun c1 => ?_) (fun c2 => ?_)
  · refine lv_iconst (v := (-1)) hx hb dX6_hears_30 (by decide) ?_
    exact hE (v := (-1)) (d, e) (by simp [a_hears, cg0, cg1, cg2, cg3, cg5, cg6, cg7, cg8, c1]) trivial X dX6_hears_31
  · obtain ⟨xq, hk_xq, rfl⟩ := ix_sp c2
    refine lv_iload_n hx hb dX6_hears_11 rfl (lv_at hl 2 rfl) ?_
    refine g_callS (As := [.int y]) (rest := []) (wr := (lW a hL hT im bs rd hS sh kb rf ++ gW tk hL G d e)) (C0.sz hl) X (c_X6_isBreath l D tk y) ⟨tb499, tb501, tb1, ⟨by decide, by decide, rfl⟩, rfl, rfl, Nat.le_of_ble_eq_true rfl, Nat.le_of_ble_eq_true rfl⟩ tb500 rfl [] [0, 1, 2, 3, 4, 5, 6, 7, 8, 9, 10] rfl rfl rfl rfl rfl (Nat.le_of_ble_eq_true rfl) ⟨Nat.le_of_ble_eq_true rfl, Nat.le_of_ble_eq_true rfl⟩ dX6_hears_12 (fun _ H locs _ X => ?_)
    have X : Hx D zA zs H locs (lW a hL hT im bs rd hS sh kb rf ++ gW tk hL G d e) := X
    refine g_ifeqB (x := rg y 1 60) (tgt := 30) C0 dX6_hears_15 rfl (fun c3 => ?_) (fun c4 => ?_)
    · refine lv_iconst (v := (-1)) hx hb dX6_hears_30 (by decide) ?_
      exact hE (v := (-1)) (d, e) (by simp [a_hears, cg0, cg1, cg2, cg3, cg5, cg6, cg7, cg8, c2, c3, tn_nI (k := xq) (by omega)]) trivial X dX6_hears_31
    · obtain ⟨yq, hk_yqa, hk_yqb, hk_yqc, rfl⟩ := rg_sp c4
      refine lv_aload_n hx hb dX6_hears_18 rfl (lv_at hl 0 rfl) ?_
      refine g_get (v := .ref (hL 0)) C0 X kX6 0 0 tb200 rfl rfl rfl dX6_hears_19 ?_
      refine lv_iload_n hx hb dX6_hears_22 rfl (lv_at hl 1 rfl) ?_
      refine lv_iload_n hx hb dX6_hears_23 rfl (lv_at hl 2 rfl) ?_
      refine g_callV (As := [.int (nI xq), .int (nI yq)]) (rest := []) (wr := (lW a hL hT im bs rd hS sh kb rf)) (C0.sz hl) X (c_X1_hearers l D tk hL G d e xq yq (by first | assumption | omega) (by first | assumption | omega) (by first | assumption | omega)) ⟨tb486, tb489, tb2, ⟨by decide, by decide, rfl⟩, rfl, rfl, Nat.le_of_ble_eq_true rfl, Nat.le_of_ble_eq_true rfl⟩ tb487 tb488 1 1 rfl rfl rfl rfl [1, 2, 3, 4, 5, 6, 7, 8, 9, 10] [0] rfl rfl rfl rfl rfl (Nat.le_of_ble_eq_true rfl) ⟨Nat.le_of_ble_eq_true rfl, Nat.le_of_ble_eq_true rfl⟩ dX6_hears_24 (fun _ H locs _ X => ?_)
      have X : Hx D zA zs H locs (lW a hL hT im bs rd hS sh kb rf ++ gW tk hL G (dist (cgv G) xq) e) := X
      refine lv_goto (tgt := 31) hx hb dX6_hears_27 (by decide) ?_
      exact hE (v := nI (hearS (cgv G) xq yq)) ((dist (cgv G) xq), e) (by simp [a_hears, cg0, cg1, cg2, cg3, cg5, cg6, cg7, cg8, c2, c4, tn_nI (k := xq) (by omega), tn_nI (k := yq) (by omega)]) trivial X dX6_hears_31
set_option maxHeartbeats 4000000 in
set_option maxRecDepth 100000 in
theorem c_X6_graft (l : Launch) (D : va_G) (tk : Nat → ClassId) (a : Nat) (hL hT : Nat → Nat) (im bs rd : Nat) (hS : Nat → Nat) (sh kb rf : Nat) (G : Nat → Nat → Nat) (d e : Nat → Nat) (x y : Int32) (hw : GW G) : MX l yX6_graft cX6_graft 3 (some .int) ⟨2, 0, 0, 43⟩ D (TYS tk) [.ref a, .int x, .int y] (lW a hL hT im bs rd hS sh kb rf ++ gW tk hL G d e) (fun (_ : Unit) => True) (fun _ => some (.int (a_graft (cgv G) x y))) (fun _ => lW a hL hT im bs rd hS sh kb rf ++ gW tk hL (graftG G x y) d e) 0 0 := by
  refine MX.of_i (by decide) rfl ?_
  intro zp ze zs zm za zb zt zc zA zQ ls C0 hnm X hl hE
  have hx := C0.1
  have hb := C0.2.1
  have ht := C0.2.2.2.2.1
  have X : Hx D zA zs zs.heap [] (lW a hL hT im bs rd hS sh kb rf ++ gW tk hL G d e) := X
  have hl : lv_has ls 3 [(0, .ref a), (1, .int x), (2, .int y)] := hl
  obtain ⟨hw1, hw2, hw3, hw4, hw5, hw6, hw7, hw8⟩ := id hw
  obtain ⟨H, hH⟩ : ∃ H, H = zs.heap := ⟨_, rfl⟩
  rw [← hH] at X ⊢
  obtain ⟨locs, hlo⟩ : ∃ L : List Loc, L = [] := ⟨_, rfl⟩
  rw [← hlo] at X ⊢
  refine lv_aload_n hx hb dX6_graft_0 rfl (lv_at hl 0 rfl) ?_
  refine g_get (v := .ref (hL 0)) C0 X kX6 0 0 tb200 rfl rfl rfl dX6_graft_1 ?_
  refine lv_iload_n hx hb dX6_graft_4 rfl (lv_at hl 1 rfl) ?_
  refine g_callV (As := [.int x]) (rest := []) (wr := (lW a hL hT im bs rd hS sh kb rf)) (C0.sz hl) X (c_X1_hasTree l D tk hL G d e x (by first | assumption | omega)) ⟨tb456, tb390, tb2, ⟨by decide, by decide, rfl⟩, rfl, rfl, Nat.le_of_ble_eq_true rfl, Nat.le_of_ble_eq_true rfl⟩ tb388 tb389 1 1 rfl rfl rfl rfl [1, 2, 3, 4, 5, 6, 7, 8, 9, 10] [0] rfl rfl rfl rfl rfl (Nat.le_of_ble_eq_true rfl) ⟨Nat.le_of_ble_eq_true rfl, Nat.le_of_ble_eq_true rfl⟩ dX6_graft_5 (fun _ H locs _ X => ?_)
  have X : Hx D zA zs H locs (lW a hL hT im bs rd hS sh kb rf ++ gW tk hL G d e) := X
  refine g_ifeqB (x := ix x (G 8 0)) (tgt := 35) C0 dX6_graft_8 rfl (fun c1 => ?_) (fun c2 => ?_)
  · refine lv_iconst (v := (-1)) hx hb dX6_graft_35 (by decide) ?_
    exact hE (v := (-1)) () (by simp [a_graft, cg0, cg1, cg2, cg3, cg5, cg6, cg7, cg8, c1]) trivial (X.to (by simp [graftG, c1])) dX6_graft_36
  · obtain ⟨xq, hk_xq, rfl⟩ := ix_sp c2
    refine lv_iload_n hx hb dX6_graft_11 rfl (lv_at hl 2 rfl) ?_
    refine g_iconst (n := 0) C0 rfl dX6_graft_12 ?_
    refine g_iconst (n := 3) C0 rfl dX6_graft_13 ?_
    refine g_callS (As := [.int y, .int (nI 0), .int (nI 3)]) (rest := []) (wr := (lW a hL hT im bs rd hS sh kb rf ++ gW tk hL G d e)) (C0.sz hl) X (c_X6_within l D tk y (nI 0) (nI 3)) ⟨tb232, tb234, tb1, ⟨by decide, by decide, rfl⟩, rfl, rfl, Nat.le_of_ble_eq_true rfl, Nat.le_of_ble_eq_true rfl⟩ tb233 rfl [] [0, 1, 2, 3, 4, 5, 6, 7, 8, 9, 10] rfl rfl rfl rfl rfl (Nat.le_of_ble_eq_true rfl) ⟨Nat.le_of_ble_eq_true rfl, Nat.le_of_ble_eq_true rfl⟩ dX6_graft_14 (fun _ H locs _ X => ?_)
    have X : Hx D zA zs H locs (lW a hL hT im bs rd hS sh kb rf ++ gW tk hL G d e) := X
    refine g_top (y := nI (rb (rg y 0 3))) (by rw [inI_rg y (by first | decide | omega) (by first | decide | omega)]) ?_
    refine g_ifeqB (x := rg y 0 3) (tgt := 35) C0 dX6_graft_17 rfl (fun c3 => ?_) (fun c4 => ?_)
    · refine lv_iconst (v := (-1)) hx hb dX6_graft_35 (by decide) ?_
      exact hE (v := (-1)) () (by simp [a_graft, cg0, cg1, cg2, cg3, cg5, cg6, cg7, cg8, c2, c3, tn_nI (k := xq) (by omega)]) trivial (X.to (by simp [graftG, c2, c3, tn_nI (k := xq) (by omega)])) dX6_graft_36
    · obtain ⟨yq, hk_yqa, hk_yqb, hk_yqc, rfl⟩ := rg_sp c4
      refine lv_aload_n hx hb dX6_graft_20 rfl (lv_at hl 0 rfl) ?_
      refine g_get (v := .ref (hL 0)) C0 X kX6 0 0 tb200 rfl rfl rfl dX6_graft_21 ?_
      refine g_get (v := .ref (hL 1)) C0 X kX1 1 1 tb36 rfl rfl rfl dX6_graft_24 ?_
      refine lv_iload_n hx hb dX6_graft_27 rfl (lv_at hl 1 rfl) ?_
      refine lv_iload_n hx hb dX6_graft_28 rfl (lv_at hl 2 rfl) ?_
      refine g_callS (As := [.ref (hL 1), .int (nI xq), .int (nI yq)]) (rest := []) (wr := (lW a hL hT im bs rd hS sh kb rf)) (C0.sz hl) X (c_exK l D tk hL G d e xq yq (by first | assumption | omega)) ⟨tb507, tb509, tb1, ⟨by decide, by decide, rfl⟩, rfl, rfl, Nat.le_of_ble_eq_true rfl, Nat.le_of_ble_eq_true rfl⟩ tb508 rfl [1, 2, 3, 4, 5, 6, 7, 8, 9, 10] [0] rfl rfl rfl rfl rfl (Nat.le_of_ble_eq_true rfl) ⟨Nat.le_of_ble_eq_true rfl, Nat.le_of_ble_eq_true rfl⟩ dX6_graft_29 (fun _ H locs _ X => ?_)
      have X : Hx D zA zs H locs (lW a hL hT im bs rd hS sh kb rf ++ gW tk hL (u2 G 0 xq yq) d e) := X
      refine lv_goto (tgt := 36) hx hb dX6_graft_32 (by decide) ?_
      exact hE (v := nI (G 0 xq)) () (by simp [a_graft, cg0, cg1, cg2, cg3, cg5, cg6, cg7, cg8, c2, c4, tn_nI (k := xq) (by omega), tn_nI (k := yq) (by omega)]) trivial (X.to (by simp [graftG, c2, c4, tn_nI (k := xq) (by omega), tn_nI (k := yq) (by omega)])) dX6_graft_36
set_option maxHeartbeats 4000000 in
set_option maxRecDepth 100000 in
theorem c_X6_stretch (l : Launch) (D : va_G) (tk : Nat → ClassId) (a : Nat) (hL hT : Nat → Nat) (im bs rd : Nat) (hS : Nat → Nat) (sh kb rf : Nat) (G : Nat → Nat → Nat) (d e : Nat → Nat) (x y : Int32) (hw : GW G) : MX l yX6_stretch cX6_stretch 3 (some .int) ⟨2, 0, 0, 43⟩ D (TYS tk) [.ref a, .int x, .int y] (lW a hL hT im bs rd hS sh kb rf ++ gW tk hL G d e) (fun (_ : Unit) => True) (fun _ => some (.int (a_stretch (cgv G) x y))) (fun _ => lW a hL hT im bs rd hS sh kb rf ++ gW tk hL (stretchG G x y) d e) 0 0 := by
  refine MX.of_i (by decide) rfl ?_
  intro zp ze zs zm za zb zt zc zA zQ ls C0 hnm X hl hE
  have hx := C0.1
  have hb := C0.2.1
  have ht := C0.2.2.2.2.1
  have X : Hx D zA zs zs.heap [] (lW a hL hT im bs rd hS sh kb rf ++ gW tk hL G d e) := X
  have hl : lv_has ls 3 [(0, .ref a), (1, .int x), (2, .int y)] := hl
  obtain ⟨hw1, hw2, hw3, hw4, hw5, hw6, hw7, hw8⟩ := id hw
  obtain ⟨H, hH⟩ : ∃ H, H = zs.heap := ⟨_, rfl⟩
  rw [← hH] at X ⊢
  obtain ⟨locs, hlo⟩ : ∃ L : List Loc, L = [] := ⟨_, rfl⟩
  rw [← hlo] at X ⊢
  refine lv_aload_n hx hb dX6_stretch_0 rfl (lv_at hl 0 rfl) ?_
  refine g_get (v := .ref (hL 0)) C0 X kX6 0 0 tb200 rfl rfl rfl dX6_stretch_1 ?_
  refine lv_iload_n hx hb dX6_stretch_4 rfl (lv_at hl 1 rfl) ?_
  refine g_callV (As := [.int x]) (rest := []) (wr := (lW a hL hT im bs rd hS sh kb rf)) (C0.sz hl) X (c_X1_hasRoot l D tk hL G d e x (by first | assumption | omega)) ⟨tb473, tb476, tb2, ⟨by decide, by decide, rfl⟩, rfl, rfl, Nat.le_of_ble_eq_true rfl, Nat.le_of_ble_eq_true rfl⟩ tb474 tb475 1 1 rfl rfl rfl rfl [1, 2, 3, 4, 5, 6, 7, 8, 9, 10] [0] rfl rfl rfl rfl rfl (Nat.le_of_ble_eq_true rfl) ⟨Nat.le_of_ble_eq_true rfl, Nat.le_of_ble_eq_true rfl⟩ dX6_stretch_5 (fun _ H locs _ X => ?_)
  have X : Hx D zA zs H locs (lW a hL hT im bs rd hS sh kb rf ++ gW tk hL G d e) := X
  refine g_ifeqB (x := ix x (G 8 1)) (tgt := 33) C0 dX6_stretch_8 rfl (fun c1 => ?_) (fun c2 => ?_)
  · refine lv_iconst (v := (-1)) hx hb dX6_stretch_33 (by decide) ?_
    exact hE (v := (-1)) () (by simp [a_stretch, cg0, cg1, cg2, cg3, cg5, cg6, cg7, cg8, c1]) trivial (X.to (by simp [stretchG, c1])) dX6_stretch_34
  · obtain ⟨xq, hk_xq, rfl⟩ := ix_sp c2
    refine lv_iload_n hx hb dX6_stretch_11 rfl (lv_at hl 2 rfl) ?_
    refine g_callS (As := [.int y]) (rest := []) (wr := (lW a hL hT im bs rd hS sh kb rf ++ gW tk hL G d e)) (C0.sz hl) X (c_X6_isLength l D tk y) ⟨tb514, tb516, tb1, ⟨by decide, by decide, rfl⟩, rfl, rfl, Nat.le_of_ble_eq_true rfl, Nat.le_of_ble_eq_true rfl⟩ tb515 rfl [] [0, 1, 2, 3, 4, 5, 6, 7, 8, 9, 10] rfl rfl rfl rfl rfl (Nat.le_of_ble_eq_true rfl) ⟨Nat.le_of_ble_eq_true rfl, Nat.le_of_ble_eq_true rfl⟩ dX6_stretch_12 (fun _ H locs _ X => ?_)
    have X : Hx D zA zs H locs (lW a hL hT im bs rd hS sh kb rf ++ gW tk hL G d e) := X
    refine g_ifeqB (x := rg y 1 9) (tgt := 33) C0 dX6_stretch_15 rfl (fun c3 => ?_) (fun c4 => ?_)
    · refine lv_iconst (v := (-1)) hx hb dX6_stretch_33 (by decide) ?_
      exact hE (v := (-1)) () (by simp [a_stretch, cg0, cg1, cg2, cg3, cg5, cg6, cg7, cg8, c2, c3, tn_nI (k := xq) (by omega)]) trivial (X.to (by simp [stretchG, c2, c3, tn_nI (k := xq) (by omega)])) dX6_stretch_34
    · obtain ⟨yq, hk_yqa, hk_yqb, hk_yqc, rfl⟩ := rg_sp c4
      refine lv_aload_n hx hb dX6_stretch_18 rfl (lv_at hl 0 rfl) ?_
      refine g_get (v := .ref (hL 0)) C0 X kX6 0 0 tb200 rfl rfl rfl dX6_stretch_19 ?_
      refine g_get (v := .ref (hL 4)) C0 X kX1 1 5 tb45 rfl rfl rfl dX6_stretch_22 ?_
      refine lv_iload_n hx hb dX6_stretch_25 rfl (lv_at hl 1 rfl) ?_
      refine lv_iload_n hx hb dX6_stretch_26 rfl (lv_at hl 2 rfl) ?_
      refine g_callS (As := [.ref (hL 4), .int (nI xq), .int (nI yq)]) (rest := []) (wr := (lW a hL hT im bs rd hS sh kb rf)) (C0.sz hl) X (c_exL l D tk hL G d e xq yq (by first | assumption | omega)) ⟨tb507, tb509, tb1, ⟨by decide, by decide, rfl⟩, rfl, rfl, Nat.le_of_ble_eq_true rfl, Nat.le_of_ble_eq_true rfl⟩ tb508 rfl [1, 2, 3, 4, 5, 6, 7, 8, 9, 10] [0] rfl rfl rfl rfl rfl (Nat.le_of_ble_eq_true rfl) ⟨Nat.le_of_ble_eq_true rfl, Nat.le_of_ble_eq_true rfl⟩ dX6_stretch_27 (fun _ H locs _ X => ?_)
      have X : Hx D zA zs H locs (lW a hL hT im bs rd hS sh kb rf ++ gW tk hL (u2 G 3 xq yq) d e) := X
      refine lv_goto (tgt := 34) hx hb dX6_stretch_30 (by decide) ?_
      exact hE (v := nI (G 3 xq)) () (by simp [a_stretch, cg0, cg1, cg2, cg3, cg5, cg6, cg7, cg8, c2, c4, tn_nI (k := xq) (by omega), tn_nI (k := yq) (by omega)]) trivial (X.to (by simp [stretchG, c2, c4, tn_nI (k := xq) (by omega), tn_nI (k := yq) (by omega)])) dX6_stretch_34
set_option maxHeartbeats 4000000 in
set_option maxRecDepth 100000 in
theorem c_X6_drop (l : Launch) (D : va_G) (tk : Nat → ClassId) (a : Nat) (hL hT : Nat → Nat) (im bs rd : Nat) (hS : Nat → Nat) (sh kb rf : Nat) (G : Nat → Nat → Nat) (d e : Nat → Nat) (x : Int32) (hw : GW G) : MX l yX6_drop cX6_drop 2 (some .int) ⟨1, 0, 0, 22⟩ D (TYS tk) [.ref a, .int x] (lW a hL hT im bs rd hS sh kb rf ++ gW tk hL G d e) (fun (_ : Unit) => True) (fun _ => some (.int (a_drop (cgv G) x))) (fun _ => lW a hL hT im bs rd hS sh kb rf ++ gW tk hL (dropG G x) d e) 0 0 := by
  refine MX.of_i (by decide) rfl ?_
  intro zp ze zs zm za zb zt zc zA zQ ls C0 hnm X hl hE
  have hx := C0.1
  have hb := C0.2.1
  have ht := C0.2.2.2.2.1
  have X : Hx D zA zs zs.heap [] (lW a hL hT im bs rd hS sh kb rf ++ gW tk hL G d e) := X
  have hl : lv_has ls 2 [(0, .ref a), (1, .int x)] := hl
  obtain ⟨hw1, hw2, hw3, hw4, hw5, hw6, hw7, hw8⟩ := id hw
  obtain ⟨H, hH⟩ : ∃ H, H = zs.heap := ⟨_, rfl⟩
  rw [← hH] at X ⊢
  obtain ⟨locs, hlo⟩ : ∃ L : List Loc, L = [] := ⟨_, rfl⟩
  rw [← hlo] at X ⊢
  refine lv_iload_n hx hb dX6_drop_0 rfl (lv_at hl 1 rfl) ?_
  refine g_iconst (n := 0) C0 rfl dX6_drop_1 ?_
  refine lv_aload_n hx hb dX6_drop_2 rfl (lv_at hl 0 rfl) ?_
  refine g_get (v := .ref (hL 0)) C0 X kX6 0 0 tb200 rfl rfl rfl dX6_drop_3 ?_
  refine g_get (v := .int (nI (G 8 3))) C0 X kX1 1 8 tb52 rfl rfl rfl dX6_drop_6 ?_
  refine g_callS (As := [.int x, .int (nI 0), .int (nI (G 8 3))]) (rest := []) (wr := (lW a hL hT im bs rd hS sh kb rf ++ gW tk hL G d e)) (C0.sz hl) X (c_X6_within l D tk x (nI 0) (nI (G 8 3))) ⟨tb232, tb234, tb1, ⟨by decide, by decide, rfl⟩, rfl, rfl, Nat.le_of_ble_eq_true rfl, Nat.le_of_ble_eq_true rfl⟩ tb233 rfl [] [0, 1, 2, 3, 4, 5, 6, 7, 8, 9, 10] rfl rfl rfl rfl rfl (Nat.le_of_ble_eq_true rfl) ⟨Nat.le_of_ble_eq_true rfl, Nat.le_of_ble_eq_true rfl⟩ dX6_drop_9 (fun _ H locs _ X => ?_)
  have X : Hx D zA zs H locs (lW a hL hT im bs rd hS sh kb rf ++ gW tk hL G d e) := X
  refine g_top (y := nI (rb (rg x 0 (G 8 3)))) (by rw [inI_rg x (by first | decide | omega) (by first | decide | omega)]) ?_
  refine g_ifeqB (x := rg x 0 (G 8 3)) (tgt := 26) C0 dX6_drop_12 rfl (fun c1 => ?_) (fun c2 => ?_)
  · refine lv_iconst (v := (-1)) hx hb dX6_drop_26 (by decide) ?_
    exact hE (v := (-1)) () (by simp [a_drop, cg0, cg1, cg2, cg3, cg5, cg6, cg7, cg8, c1]) trivial (X.to (by simp [dropG, c1])) dX6_drop_27
  · obtain ⟨xq, hk_xqa, hk_xqb, hk_xqc, rfl⟩ := rg_sp c2
    refine lv_aload_n hx hb dX6_drop_15 rfl (lv_at hl 0 rfl) ?_
    refine g_get (v := .ref (hL 0)) C0 X kX6 0 0 tb200 rfl rfl rfl dX6_drop_16 ?_
    refine lv_iload_n hx hb dX6_drop_19 rfl (lv_at hl 1 rfl) ?_
    refine g_callV (As := [.int (nI xq)]) (rest := []) (wr := (lW a hL hT im bs rd hS sh kb rf)) (C0.sz hl) X (c_X1_keepFirstTalks l D tk hL G d e xq) ⟨tb543, tb546, tb2, ⟨by decide, by decide, rfl⟩, rfl, rfl, Nat.le_of_ble_eq_true rfl, Nat.le_of_ble_eq_true rfl⟩ tb544 tb545 1 1 rfl rfl rfl rfl [1, 2, 3, 4, 5, 6, 7, 8, 9, 10] [0] rfl rfl rfl rfl rfl (Nat.le_of_ble_eq_true rfl) ⟨Nat.le_of_ble_eq_true rfl, Nat.le_of_ble_eq_true rfl⟩ dX6_drop_20 (fun _ H locs _ X => ?_)
    have X : Hx D zA zs H locs (lW a hL hT im bs rd hS sh kb rf ++ gW tk hL (u2 G 8 3 xq) d e) := X
    refine lv_goto (tgt := 27) hx hb dX6_drop_23 (by decide) ?_
    exact hE (v := nI (G 8 3)) () (by simp [a_drop, cg0, cg1, cg2, cg3, cg5, cg6, cg7, cg8, c2, tn_nI (k := xq) (by omega)]) trivial (X.to (by simp [dropG, c2, tn_nI (k := xq) (by omega)])) dX6_drop_27
