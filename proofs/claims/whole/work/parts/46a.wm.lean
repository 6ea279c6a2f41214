set_option maxHeartbeats 4000000 in
set_option maxRecDepth 100000 in
theorem c_byT (l : Launch) (D : va_G) (tk : Nat → ClassId) (h : Nat → Nat) (Mt : Nat → Nat → Nat) (hi : Int32) (la ce : Nat → Int32) (k : Nat) (hk : k < Mt 20 3) (hn : Mt 20 3 ≤ 160) : MX l yX7_byteAt cX7_byteAt 2 (some .int) ⟨0, 0, 0, 0⟩ D (TYS tk) [.ref (h 0), .int (nI k)] (mW tk h Mt hi la ce) (fun (_ : Unit) => True) (fun _ => some (.int (nI (Mt 2 k)))) (fun _ => mW tk h Mt hi la ce) 0 0 := by
  refine MX.of_i (by decide) rfl ?_
  intro zp ze zs zm za zb zt zc zA zQ ls C0 hnm X hl hE
  have hx := C0.1
  have hb := C0.2.1
  have ht := C0.2.2.2.2.1
  have X : Hx D zA zs zs.heap [] (mW tk h Mt hi la ce) := X
  have hl : lv_has ls 2 [(0, .ref (h 0)), (1, .int (nI k))] := hl
  obtain ⟨H, hH⟩ : ∃ H, H = zs.heap := ⟨_, rfl⟩
  rw [← hH] at X ⊢
  obtain ⟨locs, hlo⟩ : ∃ L : List Loc, L = [] := ⟨_, rfl⟩
  rw [← hlo] at X ⊢
  refine lv_iload_n hx hb dX7_byteAt_0 rfl (lv_at hl 1 rfl) ?_
  refine lv_aload_n hx hb dX7_byteAt_1 rfl (lv_at hl 0 rfl) ?_
  refine g_get (v := .int (nI (Mt 20 3))) C0 X kX7 0 7 tb804 rfl rfl rfl dX7_byteAt_2 ?_
  refine g_icmp_ge (x := k) (y := Mt 20 3) (tgt := 17) C0 (by omega) (by omega) dX7_byteAt_5 rfl (fun c1 => ?_) (fun c2 => ?_)
  · omega
  · refine lv_aload_n hx hb dX7_byteAt_8 rfl (lv_at hl 0 rfl) ?_
    refine g_get (v := .ref (h 3)) C0 X kX7 0 6 tb803 rfl rfl rfl dX7_byteAt_9 ?_
    refine lv_iload_n hx hb dX7_byteAt_12 rfl (lv_at hl 1 rfl) ?_
    refine g_iald (v := nI (Mt 2 k)) (i := k) C0 X 3 0 rfl rfl (by omega) rfl rfl dX7_byteAt_13 ?_
    refine lv_goto (tgt := 19) hx hb dX7_byteAt_14 (by decide) ?_
    exact hE (v := nI (Mt 2 k)) () rfl trivial X dX7_byteAt_19
set_option maxHeartbeats 4000000 in
set_option maxRecDepth 100000 in
theorem c_byF (l : Launch) (D : va_G) (tk : Nat → ClassId) (h : Nat → Nat) (Mt : Nat → Nat → Nat) (hi : Int32) (la ce : Nat → Int32) (k : Nat) (hk : Mt 20 3 ≤ k) (hn : k ≤ 160) : MX l yX7_byteAt cX7_byteAt 2 (some .int) ⟨0, 0, 0, 0⟩ D (TYS tk) [.ref (h 0), .int (nI k)] (mW tk h Mt hi la ce) (fun (_ : Unit) => True) (fun _ => some (.int (-4))) (fun _ => mW tk h Mt hi la ce) 0 0 := by
  refine MX.of_i (by decide) rfl ?_
  intro zp ze zs zm za zb zt zc zA zQ ls C0 hnm X hl hE
  have hx := C0.1
  have hb := C0.2.1
  have ht := C0.2.2.2.2.1
  have X : Hx D zA zs zs.heap [] (mW tk h Mt hi la ce) := X
  have hl : lv_has ls 2 [(0, .ref (h 0)), (1, .int (nI k))] := hl
  obtain ⟨H, hH⟩ : ∃ H, H = zs.heap := ⟨_, rfl⟩
  rw [← hH] at X ⊢
  obtain ⟨locs, hlo⟩ : ∃ L : List Loc, L = [] := ⟨_, rfl⟩
  rw [← hlo] at X ⊢
  refine lv_iload_n hx hb dX7_byteAt_0 rfl (lv_at hl 1 rfl) ?_
  refine lv_aload_n hx hb dX7_byteAt_1 rfl (lv_at hl 0 rfl) ?_
  refine g_get (v := .int (nI (Mt 20 3))) C0 X kX7 0 7 tb804 rfl rfl rfl dX7_byteAt_2 ?_
  refine g_icmp_ge (x := k) (y := Mt 20 3) (tgt := 17) C0 (by omega) (by omega) dX7_byteAt_5 rfl (fun c1 => ?_) (fun c2 => ?_)
  · refine lv_bipush (v := (-4)) hx hb dX7_byteAt_17 (by decide) ?_
    exact hE (v := (-4)) () rfl trivial X dX7_byteAt_19
  · omega
set_option maxHeartbeats 4000000 in
set_option maxRecDepth 100000 in
theorem c_X7_fails (l : Launch) (D : va_G) (tk : Nat → ClassId) (h : Nat → Nat) (Mt : Nat → Nat → Nat) (hi : Int32) (la ce : Nat → Int32) (c : Nat) (hf0 : Mt 20 5 ≤ 6) : MX l yX7_fails cX7_fails 2 none ⟨0, 0, 0, 0⟩ D (TYS tk) [.ref (h 0), .int (nI c)] (mW tk h Mt hi la ce) (fun (_ : Unit) => True) (fun _ => none) (fun _ => mW tk h (u3 Mt 20 (mFail (Mt 20) c)) hi la ce) 0 0 := by
  refine MX.of_v (by decide) rfl ?_
  intro zp ze zs zm za zb zt zc zA zQ ls C0 hnm X hl hE
  have hx := C0.1
  have hb := C0.2.1
  have ht := C0.2.2.2.2.1
  have X : Hx D zA zs zs.heap [] (mW tk h Mt hi la ce) := X
  have hl : lv_has ls 2 [(0, .ref (h 0)), (1, .int (nI c))] := hl
  obtain ⟨H, hH⟩ : ∃ H, H = zs.heap := ⟨_, rfl⟩
  rw [← hH] at X ⊢
  obtain ⟨locs, hlo⟩ : ∃ L : List Loc, L = [] := ⟨_, rfl⟩
  rw [← hlo] at X ⊢
  refine lv_aload_n hx hb dX7_fails_0 rfl (lv_at hl 0 rfl) ?_
  refine g_get (v := .int (nI (Mt 20 5))) C0 X kX7 0 9 tb806 rfl rfl rfl dX7_fails_1 ?_
  refine g_ifne (x := Mt 20 5) (tgt := 20) C0 (by omega) dX7_fails_4 rfl (fun c1 => ?_) (fun c2 => ?_)
  · exact hE (v := ()) () rfl trivial (X.to (by rw [show mFail (Mt 20) c = Mt 20 from if_neg (by omega)] <;> rfl)) dX7_fails_20
  · refine lv_aload_n hx hb dX7_fails_7 rfl (lv_at hl 0 rfl) ?_
    refine lv_iload_n hx hb dX7_fails_8 rfl (lv_at hl 1 rfl) ?_
    refine g_put (v := .int (nI c)) (ft := .int) C0 X kX7 0 9 tb806 rfl rfl rfl rfl rfl rfl rfl dX7_fails_9 (fun H locs X => ?_)
    have X : Hx D zA zs H locs (mW tk h (u2 Mt 20 5 c) hi la ce) := X
    refine lv_aload_n hx hb dX7_fails_12 rfl (lv_at hl 0 rfl) ?_
    refine lv_aload_n hx hb dX7_fails_13 rfl (lv_at hl 0 rfl) ?_
    refine g_get (v := .int (nI (Mt 20 8))) C0 X kX7 0 12 tb809 rfl rfl rfl dX7_fails_14 ?_
    refine g_put (v := .int (nI (Mt 20 8))) (ft := .int) C0 X kX7 0 10 tb807 rfl rfl rfl rfl rfl rfl rfl dX7_fails_17 (fun H locs X => ?_)
    have X : Hx D zA zs H locs (mW tk h (u2 (u2 Mt 20 5 c) 20 6 (Mt 20 8)) hi la ce) := X
    exact hE (v := ()) () rfl trivial (X.to (by rw [show mFail (Mt 20) c = u1 (u1 (Mt 20) 5 c) 6 (Mt 20 8) from if_pos (by omega)] <;> rfl)) dX7_fails_20
