set_option maxHeartbeats 4000000 in
set_option maxRecDepth 100000 in
theorem c_X7_isFull (l : Launch) (D : va_G) (tk : Nat → ClassId) (h : Nat → Nat) (Mt : Nat → Nat → Nat) (hi : Int32) (la ce : Nat → Int32) (k : Nat) (hk : k ≤ 6) (hp : MP (Mt 20) (Mt 1)) : MX l yX7_isFull cX7_isFull 2 (some .boolean) ⟨0, 0, 0, 0⟩ D (TYS tk) [.ref (h 0), .int (nI k)] (mW tk h Mt hi la ce) (fun (_ : Unit) => True) (fun _ => some (.int (nI (rb (mFull (Mt 20) (Mt 1) k))))) (fun _ => mW tk h Mt hi la ce) 0 0 := by
  refine MX.of_z (by decide) rfl ?_
  intro zp ze zs zm za zb zt zc zA zQ ls C0 hnm X hl hE
  have hx := C0.1
  have hb := C0.2.1
  have ht := C0.2.2.2.2.1
  have X : Hx D zA zs zs.heap [] (mW tk h Mt hi la ce) := X
  have hl : lv_has ls 2 [(0, .ref (h 0)), (1, .int (nI k))] := hl
  obtain ⟨hp1, hp2, hp3, hp4⟩ := id hp
  obtain ⟨H, hH⟩ : ∃ H, H = zs.heap := ⟨_, rfl⟩
  rw [← hH] at X ⊢
  obtain ⟨locs, hlo⟩ : ∃ L : List Loc, L = [] := ⟨_, rfl⟩
  rw [← hlo] at X ⊢
  refine lv_iload_n hx hb dX7_isFull_0 rfl (lv_at hl 1 rfl) ?_
  refine g_iconst (n := 3) C0 rfl dX7_isFull_1 ?_
  refine g_icmp_gt (x := k) (y := 3) (tgt := 14) C0 (by omega) (by omega) dX7_isFull_2 rfl (fun c1 => ?_) (fun c2 => ?_)
  · refine lv_iload_n hx hb dX7_isFull_14 rfl (lv_at hl 1 rfl) ?_
    refine g_iconst (n := 4) C0 rfl dX7_isFull_15 ?_
    refine g_icmp_ne (x := k) (y := 4) (tgt := 31) C0 (by omega) (by omega) dX7_isFull_16 rfl (fun c3 => ?_) (fun c4 => ?_)
    · refine lv_iload_n hx hb dX7_isFull_31 rfl (lv_at hl 1 rfl) ?_
      refine g_iconst (n := 5) C0 rfl dX7_isFull_32 ?_
      refine g_icmp_ne (x := k) (y := 5) (tgt := 52) C0 (by omega) (by omega) dX7_isFull_33 rfl (fun c5 => ?_) (fun c6 => ?_)
      · refine g_iconst (n := 0) C0 rfl dX7_isFull_52 ?_
        exact hE (v := false) () (by rw [show mFull (Mt 20) (Mt 1) k = false from by unfold mFull; simp; omega] <;> rfl) trivial X dX7_isFull_53
      · refine lv_aload_n hx hb dX7_isFull_36 rfl (lv_at hl 0 rfl) ?_
        refine g_get (v := .ref (h 2)) C0 X kX7 0 2 tb799 rfl rfl rfl dX7_isFull_37 ?_
        refine g_bipush (n := 62) C0 (by decide) dX7_isFull_40 ?_
        refine g_iald (v := nI (Mt 1 62)) (i := 62) C0 X 2 0 rfl rfl (by omega) rfl rfl dX7_isFull_42 ?_
        refine g_bipush (n := 6) C0 (by decide) dX7_isFull_43 ?_
        refine g_icmp_ne (x := Mt 1 62) (y := 6) (tgt := 52) C0 (by omega) (by omega) dX7_isFull_45 rfl (fun c7 => ?_) (fun c8 => ?_)
        · refine g_iconst (n := 0) C0 rfl dX7_isFull_52 ?_
          exact hE (v := false) () (by rw [show mFull (Mt 20) (Mt 1) k = false from by unfold mFull; simp; omega] <;> rfl) trivial X dX7_isFull_53
        · refine g_iconst (n := 1) C0 rfl dX7_isFull_48 ?_
          refine lv_goto (tgt := 53) hx hb dX7_isFull_49 (by decide) ?_
          exact hE (v := true) () (by rw [show mFull (Mt 20) (Mt 1) k = true from by unfold mFull; simp; omega] <;> rfl) trivial X dX7_isFull_53
    · refine lv_aload_n hx hb dX7_isFull_19 rfl (lv_at hl 0 rfl) ?_
      refine g_get (v := .ref (h 2)) C0 X kX7 0 2 tb799 rfl rfl rfl dX7_isFull_20 ?_
      refine g_bipush (n := 42) C0 (by decide) dX7_isFull_23 ?_
      refine g_iald (v := nI (Mt 1 42)) (i := 42) C0 X 2 0 rfl rfl (by omega) rfl rfl dX7_isFull_25 ?_
      refine g_bipush (n := 9) C0 (by decide) dX7_isFull_26 ?_
      refine g_icmp_eq (x := Mt 1 42) (y := 9) (tgt := 48) C0 (by omega) (by omega) dX7_isFull_28 rfl (fun c9 => ?_) (fun c10 => ?_)
      · refine g_iconst (n := 1) C0 rfl dX7_isFull_48 ?_
        refine lv_goto (tgt := 53) hx hb dX7_isFull_49 (by decide) ?_
        exact hE (v := true) () (by rw [show mFull (Mt 20) (Mt 1) k = true from by unfold mFull; simp; omega] <;> rfl) trivial X dX7_isFull_53
      · refine lv_iload_n hx hb dX7_isFull_31 rfl (lv_at hl 1 rfl) ?_
        refine g_iconst (n := 5) C0 rfl dX7_isFull_32 ?_
        refine g_icmp_ne (x := k) (y := 5) (tgt := 52) C0 (by omega) (by omega) dX7_isFull_33 rfl (fun c11 => ?_) (fun c12 => ?_)
        · refine g_iconst (n := 0) C0 rfl dX7_isFull_52 ?_
          exact hE (v := false) () (by rw [show mFull (Mt 20) (Mt 1) k = false from by unfold mFull; simp; omega] <;> rfl) trivial X dX7_isFull_53
        · refine lv_aload_n hx hb dX7_isFull_36 rfl (lv_at hl 0 rfl) ?_
          refine g_get (v := .ref (h 2)) C0 X kX7 0 2 tb799 rfl rfl rfl dX7_isFull_37 ?_
          refine g_bipush (n := 62) C0 (by decide) dX7_isFull_40 ?_
          refine g_iald (v := nI (Mt 1 62)) (i := 62) C0 X 2 0 rfl rfl (by omega) rfl rfl dX7_isFull_42 ?_
          refine g_bipush (n := 6) C0 (by decide) dX7_isFull_43 ?_
          refine g_icmp_ne (x := Mt 1 62) (y := 6) (tgt := 52) C0 (by omega) (by omega) dX7_isFull_45 rfl (fun c13 => ?_) (fun c14 => ?_)
          · refine g_iconst (n := 0) C0 rfl dX7_isFull_52 ?_
            exact hE (v := false) () (by rw [show mFull (Mt 20) (Mt 1) k = false from by unfold mFull; simp; omega] <;> rfl) trivial X dX7_isFull_53
          · refine g_iconst (n := 1) C0 rfl dX7_isFull_48 ?_
            refine lv_goto (tgt := 53) hx hb dX7_isFull_49 (by decide) ?_
            exact hE (v := true) () (by rw [show mFull (Mt 20) (Mt 1) k = true from by unfold mFull; simp; omega] <;> rfl) trivial X dX7_isFull_53
  · refine lv_aload_n hx hb dX7_isFull_5 rfl (lv_at hl 0 rfl) ?_
    refine g_get (v := .int (nI (Mt 20 1))) C0 X kX7 0 3 tb800 rfl rfl rfl dX7_isFull_6 ?_
    refine g_bipush (n := 6) C0 (by decide) dX7_isFull_9 ?_
    refine g_icmp_eq (x := Mt 20 1) (y := 6) (tgt := 48) C0 (by omega) (by omega) dX7_isFull_11 rfl (fun c15 => ?_) (fun c16 => ?_)
    · refine g_iconst (n := 1) C0 rfl dX7_isFull_48 ?_
      refine lv_goto (tgt := 53) hx hb dX7_isFull_49 (by decide) ?_
      exact hE (v := true) () (by rw [show mFull (Mt 20) (Mt 1) k = true from by unfold mFull; simp; omega] <;> rfl) trivial X dX7_isFull_53
    · refine lv_iload_n hx hb dX7_isFull_14 rfl (lv_at hl 1 rfl) ?_
      refine g_iconst (n := 4) C0 rfl dX7_isFull_15 ?_
      refine g_icmp_ne (x := k) (y := 4) (tgt := 31) C0 (by omega) (by omega) dX7_isFull_16 rfl (fun c17 => ?_) (fun c18 => ?_)
      · refine lv_iload_n hx hb dX7_isFull_31 rfl (lv_at hl 1 rfl) ?_
        refine g_iconst (n := 5) C0 rfl dX7_isFull_32 ?_
        refine g_icmp_ne (x := k) (y := 5) (tgt := 52) C0 (by omega) (by omega) dX7_isFull_33 rfl (fun c19 => ?_) (fun c20 => ?_)
        · refine g_iconst (n := 0) C0 rfl dX7_isFull_52 ?_
          exact hE (v := false) () (by rw [show mFull (Mt 20) (Mt 1) k = false from by unfold mFull; simp; omega] <;> rfl) trivial X dX7_isFull_53
        · refine lv_aload_n hx hb dX7_isFull_36 rfl (lv_at hl 0 rfl) ?_
          refine g_get (v := .ref (h 2)) C0 X kX7 0 2 tb799 rfl rfl rfl dX7_isFull_37 ?_
          refine g_bipush (n := 62) C0 (by decide) dX7_isFull_40 ?_
          refine g_iald (v := nI (Mt 1 62)) (i := 62) C0 X 2 0 rfl rfl (by omega) rfl rfl dX7_isFull_42 ?_
          refine g_bipush (n := 6) C0 (by decide) dX7_isFull_43 ?_
          refine g_icmp_ne (x := Mt 1 62) (y := 6) (tgt := 52) C0 (by omega) (by omega) dX7_isFull_45 rfl (fun c21 => ?_) (fun c22 => ?_)
          · refine g_iconst (n := 0) C0 rfl dX7_isFull_52 ?_
            exact hE (v := false) () (by rw [show mFull (Mt 20) (Mt 1) k = false from by unfold mFull; simp; omega] <;> rfl) trivial X dX7_isFull_53
          · refine g_iconst (n := 1) C0 rfl dX7_isFull_48 ?_
            refine lv_goto (tgt := 53) hx hb dX7_isFull_49 (by decide) ?_
            exact hE (v := true) () (by rw [show mFull (Mt 20) (Mt 1) k = true from by unfold mFull; simp; omega] <;> rfl) trivial X dX7_isFull_53
      · refine lv_aload_n hx hb dX7_isFull_19 rfl (lv_at hl 0 rfl) ?_
        refine g_get (v := .ref (h 2)) C0 X kX7 0 2 tb799 rfl rfl rfl dX7_isFull_20 ?_
        refine g_bipush (n := 42) C0 (by decide) dX7_isFull_23 ?_
        refine g_iald (v := nI (Mt 1 42)) (i := 42) C0 X 2 0 rfl rfl (by omega) rfl rfl dX7_isFull_25 ?_
        refine g_bipush (n := 9) C0 (by decide) dX7_isFull_26 ?_
        refine g_icmp_eq (x := Mt 1 42) (y := 9) (tgt := 48) C0 (by omega) (by omega) dX7_isFull_28 rfl (fun c23 => ?_) (fun c24 => ?_)
        · refine g_iconst (n := 1) C0 rfl dX7_isFull_48 ?_
          refine lv_goto (tgt := 53) hx hb dX7_isFull_49 (by decide) ?_
          exact hE (v := true) () (by rw [show mFull (Mt 20) (Mt 1) k = true from by unfold mFull; simp; omega] <;> rfl) trivial X dX7_isFull_53
        · refine lv_iload_n hx hb dX7_isFull_31 rfl (lv_at hl 1 rfl) ?_
          refine g_iconst (n := 5) C0 rfl dX7_isFull_32 ?_
          refine g_icmp_ne (x := k) (y := 5) (tgt := 52) C0 (by omega) (by omega) dX7_isFull_33 rfl (fun c25 => ?_) (fun c26 => ?_)
          · refine g_iconst (n := 0) C0 rfl dX7_isFull_52 ?_
            exact hE (v := false) () (by rw [show mFull (Mt 20) (Mt 1) k = false from by unfold mFull; simp; omega] <;> rfl) trivial X dX7_isFull_53
          · refine lv_aload_n hx hb dX7_isFull_36 rfl (lv_at hl 0 rfl) ?_
            refine g_get (v := .ref (h 2)) C0 X kX7 0 2 tb799 rfl rfl rfl dX7_isFull_37 ?_
            refine g_bipush (n := 62) C0 (by decide) dX7_isFull_40 ?_
            refine g_iald (v := nI (Mt 1 62)) (i := 62) C0 X 2 0 rfl rfl (by omega) rfl rfl dX7_isFull_42 ?_
            refine g_bipush (n := 6) C0 (by decide) dX7_isFull_43 ?_
            refine g_icmp_ne (x := Mt 1 62) (y := 6) (tgt := 52) C0 (by omega) (by omega) dX7_isFull_45 rfl (fun c27 => ?_) (fun c28 => ?_)
            · refine g_iconst (n := 0) C0 rfl dX7_isFull_52 ?_
              exact hE (v := false) () (by rw [show mFull (Mt 20) (Mt 1) k = false from by unfold mFull; simp; omega] <;> rfl) trivial X dX7_isFull_53
            · refine g_iconst (n := 1) C0 rfl dX7_isFull_48 ?_
              refine lv_goto (tgt := 53) hx hb dX7_isFull_49 (by decide) ?_
              exact hE (v := true) () (by rw [show mFull (Mt 20) (Mt 1) k = true from by unfold mFull; simp; omega] <;> rfl) trivial X dX7_isFull_53
