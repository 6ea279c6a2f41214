set_option maxHeartbeats 4000000 in
set_option maxRecDepth 100000 in
theorem c_X7_text (l : Launch) (D : va_G) (tk : Nat → ClassId) (h : Nat → Nat) (Mt : Nat → Nat → Nat) (hi : Int32) (la ce : Nat → Int32) (n : Nat) (hq3 : Mt 20 3 = n) (hn : n ≤ 160) (ht8 : ∀ j, j < n → Mt 2 j < 128) : MX l yX7_text cX7_text 3 (some .int) ⟨7, 0, 0, 155⟩ D (TYS tk) [.ref (h 0)] (mW tk h Mt hi la ce) (fun (u : Nat) => u ≤ n ∧ (((mIt (Mt 2) n (mQb (Mt 20)) (zrow (Mt 1) 63) (-1) u)).1 5 ≠ 0 ∨ ((mIt (Mt 2) n (mQb (Mt 20)) (zrow (Mt 1) 63) (-1) u)).1 9 = 0) ∧ ∀ j, j < u → ((mIt (Mt 2) n (mQb (Mt 20)) (zrow (Mt 1) 63) (-1) j)).1 5 = 0 ∧ ((mIt (Mt 2) n (mQb (Mt 20)) (zrow (Mt 1) 63) (-1) j)).1 9 ≠ 0) (fun u => some (.int (if mEnd ((mIt (Mt 2) n (mQb (Mt 20)) (zrow (Mt 1) 63) (-1) u).1) ((mIt (Mt 2) n (mQb (Mt 20)) (zrow (Mt 1) 63) (-1) u).2.2) 5 = 0 then nI u else -10 - nI (mEnd ((mIt (Mt 2) n (mQb (Mt 20)) (zrow (Mt 1) 63) (-1) u).1) ((mIt (Mt 2) n (mQb (Mt 20)) (zrow (Mt 1) 63) (-1) u).2.2) 6)))) (fun u => mW tk h (u3 (u3 (u3 (u3 Mt 20 (mTQ (mEnd ((mIt (Mt 2) n (mQb (Mt 20)) (zrow (Mt 1) 63) (-1) u).1) ((mIt (Mt 2) n (mQb (Mt 20)) (zrow (Mt 1) 63) (-1) u).2.2)))) 1 ((mIt (Mt 2) n (mQb (Mt 20)) (zrow (Mt 1) 63) (-1) u).2.1)) 0 (if mEnd ((mIt (Mt 2) n (mQb (Mt 20)) (zrow (Mt 1) 63) (-1) u).1) ((mIt (Mt 2) n (mQb (Mt 20)) (zrow (Mt 1) 63) (-1) u).2.2) 5 = 0 then crow ((mIt (Mt 2) n (mQb (Mt 20)) (zrow (Mt 1) 63) (-1) u).2.1) (Mt 0) 63 else Mt 0)) 10 (if mEnd ((mIt (Mt 2) n (mQb (Mt 20)) (zrow (Mt 1) 63) (-1) u).1) ((mIt (Mt 2) n (mQb (Mt 20)) (zrow (Mt 1) 63) (-1) u).2.2) 5 = 0 then u1 (u1 (Mt 10) 0 0) 1 0 else Mt 10)) ((mIt (Mt 2) n (mQb (Mt 20)) (zrow (Mt 1) 63) (-1) u).2.2) la ce) 0 0 := by
  refine MX.of_i (by decide) rfl ?_
  intro zp ze zs zm za zb zt zc zA zQ ls C0 hnm X hl hE
  have hx := C0.1
  have hb := C0.2.1
  have ht := C0.2.2.2.2.1
  have X : Hx D zA zs zs.heap [] (mW tk h Mt hi la ce) := X
  have hl : lv_has ls 3 [(0, .ref (h 0))] := hl
  obtain ⟨H, hH⟩ : ∃ H, H = zs.heap := ⟨_, rfl⟩
  rw [← hH] at X ⊢
  obtain ⟨locs, hlo⟩ : ∃ L : List Loc, L = [] := ⟨_, rfl⟩
  rw [← hlo] at X ⊢
  refine lv_aload_n hx hb dX7_text_0 rfl (lv_at hl 0 rfl) ?_
  refine g_iconst (n := 0) C0 rfl dX7_text_1 ?_
  refine g_put (v := .int (nI 0)) (ft := .int) C0 X kX7 0 9 tb806 rfl rfl rfl rfl rfl rfl rfl dX7_text_2 (fun H locs X => ?_)
  have X : Hx D zA zs H locs (mW tk h (u2 Mt 20 5 0) hi la ce) := X
  refine lv_aload_n hx hb dX7_text_5 rfl (lv_at hl 0 rfl) ?_
  refine g_iconst (n := 0) C0 rfl dX7_text_6 ?_
  refine g_put (v := .int (nI 0)) (ft := .int) C0 X kX7 0 11 tb808 rfl rfl rfl rfl rfl rfl rfl dX7_text_7 (fun H locs X => ?_)
  have X : Hx D zA zs H locs (mW tk h (u2 (u2 Mt 20 5 0) 20 7 0) hi la ce) := X
  refine lv_aload_n hx hb dX7_text_10 rfl (lv_at hl 0 rfl) ?_
  refine g_iconst (n := 0) C0 rfl dX7_text_11 ?_
  refine g_put (v := .int (nI 0)) (ft := .int) C0 X kX7 0 3 tb800 rfl rfl rfl rfl rfl rfl rfl dX7_text_12 (fun H locs X => ?_)
  have X : Hx D zA zs H locs (mW tk h (u2 (u2 (u2 Mt 20 5 0) 20 7 0) 20 1 0) hi la ce) := X
  refine lv_aload_n hx hb dX7_text_15 rfl (lv_at hl 0 rfl) ?_
  refine g_iconst (n := 0) C0 rfl dX7_text_16 ?_
  refine g_put (v := .int (nI 0)) (ft := .boolean) C0 X kX7 0 4 tb801 rfl rfl rfl rfl (by decide) (by decide) rfl dX7_text_17 (fun H locs X => ?_)
  have X : Hx D zA zs H locs (mW tk h (u2 (u2 (u2 (u2 Mt 20 5 0) 20 7 0) 20 1 0) 20 2 0) hi la ce) := X
  refine lv_aload_n hx hb dX7_text_20 rfl (lv_at hl 0 rfl) ?_
  refine lv_iconst (v := (-1)) hx hb dX7_text_21 (by decide) ?_
  refine g_put (v := .int (-1)) (ft := .int) C0 X kX7 0 5 tb802 rfl rfl rfl rfl rfl rfl rfl dX7_text_22 (fun H locs X => ?_)
  have X : Hx D zA zs H locs (mW tk h (u2 (u2 (u2 (u2 Mt 20 5 0) 20 7 0) 20 1 0) 20 2 0) (-1) la ce) := X
  have X : Hx D zA zs H locs (mW tk h (u3 Mt 20 (mQb (Mt 20))) (-1) la ce) := X
  refine g_iconst (n := 0) C0 rfl dX7_text_25 ?_
  refine lv_istore_n (lv' := [(1, .int (nI 0)), (0, .ref (h 0))]) hx hb dX7_text_26 rfl hl (by decide) rfl (fun ls hl => ?_)
  refine g_iconst (n := 0) C0 rfl dX7_text_27 ?_
  refine lv_istore_n (lv' := [(2, .int (nI 0)), (1, .int (nI 0)), (0, .ref (h 0))]) hx hb dX7_text_28 rfl hl (by decide) rfl (fun ls hl => ?_)
  have J29 : ∀ (fz : Nat) (k : Nat), 63 - k < fz → ∀ (hk : k ≤ 63) (H : Heap) (locs : List Loc) (ls : Array Slot), Hx D zA zs H locs (mW tk h (u3 (u3 Mt 20 (mQb (Mt 20))) 1 (zrow (Mt 1) k)) (-1) la ce) → lv_has ls 3 [(2, .int (nI k)), (1, .int (nI 0)), (0, .ref (h 0))] → W zp l ze ⟨7, 0, 0, 155⟩ zs zm za zb zt zc H locs 0 0 zQ (F0 zm 29 ls []) := by
    intro fz
    induction fz with
    | zero => intro k hz; exact absurd hz (Nat.not_lt_zero _)
    | succ fz ih29 =>
      intro k hz29 hk H locs ls X hl
      refine lv_iload_n hx hb dX7_text_29 rfl (lv_at hl 0 rfl) ?_
      refine g_bipush (n := 63) C0 (by decide) dX7_text_30 ?_
      refine g_icmp_ge (x := k) (y := 63) (tgt := 48) C0 (by omega) (by omega) dX7_text_32 rfl (fun c1 => ?_) (fun c2 => ?_)
      · have X : Hx D zA zs H locs (mW tk h (u3 (u3 Mt 20 (mQb (Mt 20))) 1 (zrow (Mt 1) 63)) (-1) la ce) := X.to (by rw [show zrow (Mt 1) 63 = zrow (Mt 1) k from congrArg (zrow (Mt 1)) (show 63 = k by omega)] <;> rfl)
        refine lv_aload_n hx hb dX7_text_48 rfl (lv_at hl 2 rfl) ?_
        refine g_callV (As := []) (rest := []) (wr := []) (C0.sz hl) X (c_X7_step l D tk h (u3 (u3 Mt 20 (mQb (Mt 20))) 1 (zrow (Mt 1) 63)) (-1) la ce n (by exact hq3) (by exact hn) (by exact ht8) (by exact Nat.zero_le n) (by exact Nat.zero_le 6)) ⟨tb896, tb899, tb8, ⟨by decide, by decide, rfl⟩, rfl, rfl, Nat.le_of_ble_eq_true rfl, Nat.le_of_ble_eq_true rfl⟩ tb898 tbs21 0 7 rfl rfl rfl rfl [0, 1, 2, 3, 4, 5, 6, 7, 8, 9, 10, 11, 12, 13] [] rfl rfl rfl rfl rfl (Nat.le_of_ble_eq_true rfl) ⟨Nat.le_of_ble_eq_true rfl, Nat.le_of_ble_eq_true rfl⟩ dX7_text_49 (fun _ H locs _ X => ?_)
        have X : Hx D zA zs H locs (mW tk h (u3 (u3 Mt 1 (zrow (Mt 1) 63)) 20 (mStep (Mt 2) n ((u3 Mt 20 (mQb (Mt 20))) 20))) (-1) la ce) := X
        have X : Hx D zA zs H locs (mW tk h (u3 (u3 Mt 20 ((mIt (Mt 2) n (mQb (Mt 20)) (zrow (Mt 1) 63) (-1) 0).1)) 1 ((mIt (Mt 2) n (mQb (Mt 20)) (zrow (Mt 1) 63) (-1) 0).2.1)) ((mIt (Mt 2) n (mQb (Mt 20)) (zrow (Mt 1) 63) (-1) 0).2.2) la ce) := X.to (by rw [mIt_01, mIt_02, mIt_03] <;> rfl)
        have J52 : ∀ (fz : Nat) (u : Nat), mMs n ((mIt (Mt 2) n (mQb (Mt 20)) (zrow (Mt 1) 63) (-1) u).1) < fz → ∀ (hu : u ≤ n) (hpre : ∀ j, j < u → ((mIt (Mt 2) n (mQb (Mt 20)) (zrow (Mt 1) 63) (-1) j)).1 5 = 0 ∧ ((mIt (Mt 2) n (mQb (Mt 20)) (zrow (Mt 1) 63) (-1) j)).1 9 ≠ 0) (H : Heap) (locs : List Loc) (ls : Array Slot), Hx D zA zs H locs (mW tk h (u3 (u3 Mt 20 ((mIt (Mt 2) n (mQb (Mt 20)) (zrow (Mt 1) 63) (-1) u).1)) 1 ((mIt (Mt 2) n (mQb (Mt 20)) (zrow (Mt 1) 63) (-1) u).2.1)) ((mIt (Mt 2) n (mQb (Mt 20)) (zrow (Mt 1) 63) (-1) u).2.2) la ce) → lv_has ls 3 [(1, .int (nI u)), (0, .ref (h 0))] → W zp l ze ⟨7, 0, 0, 155⟩ zs zm za zb zt zc H locs 0 0 zQ (F0 zm 52 ls []) := by
          intro fz
          induction fz with
          | zero => intro u hz; exact absurd hz (Nat.not_lt_zero _)
          | succ fz ih52 =>
            intro u hz52 hu hpre H locs ls X hl
            refine lv_aload_n hx hb dX7_text_52 rfl (lv_at hl 1 rfl) ?_
            have hw := mIt_w (t := Mt 2) (n := n) (q := Mt 20) (p := Mt 1) (h := -1) u
            obtain ⟨hwI, hwP, hwJ, hw3⟩ := hw
            obtain ⟨hb1, hb2, hb3, hb4, hb5⟩ := id hwI
            refine g_get (v := .int (nI (((mIt (Mt 2) n (mQb (Mt 20)) (zrow (Mt 1) 63) (-1) u).1) 5))) C0 X kX7 0 9 tb806 rfl rfl rfl dX7_text_53 ?_
            refine g_ifne (x := ((mIt (Mt 2) n (mQb (Mt 20)) (zrow (Mt 1) 63) (-1) u).1) 5) (tgt := 76) C0 (by omega) dX7_text_56 rfl (fun c3 => ?_) (fun c4 => ?_)
            · have hstop : ((mIt (Mt 2) n (mQb (Mt 20)) (zrow (Mt 1) 63) (-1) u)).1 5 ≠ 0 ∨ ((mIt (Mt 2) n (mQb (Mt 20)) (zrow (Mt 1) 63) (-1) u)).1 9 = 0 := by omega
              refine lv_aload_n hx hb dX7_text_76 rfl (lv_at hl 1 rfl) ?_
              have J100 : ∀ (qe : Nat → Nat) (hqe : mEnd ((mIt (Mt 2) n (mQb (Mt 20)) (zrow (Mt 1) 63) (-1) u).1) ((mIt (Mt 2) n (mQb (Mt 20)) (zrow (Mt 1) 63) (-1) u).2.2) = qe) (hIe : MI n qe) (H : Heap) (locs : List Loc) (ls : Array Slot), Hx D zA zs H locs (mW tk h (u3 (u3 Mt 20 qe) 1 ((mIt (Mt 2) n (mQb (Mt 20)) (zrow (Mt 1) 63) (-1) u).2.1)) ((mIt (Mt 2) n (mQb (Mt 20)) (zrow (Mt 1) 63) (-1) u).2.2) la ce) → lv_has ls 3 [(1, .int (nI u)), (0, .ref (h 0))] → W zp l ze ⟨7, 0, 0, 155⟩ zs zm za zb zt zc H locs 0 0 zQ (F0 zm 100 ls []) := by
                intro qe hqe hIe H locs ls X hl
                refine lv_aload_n hx hb dX7_text_100 rfl (lv_at hl 1 rfl) ?_
                obtain ⟨hf1, hf2, hf3, hf4, hf5⟩ := id hIe
                refine g_iconst (n := 0) C0 rfl dX7_text_101 ?_
                refine g_put (v := .int (nI 0)) (ft := .int) C0 X kX7 0 7 tb804 rfl rfl rfl rfl rfl rfl rfl dX7_text_102 (fun H locs X => ?_)
                have X : Hx D zA zs H locs (mW tk h (u2 (u3 (u3 Mt 20 qe) 1 ((mIt (Mt 2) n (mQb (Mt 20)) (zrow (Mt 1) 63) (-1) u).2.1)) 20 3 0) ((mIt (Mt 2) n (mQb (Mt 20)) (zrow (Mt 1) 63) (-1) u).2.2) la ce) := X
                refine lv_aload_n hx hb dX7_text_105 rfl (lv_at hl 1 rfl) ?_
                refine lv_aload_n hx hb dX7_text_106 rfl (lv_at hl 1 rfl) ?_
                refine g_get (v := .int (nI (qe 5))) C0 X kX7 0 9 tb806 rfl rfl rfl dX7_text_107 ?_
                refine g_put (v := .int (nI (qe 5))) (ft := .int) C0 X kX7 0 8 tb805 rfl rfl rfl rfl rfl rfl rfl dX7_text_110 (fun H locs X => ?_)
                have X : Hx D zA zs H locs (mW tk h (u2 (u2 (u3 (u3 Mt 20 qe) 1 ((mIt (Mt 2) n (mQb (Mt 20)) (zrow (Mt 1) 63) (-1) u).2.1)) 20 3 0) 20 4 (qe 5)) ((mIt (Mt 2) n (mQb (Mt 20)) (zrow (Mt 1) 63) (-1) u).2.2) la ce) := X
                refine lv_aload_n hx hb dX7_text_113 rfl (lv_at hl 1 rfl) ?_
                refine g_get (v := .int (nI (qe 5))) C0 X kX7 0 9 tb806 rfl rfl rfl dX7_text_114 ?_
                refine g_ifle (x := qe 5) (tgt := 128) C0 (by omega) dX7_text_117 rfl (fun c5 => ?_) (fun c6 => ?_)
                · refine g_iconst (n := 0) C0 rfl dX7_text_128 ?_
                  refine lv_istore_n (lv' := [(2, .int (nI 0)), (1, .int (nI u)), (0, .ref (h 0))]) hx hb dX7_text_129 rfl hl (by decide) rfl (fun ls hl => ?_)
                  have J130 : ∀ (fz : Nat) (i : Nat), 63 - i < fz → ∀ (hi9 : i ≤ 63) (H : Heap) (locs : List Loc) (ls : Array Slot), Hx D zA zs H locs (mW tk h (u3 (u3 (u3 Mt 20 (u1 (u1 qe 3 0) 4 (qe 5))) 1 ((mIt (Mt 2) n (mQb (Mt 20)) (zrow (Mt 1) 63) (-1) u).2.1)) 0 (crow ((mIt (Mt 2) n (mQb (Mt 20)) (zrow (Mt 1) 63) (-1) u).2.1) (Mt 0) i)) ((mIt (Mt 2) n (mQb (Mt 20)) (zrow (Mt 1) 63) (-1) u).2.2) la ce) → lv_has ls 3 [(2, .int (nI i)), (1, .int (nI u)), (0, .ref (h 0))] → W zp l ze ⟨7, 0, 0, 155⟩ zs zm za zb zt zc H locs 0 0 zQ (F0 zm 130 ls []) := by
                    intro fz
                    induction fz with
                    | zero => intro i hz; exact absurd hz (Nat.not_lt_zero _)
                    | succ fz ih130 =>
                      intro i hz130 hi9 H locs ls X hl
                      refine lv_iload_n hx hb dX7_text_130 rfl (lv_at hl 0 rfl) ?_
                      refine g_bipush (n := 63) C0 (by decide) dX7_text_131 ?_
                      refine g_icmp_ge (x := i) (y := 63) (tgt := 154) C0 (by omega) (by omega) dX7_text_133 rfl (fun c7 => ?_) (fun c8 => ?_)
                      · have X : Hx D zA zs H locs (mW tk h (u3 (u3 (u3 Mt 20 (u1 (u1 qe 3 0) 4 (qe 5))) 1 ((mIt (Mt 2) n (mQb (Mt 20)) (zrow (Mt 1) 63) (-1) u).2.1)) 0 (crow ((mIt (Mt 2) n (mQb (Mt 20)) (zrow (Mt 1) 63) (-1) u).2.1) (Mt 0) 63)) ((mIt (Mt 2) n (mQb (Mt 20)) (zrow (Mt 1) 63) (-1) u).2.2) la ce) := X.to (by rw [show crow ((mIt (Mt 2) n (mQb (Mt 20)) (zrow (Mt 1) 63) (-1) u).2.1) (Mt 0) 63 = crow ((mIt (Mt 2) n (mQb (Mt 20)) (zrow (Mt 1) 63) (-1) u).2.1) (Mt 0) i from congrArg (crow ((mIt (Mt 2) n (mQb (Mt 20)) (zrow (Mt 1) 63) (-1) u).2.1) (Mt 0)) (show 63 = i by omega)] <;> rfl)
                        refine lv_aload_n hx hb dX7_text_154 rfl (lv_at hl 2 rfl) ?_
                        refine lv_aload_n hx hb dX7_text_155 rfl (lv_at hl 2 rfl) ?_
                        refine g_get (v := .int (nI ((u1 (u1 qe 3 0) 4 (qe 5)) 1))) C0 X kX7 0 3 tb800 rfl rfl rfl dX7_text_156 ?_
                        refine g_put (v := .int (nI ((u1 (u1 qe 3 0) 4 (qe 5)) 1))) (ft := .int) C0 X kX7 0 1 tb798 rfl rfl rfl rfl rfl rfl rfl dX7_text_159 (fun H locs X => ?_)
                        have X : Hx D zA zs H locs (mW tk h (u2 (u3 (u3 (u3 Mt 20 (u1 (u1 qe 3 0) 4 (qe 5))) 1 ((mIt (Mt 2) n (mQb (Mt 20)) (zrow (Mt 1) 63) (-1) u).2.1)) 0 (crow ((mIt (Mt 2) n (mQb (Mt 20)) (zrow (Mt 1) 63) (-1) u).2.1) (Mt 0) 63)) 20 0 ((u1 (u1 qe 3 0) 4 (qe 5)) 1)) ((mIt (Mt 2) n (mQb (Mt 20)) (zrow (Mt 1) 63) (-1) u).2.2) la ce) := X
                        refine lv_aload_n hx hb dX7_text_162 rfl (lv_at hl 2 rfl) ?_
                        refine g_iconst (n := 0) C0 rfl dX7_text_163 ?_
                        refine g_put (v := .int (nI 0)) (ft := .int) C0 X kX7 0 20 tb817 rfl rfl rfl rfl rfl rfl rfl dX7_text_164 (fun H locs X => ?_)
                        have X : Hx D zA zs H locs (mW tk h (u2 (u2 (u3 (u3 (u3 Mt 20 (u1 (u1 qe 3 0) 4 (qe 5))) 1 ((mIt (Mt 2) n (mQb (Mt 20)) (zrow (Mt 1) 63) (-1) u).2.1)) 0 (crow ((mIt (Mt 2) n (mQb (Mt 20)) (zrow (Mt 1) 63) (-1) u).2.1) (Mt 0) 63)) 20 0 ((u1 (u1 qe 3 0) 4 (qe 5)) 1)) 20 11 0) ((mIt (Mt 2) n (mQb (Mt 20)) (zrow (Mt 1) 63) (-1) u).2.2) la ce) := X
                        refine lv_aload_n hx hb dX7_text_167 rfl (lv_at hl 2 rfl) ?_
                        refine g_get (v := .ref (h 10)) C0 X kX7 0 22 tb819 rfl rfl rfl dX7_text_168 ?_
                        refine g_iconst (n := 0) C0 rfl dX7_text_171 ?_
                        refine g_iconst (n := 0) C0 rfl dX7_text_172 ?_
                        refine g_zast (g := nf (u1 (Mt 10) 0 0)) (i := 0) C0 X 10 2 rfl rfl (by omega) rfl (by omega) (nf_u1 _ _ _) dX7_text_173 (fun H locs X => ?_)
                        have X : Hx D zA zs H locs (mW tk h (u2 (u2 (u2 (u3 (u3 (u3 Mt 20 (u1 (u1 qe 3 0) 4 (qe 5))) 1 ((mIt (Mt 2) n (mQb (Mt 20)) (zrow (Mt 1) 63) (-1) u).2.1)) 0 (crow ((mIt (Mt 2) n (mQb (Mt 20)) (zrow (Mt 1) 63) (-1) u).2.1) (Mt 0) 63)) 20 0 ((u1 (u1 qe 3 0) 4 (qe 5)) 1)) 20 11 0) 10 0 0) ((mIt (Mt 2) n (mQb (Mt 20)) (zrow (Mt 1) 63) (-1) u).2.2) la ce) := X
                        refine lv_aload_n hx hb dX7_text_174 rfl (lv_at hl 2 rfl) ?_
                        refine g_get (v := .ref (h 10)) C0 X kX7 0 22 tb819 rfl rfl rfl dX7_text_175 ?_
                        refine g_iconst (n := 1) C0 rfl dX7_text_178 ?_
                        refine g_iconst (n := 0) C0 rfl dX7_text_179 ?_
                        refine g_zast (g := nf (u1 (u1 (Mt 10) 0 0) 1 0)) (i := 1) C0 X 10 2 rfl rfl (by omega) rfl (by omega) (nf_u1 _ _ _) dX7_text_180 (fun H locs X => ?_)
                        have X : Hx D zA zs H locs (mW tk h (u2 (u2 (u2 (u2 (u3 (u3 (u3 Mt 20 (u1 (u1 qe 3 0) 4 (qe 5))) 1 ((mIt (Mt 2) n (mQb (Mt 20)) (zrow (Mt 1) 63) (-1) u).2.1)) 0 (crow ((mIt (Mt 2) n (mQb (Mt 20)) (zrow (Mt 1) 63) (-1) u).2.1) (Mt 0) 63)) 20 0 ((u1 (u1 qe 3 0) 4 (qe 5)) 1)) 20 11 0) 10 0 0) 10 1 0) ((mIt (Mt 2) n (mQb (Mt 20)) (zrow (Mt 1) 63) (-1) u).2.2) la ce) := X
                        refine lv_iload_n hx hb dX7_text_181 rfl (lv_at hl 1 rfl) ?_
                        exact hE (v := nI u) u (by rw [hqe, if_pos (show qe 5 = 0 by omega)]) (by exact ⟨hu, hstop, hpre⟩) (X.to (by rw [mTQ, hqe, if_pos (show qe 5 = 0 by omega), if_pos (show qe 5 = 0 by omega), if_pos (show qe 5 = 0 by omega)] <;> rfl)) dX7_text_182
                      · refine lv_aload_n hx hb dX7_text_136 rfl (lv_at hl 2 rfl) ?_
                        refine g_get (v := .ref (h 1)) C0 X kX7 0 0 tb797 rfl rfl rfl dX7_text_137 ?_
                        refine lv_iload_n hx hb dX7_text_140 rfl (lv_at hl 0 rfl) ?_
                        refine lv_aload_n hx hb dX7_text_141 rfl (lv_at hl 2 rfl) ?_
                        refine g_get (v := .ref (h 2)) C0 X kX7 0 2 tb799 rfl rfl rfl dX7_text_142 ?_
                        refine lv_iload_n hx hb dX7_text_145 rfl (lv_at hl 0 rfl) ?_
                        refine g_iald (v := nI (((mIt (Mt 2) n (mQb (Mt 20)) (zrow (Mt 1) 63) (-1) u).2.1) i)) (i := i) C0 X 2 0 rfl rfl (by omega) rfl (by first | rfl | exact congrArg nI (u1_s _ _ _)) dX7_text_146 ?_
                        refine g_iast (g := nf (u1 (crow ((mIt (Mt 2) n (mQb (Mt 20)) (zrow (Mt 1) 63) (-1) u).2.1) (Mt 0) i) i (((mIt (Mt 2) n (mQb (Mt 20)) (zrow (Mt 1) 63) (-1) u).2.1) i))) (i := i) C0 X 1 0 rfl rfl (by omega) rfl (nf_u1 _ _ _) dX7_text_147 (fun H locs X => ?_)
                        have X : Hx D zA zs H locs (mW tk h (u2 (u3 (u3 (u3 Mt 20 (u1 (u1 qe 3 0) 4 (qe 5))) 1 ((mIt (Mt 2) n (mQb (Mt 20)) (zrow (Mt 1) 63) (-1) u).2.1)) 0 (crow ((mIt (Mt 2) n (mQb (Mt 20)) (zrow (Mt 1) 63) (-1) u).2.1) (Mt 0) i)) 0 i (((mIt (Mt 2) n (mQb (Mt 20)) (zrow (Mt 1) 63) (-1) u).2.1) i)) ((mIt (Mt 2) n (mQb (Mt 20)) (zrow (Mt 1) 63) (-1) u).2.2) la ce) := X
                        refine g_iinc (j := 1) (z := i + 1) (lv' := [(2, .int (nI (i + 1))), (1, .int (nI u)), (0, .ref (h 0))]) C0 rfl (by first | rfl | omega) dX7_text_148 hl (k := 0) rfl (by decide) rfl (fun ls hl => ?_)
                        refine lv_goto (tgt := 130) hx hb dX7_text_151 (by decide) ?_
                        exact ih130 (i + 1) (by omega) (by omega) H locs ls X (lv_sub hl [0, 1, 2] rfl)
                  exact J130 ((63 - 0) + 1) 0 (Nat.lt_succ_self _) (by omega) H locs ls X (lv_sub hl [0, 1, 2] rfl)
                · refine lv_bipush (v := (-10)) hx hb dX7_text_120 (by decide) ?_
                  refine lv_aload_n hx hb dX7_text_122 rfl (lv_at hl 1 rfl) ?_
                  refine g_get (v := .int (nI (qe 6))) C0 X kX7 0 10 tb807 rfl rfl rfl dX7_text_123 ?_
                  refine lv_isub hx hb dX7_text_126 ?_
                  exact hE (v := (-10) - (nI (qe 6))) u (by rw [hqe, if_neg (show ¬ qe 5 = 0 by omega)]) (by exact ⟨hu, hstop, hpre⟩) (X.to (by rw [mTQ, hqe, if_neg (show ¬ qe 5 = 0 by omega), if_neg (show ¬ qe 5 = 0 by omega), if_neg (show ¬ qe 5 = 0 by omega)] <;> rfl)) dX7_text_127
              refine g_get (v := .int (nI (((mIt (Mt 2) n (mQb (Mt 20)) (zrow (Mt 1) 63) (-1) u).1) 5))) C0 X kX7 0 9 tb806 rfl rfl rfl dX7_text_77 ?_
              refine g_ifne (x := ((mIt (Mt 2) n (mQb (Mt 20)) (zrow (Mt 1) 63) (-1) u).1) 5) (tgt := 100) C0 (by omega) dX7_text_80 rfl (fun c9 => ?_) (fun c10 => ?_)
              · obtain ⟨qe, hqe⟩ : ∃ z, mEnd ((mIt (Mt 2) n (mQb (Mt 20)) (zrow (Mt 1) 63) (-1) u).1) ((mIt (Mt 2) n (mQb (Mt 20)) (zrow (Mt 1) 63) (-1) u).2.2) = z := ⟨_, rfl⟩
                have X : Hx D zA zs H locs (mW tk h (u3 (u3 Mt 1 ((mIt (Mt 2) n (mQb (Mt 20)) (zrow (Mt 1) 63) (-1) u).2.1)) 20 qe) ((mIt (Mt 2) n (mQb (Mt 20)) (zrow (Mt 1) 63) (-1) u).2.2) la ce) := X.to (by rw [show qe = (mIt (Mt 2) n (mQb (Mt 20)) (zrow (Mt 1) 63) (-1) u).1 from by rw [← hqe]; exact if_neg (fun z => by first | omega | exact z.2 c9)] <;> rfl)
                have hIe : MI n qe := by rw [← hqe]; exact mEnd_6 hwI
                obtain ⟨hf1, hf2, hf3, hf4, hf5⟩ := id hIe
                exact J100 qe (by exact hqe) (by exact hIe) H locs ls X (lv_sub hl [0, 1] rfl)
              · refine lv_aload_n hx hb dX7_text_83 rfl (lv_at hl 1 rfl) ?_
                refine g_get (v := .int ((mIt (Mt 2) n (mQb (Mt 20)) (zrow (Mt 1) 63) (-1) u).2.2)) C0 X kX7 0 5 tb802 rfl rfl rfl dX7_text_84 ?_
                refine lv_aload_n hx hb dX7_text_87 rfl (lv_at hl 1 rfl) ?_
                refine g_get (v := .int (nI (((mIt (Mt 2) n (mQb (Mt 20)) (zrow (Mt 1) 63) (-1) u).1) 1))) C0 X kX7 0 3 tb800 rfl rfl rfl dX7_text_88 ?_
                refine lv_icmp_lt (tgt := 100) hx hb dX7_text_91 rfl (fun c11 => ?_) (fun c12 => ?_)
                · obtain ⟨qe, hqe⟩ : ∃ z, mEnd ((mIt (Mt 2) n (mQb (Mt 20)) (zrow (Mt 1) 63) (-1) u).1) ((mIt (Mt 2) n (mQb (Mt 20)) (zrow (Mt 1) 63) (-1) u).2.2) = z := ⟨_, rfl⟩
                  have X : Hx D zA zs H locs (mW tk h (u3 (u3 Mt 1 ((mIt (Mt 2) n (mQb (Mt 20)) (zrow (Mt 1) 63) (-1) u).2.1)) 20 qe) ((mIt (Mt 2) n (mQb (Mt 20)) (zrow (Mt 1) 63) (-1) u).2.2) la ce) := X.to (by rw [show qe = (mIt (Mt 2) n (mQb (Mt 20)) (zrow (Mt 1) 63) (-1) u).1 from by rw [← hqe]; exact if_neg (fun z => by first | omega | exact z.2 c11)] <;> rfl)
                  have hIe : MI n qe := by rw [← hqe]; exact mEnd_6 hwI
                  obtain ⟨hf1, hf2, hf3, hf4, hf5⟩ := id hIe
                  exact J100 qe (by exact hqe) (by exact hIe) H locs ls X (lv_sub hl [0, 1] rfl)
                · refine lv_aload_n hx hb dX7_text_94 rfl (lv_at hl 1 rfl) ?_
                  refine g_bipush (n := 6) C0 (by decide) dX7_text_95 ?_
                  refine g_callV (As := [.int (nI 6)]) (rest := []) (wr := []) (C0.sz hl) X (c_X7_fails l D tk h (u3 (u3 Mt 20 ((mIt (Mt 2) n (mQb (Mt 20)) (zrow (Mt 1) 63) (-1) u).1)) 1 ((mIt (Mt 2) n (mQb (Mt 20)) (zrow (Mt 1) 63) (-1) u).2.1)) ((mIt (Mt 2) n (mQb (Mt 20)) (zrow (Mt 1) 63) (-1) u).2.2) la ce 6 (by exact hb3)) ⟨tb908, tb911, tb8, ⟨by decide, by decide, rfl⟩, rfl, rfl, Nat.le_of_ble_eq_true rfl, Nat.le_of_ble_eq_true rfl⟩ tb910 tbs23 0 7 rfl rfl rfl rfl [0, 1, 2, 3, 4, 5, 6, 7, 8, 9, 10, 11, 12, 13] [] rfl rfl rfl rfl rfl (Nat.le_of_ble_eq_true rfl) ⟨Nat.le_of_ble_eq_true rfl, Nat.le_of_ble_eq_true rfl⟩ dX7_text_97 (fun _ H locs _ X => ?_)
                  have X : Hx D zA zs H locs (mW tk h (u3 (u3 Mt 1 ((mIt (Mt 2) n (mQb (Mt 20)) (zrow (Mt 1) 63) (-1) u).2.1)) 20 (mFail ((u3 Mt 20 ((mIt (Mt 2) n (mQb (Mt 20)) (zrow (Mt 1) 63) (-1) u).1)) 20) 6)) ((mIt (Mt 2) n (mQb (Mt 20)) (zrow (Mt 1) 63) (-1) u).2.2) la ce) := X
                  obtain ⟨qe, hqe⟩ : ∃ z, mEnd ((mIt (Mt 2) n (mQb (Mt 20)) (zrow (Mt 1) 63) (-1) u).1) ((mIt (Mt 2) n (mQb (Mt 20)) (zrow (Mt 1) 63) (-1) u).2.2) = z := ⟨_, rfl⟩
                  have X : Hx D zA zs H locs (mW tk h (u3 (u3 Mt 1 ((mIt (Mt 2) n (mQb (Mt 20)) (zrow (Mt 1) 63) (-1) u).2.1)) 20 qe) ((mIt (Mt 2) n (mQb (Mt 20)) (zrow (Mt 1) 63) (-1) u).2.2) la ce) := X.to (by rw [show qe = mFail ((u3 Mt 20 ((mIt (Mt 2) n (mQb (Mt 20)) (zrow (Mt 1) 63) (-1) u).1)) 20) 6 from by rw [← hqe]; exact if_pos ⟨by omega, c12⟩] <;> rfl)
                  have hIe : MI n qe := by rw [← hqe]; exact mEnd_6 hwI
                  obtain ⟨hf1, hf2, hf3, hf4, hf5⟩ := id hIe
                  exact J100 qe (by exact hqe) (by exact hIe) H locs ls X (lv_sub hl [0, 1] rfl)
            · refine lv_aload_n hx hb dX7_text_59 rfl (lv_at hl 1 rfl) ?_
              refine g_get (v := .int (nI (((mIt (Mt 2) n (mQb (Mt 20)) (zrow (Mt 1) 63) (-1) u).1) 9))) C0 X kX7 0 13 tb810 rfl rfl rfl dX7_text_60 ?_
              refine g_ifeq (x := ((mIt (Mt 2) n (mQb (Mt 20)) (zrow (Mt 1) 63) (-1) u).1) 9) (tgt := 76) C0 (by omega) dX7_text_63 rfl (fun c13 => ?_) (fun c14 => ?_)
              · have hstop : ((mIt (Mt 2) n (mQb (Mt 20)) (zrow (Mt 1) 63) (-1) u)).1 5 ≠ 0 ∨ ((mIt (Mt 2) n (mQb (Mt 20)) (zrow (Mt 1) 63) (-1) u)).1 9 = 0 := by omega
                refine lv_aload_n hx hb dX7_text_76 rfl (lv_at hl 1 rfl) ?_
                have J100 : ∀ (qe : Nat → Nat) (hqe : mEnd ((mIt (Mt 2) n (mQb (Mt 20)) (zrow (Mt 1) 63) (-1) u).1) ((mIt (Mt 2) n (mQb (Mt 20)) (zrow (Mt 1) 63) (-1) u).2.2) = qe) (hIe : MI n qe) (H : Heap) (locs : List Loc) (ls : Array Slot), Hx D zA zs H locs (mW tk h (u3 (u3 Mt 20 qe) 1 ((mIt (Mt 2) n (mQb (Mt 20)) (zrow (Mt 1) 63) (-1) u).2.1)) ((mIt (Mt 2) n (mQb (Mt 20)) (zrow (Mt 1) 63) (-1) u).2.2) la ce) → lv_has ls 3 [(1, .int (nI u)), (0, .ref (h 0))] → W zp l ze ⟨7, 0, 0, 155⟩ zs zm za zb zt zc H locs 0 0 zQ (F0 zm 100 ls []) := by
                  intro qe hqe hIe H locs ls X hl
                  refine lv_aload_n hx hb dX7_text_100 rfl (lv_at hl 1 rfl) ?_
                  obtain ⟨hf1, hf2, hf3, hf4, hf5⟩ := id hIe
                  refine g_iconst (n := 0) C0 rfl dX7_text_101 ?_
                  refine g_put (v := .int (nI 0)) (ft := .int) C0 X kX7 0 7 tb804 rfl rfl rfl rfl rfl rfl rfl dX7_text_102 (fun H locs X => ?_)
                  have X : Hx D zA zs H locs (mW tk h (u2 (u3 (u3 Mt 20 qe) 1 ((mIt (Mt 2) n (mQb (Mt 20)) (zrow (Mt 1) 63) (-1) u).2.1)) 20 3 0) ((mIt (Mt 2) n (mQb (Mt 20)) (zrow (Mt 1) 63) (-1) u).2.2) la ce) := X
                  refine lv_aload_n hx hb dX7_text_105 rfl (lv_at hl 1 rfl) ?_
                  refine lv_aload_n hx hb dX7_text_106 rfl (lv_at hl 1 rfl) ?_
                  refine g_get (v := .int (nI (qe 5))) C0 X kX7 0 9 tb806 rfl rfl rfl dX7_text_107 ?_
                  refine g_put (v := .int (nI (qe 5))) (ft := .int) C0 X kX7 0 8 tb805 rfl rfl rfl rfl rfl rfl rfl dX7_text_110 (fun H locs X => ?_)
                  have X : Hx D zA zs H locs (mW tk h (u2 (u2 (u3 (u3 Mt 20 qe) 1 ((mIt (Mt 2) n (mQb (Mt 20)) (zrow (Mt 1) 63) (-1) u).2.1)) 20 3 0) 20 4 (qe 5)) ((mIt (Mt 2) n (mQb (Mt 20)) (zrow (Mt 1) 63) (-1) u).2.2) la ce) := X
                  refine lv_aload_n hx hb dX7_text_113 rfl (lv_at hl 1 rfl) ?_
                  refine g_get (v := .int (nI (qe 5))) C0 X kX7 0 9 tb806 rfl rfl rfl dX7_text_114 ?_
                  refine g_ifle (x := qe 5) (tgt := 128) C0 (by omega) dX7_text_117 rfl (fun c15 => ?_) (fun c16 => ?_)
                  · refine g_iconst (n := 0) C0 rfl dX7_text_128 ?_
                    refine lv_istore_n (lv' := [(2, .int (nI 0)), (1, .int (nI u)), (0, .ref (h 0))]) hx hb dX7_text_129 rfl hl (by decide) rfl (fun ls hl => ?_)
                    have J130 : ∀ (fz : Nat) (i : Nat), 63 - i < fz → ∀ (hi9 : i ≤ 63) (H : Heap) (locs : List Loc) (ls : Array Slot), Hx D zA zs H locs (mW tk h (u3 (u3 (u3 Mt 20 (u1 (u1 qe 3 0) 4 (qe 5))) 1 ((mIt (Mt 2) n (mQb (Mt 20)) (zrow (Mt 1) 63) (-1) u).2.1)) 0 (crow ((mIt (Mt 2) n (mQb (Mt 20)) (zrow (Mt 1) 63) (-1) u).2.1) (Mt 0) i)) ((mIt (Mt 2) n (mQb (Mt 20)) (zrow (Mt 1) 63) (-1) u).2.2) la ce) → lv_has ls 3 [(2, .int (nI i)), (1, .int (nI u)), (0, .ref (h 0))] → W zp l ze ⟨7, 0, 0, 155⟩ zs zm za zb zt zc H locs 0 0 zQ (F0 zm 130 ls []) := by
                      intro fz
                      induction fz with
                      | zero => intro i hz; exact absurd hz (Nat.not_lt_zero _)
                      | succ fz ih130 =>
                        intro i hz130 hi9 H locs ls X hl
                        refine lv_iload_n hx hb dX7_text_130 rfl (lv_at hl 0 rfl) ?_
                        refine g_bipush (n := 63) C0 (by decide) dX7_text_131 ?_
                        refine g_icmp_ge (x := i) (y := 63) (tgt := 154) C0 (by omega) (by omega) dX7_text_133 rfl (fun c17 => ?_) (fun c18 => ?_)
                        · have X : Hx D zA zs H locs (mW tk h (u3 (u3 (u3 Mt 20 (u1 (u1 qe 3 0) 4 (qe 5))) 1 ((mIt (Mt 2) n (mQb (Mt 20)) (zrow (Mt 1) 63) (-1) u).2.1)) 0 (crow ((mIt (Mt 2) n (mQb (Mt 20)) (zrow (Mt 1) 63) (-1) u).2.1) (Mt 0) 63)) ((mIt (Mt 2) n (mQb (Mt 20)) (zrow (Mt 1) 63) (-1) u).2.2) la ce) := X.to (by rw [show crow ((mIt (Mt 2) n (mQb (Mt 20)) (zrow (Mt 1) 63) (-1) u).2.1) (Mt 0) 63 = crow ((mIt (Mt 2) n (mQb (Mt 20)) (zrow (Mt 1) 63) (-1) u).2.1) (Mt 0) i from congrArg (crow ((mIt (Mt 2) n (mQb (Mt 20)) (zrow (Mt 1) 63) (-1) u).2.1) (Mt 0)) (show 63 = i by omega)] <;> rfl)
                          refine lv_aload_n hx hb dX7_text_154 rfl (lv_at hl 2 rfl) ?_
                          refine lv_aload_n hx hb dX7_text_155 rfl (lv_at hl 2 rfl) ?_
                          refine g_get (v := .int (nI ((u1 (u1 qe 3 0) 4 (qe 5)) 1))) C0 X kX7 0 3 tb800 rfl rfl rfl dX7_text_156 ?_
                          refine g_put (v := .int (nI ((u1 (u1 qe 3 0) 4 (qe 5)) 1))) (ft := .int) C0 X kX7 0 1 tb798 rfl rfl rfl rfl rfl rfl rfl dX7_text_159 (fun H locs X => ?_)
                          have X : Hx D zA zs H locs (mW tk h (u2 (u3 (u3 (u3 Mt 20 (u1 (u1 qe 3 0) 4 (qe 5))) 1 ((mIt (Mt 2) n (mQb (Mt 20)) (zrow (Mt 1) 63) (-1) u).2.1)) 0 (crow ((mIt (Mt 2) n (mQb (Mt 20)) (zrow (Mt 1) 63) (-1) u).2.1) (Mt 0) 63)) 20 0 ((u1 (u1 qe 3 0) 4 (qe 5)) 1)) ((mIt (Mt 2) n (mQb (Mt 20)) (zrow (Mt 1) 63) (-1) u).2.2) la ce) := X
                          refine lv_aload_n hx hb dX7_text_162 rfl (lv_at hl 2 rfl) ?_
                          refine g_iconst (n := 0) C0 rfl dX7_text_163 ?_
                          refine g_put (v := .int (nI 0)) (ft := .int) C0 X kX7 0 20 tb817 rfl rfl rfl rfl rfl rfl rfl dX7_text_164 (fun H locs X => ?_)
                          have X : Hx D zA zs H locs (mW tk h (u2 (u2 (u3 (u3 (u3 Mt 20 (u1 (u1 qe 3 0) 4 (qe 5))) 1 ((mIt (Mt 2) n (mQb (Mt 20)) (zrow (Mt 1) 63) (-1) u).2.1)) 0 (crow ((mIt (Mt 2) n (mQb (Mt 20)) (zrow (Mt 1) 63) (-1) u).2.1) (Mt 0) 63)) 20 0 ((u1 (u1 qe 3 0) 4 (qe 5)) 1)) 20 11 0) ((mIt (Mt 2) n (mQb (Mt 20)) (zrow (Mt 1) 63) (-1) u).2.2) la ce) := X
                          refine lv_aload_n hx hb dX7_text_167 rfl (lv_at hl 2 rfl) ?_
                          refine g_get (v := .ref (h 10)) C0 X kX7 0 22 tb819 rfl rfl rfl dX7_text_168 ?_
                          refine g_iconst (n := 0) C0 rfl dX7_text_171 ?_
                          refine g_iconst (n := 0) C0 rfl dX7_text_172 ?_
                          refine g_zast (g := nf (u1 (Mt 10) 0 0)) (i := 0) C0 X 10 2 rfl rfl (by omega) rfl (by omega) (nf_u1 _ _ _) dX7_text_173 (fun H locs X => ?_)
                          have X : Hx D zA zs H locs (mW tk h (u2 (u2 (u2 (u3 (u3 (u3 Mt 20 (u1 (u1 qe 3 0) 4 (qe 5))) 1 ((mIt (Mt 2) n (mQb (Mt 20)) (zrow (Mt 1) 63) (-1) u).2.1)) 0 (crow ((mIt (Mt 2) n (mQb (Mt 20)) (zrow (Mt 1) 63) (-1) u).2.1) (Mt 0) 63)) 20 0 ((u1 (u1 qe 3 0) 4 (qe 5)) 1)) 20 11 0) 10 0 0) ((mIt (Mt 2) n (mQb (Mt 20)) (zrow (Mt 1) 63) (-1) u).2.2) la ce) := X
                          refine lv_aload_n hx hb dX7_text_174 rfl (lv_at hl 2 rfl) ?_
                          refine g_get (v := .ref (h 10)) C0 X kX7 0 22 tb819 rfl rfl rfl dX7_text_175 ?_
                          refine g_iconst (n := 1) C0 rfl dX7_text_178 ?_
                          refine g_iconst (n := 0) C0 rfl dX7_text_179 ?_
                          refine g_zast (g := nf (u1 (u1 (Mt 10) 0 0) 1 0)) (i := 1) C0 X 10 2 rfl rfl (by omega) rfl (by omega) (nf_u1 _ _ _) dX7_text_180 (fun H locs X => ?_)
                          have X : Hx D zA zs H locs (mW tk h (u2 (u2 (u2 (u2 (u3 (u3 (u3 Mt 20 (u1 (u1 qe 3 0) 4 (qe 5))) 1 ((mIt (Mt 2) n (mQb (Mt 20)) (zrow (Mt 1) 63) (-1) u).2.1)) 0 (crow ((mIt (Mt 2) n (mQb (Mt 20)) (zrow (Mt 1) 63) (-1) u).2.1) (Mt 0) 63)) 20 0 ((u1 (u1 qe 3 0) 4 (qe 5)) 1)) 20 11 0) 10 0 0) 10 1 0) ((mIt (Mt 2) n (mQb (Mt 20)) (zrow (Mt 1) 63) (-1) u).2.2) la ce) := X
                          refine lv_iload_n hx hb dX7_text_181 rfl (lv_at hl 1 rfl) ?_
                          exact hE (v := nI u) u (by rw [hqe, if_pos (show qe 5 = 0 by omega)]) (by exact ⟨hu, hstop, hpre⟩) (X.to (by rw [mTQ, hqe, if_pos (show qe 5 = 0 by omega), if_pos (show qe 5 = 0 by omega), if_pos (show qe 5 = 0 by omega)] <;> rfl)) dX7_text_182
                        · refine lv_aload_n hx hb dX7_text_136 rfl (lv_at hl 2 rfl) ?_
                          refine g_get (v := .ref (h 1)) C0 X kX7 0 0 tb797 rfl rfl rfl dX7_text_137 ?_
                          refine lv_iload_n hx hb dX7_text_140 rfl (lv_at hl 0 rfl) ?_
                          refine lv_aload_n hx hb dX7_text_141 rfl (lv_at hl 2 rfl) ?_
                          refine g_get (v := .ref (h 2)) C0 X kX7 0 2 tb799 rfl rfl rfl dX7_text_142 ?_
                          refine lv_iload_n hx hb dX7_text_145 rfl (lv_at hl 0 rfl) ?_
                          refine g_iald (v := nI (((mIt (Mt 2) n (mQb (Mt 20)) (zrow (Mt 1) 63) (-1) u).2.1) i)) (i := i) C0 X 2 0 rfl rfl (by omega) rfl (by first | rfl | exact congrArg nI (u1_s _ _ _)) dX7_text_146 ?_
                          refine g_iast (g := nf (u1 (crow ((mIt (Mt 2) n (mQb (Mt 20)) (zrow (Mt 1) 63) (-1) u).2.1) (Mt 0) i) i (((mIt (Mt 2) n (mQb (Mt 20)) (zrow (Mt 1) 63) (-1) u).2.1) i))) (i := i) C0 X 1 0 rfl rfl (by omega) rfl (nf_u1 _ _ _) dX7_text_147 (fun H locs X => ?_)
                          have X : Hx D zA zs H locs (mW tk h (u2 (u3 (u3 (u3 Mt 20 (u1 (u1 qe 3 0) 4 (qe 5))) 1 ((mIt (Mt 2) n (mQb (Mt 20)) (zrow (Mt 1) 63) (-1) u).2.1)) 0 (crow ((mIt (Mt 2) n (mQb (Mt 20)) (zrow (Mt 1) 63) (-1) u).2.1) (Mt 0) i)) 0 i (((mIt (Mt 2) n (mQb (Mt 20)) (zrow (Mt 1) 63) (-1) u).2.1) i)) ((mIt (Mt 2) n (mQb (Mt 20)) (zrow (Mt 1) 63) (-1) u).2.2) la ce) := X
                          refine g_iinc (j := 1) (z := i + 1) (lv' := [(2, .int (nI (i + 1))), (1, .int (nI u)), (0, .ref (h 0))]) C0 rfl (by first | rfl | omega) dX7_text_148 hl (k := 0) rfl (by decide) rfl (fun ls hl => ?_)
                          refine lv_goto (tgt := 130) hx hb dX7_text_151 (by decide) ?_
                          exact ih130 (i + 1) (by omega) (by omega) H locs ls X (lv_sub hl [0, 1, 2] rfl)
                    exact J130 ((63 - 0) + 1) 0 (Nat.lt_succ_self _) (by omega) H locs ls X (lv_sub hl [0, 1, 2] rfl)
                  · refine lv_bipush (v := (-10)) hx hb dX7_text_120 (by decide) ?_
                    refine lv_aload_n hx hb dX7_text_122 rfl (lv_at hl 1 rfl) ?_
                    refine g_get (v := .int (nI (qe 6))) C0 X kX7 0 10 tb807 rfl rfl rfl dX7_text_123 ?_
                    refine lv_isub hx hb dX7_text_126 ?_
                    exact hE (v := (-10) - (nI (qe 6))) u (by rw [hqe, if_neg (show ¬ qe 5 = 0 by omega)]) (by exact ⟨hu, hstop, hpre⟩) (X.to (by rw [mTQ, hqe, if_neg (show ¬ qe 5 = 0 by omega), if_neg (show ¬ qe 5 = 0 by omega), if_neg (show ¬ qe 5 = 0 by omega)] <;> rfl)) dX7_text_127
                refine g_get (v := .int (nI (((mIt (Mt 2) n (mQb (Mt 20)) (zrow (Mt 1) 63) (-1) u).1) 5))) C0 X kX7 0 9 tb806 rfl rfl rfl dX7_text_77 ?_
                refine g_ifne (x := ((mIt (Mt 2) n (mQb (Mt 20)) (zrow (Mt 1) 63) (-1) u).1) 5) (tgt := 100) C0 (by omega) dX7_text_80 rfl (fun c19 => ?_) (fun c20 => ?_)
                · obtain ⟨qe, hqe⟩ : ∃ z, mEnd ((mIt (Mt 2) n (mQb (Mt 20)) (zrow (Mt 1) 63) (-1) u).1) ((mIt (Mt 2) n (mQb (Mt 20)) (zrow (Mt 1) 63) (-1) u).2.2) = z := ⟨_, rfl⟩
                  have X : Hx D zA zs H locs (mW tk h (u3 (u3 Mt 1 ((mIt (Mt 2) n (mQb (Mt 20)) (zrow (Mt 1) 63) (-1) u).2.1)) 20 qe) ((mIt (Mt 2) n (mQb (Mt 20)) (zrow (Mt 1) 63) (-1) u).2.2) la ce) := X.to (by rw [show qe = (mIt (Mt 2) n (mQb (Mt 20)) (zrow (Mt 1) 63) (-1) u).1 from by rw [← hqe]; exact if_neg (fun z => by first | omega | exact z.2 c19)] <;> rfl)
                  have hIe : MI n qe := by rw [← hqe]; exact mEnd_6 hwI
                  obtain ⟨hf1, hf2, hf3, hf4, hf5⟩ := id hIe
                  exact J100 qe (by exact hqe) (by exact hIe) H locs ls X (lv_sub hl [0, 1] rfl)
                · refine lv_aload_n hx hb dX7_text_83 rfl (lv_at hl 1 rfl) ?_
                  refine g_get (v := .int ((mIt (Mt 2) n (mQb (Mt 20)) (zrow (Mt 1) 63) (-1) u).2.2)) C0 X kX7 0 5 tb802 rfl rfl rfl dX7_text_84 ?_
                  refine lv_aload_n hx hb dX7_text_87 rfl (lv_at hl 1 rfl) ?_
                  refine g_get (v := .int (nI (((mIt (Mt 2) n (mQb (Mt 20)) (zrow (Mt 1) 63) (-1) u).1) 1))) C0 X kX7 0 3 tb800 rfl rfl rfl dX7_text_88 ?_
                  refine lv_icmp_lt (tgt := 100) hx hb dX7_text_91 rfl (fun c21 => ?_) (fun c22 => ?_)
                  · obtain ⟨qe, hqe⟩ : ∃ z, mEnd ((mIt (Mt 2) n (mQb (Mt 20)) (zrow (Mt 1) 63) (-1) u).1) ((mIt (Mt 2) n (mQb (Mt 20)) (zrow (Mt 1) 63) (-1) u).2.2) = z := ⟨_, rfl⟩
                    have X : Hx D zA zs H locs (mW tk h (u3 (u3 Mt 1 ((mIt (Mt 2) n (mQb (Mt 20)) (zrow (Mt 1) 63) (-1) u).2.1)) 20 qe) ((mIt (Mt 2) n (mQb (Mt 20)) (zrow (Mt 1) 63) (-1) u).2.2) la ce) := X.to (by rw [show qe = (mIt (Mt 2) n (mQb (Mt 20)) (zrow (Mt 1) 63) (-1) u).1 from by rw [← hqe]; exact if_neg (fun z => by first | omega | exact z.2 c21)] <;> rfl)
                    have hIe : MI n qe := by rw [← hqe]; exact mEnd_6 hwI
                    obtain ⟨hf1, hf2, hf3, hf4, hf5⟩ := id hIe
                    exact J100 qe (by exact hqe) (by exact hIe) H locs ls X (lv_sub hl [0, 1] rfl)
                  · refine lv_aload_n hx hb dX7_text_94 rfl (lv_at hl 1 rfl) ?_
                    refine g_bipush (n := 6) C0 (by decide) dX7_text_95 ?_
                    refine g_callV (As := [.int (nI 6)]) (rest := []) (wr := []) (C0.sz hl) X (c_X7_fails l D tk h (u3 (u3 Mt 20 ((mIt (Mt 2) n (mQb (Mt 20)) (zrow (Mt 1) 63) (-1) u).1)) 1 ((mIt (Mt 2) n (mQb (Mt 20)) (zrow (Mt 1) 63) (-1) u).2.1)) ((mIt (Mt 2) n (mQb (Mt 20)) (zrow (Mt 1) 63) (-1) u).2.2) la ce 6 (by exact hb3)) ⟨tb908, tb911, tb8, ⟨by decide, by decide, rfl⟩, rfl, rfl, Nat.le_of_ble_eq_true rfl, Nat.le_of_ble_eq_true rfl⟩ tb910 tbs23 0 7 rfl rfl rfl rfl [0, 1, 2, 3, 4, 5, 6, 7, 8, 9, 10, 11, 12, 13] [] rfl rfl rfl rfl rfl (Nat.le_of_ble_eq_true rfl) ⟨Nat.le_of_ble_eq_true rfl, Nat.le_of_ble_eq_true rfl⟩ dX7_text_97 (fun _ H locs _ X => ?_)
                    have X : Hx D zA zs H locs (mW tk h (u3 (u3 Mt 1 ((mIt (Mt 2) n (mQb (Mt 20)) (zrow (Mt 1) 63) (-1) u).2.1)) 20 (mFail ((u3 Mt 20 ((mIt (Mt 2) n (mQb (Mt 20)) (zrow (Mt 1) 63) (-1) u).1)) 20) 6)) ((mIt (Mt 2) n (mQb (Mt 20)) (zrow (Mt 1) 63) (-1) u).2.2) la ce) := X
                    obtain ⟨qe, hqe⟩ : ∃ z, mEnd ((mIt (Mt 2) n (mQb (Mt 20)) (zrow (Mt 1) 63) (-1) u).1) ((mIt (Mt 2) n (mQb (Mt 20)) (zrow (Mt 1) 63) (-1) u).2.2) = z := ⟨_, rfl⟩
                    have X : Hx D zA zs H locs (mW tk h (u3 (u3 Mt 1 ((mIt (Mt 2) n (mQb (Mt 20)) (zrow (Mt 1) 63) (-1) u).2.1)) 20 qe) ((mIt (Mt 2) n (mQb (Mt 20)) (zrow (Mt 1) 63) (-1) u).2.2) la ce) := X.to (by rw [show qe = mFail ((u3 Mt 20 ((mIt (Mt 2) n (mQb (Mt 20)) (zrow (Mt 1) 63) (-1) u).1)) 20) 6 from by rw [← hqe]; exact if_pos ⟨by omega, c22⟩] <;> rfl)
                    have hIe : MI n qe := by rw [← hqe]; exact mEnd_6 hwI
                    obtain ⟨hf1, hf2, hf3, hf4, hf5⟩ := id hIe
                    exact J100 qe (by exact hqe) (by exact hIe) H locs ls X (lv_sub hl [0, 1] rfl)
              · have hul := mIt_u (t := Mt 2) (n := n) (q := Mt 20) (p := Mt 1) (h := -1) u hpre (by omega)
                have hj8 := hwJ (by omega) (by omega)
                have hms : mMs n ((mIt (Mt 2) n (mQb (Mt 20)) (zrow (Mt 1) 63) (-1) (u + 1)).1) < mMs n ((mIt (Mt 2) n (mQb (Mt 20)) (zrow (Mt 1) 63) (-1) u).1) := by rw [mIt_1]; exact mMs_lt (t := Mt 2) (pg := (mIt (Mt 2) n (mQb (Mt 20)) (zrow (Mt 1) 63) (-1) u).2.1) hwI hwJ (by omega) (by omega)
                refine lv_aload_n hx hb dX7_text_66 rfl (lv_at hl 1 rfl) ?_
                by_cases c23 : mWh (Mt 2) ((mIt (Mt 2) n (mQb (Mt 20)) (zrow (Mt 1) 63) (-1) u).1) = 7
                · refine g_callV (As := []) (rest := []) (wr := []) (C0.sz hl) X (c_rlF l D tk h (u3 (u3 Mt 20 ((mIt (Mt 2) n (mQb (Mt 20)) (zrow (Mt 1) 63) (-1) u).1)) 1 ((mIt (Mt 2) n (mQb (Mt 20)) (zrow (Mt 1) 63) (-1) u).2.1)) ((mIt (Mt 2) n (mQb (Mt 20)) (zrow (Mt 1) 63) (-1) u).2.2) la ce n (by show (mIt (Mt 2) n (mQb (Mt 20)) (zrow (Mt 1) 63) (-1) u).1 3 = n; rw [hw3]; exact hq3) (by exact hn) (by exact ht8) (by exact hwI) (by exact hwP) (by exact c23)) ⟨tb912, tb915, tb8, ⟨by decide, by decide, rfl⟩, rfl, rfl, Nat.le_of_ble_eq_true rfl, Nat.le_of_ble_eq_true rfl⟩ tb914 tbs24 0 7 rfl rfl rfl rfl [0, 1, 2, 3, 4, 5, 6, 7, 8, 9, 10, 11, 12, 13] [] rfl rfl rfl rfl rfl (Nat.le_of_ble_eq_true rfl) ⟨Nat.le_of_ble_eq_true rfl, Nat.le_of_ble_eq_true rfl⟩ dX7_text_67 (fun _ H locs _ X => ?_)
                  have X : Hx D zA zs H locs (mW tk h (u3 (u3 Mt 20 (mLineQ (Mt 2) n ((u3 Mt 20 ((mIt (Mt 2) n (mQb (Mt 20)) (zrow (Mt 1) 63) (-1) u).1)) 20) ((u3 (u3 Mt 20 ((mIt (Mt 2) n (mQb (Mt 20)) (zrow (Mt 1) 63) (-1) u).1)) 1 ((mIt (Mt 2) n (mQb (Mt 20)) (zrow (Mt 1) 63) (-1) u).2.1)) 1))) 1 (mLineP (Mt 2) n ((u3 Mt 20 ((mIt (Mt 2) n (mQb (Mt 20)) (zrow (Mt 1) 63) (-1) u).1)) 20) ((u3 (u3 Mt 20 ((mIt (Mt 2) n (mQb (Mt 20)) (zrow (Mt 1) 63) (-1) u).1)) 1 ((mIt (Mt 2) n (mQb (Mt 20)) (zrow (Mt 1) 63) (-1) u).2.1)) 1))) (mLineH (Mt 2) n ((u3 Mt 20 ((mIt (Mt 2) n (mQb (Mt 20)) (zrow (Mt 1) 63) (-1) u).1)) 20) ((u3 (u3 Mt 20 ((mIt (Mt 2) n (mQb (Mt 20)) (zrow (Mt 1) 63) (-1) u).1)) 1 ((mIt (Mt 2) n (mQb (Mt 20)) (zrow (Mt 1) 63) (-1) u).2.1)) 1) ((mIt (Mt 2) n (mQb (Mt 20)) (zrow (Mt 1) 63) (-1) u).2.2)) la ce) := X
                  have X : Hx D zA zs H locs (mW tk h (u3 (u3 Mt 20 ((mIt (Mt 2) n (mQb (Mt 20)) (zrow (Mt 1) 63) (-1) (u + 1)).1)) 1 ((mIt (Mt 2) n (mQb (Mt 20)) (zrow (Mt 1) 63) (-1) (u + 1)).2.1)) ((mIt (Mt 2) n (mQb (Mt 20)) (zrow (Mt 1) 63) (-1) (u + 1)).2.2) la ce) := X.to (by rw [mIt_1, mIt_2, mIt_3] <;> rfl)
                  refine g_iinc (j := 1) (z := u + 1) (lv' := [(1, .int (nI (u + 1))), (0, .ref (h 0))]) C0 rfl (by first | rfl | omega) dX7_text_70 hl (k := 0) rfl (by decide) rfl (fun ls hl => ?_)
                  refine lv_goto (tgt := 52) hx hb dX7_text_73 (by decide) ?_
                  exact ih52 (u + 1) (by omega) (by omega) (by intro j hj; exact (Decidable.em (j = u)).elim (fun e => by rw [e]; exact ⟨by omega, by omega⟩) (fun e => hpre j (by omega))) H locs ls X (lv_sub hl [0, 1] rfl)
                · refine g_callV (As := []) (rest := []) (wr := []) (C0.sz hl) X (c_rlT l D tk h (u3 (u3 Mt 20 ((mIt (Mt 2) n (mQb (Mt 20)) (zrow (Mt 1) 63) (-1) u).1)) 1 ((mIt (Mt 2) n (mQb (Mt 20)) (zrow (Mt 1) 63) (-1) u).2.1)) ((mIt (Mt 2) n (mQb (Mt 20)) (zrow (Mt 1) 63) (-1) u).2.2) la ce n (mWh (Mt 2) ((mIt (Mt 2) n (mQb (Mt 20)) (zrow (Mt 1) 63) (-1) u).1)) (by show (mIt (Mt 2) n (mQb (Mt 20)) (zrow (Mt 1) 63) (-1) u).1 3 = n; rw [hw3]; exact hq3) (by exact hn) (by exact ht8) (by exact hwI) (by exact hwP) (by exact rfl) (by have := mWh_le (Mt 2) ((mIt (Mt 2) n (mQb (Mt 20)) (zrow (Mt 1) 63) (-1) u).1); omega)) ⟨tb912, tb915, tb8, ⟨by decide, by decide, rfl⟩, rfl, rfl, Nat.le_of_ble_eq_true rfl, Nat.le_of_ble_eq_true rfl⟩ tb914 tbs24 0 7 rfl rfl rfl rfl [0, 1, 2, 3, 4, 5, 6, 7, 8, 9, 10, 11, 12, 13] [] rfl rfl rfl rfl rfl (Nat.le_of_ble_eq_true rfl) ⟨Nat.le_of_ble_eq_true rfl, Nat.le_of_ble_eq_true rfl⟩ dX7_text_67 (fun _ H locs _ X => ?_)
                  have X : Hx D zA zs H locs (mW tk h (u3 (u3 Mt 20 (mLineQ (Mt 2) n ((u3 Mt 20 ((mIt (Mt 2) n (mQb (Mt 20)) (zrow (Mt 1) 63) (-1) u).1)) 20) ((u3 (u3 Mt 20 ((mIt (Mt 2) n (mQb (Mt 20)) (zrow (Mt 1) 63) (-1) u).1)) 1 ((mIt (Mt 2) n (mQb (Mt 20)) (zrow (Mt 1) 63) (-1) u).2.1)) 1))) 1 (mLineP (Mt 2) n ((u3 Mt 20 ((mIt (Mt 2) n (mQb (Mt 20)) (zrow (Mt 1) 63) (-1) u).1)) 20) ((u3 (u3 Mt 20 ((mIt (Mt 2) n (mQb (Mt 20)) (zrow (Mt 1) 63) (-1) u).1)) 1 ((mIt (Mt 2) n (mQb (Mt 20)) (zrow (Mt 1) 63) (-1) u).2.1)) 1))) (mLineH (Mt 2) n ((u3 Mt 20 ((mIt (Mt 2) n (mQb (Mt 20)) (zrow (Mt 1) 63) (-1) u).1)) 20) ((u3 (u3 Mt 20 ((mIt (Mt 2) n (mQb (Mt 20)) (zrow (Mt 1) 63) (-1) u).1)) 1 ((mIt (Mt 2) n (mQb (Mt 20)) (zrow (Mt 1) 63) (-1) u).2.1)) 1) ((mIt (Mt 2) n (mQb (Mt 20)) (zrow (Mt 1) 63) (-1) u).2.2)) la ce) := X
                  have X : Hx D zA zs H locs (mW tk h (u3 (u3 Mt 20 ((mIt (Mt 2) n (mQb (Mt 20)) (zrow (Mt 1) 63) (-1) (u + 1)).1)) 1 ((mIt (Mt 2) n (mQb (Mt 20)) (zrow (Mt 1) 63) (-1) (u + 1)).2.1)) ((mIt (Mt 2) n (mQb (Mt 20)) (zrow (Mt 1) 63) (-1) (u + 1)).2.2) la ce) := X.to (by rw [mIt_1, mIt_2, mIt_3] <;> rfl)
                  refine g_iinc (j := 1) (z := u + 1) (lv' := [(1, .int (nI (u + 1))), (0, .ref (h 0))]) C0 rfl (by first | rfl | omega) dX7_text_70 hl (k := 0) rfl (by decide) rfl (fun ls hl => ?_)
                  refine lv_goto (tgt := 52) hx hb dX7_text_73 (by decide) ?_
                  exact ih52 (u + 1) (by omega) (by omega) (by intro j hj; exact (Decidable.em (j = u)).elim (fun e => by rw [e]; exact ⟨by omega, by omega⟩) (fun e => hpre j (by omega))) H locs ls X (lv_sub hl [0, 1] rfl)
        exact J52 ((mMs n ((mIt (Mt 2) n (mQb (Mt 20)) (zrow (Mt 1) 63) (-1) 0).1)) + 1) 0 (Nat.lt_succ_self _) (by omega) (by intro j hj; exact absurd hj (Nat.not_lt_zero j)) H locs ls X (lv_sub hl [1, 2] rfl)
      · refine lv_aload_n hx hb dX7_text_35 rfl (lv_at hl 2 rfl) ?_
        refine g_get (v := .ref (h 2)) C0 X kX7 0 2 tb799 rfl rfl rfl dX7_text_36 ?_
        refine lv_iload_n hx hb dX7_text_39 rfl (lv_at hl 0 rfl) ?_
        refine g_iconst (n := 0) C0 rfl dX7_text_40 ?_
        refine g_iast (g := nf (u1 (zrow (Mt 1) k) k 0)) (i := k) C0 X 2 0 rfl rfl (by omega) rfl (nf_u1 _ _ _) dX7_text_41 (fun H locs X => ?_)
        have X : Hx D zA zs H locs (mW tk h (u2 (u3 (u3 Mt 20 (mQb (Mt 20))) 1 (zrow (Mt 1) k)) 1 k 0) (-1) la ce) := X
        refine g_iinc (j := 1) (z := k + 1) (lv' := [(2, .int (nI (k + 1))), (1, .int (nI 0)), (0, .ref (h 0))]) C0 rfl (by first | rfl | omega) dX7_text_42 hl (k := 0) rfl (by decide) rfl (fun ls hl => ?_)
        refine lv_goto (tgt := 29) hx hb dX7_text_45 (by decide) ?_
        exact ih29 (k + 1) (by omega) (by omega) H locs ls X (lv_sub hl [0, 1, 2] rfl)
  exact J29 ((63 - 0) + 1) 0 (Nat.lt_succ_self _) (by omega) H locs ls X (lv_sub hl [0, 1, 2] rfl)
