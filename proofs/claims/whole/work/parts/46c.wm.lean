set_option maxHeartbeats 4000000 in
set_option maxRecDepth 100000 in
theorem c_X7_nameHere (l : Launch) (D : va_G) (tk : Nat → ClassId) (h : Nat → Nat) (Mt : Nat → Nat → Nat) (hi : Int32) (la ce : Nat → Int32) (n : Nat) (hq3 : Mt 20 3 = n) (hn : n ≤ 160) (ht8 : ∀ j, j < n → Mt 2 j < 128) (hI : MI n (Mt 20)) : MX l yX7_nameHere cX7_nameHere 4 (some .int) ⟨1, 0, 0, 21⟩ D (TYS tk) [.ref (h 0)] (mW tk h Mt hi la ce) (fun (_ : Unit) => True) (fun _ => some (.int (orN7 (mWh (Mt 2) (Mt 20))))) (fun _ => mW tk h Mt hi la ce) 0 0 := by
  refine MX.of_i (by decide) rfl ?_
  intro zp ze zs zm za zb zt zc zA zQ ls C0 hnm X hl hE
  have hx := C0.1
  have hb := C0.2.1
  have ht := C0.2.2.2.2.1
  have X : Hx D zA zs zs.heap [] (mW tk h Mt hi la ce) := X
  have hl : lv_has ls 4 [(0, .ref (h 0))] := hl
  obtain ⟨hm1, hm2, hm3, hm4, hm5⟩ := id hI
  obtain ⟨H, hH⟩ : ∃ H, H = zs.heap := ⟨_, rfl⟩
  rw [← hH] at X ⊢
  obtain ⟨locs, hlo⟩ : ∃ L : List Loc, L = [] := ⟨_, rfl⟩
  rw [← hlo] at X ⊢
  refine g_iconst (n := 0) C0 rfl dX7_nameHere_0 ?_
  refine lv_istore_n (lv' := [(1, .int (nI 0)), (0, .ref (h 0))]) hx hb dX7_nameHere_1 rfl hl (by decide) rfl (fun ls hl => ?_)
  have J2 : ∀ (fz : Nat) (nn : Nat), 7 - nn < fz → ∀ (hn7 : nn ≤ 7) (hno : ∀ j, j < nn → isN (Mt 2) (Mt 20 8) (Mt 20 7) (strM.getD j []) = false) (H : Heap) (locs : List Loc) (ls : Array Slot), Hx D zA zs H locs (mW tk h Mt hi la ce) → lv_has ls 4 [(1, .int (nI nn)), (0, .ref (h 0))] → W zp l ze ⟨1, 0, 0, 21⟩ zs zm za zb zt zc H locs 0 0 zQ (F0 zm 2 ls []) := by
    intro fz
    induction fz with
    | zero => intro nn hz; exact absurd hz (Nat.not_lt_zero _)
    | succ fz ih2 =>
      intro nn hz2 hn7 hno H locs ls X hl
      refine lv_iload_n hx hb dX7_nameHere_2 rfl (lv_at hl 0 rfl) ?_
      refine g_bipush (n := 7) C0 (by decide) dX7_nameHere_3 ?_
      refine g_icmp_ge (x := nn) (y := 7) (tgt := 118) C0 (by omega) (by omega) dX7_nameHere_5 rfl (fun c1 => ?_) (fun c2 => ?_)
      · refine lv_bipush (v := (-4)) hx hb dX7_nameHere_118 (by decide) ?_
        exact hE (v := (-4)) () (by rw [nmh_7 (t := Mt 2) (q := Mt 20) (Or.inr (by rw [show nn = 7 by omega] at hno; exact hno))]; rfl) trivial X dX7_nameHere_120
      · refine lv_aload_n hx hb dX7_nameHere_8 rfl (lv_at hl 1 rfl) ?_
        refine g_get (v := .int (nI (Mt 20 9))) C0 X kX7 0 13 tb810 rfl rfl rfl dX7_nameHere_9 ?_
        refine g_iconst (n := 1) C0 rfl dX7_nameHere_12 ?_
        refine g_icmp_ne (x := Mt 20 9) (y := 1) (tgt := 118) C0 (by omega) (by omega) dX7_nameHere_13 rfl (fun c3 => ?_) (fun c4 => ?_)
        · refine lv_bipush (v := (-4)) hx hb dX7_nameHere_118 (by decide) ?_
          exact hE (v := (-4)) () (by rw [nmh_7 (t := Mt 2) (q := Mt 20) (Or.inl (by omega))]; rfl) trivial X dX7_nameHere_120
        · have hk1 : Mt 20 9 = 1 := by omega
          have hE := mE nn (by omega)
          obtain ⟨hE1, hE2, hE3, hE4, hE5⟩ := hE
          refine lv_aload_n hx hb dX7_nameHere_16 rfl (lv_at hl 1 rfl) ?_
          refine g_get (v := .int (nI (Mt 20 7))) C0 X kX7 0 11 tb808 rfl rfl rfl dX7_nameHere_17 ?_
          refine lv_aload_n hx hb dX7_nameHere_20 rfl (lv_at hl 1 rfl) ?_
          refine g_get (v := .int (nI (Mt 20 8))) C0 X kX7 0 12 tb809 rfl rfl rfl dX7_nameHere_21 ?_
          refine g_isub (n := (Mt 20 7) - (Mt 20 8)) C0 (by omega) rfl dX7_nameHere_24 ?_
          refine lv_aload_n hx hb dX7_nameHere_25 rfl (lv_at hl 1 rfl) ?_
          refine g_get (v := .ref (h 4)) C0 X kX7 0 15 tb812 rfl rfl rfl dX7_nameHere_26 ?_
          refine lv_iload_n hx hb dX7_nameHere_29 rfl (lv_at hl 0 rfl) ?_
          refine g_iconst (n := 1) C0 rfl dX7_nameHere_30 ?_
          refine g_iadd (n := nn + 1) C0 (by first | rfl | omega) dX7_nameHere_31 ?_
          refine g_iald (v := nI (mEnds (nn + 1))) (i := nn + 1) C0 X 4 0 rfl rfl (by omega) rfl rfl dX7_nameHere_32 ?_
          refine lv_aload_n hx hb dX7_nameHere_33 rfl (lv_at hl 1 rfl) ?_
          refine g_get (v := .ref (h 4)) C0 X kX7 0 15 tb812 rfl rfl rfl dX7_nameHere_34 ?_
          refine lv_iload_n hx hb dX7_nameHere_37 rfl (lv_at hl 0 rfl) ?_
          refine g_iald (v := nI (mEnds nn)) (i := nn) C0 X 4 0 rfl rfl (by omega) rfl rfl dX7_nameHere_38 ?_
          refine g_isub (n := (mEnds (nn + 1)) - (mEnds nn)) C0 (by omega) rfl dX7_nameHere_39 ?_
          refine g_icmp_ne (x := (Mt 20 7) - (Mt 20 8)) (y := (mEnds (nn + 1)) - (mEnds nn)) (tgt := 47) C0 (by omega) (by omega) dX7_nameHere_40 rfl (fun c5 => ?_) (fun c6 => ?_)
          · refine g_iconst (n := 0) C0 rfl dX7_nameHere_47 ?_
            refine lv_istore_n (lv' := [(2, .int (nI 0)), (1, .int (nI nn)), (0, .ref (h 0))]) hx hb dX7_nameHere_48 rfl hl (by decide) rfl (fun ls hl => ?_)
            refine g_iconst (n := 0) C0 rfl dX7_nameHere_49 ?_
            refine lv_istore_n (lv' := [(3, .int (nI 0)), (2, .int (nI 0)), (1, .int (nI nn)), (0, .ref (h 0))]) hx hb dX7_nameHere_50 rfl hl (by decide) rfl (fun ls hl => ?_)
            have J51 : ∀ (fz : Nat) (al k : Nat), mEnds (nn + 1) - mEnds nn - k < fz → ∀ (hk9 : k ≤ mEnds (nn + 1) - mEnds nn) (ha1 : al = 0 ∨ (al = 1 ∧ Mt 20 7 - Mt 20 8 = mEnds (nn + 1) - mEnds nn ∧ ball (fun j => decide (Mt 2 (Mt 20 8 + j) = (strM.getD nn []).getD j 0)) k = true)) (ha0 : al = 0 → isN (Mt 2) (Mt 20 8) (Mt 20 7) (strM.getD nn []) = false) (H : Heap) (locs : List Loc) (ls : Array Slot), Hx D zA zs H locs (mW tk h Mt hi la ce) → lv_has ls 4 [(3, .int (nI k)), (2, .int (nI al)), (1, .int (nI nn)), (0, .ref (h 0))] → W zp l ze ⟨1, 0, 0, 21⟩ zs zm za zb zt zc H locs 0 0 zQ (F0 zm 51 ls []) := by
              intro fz
              induction fz with
              | zero => intro al k hz; exact absurd hz (Nat.not_lt_zero _)
              | succ fz ih51 =>
                intro al k hz51 hk9 ha1 ha0 H locs ls X hl
                refine lv_iload_n hx hb dX7_nameHere_51 rfl (lv_at hl 1 rfl) ?_
                refine g_ifeq (x := al) (tgt := 106) C0 (by omega) dX7_nameHere_52 rfl (fun c7 => ?_) (fun c8 => ?_)
                · refine lv_iload_n hx hb dX7_nameHere_106 rfl (lv_at hl 1 rfl) ?_
                  refine g_ifeq (x := al) (tgt := 112) C0 (by omega) dX7_nameHere_107 rfl (fun c9 => ?_) (fun c10 => ?_)
                  · refine g_iinc (j := 1) (z := nn + 1) (lv' := [(1, .int (nI (nn + 1))), (3, .int (nI k)), (2, .int (nI al)), (0, .ref (h 0))]) C0 rfl (by first | rfl | omega) dX7_nameHere_112 hl (k := 2) rfl (by decide) rfl (fun ls hl => ?_)
                    refine lv_goto (tgt := 2) hx hb dX7_nameHere_115 (by decide) ?_
                    exact ih2 (nn + 1) (by omega) (by omega) (by intro j hj; exact (Decidable.em (j = nn)).elim (fun e => by rw [e]; exact ha0 c9) (fun e => hno j (by omega))) H locs ls X (lv_sub hl [0, 3] rfl)
                  · have hal := ha1.resolve_left (by omega)
                    refine lv_iload_n hx hb dX7_nameHere_110 rfl (lv_at hl 2 rfl) ?_
                    exact hE (v := nI nn) () (by rw [mWh, if_pos hk1, nameN_at (k := nn) (by omega) hno (isN_t (w := (strM.getD nn [])) (by omega) (by rw [← hE3, show mEnds (nn + 1) - mEnds nn = k by omega]; exact hal.2.2)), orN7, if_neg (by omega)]) trivial X dX7_nameHere_111
                · have hal := ha1.resolve_left (by omega)
                  refine lv_iload_n hx hb dX7_nameHere_55 rfl (lv_at hl 0 rfl) ?_
                  refine lv_aload_n hx hb dX7_nameHere_56 rfl (lv_at hl 3 rfl) ?_
                  refine g_get (v := .int (nI (Mt 20 7))) C0 X kX7 0 11 tb808 rfl rfl rfl dX7_nameHere_57 ?_
                  refine lv_aload_n hx hb dX7_nameHere_60 rfl (lv_at hl 3 rfl) ?_
                  refine g_get (v := .int (nI (Mt 20 8))) C0 X kX7 0 12 tb809 rfl rfl rfl dX7_nameHere_61 ?_
                  refine g_isub (n := (Mt 20 7) - (Mt 20 8)) C0 (by omega) rfl dX7_nameHere_64 ?_
                  refine g_icmp_ge (x := k) (y := (Mt 20 7) - (Mt 20 8)) (tgt := 106) C0 (by omega) (by omega) dX7_nameHere_65 rfl (fun c11 => ?_) (fun c12 => ?_)
                  · refine lv_iload_n hx hb dX7_nameHere_106 rfl (lv_at hl 1 rfl) ?_
                    refine g_ifeq (x := al) (tgt := 112) C0 (by omega) dX7_nameHere_107 rfl (fun c13 => ?_) (fun c14 => ?_)
                    · refine g_iinc (j := 1) (z := nn + 1) (lv' := [(1, .int (nI (nn + 1))), (3, .int (nI k)), (2, .int (nI al)), (0, .ref (h 0))]) C0 rfl (by first | rfl | omega) dX7_nameHere_112 hl (k := 2) rfl (by decide) rfl (fun ls hl => ?_)
                      refine lv_goto (tgt := 2) hx hb dX7_nameHere_115 (by decide) ?_
                      exact ih2 (nn + 1) (by omega) (by omega) (by intro j hj; exact (Decidable.em (j = nn)).elim (fun e => by rw [e]; exact ha0 c13) (fun e => hno j (by omega))) H locs ls X (lv_sub hl [0, 3] rfl)
                    · have hal := ha1.resolve_left (by omega)
                      refine lv_iload_n hx hb dX7_nameHere_110 rfl (lv_at hl 2 rfl) ?_
                      exact hE (v := nI nn) () (by rw [mWh, if_pos hk1, nameN_at (k := nn) (by omega) hno (isN_t (w := (strM.getD nn [])) (by omega) (by rw [← hE3, show mEnds (nn + 1) - mEnds nn = k by omega]; exact hal.2.2)), orN7, if_neg (by omega)]) trivial X dX7_nameHere_111
                  · have hE6 := hE5 k (by omega)
                    have hlt := hE6.1 (by omega)
                    have hB := hE6.2
                    have h8 := ht8 (Mt 20 8 + k) (by omega)
                    refine lv_aload_n hx hb dX7_nameHere_68 rfl (lv_at hl 3 rfl) ?_
                    refine lv_aload_n hx hb dX7_nameHere_69 rfl (lv_at hl 3 rfl) ?_
                    refine g_get (v := .int (nI (Mt 20 8))) C0 X kX7 0 12 tb809 rfl rfl rfl dX7_nameHere_70 ?_
                    refine lv_iload_n hx hb dX7_nameHere_73 rfl (lv_at hl 0 rfl) ?_
                    refine g_iadd (n := Mt 20 8 + k) C0 (by first | rfl | omega) dX7_nameHere_74 ?_
                    refine g_callV (As := [.int (nI (Mt 20 8 + k))]) (rest := []) (wr := []) (C0.sz hl) X (c_byT l D tk h Mt hi la ce (Mt 20 8 + k) (by first | omega | (show Mt 20 8 + k < Mt 20 3; omega) | (show Mt 20 3 ≤ Mt 20 8 + k; omega) | (show Mt 20 3 ≤ 160; omega)) (by first | omega | (show Mt 20 8 + k < Mt 20 3; omega) | (show Mt 20 3 ≤ Mt 20 8 + k; omega) | (show Mt 20 3 ≤ 160; omega))) ⟨tb900, tb903, tb8, ⟨by decide, by decide, rfl⟩, rfl, rfl, Nat.le_of_ble_eq_true rfl, Nat.le_of_ble_eq_true rfl⟩ tb902 tbs22 0 7 rfl rfl rfl rfl [0, 1, 2, 3, 4, 5, 6, 7, 8, 9, 10, 11, 12, 13] [] rfl rfl rfl rfl rfl (Nat.le_of_ble_eq_true rfl) ⟨Nat.le_of_ble_eq_true rfl, Nat.le_of_ble_eq_true rfl⟩ dX7_nameHere_75 (fun _ H locs _ X => ?_)
                    have X : Hx D zA zs H locs (mW tk h Mt hi la ce) := X
                    refine lv_aload_n hx hb dX7_nameHere_78 rfl (lv_at hl 3 rfl) ?_
                    refine g_get (v := .ref (h 5)) C0 X kX7 0 16 tb813 rfl rfl rfl dX7_nameHere_79 ?_
                    refine lv_aload_n hx hb dX7_nameHere_82 rfl (lv_at hl 3 rfl) ?_
                    refine g_get (v := .ref (h 4)) C0 X kX7 0 15 tb812 rfl rfl rfl dX7_nameHere_83 ?_
                    refine lv_iload_n hx hb dX7_nameHere_86 rfl (lv_at hl 2 rfl) ?_
                    refine g_iald (v := nI (mEnds nn)) (i := nn) C0 X 4 0 rfl rfl (by omega) rfl rfl dX7_nameHere_87 ?_
                    refine lv_iload_n hx hb dX7_nameHere_88 rfl (lv_at hl 0 rfl) ?_
                    refine g_iadd (n := mEnds nn + k) C0 (by first | rfl | omega) dX7_nameHere_89 ?_
                    refine g_iald (v := nI (mLetters (mEnds nn + k))) (i := mEnds nn + k) C0 X 5 0 rfl rfl (by omega) rfl rfl dX7_nameHere_90 ?_
                    refine g_icmp_ne (x := Mt 2 (Mt 20 8 + k)) (y := mLetters (mEnds nn + k)) (tgt := 98) C0 (by first | omega | (rw [hlt]; omega)) (by first | omega | (rw [hlt]; omega)) dX7_nameHere_91 rfl (fun c15 => ?_) (fun c16 => ?_)
                    · refine g_iconst (n := 0) C0 rfl dX7_nameHere_98 ?_
                      refine lv_istore_n (lv' := [(2, .int (nI 0)), (3, .int (nI k)), (1, .int (nI nn)), (0, .ref (h 0))]) hx hb dX7_nameHere_99 rfl hl (by decide) rfl (fun ls hl => ?_)
                      refine g_iinc (j := 1) (z := k + 1) (lv' := [(3, .int (nI (k + 1))), (2, .int (nI 0)), (1, .int (nI nn)), (0, .ref (h 0))]) C0 rfl (by first | rfl | omega) dX7_nameHere_100 hl (k := 1) rfl (by decide) rfl (fun ls hl => ?_)
                      refine lv_goto (tgt := 51) hx hb dX7_nameHere_103 (by decide) ?_
                      exact ih51 0 (k + 1) (by omega) (by omega) (by exact Or.inl rfl) (by exact fun _ => isN_f (i := k) (by omega) (by rw [← hlt]; exact c15)) H locs ls X (lv_sub hl [0, 1, 2, 3] rfl)
                    · refine g_iconst (n := 1) C0 rfl dX7_nameHere_94 ?_
                      refine lv_goto (tgt := 99) hx hb dX7_nameHere_95 (by decide) ?_
                      refine lv_istore_n (lv' := [(2, .int (nI 1)), (3, .int (nI k)), (1, .int (nI nn)), (0, .ref (h 0))]) hx hb dX7_nameHere_99 rfl hl (by decide) rfl (fun ls hl => ?_)
                      refine g_iinc (j := 1) (z := k + 1) (lv' := [(3, .int (nI (k + 1))), (2, .int (nI 1)), (1, .int (nI nn)), (0, .ref (h 0))]) C0 rfl (by first | rfl | omega) dX7_nameHere_100 hl (k := 1) rfl (by decide) rfl (fun ls hl => ?_)
                      refine lv_goto (tgt := 51) hx hb dX7_nameHere_103 (by decide) ?_
                      exact ih51 1 (k + 1) (by omega) (by omega) (by exact Or.inr ⟨rfl, hal.2.1, ball_t hal.2.2 (decide_eq_true (by rw [← hlt]; exact c16))⟩) (by exact fun q => absurd q (by decide)) H locs ls X (lv_sub hl [0, 1, 2, 3] rfl)
            exact J51 ((mEnds (nn + 1) - mEnds nn - 0) + 1) 0 0 (Nat.lt_succ_self _) (by omega) (by exact Or.inl rfl) (by exact fun _ => isN_l (by have := c5; omega)) H locs ls X (lv_sub hl [0, 1, 2, 3] rfl)
          · refine g_iconst (n := 1) C0 rfl dX7_nameHere_43 ?_
            refine lv_goto (tgt := 48) hx hb dX7_nameHere_44 (by decide) ?_
            refine lv_istore_n (lv' := [(2, .int (nI 1)), (1, .int (nI nn)), (0, .ref (h 0))]) hx hb dX7_nameHere_48 rfl hl (by decide) rfl (fun ls hl => ?_)
            refine g_iconst (n := 0) C0 rfl dX7_nameHere_49 ?_
            refine lv_istore_n (lv' := [(3, .int (nI 0)), (2, .int (nI 1)), (1, .int (nI nn)), (0, .ref (h 0))]) hx hb dX7_nameHere_50 rfl hl (by decide) rfl (fun ls hl => ?_)
            have J51 : ∀ (fz : Nat) (al k : Nat), mEnds (nn + 1) - mEnds nn - k < fz → ∀ (hk9 : k ≤ mEnds (nn + 1) - mEnds nn) (ha1 : al = 0 ∨ (al = 1 ∧ Mt 20 7 - Mt 20 8 = mEnds (nn + 1) - mEnds nn ∧ ball (fun j => decide (Mt 2 (Mt 20 8 + j) = (strM.getD nn []).getD j 0)) k = true)) (ha0 : al = 0 → isN (Mt 2) (Mt 20 8) (Mt 20 7) (strM.getD nn []) = false) (H : Heap) (locs : List Loc) (ls : Array Slot), Hx D zA zs H locs (mW tk h Mt hi la ce) → lv_has ls 4 [(3, .int (nI k)), (2, .int (nI al)), (1, .int (nI nn)), (0, .ref (h 0))] → W zp l ze ⟨1, 0, 0, 21⟩ zs zm za zb zt zc H locs 0 0 zQ (F0 zm 51 ls []) := by
              intro fz
              induction fz with
              | zero => intro al k hz; exact absurd hz (Nat.not_lt_zero _)
              | succ fz ih51 =>
                intro al k hz51 hk9 ha1 ha0 H locs ls X hl
                refine lv_iload_n hx hb dX7_nameHere_51 rfl (lv_at hl 1 rfl) ?_
                refine g_ifeq (x := al) (tgt := 106) C0 (by omega) dX7_nameHere_52 rfl (fun c17 => ?_) (fun c18 => ?_)
                · refine lv_iload_n hx hb dX7_nameHere_106 rfl (lv_at hl 1 rfl) ?_
                  refine g_ifeq (x := al) (tgt := 112) C0 (by omega) dX7_nameHere_107 rfl (fun c19 => ?_) (fun c20 => ?_)
                  · refine g_iinc (j := 1) (z := nn + 1) (lv' := [(1, .int (nI (nn + 1))), (3, .int (nI k)), (2, .int (nI al)), (0, .ref (h 0))]) C0 rfl (by first | rfl | omega) dX7_nameHere_112 hl (k := 2) rfl (by decide) rfl (fun ls hl => ?_)
                    refine lv_goto (tgt := 2) hx hb dX7_nameHere_115 (by decide) ?_
                    exact ih2 (nn + 1) (by omega) (by omega) (by intro j hj; exact (Decidable.em (j = nn)).elim (fun e => by rw [e]; exact ha0 c19) (fun e => hno j (by omega))) H locs ls X (lv_sub hl [0, 3] rfl)
                  · have hal := ha1.resolve_left (by omega)
                    refine lv_iload_n hx hb dX7_nameHere_110 rfl (lv_at hl 2 rfl) ?_
                    exact hE (v := nI nn) () (by rw [mWh, if_pos hk1, nameN_at (k := nn) (by omega) hno (isN_t (w := (strM.getD nn [])) (by omega) (by rw [← hE3, show mEnds (nn + 1) - mEnds nn = k by omega]; exact hal.2.2)), orN7, if_neg (by omega)]) trivial X dX7_nameHere_111
                · have hal := ha1.resolve_left (by omega)
                  refine lv_iload_n hx hb dX7_nameHere_55 rfl (lv_at hl 0 rfl) ?_
                  refine lv_aload_n hx hb dX7_nameHere_56 rfl (lv_at hl 3 rfl) ?_
                  refine g_get (v := .int (nI (Mt 20 7))) C0 X kX7 0 11 tb808 rfl rfl rfl dX7_nameHere_57 ?_
                  refine lv_aload_n hx hb dX7_nameHere_60 rfl (lv_at hl 3 rfl) ?_
                  refine g_get (v := .int (nI (Mt 20 8))) C0 X kX7 0 12 tb809 rfl rfl rfl dX7_nameHere_61 ?_
                  refine g_isub (n := (Mt 20 7) - (Mt 20 8)) C0 (by omega) rfl dX7_nameHere_64 ?_
                  refine g_icmp_ge (x := k) (y := (Mt 20 7) - (Mt 20 8)) (tgt := 106) C0 (by omega) (by omega) dX7_nameHere_65 rfl (fun c21 => ?_) (fun c22 => ?_)
                  · refine lv_iload_n hx hb dX7_nameHere_106 rfl (lv_at hl 1 rfl) ?_
                    refine g_ifeq (x := al) (tgt := 112) C0 (by omega) dX7_nameHere_107 rfl (fun c23 => ?_) (fun c24 => ?_)
                    · refine g_iinc (j := 1) (z := nn + 1) (lv' := [(1, .int (nI (nn + 1))), (3, .int (nI k)), (2, .int (nI al)), (0, .ref (h 0))]) C0 rfl (by first | rfl | omega) dX7_nameHere_112 hl (k := 2) rfl (by decide) rfl (fun ls hl => ?_)
                      refine lv_goto (tgt := 2) hx hb dX7_nameHere_115 (by decide) ?_
                      exact ih2 (nn + 1) (by omega) (by omega) (by intro j hj; exact (Decidable.em (j = nn)).elim (fun e => by rw [e]; exact ha0 c23) (fun e => hno j (by omega))) H locs ls X (lv_sub hl [0, 3] rfl)
                    · have hal := ha1.resolve_left (by omega)
                      refine lv_iload_n hx hb dX7_nameHere_110 rfl (lv_at hl 2 rfl) ?_
                      exact hE (v := nI nn) () (by rw [mWh, if_pos hk1, nameN_at (k := nn) (by omega) hno (isN_t (w := (strM.getD nn [])) (by omega) (by rw [← hE3, show mEnds (nn + 1) - mEnds nn = k by omega]; exact hal.2.2)), orN7, if_neg (by omega)]) trivial X dX7_nameHere_111
                  · have hE6 := hE5 k (by omega)
                    have hlt := hE6.1 (by omega)
                    have hB := hE6.2
                    have h8 := ht8 (Mt 20 8 + k) (by omega)
                    refine lv_aload_n hx hb dX7_nameHere_68 rfl (lv_at hl 3 rfl) ?_
                    refine lv_aload_n hx hb dX7_nameHere_69 rfl (lv_at hl 3 rfl) ?_
                    refine g_get (v := .int (nI (Mt 20 8))) C0 X kX7 0 12 tb809 rfl rfl rfl dX7_nameHere_70 ?_
                    refine lv_iload_n hx hb dX7_nameHere_73 rfl (lv_at hl 0 rfl) ?_
                    refine g_iadd (n := Mt 20 8 + k) C0 (by first | rfl | omega) dX7_nameHere_74 ?_
                    refine g_callV (As := [.int (nI (Mt 20 8 + k))]) (rest := []) (wr := []) (C0.sz hl) X (c_byT l D tk h Mt hi la ce (Mt 20 8 + k) (by first | omega | (show Mt 20 8 + k < Mt 20 3; omega) | (show Mt 20 3 ≤ Mt 20 8 + k; omega) | (show Mt 20 3 ≤ 160; omega)) (by first | omega | (show Mt 20 8 + k < Mt 20 3; omega) | (show Mt 20 3 ≤ Mt 20 8 + k; omega) | (show Mt 20 3 ≤ 160; omega))) ⟨tb900, tb903, tb8, ⟨by decide, by decide, rfl⟩, rfl, rfl, Nat.le_of_ble_eq_true rfl, Nat.le_of_ble_eq_true rfl⟩ tb902 tbs22 0 7 rfl rfl rfl rfl [0, 1, 2, 3, 4, 5, 6, 7, 8, 9, 10, 11, 12, 13] [] rfl rfl rfl rfl rfl (Nat.le_of_ble_eq_true rfl) ⟨Nat.le_of_ble_eq_true rfl, Nat.le_of_ble_eq_true rfl⟩ dX7_nameHere_75 (fun _ H locs _ X => ?_)
                    have X : Hx D zA zs H locs (mW tk h Mt hi la ce) := X
                    refine lv_aload_n hx hb dX7_nameHere_78 rfl (lv_at hl 3 rfl) ?_
                    refine g_get (v := .ref (h 5)) C0 X kX7 0 16 tb813 rfl rfl rfl dX7_nameHere_79 ?_
                    refine lv_aload_n hx hb dX7_nameHere_82 rfl (lv_at hl 3 rfl) ?_
                    refine g_get (v := .ref (h 4)) C0 X kX7 0 15 tb812 rfl rfl rfl dX7_nameHere_83 ?_
                    refine lv_iload_n hx hb dX7_nameHere_86 rfl (lv_at hl 2 rfl) ?_
                    refine g_iald (v := nI (mEnds nn)) (i := nn) C0 X 4 0 rfl rfl (by omega) rfl rfl dX7_nameHere_87 ?_
                    refine lv_iload_n hx hb dX7_nameHere_88 rfl (lv_at hl 0 rfl) ?_
                    refine g_iadd (n := mEnds nn + k) C0 (by first | rfl | omega) dX7_nameHere_89 ?_
                    refine g_iald (v := nI (mLetters (mEnds nn + k))) (i := mEnds nn + k) C0 X 5 0 rfl rfl (by omega) rfl rfl dX7_nameHere_90 ?_
                    refine g_icmp_ne (x := Mt 2 (Mt 20 8 + k)) (y := mLetters (mEnds nn + k)) (tgt := 98) C0 (by first | omega | (rw [hlt]; omega)) (by first | omega | (rw [hlt]; omega)) dX7_nameHere_91 rfl (fun c25 => ?_) (fun c26 => ?_)
                    · refine g_iconst (n := 0) C0 rfl dX7_nameHere_98 ?_
                      refine lv_istore_n (lv' := [(2, .int (nI 0)), (3, .int (nI k)), (1, .int (nI nn)), (0, .ref (h 0))]) hx hb dX7_nameHere_99 rfl hl (by decide) rfl (fun ls hl => ?_)
                      refine g_iinc (j := 1) (z := k + 1) (lv' := [(3, .int (nI (k + 1))), (2, .int (nI 0)), (1, .int (nI nn)), (0, .ref (h 0))]) C0 rfl (by first | rfl | omega) dX7_nameHere_100 hl (k := 1) rfl (by decide) rfl (fun ls hl => ?_)
                      refine lv_goto (tgt := 51) hx hb dX7_nameHere_103 (by decide) ?_
                      exact ih51 0 (k + 1) (by omega) (by omega) (by exact Or.inl rfl) (by exact fun _ => isN_f (i := k) (by omega) (by rw [← hlt]; exact c25)) H locs ls X (lv_sub hl [0, 1, 2, 3] rfl)
                    · refine g_iconst (n := 1) C0 rfl dX7_nameHere_94 ?_
                      refine lv_goto (tgt := 99) hx hb dX7_nameHere_95 (by decide) ?_
                      refine lv_istore_n (lv' := [(2, .int (nI 1)), (3, .int (nI k)), (1, .int (nI nn)), (0, .ref (h 0))]) hx hb dX7_nameHere_99 rfl hl (by decide) rfl (fun ls hl => ?_)
                      refine g_iinc (j := 1) (z := k + 1) (lv' := [(3, .int (nI (k + 1))), (2, .int (nI 1)), (1, .int (nI nn)), (0, .ref (h 0))]) C0 rfl (by first | rfl | omega) dX7_nameHere_100 hl (k := 1) rfl (by decide) rfl (fun ls hl => ?_)
                      refine lv_goto (tgt := 51) hx hb dX7_nameHere_103 (by decide) ?_
                      exact ih51 1 (k + 1) (by omega) (by omega) (by exact Or.inr ⟨rfl, hal.2.1, ball_t hal.2.2 (decide_eq_true (by rw [← hlt]; exact c26))⟩) (by exact fun q => absurd q (by decide)) H locs ls X (lv_sub hl [0, 1, 2, 3] rfl)
            exact J51 ((mEnds (nn + 1) - mEnds nn - 0) + 1) 1 0 (Nat.lt_succ_self _) (by omega) (by exact Or.inr ⟨rfl, by have := c6; omega, rfl⟩) (by exact fun q => absurd q (by decide)) H locs ls X (lv_sub hl [0, 1, 2, 3] rfl)
  exact J2 ((7 - 0) + 1) 0 (Nat.lt_succ_self _) (by omega) (by intro j hj; exact absurd hj (Nat.not_lt_zero j)) H locs ls X (lv_sub hl [0, 1] rfl)
