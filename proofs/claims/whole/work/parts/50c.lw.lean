set_option maxHeartbeats 4000000 in
set_option maxRecDepth 100000 in
theorem lw_shift {zp : Program} {l : Launch} {ze : Env} {zs : State} {zm : MethodId} {zb : List Frame} {zt : Method} {zc : Code} {D : va_G} {zA : Nat → Prop} {tk : Nat → ClassId} {sK sV : Nat → Nat} {zQ : State → Prop} {b L : Nat} {xs : Nat → Int32} {a : Nat} {u : Nat → Nat → Nat} {h : Nat → Nat} {i : Nat} (hC : LC0 zp zs zm zc D zA tk sK sV b L xs) (hi : i + 6 ≤ L) (hG : LG zp l ze zs zm zb zt zc D zA tk zQ b a u h i) {G : Nat → Nat → Nat} {d : Nat → Nat} {e : Nat → Nat} {T : Nat → Nat → Nat} {td : Nat → Nat} {te : Nat → Nat} {I0 : Nat → Nat → Nat} {di : Nat → Nat} {ei : Nat → Nat} {J0 : Nat → Nat → Nat} {dj : Nat → Nat} {ej : Nat → Nat} {ch : Int32} {am : Int32} {K : Nat → Nat → Nat} {wt : Bool} {n : Nat} {t : Nat → Nat} {D0 : Nat → Nat → Nat} {dd : Nat → Nat} {de : Nat → Nat} {sn : Nat} {pl : Nat → Nat} {lo : Nat → Nat} {le : Nat → Nat} {kb : Nat} {rf : Nat} {kn : Nat → Nat} {kl : Nat → Int32} {kc : Nat → Nat → Int32} {Mt : Nat → Nat → Nat} {hi : Int32} {la : Nat → Int32} {ce : Nat → Int32} (hR : Rel G I0 J0 kb n t sn pl lo K rf kn kl kc Mt la ce) {H : Heap} {locs : List Loc} {ls : Array Slot} (X : Hx D zA zs H locs (bflat (lawB tk a u h G d e T td te I0 di ei J0 dj ej ch am K wt n t D0 dd de sn pl lo le kb rf kn kl kc Mt hi la ce))) (hl : lv_has ls 4 [(3, .int (nI i)), (2, .ref (h 0)), (1, .ref a), (0, .ref b)]) : W zp l ze room_1 zs zm #[Value.ref b] zb zt zc H locs 83 1802 zQ (F0 zm 722 ls []) := by
  obtain ⟨C0, S0, hX, hbl, hbA, hL⟩ := id hC
  have hx := C0.1
  have hb := C0.2.1
  obtain ⟨f1, f2, f3, f4, f5, f6, f7, f8, f9, f10, f11, f12, f13, f14, f15, f16, f17, f18, f19, f20, f21, f22⟩ := rel_facts hR
  refine lv_aload_n hx hb dL_law_722 rfl (lv_at hl 2 rfl) ?_
  refine lv_aload_n hx hb dL_law_723 rfl (lv_at hl 3 rfl) ?_
  refine lv_iload_n hx hb dL_law_724 rfl (lv_at hl 0 rfl) ?_
  refine g_iconst (n := 1) C0 rfl dL_law_725 ?_
  refine g_iadd (n := i + 1) C0 rfl dL_law_726 ?_
  refine g_sld (i := i + 1) C0 X hX hbl hbA (by omega) hL dL_law_727 ?_
  refine lv_aload_n hx hb dL_law_728 rfl (lv_at hl 3 rfl) ?_
  refine lv_iload_n hx hb dL_law_729 rfl (lv_at hl 0 rfl) ?_
  refine g_iconst (n := 2) C0 rfl dL_law_730 ?_
  refine g_iadd (n := i + 2) C0 rfl dL_law_731 ?_
  refine g_sld (i := i + 2) C0 X hX hbl hbA (by omega) hL dL_law_732 ?_
  refine lv_aload_n hx hb dL_law_733 rfl (lv_at hl 3 rfl) ?_
  refine lv_iload_n hx hb dL_law_734 rfl (lv_at hl 0 rfl) ?_
  refine g_iconst (n := 3) C0 rfl dL_law_735 ?_
  refine g_iadd (n := i + 3) C0 rfl dL_law_736 ?_
  refine g_sld (i := i + 3) C0 X hX hbl hbA (by omega) hL dL_law_737 ?_
  refine b_callV (nb := 17) (As := [.int (xs (i + 1)), .int (xs (i + 2)), .int (xs (i + 3))]) (rest := []) (cs := [lW a (u 0) (u 1) (u 8 0) (u 8 1) (u 8 2) (u 5) (u 8 3) kb rf, gW tk (u 0) G d e]) (rs := [gW tk (u 1) T td te, gW tk (u 3) I0 di ei, gW tk (u 4) J0 dj ej, imW tk (u 8 0) (u 3 0) (u 4 0), bW (u 8 1) ch am, rV (u 8 2) (u 8 4) (u 2) K wt, tW tk (u 8 4) (u 8 5) n t, gW tk (u 2) D0 dd de, sW tk (u 5) sn pl lo le, hsW tk (u 8 3) (u 6 0) (u 6 1) (u 6 2) (u 6 3), shW tk (u 6 0) (u 7 0) (kn 0) (kl 0) (kc 0), shW tk (u 6 1) (u 7 1) (kn 1) (kl 1) (kc 1), shW tk (u 6 2) (u 7 2) (kn 2) (kl 2) (kc 2), shW tk (u 6 3) (u 7 3) (kn 3) (kl 3) (kc 3), mW tk h Mt hi la ce]) (fun _ => [lW a (u 0) (u 1) (u 8 0) (u 8 1) (u 8 2) (u 5) (u 8 3) kb rf, gW tk (u 0) (shiftG G (xs (i + 1)) (xs (i + 2)) (xs (i + 3))) d e]) (C0.sz hl) X (c_X6_shift l D tk a (u 0) (u 1) (u 8 0) (u 8 1) (u 8 2) (u 5) (u 8 3) kb rf G d e (xs (i + 1)) (xs (i + 2)) (xs (i + 3)) (by assumption)) ⟨tb535, tb538, tb1, ⟨by decide, by decide, rfl⟩, rfl, rfl, Nat.le_of_ble_eq_true rfl, Nat.le_of_ble_eq_true rfl⟩ tb536 tb537 6 rfl rfl rfl rfl [0, 1] [2, 3, 4, 5, 6, 7, 8, 9, 10, 11, 12, 13, 14, 15, 16] rfl (by decide +kernel) rfl rfl rfl (fun _ => rfl) (Nat.le_of_ble_eq_true rfl) ⟨Nat.le_of_ble_eq_true rfl, Nat.le_of_ble_eq_true rfl⟩ dL_law_738 (fun _ H locs _ X => ?_)
  have X : Hx D zA zs H locs (bflat (lawB tk a u h (shiftG G (xs (i + 1)) (xs (i + 2)) (xs (i + 3))) d e T td te I0 di ei J0 dj ej ch am K wt n t D0 dd de sn pl lo le kb rf kn kl kc Mt hi la ce)) := X.blk (nb := 17) [15, 16, 0, 1, 2, 3, 4, 5, 6, 7, 8, 9, 10, 11, 12, 13, 14] rfl (by decide +kernel) rfl
  refine lv_aload_n hx hb dL_law_741 rfl (lv_at hl 1 rfl) ?_
  refine lv_aload_n hx hb dL_law_742 rfl (lv_at hl 3 rfl) ?_
  refine lv_iload_n hx hb dL_law_743 rfl (lv_at hl 0 rfl) ?_
  refine g_iconst (n := 1) C0 rfl dL_law_744 ?_
  refine g_iadd (n := i + 1) C0 rfl dL_law_745 ?_
  refine g_sld (i := i + 1) C0 X hX hbl hbA (by omega) hL dL_law_746 ?_
  refine lv_aload_n hx hb dL_law_747 rfl (lv_at hl 3 rfl) ?_
  refine lv_iload_n hx hb dL_law_748 rfl (lv_at hl 0 rfl) ?_
  refine g_iconst (n := 2) C0 rfl dL_law_749 ?_
  refine g_iadd (n := i + 2) C0 rfl dL_law_750 ?_
  refine g_sld (i := i + 2) C0 X hX hbl hbA (by omega) hL dL_law_751 ?_
  refine lv_aload_n hx hb dL_law_752 rfl (lv_at hl 3 rfl) ?_
  refine lv_iload_n hx hb dL_law_753 rfl (lv_at hl 0 rfl) ?_
  refine g_iconst (n := 3) C0 rfl dL_law_754 ?_
  refine g_iadd (n := i + 3) C0 rfl dL_law_755 ?_
  refine g_sld (i := i + 3) C0 X hX hbl hbA (by omega) hL dL_law_756 ?_
  refine b_callV (nb := 17) (As := [.int (xs (i + 1)), .int (xs (i + 2)), .int (xs (i + 3))]) (rest := [.int (a_shift (cgv G) (xs (i + 1)) (xs (i + 2)) (xs (i + 3)))]) (cs := [mW tk h Mt hi la ce]) (rs := [lW a (u 0) (u 1) (u 8 0) (u 8 1) (u 8 2) (u 5) (u 8 3) kb rf, gW tk (u 0) (shiftG G (xs (i + 1)) (xs (i + 2)) (xs (i + 3))) d e, gW tk (u 1) T td te, gW tk (u 3) I0 di ei, gW tk (u 4) J0 dj ej, imW tk (u 8 0) (u 3 0) (u 4 0), bW (u 8 1) ch am, rV (u 8 2) (u 8 4) (u 2) K wt, tW tk (u 8 4) (u 8 5) n t, gW tk (u 2) D0 dd de, sW tk (u 5) sn pl lo le, hsW tk (u 8 3) (u 6 0) (u 6 1) (u 6 2) (u 6 3), shW tk (u 6 0) (u 7 0) (kn 0) (kl 0) (kc 0), shW tk (u 6 1) (u 7 1) (kn 1) (kl 1) (kc 1), shW tk (u 6 2) (u 7 2) (kn 2) (kl 2) (kc 2), shW tk (u 6 3) (u 7 3) (kn 3) (kl 3) (kc 3)]) (fun _ => [mW tk h (shiftM Mt (xs (i + 1)) (xs (i + 2)) (xs (i + 3))) hi la ce]) (C0.sz hl) X (c_X7_shift l D tk h Mt hi la ce (xs (i + 1)) (xs (i + 2)) (xs (i + 3)) (by assumption)) ⟨tb1052, tb1055, tb8, ⟨by decide, by decide, rfl⟩, rfl, rfl, Nat.le_of_ble_eq_true rfl, Nat.le_of_ble_eq_true rfl⟩ tb1053 tb1054 7 rfl rfl rfl rfl [16] [0, 1, 2, 3, 4, 5, 6, 7, 8, 9, 10, 11, 12, 13, 14, 15] rfl (by decide +kernel) rfl rfl rfl (fun _ => rfl) (Nat.le_of_ble_eq_true rfl) ⟨Nat.le_of_ble_eq_true rfl, Nat.le_of_ble_eq_true rfl⟩ dL_law_757 (fun _ H locs _ X => ?_)
  have X : Hx D zA zs H locs (bflat (lawB tk a u h (shiftG G (xs (i + 1)) (xs (i + 2)) (xs (i + 3))) d e T td te I0 di ei J0 dj ej ch am K wt n t D0 dd de sn pl lo le kb rf kn kl kc (shiftM Mt (xs (i + 1)) (xs (i + 2)) (xs (i + 3))) hi la ce)) := X
  refine lv_icmp_eq (tgt := 1691) hx hb dL_law_760 rfl (fun _ => ?_) (fun q => absurd (q_shift hR (xs (i + 1)) (xs (i + 2)) (xs (i + 3))) q)
  exact hG (shiftG G (xs (i + 1)) (xs (i + 2)) (xs (i + 3))) d e T td te I0 di ei J0 dj ej ch am K wt n t D0 dd de sn pl lo le kb rf kn kl kc (shiftM Mt (xs (i + 1)) (xs (i + 2)) (xs (i + 3))) hi la ce (r_shift hR (xs (i + 1)) (xs (i + 2)) (xs (i + 3))) H locs ls X hl
set_option maxHeartbeats 4000000 in
set_option maxRecDepth 100000 in
theorem lw_drop {zp : Program} {l : Launch} {ze : Env} {zs : State} {zm : MethodId} {zb : List Frame} {zt : Method} {zc : Code} {D : va_G} {zA : Nat → Prop} {tk : Nat → ClassId} {sK sV : Nat → Nat} {zQ : State → Prop} {b L : Nat} {xs : Nat → Int32} {a : Nat} {u : Nat → Nat → Nat} {h : Nat → Nat} {i : Nat} (hC : LC0 zp zs zm zc D zA tk sK sV b L xs) (hi : i + 6 ≤ L) (hG : LG zp l ze zs zm zb zt zc D zA tk zQ b a u h i) {G : Nat → Nat → Nat} {d : Nat → Nat} {e : Nat → Nat} {T : Nat → Nat → Nat} {td : Nat → Nat} {te : Nat → Nat} {I0 : Nat → Nat → Nat} {di : Nat → Nat} {ei : Nat → Nat} {J0 : Nat → Nat → Nat} {dj : Nat → Nat} {ej : Nat → Nat} {ch : Int32} {am : Int32} {K : Nat → Nat → Nat} {wt : Bool} {n : Nat} {t : Nat → Nat} {D0 : Nat → Nat → Nat} {dd : Nat → Nat} {de : Nat → Nat} {sn : Nat} {pl : Nat → Nat} {lo : Nat → Nat} {le : Nat → Nat} {kb : Nat} {rf : Nat} {kn : Nat → Nat} {kl : Nat → Int32} {kc : Nat → Nat → Int32} {Mt : Nat → Nat → Nat} {hi : Int32} {la : Nat → Int32} {ce : Nat → Int32} (hR : Rel G I0 J0 kb n t sn pl lo K rf kn kl kc Mt la ce) {H : Heap} {locs : List Loc} {ls : Array Slot} (X : Hx D zA zs H locs (bflat (lawB tk a u h G d e T td te I0 di ei J0 dj ej ch am K wt n t D0 dd de sn pl lo le kb rf kn kl kc Mt hi la ce))) (hl : lv_has ls 4 [(3, .int (nI i)), (2, .ref (h 0)), (1, .ref a), (0, .ref b)]) : W zp l ze room_1 zs zm #[Value.ref b] zb zt zc H locs 83 1802 zQ (F0 zm 765 ls []) := by
  obtain ⟨C0, S0, hX, hbl, hbA, hL⟩ := id hC
  have hx := C0.1
  have hb := C0.2.1
  obtain ⟨f1, f2, f3, f4, f5, f6, f7, f8, f9, f10, f11, f12, f13, f14, f15, f16, f17, f18, f19, f20, f21, f22⟩ := rel_facts hR
  refine lv_aload_n hx hb dL_law_765 rfl (lv_at hl 2 rfl) ?_
  refine lv_aload_n hx hb dL_law_766 rfl (lv_at hl 3 rfl) ?_
  refine lv_iload_n hx hb dL_law_767 rfl (lv_at hl 0 rfl) ?_
  refine g_iconst (n := 1) C0 rfl dL_law_768 ?_
  refine g_iadd (n := i + 1) C0 rfl dL_law_769 ?_
  refine g_sld (i := i + 1) C0 X hX hbl hbA (by omega) hL dL_law_770 ?_
  refine b_callV (nb := 17) (As := [.int (xs (i + 1))]) (rest := []) (cs := [lW a (u 0) (u 1) (u 8 0) (u 8 1) (u 8 2) (u 5) (u 8 3) kb rf, gW tk (u 0) G d e]) (rs := [gW tk (u 1) T td te, gW tk (u 3) I0 di ei, gW tk (u 4) J0 dj ej, imW tk (u 8 0) (u 3 0) (u 4 0), bW (u 8 1) ch am, rV (u 8 2) (u 8 4) (u 2) K wt, tW tk (u 8 4) (u 8 5) n t, gW tk (u 2) D0 dd de, sW tk (u 5) sn pl lo le, hsW tk (u 8 3) (u 6 0) (u 6 1) (u 6 2) (u 6 3), shW tk (u 6 0) (u 7 0) (kn 0) (kl 0) (kc 0), shW tk (u 6 1) (u 7 1) (kn 1) (kl 1) (kc 1), shW tk (u 6 2) (u 7 2) (kn 2) (kl 2) (kc 2), shW tk (u 6 3) (u 7 3) (kn 3) (kl 3) (kc 3), mW tk h Mt hi la ce]) (fun _ => [lW a (u 0) (u 1) (u 8 0) (u 8 1) (u 8 2) (u 5) (u 8 3) kb rf, gW tk (u 0) (dropG G (xs (i + 1))) d e]) (C0.sz hl) X (c_X6_drop l D tk a (u 0) (u 1) (u 8 0) (u 8 1) (u 8 2) (u 5) (u 8 3) kb rf G d e (xs (i + 1)) (by assumption)) ⟨tb539, tb542, tb1, ⟨by decide, by decide, rfl⟩, rfl, rfl, Nat.le_of_ble_eq_true rfl, Nat.le_of_ble_eq_true rfl⟩ tb540 tb541 6 rfl rfl rfl rfl [0, 1] [2, 3, 4, 5, 6, 7, 8, 9, 10, 11, 12, 13, 14, 15, 16] rfl (by decide +kernel) rfl rfl rfl (fun _ => rfl) (Nat.le_of_ble_eq_true rfl) ⟨Nat.le_of_ble_eq_true rfl, Nat.le_of_ble_eq_true rfl⟩ dL_law_771 (fun _ H locs _ X => ?_)
  have X : Hx D zA zs H locs (bflat (lawB tk a u h (dropG G (xs (i + 1))) d e T td te I0 di ei J0 dj ej ch am K wt n t D0 dd de sn pl lo le kb rf kn kl kc Mt hi la ce)) := X.blk (nb := 17) [15, 16, 0, 1, 2, 3, 4, 5, 6, 7, 8, 9, 10, 11, 12, 13, 14] rfl (by decide +kernel) rfl
  refine lv_aload_n hx hb dL_law_774 rfl (lv_at hl 1 rfl) ?_
  refine lv_aload_n hx hb dL_law_775 rfl (lv_at hl 3 rfl) ?_
  refine lv_iload_n hx hb dL_law_776 rfl (lv_at hl 0 rfl) ?_
  refine g_iconst (n := 1) C0 rfl dL_law_777 ?_
  refine g_iadd (n := i + 1) C0 rfl dL_law_778 ?_
  refine g_sld (i := i + 1) C0 X hX hbl hbA (by omega) hL dL_law_779 ?_
  refine b_callV (nb := 17) (As := [.int (xs (i + 1))]) (rest := [.int (a_drop (cgv G) (xs (i + 1)))]) (cs := [mW tk h Mt hi la ce]) (rs := [lW a (u 0) (u 1) (u 8 0) (u 8 1) (u 8 2) (u 5) (u 8 3) kb rf, gW tk (u 0) (dropG G (xs (i + 1))) d e, gW tk (u 1) T td te, gW tk (u 3) I0 di ei, gW tk (u 4) J0 dj ej, imW tk (u 8 0) (u 3 0) (u 4 0), bW (u 8 1) ch am, rV (u 8 2) (u 8 4) (u 2) K wt, tW tk (u 8 4) (u 8 5) n t, gW tk (u 2) D0 dd de, sW tk (u 5) sn pl lo le, hsW tk (u 8 3) (u 6 0) (u 6 1) (u 6 2) (u 6 3), shW tk (u 6 0) (u 7 0) (kn 0) (kl 0) (kc 0), shW tk (u 6 1) (u 7 1) (kn 1) (kl 1) (kc 1), shW tk (u 6 2) (u 7 2) (kn 2) (kl 2) (kc 2), shW tk (u 6 3) (u 7 3) (kn 3) (kl 3) (kc 3)]) (fun _ => [mW tk h (dropM Mt (xs (i + 1))) hi la ce]) (C0.sz hl) X (c_X7_drop l D tk h Mt hi la ce (xs (i + 1)) (by assumption)) ⟨tb1056, tb1059, tb8, ⟨by decide, by decide, rfl⟩, rfl, rfl, Nat.le_of_ble_eq_true rfl, Nat.le_of_ble_eq_true rfl⟩ tb1057 tb1058 7 rfl rfl rfl rfl [16] [0, 1, 2, 3, 4, 5, 6, 7, 8, 9, 10, 11, 12, 13, 14, 15] rfl (by decide +kernel) rfl rfl rfl (fun _ => rfl) (Nat.le_of_ble_eq_true rfl) ⟨Nat.le_of_ble_eq_true rfl, Nat.le_of_ble_eq_true rfl⟩ dL_law_780 (fun _ H locs _ X => ?_)
  have X : Hx D zA zs H locs (bflat (lawB tk a u h (dropG G (xs (i + 1))) d e T td te I0 di ei J0 dj ej ch am K wt n t D0 dd de sn pl lo le kb rf kn kl kc (dropM Mt (xs (i + 1))) hi la ce)) := X
  refine lv_icmp_eq (tgt := 1691) hx hb dL_law_783 rfl (fun _ => ?_) (fun q => absurd (q_drop hR (xs (i + 1))) q)
  exact hG (dropG G (xs (i + 1))) d e T td te I0 di ei J0 dj ej ch am K wt n t D0 dd de sn pl lo le kb rf kn kl kc (dropM Mt (xs (i + 1))) hi la ce (r_drop hR (xs (i + 1))) H locs ls X hl
set_option maxHeartbeats 4000000 in
set_option maxRecDepth 100000 in
theorem lw_hears {zp : Program} {l : Launch} {ze : Env} {zs : State} {zm : MethodId} {zb : List Frame} {zt : Method} {zc : Code} {D : va_G} {zA : Nat → Prop} {tk : Nat → ClassId} {sK sV : Nat → Nat} {zQ : State → Prop} {b L : Nat} {xs : Nat → Int32} {a : Nat} {u : Nat → Nat → Nat} {h : Nat → Nat} {i : Nat} (hC : LC0 zp zs zm zc D zA tk sK sV b L xs) (hi : i + 6 ≤ L) (hG : LG zp l ze zs zm zb zt zc D zA tk zQ b a u h i) {G : Nat → Nat → Nat} {d : Nat → Nat} {e : Nat → Nat} {T : Nat → Nat → Nat} {td : Nat → Nat} {te : Nat → Nat} {I0 : Nat → Nat → Nat} {di : Nat → Nat} {ei : Nat → Nat} {J0 : Nat → Nat → Nat} {dj : Nat → Nat} {ej : Nat → Nat} {ch : Int32} {am : Int32} {K : Nat → Nat → Nat} {wt : Bool} {n : Nat} {t : Nat → Nat} {D0 : Nat → Nat → Nat} {dd : Nat → Nat} {de : Nat → Nat} {sn : Nat} {pl : Nat → Nat} {lo : Nat → Nat} {le : Nat → Nat} {kb : Nat} {rf : Nat} {kn : Nat → Nat} {kl : Nat → Int32} {kc : Nat → Nat → Int32} {Mt : Nat → Nat → Nat} {hi : Int32} {la : Nat → Int32} {ce : Nat → Int32} (hR : Rel G I0 J0 kb n t sn pl lo K rf kn kl kc Mt la ce) {H : Heap} {locs : List Loc} {ls : Array Slot} (X : Hx D zA zs H locs (bflat (lawB tk a u h G d e T td te I0 di ei J0 dj ej ch am K wt n t D0 dd de sn pl lo le kb rf kn kl kc Mt hi la ce))) (hl : lv_has ls 4 [(3, .int (nI i)), (2, .ref (h 0)), (1, .ref a), (0, .ref b)]) : W zp l ze room_1 zs zm #[Value.ref b] zb zt zc H locs 83 1802 zQ (F0 zm 788 ls []) := by
  obtain ⟨C0, S0, hX, hbl, hbA, hL⟩ := id hC
  have hx := C0.1
  have hb := C0.2.1
  obtain ⟨f1, f2, f3, f4, f5, f6, f7, f8, f9, f10, f11, f12, f13, f14, f15, f16, f17, f18, f19, f20, f21, f22⟩ := rel_facts hR
  refine lv_aload_n hx hb dL_law_788 rfl (lv_at hl 2 rfl) ?_
  refine lv_aload_n hx hb dL_law_789 rfl (lv_at hl 3 rfl) ?_
  refine lv_iload_n hx hb dL_law_790 rfl (lv_at hl 0 rfl) ?_
  refine g_iconst (n := 1) C0 rfl dL_law_791 ?_
  refine g_iadd (n := i + 1) C0 rfl dL_law_792 ?_
  refine g_sld (i := i + 1) C0 X hX hbl hbA (by omega) hL dL_law_793 ?_
  refine lv_aload_n hx hb dL_law_794 rfl (lv_at hl 3 rfl) ?_
  refine lv_iload_n hx hb dL_law_795 rfl (lv_at hl 0 rfl) ?_
  refine g_iconst (n := 2) C0 rfl dL_law_796 ?_
  refine g_iadd (n := i + 2) C0 rfl dL_law_797 ?_
  refine g_sld (i := i + 2) C0 X hX hbl hbA (by omega) hL dL_law_798 ?_
  refine b_callV (nb := 17) (As := [.int (xs (i + 1)), .int (xs (i + 2))]) (rest := []) (cs := [lW a (u 0) (u 1) (u 8 0) (u 8 1) (u 8 2) (u 5) (u 8 3) kb rf, gW tk (u 0) G d e]) (rs := [gW tk (u 1) T td te, gW tk (u 3) I0 di ei, gW tk (u 4) J0 dj ej, imW tk (u 8 0) (u 3 0) (u 4 0), bW (u 8 1) ch am, rV (u 8 2) (u 8 4) (u 2) K wt, tW tk (u 8 4) (u 8 5) n t, gW tk (u 2) D0 dd de, sW tk (u 5) sn pl lo le, hsW tk (u 8 3) (u 6 0) (u 6 1) (u 6 2) (u 6 3), shW tk (u 6 0) (u 7 0) (kn 0) (kl 0) (kc 0), shW tk (u 6 1) (u 7 1) (kn 1) (kl 1) (kc 1), shW tk (u 6 2) (u 7 2) (kn 2) (kl 2) (kc 2), shW tk (u 6 3) (u 7 3) (kn 3) (kl 3) (kc 3), mW tk h Mt hi la ce]) (fun u6 => [lW a (u 0) (u 1) (u 8 0) (u 8 1) (u 8 2) (u 5) (u 8 3) kb rf, gW tk (u 0) G u6.1 u6.2]) (C0.sz hl) X (c_X6_hears l D tk a (u 0) (u 1) (u 8 0) (u 8 1) (u 8 2) (u 5) (u 8 3) kb rf G d e (xs (i + 1)) (xs (i + 2)) (by assumption)) ⟨tb547, tb550, tb1, ⟨by decide, by decide, rfl⟩, rfl, rfl, Nat.le_of_ble_eq_true rfl, Nat.le_of_ble_eq_true rfl⟩ tb548 tb549 6 rfl rfl rfl rfl [0, 1] [2, 3, 4, 5, 6, 7, 8, 9, 10, 11, 12, 13, 14, 15, 16] rfl (by decide +kernel) rfl rfl rfl (fun _ => rfl) (Nat.le_of_ble_eq_true rfl) ⟨Nat.le_of_ble_eq_true rfl, Nat.le_of_ble_eq_true rfl⟩ dL_law_799 (fun u6 H locs _ X => ?_)
  have X : Hx D zA zs H locs (bflat (lawB tk a u h G u6.1 u6.2 T td te I0 di ei J0 dj ej ch am K wt n t D0 dd de sn pl lo le kb rf kn kl kc Mt hi la ce)) := X.blk (nb := 17) [15, 16, 0, 1, 2, 3, 4, 5, 6, 7, 8, 9, 10, 11, 12, 13, 14] rfl (by decide +kernel) rfl
  refine lv_aload_n hx hb dL_law_802 rfl (lv_at hl 1 rfl) ?_
  refine lv_aload_n hx hb dL_law_803 rfl (lv_at hl 3 rfl) ?_
  refine lv_iload_n hx hb dL_law_804 rfl (lv_at hl 0 rfl) ?_
  refine g_iconst (n := 1) C0 rfl dL_law_805 ?_
  refine g_iadd (n := i + 1) C0 rfl dL_law_806 ?_
  refine g_sld (i := i + 1) C0 X hX hbl hbA (by omega) hL dL_law_807 ?_
  refine lv_aload_n hx hb dL_law_808 rfl (lv_at hl 3 rfl) ?_
  refine lv_iload_n hx hb dL_law_809 rfl (lv_at hl 0 rfl) ?_
  refine g_iconst (n := 2) C0 rfl dL_law_810 ?_
  refine g_iadd (n := i + 2) C0 rfl dL_law_811 ?_
  refine g_sld (i := i + 2) C0 X hX hbl hbA (by omega) hL dL_law_812 ?_
  refine b_callV (nb := 17) (As := [.int (xs (i + 1)), .int (xs (i + 2))]) (rest := [.int (a_hears (cgv G) (xs (i + 1)) (xs (i + 2)))]) (cs := [mW tk h Mt hi la ce]) (rs := [lW a (u 0) (u 1) (u 8 0) (u 8 1) (u 8 2) (u 5) (u 8 3) kb rf, gW tk (u 0) G u6.1 u6.2, gW tk (u 1) T td te, gW tk (u 3) I0 di ei, gW tk (u 4) J0 dj ej, imW tk (u 8 0) (u 3 0) (u 4 0), bW (u 8 1) ch am, rV (u 8 2) (u 8 4) (u 2) K wt, tW tk (u 8 4) (u 8 5) n t, gW tk (u 2) D0 dd de, sW tk (u 5) sn pl lo le, hsW tk (u 8 3) (u 6 0) (u 6 1) (u 6 2) (u 6 3), shW tk (u 6 0) (u 7 0) (kn 0) (kl 0) (kc 0), shW tk (u 6 1) (u 7 1) (kn 1) (kl 1) (kc 1), shW tk (u 6 2) (u 7 2) (kn 2) (kl 2) (kc 2), shW tk (u 6 3) (u 7 3) (kn 3) (kl 3) (kc 3)]) (fun u7 => [mW tk h (u3 Mt 6 u7) hi la ce]) (C0.sz hl) X (c_X7_hears l D tk h Mt hi la ce (xs (i + 1)) (xs (i + 2)) (by assumption)) ⟨tb1060, tb1063, tb8, ⟨by decide, by decide, rfl⟩, rfl, rfl, Nat.le_of_ble_eq_true rfl, Nat.le_of_ble_eq_true rfl⟩ tb1061 tb1062 7 rfl rfl rfl rfl [16] [0, 1, 2, 3, 4, 5, 6, 7, 8, 9, 10, 11, 12, 13, 14, 15] rfl (by decide +kernel) rfl rfl rfl (fun _ => rfl) (Nat.le_of_ble_eq_true rfl) ⟨Nat.le_of_ble_eq_true rfl, Nat.le_of_ble_eq_true rfl⟩ dL_law_813 (fun u7 H locs _ X => ?_)
  have X : Hx D zA zs H locs (bflat (lawB tk a u h G u6.1 u6.2 T td te I0 di ei J0 dj ej ch am K wt n t D0 dd de sn pl lo le kb rf kn kl kc (u3 Mt 6 u7) hi la ce)) := X
  refine lv_icmp_eq (tgt := 1691) hx hb dL_law_816 rfl (fun _ => ?_) (fun q => absurd (q_hears hR (xs (i + 1)) (xs (i + 2)) u6 u7) q)
  exact hG G u6.1 u6.2 T td te I0 di ei J0 dj ej ch am K wt n t D0 dd de sn pl lo le kb rf kn kl kc (u3 Mt 6 u7) hi la ce (r_hears hR (xs (i + 1)) (xs (i + 2)) u6 u7) H locs ls X hl
set_option maxHeartbeats 4000000 in
set_option maxRecDepth 100000 in
theorem lw_crossed {zp : Program} {l : Launch} {ze : Env} {zs : State} {zm : MethodId} {zb : List Frame} {zt : Method} {zc : Code} {D : va_G} {zA : Nat → Prop} {tk : Nat → ClassId} {sK sV : Nat → Nat} {zQ : State → Prop} {b L : Nat} {xs : Nat → Int32} {a : Nat} {u : Nat → Nat → Nat} {h : Nat → Nat} {i : Nat} (hC : LC0 zp zs zm zc D zA tk sK sV b L xs) (hi : i + 6 ≤ L) (hG : LG zp l ze zs zm zb zt zc D zA tk zQ b a u h i) {G : Nat → Nat → Nat} {d : Nat → Nat} {e : Nat → Nat} {T : Nat → Nat → Nat} {td : Nat → Nat} {te : Nat → Nat} {I0 : Nat → Nat → Nat} {di : Nat → Nat} {ei : Nat → Nat} {J0 : Nat → Nat → Nat} {dj : Nat → Nat} {ej : Nat → Nat} {ch : Int32} {am : Int32} {K : Nat → Nat → Nat} {wt : Bool} {n : Nat} {t : Nat → Nat} {D0 : Nat → Nat → Nat} {dd : Nat → Nat} {de : Nat → Nat} {sn : Nat} {pl : Nat → Nat} {lo : Nat → Nat} {le : Nat → Nat} {kb : Nat} {rf : Nat} {kn : Nat → Nat} {kl : Nat → Int32} {kc : Nat → Nat → Int32} {Mt : Nat → Nat → Nat} {hi : Int32} {la : Nat → Int32} {ce : Nat → Int32} (hR : Rel G I0 J0 kb n t sn pl lo K rf kn kl kc Mt la ce) {H : Heap} {locs : List Loc} {ls : Array Slot} (X : Hx D zA zs H locs (bflat (lawB tk a u h G d e T td te I0 di ei J0 dj ej ch am K wt n t D0 dd de sn pl lo le kb rf kn kl kc Mt hi la ce))) (hl : lv_has ls 4 [(3, .int (nI i)), (2, .ref (h 0)), (1, .ref a), (0, .ref b)]) : W zp l ze room_1 zs zm #[Value.ref b] zb zt zc H locs 83 1802 zQ (F0 zm 821 ls []) := by
  obtain ⟨C0, S0, hX, hbl, hbA, hL⟩ := id hC
  have hx := C0.1
  have hb := C0.2.1
  obtain ⟨f1, f2, f3, f4, f5, f6, f7, f8, f9, f10, f11, f12, f13, f14, f15, f16, f17, f18, f19, f20, f21, f22⟩ := rel_facts hR
  refine lv_aload_n hx hb dL_law_821 rfl (lv_at hl 2 rfl) ?_
  refine lv_aload_n hx hb dL_law_822 rfl (lv_at hl 3 rfl) ?_
  refine lv_iload_n hx hb dL_law_823 rfl (lv_at hl 0 rfl) ?_
  refine g_iconst (n := 1) C0 rfl dL_law_824 ?_
  refine g_iadd (n := i + 1) C0 rfl dL_law_825 ?_
  refine g_sld (i := i + 1) C0 X hX hbl hbA (by omega) hL dL_law_826 ?_
  refine lv_aload_n hx hb dL_law_827 rfl (lv_at hl 3 rfl) ?_
  refine lv_iload_n hx hb dL_law_828 rfl (lv_at hl 0 rfl) ?_
  refine g_iconst (n := 2) C0 rfl dL_law_829 ?_
  refine g_iadd (n := i + 2) C0 rfl dL_law_830 ?_
  refine g_sld (i := i + 2) C0 X hX hbl hbA (by omega) hL dL_law_831 ?_
  refine b_callV (nb := 17) (As := [.int (xs (i + 1)), .int (xs (i + 2))]) (rest := []) (cs := [lW a (u 0) (u 1) (u 8 0) (u 8 1) (u 8 2) (u 5) (u 8 3) kb rf, gW tk (u 0) G d e]) (rs := [gW tk (u 1) T td te, gW tk (u 3) I0 di ei, gW tk (u 4) J0 dj ej, imW tk (u 8 0) (u 3 0) (u 4 0), bW (u 8 1) ch am, rV (u 8 2) (u 8 4) (u 2) K wt, tW tk (u 8 4) (u 8 5) n t, gW tk (u 2) D0 dd de, sW tk (u 5) sn pl lo le, hsW tk (u 8 3) (u 6 0) (u 6 1) (u 6 2) (u 6 3), shW tk (u 6 0) (u 7 0) (kn 0) (kl 0) (kc 0), shW tk (u 6 1) (u 7 1) (kn 1) (kl 1) (kc 1), shW tk (u 6 2) (u 7 2) (kn 2) (kl 2) (kc 2), shW tk (u 6 3) (u 7 3) (kn 3) (kl 3) (kc 3), mW tk h Mt hi la ce]) (fun u6 => [lW a (u 0) (u 1) (u 8 0) (u 8 1) (u 8 2) (u 5) (u 8 3) kb rf, gW tk (u 0) G u6.1 u6.2]) (C0.sz hl) X (c_X6_crossed l D tk a (u 0) (u 1) (u 8 0) (u 8 1) (u 8 2) (u 5) (u 8 3) kb rf G d e (xs (i + 1)) (xs (i + 2)) (by assumption)) ⟨tb551, tb554, tb1, ⟨by decide, by decide, rfl⟩, rfl, rfl, Nat.le_of_ble_eq_true rfl, Nat.le_of_ble_eq_true rfl⟩ tb552 tb553 6 rfl rfl rfl rfl [0, 1] [2, 3, 4, 5, 6, 7, 8, 9, 10, 11, 12, 13, 14, 15, 16] rfl (by decide +kernel) rfl rfl rfl (fun _ => rfl) (Nat.le_of_ble_eq_true rfl) ⟨Nat.le_of_ble_eq_true rfl, Nat.le_of_ble_eq_true rfl⟩ dL_law_832 (fun u6 H locs _ X => ?_)
  have X : Hx D zA zs H locs (bflat (lawB tk a u h G u6.1 u6.2 T td te I0 di ei J0 dj ej ch am K wt n t D0 dd de sn pl lo le kb rf kn kl kc Mt hi la ce)) := X.blk (nb := 17) [15, 16, 0, 1, 2, 3, 4, 5, 6, 7, 8, 9, 10, 11, 12, 13, 14] rfl (by decide +kernel) rfl
  refine lv_aload_n hx hb dL_law_835 rfl (lv_at hl 1 rfl) ?_
  refine lv_aload_n hx hb dL_law_836 rfl (lv_at hl 3 rfl) ?_
  refine lv_iload_n hx hb dL_law_837 rfl (lv_at hl 0 rfl) ?_
  refine g_iconst (n := 1) C0 rfl dL_law_838 ?_
  refine g_iadd (n := i + 1) C0 rfl dL_law_839 ?_
  refine g_sld (i := i + 1) C0 X hX hbl hbA (by omega) hL dL_law_840 ?_
  refine lv_aload_n hx hb dL_law_841 rfl (lv_at hl 3 rfl) ?_
  refine lv_iload_n hx hb dL_law_842 rfl (lv_at hl 0 rfl) ?_
  refine g_iconst (n := 2) C0 rfl dL_law_843 ?_
  refine g_iadd (n := i + 2) C0 rfl dL_law_844 ?_
  refine g_sld (i := i + 2) C0 X hX hbl hbA (by omega) hL dL_law_845 ?_
  refine b_callV (nb := 17) (As := [.int (xs (i + 1)), .int (xs (i + 2))]) (rest := [.int (a_crossed (cgv G) (xs (i + 1)) (xs (i + 2)))]) (cs := [mW tk h Mt hi la ce]) (rs := [lW a (u 0) (u 1) (u 8 0) (u 8 1) (u 8 2) (u 5) (u 8 3) kb rf, gW tk (u 0) G u6.1 u6.2, gW tk (u 1) T td te, gW tk (u 3) I0 di ei, gW tk (u 4) J0 dj ej, imW tk (u 8 0) (u 3 0) (u 4 0), bW (u 8 1) ch am, rV (u 8 2) (u 8 4) (u 2) K wt, tW tk (u 8 4) (u 8 5) n t, gW tk (u 2) D0 dd de, sW tk (u 5) sn pl lo le, hsW tk (u 8 3) (u 6 0) (u 6 1) (u 6 2) (u 6 3), shW tk (u 6 0) (u 7 0) (kn 0) (kl 0) (kc 0), shW tk (u 6 1) (u 7 1) (kn 1) (kl 1) (kc 1), shW tk (u 6 2) (u 7 2) (kn 2) (kl 2) (kc 2), shW tk (u 6 3) (u 7 3) (kn 3) (kl 3) (kc 3)]) (fun u7 => [mW tk h (u3 (u3 Mt 6 u7.1) 7 u7.2) hi la ce]) (C0.sz hl) X (c_X7_crossed l D tk h Mt hi la ce (xs (i + 1)) (xs (i + 2)) (by assumption)) ⟨tb1064, tb1067, tb8, ⟨by decide, by decide, rfl⟩, rfl, rfl, Nat.le_of_ble_eq_true rfl, Nat.le_of_ble_eq_true rfl⟩ tb1065 tb1066 7 rfl rfl rfl rfl [16] [0, 1, 2, 3, 4, 5, 6, 7, 8, 9, 10, 11, 12, 13, 14, 15] rfl (by decide +kernel) rfl rfl rfl (fun _ => rfl) (Nat.le_of_ble_eq_true rfl) ⟨Nat.le_of_ble_eq_true rfl, Nat.le_of_ble_eq_true rfl⟩ dL_law_846 (fun u7 H locs _ X => ?_)
  have X : Hx D zA zs H locs (bflat (lawB tk a u h G u6.1 u6.2 T td te I0 di ei J0 dj ej ch am K wt n t D0 dd de sn pl lo le kb rf kn kl kc (u3 (u3 Mt 6 u7.1) 7 u7.2) hi la ce)) := X
  refine lv_icmp_eq (tgt := 1691) hx hb dL_law_849 rfl (fun _ => ?_) (fun q => absurd (q_crossed hR (xs (i + 1)) (xs (i + 2)) u6 u7) q)
  exact hG G u6.1 u6.2 T td te I0 di ei J0 dj ej ch am K wt n t D0 dd de sn pl lo le kb rf kn kl kc (u3 (u3 Mt 6 u7.1) 7 u7.2) hi la ce (r_crossed hR (xs (i + 1)) (xs (i + 2)) u6 u7) H locs ls X hl
set_option maxHeartbeats 4000000 in
set_option maxRecDepth 100000 in
theorem lw_least {zp : Program} {l : Launch} {ze : Env} {zs : State} {zm : MethodId} {zb : List Frame} {zt : Method} {zc : Code} {D : va_G} {zA : Nat → Prop} {tk : Nat → ClassId} {sK sV : Nat → Nat} {zQ : State → Prop} {b L : Nat} {xs : Nat → Int32} {a : Nat} {u : Nat → Nat → Nat} {h : Nat → Nat} {i : Nat} (hC : LC0 zp zs zm zc D zA tk sK sV b L xs) (hi : i + 6 ≤ L) (hG : LG zp l ze zs zm zb zt zc D zA tk zQ b a u h i) {G : Nat → Nat → Nat} {d : Nat → Nat} {e : Nat → Nat} {T : Nat → Nat → Nat} {td : Nat → Nat} {te : Nat → Nat} {I0 : Nat → Nat → Nat} {di : Nat → Nat} {ei : Nat → Nat} {J0 : Nat → Nat → Nat} {dj : Nat → Nat} {ej : Nat → Nat} {ch : Int32} {am : Int32} {K : Nat → Nat → Nat} {wt : Bool} {n : Nat} {t : Nat → Nat} {D0 : Nat → Nat → Nat} {dd : Nat → Nat} {de : Nat → Nat} {sn : Nat} {pl : Nat → Nat} {lo : Nat → Nat} {le : Nat → Nat} {kb : Nat} {rf : Nat} {kn : Nat → Nat} {kl : Nat → Int32} {kc : Nat → Nat → Int32} {Mt : Nat → Nat → Nat} {hi : Int32} {la : Nat → Int32} {ce : Nat → Int32} (hR : Rel G I0 J0 kb n t sn pl lo K rf kn kl kc Mt la ce) {H : Heap} {locs : List Loc} {ls : Array Slot} (X : Hx D zA zs H locs (bflat (lawB tk a u h G d e T td te I0 di ei J0 dj ej ch am K wt n t D0 dd de sn pl lo le kb rf kn kl kc Mt hi la ce))) (hl : lv_has ls 4 [(3, .int (nI i)), (2, .ref (h 0)), (1, .ref a), (0, .ref b)]) : W zp l ze room_1 zs zm #[Value.ref b] zb zt zc H locs 83 1802 zQ (F0 zm 854 ls []) := by
  obtain ⟨C0, S0, hX, hbl, hbA, hL⟩ := id hC
  have hx := C0.1
  have hb := C0.2.1
  obtain ⟨f1, f2, f3, f4, f5, f6, f7, f8, f9, f10, f11, f12, f13, f14, f15, f16, f17, f18, f19, f20, f21, f22⟩ := rel_facts hR
  refine lv_aload_n hx hb dL_law_854 rfl (lv_at hl 2 rfl) ?_
  refine lv_aload_n hx hb dL_law_855 rfl (lv_at hl 3 rfl) ?_
  refine lv_iload_n hx hb dL_law_856 rfl (lv_at hl 0 rfl) ?_
  refine g_iconst (n := 1) C0 rfl dL_law_857 ?_
  refine g_iadd (n := i + 1) C0 rfl dL_law_858 ?_
  refine g_sld (i := i + 1) C0 X hX hbl hbA (by omega) hL dL_law_859 ?_
  refine lv_aload_n hx hb dL_law_860 rfl (lv_at hl 3 rfl) ?_
  refine lv_iload_n hx hb dL_law_861 rfl (lv_at hl 0 rfl) ?_
  refine g_iconst (n := 2) C0 rfl dL_law_862 ?_
  refine g_iadd (n := i + 2) C0 rfl dL_law_863 ?_
  refine g_sld (i := i + 2) C0 X hX hbl hbA (by omega) hL dL_law_864 ?_
  refine b_callV (nb := 17) (As := [.int (xs (i + 1)), .int (xs (i + 2))]) (rest := []) (cs := [lW a (u 0) (u 1) (u 8 0) (u 8 1) (u 8 2) (u 5) (u 8 3) kb rf, gW tk (u 0) G d e]) (rs := [gW tk (u 1) T td te, gW tk (u 3) I0 di ei, gW tk (u 4) J0 dj ej, imW tk (u 8 0) (u 3 0) (u 4 0), bW (u 8 1) ch am, rV (u 8 2) (u 8 4) (u 2) K wt, tW tk (u 8 4) (u 8 5) n t, gW tk (u 2) D0 dd de, sW tk (u 5) sn pl lo le, hsW tk (u 8 3) (u 6 0) (u 6 1) (u 6 2) (u 6 3), shW tk (u 6 0) (u 7 0) (kn 0) (kl 0) (kc 0), shW tk (u 6 1) (u 7 1) (kn 1) (kl 1) (kc 1), shW tk (u 6 2) (u 7 2) (kn 2) (kl 2) (kc 2), shW tk (u 6 3) (u 7 3) (kn 3) (kl 3) (kc 3), mW tk h Mt hi la ce]) (fun u6 => [lW a (u 0) (u 1) (u 8 0) (u 8 1) (u 8 2) (u 5) (u 8 3) kb rf, gW tk (u 0) G u6.1 u6.2]) (C0.sz hl) X (c_X6_least l D tk a (u 0) (u 1) (u 8 0) (u 8 1) (u 8 2) (u 5) (u 8 3) kb rf G d e (xs (i + 1)) (xs (i + 2)) (by assumption)) ⟨tb557, tb560, tb1, ⟨by decide, by decide, rfl⟩, rfl, rfl, Nat.le_of_ble_eq_true rfl, Nat.le_of_ble_eq_true rfl⟩ tb558 tb559 6 rfl rfl rfl rfl [0, 1] [2, 3, 4, 5, 6, 7, 8, 9, 10, 11, 12, 13, 14, 15, 16] rfl (by decide +kernel) rfl rfl rfl (fun _ => rfl) (Nat.le_of_ble_eq_true rfl) ⟨Nat.le_of_ble_eq_true rfl, Nat.le_of_ble_eq_true rfl⟩ dL_law_865 (fun u6 H locs _ X => ?_)
  have X : Hx D zA zs H locs (bflat (lawB tk a u h G u6.1 u6.2 T td te I0 di ei J0 dj ej ch am K wt n t D0 dd de sn pl lo le kb rf kn kl kc Mt hi la ce)) := X.blk (nb := 17) [15, 16, 0, 1, 2, 3, 4, 5, 6, 7, 8, 9, 10, 11, 12, 13, 14] rfl (by decide +kernel) rfl
  refine lv_aload_n hx hb dL_law_868 rfl (lv_at hl 1 rfl) ?_
  refine lv_aload_n hx hb dL_law_869 rfl (lv_at hl 3 rfl) ?_
  refine lv_iload_n hx hb dL_law_870 rfl (lv_at hl 0 rfl) ?_
  refine g_iconst (n := 1) C0 rfl dL_law_871 ?_
  refine g_iadd (n := i + 1) C0 rfl dL_law_872 ?_
  refine g_sld (i := i + 1) C0 X hX hbl hbA (by omega) hL dL_law_873 ?_
  refine lv_aload_n hx hb dL_law_874 rfl (lv_at hl 3 rfl) ?_
  refine lv_iload_n hx hb dL_law_875 rfl (lv_at hl 0 rfl) ?_
  refine g_iconst (n := 2) C0 rfl dL_law_876 ?_
  refine g_iadd (n := i + 2) C0 rfl dL_law_877 ?_
  refine g_sld (i := i + 2) C0 X hX hbl hbA (by omega) hL dL_law_878 ?_
  refine b_callV (nb := 17) (As := [.int (xs (i + 1)), .int (xs (i + 2))]) (rest := [.int (a_least (cgv G) (xs (i + 1)) (xs (i + 2)))]) (cs := [mW tk h Mt hi la ce]) (rs := [lW a (u 0) (u 1) (u 8 0) (u 8 1) (u 8 2) (u 5) (u 8 3) kb rf, gW tk (u 0) G u6.1 u6.2, gW tk (u 1) T td te, gW tk (u 3) I0 di ei, gW tk (u 4) J0 dj ej, imW tk (u 8 0) (u 3 0) (u 4 0), bW (u 8 1) ch am, rV (u 8 2) (u 8 4) (u 2) K wt, tW tk (u 8 4) (u 8 5) n t, gW tk (u 2) D0 dd de, sW tk (u 5) sn pl lo le, hsW tk (u 8 3) (u 6 0) (u 6 1) (u 6 2) (u 6 3), shW tk (u 6 0) (u 7 0) (kn 0) (kl 0) (kc 0), shW tk (u 6 1) (u 7 1) (kn 1) (kl 1) (kc 1), shW tk (u 6 2) (u 7 2) (kn 2) (kl 2) (kc 2), shW tk (u 6 3) (u 7 3) (kn 3) (kl 3) (kc 3)]) (fun u7 => [mW tk h (u3 Mt 6 u7) hi la ce]) (C0.sz hl) X (c_X7_least l D tk h Mt hi la ce (xs (i + 1)) (xs (i + 2)) (by assumption)) ⟨tb1068, tb1071, tb8, ⟨by decide, by decide, rfl⟩, rfl, rfl, Nat.le_of_ble_eq_true rfl, Nat.le_of_ble_eq_true rfl⟩ tb1069 tb1070 7 rfl rfl rfl rfl [16] [0, 1, 2, 3, 4, 5, 6, 7, 8, 9, 10, 11, 12, 13, 14, 15] rfl (by decide +kernel) rfl rfl rfl (fun _ => rfl) (Nat.le_of_ble_eq_true rfl) ⟨Nat.le_of_ble_eq_true rfl, Nat.le_of_ble_eq_true rfl⟩ dL_law_879 (fun u7 H locs _ X => ?_)
  have X : Hx D zA zs H locs (bflat (lawB tk a u h G u6.1 u6.2 T td te I0 di ei J0 dj ej ch am K wt n t D0 dd de sn pl lo le kb rf kn kl kc (u3 Mt 6 u7) hi la ce)) := X
  refine lv_icmp_eq (tgt := 1691) hx hb dL_law_882 rfl (fun _ => ?_) (fun q => absurd (q_least hR (xs (i + 1)) (xs (i + 2)) u6 u7) q)
  exact hG G u6.1 u6.2 T td te I0 di ei J0 dj ej ch am K wt n t D0 dd de sn pl lo le kb rf kn kl kc (u3 Mt 6 u7) hi la ce (r_least hR (xs (i + 1)) (xs (i + 2)) u6 u7) H locs ls X hl
set_option maxHeartbeats 4000000 in
set_option maxRecDepth 100000 in
theorem lw_just {zp : Program} {l : Launch} {ze : Env} {zs : State} {zm : MethodId} {zb : List Frame} {zt : Method} {zc : Code} {D : va_G} {zA : Nat → Prop} {tk : Nat → ClassId} {sK sV : Nat → Nat} {zQ : State → Prop} {b L : Nat} {xs : Nat → Int32} {a : Nat} {u : Nat → Nat → Nat} {h : Nat → Nat} {i : Nat} (hC : LC0 zp zs zm zc D zA tk sK sV b L xs) (hi : i + 6 ≤ L) (hG : LG zp l ze zs zm zb zt zc D zA tk zQ b a u h i) {G : Nat → Nat → Nat} {d : Nat → Nat} {e : Nat → Nat} {T : Nat → Nat → Nat} {td : Nat → Nat} {te : Nat → Nat} {I0 : Nat → Nat → Nat} {di : Nat → Nat} {ei : Nat → Nat} {J0 : Nat → Nat → Nat} {dj : Nat → Nat} {ej : Nat → Nat} {ch : Int32} {am : Int32} {K : Nat → Nat → Nat} {wt : Bool} {n : Nat} {t : Nat → Nat} {D0 : Nat → Nat → Nat} {dd : Nat → Nat} {de : Nat → Nat} {sn : Nat} {pl : Nat → Nat} {lo : Nat → Nat} {le : Nat → Nat} {kb : Nat} {rf : Nat} {kn : Nat → Nat} {kl : Nat → Int32} {kc : Nat → Nat → Int32} {Mt : Nat → Nat → Nat} {hi : Int32} {la : Nat → Int32} {ce : Nat → Int32} (hR : Rel G I0 J0 kb n t sn pl lo K rf kn kl kc Mt la ce) {H : Heap} {locs : List Loc} {ls : Array Slot} (X : Hx D zA zs H locs (bflat (lawB tk a u h G d e T td te I0 di ei J0 dj ej ch am K wt n t D0 dd de sn pl lo le kb rf kn kl kc Mt hi la ce))) (hl : lv_has ls 4 [(3, .int (nI i)), (2, .ref (h 0)), (1, .ref a), (0, .ref b)]) : W zp l ze room_1 zs zm #[Value.ref b] zb zt zc H locs 83 1802 zQ (F0 zm 887 ls []) := by
  obtain ⟨C0, S0, hX, hbl, hbA, hL⟩ := id hC
  have hx := C0.1
  have hb := C0.2.1
  obtain ⟨f1, f2, f3, f4, f5, f6, f7, f8, f9, f10, f11, f12, f13, f14, f15, f16, f17, f18, f19, f20, f21, f22⟩ := rel_facts hR
  refine lv_aload_n hx hb dL_law_887 rfl (lv_at hl 2 rfl) ?_
  refine lv_aload_n hx hb dL_law_888 rfl (lv_at hl 3 rfl) ?_
  refine lv_iload_n hx hb dL_law_889 rfl (lv_at hl 0 rfl) ?_
  refine g_iconst (n := 1) C0 rfl dL_law_890 ?_
  refine g_iadd (n := i + 1) C0 rfl dL_law_891 ?_
  refine g_sld (i := i + 1) C0 X hX hbl hbA (by omega) hL dL_law_892 ?_
  refine lv_aload_n hx hb dL_law_893 rfl (lv_at hl 3 rfl) ?_
  refine lv_iload_n hx hb dL_law_894 rfl (lv_at hl 0 rfl) ?_
  refine g_iconst (n := 2) C0 rfl dL_law_895 ?_
  refine g_iadd (n := i + 2) C0 rfl dL_law_896 ?_
  refine g_sld (i := i + 2) C0 X hX hbl hbA (by omega) hL dL_law_897 ?_
  refine b_callV (nb := 17) (As := [.int (xs (i + 1)), .int (xs (i + 2))]) (rest := []) (cs := [lW a (u 0) (u 1) (u 8 0) (u 8 1) (u 8 2) (u 5) (u 8 3) kb rf, gW tk (u 0) G d e]) (rs := [gW tk (u 1) T td te, gW tk (u 3) I0 di ei, gW tk (u 4) J0 dj ej, imW tk (u 8 0) (u 3 0) (u 4 0), bW (u 8 1) ch am, rV (u 8 2) (u 8 4) (u 2) K wt, tW tk (u 8 4) (u 8 5) n t, gW tk (u 2) D0 dd de, sW tk (u 5) sn pl lo le, hsW tk (u 8 3) (u 6 0) (u 6 1) (u 6 2) (u 6 3), shW tk (u 6 0) (u 7 0) (kn 0) (kl 0) (kc 0), shW tk (u 6 1) (u 7 1) (kn 1) (kl 1) (kc 1), shW tk (u 6 2) (u 7 2) (kn 2) (kl 2) (kc 2), shW tk (u 6 3) (u 7 3) (kn 3) (kl 3) (kc 3), mW tk h Mt hi la ce]) (fun u6 => [lW a (u 0) (u 1) (u 8 0) (u 8 1) (u 8 2) (u 5) (u 8 3) kb rf, gW tk (u 0) G u6.1 u6.2]) (C0.sz hl) X (c_X6_just l D tk a (u 0) (u 1) (u 8 0) (u 8 1) (u 8 2) (u 5) (u 8 3) kb rf G d e (xs (i + 1)) (xs (i + 2)) (by assumption)) ⟨tb573, tb576, tb1, ⟨by decide, by decide, rfl⟩, rfl, rfl, Nat.le_of_ble_eq_true rfl, Nat.le_of_ble_eq_true rfl⟩ tb574 tb575 6 rfl rfl rfl rfl [0, 1] [2, 3, 4, 5, 6, 7, 8, 9, 10, 11, 12, 13, 14, 15, 16] rfl (by decide +kernel) rfl rfl rfl (fun _ => rfl) (Nat.le_of_ble_eq_true rfl) ⟨Nat.le_of_ble_eq_true rfl, Nat.le_of_ble_eq_true rfl⟩ dL_law_898 (fun u6 H locs _ X => ?_)
  have X : Hx D zA zs H locs (bflat (lawB tk a u h G u6.1 u6.2 T td te I0 di ei J0 dj ej ch am K wt n t D0 dd de sn pl lo le kb rf kn kl kc Mt hi la ce)) := X.blk (nb := 17) [15, 16, 0, 1, 2, 3, 4, 5, 6, 7, 8, 9, 10, 11, 12, 13, 14] rfl (by decide +kernel) rfl
  refine lv_aload_n hx hb dL_law_901 rfl (lv_at hl 1 rfl) ?_
  refine lv_aload_n hx hb dL_law_902 rfl (lv_at hl 3 rfl) ?_
  refine lv_iload_n hx hb dL_law_903 rfl (lv_at hl 0 rfl) ?_
  refine g_iconst (n := 1) C0 rfl dL_law_904 ?_
  refine g_iadd (n := i + 1) C0 rfl dL_law_905 ?_
  refine g_sld (i := i + 1) C0 X hX hbl hbA (by omega) hL dL_law_906 ?_
  refine lv_aload_n hx hb dL_law_907 rfl (lv_at hl 3 rfl) ?_
  refine lv_iload_n hx hb dL_law_908 rfl (lv_at hl 0 rfl) ?_
  refine g_iconst (n := 2) C0 rfl dL_law_909 ?_
  refine g_iadd (n := i + 2) C0 rfl dL_law_910 ?_
  refine g_sld (i := i + 2) C0 X hX hbl hbA (by omega) hL dL_law_911 ?_
  refine b_callV (nb := 17) (As := [.int (xs (i + 1)), .int (xs (i + 2))]) (rest := [.int (a_just (cgv G) (xs (i + 1)) (xs (i + 2)))]) (cs := [mW tk h Mt hi la ce]) (rs := [lW a (u 0) (u 1) (u 8 0) (u 8 1) (u 8 2) (u 5) (u 8 3) kb rf, gW tk (u 0) G u6.1 u6.2, gW tk (u 1) T td te, gW tk (u 3) I0 di ei, gW tk (u 4) J0 dj ej, imW tk (u 8 0) (u 3 0) (u 4 0), bW (u 8 1) ch am, rV (u 8 2) (u 8 4) (u 2) K wt, tW tk (u 8 4) (u 8 5) n t, gW tk (u 2) D0 dd de, sW tk (u 5) sn pl lo le, hsW tk (u 8 3) (u 6 0) (u 6 1) (u 6 2) (u 6 3), shW tk (u 6 0) (u 7 0) (kn 0) (kl 0) (kc 0), shW tk (u 6 1) (u 7 1) (kn 1) (kl 1) (kc 1), shW tk (u 6 2) (u 7 2) (kn 2) (kl 2) (kc 2), shW tk (u 6 3) (u 7 3) (kn 3) (kl 3) (kc 3)]) (fun u7 => [mW tk h (u3 Mt 6 u7) hi la ce]) (C0.sz hl) X (c_X7_just l D tk h Mt hi la ce (xs (i + 1)) (xs (i + 2)) (by assumption)) ⟨tb1080, tb1083, tb8, ⟨by decide, by decide, rfl⟩, rfl, rfl, Nat.le_of_ble_eq_true rfl, Nat.le_of_ble_eq_true rfl⟩ tb1081 tb1082 7 rfl rfl rfl rfl [16] [0, 1, 2, 3, 4, 5, 6, 7, 8, 9, 10, 11, 12, 13, 14, 15] rfl (by decide +kernel) rfl rfl rfl (fun _ => rfl) (Nat.le_of_ble_eq_true rfl) ⟨Nat.le_of_ble_eq_true rfl, Nat.le_of_ble_eq_true rfl⟩ dL_law_912 (fun u7 H locs _ X => ?_)
  have X : Hx D zA zs H locs (bflat (lawB tk a u h G u6.1 u6.2 T td te I0 di ei J0 dj ej ch am K wt n t D0 dd de sn pl lo le kb rf kn kl kc (u3 Mt 6 u7) hi la ce)) := X
  refine lv_icmp_eq (tgt := 1691) hx hb dL_law_915 rfl (fun _ => ?_) (fun q => absurd (q_just hR (xs (i + 1)) (xs (i + 2)) u6 u7) q)
  exact hG G u6.1 u6.2 T td te I0 di ei J0 dj ej ch am K wt n t D0 dd de sn pl lo le kb rf kn kl kc (u3 Mt 6 u7) hi la ce (r_just hR (xs (i + 1)) (xs (i + 2)) u6 u7) H locs ls X hl
set_option maxHeartbeats 4000000 in
set_option maxRecDepth 100000 in
theorem lw_from {zp : Program} {l : Launch} {ze : Env} {zs : State} {zm : MethodId} {zb : List Frame} {zt : Method} {zc : Code} {D : va_G} {zA : Nat → Prop} {tk : Nat → ClassId} {sK sV : Nat → Nat} {zQ : State → Prop} {b L : Nat} {xs : Nat → Int32} {a : Nat} {u : Nat → Nat → Nat} {h : Nat → Nat} {i : Nat} (hC : LC0 zp zs zm zc D zA tk sK sV b L xs) (hi : i + 6 ≤ L) (hG : LG zp l ze zs zm zb zt zc D zA tk zQ b a u h i) {G : Nat → Nat → Nat} {d : Nat → Nat} {e : Nat → Nat} {T : Nat → Nat → Nat} {td : Nat → Nat} {te : Nat → Nat} {I0 : Nat → Nat → Nat} {di : Nat → Nat} {ei : Nat → Nat} {J0 : Nat → Nat → Nat} {dj : Nat → Nat} {ej : Nat → Nat} {ch : Int32} {am : Int32} {K : Nat → Nat → Nat} {wt : Bool} {n : Nat} {t : Nat → Nat} {D0 : Nat → Nat → Nat} {dd : Nat → Nat} {de : Nat → Nat} {sn : Nat} {pl : Nat → Nat} {lo : Nat → Nat} {le : Nat → Nat} {kb : Nat} {rf : Nat} {kn : Nat → Nat} {kl : Nat → Int32} {kc : Nat → Nat → Int32} {Mt : Nat → Nat → Nat} {hi : Int32} {la : Nat → Int32} {ce : Nat → Int32} (hR : Rel G I0 J0 kb n t sn pl lo K rf kn kl kc Mt la ce) {H : Heap} {locs : List Loc} {ls : Array Slot} (X : Hx D zA zs H locs (bflat (lawB tk a u h G d e T td te I0 di ei J0 dj ej ch am K wt n t D0 dd de sn pl lo le kb rf kn kl kc Mt hi la ce))) (hl : lv_has ls 4 [(3, .int (nI i)), (2, .ref (h 0)), (1, .ref a), (0, .ref b)]) : W zp l ze room_1 zs zm #[Value.ref b] zb zt zc H locs 83 1802 zQ (F0 zm 920 ls []) := by
  obtain ⟨C0, S0, hX, hbl, hbA, hL⟩ := id hC
  have hx := C0.1
  have hb := C0.2.1
  obtain ⟨f1, f2, f3, f4, f5, f6, f7, f8, f9, f10, f11, f12, f13, f14, f15, f16, f17, f18, f19, f20, f21, f22⟩ := rel_facts hR
  refine lv_aload_n hx hb dL_law_920 rfl (lv_at hl 2 rfl) ?_
  refine lv_aload_n hx hb dL_law_921 rfl (lv_at hl 3 rfl) ?_
  refine lv_iload_n hx hb dL_law_922 rfl (lv_at hl 0 rfl) ?_
  refine g_iconst (n := 1) C0 rfl dL_law_923 ?_
  refine g_iadd (n := i + 1) C0 rfl dL_law_924 ?_
  refine g_sld (i := i + 1) C0 X hX hbl hbA (by omega) hL dL_law_925 ?_
  refine lv_aload_n hx hb dL_law_926 rfl (lv_at hl 3 rfl) ?_
  refine lv_iload_n hx hb dL_law_927 rfl (lv_at hl 0 rfl) ?_
  refine g_iconst (n := 2) C0 rfl dL_law_928 ?_
  refine g_iadd (n := i + 2) C0 rfl dL_law_929 ?_
  refine g_sld (i := i + 2) C0 X hX hbl hbA (by omega) hL dL_law_930 ?_
  refine b_callV (nb := 17) (As := [.int (xs (i + 1)), .int (xs (i + 2))]) (rest := []) (cs := [lW a (u 0) (u 1) (u 8 0) (u 8 1) (u 8 2) (u 5) (u 8 3) kb rf, gW tk (u 0) G d e, bW (u 8 1) ch am]) (rs := [gW tk (u 1) T td te, gW tk (u 3) I0 di ei, gW tk (u 4) J0 dj ej, imW tk (u 8 0) (u 3 0) (u 4 0), rV (u 8 2) (u 8 4) (u 2) K wt, tW tk (u 8 4) (u 8 5) n t, gW tk (u 2) D0 dd de, sW tk (u 5) sn pl lo le, hsW tk (u 8 3) (u 6 0) (u 6 1) (u 6 2) (u 6 3), shW tk (u 6 0) (u 7 0) (kn 0) (kl 0) (kc 0), shW tk (u 6 1) (u 7 1) (kn 1) (kl 1) (kc 1), shW tk (u 6 2) (u 7 2) (kn 2) (kl 2) (kc 2), shW tk (u 6 3) (u 7 3) (kn 3) (kl 3) (kc 3), mW tk h Mt hi la ce]) (fun u6 => [lW a (u 0) (u 1) (u 8 0) (u 8 1) (u 8 2) (u 5) (u 8 3) kb rf, gW tk (u 0) G u6.1 u6.2.1, bW (u 8 1) u6.2.2.1 u6.2.2.2]) (C0.sz hl) X (c_X6_from l D tk a (u 0) (u 1) (u 8 0) (u 8 1) (u 8 2) (u 5) (u 8 3) kb rf G d e ch am (xs (i + 1)) (xs (i + 2)) (by assumption)) ⟨tb578, tb581, tb1, ⟨by decide, by decide, rfl⟩, rfl, rfl, Nat.le_of_ble_eq_true rfl, Nat.le_of_ble_eq_true rfl⟩ tb579 tb580 6 rfl rfl rfl rfl [0, 1, 6] [2, 3, 4, 5, 7, 8, 9, 10, 11, 12, 13, 14, 15, 16] rfl (by decide +kernel) rfl rfl rfl (fun _ => rfl) (Nat.le_of_ble_eq_true rfl) ⟨Nat.le_of_ble_eq_true rfl, Nat.le_of_ble_eq_true rfl⟩ dL_law_931 (fun u6 H locs _ X => ?_)
  have X : Hx D zA zs H locs (bflat (lawB tk a u h G u6.1 u6.2.1 T td te I0 di ei J0 dj ej u6.2.2.1 u6.2.2.2 K wt n t D0 dd de sn pl lo le kb rf kn kl kc Mt hi la ce)) := X.blk (nb := 17) [14, 15, 0, 1, 2, 3, 16, 4, 5, 6, 7, 8, 9, 10, 11, 12, 13] rfl (by decide +kernel) rfl
  refine lv_aload_n hx hb dL_law_934 rfl (lv_at hl 1 rfl) ?_
  refine lv_aload_n hx hb dL_law_935 rfl (lv_at hl 3 rfl) ?_
  refine lv_iload_n hx hb dL_law_936 rfl (lv_at hl 0 rfl) ?_
  refine g_iconst (n := 1) C0 rfl dL_law_937 ?_
  refine g_iadd (n := i + 1) C0 rfl dL_law_938 ?_
  refine g_sld (i := i + 1) C0 X hX hbl hbA (by omega) hL dL_law_939 ?_
  refine lv_aload_n hx hb dL_law_940 rfl (lv_at hl 3 rfl) ?_
  refine lv_iload_n hx hb dL_law_941 rfl (lv_at hl 0 rfl) ?_
  refine g_iconst (n := 2) C0 rfl dL_law_942 ?_
  refine g_iadd (n := i + 2) C0 rfl dL_law_943 ?_
  refine g_sld (i := i + 2) C0 X hX hbl hbA (by omega) hL dL_law_944 ?_
  refine b_callV (nb := 17) (As := [.int (xs (i + 1)), .int (xs (i + 2))]) (rest := [.int (a_from 1000 (cgv G) (xs (i + 1)) (xs (i + 2)))]) (cs := [mW tk h Mt hi la ce]) (rs := [lW a (u 0) (u 1) (u 8 0) (u 8 1) (u 8 2) (u 5) (u 8 3) kb rf, gW tk (u 0) G u6.1 u6.2.1, gW tk (u 1) T td te, gW tk (u 3) I0 di ei, gW tk (u 4) J0 dj ej, imW tk (u 8 0) (u 3 0) (u 4 0), bW (u 8 1) u6.2.2.1 u6.2.2.2, rV (u 8 2) (u 8 4) (u 2) K wt, tW tk (u 8 4) (u 8 5) n t, gW tk (u 2) D0 dd de, sW tk (u 5) sn pl lo le, hsW tk (u 8 3) (u 6 0) (u 6 1) (u 6 2) (u 6 3), shW tk (u 6 0) (u 7 0) (kn 0) (kl 0) (kc 0), shW tk (u 6 1) (u 7 1) (kn 1) (kl 1) (kc 1), shW tk (u 6 2) (u 7 2) (kn 2) (kl 2) (kc 2), shW tk (u 6 3) (u 7 3) (kn 3) (kl 3) (kc 3)]) (fun u7 => [mW tk h (u3 Mt 6 u7) hi la ce]) (C0.sz hl) X (c_X7_from l D tk h Mt hi la ce (xs (i + 1)) (xs (i + 2)) (by assumption)) ⟨tb1084, tb1087, tb8, ⟨by decide, by decide, rfl⟩, rfl, rfl, Nat.le_of_ble_eq_true rfl, Nat.le_of_ble_eq_true rfl⟩ tb1085 tb1086 7 rfl rfl rfl rfl [16] [0, 1, 2, 3, 4, 5, 6, 7, 8, 9, 10, 11, 12, 13, 14, 15] rfl (by decide +kernel) rfl rfl rfl (fun _ => rfl) (Nat.le_of_ble_eq_true rfl) ⟨Nat.le_of_ble_eq_true rfl, Nat.le_of_ble_eq_true rfl⟩ dL_law_945 (fun u7 H locs _ X => ?_)
  have X : Hx D zA zs H locs (bflat (lawB tk a u h G u6.1 u6.2.1 T td te I0 di ei J0 dj ej u6.2.2.1 u6.2.2.2 K wt n t D0 dd de sn pl lo le kb rf kn kl kc (u3 Mt 6 u7) hi la ce)) := X
  refine lv_icmp_eq (tgt := 1691) hx hb dL_law_948 rfl (fun _ => ?_) (fun q => absurd (q_from hR (xs (i + 1)) (xs (i + 2)) u6 u7) q)
  exact hG G u6.1 u6.2.1 T td te I0 di ei J0 dj ej u6.2.2.1 u6.2.2.2 K wt n t D0 dd de sn pl lo le kb rf kn kl kc (u3 Mt 6 u7) hi la ce (r_from hR (xs (i + 1)) (xs (i + 2)) u6 u7) H locs ls X hl
set_option maxHeartbeats 4000000 in
set_option maxRecDepth 100000 in
theorem lw_hush {zp : Program} {l : Launch} {ze : Env} {zs : State} {zm : MethodId} {zb : List Frame} {zt : Method} {zc : Code} {D : va_G} {zA : Nat → Prop} {tk : Nat → ClassId} {sK sV : Nat → Nat} {zQ : State → Prop} {b L : Nat} {xs : Nat → Int32} {a : Nat} {u : Nat → Nat → Nat} {h : Nat → Nat} {i : Nat} (hC : LC0 zp zs zm zc D zA tk sK sV b L xs) (hi : i + 6 ≤ L) (hG : LG zp l ze zs zm zb zt zc D zA tk zQ b a u h i) {G : Nat → Nat → Nat} {d : Nat → Nat} {e : Nat → Nat} {T : Nat → Nat → Nat} {td : Nat → Nat} {te : Nat → Nat} {I0 : Nat → Nat → Nat} {di : Nat → Nat} {ei : Nat → Nat} {J0 : Nat → Nat → Nat} {dj : Nat → Nat} {ej : Nat → Nat} {ch : Int32} {am : Int32} {K : Nat → Nat → Nat} {wt : Bool} {n : Nat} {t : Nat → Nat} {D0 : Nat → Nat → Nat} {dd : Nat → Nat} {de : Nat → Nat} {sn : Nat} {pl : Nat → Nat} {lo : Nat → Nat} {le : Nat → Nat} {kb : Nat} {rf : Nat} {kn : Nat → Nat} {kl : Nat → Int32} {kc : Nat → Nat → Int32} {Mt : Nat → Nat → Nat} {hi : Int32} {la : Nat → Int32} {ce : Nat → Int32} (hR : Rel G I0 J0 kb n t sn pl lo K rf kn kl kc Mt la ce) {H : Heap} {locs : List Loc} {ls : Array Slot} (X : Hx D zA zs H locs (bflat (lawB tk a u h G d e T td te I0 di ei J0 dj ej ch am K wt n t D0 dd de sn pl lo le kb rf kn kl kc Mt hi la ce))) (hl : lv_has ls 4 [(3, .int (nI i)), (2, .ref (h 0)), (1, .ref a), (0, .ref b)]) : W zp l ze room_1 zs zm #[Value.ref b] zb zt zc H locs 83 1802 zQ (F0 zm 953 ls []) := by
  obtain ⟨C0, S0, hX, hbl, hbA, hL⟩ := id hC
  have hx := C0.1
  have hb := C0.2.1
  obtain ⟨f1, f2, f3, f4, f5, f6, f7, f8, f9, f10, f11, f12, f13, f14, f15, f16, f17, f18, f19, f20, f21, f22⟩ := rel_facts hR
  refine lv_aload_n hx hb dL_law_953 rfl (lv_at hl 2 rfl) ?_
  refine lv_aload_n hx hb dL_law_954 rfl (lv_at hl 3 rfl) ?_
  refine lv_iload_n hx hb dL_law_955 rfl (lv_at hl 0 rfl) ?_
  refine g_iconst (n := 1) C0 rfl dL_law_956 ?_
  refine g_iadd (n := i + 1) C0 rfl dL_law_957 ?_
  refine g_sld (i := i + 1) C0 X hX hbl hbA (by omega) hL dL_law_958 ?_
  refine lv_aload_n hx hb dL_law_959 rfl (lv_at hl 3 rfl) ?_
  refine lv_iload_n hx hb dL_law_960 rfl (lv_at hl 0 rfl) ?_
  refine g_iconst (n := 2) C0 rfl dL_law_961 ?_
  refine g_iadd (n := i + 2) C0 rfl dL_law_962 ?_
  refine g_sld (i := i + 2) C0 X hX hbl hbA (by omega) hL dL_law_963 ?_
  refine lv_aload_n hx hb dL_law_964 rfl (lv_at hl 3 rfl) ?_
  refine lv_iload_n hx hb dL_law_965 rfl (lv_at hl 0 rfl) ?_
  refine g_iconst (n := 3) C0 rfl dL_law_966 ?_
  refine g_iadd (n := i + 3) C0 rfl dL_law_967 ?_
  refine g_sld (i := i + 3) C0 X hX hbl hbA (by omega) hL dL_law_968 ?_
  refine lv_aload_n hx hb dL_law_969 rfl (lv_at hl 3 rfl) ?_
  refine lv_iload_n hx hb dL_law_970 rfl (lv_at hl 0 rfl) ?_
  refine g_iconst (n := 4) C0 rfl dL_law_971 ?_
  refine g_iadd (n := i + 4) C0 rfl dL_law_972 ?_
  refine g_sld (i := i + 4) C0 X hX hbl hbA (by omega) hL dL_law_973 ?_
  refine b_callV (nb := 17) (As := [.int (xs (i + 1)), .int (xs (i + 2)), .int (xs (i + 3)), .int (xs (i + 4))]) (rest := []) (cs := [lW a (u 0) (u 1) (u 8 0) (u 8 1) (u 8 2) (u 5) (u 8 3) kb rf, gW tk (u 0) G d e, gW tk (u 1) T td te, bW (u 8 1) ch am]) (rs := [gW tk (u 3) I0 di ei, gW tk (u 4) J0 dj ej, imW tk (u 8 0) (u 3 0) (u 4 0), rV (u 8 2) (u 8 4) (u 2) K wt, tW tk (u 8 4) (u 8 5) n t, gW tk (u 2) D0 dd de, sW tk (u 5) sn pl lo le, hsW tk (u 8 3) (u 6 0) (u 6 1) (u 6 2) (u 6 3), shW tk (u 6 0) (u 7 0) (kn 0) (kl 0) (kc 0), shW tk (u 6 1) (u 7 1) (kn 1) (kl 1) (kc 1), shW tk (u 6 2) (u 7 2) (kn 2) (kl 2) (kc 2), shW tk (u 6 3) (u 7 3) (kn 3) (kl 3) (kc 3), mW tk h Mt hi la ce]) (fun u6 => [lW a (u 0) (u 1) (u 8 0) (u 8 1) (u 8 2) (u 5) (u 8 3) kb rf, gW tk (u 0) G u6.1 u6.2.1, gW tk (u 1) u6.2.2.1 u6.2.2.2.1 u6.2.2.2.2.1, bW (u 8 1) u6.2.2.2.2.2.1 u6.2.2.2.2.2.2]) (C0.sz hl) X (c_X6_hush l D tk a (u 0) (u 1) (u 8 0) (u 8 1) (u 8 2) (u 5) (u 8 3) kb rf G d e T td te ch am (xs (i + 1)) (xs (i + 2)) (xs (i + 3)) (xs (i + 4)) (by assumption)) ⟨tb601, tb604, tb1, ⟨by decide, by decide, rfl⟩, rfl, rfl, Nat.le_of_ble_eq_true rfl, Nat.le_of_ble_eq_true rfl⟩ tb602 tb603 6 rfl rfl rfl rfl [0, 1, 2, 6] [3, 4, 5, 7, 8, 9, 10, 11, 12, 13, 14, 15, 16] rfl (by decide +kernel) rfl rfl rfl (fun _ => rfl) (Nat.le_of_ble_eq_true rfl) ⟨Nat.le_of_ble_eq_true rfl, Nat.le_of_ble_eq_true rfl⟩ dL_law_974 (fun u6 H locs _ X => ?_)
  have X : Hx D zA zs H locs (bflat (lawB tk a u h G u6.1 u6.2.1 u6.2.2.1 u6.2.2.2.1 u6.2.2.2.2.1 I0 di ei J0 dj ej u6.2.2.2.2.2.1 u6.2.2.2.2.2.2 K wt n t D0 dd de sn pl lo le kb rf kn kl kc Mt hi la ce)) := X.blk (nb := 17) [13, 14, 15, 0, 1, 2, 16, 3, 4, 5, 6, 7, 8, 9, 10, 11, 12] rfl (by decide +kernel) rfl
  refine lv_aload_n hx hb dL_law_977 rfl (lv_at hl 1 rfl) ?_
  refine lv_aload_n hx hb dL_law_978 rfl (lv_at hl 3 rfl) ?_
  refine lv_iload_n hx hb dL_law_979 rfl (lv_at hl 0 rfl) ?_
  refine g_iconst (n := 1) C0 rfl dL_law_980 ?_
  refine g_iadd (n := i + 1) C0 rfl dL_law_981 ?_
  refine g_sld (i := i + 1) C0 X hX hbl hbA (by omega) hL dL_law_982 ?_
  refine lv_aload_n hx hb dL_law_983 rfl (lv_at hl 3 rfl) ?_
  refine lv_iload_n hx hb dL_law_984 rfl (lv_at hl 0 rfl) ?_
  refine g_iconst (n := 2) C0 rfl dL_law_985 ?_
  refine g_iadd (n := i + 2) C0 rfl dL_law_986 ?_
  refine g_sld (i := i + 2) C0 X hX hbl hbA (by omega) hL dL_law_987 ?_
  refine lv_aload_n hx hb dL_law_988 rfl (lv_at hl 3 rfl) ?_
  refine lv_iload_n hx hb dL_law_989 rfl (lv_at hl 0 rfl) ?_
  refine g_iconst (n := 3) C0 rfl dL_law_990 ?_
  refine g_iadd (n := i + 3) C0 rfl dL_law_991 ?_
  refine g_sld (i := i + 3) C0 X hX hbl hbA (by omega) hL dL_law_992 ?_
  refine lv_aload_n hx hb dL_law_993 rfl (lv_at hl 3 rfl) ?_
  refine lv_iload_n hx hb dL_law_994 rfl (lv_at hl 0 rfl) ?_
  refine g_iconst (n := 4) C0 rfl dL_law_995 ?_
  refine g_iadd (n := i + 4) C0 rfl dL_law_996 ?_
  refine g_sld (i := i + 4) C0 X hX hbl hbA (by omega) hL dL_law_997 ?_
  refine b_callV (nb := 17) (As := [.int (xs (i + 1)), .int (xs (i + 2)), .int (xs (i + 3)), .int (xs (i + 4))]) (rest := [.int (a_hush 1000 (cgv G) (xs (i + 1)) (xs (i + 2)) (xs (i + 3)) (xs (i + 4)))]) (cs := [mW tk h Mt hi la ce]) (rs := [lW a (u 0) (u 1) (u 8 0) (u 8 1) (u 8 2) (u 5) (u 8 3) kb rf, gW tk (u 0) G u6.1 u6.2.1, gW tk (u 1) u6.2.2.1 u6.2.2.2.1 u6.2.2.2.2.1, gW tk (u 3) I0 di ei, gW tk (u 4) J0 dj ej, imW tk (u 8 0) (u 3 0) (u 4 0), bW (u 8 1) u6.2.2.2.2.2.1 u6.2.2.2.2.2.2, rV (u 8 2) (u 8 4) (u 2) K wt, tW tk (u 8 4) (u 8 5) n t, gW tk (u 2) D0 dd de, sW tk (u 5) sn pl lo le, hsW tk (u 8 3) (u 6 0) (u 6 1) (u 6 2) (u 6 3), shW tk (u 6 0) (u 7 0) (kn 0) (kl 0) (kc 0), shW tk (u 6 1) (u 7 1) (kn 1) (kl 1) (kc 1), shW tk (u 6 2) (u 7 2) (kn 2) (kl 2) (kc 2), shW tk (u 6 3) (u 7 3) (kn 3) (kl 3) (kc 3)]) (fun u7 => [mW tk h (u3 (u3 Mt 0 u7.1) 6 u7.2) hi la ce]) (C0.sz hl) X (c_X7_hush l D tk h Mt hi la ce (xs (i + 1)) (xs (i + 2)) (xs (i + 3)) (xs (i + 4)) (by assumption)) ⟨tb1088, tb1091, tb8, ⟨by decide, by decide, rfl⟩, rfl, rfl, Nat.le_of_ble_eq_true rfl, Nat.le_of_ble_eq_true rfl⟩ tb1089 tb1090 7 rfl rfl rfl rfl [16] [0, 1, 2, 3, 4, 5, 6, 7, 8, 9, 10, 11, 12, 13, 14, 15] rfl (by decide +kernel) rfl rfl rfl (fun _ => rfl) (Nat.le_of_ble_eq_true rfl) ⟨Nat.le_of_ble_eq_true rfl, Nat.le_of_ble_eq_true rfl⟩ dL_law_998 (fun u7 H locs hp7 X => ?_)
  have X : Hx D zA zs H locs (bflat (lawB tk a u h G u6.1 u6.2.1 u6.2.2.1 u6.2.2.2.1 u6.2.2.2.2.1 I0 di ei J0 dj ej u6.2.2.2.2.2.1 u6.2.2.2.2.2.2 K wt n t D0 dd de sn pl lo le kb rf kn kl kc (u3 (u3 Mt 0 u7.1) 6 u7.2) hi la ce)) := X
  refine lv_icmp_eq (tgt := 1691) hx hb dL_law_1001 rfl (fun _ => ?_) (fun q => absurd (q_hush hR (xs (i + 1)) (xs (i + 2)) (xs (i + 3)) (xs (i + 4)) u6 u7 hp7) q)
  exact hG G u6.1 u6.2.1 u6.2.2.1 u6.2.2.2.1 u6.2.2.2.2.1 I0 di ei J0 dj ej u6.2.2.2.2.2.1 u6.2.2.2.2.2.2 K wt n t D0 dd de sn pl lo le kb rf kn kl kc (u3 (u3 Mt 0 u7.1) 6 u7.2) hi la ce (r_hush hR (xs (i + 1)) (xs (i + 2)) (xs (i + 3)) (xs (i + 4)) u6 u7 hp7) H locs ls X hl
