set_option maxHeartbeats 4000000 in
set_option maxRecDepth 100000 in
theorem lw_join {zp : Program} {l : Launch} {ze : Env} {zs : State} {zm : MethodId} {zb : List Frame} {zt : Method} {zc : Code} {D : va_G} {zA : Nat → Prop} {tk : Nat → ClassId} {sK sV : Nat → Nat} {zQ : State → Prop} {b L : Nat} {xs : Nat → Int32} {a : Nat} {u : Nat → Nat → Nat} {h : Nat → Nat} {i : Nat} (hC : LC0 zp zs zm zc D zA tk sK sV b L xs) (hi : i + 6 ≤ L) (hG : LG zp l ze zs zm zb zt zc D zA tk zQ b a u h i) {G : Nat → Nat → Nat} {d : Nat → Nat} {e : Nat → Nat} {T : Nat → Nat → Nat} {td : Nat → Nat} {te : Nat → Nat} {I0 : Nat → Nat → Nat} {di : Nat → Nat} {ei : Nat → Nat} {J0 : Nat → Nat → Nat} {dj : Nat → Nat} {ej : Nat → Nat} {ch : Int32} {am : Int32} {K : Nat → Nat → Nat} {wt : Bool} {n : Nat} {t : Nat → Nat} {D0 : Nat → Nat → Nat} {dd : Nat → Nat} {de : Nat → Nat} {sn : Nat} {pl : Nat → Nat} {lo : Nat → Nat} {le : Nat → Nat} {kb : Nat} {rf : Nat} {kn : Nat → Nat} {kl : Nat → Int32} {kc : Nat → Nat → Int32} {Mt : Nat → Nat → Nat} {hi : Int32} {la : Nat → Int32} {ce : Nat → Int32} (hR : Rel G I0 J0 kb n t sn pl lo K rf kn kl kc Mt la ce) {H : Heap} {locs : List Loc} {ls : Array Slot} (X : Hx D zA zs H locs (bflat (lawB tk a u h G d e T td te I0 di ei J0 dj ej ch am K wt n t D0 dd de sn pl lo le kb rf kn kl kc Mt hi la ce))) (hl : lv_has ls 4 [(3, .int (nI i)), (2, .ref (h 0)), (1, .ref a), (0, .ref b)]) : W zp l ze room_1 zs zm #[Value.ref b] zb zt zc H locs 83 1802 zQ (F0 zm 1006 ls []) := by
  obtain ⟨C0, S0, hX, hbl, hbA, hL⟩ := id hC
  have hx := C0.1
  have hb := C0.2.1
  obtain ⟨f1, f2, f3, f4, f5, f6, f7, f8, f9, f10, f11, f12, f13, f14, f15, f16, f17, f18, f19, f20, f21, f22⟩ := rel_facts hR
  refine lv_aload_n hx hb dL_law_1006 rfl (lv_at hl 2 rfl) ?_
  refine lv_aload_n hx hb dL_law_1007 rfl (lv_at hl 3 rfl) ?_
  refine lv_iload_n hx hb dL_law_1008 rfl (lv_at hl 0 rfl) ?_
  refine g_iconst (n := 1) C0 rfl dL_law_1009 ?_
  refine g_iadd (n := i + 1) C0 rfl dL_law_1010 ?_
  refine g_sld (i := i + 1) C0 X hX hbl hbA (by omega) hL dL_law_1011 ?_
  refine lv_aload_n hx hb dL_law_1012 rfl (lv_at hl 3 rfl) ?_
  refine lv_iload_n hx hb dL_law_1013 rfl (lv_at hl 0 rfl) ?_
  refine g_iconst (n := 2) C0 rfl dL_law_1014 ?_
  refine g_iadd (n := i + 2) C0 rfl dL_law_1015 ?_
  refine g_sld (i := i + 2) C0 X hX hbl hbA (by omega) hL dL_law_1016 ?_
  refine lv_aload_n hx hb dL_law_1017 rfl (lv_at hl 3 rfl) ?_
  refine lv_iload_n hx hb dL_law_1018 rfl (lv_at hl 0 rfl) ?_
  refine g_iconst (n := 3) C0 rfl dL_law_1019 ?_
  refine g_iadd (n := i + 3) C0 rfl dL_law_1020 ?_
  refine g_sld (i := i + 3) C0 X hX hbl hbA (by omega) hL dL_law_1021 ?_
  refine lv_aload_n hx hb dL_law_1022 rfl (lv_at hl 3 rfl) ?_
  refine lv_iload_n hx hb dL_law_1023 rfl (lv_at hl 0 rfl) ?_
  refine g_iconst (n := 4) C0 rfl dL_law_1024 ?_
  refine g_iadd (n := i + 4) C0 rfl dL_law_1025 ?_
  refine g_sld (i := i + 4) C0 X hX hbl hbA (by omega) hL dL_law_1026 ?_
  refine b_callV (nb := 17) (As := [.int (xs (i + 1)), .int (xs (i + 2)), .int (xs (i + 3)), .int (xs (i + 4))]) (rest := []) (cs := [lW a (u 0) (u 1) (u 8 0) (u 8 1) (u 8 2) (u 5) (u 8 3) kb rf, gW tk (u 0) G d e, gW tk (u 1) T td te, bW (u 8 1) ch am]) (rs := [gW tk (u 3) I0 di ei, gW tk (u 4) J0 dj ej, imW tk (u 8 0) (u 3 0) (u 4 0), rV (u 8 2) (u 8 4) (u 2) K wt, tW tk (u 8 4) (u 8 5) n t, gW tk (u 2) D0 dd de, sW tk (u 5) sn pl lo le, hsW tk (u 8 3) (u 6 0) (u 6 1) (u 6 2) (u 6 3), shW tk (u 6 0) (u 7 0) (kn 0) (kl 0) (kc 0), shW tk (u 6 1) (u 7 1) (kn 1) (kl 1) (kc 1), shW tk (u 6 2) (u 7 2) (kn 2) (kl 2) (kc 2), shW tk (u 6 3) (u 7 3) (kn 3) (kl 3) (kc 3), mW tk h Mt hi la ce]) (fun u6 => [lW a (u 0) (u 1) (u 8 0) (u 8 1) (u 8 2) (u 5) (u 8 3) kb rf, gW tk (u 0) G u6.1 u6.2.1, gW tk (u 1) u6.2.2.1 u6.2.2.2.1 u6.2.2.2.2.1, bW (u 8 1) u6.2.2.2.2.2.1 u6.2.2.2.2.2.2]) (C0.sz hl) X (c_X6_join l D tk a (u 0) (u 1) (u 8 0) (u 8 1) (u 8 2) (u 5) (u 8 3) kb rf G d e T td te ch am (xs (i + 1)) (xs (i + 2)) (xs (i + 3)) (xs (i + 4)) (by assumption)) ⟨tb611, tb614, tb1, ⟨by decide, by decide, rfl⟩, rfl, rfl, Nat.le_of_ble_eq_true rfl, Nat.le_of_ble_eq_true rfl⟩ tb612 tb613 6 rfl rfl rfl rfl [0, 1, 2, 6] [3, 4, 5, 7, 8, 9, 10, 11, 12, 13, 14, 15, 16] rfl (by decide +kernel) rfl rfl rfl (fun _ => rfl) (Nat.le_of_ble_eq_true rfl) ⟨Nat.le_of_ble_eq_true rfl, Nat.le_of_ble_eq_true rfl⟩ dL_law_1027 (fun u6 H locs _ X => ?_)
  have X : Hx D zA zs H locs (bflat (lawB tk a u h G u6.1 u6.2.1 u6.2.2.1 u6.2.2.2.1 u6.2.2.2.2.1 I0 di ei J0 dj ej u6.2.2.2.2.2.1 u6.2.2.2.2.2.2 K wt n t D0 dd de sn pl lo le kb rf kn kl kc Mt hi la ce)) := X.blk (nb := 17) [13, 14, 15, 0, 1, 2, 16, 3, 4, 5, 6, 7, 8, 9, 10, 11, 12] rfl (by decide +kernel) rfl
  refine lv_aload_n hx hb dL_law_1030 rfl (lv_at hl 1 rfl) ?_
  refine lv_aload_n hx hb dL_law_1031 rfl (lv_at hl 3 rfl) ?_
  refine lv_iload_n hx hb dL_law_1032 rfl (lv_at hl 0 rfl) ?_
  refine g_iconst (n := 1) C0 rfl dL_law_1033 ?_
  refine g_iadd (n := i + 1) C0 rfl dL_law_1034 ?_
  refine g_sld (i := i + 1) C0 X hX hbl hbA (by omega) hL dL_law_1035 ?_
  refine lv_aload_n hx hb dL_law_1036 rfl (lv_at hl 3 rfl) ?_
  refine lv_iload_n hx hb dL_law_1037 rfl (lv_at hl 0 rfl) ?_
  refine g_iconst (n := 2) C0 rfl dL_law_1038 ?_
  refine g_iadd (n := i + 2) C0 rfl dL_law_1039 ?_
  refine g_sld (i := i + 2) C0 X hX hbl hbA (by omega) hL dL_law_1040 ?_
  refine lv_aload_n hx hb dL_law_1041 rfl (lv_at hl 3 rfl) ?_
  refine lv_iload_n hx hb dL_law_1042 rfl (lv_at hl 0 rfl) ?_
  refine g_iconst (n := 3) C0 rfl dL_law_1043 ?_
  refine g_iadd (n := i + 3) C0 rfl dL_law_1044 ?_
  refine g_sld (i := i + 3) C0 X hX hbl hbA (by omega) hL dL_law_1045 ?_
  refine lv_aload_n hx hb dL_law_1046 rfl (lv_at hl 3 rfl) ?_
  refine lv_iload_n hx hb dL_law_1047 rfl (lv_at hl 0 rfl) ?_
  refine g_iconst (n := 4) C0 rfl dL_law_1048 ?_
  refine g_iadd (n := i + 4) C0 rfl dL_law_1049 ?_
  refine g_sld (i := i + 4) C0 X hX hbl hbA (by omega) hL dL_law_1050 ?_
  refine b_callV (nb := 17) (As := [.int (xs (i + 1)), .int (xs (i + 2)), .int (xs (i + 3)), .int (xs (i + 4))]) (rest := [.int (a_join (cgv G) (xs (i + 1)) (xs (i + 2)) (xs (i + 3)) (xs (i + 4)))]) (cs := [mW tk h Mt hi la ce]) (rs := [lW a (u 0) (u 1) (u 8 0) (u 8 1) (u 8 2) (u 5) (u 8 3) kb rf, gW tk (u 0) G u6.1 u6.2.1, gW tk (u 1) u6.2.2.1 u6.2.2.2.1 u6.2.2.2.2.1, gW tk (u 3) I0 di ei, gW tk (u 4) J0 dj ej, imW tk (u 8 0) (u 3 0) (u 4 0), bW (u 8 1) u6.2.2.2.2.2.1 u6.2.2.2.2.2.2, rV (u 8 2) (u 8 4) (u 2) K wt, tW tk (u 8 4) (u 8 5) n t, gW tk (u 2) D0 dd de, sW tk (u 5) sn pl lo le, hsW tk (u 8 3) (u 6 0) (u 6 1) (u 6 2) (u 6 3), shW tk (u 6 0) (u 7 0) (kn 0) (kl 0) (kc 0), shW tk (u 6 1) (u 7 1) (kn 1) (kl 1) (kc 1), shW tk (u 6 2) (u 7 2) (kn 2) (kl 2) (kc 2), shW tk (u 6 3) (u 7 3) (kn 3) (kl 3) (kc 3)]) (fun u7 => [mW tk h (u3 (u3 Mt 0 u7.1) 6 u7.2) hi la ce]) (C0.sz hl) X (c_X7_join l D tk h Mt hi la ce (xs (i + 1)) (xs (i + 2)) (xs (i + 3)) (xs (i + 4)) (by assumption)) ⟨tb1100, tb1103, tb8, ⟨by decide, by decide, rfl⟩, rfl, rfl, Nat.le_of_ble_eq_true rfl, Nat.le_of_ble_eq_true rfl⟩ tb1101 tb1102 7 rfl rfl rfl rfl [16] [0, 1, 2, 3, 4, 5, 6, 7, 8, 9, 10, 11, 12, 13, 14, 15] rfl (by decide +kernel) rfl rfl rfl (fun _ => rfl) (Nat.le_of_ble_eq_true rfl) ⟨Nat.le_of_ble_eq_true rfl, Nat.le_of_ble_eq_true rfl⟩ dL_law_1051 (fun u7 H locs hp7 X => ?_)
  have X : Hx D zA zs H locs (bflat (lawB tk a u h G u6.1 u6.2.1 u6.2.2.1 u6.2.2.2.1 u6.2.2.2.2.1 I0 di ei J0 dj ej u6.2.2.2.2.2.1 u6.2.2.2.2.2.2 K wt n t D0 dd de sn pl lo le kb rf kn kl kc (u3 (u3 Mt 0 u7.1) 6 u7.2) hi la ce)) := X
  refine lv_icmp_eq (tgt := 1691) hx hb dL_law_1054 rfl (fun _ => ?_) (fun q => absurd (q_join hR (xs (i + 1)) (xs (i + 2)) (xs (i + 3)) (xs (i + 4)) u6 u7 hp7) q)
  exact hG G u6.1 u6.2.1 u6.2.2.1 u6.2.2.2.1 u6.2.2.2.2.1 I0 di ei J0 dj ej u6.2.2.2.2.2.1 u6.2.2.2.2.2.2 K wt n t D0 dd de sn pl lo le kb rf kn kl kc (u3 (u3 Mt 0 u7.1) 6 u7.2) hi la ce (r_join hR (xs (i + 1)) (xs (i + 2)) (xs (i + 3)) (xs (i + 4)) u6 u7 hp7) H locs ls X hl
set_option maxHeartbeats 4000000 in
set_option maxRecDepth 100000 in
theorem lw_dear {zp : Program} {l : Launch} {ze : Env} {zs : State} {zm : MethodId} {zb : List Frame} {zt : Method} {zc : Code} {D : va_G} {zA : Nat → Prop} {tk : Nat → ClassId} {sK sV : Nat → Nat} {zQ : State → Prop} {b L : Nat} {xs : Nat → Int32} {a : Nat} {u : Nat → Nat → Nat} {h : Nat → Nat} {i : Nat} (hC : LC0 zp zs zm zc D zA tk sK sV b L xs) (hi : i + 6 ≤ L) (hG : LG zp l ze zs zm zb zt zc D zA tk zQ b a u h i) {G : Nat → Nat → Nat} {d : Nat → Nat} {e : Nat → Nat} {T : Nat → Nat → Nat} {td : Nat → Nat} {te : Nat → Nat} {I0 : Nat → Nat → Nat} {di : Nat → Nat} {ei : Nat → Nat} {J0 : Nat → Nat → Nat} {dj : Nat → Nat} {ej : Nat → Nat} {ch : Int32} {am : Int32} {K : Nat → Nat → Nat} {wt : Bool} {n : Nat} {t : Nat → Nat} {D0 : Nat → Nat → Nat} {dd : Nat → Nat} {de : Nat → Nat} {sn : Nat} {pl : Nat → Nat} {lo : Nat → Nat} {le : Nat → Nat} {kb : Nat} {rf : Nat} {kn : Nat → Nat} {kl : Nat → Int32} {kc : Nat → Nat → Int32} {Mt : Nat → Nat → Nat} {hi : Int32} {la : Nat → Int32} {ce : Nat → Int32} (hR : Rel G I0 J0 kb n t sn pl lo K rf kn kl kc Mt la ce) {H : Heap} {locs : List Loc} {ls : Array Slot} (X : Hx D zA zs H locs (bflat (lawB tk a u h G d e T td te I0 di ei J0 dj ej ch am K wt n t D0 dd de sn pl lo le kb rf kn kl kc Mt hi la ce))) (hl : lv_has ls 4 [(3, .int (nI i)), (2, .ref (h 0)), (1, .ref a), (0, .ref b)]) : W zp l ze room_1 zs zm #[Value.ref b] zb zt zc H locs 83 1802 zQ (F0 zm 1059 ls []) := by
  obtain ⟨C0, S0, hX, hbl, hbA, hL⟩ := id hC
  have hx := C0.1
  have hb := C0.2.1
  obtain ⟨f1, f2, f3, f4, f5, f6, f7, f8, f9, f10, f11, f12, f13, f14, f15, f16, f17, f18, f19, f20, f21, f22⟩ := rel_facts hR
  refine lv_aload_n hx hb dL_law_1059 rfl (lv_at hl 2 rfl) ?_
  refine lv_aload_n hx hb dL_law_1060 rfl (lv_at hl 3 rfl) ?_
  refine lv_iload_n hx hb dL_law_1061 rfl (lv_at hl 0 rfl) ?_
  refine g_iconst (n := 1) C0 rfl dL_law_1062 ?_
  refine g_iadd (n := i + 1) C0 rfl dL_law_1063 ?_
  refine g_sld (i := i + 1) C0 X hX hbl hbA (by omega) hL dL_law_1064 ?_
  refine b_callV (nb := 17) (As := [.int (xs (i + 1))]) (rest := []) (cs := [lW a (u 0) (u 1) (u 8 0) (u 8 1) (u 8 2) (u 5) (u 8 3) kb rf, gW tk (u 0) G d e, gW tk (u 1) T td te, bW (u 8 1) ch am]) (rs := [gW tk (u 3) I0 di ei, gW tk (u 4) J0 dj ej, imW tk (u 8 0) (u 3 0) (u 4 0), rV (u 8 2) (u 8 4) (u 2) K wt, tW tk (u 8 4) (u 8 5) n t, gW tk (u 2) D0 dd de, sW tk (u 5) sn pl lo le, hsW tk (u 8 3) (u 6 0) (u 6 1) (u 6 2) (u 6 3), shW tk (u 6 0) (u 7 0) (kn 0) (kl 0) (kc 0), shW tk (u 6 1) (u 7 1) (kn 1) (kl 1) (kc 1), shW tk (u 6 2) (u 7 2) (kn 2) (kl 2) (kc 2), shW tk (u 6 3) (u 7 3) (kn 3) (kl 3) (kc 3), mW tk h Mt hi la ce]) (fun u6 => [lW a (u 0) (u 1) (u 8 0) (u 8 1) (u 8 2) (u 5) (u 8 3) kb rf, gW tk (u 0) G u6.1 u6.2.1, gW tk (u 1) u6.2.2.1 u6.2.2.2.1 u6.2.2.2.2.1, bW (u 8 1) u6.2.2.2.2.2.1 u6.2.2.2.2.2.2]) (C0.sz hl) X (c_X6_dear l D tk a (u 0) (u 1) (u 8 0) (u 8 1) (u 8 2) (u 5) (u 8 3) kb rf G d e T td te ch am (xs (i + 1)) (by assumption)) ⟨tb616, tb619, tb1, ⟨by decide, by decide, rfl⟩, rfl, rfl, Nat.le_of_ble_eq_true rfl, Nat.le_of_ble_eq_true rfl⟩ tb617 tb618 6 rfl rfl rfl rfl [0, 1, 2, 6] [3, 4, 5, 7, 8, 9, 10, 11, 12, 13, 14, 15, 16] rfl (by decide +kernel) rfl rfl rfl (fun _ => rfl) (Nat.le_of_ble_eq_true rfl) ⟨Nat.le_of_ble_eq_true rfl, Nat.le_of_ble_eq_true rfl⟩ dL_law_1065 (fun u6 H locs _ X => ?_)
  have X : Hx D zA zs H locs (bflat (lawB tk a u h G u6.1 u6.2.1 u6.2.2.1 u6.2.2.2.1 u6.2.2.2.2.1 I0 di ei J0 dj ej u6.2.2.2.2.2.1 u6.2.2.2.2.2.2 K wt n t D0 dd de sn pl lo le kb rf kn kl kc Mt hi la ce)) := X.blk (nb := 17) [13, 14, 15, 0, 1, 2, 16, 3, 4, 5, 6, 7, 8, 9, 10, 11, 12] rfl (by decide +kernel) rfl
  refine lv_aload_n hx hb dL_law_1068 rfl (lv_at hl 1 rfl) ?_
  refine lv_aload_n hx hb dL_law_1069 rfl (lv_at hl 3 rfl) ?_
  refine lv_iload_n hx hb dL_law_1070 rfl (lv_at hl 0 rfl) ?_
  refine g_iconst (n := 1) C0 rfl dL_law_1071 ?_
  refine g_iadd (n := i + 1) C0 rfl dL_law_1072 ?_
  refine g_sld (i := i + 1) C0 X hX hbl hbA (by omega) hL dL_law_1073 ?_
  refine b_callV (nb := 17) (As := [.int (xs (i + 1))]) (rest := [.int (a_dear (cgv G) (xs (i + 1)))]) (cs := [mW tk h Mt hi la ce]) (rs := [lW a (u 0) (u 1) (u 8 0) (u 8 1) (u 8 2) (u 5) (u 8 3) kb rf, gW tk (u 0) G u6.1 u6.2.1, gW tk (u 1) u6.2.2.1 u6.2.2.2.1 u6.2.2.2.2.1, gW tk (u 3) I0 di ei, gW tk (u 4) J0 dj ej, imW tk (u 8 0) (u 3 0) (u 4 0), bW (u 8 1) u6.2.2.2.2.2.1 u6.2.2.2.2.2.2, rV (u 8 2) (u 8 4) (u 2) K wt, tW tk (u 8 4) (u 8 5) n t, gW tk (u 2) D0 dd de, sW tk (u 5) sn pl lo le, hsW tk (u 8 3) (u 6 0) (u 6 1) (u 6 2) (u 6 3), shW tk (u 6 0) (u 7 0) (kn 0) (kl 0) (kc 0), shW tk (u 6 1) (u 7 1) (kn 1) (kl 1) (kc 1), shW tk (u 6 2) (u 7 2) (kn 2) (kl 2) (kc 2), shW tk (u 6 3) (u 7 3) (kn 3) (kl 3) (kc 3)]) (fun u7 => [mW tk h (u3 (u3 (u3 Mt 0 u7.1) 6 u7.2.1) 7 u7.2.2) hi la ce]) (C0.sz hl) X (c_X7_dear l D tk h Mt hi la ce (xs (i + 1)) (by assumption)) ⟨tb1104, tb1107, tb8, ⟨by decide, by decide, rfl⟩, rfl, rfl, Nat.le_of_ble_eq_true rfl, Nat.le_of_ble_eq_true rfl⟩ tb1105 tb1106 7 rfl rfl rfl rfl [16] [0, 1, 2, 3, 4, 5, 6, 7, 8, 9, 10, 11, 12, 13, 14, 15] rfl (by decide +kernel) rfl rfl rfl (fun _ => rfl) (Nat.le_of_ble_eq_true rfl) ⟨Nat.le_of_ble_eq_true rfl, Nat.le_of_ble_eq_true rfl⟩ dL_law_1074 (fun u7 H locs hp7 X => ?_)
  have X : Hx D zA zs H locs (bflat (lawB tk a u h G u6.1 u6.2.1 u6.2.2.1 u6.2.2.2.1 u6.2.2.2.2.1 I0 di ei J0 dj ej u6.2.2.2.2.2.1 u6.2.2.2.2.2.2 K wt n t D0 dd de sn pl lo le kb rf kn kl kc (u3 (u3 (u3 Mt 0 u7.1) 6 u7.2.1) 7 u7.2.2) hi la ce)) := X
  refine lv_icmp_eq (tgt := 1691) hx hb dL_law_1077 rfl (fun _ => ?_) (fun q => absurd (q_dear hR (xs (i + 1)) u6 u7 hp7) q)
  exact hG G u6.1 u6.2.1 u6.2.2.1 u6.2.2.2.1 u6.2.2.2.2.1 I0 di ei J0 dj ej u6.2.2.2.2.2.1 u6.2.2.2.2.2.2 K wt n t D0 dd de sn pl lo le kb rf kn kl kc (u3 (u3 (u3 Mt 0 u7.1) 6 u7.2.1) 7 u7.2.2) hi la ce (r_dear hR (xs (i + 1)) u6 u7 hp7) H locs ls X hl
set_option maxHeartbeats 4000000 in
set_option maxRecDepth 100000 in
theorem lw_hour {zp : Program} {l : Launch} {ze : Env} {zs : State} {zm : MethodId} {zb : List Frame} {zt : Method} {zc : Code} {D : va_G} {zA : Nat → Prop} {tk : Nat → ClassId} {sK sV : Nat → Nat} {zQ : State → Prop} {b L : Nat} {xs : Nat → Int32} {a : Nat} {u : Nat → Nat → Nat} {h : Nat → Nat} {i : Nat} (hC : LC0 zp zs zm zc D zA tk sK sV b L xs) (hi : i + 6 ≤ L) (hG : LG zp l ze zs zm zb zt zc D zA tk zQ b a u h i) {G : Nat → Nat → Nat} {d : Nat → Nat} {e : Nat → Nat} {T : Nat → Nat → Nat} {td : Nat → Nat} {te : Nat → Nat} {I0 : Nat → Nat → Nat} {di : Nat → Nat} {ei : Nat → Nat} {J0 : Nat → Nat → Nat} {dj : Nat → Nat} {ej : Nat → Nat} {ch : Int32} {am : Int32} {K : Nat → Nat → Nat} {wt : Bool} {n : Nat} {t : Nat → Nat} {D0 : Nat → Nat → Nat} {dd : Nat → Nat} {de : Nat → Nat} {sn : Nat} {pl : Nat → Nat} {lo : Nat → Nat} {le : Nat → Nat} {kb : Nat} {rf : Nat} {kn : Nat → Nat} {kl : Nat → Int32} {kc : Nat → Nat → Int32} {Mt : Nat → Nat → Nat} {hi : Int32} {la : Nat → Int32} {ce : Nat → Int32} (hR : Rel G I0 J0 kb n t sn pl lo K rf kn kl kc Mt la ce) {H : Heap} {locs : List Loc} {ls : Array Slot} (X : Hx D zA zs H locs (bflat (lawB tk a u h G d e T td te I0 di ei J0 dj ej ch am K wt n t D0 dd de sn pl lo le kb rf kn kl kc Mt hi la ce))) (hl : lv_has ls 4 [(3, .int (nI i)), (2, .ref (h 0)), (1, .ref a), (0, .ref b)]) : W zp l ze room_1 zs zm #[Value.ref b] zb zt zc H locs 83 1802 zQ (F0 zm 1082 ls []) := by
  obtain ⟨C0, S0, hX, hbl, hbA, hL⟩ := id hC
  have hx := C0.1
  have hb := C0.2.1
  obtain ⟨f1, f2, f3, f4, f5, f6, f7, f8, f9, f10, f11, f12, f13, f14, f15, f16, f17, f18, f19, f20, f21, f22⟩ := rel_facts hR
  refine lv_aload_n hx hb dL_law_1082 rfl (lv_at hl 2 rfl) ?_
  refine lv_aload_n hx hb dL_law_1083 rfl (lv_at hl 3 rfl) ?_
  refine lv_iload_n hx hb dL_law_1084 rfl (lv_at hl 0 rfl) ?_
  refine g_iconst (n := 1) C0 rfl dL_law_1085 ?_
  refine g_iadd (n := i + 1) C0 rfl dL_law_1086 ?_
  refine g_sld (i := i + 1) C0 X hX hbl hbA (by omega) hL dL_law_1087 ?_
  refine lv_aload_n hx hb dL_law_1088 rfl (lv_at hl 3 rfl) ?_
  refine lv_iload_n hx hb dL_law_1089 rfl (lv_at hl 0 rfl) ?_
  refine g_iconst (n := 2) C0 rfl dL_law_1090 ?_
  refine g_iadd (n := i + 2) C0 rfl dL_law_1091 ?_
  refine g_sld (i := i + 2) C0 X hX hbl hbA (by omega) hL dL_law_1092 ?_
  refine b_callV (nb := 17) (As := [.int (xs (i + 1)), .int (xs (i + 2))]) (rest := []) (cs := [lW a (u 0) (u 1) (u 8 0) (u 8 1) (u 8 2) (u 5) (u 8 3) kb rf, gW tk (u 0) G d e, gW tk (u 1) T td te, bW (u 8 1) ch am]) (rs := [gW tk (u 3) I0 di ei, gW tk (u 4) J0 dj ej, imW tk (u 8 0) (u 3 0) (u 4 0), rV (u 8 2) (u 8 4) (u 2) K wt, tW tk (u 8 4) (u 8 5) n t, gW tk (u 2) D0 dd de, sW tk (u 5) sn pl lo le, hsW tk (u 8 3) (u 6 0) (u 6 1) (u 6 2) (u 6 3), shW tk (u 6 0) (u 7 0) (kn 0) (kl 0) (kc 0), shW tk (u 6 1) (u 7 1) (kn 1) (kl 1) (kc 1), shW tk (u 6 2) (u 7 2) (kn 2) (kl 2) (kc 2), shW tk (u 6 3) (u 7 3) (kn 3) (kl 3) (kc 3), mW tk h Mt hi la ce]) (fun u6 => [lW a (u 0) (u 1) (u 8 0) (u 8 1) (u 8 2) (u 5) (u 8 3) kb rf, gW tk (u 0) G u6.1 u6.2.1, gW tk (u 1) u6.2.2.1 u6.2.2.2.1 u6.2.2.2.2.1, bW (u 8 1) u6.2.2.2.2.2.1 u6.2.2.2.2.2.2]) (C0.sz hl) X (c_X6_hour l D tk a (u 0) (u 1) (u 8 0) (u 8 1) (u 8 2) (u 5) (u 8 3) kb rf G d e T td te ch am (xs (i + 1)) (xs (i + 2)) (by assumption)) ⟨tb625, tb628, tb1, ⟨by decide, by decide, rfl⟩, rfl, rfl, Nat.le_of_ble_eq_true rfl, Nat.le_of_ble_eq_true rfl⟩ tb626 tb627 6 rfl rfl rfl rfl [0, 1, 2, 6] [3, 4, 5, 7, 8, 9, 10, 11, 12, 13, 14, 15, 16] rfl (by decide +kernel) rfl rfl rfl (fun _ => rfl) (Nat.le_of_ble_eq_true rfl) ⟨Nat.le_of_ble_eq_true rfl, Nat.le_of_ble_eq_true rfl⟩ dL_law_1093 (fun u6 H locs _ X => ?_)
  have X : Hx D zA zs H locs (bflat (lawB tk a u h G u6.1 u6.2.1 u6.2.2.1 u6.2.2.2.1 u6.2.2.2.2.1 I0 di ei J0 dj ej u6.2.2.2.2.2.1 u6.2.2.2.2.2.2 K wt n t D0 dd de sn pl lo le kb rf kn kl kc Mt hi la ce)) := X.blk (nb := 17) [13, 14, 15, 0, 1, 2, 16, 3, 4, 5, 6, 7, 8, 9, 10, 11, 12] rfl (by decide +kernel) rfl
  refine lv_aload_n hx hb dL_law_1096 rfl (lv_at hl 1 rfl) ?_
  refine lv_aload_n hx hb dL_law_1097 rfl (lv_at hl 3 rfl) ?_
  refine lv_iload_n hx hb dL_law_1098 rfl (lv_at hl 0 rfl) ?_
  refine g_iconst (n := 1) C0 rfl dL_law_1099 ?_
  refine g_iadd (n := i + 1) C0 rfl dL_law_1100 ?_
  refine g_sld (i := i + 1) C0 X hX hbl hbA (by omega) hL dL_law_1101 ?_
  refine lv_aload_n hx hb dL_law_1102 rfl (lv_at hl 3 rfl) ?_
  refine lv_iload_n hx hb dL_law_1103 rfl (lv_at hl 0 rfl) ?_
  refine g_iconst (n := 2) C0 rfl dL_law_1104 ?_
  refine g_iadd (n := i + 2) C0 rfl dL_law_1105 ?_
  refine g_sld (i := i + 2) C0 X hX hbl hbA (by omega) hL dL_law_1106 ?_
  refine b_callV (nb := 17) (As := [.int (xs (i + 1)), .int (xs (i + 2))]) (rest := [.int (a_hour 1000 (cgv G) (xs (i + 1)) (xs (i + 2)))]) (cs := [mW tk h Mt hi la ce]) (rs := [lW a (u 0) (u 1) (u 8 0) (u 8 1) (u 8 2) (u 5) (u 8 3) kb rf, gW tk (u 0) G u6.1 u6.2.1, gW tk (u 1) u6.2.2.1 u6.2.2.2.1 u6.2.2.2.2.1, gW tk (u 3) I0 di ei, gW tk (u 4) J0 dj ej, imW tk (u 8 0) (u 3 0) (u 4 0), bW (u 8 1) u6.2.2.2.2.2.1 u6.2.2.2.2.2.2, rV (u 8 2) (u 8 4) (u 2) K wt, tW tk (u 8 4) (u 8 5) n t, gW tk (u 2) D0 dd de, sW tk (u 5) sn pl lo le, hsW tk (u 8 3) (u 6 0) (u 6 1) (u 6 2) (u 6 3), shW tk (u 6 0) (u 7 0) (kn 0) (kl 0) (kc 0), shW tk (u 6 1) (u 7 1) (kn 1) (kl 1) (kc 1), shW tk (u 6 2) (u 7 2) (kn 2) (kl 2) (kc 2), shW tk (u 6 3) (u 7 3) (kn 3) (kl 3) (kc 3)]) (fun u7 => [mW tk h (u3 (u3 (u3 Mt 0 u7.1) 6 u7.2.1) 7 u7.2.2) hi la ce]) (C0.sz hl) X (c_X7_hour l D tk h Mt hi la ce (xs (i + 1)) (xs (i + 2)) (by assumption)) ⟨tb1108, tb1111, tb8, ⟨by decide, by decide, rfl⟩, rfl, rfl, Nat.le_of_ble_eq_true rfl, Nat.le_of_ble_eq_true rfl⟩ tb1109 tb1110 7 rfl rfl rfl rfl [16] [0, 1, 2, 3, 4, 5, 6, 7, 8, 9, 10, 11, 12, 13, 14, 15] rfl (by decide +kernel) rfl rfl rfl (fun _ => rfl) (Nat.le_of_ble_eq_true rfl) ⟨Nat.le_of_ble_eq_true rfl, Nat.le_of_ble_eq_true rfl⟩ dL_law_1107 (fun u7 H locs hp7 X => ?_)
  have X : Hx D zA zs H locs (bflat (lawB tk a u h G u6.1 u6.2.1 u6.2.2.1 u6.2.2.2.1 u6.2.2.2.2.1 I0 di ei J0 dj ej u6.2.2.2.2.2.1 u6.2.2.2.2.2.2 K wt n t D0 dd de sn pl lo le kb rf kn kl kc (u3 (u3 (u3 Mt 0 u7.1) 6 u7.2.1) 7 u7.2.2) hi la ce)) := X
  refine lv_icmp_eq (tgt := 1691) hx hb dL_law_1110 rfl (fun _ => ?_) (fun q => absurd (q_hour hR (xs (i + 1)) (xs (i + 2)) u6 u7 hp7) q)
  exact hG G u6.1 u6.2.1 u6.2.2.1 u6.2.2.2.1 u6.2.2.2.2.1 I0 di ei J0 dj ej u6.2.2.2.2.2.1 u6.2.2.2.2.2.2 K wt n t D0 dd de sn pl lo le kb rf kn kl kc (u3 (u3 (u3 Mt 0 u7.1) 6 u7.2.1) 7 u7.2.2) hi la ce (r_hour hR (xs (i + 1)) (xs (i + 2)) u6 u7 hp7) H locs ls X hl
set_option maxHeartbeats 4000000 in
set_option maxRecDepth 100000 in
theorem lw_kind {zp : Program} {l : Launch} {ze : Env} {zs : State} {zm : MethodId} {zb : List Frame} {zt : Method} {zc : Code} {D : va_G} {zA : Nat → Prop} {tk : Nat → ClassId} {sK sV : Nat → Nat} {zQ : State → Prop} {b L : Nat} {xs : Nat → Int32} {a : Nat} {u : Nat → Nat → Nat} {h : Nat → Nat} {i : Nat} (hC : LC0 zp zs zm zc D zA tk sK sV b L xs) (hi : i + 6 ≤ L) (hG : LG zp l ze zs zm zb zt zc D zA tk zQ b a u h i) {G : Nat → Nat → Nat} {d : Nat → Nat} {e : Nat → Nat} {T : Nat → Nat → Nat} {td : Nat → Nat} {te : Nat → Nat} {I0 : Nat → Nat → Nat} {di : Nat → Nat} {ei : Nat → Nat} {J0 : Nat → Nat → Nat} {dj : Nat → Nat} {ej : Nat → Nat} {ch : Int32} {am : Int32} {K : Nat → Nat → Nat} {wt : Bool} {n : Nat} {t : Nat → Nat} {D0 : Nat → Nat → Nat} {dd : Nat → Nat} {de : Nat → Nat} {sn : Nat} {pl : Nat → Nat} {lo : Nat → Nat} {le : Nat → Nat} {kb : Nat} {rf : Nat} {kn : Nat → Nat} {kl : Nat → Int32} {kc : Nat → Nat → Int32} {Mt : Nat → Nat → Nat} {hi : Int32} {la : Nat → Int32} {ce : Nat → Int32} (hR : Rel G I0 J0 kb n t sn pl lo K rf kn kl kc Mt la ce) {H : Heap} {locs : List Loc} {ls : Array Slot} (X : Hx D zA zs H locs (bflat (lawB tk a u h G d e T td te I0 di ei J0 dj ej ch am K wt n t D0 dd de sn pl lo le kb rf kn kl kc Mt hi la ce))) (hl : lv_has ls 4 [(3, .int (nI i)), (2, .ref (h 0)), (1, .ref a), (0, .ref b)]) : W zp l ze room_1 zs zm #[Value.ref b] zb zt zc H locs 83 1802 zQ (F0 zm 1115 ls []) := by
  obtain ⟨C0, S0, hX, hbl, hbA, hL⟩ := id hC
  have hx := C0.1
  have hb := C0.2.1
  obtain ⟨f1, f2, f3, f4, f5, f6, f7, f8, f9, f10, f11, f12, f13, f14, f15, f16, f17, f18, f19, f20, f21, f22⟩ := rel_facts hR
  refine lv_aload_n hx hb dL_law_1115 rfl (lv_at hl 2 rfl) ?_
  refine lv_aload_n hx hb dL_law_1116 rfl (lv_at hl 3 rfl) ?_
  refine lv_iload_n hx hb dL_law_1117 rfl (lv_at hl 0 rfl) ?_
  refine g_iconst (n := 1) C0 rfl dL_law_1118 ?_
  refine g_iadd (n := i + 1) C0 rfl dL_law_1119 ?_
  refine g_sld (i := i + 1) C0 X hX hbl hbA (by omega) hL dL_law_1120 ?_
  refine lv_aload_n hx hb dL_law_1121 rfl (lv_at hl 3 rfl) ?_
  refine lv_iload_n hx hb dL_law_1122 rfl (lv_at hl 0 rfl) ?_
  refine g_iconst (n := 2) C0 rfl dL_law_1123 ?_
  refine g_iadd (n := i + 2) C0 rfl dL_law_1124 ?_
  refine g_sld (i := i + 2) C0 X hX hbl hbA (by omega) hL dL_law_1125 ?_
  refine b_callV (nb := 17) (As := [.int (xs (i + 1)), .int (xs (i + 2))]) (rest := []) (cs := [lW a (u 0) (u 1) (u 8 0) (u 8 1) (u 8 2) (u 5) (u 8 3) kb rf, gW tk (u 0) G d e, gW tk (u 1) T td te, bW (u 8 1) ch am]) (rs := [gW tk (u 3) I0 di ei, gW tk (u 4) J0 dj ej, imW tk (u 8 0) (u 3 0) (u 4 0), rV (u 8 2) (u 8 4) (u 2) K wt, tW tk (u 8 4) (u 8 5) n t, gW tk (u 2) D0 dd de, sW tk (u 5) sn pl lo le, hsW tk (u 8 3) (u 6 0) (u 6 1) (u 6 2) (u 6 3), shW tk (u 6 0) (u 7 0) (kn 0) (kl 0) (kc 0), shW tk (u 6 1) (u 7 1) (kn 1) (kl 1) (kc 1), shW tk (u 6 2) (u 7 2) (kn 2) (kl 2) (kc 2), shW tk (u 6 3) (u 7 3) (kn 3) (kl 3) (kc 3), mW tk h Mt hi la ce]) (fun u6 => [lW a (u 0) (u 1) (u 8 0) (u 8 1) (u 8 2) (u 5) (u 8 3) kb rf, gW tk (u 0) G u6.1 u6.2.1, gW tk (u 1) u6.2.2.1 u6.2.2.2.1 u6.2.2.2.2.1, bW (u 8 1) u6.2.2.2.2.2.1 u6.2.2.2.2.2.2]) (C0.sz hl) X (c_X6_kind l D tk a (u 0) (u 1) (u 8 0) (u 8 1) (u 8 2) (u 5) (u 8 3) kb rf G d e T td te ch am (xs (i + 1)) (xs (i + 2)) (by assumption)) ⟨tb629, tb632, tb1, ⟨by decide, by decide, rfl⟩, rfl, rfl, Nat.le_of_ble_eq_true rfl, Nat.le_of_ble_eq_true rfl⟩ tb630 tb631 6 rfl rfl rfl rfl [0, 1, 2, 6] [3, 4, 5, 7, 8, 9, 10, 11, 12, 13, 14, 15, 16] rfl (by decide +kernel) rfl rfl rfl (fun _ => rfl) (Nat.le_of_ble_eq_true rfl) ⟨Nat.le_of_ble_eq_true rfl, Nat.le_of_ble_eq_true rfl⟩ dL_law_1126 (fun u6 H locs _ X => ?_)
  have X : Hx D zA zs H locs (bflat (lawB tk a u h G u6.1 u6.2.1 u6.2.2.1 u6.2.2.2.1 u6.2.2.2.2.1 I0 di ei J0 dj ej u6.2.2.2.2.2.1 u6.2.2.2.2.2.2 K wt n t D0 dd de sn pl lo le kb rf kn kl kc Mt hi la ce)) := X.blk (nb := 17) [13, 14, 15, 0, 1, 2, 16, 3, 4, 5, 6, 7, 8, 9, 10, 11, 12] rfl (by decide +kernel) rfl
  refine lv_aload_n hx hb dL_law_1129 rfl (lv_at hl 1 rfl) ?_
  refine lv_aload_n hx hb dL_law_1130 rfl (lv_at hl 3 rfl) ?_
  refine lv_iload_n hx hb dL_law_1131 rfl (lv_at hl 0 rfl) ?_
  refine g_iconst (n := 1) C0 rfl dL_law_1132 ?_
  refine g_iadd (n := i + 1) C0 rfl dL_law_1133 ?_
  refine g_sld (i := i + 1) C0 X hX hbl hbA (by omega) hL dL_law_1134 ?_
  refine lv_aload_n hx hb dL_law_1135 rfl (lv_at hl 3 rfl) ?_
  refine lv_iload_n hx hb dL_law_1136 rfl (lv_at hl 0 rfl) ?_
  refine g_iconst (n := 2) C0 rfl dL_law_1137 ?_
  refine g_iadd (n := i + 2) C0 rfl dL_law_1138 ?_
  refine g_sld (i := i + 2) C0 X hX hbl hbA (by omega) hL dL_law_1139 ?_
  refine b_callV (nb := 17) (As := [.int (xs (i + 1)), .int (xs (i + 2))]) (rest := [.int (a_kind 1000 (cgv G) (xs (i + 1)) (xs (i + 2)))]) (cs := [mW tk h Mt hi la ce]) (rs := [lW a (u 0) (u 1) (u 8 0) (u 8 1) (u 8 2) (u 5) (u 8 3) kb rf, gW tk (u 0) G u6.1 u6.2.1, gW tk (u 1) u6.2.2.1 u6.2.2.2.1 u6.2.2.2.2.1, gW tk (u 3) I0 di ei, gW tk (u 4) J0 dj ej, imW tk (u 8 0) (u 3 0) (u 4 0), bW (u 8 1) u6.2.2.2.2.2.1 u6.2.2.2.2.2.2, rV (u 8 2) (u 8 4) (u 2) K wt, tW tk (u 8 4) (u 8 5) n t, gW tk (u 2) D0 dd de, sW tk (u 5) sn pl lo le, hsW tk (u 8 3) (u 6 0) (u 6 1) (u 6 2) (u 6 3), shW tk (u 6 0) (u 7 0) (kn 0) (kl 0) (kc 0), shW tk (u 6 1) (u 7 1) (kn 1) (kl 1) (kc 1), shW tk (u 6 2) (u 7 2) (kn 2) (kl 2) (kc 2), shW tk (u 6 3) (u 7 3) (kn 3) (kl 3) (kc 3)]) (fun u7 => [mW tk h (u3 (u3 (u3 Mt 0 u7.1) 6 u7.2.1) 7 u7.2.2) hi la ce]) (C0.sz hl) X (c_X7_kind l D tk h Mt hi la ce (xs (i + 1)) (xs (i + 2)) (by assumption)) ⟨tb1112, tb1115, tb8, ⟨by decide, by decide, rfl⟩, rfl, rfl, Nat.le_of_ble_eq_true rfl, Nat.le_of_ble_eq_true rfl⟩ tb1113 tb1114 7 rfl rfl rfl rfl [16] [0, 1, 2, 3, 4, 5, 6, 7, 8, 9, 10, 11, 12, 13, 14, 15] rfl (by decide +kernel) rfl rfl rfl (fun _ => rfl) (Nat.le_of_ble_eq_true rfl) ⟨Nat.le_of_ble_eq_true rfl, Nat.le_of_ble_eq_true rfl⟩ dL_law_1140 (fun u7 H locs hp7 X => ?_)
  have X : Hx D zA zs H locs (bflat (lawB tk a u h G u6.1 u6.2.1 u6.2.2.1 u6.2.2.2.1 u6.2.2.2.2.1 I0 di ei J0 dj ej u6.2.2.2.2.2.1 u6.2.2.2.2.2.2 K wt n t D0 dd de sn pl lo le kb rf kn kl kc (u3 (u3 (u3 Mt 0 u7.1) 6 u7.2.1) 7 u7.2.2) hi la ce)) := X
  refine lv_icmp_eq (tgt := 1691) hx hb dL_law_1143 rfl (fun _ => ?_) (fun q => absurd (q_kind hR (xs (i + 1)) (xs (i + 2)) u6 u7 hp7) q)
  exact hG G u6.1 u6.2.1 u6.2.2.1 u6.2.2.2.1 u6.2.2.2.2.1 I0 di ei J0 dj ej u6.2.2.2.2.2.1 u6.2.2.2.2.2.2 K wt n t D0 dd de sn pl lo le kb rf kn kl kc (u3 (u3 (u3 Mt 0 u7.1) 6 u7.2.1) 7 u7.2.2) hi la ce (r_kind hR (xs (i + 1)) (xs (i + 2)) u6 u7 hp7) H locs ls X hl
set_option maxHeartbeats 4000000 in
set_option maxRecDepth 100000 in
theorem lw_calm {zp : Program} {l : Launch} {ze : Env} {zs : State} {zm : MethodId} {zb : List Frame} {zt : Method} {zc : Code} {D : va_G} {zA : Nat → Prop} {tk : Nat → ClassId} {sK sV : Nat → Nat} {zQ : State → Prop} {b L : Nat} {xs : Nat → Int32} {a : Nat} {u : Nat → Nat → Nat} {h : Nat → Nat} {i : Nat} (hC : LC0 zp zs zm zc D zA tk sK sV b L xs) (hi : i + 6 ≤ L) (hG : LG zp l ze zs zm zb zt zc D zA tk zQ b a u h i) {G : Nat → Nat → Nat} {d : Nat → Nat} {e : Nat → Nat} {T : Nat → Nat → Nat} {td : Nat → Nat} {te : Nat → Nat} {I0 : Nat → Nat → Nat} {di : Nat → Nat} {ei : Nat → Nat} {J0 : Nat → Nat → Nat} {dj : Nat → Nat} {ej : Nat → Nat} {ch : Int32} {am : Int32} {K : Nat → Nat → Nat} {wt : Bool} {n : Nat} {t : Nat → Nat} {D0 : Nat → Nat → Nat} {dd : Nat → Nat} {de : Nat → Nat} {sn : Nat} {pl : Nat → Nat} {lo : Nat → Nat} {le : Nat → Nat} {kb : Nat} {rf : Nat} {kn : Nat → Nat} {kl : Nat → Int32} {kc : Nat → Nat → Int32} {Mt : Nat → Nat → Nat} {hi : Int32} {la : Nat → Int32} {ce : Nat → Int32} (hR : Rel G I0 J0 kb n t sn pl lo K rf kn kl kc Mt la ce) {H : Heap} {locs : List Loc} {ls : Array Slot} (X : Hx D zA zs H locs (bflat (lawB tk a u h G d e T td te I0 di ei J0 dj ej ch am K wt n t D0 dd de sn pl lo le kb rf kn kl kc Mt hi la ce))) (hl : lv_has ls 4 [(3, .int (nI i)), (2, .ref (h 0)), (1, .ref a), (0, .ref b)]) : W zp l ze room_1 zs zm #[Value.ref b] zb zt zc H locs 83 1802 zQ (F0 zm 1148 ls []) := by
  obtain ⟨C0, S0, hX, hbl, hbA, hL⟩ := id hC
  have hx := C0.1
  have hb := C0.2.1
  obtain ⟨f1, f2, f3, f4, f5, f6, f7, f8, f9, f10, f11, f12, f13, f14, f15, f16, f17, f18, f19, f20, f21, f22⟩ := rel_facts hR
  refine lv_aload_n hx hb dL_law_1148 rfl (lv_at hl 2 rfl) ?_
  refine b_callV (nb := 17) (As := []) (rest := []) (cs := [lW a (u 0) (u 1) (u 8 0) (u 8 1) (u 8 2) (u 5) (u 8 3) kb rf, gW tk (u 0) G d e, gW tk (u 1) T td te]) (rs := [gW tk (u 3) I0 di ei, gW tk (u 4) J0 dj ej, imW tk (u 8 0) (u 3 0) (u 4 0), bW (u 8 1) ch am, rV (u 8 2) (u 8 4) (u 2) K wt, tW tk (u 8 4) (u 8 5) n t, gW tk (u 2) D0 dd de, sW tk (u 5) sn pl lo le, hsW tk (u 8 3) (u 6 0) (u 6 1) (u 6 2) (u 6 3), shW tk (u 6 0) (u 7 0) (kn 0) (kl 0) (kc 0), shW tk (u 6 1) (u 7 1) (kn 1) (kl 1) (kc 1), shW tk (u 6 2) (u 7 2) (kn 2) (kl 2) (kc 2), shW tk (u 6 3) (u 7 3) (kn 3) (kl 3) (kc 3), mW tk h Mt hi la ce]) (fun u6 => [lW a (u 0) (u 1) (u 8 0) (u 8 1) (u 8 2) (u 5) (u 8 3) kb rf, gW tk (u 0) G u6.1 u6.2.1, gW tk (u 1) u6.2.2.1 u6.2.2.2.1 u6.2.2.2.2]) (C0.sz hl) X (c_X6_calm l D tk a (u 0) (u 1) (u 8 0) (u 8 1) (u 8 2) (u 5) (u 8 3) kb rf G d e T td te (by assumption)) ⟨tb633, tb636, tb1, ⟨by decide, by decide, rfl⟩, rfl, rfl, Nat.le_of_ble_eq_true rfl, Nat.le_of_ble_eq_true rfl⟩ tb634 tb635 6 rfl rfl rfl rfl [0, 1, 2] [3, 4, 5, 6, 7, 8, 9, 10, 11, 12, 13, 14, 15, 16] rfl (by decide +kernel) rfl rfl rfl (fun _ => rfl) (Nat.le_of_ble_eq_true rfl) ⟨Nat.le_of_ble_eq_true rfl, Nat.le_of_ble_eq_true rfl⟩ dL_law_1149 (fun u6 H locs _ X => ?_)
  have X : Hx D zA zs H locs (bflat (lawB tk a u h G u6.1 u6.2.1 u6.2.2.1 u6.2.2.2.1 u6.2.2.2.2 I0 di ei J0 dj ej ch am K wt n t D0 dd de sn pl lo le kb rf kn kl kc Mt hi la ce)) := X.blk (nb := 17) [14, 15, 16, 0, 1, 2, 3, 4, 5, 6, 7, 8, 9, 10, 11, 12, 13] rfl (by decide +kernel) rfl
  refine lv_aload_n hx hb dL_law_1152 rfl (lv_at hl 1 rfl) ?_
  refine b_callV (nb := 17) (As := []) (rest := [.int (a_calm (cgv G))]) (cs := [mW tk h Mt hi la ce]) (rs := [lW a (u 0) (u 1) (u 8 0) (u 8 1) (u 8 2) (u 5) (u 8 3) kb rf, gW tk (u 0) G u6.1 u6.2.1, gW tk (u 1) u6.2.2.1 u6.2.2.2.1 u6.2.2.2.2, gW tk (u 3) I0 di ei, gW tk (u 4) J0 dj ej, imW tk (u 8 0) (u 3 0) (u 4 0), bW (u 8 1) ch am, rV (u 8 2) (u 8 4) (u 2) K wt, tW tk (u 8 4) (u 8 5) n t, gW tk (u 2) D0 dd de, sW tk (u 5) sn pl lo le, hsW tk (u 8 3) (u 6 0) (u 6 1) (u 6 2) (u 6 3), shW tk (u 6 0) (u 7 0) (kn 0) (kl 0) (kc 0), shW tk (u 6 1) (u 7 1) (kn 1) (kl 1) (kc 1), shW tk (u 6 2) (u 7 2) (kn 2) (kl 2) (kc 2), shW tk (u 6 3) (u 7 3) (kn 3) (kl 3) (kc 3)]) (fun u7 => [mW tk h (u3 (u3 (u3 Mt 0 u7.1) 6 u7.2.1) 7 u7.2.2) hi la ce]) (C0.sz hl) X (c_X7_calm l D tk h Mt hi la ce (by assumption)) ⟨tb1116, tb1119, tb8, ⟨by decide, by decide, rfl⟩, rfl, rfl, Nat.le_of_ble_eq_true rfl, Nat.le_of_ble_eq_true rfl⟩ tb1117 tb1118 7 rfl rfl rfl rfl [16] [0, 1, 2, 3, 4, 5, 6, 7, 8, 9, 10, 11, 12, 13, 14, 15] rfl (by decide +kernel) rfl rfl rfl (fun _ => rfl) (Nat.le_of_ble_eq_true rfl) ⟨Nat.le_of_ble_eq_true rfl, Nat.le_of_ble_eq_true rfl⟩ dL_law_1153 (fun u7 H locs hp7 X => ?_)
  have X : Hx D zA zs H locs (bflat (lawB tk a u h G u6.1 u6.2.1 u6.2.2.1 u6.2.2.2.1 u6.2.2.2.2 I0 di ei J0 dj ej ch am K wt n t D0 dd de sn pl lo le kb rf kn kl kc (u3 (u3 (u3 Mt 0 u7.1) 6 u7.2.1) 7 u7.2.2) hi la ce)) := X
  refine lv_icmp_eq (tgt := 1691) hx hb dL_law_1156 rfl (fun _ => ?_) (fun q => absurd (q_calm hR  u6 u7 hp7) q)
  exact hG G u6.1 u6.2.1 u6.2.2.1 u6.2.2.2.1 u6.2.2.2.2 I0 di ei J0 dj ej ch am K wt n t D0 dd de sn pl lo le kb rf kn kl kc (u3 (u3 (u3 Mt 0 u7.1) 6 u7.2.1) 7 u7.2.2) hi la ce (r_calm hR  u6 u7 hp7) H locs ls X hl
set_option maxHeartbeats 4000000 in
set_option maxRecDepth 100000 in
theorem lw_luck {zp : Program} {l : Launch} {ze : Env} {zs : State} {zm : MethodId} {zb : List Frame} {zt : Method} {zc : Code} {D : va_G} {zA : Nat → Prop} {tk : Nat → ClassId} {sK sV : Nat → Nat} {zQ : State → Prop} {b L : Nat} {xs : Nat → Int32} {a : Nat} {u : Nat → Nat → Nat} {h : Nat → Nat} {i : Nat} (hC : LC0 zp zs zm zc D zA tk sK sV b L xs) (hi : i + 6 ≤ L) (hG : LG zp l ze zs zm zb zt zc D zA tk zQ b a u h i) {G : Nat → Nat → Nat} {d : Nat → Nat} {e : Nat → Nat} {T : Nat → Nat → Nat} {td : Nat → Nat} {te : Nat → Nat} {I0 : Nat → Nat → Nat} {di : Nat → Nat} {ei : Nat → Nat} {J0 : Nat → Nat → Nat} {dj : Nat → Nat} {ej : Nat → Nat} {ch : Int32} {am : Int32} {K : Nat → Nat → Nat} {wt : Bool} {n : Nat} {t : Nat → Nat} {D0 : Nat → Nat → Nat} {dd : Nat → Nat} {de : Nat → Nat} {sn : Nat} {pl : Nat → Nat} {lo : Nat → Nat} {le : Nat → Nat} {kb : Nat} {rf : Nat} {kn : Nat → Nat} {kl : Nat → Int32} {kc : Nat → Nat → Int32} {Mt : Nat → Nat → Nat} {hi : Int32} {la : Nat → Int32} {ce : Nat → Int32} (hR : Rel G I0 J0 kb n t sn pl lo K rf kn kl kc Mt la ce) {H : Heap} {locs : List Loc} {ls : Array Slot} (X : Hx D zA zs H locs (bflat (lawB tk a u h G d e T td te I0 di ei J0 dj ej ch am K wt n t D0 dd de sn pl lo le kb rf kn kl kc Mt hi la ce))) (hl : lv_has ls 4 [(3, .int (nI i)), (2, .ref (h 0)), (1, .ref a), (0, .ref b)]) : W zp l ze room_1 zs zm #[Value.ref b] zb zt zc H locs 83 1802 zQ (F0 zm 1161 ls []) := by
  obtain ⟨C0, S0, hX, hbl, hbA, hL⟩ := id hC
  have hx := C0.1
  have hb := C0.2.1
  obtain ⟨f1, f2, f3, f4, f5, f6, f7, f8, f9, f10, f11, f12, f13, f14, f15, f16, f17, f18, f19, f20, f21, f22⟩ := rel_facts hR
  refine lv_aload_n hx hb dL_law_1161 rfl (lv_at hl 2 rfl) ?_
  refine lv_aload_n hx hb dL_law_1162 rfl (lv_at hl 3 rfl) ?_
  refine lv_iload_n hx hb dL_law_1163 rfl (lv_at hl 0 rfl) ?_
  refine g_iconst (n := 1) C0 rfl dL_law_1164 ?_
  refine g_iadd (n := i + 1) C0 rfl dL_law_1165 ?_
  refine g_sld (i := i + 1) C0 X hX hbl hbA (by omega) hL dL_law_1166 ?_
  refine lv_aload_n hx hb dL_law_1167 rfl (lv_at hl 3 rfl) ?_
  refine lv_iload_n hx hb dL_law_1168 rfl (lv_at hl 0 rfl) ?_
  refine g_iconst (n := 2) C0 rfl dL_law_1169 ?_
  refine g_iadd (n := i + 2) C0 rfl dL_law_1170 ?_
  refine g_sld (i := i + 2) C0 X hX hbl hbA (by omega) hL dL_law_1171 ?_
  refine lv_aload_n hx hb dL_law_1172 rfl (lv_at hl 3 rfl) ?_
  refine lv_iload_n hx hb dL_law_1173 rfl (lv_at hl 0 rfl) ?_
  refine g_iconst (n := 3) C0 rfl dL_law_1174 ?_
  refine g_iadd (n := i + 3) C0 rfl dL_law_1175 ?_
  refine g_sld (i := i + 3) C0 X hX hbl hbA (by omega) hL dL_law_1176 ?_
  refine lv_aload_n hx hb dL_law_1177 rfl (lv_at hl 3 rfl) ?_
  refine lv_iload_n hx hb dL_law_1178 rfl (lv_at hl 0 rfl) ?_
  refine g_iconst (n := 4) C0 rfl dL_law_1179 ?_
  refine g_iadd (n := i + 4) C0 rfl dL_law_1180 ?_
  refine g_sld (i := i + 4) C0 X hX hbl hbA (by omega) hL dL_law_1181 ?_
  refine lv_aload_n hx hb dL_law_1182 rfl (lv_at hl 3 rfl) ?_
  refine lv_iload_n hx hb dL_law_1183 rfl (lv_at hl 0 rfl) ?_
  refine g_iconst (n := 5) C0 rfl dL_law_1184 ?_
  refine g_iadd (n := i + 5) C0 rfl dL_law_1185 ?_
  refine g_sld (i := i + 5) C0 X hX hbl hbA (by omega) hL dL_law_1186 ?_
  refine b_callV (nb := 17) (As := [.int (xs (i + 1)), .int (xs (i + 2)), .int (xs (i + 3)), .int (xs (i + 4)), .int (xs (i + 5))]) (rest := []) (cs := [lW a (u 0) (u 1) (u 8 0) (u 8 1) (u 8 2) (u 5) (u 8 3) kb rf, gW tk (u 0) G d e, gW tk (u 1) T td te]) (rs := [gW tk (u 3) I0 di ei, gW tk (u 4) J0 dj ej, imW tk (u 8 0) (u 3 0) (u 4 0), bW (u 8 1) ch am, rV (u 8 2) (u 8 4) (u 2) K wt, tW tk (u 8 4) (u 8 5) n t, gW tk (u 2) D0 dd de, sW tk (u 5) sn pl lo le, hsW tk (u 8 3) (u 6 0) (u 6 1) (u 6 2) (u 6 3), shW tk (u 6 0) (u 7 0) (kn 0) (kl 0) (kc 0), shW tk (u 6 1) (u 7 1) (kn 1) (kl 1) (kc 1), shW tk (u 6 2) (u 7 2) (kn 2) (kl 2) (kc 2), shW tk (u 6 3) (u 7 3) (kn 3) (kl 3) (kc 3), mW tk h Mt hi la ce]) (fun u6 => [lW a (u 0) (u 1) (u 8 0) (u 8 1) (u 8 2) (u 5) (u 8 3) kb rf, gW tk (u 0) G u6.1 u6.2.1, gW tk (u 1) u6.2.2.1 u6.2.2.2.1 u6.2.2.2.2]) (C0.sz hl) X (c_X6_luck l D tk a (u 0) (u 1) (u 8 0) (u 8 1) (u 8 2) (u 5) (u 8 3) kb rf G d e T td te (xs (i + 1)) (xs (i + 2)) (xs (i + 3)) (xs (i + 4)) (xs (i + 5)) (by assumption)) ⟨tb637, tb640, tb1, ⟨by decide, by decide, rfl⟩, rfl, rfl, Nat.le_of_ble_eq_true rfl, Nat.le_of_ble_eq_true rfl⟩ tb638 tb639 6 rfl rfl rfl rfl [0, 1, 2] [3, 4, 5, 6, 7, 8, 9, 10, 11, 12, 13, 14, 15, 16] rfl (by decide +kernel) rfl rfl rfl (fun _ => rfl) (Nat.le_of_ble_eq_true rfl) ⟨Nat.le_of_ble_eq_true rfl, Nat.le_of_ble_eq_true rfl⟩ dL_law_1187 (fun u6 H locs _ X => ?_)
  have X : Hx D zA zs H locs (bflat (lawB tk a u h G u6.1 u6.2.1 u6.2.2.1 u6.2.2.2.1 u6.2.2.2.2 I0 di ei J0 dj ej ch am K wt n t D0 dd de sn pl lo le kb rf kn kl kc Mt hi la ce)) := X.blk (nb := 17) [14, 15, 16, 0, 1, 2, 3, 4, 5, 6, 7, 8, 9, 10, 11, 12, 13] rfl (by decide +kernel) rfl
  refine lv_aload_n hx hb dL_law_1190 rfl (lv_at hl 1 rfl) ?_
  refine lv_aload_n hx hb dL_law_1191 rfl (lv_at hl 3 rfl) ?_
  refine lv_iload_n hx hb dL_law_1192 rfl (lv_at hl 0 rfl) ?_
  refine g_iconst (n := 1) C0 rfl dL_law_1193 ?_
  refine g_iadd (n := i + 1) C0 rfl dL_law_1194 ?_
  refine g_sld (i := i + 1) C0 X hX hbl hbA (by omega) hL dL_law_1195 ?_
  refine lv_aload_n hx hb dL_law_1196 rfl (lv_at hl 3 rfl) ?_
  refine lv_iload_n hx hb dL_law_1197 rfl (lv_at hl 0 rfl) ?_
  refine g_iconst (n := 2) C0 rfl dL_law_1198 ?_
  refine g_iadd (n := i + 2) C0 rfl dL_law_1199 ?_
  refine g_sld (i := i + 2) C0 X hX hbl hbA (by omega) hL dL_law_1200 ?_
  refine lv_aload_n hx hb dL_law_1201 rfl (lv_at hl 3 rfl) ?_
  refine lv_iload_n hx hb dL_law_1202 rfl (lv_at hl 0 rfl) ?_
  refine g_iconst (n := 3) C0 rfl dL_law_1203 ?_
  refine g_iadd (n := i + 3) C0 rfl dL_law_1204 ?_
  refine g_sld (i := i + 3) C0 X hX hbl hbA (by omega) hL dL_law_1205 ?_
  refine lv_aload_n hx hb dL_law_1206 rfl (lv_at hl 3 rfl) ?_
  refine lv_iload_n hx hb dL_law_1207 rfl (lv_at hl 0 rfl) ?_
  refine g_iconst (n := 4) C0 rfl dL_law_1208 ?_
  refine g_iadd (n := i + 4) C0 rfl dL_law_1209 ?_
  refine g_sld (i := i + 4) C0 X hX hbl hbA (by omega) hL dL_law_1210 ?_
  refine lv_aload_n hx hb dL_law_1211 rfl (lv_at hl 3 rfl) ?_
  refine lv_iload_n hx hb dL_law_1212 rfl (lv_at hl 0 rfl) ?_
  refine g_iconst (n := 5) C0 rfl dL_law_1213 ?_
  refine g_iadd (n := i + 5) C0 rfl dL_law_1214 ?_
  refine g_sld (i := i + 5) C0 X hX hbl hbA (by omega) hL dL_law_1215 ?_
  refine b_callV (nb := 17) (As := [.int (xs (i + 1)), .int (xs (i + 2)), .int (xs (i + 3)), .int (xs (i + 4)), .int (xs (i + 5))]) (rest := [.long (a_luck (cgv G) (xs (i + 1)) (xs (i + 2)) (xs (i + 3)) (xs (i + 4)) (xs (i + 5)))]) (cs := [mW tk h Mt hi la ce]) (rs := [lW a (u 0) (u 1) (u 8 0) (u 8 1) (u 8 2) (u 5) (u 8 3) kb rf, gW tk (u 0) G u6.1 u6.2.1, gW tk (u 1) u6.2.2.1 u6.2.2.2.1 u6.2.2.2.2, gW tk (u 3) I0 di ei, gW tk (u 4) J0 dj ej, imW tk (u 8 0) (u 3 0) (u 4 0), bW (u 8 1) ch am, rV (u 8 2) (u 8 4) (u 2) K wt, tW tk (u 8 4) (u 8 5) n t, gW tk (u 2) D0 dd de, sW tk (u 5) sn pl lo le, hsW tk (u 8 3) (u 6 0) (u 6 1) (u 6 2) (u 6 3), shW tk (u 6 0) (u 7 0) (kn 0) (kl 0) (kc 0), shW tk (u 6 1) (u 7 1) (kn 1) (kl 1) (kc 1), shW tk (u 6 2) (u 7 2) (kn 2) (kl 2) (kc 2), shW tk (u 6 3) (u 7 3) (kn 3) (kl 3) (kc 3)]) (fun u7 => [mW tk h (u3 (u3 Mt 0 u7.1) 6 u7.2) hi la ce]) (C0.sz hl) X (c_X7_luck l D tk h Mt hi la ce (xs (i + 1)) (xs (i + 2)) (xs (i + 3)) (xs (i + 4)) (xs (i + 5)) (by assumption)) ⟨tb1120, tb1123, tb8, ⟨by decide, by decide, rfl⟩, rfl, rfl, Nat.le_of_ble_eq_true rfl, Nat.le_of_ble_eq_true rfl⟩ tb1121 tb1122 7 rfl rfl rfl rfl [16] [0, 1, 2, 3, 4, 5, 6, 7, 8, 9, 10, 11, 12, 13, 14, 15] rfl (by decide +kernel) rfl rfl rfl (fun _ => rfl) (Nat.le_of_ble_eq_true rfl) ⟨Nat.le_of_ble_eq_true rfl, Nat.le_of_ble_eq_true rfl⟩ dL_law_1216 (fun u7 H locs hp7 X => ?_)
  have X : Hx D zA zs H locs (bflat (lawB tk a u h G u6.1 u6.2.1 u6.2.2.1 u6.2.2.2.1 u6.2.2.2.2 I0 di ei J0 dj ej ch am K wt n t D0 dd de sn pl lo le kb rf kn kl kc (u3 (u3 Mt 0 u7.1) 6 u7.2) hi la ce)) := X
  refine g_lcmpR_eq (x := a_luck (cgv G) (xs (i + 1)) (xs (i + 2)) (xs (i + 3)) (xs (i + 4)) (xs (i + 5))) (y := a_luck (pgv Mt 0) (xs (i + 1)) (xs (i + 2)) (xs (i + 3)) (xs (i + 4)) (xs (i + 5))) C0 dL_law_1219 dL_law_1220 rfl (fun _ => ?_) (fun q => absurd (q_luck hR (xs (i + 1)) (xs (i + 2)) (xs (i + 3)) (xs (i + 4)) (xs (i + 5)) u6 u7 hp7) q)
  exact hG G u6.1 u6.2.1 u6.2.2.1 u6.2.2.2.1 u6.2.2.2.2 I0 di ei J0 dj ej ch am K wt n t D0 dd de sn pl lo le kb rf kn kl kc (u3 (u3 Mt 0 u7.1) 6 u7.2) hi la ce (r_luck hR (xs (i + 1)) (xs (i + 2)) (xs (i + 3)) (xs (i + 4)) (xs (i + 5)) u6 u7 hp7) H locs ls X hl
set_option maxHeartbeats 4000000 in
set_option maxRecDepth 100000 in
theorem lw_mean {zp : Program} {l : Launch} {ze : Env} {zs : State} {zm : MethodId} {zb : List Frame} {zt : Method} {zc : Code} {D : va_G} {zA : Nat → Prop} {tk : Nat → ClassId} {sK sV : Nat → Nat} {zQ : State → Prop} {b L : Nat} {xs : Nat → Int32} {a : Nat} {u : Nat → Nat → Nat} {h : Nat → Nat} {i : Nat} (hC : LC0 zp zs zm zc D zA tk sK sV b L xs) (hi : i + 6 ≤ L) (hG : LG zp l ze zs zm zb zt zc D zA tk zQ b a u h i) {G : Nat → Nat → Nat} {d : Nat → Nat} {e : Nat → Nat} {T : Nat → Nat → Nat} {td : Nat → Nat} {te : Nat → Nat} {I0 : Nat → Nat → Nat} {di : Nat → Nat} {ei : Nat → Nat} {J0 : Nat → Nat → Nat} {dj : Nat → Nat} {ej : Nat → Nat} {ch : Int32} {am : Int32} {K : Nat → Nat → Nat} {wt : Bool} {n : Nat} {t : Nat → Nat} {D0 : Nat → Nat → Nat} {dd : Nat → Nat} {de : Nat → Nat} {sn : Nat} {pl : Nat → Nat} {lo : Nat → Nat} {le : Nat → Nat} {kb : Nat} {rf : Nat} {kn : Nat → Nat} {kl : Nat → Int32} {kc : Nat → Nat → Int32} {Mt : Nat → Nat → Nat} {hi : Int32} {la : Nat → Int32} {ce : Nat → Int32} (hR : Rel G I0 J0 kb n t sn pl lo K rf kn kl kc Mt la ce) {H : Heap} {locs : List Loc} {ls : Array Slot} (X : Hx D zA zs H locs (bflat (lawB tk a u h G d e T td te I0 di ei J0 dj ej ch am K wt n t D0 dd de sn pl lo le kb rf kn kl kc Mt hi la ce))) (hl : lv_has ls 4 [(3, .int (nI i)), (2, .ref (h 0)), (1, .ref a), (0, .ref b)]) : W zp l ze room_1 zs zm #[Value.ref b] zb zt zc H locs 83 1802 zQ (F0 zm 1225 ls []) := by
  obtain ⟨C0, S0, hX, hbl, hbA, hL⟩ := id hC
  have hx := C0.1
  have hb := C0.2.1
  obtain ⟨f1, f2, f3, f4, f5, f6, f7, f8, f9, f10, f11, f12, f13, f14, f15, f16, f17, f18, f19, f20, f21, f22⟩ := rel_facts hR
  refine lv_aload_n hx hb dL_law_1225 rfl (lv_at hl 2 rfl) ?_
  refine lv_aload_n hx hb dL_law_1226 rfl (lv_at hl 3 rfl) ?_
  refine lv_iload_n hx hb dL_law_1227 rfl (lv_at hl 0 rfl) ?_
  refine g_iconst (n := 1) C0 rfl dL_law_1228 ?_
  refine g_iadd (n := i + 1) C0 rfl dL_law_1229 ?_
  refine g_sld (i := i + 1) C0 X hX hbl hbA (by omega) hL dL_law_1230 ?_
  refine lv_aload_n hx hb dL_law_1231 rfl (lv_at hl 3 rfl) ?_
  refine lv_iload_n hx hb dL_law_1232 rfl (lv_at hl 0 rfl) ?_
  refine g_iconst (n := 2) C0 rfl dL_law_1233 ?_
  refine g_iadd (n := i + 2) C0 rfl dL_law_1234 ?_
  refine g_sld (i := i + 2) C0 X hX hbl hbA (by omega) hL dL_law_1235 ?_
  refine lv_aload_n hx hb dL_law_1236 rfl (lv_at hl 3 rfl) ?_
  refine lv_iload_n hx hb dL_law_1237 rfl (lv_at hl 0 rfl) ?_
  refine g_iconst (n := 3) C0 rfl dL_law_1238 ?_
  refine g_iadd (n := i + 3) C0 rfl dL_law_1239 ?_
  refine g_sld (i := i + 3) C0 X hX hbl hbA (by omega) hL dL_law_1240 ?_
  refine lv_aload_n hx hb dL_law_1241 rfl (lv_at hl 3 rfl) ?_
  refine lv_iload_n hx hb dL_law_1242 rfl (lv_at hl 0 rfl) ?_
  refine g_iconst (n := 4) C0 rfl dL_law_1243 ?_
  refine g_iadd (n := i + 4) C0 rfl dL_law_1244 ?_
  refine g_sld (i := i + 4) C0 X hX hbl hbA (by omega) hL dL_law_1245 ?_
  refine b_callV (nb := 17) (As := [.int (xs (i + 1)), .int (xs (i + 2)), .int (xs (i + 3)), .int (xs (i + 4))]) (rest := []) (cs := [lW a (u 0) (u 1) (u 8 0) (u 8 1) (u 8 2) (u 5) (u 8 3) kb rf, gW tk (u 0) G d e, gW tk (u 1) T td te]) (rs := [gW tk (u 3) I0 di ei, gW tk (u 4) J0 dj ej, imW tk (u 8 0) (u 3 0) (u 4 0), bW (u 8 1) ch am, rV (u 8 2) (u 8 4) (u 2) K wt, tW tk (u 8 4) (u 8 5) n t, gW tk (u 2) D0 dd de, sW tk (u 5) sn pl lo le, hsW tk (u 8 3) (u 6 0) (u 6 1) (u 6 2) (u 6 3), shW tk (u 6 0) (u 7 0) (kn 0) (kl 0) (kc 0), shW tk (u 6 1) (u 7 1) (kn 1) (kl 1) (kc 1), shW tk (u 6 2) (u 7 2) (kn 2) (kl 2) (kc 2), shW tk (u 6 3) (u 7 3) (kn 3) (kl 3) (kc 3), mW tk h Mt hi la ce]) (fun u6 => [lW a (u 0) (u 1) (u 8 0) (u 8 1) (u 8 2) (u 5) (u 8 3) kb rf, gW tk (u 0) G u6.1 u6.2.1, gW tk (u 1) u6.2.2.1 u6.2.2.2.1 u6.2.2.2.2]) (C0.sz hl) X (c_X6_mean l D tk a (u 0) (u 1) (u 8 0) (u 8 1) (u 8 2) (u 5) (u 8 3) kb rf G d e T td te (xs (i + 1)) (xs (i + 2)) (xs (i + 3)) (xs (i + 4)) (by assumption)) ⟨tb658, tb661, tb1, ⟨by decide, by decide, rfl⟩, rfl, rfl, Nat.le_of_ble_eq_true rfl, Nat.le_of_ble_eq_true rfl⟩ tb659 tb660 6 rfl rfl rfl rfl [0, 1, 2] [3, 4, 5, 6, 7, 8, 9, 10, 11, 12, 13, 14, 15, 16] rfl (by decide +kernel) rfl rfl rfl (fun _ => rfl) (Nat.le_of_ble_eq_true rfl) ⟨Nat.le_of_ble_eq_true rfl, Nat.le_of_ble_eq_true rfl⟩ dL_law_1246 (fun u6 H locs _ X => ?_)
  have X : Hx D zA zs H locs (bflat (lawB tk a u h G u6.1 u6.2.1 u6.2.2.1 u6.2.2.2.1 u6.2.2.2.2 I0 di ei J0 dj ej ch am K wt n t D0 dd de sn pl lo le kb rf kn kl kc Mt hi la ce)) := X.blk (nb := 17) [14, 15, 16, 0, 1, 2, 3, 4, 5, 6, 7, 8, 9, 10, 11, 12, 13] rfl (by decide +kernel) rfl
  refine lv_aload_n hx hb dL_law_1249 rfl (lv_at hl 1 rfl) ?_
  refine lv_aload_n hx hb dL_law_1250 rfl (lv_at hl 3 rfl) ?_
  refine lv_iload_n hx hb dL_law_1251 rfl (lv_at hl 0 rfl) ?_
  refine g_iconst (n := 1) C0 rfl dL_law_1252 ?_
  refine g_iadd (n := i + 1) C0 rfl dL_law_1253 ?_
  refine g_sld (i := i + 1) C0 X hX hbl hbA (by omega) hL dL_law_1254 ?_
  refine lv_aload_n hx hb dL_law_1255 rfl (lv_at hl 3 rfl) ?_
  refine lv_iload_n hx hb dL_law_1256 rfl (lv_at hl 0 rfl) ?_
  refine g_iconst (n := 2) C0 rfl dL_law_1257 ?_
  refine g_iadd (n := i + 2) C0 rfl dL_law_1258 ?_
  refine g_sld (i := i + 2) C0 X hX hbl hbA (by omega) hL dL_law_1259 ?_
  refine lv_aload_n hx hb dL_law_1260 rfl (lv_at hl 3 rfl) ?_
  refine lv_iload_n hx hb dL_law_1261 rfl (lv_at hl 0 rfl) ?_
  refine g_iconst (n := 3) C0 rfl dL_law_1262 ?_
  refine g_iadd (n := i + 3) C0 rfl dL_law_1263 ?_
  refine g_sld (i := i + 3) C0 X hX hbl hbA (by omega) hL dL_law_1264 ?_
  refine lv_aload_n hx hb dL_law_1265 rfl (lv_at hl 3 rfl) ?_
  refine lv_iload_n hx hb dL_law_1266 rfl (lv_at hl 0 rfl) ?_
  refine g_iconst (n := 4) C0 rfl dL_law_1267 ?_
  refine g_iadd (n := i + 4) C0 rfl dL_law_1268 ?_
  refine g_sld (i := i + 4) C0 X hX hbl hbA (by omega) hL dL_law_1269 ?_
  refine b_callV (nb := 17) (As := [.int (xs (i + 1)), .int (xs (i + 2)), .int (xs (i + 3)), .int (xs (i + 4))]) (rest := [.long (a_mean (cgv G) (xs (i + 1)) (xs (i + 2)) (xs (i + 3)) (xs (i + 4)))]) (cs := [mW tk h Mt hi la ce]) (rs := [lW a (u 0) (u 1) (u 8 0) (u 8 1) (u 8 2) (u 5) (u 8 3) kb rf, gW tk (u 0) G u6.1 u6.2.1, gW tk (u 1) u6.2.2.1 u6.2.2.2.1 u6.2.2.2.2, gW tk (u 3) I0 di ei, gW tk (u 4) J0 dj ej, imW tk (u 8 0) (u 3 0) (u 4 0), bW (u 8 1) ch am, rV (u 8 2) (u 8 4) (u 2) K wt, tW tk (u 8 4) (u 8 5) n t, gW tk (u 2) D0 dd de, sW tk (u 5) sn pl lo le, hsW tk (u 8 3) (u 6 0) (u 6 1) (u 6 2) (u 6 3), shW tk (u 6 0) (u 7 0) (kn 0) (kl 0) (kc 0), shW tk (u 6 1) (u 7 1) (kn 1) (kl 1) (kc 1), shW tk (u 6 2) (u 7 2) (kn 2) (kl 2) (kc 2), shW tk (u 6 3) (u 7 3) (kn 3) (kl 3) (kc 3)]) (fun u7 => [mW tk h (u3 (u3 Mt 0 u7.1) 6 u7.2) hi la ce]) (C0.sz hl) X (c_X7_mean l D tk h Mt hi la ce (xs (i + 1)) (xs (i + 2)) (xs (i + 3)) (xs (i + 4)) (by assumption)) ⟨tb1133, tb1136, tb8, ⟨by decide, by decide, rfl⟩, rfl, rfl, Nat.le_of_ble_eq_true rfl, Nat.le_of_ble_eq_true rfl⟩ tb1134 tb1135 7 rfl rfl rfl rfl [16] [0, 1, 2, 3, 4, 5, 6, 7, 8, 9, 10, 11, 12, 13, 14, 15] rfl (by decide +kernel) rfl rfl rfl (fun _ => rfl) (Nat.le_of_ble_eq_true rfl) ⟨Nat.le_of_ble_eq_true rfl, Nat.le_of_ble_eq_true rfl⟩ dL_law_1270 (fun u7 H locs hp7 X => ?_)
  have X : Hx D zA zs H locs (bflat (lawB tk a u h G u6.1 u6.2.1 u6.2.2.1 u6.2.2.2.1 u6.2.2.2.2 I0 di ei J0 dj ej ch am K wt n t D0 dd de sn pl lo le kb rf kn kl kc (u3 (u3 Mt 0 u7.1) 6 u7.2) hi la ce)) := X
  refine g_lcmpR_eq (x := a_mean (cgv G) (xs (i + 1)) (xs (i + 2)) (xs (i + 3)) (xs (i + 4))) (y := a_mean (pgv Mt 0) (xs (i + 1)) (xs (i + 2)) (xs (i + 3)) (xs (i + 4))) C0 dL_law_1273 dL_law_1274 rfl (fun _ => ?_) (fun q => absurd (q_mean hR (xs (i + 1)) (xs (i + 2)) (xs (i + 3)) (xs (i + 4)) u6 u7 hp7) q)
  exact hG G u6.1 u6.2.1 u6.2.2.1 u6.2.2.2.1 u6.2.2.2.2 I0 di ei J0 dj ej ch am K wt n t D0 dd de sn pl lo le kb rf kn kl kc (u3 (u3 Mt 0 u7.1) 6 u7.2) hi la ce (r_mean hR (xs (i + 1)) (xs (i + 2)) (xs (i + 3)) (xs (i + 4)) u6 u7 hp7) H locs ls X hl
set_option maxHeartbeats 4000000 in
set_option maxRecDepth 100000 in
theorem lw_see {zp : Program} {l : Launch} {ze : Env} {zs : State} {zm : MethodId} {zb : List Frame} {zt : Method} {zc : Code} {D : va_G} {zA : Nat → Prop} {tk : Nat → ClassId} {sK sV : Nat → Nat} {zQ : State → Prop} {b L : Nat} {xs : Nat → Int32} {a : Nat} {u : Nat → Nat → Nat} {h : Nat → Nat} {i : Nat} (hC : LC0 zp zs zm zc D zA tk sK sV b L xs) (hi : i + 6 ≤ L) (hG : LG zp l ze zs zm zb zt zc D zA tk zQ b a u h i) {G : Nat → Nat → Nat} {d : Nat → Nat} {e : Nat → Nat} {T : Nat → Nat → Nat} {td : Nat → Nat} {te : Nat → Nat} {I0 : Nat → Nat → Nat} {di : Nat → Nat} {ei : Nat → Nat} {J0 : Nat → Nat → Nat} {dj : Nat → Nat} {ej : Nat → Nat} {ch : Int32} {am : Int32} {K : Nat → Nat → Nat} {wt : Bool} {n : Nat} {t : Nat → Nat} {D0 : Nat → Nat → Nat} {dd : Nat → Nat} {de : Nat → Nat} {sn : Nat} {pl : Nat → Nat} {lo : Nat → Nat} {le : Nat → Nat} {kb : Nat} {rf : Nat} {kn : Nat → Nat} {kl : Nat → Int32} {kc : Nat → Nat → Int32} {Mt : Nat → Nat → Nat} {hi : Int32} {la : Nat → Int32} {ce : Nat → Int32} (hR : Rel G I0 J0 kb n t sn pl lo K rf kn kl kc Mt la ce) {H : Heap} {locs : List Loc} {ls : Array Slot} (X : Hx D zA zs H locs (bflat (lawB tk a u h G d e T td te I0 di ei J0 dj ej ch am K wt n t D0 dd de sn pl lo le kb rf kn kl kc Mt hi la ce))) (hl : lv_has ls 4 [(3, .int (nI i)), (2, .ref (h 0)), (1, .ref a), (0, .ref b)]) : W zp l ze room_1 zs zm #[Value.ref b] zb zt zc H locs 83 1802 zQ (F0 zm 1279 ls []) := by
  obtain ⟨C0, S0, hX, hbl, hbA, hL⟩ := id hC
  have hx := C0.1
  have hb := C0.2.1
  obtain ⟨f1, f2, f3, f4, f5, f6, f7, f8, f9, f10, f11, f12, f13, f14, f15, f16, f17, f18, f19, f20, f21, f22⟩ := rel_facts hR
  refine lv_aload_n hx hb dL_law_1279 rfl (lv_at hl 2 rfl) ?_
  refine lv_aload_n hx hb dL_law_1280 rfl (lv_at hl 3 rfl) ?_
  refine lv_iload_n hx hb dL_law_1281 rfl (lv_at hl 0 rfl) ?_
  refine g_iconst (n := 1) C0 rfl dL_law_1282 ?_
  refine g_iadd (n := i + 1) C0 rfl dL_law_1283 ?_
  refine g_sld (i := i + 1) C0 X hX hbl hbA (by omega) hL dL_law_1284 ?_
  refine lv_aload_n hx hb dL_law_1285 rfl (lv_at hl 3 rfl) ?_
  refine lv_iload_n hx hb dL_law_1286 rfl (lv_at hl 0 rfl) ?_
  refine g_iconst (n := 2) C0 rfl dL_law_1287 ?_
  refine g_iadd (n := i + 2) C0 rfl dL_law_1288 ?_
  refine g_sld (i := i + 2) C0 X hX hbl hbA (by omega) hL dL_law_1289 ?_
  refine b_callV (nb := 17) (As := [.int (xs (i + 1)), .int (xs (i + 2))]) (rest := []) (cs := [lW a (u 0) (u 1) (u 8 0) (u 8 1) (u 8 2) (u 5) (u 8 3) kb rf, gW tk (u 0) G d e, sW tk (u 5) sn pl lo le]) (rs := [gW tk (u 1) T td te, gW tk (u 3) I0 di ei, gW tk (u 4) J0 dj ej, imW tk (u 8 0) (u 3 0) (u 4 0), bW (u 8 1) ch am, rV (u 8 2) (u 8 4) (u 2) K wt, tW tk (u 8 4) (u 8 5) n t, gW tk (u 2) D0 dd de, hsW tk (u 8 3) (u 6 0) (u 6 1) (u 6 2) (u 6 3), shW tk (u 6 0) (u 7 0) (kn 0) (kl 0) (kc 0), shW tk (u 6 1) (u 7 1) (kn 1) (kl 1) (kc 1), shW tk (u 6 2) (u 7 2) (kn 2) (kl 2) (kc 2), shW tk (u 6 3) (u 7 3) (kn 3) (kl 3) (kc 3), mW tk h Mt hi la ce]) (fun _ => [lW a (u 0) (u 1) (u 8 0) (u 8 1) (u 8 2) (u 5) (u 8 3) kb rf, gW tk (u 0) G d e, sW tk (u 5) (seeN (cgv G) sn (xs (i + 1)) (xs (i + 2))) (seeP (cgv G) sn pl (xs (i + 1)) (xs (i + 2))) (seeL (cgv G) sn lo (xs (i + 1)) (xs (i + 2))) le]) (C0.sz hl) X (c_X6_see l D tk a (u 0) (u 1) (u 8 0) (u 8 1) (u 8 2) (u 5) (u 8 3) kb rf G d e sn pl lo le (xs (i + 1)) (xs (i + 2)) (by assumption) (by assumption)) ⟨tb662, tb665, tb1, ⟨by decide, by decide, rfl⟩, rfl, rfl, Nat.le_of_ble_eq_true rfl, Nat.le_of_ble_eq_true rfl⟩ tb663 tb664 6 rfl rfl rfl rfl [0, 1, 10] [2, 3, 4, 5, 6, 7, 8, 9, 11, 12, 13, 14, 15, 16] rfl (by decide +kernel) rfl rfl rfl (fun _ => rfl) (Nat.le_of_ble_eq_true rfl) ⟨Nat.le_of_ble_eq_true rfl, Nat.le_of_ble_eq_true rfl⟩ dL_law_1290 (fun _ H locs _ X => ?_)
  have X : Hx D zA zs H locs (bflat (lawB tk a u h G d e T td te I0 di ei J0 dj ej ch am K wt n t D0 dd de (seeN (cgv G) sn (xs (i + 1)) (xs (i + 2))) (seeP (cgv G) sn pl (xs (i + 1)) (xs (i + 2))) (seeL (cgv G) sn lo (xs (i + 1)) (xs (i + 2))) le kb rf kn kl kc Mt hi la ce)) := X.blk (nb := 17) [14, 15, 0, 1, 2, 3, 4, 5, 6, 7, 16, 8, 9, 10, 11, 12, 13] rfl (by decide +kernel) rfl
  refine lv_aload_n hx hb dL_law_1293 rfl (lv_at hl 1 rfl) ?_
  refine lv_aload_n hx hb dL_law_1294 rfl (lv_at hl 3 rfl) ?_
  refine lv_iload_n hx hb dL_law_1295 rfl (lv_at hl 0 rfl) ?_
  refine g_iconst (n := 1) C0 rfl dL_law_1296 ?_
  refine g_iadd (n := i + 1) C0 rfl dL_law_1297 ?_
  refine g_sld (i := i + 1) C0 X hX hbl hbA (by omega) hL dL_law_1298 ?_
  refine lv_aload_n hx hb dL_law_1299 rfl (lv_at hl 3 rfl) ?_
  refine lv_iload_n hx hb dL_law_1300 rfl (lv_at hl 0 rfl) ?_
  refine g_iconst (n := 2) C0 rfl dL_law_1301 ?_
  refine g_iadd (n := i + 2) C0 rfl dL_law_1302 ?_
  refine g_sld (i := i + 2) C0 X hX hbl hbA (by omega) hL dL_law_1303 ?_
  refine b_callV (nb := 17) (As := [.int (xs (i + 1)), .int (xs (i + 2))]) (rest := [.int (a_see (cgv G) sn (xs (i + 1)) (xs (i + 2)))]) (cs := [mW tk h Mt hi la ce]) (rs := [lW a (u 0) (u 1) (u 8 0) (u 8 1) (u 8 2) (u 5) (u 8 3) kb rf, gW tk (u 0) G d e, gW tk (u 1) T td te, gW tk (u 3) I0 di ei, gW tk (u 4) J0 dj ej, imW tk (u 8 0) (u 3 0) (u 4 0), bW (u 8 1) ch am, rV (u 8 2) (u 8 4) (u 2) K wt, tW tk (u 8 4) (u 8 5) n t, gW tk (u 2) D0 dd de, sW tk (u 5) (seeN (cgv G) sn (xs (i + 1)) (xs (i + 2))) (seeP (cgv G) sn pl (xs (i + 1)) (xs (i + 2))) (seeL (cgv G) sn lo (xs (i + 1)) (xs (i + 2))) le, hsW tk (u 8 3) (u 6 0) (u 6 1) (u 6 2) (u 6 3), shW tk (u 6 0) (u 7 0) (kn 0) (kl 0) (kc 0), shW tk (u 6 1) (u 7 1) (kn 1) (kl 1) (kc 1), shW tk (u 6 2) (u 7 2) (kn 2) (kl 2) (kc 2), shW tk (u 6 3) (u 7 3) (kn 3) (kl 3) (kc 3)]) (fun _ => [mW tk h (seeM Mt (xs (i + 1)) (xs (i + 2))) hi la ce]) (C0.sz hl) X (c_X7_see l D tk h Mt hi la ce (xs (i + 1)) (xs (i + 2)) (by assumption) (by assumption)) ⟨tb1137, tb1140, tb8, ⟨by decide, by decide, rfl⟩, rfl, rfl, Nat.le_of_ble_eq_true rfl, Nat.le_of_ble_eq_true rfl⟩ tb1138 tb1139 7 rfl rfl rfl rfl [16] [0, 1, 2, 3, 4, 5, 6, 7, 8, 9, 10, 11, 12, 13, 14, 15] rfl (by decide +kernel) rfl rfl rfl (fun _ => rfl) (Nat.le_of_ble_eq_true rfl) ⟨Nat.le_of_ble_eq_true rfl, Nat.le_of_ble_eq_true rfl⟩ dL_law_1304 (fun _ H locs _ X => ?_)
  have X : Hx D zA zs H locs (bflat (lawB tk a u h G d e T td te I0 di ei J0 dj ej ch am K wt n t D0 dd de (seeN (cgv G) sn (xs (i + 1)) (xs (i + 2))) (seeP (cgv G) sn pl (xs (i + 1)) (xs (i + 2))) (seeL (cgv G) sn lo (xs (i + 1)) (xs (i + 2))) le kb rf kn kl kc (seeM Mt (xs (i + 1)) (xs (i + 2))) hi la ce)) := X
  refine lv_icmp_eq (tgt := 1691) hx hb dL_law_1307 rfl (fun _ => ?_) (fun q => absurd (q_see hR (xs (i + 1)) (xs (i + 2))) q)
  exact hG G d e T td te I0 di ei J0 dj ej ch am K wt n t D0 dd de (seeN (cgv G) sn (xs (i + 1)) (xs (i + 2))) (seeP (cgv G) sn pl (xs (i + 1)) (xs (i + 2))) (seeL (cgv G) sn lo (xs (i + 1)) (xs (i + 2))) le kb rf kn kl kc (seeM Mt (xs (i + 1)) (xs (i + 2))) hi la ce (r_see hR (xs (i + 1)) (xs (i + 2))) H locs ls X hl
