set_option maxHeartbeats 4000000 in
set_option maxRecDepth 100000 in
theorem lw_far {zp : Program} {l : Launch} {ze : Env} {zs : State} {zm : MethodId} {zb : List Frame} {zt : Method} {zc : Code} {D : va_G} {zA : Nat → Prop} {tk : Nat → ClassId} {sK sV : Nat → Nat} {zQ : State → Prop} {b L : Nat} {xs : Nat → Int32} {a : Nat} {u : Nat → Nat → Nat} {h : Nat → Nat} {i : Nat} (hC : LC0 zp zs zm zc D zA tk sK sV b L xs) (hi : i + 6 ≤ L) (hG : LG zp l ze zs zm zb zt zc D zA tk zQ b a u h i) {G : Nat → Nat → Nat} {d : Nat → Nat} {e : Nat → Nat} {T : Nat → Nat → Nat} {td : Nat → Nat} {te : Nat → Nat} {I0 : Nat → Nat → Nat} {di : Nat → Nat} {ei : Nat → Nat} {J0 : Nat → Nat → Nat} {dj : Nat → Nat} {ej : Nat → Nat} {ch : Int32} {am : Int32} {K : Nat → Nat → Nat} {wt : Bool} {n : Nat} {t : Nat → Nat} {D0 : Nat → Nat → Nat} {dd : Nat → Nat} {de : Nat → Nat} {sn : Nat} {pl : Nat → Nat} {lo : Nat → Nat} {le : Nat → Nat} {kb : Nat} {rf : Nat} {kn : Nat → Nat} {kl : Nat → Int32} {kc : Nat → Nat → Int32} {Mt : Nat → Nat → Nat} {hi : Int32} {la : Nat → Int32} {ce : Nat → Int32} (hR : Rel G I0 J0 kb n t sn pl lo K rf kn kl kc Mt la ce) {H : Heap} {locs : List Loc} {ls : Array Slot} (X : Hx D zA zs H locs (bflat (lawB tk a u h G d e T td te I0 di ei J0 dj ej ch am K wt n t D0 dd de sn pl lo le kb rf kn kl kc Mt hi la ce))) (hl : lv_has ls 4 [(3, .int (nI i)), (2, .ref (h 0)), (1, .ref a), (0, .ref b)]) : W zp l ze room_1 zs zm #[Value.ref b] zb zt zc H locs 83 1802 zQ (F0 zm 422 ls []) := by
  obtain ⟨C0, S0, hX, hbl, hbA, hL⟩ := id hC
  have hx := C0.1
  have hb := C0.2.1
  obtain ⟨f1, f2, f3, f4, f5, f6, f7, f8, f9, f10, f11, f12, f13, f14, f15, f16, f17, f18, f19, f20, f21, f22⟩ := rel_facts hR
  refine lv_aload_n hx hb dL_law_422 rfl (lv_at hl 2 rfl) ?_
  refine lv_aload_n hx hb dL_law_423 rfl (lv_at hl 3 rfl) ?_
  refine lv_iload_n hx hb dL_law_424 rfl (lv_at hl 0 rfl) ?_
  refine g_iconst (n := 1) C0 rfl dL_law_425 ?_
  refine g_iadd (n := i + 1) C0 rfl dL_law_426 ?_
  refine g_sld (i := i + 1) C0 X hX hbl hbA (by omega) hL dL_law_427 ?_
  refine lv_aload_n hx hb dL_law_428 rfl (lv_at hl 3 rfl) ?_
  refine lv_iload_n hx hb dL_law_429 rfl (lv_at hl 0 rfl) ?_
  refine g_iconst (n := 2) C0 rfl dL_law_430 ?_
  refine g_iadd (n := i + 2) C0 rfl dL_law_431 ?_
  refine g_sld (i := i + 2) C0 X hX hbl hbA (by omega) hL dL_law_432 ?_
  refine b_callV (nb := 17) (As := [.int (xs (i + 1)), .int (xs (i + 2))]) (rest := []) (cs := [lW a (u 0) (u 1) (u 8 0) (u 8 1) (u 8 2) (u 5) (u 8 3) kb rf, gW tk (u 0) G d e]) (rs := [gW tk (u 1) T td te, gW tk (u 3) I0 di ei, gW tk (u 4) J0 dj ej, imW tk (u 8 0) (u 3 0) (u 4 0), bW (u 8 1) ch am, rV (u 8 2) (u 8 4) (u 2) K wt, tW tk (u 8 4) (u 8 5) n t, gW tk (u 2) D0 dd de, sW tk (u 5) sn pl lo le, hsW tk (u 8 3) (u 6 0) (u 6 1) (u 6 2) (u 6 3), shW tk (u 6 0) (u 7 0) (kn 0) (kl 0) (kc 0), shW tk (u 6 1) (u 7 1) (kn 1) (kl 1) (kc 1), shW tk (u 6 2) (u 7 2) (kn 2) (kl 2) (kc 2), shW tk (u 6 3) (u 7 3) (kn 3) (kl 3) (kc 3), mW tk h Mt hi la ce]) (fun u6 => [lW a (u 0) (u 1) (u 8 0) (u 8 1) (u 8 2) (u 5) (u 8 3) kb rf, gW tk (u 0) G u6.1 u6.2]) (C0.sz hl) X (c_X6_far l D tk a (u 0) (u 1) (u 8 0) (u 8 1) (u 8 2) (u 5) (u 8 3) kb rf G d e (xs (i + 1)) (xs (i + 2)) (by assumption)) ⟨tb490, tb493, tb1, ⟨by decide, by decide, rfl⟩, rfl, rfl, Nat.le_of_ble_eq_true rfl, Nat.le_of_ble_eq_true rfl⟩ tb491 tb492 6 rfl rfl rfl rfl [0, 1] [2, 3, 4, 5, 6, 7, 8, 9, 10, 11, 12, 13, 14, 15, 16] rfl (by decide +kernel) rfl rfl rfl (fun _ => rfl) (Nat.le_of_ble_eq_true rfl) ⟨Nat.le_of_ble_eq_true rfl, Nat.le_of_ble_eq_true rfl⟩ dL_law_433 (fun u6 H locs _ X => ?_)
  have X : Hx D zA zs H locs (bflat (lawB tk a u h G u6.1 u6.2 T td te I0 di ei J0 dj ej ch am K wt n t D0 dd de sn pl lo le kb rf kn kl kc Mt hi la ce)) := X.blk (nb := 17) [15, 16, 0, 1, 2, 3, 4, 5, 6, 7, 8, 9, 10, 11, 12, 13, 14] rfl (by decide +kernel) rfl
  refine lv_aload_n hx hb dL_law_436 rfl (lv_at hl 1 rfl) ?_
  refine lv_aload_n hx hb dL_law_437 rfl (lv_at hl 3 rfl) ?_
  refine lv_iload_n hx hb dL_law_438 rfl (lv_at hl 0 rfl) ?_
  refine g_iconst (n := 1) C0 rfl dL_law_439 ?_
  refine g_iadd (n := i + 1) C0 rfl dL_law_440 ?_
  refine g_sld (i := i + 1) C0 X hX hbl hbA (by omega) hL dL_law_441 ?_
  refine lv_aload_n hx hb dL_law_442 rfl (lv_at hl 3 rfl) ?_
  refine lv_iload_n hx hb dL_law_443 rfl (lv_at hl 0 rfl) ?_
  refine g_iconst (n := 2) C0 rfl dL_law_444 ?_
  refine g_iadd (n := i + 2) C0 rfl dL_law_445 ?_
  refine g_sld (i := i + 2) C0 X hX hbl hbA (by omega) hL dL_law_446 ?_
  refine b_callV (nb := 17) (As := [.int (xs (i + 1)), .int (xs (i + 2))]) (rest := [.int (a_far (cgv G) (xs (i + 1)) (xs (i + 2)))]) (cs := [mW tk h Mt hi la ce]) (rs := [lW a (u 0) (u 1) (u 8 0) (u 8 1) (u 8 2) (u 5) (u 8 3) kb rf, gW tk (u 0) G u6.1 u6.2, gW tk (u 1) T td te, gW tk (u 3) I0 di ei, gW tk (u 4) J0 dj ej, imW tk (u 8 0) (u 3 0) (u 4 0), bW (u 8 1) ch am, rV (u 8 2) (u 8 4) (u 2) K wt, tW tk (u 8 4) (u 8 5) n t, gW tk (u 2) D0 dd de, sW tk (u 5) sn pl lo le, hsW tk (u 8 3) (u 6 0) (u 6 1) (u 6 2) (u 6 3), shW tk (u 6 0) (u 7 0) (kn 0) (kl 0) (kc 0), shW tk (u 6 1) (u 7 1) (kn 1) (kl 1) (kc 1), shW tk (u 6 2) (u 7 2) (kn 2) (kl 2) (kc 2), shW tk (u 6 3) (u 7 3) (kn 3) (kl 3) (kc 3)]) (fun u7 => [mW tk h (u3 Mt 6 u7) hi la ce]) (C0.sz hl) X (c_X7_far l D tk h Mt hi la ce (xs (i + 1)) (xs (i + 2)) (by assumption)) ⟨tb1001, tb1004, tb8, ⟨by decide, by decide, rfl⟩, rfl, rfl, Nat.le_of_ble_eq_true rfl, Nat.le_of_ble_eq_true rfl⟩ tb1002 tb1003 7 rfl rfl rfl rfl [16] [0, 1, 2, 3, 4, 5, 6, 7, 8, 9, 10, 11, 12, 13, 14, 15] rfl (by decide +kernel) rfl rfl rfl (fun _ => rfl) (Nat.le_of_ble_eq_true rfl) ⟨Nat.le_of_ble_eq_true rfl, Nat.le_of_ble_eq_true rfl⟩ dL_law_447 (fun u7 H locs _ X => ?_)
  have X : Hx D zA zs H locs (bflat (lawB tk a u h G u6.1 u6.2 T td te I0 di ei J0 dj ej ch am K wt n t D0 dd de sn pl lo le kb rf kn kl kc (u3 Mt 6 u7) hi la ce)) := X
  refine lv_icmp_eq (tgt := 1691) hx hb dL_law_450 rfl (fun _ => ?_) (fun q => absurd (q_far hR (xs (i + 1)) (xs (i + 2)) u6 u7) q)
  exact hG G u6.1 u6.2 T td te I0 di ei J0 dj ej ch am K wt n t D0 dd de sn pl lo le kb rf kn kl kc (u3 Mt 6 u7) hi la ce (r_far hR (xs (i + 1)) (xs (i + 2)) u6 u7) H locs ls X hl
set_option maxHeartbeats 4000000 in
set_option maxRecDepth 100000 in
theorem lw_loud {zp : Program} {l : Launch} {ze : Env} {zs : State} {zm : MethodId} {zb : List Frame} {zt : Method} {zc : Code} {D : va_G} {zA : Nat → Prop} {tk : Nat → ClassId} {sK sV : Nat → Nat} {zQ : State → Prop} {b L : Nat} {xs : Nat → Int32} {a : Nat} {u : Nat → Nat → Nat} {h : Nat → Nat} {i : Nat} (hC : LC0 zp zs zm zc D zA tk sK sV b L xs) (hi : i + 6 ≤ L) (hG : LG zp l ze zs zm zb zt zc D zA tk zQ b a u h i) {G : Nat → Nat → Nat} {d : Nat → Nat} {e : Nat → Nat} {T : Nat → Nat → Nat} {td : Nat → Nat} {te : Nat → Nat} {I0 : Nat → Nat → Nat} {di : Nat → Nat} {ei : Nat → Nat} {J0 : Nat → Nat → Nat} {dj : Nat → Nat} {ej : Nat → Nat} {ch : Int32} {am : Int32} {K : Nat → Nat → Nat} {wt : Bool} {n : Nat} {t : Nat → Nat} {D0 : Nat → Nat → Nat} {dd : Nat → Nat} {de : Nat → Nat} {sn : Nat} {pl : Nat → Nat} {lo : Nat → Nat} {le : Nat → Nat} {kb : Nat} {rf : Nat} {kn : Nat → Nat} {kl : Nat → Int32} {kc : Nat → Nat → Int32} {Mt : Nat → Nat → Nat} {hi : Int32} {la : Nat → Int32} {ce : Nat → Int32} (hR : Rel G I0 J0 kb n t sn pl lo K rf kn kl kc Mt la ce) {H : Heap} {locs : List Loc} {ls : Array Slot} (X : Hx D zA zs H locs (bflat (lawB tk a u h G d e T td te I0 di ei J0 dj ej ch am K wt n t D0 dd de sn pl lo le kb rf kn kl kc Mt hi la ce))) (hl : lv_has ls 4 [(3, .int (nI i)), (2, .ref (h 0)), (1, .ref a), (0, .ref b)]) : W zp l ze room_1 zs zm #[Value.ref b] zb zt zc H locs 83 1802 zQ (F0 zm 455 ls []) := by
  obtain ⟨C0, S0, hX, hbl, hbA, hL⟩ := id hC
  have hx := C0.1
  have hb := C0.2.1
  obtain ⟨f1, f2, f3, f4, f5, f6, f7, f8, f9, f10, f11, f12, f13, f14, f15, f16, f17, f18, f19, f20, f21, f22⟩ := rel_facts hR
  refine lv_aload_n hx hb dL_law_455 rfl (lv_at hl 2 rfl) ?_
  refine lv_aload_n hx hb dL_law_456 rfl (lv_at hl 3 rfl) ?_
  refine lv_iload_n hx hb dL_law_457 rfl (lv_at hl 0 rfl) ?_
  refine g_iconst (n := 1) C0 rfl dL_law_458 ?_
  refine g_iadd (n := i + 1) C0 rfl dL_law_459 ?_
  refine g_sld (i := i + 1) C0 X hX hbl hbA (by omega) hL dL_law_460 ?_
  refine lv_aload_n hx hb dL_law_461 rfl (lv_at hl 3 rfl) ?_
  refine lv_iload_n hx hb dL_law_462 rfl (lv_at hl 0 rfl) ?_
  refine g_iconst (n := 2) C0 rfl dL_law_463 ?_
  refine g_iadd (n := i + 2) C0 rfl dL_law_464 ?_
  refine g_sld (i := i + 2) C0 X hX hbl hbA (by omega) hL dL_law_465 ?_
  refine lv_aload_n hx hb dL_law_466 rfl (lv_at hl 3 rfl) ?_
  refine lv_iload_n hx hb dL_law_467 rfl (lv_at hl 0 rfl) ?_
  refine g_iconst (n := 3) C0 rfl dL_law_468 ?_
  refine g_iadd (n := i + 3) C0 rfl dL_law_469 ?_
  refine g_sld (i := i + 3) C0 X hX hbl hbA (by omega) hL dL_law_470 ?_
  refine b_callV (nb := 17) (As := [.int (xs (i + 1)), .int (xs (i + 2)), .int (xs (i + 3))]) (rest := []) (cs := [lW a (u 0) (u 1) (u 8 0) (u 8 1) (u 8 2) (u 5) (u 8 3) kb rf, gW tk (u 0) G d e]) (rs := [gW tk (u 1) T td te, gW tk (u 3) I0 di ei, gW tk (u 4) J0 dj ej, imW tk (u 8 0) (u 3 0) (u 4 0), bW (u 8 1) ch am, rV (u 8 2) (u 8 4) (u 2) K wt, tW tk (u 8 4) (u 8 5) n t, gW tk (u 2) D0 dd de, sW tk (u 5) sn pl lo le, hsW tk (u 8 3) (u 6 0) (u 6 1) (u 6 2) (u 6 3), shW tk (u 6 0) (u 7 0) (kn 0) (kl 0) (kc 0), shW tk (u 6 1) (u 7 1) (kn 1) (kl 1) (kc 1), shW tk (u 6 2) (u 7 2) (kn 2) (kl 2) (kc 2), shW tk (u 6 3) (u 7 3) (kn 3) (kl 3) (kc 3), mW tk h Mt hi la ce]) (fun u6 => [lW a (u 0) (u 1) (u 8 0) (u 8 1) (u 8 2) (u 5) (u 8 3) kb rf, gW tk (u 0) G u6.1 u6.2]) (C0.sz hl) X (c_X6_loud l D tk a (u 0) (u 1) (u 8 0) (u 8 1) (u 8 2) (u 5) (u 8 3) kb rf G d e (xs (i + 1)) (xs (i + 2)) (xs (i + 3)) (by assumption)) ⟨tb495, tb498, tb1, ⟨by decide, by decide, rfl⟩, rfl, rfl, Nat.le_of_ble_eq_true rfl, Nat.le_of_ble_eq_true rfl⟩ tb496 tb497 6 rfl rfl rfl rfl [0, 1] [2, 3, 4, 5, 6, 7, 8, 9, 10, 11, 12, 13, 14, 15, 16] rfl (by decide +kernel) rfl rfl rfl (fun _ => rfl) (Nat.le_of_ble_eq_true rfl) ⟨Nat.le_of_ble_eq_true rfl, Nat.le_of_ble_eq_true rfl⟩ dL_law_471 (fun u6 H locs _ X => ?_)
  have X : Hx D zA zs H locs (bflat (lawB tk a u h G u6.1 u6.2 T td te I0 di ei J0 dj ej ch am K wt n t D0 dd de sn pl lo le kb rf kn kl kc Mt hi la ce)) := X.blk (nb := 17) [15, 16, 0, 1, 2, 3, 4, 5, 6, 7, 8, 9, 10, 11, 12, 13, 14] rfl (by decide +kernel) rfl
  refine lv_aload_n hx hb dL_law_474 rfl (lv_at hl 1 rfl) ?_
  refine lv_aload_n hx hb dL_law_475 rfl (lv_at hl 3 rfl) ?_
  refine lv_iload_n hx hb dL_law_476 rfl (lv_at hl 0 rfl) ?_
  refine g_iconst (n := 1) C0 rfl dL_law_477 ?_
  refine g_iadd (n := i + 1) C0 rfl dL_law_478 ?_
  refine g_sld (i := i + 1) C0 X hX hbl hbA (by omega) hL dL_law_479 ?_
  refine lv_aload_n hx hb dL_law_480 rfl (lv_at hl 3 rfl) ?_
  refine lv_iload_n hx hb dL_law_481 rfl (lv_at hl 0 rfl) ?_
  refine g_iconst (n := 2) C0 rfl dL_law_482 ?_
  refine g_iadd (n := i + 2) C0 rfl dL_law_483 ?_
  refine g_sld (i := i + 2) C0 X hX hbl hbA (by omega) hL dL_law_484 ?_
  refine lv_aload_n hx hb dL_law_485 rfl (lv_at hl 3 rfl) ?_
  refine lv_iload_n hx hb dL_law_486 rfl (lv_at hl 0 rfl) ?_
  refine g_iconst (n := 3) C0 rfl dL_law_487 ?_
  refine g_iadd (n := i + 3) C0 rfl dL_law_488 ?_
  refine g_sld (i := i + 3) C0 X hX hbl hbA (by omega) hL dL_law_489 ?_
  refine b_callV (nb := 17) (As := [.int (xs (i + 1)), .int (xs (i + 2)), .int (xs (i + 3))]) (rest := [.int (a_loud (cgv G) (xs (i + 1)) (xs (i + 2)) (xs (i + 3)))]) (cs := [mW tk h Mt hi la ce]) (rs := [lW a (u 0) (u 1) (u 8 0) (u 8 1) (u 8 2) (u 5) (u 8 3) kb rf, gW tk (u 0) G u6.1 u6.2, gW tk (u 1) T td te, gW tk (u 3) I0 di ei, gW tk (u 4) J0 dj ej, imW tk (u 8 0) (u 3 0) (u 4 0), bW (u 8 1) ch am, rV (u 8 2) (u 8 4) (u 2) K wt, tW tk (u 8 4) (u 8 5) n t, gW tk (u 2) D0 dd de, sW tk (u 5) sn pl lo le, hsW tk (u 8 3) (u 6 0) (u 6 1) (u 6 2) (u 6 3), shW tk (u 6 0) (u 7 0) (kn 0) (kl 0) (kc 0), shW tk (u 6 1) (u 7 1) (kn 1) (kl 1) (kc 1), shW tk (u 6 2) (u 7 2) (kn 2) (kl 2) (kc 2), shW tk (u 6 3) (u 7 3) (kn 3) (kl 3) (kc 3)]) (fun u7 => [mW tk h (u3 Mt 6 u7) hi la ce]) (C0.sz hl) X (c_X7_loud l D tk h Mt hi la ce (xs (i + 1)) (xs (i + 2)) (xs (i + 3)) (by assumption)) ⟨tb1005, tb1008, tb8, ⟨by decide, by decide, rfl⟩, rfl, rfl, Nat.le_of_ble_eq_true rfl, Nat.le_of_ble_eq_true rfl⟩ tb1006 tb1007 7 rfl rfl rfl rfl [16] [0, 1, 2, 3, 4, 5, 6, 7, 8, 9, 10, 11, 12, 13, 14, 15] rfl (by decide +kernel) rfl rfl rfl (fun _ => rfl) (Nat.le_of_ble_eq_true rfl) ⟨Nat.le_of_ble_eq_true rfl, Nat.le_of_ble_eq_true rfl⟩ dL_law_490 (fun u7 H locs _ X => ?_)
  have X : Hx D zA zs H locs (bflat (lawB tk a u h G u6.1 u6.2 T td te I0 di ei J0 dj ej ch am K wt n t D0 dd de sn pl lo le kb rf kn kl kc (u3 Mt 6 u7) hi la ce)) := X
  refine lv_icmp_eq (tgt := 1691) hx hb dL_law_493 rfl (fun _ => ?_) (fun q => absurd (q_loud hR (xs (i + 1)) (xs (i + 2)) (xs (i + 3)) u6 u7) q)
  exact hG G u6.1 u6.2 T td te I0 di ei J0 dj ej ch am K wt n t D0 dd de sn pl lo le kb rf kn kl kc (u3 Mt 6 u7) hi la ce (r_loud hR (xs (i + 1)) (xs (i + 2)) (xs (i + 3)) u6 u7) H locs ls X hl
set_option maxHeartbeats 4000000 in
set_option maxRecDepth 100000 in
theorem lw_graft {zp : Program} {l : Launch} {ze : Env} {zs : State} {zm : MethodId} {zb : List Frame} {zt : Method} {zc : Code} {D : va_G} {zA : Nat → Prop} {tk : Nat → ClassId} {sK sV : Nat → Nat} {zQ : State → Prop} {b L : Nat} {xs : Nat → Int32} {a : Nat} {u : Nat → Nat → Nat} {h : Nat → Nat} {i : Nat} (hC : LC0 zp zs zm zc D zA tk sK sV b L xs) (hi : i + 6 ≤ L) (hG : LG zp l ze zs zm zb zt zc D zA tk zQ b a u h i) {G : Nat → Nat → Nat} {d : Nat → Nat} {e : Nat → Nat} {T : Nat → Nat → Nat} {td : Nat → Nat} {te : Nat → Nat} {I0 : Nat → Nat → Nat} {di : Nat → Nat} {ei : Nat → Nat} {J0 : Nat → Nat → Nat} {dj : Nat → Nat} {ej : Nat → Nat} {ch : Int32} {am : Int32} {K : Nat → Nat → Nat} {wt : Bool} {n : Nat} {t : Nat → Nat} {D0 : Nat → Nat → Nat} {dd : Nat → Nat} {de : Nat → Nat} {sn : Nat} {pl : Nat → Nat} {lo : Nat → Nat} {le : Nat → Nat} {kb : Nat} {rf : Nat} {kn : Nat → Nat} {kl : Nat → Int32} {kc : Nat → Nat → Int32} {Mt : Nat → Nat → Nat} {hi : Int32} {la : Nat → Int32} {ce : Nat → Int32} (hR : Rel G I0 J0 kb n t sn pl lo K rf kn kl kc Mt la ce) {H : Heap} {locs : List Loc} {ls : Array Slot} (X : Hx D zA zs H locs (bflat (lawB tk a u h G d e T td te I0 di ei J0 dj ej ch am K wt n t D0 dd de sn pl lo le kb rf kn kl kc Mt hi la ce))) (hl : lv_has ls 4 [(3, .int (nI i)), (2, .ref (h 0)), (1, .ref a), (0, .ref b)]) : W zp l ze room_1 zs zm #[Value.ref b] zb zt zc H locs 83 1802 zQ (F0 zm 498 ls []) := by
  obtain ⟨C0, S0, hX, hbl, hbA, hL⟩ := id hC
  have hx := C0.1
  have hb := C0.2.1
  obtain ⟨f1, f2, f3, f4, f5, f6, f7, f8, f9, f10, f11, f12, f13, f14, f15, f16, f17, f18, f19, f20, f21, f22⟩ := rel_facts hR
  refine lv_aload_n hx hb dL_law_498 rfl (lv_at hl 2 rfl) ?_
  refine lv_aload_n hx hb dL_law_499 rfl (lv_at hl 3 rfl) ?_
  refine lv_iload_n hx hb dL_law_500 rfl (lv_at hl 0 rfl) ?_
  refine g_iconst (n := 1) C0 rfl dL_law_501 ?_
  refine g_iadd (n := i + 1) C0 rfl dL_law_502 ?_
  refine g_sld (i := i + 1) C0 X hX hbl hbA (by omega) hL dL_law_503 ?_
  refine lv_aload_n hx hb dL_law_504 rfl (lv_at hl 3 rfl) ?_
  refine lv_iload_n hx hb dL_law_505 rfl (lv_at hl 0 rfl) ?_
  refine g_iconst (n := 2) C0 rfl dL_law_506 ?_
  refine g_iadd (n := i + 2) C0 rfl dL_law_507 ?_
  refine g_sld (i := i + 2) C0 X hX hbl hbA (by omega) hL dL_law_508 ?_
  refine b_callV (nb := 17) (As := [.int (xs (i + 1)), .int (xs (i + 2))]) (rest := []) (cs := [lW a (u 0) (u 1) (u 8 0) (u 8 1) (u 8 2) (u 5) (u 8 3) kb rf, gW tk (u 0) G d e]) (rs := [gW tk (u 1) T td te, gW tk (u 3) I0 di ei, gW tk (u 4) J0 dj ej, imW tk (u 8 0) (u 3 0) (u 4 0), bW (u 8 1) ch am, rV (u 8 2) (u 8 4) (u 2) K wt, tW tk (u 8 4) (u 8 5) n t, gW tk (u 2) D0 dd de, sW tk (u 5) sn pl lo le, hsW tk (u 8 3) (u 6 0) (u 6 1) (u 6 2) (u 6 3), shW tk (u 6 0) (u 7 0) (kn 0) (kl 0) (kc 0), shW tk (u 6 1) (u 7 1) (kn 1) (kl 1) (kc 1), shW tk (u 6 2) (u 7 2) (kn 2) (kl 2) (kc 2), shW tk (u 6 3) (u 7 3) (kn 3) (kl 3) (kc 3), mW tk h Mt hi la ce]) (fun _ => [lW a (u 0) (u 1) (u 8 0) (u 8 1) (u 8 2) (u 5) (u 8 3) kb rf, gW tk (u 0) (graftG G (xs (i + 1)) (xs (i + 2))) d e]) (C0.sz hl) X (c_X6_graft l D tk a (u 0) (u 1) (u 8 0) (u 8 1) (u 8 2) (u 5) (u 8 3) kb rf G d e (xs (i + 1)) (xs (i + 2)) (by assumption)) ⟨tb503, tb506, tb1, ⟨by decide, by decide, rfl⟩, rfl, rfl, Nat.le_of_ble_eq_true rfl, Nat.le_of_ble_eq_true rfl⟩ tb504 tb505 6 rfl rfl rfl rfl [0, 1] [2, 3, 4, 5, 6, 7, 8, 9, 10, 11, 12, 13, 14, 15, 16] rfl (by decide +kernel) rfl rfl rfl (fun _ => rfl) (Nat.le_of_ble_eq_true rfl) ⟨Nat.le_of_ble_eq_true rfl, Nat.le_of_ble_eq_true rfl⟩ dL_law_509 (fun _ H locs _ X => ?_)
  have X : Hx D zA zs H locs (bflat (lawB tk a u h (graftG G (xs (i + 1)) (xs (i + 2))) d e T td te I0 di ei J0 dj ej ch am K wt n t D0 dd de sn pl lo le kb rf kn kl kc Mt hi la ce)) := X.blk (nb := 17) [15, 16, 0, 1, 2, 3, 4, 5, 6, 7, 8, 9, 10, 11, 12, 13, 14] rfl (by decide +kernel) rfl
  refine lv_aload_n hx hb dL_law_512 rfl (lv_at hl 1 rfl) ?_
  refine lv_aload_n hx hb dL_law_513 rfl (lv_at hl 3 rfl) ?_
  refine lv_iload_n hx hb dL_law_514 rfl (lv_at hl 0 rfl) ?_
  refine g_iconst (n := 1) C0 rfl dL_law_515 ?_
  refine g_iadd (n := i + 1) C0 rfl dL_law_516 ?_
  refine g_sld (i := i + 1) C0 X hX hbl hbA (by omega) hL dL_law_517 ?_
  refine lv_aload_n hx hb dL_law_518 rfl (lv_at hl 3 rfl) ?_
  refine lv_iload_n hx hb dL_law_519 rfl (lv_at hl 0 rfl) ?_
  refine g_iconst (n := 2) C0 rfl dL_law_520 ?_
  refine g_iadd (n := i + 2) C0 rfl dL_law_521 ?_
  refine g_sld (i := i + 2) C0 X hX hbl hbA (by omega) hL dL_law_522 ?_
  refine b_callV (nb := 17) (As := [.int (xs (i + 1)), .int (xs (i + 2))]) (rest := [.int (a_graft (cgv G) (xs (i + 1)) (xs (i + 2)))]) (cs := [mW tk h Mt hi la ce]) (rs := [lW a (u 0) (u 1) (u 8 0) (u 8 1) (u 8 2) (u 5) (u 8 3) kb rf, gW tk (u 0) (graftG G (xs (i + 1)) (xs (i + 2))) d e, gW tk (u 1) T td te, gW tk (u 3) I0 di ei, gW tk (u 4) J0 dj ej, imW tk (u 8 0) (u 3 0) (u 4 0), bW (u 8 1) ch am, rV (u 8 2) (u 8 4) (u 2) K wt, tW tk (u 8 4) (u 8 5) n t, gW tk (u 2) D0 dd de, sW tk (u 5) sn pl lo le, hsW tk (u 8 3) (u 6 0) (u 6 1) (u 6 2) (u 6 3), shW tk (u 6 0) (u 7 0) (kn 0) (kl 0) (kc 0), shW tk (u 6 1) (u 7 1) (kn 1) (kl 1) (kc 1), shW tk (u 6 2) (u 7 2) (kn 2) (kl 2) (kc 2), shW tk (u 6 3) (u 7 3) (kn 3) (kl 3) (kc 3)]) (fun _ => [mW tk h (graftM Mt (xs (i + 1)) (xs (i + 2))) hi la ce]) (C0.sz hl) X (c_X7_graft l D tk h Mt hi la ce (xs (i + 1)) (xs (i + 2)) (by assumption)) ⟨tb1013, tb1016, tb8, ⟨by decide, by decide, rfl⟩, rfl, rfl, Nat.le_of_ble_eq_true rfl, Nat.le_of_ble_eq_true rfl⟩ tb1014 tb1015 7 rfl rfl rfl rfl [16] [0, 1, 2, 3, 4, 5, 6, 7, 8, 9, 10, 11, 12, 13, 14, 15] rfl (by decide +kernel) rfl rfl rfl (fun _ => rfl) (Nat.le_of_ble_eq_true rfl) ⟨Nat.le_of_ble_eq_true rfl, Nat.le_of_ble_eq_true rfl⟩ dL_law_523 (fun _ H locs _ X => ?_)
  have X : Hx D zA zs H locs (bflat (lawB tk a u h (graftG G (xs (i + 1)) (xs (i + 2))) d e T td te I0 di ei J0 dj ej ch am K wt n t D0 dd de sn pl lo le kb rf kn kl kc (graftM Mt (xs (i + 1)) (xs (i + 2))) hi la ce)) := X
  refine lv_icmp_eq (tgt := 1691) hx hb dL_law_526 rfl (fun _ => ?_) (fun q => absurd (q_graft hR (xs (i + 1)) (xs (i + 2))) q)
  exact hG (graftG G (xs (i + 1)) (xs (i + 2))) d e T td te I0 di ei J0 dj ej ch am K wt n t D0 dd de sn pl lo le kb rf kn kl kc (graftM Mt (xs (i + 1)) (xs (i + 2))) hi la ce (r_graft hR (xs (i + 1)) (xs (i + 2))) H locs ls X hl
set_option maxHeartbeats 4000000 in
set_option maxRecDepth 100000 in
theorem lw_stretch {zp : Program} {l : Launch} {ze : Env} {zs : State} {zm : MethodId} {zb : List Frame} {zt : Method} {zc : Code} {D : va_G} {zA : Nat → Prop} {tk : Nat → ClassId} {sK sV : Nat → Nat} {zQ : State → Prop} {b L : Nat} {xs : Nat → Int32} {a : Nat} {u : Nat → Nat → Nat} {h : Nat → Nat} {i : Nat} (hC : LC0 zp zs zm zc D zA tk sK sV b L xs) (hi : i + 6 ≤ L) (hG : LG zp l ze zs zm zb zt zc D zA tk zQ b a u h i) {G : Nat → Nat → Nat} {d : Nat → Nat} {e : Nat → Nat} {T : Nat → Nat → Nat} {td : Nat → Nat} {te : Nat → Nat} {I0 : Nat → Nat → Nat} {di : Nat → Nat} {ei : Nat → Nat} {J0 : Nat → Nat → Nat} {dj : Nat → Nat} {ej : Nat → Nat} {ch : Int32} {am : Int32} {K : Nat → Nat → Nat} {wt : Bool} {n : Nat} {t : Nat → Nat} {D0 : Nat → Nat → Nat} {dd : Nat → Nat} {de : Nat → Nat} {sn : Nat} {pl : Nat → Nat} {lo : Nat → Nat} {le : Nat → Nat} {kb : Nat} {rf : Nat} {kn : Nat → Nat} {kl : Nat → Int32} {kc : Nat → Nat → Int32} {Mt : Nat → Nat → Nat} {hi : Int32} {la : Nat → Int32} {ce : Nat → Int32} (hR : Rel G I0 J0 kb n t sn pl lo K rf kn kl kc Mt la ce) {H : Heap} {locs : List Loc} {ls : Array Slot} (X : Hx D zA zs H locs (bflat (lawB tk a u h G d e T td te I0 di ei J0 dj ej ch am K wt n t D0 dd de sn pl lo le kb rf kn kl kc Mt hi la ce))) (hl : lv_has ls 4 [(3, .int (nI i)), (2, .ref (h 0)), (1, .ref a), (0, .ref b)]) : W zp l ze room_1 zs zm #[Value.ref b] zb zt zc H locs 83 1802 zQ (F0 zm 531 ls []) := by
  obtain ⟨C0, S0, hX, hbl, hbA, hL⟩ := id hC
  have hx := C0.1
  have hb := C0.2.1
  obtain ⟨f1, f2, f3, f4, f5, f6, f7, f8, f9, f10, f11, f12, f13, f14, f15, f16, f17, f18, f19, f20, f21, f22⟩ := rel_facts hR
  refine lv_aload_n hx hb dL_law_531 rfl (lv_at hl 2 rfl) ?_
  refine lv_aload_n hx hb dL_law_532 rfl (lv_at hl 3 rfl) ?_
  refine lv_iload_n hx hb dL_law_533 rfl (lv_at hl 0 rfl) ?_
  refine g_iconst (n := 1) C0 rfl dL_law_534 ?_
  refine g_iadd (n := i + 1) C0 rfl dL_law_535 ?_
  refine g_sld (i := i + 1) C0 X hX hbl hbA (by omega) hL dL_law_536 ?_
  refine lv_aload_n hx hb dL_law_537 rfl (lv_at hl 3 rfl) ?_
  refine lv_iload_n hx hb dL_law_538 rfl (lv_at hl 0 rfl) ?_
  refine g_iconst (n := 2) C0 rfl dL_law_539 ?_
  refine g_iadd (n := i + 2) C0 rfl dL_law_540 ?_
  refine g_sld (i := i + 2) C0 X hX hbl hbA (by omega) hL dL_law_541 ?_
  refine b_callV (nb := 17) (As := [.int (xs (i + 1)), .int (xs (i + 2))]) (rest := []) (cs := [lW a (u 0) (u 1) (u 8 0) (u 8 1) (u 8 2) (u 5) (u 8 3) kb rf, gW tk (u 0) G d e]) (rs := [gW tk (u 1) T td te, gW tk (u 3) I0 di ei, gW tk (u 4) J0 dj ej, imW tk (u 8 0) (u 3 0) (u 4 0), bW (u 8 1) ch am, rV (u 8 2) (u 8 4) (u 2) K wt, tW tk (u 8 4) (u 8 5) n t, gW tk (u 2) D0 dd de, sW tk (u 5) sn pl lo le, hsW tk (u 8 3) (u 6 0) (u 6 1) (u 6 2) (u 6 3), shW tk (u 6 0) (u 7 0) (kn 0) (kl 0) (kc 0), shW tk (u 6 1) (u 7 1) (kn 1) (kl 1) (kc 1), shW tk (u 6 2) (u 7 2) (kn 2) (kl 2) (kc 2), shW tk (u 6 3) (u 7 3) (kn 3) (kl 3) (kc 3), mW tk h Mt hi la ce]) (fun _ => [lW a (u 0) (u 1) (u 8 0) (u 8 1) (u 8 2) (u 5) (u 8 3) kb rf, gW tk (u 0) (stretchG G (xs (i + 1)) (xs (i + 2))) d e]) (C0.sz hl) X (c_X6_stretch l D tk a (u 0) (u 1) (u 8 0) (u 8 1) (u 8 2) (u 5) (u 8 3) kb rf G d e (xs (i + 1)) (xs (i + 2)) (by assumption)) ⟨tb510, tb513, tb1, ⟨by decide, by decide, rfl⟩, rfl, rfl, Nat.le_of_ble_eq_true rfl, Nat.le_of_ble_eq_true rfl⟩ tb511 tb512 6 rfl rfl rfl rfl [0, 1] [2, 3, 4, 5, 6, 7, 8, 9, 10, 11, 12, 13, 14, 15, 16] rfl (by decide +kernel) rfl rfl rfl (fun _ => rfl) (Nat.le_of_ble_eq_true rfl) ⟨Nat.le_of_ble_eq_true rfl, Nat.le_of_ble_eq_true rfl⟩ dL_law_542 (fun _ H locs _ X => ?_)
  have X : Hx D zA zs H locs (bflat (lawB tk a u h (stretchG G (xs (i + 1)) (xs (i + 2))) d e T td te I0 di ei J0 dj ej ch am K wt n t D0 dd de sn pl lo le kb rf kn kl kc Mt hi la ce)) := X.blk (nb := 17) [15, 16, 0, 1, 2, 3, 4, 5, 6, 7, 8, 9, 10, 11, 12, 13, 14] rfl (by decide +kernel) rfl
  refine lv_aload_n hx hb dL_law_545 rfl (lv_at hl 1 rfl) ?_
  refine lv_aload_n hx hb dL_law_546 rfl (lv_at hl 3 rfl) ?_
  refine lv_iload_n hx hb dL_law_547 rfl (lv_at hl 0 rfl) ?_
  refine g_iconst (n := 1) C0 rfl dL_law_548 ?_
  refine g_iadd (n := i + 1) C0 rfl dL_law_549 ?_
  refine g_sld (i := i + 1) C0 X hX hbl hbA (by omega) hL dL_law_550 ?_
  refine lv_aload_n hx hb dL_law_551 rfl (lv_at hl 3 rfl) ?_
  refine lv_iload_n hx hb dL_law_552 rfl (lv_at hl 0 rfl) ?_
  refine g_iconst (n := 2) C0 rfl dL_law_553 ?_
  refine g_iadd (n := i + 2) C0 rfl dL_law_554 ?_
  refine g_sld (i := i + 2) C0 X hX hbl hbA (by omega) hL dL_law_555 ?_
  refine b_callV (nb := 17) (As := [.int (xs (i + 1)), .int (xs (i + 2))]) (rest := [.int (a_stretch (cgv G) (xs (i + 1)) (xs (i + 2)))]) (cs := [mW tk h Mt hi la ce]) (rs := [lW a (u 0) (u 1) (u 8 0) (u 8 1) (u 8 2) (u 5) (u 8 3) kb rf, gW tk (u 0) (stretchG G (xs (i + 1)) (xs (i + 2))) d e, gW tk (u 1) T td te, gW tk (u 3) I0 di ei, gW tk (u 4) J0 dj ej, imW tk (u 8 0) (u 3 0) (u 4 0), bW (u 8 1) ch am, rV (u 8 2) (u 8 4) (u 2) K wt, tW tk (u 8 4) (u 8 5) n t, gW tk (u 2) D0 dd de, sW tk (u 5) sn pl lo le, hsW tk (u 8 3) (u 6 0) (u 6 1) (u 6 2) (u 6 3), shW tk (u 6 0) (u 7 0) (kn 0) (kl 0) (kc 0), shW tk (u 6 1) (u 7 1) (kn 1) (kl 1) (kc 1), shW tk (u 6 2) (u 7 2) (kn 2) (kl 2) (kc 2), shW tk (u 6 3) (u 7 3) (kn 3) (kl 3) (kc 3)]) (fun _ => [mW tk h (stretchM Mt (xs (i + 1)) (xs (i + 2))) hi la ce]) (C0.sz hl) X (c_X7_stretch l D tk h Mt hi la ce (xs (i + 1)) (xs (i + 2)) (by assumption)) ⟨tb1021, tb1024, tb8, ⟨by decide, by decide, rfl⟩, rfl, rfl, Nat.le_of_ble_eq_true rfl, Nat.le_of_ble_eq_true rfl⟩ tb1022 tb1023 7 rfl rfl rfl rfl [16] [0, 1, 2, 3, 4, 5, 6, 7, 8, 9, 10, 11, 12, 13, 14, 15] rfl (by decide +kernel) rfl rfl rfl (fun _ => rfl) (Nat.le_of_ble_eq_true rfl) ⟨Nat.le_of_ble_eq_true rfl, Nat.le_of_ble_eq_true rfl⟩ dL_law_556 (fun _ H locs _ X => ?_)
  have X : Hx D zA zs H locs (bflat (lawB tk a u h (stretchG G (xs (i + 1)) (xs (i + 2))) d e T td te I0 di ei J0 dj ej ch am K wt n t D0 dd de sn pl lo le kb rf kn kl kc (stretchM Mt (xs (i + 1)) (xs (i + 2))) hi la ce)) := X
  refine lv_icmp_eq (tgt := 1691) hx hb dL_law_559 rfl (fun _ => ?_) (fun q => absurd (q_stretch hR (xs (i + 1)) (xs (i + 2))) q)
  exact hG (stretchG G (xs (i + 1)) (xs (i + 2))) d e T td te I0 di ei J0 dj ej ch am K wt n t D0 dd de sn pl lo le kb rf kn kl kc (stretchM Mt (xs (i + 1)) (xs (i + 2))) hi la ce (r_stretch hR (xs (i + 1)) (xs (i + 2))) H locs ls X hl
set_option maxHeartbeats 4000000 in
set_option maxRecDepth 100000 in
theorem lw_grow {zp : Program} {l : Launch} {ze : Env} {zs : State} {zm : MethodId} {zb : List Frame} {zt : Method} {zc : Code} {D : va_G} {zA : Nat → Prop} {tk : Nat → ClassId} {sK sV : Nat → Nat} {zQ : State → Prop} {b L : Nat} {xs : Nat → Int32} {a : Nat} {u : Nat → Nat → Nat} {h : Nat → Nat} {i : Nat} (hC : LC0 zp zs zm zc D zA tk sK sV b L xs) (hi : i + 6 ≤ L) (hG : LG zp l ze zs zm zb zt zc D zA tk zQ b a u h i) {G : Nat → Nat → Nat} {d : Nat → Nat} {e : Nat → Nat} {T : Nat → Nat → Nat} {td : Nat → Nat} {te : Nat → Nat} {I0 : Nat → Nat → Nat} {di : Nat → Nat} {ei : Nat → Nat} {J0 : Nat → Nat → Nat} {dj : Nat → Nat} {ej : Nat → Nat} {ch : Int32} {am : Int32} {K : Nat → Nat → Nat} {wt : Bool} {n : Nat} {t : Nat → Nat} {D0 : Nat → Nat → Nat} {dd : Nat → Nat} {de : Nat → Nat} {sn : Nat} {pl : Nat → Nat} {lo : Nat → Nat} {le : Nat → Nat} {kb : Nat} {rf : Nat} {kn : Nat → Nat} {kl : Nat → Int32} {kc : Nat → Nat → Int32} {Mt : Nat → Nat → Nat} {hi : Int32} {la : Nat → Int32} {ce : Nat → Int32} (hR : Rel G I0 J0 kb n t sn pl lo K rf kn kl kc Mt la ce) {H : Heap} {locs : List Loc} {ls : Array Slot} (X : Hx D zA zs H locs (bflat (lawB tk a u h G d e T td te I0 di ei J0 dj ej ch am K wt n t D0 dd de sn pl lo le kb rf kn kl kc Mt hi la ce))) (hl : lv_has ls 4 [(3, .int (nI i)), (2, .ref (h 0)), (1, .ref a), (0, .ref b)]) : W zp l ze room_1 zs zm #[Value.ref b] zb zt zc H locs 83 1802 zQ (F0 zm 564 ls []) := by
  obtain ⟨C0, S0, hX, hbl, hbA, hL⟩ := id hC
  have hx := C0.1
  have hb := C0.2.1
  obtain ⟨f1, f2, f3, f4, f5, f6, f7, f8, f9, f10, f11, f12, f13, f14, f15, f16, f17, f18, f19, f20, f21, f22⟩ := rel_facts hR
  refine lv_aload_n hx hb dL_law_564 rfl (lv_at hl 2 rfl) ?_
  refine lv_aload_n hx hb dL_law_565 rfl (lv_at hl 3 rfl) ?_
  refine lv_iload_n hx hb dL_law_566 rfl (lv_at hl 0 rfl) ?_
  refine g_iconst (n := 1) C0 rfl dL_law_567 ?_
  refine g_iadd (n := i + 1) C0 rfl dL_law_568 ?_
  refine g_sld (i := i + 1) C0 X hX hbl hbA (by omega) hL dL_law_569 ?_
  refine lv_aload_n hx hb dL_law_570 rfl (lv_at hl 3 rfl) ?_
  refine lv_iload_n hx hb dL_law_571 rfl (lv_at hl 0 rfl) ?_
  refine g_iconst (n := 2) C0 rfl dL_law_572 ?_
  refine g_iadd (n := i + 2) C0 rfl dL_law_573 ?_
  refine g_sld (i := i + 2) C0 X hX hbl hbA (by omega) hL dL_law_574 ?_
  refine lv_aload_n hx hb dL_law_575 rfl (lv_at hl 3 rfl) ?_
  refine lv_iload_n hx hb dL_law_576 rfl (lv_at hl 0 rfl) ?_
  refine g_iconst (n := 3) C0 rfl dL_law_577 ?_
  refine g_iadd (n := i + 3) C0 rfl dL_law_578 ?_
  refine g_sld (i := i + 3) C0 X hX hbl hbA (by omega) hL dL_law_579 ?_
  refine b_callV (nb := 17) (As := [.int (xs (i + 1)), .int (xs (i + 2)), .int (xs (i + 3))]) (rest := []) (cs := [lW a (u 0) (u 1) (u 8 0) (u 8 1) (u 8 2) (u 5) (u 8 3) kb rf, gW tk (u 0) G d e]) (rs := [gW tk (u 1) T td te, gW tk (u 3) I0 di ei, gW tk (u 4) J0 dj ej, imW tk (u 8 0) (u 3 0) (u 4 0), bW (u 8 1) ch am, rV (u 8 2) (u 8 4) (u 2) K wt, tW tk (u 8 4) (u 8 5) n t, gW tk (u 2) D0 dd de, sW tk (u 5) sn pl lo le, hsW tk (u 8 3) (u 6 0) (u 6 1) (u 6 2) (u 6 3), shW tk (u 6 0) (u 7 0) (kn 0) (kl 0) (kc 0), shW tk (u 6 1) (u 7 1) (kn 1) (kl 1) (kc 1), shW tk (u 6 2) (u 7 2) (kn 2) (kl 2) (kc 2), shW tk (u 6 3) (u 7 3) (kn 3) (kl 3) (kc 3), mW tk h Mt hi la ce]) (fun _ => [lW a (u 0) (u 1) (u 8 0) (u 8 1) (u 8 2) (u 5) (u 8 3) kb rf, gW tk (u 0) (growG G (xs (i + 1)) (xs (i + 2)) (xs (i + 3))) d e]) (C0.sz hl) X (c_X6_grow l D tk a (u 0) (u 1) (u 8 0) (u 8 1) (u 8 2) (u 5) (u 8 3) kb rf G d e (xs (i + 1)) (xs (i + 2)) (xs (i + 3)) (by assumption)) ⟨tb517, tb520, tb1, ⟨by decide, by decide, rfl⟩, rfl, rfl, Nat.le_of_ble_eq_true rfl, Nat.le_of_ble_eq_true rfl⟩ tb518 tb519 6 rfl rfl rfl rfl [0, 1] [2, 3, 4, 5, 6, 7, 8, 9, 10, 11, 12, 13, 14, 15, 16] rfl (by decide +kernel) rfl rfl rfl (fun _ => rfl) (Nat.le_of_ble_eq_true rfl) ⟨Nat.le_of_ble_eq_true rfl, Nat.le_of_ble_eq_true rfl⟩ dL_law_580 (fun _ H locs _ X => ?_)
  have X : Hx D zA zs H locs (bflat (lawB tk a u h (growG G (xs (i + 1)) (xs (i + 2)) (xs (i + 3))) d e T td te I0 di ei J0 dj ej ch am K wt n t D0 dd de sn pl lo le kb rf kn kl kc Mt hi la ce)) := X.blk (nb := 17) [15, 16, 0, 1, 2, 3, 4, 5, 6, 7, 8, 9, 10, 11, 12, 13, 14] rfl (by decide +kernel) rfl
  refine lv_aload_n hx hb dL_law_583 rfl (lv_at hl 1 rfl) ?_
  refine lv_aload_n hx hb dL_law_584 rfl (lv_at hl 3 rfl) ?_
  refine lv_iload_n hx hb dL_law_585 rfl (lv_at hl 0 rfl) ?_
  refine g_iconst (n := 1) C0 rfl dL_law_586 ?_
  refine g_iadd (n := i + 1) C0 rfl dL_law_587 ?_
  refine g_sld (i := i + 1) C0 X hX hbl hbA (by omega) hL dL_law_588 ?_
  refine lv_aload_n hx hb dL_law_589 rfl (lv_at hl 3 rfl) ?_
  refine lv_iload_n hx hb dL_law_590 rfl (lv_at hl 0 rfl) ?_
  refine g_iconst (n := 2) C0 rfl dL_law_591 ?_
  refine g_iadd (n := i + 2) C0 rfl dL_law_592 ?_
  refine g_sld (i := i + 2) C0 X hX hbl hbA (by omega) hL dL_law_593 ?_
  refine lv_aload_n hx hb dL_law_594 rfl (lv_at hl 3 rfl) ?_
  refine lv_iload_n hx hb dL_law_595 rfl (lv_at hl 0 rfl) ?_
  refine g_iconst (n := 3) C0 rfl dL_law_596 ?_
  refine g_iadd (n := i + 3) C0 rfl dL_law_597 ?_
  refine g_sld (i := i + 3) C0 X hX hbl hbA (by omega) hL dL_law_598 ?_
  refine b_callV (nb := 17) (As := [.int (xs (i + 1)), .int (xs (i + 2)), .int (xs (i + 3))]) (rest := [.int (a_grow (cgv G) (xs (i + 1)) (xs (i + 2)) (xs (i + 3)))]) (cs := [mW tk h Mt hi la ce]) (rs := [lW a (u 0) (u 1) (u 8 0) (u 8 1) (u 8 2) (u 5) (u 8 3) kb rf, gW tk (u 0) (growG G (xs (i + 1)) (xs (i + 2)) (xs (i + 3))) d e, gW tk (u 1) T td te, gW tk (u 3) I0 di ei, gW tk (u 4) J0 dj ej, imW tk (u 8 0) (u 3 0) (u 4 0), bW (u 8 1) ch am, rV (u 8 2) (u 8 4) (u 2) K wt, tW tk (u 8 4) (u 8 5) n t, gW tk (u 2) D0 dd de, sW tk (u 5) sn pl lo le, hsW tk (u 8 3) (u 6 0) (u 6 1) (u 6 2) (u 6 3), shW tk (u 6 0) (u 7 0) (kn 0) (kl 0) (kc 0), shW tk (u 6 1) (u 7 1) (kn 1) (kl 1) (kc 1), shW tk (u 6 2) (u 7 2) (kn 2) (kl 2) (kc 2), shW tk (u 6 3) (u 7 3) (kn 3) (kl 3) (kc 3)]) (fun _ => [mW tk h (growM Mt (xs (i + 1)) (xs (i + 2)) (xs (i + 3))) hi la ce]) (C0.sz hl) X (c_X7_grow l D tk h Mt hi la ce (xs (i + 1)) (xs (i + 2)) (xs (i + 3)) (by assumption)) ⟨tb1026, tb1029, tb8, ⟨by decide, by decide, rfl⟩, rfl, rfl, Nat.le_of_ble_eq_true rfl, Nat.le_of_ble_eq_true rfl⟩ tb1027 tb1028 7 rfl rfl rfl rfl [16] [0, 1, 2, 3, 4, 5, 6, 7, 8, 9, 10, 11, 12, 13, 14, 15] rfl (by decide +kernel) rfl rfl rfl (fun _ => rfl) (Nat.le_of_ble_eq_true rfl) ⟨Nat.le_of_ble_eq_true rfl, Nat.le_of_ble_eq_true rfl⟩ dL_law_599 (fun _ H locs _ X => ?_)
  have X : Hx D zA zs H locs (bflat (lawB tk a u h (growG G (xs (i + 1)) (xs (i + 2)) (xs (i + 3))) d e T td te I0 di ei J0 dj ej ch am K wt n t D0 dd de sn pl lo le kb rf kn kl kc (growM Mt (xs (i + 1)) (xs (i + 2)) (xs (i + 3))) hi la ce)) := X
  refine lv_icmp_eq (tgt := 1691) hx hb dL_law_602 rfl (fun _ => ?_) (fun q => absurd (q_grow hR (xs (i + 1)) (xs (i + 2)) (xs (i + 3))) q)
  exact hG (growG G (xs (i + 1)) (xs (i + 2)) (xs (i + 3))) d e T td te I0 di ei J0 dj ej ch am K wt n t D0 dd de sn pl lo le kb rf kn kl kc (growM Mt (xs (i + 1)) (xs (i + 2)) (xs (i + 3))) hi la ce (r_grow hR (xs (i + 1)) (xs (i + 2)) (xs (i + 3))) H locs ls X hl
set_option maxHeartbeats 4000000 in
set_option maxRecDepth 100000 in
theorem lw_cut {zp : Program} {l : Launch} {ze : Env} {zs : State} {zm : MethodId} {zb : List Frame} {zt : Method} {zc : Code} {D : va_G} {zA : Nat → Prop} {tk : Nat → ClassId} {sK sV : Nat → Nat} {zQ : State → Prop} {b L : Nat} {xs : Nat → Int32} {a : Nat} {u : Nat → Nat → Nat} {h : Nat → Nat} {i : Nat} (hC : LC0 zp zs zm zc D zA tk sK sV b L xs) (hi : i + 6 ≤ L) (hG : LG zp l ze zs zm zb zt zc D zA tk zQ b a u h i) {G : Nat → Nat → Nat} {d : Nat → Nat} {e : Nat → Nat} {T : Nat → Nat → Nat} {td : Nat → Nat} {te : Nat → Nat} {I0 : Nat → Nat → Nat} {di : Nat → Nat} {ei : Nat → Nat} {J0 : Nat → Nat → Nat} {dj : Nat → Nat} {ej : Nat → Nat} {ch : Int32} {am : Int32} {K : Nat → Nat → Nat} {wt : Bool} {n : Nat} {t : Nat → Nat} {D0 : Nat → Nat → Nat} {dd : Nat → Nat} {de : Nat → Nat} {sn : Nat} {pl : Nat → Nat} {lo : Nat → Nat} {le : Nat → Nat} {kb : Nat} {rf : Nat} {kn : Nat → Nat} {kl : Nat → Int32} {kc : Nat → Nat → Int32} {Mt : Nat → Nat → Nat} {hi : Int32} {la : Nat → Int32} {ce : Nat → Int32} (hR : Rel G I0 J0 kb n t sn pl lo K rf kn kl kc Mt la ce) {H : Heap} {locs : List Loc} {ls : Array Slot} (X : Hx D zA zs H locs (bflat (lawB tk a u h G d e T td te I0 di ei J0 dj ej ch am K wt n t D0 dd de sn pl lo le kb rf kn kl kc Mt hi la ce))) (hl : lv_has ls 4 [(3, .int (nI i)), (2, .ref (h 0)), (1, .ref a), (0, .ref b)]) : W zp l ze room_1 zs zm #[Value.ref b] zb zt zc H locs 83 1802 zQ (F0 zm 607 ls []) := by
  obtain ⟨C0, S0, hX, hbl, hbA, hL⟩ := id hC
  have hx := C0.1
  have hb := C0.2.1
  obtain ⟨f1, f2, f3, f4, f5, f6, f7, f8, f9, f10, f11, f12, f13, f14, f15, f16, f17, f18, f19, f20, f21, f22⟩ := rel_facts hR
  refine lv_aload_n hx hb dL_law_607 rfl (lv_at hl 2 rfl) ?_
  refine lv_aload_n hx hb dL_law_608 rfl (lv_at hl 3 rfl) ?_
  refine lv_iload_n hx hb dL_law_609 rfl (lv_at hl 0 rfl) ?_
  refine g_iconst (n := 1) C0 rfl dL_law_610 ?_
  refine g_iadd (n := i + 1) C0 rfl dL_law_611 ?_
  refine g_sld (i := i + 1) C0 X hX hbl hbA (by omega) hL dL_law_612 ?_
  refine lv_aload_n hx hb dL_law_613 rfl (lv_at hl 3 rfl) ?_
  refine lv_iload_n hx hb dL_law_614 rfl (lv_at hl 0 rfl) ?_
  refine g_iconst (n := 2) C0 rfl dL_law_615 ?_
  refine g_iadd (n := i + 2) C0 rfl dL_law_616 ?_
  refine g_sld (i := i + 2) C0 X hX hbl hbA (by omega) hL dL_law_617 ?_
  refine lv_if_eq (tgt := 625) hx hb dL_law_618 rfl (fun c1 => ?_) (fun c1 => ?_)
  · refine g_iconst (n := 0) C0 rfl dL_law_625 ?_
    refine b_callV (nb := 17) (As := [.int (xs (i + 1)), .int (nI (rb false))]) (rest := []) (cs := [lW a (u 0) (u 1) (u 8 0) (u 8 1) (u 8 2) (u 5) (u 8 3) kb rf, gW tk (u 0) G d e]) (rs := [gW tk (u 1) T td te, gW tk (u 3) I0 di ei, gW tk (u 4) J0 dj ej, imW tk (u 8 0) (u 3 0) (u 4 0), bW (u 8 1) ch am, rV (u 8 2) (u 8 4) (u 2) K wt, tW tk (u 8 4) (u 8 5) n t, gW tk (u 2) D0 dd de, sW tk (u 5) sn pl lo le, hsW tk (u 8 3) (u 6 0) (u 6 1) (u 6 2) (u 6 3), shW tk (u 6 0) (u 7 0) (kn 0) (kl 0) (kc 0), shW tk (u 6 1) (u 7 1) (kn 1) (kl 1) (kc 1), shW tk (u 6 2) (u 7 2) (kn 2) (kl 2) (kc 2), shW tk (u 6 3) (u 7 3) (kn 3) (kl 3) (kc 3), mW tk h Mt hi la ce]) (fun _ => [lW a (u 0) (u 1) (u 8 0) (u 8 1) (u 8 2) (u 5) (u 8 3) kb rf, gW tk (u 0) (cutG G (xs (i + 1)) false) d e]) (C0.sz hl) X (c_X6_cut l D tk a (u 0) (u 1) (u 8 0) (u 8 1) (u 8 2) (u 5) (u 8 3) kb rf G d e (xs (i + 1)) false (by assumption)) ⟨tb522, tb525, tb1, ⟨by decide, by decide, rfl⟩, rfl, rfl, Nat.le_of_ble_eq_true rfl, Nat.le_of_ble_eq_true rfl⟩ tb523 tb524 6 rfl rfl rfl rfl [0, 1] [2, 3, 4, 5, 6, 7, 8, 9, 10, 11, 12, 13, 14, 15, 16] rfl (by decide +kernel) rfl rfl rfl (fun _ => rfl) (Nat.le_of_ble_eq_true rfl) ⟨Nat.le_of_ble_eq_true rfl, Nat.le_of_ble_eq_true rfl⟩ dL_law_626 (fun _ H locs _ X => ?_)
    have X : Hx D zA zs H locs (bflat (lawB tk a u h (cutG G (xs (i + 1)) false) d e T td te I0 di ei J0 dj ej ch am K wt n t D0 dd de sn pl lo le kb rf kn kl kc Mt hi la ce)) := X.blk (nb := 17) [15, 16, 0, 1, 2, 3, 4, 5, 6, 7, 8, 9, 10, 11, 12, 13, 14] rfl (by decide +kernel) rfl
    refine lv_aload_n hx hb dL_law_629 rfl (lv_at hl 1 rfl) ?_
    refine lv_aload_n hx hb dL_law_630 rfl (lv_at hl 3 rfl) ?_
    refine lv_iload_n hx hb dL_law_631 rfl (lv_at hl 0 rfl) ?_
    refine g_iconst (n := 1) C0 rfl dL_law_632 ?_
    refine g_iadd (n := i + 1) C0 rfl dL_law_633 ?_
    refine g_sld (i := i + 1) C0 X hX hbl hbA (by omega) hL dL_law_634 ?_
    refine lv_aload_n hx hb dL_law_635 rfl (lv_at hl 3 rfl) ?_
    refine lv_iload_n hx hb dL_law_636 rfl (lv_at hl 0 rfl) ?_
    refine g_iconst (n := 2) C0 rfl dL_law_637 ?_
    refine g_iadd (n := i + 2) C0 rfl dL_law_638 ?_
    refine g_sld (i := i + 2) C0 X hX hbl hbA (by omega) hL dL_law_639 ?_
    refine lv_if_eq (tgt := 647) hx hb dL_law_640 rfl (fun _ => ?_) (fun q => absurd c1 q)
    refine g_iconst (n := 0) C0 rfl dL_law_647 ?_
    refine b_callV (nb := 17) (As := [.int (xs (i + 1)), .int (nI (rb false))]) (rest := [.int (a_cut (cgv G) (xs (i + 1)))]) (cs := [mW tk h Mt hi la ce]) (rs := [lW a (u 0) (u 1) (u 8 0) (u 8 1) (u 8 2) (u 5) (u 8 3) kb rf, gW tk (u 0) (cutG G (xs (i + 1)) false) d e, gW tk (u 1) T td te, gW tk (u 3) I0 di ei, gW tk (u 4) J0 dj ej, imW tk (u 8 0) (u 3 0) (u 4 0), bW (u 8 1) ch am, rV (u 8 2) (u 8 4) (u 2) K wt, tW tk (u 8 4) (u 8 5) n t, gW tk (u 2) D0 dd de, sW tk (u 5) sn pl lo le, hsW tk (u 8 3) (u 6 0) (u 6 1) (u 6 2) (u 6 3), shW tk (u 6 0) (u 7 0) (kn 0) (kl 0) (kc 0), shW tk (u 6 1) (u 7 1) (kn 1) (kl 1) (kc 1), shW tk (u 6 2) (u 7 2) (kn 2) (kl 2) (kc 2), shW tk (u 6 3) (u 7 3) (kn 3) (kl 3) (kc 3)]) (fun _ => [mW tk h (cutM Mt (xs (i + 1)) false) hi la ce]) (C0.sz hl) X (c_X7_cut l D tk h Mt hi la ce (xs (i + 1)) false (by assumption)) ⟨tb1034, tb1037, tb8, ⟨by decide, by decide, rfl⟩, rfl, rfl, Nat.le_of_ble_eq_true rfl, Nat.le_of_ble_eq_true rfl⟩ tb1035 tb1036 7 rfl rfl rfl rfl [16] [0, 1, 2, 3, 4, 5, 6, 7, 8, 9, 10, 11, 12, 13, 14, 15] rfl (by decide +kernel) rfl rfl rfl (fun _ => rfl) (Nat.le_of_ble_eq_true rfl) ⟨Nat.le_of_ble_eq_true rfl, Nat.le_of_ble_eq_true rfl⟩ dL_law_648 (fun _ H locs _ X => ?_)
    have X : Hx D zA zs H locs (bflat (lawB tk a u h (cutG G (xs (i + 1)) false) d e T td te I0 di ei J0 dj ej ch am K wt n t D0 dd de sn pl lo le kb rf kn kl kc (cutM Mt (xs (i + 1)) false) hi la ce)) := X
    refine lv_icmp_eq (tgt := 1691) hx hb dL_law_651 rfl (fun _ => ?_) (fun q => absurd (q_cut hR (xs (i + 1)) false) q)
    exact hG (cutG G (xs (i + 1)) false) d e T td te I0 di ei J0 dj ej ch am K wt n t D0 dd de sn pl lo le kb rf kn kl kc (cutM Mt (xs (i + 1)) false) hi la ce (r_cut hR (xs (i + 1)) false) H locs ls X hl
  · refine g_iconst (n := 1) C0 rfl dL_law_621 ?_
    refine lv_goto (tgt := 626) hx hb dL_law_622 (by decide) ?_
    refine b_callV (nb := 17) (As := [.int (xs (i + 1)), .int (nI (rb true))]) (rest := []) (cs := [lW a (u 0) (u 1) (u 8 0) (u 8 1) (u 8 2) (u 5) (u 8 3) kb rf, gW tk (u 0) G d e]) (rs := [gW tk (u 1) T td te, gW tk (u 3) I0 di ei, gW tk (u 4) J0 dj ej, imW tk (u 8 0) (u 3 0) (u 4 0), bW (u 8 1) ch am, rV (u 8 2) (u 8 4) (u 2) K wt, tW tk (u 8 4) (u 8 5) n t, gW tk (u 2) D0 dd de, sW tk (u 5) sn pl lo le, hsW tk (u 8 3) (u 6 0) (u 6 1) (u 6 2) (u 6 3), shW tk (u 6 0) (u 7 0) (kn 0) (kl 0) (kc 0), shW tk (u 6 1) (u 7 1) (kn 1) (kl 1) (kc 1), shW tk (u 6 2) (u 7 2) (kn 2) (kl 2) (kc 2), shW tk (u 6 3) (u 7 3) (kn 3) (kl 3) (kc 3), mW tk h Mt hi la ce]) (fun _ => [lW a (u 0) (u 1) (u 8 0) (u 8 1) (u 8 2) (u 5) (u 8 3) kb rf, gW tk (u 0) (cutG G (xs (i + 1)) true) d e]) (C0.sz hl) X (c_X6_cut l D tk a (u 0) (u 1) (u 8 0) (u 8 1) (u 8 2) (u 5) (u 8 3) kb rf G d e (xs (i + 1)) true (by assumption)) ⟨tb522, tb525, tb1, ⟨by decide, by decide, rfl⟩, rfl, rfl, Nat.le_of_ble_eq_true rfl, Nat.le_of_ble_eq_true rfl⟩ tb523 tb524 6 rfl rfl rfl rfl [0, 1] [2, 3, 4, 5, 6, 7, 8, 9, 10, 11, 12, 13, 14, 15, 16] rfl (by decide +kernel) rfl rfl rfl (fun _ => rfl) (Nat.le_of_ble_eq_true rfl) ⟨Nat.le_of_ble_eq_true rfl, Nat.le_of_ble_eq_true rfl⟩ dL_law_626 (fun _ H locs _ X => ?_)
    have X : Hx D zA zs H locs (bflat (lawB tk a u h (cutG G (xs (i + 1)) true) d e T td te I0 di ei J0 dj ej ch am K wt n t D0 dd de sn pl lo le kb rf kn kl kc Mt hi la ce)) := X.blk (nb := 17) [15, 16, 0, 1, 2, 3, 4, 5, 6, 7, 8, 9, 10, 11, 12, 13, 14] rfl (by decide +kernel) rfl
    refine lv_aload_n hx hb dL_law_629 rfl (lv_at hl 1 rfl) ?_
    refine lv_aload_n hx hb dL_law_630 rfl (lv_at hl 3 rfl) ?_
    refine lv_iload_n hx hb dL_law_631 rfl (lv_at hl 0 rfl) ?_
    refine g_iconst (n := 1) C0 rfl dL_law_632 ?_
    refine g_iadd (n := i + 1) C0 rfl dL_law_633 ?_
    refine g_sld (i := i + 1) C0 X hX hbl hbA (by omega) hL dL_law_634 ?_
    refine lv_aload_n hx hb dL_law_635 rfl (lv_at hl 3 rfl) ?_
    refine lv_iload_n hx hb dL_law_636 rfl (lv_at hl 0 rfl) ?_
    refine g_iconst (n := 2) C0 rfl dL_law_637 ?_
    refine g_iadd (n := i + 2) C0 rfl dL_law_638 ?_
    refine g_sld (i := i + 2) C0 X hX hbl hbA (by omega) hL dL_law_639 ?_
    refine lv_if_eq (tgt := 647) hx hb dL_law_640 rfl (fun q => absurd q c1) (fun _ => ?_)
    refine g_iconst (n := 1) C0 rfl dL_law_643 ?_
    refine lv_goto (tgt := 648) hx hb dL_law_644 (by decide) ?_
    refine b_callV (nb := 17) (As := [.int (xs (i + 1)), .int (nI (rb true))]) (rest := [.int (a_cut (cgv G) (xs (i + 1)))]) (cs := [mW tk h Mt hi la ce]) (rs := [lW a (u 0) (u 1) (u 8 0) (u 8 1) (u 8 2) (u 5) (u 8 3) kb rf, gW tk (u 0) (cutG G (xs (i + 1)) true) d e, gW tk (u 1) T td te, gW tk (u 3) I0 di ei, gW tk (u 4) J0 dj ej, imW tk (u 8 0) (u 3 0) (u 4 0), bW (u 8 1) ch am, rV (u 8 2) (u 8 4) (u 2) K wt, tW tk (u 8 4) (u 8 5) n t, gW tk (u 2) D0 dd de, sW tk (u 5) sn pl lo le, hsW tk (u 8 3) (u 6 0) (u 6 1) (u 6 2) (u 6 3), shW tk (u 6 0) (u 7 0) (kn 0) (kl 0) (kc 0), shW tk (u 6 1) (u 7 1) (kn 1) (kl 1) (kc 1), shW tk (u 6 2) (u 7 2) (kn 2) (kl 2) (kc 2), shW tk (u 6 3) (u 7 3) (kn 3) (kl 3) (kc 3)]) (fun _ => [mW tk h (cutM Mt (xs (i + 1)) true) hi la ce]) (C0.sz hl) X (c_X7_cut l D tk h Mt hi la ce (xs (i + 1)) true (by assumption)) ⟨tb1034, tb1037, tb8, ⟨by decide, by decide, rfl⟩, rfl, rfl, Nat.le_of_ble_eq_true rfl, Nat.le_of_ble_eq_true rfl⟩ tb1035 tb1036 7 rfl rfl rfl rfl [16] [0, 1, 2, 3, 4, 5, 6, 7, 8, 9, 10, 11, 12, 13, 14, 15] rfl (by decide +kernel) rfl rfl rfl (fun _ => rfl) (Nat.le_of_ble_eq_true rfl) ⟨Nat.le_of_ble_eq_true rfl, Nat.le_of_ble_eq_true rfl⟩ dL_law_648 (fun _ H locs _ X => ?_)
    have X : Hx D zA zs H locs (bflat (lawB tk a u h (cutG G (xs (i + 1)) true) d e T td te I0 di ei J0 dj ej ch am K wt n t D0 dd de sn pl lo le kb rf kn kl kc (cutM Mt (xs (i + 1)) true) hi la ce)) := X
    refine lv_icmp_eq (tgt := 1691) hx hb dL_law_651 rfl (fun _ => ?_) (fun q => absurd (q_cut hR (xs (i + 1)) true) q)
    exact hG (cutG G (xs (i + 1)) true) d e T td te I0 di ei J0 dj ej ch am K wt n t D0 dd de sn pl lo le kb rf kn kl kc (cutM Mt (xs (i + 1)) true) hi la ce (r_cut hR (xs (i + 1)) true) H locs ls X hl
set_option maxHeartbeats 4000000 in
set_option maxRecDepth 100000 in
theorem lw_wind {zp : Program} {l : Launch} {ze : Env} {zs : State} {zm : MethodId} {zb : List Frame} {zt : Method} {zc : Code} {D : va_G} {zA : Nat → Prop} {tk : Nat → ClassId} {sK sV : Nat → Nat} {zQ : State → Prop} {b L : Nat} {xs : Nat → Int32} {a : Nat} {u : Nat → Nat → Nat} {h : Nat → Nat} {i : Nat} (hC : LC0 zp zs zm zc D zA tk sK sV b L xs) (hi : i + 6 ≤ L) (hG : LG zp l ze zs zm zb zt zc D zA tk zQ b a u h i) {G : Nat → Nat → Nat} {d : Nat → Nat} {e : Nat → Nat} {T : Nat → Nat → Nat} {td : Nat → Nat} {te : Nat → Nat} {I0 : Nat → Nat → Nat} {di : Nat → Nat} {ei : Nat → Nat} {J0 : Nat → Nat → Nat} {dj : Nat → Nat} {ej : Nat → Nat} {ch : Int32} {am : Int32} {K : Nat → Nat → Nat} {wt : Bool} {n : Nat} {t : Nat → Nat} {D0 : Nat → Nat → Nat} {dd : Nat → Nat} {de : Nat → Nat} {sn : Nat} {pl : Nat → Nat} {lo : Nat → Nat} {le : Nat → Nat} {kb : Nat} {rf : Nat} {kn : Nat → Nat} {kl : Nat → Int32} {kc : Nat → Nat → Int32} {Mt : Nat → Nat → Nat} {hi : Int32} {la : Nat → Int32} {ce : Nat → Int32} (hR : Rel G I0 J0 kb n t sn pl lo K rf kn kl kc Mt la ce) {H : Heap} {locs : List Loc} {ls : Array Slot} (X : Hx D zA zs H locs (bflat (lawB tk a u h G d e T td te I0 di ei J0 dj ej ch am K wt n t D0 dd de sn pl lo le kb rf kn kl kc Mt hi la ce))) (hl : lv_has ls 4 [(3, .int (nI i)), (2, .ref (h 0)), (1, .ref a), (0, .ref b)]) : W zp l ze room_1 zs zm #[Value.ref b] zb zt zc H locs 83 1802 zQ (F0 zm 656 ls []) := by
  obtain ⟨C0, S0, hX, hbl, hbA, hL⟩ := id hC
  have hx := C0.1
  have hb := C0.2.1
  obtain ⟨f1, f2, f3, f4, f5, f6, f7, f8, f9, f10, f11, f12, f13, f14, f15, f16, f17, f18, f19, f20, f21, f22⟩ := rel_facts hR
  refine lv_aload_n hx hb dL_law_656 rfl (lv_at hl 2 rfl) ?_
  refine lv_aload_n hx hb dL_law_657 rfl (lv_at hl 3 rfl) ?_
  refine lv_iload_n hx hb dL_law_658 rfl (lv_at hl 0 rfl) ?_
  refine g_iconst (n := 1) C0 rfl dL_law_659 ?_
  refine g_iadd (n := i + 1) C0 rfl dL_law_660 ?_
  refine g_sld (i := i + 1) C0 X hX hbl hbA (by omega) hL dL_law_661 ?_
  refine b_callV (nb := 17) (As := [.int (xs (i + 1))]) (rest := []) (cs := [lW a (u 0) (u 1) (u 8 0) (u 8 1) (u 8 2) (u 5) (u 8 3) kb rf, gW tk (u 0) G d e]) (rs := [gW tk (u 1) T td te, gW tk (u 3) I0 di ei, gW tk (u 4) J0 dj ej, imW tk (u 8 0) (u 3 0) (u 4 0), bW (u 8 1) ch am, rV (u 8 2) (u 8 4) (u 2) K wt, tW tk (u 8 4) (u 8 5) n t, gW tk (u 2) D0 dd de, sW tk (u 5) sn pl lo le, hsW tk (u 8 3) (u 6 0) (u 6 1) (u 6 2) (u 6 3), shW tk (u 6 0) (u 7 0) (kn 0) (kl 0) (kc 0), shW tk (u 6 1) (u 7 1) (kn 1) (kl 1) (kc 1), shW tk (u 6 2) (u 7 2) (kn 2) (kl 2) (kc 2), shW tk (u 6 3) (u 7 3) (kn 3) (kl 3) (kc 3), mW tk h Mt hi la ce]) (fun _ => [lW a (u 0) (u 1) (u 8 0) (u 8 1) (u 8 2) (u 5) (u 8 3) kb rf, gW tk (u 0) (windG G (xs (i + 1))) d e]) (C0.sz hl) X (c_X6_wind l D tk a (u 0) (u 1) (u 8 0) (u 8 1) (u 8 2) (u 5) (u 8 3) kb rf G d e (xs (i + 1)) (by assumption)) ⟨tb526, tb529, tb1, ⟨by decide, by decide, rfl⟩, rfl, rfl, Nat.le_of_ble_eq_true rfl, Nat.le_of_ble_eq_true rfl⟩ tb527 tb528 6 rfl rfl rfl rfl [0, 1] [2, 3, 4, 5, 6, 7, 8, 9, 10, 11, 12, 13, 14, 15, 16] rfl (by decide +kernel) rfl rfl rfl (fun _ => rfl) (Nat.le_of_ble_eq_true rfl) ⟨Nat.le_of_ble_eq_true rfl, Nat.le_of_ble_eq_true rfl⟩ dL_law_662 (fun _ H locs _ X => ?_)
  have X : Hx D zA zs H locs (bflat (lawB tk a u h (windG G (xs (i + 1))) d e T td te I0 di ei J0 dj ej ch am K wt n t D0 dd de sn pl lo le kb rf kn kl kc Mt hi la ce)) := X.blk (nb := 17) [15, 16, 0, 1, 2, 3, 4, 5, 6, 7, 8, 9, 10, 11, 12, 13, 14] rfl (by decide +kernel) rfl
  refine lv_aload_n hx hb dL_law_665 rfl (lv_at hl 1 rfl) ?_
  refine lv_aload_n hx hb dL_law_666 rfl (lv_at hl 3 rfl) ?_
  refine lv_iload_n hx hb dL_law_667 rfl (lv_at hl 0 rfl) ?_
  refine g_iconst (n := 1) C0 rfl dL_law_668 ?_
  refine g_iadd (n := i + 1) C0 rfl dL_law_669 ?_
  refine g_sld (i := i + 1) C0 X hX hbl hbA (by omega) hL dL_law_670 ?_
  refine b_callV (nb := 17) (As := [.int (xs (i + 1))]) (rest := [.int (a_wind (cgv G) (xs (i + 1)))]) (cs := [mW tk h Mt hi la ce]) (rs := [lW a (u 0) (u 1) (u 8 0) (u 8 1) (u 8 2) (u 5) (u 8 3) kb rf, gW tk (u 0) (windG G (xs (i + 1))) d e, gW tk (u 1) T td te, gW tk (u 3) I0 di ei, gW tk (u 4) J0 dj ej, imW tk (u 8 0) (u 3 0) (u 4 0), bW (u 8 1) ch am, rV (u 8 2) (u 8 4) (u 2) K wt, tW tk (u 8 4) (u 8 5) n t, gW tk (u 2) D0 dd de, sW tk (u 5) sn pl lo le, hsW tk (u 8 3) (u 6 0) (u 6 1) (u 6 2) (u 6 3), shW tk (u 6 0) (u 7 0) (kn 0) (kl 0) (kc 0), shW tk (u 6 1) (u 7 1) (kn 1) (kl 1) (kc 1), shW tk (u 6 2) (u 7 2) (kn 2) (kl 2) (kc 2), shW tk (u 6 3) (u 7 3) (kn 3) (kl 3) (kc 3)]) (fun _ => [mW tk h (windM Mt (xs (i + 1))) hi la ce]) (C0.sz hl) X (c_X7_wind l D tk h Mt hi la ce (xs (i + 1)) (by assumption)) ⟨tb1038, tb1041, tb8, ⟨by decide, by decide, rfl⟩, rfl, rfl, Nat.le_of_ble_eq_true rfl, Nat.le_of_ble_eq_true rfl⟩ tb1039 tb1040 7 rfl rfl rfl rfl [16] [0, 1, 2, 3, 4, 5, 6, 7, 8, 9, 10, 11, 12, 13, 14, 15] rfl (by decide +kernel) rfl rfl rfl (fun _ => rfl) (Nat.le_of_ble_eq_true rfl) ⟨Nat.le_of_ble_eq_true rfl, Nat.le_of_ble_eq_true rfl⟩ dL_law_671 (fun _ H locs _ X => ?_)
  have X : Hx D zA zs H locs (bflat (lawB tk a u h (windG G (xs (i + 1))) d e T td te I0 di ei J0 dj ej ch am K wt n t D0 dd de sn pl lo le kb rf kn kl kc (windM Mt (xs (i + 1))) hi la ce)) := X
  refine lv_icmp_eq (tgt := 1691) hx hb dL_law_674 rfl (fun _ => ?_) (fun q => absurd (q_wind hR (xs (i + 1))) q)
  exact hG (windG G (xs (i + 1))) d e T td te I0 di ei J0 dj ej ch am K wt n t D0 dd de sn pl lo le kb rf kn kl kc (windM Mt (xs (i + 1))) hi la ce (r_wind hR (xs (i + 1))) H locs ls X hl
set_option maxHeartbeats 4000000 in
set_option maxRecDepth 100000 in
theorem lw_book {zp : Program} {l : Launch} {ze : Env} {zs : State} {zm : MethodId} {zb : List Frame} {zt : Method} {zc : Code} {D : va_G} {zA : Nat → Prop} {tk : Nat → ClassId} {sK sV : Nat → Nat} {zQ : State → Prop} {b L : Nat} {xs : Nat → Int32} {a : Nat} {u : Nat → Nat → Nat} {h : Nat → Nat} {i : Nat} (hC : LC0 zp zs zm zc D zA tk sK sV b L xs) (hi : i + 6 ≤ L) (hG : LG zp l ze zs zm zb zt zc D zA tk zQ b a u h i) {G : Nat → Nat → Nat} {d : Nat → Nat} {e : Nat → Nat} {T : Nat → Nat → Nat} {td : Nat → Nat} {te : Nat → Nat} {I0 : Nat → Nat → Nat} {di : Nat → Nat} {ei : Nat → Nat} {J0 : Nat → Nat → Nat} {dj : Nat → Nat} {ej : Nat → Nat} {ch : Int32} {am : Int32} {K : Nat → Nat → Nat} {wt : Bool} {n : Nat} {t : Nat → Nat} {D0 : Nat → Nat → Nat} {dd : Nat → Nat} {de : Nat → Nat} {sn : Nat} {pl : Nat → Nat} {lo : Nat → Nat} {le : Nat → Nat} {kb : Nat} {rf : Nat} {kn : Nat → Nat} {kl : Nat → Int32} {kc : Nat → Nat → Int32} {Mt : Nat → Nat → Nat} {hi : Int32} {la : Nat → Int32} {ce : Nat → Int32} (hR : Rel G I0 J0 kb n t sn pl lo K rf kn kl kc Mt la ce) {H : Heap} {locs : List Loc} {ls : Array Slot} (X : Hx D zA zs H locs (bflat (lawB tk a u h G d e T td te I0 di ei J0 dj ej ch am K wt n t D0 dd de sn pl lo le kb rf kn kl kc Mt hi la ce))) (hl : lv_has ls 4 [(3, .int (nI i)), (2, .ref (h 0)), (1, .ref a), (0, .ref b)]) : W zp l ze room_1 zs zm #[Value.ref b] zb zt zc H locs 83 1802 zQ (F0 zm 679 ls []) := by
  obtain ⟨C0, S0, hX, hbl, hbA, hL⟩ := id hC
  have hx := C0.1
  have hb := C0.2.1
  obtain ⟨f1, f2, f3, f4, f5, f6, f7, f8, f9, f10, f11, f12, f13, f14, f15, f16, f17, f18, f19, f20, f21, f22⟩ := rel_facts hR
  refine lv_aload_n hx hb dL_law_679 rfl (lv_at hl 2 rfl) ?_
  refine lv_aload_n hx hb dL_law_680 rfl (lv_at hl 3 rfl) ?_
  refine lv_iload_n hx hb dL_law_681 rfl (lv_at hl 0 rfl) ?_
  refine g_iconst (n := 1) C0 rfl dL_law_682 ?_
  refine g_iadd (n := i + 1) C0 rfl dL_law_683 ?_
  refine g_sld (i := i + 1) C0 X hX hbl hbA (by omega) hL dL_law_684 ?_
  refine lv_aload_n hx hb dL_law_685 rfl (lv_at hl 3 rfl) ?_
  refine lv_iload_n hx hb dL_law_686 rfl (lv_at hl 0 rfl) ?_
  refine g_iconst (n := 2) C0 rfl dL_law_687 ?_
  refine g_iadd (n := i + 2) C0 rfl dL_law_688 ?_
  refine g_sld (i := i + 2) C0 X hX hbl hbA (by omega) hL dL_law_689 ?_
  refine lv_aload_n hx hb dL_law_690 rfl (lv_at hl 3 rfl) ?_
  refine lv_iload_n hx hb dL_law_691 rfl (lv_at hl 0 rfl) ?_
  refine g_iconst (n := 3) C0 rfl dL_law_692 ?_
  refine g_iadd (n := i + 3) C0 rfl dL_law_693 ?_
  refine g_sld (i := i + 3) C0 X hX hbl hbA (by omega) hL dL_law_694 ?_
  refine b_callV (nb := 17) (As := [.int (xs (i + 1)), .int (xs (i + 2)), .int (xs (i + 3))]) (rest := []) (cs := [lW a (u 0) (u 1) (u 8 0) (u 8 1) (u 8 2) (u 5) (u 8 3) kb rf, gW tk (u 0) G d e]) (rs := [gW tk (u 1) T td te, gW tk (u 3) I0 di ei, gW tk (u 4) J0 dj ej, imW tk (u 8 0) (u 3 0) (u 4 0), bW (u 8 1) ch am, rV (u 8 2) (u 8 4) (u 2) K wt, tW tk (u 8 4) (u 8 5) n t, gW tk (u 2) D0 dd de, sW tk (u 5) sn pl lo le, hsW tk (u 8 3) (u 6 0) (u 6 1) (u 6 2) (u 6 3), shW tk (u 6 0) (u 7 0) (kn 0) (kl 0) (kc 0), shW tk (u 6 1) (u 7 1) (kn 1) (kl 1) (kc 1), shW tk (u 6 2) (u 7 2) (kn 2) (kl 2) (kc 2), shW tk (u 6 3) (u 7 3) (kn 3) (kl 3) (kc 3), mW tk h Mt hi la ce]) (fun _ => [lW a (u 0) (u 1) (u 8 0) (u 8 1) (u 8 2) (u 5) (u 8 3) kb rf, gW tk (u 0) (bookG G (xs (i + 1)) (xs (i + 2)) (xs (i + 3))) d e]) (C0.sz hl) X (c_X6_book l D tk a (u 0) (u 1) (u 8 0) (u 8 1) (u 8 2) (u 5) (u 8 3) kb rf G d e (xs (i + 1)) (xs (i + 2)) (xs (i + 3)) (by assumption)) ⟨tb530, tb533, tb1, ⟨by decide, by decide, rfl⟩, rfl, rfl, Nat.le_of_ble_eq_true rfl, Nat.le_of_ble_eq_true rfl⟩ tb531 tb532 6 rfl rfl rfl rfl [0, 1] [2, 3, 4, 5, 6, 7, 8, 9, 10, 11, 12, 13, 14, 15, 16] rfl (by decide +kernel) rfl rfl rfl (fun _ => rfl) (Nat.le_of_ble_eq_true rfl) ⟨Nat.le_of_ble_eq_true rfl, Nat.le_of_ble_eq_true rfl⟩ dL_law_695 (fun _ H locs _ X => ?_)
  have X : Hx D zA zs H locs (bflat (lawB tk a u h (bookG G (xs (i + 1)) (xs (i + 2)) (xs (i + 3))) d e T td te I0 di ei J0 dj ej ch am K wt n t D0 dd de sn pl lo le kb rf kn kl kc Mt hi la ce)) := X.blk (nb := 17) [15, 16, 0, 1, 2, 3, 4, 5, 6, 7, 8, 9, 10, 11, 12, 13, 14] rfl (by decide +kernel) rfl
  refine lv_aload_n hx hb dL_law_698 rfl (lv_at hl 1 rfl) ?_
  refine lv_aload_n hx hb dL_law_699 rfl (lv_at hl 3 rfl) ?_
  refine lv_iload_n hx hb dL_law_700 rfl (lv_at hl 0 rfl) ?_
  refine g_iconst (n := 1) C0 rfl dL_law_701 ?_
  refine g_iadd (n := i + 1) C0 rfl dL_law_702 ?_
  refine g_sld (i := i + 1) C0 X hX hbl hbA (by omega) hL dL_law_703 ?_
  refine lv_aload_n hx hb dL_law_704 rfl (lv_at hl 3 rfl) ?_
  refine lv_iload_n hx hb dL_law_705 rfl (lv_at hl 0 rfl) ?_
  refine g_iconst (n := 2) C0 rfl dL_law_706 ?_
  refine g_iadd (n := i + 2) C0 rfl dL_law_707 ?_
  refine g_sld (i := i + 2) C0 X hX hbl hbA (by omega) hL dL_law_708 ?_
  refine lv_aload_n hx hb dL_law_709 rfl (lv_at hl 3 rfl) ?_
  refine lv_iload_n hx hb dL_law_710 rfl (lv_at hl 0 rfl) ?_
  refine g_iconst (n := 3) C0 rfl dL_law_711 ?_
  refine g_iadd (n := i + 3) C0 rfl dL_law_712 ?_
  refine g_sld (i := i + 3) C0 X hX hbl hbA (by omega) hL dL_law_713 ?_
  refine b_callV (nb := 17) (As := [.int (xs (i + 1)), .int (xs (i + 2)), .int (xs (i + 3))]) (rest := [.int (a_book (cgv G) (xs (i + 1)) (xs (i + 2)) (xs (i + 3)))]) (cs := [mW tk h Mt hi la ce]) (rs := [lW a (u 0) (u 1) (u 8 0) (u 8 1) (u 8 2) (u 5) (u 8 3) kb rf, gW tk (u 0) (bookG G (xs (i + 1)) (xs (i + 2)) (xs (i + 3))) d e, gW tk (u 1) T td te, gW tk (u 3) I0 di ei, gW tk (u 4) J0 dj ej, imW tk (u 8 0) (u 3 0) (u 4 0), bW (u 8 1) ch am, rV (u 8 2) (u 8 4) (u 2) K wt, tW tk (u 8 4) (u 8 5) n t, gW tk (u 2) D0 dd de, sW tk (u 5) sn pl lo le, hsW tk (u 8 3) (u 6 0) (u 6 1) (u 6 2) (u 6 3), shW tk (u 6 0) (u 7 0) (kn 0) (kl 0) (kc 0), shW tk (u 6 1) (u 7 1) (kn 1) (kl 1) (kc 1), shW tk (u 6 2) (u 7 2) (kn 2) (kl 2) (kc 2), shW tk (u 6 3) (u 7 3) (kn 3) (kl 3) (kc 3)]) (fun _ => [mW tk h (bookM Mt (xs (i + 1)) (xs (i + 2)) (xs (i + 3))) hi la ce]) (C0.sz hl) X (c_X7_book l D tk h Mt hi la ce (xs (i + 1)) (xs (i + 2)) (xs (i + 3)) (by assumption)) ⟨tb1043, tb1046, tb8, ⟨by decide, by decide, rfl⟩, rfl, rfl, Nat.le_of_ble_eq_true rfl, Nat.le_of_ble_eq_true rfl⟩ tb1044 tb1045 7 rfl rfl rfl rfl [16] [0, 1, 2, 3, 4, 5, 6, 7, 8, 9, 10, 11, 12, 13, 14, 15] rfl (by decide +kernel) rfl rfl rfl (fun _ => rfl) (Nat.le_of_ble_eq_true rfl) ⟨Nat.le_of_ble_eq_true rfl, Nat.le_of_ble_eq_true rfl⟩ dL_law_714 (fun _ H locs _ X => ?_)
  have X : Hx D zA zs H locs (bflat (lawB tk a u h (bookG G (xs (i + 1)) (xs (i + 2)) (xs (i + 3))) d e T td te I0 di ei J0 dj ej ch am K wt n t D0 dd de sn pl lo le kb rf kn kl kc (bookM Mt (xs (i + 1)) (xs (i + 2)) (xs (i + 3))) hi la ce)) := X
  refine lv_icmp_eq (tgt := 1691) hx hb dL_law_717 rfl (fun _ => ?_) (fun q => absurd (q_book hR (xs (i + 1)) (xs (i + 2)) (xs (i + 3))) q)
  exact hG (bookG G (xs (i + 1)) (xs (i + 2)) (xs (i + 3))) d e T td te I0 di ei J0 dj ej ch am K wt n t D0 dd de sn pl lo le kb rf kn kl kc (bookM Mt (xs (i + 1)) (xs (i + 2)) (xs (i + 3))) hi la ce (r_book hR (xs (i + 1)) (xs (i + 2)) (xs (i + 3))) H locs ls X hl
