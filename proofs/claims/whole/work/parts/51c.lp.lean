/-! the law's loop -/
theorem lp_gt {L i : Nat} (hL : L ≤ 384) (h : ¬ nI L - nI 6 < nI i) : i < 2 ^ 30 → i + 6 ≤ L := by
  intro h3
  have h1 : (nI L - nI 6).toInt = (L : Int) - 6 := by
    rw [Int32.toInt_sub, nI_toInt (by omega), nI_toInt (by omega)]
    show ((L : Int) - 6).bmod (2 ^ 32) = (L : Int) - 6
    exact Int.bmod_eq_of_le (by omega) (by omega)
  have h2 : (nI i).toInt = (i : Int) := nI_toInt (by omega)
  rw [Int32.lt_iff_toInt_lt, h1, h2] at h
  omega
set_option maxHeartbeats 4000000 in
set_option maxRecDepth 100000 in
theorem law_sw {p : Program} {l : Launch} {ze : Env} {s : State} {m : MethodId} {below : List Frame} {meth : Method} {c : Code} {D : va_G} {A : Nat → Prop} {tk : Nat → ClassId} {sK sV : Nat → Nat} {Q : State → Prop} {b L : Nat} {xs : Nat → Int32} {a : Nat} {u : Nat → Nat → Nat} {h : Nat → Nat} {i : Nat} (hC : LC0 p s m c D A tk sK sV b L xs) (hi6 : i + 6 ≤ L) (hG : LG p l ze s m below meth c D A tk Q b a u h i) {G : Nat → Nat → Nat} {d : Nat → Nat} {e : Nat → Nat} {T : Nat → Nat → Nat} {td : Nat → Nat} {te : Nat → Nat} {I0 : Nat → Nat → Nat} {di : Nat → Nat} {ei : Nat → Nat} {J0 : Nat → Nat → Nat} {dj : Nat → Nat} {ej : Nat → Nat} {ch : Int32} {am : Int32} {K : Nat → Nat → Nat} {wt : Bool} {n : Nat} {t : Nat → Nat} {D0 : Nat → Nat → Nat} {dd : Nat → Nat} {de : Nat → Nat} {sn : Nat} {pl : Nat → Nat} {lo : Nat → Nat} {le : Nat → Nat} {kb : Nat} {rf : Nat} {kn : Nat → Nat} {kl : Nat → Int32} {kc : Nat → Nat → Int32} {Mt : Nat → Nat → Nat} {hi : Int32} {la : Nat → Int32} {ce : Nat → Int32} (hR : Rel G I0 J0 kb n t sn pl lo K rf kn kl kc Mt la ce) {H : Heap} {locs : List Loc} {ls : Array Slot} (X : Hx D A s H locs (bflat (lawB tk a u h G d e T td te I0 di ei J0 dj ej ch am K wt n t D0 dd de sn pl lo le kb rf kn kl kc Mt hi la ce))) (hl : lv_has ls 4 [(3, .int (nI i)), (2, .ref (h 0)), (1, .ref a), (0, .ref b)]) (x : Int32) : W p l ze room_1 s m #[Value.ref b] below meth c H locs 83 1802 Q (F0 m 33 ls [.int x]) := by
  have C0 := hC.1
  by_cases c0 : x = nI 0
  · exact g_swIn (k := 0) (lo' := 0) (tgt := 228) C0 c0 rfl rfl dL_law_33 rfl rfl rfl rfl (lw_feed hC hi6 hG hR X hl)
  by_cases c1 : x = nI 1
  · exact g_swIn (k := 1) (lo' := 0) (tgt := 251) C0 c1 rfl rfl dL_law_33 rfl rfl rfl rfl (lw_end hC hi6 hG hR X hl)
  by_cases c2 : x = nI 2
  · exact g_swIn (k := 2) (lo' := 0) (tgt := 274) C0 c2 rfl rfl dL_law_33 rfl rfl rfl rfl (lw_text hC hi6 hG hR X hl)
  by_cases c3 : x = nI 3
  · exact g_swIn (k := 3) (lo' := 0) (tgt := 287) C0 c3 rfl rfl dL_law_33 rfl rfl rfl rfl (lw_fault hC hi6 hG hR X hl)
  by_cases c4 : x = nI 4
  · exact g_swIn (k := 4) (lo' := 0) (tgt := 300) C0 c4 rfl rfl dL_law_33 rfl rfl rfl rfl (lw_rule hC hi6 hG hR X hl)
  by_cases c5 : x = nI 5
  · exact g_swIn (k := 5) (lo' := 0) (tgt := 323) C0 c5 rfl rfl dL_law_33 rfl rfl rfl rfl (lw_tree hC hi6 hG hR X hl)
  by_cases c6 : x = nI 6
  · exact g_swIn (k := 6) (lo' := 0) (tgt := 356) C0 c6 rfl rfl dL_law_33 rfl rfl rfl rfl (lw_root hC hi6 hG hR X hl)
  by_cases c7 : x = nI 7
  · exact g_swIn (k := 7) (lo' := 0) (tgt := 389) C0 c7 rfl rfl dL_law_33 rfl rfl rfl rfl (lw_talk hC hi6 hG hR X hl)
  by_cases c8 : x = nI 8
  · exact g_swIn (k := 8) (lo' := 0) (tgt := 422) C0 c8 rfl rfl dL_law_33 rfl rfl rfl rfl (lw_far hC hi6 hG hR X hl)
  by_cases c9 : x = nI 9
  · exact g_swIn (k := 9) (lo' := 0) (tgt := 455) C0 c9 rfl rfl dL_law_33 rfl rfl rfl rfl (lw_loud hC hi6 hG hR X hl)
  by_cases c10 : x = nI 10
  · exact g_swIn (k := 10) (lo' := 0) (tgt := 498) C0 c10 rfl rfl dL_law_33 rfl rfl rfl rfl (lw_graft hC hi6 hG hR X hl)
  by_cases c11 : x = nI 11
  · exact g_swIn (k := 11) (lo' := 0) (tgt := 531) C0 c11 rfl rfl dL_law_33 rfl rfl rfl rfl (lw_stretch hC hi6 hG hR X hl)
  by_cases c12 : x = nI 12
  · exact g_swIn (k := 12) (lo' := 0) (tgt := 564) C0 c12 rfl rfl dL_law_33 rfl rfl rfl rfl (lw_grow hC hi6 hG hR X hl)
  by_cases c13 : x = nI 13
  · exact g_swIn (k := 13) (lo' := 0) (tgt := 607) C0 c13 rfl rfl dL_law_33 rfl rfl rfl rfl (lw_cut hC hi6 hG hR X hl)
  by_cases c14 : x = nI 14
  · exact g_swIn (k := 14) (lo' := 0) (tgt := 656) C0 c14 rfl rfl dL_law_33 rfl rfl rfl rfl (lw_wind hC hi6 hG hR X hl)
  by_cases c15 : x = nI 15
  · exact g_swIn (k := 15) (lo' := 0) (tgt := 679) C0 c15 rfl rfl dL_law_33 rfl rfl rfl rfl (lw_book hC hi6 hG hR X hl)
  by_cases c16 : x = nI 16
  · exact g_swIn (k := 16) (lo' := 0) (tgt := 722) C0 c16 rfl rfl dL_law_33 rfl rfl rfl rfl (lw_shift hC hi6 hG hR X hl)
  by_cases c17 : x = nI 17
  · exact g_swIn (k := 17) (lo' := 0) (tgt := 765) C0 c17 rfl rfl dL_law_33 rfl rfl rfl rfl (lw_drop hC hi6 hG hR X hl)
  by_cases c18 : x = nI 18
  · exact g_swIn (k := 18) (lo' := 0) (tgt := 788) C0 c18 rfl rfl dL_law_33 rfl rfl rfl rfl (lw_hears hC hi6 hG hR X hl)
  by_cases c19 : x = nI 19
  · exact g_swIn (k := 19) (lo' := 0) (tgt := 821) C0 c19 rfl rfl dL_law_33 rfl rfl rfl rfl (lw_crossed hC hi6 hG hR X hl)
  by_cases c20 : x = nI 20
  · exact g_swIn (k := 20) (lo' := 0) (tgt := 854) C0 c20 rfl rfl dL_law_33 rfl rfl rfl rfl (lw_least hC hi6 hG hR X hl)
  by_cases c21 : x = nI 21
  · exact g_swIn (k := 21) (lo' := 0) (tgt := 887) C0 c21 rfl rfl dL_law_33 rfl rfl rfl rfl (lw_just hC hi6 hG hR X hl)
  by_cases c22 : x = nI 22
  · exact g_swIn (k := 22) (lo' := 0) (tgt := 920) C0 c22 rfl rfl dL_law_33 rfl rfl rfl rfl (lw_from hC hi6 hG hR X hl)
  by_cases c23 : x = nI 23
  · exact g_swIn (k := 23) (lo' := 0) (tgt := 953) C0 c23 rfl rfl dL_law_33 rfl rfl rfl rfl (lw_hush hC hi6 hG hR X hl)
  by_cases c24 : x = nI 24
  · exact g_swIn (k := 24) (lo' := 0) (tgt := 1006) C0 c24 rfl rfl dL_law_33 rfl rfl rfl rfl (lw_join hC hi6 hG hR X hl)
  by_cases c25 : x = nI 25
  · exact g_swIn (k := 25) (lo' := 0) (tgt := 1059) C0 c25 rfl rfl dL_law_33 rfl rfl rfl rfl (lw_dear hC hi6 hG hR X hl)
  by_cases c26 : x = nI 26
  · exact g_swIn (k := 26) (lo' := 0) (tgt := 1082) C0 c26 rfl rfl dL_law_33 rfl rfl rfl rfl (lw_hour hC hi6 hG hR X hl)
  by_cases c27 : x = nI 27
  · exact g_swIn (k := 27) (lo' := 0) (tgt := 1115) C0 c27 rfl rfl dL_law_33 rfl rfl rfl rfl (lw_kind hC hi6 hG hR X hl)
  by_cases c28 : x = nI 28
  · exact g_swIn (k := 28) (lo' := 0) (tgt := 1148) C0 c28 rfl rfl dL_law_33 rfl rfl rfl rfl (lw_calm hC hi6 hG hR X hl)
  by_cases c29 : x = nI 29
  · exact g_swIn (k := 29) (lo' := 0) (tgt := 1161) C0 c29 rfl rfl dL_law_33 rfl rfl rfl rfl (lw_luck hC hi6 hG hR X hl)
  by_cases c30 : x = nI 30
  · exact g_swIn (k := 30) (lo' := 0) (tgt := 1225) C0 c30 rfl rfl dL_law_33 rfl rfl rfl rfl (lw_mean hC hi6 hG hR X hl)
  by_cases c31 : x = nI 31
  · exact g_swIn (k := 31) (lo' := 0) (tgt := 1279) C0 c31 rfl rfl dL_law_33 rfl rfl rfl rfl (lw_see hC hi6 hG hR X hl)
  by_cases c32 : x = nI 32
  · exact g_swIn (k := 32) (lo' := 0) (tgt := 1312) C0 c32 rfl rfl dL_law_33 rfl rfl rfl rfl (lw_forget hC hi6 hG hR X hl)
  by_cases c33 : x = nI 33
  · exact g_swIn (k := 33) (lo' := 0) (tgt := 1335) C0 c33 rfl rfl dL_law_33 rfl rfl rfl rfl (lw_sayers hC hi6 hG hR X hl)
  by_cases c34 : x = nI 34
  · exact g_swIn (k := 34) (lo' := 0) (tgt := 1348) C0 c34 rfl rfl dL_law_33 rfl rfl rfl rfl (lw_breaths hC hi6 hG hR X hl)
  by_cases c35 : x = nI 35
  · exact g_swIn (k := 35) (lo' := 0) (tgt := 1381) C0 c35 rfl rfl dL_law_33 rfl rfl rfl rfl (lw_kinds hC hi6 hG hR X hl)
  by_cases c36 : x = nI 36
  · exact g_swIn (k := 36) (lo' := 0) (tgt := 1404) C0 c36 rfl rfl dL_law_33 rfl rfl rfl rfl (lw_ask hC hi6 hG hR X hl)
  by_cases c37 : x = nI 37
  · exact g_swIn (k := 37) (lo' := 0) (tgt := 1427) C0 c37 rfl rfl dL_law_33 rfl rfl rfl rfl (lw_drift hC hi6 hG hR X hl)
  by_cases c38 : x = nI 38
  · exact g_swIn (k := 38) (lo' := 0) (tgt := 1470) C0 c38 rfl rfl dL_law_33 rfl rfl rfl rfl (lw_keep hC hi6 hG hR X hl)
  by_cases c39 : x = nI 39
  · exact g_swIn (k := 39) (lo' := 0) (tgt := 1493) C0 c39 rfl rfl dL_law_33 rfl rfl rfl rfl (lw_back hC hi6 hG hR X hl)
  by_cases c40 : x = nI 40
  · exact g_swIn (k := 40) (lo' := 0) (tgt := 1516) C0 c40 rfl rfl dL_law_33 rfl rfl rfl rfl (lw_sheet hC hi6 hG hR X hl)
  by_cases c41 : x = nI 41
  · exact g_swIn (k := 41) (lo' := 0) (tgt := 1559) C0 c41 rfl rfl dL_law_33 rfl rfl rfl rfl (lw_lay hC hi6 hG hR X hl)
  by_cases c42 : x = nI 42
  · exact g_swIn (k := 42) (lo' := 0) (tgt := 1602) C0 c42 rfl rfl dL_law_33 rfl rfl rfl rfl (lw_read hC hi6 hG hR X hl)
  by_cases c43 : x = nI 43
  · exact g_swIn (k := 43) (lo' := 0) (tgt := 1655) C0 c43 rfl rfl dL_law_33 rfl rfl rfl rfl (lw_torn hC hi6 hG hR X hl)
  by_cases c44 : x = nI 44
  · exact g_swIn (k := 44) (lo' := 0) (tgt := 1668) C0 c44 rfl rfl dL_law_33 rfl rfl rfl rfl (lw_count hC hi6 hG hR X hl)
  refine g_swOut (n := 45) (lo' := 0) (tgt := 1691) C0 (fun j _ hj q => ?_) rfl dL_law_33 rfl rfl rfl (hG G d e T td te I0 di ei J0 dj ej ch am K wt n t D0 dd de sn pl lo le kb rf kn kl kc Mt hi la ce hR H locs ls X hl)
  rcases (show j = 0 ∨ j = 1 ∨ j = 2 ∨ j = 3 ∨ j = 4 ∨ j = 5 ∨ j = 6 ∨ j = 7 ∨ j = 8 ∨ j = 9 ∨ j = 10 ∨ j = 11 ∨ j = 12 ∨ j = 13 ∨ j = 14 ∨ j = 15 ∨ j = 16 ∨ j = 17 ∨ j = 18 ∨ j = 19 ∨ j = 20 ∨ j = 21 ∨ j = 22 ∨ j = 23 ∨ j = 24 ∨ j = 25 ∨ j = 26 ∨ j = 27 ∨ j = 28 ∨ j = 29 ∨ j = 30 ∨ j = 31 ∨ j = 32 ∨ j = 33 ∨ j = 34 ∨ j = 35 ∨ j = 36 ∨ j = 37 ∨ j = 38 ∨ j = 39 ∨ j = 40 ∨ j = 41 ∨ j = 42 ∨ j = 43 ∨ j = 44 by omega) with rfl | rfl | rfl | rfl | rfl | rfl | rfl | rfl | rfl | rfl | rfl | rfl | rfl | rfl | rfl | rfl | rfl | rfl | rfl | rfl | rfl | rfl | rfl | rfl | rfl | rfl | rfl | rfl | rfl | rfl | rfl | rfl | rfl | rfl | rfl | rfl | rfl | rfl | rfl | rfl | rfl | rfl | rfl | rfl | rfl
  · exact c0 q
  · exact c1 q
  · exact c2 q
  · exact c3 q
  · exact c4 q
  · exact c5 q
  · exact c6 q
  · exact c7 q
  · exact c8 q
  · exact c9 q
  · exact c10 q
  · exact c11 q
  · exact c12 q
  · exact c13 q
  · exact c14 q
  · exact c15 q
  · exact c16 q
  · exact c17 q
  · exact c18 q
  · exact c19 q
  · exact c20 q
  · exact c21 q
  · exact c22 q
  · exact c23 q
  · exact c24 q
  · exact c25 q
  · exact c26 q
  · exact c27 q
  · exact c28 q
  · exact c29 q
  · exact c30 q
  · exact c31 q
  · exact c32 q
  · exact c33 q
  · exact c34 q
  · exact c35 q
  · exact c36 q
  · exact c37 q
  · exact c38 q
  · exact c39 q
  · exact c40 q
  · exact c41 q
  · exact c42 q
  · exact c43 q
  · exact c44 q
set_option maxHeartbeats 4000000 in
set_option maxRecDepth 100000 in
theorem law_loop {p : Program} {l : Launch} {ze : Env} {s : State} {m : MethodId} {below : List Frame} {meth : Method} {c : Code} {D : va_G} {A : Nat → Prop} {tk : Nat → ClassId} {sK sV : Nat → Nat} {b L : Nat} {xs : Nat → Int32} {a : Nat} {u : Nat → Nat → Nat} {h : Nat → Nat} (hr : meth.sig.returnType = ret) (hlocks : meth.locks = false) (hAs : ∀ q, A q → s.heap.size ≤ q) (hC : LC0 p s m c D A tk sK sV b L xs) : ∀ (f i : Nat), i < 1000 → L < i + f + 6 → ∀ (G : Nat → Nat → Nat) (d : Nat → Nat) (e : Nat → Nat) (T : Nat → Nat → Nat) (td : Nat → Nat) (te : Nat → Nat) (I0 : Nat → Nat → Nat) (di : Nat → Nat) (ei : Nat → Nat) (J0 : Nat → Nat → Nat) (dj : Nat → Nat) (ej : Nat → Nat) (ch : Int32) (am : Int32) (K : Nat → Nat → Nat) (wt : Bool) (n : Nat) (t : Nat → Nat) (D0 : Nat → Nat → Nat) (dd : Nat → Nat) (de : Nat → Nat) (sn : Nat) (pl : Nat → Nat) (lo : Nat → Nat) (le : Nat → Nat) (kb : Nat) (rf : Nat) (kn : Nat → Nat) (kl : Nat → Int32) (kc : Nat → Nat → Int32) (Mt : Nat → Nat → Nat) (hi : Int32) (la : Nat → Int32) (ce : Nat → Int32), Rel G I0 J0 kb n t sn pl lo K rf kn kl kc Mt la ce → ∀ (H : Heap) (locs : List Loc) (ls : Array Slot), Hx D A s H locs (bflat (lawB tk a u h G d e T td te I0 di ei J0 dj ej ch am K wt n t D0 dd de sn pl lo le kb rf kn kl kc Mt hi la ce)) → lv_has ls 4 [(3, .int (nI i)), (2, .ref (h 0)), (1, .ref a), (0, .ref b)] → W p l ze room_1 s m #[Value.ref b] below meth c H locs 83 1802 (lw_Z below #[Value.ref b] s) (F0 m 18 ls []) := by
  obtain ⟨C0, S0, hX, hbl, hbA, hL⟩ := id hC
  have hx := C0.1
  have hb := C0.2.1
  intro f
  induction f with
  | zero =>
    intro i hi5 hf G d e T td te I0 di ei J0 dj ej ch am K wt n t D0 dd de sn pl lo le kb rf kn kl kc Mt hi la ce hR H locs ls X hl
    refine lv_iload_n hx hb dL_law_18 rfl (lv_at hl 0 rfl) ?_
    refine lv_aload_n hx hb dL_law_19 rfl (lv_at hl 3 rfl) ?_
    refine g_slen C0 X hX hbl hbA dL_law_20 ?_
    refine g_bipush (n := 6) C0 (by decide) dL_law_21 ?_
    refine lv_isub hx hb dL_law_23 ?_
    refine lv_icmp_gt (tgt := 1697) hx hb dL_law_24 rfl (fun _ => ?_) (fun q => ?_)
    · refine g_iconst (n := 1) C0 rfl dL_law_1697 ?_
      refine va_forget (fun q hq => hAs _ (X.2.2.1.2.2 q hq)) ?_
      exact lw_ret hx hb hr hlocks dL_law_1698
    · exact absurd (lp_gt hL q (by omega)) (by omega)
  | succ f ih =>
    intro i hi5 hf G d e T td te I0 di ei J0 dj ej ch am K wt n t D0 dd de sn pl lo le kb rf kn kl kc Mt hi la ce hR H locs ls X hl
    refine lv_iload_n hx hb dL_law_18 rfl (lv_at hl 0 rfl) ?_
    refine lv_aload_n hx hb dL_law_19 rfl (lv_at hl 3 rfl) ?_
    refine g_slen C0 X hX hbl hbA dL_law_20 ?_
    refine g_bipush (n := 6) C0 (by decide) dL_law_21 ?_
    refine lv_isub hx hb dL_law_23 ?_
    refine lv_icmp_gt (tgt := 1697) hx hb dL_law_24 rfl (fun _ => ?_) (fun q => ?_)
    · refine g_iconst (n := 1) C0 rfl dL_law_1697 ?_
      refine va_forget (fun q hq => hAs _ (X.2.2.1.2.2 q hq)) ?_
      exact lw_ret hx hb hr hlocks dL_law_1698
    · have hi6 : i + 6 ≤ L := lp_gt hL q (by omega)
      refine lv_aload_n hx hb dL_law_27 rfl (lv_at hl 3 rfl) ?_
      refine lv_iload_n hx hb dL_law_28 rfl (lv_at hl 0 rfl) ?_
      refine g_sld (i := i) C0 X hX hbl hbA (by omega) hL dL_law_29 ?_
      refine g_bipush (n := 63) C0 (by decide) dL_law_30 ?_
      refine lv_iand hx hb dL_law_32 ?_
      refine law_sw hC hi6 ?_ hR X hl _
      intro G d e T td te I0 di ei J0 dj ej ch am K wt n t D0 dd de sn pl lo le kb rf kn kl kc Mt hi la ce hR H locs ls X hl
      refine g_iinc (j := 6) (z := i + 6) (lv' := [(3, .int (nI (i + 6))), (2, .ref (h 0)), (1, .ref a), (0, .ref b)]) C0 rfl rfl dL_law_1691 hl (k := 0) rfl (by decide) rfl (fun ls hl => ?_)
      refine lv_goto (tgt := 18) hx hb dL_law_1694 rfl ?_
      exact ih (i + 6) (by omega) (by omega) G d e T td te I0 di ei J0 dj ej ch am K wt n t D0 dd de sn pl lo le kb rf kn kl kc Mt hi la ce hR H locs ls X hl
