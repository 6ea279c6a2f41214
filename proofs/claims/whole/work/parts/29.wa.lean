set_option maxHeartbeats 4000000 in
set_option maxRecDepth 100000 in
theorem c_X6_from (l : Launch) (D : va_G) (tk : Nat → ClassId) (a : Nat) (hL hT : Nat → Nat) (im bs rd : Nat) (hS : Nat → Nat) (sh kb rf : Nat) (G : Nat → Nat → Nat) (d e : Nat → Nat) (ch am : Int32) (x y : Int32) (hw : GW G) : MX l yX6_from cX6_from 5 (some .int) ⟨4, 0, 0, 114⟩ D (TYS tk) [.ref a, .int x, .int y] (lW a hL hT im bs rd hS sh kb rf ++ gW tk hL G d e ++ bW bs ch am) (fun (u : (Nat → Nat) × (Nat → Nat) × Int32 × Int32) => True) (fun u => some (.int (a_from 1000 (cgv G) x y))) (fun u => lW a hL hT im bs rd hS sh kb rf ++ gW tk hL G u.1 u.2.1 ++ bW bs u.2.2.1 u.2.2.2) 0 0 := by
  refine MX.of_i (by decide) rfl ?_
  intro zp ze zs zm za zb zt zc zA zQ ls C0 hnm X hl hE
  have hx := C0.1
  have hb := C0.2.1
  have ht := C0.2.2.2.2.1
  have X : Hx D zA zs zs.heap [] (lW a hL hT im bs rd hS sh kb rf ++ gW tk hL G d e ++ bW bs ch am) := X
  have hl : lv_has ls 5 [(0, .ref a), (1, .int x), (2, .int y)] := hl
  obtain ⟨hw1, hw2, hw3, hw4, hw5, hw6, hw7, hw8⟩ := id hw
  have hp2 := Nat.pow_le_pow_right (n := 2) (by decide) hw1
  obtain ⟨H, hH⟩ : ∃ H, H = zs.heap := ⟨_, rfl⟩
  rw [← hH] at X ⊢
  obtain ⟨locs, hlo⟩ : ∃ L : List Loc, L = [] := ⟨_, rfl⟩
  rw [← hlo] at X ⊢
  refine lv_aload_n hx hb dX6_from_0 rfl (lv_at hl 0 rfl) ?_
  refine g_get (v := .ref (hL 0)) C0 X kX6 0 0 tb200 rfl rfl rfl dX6_from_1 ?_
  refine lv_iload_n hx hb dX6_from_4 rfl (lv_at hl 1 rfl) ?_
  refine g_callV (As := [.int x]) (rest := []) (wr := (lW a hL hT im bs rd hS sh kb rf ++ bW bs ch am)) (C0.sz hl) X (c_X1_hasTrees l D tk hL G d e x (by first | assumption | omega)) ⟨tb561, tb564, tb2, ⟨by decide, by decide, rfl⟩, rfl, rfl, Nat.le_of_ble_eq_true rfl, Nat.le_of_ble_eq_true rfl⟩ tb562 tb563 1 1 rfl rfl rfl rfl [1, 2, 3, 4, 5, 6, 7, 8, 9, 10] [0, 11] rfl rfl rfl rfl rfl (Nat.le_of_ble_eq_true rfl) ⟨Nat.le_of_ble_eq_true rfl, Nat.le_of_ble_eq_true rfl⟩ dX6_from_5 (fun _ H locs _ X => ?_)
  have X : Hx D zA zs H locs (lW a hL hT im bs rd hS sh kb rf ++ bW bs ch am ++ gW tk hL G d e) := X
  have X : Hx D zA zs H locs (lW a hL hT im bs rd hS sh kb rf ++ gW tk hL G d e ++ bW bs ch am) := X.sub [0, 2, 3, 4, 5, 6, 7, 8, 9, 10, 11, 1] rfl rfl
  refine g_ifeqB (x := rg x 0 (2 ^ G 8 0 - 1)) (tgt := 18) C0 dX6_from_8 rfl (fun c1 => ?_) (fun c2 => ?_)
  · refine lv_iconst (v := (-1)) hx hb dX6_from_18 (by decide) ?_
    exact hE (v := (-1)) (d, e, ch, am) (by simp [a_from, cg0, cg1, cg2, cg3, cg5, cg6, cg7, cg8, c1]) trivial X dX6_from_19
  · obtain ⟨xq, hk_xqa, hk_xqb, hk_xqc, rfl⟩ := rg_sp c2
    refine lv_iload_n hx hb dX6_from_11 rfl (lv_at hl 2 rfl) ?_
    refine g_callS (As := [.int y]) (rest := []) (wr := (lW a hL hT im bs rd hS sh kb rf ++ gW tk hL G d e ++ bW bs ch am)) (C0.sz hl) X (c_X6_isEither l D tk y) ⟨tb582, tb584, tb1, ⟨by decide, by decide, rfl⟩, rfl, rfl, Nat.le_of_ble_eq_true rfl, Nat.le_of_ble_eq_true rfl⟩ tb583 rfl [] [0, 1, 2, 3, 4, 5, 6, 7, 8, 9, 10, 11] rfl rfl rfl rfl rfl (Nat.le_of_ble_eq_true rfl) ⟨Nat.le_of_ble_eq_true rfl, Nat.le_of_ble_eq_true rfl⟩ dX6_from_12 (fun _ H locs _ X => ?_)
    have X : Hx D zA zs H locs (lW a hL hT im bs rd hS sh kb rf ++ gW tk hL G d e ++ bW bs ch am) := X
    refine g_ifneB (x := rg y 0 1) (tgt := 20) C0 dX6_from_15 rfl (fun c3 => ?_) (fun c4 => ?_)
    · obtain ⟨yq, hk_yqa, hk_yqb, hk_yqc, rfl⟩ := rg_sp c3
      refine lv_aload_n hx hb dX6_from_20 rfl (lv_at hl 0 rfl) ?_
      refine g_get (v := .ref bs) C0 X kX6 0 3 tb203 rfl rfl rfl dX6_from_21 ?_
      refine g_sipush (n := 1000) C0 (by decide) dX6_from_24 ?_
      refine g_callV (As := [.int (nI 1000)]) (rest := []) (wr := (lW a hL hT im bs rd hS sh kb rf ++ gW tk hL G d e)) (C0.sz hl) X (c_X0_below l D tk bs ch am 1000) ⟨tb585, tb588, tb3, ⟨by decide, by decide, rfl⟩, rfl, rfl, Nat.le_of_ble_eq_true rfl, Nat.le_of_ble_eq_true rfl⟩ tb586 tb587 11 0 rfl rfl rfl rfl [11] [0, 1, 2, 3, 4, 5, 6, 7, 8, 9, 10] rfl rfl rfl rfl rfl (Nat.le_of_ble_eq_true rfl) ⟨Nat.le_of_ble_eq_true rfl, Nat.le_of_ble_eq_true rfl⟩ dX6_from_27 (fun _ H locs _ X => ?_)
      have X : Hx D zA zs H locs (lW a hL hT im bs rd hS sh kb rf ++ gW tk hL G d e ++ bW bs (-4) (nI 1000)) := X
      refine g_iconst (n := 0) C0 rfl dX6_from_30 ?_
      refine lv_istore_n (lv' := [(3, .int (nI 0)), (0, .ref a), (1, .int (nI xq)), (2, .int (nI yq))]) hx hb dX6_from_31 rfl hl (by decide) rfl (fun ls hl => ?_)
      have J32 : ∀ (fz : Nat) (i : Nat) (ch1 : Int32) (am1 : Nat) (d1 : Nat → Nat), G 8 0 - i < fz → ∀ (hi : i ≤ G 8 0) (hbf : (ch1, am1) = bfold (fun t => decide (leastS (cgv G) t xq xq ≠ 0)) (fun t => leastS (cgv G) t xq xq) 1000 i) (H : Heap) (locs : List Loc) (ls : Array Slot), Hx D zA zs H locs (lW a hL hT im bs rd hS sh kb rf ++ gW tk hL G d1 e ++ bW bs ch1 (nI am1)) → lv_has ls 5 [(3, .int (nI i)), (0, .ref a), (1, .int (nI xq)), (2, .int (nI yq))] → W zp l ze ⟨4, 0, 0, 114⟩ zs zm za zb zt zc H locs 0 0 zQ (F0 zm 32 ls []) := by
        intro fz
        induction fz with
        | zero => intro i ch1 am1 d1 hz; exact absurd hz (Nat.not_lt_zero _)
        | succ fz ih32 =>
          intro i ch1 am1 d1 hz32 hi hbf H locs ls X hl
          refine lv_iload_n hx hb dX6_from_32 rfl (lv_at hl 0 rfl) ?_
          refine lv_aload_n hx hb dX6_from_33 rfl (lv_at hl 1 rfl) ?_
          refine g_get (v := .ref (hL 0)) C0 X kX6 0 0 tb200 rfl rfl rfl dX6_from_34 ?_
          refine g_get (v := .int (nI (G 8 0))) C0 X kX1 1 0 tb33 rfl rfl rfl dX6_from_37 ?_
          refine g_icmp_ge (x := i) (y := G 8 0) (tgt := 78) C0 (by omega) (by omega) dX6_from_40 rfl (fun c5 => ?_) (fun c6 => ?_)
          · refine lv_aload_n hx hb dX6_from_78 rfl (lv_at hl 1 rfl) ?_
            refine g_get (v := .ref bs) C0 X kX6 0 3 tb203 rfl rfl rfl dX6_from_79 ?_
            refine lv_iload_n hx hb dX6_from_82 rfl (lv_at hl 3 rfl) ?_
            refine g_callV (As := [.int (nI yq)]) (rest := []) (wr := (lW a hL hT im bs rd hS sh kb rf ++ gW tk hL G d1 e)) (C0.sz hl) X (c_X0_told l D tk bs ch1 am1 yq (by omega)) ⟨tb593, tb596, tb3, ⟨by decide, by decide, rfl⟩, rfl, rfl, Nat.le_of_ble_eq_true rfl, Nat.le_of_ble_eq_true rfl⟩ tb594 tb595 11 0 rfl rfl rfl rfl [11] [0, 1, 2, 3, 4, 5, 6, 7, 8, 9, 10] rfl rfl rfl rfl rfl (Nat.le_of_ble_eq_true rfl) ⟨Nat.le_of_ble_eq_true rfl, Nat.le_of_ble_eq_true rfl⟩ dX6_from_83 (fun _ H locs _ X => ?_)
            have X : Hx D zA zs H locs (lW a hL hT im bs rd hS sh kb rf ++ gW tk hL G d1 e ++ bW bs ch1 (nI am1)) := X
            exact hE (v := if yq = 0 ∨ ch1 = -4 then ch1 else nI am1) (d1, e, ch1, nI am1) (by simp only [a_from, cg0, cg1, cg2, cg3, cg5, cg6, cg7, cg8, c2, c3, tn_nI (k := xq) (by omega), tn_nI (k := yq) (by omega), Bool.and_self, if_true]; rw [show G 8 0 = i by omega, ← told_s hbf]) trivial X dX6_from_86
          · refine lv_aload_n hx hb dX6_from_43 rfl (lv_at hl 1 rfl) ?_
            refine g_get (v := .ref (hL 0)) C0 X kX6 0 0 tb200 rfl rfl rfl dX6_from_44 ?_
            refine lv_iload_n hx hb dX6_from_47 rfl (lv_at hl 0 rfl) ?_
            refine lv_iload_n hx hb dX6_from_48 rfl (lv_at hl 2 rfl) ?_
            refine lv_iload_n hx hb dX6_from_49 rfl (lv_at hl 2 rfl) ?_
            refine g_callV (As := [.int (nI i), .int (nI xq), .int (nI xq)]) (rest := []) (wr := (lW a hL hT im bs rd hS sh kb rf ++ bW bs ch1 (nI am1))) (C0.sz hl) X (c_X1_leastBreath l D tk hL G d1 e i xq xq (by first | assumption | omega) (by first | assumption | omega) (by first | assumption | omega)) ⟨tb569, tb572, tb2, ⟨by decide, by decide, rfl⟩, rfl, rfl, Nat.le_of_ble_eq_true rfl, Nat.le_of_ble_eq_true rfl⟩ tb570 tb571 1 1 rfl rfl rfl rfl [1, 2, 3, 4, 5, 6, 7, 8, 9, 10] [0, 11] rfl rfl rfl rfl rfl (Nat.le_of_ble_eq_true rfl) ⟨Nat.le_of_ble_eq_true rfl, Nat.le_of_ble_eq_true rfl⟩ dX6_from_50 (fun _ H locs _ X => ?_)
            have X : Hx D zA zs H locs (lW a hL hT im bs rd hS sh kb rf ++ bW bs ch1 (nI am1) ++ gW tk hL G (dist (cgv G) i) e) := X
            have X : Hx D zA zs H locs (lW a hL hT im bs rd hS sh kb rf ++ gW tk hL G (dist (cgv G) i) e ++ bW bs ch1 (nI am1)) := X.sub [0, 2, 3, 4, 5, 6, 7, 8, 9, 10, 11, 1] rfl rfl
            refine lv_istore (lv' := [(4, .int (orNone (leastS (cgv G) i xq xq))), (3, .int (nI i)), (0, .ref a), (1, .int (nI xq)), (2, .int (nI yq))]) hx hb dX6_from_53 hl (by decide) rfl (fun ls hl => ?_)
            refine lv_iload hx hb dX6_from_55 (lv_at hl 0 rfl) ?_
            refine lv_bipush (v := (-4)) hx hb dX6_from_57 (by decide) ?_
            refine lv_icmp_eq (tgt := 72) hx hb dX6_from_59 rfl (fun c7 => ?_) (fun c8 => ?_)
            · refine g_iinc (j := 1) (z := i + 1) (lv' := [(3, .int (nI (i + 1))), (4, .int (orNone (leastS (cgv G) i xq xq))), (0, .ref a), (1, .int (nI xq)), (2, .int (nI yq))]) C0 rfl (by first | rfl | omega) dX6_from_72 hl (k := 1) rfl (by decide) rfl (fun ls hl => ?_)
              refine lv_goto (tgt := 32) hx hb dX6_from_75 (by decide) ?_
              exact ih32 (i + 1) ch1 am1 (dist (cgv G) i) (by omega) (by omega) (by exact bf_f (decide_eq_false (fun q => q ((orNone_4 (least_lt _ _ _ _)).mp c7))) hbf) H locs ls X (lv_sub hl [0, 2, 3, 4] rfl)
            · refine lv_aload_n hx hb dX6_from_62 rfl (lv_at hl 2 rfl) ?_
              refine g_get (v := .ref bs) C0 X kX6 0 3 tb203 rfl rfl rfl dX6_from_63 ?_
              refine lv_iload_n hx hb dX6_from_66 rfl (lv_at hl 1 rfl) ?_
              refine lv_iload hx hb dX6_from_67 (lv_at hl 0 rfl) ?_
              refine g_top (y := nI (leastS (cgv G) i xq xq)) (by exact orNone_p (Nat.pos_of_ne_zero (fun q => c8 ((orNone_4 (least_lt _ _ _ _)).mpr q)))) ?_
              refine g_callV (As := [.int (nI i), .int (nI (leastS (cgv G) i xq xq))]) (rest := []) (wr := (lW a hL hT im bs rd hS sh kb rf ++ gW tk hL G (dist (cgv G) i) e)) (C0.sz hl) X (c_X0_offer l D tk bs ch1 am1 i (leastS (cgv G) i xq xq) (by exact least_lt _ _ _ _) (by have := bf_am hbf; omega)) ⟨tb589, tb592, tb3, ⟨by decide, by decide, rfl⟩, rfl, rfl, Nat.le_of_ble_eq_true rfl, Nat.le_of_ble_eq_true rfl⟩ tb590 tb591 11 0 rfl rfl rfl rfl [11] [0, 1, 2, 3, 4, 5, 6, 7, 8, 9, 10] rfl rfl rfl rfl rfl (Nat.le_of_ble_eq_true rfl) ⟨Nat.le_of_ble_eq_true rfl, Nat.le_of_ble_eq_true rfl⟩ dX6_from_69 (fun _ H locs _ X => ?_)
              have X : Hx D zA zs H locs (lW a hL hT im bs rd hS sh kb rf ++ gW tk hL G (dist (cgv G) i) e ++ bW bs (if (leastS (cgv G) i xq xq) < am1 then nI i else ch1) (nI (if (leastS (cgv G) i xq xq) < am1 then (leastS (cgv G) i xq xq) else am1))) := X
              refine g_iinc (j := 1) (z := i + 1) (lv' := [(3, .int (nI (i + 1))), (4, .int (orNone (leastS (cgv G) i xq xq))), (0, .ref a), (1, .int (nI xq)), (2, .int (nI yq))]) C0 rfl (by first | rfl | omega) dX6_from_72 hl (k := 1) rfl (by decide) rfl (fun ls hl => ?_)
              refine lv_goto (tgt := 32) hx hb dX6_from_75 (by decide) ?_
              exact ih32 (i + 1) (if (leastS (cgv G) i xq xq) < am1 then nI i else ch1) (if (leastS (cgv G) i xq xq) < am1 then (leastS (cgv G) i xq xq) else am1) (dist (cgv G) i) (by omega) (by omega) (by exact bf_t (decide_eq_true (p := leastS (cgv G) i xq xq ≠ 0) (fun q => c8 ((orNone_4 (least_lt _ _ _ _)).mpr q))) hbf) H locs ls X (lv_sub hl [0, 2, 3, 4] rfl)
      exact J32 ((G 8 0 - 0) + 1) 0 (-4) 1000 d (Nat.lt_succ_self _) (by omega) (by rfl) H locs ls X (lv_sub hl [0, 1, 2, 3] rfl)
    · refine lv_iconst (v := (-1)) hx hb dX6_from_18 (by decide) ?_
      exact hE (v := (-1)) (d, e, ch, am) (by simp [a_from, cg0, cg1, cg2, cg3, cg5, cg6, cg7, cg8, c2, c4, tn_nI (k := xq) (by omega)]) trivial X dX6_from_19
set_option maxHeartbeats 4000000 in
set_option maxRecDepth 100000 in
theorem c_X6_calm (l : Launch) (D : va_G) (tk : Nat → ClassId) (a : Nat) (hL hT : Nat → Nat) (im bs rd : Nat) (hS : Nat → Nat) (sh kb rf : Nat) (G : Nat → Nat → Nat) (d e : Nat → Nat) (T : Nat → Nat → Nat) (td te : Nat → Nat) (hw : GW G) : MX l yX6_calm cX6_calm 2 (some .int) ⟨5, 0, 0, 134⟩ D (TYS tk) [.ref a] (lW a hL hT im bs rd hS sh kb rf ++ gW tk hL G d e ++ gW tk hT T td te) (fun (u : (Nat → Nat) × (Nat → Nat) × (Nat → Nat → Nat) × (Nat → Nat) × (Nat → Nat)) => True) (fun u => some (.int (a_calm (cgv G)))) (fun u => lW a hL hT im bs rd hS sh kb rf ++ gW tk hL G u.1 u.2.1 ++ gW tk hT u.2.2.1 u.2.2.2.1 u.2.2.2.2) 0 0 := by
  refine MX.of_i (by decide) rfl ?_
  intro zp ze zs zm za zb zt zc zA zQ ls C0 hnm X hl hE
  have hx := C0.1
  have hb := C0.2.1
  have ht := C0.2.2.2.2.1
  have X : Hx D zA zs zs.heap [] (lW a hL hT im bs rd hS sh kb rf ++ gW tk hL G d e ++ gW tk hT T td te) := X
  have hl : lv_has ls 2 [(0, .ref a)] := hl
  obtain ⟨hw1, hw2, hw3, hw4, hw5, hw6, hw7, hw8⟩ := id hw
  obtain ⟨H, hH⟩ : ∃ H, H = zs.heap := ⟨_, rfl⟩
  rw [← hH] at X ⊢
  obtain ⟨locs, hlo⟩ : ∃ L : List Loc, L = [] := ⟨_, rfl⟩
  rw [← hlo] at X ⊢
  refine lv_aload_n hx hb dX6_calm_0 rfl (lv_at hl 0 rfl) ?_
  refine g_get (v := .ref (hT 0)) C0 X kX6 0 1 tb201 rfl rfl rfl dX6_calm_1 ?_
  refine lv_aload_n hx hb dX6_calm_4 rfl (lv_at hl 0 rfl) ?_
  refine g_get (v := .ref (hL 0)) C0 X kX6 0 0 tb200 rfl rfl rfl dX6_calm_5 ?_
  refine g_callV (As := [.ref (hL 0)]) (rest := []) (wr := (lW a hL hT im bs rd hS sh kb rf)) (C0.sz hl) X (c_X1_become l D tk hT T td te hL G d e) ⟨tb392, tb395, tb2, ⟨by decide, by decide, rfl⟩, rfl, rfl, Nat.le_of_ble_eq_true rfl, Nat.le_of_ble_eq_true rfl⟩ tb393 tb394 11 1 rfl rfl rfl rfl [11, 12, 13, 14, 15, 16, 17, 18, 19, 20, 1, 2, 3, 4, 5, 6, 7, 8, 9, 10] [0] rfl rfl rfl rfl rfl (Nat.le_of_ble_eq_true rfl) ⟨Nat.le_of_ble_eq_true rfl, Nat.le_of_ble_eq_true rfl⟩ dX6_calm_8 (fun _ H locs _ X => ?_)
  have X : Hx D zA zs H locs (lW a hL hT im bs rd hS sh kb rf ++ gW tk hT G td te ++ gW tk hL G d e) := X
  have X : Hx D zA zs H locs (lW a hL hT im bs rd hS sh kb rf ++ gW tk hL G d e ++ gW tk hT G td te) := X.sub [0, 11, 12, 13, 14, 15, 16, 17, 18, 19, 20, 1, 2, 3, 4, 5, 6, 7, 8, 9, 10] rfl rfl
  refine g_iconst (n := 0) C0 rfl dX6_calm_11 ?_
  refine lv_istore_n (lv' := [(1, .int (nI 0)), (0, .ref a)]) hx hb dX6_calm_12 rfl hl (by decide) rfl (fun ls hl => ?_)
  have J13 : ∀ (fz : Nat) (i wv : Nat) (d1 e1 : Nat → Nat), 21 - i < fz → ∀ (hi : i ≤ 21) (hf : lfind (calmP (cgv G)) 21 1 = lfind (calmP (cgv G)) (21 - i) (i + 1)) (H : Heap) (locs : List Loc) (ls : Array Slot), Hx D zA zs H locs (lW a hL hT im bs rd hS sh kb rf ++ gW tk hL G d e ++ gW tk hT (u2 G 8 2 wv) d1 e1) → lv_has ls 2 [(1, .int (nI i)), (0, .ref a)] → W zp l ze ⟨5, 0, 0, 134⟩ zs zm za zb zt zc H locs 0 0 zQ (F0 zm 13 ls []) := by
    intro fz
    induction fz with
    | zero => intro i wv d1 e1 hz; exact absurd hz (Nat.not_lt_zero _)
    | succ fz ih13 =>
      intro i wv d1 e1 hz13 hi hf H locs ls X hl
      refine lv_iload_n hx hb dX6_calm_13 rfl (lv_at hl 0 rfl) ?_
      refine g_bipush (n := 20) C0 (by decide) dX6_calm_14 ?_
      refine g_icmp_gt (x := i) (y := 20) (tgt := 45) C0 (by omega) (by omega) dX6_calm_16 rfl (fun c1 => ?_) (fun c2 => ?_)
      · refine lv_bipush (v := (-4)) hx hb dX6_calm_45 (by decide) ?_
        exact hE (v := (-4)) (d, e, (u2 G 8 2 wv), d1, e1) (by rw [a_calm, hf, show 21 - i = 0 by omega]; rfl) trivial X dX6_calm_47
      · refine lv_aload_n hx hb dX6_calm_19 rfl (lv_at hl 1 rfl) ?_
        refine g_get (v := .ref (hT 0)) C0 X kX6 0 1 tb201 rfl rfl rfl dX6_calm_20 ?_
        refine lv_iload_n hx hb dX6_calm_23 rfl (lv_at hl 0 rfl) ?_
        refine g_put (v := .int (nI i)) (ft := .int) C0 X kX1 11 7 tb49 rfl rfl rfl rfl rfl rfl rfl dX6_calm_24 (fun H locs X => ?_)
        have X : Hx D zA zs H locs (lW a hL hT im bs rd hS sh kb rf ++ gW tk hL G d e ++ gW tk hT (u2 G 8 2 i) d1 e1) := X
        refine lv_aload_n hx hb dX6_calm_27 rfl (lv_at hl 1 rfl) ?_
        refine g_get (v := .ref (hT 0)) C0 X kX6 0 1 tb201 rfl rfl rfl dX6_calm_28 ?_
        refine g_callV (As := []) (rest := []) (wr := (lW a hL hT im bs rd hS sh kb rf ++ gW tk hL G d e)) (C0.sz hl) X (c_X1_crossedPairs l D tk hT (u2 G 8 2 i) d1 e1 (by exact hw.windu (by omega))) ⟨tb411, tb414, tb2, ⟨by decide, by decide, rfl⟩, rfl, rfl, Nat.le_of_ble_eq_true rfl, Nat.le_of_ble_eq_true rfl⟩ tb412 tb413 11 1 rfl rfl rfl rfl [11, 12, 13, 14, 15, 16, 17, 18, 19, 20] [0, 1, 2, 3, 4, 5, 6, 7, 8, 9, 10] rfl rfl rfl rfl rfl (Nat.le_of_ble_eq_true rfl) ⟨Nat.le_of_ble_eq_true rfl, Nat.le_of_ble_eq_true rfl⟩ dX6_calm_31 (fun uq3 H locs _ X => ?_)
        have X : Hx D zA zs H locs (lW a hL hT im bs rd hS sh kb rf ++ gW tk hL G d e ++ gW tk hT (u2 G 8 2 i) uq3.1 uq3.2) := X
        have hLq := crossS_le (cgv (u2 G 8 2 i)) hw4
        refine g_ifne (x := crossS (cgv (u2 G 8 2 i))) (tgt := 39) C0 (by omega) dX6_calm_34 rfl (fun c4 => ?_) (fun c5 => ?_)
        · refine g_iinc (j := 1) (z := i + 1) (lv' := [(1, .int (nI (i + 1))), (0, .ref a)]) C0 rfl (by first | rfl | omega) dX6_calm_39 hl (k := 0) rfl (by decide) rfl (fun ls hl => ?_)
          refine lv_goto (tgt := 13) hx hb dX6_calm_42 (by decide) ?_
          exact ih13 (i + 1) i uq3.1 uq3.2 (by omega) (by omega) (by rw [hf]; exact calm_s (by omega) c4) H locs ls X (lv_sub hl [0, 1] rfl)
        · refine lv_iload_n hx hb dX6_calm_37 rfl (lv_at hl 0 rfl) ?_
          exact hE (v := nI i) (d, e, (u2 G 8 2 i), uq3.1, uq3.2) (by rw [a_calm, hf, lfind_y (P := calmP (cgv G)) (by omega) (calm_p c5), if_neg (by omega)]; rfl) trivial X dX6_calm_38
  exact J13 ((21 - 0) + 1) 0 (G 8 2) td te (Nat.lt_succ_self _) (by omega) (by rfl) H locs ls X (lv_sub hl [0, 1] rfl)
set_option maxHeartbeats 4000000 in
set_option maxRecDepth 100000 in
theorem c_X6_hour (l : Launch) (D : va_G) (tk : Nat → ClassId) (a : Nat) (hL hT : Nat → Nat) (im bs rd : Nat) (hS : Nat → Nat) (sh kb rf : Nat) (G : Nat → Nat → Nat) (d e : Nat → Nat) (T : Nat → Nat → Nat) (td te : Nat → Nat) (ch am : Int32) (x y : Int32) (hw : GW G) : MX l yX6_hour cX6_hour 4 (some .int) ⟨5, 0, 0, 134⟩ D (TYS tk) [.ref a, .int x, .int y] (lW a hL hT im bs rd hS sh kb rf ++ gW tk hL G d e ++ gW tk hT T td te ++ bW bs ch am) (fun (u : (Nat → Nat) × (Nat → Nat) × (Nat → Nat → Nat) × (Nat → Nat) × (Nat → Nat) × Int32 × Int32) => True) (fun u => some (.int (a_hour 1000 (cgv G) x y))) (fun u => lW a hL hT im bs rd hS sh kb rf ++ gW tk hL G u.1 u.2.1 ++ gW tk hT u.2.2.1 u.2.2.2.1 u.2.2.2.2.1 ++ bW bs u.2.2.2.2.2.1 u.2.2.2.2.2.2) 0 0 := by
  refine MX.of_i (by decide) rfl ?_
  intro zp ze zs zm za zb zt zc zA zQ ls C0 hnm X hl hE
  have hx := C0.1
  have hb := C0.2.1
  have ht := C0.2.2.2.2.1
  have X : Hx D zA zs zs.heap [] (lW a hL hT im bs rd hS sh kb rf ++ gW tk hL G d e ++ gW tk hT T td te ++ bW bs ch am) := X
  have hl : lv_has ls 4 [(0, .ref a), (1, .int x), (2, .int y)] := hl
  obtain ⟨hw1, hw2, hw3, hw4, hw5, hw6, hw7, hw8⟩ := id hw
  obtain ⟨H, hH⟩ : ∃ H, H = zs.heap := ⟨_, rfl⟩
  rw [← hH] at X ⊢
  obtain ⟨locs, hlo⟩ : ∃ L : List Loc, L = [] := ⟨_, rfl⟩
  rw [← hlo] at X ⊢
  refine lv_aload_n hx hb dX6_hour_0 rfl (lv_at hl 0 rfl) ?_
  refine g_get (v := .ref (hL 0)) C0 X kX6 0 0 tb200 rfl rfl rfl dX6_hour_1 ?_
  refine lv_iload_n hx hb dX6_hour_4 rfl (lv_at hl 1 rfl) ?_
  refine g_callV (As := [.int x]) (rest := []) (wr := (lW a hL hT im bs rd hS sh kb rf ++ gW tk hT T td te ++ bW bs ch am)) (C0.sz hl) X (c_X1_hasTalk l D tk hL G d e x (by first | assumption | omega)) ⟨tb482, tb485, tb2, ⟨by decide, by decide, rfl⟩, rfl, rfl, Nat.le_of_ble_eq_true rfl, Nat.le_of_ble_eq_true rfl⟩ tb483 tb484 1 1 rfl rfl rfl rfl [1, 2, 3, 4, 5, 6, 7, 8, 9, 10] [0, 11, 12, 13, 14, 15, 16, 17, 18, 19, 20, 21] rfl rfl rfl rfl rfl (Nat.le_of_ble_eq_true rfl) ⟨Nat.le_of_ble_eq_true rfl, Nat.le_of_ble_eq_true rfl⟩ dX6_hour_5 (fun _ H locs _ X => ?_)
  have X : Hx D zA zs H locs (lW a hL hT im bs rd hS sh kb rf ++ gW tk hT T td te ++ bW bs ch am ++ gW tk hL G d e) := X
  have X : Hx D zA zs H locs (lW a hL hT im bs rd hS sh kb rf ++ gW tk hL G d e ++ gW tk hT T td te ++ bW bs ch am) := X.sub [0, 12, 13, 14, 15, 16, 17, 18, 19, 20, 21, 1, 2, 3, 4, 5, 6, 7, 8, 9, 10, 11] rfl rfl
  refine g_ifeqB (x := ix x (G 8 3)) (tgt := 18) C0 dX6_hour_8 rfl (fun c1 => ?_) (fun c2 => ?_)
  · refine lv_iconst (v := (-1)) hx hb dX6_hour_18 (by decide) ?_
    exact hE (v := (-1)) (d, e, T, td, te, ch, am) (by simp [a_hour, cg0, cg1, cg2, cg3, cg5, cg6, cg7, cg8, c1]) trivial X dX6_hour_19
  · obtain ⟨xq, hk_xq, rfl⟩ := ix_sp c2
    refine lv_iload_n hx hb dX6_hour_11 rfl (lv_at hl 2 rfl) ?_
    refine g_callS (As := [.int y]) (rest := []) (wr := (lW a hL hT im bs rd hS sh kb rf ++ gW tk hL G d e ++ gW tk hT T td te ++ bW bs ch am)) (C0.sz hl) X (c_X6_isEither l D tk y) ⟨tb582, tb584, tb1, ⟨by decide, by decide, rfl⟩, rfl, rfl, Nat.le_of_ble_eq_true rfl, Nat.le_of_ble_eq_true rfl⟩ tb583 rfl [] [0, 1, 2, 3, 4, 5, 6, 7, 8, 9, 10, 11, 12, 13, 14, 15, 16, 17, 18, 19, 20, 21] rfl rfl rfl rfl rfl (Nat.le_of_ble_eq_true rfl) ⟨Nat.le_of_ble_eq_true rfl, Nat.le_of_ble_eq_true rfl⟩ dX6_hour_12 (fun _ H locs _ X => ?_)
    have X : Hx D zA zs H locs (lW a hL hT im bs rd hS sh kb rf ++ gW tk hL G d e ++ gW tk hT T td te ++ bW bs ch am) := X
    refine g_ifneB (x := rg y 0 1) (tgt := 20) C0 dX6_hour_15 rfl (fun c3 => ?_) (fun c4 => ?_)
    · obtain ⟨yq, hk_yqa, hk_yqb, hk_yqc, rfl⟩ := rg_sp c3
      refine lv_aload_n hx hb dX6_hour_20 rfl (lv_at hl 0 rfl) ?_
      refine g_get (v := .ref (hT 0)) C0 X kX6 0 1 tb201 rfl rfl rfl dX6_hour_21 ?_
      refine lv_aload_n hx hb dX6_hour_24 rfl (lv_at hl 0 rfl) ?_
      refine g_get (v := .ref (hL 0)) C0 X kX6 0 0 tb200 rfl rfl rfl dX6_hour_25 ?_
      refine g_callV (As := [.ref (hL 0)]) (rest := []) (wr := (lW a hL hT im bs rd hS sh kb rf ++ bW bs ch am)) (C0.sz hl) X (c_X1_become l D tk hT T td te hL G d e) ⟨tb392, tb395, tb2, ⟨by decide, by decide, rfl⟩, rfl, rfl, Nat.le_of_ble_eq_true rfl, Nat.le_of_ble_eq_true rfl⟩ tb393 tb394 11 1 rfl rfl rfl rfl [11, 12, 13, 14, 15, 16, 17, 18, 19, 20, 1, 2, 3, 4, 5, 6, 7, 8, 9, 10] [0, 21] rfl rfl rfl rfl rfl (Nat.le_of_ble_eq_true rfl) ⟨Nat.le_of_ble_eq_true rfl, Nat.le_of_ble_eq_true rfl⟩ dX6_hour_28 (fun _ H locs _ X => ?_)
      have X : Hx D zA zs H locs (lW a hL hT im bs rd hS sh kb rf ++ bW bs ch am ++ gW tk hT G td te ++ gW tk hL G d e) := X
      have X : Hx D zA zs H locs (lW a hL hT im bs rd hS sh kb rf ++ gW tk hL G d e ++ gW tk hT G td te ++ bW bs ch am) := X.sub [0, 12, 13, 14, 15, 16, 17, 18, 19, 20, 21, 2, 3, 4, 5, 6, 7, 8, 9, 10, 11, 1] rfl rfl
      refine lv_aload_n hx hb dX6_hour_31 rfl (lv_at hl 0 rfl) ?_
      refine g_get (v := .ref bs) C0 X kX6 0 3 tb203 rfl rfl rfl dX6_hour_32 ?_
      refine g_sipush (n := 1000) C0 (by decide) dX6_hour_35 ?_
      refine g_callV (As := [.int (nI 1000)]) (rest := []) (wr := (lW a hL hT im bs rd hS sh kb rf ++ gW tk hL G d e ++ gW tk hT G td te)) (C0.sz hl) X (c_X0_below l D tk bs ch am 1000) ⟨tb585, tb588, tb3, ⟨by decide, by decide, rfl⟩, rfl, rfl, Nat.le_of_ble_eq_true rfl, Nat.le_of_ble_eq_true rfl⟩ tb586 tb587 21 0 rfl rfl rfl rfl [21] [0, 1, 2, 3, 4, 5, 6, 7, 8, 9, 10, 11, 12, 13, 14, 15, 16, 17, 18, 19, 20] rfl rfl rfl rfl rfl (Nat.le_of_ble_eq_true rfl) ⟨Nat.le_of_ble_eq_true rfl, Nat.le_of_ble_eq_true rfl⟩ dX6_hour_38 (fun _ H locs _ X => ?_)
      have X : Hx D zA zs H locs (lW a hL hT im bs rd hS sh kb rf ++ gW tk hL G d e ++ gW tk hT G td te ++ bW bs (-4) (nI 1000)) := X
      refine g_iconst (n := 0) C0 rfl dX6_hour_41 ?_
      refine lv_istore_n (lv' := [(3, .int (nI 0)), (0, .ref a), (1, .int (nI xq)), (2, .int (nI yq))]) hx hb dX6_hour_42 rfl hl (by decide) rfl (fun ls hl => ?_)
      have J43 : ∀ (fz : Nat) (i : Nat) (ch1 : Int32) (am1 : Nat) (T1 : Nat → Nat → Nat) (d1 e1 : Nat → Nat), 24 - i < fz → ∀ (hi : i ≤ 24) (hTz : ∀ z, u2 T1 5 xq z = u2 G 5 xq z) (hbf : (ch1, am1) = bfold (fun _ => true) (fun h => crossS (u2 (cgv G) 5 xq h)) 1000 i) (H : Heap) (locs : List Loc) (ls : Array Slot), Hx D zA zs H locs (lW a hL hT im bs rd hS sh kb rf ++ gW tk hL G d e ++ gW tk hT T1 d1 e1 ++ bW bs ch1 (nI am1)) → lv_has ls 4 [(3, .int (nI i)), (0, .ref a), (1, .int (nI xq)), (2, .int (nI yq))] → W zp l ze ⟨5, 0, 0, 134⟩ zs zm za zb zt zc H locs 0 0 zQ (F0 zm 43 ls []) := by
        intro fz
        induction fz with
        | zero => intro i ch1 am1 T1 d1 e1 hz; exact absurd hz (Nat.not_lt_zero _)
        | succ fz ih43 =>
          intro i ch1 am1 T1 d1 e1 hz43 hi hTz hbf H locs ls X hl
          refine lv_iload_n hx hb dX6_hour_43 rfl (lv_at hl 0 rfl) ?_
          refine g_bipush (n := 23) C0 (by decide) dX6_hour_44 ?_
          refine g_icmp_gt (x := i) (y := 23) (tgt := 80) C0 (by omega) (by omega) dX6_hour_46 rfl (fun c5 => ?_) (fun c6 => ?_)
          · refine lv_aload_n hx hb dX6_hour_80 rfl (lv_at hl 1 rfl) ?_
            refine g_get (v := .ref bs) C0 X kX6 0 3 tb203 rfl rfl rfl dX6_hour_81 ?_
            refine lv_iload_n hx hb dX6_hour_84 rfl (lv_at hl 3 rfl) ?_
            refine g_callV (As := [.int (nI yq)]) (rest := []) (wr := (lW a hL hT im bs rd hS sh kb rf ++ gW tk hL G d e ++ gW tk hT T1 d1 e1)) (C0.sz hl) X (c_X0_told l D tk bs ch1 am1 yq (by first | assumption | omega)) ⟨tb593, tb596, tb3, ⟨by decide, by decide, rfl⟩, rfl, rfl, Nat.le_of_ble_eq_true rfl, Nat.le_of_ble_eq_true rfl⟩ tb594 tb595 21 0 rfl rfl rfl rfl [21] [0, 1, 2, 3, 4, 5, 6, 7, 8, 9, 10, 11, 12, 13, 14, 15, 16, 17, 18, 19, 20] rfl rfl rfl rfl rfl (Nat.le_of_ble_eq_true rfl) ⟨Nat.le_of_ble_eq_true rfl, Nat.le_of_ble_eq_true rfl⟩ dX6_hour_85 (fun _ H locs _ X => ?_)
            have X : Hx D zA zs H locs (lW a hL hT im bs rd hS sh kb rf ++ gW tk hL G d e ++ gW tk hT T1 d1 e1 ++ bW bs ch1 (nI am1)) := X
            exact hE (v := if yq = 0 ∨ ch1 = -4 then ch1 else nI am1) (d, e, T1, d1, e1, ch1, nI am1) (by simp only [a_hour, cg0, cg1, cg2, cg3, cg5, cg6, cg7, cg8, c2, c3, tn_nI (k := xq) (by omega), tn_nI (k := yq) (by omega), Bool.and_self, if_true]; rw [← told_s (i := 24) (show i = 24 by omega ▸ hbf)]) trivial X dX6_hour_88
          · refine lv_aload_n hx hb dX6_hour_49 rfl (lv_at hl 1 rfl) ?_
            refine g_get (v := .ref (hT 0)) C0 X kX6 0 1 tb201 rfl rfl rfl dX6_hour_50 ?_
            refine g_get (v := .ref (hT 5)) C0 X kX1 11 9 tb55 rfl rfl rfl dX6_hour_53 ?_
            refine lv_iload_n hx hb dX6_hour_56 rfl (lv_at hl 2 rfl) ?_
            refine lv_iload_n hx hb dX6_hour_57 rfl (lv_at hl 0 rfl) ?_
            refine g_iast (g := nf (u1 (T1 5) xq i)) (i := xq) C0 X 16 0 rfl rfl (by omega) rfl (nf_u1 _ _ _) dX6_hour_58 (fun H locs X => ?_)
            have X : Hx D zA zs H locs (lW a hL hT im bs rd hS sh kb rf ++ gW tk hL G d e ++ gW tk hT (u2 T1 5 xq i) d1 e1 ++ bW bs ch1 (nI am1)) := X
            have X : Hx D zA zs H locs (lW a hL hT im bs rd hS sh kb rf ++ gW tk hL G d e ++ gW tk hT (u2 G 5 xq i) d1 e1 ++ bW bs ch1 (nI am1)) := X.to (by rw [hTz i])
            refine lv_aload_n hx hb dX6_hour_59 rfl (lv_at hl 1 rfl) ?_
            refine g_get (v := .ref bs) C0 X kX6 0 3 tb203 rfl rfl rfl dX6_hour_60 ?_
            refine lv_iload_n hx hb dX6_hour_63 rfl (lv_at hl 0 rfl) ?_
            refine lv_aload_n hx hb dX6_hour_64 rfl (lv_at hl 1 rfl) ?_
            refine g_get (v := .ref (hT 0)) C0 X kX6 0 1 tb201 rfl rfl rfl dX6_hour_65 ?_
            refine g_callV (As := []) (rest := [.int (nI i), .ref bs]) (wr := (lW a hL hT im bs rd hS sh kb rf ++ gW tk hL G d e ++ bW bs ch1 (nI am1))) (C0.sz hl) X (c_X1_crossedPairs l D tk hT (u2 G 5 xq i) d1 e1 (by exact hw.houru (by omega))) ⟨tb411, tb414, tb2, ⟨by decide, by decide, rfl⟩, rfl, rfl, Nat.le_of_ble_eq_true rfl, Nat.le_of_ble_eq_true rfl⟩ tb412 tb413 11 1 rfl rfl rfl rfl [11, 12, 13, 14, 15, 16, 17, 18, 19, 20] [0, 1, 2, 3, 4, 5, 6, 7, 8, 9, 10, 21] rfl rfl rfl rfl rfl (Nat.le_of_ble_eq_true rfl) ⟨Nat.le_of_ble_eq_true rfl, Nat.le_of_ble_eq_true rfl⟩ dX6_hour_68 (fun uq7 H locs _ X => ?_)
            have X : Hx D zA zs H locs (lW a hL hT im bs rd hS sh kb rf ++ gW tk hL G d e ++ bW bs ch1 (nI am1) ++ gW tk hT (u2 G 5 xq i) uq7.1 uq7.2) := X
            have X : Hx D zA zs H locs (lW a hL hT im bs rd hS sh kb rf ++ gW tk hL G d e ++ gW tk hT (u2 G 5 xq i) uq7.1 uq7.2 ++ bW bs ch1 (nI am1)) := X.sub [0, 1, 2, 3, 4, 5, 6, 7, 8, 9, 10, 12, 13, 14, 15, 16, 17, 18, 19, 20, 21, 11] rfl rfl
            have hLq := crossS_le (cgv (u2 G 5 xq i)) hw4
            have hamL := bf_am hbf
            refine g_callV (As := [.int (nI i), .int (nI (crossS (cgv (u2 G 5 xq i))))]) (rest := []) (wr := (lW a hL hT im bs rd hS sh kb rf ++ gW tk hL G d e ++ gW tk hT (u2 G 5 xq i) uq7.1 uq7.2)) (C0.sz hl) X (c_X0_offer l D tk bs ch1 am1 i (crossS (cgv (u2 G 5 xq i))) (by first | assumption | omega) (by first | assumption | omega)) ⟨tb589, tb592, tb3, ⟨by decide, by decide, rfl⟩, rfl, rfl, Nat.le_of_ble_eq_true rfl, Nat.le_of_ble_eq_true rfl⟩ tb590 tb591 21 0 rfl rfl rfl rfl [21] [0, 1, 2, 3, 4, 5, 6, 7, 8, 9, 10, 11, 12, 13, 14, 15, 16, 17, 18, 19, 20] rfl rfl rfl rfl rfl (Nat.le_of_ble_eq_true rfl) ⟨Nat.le_of_ble_eq_true rfl, Nat.le_of_ble_eq_true rfl⟩ dX6_hour_71 (fun _ H locs _ X => ?_)
            have X : Hx D zA zs H locs (lW a hL hT im bs rd hS sh kb rf ++ gW tk hL G d e ++ gW tk hT (u2 G 5 xq i) uq7.1 uq7.2 ++ bW bs (if (crossS (cgv (u2 G 5 xq i))) < am1 then nI i else ch1) (nI (if (crossS (cgv (u2 G 5 xq i))) < am1 then (crossS (cgv (u2 G 5 xq i))) else am1))) := X
            refine g_iinc (j := 1) (z := i + 1) (lv' := [(3, .int (nI (i + 1))), (0, .ref a), (1, .int (nI xq)), (2, .int (nI yq))]) C0 rfl (by first | rfl | omega) dX6_hour_74 hl (k := 0) rfl (by decide) rfl (fun ls hl => ?_)
            refine lv_goto (tgt := 43) hx hb dX6_hour_77 (by decide) ?_
            exact ih43 (i + 1) (if (crossS (cgv (u2 G 5 xq i))) < am1 then nI i else ch1) (if (crossS (cgv (u2 G 5 xq i))) < am1 then (crossS (cgv (u2 G 5 xq i))) else am1) (u2 G 5 xq i) uq7.1 uq7.2 (by omega) (by omega) (by intro z; exact u2_u2 _ _ _ _ _) (by rw [cgv_u2 (by decide)]; exact bf_t (P := fun _ => true) (x := fun h => crossS (u2 (cgv G) 5 xq h)) rfl hbf) H locs ls X (lv_sub hl [0, 1, 2, 3] rfl)
      exact J43 ((24 - 0) + 1) 0 (-4) 1000 G td te (Nat.lt_succ_self _) (by omega) (by intro z; rfl) (by rfl) H locs ls X (lv_sub hl [0, 1, 2, 3] rfl)
    · refine lv_iconst (v := (-1)) hx hb dX6_hour_18 (by decide) ?_
      exact hE (v := (-1)) (d, e, T, td, te, ch, am) (by simp [a_hour, cg0, cg1, cg2, cg3, cg5, cg6, cg7, cg8, c2, c4, tn_nI (k := xq) (by omega)]) trivial X dX6_hour_19
set_option maxHeartbeats 4000000 in
set_option maxRecDepth 100000 in
theorem c_X6_kind (l : Launch) (D : va_G) (tk : Nat → ClassId) (a : Nat) (hL hT : Nat → Nat) (im bs rd : Nat) (hS : Nat → Nat) (sh kb rf : Nat) (G : Nat → Nat → Nat) (d e : Nat → Nat) (T : Nat → Nat → Nat) (td te : Nat → Nat) (ch am : Int32) (x y : Int32) (hw : GW G) : MX l yX6_kind cX6_kind 4 (some .int) ⟨5, 0, 0, 134⟩ D (TYS tk) [.ref a, .int x, .int y] (lW a hL hT im bs rd hS sh kb rf ++ gW tk hL G d e ++ gW tk hT T td te ++ bW bs ch am) (fun (u : (Nat → Nat) × (Nat → Nat) × (Nat → Nat → Nat) × (Nat → Nat) × (Nat → Nat) × Int32 × Int32) => True) (fun u => some (.int (a_kind 1000 (cgv G) x y))) (fun u => lW a hL hT im bs rd hS sh kb rf ++ gW tk hL G u.1 u.2.1 ++ gW tk hT u.2.2.1 u.2.2.2.1 u.2.2.2.2.1 ++ bW bs u.2.2.2.2.2.1 u.2.2.2.2.2.2) 0 0 := by
  refine MX.of_i (by decide) rfl ?_
  intro zp ze zs zm za zb zt zc zA zQ ls C0 hnm X hl hE
  have hx := C0.1
  have hb := C0.2.1
  have ht := C0.2.2.2.2.1
  have X : Hx D zA zs zs.heap [] (lW a hL hT im bs rd hS sh kb rf ++ gW tk hL G d e ++ gW tk hT T td te ++ bW bs ch am) := X
  have hl : lv_has ls 4 [(0, .ref a), (1, .int x), (2, .int y)] := hl
  obtain ⟨hw1, hw2, hw3, hw4, hw5, hw6, hw7, hw8⟩ := id hw
  obtain ⟨H, hH⟩ : ∃ H, H = zs.heap := ⟨_, rfl⟩
  rw [← hH] at X ⊢
  obtain ⟨locs, hlo⟩ : ∃ L : List Loc, L = [] := ⟨_, rfl⟩
  rw [← hlo] at X ⊢
  refine lv_aload_n hx hb dX6_kind_0 rfl (lv_at hl 0 rfl) ?_
  refine g_get (v := .ref (hL 0)) C0 X kX6 0 0 tb200 rfl rfl rfl dX6_kind_1 ?_
  refine lv_iload_n hx hb dX6_kind_4 rfl (lv_at hl 1 rfl) ?_
  refine g_callV (As := [.int x]) (rest := []) (wr := (lW a hL hT im bs rd hS sh kb rf ++ gW tk hT T td te ++ bW bs ch am)) (C0.sz hl) X (c_X1_hasTree l D tk hL G d e x (by first | assumption | omega)) ⟨tb456, tb390, tb2, ⟨by decide, by decide, rfl⟩, rfl, rfl, Nat.le_of_ble_eq_true rfl, Nat.le_of_ble_eq_true rfl⟩ tb388 tb389 1 1 rfl rfl rfl rfl [1, 2, 3, 4, 5, 6, 7, 8, 9, 10] [0, 11, 12, 13, 14, 15, 16, 17, 18, 19, 20, 21] rfl rfl rfl rfl rfl (Nat.le_of_ble_eq_true rfl) ⟨Nat.le_of_ble_eq_true rfl, Nat.le_of_ble_eq_true rfl⟩ dX6_kind_5 (fun _ H locs _ X => ?_)
  have X : Hx D zA zs H locs (lW a hL hT im bs rd hS sh kb rf ++ gW tk hT T td te ++ bW bs ch am ++ gW tk hL G d e) := X
  have X : Hx D zA zs H locs (lW a hL hT im bs rd hS sh kb rf ++ gW tk hL G d e ++ gW tk hT T td te ++ bW bs ch am) := X.sub [0, 12, 13, 14, 15, 16, 17, 18, 19, 20, 21, 1, 2, 3, 4, 5, 6, 7, 8, 9, 10, 11] rfl rfl
  refine g_ifeqB (x := ix x (G 8 0)) (tgt := 18) C0 dX6_kind_8 rfl (fun c1 => ?_) (fun c2 => ?_)
  · refine lv_iconst (v := (-1)) hx hb dX6_kind_18 (by decide) ?_
    exact hE (v := (-1)) (d, e, T, td, te, ch, am) (by simp [a_kind, cg0, cg1, cg2, cg3, cg5, cg6, cg7, cg8, c1]) trivial X dX6_kind_19
  · obtain ⟨xq, hk_xq, rfl⟩ := ix_sp c2
    refine lv_iload_n hx hb dX6_kind_11 rfl (lv_at hl 2 rfl) ?_
    refine g_callS (As := [.int y]) (rest := []) (wr := (lW a hL hT im bs rd hS sh kb rf ++ gW tk hL G d e ++ gW tk hT T td te ++ bW bs ch am)) (C0.sz hl) X (c_X6_isEither l D tk y) ⟨tb582, tb584, tb1, ⟨by decide, by decide, rfl⟩, rfl, rfl, Nat.le_of_ble_eq_true rfl, Nat.le_of_ble_eq_true rfl⟩ tb583 rfl [] [0, 1, 2, 3, 4, 5, 6, 7, 8, 9, 10, 11, 12, 13, 14, 15, 16, 17, 18, 19, 20, 21] rfl rfl rfl rfl rfl (Nat.le_of_ble_eq_true rfl) ⟨Nat.le_of_ble_eq_true rfl, Nat.le_of_ble_eq_true rfl⟩ dX6_kind_12 (fun _ H locs _ X => ?_)
    have X : Hx D zA zs H locs (lW a hL hT im bs rd hS sh kb rf ++ gW tk hL G d e ++ gW tk hT T td te ++ bW bs ch am) := X
    refine g_ifneB (x := rg y 0 1) (tgt := 20) C0 dX6_kind_15 rfl (fun c3 => ?_) (fun c4 => ?_)
    · obtain ⟨yq, hk_yqa, hk_yqb, hk_yqc, rfl⟩ := rg_sp c3
      refine lv_aload_n hx hb dX6_kind_20 rfl (lv_at hl 0 rfl) ?_
      refine g_get (v := .ref (hT 0)) C0 X kX6 0 1 tb201 rfl rfl rfl dX6_kind_21 ?_
      refine lv_aload_n hx hb dX6_kind_24 rfl (lv_at hl 0 rfl) ?_
      refine g_get (v := .ref (hL 0)) C0 X kX6 0 0 tb200 rfl rfl rfl dX6_kind_25 ?_
      refine g_callV (As := [.ref (hL 0)]) (rest := []) (wr := (lW a hL hT im bs rd hS sh kb rf ++ bW bs ch am)) (C0.sz hl) X (c_X1_become l D tk hT T td te hL G d e) ⟨tb392, tb395, tb2, ⟨by decide, by decide, rfl⟩, rfl, rfl, Nat.le_of_ble_eq_true rfl, Nat.le_of_ble_eq_true rfl⟩ tb393 tb394 11 1 rfl rfl rfl rfl [11, 12, 13, 14, 15, 16, 17, 18, 19, 20, 1, 2, 3, 4, 5, 6, 7, 8, 9, 10] [0, 21] rfl rfl rfl rfl rfl (Nat.le_of_ble_eq_true rfl) ⟨Nat.le_of_ble_eq_true rfl, Nat.le_of_ble_eq_true rfl⟩ dX6_kind_28 (fun _ H locs _ X => ?_)
      have X : Hx D zA zs H locs (lW a hL hT im bs rd hS sh kb rf ++ bW bs ch am ++ gW tk hT G td te ++ gW tk hL G d e) := X
      have X : Hx D zA zs H locs (lW a hL hT im bs rd hS sh kb rf ++ gW tk hL G d e ++ gW tk hT G td te ++ bW bs ch am) := X.sub [0, 12, 13, 14, 15, 16, 17, 18, 19, 20, 21, 2, 3, 4, 5, 6, 7, 8, 9, 10, 11, 1] rfl rfl
      refine lv_aload_n hx hb dX6_kind_31 rfl (lv_at hl 0 rfl) ?_
      refine g_get (v := .ref bs) C0 X kX6 0 3 tb203 rfl rfl rfl dX6_kind_32 ?_
      refine g_sipush (n := 1000) C0 (by decide) dX6_kind_35 ?_
      refine g_callV (As := [.int (nI 1000)]) (rest := []) (wr := (lW a hL hT im bs rd hS sh kb rf ++ gW tk hL G d e ++ gW tk hT G td te)) (C0.sz hl) X (c_X0_below l D tk bs ch am 1000) ⟨tb585, tb588, tb3, ⟨by decide, by decide, rfl⟩, rfl, rfl, Nat.le_of_ble_eq_true rfl, Nat.le_of_ble_eq_true rfl⟩ tb586 tb587 21 0 rfl rfl rfl rfl [21] [0, 1, 2, 3, 4, 5, 6, 7, 8, 9, 10, 11, 12, 13, 14, 15, 16, 17, 18, 19, 20] rfl rfl rfl rfl rfl (Nat.le_of_ble_eq_true rfl) ⟨Nat.le_of_ble_eq_true rfl, Nat.le_of_ble_eq_true rfl⟩ dX6_kind_38 (fun _ H locs _ X => ?_)
      have X : Hx D zA zs H locs (lW a hL hT im bs rd hS sh kb rf ++ gW tk hL G d e ++ gW tk hT G td te ++ bW bs (-4) (nI 1000)) := X
      refine g_iconst (n := 0) C0 rfl dX6_kind_41 ?_
      refine lv_istore_n (lv' := [(3, .int (nI 0)), (0, .ref a), (1, .int (nI xq)), (2, .int (nI yq))]) hx hb dX6_kind_42 rfl hl (by decide) rfl (fun ls hl => ?_)
      have J43 : ∀ (fz : Nat) (i : Nat) (ch1 : Int32) (am1 : Nat) (T1 : Nat → Nat → Nat) (d1 e1 : Nat → Nat), 4 - i < fz → ∀ (hi : i ≤ 4) (hTz : ∀ z, u2 T1 0 xq z = u2 G 0 xq z) (hbf : (ch1, am1) = bfold (fun _ => true) (fun h => crossS (u2 (cgv G) 0 xq h)) 1000 i) (H : Heap) (locs : List Loc) (ls : Array Slot), Hx D zA zs H locs (lW a hL hT im bs rd hS sh kb rf ++ gW tk hL G d e ++ gW tk hT T1 d1 e1 ++ bW bs ch1 (nI am1)) → lv_has ls 4 [(3, .int (nI i)), (0, .ref a), (1, .int (nI xq)), (2, .int (nI yq))] → W zp l ze ⟨5, 0, 0, 134⟩ zs zm za zb zt zc H locs 0 0 zQ (F0 zm 43 ls []) := by
        intro fz
        induction fz with
        | zero => intro i ch1 am1 T1 d1 e1 hz; exact absurd hz (Nat.not_lt_zero _)
        | succ fz ih43 =>
          intro i ch1 am1 T1 d1 e1 hz43 hi hTz hbf H locs ls X hl
          refine lv_iload_n hx hb dX6_kind_43 rfl (lv_at hl 0 rfl) ?_
          refine g_iconst (n := 3) C0 rfl dX6_kind_44 ?_
          refine g_icmp_gt (x := i) (y := 3) (tgt := 79) C0 (by omega) (by omega) dX6_kind_45 rfl (fun c5 => ?_) (fun c6 => ?_)
          · refine lv_aload_n hx hb dX6_kind_79 rfl (lv_at hl 1 rfl) ?_
            refine g_get (v := .ref bs) C0 X kX6 0 3 tb203 rfl rfl rfl dX6_kind_80 ?_
            refine lv_iload_n hx hb dX6_kind_83 rfl (lv_at hl 3 rfl) ?_
            refine g_callV (As := [.int (nI yq)]) (rest := []) (wr := (lW a hL hT im bs rd hS sh kb rf ++ gW tk hL G d e ++ gW tk hT T1 d1 e1)) (C0.sz hl) X (c_X0_told l D tk bs ch1 am1 yq (by first | assumption | omega)) ⟨tb593, tb596, tb3, ⟨by decide, by decide, rfl⟩, rfl, rfl, Nat.le_of_ble_eq_true rfl, Nat.le_of_ble_eq_true rfl⟩ tb594 tb595 21 0 rfl rfl rfl rfl [21] [0, 1, 2, 3, 4, 5, 6, 7, 8, 9, 10, 11, 12, 13, 14, 15, 16, 17, 18, 19, 20] rfl rfl rfl rfl rfl (Nat.le_of_ble_eq_true rfl) ⟨Nat.le_of_ble_eq_true rfl, Nat.le_of_ble_eq_true rfl⟩ dX6_kind_84 (fun _ H locs _ X => ?_)
            have X : Hx D zA zs H locs (lW a hL hT im bs rd hS sh kb rf ++ gW tk hL G d e ++ gW tk hT T1 d1 e1 ++ bW bs ch1 (nI am1)) := X
            exact hE (v := if yq = 0 ∨ ch1 = -4 then ch1 else nI am1) (d, e, T1, d1, e1, ch1, nI am1) (by simp only [a_kind, cg0, cg1, cg2, cg3, cg5, cg6, cg7, cg8, c2, c3, tn_nI (k := xq) (by omega), tn_nI (k := yq) (by omega), Bool.and_self, if_true]; rw [← told_s (i := 4) (show i = 4 by omega ▸ hbf)]) trivial X dX6_kind_87
          · refine lv_aload_n hx hb dX6_kind_48 rfl (lv_at hl 1 rfl) ?_
            refine g_get (v := .ref (hT 0)) C0 X kX6 0 1 tb201 rfl rfl rfl dX6_kind_49 ?_
            refine g_get (v := .ref (hT 1)) C0 X kX1 11 1 tb36 rfl rfl rfl dX6_kind_52 ?_
            refine lv_iload_n hx hb dX6_kind_55 rfl (lv_at hl 2 rfl) ?_
            refine lv_iload_n hx hb dX6_kind_56 rfl (lv_at hl 0 rfl) ?_
            refine g_iast (g := nf (u1 (T1 0) xq i)) (i := xq) C0 X 12 0 rfl rfl (by omega) rfl (nf_u1 _ _ _) dX6_kind_57 (fun H locs X => ?_)
            have X : Hx D zA zs H locs (lW a hL hT im bs rd hS sh kb rf ++ gW tk hL G d e ++ gW tk hT (u2 T1 0 xq i) d1 e1 ++ bW bs ch1 (nI am1)) := X
            have X : Hx D zA zs H locs (lW a hL hT im bs rd hS sh kb rf ++ gW tk hL G d e ++ gW tk hT (u2 G 0 xq i) d1 e1 ++ bW bs ch1 (nI am1)) := X.to (by rw [hTz i])
            refine lv_aload_n hx hb dX6_kind_58 rfl (lv_at hl 1 rfl) ?_
            refine g_get (v := .ref bs) C0 X kX6 0 3 tb203 rfl rfl rfl dX6_kind_59 ?_
            refine lv_iload_n hx hb dX6_kind_62 rfl (lv_at hl 0 rfl) ?_
            refine lv_aload_n hx hb dX6_kind_63 rfl (lv_at hl 1 rfl) ?_
            refine g_get (v := .ref (hT 0)) C0 X kX6 0 1 tb201 rfl rfl rfl dX6_kind_64 ?_
            refine g_callV (As := []) (rest := [.int (nI i), .ref bs]) (wr := (lW a hL hT im bs rd hS sh kb rf ++ gW tk hL G d e ++ bW bs ch1 (nI am1))) (C0.sz hl) X (c_X1_crossedPairs l D tk hT (u2 G 0 xq i) d1 e1 (by exact hw.kindu (by omega))) ⟨tb411, tb414, tb2, ⟨by decide, by decide, rfl⟩, rfl, rfl, Nat.le_of_ble_eq_true rfl, Nat.le_of_ble_eq_true rfl⟩ tb412 tb413 11 1 rfl rfl rfl rfl [11, 12, 13, 14, 15, 16, 17, 18, 19, 20] [0, 1, 2, 3, 4, 5, 6, 7, 8, 9, 10, 21] rfl rfl rfl rfl rfl (Nat.le_of_ble_eq_true rfl) ⟨Nat.le_of_ble_eq_true rfl, Nat.le_of_ble_eq_true rfl⟩ dX6_kind_67 (fun uq7 H locs _ X => ?_)
            have X : Hx D zA zs H locs (lW a hL hT im bs rd hS sh kb rf ++ gW tk hL G d e ++ bW bs ch1 (nI am1) ++ gW tk hT (u2 G 0 xq i) uq7.1 uq7.2) := X
            have X : Hx D zA zs H locs (lW a hL hT im bs rd hS sh kb rf ++ gW tk hL G d e ++ gW tk hT (u2 G 0 xq i) uq7.1 uq7.2 ++ bW bs ch1 (nI am1)) := X.sub [0, 1, 2, 3, 4, 5, 6, 7, 8, 9, 10, 12, 13, 14, 15, 16, 17, 18, 19, 20, 21, 11] rfl rfl
            have hLq := crossS_le (cgv (u2 G 0 xq i)) hw4
            have hamL := bf_am hbf
            refine g_callV (As := [.int (nI i), .int (nI (crossS (cgv (u2 G 0 xq i))))]) (rest := []) (wr := (lW a hL hT im bs rd hS sh kb rf ++ gW tk hL G d e ++ gW tk hT (u2 G 0 xq i) uq7.1 uq7.2)) (C0.sz hl) X (c_X0_offer l D tk bs ch1 am1 i (crossS (cgv (u2 G 0 xq i))) (by first | assumption | omega) (by first | assumption | omega)) ⟨tb589, tb592, tb3, ⟨by decide, by decide, rfl⟩, rfl, rfl, Nat.le_of_ble_eq_true rfl, Nat.le_of_ble_eq_true rfl⟩ tb590 tb591 21 0 rfl rfl rfl rfl [21] [0, 1, 2, 3, 4, 5, 6, 7, 8, 9, 10, 11, 12, 13, 14, 15, 16, 17, 18, 19, 20] rfl rfl rfl rfl rfl (Nat.le_of_ble_eq_true rfl) ⟨Nat.le_of_ble_eq_true rfl, Nat.le_of_ble_eq_true rfl⟩ dX6_kind_70 (fun _ H locs _ X => ?_)
            have X : Hx D zA zs H locs (lW a hL hT im bs rd hS sh kb rf ++ gW tk hL G d e ++ gW tk hT (u2 G 0 xq i) uq7.1 uq7.2 ++ bW bs (if (crossS (cgv (u2 G 0 xq i))) < am1 then nI i else ch1) (nI (if (crossS (cgv (u2 G 0 xq i))) < am1 then (crossS (cgv (u2 G 0 xq i))) else am1))) := X
            refine g_iinc (j := 1) (z := i + 1) (lv' := [(3, .int (nI (i + 1))), (0, .ref a), (1, .int (nI xq)), (2, .int (nI yq))]) C0 rfl (by first | rfl | omega) dX6_kind_73 hl (k := 0) rfl (by decide) rfl (fun ls hl => ?_)
            refine lv_goto (tgt := 43) hx hb dX6_kind_76 (by decide) ?_
            exact ih43 (i + 1) (if (crossS (cgv (u2 G 0 xq i))) < am1 then nI i else ch1) (if (crossS (cgv (u2 G 0 xq i))) < am1 then (crossS (cgv (u2 G 0 xq i))) else am1) (u2 G 0 xq i) uq7.1 uq7.2 (by omega) (by omega) (by intro z; exact u2_u2 _ _ _ _ _) (by rw [cgv_u2 (by decide)]; exact bf_t (P := fun _ => true) (x := fun h => crossS (u2 (cgv G) 0 xq h)) rfl hbf) H locs ls X (lv_sub hl [0, 1, 2, 3] rfl)
      exact J43 ((4 - 0) + 1) 0 (-4) 1000 G td te (Nat.lt_succ_self _) (by omega) (by intro z; rfl) (by rfl) H locs ls X (lv_sub hl [0, 1, 2, 3] rfl)
    · refine lv_iconst (v := (-1)) hx hb dX6_kind_18 (by decide) ?_
      exact hE (v := (-1)) (d, e, T, td, te, ch, am) (by simp [a_kind, cg0, cg1, cg2, cg3, cg5, cg6, cg7, cg8, c2, c4, tn_nI (k := xq) (by omega)]) trivial X dX6_kind_19
set_option maxHeartbeats 4000000 in
set_option maxRecDepth 100000 in
theorem c_X6_dear (l : Launch) (D : va_G) (tk : Nat → ClassId) (a : Nat) (hL hT : Nat → Nat) (im bs rd : Nat) (hS : Nat → Nat) (sh kb rf : Nat) (G : Nat → Nat → Nat) (d e : Nat → Nat) (T : Nat → Nat → Nat) (td te : Nat → Nat) (ch am : Int32) (x : Int32) (hw : GW G) : MX l yX6_dear cX6_dear 3 (some .int) ⟨5, 0, 0, 133⟩ D (TYS tk) [.ref a, .int x] (lW a hL hT im bs rd hS sh kb rf ++ gW tk hL G d e ++ gW tk hT T td te ++ bW bs ch am) (fun (u : (Nat → Nat) × (Nat → Nat) × (Nat → Nat → Nat) × (Nat → Nat) × (Nat → Nat) × Int32 × Int32) => True) (fun u => some (.int (a_dear (cgv G) x))) (fun u => lW a hL hT im bs rd hS sh kb rf ++ gW tk hL G u.1 u.2.1 ++ gW tk hT u.2.2.1 u.2.2.2.1 u.2.2.2.2.1 ++ bW bs u.2.2.2.2.2.1 u.2.2.2.2.2.2) 0 0 := by
  refine MX.of_i (by decide) rfl ?_
  intro zp ze zs zm za zb zt zc zA zQ ls C0 hnm X hl hE
  have hx := C0.1
  have hb := C0.2.1
  have ht := C0.2.2.2.2.1
  have X : Hx D zA zs zs.heap [] (lW a hL hT im bs rd hS sh kb rf ++ gW tk hL G d e ++ gW tk hT T td te ++ bW bs ch am) := X
  have hl : lv_has ls 3 [(0, .ref a), (1, .int x)] := hl
  obtain ⟨hw1, hw2, hw3, hw4, hw5, hw6, hw7, hw8⟩ := id hw
  have hw0 := hw.cut
  have hLL := hearersS_le (cgv G) hw4
  obtain ⟨H, hH⟩ : ∃ H, H = zs.heap := ⟨_, rfl⟩
  rw [← hH] at X ⊢
  obtain ⟨locs, hlo⟩ : ∃ L : List Loc, L = [] := ⟨_, rfl⟩
  rw [← hlo] at X ⊢
  refine lv_iload_n hx hb dX6_dear_0 rfl (lv_at hl 1 rfl) ?_
  refine g_callS (As := [.int x]) (rest := []) (wr := (lW a hL hT im bs rd hS sh kb rf ++ gW tk hL G d e ++ gW tk hT T td te ++ bW bs ch am)) (C0.sz hl) X (c_X6_isEither l D tk x) ⟨tb582, tb584, tb1, ⟨by decide, by decide, rfl⟩, rfl, rfl, Nat.le_of_ble_eq_true rfl, Nat.le_of_ble_eq_true rfl⟩ tb583 rfl [] [0, 1, 2, 3, 4, 5, 6, 7, 8, 9, 10, 11, 12, 13, 14, 15, 16, 17, 18, 19, 20, 21] rfl rfl rfl rfl rfl (Nat.le_of_ble_eq_true rfl) ⟨Nat.le_of_ble_eq_true rfl, Nat.le_of_ble_eq_true rfl⟩ dX6_dear_1 (fun _ H locs _ X => ?_)
  have X : Hx D zA zs H locs (lW a hL hT im bs rd hS sh kb rf ++ gW tk hL G d e ++ gW tk hT T td te ++ bW bs ch am) := X
  refine g_ifneB (x := rg x 0 1) (tgt := 9) C0 dX6_dear_4 rfl (fun c1 => ?_) (fun c2 => ?_)
  · obtain ⟨xq, hk_xqa, hk_xqb, hk_xqc, rfl⟩ := rg_sp c1
    refine lv_aload_n hx hb dX6_dear_9 rfl (lv_at hl 0 rfl) ?_
    refine g_get (v := .ref (hT 0)) C0 X kX6 0 1 tb201 rfl rfl rfl dX6_dear_10 ?_
    refine lv_aload_n hx hb dX6_dear_13 rfl (lv_at hl 0 rfl) ?_
    refine g_get (v := .ref (hL 0)) C0 X kX6 0 0 tb200 rfl rfl rfl dX6_dear_14 ?_
    refine g_callV (As := [.ref (hL 0)]) (rest := []) (wr := (lW a hL hT im bs rd hS sh kb rf ++ bW bs ch am)) (C0.sz hl) X (c_X1_become l D tk hT T td te hL G d e) ⟨tb392, tb395, tb2, ⟨by decide, by decide, rfl⟩, rfl, rfl, Nat.le_of_ble_eq_true rfl, Nat.le_of_ble_eq_true rfl⟩ tb393 tb394 11 1 rfl rfl rfl rfl [11, 12, 13, 14, 15, 16, 17, 18, 19, 20, 1, 2, 3, 4, 5, 6, 7, 8, 9, 10] [0, 21] rfl rfl rfl rfl rfl (Nat.le_of_ble_eq_true rfl) ⟨Nat.le_of_ble_eq_true rfl, Nat.le_of_ble_eq_true rfl⟩ dX6_dear_17 (fun _ H locs _ X => ?_)
    have X : Hx D zA zs H locs (lW a hL hT im bs rd hS sh kb rf ++ bW bs ch am ++ gW tk hT G td te ++ gW tk hL G d e) := X
    have X : Hx D zA zs H locs (lW a hL hT im bs rd hS sh kb rf ++ gW tk hL G d e ++ gW tk hT G td te ++ bW bs ch am) := X.sub [0, 12, 13, 14, 15, 16, 17, 18, 19, 20, 21, 2, 3, 4, 5, 6, 7, 8, 9, 10, 11, 1] rfl rfl
    refine lv_aload_n hx hb dX6_dear_20 rfl (lv_at hl 0 rfl) ?_
    refine g_get (v := .ref bs) C0 X kX6 0 3 tb203 rfl rfl rfl dX6_dear_21 ?_
    refine lv_aload_n hx hb dX6_dear_24 rfl (lv_at hl 0 rfl) ?_
    refine g_get (v := .ref (hL 0)) C0 X kX6 0 0 tb200 rfl rfl rfl dX6_dear_25 ?_
    refine g_callV (As := []) (rest := [.ref bs]) (wr := (lW a hL hT im bs rd hS sh kb rf ++ gW tk hT G td te ++ bW bs ch am)) (C0.sz hl) X (c_X1_hearersOfAllTalks l D tk hL G d e (by first | assumption | omega)) ⟨tb620, tb623, tb2, ⟨by decide, by decide, rfl⟩, rfl, rfl, Nat.le_of_ble_eq_true rfl, Nat.le_of_ble_eq_true rfl⟩ tb621 tb622 1 1 rfl rfl rfl rfl [1, 2, 3, 4, 5, 6, 7, 8, 9, 10] [0, 11, 12, 13, 14, 15, 16, 17, 18, 19, 20, 21] rfl rfl rfl rfl rfl (Nat.le_of_ble_eq_true rfl) ⟨Nat.le_of_ble_eq_true rfl, Nat.le_of_ble_eq_true rfl⟩ dX6_dear_28 (fun uq3 H locs _ X => ?_)
    have X : Hx D zA zs H locs (lW a hL hT im bs rd hS sh kb rf ++ gW tk hT G td te ++ bW bs ch am ++ gW tk hL G uq3.1 uq3.2) := X
    have X : Hx D zA zs H locs (lW a hL hT im bs rd hS sh kb rf ++ gW tk hL G uq3.1 uq3.2 ++ gW tk hT G td te ++ bW bs ch am) := X.sub [0, 12, 13, 14, 15, 16, 17, 18, 19, 20, 21, 1, 2, 3, 4, 5, 6, 7, 8, 9, 10, 11] rfl rfl
    refine g_callV (As := [.int (nI (hearersS (cgv G)))]) (rest := []) (wr := (lW a hL hT im bs rd hS sh kb rf ++ gW tk hL G uq3.1 uq3.2 ++ gW tk hT G td te)) (C0.sz hl) X (c_X0_below l D tk bs ch am (hearersS (cgv G))) ⟨tb585, tb588, tb3, ⟨by decide, by decide, rfl⟩, rfl, rfl, Nat.le_of_ble_eq_true rfl, Nat.le_of_ble_eq_true rfl⟩ tb586 tb587 21 0 rfl rfl rfl rfl [21] [0, 1, 2, 3, 4, 5, 6, 7, 8, 9, 10, 11, 12, 13, 14, 15, 16, 17, 18, 19, 20] rfl rfl rfl rfl rfl (Nat.le_of_ble_eq_true rfl) ⟨Nat.le_of_ble_eq_true rfl, Nat.le_of_ble_eq_true rfl⟩ dX6_dear_31 (fun _ H locs _ X => ?_)
    have X : Hx D zA zs H locs (lW a hL hT im bs rd hS sh kb rf ++ gW tk hL G uq3.1 uq3.2 ++ gW tk hT G td te ++ bW bs (-4) (nI (hearersS (cgv G)))) := X
    refine g_iconst (n := 0) C0 rfl dX6_dear_34 ?_
    refine lv_istore_n (lv' := [(2, .int (nI 0)), (0, .ref a), (1, .int (nI xq))]) hx hb dX6_dear_35 rfl hl (by decide) rfl (fun ls hl => ?_)
    have J36 : ∀ (fz : Nat) (i cb : Nat) (ch1 : Int32) (am1 : Nat) (d1 e1 : Nat → Nat), G 8 1 - i < fz → ∀ (hi : i ≤ G 8 1) (hbf : (ch1, am1) = bfold (fun i => decide (cgv G 4 i = 0)) (fun i => hearersS (cutv (cgv G) (2 ^ i))) (hearersS (cgv G)) i) (H : Heap) (locs : List Loc) (ls : Array Slot), Hx D zA zs H locs (lW a hL hT im bs rd hS sh kb rf ++ gW tk hL G uq3.1 uq3.2 ++ gW tk hT (u2 G 4 0 cb) d1 e1 ++ bW bs ch1 (nI am1)) → lv_has ls 3 [(2, .int (nI i)), (0, .ref a), (1, .int (nI xq))] → W zp l ze ⟨5, 0, 0, 133⟩ zs zm za zb zt zc H locs 0 0 zQ (F0 zm 36 ls []) := by
      intro fz
      induction fz with
      | zero => intro i cb ch1 am1 d1 e1 hz; exact absurd hz (Nat.not_lt_zero _)
      | succ fz ih36 =>
        intro i cb ch1 am1 d1 e1 hz36 hi hbf H locs ls X hl
        refine lv_iload_n hx hb dX6_dear_36 rfl (lv_at hl 0 rfl) ?_
        refine lv_aload_n hx hb dX6_dear_37 rfl (lv_at hl 1 rfl) ?_
        refine g_get (v := .ref (hL 0)) C0 X kX6 0 0 tb200 rfl rfl rfl dX6_dear_38 ?_
        refine g_get (v := .int (nI (G 8 1))) C0 X kX1 1 2 tb39 rfl rfl rfl dX6_dear_41 ?_
        refine g_icmp_ge (x := i) (y := G 8 1) (tgt := 97) C0 (by omega) (by omega) dX6_dear_44 rfl (fun c4 => ?_) (fun c5 => ?_)
        · refine lv_aload_n hx hb dX6_dear_97 rfl (lv_at hl 1 rfl) ?_
          refine g_get (v := .ref bs) C0 X kX6 0 3 tb203 rfl rfl rfl dX6_dear_98 ?_
          refine lv_iload_n hx hb dX6_dear_101 rfl (lv_at hl 2 rfl) ?_
          refine g_callV (As := [.int (nI xq)]) (rest := []) (wr := (lW a hL hT im bs rd hS sh kb rf ++ gW tk hL G uq3.1 uq3.2 ++ gW tk hT (u2 G 4 0 cb) d1 e1)) (C0.sz hl) X (c_X0_told l D tk bs ch1 am1 xq (by first | assumption | omega)) ⟨tb593, tb596, tb3, ⟨by decide, by decide, rfl⟩, rfl, rfl, Nat.le_of_ble_eq_true rfl, Nat.le_of_ble_eq_true rfl⟩ tb594 tb595 21 0 rfl rfl rfl rfl [21] [0, 1, 2, 3, 4, 5, 6, 7, 8, 9, 10, 11, 12, 13, 14, 15, 16, 17, 18, 19, 20] rfl rfl rfl rfl rfl (Nat.le_of_ble_eq_true rfl) ⟨Nat.le_of_ble_eq_true rfl, Nat.le_of_ble_eq_true rfl⟩ dX6_dear_102 (fun _ H locs _ X => ?_)
          have X : Hx D zA zs H locs (lW a hL hT im bs rd hS sh kb rf ++ gW tk hL G uq3.1 uq3.2 ++ gW tk hT (u2 G 4 0 cb) d1 e1 ++ bW bs ch1 (nI am1)) := X
          exact hE (v := if xq = 0 ∨ ch1 = -4 then ch1 else nI am1) (uq3.1, uq3.2, (u2 G 4 0 cb), d1, e1, ch1, nI am1) (by simp only [a_dear, cg0, cg1, cg2, cg3, cg5, cg6, cg7, cg8, c1, tn_nI (k := xq) (by omega), if_true]; rw [show G 8 1 = i by omega, ← told_s hbf]) trivial X dX6_dear_105
        · refine lv_aload_n hx hb dX6_dear_47 rfl (lv_at hl 1 rfl) ?_
          refine g_get (v := .ref (hL 0)) C0 X kX6 0 0 tb200 rfl rfl rfl dX6_dear_48 ?_
          refine lv_iload_n hx hb dX6_dear_51 rfl (lv_at hl 0 rfl) ?_
          refine g_callV (As := [.int (nI i)]) (rest := []) (wr := (lW a hL hT im bs rd hS sh kb rf ++ gW tk hT (u2 G 4 0 cb) d1 e1 ++ bW bs ch1 (nI am1))) (C0.sz hl) X (c_X1_isWhole l D tk hL G uq3.1 uq3.2 i (by first | assumption | omega) (by first | assumption | omega)) ⟨tb477, tb429, tb2, ⟨by decide, by decide, rfl⟩, rfl, rfl, Nat.le_of_ble_eq_true rfl, Nat.le_of_ble_eq_true rfl⟩ tb427 tb428 1 1 rfl rfl rfl rfl [1, 2, 3, 4, 5, 6, 7, 8, 9, 10] [0, 11, 12, 13, 14, 15, 16, 17, 18, 19, 20, 21] rfl rfl rfl rfl rfl (Nat.le_of_ble_eq_true rfl) ⟨Nat.le_of_ble_eq_true rfl, Nat.le_of_ble_eq_true rfl⟩ dX6_dear_52 (fun _ H locs _ X => ?_)
          have X : Hx D zA zs H locs (lW a hL hT im bs rd hS sh kb rf ++ gW tk hT (u2 G 4 0 cb) d1 e1 ++ bW bs ch1 (nI am1) ++ gW tk hL G uq3.1 uq3.2) := X
          have X : Hx D zA zs H locs (lW a hL hT im bs rd hS sh kb rf ++ gW tk hL G uq3.1 uq3.2 ++ gW tk hT (u2 G 4 0 cb) d1 e1 ++ bW bs ch1 (nI am1)) := X.sub [0, 12, 13, 14, 15, 16, 17, 18, 19, 20, 21, 1, 2, 3, 4, 5, 6, 7, 8, 9, 10, 11] rfl rfl
          refine g_ifeqB (x := !(G 4 0).testBit i) (tgt := 91) C0 dX6_dear_55 rfl (fun c6 => ?_) (fun c7 => ?_)
          · refine g_iinc (j := 1) (z := i + 1) (lv' := [(2, .int (nI (i + 1))), (0, .ref a), (1, .int (nI xq))]) C0 rfl (by first | rfl | omega) dX6_dear_91 hl (k := 0) rfl (by decide) rfl (fun ls hl => ?_)
            refine lv_goto (tgt := 36) hx hb dX6_dear_94 (by decide) ?_
            exact ih36 (i + 1) cb ch1 am1 d1 e1 (by omega) (by omega) (by exact bf_f (decide_eq_false (by rw [cgv4' (by simpa using c6)]; decide)) hbf) H locs ls X (lv_sub hl [0, 1, 2] rfl)
          · refine lv_aload_n hx hb dX6_dear_58 rfl (lv_at hl 1 rfl) ?_
            refine g_get (v := .ref (hT 0)) C0 X kX6 0 1 tb201 rfl rfl rfl dX6_dear_59 ?_
            refine lv_aload_n hx hb dX6_dear_62 rfl (lv_at hl 1 rfl) ?_
            refine g_get (v := .ref (hL 0)) C0 X kX6 0 0 tb200 rfl rfl rfl dX6_dear_63 ?_
            refine g_get (v := .int (nI (G 4 0))) C0 X kX1 1 6 tb47 rfl rfl rfl dX6_dear_66 ?_
            refine g_iconst (n := 1) C0 rfl dX6_dear_69 ?_
            refine lv_iload_n hx hb dX6_dear_70 rfl (lv_at hl 0 rfl) ?_
            refine g_ishl (n := 2 ^ i) C0 (by exact sh_ok (by omega)) (by first | exact Nat.one_mul _ | rfl) dX6_dear_71 ?_
            refine g_ior (n := (G 4 0) ||| (2 ^ i)) C0 rfl dX6_dear_72 ?_
            refine g_put (v := .int (nI ((G 4 0) ||| (2 ^ i)))) (ft := .int) C0 X kX1 11 6 tb47 rfl rfl rfl rfl rfl rfl rfl dX6_dear_73 (fun H locs X => ?_)
            have X : Hx D zA zs H locs (lW a hL hT im bs rd hS sh kb rf ++ gW tk hL G uq3.1 uq3.2 ++ gW tk hT (u2 G 4 0 ((G 4 0) ||| (2 ^ i))) d1 e1 ++ bW bs ch1 (nI am1)) := X
            refine lv_aload_n hx hb dX6_dear_76 rfl (lv_at hl 1 rfl) ?_
            refine g_get (v := .ref bs) C0 X kX6 0 3 tb203 rfl rfl rfl dX6_dear_77 ?_
            refine lv_iload_n hx hb dX6_dear_80 rfl (lv_at hl 0 rfl) ?_
            refine lv_aload_n hx hb dX6_dear_81 rfl (lv_at hl 1 rfl) ?_
            refine g_get (v := .ref (hT 0)) C0 X kX6 0 1 tb201 rfl rfl rfl dX6_dear_82 ?_
            refine g_callV (As := []) (rest := [.int (nI i), .ref bs]) (wr := (lW a hL hT im bs rd hS sh kb rf ++ gW tk hL G uq3.1 uq3.2 ++ bW bs ch1 (nI am1))) (C0.sz hl) X (c_X1_hearersOfAllTalks l D tk hT (u2 G 4 0 ((G 4 0) ||| (2 ^ i))) d1 e1 (by exact hw.cutu (or_lt hw5 (Nat.pow_lt_pow_right (by decide) (by omega))))) ⟨tb620, tb623, tb2, ⟨by decide, by decide, rfl⟩, rfl, rfl, Nat.le_of_ble_eq_true rfl, Nat.le_of_ble_eq_true rfl⟩ tb621 tb622 11 1 rfl rfl rfl rfl [11, 12, 13, 14, 15, 16, 17, 18, 19, 20] [0, 1, 2, 3, 4, 5, 6, 7, 8, 9, 10, 21] rfl rfl rfl rfl rfl (Nat.le_of_ble_eq_true rfl) ⟨Nat.le_of_ble_eq_true rfl, Nat.le_of_ble_eq_true rfl⟩ dX6_dear_85 (fun uq8 H locs _ X => ?_)
            have X : Hx D zA zs H locs (lW a hL hT im bs rd hS sh kb rf ++ gW tk hL G uq3.1 uq3.2 ++ bW bs ch1 (nI am1) ++ gW tk hT (u2 G 4 0 ((G 4 0) ||| (2 ^ i))) uq8.1 uq8.2) := X
            have X : Hx D zA zs H locs (lW a hL hT im bs rd hS sh kb rf ++ gW tk hL G uq3.1 uq3.2 ++ gW tk hT (u2 G 4 0 ((G 4 0) ||| (2 ^ i))) uq8.1 uq8.2 ++ bW bs ch1 (nI am1)) := X.sub [0, 1, 2, 3, 4, 5, 6, 7, 8, 9, 10, 12, 13, 14, 15, 16, 17, 18, 19, 20, 21, 11] rfl rfl
            have hLq := hearersS_le (cgv (u2 G 4 0 (G 4 0 ||| 2 ^ i))) hw4
            have hamL := bf_am hbf
            refine g_callV (As := [.int (nI i), .int (nI (hearersS (cgv (u2 G 4 0 ((G 4 0) ||| (2 ^ i))))))]) (rest := []) (wr := (lW a hL hT im bs rd hS sh kb rf ++ gW tk hL G uq3.1 uq3.2 ++ gW tk hT (u2 G 4 0 ((G 4 0) ||| (2 ^ i))) uq8.1 uq8.2)) (C0.sz hl) X (c_X0_offer l D tk bs ch1 am1 i (hearersS (cgv (u2 G 4 0 ((G 4 0) ||| (2 ^ i))))) (by first | assumption | omega) (by first | assumption | omega)) ⟨tb589, tb592, tb3, ⟨by decide, by decide, rfl⟩, rfl, rfl, Nat.le_of_ble_eq_true rfl, Nat.le_of_ble_eq_true rfl⟩ tb590 tb591 21 0 rfl rfl rfl rfl [21] [0, 1, 2, 3, 4, 5, 6, 7, 8, 9, 10, 11, 12, 13, 14, 15, 16, 17, 18, 19, 20] rfl rfl rfl rfl rfl (Nat.le_of_ble_eq_true rfl) ⟨Nat.le_of_ble_eq_true rfl, Nat.le_of_ble_eq_true rfl⟩ dX6_dear_88 (fun _ H locs _ X => ?_)
            have X : Hx D zA zs H locs (lW a hL hT im bs rd hS sh kb rf ++ gW tk hL G uq3.1 uq3.2 ++ gW tk hT (u2 G 4 0 ((G 4 0) ||| (2 ^ i))) uq8.1 uq8.2 ++ bW bs (if (hearersS (cgv (u2 G 4 0 ((G 4 0) ||| (2 ^ i))))) < am1 then nI i else ch1) (nI (if (hearersS (cgv (u2 G 4 0 ((G 4 0) ||| (2 ^ i))))) < am1 then (hearersS (cgv (u2 G 4 0 ((G 4 0) ||| (2 ^ i))))) else am1))) := X
            refine g_iinc (j := 1) (z := i + 1) (lv' := [(2, .int (nI (i + 1))), (0, .ref a), (1, .int (nI xq))]) C0 rfl (by first | rfl | omega) dX6_dear_91 hl (k := 0) rfl (by decide) rfl (fun ls hl => ?_)
            refine lv_goto (tgt := 36) hx hb dX6_dear_94 (by decide) ?_
            exact ih36 (i + 1) ((G 4 0) ||| (2 ^ i)) (if (hearersS (cgv (u2 G 4 0 ((G 4 0) ||| (2 ^ i))))) < am1 then nI i else ch1) (if (hearersS (cgv (u2 G 4 0 ((G 4 0) ||| (2 ^ i))))) < am1 then (hearersS (cgv (u2 G 4 0 ((G 4 0) ||| (2 ^ i))))) else am1) uq8.1 uq8.2 (by omega) (by omega) (by rw [cgv_cut]; exact bf_t (P := fun i => decide (cgv G 4 i = 0)) (x := fun i => hearersS (cutv (cgv G) (2 ^ i))) (decide_eq_true (cgv4 (by simpa using c7))) hbf) H locs ls X (lv_sub hl [0, 1, 2] rfl)
    exact J36 ((G 8 1 - 0) + 1) 0 (G 4 0) (-4) (hearersS (cgv G)) td te (Nat.lt_succ_self _) (by omega) (by rfl) H locs ls X (lv_sub hl [0, 1, 2] rfl)
  · refine lv_iconst (v := (-1)) hx hb dX6_dear_7 (by decide) ?_
    exact hE (v := (-1)) (d, e, T, td, te, ch, am) (by simp [a_dear, cg0, cg1, cg2, cg3, cg5, cg6, cg7, cg8, c2]) trivial X dX6_dear_8
set_option maxHeartbeats 4000000 in
set_option maxRecDepth 100000 in
theorem c_X6_hush (l : Launch) (D : va_G) (tk : Nat → ClassId) (a : Nat) (hL hT : Nat → Nat) (im bs rd : Nat) (hS : Nat → Nat) (sh kb rf : Nat) (G : Nat → Nat → Nat) (d e : Nat → Nat) (T : Nat → Nat → Nat) (td te : Nat → Nat) (ch am : Int32) (x y z w : Int32) (hw : GW G) : MX l yX6_hush cX6_hush 7 (some .int) ⟨4, 0, 0, 111⟩ D (TYS tk) [.ref a, .int x, .int y, .int z, .int w] (lW a hL hT im bs rd hS sh kb rf ++ gW tk hL G d e ++ gW tk hT T td te ++ bW bs ch am) (fun (u : (Nat → Nat) × (Nat → Nat) × (Nat → Nat → Nat) × (Nat → Nat) × (Nat → Nat) × Int32 × Int32) => True) (fun u => some (.int (a_hush 1000 (cgv G) x y z w))) (fun u => lW a hL hT im bs rd hS sh kb rf ++ gW tk hL G u.1 u.2.1 ++ gW tk hT u.2.2.1 u.2.2.2.1 u.2.2.2.2.1 ++ bW bs u.2.2.2.2.2.1 u.2.2.2.2.2.2) 0 0 := by
  refine MX.of_i (by decide) rfl ?_
  intro zp ze zs zm za zb zt zc zA zQ ls C0 hnm X hl hE
  have hx := C0.1
  have hb := C0.2.1
  have ht := C0.2.2.2.2.1
  have X : Hx D zA zs zs.heap [] (lW a hL hT im bs rd hS sh kb rf ++ gW tk hL G d e ++ gW tk hT T td te ++ bW bs ch am) := X
  have hl : lv_has ls 7 [(0, .ref a), (1, .int x), (2, .int y), (3, .int z), (4, .int w)] := hl
  obtain ⟨hw1, hw2, hw3, hw4, hw5, hw6, hw7, hw8⟩ := id hw
  have hw0 := hw.cut
  have hpw := Nat.pow_le_pow_right (n := 2) (by decide) hw2
  obtain ⟨H, hH⟩ : ∃ H, H = zs.heap := ⟨_, rfl⟩
  rw [← hH] at X ⊢
  obtain ⟨locs, hlo⟩ : ∃ L : List Loc, L = [] := ⟨_, rfl⟩
  rw [← hlo] at X ⊢
  refine lv_aload_n hx hb dX6_hush_0 rfl (lv_at hl 0 rfl) ?_
  refine g_get (v := .ref (hL 0)) C0 X kX6 0 0 tb200 rfl rfl rfl dX6_hush_1 ?_
  refine lv_iload_n hx hb dX6_hush_4 rfl (lv_at hl 1 rfl) ?_
  refine g_callV (As := [.int x]) (rest := []) (wr := (lW a hL hT im bs rd hS sh kb rf ++ gW tk hT T td te ++ bW bs ch am)) (C0.sz hl) X (c_X1_hasTree l D tk hL G d e x (by first | assumption | omega)) ⟨tb456, tb390, tb2, ⟨by decide, by decide, rfl⟩, rfl, rfl, Nat.le_of_ble_eq_true rfl, Nat.le_of_ble_eq_true rfl⟩ tb388 tb389 1 1 rfl rfl rfl rfl [1, 2, 3, 4, 5, 6, 7, 8, 9, 10] [0, 11, 12, 13, 14, 15, 16, 17, 18, 19, 20, 21] rfl rfl rfl rfl rfl (Nat.le_of_ble_eq_true rfl) ⟨Nat.le_of_ble_eq_true rfl, Nat.le_of_ble_eq_true rfl⟩ dX6_hush_5 (fun _ H locs _ X => ?_)
  have X : Hx D zA zs H locs (lW a hL hT im bs rd hS sh kb rf ++ gW tk hT T td te ++ bW bs ch am ++ gW tk hL G d e) := X
  have X : Hx D zA zs H locs (lW a hL hT im bs rd hS sh kb rf ++ gW tk hL G d e ++ gW tk hT T td te ++ bW bs ch am) := X.sub [0, 12, 13, 14, 15, 16, 17, 18, 19, 20, 21, 1, 2, 3, 4, 5, 6, 7, 8, 9, 10, 11] rfl rfl
  refine g_ifeqB (x := ix x (G 8 0)) (tgt := 37) C0 dX6_hush_8 rfl (fun c1 => ?_) (fun c2 => ?_)
  · refine lv_iconst (v := (-1)) hx hb dX6_hush_37 (by decide) ?_
    exact hE (v := (-1)) (d, e, T, td, te, ch, am) (by simp [a_hush, cg0, cg1, cg2, cg3, cg5, cg6, cg7, cg8, c1]) trivial X dX6_hush_38
  · obtain ⟨xq, hk_xq, rfl⟩ := ix_sp c2
    refine lv_aload_n hx hb dX6_hush_11 rfl (lv_at hl 0 rfl) ?_
    refine g_get (v := .ref (hL 0)) C0 X kX6 0 0 tb200 rfl rfl rfl dX6_hush_12 ?_
    refine lv_iload_n hx hb dX6_hush_15 rfl (lv_at hl 2 rfl) ?_
    refine g_callV (As := [.int y]) (rest := []) (wr := (lW a hL hT im bs rd hS sh kb rf ++ gW tk hT T td te ++ bW bs ch am)) (C0.sz hl) X (c_X1_hasTree l D tk hL G d e y (by first | assumption | omega)) ⟨tb456, tb390, tb2, ⟨by decide, by decide, rfl⟩, rfl, rfl, Nat.le_of_ble_eq_true rfl, Nat.le_of_ble_eq_true rfl⟩ tb388 tb389 1 1 rfl rfl rfl rfl [1, 2, 3, 4, 5, 6, 7, 8, 9, 10] [0, 11, 12, 13, 14, 15, 16, 17, 18, 19, 20, 21] rfl rfl rfl rfl rfl (Nat.le_of_ble_eq_true rfl) ⟨Nat.le_of_ble_eq_true rfl, Nat.le_of_ble_eq_true rfl⟩ dX6_hush_16 (fun _ H locs _ X => ?_)
    have X : Hx D zA zs H locs (lW a hL hT im bs rd hS sh kb rf ++ gW tk hT T td te ++ bW bs ch am ++ gW tk hL G d e) := X
    have X : Hx D zA zs H locs (lW a hL hT im bs rd hS sh kb rf ++ gW tk hL G d e ++ gW tk hT T td te ++ bW bs ch am) := X.sub [0, 12, 13, 14, 15, 16, 17, 18, 19, 20, 21, 1, 2, 3, 4, 5, 6, 7, 8, 9, 10, 11] rfl rfl
    refine g_ifeqB (x := ix y (G 8 0)) (tgt := 37) C0 dX6_hush_19 rfl (fun c3 => ?_) (fun c4 => ?_)
    · refine lv_iconst (v := (-1)) hx hb dX6_hush_37 (by decide) ?_
      exact hE (v := (-1)) (d, e, T, td, te, ch, am) (by simp [a_hush, cg0, cg1, cg2, cg3, cg5, cg6, cg7, cg8, c2, c3, tn_nI (k := xq) (by omega)]) trivial X dX6_hush_38
    · obtain ⟨yq, hk_yq, rfl⟩ := ix_sp c4
      refine lv_iload_n hx hb dX6_hush_22 rfl (lv_at hl 3 rfl) ?_
      refine g_callS (As := [.int z]) (rest := []) (wr := (lW a hL hT im bs rd hS sh kb rf ++ gW tk hL G d e ++ gW tk hT T td te ++ bW bs ch am)) (C0.sz hl) X (c_X6_isBreath l D tk z) ⟨tb499, tb501, tb1, ⟨by decide, by decide, rfl⟩, rfl, rfl, Nat.le_of_ble_eq_true rfl, Nat.le_of_ble_eq_true rfl⟩ tb500 rfl [] [0, 1, 2, 3, 4, 5, 6, 7, 8, 9, 10, 11, 12, 13, 14, 15, 16, 17, 18, 19, 20, 21] rfl rfl rfl rfl rfl (Nat.le_of_ble_eq_true rfl) ⟨Nat.le_of_ble_eq_true rfl, Nat.le_of_ble_eq_true rfl⟩ dX6_hush_23 (fun _ H locs _ X => ?_)
      have X : Hx D zA zs H locs (lW a hL hT im bs rd hS sh kb rf ++ gW tk hL G d e ++ gW tk hT T td te ++ bW bs ch am) := X
      refine g_ifeqB (x := rg z 1 60) (tgt := 37) C0 dX6_hush_26 rfl (fun c5 => ?_) (fun c6 => ?_)
      · refine lv_iconst (v := (-1)) hx hb dX6_hush_37 (by decide) ?_
        exact hE (v := (-1)) (d, e, T, td, te, ch, am) (by simp [a_hush, cg0, cg1, cg2, cg3, cg5, cg6, cg7, cg8, c2, c4, c5, tn_nI (k := xq) (by omega), tn_nI (k := yq) (by omega)]) trivial X dX6_hush_38
      · obtain ⟨zq, hk_zqa, hk_zqb, hk_zqc, rfl⟩ := rg_sp c6
        refine lv_iload hx hb dX6_hush_29 (lv_at hl 4 rfl) ?_
        refine g_callS (As := [.int w]) (rest := []) (wr := (lW a hL hT im bs rd hS sh kb rf ++ gW tk hL G d e ++ gW tk hT T td te ++ bW bs ch am)) (C0.sz hl) X (c_X6_isEither l D tk w) ⟨tb582, tb584, tb1, ⟨by decide, by decide, rfl⟩, rfl, rfl, Nat.le_of_ble_eq_true rfl, Nat.le_of_ble_eq_true rfl⟩ tb583 rfl [] [0, 1, 2, 3, 4, 5, 6, 7, 8, 9, 10, 11, 12, 13, 14, 15, 16, 17, 18, 19, 20, 21] rfl rfl rfl rfl rfl (Nat.le_of_ble_eq_true rfl) ⟨Nat.le_of_ble_eq_true rfl, Nat.le_of_ble_eq_true rfl⟩ dX6_hush_31 (fun _ H locs _ X => ?_)
        have X : Hx D zA zs H locs (lW a hL hT im bs rd hS sh kb rf ++ gW tk hL G d e ++ gW tk hT T td te ++ bW bs ch am) := X
        refine g_ifneB (x := rg w 0 1) (tgt := 39) C0 dX6_hush_34 rfl (fun c7 => ?_) (fun c8 => ?_)
        · obtain ⟨wq, hk_wqa, hk_wqb, hk_wqc, rfl⟩ := rg_sp c7
          refine lv_aload_n hx hb dX6_hush_39 rfl (lv_at hl 0 rfl) ?_
          refine g_get (v := .ref (hT 0)) C0 X kX6 0 1 tb201 rfl rfl rfl dX6_hush_40 ?_
          refine lv_aload_n hx hb dX6_hush_43 rfl (lv_at hl 0 rfl) ?_
          refine g_get (v := .ref (hL 0)) C0 X kX6 0 0 tb200 rfl rfl rfl dX6_hush_44 ?_
          refine g_callV (As := [.ref (hL 0)]) (rest := []) (wr := (lW a hL hT im bs rd hS sh kb rf ++ bW bs ch am)) (C0.sz hl) X (c_X1_become l D tk hT T td te hL G d e) ⟨tb392, tb395, tb2, ⟨by decide, by decide, rfl⟩, rfl, rfl, Nat.le_of_ble_eq_true rfl, Nat.le_of_ble_eq_true rfl⟩ tb393 tb394 11 1 rfl rfl rfl rfl [11, 12, 13, 14, 15, 16, 17, 18, 19, 20, 1, 2, 3, 4, 5, 6, 7, 8, 9, 10] [0, 21] rfl rfl rfl rfl rfl (Nat.le_of_ble_eq_true rfl) ⟨Nat.le_of_ble_eq_true rfl, Nat.le_of_ble_eq_true rfl⟩ dX6_hush_47 (fun _ H locs _ X => ?_)
          have X : Hx D zA zs H locs (lW a hL hT im bs rd hS sh kb rf ++ bW bs ch am ++ gW tk hT G td te ++ gW tk hL G d e) := X
          have X : Hx D zA zs H locs (lW a hL hT im bs rd hS sh kb rf ++ gW tk hL G d e ++ gW tk hT G td te ++ bW bs ch am) := X.sub [0, 12, 13, 14, 15, 16, 17, 18, 19, 20, 21, 2, 3, 4, 5, 6, 7, 8, 9, 10, 11, 1] rfl rfl
          refine lv_aload_n hx hb dX6_hush_50 rfl (lv_at hl 0 rfl) ?_
          refine g_get (v := .ref bs) C0 X kX6 0 3 tb203 rfl rfl rfl dX6_hush_51 ?_
          refine g_sipush (n := 1000) C0 (by decide) dX6_hush_54 ?_
          refine g_callV (As := [.int (nI 1000)]) (rest := []) (wr := (lW a hL hT im bs rd hS sh kb rf ++ gW tk hL G d e ++ gW tk hT G td te)) (C0.sz hl) X (c_X0_below l D tk bs ch am 1000) ⟨tb585, tb588, tb3, ⟨by decide, by decide, rfl⟩, rfl, rfl, Nat.le_of_ble_eq_true rfl, Nat.le_of_ble_eq_true rfl⟩ tb586 tb587 21 0 rfl rfl rfl rfl [21] [0, 1, 2, 3, 4, 5, 6, 7, 8, 9, 10, 11, 12, 13, 14, 15, 16, 17, 18, 19, 20] rfl rfl rfl rfl rfl (Nat.le_of_ble_eq_true rfl) ⟨Nat.le_of_ble_eq_true rfl, Nat.le_of_ble_eq_true rfl⟩ dX6_hush_57 (fun _ H locs _ X => ?_)
          have X : Hx D zA zs H locs (lW a hL hT im bs rd hS sh kb rf ++ gW tk hL G d e ++ gW tk hT G td te ++ bW bs (-4) (nI 1000)) := X
          refine g_iconst (n := 0) C0 rfl dX6_hush_60 ?_
          refine lv_istore (lv' := [(5, .int (nI 0)), (0, .ref a), (1, .int (nI xq)), (2, .int (nI yq)), (3, .int (nI zq)), (4, .int (nI wq))]) hx hb dX6_hush_61 hl (by decide) rfl (fun ls hl => ?_)
          have J63 : ∀ (fz : Nat) (i cb : Nat) (ch1 : Int32) (am1 : Nat) (d1 e1 : Nat → Nat), 2 ^ G 8 1 - i < fz → ∀ (hi : i ≤ 2 ^ G 8 1) (hbf : (ch1, am1) = bfold (hushP (cgv G) xq yq zq) pc 1000 i) (H : Heap) (locs : List Loc) (ls : Array Slot), Hx D zA zs H locs (lW a hL hT im bs rd hS sh kb rf ++ gW tk hL G d e ++ gW tk hT (u2 G 4 0 cb) d1 e1 ++ bW bs ch1 (nI am1)) → lv_has ls 7 [(5, .int (nI i)), (0, .ref a), (1, .int (nI xq)), (2, .int (nI yq)), (3, .int (nI zq)), (4, .int (nI wq))] → W zp l ze ⟨4, 0, 0, 111⟩ zs zm za zb zt zc H locs 0 0 zQ (F0 zm 63 ls []) := by
            intro fz
            induction fz with
            | zero => intro i cb ch1 am1 d1 e1 hz; exact absurd hz (Nat.not_lt_zero _)
            | succ fz ih63 =>
              intro i cb ch1 am1 d1 e1 hz63 hi hbf H locs ls X hl
              refine lv_iload hx hb dX6_hush_63 (lv_at hl 0 rfl) ?_
              refine g_iconst (n := 1) C0 rfl dX6_hush_65 ?_
              refine lv_aload_n hx hb dX6_hush_66 rfl (lv_at hl 1 rfl) ?_
              refine g_get (v := .ref (hL 0)) C0 X kX6 0 0 tb200 rfl rfl rfl dX6_hush_67 ?_
              refine g_get (v := .int (nI (G 8 1))) C0 X kX1 1 2 tb39 rfl rfl rfl dX6_hush_70 ?_
              refine g_ishl (n := 2 ^ (G 8 1)) C0 (by exact sh_ok (by omega)) (by first | exact Nat.one_mul _ | rfl) dX6_hush_73 ?_
              refine g_icmp_ge (x := i) (y := 2 ^ (G 8 1)) (tgt := 159) C0 (by first | omega | exact sh_31 (by omega)) (by first | omega | exact sh_31 (by omega)) dX6_hush_74 rfl (fun c9 => ?_) (fun c10 => ?_)
              · refine lv_aload_n hx hb dX6_hush_159 rfl (lv_at hl 1 rfl) ?_
                refine g_get (v := .ref bs) C0 X kX6 0 3 tb203 rfl rfl rfl dX6_hush_160 ?_
                refine g_iconst (n := 1) C0 rfl dX6_hush_163 ?_
                refine lv_iload hx hb dX6_hush_164 (lv_at hl 5 rfl) ?_
                refine g_isub (n := 1 - wq) C0 (by omega) rfl dX6_hush_166 ?_
                refine g_callV (As := [.int (nI (1 - wq))]) (rest := []) (wr := (lW a hL hT im bs rd hS sh kb rf ++ gW tk hL G d e ++ gW tk hT (u2 G 4 0 cb) d1 e1)) (C0.sz hl) X (c_X0_told l D tk bs ch1 am1 (1 - wq) (by first | assumption | omega)) ⟨tb593, tb596, tb3, ⟨by decide, by decide, rfl⟩, rfl, rfl, Nat.le_of_ble_eq_true rfl, Nat.le_of_ble_eq_true rfl⟩ tb594 tb595 21 0 rfl rfl rfl rfl [21] [0, 1, 2, 3, 4, 5, 6, 7, 8, 9, 10, 11, 12, 13, 14, 15, 16, 17, 18, 19, 20] rfl rfl rfl rfl rfl (Nat.le_of_ble_eq_true rfl) ⟨Nat.le_of_ble_eq_true rfl, Nat.le_of_ble_eq_true rfl⟩ dX6_hush_167 (fun _ H locs _ X => ?_)
                have X : Hx D zA zs H locs (lW a hL hT im bs rd hS sh kb rf ++ gW tk hL G d e ++ gW tk hT (u2 G 4 0 cb) d1 e1 ++ bW bs ch1 (nI am1)) := X
                exact hE (v := if (1 - wq) = 0 ∨ ch1 = -4 then ch1 else nI am1) (d, e, (u2 G 4 0 cb), d1, e1, ch1, nI am1) (by simp only [a_hush, cg0, cg1, cg2, cg3, cg5, cg6, cg7, cg8, c2, c4, c6, c7, tn_nI (k := xq) (by omega), tn_nI (k := yq) (by omega), tn_nI (k := zq) (by omega), tn_nI (k := wq) (by omega), Bool.and_self, if_true]; rw [show 2 ^ G 8 1 = i by omega, ← told_s hbf]) trivial X dX6_hush_170
              · refine lv_iload hx hb dX6_hush_77 (lv_at hl 0 rfl) ?_
                refine g_callS (As := [.int (nI i)]) (rest := []) (wr := (lW a hL hT im bs rd hS sh kb rf ++ gW tk hL G d e ++ gW tk hT (u2 G 4 0 cb) d1 e1 ++ bW bs ch1 (nI am1))) (C0.sz hl) X (c_J6_bitCount_0f7a4 l D tk i (by first | assumption | omega)) ⟨tb605, tb607, tb16, ⟨by decide, by decide, rfl⟩, rfl, rfl, Nat.le_of_ble_eq_true rfl, Nat.le_of_ble_eq_true rfl⟩ tb606 rfl [] [0, 1, 2, 3, 4, 5, 6, 7, 8, 9, 10, 11, 12, 13, 14, 15, 16, 17, 18, 19, 20, 21] rfl rfl rfl rfl rfl (Nat.le_of_ble_eq_true rfl) ⟨Nat.le_of_ble_eq_true rfl, Nat.le_of_ble_eq_true rfl⟩ dX6_hush_79 (fun _ H locs _ X => ?_)
                have X : Hx D zA zs H locs (lW a hL hT im bs rd hS sh kb rf ++ gW tk hL G d e ++ gW tk hT (u2 G 4 0 cb) d1 e1 ++ bW bs ch1 (nI am1)) := X
                refine lv_istore (lv' := [(6, .int (nI (pc i))), (5, .int (nI i)), (0, .ref a), (1, .int (nI xq)), (2, .int (nI yq)), (3, .int (nI zq)), (4, .int (nI wq))]) hx hb dX6_hush_82 hl (by decide) rfl (fun ls hl => ?_)
                refine lv_iload hx hb dX6_hush_84 (lv_at hl 1 rfl) ?_
                refine lv_aload_n hx hb dX6_hush_86 rfl (lv_at hl 2 rfl) ?_
                refine g_get (v := .ref (hL 0)) C0 X kX6 0 0 tb200 rfl rfl rfl dX6_hush_87 ?_
                refine g_get (v := .int (nI (G 4 0))) C0 X kX1 1 6 tb47 rfl rfl rfl dX6_hush_90 ?_
                refine g_iand (n := i &&& (G 4 0)) C0 rfl dX6_hush_93 ?_
                have hpc := pc_le i
                refine g_ifne (x := i &&& (G 4 0)) (tgt := 153) C0 (by exact and_31 (by omega)) dX6_hush_94 rfl (fun c11 => ?_) (fun c12 => ?_)
                · refine g_iinc (j := 1) (z := i + 1) (lv' := [(5, .int (nI (i + 1))), (6, .int (nI (pc i))), (0, .ref a), (1, .int (nI xq)), (2, .int (nI yq)), (3, .int (nI zq)), (4, .int (nI wq))]) C0 rfl (by first | rfl | omega) dX6_hush_153 hl (k := 1) rfl (by decide) rfl (fun ls hl => ?_)
                  refine lv_goto (tgt := 63) hx hb dX6_hush_156 (by decide) ?_
                  exact ih63 (i + 1) cb ch1 am1 d1 e1 (by omega) (by omega) (by exact bf_f (hush_f0 (by omega) c11) hbf) H locs ls X (lv_sub hl [0, 2, 3, 4, 5, 6] rfl)
                · refine lv_iload hx hb dX6_hush_97 (lv_at hl 0 rfl) ?_
                  refine lv_aload_n hx hb dX6_hush_99 rfl (lv_at hl 2 rfl) ?_
                  refine g_get (v := .ref bs) C0 X kX6 0 3 tb203 rfl rfl rfl dX6_hush_100 ?_
                  refine g_get (v := .int (nI am1)) C0 X kX0 21 1 tb101 rfl rfl rfl dX6_hush_103 ?_
                  have hamL := bf_am hbf
                  refine g_icmp_ge (x := pc i) (y := am1) (tgt := 153) C0 (by omega) (by omega) dX6_hush_106 rfl (fun c13 => ?_) (fun c14 => ?_)
                  · refine g_iinc (j := 1) (z := i + 1) (lv' := [(5, .int (nI (i + 1))), (6, .int (nI (pc i))), (0, .ref a), (1, .int (nI xq)), (2, .int (nI yq)), (3, .int (nI zq)), (4, .int (nI wq))]) C0 rfl (by first | rfl | omega) dX6_hush_153 hl (k := 1) rfl (by decide) rfl (fun ls hl => ?_)
                    refine lv_goto (tgt := 63) hx hb dX6_hush_156 (by decide) ?_
                    exact ih63 (i + 1) cb ch1 am1 d1 e1 (by omega) (by omega) (by exact bf_k (by omega) hbf) H locs ls X (lv_sub hl [0, 2, 3, 4, 5, 6] rfl)
                  · refine lv_aload_n hx hb dX6_hush_109 rfl (lv_at hl 2 rfl) ?_
                    refine g_get (v := .ref (hT 0)) C0 X kX6 0 1 tb201 rfl rfl rfl dX6_hush_110 ?_
                    refine lv_aload_n hx hb dX6_hush_113 rfl (lv_at hl 2 rfl) ?_
                    refine g_get (v := .ref (hL 0)) C0 X kX6 0 0 tb200 rfl rfl rfl dX6_hush_114 ?_
                    refine g_get (v := .int (nI (G 4 0))) C0 X kX1 1 6 tb47 rfl rfl rfl dX6_hush_117 ?_
                    refine lv_iload hx hb dX6_hush_120 (lv_at hl 1 rfl) ?_
                    refine g_ior (n := (G 4 0) ||| i) C0 rfl dX6_hush_122 ?_
                    refine g_put (v := .int (nI ((G 4 0) ||| i))) (ft := .int) C0 X kX1 11 6 tb47 rfl rfl rfl rfl rfl rfl rfl dX6_hush_123 (fun H locs X => ?_)
                    have X : Hx D zA zs H locs (lW a hL hT im bs rd hS sh kb rf ++ gW tk hL G d e ++ gW tk hT (u2 G 4 0 ((G 4 0) ||| i)) d1 e1 ++ bW bs ch1 (nI am1)) := X
                    refine lv_aload_n hx hb dX6_hush_126 rfl (lv_at hl 2 rfl) ?_
                    refine g_get (v := .ref (hT 0)) C0 X kX6 0 1 tb201 rfl rfl rfl dX6_hush_127 ?_
                    refine lv_iload_n hx hb dX6_hush_130 rfl (lv_at hl 3 rfl) ?_
                    refine lv_iload_n hx hb dX6_hush_131 rfl (lv_at hl 5 rfl) ?_
                    refine g_callV (As := [.int (nI xq), .int (nI zq)]) (rest := []) (wr := (lW a hL hT im bs rd hS sh kb rf ++ gW tk hL G d e ++ bW bs ch1 (nI am1))) (C0.sz hl) X (c_X1_hearers l D tk hT (u2 G 4 0 ((G 4 0) ||| i)) d1 e1 xq zq (by exact hw.cutu (or_lt hw5 (by omega))) (by exact (show xq < G 8 0 by omega)) (by omega)) ⟨tb486, tb489, tb2, ⟨by decide, by decide, rfl⟩, rfl, rfl, Nat.le_of_ble_eq_true rfl, Nat.le_of_ble_eq_true rfl⟩ tb487 tb488 11 1 rfl rfl rfl rfl [11, 12, 13, 14, 15, 16, 17, 18, 19, 20] [0, 1, 2, 3, 4, 5, 6, 7, 8, 9, 10, 21] rfl rfl rfl rfl rfl (Nat.le_of_ble_eq_true rfl) ⟨Nat.le_of_ble_eq_true rfl, Nat.le_of_ble_eq_true rfl⟩ dX6_hush_132 (fun _ H locs _ X => ?_)
                    have X : Hx D zA zs H locs (lW a hL hT im bs rd hS sh kb rf ++ gW tk hL G d e ++ bW bs ch1 (nI am1) ++ gW tk hT (u2 G 4 0 ((G 4 0) ||| i)) (dist (cgv (u2 G 4 0 ((G 4 0) ||| i))) xq) e1) := X
                    have X : Hx D zA zs H locs (lW a hL hT im bs rd hS sh kb rf ++ gW tk hL G d e ++ gW tk hT (u2 G 4 0 ((G 4 0) ||| i)) (dist (cgv (u2 G 4 0 ((G 4 0) ||| i))) xq) e1 ++ bW bs ch1 (nI am1)) := X.sub [0, 1, 2, 3, 4, 5, 6, 7, 8, 9, 10, 12, 13, 14, 15, 16, 17, 18, 19, 20, 21, 11] rfl rfl
                    refine g_iconst (n := 1) C0 rfl dX6_hush_135 ?_
                    refine lv_iload_n hx hb dX6_hush_136 rfl (lv_at hl 4 rfl) ?_
                    refine g_ishl (n := 2 ^ yq) C0 (by exact sh_ok (by omega)) (by first | exact Nat.one_mul _ | rfl) dX6_hush_137 ?_
                    refine g_iand (n := (hearS (cgv (u2 G 4 0 ((G 4 0) ||| i))) xq zq) &&& (2 ^ yq)) C0 rfl dX6_hush_138 ?_
                    have hLq := hearS_lt (cgv (u2 G 4 0 (G 4 0 ||| i))) xq zq hw1
                    refine g_ifne (x := (hearS (cgv (u2 G 4 0 ((G 4 0) ||| i))) xq zq) &&& (2 ^ yq)) (tgt := 153) C0 (by exact and_31 (by omega)) dX6_hush_139 rfl (fun c15 => ?_) (fun c16 => ?_)
                    · refine g_iinc (j := 1) (z := i + 1) (lv' := [(5, .int (nI (i + 1))), (6, .int (nI (pc i))), (0, .ref a), (1, .int (nI xq)), (2, .int (nI yq)), (3, .int (nI zq)), (4, .int (nI wq))]) C0 rfl (by first | rfl | omega) dX6_hush_153 hl (k := 1) rfl (by decide) rfl (fun ls hl => ?_)
                      refine lv_goto (tgt := 63) hx hb dX6_hush_156 (by decide) ?_
                      exact ih63 (i + 1) ((G 4 0) ||| i) ch1 am1 (dist (cgv (u2 G 4 0 ((G 4 0) ||| i))) xq) e1 (by omega) (by omega) (by exact bf_f (hush_f1 c15) hbf) H locs ls X (lv_sub hl [0, 2, 3, 4, 5, 6] rfl)
                    · refine lv_aload_n hx hb dX6_hush_142 rfl (lv_at hl 2 rfl) ?_
                      refine g_get (v := .ref bs) C0 X kX6 0 3 tb203 rfl rfl rfl dX6_hush_143 ?_
                      refine lv_iload hx hb dX6_hush_146 (lv_at hl 1 rfl) ?_
                      have hamL := bf_am hbf
                      refine lv_iload hx hb dX6_hush_148 (lv_at hl 0 rfl) ?_
                      have hamL := bf_am hbf
                      refine g_callV (As := [.int (nI i), .int (nI (pc i))]) (rest := []) (wr := (lW a hL hT im bs rd hS sh kb rf ++ gW tk hL G d e ++ gW tk hT (u2 G 4 0 ((G 4 0) ||| i)) (dist (cgv (u2 G 4 0 ((G 4 0) ||| i))) xq) e1)) (C0.sz hl) X (c_X0_offer l D tk bs ch1 am1 i (pc i) (by first | assumption | omega) (by first | assumption | omega)) ⟨tb589, tb592, tb3, ⟨by decide, by decide, rfl⟩, rfl, rfl, Nat.le_of_ble_eq_true rfl, Nat.le_of_ble_eq_true rfl⟩ tb590 tb591 21 0 rfl rfl rfl rfl [21] [0, 1, 2, 3, 4, 5, 6, 7, 8, 9, 10, 11, 12, 13, 14, 15, 16, 17, 18, 19, 20] rfl rfl rfl rfl rfl (Nat.le_of_ble_eq_true rfl) ⟨Nat.le_of_ble_eq_true rfl, Nat.le_of_ble_eq_true rfl⟩ dX6_hush_150 (fun _ H locs _ X => ?_)
                      have X : Hx D zA zs H locs (lW a hL hT im bs rd hS sh kb rf ++ gW tk hL G d e ++ gW tk hT (u2 G 4 0 ((G 4 0) ||| i)) (dist (cgv (u2 G 4 0 ((G 4 0) ||| i))) xq) e1 ++ bW bs (if (pc i) < am1 then nI i else ch1) (nI (if (pc i) < am1 then (pc i) else am1))) := X
                      refine g_iinc (j := 1) (z := i + 1) (lv' := [(5, .int (nI (i + 1))), (6, .int (nI (pc i))), (0, .ref a), (1, .int (nI xq)), (2, .int (nI yq)), (3, .int (nI zq)), (4, .int (nI wq))]) C0 rfl (by first | rfl | omega) dX6_hush_153 hl (k := 1) rfl (by decide) rfl (fun ls hl => ?_)
                      refine lv_goto (tgt := 63) hx hb dX6_hush_156 (by decide) ?_
                      exact ih63 (i + 1) ((G 4 0) ||| i) (if (pc i) < am1 then nI i else ch1) (if (pc i) < am1 then (pc i) else am1) (dist (cgv (u2 G 4 0 ((G 4 0) ||| i))) xq) e1 (by omega) (by omega) (by exact bf_t (hush_t (by omega) c12 c16) hbf) H locs ls X (lv_sub hl [0, 2, 3, 4, 5, 6] rfl)
          exact J63 ((2 ^ G 8 1 - 0) + 1) 0 (G 4 0) (-4) 1000 td te (Nat.lt_succ_self _) (by omega) (by rfl) H locs ls X (lv_sub hl [0, 1, 2, 3, 4, 5] rfl)
        · refine lv_iconst (v := (-1)) hx hb dX6_hush_37 (by decide) ?_
          exact hE (v := (-1)) (d, e, T, td, te, ch, am) (by simp [a_hush, cg0, cg1, cg2, cg3, cg5, cg6, cg7, cg8, c2, c4, c6, c8, tn_nI (k := xq) (by omega), tn_nI (k := yq) (by omega), tn_nI (k := zq) (by omega)]) trivial X dX6_hush_38
