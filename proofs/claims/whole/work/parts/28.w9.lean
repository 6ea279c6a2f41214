set_option maxHeartbeats 4000000 in
set_option maxRecDepth 100000 in
theorem c_X6_rule (l : Launch) (D : va_G) (tk : Nat → ClassId) (a : Nat) (hL hT : Nat → Nat) (im bs rd : Nat) (hS : Nat → Nat) (sh kb rf : Nat) (G : Nat → Nat → Nat) (d e : Nat → Nat) (x : Int32) (hw : GW G) : MX l yX6_rule cX6_rule 2 (some .int) ⟨5, 0, 0, 134⟩ D (TYS tk) [.ref a, .int x] (lW a hL hT im bs rd hS sh kb rf ++ gW tk hL G d e) (fun (u : (Nat → Nat) × (Nat → Nat)) => True) (fun u => some (.int (a_rule (cgv G) x))) (fun u => lW a hL hT im bs rd hS sh kb rf ++ gW tk hL G u.1 u.2) 0 0 := by
  refine MX.of_i (by decide) rfl ?_
  intro zp ze zs zm za zb zt zc zA zQ ls C0 hnm X hl hE
  have hx := C0.1
  have hb := C0.2.1
  have ht := C0.2.2.2.2.1
  have X : Hx D zA zs zs.heap [] (lW a hL hT im bs rd hS sh kb rf ++ gW tk hL G d e) := X
  have hl : lv_has ls 2 [(0, .ref a), (1, .int x)] := hl
  obtain ⟨hw1, hw2, hw3, hw4, hw5, hw6, hw7, hw8⟩ := id hw
  obtain ⟨H, hH⟩ : ∃ H, H = zs.heap := ⟨_, rfl⟩
  rw [← hH] at X ⊢
  obtain ⟨locs, hlo⟩ : ∃ L : List Loc, L = [] := ⟨_, rfl⟩
  rw [← hlo] at X ⊢
  refine lv_iload_n hx hb dX6_rule_0 rfl (lv_at hl 1 rfl) ?_
  by_cases c1 : x = nI 0
  · refine g_swIn (k := 0) (lo' := 0) (tgt := 40) C0 (c1) rfl rfl dX6_rule_1 rfl rfl rfl rfl ?_
    refine lv_aload_n hx hb dX6_rule_40 rfl (lv_at hl 0 rfl) ?_
    refine g_get (v := .ref (hL 0)) C0 X kX6 0 0 tb200 rfl rfl rfl dX6_rule_41 ?_
    refine g_get (v := .int (nI (G 8 0))) C0 X kX1 1 0 tb33 rfl rfl rfl dX6_rule_44 ?_
    exact hE (v := nI (G 8 0)) (d, e) (by rw [a_rule]; simp only [cg8, if_pos c1]) trivial X dX6_rule_47
  by_cases c2 : x = nI 1
  · refine g_swIn (k := 1) (lo' := 0) (tgt := 48) C0 (c2) rfl rfl dX6_rule_1 rfl rfl rfl rfl ?_
    refine lv_aload_n hx hb dX6_rule_48 rfl (lv_at hl 0 rfl) ?_
    refine g_get (v := .ref (hL 0)) C0 X kX6 0 0 tb200 rfl rfl rfl dX6_rule_49 ?_
    refine g_get (v := .int (nI (G 8 1))) C0 X kX1 1 2 tb39 rfl rfl rfl dX6_rule_52 ?_
    exact hE (v := nI (G 8 1)) (d, e) (by rw [a_rule]; simp only [cg8, if_neg c1, if_pos c2]) trivial X dX6_rule_55
  by_cases c3 : x = nI 2
  · refine g_swIn (k := 2) (lo' := 0) (tgt := 56) C0 (c3) rfl rfl dX6_rule_1 rfl rfl rfl rfl ?_
    refine lv_aload_n hx hb dX6_rule_56 rfl (lv_at hl 0 rfl) ?_
    refine g_get (v := .ref (hL 0)) C0 X kX6 0 0 tb200 rfl rfl rfl dX6_rule_57 ?_
    refine g_get (v := .int (nI (G 8 2))) C0 X kX1 1 7 tb49 rfl rfl rfl dX6_rule_60 ?_
    exact hE (v := nI (G 8 2)) (d, e) (by rw [a_rule]; simp only [cg8, if_neg c1, if_neg c2, if_pos c3]) trivial X dX6_rule_63
  by_cases c4 : x = nI 3
  · refine g_swIn (k := 3) (lo' := 0) (tgt := 64) C0 (c4) rfl rfl dX6_rule_1 rfl rfl rfl rfl ?_
    refine lv_aload_n hx hb dX6_rule_64 rfl (lv_at hl 0 rfl) ?_
    refine g_get (v := .ref (hL 0)) C0 X kX6 0 0 tb200 rfl rfl rfl dX6_rule_65 ?_
    refine g_get (v := .int (nI (G 8 3))) C0 X kX1 1 8 tb52 rfl rfl rfl dX6_rule_68 ?_
    exact hE (v := nI (G 8 3)) (d, e) (by rw [a_rule]; simp only [cg8, if_neg c1, if_neg c2, if_neg c3, if_pos c4]) trivial X dX6_rule_71
  by_cases c5 : x = nI 4
  · refine g_swIn (k := 4) (lo' := 0) (tgt := 72) C0 (c5) rfl rfl dX6_rule_1 rfl rfl rfl rfl ?_
    refine lv_aload_n hx hb dX6_rule_72 rfl (lv_at hl 0 rfl) ?_
    refine g_get (v := .ref (hL 0)) C0 X kX6 0 0 tb200 rfl rfl rfl dX6_rule_73 ?_
    refine g_get (v := .int (nI (G 4 0))) C0 X kX1 1 6 tb47 rfl rfl rfl dX6_rule_76 ?_
    exact hE (v := nI (G 4 0)) (d, e) (by rw [a_rule]; simp only [if_neg c1, if_neg c2, if_neg c3, if_neg c4, if_pos c5, cut_bits hw]) trivial X dX6_rule_79
  by_cases c6 : x = nI 5
  · refine g_swIn (k := 5) (lo' := 0) (tgt := 80) C0 (c6) rfl rfl dX6_rule_1 rfl rfl rfl rfl ?_
    refine lv_aload_n hx hb dX6_rule_80 rfl (lv_at hl 0 rfl) ?_
    refine g_get (v := .ref (hL 0)) C0 X kX6 0 0 tb200 rfl rfl rfl dX6_rule_81 ?_
    refine g_callV (As := []) (rest := []) (wr := (lW a hL hT im bs rd hS sh kb rf)) (C0.sz hl) X (c_X1_crossedPairs l D tk hL G d e (by first | assumption | omega)) ⟨tb411, tb414, tb2, ⟨by decide, by decide, rfl⟩, rfl, rfl, Nat.le_of_ble_eq_true rfl, Nat.le_of_ble_eq_true rfl⟩ tb412 tb413 1 1 rfl rfl rfl rfl [1, 2, 3, 4, 5, 6, 7, 8, 9, 10] [0] rfl rfl rfl rfl rfl (Nat.le_of_ble_eq_true rfl) ⟨Nat.le_of_ble_eq_true rfl, Nat.le_of_ble_eq_true rfl⟩ dX6_rule_84 (fun uq7 H locs _ X => ?_)
    have X : Hx D zA zs H locs (lW a hL hT im bs rd hS sh kb rf ++ gW tk hL G uq7.1 uq7.2) := X
    exact hE (v := nI (crossS (cgv G))) (uq7.1, uq7.2) (by rw [a_rule]; simp only [if_neg c1, if_neg c2, if_neg c3, if_neg c4, if_neg c5, if_pos c6]) trivial X dX6_rule_87
  refine g_swOut (n := 6) (lo' := 0) (tgt := 88) C0 (by intro j hj1 hj; rcases (show j = 0 ∨ j = 1 ∨ j = 2 ∨ j = 3 ∨ j = 4 ∨ j = 5 by omega) with rfl | rfl | rfl | rfl | rfl | rfl <;> assumption) rfl dX6_rule_1 rfl rfl rfl ?_
  refine lv_iconst (v := (-1)) hx hb dX6_rule_88 (by decide) ?_
  exact hE (v := (-1)) (d, e) (by rw [a_rule]; simp only [cg8, if_neg c1, if_neg c2, if_neg c3, if_neg c4, if_neg c5, if_neg c6]) trivial X dX6_rule_89
set_option maxHeartbeats 4000000 in
set_option maxRecDepth 100000 in
theorem c_X6_tree (l : Launch) (D : va_G) (tk : Nat → ClassId) (a : Nat) (hL hT : Nat → Nat) (im bs rd : Nat) (hS : Nat → Nat) (sh kb rf : Nat) (G : Nat → Nat → Nat) (d e : Nat → Nat) (x y : Int32) (hw : GW G) : MX l yX6_tree cX6_tree 3 (some .int) ⟨5, 0, 0, 134⟩ D (TYS tk) [.ref a, .int x, .int y] (lW a hL hT im bs rd hS sh kb rf ++ gW tk hL G d e) (fun (u : (Nat → Nat) × (Nat → Nat)) => True) (fun u => some (.int (a_tree (cgv G) x y))) (fun u => lW a hL hT im bs rd hS sh kb rf ++ gW tk hL G u.1 u.2) 0 0 := by
  refine MX.of_i (by decide) rfl ?_
  intro zp ze zs zm za zb zt zc zA zQ ls C0 hnm X hl hE
  have hx := C0.1
  have hb := C0.2.1
  have ht := C0.2.2.2.2.1
  have X : Hx D zA zs zs.heap [] (lW a hL hT im bs rd hS sh kb rf ++ gW tk hL G d e) := X
  have hl : lv_has ls 3 [(0, .ref a), (1, .int x), (2, .int y)] := hl
  obtain ⟨hw1, hw2, hw3, hw4, hw5, hw6, hw7, hw8⟩ := id hw
  obtain ⟨H, hH⟩ : ∃ H, H = zs.heap := ⟨_, rfl⟩
  rw [← hH] at X ⊢
  obtain ⟨locs, hlo⟩ : ∃ L : List Loc, L = [] := ⟨_, rfl⟩
  rw [← hlo] at X ⊢
  refine lv_aload_n hx hb dX6_tree_0 rfl (lv_at hl 0 rfl) ?_
  refine g_get (v := .ref (hL 0)) C0 X kX6 0 0 tb200 rfl rfl rfl dX6_tree_1 ?_
  refine lv_iload_n hx hb dX6_tree_4 rfl (lv_at hl 1 rfl) ?_
  refine g_callV (As := [.int x]) (rest := []) (wr := (lW a hL hT im bs rd hS sh kb rf)) (C0.sz hl) X (c_X1_hasTree l D tk hL G d e x (by first | assumption | omega)) ⟨tb456, tb390, tb2, ⟨by decide, by decide, rfl⟩, rfl, rfl, Nat.le_of_ble_eq_true rfl, Nat.le_of_ble_eq_true rfl⟩ tb388 tb389 1 1 rfl rfl rfl rfl [1, 2, 3, 4, 5, 6, 7, 8, 9, 10] [0] rfl rfl rfl rfl rfl (Nat.le_of_ble_eq_true rfl) ⟨Nat.le_of_ble_eq_true rfl, Nat.le_of_ble_eq_true rfl⟩ dX6_tree_5 (fun _ H locs _ X => ?_)
  have X : Hx D zA zs H locs (lW a hL hT im bs rd hS sh kb rf ++ gW tk hL G d e) := X
  refine g_ifneB (x := ix x (G 8 0)) (tgt := 13) C0 dX6_tree_8 rfl (fun c1 => ?_) (fun c2 => ?_)
  · obtain ⟨xq, hk_xq, rfl⟩ := ix_sp c1
    refine lv_iload_n hx hb dX6_tree_13 rfl (lv_at hl 2 rfl) ?_
    by_cases c3 : y = nI 0
    · refine g_swIn (k := 0) (lo' := 0) (tgt := 44) C0 (c3) rfl rfl dX6_tree_14 rfl rfl rfl rfl ?_
      refine lv_aload_n hx hb dX6_tree_44 rfl (lv_at hl 0 rfl) ?_
      refine g_get (v := .ref (hL 0)) C0 X kX6 0 0 tb200 rfl rfl rfl dX6_tree_45 ?_
      refine g_get (v := .ref (hL 1)) C0 X kX1 1 1 tb36 rfl rfl rfl dX6_tree_48 ?_
      refine lv_iload_n hx hb dX6_tree_51 rfl (lv_at hl 1 rfl) ?_
      refine g_iald (v := nI (G 0 xq)) (i := xq) C0 X 2 0 rfl rfl (by omega) rfl rfl dX6_tree_52 ?_
      exact hE (v := nI (G 0 xq)) (d, e) (by simp only [a_tree, cg0, cg1, cg2, cg3, cg5, cg6, cg7, cg8, c1, if_pos c3, tn_nI (k := xq) (by omega), if_true, if_false, Bool.false_eq_true, Bool.and_self, Bool.and_true, Bool.and_false, Bool.true_and, Bool.false_and]) trivial X dX6_tree_53
    by_cases c4 : y = nI 1
    · refine g_swIn (k := 1) (lo' := 0) (tgt := 54) C0 (c4) rfl rfl dX6_tree_14 rfl rfl rfl rfl ?_
      refine lv_aload_n hx hb dX6_tree_54 rfl (lv_at hl 0 rfl) ?_
      refine g_get (v := .ref (hL 0)) C0 X kX6 0 0 tb200 rfl rfl rfl dX6_tree_55 ?_
      refine lv_iload_n hx hb dX6_tree_58 rfl (lv_at hl 1 rfl) ?_
      refine g_callV (As := [.int (nI xq)]) (rest := []) (wr := (lW a hL hT im bs rd hS sh kb rf)) (C0.sz hl) X (c_X1_wholeRootsOf l D tk hL G d e xq (by first | assumption | omega) (by first | assumption | omega)) ⟨tb457, tb460, tb2, ⟨by decide, by decide, rfl⟩, rfl, rfl, Nat.le_of_ble_eq_true rfl, Nat.le_of_ble_eq_true rfl⟩ tb458 tb459 1 1 rfl rfl rfl rfl [1, 2, 3, 4, 5, 6, 7, 8, 9, 10] [0] rfl rfl rfl rfl rfl (Nat.le_of_ble_eq_true rfl) ⟨Nat.le_of_ble_eq_true rfl, Nat.le_of_ble_eq_true rfl⟩ dX6_tree_59 (fun _ H locs _ X => ?_)
      have X : Hx D zA zs H locs (lW a hL hT im bs rd hS sh kb rf ++ gW tk hL G d e) := X
      exact hE (v := nI (cnt (wholeP (cgv G) xq) (G 8 1))) (d, e) (by simp only [a_tree, cg0, cg1, cg2, cg3, cg5, cg6, cg7, cg8, c1, if_neg c3, if_pos c4, tn_nI (k := xq) (by omega), if_true, if_false, Bool.false_eq_true, Bool.and_self, Bool.and_true, Bool.and_false, Bool.true_and, Bool.false_and]) trivial X dX6_tree_62
    by_cases c5 : y = nI 2
    · refine g_swIn (k := 2) (lo' := 0) (tgt := 63) C0 (c5) rfl rfl dX6_tree_14 rfl rfl rfl rfl ?_
      refine lv_aload_n hx hb dX6_tree_63 rfl (lv_at hl 0 rfl) ?_
      refine g_get (v := .ref (hL 0)) C0 X kX6 0 0 tb200 rfl rfl rfl dX6_tree_64 ?_
      refine lv_iload_n hx hb dX6_tree_67 rfl (lv_at hl 1 rfl) ?_
      refine g_callV (As := [.int (nI xq)]) (rest := []) (wr := (lW a hL hT im bs rd hS sh kb rf)) (C0.sz hl) X (c_X1_treesInReach l D tk hL G d e xq (by first | assumption | omega) (by first | assumption | omega)) ⟨tb461, tb464, tb2, ⟨by decide, by decide, rfl⟩, rfl, rfl, Nat.le_of_ble_eq_true rfl, Nat.le_of_ble_eq_true rfl⟩ tb462 tb463 1 1 rfl rfl rfl rfl [1, 2, 3, 4, 5, 6, 7, 8, 9, 10] [0] rfl rfl rfl rfl rfl (Nat.le_of_ble_eq_true rfl) ⟨Nat.le_of_ble_eq_true rfl, Nat.le_of_ble_eq_true rfl⟩ dX6_tree_68 (fun _ H locs _ X => ?_)
      have X : Hx D zA zs H locs (lW a hL hT im bs rd hS sh kb rf ++ gW tk hL G (dist (cgv G) xq) e) := X
      exact hE (v := nI (bset (reachP (cgv G) xq) (G 8 0))) ((dist (cgv G) xq), e) (by simp only [a_tree, cg0, cg1, cg2, cg3, cg5, cg6, cg7, cg8, c1, if_neg c3, if_neg c4, if_pos c5, tn_nI (k := xq) (by omega), if_true, if_false, Bool.false_eq_true, Bool.and_self, Bool.and_true, Bool.and_false, Bool.true_and, Bool.false_and]) trivial X dX6_tree_71
    by_cases c6 : y = nI 3
    · refine g_swIn (k := 3) (lo' := 0) (tgt := 72) C0 (c6) rfl rfl dX6_tree_14 rfl rfl rfl rfl ?_
      refine lv_aload_n hx hb dX6_tree_72 rfl (lv_at hl 0 rfl) ?_
      refine g_get (v := .ref (hL 0)) C0 X kX6 0 0 tb200 rfl rfl rfl dX6_tree_73 ?_
      refine lv_iload_n hx hb dX6_tree_76 rfl (lv_at hl 1 rfl) ?_
      refine g_callV (As := [.int (nI xq)]) (rest := []) (wr := (lW a hL hT im bs rd hS sh kb rf)) (C0.sz hl) X (c_X1_talksHeardAt l D tk hL G d e xq (by first | assumption | omega) (by first | assumption | omega)) ⟨tb465, tb468, tb2, ⟨by decide, by decide, rfl⟩, rfl, rfl, Nat.le_of_ble_eq_true rfl, Nat.le_of_ble_eq_true rfl⟩ tb466 tb467 1 1 rfl rfl rfl rfl [1, 2, 3, 4, 5, 6, 7, 8, 9, 10] [0] rfl rfl rfl rfl rfl (Nat.le_of_ble_eq_true rfl) ⟨Nat.le_of_ble_eq_true rfl, Nat.le_of_ble_eq_true rfl⟩ dX6_tree_77 (fun uq7 H locs _ X => ?_)
      have X : Hx D zA zs H locs (lW a hL hT im bs rd hS sh kb rf ++ gW tk hL G uq7.1 uq7.2) := X
      exact hE (v := nI (bset (fun k => (heardS (cgv G) k).testBit xq) (G 8 3))) (uq7.1, uq7.2) (by simp only [a_tree, cg0, cg1, cg2, cg3, cg5, cg6, cg7, cg8, c1, if_neg c3, if_neg c4, if_neg c5, if_pos c6, tn_nI (k := xq) (by omega), if_true, if_false, Bool.false_eq_true, Bool.and_self, Bool.and_true, Bool.and_false, Bool.true_and, Bool.false_and]) trivial X dX6_tree_80
    refine g_swOut (n := 4) (lo' := 0) (tgt := 81) C0 (by intro j hj1 hj; rcases (show j = 0 ∨ j = 1 ∨ j = 2 ∨ j = 3 by omega) with rfl | rfl | rfl | rfl <;> assumption) rfl dX6_tree_14 rfl rfl rfl ?_
    refine lv_iconst (v := (-1)) hx hb dX6_tree_81 (by decide) ?_
    exact hE (v := (-1)) (d, e) (by simp only [a_tree, cg0, cg1, cg2, cg3, cg5, cg6, cg7, cg8, c1, if_neg c3, if_neg c4, if_neg c5, if_neg c6, tn_nI (k := xq) (by omega), if_true, if_false, Bool.false_eq_true, Bool.and_self, Bool.and_true, Bool.and_false, Bool.true_and, Bool.false_and]) trivial X dX6_tree_82
  · refine lv_iconst (v := (-1)) hx hb dX6_tree_11 (by decide) ?_
    exact hE (v := (-1)) (d, e) (by simp only [a_tree, cg0, cg1, cg2, cg3, cg5, cg6, cg7, cg8, c2, if_true, if_false, Bool.false_eq_true, Bool.and_self, Bool.and_true, Bool.and_false, Bool.true_and, Bool.false_and]) trivial X dX6_tree_12
set_option maxHeartbeats 4000000 in
set_option maxRecDepth 100000 in
theorem c_X6_root (l : Launch) (D : va_G) (tk : Nat → ClassId) (a : Nat) (hL hT : Nat → Nat) (im bs rd : Nat) (hS : Nat → Nat) (sh kb rf : Nat) (G : Nat → Nat → Nat) (d e : Nat → Nat) (x y : Int32) (hw : GW G) : MX l yX6_root cX6_root 3 (some .int) ⟨2, 0, 0, 43⟩ D (TYS tk) [.ref a, .int x, .int y] (lW a hL hT im bs rd hS sh kb rf ++ gW tk hL G d e) (fun (_ : Unit) => True) (fun _ => some (.int (a_root (cgv G) x y))) (fun _ => lW a hL hT im bs rd hS sh kb rf ++ gW tk hL G d e) 0 0 := by
  refine MX.of_i (by decide) rfl ?_
  intro zp ze zs zm za zb zt zc zA zQ ls C0 hnm X hl hE
  have hx := C0.1
  have hb := C0.2.1
  have ht := C0.2.2.2.2.1
  have X : Hx D zA zs zs.heap [] (lW a hL hT im bs rd hS sh kb rf ++ gW tk hL G d e) := X
  have hl : lv_has ls 3 [(0, .ref a), (1, .int x), (2, .int y)] := hl
  obtain ⟨hw1, hw2, hw3, hw4, hw5, hw6, hw7, hw8⟩ := id hw
  have hw0 := hw.cut
  obtain ⟨H, hH⟩ : ∃ H, H = zs.heap := ⟨_, rfl⟩
  rw [← hH] at X ⊢
  obtain ⟨locs, hlo⟩ : ∃ L : List Loc, L = [] := ⟨_, rfl⟩
  rw [← hlo] at X ⊢
  refine lv_aload_n hx hb dX6_root_0 rfl (lv_at hl 0 rfl) ?_
  refine g_get (v := .ref (hL 0)) C0 X kX6 0 0 tb200 rfl rfl rfl dX6_root_1 ?_
  refine lv_iload_n hx hb dX6_root_4 rfl (lv_at hl 1 rfl) ?_
  refine g_callV (As := [.int x]) (rest := []) (wr := (lW a hL hT im bs rd hS sh kb rf)) (C0.sz hl) X (c_X1_hasRoot l D tk hL G d e x (by first | assumption | omega)) ⟨tb473, tb476, tb2, ⟨by decide, by decide, rfl⟩, rfl, rfl, Nat.le_of_ble_eq_true rfl, Nat.le_of_ble_eq_true rfl⟩ tb474 tb475 1 1 rfl rfl rfl rfl [1, 2, 3, 4, 5, 6, 7, 8, 9, 10] [0] rfl rfl rfl rfl rfl (Nat.le_of_ble_eq_true rfl) ⟨Nat.le_of_ble_eq_true rfl, Nat.le_of_ble_eq_true rfl⟩ dX6_root_5 (fun _ H locs _ X => ?_)
  have X : Hx D zA zs H locs (lW a hL hT im bs rd hS sh kb rf ++ gW tk hL G d e) := X
  refine g_ifneB (x := ix x (G 8 1)) (tgt := 13) C0 dX6_root_8 rfl (fun c1 => ?_) (fun c2 => ?_)
  · obtain ⟨xq, hk_xq, rfl⟩ := ix_sp c1
    refine lv_iload_n hx hb dX6_root_13 rfl (lv_at hl 2 rfl) ?_
    by_cases c3 : y = nI 0
    · refine g_swIn (k := 0) (lo' := 0) (tgt := 44) C0 (c3) rfl rfl dX6_root_14 rfl rfl rfl rfl ?_
      refine lv_aload_n hx hb dX6_root_44 rfl (lv_at hl 0 rfl) ?_
      refine g_get (v := .ref (hL 0)) C0 X kX6 0 0 tb200 rfl rfl rfl dX6_root_45 ?_
      refine g_get (v := .ref (hL 2)) C0 X kX1 1 3 tb41 rfl rfl rfl dX6_root_48 ?_
      refine lv_iload_n hx hb dX6_root_51 rfl (lv_at hl 1 rfl) ?_
      refine g_iald (v := nI (G 1 xq)) (i := xq) C0 X 3 0 rfl rfl (by omega) rfl rfl dX6_root_52 ?_
      exact hE (v := nI (G 1 xq)) () (by simp only [a_root, cg0, cg1, cg2, cg3, cg5, cg6, cg7, cg8, c1, if_pos c3, tn_nI (k := xq) (by omega), if_true, if_false, Bool.false_eq_true, Bool.and_self, Bool.and_true, Bool.and_false, Bool.true_and, Bool.false_and]) trivial X dX6_root_53
    by_cases c4 : y = nI 1
    · refine g_swIn (k := 1) (lo' := 0) (tgt := 54) C0 (c4) rfl rfl dX6_root_14 rfl rfl rfl rfl ?_
      refine lv_aload_n hx hb dX6_root_54 rfl (lv_at hl 0 rfl) ?_
      refine g_get (v := .ref (hL 0)) C0 X kX6 0 0 tb200 rfl rfl rfl dX6_root_55 ?_
      refine g_get (v := .ref (hL 3)) C0 X kX1 1 4 tb43 rfl rfl rfl dX6_root_58 ?_
      refine lv_iload_n hx hb dX6_root_61 rfl (lv_at hl 1 rfl) ?_
      refine g_iald (v := nI (G 2 xq)) (i := xq) C0 X 4 0 rfl rfl (by omega) rfl rfl dX6_root_62 ?_
      exact hE (v := nI (G 2 xq)) () (by simp only [a_root, cg0, cg1, cg2, cg3, cg5, cg6, cg7, cg8, c1, if_neg c3, if_pos c4, tn_nI (k := xq) (by omega), if_true, if_false, Bool.false_eq_true, Bool.and_self, Bool.and_true, Bool.and_false, Bool.true_and, Bool.false_and]) trivial X dX6_root_63
    by_cases c5 : y = nI 2
    · refine g_swIn (k := 2) (lo' := 0) (tgt := 64) C0 (c5) rfl rfl dX6_root_14 rfl rfl rfl rfl ?_
      refine lv_aload_n hx hb dX6_root_64 rfl (lv_at hl 0 rfl) ?_
      refine g_get (v := .ref (hL 0)) C0 X kX6 0 0 tb200 rfl rfl rfl dX6_root_65 ?_
      refine g_get (v := .ref (hL 4)) C0 X kX1 1 5 tb45 rfl rfl rfl dX6_root_68 ?_
      refine lv_iload_n hx hb dX6_root_71 rfl (lv_at hl 1 rfl) ?_
      refine g_iald (v := nI (G 3 xq)) (i := xq) C0 X 5 0 rfl rfl (by omega) rfl rfl dX6_root_72 ?_
      exact hE (v := nI (G 3 xq)) () (by simp only [a_root, cg0, cg1, cg2, cg3, cg5, cg6, cg7, cg8, c1, if_neg c3, if_neg c4, if_pos c5, tn_nI (k := xq) (by omega), if_true, if_false, Bool.false_eq_true, Bool.and_self, Bool.and_true, Bool.and_false, Bool.true_and, Bool.false_and]) trivial X dX6_root_73
    by_cases c6 : y = nI 3
    · refine g_swIn (k := 3) (lo' := 0) (tgt := 74) C0 (c6) rfl rfl dX6_root_14 rfl rfl rfl rfl ?_
      refine lv_aload_n hx hb dX6_root_74 rfl (lv_at hl 0 rfl) ?_
      refine g_get (v := .ref (hL 0)) C0 X kX6 0 0 tb200 rfl rfl rfl dX6_root_75 ?_
      refine lv_iload_n hx hb dX6_root_78 rfl (lv_at hl 1 rfl) ?_
      refine g_callV (As := [.int (nI xq)]) (rest := []) (wr := (lW a hL hT im bs rd hS sh kb rf)) (C0.sz hl) X (c_X1_isWhole l D tk hL G d e xq (by first | assumption | omega) (by first | assumption | omega)) ⟨tb477, tb429, tb2, ⟨by decide, by decide, rfl⟩, rfl, rfl, Nat.le_of_ble_eq_true rfl, Nat.le_of_ble_eq_true rfl⟩ tb427 tb428 1 1 rfl rfl rfl rfl [1, 2, 3, 4, 5, 6, 7, 8, 9, 10] [0] rfl rfl rfl rfl rfl (Nat.le_of_ble_eq_true rfl) ⟨Nat.le_of_ble_eq_true rfl, Nat.le_of_ble_eq_true rfl⟩ dX6_root_79 (fun _ H locs _ X => ?_)
      have X : Hx D zA zs H locs (lW a hL hT im bs rd hS sh kb rf ++ gW tk hL G d e) := X
      refine g_ifeqB (x := !(G 4 0).testBit xq) (tgt := 89) C0 dX6_root_82 rfl (fun c7 => ?_) (fun c8 => ?_)
      · refine g_iconst (n := 1) C0 rfl dX6_root_89 ?_
        exact hE (v := nI 1) () (by simp only [a_root, cg0, cg1, cg2, cg3, cg5, cg6, cg7, cg8, c1, if_neg c3, if_neg c4, if_neg c5, if_pos c6, tn_nI (k := xq) (by omega), if_true]; rw [cgv4' (by simpa using c7)]) trivial X dX6_root_90
      · refine g_iconst (n := 0) C0 rfl dX6_root_85 ?_
        refine lv_goto (tgt := 90) hx hb dX6_root_86 (by decide) ?_
        exact hE (v := nI 0) () (by simp only [a_root, cg0, cg1, cg2, cg3, cg5, cg6, cg7, cg8, c1, if_neg c3, if_neg c4, if_neg c5, if_pos c6, tn_nI (k := xq) (by omega), if_true]; rw [cgv4 (by simpa using c8)]) trivial X dX6_root_90
    refine g_swOut (n := 4) (lo' := 0) (tgt := 91) C0 (by intro j hj1 hj; rcases (show j = 0 ∨ j = 1 ∨ j = 2 ∨ j = 3 by omega) with rfl | rfl | rfl | rfl <;> assumption) rfl dX6_root_14 rfl rfl rfl ?_
    refine lv_iconst (v := (-1)) hx hb dX6_root_91 (by decide) ?_
    exact hE (v := (-1)) () (by simp only [a_root, cg0, cg1, cg2, cg3, cg5, cg6, cg7, cg8, c1, if_neg c3, if_neg c4, if_neg c5, if_neg c6, tn_nI (k := xq) (by omega), if_true, if_false, Bool.false_eq_true, Bool.and_self, Bool.and_true, Bool.and_false, Bool.true_and, Bool.false_and]) trivial X dX6_root_92
  · refine lv_iconst (v := (-1)) hx hb dX6_root_11 (by decide) ?_
    exact hE (v := (-1)) () (by simp only [a_root, cg0, cg1, cg2, cg3, cg5, cg6, cg7, cg8, c2, if_true, if_false, Bool.false_eq_true, Bool.and_self, Bool.and_true, Bool.and_false, Bool.true_and, Bool.false_and]) trivial X dX6_root_12
set_option maxHeartbeats 4000000 in
set_option maxRecDepth 100000 in
theorem c_X6_talk (l : Launch) (D : va_G) (tk : Nat → ClassId) (a : Nat) (hL hT : Nat → Nat) (im bs rd : Nat) (hS : Nat → Nat) (sh kb rf : Nat) (G : Nat → Nat → Nat) (d e : Nat → Nat) (x y : Int32) (hw : GW G) : MX l yX6_talk cX6_talk 3 (some .int) ⟨4, 0, 0, 111⟩ D (TYS tk) [.ref a, .int x, .int y] (lW a hL hT im bs rd hS sh kb rf ++ gW tk hL G d e) (fun (u : (Nat → Nat) × (Nat → Nat)) => True) (fun u => some (.int (a_talk (cgv G) x y))) (fun u => lW a hL hT im bs rd hS sh kb rf ++ gW tk hL G u.1 u.2) 0 0 := by
  refine MX.of_i (by decide) rfl ?_
  intro zp ze zs zm za zb zt zc zA zQ ls C0 hnm X hl hE
  have hx := C0.1
  have hb := C0.2.1
  have ht := C0.2.2.2.2.1
  have X : Hx D zA zs zs.heap [] (lW a hL hT im bs rd hS sh kb rf ++ gW tk hL G d e) := X
  have hl : lv_has ls 3 [(0, .ref a), (1, .int x), (2, .int y)] := hl
  obtain ⟨hw1, hw2, hw3, hw4, hw5, hw6, hw7, hw8⟩ := id hw
  obtain ⟨H, hH⟩ : ∃ H, H = zs.heap := ⟨_, rfl⟩
  rw [← hH] at X ⊢
  obtain ⟨locs, hlo⟩ : ∃ L : List Loc, L = [] := ⟨_, rfl⟩
  rw [← hlo] at X ⊢
  refine lv_aload_n hx hb dX6_talk_0 rfl (lv_at hl 0 rfl) ?_
  refine g_get (v := .ref (hL 0)) C0 X kX6 0 0 tb200 rfl rfl rfl dX6_talk_1 ?_
  refine lv_iload_n hx hb dX6_talk_4 rfl (lv_at hl 1 rfl) ?_
  refine g_callV (As := [.int x]) (rest := []) (wr := (lW a hL hT im bs rd hS sh kb rf)) (C0.sz hl) X (c_X1_hasTalk l D tk hL G d e x (by first | assumption | omega)) ⟨tb482, tb485, tb2, ⟨by decide, by decide, rfl⟩, rfl, rfl, Nat.le_of_ble_eq_true rfl, Nat.le_of_ble_eq_true rfl⟩ tb483 tb484 1 1 rfl rfl rfl rfl [1, 2, 3, 4, 5, 6, 7, 8, 9, 10] [0] rfl rfl rfl rfl rfl (Nat.le_of_ble_eq_true rfl) ⟨Nat.le_of_ble_eq_true rfl, Nat.le_of_ble_eq_true rfl⟩ dX6_talk_5 (fun _ H locs _ X => ?_)
  have X : Hx D zA zs H locs (lW a hL hT im bs rd hS sh kb rf ++ gW tk hL G d e) := X
  refine g_ifneB (x := ix x (G 8 3)) (tgt := 13) C0 dX6_talk_8 rfl (fun c1 => ?_) (fun c2 => ?_)
  · obtain ⟨xq, hk_xq, rfl⟩ := ix_sp c1
    refine lv_iload_n hx hb dX6_talk_13 rfl (lv_at hl 2 rfl) ?_
    by_cases c3 : y = nI 0
    · refine g_swIn (k := 0) (lo' := 0) (tgt := 44) C0 (c3) rfl rfl dX6_talk_14 rfl rfl rfl rfl ?_
      refine lv_aload_n hx hb dX6_talk_44 rfl (lv_at hl 0 rfl) ?_
      refine g_get (v := .ref (hL 0)) C0 X kX6 0 0 tb200 rfl rfl rfl dX6_talk_45 ?_
      refine g_get (v := .ref (hL 5)) C0 X kX1 1 9 tb55 rfl rfl rfl dX6_talk_48 ?_
      refine lv_iload_n hx hb dX6_talk_51 rfl (lv_at hl 1 rfl) ?_
      refine g_iald (v := nI (G 5 xq)) (i := xq) C0 X 6 0 rfl rfl (by omega) rfl rfl dX6_talk_52 ?_
      exact hE (v := nI (G 5 xq)) (d, e) (by simp only [a_talk, cg0, cg1, cg2, cg3, cg5, cg6, cg7, cg8, c1, if_pos c3, tn_nI (k := xq) (by omega), heardS, if_true, if_false, Bool.false_eq_true, Bool.and_self, Bool.and_true, Bool.and_false, Bool.true_and, Bool.false_and]) trivial X dX6_talk_53
    by_cases c4 : y = nI 1
    · refine g_swIn (k := 1) (lo' := 0) (tgt := 54) C0 (c4) rfl rfl dX6_talk_14 rfl rfl rfl rfl ?_
      refine lv_aload_n hx hb dX6_talk_54 rfl (lv_at hl 0 rfl) ?_
      refine g_get (v := .ref (hL 0)) C0 X kX6 0 0 tb200 rfl rfl rfl dX6_talk_55 ?_
      refine g_get (v := .ref (hL 6)) C0 X kX1 1 10 tb57 rfl rfl rfl dX6_talk_58 ?_
      refine lv_iload_n hx hb dX6_talk_61 rfl (lv_at hl 1 rfl) ?_
      refine g_iald (v := nI (G 6 xq)) (i := xq) C0 X 7 0 rfl rfl (by omega) rfl rfl dX6_talk_62 ?_
      exact hE (v := nI (G 6 xq)) (d, e) (by simp only [a_talk, cg0, cg1, cg2, cg3, cg5, cg6, cg7, cg8, c1, if_neg c3, if_pos c4, tn_nI (k := xq) (by omega), heardS, if_true, if_false, Bool.false_eq_true, Bool.and_self, Bool.and_true, Bool.and_false, Bool.true_and, Bool.false_and]) trivial X dX6_talk_63
    by_cases c5 : y = nI 2
    · refine g_swIn (k := 2) (lo' := 0) (tgt := 64) C0 (c5) rfl rfl dX6_talk_14 rfl rfl rfl rfl ?_
      refine lv_aload_n hx hb dX6_talk_64 rfl (lv_at hl 0 rfl) ?_
      refine g_get (v := .ref (hL 0)) C0 X kX6 0 0 tb200 rfl rfl rfl dX6_talk_65 ?_
      refine g_get (v := .ref (hL 7)) C0 X kX1 1 11 tb59 rfl rfl rfl dX6_talk_68 ?_
      refine lv_iload_n hx hb dX6_talk_71 rfl (lv_at hl 1 rfl) ?_
      refine g_iald (v := nI (G 7 xq)) (i := xq) C0 X 8 0 rfl rfl (by omega) rfl rfl dX6_talk_72 ?_
      exact hE (v := nI (G 7 xq)) (d, e) (by simp only [a_talk, cg0, cg1, cg2, cg3, cg5, cg6, cg7, cg8, c1, if_neg c3, if_neg c4, if_pos c5, tn_nI (k := xq) (by omega), heardS, if_true, if_false, Bool.false_eq_true, Bool.and_self, Bool.and_true, Bool.and_false, Bool.true_and, Bool.false_and]) trivial X dX6_talk_73
    by_cases c6 : y = nI 3
    · refine g_swIn (k := 3) (lo' := 0) (tgt := 74) C0 (c6) rfl rfl dX6_talk_14 rfl rfl rfl rfl ?_
      refine lv_aload_n hx hb dX6_talk_74 rfl (lv_at hl 0 rfl) ?_
      refine g_get (v := .ref (hL 0)) C0 X kX6 0 0 tb200 rfl rfl rfl dX6_talk_75 ?_
      refine lv_aload_n hx hb dX6_talk_78 rfl (lv_at hl 0 rfl) ?_
      refine g_get (v := .ref (hL 0)) C0 X kX6 0 0 tb200 rfl rfl rfl dX6_talk_79 ?_
      refine g_get (v := .ref (hL 6)) C0 X kX1 1 10 tb57 rfl rfl rfl dX6_talk_82 ?_
      refine lv_iload_n hx hb dX6_talk_85 rfl (lv_at hl 1 rfl) ?_
      refine g_iald (v := nI (G 6 xq)) (i := xq) C0 X 7 0 rfl rfl (by omega) rfl rfl dX6_talk_86 ?_
      refine lv_aload_n hx hb dX6_talk_87 rfl (lv_at hl 0 rfl) ?_
      refine g_get (v := .ref (hL 0)) C0 X kX6 0 0 tb200 rfl rfl rfl dX6_talk_88 ?_
      refine g_get (v := .ref (hL 7)) C0 X kX1 1 11 tb59 rfl rfl rfl dX6_talk_91 ?_
      refine lv_iload_n hx hb dX6_talk_94 rfl (lv_at hl 1 rfl) ?_
      refine g_iald (v := nI (G 7 xq)) (i := xq) C0 X 8 0 rfl rfl (by omega) rfl rfl dX6_talk_95 ?_
      have hr8 := hw8 xq (by omega)
      refine g_callV (As := [.int (nI (G 6 xq)), .int (nI (G 7 xq))]) (rest := []) (wr := (lW a hL hT im bs rd hS sh kb rf)) (C0.sz hl) X (c_X1_hearers l D tk hL G d e (G 6 xq) (G 7 xq) (by first | assumption | omega) (by first | assumption | omega) (by first | assumption | omega)) ⟨tb486, tb489, tb2, ⟨by decide, by decide, rfl⟩, rfl, rfl, Nat.le_of_ble_eq_true rfl, Nat.le_of_ble_eq_true rfl⟩ tb487 tb488 1 1 rfl rfl rfl rfl [1, 2, 3, 4, 5, 6, 7, 8, 9, 10] [0] rfl rfl rfl rfl rfl (Nat.le_of_ble_eq_true rfl) ⟨Nat.le_of_ble_eq_true rfl, Nat.le_of_ble_eq_true rfl⟩ dX6_talk_96 (fun _ H locs _ X => ?_)
      have X : Hx D zA zs H locs (lW a hL hT im bs rd hS sh kb rf ++ gW tk hL G (dist (cgv G) (G 6 xq)) e) := X
      exact hE (v := nI (hearS (cgv G) (G 6 xq) (G 7 xq))) ((dist (cgv G) (G 6 xq)), e) (by simp only [a_talk, cg0, cg1, cg2, cg3, cg5, cg6, cg7, cg8, c1, if_neg c3, if_neg c4, if_neg c5, if_pos c6, tn_nI (k := xq) (by omega), heardS, if_true, if_false, Bool.false_eq_true, Bool.and_self, Bool.and_true, Bool.and_false, Bool.true_and, Bool.false_and]) trivial X dX6_talk_99
    refine g_swOut (n := 4) (lo' := 0) (tgt := 100) C0 (by intro j hj1 hj; rcases (show j = 0 ∨ j = 1 ∨ j = 2 ∨ j = 3 by omega) with rfl | rfl | rfl | rfl <;> assumption) rfl dX6_talk_14 rfl rfl rfl ?_
    refine lv_iconst (v := (-1)) hx hb dX6_talk_100 (by decide) ?_
    exact hE (v := (-1)) (d, e) (by simp only [a_talk, cg0, cg1, cg2, cg3, cg5, cg6, cg7, cg8, c1, if_neg c3, if_neg c4, if_neg c5, if_neg c6, tn_nI (k := xq) (by omega), heardS, if_true, if_false, Bool.false_eq_true, Bool.and_self, Bool.and_true, Bool.and_false, Bool.true_and, Bool.false_and]) trivial X dX6_talk_101
  · refine lv_iconst (v := (-1)) hx hb dX6_talk_11 (by decide) ?_
    exact hE (v := (-1)) (d, e) (by simp only [a_talk, cg0, cg1, cg2, cg3, cg5, cg6, cg7, cg8, c2, heardS, if_true, if_false, Bool.false_eq_true, Bool.and_self, Bool.and_true, Bool.and_false, Bool.true_and, Bool.false_and]) trivial X dX6_talk_12
set_option maxHeartbeats 4000000 in
set_option maxRecDepth 100000 in
theorem c_X6_grow (l : Launch) (D : va_G) (tk : Nat → ClassId) (a : Nat) (hL hT : Nat → Nat) (im bs rd : Nat) (hS : Nat → Nat) (sh kb rf : Nat) (G : Nat → Nat → Nat) (d e : Nat → Nat) (x y z : Int32) (hw : GW G) : MX l yX6_grow cX6_grow 4 (some .int) ⟨2, 0, 0, 43⟩ D (TYS tk) [.ref a, .int x, .int y, .int z] (lW a hL hT im bs rd hS sh kb rf ++ gW tk hL G d e) (fun (_ : Unit) => True) (fun _ => some (.int (a_grow (cgv G) x y z))) (fun _ => lW a hL hT im bs rd hS sh kb rf ++ gW tk hL (growG G x y z) d e) 0 0 := by
  refine MX.of_i (by decide) rfl ?_
  intro zp ze zs zm za zb zt zc zA zQ ls C0 hnm X hl hE
  have hx := C0.1
  have hb := C0.2.1
  have ht := C0.2.2.2.2.1
  have X : Hx D zA zs zs.heap [] (lW a hL hT im bs rd hS sh kb rf ++ gW tk hL G d e) := X
  have hl : lv_has ls 4 [(0, .ref a), (1, .int x), (2, .int y), (3, .int z)] := hl
  obtain ⟨hw1, hw2, hw3, hw4, hw5, hw6, hw7, hw8⟩ := id hw
  obtain ⟨H, hH⟩ : ∃ H, H = zs.heap := ⟨_, rfl⟩
  rw [← hH] at X ⊢
  obtain ⟨locs, hlo⟩ : ∃ L : List Loc, L = [] := ⟨_, rfl⟩
  rw [← hlo] at X ⊢
  refine lv_aload_n hx hb dX6_grow_0 rfl (lv_at hl 0 rfl) ?_
  refine g_get (v := .ref (hL 0)) C0 X kX6 0 0 tb200 rfl rfl rfl dX6_grow_1 ?_
  refine lv_iload_n hx hb dX6_grow_4 rfl (lv_at hl 1 rfl) ?_
  refine g_callV (As := [.int x]) (rest := []) (wr := (lW a hL hT im bs rd hS sh kb rf)) (C0.sz hl) X (c_X1_hasTree l D tk hL G d e x (by first | assumption | omega)) ⟨tb456, tb390, tb2, ⟨by decide, by decide, rfl⟩, rfl, rfl, Nat.le_of_ble_eq_true rfl, Nat.le_of_ble_eq_true rfl⟩ tb388 tb389 1 1 rfl rfl rfl rfl [1, 2, 3, 4, 5, 6, 7, 8, 9, 10] [0] rfl rfl rfl rfl rfl (Nat.le_of_ble_eq_true rfl) ⟨Nat.le_of_ble_eq_true rfl, Nat.le_of_ble_eq_true rfl⟩ dX6_grow_5 (fun _ H locs _ X => ?_)
  have X : Hx D zA zs H locs (lW a hL hT im bs rd hS sh kb rf ++ gW tk hL G d e) := X
  refine g_ifeqB (x := ix x (G 8 0)) (tgt := 34) C0 dX6_grow_8 rfl (fun c1 => ?_) (fun c2 => ?_)
  · refine lv_iconst (v := (-1)) hx hb dX6_grow_34 (by decide) ?_
    exact hE (v := (-1)) () (by simp [a_grow, cg0, cg1, cg2, cg3, cg5, cg6, cg7, cg8, c1, ]) trivial (X.to (by simp [growG, addR, c1, ])) dX6_grow_35
  · obtain ⟨xq, hk_xq, rfl⟩ := ix_sp c2
    refine lv_aload_n hx hb dX6_grow_11 rfl (lv_at hl 0 rfl) ?_
    refine g_get (v := .ref (hL 0)) C0 X kX6 0 0 tb200 rfl rfl rfl dX6_grow_12 ?_
    refine lv_iload_n hx hb dX6_grow_15 rfl (lv_at hl 2 rfl) ?_
    refine g_callV (As := [.int y]) (rest := []) (wr := (lW a hL hT im bs rd hS sh kb rf)) (C0.sz hl) X (c_X1_hasTree l D tk hL G d e y (by first | assumption | omega)) ⟨tb456, tb390, tb2, ⟨by decide, by decide, rfl⟩, rfl, rfl, Nat.le_of_ble_eq_true rfl, Nat.le_of_ble_eq_true rfl⟩ tb388 tb389 1 1 rfl rfl rfl rfl [1, 2, 3, 4, 5, 6, 7, 8, 9, 10] [0] rfl rfl rfl rfl rfl (Nat.le_of_ble_eq_true rfl) ⟨Nat.le_of_ble_eq_true rfl, Nat.le_of_ble_eq_true rfl⟩ dX6_grow_16 (fun _ H locs _ X => ?_)
    have X : Hx D zA zs H locs (lW a hL hT im bs rd hS sh kb rf ++ gW tk hL G d e) := X
    refine g_ifeqB (x := ix y (G 8 0)) (tgt := 34) C0 dX6_grow_19 rfl (fun c3 => ?_) (fun c4 => ?_)
    · refine lv_iconst (v := (-1)) hx hb dX6_grow_34 (by decide) ?_
      exact hE (v := (-1)) () (by simp [a_grow, cg0, cg1, cg2, cg3, cg5, cg6, cg7, cg8, c2, c3, tn_nI (k := xq) (by omega)]) trivial (X.to (by simp [growG, addR, c2, c3, tn_nI (k := xq) (by omega)])) dX6_grow_35
    · obtain ⟨yq, hk_yq, rfl⟩ := ix_sp c4
      refine lv_iload_n hx hb dX6_grow_22 rfl (lv_at hl 1 rfl) ?_
      refine lv_iload_n hx hb dX6_grow_23 rfl (lv_at hl 2 rfl) ?_
      refine g_icmp_eq (x := xq) (y := yq) (tgt := 34) C0 (by omega) (by omega) dX6_grow_24 rfl (fun c5 => ?_) (fun c6 => ?_)
      · refine lv_iconst (v := (-1)) hx hb dX6_grow_34 (by decide) ?_
        exact hE (v := (-1)) () (by simp [a_grow, cg0, cg1, cg2, cg3, cg5, cg6, cg7, cg8, c2, c4, c5, tn_nI (k := xq) (by omega), tn_nI (k := yq) (by omega)]) trivial (X.to (by simp [growG, addR, c2, c4, c5, tn_nI (k := xq) (by omega), tn_nI (k := yq) (by omega)])) dX6_grow_35
      · refine lv_iload_n hx hb dX6_grow_27 rfl (lv_at hl 3 rfl) ?_
        refine g_callS (As := [.int z]) (rest := []) (wr := (lW a hL hT im bs rd hS sh kb rf ++ gW tk hL G d e)) (C0.sz hl) X (c_X6_isLength l D tk z) ⟨tb514, tb516, tb1, ⟨by decide, by decide, rfl⟩, rfl, rfl, Nat.le_of_ble_eq_true rfl, Nat.le_of_ble_eq_true rfl⟩ tb515 rfl [] [0, 1, 2, 3, 4, 5, 6, 7, 8, 9, 10] rfl rfl rfl rfl rfl (Nat.le_of_ble_eq_true rfl) ⟨Nat.le_of_ble_eq_true rfl, Nat.le_of_ble_eq_true rfl⟩ dX6_grow_28 (fun _ H locs _ X => ?_)
        have X : Hx D zA zs H locs (lW a hL hT im bs rd hS sh kb rf ++ gW tk hL G d e) := X
        refine g_ifneB (x := rg z 1 9) (tgt := 36) C0 dX6_grow_31 rfl (fun c7 => ?_) (fun c8 => ?_)
        · obtain ⟨zq, hk_zqa, hk_zqb, hk_zqc, rfl⟩ := rg_sp c7
          refine lv_aload_n hx hb dX6_grow_36 rfl (lv_at hl 0 rfl) ?_
          refine g_get (v := .ref (hL 0)) C0 X kX6 0 0 tb200 rfl rfl rfl dX6_grow_37 ?_
          refine lv_iload_n hx hb dX6_grow_40 rfl (lv_at hl 1 rfl) ?_
          refine lv_iload_n hx hb dX6_grow_41 rfl (lv_at hl 2 rfl) ?_
          refine lv_iload_n hx hb dX6_grow_42 rfl (lv_at hl 3 rfl) ?_
          by_cases c9 : G 8 1 < 9
          · refine g_callV (As := [.int (nI xq), .int (nI yq), .int (nI zq)]) (rest := []) (wr := (lW a hL hT im bs rd hS sh kb rf)) (C0.sz hl) X (c_X1_addRoot l D tk hL G d e xq yq zq (by first | assumption | omega)) ⟨tb521, tb368, tb2, ⟨by decide, by decide, rfl⟩, rfl, rfl, Nat.le_of_ble_eq_true rfl, Nat.le_of_ble_eq_true rfl⟩ tb366 tb367 1 1 rfl rfl rfl rfl [1, 2, 3, 4, 5, 6, 7, 8, 9, 10] [0] rfl rfl rfl rfl rfl (Nat.le_of_ble_eq_true rfl) ⟨Nat.le_of_ble_eq_true rfl, Nat.le_of_ble_eq_true rfl⟩ dX6_grow_43 (fun _ H locs _ X => ?_)
            have X : Hx D zA zs H locs (lW a hL hT im bs rd hS sh kb rf ++ gW tk hL (u2 (u2 (u2 (u2 G 1 (G 8 1) xq) 2 (G 8 1) yq) 3 (G 8 1) zq) 8 1 (G 8 1 + 1)) d e) := X
            exact hE (v := nI (G 8 1 + 1)) () (by simp [a_grow, cg0, cg1, cg2, cg3, cg5, cg6, cg7, cg8, c2, c4, c6, c7, c9, tn_nI (k := xq) (by omega), tn_nI (k := yq) (by omega), tn_nI (k := zq) (by omega)]) trivial (X.to (by simp [growG, addR, c2, c4, c6, c7, c9, tn_nI (k := xq) (by omega), tn_nI (k := yq) (by omega), tn_nI (k := zq) (by omega)])) dX6_grow_46
          · refine g_callV (As := [.int (nI xq), .int (nI yq), .int (nI zq)]) (rest := []) (wr := (lW a hL hT im bs rd hS sh kb rf)) (C0.sz hl) X (c_addRootF l D tk hL G d e xq yq zq (by first | assumption | omega)) ⟨tb521, tb368, tb2, ⟨by decide, by decide, rfl⟩, rfl, rfl, Nat.le_of_ble_eq_true rfl, Nat.le_of_ble_eq_true rfl⟩ tb366 tb367 1 1 rfl rfl rfl rfl [1, 2, 3, 4, 5, 6, 7, 8, 9, 10] [0] rfl rfl rfl rfl rfl (Nat.le_of_ble_eq_true rfl) ⟨Nat.le_of_ble_eq_true rfl, Nat.le_of_ble_eq_true rfl⟩ dX6_grow_43 (fun _ H locs _ X => ?_)
            have X : Hx D zA zs H locs (lW a hL hT im bs rd hS sh kb rf ++ gW tk hL G d e) := X
            exact hE (v := (-3)) () (by simp [a_grow, cg0, cg1, cg2, cg3, cg5, cg6, cg7, cg8, c2, c4, c6, c7, c9, tn_nI (k := xq) (by omega), tn_nI (k := yq) (by omega), tn_nI (k := zq) (by omega)]) trivial (X.to (by simp [growG, addR, c2, c4, c6, c7, c9, tn_nI (k := xq) (by omega), tn_nI (k := yq) (by omega), tn_nI (k := zq) (by omega)])) dX6_grow_46
        · refine lv_iconst (v := (-1)) hx hb dX6_grow_34 (by decide) ?_
          exact hE (v := (-1)) () (by simp [a_grow, cg0, cg1, cg2, cg3, cg5, cg6, cg7, cg8, c2, c4, c6, c8, tn_nI (k := xq) (by omega), tn_nI (k := yq) (by omega)]) trivial (X.to (by simp [growG, addR, c2, c4, c6, c8, tn_nI (k := xq) (by omega), tn_nI (k := yq) (by omega)])) dX6_grow_35
set_option maxHeartbeats 4000000 in
set_option maxRecDepth 100000 in
theorem c_X6_book (l : Launch) (D : va_G) (tk : Nat → ClassId) (a : Nat) (hL hT : Nat → Nat) (im bs rd : Nat) (hS : Nat → Nat) (sh kb rf : Nat) (G : Nat → Nat → Nat) (d e : Nat → Nat) (x y z : Int32) (hw : GW G) : MX l yX6_book cX6_book 4 (some .int) ⟨2, 0, 0, 43⟩ D (TYS tk) [.ref a, .int x, .int y, .int z] (lW a hL hT im bs rd hS sh kb rf ++ gW tk hL G d e) (fun (_ : Unit) => True) (fun _ => some (.int (a_book (cgv G) x y z))) (fun _ => lW a hL hT im bs rd hS sh kb rf ++ gW tk hL (bookG G x y z) d e) 0 0 := by
  refine MX.of_i (by decide) rfl ?_
  intro zp ze zs zm za zb zt zc zA zQ ls C0 hnm X hl hE
  have hx := C0.1
  have hb := C0.2.1
  have ht := C0.2.2.2.2.1
  have X : Hx D zA zs zs.heap [] (lW a hL hT im bs rd hS sh kb rf ++ gW tk hL G d e) := X
  have hl : lv_has ls 4 [(0, .ref a), (1, .int x), (2, .int y), (3, .int z)] := hl
  obtain ⟨hw1, hw2, hw3, hw4, hw5, hw6, hw7, hw8⟩ := id hw
  obtain ⟨H, hH⟩ : ∃ H, H = zs.heap := ⟨_, rfl⟩
  rw [← hH] at X ⊢
  obtain ⟨locs, hlo⟩ : ∃ L : List Loc, L = [] := ⟨_, rfl⟩
  rw [← hlo] at X ⊢
  refine lv_iload_n hx hb dX6_book_0 rfl (lv_at hl 1 rfl) ?_
  refine g_iconst (n := 0) C0 rfl dX6_book_1 ?_
  refine g_bipush (n := 23) C0 (by decide) dX6_book_2 ?_
  refine g_callS (As := [.int x, .int (nI 0), .int (nI 23)]) (rest := []) (wr := (lW a hL hT im bs rd hS sh kb rf ++ gW tk hL G d e)) (C0.sz hl) X (c_X6_within l D tk x (nI 0) (nI 23)) ⟨tb232, tb234, tb1, ⟨by decide, by decide, rfl⟩, rfl, rfl, Nat.le_of_ble_eq_true rfl, Nat.le_of_ble_eq_true rfl⟩ tb233 rfl [] [0, 1, 2, 3, 4, 5, 6, 7, 8, 9, 10] rfl rfl rfl rfl rfl (Nat.le_of_ble_eq_true rfl) ⟨Nat.le_of_ble_eq_true rfl, Nat.le_of_ble_eq_true rfl⟩ dX6_book_4 (fun _ H locs _ X => ?_)
  have X : Hx D zA zs H locs (lW a hL hT im bs rd hS sh kb rf ++ gW tk hL G d e) := X
  refine g_top (y := nI (rb (rg x 0 23))) (by rw [inI_rg x (by first | decide | omega) (by first | decide | omega)]) ?_
  refine g_ifeqB (x := rg x 0 23) (tgt := 28) C0 dX6_book_7 rfl (fun c1 => ?_) (fun c2 => ?_)
  · refine lv_iconst (v := (-1)) hx hb dX6_book_28 (by decide) ?_
    exact hE (v := (-1)) () (by simp [a_book, cg0, cg1, cg2, cg3, cg5, cg6, cg7, cg8, c1]) trivial (X.to (by simp [bookG, c1])) dX6_book_29
  · obtain ⟨xq, hk_xqa, hk_xqb, hk_xqc, rfl⟩ := rg_sp c2
    refine lv_aload_n hx hb dX6_book_10 rfl (lv_at hl 0 rfl) ?_
    refine g_get (v := .ref (hL 0)) C0 X kX6 0 0 tb200 rfl rfl rfl dX6_book_11 ?_
    refine lv_iload_n hx hb dX6_book_14 rfl (lv_at hl 2 rfl) ?_
    refine g_callV (As := [.int y]) (rest := []) (wr := (lW a hL hT im bs rd hS sh kb rf)) (C0.sz hl) X (c_X1_hasTree l D tk hL G d e y (by first | assumption | omega)) ⟨tb456, tb390, tb2, ⟨by decide, by decide, rfl⟩, rfl, rfl, Nat.le_of_ble_eq_true rfl, Nat.le_of_ble_eq_true rfl⟩ tb388 tb389 1 1 rfl rfl rfl rfl [1, 2, 3, 4, 5, 6, 7, 8, 9, 10] [0] rfl rfl rfl rfl rfl (Nat.le_of_ble_eq_true rfl) ⟨Nat.le_of_ble_eq_true rfl, Nat.le_of_ble_eq_true rfl⟩ dX6_book_15 (fun _ H locs _ X => ?_)
    have X : Hx D zA zs H locs (lW a hL hT im bs rd hS sh kb rf ++ gW tk hL G d e) := X
    refine g_ifeqB (x := ix y (G 8 0)) (tgt := 28) C0 dX6_book_18 rfl (fun c3 => ?_) (fun c4 => ?_)
    · refine lv_iconst (v := (-1)) hx hb dX6_book_28 (by decide) ?_
      exact hE (v := (-1)) () (by simp [a_book, cg0, cg1, cg2, cg3, cg5, cg6, cg7, cg8, c2, c3, tn_nI (k := xq) (by omega)]) trivial (X.to (by simp [bookG, c2, c3, tn_nI (k := xq) (by omega)])) dX6_book_29
    · obtain ⟨yq, hk_yq, rfl⟩ := ix_sp c4
      refine lv_iload_n hx hb dX6_book_21 rfl (lv_at hl 3 rfl) ?_
      refine g_callS (As := [.int z]) (rest := []) (wr := (lW a hL hT im bs rd hS sh kb rf ++ gW tk hL G d e)) (C0.sz hl) X (c_X6_isBreath l D tk z) ⟨tb499, tb501, tb1, ⟨by decide, by decide, rfl⟩, rfl, rfl, Nat.le_of_ble_eq_true rfl, Nat.le_of_ble_eq_true rfl⟩ tb500 rfl [] [0, 1, 2, 3, 4, 5, 6, 7, 8, 9, 10] rfl rfl rfl rfl rfl (Nat.le_of_ble_eq_true rfl) ⟨Nat.le_of_ble_eq_true rfl, Nat.le_of_ble_eq_true rfl⟩ dX6_book_22 (fun _ H locs _ X => ?_)
      have X : Hx D zA zs H locs (lW a hL hT im bs rd hS sh kb rf ++ gW tk hL G d e) := X
      refine g_ifneB (x := rg z 1 60) (tgt := 30) C0 dX6_book_25 rfl (fun c5 => ?_) (fun c6 => ?_)
      · obtain ⟨zq, hk_zqa, hk_zqb, hk_zqc, rfl⟩ := rg_sp c5
        refine lv_aload_n hx hb dX6_book_30 rfl (lv_at hl 0 rfl) ?_
        refine g_get (v := .ref (hL 0)) C0 X kX6 0 0 tb200 rfl rfl rfl dX6_book_31 ?_
        refine lv_iload_n hx hb dX6_book_34 rfl (lv_at hl 1 rfl) ?_
        refine lv_iload_n hx hb dX6_book_35 rfl (lv_at hl 2 rfl) ?_
        refine lv_iload_n hx hb dX6_book_36 rfl (lv_at hl 3 rfl) ?_
        by_cases c7 : G 8 3 < 6
        · refine g_callV (As := [.int (nI xq), .int (nI yq), .int (nI zq)]) (rest := []) (wr := (lW a hL hT im bs rd hS sh kb rf)) (C0.sz hl) X (c_X1_addTalk l D tk hL G d e xq yq zq (by first | assumption | omega)) ⟨tb534, tb382, tb2, ⟨by decide, by decide, rfl⟩, rfl, rfl, Nat.le_of_ble_eq_true rfl, Nat.le_of_ble_eq_true rfl⟩ tb380 tb381 1 1 rfl rfl rfl rfl [1, 2, 3, 4, 5, 6, 7, 8, 9, 10] [0] rfl rfl rfl rfl rfl (Nat.le_of_ble_eq_true rfl) ⟨Nat.le_of_ble_eq_true rfl, Nat.le_of_ble_eq_true rfl⟩ dX6_book_37 (fun _ H locs _ X => ?_)
          have X : Hx D zA zs H locs (lW a hL hT im bs rd hS sh kb rf ++ gW tk hL (u2 (u2 (u2 (u2 G 5 (G 8 3) xq) 6 (G 8 3) yq) 7 (G 8 3) zq) 8 3 (G 8 3 + 1)) d e) := X
          exact hE (v := nI (G 8 3 + 1)) () (by simp [a_book, cg0, cg1, cg2, cg3, cg5, cg6, cg7, cg8, c2, c4, c5, c7, tn_nI (k := xq) (by omega), tn_nI (k := yq) (by omega), tn_nI (k := zq) (by omega), show G 8 3 ≠ 6 by omega]) trivial (X.to (by simp [bookG, addT, c2, c4, c5, c7, tn_nI (k := xq) (by omega), tn_nI (k := yq) (by omega), tn_nI (k := zq) (by omega)])) dX6_book_40
        · refine g_callV (As := [.int (nI xq), .int (nI yq), .int (nI zq)]) (rest := []) (wr := (lW a hL hT im bs rd hS sh kb rf)) (C0.sz hl) X (c_addTalkF l D tk hL G d e xq yq zq (by first | assumption | omega)) ⟨tb534, tb382, tb2, ⟨by decide, by decide, rfl⟩, rfl, rfl, Nat.le_of_ble_eq_true rfl, Nat.le_of_ble_eq_true rfl⟩ tb380 tb381 1 1 rfl rfl rfl rfl [1, 2, 3, 4, 5, 6, 7, 8, 9, 10] [0] rfl rfl rfl rfl rfl (Nat.le_of_ble_eq_true rfl) ⟨Nat.le_of_ble_eq_true rfl, Nat.le_of_ble_eq_true rfl⟩ dX6_book_37 (fun _ H locs _ X => ?_)
          have X : Hx D zA zs H locs (lW a hL hT im bs rd hS sh kb rf ++ gW tk hL G d e) := X
          exact hE (v := (-3)) () (by simp [a_book, cg0, cg1, cg2, cg3, cg5, cg6, cg7, cg8, c2, c4, c5, c7, tn_nI (k := xq) (by omega), tn_nI (k := yq) (by omega), tn_nI (k := zq) (by omega), show G 8 3 = 6 by omega]) trivial (X.to (by simp [bookG, addT, c2, c4, c5, c7, tn_nI (k := xq) (by omega), tn_nI (k := yq) (by omega), tn_nI (k := zq) (by omega)])) dX6_book_40
      · refine lv_iconst (v := (-1)) hx hb dX6_book_28 (by decide) ?_
        exact hE (v := (-1)) () (by simp [a_book, cg0, cg1, cg2, cg3, cg5, cg6, cg7, cg8, c2, c4, c6, tn_nI (k := xq) (by omega), tn_nI (k := yq) (by omega)]) trivial (X.to (by simp [bookG, c2, c4, c6, tn_nI (k := xq) (by omega), tn_nI (k := yq) (by omega)])) dX6_book_29
set_option maxHeartbeats 4000000 in
set_option maxRecDepth 100000 in
theorem c_X6_shift (l : Launch) (D : va_G) (tk : Nat → ClassId) (a : Nat) (hL hT : Nat → Nat) (im bs rd : Nat) (hS : Nat → Nat) (sh kb rf : Nat) (G : Nat → Nat → Nat) (d e : Nat → Nat) (x y z : Int32) (hw : GW G) : MX l yX6_shift cX6_shift 4 (some .int) ⟨2, 0, 0, 43⟩ D (TYS tk) [.ref a, .int x, .int y, .int z] (lW a hL hT im bs rd hS sh kb rf ++ gW tk hL G d e) (fun (_ : Unit) => True) (fun _ => some (.int (a_shift (cgv G) x y z))) (fun _ => lW a hL hT im bs rd hS sh kb rf ++ gW tk hL (shiftG G x y z) d e) 0 0 := by
  refine MX.of_i (by decide) rfl ?_
  intro zp ze zs zm za zb zt zc zA zQ ls C0 hnm X hl hE
  have hx := C0.1
  have hb := C0.2.1
  have ht := C0.2.2.2.2.1
  have X : Hx D zA zs zs.heap [] (lW a hL hT im bs rd hS sh kb rf ++ gW tk hL G d e) := X
  have hl : lv_has ls 4 [(0, .ref a), (1, .int x), (2, .int y), (3, .int z)] := hl
  obtain ⟨hw1, hw2, hw3, hw4, hw5, hw6, hw7, hw8⟩ := id hw
  obtain ⟨H, hH⟩ : ∃ H, H = zs.heap := ⟨_, rfl⟩
  rw [← hH] at X ⊢
  obtain ⟨locs, hlo⟩ : ∃ L : List Loc, L = [] := ⟨_, rfl⟩
  rw [← hlo] at X ⊢
  refine lv_aload_n hx hb dX6_shift_0 rfl (lv_at hl 0 rfl) ?_
  refine g_get (v := .ref (hL 0)) C0 X kX6 0 0 tb200 rfl rfl rfl dX6_shift_1 ?_
  refine lv_iload_n hx hb dX6_shift_4 rfl (lv_at hl 1 rfl) ?_
  refine g_callV (As := [.int x]) (rest := []) (wr := (lW a hL hT im bs rd hS sh kb rf)) (C0.sz hl) X (c_X1_hasTalk l D tk hL G d e x (by first | assumption | omega)) ⟨tb482, tb485, tb2, ⟨by decide, by decide, rfl⟩, rfl, rfl, Nat.le_of_ble_eq_true rfl, Nat.le_of_ble_eq_true rfl⟩ tb483 tb484 1 1 rfl rfl rfl rfl [1, 2, 3, 4, 5, 6, 7, 8, 9, 10] [0] rfl rfl rfl rfl rfl (Nat.le_of_ble_eq_true rfl) ⟨Nat.le_of_ble_eq_true rfl, Nat.le_of_ble_eq_true rfl⟩ dX6_shift_5 (fun _ H locs _ X => ?_)
  have X : Hx D zA zs H locs (lW a hL hT im bs rd hS sh kb rf ++ gW tk hL G d e) := X
  refine g_ifneB (x := ix x (G 8 3)) (tgt := 13) C0 dX6_shift_8 rfl (fun c1 => ?_) (fun c2 => ?_)
  · obtain ⟨xq, hk_xq, rfl⟩ := ix_sp c1
    refine lv_iload_n hx hb dX6_shift_13 rfl (lv_at hl 2 rfl) ?_
    by_cases c3 : y = nI 0
    · refine g_swIn (k := 0) (lo' := 0) (tgt := 40) C0 (c3) rfl rfl dX6_shift_14 rfl rfl rfl rfl ?_
      refine lv_iload_n hx hb dX6_shift_40 rfl (lv_at hl 3 rfl) ?_
      refine g_iconst (n := 0) C0 rfl dX6_shift_41 ?_
      refine g_bipush (n := 23) C0 (by decide) dX6_shift_42 ?_
      refine g_callS (As := [.int z, .int (nI 0), .int (nI 23)]) (rest := []) (wr := (lW a hL hT im bs rd hS sh kb rf ++ gW tk hL G d e)) (C0.sz hl) X (c_X6_within l D tk z (nI 0) (nI 23)) ⟨tb232, tb234, tb1, ⟨by decide, by decide, rfl⟩, rfl, rfl, Nat.le_of_ble_eq_true rfl, Nat.le_of_ble_eq_true rfl⟩ tb233 rfl [] [0, 1, 2, 3, 4, 5, 6, 7, 8, 9, 10] rfl rfl rfl rfl rfl (Nat.le_of_ble_eq_true rfl) ⟨Nat.le_of_ble_eq_true rfl, Nat.le_of_ble_eq_true rfl⟩ dX6_shift_44 (fun _ H locs _ X => ?_)
      have X : Hx D zA zs H locs (lW a hL hT im bs rd hS sh kb rf ++ gW tk hL G d e) := X
      refine g_top (y := nI (rb (rg z 0 23))) (by rw [inI_rg z (by first | decide | omega) (by first | decide | omega)]) ?_
      refine g_ifeqB (x := rg z 0 23) (tgt := 65) C0 dX6_shift_47 rfl (fun c4 => ?_) (fun c5 => ?_)
      · refine lv_iconst (v := (-1)) hx hb dX6_shift_65 (by decide) ?_
        exact hE (v := (-1)) () (by simp only [a_shift, cg0, cg1, cg2, cg3, cg5, cg6, cg7, cg8, c1, c4, if_pos c3, tn_nI (k := xq) (by omega), if_true, if_false, Bool.false_eq_true, Bool.and_self, Bool.and_true, Bool.and_false, Bool.true_and, Bool.false_and]) trivial (X.to (by simp only [shiftG, c1, c4, if_pos c3, tn_nI (k := xq) (by omega), if_true, if_false, Bool.false_eq_true])) dX6_shift_66
      · obtain ⟨zq, hk_zqa, hk_zqb, hk_zqc, rfl⟩ := rg_sp c5
        refine lv_aload_n hx hb dX6_shift_50 rfl (lv_at hl 0 rfl) ?_
        refine g_get (v := .ref (hL 0)) C0 X kX6 0 0 tb200 rfl rfl rfl dX6_shift_51 ?_
        refine g_get (v := .ref (hL 5)) C0 X kX1 1 9 tb55 rfl rfl rfl dX6_shift_54 ?_
        refine lv_iload_n hx hb dX6_shift_57 rfl (lv_at hl 1 rfl) ?_
        refine lv_iload_n hx hb dX6_shift_58 rfl (lv_at hl 3 rfl) ?_
        refine g_callS (As := [.ref (hL 5), .int (nI xq), .int (nI zq)]) (rest := []) (wr := (lW a hL hT im bs rd hS sh kb rf)) (C0.sz hl) X (c_exH l D tk hL G d e xq zq (by first | assumption | omega)) ⟨tb507, tb509, tb1, ⟨by decide, by decide, rfl⟩, rfl, rfl, Nat.le_of_ble_eq_true rfl, Nat.le_of_ble_eq_true rfl⟩ tb508 rfl [1, 2, 3, 4, 5, 6, 7, 8, 9, 10] [0] rfl rfl rfl rfl rfl (Nat.le_of_ble_eq_true rfl) ⟨Nat.le_of_ble_eq_true rfl, Nat.le_of_ble_eq_true rfl⟩ dX6_shift_59 (fun _ H locs _ X => ?_)
        have X : Hx D zA zs H locs (lW a hL hT im bs rd hS sh kb rf ++ gW tk hL (u2 G 5 xq zq) d e) := X
        refine lv_goto (tgt := 66) hx hb dX6_shift_62 (by decide) ?_
        exact hE (v := nI (G 5 xq)) () (by simp only [a_shift, cg0, cg1, cg2, cg3, cg5, cg6, cg7, cg8, c1, c5, if_pos c3, tn_nI (k := xq) (by omega), tn_nI (k := zq) (by omega), if_true, if_false, Bool.false_eq_true, Bool.and_self, Bool.and_true, Bool.and_false, Bool.true_and, Bool.false_and]) trivial (X.to (by simp only [shiftG, c1, c5, if_pos c3, tn_nI (k := xq) (by omega), tn_nI (k := zq) (by omega), if_true, if_false, Bool.false_eq_true])) dX6_shift_66
    by_cases c6 : y = nI 1
    · refine g_swIn (k := 1) (lo' := 0) (tgt := 67) C0 (c6) rfl rfl dX6_shift_14 rfl rfl rfl rfl ?_
      refine lv_aload_n hx hb dX6_shift_67 rfl (lv_at hl 0 rfl) ?_
      refine g_get (v := .ref (hL 0)) C0 X kX6 0 0 tb200 rfl rfl rfl dX6_shift_68 ?_
      refine lv_iload_n hx hb dX6_shift_71 rfl (lv_at hl 3 rfl) ?_
      refine g_callV (As := [.int z]) (rest := []) (wr := (lW a hL hT im bs rd hS sh kb rf)) (C0.sz hl) X (c_X1_hasTree l D tk hL G d e z (by first | assumption | omega)) ⟨tb456, tb390, tb2, ⟨by decide, by decide, rfl⟩, rfl, rfl, Nat.le_of_ble_eq_true rfl, Nat.le_of_ble_eq_true rfl⟩ tb388 tb389 1 1 rfl rfl rfl rfl [1, 2, 3, 4, 5, 6, 7, 8, 9, 10] [0] rfl rfl rfl rfl rfl (Nat.le_of_ble_eq_true rfl) ⟨Nat.le_of_ble_eq_true rfl, Nat.le_of_ble_eq_true rfl⟩ dX6_shift_72 (fun _ H locs _ X => ?_)
      have X : Hx D zA zs H locs (lW a hL hT im bs rd hS sh kb rf ++ gW tk hL G d e) := X
      refine g_ifeqB (x := ix z (G 8 0)) (tgt := 93) C0 dX6_shift_75 rfl (fun c7 => ?_) (fun c8 => ?_)
      · refine lv_iconst (v := (-1)) hx hb dX6_shift_93 (by decide) ?_
        exact hE (v := (-1)) () (by simp only [a_shift, cg0, cg1, cg2, cg3, cg5, cg6, cg7, cg8, c1, c7, if_neg c3, if_pos c6, tn_nI (k := xq) (by omega), if_true, if_false, Bool.false_eq_true, Bool.and_self, Bool.and_true, Bool.and_false, Bool.true_and, Bool.false_and]) trivial (X.to (by simp only [shiftG, c1, c7, if_neg c3, if_pos c6, tn_nI (k := xq) (by omega), if_true, if_false, Bool.false_eq_true])) dX6_shift_94
      · obtain ⟨zq, hk_zq, rfl⟩ := ix_sp c8
        refine lv_aload_n hx hb dX6_shift_78 rfl (lv_at hl 0 rfl) ?_
        refine g_get (v := .ref (hL 0)) C0 X kX6 0 0 tb200 rfl rfl rfl dX6_shift_79 ?_
        refine g_get (v := .ref (hL 6)) C0 X kX1 1 10 tb57 rfl rfl rfl dX6_shift_82 ?_
        refine lv_iload_n hx hb dX6_shift_85 rfl (lv_at hl 1 rfl) ?_
        refine lv_iload_n hx hb dX6_shift_86 rfl (lv_at hl 3 rfl) ?_
        refine g_callS (As := [.ref (hL 6), .int (nI xq), .int (nI zq)]) (rest := []) (wr := (lW a hL hT im bs rd hS sh kb rf)) (C0.sz hl) X (c_exS l D tk hL G d e xq zq (by first | assumption | omega)) ⟨tb507, tb509, tb1, ⟨by decide, by decide, rfl⟩, rfl, rfl, Nat.le_of_ble_eq_true rfl, Nat.le_of_ble_eq_true rfl⟩ tb508 rfl [1, 2, 3, 4, 5, 6, 7, 8, 9, 10] [0] rfl rfl rfl rfl rfl (Nat.le_of_ble_eq_true rfl) ⟨Nat.le_of_ble_eq_true rfl, Nat.le_of_ble_eq_true rfl⟩ dX6_shift_87 (fun _ H locs _ X => ?_)
        have X : Hx D zA zs H locs (lW a hL hT im bs rd hS sh kb rf ++ gW tk hL (u2 G 6 xq zq) d e) := X
        refine lv_goto (tgt := 94) hx hb dX6_shift_90 (by decide) ?_
        exact hE (v := nI (G 6 xq)) () (by simp only [a_shift, cg0, cg1, cg2, cg3, cg5, cg6, cg7, cg8, c1, c8, if_neg c3, if_pos c6, tn_nI (k := xq) (by omega), tn_nI (k := zq) (by omega), if_true, if_false, Bool.false_eq_true, Bool.and_self, Bool.and_true, Bool.and_false, Bool.true_and, Bool.false_and]) trivial (X.to (by simp only [shiftG, c1, c8, if_neg c3, if_pos c6, tn_nI (k := xq) (by omega), tn_nI (k := zq) (by omega), if_true, if_false, Bool.false_eq_true])) dX6_shift_94
    by_cases c9 : y = nI 2
    · refine g_swIn (k := 2) (lo' := 0) (tgt := 95) C0 (c9) rfl rfl dX6_shift_14 rfl rfl rfl rfl ?_
      refine lv_iload_n hx hb dX6_shift_95 rfl (lv_at hl 3 rfl) ?_
      refine g_callS (As := [.int z]) (rest := []) (wr := (lW a hL hT im bs rd hS sh kb rf ++ gW tk hL G d e)) (C0.sz hl) X (c_X6_isBreath l D tk z) ⟨tb499, tb501, tb1, ⟨by decide, by decide, rfl⟩, rfl, rfl, Nat.le_of_ble_eq_true rfl, Nat.le_of_ble_eq_true rfl⟩ tb500 rfl [] [0, 1, 2, 3, 4, 5, 6, 7, 8, 9, 10] rfl rfl rfl rfl rfl (Nat.le_of_ble_eq_true rfl) ⟨Nat.le_of_ble_eq_true rfl, Nat.le_of_ble_eq_true rfl⟩ dX6_shift_96 (fun _ H locs _ X => ?_)
      have X : Hx D zA zs H locs (lW a hL hT im bs rd hS sh kb rf ++ gW tk hL G d e) := X
      refine g_ifeqB (x := rg z 1 60) (tgt := 117) C0 dX6_shift_99 rfl (fun c10 => ?_) (fun c11 => ?_)
      · refine lv_iconst (v := (-1)) hx hb dX6_shift_117 (by decide) ?_
        exact hE (v := (-1)) () (by simp only [a_shift, cg0, cg1, cg2, cg3, cg5, cg6, cg7, cg8, c1, c10, if_neg c3, if_neg c6, if_pos c9, tn_nI (k := xq) (by omega), if_true, if_false, Bool.false_eq_true, Bool.and_self, Bool.and_true, Bool.and_false, Bool.true_and, Bool.false_and]) trivial (X.to (by simp only [shiftG, c1, c10, if_neg c3, if_neg c6, if_pos c9, tn_nI (k := xq) (by omega), if_true, if_false, Bool.false_eq_true])) dX6_shift_118
      · obtain ⟨zq, hk_zqa, hk_zqb, hk_zqc, rfl⟩ := rg_sp c11
        refine lv_aload_n hx hb dX6_shift_102 rfl (lv_at hl 0 rfl) ?_
        refine g_get (v := .ref (hL 0)) C0 X kX6 0 0 tb200 rfl rfl rfl dX6_shift_103 ?_
        refine g_get (v := .ref (hL 7)) C0 X kX1 1 11 tb59 rfl rfl rfl dX6_shift_106 ?_
        refine lv_iload_n hx hb dX6_shift_109 rfl (lv_at hl 1 rfl) ?_
        refine lv_iload_n hx hb dX6_shift_110 rfl (lv_at hl 3 rfl) ?_
        refine g_callS (As := [.ref (hL 7), .int (nI xq), .int (nI zq)]) (rest := []) (wr := (lW a hL hT im bs rd hS sh kb rf)) (C0.sz hl) X (c_exB l D tk hL G d e xq zq (by first | assumption | omega)) ⟨tb507, tb509, tb1, ⟨by decide, by decide, rfl⟩, rfl, rfl, Nat.le_of_ble_eq_true rfl, Nat.le_of_ble_eq_true rfl⟩ tb508 rfl [1, 2, 3, 4, 5, 6, 7, 8, 9, 10] [0] rfl rfl rfl rfl rfl (Nat.le_of_ble_eq_true rfl) ⟨Nat.le_of_ble_eq_true rfl, Nat.le_of_ble_eq_true rfl⟩ dX6_shift_111 (fun _ H locs _ X => ?_)
        have X : Hx D zA zs H locs (lW a hL hT im bs rd hS sh kb rf ++ gW tk hL (u2 G 7 xq zq) d e) := X
        refine lv_goto (tgt := 118) hx hb dX6_shift_114 (by decide) ?_
        exact hE (v := nI (G 7 xq)) () (by simp only [a_shift, cg0, cg1, cg2, cg3, cg5, cg6, cg7, cg8, c1, c11, if_neg c3, if_neg c6, if_pos c9, tn_nI (k := xq) (by omega), tn_nI (k := zq) (by omega), if_true, if_false, Bool.false_eq_true, Bool.and_self, Bool.and_true, Bool.and_false, Bool.true_and, Bool.false_and]) trivial (X.to (by simp only [shiftG, c1, c11, if_neg c3, if_neg c6, if_pos c9, tn_nI (k := xq) (by omega), tn_nI (k := zq) (by omega), if_true, if_false, Bool.false_eq_true])) dX6_shift_118
    refine g_swOut (n := 3) (lo' := 0) (tgt := 119) C0 (by intro j hj1 hj; rcases (show j = 0 ∨ j = 1 ∨ j = 2 by omega) with rfl | rfl | rfl <;> assumption) rfl dX6_shift_14 rfl rfl rfl ?_
    refine lv_iconst (v := (-1)) hx hb dX6_shift_119 (by decide) ?_
    exact hE (v := (-1)) () (by simp only [a_shift, cg0, cg1, cg2, cg3, cg5, cg6, cg7, cg8, c1, if_neg c3, if_neg c6, if_neg c9, tn_nI (k := xq) (by omega), if_true, if_false, Bool.false_eq_true, Bool.and_self, Bool.and_true, Bool.and_false, Bool.true_and, Bool.false_and]) trivial (X.to (by simp only [shiftG, c1, if_neg c3, if_neg c6, if_neg c9, tn_nI (k := xq) (by omega), if_true, if_false, Bool.false_eq_true])) dX6_shift_120
  · refine lv_iconst (v := (-1)) hx hb dX6_shift_11 (by decide) ?_
    exact hE (v := (-1)) () (by simp only [a_shift, cg0, cg1, cg2, cg3, cg5, cg6, cg7, cg8, c2, if_true, if_false, Bool.false_eq_true, Bool.and_self, Bool.and_true, Bool.and_false, Bool.true_and, Bool.false_and]) trivial (X.to (by simp only [shiftG, c2, if_true, if_false, Bool.false_eq_true])) dX6_shift_12
set_option maxHeartbeats 4000000 in
set_option maxRecDepth 100000 in
theorem c_X6_crossed (l : Launch) (D : va_G) (tk : Nat → ClassId) (a : Nat) (hL hT : Nat → Nat) (im bs rd : Nat) (hS : Nat → Nat) (sh kb rf : Nat) (G : Nat → Nat → Nat) (d e : Nat → Nat) (x y : Int32) (hw : GW G) : MX l yX6_crossed cX6_crossed 3 (some .int) ⟨4, 0, 0, 110⟩ D (TYS tk) [.ref a, .int x, .int y] (lW a hL hT im bs rd hS sh kb rf ++ gW tk hL G d e) (fun (u : (Nat → Nat) × (Nat → Nat)) => True) (fun u => some (.int (a_crossed (cgv G) x y))) (fun u => lW a hL hT im bs rd hS sh kb rf ++ gW tk hL G u.1 u.2) 0 0 := by
  refine MX.of_i (by decide) rfl ?_
  intro zp ze zs zm za zb zt zc zA zQ ls C0 hnm X hl hE
  have hx := C0.1
  have hb := C0.2.1
  have ht := C0.2.2.2.2.1
  have X : Hx D zA zs zs.heap [] (lW a hL hT im bs rd hS sh kb rf ++ gW tk hL G d e) := X
  have hl : lv_has ls 3 [(0, .ref a), (1, .int x), (2, .int y)] := hl
  obtain ⟨hw1, hw2, hw3, hw4, hw5, hw6, hw7, hw8⟩ := id hw
  obtain ⟨H, hH⟩ : ∃ H, H = zs.heap := ⟨_, rfl⟩
  rw [← hH] at X ⊢
  obtain ⟨locs, hlo⟩ : ∃ L : List Loc, L = [] := ⟨_, rfl⟩
  rw [← hlo] at X ⊢
  refine lv_aload_n hx hb dX6_crossed_0 rfl (lv_at hl 0 rfl) ?_
  refine g_get (v := .ref (hL 0)) C0 X kX6 0 0 tb200 rfl rfl rfl dX6_crossed_1 ?_
  refine lv_iload_n hx hb dX6_crossed_4 rfl (lv_at hl 1 rfl) ?_
  refine g_callV (As := [.int x]) (rest := []) (wr := (lW a hL hT im bs rd hS sh kb rf)) (C0.sz hl) X (c_X1_hasTalk l D tk hL G d e x (by first | assumption | omega)) ⟨tb482, tb485, tb2, ⟨by decide, by decide, rfl⟩, rfl, rfl, Nat.le_of_ble_eq_true rfl, Nat.le_of_ble_eq_true rfl⟩ tb483 tb484 1 1 rfl rfl rfl rfl [1, 2, 3, 4, 5, 6, 7, 8, 9, 10] [0] rfl rfl rfl rfl rfl (Nat.le_of_ble_eq_true rfl) ⟨Nat.le_of_ble_eq_true rfl, Nat.le_of_ble_eq_true rfl⟩ dX6_crossed_5 (fun _ H locs _ X => ?_)
  have X : Hx D zA zs H locs (lW a hL hT im bs rd hS sh kb rf ++ gW tk hL G d e) := X
  refine g_ifeqB (x := ix x (G 8 3)) (tgt := 27) C0 dX6_crossed_8 rfl (fun c1 => ?_) (fun c2 => ?_)
  · refine lv_iconst (v := (-1)) hx hb dX6_crossed_27 (by decide) ?_
    exact hE (v := (-1)) (d, e) (by simp [a_crossed, cg0, cg1, cg2, cg3, cg5, cg6, cg7, cg8, c1]) trivial X dX6_crossed_28
  · obtain ⟨xq, hk_xq, rfl⟩ := ix_sp c2
    refine lv_aload_n hx hb dX6_crossed_11 rfl (lv_at hl 0 rfl) ?_
    refine g_get (v := .ref (hL 0)) C0 X kX6 0 0 tb200 rfl rfl rfl dX6_crossed_12 ?_
    refine lv_iload_n hx hb dX6_crossed_15 rfl (lv_at hl 2 rfl) ?_
    refine g_callV (As := [.int y]) (rest := []) (wr := (lW a hL hT im bs rd hS sh kb rf)) (C0.sz hl) X (c_X1_hasTalk l D tk hL G d e y (by first | assumption | omega)) ⟨tb482, tb485, tb2, ⟨by decide, by decide, rfl⟩, rfl, rfl, Nat.le_of_ble_eq_true rfl, Nat.le_of_ble_eq_true rfl⟩ tb483 tb484 1 1 rfl rfl rfl rfl [1, 2, 3, 4, 5, 6, 7, 8, 9, 10] [0] rfl rfl rfl rfl rfl (Nat.le_of_ble_eq_true rfl) ⟨Nat.le_of_ble_eq_true rfl, Nat.le_of_ble_eq_true rfl⟩ dX6_crossed_16 (fun _ H locs _ X => ?_)
    have X : Hx D zA zs H locs (lW a hL hT im bs rd hS sh kb rf ++ gW tk hL G d e) := X
    refine g_ifeqB (x := ix y (G 8 3)) (tgt := 27) C0 dX6_crossed_19 rfl (fun c3 => ?_) (fun c4 => ?_)
    · refine lv_iconst (v := (-1)) hx hb dX6_crossed_27 (by decide) ?_
      exact hE (v := (-1)) (d, e) (by simp [a_crossed, cg0, cg1, cg2, cg3, cg5, cg6, cg7, cg8, c2, c3, tn_nI (k := xq) (by omega)]) trivial X dX6_crossed_28
    · obtain ⟨yq, hk_yq, rfl⟩ := ix_sp c4
      refine lv_iload_n hx hb dX6_crossed_22 rfl (lv_at hl 1 rfl) ?_
      refine lv_iload_n hx hb dX6_crossed_23 rfl (lv_at hl 2 rfl) ?_
      refine g_icmp_ne (x := xq) (y := yq) (tgt := 29) C0 (by omega) (by omega) dX6_crossed_24 rfl (fun c5 => ?_) (fun c6 => ?_)
      · refine lv_aload_n hx hb dX6_crossed_29 rfl (lv_at hl 0 rfl) ?_
        refine g_get (v := .ref (hL 0)) C0 X kX6 0 0 tb200 rfl rfl rfl dX6_crossed_30 ?_
        refine lv_iload_n hx hb dX6_crossed_33 rfl (lv_at hl 1 rfl) ?_
        refine lv_iload_n hx hb dX6_crossed_34 rfl (lv_at hl 2 rfl) ?_
        refine lv_aload_n hx hb dX6_crossed_35 rfl (lv_at hl 0 rfl) ?_
        refine g_get (v := .ref (hL 0)) C0 X kX6 0 0 tb200 rfl rfl rfl dX6_crossed_36 ?_
        refine g_callV (As := []) (rest := [.int (nI yq), .int (nI xq), .ref (hL 0)]) (wr := (lW a hL hT im bs rd hS sh kb rf)) (C0.sz hl) X (c_X1_listen l D tk hL G d e (by first | assumption | omega)) ⟨tb555, tb418, tb2, ⟨by decide, by decide, rfl⟩, rfl, rfl, Nat.le_of_ble_eq_true rfl, Nat.le_of_ble_eq_true rfl⟩ tb416 tb417 1 1 rfl rfl rfl rfl [1, 2, 3, 4, 5, 6, 7, 8, 9, 10] [0] rfl rfl rfl rfl rfl (Nat.le_of_ble_eq_true rfl) ⟨Nat.le_of_ble_eq_true rfl, Nat.le_of_ble_eq_true rfl⟩ dX6_crossed_39 (fun uq7 H locs hp8 X => ?_)
        have X : Hx D zA zs H locs (lW a hL hT im bs rd hS sh kb rf ++ gW tk hL G uq7.1 uq7.2) := X
        have hp8 : ∀ j, j < G 8 3 → uq7.2 j = heardS (cgv G) j := hp8
        refine g_callV (As := [.int (nI xq), .int (nI yq), .ref (hL 9)]) (rest := []) (wr := (lW a hL hT im bs rd hS sh kb rf)) (C0.sz hl) X (c_X1_areCrossed l D tk hL G uq7.1 uq7.2 xq yq (by omega) (by omega) (by omega) (by intro j hj; rw [hp8 j hj]; exact heardS_lt (cgv G) j hw1)) ⟨tb556, tb451, tb2, ⟨by decide, by decide, rfl⟩, rfl, rfl, Nat.le_of_ble_eq_true rfl, Nat.le_of_ble_eq_true rfl⟩ tb449 tb450 1 1 rfl rfl rfl rfl [1, 2, 3, 4, 5, 6, 7, 8, 9, 10] [0] rfl rfl rfl rfl rfl (Nat.le_of_ble_eq_true rfl) ⟨Nat.le_of_ble_eq_true rfl, Nat.le_of_ble_eq_true rfl⟩ dX6_crossed_42 (fun _ H locs _ X => ?_)
        have X : Hx D zA zs H locs (lW a hL hT im bs rd hS sh kb rf ++ gW tk hL G uq7.1 uq7.2) := X
        refine g_ifeqB (x := crossE G uq7.2 xq yq) (tgt := 52) C0 dX6_crossed_45 rfl (fun c9 => ?_) (fun c10 => ?_)
        · refine g_iconst (n := 0) C0 rfl dX6_crossed_52 ?_
          exact hE (v := nI 0) (uq7.1, uq7.2) (by simp [a_crossed, cg0, cg1, cg2, cg3, cg5, cg6, cg7, cg8, c2, c4, c5, tn_nI (k := xq) (by omega), tn_nI (k := yq) (by omega), cross_c hp8 c9 (by omega) (by omega)]; rfl) trivial X dX6_crossed_53
        · refine g_iconst (n := 1) C0 rfl dX6_crossed_48 ?_
          refine lv_goto (tgt := 53) hx hb dX6_crossed_49 (by decide) ?_
          exact hE (v := nI 1) (uq7.1, uq7.2) (by simp [a_crossed, cg0, cg1, cg2, cg3, cg5, cg6, cg7, cg8, c2, c4, c5, tn_nI (k := xq) (by omega), tn_nI (k := yq) (by omega), cross_c hp8 c10 (by omega) (by omega)]; rfl) trivial X dX6_crossed_53
      · refine lv_iconst (v := (-1)) hx hb dX6_crossed_27 (by decide) ?_
        exact hE (v := (-1)) (d, e) (by simp [a_crossed, cg0, cg1, cg2, cg3, cg5, cg6, cg7, cg8, c2, c4, c6, tn_nI (k := xq) (by omega), tn_nI (k := yq) (by omega)]) trivial X dX6_crossed_28
set_option maxHeartbeats 4000000 in
set_option maxRecDepth 100000 in
theorem c_X6_least (l : Launch) (D : va_G) (tk : Nat → ClassId) (a : Nat) (hL hT : Nat → Nat) (im bs rd : Nat) (hS : Nat → Nat) (sh kb rf : Nat) (G : Nat → Nat → Nat) (d e : Nat → Nat) (x y : Int32) (hw : GW G) : MX l yX6_least cX6_least 3 (some .int) ⟨4, 0, 0, 114⟩ D (TYS tk) [.ref a, .int x, .int y] (lW a hL hT im bs rd hS sh kb rf ++ gW tk hL G d e) (fun (u : (Nat → Nat) × (Nat → Nat)) => True) (fun u => some (.int (a_least (cgv G) x y))) (fun u => lW a hL hT im bs rd hS sh kb rf ++ gW tk hL G u.1 u.2) 0 0 := by
  refine MX.of_i (by decide) rfl ?_
  intro zp ze zs zm za zb zt zc zA zQ ls C0 hnm X hl hE
  have hx := C0.1
  have hb := C0.2.1
  have ht := C0.2.2.2.2.1
  have X : Hx D zA zs zs.heap [] (lW a hL hT im bs rd hS sh kb rf ++ gW tk hL G d e) := X
  have hl : lv_has ls 3 [(0, .ref a), (1, .int x), (2, .int y)] := hl
  obtain ⟨hw1, hw2, hw3, hw4, hw5, hw6, hw7, hw8⟩ := id hw
  obtain ⟨H, hH⟩ : ∃ H, H = zs.heap := ⟨_, rfl⟩
  rw [← hH] at X ⊢
  obtain ⟨locs, hlo⟩ : ∃ L : List Loc, L = [] := ⟨_, rfl⟩
  rw [← hlo] at X ⊢
  refine lv_aload_n hx hb dX6_least_0 rfl (lv_at hl 0 rfl) ?_
  refine g_get (v := .ref (hL 0)) C0 X kX6 0 0 tb200 rfl rfl rfl dX6_least_1 ?_
  refine lv_iload_n hx hb dX6_least_4 rfl (lv_at hl 1 rfl) ?_
  refine g_callV (As := [.int x]) (rest := []) (wr := (lW a hL hT im bs rd hS sh kb rf)) (C0.sz hl) X (c_X1_hasTree l D tk hL G d e x (by first | assumption | omega)) ⟨tb456, tb390, tb2, ⟨by decide, by decide, rfl⟩, rfl, rfl, Nat.le_of_ble_eq_true rfl, Nat.le_of_ble_eq_true rfl⟩ tb388 tb389 1 1 rfl rfl rfl rfl [1, 2, 3, 4, 5, 6, 7, 8, 9, 10] [0] rfl rfl rfl rfl rfl (Nat.le_of_ble_eq_true rfl) ⟨Nat.le_of_ble_eq_true rfl, Nat.le_of_ble_eq_true rfl⟩ dX6_least_5 (fun _ H locs _ X => ?_)
  have X : Hx D zA zs H locs (lW a hL hT im bs rd hS sh kb rf ++ gW tk hL G d e) := X
  refine g_ifeqB (x := ix x (G 8 0)) (tgt := 35) C0 dX6_least_8 rfl (fun c1 => ?_) (fun c2 => ?_)
  · refine lv_iconst (v := (-1)) hx hb dX6_least_35 (by decide) ?_
    exact hE (v := (-1)) (d, e) (by simp [a_least, cg0, cg1, cg2, cg3, cg5, cg6, cg7, cg8, c1]) trivial X dX6_least_36
  · obtain ⟨xq, hk_xq, rfl⟩ := ix_sp c2
    refine lv_aload_n hx hb dX6_least_11 rfl (lv_at hl 0 rfl) ?_
    refine g_get (v := .ref (hL 0)) C0 X kX6 0 0 tb200 rfl rfl rfl dX6_least_12 ?_
    refine lv_iload_n hx hb dX6_least_15 rfl (lv_at hl 2 rfl) ?_
    refine g_callV (As := [.int y]) (rest := []) (wr := (lW a hL hT im bs rd hS sh kb rf)) (C0.sz hl) X (c_X1_hasTrees l D tk hL G d e y (by first | assumption | omega)) ⟨tb561, tb564, tb2, ⟨by decide, by decide, rfl⟩, rfl, rfl, Nat.le_of_ble_eq_true rfl, Nat.le_of_ble_eq_true rfl⟩ tb562 tb563 1 1 rfl rfl rfl rfl [1, 2, 3, 4, 5, 6, 7, 8, 9, 10] [0] rfl rfl rfl rfl rfl (Nat.le_of_ble_eq_true rfl) ⟨Nat.le_of_ble_eq_true rfl, Nat.le_of_ble_eq_true rfl⟩ dX6_least_16 (fun _ H locs _ X => ?_)
    have X : Hx D zA zs H locs (lW a hL hT im bs rd hS sh kb rf ++ gW tk hL G d e) := X
    refine g_ifeqB (x := rg y 0 (2 ^ G 8 0 - 1)) (tgt := 35) C0 dX6_least_19 rfl (fun c3 => ?_) (fun c4 => ?_)
    · refine lv_iconst (v := (-1)) hx hb dX6_least_35 (by decide) ?_
      exact hE (v := (-1)) (d, e) (by simp [a_least, cg0, cg1, cg2, cg3, cg5, cg6, cg7, cg8, c2, c3, tn_nI (k := xq) (by omega)]) trivial X dX6_least_36
    · obtain ⟨yq, hk_yqa, hk_yqb, hk_yqc, rfl⟩ := rg_sp c4
      refine lv_aload_n hx hb dX6_least_22 rfl (lv_at hl 0 rfl) ?_
      refine g_get (v := .ref (hL 0)) C0 X kX6 0 0 tb200 rfl rfl rfl dX6_least_23 ?_
      refine lv_iload_n hx hb dX6_least_26 rfl (lv_at hl 1 rfl) ?_
      refine lv_iload_n hx hb dX6_least_27 rfl (lv_at hl 2 rfl) ?_
      refine lv_iload_n hx hb dX6_least_28 rfl (lv_at hl 2 rfl) ?_
      refine g_callV (As := [.int (nI xq), .int (nI yq), .int (nI yq)]) (rest := []) (wr := (lW a hL hT im bs rd hS sh kb rf)) (C0.sz hl) X (c_X1_leastBreath l D tk hL G d e xq yq yq (by first | assumption | omega) (by first | assumption | omega) (by first | assumption | omega)) ⟨tb569, tb572, tb2, ⟨by decide, by decide, rfl⟩, rfl, rfl, Nat.le_of_ble_eq_true rfl, Nat.le_of_ble_eq_true rfl⟩ tb570 tb571 1 1 rfl rfl rfl rfl [1, 2, 3, 4, 5, 6, 7, 8, 9, 10] [0] rfl rfl rfl rfl rfl (Nat.le_of_ble_eq_true rfl) ⟨Nat.le_of_ble_eq_true rfl, Nat.le_of_ble_eq_true rfl⟩ dX6_least_29 (fun _ H locs _ X => ?_)
      have X : Hx D zA zs H locs (lW a hL hT im bs rd hS sh kb rf ++ gW tk hL G (dist (cgv G) xq) e) := X
      refine lv_goto (tgt := 36) hx hb dX6_least_32 (by decide) ?_
      exact hE (v := orNone (leastS (cgv G) xq yq yq)) ((dist (cgv G) xq), e) (by simp [a_least, cg0, cg1, cg2, cg3, cg5, cg6, cg7, cg8, c2, c4, tn_nI (k := xq) (by omega), tn_nI (k := yq) (by omega)]) trivial X dX6_least_36
set_option maxHeartbeats 4000000 in
set_option maxRecDepth 100000 in
theorem c_X6_just (l : Launch) (D : va_G) (tk : Nat → ClassId) (a : Nat) (hL hT : Nat → Nat) (im bs rd : Nat) (hS : Nat → Nat) (sh kb rf : Nat) (G : Nat → Nat → Nat) (d e : Nat → Nat) (x y : Int32) (hw : GW G) : MX l yX6_just cX6_just 3 (some .int) ⟨4, 0, 0, 114⟩ D (TYS tk) [.ref a, .int x, .int y] (lW a hL hT im bs rd hS sh kb rf ++ gW tk hL G d e) (fun (u : (Nat → Nat) × (Nat → Nat)) => True) (fun u => some (.int (a_just (cgv G) x y))) (fun u => lW a hL hT im bs rd hS sh kb rf ++ gW tk hL G u.1 u.2) 0 0 := by
  refine MX.of_i (by decide) rfl ?_
  intro zp ze zs zm za zb zt zc zA zQ ls C0 hnm X hl hE
  have hx := C0.1
  have hb := C0.2.1
  have ht := C0.2.2.2.2.1
  have X : Hx D zA zs zs.heap [] (lW a hL hT im bs rd hS sh kb rf ++ gW tk hL G d e) := X
  have hl : lv_has ls 3 [(0, .ref a), (1, .int x), (2, .int y)] := hl
  obtain ⟨hw1, hw2, hw3, hw4, hw5, hw6, hw7, hw8⟩ := id hw
  obtain ⟨H, hH⟩ : ∃ H, H = zs.heap := ⟨_, rfl⟩
  rw [← hH] at X ⊢
  obtain ⟨locs, hlo⟩ : ∃ L : List Loc, L = [] := ⟨_, rfl⟩
  rw [← hlo] at X ⊢
  refine lv_aload_n hx hb dX6_just_0 rfl (lv_at hl 0 rfl) ?_
  refine g_get (v := .ref (hL 0)) C0 X kX6 0 0 tb200 rfl rfl rfl dX6_just_1 ?_
  refine lv_iload_n hx hb dX6_just_4 rfl (lv_at hl 1 rfl) ?_
  refine g_callV (As := [.int x]) (rest := []) (wr := (lW a hL hT im bs rd hS sh kb rf)) (C0.sz hl) X (c_X1_hasTree l D tk hL G d e x (by first | assumption | omega)) ⟨tb456, tb390, tb2, ⟨by decide, by decide, rfl⟩, rfl, rfl, Nat.le_of_ble_eq_true rfl, Nat.le_of_ble_eq_true rfl⟩ tb388 tb389 1 1 rfl rfl rfl rfl [1, 2, 3, 4, 5, 6, 7, 8, 9, 10] [0] rfl rfl rfl rfl rfl (Nat.le_of_ble_eq_true rfl) ⟨Nat.le_of_ble_eq_true rfl, Nat.le_of_ble_eq_true rfl⟩ dX6_just_5 (fun _ H locs _ X => ?_)
  have X : Hx D zA zs H locs (lW a hL hT im bs rd hS sh kb rf ++ gW tk hL G d e) := X
  refine g_ifeqB (x := ix x (G 8 0)) (tgt := 41) C0 dX6_just_8 rfl (fun c1 => ?_) (fun c2 => ?_)
  · refine lv_iconst (v := (-1)) hx hb dX6_just_41 (by decide) ?_
    exact hE (v := (-1)) (d, e) (by simp [a_just, cg0, cg1, cg2, cg3, cg5, cg6, cg7, cg8, c1]) trivial X dX6_just_42
  · obtain ⟨xq, hk_xq, rfl⟩ := ix_sp c2
    refine lv_aload_n hx hb dX6_just_11 rfl (lv_at hl 0 rfl) ?_
    refine g_get (v := .ref (hL 0)) C0 X kX6 0 0 tb200 rfl rfl rfl dX6_just_12 ?_
    refine lv_iload_n hx hb dX6_just_15 rfl (lv_at hl 2 rfl) ?_
    refine g_callV (As := [.int y]) (rest := []) (wr := (lW a hL hT im bs rd hS sh kb rf)) (C0.sz hl) X (c_X1_hasTrees l D tk hL G d e y (by first | assumption | omega)) ⟨tb561, tb564, tb2, ⟨by decide, by decide, rfl⟩, rfl, rfl, Nat.le_of_ble_eq_true rfl, Nat.le_of_ble_eq_true rfl⟩ tb562 tb563 1 1 rfl rfl rfl rfl [1, 2, 3, 4, 5, 6, 7, 8, 9, 10] [0] rfl rfl rfl rfl rfl (Nat.le_of_ble_eq_true rfl) ⟨Nat.le_of_ble_eq_true rfl, Nat.le_of_ble_eq_true rfl⟩ dX6_just_16 (fun _ H locs _ X => ?_)
    have X : Hx D zA zs H locs (lW a hL hT im bs rd hS sh kb rf ++ gW tk hL G d e) := X
    refine g_ifeqB (x := rg y 0 (2 ^ G 8 0 - 1)) (tgt := 41) C0 dX6_just_19 rfl (fun c3 => ?_) (fun c4 => ?_)
    · refine lv_iconst (v := (-1)) hx hb dX6_just_41 (by decide) ?_
      exact hE (v := (-1)) (d, e) (by simp [a_just, cg0, cg1, cg2, cg3, cg5, cg6, cg7, cg8, c2, c3, tn_nI (k := xq) (by omega)]) trivial X dX6_just_42
    · obtain ⟨yq, hk_yqa, hk_yqb, hk_yqc, rfl⟩ := rg_sp c4
      refine lv_aload_n hx hb dX6_just_22 rfl (lv_at hl 0 rfl) ?_
      refine g_get (v := .ref (hL 0)) C0 X kX6 0 0 tb200 rfl rfl rfl dX6_just_23 ?_
      refine lv_iload_n hx hb dX6_just_26 rfl (lv_at hl 1 rfl) ?_
      refine lv_iload_n hx hb dX6_just_27 rfl (lv_at hl 2 rfl) ?_
      refine lv_aload_n hx hb dX6_just_28 rfl (lv_at hl 0 rfl) ?_
      refine g_get (v := .ref (hL 0)) C0 X kX6 0 0 tb200 rfl rfl rfl dX6_just_29 ?_
      refine g_callV (As := []) (rest := [.int (nI yq), .int (nI xq), .ref (hL 0)]) (wr := (lW a hL hT im bs rd hS sh kb rf)) (C0.sz hl) X (c_X1_allTrees l D tk hL G d e (by first | assumption | omega)) ⟨tb577, tb568, tb2, ⟨by decide, by decide, rfl⟩, rfl, rfl, Nat.le_of_ble_eq_true rfl, Nat.le_of_ble_eq_true rfl⟩ tb566 tb567 1 1 rfl rfl rfl rfl [1, 2, 3, 4, 5, 6, 7, 8, 9, 10] [0] rfl rfl rfl rfl rfl (Nat.le_of_ble_eq_true rfl) ⟨Nat.le_of_ble_eq_true rfl, Nat.le_of_ble_eq_true rfl⟩ dX6_just_32 (fun _ H locs _ X => ?_)
      have X : Hx D zA zs H locs (lW a hL hT im bs rd hS sh kb rf ++ gW tk hL G d e) := X
      refine g_callV (As := [.int (nI xq), .int (nI yq), .int (nI (2 ^ G 8 0 - 1))]) (rest := []) (wr := (lW a hL hT im bs rd hS sh kb rf)) (C0.sz hl) X (c_X1_leastBreath l D tk hL G d e xq yq (2 ^ G 8 0 - 1) (by first | assumption | omega) (by first | assumption | omega) (by first | assumption | omega)) ⟨tb569, tb572, tb2, ⟨by decide, by decide, rfl⟩, rfl, rfl, Nat.le_of_ble_eq_true rfl, Nat.le_of_ble_eq_true rfl⟩ tb570 tb571 1 1 rfl rfl rfl rfl [1, 2, 3, 4, 5, 6, 7, 8, 9, 10] [0] rfl rfl rfl rfl rfl (Nat.le_of_ble_eq_true rfl) ⟨Nat.le_of_ble_eq_true rfl, Nat.le_of_ble_eq_true rfl⟩ dX6_just_35 (fun _ H locs _ X => ?_)
      have X : Hx D zA zs H locs (lW a hL hT im bs rd hS sh kb rf ++ gW tk hL G (dist (cgv G) xq) e) := X
      refine lv_goto (tgt := 42) hx hb dX6_just_38 (by decide) ?_
      exact hE (v := orNone (leastS (cgv G) xq yq (2 ^ G 8 0 - 1))) ((dist (cgv G) xq), e) (by simp [a_just, cg0, cg1, cg2, cg3, cg5, cg6, cg7, cg8, c2, c4, tn_nI (k := xq) (by omega), tn_nI (k := yq) (by omega)]) trivial X dX6_just_42
