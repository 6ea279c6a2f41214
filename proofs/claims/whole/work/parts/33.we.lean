set_option maxHeartbeats 4000000 in
set_option maxRecDepth 100000 in
theorem c_X6_lay (l : Launch) (D : va_G) (tk : Nat → ClassId) (a : Nat) (hL hT : Nat → Nat) (im bs rd : Nat) (hS : Nat → Nat) (sh kb rf : Nat) (sA sC kn : Nat → Nat) (kl : Nat → Int32) (kc : Nat → Nat → Int32) (x y z : Int32) (hkn : ∀ k, k < 4 → kn k ≤ 40) : MX l yX6_lay cX6_lay 5 (some .int) ⟨2, 0, 0, 44⟩ D (TYS tk) [.ref a, .int x, .int y, .int z] (lW a hL hT im bs rd hS sh kb rf ++ hsW tk sh (sA 0) (sA 1) (sA 2) (sA 3) ++ shW tk (sA 0) (sC 0) (kn 0) (kl 0) (kc 0) ++ shW tk (sA 1) (sC 1) (kn 1) (kl 1) (kc 1) ++ shW tk (sA 2) (sC 2) (kn 2) (kl 2) (kc 2) ++ shW tk (sA 3) (sC 3) (kn 3) (kl 3) (kc 3)) (fun (_ : Unit) => True) (fun _ => some (.int (a_lay kl kn x y))) (fun _ => lW a hL hT im bs rd hS sh kb rf ++ hsW tk sh (sA 0) (sA 1) (sA 2) (sA 3) ++ shW tk (sA 0) (sC 0) (kn 0) (kl 0) (layC kc kl kn x y z 0) ++ shW tk (sA 1) (sC 1) (kn 1) (kl 1) (layC kc kl kn x y z 1) ++ shW tk (sA 2) (sC 2) (kn 2) (kl 2) (layC kc kl kn x y z 2) ++ shW tk (sA 3) (sC 3) (kn 3) (kl 3) (layC kc kl kn x y z 3)) 0 0 := by
  refine MX.of_i (by decide) rfl ?_
  intro zp ze zs zm za zb zt zc zA zQ ls C0 hnm X hl hE
  have hx := C0.1
  have hb := C0.2.1
  have ht := C0.2.2.2.2.1
  have X : Hx D zA zs zs.heap [] (lW a hL hT im bs rd hS sh kb rf ++ hsW tk sh (sA 0) (sA 1) (sA 2) (sA 3) ++ shW tk (sA 0) (sC 0) (kn 0) (kl 0) (kc 0) ++ shW tk (sA 1) (sC 1) (kn 1) (kl 1) (kc 1) ++ shW tk (sA 2) (sC 2) (kn 2) (kl 2) (kc 2) ++ shW tk (sA 3) (sC 3) (kn 3) (kl 3) (kc 3)) := X
  have hl : lv_has ls 5 [(0, .ref a), (1, .int x), (2, .int y), (3, .int z)] := hl
  have hk0 := hkn 0 (by decide)
  have hk1 := hkn 1 (by decide)
  have hk2 := hkn 2 (by decide)
  have hk3 := hkn 3 (by decide)
  obtain ⟨H, hH⟩ : ∃ H, H = zs.heap := ⟨_, rfl⟩
  rw [← hH] at X ⊢
  obtain ⟨locs, hlo⟩ : ∃ L : List Loc, L = [] := ⟨_, rfl⟩
  rw [← hlo] at X ⊢
  refine lv_aload_n hx hb dX6_lay_0 rfl (lv_at hl 0 rfl) ?_
  refine lv_iload_n hx hb dX6_lay_1 rfl (lv_at hl 1 rfl) ?_
  refine g_callV (As := [.int x]) (rest := []) (wr := (shW tk (sA 0) (sC 0) (kn 0) (kl 0) (kc 0) ++ shW tk (sA 1) (sC 1) (kn 1) (kl 1) (kc 1) ++ shW tk (sA 2) (sC 2) (kn 2) (kl 2) (kc 2) ++ shW tk (sA 3) (sC 3) (kn 3) (kl 3) (kc 3))) (C0.sz hl) X (c_X6_isSheet l D tk a hL hT im bs rd hS sh kb rf (sA 0) (sA 1) (sA 2) (sA 3) x) ⟨tb740, tb743, tb1, ⟨by decide, by decide, rfl⟩, rfl, rfl, Nat.le_of_ble_eq_true rfl, Nat.le_of_ble_eq_true rfl⟩ tb742 tbs20 0 6 rfl rfl rfl rfl [0, 1] [2, 3, 4, 5, 6, 7, 8, 9] rfl rfl rfl rfl rfl (Nat.le_of_ble_eq_true rfl) ⟨Nat.le_of_ble_eq_true rfl, Nat.le_of_ble_eq_true rfl⟩ dX6_lay_2 (fun _ H locs _ X => ?_)
  have X : Hx D zA zs H locs (shW tk (sA 0) (sC 0) (kn 0) (kl 0) (kc 0) ++ shW tk (sA 1) (sC 1) (kn 1) (kl 1) (kc 1) ++ shW tk (sA 2) (sC 2) (kn 2) (kl 2) (kc 2) ++ shW tk (sA 3) (sC 3) (kn 3) (kl 3) (kc 3) ++ lW a hL hT im bs rd hS sh kb rf ++ hsW tk sh (sA 0) (sA 1) (sA 2) (sA 3)) := X
  have X : Hx D zA zs H locs (lW a hL hT im bs rd hS sh kb rf ++ hsW tk sh (sA 0) (sA 1) (sA 2) (sA 3) ++ shW tk (sA 0) (sC 0) (kn 0) (kl 0) (kc 0) ++ shW tk (sA 1) (sC 1) (kn 1) (kl 1) (kc 1) ++ shW tk (sA 2) (sC 2) (kn 2) (kl 2) (kc 2) ++ shW tk (sA 3) (sC 3) (kn 3) (kl 3) (kc 3)) := X.sub [8, 9, 0, 1, 2, 3, 4, 5, 6, 7] rfl rfl
  refine g_ifneB (x := rg x 0 3) (tgt := 10) C0 dX6_lay_5 rfl (fun c1 => ?_) (fun c2 => ?_)
  · obtain ⟨xq, hk_xqa, hk_xqb, hk_xqc, rfl⟩ := rg_sp c1
    refine lv_aload_n hx hb dX6_lay_10 rfl (lv_at hl 0 rfl) ?_
    rcases (show xq = 0 ∨ xq = 1 ∨ xq = 2 ∨ xq = 3 by omega) with rfl | rfl | rfl | rfl
    · refine g_get (v := .ref sh) C0 X kX6 0 6 tb206 rfl rfl rfl dX6_lay_11 ?_
      refine lv_iload_n hx hb dX6_lay_14 rfl (lv_at hl 1 rfl) ?_
      refine g_aald (v := sA 0) (i := 0) C0 X 1 4 rfl rfl (by decide) rfl rfl dX6_lay_15 ?_
      refine lv_iload_n hx hb dX6_lay_16 rfl (lv_at hl 2 rfl) ?_
      refine g_iconst (n := 1) C0 rfl dX6_lay_17 ?_
      refine g_callV (As := [.int y, .int (nI 1)]) (rest := []) (wr := (lW a hL hT im bs rd hS sh kb rf ++ hsW tk sh (sA 0) (sA 1) (sA 2) (sA 3) ++ shW tk (sA 1) (sC 1) (kn 1) (kl 1) (kc 1) ++ shW tk (sA 2) (sC 2) (kn 2) (kl 2) (kc 2) ++ shW tk (sA 3) (sC 3) (kn 3) (kl 3) (kc 3))) (C0.sz hl) X (c_X3_faultOfCells l D tk (sA 0) (sC 0) (kn 0) (kl 0) (kc 0) y 1 (by first | assumption | omega) (by first | assumption | omega)) ⟨tb756, tb759, tb7, ⟨by decide, by decide, rfl⟩, rfl, rfl, Nat.le_of_ble_eq_true rfl, Nat.le_of_ble_eq_true rfl⟩ tb757 tb758 2 3 rfl rfl rfl rfl [2, 3] [0, 1, 4, 5, 6, 7, 8, 9] rfl rfl rfl rfl rfl (Nat.le_of_ble_eq_true rfl) ⟨Nat.le_of_ble_eq_true rfl, Nat.le_of_ble_eq_true rfl⟩ dX6_lay_18 (fun _ H locs _ X => ?_)
      have X : Hx D zA zs H locs (lW a hL hT im bs rd hS sh kb rf ++ hsW tk sh (sA 0) (sA 1) (sA 2) (sA 3) ++ shW tk (sA 1) (sC 1) (kn 1) (kl 1) (kc 1) ++ shW tk (sA 2) (sC 2) (kn 2) (kl 2) (kc 2) ++ shW tk (sA 3) (sC 3) (kn 3) (kl 3) (kc 3) ++ shW tk (sA 0) (sC 0) (kn 0) (kl 0) (kc 0)) := X
      have X : Hx D zA zs H locs (lW a hL hT im bs rd hS sh kb rf ++ hsW tk sh (sA 0) (sA 1) (sA 2) (sA 3) ++ shW tk (sA 0) (sC 0) (kn 0) (kl 0) (kc 0) ++ shW tk (sA 1) (sC 1) (kn 1) (kl 1) (kc 1) ++ shW tk (sA 2) (sC 2) (kn 2) (kl 2) (kc 2) ++ shW tk (sA 3) (sC 3) (kn 3) (kl 3) (kc 3)) := X.sub [0, 1, 8, 9, 2, 3, 4, 5, 6, 7] rfl rfl
      refine g_top (y := nI (fcl (kl 0) (kn 0) y)) (by rfl) ?_
      have hfl := fcl_le (kl 0) (kn 0) y
      refine lv_istore (lv' := [(4, .int (nI (fcl (kl 0) (kn 0) y))), (0, .ref a), (1, .int (nI 0)), (2, .int y), (3, .int z)]) hx hb dX6_lay_21 hl (by decide) rfl (fun ls hl => ?_)
      refine lv_iload hx hb dX6_lay_23 (lv_at hl 0 rfl) ?_
      refine g_ifeq (x := fcl (kl 0) (kn 0) y) (tgt := 34) C0 (by omega) dX6_lay_25 rfl (fun c3 => ?_) (fun c4 => ?_)
      · obtain ⟨yq, hyq, rfl⟩ := fcl_0 (by omega) c3
        refine lv_aload_n hx hb dX6_lay_34 rfl (lv_at hl 1 rfl) ?_
        refine g_get (v := .ref sh) C0 X kX6 0 6 tb206 rfl rfl rfl dX6_lay_35 ?_
        refine lv_iload_n hx hb dX6_lay_38 rfl (lv_at hl 2 rfl) ?_
        refine g_aald (v := sA 0) (i := 0) C0 X 1 4 rfl rfl (by decide) rfl rfl dX6_lay_39 ?_
        refine lv_iload_n hx hb dX6_lay_40 rfl (lv_at hl 3 rfl) ?_
        refine lv_iload_n hx hb dX6_lay_41 rfl (lv_at hl 4 rfl) ?_
        refine g_callV (As := [.int (nI yq), .int z]) (rest := []) (wr := (lW a hL hT im bs rd hS sh kb rf ++ hsW tk sh (sA 0) (sA 1) (sA 2) (sA 3) ++ shW tk (sA 1) (sC 1) (kn 1) (kl 1) (kc 1) ++ shW tk (sA 2) (sC 2) (kn 2) (kl 2) (kc 2) ++ shW tk (sA 3) (sC 3) (kn 3) (kl 3) (kc 3))) (C0.sz hl) X (c_X3_put l D tk (sA 0) (sC 0) (kn 0) (kl 0) (kc 0) yq z (by first | assumption | omega)) ⟨tb765, tb768, tb7, ⟨by decide, by decide, rfl⟩, rfl, rfl, Nat.le_of_ble_eq_true rfl, Nat.le_of_ble_eq_true rfl⟩ tb766 tb767 2 3 rfl rfl rfl rfl [2, 3] [0, 1, 4, 5, 6, 7, 8, 9] rfl rfl rfl rfl rfl (Nat.le_of_ble_eq_true rfl) ⟨Nat.le_of_ble_eq_true rfl, Nat.le_of_ble_eq_true rfl⟩ dX6_lay_42 (fun _ H locs _ X => ?_)
        have X : Hx D zA zs H locs (lW a hL hT im bs rd hS sh kb rf ++ hsW tk sh (sA 0) (sA 1) (sA 2) (sA 3) ++ shW tk (sA 1) (sC 1) (kn 1) (kl 1) (kc 1) ++ shW tk (sA 2) (sC 2) (kn 2) (kl 2) (kc 2) ++ shW tk (sA 3) (sC 3) (kn 3) (kl 3) (kc 3) ++ shW tk (sA 0) (sC 0) (kn 0) (kl 0) (upd (kc 0) yq (narr (kl 0) z))) := X
        have X : Hx D zA zs H locs (lW a hL hT im bs rd hS sh kb rf ++ hsW tk sh (sA 0) (sA 1) (sA 2) (sA 3) ++ shW tk (sA 0) (sC 0) (kn 0) (kl 0) (upd (kc 0) yq (narr (kl 0) z)) ++ shW tk (sA 1) (sC 1) (kn 1) (kl 1) (kc 1) ++ shW tk (sA 2) (sC 2) (kn 2) (kl 2) (kc 2) ++ shW tk (sA 3) (sC 3) (kn 3) (kl 3) (kc 3)) := X.sub [0, 1, 8, 9, 2, 3, 4, 5, 6, 7] rfl rfl
        refine g_iconst (n := 1) C0 rfl dX6_lay_45 ?_
        exact hE (v := nI 1) () (by simp only [a_lay, c1, c3, tn_nI (k := 0) (by omega), tn_nI (k := yq) (by omega), if_true, if_false, Bool.false_eq_true, Bool.and_self, Bool.and_true, Bool.and_false, Bool.true_and, Bool.false_and, Bool.not_true, Bool.not_false, decide_true, decide_false]) trivial (X.to (by simp only [layC, c1, c3, tn_nI (k := 0) (by omega), tn_nI (k := yq) (by omega), ua, if_true, if_false, Bool.false_eq_true, Bool.and_self, Bool.and_true, Bool.and_false, Bool.true_and, Bool.false_and, Bool.not_true, Bool.not_false, decide_true, decide_false] <;> rfl)) dX6_lay_46
      · refine lv_bipush (v := (-10)) hx hb dX6_lay_28 (by decide) ?_
        refine lv_iload hx hb dX6_lay_30 (lv_at hl 0 rfl) ?_
        refine lv_isub hx hb dX6_lay_32 ?_
        exact hE (v := (-10) - (nI (fcl (kl 0) (kn 0) y))) () (by simp only [a_lay, c1, c4, tn_nI (k := 0) (by omega), show ¬ fcl (kl 0) (kn 0) y = 0 by omega, if_true, if_false, Bool.false_eq_true, Bool.and_self, Bool.and_true, Bool.and_false, Bool.true_and, Bool.false_and, Bool.not_true, Bool.not_false, decide_true, decide_false]) trivial (X.to (by simp only [layC, c1, c4, tn_nI (k := 0) (by omega), ua, show ¬ fcl (kl 0) (kn 0) y = 0 by omega, if_true, if_false, Bool.false_eq_true, Bool.and_self, Bool.and_true, Bool.and_false, Bool.true_and, Bool.false_and, Bool.not_true, Bool.not_false, decide_true, decide_false] <;> rfl)) dX6_lay_33
    · refine g_get (v := .ref sh) C0 X kX6 0 6 tb206 rfl rfl rfl dX6_lay_11 ?_
      refine lv_iload_n hx hb dX6_lay_14 rfl (lv_at hl 1 rfl) ?_
      refine g_aald (v := sA 1) (i := 1) C0 X 1 4 rfl rfl (by decide) rfl rfl dX6_lay_15 ?_
      refine lv_iload_n hx hb dX6_lay_16 rfl (lv_at hl 2 rfl) ?_
      refine g_iconst (n := 1) C0 rfl dX6_lay_17 ?_
      refine g_callV (As := [.int y, .int (nI 1)]) (rest := []) (wr := (lW a hL hT im bs rd hS sh kb rf ++ hsW tk sh (sA 0) (sA 1) (sA 2) (sA 3) ++ shW tk (sA 0) (sC 0) (kn 0) (kl 0) (kc 0) ++ shW tk (sA 2) (sC 2) (kn 2) (kl 2) (kc 2) ++ shW tk (sA 3) (sC 3) (kn 3) (kl 3) (kc 3))) (C0.sz hl) X (c_X3_faultOfCells l D tk (sA 1) (sC 1) (kn 1) (kl 1) (kc 1) y 1 (by first | assumption | omega) (by first | assumption | omega)) ⟨tb756, tb759, tb7, ⟨by decide, by decide, rfl⟩, rfl, rfl, Nat.le_of_ble_eq_true rfl, Nat.le_of_ble_eq_true rfl⟩ tb757 tb758 4 3 rfl rfl rfl rfl [4, 5] [0, 1, 2, 3, 6, 7, 8, 9] rfl rfl rfl rfl rfl (Nat.le_of_ble_eq_true rfl) ⟨Nat.le_of_ble_eq_true rfl, Nat.le_of_ble_eq_true rfl⟩ dX6_lay_18 (fun _ H locs _ X => ?_)
      have X : Hx D zA zs H locs (lW a hL hT im bs rd hS sh kb rf ++ hsW tk sh (sA 0) (sA 1) (sA 2) (sA 3) ++ shW tk (sA 0) (sC 0) (kn 0) (kl 0) (kc 0) ++ shW tk (sA 2) (sC 2) (kn 2) (kl 2) (kc 2) ++ shW tk (sA 3) (sC 3) (kn 3) (kl 3) (kc 3) ++ shW tk (sA 1) (sC 1) (kn 1) (kl 1) (kc 1)) := X
      have X : Hx D zA zs H locs (lW a hL hT im bs rd hS sh kb rf ++ hsW tk sh (sA 0) (sA 1) (sA 2) (sA 3) ++ shW tk (sA 0) (sC 0) (kn 0) (kl 0) (kc 0) ++ shW tk (sA 1) (sC 1) (kn 1) (kl 1) (kc 1) ++ shW tk (sA 2) (sC 2) (kn 2) (kl 2) (kc 2) ++ shW tk (sA 3) (sC 3) (kn 3) (kl 3) (kc 3)) := X.sub [0, 1, 2, 3, 8, 9, 4, 5, 6, 7] rfl rfl
      refine g_top (y := nI (fcl (kl 1) (kn 1) y)) (by rfl) ?_
      have hfl := fcl_le (kl 1) (kn 1) y
      refine lv_istore (lv' := [(4, .int (nI (fcl (kl 1) (kn 1) y))), (0, .ref a), (1, .int (nI 1)), (2, .int y), (3, .int z)]) hx hb dX6_lay_21 hl (by decide) rfl (fun ls hl => ?_)
      refine lv_iload hx hb dX6_lay_23 (lv_at hl 0 rfl) ?_
      refine g_ifeq (x := fcl (kl 1) (kn 1) y) (tgt := 34) C0 (by omega) dX6_lay_25 rfl (fun c5 => ?_) (fun c6 => ?_)
      · obtain ⟨yq, hyq, rfl⟩ := fcl_0 (by omega) c5
        refine lv_aload_n hx hb dX6_lay_34 rfl (lv_at hl 1 rfl) ?_
        refine g_get (v := .ref sh) C0 X kX6 0 6 tb206 rfl rfl rfl dX6_lay_35 ?_
        refine lv_iload_n hx hb dX6_lay_38 rfl (lv_at hl 2 rfl) ?_
        refine g_aald (v := sA 1) (i := 1) C0 X 1 4 rfl rfl (by decide) rfl rfl dX6_lay_39 ?_
        refine lv_iload_n hx hb dX6_lay_40 rfl (lv_at hl 3 rfl) ?_
        refine lv_iload_n hx hb dX6_lay_41 rfl (lv_at hl 4 rfl) ?_
        refine g_callV (As := [.int (nI yq), .int z]) (rest := []) (wr := (lW a hL hT im bs rd hS sh kb rf ++ hsW tk sh (sA 0) (sA 1) (sA 2) (sA 3) ++ shW tk (sA 0) (sC 0) (kn 0) (kl 0) (kc 0) ++ shW tk (sA 2) (sC 2) (kn 2) (kl 2) (kc 2) ++ shW tk (sA 3) (sC 3) (kn 3) (kl 3) (kc 3))) (C0.sz hl) X (c_X3_put l D tk (sA 1) (sC 1) (kn 1) (kl 1) (kc 1) yq z (by first | assumption | omega)) ⟨tb765, tb768, tb7, ⟨by decide, by decide, rfl⟩, rfl, rfl, Nat.le_of_ble_eq_true rfl, Nat.le_of_ble_eq_true rfl⟩ tb766 tb767 4 3 rfl rfl rfl rfl [4, 5] [0, 1, 2, 3, 6, 7, 8, 9] rfl rfl rfl rfl rfl (Nat.le_of_ble_eq_true rfl) ⟨Nat.le_of_ble_eq_true rfl, Nat.le_of_ble_eq_true rfl⟩ dX6_lay_42 (fun _ H locs _ X => ?_)
        have X : Hx D zA zs H locs (lW a hL hT im bs rd hS sh kb rf ++ hsW tk sh (sA 0) (sA 1) (sA 2) (sA 3) ++ shW tk (sA 0) (sC 0) (kn 0) (kl 0) (kc 0) ++ shW tk (sA 2) (sC 2) (kn 2) (kl 2) (kc 2) ++ shW tk (sA 3) (sC 3) (kn 3) (kl 3) (kc 3) ++ shW tk (sA 1) (sC 1) (kn 1) (kl 1) (upd (kc 1) yq (narr (kl 1) z))) := X
        have X : Hx D zA zs H locs (lW a hL hT im bs rd hS sh kb rf ++ hsW tk sh (sA 0) (sA 1) (sA 2) (sA 3) ++ shW tk (sA 0) (sC 0) (kn 0) (kl 0) (kc 0) ++ shW tk (sA 1) (sC 1) (kn 1) (kl 1) (upd (kc 1) yq (narr (kl 1) z)) ++ shW tk (sA 2) (sC 2) (kn 2) (kl 2) (kc 2) ++ shW tk (sA 3) (sC 3) (kn 3) (kl 3) (kc 3)) := X.sub [0, 1, 2, 3, 8, 9, 4, 5, 6, 7] rfl rfl
        refine g_iconst (n := 1) C0 rfl dX6_lay_45 ?_
        exact hE (v := nI 1) () (by simp only [a_lay, c1, c5, tn_nI (k := 1) (by omega), tn_nI (k := yq) (by omega), if_true, if_false, Bool.false_eq_true, Bool.and_self, Bool.and_true, Bool.and_false, Bool.true_and, Bool.false_and, Bool.not_true, Bool.not_false, decide_true, decide_false]) trivial (X.to (by simp only [layC, c1, c5, tn_nI (k := 1) (by omega), tn_nI (k := yq) (by omega), ua, if_true, if_false, Bool.false_eq_true, Bool.and_self, Bool.and_true, Bool.and_false, Bool.true_and, Bool.false_and, Bool.not_true, Bool.not_false, decide_true, decide_false] <;> rfl)) dX6_lay_46
      · refine lv_bipush (v := (-10)) hx hb dX6_lay_28 (by decide) ?_
        refine lv_iload hx hb dX6_lay_30 (lv_at hl 0 rfl) ?_
        refine lv_isub hx hb dX6_lay_32 ?_
        exact hE (v := (-10) - (nI (fcl (kl 1) (kn 1) y))) () (by simp only [a_lay, c1, c6, tn_nI (k := 1) (by omega), show ¬ fcl (kl 1) (kn 1) y = 0 by omega, if_true, if_false, Bool.false_eq_true, Bool.and_self, Bool.and_true, Bool.and_false, Bool.true_and, Bool.false_and, Bool.not_true, Bool.not_false, decide_true, decide_false]) trivial (X.to (by simp only [layC, c1, c6, tn_nI (k := 1) (by omega), ua, show ¬ fcl (kl 1) (kn 1) y = 0 by omega, if_true, if_false, Bool.false_eq_true, Bool.and_self, Bool.and_true, Bool.and_false, Bool.true_and, Bool.false_and, Bool.not_true, Bool.not_false, decide_true, decide_false] <;> rfl)) dX6_lay_33
    · refine g_get (v := .ref sh) C0 X kX6 0 6 tb206 rfl rfl rfl dX6_lay_11 ?_
      refine lv_iload_n hx hb dX6_lay_14 rfl (lv_at hl 1 rfl) ?_
      refine g_aald (v := sA 2) (i := 2) C0 X 1 4 rfl rfl (by decide) rfl rfl dX6_lay_15 ?_
      refine lv_iload_n hx hb dX6_lay_16 rfl (lv_at hl 2 rfl) ?_
      refine g_iconst (n := 1) C0 rfl dX6_lay_17 ?_
      refine g_callV (As := [.int y, .int (nI 1)]) (rest := []) (wr := (lW a hL hT im bs rd hS sh kb rf ++ hsW tk sh (sA 0) (sA 1) (sA 2) (sA 3) ++ shW tk (sA 0) (sC 0) (kn 0) (kl 0) (kc 0) ++ shW tk (sA 1) (sC 1) (kn 1) (kl 1) (kc 1) ++ shW tk (sA 3) (sC 3) (kn 3) (kl 3) (kc 3))) (C0.sz hl) X (c_X3_faultOfCells l D tk (sA 2) (sC 2) (kn 2) (kl 2) (kc 2) y 1 (by first | assumption | omega) (by first | assumption | omega)) ⟨tb756, tb759, tb7, ⟨by decide, by decide, rfl⟩, rfl, rfl, Nat.le_of_ble_eq_true rfl, Nat.le_of_ble_eq_true rfl⟩ tb757 tb758 6 3 rfl rfl rfl rfl [6, 7] [0, 1, 2, 3, 4, 5, 8, 9] rfl rfl rfl rfl rfl (Nat.le_of_ble_eq_true rfl) ⟨Nat.le_of_ble_eq_true rfl, Nat.le_of_ble_eq_true rfl⟩ dX6_lay_18 (fun _ H locs _ X => ?_)
      have X : Hx D zA zs H locs (lW a hL hT im bs rd hS sh kb rf ++ hsW tk sh (sA 0) (sA 1) (sA 2) (sA 3) ++ shW tk (sA 0) (sC 0) (kn 0) (kl 0) (kc 0) ++ shW tk (sA 1) (sC 1) (kn 1) (kl 1) (kc 1) ++ shW tk (sA 3) (sC 3) (kn 3) (kl 3) (kc 3) ++ shW tk (sA 2) (sC 2) (kn 2) (kl 2) (kc 2)) := X
      have X : Hx D zA zs H locs (lW a hL hT im bs rd hS sh kb rf ++ hsW tk sh (sA 0) (sA 1) (sA 2) (sA 3) ++ shW tk (sA 0) (sC 0) (kn 0) (kl 0) (kc 0) ++ shW tk (sA 1) (sC 1) (kn 1) (kl 1) (kc 1) ++ shW tk (sA 2) (sC 2) (kn 2) (kl 2) (kc 2) ++ shW tk (sA 3) (sC 3) (kn 3) (kl 3) (kc 3)) := X.sub [0, 1, 2, 3, 4, 5, 8, 9, 6, 7] rfl rfl
      refine g_top (y := nI (fcl (kl 2) (kn 2) y)) (by rfl) ?_
      have hfl := fcl_le (kl 2) (kn 2) y
      refine lv_istore (lv' := [(4, .int (nI (fcl (kl 2) (kn 2) y))), (0, .ref a), (1, .int (nI 2)), (2, .int y), (3, .int z)]) hx hb dX6_lay_21 hl (by decide) rfl (fun ls hl => ?_)
      refine lv_iload hx hb dX6_lay_23 (lv_at hl 0 rfl) ?_
      refine g_ifeq (x := fcl (kl 2) (kn 2) y) (tgt := 34) C0 (by omega) dX6_lay_25 rfl (fun c7 => ?_) (fun c8 => ?_)
      · obtain ⟨yq, hyq, rfl⟩ := fcl_0 (by omega) c7
        refine lv_aload_n hx hb dX6_lay_34 rfl (lv_at hl 1 rfl) ?_
        refine g_get (v := .ref sh) C0 X kX6 0 6 tb206 rfl rfl rfl dX6_lay_35 ?_
        refine lv_iload_n hx hb dX6_lay_38 rfl (lv_at hl 2 rfl) ?_
        refine g_aald (v := sA 2) (i := 2) C0 X 1 4 rfl rfl (by decide) rfl rfl dX6_lay_39 ?_
        refine lv_iload_n hx hb dX6_lay_40 rfl (lv_at hl 3 rfl) ?_
        refine lv_iload_n hx hb dX6_lay_41 rfl (lv_at hl 4 rfl) ?_
        refine g_callV (As := [.int (nI yq), .int z]) (rest := []) (wr := (lW a hL hT im bs rd hS sh kb rf ++ hsW tk sh (sA 0) (sA 1) (sA 2) (sA 3) ++ shW tk (sA 0) (sC 0) (kn 0) (kl 0) (kc 0) ++ shW tk (sA 1) (sC 1) (kn 1) (kl 1) (kc 1) ++ shW tk (sA 3) (sC 3) (kn 3) (kl 3) (kc 3))) (C0.sz hl) X (c_X3_put l D tk (sA 2) (sC 2) (kn 2) (kl 2) (kc 2) yq z (by first | assumption | omega)) ⟨tb765, tb768, tb7, ⟨by decide, by decide, rfl⟩, rfl, rfl, Nat.le_of_ble_eq_true rfl, Nat.le_of_ble_eq_true rfl⟩ tb766 tb767 6 3 rfl rfl rfl rfl [6, 7] [0, 1, 2, 3, 4, 5, 8, 9] rfl rfl rfl rfl rfl (Nat.le_of_ble_eq_true rfl) ⟨Nat.le_of_ble_eq_true rfl, Nat.le_of_ble_eq_true rfl⟩ dX6_lay_42 (fun _ H locs _ X => ?_)
        have X : Hx D zA zs H locs (lW a hL hT im bs rd hS sh kb rf ++ hsW tk sh (sA 0) (sA 1) (sA 2) (sA 3) ++ shW tk (sA 0) (sC 0) (kn 0) (kl 0) (kc 0) ++ shW tk (sA 1) (sC 1) (kn 1) (kl 1) (kc 1) ++ shW tk (sA 3) (sC 3) (kn 3) (kl 3) (kc 3) ++ shW tk (sA 2) (sC 2) (kn 2) (kl 2) (upd (kc 2) yq (narr (kl 2) z))) := X
        have X : Hx D zA zs H locs (lW a hL hT im bs rd hS sh kb rf ++ hsW tk sh (sA 0) (sA 1) (sA 2) (sA 3) ++ shW tk (sA 0) (sC 0) (kn 0) (kl 0) (kc 0) ++ shW tk (sA 1) (sC 1) (kn 1) (kl 1) (kc 1) ++ shW tk (sA 2) (sC 2) (kn 2) (kl 2) (upd (kc 2) yq (narr (kl 2) z)) ++ shW tk (sA 3) (sC 3) (kn 3) (kl 3) (kc 3)) := X.sub [0, 1, 2, 3, 4, 5, 8, 9, 6, 7] rfl rfl
        refine g_iconst (n := 1) C0 rfl dX6_lay_45 ?_
        exact hE (v := nI 1) () (by simp only [a_lay, c1, c7, tn_nI (k := 2) (by omega), tn_nI (k := yq) (by omega), if_true, if_false, Bool.false_eq_true, Bool.and_self, Bool.and_true, Bool.and_false, Bool.true_and, Bool.false_and, Bool.not_true, Bool.not_false, decide_true, decide_false]) trivial (X.to (by simp only [layC, c1, c7, tn_nI (k := 2) (by omega), tn_nI (k := yq) (by omega), ua, if_true, if_false, Bool.false_eq_true, Bool.and_self, Bool.and_true, Bool.and_false, Bool.true_and, Bool.false_and, Bool.not_true, Bool.not_false, decide_true, decide_false] <;> rfl)) dX6_lay_46
      · refine lv_bipush (v := (-10)) hx hb dX6_lay_28 (by decide) ?_
        refine lv_iload hx hb dX6_lay_30 (lv_at hl 0 rfl) ?_
        refine lv_isub hx hb dX6_lay_32 ?_
        exact hE (v := (-10) - (nI (fcl (kl 2) (kn 2) y))) () (by simp only [a_lay, c1, c8, tn_nI (k := 2) (by omega), show ¬ fcl (kl 2) (kn 2) y = 0 by omega, if_true, if_false, Bool.false_eq_true, Bool.and_self, Bool.and_true, Bool.and_false, Bool.true_and, Bool.false_and, Bool.not_true, Bool.not_false, decide_true, decide_false]) trivial (X.to (by simp only [layC, c1, c8, tn_nI (k := 2) (by omega), ua, show ¬ fcl (kl 2) (kn 2) y = 0 by omega, if_true, if_false, Bool.false_eq_true, Bool.and_self, Bool.and_true, Bool.and_false, Bool.true_and, Bool.false_and, Bool.not_true, Bool.not_false, decide_true, decide_false] <;> rfl)) dX6_lay_33
    · refine g_get (v := .ref sh) C0 X kX6 0 6 tb206 rfl rfl rfl dX6_lay_11 ?_
      refine lv_iload_n hx hb dX6_lay_14 rfl (lv_at hl 1 rfl) ?_
      refine g_aald (v := sA 3) (i := 3) C0 X 1 4 rfl rfl (by decide) rfl rfl dX6_lay_15 ?_
      refine lv_iload_n hx hb dX6_lay_16 rfl (lv_at hl 2 rfl) ?_
      refine g_iconst (n := 1) C0 rfl dX6_lay_17 ?_
      refine g_callV (As := [.int y, .int (nI 1)]) (rest := []) (wr := (lW a hL hT im bs rd hS sh kb rf ++ hsW tk sh (sA 0) (sA 1) (sA 2) (sA 3) ++ shW tk (sA 0) (sC 0) (kn 0) (kl 0) (kc 0) ++ shW tk (sA 1) (sC 1) (kn 1) (kl 1) (kc 1) ++ shW tk (sA 2) (sC 2) (kn 2) (kl 2) (kc 2))) (C0.sz hl) X (c_X3_faultOfCells l D tk (sA 3) (sC 3) (kn 3) (kl 3) (kc 3) y 1 (by first | assumption | omega) (by first | assumption | omega)) ⟨tb756, tb759, tb7, ⟨by decide, by decide, rfl⟩, rfl, rfl, Nat.le_of_ble_eq_true rfl, Nat.le_of_ble_eq_true rfl⟩ tb757 tb758 8 3 rfl rfl rfl rfl [8, 9] [0, 1, 2, 3, 4, 5, 6, 7] rfl rfl rfl rfl rfl (Nat.le_of_ble_eq_true rfl) ⟨Nat.le_of_ble_eq_true rfl, Nat.le_of_ble_eq_true rfl⟩ dX6_lay_18 (fun _ H locs _ X => ?_)
      have X : Hx D zA zs H locs (lW a hL hT im bs rd hS sh kb rf ++ hsW tk sh (sA 0) (sA 1) (sA 2) (sA 3) ++ shW tk (sA 0) (sC 0) (kn 0) (kl 0) (kc 0) ++ shW tk (sA 1) (sC 1) (kn 1) (kl 1) (kc 1) ++ shW tk (sA 2) (sC 2) (kn 2) (kl 2) (kc 2) ++ shW tk (sA 3) (sC 3) (kn 3) (kl 3) (kc 3)) := X
      refine g_top (y := nI (fcl (kl 3) (kn 3) y)) (by rfl) ?_
      have hfl := fcl_le (kl 3) (kn 3) y
      refine lv_istore (lv' := [(4, .int (nI (fcl (kl 3) (kn 3) y))), (0, .ref a), (1, .int (nI 3)), (2, .int y), (3, .int z)]) hx hb dX6_lay_21 hl (by decide) rfl (fun ls hl => ?_)
      refine lv_iload hx hb dX6_lay_23 (lv_at hl 0 rfl) ?_
      refine g_ifeq (x := fcl (kl 3) (kn 3) y) (tgt := 34) C0 (by omega) dX6_lay_25 rfl (fun c9 => ?_) (fun c10 => ?_)
      · obtain ⟨yq, hyq, rfl⟩ := fcl_0 (by omega) c9
        refine lv_aload_n hx hb dX6_lay_34 rfl (lv_at hl 1 rfl) ?_
        refine g_get (v := .ref sh) C0 X kX6 0 6 tb206 rfl rfl rfl dX6_lay_35 ?_
        refine lv_iload_n hx hb dX6_lay_38 rfl (lv_at hl 2 rfl) ?_
        refine g_aald (v := sA 3) (i := 3) C0 X 1 4 rfl rfl (by decide) rfl rfl dX6_lay_39 ?_
        refine lv_iload_n hx hb dX6_lay_40 rfl (lv_at hl 3 rfl) ?_
        refine lv_iload_n hx hb dX6_lay_41 rfl (lv_at hl 4 rfl) ?_
        refine g_callV (As := [.int (nI yq), .int z]) (rest := []) (wr := (lW a hL hT im bs rd hS sh kb rf ++ hsW tk sh (sA 0) (sA 1) (sA 2) (sA 3) ++ shW tk (sA 0) (sC 0) (kn 0) (kl 0) (kc 0) ++ shW tk (sA 1) (sC 1) (kn 1) (kl 1) (kc 1) ++ shW tk (sA 2) (sC 2) (kn 2) (kl 2) (kc 2))) (C0.sz hl) X (c_X3_put l D tk (sA 3) (sC 3) (kn 3) (kl 3) (kc 3) yq z (by first | assumption | omega)) ⟨tb765, tb768, tb7, ⟨by decide, by decide, rfl⟩, rfl, rfl, Nat.le_of_ble_eq_true rfl, Nat.le_of_ble_eq_true rfl⟩ tb766 tb767 8 3 rfl rfl rfl rfl [8, 9] [0, 1, 2, 3, 4, 5, 6, 7] rfl rfl rfl rfl rfl (Nat.le_of_ble_eq_true rfl) ⟨Nat.le_of_ble_eq_true rfl, Nat.le_of_ble_eq_true rfl⟩ dX6_lay_42 (fun _ H locs _ X => ?_)
        have X : Hx D zA zs H locs (lW a hL hT im bs rd hS sh kb rf ++ hsW tk sh (sA 0) (sA 1) (sA 2) (sA 3) ++ shW tk (sA 0) (sC 0) (kn 0) (kl 0) (kc 0) ++ shW tk (sA 1) (sC 1) (kn 1) (kl 1) (kc 1) ++ shW tk (sA 2) (sC 2) (kn 2) (kl 2) (kc 2) ++ shW tk (sA 3) (sC 3) (kn 3) (kl 3) (upd (kc 3) yq (narr (kl 3) z))) := X
        refine g_iconst (n := 1) C0 rfl dX6_lay_45 ?_
        exact hE (v := nI 1) () (by simp only [a_lay, c1, c9, tn_nI (k := 3) (by omega), tn_nI (k := yq) (by omega), if_true, if_false, Bool.false_eq_true, Bool.and_self, Bool.and_true, Bool.and_false, Bool.true_and, Bool.false_and, Bool.not_true, Bool.not_false, decide_true, decide_false]) trivial (X.to (by simp only [layC, c1, c9, tn_nI (k := 3) (by omega), tn_nI (k := yq) (by omega), ua, if_true, if_false, Bool.false_eq_true, Bool.and_self, Bool.and_true, Bool.and_false, Bool.true_and, Bool.false_and, Bool.not_true, Bool.not_false, decide_true, decide_false] <;> rfl)) dX6_lay_46
      · refine lv_bipush (v := (-10)) hx hb dX6_lay_28 (by decide) ?_
        refine lv_iload hx hb dX6_lay_30 (lv_at hl 0 rfl) ?_
        refine lv_isub hx hb dX6_lay_32 ?_
        exact hE (v := (-10) - (nI (fcl (kl 3) (kn 3) y))) () (by simp only [a_lay, c1, c10, tn_nI (k := 3) (by omega), show ¬ fcl (kl 3) (kn 3) y = 0 by omega, if_true, if_false, Bool.false_eq_true, Bool.and_self, Bool.and_true, Bool.and_false, Bool.true_and, Bool.false_and, Bool.not_true, Bool.not_false, decide_true, decide_false]) trivial (X.to (by simp only [layC, c1, c10, tn_nI (k := 3) (by omega), ua, show ¬ fcl (kl 3) (kn 3) y = 0 by omega, if_true, if_false, Bool.false_eq_true, Bool.and_self, Bool.and_true, Bool.and_false, Bool.true_and, Bool.false_and, Bool.not_true, Bool.not_false, decide_true, decide_false] <;> rfl)) dX6_lay_33
  · refine lv_iconst (v := (-1)) hx hb dX6_lay_8 (by decide) ?_
    exact hE (v := (-1)) () (by simp only [a_lay, c2, if_true, if_false, Bool.false_eq_true, Bool.and_self, Bool.and_true, Bool.and_false, Bool.true_and, Bool.false_and, Bool.not_true, Bool.not_false, decide_true, decide_false]) trivial (X.to (by simp only [layC, c2, ua, if_true, if_false, Bool.false_eq_true, Bool.and_self, Bool.and_true, Bool.and_false, Bool.true_and, Bool.false_and, Bool.not_true, Bool.not_false, decide_true, decide_false])) dX6_lay_9
set_option maxHeartbeats 4000000 in
set_option maxRecDepth 100000 in
theorem c_X6_read (l : Launch) (D : va_G) (tk : Nat → ClassId) (a : Nat) (hL hT : Nat → Nat) (im bs rd : Nat) (hS : Nat → Nat) (sh kb rf : Nat) (G : Nat → Nat → Nat) (d e : Nat → Nat) (sA sC kn : Nat → Nat) (kl : Nat → Int32) (kc : Nat → Nat → Int32) (x y z w : Int32) (hw : GW G) (hkn : ∀ k, k < 4 → kn k ≤ 40) : MX l yX6_read cX6_read 10 (some .int) ⟨3, 0, 0, 66⟩ D (TYS tk) [.ref a, .int x, .int y, .int z, .int w] (lW a hL hT im bs rd hS sh kb rf ++ gW tk hL G d e ++ hsW tk sh (sA 0) (sA 1) (sA 2) (sA 3) ++ shW tk (sA 0) (sC 0) (kn 0) (kl 0) (kc 0) ++ shW tk (sA 1) (sC 1) (kn 1) (kl 1) (kc 1) ++ shW tk (sA 2) (sC 2) (kn 2) (kl 2) (kc 2) ++ shW tk (sA 3) (sC 3) (kn 3) (kl 3) (kc 3)) (fun (_ : Unit) => True) (fun _ => some (.int (a_read (cgv G) (kl (tn x)) (kn (tn x)) (kc (tn x)) x y z w))) (fun _ => lW a hL hT im bs rd hS sh kb (readF (cgv G) rf (kl (tn x)) (kn (tn x)) (kc (tn x)) x y z w) ++ gW tk hL (readG G (kl (tn x)) (kn (tn x)) (kc (tn x)) x y z w) d e ++ hsW tk sh (sA 0) (sA 1) (sA 2) (sA 3) ++ shW tk (sA 0) (sC 0) (kn 0) (kl 0) (kc 0) ++ shW tk (sA 1) (sC 1) (kn 1) (kl 1) (kc 1) ++ shW tk (sA 2) (sC 2) (kn 2) (kl 2) (kc 2) ++ shW tk (sA 3) (sC 3) (kn 3) (kl 3) (kc 3)) 0 0 := by
  refine MX.of_i (by decide) rfl ?_
  intro zp ze zs zm za zb zt zc zA zQ ls C0 hnm X hl hE
  have hx := C0.1
  have hb := C0.2.1
  have ht := C0.2.2.2.2.1
  have X : Hx D zA zs zs.heap [] (lW a hL hT im bs rd hS sh kb rf ++ gW tk hL G d e ++ hsW tk sh (sA 0) (sA 1) (sA 2) (sA 3) ++ shW tk (sA 0) (sC 0) (kn 0) (kl 0) (kc 0) ++ shW tk (sA 1) (sC 1) (kn 1) (kl 1) (kc 1) ++ shW tk (sA 2) (sC 2) (kn 2) (kl 2) (kc 2) ++ shW tk (sA 3) (sC 3) (kn 3) (kl 3) (kc 3)) := X
  have hl : lv_has ls 10 [(0, .ref a), (1, .int x), (2, .int y), (3, .int z), (4, .int w)] := hl
  have hk0 := hkn 0 (by decide)
  have hk1 := hkn 1 (by decide)
  have hk2 := hkn 2 (by decide)
  have hk3 := hkn 3 (by decide)
  obtain ⟨H, hH⟩ : ∃ H, H = zs.heap := ⟨_, rfl⟩
  rw [← hH] at X ⊢
  obtain ⟨locs, hlo⟩ : ∃ L : List Loc, L = [] := ⟨_, rfl⟩
  rw [← hlo] at X ⊢
  refine lv_aload_n hx hb dX6_read_0 rfl (lv_at hl 0 rfl) ?_
  refine lv_iload_n hx hb dX6_read_1 rfl (lv_at hl 1 rfl) ?_
  refine g_callV (As := [.int x]) (rest := []) (wr := (gW tk hL G d e ++ shW tk (sA 0) (sC 0) (kn 0) (kl 0) (kc 0) ++ shW tk (sA 1) (sC 1) (kn 1) (kl 1) (kc 1) ++ shW tk (sA 2) (sC 2) (kn 2) (kl 2) (kc 2) ++ shW tk (sA 3) (sC 3) (kn 3) (kl 3) (kc 3))) (C0.sz hl) X (c_X6_isSheet l D tk a hL hT im bs rd hS sh kb rf (sA 0) (sA 1) (sA 2) (sA 3) x) ⟨tb740, tb743, tb1, ⟨by decide, by decide, rfl⟩, rfl, rfl, Nat.le_of_ble_eq_true rfl, Nat.le_of_ble_eq_true rfl⟩ tb742 tbs20 0 6 rfl rfl rfl rfl [0, 11] [1, 2, 3, 4, 5, 6, 7, 8, 9, 10, 12, 13, 14, 15, 16, 17, 18, 19] rfl rfl rfl rfl rfl (Nat.le_of_ble_eq_true rfl) ⟨Nat.le_of_ble_eq_true rfl, Nat.le_of_ble_eq_true rfl⟩ dX6_read_2 (fun _ H locs _ X => ?_)
  have X : Hx D zA zs H locs (gW tk hL G d e ++ shW tk (sA 0) (sC 0) (kn 0) (kl 0) (kc 0) ++ shW tk (sA 1) (sC 1) (kn 1) (kl 1) (kc 1) ++ shW tk (sA 2) (sC 2) (kn 2) (kl 2) (kc 2) ++ shW tk (sA 3) (sC 3) (kn 3) (kl 3) (kc 3) ++ lW a hL hT im bs rd hS sh kb rf ++ hsW tk sh (sA 0) (sA 1) (sA 2) (sA 3)) := X
  have X : Hx D zA zs H locs (lW a hL hT im bs rd hS sh kb rf ++ gW tk hL G d e ++ hsW tk sh (sA 0) (sA 1) (sA 2) (sA 3) ++ shW tk (sA 0) (sC 0) (kn 0) (kl 0) (kc 0) ++ shW tk (sA 1) (sC 1) (kn 1) (kl 1) (kc 1) ++ shW tk (sA 2) (sC 2) (kn 2) (kl 2) (kc 2) ++ shW tk (sA 3) (sC 3) (kn 3) (kl 3) (kc 3)) := X.sub [18, 0, 1, 2, 3, 4, 5, 6, 7, 8, 9, 19, 10, 11, 12, 13, 14, 15, 16, 17] rfl rfl
  refine g_ifeqB (x := rg x 0 3) (tgt := 26) C0 dX6_read_5 rfl (fun c1 => ?_) (fun c2 => ?_)
  · refine lv_iconst (v := (-1)) hx hb dX6_read_26 (by decide) ?_
    exact hE (v := (-1)) () (by simp only [a_read, c1, if_true, if_false, Bool.false_eq_true, Bool.and_self, Bool.and_true, Bool.and_false, Bool.true_and, Bool.false_and, Bool.not_true, Bool.not_false, decide_true, decide_false]) trivial (X.to (by simp only [readF, readG, c1, if_true, if_false, Bool.false_eq_true, Bool.and_self, Bool.and_true, Bool.and_false, Bool.true_and, Bool.false_and, Bool.not_true, Bool.not_false, decide_true, decide_false])) dX6_read_27
  · obtain ⟨xq, hk_xqa, hk_xqb, hk_xqc, rfl⟩ := rg_sp c2
    refine lv_iload_n hx hb dX6_read_8 rfl (lv_at hl 2 rfl) ?_
    refine g_callS (As := [.int y]) (rest := []) (wr := (lW a hL hT im bs rd hS sh kb rf ++ gW tk hL G d e ++ hsW tk sh (sA 0) (sA 1) (sA 2) (sA 3) ++ shW tk (sA 0) (sC 0) (kn 0) (kl 0) (kc 0) ++ shW tk (sA 1) (sC 1) (kn 1) (kl 1) (kc 1) ++ shW tk (sA 2) (sC 2) (kn 2) (kl 2) (kc 2) ++ shW tk (sA 3) (sC 3) (kn 3) (kl 3) (kc 3))) (C0.sz hl) X (c_X6_isLane l D tk y) ⟨tb744, tb746, tb1, ⟨by decide, by decide, rfl⟩, rfl, rfl, Nat.le_of_ble_eq_true rfl, Nat.le_of_ble_eq_true rfl⟩ tb745 rfl [] [0, 1, 2, 3, 4, 5, 6, 7, 8, 9, 10, 11, 12, 13, 14, 15, 16, 17, 18, 19] rfl rfl rfl rfl rfl (Nat.le_of_ble_eq_true rfl) ⟨Nat.le_of_ble_eq_true rfl, Nat.le_of_ble_eq_true rfl⟩ dX6_read_9 (fun _ H locs _ X => ?_)
    have X : Hx D zA zs H locs (lW a hL hT im bs rd hS sh kb rf ++ gW tk hL G d e ++ hsW tk sh (sA 0) (sA 1) (sA 2) (sA 3) ++ shW tk (sA 0) (sC 0) (kn 0) (kl 0) (kc 0) ++ shW tk (sA 1) (sC 1) (kn 1) (kl 1) (kc 1) ++ shW tk (sA 2) (sC 2) (kn 2) (kl 2) (kc 2) ++ shW tk (sA 3) (sC 3) (kn 3) (kl 3) (kc 3)) := X
    refine g_ifeqB (x := rg y 0 2) (tgt := 26) C0 dX6_read_12 rfl (fun c3 => ?_) (fun c4 => ?_)
    · refine lv_iconst (v := (-1)) hx hb dX6_read_26 (by decide) ?_
      exact hE (v := (-1)) () (by simp only [a_read, c2, c3, tn_nI (k := xq) (by omega), if_true, if_false, Bool.false_eq_true, Bool.and_self, Bool.and_true, Bool.and_false, Bool.true_and, Bool.false_and, Bool.not_true, Bool.not_false, decide_true, decide_false]) trivial (X.to (by simp only [readF, readG, c2, c3, tn_nI (k := xq) (by omega), if_true, if_false, Bool.false_eq_true, Bool.and_self, Bool.and_true, Bool.and_false, Bool.true_and, Bool.false_and, Bool.not_true, Bool.not_false, decide_true, decide_false])) dX6_read_27
    · obtain ⟨yq, hk_yqa, hk_yqb, hk_yqc, rfl⟩ := rg_sp c4
      refine lv_iload hx hb dX6_read_15 (lv_at hl 4 rfl) ?_
      refine g_iconst (n := 0) C0 rfl dX6_read_17 ?_
      refine g_bipush (n := 13) C0 (by decide) dX6_read_18 ?_
      refine g_callS (As := [.int w, .int (nI 0), .int (nI 13)]) (rest := []) (wr := (lW a hL hT im bs rd hS sh kb rf ++ gW tk hL G d e ++ hsW tk sh (sA 0) (sA 1) (sA 2) (sA 3) ++ shW tk (sA 0) (sC 0) (kn 0) (kl 0) (kc 0) ++ shW tk (sA 1) (sC 1) (kn 1) (kl 1) (kc 1) ++ shW tk (sA 2) (sC 2) (kn 2) (kl 2) (kc 2) ++ shW tk (sA 3) (sC 3) (kn 3) (kl 3) (kc 3))) (C0.sz hl) X (c_X6_within l D tk w (nI 0) (nI 13)) ⟨tb232, tb234, tb1, ⟨by decide, by decide, rfl⟩, rfl, rfl, Nat.le_of_ble_eq_true rfl, Nat.le_of_ble_eq_true rfl⟩ tb233 rfl [] [0, 1, 2, 3, 4, 5, 6, 7, 8, 9, 10, 11, 12, 13, 14, 15, 16, 17, 18, 19] rfl rfl rfl rfl rfl (Nat.le_of_ble_eq_true rfl) ⟨Nat.le_of_ble_eq_true rfl, Nat.le_of_ble_eq_true rfl⟩ dX6_read_20 (fun _ H locs _ X => ?_)
      have X : Hx D zA zs H locs (lW a hL hT im bs rd hS sh kb rf ++ gW tk hL G d e ++ hsW tk sh (sA 0) (sA 1) (sA 2) (sA 3) ++ shW tk (sA 0) (sC 0) (kn 0) (kl 0) (kc 0) ++ shW tk (sA 1) (sC 1) (kn 1) (kl 1) (kc 1) ++ shW tk (sA 2) (sC 2) (kn 2) (kl 2) (kc 2) ++ shW tk (sA 3) (sC 3) (kn 3) (kl 3) (kc 3)) := X
      refine g_top (y := nI (rb (rg w 0 13))) (by rw [inI_rg w (by first | decide | omega) (by first | decide | omega)]) ?_
      refine g_ifneB (x := rg w 0 13) (tgt := 28) C0 dX6_read_23 rfl (fun c5 => ?_) (fun c6 => ?_)
      · obtain ⟨wq, hk_wqa, hk_wqb, hk_wqc, rfl⟩ := rg_sp c5
        refine lv_aload_n hx hb dX6_read_28 rfl (lv_at hl 0 rfl) ?_
        rcases (show xq = 0 ∨ xq = 1 ∨ xq = 2 ∨ xq = 3 by omega) with rfl | rfl | rfl | rfl
        · refine g_get (v := .ref sh) C0 X kX6 0 6 tb206 rfl rfl rfl dX6_read_29 ?_
          refine lv_iload_n hx hb dX6_read_32 rfl (lv_at hl 1 rfl) ?_
          refine g_aald (v := sA 0) (i := 0) C0 X 11 4 rfl rfl (by decide) rfl rfl dX6_read_33 ?_
          refine lv_astore (lv' := [(5, .ref (sA 0)), (0, .ref a), (1, .int (nI 0)), (2, .int (nI yq)), (3, .int z), (4, .int (nI wq))]) hx hb dX6_read_34 hl (by decide) rfl (fun ls hl => ?_)
          refine lv_aload_n hx hb dX6_read_36 rfl (lv_at hl 1 rfl) ?_
          refine g_get (v := .ref (hL 0)) C0 X kX6 0 0 tb200 rfl rfl rfl dX6_read_37 ?_
          refine g_get (v := .int (nI (G 8 3))) C0 X kX1 1 8 tb52 rfl rfl rfl dX6_read_40 ?_
          refine lv_istore (lv' := [(6, .int (nI (G 8 3))), (5, .ref (sA 0)), (0, .ref a), (1, .int (nI 0)), (2, .int (nI yq)), (3, .int z), (4, .int (nI wq))]) hx hb dX6_read_43 hl (by decide) rfl (fun ls hl => ?_)
          refine g_iconst (n := 0) C0 rfl dX6_read_45 ?_
          refine lv_istore (lv' := [(7, .int (nI 0)), (6, .int (nI (G 8 3))), (5, .ref (sA 0)), (0, .ref a), (1, .int (nI 0)), (2, .int (nI yq)), (3, .int z), (4, .int (nI wq))]) hx hb dX6_read_46 hl (by decide) rfl (fun ls hl => ?_)
          refine g_iconst (n := 0) C0 rfl dX6_read_48 ?_
          refine lv_istore (lv' := [(8, .int (nI 0)), (7, .int (nI 0)), (6, .int (nI (G 8 3))), (5, .ref (sA 0)), (0, .ref a), (1, .int (nI 0)), (2, .int (nI yq)), (3, .int z), (4, .int (nI wq))]) hx hb dX6_read_49 hl (by decide) rfl (fun ls hl => ?_)
          have J51 : ∀ (fz : Nat) (ci ft : Nat) (G1 : Nat → Nat → Nat), 2 * (wq - ci) + 1 - ft < fz → ∀ (hci : ci ≤ wq) (hft : ft ≤ 3) (hG1 : G1 = rdG G z (kc 0) ci) (hI : rdI (cgv G) (kl 0) (kn 0) (kc 0) (nI yq) z wq ci ft) (H : Heap) (locs : List Loc) (ls : Array Slot), Hx D zA zs H locs (lW a hL hT im bs rd hS sh kb rf ++ gW tk hL G1 d e ++ hsW tk sh (sA 0) (sA 1) (sA 2) (sA 3) ++ shW tk (sA 0) (sC 0) (kn 0) (kl 0) (kc 0) ++ shW tk (sA 1) (sC 1) (kn 1) (kl 1) (kc 1) ++ shW tk (sA 2) (sC 2) (kn 2) (kl 2) (kc 2) ++ shW tk (sA 3) (sC 3) (kn 3) (kl 3) (kc 3)) → lv_has ls 10 [(8, .int (nI ci)), (7, .int (nI ft)), (6, .int (nI (G 8 3))), (5, .ref (sA 0)), (0, .ref a), (1, .int (nI 0)), (2, .int (nI yq)), (3, .int z), (4, .int (nI wq))] → W zp l ze ⟨3, 0, 0, 66⟩ zs zm za zb zt zc H locs 0 0 zQ (F0 zm 51 ls []) := by
            intro fz
            induction fz with
            | zero => intro ci ft G1 hz; exact absurd hz (Nat.not_lt_zero _)
            | succ fz ih51 =>
              intro ci ft G1 hz51 hci hft hG1 hI H locs ls X hl
              refine lv_iload hx hb dX6_read_51 (lv_at hl 0 rfl) ?_
              refine lv_iload hx hb dX6_read_53 (lv_at hl 8 rfl) ?_
              refine g_icmp_ge (x := ci) (y := wq) (tgt := 143) C0 (by omega) (by omega) dX6_read_55 rfl (fun c7 => ?_) (fun c8 => ?_)
              · refine lv_aload_n hx hb dX6_read_143 rfl (lv_at hl 4 rfl) ?_
                refine lv_iload hx hb dX6_read_144 (lv_at hl 1 rfl) ?_
                refine g_put (v := .int (nI ft)) (ft := .int) C0 X kX6 0 8 tb208 rfl rfl rfl rfl rfl rfl rfl dX6_read_146 (fun H locs X => ?_)
                have X : Hx D zA zs H locs (lW a hL hT im bs rd hS sh kb ft ++ gW tk hL G1 d e ++ hsW tk sh (sA 0) (sA 1) (sA 2) (sA 3) ++ shW tk (sA 0) (sC 0) (kn 0) (kl 0) (kc 0) ++ shW tk (sA 1) (sC 1) (kn 1) (kl 1) (kc 1) ++ shW tk (sA 2) (sC 2) (kn 2) (kl 2) (kc 2) ++ shW tk (sA 3) (sC 3) (kn 3) (kl 3) (kc 3)) := X
                refine lv_iload hx hb dX6_read_149 (lv_at hl 0 rfl) ?_
                have hB := rdI_e hI hci (by omega)
                have hB3 := hB.2.2
                rw [hB.1] at hB3
                exact hE (v := nI ci) () (by simp only [a_read, c2, c4, c5, tn_nI (k := 0) (by omega), tn_nI (k := wq) (by omega), hB.1, hB.2.1, if_true, if_false, Bool.false_eq_true, Bool.and_self, Bool.and_true, Bool.and_false, Bool.true_and, Bool.false_and, Bool.not_true, Bool.not_false, decide_true, decide_false]) trivial (X.to (by rw [hG1]; simp only [readF, readG, c2, c4, c5, tn_nI (k := 0) (by omega), tn_nI (k := wq) (by omega), hB.1, hB.2.1, if_true, if_false, Bool.false_eq_true, Bool.and_self, Bool.and_true, Bool.and_false, Bool.true_and, Bool.false_and, Bool.not_true, Bool.not_false, decide_true, decide_false]; rw [← hB3])) dX6_read_151
              · refine lv_iload hx hb dX6_read_58 (lv_at hl 1 rfl) ?_
                refine g_ifne (x := ft) (tgt := 143) C0 (by omega) dX6_read_60 rfl (fun c9 => ?_) (fun c10 => ?_)
                · refine lv_aload_n hx hb dX6_read_143 rfl (lv_at hl 4 rfl) ?_
                  refine lv_iload hx hb dX6_read_144 (lv_at hl 1 rfl) ?_
                  refine g_put (v := .int (nI ft)) (ft := .int) C0 X kX6 0 8 tb208 rfl rfl rfl rfl rfl rfl rfl dX6_read_146 (fun H locs X => ?_)
                  have X : Hx D zA zs H locs (lW a hL hT im bs rd hS sh kb ft ++ gW tk hL G1 d e ++ hsW tk sh (sA 0) (sA 1) (sA 2) (sA 3) ++ shW tk (sA 0) (sC 0) (kn 0) (kl 0) (kc 0) ++ shW tk (sA 1) (sC 1) (kn 1) (kl 1) (kc 1) ++ shW tk (sA 2) (sC 2) (kn 2) (kl 2) (kc 2) ++ shW tk (sA 3) (sC 3) (kn 3) (kl 3) (kc 3)) := X
                  refine lv_iload hx hb dX6_read_149 (lv_at hl 0 rfl) ?_
                  have hB := rdI_e hI hci (by omega)
                  have hB3 := hB.2.2
                  rw [hB.1] at hB3
                  exact hE (v := nI ci) () (by simp only [a_read, c2, c4, c5, tn_nI (k := 0) (by omega), tn_nI (k := wq) (by omega), hB.1, hB.2.1, if_true, if_false, Bool.false_eq_true, Bool.and_self, Bool.and_true, Bool.and_false, Bool.true_and, Bool.false_and, Bool.not_true, Bool.not_false, decide_true, decide_false]) trivial (X.to (by rw [hG1]; simp only [readF, readG, c2, c4, c5, tn_nI (k := 0) (by omega), tn_nI (k := wq) (by omega), hB.1, hB.2.1, if_true, if_false, Bool.false_eq_true, Bool.and_self, Bool.and_true, Bool.and_false, Bool.true_and, Bool.false_and, Bool.not_true, Bool.not_false, decide_true, decide_false]; rw [← hB3])) dX6_read_151
                · refine lv_iload_n hx hb dX6_read_63 rfl (lv_at hl 7 rfl) ?_
                  refine g_iconst (n := 3) C0 rfl dX6_read_64 ?_
                  refine lv_iload hx hb dX6_read_65 (lv_at hl 0 rfl) ?_
                  refine g_imul (n := 3 * ci) C0 rfl dX6_read_67 ?_
                  refine lv_iadd hx hb dX6_read_68 ?_
                  refine lv_istore (lv' := [(9, .int (z + (nI (3 * ci)))), (8, .int (nI ci)), (7, .int (nI ft)), (6, .int (nI (G 8 3))), (5, .ref (sA 0)), (0, .ref a), (1, .int (nI 0)), (2, .int (nI yq)), (3, .int z), (4, .int (nI wq))]) hx hb dX6_read_69 hl (by decide) rfl (fun ls hl => ?_)
                  refine lv_aload hx hb dX6_read_71 (lv_at hl 4 rfl) ?_
                  refine lv_iload_n hx hb dX6_read_73 rfl (lv_at hl 7 rfl) ?_
                  refine lv_iload hx hb dX6_read_74 (lv_at hl 0 rfl) ?_
                  refine g_callV (As := [.int (nI yq), .int (z + (nI (3 * ci)))]) (rest := []) (wr := (lW a hL hT im bs rd hS sh kb rf ++ gW tk hL G1 d e ++ hsW tk sh (sA 0) (sA 1) (sA 2) (sA 3) ++ shW tk (sA 1) (sC 1) (kn 1) (kl 1) (kc 1) ++ shW tk (sA 2) (sC 2) (kn 2) (kl 2) (kc 2) ++ shW tk (sA 3) (sC 3) (kn 3) (kl 3) (kc 3))) (C0.sz hl) X (c_X3_faultOfReading l D tk (sA 0) (sC 0) (kn 0) (kl 0) (kc 0) (nI yq) (z + (nI (3 * ci))) (by first | assumption | omega)) ⟨tb773, tb776, tb7, ⟨by decide, by decide, rfl⟩, rfl, rfl, Nat.le_of_ble_eq_true rfl, Nat.le_of_ble_eq_true rfl⟩ tb774 tb775 12 3 rfl rfl rfl rfl [12, 13] [0, 1, 2, 3, 4, 5, 6, 7, 8, 9, 10, 11, 14, 15, 16, 17, 18, 19] rfl rfl rfl rfl rfl (Nat.le_of_ble_eq_true rfl) ⟨Nat.le_of_ble_eq_true rfl, Nat.le_of_ble_eq_true rfl⟩ dX6_read_76 (fun _ H locs _ X => ?_)
                  have X : Hx D zA zs H locs (lW a hL hT im bs rd hS sh kb rf ++ gW tk hL G1 d e ++ hsW tk sh (sA 0) (sA 1) (sA 2) (sA 3) ++ shW tk (sA 1) (sC 1) (kn 1) (kl 1) (kc 1) ++ shW tk (sA 2) (sC 2) (kn 2) (kl 2) (kc 2) ++ shW tk (sA 3) (sC 3) (kn 3) (kl 3) (kc 3) ++ shW tk (sA 0) (sC 0) (kn 0) (kl 0) (kc 0)) := X
                  have X : Hx D zA zs H locs (lW a hL hT im bs rd hS sh kb rf ++ gW tk hL G1 d e ++ hsW tk sh (sA 0) (sA 1) (sA 2) (sA 3) ++ shW tk (sA 0) (sC 0) (kn 0) (kl 0) (kc 0) ++ shW tk (sA 1) (sC 1) (kn 1) (kl 1) (kc 1) ++ shW tk (sA 2) (sC 2) (kn 2) (kl 2) (kc 2) ++ shW tk (sA 3) (sC 3) (kn 3) (kl 3) (kc 3)) := X.sub [0, 1, 2, 3, 4, 5, 6, 7, 8, 9, 10, 11, 18, 19, 12, 13, 14, 15, 16, 17] rfl rfl
                  refine g_top (y := nI (rdF (kl 0) (kn 0) (nI yq) (rdAt z ci))) (by rfl) ?_
                  have hfl := rdF_le (kl 0) (kn 0) (nI yq) (rdAt z ci)
                  refine lv_istore (lv' := [(7, .int (nI (rdF (kl 0) (kn 0) (nI yq) (rdAt z ci)))), (9, .int (z + (nI (3 * ci)))), (8, .int (nI ci)), (6, .int (nI (G 8 3))), (5, .ref (sA 0)), (0, .ref a), (1, .int (nI 0)), (2, .int (nI yq)), (3, .int z), (4, .int (nI wq))]) hx hb dX6_read_79 hl (by decide) rfl (fun ls hl => ?_)
                  refine lv_iload hx hb dX6_read_81 (lv_at hl 0 rfl) ?_
                  refine g_ifne (x := rdF (kl 0) (kn 0) (nI yq) (rdAt z ci)) (tgt := 140) C0 (by omega) dX6_read_83 rfl (fun c11 => ?_) (fun c12 => ?_)
                  · refine lv_goto (tgt := 51) hx hb dX6_read_140 (by decide) ?_
                    exact ih51 ci (rdF (kl 0) (kn 0) (nI yq) (rdAt z ci)) G1 (by omega) (by omega) (by omega) (by exact hG1) (by exact rdI_f (by have q := hI; rw [c10] at q; exact q) (by omega) rfl (by omega)) H locs ls X (lv_sub hl [2, 0, 3, 4, 5, 6, 7, 8, 9] rfl)
                  · obtain ⟨aq, haq, eaq⟩ := rdF_0 (by omega) c12
                    rw [show z + nI (3 * ci) = nI aq from eaq] at hl
                    refine lv_aload_n hx hb dX6_read_86 rfl (lv_at hl 5 rfl) ?_
                    refine lv_aload hx hb dX6_read_87 (lv_at hl 4 rfl) ?_
                    refine g_get (v := .ref (sC 0)) C0 X kX3 12 1 tb191 rfl rfl rfl dX6_read_89 ?_
                    refine lv_iload hx hb dX6_read_92 (lv_at hl 1 rfl) ?_
                    refine g_iald (v := (kc 0) aq) (i := aq) C0 X 13 0 rfl rfl (by omega) rfl rfl dX6_read_94 ?_
                    refine lv_aload hx hb dX6_read_95 (lv_at hl 4 rfl) ?_
                    refine g_get (v := .ref (sC 0)) C0 X kX3 12 1 tb191 rfl rfl rfl dX6_read_97 ?_
                    refine lv_iload hx hb dX6_read_100 (lv_at hl 1 rfl) ?_
                    refine g_iconst (n := 1) C0 rfl dX6_read_102 ?_
                    refine g_iadd (n := aq + 1) C0 (by first | rfl | omega) dX6_read_103 ?_
                    refine g_iald (v := (kc 0) (aq + 1)) (i := aq + 1) C0 X 13 0 rfl rfl (by omega) rfl rfl dX6_read_104 ?_
                    refine lv_aload hx hb dX6_read_105 (lv_at hl 4 rfl) ?_
                    refine g_get (v := .ref (sC 0)) C0 X kX3 12 1 tb191 rfl rfl rfl dX6_read_107 ?_
                    refine lv_iload hx hb dX6_read_110 (lv_at hl 1 rfl) ?_
                    refine g_iconst (n := 2) C0 rfl dX6_read_112 ?_
                    refine g_iadd (n := aq + 2) C0 (by first | rfl | omega) dX6_read_113 ?_
                    refine g_iald (v := (kc 0) (aq + 2)) (i := aq + 2) C0 X 13 0 rfl rfl (by omega) rfl rfl dX6_read_114 ?_
                    refine g_callV (As := [.int ((kc 0) aq), .int ((kc 0) (aq + 1)), .int ((kc 0) (aq + 2))]) (rest := []) (wr := (hsW tk sh (sA 0) (sA 1) (sA 2) (sA 3) ++ shW tk (sA 0) (sC 0) (kn 0) (kl 0) (kc 0) ++ shW tk (sA 1) (sC 1) (kn 1) (kl 1) (kc 1) ++ shW tk (sA 2) (sC 2) (kn 2) (kl 2) (kc 2) ++ shW tk (sA 3) (sC 3) (kn 3) (kl 3) (kc 3))) (C0.sz hl) X (c_X6_book l D tk a hL hT im bs rd hS sh kb rf G1 d e ((kc 0) aq) ((kc 0) (aq + 1)) ((kc 0) (aq + 2)) (by rw [hG1]; exact rdG_w hw _ hI.1)) ⟨tb778, tb533, tb1, ⟨by decide, by decide, rfl⟩, rfl, rfl, Nat.le_of_ble_eq_true rfl, Nat.le_of_ble_eq_true rfl⟩ tb531 tb532 0 6 rfl rfl rfl rfl [0, 1, 2, 3, 4, 5, 6, 7, 8, 9, 10] [11, 12, 13, 14, 15, 16, 17, 18, 19] rfl rfl rfl rfl rfl (Nat.le_of_ble_eq_true rfl) ⟨Nat.le_of_ble_eq_true rfl, Nat.le_of_ble_eq_true rfl⟩ dX6_read_115 (fun _ H locs _ X => ?_)
                    have X : Hx D zA zs H locs (hsW tk sh (sA 0) (sA 1) (sA 2) (sA 3) ++ shW tk (sA 0) (sC 0) (kn 0) (kl 0) (kc 0) ++ shW tk (sA 1) (sC 1) (kn 1) (kl 1) (kc 1) ++ shW tk (sA 2) (sC 2) (kn 2) (kl 2) (kc 2) ++ shW tk (sA 3) (sC 3) (kn 3) (kl 3) (kc 3) ++ lW a hL hT im bs rd hS sh kb rf ++ gW tk hL (bookG G1 ((kc 0) aq) ((kc 0) (aq + 1)) ((kc 0) (aq + 2))) d e) := X
                    have X : Hx D zA zs H locs (lW a hL hT im bs rd hS sh kb rf ++ gW tk hL (bookG G1 ((kc 0) aq) ((kc 0) (aq + 1)) ((kc 0) (aq + 2))) d e ++ hsW tk sh (sA 0) (sA 1) (sA 2) (sA 3) ++ shW tk (sA 0) (sC 0) (kn 0) (kl 0) (kc 0) ++ shW tk (sA 1) (sC 1) (kn 1) (kl 1) (kc 1) ++ shW tk (sA 2) (sC 2) (kn 2) (kl 2) (kc 2) ++ shW tk (sA 3) (sC 3) (kn 3) (kl 3) (kc 3)) := X.sub [9, 10, 11, 12, 13, 14, 15, 16, 17, 18, 19, 0, 1, 2, 3, 4, 5, 6, 7, 8] rfl rfl
                    refine lv_if_ge (tgt := 137) hx hb dX6_read_118 rfl (fun c13 => ?_) (fun c14 => ?_)
                    · have hok := rd_ok hG1 (by rw [hG1]; exact rdG_w hw _ hI.1) (show aq < 2 ^ 31 by omega) eaq c13
                      refine g_iinc (j := 1) (z := ci + 1) (lv' := [(8, .int (nI (ci + 1))), (7, .int (nI (rdF (kl 0) (kn 0) (nI yq) (rdAt z ci)))), (9, .int (nI aq)), (6, .int (nI (G 8 3))), (5, .ref (sA 0)), (0, .ref a), (1, .int (nI 0)), (2, .int (nI yq)), (3, .int z), (4, .int (nI wq))]) C0 rfl (by first | rfl | omega) dX6_read_137 hl (k := 2) rfl (by decide) rfl (fun ls hl => ?_)
                      refine lv_goto (tgt := 51) hx hb dX6_read_140 (by decide) ?_
                      exact ih51 (ci + 1) (rdF (kl 0) (kn 0) (nI yq) (rdAt z ci)) (bookG G1 ((kc 0) aq) ((kc 0) (aq + 1)) ((kc 0) (aq + 2))) (by omega) (by omega) (by omega) (by exact hok.2) (by rw [c12]; exact rdI_s (v := cgv G) (by have q := hI; rw [c10] at q; exact q) (by omega) c12 hok.1) H locs ls X (lv_sub hl [0, 1, 3, 4, 5, 6, 7, 8, 9] rfl)
                    · have hno := rd_no hG1 (by rw [hG1]; exact rdG_w hw _ hI.1) (show aq < 2 ^ 31 by omega) eaq c14
                      refine lv_aload_n hx hb dX6_read_121 rfl (lv_at hl 5 rfl) ?_
                      refine g_get (v := .ref (hL 0)) C0 X kX6 0 0 tb200 rfl rfl rfl dX6_read_122 ?_
                      refine lv_iload hx hb dX6_read_125 (lv_at hl 3 rfl) ?_
                      refine g_callV (As := [.int (nI (G 8 3))]) (rest := []) (wr := (lW a hL hT im bs rd hS sh kb rf ++ hsW tk sh (sA 0) (sA 1) (sA 2) (sA 3) ++ shW tk (sA 0) (sC 0) (kn 0) (kl 0) (kc 0) ++ shW tk (sA 1) (sC 1) (kn 1) (kl 1) (kc 1) ++ shW tk (sA 2) (sC 2) (kn 2) (kl 2) (kc 2) ++ shW tk (sA 3) (sC 3) (kn 3) (kl 3) (kc 3))) (C0.sz hl) X (c_X1_keepFirstTalks l D tk hL (bookG G1 ((kc 0) aq) ((kc 0) (aq + 1)) ((kc 0) (aq + 2))) d e (G 8 3)) ⟨tb543, tb546, tb2, ⟨by decide, by decide, rfl⟩, rfl, rfl, Nat.le_of_ble_eq_true rfl, Nat.le_of_ble_eq_true rfl⟩ tb544 tb545 1 1 rfl rfl rfl rfl [1, 2, 3, 4, 5, 6, 7, 8, 9, 10] [0, 11, 12, 13, 14, 15, 16, 17, 18, 19] rfl rfl rfl rfl rfl (Nat.le_of_ble_eq_true rfl) ⟨Nat.le_of_ble_eq_true rfl, Nat.le_of_ble_eq_true rfl⟩ dX6_read_127 (fun _ H locs _ X => ?_)
                      have X : Hx D zA zs H locs (lW a hL hT im bs rd hS sh kb rf ++ hsW tk sh (sA 0) (sA 1) (sA 2) (sA 3) ++ shW tk (sA 0) (sC 0) (kn 0) (kl 0) (kc 0) ++ shW tk (sA 1) (sC 1) (kn 1) (kl 1) (kc 1) ++ shW tk (sA 2) (sC 2) (kn 2) (kl 2) (kc 2) ++ shW tk (sA 3) (sC 3) (kn 3) (kl 3) (kc 3) ++ gW tk hL (u2 (bookG G1 ((kc 0) aq) ((kc 0) (aq + 1)) ((kc 0) (aq + 2))) 8 3 (G 8 3)) d e) := X
                      have X : Hx D zA zs H locs (lW a hL hT im bs rd hS sh kb rf ++ gW tk hL (u2 (bookG G1 ((kc 0) aq) ((kc 0) (aq + 1)) ((kc 0) (aq + 2))) 8 3 (G 8 3)) d e ++ hsW tk sh (sA 0) (sA 1) (sA 2) (sA 3) ++ shW tk (sA 0) (sC 0) (kn 0) (kl 0) (kc 0) ++ shW tk (sA 1) (sC 1) (kn 1) (kl 1) (kc 1) ++ shW tk (sA 2) (sC 2) (kn 2) (kl 2) (kc 2) ++ shW tk (sA 3) (sC 3) (kn 3) (kl 3) (kc 3)) := X.sub [0, 10, 11, 12, 13, 14, 15, 16, 17, 18, 19, 1, 2, 3, 4, 5, 6, 7, 8, 9] rfl rfl
                      refine lv_pop hx hb dX6_read_130 rfl ?_
                      refine lv_bipush (v := (-20)) hx hb dX6_read_131 (by decide) ?_
                      refine lv_iload hx hb dX6_read_133 (lv_at hl 2 rfl) ?_
                      refine lv_isub hx hb dX6_read_135 ?_
                      have hB := rdI_b (v := cgv G) (by have q := hI; rw [c10] at q; exact q) (by omega) c12 hno.1
                      exact hE (v := (-20) - (nI ci)) () (by simp only [a_read, c2, c4, c5, tn_nI (k := 0) (by omega), tn_nI (k := wq) (by omega), hB.1, hB.2, if_true, if_false, Bool.false_eq_true, Bool.and_self, Bool.and_true, Bool.and_false, Bool.true_and, Bool.false_and, Bool.not_true, Bool.not_false, decide_true, decide_false]) trivial (X.to (by rw [hno.2, hG1]; simp only [readF, readG, c2, c4, c5, tn_nI (k := 0) (by omega), tn_nI (k := wq) (by omega), hB.1, hB.2, if_true, if_false, Bool.false_eq_true, Bool.and_self, Bool.and_true, Bool.and_false, Bool.true_and, Bool.false_and, Bool.not_true, Bool.not_false, decide_true, decide_false])) dX6_read_136
          exact J51 ((2 * (wq - 0) + 1 - 0) + 1) 0 0 G (Nat.lt_succ_self _) (by omega) (by omega) (by rfl) (by exact rdI_0 _ _ _ _ _ _ _) H locs ls X (lv_sub hl [0, 1, 2, 3, 4, 5, 6, 7, 8] rfl)
        · refine g_get (v := .ref sh) C0 X kX6 0 6 tb206 rfl rfl rfl dX6_read_29 ?_
          refine lv_iload_n hx hb dX6_read_32 rfl (lv_at hl 1 rfl) ?_
          refine g_aald (v := sA 1) (i := 1) C0 X 11 4 rfl rfl (by decide) rfl rfl dX6_read_33 ?_
          refine lv_astore (lv' := [(5, .ref (sA 1)), (0, .ref a), (1, .int (nI 1)), (2, .int (nI yq)), (3, .int z), (4, .int (nI wq))]) hx hb dX6_read_34 hl (by decide) rfl (fun ls hl => ?_)
          refine lv_aload_n hx hb dX6_read_36 rfl (lv_at hl 1 rfl) ?_
          refine g_get (v := .ref (hL 0)) C0 X kX6 0 0 tb200 rfl rfl rfl dX6_read_37 ?_
          refine g_get (v := .int (nI (G 8 3))) C0 X kX1 1 8 tb52 rfl rfl rfl dX6_read_40 ?_
          refine lv_istore (lv' := [(6, .int (nI (G 8 3))), (5, .ref (sA 1)), (0, .ref a), (1, .int (nI 1)), (2, .int (nI yq)), (3, .int z), (4, .int (nI wq))]) hx hb dX6_read_43 hl (by decide) rfl (fun ls hl => ?_)
          refine g_iconst (n := 0) C0 rfl dX6_read_45 ?_
          refine lv_istore (lv' := [(7, .int (nI 0)), (6, .int (nI (G 8 3))), (5, .ref (sA 1)), (0, .ref a), (1, .int (nI 1)), (2, .int (nI yq)), (3, .int z), (4, .int (nI wq))]) hx hb dX6_read_46 hl (by decide) rfl (fun ls hl => ?_)
          refine g_iconst (n := 0) C0 rfl dX6_read_48 ?_
          refine lv_istore (lv' := [(8, .int (nI 0)), (7, .int (nI 0)), (6, .int (nI (G 8 3))), (5, .ref (sA 1)), (0, .ref a), (1, .int (nI 1)), (2, .int (nI yq)), (3, .int z), (4, .int (nI wq))]) hx hb dX6_read_49 hl (by decide) rfl (fun ls hl => ?_)
          have J51 : ∀ (fz : Nat) (ci ft : Nat) (G1 : Nat → Nat → Nat), 2 * (wq - ci) + 1 - ft < fz → ∀ (hci : ci ≤ wq) (hft : ft ≤ 3) (hG1 : G1 = rdG G z (kc 1) ci) (hI : rdI (cgv G) (kl 1) (kn 1) (kc 1) (nI yq) z wq ci ft) (H : Heap) (locs : List Loc) (ls : Array Slot), Hx D zA zs H locs (lW a hL hT im bs rd hS sh kb rf ++ gW tk hL G1 d e ++ hsW tk sh (sA 0) (sA 1) (sA 2) (sA 3) ++ shW tk (sA 0) (sC 0) (kn 0) (kl 0) (kc 0) ++ shW tk (sA 1) (sC 1) (kn 1) (kl 1) (kc 1) ++ shW tk (sA 2) (sC 2) (kn 2) (kl 2) (kc 2) ++ shW tk (sA 3) (sC 3) (kn 3) (kl 3) (kc 3)) → lv_has ls 10 [(8, .int (nI ci)), (7, .int (nI ft)), (6, .int (nI (G 8 3))), (5, .ref (sA 1)), (0, .ref a), (1, .int (nI 1)), (2, .int (nI yq)), (3, .int z), (4, .int (nI wq))] → W zp l ze ⟨3, 0, 0, 66⟩ zs zm za zb zt zc H locs 0 0 zQ (F0 zm 51 ls []) := by
            intro fz
            induction fz with
            | zero => intro ci ft G1 hz; exact absurd hz (Nat.not_lt_zero _)
            | succ fz ih51 =>
              intro ci ft G1 hz51 hci hft hG1 hI H locs ls X hl
              refine lv_iload hx hb dX6_read_51 (lv_at hl 0 rfl) ?_
              refine lv_iload hx hb dX6_read_53 (lv_at hl 8 rfl) ?_
              refine g_icmp_ge (x := ci) (y := wq) (tgt := 143) C0 (by omega) (by omega) dX6_read_55 rfl (fun c15 => ?_) (fun c16 => ?_)
              · refine lv_aload_n hx hb dX6_read_143 rfl (lv_at hl 4 rfl) ?_
                refine lv_iload hx hb dX6_read_144 (lv_at hl 1 rfl) ?_
                refine g_put (v := .int (nI ft)) (ft := .int) C0 X kX6 0 8 tb208 rfl rfl rfl rfl rfl rfl rfl dX6_read_146 (fun H locs X => ?_)
                have X : Hx D zA zs H locs (lW a hL hT im bs rd hS sh kb ft ++ gW tk hL G1 d e ++ hsW tk sh (sA 0) (sA 1) (sA 2) (sA 3) ++ shW tk (sA 0) (sC 0) (kn 0) (kl 0) (kc 0) ++ shW tk (sA 1) (sC 1) (kn 1) (kl 1) (kc 1) ++ shW tk (sA 2) (sC 2) (kn 2) (kl 2) (kc 2) ++ shW tk (sA 3) (sC 3) (kn 3) (kl 3) (kc 3)) := X
                refine lv_iload hx hb dX6_read_149 (lv_at hl 0 rfl) ?_
                have hB := rdI_e hI hci (by omega)
                have hB3 := hB.2.2
                rw [hB.1] at hB3
                exact hE (v := nI ci) () (by simp only [a_read, c2, c4, c5, tn_nI (k := 1) (by omega), tn_nI (k := wq) (by omega), hB.1, hB.2.1, if_true, if_false, Bool.false_eq_true, Bool.and_self, Bool.and_true, Bool.and_false, Bool.true_and, Bool.false_and, Bool.not_true, Bool.not_false, decide_true, decide_false]) trivial (X.to (by rw [hG1]; simp only [readF, readG, c2, c4, c5, tn_nI (k := 1) (by omega), tn_nI (k := wq) (by omega), hB.1, hB.2.1, if_true, if_false, Bool.false_eq_true, Bool.and_self, Bool.and_true, Bool.and_false, Bool.true_and, Bool.false_and, Bool.not_true, Bool.not_false, decide_true, decide_false]; rw [← hB3])) dX6_read_151
              · refine lv_iload hx hb dX6_read_58 (lv_at hl 1 rfl) ?_
                refine g_ifne (x := ft) (tgt := 143) C0 (by omega) dX6_read_60 rfl (fun c17 => ?_) (fun c18 => ?_)
                · refine lv_aload_n hx hb dX6_read_143 rfl (lv_at hl 4 rfl) ?_
                  refine lv_iload hx hb dX6_read_144 (lv_at hl 1 rfl) ?_
                  refine g_put (v := .int (nI ft)) (ft := .int) C0 X kX6 0 8 tb208 rfl rfl rfl rfl rfl rfl rfl dX6_read_146 (fun H locs X => ?_)
                  have X : Hx D zA zs H locs (lW a hL hT im bs rd hS sh kb ft ++ gW tk hL G1 d e ++ hsW tk sh (sA 0) (sA 1) (sA 2) (sA 3) ++ shW tk (sA 0) (sC 0) (kn 0) (kl 0) (kc 0) ++ shW tk (sA 1) (sC 1) (kn 1) (kl 1) (kc 1) ++ shW tk (sA 2) (sC 2) (kn 2) (kl 2) (kc 2) ++ shW tk (sA 3) (sC 3) (kn 3) (kl 3) (kc 3)) := X
                  refine lv_iload hx hb dX6_read_149 (lv_at hl 0 rfl) ?_
                  have hB := rdI_e hI hci (by omega)
                  have hB3 := hB.2.2
                  rw [hB.1] at hB3
                  exact hE (v := nI ci) () (by simp only [a_read, c2, c4, c5, tn_nI (k := 1) (by omega), tn_nI (k := wq) (by omega), hB.1, hB.2.1, if_true, if_false, Bool.false_eq_true, Bool.and_self, Bool.and_true, Bool.and_false, Bool.true_and, Bool.false_and, Bool.not_true, Bool.not_false, decide_true, decide_false]) trivial (X.to (by rw [hG1]; simp only [readF, readG, c2, c4, c5, tn_nI (k := 1) (by omega), tn_nI (k := wq) (by omega), hB.1, hB.2.1, if_true, if_false, Bool.false_eq_true, Bool.and_self, Bool.and_true, Bool.and_false, Bool.true_and, Bool.false_and, Bool.not_true, Bool.not_false, decide_true, decide_false]; rw [← hB3])) dX6_read_151
                · refine lv_iload_n hx hb dX6_read_63 rfl (lv_at hl 7 rfl) ?_
                  refine g_iconst (n := 3) C0 rfl dX6_read_64 ?_
                  refine lv_iload hx hb dX6_read_65 (lv_at hl 0 rfl) ?_
                  refine g_imul (n := 3 * ci) C0 rfl dX6_read_67 ?_
                  refine lv_iadd hx hb dX6_read_68 ?_
                  refine lv_istore (lv' := [(9, .int (z + (nI (3 * ci)))), (8, .int (nI ci)), (7, .int (nI ft)), (6, .int (nI (G 8 3))), (5, .ref (sA 1)), (0, .ref a), (1, .int (nI 1)), (2, .int (nI yq)), (3, .int z), (4, .int (nI wq))]) hx hb dX6_read_69 hl (by decide) rfl (fun ls hl => ?_)
                  refine lv_aload hx hb dX6_read_71 (lv_at hl 4 rfl) ?_
                  refine lv_iload_n hx hb dX6_read_73 rfl (lv_at hl 7 rfl) ?_
                  refine lv_iload hx hb dX6_read_74 (lv_at hl 0 rfl) ?_
                  refine g_callV (As := [.int (nI yq), .int (z + (nI (3 * ci)))]) (rest := []) (wr := (lW a hL hT im bs rd hS sh kb rf ++ gW tk hL G1 d e ++ hsW tk sh (sA 0) (sA 1) (sA 2) (sA 3) ++ shW tk (sA 0) (sC 0) (kn 0) (kl 0) (kc 0) ++ shW tk (sA 2) (sC 2) (kn 2) (kl 2) (kc 2) ++ shW tk (sA 3) (sC 3) (kn 3) (kl 3) (kc 3))) (C0.sz hl) X (c_X3_faultOfReading l D tk (sA 1) (sC 1) (kn 1) (kl 1) (kc 1) (nI yq) (z + (nI (3 * ci))) (by first | assumption | omega)) ⟨tb773, tb776, tb7, ⟨by decide, by decide, rfl⟩, rfl, rfl, Nat.le_of_ble_eq_true rfl, Nat.le_of_ble_eq_true rfl⟩ tb774 tb775 14 3 rfl rfl rfl rfl [14, 15] [0, 1, 2, 3, 4, 5, 6, 7, 8, 9, 10, 11, 12, 13, 16, 17, 18, 19] rfl rfl rfl rfl rfl (Nat.le_of_ble_eq_true rfl) ⟨Nat.le_of_ble_eq_true rfl, Nat.le_of_ble_eq_true rfl⟩ dX6_read_76 (fun _ H locs _ X => ?_)
                  have X : Hx D zA zs H locs (lW a hL hT im bs rd hS sh kb rf ++ gW tk hL G1 d e ++ hsW tk sh (sA 0) (sA 1) (sA 2) (sA 3) ++ shW tk (sA 0) (sC 0) (kn 0) (kl 0) (kc 0) ++ shW tk (sA 2) (sC 2) (kn 2) (kl 2) (kc 2) ++ shW tk (sA 3) (sC 3) (kn 3) (kl 3) (kc 3) ++ shW tk (sA 1) (sC 1) (kn 1) (kl 1) (kc 1)) := X
                  have X : Hx D zA zs H locs (lW a hL hT im bs rd hS sh kb rf ++ gW tk hL G1 d e ++ hsW tk sh (sA 0) (sA 1) (sA 2) (sA 3) ++ shW tk (sA 0) (sC 0) (kn 0) (kl 0) (kc 0) ++ shW tk (sA 1) (sC 1) (kn 1) (kl 1) (kc 1) ++ shW tk (sA 2) (sC 2) (kn 2) (kl 2) (kc 2) ++ shW tk (sA 3) (sC 3) (kn 3) (kl 3) (kc 3)) := X.sub [0, 1, 2, 3, 4, 5, 6, 7, 8, 9, 10, 11, 12, 13, 18, 19, 14, 15, 16, 17] rfl rfl
                  refine g_top (y := nI (rdF (kl 1) (kn 1) (nI yq) (rdAt z ci))) (by rfl) ?_
                  have hfl := rdF_le (kl 1) (kn 1) (nI yq) (rdAt z ci)
                  refine lv_istore (lv' := [(7, .int (nI (rdF (kl 1) (kn 1) (nI yq) (rdAt z ci)))), (9, .int (z + (nI (3 * ci)))), (8, .int (nI ci)), (6, .int (nI (G 8 3))), (5, .ref (sA 1)), (0, .ref a), (1, .int (nI 1)), (2, .int (nI yq)), (3, .int z), (4, .int (nI wq))]) hx hb dX6_read_79 hl (by decide) rfl (fun ls hl => ?_)
                  refine lv_iload hx hb dX6_read_81 (lv_at hl 0 rfl) ?_
                  refine g_ifne (x := rdF (kl 1) (kn 1) (nI yq) (rdAt z ci)) (tgt := 140) C0 (by omega) dX6_read_83 rfl (fun c19 => ?_) (fun c20 => ?_)
                  · refine lv_goto (tgt := 51) hx hb dX6_read_140 (by decide) ?_
                    exact ih51 ci (rdF (kl 1) (kn 1) (nI yq) (rdAt z ci)) G1 (by omega) (by omega) (by omega) (by exact hG1) (by exact rdI_f (by have q := hI; rw [c18] at q; exact q) (by omega) rfl (by omega)) H locs ls X (lv_sub hl [2, 0, 3, 4, 5, 6, 7, 8, 9] rfl)
                  · obtain ⟨aq, haq, eaq⟩ := rdF_0 (by omega) c20
                    rw [show z + nI (3 * ci) = nI aq from eaq] at hl
                    refine lv_aload_n hx hb dX6_read_86 rfl (lv_at hl 5 rfl) ?_
                    refine lv_aload hx hb dX6_read_87 (lv_at hl 4 rfl) ?_
                    refine g_get (v := .ref (sC 1)) C0 X kX3 14 1 tb191 rfl rfl rfl dX6_read_89 ?_
                    refine lv_iload hx hb dX6_read_92 (lv_at hl 1 rfl) ?_
                    refine g_iald (v := (kc 1) aq) (i := aq) C0 X 15 0 rfl rfl (by omega) rfl rfl dX6_read_94 ?_
                    refine lv_aload hx hb dX6_read_95 (lv_at hl 4 rfl) ?_
                    refine g_get (v := .ref (sC 1)) C0 X kX3 14 1 tb191 rfl rfl rfl dX6_read_97 ?_
                    refine lv_iload hx hb dX6_read_100 (lv_at hl 1 rfl) ?_
                    refine g_iconst (n := 1) C0 rfl dX6_read_102 ?_
                    refine g_iadd (n := aq + 1) C0 (by first | rfl | omega) dX6_read_103 ?_
                    refine g_iald (v := (kc 1) (aq + 1)) (i := aq + 1) C0 X 15 0 rfl rfl (by omega) rfl rfl dX6_read_104 ?_
                    refine lv_aload hx hb dX6_read_105 (lv_at hl 4 rfl) ?_
                    refine g_get (v := .ref (sC 1)) C0 X kX3 14 1 tb191 rfl rfl rfl dX6_read_107 ?_
                    refine lv_iload hx hb dX6_read_110 (lv_at hl 1 rfl) ?_
                    refine g_iconst (n := 2) C0 rfl dX6_read_112 ?_
                    refine g_iadd (n := aq + 2) C0 (by first | rfl | omega) dX6_read_113 ?_
                    refine g_iald (v := (kc 1) (aq + 2)) (i := aq + 2) C0 X 15 0 rfl rfl (by omega) rfl rfl dX6_read_114 ?_
                    refine g_callV (As := [.int ((kc 1) aq), .int ((kc 1) (aq + 1)), .int ((kc 1) (aq + 2))]) (rest := []) (wr := (hsW tk sh (sA 0) (sA 1) (sA 2) (sA 3) ++ shW tk (sA 0) (sC 0) (kn 0) (kl 0) (kc 0) ++ shW tk (sA 1) (sC 1) (kn 1) (kl 1) (kc 1) ++ shW tk (sA 2) (sC 2) (kn 2) (kl 2) (kc 2) ++ shW tk (sA 3) (sC 3) (kn 3) (kl 3) (kc 3))) (C0.sz hl) X (c_X6_book l D tk a hL hT im bs rd hS sh kb rf G1 d e ((kc 1) aq) ((kc 1) (aq + 1)) ((kc 1) (aq + 2)) (by rw [hG1]; exact rdG_w hw _ hI.1)) ⟨tb778, tb533, tb1, ⟨by decide, by decide, rfl⟩, rfl, rfl, Nat.le_of_ble_eq_true rfl, Nat.le_of_ble_eq_true rfl⟩ tb531 tb532 0 6 rfl rfl rfl rfl [0, 1, 2, 3, 4, 5, 6, 7, 8, 9, 10] [11, 12, 13, 14, 15, 16, 17, 18, 19] rfl rfl rfl rfl rfl (Nat.le_of_ble_eq_true rfl) ⟨Nat.le_of_ble_eq_true rfl, Nat.le_of_ble_eq_true rfl⟩ dX6_read_115 (fun _ H locs _ X => ?_)
                    have X : Hx D zA zs H locs (hsW tk sh (sA 0) (sA 1) (sA 2) (sA 3) ++ shW tk (sA 0) (sC 0) (kn 0) (kl 0) (kc 0) ++ shW tk (sA 1) (sC 1) (kn 1) (kl 1) (kc 1) ++ shW tk (sA 2) (sC 2) (kn 2) (kl 2) (kc 2) ++ shW tk (sA 3) (sC 3) (kn 3) (kl 3) (kc 3) ++ lW a hL hT im bs rd hS sh kb rf ++ gW tk hL (bookG G1 ((kc 1) aq) ((kc 1) (aq + 1)) ((kc 1) (aq + 2))) d e) := X
                    have X : Hx D zA zs H locs (lW a hL hT im bs rd hS sh kb rf ++ gW tk hL (bookG G1 ((kc 1) aq) ((kc 1) (aq + 1)) ((kc 1) (aq + 2))) d e ++ hsW tk sh (sA 0) (sA 1) (sA 2) (sA 3) ++ shW tk (sA 0) (sC 0) (kn 0) (kl 0) (kc 0) ++ shW tk (sA 1) (sC 1) (kn 1) (kl 1) (kc 1) ++ shW tk (sA 2) (sC 2) (kn 2) (kl 2) (kc 2) ++ shW tk (sA 3) (sC 3) (kn 3) (kl 3) (kc 3)) := X.sub [9, 10, 11, 12, 13, 14, 15, 16, 17, 18, 19, 0, 1, 2, 3, 4, 5, 6, 7, 8] rfl rfl
                    refine lv_if_ge (tgt := 137) hx hb dX6_read_118 rfl (fun c21 => ?_) (fun c22 => ?_)
                    · have hok := rd_ok hG1 (by rw [hG1]; exact rdG_w hw _ hI.1) (show aq < 2 ^ 31 by omega) eaq c21
                      refine g_iinc (j := 1) (z := ci + 1) (lv' := [(8, .int (nI (ci + 1))), (7, .int (nI (rdF (kl 1) (kn 1) (nI yq) (rdAt z ci)))), (9, .int (nI aq)), (6, .int (nI (G 8 3))), (5, .ref (sA 1)), (0, .ref a), (1, .int (nI 1)), (2, .int (nI yq)), (3, .int z), (4, .int (nI wq))]) C0 rfl (by first | rfl | omega) dX6_read_137 hl (k := 2) rfl (by decide) rfl (fun ls hl => ?_)
                      refine lv_goto (tgt := 51) hx hb dX6_read_140 (by decide) ?_
                      exact ih51 (ci + 1) (rdF (kl 1) (kn 1) (nI yq) (rdAt z ci)) (bookG G1 ((kc 1) aq) ((kc 1) (aq + 1)) ((kc 1) (aq + 2))) (by omega) (by omega) (by omega) (by exact hok.2) (by rw [c20]; exact rdI_s (v := cgv G) (by have q := hI; rw [c18] at q; exact q) (by omega) c20 hok.1) H locs ls X (lv_sub hl [0, 1, 3, 4, 5, 6, 7, 8, 9] rfl)
                    · have hno := rd_no hG1 (by rw [hG1]; exact rdG_w hw _ hI.1) (show aq < 2 ^ 31 by omega) eaq c22
                      refine lv_aload_n hx hb dX6_read_121 rfl (lv_at hl 5 rfl) ?_
                      refine g_get (v := .ref (hL 0)) C0 X kX6 0 0 tb200 rfl rfl rfl dX6_read_122 ?_
                      refine lv_iload hx hb dX6_read_125 (lv_at hl 3 rfl) ?_
                      refine g_callV (As := [.int (nI (G 8 3))]) (rest := []) (wr := (lW a hL hT im bs rd hS sh kb rf ++ hsW tk sh (sA 0) (sA 1) (sA 2) (sA 3) ++ shW tk (sA 0) (sC 0) (kn 0) (kl 0) (kc 0) ++ shW tk (sA 1) (sC 1) (kn 1) (kl 1) (kc 1) ++ shW tk (sA 2) (sC 2) (kn 2) (kl 2) (kc 2) ++ shW tk (sA 3) (sC 3) (kn 3) (kl 3) (kc 3))) (C0.sz hl) X (c_X1_keepFirstTalks l D tk hL (bookG G1 ((kc 1) aq) ((kc 1) (aq + 1)) ((kc 1) (aq + 2))) d e (G 8 3)) ⟨tb543, tb546, tb2, ⟨by decide, by decide, rfl⟩, rfl, rfl, Nat.le_of_ble_eq_true rfl, Nat.le_of_ble_eq_true rfl⟩ tb544 tb545 1 1 rfl rfl rfl rfl [1, 2, 3, 4, 5, 6, 7, 8, 9, 10] [0, 11, 12, 13, 14, 15, 16, 17, 18, 19] rfl rfl rfl rfl rfl (Nat.le_of_ble_eq_true rfl) ⟨Nat.le_of_ble_eq_true rfl, Nat.le_of_ble_eq_true rfl⟩ dX6_read_127 (fun _ H locs _ X => ?_)
                      have X : Hx D zA zs H locs (lW a hL hT im bs rd hS sh kb rf ++ hsW tk sh (sA 0) (sA 1) (sA 2) (sA 3) ++ shW tk (sA 0) (sC 0) (kn 0) (kl 0) (kc 0) ++ shW tk (sA 1) (sC 1) (kn 1) (kl 1) (kc 1) ++ shW tk (sA 2) (sC 2) (kn 2) (kl 2) (kc 2) ++ shW tk (sA 3) (sC 3) (kn 3) (kl 3) (kc 3) ++ gW tk hL (u2 (bookG G1 ((kc 1) aq) ((kc 1) (aq + 1)) ((kc 1) (aq + 2))) 8 3 (G 8 3)) d e) := X
                      have X : Hx D zA zs H locs (lW a hL hT im bs rd hS sh kb rf ++ gW tk hL (u2 (bookG G1 ((kc 1) aq) ((kc 1) (aq + 1)) ((kc 1) (aq + 2))) 8 3 (G 8 3)) d e ++ hsW tk sh (sA 0) (sA 1) (sA 2) (sA 3) ++ shW tk (sA 0) (sC 0) (kn 0) (kl 0) (kc 0) ++ shW tk (sA 1) (sC 1) (kn 1) (kl 1) (kc 1) ++ shW tk (sA 2) (sC 2) (kn 2) (kl 2) (kc 2) ++ shW tk (sA 3) (sC 3) (kn 3) (kl 3) (kc 3)) := X.sub [0, 10, 11, 12, 13, 14, 15, 16, 17, 18, 19, 1, 2, 3, 4, 5, 6, 7, 8, 9] rfl rfl
                      refine lv_pop hx hb dX6_read_130 rfl ?_
                      refine lv_bipush (v := (-20)) hx hb dX6_read_131 (by decide) ?_
                      refine lv_iload hx hb dX6_read_133 (lv_at hl 2 rfl) ?_
                      refine lv_isub hx hb dX6_read_135 ?_
                      have hB := rdI_b (v := cgv G) (by have q := hI; rw [c18] at q; exact q) (by omega) c20 hno.1
                      exact hE (v := (-20) - (nI ci)) () (by simp only [a_read, c2, c4, c5, tn_nI (k := 1) (by omega), tn_nI (k := wq) (by omega), hB.1, hB.2, if_true, if_false, Bool.false_eq_true, Bool.and_self, Bool.and_true, Bool.and_false, Bool.true_and, Bool.false_and, Bool.not_true, Bool.not_false, decide_true, decide_false]) trivial (X.to (by rw [hno.2, hG1]; simp only [readF, readG, c2, c4, c5, tn_nI (k := 1) (by omega), tn_nI (k := wq) (by omega), hB.1, hB.2, if_true, if_false, Bool.false_eq_true, Bool.and_self, Bool.and_true, Bool.and_false, Bool.true_and, Bool.false_and, Bool.not_true, Bool.not_false, decide_true, decide_false])) dX6_read_136
          exact J51 ((2 * (wq - 0) + 1 - 0) + 1) 0 0 G (Nat.lt_succ_self _) (by omega) (by omega) (by rfl) (by exact rdI_0 _ _ _ _ _ _ _) H locs ls X (lv_sub hl [0, 1, 2, 3, 4, 5, 6, 7, 8] rfl)
        · refine g_get (v := .ref sh) C0 X kX6 0 6 tb206 rfl rfl rfl dX6_read_29 ?_
          refine lv_iload_n hx hb dX6_read_32 rfl (lv_at hl 1 rfl) ?_
          refine g_aald (v := sA 2) (i := 2) C0 X 11 4 rfl rfl (by decide) rfl rfl dX6_read_33 ?_
          refine lv_astore (lv' := [(5, .ref (sA 2)), (0, .ref a), (1, .int (nI 2)), (2, .int (nI yq)), (3, .int z), (4, .int (nI wq))]) hx hb dX6_read_34 hl (by decide) rfl (fun ls hl => ?_)
          refine lv_aload_n hx hb dX6_read_36 rfl (lv_at hl 1 rfl) ?_
          refine g_get (v := .ref (hL 0)) C0 X kX6 0 0 tb200 rfl rfl rfl dX6_read_37 ?_
          refine g_get (v := .int (nI (G 8 3))) C0 X kX1 1 8 tb52 rfl rfl rfl dX6_read_40 ?_
          refine lv_istore (lv' := [(6, .int (nI (G 8 3))), (5, .ref (sA 2)), (0, .ref a), (1, .int (nI 2)), (2, .int (nI yq)), (3, .int z), (4, .int (nI wq))]) hx hb dX6_read_43 hl (by decide) rfl (fun ls hl => ?_)
          refine g_iconst (n := 0) C0 rfl dX6_read_45 ?_
          refine lv_istore (lv' := [(7, .int (nI 0)), (6, .int (nI (G 8 3))), (5, .ref (sA 2)), (0, .ref a), (1, .int (nI 2)), (2, .int (nI yq)), (3, .int z), (4, .int (nI wq))]) hx hb dX6_read_46 hl (by decide) rfl (fun ls hl => ?_)
          refine g_iconst (n := 0) C0 rfl dX6_read_48 ?_
          refine lv_istore (lv' := [(8, .int (nI 0)), (7, .int (nI 0)), (6, .int (nI (G 8 3))), (5, .ref (sA 2)), (0, .ref a), (1, .int (nI 2)), (2, .int (nI yq)), (3, .int z), (4, .int (nI wq))]) hx hb dX6_read_49 hl (by decide) rfl (fun ls hl => ?_)
          have J51 : ∀ (fz : Nat) (ci ft : Nat) (G1 : Nat → Nat → Nat), 2 * (wq - ci) + 1 - ft < fz → ∀ (hci : ci ≤ wq) (hft : ft ≤ 3) (hG1 : G1 = rdG G z (kc 2) ci) (hI : rdI (cgv G) (kl 2) (kn 2) (kc 2) (nI yq) z wq ci ft) (H : Heap) (locs : List Loc) (ls : Array Slot), Hx D zA zs H locs (lW a hL hT im bs rd hS sh kb rf ++ gW tk hL G1 d e ++ hsW tk sh (sA 0) (sA 1) (sA 2) (sA 3) ++ shW tk (sA 0) (sC 0) (kn 0) (kl 0) (kc 0) ++ shW tk (sA 1) (sC 1) (kn 1) (kl 1) (kc 1) ++ shW tk (sA 2) (sC 2) (kn 2) (kl 2) (kc 2) ++ shW tk (sA 3) (sC 3) (kn 3) (kl 3) (kc 3)) → lv_has ls 10 [(8, .int (nI ci)), (7, .int (nI ft)), (6, .int (nI (G 8 3))), (5, .ref (sA 2)), (0, .ref a), (1, .int (nI 2)), (2, .int (nI yq)), (3, .int z), (4, .int (nI wq))] → W zp l ze ⟨3, 0, 0, 66⟩ zs zm za zb zt zc H locs 0 0 zQ (F0 zm 51 ls []) := by
            intro fz
            induction fz with
            | zero => intro ci ft G1 hz; exact absurd hz (Nat.not_lt_zero _)
            | succ fz ih51 =>
              intro ci ft G1 hz51 hci hft hG1 hI H locs ls X hl
              refine lv_iload hx hb dX6_read_51 (lv_at hl 0 rfl) ?_
              refine lv_iload hx hb dX6_read_53 (lv_at hl 8 rfl) ?_
              refine g_icmp_ge (x := ci) (y := wq) (tgt := 143) C0 (by omega) (by omega) dX6_read_55 rfl (fun c23 => ?_) (fun c24 => ?_)
              · refine lv_aload_n hx hb dX6_read_143 rfl (lv_at hl 4 rfl) ?_
                refine lv_iload hx hb dX6_read_144 (lv_at hl 1 rfl) ?_
                refine g_put (v := .int (nI ft)) (ft := .int) C0 X kX6 0 8 tb208 rfl rfl rfl rfl rfl rfl rfl dX6_read_146 (fun H locs X => ?_)
                have X : Hx D zA zs H locs (lW a hL hT im bs rd hS sh kb ft ++ gW tk hL G1 d e ++ hsW tk sh (sA 0) (sA 1) (sA 2) (sA 3) ++ shW tk (sA 0) (sC 0) (kn 0) (kl 0) (kc 0) ++ shW tk (sA 1) (sC 1) (kn 1) (kl 1) (kc 1) ++ shW tk (sA 2) (sC 2) (kn 2) (kl 2) (kc 2) ++ shW tk (sA 3) (sC 3) (kn 3) (kl 3) (kc 3)) := X
                refine lv_iload hx hb dX6_read_149 (lv_at hl 0 rfl) ?_
                have hB := rdI_e hI hci (by omega)
                have hB3 := hB.2.2
                rw [hB.1] at hB3
                exact hE (v := nI ci) () (by simp only [a_read, c2, c4, c5, tn_nI (k := 2) (by omega), tn_nI (k := wq) (by omega), hB.1, hB.2.1, if_true, if_false, Bool.false_eq_true, Bool.and_self, Bool.and_true, Bool.and_false, Bool.true_and, Bool.false_and, Bool.not_true, Bool.not_false, decide_true, decide_false]) trivial (X.to (by rw [hG1]; simp only [readF, readG, c2, c4, c5, tn_nI (k := 2) (by omega), tn_nI (k := wq) (by omega), hB.1, hB.2.1, if_true, if_false, Bool.false_eq_true, Bool.and_self, Bool.and_true, Bool.and_false, Bool.true_and, Bool.false_and, Bool.not_true, Bool.not_false, decide_true, decide_false]; rw [← hB3])) dX6_read_151
              · refine lv_iload hx hb dX6_read_58 (lv_at hl 1 rfl) ?_
                refine g_ifne (x := ft) (tgt := 143) C0 (by omega) dX6_read_60 rfl (fun c25 => ?_) (fun c26 => ?_)
                · refine lv_aload_n hx hb dX6_read_143 rfl (lv_at hl 4 rfl) ?_
                  refine lv_iload hx hb dX6_read_144 (lv_at hl 1 rfl) ?_
                  refine g_put (v := .int (nI ft)) (ft := .int) C0 X kX6 0 8 tb208 rfl rfl rfl rfl rfl rfl rfl dX6_read_146 (fun H locs X => ?_)
                  have X : Hx D zA zs H locs (lW a hL hT im bs rd hS sh kb ft ++ gW tk hL G1 d e ++ hsW tk sh (sA 0) (sA 1) (sA 2) (sA 3) ++ shW tk (sA 0) (sC 0) (kn 0) (kl 0) (kc 0) ++ shW tk (sA 1) (sC 1) (kn 1) (kl 1) (kc 1) ++ shW tk (sA 2) (sC 2) (kn 2) (kl 2) (kc 2) ++ shW tk (sA 3) (sC 3) (kn 3) (kl 3) (kc 3)) := X
                  refine lv_iload hx hb dX6_read_149 (lv_at hl 0 rfl) ?_
                  have hB := rdI_e hI hci (by omega)
                  have hB3 := hB.2.2
                  rw [hB.1] at hB3
                  exact hE (v := nI ci) () (by simp only [a_read, c2, c4, c5, tn_nI (k := 2) (by omega), tn_nI (k := wq) (by omega), hB.1, hB.2.1, if_true, if_false, Bool.false_eq_true, Bool.and_self, Bool.and_true, Bool.and_false, Bool.true_and, Bool.false_and, Bool.not_true, Bool.not_false, decide_true, decide_false]) trivial (X.to (by rw [hG1]; simp only [readF, readG, c2, c4, c5, tn_nI (k := 2) (by omega), tn_nI (k := wq) (by omega), hB.1, hB.2.1, if_true, if_false, Bool.false_eq_true, Bool.and_self, Bool.and_true, Bool.and_false, Bool.true_and, Bool.false_and, Bool.not_true, Bool.not_false, decide_true, decide_false]; rw [← hB3])) dX6_read_151
                · refine lv_iload_n hx hb dX6_read_63 rfl (lv_at hl 7 rfl) ?_
                  refine g_iconst (n := 3) C0 rfl dX6_read_64 ?_
                  refine lv_iload hx hb dX6_read_65 (lv_at hl 0 rfl) ?_
                  refine g_imul (n := 3 * ci) C0 rfl dX6_read_67 ?_
                  refine lv_iadd hx hb dX6_read_68 ?_
                  refine lv_istore (lv' := [(9, .int (z + (nI (3 * ci)))), (8, .int (nI ci)), (7, .int (nI ft)), (6, .int (nI (G 8 3))), (5, .ref (sA 2)), (0, .ref a), (1, .int (nI 2)), (2, .int (nI yq)), (3, .int z), (4, .int (nI wq))]) hx hb dX6_read_69 hl (by decide) rfl (fun ls hl => ?_)
                  refine lv_aload hx hb dX6_read_71 (lv_at hl 4 rfl) ?_
                  refine lv_iload_n hx hb dX6_read_73 rfl (lv_at hl 7 rfl) ?_
                  refine lv_iload hx hb dX6_read_74 (lv_at hl 0 rfl) ?_
                  refine g_callV (As := [.int (nI yq), .int (z + (nI (3 * ci)))]) (rest := []) (wr := (lW a hL hT im bs rd hS sh kb rf ++ gW tk hL G1 d e ++ hsW tk sh (sA 0) (sA 1) (sA 2) (sA 3) ++ shW tk (sA 0) (sC 0) (kn 0) (kl 0) (kc 0) ++ shW tk (sA 1) (sC 1) (kn 1) (kl 1) (kc 1) ++ shW tk (sA 3) (sC 3) (kn 3) (kl 3) (kc 3))) (C0.sz hl) X (c_X3_faultOfReading l D tk (sA 2) (sC 2) (kn 2) (kl 2) (kc 2) (nI yq) (z + (nI (3 * ci))) (by first | assumption | omega)) ⟨tb773, tb776, tb7, ⟨by decide, by decide, rfl⟩, rfl, rfl, Nat.le_of_ble_eq_true rfl, Nat.le_of_ble_eq_true rfl⟩ tb774 tb775 16 3 rfl rfl rfl rfl [16, 17] [0, 1, 2, 3, 4, 5, 6, 7, 8, 9, 10, 11, 12, 13, 14, 15, 18, 19] rfl rfl rfl rfl rfl (Nat.le_of_ble_eq_true rfl) ⟨Nat.le_of_ble_eq_true rfl, Nat.le_of_ble_eq_true rfl⟩ dX6_read_76 (fun _ H locs _ X => ?_)
                  have X : Hx D zA zs H locs (lW a hL hT im bs rd hS sh kb rf ++ gW tk hL G1 d e ++ hsW tk sh (sA 0) (sA 1) (sA 2) (sA 3) ++ shW tk (sA 0) (sC 0) (kn 0) (kl 0) (kc 0) ++ shW tk (sA 1) (sC 1) (kn 1) (kl 1) (kc 1) ++ shW tk (sA 3) (sC 3) (kn 3) (kl 3) (kc 3) ++ shW tk (sA 2) (sC 2) (kn 2) (kl 2) (kc 2)) := X
                  have X : Hx D zA zs H locs (lW a hL hT im bs rd hS sh kb rf ++ gW tk hL G1 d e ++ hsW tk sh (sA 0) (sA 1) (sA 2) (sA 3) ++ shW tk (sA 0) (sC 0) (kn 0) (kl 0) (kc 0) ++ shW tk (sA 1) (sC 1) (kn 1) (kl 1) (kc 1) ++ shW tk (sA 2) (sC 2) (kn 2) (kl 2) (kc 2) ++ shW tk (sA 3) (sC 3) (kn 3) (kl 3) (kc 3)) := X.sub [0, 1, 2, 3, 4, 5, 6, 7, 8, 9, 10, 11, 12, 13, 14, 15, 18, 19, 16, 17] rfl rfl
                  refine g_top (y := nI (rdF (kl 2) (kn 2) (nI yq) (rdAt z ci))) (by rfl) ?_
                  have hfl := rdF_le (kl 2) (kn 2) (nI yq) (rdAt z ci)
                  refine lv_istore (lv' := [(7, .int (nI (rdF (kl 2) (kn 2) (nI yq) (rdAt z ci)))), (9, .int (z + (nI (3 * ci)))), (8, .int (nI ci)), (6, .int (nI (G 8 3))), (5, .ref (sA 2)), (0, .ref a), (1, .int (nI 2)), (2, .int (nI yq)), (3, .int z), (4, .int (nI wq))]) hx hb dX6_read_79 hl (by decide) rfl (fun ls hl => ?_)
                  refine lv_iload hx hb dX6_read_81 (lv_at hl 0 rfl) ?_
                  refine g_ifne (x := rdF (kl 2) (kn 2) (nI yq) (rdAt z ci)) (tgt := 140) C0 (by omega) dX6_read_83 rfl (fun c27 => ?_) (fun c28 => ?_)
                  · refine lv_goto (tgt := 51) hx hb dX6_read_140 (by decide) ?_
                    exact ih51 ci (rdF (kl 2) (kn 2) (nI yq) (rdAt z ci)) G1 (by omega) (by omega) (by omega) (by exact hG1) (by exact rdI_f (by have q := hI; rw [c26] at q; exact q) (by omega) rfl (by omega)) H locs ls X (lv_sub hl [2, 0, 3, 4, 5, 6, 7, 8, 9] rfl)
                  · obtain ⟨aq, haq, eaq⟩ := rdF_0 (by omega) c28
                    rw [show z + nI (3 * ci) = nI aq from eaq] at hl
                    refine lv_aload_n hx hb dX6_read_86 rfl (lv_at hl 5 rfl) ?_
                    refine lv_aload hx hb dX6_read_87 (lv_at hl 4 rfl) ?_
                    refine g_get (v := .ref (sC 2)) C0 X kX3 16 1 tb191 rfl rfl rfl dX6_read_89 ?_
                    refine lv_iload hx hb dX6_read_92 (lv_at hl 1 rfl) ?_
                    refine g_iald (v := (kc 2) aq) (i := aq) C0 X 17 0 rfl rfl (by omega) rfl rfl dX6_read_94 ?_
                    refine lv_aload hx hb dX6_read_95 (lv_at hl 4 rfl) ?_
                    refine g_get (v := .ref (sC 2)) C0 X kX3 16 1 tb191 rfl rfl rfl dX6_read_97 ?_
                    refine lv_iload hx hb dX6_read_100 (lv_at hl 1 rfl) ?_
                    refine g_iconst (n := 1) C0 rfl dX6_read_102 ?_
                    refine g_iadd (n := aq + 1) C0 (by first | rfl | omega) dX6_read_103 ?_
                    refine g_iald (v := (kc 2) (aq + 1)) (i := aq + 1) C0 X 17 0 rfl rfl (by omega) rfl rfl dX6_read_104 ?_
                    refine lv_aload hx hb dX6_read_105 (lv_at hl 4 rfl) ?_
                    refine g_get (v := .ref (sC 2)) C0 X kX3 16 1 tb191 rfl rfl rfl dX6_read_107 ?_
                    refine lv_iload hx hb dX6_read_110 (lv_at hl 1 rfl) ?_
                    refine g_iconst (n := 2) C0 rfl dX6_read_112 ?_
                    refine g_iadd (n := aq + 2) C0 (by first | rfl | omega) dX6_read_113 ?_
                    refine g_iald (v := (kc 2) (aq + 2)) (i := aq + 2) C0 X 17 0 rfl rfl (by omega) rfl rfl dX6_read_114 ?_
                    refine g_callV (As := [.int ((kc 2) aq), .int ((kc 2) (aq + 1)), .int ((kc 2) (aq + 2))]) (rest := []) (wr := (hsW tk sh (sA 0) (sA 1) (sA 2) (sA 3) ++ shW tk (sA 0) (sC 0) (kn 0) (kl 0) (kc 0) ++ shW tk (sA 1) (sC 1) (kn 1) (kl 1) (kc 1) ++ shW tk (sA 2) (sC 2) (kn 2) (kl 2) (kc 2) ++ shW tk (sA 3) (sC 3) (kn 3) (kl 3) (kc 3))) (C0.sz hl) X (c_X6_book l D tk a hL hT im bs rd hS sh kb rf G1 d e ((kc 2) aq) ((kc 2) (aq + 1)) ((kc 2) (aq + 2)) (by rw [hG1]; exact rdG_w hw _ hI.1)) ⟨tb778, tb533, tb1, ⟨by decide, by decide, rfl⟩, rfl, rfl, Nat.le_of_ble_eq_true rfl, Nat.le_of_ble_eq_true rfl⟩ tb531 tb532 0 6 rfl rfl rfl rfl [0, 1, 2, 3, 4, 5, 6, 7, 8, 9, 10] [11, 12, 13, 14, 15, 16, 17, 18, 19] rfl rfl rfl rfl rfl (Nat.le_of_ble_eq_true rfl) ⟨Nat.le_of_ble_eq_true rfl, Nat.le_of_ble_eq_true rfl⟩ dX6_read_115 (fun _ H locs _ X => ?_)
                    have X : Hx D zA zs H locs (hsW tk sh (sA 0) (sA 1) (sA 2) (sA 3) ++ shW tk (sA 0) (sC 0) (kn 0) (kl 0) (kc 0) ++ shW tk (sA 1) (sC 1) (kn 1) (kl 1) (kc 1) ++ shW tk (sA 2) (sC 2) (kn 2) (kl 2) (kc 2) ++ shW tk (sA 3) (sC 3) (kn 3) (kl 3) (kc 3) ++ lW a hL hT im bs rd hS sh kb rf ++ gW tk hL (bookG G1 ((kc 2) aq) ((kc 2) (aq + 1)) ((kc 2) (aq + 2))) d e) := X
                    have X : Hx D zA zs H locs (lW a hL hT im bs rd hS sh kb rf ++ gW tk hL (bookG G1 ((kc 2) aq) ((kc 2) (aq + 1)) ((kc 2) (aq + 2))) d e ++ hsW tk sh (sA 0) (sA 1) (sA 2) (sA 3) ++ shW tk (sA 0) (sC 0) (kn 0) (kl 0) (kc 0) ++ shW tk (sA 1) (sC 1) (kn 1) (kl 1) (kc 1) ++ shW tk (sA 2) (sC 2) (kn 2) (kl 2) (kc 2) ++ shW tk (sA 3) (sC 3) (kn 3) (kl 3) (kc 3)) := X.sub [9, 10, 11, 12, 13, 14, 15, 16, 17, 18, 19, 0, 1, 2, 3, 4, 5, 6, 7, 8] rfl rfl
                    refine lv_if_ge (tgt := 137) hx hb dX6_read_118 rfl (fun c29 => ?_) (fun c30 => ?_)
                    · have hok := rd_ok hG1 (by rw [hG1]; exact rdG_w hw _ hI.1) (show aq < 2 ^ 31 by omega) eaq c29
                      refine g_iinc (j := 1) (z := ci + 1) (lv' := [(8, .int (nI (ci + 1))), (7, .int (nI (rdF (kl 2) (kn 2) (nI yq) (rdAt z ci)))), (9, .int (nI aq)), (6, .int (nI (G 8 3))), (5, .ref (sA 2)), (0, .ref a), (1, .int (nI 2)), (2, .int (nI yq)), (3, .int z), (4, .int (nI wq))]) C0 rfl (by first | rfl | omega) dX6_read_137 hl (k := 2) rfl (by decide) rfl (fun ls hl => ?_)
                      refine lv_goto (tgt := 51) hx hb dX6_read_140 (by decide) ?_
                      exact ih51 (ci + 1) (rdF (kl 2) (kn 2) (nI yq) (rdAt z ci)) (bookG G1 ((kc 2) aq) ((kc 2) (aq + 1)) ((kc 2) (aq + 2))) (by omega) (by omega) (by omega) (by exact hok.2) (by rw [c28]; exact rdI_s (v := cgv G) (by have q := hI; rw [c26] at q; exact q) (by omega) c28 hok.1) H locs ls X (lv_sub hl [0, 1, 3, 4, 5, 6, 7, 8, 9] rfl)
                    · have hno := rd_no hG1 (by rw [hG1]; exact rdG_w hw _ hI.1) (show aq < 2 ^ 31 by omega) eaq c30
                      refine lv_aload_n hx hb dX6_read_121 rfl (lv_at hl 5 rfl) ?_
                      refine g_get (v := .ref (hL 0)) C0 X kX6 0 0 tb200 rfl rfl rfl dX6_read_122 ?_
                      refine lv_iload hx hb dX6_read_125 (lv_at hl 3 rfl) ?_
                      refine g_callV (As := [.int (nI (G 8 3))]) (rest := []) (wr := (lW a hL hT im bs rd hS sh kb rf ++ hsW tk sh (sA 0) (sA 1) (sA 2) (sA 3) ++ shW tk (sA 0) (sC 0) (kn 0) (kl 0) (kc 0) ++ shW tk (sA 1) (sC 1) (kn 1) (kl 1) (kc 1) ++ shW tk (sA 2) (sC 2) (kn 2) (kl 2) (kc 2) ++ shW tk (sA 3) (sC 3) (kn 3) (kl 3) (kc 3))) (C0.sz hl) X (c_X1_keepFirstTalks l D tk hL (bookG G1 ((kc 2) aq) ((kc 2) (aq + 1)) ((kc 2) (aq + 2))) d e (G 8 3)) ⟨tb543, tb546, tb2, ⟨by decide, by decide, rfl⟩, rfl, rfl, Nat.le_of_ble_eq_true rfl, Nat.le_of_ble_eq_true rfl⟩ tb544 tb545 1 1 rfl rfl rfl rfl [1, 2, 3, 4, 5, 6, 7, 8, 9, 10] [0, 11, 12, 13, 14, 15, 16, 17, 18, 19] rfl rfl rfl rfl rfl (Nat.le_of_ble_eq_true rfl) ⟨Nat.le_of_ble_eq_true rfl, Nat.le_of_ble_eq_true rfl⟩ dX6_read_127 (fun _ H locs _ X => ?_)
                      have X : Hx D zA zs H locs (lW a hL hT im bs rd hS sh kb rf ++ hsW tk sh (sA 0) (sA 1) (sA 2) (sA 3) ++ shW tk (sA 0) (sC 0) (kn 0) (kl 0) (kc 0) ++ shW tk (sA 1) (sC 1) (kn 1) (kl 1) (kc 1) ++ shW tk (sA 2) (sC 2) (kn 2) (kl 2) (kc 2) ++ shW tk (sA 3) (sC 3) (kn 3) (kl 3) (kc 3) ++ gW tk hL (u2 (bookG G1 ((kc 2) aq) ((kc 2) (aq + 1)) ((kc 2) (aq + 2))) 8 3 (G 8 3)) d e) := X
                      have X : Hx D zA zs H locs (lW a hL hT im bs rd hS sh kb rf ++ gW tk hL (u2 (bookG G1 ((kc 2) aq) ((kc 2) (aq + 1)) ((kc 2) (aq + 2))) 8 3 (G 8 3)) d e ++ hsW tk sh (sA 0) (sA 1) (sA 2) (sA 3) ++ shW tk (sA 0) (sC 0) (kn 0) (kl 0) (kc 0) ++ shW tk (sA 1) (sC 1) (kn 1) (kl 1) (kc 1) ++ shW tk (sA 2) (sC 2) (kn 2) (kl 2) (kc 2) ++ shW tk (sA 3) (sC 3) (kn 3) (kl 3) (kc 3)) := X.sub [0, 10, 11, 12, 13, 14, 15, 16, 17, 18, 19, 1, 2, 3, 4, 5, 6, 7, 8, 9] rfl rfl
                      refine lv_pop hx hb dX6_read_130 rfl ?_
                      refine lv_bipush (v := (-20)) hx hb dX6_read_131 (by decide) ?_
                      refine lv_iload hx hb dX6_read_133 (lv_at hl 2 rfl) ?_
                      refine lv_isub hx hb dX6_read_135 ?_
                      have hB := rdI_b (v := cgv G) (by have q := hI; rw [c26] at q; exact q) (by omega) c28 hno.1
                      exact hE (v := (-20) - (nI ci)) () (by simp only [a_read, c2, c4, c5, tn_nI (k := 2) (by omega), tn_nI (k := wq) (by omega), hB.1, hB.2, if_true, if_false, Bool.false_eq_true, Bool.and_self, Bool.and_true, Bool.and_false, Bool.true_and, Bool.false_and, Bool.not_true, Bool.not_false, decide_true, decide_false]) trivial (X.to (by rw [hno.2, hG1]; simp only [readF, readG, c2, c4, c5, tn_nI (k := 2) (by omega), tn_nI (k := wq) (by omega), hB.1, hB.2, if_true, if_false, Bool.false_eq_true, Bool.and_self, Bool.and_true, Bool.and_false, Bool.true_and, Bool.false_and, Bool.not_true, Bool.not_false, decide_true, decide_false])) dX6_read_136
          exact J51 ((2 * (wq - 0) + 1 - 0) + 1) 0 0 G (Nat.lt_succ_self _) (by omega) (by omega) (by rfl) (by exact rdI_0 _ _ _ _ _ _ _) H locs ls X (lv_sub hl [0, 1, 2, 3, 4, 5, 6, 7, 8] rfl)
        · refine g_get (v := .ref sh) C0 X kX6 0 6 tb206 rfl rfl rfl dX6_read_29 ?_
          refine lv_iload_n hx hb dX6_read_32 rfl (lv_at hl 1 rfl) ?_
          refine g_aald (v := sA 3) (i := 3) C0 X 11 4 rfl rfl (by decide) rfl rfl dX6_read_33 ?_
          refine lv_astore (lv' := [(5, .ref (sA 3)), (0, .ref a), (1, .int (nI 3)), (2, .int (nI yq)), (3, .int z), (4, .int (nI wq))]) hx hb dX6_read_34 hl (by decide) rfl (fun ls hl => ?_)
          refine lv_aload_n hx hb dX6_read_36 rfl (lv_at hl 1 rfl) ?_
          refine g_get (v := .ref (hL 0)) C0 X kX6 0 0 tb200 rfl rfl rfl dX6_read_37 ?_
          refine g_get (v := .int (nI (G 8 3))) C0 X kX1 1 8 tb52 rfl rfl rfl dX6_read_40 ?_
          refine lv_istore (lv' := [(6, .int (nI (G 8 3))), (5, .ref (sA 3)), (0, .ref a), (1, .int (nI 3)), (2, .int (nI yq)), (3, .int z), (4, .int (nI wq))]) hx hb dX6_read_43 hl (by decide) rfl (fun ls hl => ?_)
          refine g_iconst (n := 0) C0 rfl dX6_read_45 ?_
          refine lv_istore (lv' := [(7, .int (nI 0)), (6, .int (nI (G 8 3))), (5, .ref (sA 3)), (0, .ref a), (1, .int (nI 3)), (2, .int (nI yq)), (3, .int z), (4, .int (nI wq))]) hx hb dX6_read_46 hl (by decide) rfl (fun ls hl => ?_)
          refine g_iconst (n := 0) C0 rfl dX6_read_48 ?_
          refine lv_istore (lv' := [(8, .int (nI 0)), (7, .int (nI 0)), (6, .int (nI (G 8 3))), (5, .ref (sA 3)), (0, .ref a), (1, .int (nI 3)), (2, .int (nI yq)), (3, .int z), (4, .int (nI wq))]) hx hb dX6_read_49 hl (by decide) rfl (fun ls hl => ?_)
          have J51 : ∀ (fz : Nat) (ci ft : Nat) (G1 : Nat → Nat → Nat), 2 * (wq - ci) + 1 - ft < fz → ∀ (hci : ci ≤ wq) (hft : ft ≤ 3) (hG1 : G1 = rdG G z (kc 3) ci) (hI : rdI (cgv G) (kl 3) (kn 3) (kc 3) (nI yq) z wq ci ft) (H : Heap) (locs : List Loc) (ls : Array Slot), Hx D zA zs H locs (lW a hL hT im bs rd hS sh kb rf ++ gW tk hL G1 d e ++ hsW tk sh (sA 0) (sA 1) (sA 2) (sA 3) ++ shW tk (sA 0) (sC 0) (kn 0) (kl 0) (kc 0) ++ shW tk (sA 1) (sC 1) (kn 1) (kl 1) (kc 1) ++ shW tk (sA 2) (sC 2) (kn 2) (kl 2) (kc 2) ++ shW tk (sA 3) (sC 3) (kn 3) (kl 3) (kc 3)) → lv_has ls 10 [(8, .int (nI ci)), (7, .int (nI ft)), (6, .int (nI (G 8 3))), (5, .ref (sA 3)), (0, .ref a), (1, .int (nI 3)), (2, .int (nI yq)), (3, .int z), (4, .int (nI wq))] → W zp l ze ⟨3, 0, 0, 66⟩ zs zm za zb zt zc H locs 0 0 zQ (F0 zm 51 ls []) := by
            intro fz
            induction fz with
            | zero => intro ci ft G1 hz; exact absurd hz (Nat.not_lt_zero _)
            | succ fz ih51 =>
              intro ci ft G1 hz51 hci hft hG1 hI H locs ls X hl
              refine lv_iload hx hb dX6_read_51 (lv_at hl 0 rfl) ?_
              refine lv_iload hx hb dX6_read_53 (lv_at hl 8 rfl) ?_
              refine g_icmp_ge (x := ci) (y := wq) (tgt := 143) C0 (by omega) (by omega) dX6_read_55 rfl (fun c31 => ?_) (fun c32 => ?_)
              · refine lv_aload_n hx hb dX6_read_143 rfl (lv_at hl 4 rfl) ?_
                refine lv_iload hx hb dX6_read_144 (lv_at hl 1 rfl) ?_
                refine g_put (v := .int (nI ft)) (ft := .int) C0 X kX6 0 8 tb208 rfl rfl rfl rfl rfl rfl rfl dX6_read_146 (fun H locs X => ?_)
                have X : Hx D zA zs H locs (lW a hL hT im bs rd hS sh kb ft ++ gW tk hL G1 d e ++ hsW tk sh (sA 0) (sA 1) (sA 2) (sA 3) ++ shW tk (sA 0) (sC 0) (kn 0) (kl 0) (kc 0) ++ shW tk (sA 1) (sC 1) (kn 1) (kl 1) (kc 1) ++ shW tk (sA 2) (sC 2) (kn 2) (kl 2) (kc 2) ++ shW tk (sA 3) (sC 3) (kn 3) (kl 3) (kc 3)) := X
                refine lv_iload hx hb dX6_read_149 (lv_at hl 0 rfl) ?_
                have hB := rdI_e hI hci (by omega)
                have hB3 := hB.2.2
                rw [hB.1] at hB3
                exact hE (v := nI ci) () (by simp only [a_read, c2, c4, c5, tn_nI (k := 3) (by omega), tn_nI (k := wq) (by omega), hB.1, hB.2.1, if_true, if_false, Bool.false_eq_true, Bool.and_self, Bool.and_true, Bool.and_false, Bool.true_and, Bool.false_and, Bool.not_true, Bool.not_false, decide_true, decide_false]) trivial (X.to (by rw [hG1]; simp only [readF, readG, c2, c4, c5, tn_nI (k := 3) (by omega), tn_nI (k := wq) (by omega), hB.1, hB.2.1, if_true, if_false, Bool.false_eq_true, Bool.and_self, Bool.and_true, Bool.and_false, Bool.true_and, Bool.false_and, Bool.not_true, Bool.not_false, decide_true, decide_false]; rw [← hB3])) dX6_read_151
              · refine lv_iload hx hb dX6_read_58 (lv_at hl 1 rfl) ?_
                refine g_ifne (x := ft) (tgt := 143) C0 (by omega) dX6_read_60 rfl (fun c33 => ?_) (fun c34 => ?_)
                · refine lv_aload_n hx hb dX6_read_143 rfl (lv_at hl 4 rfl) ?_
                  refine lv_iload hx hb dX6_read_144 (lv_at hl 1 rfl) ?_
                  refine g_put (v := .int (nI ft)) (ft := .int) C0 X kX6 0 8 tb208 rfl rfl rfl rfl rfl rfl rfl dX6_read_146 (fun H locs X => ?_)
                  have X : Hx D zA zs H locs (lW a hL hT im bs rd hS sh kb ft ++ gW tk hL G1 d e ++ hsW tk sh (sA 0) (sA 1) (sA 2) (sA 3) ++ shW tk (sA 0) (sC 0) (kn 0) (kl 0) (kc 0) ++ shW tk (sA 1) (sC 1) (kn 1) (kl 1) (kc 1) ++ shW tk (sA 2) (sC 2) (kn 2) (kl 2) (kc 2) ++ shW tk (sA 3) (sC 3) (kn 3) (kl 3) (kc 3)) := X
                  refine lv_iload hx hb dX6_read_149 (lv_at hl 0 rfl) ?_
                  have hB := rdI_e hI hci (by omega)
                  have hB3 := hB.2.2
                  rw [hB.1] at hB3
                  exact hE (v := nI ci) () (by simp only [a_read, c2, c4, c5, tn_nI (k := 3) (by omega), tn_nI (k := wq) (by omega), hB.1, hB.2.1, if_true, if_false, Bool.false_eq_true, Bool.and_self, Bool.and_true, Bool.and_false, Bool.true_and, Bool.false_and, Bool.not_true, Bool.not_false, decide_true, decide_false]) trivial (X.to (by rw [hG1]; simp only [readF, readG, c2, c4, c5, tn_nI (k := 3) (by omega), tn_nI (k := wq) (by omega), hB.1, hB.2.1, if_true, if_false, Bool.false_eq_true, Bool.and_self, Bool.and_true, Bool.and_false, Bool.true_and, Bool.false_and, Bool.not_true, Bool.not_false, decide_true, decide_false]; rw [← hB3])) dX6_read_151
                · refine lv_iload_n hx hb dX6_read_63 rfl (lv_at hl 7 rfl) ?_
                  refine g_iconst (n := 3) C0 rfl dX6_read_64 ?_
                  refine lv_iload hx hb dX6_read_65 (lv_at hl 0 rfl) ?_
                  refine g_imul (n := 3 * ci) C0 rfl dX6_read_67 ?_
                  refine lv_iadd hx hb dX6_read_68 ?_
                  refine lv_istore (lv' := [(9, .int (z + (nI (3 * ci)))), (8, .int (nI ci)), (7, .int (nI ft)), (6, .int (nI (G 8 3))), (5, .ref (sA 3)), (0, .ref a), (1, .int (nI 3)), (2, .int (nI yq)), (3, .int z), (4, .int (nI wq))]) hx hb dX6_read_69 hl (by decide) rfl (fun ls hl => ?_)
                  refine lv_aload hx hb dX6_read_71 (lv_at hl 4 rfl) ?_
                  refine lv_iload_n hx hb dX6_read_73 rfl (lv_at hl 7 rfl) ?_
                  refine lv_iload hx hb dX6_read_74 (lv_at hl 0 rfl) ?_
                  refine g_callV (As := [.int (nI yq), .int (z + (nI (3 * ci)))]) (rest := []) (wr := (lW a hL hT im bs rd hS sh kb rf ++ gW tk hL G1 d e ++ hsW tk sh (sA 0) (sA 1) (sA 2) (sA 3) ++ shW tk (sA 0) (sC 0) (kn 0) (kl 0) (kc 0) ++ shW tk (sA 1) (sC 1) (kn 1) (kl 1) (kc 1) ++ shW tk (sA 2) (sC 2) (kn 2) (kl 2) (kc 2))) (C0.sz hl) X (c_X3_faultOfReading l D tk (sA 3) (sC 3) (kn 3) (kl 3) (kc 3) (nI yq) (z + (nI (3 * ci))) (by first | assumption | omega)) ⟨tb773, tb776, tb7, ⟨by decide, by decide, rfl⟩, rfl, rfl, Nat.le_of_ble_eq_true rfl, Nat.le_of_ble_eq_true rfl⟩ tb774 tb775 18 3 rfl rfl rfl rfl [18, 19] [0, 1, 2, 3, 4, 5, 6, 7, 8, 9, 10, 11, 12, 13, 14, 15, 16, 17] rfl rfl rfl rfl rfl (Nat.le_of_ble_eq_true rfl) ⟨Nat.le_of_ble_eq_true rfl, Nat.le_of_ble_eq_true rfl⟩ dX6_read_76 (fun _ H locs _ X => ?_)
                  have X : Hx D zA zs H locs (lW a hL hT im bs rd hS sh kb rf ++ gW tk hL G1 d e ++ hsW tk sh (sA 0) (sA 1) (sA 2) (sA 3) ++ shW tk (sA 0) (sC 0) (kn 0) (kl 0) (kc 0) ++ shW tk (sA 1) (sC 1) (kn 1) (kl 1) (kc 1) ++ shW tk (sA 2) (sC 2) (kn 2) (kl 2) (kc 2) ++ shW tk (sA 3) (sC 3) (kn 3) (kl 3) (kc 3)) := X
                  refine g_top (y := nI (rdF (kl 3) (kn 3) (nI yq) (rdAt z ci))) (by rfl) ?_
                  have hfl := rdF_le (kl 3) (kn 3) (nI yq) (rdAt z ci)
                  refine lv_istore (lv' := [(7, .int (nI (rdF (kl 3) (kn 3) (nI yq) (rdAt z ci)))), (9, .int (z + (nI (3 * ci)))), (8, .int (nI ci)), (6, .int (nI (G 8 3))), (5, .ref (sA 3)), (0, .ref a), (1, .int (nI 3)), (2, .int (nI yq)), (3, .int z), (4, .int (nI wq))]) hx hb dX6_read_79 hl (by decide) rfl (fun ls hl => ?_)
                  refine lv_iload hx hb dX6_read_81 (lv_at hl 0 rfl) ?_
                  refine g_ifne (x := rdF (kl 3) (kn 3) (nI yq) (rdAt z ci)) (tgt := 140) C0 (by omega) dX6_read_83 rfl (fun c35 => ?_) (fun c36 => ?_)
                  · refine lv_goto (tgt := 51) hx hb dX6_read_140 (by decide) ?_
                    exact ih51 ci (rdF (kl 3) (kn 3) (nI yq) (rdAt z ci)) G1 (by omega) (by omega) (by omega) (by exact hG1) (by exact rdI_f (by have q := hI; rw [c34] at q; exact q) (by omega) rfl (by omega)) H locs ls X (lv_sub hl [2, 0, 3, 4, 5, 6, 7, 8, 9] rfl)
                  · obtain ⟨aq, haq, eaq⟩ := rdF_0 (by omega) c36
                    rw [show z + nI (3 * ci) = nI aq from eaq] at hl
                    refine lv_aload_n hx hb dX6_read_86 rfl (lv_at hl 5 rfl) ?_
                    refine lv_aload hx hb dX6_read_87 (lv_at hl 4 rfl) ?_
                    refine g_get (v := .ref (sC 3)) C0 X kX3 18 1 tb191 rfl rfl rfl dX6_read_89 ?_
                    refine lv_iload hx hb dX6_read_92 (lv_at hl 1 rfl) ?_
                    refine g_iald (v := (kc 3) aq) (i := aq) C0 X 19 0 rfl rfl (by omega) rfl rfl dX6_read_94 ?_
                    refine lv_aload hx hb dX6_read_95 (lv_at hl 4 rfl) ?_
                    refine g_get (v := .ref (sC 3)) C0 X kX3 18 1 tb191 rfl rfl rfl dX6_read_97 ?_
                    refine lv_iload hx hb dX6_read_100 (lv_at hl 1 rfl) ?_
                    refine g_iconst (n := 1) C0 rfl dX6_read_102 ?_
                    refine g_iadd (n := aq + 1) C0 (by first | rfl | omega) dX6_read_103 ?_
                    refine g_iald (v := (kc 3) (aq + 1)) (i := aq + 1) C0 X 19 0 rfl rfl (by omega) rfl rfl dX6_read_104 ?_
                    refine lv_aload hx hb dX6_read_105 (lv_at hl 4 rfl) ?_
                    refine g_get (v := .ref (sC 3)) C0 X kX3 18 1 tb191 rfl rfl rfl dX6_read_107 ?_
                    refine lv_iload hx hb dX6_read_110 (lv_at hl 1 rfl) ?_
                    refine g_iconst (n := 2) C0 rfl dX6_read_112 ?_
                    refine g_iadd (n := aq + 2) C0 (by first | rfl | omega) dX6_read_113 ?_
                    refine g_iald (v := (kc 3) (aq + 2)) (i := aq + 2) C0 X 19 0 rfl rfl (by omega) rfl rfl dX6_read_114 ?_
                    refine g_callV (As := [.int ((kc 3) aq), .int ((kc 3) (aq + 1)), .int ((kc 3) (aq + 2))]) (rest := []) (wr := (hsW tk sh (sA 0) (sA 1) (sA 2) (sA 3) ++ shW tk (sA 0) (sC 0) (kn 0) (kl 0) (kc 0) ++ shW tk (sA 1) (sC 1) (kn 1) (kl 1) (kc 1) ++ shW tk (sA 2) (sC 2) (kn 2) (kl 2) (kc 2) ++ shW tk (sA 3) (sC 3) (kn 3) (kl 3) (kc 3))) (C0.sz hl) X (c_X6_book l D tk a hL hT im bs rd hS sh kb rf G1 d e ((kc 3) aq) ((kc 3) (aq + 1)) ((kc 3) (aq + 2)) (by rw [hG1]; exact rdG_w hw _ hI.1)) ⟨tb778, tb533, tb1, ⟨by decide, by decide, rfl⟩, rfl, rfl, Nat.le_of_ble_eq_true rfl, Nat.le_of_ble_eq_true rfl⟩ tb531 tb532 0 6 rfl rfl rfl rfl [0, 1, 2, 3, 4, 5, 6, 7, 8, 9, 10] [11, 12, 13, 14, 15, 16, 17, 18, 19] rfl rfl rfl rfl rfl (Nat.le_of_ble_eq_true rfl) ⟨Nat.le_of_ble_eq_true rfl, Nat.le_of_ble_eq_true rfl⟩ dX6_read_115 (fun _ H locs _ X => ?_)
                    have X : Hx D zA zs H locs (hsW tk sh (sA 0) (sA 1) (sA 2) (sA 3) ++ shW tk (sA 0) (sC 0) (kn 0) (kl 0) (kc 0) ++ shW tk (sA 1) (sC 1) (kn 1) (kl 1) (kc 1) ++ shW tk (sA 2) (sC 2) (kn 2) (kl 2) (kc 2) ++ shW tk (sA 3) (sC 3) (kn 3) (kl 3) (kc 3) ++ lW a hL hT im bs rd hS sh kb rf ++ gW tk hL (bookG G1 ((kc 3) aq) ((kc 3) (aq + 1)) ((kc 3) (aq + 2))) d e) := X
                    have X : Hx D zA zs H locs (lW a hL hT im bs rd hS sh kb rf ++ gW tk hL (bookG G1 ((kc 3) aq) ((kc 3) (aq + 1)) ((kc 3) (aq + 2))) d e ++ hsW tk sh (sA 0) (sA 1) (sA 2) (sA 3) ++ shW tk (sA 0) (sC 0) (kn 0) (kl 0) (kc 0) ++ shW tk (sA 1) (sC 1) (kn 1) (kl 1) (kc 1) ++ shW tk (sA 2) (sC 2) (kn 2) (kl 2) (kc 2) ++ shW tk (sA 3) (sC 3) (kn 3) (kl 3) (kc 3)) := X.sub [9, 10, 11, 12, 13, 14, 15, 16, 17, 18, 19, 0, 1, 2, 3, 4, 5, 6, 7, 8] rfl rfl
                    refine lv_if_ge (tgt := 137) hx hb dX6_read_118 rfl (fun c37 => ?_) (fun c38 => ?_)
                    · have hok := rd_ok hG1 (by rw [hG1]; exact rdG_w hw _ hI.1) (show aq < 2 ^ 31 by omega) eaq c37
                      refine g_iinc (j := 1) (z := ci + 1) (lv' := [(8, .int (nI (ci + 1))), (7, .int (nI (rdF (kl 3) (kn 3) (nI yq) (rdAt z ci)))), (9, .int (nI aq)), (6, .int (nI (G 8 3))), (5, .ref (sA 3)), (0, .ref a), (1, .int (nI 3)), (2, .int (nI yq)), (3, .int z), (4, .int (nI wq))]) C0 rfl (by first | rfl | omega) dX6_read_137 hl (k := 2) rfl (by decide) rfl (fun ls hl => ?_)
                      refine lv_goto (tgt := 51) hx hb dX6_read_140 (by decide) ?_
                      exact ih51 (ci + 1) (rdF (kl 3) (kn 3) (nI yq) (rdAt z ci)) (bookG G1 ((kc 3) aq) ((kc 3) (aq + 1)) ((kc 3) (aq + 2))) (by omega) (by omega) (by omega) (by exact hok.2) (by rw [c36]; exact rdI_s (v := cgv G) (by have q := hI; rw [c34] at q; exact q) (by omega) c36 hok.1) H locs ls X (lv_sub hl [0, 1, 3, 4, 5, 6, 7, 8, 9] rfl)
                    · have hno := rd_no hG1 (by rw [hG1]; exact rdG_w hw _ hI.1) (show aq < 2 ^ 31 by omega) eaq c38
                      refine lv_aload_n hx hb dX6_read_121 rfl (lv_at hl 5 rfl) ?_
                      refine g_get (v := .ref (hL 0)) C0 X kX6 0 0 tb200 rfl rfl rfl dX6_read_122 ?_
                      refine lv_iload hx hb dX6_read_125 (lv_at hl 3 rfl) ?_
                      refine g_callV (As := [.int (nI (G 8 3))]) (rest := []) (wr := (lW a hL hT im bs rd hS sh kb rf ++ hsW tk sh (sA 0) (sA 1) (sA 2) (sA 3) ++ shW tk (sA 0) (sC 0) (kn 0) (kl 0) (kc 0) ++ shW tk (sA 1) (sC 1) (kn 1) (kl 1) (kc 1) ++ shW tk (sA 2) (sC 2) (kn 2) (kl 2) (kc 2) ++ shW tk (sA 3) (sC 3) (kn 3) (kl 3) (kc 3))) (C0.sz hl) X (c_X1_keepFirstTalks l D tk hL (bookG G1 ((kc 3) aq) ((kc 3) (aq + 1)) ((kc 3) (aq + 2))) d e (G 8 3)) ⟨tb543, tb546, tb2, ⟨by decide, by decide, rfl⟩, rfl, rfl, Nat.le_of_ble_eq_true rfl, Nat.le_of_ble_eq_true rfl⟩ tb544 tb545 1 1 rfl rfl rfl rfl [1, 2, 3, 4, 5, 6, 7, 8, 9, 10] [0, 11, 12, 13, 14, 15, 16, 17, 18, 19] rfl rfl rfl rfl rfl (Nat.le_of_ble_eq_true rfl) ⟨Nat.le_of_ble_eq_true rfl, Nat.le_of_ble_eq_true rfl⟩ dX6_read_127 (fun _ H locs _ X => ?_)
                      have X : Hx D zA zs H locs (lW a hL hT im bs rd hS sh kb rf ++ hsW tk sh (sA 0) (sA 1) (sA 2) (sA 3) ++ shW tk (sA 0) (sC 0) (kn 0) (kl 0) (kc 0) ++ shW tk (sA 1) (sC 1) (kn 1) (kl 1) (kc 1) ++ shW tk (sA 2) (sC 2) (kn 2) (kl 2) (kc 2) ++ shW tk (sA 3) (sC 3) (kn 3) (kl 3) (kc 3) ++ gW tk hL (u2 (bookG G1 ((kc 3) aq) ((kc 3) (aq + 1)) ((kc 3) (aq + 2))) 8 3 (G 8 3)) d e) := X
                      have X : Hx D zA zs H locs (lW a hL hT im bs rd hS sh kb rf ++ gW tk hL (u2 (bookG G1 ((kc 3) aq) ((kc 3) (aq + 1)) ((kc 3) (aq + 2))) 8 3 (G 8 3)) d e ++ hsW tk sh (sA 0) (sA 1) (sA 2) (sA 3) ++ shW tk (sA 0) (sC 0) (kn 0) (kl 0) (kc 0) ++ shW tk (sA 1) (sC 1) (kn 1) (kl 1) (kc 1) ++ shW tk (sA 2) (sC 2) (kn 2) (kl 2) (kc 2) ++ shW tk (sA 3) (sC 3) (kn 3) (kl 3) (kc 3)) := X.sub [0, 10, 11, 12, 13, 14, 15, 16, 17, 18, 19, 1, 2, 3, 4, 5, 6, 7, 8, 9] rfl rfl
                      refine lv_pop hx hb dX6_read_130 rfl ?_
                      refine lv_bipush (v := (-20)) hx hb dX6_read_131 (by decide) ?_
                      refine lv_iload hx hb dX6_read_133 (lv_at hl 2 rfl) ?_
                      refine lv_isub hx hb dX6_read_135 ?_
                      have hB := rdI_b (v := cgv G) (by have q := hI; rw [c34] at q; exact q) (by omega) c36 hno.1
                      exact hE (v := (-20) - (nI ci)) () (by simp only [a_read, c2, c4, c5, tn_nI (k := 3) (by omega), tn_nI (k := wq) (by omega), hB.1, hB.2, if_true, if_false, Bool.false_eq_true, Bool.and_self, Bool.and_true, Bool.and_false, Bool.true_and, Bool.false_and, Bool.not_true, Bool.not_false, decide_true, decide_false]) trivial (X.to (by rw [hno.2, hG1]; simp only [readF, readG, c2, c4, c5, tn_nI (k := 3) (by omega), tn_nI (k := wq) (by omega), hB.1, hB.2, if_true, if_false, Bool.false_eq_true, Bool.and_self, Bool.and_true, Bool.and_false, Bool.true_and, Bool.false_and, Bool.not_true, Bool.not_false, decide_true, decide_false])) dX6_read_136
          exact J51 ((2 * (wq - 0) + 1 - 0) + 1) 0 0 G (Nat.lt_succ_self _) (by omega) (by omega) (by rfl) (by exact rdI_0 _ _ _ _ _ _ _) H locs ls X (lv_sub hl [0, 1, 2, 3, 4, 5, 6, 7, 8] rfl)
      · refine lv_iconst (v := (-1)) hx hb dX6_read_26 (by decide) ?_
        exact hE (v := (-1)) () (by simp only [a_read, c2, c4, c6, tn_nI (k := xq) (by omega), tn_nI (k := yq) (by omega), if_true, if_false, Bool.false_eq_true, Bool.and_self, Bool.and_true, Bool.and_false, Bool.true_and, Bool.false_and, Bool.not_true, Bool.not_false, decide_true, decide_false]) trivial (X.to (by simp only [readF, readG, c2, c4, c6, tn_nI (k := xq) (by omega), tn_nI (k := yq) (by omega), if_true, if_false, Bool.false_eq_true, Bool.and_self, Bool.and_true, Bool.and_false, Bool.true_and, Bool.false_and, Bool.not_true, Bool.not_false, decide_true, decide_false])) dX6_read_27
set_option maxHeartbeats 4000000 in
set_option maxRecDepth 100000 in
theorem c_X6_count (l : Launch) (D : va_G) (tk : Nat → ClassId) (a : Nat) (hL hT : Nat → Nat) (im bs rd : Nat) (hS : Nat → Nat) (sh kb rf : Nat) (G : Nat → Nat → Nat) (d e : Nat → Nat) (sn : Nat) (pl lo le : Nat → Nat) (ta tb : Nat) (hD : Nat → Nat) (fa fp kd ts te : Nat) (wt : Bool) (tn_ : Nat) (tt : Nat → Nat) (sA sC kn : Nat → Nat) (kl : Nat → Int32) (kc : Nat → Nat → Int32) (x : Int32) (hw : GW G) (hkb : kb < 4) : MX l yX6_count cX6_count 2 (some .int) ⟨1, 0, 0, 23⟩ D (TYS tk) [.ref a, .int x] (lW a hL hT im bs rd hS sh kb rf ++ gW tk hL G d e ++ sW tk hS sn pl lo le ++ rW rd ta hD fa fp kd ts te wt ++ tW tk ta tb tn_ tt ++ hsW tk sh (sA 0) (sA 1) (sA 2) (sA 3) ++ shW tk (sA 0) (sC 0) (kn 0) (kl 0) (kc 0)) (fun (_ : Unit) => True) (fun _ => some (.int (a_count sn (pc kb) tn_ (decide (kl 0 = -1)) (kn 0) (cgv G) x))) (fun _ => lW a hL hT im bs rd hS sh kb rf ++ gW tk hL G d e ++ sW tk hS sn pl lo le ++ rW rd ta hD fa fp kd ts te wt ++ tW tk ta tb tn_ tt ++ hsW tk sh (sA 0) (sA 1) (sA 2) (sA 3) ++ shW tk (sA 0) (sC 0) (kn 0) (kl 0) (kc 0)) 0 0 := by
  refine MX.of_i (by decide) rfl ?_
  intro zp ze zs zm za zb zt zc zA zQ ls C0 hnm X hl hE
  have hx := C0.1
  have hb := C0.2.1
  have ht := C0.2.2.2.2.1
  have X : Hx D zA zs zs.heap [] (lW a hL hT im bs rd hS sh kb rf ++ gW tk hL G d e ++ sW tk hS sn pl lo le ++ rW rd ta hD fa fp kd ts te wt ++ tW tk ta tb tn_ tt ++ hsW tk sh (sA 0) (sA 1) (sA 2) (sA 3) ++ shW tk (sA 0) (sC 0) (kn 0) (kl 0) (kc 0)) := X
  have hl : lv_has ls 2 [(0, .ref a), (1, .int x)] := hl
  obtain ⟨hw1, hw2, hw3, hw4, hw5, hw6, hw7, hw8⟩ := id hw
  obtain ⟨H, hH⟩ : ∃ H, H = zs.heap := ⟨_, rfl⟩
  rw [← hH] at X ⊢
  obtain ⟨locs, hlo⟩ : ∃ L : List Loc, L = [] := ⟨_, rfl⟩
  rw [← hlo] at X ⊢
  refine lv_iload_n hx hb dX6_count_0 rfl (lv_at hl 1 rfl) ?_
  by_cases c1 : x = nI 0
  · refine g_swIn (k := 0) (lo' := 0) (tgt := 40) C0 (c1) rfl rfl dX6_count_1 rfl rfl rfl rfl ?_
    refine lv_aload_n hx hb dX6_count_40 rfl (lv_at hl 0 rfl) ?_
    refine g_get (v := .ref (hS 0)) C0 X kX6 0 5 tb205 rfl rfl rfl dX6_count_41 ?_
    refine g_get (v := .int (nI sn)) C0 X kX4 11 0 tb168 rfl rfl rfl dX6_count_44 ?_
    exact hE (v := nI sn) () (by simp only [a_count, if_pos c1, cg8, if_true, if_false, Bool.false_eq_true, Bool.and_self, Bool.and_true, Bool.and_false, Bool.true_and, Bool.false_and, Bool.not_true, Bool.not_false, decide_true, decide_false] <;> rfl) trivial X dX6_count_47
  by_cases c2 : x = nI 1
  · refine g_swIn (k := 1) (lo' := 0) (tgt := 48) C0 (c2) rfl rfl dX6_count_1 rfl rfl rfl rfl ?_
    refine lv_aload_n hx hb dX6_count_48 rfl (lv_at hl 0 rfl) ?_
    refine g_get (v := .int (nI kb)) C0 X kX6 0 7 tb207 rfl rfl rfl dX6_count_49 ?_
    refine g_callS (As := [.int (nI kb)]) (rest := []) (wr := (lW a hL hT im bs rd hS sh kb rf ++ gW tk hL G d e ++ sW tk hS sn pl lo le ++ rW rd ta hD fa fp kd ts te wt ++ tW tk ta tb tn_ tt ++ hsW tk sh (sA 0) (sA 1) (sA 2) (sA 3) ++ shW tk (sA 0) (sC 0) (kn 0) (kl 0) (kc 0))) (C0.sz hl) X (c_J6_bitCount_0f7a4 l D tk kb (by first | assumption | omega)) ⟨tb605, tb607, tb16, ⟨by decide, by decide, rfl⟩, rfl, rfl, Nat.le_of_ble_eq_true rfl, Nat.le_of_ble_eq_true rfl⟩ tb606 rfl [] [0, 1, 2, 3, 4, 5, 6, 7, 8, 9, 10, 11, 12, 13, 14, 15, 16, 17, 18, 19, 20] rfl rfl rfl rfl rfl (Nat.le_of_ble_eq_true rfl) ⟨Nat.le_of_ble_eq_true rfl, Nat.le_of_ble_eq_true rfl⟩ dX6_count_52 (fun _ H locs _ X => ?_)
    have X : Hx D zA zs H locs (lW a hL hT im bs rd hS sh kb rf ++ gW tk hL G d e ++ sW tk hS sn pl lo le ++ rW rd ta hD fa fp kd ts te wt ++ tW tk ta tb tn_ tt ++ hsW tk sh (sA 0) (sA 1) (sA 2) (sA 3) ++ shW tk (sA 0) (sC 0) (kn 0) (kl 0) (kc 0)) := X
    exact hE (v := nI (pc kb)) () (by simp only [a_count, if_neg c1, if_pos c2, cg8, if_true, if_false, Bool.false_eq_true, Bool.and_self, Bool.and_true, Bool.and_false, Bool.true_and, Bool.false_and, Bool.not_true, Bool.not_false, decide_true, decide_false] <;> rfl) trivial X dX6_count_55
  by_cases c3 : x = nI 2
  · refine g_swIn (k := 2) (lo' := 0) (tgt := 56) C0 (c3) rfl rfl dX6_count_1 rfl rfl rfl rfl ?_
    refine lv_aload_n hx hb dX6_count_56 rfl (lv_at hl 0 rfl) ?_
    refine g_get (v := .ref rd) C0 X kX6 0 4 tb204 rfl rfl rfl dX6_count_57 ?_
    refine g_get (v := .ref ta) C0 X kX2 15 0 tb133 rfl rfl rfl dX6_count_60 ?_
    refine g_get (v := .int (nI tn_)) C0 X kX5 16 0 tb121 rfl rfl rfl dX6_count_63 ?_
    exact hE (v := nI tn_) () (by simp only [a_count, if_neg c1, if_neg c2, if_pos c3, cg8, if_true, if_false, Bool.false_eq_true, Bool.and_self, Bool.and_true, Bool.and_false, Bool.true_and, Bool.false_and, Bool.not_true, Bool.not_false, decide_true, decide_false] <;> rfl) trivial X dX6_count_66
  by_cases c4 : x = nI 3
  · refine g_swIn (k := 3) (lo' := 0) (tgt := 67) C0 (c4) rfl rfl dX6_count_1 rfl rfl rfl rfl ?_
    refine lv_aload_n hx hb dX6_count_67 rfl (lv_at hl 0 rfl) ?_
    refine g_get (v := .ref sh) C0 X kX6 0 6 tb206 rfl rfl rfl dX6_count_68 ?_
    refine g_iconst (n := 0) C0 rfl dX6_count_71 ?_
    refine g_aald (v := sA 0) (i := 0) C0 X 18 4 rfl rfl (by decide) rfl rfl dX6_count_72 ?_
    refine g_callV (As := []) (rest := []) (wr := (lW a hL hT im bs rd hS sh kb rf ++ gW tk hL G d e ++ sW tk hS sn pl lo le ++ rW rd ta hD fa fp kd ts te wt ++ tW tk ta tb tn_ tt ++ hsW tk sh (sA 0) (sA 1) (sA 2) (sA 3))) (C0.sz hl) X (c_X3_isNothing l D tk (sA 0) (sC 0) (kn 0) (kl 0) (kc 0)) ⟨tb787, tb763, tb7, ⟨by decide, by decide, rfl⟩, rfl, rfl, Nat.le_of_ble_eq_true rfl, Nat.le_of_ble_eq_true rfl⟩ tb761 tb762 19 3 rfl rfl rfl rfl [19, 20] [0, 1, 2, 3, 4, 5, 6, 7, 8, 9, 10, 11, 12, 13, 14, 15, 16, 17, 18] rfl rfl rfl rfl rfl (Nat.le_of_ble_eq_true rfl) ⟨Nat.le_of_ble_eq_true rfl, Nat.le_of_ble_eq_true rfl⟩ dX6_count_73 (fun _ H locs _ X => ?_)
    have X : Hx D zA zs H locs (lW a hL hT im bs rd hS sh kb rf ++ gW tk hL G d e ++ sW tk hS sn pl lo le ++ rW rd ta hD fa fp kd ts te wt ++ tW tk ta tb tn_ tt ++ hsW tk sh (sA 0) (sA 1) (sA 2) (sA 3) ++ shW tk (sA 0) (sC 0) (kn 0) (kl 0) (kc 0)) := X
    refine g_ifeqB (x := decide ((kl 0) = -1)) (tgt := 84) C0 dX6_count_76 rfl (fun c5 => ?_) (fun c6 => ?_)
    · refine lv_aload_n hx hb dX6_count_84 rfl (lv_at hl 0 rfl) ?_
      refine g_get (v := .ref sh) C0 X kX6 0 6 tb206 rfl rfl rfl dX6_count_85 ?_
      refine g_iconst (n := 0) C0 rfl dX6_count_88 ?_
      refine g_aald (v := sA 0) (i := 0) C0 X 18 4 rfl rfl (by decide) rfl rfl dX6_count_89 ?_
      refine g_get (v := .int (nI (kn 0))) C0 X kX3 19 0 tb189 rfl rfl rfl dX6_count_90 ?_
      exact hE (v := nI (kn 0)) () (by simp only [a_count, c5, if_neg c1, if_neg c2, if_neg c3, if_pos c4, cg8, if_true, if_false, Bool.false_eq_true, Bool.and_self, Bool.and_true, Bool.and_false, Bool.true_and, Bool.false_and, Bool.not_true, Bool.not_false, decide_true, decide_false] <;> rfl) trivial X dX6_count_93
    · refine lv_bipush (v := (-4)) hx hb dX6_count_79 (by decide) ?_
      refine lv_goto (tgt := 93) hx hb dX6_count_81 (by decide) ?_
      exact hE (v := (-4)) () (by simp only [a_count, c6, if_neg c1, if_neg c2, if_neg c3, if_pos c4, cg8, if_true, if_false, Bool.false_eq_true, Bool.and_self, Bool.and_true, Bool.and_false, Bool.true_and, Bool.false_and, Bool.not_true, Bool.not_false, decide_true, decide_false] <;> rfl) trivial X dX6_count_93
  by_cases c7 : x = nI 4
  · refine g_swIn (k := 4) (lo' := 0) (tgt := 94) C0 (c7) rfl rfl dX6_count_1 rfl rfl rfl rfl ?_
    refine lv_aload_n hx hb dX6_count_94 rfl (lv_at hl 0 rfl) ?_
    refine g_get (v := .ref (hL 0)) C0 X kX6 0 0 tb200 rfl rfl rfl dX6_count_95 ?_
    refine g_get (v := .int (nI (G 8 1))) C0 X kX1 1 2 tb39 rfl rfl rfl dX6_count_98 ?_
    refine lv_aload_n hx hb dX6_count_101 rfl (lv_at hl 0 rfl) ?_
    refine g_get (v := .ref (hL 0)) C0 X kX6 0 0 tb200 rfl rfl rfl dX6_count_102 ?_
    refine g_get (v := .ref (hL 4)) C0 X kX1 1 5 tb45 rfl rfl rfl dX6_count_105 ?_
    refine g_callS (As := [.int (nI (G 8 1)), .ref (hL 4)]) (rest := []) (wr := (lW a hL hT im bs rd hS sh kb rf ++ sW tk hS sn pl lo le ++ rW rd ta hD fa fp kd ts te wt ++ tW tk ta tb tn_ tt ++ hsW tk sh (sA 0) (sA 1) (sA 2) (sA 3) ++ shW tk (sA 0) (sC 0) (kn 0) (kl 0) (kc 0))) (C0.sz hl) X (c_smL l D tk hL G d e (G 8 1) (by first | assumption | omega)) ⟨tb788, tb790, tb1, ⟨by decide, by decide, rfl⟩, rfl, rfl, Nat.le_of_ble_eq_true rfl, Nat.le_of_ble_eq_true rfl⟩ tb789 rfl [1, 2, 3, 4, 5, 6, 7, 8, 9, 10] [0, 11, 12, 13, 14, 15, 16, 17, 18, 19, 20] rfl rfl rfl rfl rfl (Nat.le_of_ble_eq_true rfl) ⟨Nat.le_of_ble_eq_true rfl, Nat.le_of_ble_eq_true rfl⟩ dX6_count_108 (fun _ H locs _ X => ?_)
    have X : Hx D zA zs H locs (lW a hL hT im bs rd hS sh kb rf ++ sW tk hS sn pl lo le ++ rW rd ta hD fa fp kd ts te wt ++ tW tk ta tb tn_ tt ++ hsW tk sh (sA 0) (sA 1) (sA 2) (sA 3) ++ shW tk (sA 0) (sC 0) (kn 0) (kl 0) (kc 0) ++ gW tk hL G d e) := X
    have X : Hx D zA zs H locs (lW a hL hT im bs rd hS sh kb rf ++ gW tk hL G d e ++ sW tk hS sn pl lo le ++ rW rd ta hD fa fp kd ts te wt ++ tW tk ta tb tn_ tt ++ hsW tk sh (sA 0) (sA 1) (sA 2) (sA 3) ++ shW tk (sA 0) (sC 0) (kn 0) (kl 0) (kc 0)) := X.sub [0, 11, 12, 13, 14, 15, 16, 17, 18, 19, 20, 1, 2, 3, 4, 5, 6, 7, 8, 9, 10] rfl rfl
    exact hE (v := nI (nsum (G 3) (G 8 1))) () (by simp only [a_count, if_neg c1, if_neg c2, if_neg c3, if_neg c4, if_pos c7, cg8, if_true, if_false, Bool.false_eq_true, Bool.and_self, Bool.and_true, Bool.and_false, Bool.true_and, Bool.false_and, Bool.not_true, Bool.not_false, decide_true, decide_false] <;> rfl) trivial X dX6_count_111
  by_cases c8 : x = nI 5
  · refine g_swIn (k := 5) (lo' := 0) (tgt := 112) C0 (c8) rfl rfl dX6_count_1 rfl rfl rfl rfl ?_
    refine lv_aload_n hx hb dX6_count_112 rfl (lv_at hl 0 rfl) ?_
    refine g_get (v := .ref (hL 0)) C0 X kX6 0 0 tb200 rfl rfl rfl dX6_count_113 ?_
    refine g_get (v := .int (nI (G 8 3))) C0 X kX1 1 8 tb52 rfl rfl rfl dX6_count_116 ?_
    refine lv_aload_n hx hb dX6_count_119 rfl (lv_at hl 0 rfl) ?_
    refine g_get (v := .ref (hL 0)) C0 X kX6 0 0 tb200 rfl rfl rfl dX6_count_120 ?_
    refine g_get (v := .ref (hL 7)) C0 X kX1 1 11 tb59 rfl rfl rfl dX6_count_123 ?_
    refine g_callS (As := [.int (nI (G 8 3)), .ref (hL 7)]) (rest := []) (wr := (lW a hL hT im bs rd hS sh kb rf ++ sW tk hS sn pl lo le ++ rW rd ta hD fa fp kd ts te wt ++ tW tk ta tb tn_ tt ++ hsW tk sh (sA 0) (sA 1) (sA 2) (sA 3) ++ shW tk (sA 0) (sC 0) (kn 0) (kl 0) (kc 0))) (C0.sz hl) X (c_smB l D tk hL G d e (G 8 3) (by first | assumption | omega)) ⟨tb788, tb790, tb1, ⟨by decide, by decide, rfl⟩, rfl, rfl, Nat.le_of_ble_eq_true rfl, Nat.le_of_ble_eq_true rfl⟩ tb789 rfl [1, 2, 3, 4, 5, 6, 7, 8, 9, 10] [0, 11, 12, 13, 14, 15, 16, 17, 18, 19, 20] rfl rfl rfl rfl rfl (Nat.le_of_ble_eq_true rfl) ⟨Nat.le_of_ble_eq_true rfl, Nat.le_of_ble_eq_true rfl⟩ dX6_count_126 (fun _ H locs _ X => ?_)
    have X : Hx D zA zs H locs (lW a hL hT im bs rd hS sh kb rf ++ sW tk hS sn pl lo le ++ rW rd ta hD fa fp kd ts te wt ++ tW tk ta tb tn_ tt ++ hsW tk sh (sA 0) (sA 1) (sA 2) (sA 3) ++ shW tk (sA 0) (sC 0) (kn 0) (kl 0) (kc 0) ++ gW tk hL G d e) := X
    have X : Hx D zA zs H locs (lW a hL hT im bs rd hS sh kb rf ++ gW tk hL G d e ++ sW tk hS sn pl lo le ++ rW rd ta hD fa fp kd ts te wt ++ tW tk ta tb tn_ tt ++ hsW tk sh (sA 0) (sA 1) (sA 2) (sA 3) ++ shW tk (sA 0) (sC 0) (kn 0) (kl 0) (kc 0)) := X.sub [0, 11, 12, 13, 14, 15, 16, 17, 18, 19, 20, 1, 2, 3, 4, 5, 6, 7, 8, 9, 10] rfl rfl
    exact hE (v := nI (nsum (G 7) (G 8 3))) () (by simp only [a_count, if_neg c1, if_neg c2, if_neg c3, if_neg c4, if_neg c7, if_pos c8, cg8, if_true, if_false, Bool.false_eq_true, Bool.and_self, Bool.and_true, Bool.and_false, Bool.true_and, Bool.false_and, Bool.not_true, Bool.not_false, decide_true, decide_false] <;> rfl) trivial X dX6_count_129
  refine g_swOut (n := 6) (lo' := 0) (tgt := 130) C0 (by intro j hj1 hj; rcases (show j = 0 ∨ j = 1 ∨ j = 2 ∨ j = 3 ∨ j = 4 ∨ j = 5 by omega) with rfl | rfl | rfl | rfl | rfl | rfl <;> assumption) rfl dX6_count_1 rfl rfl rfl ?_
  refine lv_iconst (v := (-1)) hx hb dX6_count_130 (by decide) ?_
  exact hE (v := (-1)) () (by simp only [a_count, if_neg c1, if_neg c2, if_neg c3, if_neg c4, if_neg c7, if_neg c8, cg8, if_true, if_false, Bool.false_eq_true, Bool.and_self, Bool.and_true, Bool.and_false, Bool.true_and, Bool.false_and, Bool.not_true, Bool.not_false, decide_true, decide_false] <;> rfl) trivial X dX6_count_131
