set_option maxHeartbeats 4000000 in
set_option maxRecDepth 100000 in
theorem c_X6_lay (l : Launch) (D : va_G) (tk : Nat → ClassId) (a : Nat) (hL hT : Nat → Nat) (im bs rd : Nat) (hS : Nat → Nat) (sh kb rf : Nat) (sA sC kn : Nat → Nat) (kl : Nat → Int32) (kc : Nat → Nat → Int32) (x y z : Int32) (hkn : ∀ k, k < 4 → kn k ≤ 40) : MX l yX6_lay cX6_lay 5 (some .int) ⟨2, 0, 0, 44⟩ D (TYS tk) [.ref a, .int x, .int y, .int z] (lW a hL hT im bs rd hS sh kb rf ++ hsW tk sh (sA 0) (sA 1) (sA 2) (sA 3) ++ shW tk (sA 0) (sC 0) (kn 0) (kl 0) (kc 0) ++ shW tk (sA 1) (sC 1) (kn 1) (kl 1) (kc 1) ++ shW tk (sA 2) (sC 2) (kn 2) (kl 2) (kc 2) ++ shW tk (sA 3) (sC 3) (kn 3) (kl 3) (kc 3)) (fun (_ : Unit) => True) (fun _ => some (.int (a_lay kl kn x y))) (fun _ => lW a hL hT im bs rd hS sh kb rf ++ hsW tk sh (sA 0) (sA 1) (sA 2) (sA 3) ++ shW tk (sA 0) (sC 0) (kn 0) (kl 0) (layC kc kl kn x y z 0) ++ shW tk (sA 1) (sC 1) (kn 1) (kl 1) (layC kc kl kn x y z 1) ++ shW tk (sA 2) (sC 2) (kn 2) (kl 2) (layC kc kl kn x y z 2) ++ shW tk (sA 3) (sC 3) (kn 3) (kl 3) (layC kc kl kn x y z 3)) 0 0 := by
  refine MX.of_i (by decide) rfl ?_
  intro zp ze zs zm za zb zt zc zA zQ ls C0 hnm X hl hE
  have hx := C0.1
  have hb := C0.2.1
  have ht := C0.2.2.2.2.1
  have X : Hx D zA zs zs.heap [] (lW a hL hT im bs rd hS sh kb rf ++ hsW tk sh (sA 0) (sA 1) (sA 2) (sA 3) ++ shW tk (sA 0) (sC 0) (kn 0) (kl 0) (kc 0) ++ shW tk (sA 1) (sC 1) (kn 1) (kl 1) (kc 1) ++ shW tk (sA 2) (sC 2) (kn 2) (kl 2) (kc 2) ++ shW tk (sA 3) (sC 3) (kn 3) (kl 3) (kc 3)) := X
  have hl : lv_has ls 5 [(0, .ref a), (1, .int x), (2, .int y), (3, .int z)] := hl
  have hk0 := hkn 0 (by decide)
  have hk1 := hkn 1 (by decide)
  have hk2 := hkn 2 (by decide)
  have hk3 := hkn 3 (by decide)
  obtain ⟨H, hH⟩ : ∃ H, H = zs.heap := ⟨_, rfl⟩
  rw [← hH] at X ⊢
  obtain ⟨locs, hlo⟩ : ∃ L : List Loc, L = [] := ⟨_, rfl⟩
  rw [← hlo] at X ⊢
  refine lv_aload_n hx hb dX6_lay_0 rfl (lv_at hl 0 rfl) ?_
  refine lv_iload_n hx hb dX6_lay_1 rfl (lv_at hl 1 rfl) ?_
  refine g_callV (As := [.int x]) (rest := []) (wr := (shW tk (sA 0) (sC 0) (kn 0) (kl 0) (kc 0) ++ shW tk (sA 1) (sC 1) (kn 1) (kl 1) (kc 1) ++ shW tk (sA 2) (sC 2) (kn 2) (kl 2) (kc 2) ++ shW tk (sA 3) (sC 3) (kn 3) (kl 3) (kc 3))) (C0.sz hl) X (c_X6_isSheet l D tk a hL hT im bs rd hS sh kb rf (sA 0) (sA 1) (sA 2) (sA 3) x) ⟨tb741, tb744, tb1, ⟨by decide, by decide, rfl⟩, rfl, rfl, Nat.le_of_ble_eq_true rfl, Nat.le_of_ble_eq_true rfl⟩ tb743 tbs20 0 6 rfl rfl rfl rfl [0, 1] [2, 3, 4, 5, 6, 7, 8, 9] rfl rfl rfl rfl rfl (Nat.le_of_ble_eq_true rfl) ⟨Nat.le_of_ble_eq_true rfl, Nat.le_of_ble_eq_true rfl⟩ dX6_lay_2 (fun _ H locs _ X => ?_)
  have X : Hx D zA zs H locs (shW tk (sA 0) (sC 0) (kn 0) (kl 0) (kc 0) ++ shW tk (sA 1) (sC 1) (kn 1) (kl 1) (kc 1) ++ shW tk (sA 2) (sC 2) (kn 2) (kl 2) (kc 2) ++ shW tk (sA 3) (sC 3) (kn 3) (kl 3) (kc 3) ++ lW a hL hT im bs rd hS sh kb rf ++ hsW tk sh (sA 0) (sA 1) (sA 2) (sA 3)) := X
  have X : Hx D zA zs H locs (lW a hL hT im bs rd hS sh kb rf ++ hsW tk sh (sA 0) (sA 1) (sA 2) (sA 3) ++ shW tk (sA 0) (sC 0) (kn 0) (kl 0) (kc 0) ++ shW tk (sA 1) (sC 1) (kn 1) (kl 1) (kc 1) ++ shW tk (sA 2) (sC 2) (kn 2) (kl 2) (kc 2) ++ shW tk (sA 3) (sC 3) (kn 3) (kl 3) (kc 3)) := X.sub [8, 9, 0, 1, 2, 3, 4, 5, 6, 7] rfl rfl
  refine g_ifneB (x := rg x 0 3) (tgt := 10) C0 dX6_lay_5 rfl (fun c1 => ?_) (fun c2 => ?_)
  · obtain ⟨xq, hk_xqa, hk_xqb, hk_xqc, rfl⟩ := rg_sp c1
    refine lv_aload_n hx hb dX6_lay_10 rfl (lv_at hl 0 rfl) ?_
    rcases (show xq = 0 ∨ xq = 1 ∨ xq = 2 ∨ xq = 3 by omega) with rfl | rfl | rfl | rfl
    · refine g_get (v := .ref sh) C0 X kX6 0 6 tb206 rfl rfl rfl dX6_lay_11 ?_
      refine lv_iload_n hx hb dX6_lay_14 rfl (lv_at hl 1 rfl) ?_
      refine g_aald (v := sA 0) (i := 0) C0 X 1 4 rfl rfl (by decide) rfl rfl dX6_lay_15 ?_
      refine lv_iload_n hx hb dX6_lay_16 rfl (lv_at hl 2 rfl) ?_
      refine g_iconst (n := 1) C0 rfl dX6_lay_17 ?_
      refine g_callV (As := [.int y, .int (nI 1)]) (rest := []) (wr := (lW a hL hT im bs rd hS sh kb rf ++ hsW tk sh (sA 0) (sA 1) (sA 2) (sA 3) ++ shW tk (sA 1) (sC 1) (kn 1) (kl 1) (kc 1) ++ shW tk (sA 2) (sC 2) (kn 2) (kl 2) (kc 2) ++ shW tk (sA 3) (sC 3) (kn 3) (kl 3) (kc 3))) (C0.sz hl) X (c_X3_faultOfCells l D tk (sA 0) (sC 0) (kn 0) (kl 0) (kc 0) y 1 (by first | assumption | omega) (by first | assumption | omega)) ⟨tb757, tb760, tb7, ⟨by decide, by decide, rfl⟩, rfl, rfl, Nat.le_of_ble_eq_true rfl, Nat.le_of_ble_eq_true rfl⟩ tb758 tb759 2 3 rfl rfl rfl rfl [2, 3] [0, 1, 4, 5, 6, 7, 8, 9] rfl rfl rfl rfl rfl (Nat.le_of_ble_eq_true rfl) ⟨Nat.le_of_ble_eq_true rfl, Nat.le_of_ble_eq_true rfl⟩ dX6_lay_18 (fun _ H locs _ X => ?_)
      have X : Hx D zA zs H locs (lW a hL hT im bs rd hS sh kb rf ++ hsW tk sh (sA 0) (sA 1) (sA 2) (sA 3) ++ shW tk (sA 1) (sC 1) (kn 1) (kl 1) (kc 1) ++ shW tk (sA 2) (sC 2) (kn 2) (kl 2) (kc 2) ++ shW tk (sA 3) (sC 3) (kn 3) (kl 3) (kc 3) ++ shW tk (sA 0) (sC 0) (kn 0) (kl 0) (kc 0)) := X
      have X : Hx D zA zs H locs (lW a hL hT im bs rd hS sh kb rf ++ hsW tk sh (sA 0) (sA 1) (sA 2) (sA 3) ++ shW tk (sA 0) (sC 0) (kn 0) (kl 0) (kc 0) ++ shW tk (sA 1) (sC 1) (kn 1) (kl 1) (kc 1) ++ shW tk (sA 2) (sC 2) (kn 2) (kl 2) (kc 2) ++ shW tk (sA 3) (sC 3) (kn 3) (kl 3) (kc 3)) := X.sub [0, 1, 8, 9, 2, 3, 4, 5, 6, 7] rfl rfl
      refine g_top (y := nI (fcl (kl 0) (kn 0) y)) (by rfl) ?_
      have hfl := fcl_le (kl 0) (kn 0) y
      refine lv_istore (lv' := [(4, .int (nI (fcl (kl 0) (kn 0) y))), (0, .ref a), (1, .int (nI 0)), (2, .int y), (3, .int z)]) hx hb dX6_lay_21 hl (by decide) rfl (fun ls hl => ?_)
      refine lv_iload hx hb dX6_lay_23 (lv_at hl 0 rfl) ?_
      refine g_ifeq (x := fcl (kl 0) (kn 0) y) (tgt := 34) C0 (by omega) dX6_lay_25 rfl (fun c3 => ?_) (fun c4 => ?_)
      · obtain ⟨yq, hyq, rfl⟩ := fcl_0 (by omega) c3
        refine lv_aload_n hx hb dX6_lay_34 rfl (lv_at hl 1 rfl) ?_
        refine g_get (v := .ref sh) C0 X kX6 0 6 tb206 rfl rfl rfl dX6_lay_35 ?_
        refine lv_iload_n hx hb dX6_lay_38 rfl (lv_at hl 2 rfl) ?_
        refine g_aald (v := sA 0) (i := 0) C0 X 1 4 rfl rfl (by decide) rfl rfl dX6_lay_39 ?_
        refine lv_iload_n hx hb dX6_lay_40 rfl (lv_at hl 3 rfl) ?_
        refine lv_iload_n hx hb dX6_lay_41 rfl (lv_at hl 4 rfl) ?_
        refine g_callV (As := [.int (nI yq), .int z]) (rest := []) (wr := (lW a hL hT im bs rd hS sh kb rf ++ hsW tk sh (sA 0) (sA 1) (sA 2) (sA 3) ++ shW tk (sA 1) (sC 1) (kn 1) (kl 1) (kc 1) ++ shW tk (sA 2) (sC 2) (kn 2) (kl 2) (kc 2) ++ shW tk (sA 3) (sC 3) (kn 3) (kl 3) (kc 3))) (C0.sz hl) X (c_X3_put l D tk (sA 0) (sC 0) (kn 0) (kl 0) (kc 0) yq z (by first | assumption | omega)) ⟨tb766, tb769, tb7, ⟨by decide, by decide, rfl⟩, rfl, rfl, Nat.le_of_ble_eq_true rfl, Nat.le_of_ble_eq_true rfl⟩ tb767 tb768 2 3 rfl rfl rfl rfl [2, 3] [0, 1, 4, 5, 6, 7, 8, 9] rfl rfl rfl rfl rfl (Nat.le_of_ble_eq_true rfl) ⟨Nat.le_of_ble_eq_true rfl, Nat.le_of_ble_eq_true rfl⟩ dX6_lay_42 (fun _ H locs _ X => ?_)
        have X : Hx D zA zs H locs (lW a hL hT im bs rd hS sh kb rf ++ hsW tk sh (sA 0) (sA 1) (sA 2) (sA 3) ++ shW tk (sA 1) (sC 1) (kn 1) (kl 1) (kc 1) ++ shW tk (sA 2) (sC 2) (kn 2) (kl 2) (kc 2) ++ shW tk (sA 3) (sC 3) (kn 3) (kl 3) (kc 3) ++ shW tk (sA 0) (sC 0) (kn 0) (kl 0) (upd (kc 0) yq (narr (kl 0) z))) := X
        have X : Hx D zA zs H locs (lW a hL hT im bs rd hS sh kb rf ++ hsW tk sh (sA 0) (sA 1) (sA 2) (sA 3) ++ shW tk (sA 0) (sC 0) (kn 0) (kl 0) (upd (kc 0) yq (narr (kl 0) z)) ++ shW tk (sA 1) (sC 1) (kn 1) (kl 1) (kc 1) ++ shW tk (sA 2) (sC 2) (kn 2) (kl 2) (kc 2) ++ shW tk (sA 3) (sC 3) (kn 3) (kl 3) (kc 3)) := X.sub [0, 1, 8, 9, 2, 3, 4, 5, 6, 7] rfl rfl
        refine g_iconst (n := 1) C0 rfl dX6_lay_45 ?_
        exact hE (v := nI 1) () (by simp only [a_lay, c1, c3, tn_nI (k := 0) (by omega), tn_nI (k := yq) (by omega), if_true, if_false, Bool.false_eq_true, Bool.and_self, Bool.and_true, Bool.and_false, Bool.true_and, Bool.false_and, Bool.not_true, Bool.not_false, decide_true, decide_false]) trivial (X.to (by simp only [layC, c1, c3, tn_nI (k := 0) (by omega), tn_nI (k := yq) (by omega), ua, if_true, if_false, Bool.false_eq_true, Bool.and_self, Bool.and_true, Bool.and_false, Bool.true_and, Bool.false_and, Bool.not_true, Bool.not_false, decide_true, decide_false] <;> rfl)) dX6_lay_46
      · refine lv_bipush (v := (-10)) hx hb dX6_lay_28 (by decide) ?_
        refine lv_iload hx hb dX6_lay_30 (lv_at hl 0 rfl) ?_
        refine lv_isub hx hb dX6_lay_32 ?_
        exact hE (v := (-10) - (nI (fcl (kl 0) (kn 0) y))) () (by simp only [a_lay, c1, c4, tn_nI (k := 0) (by omega), show ¬ fcl (kl 0) (kn 0) y = 0 by omega, if_true, if_false, Bool.false_eq_true, Bool.and_self, Bool.and_true, Bool.and_false, Bool.true_and, Bool.false_and, Bool.not_true, Bool.not_false, decide_true, decide_false]) trivial (X.to (by simp only [layC, c1, c4, tn_nI (k := 0) (by omega), ua, show ¬ fcl (kl 0) (kn 0) y = 0 by omega, if_true, if_false, Bool.false_eq_true, Bool.and_self, Bool.and_true, Bool.and_false, Bool.true_and, Bool.false_and, Bool.not_true, Bool.not_false, decide_true, decide_false] <;> rfl)) dX6_lay_33
    · refine g_get (v := .ref sh) C0 X kX6 0 6 tb206 rfl rfl rfl dX6_lay_11 ?_
      refine lv_iload_n hx hb dX6_lay_14 rfl (lv_at hl 1 rfl) ?_
      refine g_aald (v := sA 1) (i := 1) C0 X 1 4 rfl rfl (by decide) rfl rfl dX6_lay_15 ?_
      refine lv_iload_n hx hb dX6_lay_16 rfl (lv_at hl 2 rfl) ?_
      refine g_iconst (n := 1) C0 rfl dX6_lay_17 ?_
      refine g_callV (As := [.int y, .int (nI 1)]) (rest := []) (wr := (lW a hL hT im bs rd hS sh kb rf ++ hsW tk sh (sA 0) (sA 1) (sA 2) (sA 3) ++ shW tk (sA 0) (sC 0) (kn 0) (kl 0) (kc 0) ++ shW tk (sA 2) (sC 2) (kn 2) (kl 2) (kc 2) ++ shW tk (sA 3) (sC 3) (kn 3) (kl 3) (kc 3))) (C0.sz hl) X (c_X3_faultOfCells l D tk (sA 1) (sC 1) (kn 1) (kl 1) (kc 1) y 1 (by first | assumption | omega) (by first | assumption | omega)) ⟨tb757, tb760, tb7, ⟨by decide, by decide, rfl⟩, rfl, rfl, Nat.le_of_ble_eq_true rfl, Nat.le_of_ble_eq_true rfl⟩ tb758 tb759 4 3 rfl rfl rfl rfl [4, 5] [0, 1, 2, 3, 6, 7, 8, 9] rfl rfl rfl rfl rfl (Nat.le_of_ble_eq_true rfl) ⟨Nat.le_of_ble_eq_true rfl, Nat.le_of_ble_eq_true rfl⟩ dX6_lay_18 (fun _ H locs _ X => ?_)
      have X : Hx D zA zs H locs (lW a hL hT im bs rd hS sh kb rf ++ hsW tk sh (sA 0) (sA 1) (sA 2) (sA 3) ++ shW tk (sA 0) (sC 0) (kn 0) (kl 0) (kc 0) ++ shW tk (sA 2) (sC 2) (kn 2) (kl 2) (kc 2) ++ shW tk (sA 3) (sC 3) (kn 3) (kl 3) (kc 3) ++ shW tk (sA 1) (sC 1) (kn 1) (kl 1) (kc 1)) := X
      have X : Hx D zA zs H locs (lW a hL hT im bs rd hS sh kb rf ++ hsW tk sh (sA 0) (sA 1) (sA 2) (sA 3) ++ shW tk (sA 0) (sC 0) (kn 0) (kl 0) (kc 0) ++ shW tk (sA 1) (sC 1) (kn 1) (kl 1) (kc 1) ++ shW tk (sA 2) (sC 2) (kn 2) (kl 2) (kc 2) ++ shW tk (sA 3) (sC 3) (kn 3) (kl 3) (kc 3)) := X.sub [0, 1, 2, 3, 8, 9, 4, 5, 6, 7] rfl rfl
      refine g_top (y := nI (fcl (kl 1) (kn 1) y)) (by rfl) ?_
      have hfl := fcl_le (kl 1) (kn 1) y
      refine lv_istore (lv' := [(4, .int (nI (fcl (kl 1) (kn 1) y))), (0, .ref a), (1, .int (nI 1)), (2, .int y), (3, .int z)]) hx hb dX6_lay_21 hl (by decide) rfl (fun ls hl => ?_)
      refine lv_iload hx hb dX6_lay_23 (lv_at hl 0 rfl) ?_
      refine g_ifeq (x := fcl (kl 1) (kn 1) y) (tgt := 34) C0 (by omega) dX6_lay_25 rfl (fun c5 => ?_) (fun c6 => ?_)
      · obtain ⟨yq, hyq, rfl⟩ := fcl_0 (by omega) c5
        refine lv_aload_n hx hb dX6_lay_34 rfl (lv_at hl 1 rfl) ?_
        refine g_get (v := .ref sh) C0 X kX6 0 6 tb206 rfl rfl rfl dX6_lay_35 ?_
        refine lv_iload_n hx hb dX6_lay_38 rfl (lv_at hl 2 rfl) ?_
        refine g_aald (v := sA 1) (i := 1) C0 X 1 4 rfl rfl (by decide) rfl rfl dX6_lay_39 ?_
        refine lv_iload_n hx hb dX6_lay_40 rfl (lv_at hl 3 rfl) ?_
        refine lv_iload_n hx hb dX6_lay_41 rfl (lv_at hl 4 rfl) ?_
        refine g_callV (As := [.int (nI yq), .int z]) (rest := []) (wr := (lW a hL hT im bs rd hS sh kb rf ++ hsW tk sh (sA 0) (sA 1) (sA 2) (sA 3) ++ shW tk (sA 0) (sC 0) (kn 0) (kl 0) (kc 0) ++ shW tk (sA 2) (sC 2) (kn 2) (kl 2) (kc 2) ++ shW tk (sA 3) (sC 3) (kn 3) (kl 3) (kc 3))) (C0.sz hl) X (c_X3_put l D tk (sA 1) (sC 1) (kn 1) (kl 1) (kc 1) yq z (by first | assumption | omega)) ⟨tb766, tb769, tb7, ⟨by decide, by decide, rfl⟩, rfl, rfl, Nat.le_of_ble_eq_true rfl, Nat.le_of_ble_eq_true rfl⟩ tb767 tb768 4 3 rfl rfl rfl rfl [4, 5] [0, 1, 2, 3, 6, 7, 8, 9] rfl rfl rfl rfl rfl (Nat.le_of_ble_eq_true rfl) ⟨Nat.le_of_ble_eq_true rfl, Nat.le_of_ble_eq_true rfl⟩ dX6_lay_42 (fun _ H locs _ X => ?_)
        have X : Hx D zA zs H locs (lW a hL hT im bs rd hS sh kb rf ++ hsW tk sh (sA 0) (sA 1) (sA 2) (sA 3) ++ shW tk (sA 0) (sC 0) (kn 0) (kl 0) (kc 0) ++ shW tk (sA 2) (sC 2) (kn 2) (kl 2) (kc 2) ++ shW tk (sA 3) (sC 3) (kn 3) (kl 3) (kc 3) ++ shW tk (sA 1) (sC 1) (kn 1) (kl 1) (upd (kc 1) yq (narr (kl 1) z))) := X
        have X : Hx D zA zs H locs (lW a hL hT im bs rd hS sh kb rf ++ hsW tk sh (sA 0) (sA 1) (sA 2) (sA 3) ++ shW tk (sA 0) (sC 0) (kn 0) (kl 0) (kc 0) ++ shW tk (sA 1) (sC 1) (kn 1) (kl 1) (upd (kc 1) yq (narr (kl 1) z)) ++ shW tk (sA 2) (sC 2) (kn 2) (kl 2) (kc 2) ++ shW tk (sA 3) (sC 3) (kn 3) (kl 3) (kc 3)) := X.sub [0, 1, 2, 3, 8, 9, 4, 5, 6, 7] rfl rfl
        refine g_iconst (n := 1) C0 rfl dX6_lay_45 ?_
        exact hE (v := nI 1) () (by simp only [a_lay, c1, c5, tn_nI (k := 1) (by omega), tn_nI (k := yq) (by omega), if_true, if_false, Bool.false_eq_true, Bool.and_self, Bool.and_true, Bool.and_false, Bool.true_and, Bool.false_and, Bool.not_true, Bool.not_false, decide_true, decide_false]) trivial (X.to (by simp only [layC, c1, c5, tn_nI (k := 1) (by omega), tn_nI (k := yq) (by omega), ua, if_true, if_false, Bool.false_eq_true, Bool.and_self, Bool.and_true, Bool.and_false, Bool.true_and, Bool.false_and, Bool.not_true, Bool.not_false, decide_true, decide_false] <;> rfl)) dX6_lay_46
      · refine lv_bipush (v := (-10)) hx hb dX6_lay_28 (by decide) ?_
        refine lv_iload hx hb dX6_lay_30 (lv_at hl 0 rfl) ?_
        refine lv_isub hx hb dX6_lay_32 ?_
        exact hE (v := (-10) - (nI (fcl (kl 1) (kn 1) y))) () (by simp only [a_lay, c1, c6, tn_nI (k := 1) (by omega), show ¬ fcl (kl 1) (kn 1) y = 0 by omega, if_true, if_false, Bool.false_eq_true, Bool.and_self, Bool.and_true, Bool.and_false, Bool.true_and, Bool.false_and, Bool.not_true, Bool.not_false, decide_true, decide_false]) trivial (X.to (by simp only [layC, c1, c6, tn_nI (k := 1) (by omega), ua, show ¬ fcl (kl 1) (kn 1) y = 0 by omega, if_true, if_false, Bool.false_eq_true, Bool.and_self, Bool.and_true, Bool.and_false, Bool.true_and, Bool.false_and, Bool.not_true, Bool.not_false, decide_true, decide_false] <;> rfl)) dX6_lay_33
    · refine g_get (v := .ref sh) C0 X kX6 0 6 tb206 rfl rfl rfl dX6_lay_11 ?_
      refine lv_iload_n hx hb dX6_lay_14 rfl (lv_at hl 1 rfl) ?_
      refine g_aald (v := sA 2) (i := 2) C0 X 1 4 rfl rfl (by decide) rfl rfl dX6_lay_15 ?_
      refine lv_iload_n hx hb dX6_lay_16 rfl (lv_at hl 2 rfl) ?_
      refine g_iconst (n := 1) C0 rfl dX6_lay_17 ?_
      refine g_callV (As := [.int y, .int (nI 1)]) (rest := []) (wr := (lW a hL hT im bs rd hS sh kb rf ++ hsW tk sh (sA 0) (sA 1) (sA 2) (sA 3) ++ shW tk (sA 0) (sC 0) (kn 0) (kl 0) (kc 0) ++ shW tk (sA 1) (sC 1) (kn 1) (kl 1) (kc 1) ++ shW tk (sA 3) (sC 3) (kn 3) (kl 3) (kc 3))) (C0.sz hl) X (c_X3_faultOfCells l D tk (sA 2) (sC 2) (kn 2) (kl 2) (kc 2) y 1 (by first | assumption | omega) (by first | assumption | omega)) ⟨tb757, tb760, tb7, ⟨by decide, by decide, rfl⟩, rfl, rfl, Nat.le_of_ble_eq_true rfl, Nat.le_of_ble_eq_true rfl⟩ tb758 tb759 6 3 rfl rfl rfl rfl [6, 7] [0, 1, 2, 3, 4, 5, 8, 9] rfl rfl rfl rfl rfl (Nat.le_of_ble_eq_true rfl) ⟨Nat.le_of_ble_eq_true rfl, Nat.le_of_ble_eq_true rfl⟩ dX6_lay_18 (fun _ H locs _ X => ?_)
      have X : Hx D zA zs H locs (lW a hL hT im bs rd hS sh kb rf ++ hsW tk sh (sA 0) (sA 1) (sA 2) (sA 3) ++ shW tk (sA 0) (sC 0) (kn 0) (kl 0) (kc 0) ++ shW tk (sA 1) (sC 1) (kn 1) (kl 1) (kc 1) ++ shW tk (sA 3) (sC 3) (kn 3) (kl 3) (kc 3) ++ shW tk (sA 2) (sC 2) (kn 2) (kl 2) (kc 2)) := X
      have X : Hx D zA zs H locs (lW a hL hT im bs rd hS sh kb rf ++ hsW tk sh (sA 0) (sA 1) (sA 2) (sA 3) ++ shW tk (sA 0) (sC 0) (kn 0) (kl 0) (kc 0) ++ shW tk (sA 1) (sC 1) (kn 1) (kl 1) (kc 1) ++ shW tk (sA 2) (sC 2) (kn 2) (kl 2) (kc 2) ++ shW tk (sA 3) (sC 3) (kn 3) (kl 3) (kc 3)) := X.sub [0, 1, 2, 3, 4, 5, 8, 9, 6, 7] rfl rfl
      refine g_top (y := nI (fcl (kl 2) (kn 2) y)) (by rfl) ?_
      have hfl := fcl_le (kl 2) (kn 2) y
      refine lv_istore (lv' := [(4, .int (nI (fcl (kl 2) (kn 2) y))), (0, .ref a), (1, .int (nI 2)), (2, .int y), (3, .int z)]) hx hb dX6_lay_21 hl (by decide) rfl (fun ls hl => ?_)
      refine lv_iload hx hb dX6_lay_23 (lv_at hl 0 rfl) ?_
      refine g_ifeq (x := fcl (kl 2) (kn 2) y) (tgt := 34) C0 (by omega) dX6_lay_25 rfl (fun c7 => ?_) (fun c8 => ?_)
      · obtain ⟨yq, hyq, rfl⟩ := fcl_0 (by omega) c7
        refine lv_aload_n hx hb dX6_lay_34 rfl (lv_at hl 1 rfl) ?_
        refine g_get (v := .ref sh) C0 X kX6 0 6 tb206 rfl rfl rfl dX6_lay_35 ?_
        refine lv_iload_n hx hb dX6_lay_38 rfl (lv_at hl 2 rfl) ?_
        refine g_aald (v := sA 2) (i := 2) C0 X 1 4 rfl rfl (by decide) rfl rfl dX6_lay_39 ?_
        refine lv_iload_n hx hb dX6_lay_40 rfl (lv_at hl 3 rfl) ?_
        refine lv_iload_n hx hb dX6_lay_41 rfl (lv_at hl 4 rfl) ?_
        refine g_callV (As := [.int (nI yq), .int z]) (rest := []) (wr := (lW a hL hT im bs rd hS sh kb rf ++ hsW tk sh (sA 0) (sA 1) (sA 2) (sA 3) ++ shW tk (sA 0) (sC 0) (kn 0) (kl 0) (kc 0) ++ shW tk (sA 1) (sC 1) (kn 1) (kl 1) (kc 1) ++ shW tk (sA 3) (sC 3) (kn 3) (kl 3) (kc 3))) (C0.sz hl) X (c_X3_put l D tk (sA 2) (sC 2) (kn 2) (kl 2) (kc 2) yq z (by first | assumption | omega)) ⟨tb766, tb769, tb7, ⟨by decide, by decide, rfl⟩, rfl, rfl, Nat.le_of_ble_eq_true rfl, Nat.le_of_ble_eq_true rfl⟩ tb767 tb768 6 3 rfl rfl rfl rfl [6, 7] [0, 1, 2, 3, 4, 5, 8, 9] rfl rfl rfl rfl rfl (Nat.le_of_ble_eq_true rfl) ⟨Nat.le_of_ble_eq_true rfl, Nat.le_of_ble_eq_true rfl⟩ dX6_lay_42 (fun _ H locs _ X => ?_)
        have X : Hx D zA zs H locs (lW a hL hT im bs rd hS sh kb rf ++ hsW tk sh (sA 0) (sA 1) (sA 2) (sA 3) ++ shW tk (sA 0) (sC 0) (kn 0) (kl 0) (kc 0) ++ shW tk (sA 1) (sC 1) (kn 1) (kl 1) (kc 1) ++ shW tk (sA 3) (sC 3) (kn 3) (kl 3) (kc 3) ++ shW tk (sA 2) (sC 2) (kn 2) (kl 2) (upd (kc 2) yq (narr (kl 2) z))) := X
        have X : Hx D zA zs H locs (lW a hL hT im bs rd hS sh kb rf ++ hsW tk sh (sA 0) (sA 1) (sA 2) (sA 3) ++ shW tk (sA 0) (sC 0) (kn 0) (kl 0) (kc 0) ++ shW tk (sA 1) (sC 1) (kn 1) (kl 1) (kc 1) ++ shW tk (sA 2) (sC 2) (kn 2) (kl 2) (upd (kc 2) yq (narr (kl 2) z)) ++ shW tk (sA 3) (sC 3) (kn 3) (kl 3) (kc 3)) := X.sub [0, 1, 2, 3, 4, 5, 8, 9, 6, 7] rfl rfl
        refine g_iconst (n := 1) C0 rfl dX6_lay_45 ?_
        exact hE (v := nI 1) () (by simp only [a_lay, c1, c7, tn_nI (k := 2) (by omega), tn_nI (k := yq) (by omega), if_true, if_false, Bool.false_eq_true, Bool.and_self, Bool.and_true, Bool.and_false, Bool.true_and, Bool.false_and, Bool.not_true, Bool.not_false, decide_true, decide_false]) trivial (X.to (by simp only [layC, c1, c7, tn_nI (k := 2) (by omega), tn_nI (k := yq) (by omega), ua, if_true, if_false, Bool.false_eq_true, Bool.and_self, Bool.and_true, Bool.and_false, Bool.true_and, Bool.false_and, Bool.not_true, Bool.not_false, decide_true, decide_false] <;> rfl)) dX6_lay_46
      · refine lv_bipush (v := (-10)) hx hb dX6_lay_28 (by decide) ?_
        refine lv_iload hx hb dX6_lay_30 (lv_at hl 0 rfl) ?_
        refine lv_isub hx hb dX6_lay_32 ?_
        exact hE (v := (-10) - (nI (fcl (kl 2) (kn 2) y))) () (by simp only [a_lay, c1, c8, tn_nI (k := 2) (by omega), show ¬ fcl (kl 2) (kn 2) y = 0 by omega, if_true, if_false, Bool.false_eq_true, Bool.and_self, Bool.and_true, Bool.and_false, Bool.true_and, Bool.false_and, Bool.not_true, Bool.not_false, decide_true, decide_false]) trivial (X.to (by simp only [layC, c1, c8, tn_nI (k := 2) (by omega), ua, show ¬ fcl (kl 2) (kn 2) y = 0 by omega, if_true, if_false, Bool.false_eq_true, Bool.and_self, Bool.and_true, Bool.and_false, Bool.true_and, Bool.false_and, Bool.not_true, Bool.not_false, decide_true, decide_false] <;> rfl)) dX6_lay_33
    · refine g_get (v := .ref sh) C0 X kX6 0 6 tb206 rfl rfl rfl dX6_lay_11 ?_
      refine lv_iload_n hx hb dX6_lay_14 rfl (lv_at hl 1 rfl) ?_
      refine g_aald (v := sA 3) (i := 3) C0 X 1 4 rfl rfl (by decide) rfl rfl dX6_lay_15 ?_
      refine lv_iload_n hx hb dX6_lay_16 rfl (lv_at hl 2 rfl) ?_
      refine g_iconst (n := 1) C0 rfl dX6_lay_17 ?_
      refine g_callV (As := [.int y, .int (nI 1)]) (rest := []) (wr := (lW a hL hT im bs rd hS sh kb rf ++ hsW tk sh (sA 0) (sA 1) (sA 2) (sA 3) ++ shW tk (sA 0) (sC 0) (kn 0) (kl 0) (kc 0) ++ shW tk (sA 1) (sC 1) (kn 1) (kl 1) (kc 1) ++ shW tk (sA 2) (sC 2) (kn 2) (kl 2) (kc 2))) (C0.sz hl) X (c_X3_faultOfCells l D tk (sA 3) (sC 3) (kn 3) (kl 3) (kc 3) y 1 (by first | assumption | omega) (by first | assumption | omega)) ⟨tb757, tb760, tb7, ⟨by decide, by decide, rfl⟩, rfl, rfl, Nat.le_of_ble_eq_true rfl, Nat.le_of_ble_eq_true rfl⟩ tb758 tb759 8 3 rfl rfl rfl rfl [8, 9] [0, 1, 2, 3, 4, 5, 6, 7] rfl rfl rfl rfl rfl (Nat.le_of_ble_eq_true rfl) ⟨Nat.le_of_ble_eq_true rfl, Nat.le_of_ble_eq_true rfl⟩ dX6_lay_18 (fun _ H locs _ X => ?_)
      have X : Hx D zA zs H locs (lW a hL hT im bs rd hS sh kb rf ++ hsW tk sh (sA 0) (sA 1) (sA 2) (sA 3) ++ shW tk (sA 0) (sC 0) (kn 0) (kl 0) (kc 0) ++ shW tk (sA 1) (sC 1) (kn 1) (kl 1) (kc 1) ++ shW tk (sA 2) (sC 2) (kn 2) (kl 2) (kc 2) ++ shW tk (sA 3) (sC 3) (kn 3) (kl 3) (kc 3)) := X
      refine g_top (y := nI (fcl (kl 3) (kn 3) y)) (by rfl) ?_
      have hfl := fcl_le (kl 3) (kn 3) y
      refine lv_istore (lv' := [(4, .int (nI (fcl (kl 3) (kn 3) y))), (0, .ref a), (1, .int (nI 3)), (2, .int y), (3, .int z)]) hx hb dX6_lay_21 hl (by decide) rfl (fun ls hl => ?_)
      refine lv_iload hx hb dX6_lay_23 (lv_at hl 0 rfl) ?_
      refine g_ifeq (x := fcl (kl 3) (kn 3) y) (tgt := 34) C0 (by omega) dX6_lay_25 rfl (fun c9 => ?_) (fun c10 => ?_)
      · obtain ⟨yq, hyq, rfl⟩ := fcl_0 (by omega) c9
        refine lv_aload_n hx hb dX6_lay_34 rfl (lv_at hl 1 rfl) ?_
        refine g_get (v := .ref sh) C0 X kX6 0 6 tb206 rfl rfl rfl dX6_lay_35 ?_
        refine lv_iload_n hx hb dX6_lay_38 rfl (lv_at hl 2 rfl) ?_
        refine g_aald (v := sA 3) (i := 3) C0 X 1 4 rfl rfl (by decide) rfl rfl dX6_lay_39 ?_
        refine lv_iload_n hx hb dX6_lay_40 rfl (lv_at hl 3 rfl) ?_
        refine lv_iload_n hx hb dX6_lay_41 rfl (lv_at hl 4 rfl) ?_
        refine g_callV (As := [.int (nI yq), .int z]) (rest := []) (wr := (lW a hL hT im bs rd hS sh kb rf ++ hsW tk sh (sA 0) (sA 1) (sA 2) (sA 3) ++ shW tk (sA 0) (sC 0) (kn 0) (kl 0) (kc 0) ++ shW tk (sA 1) (sC 1) (kn 1) (kl 1) (kc 1) ++ shW tk (sA 2) (sC 2) (kn 2) (kl 2) (kc 2))) (C0.sz hl) X (c_X3_put l D tk (sA 3) (sC 3) (kn 3) (kl 3) (kc 3) yq z (by first | assumption | omega)) ⟨tb766, tb769, tb7, ⟨by decide, by decide, rfl⟩, rfl, rfl, Nat.le_of_ble_eq_true rfl, Nat.le_of_ble_eq_true rfl⟩ tb767 tb768 8 3 rfl rfl rfl rfl [8, 9] [0, 1, 2, 3, 4, 5, 6, 7] rfl rfl rfl rfl rfl (Nat.le_of_ble_eq_true rfl) ⟨Nat.le_of_ble_eq_true rfl, Nat.le_of_ble_eq_true rfl⟩ dX6_lay_42 (fun _ H locs _ X => ?_)
        have X : Hx D zA zs H locs (lW a hL hT im bs rd hS sh kb rf ++ hsW tk sh (sA 0) (sA 1) (sA 2) (sA 3) ++ shW tk (sA 0) (sC 0) (kn 0) (kl 0) (kc 0) ++ shW tk (sA 1) (sC 1) (kn 1) (kl 1) (kc 1) ++ shW tk (sA 2) (sC 2) (kn 2) (kl 2) (kc 2) ++ shW tk (sA 3) (sC 3) (kn 3) (kl 3) (upd (kc 3) yq (narr (kl 3) z))) := X
        refine g_iconst (n := 1) C0 rfl dX6_lay_45 ?_
        exact hE (v := nI 1) () (by simp only [a_lay, c1, c9, tn_nI (k := 3) (by omega), tn_nI (k := yq) (by omega), if_true, if_false, Bool.false_eq_true, Bool.and_self, Bool.and_true, Bool.and_false, Bool.true_and, Bool.false_and, Bool.not_true, Bool.not_false, decide_true, decide_false]) trivial (X.to (by simp only [layC, c1, c9, tn_nI (k := 3) (by omega), tn_nI (k := yq) (by omega), ua, if_true, if_false, Bool.false_eq_true, Bool.and_self, Bool.and_true, Bool.and_false, Bool.true_and, Bool.false_and, Bool.not_true, Bool.not_false, decide_true, decide_false] <;> rfl)) dX6_lay_46
      · refine lv_bipush (v := (-10)) hx hb dX6_lay_28 (by decide) ?_
        refine lv_iload hx hb dX6_lay_30 (lv_at hl 0 rfl) ?_
        refine lv_isub hx hb dX6_lay_32 ?_
        exact hE (v := (-10) - (nI (fcl (kl 3) (kn 3) y))) () (by simp only [a_lay, c1, c10, tn_nI (k := 3) (by omega), show ¬ fcl (kl 3) (kn 3) y = 0 by omega, if_true, if_false, Bool.false_eq_true, Bool.and_self, Bool.and_true, Bool.and_false, Bool.true_and, Bool.false_and, Bool.not_true, Bool.not_false, decide_true, decide_false]) trivial (X.to (by simp only [layC, c1, c10, tn_nI (k := 3) (by omega), ua, show ¬ fcl (kl 3) (kn 3) y = 0 by omega, if_true, if_false, Bool.false_eq_true, Bool.and_self, Bool.and_true, Bool.and_false, Bool.true_and, Bool.false_and, Bool.not_true, Bool.not_false, decide_true, decide_false] <;> rfl)) dX6_lay_33
  · refine lv_iconst (v := (-1)) hx hb dX6_lay_8 (by decide) ?_
    exact hE (v := (-1)) () (by simp only [a_lay, c2, if_true, if_false, Bool.false_eq_true, Bool.and_self, Bool.and_true, Bool.and_false, Bool.true_and, Bool.false_and, Bool.not_true, Bool.not_false, decide_true, decide_false]) trivial (X.to (by simp only [layC, c2, ua, if_true, if_false, Bool.false_eq_true, Bool.and_self, Bool.and_true, Bool.and_false, Bool.true_and, Bool.false_and, Bool.not_true, Bool.not_false, decide_true, decide_false])) dX6_lay_9
