set_option maxHeartbeats 4000000 in
set_option maxRecDepth 100000 in
theorem c_X6_text (l : Launch) (D : va_G) (tk : Nat → ClassId) (sK sV : Nat → Nat) (a : Nat) (hL hT : Nat → Nat) (im bs rd : Nat) (hS : Nat → Nat) (sh kb rf : Nat) (ta tb : Nat) (hD : Nat → Nat) (K : Nat → Nat → Nat) (wt : Bool) (n : Nat) (t : Nat → Nat) (D0 : Nat → Nat → Nat) (dd de : Nat → Nat) (G : Nat → Nat → Nat) (d e : Nat → Nat) (sn : Nat) (pl lo le : Nat → Nat) (hn : n ≤ 160) (ht8 : ∀ j, j < n → t j < 128) (hk3 : K 0 2 ≤ 3) : MS l yX6_text cX6_text 2 (some .int) ⟨7, 0, 0, 149⟩ D (TYS tk) sK sV [.ref a] (lW a hL hT im bs rd hS sh kb rf ++ rV rd ta hD K wt ++ tW tk ta tb n t ++ gW tk hD D0 dd de ++ gW tk hL G d e ++ sW tk hS sn pl lo le) (fun (u : Nat) => u ≤ n ∧ (u = n ∨ (cIt t n (rst (K 0)) (clr D0) u).1 0 ≠ 0 ∨ (cIt t n (rst (K 0)) (clr D0) u).1 2 = 3) ∧ ∀ j, j < u → (cIt t n (rst (K 0)) (clr D0) j).1 0 = 0 ∧ (cIt t n (rst (K 0)) (clr D0) j).1 2 ≠ 3) (fun u => some (.int (if cWR t n (K 0) D0 u 0 = 0 then nI u else -10 - nI (cWR t n (K 0) D0 u 1)))) (fun u => lW a hL hT im bs rd hS sh (if cWR t n (K 0) D0 u 0 = 0 then 0 else kb) rf ++ rV rd ta hD (u3 K 0 (cWR t n (K 0) D0 u)) ((cIt t n (rst (K 0)) (clr D0) u).2.1) ++ tW tk ta tb 0 t ++ gW tk hD ((cIt t n (rst (K 0)) (clr D0) u).2.2) dd de ++ gW tk hL (if cWR t n (K 0) D0 u 0 = 0 then (cIt t n (rst (K 0)) (clr D0) u).2.2 else G) d e ++ sW tk hS (if cWR t n (K 0) D0 u 0 = 0 then 0 else sn) pl lo le) 0 0 := by
  refine MS.of_i (by decide) rfl ?_
  intro zp ze zs zm za zb zt zc zA zQ ls C0 hnm S0 X hl hE
  have hx := C0.1
  have hb := C0.2.1
  have ht := C0.2.2.2.2.1
  have X : Hx D zA zs zs.heap [] (lW a hL hT im bs rd hS sh kb rf ++ rV rd ta hD K wt ++ tW tk ta tb n t ++ gW tk hD D0 dd de ++ gW tk hL G d e ++ sW tk hS sn pl lo le) := X
  have hl : lv_has ls 2 [(0, .ref a)] := hl
  obtain ⟨H, hH⟩ : ∃ H, H = zs.heap := ⟨_, rfl⟩
  rw [← hH] at X ⊢
  obtain ⟨locs, hlo⟩ : ∃ L : List Loc, L = [] := ⟨_, rfl⟩
  rw [← hlo] at X ⊢
  refine lv_aload_n hx hb dX6_text_0 rfl (lv_at hl 0 rfl) ?_
  refine g_get (v := .ref rd) C0 X kX6 0 4 tb204 rfl rfl rfl dX6_text_1 ?_
  refine g_callVs (As := []) (rest := []) (wr := (lW a hL hT im bs rd hS sh kb rf ++ gW tk hL G d e ++ sW tk hS sn pl lo le)) (C0.sz hl) S0 X (c_X2_readWhole l D tk sK sV rd ta tb hD K wt n t D0 dd de (by first | assumption | omega) (by first | assumption | omega) (by first | assumption | omega)) ⟨tb251, tb254, tb4, ⟨by decide, by decide, rfl⟩, rfl, rfl, Nat.le_of_ble_eq_true rfl, Nat.le_of_ble_eq_true rfl⟩ tb252 tb253 1 2 rfl rfl rfl rfl [1, 2, 3, 4, 5, 6, 7, 8, 9, 10, 11, 12, 13] [0, 14, 15, 16, 17, 18, 19, 20, 21, 22, 23, 24, 25, 26, 27] rfl rfl rfl rfl rfl (Nat.le_of_ble_eq_true rfl) ⟨Nat.le_of_ble_eq_true rfl, Nat.le_of_ble_eq_true rfl⟩ dX6_text_4 (fun uq1 H locs hp2 X => ?_)
  have X : Hx D zA zs H locs (lW a hL hT im bs rd hS sh kb rf ++ gW tk hL G d e ++ sW tk hS sn pl lo le ++ rV rd ta hD (u3 K 0 (cWR t n (K 0) D0 uq1)) ((cIt t n (rst (K 0)) (clr D0) uq1).2.1) ++ tW tk ta tb n t ++ gW tk hD ((cIt t n (rst (K 0)) (clr D0) uq1).2.2) dd de) := X
  have hp2 : uq1 ≤ n ∧ (uq1 = n ∨ (cIt t n (rst (K 0)) (clr D0) uq1).1 0 ≠ 0 ∨ (cIt t n (rst (K 0)) (clr D0) uq1).1 2 = 3) ∧ ∀ j, j < uq1 → (cIt t n (rst (K 0)) (clr D0) j).1 0 = 0 ∧ (cIt t n (rst (K 0)) (clr D0) j).1 2 ≠ 3 := hp2
  have X : Hx D zA zs H locs (lW a hL hT im bs rd hS sh kb rf ++ rV rd ta hD (u3 K 0 (cWR t n (K 0) D0 uq1)) ((cIt t n (rst (K 0)) (clr D0) uq1).2.1) ++ tW tk ta tb n t ++ gW tk hD ((cIt t n (rst (K 0)) (clr D0) uq1).2.2) dd de ++ gW tk hL G d e ++ sW tk hS sn pl lo le) := X.sub [0, 15, 16, 17, 18, 19, 20, 21, 22, 23, 24, 25, 26, 27, 1, 2, 3, 4, 5, 6, 7, 8, 9, 10, 11, 12, 13, 14] rfl rfl
  refine lv_istore_n (lv' := [(1, .int (nI uq1)), (0, .ref a)]) hx hb dX6_text_7 rfl hl (by decide) rfl (fun ls hl => ?_)
  refine lv_aload_n hx hb dX6_text_8 rfl (lv_at hl 1 rfl) ?_
  refine g_get (v := .ref rd) C0 X kX6 0 4 tb204 rfl rfl rfl dX6_text_9 ?_
  refine g_get (v := .ref ta) C0 X kX2 1 0 tb133 rfl rfl rfl dX6_text_12 ?_
  refine g_iconst (n := 0) C0 rfl dX6_text_15 ?_
  refine g_callV (As := [.int (nI 0)]) (rest := []) (wr := (lW a hL hT im bs rd hS sh kb rf ++ rV rd ta hD (u3 K 0 (cWR t n (K 0) D0 uq1)) ((cIt t n (rst (K 0)) (clr D0) uq1).2.1) ++ gW tk hD ((cIt t n (rst (K 0)) (clr D0) uq1).2.2) dd de ++ gW tk hL G d e ++ sW tk hS sn pl lo le)) (C0.sz hl) X (c_X5_keepFirst l D tk ta tb n t 0) ⟨tb243, tb246, tb5, ⟨by decide, by decide, rfl⟩, rfl, rfl, Nat.le_of_ble_eq_true rfl, Nat.le_of_ble_eq_true rfl⟩ tb244 tb245 2 5 rfl rfl rfl rfl [2, 3] [0, 1, 4, 5, 6, 7, 8, 9, 10, 11, 12, 13, 14, 15, 16, 17, 18, 19, 20, 21, 22, 23, 24, 25, 26, 27] rfl rfl rfl rfl rfl (Nat.le_of_ble_eq_true rfl) ⟨Nat.le_of_ble_eq_true rfl, Nat.le_of_ble_eq_true rfl⟩ dX6_text_16 (fun _ H locs _ X => ?_)
  have X : Hx D zA zs H locs (lW a hL hT im bs rd hS sh kb rf ++ rV rd ta hD (u3 K 0 (cWR t n (K 0) D0 uq1)) ((cIt t n (rst (K 0)) (clr D0) uq1).2.1) ++ gW tk hD ((cIt t n (rst (K 0)) (clr D0) uq1).2.2) dd de ++ gW tk hL G d e ++ sW tk hS sn pl lo le ++ tW tk ta tb 0 t) := X
  have X : Hx D zA zs H locs (lW a hL hT im bs rd hS sh kb rf ++ rV rd ta hD (u3 K 0 (cWR t n (K 0) D0 uq1)) ((cIt t n (rst (K 0)) (clr D0) uq1).2.1) ++ tW tk ta tb 0 t ++ gW tk hD ((cIt t n (rst (K 0)) (clr D0) uq1).2.2) dd de ++ gW tk hL G d e ++ sW tk hS sn pl lo le) := X.sub [0, 1, 26, 27, 2, 3, 4, 5, 6, 7, 8, 9, 10, 11, 12, 13, 14, 15, 16, 17, 18, 19, 20, 21, 22, 23, 24, 25] rfl rfl
  refine lv_pop hx hb dX6_text_19 rfl ?_
  refine lv_aload_n hx hb dX6_text_20 rfl (lv_at hl 1 rfl) ?_
  refine g_get (v := .ref rd) C0 X kX6 0 4 tb204 rfl rfl rfl dX6_text_21 ?_
  have hb6 := cWR_6 (t := t) (n := n) (r := K 0) (G := D0) hk3 uq1
  refine g_get (v := .int (nI ((cWR t n (K 0) D0 uq1) 0))) C0 X kX2 1 2 tb137 rfl rfl rfl dX6_text_24 ?_
  refine g_ifeq (x := (cWR t n (K 0) D0 uq1) 0) (tgt := 41) C0 (by omega) dX6_text_27 rfl (fun c3 => ?_) (fun c4 => ?_)
  · refine lv_aload_n hx hb dX6_text_41 rfl (lv_at hl 1 rfl) ?_
    refine g_get (v := .ref (hL 0)) C0 X kX6 0 0 tb200 rfl rfl rfl dX6_text_42 ?_
    refine lv_aload_n hx hb dX6_text_45 rfl (lv_at hl 1 rfl) ?_
    refine g_get (v := .ref rd) C0 X kX6 0 4 tb204 rfl rfl rfl dX6_text_46 ?_
    refine g_get (v := .ref (hD 0)) C0 X kX2 1 1 tb135 rfl rfl rfl dX6_text_49 ?_
    refine g_callV (As := [.ref (hD 0)]) (rest := []) (wr := (lW a hL hT im bs rd hS sh kb rf ++ rV rd ta hD (u3 K 0 (cWR t n (K 0) D0 uq1)) ((cIt t n (rst (K 0)) (clr D0) uq1).2.1) ++ tW tk ta tb 0 t ++ sW tk hS sn pl lo le)) (C0.sz hl) X (c_X1_become l D tk hL G d e hD ((cIt t n (rst (K 0)) (clr D0) uq1).2.2) dd de) ⟨tb392, tb395, tb2, ⟨by decide, by decide, rfl⟩, rfl, rfl, Nat.le_of_ble_eq_true rfl, Nat.le_of_ble_eq_true rfl⟩ tb393 tb394 14 1 rfl rfl rfl rfl [14, 15, 16, 17, 18, 19, 20, 21, 22, 23, 4, 5, 6, 7, 8, 9, 10, 11, 12, 13] [0, 1, 2, 3, 24, 25, 26, 27] rfl rfl rfl rfl rfl (Nat.le_of_ble_eq_true rfl) ⟨Nat.le_of_ble_eq_true rfl, Nat.le_of_ble_eq_true rfl⟩ dX6_text_52 (fun _ H locs _ X => ?_)
    have X : Hx D zA zs H locs (lW a hL hT im bs rd hS sh kb rf ++ rV rd ta hD (u3 K 0 (cWR t n (K 0) D0 uq1)) ((cIt t n (rst (K 0)) (clr D0) uq1).2.1) ++ tW tk ta tb 0 t ++ sW tk hS sn pl lo le ++ gW tk hL ((cIt t n (rst (K 0)) (clr D0) uq1).2.2) d e ++ gW tk hD ((cIt t n (rst (K 0)) (clr D0) uq1).2.2) dd de) := X
    have X : Hx D zA zs H locs (lW a hL hT im bs rd hS sh kb rf ++ rV rd ta hD (u3 K 0 (cWR t n (K 0) D0 uq1)) ((cIt t n (rst (K 0)) (clr D0) uq1).2.1) ++ tW tk ta tb 0 t ++ gW tk hD ((cIt t n (rst (K 0)) (clr D0) uq1).2.2) dd de ++ gW tk hL ((cIt t n (rst (K 0)) (clr D0) uq1).2.2) d e ++ sW tk hS sn pl lo le) := X.sub [0, 1, 2, 3, 18, 19, 20, 21, 22, 23, 24, 25, 26, 27, 8, 9, 10, 11, 12, 13, 14, 15, 16, 17, 4, 5, 6, 7] rfl rfl
    refine lv_aload_n hx hb dX6_text_55 rfl (lv_at hl 1 rfl) ?_
    refine g_get (v := .ref (hS 0)) C0 X kX6 0 5 tb205 rfl rfl rfl dX6_text_56 ?_
    refine g_iconst (n := 0) C0 rfl dX6_text_59 ?_
    refine g_callV (As := [.int (nI 0)]) (rest := []) (wr := (lW a hL hT im bs rd hS sh kb rf ++ rV rd ta hD (u3 K 0 (cWR t n (K 0) D0 uq1)) ((cIt t n (rst (K 0)) (clr D0) uq1).2.1) ++ tW tk ta tb 0 t ++ gW tk hD ((cIt t n (rst (K 0)) (clr D0) uq1).2.2) dd de ++ gW tk hL ((cIt t n (rst (K 0)) (clr D0) uq1).2.2) d e)) (C0.sz hl) X (c_X4_keepFirst l D tk hS sn pl lo le 0) ⟨tb399, tb402, tb6, ⟨by decide, by decide, rfl⟩, rfl, rfl, Nat.le_of_ble_eq_true rfl, Nat.le_of_ble_eq_true rfl⟩ tb400 tb401 24 4 rfl rfl rfl rfl [24, 25, 26, 27] [0, 1, 2, 3, 4, 5, 6, 7, 8, 9, 10, 11, 12, 13, 14, 15, 16, 17, 18, 19, 20, 21, 22, 23] rfl rfl rfl rfl rfl (Nat.le_of_ble_eq_true rfl) ⟨Nat.le_of_ble_eq_true rfl, Nat.le_of_ble_eq_true rfl⟩ dX6_text_60 (fun _ H locs _ X => ?_)
    have X : Hx D zA zs H locs (lW a hL hT im bs rd hS sh kb rf ++ rV rd ta hD (u3 K 0 (cWR t n (K 0) D0 uq1)) ((cIt t n (rst (K 0)) (clr D0) uq1).2.1) ++ tW tk ta tb 0 t ++ gW tk hD ((cIt t n (rst (K 0)) (clr D0) uq1).2.2) dd de ++ gW tk hL ((cIt t n (rst (K 0)) (clr D0) uq1).2.2) d e ++ sW tk hS 0 pl lo le) := X
    refine lv_pop hx hb dX6_text_63 rfl ?_
    refine lv_aload_n hx hb dX6_text_64 rfl (lv_at hl 1 rfl) ?_
    refine g_iconst (n := 0) C0 rfl dX6_text_65 ?_
    refine g_put (v := .int (nI 0)) (ft := .int) C0 X kX6 0 7 tb207 rfl rfl rfl rfl rfl rfl rfl dX6_text_66 (fun H locs X => ?_)
    have X : Hx D zA zs H locs (lW a hL hT im bs rd hS sh 0 rf ++ rV rd ta hD (u3 K 0 (cWR t n (K 0) D0 uq1)) ((cIt t n (rst (K 0)) (clr D0) uq1).2.1) ++ tW tk ta tb 0 t ++ gW tk hD ((cIt t n (rst (K 0)) (clr D0) uq1).2.2) dd de ++ gW tk hL ((cIt t n (rst (K 0)) (clr D0) uq1).2.2) d e ++ sW tk hS 0 pl lo le) := X
    refine lv_iload_n hx hb dX6_text_69 rfl (lv_at hl 0 rfl) ?_
    exact hE (v := nI uq1) uq1 (by rw [if_pos (show cWR t n (K 0) D0 uq1 0 = 0 by omega)]) (by exact hp2) (X.to (by rw [if_pos (show cWR t n (K 0) D0 uq1 0 = 0 by omega), if_pos (show cWR t n (K 0) D0 uq1 0 = 0 by omega), if_pos (show cWR t n (K 0) D0 uq1 0 = 0 by omega)] <;> rfl)) dX6_text_70
  · refine lv_bipush (v := (-10)) hx hb dX6_text_30 (by decide) ?_
    refine lv_aload_n hx hb dX6_text_32 rfl (lv_at hl 1 rfl) ?_
    refine g_get (v := .ref rd) C0 X kX6 0 4 tb204 rfl rfl rfl dX6_text_33 ?_
    refine g_get (v := .int (nI ((cWR t n (K 0) D0 uq1) 1))) C0 X kX2 1 3 tb139 rfl rfl rfl dX6_text_36 ?_
    refine lv_isub hx hb dX6_text_39 ?_
    exact hE (v := (-10) - (nI ((cWR t n (K 0) D0 uq1) 1))) uq1 (by rw [if_neg (show ¬ cWR t n (K 0) D0 uq1 0 = 0 by omega)]) (by exact hp2) (X.to (by rw [if_neg (show ¬ cWR t n (K 0) D0 uq1 0 = 0 by omega), if_neg (show ¬ cWR t n (K 0) D0 uq1 0 = 0 by omega), if_neg (show ¬ cWR t n (K 0) D0 uq1 0 = 0 by omega)] <;> rfl)) dX6_text_40
