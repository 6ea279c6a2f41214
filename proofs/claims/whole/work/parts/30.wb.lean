set_option maxHeartbeats 4000000 in
set_option maxRecDepth 100000 in
theorem c_X6_feed (l : Launch) (D : va_G) (tk : Nat → ClassId) (a : Nat) (hL hT : Nat → Nat) (im bs rd : Nat) (hS : Nat → Nat) (sh kb rf : Nat) (ta tb : Nat) (hD : Nat → Nat) (fa fp kd ts te : Nat) (wt : Bool) (tn_ : Nat) (tt : Nat → Nat) (x : Int32) (hn : tn_ ≤ 160) : MX l yX6_feed cX6_feed 2 (some .int) ⟨1, 0, 0, 22⟩ D (TYS tk) [.ref a, .int x] (lW a hL hT im bs rd hS sh kb rf ++ rW rd ta hD fa fp kd ts te wt ++ tW tk ta tb tn_ tt) (fun (_ : Unit) => True) (fun _ => some (.int (a_feed tn_ x))) (fun _ => lW a hL hT im bs rd hS sh kb rf ++ rW rd ta hD fa fp kd ts te wt ++ tW tk ta tb (feedN tn_ x) (feedT tn_ tt x)) 0 0 := by
  refine MX.of_i (by decide) rfl ?_
  intro zp ze zs zm za zb zt zc zA zQ ls C0 hnm X hl hE
  have hx := C0.1
  have hb := C0.2.1
  have ht := C0.2.2.2.2.1
  have X : Hx D zA zs zs.heap [] (lW a hL hT im bs rd hS sh kb rf ++ rW rd ta hD fa fp kd ts te wt ++ tW tk ta tb tn_ tt) := X
  have hl : lv_has ls 2 [(0, .ref a), (1, .int x)] := hl
  obtain ⟨H, hH⟩ : ∃ H, H = zs.heap := ⟨_, rfl⟩
  rw [← hH] at X ⊢
  obtain ⟨locs, hlo⟩ : ∃ L : List Loc, L = [] := ⟨_, rfl⟩
  rw [← hlo] at X ⊢
  refine lv_iload_n hx hb dX6_feed_0 rfl (lv_at hl 1 rfl) ?_
  refine g_iconst (n := 0) C0 rfl dX6_feed_1 ?_
  refine g_bipush (n := 127) C0 (by decide) dX6_feed_2 ?_
  refine g_callS (As := [.int x, .int (nI 0), .int (nI 127)]) (rest := []) (wr := (lW a hL hT im bs rd hS sh kb rf ++ rW rd ta hD fa fp kd ts te wt ++ tW tk ta tb tn_ tt)) (C0.sz hl) X (c_X6_within l D tk x (nI 0) (nI 127)) ⟨tb232, tb234, tb1, ⟨by decide, by decide, rfl⟩, rfl, rfl, Nat.le_of_ble_eq_true rfl, Nat.le_of_ble_eq_true rfl⟩ tb233 rfl [] [0, 1, 2, 3] rfl rfl rfl rfl rfl (Nat.le_of_ble_eq_true rfl) ⟨Nat.le_of_ble_eq_true rfl, Nat.le_of_ble_eq_true rfl⟩ dX6_feed_4 (fun _ H locs _ X => ?_)
  have X : Hx D zA zs H locs (lW a hL hT im bs rd hS sh kb rf ++ rW rd ta hD fa fp kd ts te wt ++ tW tk ta tb tn_ tt) := X
  refine g_top (y := nI (rb (rg x 0 127))) (by rw [inI_rg x (by first | decide | omega) (by first | decide | omega)]) ?_
  refine g_ifeqB (x := rg x 0 127) (tgt := 24) C0 dX6_feed_7 rfl (fun c1 => ?_) (fun c2 => ?_)
  · refine lv_iconst (v := (-1)) hx hb dX6_feed_24 (by decide) ?_
    exact hE (v := (-1)) () (by simp [a_feed, c1]) trivial (X.to (by simp [feedN, feedT, c1])) dX6_feed_25
  · obtain ⟨xq, hk_xqa, hk_xqb, hk_xqc, rfl⟩ := rg_sp c2
    refine lv_aload_n hx hb dX6_feed_10 rfl (lv_at hl 0 rfl) ?_
    refine g_get (v := .ref rd) C0 X kX6 0 4 tb204 rfl rfl rfl dX6_feed_11 ?_
    refine g_get (v := .ref ta) C0 X kX2 1 0 tb133 rfl rfl rfl dX6_feed_14 ?_
    refine lv_iload_n hx hb dX6_feed_17 rfl (lv_at hl 1 rfl) ?_
    refine g_callV (As := [.int (nI xq)]) (rest := []) (wr := (lW a hL hT im bs rd hS sh kb rf ++ rW rd ta hD fa fp kd ts te wt)) (C0.sz hl) X (c_X5_add l D tk ta tb tn_ tt xq (by first | assumption | omega) (by first | assumption | omega)) ⟨tb235, tb238, tb5, ⟨by decide, by decide, rfl⟩, rfl, rfl, Nat.le_of_ble_eq_true rfl, Nat.le_of_ble_eq_true rfl⟩ tb236 tb237 2 5 rfl rfl rfl rfl [2, 3] [0, 1] rfl rfl rfl rfl rfl (Nat.le_of_ble_eq_true rfl) ⟨Nat.le_of_ble_eq_true rfl, Nat.le_of_ble_eq_true rfl⟩ dX6_feed_18 (fun _ H locs _ X => ?_)
    have X : Hx D zA zs H locs (lW a hL hT im bs rd hS sh kb rf ++ rW rd ta hD fa fp kd ts te wt ++ tW tk ta tb (if tn_ < 160 then tn_ + 1 else tn_) (if tn_ < 160 then u1 tt tn_ xq else tt)) := X
    refine lv_goto (tgt := 25) hx hb dX6_feed_21 (by decide) ?_
    exact hE (v := if tn_ < 160 then nI (tn_ + 1) else -3) () (by simp [a_feed, c2, tn_nI (k := xq) (by omega)]) trivial (X.to (by simp [feedN, feedT, c2, tn_nI (k := xq) (by omega)])) dX6_feed_25
set_option maxHeartbeats 4000000 in
set_option maxRecDepth 100000 in
theorem c_X6_end (l : Launch) (D : va_G) (tk : Nat → ClassId) (a : Nat) (hL hT : Nat → Nat) (im bs rd : Nat) (hS : Nat → Nat) (sh kb rf : Nat) (ta tb : Nat) (hD : Nat → Nat) (fa fp kd ts te : Nat) (wt : Bool) (tn_ : Nat) (tt : Nat → Nat) (x : Int32) (hn : tn_ ≤ 160) : MX l yX6_end cX6_end 2 (some .int) ⟨1, 0, 0, 22⟩ D (TYS tk) [.ref a, .int x] (lW a hL hT im bs rd hS sh kb rf ++ rW rd ta hD fa fp kd ts te wt ++ tW tk ta tb tn_ tt) (fun (_ : Unit) => True) (fun _ => some (.int (a_end tn_ x))) (fun _ => lW a hL hT im bs rd hS sh kb rf ++ rW rd ta hD fa fp kd ts te wt ++ tW tk ta tb (endN tn_ x) tt) 0 0 := by
  refine MX.of_i (by decide) rfl ?_
  intro zp ze zs zm za zb zt zc zA zQ ls C0 hnm X hl hE
  have hx := C0.1
  have hb := C0.2.1
  have ht := C0.2.2.2.2.1
  have X : Hx D zA zs zs.heap [] (lW a hL hT im bs rd hS sh kb rf ++ rW rd ta hD fa fp kd ts te wt ++ tW tk ta tb tn_ tt) := X
  have hl : lv_has ls 2 [(0, .ref a), (1, .int x)] := hl
  obtain ⟨H, hH⟩ : ∃ H, H = zs.heap := ⟨_, rfl⟩
  rw [← hH] at X ⊢
  obtain ⟨locs, hlo⟩ : ∃ L : List Loc, L = [] := ⟨_, rfl⟩
  rw [← hlo] at X ⊢
  refine lv_iload_n hx hb dX6_end_0 rfl (lv_at hl 1 rfl) ?_
  refine g_iconst (n := 0) C0 rfl dX6_end_1 ?_
  refine lv_aload_n hx hb dX6_end_2 rfl (lv_at hl 0 rfl) ?_
  refine g_get (v := .ref rd) C0 X kX6 0 4 tb204 rfl rfl rfl dX6_end_3 ?_
  refine g_get (v := .ref ta) C0 X kX2 1 0 tb133 rfl rfl rfl dX6_end_6 ?_
  refine g_get (v := .int (nI tn_)) C0 X kX5 2 0 tb121 rfl rfl rfl dX6_end_9 ?_
  refine g_callS (As := [.int x, .int (nI 0), .int (nI tn_)]) (rest := []) (wr := (lW a hL hT im bs rd hS sh kb rf ++ rW rd ta hD fa fp kd ts te wt ++ tW tk ta tb tn_ tt)) (C0.sz hl) X (c_X6_within l D tk x (nI 0) (nI tn_)) ⟨tb232, tb234, tb1, ⟨by decide, by decide, rfl⟩, rfl, rfl, Nat.le_of_ble_eq_true rfl, Nat.le_of_ble_eq_true rfl⟩ tb233 rfl [] [0, 1, 2, 3] rfl rfl rfl rfl rfl (Nat.le_of_ble_eq_true rfl) ⟨Nat.le_of_ble_eq_true rfl, Nat.le_of_ble_eq_true rfl⟩ dX6_end_12 (fun _ H locs _ X => ?_)
  have X : Hx D zA zs H locs (lW a hL hT im bs rd hS sh kb rf ++ rW rd ta hD fa fp kd ts te wt ++ tW tk ta tb tn_ tt) := X
  refine g_top (y := nI (rb (rg x 0 tn_))) (by rw [inI_rg x (by first | decide | omega) (by first | decide | omega)]) ?_
  refine g_ifeqB (x := rg x 0 tn_) (tgt := 32) C0 dX6_end_15 rfl (fun c1 => ?_) (fun c2 => ?_)
  · refine lv_iconst (v := (-1)) hx hb dX6_end_32 (by decide) ?_
    exact hE (v := (-1)) () (by simp [a_end, c1]) trivial (X.to (by simp [endN, c1])) dX6_end_33
  · obtain ⟨xq, hk_xqa, hk_xqb, hk_xqc, rfl⟩ := rg_sp c2
    refine lv_aload_n hx hb dX6_end_18 rfl (lv_at hl 0 rfl) ?_
    refine g_get (v := .ref rd) C0 X kX6 0 4 tb204 rfl rfl rfl dX6_end_19 ?_
    refine g_get (v := .ref ta) C0 X kX2 1 0 tb133 rfl rfl rfl dX6_end_22 ?_
    refine lv_iload_n hx hb dX6_end_25 rfl (lv_at hl 1 rfl) ?_
    refine g_callV (As := [.int (nI xq)]) (rest := []) (wr := (lW a hL hT im bs rd hS sh kb rf ++ rW rd ta hD fa fp kd ts te wt)) (C0.sz hl) X (c_X5_keepFirst l D tk ta tb tn_ tt xq) ⟨tb243, tb246, tb5, ⟨by decide, by decide, rfl⟩, rfl, rfl, Nat.le_of_ble_eq_true rfl, Nat.le_of_ble_eq_true rfl⟩ tb244 tb245 2 5 rfl rfl rfl rfl [2, 3] [0, 1] rfl rfl rfl rfl rfl (Nat.le_of_ble_eq_true rfl) ⟨Nat.le_of_ble_eq_true rfl, Nat.le_of_ble_eq_true rfl⟩ dX6_end_26 (fun _ H locs _ X => ?_)
    have X : Hx D zA zs H locs (lW a hL hT im bs rd hS sh kb rf ++ rW rd ta hD fa fp kd ts te wt ++ tW tk ta tb xq tt) := X
    refine lv_goto (tgt := 33) hx hb dX6_end_29 (by decide) ?_
    exact hE (v := nI tn_) () (by simp [a_end, c2, tn_nI (k := xq) (by omega)]) trivial (X.to (by simp [endN, c2, tn_nI (k := xq) (by omega)])) dX6_end_33
set_option maxHeartbeats 4000000 in
set_option maxRecDepth 100000 in
theorem c_X6_torn (l : Launch) (D : va_G) (tk : Nat → ClassId) (a : Nat) (hL hT : Nat → Nat) (im bs rd : Nat) (hS : Nat → Nat) (sh kb rf : Nat) : MX l yX6_torn cX6_torn 1 (some .int) ⟨0, 0, 0, 0⟩ D (TYS tk) [.ref a] (lW a hL hT im bs rd hS sh kb rf) (fun (_ : Unit) => True) (fun _ => some (.int (nI rf))) (fun _ => lW a hL hT im bs rd hS sh kb rf) 0 0 := by
  refine MX.of_i (by decide) rfl ?_
  intro zp ze zs zm za zb zt zc zA zQ ls C0 hnm X hl hE
  have hx := C0.1
  have hb := C0.2.1
  have ht := C0.2.2.2.2.1
  have X : Hx D zA zs zs.heap [] (lW a hL hT im bs rd hS sh kb rf) := X
  have hl : lv_has ls 1 [(0, .ref a)] := hl
  obtain ⟨H, hH⟩ : ∃ H, H = zs.heap := ⟨_, rfl⟩
  rw [← hH] at X ⊢
  obtain ⟨locs, hlo⟩ : ∃ L : List Loc, L = [] := ⟨_, rfl⟩
  rw [← hlo] at X ⊢
  refine lv_aload_n hx hb dX6_torn_0 rfl (lv_at hl 0 rfl) ?_
  refine g_get (v := .int (nI rf)) C0 X kX6 0 8 tb208 rfl rfl rfl dX6_torn_1 ?_
  exact hE (v := nI rf) () rfl trivial X dX6_torn_4
set_option maxHeartbeats 4000000 in
set_option maxRecDepth 100000 in
theorem c_X6_fault (l : Launch) (D : va_G) (tk : Nat → ClassId) (a : Nat) (hL hT : Nat → Nat) (im bs rd : Nat) (hS : Nat → Nat) (sh kb rf : Nat) (ta : Nat) (hD : Nat → Nat) (fa fp kd ts te : Nat) (wt : Bool) : MX l yX6_fault cX6_fault 1 (some .int) ⟨0, 0, 0, 0⟩ D (TYS tk) [.ref a] (lW a hL hT im bs rd hS sh kb rf ++ rW rd ta hD fa fp kd ts te wt) (fun (_ : Unit) => True) (fun _ => some (.int (nI fa))) (fun _ => lW a hL hT im bs rd hS sh kb rf ++ rW rd ta hD fa fp kd ts te wt) 0 0 := by
  refine MX.of_i (by decide) rfl ?_
  intro zp ze zs zm za zb zt zc zA zQ ls C0 hnm X hl hE
  have hx := C0.1
  have hb := C0.2.1
  have ht := C0.2.2.2.2.1
  have X : Hx D zA zs zs.heap [] (lW a hL hT im bs rd hS sh kb rf ++ rW rd ta hD fa fp kd ts te wt) := X
  have hl : lv_has ls 1 [(0, .ref a)] := hl
  obtain ⟨H, hH⟩ : ∃ H, H = zs.heap := ⟨_, rfl⟩
  rw [← hH] at X ⊢
  obtain ⟨locs, hlo⟩ : ∃ L : List Loc, L = [] := ⟨_, rfl⟩
  rw [← hlo] at X ⊢
  refine lv_aload_n hx hb dX6_fault_0 rfl (lv_at hl 0 rfl) ?_
  refine g_get (v := .ref rd) C0 X kX6 0 4 tb204 rfl rfl rfl dX6_fault_1 ?_
  refine g_get (v := .int (nI fa)) C0 X kX2 1 2 tb137 rfl rfl rfl dX6_fault_4 ?_
  exact hE (v := nI fa) () rfl trivial X dX6_fault_7
set_option maxHeartbeats 4000000 in
set_option maxRecDepth 100000 in
theorem c_X6_see (l : Launch) (D : va_G) (tk : Nat → ClassId) (a : Nat) (hL hT : Nat → Nat) (im bs rd : Nat) (hS : Nat → Nat) (sh kb rf : Nat) (G : Nat → Nat → Nat) (d e : Nat → Nat) (sn : Nat) (pl lo le : Nat → Nat) (x y : Int32) (hw : GW G) (hsn : sn ≤ 6) : MX l yX6_see cX6_see 3 (some .int) ⟨2, 0, 0, 43⟩ D (TYS tk) [.ref a, .int x, .int y] (lW a hL hT im bs rd hS sh kb rf ++ gW tk hL G d e ++ sW tk hS sn pl lo le) (fun (_ : Unit) => True) (fun _ => some (.int (a_see (cgv G) sn x y))) (fun _ => lW a hL hT im bs rd hS sh kb rf ++ gW tk hL G d e ++ sW tk hS (seeN (cgv G) sn x y) (seeP (cgv G) sn pl x y) (seeL (cgv G) sn lo x y) le) 0 0 := by
  refine MX.of_i (by decide) rfl ?_
  intro zp ze zs zm za zb zt zc zA zQ ls C0 hnm X hl hE
  have hx := C0.1
  have hb := C0.2.1
  have ht := C0.2.2.2.2.1
  have X : Hx D zA zs zs.heap [] (lW a hL hT im bs rd hS sh kb rf ++ gW tk hL G d e ++ sW tk hS sn pl lo le) := X
  have hl : lv_has ls 3 [(0, .ref a), (1, .int x), (2, .int y)] := hl
  obtain ⟨hw1, hw2, hw3, hw4, hw5, hw6, hw7, hw8⟩ := id hw
  obtain ⟨H, hH⟩ : ∃ H, H = zs.heap := ⟨_, rfl⟩
  rw [← hH] at X ⊢
  obtain ⟨locs, hlo⟩ : ∃ L : List Loc, L = [] := ⟨_, rfl⟩
  rw [← hlo] at X ⊢
  refine lv_aload_n hx hb dX6_see_0 rfl (lv_at hl 0 rfl) ?_
  refine g_get (v := .ref (hL 0)) C0 X kX6 0 0 tb200 rfl rfl rfl dX6_see_1 ?_
  refine lv_iload_n hx hb dX6_see_4 rfl (lv_at hl 1 rfl) ?_
  refine g_callV (As := [.int x]) (rest := []) (wr := (lW a hL hT im bs rd hS sh kb rf ++ sW tk hS sn pl lo le)) (C0.sz hl) X (c_X1_hasTree l D tk hL G d e x (by first | assumption | omega)) ⟨tb456, tb390, tb2, ⟨by decide, by decide, rfl⟩, rfl, rfl, Nat.le_of_ble_eq_true rfl, Nat.le_of_ble_eq_true rfl⟩ tb388 tb389 1 1 rfl rfl rfl rfl [1, 2, 3, 4, 5, 6, 7, 8, 9, 10] [0, 11, 12, 13, 14] rfl rfl rfl rfl rfl (Nat.le_of_ble_eq_true rfl) ⟨Nat.le_of_ble_eq_true rfl, Nat.le_of_ble_eq_true rfl⟩ dX6_see_5 (fun _ H locs _ X => ?_)
  have X : Hx D zA zs H locs (lW a hL hT im bs rd hS sh kb rf ++ sW tk hS sn pl lo le ++ gW tk hL G d e) := X
  have X : Hx D zA zs H locs (lW a hL hT im bs rd hS sh kb rf ++ gW tk hL G d e ++ sW tk hS sn pl lo le) := X.sub [0, 5, 6, 7, 8, 9, 10, 11, 12, 13, 14, 1, 2, 3, 4] rfl rfl
  refine g_ifeqB (x := ix x (G 8 0)) (tgt := 33) C0 dX6_see_8 rfl (fun c1 => ?_) (fun c2 => ?_)
  · refine lv_iconst (v := (-1)) hx hb dX6_see_33 (by decide) ?_
    exact hE (v := (-1)) () (by simp [a_see, cg0, cg1, cg2, cg3, cg5, cg6, cg7, cg8, c1]) trivial (X.to (by simp [seeN, seeP, seeL, cg8, c1])) dX6_see_34
  · obtain ⟨xq, hk_xq, rfl⟩ := ix_sp c2
    refine lv_iload_n hx hb dX6_see_11 rfl (lv_at hl 2 rfl) ?_
    refine g_iconst (n := 0) C0 rfl dX6_see_12 ?_
    refine g_bipush (n := 120) C0 (by decide) dX6_see_13 ?_
    refine g_callS (As := [.int y, .int (nI 0), .int (nI 120)]) (rest := []) (wr := (lW a hL hT im bs rd hS sh kb rf ++ gW tk hL G d e ++ sW tk hS sn pl lo le)) (C0.sz hl) X (c_X6_within l D tk y (nI 0) (nI 120)) ⟨tb232, tb234, tb1, ⟨by decide, by decide, rfl⟩, rfl, rfl, Nat.le_of_ble_eq_true rfl, Nat.le_of_ble_eq_true rfl⟩ tb233 rfl [] [0, 1, 2, 3, 4, 5, 6, 7, 8, 9, 10, 11, 12, 13, 14] rfl rfl rfl rfl rfl (Nat.le_of_ble_eq_true rfl) ⟨Nat.le_of_ble_eq_true rfl, Nat.le_of_ble_eq_true rfl⟩ dX6_see_15 (fun _ H locs _ X => ?_)
    have X : Hx D zA zs H locs (lW a hL hT im bs rd hS sh kb rf ++ gW tk hL G d e ++ sW tk hS sn pl lo le) := X
    refine g_top (y := nI (rb (rg y 0 120))) (by rw [inI_rg y (by first | decide | omega) (by first | decide | omega)]) ?_
    refine g_ifeqB (x := rg y 0 120) (tgt := 33) C0 dX6_see_18 rfl (fun c3 => ?_) (fun c4 => ?_)
    · refine lv_iconst (v := (-1)) hx hb dX6_see_33 (by decide) ?_
      exact hE (v := (-1)) () (by simp [a_see, cg0, cg1, cg2, cg3, cg5, cg6, cg7, cg8, c2, c3, tn_nI (k := xq) (by omega)]) trivial (X.to (by simp [seeN, seeP, seeL, cg8, c2, c3, tn_nI (k := xq) (by omega)])) dX6_see_34
    · obtain ⟨yq, hk_yqa, hk_yqb, hk_yqc, rfl⟩ := rg_sp c4
      refine lv_aload_n hx hb dX6_see_21 rfl (lv_at hl 0 rfl) ?_
      refine g_get (v := .ref (hS 0)) C0 X kX6 0 5 tb205 rfl rfl rfl dX6_see_22 ?_
      refine lv_iload_n hx hb dX6_see_25 rfl (lv_at hl 1 rfl) ?_
      refine lv_iload_n hx hb dX6_see_26 rfl (lv_at hl 2 rfl) ?_
      refine g_callV (As := [.int (nI xq), .int (nI yq)]) (rest := []) (wr := (lW a hL hT im bs rd hS sh kb rf ++ gW tk hL G d e)) (C0.sz hl) X (c_X4_add l D tk hS sn pl lo le xq yq (by first | assumption | omega)) ⟨tb666, tb669, tb6, ⟨by decide, by decide, rfl⟩, rfl, rfl, Nat.le_of_ble_eq_true rfl, Nat.le_of_ble_eq_true rfl⟩ tb667 tb668 11 4 rfl rfl rfl rfl [11, 12, 13, 14] [0, 1, 2, 3, 4, 5, 6, 7, 8, 9, 10] rfl rfl rfl rfl rfl (Nat.le_of_ble_eq_true rfl) ⟨Nat.le_of_ble_eq_true rfl, Nat.le_of_ble_eq_true rfl⟩ dX6_see_27 (fun _ H locs _ X => ?_)
      have X : Hx D zA zs H locs (lW a hL hT im bs rd hS sh kb rf ++ gW tk hL G d e ++ sW tk hS (if sn < 6 then sn + 1 else sn) (if sn < 6 then u1 pl sn xq else pl) (if sn < 6 then u1 lo sn yq else lo) le) := X
      refine lv_goto (tgt := 34) hx hb dX6_see_30 (by decide) ?_
      exact hE (v := if sn < 6 then nI (sn + 1) else -3) () (by simp [a_see, cg0, cg1, cg2, cg3, cg5, cg6, cg7, cg8, c2, c4, tn_nI (k := xq) (by omega), tn_nI (k := yq) (by omega)]) trivial (X.to (by simp [seeN, seeP, seeL, cg8, c2, c4, tn_nI (k := xq) (by omega), tn_nI (k := yq) (by omega)])) dX6_see_34
set_option maxHeartbeats 4000000 in
set_option maxRecDepth 100000 in
theorem c_X6_forget (l : Launch) (D : va_G) (tk : Nat → ClassId) (a : Nat) (hL hT : Nat → Nat) (im bs rd : Nat) (hS : Nat → Nat) (sh kb rf : Nat) (sn : Nat) (pl lo le : Nat → Nat) (x : Int32) (hsn : sn ≤ 6) : MX l yX6_forget cX6_forget 2 (some .int) ⟨1, 0, 0, 22⟩ D (TYS tk) [.ref a, .int x] (lW a hL hT im bs rd hS sh kb rf ++ sW tk hS sn pl lo le) (fun (_ : Unit) => True) (fun _ => some (.int (a_forget sn x))) (fun _ => lW a hL hT im bs rd hS sh kb rf ++ sW tk hS (forgetN sn x) pl lo le) 0 0 := by
  refine MX.of_i (by decide) rfl ?_
  intro zp ze zs zm za zb zt zc zA zQ ls C0 hnm X hl hE
  have hx := C0.1
  have hb := C0.2.1
  have ht := C0.2.2.2.2.1
  have X : Hx D zA zs zs.heap [] (lW a hL hT im bs rd hS sh kb rf ++ sW tk hS sn pl lo le) := X
  have hl : lv_has ls 2 [(0, .ref a), (1, .int x)] := hl
  obtain ⟨H, hH⟩ : ∃ H, H = zs.heap := ⟨_, rfl⟩
  rw [← hH] at X ⊢
  obtain ⟨locs, hlo⟩ : ∃ L : List Loc, L = [] := ⟨_, rfl⟩
  rw [← hlo] at X ⊢
  refine lv_iload_n hx hb dX6_forget_0 rfl (lv_at hl 1 rfl) ?_
  refine g_iconst (n := 0) C0 rfl dX6_forget_1 ?_
  refine lv_aload_n hx hb dX6_forget_2 rfl (lv_at hl 0 rfl) ?_
  refine g_get (v := .ref (hS 0)) C0 X kX6 0 5 tb205 rfl rfl rfl dX6_forget_3 ?_
  refine g_get (v := .int (nI sn)) C0 X kX4 1 0 tb168 rfl rfl rfl dX6_forget_6 ?_
  refine g_callS (As := [.int x, .int (nI 0), .int (nI sn)]) (rest := []) (wr := (lW a hL hT im bs rd hS sh kb rf ++ sW tk hS sn pl lo le)) (C0.sz hl) X (c_X6_within l D tk x (nI 0) (nI sn)) ⟨tb232, tb234, tb1, ⟨by decide, by decide, rfl⟩, rfl, rfl, Nat.le_of_ble_eq_true rfl, Nat.le_of_ble_eq_true rfl⟩ tb233 rfl [] [0, 1, 2, 3, 4] rfl rfl rfl rfl rfl (Nat.le_of_ble_eq_true rfl) ⟨Nat.le_of_ble_eq_true rfl, Nat.le_of_ble_eq_true rfl⟩ dX6_forget_9 (fun _ H locs _ X => ?_)
  have X : Hx D zA zs H locs (lW a hL hT im bs rd hS sh kb rf ++ sW tk hS sn pl lo le) := X
  refine g_top (y := nI (rb (rg x 0 sn))) (by rw [inI_rg x (by first | decide | omega) (by first | decide | omega)]) ?_
  refine g_ifeqB (x := rg x 0 sn) (tgt := 26) C0 dX6_forget_12 rfl (fun c1 => ?_) (fun c2 => ?_)
  · refine lv_iconst (v := (-1)) hx hb dX6_forget_26 (by decide) ?_
    exact hE (v := (-1)) () (by simp [a_forget, c1]) trivial (X.to (by simp [forgetN, c1])) dX6_forget_27
  · obtain ⟨xq, hk_xqa, hk_xqb, hk_xqc, rfl⟩ := rg_sp c2
    refine lv_aload_n hx hb dX6_forget_15 rfl (lv_at hl 0 rfl) ?_
    refine g_get (v := .ref (hS 0)) C0 X kX6 0 5 tb205 rfl rfl rfl dX6_forget_16 ?_
    refine lv_iload_n hx hb dX6_forget_19 rfl (lv_at hl 1 rfl) ?_
    refine g_callV (As := [.int (nI xq)]) (rest := []) (wr := (lW a hL hT im bs rd hS sh kb rf)) (C0.sz hl) X (c_X4_keepFirst l D tk hS sn pl lo le xq) ⟨tb399, tb402, tb6, ⟨by decide, by decide, rfl⟩, rfl, rfl, Nat.le_of_ble_eq_true rfl, Nat.le_of_ble_eq_true rfl⟩ tb400 tb401 1 4 rfl rfl rfl rfl [1, 2, 3, 4] [0] rfl rfl rfl rfl rfl (Nat.le_of_ble_eq_true rfl) ⟨Nat.le_of_ble_eq_true rfl, Nat.le_of_ble_eq_true rfl⟩ dX6_forget_20 (fun _ H locs _ X => ?_)
    have X : Hx D zA zs H locs (lW a hL hT im bs rd hS sh kb rf ++ sW tk hS xq pl lo le) := X
    refine lv_goto (tgt := 27) hx hb dX6_forget_23 (by decide) ?_
    exact hE (v := nI sn) () (by simp [a_forget, c2, tn_nI (k := xq) (by omega)]) trivial (X.to (by simp [forgetN, c2, tn_nI (k := xq) (by omega)])) dX6_forget_27
set_option maxHeartbeats 4000000 in
set_option maxRecDepth 100000 in
theorem c_X6_sayers (l : Launch) (D : va_G) (tk : Nat → ClassId) (a : Nat) (hL hT : Nat → Nat) (im bs rd : Nat) (hS : Nat → Nat) (sh kb rf : Nat) (G : Nat → Nat → Nat) (d e : Nat → Nat) (sn : Nat) (pl lo le : Nat → Nat) (hw : GW G) (hsn : sn ≤ 6) (hss : ∀ j, j < sn → pl j < G 8 0 ∧ lo j ≤ 120) : MX l yX6_sayers cX6_sayers 1 (some .int) ⟨5, 0, 0, 136⟩ D (TYS tk) [.ref a] (lW a hL hT im bs rd hS sh kb rf ++ gW tk hL G d e ++ sW tk hS sn pl lo le) (fun (u : (Nat → Nat) × (Nat → Nat) × (Nat → Nat)) => True) (fun u => some (.int (nI (sayS (cgv G) sn pl lo)))) (fun u => lW a hL hT im bs rd hS sh kb rf ++ gW tk hL G u.1 u.2.1 ++ sW tk hS sn pl lo u.2.2) 0 0 := by
  refine MX.of_i (by decide) rfl ?_
  intro zp ze zs zm za zb zt zc zA zQ ls C0 hnm X hl hE
  have hx := C0.1
  have hb := C0.2.1
  have ht := C0.2.2.2.2.1
  have X : Hx D zA zs zs.heap [] (lW a hL hT im bs rd hS sh kb rf ++ gW tk hL G d e ++ sW tk hS sn pl lo le) := X
  have hl : lv_has ls 1 [(0, .ref a)] := hl
  obtain ⟨hw1, hw2, hw3, hw4, hw5, hw6, hw7, hw8⟩ := id hw
  obtain ⟨H, hH⟩ : ∃ H, H = zs.heap := ⟨_, rfl⟩
  rw [← hH] at X ⊢
  obtain ⟨locs, hlo⟩ : ∃ L : List Loc, L = [] := ⟨_, rfl⟩
  rw [← hlo] at X ⊢
  refine lv_aload_n hx hb dX6_sayers_0 rfl (lv_at hl 0 rfl) ?_
  refine g_get (v := .ref (hS 0)) C0 X kX6 0 5 tb205 rfl rfl rfl dX6_sayers_1 ?_
  refine lv_aload_n hx hb dX6_sayers_4 rfl (lv_at hl 0 rfl) ?_
  refine g_get (v := .ref (hL 0)) C0 X kX6 0 0 tb200 rfl rfl rfl dX6_sayers_5 ?_
  refine g_callV (As := [.ref (hL 0)]) (rest := []) (wr := (lW a hL hT im bs rd hS sh kb rf)) (C0.sz hl) X (c_X4_possibleSayers l D tk hS sn pl lo le hL G d e (by first | assumption | omega) (by first | assumption | omega) (by first | assumption | omega)) ⟨tb678, tb681, tb6, ⟨by decide, by decide, rfl⟩, rfl, rfl, Nat.le_of_ble_eq_true rfl, Nat.le_of_ble_eq_true rfl⟩ tb679 tb680 11 4 rfl rfl rfl rfl [11, 12, 13, 14, 1, 2, 3, 4, 5, 6, 7, 8, 9, 10] [0] rfl rfl rfl rfl rfl (Nat.le_of_ble_eq_true rfl) ⟨Nat.le_of_ble_eq_true rfl, Nat.le_of_ble_eq_true rfl⟩ dX6_sayers_8 (fun uq1 H locs _ X => ?_)
  have X : Hx D zA zs H locs (lW a hL hT im bs rd hS sh kb rf ++ sW tk hS sn pl lo le ++ gW tk hL G uq1 e) := X
  have X : Hx D zA zs H locs (lW a hL hT im bs rd hS sh kb rf ++ gW tk hL G uq1 e ++ sW tk hS sn pl lo le) := X.sub [0, 5, 6, 7, 8, 9, 10, 11, 12, 13, 14, 1, 2, 3, 4] rfl rfl
  exact hE (v := nI (sayS (cgv G) sn pl lo)) (uq1, e, le) rfl trivial X dX6_sayers_11
set_option maxHeartbeats 4000000 in
set_option maxRecDepth 100000 in
theorem c_X6_breaths (l : Launch) (D : va_G) (tk : Nat → ClassId) (a : Nat) (hL hT : Nat → Nat) (im bs rd : Nat) (hS : Nat → Nat) (sh kb rf : Nat) (G : Nat → Nat → Nat) (d e : Nat → Nat) (sn : Nat) (pl lo le : Nat → Nat) (x y : Int32) (hw : GW G) (hsn : sn ≤ 6) (hss : ∀ j, j < sn → pl j < G 8 0 ∧ lo j ≤ 120) : MX l yX6_breaths cX6_breaths 3 (some .int) ⟨4, 0, 0, 114⟩ D (TYS tk) [.ref a, .int x, .int y] (lW a hL hT im bs rd hS sh kb rf ++ gW tk hL G d e ++ sW tk hS sn pl lo le) (fun (u : (Nat → Nat) × (Nat → Nat) × (Nat → Nat)) => True) (fun u => some (.int (a_breaths (cgv G) sn pl lo x y))) (fun u => lW a hL hT im bs rd hS sh kb rf ++ gW tk hL G u.1 u.2.1 ++ sW tk hS sn pl lo u.2.2) 0 0 := by
  refine MX.of_i (by decide) rfl ?_
  intro zp ze zs zm za zb zt zc zA zQ ls C0 hnm X hl hE
  have hx := C0.1
  have hb := C0.2.1
  have ht := C0.2.2.2.2.1
  have X : Hx D zA zs zs.heap [] (lW a hL hT im bs rd hS sh kb rf ++ gW tk hL G d e ++ sW tk hS sn pl lo le) := X
  have hl : lv_has ls 3 [(0, .ref a), (1, .int x), (2, .int y)] := hl
  obtain ⟨hw1, hw2, hw3, hw4, hw5, hw6, hw7, hw8⟩ := id hw
  obtain ⟨H, hH⟩ : ∃ H, H = zs.heap := ⟨_, rfl⟩
  rw [← hH] at X ⊢
  obtain ⟨locs, hlo⟩ : ∃ L : List Loc, L = [] := ⟨_, rfl⟩
  rw [← hlo] at X ⊢
  refine lv_aload_n hx hb dX6_breaths_0 rfl (lv_at hl 0 rfl) ?_
  refine g_get (v := .ref (hL 0)) C0 X kX6 0 0 tb200 rfl rfl rfl dX6_breaths_1 ?_
  refine lv_iload_n hx hb dX6_breaths_4 rfl (lv_at hl 1 rfl) ?_
  refine g_callV (As := [.int x]) (rest := []) (wr := (lW a hL hT im bs rd hS sh kb rf ++ sW tk hS sn pl lo le)) (C0.sz hl) X (c_X1_hasTree l D tk hL G d e x (by first | assumption | omega)) ⟨tb456, tb390, tb2, ⟨by decide, by decide, rfl⟩, rfl, rfl, Nat.le_of_ble_eq_true rfl, Nat.le_of_ble_eq_true rfl⟩ tb388 tb389 1 1 rfl rfl rfl rfl [1, 2, 3, 4, 5, 6, 7, 8, 9, 10] [0, 11, 12, 13, 14] rfl rfl rfl rfl rfl (Nat.le_of_ble_eq_true rfl) ⟨Nat.le_of_ble_eq_true rfl, Nat.le_of_ble_eq_true rfl⟩ dX6_breaths_5 (fun _ H locs _ X => ?_)
  have X : Hx D zA zs H locs (lW a hL hT im bs rd hS sh kb rf ++ sW tk hS sn pl lo le ++ gW tk hL G d e) := X
  have X : Hx D zA zs H locs (lW a hL hT im bs rd hS sh kb rf ++ gW tk hL G d e ++ sW tk hS sn pl lo le) := X.sub [0, 5, 6, 7, 8, 9, 10, 11, 12, 13, 14, 1, 2, 3, 4] rfl rfl
  refine g_ifeqB (x := ix x (G 8 0)) (tgt := 18) C0 dX6_breaths_8 rfl (fun c1 => ?_) (fun c2 => ?_)
  · refine lv_iconst (v := (-1)) hx hb dX6_breaths_18 (by decide) ?_
    exact hE (v := (-1)) (d, e, le) (by simp [a_breaths, cg0, cg1, cg2, cg3, cg5, cg6, cg7, cg8, c1]) trivial X dX6_breaths_19
  · obtain ⟨xq, hk_xq, rfl⟩ := ix_sp c2
    refine lv_iload_n hx hb dX6_breaths_11 rfl (lv_at hl 2 rfl) ?_
    refine g_callS (As := [.int y]) (rest := []) (wr := (lW a hL hT im bs rd hS sh kb rf ++ gW tk hL G d e ++ sW tk hS sn pl lo le)) (C0.sz hl) X (c_X6_isEither l D tk y) ⟨tb582, tb584, tb1, ⟨by decide, by decide, rfl⟩, rfl, rfl, Nat.le_of_ble_eq_true rfl, Nat.le_of_ble_eq_true rfl⟩ tb583 rfl [] [0, 1, 2, 3, 4, 5, 6, 7, 8, 9, 10, 11, 12, 13, 14] rfl rfl rfl rfl rfl (Nat.le_of_ble_eq_true rfl) ⟨Nat.le_of_ble_eq_true rfl, Nat.le_of_ble_eq_true rfl⟩ dX6_breaths_12 (fun _ H locs _ X => ?_)
    have X : Hx D zA zs H locs (lW a hL hT im bs rd hS sh kb rf ++ gW tk hL G d e ++ sW tk hS sn pl lo le) := X
    refine g_ifneB (x := rg y 0 1) (tgt := 20) C0 dX6_breaths_15 rfl (fun c3 => ?_) (fun c4 => ?_)
    · obtain ⟨yq, hk_yqa, hk_yqb, hk_yqc, rfl⟩ := rg_sp c3
      refine lv_iload_n hx hb dX6_breaths_20 rfl (lv_at hl 2 rfl) ?_
      refine g_ifne (x := yq) (tgt := 39) C0 (by omega) dX6_breaths_21 rfl (fun c5 => ?_) (fun c6 => ?_)
      · refine lv_aload_n hx hb dX6_breaths_39 rfl (lv_at hl 0 rfl) ?_
        refine g_get (v := .ref (hS 0)) C0 X kX6 0 5 tb205 rfl rfl rfl dX6_breaths_40 ?_
        refine lv_aload_n hx hb dX6_breaths_43 rfl (lv_at hl 0 rfl) ?_
        refine g_get (v := .ref (hL 0)) C0 X kX6 0 0 tb200 rfl rfl rfl dX6_breaths_44 ?_
        refine lv_iload_n hx hb dX6_breaths_47 rfl (lv_at hl 1 rfl) ?_
        refine g_callV (As := [.ref (hL 0), .int (nI xq)]) (rest := []) (wr := (lW a hL hT im bs rd hS sh kb rf)) (C0.sz hl) X (c_X4_leastPossible l D tk hS sn pl lo le hL G d e xq (by first | assumption | omega) (by first | assumption | omega) (by first | assumption | omega) (by first | assumption | omega)) ⟨tb700, tb685, tb6, ⟨by decide, by decide, rfl⟩, rfl, rfl, Nat.le_of_ble_eq_true rfl, Nat.le_of_ble_eq_true rfl⟩ tb683 tb684 11 4 rfl rfl rfl rfl [11, 12, 13, 14, 1, 2, 3, 4, 5, 6, 7, 8, 9, 10] [0] rfl rfl rfl rfl rfl (Nat.le_of_ble_eq_true rfl) ⟨Nat.le_of_ble_eq_true rfl, Nat.le_of_ble_eq_true rfl⟩ dX6_breaths_48 (fun _ H locs _ X => ?_)
        have X : Hx D zA zs H locs (lW a hL hT im bs rd hS sh kb rf ++ sW tk hS sn pl lo le ++ gW tk hL G (dist (cgv G) xq) e) := X
        have X : Hx D zA zs H locs (lW a hL hT im bs rd hS sh kb rf ++ gW tk hL G (dist (cgv G) xq) e ++ sW tk hS sn pl lo le) := X.sub [0, 5, 6, 7, 8, 9, 10, 11, 12, 13, 14, 1, 2, 3, 4] rfl rfl
        exact hE (v := orNone (lfind (fun b => fitS (cgv G) xq b sn pl lo) 60 1)) (dist (cgv G) xq, e, le) (by rw [a_breaths, cg8, c2, c3, if_pos (show (true && true) = true from rfl), tn_nI (k := xq) (by omega), tn_nI (k := yq) (by omega), if_neg (by omega)]) trivial X dX6_breaths_51
      · refine lv_aload_n hx hb dX6_breaths_24 rfl (lv_at hl 0 rfl) ?_
        refine g_get (v := .ref (hS 0)) C0 X kX6 0 5 tb205 rfl rfl rfl dX6_breaths_25 ?_
        refine lv_aload_n hx hb dX6_breaths_28 rfl (lv_at hl 0 rfl) ?_
        refine g_get (v := .ref (hL 0)) C0 X kX6 0 0 tb200 rfl rfl rfl dX6_breaths_29 ?_
        refine lv_iload_n hx hb dX6_breaths_32 rfl (lv_at hl 1 rfl) ?_
        refine g_callV (As := [.ref (hL 0), .int (nI xq)]) (rest := []) (wr := (lW a hL hT im bs rd hS sh kb rf)) (C0.sz hl) X (c_X4_howManyBreaths l D tk hS sn pl lo le hL G d e xq (by first | assumption | omega) (by first | assumption | omega) (by first | assumption | omega) (by first | assumption | omega)) ⟨tb696, tb699, tb6, ⟨by decide, by decide, rfl⟩, rfl, rfl, Nat.le_of_ble_eq_true rfl, Nat.le_of_ble_eq_true rfl⟩ tb697 tb698 11 4 rfl rfl rfl rfl [11, 12, 13, 14, 1, 2, 3, 4, 5, 6, 7, 8, 9, 10] [0] rfl rfl rfl rfl rfl (Nat.le_of_ble_eq_true rfl) ⟨Nat.le_of_ble_eq_true rfl, Nat.le_of_ble_eq_true rfl⟩ dX6_breaths_33 (fun _ H locs _ X => ?_)
        have X : Hx D zA zs H locs (lW a hL hT im bs rd hS sh kb rf ++ sW tk hS sn pl lo le ++ gW tk hL G (dist (cgv G) xq) e) := X
        have X : Hx D zA zs H locs (lW a hL hT im bs rd hS sh kb rf ++ gW tk hL G (dist (cgv G) xq) e ++ sW tk hS sn pl lo le) := X.sub [0, 5, 6, 7, 8, 9, 10, 11, 12, 13, 14, 1, 2, 3, 4] rfl rfl
        refine lv_goto (tgt := 51) hx hb dX6_breaths_36 (by decide) ?_
        exact hE (v := nI (manyS (cgv G) xq sn pl lo)) (dist (cgv G) xq, e, le) (by rw [a_breaths, cg8, c2, c3, if_pos (show (true && true) = true from rfl), tn_nI (k := xq) (by omega), tn_nI (k := yq) (by omega), if_pos c6]) trivial X dX6_breaths_51
    · refine lv_iconst (v := (-1)) hx hb dX6_breaths_18 (by decide) ?_
      exact hE (v := (-1)) (d, e, le) (by simp [a_breaths, cg0, cg1, cg2, cg3, cg5, cg6, cg7, cg8, c2, c4, tn_nI (k := xq) (by omega)]) trivial X dX6_breaths_19
set_option maxHeartbeats 4000000 in
set_option maxRecDepth 100000 in
theorem c_X6_kinds (l : Launch) (D : va_G) (tk : Nat → ClassId) (a : Nat) (hL hT : Nat → Nat) (im bs rd : Nat) (hS : Nat → Nat) (sh kb rf : Nat) (G : Nat → Nat → Nat) (d e : Nat → Nat) (T : Nat → Nat → Nat) (td te : Nat → Nat) (sn : Nat) (pl lo le : Nat → Nat) (x : Int32) (hw : GW G) (hsn : sn ≤ 6) (hss : ∀ j, j < sn → pl j < G 8 0 ∧ lo j ≤ 120) : MX l yX6_kinds cX6_kinds 4 (some .int) ⟨5, 0, 0, 136⟩ D (TYS tk) [.ref a, .int x] (lW a hL hT im bs rd hS sh kb rf ++ gW tk hL G d e ++ gW tk hT T td te ++ sW tk hS sn pl lo le) (fun (u : (Nat → Nat) × (Nat → Nat) × (Nat → Nat → Nat) × (Nat → Nat) × (Nat → Nat) × (Nat → Nat)) => True) (fun u => some (.int (a_kinds (cgv G) sn pl lo x))) (fun u => lW a hL hT im bs rd hS sh kb rf ++ gW tk hL G u.1 u.2.1 ++ gW tk hT u.2.2.1 u.2.2.2.1 u.2.2.2.2.1 ++ sW tk hS sn pl lo u.2.2.2.2.2) 0 0 := by
  refine MX.of_i (by decide) rfl ?_
  intro zp ze zs zm za zb zt zc zA zQ ls C0 hnm X hl hE
  have hx := C0.1
  have hb := C0.2.1
  have ht := C0.2.2.2.2.1
  have X : Hx D zA zs zs.heap [] (lW a hL hT im bs rd hS sh kb rf ++ gW tk hL G d e ++ gW tk hT T td te ++ sW tk hS sn pl lo le) := X
  have hl : lv_has ls 4 [(0, .ref a), (1, .int x)] := hl
  obtain ⟨hw1, hw2, hw3, hw4, hw5, hw6, hw7, hw8⟩ := id hw
  obtain ⟨H, hH⟩ : ∃ H, H = zs.heap := ⟨_, rfl⟩
  rw [← hH] at X ⊢
  obtain ⟨locs, hlo⟩ : ∃ L : List Loc, L = [] := ⟨_, rfl⟩
  rw [← hlo] at X ⊢
  refine lv_aload_n hx hb dX6_kinds_0 rfl (lv_at hl 0 rfl) ?_
  refine g_get (v := .ref (hL 0)) C0 X kX6 0 0 tb200 rfl rfl rfl dX6_kinds_1 ?_
  refine lv_iload_n hx hb dX6_kinds_4 rfl (lv_at hl 1 rfl) ?_
  refine g_callV (As := [.int x]) (rest := []) (wr := (lW a hL hT im bs rd hS sh kb rf ++ gW tk hT T td te ++ sW tk hS sn pl lo le)) (C0.sz hl) X (c_X1_hasTree l D tk hL G d e x (by first | assumption | omega)) ⟨tb456, tb390, tb2, ⟨by decide, by decide, rfl⟩, rfl, rfl, Nat.le_of_ble_eq_true rfl, Nat.le_of_ble_eq_true rfl⟩ tb388 tb389 1 1 rfl rfl rfl rfl [1, 2, 3, 4, 5, 6, 7, 8, 9, 10] [0, 11, 12, 13, 14, 15, 16, 17, 18, 19, 20, 21, 22, 23, 24] rfl rfl rfl rfl rfl (Nat.le_of_ble_eq_true rfl) ⟨Nat.le_of_ble_eq_true rfl, Nat.le_of_ble_eq_true rfl⟩ dX6_kinds_5 (fun _ H locs _ X => ?_)
  have X : Hx D zA zs H locs (lW a hL hT im bs rd hS sh kb rf ++ gW tk hT T td te ++ sW tk hS sn pl lo le ++ gW tk hL G d e) := X
  have X : Hx D zA zs H locs (lW a hL hT im bs rd hS sh kb rf ++ gW tk hL G d e ++ gW tk hT T td te ++ sW tk hS sn pl lo le) := X.sub [0, 15, 16, 17, 18, 19, 20, 21, 22, 23, 24, 1, 2, 3, 4, 5, 6, 7, 8, 9, 10, 11, 12, 13, 14] rfl rfl
  refine g_ifneB (x := ix x (G 8 0)) (tgt := 13) C0 dX6_kinds_8 rfl (fun c1 => ?_) (fun c2 => ?_)
  · obtain ⟨xq, hk_xq, rfl⟩ := ix_sp c1
    refine g_iconst (n := 0) C0 rfl dX6_kinds_13 ?_
    refine lv_istore_n (lv' := [(2, .int (nI 0)), (0, .ref a), (1, .int (nI xq))]) hx hb dX6_kinds_14 rfl hl (by decide) rfl (fun ls hl => ?_)
    refine lv_aload_n hx hb dX6_kinds_15 rfl (lv_at hl 1 rfl) ?_
    refine g_get (v := .ref (hT 0)) C0 X kX6 0 1 tb201 rfl rfl rfl dX6_kinds_16 ?_
    refine lv_aload_n hx hb dX6_kinds_19 rfl (lv_at hl 1 rfl) ?_
    refine g_get (v := .ref (hL 0)) C0 X kX6 0 0 tb200 rfl rfl rfl dX6_kinds_20 ?_
    refine g_callV (As := [.ref (hL 0)]) (rest := []) (wr := (lW a hL hT im bs rd hS sh kb rf ++ sW tk hS sn pl lo le)) (C0.sz hl) X (c_X1_become l D tk hT T td te hL G d e) ⟨tb392, tb395, tb2, ⟨by decide, by decide, rfl⟩, rfl, rfl, Nat.le_of_ble_eq_true rfl, Nat.le_of_ble_eq_true rfl⟩ tb393 tb394 11 1 rfl rfl rfl rfl [11, 12, 13, 14, 15, 16, 17, 18, 19, 20, 1, 2, 3, 4, 5, 6, 7, 8, 9, 10] [0, 21, 22, 23, 24] rfl rfl rfl rfl rfl (Nat.le_of_ble_eq_true rfl) ⟨Nat.le_of_ble_eq_true rfl, Nat.le_of_ble_eq_true rfl⟩ dX6_kinds_23 (fun _ H locs _ X => ?_)
    have X : Hx D zA zs H locs (lW a hL hT im bs rd hS sh kb rf ++ sW tk hS sn pl lo le ++ gW tk hT G td te ++ gW tk hL G d e) := X
    have X : Hx D zA zs H locs (lW a hL hT im bs rd hS sh kb rf ++ gW tk hL G d e ++ gW tk hT G td te ++ sW tk hS sn pl lo le) := X.sub [0, 15, 16, 17, 18, 19, 20, 21, 22, 23, 24, 5, 6, 7, 8, 9, 10, 11, 12, 13, 14, 1, 2, 3, 4] rfl rfl
    refine g_iconst (n := 0) C0 rfl dX6_kinds_26 ?_
    refine lv_istore_n (lv' := [(3, .int (nI 0)), (2, .int (nI 0)), (0, .ref a), (1, .int (nI xq))]) hx hb dX6_kinds_27 rfl hl (by decide) rfl (fun ls hl => ?_)
    have J28 : ∀ (fz : Nat) (i bs1 : Nat) (T1 : Nat → Nat → Nat) (d1 e1 : Nat → Nat), 4 - i < fz → ∀ (hi : i ≤ 4) (hTz : ∀ z, u2 T1 0 xq z = u2 G 0 xq z) (hbs : bs1 = bset (kindsP (cgv G) sn pl lo xq) i) (H : Heap) (locs : List Loc) (ls : Array Slot), Hx D zA zs H locs (lW a hL hT im bs rd hS sh kb rf ++ gW tk hL G d e ++ gW tk hT T1 d1 e1 ++ sW tk hS sn pl lo le) → lv_has ls 4 [(3, .int (nI i)), (2, .int (nI bs1)), (0, .ref a), (1, .int (nI xq))] → W zp l ze ⟨5, 0, 0, 136⟩ zs zm za zb zt zc H locs 0 0 zQ (F0 zm 28 ls []) := by
      intro fz
      induction fz with
      | zero => intro i bs1 T1 d1 e1 hz; exact absurd hz (Nat.not_lt_zero _)
      | succ fz ih28 =>
        intro i bs1 T1 d1 e1 hz28 hi hTz hbs H locs ls X hl
        refine lv_iload_n hx hb dX6_kinds_28 rfl (lv_at hl 0 rfl) ?_
        refine g_iconst (n := 3) C0 rfl dX6_kinds_29 ?_
        refine g_icmp_gt (x := i) (y := 3) (tgt := 69) C0 (by omega) (by omega) dX6_kinds_30 rfl (fun c3 => ?_) (fun c4 => ?_)
        · refine lv_iload_n hx hb dX6_kinds_69 rfl (lv_at hl 1 rfl) ?_
          exact hE (v := nI bs1) (d, e, T1, d1, e1, le) (by simp only [a_kinds, cg0, cg1, cg2, cg3, cg5, cg6, cg7, cg8, c1, tn_nI (k := xq) (by omega), if_true]; rw [hbs, show i = 4 by omega]) trivial X dX6_kinds_70
        · refine lv_aload_n hx hb dX6_kinds_33 rfl (lv_at hl 2 rfl) ?_
          refine g_get (v := .ref (hT 0)) C0 X kX6 0 1 tb201 rfl rfl rfl dX6_kinds_34 ?_
          refine g_get (v := .ref (hT 1)) C0 X kX1 11 1 tb36 rfl rfl rfl dX6_kinds_37 ?_
          refine lv_iload_n hx hb dX6_kinds_40 rfl (lv_at hl 3 rfl) ?_
          refine lv_iload_n hx hb dX6_kinds_41 rfl (lv_at hl 0 rfl) ?_
          refine g_iast (g := nf (u1 (T1 0) xq i)) (i := xq) C0 X 12 0 rfl rfl (by omega) rfl (nf_u1 _ _ _) dX6_kinds_42 (fun H locs X => ?_)
          have X : Hx D zA zs H locs (lW a hL hT im bs rd hS sh kb rf ++ gW tk hL G d e ++ gW tk hT (u2 T1 0 xq i) d1 e1 ++ sW tk hS sn pl lo le) := X
          have X : Hx D zA zs H locs (lW a hL hT im bs rd hS sh kb rf ++ gW tk hL G d e ++ gW tk hT (u2 G 0 xq i) d1 e1 ++ sW tk hS sn pl lo le) := X.to (by rw [hTz i])
          refine lv_aload_n hx hb dX6_kinds_43 rfl (lv_at hl 2 rfl) ?_
          refine g_get (v := .ref (hS 0)) C0 X kX6 0 5 tb205 rfl rfl rfl dX6_kinds_44 ?_
          refine lv_aload_n hx hb dX6_kinds_47 rfl (lv_at hl 2 rfl) ?_
          refine g_get (v := .ref (hT 0)) C0 X kX6 0 1 tb201 rfl rfl rfl dX6_kinds_48 ?_
          refine g_callV (As := [.ref (hT 0)]) (rest := []) (wr := (lW a hL hT im bs rd hS sh kb rf ++ gW tk hL G d e)) (C0.sz hl) X (c_X4_possibleSayers l D tk hS sn pl lo le hT (u2 G 0 xq i) d1 e1 (by exact hw.kindu (by omega)) (by omega) (by exact hss)) ⟨tb678, tb681, tb6, ⟨by decide, by decide, rfl⟩, rfl, rfl, Nat.le_of_ble_eq_true rfl, Nat.le_of_ble_eq_true rfl⟩ tb679 tb680 21 4 rfl rfl rfl rfl [21, 22, 23, 24, 11, 12, 13, 14, 15, 16, 17, 18, 19, 20] [0, 1, 2, 3, 4, 5, 6, 7, 8, 9, 10] rfl rfl rfl rfl rfl (Nat.le_of_ble_eq_true rfl) ⟨Nat.le_of_ble_eq_true rfl, Nat.le_of_ble_eq_true rfl⟩ dX6_kinds_51 (fun uq5 H locs _ X => ?_)
          have X : Hx D zA zs H locs (lW a hL hT im bs rd hS sh kb rf ++ gW tk hL G d e ++ sW tk hS sn pl lo le ++ gW tk hT (u2 G 0 xq i) uq5 e1) := X
          have X : Hx D zA zs H locs (lW a hL hT im bs rd hS sh kb rf ++ gW tk hL G d e ++ gW tk hT (u2 G 0 xq i) uq5 e1 ++ sW tk hS sn pl lo le) := X.sub [0, 1, 2, 3, 4, 5, 6, 7, 8, 9, 10, 15, 16, 17, 18, 19, 20, 21, 22, 23, 24, 11, 12, 13, 14] rfl rfl
          have hLq := sayS_lt (cgv (u2 G 0 xq i)) sn pl lo hw1
          refine g_ifeq (x := sayS (cgv (u2 G 0 xq i)) sn pl lo) (tgt := 63) C0 (by omega) dX6_kinds_54 rfl (fun c6 => ?_) (fun c7 => ?_)
          · refine g_iinc (j := 1) (z := i + 1) (lv' := [(3, .int (nI (i + 1))), (2, .int (nI bs1)), (0, .ref a), (1, .int (nI xq))]) C0 rfl (by first | rfl | omega) dX6_kinds_63 hl (k := 0) rfl (by decide) rfl (fun ls hl => ?_)
            refine lv_goto (tgt := 28) hx hb dX6_kinds_66 (by decide) ?_
            exact ih28 (i + 1) bs1 (u2 G 0 xq i) uq5 e1 (by omega) (by omega) (by intro z; exact u2_u2 _ _ _ _ _) (by first | (rw [bset_f (kinds_f c6)]; exact hbs) | (rw [bset_t (kinds_t c6), hbs])) H locs ls X (lv_sub hl [0, 1, 2, 3] rfl)
          · refine lv_iload_n hx hb dX6_kinds_57 rfl (lv_at hl 1 rfl) ?_
            refine g_iconst (n := 1) C0 rfl dX6_kinds_58 ?_
            refine lv_iload_n hx hb dX6_kinds_59 rfl (lv_at hl 0 rfl) ?_
            refine g_ishl (n := 2 ^ i) C0 (by exact sh_ok (by omega)) (by first | exact Nat.one_mul _ | rfl) dX6_kinds_60 ?_
            refine g_ior (n := bs1 ||| (2 ^ i)) C0 rfl dX6_kinds_61 ?_
            refine lv_istore_n (lv' := [(2, .int (nI (bs1 ||| (2 ^ i)))), (3, .int (nI i)), (0, .ref a), (1, .int (nI xq))]) hx hb dX6_kinds_62 rfl hl (by decide) rfl (fun ls hl => ?_)
            refine g_iinc (j := 1) (z := i + 1) (lv' := [(3, .int (nI (i + 1))), (2, .int (nI (bs1 ||| (2 ^ i)))), (0, .ref a), (1, .int (nI xq))]) C0 rfl (by first | rfl | omega) dX6_kinds_63 hl (k := 1) rfl (by decide) rfl (fun ls hl => ?_)
            refine lv_goto (tgt := 28) hx hb dX6_kinds_66 (by decide) ?_
            exact ih28 (i + 1) (bs1 ||| (2 ^ i)) (u2 G 0 xq i) uq5 e1 (by omega) (by omega) (by intro z; exact u2_u2 _ _ _ _ _) (by first | (rw [bset_f (kinds_f c7)]; exact hbs) | (rw [bset_t (kinds_t c7), hbs])) H locs ls X (lv_sub hl [0, 1, 2, 3] rfl)
    exact J28 ((4 - 0) + 1) 0 0 G td te (Nat.lt_succ_self _) (by omega) (by intro z; rfl) (by rfl) H locs ls X (lv_sub hl [0, 1, 2, 3] rfl)
  · refine lv_iconst (v := (-1)) hx hb dX6_kinds_11 (by decide) ?_
    exact hE (v := (-1)) (d, e, T, td, te, le) (by simp [a_kinds, cg0, cg1, cg2, cg3, cg5, cg6, cg7, cg8, c2]) trivial X dX6_kinds_12
set_option maxHeartbeats 4000000 in
set_option maxRecDepth 100000 in
theorem c_X6_ask (l : Launch) (D : va_G) (tk : Nat → ClassId) (a : Nat) (hL hT : Nat → Nat) (im bs rd : Nat) (hS : Nat → Nat) (sh kb rf : Nat) (G : Nat → Nat → Nat) (d e : Nat → Nat) (ch am : Int32) (sn : Nat) (pl lo le : Nat → Nat) (x : Int32) (hw : GW G) (hsn : sn ≤ 6) (hss : ∀ j, j < sn → pl j < G 8 0 ∧ lo j ≤ 120) : MX l yX6_ask cX6_ask 4 (some .int) ⟨4, 0, 0, 116⟩ D (TYS tk) [.ref a, .int x] (lW a hL hT im bs rd hS sh kb rf ++ gW tk hL G d e ++ bW bs ch am ++ sW tk hS sn pl lo le) (fun (u : (Nat → Nat) × (Nat → Nat) × Int32 × Int32 × (Nat → Nat)) => True) (fun u => some (.int (a_ask (cgv G) sn pl lo x))) (fun u => lW a hL hT im bs rd hS sh kb rf ++ gW tk hL G u.1 u.2.1 ++ bW bs u.2.2.1 u.2.2.2.1 ++ sW tk hS sn pl lo u.2.2.2.2) 0 0 := by
  refine MX.of_i (by decide) rfl ?_
  intro zp ze zs zm za zb zt zc zA zQ ls C0 hnm X hl hE
  have hx := C0.1
  have hb := C0.2.1
  have ht := C0.2.2.2.2.1
  have X : Hx D zA zs zs.heap [] (lW a hL hT im bs rd hS sh kb rf ++ gW tk hL G d e ++ bW bs ch am ++ sW tk hS sn pl lo le) := X
  have hl : lv_has ls 4 [(0, .ref a), (1, .int x)] := hl
  obtain ⟨hw1, hw2, hw3, hw4, hw5, hw6, hw7, hw8⟩ := id hw
  obtain ⟨H, hH⟩ : ∃ H, H = zs.heap := ⟨_, rfl⟩
  rw [← hH] at X ⊢
  obtain ⟨locs, hlo⟩ : ∃ L : List Loc, L = [] := ⟨_, rfl⟩
  rw [← hlo] at X ⊢
  refine lv_iload_n hx hb dX6_ask_0 rfl (lv_at hl 1 rfl) ?_
  refine g_callS (As := [.int x]) (rest := []) (wr := (lW a hL hT im bs rd hS sh kb rf ++ gW tk hL G d e ++ bW bs ch am ++ sW tk hS sn pl lo le)) (C0.sz hl) X (c_X6_isEither l D tk x) ⟨tb582, tb584, tb1, ⟨by decide, by decide, rfl⟩, rfl, rfl, Nat.le_of_ble_eq_true rfl, Nat.le_of_ble_eq_true rfl⟩ tb583 rfl [] [0, 1, 2, 3, 4, 5, 6, 7, 8, 9, 10, 11, 12, 13, 14, 15] rfl rfl rfl rfl rfl (Nat.le_of_ble_eq_true rfl) ⟨Nat.le_of_ble_eq_true rfl, Nat.le_of_ble_eq_true rfl⟩ dX6_ask_1 (fun _ H locs _ X => ?_)
  have X : Hx D zA zs H locs (lW a hL hT im bs rd hS sh kb rf ++ gW tk hL G d e ++ bW bs ch am ++ sW tk hS sn pl lo le) := X
  refine g_ifneB (x := rg x 0 1) (tgt := 9) C0 dX6_ask_4 rfl (fun c1 => ?_) (fun c2 => ?_)
  · obtain ⟨xq, hk_xqa, hk_xqb, hk_xqc, rfl⟩ := rg_sp c1
    refine g_iconst (n := 0) C0 rfl dX6_ask_9 ?_
    refine lv_istore_n (lv' := [(2, .int (nI 0)), (0, .ref a), (1, .int (nI xq))]) hx hb dX6_ask_10 rfl hl (by decide) rfl (fun ls hl => ?_)
    refine g_iconst (n := 0) C0 rfl dX6_ask_11 ?_
    refine lv_istore_n (lv' := [(3, .int (nI 0)), (2, .int (nI 0)), (0, .ref a), (1, .int (nI xq))]) hx hb dX6_ask_12 rfl hl (by decide) rfl (fun ls hl => ?_)
    have J13 : ∀ (fz : Nat) (i sm : Nat) (d1 : Nat → Nat), G 8 0 - i < fz → ∀ (hi : i ≤ G 8 0) (hsm : sm = nsum (fun t => manyS (cgv G) t sn pl lo) i) (H : Heap) (locs : List Loc) (ls : Array Slot), Hx D zA zs H locs (lW a hL hT im bs rd hS sh kb rf ++ gW tk hL G d1 e ++ bW bs ch am ++ sW tk hS sn pl lo le) → lv_has ls 4 [(3, .int (nI i)), (2, .int (nI sm)), (0, .ref a), (1, .int (nI xq))] → W zp l ze ⟨4, 0, 0, 116⟩ zs zm za zb zt zc H locs 0 0 zQ (F0 zm 13 ls []) := by
      intro fz
      induction fz with
      | zero => intro i sm d1 hz; exact absurd hz (Nat.not_lt_zero _)
      | succ fz ih13 =>
        intro i sm d1 hz13 hi hsm H locs ls X hl
        refine lv_iload_n hx hb dX6_ask_13 rfl (lv_at hl 0 rfl) ?_
        refine lv_aload_n hx hb dX6_ask_14 rfl (lv_at hl 2 rfl) ?_
        refine g_get (v := .ref (hL 0)) C0 X kX6 0 0 tb200 rfl rfl rfl dX6_ask_15 ?_
        refine g_get (v := .int (nI (G 8 0))) C0 X kX1 1 0 tb33 rfl rfl rfl dX6_ask_18 ?_
        refine g_icmp_ge (x := i) (y := G 8 0) (tgt := 45) C0 (by omega) (by omega) dX6_ask_21 rfl (fun c3 => ?_) (fun c4 => ?_)
        · refine lv_aload_n hx hb dX6_ask_45 rfl (lv_at hl 2 rfl) ?_
          refine g_get (v := .ref bs) C0 X kX6 0 3 tb203 rfl rfl rfl dX6_ask_46 ?_
          refine lv_iload_n hx hb dX6_ask_49 rfl (lv_at hl 1 rfl) ?_
          have hsm2 := sm_le hsm
          refine g_callV (As := [.int (nI sm)]) (rest := []) (wr := (lW a hL hT im bs rd hS sh kb rf ++ gW tk hL G d1 e ++ sW tk hS sn pl lo le)) (C0.sz hl) X (c_X0_below l D tk bs ch am sm) ⟨tb585, tb588, tb3, ⟨by decide, by decide, rfl⟩, rfl, rfl, Nat.le_of_ble_eq_true rfl, Nat.le_of_ble_eq_true rfl⟩ tb586 tb587 11 0 rfl rfl rfl rfl [11] [0, 1, 2, 3, 4, 5, 6, 7, 8, 9, 10, 12, 13, 14, 15] rfl rfl rfl rfl rfl (Nat.le_of_ble_eq_true rfl) ⟨Nat.le_of_ble_eq_true rfl, Nat.le_of_ble_eq_true rfl⟩ dX6_ask_50 (fun _ H locs _ X => ?_)
          have X : Hx D zA zs H locs (lW a hL hT im bs rd hS sh kb rf ++ gW tk hL G d1 e ++ sW tk hS sn pl lo le ++ bW bs (-4) (nI sm)) := X
          have X : Hx D zA zs H locs (lW a hL hT im bs rd hS sh kb rf ++ gW tk hL G d1 e ++ bW bs (-4) (nI sm) ++ sW tk hS sn pl lo le) := X.sub [0, 1, 2, 3, 4, 5, 6, 7, 8, 9, 10, 15, 11, 12, 13, 14] rfl rfl
          refine g_iconst (n := 0) C0 rfl dX6_ask_53 ?_
          refine lv_istore_n (lv' := [(3, .int (nI 0)), (2, .int (nI sm)), (0, .ref a), (1, .int (nI xq))]) hx hb dX6_ask_54 rfl hl (by decide) rfl (fun ls hl => ?_)
          have J55 : ∀ (fz : Nat) (i2 : Nat) (ch1 : Int32) (am1 : Nat) (d2 l2 : Nat → Nat), G 8 0 - i2 < fz → ∀ (hi2 : i2 ≤ G 8 0) (hbf : (ch1, am1) = bfold (fun _ => true) (fun u => (lwT (cgv G) u sn pl lo (G 8 0)).2) sm i2) (H : Heap) (locs : List Loc) (ls : Array Slot), Hx D zA zs H locs (lW a hL hT im bs rd hS sh kb rf ++ gW tk hL G d2 e ++ bW bs ch1 (nI am1) ++ sW tk hS sn pl lo l2) → lv_has ls 4 [(3, .int (nI i2)), (2, .int (nI sm)), (0, .ref a), (1, .int (nI xq))] → W zp l ze ⟨4, 0, 0, 116⟩ zs zm za zb zt zc H locs 0 0 zQ (F0 zm 55 ls []) := by
            intro fz
            induction fz with
            | zero => intro i2 ch1 am1 d2 l2 hz; exact absurd hz (Nat.not_lt_zero _)
            | succ fz ih55 =>
              intro i2 ch1 am1 d2 l2 hz55 hi2 hbf H locs ls X hl
              refine lv_iload_n hx hb dX6_ask_55 rfl (lv_at hl 0 rfl) ?_
              refine lv_aload_n hx hb dX6_ask_56 rfl (lv_at hl 2 rfl) ?_
              refine g_get (v := .ref (hL 0)) C0 X kX6 0 0 tb200 rfl rfl rfl dX6_ask_57 ?_
              refine g_get (v := .int (nI (G 8 0))) C0 X kX1 1 0 tb33 rfl rfl rfl dX6_ask_60 ?_
              refine g_icmp_ge (x := i2) (y := G 8 0) (tgt := 92) C0 (by omega) (by omega) dX6_ask_63 rfl (fun c5 => ?_) (fun c6 => ?_)
              · refine lv_aload_n hx hb dX6_ask_92 rfl (lv_at hl 2 rfl) ?_
                refine g_get (v := .ref bs) C0 X kX6 0 3 tb203 rfl rfl rfl dX6_ask_93 ?_
                refine lv_iload_n hx hb dX6_ask_96 rfl (lv_at hl 3 rfl) ?_
                refine g_callV (As := [.int (nI xq)]) (rest := []) (wr := (lW a hL hT im bs rd hS sh kb rf ++ gW tk hL G d2 e ++ sW tk hS sn pl lo l2)) (C0.sz hl) X (c_X0_told l D tk bs ch1 am1 xq (by first | assumption | omega)) ⟨tb593, tb596, tb3, ⟨by decide, by decide, rfl⟩, rfl, rfl, Nat.le_of_ble_eq_true rfl, Nat.le_of_ble_eq_true rfl⟩ tb594 tb595 11 0 rfl rfl rfl rfl [11] [0, 1, 2, 3, 4, 5, 6, 7, 8, 9, 10, 12, 13, 14, 15] rfl rfl rfl rfl rfl (Nat.le_of_ble_eq_true rfl) ⟨Nat.le_of_ble_eq_true rfl, Nat.le_of_ble_eq_true rfl⟩ dX6_ask_97 (fun _ H locs _ X => ?_)
                have X : Hx D zA zs H locs (lW a hL hT im bs rd hS sh kb rf ++ gW tk hL G d2 e ++ sW tk hS sn pl lo l2 ++ bW bs ch1 (nI am1)) := X
                have X : Hx D zA zs H locs (lW a hL hT im bs rd hS sh kb rf ++ gW tk hL G d2 e ++ bW bs ch1 (nI am1) ++ sW tk hS sn pl lo l2) := X.sub [0, 1, 2, 3, 4, 5, 6, 7, 8, 9, 10, 15, 11, 12, 13, 14] rfl rfl
                exact hE (v := if xq = 0 ∨ ch1 = -4 then ch1 else nI am1) (d2, e, ch1, nI am1, l2) (by simp only [a_ask, cg0, cg1, cg2, cg3, cg5, cg6, cg7, cg8, c1, tn_nI (k := xq) (by omega), if_true]; rw [show nsum (fun t => manyS (cgv G) t sn pl lo) (G 8 0) = sm by rw [hsm, show G 8 0 = i by omega], ← told_s (i := G 8 0) (show (ch1, am1) = _ by rw [show G 8 0 = i2 by omega]; rw [show G 8 0 = i2 by omega] at hbf; exact hbf)]) trivial X dX6_ask_100
              · refine lv_aload_n hx hb dX6_ask_66 rfl (lv_at hl 2 rfl) ?_
                refine g_get (v := .ref bs) C0 X kX6 0 3 tb203 rfl rfl rfl dX6_ask_67 ?_
                refine lv_iload_n hx hb dX6_ask_70 rfl (lv_at hl 0 rfl) ?_
                refine lv_aload_n hx hb dX6_ask_71 rfl (lv_at hl 2 rfl) ?_
                refine g_get (v := .ref (hS 0)) C0 X kX6 0 5 tb205 rfl rfl rfl dX6_ask_72 ?_
                refine lv_aload_n hx hb dX6_ask_75 rfl (lv_at hl 2 rfl) ?_
                refine g_get (v := .ref (hL 0)) C0 X kX6 0 0 tb200 rfl rfl rfl dX6_ask_76 ?_
                refine lv_iload_n hx hb dX6_ask_79 rfl (lv_at hl 0 rfl) ?_
                refine g_callV (As := [.ref (hL 0), .int (nI i2)]) (rest := [.int (nI i2), .ref bs]) (wr := (lW a hL hT im bs rd hS sh kb rf ++ bW bs ch1 (nI am1))) (C0.sz hl) X (c_X4_leftAtWorst l D tk hS sn pl lo l2 hL G d2 e i2 (by first | assumption | omega) (by first | assumption | omega) (by exact hss) (by first | assumption | omega)) ⟨tb709, tb712, tb6, ⟨by decide, by decide, rfl⟩, rfl, rfl, Nat.le_of_ble_eq_true rfl, Nat.le_of_ble_eq_true rfl⟩ tb710 tb711 12 4 rfl rfl rfl rfl [12, 13, 14, 15, 1, 2, 3, 4, 5, 6, 7, 8, 9, 10] [0, 11] rfl rfl rfl rfl rfl (Nat.le_of_ble_eq_true rfl) ⟨Nat.le_of_ble_eq_true rfl, Nat.le_of_ble_eq_true rfl⟩ dX6_ask_80 (fun uq7 H locs _ X => ?_)
                have X : Hx D zA zs H locs (lW a hL hT im bs rd hS sh kb rf ++ bW bs ch1 (nI am1) ++ sW tk hS sn pl lo uq7.1 ++ gW tk hL G uq7.2 e) := X
                have X : Hx D zA zs H locs (lW a hL hT im bs rd hS sh kb rf ++ gW tk hL G uq7.2 e ++ bW bs ch1 (nI am1) ++ sW tk hS sn pl lo uq7.1) := X.sub [0, 6, 7, 8, 9, 10, 11, 12, 13, 14, 15, 1, 2, 3, 4, 5] rfl rfl
                have hLq := (lwT_bd (cgv G) i2 sn pl lo (G 8 0)).2
                have hamL := bf_am hbf
                refine g_callV (As := [.int (nI i2), .int (nI ((lwT (cgv G) i2 sn pl lo (G 8 0)).2))]) (rest := []) (wr := (lW a hL hT im bs rd hS sh kb rf ++ gW tk hL G uq7.2 e ++ sW tk hS sn pl lo uq7.1)) (C0.sz hl) X (c_X0_offer l D tk bs ch1 am1 i2 ((lwT (cgv G) i2 sn pl lo (G 8 0)).2) (by first | assumption | omega) (by first | assumption | omega)) ⟨tb589, tb592, tb3, ⟨by decide, by decide, rfl⟩, rfl, rfl, Nat.le_of_ble_eq_true rfl, Nat.le_of_ble_eq_true rfl⟩ tb590 tb591 11 0 rfl rfl rfl rfl [11] [0, 1, 2, 3, 4, 5, 6, 7, 8, 9, 10, 12, 13, 14, 15] rfl rfl rfl rfl rfl (Nat.le_of_ble_eq_true rfl) ⟨Nat.le_of_ble_eq_true rfl, Nat.le_of_ble_eq_true rfl⟩ dX6_ask_83 (fun _ H locs _ X => ?_)
                have X : Hx D zA zs H locs (lW a hL hT im bs rd hS sh kb rf ++ gW tk hL G uq7.2 e ++ sW tk hS sn pl lo uq7.1 ++ bW bs (if ((lwT (cgv G) i2 sn pl lo (G 8 0)).2) < am1 then nI i2 else ch1) (nI (if ((lwT (cgv G) i2 sn pl lo (G 8 0)).2) < am1 then ((lwT (cgv G) i2 sn pl lo (G 8 0)).2) else am1))) := X
                have X : Hx D zA zs H locs (lW a hL hT im bs rd hS sh kb rf ++ gW tk hL G uq7.2 e ++ bW bs (if ((lwT (cgv G) i2 sn pl lo (G 8 0)).2) < am1 then nI i2 else ch1) (nI (if ((lwT (cgv G) i2 sn pl lo (G 8 0)).2) < am1 then ((lwT (cgv G) i2 sn pl lo (G 8 0)).2) else am1)) ++ sW tk hS sn pl lo uq7.1) := X.sub [0, 1, 2, 3, 4, 5, 6, 7, 8, 9, 10, 15, 11, 12, 13, 14] rfl rfl
                refine g_iinc (j := 1) (z := i2 + 1) (lv' := [(3, .int (nI (i2 + 1))), (2, .int (nI sm)), (0, .ref a), (1, .int (nI xq))]) C0 rfl (by first | rfl | omega) dX6_ask_86 hl (k := 0) rfl (by decide) rfl (fun ls hl => ?_)
                refine lv_goto (tgt := 55) hx hb dX6_ask_89 (by decide) ?_
                exact ih55 (i2 + 1) (if ((lwT (cgv G) i2 sn pl lo (G 8 0)).2) < am1 then nI i2 else ch1) (if ((lwT (cgv G) i2 sn pl lo (G 8 0)).2) < am1 then ((lwT (cgv G) i2 sn pl lo (G 8 0)).2) else am1) uq7.2 uq7.1 (by omega) (by omega) (by exact bf_t (P := fun _ => true) (x := fun u => (lwT (cgv G) u sn pl lo (G 8 0)).2) rfl hbf) H locs ls X (lv_sub hl [0, 1, 2, 3] rfl)
          exact J55 ((G 8 0 - 0) + 1) 0 (-4) sm d1 le (Nat.lt_succ_self _) (by omega) (by rfl) H locs ls X (lv_sub hl [0, 1, 2, 3] rfl)
        · refine lv_iload_n hx hb dX6_ask_24 rfl (lv_at hl 1 rfl) ?_
          refine lv_aload_n hx hb dX6_ask_25 rfl (lv_at hl 2 rfl) ?_
          refine g_get (v := .ref (hS 0)) C0 X kX6 0 5 tb205 rfl rfl rfl dX6_ask_26 ?_
          refine lv_aload_n hx hb dX6_ask_29 rfl (lv_at hl 2 rfl) ?_
          refine g_get (v := .ref (hL 0)) C0 X kX6 0 0 tb200 rfl rfl rfl dX6_ask_30 ?_
          refine lv_iload_n hx hb dX6_ask_33 rfl (lv_at hl 0 rfl) ?_
          refine g_callV (As := [.ref (hL 0), .int (nI i)]) (rest := [.int (nI sm)]) (wr := (lW a hL hT im bs rd hS sh kb rf ++ bW bs ch am)) (C0.sz hl) X (c_X4_howManyBreaths l D tk hS sn pl lo le hL G d1 e i (by first | assumption | omega) (by first | assumption | omega) (by first | assumption | omega) (by first | assumption | omega)) ⟨tb696, tb699, tb6, ⟨by decide, by decide, rfl⟩, rfl, rfl, Nat.le_of_ble_eq_true rfl, Nat.le_of_ble_eq_true rfl⟩ tb697 tb698 12 4 rfl rfl rfl rfl [12, 13, 14, 15, 1, 2, 3, 4, 5, 6, 7, 8, 9, 10] [0, 11] rfl rfl rfl rfl rfl (Nat.le_of_ble_eq_true rfl) ⟨Nat.le_of_ble_eq_true rfl, Nat.le_of_ble_eq_true rfl⟩ dX6_ask_34 (fun _ H locs _ X => ?_)
          have X : Hx D zA zs H locs (lW a hL hT im bs rd hS sh kb rf ++ bW bs ch am ++ sW tk hS sn pl lo le ++ gW tk hL G (dist (cgv G) i) e) := X
          have X : Hx D zA zs H locs (lW a hL hT im bs rd hS sh kb rf ++ gW tk hL G (dist (cgv G) i) e ++ bW bs ch am ++ sW tk hS sn pl lo le) := X.sub [0, 6, 7, 8, 9, 10, 11, 12, 13, 14, 15, 1, 2, 3, 4, 5] rfl rfl
          refine g_iadd (n := sm + (manyS (cgv G) i sn pl lo)) C0 (by first | rfl | omega) dX6_ask_37 ?_
          refine lv_istore_n (lv' := [(2, .int (nI (sm + (manyS (cgv G) i sn pl lo)))), (3, .int (nI i)), (0, .ref a), (1, .int (nI xq))]) hx hb dX6_ask_38 rfl hl (by decide) rfl (fun ls hl => ?_)
          refine g_iinc (j := 1) (z := i + 1) (lv' := [(3, .int (nI (i + 1))), (2, .int (nI (sm + (manyS (cgv G) i sn pl lo)))), (0, .ref a), (1, .int (nI xq))]) C0 rfl (by first | rfl | omega) dX6_ask_39 hl (k := 1) rfl (by decide) rfl (fun ls hl => ?_)
          refine lv_goto (tgt := 13) hx hb dX6_ask_42 (by decide) ?_
          exact ih13 (i + 1) (sm + (manyS (cgv G) i sn pl lo)) (dist (cgv G) i) (by omega) (by omega) (by rw [hsm]; rfl) H locs ls X (lv_sub hl [0, 1, 2, 3] rfl)
    exact J13 ((G 8 0 - 0) + 1) 0 0 d (Nat.lt_succ_self _) (by omega) (by rfl) H locs ls X (lv_sub hl [0, 1, 2, 3] rfl)
  · refine lv_iconst (v := (-1)) hx hb dX6_ask_7 (by decide) ?_
    exact hE (v := (-1)) (d, e, ch, am, le) (by simp [a_ask, cg0, cg1, cg2, cg3, cg5, cg6, cg7, cg8, c2]) trivial X dX6_ask_8
