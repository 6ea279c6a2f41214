set_option maxHeartbeats 4000000 in
set_option maxRecDepth 100000 in
theorem c_X6_join (l : Launch) (D : va_G) (tk : Nat → ClassId) (a : Nat) (hL hT : Nat → Nat) (im bs rd : Nat) (hS : Nat → Nat) (sh kb rf : Nat) (G : Nat → Nat → Nat) (d e : Nat → Nat) (T : Nat → Nat → Nat) (td te : Nat → Nat) (ch am : Int32) (x y z w : Int32) (hw : GW G) : MX l yX6_join cX6_join 8 (some .int) ⟨4, 0, 0, 111⟩ D (TYS tk) [.ref a, .int x, .int y, .int z, .int w] (lW a hL hT im bs rd hS sh kb rf ++ gW tk hL G d e ++ gW tk hT T td te ++ bW bs ch am) (fun (u : (Nat → Nat) × (Nat → Nat) × (Nat → Nat → Nat) × (Nat → Nat) × (Nat → Nat) × Int32 × Int32) => True) (fun u => some (.int (a_join (cgv G) x y z w))) (fun u => lW a hL hT im bs rd hS sh kb rf ++ gW tk hL G u.1 u.2.1 ++ gW tk hT u.2.2.1 u.2.2.2.1 u.2.2.2.2.1 ++ bW bs u.2.2.2.2.2.1 u.2.2.2.2.2.2) 0 0 := by
  refine MX.of_i (by decide) rfl ?_
  intro zp ze zs zm za zb zt zc zA zQ ls C0 hnm X hl hE
  have hx := C0.1
  have hb := C0.2.1
  have ht := C0.2.2.2.2.1
  have X : Hx D zA zs zs.heap [] (lW a hL hT im bs rd hS sh kb rf ++ gW tk hL G d e ++ gW tk hT T td te ++ bW bs ch am) := X
  have hl : lv_has ls 8 [(0, .ref a), (1, .int x), (2, .int y), (3, .int z), (4, .int w)] := hl
  obtain ⟨hw1, hw2, hw3, hw4, hw5, hw6, hw7, hw8⟩ := id hw
  obtain ⟨H, hH⟩ : ∃ H, H = zs.heap := ⟨_, rfl⟩
  rw [← hH] at X ⊢
  obtain ⟨locs, hlo⟩ : ∃ L : List Loc, L = [] := ⟨_, rfl⟩
  rw [← hlo] at X ⊢
  refine lv_aload_n hx hb dX6_join_0 rfl (lv_at hl 0 rfl) ?_
  refine g_get (v := .ref (hL 0)) C0 X kX6 0 0 tb200 rfl rfl rfl dX6_join_1 ?_
  refine lv_iload_n hx hb dX6_join_4 rfl (lv_at hl 1 rfl) ?_
  refine g_callV (As := [.int x]) (rest := []) (wr := (lW a hL hT im bs rd hS sh kb rf ++ gW tk hT T td te ++ bW bs ch am)) (C0.sz hl) X (c_X1_hasTree l D tk hL G d e x (by first | assumption | omega)) ⟨tb456, tb390, tb2, ⟨by decide, by decide, rfl⟩, rfl, rfl, Nat.le_of_ble_eq_true rfl, Nat.le_of_ble_eq_true rfl⟩ tb388 tb389 1 1 rfl rfl rfl rfl [1, 2, 3, 4, 5, 6, 7, 8, 9, 10] [0, 11, 12, 13, 14, 15, 16, 17, 18, 19, 20, 21] rfl rfl rfl rfl rfl (Nat.le_of_ble_eq_true rfl) ⟨Nat.le_of_ble_eq_true rfl, Nat.le_of_ble_eq_true rfl⟩ dX6_join_5 (fun _ H locs _ X => ?_)
  have X : Hx D zA zs H locs (lW a hL hT im bs rd hS sh kb rf ++ gW tk hT T td te ++ bW bs ch am ++ gW tk hL G d e) := X
  have X : Hx D zA zs H locs (lW a hL hT im bs rd hS sh kb rf ++ gW tk hL G d e ++ gW tk hT T td te ++ bW bs ch am) := X.sub [0, 12, 13, 14, 15, 16, 17, 18, 19, 20, 21, 1, 2, 3, 4, 5, 6, 7, 8, 9, 10, 11] rfl rfl
  refine g_ifeqB (x := ix x (G 8 0)) (tgt := 33) C0 dX6_join_8 rfl (fun c1 => ?_) (fun c2 => ?_)
  · refine lv_iconst (v := (-1)) hx hb dX6_join_33 (by decide) ?_
    exact hE (v := (-1)) (d, e, T, td, te, ch, am) (by simp [a_join, cg0, cg1, cg2, cg3, cg5, cg6, cg7, cg8, c1]) trivial X dX6_join_34
  · obtain ⟨xq, hk_xq, rfl⟩ := ix_sp c2
    refine lv_iload_n hx hb dX6_join_11 rfl (lv_at hl 2 rfl) ?_
    refine g_callS (As := [.int y]) (rest := []) (wr := (lW a hL hT im bs rd hS sh kb rf ++ gW tk hL G d e ++ gW tk hT T td te ++ bW bs ch am)) (C0.sz hl) X (c_X6_isBreath l D tk y) ⟨tb499, tb501, tb1, ⟨by decide, by decide, rfl⟩, rfl, rfl, Nat.le_of_ble_eq_true rfl, Nat.le_of_ble_eq_true rfl⟩ tb500 rfl [] [0, 1, 2, 3, 4, 5, 6, 7, 8, 9, 10, 11, 12, 13, 14, 15, 16, 17, 18, 19, 20, 21] rfl rfl rfl rfl rfl (Nat.le_of_ble_eq_true rfl) ⟨Nat.le_of_ble_eq_true rfl, Nat.le_of_ble_eq_true rfl⟩ dX6_join_12 (fun _ H locs _ X => ?_)
    have X : Hx D zA zs H locs (lW a hL hT im bs rd hS sh kb rf ++ gW tk hL G d e ++ gW tk hT T td te ++ bW bs ch am) := X
    refine g_ifeqB (x := rg y 1 60) (tgt := 33) C0 dX6_join_15 rfl (fun c3 => ?_) (fun c4 => ?_)
    · refine lv_iconst (v := (-1)) hx hb dX6_join_33 (by decide) ?_
      exact hE (v := (-1)) (d, e, T, td, te, ch, am) (by simp [a_join, cg0, cg1, cg2, cg3, cg5, cg6, cg7, cg8, c2, c3, tn_nI (k := xq) (by omega)]) trivial X dX6_join_34
    · obtain ⟨yq, hk_yqa, hk_yqb, hk_yqc, rfl⟩ := rg_sp c4
      refine lv_iload_n hx hb dX6_join_18 rfl (lv_at hl 3 rfl) ?_
      refine g_callS (As := [.int z]) (rest := []) (wr := (lW a hL hT im bs rd hS sh kb rf ++ gW tk hL G d e ++ gW tk hT T td te ++ bW bs ch am)) (C0.sz hl) X (c_X6_isLength l D tk z) ⟨tb514, tb516, tb1, ⟨by decide, by decide, rfl⟩, rfl, rfl, Nat.le_of_ble_eq_true rfl, Nat.le_of_ble_eq_true rfl⟩ tb515 rfl [] [0, 1, 2, 3, 4, 5, 6, 7, 8, 9, 10, 11, 12, 13, 14, 15, 16, 17, 18, 19, 20, 21] rfl rfl rfl rfl rfl (Nat.le_of_ble_eq_true rfl) ⟨Nat.le_of_ble_eq_true rfl, Nat.le_of_ble_eq_true rfl⟩ dX6_join_19 (fun _ H locs _ X => ?_)
      have X : Hx D zA zs H locs (lW a hL hT im bs rd hS sh kb rf ++ gW tk hL G d e ++ gW tk hT T td te ++ bW bs ch am) := X
      refine g_ifeqB (x := rg z 1 9) (tgt := 33) C0 dX6_join_22 rfl (fun c5 => ?_) (fun c6 => ?_)
      · refine lv_iconst (v := (-1)) hx hb dX6_join_33 (by decide) ?_
        exact hE (v := (-1)) (d, e, T, td, te, ch, am) (by simp [a_join, cg0, cg1, cg2, cg3, cg5, cg6, cg7, cg8, c2, c4, c5, tn_nI (k := xq) (by omega), tn_nI (k := yq) (by omega)]) trivial X dX6_join_34
      · obtain ⟨zq, hk_zqa, hk_zqb, hk_zqc, rfl⟩ := rg_sp c6
        refine lv_iload hx hb dX6_join_25 (lv_at hl 4 rfl) ?_
        refine g_callS (As := [.int w]) (rest := []) (wr := (lW a hL hT im bs rd hS sh kb rf ++ gW tk hL G d e ++ gW tk hT T td te ++ bW bs ch am)) (C0.sz hl) X (c_X6_isEither l D tk w) ⟨tb582, tb584, tb1, ⟨by decide, by decide, rfl⟩, rfl, rfl, Nat.le_of_ble_eq_true rfl, Nat.le_of_ble_eq_true rfl⟩ tb583 rfl [] [0, 1, 2, 3, 4, 5, 6, 7, 8, 9, 10, 11, 12, 13, 14, 15, 16, 17, 18, 19, 20, 21] rfl rfl rfl rfl rfl (Nat.le_of_ble_eq_true rfl) ⟨Nat.le_of_ble_eq_true rfl, Nat.le_of_ble_eq_true rfl⟩ dX6_join_27 (fun _ H locs _ X => ?_)
        have X : Hx D zA zs H locs (lW a hL hT im bs rd hS sh kb rf ++ gW tk hL G d e ++ gW tk hT T td te ++ bW bs ch am) := X
        refine g_ifneB (x := rg w 0 1) (tgt := 35) C0 dX6_join_30 rfl (fun c7 => ?_) (fun c8 => ?_)
        · obtain ⟨wq, hk_wqa, hk_wqb, hk_wqc, rfl⟩ := rg_sp c7
          refine lv_aload_n hx hb dX6_join_35 rfl (lv_at hl 0 rfl) ?_
          refine g_get (v := .ref (hL 0)) C0 X kX6 0 0 tb200 rfl rfl rfl dX6_join_36 ?_
          refine g_get (v := .int (nI (G 8 1))) C0 X kX1 1 2 tb39 rfl rfl rfl dX6_join_39 ?_
          refine g_bipush (n := 9) C0 (by decide) dX6_join_42 ?_
          refine g_icmp_ne (x := G 8 1) (y := 9) (tgt := 50) C0 (by omega) (by omega) dX6_join_44 rfl (fun c9 => ?_) (fun c10 => ?_)
          · refine lv_aload_n hx hb dX6_join_50 rfl (lv_at hl 0 rfl) ?_
            refine g_get (v := .ref bs) C0 X kX6 0 3 tb203 rfl rfl rfl dX6_join_51 ?_
            refine lv_aload_n hx hb dX6_join_54 rfl (lv_at hl 0 rfl) ?_
            refine g_get (v := .ref (hL 0)) C0 X kX6 0 0 tb200 rfl rfl rfl dX6_join_55 ?_
            refine g_get (v := .int (nI (G 8 0))) C0 X kX1 1 0 tb33 rfl rfl rfl dX6_join_58 ?_
            refine lv_aload_n hx hb dX6_join_61 rfl (lv_at hl 0 rfl) ?_
            refine g_get (v := .ref (hL 0)) C0 X kX6 0 0 tb200 rfl rfl rfl dX6_join_62 ?_
            refine lv_iload_n hx hb dX6_join_65 rfl (lv_at hl 1 rfl) ?_
            refine lv_iload_n hx hb dX6_join_66 rfl (lv_at hl 2 rfl) ?_
            refine g_callV (As := [.int (nI xq), .int (nI yq)]) (rest := [.int (nI (G 8 0)), .ref bs]) (wr := (lW a hL hT im bs rd hS sh kb rf ++ gW tk hT T td te ++ bW bs ch am)) (C0.sz hl) X (c_X1_hearers l D tk hL G d e xq yq (by first | assumption | omega) (by first | assumption | omega) (by first | assumption | omega)) ⟨tb486, tb489, tb2, ⟨by decide, by decide, rfl⟩, rfl, rfl, Nat.le_of_ble_eq_true rfl, Nat.le_of_ble_eq_true rfl⟩ tb487 tb488 1 1 rfl rfl rfl rfl [1, 2, 3, 4, 5, 6, 7, 8, 9, 10] [0, 11, 12, 13, 14, 15, 16, 17, 18, 19, 20, 21] rfl rfl rfl rfl rfl (Nat.le_of_ble_eq_true rfl) ⟨Nat.le_of_ble_eq_true rfl, Nat.le_of_ble_eq_true rfl⟩ dX6_join_67 (fun _ H locs _ X => ?_)
            have X : Hx D zA zs H locs (lW a hL hT im bs rd hS sh kb rf ++ gW tk hT T td te ++ bW bs ch am ++ gW tk hL G (dist (cgv G) xq) e) := X
            have X : Hx D zA zs H locs (lW a hL hT im bs rd hS sh kb rf ++ gW tk hL G (dist (cgv G) xq) e ++ gW tk hT T td te ++ bW bs ch am) := X.sub [0, 12, 13, 14, 15, 16, 17, 18, 19, 20, 21, 1, 2, 3, 4, 5, 6, 7, 8, 9, 10, 11] rfl rfl
            have hL1 := hearS_lt (cgv G) xq yq hw1
            have hP1 := pc_hear (cgv G) xq yq hw1
            have hP2 : pc (hearS (cgv G) xq yq) ≤ G 8 0 := hP1
            refine g_callS (As := [.int (nI (hearS (cgv G) xq yq))]) (rest := [.int (nI (G 8 0)), .ref bs]) (wr := (lW a hL hT im bs rd hS sh kb rf ++ gW tk hL G (dist (cgv G) xq) e ++ gW tk hT T td te ++ bW bs ch am)) (C0.sz hl) X (c_J6_bitCount_0f7a4 l D tk (hearS (cgv G) xq yq) (by first | assumption | omega)) ⟨tb605, tb607, tb16, ⟨by decide, by decide, rfl⟩, rfl, rfl, Nat.le_of_ble_eq_true rfl, Nat.le_of_ble_eq_true rfl⟩ tb606 rfl [] [0, 1, 2, 3, 4, 5, 6, 7, 8, 9, 10, 11, 12, 13, 14, 15, 16, 17, 18, 19, 20, 21] rfl rfl rfl rfl rfl (Nat.le_of_ble_eq_true rfl) ⟨Nat.le_of_ble_eq_true rfl, Nat.le_of_ble_eq_true rfl⟩ dX6_join_70 (fun _ H locs _ X => ?_)
            have X : Hx D zA zs H locs (lW a hL hT im bs rd hS sh kb rf ++ gW tk hL G (dist (cgv G) xq) e ++ gW tk hT T td te ++ bW bs ch am) := X
            refine g_isub (n := (G 8 0) - (pc (hearS (cgv G) xq yq))) C0 (by omega) rfl dX6_join_73 ?_
            refine g_callV (As := [.int (nI ((G 8 0) - (pc (hearS (cgv G) xq yq))))]) (rest := []) (wr := (lW a hL hT im bs rd hS sh kb rf ++ gW tk hL G (dist (cgv G) xq) e ++ gW tk hT T td te)) (C0.sz hl) X (c_X0_below l D tk bs ch am ((G 8 0) - (pc (hearS (cgv G) xq yq)))) ⟨tb585, tb588, tb3, ⟨by decide, by decide, rfl⟩, rfl, rfl, Nat.le_of_ble_eq_true rfl, Nat.le_of_ble_eq_true rfl⟩ tb586 tb587 21 0 rfl rfl rfl rfl [21] [0, 1, 2, 3, 4, 5, 6, 7, 8, 9, 10, 11, 12, 13, 14, 15, 16, 17, 18, 19, 20] rfl rfl rfl rfl rfl (Nat.le_of_ble_eq_true rfl) ⟨Nat.le_of_ble_eq_true rfl, Nat.le_of_ble_eq_true rfl⟩ dX6_join_74 (fun _ H locs _ X => ?_)
            have X : Hx D zA zs H locs (lW a hL hT im bs rd hS sh kb rf ++ gW tk hL G (dist (cgv G) xq) e ++ gW tk hT T td te ++ bW bs (-4) (nI ((G 8 0) - (pc (hearS (cgv G) xq yq))))) := X
            refine g_iconst (n := 0) C0 rfl dX6_join_77 ?_
            refine lv_istore (lv' := [(5, .int (nI 0)), (0, .ref a), (1, .int (nI xq)), (2, .int (nI yq)), (3, .int (nI zq)), (4, .int (nI wq))]) hx hb dX6_join_78 hl (by decide) rfl (fun ls hl => ?_)
            have J80 : ∀ (fz : Nat) (i : Nat) (ch1 : Int32) (am1 : Nat) (T1 : Nat → Nat → Nat) (d0 d1 e1 : Nat → Nat), G 8 0 - i < fz → ∀ (hi : i ≤ G 8 0) (hbf : (ch1, am1) = jout (cgv G) xq yq zq i) (H : Heap) (locs : List Loc) (ls : Array Slot), Hx D zA zs H locs (lW a hL hT im bs rd hS sh kb rf ++ gW tk hL G d0 e ++ gW tk hT T1 d1 e1 ++ bW bs ch1 (nI am1)) → lv_has ls 8 [(5, .int (nI i)), (0, .ref a), (1, .int (nI xq)), (2, .int (nI yq)), (3, .int (nI zq)), (4, .int (nI wq))] → W zp l ze ⟨4, 0, 0, 111⟩ zs zm za zb zt zc H locs 0 0 zQ (F0 zm 80 ls []) := by
              intro fz
              induction fz with
              | zero => intro i ch1 am1 T1 d0 d1 e1 hz; exact absurd hz (Nat.not_lt_zero _)
              | succ fz ih80 =>
                intro i ch1 am1 T1 d0 d1 e1 hz80 hi hbf H locs ls X hl
                refine lv_iload hx hb dX6_join_80 (lv_at hl 0 rfl) ?_
                refine lv_aload_n hx hb dX6_join_82 rfl (lv_at hl 1 rfl) ?_
                refine g_get (v := .ref (hL 0)) C0 X kX6 0 0 tb200 rfl rfl rfl dX6_join_83 ?_
                refine g_get (v := .int (nI (G 8 0))) C0 X kX1 1 0 tb33 rfl rfl rfl dX6_join_86 ?_
                refine g_icmp_ge (x := i) (y := G 8 0) (tgt := 185) C0 (by omega) (by omega) dX6_join_89 rfl (fun c11 => ?_) (fun c12 => ?_)
                · refine lv_iload hx hb dX6_join_185 (lv_at hl 5 rfl) ?_
                  refine g_ifeq (x := wq) (tgt := 200) C0 (by omega) dX6_join_187 rfl (fun c13 => ?_) (fun c14 => ?_)
                  · refine lv_aload_n hx hb dX6_join_200 rfl (lv_at hl 1 rfl) ?_
                    refine g_get (v := .ref bs) C0 X kX6 0 3 tb203 rfl rfl rfl dX6_join_201 ?_
                    refine g_iconst (n := 0) C0 rfl dX6_join_204 ?_
                    refine g_callV (As := [.int (nI 0)]) (rest := []) (wr := (lW a hL hT im bs rd hS sh kb rf ++ gW tk hL G d0 e ++ gW tk hT T1 d1 e1)) (C0.sz hl) X (c_X0_told l D tk bs ch1 am1 0 (by omega)) ⟨tb593, tb596, tb3, ⟨by decide, by decide, rfl⟩, rfl, rfl, Nat.le_of_ble_eq_true rfl, Nat.le_of_ble_eq_true rfl⟩ tb594 tb595 21 0 rfl rfl rfl rfl [21] [0, 1, 2, 3, 4, 5, 6, 7, 8, 9, 10, 11, 12, 13, 14, 15, 16, 17, 18, 19, 20] rfl rfl rfl rfl rfl (Nat.le_of_ble_eq_true rfl) ⟨Nat.le_of_ble_eq_true rfl, Nat.le_of_ble_eq_true rfl⟩ dX6_join_205 (fun _ H locs _ X => ?_)
                    have X : Hx D zA zs H locs (lW a hL hT im bs rd hS sh kb rf ++ gW tk hL G d0 e ++ gW tk hT T1 d1 e1 ++ bW bs ch1 (nI am1)) := X
                    refine lv_goto (tgt := 226) hx hb dX6_join_208 (by decide) ?_
                    exact hE (v := if 0 = 0 ∨ ch1 = -4 then ch1 else nI am1) (d0, e, T1, d1, e1, ch1, nI am1) (by simp only [a_join, cg0, cg1, cg2, cg3, cg5, cg6, cg7, cg8, c2, c4, c6, c7, tn_nI (k := xq) (by omega), tn_nI (k := yq) (by omega), tn_nI (k := zq) (by omega), tn_nI (k := wq) (by omega), Bool.and_self, if_true]; rw [if_neg (show ¬ G 8 1 = 9 by omega), show jout (cgv G) xq yq zq (G 8 0) = jout (cgv G) xq yq zq i by rw [show G 8 0 = i by omega], join_t hbf, if_pos (Or.inl c13), if_pos (show True ∨ ch1 = -4 from Or.inl trivial)]) trivial X dX6_join_226
                  · refine lv_aload_n hx hb dX6_join_190 rfl (lv_at hl 1 rfl) ?_
                    refine g_get (v := .ref bs) C0 X kX6 0 3 tb203 rfl rfl rfl dX6_join_191 ?_
                    refine g_callV (As := []) (rest := []) (wr := (lW a hL hT im bs rd hS sh kb rf ++ gW tk hL G d0 e ++ gW tk hT T1 d1 e1)) (C0.sz hl) X (c_X0_isNone l D tk bs ch1 am1) ⟨tb615, tb600, tb3, ⟨by decide, by decide, rfl⟩, rfl, rfl, Nat.le_of_ble_eq_true rfl, Nat.le_of_ble_eq_true rfl⟩ tb598 tb599 21 0 rfl rfl rfl rfl [21] [0, 1, 2, 3, 4, 5, 6, 7, 8, 9, 10, 11, 12, 13, 14, 15, 16, 17, 18, 19, 20] rfl rfl rfl rfl rfl (Nat.le_of_ble_eq_true rfl) ⟨Nat.le_of_ble_eq_true rfl, Nat.le_of_ble_eq_true rfl⟩ dX6_join_194 (fun _ H locs _ X => ?_)
                    have X : Hx D zA zs H locs (lW a hL hT im bs rd hS sh kb rf ++ gW tk hL G d0 e ++ gW tk hT T1 d1 e1 ++ bW bs ch1 (nI am1)) := X
                    refine g_ifeqB (x := decide (ch1 = -4)) (tgt := 211) C0 dX6_join_197 rfl (fun c15 => ?_) (fun c16 => ?_)
                    · refine lv_aload_n hx hb dX6_join_211 rfl (lv_at hl 1 rfl) ?_
                      refine g_get (v := .ref (hL 0)) C0 X kX6 0 0 tb200 rfl rfl rfl dX6_join_212 ?_
                      refine g_get (v := .int (nI (G 8 0))) C0 X kX1 1 0 tb33 rfl rfl rfl dX6_join_215 ?_
                      refine lv_aload_n hx hb dX6_join_218 rfl (lv_at hl 1 rfl) ?_
                      refine g_get (v := .ref bs) C0 X kX6 0 3 tb203 rfl rfl rfl dX6_join_219 ?_
                      refine g_get (v := .int (nI am1)) C0 X kX0 21 1 tb101 rfl rfl rfl dX6_join_222 ?_
                      have ha1 : am1 ≤ cgv G 8 0 := jout_am hbf
                      have ha1 : am1 ≤ G 8 0 := ha1
                      refine g_isub (n := (G 8 0) - am1) C0 (by omega) rfl dX6_join_225 ?_
                      exact hE (v := nI ((G 8 0) - am1)) (d0, e, T1, d1, e1, ch1, nI am1) (by simp only [a_join, cg0, cg1, cg2, cg3, cg5, cg6, cg7, cg8, c2, c4, c6, c7, tn_nI (k := xq) (by omega), tn_nI (k := yq) (by omega), tn_nI (k := zq) (by omega), tn_nI (k := wq) (by omega), Bool.and_self, if_true]; rw [if_neg (show ¬ G 8 1 = 9 by omega), show jout (cgv G) xq yq zq (G 8 0) = jout (cgv G) xq yq zq i by rw [show G 8 0 = i by omega], join_t hbf, if_neg (fun q => q.elim (by omega) (of_decide_eq_false c15)), show cgv G 8 0 = G 8 0 from rfl]) trivial X dX6_join_226
                    · refine lv_aload_n hx hb dX6_join_200 rfl (lv_at hl 1 rfl) ?_
                      refine g_get (v := .ref bs) C0 X kX6 0 3 tb203 rfl rfl rfl dX6_join_201 ?_
                      refine g_iconst (n := 0) C0 rfl dX6_join_204 ?_
                      refine g_callV (As := [.int (nI 0)]) (rest := []) (wr := (lW a hL hT im bs rd hS sh kb rf ++ gW tk hL G d0 e ++ gW tk hT T1 d1 e1)) (C0.sz hl) X (c_X0_told l D tk bs ch1 am1 0 (by omega)) ⟨tb593, tb596, tb3, ⟨by decide, by decide, rfl⟩, rfl, rfl, Nat.le_of_ble_eq_true rfl, Nat.le_of_ble_eq_true rfl⟩ tb594 tb595 21 0 rfl rfl rfl rfl [21] [0, 1, 2, 3, 4, 5, 6, 7, 8, 9, 10, 11, 12, 13, 14, 15, 16, 17, 18, 19, 20] rfl rfl rfl rfl rfl (Nat.le_of_ble_eq_true rfl) ⟨Nat.le_of_ble_eq_true rfl, Nat.le_of_ble_eq_true rfl⟩ dX6_join_205 (fun _ H locs _ X => ?_)
                      have X : Hx D zA zs H locs (lW a hL hT im bs rd hS sh kb rf ++ gW tk hL G d0 e ++ gW tk hT T1 d1 e1 ++ bW bs ch1 (nI am1)) := X
                      refine lv_goto (tgt := 226) hx hb dX6_join_208 (by decide) ?_
                      exact hE (v := if 0 = 0 ∨ ch1 = -4 then ch1 else nI am1) (d0, e, T1, d1, e1, ch1, nI am1) (by simp only [a_join, cg0, cg1, cg2, cg3, cg5, cg6, cg7, cg8, c2, c4, c6, c7, tn_nI (k := xq) (by omega), tn_nI (k := yq) (by omega), tn_nI (k := zq) (by omega), tn_nI (k := wq) (by omega), Bool.and_self, if_true]; rw [if_neg (show ¬ G 8 1 = 9 by omega), show jout (cgv G) xq yq zq (G 8 0) = jout (cgv G) xq yq zq i by rw [show G 8 0 = i by omega], join_t hbf, if_pos (Or.inr (of_decide_eq_true c16)), if_pos (show True ∨ ch1 = -4 from Or.inl trivial)]) trivial X dX6_join_226
                · refine lv_iload hx hb dX6_join_92 (lv_at hl 0 rfl) ?_
                  refine g_iconst (n := 1) C0 rfl dX6_join_94 ?_
                  refine g_iadd (n := i + 1) C0 (by first | rfl | omega) dX6_join_95 ?_
                  refine lv_istore (lv' := [(6, .int (nI (i + 1))), (5, .int (nI i)), (0, .ref a), (1, .int (nI xq)), (2, .int (nI yq)), (3, .int (nI zq)), (4, .int (nI wq))]) hx hb dX6_join_96 hl (by decide) rfl (fun ls hl => ?_)
                  have J98 : ∀ (fz : Nat) (j : Nat) (ch2 : Int32) (am2 : Nat) (T2 : Nat → Nat → Nat) (d2 e2 : Nat → Nat), G 8 0 - j < fz → ∀ (hj1 : i < j) (hj : j ≤ G 8 0) (hb2 : (ch2, am2) = jin (jx (cgv G) xq yq zq i) i (ch1, am1) j) (H : Heap) (locs : List Loc) (ls : Array Slot), Hx D zA zs H locs (lW a hL hT im bs rd hS sh kb rf ++ gW tk hL G d0 e ++ gW tk hT T2 d2 e2 ++ bW bs ch2 (nI am2)) → lv_has ls 8 [(6, .int (nI j)), (5, .int (nI i)), (0, .ref a), (1, .int (nI xq)), (2, .int (nI yq)), (3, .int (nI zq)), (4, .int (nI wq))] → W zp l ze ⟨4, 0, 0, 111⟩ zs zm za zb zt zc H locs 0 0 zQ (F0 zm 98 ls []) := by
                    intro fz
                    induction fz with
                    | zero => intro j ch2 am2 T2 d2 e2 hz; exact absurd hz (Nat.not_lt_zero _)
                    | succ fz ih98 =>
                      intro j ch2 am2 T2 d2 e2 hz98 hj1 hj hb2 H locs ls X hl
                      refine lv_iload hx hb dX6_join_98 (lv_at hl 0 rfl) ?_
                      refine lv_aload_n hx hb dX6_join_100 rfl (lv_at hl 2 rfl) ?_
                      refine g_get (v := .ref (hL 0)) C0 X kX6 0 0 tb200 rfl rfl rfl dX6_join_101 ?_
                      refine g_get (v := .int (nI (G 8 0))) C0 X kX1 1 0 tb33 rfl rfl rfl dX6_join_104 ?_
                      refine g_icmp_ge (x := j) (y := G 8 0) (tgt := 179) C0 (by omega) (by omega) dX6_join_107 rfl (fun c17 => ?_) (fun c18 => ?_)
                      · refine g_iinc (j := 1) (z := i + 1) (lv' := [(5, .int (nI (i + 1))), (6, .int (nI j)), (0, .ref a), (1, .int (nI xq)), (2, .int (nI yq)), (3, .int (nI zq)), (4, .int (nI wq))]) C0 rfl (by first | rfl | omega) dX6_join_179 hl (k := 1) rfl (by decide) rfl (fun ls hl => ?_)
                        refine lv_goto (tgt := 80) hx hb dX6_join_182 (by decide) ?_
                        exact ih80 (i + 1) ch2 am2 T2 d0 d2 e2 (by omega) (by omega) (by show (ch2, am2) = jin (jx (cgv G) xq yq zq i) i (jout (cgv G) xq yq zq i) (G 8 0); rw [← hbf, show G 8 0 = j by omega]; exact hb2) H locs ls X (lv_sub hl [0, 2, 3, 4, 5, 6] rfl)
                      · refine lv_aload_n hx hb dX6_join_110 rfl (lv_at hl 2 rfl) ?_
                        refine g_get (v := .ref (hT 0)) C0 X kX6 0 1 tb201 rfl rfl rfl dX6_join_111 ?_
                        refine lv_aload_n hx hb dX6_join_114 rfl (lv_at hl 2 rfl) ?_
                        refine g_get (v := .ref (hL 0)) C0 X kX6 0 0 tb200 rfl rfl rfl dX6_join_115 ?_
                        refine g_callV (As := [.ref (hL 0)]) (rest := []) (wr := (lW a hL hT im bs rd hS sh kb rf ++ bW bs ch2 (nI am2))) (C0.sz hl) X (c_X1_become l D tk hT T2 d2 e2 hL G d0 e) ⟨tb392, tb395, tb2, ⟨by decide, by decide, rfl⟩, rfl, rfl, Nat.le_of_ble_eq_true rfl, Nat.le_of_ble_eq_true rfl⟩ tb393 tb394 11 1 rfl rfl rfl rfl [11, 12, 13, 14, 15, 16, 17, 18, 19, 20, 1, 2, 3, 4, 5, 6, 7, 8, 9, 10] [0, 21] rfl rfl rfl rfl rfl (Nat.le_of_ble_eq_true rfl) ⟨Nat.le_of_ble_eq_true rfl, Nat.le_of_ble_eq_true rfl⟩ dX6_join_118 (fun _ H locs _ X => ?_)
                        have X : Hx D zA zs H locs (lW a hL hT im bs rd hS sh kb rf ++ bW bs ch2 (nI am2) ++ gW tk hT G d2 e2 ++ gW tk hL G d0 e) := X
                        have X : Hx D zA zs H locs (lW a hL hT im bs rd hS sh kb rf ++ gW tk hL G d0 e ++ gW tk hT G d2 e2 ++ bW bs ch2 (nI am2)) := X.sub [0, 12, 13, 14, 15, 16, 17, 18, 19, 20, 21, 2, 3, 4, 5, 6, 7, 8, 9, 10, 11, 1] rfl rfl
                        refine lv_aload_n hx hb dX6_join_121 rfl (lv_at hl 2 rfl) ?_
                        refine g_get (v := .ref (hT 0)) C0 X kX6 0 1 tb201 rfl rfl rfl dX6_join_122 ?_
                        refine lv_iload hx hb dX6_join_125 (lv_at hl 1 rfl) ?_
                        refine lv_iload hx hb dX6_join_127 (lv_at hl 0 rfl) ?_
                        refine lv_iload_n hx hb dX6_join_129 rfl (lv_at hl 5 rfl) ?_
                        refine g_callV (As := [.int (nI i), .int (nI j), .int (nI zq)]) (rest := []) (wr := (lW a hL hT im bs rd hS sh kb rf ++ gW tk hL G d0 e ++ bW bs ch2 (nI am2))) (C0.sz hl) X (c_X1_addRoot l D tk hT G d2 e2 i j zq (by first | assumption | omega)) ⟨tb521, tb368, tb2, ⟨by decide, by decide, rfl⟩, rfl, rfl, Nat.le_of_ble_eq_true rfl, Nat.le_of_ble_eq_true rfl⟩ tb366 tb367 11 1 rfl rfl rfl rfl [11, 12, 13, 14, 15, 16, 17, 18, 19, 20] [0, 1, 2, 3, 4, 5, 6, 7, 8, 9, 10, 21] rfl rfl rfl rfl rfl (Nat.le_of_ble_eq_true rfl) ⟨Nat.le_of_ble_eq_true rfl, Nat.le_of_ble_eq_true rfl⟩ dX6_join_130 (fun _ H locs _ X => ?_)
                        have X : Hx D zA zs H locs (lW a hL hT im bs rd hS sh kb rf ++ gW tk hL G d0 e ++ bW bs ch2 (nI am2) ++ gW tk hT (u2 (u2 (u2 (u2 G 1 (G 8 1) i) 2 (G 8 1) j) 3 (G 8 1) zq) 8 1 (G 8 1 + 1)) d2 e2) := X
                        have X : Hx D zA zs H locs (lW a hL hT im bs rd hS sh kb rf ++ gW tk hL G d0 e ++ gW tk hT (u2 (u2 (u2 (u2 G 1 (G 8 1) i) 2 (G 8 1) j) 3 (G 8 1) zq) 8 1 (G 8 1 + 1)) d2 e2 ++ bW bs ch2 (nI am2)) := X.sub [0, 1, 2, 3, 4, 5, 6, 7, 8, 9, 10, 12, 13, 14, 15, 16, 17, 18, 19, 20, 21, 11] rfl rfl
                        refine lv_pop hx hb dX6_join_133 rfl ?_
                        refine lv_aload_n hx hb dX6_join_134 rfl (lv_at hl 2 rfl) ?_
                        refine g_get (v := .ref (hT 0)) C0 X kX6 0 1 tb201 rfl rfl rfl dX6_join_135 ?_
                        refine lv_iload_n hx hb dX6_join_138 rfl (lv_at hl 3 rfl) ?_
                        refine lv_iload_n hx hb dX6_join_139 rfl (lv_at hl 4 rfl) ?_
                        refine g_callV (As := [.int (nI xq), .int (nI yq)]) (rest := []) (wr := (lW a hL hT im bs rd hS sh kb rf ++ gW tk hL G d0 e ++ bW bs ch2 (nI am2))) (C0.sz hl) X (c_X1_hearers l D tk hT (u2 (u2 (u2 (u2 G 1 (G 8 1) i) 2 (G 8 1) j) 3 (G 8 1) zq) 8 1 (G 8 1 + 1)) d2 e2 xq yq (by exact hw.grow (by omega) (by omega) (by omega) (by omega) ⟨by omega, by omega⟩) (by exact (show xq < G 8 0 by omega)) (by omega)) ⟨tb486, tb489, tb2, ⟨by decide, by decide, rfl⟩, rfl, rfl, Nat.le_of_ble_eq_true rfl, Nat.le_of_ble_eq_true rfl⟩ tb487 tb488 11 1 rfl rfl rfl rfl [11, 12, 13, 14, 15, 16, 17, 18, 19, 20] [0, 1, 2, 3, 4, 5, 6, 7, 8, 9, 10, 21] rfl rfl rfl rfl rfl (Nat.le_of_ble_eq_true rfl) ⟨Nat.le_of_ble_eq_true rfl, Nat.le_of_ble_eq_true rfl⟩ dX6_join_140 (fun _ H locs _ X => ?_)
                        have X : Hx D zA zs H locs (lW a hL hT im bs rd hS sh kb rf ++ gW tk hL G d0 e ++ bW bs ch2 (nI am2) ++ gW tk hT (u2 (u2 (u2 (u2 G 1 (G 8 1) i) 2 (G 8 1) j) 3 (G 8 1) zq) 8 1 (G 8 1 + 1)) (dist (cgv (u2 (u2 (u2 (u2 G 1 (G 8 1) i) 2 (G 8 1) j) 3 (G 8 1) zq) 8 1 (G 8 1 + 1))) xq) e2) := X
                        have X : Hx D zA zs H locs (lW a hL hT im bs rd hS sh kb rf ++ gW tk hL G d0 e ++ gW tk hT (u2 (u2 (u2 (u2 G 1 (G 8 1) i) 2 (G 8 1) j) 3 (G 8 1) zq) 8 1 (G 8 1 + 1)) (dist (cgv (u2 (u2 (u2 (u2 G 1 (G 8 1) i) 2 (G 8 1) j) 3 (G 8 1) zq) 8 1 (G 8 1 + 1))) xq) e2 ++ bW bs ch2 (nI am2)) := X.sub [0, 1, 2, 3, 4, 5, 6, 7, 8, 9, 10, 12, 13, 14, 15, 16, 17, 18, 19, 20, 21, 11] rfl rfl
                        have hL2 := hearS_lt (cgv (u2 (u2 (u2 (u2 G 1 (G 8 1) i) 2 (G 8 1) j) 3 (G 8 1) zq) 8 1 (G 8 1 + 1))) xq yq hw1
                        have hP3 : pc (hearS (cgv (u2 (u2 (u2 (u2 G 1 (G 8 1) i) 2 (G 8 1) j) 3 (G 8 1) zq) 8 1 (G 8 1 + 1))) xq yq) ≤ G 8 0 := pc_hear _ xq yq hw1
                        refine g_callS (As := [.int (nI (hearS (cgv (u2 (u2 (u2 (u2 G 1 (G 8 1) i) 2 (G 8 1) j) 3 (G 8 1) zq) 8 1 (G 8 1 + 1))) xq yq))]) (rest := []) (wr := (lW a hL hT im bs rd hS sh kb rf ++ gW tk hL G d0 e ++ gW tk hT (u2 (u2 (u2 (u2 G 1 (G 8 1) i) 2 (G 8 1) j) 3 (G 8 1) zq) 8 1 (G 8 1 + 1)) (dist (cgv (u2 (u2 (u2 (u2 G 1 (G 8 1) i) 2 (G 8 1) j) 3 (G 8 1) zq) 8 1 (G 8 1 + 1))) xq) e2 ++ bW bs ch2 (nI am2))) (C0.sz hl) X (c_J6_bitCount_0f7a4 l D tk (hearS (cgv (u2 (u2 (u2 (u2 G 1 (G 8 1) i) 2 (G 8 1) j) 3 (G 8 1) zq) 8 1 (G 8 1 + 1))) xq yq) (by first | assumption | omega)) ⟨tb605, tb607, tb16, ⟨by decide, by decide, rfl⟩, rfl, rfl, Nat.le_of_ble_eq_true rfl, Nat.le_of_ble_eq_true rfl⟩ tb606 rfl [] [0, 1, 2, 3, 4, 5, 6, 7, 8, 9, 10, 11, 12, 13, 14, 15, 16, 17, 18, 19, 20, 21] rfl rfl rfl rfl rfl (Nat.le_of_ble_eq_true rfl) ⟨Nat.le_of_ble_eq_true rfl, Nat.le_of_ble_eq_true rfl⟩ dX6_join_143 (fun _ H locs _ X => ?_)
                        have X : Hx D zA zs H locs (lW a hL hT im bs rd hS sh kb rf ++ gW tk hL G d0 e ++ gW tk hT (u2 (u2 (u2 (u2 G 1 (G 8 1) i) 2 (G 8 1) j) 3 (G 8 1) zq) 8 1 (G 8 1 + 1)) (dist (cgv (u2 (u2 (u2 (u2 G 1 (G 8 1) i) 2 (G 8 1) j) 3 (G 8 1) zq) 8 1 (G 8 1 + 1))) xq) e2 ++ bW bs ch2 (nI am2)) := X
                        refine lv_istore (lv' := [(7, .int (nI (pc (hearS (cgv (u2 (u2 (u2 (u2 G 1 (G 8 1) i) 2 (G 8 1) j) 3 (G 8 1) zq) 8 1 (G 8 1 + 1))) xq yq)))), (6, .int (nI j)), (5, .int (nI i)), (0, .ref a), (1, .int (nI xq)), (2, .int (nI yq)), (3, .int (nI zq)), (4, .int (nI wq))]) hx hb dX6_join_146 hl (by decide) rfl (fun ls hl => ?_)
                        refine lv_aload_n hx hb dX6_join_148 rfl (lv_at hl 3 rfl) ?_
                        refine g_get (v := .ref bs) C0 X kX6 0 3 tb203 rfl rfl rfl dX6_join_149 ?_
                        refine g_bipush (n := 10) C0 (by decide) dX6_join_152 ?_
                        refine lv_iload hx hb dX6_join_154 (lv_at hl 2 rfl) ?_
                        refine g_imul (n := 10 * i) C0 rfl dX6_join_156 ?_
                        refine lv_iload hx hb dX6_join_157 (lv_at hl 1 rfl) ?_
                        refine g_iadd (n := (10 * i) + j) C0 (by first | rfl | omega) dX6_join_159 ?_
                        refine lv_aload_n hx hb dX6_join_160 rfl (lv_at hl 3 rfl) ?_
                        refine g_get (v := .ref (hL 0)) C0 X kX6 0 0 tb200 rfl rfl rfl dX6_join_161 ?_
                        refine g_get (v := .int (nI (G 8 0))) C0 X kX1 1 0 tb33 rfl rfl rfl dX6_join_164 ?_
                        refine lv_iload hx hb dX6_join_167 (lv_at hl 0 rfl) ?_
                        refine g_isub (n := (G 8 0) - (pc (hearS (cgv (u2 (u2 (u2 (u2 G 1 (G 8 1) i) 2 (G 8 1) j) 3 (G 8 1) zq) 8 1 (G 8 1 + 1))) xq yq))) C0 (by omega) rfl dX6_join_169 ?_
                        have ha3 := jin_am hb2
                        have ha1 : am1 ≤ cgv G 8 0 := jout_am hbf
                        have ha1 : am1 ≤ G 8 0 := ha1
                        refine g_callV (As := [.int (nI ((10 * i) + j)), .int (nI ((G 8 0) - (pc (hearS (cgv (u2 (u2 (u2 (u2 G 1 (G 8 1) i) 2 (G 8 1) j) 3 (G 8 1) zq) 8 1 (G 8 1 + 1))) xq yq))))]) (rest := []) (wr := (lW a hL hT im bs rd hS sh kb rf ++ gW tk hL G d0 e ++ gW tk hT (u2 (u2 (u2 (u2 G 1 (G 8 1) i) 2 (G 8 1) j) 3 (G 8 1) zq) 8 1 (G 8 1 + 1)) (dist (cgv (u2 (u2 (u2 (u2 G 1 (G 8 1) i) 2 (G 8 1) j) 3 (G 8 1) zq) 8 1 (G 8 1 + 1))) xq) e2)) (C0.sz hl) X (c_X0_offer l D tk bs ch2 am2 ((10 * i) + j) ((G 8 0) - (pc (hearS (cgv (u2 (u2 (u2 (u2 G 1 (G 8 1) i) 2 (G 8 1) j) 3 (G 8 1) zq) 8 1 (G 8 1 + 1))) xq yq))) (by first | assumption | omega) (by first | assumption | omega)) ⟨tb589, tb592, tb3, ⟨by decide, by decide, rfl⟩, rfl, rfl, Nat.le_of_ble_eq_true rfl, Nat.le_of_ble_eq_true rfl⟩ tb590 tb591 21 0 rfl rfl rfl rfl [21] [0, 1, 2, 3, 4, 5, 6, 7, 8, 9, 10, 11, 12, 13, 14, 15, 16, 17, 18, 19, 20] rfl rfl rfl rfl rfl (Nat.le_of_ble_eq_true rfl) ⟨Nat.le_of_ble_eq_true rfl, Nat.le_of_ble_eq_true rfl⟩ dX6_join_170 (fun _ H locs _ X => ?_)
                        have X : Hx D zA zs H locs (lW a hL hT im bs rd hS sh kb rf ++ gW tk hL G d0 e ++ gW tk hT (u2 (u2 (u2 (u2 G 1 (G 8 1) i) 2 (G 8 1) j) 3 (G 8 1) zq) 8 1 (G 8 1 + 1)) (dist (cgv (u2 (u2 (u2 (u2 G 1 (G 8 1) i) 2 (G 8 1) j) 3 (G 8 1) zq) 8 1 (G 8 1 + 1))) xq) e2 ++ bW bs (if ((G 8 0) - (pc (hearS (cgv (u2 (u2 (u2 (u2 G 1 (G 8 1) i) 2 (G 8 1) j) 3 (G 8 1) zq) 8 1 (G 8 1 + 1))) xq yq))) < am2 then nI ((10 * i) + j) else ch2) (nI (if ((G 8 0) - (pc (hearS (cgv (u2 (u2 (u2 (u2 G 1 (G 8 1) i) 2 (G 8 1) j) 3 (G 8 1) zq) 8 1 (G 8 1 + 1))) xq yq))) < am2 then ((G 8 0) - (pc (hearS (cgv (u2 (u2 (u2 (u2 G 1 (G 8 1) i) 2 (G 8 1) j) 3 (G 8 1) zq) 8 1 (G 8 1 + 1))) xq yq))) else am2))) := X
                        refine g_iinc (j := 1) (z := j + 1) (lv' := [(6, .int (nI (j + 1))), (7, .int (nI (pc (hearS (cgv (u2 (u2 (u2 (u2 G 1 (G 8 1) i) 2 (G 8 1) j) 3 (G 8 1) zq) 8 1 (G 8 1 + 1))) xq yq)))), (5, .int (nI i)), (0, .ref a), (1, .int (nI xq)), (2, .int (nI yq)), (3, .int (nI zq)), (4, .int (nI wq))]) C0 rfl (by first | rfl | omega) dX6_join_173 hl (k := 1) rfl (by decide) rfl (fun ls hl => ?_)
                        refine lv_goto (tgt := 98) hx hb dX6_join_176 (by decide) ?_
                        exact ih98 (j + 1) (if ((G 8 0) - (pc (hearS (cgv (u2 (u2 (u2 (u2 G 1 (G 8 1) i) 2 (G 8 1) j) 3 (G 8 1) zq) 8 1 (G 8 1 + 1))) xq yq))) < am2 then nI ((10 * i) + j) else ch2) (if ((G 8 0) - (pc (hearS (cgv (u2 (u2 (u2 (u2 G 1 (G 8 1) i) 2 (G 8 1) j) 3 (G 8 1) zq) 8 1 (G 8 1 + 1))) xq yq))) < am2 then ((G 8 0) - (pc (hearS (cgv (u2 (u2 (u2 (u2 G 1 (G 8 1) i) 2 (G 8 1) j) 3 (G 8 1) zq) 8 1 (G 8 1 + 1))) xq yq))) else am2) (u2 (u2 (u2 (u2 G 1 (G 8 1) i) 2 (G 8 1) j) 3 (G 8 1) zq) 8 1 (G 8 1 + 1)) (dist (cgv (u2 (u2 (u2 (u2 G 1 (G 8 1) i) 2 (G 8 1) j) 3 (G 8 1) zq) 8 1 (G 8 1 + 1))) xq) e2 (by omega) (by omega) (by omega) (by exact jin_s (by omega) (by rw [cgv_grow hw]; rfl) hb2) H locs ls X (lv_sub hl [0, 2, 3, 4, 5, 6, 7] rfl)
                  exact J98 ((G 8 0 - (i + 1)) + 1) (i + 1) ch1 am1 T1 d1 e1 (Nat.lt_succ_self _) (by omega) (by omega) (by exact (jin_0 _ _ _ _ (Nat.le_refl _)).symm) H locs ls X (lv_sub hl [0, 1, 2, 3, 4, 5, 6] rfl)
            exact J80 ((G 8 0 - 0) + 1) 0 (-4) ((G 8 0) - (pc (hearS (cgv G) xq yq))) T (dist (cgv G) xq) td te (Nat.lt_succ_self _) (by omega) (by rfl) H locs ls X (lv_sub hl [0, 1, 2, 3, 4, 5] rfl)
          · refine lv_bipush (v := (-3)) hx hb dX6_join_47 (by decide) ?_
            exact hE (v := (-3)) (d, e, T, td, te, ch, am) (by simp [a_join, cg0, cg1, cg2, cg3, cg5, cg6, cg7, cg8, c2, c4, c6, c7, c10, tn_nI (k := xq) (by omega), tn_nI (k := yq) (by omega), tn_nI (k := zq) (by omega), tn_nI (k := wq) (by omega)]) trivial X dX6_join_49
        · refine lv_iconst (v := (-1)) hx hb dX6_join_33 (by decide) ?_
          exact hE (v := (-1)) (d, e, T, td, te, ch, am) (by simp [a_join, cg0, cg1, cg2, cg3, cg5, cg6, cg7, cg8, c2, c4, c6, c8, tn_nI (k := xq) (by omega), tn_nI (k := yq) (by omega), tn_nI (k := zq) (by omega)]) trivial X dX6_join_34
set_option maxHeartbeats 4000000 in
set_option maxRecDepth 100000 in
theorem c_X6_meanHearers (l : Launch) (D : va_G) (tk : Nat → ClassId) (a : Nat) (hL hT : Nat → Nat) (im bs rd : Nat) (hS : Nat → Nat) (sh kb rf : Nat) (G : Nat → Nat → Nat) (d e : Nat → Nat) (T : Nat → Nat → Nat) (td te : Nat → Nat) (q t b am w : Nat) (hw : GW G) (hq : q ≤ 10) (ht0 : t < G 8 0) (hb3 : b ≤ 60) (hwl : w < 2 ^ 31) : MX l yX6_meanHearers cX6_meanHearers 13 (some .long) ⟨4, 0, 0, 111⟩ D (TYS tk) [.ref a, .int (nI q), .int (nI t), .int (nI b), .int (nI am), .int (nI w)] (lW a hL hT im bs rd hS sh kb rf ++ gW tk hL G d e ++ gW tk hT T td te) (fun (u : (Nat → Nat) × (Nat → Nat) × (Nat → Nat → Nat) × (Nat → Nat) × (Nat → Nat)) => True) (fun u => some (.long (meanS (cgv G) q t b am w))) (fun u => lW a hL hT im bs rd hS sh kb rf ++ gW tk hL G u.1 u.2.1 ++ gW tk hT u.2.2.1 u.2.2.2.1 u.2.2.2.2) 0 0 := by
  refine MX.of_l (by decide) rfl ?_
  intro zp ze zs zm za zb zt zc zA zQ ls C0 hnm X hl hE
  have hx := C0.1
  have hb := C0.2.1
  have ht := C0.2.2.2.2.1
  have X : Hx D zA zs zs.heap [] (lW a hL hT im bs rd hS sh kb rf ++ gW tk hL G d e ++ gW tk hT T td te) := X
  have hl : lv_has ls 13 [(0, .ref a), (1, .int (nI q)), (2, .int (nI t)), (3, .int (nI b)), (4, .int (nI am)), (5, .int (nI w))] := hl
  obtain ⟨hw1, hw2, hw3, hw4, hw5, hw6, hw7, hw8⟩ := id hw
  have hw0 := hw.cut
  have hpw := Nat.pow_le_pow_right (n := 2) (by decide) hw2
  have hpk := pc_lt (x := G 4 0) (r := G 8 1) (by omega) hw5
  have hup := upS_lt (v := cgv G) (q := q) (t := t) (b := b) (am := am) hq hw2
  have hdn := downS_bd (v := cgv G) hw2
  obtain ⟨H, hH⟩ : ∃ H, H = zs.heap := ⟨_, rfl⟩
  rw [← hH] at X ⊢
  obtain ⟨locs, hlo⟩ : ∃ L : List Loc, L = [] := ⟨_, rfl⟩
  rw [← hlo] at X ⊢
  refine lv_aload_n hx hb dX6_meanHearers_0 rfl (lv_at hl 0 rfl) ?_
  refine g_get (v := .ref (hL 0)) C0 X kX6 0 0 tb200 rfl rfl rfl dX6_meanHearers_1 ?_
  refine g_get (v := .int (nI (G 8 1))) C0 X kX1 1 2 tb39 rfl rfl rfl dX6_meanHearers_4 ?_
  refine lv_aload_n hx hb dX6_meanHearers_7 rfl (lv_at hl 0 rfl) ?_
  refine g_get (v := .ref (hL 0)) C0 X kX6 0 0 tb200 rfl rfl rfl dX6_meanHearers_8 ?_
  refine g_get (v := .int (nI (G 4 0))) C0 X kX1 1 6 tb47 rfl rfl rfl dX6_meanHearers_11 ?_
  refine g_callS (As := [.int (nI (G 4 0))]) (rest := [.int (nI (G 8 1))]) (wr := (lW a hL hT im bs rd hS sh kb rf ++ gW tk hL G d e ++ gW tk hT T td te)) (C0.sz hl) X (c_J6_bitCount_0f7a4 l D tk (G 4 0) (by first | assumption | omega)) ⟨tb605, tb607, tb16, ⟨by decide, by decide, rfl⟩, rfl, rfl, Nat.le_of_ble_eq_true rfl, Nat.le_of_ble_eq_true rfl⟩ tb606 rfl [] [0, 1, 2, 3, 4, 5, 6, 7, 8, 9, 10, 11, 12, 13, 14, 15, 16, 17, 18, 19, 20] rfl rfl rfl rfl rfl (Nat.le_of_ble_eq_true rfl) ⟨Nat.le_of_ble_eq_true rfl, Nat.le_of_ble_eq_true rfl⟩ dX6_meanHearers_14 (fun _ H locs _ X => ?_)
  have X : Hx D zA zs H locs (lW a hL hT im bs rd hS sh kb rf ++ gW tk hL G d e ++ gW tk hT T td te) := X
  refine g_isub (n := (G 8 1) - (pc (G 4 0))) C0 (by omega) rfl dX6_meanHearers_17 ?_
  refine lv_istore (lv' := [(6, .int (nI ((G 8 1) - (pc (G 4 0))))), (0, .ref a), (1, .int (nI q)), (2, .int (nI t)), (3, .int (nI b)), (4, .int (nI am)), (5, .int (nI w))]) hx hb dX6_meanHearers_18 hl (by decide) rfl (fun ls hl => ?_)
  refine g_lconst (n := 0) C0 rfl dX6_meanHearers_20 ?_
  refine lv_lstore (lv' := [(7, .long (lN 0)), (6, .int (nI ((G 8 1) - (pc (G 4 0))))), (0, .ref a), (1, .int (nI q)), (2, .int (nI t)), (3, .int (nI b)), (4, .int (nI am)), (5, .int (nI w))]) hx hb dX6_meanHearers_21 hl (by decide) rfl (fun ls hl => ?_)
  refine lv_aload_n hx hb dX6_meanHearers_23 rfl (lv_at hl 2 rfl) ?_
  refine g_get (v := .ref (hT 0)) C0 X kX6 0 1 tb201 rfl rfl rfl dX6_meanHearers_24 ?_
  refine lv_aload_n hx hb dX6_meanHearers_27 rfl (lv_at hl 2 rfl) ?_
  refine g_get (v := .ref (hL 0)) C0 X kX6 0 0 tb200 rfl rfl rfl dX6_meanHearers_28 ?_
  refine g_callV (As := [.ref (hL 0)]) (rest := []) (wr := (lW a hL hT im bs rd hS sh kb rf)) (C0.sz hl) X (c_X1_become l D tk hT T td te hL G d e) ⟨tb392, tb395, tb2, ⟨by decide, by decide, rfl⟩, rfl, rfl, Nat.le_of_ble_eq_true rfl, Nat.le_of_ble_eq_true rfl⟩ tb393 tb394 11 1 rfl rfl rfl rfl [11, 12, 13, 14, 15, 16, 17, 18, 19, 20, 1, 2, 3, 4, 5, 6, 7, 8, 9, 10] [0] rfl rfl rfl rfl rfl (Nat.le_of_ble_eq_true rfl) ⟨Nat.le_of_ble_eq_true rfl, Nat.le_of_ble_eq_true rfl⟩ dX6_meanHearers_31 (fun _ H locs _ X => ?_)
  have X : Hx D zA zs H locs (lW a hL hT im bs rd hS sh kb rf ++ gW tk hT G td te ++ gW tk hL G d e) := X
  have X : Hx D zA zs H locs (lW a hL hT im bs rd hS sh kb rf ++ gW tk hL G d e ++ gW tk hT G td te) := X.sub [0, 11, 12, 13, 14, 15, 16, 17, 18, 19, 20, 1, 2, 3, 4, 5, 6, 7, 8, 9, 10] rfl rfl
  refine g_iconst (n := 0) C0 rfl dX6_meanHearers_34 ?_
  refine lv_istore (lv' := [(9, .int (nI 0)), (7, .long (lN 0)), (6, .int (nI ((G 8 1) - (pc (G 4 0))))), (0, .ref a), (1, .int (nI q)), (2, .int (nI t)), (3, .int (nI b)), (4, .int (nI am)), (5, .int (nI w))]) hx hb dX6_meanHearers_35 hl (by decide) rfl (fun ls hl => ?_)
  have J37 : ∀ (fz : Nat) (i sm cb : Nat) (d1 e1 : Nat → Nat), 2 ^ G 8 1 - i < fz → ∀ (hi : i ≤ 2 ^ G 8 1) (hsm : sm = nsum (luckF (cgv G) q t b am) i) (H : Heap) (locs : List Loc) (ls : Array Slot), Hx D zA zs H locs (lW a hL hT im bs rd hS sh kb rf ++ gW tk hL G d e ++ gW tk hT (u2 G 4 0 cb) d1 e1) → lv_has ls 13 [(9, .int (nI i)), (7, .long (lN sm)), (6, .int (nI ((G 8 1) - (pc (G 4 0))))), (0, .ref a), (1, .int (nI q)), (2, .int (nI t)), (3, .int (nI b)), (4, .int (nI am)), (5, .int (nI w))] → W zp l ze ⟨4, 0, 0, 111⟩ zs zm za zb zt zc H locs 0 0 zQ (F0 zm 37 ls []) := by
    intro fz
    induction fz with
    | zero => intro i sm cb d1 e1 hz; exact absurd hz (Nat.not_lt_zero _)
    | succ fz ih37 =>
      intro i sm cb d1 e1 hz37 hi hsm H locs ls X hl
      refine lv_iload hx hb dX6_meanHearers_37 (lv_at hl 0 rfl) ?_
      refine g_iconst (n := 1) C0 rfl dX6_meanHearers_39 ?_
      refine lv_aload_n hx hb dX6_meanHearers_40 rfl (lv_at hl 3 rfl) ?_
      refine g_get (v := .ref (hL 0)) C0 X kX6 0 0 tb200 rfl rfl rfl dX6_meanHearers_41 ?_
      refine g_get (v := .int (nI (G 8 1))) C0 X kX1 1 2 tb39 rfl rfl rfl dX6_meanHearers_44 ?_
      refine g_ishl (n := 2 ^ (G 8 1)) C0 (by exact sh_ok (by omega)) (by first | exact Nat.one_mul _ | rfl) dX6_meanHearers_47 ?_
      refine g_icmp_ge (x := i) (y := 2 ^ (G 8 1)) (tgt := 146) C0 (by first | omega | exact sh_31 (by omega)) (by first | omega | exact sh_31 (by omega)) dX6_meanHearers_48 rfl (fun c1 => ?_) (fun c2 => ?_)
      · have hsu : sm = upS (cgv G) q t b am := by rw [hsm, show i = 2 ^ G 8 1 by omega]; rfl
        refine g_bipush (n := 10) C0 (by decide) dX6_meanHearers_146 ?_
        refine lv_iload hx hb dX6_meanHearers_148 (lv_at hl 2 rfl) ?_
        refine g_callS (As := [.int (nI 10), .int (nI ((G 8 1) - (pc (G 4 0))))]) (rest := []) (wr := (lW a hL hT im bs rd hS sh kb rf ++ gW tk hL G d e ++ gW tk hT (u2 G 4 0 cb) d1 e1)) (C0.sz hl) X (c_X6_power l D tk 10 ((G 8 1) - (pc (G 4 0))) (by first | assumption | omega) (by first | assumption | omega)) ⟨tb649, tb651, tb1, ⟨by decide, by decide, rfl⟩, rfl, rfl, Nat.le_of_ble_eq_true rfl, Nat.le_of_ble_eq_true rfl⟩ tb650 rfl [] [0, 1, 2, 3, 4, 5, 6, 7, 8, 9, 10, 11, 12, 13, 14, 15, 16, 17, 18, 19, 20] rfl rfl rfl rfl rfl (Nat.le_of_ble_eq_true rfl) ⟨Nat.le_of_ble_eq_true rfl, Nat.le_of_ble_eq_true rfl⟩ dX6_meanHearers_150 (fun _ H locs _ X => ?_)
        have X : Hx D zA zs H locs (lW a hL hT im bs rd hS sh kb rf ++ gW tk hL G d e ++ gW tk hT (u2 G 4 0 cb) d1 e1) := X
        rw [← down_w hw]
        have hgl := Nat.gcd_le_right sm (show 0 < downS (cgv G) by omega)
        have hgp := Nat.gcd_pos_of_pos_right sm (show 0 < downS (cgv G) by omega)
        refine lv_lstore (lv' := [(9, .long (lN (downS (cgv G)))), (7, .long (lN sm)), (6, .int (nI ((G 8 1) - (pc (G 4 0))))), (0, .ref a), (1, .int (nI q)), (2, .int (nI t)), (3, .int (nI b)), (4, .int (nI am)), (5, .int (nI w))]) hx hb dX6_meanHearers_153 hl (by decide) rfl (fun ls hl => ?_)
        refine g_lconst (n := 1) C0 rfl dX6_meanHearers_155 ?_
        refine lv_lload hx hb dX6_meanHearers_156 (lv_at hl 1 rfl) ?_
        refine lv_lload hx hb dX6_meanHearers_158 (lv_at hl 0 rfl) ?_
        refine g_callS (As := [.long (lN sm), .long (lN (downS (cgv G)))]) (rest := [.long (lN 1)]) (wr := (lW a hL hT im bs rd hS sh kb rf ++ gW tk hL G d e ++ gW tk hT (u2 G 4 0 cb) d1 e1)) (C0.sz hl) X (c_X6_commonDivisor l D tk sm (downS (cgv G)) (by first | assumption | omega) (by first | assumption | omega)) ⟨tb652, tb654, tb1, ⟨by decide, by decide, rfl⟩, rfl, rfl, Nat.le_of_ble_eq_true rfl, Nat.le_of_ble_eq_true rfl⟩ tb653 rfl [] [0, 1, 2, 3, 4, 5, 6, 7, 8, 9, 10, 11, 12, 13, 14, 15, 16, 17, 18, 19, 20] rfl rfl rfl rfl rfl (Nat.le_of_ble_eq_true rfl) ⟨Nat.le_of_ble_eq_true rfl, Nat.le_of_ble_eq_true rfl⟩ dX6_meanHearers_160 (fun _ H locs _ X => ?_)
        have X : Hx D zA zs H locs (lW a hL hT im bs rd hS sh kb rf ++ gW tk hL G d e ++ gW tk hT (u2 G 4 0 cb) d1 e1) := X
        refine g_maxL C0 hl tb655 tb656 tb15 tb657 (by omega) ⟨rfl, rfl, rfl, rfl⟩ dX6_meanHearers_163 ?_
        rw [show max 1 (Nat.gcd sm (downS (cgv G))) = Nat.gcd sm (downS (cgv G)) from Nat.max_eq_right (by omega)]
        refine lv_lstore (lv' := [(11, .long (lN (Nat.gcd sm (downS (cgv G))))), (9, .long (lN (downS (cgv G)))), (7, .long (lN sm)), (6, .int (nI ((G 8 1) - (pc (G 4 0))))), (0, .ref a), (1, .int (nI q)), (2, .int (nI t)), (3, .int (nI b)), (4, .int (nI am)), (5, .int (nI w))]) hx hb dX6_meanHearers_166 hl (by decide) rfl (fun ls hl => ?_)
        refine lv_iload hx hb dX6_meanHearers_168 (lv_at hl 9 rfl) ?_
        refine g_ifne (x := w) (tgt := 181) C0 (by omega) dX6_meanHearers_170 rfl (fun c3 => ?_) (fun c4 => ?_)
        · refine lv_lload hx hb dX6_meanHearers_181 (lv_at hl 1 rfl) ?_
          refine lv_lload hx hb dX6_meanHearers_183 (lv_at hl 0 rfl) ?_
          refine g_ldiv (n := (downS (cgv G)) / (Nat.gcd sm (downS (cgv G)))) C0 (by omega) rfl dX6_meanHearers_185 ?_
          exact hE (v := lN ((downS (cgv G)) / (Nat.gcd sm (downS (cgv G))))) (d, e, (u2 G 4 0 cb), d1, e1) (by rw [meanS, if_neg (by omega), ← hsu]) trivial X dX6_meanHearers_186
        · refine lv_lload hx hb dX6_meanHearers_173 (lv_at hl 2 rfl) ?_
          refine lv_lload hx hb dX6_meanHearers_175 (lv_at hl 0 rfl) ?_
          refine g_ldiv (n := sm / (Nat.gcd sm (downS (cgv G)))) C0 (by omega) rfl dX6_meanHearers_177 ?_
          refine lv_goto (tgt := 186) hx hb dX6_meanHearers_178 (by decide) ?_
          exact hE (v := lN (sm / (Nat.gcd sm (downS (cgv G))))) (d, e, (u2 G 4 0 cb), d1, e1) (by rw [meanS, if_pos c4, ← hsu]) trivial X dX6_meanHearers_186
      · refine lv_iload hx hb dX6_meanHearers_51 (lv_at hl 0 rfl) ?_
        refine lv_aload_n hx hb dX6_meanHearers_53 rfl (lv_at hl 3 rfl) ?_
        refine g_get (v := .ref (hL 0)) C0 X kX6 0 0 tb200 rfl rfl rfl dX6_meanHearers_54 ?_
        refine g_get (v := .int (nI (G 4 0))) C0 X kX1 1 6 tb47 rfl rfl rfl dX6_meanHearers_57 ?_
        refine g_iand (n := i &&& (G 4 0)) C0 rfl dX6_meanHearers_60 ?_
        refine g_ifne (x := i &&& (G 4 0)) (tgt := 140) C0 (by exact and_31 (by omega)) dX6_meanHearers_61 rfl (fun c5 => ?_) (fun c6 => ?_)
        · refine g_iinc (j := 1) (z := i + 1) (lv' := [(9, .int (nI (i + 1))), (7, .long (lN sm)), (6, .int (nI ((G 8 1) - (pc (G 4 0))))), (0, .ref a), (1, .int (nI q)), (2, .int (nI t)), (3, .int (nI b)), (4, .int (nI am)), (5, .int (nI w))]) C0 rfl (by first | rfl | omega) dX6_meanHearers_140 hl (k := 0) rfl (by decide) rfl (fun ls hl => ?_)
          refine lv_goto (tgt := 37) hx hb dX6_meanHearers_143 (by decide) ?_
          exact ih37 (i + 1) sm cb d1 e1 (by omega) (by omega) (by rw [hsm]; show _ = nsum (luckF (cgv G) q t b am) i + luckF (cgv G) q t b am i; rw [luck_f0 (by omega) c5, Nat.add_zero]) H locs ls X (lv_sub hl [0, 1, 2, 3, 4, 5, 6, 7, 8] rfl)
        · have hpm := pc_lt (x := i) (r := G 8 1) (by omega) (by omega)
          have hlw := luck_w (q := q) hw (show i < 2 ^ G 8 1 by omega) c6
          have hl63 := luck_lt hw hq (show i < 2 ^ G 8 1 by omega) c6
          refine lv_iload hx hb dX6_meanHearers_64 (lv_at hl 0 rfl) ?_
          refine g_callS (As := [.int (nI i)]) (rest := []) (wr := (lW a hL hT im bs rd hS sh kb rf ++ gW tk hL G d e ++ gW tk hT (u2 G 4 0 cb) d1 e1)) (C0.sz hl) X (c_J6_bitCount_0f7a4 l D tk i (by first | assumption | omega)) ⟨tb605, tb607, tb16, ⟨by decide, by decide, rfl⟩, rfl, rfl, Nat.le_of_ble_eq_true rfl, Nat.le_of_ble_eq_true rfl⟩ tb606 rfl [] [0, 1, 2, 3, 4, 5, 6, 7, 8, 9, 10, 11, 12, 13, 14, 15, 16, 17, 18, 19, 20] rfl rfl rfl rfl rfl (Nat.le_of_ble_eq_true rfl) ⟨Nat.le_of_ble_eq_true rfl, Nat.le_of_ble_eq_true rfl⟩ dX6_meanHearers_66 (fun _ H locs _ X => ?_)
          have X : Hx D zA zs H locs (lW a hL hT im bs rd hS sh kb rf ++ gW tk hL G d e ++ gW tk hT (u2 G 4 0 cb) d1 e1) := X
          refine lv_istore (lv' := [(10, .int (nI (pc i))), (9, .int (nI i)), (7, .long (lN sm)), (6, .int (nI ((G 8 1) - (pc (G 4 0))))), (0, .ref a), (1, .int (nI q)), (2, .int (nI t)), (3, .int (nI b)), (4, .int (nI am)), (5, .int (nI w))]) hx hb dX6_meanHearers_69 hl (by decide) rfl (fun ls hl => ?_)
          refine lv_iload_n hx hb dX6_meanHearers_71 rfl (lv_at hl 5 rfl) ?_
          refine lv_iload hx hb dX6_meanHearers_72 (lv_at hl 0 rfl) ?_
          refine g_callS (As := [.int (nI q), .int (nI (pc i))]) (rest := []) (wr := (lW a hL hT im bs rd hS sh kb rf ++ gW tk hL G d e ++ gW tk hT (u2 G 4 0 cb) d1 e1)) (C0.sz hl) X (c_X6_power l D tk q (pc i) (by first | assumption | omega) (by first | assumption | omega)) ⟨tb649, tb651, tb1, ⟨by decide, by decide, rfl⟩, rfl, rfl, Nat.le_of_ble_eq_true rfl, Nat.le_of_ble_eq_true rfl⟩ tb650 rfl [] [0, 1, 2, 3, 4, 5, 6, 7, 8, 9, 10, 11, 12, 13, 14, 15, 16, 17, 18, 19, 20] rfl rfl rfl rfl rfl (Nat.le_of_ble_eq_true rfl) ⟨Nat.le_of_ble_eq_true rfl, Nat.le_of_ble_eq_true rfl⟩ dX6_meanHearers_74 (fun _ H locs _ X => ?_)
          have X : Hx D zA zs H locs (lW a hL hT im bs rd hS sh kb rf ++ gW tk hL G d e ++ gW tk hT (u2 G 4 0 cb) d1 e1) := X
          refine g_bipush (n := 10) C0 (by decide) dX6_meanHearers_77 ?_
          refine lv_iload_n hx hb dX6_meanHearers_79 rfl (lv_at hl 5 rfl) ?_
          refine g_isub (n := 10 - q) C0 (by omega) rfl dX6_meanHearers_80 ?_
          refine lv_iload hx hb dX6_meanHearers_81 (lv_at hl 3 rfl) ?_
          refine lv_iload hx hb dX6_meanHearers_83 (lv_at hl 0 rfl) ?_
          refine g_isub (n := ((G 8 1) - (pc (G 4 0))) - (pc i)) C0 (by omega) rfl dX6_meanHearers_85 ?_
          refine g_callS (As := [.int (nI (10 - q)), .int (nI (((G 8 1) - (pc (G 4 0))) - (pc i)))]) (rest := [.long (lN (q ^ (pc i)))]) (wr := (lW a hL hT im bs rd hS sh kb rf ++ gW tk hL G d e ++ gW tk hT (u2 G 4 0 cb) d1 e1)) (C0.sz hl) X (c_X6_power l D tk (10 - q) (((G 8 1) - (pc (G 4 0))) - (pc i)) (by first | assumption | omega) (by first | assumption | omega)) ⟨tb649, tb651, tb1, ⟨by decide, by decide, rfl⟩, rfl, rfl, Nat.le_of_ble_eq_true rfl, Nat.le_of_ble_eq_true rfl⟩ tb650 rfl [] [0, 1, 2, 3, 4, 5, 6, 7, 8, 9, 10, 11, 12, 13, 14, 15, 16, 17, 18, 19, 20] rfl rfl rfl rfl rfl (Nat.le_of_ble_eq_true rfl) ⟨Nat.le_of_ble_eq_true rfl, Nat.le_of_ble_eq_true rfl⟩ dX6_meanHearers_86 (fun _ H locs _ X => ?_)
          have X : Hx D zA zs H locs (lW a hL hT im bs rd hS sh kb rf ++ gW tk hL G d e ++ gW tk hT (u2 G 4 0 cb) d1 e1) := X
          refine g_lmul (n := (q ^ (pc i)) * ((10 - q) ^ (((G 8 1) - (pc (G 4 0))) - (pc i)))) C0 rfl dX6_meanHearers_89 ?_
          refine lv_lstore (lv' := [(11, .long (lN ((q ^ (pc i)) * ((10 - q) ^ (((G 8 1) - (pc (G 4 0))) - (pc i)))))), (10, .int (nI (pc i))), (9, .int (nI i)), (7, .long (lN sm)), (6, .int (nI ((G 8 1) - (pc (G 4 0))))), (0, .ref a), (1, .int (nI q)), (2, .int (nI t)), (3, .int (nI b)), (4, .int (nI am)), (5, .int (nI w))]) hx hb dX6_meanHearers_90 hl (by decide) rfl (fun ls hl => ?_)
          refine lv_lload hx hb dX6_meanHearers_92 (lv_at hl 0 rfl) ?_
          refine g_lconst (n := 0) C0 rfl dX6_meanHearers_94 ?_
          refine g_lcmp_eq C0 (by first | exact hl63 | omega) (by first | exact hl63 | omega) dX6_meanHearers_95 dX6_meanHearers_96 rfl (fun c7 => ?_) (fun c8 => ?_)
          · refine g_iinc (j := 1) (z := i + 1) (lv' := [(9, .int (nI (i + 1))), (11, .long (lN ((q ^ (pc i)) * ((10 - q) ^ (((G 8 1) - (pc (G 4 0))) - (pc i)))))), (10, .int (nI (pc i))), (7, .long (lN sm)), (6, .int (nI ((G 8 1) - (pc (G 4 0))))), (0, .ref a), (1, .int (nI q)), (2, .int (nI t)), (3, .int (nI b)), (4, .int (nI am)), (5, .int (nI w))]) C0 rfl (by first | rfl | omega) dX6_meanHearers_140 hl (k := 2) rfl (by decide) rfl (fun ls hl => ?_)
            refine lv_goto (tgt := 37) hx hb dX6_meanHearers_143 (by decide) ?_
            exact ih37 (i + 1) sm cb d1 e1 (by omega) (by omega) (by rw [hsm]; show _ = nsum (luckF (cgv G) q t b am) i + luckF (cgv G) q t b am i; rw [luck_f1 hw (by omega) c6 c7, Nat.add_zero]) H locs ls X (lv_sub hl [0, 3, 4, 5, 6, 7, 8, 9, 10] rfl)
          · refine lv_aload_n hx hb dX6_meanHearers_99 rfl (lv_at hl 5 rfl) ?_
            refine g_get (v := .ref (hT 0)) C0 X kX6 0 1 tb201 rfl rfl rfl dX6_meanHearers_100 ?_
            refine lv_aload_n hx hb dX6_meanHearers_103 rfl (lv_at hl 5 rfl) ?_
            refine g_get (v := .ref (hL 0)) C0 X kX6 0 0 tb200 rfl rfl rfl dX6_meanHearers_104 ?_
            refine g_get (v := .int (nI (G 4 0))) C0 X kX1 1 6 tb47 rfl rfl rfl dX6_meanHearers_107 ?_
            refine lv_iload hx hb dX6_meanHearers_110 (lv_at hl 2 rfl) ?_
            refine g_ior (n := (G 4 0) ||| i) C0 rfl dX6_meanHearers_112 ?_
            refine g_put (v := .int (nI ((G 4 0) ||| i))) (ft := .int) C0 X kX1 11 6 tb47 rfl rfl rfl rfl rfl rfl rfl dX6_meanHearers_113 (fun H locs X => ?_)
            have X : Hx D zA zs H locs (lW a hL hT im bs rd hS sh kb rf ++ gW tk hL G d e ++ gW tk hT (u2 G 4 0 ((G 4 0) ||| i)) d1 e1) := X
            refine lv_lload hx hb dX6_meanHearers_116 (lv_at hl 3 rfl) ?_
            refine lv_lload hx hb dX6_meanHearers_118 (lv_at hl 0 rfl) ?_
            refine lv_aload_n hx hb dX6_meanHearers_120 rfl (lv_at hl 5 rfl) ?_
            refine g_get (v := .ref (hT 0)) C0 X kX6 0 1 tb201 rfl rfl rfl dX6_meanHearers_121 ?_
            refine lv_iload_n hx hb dX6_meanHearers_124 rfl (lv_at hl 7 rfl) ?_
            refine lv_iload_n hx hb dX6_meanHearers_125 rfl (lv_at hl 8 rfl) ?_
            refine g_callV (As := [.int (nI t), .int (nI b)]) (rest := [.long (lN ((q ^ (pc i)) * ((10 - q) ^ (((G 8 1) - (pc (G 4 0))) - (pc i))))), .long (lN sm)]) (wr := (lW a hL hT im bs rd hS sh kb rf ++ gW tk hL G d e)) (C0.sz hl) X (c_X1_hearers l D tk hT (u2 G 4 0 ((G 4 0) ||| i)) d1 e1 t b (by exact hw.cutu (or_lt hw5 (by omega))) (by exact (show t < G 8 0 from ht0)) (by omega)) ⟨tb486, tb489, tb2, ⟨by decide, by decide, rfl⟩, rfl, rfl, Nat.le_of_ble_eq_true rfl, Nat.le_of_ble_eq_true rfl⟩ tb487 tb488 11 1 rfl rfl rfl rfl [11, 12, 13, 14, 15, 16, 17, 18, 19, 20] [0, 1, 2, 3, 4, 5, 6, 7, 8, 9, 10] rfl rfl rfl rfl rfl (Nat.le_of_ble_eq_true rfl) ⟨Nat.le_of_ble_eq_true rfl, Nat.le_of_ble_eq_true rfl⟩ dX6_meanHearers_126 (fun _ H locs _ X => ?_)
            have X : Hx D zA zs H locs (lW a hL hT im bs rd hS sh kb rf ++ gW tk hL G d e ++ gW tk hT (u2 G 4 0 ((G 4 0) ||| i)) (dist (cgv (u2 G 4 0 ((G 4 0) ||| i))) t) e1) := X
            have hLh := hearS_lt (cgv (u2 G 4 0 (G 4 0 ||| i))) t b hw1
            refine lv_iload hx hb dX6_meanHearers_129 (lv_at hl 9 rfl) ?_
            refine g_iand (n := (hearS (cgv (u2 G 4 0 ((G 4 0) ||| i))) t b) &&& am) C0 rfl dX6_meanHearers_131 ?_
            refine g_callS (As := [.int (nI ((hearS (cgv (u2 G 4 0 ((G 4 0) ||| i))) t b) &&& am))]) (rest := [.long (lN ((q ^ (pc i)) * ((10 - q) ^ (((G 8 1) - (pc (G 4 0))) - (pc i))))), .long (lN sm)]) (wr := (lW a hL hT im bs rd hS sh kb rf ++ gW tk hL G d e ++ gW tk hT (u2 G 4 0 ((G 4 0) ||| i)) (dist (cgv (u2 G 4 0 ((G 4 0) ||| i))) t) e1)) (C0.sz hl) X (c_J6_bitCount_0f7a4 l D tk ((hearS (cgv (u2 G 4 0 ((G 4 0) ||| i))) t b) &&& am) (by exact Nat.lt_of_le_of_lt Nat.and_le_left (by omega))) ⟨tb605, tb607, tb16, ⟨by decide, by decide, rfl⟩, rfl, rfl, Nat.le_of_ble_eq_true rfl, Nat.le_of_ble_eq_true rfl⟩ tb606 rfl [] [0, 1, 2, 3, 4, 5, 6, 7, 8, 9, 10, 11, 12, 13, 14, 15, 16, 17, 18, 19, 20] rfl rfl rfl rfl rfl (Nat.le_of_ble_eq_true rfl) ⟨Nat.le_of_ble_eq_true rfl, Nat.le_of_ble_eq_true rfl⟩ dX6_meanHearers_132 (fun _ H locs _ X => ?_)
            have X : Hx D zA zs H locs (lW a hL hT im bs rd hS sh kb rf ++ gW tk hL G d e ++ gW tk hT (u2 G 4 0 ((G 4 0) ||| i)) (dist (cgv (u2 G 4 0 ((G 4 0) ||| i))) t) e1) := X
            have hpl := pc_le (hearS (cgv (u2 G 4 0 (G 4 0 ||| i))) t b &&& am)
            refine g_i2l C0 (by omega) dX6_meanHearers_135 ?_
            refine g_lmul (n := ((q ^ (pc i)) * ((10 - q) ^ (((G 8 1) - (pc (G 4 0))) - (pc i)))) * (pc ((hearS (cgv (u2 G 4 0 ((G 4 0) ||| i))) t b) &&& am))) C0 rfl dX6_meanHearers_136 ?_
            refine g_ladd (n := sm + (((q ^ (pc i)) * ((10 - q) ^ (((G 8 1) - (pc (G 4 0))) - (pc i)))) * (pc ((hearS (cgv (u2 G 4 0 ((G 4 0) ||| i))) t b) &&& am)))) C0 rfl dX6_meanHearers_137 ?_
            refine lv_lstore (lv' := [(7, .long (lN (sm + (((q ^ (pc i)) * ((10 - q) ^ (((G 8 1) - (pc (G 4 0))) - (pc i)))) * (pc ((hearS (cgv (u2 G 4 0 ((G 4 0) ||| i))) t b) &&& am)))))), (11, .long (lN ((q ^ (pc i)) * ((10 - q) ^ (((G 8 1) - (pc (G 4 0))) - (pc i)))))), (10, .int (nI (pc i))), (9, .int (nI i)), (6, .int (nI ((G 8 1) - (pc (G 4 0))))), (0, .ref a), (1, .int (nI q)), (2, .int (nI t)), (3, .int (nI b)), (4, .int (nI am)), (5, .int (nI w))]) hx hb dX6_meanHearers_138 hl (by decide) rfl (fun ls hl => ?_)
            refine g_iinc (j := 1) (z := i + 1) (lv' := [(9, .int (nI (i + 1))), (7, .long (lN (sm + (((q ^ (pc i)) * ((10 - q) ^ (((G 8 1) - (pc (G 4 0))) - (pc i)))) * (pc ((hearS (cgv (u2 G 4 0 ((G 4 0) ||| i))) t b) &&& am)))))), (11, .long (lN ((q ^ (pc i)) * ((10 - q) ^ (((G 8 1) - (pc (G 4 0))) - (pc i)))))), (10, .int (nI (pc i))), (6, .int (nI ((G 8 1) - (pc (G 4 0))))), (0, .ref a), (1, .int (nI q)), (2, .int (nI t)), (3, .int (nI b)), (4, .int (nI am)), (5, .int (nI w))]) C0 rfl (by first | rfl | omega) dX6_meanHearers_140 hl (k := 3) rfl (by decide) rfl (fun ls hl => ?_)
            refine lv_goto (tgt := 37) hx hb dX6_meanHearers_143 (by decide) ?_
            exact ih37 (i + 1) (sm + (((q ^ (pc i)) * ((10 - q) ^ (((G 8 1) - (pc (G 4 0))) - (pc i)))) * (pc ((hearS (cgv (u2 G 4 0 ((G 4 0) ||| i))) t b) &&& am)))) ((G 4 0) ||| i) (dist (cgv (u2 G 4 0 ((G 4 0) ||| i))) t) e1 (by omega) (by omega) (by rw [hsm]; show _ = nsum (luckF (cgv G) q t b am) i + luckF (cgv G) q t b am i; rw [luck_t hw (by omega) c6]) H locs ls X (lv_sub hl [0, 1, 4, 5, 6, 7, 8, 9, 10] rfl)
  exact J37 ((2 ^ G 8 1 - 0) + 1) 0 0 (G 4 0) td te (Nat.lt_succ_self _) (by omega) (by rfl) H locs ls X (lv_sub hl [0, 1, 2, 3, 4, 5, 6, 7, 8] rfl)
set_option maxHeartbeats 4000000 in
set_option maxRecDepth 100000 in
theorem c_X6_luck (l : Launch) (D : va_G) (tk : Nat → ClassId) (a : Nat) (hL hT : Nat → Nat) (im bs rd : Nat) (hS : Nat → Nat) (sh kb rf : Nat) (G : Nat → Nat → Nat) (d e : Nat → Nat) (T : Nat → Nat → Nat) (td te : Nat → Nat) (x y z w p : Int32) (hw : GW G) : MX l yX6_luck cX6_luck 6 (some .long) ⟨5, 0, 0, 143⟩ D (TYS tk) [.ref a, .int x, .int y, .int z, .int w, .int p] (lW a hL hT im bs rd hS sh kb rf ++ gW tk hL G d e ++ gW tk hT T td te) (fun (u : (Nat → Nat) × (Nat → Nat) × (Nat → Nat → Nat) × (Nat → Nat) × (Nat → Nat)) => True) (fun u => some (.long (a_luck (cgv G) x y z w p))) (fun u => lW a hL hT im bs rd hS sh kb rf ++ gW tk hL G u.1 u.2.1 ++ gW tk hT u.2.2.1 u.2.2.2.1 u.2.2.2.2) 0 0 := by
  refine MX.of_l (by decide) rfl ?_
  intro zp ze zs zm za zb zt zc zA zQ ls C0 hnm X hl hE
  have hx := C0.1
  have hb := C0.2.1
  have ht := C0.2.2.2.2.1
  have X : Hx D zA zs zs.heap [] (lW a hL hT im bs rd hS sh kb rf ++ gW tk hL G d e ++ gW tk hT T td te) := X
  have hl : lv_has ls 6 [(0, .ref a), (1, .int x), (2, .int y), (3, .int z), (4, .int w), (5, .int p)] := hl
  obtain ⟨hw1, hw2, hw3, hw4, hw5, hw6, hw7, hw8⟩ := id hw
  obtain ⟨H, hH⟩ : ∃ H, H = zs.heap := ⟨_, rfl⟩
  rw [← hH] at X ⊢
  obtain ⟨locs, hlo⟩ : ∃ L : List Loc, L = [] := ⟨_, rfl⟩
  rw [← hlo] at X ⊢
  refine lv_iload_n hx hb dX6_luck_0 rfl (lv_at hl 1 rfl) ?_
  refine g_callS (As := [.int x]) (rest := []) (wr := (lW a hL hT im bs rd hS sh kb rf ++ gW tk hL G d e ++ gW tk hT T td te)) (C0.sz hl) X (c_X6_isTenths l D tk x) ⟨tb641, tb643, tb1, ⟨by decide, by decide, rfl⟩, rfl, rfl, Nat.le_of_ble_eq_true rfl, Nat.le_of_ble_eq_true rfl⟩ tb642 rfl [] [0, 1, 2, 3, 4, 5, 6, 7, 8, 9, 10, 11, 12, 13, 14, 15, 16, 17, 18, 19, 20] rfl rfl rfl rfl rfl (Nat.le_of_ble_eq_true rfl) ⟨Nat.le_of_ble_eq_true rfl, Nat.le_of_ble_eq_true rfl⟩ dX6_luck_1 (fun _ H locs _ X => ?_)
  have X : Hx D zA zs H locs (lW a hL hT im bs rd hS sh kb rf ++ gW tk hL G d e ++ gW tk hT T td te) := X
  refine g_ifeqB (x := rg x 0 10) (tgt := 45) C0 dX6_luck_4 rfl (fun c1 => ?_) (fun c2 => ?_)
  · refine lv_ldc2 (v := (-1 : Int64)) hx hb C0.2.2.2.1 (ht _ tb644) dX6_luck_45 ?_
    exact hE (v := (-1 : Int64)) (d, e, T, td, te) (by simp [a_luck, cg0, cg1, cg2, cg3, cg5, cg6, cg7, cg8, c1]) trivial X dX6_luck_48
  · obtain ⟨xq, hk_xqa, hk_xqb, hk_xqc, rfl⟩ := rg_sp c2
    refine lv_aload_n hx hb dX6_luck_7 rfl (lv_at hl 0 rfl) ?_
    refine g_get (v := .ref (hL 0)) C0 X kX6 0 0 tb200 rfl rfl rfl dX6_luck_8 ?_
    refine lv_iload_n hx hb dX6_luck_11 rfl (lv_at hl 2 rfl) ?_
    refine g_callV (As := [.int y]) (rest := []) (wr := (lW a hL hT im bs rd hS sh kb rf ++ gW tk hT T td te)) (C0.sz hl) X (c_X1_hasTree l D tk hL G d e y (by first | assumption | omega)) ⟨tb456, tb390, tb2, ⟨by decide, by decide, rfl⟩, rfl, rfl, Nat.le_of_ble_eq_true rfl, Nat.le_of_ble_eq_true rfl⟩ tb388 tb389 1 1 rfl rfl rfl rfl [1, 2, 3, 4, 5, 6, 7, 8, 9, 10] [0, 11, 12, 13, 14, 15, 16, 17, 18, 19, 20] rfl rfl rfl rfl rfl (Nat.le_of_ble_eq_true rfl) ⟨Nat.le_of_ble_eq_true rfl, Nat.le_of_ble_eq_true rfl⟩ dX6_luck_12 (fun _ H locs _ X => ?_)
    have X : Hx D zA zs H locs (lW a hL hT im bs rd hS sh kb rf ++ gW tk hT T td te ++ gW tk hL G d e) := X
    have X : Hx D zA zs H locs (lW a hL hT im bs rd hS sh kb rf ++ gW tk hL G d e ++ gW tk hT T td te) := X.sub [0, 11, 12, 13, 14, 15, 16, 17, 18, 19, 20, 1, 2, 3, 4, 5, 6, 7, 8, 9, 10] rfl rfl
    refine g_ifeqB (x := ix y (G 8 0)) (tgt := 45) C0 dX6_luck_15 rfl (fun c3 => ?_) (fun c4 => ?_)
    · refine lv_ldc2 (v := (-1 : Int64)) hx hb C0.2.2.2.1 (ht _ tb644) dX6_luck_45 ?_
      exact hE (v := (-1 : Int64)) (d, e, T, td, te) (by simp [a_luck, cg0, cg1, cg2, cg3, cg5, cg6, cg7, cg8, c2, c3, tn_nI (k := xq) (by omega)]) trivial X dX6_luck_48
    · obtain ⟨yq, hk_yq, rfl⟩ := ix_sp c4
      refine lv_aload_n hx hb dX6_luck_18 rfl (lv_at hl 0 rfl) ?_
      refine g_get (v := .ref (hL 0)) C0 X kX6 0 0 tb200 rfl rfl rfl dX6_luck_19 ?_
      refine lv_iload_n hx hb dX6_luck_22 rfl (lv_at hl 3 rfl) ?_
      refine g_callV (As := [.int z]) (rest := []) (wr := (lW a hL hT im bs rd hS sh kb rf ++ gW tk hT T td te)) (C0.sz hl) X (c_X1_hasTree l D tk hL G d e z (by first | assumption | omega)) ⟨tb456, tb390, tb2, ⟨by decide, by decide, rfl⟩, rfl, rfl, Nat.le_of_ble_eq_true rfl, Nat.le_of_ble_eq_true rfl⟩ tb388 tb389 1 1 rfl rfl rfl rfl [1, 2, 3, 4, 5, 6, 7, 8, 9, 10] [0, 11, 12, 13, 14, 15, 16, 17, 18, 19, 20] rfl rfl rfl rfl rfl (Nat.le_of_ble_eq_true rfl) ⟨Nat.le_of_ble_eq_true rfl, Nat.le_of_ble_eq_true rfl⟩ dX6_luck_23 (fun _ H locs _ X => ?_)
      have X : Hx D zA zs H locs (lW a hL hT im bs rd hS sh kb rf ++ gW tk hT T td te ++ gW tk hL G d e) := X
      have X : Hx D zA zs H locs (lW a hL hT im bs rd hS sh kb rf ++ gW tk hL G d e ++ gW tk hT T td te) := X.sub [0, 11, 12, 13, 14, 15, 16, 17, 18, 19, 20, 1, 2, 3, 4, 5, 6, 7, 8, 9, 10] rfl rfl
      refine g_ifeqB (x := ix z (G 8 0)) (tgt := 45) C0 dX6_luck_26 rfl (fun c5 => ?_) (fun c6 => ?_)
      · refine lv_ldc2 (v := (-1 : Int64)) hx hb C0.2.2.2.1 (ht _ tb644) dX6_luck_45 ?_
        exact hE (v := (-1 : Int64)) (d, e, T, td, te) (by simp [a_luck, cg0, cg1, cg2, cg3, cg5, cg6, cg7, cg8, c2, c4, c5, tn_nI (k := xq) (by omega), tn_nI (k := yq) (by omega)]) trivial X dX6_luck_48
      · obtain ⟨zq, hk_zq, rfl⟩ := ix_sp c6
        refine lv_iload hx hb dX6_luck_29 (lv_at hl 4 rfl) ?_
        refine g_callS (As := [.int w]) (rest := []) (wr := (lW a hL hT im bs rd hS sh kb rf ++ gW tk hL G d e ++ gW tk hT T td te)) (C0.sz hl) X (c_X6_isBreath l D tk w) ⟨tb499, tb501, tb1, ⟨by decide, by decide, rfl⟩, rfl, rfl, Nat.le_of_ble_eq_true rfl, Nat.le_of_ble_eq_true rfl⟩ tb500 rfl [] [0, 1, 2, 3, 4, 5, 6, 7, 8, 9, 10, 11, 12, 13, 14, 15, 16, 17, 18, 19, 20] rfl rfl rfl rfl rfl (Nat.le_of_ble_eq_true rfl) ⟨Nat.le_of_ble_eq_true rfl, Nat.le_of_ble_eq_true rfl⟩ dX6_luck_31 (fun _ H locs _ X => ?_)
        have X : Hx D zA zs H locs (lW a hL hT im bs rd hS sh kb rf ++ gW tk hL G d e ++ gW tk hT T td te) := X
        refine g_ifeqB (x := rg w 1 60) (tgt := 45) C0 dX6_luck_34 rfl (fun c7 => ?_) (fun c8 => ?_)
        · refine lv_ldc2 (v := (-1 : Int64)) hx hb C0.2.2.2.1 (ht _ tb644) dX6_luck_45 ?_
          exact hE (v := (-1 : Int64)) (d, e, T, td, te) (by simp [a_luck, cg0, cg1, cg2, cg3, cg5, cg6, cg7, cg8, c2, c4, c6, c7, tn_nI (k := xq) (by omega), tn_nI (k := yq) (by omega), tn_nI (k := zq) (by omega)]) trivial X dX6_luck_48
        · obtain ⟨wq, hk_wqa, hk_wqb, hk_wqc, rfl⟩ := rg_sp c8
          refine lv_iload hx hb dX6_luck_37 (lv_at hl 5 rfl) ?_
          refine g_callS (As := [.int p]) (rest := []) (wr := (lW a hL hT im bs rd hS sh kb rf ++ gW tk hL G d e ++ gW tk hT T td te)) (C0.sz hl) X (c_X6_isEither l D tk p) ⟨tb582, tb584, tb1, ⟨by decide, by decide, rfl⟩, rfl, rfl, Nat.le_of_ble_eq_true rfl, Nat.le_of_ble_eq_true rfl⟩ tb583 rfl [] [0, 1, 2, 3, 4, 5, 6, 7, 8, 9, 10, 11, 12, 13, 14, 15, 16, 17, 18, 19, 20] rfl rfl rfl rfl rfl (Nat.le_of_ble_eq_true rfl) ⟨Nat.le_of_ble_eq_true rfl, Nat.le_of_ble_eq_true rfl⟩ dX6_luck_39 (fun _ H locs _ X => ?_)
          have X : Hx D zA zs H locs (lW a hL hT im bs rd hS sh kb rf ++ gW tk hL G d e ++ gW tk hT T td te) := X
          refine g_ifneB (x := rg p 0 1) (tgt := 49) C0 dX6_luck_42 rfl (fun c9 => ?_) (fun c10 => ?_)
          · obtain ⟨pq, hk_pqa, hk_pqb, hk_pqc, rfl⟩ := rg_sp c9
            refine lv_aload_n hx hb dX6_luck_49 rfl (lv_at hl 0 rfl) ?_
            refine lv_iload_n hx hb dX6_luck_50 rfl (lv_at hl 1 rfl) ?_
            refine lv_iload_n hx hb dX6_luck_51 rfl (lv_at hl 2 rfl) ?_
            refine lv_iload hx hb dX6_luck_52 (lv_at hl 4 rfl) ?_
            refine g_iconst (n := 1) C0 rfl dX6_luck_54 ?_
            refine lv_iload_n hx hb dX6_luck_55 rfl (lv_at hl 3 rfl) ?_
            refine g_ishl (n := 2 ^ zq) C0 (by exact sh_ok (by omega)) (by first | exact Nat.one_mul _ | rfl) dX6_luck_56 ?_
            refine lv_iload hx hb dX6_luck_57 (lv_at hl 5 rfl) ?_
            refine g_callV (As := [.int (nI xq), .int (nI yq), .int (nI wq), .int (nI (2 ^ zq)), .int (nI pq)]) (rest := []) (wr := []) (C0.sz hl) X (c_X6_meanHearers l D tk a hL hT im bs rd hS sh kb rf G d e T td te xq yq wq (2 ^ zq) pq (by first | assumption | omega) (by first | assumption | omega) (by first | assumption | omega) (by first | assumption | omega) (by first | assumption | omega)) ⟨tb645, tb648, tb1, ⟨by decide, by decide, rfl⟩, rfl, rfl, Nat.le_of_ble_eq_true rfl, Nat.le_of_ble_eq_true rfl⟩ tb647 tbs16 0 6 rfl rfl rfl rfl [0, 1, 2, 3, 4, 5, 6, 7, 8, 9, 10, 11, 12, 13, 14, 15, 16, 17, 18, 19, 20] [] rfl rfl rfl rfl rfl (Nat.le_of_ble_eq_true rfl) ⟨Nat.le_of_ble_eq_true rfl, Nat.le_of_ble_eq_true rfl⟩ dX6_luck_59 (fun uq11 H locs _ X => ?_)
            have X : Hx D zA zs H locs (lW a hL hT im bs rd hS sh kb rf ++ gW tk hL G uq11.1 uq11.2.1 ++ gW tk hT uq11.2.2.1 uq11.2.2.2.1 uq11.2.2.2.2) := X
            exact hE (v := meanS (cgv G) xq yq wq (2 ^ zq) pq) (uq11.1, uq11.2.1, uq11.2.2.1, uq11.2.2.2.1, uq11.2.2.2.2) (by simp [a_luck, cg0, cg1, cg2, cg3, cg5, cg6, cg7, cg8, c2, c4, c6, c8, c9, tn_nI (k := xq) (by omega), tn_nI (k := yq) (by omega), tn_nI (k := zq) (by omega), tn_nI (k := wq) (by omega), tn_nI (k := pq) (by omega)]) trivial X dX6_luck_62
          · refine lv_ldc2 (v := (-1 : Int64)) hx hb C0.2.2.2.1 (ht _ tb644) dX6_luck_45 ?_
            exact hE (v := (-1 : Int64)) (d, e, T, td, te) (by simp [a_luck, cg0, cg1, cg2, cg3, cg5, cg6, cg7, cg8, c2, c4, c6, c8, c10, tn_nI (k := xq) (by omega), tn_nI (k := yq) (by omega), tn_nI (k := zq) (by omega), tn_nI (k := wq) (by omega)]) trivial X dX6_luck_48
set_option maxHeartbeats 4000000 in
set_option maxRecDepth 100000 in
theorem c_X6_mean (l : Launch) (D : va_G) (tk : Nat → ClassId) (a : Nat) (hL hT : Nat → Nat) (im bs rd : Nat) (hS : Nat → Nat) (sh kb rf : Nat) (G : Nat → Nat → Nat) (d e : Nat → Nat) (T : Nat → Nat → Nat) (td te : Nat → Nat) (x y z w : Int32) (hw : GW G) : MX l yX6_mean cX6_mean 5 (some .long) ⟨5, 0, 0, 143⟩ D (TYS tk) [.ref a, .int x, .int y, .int z, .int w] (lW a hL hT im bs rd hS sh kb rf ++ gW tk hL G d e ++ gW tk hT T td te) (fun (u : (Nat → Nat) × (Nat → Nat) × (Nat → Nat → Nat) × (Nat → Nat) × (Nat → Nat)) => True) (fun u => some (.long (a_mean (cgv G) x y z w))) (fun u => lW a hL hT im bs rd hS sh kb rf ++ gW tk hL G u.1 u.2.1 ++ gW tk hT u.2.2.1 u.2.2.2.1 u.2.2.2.2) 0 0 := by
  refine MX.of_l (by decide) rfl ?_
  intro zp ze zs zm za zb zt zc zA zQ ls C0 hnm X hl hE
  have hx := C0.1
  have hb := C0.2.1
  have ht := C0.2.2.2.2.1
  have X : Hx D zA zs zs.heap [] (lW a hL hT im bs rd hS sh kb rf ++ gW tk hL G d e ++ gW tk hT T td te) := X
  have hl : lv_has ls 5 [(0, .ref a), (1, .int x), (2, .int y), (3, .int z), (4, .int w)] := hl
  obtain ⟨hw1, hw2, hw3, hw4, hw5, hw6, hw7, hw8⟩ := id hw
  obtain ⟨H, hH⟩ : ∃ H, H = zs.heap := ⟨_, rfl⟩
  rw [← hH] at X ⊢
  obtain ⟨locs, hlo⟩ : ∃ L : List Loc, L = [] := ⟨_, rfl⟩
  rw [← hlo] at X ⊢
  refine lv_iload_n hx hb dX6_mean_0 rfl (lv_at hl 1 rfl) ?_
  refine g_callS (As := [.int x]) (rest := []) (wr := (lW a hL hT im bs rd hS sh kb rf ++ gW tk hL G d e ++ gW tk hT T td te)) (C0.sz hl) X (c_X6_isTenths l D tk x) ⟨tb641, tb643, tb1, ⟨by decide, by decide, rfl⟩, rfl, rfl, Nat.le_of_ble_eq_true rfl, Nat.le_of_ble_eq_true rfl⟩ tb642 rfl [] [0, 1, 2, 3, 4, 5, 6, 7, 8, 9, 10, 11, 12, 13, 14, 15, 16, 17, 18, 19, 20] rfl rfl rfl rfl rfl (Nat.le_of_ble_eq_true rfl) ⟨Nat.le_of_ble_eq_true rfl, Nat.le_of_ble_eq_true rfl⟩ dX6_mean_1 (fun _ H locs _ X => ?_)
  have X : Hx D zA zs H locs (lW a hL hT im bs rd hS sh kb rf ++ gW tk hL G d e ++ gW tk hT T td te) := X
  refine g_ifeqB (x := rg x 0 10) (tgt := 33) C0 dX6_mean_4 rfl (fun c1 => ?_) (fun c2 => ?_)
  · refine lv_ldc2 (v := (-1 : Int64)) hx hb C0.2.2.2.1 (ht _ tb644) dX6_mean_33 ?_
    exact hE (v := (-1 : Int64)) (d, e, T, td, te) (by simp [a_mean, cg0, cg1, cg2, cg3, cg5, cg6, cg7, cg8, c1]) trivial X dX6_mean_36
  · obtain ⟨xq, hk_xqa, hk_xqb, hk_xqc, rfl⟩ := rg_sp c2
    refine lv_aload_n hx hb dX6_mean_7 rfl (lv_at hl 0 rfl) ?_
    refine g_get (v := .ref (hL 0)) C0 X kX6 0 0 tb200 rfl rfl rfl dX6_mean_8 ?_
    refine lv_iload_n hx hb dX6_mean_11 rfl (lv_at hl 2 rfl) ?_
    refine g_callV (As := [.int y]) (rest := []) (wr := (lW a hL hT im bs rd hS sh kb rf ++ gW tk hT T td te)) (C0.sz hl) X (c_X1_hasTree l D tk hL G d e y (by first | assumption | omega)) ⟨tb456, tb390, tb2, ⟨by decide, by decide, rfl⟩, rfl, rfl, Nat.le_of_ble_eq_true rfl, Nat.le_of_ble_eq_true rfl⟩ tb388 tb389 1 1 rfl rfl rfl rfl [1, 2, 3, 4, 5, 6, 7, 8, 9, 10] [0, 11, 12, 13, 14, 15, 16, 17, 18, 19, 20] rfl rfl rfl rfl rfl (Nat.le_of_ble_eq_true rfl) ⟨Nat.le_of_ble_eq_true rfl, Nat.le_of_ble_eq_true rfl⟩ dX6_mean_12 (fun _ H locs _ X => ?_)
    have X : Hx D zA zs H locs (lW a hL hT im bs rd hS sh kb rf ++ gW tk hT T td te ++ gW tk hL G d e) := X
    have X : Hx D zA zs H locs (lW a hL hT im bs rd hS sh kb rf ++ gW tk hL G d e ++ gW tk hT T td te) := X.sub [0, 11, 12, 13, 14, 15, 16, 17, 18, 19, 20, 1, 2, 3, 4, 5, 6, 7, 8, 9, 10] rfl rfl
    refine g_ifeqB (x := ix y (G 8 0)) (tgt := 33) C0 dX6_mean_15 rfl (fun c3 => ?_) (fun c4 => ?_)
    · refine lv_ldc2 (v := (-1 : Int64)) hx hb C0.2.2.2.1 (ht _ tb644) dX6_mean_33 ?_
      exact hE (v := (-1 : Int64)) (d, e, T, td, te) (by simp [a_mean, cg0, cg1, cg2, cg3, cg5, cg6, cg7, cg8, c2, c3, tn_nI (k := xq) (by omega)]) trivial X dX6_mean_36
    · obtain ⟨yq, hk_yq, rfl⟩ := ix_sp c4
      refine lv_iload_n hx hb dX6_mean_18 rfl (lv_at hl 3 rfl) ?_
      refine g_callS (As := [.int z]) (rest := []) (wr := (lW a hL hT im bs rd hS sh kb rf ++ gW tk hL G d e ++ gW tk hT T td te)) (C0.sz hl) X (c_X6_isBreath l D tk z) ⟨tb499, tb501, tb1, ⟨by decide, by decide, rfl⟩, rfl, rfl, Nat.le_of_ble_eq_true rfl, Nat.le_of_ble_eq_true rfl⟩ tb500 rfl [] [0, 1, 2, 3, 4, 5, 6, 7, 8, 9, 10, 11, 12, 13, 14, 15, 16, 17, 18, 19, 20] rfl rfl rfl rfl rfl (Nat.le_of_ble_eq_true rfl) ⟨Nat.le_of_ble_eq_true rfl, Nat.le_of_ble_eq_true rfl⟩ dX6_mean_19 (fun _ H locs _ X => ?_)
      have X : Hx D zA zs H locs (lW a hL hT im bs rd hS sh kb rf ++ gW tk hL G d e ++ gW tk hT T td te) := X
      refine g_ifeqB (x := rg z 1 60) (tgt := 33) C0 dX6_mean_22 rfl (fun c5 => ?_) (fun c6 => ?_)
      · refine lv_ldc2 (v := (-1 : Int64)) hx hb C0.2.2.2.1 (ht _ tb644) dX6_mean_33 ?_
        exact hE (v := (-1 : Int64)) (d, e, T, td, te) (by simp [a_mean, cg0, cg1, cg2, cg3, cg5, cg6, cg7, cg8, c2, c4, c5, tn_nI (k := xq) (by omega), tn_nI (k := yq) (by omega)]) trivial X dX6_mean_36
      · obtain ⟨zq, hk_zqa, hk_zqb, hk_zqc, rfl⟩ := rg_sp c6
        refine lv_iload hx hb dX6_mean_25 (lv_at hl 4 rfl) ?_
        refine g_callS (As := [.int w]) (rest := []) (wr := (lW a hL hT im bs rd hS sh kb rf ++ gW tk hL G d e ++ gW tk hT T td te)) (C0.sz hl) X (c_X6_isEither l D tk w) ⟨tb582, tb584, tb1, ⟨by decide, by decide, rfl⟩, rfl, rfl, Nat.le_of_ble_eq_true rfl, Nat.le_of_ble_eq_true rfl⟩ tb583 rfl [] [0, 1, 2, 3, 4, 5, 6, 7, 8, 9, 10, 11, 12, 13, 14, 15, 16, 17, 18, 19, 20] rfl rfl rfl rfl rfl (Nat.le_of_ble_eq_true rfl) ⟨Nat.le_of_ble_eq_true rfl, Nat.le_of_ble_eq_true rfl⟩ dX6_mean_27 (fun _ H locs _ X => ?_)
        have X : Hx D zA zs H locs (lW a hL hT im bs rd hS sh kb rf ++ gW tk hL G d e ++ gW tk hT T td te) := X
        refine g_ifneB (x := rg w 0 1) (tgt := 37) C0 dX6_mean_30 rfl (fun c7 => ?_) (fun c8 => ?_)
        · obtain ⟨wq, hk_wqa, hk_wqb, hk_wqc, rfl⟩ := rg_sp c7
          refine lv_aload_n hx hb dX6_mean_37 rfl (lv_at hl 0 rfl) ?_
          refine lv_iload_n hx hb dX6_mean_38 rfl (lv_at hl 1 rfl) ?_
          refine lv_iload_n hx hb dX6_mean_39 rfl (lv_at hl 2 rfl) ?_
          refine lv_iload_n hx hb dX6_mean_40 rfl (lv_at hl 3 rfl) ?_
          refine lv_aload_n hx hb dX6_mean_41 rfl (lv_at hl 0 rfl) ?_
          refine g_get (v := .ref (hL 0)) C0 X kX6 0 0 tb200 rfl rfl rfl dX6_mean_42 ?_
          refine g_callV (As := []) (rest := [.int (nI zq), .int (nI yq), .int (nI xq), .ref a]) (wr := (lW a hL hT im bs rd hS sh kb rf ++ gW tk hT T td te)) (C0.sz hl) X (c_X1_allTrees l D tk hL G d e (by first | assumption | omega)) ⟨tb577, tb568, tb2, ⟨by decide, by decide, rfl⟩, rfl, rfl, Nat.le_of_ble_eq_true rfl, Nat.le_of_ble_eq_true rfl⟩ tb566 tb567 1 1 rfl rfl rfl rfl [1, 2, 3, 4, 5, 6, 7, 8, 9, 10] [0, 11, 12, 13, 14, 15, 16, 17, 18, 19, 20] rfl rfl rfl rfl rfl (Nat.le_of_ble_eq_true rfl) ⟨Nat.le_of_ble_eq_true rfl, Nat.le_of_ble_eq_true rfl⟩ dX6_mean_45 (fun _ H locs _ X => ?_)
          have X : Hx D zA zs H locs (lW a hL hT im bs rd hS sh kb rf ++ gW tk hT T td te ++ gW tk hL G d e) := X
          have X : Hx D zA zs H locs (lW a hL hT im bs rd hS sh kb rf ++ gW tk hL G d e ++ gW tk hT T td te) := X.sub [0, 11, 12, 13, 14, 15, 16, 17, 18, 19, 20, 1, 2, 3, 4, 5, 6, 7, 8, 9, 10] rfl rfl
          refine lv_iload hx hb dX6_mean_48 (lv_at hl 4 rfl) ?_
          refine g_callV (As := [.int (nI xq), .int (nI yq), .int (nI zq), .int (nI (2 ^ G 8 0 - 1)), .int (nI wq)]) (rest := []) (wr := []) (C0.sz hl) X (c_X6_meanHearers l D tk a hL hT im bs rd hS sh kb rf G d e T td te xq yq zq (2 ^ G 8 0 - 1) wq (by first | assumption | omega) (by first | assumption | omega) (by first | assumption | omega) (by first | assumption | omega) (by first | assumption | omega)) ⟨tb645, tb648, tb1, ⟨by decide, by decide, rfl⟩, rfl, rfl, Nat.le_of_ble_eq_true rfl, Nat.le_of_ble_eq_true rfl⟩ tb647 tbs16 0 6 rfl rfl rfl rfl [0, 1, 2, 3, 4, 5, 6, 7, 8, 9, 10, 11, 12, 13, 14, 15, 16, 17, 18, 19, 20] [] rfl rfl rfl rfl rfl (Nat.le_of_ble_eq_true rfl) ⟨Nat.le_of_ble_eq_true rfl, Nat.le_of_ble_eq_true rfl⟩ dX6_mean_50 (fun uq9 H locs _ X => ?_)
          have X : Hx D zA zs H locs (lW a hL hT im bs rd hS sh kb rf ++ gW tk hL G uq9.1 uq9.2.1 ++ gW tk hT uq9.2.2.1 uq9.2.2.2.1 uq9.2.2.2.2) := X
          exact hE (v := meanS (cgv G) xq yq zq (2 ^ G 8 0 - 1) wq) (uq9.1, uq9.2.1, uq9.2.2.1, uq9.2.2.2.1, uq9.2.2.2.2) (by simp [a_mean, cg0, cg1, cg2, cg3, cg5, cg6, cg7, cg8, c2, c4, c6, c7, tn_nI (k := xq) (by omega), tn_nI (k := yq) (by omega), tn_nI (k := zq) (by omega), tn_nI (k := wq) (by omega)]) trivial X dX6_mean_53
        · refine lv_ldc2 (v := (-1 : Int64)) hx hb C0.2.2.2.1 (ht _ tb644) dX6_mean_33 ?_
          exact hE (v := (-1 : Int64)) (d, e, T, td, te) (by simp [a_mean, cg0, cg1, cg2, cg3, cg5, cg6, cg7, cg8, c2, c4, c6, c8, tn_nI (k := xq) (by omega), tn_nI (k := yq) (by omega), tn_nI (k := zq) (by omega)]) trivial X dX6_mean_36
set_option maxHeartbeats 4000000 in
set_option maxRecDepth 100000 in
theorem c_X6_cut (l : Launch) (D : va_G) (tk : Nat → ClassId) (a : Nat) (hL hT : Nat → Nat) (im bs rd : Nat) (hS : Nat → Nat) (sh kb rf : Nat) (G : Nat → Nat → Nat) (d e : Nat → Nat) (x : Int32) (wb : Bool) (hw : GW G) : MX l yX6_cut cX6_cut 4 (some .int) ⟨2, 0, 0, 43⟩ D (TYS tk) [.ref a, .int x, .int (nI (rb wb))] (lW a hL hT im bs rd hS sh kb rf ++ gW tk hL G d e) (fun (_ : Unit) => True) (fun _ => some (.int (a_cut (cgv G) x))) (fun _ => lW a hL hT im bs rd hS sh kb rf ++ gW tk hL (cutG G x wb) d e) 0 0 := by
  refine MX.of_i (by decide) rfl ?_
  intro zp ze zs zm za zb zt zc zA zQ ls C0 hnm X hl hE
  have hx := C0.1
  have hb := C0.2.1
  have ht := C0.2.2.2.2.1
  have X : Hx D zA zs zs.heap [] (lW a hL hT im bs rd hS sh kb rf ++ gW tk hL G d e) := X
  have hl : lv_has ls 4 [(0, .ref a), (1, .int x), (2, .int (nI (rb wb)))] := hl
  obtain ⟨hw1, hw2, hw3, hw4, hw5, hw6, hw7, hw8⟩ := id hw
  have hw0 := hw.cut
  obtain ⟨H, hH⟩ : ∃ H, H = zs.heap := ⟨_, rfl⟩
  rw [← hH] at X ⊢
  obtain ⟨locs, hlo⟩ : ∃ L : List Loc, L = [] := ⟨_, rfl⟩
  rw [← hlo] at X ⊢
  refine lv_aload_n hx hb dX6_cut_0 rfl (lv_at hl 0 rfl) ?_
  refine g_get (v := .ref (hL 0)) C0 X kX6 0 0 tb200 rfl rfl rfl dX6_cut_1 ?_
  refine lv_iload_n hx hb dX6_cut_4 rfl (lv_at hl 1 rfl) ?_
  refine g_callV (As := [.int x]) (rest := []) (wr := (lW a hL hT im bs rd hS sh kb rf)) (C0.sz hl) X (c_X1_hasRoot l D tk hL G d e x (by first | assumption | omega)) ⟨tb473, tb476, tb2, ⟨by decide, by decide, rfl⟩, rfl, rfl, Nat.le_of_ble_eq_true rfl, Nat.le_of_ble_eq_true rfl⟩ tb474 tb475 1 1 rfl rfl rfl rfl [1, 2, 3, 4, 5, 6, 7, 8, 9, 10] [0] rfl rfl rfl rfl rfl (Nat.le_of_ble_eq_true rfl) ⟨Nat.le_of_ble_eq_true rfl, Nat.le_of_ble_eq_true rfl⟩ dX6_cut_5 (fun _ H locs _ X => ?_)
  have X : Hx D zA zs H locs (lW a hL hT im bs rd hS sh kb rf ++ gW tk hL G d e) := X
  refine g_ifneB (x := ix x (G 8 1)) (tgt := 13) C0 dX6_cut_8 rfl (fun c1 => ?_) (fun c2 => ?_)
  · obtain ⟨xq, hk_xq, rfl⟩ := ix_sp c1
    refine lv_aload_n hx hb dX6_cut_13 rfl (lv_at hl 0 rfl) ?_
    refine g_get (v := .ref (hL 0)) C0 X kX6 0 0 tb200 rfl rfl rfl dX6_cut_14 ?_
    refine lv_iload_n hx hb dX6_cut_17 rfl (lv_at hl 1 rfl) ?_
    refine g_callV (As := [.int (nI xq)]) (rest := []) (wr := (lW a hL hT im bs rd hS sh kb rf)) (C0.sz hl) X (c_X1_isWhole l D tk hL G d e xq (by first | assumption | omega) (by first | assumption | omega)) ⟨tb477, tb429, tb2, ⟨by decide, by decide, rfl⟩, rfl, rfl, Nat.le_of_ble_eq_true rfl, Nat.le_of_ble_eq_true rfl⟩ tb427 tb428 1 1 rfl rfl rfl rfl [1, 2, 3, 4, 5, 6, 7, 8, 9, 10] [0] rfl rfl rfl rfl rfl (Nat.le_of_ble_eq_true rfl) ⟨Nat.le_of_ble_eq_true rfl, Nat.le_of_ble_eq_true rfl⟩ dX6_cut_18 (fun _ H locs _ X => ?_)
    have X : Hx D zA zs H locs (lW a hL hT im bs rd hS sh kb rf ++ gW tk hL G d e) := X
    refine g_ifeqB (x := !(G 4 0).testBit xq) (tgt := 28) C0 dX6_cut_21 rfl (fun c3 => ?_) (fun c4 => ?_)
    · refine g_iconst (n := 1) C0 rfl dX6_cut_28 ?_
      refine lv_istore_n (lv' := [(3, .int (nI 1)), (0, .ref a), (1, .int (nI xq)), (2, .int (nI (rb wb)))]) hx hb dX6_cut_29 rfl hl (by decide) rfl (fun ls hl => ?_)
      refine lv_aload_n hx hb dX6_cut_30 rfl (lv_at hl 1 rfl) ?_
      refine g_get (v := .ref (hL 0)) C0 X kX6 0 0 tb200 rfl rfl rfl dX6_cut_31 ?_
      refine lv_iload_n hx hb dX6_cut_34 rfl (lv_at hl 3 rfl) ?_
      refine g_ifeqB (x := wb) (tgt := 52) C0 dX6_cut_35 rfl (fun c5 => ?_) (fun c6 => ?_)
      · refine lv_aload_n hx hb dX6_cut_52 rfl (lv_at hl 1 rfl) ?_
        refine g_get (v := .ref (hL 0)) C0 X kX6 0 0 tb200 rfl rfl rfl dX6_cut_53 ?_
        refine g_get (v := .int (nI (G 4 0))) C0 X kX1 1 6 tb47 rfl rfl rfl dX6_cut_56 ?_
        refine g_iconst (n := 1) C0 rfl dX6_cut_59 ?_
        refine lv_iload_n hx hb dX6_cut_60 rfl (lv_at hl 2 rfl) ?_
        refine g_ishl (n := 2 ^ xq) C0 (by exact sh_ok (by omega)) (by first | exact Nat.one_mul _ | rfl) dX6_cut_61 ?_
        refine lv_iconst (v := (-1)) hx hb dX6_cut_62 (by decide) ?_
        refine lv_ixor hx hb dX6_cut_63 ?_
        refine lv_iand hx hb dX6_cut_64 ?_
        refine g_top (y := nI (G 4 0 &&& (511 - 2 ^ xq))) (by exact andnot xq (by omega) (G 4 0) hw0) ?_
        refine g_put (v := .int (nI (G 4 0 &&& (511 - 2 ^ xq)))) (ft := .int) C0 X kX1 1 6 tb47 rfl rfl rfl rfl rfl rfl rfl dX6_cut_65 (fun H locs X => ?_)
        have X : Hx D zA zs H locs (lW a hL hT im bs rd hS sh kb rf ++ gW tk hL (u2 G 4 0 (G 4 0 &&& (511 - 2 ^ xq))) d e) := X
        refine lv_iload_n hx hb dX6_cut_68 rfl (lv_at hl 0 rfl) ?_
        exact hE (v := nI 1) () (by rw [a_cut, cg8, c1, if_pos rfl, tn_nI (k := xq) (by omega), cgv4' (by simpa using c3)]) trivial (X.to (by simp only [cutG, c1, c3, c5, tn_nI (k := xq) (by omega), if_true, if_false, Bool.false_eq_true, Bool.and_self, Bool.and_true, Bool.and_false, Bool.true_and, Bool.false_and, Bool.not_true, Bool.not_false, decide_true, decide_false])) dX6_cut_69
      · refine lv_aload_n hx hb dX6_cut_38 rfl (lv_at hl 1 rfl) ?_
        refine g_get (v := .ref (hL 0)) C0 X kX6 0 0 tb200 rfl rfl rfl dX6_cut_39 ?_
        refine g_get (v := .int (nI (G 4 0))) C0 X kX1 1 6 tb47 rfl rfl rfl dX6_cut_42 ?_
        refine g_iconst (n := 1) C0 rfl dX6_cut_45 ?_
        refine lv_iload_n hx hb dX6_cut_46 rfl (lv_at hl 2 rfl) ?_
        refine g_ishl (n := 2 ^ xq) C0 (by exact sh_ok (by omega)) (by first | exact Nat.one_mul _ | rfl) dX6_cut_47 ?_
        refine g_ior (n := (G 4 0) ||| (2 ^ xq)) C0 rfl dX6_cut_48 ?_
        refine lv_goto (tgt := 65) hx hb dX6_cut_49 (by decide) ?_
        refine g_put (v := .int (nI ((G 4 0) ||| (2 ^ xq)))) (ft := .int) C0 X kX1 1 6 tb47 rfl rfl rfl rfl rfl rfl rfl dX6_cut_65 (fun H locs X => ?_)
        have X : Hx D zA zs H locs (lW a hL hT im bs rd hS sh kb rf ++ gW tk hL (u2 G 4 0 ((G 4 0) ||| (2 ^ xq))) d e) := X
        refine lv_iload_n hx hb dX6_cut_68 rfl (lv_at hl 0 rfl) ?_
        exact hE (v := nI 1) () (by rw [a_cut, cg8, c1, if_pos rfl, tn_nI (k := xq) (by omega), cgv4' (by simpa using c3)]) trivial (X.to (by simp only [cutG, c1, c3, c6, tn_nI (k := xq) (by omega), if_true, if_false, Bool.false_eq_true, Bool.and_self, Bool.and_true, Bool.and_false, Bool.true_and, Bool.false_and, Bool.not_true, Bool.not_false, decide_true, decide_false])) dX6_cut_69
    · refine g_iconst (n := 0) C0 rfl dX6_cut_24 ?_
      refine lv_goto (tgt := 29) hx hb dX6_cut_25 (by decide) ?_
      refine lv_istore_n (lv' := [(3, .int (nI 0)), (0, .ref a), (1, .int (nI xq)), (2, .int (nI (rb wb)))]) hx hb dX6_cut_29 rfl hl (by decide) rfl (fun ls hl => ?_)
      refine lv_aload_n hx hb dX6_cut_30 rfl (lv_at hl 1 rfl) ?_
      refine g_get (v := .ref (hL 0)) C0 X kX6 0 0 tb200 rfl rfl rfl dX6_cut_31 ?_
      refine lv_iload_n hx hb dX6_cut_34 rfl (lv_at hl 3 rfl) ?_
      refine g_ifeqB (x := wb) (tgt := 52) C0 dX6_cut_35 rfl (fun c7 => ?_) (fun c8 => ?_)
      · refine lv_aload_n hx hb dX6_cut_52 rfl (lv_at hl 1 rfl) ?_
        refine g_get (v := .ref (hL 0)) C0 X kX6 0 0 tb200 rfl rfl rfl dX6_cut_53 ?_
        refine g_get (v := .int (nI (G 4 0))) C0 X kX1 1 6 tb47 rfl rfl rfl dX6_cut_56 ?_
        refine g_iconst (n := 1) C0 rfl dX6_cut_59 ?_
        refine lv_iload_n hx hb dX6_cut_60 rfl (lv_at hl 2 rfl) ?_
        refine g_ishl (n := 2 ^ xq) C0 (by exact sh_ok (by omega)) (by first | exact Nat.one_mul _ | rfl) dX6_cut_61 ?_
        refine lv_iconst (v := (-1)) hx hb dX6_cut_62 (by decide) ?_
        refine lv_ixor hx hb dX6_cut_63 ?_
        refine lv_iand hx hb dX6_cut_64 ?_
        refine g_top (y := nI (G 4 0 &&& (511 - 2 ^ xq))) (by exact andnot xq (by omega) (G 4 0) hw0) ?_
        refine g_put (v := .int (nI (G 4 0 &&& (511 - 2 ^ xq)))) (ft := .int) C0 X kX1 1 6 tb47 rfl rfl rfl rfl rfl rfl rfl dX6_cut_65 (fun H locs X => ?_)
        have X : Hx D zA zs H locs (lW a hL hT im bs rd hS sh kb rf ++ gW tk hL (u2 G 4 0 (G 4 0 &&& (511 - 2 ^ xq))) d e) := X
        refine lv_iload_n hx hb dX6_cut_68 rfl (lv_at hl 0 rfl) ?_
        exact hE (v := nI 0) () (by rw [a_cut, cg8, c1, if_pos rfl, tn_nI (k := xq) (by omega), cgv4 (by simpa using c4)]) trivial (X.to (by simp only [cutG, c1, c4, c7, tn_nI (k := xq) (by omega), if_true, if_false, Bool.false_eq_true, Bool.and_self, Bool.and_true, Bool.and_false, Bool.true_and, Bool.false_and, Bool.not_true, Bool.not_false, decide_true, decide_false])) dX6_cut_69
      · refine lv_aload_n hx hb dX6_cut_38 rfl (lv_at hl 1 rfl) ?_
        refine g_get (v := .ref (hL 0)) C0 X kX6 0 0 tb200 rfl rfl rfl dX6_cut_39 ?_
        refine g_get (v := .int (nI (G 4 0))) C0 X kX1 1 6 tb47 rfl rfl rfl dX6_cut_42 ?_
        refine g_iconst (n := 1) C0 rfl dX6_cut_45 ?_
        refine lv_iload_n hx hb dX6_cut_46 rfl (lv_at hl 2 rfl) ?_
        refine g_ishl (n := 2 ^ xq) C0 (by exact sh_ok (by omega)) (by first | exact Nat.one_mul _ | rfl) dX6_cut_47 ?_
        refine g_ior (n := (G 4 0) ||| (2 ^ xq)) C0 rfl dX6_cut_48 ?_
        refine lv_goto (tgt := 65) hx hb dX6_cut_49 (by decide) ?_
        refine g_put (v := .int (nI ((G 4 0) ||| (2 ^ xq)))) (ft := .int) C0 X kX1 1 6 tb47 rfl rfl rfl rfl rfl rfl rfl dX6_cut_65 (fun H locs X => ?_)
        have X : Hx D zA zs H locs (lW a hL hT im bs rd hS sh kb rf ++ gW tk hL (u2 G 4 0 ((G 4 0) ||| (2 ^ xq))) d e) := X
        refine lv_iload_n hx hb dX6_cut_68 rfl (lv_at hl 0 rfl) ?_
        exact hE (v := nI 0) () (by rw [a_cut, cg8, c1, if_pos rfl, tn_nI (k := xq) (by omega), cgv4 (by simpa using c4)]) trivial (X.to (by simp only [cutG, c1, c4, c8, tn_nI (k := xq) (by omega), if_true, if_false, Bool.false_eq_true, Bool.and_self, Bool.and_true, Bool.and_false, Bool.true_and, Bool.false_and, Bool.not_true, Bool.not_false, decide_true, decide_false])) dX6_cut_69
  · refine lv_iconst (v := (-1)) hx hb dX6_cut_11 (by decide) ?_
    exact hE (v := (-1)) () (by simp [a_cut, cg0, cg1, cg2, cg3, cg5, cg6, cg7, cg8, c2]) trivial (X.to (by simp [cutG, c2])) dX6_cut_12
set_option maxHeartbeats 4000000 in
set_option maxRecDepth 100000 in
theorem c_X6_keep (l : Launch) (D : va_G) (tk : Nat → ClassId) (a : Nat) (hL hT : Nat → Nat) (im bs rd : Nat) (hS : Nat → Nat) (sh kb rf : Nat) (hI hJ : Nat → Nat) (I0 J0 : Nat → Nat → Nat) (di ei dj ej : Nat → Nat) (G : Nat → Nat → Nat) (d e : Nat → Nat) (x : Int32) (hkb : kb < 4) : MX l yX6_keep cX6_keep 3 (some .int) ⟨2, 0, 0, 61⟩ D (TYS tk) [.ref a, .int x] (lW a hL hT im bs rd hS sh kb rf ++ imW tk im (hI 0) (hJ 0) ++ gW tk hL G d e ++ gW tk hI I0 di ei ++ gW tk hJ J0 dj ej) (fun (_ : Unit) => True) (fun _ => some (.int (a_keep kb x))) (fun _ => lW a hL hT im bs rd hS sh (keepB kb x) rf ++ imW tk im (hI 0) (hJ 0) ++ gW tk hL G d e ++ gW tk hI (keepG G I0 0 x) di ei ++ gW tk hJ (keepG G J0 1 x) dj ej) 0 0 := by
  refine MX.of_i (by decide) rfl ?_
  intro zp ze zs zm za zb zt zc zA zQ ls C0 hnm X hl hE
  have hx := C0.1
  have hb := C0.2.1
  have ht := C0.2.2.2.2.1
  have X : Hx D zA zs zs.heap [] (lW a hL hT im bs rd hS sh kb rf ++ imW tk im (hI 0) (hJ 0) ++ gW tk hL G d e ++ gW tk hI I0 di ei ++ gW tk hJ J0 dj ej) := X
  have hl : lv_has ls 3 [(0, .ref a), (1, .int x)] := hl
  obtain ⟨H, hH⟩ : ∃ H, H = zs.heap := ⟨_, rfl⟩
  rw [← hH] at X ⊢
  obtain ⟨locs, hlo⟩ : ∃ L : List Loc, L = [] := ⟨_, rfl⟩
  rw [← hlo] at X ⊢
  refine lv_aload_n hx hb dX6_keep_0 rfl (lv_at hl 0 rfl) ?_
  refine lv_iload_n hx hb dX6_keep_1 rfl (lv_at hl 1 rfl) ?_
  refine g_callV (As := [.int x]) (rest := []) (wr := (gW tk hL G d e ++ gW tk hI I0 di ei ++ gW tk hJ J0 dj ej)) (C0.sz hl) X (c_X6_isImage l D tk a hL hT im bs rd hS sh kb rf (hI 0) (hJ 0) x) ⟨tb724, tb727, tb1, ⟨by decide, by decide, rfl⟩, rfl, rfl, Nat.le_of_ble_eq_true rfl, Nat.le_of_ble_eq_true rfl⟩ tb726 tbs18 0 6 rfl rfl rfl rfl [0, 1] [2, 3, 4, 5, 6, 7, 8, 9, 10, 11, 12, 13, 14, 15, 16, 17, 18, 19, 20, 21, 22, 23, 24, 25, 26, 27, 28, 29, 30, 31] rfl rfl rfl rfl rfl (Nat.le_of_ble_eq_true rfl) ⟨Nat.le_of_ble_eq_true rfl, Nat.le_of_ble_eq_true rfl⟩ dX6_keep_2 (fun _ H locs _ X => ?_)
  have X : Hx D zA zs H locs (gW tk hL G d e ++ gW tk hI I0 di ei ++ gW tk hJ J0 dj ej ++ lW a hL hT im bs rd hS sh kb rf ++ imW tk im (hI 0) (hJ 0)) := X
  have X : Hx D zA zs H locs (lW a hL hT im bs rd hS sh kb rf ++ imW tk im (hI 0) (hJ 0) ++ gW tk hL G d e ++ gW tk hI I0 di ei ++ gW tk hJ J0 dj ej) := X.sub [30, 31, 0, 1, 2, 3, 4, 5, 6, 7, 8, 9, 10, 11, 12, 13, 14, 15, 16, 17, 18, 19, 20, 21, 22, 23, 24, 25, 26, 27, 28, 29] rfl rfl
  refine g_ifneB (x := rg x 0 1) (tgt := 10) C0 dX6_keep_5 rfl (fun c1 => ?_) (fun c2 => ?_)
  · obtain ⟨xq, hk_xqa, hk_xqb, hk_xqc, rfl⟩ := rg_sp c1
    refine lv_aload_n hx hb dX6_keep_10 rfl (lv_at hl 0 rfl) ?_
    refine lv_iload_n hx hb dX6_keep_11 rfl (lv_at hl 1 rfl) ?_
    refine g_callV (As := [.int (nI xq)]) (rest := []) (wr := (imW tk im (hI 0) (hJ 0) ++ gW tk hL G d e ++ gW tk hI I0 di ei ++ gW tk hJ J0 dj ej)) (C0.sz hl) X (c_X6_isKept l D tk a hL hT im bs rd hS sh kb rf xq (by first | assumption | omega) (by first | assumption | omega)) ⟨tb728, tb731, tb1, ⟨by decide, by decide, rfl⟩, rfl, rfl, Nat.le_of_ble_eq_true rfl, Nat.le_of_ble_eq_true rfl⟩ tb730 tbs19 0 6 rfl rfl rfl rfl [0] [1, 2, 3, 4, 5, 6, 7, 8, 9, 10, 11, 12, 13, 14, 15, 16, 17, 18, 19, 20, 21, 22, 23, 24, 25, 26, 27, 28, 29, 30, 31] rfl rfl rfl rfl rfl (Nat.le_of_ble_eq_true rfl) ⟨Nat.le_of_ble_eq_true rfl, Nat.le_of_ble_eq_true rfl⟩ dX6_keep_12 (fun _ H locs _ X => ?_)
    have X : Hx D zA zs H locs (imW tk im (hI 0) (hJ 0) ++ gW tk hL G d e ++ gW tk hI I0 di ei ++ gW tk hJ J0 dj ej ++ lW a hL hT im bs rd hS sh kb rf) := X
    have X : Hx D zA zs H locs (lW a hL hT im bs rd hS sh kb rf ++ imW tk im (hI 0) (hJ 0) ++ gW tk hL G d e ++ gW tk hI I0 di ei ++ gW tk hJ J0 dj ej) := X.sub [31, 0, 1, 2, 3, 4, 5, 6, 7, 8, 9, 10, 11, 12, 13, 14, 15, 16, 17, 18, 19, 20, 21, 22, 23, 24, 25, 26, 27, 28, 29, 30] rfl rfl
    refine g_ifeqB (x := kb.testBit xq) (tgt := 22) C0 dX6_keep_15 rfl (fun c3 => ?_) (fun c4 => ?_)
    · refine g_iconst (n := 0) C0 rfl dX6_keep_22 ?_
      refine lv_istore_n (lv' := [(2, .int (nI 0)), (0, .ref a), (1, .int (nI xq))]) hx hb dX6_keep_23 rfl hl (by decide) rfl (fun ls hl => ?_)
      rcases (show xq = 0 ∨ xq = 1 by omega) with rfl | rfl
      · refine lv_aload_n hx hb dX6_keep_24 rfl (lv_at hl 1 rfl) ?_
        refine g_get (v := .ref im) C0 X kX6 0 2 tb202 rfl rfl rfl dX6_keep_25 ?_
        refine lv_iload_n hx hb dX6_keep_28 rfl (lv_at hl 2 rfl) ?_
        refine g_aald (v := hI 0) (i := 0) C0 X 1 3 rfl rfl (by decide) rfl rfl dX6_keep_29 ?_
        refine lv_aload_n hx hb dX6_keep_30 rfl (lv_at hl 1 rfl) ?_
        refine g_get (v := .ref (hL 0)) C0 X kX6 0 0 tb200 rfl rfl rfl dX6_keep_31 ?_
        refine g_callV (As := [.ref (hL 0)]) (rest := []) (wr := (lW a hL hT im bs rd hS sh kb rf ++ imW tk im (hI 0) (hJ 0) ++ gW tk hJ J0 dj ej)) (C0.sz hl) X (c_X1_become l D tk hI I0 di ei hL G d e) ⟨tb392, tb395, tb2, ⟨by decide, by decide, rfl⟩, rfl, rfl, Nat.le_of_ble_eq_true rfl, Nat.le_of_ble_eq_true rfl⟩ tb393 tb394 12 1 rfl rfl rfl rfl [12, 13, 14, 15, 16, 17, 18, 19, 20, 21, 2, 3, 4, 5, 6, 7, 8, 9, 10, 11] [0, 1, 22, 23, 24, 25, 26, 27, 28, 29, 30, 31] rfl rfl rfl rfl rfl (Nat.le_of_ble_eq_true rfl) ⟨Nat.le_of_ble_eq_true rfl, Nat.le_of_ble_eq_true rfl⟩ dX6_keep_34 (fun _ H locs _ X => ?_)
        have X : Hx D zA zs H locs (lW a hL hT im bs rd hS sh kb rf ++ imW tk im (hI 0) (hJ 0) ++ gW tk hJ J0 dj ej ++ gW tk hI G di ei ++ gW tk hL G d e) := X
        have X : Hx D zA zs H locs (lW a hL hT im bs rd hS sh kb rf ++ imW tk im (hI 0) (hJ 0) ++ gW tk hL G d e ++ gW tk hI G di ei ++ gW tk hJ J0 dj ej) := X.sub [0, 1, 22, 23, 24, 25, 26, 27, 28, 29, 30, 31, 12, 13, 14, 15, 16, 17, 18, 19, 20, 21, 2, 3, 4, 5, 6, 7, 8, 9, 10, 11] rfl rfl
        refine lv_aload_n hx hb dX6_keep_37 rfl (lv_at hl 1 rfl) ?_
        refine lv_dup hx hb dX6_keep_38 rfl ?_
        refine g_get (v := .int (nI kb)) C0 X kX6 0 7 tb207 rfl rfl rfl dX6_keep_39 ?_
        refine g_iconst (n := 1) C0 rfl dX6_keep_42 ?_
        refine lv_iload_n hx hb dX6_keep_43 rfl (lv_at hl 2 rfl) ?_
        refine g_ishl (n := 2 ^ 0) C0 (by exact sh_ok (by omega)) (by first | exact Nat.one_mul _ | rfl) dX6_keep_44 ?_
        refine g_ior (n := kb ||| (2 ^ 0)) C0 rfl dX6_keep_45 ?_
        refine g_put (v := .int (nI (kb ||| (2 ^ 0)))) (ft := .int) C0 X kX6 0 7 tb207 rfl rfl rfl rfl rfl rfl rfl dX6_keep_46 (fun H locs X => ?_)
        have X : Hx D zA zs H locs (lW a hL hT im bs rd hS sh (kb ||| (2 ^ 0)) rf ++ imW tk im (hI 0) (hJ 0) ++ gW tk hL G d e ++ gW tk hI G di ei ++ gW tk hJ J0 dj ej) := X
        refine lv_iload_n hx hb dX6_keep_49 rfl (lv_at hl 0 rfl) ?_
        exact hE (v := nI 0) () (by simp only [a_keep, c1, c3, tn_nI (k := 0) (by omega), if_true, if_false, Bool.false_eq_true, Bool.and_self, Bool.and_true, Bool.and_false, Bool.true_and, Bool.false_and, Bool.not_true, Bool.not_false, decide_true, decide_false] <;> rfl) trivial (X.to (by simp only [keepB, keepG, c1, c3, tn_nI (k := 0) (by omega), if_true, if_false, Bool.false_eq_true, Bool.and_self, Bool.and_true, Bool.and_false, Bool.true_and, Bool.false_and, Bool.not_true, Bool.not_false, decide_true, decide_false] <;> rfl)) dX6_keep_50
      · refine lv_aload_n hx hb dX6_keep_24 rfl (lv_at hl 1 rfl) ?_
        refine g_get (v := .ref im) C0 X kX6 0 2 tb202 rfl rfl rfl dX6_keep_25 ?_
        refine lv_iload_n hx hb dX6_keep_28 rfl (lv_at hl 2 rfl) ?_
        refine g_aald (v := hJ 0) (i := 1) C0 X 1 3 rfl rfl (by decide) rfl rfl dX6_keep_29 ?_
        refine lv_aload_n hx hb dX6_keep_30 rfl (lv_at hl 1 rfl) ?_
        refine g_get (v := .ref (hL 0)) C0 X kX6 0 0 tb200 rfl rfl rfl dX6_keep_31 ?_
        refine g_callV (As := [.ref (hL 0)]) (rest := []) (wr := (lW a hL hT im bs rd hS sh kb rf ++ imW tk im (hI 0) (hJ 0) ++ gW tk hI I0 di ei)) (C0.sz hl) X (c_X1_become l D tk hJ J0 dj ej hL G d e) ⟨tb392, tb395, tb2, ⟨by decide, by decide, rfl⟩, rfl, rfl, Nat.le_of_ble_eq_true rfl, Nat.le_of_ble_eq_true rfl⟩ tb393 tb394 22 1 rfl rfl rfl rfl [22, 23, 24, 25, 26, 27, 28, 29, 30, 31, 2, 3, 4, 5, 6, 7, 8, 9, 10, 11] [0, 1, 12, 13, 14, 15, 16, 17, 18, 19, 20, 21] rfl rfl rfl rfl rfl (Nat.le_of_ble_eq_true rfl) ⟨Nat.le_of_ble_eq_true rfl, Nat.le_of_ble_eq_true rfl⟩ dX6_keep_34 (fun _ H locs _ X => ?_)
        have X : Hx D zA zs H locs (lW a hL hT im bs rd hS sh kb rf ++ imW tk im (hI 0) (hJ 0) ++ gW tk hI I0 di ei ++ gW tk hJ G dj ej ++ gW tk hL G d e) := X
        have X : Hx D zA zs H locs (lW a hL hT im bs rd hS sh kb rf ++ imW tk im (hI 0) (hJ 0) ++ gW tk hL G d e ++ gW tk hI I0 di ei ++ gW tk hJ G dj ej) := X.sub [0, 1, 22, 23, 24, 25, 26, 27, 28, 29, 30, 31, 2, 3, 4, 5, 6, 7, 8, 9, 10, 11, 12, 13, 14, 15, 16, 17, 18, 19, 20, 21] rfl rfl
        refine lv_aload_n hx hb dX6_keep_37 rfl (lv_at hl 1 rfl) ?_
        refine lv_dup hx hb dX6_keep_38 rfl ?_
        refine g_get (v := .int (nI kb)) C0 X kX6 0 7 tb207 rfl rfl rfl dX6_keep_39 ?_
        refine g_iconst (n := 1) C0 rfl dX6_keep_42 ?_
        refine lv_iload_n hx hb dX6_keep_43 rfl (lv_at hl 2 rfl) ?_
        refine g_ishl (n := 2 ^ 1) C0 (by exact sh_ok (by omega)) (by first | exact Nat.one_mul _ | rfl) dX6_keep_44 ?_
        refine g_ior (n := kb ||| (2 ^ 1)) C0 rfl dX6_keep_45 ?_
        refine g_put (v := .int (nI (kb ||| (2 ^ 1)))) (ft := .int) C0 X kX6 0 7 tb207 rfl rfl rfl rfl rfl rfl rfl dX6_keep_46 (fun H locs X => ?_)
        have X : Hx D zA zs H locs (lW a hL hT im bs rd hS sh (kb ||| (2 ^ 1)) rf ++ imW tk im (hI 0) (hJ 0) ++ gW tk hL G d e ++ gW tk hI I0 di ei ++ gW tk hJ G dj ej) := X
        refine lv_iload_n hx hb dX6_keep_49 rfl (lv_at hl 0 rfl) ?_
        exact hE (v := nI 0) () (by simp only [a_keep, c1, c3, tn_nI (k := 1) (by omega), if_true, if_false, Bool.false_eq_true, Bool.and_self, Bool.and_true, Bool.and_false, Bool.true_and, Bool.false_and, Bool.not_true, Bool.not_false, decide_true, decide_false] <;> rfl) trivial (X.to (by simp only [keepB, keepG, c1, c3, tn_nI (k := 1) (by omega), if_true, if_false, Bool.false_eq_true, Bool.and_self, Bool.and_true, Bool.and_false, Bool.true_and, Bool.false_and, Bool.not_true, Bool.not_false, decide_true, decide_false] <;> rfl)) dX6_keep_50
    · refine g_iconst (n := 1) C0 rfl dX6_keep_18 ?_
      refine lv_goto (tgt := 23) hx hb dX6_keep_19 (by decide) ?_
      refine lv_istore_n (lv' := [(2, .int (nI 1)), (0, .ref a), (1, .int (nI xq))]) hx hb dX6_keep_23 rfl hl (by decide) rfl (fun ls hl => ?_)
      rcases (show xq = 0 ∨ xq = 1 by omega) with rfl | rfl
      · refine lv_aload_n hx hb dX6_keep_24 rfl (lv_at hl 1 rfl) ?_
        refine g_get (v := .ref im) C0 X kX6 0 2 tb202 rfl rfl rfl dX6_keep_25 ?_
        refine lv_iload_n hx hb dX6_keep_28 rfl (lv_at hl 2 rfl) ?_
        refine g_aald (v := hI 0) (i := 0) C0 X 1 3 rfl rfl (by decide) rfl rfl dX6_keep_29 ?_
        refine lv_aload_n hx hb dX6_keep_30 rfl (lv_at hl 1 rfl) ?_
        refine g_get (v := .ref (hL 0)) C0 X kX6 0 0 tb200 rfl rfl rfl dX6_keep_31 ?_
        refine g_callV (As := [.ref (hL 0)]) (rest := []) (wr := (lW a hL hT im bs rd hS sh kb rf ++ imW tk im (hI 0) (hJ 0) ++ gW tk hJ J0 dj ej)) (C0.sz hl) X (c_X1_become l D tk hI I0 di ei hL G d e) ⟨tb392, tb395, tb2, ⟨by decide, by decide, rfl⟩, rfl, rfl, Nat.le_of_ble_eq_true rfl, Nat.le_of_ble_eq_true rfl⟩ tb393 tb394 12 1 rfl rfl rfl rfl [12, 13, 14, 15, 16, 17, 18, 19, 20, 21, 2, 3, 4, 5, 6, 7, 8, 9, 10, 11] [0, 1, 22, 23, 24, 25, 26, 27, 28, 29, 30, 31] rfl rfl rfl rfl rfl (Nat.le_of_ble_eq_true rfl) ⟨Nat.le_of_ble_eq_true rfl, Nat.le_of_ble_eq_true rfl⟩ dX6_keep_34 (fun _ H locs _ X => ?_)
        have X : Hx D zA zs H locs (lW a hL hT im bs rd hS sh kb rf ++ imW tk im (hI 0) (hJ 0) ++ gW tk hJ J0 dj ej ++ gW tk hI G di ei ++ gW tk hL G d e) := X
        have X : Hx D zA zs H locs (lW a hL hT im bs rd hS sh kb rf ++ imW tk im (hI 0) (hJ 0) ++ gW tk hL G d e ++ gW tk hI G di ei ++ gW tk hJ J0 dj ej) := X.sub [0, 1, 22, 23, 24, 25, 26, 27, 28, 29, 30, 31, 12, 13, 14, 15, 16, 17, 18, 19, 20, 21, 2, 3, 4, 5, 6, 7, 8, 9, 10, 11] rfl rfl
        refine lv_aload_n hx hb dX6_keep_37 rfl (lv_at hl 1 rfl) ?_
        refine lv_dup hx hb dX6_keep_38 rfl ?_
        refine g_get (v := .int (nI kb)) C0 X kX6 0 7 tb207 rfl rfl rfl dX6_keep_39 ?_
        refine g_iconst (n := 1) C0 rfl dX6_keep_42 ?_
        refine lv_iload_n hx hb dX6_keep_43 rfl (lv_at hl 2 rfl) ?_
        refine g_ishl (n := 2 ^ 0) C0 (by exact sh_ok (by omega)) (by first | exact Nat.one_mul _ | rfl) dX6_keep_44 ?_
        refine g_ior (n := kb ||| (2 ^ 0)) C0 rfl dX6_keep_45 ?_
        refine g_put (v := .int (nI (kb ||| (2 ^ 0)))) (ft := .int) C0 X kX6 0 7 tb207 rfl rfl rfl rfl rfl rfl rfl dX6_keep_46 (fun H locs X => ?_)
        have X : Hx D zA zs H locs (lW a hL hT im bs rd hS sh (kb ||| (2 ^ 0)) rf ++ imW tk im (hI 0) (hJ 0) ++ gW tk hL G d e ++ gW tk hI G di ei ++ gW tk hJ J0 dj ej) := X
        refine lv_iload_n hx hb dX6_keep_49 rfl (lv_at hl 0 rfl) ?_
        exact hE (v := nI 1) () (by simp only [a_keep, c1, c4, tn_nI (k := 0) (by omega), if_true, if_false, Bool.false_eq_true, Bool.and_self, Bool.and_true, Bool.and_false, Bool.true_and, Bool.false_and, Bool.not_true, Bool.not_false, decide_true, decide_false] <;> rfl) trivial (X.to (by simp only [keepB, keepG, c1, c4, tn_nI (k := 0) (by omega), if_true, if_false, Bool.false_eq_true, Bool.and_self, Bool.and_true, Bool.and_false, Bool.true_and, Bool.false_and, Bool.not_true, Bool.not_false, decide_true, decide_false] <;> rfl)) dX6_keep_50
      · refine lv_aload_n hx hb dX6_keep_24 rfl (lv_at hl 1 rfl) ?_
        refine g_get (v := .ref im) C0 X kX6 0 2 tb202 rfl rfl rfl dX6_keep_25 ?_
        refine lv_iload_n hx hb dX6_keep_28 rfl (lv_at hl 2 rfl) ?_
        refine g_aald (v := hJ 0) (i := 1) C0 X 1 3 rfl rfl (by decide) rfl rfl dX6_keep_29 ?_
        refine lv_aload_n hx hb dX6_keep_30 rfl (lv_at hl 1 rfl) ?_
        refine g_get (v := .ref (hL 0)) C0 X kX6 0 0 tb200 rfl rfl rfl dX6_keep_31 ?_
        refine g_callV (As := [.ref (hL 0)]) (rest := []) (wr := (lW a hL hT im bs rd hS sh kb rf ++ imW tk im (hI 0) (hJ 0) ++ gW tk hI I0 di ei)) (C0.sz hl) X (c_X1_become l D tk hJ J0 dj ej hL G d e) ⟨tb392, tb395, tb2, ⟨by decide, by decide, rfl⟩, rfl, rfl, Nat.le_of_ble_eq_true rfl, Nat.le_of_ble_eq_true rfl⟩ tb393 tb394 22 1 rfl rfl rfl rfl [22, 23, 24, 25, 26, 27, 28, 29, 30, 31, 2, 3, 4, 5, 6, 7, 8, 9, 10, 11] [0, 1, 12, 13, 14, 15, 16, 17, 18, 19, 20, 21] rfl rfl rfl rfl rfl (Nat.le_of_ble_eq_true rfl) ⟨Nat.le_of_ble_eq_true rfl, Nat.le_of_ble_eq_true rfl⟩ dX6_keep_34 (fun _ H locs _ X => ?_)
        have X : Hx D zA zs H locs (lW a hL hT im bs rd hS sh kb rf ++ imW tk im (hI 0) (hJ 0) ++ gW tk hI I0 di ei ++ gW tk hJ G dj ej ++ gW tk hL G d e) := X
        have X : Hx D zA zs H locs (lW a hL hT im bs rd hS sh kb rf ++ imW tk im (hI 0) (hJ 0) ++ gW tk hL G d e ++ gW tk hI I0 di ei ++ gW tk hJ G dj ej) := X.sub [0, 1, 22, 23, 24, 25, 26, 27, 28, 29, 30, 31, 2, 3, 4, 5, 6, 7, 8, 9, 10, 11, 12, 13, 14, 15, 16, 17, 18, 19, 20, 21] rfl rfl
        refine lv_aload_n hx hb dX6_keep_37 rfl (lv_at hl 1 rfl) ?_
        refine lv_dup hx hb dX6_keep_38 rfl ?_
        refine g_get (v := .int (nI kb)) C0 X kX6 0 7 tb207 rfl rfl rfl dX6_keep_39 ?_
        refine g_iconst (n := 1) C0 rfl dX6_keep_42 ?_
        refine lv_iload_n hx hb dX6_keep_43 rfl (lv_at hl 2 rfl) ?_
        refine g_ishl (n := 2 ^ 1) C0 (by exact sh_ok (by omega)) (by first | exact Nat.one_mul _ | rfl) dX6_keep_44 ?_
        refine g_ior (n := kb ||| (2 ^ 1)) C0 rfl dX6_keep_45 ?_
        refine g_put (v := .int (nI (kb ||| (2 ^ 1)))) (ft := .int) C0 X kX6 0 7 tb207 rfl rfl rfl rfl rfl rfl rfl dX6_keep_46 (fun H locs X => ?_)
        have X : Hx D zA zs H locs (lW a hL hT im bs rd hS sh (kb ||| (2 ^ 1)) rf ++ imW tk im (hI 0) (hJ 0) ++ gW tk hL G d e ++ gW tk hI I0 di ei ++ gW tk hJ G dj ej) := X
        refine lv_iload_n hx hb dX6_keep_49 rfl (lv_at hl 0 rfl) ?_
        exact hE (v := nI 1) () (by simp only [a_keep, c1, c4, tn_nI (k := 1) (by omega), if_true, if_false, Bool.false_eq_true, Bool.and_self, Bool.and_true, Bool.and_false, Bool.true_and, Bool.false_and, Bool.not_true, Bool.not_false, decide_true, decide_false] <;> rfl) trivial (X.to (by simp only [keepB, keepG, c1, c4, tn_nI (k := 1) (by omega), if_true, if_false, Bool.false_eq_true, Bool.and_self, Bool.and_true, Bool.and_false, Bool.true_and, Bool.false_and, Bool.not_true, Bool.not_false, decide_true, decide_false] <;> rfl)) dX6_keep_50
  · refine lv_iconst (v := (-1)) hx hb dX6_keep_8 (by decide) ?_
    exact hE (v := (-1)) () (by simp only [a_keep, c2, if_true, if_false, Bool.false_eq_true, Bool.and_self, Bool.and_true, Bool.and_false, Bool.true_and, Bool.false_and, Bool.not_true, Bool.not_false, decide_true, decide_false] <;> rfl) trivial (X.to (by simp only [keepB, keepG, c2, if_true, if_false, Bool.false_eq_true, Bool.and_self, Bool.and_true, Bool.and_false, Bool.true_and, Bool.false_and, Bool.not_true, Bool.not_false, decide_true, decide_false] <;> rfl)) dX6_keep_9
set_option maxHeartbeats 4000000 in
set_option maxRecDepth 100000 in
theorem c_X6_back (l : Launch) (D : va_G) (tk : Nat → ClassId) (a : Nat) (hL hT : Nat → Nat) (im bs rd : Nat) (hS : Nat → Nat) (sh kb rf : Nat) (hI hJ : Nat → Nat) (I0 J0 : Nat → Nat → Nat) (di ei dj ej : Nat → Nat) (G : Nat → Nat → Nat) (d e : Nat → Nat) (x : Int32) (hkb : kb < 4) (hwI : kb.testBit 0 = true → GW I0) (hwJ : kb.testBit 1 = true → GW J0) : MX l yX6_back cX6_back 2 (some .int) ⟨5, 0, 0, 134⟩ D (TYS tk) [.ref a, .int x] (lW a hL hT im bs rd hS sh kb rf ++ imW tk im (hI 0) (hJ 0) ++ gW tk hL G d e ++ gW tk hI I0 di ei ++ gW tk hJ J0 dj ej) (fun (u : (Nat → Nat) × (Nat → Nat)) => True) (fun u => some (.int (a_back (kb.testBit 0) (kb.testBit 1) (cgv I0) (cgv J0) x))) (fun u => lW a hL hT im bs rd hS sh kb rf ++ imW tk im (hI 0) (hJ 0) ++ gW tk hL (backG kb G I0 J0 x) u.1 u.2 ++ gW tk hI I0 di ei ++ gW tk hJ J0 dj ej) 0 0 := by
  refine MX.of_i (by decide) rfl ?_
  intro zp ze zs zm za zb zt zc zA zQ ls C0 hnm X hl hE
  have hx := C0.1
  have hb := C0.2.1
  have ht := C0.2.2.2.2.1
  have X : Hx D zA zs zs.heap [] (lW a hL hT im bs rd hS sh kb rf ++ imW tk im (hI 0) (hJ 0) ++ gW tk hL G d e ++ gW tk hI I0 di ei ++ gW tk hJ J0 dj ej) := X
  have hl : lv_has ls 2 [(0, .ref a), (1, .int x)] := hl
  obtain ⟨H, hH⟩ : ∃ H, H = zs.heap := ⟨_, rfl⟩
  rw [← hH] at X ⊢
  obtain ⟨locs, hlo⟩ : ∃ L : List Loc, L = [] := ⟨_, rfl⟩
  rw [← hlo] at X ⊢
  refine lv_aload_n hx hb dX6_back_0 rfl (lv_at hl 0 rfl) ?_
  refine lv_iload_n hx hb dX6_back_1 rfl (lv_at hl 1 rfl) ?_
  refine g_callV (As := [.int x]) (rest := []) (wr := (gW tk hL G d e ++ gW tk hI I0 di ei ++ gW tk hJ J0 dj ej)) (C0.sz hl) X (c_X6_isImage l D tk a hL hT im bs rd hS sh kb rf (hI 0) (hJ 0) x) ⟨tb724, tb727, tb1, ⟨by decide, by decide, rfl⟩, rfl, rfl, Nat.le_of_ble_eq_true rfl, Nat.le_of_ble_eq_true rfl⟩ tb726 tbs18 0 6 rfl rfl rfl rfl [0, 1] [2, 3, 4, 5, 6, 7, 8, 9, 10, 11, 12, 13, 14, 15, 16, 17, 18, 19, 20, 21, 22, 23, 24, 25, 26, 27, 28, 29, 30, 31] rfl rfl rfl rfl rfl (Nat.le_of_ble_eq_true rfl) ⟨Nat.le_of_ble_eq_true rfl, Nat.le_of_ble_eq_true rfl⟩ dX6_back_2 (fun _ H locs _ X => ?_)
  have X : Hx D zA zs H locs (gW tk hL G d e ++ gW tk hI I0 di ei ++ gW tk hJ J0 dj ej ++ lW a hL hT im bs rd hS sh kb rf ++ imW tk im (hI 0) (hJ 0)) := X
  have X : Hx D zA zs H locs (lW a hL hT im bs rd hS sh kb rf ++ imW tk im (hI 0) (hJ 0) ++ gW tk hL G d e ++ gW tk hI I0 di ei ++ gW tk hJ J0 dj ej) := X.sub [30, 31, 0, 1, 2, 3, 4, 5, 6, 7, 8, 9, 10, 11, 12, 13, 14, 15, 16, 17, 18, 19, 20, 21, 22, 23, 24, 25, 26, 27, 28, 29] rfl rfl
  refine g_ifneB (x := rg x 0 1) (tgt := 10) C0 dX6_back_5 rfl (fun c1 => ?_) (fun c2 => ?_)
  · obtain ⟨xq, hk_xqa, hk_xqb, hk_xqc, rfl⟩ := rg_sp c1
    rcases (show xq = 0 ∨ xq = 1 by omega) with rfl | rfl
    · refine lv_aload_n hx hb dX6_back_10 rfl (lv_at hl 0 rfl) ?_
      refine lv_iload_n hx hb dX6_back_11 rfl (lv_at hl 1 rfl) ?_
      refine g_callV (As := [.int (nI 0)]) (rest := []) (wr := (imW tk im (hI 0) (hJ 0) ++ gW tk hL G d e ++ gW tk hI I0 di ei ++ gW tk hJ J0 dj ej)) (C0.sz hl) X (c_X6_isKept l D tk a hL hT im bs rd hS sh kb rf 0 (by first | assumption | omega) (by first | assumption | omega)) ⟨tb728, tb731, tb1, ⟨by decide, by decide, rfl⟩, rfl, rfl, Nat.le_of_ble_eq_true rfl, Nat.le_of_ble_eq_true rfl⟩ tb730 tbs19 0 6 rfl rfl rfl rfl [0] [1, 2, 3, 4, 5, 6, 7, 8, 9, 10, 11, 12, 13, 14, 15, 16, 17, 18, 19, 20, 21, 22, 23, 24, 25, 26, 27, 28, 29, 30, 31] rfl rfl rfl rfl rfl (Nat.le_of_ble_eq_true rfl) ⟨Nat.le_of_ble_eq_true rfl, Nat.le_of_ble_eq_true rfl⟩ dX6_back_12 (fun _ H locs _ X => ?_)
      have X : Hx D zA zs H locs (imW tk im (hI 0) (hJ 0) ++ gW tk hL G d e ++ gW tk hI I0 di ei ++ gW tk hJ J0 dj ej ++ lW a hL hT im bs rd hS sh kb rf) := X
      have X : Hx D zA zs H locs (lW a hL hT im bs rd hS sh kb rf ++ imW tk im (hI 0) (hJ 0) ++ gW tk hL G d e ++ gW tk hI I0 di ei ++ gW tk hJ J0 dj ej) := X.sub [31, 0, 1, 2, 3, 4, 5, 6, 7, 8, 9, 10, 11, 12, 13, 14, 15, 16, 17, 18, 19, 20, 21, 22, 23, 24, 25, 26, 27, 28, 29, 30] rfl rfl
      refine g_ifneB (x := kb.testBit 0) (tgt := 21) C0 dX6_back_15 rfl (fun c3 => ?_) (fun c4 => ?_)
      · refine lv_aload_n hx hb dX6_back_21 rfl (lv_at hl 0 rfl) ?_
        refine g_get (v := .ref (hL 0)) C0 X kX6 0 0 tb200 rfl rfl rfl dX6_back_22 ?_
        refine lv_aload_n hx hb dX6_back_25 rfl (lv_at hl 0 rfl) ?_
        refine g_get (v := .ref im) C0 X kX6 0 2 tb202 rfl rfl rfl dX6_back_26 ?_
        refine lv_iload_n hx hb dX6_back_29 rfl (lv_at hl 1 rfl) ?_
        refine g_aald (v := hI 0) (i := 0) C0 X 1 3 rfl rfl (by decide) rfl rfl dX6_back_30 ?_
        refine g_callV (As := [.ref (hI 0)]) (rest := []) (wr := (lW a hL hT im bs rd hS sh kb rf ++ imW tk im (hI 0) (hJ 0) ++ gW tk hJ J0 dj ej)) (C0.sz hl) X (c_X1_become l D tk hL G d e hI I0 di ei) ⟨tb392, tb395, tb2, ⟨by decide, by decide, rfl⟩, rfl, rfl, Nat.le_of_ble_eq_true rfl, Nat.le_of_ble_eq_true rfl⟩ tb393 tb394 2 1 rfl rfl rfl rfl [2, 3, 4, 5, 6, 7, 8, 9, 10, 11, 12, 13, 14, 15, 16, 17, 18, 19, 20, 21] [0, 1, 22, 23, 24, 25, 26, 27, 28, 29, 30, 31] rfl rfl rfl rfl rfl (Nat.le_of_ble_eq_true rfl) ⟨Nat.le_of_ble_eq_true rfl, Nat.le_of_ble_eq_true rfl⟩ dX6_back_31 (fun _ H locs _ X => ?_)
        have X : Hx D zA zs H locs (lW a hL hT im bs rd hS sh kb rf ++ imW tk im (hI 0) (hJ 0) ++ gW tk hJ J0 dj ej ++ gW tk hL I0 d e ++ gW tk hI I0 di ei) := X
        have X : Hx D zA zs H locs (lW a hL hT im bs rd hS sh kb rf ++ imW tk im (hI 0) (hJ 0) ++ gW tk hL I0 d e ++ gW tk hI I0 di ei ++ gW tk hJ J0 dj ej) := X.sub [0, 1, 12, 13, 14, 15, 16, 17, 18, 19, 20, 21, 22, 23, 24, 25, 26, 27, 28, 29, 30, 31, 2, 3, 4, 5, 6, 7, 8, 9, 10, 11] rfl rfl
        refine lv_aload_n hx hb dX6_back_34 rfl (lv_at hl 0 rfl) ?_
        refine g_get (v := .ref (hL 0)) C0 X kX6 0 0 tb200 rfl rfl rfl dX6_back_35 ?_
        refine g_callV (As := []) (rest := []) (wr := (lW a hL hT im bs rd hS sh kb rf ++ imW tk im (hI 0) (hJ 0) ++ gW tk hI I0 di ei ++ gW tk hJ J0 dj ej)) (C0.sz hl) X (c_X1_crossedPairs l D tk hL I0 d e (by first | exact hwI c3 | exact hwJ c3)) ⟨tb411, tb414, tb2, ⟨by decide, by decide, rfl⟩, rfl, rfl, Nat.le_of_ble_eq_true rfl, Nat.le_of_ble_eq_true rfl⟩ tb412 tb413 2 1 rfl rfl rfl rfl [2, 3, 4, 5, 6, 7, 8, 9, 10, 11] [0, 1, 12, 13, 14, 15, 16, 17, 18, 19, 20, 21, 22, 23, 24, 25, 26, 27, 28, 29, 30, 31] rfl rfl rfl rfl rfl (Nat.le_of_ble_eq_true rfl) ⟨Nat.le_of_ble_eq_true rfl, Nat.le_of_ble_eq_true rfl⟩ dX6_back_38 (fun uq5 H locs _ X => ?_)
        have X : Hx D zA zs H locs (lW a hL hT im bs rd hS sh kb rf ++ imW tk im (hI 0) (hJ 0) ++ gW tk hI I0 di ei ++ gW tk hJ J0 dj ej ++ gW tk hL I0 uq5.1 uq5.2) := X
        have X : Hx D zA zs H locs (lW a hL hT im bs rd hS sh kb rf ++ imW tk im (hI 0) (hJ 0) ++ gW tk hL I0 uq5.1 uq5.2 ++ gW tk hI I0 di ei ++ gW tk hJ J0 dj ej) := X.sub [0, 1, 22, 23, 24, 25, 26, 27, 28, 29, 30, 31, 2, 3, 4, 5, 6, 7, 8, 9, 10, 11, 12, 13, 14, 15, 16, 17, 18, 19, 20, 21] rfl rfl
        exact hE (v := nI (crossS (cgv I0))) (uq5.1, uq5.2) (by simp only [a_back, pick2, c1, c3, tn_nI (k := 0) (by omega), if_true, if_false, Bool.false_eq_true, Bool.and_self, Bool.and_true, Bool.and_false, Bool.true_and, Bool.false_and, Bool.not_true, Bool.not_false, decide_true, decide_false] <;> rfl) trivial (X.to (by simp only [backG, pick2, c1, c3, tn_nI (k := 0) (by omega), if_true, if_false, Bool.false_eq_true, Bool.and_self, Bool.and_true, Bool.and_false, Bool.true_and, Bool.false_and, Bool.not_true, Bool.not_false, decide_true, decide_false] <;> rfl)) dX6_back_41
      · refine lv_bipush (v := (-2)) hx hb dX6_back_18 (by decide) ?_
        exact hE (v := (-2)) (d, e) (by simp only [a_back, pick2, c1, c4, tn_nI (k := 0) (by omega), if_true, if_false, Bool.false_eq_true, Bool.and_self, Bool.and_true, Bool.and_false, Bool.true_and, Bool.false_and, Bool.not_true, Bool.not_false, decide_true, decide_false] <;> rfl) trivial (X.to (by simp only [backG, pick2, c1, c4, tn_nI (k := 0) (by omega), if_true, if_false, Bool.false_eq_true, Bool.and_self, Bool.and_true, Bool.and_false, Bool.true_and, Bool.false_and, Bool.not_true, Bool.not_false, decide_true, decide_false] <;> rfl)) dX6_back_20
    · refine lv_aload_n hx hb dX6_back_10 rfl (lv_at hl 0 rfl) ?_
      refine lv_iload_n hx hb dX6_back_11 rfl (lv_at hl 1 rfl) ?_
      refine g_callV (As := [.int (nI 1)]) (rest := []) (wr := (imW tk im (hI 0) (hJ 0) ++ gW tk hL G d e ++ gW tk hI I0 di ei ++ gW tk hJ J0 dj ej)) (C0.sz hl) X (c_X6_isKept l D tk a hL hT im bs rd hS sh kb rf 1 (by first | assumption | omega) (by first | assumption | omega)) ⟨tb728, tb731, tb1, ⟨by decide, by decide, rfl⟩, rfl, rfl, Nat.le_of_ble_eq_true rfl, Nat.le_of_ble_eq_true rfl⟩ tb730 tbs19 0 6 rfl rfl rfl rfl [0] [1, 2, 3, 4, 5, 6, 7, 8, 9, 10, 11, 12, 13, 14, 15, 16, 17, 18, 19, 20, 21, 22, 23, 24, 25, 26, 27, 28, 29, 30, 31] rfl rfl rfl rfl rfl (Nat.le_of_ble_eq_true rfl) ⟨Nat.le_of_ble_eq_true rfl, Nat.le_of_ble_eq_true rfl⟩ dX6_back_12 (fun _ H locs _ X => ?_)
      have X : Hx D zA zs H locs (imW tk im (hI 0) (hJ 0) ++ gW tk hL G d e ++ gW tk hI I0 di ei ++ gW tk hJ J0 dj ej ++ lW a hL hT im bs rd hS sh kb rf) := X
      have X : Hx D zA zs H locs (lW a hL hT im bs rd hS sh kb rf ++ imW tk im (hI 0) (hJ 0) ++ gW tk hL G d e ++ gW tk hI I0 di ei ++ gW tk hJ J0 dj ej) := X.sub [31, 0, 1, 2, 3, 4, 5, 6, 7, 8, 9, 10, 11, 12, 13, 14, 15, 16, 17, 18, 19, 20, 21, 22, 23, 24, 25, 26, 27, 28, 29, 30] rfl rfl
      refine g_ifneB (x := kb.testBit 1) (tgt := 21) C0 dX6_back_15 rfl (fun c6 => ?_) (fun c7 => ?_)
      · refine lv_aload_n hx hb dX6_back_21 rfl (lv_at hl 0 rfl) ?_
        refine g_get (v := .ref (hL 0)) C0 X kX6 0 0 tb200 rfl rfl rfl dX6_back_22 ?_
        refine lv_aload_n hx hb dX6_back_25 rfl (lv_at hl 0 rfl) ?_
        refine g_get (v := .ref im) C0 X kX6 0 2 tb202 rfl rfl rfl dX6_back_26 ?_
        refine lv_iload_n hx hb dX6_back_29 rfl (lv_at hl 1 rfl) ?_
        refine g_aald (v := hJ 0) (i := 1) C0 X 1 3 rfl rfl (by decide) rfl rfl dX6_back_30 ?_
        refine g_callV (As := [.ref (hJ 0)]) (rest := []) (wr := (lW a hL hT im bs rd hS sh kb rf ++ imW tk im (hI 0) (hJ 0) ++ gW tk hI I0 di ei)) (C0.sz hl) X (c_X1_become l D tk hL G d e hJ J0 dj ej) ⟨tb392, tb395, tb2, ⟨by decide, by decide, rfl⟩, rfl, rfl, Nat.le_of_ble_eq_true rfl, Nat.le_of_ble_eq_true rfl⟩ tb393 tb394 2 1 rfl rfl rfl rfl [2, 3, 4, 5, 6, 7, 8, 9, 10, 11, 22, 23, 24, 25, 26, 27, 28, 29, 30, 31] [0, 1, 12, 13, 14, 15, 16, 17, 18, 19, 20, 21] rfl rfl rfl rfl rfl (Nat.le_of_ble_eq_true rfl) ⟨Nat.le_of_ble_eq_true rfl, Nat.le_of_ble_eq_true rfl⟩ dX6_back_31 (fun _ H locs _ X => ?_)
        have X : Hx D zA zs H locs (lW a hL hT im bs rd hS sh kb rf ++ imW tk im (hI 0) (hJ 0) ++ gW tk hI I0 di ei ++ gW tk hL J0 d e ++ gW tk hJ J0 dj ej) := X
        have X : Hx D zA zs H locs (lW a hL hT im bs rd hS sh kb rf ++ imW tk im (hI 0) (hJ 0) ++ gW tk hL J0 d e ++ gW tk hI I0 di ei ++ gW tk hJ J0 dj ej) := X.sub [0, 1, 12, 13, 14, 15, 16, 17, 18, 19, 20, 21, 2, 3, 4, 5, 6, 7, 8, 9, 10, 11, 22, 23, 24, 25, 26, 27, 28, 29, 30, 31] rfl rfl
        refine lv_aload_n hx hb dX6_back_34 rfl (lv_at hl 0 rfl) ?_
        refine g_get (v := .ref (hL 0)) C0 X kX6 0 0 tb200 rfl rfl rfl dX6_back_35 ?_
        refine g_callV (As := []) (rest := []) (wr := (lW a hL hT im bs rd hS sh kb rf ++ imW tk im (hI 0) (hJ 0) ++ gW tk hI I0 di ei ++ gW tk hJ J0 dj ej)) (C0.sz hl) X (c_X1_crossedPairs l D tk hL J0 d e (by first | exact hwI c6 | exact hwJ c6)) ⟨tb411, tb414, tb2, ⟨by decide, by decide, rfl⟩, rfl, rfl, Nat.le_of_ble_eq_true rfl, Nat.le_of_ble_eq_true rfl⟩ tb412 tb413 2 1 rfl rfl rfl rfl [2, 3, 4, 5, 6, 7, 8, 9, 10, 11] [0, 1, 12, 13, 14, 15, 16, 17, 18, 19, 20, 21, 22, 23, 24, 25, 26, 27, 28, 29, 30, 31] rfl rfl rfl rfl rfl (Nat.le_of_ble_eq_true rfl) ⟨Nat.le_of_ble_eq_true rfl, Nat.le_of_ble_eq_true rfl⟩ dX6_back_38 (fun uq8 H locs _ X => ?_)
        have X : Hx D zA zs H locs (lW a hL hT im bs rd hS sh kb rf ++ imW tk im (hI 0) (hJ 0) ++ gW tk hI I0 di ei ++ gW tk hJ J0 dj ej ++ gW tk hL J0 uq8.1 uq8.2) := X
        have X : Hx D zA zs H locs (lW a hL hT im bs rd hS sh kb rf ++ imW tk im (hI 0) (hJ 0) ++ gW tk hL J0 uq8.1 uq8.2 ++ gW tk hI I0 di ei ++ gW tk hJ J0 dj ej) := X.sub [0, 1, 22, 23, 24, 25, 26, 27, 28, 29, 30, 31, 2, 3, 4, 5, 6, 7, 8, 9, 10, 11, 12, 13, 14, 15, 16, 17, 18, 19, 20, 21] rfl rfl
        exact hE (v := nI (crossS (cgv J0))) (uq8.1, uq8.2) (by simp only [a_back, pick2, c1, c6, tn_nI (k := 1) (by omega), if_true, if_false, Bool.false_eq_true, Bool.and_self, Bool.and_true, Bool.and_false, Bool.true_and, Bool.false_and, Bool.not_true, Bool.not_false, decide_true, decide_false] <;> rfl) trivial (X.to (by simp only [backG, pick2, c1, c6, tn_nI (k := 1) (by omega), if_true, if_false, Bool.false_eq_true, Bool.and_self, Bool.and_true, Bool.and_false, Bool.true_and, Bool.false_and, Bool.not_true, Bool.not_false, decide_true, decide_false] <;> rfl)) dX6_back_41
      · refine lv_bipush (v := (-2)) hx hb dX6_back_18 (by decide) ?_
        exact hE (v := (-2)) (d, e) (by simp only [a_back, pick2, c1, c7, tn_nI (k := 1) (by omega), if_true, if_false, Bool.false_eq_true, Bool.and_self, Bool.and_true, Bool.and_false, Bool.true_and, Bool.false_and, Bool.not_true, Bool.not_false, decide_true, decide_false] <;> rfl) trivial (X.to (by simp only [backG, pick2, c1, c7, tn_nI (k := 1) (by omega), if_true, if_false, Bool.false_eq_true, Bool.and_self, Bool.and_true, Bool.and_false, Bool.true_and, Bool.false_and, Bool.not_true, Bool.not_false, decide_true, decide_false] <;> rfl)) dX6_back_20
  · refine lv_iconst (v := (-1)) hx hb dX6_back_8 (by decide) ?_
    exact hE (v := (-1)) (d, e) (by simp only [a_back, pick2, c2, if_true, if_false, Bool.false_eq_true, Bool.and_self, Bool.and_true, Bool.and_false, Bool.true_and, Bool.false_and, Bool.not_true, Bool.not_false, decide_true, decide_false] <;> rfl) trivial (X.to (by simp only [backG, pick2, c2, if_true, if_false, Bool.false_eq_true, Bool.and_self, Bool.and_true, Bool.and_false, Bool.true_and, Bool.false_and, Bool.not_true, Bool.not_false, decide_true, decide_false] <;> rfl)) dX6_back_9
set_option maxHeartbeats 4000000 in
set_option maxRecDepth 100000 in
theorem c_X6_sheet (l : Launch) (D : va_G) (tk : Nat → ClassId) (a : Nat) (hL hT : Nat → Nat) (im bs rd : Nat) (hS : Nat → Nat) (sh kb rf : Nat) (sA sC kn : Nat → Nat) (kl : Nat → Int32) (kc : Nat → Nat → Int32) (x y z : Int32) : MX l yX6_sheet cX6_sheet 4 (some .int) ⟨2, 0, 0, 45⟩ D (TYS tk) [.ref a, .int x, .int y, .int z] (lW a hL hT im bs rd hS sh kb rf ++ hsW tk sh (sA 0) (sA 1) (sA 2) (sA 3) ++ shW tk (sA 0) (sC 0) (kn 0) (kl 0) (kc 0) ++ shW tk (sA 1) (sC 1) (kn 1) (kl 1) (kc 1) ++ shW tk (sA 2) (sC 2) (kn 2) (kl 2) (kc 2) ++ shW tk (sA 3) (sC 3) (kn 3) (kl 3) (kc 3)) (fun (_ : Unit) => True) (fun _ => some (.int (a_sheet x y z))) (fun _ => lW a hL hT im bs rd hS sh kb rf ++ hsW tk sh (sA 0) (sA 1) (sA 2) (sA 3) ++ shW tk (sA 0) (sC 0) (shSt kn x y z (tn z) 0) (shSt kl x y z y 0) (shSt kc x y z (fun _ => 0) 0) ++ shW tk (sA 1) (sC 1) (shSt kn x y z (tn z) 1) (shSt kl x y z y 1) (shSt kc x y z (fun _ => 0) 1) ++ shW tk (sA 2) (sC 2) (shSt kn x y z (tn z) 2) (shSt kl x y z y 2) (shSt kc x y z (fun _ => 0) 2) ++ shW tk (sA 3) (sC 3) (shSt kn x y z (tn z) 3) (shSt kl x y z y 3) (shSt kc x y z (fun _ => 0) 3)) 0 0 := by
  refine MX.of_i (by decide) rfl ?_
  intro zp ze zs zm za zb zt zc zA zQ ls C0 hnm X hl hE
  have hx := C0.1
  have hb := C0.2.1
  have ht := C0.2.2.2.2.1
  have X : Hx D zA zs zs.heap [] (lW a hL hT im bs rd hS sh kb rf ++ hsW tk sh (sA 0) (sA 1) (sA 2) (sA 3) ++ shW tk (sA 0) (sC 0) (kn 0) (kl 0) (kc 0) ++ shW tk (sA 1) (sC 1) (kn 1) (kl 1) (kc 1) ++ shW tk (sA 2) (sC 2) (kn 2) (kl 2) (kc 2) ++ shW tk (sA 3) (sC 3) (kn 3) (kl 3) (kc 3)) := X
  have hl : lv_has ls 4 [(0, .ref a), (1, .int x), (2, .int y), (3, .int z)] := hl
  obtain ⟨H, hH⟩ : ∃ H, H = zs.heap := ⟨_, rfl⟩
  rw [← hH] at X ⊢
  obtain ⟨locs, hlo⟩ : ∃ L : List Loc, L = [] := ⟨_, rfl⟩
  rw [← hlo] at X ⊢
  refine lv_aload_n hx hb dX6_sheet_0 rfl (lv_at hl 0 rfl) ?_
  refine lv_iload_n hx hb dX6_sheet_1 rfl (lv_at hl 1 rfl) ?_
  refine g_callV (As := [.int x]) (rest := []) (wr := (shW tk (sA 0) (sC 0) (kn 0) (kl 0) (kc 0) ++ shW tk (sA 1) (sC 1) (kn 1) (kl 1) (kc 1) ++ shW tk (sA 2) (sC 2) (kn 2) (kl 2) (kc 2) ++ shW tk (sA 3) (sC 3) (kn 3) (kl 3) (kc 3))) (C0.sz hl) X (c_X6_isSheet l D tk a hL hT im bs rd hS sh kb rf (sA 0) (sA 1) (sA 2) (sA 3) x) ⟨tb740, tb743, tb1, ⟨by decide, by decide, rfl⟩, rfl, rfl, Nat.le_of_ble_eq_true rfl, Nat.le_of_ble_eq_true rfl⟩ tb742 tbs20 0 6 rfl rfl rfl rfl [0, 1] [2, 3, 4, 5, 6, 7, 8, 9] rfl rfl rfl rfl rfl (Nat.le_of_ble_eq_true rfl) ⟨Nat.le_of_ble_eq_true rfl, Nat.le_of_ble_eq_true rfl⟩ dX6_sheet_2 (fun _ H locs _ X => ?_)
  have X : Hx D zA zs H locs (shW tk (sA 0) (sC 0) (kn 0) (kl 0) (kc 0) ++ shW tk (sA 1) (sC 1) (kn 1) (kl 1) (kc 1) ++ shW tk (sA 2) (sC 2) (kn 2) (kl 2) (kc 2) ++ shW tk (sA 3) (sC 3) (kn 3) (kl 3) (kc 3) ++ lW a hL hT im bs rd hS sh kb rf ++ hsW tk sh (sA 0) (sA 1) (sA 2) (sA 3)) := X
  have X : Hx D zA zs H locs (lW a hL hT im bs rd hS sh kb rf ++ hsW tk sh (sA 0) (sA 1) (sA 2) (sA 3) ++ shW tk (sA 0) (sC 0) (kn 0) (kl 0) (kc 0) ++ shW tk (sA 1) (sC 1) (kn 1) (kl 1) (kc 1) ++ shW tk (sA 2) (sC 2) (kn 2) (kl 2) (kc 2) ++ shW tk (sA 3) (sC 3) (kn 3) (kl 3) (kc 3)) := X.sub [8, 9, 0, 1, 2, 3, 4, 5, 6, 7] rfl rfl
  refine g_ifeqB (x := rg x 0 3) (tgt := 21) C0 dX6_sheet_5 rfl (fun c1 => ?_) (fun c2 => ?_)
  · refine lv_iconst (v := (-1)) hx hb dX6_sheet_21 (by decide) ?_
    exact hE (v := (-1)) () (by simp only [a_sheet, shOk, c1, if_true, if_false, Bool.false_eq_true, Bool.and_self, Bool.and_true, Bool.and_false, Bool.true_and, Bool.false_and, Bool.not_true, Bool.not_false, decide_true, decide_false]) trivial (X.to (by simp only [shSt, shOk, c1, ua, if_true, if_false, Bool.false_eq_true, Bool.and_self, Bool.and_true, Bool.and_false, Bool.true_and, Bool.false_and, Bool.not_true, Bool.not_false, decide_true, decide_false] <;> rfl)) dX6_sheet_22
  · obtain ⟨xq, hk_xqa, hk_xqb, hk_xqc, rfl⟩ := rg_sp c2
    refine lv_iload_n hx hb dX6_sheet_8 rfl (lv_at hl 2 rfl) ?_
    refine g_callS (As := [.int y]) (rest := []) (wr := (lW a hL hT im bs rd hS sh kb rf ++ hsW tk sh (sA 0) (sA 1) (sA 2) (sA 3) ++ shW tk (sA 0) (sC 0) (kn 0) (kl 0) (kc 0) ++ shW tk (sA 1) (sC 1) (kn 1) (kl 1) (kc 1) ++ shW tk (sA 2) (sC 2) (kn 2) (kl 2) (kc 2) ++ shW tk (sA 3) (sC 3) (kn 3) (kl 3) (kc 3))) (C0.sz hl) X (c_X6_isLane l D tk y) ⟨tb744, tb746, tb1, ⟨by decide, by decide, rfl⟩, rfl, rfl, Nat.le_of_ble_eq_true rfl, Nat.le_of_ble_eq_true rfl⟩ tb745 rfl [] [0, 1, 2, 3, 4, 5, 6, 7, 8, 9] rfl rfl rfl rfl rfl (Nat.le_of_ble_eq_true rfl) ⟨Nat.le_of_ble_eq_true rfl, Nat.le_of_ble_eq_true rfl⟩ dX6_sheet_9 (fun _ H locs _ X => ?_)
    have X : Hx D zA zs H locs (lW a hL hT im bs rd hS sh kb rf ++ hsW tk sh (sA 0) (sA 1) (sA 2) (sA 3) ++ shW tk (sA 0) (sC 0) (kn 0) (kl 0) (kc 0) ++ shW tk (sA 1) (sC 1) (kn 1) (kl 1) (kc 1) ++ shW tk (sA 2) (sC 2) (kn 2) (kl 2) (kc 2) ++ shW tk (sA 3) (sC 3) (kn 3) (kl 3) (kc 3)) := X
    refine g_ifeqB (x := rg y 0 2) (tgt := 21) C0 dX6_sheet_12 rfl (fun c3 => ?_) (fun c4 => ?_)
    · refine lv_iconst (v := (-1)) hx hb dX6_sheet_21 (by decide) ?_
      exact hE (v := (-1)) () (by simp only [a_sheet, shOk, c2, c3, tn_nI (k := xq) (by omega), if_true, if_false, Bool.false_eq_true, Bool.and_self, Bool.and_true, Bool.and_false, Bool.true_and, Bool.false_and, Bool.not_true, Bool.not_false, decide_true, decide_false]) trivial (X.to (by simp only [shSt, shOk, c2, c3, tn_nI (k := xq) (by omega), ua, if_true, if_false, Bool.false_eq_true, Bool.and_self, Bool.and_true, Bool.and_false, Bool.true_and, Bool.false_and, Bool.not_true, Bool.not_false, decide_true, decide_false] <;> rfl)) dX6_sheet_22
    · obtain ⟨yq, hk_yqa, hk_yqb, hk_yqc, rfl⟩ := rg_sp c4
      refine lv_iload_n hx hb dX6_sheet_15 rfl (lv_at hl 3 rfl) ?_
      refine g_bipush (n := 40) C0 (by decide) dX6_sheet_16 ?_
      refine lv_icmp_le (tgt := 23) hx hb dX6_sheet_18 rfl (fun c5 => ?_) (fun c6 => ?_)
      · refine lv_iload_n hx hb dX6_sheet_23 rfl (lv_at hl 3 rfl) ?_
        refine lv_if_ge (tgt := 30) hx hb dX6_sheet_24 rfl (fun c7 => ?_) (fun c8 => ?_)
        · obtain ⟨zq, hzq, rfl⟩ := le_sp (by decide) c5 c7
          refine lv_aload_n hx hb dX6_sheet_30 rfl (lv_at hl 0 rfl) ?_
          rcases (show xq = 0 ∨ xq = 1 ∨ xq = 2 ∨ xq = 3 by omega) with rfl | rfl | rfl | rfl
          · refine g_get (v := .ref sh) C0 X kX6 0 6 tb206 rfl rfl rfl dX6_sheet_31 ?_
            refine lv_iload_n hx hb dX6_sheet_34 rfl (lv_at hl 1 rfl) ?_
            refine g_aald (v := sA 0) (i := 0) C0 X 1 4 rfl rfl (by decide) rfl rfl dX6_sheet_35 ?_
            refine lv_iload_n hx hb dX6_sheet_36 rfl (lv_at hl 2 rfl) ?_
            refine lv_iload_n hx hb dX6_sheet_37 rfl (lv_at hl 3 rfl) ?_
            refine g_callV (As := [.int (nI yq), .int (nI zq)]) (rest := []) (wr := (lW a hL hT im bs rd hS sh kb rf ++ hsW tk sh (sA 0) (sA 1) (sA 2) (sA 3) ++ shW tk (sA 1) (sC 1) (kn 1) (kl 1) (kc 1) ++ shW tk (sA 2) (sC 2) (kn 2) (kl 2) (kc 2) ++ shW tk (sA 3) (sC 3) (kn 3) (kl 3) (kc 3))) (C0.sz hl) X (c_X3_renew l D tk (sA 0) (sC 0) (kn 0) (kl 0) (kc 0) (nI yq) zq) ⟨tb747, tb750, tb7, ⟨by decide, by decide, rfl⟩, rfl, rfl, Nat.le_of_ble_eq_true rfl, Nat.le_of_ble_eq_true rfl⟩ tb748 tb749 2 3 rfl rfl rfl rfl [2, 3] [0, 1, 4, 5, 6, 7, 8, 9] rfl rfl rfl rfl rfl (Nat.le_of_ble_eq_true rfl) ⟨Nat.le_of_ble_eq_true rfl, Nat.le_of_ble_eq_true rfl⟩ dX6_sheet_38 (fun _ H locs _ X => ?_)
            have X : Hx D zA zs H locs (lW a hL hT im bs rd hS sh kb rf ++ hsW tk sh (sA 0) (sA 1) (sA 2) (sA 3) ++ shW tk (sA 1) (sC 1) (kn 1) (kl 1) (kc 1) ++ shW tk (sA 2) (sC 2) (kn 2) (kl 2) (kc 2) ++ shW tk (sA 3) (sC 3) (kn 3) (kl 3) (kc 3) ++ shW tk (sA 0) (sC 0) zq (nI yq) (fun _ => 0)) := X
            have X : Hx D zA zs H locs (lW a hL hT im bs rd hS sh kb rf ++ hsW tk sh (sA 0) (sA 1) (sA 2) (sA 3) ++ shW tk (sA 0) (sC 0) zq (nI yq) (fun _ => 0) ++ shW tk (sA 1) (sC 1) (kn 1) (kl 1) (kc 1) ++ shW tk (sA 2) (sC 2) (kn 2) (kl 2) (kc 2) ++ shW tk (sA 3) (sC 3) (kn 3) (kl 3) (kc 3)) := X.sub [0, 1, 8, 9, 2, 3, 4, 5, 6, 7] rfl rfl
            refine g_iconst (n := 1) C0 rfl dX6_sheet_41 ?_
            exact hE (v := nI 1) () (by simp only [a_sheet, shOk, c2, c4, c5, c7, tn_nI (k := 0) (by omega), tn_nI (k := yq) (by omega), tn_nI (k := zq) (by omega), if_true, if_false, Bool.false_eq_true, Bool.and_self, Bool.and_true, Bool.and_false, Bool.true_and, Bool.false_and, Bool.not_true, Bool.not_false, decide_true, decide_false]) trivial (X.to (by simp only [shSt, shOk, c2, c4, c5, c7, tn_nI (k := 0) (by omega), tn_nI (k := yq) (by omega), tn_nI (k := zq) (by omega), ua, if_true, if_false, Bool.false_eq_true, Bool.and_self, Bool.and_true, Bool.and_false, Bool.true_and, Bool.false_and, Bool.not_true, Bool.not_false, decide_true, decide_false] <;> rfl)) dX6_sheet_42
          · refine g_get (v := .ref sh) C0 X kX6 0 6 tb206 rfl rfl rfl dX6_sheet_31 ?_
            refine lv_iload_n hx hb dX6_sheet_34 rfl (lv_at hl 1 rfl) ?_
            refine g_aald (v := sA 1) (i := 1) C0 X 1 4 rfl rfl (by decide) rfl rfl dX6_sheet_35 ?_
            refine lv_iload_n hx hb dX6_sheet_36 rfl (lv_at hl 2 rfl) ?_
            refine lv_iload_n hx hb dX6_sheet_37 rfl (lv_at hl 3 rfl) ?_
            refine g_callV (As := [.int (nI yq), .int (nI zq)]) (rest := []) (wr := (lW a hL hT im bs rd hS sh kb rf ++ hsW tk sh (sA 0) (sA 1) (sA 2) (sA 3) ++ shW tk (sA 0) (sC 0) (kn 0) (kl 0) (kc 0) ++ shW tk (sA 2) (sC 2) (kn 2) (kl 2) (kc 2) ++ shW tk (sA 3) (sC 3) (kn 3) (kl 3) (kc 3))) (C0.sz hl) X (c_X3_renew l D tk (sA 1) (sC 1) (kn 1) (kl 1) (kc 1) (nI yq) zq) ⟨tb747, tb750, tb7, ⟨by decide, by decide, rfl⟩, rfl, rfl, Nat.le_of_ble_eq_true rfl, Nat.le_of_ble_eq_true rfl⟩ tb748 tb749 4 3 rfl rfl rfl rfl [4, 5] [0, 1, 2, 3, 6, 7, 8, 9] rfl rfl rfl rfl rfl (Nat.le_of_ble_eq_true rfl) ⟨Nat.le_of_ble_eq_true rfl, Nat.le_of_ble_eq_true rfl⟩ dX6_sheet_38 (fun _ H locs _ X => ?_)
            have X : Hx D zA zs H locs (lW a hL hT im bs rd hS sh kb rf ++ hsW tk sh (sA 0) (sA 1) (sA 2) (sA 3) ++ shW tk (sA 0) (sC 0) (kn 0) (kl 0) (kc 0) ++ shW tk (sA 2) (sC 2) (kn 2) (kl 2) (kc 2) ++ shW tk (sA 3) (sC 3) (kn 3) (kl 3) (kc 3) ++ shW tk (sA 1) (sC 1) zq (nI yq) (fun _ => 0)) := X
            have X : Hx D zA zs H locs (lW a hL hT im bs rd hS sh kb rf ++ hsW tk sh (sA 0) (sA 1) (sA 2) (sA 3) ++ shW tk (sA 0) (sC 0) (kn 0) (kl 0) (kc 0) ++ shW tk (sA 1) (sC 1) zq (nI yq) (fun _ => 0) ++ shW tk (sA 2) (sC 2) (kn 2) (kl 2) (kc 2) ++ shW tk (sA 3) (sC 3) (kn 3) (kl 3) (kc 3)) := X.sub [0, 1, 2, 3, 8, 9, 4, 5, 6, 7] rfl rfl
            refine g_iconst (n := 1) C0 rfl dX6_sheet_41 ?_
            exact hE (v := nI 1) () (by simp only [a_sheet, shOk, c2, c4, c5, c7, tn_nI (k := 1) (by omega), tn_nI (k := yq) (by omega), tn_nI (k := zq) (by omega), if_true, if_false, Bool.false_eq_true, Bool.and_self, Bool.and_true, Bool.and_false, Bool.true_and, Bool.false_and, Bool.not_true, Bool.not_false, decide_true, decide_false]) trivial (X.to (by simp only [shSt, shOk, c2, c4, c5, c7, tn_nI (k := 1) (by omega), tn_nI (k := yq) (by omega), tn_nI (k := zq) (by omega), ua, if_true, if_false, Bool.false_eq_true, Bool.and_self, Bool.and_true, Bool.and_false, Bool.true_and, Bool.false_and, Bool.not_true, Bool.not_false, decide_true, decide_false] <;> rfl)) dX6_sheet_42
          · refine g_get (v := .ref sh) C0 X kX6 0 6 tb206 rfl rfl rfl dX6_sheet_31 ?_
            refine lv_iload_n hx hb dX6_sheet_34 rfl (lv_at hl 1 rfl) ?_
            refine g_aald (v := sA 2) (i := 2) C0 X 1 4 rfl rfl (by decide) rfl rfl dX6_sheet_35 ?_
            refine lv_iload_n hx hb dX6_sheet_36 rfl (lv_at hl 2 rfl) ?_
            refine lv_iload_n hx hb dX6_sheet_37 rfl (lv_at hl 3 rfl) ?_
            refine g_callV (As := [.int (nI yq), .int (nI zq)]) (rest := []) (wr := (lW a hL hT im bs rd hS sh kb rf ++ hsW tk sh (sA 0) (sA 1) (sA 2) (sA 3) ++ shW tk (sA 0) (sC 0) (kn 0) (kl 0) (kc 0) ++ shW tk (sA 1) (sC 1) (kn 1) (kl 1) (kc 1) ++ shW tk (sA 3) (sC 3) (kn 3) (kl 3) (kc 3))) (C0.sz hl) X (c_X3_renew l D tk (sA 2) (sC 2) (kn 2) (kl 2) (kc 2) (nI yq) zq) ⟨tb747, tb750, tb7, ⟨by decide, by decide, rfl⟩, rfl, rfl, Nat.le_of_ble_eq_true rfl, Nat.le_of_ble_eq_true rfl⟩ tb748 tb749 6 3 rfl rfl rfl rfl [6, 7] [0, 1, 2, 3, 4, 5, 8, 9] rfl rfl rfl rfl rfl (Nat.le_of_ble_eq_true rfl) ⟨Nat.le_of_ble_eq_true rfl, Nat.le_of_ble_eq_true rfl⟩ dX6_sheet_38 (fun _ H locs _ X => ?_)
            have X : Hx D zA zs H locs (lW a hL hT im bs rd hS sh kb rf ++ hsW tk sh (sA 0) (sA 1) (sA 2) (sA 3) ++ shW tk (sA 0) (sC 0) (kn 0) (kl 0) (kc 0) ++ shW tk (sA 1) (sC 1) (kn 1) (kl 1) (kc 1) ++ shW tk (sA 3) (sC 3) (kn 3) (kl 3) (kc 3) ++ shW tk (sA 2) (sC 2) zq (nI yq) (fun _ => 0)) := X
            have X : Hx D zA zs H locs (lW a hL hT im bs rd hS sh kb rf ++ hsW tk sh (sA 0) (sA 1) (sA 2) (sA 3) ++ shW tk (sA 0) (sC 0) (kn 0) (kl 0) (kc 0) ++ shW tk (sA 1) (sC 1) (kn 1) (kl 1) (kc 1) ++ shW tk (sA 2) (sC 2) zq (nI yq) (fun _ => 0) ++ shW tk (sA 3) (sC 3) (kn 3) (kl 3) (kc 3)) := X.sub [0, 1, 2, 3, 4, 5, 8, 9, 6, 7] rfl rfl
            refine g_iconst (n := 1) C0 rfl dX6_sheet_41 ?_
            exact hE (v := nI 1) () (by simp only [a_sheet, shOk, c2, c4, c5, c7, tn_nI (k := 2) (by omega), tn_nI (k := yq) (by omega), tn_nI (k := zq) (by omega), if_true, if_false, Bool.false_eq_true, Bool.and_self, Bool.and_true, Bool.and_false, Bool.true_and, Bool.false_and, Bool.not_true, Bool.not_false, decide_true, decide_false]) trivial (X.to (by simp only [shSt, shOk, c2, c4, c5, c7, tn_nI (k := 2) (by omega), tn_nI (k := yq) (by omega), tn_nI (k := zq) (by omega), ua, if_true, if_false, Bool.false_eq_true, Bool.and_self, Bool.and_true, Bool.and_false, Bool.true_and, Bool.false_and, Bool.not_true, Bool.not_false, decide_true, decide_false] <;> rfl)) dX6_sheet_42
          · refine g_get (v := .ref sh) C0 X kX6 0 6 tb206 rfl rfl rfl dX6_sheet_31 ?_
            refine lv_iload_n hx hb dX6_sheet_34 rfl (lv_at hl 1 rfl) ?_
            refine g_aald (v := sA 3) (i := 3) C0 X 1 4 rfl rfl (by decide) rfl rfl dX6_sheet_35 ?_
            refine lv_iload_n hx hb dX6_sheet_36 rfl (lv_at hl 2 rfl) ?_
            refine lv_iload_n hx hb dX6_sheet_37 rfl (lv_at hl 3 rfl) ?_
            refine g_callV (As := [.int (nI yq), .int (nI zq)]) (rest := []) (wr := (lW a hL hT im bs rd hS sh kb rf ++ hsW tk sh (sA 0) (sA 1) (sA 2) (sA 3) ++ shW tk (sA 0) (sC 0) (kn 0) (kl 0) (kc 0) ++ shW tk (sA 1) (sC 1) (kn 1) (kl 1) (kc 1) ++ shW tk (sA 2) (sC 2) (kn 2) (kl 2) (kc 2))) (C0.sz hl) X (c_X3_renew l D tk (sA 3) (sC 3) (kn 3) (kl 3) (kc 3) (nI yq) zq) ⟨tb747, tb750, tb7, ⟨by decide, by decide, rfl⟩, rfl, rfl, Nat.le_of_ble_eq_true rfl, Nat.le_of_ble_eq_true rfl⟩ tb748 tb749 8 3 rfl rfl rfl rfl [8, 9] [0, 1, 2, 3, 4, 5, 6, 7] rfl rfl rfl rfl rfl (Nat.le_of_ble_eq_true rfl) ⟨Nat.le_of_ble_eq_true rfl, Nat.le_of_ble_eq_true rfl⟩ dX6_sheet_38 (fun _ H locs _ X => ?_)
            have X : Hx D zA zs H locs (lW a hL hT im bs rd hS sh kb rf ++ hsW tk sh (sA 0) (sA 1) (sA 2) (sA 3) ++ shW tk (sA 0) (sC 0) (kn 0) (kl 0) (kc 0) ++ shW tk (sA 1) (sC 1) (kn 1) (kl 1) (kc 1) ++ shW tk (sA 2) (sC 2) (kn 2) (kl 2) (kc 2) ++ shW tk (sA 3) (sC 3) zq (nI yq) (fun _ => 0)) := X
            refine g_iconst (n := 1) C0 rfl dX6_sheet_41 ?_
            exact hE (v := nI 1) () (by simp only [a_sheet, shOk, c2, c4, c5, c7, tn_nI (k := 3) (by omega), tn_nI (k := yq) (by omega), tn_nI (k := zq) (by omega), if_true, if_false, Bool.false_eq_true, Bool.and_self, Bool.and_true, Bool.and_false, Bool.true_and, Bool.false_and, Bool.not_true, Bool.not_false, decide_true, decide_false]) trivial (X.to (by simp only [shSt, shOk, c2, c4, c5, c7, tn_nI (k := 3) (by omega), tn_nI (k := yq) (by omega), tn_nI (k := zq) (by omega), ua, if_true, if_false, Bool.false_eq_true, Bool.and_self, Bool.and_true, Bool.and_false, Bool.true_and, Bool.false_and, Bool.not_true, Bool.not_false, decide_true, decide_false] <;> rfl)) dX6_sheet_42
        · refine lv_bipush (v := (-14)) hx hb dX6_sheet_27 (by decide) ?_
          exact hE (v := (-14)) () (by simp only [a_sheet, shOk, c2, c4, c5, c8, tn_nI (k := xq) (by omega), tn_nI (k := yq) (by omega), if_true, if_false, Bool.false_eq_true, Bool.and_self, Bool.and_true, Bool.and_false, Bool.true_and, Bool.false_and, Bool.not_true, Bool.not_false, decide_true, decide_false]) trivial (X.to (by simp only [shSt, shOk, c2, c4, c5, c8, tn_nI (k := xq) (by omega), tn_nI (k := yq) (by omega), ua, if_true, if_false, Bool.false_eq_true, Bool.and_self, Bool.and_true, Bool.and_false, Bool.true_and, Bool.false_and, Bool.not_true, Bool.not_false, decide_true, decide_false] <;> rfl)) dX6_sheet_29
      · refine lv_iconst (v := (-1)) hx hb dX6_sheet_21 (by decide) ?_
        exact hE (v := (-1)) () (by simp only [a_sheet, shOk, c2, c4, c6, tn_nI (k := xq) (by omega), tn_nI (k := yq) (by omega), if_true, if_false, Bool.false_eq_true, Bool.and_self, Bool.and_true, Bool.and_false, Bool.true_and, Bool.false_and, Bool.not_true, Bool.not_false, decide_true, decide_false]) trivial (X.to (by simp only [shSt, shOk, c2, c4, c6, tn_nI (k := xq) (by omega), tn_nI (k := yq) (by omega), ua, if_true, if_false, Bool.false_eq_true, Bool.and_self, Bool.and_true, Bool.and_false, Bool.true_and, Bool.false_and, Bool.not_true, Bool.not_false, decide_true, decide_false] <;> rfl)) dX6_sheet_22
