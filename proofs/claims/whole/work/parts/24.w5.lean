set_option maxHeartbeats 4000000 in
set_option maxRecDepth 100000 in
theorem c_X7_hearersOn (l : Launch) (D : va_G) (tk : Nat → ClassId) (h : Nat → Nat) (Mt : Nat → Nat → Nat) (hi : Int32) (la ce : Nat → Int32) (p b : Nat) (hp : p ≤ 252) (hW : VW (pgv Mt p)) (hd : ∀ x, x < 6 → Mt 6 x ≤ 1000) (hb : b ≤ 60) : MX l yX7_hearersOn cX7_hearersOn 5 (some .int) ⟨1, 0, 0, 25⟩ D (TYS tk) [.ref (h 0), .int (nI p), .int (nI b)] (mW tk h Mt hi la ce) (fun (_ : Unit) => True) (fun _ => some (.int (nI (hearW (pgv Mt p) (Mt 6) b)))) (fun _ => mW tk h Mt hi la ce) 0 0 := by
  refine MX.of_i (by decide) rfl ?_
  intro zp ze zs zm za zb zt zc zA zQ ls C0 hnm X hl hE
  have hx := C0.1
  have hb := C0.2.1
  have ht := C0.2.2.2.2.1
  have X : Hx D zA zs zs.heap [] (mW tk h Mt hi la ce) := X
  have hl : lv_has ls 5 [(0, .ref (h 0)), (1, .int (nI p)), (2, .int (nI b))] := hl
  obtain ⟨hv1, hv2, hv3, hv4, hv5, hv6, hv7⟩ := id hW
  have hb1 : Mt 20 0 ≤ 6 := hv1
  have hb3 : Mt 0 (p + 43) ≤ 20 := hv3
  obtain ⟨H, hH⟩ : ∃ H, H = zs.heap := ⟨_, rfl⟩
  rw [← hH] at X ⊢
  obtain ⟨locs, hlo⟩ : ∃ L : List Loc, L = [] := ⟨_, rfl⟩
  rw [← hlo] at X ⊢
  refine g_iconst (n := 0) C0 rfl dX7_hearersOn_0 ?_
  refine lv_istore_n (lv' := [(3, .int (nI 0)), (0, .ref (h 0)), (1, .int (nI p)), (2, .int (nI b))]) hx hb dX7_hearersOn_1 rfl hl (by decide) rfl (fun ls hl => ?_)
  refine g_iconst (n := 0) C0 rfl dX7_hearersOn_2 ?_
  refine lv_istore (lv' := [(4, .int (nI 0)), (3, .int (nI 0)), (0, .ref (h 0)), (1, .int (nI p)), (2, .int (nI b))]) hx hb dX7_hearersOn_3 hl (by decide) rfl (fun ls hl => ?_)
  have J5 : ∀ (fz : Nat) (i bs : Nat), Mt 20 0 - i < fz → ∀ (hi1 : i ≤ Mt 20 0) (hbs : bs = bset (hearP (pgv Mt p) (Mt 6) b) i) (H : Heap) (locs : List Loc) (ls : Array Slot), Hx D zA zs H locs (mW tk h Mt hi la ce) → lv_has ls 5 [(4, .int (nI i)), (3, .int (nI bs)), (0, .ref (h 0)), (1, .int (nI p)), (2, .int (nI b))] → W zp l ze ⟨1, 0, 0, 25⟩ zs zm za zb zt zc H locs 0 0 zQ (F0 zm 5 ls []) := by
    intro fz
    induction fz with
    | zero => intro i bs hz; exact absurd hz (Nat.not_lt_zero _)
    | succ fz ih5 =>
      intro i bs hz5 hi1 hbs H locs ls X hl
      refine lv_iload hx hb dX7_hearersOn_5 (lv_at hl 0 rfl) ?_
      refine lv_aload_n hx hb dX7_hearersOn_7 rfl (lv_at hl 2 rfl) ?_
      refine g_get (v := .int (nI (Mt 20 0))) C0 X kX7 0 1 tb798 rfl rfl rfl dX7_hearersOn_8 ?_
      refine g_icmp_ge (x := i) (y := Mt 20 0) (tgt := 51) C0 (by omega) (by omega) dX7_hearersOn_11 rfl (fun c1 => ?_) (fun c2 => ?_)
      · refine lv_iload_n hx hb dX7_hearersOn_51 rfl (lv_at hl 1 rfl) ?_
        exact hE (v := nI bs) () (by rw [hbs, show i = Mt 20 0 by omega]; rfl) trivial X dX7_hearersOn_52
      · refine lv_iload_n hx hb dX7_hearersOn_14 rfl (lv_at hl 1 rfl) ?_
        refine lv_aload_n hx hb dX7_hearersOn_15 rfl (lv_at hl 2 rfl) ?_
        refine lv_iload_n hx hb dX7_hearersOn_16 rfl (lv_at hl 3 rfl) ?_
        refine lv_iload hx hb dX7_hearersOn_17 (lv_at hl 0 rfl) ?_
        refine lv_iload_n hx hb dX7_hearersOn_19 rfl (lv_at hl 4 rfl) ?_
        have hk : Mt 0 (p + i) ≤ 3 := hv5 i (by show i < Mt 20 0; omega)
        have hdi := hd i (by omega)
        refine g_callV (As := [.int (nI p), .int (nI i), .int (nI b)]) (rest := [.int (nI bs)]) (wr := []) (C0.sz hl) X (c_X7_loudOn l D tk h Mt hi la ce p i b (by first | assumption | omega) (by first | assumption | omega) (by first | assumption | omega) (by first | assumption | omega) (by first | assumption | omega)) ⟨tb969, tb972, tb8, ⟨by decide, by decide, rfl⟩, rfl, rfl, Nat.le_of_ble_eq_true rfl, Nat.le_of_ble_eq_true rfl⟩ tb971 tbs36 0 7 rfl rfl rfl rfl [0, 1, 2, 3, 4, 5, 6, 7, 8, 9, 10, 11, 12, 13] [] rfl rfl rfl rfl rfl (Nat.le_of_ble_eq_true rfl) ⟨Nat.le_of_ble_eq_true rfl, Nat.le_of_ble_eq_true rfl⟩ dX7_hearersOn_20 (fun _ H locs _ X => ?_)
        have X : Hx D zA zs H locs (mW tk h Mt hi la ce) := X
        refine lv_aload_n hx hb dX7_hearersOn_23 rfl (lv_at hl 2 rfl) ?_
        refine g_get (v := .ref (h 1)) C0 X kX7 0 0 tb797 rfl rfl rfl dX7_hearersOn_24 ?_
        refine lv_iload_n hx hb dX7_hearersOn_27 rfl (lv_at hl 3 rfl) ?_
        refine g_bipush (n := 43) C0 (by decide) dX7_hearersOn_28 ?_
        refine g_iadd (n := p + 43) C0 (by first | rfl | omega) dX7_hearersOn_30 ?_
        refine g_iald (v := nI (Mt 0 (p + 43))) (i := p + 43) C0 X 1 0 rfl rfl (by omega) rfl rfl dX7_hearersOn_31 ?_
        have hL := loudS_le (Mt 0 (p + i)) b (Mt 6 i)
        refine g_icmp_le (x := loudS (Mt 0 (p + i)) b (Mt 6 i)) (y := Mt 0 (p + 43)) (tgt := 42) C0 (by omega) (by omega) dX7_hearersOn_32 rfl (fun c3 => ?_) (fun c4 => ?_)
        · refine g_iconst (n := 0) C0 rfl dX7_hearersOn_42 ?_
          refine g_ior (n := bs ||| 0) C0 rfl dX7_hearersOn_43 ?_
          refine lv_istore_n (lv' := [(3, .int (nI (bs ||| 0))), (4, .int (nI i)), (0, .ref (h 0)), (1, .int (nI p)), (2, .int (nI b))]) hx hb dX7_hearersOn_44 rfl hl (by decide) rfl (fun ls hl => ?_)
          refine g_iinc (j := 1) (z := i + 1) (lv' := [(4, .int (nI (i + 1))), (3, .int (nI (bs ||| 0))), (0, .ref (h 0)), (1, .int (nI p)), (2, .int (nI b))]) C0 rfl (by first | rfl | omega) dX7_hearersOn_45 hl (k := 1) rfl (by decide) rfl (fun ls hl => ?_)
          refine lv_goto (tgt := 5) hx hb dX7_hearersOn_48 (by decide) ?_
          exact ih5 (i + 1) (bs ||| 0) (by omega) (by omega) (by first | (rw [bset_f (decide_eq_false (Nat.not_lt.mpr c3)), Nat.or_zero]; exact hbs) | (rw [bset_t (decide_eq_true c3), hbs])) H locs ls X (lv_sub hl [0, 1, 2, 3, 4] rfl)
        · refine g_iconst (n := 1) C0 rfl dX7_hearersOn_35 ?_
          refine lv_iload hx hb dX7_hearersOn_36 (lv_at hl 0 rfl) ?_
          refine g_ishl (n := 2 ^ i) C0 (by exact sh_ok (by omega)) (by first | exact Nat.one_mul _ | rfl) dX7_hearersOn_38 ?_
          refine lv_goto (tgt := 43) hx hb dX7_hearersOn_39 (by decide) ?_
          refine g_ior (n := bs ||| (2 ^ i)) C0 rfl dX7_hearersOn_43 ?_
          refine lv_istore_n (lv' := [(3, .int (nI (bs ||| (2 ^ i)))), (4, .int (nI i)), (0, .ref (h 0)), (1, .int (nI p)), (2, .int (nI b))]) hx hb dX7_hearersOn_44 rfl hl (by decide) rfl (fun ls hl => ?_)
          refine g_iinc (j := 1) (z := i + 1) (lv' := [(4, .int (nI (i + 1))), (3, .int (nI (bs ||| (2 ^ i)))), (0, .ref (h 0)), (1, .int (nI p)), (2, .int (nI b))]) C0 rfl (by first | rfl | omega) dX7_hearersOn_45 hl (k := 1) rfl (by decide) rfl (fun ls hl => ?_)
          refine lv_goto (tgt := 5) hx hb dX7_hearersOn_48 (by decide) ?_
          exact ih5 (i + 1) (bs ||| (2 ^ i)) (by omega) (by omega) (by first | (rw [bset_f (decide_eq_false (Nat.not_lt.mpr c4)), Nat.or_zero]; exact hbs) | (rw [bset_t (decide_eq_true c4), hbs])) H locs ls X (lv_sub hl [0, 1, 2, 3, 4] rfl)
  exact J5 ((Mt 20 0 - 0) + 1) 0 0 (Nat.lt_succ_self _) (by omega) (by rfl) H locs ls X (lv_sub hl [0, 1, 2, 3, 4] rfl)
set_option maxHeartbeats 4000000 in
set_option maxRecDepth 100000 in
theorem c_X7_hearsOn (l : Launch) (D : va_G) (tk : Nat → ClassId) (h : Nat → Nat) (Mt : Nat → Nat → Nat) (hi : Int32) (la ce : Nat → Int32) (p t b : Nat) (hp : p ≤ 252) (hW : VW (pgv Mt p)) (ht0 : t < 6) (hb : b ≤ 60) : MX l yX7_hearsOn cX7_hearsOn 4 (some .int) ⟨2, 0, 0, 49⟩ D (TYS tk) [.ref (h 0), .int (nI p), .int (nI t), .int (nI b)] (mW tk h Mt hi la ce) (fun (_ : Unit) => True) (fun _ => some (.int (nI (hearS (pgv Mt p) t b)))) (fun _ => mW tk h (u3 Mt 6 (dist (pgv Mt p) t)) hi la ce) 0 0 := by
  refine MX.of_i (by decide) rfl ?_
  intro zp ze zs zm za zb zt zc zA zQ ls C0 hnm X hl hE
  have hx := C0.1
  have hb := C0.2.1
  have ht := C0.2.2.2.2.1
  have X : Hx D zA zs zs.heap [] (mW tk h Mt hi la ce) := X
  have hl : lv_has ls 4 [(0, .ref (h 0)), (1, .int (nI p)), (2, .int (nI t)), (3, .int (nI b))] := hl
  obtain ⟨H, hH⟩ : ∃ H, H = zs.heap := ⟨_, rfl⟩
  rw [← hH] at X ⊢
  obtain ⟨locs, hlo⟩ : ∃ L : List Loc, L = [] := ⟨_, rfl⟩
  rw [← hlo] at X ⊢
  refine lv_aload_n hx hb dX7_hearsOn_0 rfl (lv_at hl 0 rfl) ?_
  refine lv_iload_n hx hb dX7_hearsOn_1 rfl (lv_at hl 1 rfl) ?_
  refine lv_iload_n hx hb dX7_hearsOn_2 rfl (lv_at hl 2 rfl) ?_
  refine g_callV (As := [.int (nI p), .int (nI t)]) (rest := []) (wr := []) (C0.sz hl) X (c_X7_waysOn l D tk h Mt hi la ce p t (by first | assumption | omega) (by first | assumption | omega) (by first | assumption | omega)) ⟨tb961, tb964, tb8, ⟨by decide, by decide, rfl⟩, rfl, rfl, Nat.le_of_ble_eq_true rfl, Nat.le_of_ble_eq_true rfl⟩ tb963 tbs34 0 7 rfl rfl rfl rfl [0, 1, 2, 3, 4, 5, 6, 7, 8, 9, 10, 11, 12, 13] [] rfl rfl rfl rfl rfl (Nat.le_of_ble_eq_true rfl) ⟨Nat.le_of_ble_eq_true rfl, Nat.le_of_ble_eq_true rfl⟩ dX7_hearsOn_3 (fun _ H locs _ X => ?_)
  have X : Hx D zA zs H locs (mW tk h (u3 Mt 6 (dist (pgv Mt p) t)) hi la ce) := X
  refine lv_aload_n hx hb dX7_hearsOn_6 rfl (lv_at hl 0 rfl) ?_
  refine lv_iload_n hx hb dX7_hearsOn_7 rfl (lv_at hl 1 rfl) ?_
  refine lv_iload_n hx hb dX7_hearsOn_8 rfl (lv_at hl 3 rfl) ?_
  refine g_callV (As := [.int (nI p), .int (nI b)]) (rest := []) (wr := []) (C0.sz hl) X (c_X7_hearersOn l D tk h (u3 Mt 6 (dist (pgv Mt p) t)) hi la ce p b (by first | assumption | omega) (by exact hW) (by exact fun x _ => dist_le _ _ x) (by first | assumption | omega)) ⟨tb965, tb968, tb8, ⟨by decide, by decide, rfl⟩, rfl, rfl, Nat.le_of_ble_eq_true rfl, Nat.le_of_ble_eq_true rfl⟩ tb967 tbs35 0 7 rfl rfl rfl rfl [0, 1, 2, 3, 4, 5, 6, 7, 8, 9, 10, 11, 12, 13] [] rfl rfl rfl rfl rfl (Nat.le_of_ble_eq_true rfl) ⟨Nat.le_of_ble_eq_true rfl, Nat.le_of_ble_eq_true rfl⟩ dX7_hearsOn_9 (fun _ H locs _ X => ?_)
  have X : Hx D zA zs H locs (mW tk h (u3 Mt 6 (dist (pgv Mt p) t)) hi la ce) := X
  exact hE (v := nI (hearW (pgv Mt p) ((u3 Mt 6 (dist (pgv Mt p) t)) 6) b)) () rfl trivial X dX7_hearsOn_12
set_option maxHeartbeats 4000000 in
set_option maxRecDepth 100000 in
theorem c_X7_bitsOf (l : Launch) (D : va_G) (tk : Nat → ClassId) (x : Nat) (hx1 : x < 1024) : MX l yX7_bitsOf cX7_bitsOf 3 (some .int) ⟨0, 0, 0, 0⟩ D (TYS tk) [.int (nI x)] ([]) (fun (_ : Unit) => True) (fun _ => some (.int (nI (pc x)))) (fun _ => []) 0 0 := by
  refine MX.of_i (by decide) rfl ?_
  intro zp ze zs zm za zb zt zc zA zQ ls C0 hnm X hl hE
  have hx := C0.1
  have hb := C0.2.1
  have ht := C0.2.2.2.2.1
  have X : Hx D zA zs zs.heap [] ([]) := X
  have hl : lv_has ls 3 [(0, .int (nI x))] := hl
  obtain ⟨H, hH⟩ : ∃ H, H = zs.heap := ⟨_, rfl⟩
  rw [← hH] at X ⊢
  obtain ⟨locs, hlo⟩ : ∃ L : List Loc, L = [] := ⟨_, rfl⟩
  rw [← hlo] at X ⊢
  refine g_iconst (n := 0) C0 rfl dX7_bitsOf_0 ?_
  refine lv_istore_n (lv' := [(1, .int (nI 0)), (0, .int (nI x))]) hx hb dX7_bitsOf_1 rfl hl (by decide) rfl (fun ls hl => ?_)
  refine lv_iload_n hx hb dX7_bitsOf_2 rfl (lv_at hl 1 rfl) ?_
  refine lv_istore_n (lv' := [(2, .int (nI x)), (1, .int (nI 0)), (0, .int (nI x))]) hx hb dX7_bitsOf_3 rfl hl (by decide) rfl (fun ls hl => ?_)
  have J4 : ∀ (fz : Nat) (kk nn lf : Nat), 11 - kk < fz → ∀ (hk1 : kk ≤ 10) (hlf : lf = x / 2 ^ kk) (hnn : nn = cnt (fun j => x.testBit j) kk) (H : Heap) (locs : List Loc) (ls : Array Slot), Hx D zA zs H locs ([]) → lv_has ls 3 [(2, .int (nI lf)), (1, .int (nI nn)), (0, .int (nI x))] → W zp l ze ⟨0, 0, 0, 0⟩ zs zm za zb zt zc H locs 0 0 zQ (F0 zm 4 ls []) := by
    intro fz
    induction fz with
    | zero => intro kk nn lf hz; exact absurd hz (Nat.not_lt_zero _)
    | succ fz ih4 =>
      intro kk nn lf hz4 hk1 hlf hnn H locs ls X hl
      refine lv_iload_n hx hb dX7_bitsOf_4 rfl (lv_at hl 0 rfl) ?_
      refine g_ifle (x := lf) (tgt := 21) C0 (by exact Nat.lt_of_le_of_lt (hlf ▸ Nat.div_le_self _ _) (by omega)) dX7_bitsOf_5 rfl (fun c1 => ?_) (fun c2 => ?_)
      · refine lv_iload_n hx hb dX7_bitsOf_21 rfl (lv_at hl 1 rfl) ?_
        exact hE (v := nI nn) () (by rw [hnn]; exact congrArg (fun z => some (Value.int (nI z))) (bits_e hk1 hlf c1)) trivial X dX7_bitsOf_22
      · refine lv_iload_n hx hb dX7_bitsOf_8 rfl (lv_at hl 1 rfl) ?_
        refine lv_iload_n hx hb dX7_bitsOf_9 rfl (lv_at hl 0 rfl) ?_
        refine g_iconst (n := 1) C0 rfl dX7_bitsOf_10 ?_
        refine g_iand (n := lf &&& 1) C0 rfl dX7_bitsOf_11 ?_
        refine g_iadd (n := nn + (lf &&& 1)) C0 (by first | rfl | omega) dX7_bitsOf_12 ?_
        refine lv_istore_n (lv' := [(1, .int (nI (nn + (lf &&& 1)))), (2, .int (nI lf)), (0, .int (nI x))]) hx hb dX7_bitsOf_13 rfl hl (by decide) rfl (fun ls hl => ?_)
        refine lv_iload_n hx hb dX7_bitsOf_14 rfl (lv_at hl 1 rfl) ?_
        refine g_iconst (n := 1) C0 rfl dX7_bitsOf_15 ?_
        refine g_ishr (n := lf / 2 ^ 1) C0 (by exact Nat.lt_of_le_of_lt (hlf ▸ Nat.div_le_self _ _) (by omega)) (by first | decide | omega) rfl dX7_bitsOf_16 ?_
        refine lv_istore_n (lv' := [(2, .int (nI (lf / 2 ^ 1))), (1, .int (nI (nn + (lf &&& 1)))), (0, .int (nI x))]) hx hb dX7_bitsOf_17 rfl hl (by decide) rfl (fun ls hl => ?_)
        refine lv_goto (tgt := 4) hx hb dX7_bitsOf_18 (by decide) ?_
        exact ih4 (kk + 1) (nn + (lf &&& 1)) (lf / 2 ^ 1) (by omega) (by exact bits_k hx1 hlf c2) (by rw [hlf, Nat.div_div_eq_div_mul, ← Nat.pow_add]) (by rw [hnn, hlf]; exact bits_n x kk) H locs ls X (lv_sub hl [0, 1, 2] rfl)
  exact J4 ((11 - 0) + 1) 0 0 x (Nat.lt_succ_self _) (by omega) (by simp) (by rfl) H locs ls X (lv_sub hl [0, 1, 2] rfl)
set_option maxHeartbeats 4000000 in
set_option maxRecDepth 100000 in
theorem c_X7_talksOn (l : Launch) (D : va_G) (tk : Nat → ClassId) (h : Nat → Nat) (Mt : Nat → Nat → Nat) (hi : Int32) (la ce : Nat → Int32) (p : Nat) (hp : p ≤ 252) (hW : VW (pgv Mt p)) : MX l yX7_talksOn cX7_talksOn 4 (some .int) ⟨3, 0, 0, 72⟩ D (TYS tk) [.ref (h 0), .int (nI p)] (mW tk h Mt hi la ce) (fun (u : (Nat → Nat) × (Nat → Nat)) => ∀ j, j < Mt 0 (p + 62) → u.2 j = heardS (pgv Mt p) j) (fun u => some (.int (nI (hearersS (pgv Mt p))))) (fun u => mW tk h (u3 (u3 Mt 6 u.1) 7 u.2) hi la ce) 0 0 := by
  refine MX.of_i (by decide) rfl ?_
  intro zp ze zs zm za zb zt zc zA zQ ls C0 hnm X hl hE
  have hx := C0.1
  have hb := C0.2.1
  have ht := C0.2.2.2.2.1
  have X : Hx D zA zs zs.heap [] (mW tk h Mt hi la ce) := X
  have hl : lv_has ls 4 [(0, .ref (h 0)), (1, .int (nI p))] := hl
  obtain ⟨hv1, hv2, hv3, hv4, hv5, hv6, hv7⟩ := id hW
  have hb1 : Mt 20 0 ≤ 6 := hv1
  have hb4 : Mt 0 (p + 62) ≤ 6 := hv4
  obtain ⟨H, hH⟩ : ∃ H, H = zs.heap := ⟨_, rfl⟩
  rw [← hH] at X ⊢
  obtain ⟨locs, hlo⟩ : ∃ L : List Loc, L = [] := ⟨_, rfl⟩
  rw [← hlo] at X ⊢
  refine g_iconst (n := 0) C0 rfl dX7_talksOn_0 ?_
  refine lv_istore_n (lv' := [(2, .int (nI 0)), (0, .ref (h 0)), (1, .int (nI p))]) hx hb dX7_talksOn_1 rfl hl (by decide) rfl (fun ls hl => ?_)
  refine g_iconst (n := 0) C0 rfl dX7_talksOn_2 ?_
  refine lv_istore_n (lv' := [(3, .int (nI 0)), (2, .int (nI 0)), (0, .ref (h 0)), (1, .int (nI p))]) hx hb dX7_talksOn_3 rfl hl (by decide) rfl (fun ls hl => ?_)
  have J4 : ∀ (fz : Nat) (i sm : Nat) (w1 e1 : Nat → Nat), Mt 0 (p + 62) - i < fz → ∀ (hi1 : i ≤ Mt 0 (p + 62)) (he : ∀ j, j < i → e1 j = heardS (pgv Mt p) j) (hsm : sm = nsum (fun k => pc (heardS (pgv Mt p) k)) i) (H : Heap) (locs : List Loc) (ls : Array Slot), Hx D zA zs H locs (mW tk h (u3 (u3 Mt 6 w1) 7 e1) hi la ce) → lv_has ls 4 [(3, .int (nI i)), (2, .int (nI sm)), (0, .ref (h 0)), (1, .int (nI p))] → W zp l ze ⟨3, 0, 0, 72⟩ zs zm za zb zt zc H locs 0 0 zQ (F0 zm 4 ls []) := by
    intro fz
    induction fz with
    | zero => intro i sm w1 e1 hz; exact absurd hz (Nat.not_lt_zero _)
    | succ fz ih4 =>
      intro i sm w1 e1 hz4 hi1 he hsm H locs ls X hl
      refine lv_iload_n hx hb dX7_talksOn_4 rfl (lv_at hl 0 rfl) ?_
      refine lv_aload_n hx hb dX7_talksOn_5 rfl (lv_at hl 2 rfl) ?_
      refine g_get (v := .ref (h 1)) C0 X kX7 0 0 tb797 rfl rfl rfl dX7_talksOn_6 ?_
      refine lv_iload_n hx hb dX7_talksOn_9 rfl (lv_at hl 3 rfl) ?_
      refine g_bipush (n := 62) C0 (by decide) dX7_talksOn_10 ?_
      refine g_iadd (n := p + 62) C0 (by first | rfl | omega) dX7_talksOn_12 ?_
      refine g_iald (v := nI (Mt 0 (p + 62))) (i := p + 62) C0 X 1 0 rfl rfl (by omega) rfl rfl dX7_talksOn_13 ?_
      refine g_icmp_ge (x := i) (y := Mt 0 (p + 62)) (tgt := 68) C0 (by omega) (by omega) dX7_talksOn_14 rfl (fun c1 => ?_) (fun c2 => ?_)
      · refine lv_iload_n hx hb dX7_talksOn_68 rfl (lv_at hl 1 rfl) ?_
        exact hE (v := nI sm) (w1, e1) (by rw [hsm, show i = pgv Mt p 8 3 by show i = Mt 0 (p + 62); omega]; rfl) (by intro j hj; exact he j (by omega)) X dX7_talksOn_69
      · have hr : Mt 0 (p + 44 + i) ≤ 23 ∧ Mt 0 (p + 50 + i) < Mt 20 0 ∧ 1 ≤ Mt 0 (p + 56 + i) ∧ Mt 0 (p + 56 + i) ≤ 60 := hv7 i (by show i < Mt 0 (p + 62); omega)
        refine lv_aload_n hx hb dX7_talksOn_17 rfl (lv_at hl 2 rfl) ?_
        refine g_get (v := .ref (h 7)) C0 X kX7 0 18 tb815 rfl rfl rfl dX7_talksOn_18 ?_
        refine lv_iload_n hx hb dX7_talksOn_21 rfl (lv_at hl 0 rfl) ?_
        refine lv_aload_n hx hb dX7_talksOn_22 rfl (lv_at hl 2 rfl) ?_
        refine lv_iload_n hx hb dX7_talksOn_23 rfl (lv_at hl 3 rfl) ?_
        refine lv_aload_n hx hb dX7_talksOn_24 rfl (lv_at hl 2 rfl) ?_
        refine g_get (v := .ref (h 1)) C0 X kX7 0 0 tb797 rfl rfl rfl dX7_talksOn_25 ?_
        refine lv_iload_n hx hb dX7_talksOn_28 rfl (lv_at hl 3 rfl) ?_
        refine g_bipush (n := 50) C0 (by decide) dX7_talksOn_29 ?_
        refine g_iadd (n := p + 50) C0 (by first | rfl | omega) dX7_talksOn_31 ?_
        refine lv_iload_n hx hb dX7_talksOn_32 rfl (lv_at hl 0 rfl) ?_
        refine g_iadd (n := (p + 50) + i) C0 (by first | rfl | omega) dX7_talksOn_33 ?_
        refine g_iald (v := nI (Mt 0 ((p + 50) + i))) (i := (p + 50) + i) C0 X 1 0 rfl rfl (by omega) rfl rfl dX7_talksOn_34 ?_
        refine lv_aload_n hx hb dX7_talksOn_35 rfl (lv_at hl 2 rfl) ?_
        refine g_get (v := .ref (h 1)) C0 X kX7 0 0 tb797 rfl rfl rfl dX7_talksOn_36 ?_
        refine lv_iload_n hx hb dX7_talksOn_39 rfl (lv_at hl 3 rfl) ?_
        refine g_bipush (n := 56) C0 (by decide) dX7_talksOn_40 ?_
        refine g_iadd (n := p + 56) C0 (by first | rfl | omega) dX7_talksOn_42 ?_
        refine lv_iload_n hx hb dX7_talksOn_43 rfl (lv_at hl 0 rfl) ?_
        refine g_iadd (n := (p + 56) + i) C0 (by first | rfl | omega) dX7_talksOn_44 ?_
        refine g_iald (v := nI (Mt 0 ((p + 56) + i))) (i := (p + 56) + i) C0 X 1 0 rfl rfl (by omega) rfl rfl dX7_talksOn_45 ?_
        refine g_callV (As := [.int (nI p), .int (nI (Mt 0 ((p + 50) + i))), .int (nI (Mt 0 ((p + 56) + i)))]) (rest := [.int (nI i), .ref (h 7)]) (wr := []) (C0.sz hl) X (c_X7_hearsOn l D tk h (u3 (u3 Mt 6 w1) 7 e1) hi la ce p (Mt 0 ((p + 50) + i)) (Mt 0 ((p + 56) + i)) (by omega) (by exact hW) (by omega) (by omega)) ⟨tb957, tb960, tb8, ⟨by decide, by decide, rfl⟩, rfl, rfl, Nat.le_of_ble_eq_true rfl, Nat.le_of_ble_eq_true rfl⟩ tb959 tbs33 0 7 rfl rfl rfl rfl [0, 1, 2, 3, 4, 5, 6, 7, 8, 9, 10, 11, 12, 13] [] rfl rfl rfl rfl rfl (Nat.le_of_ble_eq_true rfl) ⟨Nat.le_of_ble_eq_true rfl, Nat.le_of_ble_eq_true rfl⟩ dX7_talksOn_46 (fun _ H locs _ X => ?_)
        have X : Hx D zA zs H locs (mW tk h (u3 (u3 Mt 7 e1) 6 (dist (pgv Mt p) (Mt 0 ((p + 50) + i)))) hi la ce) := X
        refine g_iast (g := nf (u1 e1 i (hearS (pgv Mt p) (Mt 0 ((p + 50) + i)) (Mt 0 ((p + 56) + i))))) (i := i) C0 X 7 0 rfl rfl (by omega) rfl (nf_u1 _ _ _) dX7_talksOn_49 (fun H locs X => ?_)
        have X : Hx D zA zs H locs (mW tk h (u2 (u3 (u3 Mt 7 e1) 6 (dist (pgv Mt p) (Mt 0 ((p + 50) + i)))) 7 i (hearS (pgv Mt p) (Mt 0 ((p + 50) + i)) (Mt 0 ((p + 56) + i)))) hi la ce) := X
        refine lv_iload_n hx hb dX7_talksOn_50 rfl (lv_at hl 1 rfl) ?_
        refine lv_aload_n hx hb dX7_talksOn_51 rfl (lv_at hl 2 rfl) ?_
        refine g_get (v := .ref (h 7)) C0 X kX7 0 18 tb815 rfl rfl rfl dX7_talksOn_52 ?_
        refine lv_iload_n hx hb dX7_talksOn_55 rfl (lv_at hl 0 rfl) ?_
        refine g_iald (v := nI (hearS (pgv Mt p) (Mt 0 ((p + 50) + i)) (Mt 0 ((p + 56) + i)))) (i := i) C0 X 7 0 rfl rfl (by omega) rfl (by first | rfl | exact congrArg nI (u1_s _ _ _)) dX7_talksOn_56 ?_
        have hL := heardS_lt (pgv Mt p) i hv1
        refine g_callS (As := [.int (nI (hearS (pgv Mt p) (Mt 0 ((p + 50) + i)) (Mt 0 ((p + 56) + i))))]) (rest := [.int (nI sm)]) (wr := (mW tk h (u2 (u3 (u3 Mt 7 e1) 6 (dist (pgv Mt p) (Mt 0 ((p + 50) + i)))) 7 i (hearS (pgv Mt p) (Mt 0 ((p + 50) + i)) (Mt 0 ((p + 56) + i)))) hi la ce)) (C0.sz hl) X (c_X7_bitsOf l D tk (hearS (pgv Mt p) (Mt 0 ((p + 50) + i)) (Mt 0 ((p + 56) + i))) (by exact Nat.lt_of_lt_of_le hL (by decide))) ⟨tb973, tb975, tb8, ⟨by decide, by decide, rfl⟩, rfl, rfl, Nat.le_of_ble_eq_true rfl, Nat.le_of_ble_eq_true rfl⟩ tb974 rfl [] [0, 1, 2, 3, 4, 5, 6, 7, 8, 9, 10, 11, 12, 13] rfl rfl rfl rfl rfl (Nat.le_of_ble_eq_true rfl) ⟨Nat.le_of_ble_eq_true rfl, Nat.le_of_ble_eq_true rfl⟩ dX7_talksOn_57 (fun _ H locs _ X => ?_)
        have X : Hx D zA zs H locs (mW tk h (u2 (u3 (u3 Mt 7 e1) 6 (dist (pgv Mt p) (Mt 0 ((p + 50) + i)))) 7 i (hearS (pgv Mt p) (Mt 0 ((p + 50) + i)) (Mt 0 ((p + 56) + i)))) hi la ce) := X
        refine g_iadd (n := sm + (pc (hearS (pgv Mt p) (Mt 0 ((p + 50) + i)) (Mt 0 ((p + 56) + i))))) C0 (by first | rfl | omega) dX7_talksOn_60 ?_
        refine lv_istore_n (lv' := [(2, .int (nI (sm + (pc (hearS (pgv Mt p) (Mt 0 ((p + 50) + i)) (Mt 0 ((p + 56) + i))))))), (3, .int (nI i)), (0, .ref (h 0)), (1, .int (nI p))]) hx hb dX7_talksOn_61 rfl hl (by decide) rfl (fun ls hl => ?_)
        refine g_iinc (j := 1) (z := i + 1) (lv' := [(3, .int (nI (i + 1))), (2, .int (nI (sm + (pc (hearS (pgv Mt p) (Mt 0 ((p + 50) + i)) (Mt 0 ((p + 56) + i))))))), (0, .ref (h 0)), (1, .int (nI p))]) C0 rfl (by first | rfl | omega) dX7_talksOn_62 hl (k := 1) rfl (by decide) rfl (fun ls hl => ?_)
        refine lv_goto (tgt := 4) hx hb dX7_talksOn_65 (by decide) ?_
        exact ih4 (i + 1) (sm + (pc (hearS (pgv Mt p) (Mt 0 ((p + 50) + i)) (Mt 0 ((p + 56) + i))))) (dist (pgv Mt p) (Mt 0 ((p + 50) + i))) (u1 e1 i (hearS (pgv Mt p) (Mt 0 ((p + 50) + i)) (Mt 0 ((p + 56) + i)))) (by omega) (by omega) (by exact listen_s he) (by rw [hsm]; rfl) H locs ls X (lv_sub hl [0, 1, 2, 3] rfl)
  exact J4 ((Mt 0 (p + 62) - 0) + 1) 0 0 (Mt 6) (Mt 7) (Nat.lt_succ_self _) (by omega) (by intro j hj; omega) (by rfl) H locs ls X (lv_sub hl [0, 1, 2, 3] rfl)
set_option maxHeartbeats 4000000 in
set_option maxRecDepth 100000 in
theorem c_X7_crossedOn (l : Launch) (D : va_G) (tk : Nat → ClassId) (h : Nat → Nat) (Mt : Nat → Nat → Nat) (hi : Int32) (la ce : Nat → Int32) (p : Nat) (hp : p ≤ 252) (hW : VW (pgv Mt p)) : MX l yX7_crossedOn cX7_crossedOn 5 (some .int) ⟨4, 0, 0, 95⟩ D (TYS tk) [.ref (h 0), .int (nI p)] (mW tk h Mt hi la ce) (fun (u : (Nat → Nat) × (Nat → Nat)) => True) (fun u => some (.int (nI (crossS (pgv Mt p))))) (fun u => mW tk h (u3 (u3 Mt 6 u.1) 7 u.2) hi la ce) 0 0 := by
  refine MX.of_i (by decide) rfl ?_
  intro zp ze zs zm za zb zt zc zA zQ ls C0 hnm X hl hE
  have hx := C0.1
  have hb := C0.2.1
  have ht := C0.2.2.2.2.1
  have X : Hx D zA zs zs.heap [] (mW tk h Mt hi la ce) := X
  have hl : lv_has ls 5 [(0, .ref (h 0)), (1, .int (nI p))] := hl
  obtain ⟨hv1, hv2, hv3, hv4, hv5, hv6, hv7⟩ := id hW
  have hb1 : Mt 20 0 ≤ 6 := hv1
  have hb4 : Mt 0 (p + 62) ≤ 6 := hv4
  obtain ⟨H, hH⟩ : ∃ H, H = zs.heap := ⟨_, rfl⟩
  rw [← hH] at X ⊢
  obtain ⟨locs, hlo⟩ : ∃ L : List Loc, L = [] := ⟨_, rfl⟩
  rw [← hlo] at X ⊢
  refine g_iconst (n := 0) C0 rfl dX7_crossedOn_0 ?_
  refine lv_istore_n (lv' := [(2, .int (nI 0)), (0, .ref (h 0)), (1, .int (nI p))]) hx hb dX7_crossedOn_1 rfl hl (by decide) rfl (fun ls hl => ?_)
  refine lv_aload_n hx hb dX7_crossedOn_2 rfl (lv_at hl 1 rfl) ?_
  refine lv_iload_n hx hb dX7_crossedOn_3 rfl (lv_at hl 2 rfl) ?_
  refine g_callV (As := [.int (nI p)]) (rest := []) (wr := []) (C0.sz hl) X (c_X7_talksOn l D tk h Mt hi la ce p (by first | assumption | omega) (by first | assumption | omega)) ⟨tb953, tb956, tb8, ⟨by decide, by decide, rfl⟩, rfl, rfl, Nat.le_of_ble_eq_true rfl, Nat.le_of_ble_eq_true rfl⟩ tb955 tbs32 0 7 rfl rfl rfl rfl [0, 1, 2, 3, 4, 5, 6, 7, 8, 9, 10, 11, 12, 13] [] rfl rfl rfl rfl rfl (Nat.le_of_ble_eq_true rfl) ⟨Nat.le_of_ble_eq_true rfl, Nat.le_of_ble_eq_true rfl⟩ dX7_crossedOn_4 (fun uq1 H locs hp2 X => ?_)
  have X : Hx D zA zs H locs (mW tk h (u3 (u3 Mt 6 uq1.1) 7 uq1.2) hi la ce) := X
  have hp2 : ∀ j, j < Mt 0 (p + 62) → uq1.2 j = heardS (pgv Mt p) j := hp2
  refine lv_pop hx hb dX7_crossedOn_7 rfl ?_
  refine g_iconst (n := 0) C0 rfl dX7_crossedOn_8 ?_
  refine lv_istore_n (lv' := [(3, .int (nI 0)), (2, .int (nI 0)), (0, .ref (h 0)), (1, .int (nI p))]) hx hb dX7_crossedOn_9 rfl hl (by decide) rfl (fun ls hl => ?_)
  have J10 : ∀ (fz : Nat) (i bs : Nat), Mt 0 (p + 62) - i < fz → ∀ (hi1 : i ≤ Mt 0 (p + 62)) (hbs : bs = nsum (fun k => cnt (crossP (pgv Mt p) k) k) i) (H : Heap) (locs : List Loc) (ls : Array Slot), Hx D zA zs H locs (mW tk h (u3 (u3 Mt 6 uq1.1) 7 uq1.2) hi la ce) → lv_has ls 5 [(3, .int (nI i)), (2, .int (nI bs)), (0, .ref (h 0)), (1, .int (nI p))] → W zp l ze ⟨4, 0, 0, 95⟩ zs zm za zb zt zc H locs 0 0 zQ (F0 zm 10 ls []) := by
    intro fz
    induction fz with
    | zero => intro i bs hz; exact absurd hz (Nat.not_lt_zero _)
    | succ fz ih10 =>
      intro i bs hz10 hi1 hbs H locs ls X hl
      refine lv_iload_n hx hb dX7_crossedOn_10 rfl (lv_at hl 0 rfl) ?_
      refine lv_aload_n hx hb dX7_crossedOn_11 rfl (lv_at hl 2 rfl) ?_
      refine g_get (v := .ref (h 1)) C0 X kX7 0 0 tb797 rfl rfl rfl dX7_crossedOn_12 ?_
      refine lv_iload_n hx hb dX7_crossedOn_15 rfl (lv_at hl 3 rfl) ?_
      refine g_bipush (n := 62) C0 (by decide) dX7_crossedOn_16 ?_
      refine g_iadd (n := p + 62) C0 (by first | rfl | omega) dX7_crossedOn_18 ?_
      refine g_iald (v := nI (Mt 0 (p + 62))) (i := p + 62) C0 X 1 0 rfl rfl (by omega) rfl rfl dX7_crossedOn_19 ?_
      refine g_icmp_ge (x := i) (y := Mt 0 (p + 62)) (tgt := 95) C0 (by omega) (by omega) dX7_crossedOn_20 rfl (fun c3 => ?_) (fun c4 => ?_)
      · refine lv_iload_n hx hb dX7_crossedOn_95 rfl (lv_at hl 1 rfl) ?_
        exact hE (v := nI bs) (uq1.1, uq1.2) (by rw [hbs, show i = pgv Mt p 8 3 by show i = Mt 0 (p + 62); omega]; rfl) trivial X dX7_crossedOn_96
      · refine g_iconst (n := 0) C0 rfl dX7_crossedOn_23 ?_
        refine lv_istore (lv' := [(4, .int (nI 0)), (3, .int (nI i)), (2, .int (nI bs)), (0, .ref (h 0)), (1, .int (nI p))]) hx hb dX7_crossedOn_24 hl (by decide) rfl (fun ls hl => ?_)
        have J26 : ∀ (fz : Nat) (j bs2 : Nat), i - j < fz → ∀ (hj : j ≤ i) (hbs2 : bs2 = nsum (fun k => cnt (crossP (pgv Mt p) k) k) i + cnt (crossP (pgv Mt p) i) j) (H : Heap) (locs : List Loc) (ls : Array Slot), Hx D zA zs H locs (mW tk h (u3 (u3 Mt 6 uq1.1) 7 uq1.2) hi la ce) → lv_has ls 5 [(4, .int (nI j)), (3, .int (nI i)), (2, .int (nI bs2)), (0, .ref (h 0)), (1, .int (nI p))] → W zp l ze ⟨4, 0, 0, 95⟩ zs zm za zb zt zc H locs 0 0 zQ (F0 zm 26 ls []) := by
          intro fz
          induction fz with
          | zero => intro j bs2 hz; exact absurd hz (Nat.not_lt_zero _)
          | succ fz ih26 =>
            intro j bs2 hz26 hj hbs2 H locs ls X hl
            refine lv_iload hx hb dX7_crossedOn_26 (lv_at hl 0 rfl) ?_
            refine lv_iload_n hx hb dX7_crossedOn_28 rfl (lv_at hl 1 rfl) ?_
            refine g_icmp_ge (x := j) (y := i) (tgt := 89) C0 (by omega) (by omega) dX7_crossedOn_29 rfl (fun c5 => ?_) (fun c6 => ?_)
            · refine g_iinc (j := 1) (z := i + 1) (lv' := [(3, .int (nI (i + 1))), (4, .int (nI j)), (2, .int (nI bs2)), (0, .ref (h 0)), (1, .int (nI p))]) C0 rfl (by first | rfl | omega) dX7_crossedOn_89 hl (k := 1) rfl (by decide) rfl (fun ls hl => ?_)
              refine lv_goto (tgt := 10) hx hb dX7_crossedOn_92 (by decide) ?_
              exact ih10 (i + 1) bs2 (by omega) (by omega) (by rw [hbs2, show j = i by omega]; rfl) H locs ls X (lv_sub hl [0, 2, 3, 4] rfl)
            · refine lv_iload_n hx hb dX7_crossedOn_32 rfl (lv_at hl 2 rfl) ?_
              refine lv_aload_n hx hb dX7_crossedOn_33 rfl (lv_at hl 3 rfl) ?_
              refine g_get (v := .ref (h 1)) C0 X kX7 0 0 tb797 rfl rfl rfl dX7_crossedOn_34 ?_
              refine lv_iload_n hx hb dX7_crossedOn_37 rfl (lv_at hl 4 rfl) ?_
              refine g_bipush (n := 44) C0 (by decide) dX7_crossedOn_38 ?_
              refine g_iadd (n := p + 44) C0 (by first | rfl | omega) dX7_crossedOn_40 ?_
              refine lv_iload_n hx hb dX7_crossedOn_41 rfl (lv_at hl 1 rfl) ?_
              refine g_iadd (n := (p + 44) + i) C0 (by first | rfl | omega) dX7_crossedOn_42 ?_
              refine g_iald (v := nI (Mt 0 ((p + 44) + i))) (i := (p + 44) + i) C0 X 1 0 rfl rfl (by omega) rfl rfl dX7_crossedOn_43 ?_
              refine lv_aload_n hx hb dX7_crossedOn_44 rfl (lv_at hl 3 rfl) ?_
              refine g_get (v := .ref (h 1)) C0 X kX7 0 0 tb797 rfl rfl rfl dX7_crossedOn_45 ?_
              refine lv_iload_n hx hb dX7_crossedOn_48 rfl (lv_at hl 4 rfl) ?_
              refine g_bipush (n := 44) C0 (by decide) dX7_crossedOn_49 ?_
              refine g_iadd (n := p + 44) C0 (by first | rfl | omega) dX7_crossedOn_51 ?_
              refine lv_iload hx hb dX7_crossedOn_52 (lv_at hl 0 rfl) ?_
              refine g_iadd (n := (p + 44) + j) C0 (by first | rfl | omega) dX7_crossedOn_54 ?_
              refine g_iald (v := nI (Mt 0 ((p + 44) + j))) (i := (p + 44) + j) C0 X 1 0 rfl rfl (by omega) rfl rfl dX7_crossedOn_55 ?_
              have hr1 : Mt 0 (p + 44 + i) ≤ 23 := (hv7 i (by show i < Mt 0 (p + 62); omega)).1
              have hr2 : Mt 0 (p + 44 + j) ≤ 23 := (hv7 j (by show j < Mt 0 (p + 62); omega)).1
              refine g_icmp_ne (x := Mt 0 ((p + 44) + i)) (y := Mt 0 ((p + 44) + j)) (tgt := 80) C0 (by omega) (by omega) dX7_crossedOn_56 rfl (fun c7 => ?_) (fun c8 => ?_)
              · refine g_iconst (n := 0) C0 rfl dX7_crossedOn_80 ?_
                refine g_iadd (n := bs2) C0 (by first | rfl | omega) dX7_crossedOn_81 ?_
                refine lv_istore_n (lv' := [(2, .int (nI bs2)), (4, .int (nI j)), (3, .int (nI i)), (0, .ref (h 0)), (1, .int (nI p))]) hx hb dX7_crossedOn_82 rfl hl (by decide) rfl (fun ls hl => ?_)
                refine g_iinc (j := 1) (z := j + 1) (lv' := [(4, .int (nI (j + 1))), (2, .int (nI bs2)), (3, .int (nI i)), (0, .ref (h 0)), (1, .int (nI p))]) C0 rfl (by first | rfl | omega) dX7_crossedOn_83 hl (k := 1) rfl (by decide) rfl (fun ls hl => ?_)
                refine lv_goto (tgt := 26) hx hb dX7_crossedOn_86 (by decide) ?_
                exact ih26 (j + 1) bs2 (by omega) (by omega) (by first | (rw [cnt_f (mcross_1 c7)]; exact hbs2) | (rw [cnt_f (mcross_2 (hp2 i (by omega)) (hp2 j (by omega)) c7)]; exact hbs2) | (rw [cnt_t (mcross_3 (hp2 i (by omega)) (hp2 j (by omega)) c6 c7)]; omega)) H locs ls X (lv_sub hl [0, 2, 1, 3, 4] rfl)
              · refine lv_aload_n hx hb dX7_crossedOn_59 rfl (lv_at hl 3 rfl) ?_
                refine g_get (v := .ref (h 7)) C0 X kX7 0 18 tb815 rfl rfl rfl dX7_crossedOn_60 ?_
                refine lv_iload_n hx hb dX7_crossedOn_63 rfl (lv_at hl 1 rfl) ?_
                refine g_iald (v := nI (uq1.2 i)) (i := i) C0 X 7 0 rfl rfl (by omega) rfl rfl dX7_crossedOn_64 ?_
                refine lv_aload_n hx hb dX7_crossedOn_65 rfl (lv_at hl 3 rfl) ?_
                refine g_get (v := .ref (h 7)) C0 X kX7 0 18 tb815 rfl rfl rfl dX7_crossedOn_66 ?_
                refine lv_iload hx hb dX7_crossedOn_69 (lv_at hl 0 rfl) ?_
                refine g_iald (v := nI (uq1.2 j)) (i := j) C0 X 7 0 rfl rfl (by omega) rfl rfl dX7_crossedOn_71 ?_
                refine g_iand (n := (uq1.2 i) &&& (uq1.2 j)) C0 rfl dX7_crossedOn_72 ?_
                have hL := heardS_lt (pgv Mt p) i hv1
                have he1 := hp2 i (by omega)
                refine g_ifeq (x := (uq1.2 i) &&& (uq1.2 j)) (tgt := 80) C0 (by exact and_31 (by omega)) dX7_crossedOn_73 rfl (fun c9 => ?_) (fun c10 => ?_)
                · refine g_iconst (n := 0) C0 rfl dX7_crossedOn_80 ?_
                  refine g_iadd (n := bs2) C0 (by first | rfl | omega) dX7_crossedOn_81 ?_
                  refine lv_istore_n (lv' := [(2, .int (nI bs2)), (4, .int (nI j)), (3, .int (nI i)), (0, .ref (h 0)), (1, .int (nI p))]) hx hb dX7_crossedOn_82 rfl hl (by decide) rfl (fun ls hl => ?_)
                  refine g_iinc (j := 1) (z := j + 1) (lv' := [(4, .int (nI (j + 1))), (2, .int (nI bs2)), (3, .int (nI i)), (0, .ref (h 0)), (1, .int (nI p))]) C0 rfl (by first | rfl | omega) dX7_crossedOn_83 hl (k := 1) rfl (by decide) rfl (fun ls hl => ?_)
                  refine lv_goto (tgt := 26) hx hb dX7_crossedOn_86 (by decide) ?_
                  exact ih26 (j + 1) bs2 (by omega) (by omega) (by first | (rw [cnt_f (mcross_1 c9)]; exact hbs2) | (rw [cnt_f (mcross_2 (hp2 i (by omega)) (hp2 j (by omega)) c9)]; exact hbs2) | (rw [cnt_t (mcross_3 (hp2 i (by omega)) (hp2 j (by omega)) c8 c9)]; omega)) H locs ls X (lv_sub hl [0, 2, 1, 3, 4] rfl)
                · refine g_iconst (n := 1) C0 rfl dX7_crossedOn_76 ?_
                  refine lv_goto (tgt := 81) hx hb dX7_crossedOn_77 (by decide) ?_
                  refine g_iadd (n := bs2 + 1) C0 (by first | rfl | omega) dX7_crossedOn_81 ?_
                  refine lv_istore_n (lv' := [(2, .int (nI (bs2 + 1))), (4, .int (nI j)), (3, .int (nI i)), (0, .ref (h 0)), (1, .int (nI p))]) hx hb dX7_crossedOn_82 rfl hl (by decide) rfl (fun ls hl => ?_)
                  refine g_iinc (j := 1) (z := j + 1) (lv' := [(4, .int (nI (j + 1))), (2, .int (nI (bs2 + 1))), (3, .int (nI i)), (0, .ref (h 0)), (1, .int (nI p))]) C0 rfl (by first | rfl | omega) dX7_crossedOn_83 hl (k := 1) rfl (by decide) rfl (fun ls hl => ?_)
                  refine lv_goto (tgt := 26) hx hb dX7_crossedOn_86 (by decide) ?_
                  exact ih26 (j + 1) (bs2 + 1) (by omega) (by omega) (by first | (rw [cnt_f (mcross_1 c10)]; exact hbs2) | (rw [cnt_f (mcross_2 (hp2 i (by omega)) (hp2 j (by omega)) c10)]; exact hbs2) | (rw [cnt_t (mcross_3 (hp2 i (by omega)) (hp2 j (by omega)) c8 c10)]; omega)) H locs ls X (lv_sub hl [0, 2, 1, 3, 4] rfl)
        exact J26 ((i - 0) + 1) 0 bs (Nat.lt_succ_self _) (by omega) (by rw [hbs]; rfl) H locs ls X (lv_sub hl [0, 1, 2, 3, 4] rfl)
  exact J10 ((Mt 0 (p + 62) - 0) + 1) 0 0 (Nat.lt_succ_self _) (by omega) (by rfl) H locs ls X (lv_sub hl [0, 1, 2, 3] rfl)
set_option maxHeartbeats 4000000 in
set_option maxRecDepth 100000 in
theorem c_putsT (l : Launch) (D : va_G) (tk : Nat → ClassId) (h : Nat → Nat) (Mt : Nat → Nat → Nat) (hi : Int32) (la ce : Nat → Int32) (gd x y : Nat) (hg : gd = 1) (hx1 : x < 315) : MX l yX7_puts cX7_puts 5 (some .int) ⟨0, 0, 0, 0⟩ D (TYS tk) [.ref (h 0), .int (nI gd), .int (nI x), .int (nI y)] (mW tk h Mt hi la ce) (fun (_ : Unit) => True) (fun _ => some (.int (nI (Mt 0 x)))) (fun _ => mW tk h (u2 Mt 0 x y) hi la ce) 0 0 := by
  refine MX.of_i (by decide) rfl ?_
  intro zp ze zs zm za zb zt zc zA zQ ls C0 hnm X hl hE
  have hx := C0.1
  have hb := C0.2.1
  have ht := C0.2.2.2.2.1
  have X : Hx D zA zs zs.heap [] (mW tk h Mt hi la ce) := X
  have hl : lv_has ls 5 [(0, .ref (h 0)), (1, .int (nI gd)), (2, .int (nI x)), (3, .int (nI y))] := hl
  obtain ⟨H, hH⟩ : ∃ H, H = zs.heap := ⟨_, rfl⟩
  rw [← hH] at X ⊢
  obtain ⟨locs, hlo⟩ : ∃ L : List Loc, L = [] := ⟨_, rfl⟩
  rw [← hlo] at X ⊢
  refine lv_iload_n hx hb dX7_puts_0 rfl (lv_at hl 1 rfl) ?_
  refine g_ifne (x := gd) (tgt := 6) C0 (by omega) dX7_puts_1 rfl (fun c1 => ?_) (fun c2 => ?_)
  · refine lv_aload_n hx hb dX7_puts_6 rfl (lv_at hl 0 rfl) ?_
    refine g_get (v := .ref (h 1)) C0 X kX7 0 0 tb797 rfl rfl rfl dX7_puts_7 ?_
    refine lv_iload_n hx hb dX7_puts_10 rfl (lv_at hl 2 rfl) ?_
    refine g_iald (v := nI (Mt 0 x)) (i := x) C0 X 1 0 rfl rfl (by omega) rfl rfl dX7_puts_11 ?_
    refine lv_istore (lv' := [(4, .int (nI (Mt 0 x))), (0, .ref (h 0)), (1, .int (nI gd)), (2, .int (nI x)), (3, .int (nI y))]) hx hb dX7_puts_12 hl (by decide) rfl (fun ls hl => ?_)
    refine lv_aload_n hx hb dX7_puts_14 rfl (lv_at hl 1 rfl) ?_
    refine g_get (v := .ref (h 1)) C0 X kX7 0 0 tb797 rfl rfl rfl dX7_puts_15 ?_
    refine lv_iload_n hx hb dX7_puts_18 rfl (lv_at hl 3 rfl) ?_
    refine lv_iload_n hx hb dX7_puts_19 rfl (lv_at hl 4 rfl) ?_
    refine g_iast (g := nf (u1 (Mt 0) x y)) (i := x) C0 X 1 0 rfl rfl (by omega) rfl (nf_u1 _ _ _) dX7_puts_20 (fun H locs X => ?_)
    have X : Hx D zA zs H locs (mW tk h (u2 Mt 0 x y) hi la ce) := X
    refine lv_iload hx hb dX7_puts_21 (lv_at hl 0 rfl) ?_
    exact hE (v := nI (Mt 0 x)) () rfl trivial X dX7_puts_23
  · omega
set_option maxHeartbeats 4000000 in
set_option maxRecDepth 100000 in
theorem c_putsF (l : Launch) (D : va_G) (tk : Nat → ClassId) (h : Nat → Nat) (Mt : Nat → Nat → Nat) (hi : Int32) (la ce : Nat → Int32) (gd : Nat) (x y : Int32) (hg : gd = 0) : MX l yX7_puts cX7_puts 5 (some .int) ⟨0, 0, 0, 0⟩ D (TYS tk) [.ref (h 0), .int (nI gd), .int x, .int y] (mW tk h Mt hi la ce) (fun (_ : Unit) => True) (fun _ => some (.int (-1))) (fun _ => mW tk h Mt hi la ce) 0 0 := by
  refine MX.of_i (by decide) rfl ?_
  intro zp ze zs zm za zb zt zc zA zQ ls C0 hnm X hl hE
  have hx := C0.1
  have hb := C0.2.1
  have ht := C0.2.2.2.2.1
  have X : Hx D zA zs zs.heap [] (mW tk h Mt hi la ce) := X
  have hl : lv_has ls 5 [(0, .ref (h 0)), (1, .int (nI gd)), (2, .int x), (3, .int y)] := hl
  obtain ⟨H, hH⟩ : ∃ H, H = zs.heap := ⟨_, rfl⟩
  rw [← hH] at X ⊢
  obtain ⟨locs, hlo⟩ : ∃ L : List Loc, L = [] := ⟨_, rfl⟩
  rw [← hlo] at X ⊢
  refine lv_iload_n hx hb dX7_puts_0 rfl (lv_at hl 1 rfl) ?_
  refine g_ifne (x := gd) (tgt := 6) C0 (by omega) dX7_puts_1 rfl (fun c1 => ?_) (fun c2 => ?_)
  · omega
  · refine lv_iconst (v := (-1)) hx hb dX7_puts_4 (by decide) ?_
    exact hE (v := (-1)) () rfl trivial X dX7_puts_5
set_option maxHeartbeats 4000000 in
set_option maxRecDepth 100000 in
theorem c_X7_growsOn (l : Launch) (D : va_G) (tk : Nat → ClassId) (h : Nat → Nat) (Mt : Nat → Nat → Nat) (hi : Int32) (la ce : Nat → Int32) (p a b L : Nat) (hp : p ≤ 252) (hr : Mt 0 (p + 42) < 9) : MX l yX7_growsOn cX7_growsOn 6 none ⟨0, 0, 0, 0⟩ D (TYS tk) [.ref (h 0), .int (nI p), .int (nI a), .int (nI b), .int (nI L)] (mW tk h Mt hi la ce) (fun (_ : Unit) => True) (fun _ => none) (fun _ => mW tk h (u2 (u2 (u2 (u2 (u2 Mt 0 (p + 6 + Mt 0 (p + 42)) a) 0 (p + 15 + Mt 0 (p + 42)) b) 0 (p + 24 + Mt 0 (p + 42)) L) 0 (p + 33 + Mt 0 (p + 42)) 0) 0 (p + 42) (Mt 0 (p + 42) + 1)) hi la ce) 0 0 := by
  refine MX.of_v (by decide) rfl ?_
  intro zp ze zs zm za zb zt zc zA zQ ls C0 hnm X hl hE
  have hx := C0.1
  have hb := C0.2.1
  have ht := C0.2.2.2.2.1
  have X : Hx D zA zs zs.heap [] (mW tk h Mt hi la ce) := X
  have hl : lv_has ls 6 [(0, .ref (h 0)), (1, .int (nI p)), (2, .int (nI a)), (3, .int (nI b)), (4, .int (nI L))] := hl
  obtain ⟨H, hH⟩ : ∃ H, H = zs.heap := ⟨_, rfl⟩
  rw [← hH] at X ⊢
  obtain ⟨locs, hlo⟩ : ∃ L : List Loc, L = [] := ⟨_, rfl⟩
  rw [← hlo] at X ⊢
  refine lv_aload_n hx hb dX7_growsOn_0 rfl (lv_at hl 0 rfl) ?_
  refine g_get (v := .ref (h 1)) C0 X kX7 0 0 tb797 rfl rfl rfl dX7_growsOn_1 ?_
  refine lv_iload_n hx hb dX7_growsOn_4 rfl (lv_at hl 1 rfl) ?_
  refine g_bipush (n := 42) C0 (by decide) dX7_growsOn_5 ?_
  refine g_iadd (n := p + 42) C0 (by first | rfl | omega) dX7_growsOn_7 ?_
  refine g_iald (v := nI (Mt 0 (p + 42))) (i := p + 42) C0 X 1 0 rfl rfl (by omega) rfl rfl dX7_growsOn_8 ?_
  refine lv_istore (lv' := [(5, .int (nI (Mt 0 (p + 42)))), (0, .ref (h 0)), (1, .int (nI p)), (2, .int (nI a)), (3, .int (nI b)), (4, .int (nI L))]) hx hb dX7_growsOn_9 hl (by decide) rfl (fun ls hl => ?_)
  refine lv_aload_n hx hb dX7_growsOn_11 rfl (lv_at hl 1 rfl) ?_
  refine g_get (v := .ref (h 1)) C0 X kX7 0 0 tb797 rfl rfl rfl dX7_growsOn_12 ?_
  refine lv_iload_n hx hb dX7_growsOn_15 rfl (lv_at hl 2 rfl) ?_
  refine g_bipush (n := 6) C0 (by decide) dX7_growsOn_16 ?_
  refine g_iadd (n := p + 6) C0 (by first | rfl | omega) dX7_growsOn_18 ?_
  refine lv_iload hx hb dX7_growsOn_19 (lv_at hl 0 rfl) ?_
  refine g_iadd (n := (p + 6) + (Mt 0 (p + 42))) C0 (by first | rfl | omega) dX7_growsOn_21 ?_
  refine lv_iload_n hx hb dX7_growsOn_22 rfl (lv_at hl 3 rfl) ?_
  refine g_iast (g := nf (u1 (Mt 0) ((p + 6) + (Mt 0 (p + 42))) a)) (i := (p + 6) + (Mt 0 (p + 42))) C0 X 1 0 rfl rfl (by omega) rfl (nf_u1 _ _ _) dX7_growsOn_23 (fun H locs X => ?_)
  have X : Hx D zA zs H locs (mW tk h (u2 Mt 0 ((p + 6) + (Mt 0 (p + 42))) a) hi la ce) := X
  refine lv_aload_n hx hb dX7_growsOn_24 rfl (lv_at hl 1 rfl) ?_
  refine g_get (v := .ref (h 1)) C0 X kX7 0 0 tb797 rfl rfl rfl dX7_growsOn_25 ?_
  refine lv_iload_n hx hb dX7_growsOn_28 rfl (lv_at hl 2 rfl) ?_
  refine g_bipush (n := 15) C0 (by decide) dX7_growsOn_29 ?_
  refine g_iadd (n := p + 15) C0 (by first | rfl | omega) dX7_growsOn_31 ?_
  refine lv_iload hx hb dX7_growsOn_32 (lv_at hl 0 rfl) ?_
  refine g_iadd (n := (p + 15) + (Mt 0 (p + 42))) C0 (by first | rfl | omega) dX7_growsOn_34 ?_
  refine lv_iload_n hx hb dX7_growsOn_35 rfl (lv_at hl 4 rfl) ?_
  refine g_iast (g := nf (u1 (u1 (Mt 0) ((p + 6) + (Mt 0 (p + 42))) a) ((p + 15) + (Mt 0 (p + 42))) b)) (i := (p + 15) + (Mt 0 (p + 42))) C0 X 1 0 rfl rfl (by omega) rfl (nf_u1 _ _ _) dX7_growsOn_36 (fun H locs X => ?_)
  have X : Hx D zA zs H locs (mW tk h (u2 (u2 Mt 0 ((p + 6) + (Mt 0 (p + 42))) a) 0 ((p + 15) + (Mt 0 (p + 42))) b) hi la ce) := X
  refine lv_aload_n hx hb dX7_growsOn_37 rfl (lv_at hl 1 rfl) ?_
  refine g_get (v := .ref (h 1)) C0 X kX7 0 0 tb797 rfl rfl rfl dX7_growsOn_38 ?_
  refine lv_iload_n hx hb dX7_growsOn_41 rfl (lv_at hl 2 rfl) ?_
  refine g_bipush (n := 24) C0 (by decide) dX7_growsOn_42 ?_
  refine g_iadd (n := p + 24) C0 (by first | rfl | omega) dX7_growsOn_44 ?_
  refine lv_iload hx hb dX7_growsOn_45 (lv_at hl 0 rfl) ?_
  refine g_iadd (n := (p + 24) + (Mt 0 (p + 42))) C0 (by first | rfl | omega) dX7_growsOn_47 ?_
  refine lv_iload hx hb dX7_growsOn_48 (lv_at hl 5 rfl) ?_
  refine g_iast (g := nf (u1 (u1 (u1 (Mt 0) ((p + 6) + (Mt 0 (p + 42))) a) ((p + 15) + (Mt 0 (p + 42))) b) ((p + 24) + (Mt 0 (p + 42))) L)) (i := (p + 24) + (Mt 0 (p + 42))) C0 X 1 0 rfl rfl (by omega) rfl (nf_u1 _ _ _) dX7_growsOn_50 (fun H locs X => ?_)
  have X : Hx D zA zs H locs (mW tk h (u2 (u2 (u2 Mt 0 ((p + 6) + (Mt 0 (p + 42))) a) 0 ((p + 15) + (Mt 0 (p + 42))) b) 0 ((p + 24) + (Mt 0 (p + 42))) L) hi la ce) := X
  refine lv_aload_n hx hb dX7_growsOn_51 rfl (lv_at hl 1 rfl) ?_
  refine g_get (v := .ref (h 1)) C0 X kX7 0 0 tb797 rfl rfl rfl dX7_growsOn_52 ?_
  refine lv_iload_n hx hb dX7_growsOn_55 rfl (lv_at hl 2 rfl) ?_
  refine g_bipush (n := 33) C0 (by decide) dX7_growsOn_56 ?_
  refine g_iadd (n := p + 33) C0 (by first | rfl | omega) dX7_growsOn_58 ?_
  refine lv_iload hx hb dX7_growsOn_59 (lv_at hl 0 rfl) ?_
  refine g_iadd (n := (p + 33) + (Mt 0 (p + 42))) C0 (by first | rfl | omega) dX7_growsOn_61 ?_
  refine g_iconst (n := 0) C0 rfl dX7_growsOn_62 ?_
  refine g_iast (g := nf (u1 (u1 (u1 (u1 (Mt 0) ((p + 6) + (Mt 0 (p + 42))) a) ((p + 15) + (Mt 0 (p + 42))) b) ((p + 24) + (Mt 0 (p + 42))) L) ((p + 33) + (Mt 0 (p + 42))) 0)) (i := (p + 33) + (Mt 0 (p + 42))) C0 X 1 0 rfl rfl (by omega) rfl (nf_u1 _ _ _) dX7_growsOn_63 (fun H locs X => ?_)
  have X : Hx D zA zs H locs (mW tk h (u2 (u2 (u2 (u2 Mt 0 ((p + 6) + (Mt 0 (p + 42))) a) 0 ((p + 15) + (Mt 0 (p + 42))) b) 0 ((p + 24) + (Mt 0 (p + 42))) L) 0 ((p + 33) + (Mt 0 (p + 42))) 0) hi la ce) := X
  refine lv_aload_n hx hb dX7_growsOn_64 rfl (lv_at hl 1 rfl) ?_
  refine g_get (v := .ref (h 1)) C0 X kX7 0 0 tb797 rfl rfl rfl dX7_growsOn_65 ?_
  refine lv_iload_n hx hb dX7_growsOn_68 rfl (lv_at hl 2 rfl) ?_
  refine g_bipush (n := 42) C0 (by decide) dX7_growsOn_69 ?_
  refine g_iadd (n := p + 42) C0 (by first | rfl | omega) dX7_growsOn_71 ?_
  refine lv_dup2_11 hx hb dX7_growsOn_72 rfl rfl ?_
  refine g_iald (v := nI ((u1 (u1 (u1 (u1 (Mt 0) ((p + 6) + (Mt 0 (p + 42))) a) ((p + 15) + (Mt 0 (p + 42))) b) ((p + 24) + (Mt 0 (p + 42))) L) ((p + 33) + (Mt 0 (p + 42))) 0) (p + 42))) (i := p + 42) C0 X 1 0 rfl rfl (by omega) rfl (by first | rfl | exact congrArg nI (u1_s _ _ _)) dX7_growsOn_73 ?_
  refine g_top (y := nI (Mt 0 (p + 42))) (by refine congrArg nI ?_; unfold u1; repeat rw [if_neg (by omega)]) ?_
  refine g_iconst (n := 1) C0 rfl dX7_growsOn_74 ?_
  refine g_iadd (n := (Mt 0 (p + 42)) + 1) C0 (by first | rfl | omega) dX7_growsOn_75 ?_
  refine g_iast (g := nf (u1 (u1 (u1 (u1 (u1 (Mt 0) ((p + 6) + (Mt 0 (p + 42))) a) ((p + 15) + (Mt 0 (p + 42))) b) ((p + 24) + (Mt 0 (p + 42))) L) ((p + 33) + (Mt 0 (p + 42))) 0) (p + 42) ((Mt 0 (p + 42)) + 1))) (i := p + 42) C0 X 1 0 rfl rfl (by omega) rfl (nf_u1 _ _ _) dX7_growsOn_76 (fun H locs X => ?_)
  have X : Hx D zA zs H locs (mW tk h (u2 (u2 (u2 (u2 (u2 Mt 0 ((p + 6) + (Mt 0 (p + 42))) a) 0 ((p + 15) + (Mt 0 (p + 42))) b) 0 ((p + 24) + (Mt 0 (p + 42))) L) 0 ((p + 33) + (Mt 0 (p + 42))) 0) 0 (p + 42) ((Mt 0 (p + 42)) + 1)) hi la ce) := X
  exact hE (v := ()) () rfl trivial X dX7_growsOn_77
set_option maxHeartbeats 4000000 in
set_option maxRecDepth 100000 in
theorem c_X7_copies (l : Launch) (D : va_G) (tk : Nat → ClassId) (h : Nat → Nat) (Mt : Nat → Nat → Nat) (hi : Int32) (la ce : Nat → Int32) (p q : Nat) (hp : p ≤ 252) (hq : q ≤ 252) (hpq : p + 63 ≤ q ∨ q + 63 ≤ p) : MX l yX7_copies cX7_copies 4 none ⟨0, 0, 0, 0⟩ D (TYS tk) [.ref (h 0), .int (nI p), .int (nI q)] (mW tk h Mt hi la ce) (fun (_ : Unit) => True) (fun _ => none) (fun _ => mW tk h (u3 Mt 0 (pcopy (Mt 0) p q 63)) hi la ce) 0 0 := by
  refine MX.of_v (by decide) rfl ?_
  intro zp ze zs zm za zb zt zc zA zQ ls C0 hnm X hl hE
  have hx := C0.1
  have hb := C0.2.1
  have ht := C0.2.2.2.2.1
  have X : Hx D zA zs zs.heap [] (mW tk h Mt hi la ce) := X
  have hl : lv_has ls 4 [(0, .ref (h 0)), (1, .int (nI p)), (2, .int (nI q))] := hl
  obtain ⟨H, hH⟩ : ∃ H, H = zs.heap := ⟨_, rfl⟩
  rw [← hH] at X ⊢
  obtain ⟨locs, hlo⟩ : ∃ L : List Loc, L = [] := ⟨_, rfl⟩
  rw [← hlo] at X ⊢
  refine g_iconst (n := 0) C0 rfl dX7_copies_0 ?_
  refine lv_istore_n (lv' := [(3, .int (nI 0)), (0, .ref (h 0)), (1, .int (nI p)), (2, .int (nI q))]) hx hb dX7_copies_1 rfl hl (by decide) rfl (fun ls hl => ?_)
  have J2 : ∀ (fz : Nat) (i : Nat) (r1 : Nat → Nat), 63 - i < fz → ∀ (hi1 : i ≤ 63) (hr : r1 = pcopy (Mt 0) p q i) (H : Heap) (locs : List Loc) (ls : Array Slot), Hx D zA zs H locs (mW tk h (u3 Mt 0 r1) hi la ce) → lv_has ls 4 [(3, .int (nI i)), (0, .ref (h 0)), (1, .int (nI p)), (2, .int (nI q))] → W zp l ze ⟨0, 0, 0, 0⟩ zs zm za zb zt zc H locs 0 0 zQ (F0 zm 2 ls []) := by
    intro fz
    induction fz with
    | zero => intro i r1 hz; exact absurd hz (Nat.not_lt_zero _)
    | succ fz ih2 =>
      intro i r1 hz2 hi1 hr H locs ls X hl
      refine lv_iload_n hx hb dX7_copies_2 rfl (lv_at hl 0 rfl) ?_
      refine g_bipush (n := 63) C0 (by decide) dX7_copies_3 ?_
      refine g_icmp_ge (x := i) (y := 63) (tgt := 30) C0 (by omega) (by omega) dX7_copies_5 rfl (fun c1 => ?_) (fun c2 => ?_)
      · exact hE (v := ()) () rfl trivial (X.to (by rw [hr, show i = 63 by omega])) dX7_copies_30
      · refine lv_aload_n hx hb dX7_copies_8 rfl (lv_at hl 1 rfl) ?_
        refine g_get (v := .ref (h 1)) C0 X kX7 0 0 tb797 rfl rfl rfl dX7_copies_9 ?_
        refine lv_iload_n hx hb dX7_copies_12 rfl (lv_at hl 3 rfl) ?_
        refine lv_iload_n hx hb dX7_copies_13 rfl (lv_at hl 0 rfl) ?_
        refine g_iadd (n := q + i) C0 (by first | rfl | omega) dX7_copies_14 ?_
        refine lv_aload_n hx hb dX7_copies_15 rfl (lv_at hl 1 rfl) ?_
        refine g_get (v := .ref (h 1)) C0 X kX7 0 0 tb797 rfl rfl rfl dX7_copies_16 ?_
        refine lv_iload_n hx hb dX7_copies_19 rfl (lv_at hl 2 rfl) ?_
        refine lv_iload_n hx hb dX7_copies_20 rfl (lv_at hl 0 rfl) ?_
        refine g_iadd (n := p + i) C0 (by first | rfl | omega) dX7_copies_21 ?_
        refine g_iald (v := nI (r1 (p + i))) (i := p + i) C0 X 1 0 rfl rfl (by omega) rfl rfl dX7_copies_22 ?_
        refine g_iast (g := nf (u1 r1 (q + i) (r1 (p + i)))) (i := q + i) C0 X 1 0 rfl rfl (by omega) rfl (nf_u1 _ _ _) dX7_copies_23 (fun H locs X => ?_)
        have X : Hx D zA zs H locs (mW tk h (u2 (u3 Mt 0 r1) 0 (q + i) (r1 (p + i))) hi la ce) := X
        refine g_iinc (j := 1) (z := i + 1) (lv' := [(3, .int (nI (i + 1))), (0, .ref (h 0)), (1, .int (nI p)), (2, .int (nI q))]) C0 rfl (by first | rfl | omega) dX7_copies_24 hl (k := 0) rfl (by decide) rfl (fun ls hl => ?_)
        refine lv_goto (tgt := 2) hx hb dX7_copies_27 (by decide) ?_
        exact ih2 (i + 1) (u1 r1 (q + i) (r1 (p + i))) (by omega) (by omega) (by rw [hr]; exact pcopy_s (by omega)) H locs ls X (lv_sub hl [0, 1, 2, 3] rfl)
  exact J2 ((63 - 0) + 1) 0 (Mt 0) (Nat.lt_succ_self _) (by omega) (by exact (pcopy_0 _ _ _).symm) H locs ls X (lv_sub hl [0, 1, 2, 3] rfl)
