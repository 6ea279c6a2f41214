set_option maxHeartbeats 4000000 in
set_option maxRecDepth 100000 in
theorem c_byB_l (l : Launch) (D : va_G) (tk : Nat → ClassId) (h : Nat → Nat) (Mt : Nat → Nat → Nat) (hi : Int32) (la ce : Nat → Int32) (q t z b w : Nat) (hW : VW (pgv Mt 0)) (hq : q ≤ 10) (ht0 : t < Mt 20 0) (hz : z < 6) (hb : b ≤ 60) (hw1 : w ≤ 1) : MX l yX7_byBeavers cX7_byBeavers 14 (some .long) ⟨3, 0, 0, 72⟩ D (TYS tk) [.ref (h 0), .int (nI q), .int (nI t), .int (nI z), .int (nI b), .int (nI w)] (mW tk h Mt hi la ce) (fun (u : (Nat → Nat) × (Nat → Nat)) => RK (Mt 0) u.1) (fun u => some (.long (meanS (pgv Mt 0) q t b (2 ^ z) w))) (fun u => mW tk h (u3 (u3 Mt 0 u.1) 6 u.2) hi la ce) 0 0 := by
  refine MX.of_l (by decide) rfl ?_
  intro zp ze zs zm za zb zt zc zA zQ ls C0 hnm X hl hE
  have hx := C0.1
  have hb := C0.2.1
  have ht := C0.2.2.2.2.1
  have X : Hx D zA zs zs.heap [] (mW tk h Mt hi la ce) := X
  have hl : lv_has ls 14 [(0, .ref (h 0)), (1, .int (nI q)), (2, .int (nI t)), (3, .int (nI z)), (4, .int (nI b)), (5, .int (nI w))] := hl
  obtain ⟨hv1, hv2, hv3, hv4, hv5, hv6, hv7⟩ := id hW
  have hb1 : Mt 20 0 ≤ 6 := hv1
  have hb2 : Mt 0 42 ≤ 9 := hv2
  have hb3 : Mt 0 43 ≤ 20 := hv3
  have hb4 : Mt 0 62 ≤ 6 := hv4
  have hkd : ∀ t, t < Mt 20 0 → Mt 0 t ≤ 3 := fun t ht => by have q := hv5 t ht; rw [pv0] at q; exact q
  have hrt : ∀ i, i < Mt 0 42 → Mt 0 (6 + i) < Mt 20 0 ∧ Mt 0 (15 + i) < Mt 20 0 ∧ Mt 0 (6 + i) ≠ Mt 0 (15 + i) ∧ 1 ≤ Mt 0 (24 + i) ∧ Mt 0 (24 + i) ≤ 9 ∧ Mt 0 (33 + i) ≤ 1 := fun i hi => hv6 i hi
  have htk : ∀ k, k < Mt 0 62 → Mt 0 (44 + k) ≤ 23 ∧ Mt 0 (50 + k) < Mt 20 0 ∧ 1 ≤ Mt 0 (56 + k) ∧ Mt 0 (56 + k) ≤ 60 := fun k hk => hv7 k hk
  have hpw := Nat.pow_le_pow_right (n := 2) (by decide) hb2
  obtain ⟨H, hH⟩ : ∃ H, H = zs.heap := ⟨_, rfl⟩
  rw [← hH] at X ⊢
  obtain ⟨locs, hlo⟩ : ∃ L : List Loc, L = [] := ⟨_, rfl⟩
  rw [← hlo] at X ⊢
  refine g_lconst (n := 0) C0 rfl dX7_byBeavers_0 ?_
  refine lv_lstore (lv' := [(6, .long (lN 0)), (0, .ref (h 0)), (1, .int (nI q)), (2, .int (nI t)), (3, .int (nI z)), (4, .int (nI b)), (5, .int (nI w))]) hx hb dX7_byBeavers_1 hl (by decide) rfl (fun ls hl => ?_)
  refine g_lconst (n := 1) C0 rfl dX7_byBeavers_3 ?_
  refine lv_lstore (lv' := [(8, .long (lN 1)), (6, .long (lN 0)), (0, .ref (h 0)), (1, .int (nI q)), (2, .int (nI t)), (3, .int (nI z)), (4, .int (nI b)), (5, .int (nI w))]) hx hb dX7_byBeavers_4 hl (by decide) rfl (fun ls hl => ?_)
  refine g_iconst (n := 0) C0 rfl dX7_byBeavers_6 ?_
  refine lv_istore (lv' := [(10, .int (nI 0)), (8, .long (lN 1)), (6, .long (lN 0)), (0, .ref (h 0)), (1, .int (nI q)), (2, .int (nI t)), (3, .int (nI z)), (4, .int (nI b)), (5, .int (nI w))]) hx hb dX7_byBeavers_7 hl (by decide) rfl (fun ls hl => ?_)
  have J9 : ∀ (fz : Nat) (i dn : Nat), Mt 0 42 - i < fz → ∀ (hi1 : i ≤ Mt 0 42) (hdn : dn = nprod (wd (pgv Mt 0)) i) (H : Heap) (locs : List Loc) (ls : Array Slot), Hx D zA zs H locs (mW tk h Mt hi la ce) → lv_has ls 14 [(10, .int (nI i)), (8, .long (lN dn)), (6, .long (lN 0)), (0, .ref (h 0)), (1, .int (nI q)), (2, .int (nI t)), (3, .int (nI z)), (4, .int (nI b)), (5, .int (nI w))] → W zp l ze ⟨3, 0, 0, 72⟩ zs zm za zb zt zc H locs 0 0 zQ (F0 zm 9 ls []) := by
    intro fz
    induction fz with
    | zero => intro i dn hz; exact absurd hz (Nat.not_lt_zero _)
    | succ fz ih9 =>
      intro i dn hz9 hi1 hdn H locs ls X hl
      refine lv_iload hx hb dX7_byBeavers_9 (lv_at hl 0 rfl) ?_
      refine lv_aload_n hx hb dX7_byBeavers_11 rfl (lv_at hl 3 rfl) ?_
      refine g_get (v := .ref (h 1)) C0 X kX7 0 0 tb797 rfl rfl rfl dX7_byBeavers_12 ?_
      refine g_bipush (n := 42) C0 (by decide) dX7_byBeavers_15 ?_
      refine g_iald (v := nI (Mt 0 42)) (i := 42) C0 X 1 0 rfl rfl (by omega) rfl rfl dX7_byBeavers_17 ?_
      refine g_icmp_ge (x := i) (y := Mt 0 42) (tgt := 52) C0 (by omega) (by omega) dX7_byBeavers_18 rfl (fun c1 => ?_) (fun c2 => ?_)
      · refine g_iconst (n := 0) C0 rfl dX7_byBeavers_52 ?_
        refine lv_istore (lv' := [(10, .int (nI 0)), (8, .long (lN dn)), (6, .long (lN 0)), (0, .ref (h 0)), (1, .int (nI q)), (2, .int (nI t)), (3, .int (nI z)), (4, .int (nI b)), (5, .int (nI w))]) hx hb dX7_byBeavers_53 hl (by decide) rfl (fun ls hl => ?_)
        have J55 : ∀ (fz : Nat) (s2 up : Nat) (r1 d1 : Nat → Nat), 2 ^ Mt 0 42 - s2 < fz → ∀ (hs1 : s2 ≤ 2 ^ Mt 0 42) (hr : RK (Mt 0) r1) (hup : up = nsum (luckF (pgv Mt 0) q t b (2 ^ z)) s2) (H : Heap) (locs : List Loc) (ls : Array Slot), Hx D zA zs H locs (mW tk h (u3 (u3 Mt 0 r1) 6 d1) hi la ce) → lv_has ls 14 [(10, .int (nI s2)), (8, .long (lN dn)), (6, .long (lN up)), (0, .ref (h 0)), (1, .int (nI q)), (2, .int (nI t)), (3, .int (nI z)), (4, .int (nI b)), (5, .int (nI w))] → W zp l ze ⟨3, 0, 0, 72⟩ zs zm za zb zt zc H locs 0 0 zQ (F0 zm 55 ls []) := by
          intro fz
          induction fz with
          | zero => intro s2 up r1 d1 hz; exact absurd hz (Nat.not_lt_zero _)
          | succ fz ih55 =>
            intro s2 up r1 d1 hz55 hs1 hr hup H locs ls X hl
            refine lv_iload hx hb dX7_byBeavers_55 (lv_at hl 0 rfl) ?_
            refine g_iconst (n := 1) C0 rfl dX7_byBeavers_57 ?_
            refine lv_aload_n hx hb dX7_byBeavers_58 rfl (lv_at hl 3 rfl) ?_
            refine g_get (v := .ref (h 1)) C0 X kX7 0 0 tb797 rfl rfl rfl dX7_byBeavers_59 ?_
            refine g_bipush (n := 42) C0 (by decide) dX7_byBeavers_62 ?_
            refine g_iald (v := nI (r1 42)) (i := 42) C0 X 1 0 rfl rfl (by omega) rfl rfl dX7_byBeavers_64 ?_
            refine g_top (y := nI (Mt 0 42)) (by rw [hr 42 (by decide)]) ?_
            refine g_ishl (n := 2 ^ (Mt 0 42)) C0 (by exact sh_ok (by omega)) (by first | exact Nat.one_mul _ | rfl) dX7_byBeavers_65 ?_
            refine g_icmp_ge (x := s2) (y := 2 ^ (Mt 0 42)) (tgt := 193) C0 (by first | omega | exact sh_31 (by omega)) (by first | omega | exact sh_31 (by omega)) dX7_byBeavers_66 rfl (fun c3 => ?_) (fun c4 => ?_)
            · have hsu : up = upS (pgv Mt 0) q t b (2 ^ z) := by rw [hup, show s2 = 2 ^ Mt 0 42 by omega]; rfl
              have hsd : dn = downS (pgv Mt 0) := by rw [hdn, show i = Mt 0 42 by omega]; rfl
              have hbu := upS_lt (v := pgv Mt 0) (q := q) (t := t) (b := b) (am := (2 ^ z)) hq hv2
              have hbd := downS_bd (v := pgv Mt 0) hv2
              refine lv_lload hx hb dX7_byBeavers_193 (lv_at hl 2 rfl) ?_
              refine lv_lload hx hb dX7_byBeavers_195 (lv_at hl 1 rfl) ?_
              refine lv_iload hx hb dX7_byBeavers_197 (lv_at hl 8 rfl) ?_
              refine g_callS (As := [.long (lN up), .long (lN dn), .int (nI w)]) (rest := []) (wr := (mW tk h (u3 (u3 Mt 0 r1) 6 d1) hi la ce)) (C0.sz hl) X (c_X7_lowest l D tk up dn w (by first | assumption | omega) (by first | assumption | omega) (by first | assumption | omega) (by first | assumption | omega)) ⟨tb1129, tb1131, tb8, ⟨by decide, by decide, rfl⟩, rfl, rfl, Nat.le_of_ble_eq_true rfl, Nat.le_of_ble_eq_true rfl⟩ tb1130 rfl [] [0, 1, 2, 3, 4, 5, 6, 7, 8, 9, 10, 11, 12, 13] rfl rfl rfl rfl rfl (Nat.le_of_ble_eq_true rfl) ⟨Nat.le_of_ble_eq_true rfl, Nat.le_of_ble_eq_true rfl⟩ dX7_byBeavers_199 (fun _ H locs _ X => ?_)
              have X : Hx D zA zs H locs (mW tk h (u3 (u3 Mt 0 r1) 6 d1) hi la ce) := X
              exact hE (v := lN (if w = 0 then up / Nat.gcd up dn else dn / Nat.gcd up dn)) (r1, d1) (by rw [meanS, ← hsu, ← hsd]; split <;> rfl) (by exact hr) X dX7_byBeavers_202
            · refine lv_aload_n hx hb dX7_byBeavers_69 rfl (lv_at hl 3 rfl) ?_
              refine lv_iload hx hb dX7_byBeavers_70 (lv_at hl 0 rfl) ?_
              refine g_callV (As := [.int (nI s2)]) (rest := []) (wr := []) (C0.sz hl) X (c_X7_cuts l D tk h (u3 (u3 Mt 0 r1) 6 d1) hi la ce s2 (by show r1 42 ≤ 9; rw [hr 42 (by decide)]; exact hb2) (by omega) (by exact hcl1 hW hr)) ⟨tb1092, tb1095, tb8, ⟨by decide, by decide, rfl⟩, rfl, rfl, Nat.le_of_ble_eq_true rfl, Nat.le_of_ble_eq_true rfl⟩ tb1094 tbs45 0 7 rfl rfl rfl rfl [0, 1, 2, 3, 4, 5, 6, 7, 8, 9, 10, 11, 12, 13] [] rfl rfl rfl rfl rfl (Nat.le_of_ble_eq_true rfl) ⟨Nat.le_of_ble_eq_true rfl, Nat.le_of_ble_eq_true rfl⟩ dX7_byBeavers_72 (fun _ H locs _ X => ?_)
              have X : Hx D zA zs H locs (mW tk h (u3 (u3 Mt 6 d1) 0 (cutRow ((u3 Mt 0 r1) 0) s2)) hi la ce) := X
              refine g_top (y := nI (rb (cutsB (pgv Mt 0) s2))) (by exact congrArg (fun q => nI (rb q)) (cutsRK hW hr _)) ?_
              refine g_ifeqB (x := (cutsB (pgv Mt 0) s2)) (tgt := 187) C0 dX7_byBeavers_75 rfl (fun c5 => ?_) (fun c6 => ?_)
              · refine g_iinc (j := 1) (z := s2 + 1) (lv' := [(10, .int (nI (s2 + 1))), (8, .long (lN dn)), (6, .long (lN up)), (0, .ref (h 0)), (1, .int (nI q)), (2, .int (nI t)), (3, .int (nI z)), (4, .int (nI b)), (5, .int (nI w))]) C0 rfl (by first | rfl | omega) dX7_byBeavers_187 hl (k := 0) rfl (by decide) rfl (fun ls hl => ?_)
                refine lv_goto (tgt := 55) hx hb dX7_byBeavers_190 (by decide) ?_
                exact ih55 (s2 + 1) up (cutRow ((u3 Mt 0 r1) 0) s2) d1 (by omega) (by omega) (by exact hr.ct) (by rw [hup]; show _ = nsum (luckF (pgv Mt 0) q t b (2 ^ z)) s2 + (luckF (pgv Mt 0) q t b (2 ^ z)) s2; rw [luckF_f c5, Nat.add_zero]) H locs ls X (lv_sub hl [0, 1, 2, 3, 4, 5, 6, 7, 8] rfl)
              · have hcut : cutsB (pgv Mt 0) s2 = true := c6
                refine g_lconst (n := 1) C0 rfl dX7_byBeavers_78 ?_
                refine lv_lstore (lv' := [(11, .long (lN 1)), (10, .int (nI s2)), (8, .long (lN dn)), (6, .long (lN up)), (0, .ref (h 0)), (1, .int (nI q)), (2, .int (nI t)), (3, .int (nI z)), (4, .int (nI b)), (5, .int (nI w))]) hx hb dX7_byBeavers_79 hl (by decide) rfl (fun ls hl => ?_)
                refine g_iconst (n := 0) C0 rfl dX7_byBeavers_81 ?_
                refine lv_istore (lv' := [(13, .int (nI 0)), (11, .long (lN 1)), (10, .int (nI s2)), (8, .long (lN dn)), (6, .long (lN up)), (0, .ref (h 0)), (1, .int (nI q)), (2, .int (nI t)), (3, .int (nI z)), (4, .int (nI b)), (5, .int (nI w))]) hx hb dX7_byBeavers_82 hl (by decide) rfl (fun ls hl => ?_)
                have J84 : ∀ (fz : Nat) (j od : Nat), Mt 0 42 - j < fz → ∀ (hj1 : j ≤ Mt 0 42) (hod0 : od = nprod (wq (pgv Mt 0) q s2) j) (H : Heap) (locs : List Loc) (ls : Array Slot), Hx D zA zs H locs (mW tk h (u3 (u3 Mt 6 d1) 0 (cutRow ((u3 Mt 0 r1) 0) s2)) hi la ce) → lv_has ls 14 [(13, .int (nI j)), (11, .long (lN od)), (10, .int (nI s2)), (8, .long (lN dn)), (6, .long (lN up)), (0, .ref (h 0)), (1, .int (nI q)), (2, .int (nI t)), (3, .int (nI z)), (4, .int (nI b)), (5, .int (nI w))] → W zp l ze ⟨3, 0, 0, 72⟩ zs zm za zb zt zc H locs 0 0 zQ (F0 zm 84 ls []) := by
                  intro fz
                  induction fz with
                  | zero => intro j od hz; exact absurd hz (Nat.not_lt_zero _)
                  | succ fz ih84 =>
                    intro j od hz84 hj1 hod0 H locs ls X hl
                    refine lv_iload hx hb dX7_byBeavers_84 (lv_at hl 0 rfl) ?_
                    refine lv_aload_n hx hb dX7_byBeavers_86 rfl (lv_at hl 5 rfl) ?_
                    refine g_get (v := .ref (h 1)) C0 X kX7 0 0 tb797 rfl rfl rfl dX7_byBeavers_87 ?_
                    refine g_bipush (n := 42) C0 (by decide) dX7_byBeavers_90 ?_
                    refine g_iald (v := nI ((cutRow ((u3 Mt 0 r1) 0) s2) 42)) (i := 42) C0 X 1 0 rfl rfl (by omega) rfl rfl dX7_byBeavers_92 ?_
                    refine g_top (y := nI (Mt 0 42)) (by exact congrArg nI (hr.ct 42 (by decide))) ?_
                    refine g_icmp_ge (x := j) (y := Mt 0 42) (tgt := 146) C0 (by omega) (by omega) dX7_byBeavers_93 rfl (fun c7 => ?_) (fun c8 => ?_)
                    · refine lv_aload_n hx hb dX7_byBeavers_146 rfl (lv_at hl 5 rfl) ?_
                      refine g_sipush (n := 252) C0 (by decide) dX7_byBeavers_147 ?_
                      refine lv_iload_n hx hb dX7_byBeavers_150 rfl (lv_at hl 7 rfl) ?_
                      refine lv_iload hx hb dX7_byBeavers_151 (lv_at hl 9 rfl) ?_
                      refine g_callV (As := [.int (nI 252), .int (nI t), .int (nI b)]) (rest := []) (wr := []) (C0.sz hl) X (c_X7_hearsOn l D tk h (u3 (u3 Mt 6 d1) 0 (cutRow ((u3 Mt 0 r1) 0) s2)) hi la ce 252 t b (by omega) (by exact cutVW hW hr) (by omega) (by omega)) ⟨tb957, tb960, tb8, ⟨by decide, by decide, rfl⟩, rfl, rfl, Nat.le_of_ble_eq_true rfl, Nat.le_of_ble_eq_true rfl⟩ tb959 tbs33 0 7 rfl rfl rfl rfl [0, 1, 2, 3, 4, 5, 6, 7, 8, 9, 10, 11, 12, 13] [] rfl rfl rfl rfl rfl (Nat.le_of_ble_eq_true rfl) ⟨Nat.le_of_ble_eq_true rfl, Nat.le_of_ble_eq_true rfl⟩ dX7_byBeavers_153 (fun _ H locs _ X => ?_)
                      have X : Hx D zA zs H locs (mW tk h (u3 (u3 Mt 0 (cutRow ((u3 Mt 0 r1) 0) s2)) 6 (dist (pgv (u3 (u3 Mt 6 d1) 0 (cutRow ((u3 Mt 0 r1) 0) s2)) 252) t)) hi la ce) := X
                      refine g_top (y := nI (hearS (cutv (pgv Mt 0) s2) t b)) (by exact congrArg nI (hearS_eq (cutVE hW hr) _ _)) ?_
                      have hLh := hearS_lt (cutv (pgv Mt 0) s2) t b hv1
                      have hod : od = nprod (wq (pgv Mt 0) q s2) (pgv Mt 0 8 1) := by rw [hod0, show j = Mt 0 42 by omega]; rfl
                      refine lv_istore (lv' := [(13, .int (nI (hearS (cutv (pgv Mt 0) s2) t b))), (11, .long (lN od)), (10, .int (nI s2)), (8, .long (lN dn)), (6, .long (lN up)), (0, .ref (h 0)), (1, .int (nI q)), (2, .int (nI t)), (3, .int (nI z)), (4, .int (nI b)), (5, .int (nI w))]) hx hb dX7_byBeavers_156 hl (by decide) rfl (fun ls hl => ?_)
                      refine lv_lload hx hb dX7_byBeavers_158 (lv_at hl 4 rfl) ?_
                      refine lv_lload hx hb dX7_byBeavers_160 (lv_at hl 1 rfl) ?_
                      refine lv_iload_n hx hb dX7_byBeavers_162 rfl (lv_at hl 8 rfl) ?_
                      refine lv_bipush (v := (-4)) hx hb dX7_byBeavers_163 (by decide) ?_
                      refine lv_icmp_ne (tgt := 176) hx hb dX7_byBeavers_165 rfl (fun _ => ?_) (fun q => absurd q (nI_nneg (by omega) (by decide)))
                      refine lv_iload hx hb dX7_byBeavers_176 (lv_at hl 0 rfl) ?_
                      refine lv_iload_n hx hb dX7_byBeavers_178 rfl (lv_at hl 8 rfl) ?_
                      refine g_ishr (n := (hearS (cutv (pgv Mt 0) s2) t b) / 2 ^ z) C0 (by first | exact Nat.lt_trans hLh (by decide) | omega) (by first | decide | omega) rfl dX7_byBeavers_179 ?_
                      refine g_iconst (n := 1) C0 rfl dX7_byBeavers_180 ?_
                      refine g_iand (n := ((hearS (cutv (pgv Mt 0) s2) t b) / 2 ^ z) &&& 1) C0 rfl dX7_byBeavers_181 ?_
                      refine g_top (y := nI (rb ((hearS (cutv (pgv Mt 0) s2) t b).testBit z))) (by rw [tbv]) ?_
                      refine g_i2l C0 (by first | exact rb_lt _ | omega) dX7_byBeavers_182 ?_
                      refine g_lmul (n := od * (rb ((hearS (cutv (pgv Mt 0) s2) t b).testBit z))) C0 rfl dX7_byBeavers_183 ?_
                      refine g_ladd (n := up + (od * (rb ((hearS (cutv (pgv Mt 0) s2) t b).testBit z)))) C0 rfl dX7_byBeavers_184 ?_
                      refine lv_lstore (lv' := [(6, .long (lN (up + (od * (rb ((hearS (cutv (pgv Mt 0) s2) t b).testBit z)))))), (13, .int (nI (hearS (cutv (pgv Mt 0) s2) t b))), (11, .long (lN od)), (10, .int (nI s2)), (8, .long (lN dn)), (0, .ref (h 0)), (1, .int (nI q)), (2, .int (nI t)), (3, .int (nI z)), (4, .int (nI b)), (5, .int (nI w))]) hx hb dX7_byBeavers_185 hl (by decide) rfl (fun ls hl => ?_)
                      refine g_iinc (j := 1) (z := s2 + 1) (lv' := [(10, .int (nI (s2 + 1))), (6, .long (lN (up + (od * (rb ((hearS (cutv (pgv Mt 0) s2) t b).testBit z)))))), (13, .int (nI (hearS (cutv (pgv Mt 0) s2) t b))), (11, .long (lN od)), (8, .long (lN dn)), (0, .ref (h 0)), (1, .int (nI q)), (2, .int (nI t)), (3, .int (nI z)), (4, .int (nI b)), (5, .int (nI w))]) C0 rfl (by first | rfl | omega) dX7_byBeavers_187 hl (k := 3) rfl (by decide) rfl (fun ls hl => ?_)
                      refine lv_goto (tgt := 55) hx hb dX7_byBeavers_190 (by decide) ?_
                      exact ih55 (s2 + 1) (up + (od * (rb ((hearS (cutv (pgv Mt 0) s2) t b).testBit z)))) (cutRow ((u3 Mt 0 r1) 0) s2) (dist (pgv (u3 (u3 Mt 6 d1) 0 (cutRow ((u3 Mt 0 r1) 0) s2)) 252) t) (by omega) (by omega) (by exact hr.ct) (by rw [hup]; show _ = nsum (luckF (pgv Mt 0) q t b (2 ^ z)) s2 + (luckF (pgv Mt 0) q t b (2 ^ z)) s2; rw [luckF_t hcut hod (pc_and_pow (by omega))]) H locs ls X (lv_sub hl [0, 4, 1, 5, 6, 7, 8, 9, 10] rfl)
                    · have hr0 := hrt j (by omega)
                      refine lv_lload hx hb dX7_byBeavers_96 (lv_at hl 1 rfl) ?_
                      refine lv_aload_n hx hb dX7_byBeavers_98 rfl (lv_at hl 5 rfl) ?_
                      refine g_get (v := .ref (h 1)) C0 X kX7 0 0 tb797 rfl rfl rfl dX7_byBeavers_99 ?_
                      refine g_bipush (n := 33) C0 (by decide) dX7_byBeavers_102 ?_
                      refine lv_iload hx hb dX7_byBeavers_104 (lv_at hl 0 rfl) ?_
                      refine g_iadd (n := 33 + j) C0 (by first | rfl | omega) dX7_byBeavers_106 ?_
                      refine g_iald (v := nI ((cutRow ((u3 Mt 0 r1) 0) s2) (33 + j))) (i := 33 + j) C0 X 1 0 rfl rfl (by omega) rfl rfl dX7_byBeavers_107 ?_
                      refine g_top (y := nI (Mt 0 (33 + j))) (by exact congrArg nI (hr.ct (33 + j) (by omega))) ?_
                      refine g_iconst (n := 1) C0 rfl dX7_byBeavers_108 ?_
                      refine g_icmp_ne (x := Mt 0 (33 + j)) (y := 1) (tgt := 116) C0 (by omega) (by omega) dX7_byBeavers_109 rfl (fun c11 => ?_) (fun c12 => ?_)
                      · refine lv_iload hx hb dX7_byBeavers_116 (lv_at hl 2 rfl) ?_
                        refine lv_iload hx hb dX7_byBeavers_118 (lv_at hl 0 rfl) ?_
                        refine g_ishr (n := s2 / 2 ^ j) C0 (by omega) (by first | decide | omega) rfl dX7_byBeavers_120 ?_
                        refine g_iconst (n := 1) C0 rfl dX7_byBeavers_121 ?_
                        refine g_iand (n := (s2 / 2 ^ j) &&& 1) C0 rfl dX7_byBeavers_122 ?_
                        refine g_top (y := nI (rb (s2.testBit j))) (by rw [tbv]) ?_
                        refine g_iconst (n := 1) C0 rfl dX7_byBeavers_123 ?_
                        refine g_icmp_ne (x := rb (s2.testBit j)) (y := 1) (tgt := 132) C0 (by first | exact rb_lt _ | decide) (by first | exact rb_lt _ | decide) dX7_byBeavers_124 rfl (fun c13 => ?_) (fun c14 => ?_)
                        · refine g_bipush (n := 10) C0 (by decide) dX7_byBeavers_132 ?_
                          refine lv_iload_n hx hb dX7_byBeavers_134 rfl (lv_at hl 6 rfl) ?_
                          refine g_isub (n := 10 - q) C0 (by omega) rfl dX7_byBeavers_135 ?_
                          refine g_i2l C0 (by omega) dX7_byBeavers_136 ?_
                          refine g_lmul (n := od * (10 - q)) C0 rfl dX7_byBeavers_137 ?_
                          refine lv_lstore (lv' := [(11, .long (lN (od * (10 - q)))), (13, .int (nI j)), (10, .int (nI s2)), (8, .long (lN dn)), (6, .long (lN up)), (0, .ref (h 0)), (1, .int (nI q)), (2, .int (nI t)), (3, .int (nI z)), (4, .int (nI b)), (5, .int (nI w))]) hx hb dX7_byBeavers_138 hl (by decide) rfl (fun ls hl => ?_)
                          refine g_iinc (j := 1) (z := j + 1) (lv' := [(13, .int (nI (j + 1))), (11, .long (lN (od * (10 - q)))), (10, .int (nI s2)), (8, .long (lN dn)), (6, .long (lN up)), (0, .ref (h 0)), (1, .int (nI q)), (2, .int (nI t)), (3, .int (nI z)), (4, .int (nI b)), (5, .int (nI w))]) C0 rfl (by first | rfl | omega) dX7_byBeavers_140 hl (k := 1) rfl (by decide) rfl (fun ls hl => ?_)
                          refine lv_goto (tgt := 84) hx hb dX7_byBeavers_143 (by decide) ?_
                          exact ih84 (j + 1) (od * (10 - q)) (by omega) (by omega) (by rw [hod0]; show _ = nprod (wq (pgv Mt 0) q s2) j * wq (pgv Mt 0) q s2 j; rw [wq_f (v := pgv Mt 0) (q := q) c11 (rb_ne1 c13)]) H locs ls X (lv_sub hl [0, 1, 2, 3, 4, 5, 6, 7, 8, 9, 10] rfl)
                        · refine lv_iload_n hx hb dX7_byBeavers_127 rfl (lv_at hl 6 rfl) ?_
                          refine g_i2l C0 (by omega) dX7_byBeavers_128 ?_
                          refine lv_goto (tgt := 137) hx hb dX7_byBeavers_129 (by decide) ?_
                          refine g_lmul (n := od * q) C0 rfl dX7_byBeavers_137 ?_
                          refine lv_lstore (lv' := [(11, .long (lN (od * q))), (13, .int (nI j)), (10, .int (nI s2)), (8, .long (lN dn)), (6, .long (lN up)), (0, .ref (h 0)), (1, .int (nI q)), (2, .int (nI t)), (3, .int (nI z)), (4, .int (nI b)), (5, .int (nI w))]) hx hb dX7_byBeavers_138 hl (by decide) rfl (fun ls hl => ?_)
                          refine g_iinc (j := 1) (z := j + 1) (lv' := [(13, .int (nI (j + 1))), (11, .long (lN (od * q))), (10, .int (nI s2)), (8, .long (lN dn)), (6, .long (lN up)), (0, .ref (h 0)), (1, .int (nI q)), (2, .int (nI t)), (3, .int (nI z)), (4, .int (nI b)), (5, .int (nI w))]) C0 rfl (by first | rfl | omega) dX7_byBeavers_140 hl (k := 1) rfl (by decide) rfl (fun ls hl => ?_)
                          refine lv_goto (tgt := 84) hx hb dX7_byBeavers_143 (by decide) ?_
                          exact ih84 (j + 1) (od * q) (by omega) (by omega) (by rw [hod0]; show _ = nprod (wq (pgv Mt 0) q s2) j * wq (pgv Mt 0) q s2 j; rw [wq_t (v := pgv Mt 0) (q := q) c11 (rb_eq1 c14)]) H locs ls X (lv_sub hl [0, 1, 2, 3, 4, 5, 6, 7, 8, 9, 10] rfl)
                      · refine g_lconst (n := 1) C0 rfl dX7_byBeavers_112 ?_
                        refine lv_goto (tgt := 137) hx hb dX7_byBeavers_113 (by decide) ?_
                        refine g_lmul (n := od * 1) C0 rfl dX7_byBeavers_137 ?_
                        refine lv_lstore (lv' := [(11, .long (lN (od * 1))), (13, .int (nI j)), (10, .int (nI s2)), (8, .long (lN dn)), (6, .long (lN up)), (0, .ref (h 0)), (1, .int (nI q)), (2, .int (nI t)), (3, .int (nI z)), (4, .int (nI b)), (5, .int (nI w))]) hx hb dX7_byBeavers_138 hl (by decide) rfl (fun ls hl => ?_)
                        refine g_iinc (j := 1) (z := j + 1) (lv' := [(13, .int (nI (j + 1))), (11, .long (lN (od * 1))), (10, .int (nI s2)), (8, .long (lN dn)), (6, .long (lN up)), (0, .ref (h 0)), (1, .int (nI q)), (2, .int (nI t)), (3, .int (nI z)), (4, .int (nI b)), (5, .int (nI w))]) C0 rfl (by first | rfl | omega) dX7_byBeavers_140 hl (k := 1) rfl (by decide) rfl (fun ls hl => ?_)
                        refine lv_goto (tgt := 84) hx hb dX7_byBeavers_143 (by decide) ?_
                        exact ih84 (j + 1) (od * 1) (by omega) (by omega) (by rw [hod0]; show _ = nprod (wq (pgv Mt 0) q s2) j * wq (pgv Mt 0) q s2 j; rw [wq_c (v := pgv Mt 0) c12]) H locs ls X (lv_sub hl [0, 1, 2, 3, 4, 5, 6, 7, 8, 9, 10] rfl)
                exact J84 ((Mt 0 42 - 0) + 1) 0 1 (Nat.lt_succ_self _) (by omega) (by rfl) H locs ls X (lv_sub hl [0, 1, 2, 3, 4, 5, 6, 7, 8, 9, 10] rfl)
        exact J55 ((2 ^ Mt 0 42 - 0) + 1) 0 0 (Mt 0) (Mt 6) (Nat.lt_succ_self _) (by exact Nat.zero_le _) (by exact RK.rf _) (by rfl) H locs ls X (lv_sub hl [0, 1, 2, 3, 4, 5, 6, 7, 8] rfl)
      · refine lv_lload hx hb dX7_byBeavers_21 (lv_at hl 1 rfl) ?_
        have hr0 := hrt i (by omega)
        refine lv_aload_n hx hb dX7_byBeavers_23 rfl (lv_at hl 3 rfl) ?_
        refine g_get (v := .ref (h 1)) C0 X kX7 0 0 tb797 rfl rfl rfl dX7_byBeavers_24 ?_
        refine g_bipush (n := 33) C0 (by decide) dX7_byBeavers_27 ?_
        refine lv_iload hx hb dX7_byBeavers_29 (lv_at hl 0 rfl) ?_
        refine g_iadd (n := 33 + i) C0 (by first | rfl | omega) dX7_byBeavers_31 ?_
        refine g_iald (v := nI (Mt 0 (33 + i))) (i := 33 + i) C0 X 1 0 rfl rfl (by omega) rfl rfl dX7_byBeavers_32 ?_
        refine g_ifne (x := Mt 0 (33 + i)) (tgt := 42) C0 (by omega) dX7_byBeavers_33 rfl (fun c15 => ?_) (fun c16 => ?_)
        · refine g_lconst (n := 1) C0 rfl dX7_byBeavers_42 ?_
          refine g_lmul (n := dn * 1) C0 rfl dX7_byBeavers_43 ?_
          refine lv_lstore (lv' := [(8, .long (lN (dn * 1))), (10, .int (nI i)), (6, .long (lN 0)), (0, .ref (h 0)), (1, .int (nI q)), (2, .int (nI t)), (3, .int (nI z)), (4, .int (nI b)), (5, .int (nI w))]) hx hb dX7_byBeavers_44 hl (by decide) rfl (fun ls hl => ?_)
          refine g_iinc (j := 1) (z := i + 1) (lv' := [(10, .int (nI (i + 1))), (8, .long (lN (dn * 1))), (6, .long (lN 0)), (0, .ref (h 0)), (1, .int (nI q)), (2, .int (nI t)), (3, .int (nI z)), (4, .int (nI b)), (5, .int (nI w))]) C0 rfl (by first | rfl | omega) dX7_byBeavers_46 hl (k := 1) rfl (by decide) rfl (fun ls hl => ?_)
          refine lv_goto (tgt := 9) hx hb dX7_byBeavers_49 (by decide) ?_
          exact ih9 (i + 1) (dn * 1) (by omega) (by omega) (by rw [hdn]; show _ = nprod (wd (pgv Mt 0)) i * wd (pgv Mt 0) i; rw [show wd (pgv Mt 0) i = 1 from if_neg (show ¬ Mt 0 (33 + i) = 0 by omega)]) H locs ls X (lv_sub hl [0, 1, 2, 3, 4, 5, 6, 7, 8] rfl)
        · refine lv_ldc2 (v := lN 10) hx hb C0.2.2.2.1 (ht _ tb1124) dX7_byBeavers_36 ?_
          refine lv_goto (tgt := 43) hx hb dX7_byBeavers_39 (by decide) ?_
          refine g_lmul (n := dn * 10) C0 rfl dX7_byBeavers_43 ?_
          refine lv_lstore (lv' := [(8, .long (lN (dn * 10))), (10, .int (nI i)), (6, .long (lN 0)), (0, .ref (h 0)), (1, .int (nI q)), (2, .int (nI t)), (3, .int (nI z)), (4, .int (nI b)), (5, .int (nI w))]) hx hb dX7_byBeavers_44 hl (by decide) rfl (fun ls hl => ?_)
          refine g_iinc (j := 1) (z := i + 1) (lv' := [(10, .int (nI (i + 1))), (8, .long (lN (dn * 10))), (6, .long (lN 0)), (0, .ref (h 0)), (1, .int (nI q)), (2, .int (nI t)), (3, .int (nI z)), (4, .int (nI b)), (5, .int (nI w))]) C0 rfl (by first | rfl | omega) dX7_byBeavers_46 hl (k := 1) rfl (by decide) rfl (fun ls hl => ?_)
          refine lv_goto (tgt := 9) hx hb dX7_byBeavers_49 (by decide) ?_
          exact ih9 (i + 1) (dn * 10) (by omega) (by omega) (by rw [hdn]; show _ = nprod (wd (pgv Mt 0)) i * wd (pgv Mt 0) i; rw [show wd (pgv Mt 0) i = 10 from if_pos c16]) H locs ls X (lv_sub hl [0, 1, 2, 3, 4, 5, 6, 7, 8] rfl)
  exact J9 ((Mt 0 42 - 0) + 1) 0 1 (Nat.lt_succ_self _) (by omega) (by rfl) H locs ls X (lv_sub hl [0, 1, 2, 3, 4, 5, 6, 7, 8] rfl)
set_option maxHeartbeats 4000000 in
set_option maxRecDepth 100000 in
theorem c_byB_m (l : Launch) (D : va_G) (tk : Nat → ClassId) (h : Nat → Nat) (Mt : Nat → Nat → Nat) (hi : Int32) (la ce : Nat → Int32) (q t b w : Nat) (hW : VW (pgv Mt 0)) (hq : q ≤ 10) (ht0 : t < Mt 20 0) (hb : b ≤ 60) (hw1 : w ≤ 1) : MX l yX7_byBeavers cX7_byBeavers 14 (some .long) ⟨3, 0, 0, 72⟩ D (TYS tk) [.ref (h 0), .int (nI q), .int (nI t), .int (-4), .int (nI b), .int (nI w)] (mW tk h Mt hi la ce) (fun (u : (Nat → Nat) × (Nat → Nat)) => RK (Mt 0) u.1) (fun u => some (.long (meanS (pgv Mt 0) q t b (2 ^ Mt 20 0 - 1) w))) (fun u => mW tk h (u3 (u3 Mt 0 u.1) 6 u.2) hi la ce) 0 0 := by
  refine MX.of_l (by decide) rfl ?_
  intro zp ze zs zm za zb zt zc zA zQ ls C0 hnm X hl hE
  have hx := C0.1
  have hb := C0.2.1
  have ht := C0.2.2.2.2.1
  have X : Hx D zA zs zs.heap [] (mW tk h Mt hi la ce) := X
  have hl : lv_has ls 14 [(0, .ref (h 0)), (1, .int (nI q)), (2, .int (nI t)), (3, .int (-4)), (4, .int (nI b)), (5, .int (nI w))] := hl
  obtain ⟨hv1, hv2, hv3, hv4, hv5, hv6, hv7⟩ := id hW
  have hb1 : Mt 20 0 ≤ 6 := hv1
  have hb2 : Mt 0 42 ≤ 9 := hv2
  have hb3 : Mt 0 43 ≤ 20 := hv3
  have hb4 : Mt 0 62 ≤ 6 := hv4
  have hkd : ∀ t, t < Mt 20 0 → Mt 0 t ≤ 3 := fun t ht => by have q := hv5 t ht; rw [pv0] at q; exact q
  have hrt : ∀ i, i < Mt 0 42 → Mt 0 (6 + i) < Mt 20 0 ∧ Mt 0 (15 + i) < Mt 20 0 ∧ Mt 0 (6 + i) ≠ Mt 0 (15 + i) ∧ 1 ≤ Mt 0 (24 + i) ∧ Mt 0 (24 + i) ≤ 9 ∧ Mt 0 (33 + i) ≤ 1 := fun i hi => hv6 i hi
  have htk : ∀ k, k < Mt 0 62 → Mt 0 (44 + k) ≤ 23 ∧ Mt 0 (50 + k) < Mt 20 0 ∧ 1 ≤ Mt 0 (56 + k) ∧ Mt 0 (56 + k) ≤ 60 := fun k hk => hv7 k hk
  have hpw := Nat.pow_le_pow_right (n := 2) (by decide) hb2
  obtain ⟨H, hH⟩ : ∃ H, H = zs.heap := ⟨_, rfl⟩
  rw [← hH] at X ⊢
  obtain ⟨locs, hlo⟩ : ∃ L : List Loc, L = [] := ⟨_, rfl⟩
  rw [← hlo] at X ⊢
  refine g_lconst (n := 0) C0 rfl dX7_byBeavers_0 ?_
  refine lv_lstore (lv' := [(6, .long (lN 0)), (0, .ref (h 0)), (1, .int (nI q)), (2, .int (nI t)), (3, .int (-4)), (4, .int (nI b)), (5, .int (nI w))]) hx hb dX7_byBeavers_1 hl (by decide) rfl (fun ls hl => ?_)
  refine g_lconst (n := 1) C0 rfl dX7_byBeavers_3 ?_
  refine lv_lstore (lv' := [(8, .long (lN 1)), (6, .long (lN 0)), (0, .ref (h 0)), (1, .int (nI q)), (2, .int (nI t)), (3, .int (-4)), (4, .int (nI b)), (5, .int (nI w))]) hx hb dX7_byBeavers_4 hl (by decide) rfl (fun ls hl => ?_)
  refine g_iconst (n := 0) C0 rfl dX7_byBeavers_6 ?_
  refine lv_istore (lv' := [(10, .int (nI 0)), (8, .long (lN 1)), (6, .long (lN 0)), (0, .ref (h 0)), (1, .int (nI q)), (2, .int (nI t)), (3, .int (-4)), (4, .int (nI b)), (5, .int (nI w))]) hx hb dX7_byBeavers_7 hl (by decide) rfl (fun ls hl => ?_)
  have J9 : ∀ (fz : Nat) (i dn : Nat), Mt 0 42 - i < fz → ∀ (hi1 : i ≤ Mt 0 42) (hdn : dn = nprod (wd (pgv Mt 0)) i) (H : Heap) (locs : List Loc) (ls : Array Slot), Hx D zA zs H locs (mW tk h Mt hi la ce) → lv_has ls 14 [(10, .int (nI i)), (8, .long (lN dn)), (6, .long (lN 0)), (0, .ref (h 0)), (1, .int (nI q)), (2, .int (nI t)), (3, .int (-4)), (4, .int (nI b)), (5, .int (nI w))] → W zp l ze ⟨3, 0, 0, 72⟩ zs zm za zb zt zc H locs 0 0 zQ (F0 zm 9 ls []) := by
    intro fz
    induction fz with
    | zero => intro i dn hz; exact absurd hz (Nat.not_lt_zero _)
    | succ fz ih9 =>
      intro i dn hz9 hi1 hdn H locs ls X hl
      refine lv_iload hx hb dX7_byBeavers_9 (lv_at hl 0 rfl) ?_
      refine lv_aload_n hx hb dX7_byBeavers_11 rfl (lv_at hl 3 rfl) ?_
      refine g_get (v := .ref (h 1)) C0 X kX7 0 0 tb797 rfl rfl rfl dX7_byBeavers_12 ?_
      refine g_bipush (n := 42) C0 (by decide) dX7_byBeavers_15 ?_
      refine g_iald (v := nI (Mt 0 42)) (i := 42) C0 X 1 0 rfl rfl (by omega) rfl rfl dX7_byBeavers_17 ?_
      refine g_icmp_ge (x := i) (y := Mt 0 42) (tgt := 52) C0 (by omega) (by omega) dX7_byBeavers_18 rfl (fun c1 => ?_) (fun c2 => ?_)
      · refine g_iconst (n := 0) C0 rfl dX7_byBeavers_52 ?_
        refine lv_istore (lv' := [(10, .int (nI 0)), (8, .long (lN dn)), (6, .long (lN 0)), (0, .ref (h 0)), (1, .int (nI q)), (2, .int (nI t)), (3, .int (-4)), (4, .int (nI b)), (5, .int (nI w))]) hx hb dX7_byBeavers_53 hl (by decide) rfl (fun ls hl => ?_)
        have J55 : ∀ (fz : Nat) (s2 up : Nat) (r1 d1 : Nat → Nat), 2 ^ Mt 0 42 - s2 < fz → ∀ (hs1 : s2 ≤ 2 ^ Mt 0 42) (hr : RK (Mt 0) r1) (hup : up = nsum (luckF (pgv Mt 0) q t b (2 ^ Mt 20 0 - 1)) s2) (H : Heap) (locs : List Loc) (ls : Array Slot), Hx D zA zs H locs (mW tk h (u3 (u3 Mt 0 r1) 6 d1) hi la ce) → lv_has ls 14 [(10, .int (nI s2)), (8, .long (lN dn)), (6, .long (lN up)), (0, .ref (h 0)), (1, .int (nI q)), (2, .int (nI t)), (3, .int (-4)), (4, .int (nI b)), (5, .int (nI w))] → W zp l ze ⟨3, 0, 0, 72⟩ zs zm za zb zt zc H locs 0 0 zQ (F0 zm 55 ls []) := by
          intro fz
          induction fz with
          | zero => intro s2 up r1 d1 hz; exact absurd hz (Nat.not_lt_zero _)
          | succ fz ih55 =>
            intro s2 up r1 d1 hz55 hs1 hr hup H locs ls X hl
            refine lv_iload hx hb dX7_byBeavers_55 (lv_at hl 0 rfl) ?_
            refine g_iconst (n := 1) C0 rfl dX7_byBeavers_57 ?_
            refine lv_aload_n hx hb dX7_byBeavers_58 rfl (lv_at hl 3 rfl) ?_
            refine g_get (v := .ref (h 1)) C0 X kX7 0 0 tb797 rfl rfl rfl dX7_byBeavers_59 ?_
            refine g_bipush (n := 42) C0 (by decide) dX7_byBeavers_62 ?_
            refine g_iald (v := nI (r1 42)) (i := 42) C0 X 1 0 rfl rfl (by omega) rfl rfl dX7_byBeavers_64 ?_
            refine g_top (y := nI (Mt 0 42)) (by rw [hr 42 (by decide)]) ?_
            refine g_ishl (n := 2 ^ (Mt 0 42)) C0 (by exact sh_ok (by omega)) (by first | exact Nat.one_mul _ | rfl) dX7_byBeavers_65 ?_
            refine g_icmp_ge (x := s2) (y := 2 ^ (Mt 0 42)) (tgt := 193) C0 (by first | omega | exact sh_31 (by omega)) (by first | omega | exact sh_31 (by omega)) dX7_byBeavers_66 rfl (fun c3 => ?_) (fun c4 => ?_)
            · have hsu : up = upS (pgv Mt 0) q t b (2 ^ Mt 20 0 - 1) := by rw [hup, show s2 = 2 ^ Mt 0 42 by omega]; rfl
              have hsd : dn = downS (pgv Mt 0) := by rw [hdn, show i = Mt 0 42 by omega]; rfl
              have hbu := upS_lt (v := pgv Mt 0) (q := q) (t := t) (b := b) (am := (2 ^ Mt 20 0 - 1)) hq hv2
              have hbd := downS_bd (v := pgv Mt 0) hv2
              refine lv_lload hx hb dX7_byBeavers_193 (lv_at hl 2 rfl) ?_
              refine lv_lload hx hb dX7_byBeavers_195 (lv_at hl 1 rfl) ?_
              refine lv_iload hx hb dX7_byBeavers_197 (lv_at hl 8 rfl) ?_
              refine g_callS (As := [.long (lN up), .long (lN dn), .int (nI w)]) (rest := []) (wr := (mW tk h (u3 (u3 Mt 0 r1) 6 d1) hi la ce)) (C0.sz hl) X (c_X7_lowest l D tk up dn w (by first | assumption | omega) (by first | assumption | omega) (by first | assumption | omega) (by first | assumption | omega)) ⟨tb1129, tb1131, tb8, ⟨by decide, by decide, rfl⟩, rfl, rfl, Nat.le_of_ble_eq_true rfl, Nat.le_of_ble_eq_true rfl⟩ tb1130 rfl [] [0, 1, 2, 3, 4, 5, 6, 7, 8, 9, 10, 11, 12, 13] rfl rfl rfl rfl rfl (Nat.le_of_ble_eq_true rfl) ⟨Nat.le_of_ble_eq_true rfl, Nat.le_of_ble_eq_true rfl⟩ dX7_byBeavers_199 (fun _ H locs _ X => ?_)
              have X : Hx D zA zs H locs (mW tk h (u3 (u3 Mt 0 r1) 6 d1) hi la ce) := X
              exact hE (v := lN (if w = 0 then up / Nat.gcd up dn else dn / Nat.gcd up dn)) (r1, d1) (by rw [meanS, ← hsu, ← hsd]; split <;> rfl) (by exact hr) X dX7_byBeavers_202
            · refine lv_aload_n hx hb dX7_byBeavers_69 rfl (lv_at hl 3 rfl) ?_
              refine lv_iload hx hb dX7_byBeavers_70 (lv_at hl 0 rfl) ?_
              refine g_callV (As := [.int (nI s2)]) (rest := []) (wr := []) (C0.sz hl) X (c_X7_cuts l D tk h (u3 (u3 Mt 0 r1) 6 d1) hi la ce s2 (by show r1 42 ≤ 9; rw [hr 42 (by decide)]; exact hb2) (by omega) (by exact hcl1 hW hr)) ⟨tb1092, tb1095, tb8, ⟨by decide, by decide, rfl⟩, rfl, rfl, Nat.le_of_ble_eq_true rfl, Nat.le_of_ble_eq_true rfl⟩ tb1094 tbs45 0 7 rfl rfl rfl rfl [0, 1, 2, 3, 4, 5, 6, 7, 8, 9, 10, 11, 12, 13] [] rfl rfl rfl rfl rfl (Nat.le_of_ble_eq_true rfl) ⟨Nat.le_of_ble_eq_true rfl, Nat.le_of_ble_eq_true rfl⟩ dX7_byBeavers_72 (fun _ H locs _ X => ?_)
              have X : Hx D zA zs H locs (mW tk h (u3 (u3 Mt 6 d1) 0 (cutRow ((u3 Mt 0 r1) 0) s2)) hi la ce) := X
              refine g_top (y := nI (rb (cutsB (pgv Mt 0) s2))) (by exact congrArg (fun q => nI (rb q)) (cutsRK hW hr _)) ?_
              refine g_ifeqB (x := (cutsB (pgv Mt 0) s2)) (tgt := 187) C0 dX7_byBeavers_75 rfl (fun c5 => ?_) (fun c6 => ?_)
              · refine g_iinc (j := 1) (z := s2 + 1) (lv' := [(10, .int (nI (s2 + 1))), (8, .long (lN dn)), (6, .long (lN up)), (0, .ref (h 0)), (1, .int (nI q)), (2, .int (nI t)), (3, .int (-4)), (4, .int (nI b)), (5, .int (nI w))]) C0 rfl (by first | rfl | omega) dX7_byBeavers_187 hl (k := 0) rfl (by decide) rfl (fun ls hl => ?_)
                refine lv_goto (tgt := 55) hx hb dX7_byBeavers_190 (by decide) ?_
                exact ih55 (s2 + 1) up (cutRow ((u3 Mt 0 r1) 0) s2) d1 (by omega) (by omega) (by exact hr.ct) (by rw [hup]; show _ = nsum (luckF (pgv Mt 0) q t b (2 ^ Mt 20 0 - 1)) s2 + (luckF (pgv Mt 0) q t b (2 ^ Mt 20 0 - 1)) s2; rw [luckF_f c5, Nat.add_zero]) H locs ls X (lv_sub hl [0, 1, 2, 3, 4, 5, 6, 7, 8] rfl)
              · have hcut : cutsB (pgv Mt 0) s2 = true := c6
                refine g_lconst (n := 1) C0 rfl dX7_byBeavers_78 ?_
                refine lv_lstore (lv' := [(11, .long (lN 1)), (10, .int (nI s2)), (8, .long (lN dn)), (6, .long (lN up)), (0, .ref (h 0)), (1, .int (nI q)), (2, .int (nI t)), (3, .int (-4)), (4, .int (nI b)), (5, .int (nI w))]) hx hb dX7_byBeavers_79 hl (by decide) rfl (fun ls hl => ?_)
                refine g_iconst (n := 0) C0 rfl dX7_byBeavers_81 ?_
                refine lv_istore (lv' := [(13, .int (nI 0)), (11, .long (lN 1)), (10, .int (nI s2)), (8, .long (lN dn)), (6, .long (lN up)), (0, .ref (h 0)), (1, .int (nI q)), (2, .int (nI t)), (3, .int (-4)), (4, .int (nI b)), (5, .int (nI w))]) hx hb dX7_byBeavers_82 hl (by decide) rfl (fun ls hl => ?_)
                have J84 : ∀ (fz : Nat) (j od : Nat), Mt 0 42 - j < fz → ∀ (hj1 : j ≤ Mt 0 42) (hod0 : od = nprod (wq (pgv Mt 0) q s2) j) (H : Heap) (locs : List Loc) (ls : Array Slot), Hx D zA zs H locs (mW tk h (u3 (u3 Mt 6 d1) 0 (cutRow ((u3 Mt 0 r1) 0) s2)) hi la ce) → lv_has ls 14 [(13, .int (nI j)), (11, .long (lN od)), (10, .int (nI s2)), (8, .long (lN dn)), (6, .long (lN up)), (0, .ref (h 0)), (1, .int (nI q)), (2, .int (nI t)), (3, .int (-4)), (4, .int (nI b)), (5, .int (nI w))] → W zp l ze ⟨3, 0, 0, 72⟩ zs zm za zb zt zc H locs 0 0 zQ (F0 zm 84 ls []) := by
                  intro fz
                  induction fz with
                  | zero => intro j od hz; exact absurd hz (Nat.not_lt_zero _)
                  | succ fz ih84 =>
                    intro j od hz84 hj1 hod0 H locs ls X hl
                    refine lv_iload hx hb dX7_byBeavers_84 (lv_at hl 0 rfl) ?_
                    refine lv_aload_n hx hb dX7_byBeavers_86 rfl (lv_at hl 5 rfl) ?_
                    refine g_get (v := .ref (h 1)) C0 X kX7 0 0 tb797 rfl rfl rfl dX7_byBeavers_87 ?_
                    refine g_bipush (n := 42) C0 (by decide) dX7_byBeavers_90 ?_
                    refine g_iald (v := nI ((cutRow ((u3 Mt 0 r1) 0) s2) 42)) (i := 42) C0 X 1 0 rfl rfl (by omega) rfl rfl dX7_byBeavers_92 ?_
                    refine g_top (y := nI (Mt 0 42)) (by exact congrArg nI (hr.ct 42 (by decide))) ?_
                    refine g_icmp_ge (x := j) (y := Mt 0 42) (tgt := 146) C0 (by omega) (by omega) dX7_byBeavers_93 rfl (fun c7 => ?_) (fun c8 => ?_)
                    · refine lv_aload_n hx hb dX7_byBeavers_146 rfl (lv_at hl 5 rfl) ?_
                      refine g_sipush (n := 252) C0 (by decide) dX7_byBeavers_147 ?_
                      refine lv_iload_n hx hb dX7_byBeavers_150 rfl (lv_at hl 7 rfl) ?_
                      refine lv_iload hx hb dX7_byBeavers_151 (lv_at hl 9 rfl) ?_
                      refine g_callV (As := [.int (nI 252), .int (nI t), .int (nI b)]) (rest := []) (wr := []) (C0.sz hl) X (c_X7_hearsOn l D tk h (u3 (u3 Mt 6 d1) 0 (cutRow ((u3 Mt 0 r1) 0) s2)) hi la ce 252 t b (by omega) (by exact cutVW hW hr) (by omega) (by omega)) ⟨tb957, tb960, tb8, ⟨by decide, by decide, rfl⟩, rfl, rfl, Nat.le_of_ble_eq_true rfl, Nat.le_of_ble_eq_true rfl⟩ tb959 tbs33 0 7 rfl rfl rfl rfl [0, 1, 2, 3, 4, 5, 6, 7, 8, 9, 10, 11, 12, 13] [] rfl rfl rfl rfl rfl (Nat.le_of_ble_eq_true rfl) ⟨Nat.le_of_ble_eq_true rfl, Nat.le_of_ble_eq_true rfl⟩ dX7_byBeavers_153 (fun _ H locs _ X => ?_)
                      have X : Hx D zA zs H locs (mW tk h (u3 (u3 Mt 0 (cutRow ((u3 Mt 0 r1) 0) s2)) 6 (dist (pgv (u3 (u3 Mt 6 d1) 0 (cutRow ((u3 Mt 0 r1) 0) s2)) 252) t)) hi la ce) := X
                      refine g_top (y := nI (hearS (cutv (pgv Mt 0) s2) t b)) (by exact congrArg nI (hearS_eq (cutVE hW hr) _ _)) ?_
                      have hLh := hearS_lt (cutv (pgv Mt 0) s2) t b hv1
                      have hod : od = nprod (wq (pgv Mt 0) q s2) (pgv Mt 0 8 1) := by rw [hod0, show j = Mt 0 42 by omega]; rfl
                      refine lv_istore (lv' := [(13, .int (nI (hearS (cutv (pgv Mt 0) s2) t b))), (11, .long (lN od)), (10, .int (nI s2)), (8, .long (lN dn)), (6, .long (lN up)), (0, .ref (h 0)), (1, .int (nI q)), (2, .int (nI t)), (3, .int (-4)), (4, .int (nI b)), (5, .int (nI w))]) hx hb dX7_byBeavers_156 hl (by decide) rfl (fun ls hl => ?_)
                      refine lv_lload hx hb dX7_byBeavers_158 (lv_at hl 4 rfl) ?_
                      refine lv_lload hx hb dX7_byBeavers_160 (lv_at hl 1 rfl) ?_
                      refine lv_iload_n hx hb dX7_byBeavers_162 rfl (lv_at hl 8 rfl) ?_
                      refine lv_bipush (v := (-4)) hx hb dX7_byBeavers_163 (by decide) ?_
                      refine lv_icmp_ne (tgt := 176) hx hb dX7_byBeavers_165 rfl (fun q => absurd q (by decide)) (fun _ => ?_)
                      refine lv_iload hx hb dX7_byBeavers_168 (lv_at hl 0 rfl) ?_
                      refine g_callS (As := [.int (nI (hearS (cutv (pgv Mt 0) s2) t b))]) (rest := [.long (lN od), .long (lN up)]) (wr := (mW tk h (u3 (u3 Mt 0 (cutRow ((u3 Mt 0 r1) 0) s2)) 6 (dist (pgv (u3 (u3 Mt 6 d1) 0 (cutRow ((u3 Mt 0 r1) 0) s2)) 252) t)) hi la ce)) (C0.sz hl) X (c_X7_bitsOf l D tk (hearS (cutv (pgv Mt 0) s2) t b) (by first | assumption | omega)) ⟨tb973, tb975, tb8, ⟨by decide, by decide, rfl⟩, rfl, rfl, Nat.le_of_ble_eq_true rfl, Nat.le_of_ble_eq_true rfl⟩ tb974 rfl [] [0, 1, 2, 3, 4, 5, 6, 7, 8, 9, 10, 11, 12, 13] rfl rfl rfl rfl rfl (Nat.le_of_ble_eq_true rfl) ⟨Nat.le_of_ble_eq_true rfl, Nat.le_of_ble_eq_true rfl⟩ dX7_byBeavers_170 (fun _ H locs _ X => ?_)
                      have X : Hx D zA zs H locs (mW tk h (u3 (u3 Mt 0 (cutRow ((u3 Mt 0 r1) 0) s2)) 6 (dist (pgv (u3 (u3 Mt 6 d1) 0 (cutRow ((u3 Mt 0 r1) 0) s2)) 252) t)) hi la ce) := X
                      have hLp := pc_le (hearS (cutv (pgv Mt 0) s2) t b)
                      refine lv_goto (tgt := 182) hx hb dX7_byBeavers_173 (by decide) ?_
                      have hLp := pc_le (hearS (cutv (pgv Mt 0) s2) t b)
                      refine g_i2l C0 (by first | exact rb_lt _ | omega) dX7_byBeavers_182 ?_
                      refine g_lmul (n := od * (pc (hearS (cutv (pgv Mt 0) s2) t b))) C0 rfl dX7_byBeavers_183 ?_
                      refine g_ladd (n := up + (od * (pc (hearS (cutv (pgv Mt 0) s2) t b)))) C0 rfl dX7_byBeavers_184 ?_
                      refine lv_lstore (lv' := [(6, .long (lN (up + (od * (pc (hearS (cutv (pgv Mt 0) s2) t b)))))), (13, .int (nI (hearS (cutv (pgv Mt 0) s2) t b))), (11, .long (lN od)), (10, .int (nI s2)), (8, .long (lN dn)), (0, .ref (h 0)), (1, .int (nI q)), (2, .int (nI t)), (3, .int (-4)), (4, .int (nI b)), (5, .int (nI w))]) hx hb dX7_byBeavers_185 hl (by decide) rfl (fun ls hl => ?_)
                      refine g_iinc (j := 1) (z := s2 + 1) (lv' := [(10, .int (nI (s2 + 1))), (6, .long (lN (up + (od * (pc (hearS (cutv (pgv Mt 0) s2) t b)))))), (13, .int (nI (hearS (cutv (pgv Mt 0) s2) t b))), (11, .long (lN od)), (8, .long (lN dn)), (0, .ref (h 0)), (1, .int (nI q)), (2, .int (nI t)), (3, .int (-4)), (4, .int (nI b)), (5, .int (nI w))]) C0 rfl (by first | rfl | omega) dX7_byBeavers_187 hl (k := 3) rfl (by decide) rfl (fun ls hl => ?_)
                      refine lv_goto (tgt := 55) hx hb dX7_byBeavers_190 (by decide) ?_
                      exact ih55 (s2 + 1) (up + (od * (pc (hearS (cutv (pgv Mt 0) s2) t b)))) (cutRow ((u3 Mt 0 r1) 0) s2) (dist (pgv (u3 (u3 Mt 6 d1) 0 (cutRow ((u3 Mt 0 r1) 0) s2)) 252) t) (by omega) (by omega) (by exact hr.ct) (by rw [hup]; show _ = nsum (luckF (pgv Mt 0) q t b (2 ^ Mt 20 0 - 1)) s2 + (luckF (pgv Mt 0) q t b (2 ^ Mt 20 0 - 1)) s2; rw [luckF_t hcut hod (show pc (hearS (cutv (pgv Mt 0) s2) t b &&& (2 ^ Mt 20 0 - 1)) = _ from pc_and_all (v := pgv Mt 0))]) H locs ls X (lv_sub hl [0, 4, 1, 5, 6, 7, 8, 9, 10] rfl)
                    · have hr0 := hrt j (by omega)
                      refine lv_lload hx hb dX7_byBeavers_96 (lv_at hl 1 rfl) ?_
                      refine lv_aload_n hx hb dX7_byBeavers_98 rfl (lv_at hl 5 rfl) ?_
                      refine g_get (v := .ref (h 1)) C0 X kX7 0 0 tb797 rfl rfl rfl dX7_byBeavers_99 ?_
                      refine g_bipush (n := 33) C0 (by decide) dX7_byBeavers_102 ?_
                      refine lv_iload hx hb dX7_byBeavers_104 (lv_at hl 0 rfl) ?_
                      refine g_iadd (n := 33 + j) C0 (by first | rfl | omega) dX7_byBeavers_106 ?_
                      refine g_iald (v := nI ((cutRow ((u3 Mt 0 r1) 0) s2) (33 + j))) (i := 33 + j) C0 X 1 0 rfl rfl (by omega) rfl rfl dX7_byBeavers_107 ?_
                      refine g_top (y := nI (Mt 0 (33 + j))) (by exact congrArg nI (hr.ct (33 + j) (by omega))) ?_
                      refine g_iconst (n := 1) C0 rfl dX7_byBeavers_108 ?_
                      refine g_icmp_ne (x := Mt 0 (33 + j)) (y := 1) (tgt := 116) C0 (by omega) (by omega) dX7_byBeavers_109 rfl (fun c11 => ?_) (fun c12 => ?_)
                      · refine lv_iload hx hb dX7_byBeavers_116 (lv_at hl 2 rfl) ?_
                        refine lv_iload hx hb dX7_byBeavers_118 (lv_at hl 0 rfl) ?_
                        refine g_ishr (n := s2 / 2 ^ j) C0 (by omega) (by first | decide | omega) rfl dX7_byBeavers_120 ?_
                        refine g_iconst (n := 1) C0 rfl dX7_byBeavers_121 ?_
                        refine g_iand (n := (s2 / 2 ^ j) &&& 1) C0 rfl dX7_byBeavers_122 ?_
                        refine g_top (y := nI (rb (s2.testBit j))) (by rw [tbv]) ?_
                        refine g_iconst (n := 1) C0 rfl dX7_byBeavers_123 ?_
                        refine g_icmp_ne (x := rb (s2.testBit j)) (y := 1) (tgt := 132) C0 (by first | exact rb_lt _ | decide) (by first | exact rb_lt _ | decide) dX7_byBeavers_124 rfl (fun c13 => ?_) (fun c14 => ?_)
                        · refine g_bipush (n := 10) C0 (by decide) dX7_byBeavers_132 ?_
                          refine lv_iload_n hx hb dX7_byBeavers_134 rfl (lv_at hl 6 rfl) ?_
                          refine g_isub (n := 10 - q) C0 (by omega) rfl dX7_byBeavers_135 ?_
                          refine g_i2l C0 (by omega) dX7_byBeavers_136 ?_
                          refine g_lmul (n := od * (10 - q)) C0 rfl dX7_byBeavers_137 ?_
                          refine lv_lstore (lv' := [(11, .long (lN (od * (10 - q)))), (13, .int (nI j)), (10, .int (nI s2)), (8, .long (lN dn)), (6, .long (lN up)), (0, .ref (h 0)), (1, .int (nI q)), (2, .int (nI t)), (3, .int (-4)), (4, .int (nI b)), (5, .int (nI w))]) hx hb dX7_byBeavers_138 hl (by decide) rfl (fun ls hl => ?_)
                          refine g_iinc (j := 1) (z := j + 1) (lv' := [(13, .int (nI (j + 1))), (11, .long (lN (od * (10 - q)))), (10, .int (nI s2)), (8, .long (lN dn)), (6, .long (lN up)), (0, .ref (h 0)), (1, .int (nI q)), (2, .int (nI t)), (3, .int (-4)), (4, .int (nI b)), (5, .int (nI w))]) C0 rfl (by first | rfl | omega) dX7_byBeavers_140 hl (k := 1) rfl (by decide) rfl (fun ls hl => ?_)
                          refine lv_goto (tgt := 84) hx hb dX7_byBeavers_143 (by decide) ?_
                          exact ih84 (j + 1) (od * (10 - q)) (by omega) (by omega) (by rw [hod0]; show _ = nprod (wq (pgv Mt 0) q s2) j * wq (pgv Mt 0) q s2 j; rw [wq_f (v := pgv Mt 0) (q := q) c11 (rb_ne1 c13)]) H locs ls X (lv_sub hl [0, 1, 2, 3, 4, 5, 6, 7, 8, 9, 10] rfl)
                        · refine lv_iload_n hx hb dX7_byBeavers_127 rfl (lv_at hl 6 rfl) ?_
                          refine g_i2l C0 (by omega) dX7_byBeavers_128 ?_
                          refine lv_goto (tgt := 137) hx hb dX7_byBeavers_129 (by decide) ?_
                          refine g_lmul (n := od * q) C0 rfl dX7_byBeavers_137 ?_
                          refine lv_lstore (lv' := [(11, .long (lN (od * q))), (13, .int (nI j)), (10, .int (nI s2)), (8, .long (lN dn)), (6, .long (lN up)), (0, .ref (h 0)), (1, .int (nI q)), (2, .int (nI t)), (3, .int (-4)), (4, .int (nI b)), (5, .int (nI w))]) hx hb dX7_byBeavers_138 hl (by decide) rfl (fun ls hl => ?_)
                          refine g_iinc (j := 1) (z := j + 1) (lv' := [(13, .int (nI (j + 1))), (11, .long (lN (od * q))), (10, .int (nI s2)), (8, .long (lN dn)), (6, .long (lN up)), (0, .ref (h 0)), (1, .int (nI q)), (2, .int (nI t)), (3, .int (-4)), (4, .int (nI b)), (5, .int (nI w))]) C0 rfl (by first | rfl | omega) dX7_byBeavers_140 hl (k := 1) rfl (by decide) rfl (fun ls hl => ?_)
                          refine lv_goto (tgt := 84) hx hb dX7_byBeavers_143 (by decide) ?_
                          exact ih84 (j + 1) (od * q) (by omega) (by omega) (by rw [hod0]; show _ = nprod (wq (pgv Mt 0) q s2) j * wq (pgv Mt 0) q s2 j; rw [wq_t (v := pgv Mt 0) (q := q) c11 (rb_eq1 c14)]) H locs ls X (lv_sub hl [0, 1, 2, 3, 4, 5, 6, 7, 8, 9, 10] rfl)
                      · refine g_lconst (n := 1) C0 rfl dX7_byBeavers_112 ?_
                        refine lv_goto (tgt := 137) hx hb dX7_byBeavers_113 (by decide) ?_
                        refine g_lmul (n := od * 1) C0 rfl dX7_byBeavers_137 ?_
                        refine lv_lstore (lv' := [(11, .long (lN (od * 1))), (13, .int (nI j)), (10, .int (nI s2)), (8, .long (lN dn)), (6, .long (lN up)), (0, .ref (h 0)), (1, .int (nI q)), (2, .int (nI t)), (3, .int (-4)), (4, .int (nI b)), (5, .int (nI w))]) hx hb dX7_byBeavers_138 hl (by decide) rfl (fun ls hl => ?_)
                        refine g_iinc (j := 1) (z := j + 1) (lv' := [(13, .int (nI (j + 1))), (11, .long (lN (od * 1))), (10, .int (nI s2)), (8, .long (lN dn)), (6, .long (lN up)), (0, .ref (h 0)), (1, .int (nI q)), (2, .int (nI t)), (3, .int (-4)), (4, .int (nI b)), (5, .int (nI w))]) C0 rfl (by first | rfl | omega) dX7_byBeavers_140 hl (k := 1) rfl (by decide) rfl (fun ls hl => ?_)
                        refine lv_goto (tgt := 84) hx hb dX7_byBeavers_143 (by decide) ?_
                        exact ih84 (j + 1) (od * 1) (by omega) (by omega) (by rw [hod0]; show _ = nprod (wq (pgv Mt 0) q s2) j * wq (pgv Mt 0) q s2 j; rw [wq_c (v := pgv Mt 0) c12]) H locs ls X (lv_sub hl [0, 1, 2, 3, 4, 5, 6, 7, 8, 9, 10] rfl)
                exact J84 ((Mt 0 42 - 0) + 1) 0 1 (Nat.lt_succ_self _) (by omega) (by rfl) H locs ls X (lv_sub hl [0, 1, 2, 3, 4, 5, 6, 7, 8, 9, 10] rfl)
        exact J55 ((2 ^ Mt 0 42 - 0) + 1) 0 0 (Mt 0) (Mt 6) (Nat.lt_succ_self _) (by exact Nat.zero_le _) (by exact RK.rf _) (by rfl) H locs ls X (lv_sub hl [0, 1, 2, 3, 4, 5, 6, 7, 8] rfl)
      · refine lv_lload hx hb dX7_byBeavers_21 (lv_at hl 1 rfl) ?_
        have hr0 := hrt i (by omega)
        refine lv_aload_n hx hb dX7_byBeavers_23 rfl (lv_at hl 3 rfl) ?_
        refine g_get (v := .ref (h 1)) C0 X kX7 0 0 tb797 rfl rfl rfl dX7_byBeavers_24 ?_
        refine g_bipush (n := 33) C0 (by decide) dX7_byBeavers_27 ?_
        refine lv_iload hx hb dX7_byBeavers_29 (lv_at hl 0 rfl) ?_
        refine g_iadd (n := 33 + i) C0 (by first | rfl | omega) dX7_byBeavers_31 ?_
        refine g_iald (v := nI (Mt 0 (33 + i))) (i := 33 + i) C0 X 1 0 rfl rfl (by omega) rfl rfl dX7_byBeavers_32 ?_
        refine g_ifne (x := Mt 0 (33 + i)) (tgt := 42) C0 (by omega) dX7_byBeavers_33 rfl (fun c15 => ?_) (fun c16 => ?_)
        · refine g_lconst (n := 1) C0 rfl dX7_byBeavers_42 ?_
          refine g_lmul (n := dn * 1) C0 rfl dX7_byBeavers_43 ?_
          refine lv_lstore (lv' := [(8, .long (lN (dn * 1))), (10, .int (nI i)), (6, .long (lN 0)), (0, .ref (h 0)), (1, .int (nI q)), (2, .int (nI t)), (3, .int (-4)), (4, .int (nI b)), (5, .int (nI w))]) hx hb dX7_byBeavers_44 hl (by decide) rfl (fun ls hl => ?_)
          refine g_iinc (j := 1) (z := i + 1) (lv' := [(10, .int (nI (i + 1))), (8, .long (lN (dn * 1))), (6, .long (lN 0)), (0, .ref (h 0)), (1, .int (nI q)), (2, .int (nI t)), (3, .int (-4)), (4, .int (nI b)), (5, .int (nI w))]) C0 rfl (by first | rfl | omega) dX7_byBeavers_46 hl (k := 1) rfl (by decide) rfl (fun ls hl => ?_)
          refine lv_goto (tgt := 9) hx hb dX7_byBeavers_49 (by decide) ?_
          exact ih9 (i + 1) (dn * 1) (by omega) (by omega) (by rw [hdn]; show _ = nprod (wd (pgv Mt 0)) i * wd (pgv Mt 0) i; rw [show wd (pgv Mt 0) i = 1 from if_neg (show ¬ Mt 0 (33 + i) = 0 by omega)]) H locs ls X (lv_sub hl [0, 1, 2, 3, 4, 5, 6, 7, 8] rfl)
        · refine lv_ldc2 (v := lN 10) hx hb C0.2.2.2.1 (ht _ tb1124) dX7_byBeavers_36 ?_
          refine lv_goto (tgt := 43) hx hb dX7_byBeavers_39 (by decide) ?_
          refine g_lmul (n := dn * 10) C0 rfl dX7_byBeavers_43 ?_
          refine lv_lstore (lv' := [(8, .long (lN (dn * 10))), (10, .int (nI i)), (6, .long (lN 0)), (0, .ref (h 0)), (1, .int (nI q)), (2, .int (nI t)), (3, .int (-4)), (4, .int (nI b)), (5, .int (nI w))]) hx hb dX7_byBeavers_44 hl (by decide) rfl (fun ls hl => ?_)
          refine g_iinc (j := 1) (z := i + 1) (lv' := [(10, .int (nI (i + 1))), (8, .long (lN (dn * 10))), (6, .long (lN 0)), (0, .ref (h 0)), (1, .int (nI q)), (2, .int (nI t)), (3, .int (-4)), (4, .int (nI b)), (5, .int (nI w))]) C0 rfl (by first | rfl | omega) dX7_byBeavers_46 hl (k := 1) rfl (by decide) rfl (fun ls hl => ?_)
          refine lv_goto (tgt := 9) hx hb dX7_byBeavers_49 (by decide) ?_
          exact ih9 (i + 1) (dn * 10) (by omega) (by omega) (by rw [hdn]; show _ = nprod (wd (pgv Mt 0)) i * wd (pgv Mt 0) i; rw [show wd (pgv Mt 0) i = 10 from if_pos c16]) H locs ls X (lv_sub hl [0, 1, 2, 3, 4, 5, 6, 7, 8] rfl)
  exact J9 ((Mt 0 42 - 0) + 1) 0 1 (Nat.lt_succ_self _) (by omega) (by rfl) H locs ls X (lv_sub hl [0, 1, 2, 3, 4, 5, 6, 7, 8] rfl)
set_option maxHeartbeats 4000000 in
set_option maxRecDepth 100000 in
theorem c_X7_luck (l : Launch) (D : va_G) (tk : Nat → ClassId) (h : Nat → Nat) (Mt : Nat → Nat → Nat) (hi : Int32) (la ce : Nat → Int32) (x y z w p : Int32) (hW : VW (pgv Mt 0)) : MX l yX7_luck cX7_luck 6 (some .long) ⟨4, 0, 0, 105⟩ D (TYS tk) [.ref (h 0), .int x, .int y, .int z, .int w, .int p] (mW tk h Mt hi la ce) (fun (u : (Nat → Nat) × (Nat → Nat)) => RK (Mt 0) u.1) (fun u => some (.long (a_luck (pgv Mt 0) x y z w p))) (fun u => mW tk h (u3 (u3 Mt 0 u.1) 6 u.2) hi la ce) 0 0 := by
  refine MX.of_l (by decide) rfl ?_
  intro zp ze zs zm za zb zt zc zA zQ ls C0 hnm X hl hE
  have hx := C0.1
  have hb := C0.2.1
  have ht := C0.2.2.2.2.1
  have X : Hx D zA zs zs.heap [] (mW tk h Mt hi la ce) := X
  have hl : lv_has ls 6 [(0, .ref (h 0)), (1, .int x), (2, .int y), (3, .int z), (4, .int w), (5, .int p)] := hl
  obtain ⟨hv1, hv2, hv3, hv4, hv5, hv6, hv7⟩ := id hW
  have hb1 : Mt 20 0 ≤ 6 := hv1
  have hb2 : Mt 0 42 ≤ 9 := hv2
  have hb3 : Mt 0 43 ≤ 20 := hv3
  have hb4 : Mt 0 62 ≤ 6 := hv4
  have hkd : ∀ t, t < Mt 20 0 → Mt 0 t ≤ 3 := fun t ht => by have q := hv5 t ht; rw [pv0] at q; exact q
  have hrt : ∀ i, i < Mt 0 42 → Mt 0 (6 + i) < Mt 20 0 ∧ Mt 0 (15 + i) < Mt 20 0 ∧ Mt 0 (6 + i) ≠ Mt 0 (15 + i) ∧ 1 ≤ Mt 0 (24 + i) ∧ Mt 0 (24 + i) ≤ 9 ∧ Mt 0 (33 + i) ≤ 1 := fun i hi => hv6 i hi
  have htk : ∀ k, k < Mt 0 62 → Mt 0 (44 + k) ≤ 23 ∧ Mt 0 (50 + k) < Mt 20 0 ∧ 1 ≤ Mt 0 (56 + k) ∧ Mt 0 (56 + k) ≤ 60 := fun k hk => hv7 k hk
  obtain ⟨H, hH⟩ : ∃ H, H = zs.heap := ⟨_, rfl⟩
  rw [← hH] at X ⊢
  obtain ⟨locs, hlo⟩ : ∃ L : List Loc, L = [] := ⟨_, rfl⟩
  rw [← hlo] at X ⊢
  refine lv_iload_n hx hb dX7_luck_0 rfl (lv_at hl 1 rfl) ?_
  refine lv_i2l hx hb dX7_luck_1 rfl ?_
  refine g_lconst (n := 0) C0 rfl dX7_luck_2 ?_
  refine lv_ldc2 (v := lN 10) hx hb C0.2.2.2.1 (ht _ tb1124) dX7_luck_3 ?_
  refine g_callS (As := [.long (Int32.toInt64 x), .long (lN 0), .long (lN 10)]) (rest := []) (wr := (mW tk h Mt hi la ce)) (C0.sz hl) X (c_X7_in l D tk (Int32.toInt64 x) (lN 0) (lN 10)) ⟨tb885, tb887, tb8, ⟨by decide, by decide, rfl⟩, rfl, rfl, Nat.le_of_ble_eq_true rfl, Nat.le_of_ble_eq_true rfl⟩ tb886 rfl [] [0, 1, 2, 3, 4, 5, 6, 7, 8, 9, 10, 11, 12, 13] rfl rfl rfl rfl rfl (Nat.le_of_ble_eq_true rfl) ⟨Nat.le_of_ble_eq_true rfl, Nat.le_of_ble_eq_true rfl⟩ dX7_luck_6 (fun _ H locs _ X => ?_)
  have X : Hx D zA zs H locs (mW tk h Mt hi la ce) := X
  refine g_top (y := nI (rb (rg x 0 10))) (by rw [inL_rg x (by first | decide | omega) (by first | decide | omega)]) ?_
  refine g_ifeqB (x := rg x 0 10) (tgt := 61) C0 dX7_luck_9 rfl (fun c1 => ?_) (fun c2 => ?_)
  · refine lv_ldc2 (v := (-1 : Int64)) hx hb C0.2.2.2.1 (ht _ tb1132) dX7_luck_61 ?_
    exact hE (v := (-1 : Int64)) (Mt 0, Mt 6) (by simp only [a_luck, c1, pv80, pv81, pv82, pv83, pv0, pv1, pv2, pv3, pv4, pv5, pv6, pv7, eq_self, ne01, ne02, ne03, ne04, ne05, ne10, ne12, ne13, ne14, ne15, ne20, ne21, ne23, ne24, ne25, ne30, ne31, ne32, ne34, ne35, ne40, ne41, ne42, ne43, ne45, ne50, ne51, ne52, ne53, ne54, if_true, if_false, Bool.false_eq_true, Bool.and_self, Bool.and_true, Bool.and_false, Bool.true_and, Bool.false_and, Bool.not_true, Bool.not_false, decide_true, decide_false] <;> rfl) (by first | exact hr | exact RK.rf _) X dX7_luck_64
  · obtain ⟨xq, hk_xqa, hk_xqb, hk_xqc, rfl⟩ := rg_sp c2
    refine lv_aload_n hx hb dX7_luck_12 rfl (lv_at hl 0 rfl) ?_
    refine lv_iload_n hx hb dX7_luck_13 rfl (lv_at hl 2 rfl) ?_
    refine g_callV (As := [.int y]) (rest := []) (wr := []) (C0.sz hl) X (c_X7_isTree l D tk h Mt hi la ce y (by first | assumption | omega)) ⟨tb980, tb983, tb8, ⟨by decide, by decide, rfl⟩, rfl, rfl, Nat.le_of_ble_eq_true rfl, Nat.le_of_ble_eq_true rfl⟩ tb982 tbs37 0 7 rfl rfl rfl rfl [0, 1, 2, 3, 4, 5, 6, 7, 8, 9, 10, 11, 12, 13] [] rfl rfl rfl rfl rfl (Nat.le_of_ble_eq_true rfl) ⟨Nat.le_of_ble_eq_true rfl, Nat.le_of_ble_eq_true rfl⟩ dX7_luck_14 (fun _ H locs _ X => ?_)
    have X : Hx D zA zs H locs (mW tk h Mt hi la ce) := X
    refine g_ifeqB (x := ix y (Mt 20 0)) (tgt := 61) C0 dX7_luck_17 rfl (fun c3 => ?_) (fun c4 => ?_)
    · refine lv_ldc2 (v := (-1 : Int64)) hx hb C0.2.2.2.1 (ht _ tb1132) dX7_luck_61 ?_
      exact hE (v := (-1 : Int64)) (Mt 0, Mt 6) (by simp only [a_luck, c2, c3, tn_nI (k := xq) (by omega), pv80, pv81, pv82, pv83, pv0, pv1, pv2, pv3, pv4, pv5, pv6, pv7, eq_self, ne01, ne02, ne03, ne04, ne05, ne10, ne12, ne13, ne14, ne15, ne20, ne21, ne23, ne24, ne25, ne30, ne31, ne32, ne34, ne35, ne40, ne41, ne42, ne43, ne45, ne50, ne51, ne52, ne53, ne54, if_true, if_false, Bool.false_eq_true, Bool.and_self, Bool.and_true, Bool.and_false, Bool.true_and, Bool.false_and, Bool.not_true, Bool.not_false, decide_true, decide_false] <;> rfl) (by first | exact hr | exact RK.rf _) X dX7_luck_64
    · obtain ⟨yq, hk_yq, rfl⟩ := ix_sp c4
      refine lv_aload_n hx hb dX7_luck_20 rfl (lv_at hl 0 rfl) ?_
      refine lv_iload_n hx hb dX7_luck_21 rfl (lv_at hl 3 rfl) ?_
      refine g_callV (As := [.int z]) (rest := []) (wr := []) (C0.sz hl) X (c_X7_isTree l D tk h Mt hi la ce z (by first | assumption | omega)) ⟨tb980, tb983, tb8, ⟨by decide, by decide, rfl⟩, rfl, rfl, Nat.le_of_ble_eq_true rfl, Nat.le_of_ble_eq_true rfl⟩ tb982 tbs37 0 7 rfl rfl rfl rfl [0, 1, 2, 3, 4, 5, 6, 7, 8, 9, 10, 11, 12, 13] [] rfl rfl rfl rfl rfl (Nat.le_of_ble_eq_true rfl) ⟨Nat.le_of_ble_eq_true rfl, Nat.le_of_ble_eq_true rfl⟩ dX7_luck_22 (fun _ H locs _ X => ?_)
      have X : Hx D zA zs H locs (mW tk h Mt hi la ce) := X
      refine g_ifeqB (x := ix z (Mt 20 0)) (tgt := 61) C0 dX7_luck_25 rfl (fun c5 => ?_) (fun c6 => ?_)
      · refine lv_ldc2 (v := (-1 : Int64)) hx hb C0.2.2.2.1 (ht _ tb1132) dX7_luck_61 ?_
        exact hE (v := (-1 : Int64)) (Mt 0, Mt 6) (by simp only [a_luck, c2, c4, c5, tn_nI (k := xq) (by omega), tn_nI (k := yq) (by omega), pv80, pv81, pv82, pv83, pv0, pv1, pv2, pv3, pv4, pv5, pv6, pv7, eq_self, ne01, ne02, ne03, ne04, ne05, ne10, ne12, ne13, ne14, ne15, ne20, ne21, ne23, ne24, ne25, ne30, ne31, ne32, ne34, ne35, ne40, ne41, ne42, ne43, ne45, ne50, ne51, ne52, ne53, ne54, if_true, if_false, Bool.false_eq_true, Bool.and_self, Bool.and_true, Bool.and_false, Bool.true_and, Bool.false_and, Bool.not_true, Bool.not_false, decide_true, decide_false] <;> rfl) (by first | exact hr | exact RK.rf _) X dX7_luck_64
      · obtain ⟨zq, hk_zq, rfl⟩ := ix_sp c6
        refine lv_iload hx hb dX7_luck_28 (lv_at hl 4 rfl) ?_
        refine g_callS (As := [.int w]) (rest := []) (wr := (mW tk h Mt hi la ce)) (C0.sz hl) X (c_X7_isBreath l D tk w) ⟨tb1009, tb1011, tb8, ⟨by decide, by decide, rfl⟩, rfl, rfl, Nat.le_of_ble_eq_true rfl, Nat.le_of_ble_eq_true rfl⟩ tb1010 rfl [] [0, 1, 2, 3, 4, 5, 6, 7, 8, 9, 10, 11, 12, 13] rfl rfl rfl rfl rfl (Nat.le_of_ble_eq_true rfl) ⟨Nat.le_of_ble_eq_true rfl, Nat.le_of_ble_eq_true rfl⟩ dX7_luck_30 (fun _ H locs _ X => ?_)
        have X : Hx D zA zs H locs (mW tk h Mt hi la ce) := X
        refine g_ifeqB (x := rg w 1 60) (tgt := 61) C0 dX7_luck_33 rfl (fun c7 => ?_) (fun c8 => ?_)
        · refine lv_ldc2 (v := (-1 : Int64)) hx hb C0.2.2.2.1 (ht _ tb1132) dX7_luck_61 ?_
          exact hE (v := (-1 : Int64)) (Mt 0, Mt 6) (by simp only [a_luck, c2, c4, c6, c7, tn_nI (k := xq) (by omega), tn_nI (k := yq) (by omega), tn_nI (k := zq) (by omega), pv80, pv81, pv82, pv83, pv0, pv1, pv2, pv3, pv4, pv5, pv6, pv7, eq_self, ne01, ne02, ne03, ne04, ne05, ne10, ne12, ne13, ne14, ne15, ne20, ne21, ne23, ne24, ne25, ne30, ne31, ne32, ne34, ne35, ne40, ne41, ne42, ne43, ne45, ne50, ne51, ne52, ne53, ne54, if_true, if_false, Bool.false_eq_true, Bool.and_self, Bool.and_true, Bool.and_false, Bool.true_and, Bool.false_and, Bool.not_true, Bool.not_false, decide_true, decide_false] <;> rfl) (by first | exact hr | exact RK.rf _) X dX7_luck_64
        · obtain ⟨wq, hk_wqa, hk_wqb, hk_wqc, rfl⟩ := rg_sp c8
          refine lv_iload hx hb dX7_luck_36 (lv_at hl 5 rfl) ?_
          refine lv_i2l hx hb dX7_luck_38 rfl ?_
          refine g_lconst (n := 0) C0 rfl dX7_luck_39 ?_
          refine g_lconst (n := 1) C0 rfl dX7_luck_40 ?_
          refine g_callS (As := [.long (Int32.toInt64 p), .long (lN 0), .long (lN 1)]) (rest := []) (wr := (mW tk h Mt hi la ce)) (C0.sz hl) X (c_X7_in l D tk (Int32.toInt64 p) (lN 0) (lN 1)) ⟨tb885, tb887, tb8, ⟨by decide, by decide, rfl⟩, rfl, rfl, Nat.le_of_ble_eq_true rfl, Nat.le_of_ble_eq_true rfl⟩ tb886 rfl [] [0, 1, 2, 3, 4, 5, 6, 7, 8, 9, 10, 11, 12, 13] rfl rfl rfl rfl rfl (Nat.le_of_ble_eq_true rfl) ⟨Nat.le_of_ble_eq_true rfl, Nat.le_of_ble_eq_true rfl⟩ dX7_luck_41 (fun _ H locs _ X => ?_)
          have X : Hx D zA zs H locs (mW tk h Mt hi la ce) := X
          refine g_top (y := nI (rb (rg p 0 1))) (by rw [inL_rg p (by first | decide | omega) (by first | decide | omega)]) ?_
          refine g_ifeqB (x := rg p 0 1) (tgt := 61) C0 dX7_luck_44 rfl (fun c9 => ?_) (fun c10 => ?_)
          · refine lv_ldc2 (v := (-1 : Int64)) hx hb C0.2.2.2.1 (ht _ tb1132) dX7_luck_61 ?_
            exact hE (v := (-1 : Int64)) (Mt 0, Mt 6) (by simp only [a_luck, c2, c4, c6, c8, c9, tn_nI (k := xq) (by omega), tn_nI (k := yq) (by omega), tn_nI (k := zq) (by omega), tn_nI (k := wq) (by omega), pv80, pv81, pv82, pv83, pv0, pv1, pv2, pv3, pv4, pv5, pv6, pv7, eq_self, ne01, ne02, ne03, ne04, ne05, ne10, ne12, ne13, ne14, ne15, ne20, ne21, ne23, ne24, ne25, ne30, ne31, ne32, ne34, ne35, ne40, ne41, ne42, ne43, ne45, ne50, ne51, ne52, ne53, ne54, if_true, if_false, Bool.false_eq_true, Bool.and_self, Bool.and_true, Bool.and_false, Bool.true_and, Bool.false_and, Bool.not_true, Bool.not_false, decide_true, decide_false] <;> rfl) (by first | exact hr | exact RK.rf _) X dX7_luck_64
          · obtain ⟨pq, hk_pqa, hk_pqb, hk_pqc, rfl⟩ := rg_sp c10
            refine lv_aload_n hx hb dX7_luck_47 rfl (lv_at hl 0 rfl) ?_
            refine lv_iload_n hx hb dX7_luck_48 rfl (lv_at hl 1 rfl) ?_
            refine lv_iload_n hx hb dX7_luck_49 rfl (lv_at hl 2 rfl) ?_
            refine lv_iload_n hx hb dX7_luck_50 rfl (lv_at hl 3 rfl) ?_
            refine lv_iload hx hb dX7_luck_51 (lv_at hl 4 rfl) ?_
            refine lv_iload hx hb dX7_luck_53 (lv_at hl 5 rfl) ?_
            refine g_callV (As := [.int (nI xq), .int (nI yq), .int (nI zq), .int (nI wq), .int (nI pq)]) (rest := []) (wr := []) (C0.sz hl) X (c_byB_l l D tk h Mt hi la ce xq yq zq wq pq (by exact hW) (by omega) (by omega) (by omega) (by omega) (by omega)) ⟨tb1125, tb1128, tb8, ⟨by decide, by decide, rfl⟩, rfl, rfl, Nat.le_of_ble_eq_true rfl, Nat.le_of_ble_eq_true rfl⟩ tb1127 tbs47 0 7 rfl rfl rfl rfl [0, 1, 2, 3, 4, 5, 6, 7, 8, 9, 10, 11, 12, 13] [] rfl rfl rfl rfl rfl (Nat.le_of_ble_eq_true rfl) ⟨Nat.le_of_ble_eq_true rfl, Nat.le_of_ble_eq_true rfl⟩ dX7_luck_55 (fun uq11 H locs hp12 X => ?_)
            have X : Hx D zA zs H locs (mW tk h (u3 (u3 Mt 0 uq11.1) 6 uq11.2) hi la ce) := X
            have hp12 : RK (Mt 0) uq11.1 := hp12
            have hr := hp12
            refine lv_goto (tgt := 64) hx hb dX7_luck_58 (by decide) ?_
            exact hE (v := meanS (pgv Mt 0) xq yq wq (2 ^ zq) pq) (uq11.1, uq11.2) (by simp only [a_luck, c2, c4, c6, c8, c10, tn_nI (k := xq) (by omega), tn_nI (k := yq) (by omega), tn_nI (k := zq) (by omega), tn_nI (k := wq) (by omega), tn_nI (k := pq) (by omega), pv80, pv81, pv82, pv83, pv0, pv1, pv2, pv3, pv4, pv5, pv6, pv7, eq_self, ne01, ne02, ne03, ne04, ne05, ne10, ne12, ne13, ne14, ne15, ne20, ne21, ne23, ne24, ne25, ne30, ne31, ne32, ne34, ne35, ne40, ne41, ne42, ne43, ne45, ne50, ne51, ne52, ne53, ne54, if_true, if_false, Bool.false_eq_true, Bool.and_self, Bool.and_true, Bool.and_false, Bool.true_and, Bool.false_and, Bool.not_true, Bool.not_false, decide_true, decide_false] <;> rfl) (by first | exact hr | exact RK.rf _) X dX7_luck_64
set_option maxHeartbeats 4000000 in
set_option maxRecDepth 100000 in
theorem c_X7_mean (l : Launch) (D : va_G) (tk : Nat → ClassId) (h : Nat → Nat) (Mt : Nat → Nat → Nat) (hi : Int32) (la ce : Nat → Int32) (x y z w : Int32) (hW : VW (pgv Mt 0)) : MX l yX7_mean cX7_mean 5 (some .long) ⟨4, 0, 0, 105⟩ D (TYS tk) [.ref (h 0), .int x, .int y, .int z, .int w] (mW tk h Mt hi la ce) (fun (u : (Nat → Nat) × (Nat → Nat)) => RK (Mt 0) u.1) (fun u => some (.long (a_mean (pgv Mt 0) x y z w))) (fun u => mW tk h (u3 (u3 Mt 0 u.1) 6 u.2) hi la ce) 0 0 := by
  refine MX.of_l (by decide) rfl ?_
  intro zp ze zs zm za zb zt zc zA zQ ls C0 hnm X hl hE
  have hx := C0.1
  have hb := C0.2.1
  have ht := C0.2.2.2.2.1
  have X : Hx D zA zs zs.heap [] (mW tk h Mt hi la ce) := X
  have hl : lv_has ls 5 [(0, .ref (h 0)), (1, .int x), (2, .int y), (3, .int z), (4, .int w)] := hl
  obtain ⟨hv1, hv2, hv3, hv4, hv5, hv6, hv7⟩ := id hW
  have hb1 : Mt 20 0 ≤ 6 := hv1
  have hb2 : Mt 0 42 ≤ 9 := hv2
  have hb3 : Mt 0 43 ≤ 20 := hv3
  have hb4 : Mt 0 62 ≤ 6 := hv4
  have hkd : ∀ t, t < Mt 20 0 → Mt 0 t ≤ 3 := fun t ht => by have q := hv5 t ht; rw [pv0] at q; exact q
  have hrt : ∀ i, i < Mt 0 42 → Mt 0 (6 + i) < Mt 20 0 ∧ Mt 0 (15 + i) < Mt 20 0 ∧ Mt 0 (6 + i) ≠ Mt 0 (15 + i) ∧ 1 ≤ Mt 0 (24 + i) ∧ Mt 0 (24 + i) ≤ 9 ∧ Mt 0 (33 + i) ≤ 1 := fun i hi => hv6 i hi
  have htk : ∀ k, k < Mt 0 62 → Mt 0 (44 + k) ≤ 23 ∧ Mt 0 (50 + k) < Mt 20 0 ∧ 1 ≤ Mt 0 (56 + k) ∧ Mt 0 (56 + k) ≤ 60 := fun k hk => hv7 k hk
  obtain ⟨H, hH⟩ : ∃ H, H = zs.heap := ⟨_, rfl⟩
  rw [← hH] at X ⊢
  obtain ⟨locs, hlo⟩ : ∃ L : List Loc, L = [] := ⟨_, rfl⟩
  rw [← hlo] at X ⊢
  refine lv_iload_n hx hb dX7_mean_0 rfl (lv_at hl 1 rfl) ?_
  refine lv_i2l hx hb dX7_mean_1 rfl ?_
  refine g_lconst (n := 0) C0 rfl dX7_mean_2 ?_
  refine lv_ldc2 (v := lN 10) hx hb C0.2.2.2.1 (ht _ tb1124) dX7_mean_3 ?_
  refine g_callS (As := [.long (Int32.toInt64 x), .long (lN 0), .long (lN 10)]) (rest := []) (wr := (mW tk h Mt hi la ce)) (C0.sz hl) X (c_X7_in l D tk (Int32.toInt64 x) (lN 0) (lN 10)) ⟨tb885, tb887, tb8, ⟨by decide, by decide, rfl⟩, rfl, rfl, Nat.le_of_ble_eq_true rfl, Nat.le_of_ble_eq_true rfl⟩ tb886 rfl [] [0, 1, 2, 3, 4, 5, 6, 7, 8, 9, 10, 11, 12, 13] rfl rfl rfl rfl rfl (Nat.le_of_ble_eq_true rfl) ⟨Nat.le_of_ble_eq_true rfl, Nat.le_of_ble_eq_true rfl⟩ dX7_mean_6 (fun _ H locs _ X => ?_)
  have X : Hx D zA zs H locs (mW tk h Mt hi la ce) := X
  refine g_top (y := nI (rb (rg x 0 10))) (by rw [inL_rg x (by first | decide | omega) (by first | decide | omega)]) ?_
  refine g_ifeqB (x := rg x 0 10) (tgt := 52) C0 dX7_mean_9 rfl (fun c1 => ?_) (fun c2 => ?_)
  · refine lv_ldc2 (v := (-1 : Int64)) hx hb C0.2.2.2.1 (ht _ tb1132) dX7_mean_52 ?_
    exact hE (v := (-1 : Int64)) (Mt 0, Mt 6) (by simp only [a_mean, c1, pv80, pv81, pv82, pv83, pv0, pv1, pv2, pv3, pv4, pv5, pv6, pv7, eq_self, ne01, ne02, ne03, ne04, ne05, ne10, ne12, ne13, ne14, ne15, ne20, ne21, ne23, ne24, ne25, ne30, ne31, ne32, ne34, ne35, ne40, ne41, ne42, ne43, ne45, ne50, ne51, ne52, ne53, ne54, if_true, if_false, Bool.false_eq_true, Bool.and_self, Bool.and_true, Bool.and_false, Bool.true_and, Bool.false_and, Bool.not_true, Bool.not_false, decide_true, decide_false] <;> rfl) (by first | exact hr | exact RK.rf _) X dX7_mean_55
  · obtain ⟨xq, hk_xqa, hk_xqb, hk_xqc, rfl⟩ := rg_sp c2
    refine lv_aload_n hx hb dX7_mean_12 rfl (lv_at hl 0 rfl) ?_
    refine lv_iload_n hx hb dX7_mean_13 rfl (lv_at hl 2 rfl) ?_
    refine g_callV (As := [.int y]) (rest := []) (wr := []) (C0.sz hl) X (c_X7_isTree l D tk h Mt hi la ce y (by first | assumption | omega)) ⟨tb980, tb983, tb8, ⟨by decide, by decide, rfl⟩, rfl, rfl, Nat.le_of_ble_eq_true rfl, Nat.le_of_ble_eq_true rfl⟩ tb982 tbs37 0 7 rfl rfl rfl rfl [0, 1, 2, 3, 4, 5, 6, 7, 8, 9, 10, 11, 12, 13] [] rfl rfl rfl rfl rfl (Nat.le_of_ble_eq_true rfl) ⟨Nat.le_of_ble_eq_true rfl, Nat.le_of_ble_eq_true rfl⟩ dX7_mean_14 (fun _ H locs _ X => ?_)
    have X : Hx D zA zs H locs (mW tk h Mt hi la ce) := X
    refine g_ifeqB (x := ix y (Mt 20 0)) (tgt := 52) C0 dX7_mean_17 rfl (fun c3 => ?_) (fun c4 => ?_)
    · refine lv_ldc2 (v := (-1 : Int64)) hx hb C0.2.2.2.1 (ht _ tb1132) dX7_mean_52 ?_
      exact hE (v := (-1 : Int64)) (Mt 0, Mt 6) (by simp only [a_mean, c2, c3, tn_nI (k := xq) (by omega), pv80, pv81, pv82, pv83, pv0, pv1, pv2, pv3, pv4, pv5, pv6, pv7, eq_self, ne01, ne02, ne03, ne04, ne05, ne10, ne12, ne13, ne14, ne15, ne20, ne21, ne23, ne24, ne25, ne30, ne31, ne32, ne34, ne35, ne40, ne41, ne42, ne43, ne45, ne50, ne51, ne52, ne53, ne54, if_true, if_false, Bool.false_eq_true, Bool.and_self, Bool.and_true, Bool.and_false, Bool.true_and, Bool.false_and, Bool.not_true, Bool.not_false, decide_true, decide_false] <;> rfl) (by first | exact hr | exact RK.rf _) X dX7_mean_55
    · obtain ⟨yq, hk_yq, rfl⟩ := ix_sp c4
      refine lv_iload_n hx hb dX7_mean_20 rfl (lv_at hl 3 rfl) ?_
      refine g_callS (As := [.int z]) (rest := []) (wr := (mW tk h Mt hi la ce)) (C0.sz hl) X (c_X7_isBreath l D tk z) ⟨tb1009, tb1011, tb8, ⟨by decide, by decide, rfl⟩, rfl, rfl, Nat.le_of_ble_eq_true rfl, Nat.le_of_ble_eq_true rfl⟩ tb1010 rfl [] [0, 1, 2, 3, 4, 5, 6, 7, 8, 9, 10, 11, 12, 13] rfl rfl rfl rfl rfl (Nat.le_of_ble_eq_true rfl) ⟨Nat.le_of_ble_eq_true rfl, Nat.le_of_ble_eq_true rfl⟩ dX7_mean_21 (fun _ H locs _ X => ?_)
      have X : Hx D zA zs H locs (mW tk h Mt hi la ce) := X
      refine g_ifeqB (x := rg z 1 60) (tgt := 52) C0 dX7_mean_24 rfl (fun c5 => ?_) (fun c6 => ?_)
      · refine lv_ldc2 (v := (-1 : Int64)) hx hb C0.2.2.2.1 (ht _ tb1132) dX7_mean_52 ?_
        exact hE (v := (-1 : Int64)) (Mt 0, Mt 6) (by simp only [a_mean, c2, c4, c5, tn_nI (k := xq) (by omega), tn_nI (k := yq) (by omega), pv80, pv81, pv82, pv83, pv0, pv1, pv2, pv3, pv4, pv5, pv6, pv7, eq_self, ne01, ne02, ne03, ne04, ne05, ne10, ne12, ne13, ne14, ne15, ne20, ne21, ne23, ne24, ne25, ne30, ne31, ne32, ne34, ne35, ne40, ne41, ne42, ne43, ne45, ne50, ne51, ne52, ne53, ne54, if_true, if_false, Bool.false_eq_true, Bool.and_self, Bool.and_true, Bool.and_false, Bool.true_and, Bool.false_and, Bool.not_true, Bool.not_false, decide_true, decide_false] <;> rfl) (by first | exact hr | exact RK.rf _) X dX7_mean_55
      · obtain ⟨zq, hk_zqa, hk_zqb, hk_zqc, rfl⟩ := rg_sp c6
        refine lv_iload hx hb dX7_mean_27 (lv_at hl 4 rfl) ?_
        refine lv_i2l hx hb dX7_mean_29 rfl ?_
        refine g_lconst (n := 0) C0 rfl dX7_mean_30 ?_
        refine g_lconst (n := 1) C0 rfl dX7_mean_31 ?_
        refine g_callS (As := [.long (Int32.toInt64 w), .long (lN 0), .long (lN 1)]) (rest := []) (wr := (mW tk h Mt hi la ce)) (C0.sz hl) X (c_X7_in l D tk (Int32.toInt64 w) (lN 0) (lN 1)) ⟨tb885, tb887, tb8, ⟨by decide, by decide, rfl⟩, rfl, rfl, Nat.le_of_ble_eq_true rfl, Nat.le_of_ble_eq_true rfl⟩ tb886 rfl [] [0, 1, 2, 3, 4, 5, 6, 7, 8, 9, 10, 11, 12, 13] rfl rfl rfl rfl rfl (Nat.le_of_ble_eq_true rfl) ⟨Nat.le_of_ble_eq_true rfl, Nat.le_of_ble_eq_true rfl⟩ dX7_mean_32 (fun _ H locs _ X => ?_)
        have X : Hx D zA zs H locs (mW tk h Mt hi la ce) := X
        refine g_top (y := nI (rb (rg w 0 1))) (by rw [inL_rg w (by first | decide | omega) (by first | decide | omega)]) ?_
        refine g_ifeqB (x := rg w 0 1) (tgt := 52) C0 dX7_mean_35 rfl (fun c7 => ?_) (fun c8 => ?_)
        · refine lv_ldc2 (v := (-1 : Int64)) hx hb C0.2.2.2.1 (ht _ tb1132) dX7_mean_52 ?_
          exact hE (v := (-1 : Int64)) (Mt 0, Mt 6) (by simp only [a_mean, c2, c4, c6, c7, tn_nI (k := xq) (by omega), tn_nI (k := yq) (by omega), tn_nI (k := zq) (by omega), pv80, pv81, pv82, pv83, pv0, pv1, pv2, pv3, pv4, pv5, pv6, pv7, eq_self, ne01, ne02, ne03, ne04, ne05, ne10, ne12, ne13, ne14, ne15, ne20, ne21, ne23, ne24, ne25, ne30, ne31, ne32, ne34, ne35, ne40, ne41, ne42, ne43, ne45, ne50, ne51, ne52, ne53, ne54, if_true, if_false, Bool.false_eq_true, Bool.and_self, Bool.and_true, Bool.and_false, Bool.true_and, Bool.false_and, Bool.not_true, Bool.not_false, decide_true, decide_false] <;> rfl) (by first | exact hr | exact RK.rf _) X dX7_mean_55
        · obtain ⟨wq, hk_wqa, hk_wqb, hk_wqc, rfl⟩ := rg_sp c8
          refine lv_aload_n hx hb dX7_mean_38 rfl (lv_at hl 0 rfl) ?_
          refine lv_iload_n hx hb dX7_mean_39 rfl (lv_at hl 1 rfl) ?_
          refine lv_iload_n hx hb dX7_mean_40 rfl (lv_at hl 2 rfl) ?_
          refine lv_bipush (v := (-4)) hx hb dX7_mean_41 (by decide) ?_
          refine lv_iload_n hx hb dX7_mean_43 rfl (lv_at hl 3 rfl) ?_
          refine lv_iload hx hb dX7_mean_44 (lv_at hl 4 rfl) ?_
          refine g_callV (As := [.int (nI xq), .int (nI yq), .int (-4), .int (nI zq), .int (nI wq)]) (rest := []) (wr := []) (C0.sz hl) X (c_byB_m l D tk h Mt hi la ce xq yq zq wq (by exact hW) (by omega) (by omega) (by omega) (by omega)) ⟨tb1125, tb1128, tb8, ⟨by decide, by decide, rfl⟩, rfl, rfl, Nat.le_of_ble_eq_true rfl, Nat.le_of_ble_eq_true rfl⟩ tb1127 tbs47 0 7 rfl rfl rfl rfl [0, 1, 2, 3, 4, 5, 6, 7, 8, 9, 10, 11, 12, 13] [] rfl rfl rfl rfl rfl (Nat.le_of_ble_eq_true rfl) ⟨Nat.le_of_ble_eq_true rfl, Nat.le_of_ble_eq_true rfl⟩ dX7_mean_46 (fun uq9 H locs hp10 X => ?_)
          have X : Hx D zA zs H locs (mW tk h (u3 (u3 Mt 0 uq9.1) 6 uq9.2) hi la ce) := X
          have hp10 : RK (Mt 0) uq9.1 := hp10
          have hr := hp10
          refine lv_goto (tgt := 55) hx hb dX7_mean_49 (by decide) ?_
          exact hE (v := meanS (pgv Mt 0) xq yq zq (2 ^ Mt 20 0 - 1) wq) (uq9.1, uq9.2) (by simp only [a_mean, c2, c4, c6, c8, tn_nI (k := xq) (by omega), tn_nI (k := yq) (by omega), tn_nI (k := zq) (by omega), tn_nI (k := wq) (by omega), pv80, pv81, pv82, pv83, pv0, pv1, pv2, pv3, pv4, pv5, pv6, pv7, eq_self, ne01, ne02, ne03, ne04, ne05, ne10, ne12, ne13, ne14, ne15, ne20, ne21, ne23, ne24, ne25, ne30, ne31, ne32, ne34, ne35, ne40, ne41, ne42, ne43, ne45, ne50, ne51, ne52, ne53, ne54, if_true, if_false, Bool.false_eq_true, Bool.and_self, Bool.and_true, Bool.and_false, Bool.true_and, Bool.false_and, Bool.not_true, Bool.not_false, decide_true, decide_false] <;> rfl) (by first | exact hr | exact RK.rf _) X dX7_mean_55
set_option maxHeartbeats 4000000 in
set_option maxRecDepth 100000 in
theorem c_X7_see (l : Launch) (D : va_G) (tk : Nat → ClassId) (h : Nat → Nat) (Mt : Nat → Nat → Nat) (hi : Int32) (la ce : Nat → Int32) (x y : Int32) (hW : VW (pgv Mt 0)) (hn : Mt 20 11 ≤ 6) : MX l yX7_see cX7_see 3 (some .int) ⟨2, 0, 0, 46⟩ D (TYS tk) [.ref (h 0), .int x, .int y] (mW tk h Mt hi la ce) (fun (_ : Unit) => True) (fun _ => some (.int (a_see (pgv Mt 0) (Mt 20 11) x y))) (fun _ => mW tk h (seeM Mt x y) hi la ce) 0 0 := by
  refine MX.of_i (by decide) rfl ?_
  intro zp ze zs zm za zb zt zc zA zQ ls C0 hnm X hl hE
  have hx := C0.1
  have hb := C0.2.1
  have ht := C0.2.2.2.2.1
  have X : Hx D zA zs zs.heap [] (mW tk h Mt hi la ce) := X
  have hl : lv_has ls 3 [(0, .ref (h 0)), (1, .int x), (2, .int y)] := hl
  obtain ⟨hv1, hv2, hv3, hv4, hv5, hv6, hv7⟩ := id hW
  have hb1 : Mt 20 0 ≤ 6 := hv1
  have hb2 : Mt 0 42 ≤ 9 := hv2
  have hb3 : Mt 0 43 ≤ 20 := hv3
  have hb4 : Mt 0 62 ≤ 6 := hv4
  have hkd : ∀ t, t < Mt 20 0 → Mt 0 t ≤ 3 := fun t ht => by have q := hv5 t ht; rw [pv0] at q; exact q
  have hrt : ∀ i, i < Mt 0 42 → Mt 0 (6 + i) < Mt 20 0 ∧ Mt 0 (15 + i) < Mt 20 0 ∧ Mt 0 (6 + i) ≠ Mt 0 (15 + i) ∧ 1 ≤ Mt 0 (24 + i) ∧ Mt 0 (24 + i) ≤ 9 ∧ Mt 0 (33 + i) ≤ 1 := fun i hi => hv6 i hi
  have htk : ∀ k, k < Mt 0 62 → Mt 0 (44 + k) ≤ 23 ∧ Mt 0 (50 + k) < Mt 20 0 ∧ 1 ≤ Mt 0 (56 + k) ∧ Mt 0 (56 + k) ≤ 60 := fun k hk => hv7 k hk
  obtain ⟨H, hH⟩ : ∃ H, H = zs.heap := ⟨_, rfl⟩
  rw [← hH] at X ⊢
  obtain ⟨locs, hlo⟩ : ∃ L : List Loc, L = [] := ⟨_, rfl⟩
  rw [← hlo] at X ⊢
  refine lv_aload_n hx hb dX7_see_0 rfl (lv_at hl 0 rfl) ?_
  refine lv_iload_n hx hb dX7_see_1 rfl (lv_at hl 1 rfl) ?_
  refine g_callV (As := [.int x]) (rest := []) (wr := []) (C0.sz hl) X (c_X7_isTree l D tk h Mt hi la ce x (by first | assumption | omega)) ⟨tb980, tb983, tb8, ⟨by decide, by decide, rfl⟩, rfl, rfl, Nat.le_of_ble_eq_true rfl, Nat.le_of_ble_eq_true rfl⟩ tb982 tbs37 0 7 rfl rfl rfl rfl [0, 1, 2, 3, 4, 5, 6, 7, 8, 9, 10, 11, 12, 13] [] rfl rfl rfl rfl rfl (Nat.le_of_ble_eq_true rfl) ⟨Nat.le_of_ble_eq_true rfl, Nat.le_of_ble_eq_true rfl⟩ dX7_see_2 (fun _ H locs _ X => ?_)
  have X : Hx D zA zs H locs (mW tk h Mt hi la ce) := X
  refine g_ifeqB (x := ix x (Mt 20 0)) (tgt := 20) C0 dX7_see_5 rfl (fun c1 => ?_) (fun c2 => ?_)
  · refine lv_iconst (v := (-1)) hx hb dX7_see_20 (by decide) ?_
    exact hE (v := (-1)) () (by simp only [a_see, c1, pv80, pv81, pv82, pv83, pv0, pv1, pv2, pv3, pv4, pv5, pv6, pv7, eq_self, ne01, ne02, ne03, ne04, ne05, ne10, ne12, ne13, ne14, ne15, ne20, ne21, ne23, ne24, ne25, ne30, ne31, ne32, ne34, ne35, ne40, ne41, ne42, ne43, ne45, ne50, ne51, ne52, ne53, ne54, if_true, if_false, Bool.false_eq_true, Bool.and_self, Bool.and_true, Bool.and_false, Bool.true_and, Bool.false_and, Bool.not_true, Bool.not_false, decide_true, decide_false] <;> rfl) trivial (X.to (by simp only [seeM, c1, pv80, pv81, pv82, pv83, pv0, pv1, pv2, pv3, pv4, pv5, pv6, pv7, eq_self, ne01, ne02, ne03, ne04, ne05, ne10, ne12, ne13, ne14, ne15, ne20, ne21, ne23, ne24, ne25, ne30, ne31, ne32, ne34, ne35, ne40, ne41, ne42, ne43, ne45, ne50, ne51, ne52, ne53, ne54, if_true, if_false, Bool.false_eq_true, Bool.and_self, Bool.and_true, Bool.and_false, Bool.true_and, Bool.false_and, Bool.not_true, Bool.not_false, decide_true, decide_false] <;> rfl)) dX7_see_21
  · obtain ⟨xq, hk_xq, rfl⟩ := ix_sp c2
    refine lv_iload_n hx hb dX7_see_8 rfl (lv_at hl 2 rfl) ?_
    refine lv_i2l hx hb dX7_see_9 rfl ?_
    refine g_lconst (n := 0) C0 rfl dX7_see_10 ?_
    refine lv_ldc2 (v := lN 120) hx hb C0.2.2.2.1 (ht _ tb1141) dX7_see_11 ?_
    refine g_callS (As := [.long (Int32.toInt64 y), .long (lN 0), .long (lN 120)]) (rest := []) (wr := (mW tk h Mt hi la ce)) (C0.sz hl) X (c_X7_in l D tk (Int32.toInt64 y) (lN 0) (lN 120)) ⟨tb885, tb887, tb8, ⟨by decide, by decide, rfl⟩, rfl, rfl, Nat.le_of_ble_eq_true rfl, Nat.le_of_ble_eq_true rfl⟩ tb886 rfl [] [0, 1, 2, 3, 4, 5, 6, 7, 8, 9, 10, 11, 12, 13] rfl rfl rfl rfl rfl (Nat.le_of_ble_eq_true rfl) ⟨Nat.le_of_ble_eq_true rfl, Nat.le_of_ble_eq_true rfl⟩ dX7_see_14 (fun _ H locs _ X => ?_)
    have X : Hx D zA zs H locs (mW tk h Mt hi la ce) := X
    refine g_top (y := nI (rb (rg y 0 120))) (by rw [inL_rg y (by first | decide | omega) (by first | decide | omega)]) ?_
    refine g_ifneB (x := rg y 0 120) (tgt := 22) C0 dX7_see_17 rfl (fun c3 => ?_) (fun c4 => ?_)
    · obtain ⟨yq, hk_yqa, hk_yqb, hk_yqc, rfl⟩ := rg_sp c3
      refine lv_aload_n hx hb dX7_see_22 rfl (lv_at hl 0 rfl) ?_
      refine g_get (v := .int (nI (Mt 20 11))) C0 X kX7 0 20 tb817 rfl rfl rfl dX7_see_23 ?_
      refine g_bipush (n := 6) C0 (by decide) dX7_see_26 ?_
      refine g_icmp_ne (x := Mt 20 11) (y := 6) (tgt := 34) C0 (by omega) (by omega) dX7_see_28 rfl (fun c5 => ?_) (fun c6 => ?_)
      · refine lv_aload_n hx hb dX7_see_34 rfl (lv_at hl 0 rfl) ?_
        refine g_get (v := .ref (h 8)) C0 X kX7 0 19 tb816 rfl rfl rfl dX7_see_35 ?_
        refine g_iconst (n := 2) C0 rfl dX7_see_38 ?_
        refine lv_aload_n hx hb dX7_see_39 rfl (lv_at hl 0 rfl) ?_
        refine g_get (v := .int (nI (Mt 20 11))) C0 X kX7 0 20 tb817 rfl rfl rfl dX7_see_40 ?_
        refine g_imul (n := 2 * (Mt 20 11)) C0 rfl dX7_see_43 ?_
        refine lv_iload_n hx hb dX7_see_44 rfl (lv_at hl 1 rfl) ?_
        refine g_iast (g := nf (u1 (Mt 8) (2 * (Mt 20 11)) xq)) (i := 2 * (Mt 20 11)) C0 X 8 0 rfl rfl (by omega) rfl (nf_u1 _ _ _) dX7_see_45 (fun H locs X => ?_)
        have X : Hx D zA zs H locs (mW tk h (u2 Mt 8 (2 * (Mt 20 11)) xq) hi la ce) := X
        refine lv_aload_n hx hb dX7_see_46 rfl (lv_at hl 0 rfl) ?_
        refine g_get (v := .ref (h 8)) C0 X kX7 0 19 tb816 rfl rfl rfl dX7_see_47 ?_
        refine g_iconst (n := 2) C0 rfl dX7_see_50 ?_
        refine lv_aload_n hx hb dX7_see_51 rfl (lv_at hl 0 rfl) ?_
        refine g_get (v := .int (nI (Mt 20 11))) C0 X kX7 0 20 tb817 rfl rfl rfl dX7_see_52 ?_
        refine g_imul (n := 2 * (Mt 20 11)) C0 rfl dX7_see_55 ?_
        refine g_iconst (n := 1) C0 rfl dX7_see_56 ?_
        refine g_iadd (n := (2 * (Mt 20 11)) + 1) C0 (by first | rfl | omega) dX7_see_57 ?_
        refine lv_iload_n hx hb dX7_see_58 rfl (lv_at hl 2 rfl) ?_
        refine g_iast (g := nf (u1 (u1 (Mt 8) (2 * (Mt 20 11)) xq) ((2 * (Mt 20 11)) + 1) yq)) (i := (2 * (Mt 20 11)) + 1) C0 X 8 0 rfl rfl (by omega) rfl (nf_u1 _ _ _) dX7_see_59 (fun H locs X => ?_)
        have X : Hx D zA zs H locs (mW tk h (u2 (u2 Mt 8 (2 * (Mt 20 11)) xq) 8 ((2 * (Mt 20 11)) + 1) yq) hi la ce) := X
        refine lv_aload_n hx hb dX7_see_60 rfl (lv_at hl 0 rfl) ?_
        refine lv_dup hx hb dX7_see_61 rfl ?_
        refine g_get (v := .int (nI (Mt 20 11))) C0 X kX7 0 20 tb817 rfl rfl rfl dX7_see_62 ?_
        refine g_iconst (n := 1) C0 rfl dX7_see_65 ?_
        refine g_iadd (n := Mt 20 11 + 1) C0 (by first | rfl | omega) dX7_see_66 ?_
        refine g_put (v := .int (nI (Mt 20 11 + 1))) (ft := .int) C0 X kX7 0 20 tb817 rfl rfl rfl rfl rfl rfl rfl dX7_see_67 (fun H locs X => ?_)
        have X : Hx D zA zs H locs (mW tk h (u2 (u2 (u2 Mt 8 (2 * (Mt 20 11)) xq) 8 ((2 * (Mt 20 11)) + 1) yq) 20 11 (Mt 20 11 + 1)) hi la ce) := X
        refine lv_aload_n hx hb dX7_see_70 rfl (lv_at hl 0 rfl) ?_
        refine g_get (v := .int (nI (Mt 20 11 + 1))) C0 X kX7 0 20 tb817 rfl rfl rfl dX7_see_71 ?_
        exact hE (v := nI (Mt 20 11 + 1)) () (by simp only [a_see, c2, c3, pv80, Bool.and_self, if_true]; rw [if_pos (show Mt 20 11 < 6 by omega)]) trivial (X.to (by rw [seeM, if_pos (by rw [c2, c3]; rfl), if_pos (show Mt 20 11 < 6 by omega), tn_nI (k := xq) (by omega), tn_nI (k := yq) (by omega)])) dX7_see_74
      · refine lv_bipush (v := (-3)) hx hb dX7_see_31 (by decide) ?_
        exact hE (v := (-3)) () (by simp only [a_see, c2, c3, pv80, Bool.and_self, if_true]; rw [if_neg (show ¬ Mt 20 11 < 6 by omega)]) trivial (X.to (by rw [seeM, if_pos (by rw [c2, c3]; rfl), if_neg (show ¬ Mt 20 11 < 6 by omega)])) dX7_see_33
    · refine lv_iconst (v := (-1)) hx hb dX7_see_20 (by decide) ?_
      exact hE (v := (-1)) () (by simp only [a_see, c2, c4, tn_nI (k := xq) (by omega), pv80, pv81, pv82, pv83, pv0, pv1, pv2, pv3, pv4, pv5, pv6, pv7, eq_self, ne01, ne02, ne03, ne04, ne05, ne10, ne12, ne13, ne14, ne15, ne20, ne21, ne23, ne24, ne25, ne30, ne31, ne32, ne34, ne35, ne40, ne41, ne42, ne43, ne45, ne50, ne51, ne52, ne53, ne54, if_true, if_false, Bool.false_eq_true, Bool.and_self, Bool.and_true, Bool.and_false, Bool.true_and, Bool.false_and, Bool.not_true, Bool.not_false, decide_true, decide_false] <;> rfl) trivial (X.to (by simp only [seeM, c2, c4, tn_nI (k := xq) (by omega), pv80, pv81, pv82, pv83, pv0, pv1, pv2, pv3, pv4, pv5, pv6, pv7, eq_self, ne01, ne02, ne03, ne04, ne05, ne10, ne12, ne13, ne14, ne15, ne20, ne21, ne23, ne24, ne25, ne30, ne31, ne32, ne34, ne35, ne40, ne41, ne42, ne43, ne45, ne50, ne51, ne52, ne53, ne54, if_true, if_false, Bool.false_eq_true, Bool.and_self, Bool.and_true, Bool.and_false, Bool.true_and, Bool.false_and, Bool.not_true, Bool.not_false, decide_true, decide_false] <;> rfl)) dX7_see_21
set_option maxHeartbeats 4000000 in
set_option maxRecDepth 100000 in
theorem c_X7_forget (l : Launch) (D : va_G) (tk : Nat → ClassId) (h : Nat → Nat) (Mt : Nat → Nat → Nat) (hi : Int32) (la ce : Nat → Int32) (x : Int32) (hW : VW (pgv Mt 0)) (hn : Mt 20 11 ≤ 6) : MX l yX7_forget cX7_forget 3 (some .int) ⟨1, 0, 0, 25⟩ D (TYS tk) [.ref (h 0), .int x] (mW tk h Mt hi la ce) (fun (_ : Unit) => True) (fun _ => some (.int (a_forget (Mt 20 11) x))) (fun _ => mW tk h (forgetM Mt x) hi la ce) 0 0 := by
  refine MX.of_i (by decide) rfl ?_
  intro zp ze zs zm za zb zt zc zA zQ ls C0 hnm X hl hE
  have hx := C0.1
  have hb := C0.2.1
  have ht := C0.2.2.2.2.1
  have X : Hx D zA zs zs.heap [] (mW tk h Mt hi la ce) := X
  have hl : lv_has ls 3 [(0, .ref (h 0)), (1, .int x)] := hl
  obtain ⟨hv1, hv2, hv3, hv4, hv5, hv6, hv7⟩ := id hW
  have hb1 : Mt 20 0 ≤ 6 := hv1
  have hb2 : Mt 0 42 ≤ 9 := hv2
  have hb3 : Mt 0 43 ≤ 20 := hv3
  have hb4 : Mt 0 62 ≤ 6 := hv4
  have hkd : ∀ t, t < Mt 20 0 → Mt 0 t ≤ 3 := fun t ht => by have q := hv5 t ht; rw [pv0] at q; exact q
  have hrt : ∀ i, i < Mt 0 42 → Mt 0 (6 + i) < Mt 20 0 ∧ Mt 0 (15 + i) < Mt 20 0 ∧ Mt 0 (6 + i) ≠ Mt 0 (15 + i) ∧ 1 ≤ Mt 0 (24 + i) ∧ Mt 0 (24 + i) ≤ 9 ∧ Mt 0 (33 + i) ≤ 1 := fun i hi => hv6 i hi
  have htk : ∀ k, k < Mt 0 62 → Mt 0 (44 + k) ≤ 23 ∧ Mt 0 (50 + k) < Mt 20 0 ∧ 1 ≤ Mt 0 (56 + k) ∧ Mt 0 (56 + k) ≤ 60 := fun k hk => hv7 k hk
  obtain ⟨H, hH⟩ : ∃ H, H = zs.heap := ⟨_, rfl⟩
  rw [← hH] at X ⊢
  obtain ⟨locs, hlo⟩ : ∃ L : List Loc, L = [] := ⟨_, rfl⟩
  rw [← hlo] at X ⊢
  refine lv_iload_n hx hb dX7_forget_0 rfl (lv_at hl 1 rfl) ?_
  refine lv_i2l hx hb dX7_forget_1 rfl ?_
  refine g_lconst (n := 0) C0 rfl dX7_forget_2 ?_
  refine lv_aload_n hx hb dX7_forget_3 rfl (lv_at hl 0 rfl) ?_
  refine g_get (v := .int (nI (Mt 20 11))) C0 X kX7 0 20 tb817 rfl rfl rfl dX7_forget_4 ?_
  refine g_i2l C0 (by omega) dX7_forget_7 ?_
  refine g_callS (As := [.long (Int32.toInt64 x), .long (lN 0), .long (lN (Mt 20 11))]) (rest := []) (wr := (mW tk h Mt hi la ce)) (C0.sz hl) X (c_X7_in l D tk (Int32.toInt64 x) (lN 0) (lN (Mt 20 11))) ⟨tb885, tb887, tb8, ⟨by decide, by decide, rfl⟩, rfl, rfl, Nat.le_of_ble_eq_true rfl, Nat.le_of_ble_eq_true rfl⟩ tb886 rfl [] [0, 1, 2, 3, 4, 5, 6, 7, 8, 9, 10, 11, 12, 13] rfl rfl rfl rfl rfl (Nat.le_of_ble_eq_true rfl) ⟨Nat.le_of_ble_eq_true rfl, Nat.le_of_ble_eq_true rfl⟩ dX7_forget_8 (fun _ H locs _ X => ?_)
  have X : Hx D zA zs H locs (mW tk h Mt hi la ce) := X
  refine g_top (y := nI (rb (rg x 0 (Mt 20 11)))) (by rw [inL_rg x (by first | decide | omega) (by first | decide | omega)]) ?_
  refine g_ifneB (x := rg x 0 (Mt 20 11)) (tgt := 16) C0 dX7_forget_11 rfl (fun c1 => ?_) (fun c2 => ?_)
  · obtain ⟨xq, hk_xqa, hk_xqb, hk_xqc, rfl⟩ := rg_sp c1
    refine lv_aload_n hx hb dX7_forget_16 rfl (lv_at hl 0 rfl) ?_
    refine g_get (v := .int (nI (Mt 20 11))) C0 X kX7 0 20 tb817 rfl rfl rfl dX7_forget_17 ?_
    refine lv_istore_n (lv' := [(2, .int (nI (Mt 20 11))), (0, .ref (h 0)), (1, .int (nI xq))]) hx hb dX7_forget_20 rfl hl (by decide) rfl (fun ls hl => ?_)
    refine lv_aload_n hx hb dX7_forget_21 rfl (lv_at hl 1 rfl) ?_
    refine lv_iload_n hx hb dX7_forget_22 rfl (lv_at hl 2 rfl) ?_
    refine g_put (v := .int (nI xq)) (ft := .int) C0 X kX7 0 20 tb817 rfl rfl rfl rfl rfl rfl rfl dX7_forget_23 (fun H locs X => ?_)
    have X : Hx D zA zs H locs (mW tk h (u2 Mt 20 11 xq) hi la ce) := X
    refine lv_iload_n hx hb dX7_forget_26 rfl (lv_at hl 0 rfl) ?_
    exact hE (v := nI (Mt 20 11)) () (by simp only [a_forget, c1, tn_nI (k := xq) (by omega), if_true, if_false, Bool.false_eq_true, Bool.and_self, Bool.and_true, Bool.and_false, Bool.true_and, Bool.false_and, Bool.not_true, Bool.not_false, decide_true, decide_false]) trivial (X.to (by simp only [forgetM, c1, tn_nI (k := xq) (by omega), if_true, if_false, Bool.false_eq_true, Bool.and_self, Bool.and_true, Bool.and_false, Bool.true_and, Bool.false_and, Bool.not_true, Bool.not_false, decide_true, decide_false])) dX7_forget_27
  · refine lv_iconst (v := (-1)) hx hb dX7_forget_14 (by decide) ?_
    exact hE (v := (-1)) () (by simp only [a_forget, c2, if_true, if_false, Bool.false_eq_true, Bool.and_self, Bool.and_true, Bool.and_false, Bool.true_and, Bool.false_and, Bool.not_true, Bool.not_false, decide_true, decide_false]) trivial (X.to (by simp only [forgetM, c2, if_true, if_false, Bool.false_eq_true, Bool.and_self, Bool.and_true, Bool.and_false, Bool.true_and, Bool.false_and, Bool.not_true, Bool.not_false, decide_true, decide_false])) dX7_forget_15
set_option maxHeartbeats 4000000 in
set_option maxRecDepth 100000 in
theorem c_X7_sayers (l : Launch) (D : va_G) (tk : Nat → ClassId) (h : Nat → Nat) (Mt : Nat → Nat → Nat) (hi : Int32) (la ce : Nat → Int32) (hW : VW (pgv Mt 0)) (hn : Mt 20 11 ≤ 6) (hs : ∀ j, j < Mt 20 11 → Mt 8 (2 * j) < Mt 20 0 ∧ Mt 8 (2 * j + 1) ≤ 120) : MX l yX7_sayers cX7_sayers 1 (some .int) ⟨5, 0, 0, 117⟩ D (TYS tk) [.ref (h 0)] (mW tk h Mt hi la ce) (fun (u : (Nat → Nat)) => True) (fun u => some (.int (nI (sayS (pgv Mt 0) (Mt 20 11) (mpl Mt) (mlo Mt))))) (fun u => mW tk h (u3 Mt 6 u) hi la ce) 0 0 := by
  refine MX.of_i (by decide) rfl ?_
  intro zp ze zs zm za zb zt zc zA zQ ls C0 hnm X hl hE
  have hx := C0.1
  have hb := C0.2.1
  have ht := C0.2.2.2.2.1
  have X : Hx D zA zs zs.heap [] (mW tk h Mt hi la ce) := X
  have hl : lv_has ls 1 [(0, .ref (h 0))] := hl
  obtain ⟨hv1, hv2, hv3, hv4, hv5, hv6, hv7⟩ := id hW
  have hb1 : Mt 20 0 ≤ 6 := hv1
  have hb2 : Mt 0 42 ≤ 9 := hv2
  have hb3 : Mt 0 43 ≤ 20 := hv3
  have hb4 : Mt 0 62 ≤ 6 := hv4
  have hkd : ∀ t, t < Mt 20 0 → Mt 0 t ≤ 3 := fun t ht => by have q := hv5 t ht; rw [pv0] at q; exact q
  have hrt : ∀ i, i < Mt 0 42 → Mt 0 (6 + i) < Mt 20 0 ∧ Mt 0 (15 + i) < Mt 20 0 ∧ Mt 0 (6 + i) ≠ Mt 0 (15 + i) ∧ 1 ≤ Mt 0 (24 + i) ∧ Mt 0 (24 + i) ≤ 9 ∧ Mt 0 (33 + i) ≤ 1 := fun i hi => hv6 i hi
  have htk : ∀ k, k < Mt 0 62 → Mt 0 (44 + k) ≤ 23 ∧ Mt 0 (50 + k) < Mt 20 0 ∧ 1 ≤ Mt 0 (56 + k) ∧ Mt 0 (56 + k) ≤ 60 := fun k hk => hv7 k hk
  obtain ⟨H, hH⟩ : ∃ H, H = zs.heap := ⟨_, rfl⟩
  rw [← hH] at X ⊢
  obtain ⟨locs, hlo⟩ : ∃ L : List Loc, L = [] := ⟨_, rfl⟩
  rw [← hlo] at X ⊢
  refine lv_aload_n hx hb dX7_sayers_0 rfl (lv_at hl 0 rfl) ?_
  refine g_iconst (n := 0) C0 rfl dX7_sayers_1 ?_
  refine g_callV (As := [.int (nI 0)]) (rest := []) (wr := []) (C0.sz hl) X (c_X7_sayersOn l D tk h Mt hi la ce 0 (by first | assumption | omega) (by exact hW) (by exact hn) (by exact hs)) ⟨tb1150, tb1153, tb8, ⟨by decide, by decide, rfl⟩, rfl, rfl, Nat.le_of_ble_eq_true rfl, Nat.le_of_ble_eq_true rfl⟩ tb1152 tbs48 0 7 rfl rfl rfl rfl [0, 1, 2, 3, 4, 5, 6, 7, 8, 9, 10, 11, 12, 13] [] rfl rfl rfl rfl rfl (Nat.le_of_ble_eq_true rfl) ⟨Nat.le_of_ble_eq_true rfl, Nat.le_of_ble_eq_true rfl⟩ dX7_sayers_2 (fun uq1 H locs _ X => ?_)
  have X : Hx D zA zs H locs (mW tk h (u3 Mt 6 uq1) hi la ce) := X
  exact hE (v := nI (sayS (pgv Mt 0) (Mt 20 11) (mpl Mt) (mlo Mt))) (uq1) rfl trivial X dX7_sayers_5
set_option maxHeartbeats 4000000 in
set_option maxRecDepth 100000 in
theorem c_X7_breaths (l : Launch) (D : va_G) (tk : Nat → ClassId) (h : Nat → Nat) (Mt : Nat → Nat → Nat) (hi : Int32) (la ce : Nat → Int32) (x y : Int32) (hW : VW (pgv Mt 0)) (hn : Mt 20 11 ≤ 6) (hs : ∀ j, j < Mt 20 11 → Mt 8 (2 * j) < Mt 20 0 ∧ Mt 8 (2 * j + 1) ≤ 120) : MX l yX7_breaths cX7_breaths 4 (some .int) ⟨4, 0, 0, 94⟩ D (TYS tk) [.ref (h 0), .int x, .int y] (mW tk h Mt hi la ce) (fun (u : (Nat → Nat)) => True) (fun u => some (.int (a_breaths (pgv Mt 0) (Mt 20 11) (mpl Mt) (mlo Mt) x y))) (fun u => mW tk h (u3 Mt 6 u) hi la ce) 0 0 := by
  refine MX.of_i (by decide) rfl ?_
  intro zp ze zs zm za zb zt zc zA zQ ls C0 hnm X hl hE
  have hx := C0.1
  have hb := C0.2.1
  have ht := C0.2.2.2.2.1
  have X : Hx D zA zs zs.heap [] (mW tk h Mt hi la ce) := X
  have hl : lv_has ls 4 [(0, .ref (h 0)), (1, .int x), (2, .int y)] := hl
  obtain ⟨hv1, hv2, hv3, hv4, hv5, hv6, hv7⟩ := id hW
  have hb1 : Mt 20 0 ≤ 6 := hv1
  have hb2 : Mt 0 42 ≤ 9 := hv2
  have hb3 : Mt 0 43 ≤ 20 := hv3
  have hb4 : Mt 0 62 ≤ 6 := hv4
  have hkd : ∀ t, t < Mt 20 0 → Mt 0 t ≤ 3 := fun t ht => by have q := hv5 t ht; rw [pv0] at q; exact q
  have hrt : ∀ i, i < Mt 0 42 → Mt 0 (6 + i) < Mt 20 0 ∧ Mt 0 (15 + i) < Mt 20 0 ∧ Mt 0 (6 + i) ≠ Mt 0 (15 + i) ∧ 1 ≤ Mt 0 (24 + i) ∧ Mt 0 (24 + i) ≤ 9 ∧ Mt 0 (33 + i) ≤ 1 := fun i hi => hv6 i hi
  have htk : ∀ k, k < Mt 0 62 → Mt 0 (44 + k) ≤ 23 ∧ Mt 0 (50 + k) < Mt 20 0 ∧ 1 ≤ Mt 0 (56 + k) ∧ Mt 0 (56 + k) ≤ 60 := fun k hk => hv7 k hk
  obtain ⟨H, hH⟩ : ∃ H, H = zs.heap := ⟨_, rfl⟩
  rw [← hH] at X ⊢
  obtain ⟨locs, hlo⟩ : ∃ L : List Loc, L = [] := ⟨_, rfl⟩
  rw [← hlo] at X ⊢
  refine lv_aload_n hx hb dX7_breaths_0 rfl (lv_at hl 0 rfl) ?_
  refine lv_iload_n hx hb dX7_breaths_1 rfl (lv_at hl 1 rfl) ?_
  refine g_callV (As := [.int x]) (rest := []) (wr := []) (C0.sz hl) X (c_X7_isTree l D tk h Mt hi la ce x (by first | assumption | omega)) ⟨tb980, tb983, tb8, ⟨by decide, by decide, rfl⟩, rfl, rfl, Nat.le_of_ble_eq_true rfl, Nat.le_of_ble_eq_true rfl⟩ tb982 tbs37 0 7 rfl rfl rfl rfl [0, 1, 2, 3, 4, 5, 6, 7, 8, 9, 10, 11, 12, 13] [] rfl rfl rfl rfl rfl (Nat.le_of_ble_eq_true rfl) ⟨Nat.le_of_ble_eq_true rfl, Nat.le_of_ble_eq_true rfl⟩ dX7_breaths_2 (fun _ H locs _ X => ?_)
  have X : Hx D zA zs H locs (mW tk h Mt hi la ce) := X
  refine g_ifeqB (x := ix x (Mt 20 0)) (tgt := 18) C0 dX7_breaths_5 rfl (fun c1 => ?_) (fun c2 => ?_)
  · refine lv_iconst (v := (-1)) hx hb dX7_breaths_18 (by decide) ?_
    exact hE (v := (-1)) (Mt 6) (by simp only [a_breaths, c1, pv80, pv81, pv82, pv83, pv0, pv1, pv2, pv3, pv4, pv5, pv6, pv7, eq_self, ne01, ne02, ne03, ne04, ne05, ne10, ne12, ne13, ne14, ne15, ne20, ne21, ne23, ne24, ne25, ne30, ne31, ne32, ne34, ne35, ne40, ne41, ne42, ne43, ne45, ne50, ne51, ne52, ne53, ne54, if_true, if_false, Bool.false_eq_true, Bool.and_self, Bool.and_true, Bool.and_false, Bool.true_and, Bool.false_and, Bool.not_true, Bool.not_false, decide_true, decide_false] <;> rfl) trivial X dX7_breaths_19
  · obtain ⟨xq, hk_xq, rfl⟩ := ix_sp c2
    refine lv_iload_n hx hb dX7_breaths_8 rfl (lv_at hl 2 rfl) ?_
    refine lv_i2l hx hb dX7_breaths_9 rfl ?_
    refine g_lconst (n := 0) C0 rfl dX7_breaths_10 ?_
    refine g_lconst (n := 1) C0 rfl dX7_breaths_11 ?_
    refine g_callS (As := [.long (Int32.toInt64 y), .long (lN 0), .long (lN 1)]) (rest := []) (wr := (mW tk h Mt hi la ce)) (C0.sz hl) X (c_X7_in l D tk (Int32.toInt64 y) (lN 0) (lN 1)) ⟨tb885, tb887, tb8, ⟨by decide, by decide, rfl⟩, rfl, rfl, Nat.le_of_ble_eq_true rfl, Nat.le_of_ble_eq_true rfl⟩ tb886 rfl [] [0, 1, 2, 3, 4, 5, 6, 7, 8, 9, 10, 11, 12, 13] rfl rfl rfl rfl rfl (Nat.le_of_ble_eq_true rfl) ⟨Nat.le_of_ble_eq_true rfl, Nat.le_of_ble_eq_true rfl⟩ dX7_breaths_12 (fun _ H locs _ X => ?_)
    have X : Hx D zA zs H locs (mW tk h Mt hi la ce) := X
    refine g_top (y := nI (rb (rg y 0 1))) (by rw [inL_rg y (by first | decide | omega) (by first | decide | omega)]) ?_
    refine g_ifneB (x := rg y 0 1) (tgt := 20) C0 dX7_breaths_15 rfl (fun c3 => ?_) (fun c4 => ?_)
    · obtain ⟨yq, hk_yqa, hk_yqb, hk_yqc, rfl⟩ := rg_sp c3
      refine lv_iload_n hx hb dX7_breaths_20 rfl (lv_at hl 2 rfl) ?_
      refine g_ifne (x := yq) (tgt := 31) C0 (by omega) dX7_breaths_21 rfl (fun c5 => ?_) (fun c6 => ?_)
      · refine lv_aload_n hx hb dX7_breaths_31 rfl (lv_at hl 0 rfl) ?_
        refine g_iconst (n := 0) C0 rfl dX7_breaths_32 ?_
        refine lv_iload_n hx hb dX7_breaths_33 rfl (lv_at hl 1 rfl) ?_
        refine g_callV (As := [.int (nI 0), .int (nI xq)]) (rest := []) (wr := []) (C0.sz hl) X (c_X7_waysOn l D tk h Mt hi la ce 0 xq (by first | assumption | omega) (by exact hW) (by first | assumption | omega)) ⟨tb961, tb964, tb8, ⟨by decide, by decide, rfl⟩, rfl, rfl, Nat.le_of_ble_eq_true rfl, Nat.le_of_ble_eq_true rfl⟩ tb963 tbs34 0 7 rfl rfl rfl rfl [0, 1, 2, 3, 4, 5, 6, 7, 8, 9, 10, 11, 12, 13] [] rfl rfl rfl rfl rfl (Nat.le_of_ble_eq_true rfl) ⟨Nat.le_of_ble_eq_true rfl, Nat.le_of_ble_eq_true rfl⟩ dX7_breaths_34 (fun _ H locs _ X => ?_)
        have X : Hx D zA zs H locs (mW tk h (u3 Mt 6 (dist (pgv Mt 0) xq)) hi la ce) := X
        refine g_iconst (n := 1) C0 rfl dX7_breaths_37 ?_
        refine lv_istore_n (lv' := [(3, .int (nI 1)), (0, .ref (h 0)), (1, .int (nI xq)), (2, .int (nI yq))]) hx hb dX7_breaths_38 rfl hl (by decide) rfl (fun ls hl => ?_)
        have J39 : ∀ (fz : Nat) (i : Nat), 61 - i < fz → ∀ (hi1 : 1 ≤ i) (hi2 : i ≤ 61) (hbs : lfind (fun b => fitS (pgv Mt 0) xq b (Mt 20 11) (mpl Mt) (mlo Mt)) 60 1 = lfind (fun b => fitS (pgv Mt 0) xq b (Mt 20 11) (mpl Mt) (mlo Mt)) (61 - i) i) (H : Heap) (locs : List Loc) (ls : Array Slot), Hx D zA zs H locs (mW tk h (u3 Mt 6 (dist (pgv Mt 0) xq)) hi la ce) → lv_has ls 4 [(3, .int (nI i)), (0, .ref (h 0)), (1, .int (nI xq)), (2, .int (nI yq))] → W zp l ze ⟨4, 0, 0, 94⟩ zs zm za zb zt zc H locs 0 0 zQ (F0 zm 39 ls []) := by
          intro fz
          induction fz with
          | zero => intro i hz; exact absurd hz (Nat.not_lt_zero _)
          | succ fz ih39 =>
            intro i hz39 hi1 hi2 hbs H locs ls X hl
            refine lv_iload_n hx hb dX7_breaths_39 rfl (lv_at hl 0 rfl) ?_
            refine g_bipush (n := 60) C0 (by decide) dX7_breaths_40 ?_
            refine g_icmp_gt (x := i) (y := 60) (tgt := 62) C0 (by omega) (by omega) dX7_breaths_42 rfl (fun c7 => ?_) (fun c8 => ?_)
            · refine lv_bipush (v := (-4)) hx hb dX7_breaths_62 (by decide) ?_
              exact hE (v := (-4)) (dist (pgv Mt 0) xq) (by rw [a_breaths, if_pos (by rw [pv80, c2, c3]; rfl), tn_nI (k := xq) (by omega), tn_nI (k := yq) (by omega), if_neg (by omega), hbs, show 61 - i = 0 by omega]; rfl) trivial X dX7_breaths_64
            · refine lv_aload_n hx hb dX7_breaths_45 rfl (lv_at hl 1 rfl) ?_
              refine g_iconst (n := 0) C0 rfl dX7_breaths_46 ?_
              refine lv_iload_n hx hb dX7_breaths_47 rfl (lv_at hl 0 rfl) ?_
              refine g_callV (As := [.int (nI 0), .int (nI i)]) (rest := []) (wr := []) (C0.sz hl) X (c_X7_isAsSeen l D tk h (u3 Mt 6 (dist (pgv Mt 0) xq)) hi la ce 0 i (by first | assumption | omega) (by exact hW) (by exact hn) (by exact hs) (by exact fun x _ => dist_le _ _ x) (by first | assumption | omega)) ⟨tb1158, tb1161, tb8, ⟨by decide, by decide, rfl⟩, rfl, rfl, Nat.le_of_ble_eq_true rfl, Nat.le_of_ble_eq_true rfl⟩ tb1160 tbs50 0 7 rfl rfl rfl rfl [0, 1, 2, 3, 4, 5, 6, 7, 8, 9, 10, 11, 12, 13] [] rfl rfl rfl rfl rfl (Nat.le_of_ble_eq_true rfl) ⟨Nat.le_of_ble_eq_true rfl, Nat.le_of_ble_eq_true rfl⟩ dX7_breaths_48 (fun _ H locs _ X => ?_)
              have X : Hx D zA zs H locs (mW tk h (u3 Mt 6 (dist (pgv Mt 0) xq)) hi la ce) := X
              refine g_ifeqB (x := fitW (pgv Mt 0) ((u3 Mt 6 (dist (pgv Mt 0) xq)) 6) i (Mt 20 11) (mpl Mt) (mlo Mt)) (tgt := 56) C0 dX7_breaths_51 rfl (fun c9 => ?_) (fun c10 => ?_)
              · refine g_iinc (j := 1) (z := i + 1) (lv' := [(3, .int (nI (i + 1))), (0, .ref (h 0)), (1, .int (nI xq)), (2, .int (nI yq))]) C0 rfl (by first | rfl | omega) dX7_breaths_56 hl (k := 0) rfl (by decide) rfl (fun ls hl => ?_)
                refine lv_goto (tgt := 39) hx hb dX7_breaths_59 (by decide) ?_
                exact ih39 (i + 1) (by omega) (by omega) (by omega) (by rw [hbs]; exact lfind_s (by omega) c9) H locs ls X (lv_sub hl [0, 1, 2, 3] rfl)
              · refine lv_iload_n hx hb dX7_breaths_54 rfl (lv_at hl 0 rfl) ?_
                exact hE (v := nI i) (dist (pgv Mt 0) xq) (by rw [a_breaths, if_pos (by rw [pv80, c2, c3]; rfl), tn_nI (k := xq) (by omega), tn_nI (k := yq) (by omega), if_neg (by omega), hbs, lfind_y (P := fun b => fitS (pgv Mt 0) xq b (Mt 20 11) (mpl Mt) (mlo Mt)) (by omega) c10]; exact congrArg (fun z => some (Value.int z)) (orNone_p (by omega))) trivial X dX7_breaths_55
        exact J39 ((61 - 1) + 1) 1 (Nat.lt_succ_self _) (by omega) (by omega) (by rfl) H locs ls X (lv_sub hl [0, 1, 2, 3] rfl)
      · refine lv_aload_n hx hb dX7_breaths_24 rfl (lv_at hl 0 rfl) ?_
        refine g_iconst (n := 0) C0 rfl dX7_breaths_25 ?_
        refine lv_iload_n hx hb dX7_breaths_26 rfl (lv_at hl 1 rfl) ?_
        refine g_callV (As := [.int (nI 0), .int (nI xq)]) (rest := []) (wr := []) (C0.sz hl) X (c_X7_breathsOn l D tk h Mt hi la ce 0 xq (by first | assumption | omega) (by exact hW) (by exact hn) (by exact hs) (by first | assumption | omega)) ⟨tb1154, tb1157, tb8, ⟨by decide, by decide, rfl⟩, rfl, rfl, Nat.le_of_ble_eq_true rfl, Nat.le_of_ble_eq_true rfl⟩ tb1156 tbs49 0 7 rfl rfl rfl rfl [0, 1, 2, 3, 4, 5, 6, 7, 8, 9, 10, 11, 12, 13] [] rfl rfl rfl rfl rfl (Nat.le_of_ble_eq_true rfl) ⟨Nat.le_of_ble_eq_true rfl, Nat.le_of_ble_eq_true rfl⟩ dX7_breaths_27 (fun _ H locs _ X => ?_)
        have X : Hx D zA zs H locs (mW tk h (u3 Mt 6 (dist (pgv Mt 0) xq)) hi la ce) := X
        exact hE (v := nI (manyS (pgv Mt 0) xq (Mt 20 11) (mpl Mt) (mlo Mt))) (dist (pgv Mt 0) xq) (by rw [a_breaths, if_pos (by rw [pv80, c2, c3]; rfl), tn_nI (k := xq) (by omega), tn_nI (k := yq) (by omega), if_pos c6]) trivial X dX7_breaths_30
    · refine lv_iconst (v := (-1)) hx hb dX7_breaths_18 (by decide) ?_
      exact hE (v := (-1)) (Mt 6) (by simp only [a_breaths, c2, c4, tn_nI (k := xq) (by omega), pv80, pv81, pv82, pv83, pv0, pv1, pv2, pv3, pv4, pv5, pv6, pv7, eq_self, ne01, ne02, ne03, ne04, ne05, ne10, ne12, ne13, ne14, ne15, ne20, ne21, ne23, ne24, ne25, ne30, ne31, ne32, ne34, ne35, ne40, ne41, ne42, ne43, ne45, ne50, ne51, ne52, ne53, ne54, if_true, if_false, Bool.false_eq_true, Bool.and_self, Bool.and_true, Bool.and_false, Bool.true_and, Bool.false_and, Bool.not_true, Bool.not_false, decide_true, decide_false] <;> rfl) trivial X dX7_breaths_19
set_option maxHeartbeats 4000000 in
set_option maxRecDepth 100000 in
theorem c_X7_kinds (l : Launch) (D : va_G) (tk : Nat → ClassId) (h : Nat → Nat) (Mt : Nat → Nat → Nat) (hi : Int32) (la ce : Nat → Int32) (x : Int32) (hW : VW (pgv Mt 0)) (hn : Mt 20 11 ≤ 6) (hs : ∀ j, j < Mt 20 11 → Mt 8 (2 * j) < Mt 20 0 ∧ Mt 8 (2 * j + 1) ≤ 120) : MX l yX7_kinds cX7_kinds 4 (some .int) ⟨5, 0, 0, 117⟩ D (TYS tk) [.ref (h 0), .int x] (mW tk h Mt hi la ce) (fun (u : (Nat → Nat) × (Nat → Nat)) => RK (Mt 0) u.1) (fun u => some (.int (a_kinds (pgv Mt 0) (Mt 20 11) (mpl Mt) (mlo Mt) x))) (fun u => mW tk h (u3 (u3 Mt 0 u.1) 6 u.2) hi la ce) 0 0 := by
  refine MX.of_i (by decide) rfl ?_
  intro zp ze zs zm za zb zt zc zA zQ ls C0 hnm X hl hE
  have hx := C0.1
  have hb := C0.2.1
  have ht := C0.2.2.2.2.1
  have X : Hx D zA zs zs.heap [] (mW tk h Mt hi la ce) := X
  have hl : lv_has ls 4 [(0, .ref (h 0)), (1, .int x)] := hl
  obtain ⟨hv1, hv2, hv3, hv4, hv5, hv6, hv7⟩ := id hW
  have hb1 : Mt 20 0 ≤ 6 := hv1
  have hb2 : Mt 0 42 ≤ 9 := hv2
  have hb3 : Mt 0 43 ≤ 20 := hv3
  have hb4 : Mt 0 62 ≤ 6 := hv4
  have hkd : ∀ t, t < Mt 20 0 → Mt 0 t ≤ 3 := fun t ht => by have q := hv5 t ht; rw [pv0] at q; exact q
  have hrt : ∀ i, i < Mt 0 42 → Mt 0 (6 + i) < Mt 20 0 ∧ Mt 0 (15 + i) < Mt 20 0 ∧ Mt 0 (6 + i) ≠ Mt 0 (15 + i) ∧ 1 ≤ Mt 0 (24 + i) ∧ Mt 0 (24 + i) ≤ 9 ∧ Mt 0 (33 + i) ≤ 1 := fun i hi => hv6 i hi
  have htk : ∀ k, k < Mt 0 62 → Mt 0 (44 + k) ≤ 23 ∧ Mt 0 (50 + k) < Mt 20 0 ∧ 1 ≤ Mt 0 (56 + k) ∧ Mt 0 (56 + k) ≤ 60 := fun k hk => hv7 k hk
  obtain ⟨H, hH⟩ : ∃ H, H = zs.heap := ⟨_, rfl⟩
  rw [← hH] at X ⊢
  obtain ⟨locs, hlo⟩ : ∃ L : List Loc, L = [] := ⟨_, rfl⟩
  rw [← hlo] at X ⊢
  refine lv_aload_n hx hb dX7_kinds_0 rfl (lv_at hl 0 rfl) ?_
  refine lv_iload_n hx hb dX7_kinds_1 rfl (lv_at hl 1 rfl) ?_
  refine g_callV (As := [.int x]) (rest := []) (wr := []) (C0.sz hl) X (c_X7_isTree l D tk h Mt hi la ce x (by first | assumption | omega)) ⟨tb980, tb983, tb8, ⟨by decide, by decide, rfl⟩, rfl, rfl, Nat.le_of_ble_eq_true rfl, Nat.le_of_ble_eq_true rfl⟩ tb982 tbs37 0 7 rfl rfl rfl rfl [0, 1, 2, 3, 4, 5, 6, 7, 8, 9, 10, 11, 12, 13] [] rfl rfl rfl rfl rfl (Nat.le_of_ble_eq_true rfl) ⟨Nat.le_of_ble_eq_true rfl, Nat.le_of_ble_eq_true rfl⟩ dX7_kinds_2 (fun _ H locs _ X => ?_)
  have X : Hx D zA zs H locs (mW tk h Mt hi la ce) := X
  refine g_ifneB (x := ix x (Mt 20 0)) (tgt := 10) C0 dX7_kinds_5 rfl (fun c1 => ?_) (fun c2 => ?_)
  · obtain ⟨xq, hk_xq, rfl⟩ := ix_sp c1
    refine g_iconst (n := 0) C0 rfl dX7_kinds_10 ?_
    refine lv_istore_n (lv' := [(2, .int (nI 0)), (0, .ref (h 0)), (1, .int (nI xq))]) hx hb dX7_kinds_11 rfl hl (by decide) rfl (fun ls hl => ?_)
    refine lv_aload_n hx hb dX7_kinds_12 rfl (lv_at hl 1 rfl) ?_
    refine g_iconst (n := 0) C0 rfl dX7_kinds_13 ?_
    refine g_sipush (n := 252) C0 (by decide) dX7_kinds_14 ?_
    refine g_callV (As := [.int (nI 0), .int (nI 252)]) (rest := []) (wr := []) (C0.sz hl) X (c_X7_copies l D tk h Mt hi la ce 0 252 (by omega) (by omega) (by omega)) ⟨tb1096, tb1099, tb8, ⟨by decide, by decide, rfl⟩, rfl, rfl, Nat.le_of_ble_eq_true rfl, Nat.le_of_ble_eq_true rfl⟩ tb1098 tbs46 0 7 rfl rfl rfl rfl [0, 1, 2, 3, 4, 5, 6, 7, 8, 9, 10, 11, 12, 13] [] rfl rfl rfl rfl rfl (Nat.le_of_ble_eq_true rfl) ⟨Nat.le_of_ble_eq_true rfl, Nat.le_of_ble_eq_true rfl⟩ dX7_kinds_17 (fun _ H locs _ X => ?_)
    have X : Hx D zA zs H locs (mW tk h (u3 Mt 0 (pcopy (Mt 0) 0 252 63)) hi la ce) := X
    refine g_iconst (n := 0) C0 rfl dX7_kinds_20 ?_
    refine lv_istore_n (lv' := [(3, .int (nI 0)), (2, .int (nI 0)), (0, .ref (h 0)), (1, .int (nI xq))]) hx hb dX7_kinds_21 rfl hl (by decide) rfl (fun ls hl => ?_)
    have J22 : ∀ (fz : Nat) (i bs x0 : Nat) (r1 d1 : Nat → Nat), 4 - i < fz → ∀ (hi1 : i ≤ 4) (hr : RK (Mt 0) r1) (hv : VEq (pgv (u3 Mt 0 r1) 252) (u2 (pgv Mt 0) 0 xq x0)) (hbs : bs = bset (kindsP (pgv Mt 0) (Mt 20 11) (mpl Mt) (mlo Mt) xq) i) (H : Heap) (locs : List Loc) (ls : Array Slot), Hx D zA zs H locs (mW tk h (u3 (u3 Mt 0 r1) 6 d1) hi la ce) → lv_has ls 4 [(3, .int (nI i)), (2, .int (nI bs)), (0, .ref (h 0)), (1, .int (nI xq))] → W zp l ze ⟨5, 0, 0, 117⟩ zs zm za zb zt zc H locs 0 0 zQ (F0 zm 22 ls []) := by
      intro fz
      induction fz with
      | zero => intro i bs x0 r1 d1 hz; exact absurd hz (Nat.not_lt_zero _)
      | succ fz ih22 =>
        intro i bs x0 r1 d1 hz22 hi1 hr hv hbs H locs ls X hl
        refine lv_iload_n hx hb dX7_kinds_22 rfl (lv_at hl 0 rfl) ?_
        refine g_iconst (n := 4) C0 rfl dX7_kinds_23 ?_
        refine g_icmp_ge (x := i) (y := 4) (tgt := 64) C0 (by omega) (by omega) dX7_kinds_24 rfl (fun c3 => ?_) (fun c4 => ?_)
        · refine lv_iload_n hx hb dX7_kinds_64 rfl (lv_at hl 1 rfl) ?_
          exact hE (v := nI bs) (r1, d1) (by rw [a_kinds, if_pos (by rw [pv80, c1]), tn_nI (k := xq) (by omega), hbs, show i = 4 by omega]) (by exact hr) X dX7_kinds_65
        · refine lv_aload_n hx hb dX7_kinds_27 rfl (lv_at hl 2 rfl) ?_
          refine g_get (v := .ref (h 1)) C0 X kX7 0 0 tb797 rfl rfl rfl dX7_kinds_28 ?_
          refine g_sipush (n := 252) C0 (by decide) dX7_kinds_31 ?_
          refine lv_iload_n hx hb dX7_kinds_34 rfl (lv_at hl 3 rfl) ?_
          refine g_iadd (n := 252 + xq) C0 (by first | rfl | omega) dX7_kinds_35 ?_
          refine lv_iload_n hx hb dX7_kinds_36 rfl (lv_at hl 0 rfl) ?_
          refine g_iast (g := nf (u1 r1 (252 + xq) i)) (i := 252 + xq) C0 X 1 0 rfl rfl (by omega) rfl (nf_u1 _ _ _) dX7_kinds_37 (fun H locs X => ?_)
          have X : Hx D zA zs H locs (mW tk h (u2 (u3 (u3 Mt 0 r1) 6 d1) 0 (252 + xq) i) hi la ce) := X
          have hv2 := pg_kind (y := i) hW (show xq < 6 by omega) hv
          have hvw : VW (u2 (pgv Mt 0) 0 xq i) := hW.kindu (by omega)
          refine lv_iload_n hx hb dX7_kinds_38 rfl (lv_at hl 1 rfl) ?_
          refine lv_aload_n hx hb dX7_kinds_39 rfl (lv_at hl 2 rfl) ?_
          refine g_sipush (n := 252) C0 (by decide) dX7_kinds_40 ?_
          refine g_callV (As := [.int (nI 252)]) (rest := [.int (nI bs)]) (wr := []) (C0.sz hl) X (c_X7_sayersOn l D tk h (u2 (u3 (u3 Mt 0 r1) 6 d1) 0 (252 + xq) i) hi la ce 252 (by first | assumption | omega) (by exact VW.eq hv2.sy hvw) (by exact hn) (by exact hs)) ⟨tb1150, tb1153, tb8, ⟨by decide, by decide, rfl⟩, rfl, rfl, Nat.le_of_ble_eq_true rfl, Nat.le_of_ble_eq_true rfl⟩ tb1152 tbs48 0 7 rfl rfl rfl rfl [0, 1, 2, 3, 4, 5, 6, 7, 8, 9, 10, 11, 12, 13] [] rfl rfl rfl rfl rfl (Nat.le_of_ble_eq_true rfl) ⟨Nat.le_of_ble_eq_true rfl, Nat.le_of_ble_eq_true rfl⟩ dX7_kinds_43 (fun uq5 H locs _ X => ?_)
          have X : Hx D zA zs H locs (mW tk h (u3 (u2 (u3 Mt 0 r1) 0 (252 + xq) i) 6 uq5) hi la ce) := X
          refine g_top (y := nI (sayS (u2 (pgv Mt 0) 0 xq i) (Mt 20 11) (mpl Mt) (mlo Mt))) (by exact congrArg nI (sayVE hv2 (fun j hj => (hs j hj).1))) ?_
          have hLx := sayS_lt (u2 (pgv Mt 0) 0 xq i) (Mt 20 11) (mpl Mt) (mlo Mt) hv1
          refine g_ifeq (x := sayS (u2 (pgv Mt 0) 0 xq i) (Mt 20 11) (mpl Mt) (mlo Mt)) (tgt := 55) C0 (by omega) dX7_kinds_46 rfl (fun c6 => ?_) (fun c7 => ?_)
          · refine g_iconst (n := 0) C0 rfl dX7_kinds_55 ?_
            refine g_ior (n := bs ||| 0) C0 rfl dX7_kinds_56 ?_
            refine lv_istore_n (lv' := [(2, .int (nI (bs ||| 0))), (3, .int (nI i)), (0, .ref (h 0)), (1, .int (nI xq))]) hx hb dX7_kinds_57 rfl hl (by decide) rfl (fun ls hl => ?_)
            refine g_iinc (j := 1) (z := i + 1) (lv' := [(3, .int (nI (i + 1))), (2, .int (nI (bs ||| 0))), (0, .ref (h 0)), (1, .int (nI xq))]) C0 rfl (by first | rfl | omega) dX7_kinds_58 hl (k := 1) rfl (by decide) rfl (fun ls hl => ?_)
            refine lv_goto (tgt := 22) hx hb dX7_kinds_61 (by decide) ?_
            exact ih22 (i + 1) (bs ||| 0) i (u1 r1 (252 + xq) i) uq5 (by omega) (by omega) (by exact hr.u1 (by omega)) (by exact hv2) (by first | exact kinds_s hbs c6 | exact kinds_s' hbs c6) H locs ls X (lv_sub hl [0, 1, 2, 3] rfl)
          · refine g_iconst (n := 1) C0 rfl dX7_kinds_49 ?_
            refine lv_iload_n hx hb dX7_kinds_50 rfl (lv_at hl 0 rfl) ?_
            refine g_ishl (n := 2 ^ i) C0 (by exact sh_ok (by omega)) (by first | exact Nat.one_mul _ | rfl) dX7_kinds_51 ?_
            refine lv_goto (tgt := 56) hx hb dX7_kinds_52 (by decide) ?_
            refine g_ior (n := bs ||| (2 ^ i)) C0 rfl dX7_kinds_56 ?_
            refine lv_istore_n (lv' := [(2, .int (nI (bs ||| (2 ^ i)))), (3, .int (nI i)), (0, .ref (h 0)), (1, .int (nI xq))]) hx hb dX7_kinds_57 rfl hl (by decide) rfl (fun ls hl => ?_)
            refine g_iinc (j := 1) (z := i + 1) (lv' := [(3, .int (nI (i + 1))), (2, .int (nI (bs ||| (2 ^ i)))), (0, .ref (h 0)), (1, .int (nI xq))]) C0 rfl (by first | rfl | omega) dX7_kinds_58 hl (k := 1) rfl (by decide) rfl (fun ls hl => ?_)
            refine lv_goto (tgt := 22) hx hb dX7_kinds_61 (by decide) ?_
            exact ih22 (i + 1) (bs ||| (2 ^ i)) i (u1 r1 (252 + xq) i) uq5 (by omega) (by omega) (by exact hr.u1 (by omega)) (by exact hv2) (by first | exact kinds_s hbs c7 | exact kinds_s' hbs c7) H locs ls X (lv_sub hl [0, 1, 2, 3] rfl)
    exact J22 ((4 - 0) + 1) 0 0 (pgv Mt 0 0 xq) (pcopy (Mt 0) 0 252 63) (Mt 6) (Nat.lt_succ_self _) (by omega) (by exact (RK.rf _).cp) (by exact vu2_self (pgc hW (RK.rf _))) (by rfl) H locs ls X (lv_sub hl [0, 1, 2, 3] rfl)
  · refine lv_iconst (v := (-1)) hx hb dX7_kinds_8 (by decide) ?_
    exact hE (v := (-1)) (Mt 0, Mt 6) (by simp only [a_kinds, c2, pv80, pv81, pv82, pv83, pv0, pv1, pv2, pv3, pv4, pv5, pv6, pv7, eq_self, ne01, ne02, ne03, ne04, ne05, ne10, ne12, ne13, ne14, ne15, ne20, ne21, ne23, ne24, ne25, ne30, ne31, ne32, ne34, ne35, ne40, ne41, ne42, ne43, ne45, ne50, ne51, ne52, ne53, ne54, if_true, if_false, Bool.false_eq_true, Bool.and_self, Bool.and_true, Bool.and_false, Bool.true_and, Bool.false_and, Bool.not_true, Bool.not_false, decide_true, decide_false] <;> rfl) (by exact RK.rf _) X dX7_kinds_9
set_option maxHeartbeats 4000000 in
set_option maxRecDepth 100000 in
theorem c_X7_ask (l : Launch) (D : va_G) (tk : Nat → ClassId) (h : Nat → Nat) (Mt : Nat → Nat → Nat) (hi : Int32) (la ce : Nat → Int32) (x : Int32) (hW : VW (pgv Mt 0)) (hn : Mt 20 11 ≤ 6) (hs : ∀ j, j < Mt 20 11 → Mt 8 (2 * j) < Mt 20 0 ∧ Mt 8 (2 * j + 1) ≤ 120) : MX l yX7_ask cX7_ask 9 (some .int) ⟨4, 0, 0, 94⟩ D (TYS tk) [.ref (h 0), .int x] (mW tk h Mt hi la ce) (fun (u : (Nat → Nat) × (Nat → Nat)) => True) (fun u => some (.int (a_ask (pgv Mt 0) (Mt 20 11) (mpl Mt) (mlo Mt) x))) (fun u => mW tk h (u3 (u3 Mt 6 u.1) 9 u.2) hi la ce) 0 0 := by
  refine MX.of_i (by decide) rfl ?_
  intro zp ze zs zm za zb zt zc zA zQ ls C0 hnm X hl hE
  have hx := C0.1
  have hb := C0.2.1
  have ht := C0.2.2.2.2.1
  have X : Hx D zA zs zs.heap [] (mW tk h Mt hi la ce) := X
  have hl : lv_has ls 9 [(0, .ref (h 0)), (1, .int x)] := hl
  obtain ⟨hv1, hv2, hv3, hv4, hv5, hv6, hv7⟩ := id hW
  have hb1 : Mt 20 0 ≤ 6 := hv1
  have hb2 : Mt 0 42 ≤ 9 := hv2
  have hb3 : Mt 0 43 ≤ 20 := hv3
  have hb4 : Mt 0 62 ≤ 6 := hv4
  have hkd : ∀ t, t < Mt 20 0 → Mt 0 t ≤ 3 := fun t ht => by have q := hv5 t ht; rw [pv0] at q; exact q
  have hrt : ∀ i, i < Mt 0 42 → Mt 0 (6 + i) < Mt 20 0 ∧ Mt 0 (15 + i) < Mt 20 0 ∧ Mt 0 (6 + i) ≠ Mt 0 (15 + i) ∧ 1 ≤ Mt 0 (24 + i) ∧ Mt 0 (24 + i) ≤ 9 ∧ Mt 0 (33 + i) ≤ 1 := fun i hi => hv6 i hi
  have htk : ∀ k, k < Mt 0 62 → Mt 0 (44 + k) ≤ 23 ∧ Mt 0 (50 + k) < Mt 20 0 ∧ 1 ≤ Mt 0 (56 + k) ∧ Mt 0 (56 + k) ≤ 60 := fun k hk => hv7 k hk
  obtain ⟨H, hH⟩ : ∃ H, H = zs.heap := ⟨_, rfl⟩
  rw [← hH] at X ⊢
  obtain ⟨locs, hlo⟩ : ∃ L : List Loc, L = [] := ⟨_, rfl⟩
  rw [← hlo] at X ⊢
  refine lv_iload_n hx hb dX7_ask_0 rfl (lv_at hl 1 rfl) ?_
  refine lv_i2l hx hb dX7_ask_1 rfl ?_
  refine g_lconst (n := 0) C0 rfl dX7_ask_2 ?_
  refine g_lconst (n := 1) C0 rfl dX7_ask_3 ?_
  refine g_callS (As := [.long (Int32.toInt64 x), .long (lN 0), .long (lN 1)]) (rest := []) (wr := (mW tk h Mt hi la ce)) (C0.sz hl) X (c_X7_in l D tk (Int32.toInt64 x) (lN 0) (lN 1)) ⟨tb885, tb887, tb8, ⟨by decide, by decide, rfl⟩, rfl, rfl, Nat.le_of_ble_eq_true rfl, Nat.le_of_ble_eq_true rfl⟩ tb886 rfl [] [0, 1, 2, 3, 4, 5, 6, 7, 8, 9, 10, 11, 12, 13] rfl rfl rfl rfl rfl (Nat.le_of_ble_eq_true rfl) ⟨Nat.le_of_ble_eq_true rfl, Nat.le_of_ble_eq_true rfl⟩ dX7_ask_4 (fun _ H locs _ X => ?_)
  have X : Hx D zA zs H locs (mW tk h Mt hi la ce) := X
  refine g_top (y := nI (rb (rg x 0 1))) (by rw [inL_rg x (by first | decide | omega) (by first | decide | omega)]) ?_
  refine g_ifneB (x := rg x 0 1) (tgt := 12) C0 dX7_ask_7 rfl (fun c1 => ?_) (fun c2 => ?_)
  · obtain ⟨xq, hk_xqa, hk_xqb, hk_xqc, rfl⟩ := rg_sp c1
    refine g_iconst (n := 0) C0 rfl dX7_ask_12 ?_
    refine lv_istore_n (lv' := [(2, .int (nI 0)), (0, .ref (h 0)), (1, .int (nI xq))]) hx hb dX7_ask_13 rfl hl (by decide) rfl (fun ls hl => ?_)
    refine g_iconst (n := 0) C0 rfl dX7_ask_14 ?_
    refine lv_istore_n (lv' := [(3, .int (nI 0)), (2, .int (nI 0)), (0, .ref (h 0)), (1, .int (nI xq))]) hx hb dX7_ask_15 rfl hl (by decide) rfl (fun ls hl => ?_)
    have J16 : ∀ (fz : Nat) (i sm : Nat) (d1 : Nat → Nat), Mt 20 0 - i < fz → ∀ (hi1 : i ≤ Mt 20 0) (hsm : sm = nsum (fun t => manyS (pgv Mt 0) t (Mt 20 11) (mpl Mt) (mlo Mt)) i) (H : Heap) (locs : List Loc) (ls : Array Slot), Hx D zA zs H locs (mW tk h (u3 Mt 6 d1) hi la ce) → lv_has ls 9 [(3, .int (nI i)), (2, .int (nI sm)), (0, .ref (h 0)), (1, .int (nI xq))] → W zp l ze ⟨4, 0, 0, 94⟩ zs zm za zb zt zc H locs 0 0 zQ (F0 zm 16 ls []) := by
      intro fz
      induction fz with
      | zero => intro i sm d1 hz; exact absurd hz (Nat.not_lt_zero _)
      | succ fz ih16 =>
        intro i sm d1 hz16 hi1 hsm H locs ls X hl
        refine lv_iload_n hx hb dX7_ask_16 rfl (lv_at hl 0 rfl) ?_
        refine lv_aload_n hx hb dX7_ask_17 rfl (lv_at hl 2 rfl) ?_
        refine g_get (v := .int (nI (Mt 20 0))) C0 X kX7 0 1 tb798 rfl rfl rfl dX7_ask_18 ?_
        refine g_icmp_ge (x := i) (y := Mt 20 0) (tgt := 39) C0 (by omega) (by omega) dX7_ask_21 rfl (fun c3 => ?_) (fun c4 => ?_)
        · have hsm2 := sm_le hsm
          have hsm3 : sm = nsum (fun t => manyS (pgv Mt 0) t (Mt 20 11) (mpl Mt) (mlo Mt)) (Mt 20 0) := by rw [hsm, show i = Mt 20 0 by omega]
          refine lv_bipush (v := (-4)) hx hb dX7_ask_39 (by decide) ?_
          refine lv_istore_n (lv' := [(3, .int (-4)), (2, .int (nI sm)), (0, .ref (h 0)), (1, .int (nI xq))]) hx hb dX7_ask_41 rfl hl (by decide) rfl (fun ls hl => ?_)
          refine g_iconst (n := 0) C0 rfl dX7_ask_42 ?_
          refine lv_istore (lv' := [(4, .int (nI 0)), (3, .int (-4)), (2, .int (nI sm)), (0, .ref (h 0)), (1, .int (nI xq))]) hx hb dX7_ask_43 hl (by decide) rfl (fun ls hl => ?_)
          have J45 : ∀ (fz : Nat) (u1x few : Nat) (wh : Int32) (d1 b1 : Nat → Nat), Mt 20 0 - u1x < fz → ∀ (hu1 : u1x ≤ Mt 20 0) (hbf : (wh, few) = bfold (fun _ => true) (fun u => (lwT (pgv Mt 0) u (Mt 20 11) (mpl Mt) (mlo Mt) (Mt 20 0)).2) sm u1x) (H : Heap) (locs : List Loc) (ls : Array Slot), Hx D zA zs H locs (mW tk h (u3 (u3 Mt 6 d1) 9 b1) hi la ce) → lv_has ls 9 [(4, .int (nI u1x)), (3, .int wh), (2, .int (nI few)), (0, .ref (h 0)), (1, .int (nI xq))] → W zp l ze ⟨4, 0, 0, 94⟩ zs zm za zb zt zc H locs 0 0 zQ (F0 zm 45 ls []) := by
            intro fz
            induction fz with
            | zero => intro u1x few wh d1 b1 hz; exact absurd hz (Nat.not_lt_zero _)
            | succ fz ih45 =>
              intro u1x few wh d1 b1 hz45 hu1 hbf H locs ls X hl
              refine lv_iload hx hb dX7_ask_45 (lv_at hl 0 rfl) ?_
              refine lv_aload_n hx hb dX7_ask_47 rfl (lv_at hl 3 rfl) ?_
              refine g_get (v := .int (nI (Mt 20 0))) C0 X kX7 0 1 tb798 rfl rfl rfl dX7_ask_48 ?_
              refine g_icmp_ge (x := u1x) (y := Mt 20 0) (tgt := 212) C0 (by omega) (by omega) dX7_ask_51 rfl (fun c5 => ?_) (fun c6 => ?_)
              · refine lv_iload_n hx hb dX7_ask_212 rfl (lv_at hl 1 rfl) ?_
                refine lv_bipush (v := (-4)) hx hb dX7_ask_213 (by decide) ?_
                refine lv_icmp_eq (tgt := 222) hx hb dX7_ask_215 rfl (fun c7 => ?_) (fun c8 => ?_)
                · refine lv_iload_n hx hb dX7_ask_222 rfl (lv_at hl 1 rfl) ?_
                  refine lv_goto (tgt := 227) hx hb dX7_ask_223 (by decide) ?_
                  exact hE (v := wh) (d1, b1) (by rw [a_ask, if_pos c1, tn_nI (k := xq) (by omega), pv80, ← hsm3, ← told_s (i := Mt 20 0) (show (wh, few) = _ by rw [show Mt 20 0 = u1x by omega]; rw [show Mt 20 0 = u1x by omega] at hbf; exact hbf), if_pos (Or.inr c7)]) trivial X dX7_ask_227
                · refine lv_iload_n hx hb dX7_ask_218 rfl (lv_at hl 4 rfl) ?_
                  refine g_ifne (x := xq) (tgt := 226) C0 (by omega) dX7_ask_219 rfl (fun c9 => ?_) (fun c10 => ?_)
                  · refine lv_iload_n hx hb dX7_ask_226 rfl (lv_at hl 2 rfl) ?_
                    exact hE (v := nI few) (d1, b1) (by rw [a_ask, if_pos c1, tn_nI (k := xq) (by omega), pv80, ← hsm3, ← told_s (i := Mt 20 0) (show (wh, few) = _ by rw [show Mt 20 0 = u1x by omega]; rw [show Mt 20 0 = u1x by omega] at hbf; exact hbf), if_neg (fun q => q.elim (by omega) c8)]) trivial X dX7_ask_227
                  · refine lv_iload_n hx hb dX7_ask_222 rfl (lv_at hl 1 rfl) ?_
                    refine lv_goto (tgt := 227) hx hb dX7_ask_223 (by decide) ?_
                    exact hE (v := wh) (d1, b1) (by rw [a_ask, if_pos c1, tn_nI (k := xq) (by omega), pv80, ← hsm3, ← told_s (i := Mt 20 0) (show (wh, few) = _ by rw [show Mt 20 0 = u1x by omega]; rw [show Mt 20 0 = u1x by omega] at hbf; exact hbf), if_pos (Or.inl c10)]) trivial X dX7_ask_227
              · refine g_iconst (n := 0) C0 rfl dX7_ask_54 ?_
                refine lv_istore (lv' := [(5, .int (nI 0)), (4, .int (nI u1x)), (3, .int wh), (2, .int (nI few)), (0, .ref (h 0)), (1, .int (nI xq))]) hx hb dX7_ask_55 hl (by decide) rfl (fun ls hl => ?_)
                refine g_iconst (n := 0) C0 rfl dX7_ask_57 ?_
                refine lv_istore (lv' := [(6, .int (nI 0)), (5, .int (nI 0)), (4, .int (nI u1x)), (3, .int wh), (2, .int (nI few)), (0, .ref (h 0)), (1, .int (nI xq))]) hx hb dX7_ask_58 hl (by decide) rfl (fun ls hl => ?_)
                have J60 : ∀ (fz : Nat) (k : Nat) (b2 : Nat → Nat), 121 - k < fz → ∀ (hk1 : k ≤ 121) (hz0 : ∀ j, j < k → b2 j = 0) (H : Heap) (locs : List Loc) (ls : Array Slot), Hx D zA zs H locs (mW tk h (u3 (u3 Mt 6 d1) 9 b2) hi la ce) → lv_has ls 9 [(6, .int (nI k)), (5, .int (nI 0)), (4, .int (nI u1x)), (3, .int wh), (2, .int (nI few)), (0, .ref (h 0)), (1, .int (nI xq))] → W zp l ze ⟨4, 0, 0, 94⟩ zs zm za zb zt zc H locs 0 0 zQ (F0 zm 60 ls []) := by
                  intro fz
                  induction fz with
                  | zero => intro k b2 hz; exact absurd hz (Nat.not_lt_zero _)
                  | succ fz ih60 =>
                    intro k b2 hz60 hk1 hz0 H locs ls X hl
                    refine lv_iload hx hb dX7_ask_60 (lv_at hl 0 rfl) ?_
                    refine g_bipush (n := 120) C0 (by decide) dX7_ask_62 ?_
                    refine g_icmp_gt (x := k) (y := 120) (tgt := 81) C0 (by omega) (by omega) dX7_ask_64 rfl (fun c11 => ?_) (fun c12 => ?_)
                    · have X := X.cong (g := nf (fun _ => 0)) 9 rfl (fun j hj => congrArg nI (hz0 j (by omega)))
                      have X : Hx D zA zs H locs (mW tk h (u3 (u3 Mt 6 d1) 9 (fun _ => 0)) hi la ce) := X
                      refine g_iconst (n := 0) C0 rfl dX7_ask_81 ?_
                      refine lv_istore (lv' := [(6, .int (nI 0)), (5, .int (nI 0)), (4, .int (nI u1x)), (3, .int wh), (2, .int (nI few)), (0, .ref (h 0)), (1, .int (nI xq))]) hx hb dX7_ask_82 hl (by decide) rfl (fun ls hl => ?_)
                      have J84 : ∀ (fz : Nat) (tt wo : Nat) (d3 b3 : Nat → Nat), Mt 20 0 - tt < fz → ∀ (ht1 : tt ≤ Mt 20 0) (hf1 : (b3, wo) = lwT (pgv Mt 0) u1x (Mt 20 11) (mpl Mt) (mlo Mt) tt) (H : Heap) (locs : List Loc) (ls : Array Slot), Hx D zA zs H locs (mW tk h (u3 (u3 Mt 6 d3) 9 b3) hi la ce) → lv_has ls 9 [(6, .int (nI tt)), (5, .int (nI wo)), (4, .int (nI u1x)), (3, .int wh), (2, .int (nI few)), (0, .ref (h 0)), (1, .int (nI xq))] → W zp l ze ⟨4, 0, 0, 94⟩ zs zm za zb zt zc H locs 0 0 zQ (F0 zm 84 ls []) := by
                        intro fz
                        induction fz with
                        | zero => intro tt wo d3 b3 hz; exact absurd hz (Nat.not_lt_zero _)
                        | succ fz ih84 =>
                          intro tt wo d3 b3 hz84 ht1 hf1 H locs ls X hl
                          refine lv_iload hx hb dX7_ask_84 (lv_at hl 0 rfl) ?_
                          refine lv_aload_n hx hb dX7_ask_86 rfl (lv_at hl 5 rfl) ?_
                          refine g_get (v := .int (nI (Mt 20 0))) C0 X kX7 0 1 tb798 rfl rfl rfl dX7_ask_87 ?_
                          refine g_icmp_ge (x := tt) (y := Mt 20 0) (tgt := 180) C0 (by omega) (by omega) dX7_ask_90 rfl (fun c13 => ?_) (fun c14 => ?_)
                          · have hwx : wo = (lwT (pgv Mt 0) u1x (Mt 20 11) (mpl Mt) (mlo Mt) (Mt 20 0)).2 := by rw [show Mt 20 0 = tt by omega, ← hf1]
                            have hLq := (lwT_bd (pgv Mt 0) u1x (Mt 20 11) (mpl Mt) (mlo Mt) (Mt 20 0)).2
                            have hamL := bf_am hbf
                            refine lv_iload hx hb dX7_ask_180 (lv_at hl 1 rfl) ?_
                            refine lv_iload_n hx hb dX7_ask_182 rfl (lv_at hl 4 rfl) ?_
                            refine g_icmp_ge (x := wo) (y := few) (tgt := 191) C0 (by omega) (by omega) dX7_ask_183 rfl (fun c15 => ?_) (fun c16 => ?_)
                            · refine lv_iload_n hx hb dX7_ask_191 rfl (lv_at hl 3 rfl) ?_
                              refine lv_istore_n (lv' := [(3, .int wh), (6, .int (nI tt)), (5, .int (nI wo)), (4, .int (nI u1x)), (2, .int (nI few)), (0, .ref (h 0)), (1, .int (nI xq))]) hx hb dX7_ask_192 rfl hl (by decide) rfl (fun ls hl => ?_)
                              refine lv_iload hx hb dX7_ask_193 (lv_at hl 2 rfl) ?_
                              refine lv_iload_n hx hb dX7_ask_195 rfl (lv_at hl 4 rfl) ?_
                              refine g_icmp_ge (x := wo) (y := few) (tgt := 204) C0 (by omega) (by omega) dX7_ask_196 rfl (fun c17 => ?_) (fun c18 => ?_)
                              · refine lv_iload_n hx hb dX7_ask_204 rfl (lv_at hl 4 rfl) ?_
                                refine lv_istore_n (lv' := [(2, .int (nI few)), (3, .int wh), (6, .int (nI tt)), (5, .int (nI wo)), (4, .int (nI u1x)), (0, .ref (h 0)), (1, .int (nI xq))]) hx hb dX7_ask_205 rfl hl (by decide) rfl (fun ls hl => ?_)
                                refine g_iinc (j := 1) (z := u1x + 1) (lv' := [(4, .int (nI (u1x + 1))), (2, .int (nI few)), (3, .int wh), (6, .int (nI tt)), (5, .int (nI wo)), (0, .ref (h 0)), (1, .int (nI xq))]) C0 rfl (by first | rfl | omega) dX7_ask_206 hl (k := 4) rfl (by decide) rfl (fun ls hl => ?_)
                                refine lv_goto (tgt := 45) hx hb dX7_ask_209 (by decide) ?_
                                exact ih45 (u1x + 1) few wh d3 b3 (by omega) (by omega) (by exact bf_k (by show _ ≤ (lwT _ _ _ _ _ _).2; omega) hbf) H locs ls X (lv_sub hl [0, 2, 1, 5, 6] rfl)
                              · refine lv_iload hx hb dX7_ask_199 (lv_at hl 2 rfl) ?_
                                refine lv_goto (tgt := 205) hx hb dX7_ask_201 (by decide) ?_
                                refine lv_istore_n (lv' := [(2, .int (nI wo)), (3, .int wh), (6, .int (nI tt)), (5, .int (nI wo)), (4, .int (nI u1x)), (0, .ref (h 0)), (1, .int (nI xq))]) hx hb dX7_ask_205 rfl hl (by decide) rfl (fun ls hl => ?_)
                                refine g_iinc (j := 1) (z := u1x + 1) (lv' := [(4, .int (nI (u1x + 1))), (2, .int (nI wo)), (3, .int wh), (6, .int (nI tt)), (5, .int (nI wo)), (0, .ref (h 0)), (1, .int (nI xq))]) C0 rfl (by first | rfl | omega) dX7_ask_206 hl (k := 4) rfl (by decide) rfl (fun ls hl => ?_)
                                refine lv_goto (tgt := 45) hx hb dX7_ask_209 (by decide) ?_
                                exact ih45 (u1x + 1) wo wh d3 b3 (by omega) (by omega) (by exfalso; omega) H locs ls X (lv_sub hl [0, 2, 1, 5, 6] rfl)
                            · refine lv_iload hx hb dX7_ask_186 (lv_at hl 2 rfl) ?_
                              refine lv_goto (tgt := 192) hx hb dX7_ask_188 (by decide) ?_
                              refine lv_istore_n (lv' := [(3, .int (nI u1x)), (6, .int (nI tt)), (5, .int (nI wo)), (4, .int (nI u1x)), (2, .int (nI few)), (0, .ref (h 0)), (1, .int (nI xq))]) hx hb dX7_ask_192 rfl hl (by decide) rfl (fun ls hl => ?_)
                              refine lv_iload hx hb dX7_ask_193 (lv_at hl 2 rfl) ?_
                              refine lv_iload_n hx hb dX7_ask_195 rfl (lv_at hl 4 rfl) ?_
                              refine g_icmp_ge (x := wo) (y := few) (tgt := 204) C0 (by omega) (by omega) dX7_ask_196 rfl (fun c19 => ?_) (fun c20 => ?_)
                              · refine lv_iload_n hx hb dX7_ask_204 rfl (lv_at hl 4 rfl) ?_
                                refine lv_istore_n (lv' := [(2, .int (nI few)), (3, .int (nI u1x)), (6, .int (nI tt)), (5, .int (nI wo)), (4, .int (nI u1x)), (0, .ref (h 0)), (1, .int (nI xq))]) hx hb dX7_ask_205 rfl hl (by decide) rfl (fun ls hl => ?_)
                                refine g_iinc (j := 1) (z := u1x + 1) (lv' := [(4, .int (nI (u1x + 1))), (2, .int (nI few)), (3, .int (nI u1x)), (6, .int (nI tt)), (5, .int (nI wo)), (0, .ref (h 0)), (1, .int (nI xq))]) C0 rfl (by first | rfl | omega) dX7_ask_206 hl (k := 4) rfl (by decide) rfl (fun ls hl => ?_)
                                refine lv_goto (tgt := 45) hx hb dX7_ask_209 (by decide) ?_
                                exact ih45 (u1x + 1) few (nI u1x) d3 b3 (by omega) (by omega) (by exfalso; omega) H locs ls X (lv_sub hl [0, 2, 1, 5, 6] rfl)
                              · refine lv_iload hx hb dX7_ask_199 (lv_at hl 2 rfl) ?_
                                refine lv_goto (tgt := 205) hx hb dX7_ask_201 (by decide) ?_
                                refine lv_istore_n (lv' := [(2, .int (nI wo)), (3, .int (nI u1x)), (6, .int (nI tt)), (5, .int (nI wo)), (4, .int (nI u1x)), (0, .ref (h 0)), (1, .int (nI xq))]) hx hb dX7_ask_205 rfl hl (by decide) rfl (fun ls hl => ?_)
                                refine g_iinc (j := 1) (z := u1x + 1) (lv' := [(4, .int (nI (u1x + 1))), (2, .int (nI wo)), (3, .int (nI u1x)), (6, .int (nI tt)), (5, .int (nI wo)), (0, .ref (h 0)), (1, .int (nI xq))]) C0 rfl (by first | rfl | omega) dX7_ask_206 hl (k := 4) rfl (by decide) rfl (fun ls hl => ?_)
                                refine lv_goto (tgt := 45) hx hb dX7_ask_209 (by decide) ?_
                                exact ih45 (u1x + 1) wo (nI u1x) d3 b3 (by omega) (by omega) (by rw [hwx]; exact bf_t1 (P := fun _ => true) (x := (fun u => (lwT (pgv Mt 0) u (Mt 20 11) (mpl Mt) (mlo Mt) (Mt 20 0)).2)) rfl (by show (lwT _ _ _ _ _ _).2 < _; omega) hbf) H locs ls X (lv_sub hl [0, 2, 1, 5, 6] rfl)
                          · refine lv_aload_n hx hb dX7_ask_93 rfl (lv_at hl 5 rfl) ?_
                            refine g_iconst (n := 0) C0 rfl dX7_ask_94 ?_
                            refine lv_iload hx hb dX7_ask_95 (lv_at hl 0 rfl) ?_
                            refine g_callV (As := [.int (nI 0), .int (nI tt)]) (rest := []) (wr := []) (C0.sz hl) X (c_X7_waysOn l D tk h (u3 (u3 Mt 6 d3) 9 b3) hi la ce 0 tt (by first | assumption | omega) (by exact hW) (by first | assumption | omega)) ⟨tb961, tb964, tb8, ⟨by decide, by decide, rfl⟩, rfl, rfl, Nat.le_of_ble_eq_true rfl, Nat.le_of_ble_eq_true rfl⟩ tb963 tbs34 0 7 rfl rfl rfl rfl [0, 1, 2, 3, 4, 5, 6, 7, 8, 9, 10, 11, 12, 13] [] rfl rfl rfl rfl rfl (Nat.le_of_ble_eq_true rfl) ⟨Nat.le_of_ble_eq_true rfl, Nat.le_of_ble_eq_true rfl⟩ dX7_ask_97 (fun _ H locs _ X => ?_)
                            have X : Hx D zA zs H locs (mW tk h (u3 (u3 Mt 9 b3) 6 (dist (pgv Mt 0) tt)) hi la ce) := X
                            refine g_iconst (n := 1) C0 rfl dX7_ask_100 ?_
                            refine lv_istore (lv' := [(7, .int (nI 1)), (6, .int (nI tt)), (5, .int (nI wo)), (4, .int (nI u1x)), (3, .int wh), (2, .int (nI few)), (0, .ref (h 0)), (1, .int (nI xq))]) hx hb dX7_ask_101 hl (by decide) rfl (fun ls hl => ?_)
                            have J103 : ∀ (fz : Nat) (bb wo2 : Nat) (b4 : Nat → Nat), 61 - bb < fz → ∀ (hb1 : 1 ≤ bb) (hb2 : bb ≤ 61) (hf : (b4, wo2) = lwB (pgv Mt 0) u1x (Mt 20 11) (mpl Mt) (mlo Mt) tt (bb - 1) (lwT (pgv Mt 0) u1x (Mt 20 11) (mpl Mt) (mlo Mt) tt)) (H : Heap) (locs : List Loc) (ls : Array Slot), Hx D zA zs H locs (mW tk h (u3 (u3 Mt 6 (dist (pgv Mt 0) tt)) 9 b4) hi la ce) → lv_has ls 9 [(7, .int (nI bb)), (6, .int (nI tt)), (5, .int (nI wo2)), (4, .int (nI u1x)), (3, .int wh), (2, .int (nI few)), (0, .ref (h 0)), (1, .int (nI xq))] → W zp l ze ⟨4, 0, 0, 94⟩ zs zm za zb zt zc H locs 0 0 zQ (F0 zm 103 ls []) := by
                              intro fz
                              induction fz with
                              | zero => intro bb wo2 b4 hz; exact absurd hz (Nat.not_lt_zero _)
                              | succ fz ih103 =>
                                intro bb wo2 b4 hz103 hb1 hb2 hf H locs ls X hl
                                refine lv_iload hx hb dX7_ask_103 (lv_at hl 0 rfl) ?_
                                refine g_bipush (n := 60) C0 (by decide) dX7_ask_105 ?_
                                refine g_icmp_gt (x := bb) (y := 60) (tgt := 174) C0 (by omega) (by omega) dX7_ask_107 rfl (fun c21 => ?_) (fun c22 => ?_)
                                · refine g_iinc (j := 1) (z := tt + 1) (lv' := [(6, .int (nI (tt + 1))), (7, .int (nI bb)), (5, .int (nI wo2)), (4, .int (nI u1x)), (3, .int wh), (2, .int (nI few)), (0, .ref (h 0)), (1, .int (nI xq))]) C0 rfl (by first | rfl | omega) dX7_ask_174 hl (k := 1) rfl (by decide) rfl (fun ls hl => ?_)
                                  refine lv_goto (tgt := 84) hx hb dX7_ask_177 (by decide) ?_
                                  exact ih84 (tt + 1) wo2 (dist (pgv Mt 0) tt) b4 (by omega) (by omega) (by rw [show bb = 61 by omega] at hf; exact hf) H locs ls X (lv_sub hl [0, 2, 3, 4, 5, 6, 7] rfl)
                                · refine lv_aload_n hx hb dX7_ask_110 rfl (lv_at hl 6 rfl) ?_
                                  refine g_iconst (n := 0) C0 rfl dX7_ask_111 ?_
                                  refine lv_iload hx hb dX7_ask_112 (lv_at hl 0 rfl) ?_
                                  refine g_callV (As := [.int (nI 0), .int (nI bb)]) (rest := []) (wr := []) (C0.sz hl) X (c_X7_isAsSeen l D tk h (u3 (u3 Mt 6 (dist (pgv Mt 0) tt)) 9 b4) hi la ce 0 bb (by first | assumption | omega) (by exact hW) (by exact hn) (by exact hs) (by exact fun x _ => dist_le _ _ x) (by first | assumption | omega)) ⟨tb1158, tb1161, tb8, ⟨by decide, by decide, rfl⟩, rfl, rfl, Nat.le_of_ble_eq_true rfl, Nat.le_of_ble_eq_true rfl⟩ tb1160 tbs50 0 7 rfl rfl rfl rfl [0, 1, 2, 3, 4, 5, 6, 7, 8, 9, 10, 11, 12, 13] [] rfl rfl rfl rfl rfl (Nat.le_of_ble_eq_true rfl) ⟨Nat.le_of_ble_eq_true rfl, Nat.le_of_ble_eq_true rfl⟩ dX7_ask_114 (fun _ H locs _ X => ?_)
                                  have X : Hx D zA zs H locs (mW tk h (u3 (u3 Mt 6 (dist (pgv Mt 0) tt)) 9 b4) hi la ce) := X
                                  refine g_ifeqB (x := fitW (pgv Mt 0) ((u3 Mt 6 (dist (pgv Mt 0) tt)) 6) bb (Mt 20 11) (mpl Mt) (mlo Mt)) (tgt := 168) C0 dX7_ask_117 rfl (fun c23 => ?_) (fun c24 => ?_)
                                  · refine g_iinc (j := 1) (z := bb + 1) (lv' := [(7, .int (nI (bb + 1))), (6, .int (nI tt)), (5, .int (nI wo2)), (4, .int (nI u1x)), (3, .int wh), (2, .int (nI few)), (0, .ref (h 0)), (1, .int (nI xq))]) C0 rfl (by first | rfl | omega) dX7_ask_168 hl (k := 0) rfl (by decide) rfl (fun ls hl => ?_)
                                    refine lv_goto (tgt := 103) hx hb dX7_ask_171 (by decide) ?_
                                    exact ih103 (bb + 1) wo2 b4 (by omega) (by omega) (by omega) (by exact lw_f hb1 c23 hf) H locs ls X (lv_sub hl [0, 1, 2, 3, 4, 5, 6, 7] rfl)
                                  · have hdd := dist_le (pgv Mt 0) tt u1x
                                    have hkk := hkd u1x (by omega)
                                    refine lv_aload_n hx hb dX7_ask_120 rfl (lv_at hl 6 rfl) ?_
                                    refine g_iconst (n := 0) C0 rfl dX7_ask_121 ?_
                                    refine lv_iload hx hb dX7_ask_122 (lv_at hl 3 rfl) ?_
                                    refine lv_iload hx hb dX7_ask_124 (lv_at hl 0 rfl) ?_
                                    refine g_callV (As := [.int (nI 0), .int (nI u1x), .int (nI bb)]) (rest := []) (wr := []) (C0.sz hl) X (c_X7_loudOn l D tk h (u3 (u3 Mt 6 (dist (pgv Mt 0) tt)) 9 b4) hi la ce 0 u1x bb (by first | assumption | omega) (by first | assumption | omega) (by rw [Nat.zero_add]; exact hkd u1x (by omega)) (by exact dist_le _ _ _) (by first | assumption | omega)) ⟨tb969, tb972, tb8, ⟨by decide, by decide, rfl⟩, rfl, rfl, Nat.le_of_ble_eq_true rfl, Nat.le_of_ble_eq_true rfl⟩ tb971 tbs36 0 7 rfl rfl rfl rfl [0, 1, 2, 3, 4, 5, 6, 7, 8, 9, 10, 11, 12, 13] [] rfl rfl rfl rfl rfl (Nat.le_of_ble_eq_true rfl) ⟨Nat.le_of_ble_eq_true rfl, Nat.le_of_ble_eq_true rfl⟩ dX7_ask_126 (fun _ H locs _ X => ?_)
                                    have X : Hx D zA zs H locs (mW tk h (u3 (u3 Mt 6 (dist (pgv Mt 0) tt)) 9 b4) hi la ce) := X
                                    refine g_top (y := nI (loudS (pgv Mt 0 0 u1x) bb (dist (pgv Mt 0) tt u1x))) (by rfl) ?_
                                    refine lv_istore (lv' := [(8, .int (nI (loudS (pgv Mt 0 0 u1x) bb (dist (pgv Mt 0) tt u1x)))), (7, .int (nI bb)), (6, .int (nI tt)), (5, .int (nI wo2)), (4, .int (nI u1x)), (3, .int wh), (2, .int (nI few)), (0, .ref (h 0)), (1, .int (nI xq))]) hx hb dX7_ask_129 hl (by decide) rfl (fun ls hl => ?_)
                                    refine lv_aload_n hx hb dX7_ask_131 rfl (lv_at hl 7 rfl) ?_
                                    refine g_get (v := .ref (h 9)) C0 X kX7 0 21 tb818 rfl rfl rfl dX7_ask_132 ?_
                                    have hLo := loudS_le (pgv Mt 0 0 u1x) bb (dist (pgv Mt 0) tt u1x)
                                    have hle := lw_bd hf
                                    have hle1 := hle.1 (loudS (pgv Mt 0 0 u1x) bb (dist (pgv Mt 0) tt u1x))
                                    refine lv_iload hx hb dX7_ask_135 (lv_at hl 0 rfl) ?_
                                    refine lv_dup2_11 hx hb dX7_ask_137 rfl rfl ?_
                                    refine g_iald (v := nI (b4 (loudS (pgv Mt 0 0 u1x) bb (dist (pgv Mt 0) tt u1x)))) (i := loudS (pgv Mt 0 0 u1x) bb (dist (pgv Mt 0) tt u1x)) C0 X 9 0 rfl rfl (by omega) rfl rfl dX7_ask_138 ?_
                                    refine g_iconst (n := 1) C0 rfl dX7_ask_139 ?_
                                    refine g_iadd (n := b4 (loudS (pgv Mt 0 0 u1x) bb (dist (pgv Mt 0) tt u1x)) + 1) C0 (by first | rfl | omega) dX7_ask_140 ?_
                                    refine g_iast (g := nf (u1 b4 (loudS (pgv Mt 0 0 u1x) bb (dist (pgv Mt 0) tt u1x)) (b4 (loudS (pgv Mt 0 0 u1x) bb (dist (pgv Mt 0) tt u1x)) + 1))) (i := loudS (pgv Mt 0 0 u1x) bb (dist (pgv Mt 0) tt u1x)) C0 X 9 0 rfl rfl (by omega) rfl (nf_u1 _ _ _) dX7_ask_141 (fun H locs X => ?_)
                                    have X : Hx D zA zs H locs (mW tk h (u2 (u3 (u3 Mt 6 (dist (pgv Mt 0) tt)) 9 b4) 9 (loudS (pgv Mt 0 0 u1x) bb (dist (pgv Mt 0) tt u1x)) (b4 (loudS (pgv Mt 0 0 u1x) bb (dist (pgv Mt 0) tt u1x)) + 1)) hi la ce) := X
                                    refine lv_aload_n hx hb dX7_ask_142 rfl (lv_at hl 7 rfl) ?_
                                    refine g_get (v := .ref (h 9)) C0 X kX7 0 21 tb818 rfl rfl rfl dX7_ask_143 ?_
                                    refine lv_iload hx hb dX7_ask_146 (lv_at hl 0 rfl) ?_
                                    refine g_iald (v := nI (b4 (loudS (pgv Mt 0 0 u1x) bb (dist (pgv Mt 0) tt u1x)) + 1)) (i := loudS (pgv Mt 0 0 u1x) bb (dist (pgv Mt 0) tt u1x)) C0 X 9 0 rfl rfl (by omega) rfl (by first | rfl | exact congrArg nI (u1_s _ _ _)) dX7_ask_148 ?_
                                    refine lv_iload hx hb dX7_ask_149 (lv_at hl 3 rfl) ?_
                                    refine g_icmp_le (x := b4 (loudS (pgv Mt 0 0 u1x) bb (dist (pgv Mt 0) tt u1x)) + 1) (y := wo2) (tgt := 164) C0 (by first | (rw [u1_s]; omega) | omega) (by first | (rw [u1_s]; omega) | omega) dX7_ask_151 rfl (fun c25 => ?_) (fun c26 => ?_)
                                    · refine lv_iload hx hb dX7_ask_164 (lv_at hl 3 rfl) ?_
                                      refine lv_istore (lv' := [(5, .int (nI wo2)), (8, .int (nI (loudS (pgv Mt 0 0 u1x) bb (dist (pgv Mt 0) tt u1x)))), (7, .int (nI bb)), (6, .int (nI tt)), (4, .int (nI u1x)), (3, .int wh), (2, .int (nI few)), (0, .ref (h 0)), (1, .int (nI xq))]) hx hb dX7_ask_166 hl (by decide) rfl (fun ls hl => ?_)
                                      refine g_iinc (j := 1) (z := bb + 1) (lv' := [(7, .int (nI (bb + 1))), (5, .int (nI wo2)), (8, .int (nI (loudS (pgv Mt 0 0 u1x) bb (dist (pgv Mt 0) tt u1x)))), (6, .int (nI tt)), (4, .int (nI u1x)), (3, .int wh), (2, .int (nI few)), (0, .ref (h 0)), (1, .int (nI xq))]) C0 rfl (by first | rfl | omega) dX7_ask_168 hl (k := 2) rfl (by decide) rfl (fun ls hl => ?_)
                                      refine lv_goto (tgt := 103) hx hb dX7_ask_171 (by decide) ?_
                                      exact ih103 (bb + 1) wo2 (u1 b4 (loudS (pgv Mt 0 0 u1x) bb (dist (pgv Mt 0) tt u1x)) (b4 (loudS (pgv Mt 0 0 u1x) bb (dist (pgv Mt 0) tt u1x)) + 1)) (by omega) (by omega) (by omega) (by exact lw_t2 hb1 c24 hf (Or.inr ⟨by first | exact c25 | omega, rfl⟩)) H locs ls X (lv_sub hl [0, 3, 1, 4, 5, 6, 7, 8] rfl)
                                    · refine lv_aload_n hx hb dX7_ask_154 rfl (lv_at hl 7 rfl) ?_
                                      refine g_get (v := .ref (h 9)) C0 X kX7 0 21 tb818 rfl rfl rfl dX7_ask_155 ?_
                                      refine lv_iload hx hb dX7_ask_158 (lv_at hl 0 rfl) ?_
                                      refine g_iald (v := nI (b4 (loudS (pgv Mt 0 0 u1x) bb (dist (pgv Mt 0) tt u1x)) + 1)) (i := loudS (pgv Mt 0 0 u1x) bb (dist (pgv Mt 0) tt u1x)) C0 X 9 0 rfl rfl (by omega) rfl (by first | rfl | exact congrArg nI (u1_s _ _ _)) dX7_ask_160 ?_
                                      refine lv_goto (tgt := 166) hx hb dX7_ask_161 (by decide) ?_
                                      refine lv_istore (lv' := [(5, .int (nI (b4 (loudS (pgv Mt 0 0 u1x) bb (dist (pgv Mt 0) tt u1x)) + 1))), (8, .int (nI (loudS (pgv Mt 0 0 u1x) bb (dist (pgv Mt 0) tt u1x)))), (7, .int (nI bb)), (6, .int (nI tt)), (4, .int (nI u1x)), (3, .int wh), (2, .int (nI few)), (0, .ref (h 0)), (1, .int (nI xq))]) hx hb dX7_ask_166 hl (by decide) rfl (fun ls hl => ?_)
                                      refine g_iinc (j := 1) (z := bb + 1) (lv' := [(7, .int (nI (bb + 1))), (5, .int (nI (b4 (loudS (pgv Mt 0 0 u1x) bb (dist (pgv Mt 0) tt u1x)) + 1))), (8, .int (nI (loudS (pgv Mt 0 0 u1x) bb (dist (pgv Mt 0) tt u1x)))), (6, .int (nI tt)), (4, .int (nI u1x)), (3, .int wh), (2, .int (nI few)), (0, .ref (h 0)), (1, .int (nI xq))]) C0 rfl (by first | rfl | omega) dX7_ask_168 hl (k := 2) rfl (by decide) rfl (fun ls hl => ?_)
                                      refine lv_goto (tgt := 103) hx hb dX7_ask_171 (by decide) ?_
                                      exact ih103 (bb + 1) (b4 (loudS (pgv Mt 0 0 u1x) bb (dist (pgv Mt 0) tt u1x)) + 1) (u1 b4 (loudS (pgv Mt 0 0 u1x) bb (dist (pgv Mt 0) tt u1x)) (b4 (loudS (pgv Mt 0 0 u1x) bb (dist (pgv Mt 0) tt u1x)) + 1)) (by omega) (by omega) (by omega) (by exact lw_t2 hb1 c24 hf (Or.inl ⟨by first | exact c26 | (rw [u1_s]; omega) | omega, rfl⟩)) H locs ls X (lv_sub hl [0, 3, 1, 4, 5, 6, 7, 8] rfl)
                            exact J103 ((61 - 1) + 1) 1 wo b3 (Nat.lt_succ_self _) (by omega) (by omega) (by exact hf1) H locs ls X (lv_sub hl [0, 1, 2, 3, 4, 5, 6, 7] rfl)
                      exact J84 ((Mt 20 0 - 0) + 1) 0 0 d1 (fun _ => 0) (Nat.lt_succ_self _) (by omega) (by rfl) H locs ls X (lv_sub hl [0, 1, 2, 3, 4, 5, 6] rfl)
                    · refine lv_aload_n hx hb dX7_ask_67 rfl (lv_at hl 5 rfl) ?_
                      refine g_get (v := .ref (h 9)) C0 X kX7 0 21 tb818 rfl rfl rfl dX7_ask_68 ?_
                      refine lv_iload hx hb dX7_ask_71 (lv_at hl 0 rfl) ?_
                      refine g_iconst (n := 0) C0 rfl dX7_ask_73 ?_
                      refine g_iast (g := nf (u1 b2 k 0)) (i := k) C0 X 9 0 rfl rfl (by omega) rfl (nf_u1 _ _ _) dX7_ask_74 (fun H locs X => ?_)
                      have X : Hx D zA zs H locs (mW tk h (u2 (u3 (u3 Mt 6 d1) 9 b2) 9 k 0) hi la ce) := X
                      refine g_iinc (j := 1) (z := k + 1) (lv' := [(6, .int (nI (k + 1))), (5, .int (nI 0)), (4, .int (nI u1x)), (3, .int wh), (2, .int (nI few)), (0, .ref (h 0)), (1, .int (nI xq))]) C0 rfl (by first | rfl | omega) dX7_ask_75 hl (k := 0) rfl (by decide) rfl (fun ls hl => ?_)
                      refine lv_goto (tgt := 60) hx hb dX7_ask_78 (by decide) ?_
                      exact ih60 (k + 1) (u1 b2 k 0) (by omega) (by omega) (by exact fill0 hz0) H locs ls X (lv_sub hl [0, 1, 2, 3, 4, 5, 6] rfl)
                exact J60 ((121 - 0) + 1) 0 b1 (Nat.lt_succ_self _) (by omega) (by intro j hj; omega) H locs ls X (lv_sub hl [0, 1, 2, 3, 4, 5, 6] rfl)
          exact J45 ((Mt 20 0 - 0) + 1) 0 sm (-4) d1 (Mt 9) (Nat.lt_succ_self _) (by omega) (by rfl) H locs ls X (lv_sub hl [0, 1, 2, 3, 4] rfl)
        · refine lv_iload_n hx hb dX7_ask_24 rfl (lv_at hl 1 rfl) ?_
          refine lv_aload_n hx hb dX7_ask_25 rfl (lv_at hl 2 rfl) ?_
          refine g_iconst (n := 0) C0 rfl dX7_ask_26 ?_
          refine lv_iload_n hx hb dX7_ask_27 rfl (lv_at hl 0 rfl) ?_
          refine g_callV (As := [.int (nI 0), .int (nI i)]) (rest := [.int (nI sm)]) (wr := []) (C0.sz hl) X (c_X7_breathsOn l D tk h (u3 Mt 6 d1) hi la ce 0 i (by first | assumption | omega) (by exact hW) (by exact hn) (by exact hs) (by first | assumption | omega)) ⟨tb1154, tb1157, tb8, ⟨by decide, by decide, rfl⟩, rfl, rfl, Nat.le_of_ble_eq_true rfl, Nat.le_of_ble_eq_true rfl⟩ tb1156 tbs49 0 7 rfl rfl rfl rfl [0, 1, 2, 3, 4, 5, 6, 7, 8, 9, 10, 11, 12, 13] [] rfl rfl rfl rfl rfl (Nat.le_of_ble_eq_true rfl) ⟨Nat.le_of_ble_eq_true rfl, Nat.le_of_ble_eq_true rfl⟩ dX7_ask_28 (fun _ H locs _ X => ?_)
          have X : Hx D zA zs H locs (mW tk h (u3 Mt 6 (dist (pgv Mt 0) i)) hi la ce) := X
          have hcm : manyS (pgv Mt 0) i (Mt 20 11) (mpl Mt) (mlo Mt) ≤ 60 := cnt_le _ 60
          refine g_iadd (n := sm + (manyS (pgv Mt 0) i (Mt 20 11) (mpl Mt) (mlo Mt))) C0 (by first | rfl | omega) dX7_ask_31 ?_
          refine lv_istore_n (lv' := [(2, .int (nI (sm + (manyS (pgv Mt 0) i (Mt 20 11) (mpl Mt) (mlo Mt))))), (3, .int (nI i)), (0, .ref (h 0)), (1, .int (nI xq))]) hx hb dX7_ask_32 rfl hl (by decide) rfl (fun ls hl => ?_)
          refine g_iinc (j := 1) (z := i + 1) (lv' := [(3, .int (nI (i + 1))), (2, .int (nI (sm + (manyS (pgv Mt 0) i (Mt 20 11) (mpl Mt) (mlo Mt))))), (0, .ref (h 0)), (1, .int (nI xq))]) C0 rfl (by first | rfl | omega) dX7_ask_33 hl (k := 1) rfl (by decide) rfl (fun ls hl => ?_)
          refine lv_goto (tgt := 16) hx hb dX7_ask_36 (by decide) ?_
          exact ih16 (i + 1) (sm + (manyS (pgv Mt 0) i (Mt 20 11) (mpl Mt) (mlo Mt))) (dist (pgv Mt 0) i) (by omega) (by omega) (by rw [hsm]; rfl) H locs ls X (lv_sub hl [0, 1, 2, 3] rfl)
    exact J16 ((Mt 20 0 - 0) + 1) 0 0 (Mt 6) (Nat.lt_succ_self _) (by omega) (by rfl) H locs ls X (lv_sub hl [0, 1, 2, 3] rfl)
  · refine lv_iconst (v := (-1)) hx hb dX7_ask_10 (by decide) ?_
    exact hE (v := (-1)) (Mt 6, Mt 9) (by simp only [a_ask, c2, pv80, pv81, pv82, pv83, pv0, pv1, pv2, pv3, pv4, pv5, pv6, pv7, eq_self, ne01, ne02, ne03, ne04, ne05, ne10, ne12, ne13, ne14, ne15, ne20, ne21, ne23, ne24, ne25, ne30, ne31, ne32, ne34, ne35, ne40, ne41, ne42, ne43, ne45, ne50, ne51, ne52, ne53, ne54, if_true, if_false, Bool.false_eq_true, Bool.and_self, Bool.and_true, Bool.and_false, Bool.true_and, Bool.false_and, Bool.not_true, Bool.not_false, decide_true, decide_false] <;> rfl) trivial X dX7_ask_11
