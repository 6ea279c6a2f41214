/-! numbers, rows as tables, worlds -/
theorem nI_or (a b : Nat) : nI a ||| nI b = nI (a ||| b) := by
  apply Int32.toBitVec_inj.1
  show BitVec.ofNat 32 a ||| BitVec.ofNat 32 b = BitVec.ofNat 32 (a ||| b)
  apply BitVec.eq_of_getLsbD_eq
  intro i hi
  simp [hi]
theorem nI_and (a b : Nat) : nI a &&& nI b = nI (a &&& b) := by
  apply Int32.toBitVec_inj.1
  show BitVec.ofNat 32 a &&& BitVec.ofNat 32 b = BitVec.ofNat 32 (a &&& b)
  apply BitVec.eq_of_getLsbD_eq
  intro i hi
  simp [hi]
theorem nI_xor (a b : Nat) : nI a ^^^ nI b = nI (a ^^^ b) := by
  apply Int32.toBitVec_inj.1
  show BitVec.ofNat 32 a ^^^ BitVec.ofNat 32 b = BitVec.ofNat 32 (a ^^^ b)
  apply BitVec.eq_of_getLsbD_eq
  intro i hi
  simp [hi]
theorem sh_ok {i : Nat} (h : i < 31) : i < 32 ∧ 1 * 2 ^ i < 2 ^ 32 := ⟨by omega, by rw [Nat.one_mul]; exact Nat.pow_lt_pow_right (by decide) (by omega)⟩
theorem sh_31 {i : Nat} (h : i < 31) : 2 ^ i < 2 ^ 31 := Nat.pow_lt_pow_right (by decide) h
theorem and_31 {a b : Nat} (h : a < 2 ^ 31) : a &&& b < 2 ^ 31 := Nat.lt_of_le_of_lt Nat.and_le_left h
theorem and_31' {a b : Nat} (h : b < 2 ^ 31) : a &&& b < 2 ^ 31 := Nat.lt_of_le_of_lt Nat.and_le_right h
theorem nar_byte : ∀ x, x < 128 → vp_nar .byte (nI x) = nI x := by decide +kernel
theorem nar_bool : ∀ x, x < 2 → vp_nar .boolean (nI x) = nI x := by decide +kernel
theorem nI_shl : ∀ k, k < 32 → ((nI k &&& 31).toBitVec.smod 32).toNat = k := by decide +kernel
theorem nI_inj {a b : Nat} (ha : a < 2 ^ 31) (hb : b < 2 ^ 31) (h : nI a = nI b) : a = b := (nI_eq ha hb).mp h
def nf (d : Nat → Nat) : Nat → Int32 := fun j => nI (d j)
def u1 (d : Nat → Nat) (i v : Nat) : Nat → Nat := fun j => if j = i then v else d j
def u2 (G : Nat → Nat → Nat) (f i v : Nat) : Nat → Nat → Nat := fun f' => if f' = f then u1 (G f') i v else G f'
def u3 (G : Nat → Nat → Nat) (f : Nat) (r : Nat → Nat) : Nat → Nat → Nat := fun f' => if f' = f then r else G f'
theorem u1_s (d : Nat → Nat) (i v : Nat) : u1 d i v i = v := if_pos rfl
theorem u1_n (d : Nat → Nat) {i j : Nat} (v : Nat) (h : j ≠ i) : u1 d i v j = d j := if_neg h
theorem nf_u1 (d : Nat → Nat) (i v : Nat) : upd (nf d) i (nI v) = nf (u1 d i v) := by
  funext j
  simp only [upd, nf, u1]
  split <;> rfl
/-- the answer of Math.min, max on numbers as they come -/
def g_min (x y : Int32) : Int32 := if y < x then y else x
def g_max (x y : Int32) : Int32 := if x < y then y else x
theorem g_min_nI {x y : Nat} (hx : x < 2 ^ 31) (hy : y < 2 ^ 31) : g_min (nI x) (nI y) = nI (min x y) := by
  unfold g_min
  by_cases h : y < x
  · rw [if_pos ((nI_ltI hy hx).mpr h), Nat.min_eq_right (by omega)]
  · rw [if_neg (fun q => h ((nI_ltI hy hx).mp q)), Nat.min_eq_left (by omega)]
theorem g_max_nI {x y : Nat} (hx : x < 2 ^ 31) (hy : y < 2 ^ 31) : g_max (nI x) (nI y) = nI (max x y) := by
  unfold g_max
  by_cases h : x < y
  · rw [if_pos ((nI_ltI hx hy).mpr h), Nat.max_eq_right (by omega)]
  · rw [if_neg (fun q => h ((nI_ltI hx hy).mp q)), Nat.max_eq_left (by omega)]
theorem g_max0 {a b : Nat} (ha : a < 2 ^ 30) (hb : b < 2 ^ 30) : g_max (nI 0) (nI a - nI b) = nI (a - b) := by
  unfold g_max
  by_cases h : b < a
  · rw [pk_sub (by omega), if_pos ((nI_ltI (by decide) (by omega)).mpr (by omega))]
  · rw [if_neg, show a - b = 0 by omega]
    rw [Int32.lt_iff_toInt_lt, pk_sub_toInt ha hb, nI_toInt (by decide)]; omega
abbrev TYS (tk : Nat → ClassId) : List (ClassId × FieldType) := [(tk 0, .int), (tk 1, .byte), (tk 2, .boolean), (tk 3, .object "AspenLine$Grove"), (tk 4, .object "AspenLine$Sheet")]
def imF (x y : Nat) : Nat → Option Nat := fun j => if j = 0 then some x else some y
def hsF (x0 x1 x2 x3 : Nat) : Nat → Option Nat := fun j => if j = 0 then some x0 else if j = 1 then some x1 else if j = 2 then some x2 else some x3
def gW (tk : Nat → ClassId) (h : Nat → Nat) (G : Nat → Nat → Nat) (d e : Nat → Nat) : va_W := [(h 0, .inr (1, [.int (nI (G 8 0)), .ref (h 1), .int (nI (G 8 1)), .ref (h 2), .ref (h 3), .ref (h 4), .int (nI (G 4 0)), .int (nI (G 8 2)), .int (nI (G 8 3)), .ref (h 5), .ref (h 6), .ref (h 7), .ref (h 8), .ref (h 9)])), (h 1, .inl (tk 0, 6, .inl (nf (G 0)))), (h 2, .inl (tk 0, 9, .inl (nf (G 1)))), (h 3, .inl (tk 0, 9, .inl (nf (G 2)))), (h 4, .inl (tk 0, 9, .inl (nf (G 3)))), (h 5, .inl (tk 0, 6, .inl (nf (G 5)))), (h 6, .inl (tk 0, 6, .inl (nf (G 6)))), (h 7, .inl (tk 0, 6, .inl (nf (G 7)))), (h 8, .inl (tk 0, 6, .inl (nf d))), (h 9, .inl (tk 0, 6, .inl (nf e)))]
def bW (a : Nat) (ch am : Int32) : va_W := [(a, .inr (0, [.int ch, .int am]))]
def sW (tk : Nat → ClassId) (h : Nat → Nat) (n : Nat) (pl lo le : Nat → Nat) : va_W := [(h 0, .inr (4, [.int (nI n), .ref (h 1), .ref (h 2), .ref (h 3)])), (h 1, .inl (tk 0, 6, .inl (nf pl))), (h 2, .inl (tk 0, 6, .inl (nf lo))), (h 3, .inl (tk 0, 121, .inl (nf le)))]
def tW (tk : Nat → ClassId) (a b n : Nat) (t : Nat → Nat) : va_W := [(a, .inr (5, [.int (nI n), .ref b])), (b, .inl (tk 1, 160, .inl (nf t)))]
def rW (a at_ : Nat) (hD : Nat → Nat) (fa fp kd ts te : Nat) (wt : Bool) : va_W := [(a, .inr (2, [.ref at_, .ref (hD 0), .int (nI fa), .int (nI fp), .int (nI kd), .int (nI ts), .int (nI te), .int (nI (rb wt))]))]
def shW (tk : Nat → ClassId) (a c n : Nat) (ln : Int32) (ce : Nat → Int32) : va_W := [(a, .inr (3, [.int (nI n), .ref c, .int ln])), (c, .inl (tk 0, 40, .inl ce))]
def lW (a : Nat) (hL hT : Nat → Nat) (im bs rd : Nat) (hS : Nat → Nat) (sh kb rf : Nat) : va_W := [(a, .inr (6, [.ref (hL 0), .ref (hT 0), .ref im, .ref bs, .ref rd, .ref (hS 0), .ref sh, .int (nI kb), .int (nI rf)]))]
def imW (tk : Nat → ClassId) (a x y : Nat) : va_W := [(a, .inl (tk 3, 2, .inr (.inr (.inr (.inr (imF x y))))))]
def hsW (tk : Nat → ClassId) (a x0 x1 x2 x3 : Nat) : va_W := [(a, .inl (tk 4, 4, .inr (.inr (.inr (.inr (hsF x0 x1 x2 x3))))))]
def mEndsL : List Nat := [0, 5, 11, 14, 21, 25, 29, 33]
def mLettersL : List Nat := [112, 108, 97, 105, 110, 115, 105, 108, 118, 101, 114, 111, 108, 100, 115, 97, 112, 108, 105, 110, 103, 114, 111, 111, 116, 116, 97, 108, 107, 119, 105, 110, 100]
def mEnds : Nat → Nat := fun j => mEndsL.getD j 0
def mLetters : Nat → Nat := fun j => mLettersL.getD j 0
def mW (tk : Nat → ClassId) (h : Nat → Nat) (Mt : Nat → Nat → Nat) (hi : Int32) (la ce : Nat → Int32) : va_W := [(h 0, .inr (7, [.ref (h 1), .int (nI (Mt 20 0)), .ref (h 2), .int (nI (Mt 20 1)), .int (nI (Mt 20 2)), .int hi, .ref (h 3), .int (nI (Mt 20 3)), .int (nI (Mt 20 4)), .int (nI (Mt 20 5)), .int (nI (Mt 20 6)), .int (nI (Mt 20 7)), .int (nI (Mt 20 8)), .int (nI (Mt 20 9)), .int (nI (Mt 20 10)), .ref (h 4), .ref (h 5), .ref (h 6), .ref (h 7), .ref (h 8), .int (nI (Mt 20 11)), .ref (h 9), .ref (h 10), .ref (h 11), .ref (h 12), .ref (h 13), .int (nI (Mt 20 12))])), (h 1, .inl (tk 0, 315, .inl (nf (Mt 0)))), (h 2, .inl (tk 0, 63, .inl (nf (Mt 1)))), (h 3, .inl (tk 0, 160, .inl (nf (Mt 2)))), (h 4, .inl (tk 0, 8, .inl (nf mEnds))), (h 5, .inl (tk 0, 33, .inl (nf mLetters))), (h 6, .inl (tk 0, 6, .inl (nf (Mt 6)))), (h 7, .inl (tk 0, 6, .inl (nf (Mt 7)))), (h 8, .inl (tk 0, 12, .inl (nf (Mt 8)))), (h 9, .inl (tk 0, 121, .inl (nf (Mt 9)))), (h 10, .inl (tk 2, 2, .inl (nf (Mt 10)))), (h 11, .inl (tk 0, 4, .inl la)), (h 12, .inl (tk 0, 4, .inl (nf (Mt 12)))), (h 13, .inl (tk 0, 160, .inl ce))]
theorem Cx.sz {p : Program} {s : State} {m : MethodId} {args : Array Value} {c : Code} {cc : ByteArray} {own : String} {nL : Nat} {D : va_G} {TY : List (ClassId × FieldType)} {ls : Array Slot} {lv : List (Nat × Value)} (C0 : Cx p s m args c cc own nL D TY) (h : lv_has ls nL lv) : Cx p s m args c cc own ls.size D TY := by rw [h.1]; exact C0
section RY
variable {p : Program} {l : Launch} {e : Env} {R : Room} {s : State} {m : MethodId} {args : Array Value} {below : List Frame} {meth : Method} {c : Code} {H : Heap} {locs : List Loc} {cells slots : Nat} {Q : State → Prop}
variable {cc : ByteArray} {pc : Nat} {ls : Array Slot} {rest : List Value} {D : va_G} {A : Nat → Prop} {a : Nat} {TY : List (ClassId × FieldType)} {ws : va_W} {own : String} {nL : Nat}
theorem g_iconst (C0 : Cx p s m args c cc own nL D TY) {n : Nat} {k : Int} (hk : Int32.ofInt k = nI n) (hdg : decode cc pc = .ok (.iconst k, 1)) (kk : W p l e R s m args below meth c H locs cells slots Q (F0 m (pc + 1) ls (.int (nI n) :: rest))) : W p l e R s m args below meth c H locs cells slots Q (F0 m (pc) ls (rest)) := lv_iconst (v := nI n) C0.1 C0.2.1 hdg hk kk
theorem g_bipush (C0 : Cx p s m args c cc own nL D TY) {n : Nat} {k : Int} (hk : (Int8.ofInt k).toInt32 = nI n) (hdg : decode cc pc = .ok (.bipush k, 2)) (kk : W p l e R s m args below meth c H locs cells slots Q (F0 m (pc + 2) ls (.int (nI n) :: rest))) : W p l e R s m args below meth c H locs cells slots Q (F0 m (pc) ls (rest)) := lv_bipush (v := nI n) C0.1 C0.2.1 hdg hk kk
theorem g_sipush (C0 : Cx p s m args c cc own nL D TY) {n : Nat} {k : Int} (hk : (Int16.ofInt k).toInt32 = nI n) (hdg : decode cc pc = .ok (.sipush k, 3)) (kk : W p l e R s m args below meth c H locs cells slots Q (F0 m (pc + 3) ls (.int (nI n) :: rest))) : W p l e R s m args below meth c H locs cells slots Q (F0 m (pc) ls (rest)) := lv_sipush (v := nI n) C0.1 C0.2.1 hdg hk kk
theorem g_lconst (C0 : Cx p s m args c cc own nL D TY) {n : Nat} {k : Fin 2} (hk : k.val = n) (hdg : decode cc pc = .ok (.lconst k, 1)) (kk : W p l e R s m args below meth c H locs cells slots Q (F0 m (pc + 1) ls (.long (lN n) :: rest))) : W p l e R s m args below meth c H locs cells slots Q (F0 m (pc) ls (rest)) := lv_lconst (v := lN n) C0.1 C0.2.1 hdg (by subst hk; rfl) kk
theorem g_top {x y : Int32} (h : x = y) (kk : W p l e R s m args below meth c H locs cells slots Q (F0 m (pc) ls (.int y :: rest))) : W p l e R s m args below meth c H locs cells slots Q (F0 m (pc) ls (.int x :: rest)) := by rw [h]; exact kk
theorem g_topL {x y : Int64} (h : x = y) (kk : W p l e R s m args below meth c H locs cells slots Q (F0 m (pc) ls (.long y :: rest))) : W p l e R s m args below meth c H locs cells slots Q (F0 m (pc) ls (.long x :: rest)) := by rw [h]; exact kk
theorem g_iand (C0 : Cx p s m args c cc own nL D TY) {x y n : Nat} (hn : x &&& y = n) (hdg : decode cc pc = .ok (.iand, 1)) (kk : W p l e R s m args below meth c H locs cells slots Q (F0 m (pc + 1) ls (.int (nI n) :: rest))) : W p l e R s m args below meth c H locs cells slots Q (F0 m (pc) ls (.int (nI y) :: .int (nI x) :: rest)) :=
  lv_iand C0.1 C0.2.1 hdg (by subst hn; rw [nI_and]; exact kk)
theorem g_ior (C0 : Cx p s m args c cc own nL D TY) {x y n : Nat} (hn : x ||| y = n) (hdg : decode cc pc = .ok (.ior, 1)) (kk : W p l e R s m args below meth c H locs cells slots Q (F0 m (pc + 1) ls (.int (nI n) :: rest))) : W p l e R s m args below meth c H locs cells slots Q (F0 m (pc) ls (.int (nI y) :: .int (nI x) :: rest)) :=
  lv_ior C0.1 C0.2.1 hdg (by subst hn; rw [nI_or]; exact kk)
theorem g_ixor (C0 : Cx p s m args c cc own nL D TY) {x y n : Nat} (hn : x ^^^ y = n) (hdg : decode cc pc = .ok (.ixor, 1)) (kk : W p l e R s m args below meth c H locs cells slots Q (F0 m (pc + 1) ls (.int (nI n) :: rest))) : W p l e R s m args below meth c H locs cells slots Q (F0 m (pc) ls (.int (nI y) :: .int (nI x) :: rest)) :=
  lv_ixor C0.1 C0.2.1 hdg (by subst hn; rw [nI_xor]; exact kk)
theorem g_idiv (C0 : Cx p s m args c cc own nL D TY) {x y n : Nat} (h0 : 0 < y ∧ y < 2 ^ 31 ∧ x < 2 ^ 31) (hn : x / y = n) (hdg : decode cc pc = .ok (.idiv, 1)) (kk : W p l e R s m args below meth c H locs cells slots Q (F0 m (pc + 1) ls (.int (nI n) :: rest))) : W p l e R s m args below meth c H locs cells slots Q (F0 m (pc) ls (.int (nI y) :: .int (nI x) :: rest)) :=
  lv_idiv C0.1 C0.2.1 hdg (nI_ne0 h0.1 h0.2.1) (by subst hn; rw [pk_div h0.2.2 h0.1 h0.2.1]; exact kk)
theorem g_irem (C0 : Cx p s m args c cc own nL D TY) {x y n : Nat} (h0 : 0 < y ∧ y < 2 ^ 31 ∧ x < 2 ^ 31) (hn : x % y = n) (hdg : decode cc pc = .ok (.irem, 1)) (kk : W p l e R s m args below meth c H locs cells slots Q (F0 m (pc + 1) ls (.int (nI n) :: rest))) : W p l e R s m args below meth c H locs cells slots Q (F0 m (pc) ls (.int (nI y) :: .int (nI x) :: rest)) :=
  lv_irem C0.1 C0.2.1 hdg (nI_ne0 h0.1 h0.2.1) (by subst hn; rw [pk_rem h0.2.2 h0.1 h0.2.1]; exact kk)
theorem g_ishl (C0 : Cx p s m args c cc own nL D TY) {x y n : Nat} (h0 : y < 32 ∧ x * 2 ^ y < 2 ^ 32) (hn : x * 2 ^ y = n) (hdg : decode cc pc = .ok (.ishl, 1)) (kk : W p l e R s m args below meth c H locs cells slots Q (F0 m (pc + 1) ls (.int (nI n) :: rest))) : W p l e R s m args below meth c H locs cells slots Q (F0 m (pc) ls (.int (nI y) :: .int (nI x) :: rest)) :=
  lv_ishl C0.1 C0.2.1 hdg (by subst hn; rw [pk_shlN _ y (nI_shl y h0.1) h0.2]; exact kk)
theorem g_ishr (C0 : Cx p s m args c cc own nL D TY) {x y n : Nat} (hx : x < 2 ^ 31) (hy : y < 32) (hn : x / 2 ^ y = n) (hdg : decode cc pc = .ok (.ishr, 1)) (kk : W p l e R s m args below meth c H locs cells slots Q (F0 m (pc + 1) ls (.int (nI n) :: rest))) : W p l e R s m args below meth c H locs cells slots Q (F0 m (pc) ls (.int (nI y) :: .int (nI x) :: rest)) :=
  lv_ishr C0.1 C0.2.1 hdg (by subst hn; rw [pk_shrN hx _ y (nI_shl y hy)]; exact kk)
theorem g_ladd (C0 : Cx p s m args c cc own nL D TY) {x y n : Nat} (hn : x + y = n) (hdg : decode cc pc = .ok (.ladd, 1)) (kk : W p l e R s m args below meth c H locs cells slots Q (F0 m (pc + 1) ls (.long (lN n) :: rest))) : W p l e R s m args below meth c H locs cells slots Q (F0 m (pc) ls (.long (lN y) :: .long (lN x) :: rest)) :=
  lv_ladd C0.1 C0.2.1 hdg (by subst hn; rw [lN_add]; exact kk)
theorem g_lmul (C0 : Cx p s m args c cc own nL D TY) {x y n : Nat} (hn : x * y = n) (hdg : decode cc pc = .ok (.lmul, 1)) (kk : W p l e R s m args below meth c H locs cells slots Q (F0 m (pc + 1) ls (.long (lN n) :: rest))) : W p l e R s m args below meth c H locs cells slots Q (F0 m (pc) ls (.long (lN y) :: .long (lN x) :: rest)) :=
  lv_lmul C0.1 C0.2.1 hdg (by subst hn; rw [lN_mul]; exact kk)
theorem g_ldiv (C0 : Cx p s m args c cc own nL D TY) {x y n : Nat} (h0 : 0 < y ∧ y < 2 ^ 63 ∧ x < 2 ^ 63) (hn : x / y = n) (hdg : decode cc pc = .ok (.ldiv, 1)) (kk : W p l e R s m args below meth c H locs cells slots Q (F0 m (pc + 1) ls (.long (lN n) :: rest))) : W p l e R s m args below meth c H locs cells slots Q (F0 m (pc) ls (.long (lN y) :: .long (lN x) :: rest)) :=
  lv_ldiv C0.1 C0.2.1 hdg (fun q => by have h9 := (pk_lEQ h0.2.1 (b := 0) (by decide)).mp q; omega) (by subst hn; rw [pk_lDiv h0.2.2 h0.1 h0.2.1]; exact kk)
theorem g_lrem (C0 : Cx p s m args c cc own nL D TY) {x y n : Nat} (h0 : 0 < y ∧ y < 2 ^ 63 ∧ x < 2 ^ 63) (hn : x % y = n) (hdg : decode cc pc = .ok (.lrem, 1)) (kk : W p l e R s m args below meth c H locs cells slots Q (F0 m (pc + 1) ls (.long (lN n) :: rest))) : W p l e R s m args below meth c H locs cells slots Q (F0 m (pc) ls (.long (lN y) :: .long (lN x) :: rest)) :=
  lv_lrem C0.1 C0.2.1 hdg (fun q => by have h9 := (pk_lEQ h0.2.1 (b := 0) (by decide)).mp q; omega) (by subst hn; rw [pk_lRem h0.2.2 h0.1 h0.2.1]; exact kk)
theorem g_i2l (C0 : Cx p s m args c cc own nL D TY) {x : Nat} (hx : x < 2 ^ 31) (hdg : decode cc pc = .ok (.i2l, 1)) (kk : W p l e R s m args below meth c H locs cells slots Q (F0 m (pc + 1) ls (.long (lN x) :: rest))) : W p l e R s m args below meth c H locs cells slots Q (F0 m (pc) ls (.int (nI x) :: rest)) := lv_i2l (v := lN x) C0.1 C0.2.1 hdg (nI_l hx) kk
theorem g_i2b (C0 : Cx p s m args c cc own nL D TY) {x : Nat} (hx : x < 128) (hdg : decode cc pc = .ok (.i2b, 1)) (kk : W p l e R s m args below meth c H locs cells slots Q (F0 m (pc + 1) ls (.int (nI x) :: rest))) : W p l e R s m args below meth c H locs cells slots Q (F0 m (pc) ls (.int (nI x) :: rest)) := lv_i2b (v := nI x) C0.1 C0.2.1 hdg (nar_byte x hx) kk
theorem g_alen (C0 : Cx p s m args c cc own nL D TY) (X : Hx D A s H locs ws) (q0 t0 : Nat) {cA : ClassId} {x : vp_A} {ty : FieldType} {n : Nat} (ha : ws[q0]? = some (a, .inl (cA, x))) (ht : TY[t0]? = some (cA, ty)) (hn : x.1 = n) (hdg : decode cc pc = .ok (.arraylength, 1)) (kk : W p l e R s m args below meth c H locs cells slots Q (F0 m (pc + 1) ls (.int (nI n) :: rest))) : W p l e R s m args below meth c H locs cells slots Q (F0 m (pc) ls (.ref a :: rest)) := va_alen (v := nI n) C0.1 C0.2.1 C0.2.2.2.2.2 X.1 q0 t0 ha ht (by rw [hn]; rfl) hdg kk
theorem g_objInit (C0 : Cx p s m args c cc own nL D TY) (hl : ls.size = nL) {idx : Nat} (hlink : Cond.methodLink own idx Lib.objectInit ∈ TB) (hinst : Cond.instanceMethod Lib.objectInit ∈ TB) (hcode : Cond.code Lib.objectInit ⟨#[0xb1]⟩ 1 none ∈ TB) (hdg : decode cc pc = .ok (.invokespecial idx, 3)) (hf : 1 ≤ R.frames) (hlo : (rest.map fun v => v.category).sum + 12 ≤ R.locals) (kk : W p l e R s m args below meth c H locs cells slots Q (F0 m (pc + 3) ls (rest))) : W p l e R s m args below meth c H locs cells slots Q (F0 m (pc) ls (.ref a :: rest)) := by
  obtain ⟨hx, hb, hml, hown, ht, hK⟩ := C0
  exact W.objInit hx hb hown (ht _ hlink) (ht _ hinst) (ht _ hcode) rfl (by rw [hml]; exact hl) rfl hdg hf (by show 2 * 0 + _ + 12 ≤ _; omega) kk
theorem g_minR (C0 : Cx p s m args c cc own nL D TY) {lv : List (Nat × Value)} (hl : lv_has ls nL lv) {index : Nat} (hlink : Cond.methodLink own index Lib.Math.min.name ∈ TB) (hstat : Cond.static Lib.Math.min.name ∈ TB) (hini : Cond.initialized "java/lang/Math" ∈ TB) (hcode : Cond.code Lib.Math.min.name Lib.Math.min.code 2 (some .int) ∈ TB) {x y : Int32} (hr : Nat.ble 1 R.frames = true ∧ Nat.ble ((rest.map fun v => v.category).sum + 13) R.locals = true ∧ Nat.ble cells R.cells = true ∧ Nat.ble slots R.slots = true) (hdg : decode cc pc = .ok (.invokestatic index, 3)) (kk : W p l e R s m args below meth c H locs cells slots Q (F0 m (pc + 3) ls (.int (g_min x y) :: rest))) : W p l e R s m args below meth c H locs cells slots Q (F0 m (pc) ls (.int y :: .int x :: rest)) := by
  obtain ⟨hx, hb, hml, hown, ht, hK⟩ := C0
  exact va_mmin hx hb (by rw [hml]; exact hl.1.symm) hown (ht _ hlink) (ht _ hstat) (ht _ hini) (ht _ hcode) (Nat.le_of_ble_eq_true hr.1) (Nat.le_of_ble_eq_true hr.2.1) (Nat.le_of_ble_eq_true hr.2.2.1) (Nat.le_of_ble_eq_true hr.2.2.2) hdg kk
theorem g_min' (C0 : Cx p s m args c cc own nL D TY) {lv : List (Nat × Value)} (hl : lv_has ls nL lv) {index : Nat} (hlink : Cond.methodLink own index Lib.Math.min.name ∈ TB) (hstat : Cond.static Lib.Math.min.name ∈ TB) (hini : Cond.initialized "java/lang/Math" ∈ TB) (hcode : Cond.code Lib.Math.min.name Lib.Math.min.code 2 (some .int) ∈ TB) {x y : Nat} (hx : x < 2 ^ 31) (hy : y < 2 ^ 31) (hr : Nat.ble 1 R.frames = true ∧ Nat.ble ((rest.map fun v => v.category).sum + 13) R.locals = true ∧ Nat.ble cells R.cells = true ∧ Nat.ble slots R.slots = true) (hdg : decode cc pc = .ok (.invokestatic index, 3)) (kk : W p l e R s m args below meth c H locs cells slots Q (F0 m (pc + 3) ls (.int (nI (min x y)) :: rest))) : W p l e R s m args below meth c H locs cells slots Q (F0 m (pc) ls (.int (nI y) :: .int (nI x) :: rest)) := g_minR C0 hl hlink hstat hini hcode hr hdg (by rw [g_min_nI hx hy]; exact kk)
theorem g_maxR (C0 : Cx p s m args c cc own nL D TY) {lv : List (Nat × Value)} (hl : lv_has ls nL lv) {index : Nat} (hlink : Cond.methodLink own index Lib.Math.max.name ∈ TB) (hstat : Cond.static Lib.Math.max.name ∈ TB) (hini : Cond.initialized "java/lang/Math" ∈ TB) (hcode : Cond.code Lib.Math.max.name Lib.Math.max.code 2 (some .int) ∈ TB) {x y : Int32} (hr : Nat.ble 1 R.frames = true ∧ Nat.ble ((rest.map fun v => v.category).sum + 13) R.locals = true ∧ Nat.ble cells R.cells = true ∧ Nat.ble slots R.slots = true) (hdg : decode cc pc = .ok (.invokestatic index, 3)) (kk : W p l e R s m args below meth c H locs cells slots Q (F0 m (pc + 3) ls (.int (g_max x y) :: rest))) : W p l e R s m args below meth c H locs cells slots Q (F0 m (pc) ls (.int y :: .int x :: rest)) := by
  obtain ⟨hx, hb, hml, hown, ht, hK⟩ := C0
  exact va_mmax hx hb (by rw [hml]; exact hl.1.symm) hown (ht _ hlink) (ht _ hstat) (ht _ hini) (ht _ hcode) (Nat.le_of_ble_eq_true hr.1) (Nat.le_of_ble_eq_true hr.2.1) (Nat.le_of_ble_eq_true hr.2.2.1) (Nat.le_of_ble_eq_true hr.2.2.2) hdg kk
theorem g_max' (C0 : Cx p s m args c cc own nL D TY) {lv : List (Nat × Value)} (hl : lv_has ls nL lv) {index : Nat} (hlink : Cond.methodLink own index Lib.Math.max.name ∈ TB) (hstat : Cond.static Lib.Math.max.name ∈ TB) (hini : Cond.initialized "java/lang/Math" ∈ TB) (hcode : Cond.code Lib.Math.max.name Lib.Math.max.code 2 (some .int) ∈ TB) {x y : Nat} (hx : x < 2 ^ 31) (hy : y < 2 ^ 31) (hr : Nat.ble 1 R.frames = true ∧ Nat.ble ((rest.map fun v => v.category).sum + 13) R.locals = true ∧ Nat.ble cells R.cells = true ∧ Nat.ble slots R.slots = true) (hdg : decode cc pc = .ok (.invokestatic index, 3)) (kk : W p l e R s m args below meth c H locs cells slots Q (F0 m (pc + 3) ls (.int (nI (max x y)) :: rest))) : W p l e R s m args below meth c H locs cells slots Q (F0 m (pc) ls (.int (nI y) :: .int (nI x) :: rest)) := g_maxR C0 hl hlink hstat hini hcode hr hdg (by rw [g_max_nI hx hy]; exact kk)
theorem g_bald (C0 : Cx p s m args c cc own nL D TY) (X : Hx D A s H locs ws) (q0 t0 : Nat) {cA : ClassId} {n : Nat} {f : Nat → Int32} {i : Nat} {v : Int32} (ha : ws[q0]? = some (a, .inl (cA, n, .inl f))) (ht : TY[t0]? = some (cA, .byte)) (hi : i < n) (hn : Nat.ble (n + 1) 100000 = true) (hv : f i = v) (hdg : decode cc pc = .ok (.baload, 1))
    (kk : W p l e R s m args below meth c H locs cells slots Q (F0 m (pc + 1) ls (.int v :: rest))) : W p l e R s m args below meth c H locs cells slots Q (F0 m (pc) ls (.int (nI i) :: .ref a :: rest)) := by
  obtain ⟨hx, hb, hml, hown, -, hK⟩ := C0
  have h9 : n < 2 ^ 31 := by have := Nat.le_of_ble_eq_true hn; omega
  have h8 : (nI i).toNatClampNeg = i := nI_clamp (by omega)
  exact va_bald hx hb hK X.1 q0 t0 ha ht (vp_in_nI hi h9) hdg (by rw [h8, hv]; exact kk)
theorem g_bast (C0 : Cx p s m args c cc own nL D TY) (X : Hx D A s H locs ws) (q0 t0 : Nat) {cA : ClassId} {n : Nat} {f g : Nat → Int32} {i x : Nat} (ha : ws[q0]? = some (a, .inl (cA, n, .inl f))) (ht : TY[t0]? = some (cA, .byte)) (hi : i < n) (hn : Nat.ble (n + 1) 100000 = true) (hx0 : x < 128) (hg : upd f i (nI x) = g) (hdg : decode cc pc = .ok (.bastore, 1))
    (kk : ∀ (H1 : Heap) (locs1 : List Loc), Hx D A s H1 locs1 (ws.set q0 (a, .inl (cA, n, .inl g))) → W p l e R s m args below meth c H1 locs1 cells slots Q (F0 m (pc + 1) ls rest)) : W p l e R s m args below meth c H locs cells slots Q (F0 m (pc) ls (.int (nI x) :: .int (nI i) :: .ref a :: rest)) := by
  obtain ⟨hx, hb, hml, hown, -, hK⟩ := C0
  obtain ⟨hP, hD, hS, hA⟩ := X
  have h9 : n < 2 ^ 31 := by have := Nat.le_of_ble_eq_true hn; omega
  have h8 : (nI i).toNatClampNeg = i := nI_clamp (by omega)
  have h7 : vp_nar .byte (nI x) = nI x := nar_byte x hx0
  subst hg
  exact va_bast hx hb hK hP hD hS q0 t0 ha ht (vp_in_nI hi h9) hdg (fun H1 locs1 h1 h2 h3 => kk H1 locs1 (by rw [h8, h7] at h1 h2; exact ⟨h1, h2, h3, hA⟩))
theorem g_zald (C0 : Cx p s m args c cc own nL D TY) (X : Hx D A s H locs ws) (q0 t0 : Nat) {cA : ClassId} {n : Nat} {f : Nat → Int32} {i : Nat} {v : Int32} (ha : ws[q0]? = some (a, .inl (cA, n, .inl f))) (ht : TY[t0]? = some (cA, .boolean)) (hi : i < n) (hn : Nat.ble (n + 1) 100000 = true) (hv : f i = v) (hdg : decode cc pc = .ok (.baload, 1))
    (kk : W p l e R s m args below meth c H locs cells slots Q (F0 m (pc + 1) ls (.int v :: rest))) : W p l e R s m args below meth c H locs cells slots Q (F0 m (pc) ls (.int (nI i) :: .ref a :: rest)) := by
  obtain ⟨hx, hb, hml, hown, -, hK⟩ := C0
  have h9 : n < 2 ^ 31 := by have := Nat.le_of_ble_eq_true hn; omega
  have h8 : (nI i).toNatClampNeg = i := nI_clamp (by omega)
  exact va_zald hx hb hK X.1 q0 t0 ha ht (vp_in_nI hi h9) hdg (by rw [h8, hv]; exact kk)
theorem g_zast (C0 : Cx p s m args c cc own nL D TY) (X : Hx D A s H locs ws) (q0 t0 : Nat) {cA : ClassId} {n : Nat} {f g : Nat → Int32} {i x : Nat} (ha : ws[q0]? = some (a, .inl (cA, n, .inl f))) (ht : TY[t0]? = some (cA, .boolean)) (hi : i < n) (hn : Nat.ble (n + 1) 100000 = true) (hx0 : x < 2) (hg : upd f i (nI x) = g) (hdg : decode cc pc = .ok (.bastore, 1))
    (kk : ∀ (H1 : Heap) (locs1 : List Loc), Hx D A s H1 locs1 (ws.set q0 (a, .inl (cA, n, .inl g))) → W p l e R s m args below meth c H1 locs1 cells slots Q (F0 m (pc + 1) ls rest)) : W p l e R s m args below meth c H locs cells slots Q (F0 m (pc) ls (.int (nI x) :: .int (nI i) :: .ref a :: rest)) := by
  obtain ⟨hx, hb, hml, hown, -, hK⟩ := C0
  obtain ⟨hP, hD, hS, hA⟩ := X
  have h9 : n < 2 ^ 31 := by have := Nat.le_of_ble_eq_true hn; omega
  have h8 : (nI i).toNatClampNeg = i := nI_clamp (by omega)
  have h7 : vp_nar .boolean (nI x) = nI x := nar_bool x hx0
  subst hg
  exact va_zast hx hb hK hP hD hS q0 t0 ha ht (vp_in_nI hi h9) hdg (fun H1 locs1 h1 h2 h3 => kk H1 locs1 (by rw [h8, h7] at h1 h2; exact ⟨h1, h2, h3, hA⟩))
theorem g_aald (C0 : Cx p s m args c cc own nL D TY) (X : Hx D A s H locs ws) (q0 t0 : Nat) {cA : ClassId} {C : String} {n : Nat} {f : Nat → Option Nat} {i v : Nat} (ha : ws[q0]? = some (a, .inl (cA, n, .inr (.inr (.inr (.inr f)))))) (ht : TY[t0]? = some (cA, .object C)) (hi : i < n) (hn : Nat.ble (n + 1) 100000 = true) (hv : f i = some v) (hdg : decode cc pc = .ok (.aaload, 1))
    (kk : W p l e R s m args below meth c H locs cells slots Q (F0 m (pc + 1) ls (.ref v :: rest))) : W p l e R s m args below meth c H locs cells slots Q (F0 m (pc) ls (.int (nI i) :: .ref a :: rest)) := by
  obtain ⟨hx, hb, hml, hown, -, hK⟩ := C0
  have h9 : n < 2 ^ 31 := by have := Nat.le_of_ble_eq_true hn; omega
  have h8 : (nI i).toNatClampNeg = i := nI_clamp (by omega)
  exact va_aldq hx hb hK X.1 q0 t0 ha ht (vp_in_nI hi h9) hdg (by rw [h8, hv]; exact kk)
theorem g_lcmpR_lt (C0 : Cx p s m args c cc own nL D TY) {x y : Int64} {off : Int} {tgt : Nat} (hdg : decode cc pc = .ok (.lcmp, 1)) (hdg2 : decode cc (pc + 1) = .ok (.ifCond .lt off, 3)) (ht : ((pc + 1 : Nat) : Int) + off = (tgt : Int)) (kt : x < y → W p l e R s m args below meth c H locs cells slots Q (F0 m tgt ls rest)) (kf : ¬ (x < y) → W p l e R s m args below meth c H locs cells slots Q (F0 m (pc + 1 + 3) ls rest)) : W p l e R s m args below meth c H locs cells slots Q (F0 m (pc) ls (.long y :: .long x :: rest)) :=
  W.lcmp C0.1 C0.2.1 hdg (lv_if_lt C0.1 C0.2.1 hdg2 ht (fun h => kt ((lg_cmp_lt x y).mp h)) (fun h => kf (fun q => h ((lg_cmp_lt x y).mpr q))))
theorem g_lcmpR_ge (C0 : Cx p s m args c cc own nL D TY) {x y : Int64} {off : Int} {tgt : Nat} (hdg : decode cc pc = .ok (.lcmp, 1)) (hdg2 : decode cc (pc + 1) = .ok (.ifCond .ge off, 3)) (ht : ((pc + 1 : Nat) : Int) + off = (tgt : Int)) (kt : y ≤ x → W p l e R s m args below meth c H locs cells slots Q (F0 m tgt ls rest)) (kf : ¬ (y ≤ x) → W p l e R s m args below meth c H locs cells slots Q (F0 m (pc + 1 + 3) ls rest)) : W p l e R s m args below meth c H locs cells slots Q (F0 m (pc) ls (.long y :: .long x :: rest)) :=
  W.lcmp C0.1 C0.2.1 hdg (lv_if_ge C0.1 C0.2.1 hdg2 ht (fun h => kt ((lg_cmp_ge x y).mp h)) (fun h => kf (fun q => h ((lg_cmp_ge x y).mpr q))))
theorem g_lcmpR_gt (C0 : Cx p s m args c cc own nL D TY) {x y : Int64} {off : Int} {tgt : Nat} (hdg : decode cc pc = .ok (.lcmp, 1)) (hdg2 : decode cc (pc + 1) = .ok (.ifCond .gt off, 3)) (ht : ((pc + 1 : Nat) : Int) + off = (tgt : Int)) (kt : y < x → W p l e R s m args below meth c H locs cells slots Q (F0 m tgt ls rest)) (kf : ¬ (y < x) → W p l e R s m args below meth c H locs cells slots Q (F0 m (pc + 1 + 3) ls rest)) : W p l e R s m args below meth c H locs cells slots Q (F0 m (pc) ls (.long y :: .long x :: rest)) :=
  W.lcmp C0.1 C0.2.1 hdg (lv_if_gt C0.1 C0.2.1 hdg2 ht (fun h => kt ((lg_cmp_gt x y).mp h)) (fun h => kf (fun q => h ((lg_cmp_gt x y).mpr q))))
theorem g_lcmpR_le (C0 : Cx p s m args c cc own nL D TY) {x y : Int64} {off : Int} {tgt : Nat} (hdg : decode cc pc = .ok (.lcmp, 1)) (hdg2 : decode cc (pc + 1) = .ok (.ifCond .le off, 3)) (ht : ((pc + 1 : Nat) : Int) + off = (tgt : Int)) (kt : x ≤ y → W p l e R s m args below meth c H locs cells slots Q (F0 m tgt ls rest)) (kf : ¬ (x ≤ y) → W p l e R s m args below meth c H locs cells slots Q (F0 m (pc + 1 + 3) ls rest)) : W p l e R s m args below meth c H locs cells slots Q (F0 m (pc) ls (.long y :: .long x :: rest)) :=
  W.lcmp C0.1 C0.2.1 hdg (lv_if_le C0.1 C0.2.1 hdg2 ht (fun h => kt ((lg_cmp_le x y).mp h)) (fun h => kf (fun q => h ((lg_cmp_le x y).mpr q))))
theorem g_lcmpR_eq (C0 : Cx p s m args c cc own nL D TY) {x y : Int64} {off : Int} {tgt : Nat} (hdg : decode cc pc = .ok (.lcmp, 1)) (hdg2 : decode cc (pc + 1) = .ok (.ifCond .eq off, 3)) (ht : ((pc + 1 : Nat) : Int) + off = (tgt : Int)) (kt : x = y → W p l e R s m args below meth c H locs cells slots Q (F0 m tgt ls rest)) (kf : ¬ (x = y) → W p l e R s m args below meth c H locs cells slots Q (F0 m (pc + 1 + 3) ls rest)) : W p l e R s m args below meth c H locs cells slots Q (F0 m (pc) ls (.long y :: .long x :: rest)) :=
  W.lcmp C0.1 C0.2.1 hdg (lv_if_eq C0.1 C0.2.1 hdg2 ht (fun h => kt ((lg_cmp_eq x y).mp h)) (fun h => kf (fun q => h ((lg_cmp_eq x y).mpr q))))
theorem g_lcmp_eq (C0 : Cx p s m args c cc own nL D TY) {x y : Nat} (hx : x < 2 ^ 63) (hy : y < 2 ^ 63) {off : Int} {tgt : Nat} (hdg : decode cc pc = .ok (.lcmp, 1)) (hdg2 : decode cc (pc + 1) = .ok (.ifCond .eq off, 3)) (ht : ((pc + 1 : Nat) : Int) + off = (tgt : Int)) (kt : x = y → W p l e R s m args below meth c H locs cells slots Q (F0 m tgt ls rest)) (kf : x ≠ y → W p l e R s m args below meth c H locs cells slots Q (F0 m (pc + 1 + 3) ls rest)) : W p l e R s m args below meth c H locs cells slots Q (F0 m (pc) ls (.long (lN y) :: .long (lN x) :: rest)) :=
  g_lcmpR_eq C0 hdg hdg2 ht (fun h => kt ((pk_lEQ hx hy).mp h)) (fun h => kf (fun q => h ((pk_lEQ hx hy).mpr q)))
theorem g_swIn (C0 : Cx p s m args c cc own nL D TY) {dflt lo hi : Int} {offs : Array Int} {len : Nat} {x : Int32} {k lo' : Nat} {off : Int} {tgt : Nat} (h : x = nI k) (hk : Nat.ble (k + 1) 1000 = true) (hlk : Nat.ble lo' k = true) (hdg : decode cc pc = .ok (.tableswitch dflt lo hi offs, len)) (hlo : lo = (lo' : Int)) (hhi : decide ((k : Int) ≤ hi) = true) (ho : offs[k - lo']? = some off) (ht : (pc : Int) + off = (tgt : Int)) (kk : W p l e R s m args below meth c H locs cells slots Q (F0 m tgt ls rest)) : W p l e R s m args below meth c H locs cells slots Q (F0 m (pc) ls (.int x :: rest)) := by
  have h9 := Nat.le_of_ble_eq_true hk
  have h7 := Nat.le_of_ble_eq_true hlk
  have h8 : x.toInt = (k : Int) := by rw [h]; exact nI_toInt (by omega)
  subst hlo
  exact lv_tableIn C0.1 C0.2.1 hdg (by rw [h8]; omega) (by rw [h8]; have := of_decide_eq_true hhi; omega) (by rw [h8, show ((k : Int) - (lo' : Int)).toNat = k - lo' by omega]; exact ho) ht kk
theorem g_swOut (C0 : Cx p s m args c cc own nL D TY) {dflt lo hi : Int} {offs : Array Int} {len : Nat} {x : Int32} {n lo' : Nat} {tgt : Nat} (h : ∀ j, lo' ≤ j → j < n → ¬ x = nI j) (hn : Nat.ble (n + 1) 1000 = true) (hdg : decode cc pc = .ok (.tableswitch dflt lo hi offs, len)) (hlo : lo = (lo' : Int)) (hhi : hi + 1 = (n : Int)) (ht : (pc : Int) + dflt = (tgt : Int)) (kk : W p l e R s m args below meth c H locs cells slots Q (F0 m tgt ls rest)) : W p l e R s m args below meth c H locs cells slots Q (F0 m (pc) ls (.int x :: rest)) := by
  refine lv_tableOut C0.1 C0.2.1 hdg ?_ ht kk
  have h9 := Nat.le_of_ble_eq_true hn
  by_cases h1 : x.toInt < lo
  · exact Or.inl h1
  · refine Or.inr (Int.not_le.mp fun h2 => ?_)
    refine h x.toInt.toNat (by omega) (by omega) (Int32.toInt_inj.mp ?_)
    rw [nI_toInt (by omega)]
    omega
theorem g_swOutN (C0 : Cx p s m args c cc own nL D TY) {dflt lo hi : Int} {offs : Array Int} {len : Nat} {x n lo' : Nat} {tgt : Nat} (hx : x < 2 ^ 31) (h : x < lo' ∨ n ≤ x) (hn : Nat.ble (n + 1) 1000 = true) (hdg : decode cc pc = .ok (.tableswitch dflt lo hi offs, len)) (hlo : lo = (lo' : Int)) (hhi : hi + 1 = (n : Int)) (ht : (pc : Int) + dflt = (tgt : Int)) (kk : W p l e R s m args below meth c H locs cells slots Q (F0 m tgt ls rest)) : W p l e R s m args below meth c H locs cells slots Q (F0 m (pc) ls (.int (nI x) :: rest)) := by
  have h9 := Nat.le_of_ble_eq_true hn
  refine g_swOut (n := n) (lo' := lo') C0 (fun j h1 h2 h3 => ?_) hn hdg hlo hhi ht kk
  have := nI_inj hx (by omega) h3
  omega
theorem cell_cong (cA : ClassId) {n : Nat} {f g : Nat → Int32} (h : ∀ j, j < n → f j = g j) : vp_cell cA (n, .inl f) = vp_cell cA (n, .inl g) := by
  rw [vp_cell_i, vp_cell_i]
  unfold arrV
  congr 2
  funext j
  exact congrArg Value.int (h j.val j.isLt)
theorem Hx.cong (X : Hx D A s H locs ws) (q0 : Nat) {cA : ClassId} {n : Nat} {f g : Nat → Int32} (ha : ws[q0]? = some (a, .inl (cA, n, .inl f))) (h : ∀ j, j < n → f j = g j) : Hx D A s H locs (ws.set q0 (a, .inl (cA, n, .inl g))) := by
  obtain ⟨hP, hD, hS, hA⟩ := X
  refine ⟨hP.set hD ha ?_ (fun _ _ => rfl), hD.set ha, hS, hA⟩
  show H[a]? = some (vp_cell _ _)
  rw [← cell_cong cA h]
  exact hP q0 _ ha
theorem g_copy (C0 : Cx p s m args c cc own nL D TY) (X : Hx D A s H locs ws) {lv : List (Nat × Value)} (hl : lv_has ls nL lv) {index : Nat} (hlink : Cond.methodLink own index arraycopyName ∈ TB) (hnat : Cond.native arraycopyName ∈ TB) (hstat : Cond.static arraycopyName ∈ TB) (hini : Cond.initialized "java/lang/System" ∈ TB) (q0 q1 t0 : Nat) {a0 : Nat} {c0 : ClassId} {n : Nat} {f g : Nat → Int32} (ha0 : ws[q0]? = some (a0, .inl (c0, n, .inl f))) (ha1 : ws[q1]? = some (a, .inl (c0, n, .inl g))) (ht0 : TY[t0]? = some (c0, .int)) (hn : Nat.ble (n + 1) 100000 = true) (hr : Nat.ble 1 R.frames = true ∧ Nat.ble ((rest.map fun v => v.category).sum + 18) R.locals = true) (hdg : decode cc pc = .ok (.invokestatic index, 3))
    (kk : ∀ (H1 : Heap) (locs1 : List Loc), Hx D A s H1 locs1 (ws.set q1 (a, .inl (c0, n, .inl f))) → W p l e R s m args below meth c H1 locs1 cells slots Q (F0 m (pc + 3) ls rest)) : W p l e R s m args below meth c H locs cells slots Q (F0 m (pc) ls (.int (nI n) :: .int (nI 0) :: .ref a :: .int (nI 0) :: .ref a0 :: rest)) := by
  obtain ⟨hx, hb, hml, hown, ht, hK⟩ := C0
  obtain ⟨hP, hD, hS, hA⟩ := X
  have h9 : n < 2 ^ 31 := by have := Nat.le_of_ble_eq_true hn; omega
  have h0 : (nI 0).toNatClampNeg = 0 := by decide
  have h8 : (nI n).toNatClampNeg = n := nI_clamp h9
  refine va_copyi hx hb (by rw [hml]; exact hl.1.symm) hown (ht _ hlink) (ht _ hnat) (ht _ hstat) (ht _ hini) hK hP hD hS q0 q1 t0 t0 ha0 ha1 ht0 ht0 rfl (sp := nI 0) (dp := nI 0) (n := nI n) (by decide) (by decide) (nI_pos h9) (by rw [h0, h8]; omega) (by rw [h0, h8]; omega) (fun i _ => rfl) (Nat.le_of_ble_eq_true hr.1) (Nat.le_of_ble_eq_true hr.2) hdg (fun H1 locs1 h1 h2 h3 => ?_)
  rw [h0, h8] at h1 h2
  have h4 := Hx.cong (g := f) ⟨h1, h2, h3, hA⟩ q1 (a := a) (cA := c0) (n := n) (f := va_cpy f g 0 0 n) (by rw [List.getElem?_set_self (by exact (List.getElem?_eq_some_iff.mp ha1).1)]) (fun j hj => by unfold va_cpy; rw [if_pos (by omega)]; simp)
  rw [List.set_set] at h4
  exact kk H1 locs1 h4
end RY
