/-! more of the calls' answers: a root more, beavers, images, sheets -/
section
variable {p : Program} {l : Launch} {e : Env} {R : Room} {s : State} {m : MethodId} {args : Array Value} {below : List Frame} {meth : Method} {c : Code} {H : Heap} {locs : List Loc} {cells slots : Nat} {Q : State → Prop}
variable {cc : ByteArray} {pc : Nat} {ls : Array Slot} {rest : List Value} {D : va_G} {A : Nat → Prop} {a : Nat} {TY : List (ClassId × FieldType)} {ws : va_W} {own : String} {nL : Nat}
theorem g_maxL (C0 : Cx p s m args c cc own nL D TY) {lv : List (Nat × Value)} (hl : lv_has ls nL lv) {index : Nat} (hlink : Cond.methodLink own index Lib.MathLoose.max_long.x ∈ TB) (hstat : Cond.static Lib.MathLoose.max_long.x ∈ TB) (hini : Cond.initialized "java/lang/Math" ∈ TB) (hcode : Cond.code Lib.MathLoose.max_long.x Lib.MathLoose.max_long.code 4 (some .long) ∈ TB) {x y : Nat} (hx : x < 2 ^ 63 ∧ y < 2 ^ 63) (hr : Nat.ble 1 R.frames = true ∧ Nat.ble ((rest.map fun v => v.category).sum + 15) R.locals = true ∧ Nat.ble cells R.cells = true ∧ Nat.ble slots R.slots = true) (hdg : decode cc pc = .ok (.invokestatic index, 3)) (kk : W p l e R s m args below meth c H locs cells slots Q (F0 m (pc + 3) ls (.long (lN (max x y)) :: rest))) : W p l e R s m args below meth c H locs cells slots Q (F0 m (pc) ls (.long (lN y) :: .long (lN x) :: rest)) := by
  obtain ⟨hx', hb, hml, hown, ht, hK⟩ := C0
  refine va_mmax_long hx' hb (by rw [hml]; exact hl.1.symm) hown (ht _ hlink) (ht _ hstat) (ht _ hini) (ht _ hcode) (Nat.le_of_ble_eq_true hr.1) (Nat.le_of_ble_eq_true hr.2.1) (Nat.le_of_ble_eq_true hr.2.2.1) (Nat.le_of_ble_eq_true hr.2.2.2) hdg ?_
  have h9 : (if lN y < lN x then lN x else lN y) = lN (max x y) := by
    by_cases h : y < x
    · rw [if_pos ((pk_lLT hx.2 hx.1).mpr h), Nat.max_eq_left (by omega)]
    · rw [if_neg (fun q => h ((pk_lLT hx.2 hx.1).mp q)), Nat.max_eq_right (by omega)]
  rw [h9]; exact kk
end
/-- a view with a root more -/
def growv (v : Nat → Nat → Nat) (a b L : Nat) : Nat → Nat → Nat := u2 (u2 (u2 (u2 (u2 v 1 (v 8 1) a) 2 (v 8 1) b) 3 (v 8 1) L) 4 (v 8 1) 0) 8 1 (v 8 1 + 1)
theorem cgv_4top {G : Nat → Nat → Nat} (hw : GW G) : cgv G 4 (G 8 1) = 0 := cgv4 (Nat.testBit_lt_two_pow hw.2.2.2.2.1)
theorem u2_id (G : Nat → Nat → Nat) (f i : Nat) : u2 G f i (G f i) = G := by
  funext f'
  unfold u2
  split
  · subst_vars; exact u1_id _ _
  · rfl
theorem cgv_grow {G : Nat → Nat → Nat} (hw : GW G) (a b L : Nat) : cgv (u2 (u2 (u2 (u2 G 1 (G 8 1) a) 2 (G 8 1) b) 3 (G 8 1) L) 8 1 (G 8 1 + 1)) = growv (cgv G) a b L := by
  rw [cgv_u2 (by decide), cgv_u2 (by decide), cgv_u2 (by decide), cgv_u2 (by decide)]
  unfold growv
  have h4 := cgv_4top hw
  have h5 : u2 (u2 (u2 (u2 (cgv G) 1 (G 8 1) a) 2 (G 8 1) b) 3 (G 8 1) L) 4 (G 8 1) 0 = u2 (u2 (u2 (cgv G) 1 (G 8 1) a) 2 (G 8 1) b) 3 (G 8 1) L := by
    have h6 := u2_id (u2 (u2 (u2 (cgv G) 1 (G 8 1) a) 2 (G 8 1) b) 3 (G 8 1) L) 4 (G 8 1)
    rw [show (u2 (u2 (u2 (cgv G) 1 (G 8 1) a) 2 (G 8 1) b) 3 (G 8 1) L) 4 (G 8 1) = cgv G 4 (G 8 1) from rfl, h4] at h6
    exact h6
  rw [show cgv G 8 1 = G 8 1 from rfl, h5]
theorem GW.grow {G : Nat → Nat → Nat} {a b L : Nat} (hw : GW G) (h9 : G 8 1 < 9) (ha : a < G 8 0) (hb : b < G 8 0) (hab : a ≠ b) (hL : 1 ≤ L ∧ L ≤ 9) : GW (u2 (u2 (u2 (u2 G 1 (G 8 1) a) 2 (G 8 1) b) 3 (G 8 1) L) 8 1 (G 8 1 + 1)) := by
  obtain ⟨h1, h2, h3, h4, h5, h6, h7, h8⟩ := hw
  refine ⟨h1, (by show G 8 1 + 1 ≤ 9; omega), h3, h4, ?_, h6, ?_, h8⟩
  · show G 4 0 < 2 ^ (G 8 1 + 1)
    rw [Nat.pow_succ]; omega
  · intro i hi
    have hi' : i < G 8 1 + 1 := hi
    show u1 (G 1) (G 8 1) a i < G 8 0 ∧ u1 (G 2) (G 8 1) b i < G 8 0 ∧ u1 (G 1) (G 8 1) a i ≠ u1 (G 2) (G 8 1) b i ∧ 1 ≤ u1 (G 3) (G 8 1) L i ∧ u1 (G 3) (G 8 1) L i ≤ 9
    by_cases e : i = G 8 1
    · subst e; rw [u1_s, u1_s, u1_s]; exact ⟨ha, hb, hab, hL.1, hL.2⟩
    · rw [u1_n _ _ e, u1_n _ _ e, u1_n _ _ e]; exact h7 i (by omega)
theorem pc_cut {x r : Nat} (hr : r ≤ 10) (h : x < 2 ^ r) : pc x = cnt (fun j => x.testBit j) r := by
  have h2 := cnt_tail (P := fun j => x.testBit j) (k := r) (fun j hj => Nat.testBit_lt_two_pow (Nat.lt_of_lt_of_le h (Nat.pow_le_pow_right (by decide) hj))) (10 - r)
  rw [show r + (10 - r) = 10 by omega] at h2
  exact h2
theorem pc_lt {x r : Nat} (hr : r ≤ 10) (h : x < 2 ^ r) : pc x ≤ r := by rw [pc_cut hr h]; exact cnt_le _ _
theorem pc_hear (v : Nat → Nat → Nat) (t b : Nat) (h : v 8 0 ≤ 6) : pc (hearS v t b) ≤ v 8 0 := pc_lt (by omega) (bset_lt _ _)
/-- how many do not hear it, with a root more -/
def jx (v : Nat → Nat → Nat) (t b L a c : Nat) : Nat := v 8 0 - pc (hearS (growv v a c L) t b)
def jin (x : Nat → Nat) (a : Nat) (s : Int32 × Nat) : Nat → Int32 × Nat
  | 0 => s
  | k + 1 => if a < k then bst (jin x a s k) (10 * a + k) (x k) else jin x a s k
def jout (v : Nat → Nat → Nat) (t b L : Nat) : Nat → Int32 × Nat
  | 0 => (-4, v 8 0 - pc (hearS v t b))
  | a + 1 => jin (jx v t b L a) a (jout v t b L a) (v 8 0)
theorem jin_0 (x : Nat → Nat) (a : Nat) (s : Int32 × Nat) : ∀ k, k ≤ a + 1 → jin x a s k = s := by
  intro k
  induction k with
  | zero => intro _; rfl
  | succ k ih => intro h; show (if a < k then _ else jin x a s k) = s; rw [if_neg (by omega)]; exact ih (by omega)
theorem jin_s {x : Nat → Nat} {a k am X : Nat} {ch : Int32} {s : Int32 × Nat} (hk : a < k) (hx : X = x k) (h : (ch, am) = jin x a s k) : (if X < am then nI (10 * a + k) else ch, if X < am then X else am) = jin x a s (k + 1) := by
  show _ = (if a < k then bst (jin x a s k) (10 * a + k) (x k) else jin x a s k)
  rw [if_pos hk, ← h, hx]
  unfold bst
  by_cases h1 : x k < am
  · rw [if_pos h1, if_pos h1, if_pos h1]
  · rw [if_neg h1, if_neg h1, if_neg h1]
theorem bst_le (s : Int32 × Nat) (c x : Nat) : (bst s c x).2 ≤ s.2 := by
  unfold bst; split
  · show x ≤ s.2; omega
  · exact Nat.le_refl _
theorem jin_le (x : Nat → Nat) (a : Nat) (s : Int32 × Nat) : ∀ k, (jin x a s k).2 ≤ s.2 := by
  intro k
  induction k with
  | zero => exact Nat.le_refl _
  | succ k ih =>
    show (if a < k then bst (jin x a s k) (10 * a + k) (x k) else jin x a s k).2 ≤ _
    split
    · exact Nat.le_trans (bst_le _ _ _) ih
    · exact ih
theorem jout_le (v : Nat → Nat → Nat) (t b L : Nat) : ∀ a, (jout v t b L a).2 ≤ v 8 0 := by
  intro a
  induction a with
  | zero => exact Nat.sub_le _ _
  | succ a ih => exact Nat.le_trans (jin_le _ _ _ _) ih
theorem jout_am {v : Nat → Nat → Nat} {t b L a am : Nat} {ch : Int32} (h : (ch, am) = jout v t b L a) : am ≤ v 8 0 := by
  have := jout_le v t b L a; rw [← h] at this; exact this
theorem jin_am {x : Nat → Nat} {a k am am0 : Nat} {ch ch0 : Int32} (h : (ch, am) = jin x a (ch0, am0) k) : am ≤ am0 := by
  have := jin_le x a (ch0, am0) k; rw [← h] at this; exact this
def a_joinT (v : Nat → Nat → Nat) (s : Int32 × Nat) (w : Nat) : Int32 := if w = 0 ∨ s.1 = -4 then s.1 else nI (v 8 0 - s.2)
def a_join (v : Nat → Nat → Nat) (x y z w : Int32) : Int32 := if (ix x (v 8 0) && rg y 1 60 && rg z 1 9 && rg w 0 1) = true then (if v 8 1 = 9 then -3 else a_joinT v (jout v (tn x) (tn y) (tn z) (v 8 0)) (tn w)) else -1
theorem join_t {v : Nat → Nat → Nat} {t b L n w am : Nat} {ch : Int32} (h : (ch, am) = jout v t b L n) : a_joinT v (jout v t b L n) w = if w = 0 ∨ ch = -4 then ch else nI (v 8 0 - am) := by rw [← h]; rfl
/-! one root is cut, or mended -/
theorem andnot : ∀ i, i < 9 → ∀ c, c < 512 → nI c &&& (nI (2 ^ i) ^^^ (-1)) = nI (c &&& (511 - 2 ^ i)) := by decide +kernel
theorem andnot_lt : ∀ i, i < 9 → ∀ r, r ≤ 9 → ∀ c, c < 2 ^ r → c &&& (511 - 2 ^ i) < 2 ^ r := fun i _ r _ c hc => Nat.lt_of_le_of_lt Nat.and_le_left hc
def a_cut (v : Nat → Nat → Nat) (x : Int32) : Int32 := if ix x (v 8 1) = true then nI (v 4 (tn x)) else -1
def cutG (G : Nat → Nat → Nat) (x : Int32) (b : Bool) : Nat → Nat → Nat := if ix x (G 8 1) = true then u2 G 4 0 (if b = true then G 4 0 ||| 2 ^ tn x else G 4 0 &&& (511 - 2 ^ tn x)) else G
/-! beavers -/
def nprod (f : Nat → Nat) : Nat → Nat
  | 0 => 1
  | i + 1 => nprod f i * f i
def wq (v : Nat → Nat → Nat) (q sm i : Nat) : Nat := if v 4 i = 1 then 1 else if sm.testBit i = true then q else 10 - q
def wd (v : Nat → Nat → Nat) (i : Nat) : Nat := if v 4 i = 0 then 10 else 1
def luckF (v : Nat → Nat → Nat) (q t b am sm : Nat) : Nat := if cutsB v sm = true then nprod (wq v q sm) (v 8 1) * pc (hearS (cutv v sm) t b &&& am) else 0
def upS (v : Nat → Nat → Nat) (q t b am : Nat) : Nat := nsum (luckF v q t b am) (2 ^ v 8 1)
def downS (v : Nat → Nat → Nat) : Nat := nprod (wd v) (v 8 1)
def meanS (v : Nat → Nat → Nat) (q t b am w : Nat) : Int64 := lN ((if w = 0 then upS v q t b am else downS v) / Nat.gcd (upS v q t b am) (downS v))
theorem nprod_le {f g : Nat → Nat} : ∀ {n : Nat}, (∀ i, i < n → f i ≤ g i) → nprod f n ≤ nprod g n := by
  intro n
  induction n with
  | zero => intro _; exact Nat.le_refl _
  | succ n ih => intro h; exact Nat.mul_le_mul (ih fun i hi => h i (by omega)) (h n (by omega))
theorem nprod_pow (k : Nat) : ∀ n, nprod (fun _ => k) n = k ^ n := by
  intro n
  induction n with
  | zero => rfl
  | succ n ih => show nprod (fun _ => k) n * k = k ^ (n + 1); rw [ih, Nat.pow_succ]
theorem nprod_congr {f g : Nat → Nat} : ∀ {n : Nat}, (∀ i, i < n → f i = g i) → nprod f n = nprod g n := by
  intro n
  induction n with
  | zero => intro _; rfl
  | succ n ih => intro h; show nprod f n * f n = nprod g n * g n; rw [ih (fun i hi => h i (by omega)), h n (by omega)]
theorem wq_le {v : Nat → Nat → Nat} {q sm i : Nat} (hq : q ≤ 10) : wq v q sm i ≤ 10 := by
  unfold wq
  split
  · omega
  · split <;> omega
theorem luckF_le {v : Nat → Nat → Nat} {q t b am sm : Nat} (hq : q ≤ 10) (h9 : v 8 1 ≤ 9) : luckF v q t b am sm ≤ 10000000000 := by
  unfold luckF
  split
  · have h1 : nprod (wq v q sm) (v 8 1) ≤ 10 ^ 9 := by
      refine Nat.le_trans (nprod_le (g := fun _ => 10) fun i _ => wq_le hq) ?_
      rw [nprod_pow]; exact Nat.pow_le_pow_right (by decide) h9
    exact Nat.mul_le_mul h1 (pc_le _)
  · omega
theorem upS_lt {v : Nat → Nat → Nat} {q t b am : Nat} (hq : q ≤ 10) (h9 : v 8 1 ≤ 9) : upS v q t b am < 2 ^ 44 := by
  unfold upS
  have h1 := nsum_le (f := luckF v q t b am) (n := 2 ^ v 8 1) (fun i _ => luckF_le hq h9)
  have h2 : 2 ^ v 8 1 ≤ 2 ^ 9 := Nat.pow_le_pow_right (by decide) h9
  have h3 : 2 ^ v 8 1 * 10000000000 ≤ 2 ^ 9 * 10000000000 := Nat.mul_le_mul_right _ h2
  have h4 : (2 : Nat) ^ 9 * 10000000000 < 2 ^ 44 := by decide
  omega
theorem nsum_mono {f : Nat → Nat} {a b : Nat} (h : a ≤ b) : nsum f a ≤ nsum f b := by
  induction b with
  | zero => rw [Nat.le_zero.mp h]; exact Nat.le_refl _
  | succ b ih =>
    by_cases e : a = b + 1
    · rw [e]; exact Nat.le_refl _
    · exact Nat.le_trans (ih (by omega)) (Nat.le_add_right _ _)
theorem downS_bd {v : Nat → Nat → Nat} (h9 : v 8 1 ≤ 9) : 1 ≤ downS v ∧ downS v < 2 ^ 34 := by
  unfold downS
  refine ⟨?_, ?_⟩
  · have h := nprod_le (f := fun _ => 1) (g := wd v) (n := v 8 1) (fun i _ => by unfold wd; split <;> omega)
    rw [nprod_pow, Nat.one_pow] at h; exact h
  · have h := nprod_le (f := wd v) (g := fun _ => 10) (n := v 8 1) (fun i _ => by unfold wd; split <;> omega)
    rw [nprod_pow] at h
    have h2 : 10 ^ v 8 1 ≤ 10 ^ 9 := Nat.pow_le_pow_right (by decide) h9
    have h3 : (10 : Nat) ^ 9 < 2 ^ 34 := by decide
    omega
/-- the odds as powers: of n roots so many are whole, so many of them fall -/
theorem wq_pow {v : Nat → Nat → Nat} {q sm : Nat} : ∀ {n : Nat}, (∀ i, i < n → v 4 i ≤ 1) → (∀ i, i < n → sm.testBit i = true → v 4 i = 0) → cnt (fun i => sm.testBit i) n ≤ cnt (fun i => decide (v 4 i = 0)) n ∧ nprod (wq v q sm) n = q ^ cnt (fun i => sm.testBit i) n * (10 - q) ^ (cnt (fun i => decide (v 4 i = 0)) n - cnt (fun i => sm.testBit i) n) := by
  intro n
  induction n with
  | zero => intro _ _; exact ⟨Nat.le_refl _, rfl⟩
  | succ n ih =>
    intro h1 h2
    obtain ⟨ha, hb⟩ := ih (fun i hi => h1 i (by omega)) (fun i hi => h2 i (by omega))
    have hv := h1 n (by omega)
    show cnt (fun i => sm.testBit i) n + (if sm.testBit n = true then 1 else 0) ≤ cnt (fun i => decide (v 4 i = 0)) n + (if decide (v 4 n = 0) = true then 1 else 0) ∧ nprod (wq v q sm) n * wq v q sm n = q ^ (cnt (fun i => sm.testBit i) n + (if sm.testBit n = true then 1 else 0)) * (10 - q) ^ (cnt (fun i => decide (v 4 i = 0)) n + (if decide (v 4 n = 0) = true then 1 else 0) - (cnt (fun i => sm.testBit i) n + (if sm.testBit n = true then 1 else 0)))
    rw [hb]
    generalize cnt (fun i => sm.testBit i) n = A at ha ⊢
    generalize cnt (fun i => decide (v 4 i = 0)) n = B at ha ⊢
    cases ht : sm.testBit n with
    | true =>
      have h0 := h2 n (by omega) ht
      have hw : wq v q sm n = q := by unfold wq; rw [h0, if_neg (by decide), if_pos ht]
      rw [hw, h0, if_pos rfl, if_pos (by decide), show B + 1 - (A + 1) = B - A by omega, Nat.pow_succ]
      exact ⟨by omega, by ac_rfl⟩
    | false =>
      by_cases h0 : v 4 n = 0
      · have hw : wq v q sm n = 10 - q := by unfold wq; rw [h0, if_neg (by decide), if_neg (by rw [ht]; decide)]
        rw [hw, h0, if_neg (by decide), if_pos (by decide), show B + 1 - (A + 0) = B - A + 1 by omega, Nat.pow_succ]
        exact ⟨by omega, by rw [Nat.add_zero]; ac_rfl⟩
      · have hw : wq v q sm n = 1 := by unfold wq; rw [if_pos (by omega)]
        rw [hw, if_neg (by decide), decide_eq_false h0, if_neg (by decide), Nat.mul_one]
        exact ⟨by omega, rfl⟩
theorem wd_pow {v : Nat → Nat → Nat} : ∀ n, nprod (wd v) n = 10 ^ cnt (fun i => decide (v 4 i = 0)) n := by
  intro n
  induction n with
  | zero => rfl
  | succ n ih =>
    show nprod (wd v) n * wd v n = 10 ^ (cnt (fun i => decide (v 4 i = 0)) n + (if decide (v 4 n = 0) = true then 1 else 0))
    rw [ih]
    unfold wd
    by_cases h : v 4 n = 0
    · rw [if_pos h, decide_eq_true h, if_pos rfl, Nat.pow_succ]
    · rw [if_neg h, decide_eq_false h, if_neg (by decide), Nat.mul_one]; rfl
theorem cnt_not {P Q : Nat → Bool} : ∀ {n : Nat}, (∀ i, i < n → P i = !(Q i)) → cnt P n = n - cnt Q n := by
  intro n
  induction n with
  | zero => intro _; rfl
  | succ n ih =>
    intro h
    have h1 := ih (fun i hi => h i (by omega))
    have h2 := cnt_le Q n
    show cnt P n + (if P n = true then 1 else 0) = n + 1 - (cnt Q n + (if Q n = true then 1 else 0))
    rw [h1, h n (by omega)]
    cases Q n
    · show n - cnt Q n + 1 = n + 1 - (cnt Q n + 0); omega
    · show n - cnt Q n + 0 = n + 1 - (cnt Q n + 1); omega
theorem whole_n {G : Nat → Nat → Nat} (hw : GW G) : cnt (fun i => decide (cgv G 4 i = 0)) (G 8 1) = G 8 1 - pc (G 4 0) := by
  have h9 := hw.2.1
  rw [pc_cut (by omega) hw.2.2.2.2.1]
  refine cnt_not fun i _ => ?_
  cases h : (G 4 0).testBit i
  · rw [cgv4 h]; rfl
  · rw [cgv4' h]; rfl
theorem cut01 (G : Nat → Nat → Nat) (i : Nat) : cgv G 4 i ≤ 1 := by
  cases h : (G 4 0).testBit i
  · rw [cgv4 h]; omega
  · rw [cgv4' h]; omega
theorem cuts_d {G : Nat → Nat → Nat} {sm : Nat} (h : cutsB (cgv G) sm = true) : ∀ i, i < G 8 1 → sm.testBit i = true → cgv G 4 i = 0 := by
  intro i hi ht
  have h1 := ball_all h i hi
  rw [ht] at h1
  simpa using h1
theorem luck_w {G : Nat → Nat → Nat} {q sm : Nat} (hw : GW G) (hs : sm < 2 ^ G 8 1) (h : sm &&& G 4 0 = 0) : pc sm ≤ G 8 1 - pc (G 4 0) ∧ nprod (wq (cgv G) q sm) (G 8 1) = q ^ pc sm * (10 - q) ^ (G 8 1 - pc (G 4 0) - pc sm) := by
  have h9 := hw.2.1
  have hc : cutsB (cgv G) sm = true := by rw [cuts_and hs]; exact decide_eq_true h
  have h1 := wq_pow (v := cgv G) (q := q) (sm := sm) (n := G 8 1) (fun i _ => cut01 G i) (cuts_d hc)
  rw [whole_n hw, ← pc_cut (by omega) hs] at h1
  exact h1
theorem down_w {G : Nat → Nat → Nat} (hw : GW G) : downS (cgv G) = 10 ^ (G 8 1 - pc (G 4 0)) := by
  show nprod (wd (cgv G)) (G 8 1) = _
  rw [wd_pow, whole_n hw]
theorem luck_f0 {G : Nat → Nat → Nat} {q t b am sm : Nat} (hs : sm < 2 ^ G 8 1) (h : 0 < sm &&& G 4 0) : luckF (cgv G) q t b am sm = 0 := by
  unfold luckF; rw [cuts_and hs, decide_eq_false (by omega)]; rfl
theorem luck_f1 {G : Nat → Nat → Nat} {q t b am sm : Nat} (hw : GW G) (hs : sm < 2 ^ G 8 1) (h : sm &&& G 4 0 = 0) (h0 : q ^ pc sm * (10 - q) ^ (G 8 1 - pc (G 4 0) - pc sm) = 0) : luckF (cgv G) q t b am sm = 0 := by
  unfold luckF
  rw [cuts_and hs, decide_eq_true h, if_pos rfl, show cgv G 8 1 = G 8 1 from rfl, (luck_w hw hs h).2, h0, Nat.zero_mul]
theorem luck_t {G : Nat → Nat → Nat} {q t b am sm : Nat} (hw : GW G) (hs : sm < 2 ^ G 8 1) (h : sm &&& G 4 0 = 0) : luckF (cgv G) q t b am sm = q ^ pc sm * (10 - q) ^ (G 8 1 - pc (G 4 0) - pc sm) * pc (hearS (cgv (u2 G 4 0 (G 4 0 ||| sm))) t b &&& am) := by
  unfold luckF
  rw [cuts_and hs, decide_eq_true h, if_pos rfl, show cgv G 8 1 = G 8 1 from rfl, (luck_w hw hs h).2, cgv_cut]
theorem luck_lt {G : Nat → Nat → Nat} {q sm : Nat} (hw : GW G) (hq : q ≤ 10) (hs : sm < 2 ^ G 8 1) (h : sm &&& G 4 0 = 0) : q ^ pc sm * (10 - q) ^ (G 8 1 - pc (G 4 0) - pc sm) < 2 ^ 63 := by
  rw [← (luck_w hw hs h).2]
  have h1 : nprod (wq (cgv G) q sm) (G 8 1) ≤ 10 ^ 9 := by
    refine Nat.le_trans (nprod_le (g := fun _ => 10) fun i _ => wq_le hq) ?_
    rw [nprod_pow]; exact Nat.pow_le_pow_right (by decide) hw.2.1
  have h2 : (10 : Nat) ^ 9 < 2 ^ 63 := by decide
  omega
def a_luck (v : Nat → Nat → Nat) (x y z w p : Int32) : Int64 := if (rg x 0 10 && ix y (v 8 0) && ix z (v 8 0) && rg w 1 60 && rg p 0 1) = true then meanS v (tn x) (tn y) (tn w) (2 ^ tn z) (tn p) else -1
def a_mean (v : Nat → Nat → Nat) (x y z w : Int32) : Int64 := if (rg x 0 10 && ix y (v 8 0) && rg z 1 60 && rg w 0 1) = true then meanS v (tn x) (tn y) (tn z) (2 ^ v 8 0 - 1) (tn w) else -1
/-! images -/
def a_keep (kb : Nat) (x : Int32) : Int32 := if rg x 0 1 = true then nI (rb (kb.testBit (tn x))) else -1
def keepB (kb : Nat) (x : Int32) : Nat := if rg x 0 1 = true then kb ||| 2 ^ tn x else kb
def keepG (G K : Nat → Nat → Nat) (k : Nat) (x : Int32) : Nat → Nat → Nat := if (rg x 0 1 && decide (tn x = k)) = true then G else K
def pick2 {α : Type} (a b : α) (k : Nat) : α := if k = 0 then a else b
def a_back (k0 k1 : Bool) (v w : Nat → Nat → Nat) (x : Int32) : Int32 := if rg x 0 1 = true then (if pick2 k0 k1 (tn x) = true then nI (crossS (pick2 v w (tn x))) else -2) else -1
def backG (kb : Nat) (G I J : Nat → Nat → Nat) (x : Int32) : Nat → Nat → Nat := if rg x 0 1 = true then (if kb.testBit (tn x) = true then pick2 I J (tn x) else G) else G
/-! sheets -/
theorem le_sp {z : Int32} {n : Nat} (hn : n < 2 ^ 31) (h : z ≤ nI n) (h0 : 0 ≤ z) : ∃ k : Nat, k ≤ n ∧ z = nI k := by
  rw [Int32.le_iff_toInt_le, nI_toInt hn] at h
  have h1 : (0 : Int) ≤ z.toInt := by rw [Int32.le_iff_toInt_le] at h0; exact h0
  refine ⟨z.toInt.toNat, by omega, Int32.toInt_inj.mp ?_⟩
  rw [nI_toInt (by omega)]; omega
theorem fc_sp {x : Int32} {n m : Nat} (hn : n < 2 ^ 31) (h : fc x n m = true) : ∃ k : Nat, k + m ≤ n ∧ x = nI k := by
  unfold fc at h
  simp only [Bool.and_eq_true, decide_eq_true_eq] at h
  refine ⟨x.toInt.toNat, by omega, Int32.toInt_inj.mp ?_⟩
  rw [nI_toInt (by omega)]; omega
def shOk (x y z : Int32) : Bool := rg x 0 3 && rg y 0 2 && decide (z ≤ nI 40)
def a_sheet (x y z : Int32) : Int32 := if shOk x y z = true then (if 0 ≤ z then nI 1 else -14) else -1
def ua {α : Type} (f : Nat → α) (i : Nat) (v : α) : Nat → α := fun j => if j = i then v else f j
def shSt {α : Type} (f : Nat → α) (x y z : Int32) (v : α) : Nat → α := if shOk x y z = true then (if 0 ≤ z then ua f (tn x) v else f) else f
def fcl (l : Int32) (n : Nat) (y : Int32) : Nat := if l = -1 then 1 else if fc y n 1 = true then 0 else 2
def a_lay (zl : Nat → Int32) (zn : Nat → Nat) (x y : Int32) : Int32 := if rg x 0 3 = true then (if fcl (zl (tn x)) (zn (tn x)) y = 0 then nI 1 else -10 - nI (fcl (zl (tn x)) (zn (tn x)) y)) else -1
def layC (zc : Nat → Nat → Int32) (zl : Nat → Int32) (zn : Nat → Nat) (x y z : Int32) : Nat → Nat → Int32 := if rg x 0 3 = true then (if fcl (zl (tn x)) (zn (tn x)) y = 0 then ua zc (tn x) (upd (zc (tn x)) (tn y) (narr (zl (tn x)) z)) else zc) else zc
theorem fcl_le (l : Int32) (n : Nat) (y : Int32) : fcl l n y ≤ 2 := by
  unfold fcl; split
  · omega
  · split <;> omega
theorem fcl_0 {l : Int32} {n : Nat} {y : Int32} (hn : n < 2 ^ 31) (h : fcl l n y = 0) : ∃ k : Nat, k + 1 ≤ n ∧ y = nI k := by
  unfold fcl at h
  split at h
  · omega
  · split at h
    · next h2 => exact fc_sp hn h2
    · omega
def a_count (nS kp nT : Nat) (bare : Bool) (n0 : Nat) (v : Nat → Nat → Nat) (x : Int32) : Int32 := if x = nI 0 then nI nS else if x = nI 1 then nI kp else if x = nI 2 then nI nT else if x = nI 3 then (if bare = true then -4 else nI n0) else if x = nI 4 then nI (nsum (v 3) (v 8 1)) else if x = nI 5 then nI (nsum (v 7) (v 8 3)) else -1
