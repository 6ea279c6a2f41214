/-! the reference: beavers, what is seen, images, sheets -/
theorem sx8 (x : Int32) : (x <<< (nI 24 &&& 31)) >>> (nI 24 &&& 31) = x.toInt8.toInt32 := by
  apply Int32.toInt_inj.mp
  rw [pk_shr _ _ 24 (by decide), Int.shiftRight_eq_div_pow]
  have h1 := pk_shl x (nI 24 &&& 31) 24 (by decide)
  have h2 : (x <<< (nI 24 &&& 31)).toInt = if 2 * (x <<< (nI 24 &&& 31)).toBitVec.toNat < 2 ^ 32 then ((x <<< (nI 24 &&& 31)).toBitVec.toNat : Int) else ((x <<< (nI 24 &&& 31)).toBitVec.toNat : Int) - ((2 ^ 32 : Nat) : Int) := BitVec.toInt_eq_toNat_cond _
  have h4 : x.toInt = if 2 * x.toBitVec.toNat < 2 ^ 32 then (x.toBitVec.toNat : Int) else (x.toBitVec.toNat : Int) - ((2 ^ 32 : Nat) : Int) := BitVec.toInt_eq_toNat_cond _
  rw [Int8.toInt_toInt32, Int32.toInt_toInt8, Int.bmod_def, h2, h4, h1]
  have h5 := x.toBitVec.isLt
  split <;> split <;> split <;> omega
theorem sx16 (x : Int32) : (x <<< (nI 16 &&& 31)) >>> (nI 16 &&& 31) = x.toInt16.toInt32 := by
  apply Int32.toInt_inj.mp
  rw [pk_shr _ _ 16 (by decide), Int.shiftRight_eq_div_pow]
  have h1 := pk_shl x (nI 16 &&& 31) 16 (by decide)
  have h2 : (x <<< (nI 16 &&& 31)).toInt = if 2 * (x <<< (nI 16 &&& 31)).toBitVec.toNat < 2 ^ 32 then ((x <<< (nI 16 &&& 31)).toBitVec.toNat : Int) else ((x <<< (nI 16 &&& 31)).toBitVec.toNat : Int) - ((2 ^ 32 : Nat) : Int) := BitVec.toInt_eq_toNat_cond _
  have h4 : x.toInt = if 2 * x.toBitVec.toNat < 2 ^ 32 then (x.toBitVec.toNat : Int) else (x.toBitVec.toNat : Int) - ((2 ^ 32 : Nat) : Int) := BitVec.toInt_eq_toNat_cond _
  rw [Int16.toInt_toInt32, Int32.toInt_toInt16, Int.bmod_def, h2, h4, h1]
  have h5 := x.toBitVec.isLt
  split <;> split <;> split <;> omega
theorem luckF_f {v : Nat → Nat → Nat} {q t b am sm : Nat} (h : cutsB v sm = false) : luckF v q t b am sm = 0 := by unfold luckF; rw [h]; rfl
theorem luckF_t {v : Nat → Nat → Nat} {q t b am sm od x : Nat} (h : cutsB v sm = true) (ho : od = nprod (wq v q sm) (v 8 1)) (hx : pc (hearS (cutv v sm) t b &&& am) = x) : luckF v q t b am sm = od * x := by unfold luckF; rw [h, if_pos rfl, ho, hx]
theorem rb_eq1 {b : Bool} (h : rb b = 1) : b = true := by cases b <;> first | rfl | exact absurd h (by decide)
theorem rb_ne1 {b : Bool} (h : rb b ≠ 1) : b = false := by cases b <;> first | rfl | exact absurd rfl h
theorem pc_and_pow {x z : Nat} (hz : z < 10) : pc (x &&& 2 ^ z) = rb (x.testBit z) := by
  cases h : x.testBit z with
  | false => rw [and_pow_z h]; rfl
  | true =>
    have h1 : x &&& 2 ^ z = 2 ^ z := by
      apply Nat.eq_of_testBit_eq
      intro j
      rw [Nat.testBit_and]
      by_cases e : z = j
      · rw [← e, h]; rfl
      · rw [Nat.testBit_two_pow_of_ne e]; simp
    rw [h1]
    have h2 : ∀ z, z < 10 → pc (2 ^ z) = 1 := by decide +kernel
    exact h2 z hz
theorem pc_and_all {v : Nat → Nat → Nat} {t b sm : Nat} : pc (hearS (cutv v sm) t b &&& (2 ^ v 8 0 - 1)) = pc (hearS (cutv v sm) t b) := by
  rw [show v 8 0 = cutv v sm 8 0 from rfl, hear_all]
theorem cutRow33 {r : Nat → Nat} {sm j : Nat} : cutRow r sm (33 + j) = r (33 + j) ∨ 252 ≤ 33 + j := by
  rcases Nat.lt_or_ge (33 + j) 252 with h | h
  · exact Or.inl (by unfold cutRow; exact cutP_lo h)
  · exact Or.inr h
theorem wq_c {v : Nat → Nat → Nat} {q sm i : Nat} (h : v 4 i = 1) : wq v q sm i = 1 := if_pos h
theorem wq_t {v : Nat → Nat → Nat} {q sm i : Nat} (h : v 4 i ≠ 1) (h2 : sm.testBit i = true) : wq v q sm i = q := by unfold wq; rw [if_neg h, if_pos h2]
theorem wq_f {v : Nat → Nat → Nat} {q sm i : Nat} (h : v 4 i ≠ 1) (h2 : sm.testBit i = false) : wq v q sm i = 10 - q := by unfold wq; rw [if_neg h, if_neg (by rw [h2]; decide)]
def seeM (M : Nat → Nat → Nat) (x y : Int32) : Nat → Nat → Nat := if (ix x (M 20 0) && rg y 0 120) = true then (if M 20 11 < 6 then u2 (u2 (u2 M 8 (2 * M 20 11) (tn x)) 8 (2 * M 20 11 + 1) (tn y)) 20 11 (M 20 11 + 1) else M) else M
def forgetM (M : Nat → Nat → Nat) (x : Int32) : Nat → Nat → Nat := if rg x 0 (M 20 11) = true then u2 M 20 11 (tn x) else M
def m_keep (M : Nat → Nat → Nat) (x : Int32) : Int32 := if rg x 0 1 = true then nI (M 10 (tn x)) else -1
def keepM (M : Nat → Nat → Nat) (x : Int32) : Nat → Nat → Nat := if rg x 0 1 = true then u2 (u3 M 0 (pcopy (M 0) 0 (63 * (tn x + 1)) 63)) 10 (tn x) 1 else M
def backM (M : Nat → Nat → Nat) (x : Int32) : Nat → Nat → Nat := if rg x 0 1 = true then (if M 10 (tn x) = 0 then M else u3 M 0 (pcopy (M 0) (63 * (tn x + 1)) 0 63)) else M
def m_back (M : Nat → Nat → Nat) (x : Int32) : Int32 := if rg x 0 1 = true then (if M 10 (tn x) = 0 then -2 else nI (crossS (pgv M (63 * (tn x + 1))))) else -1
theorem pgb {M : Nat → Nat → Nat} {p : Nat} (hW : VW (pgv M p)) : VEq (pgv (u3 M 0 (pcopy (M 0) p 0 63)) 0) (pgv M p) :=
  pgq (M := u3 M 0 (pcopy (M 0) p 0 63)) (N := M) (p := 0) (q := p) rfl hW.1 hW.2.1 hW.2.2.2.1 (fun j hj => pcopy_in (r := M 0) (p := p) (q := 0) (n := 63) hj)
def m_sheet (x y z : Int32) : Int32 := a_sheet x y z
def sheetM (M : Nat → Nat → Nat) (x y z : Int32) : Nat → Nat → Nat := if shOk x y z = true then (if 0 ≤ z then u2 M 12 (tn x) (tn z) else M) else M
def sheetL (la : Nat → Int32) (x y z : Int32) : Nat → Int32 := if shOk x y z = true then (if 0 ≤ z then upd la (tn x) y else la) else la
def zero40 (ce : Nat → Int32) (k n : Nat) : Nat → Int32 := fun j => if 40 * k ≤ j ∧ j < 40 * k + n then 0 else ce j
def sheetC (ce : Nat → Int32) (x y z : Int32) : Nat → Int32 := if shOk x y z = true then (if 0 ≤ z then zero40 ce (tn x) 40 else ce) else ce
theorem zero40_0 (ce : Nat → Int32) (k : Nat) : zero40 ce k 0 = ce := by funext j; exact if_neg (by omega)
theorem zero40_s (ce : Nat → Int32) (k n : Nat) : upd (zero40 ce k n) (40 * k + n) 0 = zero40 ce k (n + 1) := by
  funext j
  unfold upd zero40
  by_cases h : j = 40 * k + n
  · rw [if_pos h, if_pos (by omega)]
  · rw [if_neg h]
    by_cases h2 : 40 * k ≤ j ∧ j < 40 * k + n
    · rw [if_pos h2, if_pos (by omega)]
    · rw [if_neg h2, if_neg (by omega)]
def m_lay (la : Nat → Int32) (ln : Nat → Nat) (x y : Int32) : Int32 := if rg x 0 3 = true then (if la (tn x) = -4 then -11 else if ix y (ln (tn x)) = true then nI 1 else -12) else -1
def layM (la : Nat → Int32) (ln : Nat → Nat) (ce : Nat → Int32) (x y z : Int32) : Nat → Int32 := if rg x 0 3 = true then (if la (tn x) = -4 then ce else if ix y (ln (tn x)) = true then upd ce (40 * tn x + tn y) (narr (la (tn x)) z) else ce) else ce
def m_count (nS kp nT : Nat) (l0 : Int32) (n0 : Nat) (v : Nat → Nat → Nat) (x : Int32) : Int32 := if x = nI 0 then nI nS else if x = nI 1 then nI kp else if x = nI 2 then nI nT else if x = nI 3 then (if l0 = -4 then -4 else nI n0) else if x = nI 4 then nI (nsum (v 3) (v 8 1)) else if x = nI 5 then nI (nsum (v 7) (v 8 3)) else -1
def feedM (M : Nat → Nat → Nat) (x : Int32) : Nat → Nat → Nat := if rg x 0 127 = true then (if M 20 3 < 160 then u2 (u2 M 2 (M 20 3) (tn x)) 20 3 (M 20 3 + 1) else M) else M
def endM (M : Nat → Nat → Nat) (x : Int32) : Nat → Nat → Nat := if rg x 0 (M 20 3) = true then u2 M 20 3 (tn x) else M
theorem kinds_s {v : Nat → Nat → Nat} {n t k bs : Nat} {pl lo : Nat → Nat} (h : bs = bset (kindsP v n pl lo t) k) (h0 : sayS (u2 v 0 t k) n pl lo = 0) : bs ||| 0 = bset (kindsP v n pl lo t) (k + 1) := by
  rw [bset_f (kinds_f' h0), Nat.or_zero]; exact h
theorem kinds_s' {v : Nat → Nat → Nat} {n t k bs : Nat} {pl lo : Nat → Nat} (h : bs = bset (kindsP v n pl lo t) k) (h0 : 0 < sayS (u2 v 0 t k) n pl lo) : bs ||| 2 ^ k = bset (kindsP v n pl lo t) (k + 1) := by
  rw [bset_t (kinds_t' h0), h]
theorem sayVE {v w : Nat → Nat → Nat} (h : VEq v w) {pl lo : Nat → Nat} {n : Nat} (hp : ∀ j, j < n → pl j < v 8 0) : sayS v n pl lo = sayS w n pl lo := sayS_eq h hp (fun _ _ => ⟨rfl, rfl⟩)
theorem fill0 {d : Nat → Nat} {i : Nat} (h : ∀ j, j < i → d j = 0) : ∀ j, j < i + 1 → u1 d i 0 j = 0 := fill_s h
theorem drs_s (s : Int32) (k : Nat) : drs s (k + 1) = drs s k * (1103515245 : Int32) + nI 12345 := rfl
theorem drv_80 (v : Nat → Nat → Nat) (s : Int32) : ∀ k, drv v s k 8 0 = v 8 0 ∧ drv v s k 8 1 = v 8 1 ∧ drv v s k 8 3 = v 8 3 := by
  intro k
  induction k with
  | zero => exact ⟨rfl, rfl, rfl⟩
  | succ k ih => exact ⟨ih.1, ih.2.1, ih.2.2⟩
theorem VW.togu {v : Nat → Nat → Nat} {i x : Nat} (hv : VW v) (h : x ≤ 20) : VW (tog v i x) := by
  obtain ⟨h0, h1, h2, h3, h4, h5, h6⟩ := hv
  refine ⟨h0, h1, h, h3, h4, fun j hj => ⟨(h5 j hj).1, (h5 j hj).2.1, (h5 j hj).2.2.1, (h5 j hj).2.2.2.1, (h5 j hj).2.2.2.2.1, ?_⟩, h6⟩
  show u1 (v 4) i (1 - v 4 i) j ≤ 1
  unfold u1; split
  · omega
  · exact (h5 j hj).2.2.2.2.2
theorem drv_w {v : Nat → Nat → Nat} (hv : VW v) (s : Int32) : ∀ k, VW (drv v s k) := by
  intro k
  induction k with
  | zero => exact hv
  | succ k ih => exact ih.togu (by have := Nat.mod_lt (gotS (drs s (k + 1)) / 16) (show 0 < 21 by decide); omega)
theorem tog_eq {v w : Nat → Nat → Nat} {i x : Nat} (h : VEq v w) (hi : i < v 8 1) : VEq (tog v i x) (tog w i x) := by
  unfold tog
  rw [(h.2.2.2.2.2.1 i hi).2.2.2]
  exact vu2_eq (f := 8) (i := 2) (vu2_eq (f := 4) (i := i) h (Or.inl (by decide))) (Or.inr rfl)
/-- a step of the years, on the page that is tried -/
theorem pg_tog {M : Nat → Nat → Nat} {r : Nat → Nat} {w : Nat → Nat → Nat} {i x : Nat} (hw : VW w) (hi : i < w 8 1) (h : VEq (pgv (u3 M 0 r) 252) w) : VEq (pgv (u3 M 0 (u1 (u1 r (285 + i) (1 - r (285 + i))) 295 x)) 252) (tog w i x) := by
  have h2 : VEq (tog (pgv (u3 M 0 r) 252) i x) (tog w i x) := tog_eq h (by rw [h.2.1]; exact hi)
  refine VEq.tr ?_ h2
  have hr : w 8 1 ≤ 9 := hw.2.1
  have h0 : w 8 0 ≤ 6 := hw.1
  have h3 : w 8 3 ≤ 6 := hw.2.2.2.1
  have e0 : pgv (u3 M 0 r) 252 8 0 = w 8 0 := h.1
  have e1 : pgv (u3 M 0 r) 252 8 1 = w 8 1 := h.2.1
  have e3 : pgv (u3 M 0 r) 252 8 3 = w 8 3 := h.2.2.2.1
  have hn : ∀ j, j ≠ 285 + i → j ≠ 295 → u1 (u1 r (285 + i) (1 - r (285 + i))) 295 x j = r j := fun j hj hk => by rw [u1_n _ _ hk, u1_n _ _ hj]
  refine ⟨rfl, hn (252 + 42) (by omega) (by omega), u1_s (u1 r (285 + i) (1 - r (285 + i))) 295 x, hn (252 + 62) (by omega) (by omega), fun t ht => ?_, fun k hk => ?_, fun j hj => ?_⟩
  · have ht : t < pgv (u3 M 0 r) 252 8 0 := ht
    exact hn _ (by omega) (by omega)
  · have hk : k < u1 (u1 r (285 + i) (1 - r (285 + i))) 295 x (252 + 42) := hk
    rw [hn _ (by omega) (by omega)] at hk
    have hk : k < pgv (u3 M 0 r) 252 8 1 := hk
    refine ⟨hn _ (by omega) (by omega), hn _ (by omega) (by omega), hn _ (by omega) (by omega), ?_⟩
    show u1 (u1 r (285 + i) (1 - r (285 + i))) 295 x (252 + 33 + k) = u1 (pgv (u3 M 0 r) 252 4) i (1 - pgv (u3 M 0 r) 252 4 i) k
    rw [u1_n _ _ (by omega)]
    by_cases e : k = i
    · subst e; rw [u1_s, u1_s]; rfl
    · rw [u1_n _ _ (by omega), u1_n _ _ e]; rfl
  · have hj : j < u1 (u1 r (285 + i) (1 - r (285 + i))) 295 x (252 + 62) := hj
    rw [hn _ (by omega) (by omega)] at hj
    have hj : j < pgv (u3 M 0 r) 252 8 3 := hj
    exact ⟨hn _ (by omega) (by omega), hn _ (by omega) (by omega), hn _ (by omega) (by omega)⟩
theorem drv_n {v : Nat → Nat → Nat} {s : Int32} {k : Nat} : drv v s (k + 1) = tog (drv v s k) (gotS (drs s (k + 1)) % v 8 1) (gotS (drs s (k + 1)) / 16 % 21) := rfl
theorem lw_t2 {v : Nat → Nat → Nat} {x n j i m2 w : Nat} {pl lo l2 : Nat → Nat} {s : (Nat → Nat) × Nat} (hj : 1 ≤ j) (h : fitS v i j n pl lo = true) (hf : (l2, m2) = lwB v x n pl lo i (j - 1) s) (ho : (m2 < l2 (loudS (v 0 x) j (dist v i x)) + 1 ∧ w = l2 (loudS (v 0 x) j (dist v i x)) + 1) ∨ (l2 (loudS (v 0 x) j (dist v i x)) + 1 ≤ m2 ∧ w = m2)) : (u1 l2 (loudS (v 0 x) j (dist v i x)) (l2 (loudS (v 0 x) j (dist v i x)) + 1), w) = lwB v x n pl lo i (j + 1 - 1) s := by
  rw [← lw_t hj h hf, u1_s]
  congr 1
  rcases ho with ⟨h1, h2⟩ | ⟨h1, h2⟩
  · rw [h2, Nat.max_eq_right (by omega)]
  · rw [h2, Nat.max_eq_left (by omega)]
theorem la0 {x : Int32} (h : x = 0) : x = nI 0 := h.trans nI_0.symm
theorem la0n {x : Int32} (h : ¬ x = 0) : ¬ x = nI 0 := fun q => h (q.trans nI_0)
/-! talks read from a sheet, cell by cell -/
def lnm (x : Int32) : Int32 := if x = -4 then -1 else x
def addv (v : Nat → Nat → Nat) (a b c : Nat) : Nat → Nat → Nat := u2 (u2 (u2 (u2 v 5 (v 8 3) a) 6 (v 8 3) b) 7 (v 8 3) c) 8 3 (v 8 3 + 1)
def rdV (v : Nat → Nat → Nat) (f : Int32) (ce : Nat → Int32) : Nat → (Nat → Nat → Nat)
  | 0 => v
  | i + 1 => addv (rdV v f ce i) (tn (ce (tn (rdAt f i)))) (tn (ce (tn (rdAt f i) + 1))) (tn (ce (tn (rdAt f i) + 2)))
def readV (v : Nat → Nat → Nat) (l : Int32) (n : Nat) (ce : Nat → Int32) (x lane f w : Int32) : Nat → Nat → Nat := if (rg x 0 3 && rg lane 0 2 && rg w 0 13) = true then (if rdB v l n ce lane f (tn w) = true then v else rdV v f ce (rdC v l n ce lane f (tn w))) else v
theorem rdV_83 (v : Nat → Nat → Nat) (f : Int32) (ce : Nat → Int32) : ∀ i, rdV v f ce i 8 3 = v 8 3 + i := by
  intro i
  induction i with
  | zero => rfl
  | succ i ih => show rdV v f ce i 8 3 + 1 = _; rw [ih]; rfl
theorem rdV_8 (v : Nat → Nat → Nat) (f : Int32) (ce : Nat → Int32) : ∀ i, rdV v f ce i 8 0 = v 8 0 ∧ rdV v f ce i 8 1 = v 8 1 := by
  intro i
  induction i with
  | zero => exact ⟨rfl, rfl⟩
  | succ i ih => exact ih
def fi (z : Int32) (i n : Nat) : Bool := decide (0 ≤ z.toInt + i) && decide (z.toInt + i < (n : Int))
theorem inL_fi (z : Int32) {i n : Nat} (hi : i < 1000) (hn : n < 1000) : inL (z.toInt64 + lN i) (lN 0) ((nI n - nI 1).toInt64) = fi z i n := by
  have h1 := Int32.toInt_lt z
  have h2 := Int32.le_toInt z
  have e : (z.toInt64 + lN i).toInt = z.toInt + i := by
    rw [Int64.toInt_add, Int32.toInt_toInt64, lN_toInt (by omega), Int.bmod_def]
    split <;> omega
  have e2 : ((nI n - nI 1).toInt64).toInt = (n : Int) - 1 := by rw [Int32.toInt_toInt64, nI_m1 (by omega)]
  have e3 : (lN 0).toInt = 0 := by decide
  unfold inL fi
  rw [decide_eq_decide.mpr (show (lN 0 ≤ z.toInt64 + lN i) ↔ (0 ≤ z.toInt + (i : Int)) by rw [Int64.le_iff_toInt_le, e, e3]), decide_eq_decide.mpr (show (z.toInt64 + lN i ≤ (nI n - nI 1).toInt64) ↔ (z.toInt + (i : Int) < (n : Int)) by rw [Int64.le_iff_toInt_le, e, e2]; omega)]
theorem fi_t {z : Int32} {i n : Nat} (h : fi z i n = true) (hz : 0 ≤ z.toInt) : ∃ q : Nat, z = nI q ∧ q + i < n := by
  unfold fi at h
  simp only [Bool.and_eq_true, decide_eq_true_eq] at h
  have h9 := Int32.toInt_lt z
  refine ⟨z.toInt.toNat, Int32.toInt_inj.mp ?_, by omega⟩
  rw [nI_toInt (by omega)]; omega
theorem fi_t0 {z : Int32} {n : Nat} (h : fi z 0 n = true) : 0 ≤ z.toInt := by
  unfold fi at h
  simp only [Bool.and_eq_true, decide_eq_true_eq] at h
  omega
theorem fi_f {q i n : Nat} (hq : q < 2 ^ 31) (h : fi (nI q) i n = false) : n ≤ q + i := by
  unfold fi at h
  rw [nI_toInt hq, decide_eq_true (by omega), Bool.true_and, decide_eq_false_iff_not] at h
  omega
/-- what is known of the place before a cell is looked at -/
def rdH (l lane z : Int32) (n i : Nat) : Prop := 0 < i → l ≠ -4 ∧ l = lane ∧ ∃ q : Nat, z = nI q ∧ q + i ≤ n
theorem rdAt_n {q c : Nat} : rdAt (nI q) c = nI (q + 3 * c) := by unfold rdAt; rw [nI_add]
theorem rd1 {l lane x : Int32} {n : Nat} (h : l = -4) : rdF (lnm l) n lane x = 1 := by
  unfold rdF lnm
  rw [if_pos h, if_neg (fun q => q.1 rfl), if_pos rfl]
theorem rd3 {l lane x : Int32} {n : Nat} (h : ¬ l = -4) (h1 : l ≠ -1) (h2 : ¬ l = lane) : rdF (lnm l) n lane x = 3 := by
  unfold rdF lnm
  rw [if_neg h, if_pos ⟨h1, h2⟩]
theorem rd02 {l lane x : Int32} {n : Nat} (h : ¬ l = -4) (h1 : l ≠ -1) (h2 : l = lane) : rdF (lnm l) n lane x = if fc x n 3 = true then 0 else 2 := by
  unfold rdF lnm
  rw [if_neg h, if_neg (fun q => q.2 h2), if_neg h1]
theorem rd2 {l lane z : Int32} {n i c : Nat} (h : ¬ l = -4) (h1 : l ≠ -1) (h2 : l = lane) (hn : n ≤ 40) (hi : 3 * c ≤ i ∧ i ≤ 3 * c + 2) (hh : rdH l lane z n i) (hf : fi z i n = false) : rdF (lnm l) n lane (rdAt z c) = 2 := by
  rw [rd02 h h1 h2, if_neg]
  intro hc
  by_cases h0 : 0 < i
  · obtain ⟨-, -, q, rfl, hq⟩ := hh h0
    have h3 := fi_f (by omega) hf
    rw [rdAt_n] at hc
    unfold fc at hc
    rw [nI_toInt (by omega), Bool.and_eq_true, decide_eq_true_eq, decide_eq_true_eq] at hc
    omega
  · have e : c = 0 := by omega
    subst e
    have e1 : rdAt z 0 = z := by unfold rdAt; exact Int32.add_zero z
    rw [e1] at hc
    unfold fc at hc
    unfold fi at hf
    rw [Bool.and_eq_true, decide_eq_true_eq, decide_eq_true_eq] at hc
    rw [decide_eq_true (by omega), Bool.true_and, decide_eq_false_iff_not] at hf
    omega
theorem rd0 {l lane : Int32} {n i c q : Nat} (h : ¬ l = -4) (h1 : l ≠ -1) (h2 : l = lane) (hn : n ≤ 40) (hi : i = 3 * c + 2) (hq : q + i < n) : rdF (lnm l) n lane (rdAt (nI q) c) = 0 := by
  rw [rd02 h h1 h2, if_pos]
  rw [rdAt_n]
  unfold fc
  rw [nI_toInt (by omega), decide_eq_true (by omega), decide_eq_true (by omega)]; rfl
theorem rdH_s {l lane z : Int32} {n i : Nat} (hn : n ≤ 40) (h : ¬ l = -4) (h2 : l = lane) (hh : rdH l lane z n i) (hf : fi z i n = true) : rdH l lane z n (i + 1) := by
  intro _
  have hz : 0 ≤ z.toInt := by
    by_cases h0 : 0 < i
    · obtain ⟨-, -, q, rfl, hq⟩ := hh h0
      rw [nI_toInt (by omega)]; omega
    · have e : i = 0 := by omega
      subst e; exact fi_t0 hf
  obtain ⟨q, h3, h4⟩ := fi_t hf hz
  exact ⟨h, h2, q, h3, by omega⟩
