/-! the two states -/
def RelG (G Mt : Nat → Nat → Nat) : Prop := GW G ∧ VEq (cgv G) (pgv Mt 0)
def RelI (kb : Nat) (I0 J0 Mt : Nat → Nat → Nat) : Prop := kb < 4 ∧ Mt 10 0 = rb (kb.testBit 0) ∧ Mt 10 1 = rb (kb.testBit 1) ∧ (kb.testBit 0 = true → GW I0 ∧ VEq (cgv I0) (pgv Mt 63)) ∧ (kb.testBit 1 = true → GW J0 ∧ VEq (cgv J0) (pgv Mt 126))
def RelT (n : Nat) (t : Nat → Nat) (Mt : Nat → Nat → Nat) : Prop := Mt 20 3 = n ∧ n ≤ 160 ∧ ∀ j, j < n → t j = Mt 2 j ∧ t j < 128
def RelS (G : Nat → Nat → Nat) (sn : Nat) (pl lo : Nat → Nat) (Mt : Nat → Nat → Nat) : Prop := Mt 20 11 = sn ∧ sn ≤ 6 ∧ ∀ j, j < sn → pl j = Mt 8 (2 * j) ∧ lo j = Mt 8 (2 * j + 1) ∧ pl j < G 8 0 ∧ lo j ≤ 120
def RelF (K : Nat → Nat → Nat) (rf : Nat) (Mt : Nat → Nat → Nat) : Prop := Mt 20 4 = K 0 0 ∧ K 0 2 ≤ 3 ∧ Mt 20 12 = rf
def RelC (kn : Nat → Nat) (kl : Nat → Int32) (kc : Nat → Nat → Int32) (Mt : Nat → Nat → Nat) (la ce : Nat → Int32) : Prop := ∀ k, k < 4 → kl k = lnm (la k) ∧ (la k ≠ -4 → la k ≠ -1) ∧ kn k = Mt 12 k ∧ kn k ≤ 40 ∧ ∀ j, j < 40 → kc k j = ce (40 * k + j)
def Rel (G : Nat → Nat → Nat) (I0 : Nat → Nat → Nat) (J0 : Nat → Nat → Nat) (kb : Nat) (n : Nat) (t : Nat → Nat) (sn : Nat) (pl : Nat → Nat) (lo : Nat → Nat) (K : Nat → Nat → Nat) (rf : Nat) (kn : Nat → Nat) (kl : Nat → Int32) (kc : Nat → Nat → Int32) (Mt : Nat → Nat → Nat) (la : Nat → Int32) (ce : Nat → Int32) : Prop := RelG G Mt ∧ RelI kb I0 J0 Mt ∧ RelT n t Mt ∧ RelS G sn pl lo Mt ∧ RelF K rf Mt ∧ RelC kn kl kc Mt la ce
def lawB (tk : Nat → ClassId) (a : Nat) (u : Nat → Nat → Nat) (h : Nat → Nat) (G : Nat → Nat → Nat) (d : Nat → Nat) (e : Nat → Nat) (T : Nat → Nat → Nat) (td : Nat → Nat) (te : Nat → Nat) (I0 : Nat → Nat → Nat) (di : Nat → Nat) (ei : Nat → Nat) (J0 : Nat → Nat → Nat) (dj : Nat → Nat) (ej : Nat → Nat) (ch : Int32) (am : Int32) (K : Nat → Nat → Nat) (wt : Bool) (n : Nat) (t : Nat → Nat) (D0 : Nat → Nat → Nat) (dd : Nat → Nat) (de : Nat → Nat) (sn : Nat) (pl : Nat → Nat) (lo : Nat → Nat) (le : Nat → Nat) (kb : Nat) (rf : Nat) (kn : Nat → Nat) (kl : Nat → Int32) (kc : Nat → Nat → Int32) (Mt : Nat → Nat → Nat) (hi : Int32) (la : Nat → Int32) (ce : Nat → Int32) : List va_W := [lW a (u 0) (u 1) (u 8 0) (u 8 1) (u 8 2) (u 5) (u 8 3) kb rf, gW tk (u 0) G d e, gW tk (u 1) T td te, gW tk (u 3) I0 di ei, gW tk (u 4) J0 dj ej, imW tk (u 8 0) (u 3 0) (u 4 0), bW (u 8 1) ch am, rV (u 8 2) (u 8 4) (u 2) K wt, tW tk (u 8 4) (u 8 5) n t, gW tk (u 2) D0 dd de, sW tk (u 5) sn pl lo le, hsW tk (u 8 3) (u 6 0) (u 6 1) (u 6 2) (u 6 3), shW tk (u 6 0) (u 7 0) (kn 0) (kl 0) (kc 0), shW tk (u 6 1) (u 7 1) (kn 1) (kl 1) (kc 1), shW tk (u 6 2) (u 7 2) (kn 2) (kl 2) (kc 2), shW tk (u 6 3) (u 7 3) (kn 3) (kl 3) (kc 3), mW tk h Mt hi la ce]
def LC0 (p : Program) (s : State) (m : MethodId) (c : Code) (D : va_G) (A : Nat → Prop) (tk : Nat → ClassId) (sK sV : Nat → Nat) (b L : Nat) (xs : Nat → Int32) : Prop := Cx p s m #[Value.ref b] c cL_law RL 4 D (TYS tk) ∧ SF sK sV A s s.heap ∧ va_X b L xs s s.heap ∧ b < s.heap.size ∧ ¬ A b ∧ L ≤ 384
def LG (zp : Program) (l : Launch) (ze : Env) (zs : State) (zm : MethodId) (zb : List Frame) (zt : Method) (zc : Code) (D : va_G) (zA : Nat → Prop) (tk : Nat → ClassId) (zQ : State → Prop) (b a : Nat) (u : Nat → Nat → Nat) (h : Nat → Nat) (i : Nat) : Prop := ∀ (G : Nat → Nat → Nat) (d : Nat → Nat) (e : Nat → Nat) (T : Nat → Nat → Nat) (td : Nat → Nat) (te : Nat → Nat) (I0 : Nat → Nat → Nat) (di : Nat → Nat) (ei : Nat → Nat) (J0 : Nat → Nat → Nat) (dj : Nat → Nat) (ej : Nat → Nat) (ch : Int32) (am : Int32) (K : Nat → Nat → Nat) (wt : Bool) (n : Nat) (t : Nat → Nat) (D0 : Nat → Nat → Nat) (dd : Nat → Nat) (de : Nat → Nat) (sn : Nat) (pl : Nat → Nat) (lo : Nat → Nat) (le : Nat → Nat) (kb : Nat) (rf : Nat) (kn : Nat → Nat) (kl : Nat → Int32) (kc : Nat → Nat → Int32) (Mt : Nat → Nat → Nat) (hi : Int32) (la : Nat → Int32) (ce : Nat → Int32), Rel G I0 J0 kb n t sn pl lo K rf kn kl kc Mt la ce → ∀ (H : Heap) (locs : List Loc) (ls : Array Slot), Hx D zA zs H locs (bflat (lawB tk a u h G d e T td te I0 di ei J0 dj ej ch am K wt n t D0 dd de sn pl lo le kb rf kn kl kc Mt hi la ce)) → lv_has ls 4 [(3, .int (nI i)), (2, .ref (h 0)), (1, .ref a), (0, .ref b)] → W zp l ze room_1 zs zm #[Value.ref b] zb zt zc H locs 83 1802 zQ (F0 zm 1691 ls [])
theorem GW.vw {G : Nat → Nat → Nat} (h : GW G) : VW (cgv G) := by
  obtain ⟨h1, h2, h3, h4, h5, h6, h7, h8⟩ := h
  refine ⟨h1, h2, h3, h4, h6, fun i hi => ?_, h8⟩
  obtain ⟨a1, a2, a3, a4, a5⟩ := h7 i hi
  refine ⟨a1, a2, a3, a4, a5, ?_⟩
  unfold cgv
  rw [if_pos rfl]
  split <;> decide
theorem rel_facts {G : Nat → Nat → Nat} {I0 : Nat → Nat → Nat} {J0 : Nat → Nat → Nat} {K : Nat → Nat → Nat} {n : Nat} {t : Nat → Nat} {sn : Nat} {pl : Nat → Nat} {lo : Nat → Nat} {kb : Nat} {rf : Nat} {kn : Nat → Nat} {kl : Nat → Int32} {kc : Nat → Nat → Int32} {Mt : Nat → Nat → Nat} {la : Nat → Int32} {ce : Nat → Int32} (hR : Rel G I0 J0 kb n t sn pl lo K rf kn kl kc Mt la ce) : (GW G) ∧ (VW (pgv Mt 0)) ∧ (kb < 4) ∧ (Mt 10 0 ≤ 1) ∧ (Mt 10 1 ≤ 1) ∧ (kb.testBit 0 = true → GW I0) ∧ (kb.testBit 1 = true → GW J0) ∧ (Mt 10 0 ≠ 0 → VW (pgv Mt 63)) ∧ (Mt 10 1 ≠ 0 → VW (pgv Mt 126)) ∧ (sn ≤ 6) ∧ (∀ j, j < sn → pl j < G 8 0 ∧ lo j ≤ 120) ∧ (Mt 20 11 ≤ 6) ∧ (∀ j, j < Mt 20 11 → Mt 8 (2 * j) < Mt 20 0 ∧ Mt 8 (2 * j + 1) ≤ 120) ∧ (n ≤ 160) ∧ (Mt 20 3 ≤ 160) ∧ (Mt 20 3 = n) ∧ (∀ j, j < n → t j < 128) ∧ (∀ j, j < n → Mt 2 j < 128) ∧ (K 0 2 ≤ 3) ∧ (∀ k, k < 4 → kn k ≤ 40) ∧ (∀ k, k < 4 → Mt 12 k ≤ 40) ∧ (∀ k, k < 4 → la k ≠ -4 → la k ≠ -1) := by
  obtain ⟨⟨g1, g2⟩, ⟨i1, i2, i3, i4, i5⟩, ⟨t1, t2, t3⟩, ⟨s1, s2, s3⟩, ⟨e1, e2, e3⟩, hc⟩ := hR
  have h80 : G 8 0 = Mt 20 0 := g2.1
  refine ⟨g1, VW.eq g2 g1.vw, i1, by rw [i2]; exact rb_le1 _, by rw [i3]; exact rb_le1 _, fun q => (i4 q).1, fun q => (i5 q).1, fun q => ?_, fun q => ?_, s2, fun j hj => ⟨(s3 j hj).2.2.1, (s3 j hj).2.2.2⟩, by omega, fun j hj => ?_, t2, by omega, t1, fun j hj => (t3 j hj).2, fun j hj => by rw [← (t3 j hj).1]; exact (t3 j hj).2, e2, fun k hk => (hc k hk).2.2.2.1, fun k hk => by rw [← (hc k hk).2.2.1]; exact (hc k hk).2.2.2.1, fun k hk => (hc k hk).2.1⟩
  · have h : kb.testBit 0 = true := by cases z : kb.testBit 0 with
      | true => rfl
      | false => rw [z] at i2; exact absurd i2 q
    exact VW.eq (i4 h).2 (i4 h).1.vw
  · have h : kb.testBit 1 = true := by cases z : kb.testBit 1 with
      | true => rfl
      | false => rw [z] at i3; exact absurd i3 q
    exact VW.eq (i5 h).2 (i5 h).1.vw
  · obtain ⟨a1, a2, a3, a4⟩ := s3 j (by omega)
    rw [← a1, ← a2, ← h80]
    exact ⟨a3, a4⟩
section LWR
variable {p : Program} {l : Launch} {e : Env} {R : Room} {s : State} {m : MethodId} {args : Array Value} {below : List Frame} {meth : Method} {c : Code} {H : Heap} {locs : List Loc} {cells slots : Nat} {Q : State → Prop}
variable {cc : ByteArray} {pc : Nat} {ls : Array Slot} {rest : List Value} {D : va_G} {A : Nat → Prop} {a : Nat} {TY : List (ClassId × FieldType)} {ws : va_W} {own : String} {nL : Nat}
theorem g_sld (C0 : Cx p s m args c cc own nL D TY) (X : Hx D A s H locs ws) {b L : Nat} {xs : Nat → Int32} (hX : va_X b L xs s s.heap) (hbl : b < s.heap.size) (hbA : ¬ A b) {i : Nat} (hi : i < L) (hL : L ≤ 384) (hdg : decode cc pc = .ok (.iaload, 1)) (kk : W p l e R s m args below meth c H locs cells slots Q (F0 m (pc + 1) ls (.int (xs i) :: rest))) : W p l e R s m args below meth c H locs cells slots Q (F0 m pc ls (.int (nI i) :: .ref b :: rest)) := by
  have h8 : (nI i).toNatClampNeg = i := nI_clamp (by omega)
  exact va_sld C0.1 C0.2.1 hX hbl hbA X.2.2.1 (vp_in_nI hi (by omega)) hdg (by rw [h8]; exact kk)
theorem g_slen (C0 : Cx p s m args c cc own nL D TY) (X : Hx D A s H locs ws) {b L : Nat} {xs : Nat → Int32} (hX : va_X b L xs s s.heap) (hbl : b < s.heap.size) (hbA : ¬ A b) (hdg : decode cc pc = .ok (.arraylength, 1)) (kk : W p l e R s m args below meth c H locs cells slots Q (F0 m (pc + 1) ls (.int (nI L) :: rest))) : W p l e R s m args below meth c H locs cells slots Q (F0 m pc ls (.ref b :: rest)) := va_slen C0.1 C0.2.1 hX hbl hbA X.2.2.1 hdg kk
end LWR
