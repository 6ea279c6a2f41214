/-! Contracts and rows in a bundled form, over the kit's rows. -/
def rb (b : Bool) : Nat := if b then 1 else 0
theorem rb_lt (b : Bool) : rb b < 2 ^ 31 := by cases b <;> decide
/-- what a method finds at its start -/
def Bx (D : va_G) (TY : List (ClassId × FieldType)) (wc : va_W) (sz : Nat) : State → Prop := fun U => U.heap.size = sz ∧ va_P D vwCl wc U.heap ∧ va_K D vwCl TY U ∧ va_D (fun _ => True) wc
theorem Bx.blind {D : va_G} {TY : List (ClassId × FieldType)} {wc : va_W} {sz : Nat} {av : List Value} : FrameBlind (va_Pc av (Bx D TY wc sz)) := fun a U g mk q => by
  obtain ⟨q0, q1, qP, qK, qD⟩ := q
  exact ⟨q0, q1, qP, va_K.moved (u := U) (U := U.calling g mk a) (Vm.Alike.refl U.vm) qK, qD⟩
/-- a contract: the answer is 'out u', the cells behind it are 'w1 u', for a u of which 'post' holds -/
def MX (l : Launch) (y : MethodName) (cc : ByteArray) (n : Nat) (ret : Option FieldType) (rm : Room) (D : va_G) (TY : List (ClassId × FieldType)) (av : List Value) (wc : va_W) {S : Type} (post : S → Prop) (out : S → Option Value) (w1 : S → va_W) (mc ms : Nat) : Prop :=
  ∀ sz : Nat, Met l y (.code y cc n ret :: TB) rm (va_Pc av (Bx D TY wc sz)) (fun _ st o t => (∃ u : S, o = .returned (out u) ∧ post u ∧ va_P D vwCl (w1 u) t.heap ∧ va_D (va_A wc sz) (w1 u)) ∧ va_F (va_A wc sz) st t) mc ms (va_A wc sz)
def Cx (p : Program) (s : State) (m : MethodId) (args : Array Value) (c : Code) (cc : ByteArray) (own : String) (nL : Nat) (D : va_G) (TY : List (ClassId × FieldType)) : Prop :=
  p.tables.exec = Jvm.exec ∧ c.code = cc ∧ c.maxLocals = nL ∧ s.vm.findClass own = some m.cls ∧ (∀ w ∈ TB, w.before args s = true) ∧ va_K D vwCl TY s
def Hx (D : va_G) (A : Nat → Prop) (s : State) (H : Heap) (locs : List Loc) (ws : va_W) : Prop :=
  va_P D vwCl ws H ∧ va_D A ws ∧ va_S A s.heap H locs ∧ ∀ q, s.heap.size ≤ q → A q
theorem Hx.to {D : va_G} {A : Nat → Prop} {s : State} {H : Heap} {locs : List Loc} {ws ws' : va_W} (X : Hx D A s H locs ws) (h : ws = ws') : Hx D A s H locs ws' := h ▸ X
theorem Hx.sub {D : va_G} {A : Nat → Prop} {s : State} {H : Heap} {locs : List Loc} {ws ws' : va_W} (X : Hx D A s H locs ws) (is : List Nat) (hn : va_nd is = true) (hs : is.map (fun i => ws[i]?) = ws'.map some) : Hx D A s H locs ws' := by
  refine ⟨X.1.sub is ?_, X.2.1.sub is hn hs, X.2.2.1, X.2.2.2⟩
  have : is.filterMap (fun i => ws[i]?) = (is.map (fun i => ws[i]?)).filterMap id := by rw [List.filterMap_map]; rfl
  rw [this, hs]
  induction ws' with
  | nil => rfl
  | cons a t ih => simp
section RX
variable {p : Program} {l : Launch} {e : Env} {R : Room} {s : State} {m : MethodId} {args : Array Value} {below : List Frame} {meth : Method} {c : Code} {H : Heap} {locs : List Loc} {cells slots : Nat} {Q : State → Prop}
variable {cc : ByteArray} {pc : Nat} {ls : Array Slot} {rest : List Value} {D : va_G} {A : Nat → Prop} {a : Nat} {TY : List (ClassId × FieldType)} {ws : va_W} {own : String} {nL : Nat}
/-- a class of the worlds -/
def KX (ci : Nat) (C : String) (T : u_T) (N : Nat) (ty : Nat → FieldType) : Prop := vwCl[ci]? = some (C, T, N) ∧ (∀ w ∈ u_ws C T N, w ∈ TB) ∧ (∀ k, k < N → parseFieldDescriptor (T k).2.2.1 = some (ty k)) ∧ (∀ a, a < N → ∀ b, b < N → a ≠ b → (T a).2.1 ≠ (T b).2.1)
theorem g_get (C0 : Cx p s m args c cc own nL D TY) (X : Hx D A s H locs ws) {ci : Nat} {C : String} {T : u_T} {N : Nat} {ty : Nat → FieldType} (K : KX ci C T N ty) (q0 k : Nat) {index : Nat} {fs : List Value} {v : Value} (hlink : Cond.fieldLink own index (T k).1 (T k).2.1 (T k).2.2.1 ∈ TB) (hk : Nat.ble (k + 1) N = true) (he : ws[q0]? = some (a, .inr (ci, fs))) (hv : fs[k]? = some v) (hdg : decode cc pc = .ok (.getfield index, 3))
    (kk : W p l e R s m args below meth c H locs cells slots Q (F0 m (pc + 3) ls (v :: rest))) : W p l e R s m args below meth c H locs cells slots Q (F0 m pc ls (.ref a :: rest)) := by
  obtain ⟨hx, hb, hml, hown, ht, hK⟩ := C0
  exact va_get hx hb ht K.2.1 hown hK X.1 q0 he K.1 k (Nat.le_of_ble_eq_true hk) (ht _ hlink) (fun _ h => h) hv hdg kk
theorem g_put (C0 : Cx p s m args c cc own nL D TY) (X : Hx D A s H locs ws) {ci : Nat} {C : String} {T : u_T} {N : Nat} {ty : Nat → FieldType} (K : KX ci C T N ty) (q0 k : Nat) {index : Nat} {fs : List Value} {v : Value} {ft : FieldType} (hlink : Cond.fieldLink own index (T k).1 (T k).2.1 (T k).2.2.1 ∈ TB) (hk : Nat.ble (k + 1) N = true) (he : ws[q0]? = some (a, .inr (ci, fs))) (hfin : (T k).2.2.2 = false) (hft : ty k = ft) (hn : narrow ft v = v) (hfit : fits ft v = true) (hl : Nat.ble (k + 1) fs.length = true) (hdg : decode cc pc = .ok (.putfield index, 3))
    (kk : ∀ (H1 : Heap) (locs1 : List Loc), Hx D A s H1 locs1 (ws.set q0 (a, .inr (ci, fs.set k v))) → W p l e R s m args below meth c H1 locs1 cells slots Q (F0 m (pc + 3) ls rest)) : W p l e R s m args below meth c H locs cells slots Q (F0 m pc ls (v :: .ref a :: rest)) := by
  obtain ⟨hx, hb, hml, hown, ht, hK⟩ := C0
  obtain ⟨hP, hD, hS, hA⟩ := X
  exact va_put hx hb ht K.2.1 ty K.2.2.1 K.2.2.2 hown hK hP hD hS q0 he K.1 k (Nat.le_of_ble_eq_true hk) (ht _ hlink) (fun _ h => h) hfin (hft ▸ K.2.2.1 k (Nat.le_of_ble_eq_true hk)) hn hfit (Nat.le_of_ble_eq_true hl) hdg (fun H1 locs1 h1 h2 h3 => kk H1 locs1 ⟨h1, h2, h3, hA⟩)
theorem g_putF (C0 : Cx p s m args c cc own nL D TY) (X : Hx D A s H locs ws) {ci : Nat} {C : String} {T : u_T} {N : Nat} {ty : Nat → FieldType} (K : KX ci C T N ty) (q0 k : Nat) {index : Nat} {fs : List Value} {v : Value} {ft : FieldType} (hlink : Cond.fieldLink own index (T k).1 (T k).2.1 (T k).2.2.1 ∈ TB) (hk : Nat.ble (k + 1) N = true) (he : ws[q0]? = some (a, .inr (ci, fs))) (hfin : (T k).2.2.2 = true) (hin : meth.name = "<init>") (hdecl : (T k).1 = own) (hft : ty k = ft) (hn : narrow ft v = v) (hfit : fits ft v = true) (hl : Nat.ble (k + 1) fs.length = true) (hdg : decode cc pc = .ok (.putfield index, 3))
    (kk : ∀ (H1 : Heap) (locs1 : List Loc), Hx D A s H1 locs1 (ws.set q0 (a, .inr (ci, fs.set k v))) → W p l e R s m args below meth c H1 locs1 cells slots Q (F0 m (pc + 3) ls rest)) : W p l e R s m args below meth c H locs cells slots Q (F0 m pc ls (v :: .ref a :: rest)) := by
  obtain ⟨hx, hb, hml, hown, ht, hK⟩ := C0
  obtain ⟨hP, hD, hS, hA⟩ := X
  exact va_putF hx hb ht K.2.1 ty K.2.2.1 K.2.2.2 hown hK hP hD hS q0 he K.1 k (Nat.le_of_ble_eq_true hk) (ht _ hlink) (fun _ h => h) hfin hin hdecl (hft ▸ K.2.2.1 k (Nat.le_of_ble_eq_true hk)) hn hfit (Nat.le_of_ble_eq_true hl) hdg (fun H1 locs1 h1 h2 h3 => kk H1 locs1 ⟨h1, h2, h3, hA⟩)
/-- reading and writing a row of ints at a known place -/
theorem g_iald (C0 : Cx p s m args c cc own nL D TY) (X : Hx D A s H locs ws) (q0 t0 : Nat) {cA : ClassId} {n : Nat} {f : Nat → Int32} {i : Nat} {v : Int32} (ha : ws[q0]? = some (a, .inl (cA, n, .inl f))) (ht : TY[t0]? = some (cA, .int)) (hi : i < n) (hn : Nat.ble (n + 1) 100000 = true) (hv : f i = v) (hdg : decode cc pc = .ok (.iaload, 1))
    (kk : W p l e R s m args below meth c H locs cells slots Q (F0 m (pc + 1) ls (.int v :: rest))) : W p l e R s m args below meth c H locs cells slots Q (F0 m pc ls (.int (nI i) :: .ref a :: rest)) := by
  obtain ⟨hx, hb, hml, hown, -, hK⟩ := C0
  have h9 : n < 2 ^ 31 := by have := Nat.le_of_ble_eq_true hn; omega
  have h8 : (nI i).toNatClampNeg = i := nI_clamp (by omega)
  exact va_iald hx hb hK X.1 q0 t0 ha ht (vp_in_nI hi h9) hdg (by rw [h8, hv]; exact kk)
theorem g_iast (C0 : Cx p s m args c cc own nL D TY) (X : Hx D A s H locs ws) (q0 t0 : Nat) {cA : ClassId} {n : Nat} {f g : Nat → Int32} {i : Nat} {x : Int32} (ha : ws[q0]? = some (a, .inl (cA, n, .inl f))) (ht : TY[t0]? = some (cA, .int)) (hi : i < n) (hn : Nat.ble (n + 1) 100000 = true) (hg : upd f i x = g) (hdg : decode cc pc = .ok (.iastore, 1))
    (kk : ∀ (H1 : Heap) (locs1 : List Loc), Hx D A s H1 locs1 (ws.set q0 (a, .inl (cA, n, .inl g))) → W p l e R s m args below meth c H1 locs1 cells slots Q (F0 m (pc + 1) ls rest)) : W p l e R s m args below meth c H locs cells slots Q (F0 m pc ls (.int x :: .int (nI i) :: .ref a :: rest)) := by
  obtain ⟨hx, hb, hml, hown, -, hK⟩ := C0
  obtain ⟨hP, hD, hS, hA⟩ := X
  have h9 : n < 2 ^ 31 := by have := Nat.le_of_ble_eq_true hn; omega
  have h8 : (nI i).toNatClampNeg = i := nI_clamp (by omega)
  subst hg
  exact va_iast hx hb hK hP hD hS q0 t0 ha ht (vp_in_nI hi h9) hdg (fun H1 locs1 h1 h2 h3 => kk H1 locs1 (by rw [h8] at h1 h2; exact ⟨h1, h2, h3, hA⟩))
/-- numbers that are known as naturals -/
theorem g_iadd (C0 : Cx p s m args c cc own nL D TY) {x y n : Nat} (hn : x + y = n) (hdg : decode cc pc = .ok (.iadd, 1)) (k : W p l e R s m args below meth c H locs cells slots Q (F0 m (pc + 1) ls (.int (nI n) :: rest))) : W p l e R s m args below meth c H locs cells slots Q (F0 m pc ls (.int (nI y) :: .int (nI x) :: rest)) :=
  lv_iadd C0.1 C0.2.1 hdg (by rw [nI_add, hn]; exact k)
theorem g_isub (C0 : Cx p s m args c cc own nL D TY) {x y n : Nat} (hle : y ≤ x) (hn : x - y = n) (hdg : decode cc pc = .ok (.isub, 1)) (k : W p l e R s m args below meth c H locs cells slots Q (F0 m (pc + 1) ls (.int (nI n) :: rest))) : W p l e R s m args below meth c H locs cells slots Q (F0 m pc ls (.int (nI y) :: .int (nI x) :: rest)) :=
  lv_isub C0.1 C0.2.1 hdg (by rw [pk_sub hle, hn]; exact k)
theorem g_imul (C0 : Cx p s m args c cc own nL D TY) {x y n : Nat} (hn : x * y = n) (hdg : decode cc pc = .ok (.imul, 1)) (k : W p l e R s m args below meth c H locs cells slots Q (F0 m (pc + 1) ls (.int (nI n) :: rest))) : W p l e R s m args below meth c H locs cells slots Q (F0 m pc ls (.int (nI y) :: .int (nI x) :: rest)) :=
  lv_imul C0.1 C0.2.1 hdg (by rw [pk_mul, hn]; exact k)
theorem g_iinc (C0 : Cx p s m args c cc own nL D TY) {i nl k j x z : Nat} {n : Int} {lv lv' : List (Nat × Value)} (hj : n = (j : Int)) (hz : x + j = z) (hdg : decode cc pc = .ok (.iinc i n, 3)) (h : lv_has ls nl lv) (hk : lv[k]? = some (i, .int (nI x))) (hn : i < nl) (hl : (i, Value.int (nI z)) :: lv.filter (fun q => !(q.1 == i) && !(q.1 + 1 == i && q.2.category == 2)) = lv')
    (kk : ∀ ls' : Array Slot, lv_has ls' nl lv' → W p l e R s m args below meth c H locs cells slots Q (F0 m (pc + 3) ls' rest)) : W p l e R s m args below meth c H locs cells slots Q (F0 m pc ls rest) := by
  refine lv_iinc (v := nI z) C0.1 C0.2.1 hdg h hk ?_ hn hl kk
  subst hj
  have : Int32.ofInt (j : Int) = nI j := rfl
  rw [this, nI_add, hz]
theorem g_icmp_lt (C0 : Cx p s m args c cc own nL D TY) {x y : Nat} (hx2 : x < 2 ^ 31) (hy2 : y < 2 ^ 31) {off : Int} {tgt : Nat} (hdg : decode cc pc = .ok (.if_icmp .lt off, 3)) (ht : (pc : Int) + off = (tgt : Int))
    (kt : x < y → W p l e R s m args below meth c H locs cells slots Q (F0 m tgt ls rest)) (kf : y ≤ x → W p l e R s m args below meth c H locs cells slots Q (F0 m (pc + 3) ls rest)) : W p l e R s m args below meth c H locs cells slots Q (F0 m pc ls (.int (nI y) :: .int (nI x) :: rest)) :=
  lv_icmp_lt C0.1 C0.2.1 hdg ht (fun h => kt ((nI_ltI hx2 hy2).mp h)) (fun h => kf (by have h9 : ¬ (x < y) := fun q => h ((nI_ltI hx2 hy2).mpr q); omega))
theorem g_icmp_ge (C0 : Cx p s m args c cc own nL D TY) {x y : Nat} (hx2 : x < 2 ^ 31) (hy2 : y < 2 ^ 31) {off : Int} {tgt : Nat} (hdg : decode cc pc = .ok (.if_icmp .ge off, 3)) (ht : (pc : Int) + off = (tgt : Int))
    (kt : y ≤ x → W p l e R s m args below meth c H locs cells slots Q (F0 m tgt ls rest)) (kf : x < y → W p l e R s m args below meth c H locs cells slots Q (F0 m (pc + 3) ls rest)) : W p l e R s m args below meth c H locs cells slots Q (F0 m pc ls (.int (nI y) :: .int (nI x) :: rest)) :=
  lv_icmp_ge C0.1 C0.2.1 hdg ht (fun h => kt ((nI_leI hy2 hx2).mp h)) (fun h => kf (by have h9 : ¬ (y ≤ x) := fun q => h ((nI_leI hy2 hx2).mpr q); omega))
theorem g_icmp_gt (C0 : Cx p s m args c cc own nL D TY) {x y : Nat} (hx2 : x < 2 ^ 31) (hy2 : y < 2 ^ 31) {off : Int} {tgt : Nat} (hdg : decode cc pc = .ok (.if_icmp .gt off, 3)) (ht : (pc : Int) + off = (tgt : Int))
    (kt : y < x → W p l e R s m args below meth c H locs cells slots Q (F0 m tgt ls rest)) (kf : x ≤ y → W p l e R s m args below meth c H locs cells slots Q (F0 m (pc + 3) ls rest)) : W p l e R s m args below meth c H locs cells slots Q (F0 m pc ls (.int (nI y) :: .int (nI x) :: rest)) :=
  lv_icmp_gt C0.1 C0.2.1 hdg ht (fun h => kt ((nI_ltI hy2 hx2).mp h)) (fun h => kf (by have h9 : ¬ (y < x) := fun q => h ((nI_ltI hy2 hx2).mpr q); omega))
theorem g_icmp_le (C0 : Cx p s m args c cc own nL D TY) {x y : Nat} (hx2 : x < 2 ^ 31) (hy2 : y < 2 ^ 31) {off : Int} {tgt : Nat} (hdg : decode cc pc = .ok (.if_icmp .le off, 3)) (ht : (pc : Int) + off = (tgt : Int))
    (kt : x ≤ y → W p l e R s m args below meth c H locs cells slots Q (F0 m tgt ls rest)) (kf : y < x → W p l e R s m args below meth c H locs cells slots Q (F0 m (pc + 3) ls rest)) : W p l e R s m args below meth c H locs cells slots Q (F0 m pc ls (.int (nI y) :: .int (nI x) :: rest)) :=
  lv_icmp_le C0.1 C0.2.1 hdg ht (fun h => kt ((nI_leI hx2 hy2).mp h)) (fun h => kf (by have h9 : ¬ (x ≤ y) := fun q => h ((nI_leI hx2 hy2).mpr q); omega))
theorem g_icmp_eq (C0 : Cx p s m args c cc own nL D TY) {x y : Nat} (hx2 : x < 2 ^ 31) (hy2 : y < 2 ^ 31) {off : Int} {tgt : Nat} (hdg : decode cc pc = .ok (.if_icmp .eq off, 3)) (ht : (pc : Int) + off = (tgt : Int))
    (kt : x = y → W p l e R s m args below meth c H locs cells slots Q (F0 m tgt ls rest)) (kf : x ≠ y → W p l e R s m args below meth c H locs cells slots Q (F0 m (pc + 3) ls rest)) : W p l e R s m args below meth c H locs cells slots Q (F0 m pc ls (.int (nI y) :: .int (nI x) :: rest)) :=
  lv_icmp_eq C0.1 C0.2.1 hdg ht (fun h => kt ((nI_eq hx2 hy2).mp h)) (fun h => kf (fun q => h ((nI_eq hx2 hy2).mpr q)))
theorem g_icmp_ne (C0 : Cx p s m args c cc own nL D TY) {x y : Nat} (hx2 : x < 2 ^ 31) (hy2 : y < 2 ^ 31) {off : Int} {tgt : Nat} (hdg : decode cc pc = .ok (.if_icmp .ne off, 3)) (ht : (pc : Int) + off = (tgt : Int))
    (kt : x ≠ y → W p l e R s m args below meth c H locs cells slots Q (F0 m tgt ls rest)) (kf : x = y → W p l e R s m args below meth c H locs cells slots Q (F0 m (pc + 3) ls rest)) : W p l e R s m args below meth c H locs cells slots Q (F0 m pc ls (.int (nI y) :: .int (nI x) :: rest)) :=
  lv_icmp_ne C0.1 C0.2.1 hdg ht (fun h => kt (fun q => h ((nI_eq hx2 hy2).mpr q))) (fun h => kf ((nI_eq hx2 hy2).mp h))
theorem g_ifeq (C0 : Cx p s m args c cc own nL D TY) {x : Nat} (hx2 : x < 2 ^ 31) {off : Int} {tgt : Nat} (hdg : decode cc pc = .ok (.ifCond .eq off, 3)) (ht : (pc : Int) + off = (tgt : Int))
    (kt : x = 0 → W p l e R s m args below meth c H locs cells slots Q (F0 m tgt ls rest)) (kf : 0 < x → W p l e R s m args below meth c H locs cells slots Q (F0 m (pc + 3) ls rest)) : W p l e R s m args below meth c H locs cells slots Q (F0 m pc ls (.int (nI x) :: rest)) :=
  lv_if_eq C0.1 C0.2.1 hdg ht (fun h => kt ((nI_eq hx2 (b := 0) (by decide)).mp h)) (fun h => kf (Nat.pos_of_ne_zero (fun q => h (by rw [q]; rfl))))
theorem g_ifne (C0 : Cx p s m args c cc own nL D TY) {x : Nat} (hx2 : x < 2 ^ 31) {off : Int} {tgt : Nat} (hdg : decode cc pc = .ok (.ifCond .ne off, 3)) (ht : (pc : Int) + off = (tgt : Int))
    (kt : 0 < x → W p l e R s m args below meth c H locs cells slots Q (F0 m tgt ls rest)) (kf : x = 0 → W p l e R s m args below meth c H locs cells slots Q (F0 m (pc + 3) ls rest)) : W p l e R s m args below meth c H locs cells slots Q (F0 m pc ls (.int (nI x) :: rest)) :=
  lv_if_ne C0.1 C0.2.1 hdg ht (fun h => kt (Nat.pos_of_ne_zero (fun q => h (by rw [q]; rfl)))) (fun h => kf ((nI_eq hx2 (b := 0) (by decide)).mp h))
theorem g_ifgt (C0 : Cx p s m args c cc own nL D TY) {x : Nat} (hx2 : x < 2 ^ 31) {off : Int} {tgt : Nat} (hdg : decode cc pc = .ok (.ifCond .gt off, 3)) (ht : (pc : Int) + off = (tgt : Int))
    (kt : 0 < x → W p l e R s m args below meth c H locs cells slots Q (F0 m tgt ls rest)) (kf : x = 0 → W p l e R s m args below meth c H locs cells slots Q (F0 m (pc + 3) ls rest)) : W p l e R s m args below meth c H locs cells slots Q (F0 m pc ls (.int (nI x) :: rest)) :=
  lv_if_gt C0.1 C0.2.1 hdg ht (fun h => kt ((nI_ltI (a := 0) (by decide) hx2).mp h)) (fun h => kf (by have h9 : ¬ (0 < x) := fun q => h ((nI_ltI (a := 0) (by decide) hx2).mpr q); omega))
theorem g_ifle (C0 : Cx p s m args c cc own nL D TY) {x : Nat} (hx2 : x < 2 ^ 31) {off : Int} {tgt : Nat} (hdg : decode cc pc = .ok (.ifCond .le off, 3)) (ht : (pc : Int) + off = (tgt : Int))
    (kt : x = 0 → W p l e R s m args below meth c H locs cells slots Q (F0 m tgt ls rest)) (kf : 0 < x → W p l e R s m args below meth c H locs cells slots Q (F0 m (pc + 3) ls rest)) : W p l e R s m args below meth c H locs cells slots Q (F0 m pc ls (.int (nI x) :: rest)) :=
  lv_if_le C0.1 C0.2.1 hdg ht (fun h => kt (by have h9 := (nI_leI hx2 (b := 0) (by decide)).mp h; omega)) (fun h => kf (by have h9 : ¬ (x ≤ 0) := fun q => h ((nI_leI hx2 (b := 0) (by decide)).mpr q); omega))
theorem rb_0 {b : Bool} (h : rb b = 0) : b = false := by cases b <;> first | rfl | (exact absurd h (by decide))
theorem rb_1 {b : Bool} (h : 0 < rb b) : b = true := by cases b <;> first | rfl | (exact absurd h (by decide))
theorem g_ifeqB (C0 : Cx p s m args c cc own nL D TY) {x : Bool} {off : Int} {tgt : Nat} (hdg : decode cc pc = .ok (.ifCond .eq off, 3)) (ht : (pc : Int) + off = (tgt : Int))
    (kt : x = false → W p l e R s m args below meth c H locs cells slots Q (F0 m tgt ls rest)) (kf : x = true → W p l e R s m args below meth c H locs cells slots Q (F0 m (pc + 3) ls rest)) : W p l e R s m args below meth c H locs cells slots Q (F0 m pc ls (.int (nI (rb x)) :: rest)) :=
  g_ifeq C0 (rb_lt x) hdg ht (fun h => kt (rb_0 h)) (fun h => kf (rb_1 h))
theorem g_ifneB (C0 : Cx p s m args c cc own nL D TY) {x : Bool} {off : Int} {tgt : Nat} (hdg : decode cc pc = .ok (.ifCond .ne off, 3)) (ht : (pc : Int) + off = (tgt : Int))
    (kt : x = true → W p l e R s m args below meth c H locs cells slots Q (F0 m tgt ls rest)) (kf : x = false → W p l e R s m args below meth c H locs cells slots Q (F0 m (pc + 3) ls rest)) : W p l e R s m args below meth c H locs cells slots Q (F0 m pc ls (.int (nI (rb x)) :: rest)) :=
  g_ifne C0 (rb_lt x) hdg ht (fun h => kt (rb_1 h)) (fun h => kf (rb_0 h))
/-- a call of which the contract is known: the rest of the cells stays -/
theorem g_ran {av : List Value} {wc wr : va_W} {S : Type} {post : S → Prop} {out : S → Option Value} {w1 : S → va_W} {mc ms : Nat} {st0 : List Value}
    (X : Hx D A s H locs ws) (isC isR : List Nat) (hC : isC.map (fun i => ws[i]?) = wc.map some) (hR : isR.map (fun i => ws[i]?) = wr.map some) (hnd : va_nd isR = true) (hdis : (isR.all (fun i => !(isC.contains i))) = true)
    (hr : va_Run p l e R s m args below meth c H locs cells slots mc ms (F0 m pc ls st0) rest ((fun _ st o t => (∃ u : S, o = .returned (out u) ∧ post u ∧ va_P D vwCl (w1 u) t.heap ∧ va_D (va_A wc H.size) (w1 u)) ∧ va_F (va_A wc H.size) st t) av.toArray) (va_A wc H.size))
    (kk : ∀ (u : S) (H1 : Heap) (locs1 : List Loc), post u → Hx D A s H1 locs1 (wr ++ w1 u) → W p l e R s m args below meth c H1 locs1 (cells + mc) (slots + ms) Q (F0 m (pc + 3) ls ((out u).toList ++ rest))) : W p l e R s m args below meth c H locs cells slots Q (F0 m pc ls st0) := by
  obtain ⟨hP, hD, hS, hA⟩ := X
  have hF := va_free (wc := wc) hD hS hA isC hC
  intro T hT XT
  obtain ⟨v, st₀, t, T', L, h0, X', hL, e1, e2, ⟨⟨u, hv, hp, hP1, hD1⟩, hz, hk⟩, st⟩ := hr T hT XT
  cases hv
  rw [h0] at hz hk
  have hk' : ∀ q : Nat, q < H.size → ¬ va_A wc H.size q → T'.heap[q]? = H[q]? := fun q h1 h2 => by rw [e1]; exact hk q h1 h2
  have hdis' : ∀ i ∈ isR, i ∉ isC := fun i hi hc => by
    have h1 := List.all_eq_true.mp hdis i hi
    rw [List.contains_iff_mem.mpr hc] at h1
    cases h1
  obtain ⟨hP2, hD2⟩ := va_join (wr := wr) (w1 := w1 u) hP hD isC isR hC hR hnd hdis' hk' hF (by rw [e1]; exact hP1) hD1
  have hS2 : va_S A s.heap T'.heap (locs ++ L) := ⟨Nat.le_trans hS.1 (by rw [e1]; exact hz), fun q h1 h2 => by rw [hk' q (Nat.lt_of_lt_of_le h1 hS.1) (fun z => h2 (hF q z))]; exact hS.2.1 q h1 h2, fun q hq => by
      rcases List.mem_append.mp hq with h | h
      · exact hS.2.2 q h
      · exact hF _ (hL q h)⟩
  obtain ⟨t2, a1, b1⟩ := kk u T'.heap (locs ++ L) hp ⟨hP2, hD2, hS2, hA⟩ T' rfl X'
  exact ⟨t2, st t2 a1, b1⟩
theorem g_pre {av : List Value} {wc : va_W} (C0 : Cx p s m args c cc own nL D TY) (X : Hx D A s H locs ws) (isC : List Nat) (hn : va_nd isC = true) (hC : isC.map (fun i => ws[i]?) = wc.map some) : ∀ U : State, U.heap = H → s.WarmedH U.vm → va_Pc av (Bx D TY wc H.size) av.toArray U := by
  intro U hU hW
  have h1 := X.sub isC hn hC
  exact ⟨rfl, by rw [hU], by rw [hU]; exact h1.1, va_K.moved hW.alike C0.2.2.2.2.2, h1.2.1.weaken (fun _ _ _ _ => trivial)⟩
theorem g_ws {y : MethodName} {bytes : ByteArray} {maxL : Nat} {ret : Option FieldType} (ht : ∀ w ∈ TB, w.before args s = true) (hcode : Cond.code y bytes maxL ret ∈ TB) : ∀ w ∈ (Cond.code y bytes maxL ret :: TB), ∀ (a' : Array Value) (U : State), s.WarmedH U.vm → w.before a' U = true := by
  intro w hw a' U hW
  rcases List.mem_cons.mp hw with h | h
  · rw [h]; exact tb_warm ht hW _ hcode
  · exact tb_warm ht hW _ h
/-- the words of a call -/
def CW (R : Room) (own : String) (index : Nat) (y : MethodName) (bytes : ByteArray) (maxL : Nat) (ret : Option FieldType) (rm : Room) (mc ms n : Nat) : Prop :=
  Cond.methodLink own index y ∈ TB ∧ Cond.code y bytes maxL ret ∈ TB ∧ Cond.initialized y.cls ∈ TB ∧ (y.cls ≠ "java/lang/invoke/MethodHandle" ∧ y.cls ≠ "java/lang/invoke/VarHandle" ∧ (parseMethodDescriptor y.desc).map (fun d => d.parameters.length) = some n) ∧ (rm.cells = mc ∧ rm.slots = ms ∧ rm.frames + 1 ≤ R.frames ∧ 8 + (maxL + 11) + rm.locals ≤ R.locals)
def CWN (R : Room) (own host : String) (index : Nat) (y : MethodName) (bytes : ByteArray) (maxL : Nat) (ret : Option FieldType) (rm : Room) (mc ms n : Nat) : Prop :=
  Cond.methodLinkNest own index y host ∈ TB ∧ Cond.code y bytes maxL ret ∈ TB ∧ Cond.initialized y.cls ∈ TB ∧ (y.cls ≠ "java/lang/invoke/MethodHandle" ∧ y.cls ≠ "java/lang/invoke/VarHandle" ∧ (parseMethodDescriptor y.desc).map (fun d => d.parameters.length) = some n) ∧ (rm.cells = mc ∧ rm.slots = ms ∧ rm.frames + 1 ≤ R.frames ∧ 8 + (maxL + 11) + rm.locals ≤ R.locals)
theorem CW.b {index : Nat} {y : MethodName} {bytes : ByteArray} {maxL : Nat} {ret : Option FieldType} {rm : Room} {mc ms n : Nat} (h : CW R own index y bytes maxL ret rm mc ms n) (ht : ∀ w ∈ TB, w.before args s = true) : CallB R s args own index y bytes maxL ret (.code y bytes maxL ret :: TB) rm mc ms n := by
  obtain ⟨h1, h2, h3, h4, h5, h6, h7, h8⟩ := h
  refine ⟨h5, h6, h7, h8, g_ws ht h2, List.mem_cons_self, ht _ h2, ht _ h3, ⟨h4.1, h4.2.1⟩, fun sig h => ?_, ht _ h1⟩
  have h9 := h4.2.2
  rw [h] at h9
  exact (Option.some.inj h9).symm
theorem CWN.b {host : String} {index : Nat} {y : MethodName} {bytes : ByteArray} {maxL : Nat} {ret : Option FieldType} {rm : Room} {mc ms n : Nat} (h : CWN R own host index y bytes maxL ret rm mc ms n) (ht : ∀ w ∈ TB, w.before args s = true) : va_CN R s args own index y host bytes maxL ret (.code y bytes maxL ret :: TB) rm mc ms n := by
  obtain ⟨h1, h2, h3, h4, h5, h6, h7, h8⟩ := h
  refine ⟨⟨h5, h6, h7, h8, g_ws ht h2, List.mem_cons_self⟩, ht _ h2, ht _ h3, ⟨h4.1, h4.2.1⟩, fun sig h => ?_, ht _ h1⟩
  have h9 := h4.2.2
  rw [h] at h9
  exact (Option.some.inj h9).symm
theorem g_callV {rm : Room} {y : MethodName} {bytes : ByteArray} {maxL : Nat} {ret : Option FieldType} {wc wr : va_W} {S : Type} {post : S → Prop} {out : S → Option Value} {w1 : S → va_W} {mc ms n index : Nat} {b : Addr} {As : List Value} (C0 : Cx p s m args c cc own ls.size D TY) (X : Hx D A s H locs ws) (hM : MX l y bytes maxL ret rm D TY (.ref b :: As) wc post out w1 mc ms) (cw : CW R own index y bytes maxL ret rm mc ms n) (hinst : Cond.instanceMethod y ∈ TB) (hsel : Cond.selects y.cls y y ∈ TB) (q0 ci : Nat) {fs : List Value} {q : vw_C} (hrc : vwCl[ci]? = some q) (hre : ws[q0]? = some (b, .inr (ci, fs))) (hrq : q.1 = y.cls) (hn : As.length = n) (isC isR : List Nat) (hC : isC.map (fun i => ws[i]?) = wc.map some) (hR : isR.map (fun i => ws[i]?) = wr.map some) (hnC : va_nd isC = true) (hnd : va_nd isR = true) (hdis : (isR.all (fun i => !(isC.contains i))) = true) (hWd : (rest.map fun v => v.category).sum ≤ 8) (hf : cells + mc ≤ R.cells ∧ slots + ms ≤ R.slots) (hdg : decode cc pc = .ok (.invokevirtual index, 3))
    (kk : ∀ (u : S) (H1 : Heap) (locs1 : List Loc), post u → Hx D A s H1 locs1 (wr ++ w1 u) → W p l e R s m args below meth c H1 locs1 (cells + mc) (slots + ms) Q (F0 m (pc + 3) ls ((out u).toList ++ rest))) : W p l e R s m args below meth c H locs cells slots Q (F0 m pc ls (As.reverse ++ .ref b :: rest)) := by
  have ht := C0.2.2.2.2.1
  refine g_ran (av := (.ref b :: As)) X isC isR hC hR hnd hdis (va_runV (C := y.cls) ⟨C0.1, C0.2.1, C0.2.2.1, C0.2.2.2.1, ht⟩ (hM H.size) ⟨cw.b ht, ht _ hinst, ht _ hsel⟩ ⟨Bx.blind, (by obtain ⟨cell, g1, g2, g3⟩ := va_recv C0.2.2.2.2.2 X.1 hrc hre; exact ⟨cell, g1, g2, by rw [hrq] at g3; exact g3⟩), g_pre C0 X isC hnC hC⟩ rfl hn rfl rfl (lv_room hWd) hdg hf) kk
theorem g_callS {rm : Room} {y : MethodName} {bytes : ByteArray} {maxL : Nat} {ret : Option FieldType} {wc wr : va_W} {S : Type} {post : S → Prop} {out : S → Option Value} {w1 : S → va_W} {mc ms n index : Nat}  {As : List Value} (C0 : Cx p s m args c cc own ls.size D TY) (X : Hx D A s H locs ws) (hM : MX l y bytes maxL ret rm D TY As wc post out w1 mc ms) (cw : CW R own index y bytes maxL ret rm mc ms n) (hstat : Cond.static y ∈ TB) (hn : As.length = n) (isC isR : List Nat) (hC : isC.map (fun i => ws[i]?) = wc.map some) (hR : isR.map (fun i => ws[i]?) = wr.map some) (hnC : va_nd isC = true) (hnd : va_nd isR = true) (hdis : (isR.all (fun i => !(isC.contains i))) = true) (hWd : (rest.map fun v => v.category).sum ≤ 8) (hf : cells + mc ≤ R.cells ∧ slots + ms ≤ R.slots) (hdg : decode cc pc = .ok (.invokestatic index, 3))
    (kk : ∀ (u : S) (H1 : Heap) (locs1 : List Loc), post u → Hx D A s H1 locs1 (wr ++ w1 u) → W p l e R s m args below meth c H1 locs1 (cells + mc) (slots + ms) Q (F0 m (pc + 3) ls ((out u).toList ++ rest))) : W p l e R s m args below meth c H locs cells slots Q (F0 m pc ls (As.reverse ++ rest)) := by
  have ht := C0.2.2.2.2.1
  refine g_ran (av := As) X isC isR hC hR hnd hdis (va_runS ⟨C0.1, C0.2.1, C0.2.2.1, C0.2.2.2.1, ht⟩ (hM H.size) ⟨cw.b ht, ht _ hstat⟩ ⟨Bx.blind, g_pre C0 X isC hnC hC⟩ rfl hn rfl rfl (lv_room hWd) hdg hf) kk
theorem g_callSN {rm : Room} {y : MethodName} {bytes : ByteArray} {maxL : Nat} {ret : Option FieldType} {wc wr : va_W} {S : Type} {post : S → Prop} {out : S → Option Value} {w1 : S → va_W} {mc ms n index : Nat} {host : String}  {As : List Value} (C0 : Cx p s m args c cc own ls.size D TY) (X : Hx D A s H locs ws) (hM : MX l y bytes maxL ret rm D TY As wc post out w1 mc ms) (cw : CWN R own host index y bytes maxL ret rm mc ms n) (hstat : Cond.static y ∈ TB) (hn : As.length = n) (isC isR : List Nat) (hC : isC.map (fun i => ws[i]?) = wc.map some) (hR : isR.map (fun i => ws[i]?) = wr.map some) (hnC : va_nd isC = true) (hnd : va_nd isR = true) (hdis : (isR.all (fun i => !(isC.contains i))) = true) (hWd : (rest.map fun v => v.category).sum ≤ 8) (hf : cells + mc ≤ R.cells ∧ slots + ms ≤ R.slots) (hdg : decode cc pc = .ok (.invokestatic index, 3))
    (kk : ∀ (u : S) (H1 : Heap) (locs1 : List Loc), post u → Hx D A s H1 locs1 (wr ++ w1 u) → W p l e R s m args below meth c H1 locs1 (cells + mc) (slots + ms) Q (F0 m (pc + 3) ls ((out u).toList ++ rest))) : W p l e R s m args below meth c H locs cells slots Q (F0 m pc ls (As.reverse ++ rest)) := by
  have ht := C0.2.2.2.2.1
  refine g_ran (av := As) X isC isR hC hR hnd hdis (va_runSN ⟨C0.1, C0.2.1, C0.2.2.1, C0.2.2.2.1, ht⟩ (hM H.size) ⟨cw.b ht, ht _ hstat, trivial⟩ ⟨Bx.blind, g_pre C0 X isC hnC hC⟩ rfl hn rfl rfl (lv_room hWd) hdg hf) kk
theorem g_callI {rm : Room} {y : MethodName} {bytes : ByteArray} {maxL : Nat} {wc wr : va_W} {S : Type} {post : S → Prop} {out : S → Option Value} {w1 : S → va_W} {mc ms n index : Nat} {b : Addr} {As : List Value} (C0 : Cx p s m args c cc own ls.size D TY) (X : Hx D A s H locs ws) (hM : MX l y bytes maxL none rm D TY (.ref b :: As) wc post out w1 mc ms) (cw : CW R own index y bytes maxL none rm mc ms n) (hinst : Cond.instanceMethod y ∈ TB) (hy1 : y.name = "<init>") (hn : As.length = n) (isC isR : List Nat) (hC : isC.map (fun i => ws[i]?) = wc.map some) (hR : isR.map (fun i => ws[i]?) = wr.map some) (hnC : va_nd isC = true) (hnd : va_nd isR = true) (hdis : (isR.all (fun i => !(isC.contains i))) = true) (hWd : (rest.map fun v => v.category).sum ≤ 8) (hf : cells + mc ≤ R.cells ∧ slots + ms ≤ R.slots) (hdg : decode cc pc = .ok (.invokespecial index, 3))
    (kk : ∀ (u : S) (H1 : Heap) (locs1 : List Loc), post u → Hx D A s H1 locs1 (wr ++ w1 u) → W p l e R s m args below meth c H1 locs1 (cells + mc) (slots + ms) Q (F0 m (pc + 3) ls ((out u).toList ++ rest))) : W p l e R s m args below meth c H locs cells slots Q (F0 m pc ls (As.reverse ++ .ref b :: rest)) := by
  have ht := C0.2.2.2.2.1
  refine g_ran (av := (.ref b :: As)) X isC isR hC hR hnd hdis (va_runI ⟨C0.1, C0.2.1, C0.2.2.1, C0.2.2.2.1, ht⟩ (hM H.size) ⟨cw.b ht, hy1, ht _ hinst⟩ ⟨Bx.blind, g_pre C0 X isC hnC hC⟩ rfl hn rfl rfl (lv_room hWd) hdg hf) kk
theorem g_callIN {rm : Room} {y : MethodName} {bytes : ByteArray} {maxL : Nat} {wc wr : va_W} {S : Type} {post : S → Prop} {out : S → Option Value} {w1 : S → va_W} {mc ms n index : Nat} {host : String} {b : Addr} {As : List Value} (C0 : Cx p s m args c cc own ls.size D TY) (X : Hx D A s H locs ws) (hM : MX l y bytes maxL none rm D TY (.ref b :: As) wc post out w1 mc ms) (cw : CWN R own host index y bytes maxL none rm mc ms n) (hinst : Cond.instanceMethod y ∈ TB) (hy1 : y.name = "<init>") (hn : As.length = n) (isC isR : List Nat) (hC : isC.map (fun i => ws[i]?) = wc.map some) (hR : isR.map (fun i => ws[i]?) = wr.map some) (hnC : va_nd isC = true) (hnd : va_nd isR = true) (hdis : (isR.all (fun i => !(isC.contains i))) = true) (hWd : (rest.map fun v => v.category).sum ≤ 8) (hf : cells + mc ≤ R.cells ∧ slots + ms ≤ R.slots) (hdg : decode cc pc = .ok (.invokespecial index, 3))
    (kk : ∀ (u : S) (H1 : Heap) (locs1 : List Loc), post u → Hx D A s H1 locs1 (wr ++ w1 u) → W p l e R s m args below meth c H1 locs1 (cells + mc) (slots + ms) Q (F0 m (pc + 3) ls ((out u).toList ++ rest))) : W p l e R s m args below meth c H locs cells slots Q (F0 m pc ls (As.reverse ++ .ref b :: rest)) := by
  have ht := C0.2.2.2.2.1
  refine g_ran (av := (.ref b :: As)) X isC isR hC hR hnd hdis (va_runIN ⟨C0.1, C0.2.1, C0.2.2.1, C0.2.2.2.1, ht⟩ (hM H.size) ⟨cw.b ht, hy1, ht _ hinst⟩ ⟨Bx.blind, g_pre C0 X isC hnC hC⟩ rfl hn rfl rfl (lv_room hWd) hdg hf) kk
end RX
theorem MX.of_i {l : Launch} {y : MethodName} {cc : ByteArray} {n : Nat} {rm : Room} {D : va_G} {TY : List (ClassId × FieldType)} {av : List Value} {wc : va_W} {S : Type} {post : S → Prop} {out : S → Option Value} {w1 : S → va_W} {mc ms : Nat} (hy : plainName y.cls = true) (hlen : Nat.ble (lg_sl av).length n = true)
    (body : ∀ {p : Program} {e : Env} {s : State} {m : MethodId} {args : Array Value} {below : List Frame} {meth : Method} {c : Code} {A : Nat → Prop} {Q : State → Prop} {ls : Array Slot}, Cx p s m args c cc y.cls n D TY → meth.name = y.name → Hx D A s s.heap [] wc → lv_has ls n (lv_args 0 av) →
      (∀ {pc : Nat} {ls : Array Slot} {H : Heap} {locs : List Loc} {v : Int32} (u : S), out u = some (.int v) → post u → Hx D A s H locs (w1 u) → decode cc pc = .ok (.ireturn, 1) → W p l e rm s m args below meth c H locs mc ms Q (F0 m pc ls [.int v])) →
      W p l e rm s m args below meth c s.heap [] 0 0 Q (F0 m 0 ls [])) : MX l y cc n (some .int) rm D TY av wc post out w1 mc ms := by
  intro sz
  refine Met.ofW (cc := cc) (maxL := n) (ret := (some .int)) hy rfl ?_
  intro p e s m args below meth c s₁ B hml hv
  obtain ⟨rfl, hsz, hP, hK, hD0⟩ := hv
  have hts := atoms_spec (ws := Cond.code y cc n (some .int) :: TB) B.pre
  have ht : ∀ w ∈ TB, w.before av.toArray s = true := fun w h => hts w (List.mem_cons_of_mem _ h)
  have hlocks := B.notSynchronized
  subst hsz
  have hD := hD0.self (sz := s.heap.size)
  have hl := lv_entry av (n := n) (Nat.le_of_ble_eq_true hlen)
  rw [lg_entry_eq]
  refine body (A := va_A wc s.heap.size) ⟨B.exec, B.bytes, hml, findClass_of_methodNamed B.named, ht, hK⟩ (name_of_methodNamed B.named B.method).1 ⟨hP, hD, va_S.rf, fun q h => Or.inr h⟩ hl ?_
  intro pc ls H locs v u ho hp X hdg
  exact W.iret B.exec B.bytes B.returns (fun t hT hW => ⟨⟨u, by rw [ho], hp, by rw [hT]; exact X.1, X.2.1⟩, X.2.2.1.F hT⟩) X.2.2.1.2.2 hdg
theorem MX.of_l {l : Launch} {y : MethodName} {cc : ByteArray} {n : Nat} {rm : Room} {D : va_G} {TY : List (ClassId × FieldType)} {av : List Value} {wc : va_W} {S : Type} {post : S → Prop} {out : S → Option Value} {w1 : S → va_W} {mc ms : Nat} (hy : plainName y.cls = true) (hlen : Nat.ble (lg_sl av).length n = true)
    (body : ∀ {p : Program} {e : Env} {s : State} {m : MethodId} {args : Array Value} {below : List Frame} {meth : Method} {c : Code} {A : Nat → Prop} {Q : State → Prop} {ls : Array Slot}, Cx p s m args c cc y.cls n D TY → meth.name = y.name → Hx D A s s.heap [] wc → lv_has ls n (lv_args 0 av) →
      (∀ {pc : Nat} {ls : Array Slot} {H : Heap} {locs : List Loc} {v : Int64} (u : S), out u = some (.long v) → post u → Hx D A s H locs (w1 u) → decode cc pc = .ok (.lreturn, 1) → W p l e rm s m args below meth c H locs mc ms Q (F0 m pc ls [.long v])) →
      W p l e rm s m args below meth c s.heap [] 0 0 Q (F0 m 0 ls [])) : MX l y cc n (some .long) rm D TY av wc post out w1 mc ms := by
  intro sz
  refine Met.ofW (cc := cc) (maxL := n) (ret := (some .long)) hy rfl ?_
  intro p e s m args below meth c s₁ B hml hv
  obtain ⟨rfl, hsz, hP, hK, hD0⟩ := hv
  have hts := atoms_spec (ws := Cond.code y cc n (some .long) :: TB) B.pre
  have ht : ∀ w ∈ TB, w.before av.toArray s = true := fun w h => hts w (List.mem_cons_of_mem _ h)
  have hlocks := B.notSynchronized
  subst hsz
  have hD := hD0.self (sz := s.heap.size)
  have hl := lv_entry av (n := n) (Nat.le_of_ble_eq_true hlen)
  rw [lg_entry_eq]
  refine body (A := va_A wc s.heap.size) ⟨B.exec, B.bytes, hml, findClass_of_methodNamed B.named, ht, hK⟩ (name_of_methodNamed B.named B.method).1 ⟨hP, hD, va_S.rf, fun q h => Or.inr h⟩ hl ?_
  intro pc ls H locs v u ho hp X hdg
  exact W.lret B.exec B.bytes B.returns (fun t hT hW => ⟨⟨u, by rw [ho], hp, by rw [hT]; exact X.1, X.2.1⟩, X.2.2.1.F hT⟩) X.2.2.1.2.2 hdg
theorem MX.of_z {l : Launch} {y : MethodName} {cc : ByteArray} {n : Nat} {rm : Room} {D : va_G} {TY : List (ClassId × FieldType)} {av : List Value} {wc : va_W} {S : Type} {post : S → Prop} {out : S → Option Value} {w1 : S → va_W} {mc ms : Nat} (hy : plainName y.cls = true) (hlen : Nat.ble (lg_sl av).length n = true)
    (body : ∀ {p : Program} {e : Env} {s : State} {m : MethodId} {args : Array Value} {below : List Frame} {meth : Method} {c : Code} {A : Nat → Prop} {Q : State → Prop} {ls : Array Slot}, Cx p s m args c cc y.cls n D TY → meth.name = y.name → Hx D A s s.heap [] wc → lv_has ls n (lv_args 0 av) →
      (∀ {pc : Nat} {ls : Array Slot} {H : Heap} {locs : List Loc} {v : Bool} (u : S), out u = some (.int (nI (rb v))) → post u → Hx D A s H locs (w1 u) → decode cc pc = .ok (.ireturn, 1) → W p l e rm s m args below meth c H locs mc ms Q (F0 m pc ls [.int (nI (rb v))])) →
      W p l e rm s m args below meth c s.heap [] 0 0 Q (F0 m 0 ls [])) : MX l y cc n (some .boolean) rm D TY av wc post out w1 mc ms := by
  intro sz
  refine Met.ofW (cc := cc) (maxL := n) (ret := (some .boolean)) hy rfl ?_
  intro p e s m args below meth c s₁ B hml hv
  obtain ⟨rfl, hsz, hP, hK, hD0⟩ := hv
  have hts := atoms_spec (ws := Cond.code y cc n (some .boolean) :: TB) B.pre
  have ht : ∀ w ∈ TB, w.before av.toArray s = true := fun w h => hts w (List.mem_cons_of_mem _ h)
  have hlocks := B.notSynchronized
  subst hsz
  have hD := hD0.self (sz := s.heap.size)
  have hl := lv_entry av (n := n) (Nat.le_of_ble_eq_true hlen)
  rw [lg_entry_eq]
  refine body (A := va_A wc s.heap.size) ⟨B.exec, B.bytes, hml, findClass_of_methodNamed B.named, ht, hK⟩ (name_of_methodNamed B.named B.method).1 ⟨hP, hD, va_S.rf, fun q h => Or.inr h⟩ hl ?_
  intro pc ls H locs v u ho hp X hdg
  exact W.zret B.exec B.bytes B.returns (by cases v <;> decide) (fun t hT hW => ⟨⟨u, by rw [ho], hp, by rw [hT]; exact X.1, X.2.1⟩, X.2.2.1.F hT⟩) X.2.2.1.2.2 hdg
theorem MX.of_v {l : Launch} {y : MethodName} {cc : ByteArray} {n : Nat} {rm : Room} {D : va_G} {TY : List (ClassId × FieldType)} {av : List Value} {wc : va_W} {S : Type} {post : S → Prop} {out : S → Option Value} {w1 : S → va_W} {mc ms : Nat} (hy : plainName y.cls = true) (hlen : Nat.ble (lg_sl av).length n = true)
    (body : ∀ {p : Program} {e : Env} {s : State} {m : MethodId} {args : Array Value} {below : List Frame} {meth : Method} {c : Code} {A : Nat → Prop} {Q : State → Prop} {ls : Array Slot}, Cx p s m args c cc y.cls n D TY → meth.name = y.name → Hx D A s s.heap [] wc → lv_has ls n (lv_args 0 av) →
      (∀ {pc : Nat} {ls : Array Slot} {H : Heap} {locs : List Loc} {v : Unit} (u : S), out u = none → post u → Hx D A s H locs (w1 u) → decode cc pc = .ok (.return_, 1) → W p l e rm s m args below meth c H locs mc ms Q (F0 m pc ls [])) →
      W p l e rm s m args below meth c s.heap [] 0 0 Q (F0 m 0 ls [])) : MX l y cc n none rm D TY av wc post out w1 mc ms := by
  intro sz
  refine Met.ofW (cc := cc) (maxL := n) (ret := none) hy rfl ?_
  intro p e s m args below meth c s₁ B hml hv
  obtain ⟨rfl, hsz, hP, hK, hD0⟩ := hv
  have hts := atoms_spec (ws := Cond.code y cc n none :: TB) B.pre
  have ht : ∀ w ∈ TB, w.before av.toArray s = true := fun w h => hts w (List.mem_cons_of_mem _ h)
  have hlocks := B.notSynchronized
  subst hsz
  have hD := hD0.self (sz := s.heap.size)
  have hl := lv_entry av (n := n) (Nat.le_of_ble_eq_true hlen)
  rw [lg_entry_eq]
  refine body (A := va_A wc s.heap.size) ⟨B.exec, B.bytes, hml, findClass_of_methodNamed B.named, ht, hK⟩ (name_of_methodNamed B.named B.method).1 ⟨hP, hD, va_S.rf, fun q h => Or.inr h⟩ hl ?_
  intro pc ls H locs v u ho hp X hdg
  exact W.vret B.exec B.bytes B.returns (fun t hT hW => ⟨⟨u, by rw [ho], hp, by rw [hT]; exact X.1, X.2.1⟩, X.2.2.1.F hT⟩) X.2.2.1.2.2 hdg
theorem MX.of_a {l : Launch} {y : MethodName} {cc : ByteArray} {n : Nat} {rm : Room} {D : va_G} {TY : List (ClassId × FieldType)} {av : List Value} {wc : va_W} {S : Type} {post : S → Prop} {out : S → Option Value} {w1 : S → va_W} {mc ms : Nat} (hy : plainName y.cls = true) (hlen : Nat.ble (lg_sl av).length n = true)
    (body : ∀ {p : Program} {e : Env} {s : State} {m : MethodId} {args : Array Value} {below : List Frame} {meth : Method} {c : Code} {A : Nat → Prop} {Q : State → Prop} {ls : Array Slot}, Cx p s m args c cc y.cls n D TY → meth.name = y.name → Hx D A s s.heap [] wc → lv_has ls n (lv_args 0 av) →
      (∀ {pc : Nat} {ls : Array Slot} {H : Heap} {locs : List Loc} {v : Nat} (u : S), out u = some (.ref v) → post u → Hx D A s H locs (w1 u) → decode cc pc = .ok (.areturn, 1) → W p l e rm s m args below meth c H locs mc ms Q (F0 m pc ls [.ref v])) →
      W p l e rm s m args below meth c s.heap [] 0 0 Q (F0 m 0 ls [])) : MX l y cc n (some (.array .int)) rm D TY av wc post out w1 mc ms := by
  intro sz
  refine Met.ofW (cc := cc) (maxL := n) (ret := (some (.array .int))) hy rfl ?_
  intro p e s m args below meth c s₁ B hml hv
  obtain ⟨rfl, hsz, hP, hK, hD0⟩ := hv
  have hts := atoms_spec (ws := Cond.code y cc n (some (.array .int)) :: TB) B.pre
  have ht : ∀ w ∈ TB, w.before av.toArray s = true := fun w h => hts w (List.mem_cons_of_mem _ h)
  have hlocks := B.notSynchronized
  subst hsz
  have hD := hD0.self (sz := s.heap.size)
  have hl := lv_entry av (n := n) (Nat.le_of_ble_eq_true hlen)
  rw [lg_entry_eq]
  refine body (A := va_A wc s.heap.size) ⟨B.exec, B.bytes, hml, findClass_of_methodNamed B.named, ht, hK⟩ (name_of_methodNamed B.named B.method).1 ⟨hP, hD, va_S.rf, fun q h => Or.inr h⟩ hl ?_
  intro pc ls H locs v u ho hp X hdg
  exact W.aret B.exec B.bytes B.returns (Or.inr ⟨_, rfl⟩) (Or.inr ⟨v, rfl⟩) (fun t hT hW => ⟨⟨u, by rw [ho], hp, by rw [hT]; exact X.1, X.2.1⟩, X.2.2.1.F hT⟩) X.2.2.1.2.2 hdg
theorem kX0_l : ∀ w ∈ u_ws RX0 TX0 2, w ∈ TB := (List.forall_mem_cons.mpr ⟨tb102, List.forall_mem_cons.mpr ⟨tb104, List.forall_mem_nil _⟩⟩ : ∀ w ∈ [u_lay RX0 TX0 0, u_lay RX0 TX0 1], w ∈ TB)
theorem kX0 : KX 0 RX0 TX0 2 tyX0 := ⟨rfl, kX0_l, tyX0_ok, nmX0⟩
theorem kX1_l : ∀ w ∈ u_ws RX1 TX1 14, w ∈ TB := (List.forall_mem_cons.mpr ⟨tb62, List.forall_mem_cons.mpr ⟨tb64, List.forall_mem_cons.mpr ⟨tb66, List.forall_mem_cons.mpr ⟨tb68, List.forall_mem_cons.mpr ⟨tb70, List.forall_mem_cons.mpr ⟨tb72, List.forall_mem_cons.mpr ⟨tb74, List.forall_mem_cons.mpr ⟨tb76, List.forall_mem_cons.mpr ⟨tb78, List.forall_mem_cons.mpr ⟨tb80, List.forall_mem_cons.mpr ⟨tb82, List.forall_mem_cons.mpr ⟨tb84, List.forall_mem_cons.mpr ⟨tb86, List.forall_mem_cons.mpr ⟨tb88, List.forall_mem_nil _⟩⟩⟩⟩⟩⟩⟩⟩⟩⟩⟩⟩⟩⟩ : ∀ w ∈ [u_lay RX1 TX1 0, u_lay RX1 TX1 1, u_lay RX1 TX1 2, u_lay RX1 TX1 3, u_lay RX1 TX1 4, u_lay RX1 TX1 5, u_lay RX1 TX1 6, u_lay RX1 TX1 7, u_lay RX1 TX1 8, u_lay RX1 TX1 9, u_lay RX1 TX1 10, u_lay RX1 TX1 11, u_lay RX1 TX1 12, u_lay RX1 TX1 13], w ∈ TB)
theorem kX1 : KX 1 RX1 TX1 14 tyX1 := ⟨rfl, kX1_l, tyX1_ok, nmX1⟩
theorem kX2_l : ∀ w ∈ u_ws RX2 TX2 8, w ∈ TB := (List.forall_mem_cons.mpr ⟨tb144, List.forall_mem_cons.mpr ⟨tb146, List.forall_mem_cons.mpr ⟨tb148, List.forall_mem_cons.mpr ⟨tb150, List.forall_mem_cons.mpr ⟨tb152, List.forall_mem_cons.mpr ⟨tb154, List.forall_mem_cons.mpr ⟨tb156, List.forall_mem_cons.mpr ⟨tb158, List.forall_mem_nil _⟩⟩⟩⟩⟩⟩⟩⟩ : ∀ w ∈ [u_lay RX2 TX2 0, u_lay RX2 TX2 1, u_lay RX2 TX2 2, u_lay RX2 TX2 3, u_lay RX2 TX2 4, u_lay RX2 TX2 5, u_lay RX2 TX2 6, u_lay RX2 TX2 7], w ∈ TB)
theorem kX2 : KX 2 RX2 TX2 8 tyX2 := ⟨rfl, kX2_l, tyX2_ok, nmX2⟩
theorem kX3_l : ∀ w ∈ u_ws RX3 TX3 3, w ∈ TB := (List.forall_mem_cons.mpr ⟨tb193, List.forall_mem_cons.mpr ⟨tb195, List.forall_mem_cons.mpr ⟨tb197, List.forall_mem_nil _⟩⟩⟩ : ∀ w ∈ [u_lay RX3 TX3 0, u_lay RX3 TX3 1, u_lay RX3 TX3 2], w ∈ TB)
theorem kX3 : KX 3 RX3 TX3 3 tyX3 := ⟨rfl, kX3_l, tyX3_ok, nmX3⟩
theorem kX4_l : ∀ w ∈ u_ws RX4 TX4 4, w ∈ TB := (List.forall_mem_cons.mpr ⟨tb172, List.forall_mem_cons.mpr ⟨tb174, List.forall_mem_cons.mpr ⟨tb176, List.forall_mem_cons.mpr ⟨tb178, List.forall_mem_nil _⟩⟩⟩⟩ : ∀ w ∈ [u_lay RX4 TX4 0, u_lay RX4 TX4 1, u_lay RX4 TX4 2, u_lay RX4 TX4 3], w ∈ TB)
theorem kX4 : KX 4 RX4 TX4 4 tyX4 := ⟨rfl, kX4_l, tyX4_ok, nmX4⟩
theorem kX5_l : ∀ w ∈ u_ws RX5 TX5 2, w ∈ TB := (List.forall_mem_cons.mpr ⟨tb124, List.forall_mem_cons.mpr ⟨tb126, List.forall_mem_nil _⟩⟩ : ∀ w ∈ [u_lay RX5 TX5 0, u_lay RX5 TX5 1], w ∈ TB)
theorem kX5 : KX 5 RX5 TX5 2 tyX5 := ⟨rfl, kX5_l, tyX5_ok, nmX5⟩
theorem kX6_l : ∀ w ∈ u_ws RX6 TX6 9, w ∈ TB := (List.forall_mem_cons.mpr ⟨tb209, List.forall_mem_cons.mpr ⟨tb211, List.forall_mem_cons.mpr ⟨tb213, List.forall_mem_cons.mpr ⟨tb215, List.forall_mem_cons.mpr ⟨tb217, List.forall_mem_cons.mpr ⟨tb219, List.forall_mem_cons.mpr ⟨tb221, List.forall_mem_cons.mpr ⟨tb223, List.forall_mem_cons.mpr ⟨tb225, List.forall_mem_nil _⟩⟩⟩⟩⟩⟩⟩⟩⟩ : ∀ w ∈ [u_lay RX6 TX6 0, u_lay RX6 TX6 1, u_lay RX6 TX6 2, u_lay RX6 TX6 3, u_lay RX6 TX6 4, u_lay RX6 TX6 5, u_lay RX6 TX6 6, u_lay RX6 TX6 7, u_lay RX6 TX6 8], w ∈ TB)
theorem kX6 : KX 6 RX6 TX6 9 tyX6 := ⟨rfl, kX6_l, tyX6_ok, nmX6⟩
theorem kX7_l : ∀ w ∈ u_ws RX7 TX7 27, w ∈ TB := (List.forall_mem_cons.mpr ⟨tb824, List.forall_mem_cons.mpr ⟨tb826, List.forall_mem_cons.mpr ⟨tb828, List.forall_mem_cons.mpr ⟨tb830, List.forall_mem_cons.mpr ⟨tb832, List.forall_mem_cons.mpr ⟨tb834, List.forall_mem_cons.mpr ⟨tb836, List.forall_mem_cons.mpr ⟨tb838, List.forall_mem_cons.mpr ⟨tb840, List.forall_mem_cons.mpr ⟨tb842, List.forall_mem_cons.mpr ⟨tb844, List.forall_mem_cons.mpr ⟨tb846, List.forall_mem_cons.mpr ⟨tb848, List.forall_mem_cons.mpr ⟨tb850, List.forall_mem_cons.mpr ⟨tb852, List.forall_mem_cons.mpr ⟨tb854, List.forall_mem_cons.mpr ⟨tb856, List.forall_mem_cons.mpr ⟨tb858, List.forall_mem_cons.mpr ⟨tb860, List.forall_mem_cons.mpr ⟨tb862, List.forall_mem_cons.mpr ⟨tb864, List.forall_mem_cons.mpr ⟨tb866, List.forall_mem_cons.mpr ⟨tb868, List.forall_mem_cons.mpr ⟨tb870, List.forall_mem_cons.mpr ⟨tb872, List.forall_mem_cons.mpr ⟨tb874, List.forall_mem_cons.mpr ⟨tb876, List.forall_mem_nil _⟩⟩⟩⟩⟩⟩⟩⟩⟩⟩⟩⟩⟩⟩⟩⟩⟩⟩⟩⟩⟩⟩⟩⟩⟩⟩⟩ : ∀ w ∈ [u_lay RX7 TX7 0, u_lay RX7 TX7 1, u_lay RX7 TX7 2, u_lay RX7 TX7 3, u_lay RX7 TX7 4, u_lay RX7 TX7 5, u_lay RX7 TX7 6, u_lay RX7 TX7 7, u_lay RX7 TX7 8, u_lay RX7 TX7 9, u_lay RX7 TX7 10, u_lay RX7 TX7 11, u_lay RX7 TX7 12, u_lay RX7 TX7 13, u_lay RX7 TX7 14, u_lay RX7 TX7 15, u_lay RX7 TX7 16, u_lay RX7 TX7 17, u_lay RX7 TX7 18, u_lay RX7 TX7 19, u_lay RX7 TX7 20, u_lay RX7 TX7 21, u_lay RX7 TX7 22, u_lay RX7 TX7 23, u_lay RX7 TX7 24, u_lay RX7 TX7 25, u_lay RX7 TX7 26], w ∈ TB)
theorem kX7 : KX 7 RX7 TX7 27 tyX7 := ⟨rfl, kX7_l, tyX7_ok, nmX7⟩
