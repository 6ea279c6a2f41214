/-! making objects and arrays -/
theorem ra_u {U : State} {c1 c2 : ClassId} {ty : FieldType} (h1 : va_RA U c1 ty) (h2 : va_RA U c2 ty) : c1 = c2 := by
  cases ty with
  | object C =>
    obtain ⟨k1, p1, a1, a2, a3, a4⟩ := h1
    obtain ⟨k2, p2, b1, b2, b3, b4⟩ := h2
    exact Option.some.inj (a4.symm.trans b4)
  | _ => exact Option.some.inj ((show U.vm.findClass _ = some c1 from h1).symm.trans (show U.vm.findClass _ = some c2 from h2))
theorem nI_nl {n : Nat} (h : n < 2 ^ 31) : ¬ nI n < 0 := fun q => by
  have h1 := Int32.lt_iff_toInt_lt.mp q
  rw [nI_toInt h, show (0 : Int32).toInt = 0 from by decide] at h1
  omega
theorem arrV_cg (cA : ClassId) (n : Nat) {f g : Nat → Value} (h : ∀ j, j < n → f j = g j) : arrV cA n f = arrV cA n g := by
  unfold arrV
  congr 1
  apply Array.ext
  · rw [Array.size_ofFn, Array.size_ofFn]
  · intro i h1 h2
    rw [Array.getElem_ofFn, Array.getElem_ofFn]
    exact h i (by rw [Array.size_ofFn] at h1; exact h1)
section NW
variable {p : Program} {l : Launch} {e : Env} {R : Room} {s : State} {m : MethodId} {args : Array Value} {below : List Frame} {meth : Method} {c : Code} {H : Heap} {locs : List Loc} {cells slots : Nat} {Q : State → Prop}
variable {cc : ByteArray} {pc : Nat} {ls : Array Slot} {rest : List Value} {D : va_G} {A : Nat → Prop} {a : Nat} {TY : List (ClassId × FieldType)} {ws : va_W} {own : String} {nL : Nat}
theorem Hx.cel {cA : ClassId} {x y : vp_A} (X : Hx D A s H locs ws) (k : Nat) (ha : ws[k]? = some (a, .inl (cA, x))) (he : vp_cell cA x = vp_cell cA y) : Hx D A s H locs (ws.set k (a, .inl (cA, y))) := by
  obtain ⟨hP, hD, hS, hA⟩ := X
  refine ⟨hP.set hD ha ?_ (fun _ _ => rfl), hD.set ha, hS, hA⟩
  show H[a]? = some (vp_cell cA y)
  rw [← he]
  exact hP k _ ha
theorem g_new (C0 : Cx p s m args c cc own nL D TY) (X : Hx D A s H locs ws) {ci : Nat} {C : String} {T : u_T} {N : Nat} {ty : Nat → FieldType} (K : KX ci C T N ty) {index : Nat} {fs : List Value} (hlink : Cond.classLink own index C ∈ TB) (hinst : Cond.instantiable C N ∈ TB) (hini : Cond.initialized C ∈ TB) (hfs : ∀ j, j < N → defaultValue (ty j) = vp_V fs j) (hcells : cells + 1 ≤ R.cells) (hslots : slots + N ≤ R.slots) (hdg : decode cc pc = .ok (.new index, 3))
    (kk : ∀ (q : Nat) (H1 : Heap), Hx D A s H1 locs (ws ++ [(q, .inr (ci, fs))]) → W p l e R s m args below meth c H1 locs (cells + 1) (slots + N) Q (F0 m (pc + 3) ls (.ref q :: rest))) : W p l e R s m args below meth c H locs cells slots Q (F0 m pc ls rest) := by
  obtain ⟨hx, hb, hml, hown, ht, hK⟩ := C0
  obtain ⟨hP, hD, hS, hA⟩ := X
  exact va_new hx hb ht K.2.1 ty K.2.2.1 hown (ht _ hlink) (ht _ hinst) (ht _ hini) hK hP hD hS hA K.1 hfs hcells hslots hdg (fun q H1 h1 h2 h3 => kk q H1 ⟨h1, h2, h3, hA⟩)
theorem g_newa (C0 : Cx p s m args c cc own nL D TY) (X : Hx D A s H locs ws) (t0 : Nat) {cA0 : ClassId} {ty : FieldType} {atype : ArrayType} (ht0 : TY[t0]? = some (cA0, ty)) (harr : Cond.arrayClass (newarray.typeOf atype) ∈ TB) (hty : newarray.typeOf atype = ty) {k N' : Nat} (hk : k = N') (hd : defaultValue ty = .int 0) (hbytes : N' * componentBytes ty ≤ 536870912) (h31 : N' < 2 ^ 31) (hcells : cells + 1 ≤ R.cells) (hslots : slots + N' ≤ R.slots) (hdg : decode cc pc = .ok (.newarray atype, 2))
    (kk : ∀ (q : Nat) (H1 : Heap), Hx D A s H1 locs (ws ++ [(q, .inl (cA0, N', .inl (nf (fun _ => 0))))]) → W p l e R s m args below meth c H1 locs (cells + 1) (slots + N') Q (F0 m (pc + 2) ls (.ref q :: rest))) : W p l e R s m args below meth c H locs cells slots Q (F0 m pc ls (.int (nI k) :: rest)) := by
  obtain ⟨hx, hb, hml, hown, ht, hK⟩ := C0
  obtain ⟨hP, hD, hS, hA⟩ := X
  subst hk
  refine va_newa (a0 := (k, .inl (nf (fun _ => 0)))) hx hb (ht _ harr) hty hK hP hD hS hA (fun cA => by rw [vp_cell_i, hd]; rfl) (nI_nl h31) (nI_clamp h31) hbytes hcells hslots hdg (fun q cA H1 hK1 h1 h2 h3 => ?_)
  have e : cA = cA0 := ra_u (hK1.2 TY.length (cA, ty) (by rw [List.getElem?_append_right (Nat.le_refl _), Nat.sub_self]; rfl)).2 (hK.2 t0 _ ht0).2
  subst e
  exact kk q H1 ⟨h1, h2, h3, hA⟩
theorem g_newq (C0 : Cx p s m args c cc own nL D TY) (X : Hx D A s H locs ws) (t0 : Nat) {cA0 : ClassId} {C : String} {index : Nat} (ht0 : TY[t0]? = some (cA0, .object C)) (hlink : Cond.classLink own index C ∈ TB) (hover : va_AO C s) {k N' : Nat} (hk : k = N') (hbytes : N' * 4 ≤ 536870912) (h31 : N' < 2 ^ 31) (hcells : cells + 1 ≤ R.cells) (hslots : slots + N' ≤ R.slots) (hdg : decode cc pc = .ok (.anewarray index, 3))
    (kk : ∀ (q : Nat) (H1 : Heap), Hx D A s H1 locs (ws ++ [(q, .inl (cA0, N', .inr (.inr (.inr (.inr (fun _ => none))))))]) → W p l e R s m args below meth c H1 locs (cells + 1) (slots + N') Q (F0 m (pc + 3) ls (.ref q :: rest))) : W p l e R s m args below meth c H locs cells slots Q (F0 m pc ls (.int (nI k) :: rest)) := by
  obtain ⟨hx, hb, hml, hown, ht, hK⟩ := C0
  obtain ⟨hP, hD, hS, hA⟩ := X
  subst hk
  refine va_newq hx hb hown (ht _ hlink) hover hK hP hD hS hA (nI_nl h31) (nI_clamp h31) hbytes hcells hslots hdg (fun q cA H1 hK1 h1 h2 h3 => ?_)
  have e : cA = cA0 := ra_u (hK1.2 TY.length (cA, .object C) (by rw [List.getElem?_append_right (Nat.le_refl _), Nat.sub_self]; rfl)).2 (hK.2 t0 _ ht0).2
  subst e
  exact kk q H1 ⟨h1, h2, h3, hA⟩
theorem g_astq (C0 : Cx p s m args c cc own nL D TY) (X : Hx D A s H locs ws) (q0 t0 qk ci : Nat) {cA : ClassId} {r : vw_C} {n v k : Nat} {vs : List Value} {f : Nat → Option Nat} (ha : ws[q0]? = some (a, .inl (cA, n, .inr (.inr (.inr (.inr f)))))) (ht : TY[t0]? = some (cA, .object r.1)) (hv : ws[qk]? = some (v, .inr (ci, vs))) (hc : vwCl[ci]? = some r) (hi : k < n) (h31 : n < 2 ^ 31) (hdg : decode cc pc = .ok (.aastore, 1))
    (kk : ∀ (H1 : Heap) (locs1 : List Loc), Hx D A s H1 locs1 (ws.set q0 (a, .inl (cA, n, .inr (.inr (.inr (.inr (va_up f k (some v)))))))) → W p l e R s m args below meth c H1 locs1 cells slots Q (F0 m (pc + 1) ls rest)) : W p l e R s m args below meth c H locs cells slots Q (F0 m pc ls (.ref v :: .int (nI k) :: .ref a :: rest)) := by
  obtain ⟨hx, hb, hml, hown, -, hK⟩ := C0
  obtain ⟨hP, hD, hS, hA⟩ := X
  have h8 : (nI k).toNatClampNeg = k := nI_clamp (by omega)
  exact va_astq hx hb hK hP hD hS q0 t0 qk ci ha ht hv hc (vp_in_nI hi h31) hdg (fun H1 locs1 h1 h2 h3 => kk H1 locs1 (by rw [h8] at h1 h2; exact ⟨h1, h2, h3, hA⟩))
end NW
/-! a contract that makes arrays of objects -/
def AO2 (U : State) : Prop := va_AO "AspenLine$Grove" U ∧ va_AO "AspenLine$Sheet" U
theorem AO2.moved {u U : State} (hvm : u.vm.Alike U.vm) (h : AO2 u) : AO2 U := ⟨va_AO.moved hvm h.1, va_AO.moved hvm h.2⟩
def BY (D : va_G) (TY : List (ClassId × FieldType)) (wc : va_W) (sz : Nat) : State → Prop := fun U => Bx D TY wc sz U ∧ AO2 U
theorem BY.blind {D : va_G} {TY : List (ClassId × FieldType)} {wc : va_W} {sz : Nat} {av : List Value} : FrameBlind (va_Pc av (BY D TY wc sz)) := fun a U g mk q => by
  obtain ⟨q0, qB, qS⟩ := q
  exact ⟨q0, (Bx.blind (D := D) (TY := TY) (av := av) a U g mk ⟨q0, qB⟩).2, AO2.moved (u := U) (U := U.calling g mk a) (Vm.Alike.refl U.vm) qS⟩
def MY (l : Launch) (y : MethodName) (cc : ByteArray) (n : Nat) (ret : Option FieldType) (rm : Room) (D : va_G) (TY : List (ClassId × FieldType)) (av : List Value) (wc : va_W) {S : Type} (post : S → Prop) (out : S → Option Value) (w1 : S → va_W) (mc ms : Nat) : Prop :=
  ∀ sz : Nat, Met l y (.code y cc n ret :: TB) rm (va_Pc av (BY D TY wc sz)) (fun _ st o t => (∃ u : S, o = .returned (out u) ∧ post u ∧ va_P D vwCl (w1 u) t.heap ∧ va_D (va_A wc sz) (w1 u)) ∧ va_F (va_A wc sz) st t) mc ms (va_A wc sz)
section RY
variable {p : Program} {l : Launch} {e : Env} {R : Room} {s : State} {m : MethodId} {args : Array Value} {below : List Frame} {meth : Method} {c : Code} {H : Heap} {locs : List Loc} {cells slots : Nat} {Q : State → Prop}
variable {cc : ByteArray} {pc : Nat} {ls : Array Slot} {rest : List Value} {D : va_G} {A : Nat → Prop} {a : Nat} {TY : List (ClassId × FieldType)} {ws : va_W} {own : String} {nL : Nat}
theorem g_callIy {rm : Room} {y : MethodName} {bytes : ByteArray} {maxL : Nat} {wc wr : va_W} {S : Type} {post : S → Prop} {out : S → Option Value} {w1 : S → va_W} {mc ms n index : Nat} {b : Addr} {As : List Value} (C0 : Cx p s m args c cc own ls.size D TY) (O0 : AO2 s) (X : Hx D A s H locs ws) (hM : MY l y bytes maxL none rm D TY (.ref b :: As) wc post out w1 mc ms) (cw : CW R own index y bytes maxL none rm mc ms n) (hinst : Cond.instanceMethod y ∈ TB) (hy1 : y.name = "<init>") (hn : As.length = n) (isC isR : List Nat) (hC : isC.map (fun i => ws[i]?) = wc.map some) (hR : isR.map (fun i => ws[i]?) = wr.map some) (hnC : va_nd isC = true) (hnd : va_nd isR = true) (hdis : (isR.all (fun i => !(isC.contains i))) = true) (hWd : (rest.map fun v => v.category).sum ≤ 8) (hf : cells + mc ≤ R.cells ∧ slots + ms ≤ R.slots) (hdg : decode cc pc = .ok (.invokespecial index, 3))
    (kk : ∀ (u : S) (H1 : Heap) (locs1 : List Loc), post u → Hx D A s H1 locs1 (wr ++ w1 u) → W p l e R s m args below meth c H1 locs1 (cells + mc) (slots + ms) Q (F0 m (pc + 3) ls ((out u).toList ++ rest))) : W p l e R s m args below meth c H locs cells slots Q (F0 m pc ls (As.reverse ++ .ref b :: rest)) := by
  have ht := C0.2.2.2.2.1
  refine g_ran (av := (.ref b :: As)) X isC isR hC hR hnd hdis (va_runI ⟨C0.1, C0.2.1, C0.2.2.1, C0.2.2.2.1, ht⟩ (hM H.size) ⟨cw.b ht, hy1, ht _ hinst⟩ ⟨BY.blind, fun U hU hW => ?_⟩ rfl hn rfl rfl (lv_room hWd) hdg hf) kk
  have h1 := g_pre (av := (.ref b :: As)) C0 X isC hnC hC U hU hW
  exact ⟨h1.1, h1.2, O0.moved hW.alike⟩
end RY
theorem MY.of_v {l : Launch} {y : MethodName} {cc : ByteArray} {n : Nat} {rm : Room} {D : va_G} {TY : List (ClassId × FieldType)} {av : List Value} {wc : va_W} {S : Type} {post : S → Prop} {out : S → Option Value} {w1 : S → va_W} {mc ms : Nat} (hy : plainName y.cls = true) (hlen : Nat.ble (lg_sl av).length n = true)
    (body : ∀ {p : Program} {e : Env} {s : State} {m : MethodId} {args : Array Value} {below : List Frame} {meth : Method} {c : Code} {A : Nat → Prop} {Q : State → Prop} {ls : Array Slot}, Cx p s m args c cc y.cls n D TY → meth.name = y.name → AO2 s → Hx D A s s.heap [] wc → lv_has ls n (lv_args 0 av) →
      (∀ {pc : Nat} {ls : Array Slot} {H : Heap} {locs : List Loc} {v : Unit} (u : S), out u = none → post u → Hx D A s H locs (w1 u) → decode cc pc = .ok (.return_, 1) → W p l e rm s m args below meth c H locs mc ms Q (F0 m pc ls [])) →
      W p l e rm s m args below meth c s.heap [] 0 0 Q (F0 m 0 ls [])) : MY l y cc n none rm D TY av wc post out w1 mc ms := by
  intro sz
  refine Met.ofW (cc := cc) (maxL := n) (ret := none) hy rfl ?_
  intro p e s m args below meth c s₁ B hml hv
  obtain ⟨rfl, ⟨hsz, hP, hK, hD0⟩, hO⟩ := hv
  have hts := atoms_spec (ws := Cond.code y cc n none :: TB) B.pre
  have ht : ∀ w ∈ TB, w.before av.toArray s = true := fun w h => hts w (List.mem_cons_of_mem _ h)
  have hlocks := B.notSynchronized
  subst hsz
  have hD := hD0.self (sz := s.heap.size)
  have hl := lv_entry av (n := n) (Nat.le_of_ble_eq_true hlen)
  rw [lg_entry_eq]
  refine body (A := va_A wc s.heap.size) ⟨B.exec, B.bytes, hml, findClass_of_methodNamed B.named, ht, hK⟩ (name_of_methodNamed B.named B.method).1 hO ⟨hP, hD, va_S.rf, fun q h => Or.inr h⟩ hl ?_
  intro pc ls H locs v u ho hp X hdg
  exact W.vret B.exec B.bytes B.returns (fun t hT hW => ⟨⟨u, by rw [ho], hp, by rw [hT]; exact X.1, X.2.1⟩, X.2.2.1.F hT⟩) X.2.2.1.2.2 hdg
/-- an address ahead of others -/
def hc (a : Nat) (u : Nat → Nat) : Nat → Nat := fun k => match k with
  | 0 => a
  | k + 1 => u k
