/-! contracts that look at the String constants -/
def strLen : List Nat := [5, 6, 3, 7, 4, 4, 4]
def strW : List (List Nat) := [wPlain, wSilver, wOld, wSapling, wRoot, wWind, wTalk]
def strB : List (List Int32) := [[112, 108, 97, 105, 110], [115, 105, 108, 118, 101, 114], [111, 108, 100], [115, 97, 112, 108, 105, 110, 103], [114, 111, 111, 116], [119, 105, 110, 100], [116, 97, 108, 107]]
def strIx : List Nat := [65, 74, 76, 78, 80, 85, 90]
def strTx : List String := ["plain", "silver", "old", "sapling", "root", "wind", "talk"]
theorem str_len : ∀ i, i < 7 → strLen.getD i 0 = (strW.getD i []).length ∧ strLen.getD i 0 ≤ 7 := by decide +kernel
theorem str_b : ∀ i, i < 7 → ∀ j, j < 7 → (strB.getD i []).getD j 0 = nI ((strW.getD i []).getD j 0) ∧ (strW.getD i []).getD j 0 < 128 := by decide +kernel
theorem ch_255 : ∀ x, x < 128 → (nI x &&& nI 255) = nI x ∧ ((nI x).toUInt32 % 65536).toInt32 = nI x := by decide +kernel
def SF (sK sV : Nat → Nat) (A : Nat → Prop) (U : State) (H : Heap) : Prop := vk_S 7 strLen strB sK sV A U H ∧ va_Z "java/lang/String" "COMPACT_STRINGS" "Z" (.int (nI 1)) A U H ∧ va_Zq "jdk/internal/util/Preconditions" "SIOOBE_FORMATTER" "Ljava/util/function/BiFunction;" A U H ∧ ∀ i, i < 7 → vk_R RX2 (strIx.getD i 0) (strTx.getD i "") (sK i) U
theorem SF.to {sK sV : Nat → Nat} {A B : Nat → Prop} {s U : State} {H : Heap} (h : SF sK sV A s s.heap) (hq : ∀ a : Nat, a < s.heap.size → ¬ A a → H[a]? = s.heap[a]?) (hW : s.WarmedH U.vm) (hAB : ∀ q, B q → A q) : SF sK sV B U H :=
  ⟨((h.1.kept hq).moved hW.alike).narrow hAB, ((h.2.1.kept hq).moved hW.alike).narrow hAB, ((h.2.2.1.kept hq).moved hW.alike).narrow hAB, fun i hi => (h.2.2.2 i hi).warm hW⟩
def BS (D : va_G) (TY : List (ClassId × FieldType)) (sK sV : Nat → Nat) (wc : va_W) (sz : Nat) : State → Prop := fun U => Bx D TY wc sz U ∧ SF sK sV (va_A wc sz) U U.heap
theorem BS.blind {D : va_G} {TY : List (ClassId × FieldType)} {sK sV : Nat → Nat} {wc : va_W} {sz : Nat} {av : List Value} : FrameBlind (va_Pc av (BS D TY sK sV wc sz)) := fun a U g mk q => by
  obtain ⟨q0, qB, qS⟩ := q
  refine ⟨q0, (Bx.blind (D := D) (TY := TY) (av := av) a U g mk ⟨q0, qB⟩).2, ?_⟩
  exact ⟨vk_S.moved (u := U) (U := U.calling g mk a) (Vm.Alike.refl U.vm) qS.1, va_Z.moved (u := U) (U := U.calling g mk a) (Vm.Alike.refl U.vm) qS.2.1, va_Zq.moved (u := U) (U := U.calling g mk a) (Vm.Alike.refl U.vm) qS.2.2.1, fun i hi => vk_R.same (u := U) (U := U.calling g mk a) rfl (qS.2.2.2 i hi)⟩
def MS (l : Launch) (y : MethodName) (cc : ByteArray) (n : Nat) (ret : Option FieldType) (rm : Room) (D : va_G) (TY : List (ClassId × FieldType)) (sK sV : Nat → Nat) (av : List Value) (wc : va_W) {S : Type} (post : S → Prop) (out : S → Option Value) (w1 : S → va_W) (mc ms : Nat) : Prop :=
  ∀ sz : Nat, Met l y (.code y cc n ret :: TB) rm (va_Pc av (BS D TY sK sV wc sz)) (fun _ st o t => (∃ u : S, o = .returned (out u) ∧ post u ∧ va_P D vwCl (w1 u) t.heap ∧ va_D (va_A wc sz) (w1 u)) ∧ va_F (va_A wc sz) st t) mc ms (va_A wc sz)
section RS
variable {p : Program} {l : Launch} {e : Env} {R : Room} {s : State} {m : MethodId} {args : Array Value} {below : List Frame} {meth : Method} {c : Code} {H : Heap} {locs : List Loc} {cells slots : Nat} {Q : State → Prop}
variable {cc : ByteArray} {pc : Nat} {ls : Array Slot} {rest : List Value} {D : va_G} {A : Nat → Prop} {a : Nat} {TY : List (ClassId × FieldType)} {ws : va_W} {own : String} {nL : Nat} {sK sV : Nat → Nat}
theorem g_preS {av : List Value} {wc : va_W} (C0 : Cx p s m args c cc own nL D TY) (S0 : SF sK sV A s s.heap) (X : Hx D A s H locs ws) (isC : List Nat) (hn : va_nd isC = true) (hC : isC.map (fun i => ws[i]?) = wc.map some) : ∀ U : State, U.heap = H → s.WarmedH U.vm → va_Pc av (BS D TY sK sV wc H.size) av.toArray U := by
  intro U hU hW
  have h1 := g_pre (av := av) C0 X isC hn hC U hU hW
  refine ⟨h1.1, h1.2, ?_⟩
  rw [hU]
  exact S0.to X.2.2.1.2.1 hW (va_free X.2.1 X.2.2.1 X.2.2.2 isC hC)
theorem g_callVs {rm : Room} {y : MethodName} {bytes : ByteArray} {maxL : Nat} {ret : Option FieldType} {wc wr : va_W} {S : Type} {post : S → Prop} {out : S → Option Value} {w1 : S → va_W} {mc ms n index : Nat} {b : Addr} {As : List Value} (C0 : Cx p s m args c cc own ls.size D TY) (S0 : SF sK sV A s s.heap) (X : Hx D A s H locs ws) (hM : MS l y bytes maxL ret rm D TY sK sV (.ref b :: As) wc post out w1 mc ms) (cw : CW R own index y bytes maxL ret rm mc ms n) (hinst : Cond.instanceMethod y ∈ TB) (hsel : Cond.selects y.cls y y ∈ TB) (q0 ci : Nat) {fs : List Value} {q : vw_C} (hrc : vwCl[ci]? = some q) (hre : ws[q0]? = some (b, .inr (ci, fs))) (hrq : q.1 = y.cls) (hn : As.length = n) (isC isR : List Nat) (hC : isC.map (fun i => ws[i]?) = wc.map some) (hR : isR.map (fun i => ws[i]?) = wr.map some) (hnC : va_nd isC = true) (hnd : va_nd isR = true) (hdis : (isR.all (fun i => !(isC.contains i))) = true) (hWd : (rest.map fun v => v.category).sum ≤ 8) (hf : cells + mc ≤ R.cells ∧ slots + ms ≤ R.slots) (hdg : decode cc pc = .ok (.invokevirtual index, 3))
    (kk : ∀ (u : S) (H1 : Heap) (locs1 : List Loc), post u → Hx D A s H1 locs1 (wr ++ w1 u) → W p l e R s m args below meth c H1 locs1 (cells + mc) (slots + ms) Q (F0 m (pc + 3) ls ((out u).toList ++ rest))) : W p l e R s m args below meth c H locs cells slots Q (F0 m pc ls (As.reverse ++ .ref b :: rest)) := by
  have ht := C0.2.2.2.2.1
  refine g_ran (av := (.ref b :: As)) X isC isR hC hR hnd hdis (va_runV (C := y.cls) ⟨C0.1, C0.2.1, C0.2.2.1, C0.2.2.2.1, ht⟩ (hM H.size) ⟨cw.b ht, ht _ hinst, ht _ hsel⟩ ⟨BS.blind, (by obtain ⟨cell, g1, g2, g3⟩ := va_recv C0.2.2.2.2.2 X.1 hrc hre; exact ⟨cell, g1, g2, by rw [hrq] at g3; exact g3⟩), g_preS C0 S0 X isC hnC hC⟩ rfl hn rfl rfl (lv_room hWd) hdg hf) kk
theorem g_callSs {rm : Room} {y : MethodName} {bytes : ByteArray} {maxL : Nat} {ret : Option FieldType} {wc wr : va_W} {S : Type} {post : S → Prop} {out : S → Option Value} {w1 : S → va_W} {mc ms n index : Nat} {As : List Value} (C0 : Cx p s m args c cc own ls.size D TY) (S0 : SF sK sV A s s.heap) (X : Hx D A s H locs ws) (hM : MS l y bytes maxL ret rm D TY sK sV As wc post out w1 mc ms) (cw : CW R own index y bytes maxL ret rm mc ms n) (hstat : Cond.static y ∈ TB) (hn : As.length = n) (isC isR : List Nat) (hC : isC.map (fun i => ws[i]?) = wc.map some) (hR : isR.map (fun i => ws[i]?) = wr.map some) (hnC : va_nd isC = true) (hnd : va_nd isR = true) (hdis : (isR.all (fun i => !(isC.contains i))) = true) (hWd : (rest.map fun v => v.category).sum ≤ 8) (hf : cells + mc ≤ R.cells ∧ slots + ms ≤ R.slots) (hdg : decode cc pc = .ok (.invokestatic index, 3))
    (kk : ∀ (u : S) (H1 : Heap) (locs1 : List Loc), post u → Hx D A s H1 locs1 (wr ++ w1 u) → W p l e R s m args below meth c H1 locs1 (cells + mc) (slots + ms) Q (F0 m (pc + 3) ls ((out u).toList ++ rest))) : W p l e R s m args below meth c H locs cells slots Q (F0 m pc ls (As.reverse ++ rest)) := by
  have ht := C0.2.2.2.2.1
  refine g_ran (av := As) X isC isR hC hR hnd hdis (va_runS ⟨C0.1, C0.2.1, C0.2.2.1, C0.2.2.2.1, ht⟩ (hM H.size) ⟨cw.b ht, ht _ hstat⟩ ⟨BS.blind, g_preS C0 S0 X isC hnC hC⟩ rfl hn rfl rfl (lv_room hWd) hdg hf) kk
/-- a call on a String constant -/
theorem g_callVk {rm : Room} {y : MethodName} {bytes : ByteArray} {maxL : Nat} {ret : Option FieldType} {wc wr : va_W} {S : Type} {post : S → Prop} {out : S → Option Value} {w1 : S → va_W} {mc ms n index i : Nat} {As : List Value} (C0 : Cx p s m args c cc own ls.size D TY) (S0 : SF sK sV A s s.heap) (X : Hx D A s H locs ws) (hM : MS l y bytes maxL ret rm D TY sK sV (.ref (sK i) :: As) wc post out w1 mc ms) (cw : CW R own index y bytes maxL ret rm mc ms n) (hinst : Cond.instanceMethod y ∈ TB) (hsel : Cond.selects y.cls y y ∈ TB) (hi : i < 7) (hrq : y.cls = "java/lang/String") (hn : As.length = n) (isC isR : List Nat) (hC : isC.map (fun i => ws[i]?) = wc.map some) (hR : isR.map (fun i => ws[i]?) = wr.map some) (hnC : va_nd isC = true) (hnd : va_nd isR = true) (hdis : (isR.all (fun i => !(isC.contains i))) = true) (hWd : (rest.map fun v => v.category).sum ≤ 8) (hf : cells + mc ≤ R.cells ∧ slots + ms ≤ R.slots) (hdg : decode cc pc = .ok (.invokevirtual index, 3))
    (kk : ∀ (u : S) (H1 : Heap) (locs1 : List Loc), post u → Hx D A s H1 locs1 (wr ++ w1 u) → W p l e R s m args below meth c H1 locs1 (cells + mc) (slots + ms) Q (F0 m (pc + 3) ls ((out u).toList ++ rest))) : W p l e R s m args below meth c H locs cells slots Q (F0 m pc ls (As.reverse ++ .ref (sK i) :: rest)) := by
  have ht := C0.2.2.2.2.1
  refine g_ran (av := (.ref (sK i) :: As)) X isC isR hC hR hnd hdis (va_runV (C := y.cls) ⟨C0.1, C0.2.1, C0.2.2.1, C0.2.2.2.1, ht⟩ (hM H.size) ⟨cw.b ht, ht _ hinst, ht _ hsel⟩ ⟨BS.blind, (by obtain ⟨cell, g1, g2, g3⟩ := vk_recv S0.1 hi X.2.2.1; exact ⟨cell, g1, g2, by rw [hrq]; exact g3⟩), g_preS C0 S0 X isC hnC hC⟩ rfl hn rfl rfl (lv_room hWd) hdg hf) kk
theorem g_ldcS (C0 : Cx p s m args c cc RX2 nL D TY) (S0 : SF sK sV A s s.heap) {index i : Nat} (hi : i < 7) (hx : strIx.getD i 0 = index) (hdg : decode cc pc = .ok (.ldc index, 2)) (kk : W p l e R s m args below meth c H locs cells slots Q (F0 m (pc + 2) ls (.ref (sK i) :: rest))) : W p l e R s m args below meth c H locs cells slots Q (F0 m pc ls rest) := by
  subst hx
  exact va_ldcS C0.1 C0.2.1 C0.2.2.2.1 (S0.2.2.2 i hi) hdg kk
end RS
theorem MS.of_i {l : Launch} {y : MethodName} {cc : ByteArray} {n : Nat} {rm : Room} {D : va_G} {TY : List (ClassId × FieldType)} {sK sV : Nat → Nat} {av : List Value} {wc : va_W} {S : Type} {post : S → Prop} {out : S → Option Value} {w1 : S → va_W} {mc ms : Nat} (hy : plainName y.cls = true) (hlen : Nat.ble (lg_sl av).length n = true)
    (body : ∀ {p : Program} {e : Env} {s : State} {m : MethodId} {args : Array Value} {below : List Frame} {meth : Method} {c : Code} {A : Nat → Prop} {Q : State → Prop} {ls : Array Slot}, Cx p s m args c cc y.cls n D TY → meth.name = y.name → SF sK sV A s s.heap → Hx D A s s.heap [] wc → lv_has ls n (lv_args 0 av) →
      (∀ {pc : Nat} {ls : Array Slot} {H : Heap} {locs : List Loc} {v : Int32} (u : S), out u = some (.int v) → post u → Hx D A s H locs (w1 u) → decode cc pc = .ok (.ireturn, 1) → W p l e rm s m args below meth c H locs mc ms Q (F0 m pc ls [.int v])) →
      W p l e rm s m args below meth c s.heap [] 0 0 Q (F0 m 0 ls [])) : MS l y cc n (some .int) rm D TY sK sV av wc post out w1 mc ms := by
  intro sz
  refine Met.ofW (cc := cc) (maxL := n) (ret := (some .int)) hy rfl ?_
  intro p e s m args below meth c s₁ B hml hv
  obtain ⟨rfl, ⟨hsz, hP, hK, hD0⟩, hSF⟩ := hv
  have hts := atoms_spec (ws := Cond.code y cc n (some .int) :: TB) B.pre
  have ht : ∀ w ∈ TB, w.before av.toArray s = true := fun w h => hts w (List.mem_cons_of_mem _ h)
  have hlocks := B.notSynchronized
  subst hsz
  have hD := hD0.self (sz := s.heap.size)
  have hl := lv_entry av (n := n) (Nat.le_of_ble_eq_true hlen)
  rw [lg_entry_eq]
  refine body (A := va_A wc s.heap.size) ⟨B.exec, B.bytes, hml, findClass_of_methodNamed B.named, ht, hK⟩ (name_of_methodNamed B.named B.method).1 hSF ⟨hP, hD, va_S.rf, fun q h => Or.inr h⟩ hl ?_
  intro pc ls H locs v u ho hp X hdg
  exact W.iret B.exec B.bytes B.returns (fun t hT hW => ⟨⟨u, by rw [ho], hp, by rw [hT]; exact X.1, X.2.1⟩, X.2.2.1.F hT⟩) X.2.2.1.2.2 hdg
theorem MS.of_n {l : Launch} {y : MethodName} {cc : ByteArray} {n : Nat} {rm : Room} {D : va_G} {TY : List (ClassId × FieldType)} {sK sV : Nat → Nat} {av : List Value} {wc : va_W} {S : Type} {post : S → Prop} {out : S → Option Value} {w1 : S → va_W} {mc ms : Nat} {ty : FieldType} (hy : plainName y.cls = true) (hlen : Nat.ble (lg_sl av).length n = true)
    (body : ∀ {p : Program} {e : Env} {s : State} {m : MethodId} {args : Array Value} {below : List Frame} {meth : Method} {c : Code} {A : Nat → Prop} {Q : State → Prop} {ls : Array Slot}, Cx p s m args c cc y.cls n D TY → meth.name = y.name → SF sK sV A s s.heap → Hx D A s s.heap [] wc → lv_has ls n (lv_args 0 av) →
      (∀ {pc : Nat} {ls : Array Slot} {H : Heap} {locs : List Loc} {v : Int32} (u : S), out u = some (.int v) → narrow ty (.int v) = .int v → post u → Hx D A s H locs (w1 u) → decode cc pc = .ok (.ireturn, 1) → W p l e rm s m args below meth c H locs mc ms Q (F0 m pc ls [.int v])) →
      W p l e rm s m args below meth c s.heap [] 0 0 Q (F0 m 0 ls [])) : MS l y cc n (some ty) rm D TY sK sV av wc post out w1 mc ms := by
  intro sz
  refine Met.ofW (cc := cc) (maxL := n) (ret := (some ty)) hy rfl ?_
  intro p e s m args below meth c s₁ B hml hv
  obtain ⟨rfl, ⟨hsz, hP, hK, hD0⟩, hSF⟩ := hv
  have hts := atoms_spec (ws := Cond.code y cc n (some ty) :: TB) B.pre
  have ht : ∀ w ∈ TB, w.before av.toArray s = true := fun w h => hts w (List.mem_cons_of_mem _ h)
  have hlocks := B.notSynchronized
  subst hsz
  have hD := hD0.self (sz := s.heap.size)
  have hl := lv_entry av (n := n) (Nat.le_of_ble_eq_true hlen)
  rw [lg_entry_eq]
  refine body (A := va_A wc s.heap.size) ⟨B.exec, B.bytes, hml, findClass_of_methodNamed B.named, ht, hK⟩ (name_of_methodNamed B.named B.method).1 hSF ⟨hP, hD, va_S.rf, fun q h => Or.inr h⟩ hl ?_
  intro pc ls H locs v u ho hnr hp X hdg
  exact W.zret B.exec B.bytes B.returns hnr (fun t hT hW => ⟨⟨u, by rw [ho], hp, by rw [hT]; exact X.1, X.2.1⟩, X.2.2.1.F hT⟩) X.2.2.1.2.2 hdg
theorem MS.of_v {l : Launch} {y : MethodName} {cc : ByteArray} {n : Nat} {rm : Room} {D : va_G} {TY : List (ClassId × FieldType)} {sK sV : Nat → Nat} {av : List Value} {wc : va_W} {S : Type} {post : S → Prop} {out : S → Option Value} {w1 : S → va_W} {mc ms : Nat} (hy : plainName y.cls = true) (hlen : Nat.ble (lg_sl av).length n = true)
    (body : ∀ {p : Program} {e : Env} {s : State} {m : MethodId} {args : Array Value} {below : List Frame} {meth : Method} {c : Code} {A : Nat → Prop} {Q : State → Prop} {ls : Array Slot}, Cx p s m args c cc y.cls n D TY → meth.name = y.name → SF sK sV A s s.heap → Hx D A s s.heap [] wc → lv_has ls n (lv_args 0 av) →
      (∀ {pc : Nat} {ls : Array Slot} {H : Heap} {locs : List Loc} {v : Unit} (u : S), out u = none → post u → Hx D A s H locs (w1 u) → decode cc pc = .ok (.return_, 1) → W p l e rm s m args below meth c H locs mc ms Q (F0 m pc ls [])) →
      W p l e rm s m args below meth c s.heap [] 0 0 Q (F0 m 0 ls [])) : MS l y cc n none rm D TY sK sV av wc post out w1 mc ms := by
  intro sz
  refine Met.ofW (cc := cc) (maxL := n) (ret := none) hy rfl ?_
  intro p e s m args below meth c s₁ B hml hv
  obtain ⟨rfl, ⟨hsz, hP, hK, hD0⟩, hSF⟩ := hv
  have hts := atoms_spec (ws := Cond.code y cc n none :: TB) B.pre
  have ht : ∀ w ∈ TB, w.before av.toArray s = true := fun w h => hts w (List.mem_cons_of_mem _ h)
  have hlocks := B.notSynchronized
  subst hsz
  have hD := hD0.self (sz := s.heap.size)
  have hl := lv_entry av (n := n) (Nat.le_of_ble_eq_true hlen)
  rw [lg_entry_eq]
  refine body (A := va_A wc s.heap.size) ⟨B.exec, B.bytes, hml, findClass_of_methodNamed B.named, ht, hK⟩ (name_of_methodNamed B.named B.method).1 hSF ⟨hP, hD, va_S.rf, fun q h => Or.inr h⟩ hl ?_
  intro pc ls H locs v u ho hp X hdg
  exact W.vret B.exec B.bytes B.returns (fun t hT hW => ⟨⟨u, by rw [ho], hp, by rw [hT]; exact X.1, X.2.1⟩, X.2.2.1.F hT⟩) X.2.2.1.2.2 hdg
theorem MS.of_z {l : Launch} {y : MethodName} {cc : ByteArray} {n : Nat} {rm : Room} {D : va_G} {TY : List (ClassId × FieldType)} {sK sV : Nat → Nat} {av : List Value} {wc : va_W} {S : Type} {post : S → Prop} {out : S → Option Value} {w1 : S → va_W} {mc ms : Nat} (hy : plainName y.cls = true) (hlen : Nat.ble (lg_sl av).length n = true)
    (body : ∀ {p : Program} {e : Env} {s : State} {m : MethodId} {args : Array Value} {below : List Frame} {meth : Method} {c : Code} {A : Nat → Prop} {Q : State → Prop} {ls : Array Slot}, Cx p s m args c cc y.cls n D TY → meth.name = y.name → SF sK sV A s s.heap → Hx D A s s.heap [] wc → lv_has ls n (lv_args 0 av) →
      (∀ {pc : Nat} {ls : Array Slot} {H : Heap} {locs : List Loc} {v : Bool} (u : S), out u = some (.int (nI (rb v))) → post u → Hx D A s H locs (w1 u) → decode cc pc = .ok (.ireturn, 1) → W p l e rm s m args below meth c H locs mc ms Q (F0 m pc ls [.int (nI (rb v))])) →
      W p l e rm s m args below meth c s.heap [] 0 0 Q (F0 m 0 ls [])) : MS l y cc n (some .boolean) rm D TY sK sV av wc post out w1 mc ms := by
  intro sz
  refine Met.ofW (cc := cc) (maxL := n) (ret := (some .boolean)) hy rfl ?_
  intro p e s m args below meth c s₁ B hml hv
  obtain ⟨rfl, ⟨hsz, hP, hK, hD0⟩, hSF⟩ := hv
  have hts := atoms_spec (ws := Cond.code y cc n (some .boolean) :: TB) B.pre
  have ht : ∀ w ∈ TB, w.before av.toArray s = true := fun w h => hts w (List.mem_cons_of_mem _ h)
  have hlocks := B.notSynchronized
  subst hsz
  have hD := hD0.self (sz := s.heap.size)
  have hl := lv_entry av (n := n) (Nat.le_of_ble_eq_true hlen)
  rw [lg_entry_eq]
  refine body (A := va_A wc s.heap.size) ⟨B.exec, B.bytes, hml, findClass_of_methodNamed B.named, ht, hK⟩ (name_of_methodNamed B.named B.method).1 hSF ⟨hP, hD, va_S.rf, fun q h => Or.inr h⟩ hl ?_
  intro pc ls H locs v u ho hp X hdg
  exact W.zret B.exec B.bytes B.returns (by cases v <;> decide) (fun t hT hW => ⟨⟨u, by rw [ho], hp, by rw [hT]; exact X.1, X.2.1⟩, X.2.2.1.F hT⟩) X.2.2.1.2.2 hdg
theorem c_strCoder (l : Launch) (D : va_G) (tk : Nat → ClassId) (sK sV : Nat → Nat) (i : Nat) (hi : i < 7) : MS l yJ0_coder_7d493 cJ0_coder_7d493 1 (some .byte) ⟨0, 0, 0, 0⟩ D (TYS tk) sK sV [.ref (sK i)] [] (fun (_ : Unit) => True) (fun _ => some (.int (nI 0))) (fun _ => []) 0 0 := by
  refine MS.of_n (by decide) rfl ?_
  intro zp ze zs zm za zb zt zc zA zQ ls C0 hnm S0 X hl hE
  have hx := C0.1
  have hb := C0.2.1
  have ht := C0.2.2.2.2.1
  have hl : lv_has ls 1 [(0, .ref (sK i))] := hl
  obtain ⟨H, hH⟩ : ∃ H, H = zs.heap := ⟨_, rfl⟩
  have X : Hx D zA zs H [] [] := hH ▸ X
  rw [← hH]
  obtain ⟨locs, hlo⟩ : ∃ L : List Loc, L = [] := ⟨_, rfl⟩
  rw [← hlo] at X ⊢
  refine va_gets hx hb S0.2.1 X.2.2.1 C0.2.2.2.1 (ht _ tb292) (fun _ h => h) dJ0_coder_7d493_0 ?_
  refine g_ifeq (x := 1) (tgt := 13) C0 (by decide) dJ0_coder_7d493_3 rfl (fun q => absurd q (by decide)) (fun _ => ?_)
  refine lv_aload_n hx hb dJ0_coder_7d493_6 rfl (lv_at hl 0 rfl) ?_
  refine vk_getf hx hb (S0.1.1 i hi).2.1 X.2.2.1 C0.2.2.2.1 (ht _ tb1210) (fun _ h => h) dJ0_coder_7d493_7 ?_
  refine lv_goto (tgt := 14) hx hb dJ0_coder_7d493_10 (by decide) ?_
  exact hE (v := nI 0) () rfl (by decide) trivial X dJ0_coder_7d493_14
theorem c_strLen (l : Launch) (D : va_G) (tk : Nat → ClassId) (sK sV : Nat → Nat) (i : Nat) (hi : i < 7) : MS l yJ0_length_8abf5 cJ0_length_8abf5 1 (some .int) ⟨1, 0, 0, 20⟩ D (TYS tk) sK sV [.ref (sK i)] [] (fun (_ : Unit) => True) (fun _ => some (.int (nI (strLen.getD i 0)))) (fun _ => []) 0 0 := by
  refine MS.of_i (by decide) rfl ?_
  intro zp ze zs zm za zb zt zc zA zQ ls C0 hnm S0 X hl hE
  have hx := C0.1
  have hb := C0.2.1
  have ht := C0.2.2.2.2.1
  have hl : lv_has ls 1 [(0, .ref (sK i))] := hl
  have hL := str_len i hi
  obtain ⟨H, hH⟩ : ∃ H, H = zs.heap := ⟨_, rfl⟩
  have X : Hx D zA zs H [] [] := hH ▸ X
  rw [← hH]
  obtain ⟨locs, hlo⟩ : ∃ L : List Loc, L = [] := ⟨_, rfl⟩
  rw [← hlo] at X ⊢
  refine lv_aload_n hx hb dJ0_length_8abf5_0 rfl (lv_at hl 0 rfl) ?_
  refine vk_getf hx hb (S0.1.1 i hi).2.2.1 X.2.2.1 C0.2.2.2.1 (ht _ tb1209) (fun _ h => h) dJ0_length_8abf5_1 ?_
  refine va_tlen hx hb (S0.1.1 i hi).2.2.2 X.2.2.1 (v := nI (strLen.getD i 0)) rfl dJ0_length_8abf5_4 ?_
  refine lv_aload_n hx hb dJ0_length_8abf5_5 rfl (lv_at hl 0 rfl) ?_
  refine g_callVk (As := []) (rest := [.int (nI (strLen.getD i 0))]) (wr := []) (i := i) (C0.sz hl) S0 X (c_strCoder l D tk sK sV i hi) ⟨tb288, tb291, tb9, ⟨by decide, by decide, rfl⟩, rfl, rfl, Nat.le_of_ble_eq_true rfl, Nat.le_of_ble_eq_true rfl⟩ tb289 tb290 hi rfl rfl [] [] rfl rfl rfl rfl rfl (Nat.le_of_ble_eq_true rfl) ⟨Nat.le_of_ble_eq_true rfl, Nat.le_of_ble_eq_true rfl⟩ dJ0_length_8abf5_6 (fun _ H locs _ X => ?_)
  have X : Hx D zA zs H locs [] := X
  refine g_ishr (n := strLen.getD i 0) C0 (by omega) (by decide) (Nat.div_one _) dJ0_length_8abf5_9 ?_
  exact hE (v := nI (strLen.getD i 0)) () rfl trivial X dJ0_length_8abf5_10
theorem c_strLatin (l : Launch) (D : va_G) (tk : Nat → ClassId) (sK sV : Nat → Nat) (i : Nat) (hi : i < 7) : MS l yJ0_isLatin1_aae02 cJ0_isLatin1_aae02 1 (some .boolean) ⟨0, 0, 0, 0⟩ D (TYS tk) sK sV [.ref (sK i)] [] (fun (_ : Unit) => True) (fun _ => some (.int (nI 1))) (fun _ => []) 0 0 := by
  refine MS.of_n (by decide) rfl ?_
  intro zp ze zs zm za zb zt zc zA zQ ls C0 hnm S0 X hl hE
  have hx := C0.1
  have hb := C0.2.1
  have ht := C0.2.2.2.2.1
  have hl : lv_has ls 1 [(0, .ref (sK i))] := hl
  obtain ⟨H, hH⟩ : ∃ H, H = zs.heap := ⟨_, rfl⟩
  have X : Hx D zA zs H [] [] := hH ▸ X
  rw [← hH]
  obtain ⟨locs, hlo⟩ : ∃ L : List Loc, L = [] := ⟨_, rfl⟩
  rw [← hlo] at X ⊢
  refine va_gets hx hb S0.2.1 X.2.2.1 C0.2.2.2.1 (ht _ tb292) (fun _ h => h) dJ0_isLatin1_aae02_0 ?_
  refine g_ifeq (x := 1) (tgt := 17) C0 (by decide) dJ0_isLatin1_aae02_3 rfl (fun q => absurd q (by decide)) (fun _ => ?_)
  refine lv_aload_n hx hb dJ0_isLatin1_aae02_6 rfl (lv_at hl 0 rfl) ?_
  refine vk_getf hx hb (S0.1.1 i hi).2.1 X.2.2.1 C0.2.2.2.1 (ht _ tb1210) (fun _ h => h) dJ0_isLatin1_aae02_7 ?_
  refine g_ifne (x := 0) (tgt := 17) C0 (by decide) dJ0_isLatin1_aae02_10 rfl (fun q => absurd q (by decide)) (fun _ => ?_)
  refine g_iconst (n := 1) C0 rfl dJ0_isLatin1_aae02_13 ?_
  refine lv_goto (tgt := 18) hx hb dJ0_isLatin1_aae02_14 (by decide) ?_
  exact hE (v := nI 1) () rfl (by decide) trivial X dJ0_isLatin1_aae02_18
theorem c_chk0 (l : Launch) (D : va_G) (tk : Nat → ClassId) (j n : Nat) (hj : j < n) (hn : n < 100) : MX l yJ3_checkIndex_8e157 cJ3_checkIndex_8e157 3 (some .int) ⟨0, 0, 0, 0⟩ D (TYS tk) [.int (nI j), .int (nI n), .null] [] (fun (_ : Unit) => True) (fun _ => some (.int (nI j))) (fun _ => []) 0 0 := by
  refine MX.of_i (by decide) rfl ?_
  intro zp ze zs zm za zb zt zc zA zQ ls C0 hnm X hl hE
  have hx := C0.1
  have hb := C0.2.1
  have ht := C0.2.2.2.2.1
  have hl : lv_has ls 3 [(0, .int (nI j)), (1, .int (nI n)), (2, .null)] := hl
  obtain ⟨H, hH⟩ : ∃ H, H = zs.heap := ⟨_, rfl⟩
  have X : Hx D zA zs H [] [] := hH ▸ X
  rw [← hH]
  obtain ⟨locs, hlo⟩ : ∃ L : List Loc, L = [] := ⟨_, rfl⟩
  rw [← hlo] at X ⊢
  refine lv_iload_n hx hb dJ3_checkIndex_8e157_0 rfl (lv_at hl 0 rfl) ?_
  refine lv_if_lt (tgt := 9) hx hb dJ3_checkIndex_8e157_1 rfl (fun q => absurd q (nI_pos (by omega))) (fun _ => ?_)
  refine lv_iload_n hx hb dJ3_checkIndex_8e157_4 rfl (lv_at hl 0 rfl) ?_
  refine lv_iload_n hx hb dJ3_checkIndex_8e157_5 rfl (lv_at hl 1 rfl) ?_
  refine g_icmp_lt (x := j) (y := n) (tgt := 16) C0 (by omega) (by omega) dJ3_checkIndex_8e157_6 rfl (fun _ => ?_) (fun q => absurd hj (by omega))
  refine lv_iload_n hx hb dJ3_checkIndex_8e157_16 rfl (lv_at hl 0 rfl) ?_
  exact hE (v := nI j) () rfl trivial X dJ3_checkIndex_8e157_17
theorem c_chk1 (l : Launch) (D : va_G) (tk : Nat → ClassId) (q : Nat) (j n : Nat) (hj : j < n) (hn : n < 100) : MX l yJ3_checkIndex_8e157 cJ3_checkIndex_8e157 3 (some .int) ⟨0, 0, 0, 0⟩ D (TYS tk) [.int (nI j), .int (nI n), .ref q] [] (fun (_ : Unit) => True) (fun _ => some (.int (nI j))) (fun _ => []) 0 0 := by
  refine MX.of_i (by decide) rfl ?_
  intro zp ze zs zm za zb zt zc zA zQ ls C0 hnm X hl hE
  have hx := C0.1
  have hb := C0.2.1
  have ht := C0.2.2.2.2.1
  have hl : lv_has ls 3 [(0, .int (nI j)), (1, .int (nI n)), (2, .ref q)] := hl
  obtain ⟨H, hH⟩ : ∃ H, H = zs.heap := ⟨_, rfl⟩
  have X : Hx D zA zs H [] [] := hH ▸ X
  rw [← hH]
  obtain ⟨locs, hlo⟩ : ∃ L : List Loc, L = [] := ⟨_, rfl⟩
  rw [← hlo] at X ⊢
  refine lv_iload_n hx hb dJ3_checkIndex_8e157_0 rfl (lv_at hl 0 rfl) ?_
  refine lv_if_lt (tgt := 9) hx hb dJ3_checkIndex_8e157_1 rfl (fun q => absurd q (nI_pos (by omega))) (fun _ => ?_)
  refine lv_iload_n hx hb dJ3_checkIndex_8e157_4 rfl (lv_at hl 0 rfl) ?_
  refine lv_iload_n hx hb dJ3_checkIndex_8e157_5 rfl (lv_at hl 1 rfl) ?_
  refine g_icmp_lt (x := j) (y := n) (tgt := 16) C0 (by omega) (by omega) dJ3_checkIndex_8e157_6 rfl (fun _ => ?_) (fun q => absurd hj (by omega))
  refine lv_iload_n hx hb dJ3_checkIndex_8e157_16 rfl (lv_at hl 0 rfl) ?_
  exact hE (v := nI j) () rfl trivial X dJ3_checkIndex_8e157_17
theorem c_strChk (l : Launch) (D : va_G) (tk : Nat → ClassId) (sK sV : Nat → Nat) (j n : Nat) (hj : j < n) (hn : n < 100) : MS l yJ0_checkIndex_df160 cJ0_checkIndex_df160 2 none ⟨1, 0, 0, 22⟩ D (TYS tk) sK sV [.int (nI j), .int (nI n)] [] (fun (_ : Unit) => True) (fun _ => none) (fun _ => []) 0 0 := by
  refine MS.of_v (by decide) rfl ?_
  intro zp ze zs zm za zb zt zc zA zQ ls C0 hnm S0 X hl hE
  have hx := C0.1
  have hb := C0.2.1
  have ht := C0.2.2.2.2.1
  have hl : lv_has ls 2 [(0, .int (nI j)), (1, .int (nI n))] := hl
  obtain ⟨H, hH⟩ : ∃ H, H = zs.heap := ⟨_, rfl⟩
  have X : Hx D zA zs H [] [] := hH ▸ X
  rw [← hH]
  obtain ⟨locs, hlo⟩ : ∃ L : List Loc, L = [] := ⟨_, rfl⟩
  rw [← hlo] at X ⊢
  refine lv_iload_n hx hb dJ0_checkIndex_df160_0 rfl (lv_at hl 0 rfl) ?_
  refine lv_iload_n hx hb dJ0_checkIndex_df160_1 rfl (lv_at hl 1 rfl) ?_
  rcases S0.2.2.1 with hz | ⟨q, hz⟩
  · refine va_gets hx hb hz X.2.2.1 C0.2.2.2.1 (ht _ tb308) (fun _ h => h) dJ0_checkIndex_df160_2 ?_
    refine g_callS (As := [.int (nI j), .int (nI n), .null]) (rest := []) (wr := []) (C0.sz hl) X (c_chk0 l D tk j n hj hn) ⟨tb310, tb312, tb11, ⟨by decide, by decide, rfl⟩, rfl, rfl, Nat.le_of_ble_eq_true rfl, Nat.le_of_ble_eq_true rfl⟩ tb311 rfl [] [] rfl rfl rfl rfl rfl (Nat.le_of_ble_eq_true rfl) ⟨Nat.le_of_ble_eq_true rfl, Nat.le_of_ble_eq_true rfl⟩ dJ0_checkIndex_df160_5 (fun _ H locs _ X => ?_)
    have X : Hx D zA zs H locs [] := X
    refine lv_pop hx hb dJ0_checkIndex_df160_8 rfl ?_
    exact hE (v := ()) () rfl trivial X dJ0_checkIndex_df160_9
  · refine va_gets hx hb hz X.2.2.1 C0.2.2.2.1 (ht _ tb308) (fun _ h => h) dJ0_checkIndex_df160_2 ?_
    refine g_callS (As := [.int (nI j), .int (nI n), .ref q]) (rest := []) (wr := []) (C0.sz hl) X (c_chk1 l D tk q j n hj hn) ⟨tb310, tb312, tb11, ⟨by decide, by decide, rfl⟩, rfl, rfl, Nat.le_of_ble_eq_true rfl, Nat.le_of_ble_eq_true rfl⟩ tb311 rfl [] [] rfl rfl rfl rfl rfl (Nat.le_of_ble_eq_true rfl) ⟨Nat.le_of_ble_eq_true rfl, Nat.le_of_ble_eq_true rfl⟩ dJ0_checkIndex_df160_5 (fun _ H locs _ X => ?_)
    have X : Hx D zA zs H locs [] := X
    refine lv_pop hx hb dJ0_checkIndex_df160_8 rfl ?_
    exact hE (v := ()) () rfl trivial X dJ0_checkIndex_df160_9
theorem c_strAt1 (l : Launch) (D : va_G) (tk : Nat → ClassId) (sK sV : Nat → Nat) (i : Nat) (hi : i < 7) (j : Nat) (hj : j < strLen.getD i 0) : MS l yJ1_charAt_3b067 cJ1_charAt_3b067 2 (some .char) ⟨2, 0, 0, 43⟩ D (TYS tk) sK sV [.ref (sV i), .int (nI j)] [] (fun (_ : Unit) => True) (fun _ => some (.int (nI ((strW.getD i []).getD j 0)))) (fun _ => []) 0 0 := by
  refine MS.of_n (by decide) rfl ?_
  intro zp ze zs zm za zb zt zc zA zQ ls C0 hnm S0 X hl hE
  have hx := C0.1
  have hb := C0.2.1
  have ht := C0.2.2.2.2.1
  have hl : lv_has ls 2 [(0, .ref (sV i)), (1, .int (nI j))] := hl
  have hL := str_len i hi
  have hB := str_b i hi j (by omega)
  have hC := ch_255 _ hB.2
  obtain ⟨H, hH⟩ : ∃ H, H = zs.heap := ⟨_, rfl⟩
  have X : Hx D zA zs H [] [] := hH ▸ X
  rw [← hH]
  obtain ⟨locs, hlo⟩ : ∃ L : List Loc, L = [] := ⟨_, rfl⟩
  rw [← hlo] at X ⊢
  refine lv_iload_n hx hb dJ1_charAt_3b067_0 rfl (lv_at hl 1 rfl) ?_
  refine lv_aload_n hx hb dJ1_charAt_3b067_1 rfl (lv_at hl 0 rfl) ?_
  refine va_tlen hx hb (S0.1.1 i hi).2.2.2 X.2.2.1 (v := nI (strLen.getD i 0)) rfl dJ1_charAt_3b067_2 ?_
  refine g_callSs (As := [.int (nI j), .int (nI (strLen.getD i 0))]) (rest := []) (wr := []) (C0.sz hl) S0 X (c_strChk l D tk sK sV j (strLen.getD i 0) hj (by omega)) ⟨tb305, tb307, tb9, ⟨by decide, by decide, rfl⟩, rfl, rfl, Nat.le_of_ble_eq_true rfl, Nat.le_of_ble_eq_true rfl⟩ tb306 rfl [] [] rfl rfl rfl rfl rfl (Nat.le_of_ble_eq_true rfl) ⟨Nat.le_of_ble_eq_true rfl, Nat.le_of_ble_eq_true rfl⟩ dJ1_charAt_3b067_3 (fun _ H locs _ X => ?_)
  have X : Hx D zA zs H locs [] := X
  refine lv_aload_n hx hb dJ1_charAt_3b067_6 rfl (lv_at hl 0 rfl) ?_
  refine lv_iload_n hx hb dJ1_charAt_3b067_7 rfl (lv_at hl 1 rfl) ?_
  refine va_tb hx hb (S0.1.1 i hi).2.2.2 X.2.2.1 (vp_in_nI hj (by omega)) (v := .int (nI ((strW.getD i []).getD j 0))) (by rw [nI_clamp (by omega), hB.1]) dJ1_charAt_3b067_8 ?_
  refine g_sipush (n := 255) C0 (by decide) dJ1_charAt_3b067_9 ?_
  refine lv_iand hx hb dJ1_charAt_3b067_12 ?_
  refine g_top (y := nI ((strW.getD i []).getD j 0)) hC.1 ?_
  refine lv_i2c (v := nI ((strW.getD i []).getD j 0)) hx hb dJ1_charAt_3b067_13 hC.2 ?_
  exact hE (v := nI ((strW.getD i []).getD j 0)) () rfl (pk_charN (by omega)).1 trivial X dJ1_charAt_3b067_14
theorem c_strAt (l : Launch) (D : va_G) (tk : Nat → ClassId) (sK sV : Nat → Nat) (i : Nat) (j : Nat) (hi : i < 7) (hj : j < strLen.getD i 0) : MS l yJ0_charAt_5068e cJ0_charAt_5068e 2 (some .char) ⟨3, 0, 0, 64⟩ D (TYS tk) sK sV [.ref (sK i), .int (nI j)] [] (fun (_ : Unit) => True) (fun _ => some (.int (nI ((strW.getD i []).getD j 0)))) (fun _ => []) 0 0 := by
  refine MS.of_n (by decide) rfl ?_
  intro zp ze zs zm za zb zt zc zA zQ ls C0 hnm S0 X hl hE
  have hx := C0.1
  have hb := C0.2.1
  have ht := C0.2.2.2.2.1
  have hl : lv_has ls 2 [(0, .ref (sK i)), (1, .int (nI j))] := hl
  have hL := str_len i hi
  have hB := str_b i hi j (by omega)
  obtain ⟨H, hH⟩ : ∃ H, H = zs.heap := ⟨_, rfl⟩
  have X : Hx D zA zs H [] [] := hH ▸ X
  rw [← hH]
  obtain ⟨locs, hlo⟩ : ∃ L : List Loc, L = [] := ⟨_, rfl⟩
  rw [← hlo] at X ⊢
  refine lv_aload_n hx hb dJ0_charAt_5068e_0 rfl (lv_at hl 0 rfl) ?_
  refine g_callVk (As := []) (rest := []) (wr := []) (i := i) (C0.sz hl) S0 X (c_strLatin l D tk sK sV i hi) ⟨tb298, tb301, tb9, ⟨by decide, by decide, rfl⟩, rfl, rfl, Nat.le_of_ble_eq_true rfl, Nat.le_of_ble_eq_true rfl⟩ tb299 tb300 hi rfl rfl [] [] rfl rfl rfl rfl rfl (Nat.le_of_ble_eq_true rfl) ⟨Nat.le_of_ble_eq_true rfl, Nat.le_of_ble_eq_true rfl⟩ dJ0_charAt_5068e_1 (fun _ H locs _ X => ?_)
  have X : Hx D zA zs H locs [] := X
  refine g_ifeq (x := 1) (tgt := 16) C0 (by decide) dJ0_charAt_5068e_4 rfl (fun q => absurd q (by decide)) (fun _ => ?_)
  refine lv_aload_n hx hb dJ0_charAt_5068e_7 rfl (lv_at hl 0 rfl) ?_
  refine vk_getf hx hb (S0.1.1 i hi).2.2.1 X.2.2.1 C0.2.2.2.1 (ht _ tb1209) (fun _ h => h) dJ0_charAt_5068e_8 ?_
  refine lv_iload_n hx hb dJ0_charAt_5068e_11 rfl (lv_at hl 1 rfl) ?_
  refine g_callSs (As := [.ref (sV i), .int (nI j)]) (rest := []) (wr := []) (C0.sz hl) S0 X (c_strAt1 l D tk sK sV i hi j hj) ⟨tb302, tb304, tb10, ⟨by decide, by decide, rfl⟩, rfl, rfl, Nat.le_of_ble_eq_true rfl, Nat.le_of_ble_eq_true rfl⟩ tb303 rfl [] [] rfl rfl rfl rfl rfl (Nat.le_of_ble_eq_true rfl) ⟨Nat.le_of_ble_eq_true rfl, Nat.le_of_ble_eq_true rfl⟩ dJ0_charAt_5068e_12 (fun _ H locs _ X => ?_)
  have X : Hx D zA zs H locs [] := X
  exact hE (v := nI ((strW.getD i []).getD j 0)) () rfl (pk_charN (by omega)).1 trivial X dJ0_charAt_5068e_15
