/-! worlds in blocks -/
def bfl2 : List va_W → va_W → va_W
  | [], acc => acc
  | b :: t, acc => bfl2 t (acc ++ b)
def bflat : List va_W → va_W
  | [] => []
  | a :: t => bfl2 t a
theorem bfl2_eq : ∀ (t : List va_W) (acc : va_W), bfl2 t acc = acc ++ t.flatten := by
  intro t
  induction t with
  | nil => intro acc; show acc = acc ++ []; rw [List.append_nil]
  | cons b t ih =>
    intro acc
    show bfl2 t (acc ++ b) = acc ++ (b ++ t.flatten)
    rw [ih, List.append_assoc]
theorem bflat_fl (bs : List va_W) : bflat bs = bs.flatten := by
  cases bs with
  | nil => rfl
  | cons a t => exact bfl2_eq t a
theorem bflat_app (cs rs : List va_W) : bflat (cs ++ rs) = bflat cs ++ bflat rs := by rw [bflat_fl, bflat_fl, bflat_fl, List.flatten_append]
theorem va_P_mem {D : va_G} {cl : List vw_C} {ws : va_W} {H : Heap} : va_P D cl ws H ↔ ∀ q ∈ ws, va_at D cl q H := by
  constructor
  · intro h q hq
    obtain ⟨k, hk⟩ := List.getElem?_of_mem hq
    exact h k q hk
  · intro h k q hk
    exact h q (List.mem_of_getElem? hk)
theorem va_D_nd {A : Nat → Prop} {ws : va_W} : va_D A ws ↔ (ws.map Prod.fst).Nodup ∧ ∀ q ∈ ws, A q.1 := by
  constructor
  · intro h
    refine ⟨?_, fun q hq => ?_⟩
    · rw [List.Nodup, List.pairwise_iff_getElem]
      intro i j hi hj hij he
      rw [List.length_map] at hi hj
      rw [List.getElem_map, List.getElem_map] at he
      have := h.1 i j _ _ (List.getElem?_eq_getElem hi) (List.getElem?_eq_getElem hj) he
      omega
    · obtain ⟨k, hk⟩ := List.getElem?_of_mem hq
      exact h.2 k q hk
  · rintro ⟨h1, h2⟩
    refine ⟨?_, fun k q hk => h2 q (List.mem_of_getElem? hk)⟩
    rw [List.Nodup, List.pairwise_iff_getElem] at h1
    intro i j p q hi hj hpq
    obtain ⟨hi1, hi2⟩ := List.getElem?_eq_some_iff.mp hi
    obtain ⟨hj1, hj2⟩ := List.getElem?_eq_some_iff.mp hj
    rcases Nat.lt_trichotomy i j with h | h | h
    · exact absurd (by rw [List.getElem_map, List.getElem_map, hi2, hj2]; exact hpq) (h1 i j (by rw [List.length_map]; exact hi1) (by rw [List.length_map]; exact hj1) h)
    · exact h
    · exact absurd (by rw [List.getElem_map, List.getElem_map, hi2, hj2]; exact hpq.symm) (h1 j i (by rw [List.length_map]; exact hj1) (by rw [List.length_map]; exact hi1) h)
theorem Hx.perm {D : va_G} {A : Nat → Prop} {s : State} {H : Heap} {locs : List Loc} {ws ws' : va_W} (X : Hx D A s H locs ws) (h : ws'.Perm ws) : Hx D A s H locs ws' := by
  refine ⟨va_P_mem.mpr (fun q hq => va_P_mem.mp X.1 q (h.mem_iff.mp hq)), va_D_nd.mpr ?_, X.2.2⟩
  obtain ⟨h1, h2⟩ := va_D_nd.mp X.2.1
  exact ⟨(h.map Prod.fst).nodup_iff.mpr h1, fun q hq => h2 q (h.mem_iff.mp hq)⟩
theorem blk_perm {bs bs' : List va_W} (is : List Nat) (hp : is.isPerm (List.range bs.length) = true) (hs : is.map (fun i => bs[i]?) = bs'.map some) : bs'.Perm bs := by
  have h1 : (bs'.map some).Perm ((List.range bs.length).map (fun i => bs[i]?)) := by
    rw [← hs]
    exact (List.isPerm_iff.mp hp).map _
  have h2 : (List.range bs.length).map (fun i => bs[i]?) = bs.map some := by
    apply List.ext_getElem?
    intro i
    rw [List.getElem?_map, List.getElem?_map]
    by_cases h : i < bs.length
    · rw [List.getElem?_range h]
      show some (bs[i]?) = (bs[i]?).map some
      rw [List.getElem?_eq_getElem h]
      rfl
    · rw [List.getElem?_eq_none (by rw [List.length_range]; omega), List.getElem?_eq_none (l := bs) (by omega)]
      rfl
  rw [h2] at h1
  have h3 := h1.filterMap id
  have h4 : ∀ l : List va_W, (l.map some).filterMap id = l := fun l => by
    induction l with
    | nil => rfl
    | cons a t ih => show a :: (t.map some).filterMap id = a :: t; rw [ih]
  rw [h4, h4] at h3
  exact h3
theorem fl_perm {a b : List va_W} (h : a.Perm b) : a.flatten.Perm b.flatten := by
  induction h with
  | nil => exact List.Perm.refl _
  | cons x _ ih => exact List.Perm.append_left x ih
  | swap x y l =>
    show (y ++ (x ++ l.flatten)).Perm (x ++ (y ++ l.flatten))
    rw [← List.append_assoc, ← List.append_assoc]
    exact List.Perm.append_right _ List.perm_append_comm
  | trans _ _ h1 h2 => exact h1.trans h2
theorem Hx.blk {D : va_G} {A : Nat → Prop} {s : State} {H : Heap} {locs : List Loc} {bs bs' : List va_W} (X : Hx D A s H locs (bflat bs)) (is : List Nat) {nb : Nat} (hlen : bs.length = nb) (hp : is.isPerm (List.range nb) = true) (hs : is.map (fun i => bs[i]?) = bs'.map some) : Hx D A s H locs (bflat bs') := by
  subst hlen
  rw [bflat_fl] at X ⊢
  exact X.perm (fl_perm (blk_perm is hp hs))
theorem nd_of : ∀ l : List Nat, l.Nodup → va_nd l = true
  | [], _ => rfl
  | a :: l, h => by
    show (decide (a ∉ l) && va_nd l) = true
    rw [decide_eq_true (List.nodup_cons.mp h).1, nd_of l (List.nodup_cons.mp h).2]
    rfl
theorem spl_C (wc wr : va_W) : (List.range wc.length).map (fun i => (wc ++ wr)[i]?) = wc.map some := by
  apply List.ext_getElem?
  intro i
  rw [List.getElem?_map, List.getElem?_map]
  by_cases h : i < wc.length
  · rw [List.getElem?_range h]
    show some ((wc ++ wr)[i]?) = (wc[i]?).map some
    rw [List.getElem?_append_left h, List.getElem?_eq_getElem h]
    rfl
  · rw [List.getElem?_eq_none (by rw [List.length_range]; omega), List.getElem?_eq_none (l := wc) (by omega)]
    rfl
theorem spl_R (wc wr : va_W) : (List.range' wc.length wr.length).map (fun i => (wc ++ wr)[i]?) = wr.map some := by
  apply List.ext_getElem?
  intro i
  rw [List.getElem?_map, List.getElem?_map]
  by_cases h : i < wr.length
  · rw [List.getElem?_range' h]
    show some ((wc ++ wr)[wc.length + 1 * i]?) = (wr[i]?).map some
    rw [List.getElem?_append_right (by omega), show wc.length + 1 * i - wc.length = i by omega, List.getElem?_eq_getElem h]
    rfl
  · rw [List.getElem?_eq_none (by rw [List.length_range']; omega), List.getElem?_eq_none (l := wr) (by omega)]
    rfl
theorem spl_d (n k : Nat) : ((List.range' n k).all (fun i => !((List.range n).contains i))) = true := by
  rw [List.all_eq_true]
  intro i hi
  obtain ⟨j, hj, e⟩ := List.mem_range'.mp hi
  have h : ¬ i ∈ List.range n := fun q => by have := List.mem_range.mp q; omega
  rw [Bool.not_eq_true']
  cases hc : (List.range n).contains i with
  | false => rfl
  | true => exact absurd (List.contains_iff_mem.mp hc) h
theorem Hx.split {D : va_G} {A : Nat → Prop} {s : State} {H : Heap} {locs : List Loc} {bs cs rs : List va_W} (X : Hx D A s H locs (bflat bs)) (isC isR : List Nat) {nb : Nat} (hlen : bs.length = nb) (hp : (isC ++ isR).isPerm (List.range nb) = true) (hC : isC.map (fun i => bs[i]?) = cs.map some) (hR : isR.map (fun i => bs[i]?) = rs.map some) : Hx D A s H locs (bflat cs ++ bflat rs) := by
  rw [← bflat_app]
  exact X.blk (isC ++ isR) hlen hp (by rw [List.map_append, List.map_append, hC, hR])
theorem bfl_w {rs ds : List va_W} {w : va_W} (h : w = bflat ds) : bflat rs ++ w = bflat (rs ++ ds) := by rw [bflat_app, h]
section BK
variable {p : Program} {l : Launch} {e : Env} {R : Room} {s : State} {m : MethodId} {args : Array Value} {below : List Frame} {meth : Method} {c : Code} {H : Heap} {locs : List Loc} {cells slots : Nat} {Q : State → Prop}
variable {cc : ByteArray} {pc : Nat} {ls : Array Slot} {rest : List Value} {D : va_G} {A : Nat → Prop} {a : Nat} {TY : List (ClassId × FieldType)} {bs cs rs : List va_W} {own : String} {nL : Nat} {sK sV : Nat → Nat}
theorem b_callV {rm : Room} {y : MethodName} {bytes : ByteArray} {maxL : Nat} {ret : Option FieldType} {wc : va_W} {S : Type} {post : S → Prop} {out : S → Option Value} {w1 : S → va_W} {mc ms n index : Nat} {b : Addr} {As : List Value} (ds : S → List va_W) (C0 : Cx p s m args c cc own ls.size D TY) (X : Hx D A s H locs (bflat bs)) (hM : MX l y bytes maxL ret rm D TY (.ref b :: As) wc post out w1 mc ms) (cw : CW R own index y bytes maxL ret rm mc ms n) (hinst : Cond.instanceMethod y ∈ TB) (hsel : Cond.selects y.cls y y ∈ TB) (ci : Nat) {fs : List Value} {q : vw_C} (hrc : vwCl[ci]? = some q) (hre : wc[0]? = some (b, .inr (ci, fs))) (hrq : q.1 = y.cls) (hn : As.length = n) (isC isR : List Nat) {nb : Nat} (hlen : bs.length = nb) (hp : (isC ++ isR).isPerm (List.range nb) = true) (hC : isC.map (fun i => bs[i]?) = cs.map some) (hR : isR.map (fun i => bs[i]?) = rs.map some) (hwc : wc = bflat cs) (hw1 : ∀ u, w1 u = bflat (ds u)) (hWd : (rest.map fun v => v.category).sum ≤ 8) (hf : cells + mc ≤ R.cells ∧ slots + ms ≤ R.slots) (hdg : decode cc pc = .ok (.invokevirtual index, 3))
    (kk : ∀ (u : S) (H1 : Heap) (locs1 : List Loc), post u → Hx D A s H1 locs1 (bflat (rs ++ ds u)) → W p l e R s m args below meth c H1 locs1 (cells + mc) (slots + ms) Q (F0 m (pc + 3) ls ((out u).toList ++ rest))) : W p l e R s m args below meth c H locs cells slots Q (F0 m pc ls (As.reverse ++ .ref b :: rest)) := by
  have X2 := X.split isC isR hlen hp hC hR
  rw [← hwc] at X2
  have hl : 0 < wc.length := (List.getElem?_eq_some_iff.mp hre).1
  exact g_callV (wr := bflat rs) C0 X2 hM cw hinst hsel 0 ci hrc (by rw [List.getElem?_append_left hl]; exact hre) hrq hn (List.range wc.length) (List.range' wc.length (bflat rs).length) (spl_C _ _) (spl_R _ _) (nd_of _ List.nodup_range) (nd_of _ List.nodup_range') (spl_d _ _) hWd hf hdg (fun u H1 locs1 hp X => kk u H1 locs1 hp (X.to (bfl_w (hw1 u))))
theorem b_callVs {rm : Room} {y : MethodName} {bytes : ByteArray} {maxL : Nat} {ret : Option FieldType} {wc : va_W} {S : Type} {post : S → Prop} {out : S → Option Value} {w1 : S → va_W} {mc ms n index : Nat} {b : Addr} {As : List Value} (ds : S → List va_W) (C0 : Cx p s m args c cc own ls.size D TY) (S0 : SF sK sV A s s.heap) (X : Hx D A s H locs (bflat bs)) (hM : MS l y bytes maxL ret rm D TY sK sV (.ref b :: As) wc post out w1 mc ms) (cw : CW R own index y bytes maxL ret rm mc ms n) (hinst : Cond.instanceMethod y ∈ TB) (hsel : Cond.selects y.cls y y ∈ TB) (ci : Nat) {fs : List Value} {q : vw_C} (hrc : vwCl[ci]? = some q) (hre : wc[0]? = some (b, .inr (ci, fs))) (hrq : q.1 = y.cls) (hn : As.length = n) (isC isR : List Nat) {nb : Nat} (hlen : bs.length = nb) (hp : (isC ++ isR).isPerm (List.range nb) = true) (hC : isC.map (fun i => bs[i]?) = cs.map some) (hR : isR.map (fun i => bs[i]?) = rs.map some) (hwc : wc = bflat cs) (hw1 : ∀ u, w1 u = bflat (ds u)) (hWd : (rest.map fun v => v.category).sum ≤ 8) (hf : cells + mc ≤ R.cells ∧ slots + ms ≤ R.slots) (hdg : decode cc pc = .ok (.invokevirtual index, 3))
    (kk : ∀ (u : S) (H1 : Heap) (locs1 : List Loc), post u → Hx D A s H1 locs1 (bflat (rs ++ ds u)) → W p l e R s m args below meth c H1 locs1 (cells + mc) (slots + ms) Q (F0 m (pc + 3) ls ((out u).toList ++ rest))) : W p l e R s m args below meth c H locs cells slots Q (F0 m pc ls (As.reverse ++ .ref b :: rest)) := by
  have X2 := X.split isC isR hlen hp hC hR
  rw [← hwc] at X2
  have hl : 0 < wc.length := (List.getElem?_eq_some_iff.mp hre).1
  exact g_callVs (wr := bflat rs) C0 S0 X2 hM cw hinst hsel 0 ci hrc (by rw [List.getElem?_append_left hl]; exact hre) hrq hn (List.range wc.length) (List.range' wc.length (bflat rs).length) (spl_C _ _) (spl_R _ _) (nd_of _ List.nodup_range) (nd_of _ List.nodup_range') (spl_d _ _) hWd hf hdg (fun u H1 locs1 hp X => kk u H1 locs1 hp (X.to (bfl_w (hw1 u))))
theorem b_callI {rm : Room} {y : MethodName} {bytes : ByteArray} {maxL : Nat} {wc : va_W} {S : Type} {post : S → Prop} {out : S → Option Value} {w1 : S → va_W} {mc ms n index : Nat} {b : Addr} {As : List Value} (ds : S → List va_W) (C0 : Cx p s m args c cc own ls.size D TY) (X : Hx D A s H locs (bflat bs)) (hM : MX l y bytes maxL none rm D TY (.ref b :: As) wc post out w1 mc ms) (cw : CW R own index y bytes maxL none rm mc ms n) (hinst : Cond.instanceMethod y ∈ TB) (hy1 : y.name = "<init>") (hn : As.length = n) (isC isR : List Nat) {nb : Nat} (hlen : bs.length = nb) (hp : (isC ++ isR).isPerm (List.range nb) = true) (hC : isC.map (fun i => bs[i]?) = cs.map some) (hR : isR.map (fun i => bs[i]?) = rs.map some) (hwc : wc = bflat cs) (hw1 : ∀ u, w1 u = bflat (ds u)) (hWd : (rest.map fun v => v.category).sum ≤ 8) (hf : cells + mc ≤ R.cells ∧ slots + ms ≤ R.slots) (hdg : decode cc pc = .ok (.invokespecial index, 3))
    (kk : ∀ (u : S) (H1 : Heap) (locs1 : List Loc), post u → Hx D A s H1 locs1 (bflat (rs ++ ds u)) → W p l e R s m args below meth c H1 locs1 (cells + mc) (slots + ms) Q (F0 m (pc + 3) ls ((out u).toList ++ rest))) : W p l e R s m args below meth c H locs cells slots Q (F0 m pc ls (As.reverse ++ .ref b :: rest)) := by
  have X2 := X.split isC isR hlen hp hC hR
  rw [← hwc] at X2
  exact g_callI (wr := bflat rs) C0 X2 hM cw hinst hy1 hn (List.range wc.length) (List.range' wc.length (bflat rs).length) (spl_C _ _) (spl_R _ _) (nd_of _ List.nodup_range) (nd_of _ List.nodup_range') (spl_d _ _) hWd hf hdg (fun u H1 locs1 hp X => kk u H1 locs1 hp (X.to (bfl_w (hw1 u))))
theorem b_callIN {rm : Room} {y : MethodName} {bytes : ByteArray} {maxL : Nat} {wc : va_W} {S : Type} {post : S → Prop} {out : S → Option Value} {w1 : S → va_W} {mc ms n index : Nat} {host : String} {b : Addr} {As : List Value} (ds : S → List va_W) (C0 : Cx p s m args c cc own ls.size D TY) (X : Hx D A s H locs (bflat bs)) (hM : MX l y bytes maxL none rm D TY (.ref b :: As) wc post out w1 mc ms) (cw : CWN R own host index y bytes maxL none rm mc ms n) (hinst : Cond.instanceMethod y ∈ TB) (hy1 : y.name = "<init>") (hn : As.length = n) (isC isR : List Nat) {nb : Nat} (hlen : bs.length = nb) (hp : (isC ++ isR).isPerm (List.range nb) = true) (hC : isC.map (fun i => bs[i]?) = cs.map some) (hR : isR.map (fun i => bs[i]?) = rs.map some) (hwc : wc = bflat cs) (hw1 : ∀ u, w1 u = bflat (ds u)) (hWd : (rest.map fun v => v.category).sum ≤ 8) (hf : cells + mc ≤ R.cells ∧ slots + ms ≤ R.slots) (hdg : decode cc pc = .ok (.invokespecial index, 3))
    (kk : ∀ (u : S) (H1 : Heap) (locs1 : List Loc), post u → Hx D A s H1 locs1 (bflat (rs ++ ds u)) → W p l e R s m args below meth c H1 locs1 (cells + mc) (slots + ms) Q (F0 m (pc + 3) ls ((out u).toList ++ rest))) : W p l e R s m args below meth c H locs cells slots Q (F0 m pc ls (As.reverse ++ .ref b :: rest)) := by
  have X2 := X.split isC isR hlen hp hC hR
  rw [← hwc] at X2
  exact g_callIN (wr := bflat rs) C0 X2 hM cw hinst hy1 hn (List.range wc.length) (List.range' wc.length (bflat rs).length) (spl_C _ _) (spl_R _ _) (nd_of _ List.nodup_range) (nd_of _ List.nodup_range') (spl_d _ _) hWd hf hdg (fun u H1 locs1 hp X => kk u H1 locs1 hp (X.to (bfl_w (hw1 u))))
end BK
