/-! what the start of the law gives -/
theorem st_kn {s : State} {args : Array Value} (htb : ∀ w ∈ TB, w.before args s = true) : ∃ D : va_G, ∀ (c : Nat) (q : vw_C), vwCl[c]? = some q → u_Kn s q.1 q.2.1 q.2.2 (D.1 c) (D.2 c) := by
  have h : ∀ k : Nat, ∃ p : ClassId × (Nat → Nat), ∀ q : vw_C, vwCl[k]? = some q → u_Kn s q.1 q.2.1 q.2.2 p.1 p.2 := by
    intro k
    match k with
    | 0 => obtain ⟨c, j, h⟩ := u_known (C := RX0) (T := TX0) (N := 2) (n := 2) htb kX0_l (htb _ tb94); exact ⟨(c, j), fun q hq => by cases hq; exact h⟩
    | 1 => obtain ⟨c, j, h⟩ := u_known (C := RX1) (T := TX1) (N := 14) (n := 14) htb kX1_l (htb _ tb26); exact ⟨(c, j), fun q hq => by cases hq; exact h⟩
    | 2 => obtain ⟨c, j, h⟩ := u_known (C := RX2) (T := TX2) (N := 8) (n := 8) htb kX2_l (htb _ tb108); exact ⟨(c, j), fun q hq => by cases hq; exact h⟩
    | 3 => obtain ⟨c, j, h⟩ := u_known (C := RX3) (T := TX3) (N := 3) (n := 3) htb kX3_l (htb _ tb183); exact ⟨(c, j), fun q hq => by cases hq; exact h⟩
    | 4 => obtain ⟨c, j, h⟩ := u_known (C := RX4) (T := TX4) (N := 4) (n := 4) htb kX4_l (htb _ tb162); exact ⟨(c, j), fun q hq => by cases hq; exact h⟩
    | 5 => obtain ⟨c, j, h⟩ := u_known (C := RX5) (T := TX5) (N := 2) (n := 2) htb kX5_l (htb _ tb114); exact ⟨(c, j), fun q hq => by cases hq; exact h⟩
    | 6 => obtain ⟨c, j, h⟩ := u_known (C := RX6) (T := TX6) (N := 9) (n := 9) htb kX6_l (htb _ tb18); exact ⟨(c, j), fun q hq => by cases hq; exact h⟩
    | 7 => obtain ⟨c, j, h⟩ := u_known (C := RX7) (T := TX7) (N := 27) (n := 27) htb kX7_l (htb _ tb792); exact ⟨(c, j), fun q hq => by cases hq; exact h⟩
    | k + 8 => exact ⟨(0, fun _ => 0), fun q hq => absurd (List.getElem?_eq_some_iff.mp hq).1 (by simp)⟩
  obtain ⟨f, hf⟩ := Classical.axiomOfChoice h
  exact ⟨(fun k => (f k).1, fun k => (f k).2), fun c q hq => hf c q hq⟩
theorem st_arr {s : State} {args : Array Value} {ty : FieldType} (h : (Cond.arrayClass ty).before args s = true) (hn : va_RA s = va_RA s) (hty : ∀ C, ty ≠ .object C) : ∃ cA : ClassId, ArrOfT s cA ty ∧ va_RA s cA ty := by
  obtain ⟨c, k, comp, h1, h2, h3⟩ := Cond.arrayClass_spec h
  refine ⟨c, fun N z => ⟨(fun k h => by cases h), k, h2, comp, h3⟩, ?_⟩
  cases ty with
  | object C => exact absurd rfl (hty C)
  | _ => exact h1
theorem st_over {s : State} {args : Array Value} {C : String} (h : (Cond.arrayOver (.object C)).before args s = true) : ∃ cA : ClassId, ArrOfT s cA (.object C) ∧ va_RA s cA (.object C) := by
  obtain ⟨comp, cA, kA, h1, h2, h3, h4, h5⟩ := Cond.arrayOver_spec h
  exact ⟨cA, fun N z => ⟨(fun k h => by cases h), kA, h3, comp, h4⟩, kA, comp, h3, h4, h1, h5⟩
theorem ml_1 {w : Cond} (h : w ∈ tables_1_1) : w ∈ lw_tbl := List.mem_append_right _ (List.mem_append_left _ h)
theorem ml_2 {w : Cond} (h : w ∈ tables_1_2) : w ∈ lw_tbl := List.mem_append_right _ (List.mem_append_right _ (List.mem_append_left _ h))
theorem st_tk {b : Nat} {s : State} (hts : ∀ w ∈ lw_tbl, w.before #[Value.ref b] s = true) : (∃ tk : Nat → ClassId, ∀ (k : Nat) (q : ClassId × FieldType), (TYS tk)[k]? = some q → ArrOfT s q.1 q.2 ∧ va_RA s q.1 q.2) ∧ AO2 s := by
  have htb : ∀ w ∈ TB, w.before #[Value.ref b] s = true := fun w hw => hts w (List.mem_filter.mp hw).1
  have o3 := hts (Cond.arrayOver (.object "AspenLine$Grove")) (ml_1 (List.mem_of_getElem? (i := 92) rfl))
  have o4 := hts (Cond.arrayOver (.object "AspenLine$Sheet")) (ml_1 (List.mem_of_getElem? (i := 182) rfl))
  obtain ⟨c0, h0⟩ := st_arr (htb _ tb91) rfl (fun C h => by cases h)
  obtain ⟨c1, h1⟩ := st_arr (htb _ tb129) rfl (fun C h => by cases h)
  obtain ⟨c2, h2⟩ := st_arr (htb _ tb879) rfl (fun C h => by cases h)
  obtain ⟨c3, h3⟩ := st_over o3
  obtain ⟨c4, h4⟩ := st_over o4
  refine ⟨⟨fun k => if k = 0 then c0 else if k = 1 then c1 else if k = 2 then c2 else if k = 3 then c3 else c4, fun k q hq => ?_⟩, va_AO.of o3, va_AO.of o4⟩
  match k, hq with
  | 0, hq => cases hq; exact h0
  | 1, hq => cases hq; exact h1
  | 2, hq => cases hq; exact h2
  | 3, hq => cases hq; exact h3
  | 4, hq => cases hq; exact h4
  | k + 5, hq => exact absurd (List.getElem?_eq_some_iff.mp hq).1 (by simp)
def stT (i : Nat) : Term := Term.string "AspenLine$Reader" (strIx.getD i 0)
abbrev stF : List Cond := flatC (Jvm.Cond.and given_1 narrow_1)
theorem sx_ex : ∀ i, i < 7 → Cond.exactly (stT i) "java/lang/String" ∈ stF := by decide +kernel
theorem sx_co : ∀ i, i < 7 → Cond.eq (.field (stT i) "java/lang/String" "coder" "B") (.int 0) ∈ stF := by decide +kernel
theorem sx_ar : ∀ i, i < 7 → Cond.arrayOf (.field (stT i) "java/lang/String" "value" "[B") .byte ∈ stF := by decide +kernel
theorem sx_le : ∀ i, i < 7 → Cond.eq (.length (.field (stT i) "java/lang/String" "value" "[B")) (.int (Int32.ofNat (strLen.getD i 0))) ∈ stF := by decide +kernel
theorem sx_el : ∀ i, i < 7 → ∀ j, j < strLen.getD i 0 → Cond.eq (.elem (.field (stT i) "java/lang/String" "value" "[B") (.int (Int32.ofNat j))) (.int ((strB.getD i []).getD j 0)) ∈ stF := by decide +kernel
theorem sx_ne : ∀ i, i < 7 → ∀ j, j < 7 → i ≠ j → (Cond.not (Cond.eq (stT i) (stT j)) ∈ stF ∨ Cond.not (Cond.eq (stT j) (stT i)) ∈ stF) := by decide +kernel
theorem sx_cs : Cond.eq (.static "java/lang/String" "COMPACT_STRINGS" "Z") (.int 1) ∈ stF := by decide +kernel
theorem sx_ic : Cond.initialized "java/lang/String" ∈ lw_tbl ∧ Cond.initialized "jdk/internal/util/Preconditions" ∈ lw_tbl := by decide +kernel
theorem sx_fm : Cond.isRef (.static "jdk/internal/util/Preconditions" "SIOOBE_FORMATTER" "Ljava/util/function/BiFunction;") ∈ stF := by decide +kernel
theorem sx_sr : ∀ i, i < 7 → Cond.stringRef "AspenLine$Reader" (strIx.getD i 0) (strTx.getD i "") ∈ lw_tbl := by
  intro i hi
  rcases (show i = 0 ∨ i = 1 ∨ i = 2 ∨ i = 3 ∨ i = 4 ∨ i = 5 ∨ i = 6 by omega) with rfl | rfl | rfl | rfl | rfl | rfl | rfl
  · exact ml_2 (List.mem_of_getElem? (i := 39) rfl)
  · exact ml_2 (List.mem_of_getElem? (i := 108) rfl)
  · exact ml_2 (List.mem_of_getElem? (i := 109) rfl)
  · exact ml_2 (List.mem_of_getElem? (i := 110) rfl)
  · exact ml_2 (List.mem_of_getElem? (i := 111) rfl)
  · exact ml_2 (List.mem_of_getElem? (i := 129) rfl)
  · exact ml_2 (List.mem_of_getElem? (i := 134) rfl)
theorem st_SF {b : Nat} {s : State} {A : Nat → Prop} (hts : ∀ w ∈ lw_tbl, w.before #[Value.ref b] s = true) (hgv : (Jvm.Cond.and given_1 narrow_1).before #[Value.ref b] s = true) (hA : ∀ a : Nat, a < s.heap.size → ¬ A a) : ∃ sK sV : Nat → Nat, SF sK sV A s s.heap := by
  have hf : ∀ w ∈ stF, w.before #[Value.ref b] s = true := flat_of_before _ hgv
  obtain ⟨sK, sV, h1, h2⟩ := vk_Sof (N := 7) (tm := stT) (len := strLen) (byt := strB) (A := A) (fun i hi => Nat.lt_of_le_of_lt (str_len i hi).2 (by decide)) (fun i hi => hf _ (sx_ex i hi)) (fun i hi => hf _ (sx_co i hi)) (fun i hi => hf _ (sx_ar i hi)) (fun i hi => hf _ (sx_le i hi)) (fun i hi j hj => hf _ (sx_el i hi j hj)) (fun i j hi hj h => (sx_ne i hi j hj h).imp (hf _) (hf _)) hA
  refine ⟨sK, sV, h1, ?_, ?_, fun i hi => vk_R.of (hts _ (sx_sr i hi)) (h2 i hi)⟩
  · exact va_Zof (hts _ (ml_2 (List.mem_of_getElem? (i := 53) rfl))) (hts _ sx_ic.1) (va_eqi (hf _ sx_cs)) hA
  · exact va_Zqof (hts _ (ml_2 (List.mem_of_getElem? (i := 69) rfl))) (hts _ sx_ic.2) (hf _ sx_fm) hA
