/-! what the launch gives: classes of arrays -/
section Given
variable {args : Array Value} {s : State}
theorem gv_i (h : (Cond.arrayClass .int).before args s = true) : ∃ cA : ClassId, ArrOfT s cA .int ∧ va_RA s cA .int := by
  obtain ⟨cA, kA, comp, h1, h2, h3⟩ := Cond.arrayClass_spec h
  exact ⟨cA, fun n z => ⟨fun k h => (by cases h), kA, h2, comp, h3⟩, h1⟩
theorem gv_b (h : (Cond.arrayClass .byte).before args s = true) : ∃ cA : ClassId, ArrOfT s cA .byte ∧ va_RA s cA .byte := by
  obtain ⟨cA, kA, comp, h1, h2, h3⟩ := Cond.arrayClass_spec h
  exact ⟨cA, fun n z => ⟨fun k h => (by cases h), kA, h2, comp, h3⟩, h1⟩
theorem gv_l (h : (Cond.arrayClass .long).before args s = true) : ∃ cA : ClassId, ArrOfT s cA .long ∧ va_RA s cA .long := by
  obtain ⟨cA, kA, comp, h1, h2, h3⟩ := Cond.arrayClass_spec h
  exact ⟨cA, fun n z => ⟨fun k h => (by cases h), kA, h2, comp, h3⟩, h1⟩
theorem gv_q {C : String} (h : (Cond.arrayOver (.object C)).before args s = true) : ∃ cA : ClassId, ArrOfT s cA (.object C) ∧ va_RA s cA (.object C) := by
  obtain ⟨comp, cA, kA, h1, h2, h3, h4, h5⟩ := Cond.arrayOver_spec h
  exact ⟨cA, fun n z => ⟨fun k h => (by cases h), kA, h3, comp, h4⟩, kA, comp, h3, h4, h1, h5⟩
/-- classes of arrays, by their numbers -/
theorem gv_T (hi : (Cond.arrayClass .int).before args s = true) (hb : (Cond.arrayClass .byte).before args s = true) (hl : (Cond.arrayClass .long).before args s = true) (hm : (Cond.arrayOver (.object "NestedBells$Machine")).before args s = true) (hs : (Cond.arrayOver (.object "NestedBells$Section")).before args s = true) (hq : (Cond.arrayOver (.object "NestedBells$Source")).before args s = true) : (∃ T : Nat → ClassId, ∀ (k : Nat) (q : ClassId × FieldType), (tyL T)[k]? = some q → ArrOfT s q.1 q.2 ∧ va_RA s q.1 q.2) ∧ aO s := by
  obtain ⟨c0, e0⟩ := gv_b hb
  obtain ⟨c1, e1⟩ := gv_i hi
  obtain ⟨c2, e2⟩ := gv_l hl
  obtain ⟨c3, e3⟩ := gv_q hm
  obtain ⟨c4, e4⟩ := gv_q hs
  obtain ⟨c5, e5⟩ := gv_q hq
  refine ⟨⟨fun k => [c0, c1, c2, c3, c4, c5].getD k c0, fun k q hk => ?_⟩, va_AO.of hq, va_AO.of hs, va_AO.of hm⟩
  match k, hk with
  | 0, hk => cases hk; exact e0
  | 1, hk => cases hk; exact e1
  | 2, hk => cases hk; exact e2
  | 3, hk => cases hk; exact e3
  | 4, hk => cases hk; exact e4
  | 5, hk => cases hk; exact e5
  | n + 6, hk => cases hk
theorem gv_D (hts : ∀ w ∈ AW, w.before args s = true) : ∃ D : va_G, ∀ (c : Nat) (q : vw_C), vwCl[c]? = some q → u_Kn s q.1 q.2.1 q.2.2 (D.1 c) (D.2 c) := by
  obtain ⟨c0, i0, k0⟩ := u_known (C := RX2) (T := TX2) (N := 6) hts iX2 (hts _ q_1_228)
  obtain ⟨c1, i1, k1⟩ := u_known (C := RX3) (T := TX3) (N := 5) hts iX3 (hts _ q_1_41)
  obtain ⟨c2, i2, k2⟩ := u_known (C := RX4) (T := TX4) (N := 3) hts iX4 (hts _ q_1_208)
  obtain ⟨c3, i3, k3⟩ := u_known (C := RX5) (T := TX5) (N := 11) hts iX5 (hts _ q_1_33)
  obtain ⟨c4, i4, k4⟩ := u_known (C := RX6) (T := TX6) (N := 3) hts iX6 (hts _ q_1_71)
  obtain ⟨c5, i5, k5⟩ := u_known (C := RX7) (T := TX7) (N := 20) hts iX7 (hts _ q_1_64)
  obtain ⟨c6, i6, k6⟩ := u_known (C := RX8) (T := TX8) (N := 5) hts iX8 (hts _ q_1_25)
  obtain ⟨c7, i7, k7⟩ := u_known (C := RX9) (T := TX9) (N := 12) hts iX9 (hts _ q_4_207)
  refine ⟨(fun k => [c0, c1, c2, c3, c4, c5, c6, c7].getD k c0, fun k => [i0, i1, i2, i3, i4, i5, i6, i7].getD k i0), fun c q hk => ?_⟩
  match c, hk with
  | 0, hk => cases hk; exact k0
  | 1, hk => cases hk; exact k1
  | 2, hk => cases hk; exact k2
  | 3, hk => cases hk; exact k3
  | 4, hk => cases hk; exact k4
  | 5, hk => cases hk; exact k5
  | 6, hk => cases hk; exact k6
  | 7, hk => cases hk; exact k7
  | n + 8, hk => cases hk
end Given
theorem tb_1 {w : Cond} (h : w ∈ tables_1_1) : w ∈ lw_tbl := List.mem_append_right _ (show w ∈ tables_1 from List.mem_append_left _ h)
theorem tb_3 {w : Cond} (h : w ∈ tables_1_3) : w ∈ lw_tbl := List.mem_append_right _ (show w ∈ tables_1 from List.mem_append_right _ (List.mem_append_right _ (List.mem_append_left _ h)))
set_option maxRecDepth 100000 in
theorem gv_tb : ∀ w ∈ tB, w ∈ lw_tbl := List.forall_mem_cons.mpr ⟨tb_3 (List.mem_of_getElem? (i := 136) rfl), List.forall_mem_cons.mpr ⟨tb_3 (List.mem_of_getElem? (i := 138) rfl), List.forall_mem_cons.mpr ⟨tb_3 (List.mem_of_getElem? (i := 140) rfl), List.forall_mem_cons.mpr ⟨tb_3 (List.mem_of_getElem? (i := 134) rfl), List.forall_mem_cons.mpr ⟨tb_3 (List.mem_of_getElem? (i := 201) rfl), List.forall_mem_cons.mpr ⟨tb_3 (List.mem_of_getElem? (i := 217) rfl), fun _ h => absurd h List.not_mem_nil⟩⟩⟩⟩⟩⟩
theorem gv_tW {args : Array Value} {s : State} (hts : ∀ w ∈ lw_tbl, w.before args s = true) : tW s := fun w hw => va_Nw.of (tB_ot hw) (hts w (gv_tb w hw))
theorem gv_AW {args : Array Value} {s : State} (hts : ∀ w ∈ lw_tbl, w.before args s = true) : ∀ w ∈ AW, w.before args s = true := fun w hw => hts w (List.mem_filter.mp hw).1
set_option maxRecDepth 100000 in
theorem gv_K {args : Array Value} {s : State} (hts : ∀ w ∈ lw_tbl, w.before args s = true) : (∃ (D : va_G) (T : Nat → ClassId), va_K D vwCl (tyL T) s) ∧ aO s := by
  obtain ⟨⟨T, hT⟩, hO⟩ := gv_T (s := s) (gv_AW hts _ q_1_63) (gv_AW hts _ q_2_17) (gv_AW hts _ q_6_102) (hts _ (tb_1 (List.mem_of_getElem? (i := 214) rfl))) (hts _ (tb_1 (List.mem_of_getElem? (i := 70) rfl))) (hts _ (tb_1 (List.mem_of_getElem? (i := 39) rfl)))
  obtain ⟨D, hD⟩ := gv_D (gv_AW hts)
  exact ⟨⟨D, T, hD, hT⟩, hO⟩
/-- what is given of the launch's objects, one by one -/
abbrev gvW : List Cond := flatC (Jvm.Cond.and given_1 narrow_1)
set_option maxRecDepth 100000 in
theorem gv_N {args : Array Value} {s : State} (h : ∀ w ∈ gvW, w.before args s = true) : nCs s := ⟨va_Nc.of (h _ (List.mem_of_getElem? (i := 140) rfl)), va_Nc.of (h _ (List.mem_of_getElem? (i := 141) rfl)), va_Nc.of (h _ (List.mem_of_getElem? (i := 119) rfl))⟩
theorem tb_2 {w : Cond} (h : w ∈ tables_1_2) : w ∈ lw_tbl := List.mem_append_right _ (show w ∈ tables_1 from List.mem_append_right _ (List.mem_append_left _ h))
set_option maxRecDepth 100000 in
/-- calls of nest mates -/
theorem gv_nest {args : Array Value} {s : State} (hts : ∀ w ∈ lw_tbl, w.before args s = true) : va_Nw (.methodLinkNest "NestedBells$Machine" 48 ⟨"NestedBells$EventLog", "<init>", "()V"⟩ "NestedBells") s ∧ va_Nw (.methodLinkNest "NestedBells$Source" 76 ⟨"NestedBells$Section", "<init>", "()V"⟩ "NestedBells") s ∧ va_Nw (.methodLinkNest "NestedBells" 28 ⟨"NestedBells$CommandText", "<init>", "()V"⟩ "NestedBells") s ∧ va_Nw (.methodLinkNest "NestedBells$Machine" 67 ⟨"NestedBells", "isWithin", "(III)Z"⟩ "NestedBells") s :=
  ⟨va_Nw.of rfl (hts _ (tb_1 (List.mem_of_getElem? (i := 42) rfl))), va_Nw.of rfl (hts _ (tb_1 (List.mem_of_getElem? (i := 72) rfl))), va_Nw.of rfl (hts _ (tb_1 (List.mem_of_getElem? (i := 229) rfl))), va_Nw.of rfl (hts _ (tb_2 (List.mem_of_getElem? (i := 174) rfl)))⟩
