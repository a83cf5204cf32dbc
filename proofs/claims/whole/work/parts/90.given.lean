/-! what the launch gives: classes of arrays -/
section Given
variable {args : Array Value} {s : State}
theorem gv_i (h : (Cond.arrayClass .int).before args s = true) : ∃ cA : ClassId, ArrOfT s cA .int ∧ va_RA s cA .int := by
  obtain ⟨cA, kA, comp, h1, h2, h3⟩ := Cond.arrayClass_spec h
  exact ⟨cA, fun n z => ⟨fun k h => (by cases h), kA, h2, comp, h3⟩, h1⟩
theorem gv_b (h : (Cond.arrayClass .byte).before args s = true) : ∃ cA : ClassId, ArrOfT s cA .byte ∧ va_RA s cA .byte := by
  obtain ⟨cA, kA, comp, h1, h2, h3⟩ := Cond.arrayClass_spec h
  exact ⟨cA, fun n z => ⟨fun k h => (by cases h), kA, h2, comp, h3⟩, h1⟩
theorem gv_l (h : (Cond.arrayClass .long).before args s = true) : ∃ cA : ClassId, ArrOfT s cA .long ∧ va_RA s cA .long := by
  obtain ⟨cA, kA, comp, h1, h2, h3⟩ := Cond.arrayClass_spec h
  exact ⟨cA, fun n z => ⟨fun k h => (by cases h), kA, h2, comp, h3⟩, h1⟩
theorem gv_q {C : String} (h : (Cond.arrayOver (.object C)).before args s = true) : ∃ cA : ClassId, ArrOfT s cA (.object C) ∧ va_RA s cA (.object C) := by
  obtain ⟨comp, cA, kA, h1, h2, h3, h4, h5⟩ := Cond.arrayOver_spec h
  exact ⟨cA, fun n z => ⟨fun k h => (by cases h), kA, h3, comp, h4⟩, kA, comp, h3, h4, h1, h5⟩
/-- classes of arrays, by their numbers -/
theorem gv_T (hi : (Cond.arrayClass .int).before args s = true) (hb : (Cond.arrayClass .byte).before args s = true) (hl : (Cond.arrayClass .long).before args s = true) (hm : (Cond.arrayOver (.object "NestedBells$Machine")).before args s = true) (hs : (Cond.arrayOver (.object "NestedBells$Section")).before args s = true) (hq : (Cond.arrayOver (.object "NestedBells$Source")).before args s = true) : (∃ T : Nat → ClassId, ∀ (k : Nat) (q : ClassId × FieldType), (tyL T)[k]? = some q → ArrOfT s q.1 q.2 ∧ va_RA s q.1 q.2) ∧ aO s := by
  obtain ⟨c0, e0⟩ := gv_b hb
  obtain ⟨c1, e1⟩ := gv_i hi
  obtain ⟨c2, e2⟩ := gv_l hl
  obtain ⟨c3, e3⟩ := gv_q hm
  obtain ⟨c4, e4⟩ := gv_q hs
  obtain ⟨c5, e5⟩ := gv_q hq
  refine ⟨⟨fun k => [c0, c1, c2, c3, c4, c5].getD k c0, fun k q hk => ?_⟩, va_AO.of hq, va_AO.of hs, va_AO.of hm⟩
  match k, hk with
  | 0, hk => cases hk; exact e0
  | 1, hk => cases hk; exact e1
  | 2, hk => cases hk; exact e2
  | 3, hk => cases hk; exact e3
  | 4, hk => cases hk; exact e4
  | 5, hk => cases hk; exact e5
  | n + 6, hk => cases hk
end Given
