/-! the object and the reference when they are made -/
def mu0 (a b : Nat) : Int32 := if a = 0 then (if b = 8 then -1 else 0) else if a = 1 then (if b = 1 then 12 else if b = 2 then 10 else if b = 3 then 6 else 0) else if 9 ≤ a ∧ a < 21 then frv b else 0
def be0 : St := fun k b => if k = 3 then (if b = 3 then -1 else if b = 4 then 8 else 0) else if k < 6 then 0 else mu0 ((k - 6) % 57) b
def de0 : St := fun k b => if k = 1 then (if b = 2 then 12 else if b = 3 then 10 else if b = 4 then 6 else if b = 6 then -1 else 0) else 0
theorem be0_M {q a : Nat} (ha : a < 57) : be0 (gmM q a) = mu0 a := by
  funext b
  unfold be0 gmM
  rw [if_neg (by omega), if_neg (by omega), show (6 + 57 * q + a - 6) % 57 = a by omega]
theorem mu0_RM : RM 0 0 0 0 mu0 (de0 1) := by
  refine ⟨by decide, ⟨rfl, rfl, rfl⟩, fun j hj h => ?_, ⟨⟨0, by decide, rfl⟩, ?_⟩, fun i hi => absurd hi (by omega), ⟨fun k hk => absurd hk (by omega), fun j k _ hk => absurd hk (by omega), fun i hi => absurd hi (by omega)⟩, fun i _ hi => ?_, ⟨?_, fun i hi => absurd hi (by omega)⟩, Or.inl rfl, fun h => ?_⟩
  · have h93 : j < 93 := by
      by_cases c : j < 93
      · exact c
      · exact absurd (h (by omega)) (by omega)
    have key : ∀ j, j < 93 → (de0 1 j = zz (cv j).1 (cv j).2 (mu0 (cv j).1 (cv j).2) ∨ ¬ cok j) := by decide +kernel
    exact (key j h93).resolve_right (fun q => q hj)
  · decide +kernel
  · constructor
    · intro b _
      unfold mu0
      rw [if_neg (by omega), if_neg (by omega), if_pos (by omega)]
    · intro j b _ _
      unfold mu0
      rw [if_neg (by omega), if_neg (by omega), if_neg (by omega)]
  · decide +kernel
  · rcases h with h | h <;> exact absurd h (by decide)
theorem RBg_0 : RBg 0 be0 de0 := by
  refine ⟨⟨0, 0, 0, mu0_RM.mcong (fun a b ha => ?_), fun h => absurd rfl h⟩, ⟨0, 0, by decide, by decide, rfl, rfl, rfl, fun j hj => absurd hj (by omega)⟩, ⟨⟨0, by decide, rfl, rfl⟩, fun k _ => ⟨rfl, (show 0 ≤ (0 : Int32).toInt ∧ (0 : Int32).toInt ≤ 127 by decide)⟩, fun k _ => rfl⟩, rfl⟩
  show be0 (gmM 0 a) b = mu0 a b
  rw [be0_M ha]
theorem be0_C {q : Nat} : InvC (sb (gmM q) be0) := by
  have e : ∀ a b, a < 57 → sb (gmM q) be0 a b = mu0 a b := fun a b ha => by
    show be0 (gmM q a) b = mu0 a b
    rw [be0_M ha]
  refine ⟨by rw [e _ _ (by decide)]; decide, by rw [e _ _ (by decide)]; decide, by rw [e _ _ (by decide)]; decide, by rw [e _ _ (by decide)]; decide, fun i hi => ?_⟩
  rw [e _ _ (by omega)]
  have key : ∀ i, i < 12 → 0 ≤ (mu0 (9 + i) 18).toInt ∧ (mu0 (9 + i) 18).toInt ≤ 2 := by decide +kernel
  exact key i hi
theorem be0_B : InvB be0 := ⟨by decide, by decide, ⟨by decide, by decide⟩, fun q _ => be0_C⟩
