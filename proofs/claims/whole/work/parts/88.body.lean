/-! the law's body from its entry, all but what the launch gives -/
theorem InvR_0 {ρ : Nat → Int32} (h8 : ρ 8 = 0) (h9 : ρ 9 = 0) (h22 : ρ 22 = 0) (h5 : ρ 5 = 0) (h : ∀ s, s < 12 → ρ (100 + 24 * s) = 0) : InvR ρ := by
  have z : (0 : Int32).toInt = 0 := rfl
  refine ⟨by rw [h8]; decide, by rw [h9]; decide, by rw [h22]; decide, fun k hk => ?_, fun j k _ hk => ?_, fun q => ?_, fun s hs => by rw [h s hs]; decide⟩
  · rw [h9, z] at hk; omega
  · rw [h9, z] at hk; omega
  · rw [h5] at q
    rcases q with q | q <;> exact absurd q (by decide)
theorem de0_D : InvD de0 := by
  refine ⟨InvR_0 rfl rfl rfl rfl (fun s hs => ?_), InvR_0 rfl rfl rfl rfl (fun s hs => rfl), fun q _ => InvR_0 rfl rfl rfl rfl (fun s hs => rfl), by decide, by decide, by decide⟩
  show (if 100 + 24 * s = 2 then (12 : Int32) else if 100 + 24 * s = 3 then 10 else if 100 + 24 * s = 4 then 6 else if 100 + 24 * s = 6 then -1 else 0) = 0
  rw [if_neg (by omega), if_neg (by omega), if_neg (by omega), if_neg (by omega)]
theorem d9_de0 : d9 = de0 1 := by
  funext j
  unfold d9
  show _ = (if j = 2 then (12 : Int32) else if j = 3 then 10 else if j = 4 then 6 else if j = 6 then -1 else 0)
  by_cases h6 : j = 6
  · subst h6; rfl
  · by_cases h4 : j = 4
    · subst h4; rfl
    · by_cases h3 : j = 3
      · subst h3; rfl
      · by_cases h2 : j = 2
        · subst h2; rfl
        · rw [upd_n h6, upd_n h4, upd_n h3, upd_n h2, if_neg h2, if_neg h3, if_neg h4, if_neg h6]
theorem bE_cong {g : Nat → Nat} {T : Nat → ClassId} {ad ad' : Nat → Nat} {k : Nat} {r : Nat → Int32} (hk : k < 405) (h : ∀ x, x < 405 → ad x = ad' x) : bE g T ad k r = bE g T ad' k r := by
  by_cases h6 : k < 6
  · have h2 : k = 0 ∨ k = 1 ∨ k = 2 ∨ k = 3 ∨ k = 4 ∨ k = 5 := by omega
    rcases h2 with rfl | rfl | rfl | rfl | rfl | rfl
    · show Sum.inr (6, nbE ad r) = Sum.inr (6, nbE ad' r)
      unfold nbE
      rw [h 6 (by decide), h 63 (by decide), h 1 (by decide), h 3 (by decide)]
    · show Sum.inr (2, hisE ad r) = Sum.inr (2, hisE ad' r)
      unfold hisE
      rw [h 2 (by decide)]
    · show (Sum.inl (T 3, 5, .inr (.inr (.inr (.inr (trn 5 (fun i => ad (6 + 57 * (2 + i)))))))) : va_E) = Sum.inl (T 3, 5, .inr (.inr (.inr (.inr (trn 5 (fun i => ad' (6 + 57 * (2 + i))))))))
      rw [tr_cong (f := fun i => ad (6 + 57 * (2 + i))) (f' := fun i => ad' (6 + 57 * (2 + i))) (fun i hi => h _ (by omega))]
    · show (Sum.inr (0, [.ref (ad 4), .int (r 1), .int (r 2), .int (r 3), cmdV g (r 4), .ref (ad 5)]) : va_E) = Sum.inr (0, [.ref (ad' 4), .int (r 1), .int (r 2), .int (r 3), cmdV g (r 4), .ref (ad' 5)])
      rw [h 4 (by decide), h 5 (by decide)]
    · rfl
    · rfl
  · unfold bE
    rw [if_neg h6, if_neg h6]
    exact mE_cong (Nat.mod_lt _ (by decide)) (fun x hx => h _ (by omega))
def g412 (k : Nat) : Nat := if k < 405 then k else if k = 405 then 411 else k - 1
theorem g412_lt : ∀ k, k < 412 → g412 k < 412 := fun k hk => by
  unfold g412
  repeat' split
  all_goals omega
theorem g412_in : ∀ i j, i < 412 → j < 412 → g412 i = g412 j → i = j := fun i j hi hj h => by
  unfold g412 at h
  repeat' split at h
  all_goals omega
def s412 : St := fun k b => if k < 405 then be0 k b else if k = 405 then 0 else de0 (k - 406) b
theorem s412_I : LI 0 s412 := by
  have eb : ∀ k, k < 405 → s412 k = be0 k := fun k hk => funext fun b => if_pos hk
  have ed : sb gmD s412 = de0 := by
    funext a b
    show (if 406 + a < 405 then be0 (406 + a) b else if 406 + a = 405 then 0 else de0 (406 + a - 406) b) = de0 a b
    rw [if_neg (by omega), if_neg (by omega), Nat.add_sub_cancel_left]
  exact ⟨be0_B.lo eb, by rw [ed]; exact de0_D, by rw [ed]; exact RBg_0.lo eb⟩
theorem ec9_at {T : Nat → ClassId} {a1 ad : Nat → Nat} (h : ∀ x, x < 6 → a1 x = ad x) : ∀ j, j < 6 → ec9 T a1 j = dE T ad j (de0 j) := by
  intro j hj
  have h2 : j = 0 ∨ j = 1 ∨ j = 2 ∨ j = 3 ∨ j = 4 ∨ j = 5 := by omega
  rcases h2 with rfl | rfl | rfl | rfl | rfl | rfl
  · show (Sum.inr (7, [.ref (a1 1), .ref (a1 2), .ref (a1 3), .int 0, .int 0, .ref (a1 4), .int 0, .int 0, .int 0, .int 0, .ref (a1 5), .long 0]) : va_E) = _
    rw [h 1 (by decide), h 2 (by decide), h 3 (by decide), h 4 (by decide), h 5 (by decide)]
    rfl
  · show (Sum.inl (T 1, 381, .inl d9) : va_E) = _
    rw [d9_de0]
    rfl
  · rfl
  · rfl
  · rfl
  · rfl
