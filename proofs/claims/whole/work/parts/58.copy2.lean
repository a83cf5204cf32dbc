def RMx (τ : Int) (μ : St) (ρ : Nat → Int32) : Prop := ∃ N d q, RM τ N d q μ ρ ∧ RT ρ
theorem RMx.mono {τ τ' : Int} {μ : St} {ρ : Nat → Int32} (h : RMx τ μ ρ) (ht : τ ≤ τ') : RMx τ' μ ρ := by
  obtain ⟨N, d, q, h1, h2⟩ := h
  exact ⟨N, d, q, h1.mono ht, h2⟩
/-- the row alone up to its end -/
theorem RM.cong {τ : Int} {N d q : Nat} {μ : St} {ρ ρ' : Nat → Int32} (h : RM τ N d q μ ρ) (e : ∀ j, j < 381 → ρ' j = ρ j) : RM τ N d q μ ρ' := by
  have hN := h.N12
  have hd := h.d12
  obtain ⟨h1, ⟨a8, a9, a53⟩, hE, hG, hS, hP, hF, hV, hQ⟩ := h
  exact ⟨h1, ⟨by rw [e 8 (by decide)]; exact a8, by rw [e 9 (by decide)]; exact a9, a53⟩, hE.congr (fun j hj => e j (cok_lt hj)), hG.congr (fun j _ hj => e j (by omega)) (fun _ _ _ _ => rfl), hS.congr (fun i hi => ⟨e _ (by omega), e _ (by omega), e _ (by omega)⟩) (fun _ _ => rfl), hP.congr (fun k hk => e _ (by omega)) (fun _ _ => rfl), hF, hV.congr (fun k hk => e _ (by omega)) (fun i hi w hw => e _ (by omega)), hQ.congr (e 5 (by decide)) (e 6 (by decide)) (fun k hk => e _ (by omega))⟩
theorem RMx.cong {τ : Int} {μ : St} {ρ ρ' : Nat → Int32} (h : RMx τ μ ρ) (e : ∀ j, j < 381 → ρ' j = ρ j) : RMx τ μ ρ' := by
  obtain ⟨N, d, q, h1, h2⟩ := h
  refine ⟨N, d, q, h1.cong e, ?_⟩
  unfold RT
  rw [e 5 (by decide), e 7 (by decide)]
  exact h2
theorem zz_zz {a b : Nat} {x : Int32} : zz a b (zz a b x) = zz a b x := by
  unfold zz
  by_cases c : 9 ≤ a ∧ a < 21 ∧ 3 ≤ b ∧ b < 6
  · simp only [if_pos c, zb_zb]
  · simp only [if_neg c]
theorem cin_cpM {p : Nat × Nat} (h : cin p = true) : cpM p.1 p.2 := by
  unfold cin at h
  have h1 := of_decide_eq_true h
  unfold cpM
  omega
/-- a copy of a Machine stands for the same row -/
theorem RM.copy {τ : Int} {N d q : Nat} {μ μ' : St} {ρ : Nat → Int32} (h : RM τ N d q μ ρ) (e : ∀ a b, a < 57 → cpM a b → μ' a b = zz a b (μ a b)) : RM τ N d q μ' ρ := by
  have hN := h.N12
  obtain ⟨h1, ⟨a8, a9, a53⟩, hE, hG, hS, hP, hF, hV, hQ⟩ := h
  have m : ∀ a b, a < 57 → cpM a b → ¬ (9 ≤ a ∧ a < 21 ∧ 3 ≤ b ∧ b < 6) → μ' a b = μ a b := fun a b h1 h2 h3 => (e a b h1 h2).trans (zz_n h3).symm
  refine ⟨h1, ⟨a8, a9, by rw [m 5 3 (by decide) (by unfold cpM; omega) (by omega)]; exact a53⟩, fun j hj hN2 => ?_, ?_, hS.congr (fun i hi => ⟨rfl, rfl, rfl⟩) (fun i hi => m _ _ (by omega) (by unfold cpM; omega) (by omega)), hP.congr (fun k hk => rfl) (fun i hi => m _ _ (by omega) (by unfold cpM; omega) (by omega)), fun i hi h12 => ⟨fun b hb => ?_, fun j b hj hb => ?_⟩, hV, hQ⟩
  · have hc := cin_cpM (cv_ok j (cok_lt hj) hj).2
    have h57 : (cv j).1 < 57 := by unfold cpM at hc; omega
    rw [hE j hj hN2, e _ _ h57 hc, zz_zz]
  · obtain ⟨g1, g2⟩ := hG
    refine ⟨g1, fun k hk => ?_⟩
    rw [m 6 _ (by decide) (by unfold cpM; omega) (by omega), m 7 _ (by decide) (by unfold cpM; omega) (by omega), m 8 _ (by decide) (by unfold cpM; omega) (by omega)]
    exact g2 k hk
  · rw [e _ _ (by omega) (by unfold cpM; omega), (hF i hi h12).1 b hb]
    have key : ∀ i, i < 12 → ∀ b, b < 19 → zz (9 + i) b (frv b) = frv b := by decide +kernel
    exact key i h12 b hb
  · rw [m _ _ (by omega) (by unfold cpM; omega) (by omega)]
    exact (hF i hi h12).2 j b hj hb
theorem RMx.copy {τ : Int} {μ μ' : St} {ρ : Nat → Int32} (h : RMx τ μ ρ) (e : ∀ a b, a < 57 → cpM a b → μ' a b = zz a b (μ a b)) : RMx τ μ' ρ := by
  obtain ⟨N, d, q, h1, h2⟩ := h
  exact ⟨N, d, q, h1.copy e, h2⟩
/-! many ticks -/
theorem tick_e5 (μ : St) : ∃ Z : St, f_X5_tick μ = ((sp5 Z).1, up2 (sp5 Z).2 0 0 ((sp5 Z).2 0 0 + 1)) := by
  refine ⟨fin5 (f_X5_arrange (f_X5_ringTimers_l2 fu13 0 μ) (f_X5_candidateAbove (f_X5_ringTimers_l2 fu13 0 μ) (f_X5_level (f_X5_ringTimers_l2 fu13 0 μ)))), ?_⟩
  show (let s38 := fin5 (f_X5_arrange (f_X5_ringTimers_l2 fu13 0 μ) (f_X5_candidateAbove (f_X5_ringTimers_l2 fu13 0 μ) (f_X5_level (f_X5_ringTimers_l2 fu13 0 μ)))); (let w79_1 : Int32 := (if (s38 0 7) = 0 then (if (s38 0 6) ≤ 0 then 0 else (f_X5_spendOnHandler s38).1) else 0); let s79 : St := (if (s38 0 7) = 0 then (if (s38 0 6) ≤ 0 then up2 s38 2 0 ((s38 2 0) + 1) else (f_X5_spendOnHandler s38).2) else f_X5_spendOnChange s38); ((w79_1, up2 s79 0 0 ((s79 0 0) + 1)) : Int32 × St))) = _
  dsimp only
  generalize fin5 (f_X5_arrange (f_X5_ringTimers_l2 fu13 0 μ) (f_X5_candidateAbove (f_X5_ringTimers_l2 fu13 0 μ) (f_X5_level (f_X5_ringTimers_l2 fu13 0 μ)))) = Z
  unfold sp5
  by_cases c1 : Z 0 7 = 0
  · rw [if_pos c1, if_pos c1, if_pos c1]
    by_cases c2 : Z 0 6 ≤ 0
    · rw [if_pos c2, if_pos c2, if_pos c2]
    · rw [if_neg c2, if_neg c2, if_neg c2]
  · rw [if_neg c1, if_neg c1, if_neg c1]
theorem hand_01 (Z : St) : (f_X5_spendOnHandler Z).1 = 0 ∨ (f_X5_spendOnHandler Z).1 = 1 := by
  unfold f_X5_spendOnHandler
  dsimp only
  rcases f_X5_find Z (f_X5_stackedAt Z (Z 0 6 - 1)) with _ | i
  · exact Or.inl rfl
  · unfold oc
    dsimp only
    by_cases c3 : Z (9 + i) 2 ≤ Z (9 + i) 8 + 1
    · rw [if_pos c3]; exact Or.inr rfl
    · rw [if_neg c3]; exact Or.inl rfl
theorem tick_01 (μ : St) : (f_X5_tick μ).1 = 0 ∨ (f_X5_tick μ).1 = 1 := by
  obtain ⟨Z, e⟩ := tick_e5 μ
  rw [e]
  show (sp5 Z).1 = 0 ∨ (sp5 Z).1 = 1
  unfold sp5
  by_cases c1 : Z 0 7 = 0
  · rw [if_pos c1]
    by_cases c2 : Z 0 6 ≤ 0
    · rw [if_pos c2]; exact Or.inl rfl
    · rw [if_neg c2]; exact hand_01 Z
  · rw [if_neg c1]; exact Or.inl rfl
theorem runs_sim {p : Int32} : ∀ (n k y : Nat) (τ : Int) (μ σ : St), k + n ≤ 1000 → y ≤ k → τ + n < 2147483647 → RMx τ μ (σ 1) → (f_X5_spendTicks_l18 p n k (nI y) μ).1 = (f_X9_runs_l4 p n k (nI y) σ).1 ∧ (∃ x, x ≤ 1000 ∧ (f_X5_spendTicks_l18 p n k (nI y) μ).1 = nI x) ∧ RMx (τ + n) (f_X5_spendTicks_l18 p n k (nI y) μ).2 ((f_X9_runs_l4 p n k (nI y) σ).2 1)
  | 0, k, y, τ, μ, σ, hk, hy, ht, h => ⟨rfl, ⟨y, by omega, rfl⟩, h.mono (by omega)⟩
  | n + 1, k, y, τ, μ, σ, hk, hy, ht, h => by
    by_cases c : p ≤ nI k
    · have e1 : f_X5_spendTicks_l18 p (n + 1) k (nI y) μ = (nI y, μ) := if_pos c
      have e2 : f_X9_runs_l4 p (n + 1) k (nI y) σ = (nI y, σ) := if_pos c
      rw [e1, e2]
      exact ⟨rfl, ⟨y, by omega, rfl⟩, h.mono (by omega)⟩
    · have e1 : f_X5_spendTicks_l18 p (n + 1) k (nI y) μ = f_X5_spendTicks_l18 p n (k + 1) (nI y + (f_X5_tick μ).1) (f_X5_tick μ).2 := if_neg c
      have e2 : f_X9_runs_l4 p (n + 1) k (nI y) σ = f_X9_runs_l4 p n (k + 1) (nI y + (f_X9_tick σ).1) (f_X9_tick σ).2 := if_neg c
      obtain ⟨N, d, q, h1, h2⟩ := h
      obtain ⟨t1, d', q', t2, t3⟩ := tick_sim h1 h2 (by omega)
      rw [e1, e2, ← t1]
      have ht2 : τ + 1 + n < 2147483647 := by omega
      have hh : RMx (τ + 1) (f_X5_tick μ).2 ((f_X9_tick σ).2 1) := ⟨N, d', q', t2, t3⟩
      have hτ : τ + ((n + 1 : Nat) : Int) = τ + 1 + n := by omega
      rw [hτ]
      rcases tick_01 μ with e | e
      · rw [e, Int32.add_zero]
        exact runs_sim n (k + 1) y (τ + 1) _ _ (by omega) (by omega) ht2 hh
      · rw [e, nI_1]
        exact runs_sim n (k + 1) (y + 1) (τ + 1) _ _ (by omega) (by omega) ht2 hh
/-- an undoable call of both: refused alike, or done alike -/
def opS (τ : Int) (A : Int32 × St) (bad : Int32) (B : Int32 × St) (μ : St) : Prop :=
  (bad = 0 ∧ A.1 = B.1 ∧ 0 ≤ A.1.toInt ∧ RMx τ A.2 (B.2 1)) ∨ ((bad = 1 ∨ bad = 2 ∨ bad = 3) ∧ A = (-bad, μ))
theorem in_eq (a b c : Int32) : f_X8_isWithin a b c = f_X9_in a b c := rfl
theorem in_cases (x a b : Int32) : (f_X9_in x a b = 0) ∨ (f_X9_in x a b = 1 ∧ a.toInt ≤ x.toInt ∧ x.toInt ≤ b.toInt) := by
  unfold f_X9_in
  by_cases c1 : x < a
  · rw [if_pos c1]; exact Or.inl rfl
  · by_cases c2 : b < x
    · rw [if_neg c1, if_pos c2]; exact Or.inl rfl
    · rw [if_neg c1, if_neg c2]
      rw [i32_lt] at c1 c2
      exact Or.inr ⟨rfl, by omega, by omega⟩
theorem run_sim {τ : Int} {μ σ : St} (h : RMx τ μ (σ 1)) (ht : τ + 501 < 2147483647) (p : Int32) : opS (τ + 501) (f_X5_spendTicks μ p) (f_X9_badRun p) (f_X9_runs σ p) μ := by
  unfold f_X5_spendTicks f_X9_badRun
  dsimp only
  rw [in_eq]
  rcases in_cases p 1 500 with e | ⟨e, -, -⟩
  · rw [e]
    exact Or.inr ⟨Or.inr (Or.inl rfl), rfl⟩
  · rw [e]
    obtain ⟨r1, ⟨x, hx, r2⟩, r3⟩ := runs_sim (p := p) fu501 0 0 τ μ σ (by unfold fu501; omega) (by omega) (by unfold fu501; omega) h
    refine Or.inl ⟨rfl, r1, ?_, r3⟩
    show 0 ≤ (f_X5_spendTicks_l18 p fu501 0 (nI 0) μ).1.toInt
    rw [r2, nI_toInt (by omega)]
    omega
