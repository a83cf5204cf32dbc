/-! how often a handler came on top in a tick: no less than before -/
theorem ring_9 {i : Nat} : ∀ n k t, f_X5_ringTimers_l2 n k t (9 + i) 9 = t (9 + i) 9
  | 0, _, _ => rfl
  | n + 1, k, t => by
    by_cases c : t 0 4 ≤ nI k
    · have e : f_X5_ringTimers_l2 (n + 1) k t = t := if_pos c
      rw [e]
    · have e := show f_X5_ringTimers_l2 (n + 1) k t = _ from if_neg c
      rw [e]
      dsimp only
      rw [ring_9 n (k + 1)]
      by_cases c1 : t (9 + k) 17 ≤ 0
      · rw [if_pos c1]
      · rw [if_neg c1]
        by_cases c2 : t (9 + k) 16 = t 0 0
        · rw [if_pos c2, up2_j (by decide)]
          unfold f_X5_receiveEdge
          split
          · show up2 (up2 t (9 + k) 4 1) (9 + k) 6 (t 0 0) (9 + i) 9 = _
            rw [up2_j (by decide), up2_j (by decide)]
          · show f_X3_add _ _ _ _ (9 + i) 9 = _
            rw [add_o (by omega), up2_k (by omega), up2_j (by decide)]
        · rw [if_neg c2]
theorem chg_9 {i : Nat} {μ : St} {a b c : Int32} : f_X5_setChange μ a b c (9 + i) 9 = μ (9 + i) 9 := by
  show up2 (up2 (up2 μ 0 7 a) 0 8 b) 0 9 c (9 + i) 9 = _
  rw [up2_k (by omega), up2_k (by omega), up2_k (by omega)]
theorem exit_9 {i : Nat} {μ : St} : f_X5_beginExit μ (9 + i) 9 = μ (9 + i) 9 := by
  show up2 (up2 (up2 μ 0 7 _) 0 8 (-1)) 0 9 (μ 1 2) (9 + i) 9 = _
  rw [up2_k (by omega), up2_k (by omega), up2_k (by omega)]
theorem arr_9 {i : Nat} {μ : St} {p : Int32} : f_X5_arrange μ p (9 + i) 9 = μ (9 + i) 9 := by
  unfold f_X5_arrange
  dsimp only
  by_cases c1 : f_X5_isEntering μ = 0
  · rw [if_pos c1]
    by_cases c2 : p = -1
    · rw [if_pos c2]
    · rw [if_neg c2]
      by_cases c3 : μ 0 7 = 2
      · rw [if_pos c3]
        show f_X3_add _ _ _ _ (9 + i) 9 = _
        rw [add_o (by omega), up2_k (by omega), chg_9]
      · rw [if_neg c3]
        unfold f_X5_beginEntry
        dsimp only
        rcases f_X5_find (f_X5_setChange μ 1 p (μ 1 1)) (f_X5_stackedAt (f_X5_setChange μ 1 p (μ 1 1)) (f_X5_setChange μ 1 p (μ 1 1) 0 6 - 1)) with _ | j
        · exact chg_9
        · show f_X3_add _ _ _ _ (9 + i) 9 = _
          rw [add_o (by omega), up2_k (by omega), up2_j (by decide), chg_9]
  · rw [if_neg c1]
    by_cases c2 : p = -1
    · rw [if_pos c2]
      show f_X5_beginExit (f_X3_add _ _ _ _) (9 + i) 9 = _
      rw [exit_9, add_o (by omega), up2_k (by omega)]
    · rw [if_neg c2]
      by_cases c3 : p = μ 0 8
      · rw [if_pos c3]
      · rw [if_neg c3]
        show f_X3_add _ _ _ _ (9 + i) 9 = _
        rw [add_o (by omega), up2_k (by omega), up2_k (by omega)]
theorem bring_9 {i : Nat} {μ : St} {t : Int32} : f_X5_bringOnTop μ t (9 + i) 9 = μ (9 + i) 9 ∨ f_X5_bringOnTop μ t (9 + i) 9 = μ (9 + i) 9 + 1 := by
  unfold f_X5_bringOnTop
  rcases f_X5_find μ (μ 0 8) with _ | j
  · exact Or.inl chg_9
  · unfold oc
    dsimp only
    by_cases c : f_X5_setChange μ 0 (-1) 0 0 6 < 12
    · rw [if_pos c, comeOn_eq, add_o (by omega), up2_k (by omega), up2_k (by omega), up2_k (by omega), up2_k (by omega)]
      dsimp only
      rw [up2_j (by decide), up2_j (by decide)]
      by_cases ci : i = j
      · subst ci
        right
        rw [up2_s, chg_9]
      · left
        rw [up2_k (by omega), up2_k (by omega), up2_k (by omega), up2_k (by omega), chg_9]
    · rw [if_neg c]
      exact Or.inl chg_9
theorem fin_9 {i : Nat} {Y : St} : fin5 Y (9 + i) 9 = Y (9 + i) 9 ∨ fin5 Y (9 + i) 9 = Y (9 + i) 9 + 1 := by
  unfold fin5
  dsimp only
  by_cases c1 : f_X5_isEntering Y = 0
  · rw [if_pos c1]; exact Or.inl rfl
  · rw [if_neg c1]
    by_cases c2 : Y 0 9 = 0
    · rw [if_pos c2]; exact bring_9
    · rw [if_neg c2]; exact Or.inl rfl
theorem hand_9 {i : Nat} {Y : St} : (f_X5_spendOnHandler Y).2 (9 + i) 9 = Y (9 + i) 9 := by
  unfold f_X5_spendOnHandler
  dsimp only
  rcases f_X5_find Y (f_X5_stackedAt Y (Y 0 6 - 1)) with _ | j
  · rfl
  · unfold oc
    dsimp only
    by_cases c : Y (9 + j) 2 ≤ Y (9 + j) 8 + 1
    · rw [if_pos c]
      show f_X5_beginExit (f_X3_add _ _ _ _) (9 + i) 9 = _
      rw [exit_9, add_o (by omega), up2_k (by omega)]
      unfold f_X7_goOff
      split
      · split
        · rw [up2_j (by decide), up2_j (by decide), up2_j (by decide), up2_j (by decide), up2_j (by decide), up2_k (by omega)]
        · rw [up2_j (by decide), up2_j (by decide), up2_j (by decide), up2_j (by decide), up2_j (by decide), up2_j (by decide), up2_k (by omega)]
      · rw [up2_j (by decide), up2_j (by decide), up2_j (by decide), up2_j (by decide), up2_j (by decide), up2_k (by omega)]
    · rw [if_neg c]
      show up2 (up2 (up2 Y 2 1 (Y 2 1 + 1)) (9 + j) 15 (Y (9 + j) 15 + 1)) (9 + j) 8 (Y (9 + j) 8 + 1) (9 + i) 9 = _
      rw [up2_j (by decide), up2_j (by decide), up2_k (by omega)]
theorem sp_9 {i : Nat} {Y : St} : (sp5 Y).2 (9 + i) 9 = Y (9 + i) 9 ∨ (sp5 Y).2 (9 + i) 9 = Y (9 + i) 9 + 1 := by
  unfold sp5
  by_cases c1 : Y 0 7 = 0
  · rw [if_pos c1]
    left
    by_cases c2 : Y 0 6 ≤ 0
    · rw [if_pos c2]
      show up2 Y 2 0 _ (9 + i) 9 = _
      rw [up2_k (by omega)]
    · rw [if_neg c2]; exact hand_9
  · rw [if_neg c1]
    show f_X5_spendOnChange Y (9 + i) 9 = _ ∨ f_X5_spendOnChange Y (9 + i) 9 = _
    have z : up2 (up2 Y 2 2 (Y 2 2 + 1)) 0 9 (Y 0 9 - 1) (9 + i) 9 = Y (9 + i) 9 := by rw [up2_k (by omega), up2_k (by omega)]
    unfold f_X5_spendOnChange
    dsimp only
    by_cases c2 : Y 0 9 - 1 ≤ 0
    · rw [if_pos c2]
      by_cases c3 : f_X5_isEntering (up2 (up2 Y 2 2 (Y 2 2 + 1)) 0 9 (Y 0 9 - 1)) = 0
      · rw [if_pos c3, chg_9, z]; exact Or.inl rfl
      · rw [if_neg c3]
        rcases bring_9 (i := i) (μ := up2 (up2 Y 2 2 (Y 2 2 + 1)) 0 9 (Y 0 9 - 1)) (t := Y 0 0 + 1) with e | e
        · rw [e, z]; exact Or.inl rfl
        · rw [e, z]; exact Or.inr rfl
    · rw [if_neg c2, z]; exact Or.inl rfl
theorem tick_e6 (μ : St) : ∃ c : Int32, f_X5_tick μ = ((sp5 (fin5 (f_X5_arrange (f_X5_ringTimers_l2 fu13 0 μ) c))).1, up2 (sp5 (fin5 (f_X5_arrange (f_X5_ringTimers_l2 fu13 0 μ) c))).2 0 0 ((sp5 (fin5 (f_X5_arrange (f_X5_ringTimers_l2 fu13 0 μ) c))).2 0 0 + 1)) := by
  refine ⟨f_X5_candidateAbove (f_X5_ringTimers_l2 fu13 0 μ) (f_X5_level (f_X5_ringTimers_l2 fu13 0 μ)), ?_⟩
  show (let s38 := fin5 (f_X5_arrange (f_X5_ringTimers_l2 fu13 0 μ) (f_X5_candidateAbove (f_X5_ringTimers_l2 fu13 0 μ) (f_X5_level (f_X5_ringTimers_l2 fu13 0 μ)))); (let w79_1 : Int32 := (if (s38 0 7) = 0 then (if (s38 0 6) ≤ 0 then 0 else (f_X5_spendOnHandler s38).1) else 0); let s79 : St := (if (s38 0 7) = 0 then (if (s38 0 6) ≤ 0 then up2 s38 2 0 ((s38 2 0) + 1) else (f_X5_spendOnHandler s38).2) else f_X5_spendOnChange s38); ((w79_1, up2 s79 0 0 ((s79 0 0) + 1)) : Int32 × St))) = _
  dsimp only
  generalize fin5 (f_X5_arrange (f_X5_ringTimers_l2 fu13 0 μ) (f_X5_candidateAbove (f_X5_ringTimers_l2 fu13 0 μ) (f_X5_level (f_X5_ringTimers_l2 fu13 0 μ)))) = Z
  unfold sp5
  by_cases c1 : Z 0 7 = 0
  · rw [if_pos c1, if_pos c1, if_pos c1]
    by_cases c2 : Z 0 6 ≤ 0
    · rw [if_pos c2, if_pos c2, if_pos c2]
    · rw [if_neg c2, if_neg c2, if_neg c2]
  · rw [if_neg c1, if_neg c1, if_neg c1]
theorem tick_9 {i : Nat} (μ : St) (h0 : 0 ≤ (μ (9 + i) 9).toInt) (h1 : (μ (9 + i) 9).toInt < 2147483645) : (μ (9 + i) 9).toInt ≤ ((f_X5_tick μ).2 (9 + i) 9).toInt := by
  obtain ⟨c, e⟩ := tick_e6 μ
  rw [e]
  show _ ≤ (up2 _ 0 0 _ (9 + i) 9).toInt
  rw [up2_k (by omega)]
  have e0 : f_X5_arrange (f_X5_ringTimers_l2 fu13 0 μ) c (9 + i) 9 = μ (9 + i) 9 := arr_9.trans (ring_9 _ _ _)
  have ea := inc_toInt h0 (by omega)
  have eb := inc_toInt (x := μ (9 + i) 9 + 1) (by omega) (by omega)
  rcases fin_9 (i := i) (Y := f_X5_arrange (f_X5_ringTimers_l2 fu13 0 μ) c) with ef | ef
  · rcases sp_9 (i := i) (Y := fin5 (f_X5_arrange (f_X5_ringTimers_l2 fu13 0 μ) c)) with es | es
    · rw [es, ef, e0]; omega
    · rw [es, ef, e0]; omega
  · rcases sp_9 (i := i) (Y := fin5 (f_X5_arrange (f_X5_ringTimers_l2 fu13 0 μ) c)) with es | es
    · rw [es, ef, e0]; omega
    · rw [es, ef, e0]; omega
theorem came_eq {τ : Int} {N d q i : Nat} {μ σ : St} (h : RM τ N d q μ (σ 1)) (hi : i < N) : f_X9_of σ (nI i) 17 = μ (9 + i) 9 := (fld h hi (w := 17) (by decide) (by decide) rfl (by decide)).symm
theorem came_rng {τ : Int} {N d q i : Nat} {μ σ : St} (h : RM τ N d q μ (σ 1)) (hi : i < N) : 0 ≤ (μ (9 + i) 9).toInt ∧ (μ (9 + i) 9).toInt ≤ τ := by
  have h1 := (h.rv.2 i hi).2.2.2.2
  rw [h.f hi (w := 17) (b := 9) (by decide) (by decide) rfl (by decide)] at h1
  exact ⟨h1.1, h1.2.1⟩
/-- ticks until a handler comes on top -/
theorem enters_sim {σ0 : St} {p : Int32} {i : Nat} (hp : p.toInt ≤ 1000) : ∀ (n k : Nat) (τ : Int) (N : Nat) (μ σ : St), k + n = 1001 → τ + n < 2147483000 → i < N → (∃ d q, RM τ N d q μ (σ 1) ∧ RT (σ 1)) → μ (9 + i) 9 = σ0 (9 + i) 9 →
    (f_X5_spendUntilOnTop_l21 σ0 p i (n + 1) (k + 1) μ).1 = (if f_X9_of (f_X9_enters_l11 (nI i) p (σ0 (9 + i) 9) n k σ).2 (nI i) 17 ≤ σ0 (9 + i) 9 then (-1) else nI (f_X9_enters_l11 (nI i) p (σ0 (9 + i) 9) n k σ).1) ∧ ∃ d q, RM (τ + n) N d q (f_X5_spendUntilOnTop_l21 σ0 p i (n + 1) (k + 1) μ).2 ((f_X9_enters_l11 (nI i) p (σ0 (9 + i) 9) n k σ).2 1)
  | n, k, τ, N, μ, σ, hkn, ht, hi, ⟨d, q, h, hT⟩, hc => by
    have e17 := came_eq h hi
    have hle : ∀ x : Int32, x ≤ x := fun x => by rw [i32_le]; omega
    by_cases cp : p ≤ nI k
    · have er : f_X9_enters_l11 (nI i) p (σ0 (9 + i) 9) n k σ = (k, σ) := by
        cases n with
        | zero => rfl
        | succ n => exact if_pos cp
      have cp2 : p < nI (k + 1) := by
        rw [i32_le, nI_toInt (by omega)] at cp
        rw [i32_lt, nI_toInt (by omega)]
        omega
      have ec : f_X5_spendUntilOnTop_l21 σ0 p i (n + 1) (k + 1) μ = (-1, μ) := if_pos cp2
      rw [er, ec]
      dsimp only
      rw [e17, hc, if_pos (hle _)]
      exact ⟨rfl, d, q, h.mono (by omega)⟩
    · have hk : (k : Int) < p.toInt := by
        rw [i32_le, nI_toInt (by omega)] at cp
        omega
      have cp2 : ¬ p < nI (k + 1) := by
        rw [i32_lt, nI_toInt (by omega)]
        omega
      match n, hkn, ht with
      | 0, hkn, _ => exact absurd hkn (by omega)
      | n + 1, hkn, ht =>
        have er : f_X9_enters_l11 (nI i) p (σ0 (9 + i) 9) (n + 1) k σ = f_X9_enters_l11 (nI i) p (σ0 (9 + i) 9) n (k + 1) (f_X9_tick σ).2 := (if_neg cp).trans (if_pos (e17.trans hc))
        have ec := show f_X5_spendUntilOnTop_l21 σ0 p i (n + 1 + 1) (k + 1) μ = _ from if_neg cp2
        obtain ⟨t1, d', q', t2, t3⟩ := tick_sim h hT (by omega)
        have hr := came_rng h hi
        have hmono := tick_9 (i := i) μ hr.1 (by omega)
        rw [er, ec]
        dsimp only
        by_cases c9 : (f_X5_tick μ).2 (9 + i) 9 ≤ σ0 (9 + i) 9
        · rw [if_pos c9]
          have e9 : (f_X5_tick μ).2 (9 + i) 9 = σ0 (9 + i) 9 := by
            rw [i32_le] at c9
            rw [hc] at hmono
            exact Int32.toInt_inj.mp (by omega)
          have hτ : τ + ((n + 1 : Nat) : Int) = τ + 1 + n := by omega
          rw [hτ]
          exact enters_sim hp n (k + 1) (τ + 1) N _ _ (by omega) (by omega) hi ⟨d', q', t2, t3⟩ e9
        · rw [if_neg c9]
          have e17' := came_eq t2 hi
          have er2 : f_X9_enters_l11 (nI i) p (σ0 (9 + i) 9) n (k + 1) (f_X9_tick σ).2 = (k + 1, (f_X9_tick σ).2) := by
            cases n with
            | zero => rfl
            | succ n =>
              by_cases cq : p ≤ nI (k + 1)
              · exact if_pos cq
              · refine (if_neg cq).trans (if_neg ?_)
                rw [e17']
                intro e
                rw [e] at c9
                exact c9 (hle _)
          rw [er2]
          dsimp only
          rw [e17', if_neg c9]
          exact ⟨rfl, d', q', t2.mono (by omega)⟩
theorem idle_sim {p : Int32} (hp : p.toInt ≤ 1000) : ∀ (n k : Nat) (τ : Int) (μ σ : St), k + n = 1001 → (k : Int) ≤ p.toInt → τ + n < 2147483000 → RMx τ μ (σ 1) →
    (f_X5_spendUntilIdle_l2 p n k μ).1 = (if (if ((f_X9_idleAfter_l27 p n k σ).2 1 9) = 0 then (if ((f_X9_idleAfter_l27 p n k σ).2 1 5) = 0 then (1 : Int32) else 0) else 0) = 0 then (-1) else nI (f_X9_idleAfter_l27 p n k σ).1)
  | 0, k, τ, μ, σ, hkn, hk, _, _ => absurd hk (by omega)
  | n + 1, k, τ, μ, σ, hkn, hk, ht, hh => by
    obtain ⟨N, d, q, h, hT⟩ := hh
    have hd := h.d12
    have ei : f_X5_isIdle μ = (if (σ 1 9) = 0 then (if (σ 1 5) = 0 then (1 : Int32) else 0) else 0) := by
      unfold f_X5_isIdle
      rw [h.md, ← h.2.1.2.1, ← h.c5]
    by_cases cp : p ≤ nI k
    · have er : f_X9_idleAfter_l27 p (n + 1) k σ = (k, σ) := if_pos cp
      have ec := show f_X5_spendUntilIdle_l2 p (n + 1) k μ = _ from if_pos cp
      rw [er, ec]
      dsimp only
      rw [ei]
      have epk : p = nI k := by
        rw [i32_le, nI_toInt (by omega)] at cp
        exact Int32.toInt_inj.mp (by rw [nI_toInt (by omega)]; omega)
      by_cases c0 : (if (σ 1 9) = 0 then (if (σ 1 5) = 0 then (1 : Int32) else 0) else 0) = 0
      · rw [if_pos c0, if_pos c0]
      · rw [if_neg c0, if_neg c0, epk]
    · have hk2 : (k : Int) < p.toInt := by
        rw [i32_le, nI_toInt (by omega)] at cp
        omega
      have ec := show f_X5_spendUntilIdle_l2 p (n + 1) k μ = _ from if_neg cp
      rw [ec]
      dsimp only
      rw [ei]
      obtain ⟨t1, d', q', t2, t3⟩ := tick_sim h hT (by omega)
      have hgo : ∀ (er : f_X9_idleAfter_l27 p (n + 1) k σ = f_X9_idleAfter_l27 p n (k + 1) (f_X9_tick σ).2) (c0 : (if (σ 1 9) = 0 then (if (σ 1 5) = 0 then (1 : Int32) else 0) else 0) = 0), (if (if (σ 1 9) = 0 then (if (σ 1 5) = 0 then (1 : Int32) else 0) else 0) = 0 then f_X5_spendUntilIdle_l2 p n (k + 1) (f_X5_tick μ).2 else (nI k, μ)).1 = (if (if ((f_X9_idleAfter_l27 p (n + 1) k σ).2 1 9) = 0 then (if ((f_X9_idleAfter_l27 p (n + 1) k σ).2 1 5) = 0 then (1 : Int32) else 0) else 0) = 0 then (-1) else nI (f_X9_idleAfter_l27 p (n + 1) k σ).1) := fun er c0 => by
        rw [if_pos c0, er]
        exact idle_sim hp n (k + 1) (τ + 1) _ _ (by omega) (by omega) (by omega) ⟨N, d', q', t2, t3⟩
      rcases Nat.eq_zero_or_pos d with rfl | hdp
      · have h9 : σ 1 9 = 0 := h.2.1.2.1
        have hn9 : ¬ (0 : Int32) < σ 1 9 := by rw [h9]; decide
        by_cases c5 : σ 1 5 = 0
        · have er : f_X9_idleAfter_l27 p (n + 1) k σ = (k, σ) := (if_neg cp).trans ((if_neg hn9).trans (if_pos c5))
          rw [er]
          dsimp only
          rw [if_pos h9, if_pos c5, if_neg n10, if_neg n10]
        · have er : f_X9_idleAfter_l27 p (n + 1) k σ = f_X9_idleAfter_l27 p n (k + 1) (f_X9_tick σ).2 := (if_neg cp).trans ((if_neg hn9).trans (if_neg c5))
          exact hgo er (by rw [if_pos h9, if_neg c5])
      · have hp9 : (0 : Int32) < σ 1 9 := by
          rw [h.2.1.2.1, show (0 : Int32) = nI 0 from rfl, nI_ltI (by omega) (by omega)]
          exact hdp
        have h9 : ¬ σ 1 9 = 0 := by rw [h.2.1.2.1]; exact nI_ne0 hdp (by omega)
        have er : f_X9_idleAfter_l27 p (n + 1) k σ = f_X9_idleAfter_l27 p n (k + 1) (f_X9_tick σ).2 := (if_neg cp).trans (if_pos hp9)
        exact hgo er (by rw [if_neg h9])
