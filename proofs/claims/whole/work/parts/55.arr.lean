theorem up2_comm {σ : St} {k j k' j' : Nat} {v w : Int32} (h : k ≠ k' ∨ j ≠ j') : up2 (up2 σ k j v) k' j' w = up2 (up2 σ k' j' w) k j v := by
  funext a b
  by_cases c1 : a = k' ∧ b = j'
  · obtain ⟨rfl, rfl⟩ := c1
    rw [up2_s, show up2 (up2 σ a b w) k j v a b = up2 σ a b w a b from if_neg (by omega), up2_s]
  · rw [show up2 (up2 σ k j v) k' j' w a b = up2 σ k j v a b from if_neg c1]
    by_cases c2 : a = k ∧ b = j
    · obtain ⟨rfl, rfl⟩ := c2; rw [up2_s, up2_s]
    · rw [show up2 σ k j v a b = σ a b from if_neg c2, show up2 (up2 σ k' j' w) k j v a b = up2 σ k' j' w a b from if_neg c2, show up2 σ k' j' w a b = σ a b from if_neg c1]
/-- what is left of a change -/
theorem RM.uleft {τ : Int} {N d q : Nat} {μ : St} {ρ : Nat → Int32} {v : Int32} (h : RM τ N d q μ ρ) : RM τ N d q (up2 μ 0 9 v) (upd ρ 7 v) := by
  have hd := h.d12
  have u : ∀ j, j ≠ 7 → upd ρ 7 v j = ρ j := fun j hj => upd_n hj
  have m : ∀ x y, x ≠ 0 → up2 μ 0 9 v x y = μ x y := fun x y hx => up2_k hx
  obtain ⟨h1, ⟨a8, a9, a53⟩, hE, hG, hS, hP, hF, hV, hQ⟩ := h
  exact ⟨h1, ⟨by rw [u 8 (by decide)]; exact a8, by rw [u 9 (by decide)]; exact a9, by rw [m 5 3 (by omega)]; exact a53⟩, hE.up (k := 0) (b := 9) (by decide) rfl (zz_n (by omega)), hG.congr (fun j _ hj => u j (by omega)) (fun a b ha _ => m a b (by omega)), hS.congr (fun i hi => ⟨u _ (by omega), u _ (by omega), u _ (by omega)⟩) (fun i hi => m _ _ (by omega)), hP.congr (fun k hk => u _ (by omega)) (fun i hi => m _ _ (by omega)), hF.congr (fun i _ _ => ⟨fun b _ => m _ _ (by omega), fun j b _ _ => m _ _ (by omega)⟩), hV.congr (fun k hk => u _ (by omega)) (fun i hi w hw => u _ (by omega)), hQ.congr (u 5 (by decide)) (u 6 (by decide)) (fun k hk => u _ (by omega))⟩
theorem RM.utime {τ : Int} {N d q : Nat} {μ : St} {ρ : Nat → Int32} {v : Int32} (h : RM τ N d q μ ρ) : RM τ N d q (up2 μ 0 0 v) (upd ρ 0 v) := by
  have hd := h.d12
  have u : ∀ j, j ≠ 0 → upd ρ 0 v j = ρ j := fun j hj => upd_n hj
  have m : ∀ x y, x ≠ 0 → up2 μ 0 0 v x y = μ x y := fun x y hx => up2_k hx
  obtain ⟨h1, ⟨a8, a9, a53⟩, hE, hG, hS, hP, hF, hV, hQ⟩ := h
  exact ⟨h1, ⟨by rw [u 8 (by decide)]; exact a8, by rw [u 9 (by decide)]; exact a9, by rw [m 5 3 (by omega)]; exact a53⟩, hE.up (k := 0) (b := 0) (by decide) rfl (zz_n (by omega)), hG.congr (fun j _ hj => u j (by omega)) (fun a b ha _ => m a b (by omega)), hS.congr (fun i hi => ⟨u _ (by omega), u _ (by omega), u _ (by omega)⟩) (fun i hi => m _ _ (by omega)), hP.congr (fun k hk => u _ (by omega)) (fun i hi => m _ _ (by omega)), hF.congr (fun i _ _ => ⟨fun b _ => m _ _ (by omega), fun j b _ _ => m _ _ (by omega)⟩), hV.congr (fun k hk => u _ (by omega)) (fun i hi w hw => u _ (by omega)), hQ.congr (u 5 (by decide)) (u 6 (by decide)) (fun k hk => u _ (by omega))⟩
/-- who is entered -/
theorem RM.uwho {τ : Int} {N d q s : Nat} {μ : St} {ρ : Nat → Int32} (h : RM τ N d q μ ρ) (hs : s < N) (hk : ∀ k, k < d → ρ (10 + k) ≠ nI s) : RM τ N d q (up2 μ 0 8 (nI s)) (upd ρ 6 (nI s)) := by
  have hd := h.d12
  have u : ∀ j, j ≠ 6 → upd ρ 6 (nI s) j = ρ j := fun j hj => upd_n hj
  have m : ∀ x y, x ≠ 0 → up2 μ 0 8 (nI s) x y = μ x y := fun x y hx => up2_k hx
  obtain ⟨h1, ⟨a8, a9, a53⟩, hE, hG, hS, hP, hF, hV, ⟨q1, q2⟩⟩ := h
  exact ⟨h1, ⟨by rw [u 8 (by decide)]; exact a8, by rw [u 9 (by decide)]; exact a9, by rw [m 5 3 (by omega)]; exact a53⟩, hE.up (k := 0) (b := 8) (by decide) rfl (zz_n (by omega)), hG.congr (fun j _ hj => u j (by omega)) (fun a b ha _ => m a b (by omega)), hS.congr (fun i hi => ⟨u _ (by omega), u _ (by omega), u _ (by omega)⟩) (fun i hi => m _ _ (by omega)), hP.congr (fun k hk => u _ (by omega)) (fun i hi => m _ _ (by omega)), hF.congr (fun i _ _ => ⟨fun b _ => m _ _ (by omega), fun j b _ _ => m _ _ (by omega)⟩), hV.congr (fun k hk => u _ (by omega)) (fun i hi w hw => u _ (by omega)), ⟨by rw [u 5 (by decide)]; exact q1, fun _ => ⟨s, hs, upd_s, fun k hk1 => by rw [u _ (by omega)]; exact hk k hk1⟩⟩⟩
/-! the candidate -/
theorem cand_c : ∀ (n k : Nat) (a b : Int32) (σ : St) (N : Nat), k + n < 100 → σ 1 8 = nI N → N ≤ 12 → f_X9_candidate_l9 n k a b σ = a ∨ ∃ s, s < N ∧ f_X9_candidate_l9 n k a b σ = nI s ∧ b.toInt < (f_X9_of σ (nI s) 0).toInt ∧ ¬ f_X9_isPending σ (nI s) = 0
  | 0, k, a, b, σ, N, _, _, _ => Or.inl rfl
  | n + 1, k, a, b, σ, N, hkn, h8, hN => by
    by_cases c : σ 1 8 ≤ nI k
    · exact Or.inl (if_pos c)
    · have e1 := show f_X9_candidate_l9 (n + 1) k a b σ = _ from if_neg c
      rw [e1]
      have hk : k < N := kd_ge c h8 hN (by omega)
      dsimp only
      by_cases c3 : f_X9_of σ (nI k) 3 = 1
      · rw [if_pos c3]
        by_cases c0 : f_X9_of σ (nI k) 0 ≤ b
        · rw [if_pos c0, if_pos (show (0 : Int32) = 0 from rfl), if_pos (show (0 : Int32) = 0 from rfl)]
          exact cand_c n (k + 1) a b σ N (by omega) h8 hN
        · rw [if_neg c0]
          by_cases cp : f_X9_isPending σ (nI k) = 0
          · rw [if_pos cp, if_pos (show (0 : Int32) = 0 from rfl), if_pos (show (0 : Int32) = 0 from rfl)]
            exact cand_c n (k + 1) a b σ N (by omega) h8 hN
          · rw [if_neg cp, if_neg (show ¬ (1 : Int32) = 0 by decide), if_neg (show ¬ (1 : Int32) = 0 by decide)]
            rw [i32_le] at c0
            rcases cand_c n (k + 1) (nI k) (f_X9_of σ (nI k) 0) σ N (by omega) h8 hN with e | ⟨s, hs, e, e2, e3⟩
            · exact Or.inr ⟨k, hk, e, by omega, cp⟩
            · exact Or.inr ⟨s, hs, e, by omega, e3⟩
      · rw [if_neg c3, if_pos (show (0 : Int32) = 0 from rfl), if_pos (show (0 : Int32) = 0 from rfl)]
        exact cand_c n (k + 1) a b σ N (by omega) h8 hN
/-- the candidate may come on top: it isn't there, and both know since when it waits -/
def rdy (N d s : Nat) (μ : St) (ρ : Nat → Int32) : Prop := s < N ∧ (∀ k, k < d → ρ (10 + k) ≠ nI s) ∧ ρ (93 + 24 * s + 6) = μ (9 + s) 6
theorem cand_sim {τ : Int} {N d q : Nat} {μ σ : St} (h : RM τ N d q μ (σ 1)) : f_X9_candidate σ = -1 ∨ ∃ s, f_X9_candidate σ = nI s ∧ rdy N d s μ (σ 1) := by
  have hN := h.N12
  have hd := h.d12
  rcases cand_c fu13 0 (-1) (f_X9_level σ) σ N (by unfold fu13; omega) h.2.1.1 hN with e | ⟨s, hs, e, e2, e3⟩
  · exact Or.inl e
  · refine Or.inr ⟨s, e, hs, fun k hk hq => ?_, ?_⟩
    · have h9 : (σ 1 9).toInt = d := by rw [h.2.1.2.1, nI_toInt (by omega)]
      have r := (run_ge fu13 0 0 σ (by omega) (by unfold fu13; omega) (by omega)).2 k (by omega) (by omega)
      rw [hq] at r
      have g1 := (gr_l (a := f_X9_ceiling σ) (b := f_X9_running σ)).2
      have g2 := (gr_l (a := σ 1 1) (b := f_X9_greater (f_X9_ceiling σ) (f_X9_running σ))).2
      have e4 : (f_X9_level σ).toInt = (f_X9_greater (σ 1 1) (f_X9_greater (f_X9_ceiling σ) (f_X9_running σ))).toInt := rfl
      have e5 : f_X9_running σ = f_X9_running_l4 fu13 0 0 σ := rfl
      rw [e5] at g1 g2 e4
      omega
    · rcases h.rs s hs with ⟨k1, k5⟩ | hh
      · exfalso
        apply e3
        have e1 : f_X9_of σ (nI s) 1 = 1 := (of1 h hs (w := 1) (by decide)).trans k1
        have e5 : f_X9_of σ (nI s) 5 = 0 := (of1 h hs (w := 5) (by decide)).trans k5
        unfold f_X9_isPending
        dsimp only
        rw [e1, e5]
        rfl
      · exact hh
/-! timers -/
theorem raise_lo {σ : St} {p : Int32} {j : Nat} (h : j < 22) : (f_X9_raises σ p).2 1 j = σ 1 j := by
  unfold f_X9_raises
  dsimp only
  have hix : 93 ≤ ix p := by unfold ix; omega
  split
  · show (f_X9_logs _ _ _ _) 1 j = _
    rw [logs_row, lgr_o (Or.inl h), up2_row, up2_row, upd_n (by omega), upd_n (by omega)]
  · show (up2 (up2 σ 1 (ix p + 4) 1) 1 (ix p + 6) (σ 1 0)) 1 j = _
    rw [up2_row, up2_row, upd_n (by omega), upd_n (by omega)]
theorem ring_sim : ∀ (n k : Nat) (τ : Int) (N d q : Nat) (μ σ : St), k + n < 100 → RM τ N d q μ (σ 1) → (∃ q', RM τ N d q' (f_X5_ringTimers_l2 n k μ) ((f_X9_tick_l2 n k σ) 1)) ∧ ∀ j, j < 22 → (f_X9_tick_l2 n k σ) 1 j = σ 1 j
  | 0, k, τ, N, d, q, μ, σ, _, h => ⟨⟨q, h⟩, fun _ _ => rfl⟩
  | n + 1, k, τ, N, d, q, μ, σ, hkn, h => by
    have hN := h.N12
    by_cases c : σ 1 8 ≤ nI k
    · have e1 : f_X9_tick_l2 (n + 1) k σ = σ := if_pos c
      rw [e1]
      rw [h.2.1.1, ← h.mN] at c
      have e2 : f_X5_ringTimers_l2 (n + 1) k μ = μ := if_pos c
      rw [e2]
      exact ⟨⟨q, h⟩, fun _ _ => rfl⟩
    · have e1 := show f_X9_tick_l2 (n + 1) k σ = _ from if_neg c
      rw [e1]
      have hk : k < N := kd_ge c h.2.1.1 (by omega) (by omega)
      rw [h.2.1.1, ← h.mN] at c
      have e2 := show f_X5_ringTimers_l2 (n + 1) k μ = _ from if_neg c
      rw [e2]
      dsimp only
      have e15 : f_X9_of σ (nI k) 15 = μ (9 + k) 17 := (of1 h hk (w := 15) (by decide)).trans (h.f hk (by decide) (by decide) rfl (by decide))
      have e14 : f_X9_of σ (nI k) 14 = μ (9 + k) 16 := (of1 h hk (w := 14) (by decide)).trans (h.f hk (by decide) (by decide) rfl (by decide))
      rw [e15, e14, h.t]
      by_cases c1 : μ (9 + k) 17 ≤ 0
      · rw [if_pos c1, if_pos c1]
        exact ring_sim n (k + 1) τ N d q μ σ (by omega) h
      · rw [if_neg c1, if_neg c1]
        by_cases c2 : μ (9 + k) 16 = μ 0 0
        · rw [if_pos c2, if_pos c2]
          obtain ⟨-, q', hr⟩ := raise_sim h hk
          have f15 : f_X9_of (f_X9_raises σ (nI k)).2 (nI k) 15 = (f_X5_receiveEdge μ (nI k) k).2 (9 + k) 17 := (of1 hr hk (w := 15) (by decide)).trans (hr.f hk (by decide) (by decide) rfl (by decide))
          have f14 : (f_X9_raises σ (nI k)).2 1 (93 + 24 * k + 14) = (f_X5_receiveEdge μ (nI k) k).2 (9 + k) 16 := hr.f hk (by decide) (by decide) rfl (by decide)
          have hu := hr.usrc hk (w := 14) (b := 16) (v := (f_X5_receiveEdge μ (nI k) k).2 (9 + k) 16 + (f_X5_receiveEdge μ (nI k) k).2 (9 + k) 17) (by decide) (by decide) rfl (zz_n (by omega))
          rw [f15, ix_nI (by omega), f14]
          rw [← up2_row] at hu
          obtain ⟨g1, g2⟩ := ring_sim n (k + 1) τ N d q' _ _ (by omega) hu
          refine ⟨g1, fun j hj => (g2 j hj).trans ?_⟩
          rw [up2_row, upd_n (by omega)]
          exact raise_lo hj
        · rw [if_neg c2, if_neg c2]
          exact ring_sim n (k + 1) τ N d q μ σ (by omega) h
