theorem RM.pop {τ : Int} {N d q s : Nat} {μ : St} {ρ : Nat → Int32} (h : RM τ N (d + 1) q μ ρ) (hs : s < N) (es : ρ (10 + d) = nI s) (h5 : ρ 5 = 0) : RM τ N d q (up2 (up2 μ (9 + s) 7 (-1)) 0 6 (nI d)) (upd ρ 9 (nI d)) := by
  have hd := h.d12
  have hN := h.N12
  have u : ∀ j, j ≠ 9 → upd ρ 9 (nI d) j = ρ j := fun j hj => upd_n hj
  have m : ∀ x y, x ≠ 0 → ¬ (x = 9 + s ∧ y = 7) → up2 (up2 μ (9 + s) 7 (-1)) 0 6 (nI d) x y = μ x y := fun x y hx hy => by rw [up2_k hx]; exact if_neg hy
  have m7 : up2 (up2 μ (9 + s) 7 (-1)) 0 6 (nI d) (9 + s) 7 = -1 := by rw [up2_k (by omega), up2_s]
  obtain ⟨h1, ⟨a8, a9, a53⟩, hE, hG, hS, ⟨p1, p2, p3⟩, hF, hV, hQ⟩ := h
  refine ⟨⟨hN, by omega, h1.2.2⟩, ⟨by rw [u 8 (by decide)]; exact a8, upd_s, by rw [m 5 3 (by omega) (by omega)]; exact a53⟩, RE.up (k := 0) (b := 6) (hE.off (by unfold cin; exact decide_eq_false (by dsimp only; omega))) (by decide) rfl (zz_n (by omega)), hG.congr (fun j _ hj => u j (by omega)) (fun a b ha _ => m a b (by omega) (by omega)), hS.congr (fun i hi => ⟨u _ (by omega), u _ (by omega), u _ (by omega)⟩) (fun i hi => m _ _ (by omega) (by omega)), ⟨fun k hk => by rw [u _ (by omega)]; exact p1 k (by omega), fun j k hj hk => by rw [u _ (by omega), u _ (by omega)]; exact p2 j k hj (by omega), fun i hi => ⟨fun k hk hq => ?_, fun hq => ?_⟩⟩, hF.congr (fun i hi _ => ⟨fun b _ => m _ _ (by omega) (by omega), fun j b _ _ => m _ _ (by omega) (by omega)⟩), hV.congr (fun k hk => u _ (by omega)) (fun i hi w hw => u _ (by omega)), ⟨Or.inl ((u 5 (by decide)).trans h5), fun hq => ?_⟩⟩
  · rw [u _ (by omega)] at hq
    by_cases ci : i = s
    · subst ci
      exact absurd (hq.trans es.symm) (p2 k d hk (by omega))
    · rw [m _ _ (by omega) (by omega)]
      exact (p3 i hi).1 k (by omega) hq
  · by_cases ci : i = s
    · subst ci; exact m7
    · rw [m _ _ (by omega) (by omega)]
      refine (p3 i hi).2 (fun k hk => ?_)
      by_cases c : k = d
      · subst c
        rw [es]
        exact fun e => ci (nI_inj (by omega) (by omega) e).symm
      · have h9 := hq k (by omega)
        rw [u _ (by omega)] at h9
        exact h9
  · rw [u 5 (by decide), h5] at hq
    rcases hq with hq | hq <;> exact absurd hq (by decide)
def sp5 (Y : St) : Int32 × St := if (Y 0 7) = 0 then (if (Y 0 6) ≤ 0 then (0, up2 Y 2 0 ((Y 2 0) + 1)) else f_X5_spendOnHandler Y) else (0, f_X5_spendOnChange Y)
section Sp
variable {τ : Int} {N d q : Nat} {Y X : St}
theorem sp_idle (h : RM τ N 0 q Y (X 1)) (h5 : X 1 5 = 0) : (sp5 Y).1 = (f_X9_spends X).1 ∧ ∃ q', RM τ N 0 q' (sp5 Y).2 ((f_X9_spends X).2 1) ∧ RT ((f_X9_spends X).2 1) := by
  have e9 := show f_X9_spends X = _ from (if_pos h5).trans (if_pos h.2.1.2.1)
  have e5 := show sp5 Y = _ from (if_pos (h.c5.symm.trans h5)).trans (if_pos (by rw [h.md]; decide))
  rw [e9, e5]
  refine ⟨rfl, q, ?_, ?_⟩
  · show RM τ N 0 q _ ((up2 X 1 83 (X 1 83 + 1)) 1)
    rw [up2_row, show X 1 83 = Y 2 0 from h.acc (k := 0) (by decide)]
    exact h.uacc (k := 0) (by decide)
  · intro hn
    exfalso
    apply hn
    show (up2 X 1 83 (X 1 83 + 1)) 1 5 = 0
    rw [up2_row, upd_n (by decide)]
    exact h5
theorem sp_hand (h : RM τ N (d + 1) q Y (X 1)) (h5 : X 1 5 = 0) : (sp5 Y).1 = (f_X9_spends X).1 ∧ ∃ d' q', RM τ N d' q' (sp5 Y).2 ((f_X9_spends X).2 1) ∧ RT ((f_X9_spends X).2 1) := by
  have hN := h.N12
  have hd := h.d12
  obtain ⟨s, hs, es⟩ := h.rp.1 d (by omega)
  have e9 := show f_X9_spends X = _ from (if_pos h5).trans (if_neg (by rw [h.2.1.2.1]; exact nI_ne0 (by omega) (by omega)))
  have e5 := show sp5 Y = _ from (if_pos (h.c5.symm.trans h5)).trans (if_neg (by rw [h.md, show (0 : Int32) = nI 0 from rfl, nI_leI (by omega) (by decide)]; omega))
  rw [e9, e5]
  clear e9 e5
  unfold f_X5_spendOnHandler
  dsimp only
  rw [h.2.1.2.1, h.md, nI_pred, nI_clamp (by omega), stk_at h (by omega), show 9 + (d + 1) = 10 + d by omega, es, find_some h hs, ix_nI (by omega)]
  have k2 : X 1 (93 + 24 * s + 2) = Y (9 + s) 2 := h.f hs (by decide) (by decide) rfl (by decide)
  have k16 : X 1 (93 + 24 * s + 16) = Y (9 + s) 8 := h.f hs (by decide) (by decide) rfl (by decide)
  have k23 : X 1 (93 + 24 * s + 23) = Y (9 + s) 15 := h.f hs (by decide) (by decide) rfl (by decide)
  have k18 : X 1 (93 + 24 * s + 18) = Y (9 + s) 10 := h.f hs (by decide) (by decide) rfl (by decide)
  have k1 : X 1 (93 + 24 * s + 1) = Y (9 + s) 1 := h.f hs (by decide) (by decide) rfl (by decide)
  have k5 : X 1 (93 + 24 * s + 5) = zb (Y (9 + s) 5) := h.b hs (by decide) (by decide) rfl (by decide)
  have k84 : X 1 84 = Y 2 1 := h.acc (k := 1) (by decide)
  rw [k2, k16, k23, k18, k1, k84, h.t]
  have hY := ((h.uacc (k := 1) (v := Y 2 1 + 1) (by decide)).usrc hs (w := 23) (b := 15) (v := Y (9 + s) 15 + 1) (by decide) (by decide) rfl (zz_n (by omega))).usrc hs (w := 16) (b := 8) (v := Y (9 + s) 8 + 1) (by decide) (by decide) rfl (zz_n (by omega))
  show (if Y (9 + s) 2 ≤ Y (9 + s) 8 + 1 then _ else _ : Int32 × St).1 = _ ∧ ∃ d' q', RM τ N d' q' (if Y (9 + s) 2 ≤ Y (9 + s) 8 + 1 then _ else _ : Int32 × St).2 _ ∧ _
  by_cases c : Y (9 + s) 2 ≤ Y (9 + s) 8 + 1
  · rw [if_pos c, if_pos c]
    refine ⟨rfl, d, (q + 1) % 20, ?_⟩
    dsimp only
    -- the row behind the handler
    have hp := hY.pop hs (by rw [upd_n (by omega), upd_n (by omega), upd_n (by omega)]; exact es) (by rw [upd_n (by omega), upd_n (by omega), upd_n (by decide)]; exact h5)
    have hp2 := (hp.usrc hs (w := 16) (b := 8) (v := 0) (by decide) (by decide) rfl (zz_n (by omega))).usrc hs (w := 18) (b := 10) (v := Y (9 + s) 10 + 1) (by decide) (by decide) rfl (zz_n (by omega))
    have key : ∃ Z, up2 (f_X7_goOff (up2 (up2 (up2 Y 2 1 (Y 2 1 + 1)) (9 + s) 15 (Y (9 + s) 15 + 1)) (9 + s) 8 (Y (9 + s) 8 + 1)) s (Y 0 0 + 1)) 0 6 (nI d) = Z ∧ RM τ N d q Z (upd (upd (upd (upd (upd (upd (upd (X 1) 84 (Y 2 1 + 1)) (93 + 24 * s + 23) (Y (9 + s) 15 + 1)) (93 + 24 * s + 16) (Y (9 + s) 8 + 1)) 9 (nI d)) (93 + 24 * s + 16) 0) (93 + 24 * s + 18) (Y (9 + s) 10 + 1)) (93 + 24 * s + 6) (if Y (9 + s) 1 = 1 then Y 0 0 + 1 else X 1 (93 + 24 * s + 6))) := by
      refine ⟨_, rfl, ?_⟩
      have z1 : up2 (up2 (up2 Y 2 1 (Y 2 1 + 1)) (9 + s) 15 (Y (9 + s) 15 + 1)) (9 + s) 8 (Y (9 + s) 8 + 1) (9 + s) 1 = Y (9 + s) 1 := by rw [up2_j (by decide), up2_j (by decide), up2_k (by omega)]
      have z5 : up2 (up2 (up2 Y 2 1 (Y 2 1 + 1)) (9 + s) 15 (Y (9 + s) 15 + 1)) (9 + s) 8 (Y (9 + s) 8 + 1) (9 + s) 5 = Y (9 + s) 5 := by rw [up2_j (by decide), up2_j (by decide), up2_k (by omega)]
      have z10 : up2 (up2 (up2 Y 2 1 (Y 2 1 + 1)) (9 + s) 15 (Y (9 + s) 15 + 1)) (9 + s) 8 (Y (9 + s) 8 + 1) (9 + s) 10 = Y (9 + s) 10 := by rw [up2_j (by decide), up2_j (by decide), up2_k (by omega)]
      unfold f_X7_goOff
      rw [z1, z5, z10]
      generalize up2 (up2 (up2 Y 2 1 (Y 2 1 + 1)) (9 + s) 15 (Y (9 + s) 15 + 1)) (9 + s) 8 (Y (9 + s) 8 + 1) = V at hp2 ⊢
      by_cases c1 : Y (9 + s) 1 = 1
      · rw [if_pos c1, if_pos c1]
        by_cases cu : zb (Y (9 + s) 5) = 0
        · rw [if_pos cu, up2_comm (by omega), up2_comm (k' := 0) (by omega)]
          refine hp2.usinR ⟨?_, ?_⟩
          · rw [upd_n (by omega), upd_n (by omega), upd_n (by omega), upd_n (by omega), upd_n (by omega), upd_n (by omega), k1]; exact c1
          · rw [upd_n (by omega), upd_n (by omega), upd_n (by omega), upd_n (by omega), upd_n (by omega), upd_n (by omega), k5]; exact cu
        · rw [if_neg cu, up2_comm (k' := 0) (by omega), up2_comm (k' := 0) (j := 10) (by omega), up2_comm (k' := 0) (j := 8) (by omega)]
          exact hp2.usin hs
      · rw [if_neg c1, if_neg c1, up2_comm (by omega), up2_comm (k' := 0) (by omega)]
        have e6 : (upd (upd (upd (upd (upd (upd (X 1) 84 (Y 2 1 + 1)) (93 + 24 * s + 23) (Y (9 + s) 15 + 1)) (93 + 24 * s + 16) (Y (9 + s) 8 + 1)) 9 (nI d)) (93 + 24 * s + 16) 0) (93 + 24 * s + 18) (Y (9 + s) 10 + 1)) (93 + 24 * s + 6) = X 1 (93 + 24 * s + 6) := by
          rw [upd_n (by omega), upd_n (by omega), upd_n (by omega), upd_n (by omega), upd_n (by omega), upd_n (by omega)]
        rw [← e6, upd_id]
        exact hp2
    have g0 : f_X7_goOff (up2 (up2 (up2 Y 2 1 (Y 2 1 + 1)) (9 + s) 15 (Y (9 + s) 15 + 1)) (9 + s) 8 (Y (9 + s) 8 + 1)) s (Y 0 0 + 1) 0 6 = nI (d + 1) := by
      rw [goOff_06, up2_k (by omega), up2_k (by omega), up2_k (by decide), h.md]
    have g1 : f_X7_goOff (up2 (up2 (up2 Y 2 1 (Y 2 1 + 1)) (9 + s) 15 (Y (9 + s) 15 + 1)) (9 + s) 8 (Y (9 + s) 8 + 1)) s (Y 0 0 + 1) 0 0 = Y 0 0 := by
      unfold f_X7_goOff
      split
      · split
        · rw [up2_k (by omega), up2_k (by omega), up2_k (by omega), up2_k (by omega), up2_k (by omega), up2_k (by decide)]
        · rw [up2_k (by omega), up2_k (by omega), up2_k (by omega), up2_k (by omega), up2_k (by omega), up2_k (by omega), up2_k (by decide)]
      · rw [up2_k (by omega), up2_k (by omega), up2_k (by omega), up2_k (by omega), up2_k (by omega), up2_k (by decide)]
    rw [g0, g1, nI_pred]
    obtain ⟨Z, eZ, hZ⟩ := key
    rw [eZ]
    have hl := hZ.log 2 (nI s) (Y 0 0 + 1)
    have hrow : ∀ W : St, W 1 = upd (upd (upd (upd (upd (upd (upd (X 1) 84 (Y 2 1 + 1)) (93 + 24 * s + 23) (Y (9 + s) 15 + 1)) (93 + 24 * s + 16) (Y (9 + s) 8 + 1)) 9 (nI d)) (93 + 24 * s + 16) 0) (93 + 24 * s + 18) (Y (9 + s) 10 + 1)) (93 + 24 * s + 6) (if Y (9 + s) 1 = 1 then Y 0 0 + 1 else X 1 (93 + 24 * s + 6)) → RM τ N d ((q + 1) % 20) (f_X5_beginExit (f_X3_add Z 2 (nI s) (Y 0 0 + 1))) ((f_X9_changes (f_X9_logs W 2 (nI s) (Y 0 0 + 1)) 2 (-1) ((f_X9_logs W 2 (nI s) (Y 0 0 + 1)) 1 3)) 1) ∧ RT ((f_X9_changes (f_X9_logs W 2 (nI s) (Y 0 0 + 1)) 2 (-1) ((f_X9_logs W 2 (nI s) (Y 0 0 + 1)) 1 3)) 1) := fun W hW => by
      refine RM.exit (σ := f_X9_logs W 2 (nI s) (Y 0 0 + 1)) ?_
      rw [logs_row, hW]
      exact hl
    exact hrow _ (by rw [up2_row, up2_row, up2_row, up2_row, up2_row, up2_row, up2_row])
  · rw [if_neg c, if_neg c]
    refine ⟨rfl, d + 1, q, ?_, ?_⟩
    · show RM τ N (d + 1) q _ ((up2 (up2 (up2 X 1 84 (Y 2 1 + 1)) 1 (93 + 24 * s + 23) (Y (9 + s) 15 + 1)) 1 (93 + 24 * s + 16) (Y (9 + s) 8 + 1)) 1)
      rw [up2_row, up2_row, up2_row]
      exact hY
    · intro hn
      exfalso
      apply hn
      show (up2 (up2 (up2 X 1 84 (Y 2 1 + 1)) 1 (93 + 24 * s + 23) (Y (9 + s) 15 + 1)) 1 (93 + 24 * s + 16) (Y (9 + s) 8 + 1)) 1 5 = 0
      rw [up2_row, up2_row, up2_row, upd_n (by omega), upd_n (by omega), upd_n (by decide)]
      exact h5
theorem sp_chg (h : RM τ N d q Y (X 1)) (h5 : X 1 5 ≠ 0) (hT : RT (X 1)) (hp : TPr N d Y (X 1)) (hτ : τ < 2147483647) : (sp5 Y).1 = (f_X9_spends X).1 ∧ ∃ d' q', RM (τ + 1) N d' q' (sp5 Y).2 ((f_X9_spends X).2 1) ∧ RT ((f_X9_spends X).2 1) := by
  have hN := h.N12
  have hd := h.d12
  have h7 := hT h5
  have e9 := show f_X9_spends X = _ from if_neg h5
  have e5 := show sp5 Y = _ from if_neg (fun z => h5 (h.c5.trans z))
  rw [e9, e5]
  clear e9 e5
  unfold f_X5_spendOnChange
  dsimp only
  rw [h.c7, show X 1 85 = Y 2 2 from h.acc (k := 2) (by decide), h.t]
  have hY := (h.uacc (k := 2) (v := Y 2 2 + 1) (by decide)).uleft (v := Y 0 9 - 1)
  have hrow : (up2 (up2 X 1 85 (Y 2 2 + 1)) 1 7 (Y 0 9 - 1)) 1 = upd (upd (X 1) (83 + 2) (Y 2 2 + 1)) 7 (Y 0 9 - 1) := by rw [up2_row, up2_row]
  rw [← hrow] at hY
  have hp' : TPr N d (up2 (up2 Y 2 2 (Y 2 2 + 1)) 0 9 (Y 0 9 - 1)) ((up2 (up2 X 1 85 (Y 2 2 + 1)) 1 7 (Y 0 9 - 1)) 1) := by
    intro hq
    rw [hrow] at hq ⊢
    rw [upd_n (by decide), upd_n (by decide)] at hq
    obtain ⟨s, e6, hr⟩ := hp hq
    exact ⟨s, by rw [upd_n (by decide), upd_n (by decide)]; exact e6, rdy_up hd (rdy_up hd hr (by decide) (by decide) hN) (by decide) (by decide) hN⟩
  have e05 : (up2 (up2 X 1 85 (Y 2 2 + 1)) 1 7 (Y 0 9 - 1)) 1 5 = X 1 5 := by rw [hrow, upd_n (by decide), upd_n (by decide)]
  rw [h.c7] at h7
  have hm1 : (Y 0 9 - 1).toInt = (Y 0 9).toInt - 1 := by
    obtain ⟨k, hk, e⟩ := nI_of (x := Y 0 9) (by rw [i32_lt]; have : (0 : Int32).toInt = 0 := rfl; omega)
    rw [e] at h7 ⊢
    rw [nI_toInt hk] at h7 ⊢
    rw [show (1 : Int32) = nI 1 from rfl, pk_sub (by omega), nI_toInt (by omega)]
    omega
  have ciff : (Y 0 9 - 1 ≤ 0) ↔ (Y 0 9 - 1 = 0) := by
    rw [i32_le]
    have h00 : (0 : Int32).toInt = 0 := rfl
    constructor
    · intro z; exact Int32.toInt_inj.mp (by omega)
    · intro z; rw [z]; decide
  have he := ent_eq hY
  by_cases c : Y 0 9 - 1 = 0
  · rw [if_pos (ciff.mpr c), if_pos c, he]
    by_cases ce : f_X9_isEntering (up2 (up2 X 1 85 (Y 2 2 + 1)) 1 7 (Y 0 9 - 1)) = 0
    · rw [if_pos ce, if_pos ce]
      obtain ⟨x1, x2⟩ := RM.none (σ := up2 (up2 X 1 85 (Y 2 2 + 1)) 1 7 (Y 0 9 - 1)) hY
      exact ⟨rfl, d, q, x1.mono (by omega), fun hn => absurd x2 hn⟩
    · rw [if_neg ce, if_neg ce]
      obtain ⟨s, e6, hs, hk, hsin⟩ := hp' (ent_of rfl ce)
      obtain ⟨q', x1, x2⟩ := top_sim (t := Y 0 0 + 1) hY hs e6 hk hsin hτ
      refine ⟨rfl, d + 1, q', x1, ?_⟩
      unfold RT
      dsimp only
      generalize (f_X9_comesOnTop (up2 (up2 X 1 85 (Y 2 2 + 1)) 1 7 (Y 0 9 - 1)) (Y 0 0 + 1)) 1 = W at x2 ⊢
      exact fun hn => absurd x2 hn
  · rw [if_neg (fun z => c (ciff.mp z)), if_neg c]
    refine ⟨rfl, d, q, hY.mono (by omega), fun _ => ?_⟩
    show 1 ≤ ((up2 (up2 X 1 85 (Y 2 2 + 1)) 1 7 (Y 0 9 - 1)) 1 7).toInt
    rw [up2_s]
    have : (Y 0 9 - 1).toInt ≠ 0 := fun z => c (Int32.toInt_inj.mp z)
    omega
end Sp
/-- one tick -/
theorem tick_sim {τ : Int} {N d q : Nat} {μ σ : St} (h : RM τ N d q μ (σ 1)) (hT : RT (σ 1)) (hτ : τ < 2147483647) : (f_X5_tick μ).1 = (f_X9_tick σ).1 ∧ ∃ d' q', RM (τ + 1) N d' q' (f_X5_tick μ).2 ((f_X9_tick σ).2 1) ∧ RT ((f_X9_tick σ).2 1) := by
  obtain ⟨⟨q1, h1⟩, hlo⟩ := ring_sim fu13 0 τ N d q μ σ (by unfold fu13; omega) h
  have hT1 : RT ((f_X9_tick_l2 fu13 0 σ) 1) := by
    unfold RT
    rw [hlo 5 (by decide), hlo 7 (by decide)]
    exact hT
  have ec : f_X5_tick μ = ((sp5 (fin5 (f_X5_arrange (f_X5_ringTimers_l2 fu13 0 μ) (f_X9_candidate (f_X9_tick_l2 fu13 0 σ))))).1, up2 (sp5 (fin5 (f_X5_arrange (f_X5_ringTimers_l2 fu13 0 μ) (f_X9_candidate (f_X9_tick_l2 fu13 0 σ))))).2 0 0 ((sp5 (fin5 (f_X5_arrange (f_X5_ringTimers_l2 fu13 0 μ) (f_X9_candidate (f_X9_tick_l2 fu13 0 σ))))).2 0 0 + 1)) := by
    rw [← cand_eq h1]
    show (let s38 := fin5 (f_X5_arrange (f_X5_ringTimers_l2 fu13 0 μ) (f_X5_candidateAbove (f_X5_ringTimers_l2 fu13 0 μ) (f_X5_level (f_X5_ringTimers_l2 fu13 0 μ)))); (let w79_1 : Int32 := (if (s38 0 7) = 0 then (if (s38 0 6) ≤ 0 then 0 else (f_X5_spendOnHandler s38).1) else 0); let s79 : St := (if (s38 0 7) = 0 then (if (s38 0 6) ≤ 0 then up2 s38 2 0 ((s38 2 0) + 1) else (f_X5_spendOnHandler s38).2) else f_X5_spendOnChange s38); ((w79_1, up2 s79 0 0 ((s79 0 0) + 1)) : Int32 × St))) = _
    dsimp only
    generalize fin5 (f_X5_arrange (f_X5_ringTimers_l2 fu13 0 μ) (f_X5_candidateAbove (f_X5_ringTimers_l2 fu13 0 μ) (f_X5_level (f_X5_ringTimers_l2 fu13 0 μ)))) = Z
    unfold sp5
    by_cases c1 : Z 0 7 = 0
    · rw [if_pos c1, if_pos c1, if_pos c1]
      by_cases c2 : Z 0 6 ≤ 0
      · rw [if_pos c2, if_pos c2, if_pos c2]
      · rw [if_neg c2, if_neg c2, if_neg c2]
    · rw [if_neg c1, if_neg c1, if_neg c1]
  have e9 : f_X9_tick σ = ((f_X9_spends (f_X9_decides (f_X9_tick_l2 fu13 0 σ))).1, up2 (f_X9_spends (f_X9_decides (f_X9_tick_l2 fu13 0 σ))).2 1 0 ((f_X9_spends (f_X9_decides (f_X9_tick_l2 fu13 0 σ))).2 1 0 + 1)) := rfl
  rw [ec, e9]
  have harr := arr_sim h1 hT1 hτ
  generalize fin5 (f_X5_arrange (f_X5_ringTimers_l2 fu13 0 μ) (f_X9_candidate (f_X9_tick_l2 fu13 0 σ))) = Y at harr ⊢
  generalize f_X9_decides (f_X9_tick_l2 fu13 0 σ) = X at harr ⊢
  have hsp : (sp5 Y).1 = (f_X9_spends X).1 ∧ ∃ d' q', RM (τ + 1) N d' q' (sp5 Y).2 ((f_X9_spends X).2 1) ∧ RT ((f_X9_spends X).2 1) := by
    rcases harr with ⟨q2, ⟨r1, r2, r3⟩ | ⟨r1, r2⟩⟩
    · by_cases c5 : X 1 5 = 0
      · rcases Nat.eq_zero_or_pos d with rfl | hd
        · obtain ⟨x1, q3, x2, x3⟩ := sp_idle r1 c5
          exact ⟨x1, 0, q3, x2.mono (by omega), x3⟩
        · obtain ⟨d', rfl⟩ : ∃ d', d = d' + 1 := ⟨d - 1, by omega⟩
          obtain ⟨x1, d3, q3, x2, x3⟩ := sp_hand r1 c5
          exact ⟨x1, d3, q3, x2.mono (by omega), x3⟩
      · exact sp_chg r1 c5 r2 r3 hτ
    · obtain ⟨x1, d3, q3, x2, x3⟩ := sp_hand r1 r2
      exact ⟨x1, d3, q3, x2, x3⟩
  obtain ⟨x1, d3, q3, x2, x3⟩ := hsp
  refine ⟨x1, d3, q3, ?_, ?_⟩
  · show RM (τ + 1) N d3 q3 (up2 (sp5 Y).2 0 0 ((sp5 Y).2 0 0 + 1)) ((up2 (f_X9_spends X).2 1 0 ((f_X9_spends X).2 1 0 + 1)) 1)
    rw [up2_row, x2.t]
    exact x2.utime
  · show RT ((up2 (f_X9_spends X).2 1 0 ((f_X9_spends X).2 1 0 + 1)) 1)
    rw [up2_row]
    unfold RT
    rw [upd_n (by decide), upd_n (by decide)]
    exact x3
