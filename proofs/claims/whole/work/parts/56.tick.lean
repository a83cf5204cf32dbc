/-- who is entered may come on top -/
def TPr (N d : Nat) (μ : St) (ρ : Nat → Int32) : Prop := (ρ 5 = 1 ∨ ρ 5 = 3) → ∃ s, ρ 6 = nI s ∧ rdy N d s μ ρ
def RT0 (ρ : Nat → Int32) : Prop := ρ 5 ≠ 0 → 1 ≤ (ρ 7).toInt ∨ ((ρ 5 = 1 ∨ ρ 5 = 3) ∧ ρ 7 = 0)
theorem RT.to0 {ρ : Nat → Int32} (h : RT ρ) : RT0 ρ := fun hn => Or.inl (h hn)
theorem ge1_or0 {x : Int32} (h : 0 ≤ x.toInt) : 1 ≤ x.toInt ∨ x = 0 := by
  by_cases c : x.toInt = 0
  · exact Or.inr (Int32.toInt_inj.mp c)
  · left; omega
section Arr
variable {τ : Int} {N d q : Nat} {μ σ : St}
theorem ent_eq (h : RM τ N d q μ (σ 1)) : f_X5_isEntering μ = f_X9_isEntering σ := by
  unfold f_X5_isEntering f_X9_isEntering
  rw [h.c5]
theorem ent_0 {σ : St} (h : f_X9_isEntering σ = 0) : σ 1 5 ≠ 1 ∧ σ 1 5 ≠ 3 := by
  unfold f_X9_isEntering at h
  by_cases c1 : σ 1 5 = 1
  · rw [if_pos c1] at h; exact absurd h (by decide)
  · rw [if_neg c1] at h
    by_cases c3 : σ 1 5 = 3
    · rw [if_pos c3] at h; exact absurd h (by decide)
    · exact ⟨c1, c3⟩
def fin9 (X : St) : St := (let r246 := f_X9_isEntering X; (if r246 = 0 then X else (if (X 1 7) = 0 then (let s269 := f_X9_comesOnTop X (X 1 0); s269) else X)))
def fin5 (Y : St) : St := (let r17 := f_X5_isEntering Y; (if r17 = 0 then Y else (if (Y 0 9) = 0 then (let s35 := f_X5_bringOnTop Y (Y 0 0); s35) else Y)))
theorem fin_sim {X : St} {Y : St} (h : RM τ N d q Y (X 1)) (hp : TPr N d Y (X 1)) (ht : RT0 (X 1)) (hτ : τ < 2147483647) : ∃ q', (RM τ N d q' (fin5 Y) ((fin9 X) 1) ∧ RT ((fin9 X) 1) ∧ TPr N d (fin5 Y) ((fin9 X) 1)) ∨ (RM (τ + 1) N (d + 1) q' (fin5 Y) ((fin9 X) 1) ∧ (fin9 X) 1 5 = 0) := by
  have he := ent_eq h
  by_cases c : f_X9_isEntering X = 0
  · have e9 : fin9 X = X := if_pos c
    have e5 : fin5 Y = Y := if_pos (he.trans c)
    rw [e9, e5]
    refine ⟨q, Or.inl ⟨h, fun hn => ?_, hp⟩⟩
    rcases ht hn with h1 | ⟨h1, -⟩
    · exact h1
    · have := ent_0 c
      rcases h1 with h1 | h1
      · exact absurd h1 this.1
      · exact absurd h1 this.2
  · have e9 := show fin9 X = _ from if_neg c
    have e5 := show fin5 Y = _ from if_neg (fun z => c (he.symm.trans z))
    have hen := ent_of (σ := X) rfl c
    by_cases c7 : X 1 7 = 0
    · rw [e9, e5, if_pos c7, if_pos (h.c7.symm.trans c7), h.t]
      obtain ⟨s, e6, hs, hk, hsin⟩ := hp hen
      obtain ⟨q', h1, h2⟩ := top_sim (t := Y 0 0) h hs e6 hk hsin hτ
      exact ⟨q', Or.inr ⟨h1, h2⟩⟩
    · rw [e9, e5, if_neg c7, if_neg (fun z => c7 (h.c7.trans z))]
      refine ⟨q, Or.inl ⟨h, fun hn => ?_, hp⟩⟩
      rcases ht hn with h1 | ⟨-, h1⟩
      · exact h1
      · exact absurd h1 c7
theorem rdy_log {s : Nat} {μ : St} {ρ : Nat → Int32} {a b c : Int32} (hd : d ≤ 12) (h : rdy N d s μ ρ) : rdy N d s (f_X3_add μ a b c) (lgr ρ a b c) := by
  obtain ⟨h1, h2, h3⟩ := h
  exact ⟨h1, fun k hk => by rw [lgr_o (by omega)]; exact h2 k hk, by rw [lgr_o (by omega), add_o (by omega)]; exact h3⟩
theorem rdy_up {s : Nat} {μ : St} {ρ : Nat → Int32} {k b j : Nat} {v w : Int32} (hd : d ≤ 12) (h : rdy N d s μ ρ) (hj : j < 10 ∨ (83 ≤ j ∧ j < 93) ∨ (93 ≤ j ∧ (j - 93) % 24 ≠ 6)) (hb : ¬ (9 ≤ k ∧ k < 21 ∧ b = 6)) (hN : N ≤ 12) : rdy N d s (up2 μ k b v) (upd ρ j w) := by
  obtain ⟨h1, h2, h3⟩ := h
  refine ⟨h1, fun k hk => by rw [upd_n (by omega)]; exact h2 k hk, ?_⟩
  rw [upd_n (by omega), show up2 μ k b v (9 + s) 6 = μ (9 + s) 6 from if_neg (by omega)]
  exact h3
theorem dec_eq (σ : St) : f_X9_decides σ = fin9 (if f_X9_isEntering σ = 0 then (if f_X9_candidate σ = (-1) then σ else (if (σ 1 5) = 2 then (let s131 := f_X9_changes σ 3 (f_X9_candidate σ) (σ 1 4); f_X9_logs (up2 s131 1 87 ((s131 1 87) + 1)) 5 (f_X9_candidate σ) (s131 1 0)) else (let s174 := f_X9_changes σ 1 (f_X9_candidate σ) (σ 1 2); (if (s174 1 9) ≤ 0 then s174 else f_X9_logs (up2 (up2 s174 1 (ix (s174 1 (9 + (s174 1 9).toNatClampNeg)) + 22) ((s174 1 (ix (s174 1 (9 + (s174 1 9).toNatClampNeg)) + 22)) + 1)) 1 88 ((s174 1 88) + 1)) 6 (s174 1 (9 + (s174 1 9).toNatClampNeg)) (s174 1 0))))) else (if f_X9_candidate σ = (-1) then (let s44 := f_X9_logs (up2 σ 1 89 ((σ 1 89) + 1)) 7 (σ 1 6) (σ 1 0); f_X9_changes s44 2 (-1) (s44 1 3)) else (if f_X9_candidate σ = (σ 1 6) then σ else f_X9_logs (up2 (up2 σ 1 6 (f_X9_candidate σ)) 1 86 ((σ 1 86) + 1)) 4 (f_X9_candidate σ) (σ 1 0)))) := by
  unfold f_X9_decides fin9
  dsimp only
  by_cases c1 : f_X9_isEntering σ = 0
  · rw [if_pos c1, if_pos c1]
    by_cases c2 : f_X9_candidate σ = (-1)
    · rw [if_pos c2, if_pos c2, if_pos c2]
    · rw [if_neg c2, if_neg c2, if_neg c2]
  · rw [if_neg c1, if_neg c1]
/-- what changes ahead of the spending of a tick -/
theorem arr_sim (h : RM τ N d q μ (σ 1)) (hT : RT (σ 1)) (hτ : τ < 2147483647) : ∃ q', (RM τ N d q' (fin5 (f_X5_arrange μ (f_X9_candidate σ))) ((f_X9_decides σ) 1) ∧ RT ((f_X9_decides σ) 1) ∧ TPr N d (fin5 (f_X5_arrange μ (f_X9_candidate σ))) ((f_X9_decides σ) 1)) ∨ (RM (τ + 1) N (d + 1) q' (fin5 (f_X5_arrange μ (f_X9_candidate σ))) ((f_X9_decides σ) 1) ∧ (f_X9_decides σ) 1 5 = 0) := by
  have hN := h.N12
  have hd := h.d12
  have he := ent_eq h
  rw [dec_eq]
  have hc := cand_sim h
  generalize f_X9_candidate σ = r at hc ⊢
  by_cases c1 : f_X9_isEntering σ = 0
  · have hne := ent_0 c1
    have ea := show f_X5_arrange μ r = _ from if_pos (he.trans c1)
    rw [if_pos c1, ea]
    by_cases c2 : r = -1
    · rw [if_pos c2, if_pos c2]
      exact fin_sim h (fun hq => by rcases hq with hq | hq; exact absurd hq hne.1; exact absurd hq hne.2) hT.to0 hτ
    · rw [if_neg c2, if_neg c2]
      obtain ⟨s, es, hr⟩ := hc.resolve_left c2
      by_cases c3 : σ 1 5 = 2
      · rw [if_pos c3, if_pos (h.c5.symm.trans c3)]
        dsimp only
        have e4 : σ 1 4 = μ 1 3 := h.set (k := 3) (by decide)
        have h4 : 0 ≤ (σ 1 4).toInt := h.rv.1 3 (by decide)
        have hch : RM τ N d q (f_X5_setChange μ 3 r (μ 1 3)) ((f_X9_changes σ 3 r (σ 1 4)) 1) := by
          rw [changes_row, if_neg (by decide), e4]
          exact h.uchg (Or.inr (Or.inr (Or.inr rfl))) (fun _ => ⟨s, hr.1, es, hr.2.1⟩)
        have rch : rdy N d s (f_X5_setChange μ 3 r (μ 1 3)) ((f_X9_changes σ 3 r (σ 1 4)) 1) := by
          rw [changes_row, if_neg (by decide)]
          exact rdy_up hd (rdy_up hd (rdy_up hd hr (by decide) (by decide) hN) (by decide) (by decide) hN) (by decide) (by decide) hN
        have hl := (hch.uacc (k := 4) (v := f_X5_setChange μ 3 r (μ 1 3) 2 4 + 1) (by decide)).log 5 r (f_X5_setChange μ 3 r (μ 1 3) 0 0)
        have rl := rdy_log (a := 5) (b := r) (c := f_X5_setChange μ 3 r (μ 1 3) 0 0) hd (rdy_up (k := 2) (b := 4) (j := 83 + 4) (v := f_X5_setChange μ 3 r (μ 1 3) 2 4 + 1) (w := f_X5_setChange μ 3 r (μ 1 3) 2 4 + 1) hd rch (by decide) (by decide) hN)
        have er : (f_X9_logs (up2 (f_X9_changes σ 3 r (σ 1 4)) 1 87 ((f_X9_changes σ 3 r (σ 1 4)) 1 87 + 1)) 5 r ((f_X9_changes σ 3 r (σ 1 4)) 1 0)) 1 = lgr (upd ((f_X9_changes σ 3 r (σ 1 4)) 1) (83 + 4) (f_X5_setChange μ 3 r (μ 1 3) 2 4 + 1)) 5 r (f_X5_setChange μ 3 r (μ 1 3) 0 0) := by
          rw [logs_row, up2_row, hch.t, show (f_X9_changes σ 3 r (σ 1 4)) 1 87 = _ from hch.acc (k := 4) (by decide)]
        rw [← er] at hl rl
        have r5 : (f_X9_changes σ 3 r (σ 1 4)) 1 5 = 3 := by rw [changes_row, if_neg (by decide), upd_n (by decide), upd_n (by decide), upd_s]
        have r6 : (f_X9_changes σ 3 r (σ 1 4)) 1 6 = r := by rw [changes_row, upd_n (by decide), upd_s]
        have r7 : (f_X9_changes σ 3 r (σ 1 4)) 1 7 = σ 1 4 := by rw [changes_row, upd_s]
        refine fin_sim hl (fun _ => ⟨s, ?_, rl⟩) (fun _ => ?_) hτ
        · rw [er, lgr_o (by decide), upd_n (by decide), r6]; exact es
        · rw [er, lgr_o (by decide), lgr_o (by decide), upd_n (by decide), upd_n (by decide), r7, r5]
          rcases ge1_or0 h4 with h9 | h9
          · exact Or.inl h9
          · exact Or.inr ⟨Or.inr rfl, h9⟩
      · rw [if_neg c3, if_neg (fun z => c3 (h.c5.trans z))]
        dsimp only
        have e2 : σ 1 2 = μ 1 1 := h.set (k := 1) (by decide)
        have h2 : 0 ≤ (σ 1 2).toInt := h.rv.1 1 (by decide)
        have hch : RM τ N d q (f_X5_setChange μ 1 r (μ 1 1)) ((f_X9_changes σ 1 r (σ 1 2)) 1) := by
          rw [changes_row, if_neg (by decide), e2]
          exact h.uchg (Or.inr (Or.inl rfl)) (fun _ => ⟨s, hr.1, es, hr.2.1⟩)
        have rch : rdy N d s (f_X5_setChange μ 1 r (μ 1 1)) ((f_X9_changes σ 1 r (σ 1 2)) 1) := by
          rw [changes_row, if_neg (by decide)]
          exact rdy_up hd (rdy_up hd (rdy_up hd hr (by decide) (by decide) hN) (by decide) (by decide) hN) (by decide) (by decide) hN
        have r5 : (f_X9_changes σ 1 r (σ 1 2)) 1 5 = 1 := by rw [changes_row, if_neg (by decide), upd_n (by decide), upd_n (by decide), upd_s]
        have r6 : (f_X9_changes σ 1 r (σ 1 2)) 1 6 = r := by rw [changes_row, upd_n (by decide), upd_s]
        have r7 : (f_X9_changes σ 1 r (σ 1 2)) 1 7 = σ 1 2 := by rw [changes_row, upd_s]
        have md : f_X5_setChange μ 1 r (μ 1 1) 0 6 = nI d := hch.md
        have hrd : (f_X9_changes σ 1 r (σ 1 2)) 1 9 = nI d := hch.2.1.2.1
        unfold f_X5_beginEntry
        dsimp only
        generalize f_X5_setChange μ 1 r (μ 1 1) = Y at *
        generalize f_X9_changes σ 1 r (σ 1 2) = X at *
        rw [hrd, md]
        by_cases cd : d = 0
        · subst cd
          rw [if_pos (by decide)]
          have ef : f_X5_find Y (f_X5_stackedAt Y (nI 0 - 1)) = none := by
            have es1 : f_X5_stackedAt Y (nI 0 - 1) = -1 := if_pos (by decide)
            rw [es1]
            exact if_pos (by decide)
          rw [ef]
          refine fin_sim hch (fun _ => ⟨s, r6.trans es, rch⟩) (fun _ => ?_) hτ
          rw [r7, r5]
          rcases ge1_or0 h2 with h9 | h9
          · exact Or.inl h9
          · exact Or.inr ⟨Or.inl rfl, h9⟩
        · obtain ⟨d', rfl⟩ : ∃ d', d = d' + 1 := ⟨d - 1, by omega⟩
          rw [if_neg (by rw [show (0 : Int32) = nI 0 from rfl, nI_leI (by omega) (by decide)]; omega), nI_pred, nI_clamp (by omega), stk_at (σ := X) hch (by omega), show 9 + (d' + 1) = 10 + d' by omega]
          obtain ⟨z, hz, ez⟩ := hch.rp.1 d' (by omega)
          rw [ez, find_some hch hz, ix_nI (by omega)]
          show ∃ q', (RM τ N (d' + 1) q' (fin5 (f_X3_add (up2 (up2 Y (9 + z) 14 (Y (9 + z) 14 + 1)) 2 5 (Y 2 5 + 1)) 6 (nI z) (Y 0 0))) _ ∧ _ ∧ _) ∨ _
          have hl := ((hch.usrc hz (w := 22) (b := 14) (v := Y (9 + z) 14 + 1) (by decide) (by decide) rfl (zz_n (by omega))).uacc (k := 5) (v := Y 2 5 + 1) (by decide)).log 6 (nI z) (Y 0 0)
          have rl := rdy_log (a := 6) (b := nI z) (c := Y 0 0) hd (rdy_up (k := 2) (b := 5) (j := 83 + 5) (v := Y 2 5 + 1) (w := Y 2 5 + 1) hd (rdy_up (k := 9 + z) (b := 14) (j := 93 + 24 * z + 22) (v := Y (9 + z) 14 + 1) (w := Y (9 + z) 14 + 1) hd rch (by omega) (by omega) hN) (by decide) (by decide) hN)
          have er : (f_X9_logs (up2 (up2 X 1 (93 + 24 * z + 22) (X 1 (93 + 24 * z + 22) + 1)) 1 88 (X 1 88 + 1)) 6 (nI z) (X 1 0)) 1 = lgr (upd (upd (X 1) (93 + 24 * z + 22) (Y (9 + z) 14 + 1)) (83 + 5) (Y 2 5 + 1)) 6 (nI z) (Y 0 0) := by
            rw [logs_row, up2_row, up2_row, hch.t, hch.f hz (w := 22) (b := 14) (by decide) (by decide) rfl (by decide), show X 1 88 = _ from hch.acc (k := 5) (by decide)]
          rw [← er] at hl rl
          refine fin_sim hl (fun _ => ⟨s, ?_, rl⟩) (fun _ => ?_) hτ
          · rw [er, lgr_o (by decide), upd_n (by decide), upd_n (by omega), r6]; exact es
          · rw [er, lgr_o (by decide), lgr_o (by decide), upd_n (by decide), upd_n (by omega), upd_n (by decide), upd_n (by omega), r7, r5]
            rcases ge1_or0 h2 with h9 | h9
            · exact Or.inl h9
            · exact Or.inr ⟨Or.inl rfl, h9⟩
  · have hen := ent_of (σ := σ) rfl c1
    have ea := show f_X5_arrange μ r = _ from if_neg (fun z => c1 (he.symm.trans z))
    rw [if_neg c1, ea]
    by_cases c2 : r = -1
    · rw [if_pos c2, if_pos c2]
      dsimp only
      have hl := (h.uacc (k := 6) (v := μ 2 6 + 1) (by decide)).log 7 (μ 0 8) (μ 0 0)
      have er : (f_X9_logs (up2 σ 1 89 (σ 1 89 + 1)) 7 (σ 1 6) (σ 1 0)) 1 = lgr (upd (σ 1) (83 + 6) (μ 2 6 + 1)) 7 (μ 0 8) (μ 0 0) := by
        rw [logs_row, up2_row, h.t, h.c6, show σ 1 89 = _ from h.acc (k := 6) (by decide)]
      rw [← er] at hl
      obtain ⟨x1, x2⟩ := RM.exit (σ := f_X9_logs (up2 σ 1 89 (σ 1 89 + 1)) 7 (σ 1 6) (σ 1 0)) hl
      refine fin_sim x1 (fun hq => ?_) x2.to0 hτ
      exfalso
      rw [changes_row, upd_n (by decide), upd_n (by decide), upd_s] at hq
      revert hq
      rw [if_pos rfl]
      split <;> decide
    · rw [if_neg c2, if_neg c2]
      obtain ⟨s, es, hr⟩ := hc.resolve_left c2
      by_cases c6 : r = σ 1 6
      · rw [if_pos c6, if_pos (c6.trans h.c6)]
        exact fin_sim h (fun _ => ⟨s, c6.symm.trans es, hr⟩) hT.to0 hτ
      · rw [if_neg c6, if_neg (fun z => c6 (z.trans h.c6.symm))]
        rw [es]
        have hl := ((h.uwho hr.1 hr.2.1).uacc (k := 3) (v := μ 2 3 + 1) (by decide)).log 4 (nI s) (μ 0 0)
        have rl := rdy_log (a := 4) (b := nI s) (c := μ 0 0) hd (rdy_up (k := 2) (b := 3) (j := 83 + 3) (v := μ 2 3 + 1) (w := μ 2 3 + 1) hd (rdy_up (k := 0) (b := 8) (j := 6) (v := nI s) (w := nI s) hd hr (by decide) (by decide) hN) (by decide) (by decide) hN)
        have er : (f_X9_logs (up2 (up2 σ 1 6 (nI s)) 1 86 (σ 1 86 + 1)) 4 (nI s) (σ 1 0)) 1 = lgr (upd (upd (σ 1) 6 (nI s)) (83 + 3) (μ 2 3 + 1)) 4 (nI s) (μ 0 0) := by
          rw [logs_row, up2_row, up2_row, h.t, show σ 1 86 = _ from h.acc (k := 3) (by decide)]
        rw [← er] at hl rl
        refine fin_sim (Y := f_X5_takeOver μ (nI s)) hl (fun _ => ⟨s, ?_, rl⟩) (fun _ => Or.inl ?_) hτ
        · rw [er, lgr_o (by decide), upd_n (by decide), upd_s]
        · rw [er, lgr_o (by decide), upd_n (by decide), upd_n (by decide)]
          exact hT (by rcases hen with z | z <;> rw [z] <;> decide)
end Arr
