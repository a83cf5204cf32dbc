/-! a text of commands that is run by both -/
theorem saves_k {σ : St} {k j : Nat} (h : k ≠ 2) (h2 : ¬ (k = 0 ∧ j = 3)) : f_X9_saves σ k j = σ k j := saves_o ⟨h, h2⟩
theorem saves_r {σ : St} {k : Nat} (h : k ≠ 2) (h2 : k ≠ 0) : f_X9_saves σ k = σ k := funext fun _ => saves_o ⟨h, fun q => h2 q.1⟩
section Rn
variable {L : Nat}
theorem second_sim : ∀ (n k : Nat) (a : Int32) (P : Nat) (τ : Int) (t ut : St), k + n = 151 → k ≤ P → 0 ≤ τ → τ + 501 * n < 2147483000 → SR τ L P t ut → (∃ m, sc m (f_X9_skips ut).2) → ∃ a' t' u', f_X8_runCommands_l45 n k a t = (a', t') ∧ f_X9_runCommands_l70 n a (f_X9_skips ut).2 = (a', u') ∧ SE (τ + 501 * n) L t ut t' u'
  | 0, k, a, P, τ, t, ut, hkn, hk, _, _, h, _ => absurd h.1.1.1 (by have := h.1.2.1; omega)
  | n + 1, k, a, P, τ, t, ut, hkn, hk, h0, ht, ⟨hT, hM, hw⟩, ⟨m, hsc⟩ => by
    have hL := hT.1.1
    obtain ⟨P1, g1, g2, g4, g5⟩ := read_sim hT
    have g6 := g2.2.1
    have sk5 : (f_X9_skips ut).2 5 = ut 5 := skip_5 _ _
    have hw' : (f_X9_skips ut).2 0 7 = t 0 4 := (g4 0 7 (by decide) (by omega)).trans hw.symm
    have hend : P1 = L → (f_X9_skips ut).2 0 6 ≤ (f_X9_skips ut).2 0 8 := fun e => by rw [end_eq9 g2]; omega
    have hgo : P1 < L → ¬ (f_X9_skips ut).2 0 6 ≤ (f_X9_skips ut).2 0 8 := fun e => by rw [end_eq9 g2]; omega
    have hMn : RMx (τ + 501 * (n + 1 : Nat)) (sb (gmM 0) t) ((f_X9_skips ut).2 1) := by rw [g4.r1]; exact hM.mono (by omega)
    generalize (f_X9_skips ut).2 = U at *
    have stay : SE (τ + 501 * (n + 1 : Nat)) L t ut t U := ⟨hMn, hw'.symm, hT.1.c rfl rfl rfl (g4 0 6 (by decide) (by omega)) g4.r4 sk5, fun _ _ _ _ => rfl, rf.fq g4⟩
    by_cases c150 : 150 ≤ nI k
    · have e150 := c150
      rw [show (150 : Int32) = nI 150 from rfl, nI_leI (by decide) (by omega)] at e150
      exact ⟨a, t, U, l45_150 c150, l70_end (hend (by omega)), stay⟩
    by_cases cw : t 0 4 = 0
    · have e1 := l45_go (n := n) (a := a) c150 cw
      rcases g5 with ⟨eL, q1, q2⟩ | ⟨cL, q⟩
      · rw [q1] at e1
        dsimp only at e1
        rw [if_pos (show (0 : Int32) = 0 from rfl)] at e1
        refine ⟨a, _, U, e1, l70_end (hend eL), ?_, ?_, ?_, ?_, rf.fq g4⟩
        · rw [xM_sb]; exact hMn
        · rw [xM (by decide)]; exact hw'.symm
        · exact g2.1.c rfl rfl rfl rfl rfl rfl
        · intro k' h1 h2 h3
          exact xM h2
      · have hne : ¬ (f_X9_reads U).1 = 0 ∧ ∃ m', sc m' (f_X9_skips (f_X9_reads U).2).2 := by
          cases m with
          | zero => exact absurd hsc (hgo cL)
          | succ m' =>
            have h1 := Or.resolve_left hsc (hgo cL)
            exact ⟨h1.1, m', h1.2⟩
        obtain ⟨hne, m', hs'⟩ := hne
        rcases q with ⟨F, f1, f2, f3, f4, f5, f6, f7⟩ | ⟨P2, j, f0, hj, f2, f3, f4, f5, f6, f7, f8⟩
        · exact absurd f3 hne
        · have w7 : (f_X9_reads U).2 0 7 = 0 := (f5 0 7 (by decide) (by omega)).trans (hw.symm.trans cw)
          obtain ⟨a', t', s', o1, o2, o3, o4, hSR, hcf, hrf, hag⟩ := one_sim (a := a) hj h0 (by omega) f4 (by rw [f5.r1]; exact hM) f7 f8 cw w7
          rw [if_neg (by rw [f2]; decide), o1, o2] at e1
          have e2 := l70_go (n := n) (a := a) (hgo cL) (hw'.trans cw) rfl
          rw [o3, o4] at e2
          obtain ⟨a2, t2, u2, i1, i2, i3, i4, i5, i6, i7⟩ := second_sim n (k + 1) a' P2 (τ + 501) t' s' (by omega) (by omega) (by omega) (by omega) hSR ⟨m', sc_ag m' _ _ (ag_skips hag).2 hs'⟩
          exact ⟨a2, t2, u2, e1.trans i1, e2.trans i2, i3.mono (by omega), i4, i5, hcf.trans i6, ((rf.fq f5).trans hrf).trans i7⟩
    · exact ⟨a, t, U, l45_why c150 cw, l70_why (by rw [hw']; exact cw), stay⟩
end Rn
/-- an undoable call that is done, also of the text -/
theorem RBg.done2 {τ τ' : Int} {β δ T B : St} (h : RBg τ β δ) (ht : τ ≤ τ') (hT : cf (f_X4_prepare β) T) (hM : RMx τ' (sb (gmM 0) T) (B 1)) (hX : RX T B) (hw : T 0 4 = B 0 7) (h2 : B 2 = (f_X9_saves δ) 2) (h3 : B 0 3 = f_X9_saves δ 0 3) : RBg τ' (f_X4_keep T) B := by
  obtain ⟨hM0, ⟨c, nx, hc, hn, b12, d03, b11, hr⟩, -, -⟩ := h
  have e := prep_eq b11 hn
  obtain ⟨s1, s2, -, -⟩ := saves_row (σ := δ) hc d03
  rw [e] at hT
  have zM : ∀ q a, 2 ≤ q → T (gmM q a) = cpB (2 + nx) 0 β (gmM q a) := fun q a hq => hT _ (by unfold gmM; omega) (by unfold gmM; omega) (by unfold gmM; omega)
  have zlo : T 1 = β 1 := (hT 1 (by decide) (by decide) (by decide)).trans (cpB_low (by decide))
  have z1 : T 1 1 = nI nx := by rw [zlo]; exact b11
  have z2 : T 1 2 = nI c := by rw [zlo]; exact b12
  refine ⟨?_, ⟨if c = 4 then 4 else c + 1, (nx + 1) % 5, by split <;> omega, Nat.mod_lt _ (by decide), keep_12 z2 hc, by rw [h3]; exact s1, keep_11 z1 hn, fun j hj => ?_⟩, ?_, ?_⟩
  · refine hM.mcong (fun a b ha => ?_)
    show f_X4_keep _ (gmM 0 a) b = T (gmM 0 a) b
    rw [keep_o (by unfold gmM; omega)]
  · by_cases cj : j = (if c = 4 then 3 else c)
    · have hq : 2 + ((nx + 1) % 5 + 5 - (if c = 4 then 4 else c + 1) + j) % 5 = 2 + nx := by
        by_cases c4 : c = 4
        · rw [if_pos c4] at cj ⊢; omega
        · rw [if_neg c4] at cj ⊢; omega
      rw [hq]
      refine ((hM0.mono ht).copy (μ' := sb (gmM (2 + nx)) (f_X4_keep T)) (fun a b ha hm => ?_)).cong (fun k hk => ?_)
      · show f_X4_keep _ (gmM (2 + nx) a) b = _
        rw [keep_o (by unfold gmM; omega), zM _ _ (by omega)]
        exact (cpB_0 ha).1 hm
      · rw [h2, s2 j k hj hk, if_pos cj]
    · have hj2 : j < (if c = 4 then 3 else c) := by
        by_cases c4 : c = 4
        · rw [if_pos c4] at cj hj ⊢; omega
        · rw [if_neg c4] at cj hj ⊢; omega
      have hjc : (if c = 4 then j + 1 else j) < c := by
        by_cases c4 : c = 4
        · rw [if_pos c4] at hj2 ⊢; omega
        · rw [if_neg c4] at hj2 ⊢; omega
      have hq : 2 + ((nx + 1) % 5 + 5 - (if c = 4 then 4 else c + 1) + j) % 5 = 2 + (nx + 5 - c + (if c = 4 then j + 1 else j)) % 5 := by
        by_cases c4 : c = 4
        · rw [if_pos c4, if_pos c4]; omega
        · rw [if_neg c4, if_neg c4]; omega
      rw [hq]
      have hne : 2 + (nx + 5 - c + (if c = 4 then j + 1 else j)) % 5 ≠ 2 + nx := by
        by_cases c4 : c = 4
        · rw [if_pos c4] at hjc ⊢; omega
        · rw [if_neg c4] at hjc ⊢; omega
      refine (((hr _ hjc).mono ht).mcong (μ' := sb (gmM (2 + (nx + 5 - c + (if c = 4 then j + 1 else j)) % 5)) (f_X4_keep T)) (fun a b ha => ?_)).cong (fun k hk => ?_)
      · show f_X4_keep _ (gmM _ a) b = _
        rw [keep_o (by unfold gmM; omega), zM _ _ (by omega)]
        exact cpB_1 (gm_ne hne ha)
      · rw [h2, s2 j k hj hk, if_neg cj]
  · exact hX.congr (by rw [keep_o (by decide)]) (keep_o (by decide)) (keep_o (by decide)) rfl rfl rfl
  · rw [keep_o (by decide)]; exact hw
theorem RX.tn {T B : St} {L : Nat} (h : TN L (sb gmX T) B) : RX T B := ⟨⟨L, h.1, h.2.1, h.2.2.1⟩, h.2.2.2.1, h.2.2.2.2⟩
theorem prep_lo {τ : Int} {β δ : St} (h : RBg τ β δ) {k : Nat} (hk : k < 6) : f_X4_prepare β k = β k := by
  obtain ⟨-, ⟨c, nx, -, hn, -, -, b11, -⟩, -, -⟩ := h
  rw [prep_eq b11 hn]
  exact cpB_low hk
theorem a_runCommands {τ : Int} {β δ : St} (h : RBg τ β δ) (h0 : 0 ≤ τ) (ht : τ + 75651 < 2147483000) : ∃ a T U, f_X8_runCommands β = (a, T) ∧ f_X9_runCommands δ = (a, U) ∧ RBg (τ + 75651) T U ∧ U 0 4 = 0 := by
  obtain ⟨L, hL, x1, x2⟩ := h.2.2.1.1
  have hr0 : TX L 0 (f_X2_rewind (sb gmX β)) (up2 (up2 δ 0 4 0) 0 8 0) := by
    refine ⟨⟨hL, ?_, ?_, fun k hk => ?_, fun k hk => ?_⟩, Nat.zero_le _, ?_, ?_⟩
    · show up2 (up2 (sb gmX β) 0 2 0) 0 3 (-1) 0 1 = _
      rw [up2_j (by decide), up2_j (by decide)]; exact x1
    · rw [up2_j (by decide), up2_j (by decide)]; exact x2
    · show up2 (up2 (sb gmX β) 0 2 0) 0 3 (-1) 1 k = _ ∧ _
      rw [up2_k (by decide), up2_k (by decide), up2_k (by decide), up2_k (by decide)]
      exact h.2.2.1.2.1 k hk
    · show up2 (up2 (sb gmX β) 0 2 0) 0 3 (-1) 2 k = _
      rw [up2_k (by decide), up2_k (by decide), up2_k (by decide), up2_k (by decide)]
      exact h.2.2.1.2.2 k hk
    · show up2 (up2 (sb gmX β) 0 2 0) 0 3 (-1) 0 2 = _
      rw [up2_j (by decide), up2_s]; rfl
    · rw [up2_s]; rfl
  have h3 : (f_X2_rewind (sb gmX β)) 0 3 = -1 := up2_s
  have eC : f_X8_runCommands β = if (f_X2_findFault_l8 fu151 0 1 (f_X2_rewind (sb gmX β))) 0 3 = -1 then ((f_X8_runCommands_l45 fu151 0 0 (mg giX (up2 (f_X4_prepare (mg giX β (f_X2_findFault_l8 fu151 0 1 (f_X2_rewind (sb gmX β))))) 0 4 0) (f_X2_rewind (sb gmX (up2 (f_X4_prepare (mg giX β (f_X2_findFault_l8 fu151 0 1 (f_X2_rewind (sb gmX β))))) 0 4 0))))).1, f_X4_keep (f_X8_runCommands_l45 fu151 0 0 (mg giX (up2 (f_X4_prepare (mg giX β (f_X2_findFault_l8 fu151 0 1 (f_X2_rewind (sb gmX β))))) 0 4 0) (f_X2_rewind (sb gmX (up2 (f_X4_prepare (mg giX β (f_X2_findFault_l8 fu151 0 1 (f_X2_rewind (sb gmX β))))) 0 4 0))))).2) else ((-10) - (f_X2_findFault_l8 fu151 0 1 (f_X2_rewind (sb gmX β))) 0 3, mg giX β (f_X2_findFault_l8 fu151 0 1 (f_X2_rewind (sb gmX β)))) := by
    unfold f_X8_runCommands f_X2_findFault
    dsimp only
  have eR : f_X9_runCommands δ = f_X9_runCommands_l15 fu151 (f_X9_skips (up2 (up2 δ 0 4 0) 0 8 0)).2 := by
    unfold f_X9_runCommands
    dsimp only
  have hff := ff_sim fu151 0 0 _ _ (by unfold fu151; omega) (by omega) hr0 h3
  rw [eC, eR]
  generalize f_X2_findFault_l8 fu151 0 1 (f_X2_rewind (sb gmX β)) = V at hff ⊢
  -- both after the first reading
  have hb1 : ∀ s', TN L V s' → fq (up2 (up2 δ 0 4 0) 0 8 0) s' → RBg τ (mg giX β V) s' ∧ s' 0 4 = 0 := fun s' tn hq => by
    refine ⟨h.text (fun k hk => xM hk) ?_ ?_ ?_ ?_ (RX.tn (L := L) (tn.c rfl rfl rfl rfl rfl rfl)), ?_⟩
    · rw [hq.r1, up2_rowk (by decide), up2_rowk (by decide)]
    · rw [(rf.fq hq).1, up2_rowk (by decide), up2_rowk (by decide)]
    · rw [(rf.fq hq).2.1, up2_j (by decide), up2_j (by decide)]
    · rw [hq 0 7 (by decide) (by omega), up2_j (by decide), up2_j (by decide)]
    · rw [(rf.fq hq).2.2, up2_j (by decide), up2_s]
  rcases hff with ⟨F, s', f1, f2, f3, f4, f5⟩ | ⟨f1, ⟨m, hm⟩, s', f3, f4, f5⟩
  · have hne : ¬ V 0 3 = -1 := fun e => by
      rw [f2] at e
      have := congrArg Int32.toInt e
      rw [nI_toInt (by omega)] at this
      have h1 : (-1 : Int32).toInt = -1 := by decide
      omega
    obtain ⟨r1, r2⟩ := hb1 s' f4 f5
    rw [if_neg hne, f3, f2]
    exact ⟨_, _, _, rfl, rfl, r1.mono (by omega), r2⟩
  · obtain ⟨r1, r2⟩ := hb1 s' f4 f5
    rw [if_pos f1, f3]
    have p1 : ∀ {k : Nat}, k < 6 → f_X4_prepare (mg giX β V) k = (mg giX β V) k := fun hk => prep_lo r1 hk
    have pM := (r1.prep (v := 0)).2
    have q5 := f5.r4
    have hsc : ∃ m, sc m (f_X9_skips (up2 (up2 (f_X9_saves s') 0 7 0) 0 8 0)).2 := by
      refine ⟨m, sc_ag m _ _ (ag_skips ⟨?_, ?_, ?_⟩).2 hm⟩
      · rw [up2_rowk (by decide), up2_rowk (by decide), up2_rowk (by decide), up2_rowk (by decide), saves_r (by decide) (by decide), q5, up2_rowk (by decide), up2_rowk (by decide)]
      · rw [up2_j (by decide), up2_j (by decide), up2_j (by decide), up2_j (by decide), saves_k (by decide) (by decide), f5 0 6 (by decide) (by omega), up2_j (by decide), up2_j (by decide)]
      · rw [up2_s, up2_s]
    have eS : sec9 s' = ((f_X9_runCommands_l70 fu151 0 (f_X9_skips (up2 (up2 (f_X9_saves s') 0 7 0) 0 8 0)).2).1, (f_X9_runCommands_l70 fu151 0 (f_X9_skips (up2 (up2 (f_X9_saves s') 0 7 0) 0 8 0)).2).2) := by
      unfold sec9
      dsimp only
    rw [eS]
    generalize hβ1 : mg giX β V = β1 at r1 p1 pM ⊢
    have t4 : β1 4 = V 1 := by rw [← hβ1]; rfl
    have t5 : β1 5 = V 2 := by rw [← hβ1]; rfl
    have t3 : β1 3 = V 0 := by rw [← hβ1]; rfl
    have hSR : SR τ L 0 (mg giX (up2 (f_X4_prepare β1) 0 4 0) (f_X2_rewind (sb gmX (up2 (f_X4_prepare β1) 0 4 0)))) (up2 (up2 (f_X9_saves s') 0 7 0) 0 8 0) := by
      refine ⟨⟨⟨hL, ?_, ?_, fun k hk => ?_, fun k hk => ?_⟩, Nat.zero_le _, ?_, ?_⟩, ?_, ?_⟩
      · show up2 (up2 (sb gmX (up2 (f_X4_prepare β1) 0 4 0)) 0 2 0) 0 3 (-1) 0 1 = _
        rw [up2_j (by decide), up2_j (by decide)]
        show up2 (f_X4_prepare β1) 0 4 0 3 1 = _
        rw [up2_k (by decide), p1 (by decide), t3]
        exact f4.2.1
      · rw [up2_j (by decide), up2_j (by decide), saves_k (by decide) (by decide)]
        exact f4.2.2.1
      · show up2 (up2 (sb gmX (up2 (f_X4_prepare β1) 0 4 0)) 0 2 0) 0 3 (-1) 1 k = _ ∧ _
        rw [up2_k (show (1 : Nat) ≠ 0 by decide), up2_k (show (1 : Nat) ≠ 0 by decide), up2_k (show (4 : Nat) ≠ 0 by decide), up2_k (show (4 : Nat) ≠ 0 by decide), saves_k (by decide) (by omega)]
        show up2 (f_X4_prepare β1) 0 4 0 4 k = _ ∧ _
        rw [up2_k (by decide), p1 (by decide), t4]
        exact f4.2.2.2.1 k hk
      · show up2 (up2 (sb gmX (up2 (f_X4_prepare β1) 0 4 0)) 0 2 0) 0 3 (-1) 2 k = _
        rw [up2_k (show (2 : Nat) ≠ 0 by decide), up2_k (show (2 : Nat) ≠ 0 by decide), up2_k (show (5 : Nat) ≠ 0 by decide), up2_k (show (5 : Nat) ≠ 0 by decide), saves_k (by decide) (by omega)]
        show up2 (f_X4_prepare β1) 0 4 0 5 k = _
        rw [up2_k (by decide), p1 (by decide), t5]
        exact f4.2.2.2.2 k hk
      · show up2 (up2 (sb gmX (up2 (f_X4_prepare β1) 0 4 0)) 0 2 0) 0 3 (-1) 0 2 = _
        rw [up2_j (by decide), up2_s]; rfl
      · rw [up2_s]; rfl
      · rw [xM_sb, up2_rowk (by decide), up2_rowk (by decide), saves_r (by decide) (by decide)]
        refine r1.1.mcong (fun a b ha => ?_)
        show up2 (f_X4_prepare β1) 0 4 0 (gmM 0 a) b = _
        rw [up2_k (by unfold gmM; omega)]
        exact pM a b ha
      · rw [xM (by decide), up2_s, up2_j (by decide), up2_s]
    obtain ⟨a', t', u', i1, i2, i3, i4, i5, i6, i7⟩ := second_sim fu151 0 0 0 τ _ _ (by unfold fu151; omega) (by omega) h0 (by unfold fu151; omega) hSR hsc
    rw [i1, i2]
    dsimp only
    have hτ : τ + 501 * ((fu151 : Nat) : Int) = τ + 75651 := by unfold fu151; omega
    rw [hτ] at i3
    refine ⟨a', _, u', rfl, rfl, r1.done2 (by omega) (fun k h1 h2 h3 => ?_) i3 (RX.tn i5) i4 ?_ ?_, ?_⟩
    · rw [i6 k h1 h2 h3, xM h2, up2_rowk h1]
    · rw [i7.1, up2_rowk (by decide), up2_rowk (by decide)]
    · rw [i7.2.1, up2_j (by decide), up2_j (by decide)]
    · rw [i7.2.2, up2_j (by decide), up2_j (by decide), saves_k (by decide) (by decide)]; exact r2
