/-! calls that look ahead, and those of the text and of what is kept -/
theorem fr_enters_l {a b c : Int32} : ∀ n k t, fr t (f_X9_enters_l11 a b c n k t).2
  | 0, _, _ => fr.refl
  | n + 1, k, t => by
    unfold f_X9_enters_l11
    dsimp only
    split
    · exact fr.refl
    · split
      · exact fr.trans fr_tick (fr_enters_l n _ _)
      · exact fr.refl
theorem fr_idle_l {a : Int32} : ∀ n k t, fr t (f_X9_idleAfter_l27 a n k t).2
  | 0, _, _ => fr.refl
  | n + 1, k, t => by
    unfold f_X9_idleAfter_l27
    dsimp only
    split
    · exact fr.refl
    · split
      · exact fr.trans fr_tick (fr_idle_l n _ _)
      · split
        · exact fr.refl
        · exact fr.trans fr_tick (fr_idle_l n _ _)
theorem fr_enters {σ : St} {a b : Int32} : fr σ (f_X9_enters σ a b).2 := by
  unfold f_X9_enters
  dsimp only
  split <;> exact fr_enters_l _ _ _
theorem keeps_o {σ : St} : (f_X9_keeps σ) 1 = σ 1 ∧ (∀ k, k < 381 → f_X9_keeps σ 3 k = σ 1 k) ∧ ∀ a, a ≠ 3 → f_X9_keeps σ a = σ a := by
  have e : f_X9_keeps σ = _ := keeps_l fu382 0 σ (by omega) (by unfold fu382; omega)
  rw [e]
  exact ⟨funext fun b => if_neg (by omega), fun k hk => if_pos ⟨rfl, by omega, hk⟩, fun a ha => funext fun b => if_neg (by omega)⟩
section Fore
variable {τ τ' : Int} {β δ : St}
theorem api_y2 {W : Nat → Int32} {a b : Int32} {B X : St} (h : RBg τ B X) (h4 : X 0 4 = 0) (e : a = b) : apiR τ (0, a, B) (b, X) W := ⟨h, Or.inl ⟨rfl, h4, e⟩⟩
theorem RBg.fore {B X : St} (h : RBg τ β δ) (hB : ∀ k, ¬ (6 + 57 * 1 ≤ k ∧ k < 6 + 57 * 1 + 57) → B k = β k) (hX : fr (f_X9_keeps (up2 δ 0 4 0)) X) : RBg τ B (f_X9_takesBack X) ∧ (f_X9_takesBack X) 0 4 = 0 := by
  obtain ⟨k1, k3, ko⟩ := keeps_o (σ := up2 δ 0 4 0)
  have e : f_X9_takesBack X = _ := takes_l fu382 0 X (by omega) (by unfold fu382; omega)
  have t1 : ∀ k, k < 381 → f_X9_takesBack X 1 k = δ 1 k := fun k hk => by
    rw [e]
    dsimp only
    rw [if_pos ⟨rfl, by omega, hk⟩, hX 3 (by decide), k3 k hk, row4]
  have to : ∀ a, a ≠ 1 → a ≠ 3 → f_X9_takesBack X a = (up2 δ 0 4 0) a := fun a h1 h3 => by
    rw [e]
    funext b
    show (if a = 1 ∧ _ then _ else _) = _
    rw [if_neg (by omega), hX a h1, ko a h3]
  obtain ⟨m1, ⟨c, nx, hH⟩, m3, m4⟩ := h
  have b0 : ∀ k, k < 6 → B k = β k := fun k hk => hB k (by omega)
  refine ⟨⟨(m1.mcong (fun a b ha => ?_)).cong t1, ⟨c, nx, hH.congr (Int.le_refl _) (b0 1 (by decide)) (fun q a b h2 h7 _ ha => ?_) ?_ ?_⟩, m3.congr ?_ (b0 4 (by decide)) (b0 5 (by decide)) ?_ ?_ ?_, ?_⟩, ?_⟩
  · show B (gmM 0 a) b = β (gmM 0 a) b
    rw [hB _ (by unfold gmM; omega)]
  · rw [hB _ (by unfold gmM; omega)]
  · rw [to 0 (by decide) (by decide), up2_j (by decide)]
  · rw [to 2 (by decide) (by decide), up2_rowk (by decide)]
  · rw [b0 3 (by decide)]
  · rw [to 0 (by decide) (by decide), up2_j (by decide)]
  · rw [to 4 (by decide) (by decide), up2_rowk (by decide)]
  · rw [to 5 (by decide) (by decide), up2_rowk (by decide)]
  · rw [b0 0 (by decide), to 0 (by decide) (by decide), up2_j (by decide)]; exact m4
  · rw [to 0 (by decide) (by decide), up2_s]
theorem cp1_o {k : Nat} (h : ¬ (6 + 57 * 1 ≤ k ∧ k < 6 + 57 * 1 + 57)) : cpB 1 0 β k = β k := funext fun _ => cpB_1 h
theorem enters_out {N d q i : Nat} {p : Int32} {μ σ : St} (h : RM τ N d q μ (σ 1)) (hT : RT (σ 1)) (hi : i < N) (hp : p.toInt ≤ 1000) (ht : τ + 1001 < 2147483000) : (f_X5_spendUntilOnTop μ (nI i) p).1 = (f_X9_enters σ (nI i) p).1 ∧ ∃ d q, RM (τ + 1001) N d q (f_X5_spendUntilOnTop μ (nI i) p).2 ((f_X9_enters σ (nI i) p).2 1) := by
  have es := enters_sim (σ0 := μ) hp 1001 0 τ N μ σ (by omega) (by omega) hi ⟨d, q, h, hT⟩ rfl
  have e17 := came_eq h hi
  have ea : f_X5_spendUntilOnTop μ (nI i) p = f_X5_spendUntilOnTop_l21 μ p i (1001 + 1) (0 + 1) μ := by
    unfold f_X5_spendUntilOnTop
    rw [find_some h hi]
    rfl
  have eb : f_X9_enters σ (nI i) p = ((if f_X9_of (f_X9_enters_l11 (nI i) p (μ (9 + i) 9) 1001 0 σ).2 (nI i) 17 ≤ μ (9 + i) 9 then (-1) else nI (f_X9_enters_l11 (nI i) p (μ (9 + i) 9) 1001 0 σ).1), (f_X9_enters_l11 (nI i) p (μ (9 + i) 9) 1001 0 σ).2) := by
    unfold f_X9_enters
    dsimp only
    rw [e17]
    show (if f_X9_of (f_X9_enters_l11 (nI i) p (μ (9 + i) 9) 1001 0 σ).2 (nI i) 17 ≤ μ (9 + i) 9 then ((-1 : Int32), (f_X9_enters_l11 (nI i) p (μ (9 + i) 9) 1001 0 σ).2) else (nI (f_X9_enters_l11 (nI i) p (μ (9 + i) 9) 1001 0 σ).1, (f_X9_enters_l11 (nI i) p (μ (9 + i) 9) 1001 0 σ).2)) = _
    split <;> rfl
  rw [ea, eb]
  exact es
theorem krow (h : RBg τ β δ) : RMx τ (sb (gmM 1) (cpB 1 0 β)) ((f_X9_keeps (up2 δ 0 4 0)) 1) := by
  rw [keeps_o.1, row4]
  exact h.1.copy (fun a b ha hm => (cpB_0 ha).1 hm)
theorem a_entersAfter (h : RBg τ β δ) (ht : τ + 1001 < 2147483000) (p w : Int32) : apiR τ (f_X8_entersAfter β p w) (f_X9_entersAfter δ p w) w12 := by
  obtain ⟨N, d, q, hm, hT⟩ := h.1
  unfold f_X8_entersAfter f_X9_entersAfter f_X9_isMost
  dsimp only
  rw [rsrc]
  rcases src_cases hm p with ⟨e1, e2⟩ | ⟨i, hi, rfl, e1, e2⟩
  · rw [e1, e2]
    exact api_no (W := w12) (k := 1) h (by decide) (by decide)
  · rw [e1, e2]
    dsimp only
    rw [if_pos (show (0 : Nat) = 0 from rfl), in_eq, if_neg n10]
    rcases in_cases w 0 1000 with ew | ⟨ew, h0, h1⟩
    · rw [ew, rarg_0]
      exact api_no (W := w12) (k := 2) h (by decide) (by decide)
    · rw [ew, rarg_1, if_pos (show (0 : Nat) = 0 from rfl), if_neg n10, refused_0]
      dsimp only
      rw [if_pos (show (0 : Int32) = 0 from rfl)]
      have hk : RM τ N d q (sb (gmM 1) (cpB 1 0 β)) ((f_X9_keeps (up2 δ 0 4 0)) 1) := by
        rw [keeps_o.1, row4]
        exact hm.copy (fun a b ha hm => (cpB_0 ha).1 hm)
      have hT' : RT ((f_X9_keeps (up2 δ 0 4 0)) 1) := by rw [keeps_o.1, row4]; exact hT
      obtain ⟨r1, -⟩ := enters_out (p := w) hk hT' hi h1 ht
      obtain ⟨f1, f2⟩ := h.fore (B := mg (giM 1) (cpB 1 0 β) (f_X5_spendUntilOnTop (sb (gmM 1) (cpB 1 0 β)) (nI i) w).2) (X := (f_X9_enters (f_X9_keeps (up2 δ 0 4 0)) (nI i) w).2) (fun k hk => by rw [gi_lo hk, cp1_o hk]) fr_enters
      exact api_y2 f1 f2 r1
theorem a_idleAfter (h : RBg τ β δ) (ht : τ + 1001 < 2147483000) (p : Int32) : apiR τ (f_X8_idleAfter β p) (f_X9_idleAfter δ p) w2 := by
  unfold f_X8_idleAfter f_X9_idleAfter f_X9_isMost
  dsimp only
  rw [in_eq]
  rcases in_cases p 0 1000 with ew | ⟨ew, h0, h1⟩
  · rw [ew, rarg_0]
    exact api_no (W := w2) (k := 2) h (by decide) (by decide)
  · rw [ew, rarg_1, if_pos (show (0 : Nat) = 0 from rfl), if_neg n10, refused_0]
    dsimp only
    rw [if_pos (show (0 : Int32) = 0 from rfl)]
    have r1 := idle_sim (p := p) h1 1001 0 τ _ _ (by omega) (by have : (0 : Int32).toInt = 0 := rfl; omega) (by omega) (krow h)
    obtain ⟨f1, f2⟩ := h.fore (B := mg (giM 1) (cpB 1 0 β) (f_X5_spendUntilIdle (sb (gmM 1) (cpB 1 0 β)) p).2) (X := (f_X9_idleAfter_l27 p fu1001 0 (f_X9_keeps (up2 δ 0 4 0))).2) (fun k hk => by rw [gi_lo hk, cp1_o hk]) (fr_idle_l _ _ _)
    have e0 : ∀ (x y : Int32) (s : St) (c : Prop) [Decidable c], (if c then (x, s) else (y, s)) = ((if c then x else y), s) := fun x y s c _ => by split <;> rfl
    rw [e0]
    exact api_y2 f1 f2 r1
theorem RM.same {N N' d d' q q' : Nat} {μ μ' : St} {ρ ρ' : Nat → Int32} (h : RM τ N d q μ ρ) (h' : RM τ' N' d' q' μ' ρ') (e : ρ' 8 = ρ 8) : N' = N := by
  have h1 := h.N12
  have h2 := h'.N12
  have e1 := h.2.1.1
  rw [← e, h'.2.1.1] at e1
  exact nI_inj (by omega) (by omega) e1
theorem pend_sim {N d q i : Nat} {μ σ : St} (h : RM τ N d q μ (σ 1)) (hT : RT (σ 1)) (hi : i < N) : ∃ S : St, (if f_X9_of σ (nI i) 1 = 0 then (f_X9_raises σ (nI i)).2 else (f_X9_lines σ (nI i) 1).2) = S ∧ fr σ S ∧ (∃ d q, RM τ N d q (f_X5_makePending μ (nI i)) (S 1)) ∧ RT (S 1) := by
  have hN := h.N12
  refine ⟨_, rfl, ?_, ?_⟩
  · split
    · exact fr_raises
    · exact fr_lines
  · have e : f_X5_makePending μ (nI i) = if μ (9 + i) 1 = 0 then (f_X5_receiveEdge μ (nI i) i).2 else (f_X5_changeLine μ (nI i) 1).2 := by
      unfold f_X5_makePending
      rw [find_some h hi]
      rfl
    rw [e, kind_eq h hi]
    rcases kind01 h hi with hk | hk
    · rw [hk, if_pos (show (0 : Int32) = 0 from rfl), if_pos (show (0 : Int32) = 0 from rfl)]
      obtain ⟨-, q', r2⟩ := raise_sim h hi
      exact ⟨⟨d, q', r2⟩, hT.keep (raise_lo (by decide)) (raise_lo (by decide))⟩
    · rw [hk, if_neg n10, if_neg n10]
      rcases line_sim (μ := μ) (σ := σ) ⟨N, d, q, h, hT⟩ (nI i) 1 rfl with ⟨-, -, -, N', d', q', r1, r2⟩ | ⟨b, -⟩
      · have e8 : (f_X9_lines σ (nI i) 1).2 1 8 = σ 1 8 := by
          show up2 (up2 σ 1 (ix (nI i) + 5) _) 1 (ix (nI i) + 6) _ 1 8 = _
          rw [ix_nI (by omega), up2_j (by omega), up2_j (by omega)]
        have eN := h.same r1 e8
        subst eN
        exact ⟨⟨d', q', r1⟩, r2⟩
      · exfalso
        have e0 : f_X9_badLine σ (nI i) = 0 := by
          unfold f_X9_badLine
          dsimp only
          rcases src_cases h (nI i) with ⟨e1, -⟩ | ⟨j, -, -, -, e2⟩
          · rw [find_some h hi] at e1; cases e1
          · rw [e2, kind_eq h hi, hk, if_neg n10, if_neg n10]
        rw [e0] at b
        revert b
        decide
theorem a_latencyIf (h : RBg τ β δ) (ht : τ + 1001 < 2147483000) (p w : Int32) : apiR τ (f_X8_latencyIf β p w) (f_X9_latencyIf δ p w) w12 := by
  obtain ⟨N, d, q, hm, hT⟩ := h.1
  have e0 : ∀ (x y : Int32) (s : St) (c : Prop) [Decidable c], (if c then (x, s) else (y, s)) = ((if c then x else y), s) := fun x y s c _ => by split <;> rfl
  unfold f_X8_latencyIf f_X9_latencyIf f_X9_isMost
  dsimp only
  rw [rsrc]
  rcases src_cases hm p with ⟨e1, e2⟩ | ⟨i, hi, rfl, e1, e2⟩
  · rw [e1, e2]
    exact api_no (W := w12) (k := 1) h (by decide) (by decide)
  · rw [e1, e2]
    dsimp only
    rw [if_pos (show (0 : Nat) = 0 from rfl), in_eq, if_neg n10]
    rcases in_cases w 0 1000 with ew | ⟨ew, h0, h1⟩
    · rw [ew, rarg_0]
      exact api_no (W := w12) (k := 2) h (by decide) (by decide)
    · rw [ew, rarg_1, if_pos (show (0 : Nat) = 0 from rfl), if_neg n10, refused_0]
      dsimp only
      rw [if_pos (show (0 : Int32) = 0 from rfl)]
      have hk : RM τ N d q (sb (gmM 1) (cpB 1 0 β)) ((f_X9_keeps (up2 δ 0 4 0)) 1) := by
        rw [keeps_o.1, row4]
        exact hm.copy (fun a b ha hm => (cpB_0 ha).1 hm)
      have hT' : RT ((f_X9_keeps (up2 δ 0 4 0)) 1) := by rw [keeps_o.1, row4]; exact hT
      obtain ⟨S, eS, fS, ⟨d1, q1, r1⟩, t1⟩ := pend_sim hk hT' hi
      rw [eS]
      generalize hP : f_X5_makePending (sb (gmM 1) (cpB 1 0 β)) (nI i) = P at r1
      have r2 : RM τ N d1 q1 (sb (gmM 1) (mg (giM 1) (cpB 1 0 β) P)) (S 1) := r1.mcong (fun a b ha => congrFun (gi_in (q := 1) ha) b)
      obtain ⟨g1, d2, q2, g2⟩ := enters_out (p := w) r2 t1 hi h1 ht
      rw [g1]
      generalize f_X5_spendUntilOnTop (sb (gmM 1) (mg (giM 1) (cpB 1 0 β) P)) (nI i) w = E at g2
      have g3 : RM (τ + 1001) N d2 q2 (sb (gmM 1) (mg (giM 1) (mg (giM 1) (cpB 1 0 β) P) E.2)) ((f_X9_enters S (nI i) w).2 1) := g2.mcong (fun a b ha => congrFun (gi_in (q := 1) ha) b)
      have e20 : f_X5_latestLatency (sb (gmM 1) (mg (giM 1) (mg (giM 1) (cpB 1 0 β) P) E.2)) (nI i) = f_X9_of (f_X9_enters S (nI i) w).2 (nI i) 20 := by
        unfold f_X5_latestLatency
        rw [find_some g3 hi]
        exact fld g3 hi (w := 20) (by decide) (by decide) rfl (by decide)
      obtain ⟨f1, f2⟩ := h.fore (B := mg (giM 1) (mg (giM 1) (cpB 1 0 β) P) E.2) (X := (f_X9_enters S (nI i) w).2) (fun k hk => by rw [gi_lo hk, gi_lo hk, cp1_o hk]) (fr.trans fS fr_enters)
      rw [e20, e0]
      by_cases c : (f_X9_enters S (nI i) w).1 = -1
      · rw [if_pos c, if_pos c]
        exact api_y2 f1 f2 rfl
      · rw [if_neg c, if_neg c]
        exact api_y2 f1 f2 rfl
end Fore
