theorem RM.mcong {τ : Int} {N d q : Nat} {μ μ' : St} {ρ : Nat → Int32} (h : RM τ N d q μ ρ) (e : ∀ a b, a < 57 → μ' a b = μ a b) : RM τ N d q μ' ρ := by
  have hN := h.N12
  obtain ⟨h1, ⟨a8, a9, a53⟩, hE, hG, hS, hP, hF, hV, hQ⟩ := h
  refine ⟨h1, ⟨a8, a9, by rw [e 5 3 (by decide)]; exact a53⟩, fun j hj hN2 => ?_, hG.congr (fun _ _ _ => rfl) (fun a b _ ha => e a b (by omega)), hS.congr (fun i hi => ⟨rfl, rfl, rfl⟩) (fun i hi => e _ _ (by omega)), hP.congr (fun k hk => rfl) (fun i hi => e _ _ (by omega)), hF.congr (fun i _ h12 => ⟨fun b _ => e _ _ (by omega), fun j b hj _ => e _ _ (by omega)⟩), hV, hQ⟩
  have hc := cin_cpM (cv_ok j (cok_lt hj) hj).2
  have h57 : (cv j).1 < 57 := by unfold cpM at hc; omega
  rw [e _ _ h57]
  exact hE j hj hN2
theorem RMx.mcong {τ : Int} {μ μ' : St} {ρ : Nat → Int32} (h : RMx τ μ ρ) (e : ∀ a b, a < 57 → μ' a b = μ a b) : RMx τ μ' ρ := by
  obtain ⟨N, d, q, h1, h2⟩ := h
  exact ⟨N, d, q, h1.mcong e, h2⟩
/-- the object and the reference -/
def RH (τ : Int) (c nx : Nat) (β δ : St) : Prop := c ≤ 4 ∧ nx < 5 ∧ β 1 2 = nI c ∧ δ 0 3 = nI c ∧ β 1 1 = nI nx ∧ ∀ j, j < c → RMx τ (sb (gmM (2 + (nx + 5 - c + j) % 5)) β) (fun k => δ 2 (381 * j + k))
def RX (β δ : St) : Prop := (∃ L, L ≤ 150 ∧ β 3 1 = nI L ∧ δ 0 6 = nI L) ∧ (∀ k, k < 150 → β 4 k = δ 4 k ∧ 0 ≤ (δ 4 k).toInt ∧ (δ 4 k).toInt ≤ 127) ∧ ∀ k, k < 4 → β 5 k = δ 5 k
def RBg (τ : Int) (β δ : St) : Prop := RMx τ (sb (gmM 0) β) (δ 1) ∧ (∃ c nx, RH τ c nx β δ) ∧ RX β δ ∧ β 0 4 = δ 0 7
theorem RH.congr {τ τ' : Int} {c nx : Nat} {β β' δ δ' : St} (h : RH τ c nx β δ) (ht : τ ≤ τ') (e1 : β' 1 = β 1) (e2 : ∀ q a b, 2 ≤ q → q < 7 → q ≠ 2 + nx → a < 57 → β' (gmM q a) b = β (gmM q a) b) (d0 : δ' 0 3 = δ 0 3) (d2 : δ' 2 = δ 2) : RH τ' c nx β' δ' := by
  obtain ⟨h1, h2, h3, h4, h5, h6⟩ := h
  refine ⟨h1, h2, by rw [e1]; exact h3, by rw [d0]; exact h4, by rw [e1]; exact h5, fun j hj => ?_⟩
  rw [d2]
  exact ((h6 j hj).mono ht).mcong (fun a b ha => e2 _ a b (by omega) (by omega) (by omega) ha)
theorem RX.congr {β β' δ δ' : St} (h : RX β δ) (e3 : β' 3 1 = β 3 1) (e4 : β' 4 = β 4) (e5 : β' 5 = β 5) (d6 : δ' 0 6 = δ 0 6) (d4 : δ' 4 = δ 4) (d5 : δ' 5 = δ 5) : RX β' δ' := by
  unfold RX
  rw [e3, e4, e5, d6, d4, d5]
  exact h
theorem cpB_low {q0 q1 k : Nat} {σ : St} (hk : k < 6) : cpB q0 q1 σ k = σ k := by
  funext b
  exact cpB_1 (by omega)
theorem gm_ne {q q0 a : Nat} (h : q ≠ q0) (ha : a < 57) : ¬ (6 + 57 * q0 ≤ gmM q a ∧ gmM q a < 6 + 57 * q0 + 57) := by unfold gmM; omega
theorem prep_eq {β : St} {nx : Nat} (h : β 1 1 = nI nx) (hn : nx < 5) : f_X4_prepare β = cpB (2 + nx) 0 β := by
  unfold f_X4_prepare
  rw [h, nI_clamp (by omega)]
/-- what is prepared changes nothing that is told -/
theorem RBg.prep {τ : Int} {β δ : St} {v : Int32} (h : RBg τ β δ) : RBg τ (f_X4_prepare β) (up2 δ 0 4 v) ∧ ∀ a b, a < 57 → sb (gmM 0) (f_X4_prepare β) a b = sb (gmM 0) β a b := by
  obtain ⟨hM, ⟨c, nx, hH⟩, hX, hw⟩ := h
  have e := prep_eq hH.2.2.2.2.1 hH.2.1
  have hn := hH.2.1
  rw [e]
  have em : ∀ a b, a < 57 → sb (gmM 0) (cpB (2 + nx) 0 β) a b = sb (gmM 0) β a b := fun a b ha => cpB_1 (gm_ne (by omega) ha)
  refine ⟨⟨?_, ⟨c, nx, hH.congr (Int.le_refl _) (cpB_low (by decide)) (fun q a b _ _ h3 ha => cpB_1 (gm_ne h3 ha)) (up2_j (by decide)) (up2_rowk (by decide))⟩, hX.congr (congrFun (cpB_low (by decide)) _) (cpB_low (by decide)) (cpB_low (by decide)) (up2_j (by decide)) (up2_rowk (by decide)) (up2_rowk (by decide)), ?_⟩, em⟩
  · rw [up2_rowk (by decide)]
    exact hM.mcong em
  · rw [congrFun (cpB_low (by decide)) 4, up2_j (by decide)]; exact hw
theorem gi_lo {q k : Nat} {σ u : St} (h : ¬ (6 + 57 * q ≤ k ∧ k < 6 + 57 * q + 57)) : mg (giM q) σ u k = σ k := by
  funext b
  unfold mg
  rw [giM_n h]
theorem gi_in {q a : Nat} {σ u : St} (h : a < 57) : mg (giM q) σ u (gmM q a) = u a := by
  funext b
  unfold mg
  rw [giM_s h]
theorem saves_l51 {c : Nat} (hc : c < 4) : ∀ n k (t : St), t 0 3 = nI c → k ≤ 381 → 381 < k + n → ∀ x, (f_X9_saves_l51 n k t) 2 x = if 381 * c + k ≤ x ∧ x < 381 * c + 381 then t 1 (x - 381 * c) else t 2 x
  | 0, k, t, _, hk, hn, x => absurd hn (by omega)
  | n + 1, k, t, h3, hk, hn, x => by
    by_cases c1 : 381 ≤ nI k
    · have e : f_X9_saves_l51 (n + 1) k t = t := if_pos c1
      rw [show (381 : Int32) = nI 381 from rfl, nI_leI (by decide) (by omega)] at c1
      rw [e, if_neg (by omega)]
    · have e : f_X9_saves_l51 (n + 1) k t = f_X9_saves_l51 n (k + 1) (up2 t 2 (381 * (t 0 3).toNatClampNeg + k) (t 1 k)) := if_neg c1
      rw [show (381 : Int32) = nI 381 from rfl, nI_leI (by decide) (by omega)] at c1
      rw [e, h3, nI_clamp (by omega), saves_l51 hc n (k + 1) _ (by rw [up2_k (by decide)]; exact h3) (by omega) (by omega)]
      by_cases c2 : 381 * c + (k + 1) ≤ x ∧ x < 381 * c + 381
      · rw [if_pos c2, if_pos (by omega), up2_k (by decide)]
      · rw [if_neg c2]
        by_cases c3 : x = 381 * c + k
        · subst c3; rw [up2_s, if_pos (by omega), show 381 * c + k - 381 * c = k by omega]
        · rw [up2_j c3, if_neg (by omega)]
theorem saves_l10 : ∀ n k (t : St), k ≤ 1143 → 1143 < k + n → (∀ x, (f_X9_saves_l10 n k t) 2 x = if k ≤ x ∧ x < 1143 then t 2 (x + 381) else t 2 x) ∧ ∀ y, y ≠ 2 → (f_X9_saves_l10 n k t) y = t y
  | 0, k, t, hk, hn => absurd hn (by omega)
  | n + 1, k, t, hk, hn => by
    by_cases c1 : 1143 ≤ nI k
    · have e : f_X9_saves_l10 (n + 1) k t = t := if_pos c1
      rw [show (1143 : Int32) = nI 1143 from rfl, nI_leI (by decide) (by omega)] at c1
      rw [e]
      exact ⟨fun x => by rw [if_neg (by omega)], fun _ _ => rfl⟩
    · have e : f_X9_saves_l10 (n + 1) k t = f_X9_saves_l10 n (k + 1) (up2 t 2 k (t 2 (k + 381))) := if_neg c1
      rw [show (1143 : Int32) = nI 1143 from rfl, nI_leI (by decide) (by omega)] at c1
      obtain ⟨g1, g2⟩ := saves_l10 n (k + 1) (up2 t 2 k (t 2 (k + 381))) (by omega) (by omega)
      rw [e]
      refine ⟨fun x => ?_, fun y hy => (g2 y hy).trans (up2_rowk hy)⟩
      rw [g1]
      by_cases c2 : k + 1 ≤ x ∧ x < 1143
      · rw [if_pos c2, if_pos (by omega), up2_j (by omega)]
      · rw [if_neg c2]
        by_cases c3 : x = k
        · subst c3; rw [up2_s, if_pos (by omega)]
        · rw [up2_j c3, if_neg (by omega)]
theorem saves_l51o : ∀ n k (t : St), ∀ y, y ≠ 2 → (f_X9_saves_l51 n k t) y = t y
  | 0, k, t, y, _ => rfl
  | n + 1, k, t, y, hy => by
    by_cases c1 : 381 ≤ nI k
    · have e : f_X9_saves_l51 (n + 1) k t = t := if_pos c1
      rw [e]
    · have e : f_X9_saves_l51 (n + 1) k t = f_X9_saves_l51 n (k + 1) (up2 t 2 (381 * (t 0 3).toNatClampNeg + k) (t 1 k)) := if_neg c1
      rw [e, saves_l51o n (k + 1) _ y hy, up2_rowk hy]
/-- the reference saves its row -/
theorem saves_row {σ : St} {c : Nat} (hc : c ≤ 4) (h3 : σ 0 3 = nI c) : (f_X9_saves σ 0 3 = nI (if c = 4 then 4 else c + 1)) ∧ (∀ j k, j < (if c = 4 then 4 else c + 1) → k < 381 → f_X9_saves σ 2 (381 * j + k) = if j = (if c = 4 then 3 else c) then σ 1 k else σ 2 (381 * (if c = 4 then j + 1 else j) + k)) ∧ (∀ y, y ≠ 2 → y ≠ 0 → f_X9_saves σ y = σ y) ∧ ∀ y, y ≠ 3 → f_X9_saves σ 0 y = σ 0 y := by
  by_cases c4 : c = 4
  · subst c4
    have e : f_X9_saves σ = up2 (f_X9_saves_l51 fu382 0 (up2 (f_X9_saves_l10 fu1144 0 σ) 0 3 ((f_X9_saves_l10 fu1144 0 σ) 0 3 - 1))) 0 3 ((f_X9_saves_l51 fu382 0 (up2 (f_X9_saves_l10 fu1144 0 σ) 0 3 ((f_X9_saves_l10 fu1144 0 σ) 0 3 - 1))) 0 3 + 1) := if_pos (by rw [h3]; rfl)
    obtain ⟨g1, g2⟩ := saves_l10 fu1144 0 σ (by omega) (by unfold fu1144; omega)
    have e03 : (up2 (f_X9_saves_l10 fu1144 0 σ) 0 3 ((f_X9_saves_l10 fu1144 0 σ) 0 3 - 1)) 0 3 = nI 3 := by
      rw [up2_s, congrFun (g2 0 (by decide)) 3, h3]
      exact nI_pred 3
    have l1 := saves_l51 (c := 3) (by decide) fu382 0 _ e03 (by omega) (by unfold fu382; omega)
    have l2 := saves_l51o fu382 0 (up2 (f_X9_saves_l10 fu1144 0 σ) 0 3 ((f_X9_saves_l10 fu1144 0 σ) 0 3 - 1))
    rw [e]
    refine ⟨?_, fun j k hj hk => ?_, fun y hy hy0 => ?_, fun y hy => ?_⟩
    · rw [up2_s, congrFun (l2 0 (by decide)) 3, e03]
      rfl
    · rw [if_pos rfl] at hj
      rw [up2_k (by decide), l1, if_pos rfl, if_pos rfl]
      by_cases cj : j = 3
      · subst cj
        rw [if_pos (by omega), if_pos rfl, up2_k (by decide), congrFun (g2 1 (by decide)), show 381 * 3 + k - 381 * 3 = k by omega]
      · rw [if_neg (by omega), if_neg cj, up2_k (by decide), g1, if_pos (by omega), show 381 * j + k + 381 = 381 * (j + 1) + k by omega]
    · rw [up2_rowk hy0, l2 y hy, up2_rowk hy0, g2 y hy]
    · rw [up2_j hy, congrFun (l2 0 (by decide)) y, up2_j hy, congrFun (g2 0 (by decide)) y]
  · have e : f_X9_saves σ = up2 (f_X9_saves_l51 fu382 0 σ) 0 3 ((f_X9_saves_l51 fu382 0 σ) 0 3 + 1) := if_neg (by rw [h3, show (4 : Int32) = nI 4 from rfl, nI_eq (by omega) (by decide)]; exact c4)
    have l1 := saves_l51 (c := c) (by omega) fu382 0 σ h3 (by omega) (by unfold fu382; omega)
    have l2 := saves_l51o fu382 0 σ
    rw [e]
    refine ⟨?_, fun j k hj hk => ?_, fun y hy hy0 => ?_, fun y hy => ?_⟩
    · rw [up2_s, congrFun (l2 0 (by decide)) 3, h3, nI_1, if_neg c4]
    · rw [if_neg c4] at hj
      rw [up2_k (by decide), l1, if_neg c4, if_neg c4]
      by_cases cj : j = c
      · subst cj
        rw [if_pos (by omega), if_pos rfl, show 381 * j + k - 381 * j = k by omega]
      · rw [if_neg (by omega), if_neg cj]
    · rw [up2_rowk hy0, l2 y hy]
    · rw [up2_j hy, congrFun (l2 0 (by decide)) y]
theorem keep_11 {β : St} {nx : Nat} (h1 : β 1 1 = nI nx) (hn : nx < 5) : f_X4_keep β 1 1 = nI ((nx + 1) % 5) := by
  have e : (β 1 1 + 1) - (β 1 1 + 1) / 5 * 5 = nI ((nx + 1) % 5) := by
    rw [h1, nI_1, show (5 : Int32) = nI 5 from rfl, pk_rem (by omega) (by decide) (by decide)]
  unfold f_X4_keep
  split
  · rw [up2_s, e]
  · rw [up2_j (by decide), up2_s, e]
theorem keep_12 {β : St} {c : Nat} (h2 : β 1 2 = nI c) (hc : c ≤ 4) : f_X4_keep β 1 2 = nI (if c = 4 then 4 else c + 1) := by
  unfold f_X4_keep
  by_cases c4 : c = 4
  · subst c4
    rw [if_pos (by rw [h2]; decide), up2_j (by decide), h2, if_pos rfl]
  · rw [if_neg (by rw [h2, show (4 : Int32) = nI 4 from rfl, nI_leI (by decide) (by omega)]; omega), up2_s, h2, nI_1, if_neg c4]
theorem keep_o {β : St} {k : Nat} (hk : k ≠ 1) : f_X4_keep β k = β k := by
  unfold f_X4_keep
  split
  · rw [up2_rowk hk]
  · rw [up2_rowk hk, up2_rowk hk]
/-- an undoable call that is done: what both keep -/
theorem RBg.done {τ τ' : Int} {β δ B : St} {u : St} (h : RBg τ β δ) (ht : τ ≤ τ') (hu : RMx τ' u (B 1)) (hB : fr (f_X9_saves (up2 δ 0 4 0)) B) : RBg τ' (f_X4_keep (mg (giM 0) (f_X4_prepare β) u)) B := by
  obtain ⟨hM, ⟨c, nx, hc, hn, b12, d03, b11, hr⟩, hX, hw⟩ := h
  have e := prep_eq b11 hn
  obtain ⟨s1, s2, s3, s4⟩ := saves_row (σ := up2 δ 0 4 0) hc (by rw [up2_j (by decide)]; exact d03)
  rw [e]
  have zlo : ∀ k, k < 6 → mg (giM 0) (cpB (2 + nx) 0 β) u k = β k := fun k hk => by rw [gi_lo (by omega), cpB_low hk]
  have z1 : mg (giM 0) (cpB (2 + nx) 0 β) u 1 1 = nI nx := by rw [zlo 1 (by decide)]; exact b11
  have z2 : mg (giM 0) (cpB (2 + nx) 0 β) u 1 2 = nI c := by rw [zlo 1 (by decide)]; exact b12
  refine ⟨?_, ⟨if c = 4 then 4 else c + 1, (nx + 1) % 5, by split <;> omega, Nat.mod_lt _ (by decide), keep_12 z2 hc, by rw [hB 0 (by decide)]; exact s1, keep_11 z1 hn, fun j hj => ?_⟩, ?_, ?_⟩
  · refine hu.mcong (fun a b ha => ?_)
    show f_X4_keep _ (gmM 0 a) b = u a b
    rw [keep_o (by unfold gmM; omega), gi_in ha]
  · by_cases cj : j = (if c = 4 then 3 else c)
    · -- the state from before the call
      have hq : 2 + ((nx + 1) % 5 + 5 - (if c = 4 then 4 else c + 1) + j) % 5 = 2 + nx := by
        by_cases c4 : c = 4
        · rw [if_pos c4] at cj ⊢; omega
        · rw [if_neg c4] at cj ⊢; omega
      rw [hq]
      refine ((hM.mono ht).copy (μ' := sb (gmM (2 + nx)) (f_X4_keep (mg (giM 0) (cpB (2 + nx) 0 β) u))) (fun a b ha hm => ?_)).cong (fun k hk => ?_)
      · show f_X4_keep _ (gmM (2 + nx) a) b = _
        rw [keep_o (by unfold gmM; omega), gi_lo (gm_ne (by omega) ha)]
        exact (cpB_0 ha).1 hm
      · rw [hB 2 (by decide), s2 j k hj hk, if_pos cj, up2_k (by decide)]
    · have hj2 : j < (if c = 4 then 3 else c) := by
        by_cases c4 : c = 4
        · rw [if_pos c4] at cj hj ⊢; omega
        · rw [if_neg c4] at cj hj ⊢; omega
      have hjc : (if c = 4 then j + 1 else j) < c := by
        by_cases c4 : c = 4
        · rw [if_pos c4] at hj2 ⊢; omega
        · rw [if_neg c4] at hj2 ⊢; omega
      have hq : 2 + ((nx + 1) % 5 + 5 - (if c = 4 then 4 else c + 1) + j) % 5 = 2 + (nx + 5 - c + (if c = 4 then j + 1 else j)) % 5 := by
        by_cases c4 : c = 4
        · rw [if_pos c4, if_pos c4]; omega
        · rw [if_neg c4, if_neg c4]; omega
      rw [hq]
      have hne : 2 + (nx + 5 - c + (if c = 4 then j + 1 else j)) % 5 ≠ 2 + nx := by
        by_cases c4 : c = 4
        · rw [if_pos c4] at hjc ⊢; omega
        · rw [if_neg c4] at hjc ⊢; omega
      refine (((hr _ hjc).mono ht).mcong (μ' := sb (gmM (2 + (nx + 5 - c + (if c = 4 then j + 1 else j)) % 5)) (f_X4_keep (mg (giM 0) (cpB (2 + nx) 0 β) u))) (fun a b ha => ?_)).cong (fun k hk => ?_)
      · show f_X4_keep _ (gmM _ a) b = _
        rw [keep_o (by unfold gmM; omega), gi_lo (gm_ne (by omega) ha)]
        exact cpB_1 (gm_ne hne ha)
      · rw [hB 2 (by decide), s2 j k hj hk, if_neg cj, up2_k (by decide)]
  · refine hX.congr ?_ ?_ ?_ ?_ ?_ ?_
    · rw [keep_o (by decide), zlo 3 (by decide)]
    · rw [keep_o (by decide), zlo 4 (by decide)]
    · rw [keep_o (by decide), zlo 5 (by decide)]
    · rw [hB 0 (by decide), s4 6 (by decide), up2_j (by decide)]
    · rw [hB 4 (by decide), s3 4 (by decide) (by decide), up2_rowk (by decide)]
    · rw [hB 5 (by decide), s3 5 (by decide) (by decide), up2_rowk (by decide)]
  · rw [keep_o (by decide), zlo 0 (by decide), hB 0 (by decide), s4 7 (by decide), up2_j (by decide)]
    exact hw
