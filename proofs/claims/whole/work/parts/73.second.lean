/-! the second reading of both: what is carried out -/
theorem pr_eta {α β : Type} (p : α × β) : (p.1, p.2) = p := rfl
theorem opS.mono {τ τ' : Int} {A : Int32 × St} {bad : Int32} {B : Int32 × St} {μ : St} (h : opS τ A bad B μ) (ht : τ ≤ τ') : opS τ' A bad B μ := by
  rcases h with ⟨a, b, c, d⟩ | h
  · exact Or.inl ⟨a, b, c, d.mono ht⟩
  · exact Or.inr h
theorem bcm_0 {s : St} (h9 : s 0 9 = nI 0) : f_X9_badCommand s = f_X9_badSource s (s 5 0) (nI 0) (s 5 1) := by
  unfold f_X9_badCommand
  simp only [h9, eq_true (show nI 0 = (0 : Int32) by decide), ↓reduceIte]
theorem dom_0 {s : St} (h9 : s 0 9 = nI 0) : f_X9_does s = f_X9_comes s (s 5 0) (nI 0) (s 5 1) := by
  refine Eq.trans ?_ (pr_eta _)
  unfold f_X9_does
  simp only [h9, eq_true (show nI 0 = (0 : Int32) by decide), ↓reduceIte]
theorem cry_0 {σ : St} : f_X8_carryOut σ 0 = ((f_X5_makeSource (sb (gmM 0) σ) (σ 5 0) 0 (σ 5 1)).1, mg (giM 0) σ (f_X5_makeSource (sb (gmM 0) σ) (σ 5 0) 0 (σ 5 1)).2) := by
  unfold f_X8_carryOut
  simp only [eq_true (show enMap 0 = (1 : Int32) by decide), ↓reduceIte]
theorem bcm_1 {s : St} (h9 : s 0 9 = nI 1) : f_X9_badCommand s = f_X9_badSource s (s 5 0) (nI 1) (s 5 1) := by
  unfold f_X9_badCommand
  simp only [h9, eq_false (show ¬ nI 1 = (0 : Int32) by decide), eq_true (show nI 1 = (1 : Int32) by decide), ↓reduceIte]
theorem dom_1 {s : St} (h9 : s 0 9 = nI 1) : f_X9_does s = f_X9_comes s (s 5 0) (nI 1) (s 5 1) := by
  refine Eq.trans ?_ (pr_eta _)
  unfold f_X9_does
  simp only [h9, eq_false (show ¬ nI 1 = (0 : Int32) by decide), eq_true (show nI 1 = (1 : Int32) by decide), ↓reduceIte]
theorem cry_1 {σ : St} : f_X8_carryOut σ 1 = ((f_X5_makeSource (sb (gmM 0) σ) (σ 5 0) 1 (σ 5 1)).1, mg (giM 0) σ (f_X5_makeSource (sb (gmM 0) σ) (σ 5 0) 1 (σ 5 1)).2) := by
  unfold f_X8_carryOut
  simp only [eq_false (show ¬ enMap 1 = (1 : Int32) by decide), eq_true (show enMap 1 = (2 : Int32) by decide), ↓reduceIte]
theorem bcm_2 {s : St} (h9 : s 0 9 = nI 2) : f_X9_badCommand s = f_X9_badSection s (s 5 0) (s 5 1) (s 5 2) (s 5 3) := by
  unfold f_X9_badCommand
  simp only [h9, eq_false (show ¬ nI 2 = (0 : Int32) by decide), eq_false (show ¬ nI 2 = (1 : Int32) by decide), eq_true (show nI 2 = (2 : Int32) by decide), ↓reduceIte]
theorem dom_2 {s : St} (h9 : s 0 9 = nI 2) : f_X9_does s = f_X9_comesSection s (s 5 0) (s 5 1) (s 5 2) (s 5 3) := by
  refine Eq.trans ?_ (pr_eta _)
  unfold f_X9_does
  simp only [h9, eq_false (show ¬ nI 2 = (0 : Int32) by decide), eq_false (show ¬ nI 2 = (1 : Int32) by decide), eq_true (show nI 2 = (2 : Int32) by decide), ↓reduceIte]
theorem cry_2 {σ : St} : f_X8_carryOut σ 2 = ((f_X5_makeSection (sb (gmM 0) σ) (σ 5 0) (σ 5 1) (σ 5 2) (σ 5 3)).1, mg (giM 0) σ (f_X5_makeSection (sb (gmM 0) σ) (σ 5 0) (σ 5 1) (σ 5 2) (σ 5 3)).2) := by
  unfold f_X8_carryOut
  simp only [eq_false (show ¬ enMap 2 = (1 : Int32) by decide), eq_false (show ¬ enMap 2 = (2 : Int32) by decide), eq_true (show enMap 2 = (3 : Int32) by decide), ↓reduceIte]
theorem bcm_3 {s : St} (h9 : s 0 9 = nI 3) : f_X9_badCommand s = f_X9_badTimer s (s 5 0) (s 5 1) (s 5 2) := by
  unfold f_X9_badCommand
  simp only [h9, eq_false (show ¬ nI 3 = (0 : Int32) by decide), eq_false (show ¬ nI 3 = (1 : Int32) by decide), eq_false (show ¬ nI 3 = (2 : Int32) by decide), eq_true (show nI 3 = (3 : Int32) by decide), ↓reduceIte]
theorem dom_3 {s : St} (h9 : s 0 9 = nI 3) : f_X9_does s = f_X9_times s (s 5 0) (s 5 1) (s 5 2) := by
  refine Eq.trans ?_ (pr_eta _)
  unfold f_X9_does
  simp only [h9, eq_false (show ¬ nI 3 = (0 : Int32) by decide), eq_false (show ¬ nI 3 = (1 : Int32) by decide), eq_false (show ¬ nI 3 = (2 : Int32) by decide), eq_true (show nI 3 = (3 : Int32) by decide), ↓reduceIte]
theorem cry_3 {σ : St} : f_X8_carryOut σ 3 = ((f_X5_changeTimer (sb (gmM 0) σ) (σ 5 0) (σ 5 1) (σ 5 2)).1, mg (giM 0) σ (f_X5_changeTimer (sb (gmM 0) σ) (σ 5 0) (σ 5 1) (σ 5 2)).2) := by
  unfold f_X8_carryOut
  simp only [eq_false (show ¬ enMap 3 = (1 : Int32) by decide), eq_false (show ¬ enMap 3 = (2 : Int32) by decide), eq_false (show ¬ enMap 3 = (3 : Int32) by decide), eq_true (show enMap 3 = (4 : Int32) by decide), ↓reduceIte]
theorem bcm_4 {s : St} (h9 : s 0 9 = nI 4) : f_X9_badCommand s = f_X9_badRaise s (s 5 0) := by
  unfold f_X9_badCommand
  simp only [h9, eq_false (show ¬ nI 4 = (0 : Int32) by decide), eq_false (show ¬ nI 4 = (1 : Int32) by decide), eq_false (show ¬ nI 4 = (2 : Int32) by decide), eq_false (show ¬ nI 4 = (3 : Int32) by decide), eq_true (show nI 4 = (4 : Int32) by decide), ↓reduceIte]
theorem dom_4 {s : St} (h9 : s 0 9 = nI 4) : f_X9_does s = f_X9_raises s (s 5 0) := by
  refine Eq.trans ?_ (pr_eta _)
  unfold f_X9_does
  simp only [h9, eq_false (show ¬ nI 4 = (0 : Int32) by decide), eq_false (show ¬ nI 4 = (1 : Int32) by decide), eq_false (show ¬ nI 4 = (2 : Int32) by decide), eq_false (show ¬ nI 4 = (3 : Int32) by decide), eq_true (show nI 4 = (4 : Int32) by decide), ↓reduceIte]
theorem cry_4 {σ : St} : f_X8_carryOut σ 4 = ((f_X5_raiseSource (sb (gmM 0) σ) (σ 5 0)).1, mg (giM 0) σ (f_X5_raiseSource (sb (gmM 0) σ) (σ 5 0)).2) := by
  unfold f_X8_carryOut
  simp only [eq_false (show ¬ enMap 4 = (1 : Int32) by decide), eq_false (show ¬ enMap 4 = (2 : Int32) by decide), eq_false (show ¬ enMap 4 = (3 : Int32) by decide), eq_false (show ¬ enMap 4 = (4 : Int32) by decide), eq_true (show enMap 4 = (5 : Int32) by decide), ↓reduceIte]
theorem bcm_5 {s : St} (h9 : s 0 9 = nI 5) : f_X9_badCommand s = f_X9_badLine s (s 5 0) := by
  unfold f_X9_badCommand
  simp only [h9, eq_false (show ¬ nI 5 = (0 : Int32) by decide), eq_false (show ¬ nI 5 = (1 : Int32) by decide), eq_false (show ¬ nI 5 = (2 : Int32) by decide), eq_false (show ¬ nI 5 = (3 : Int32) by decide), eq_false (show ¬ nI 5 = (4 : Int32) by decide), eq_true (show nI 5 = (5 : Int32) by decide), ↓reduceIte]
theorem dom_5 {s : St} (h9 : s 0 9 = nI 5) : f_X9_does s = f_X9_lines s (s 5 0) 1 := by
  refine Eq.trans ?_ (pr_eta _)
  unfold f_X9_does
  simp only [h9, eq_false (show ¬ nI 5 = (0 : Int32) by decide), eq_false (show ¬ nI 5 = (1 : Int32) by decide), eq_false (show ¬ nI 5 = (2 : Int32) by decide), eq_false (show ¬ nI 5 = (3 : Int32) by decide), eq_false (show ¬ nI 5 = (4 : Int32) by decide), eq_true (show nI 5 = (5 : Int32) by decide), ↓reduceIte]
theorem cry_5 {σ : St} : f_X8_carryOut σ 5 = ((f_X5_changeLine (sb (gmM 0) σ) (σ 5 0) 1).1, mg (giM 0) σ (f_X5_changeLine (sb (gmM 0) σ) (σ 5 0) 1).2) := by
  unfold f_X8_carryOut
  simp only [eq_false (show ¬ enMap 5 = (1 : Int32) by decide), eq_false (show ¬ enMap 5 = (2 : Int32) by decide), eq_false (show ¬ enMap 5 = (3 : Int32) by decide), eq_false (show ¬ enMap 5 = (4 : Int32) by decide), eq_false (show ¬ enMap 5 = (5 : Int32) by decide), eq_true (show enMap 5 = (6 : Int32) by decide), ↓reduceIte]
theorem bcm_6 {s : St} (h9 : s 0 9 = nI 6) : f_X9_badCommand s = f_X9_badLine s (s 5 0) := by
  unfold f_X9_badCommand
  simp only [h9, eq_false (show ¬ nI 6 = (0 : Int32) by decide), eq_false (show ¬ nI 6 = (1 : Int32) by decide), eq_false (show ¬ nI 6 = (2 : Int32) by decide), eq_false (show ¬ nI 6 = (3 : Int32) by decide), eq_false (show ¬ nI 6 = (4 : Int32) by decide), eq_false (show ¬ nI 6 = (5 : Int32) by decide), eq_true (show nI 6 = (6 : Int32) by decide), ↓reduceIte]
theorem dom_6 {s : St} (h9 : s 0 9 = nI 6) : f_X9_does s = f_X9_lines s (s 5 0) 0 := by
  refine Eq.trans ?_ (pr_eta _)
  unfold f_X9_does
  simp only [h9, eq_false (show ¬ nI 6 = (0 : Int32) by decide), eq_false (show ¬ nI 6 = (1 : Int32) by decide), eq_false (show ¬ nI 6 = (2 : Int32) by decide), eq_false (show ¬ nI 6 = (3 : Int32) by decide), eq_false (show ¬ nI 6 = (4 : Int32) by decide), eq_false (show ¬ nI 6 = (5 : Int32) by decide), eq_true (show nI 6 = (6 : Int32) by decide), ↓reduceIte]
theorem cry_6 {σ : St} : f_X8_carryOut σ 6 = ((f_X5_changeLine (sb (gmM 0) σ) (σ 5 0) 0).1, mg (giM 0) σ (f_X5_changeLine (sb (gmM 0) σ) (σ 5 0) 0).2) := by
  unfold f_X8_carryOut
  simp only [eq_false (show ¬ enMap 6 = (1 : Int32) by decide), eq_false (show ¬ enMap 6 = (2 : Int32) by decide), eq_false (show ¬ enMap 6 = (3 : Int32) by decide), eq_false (show ¬ enMap 6 = (4 : Int32) by decide), eq_false (show ¬ enMap 6 = (5 : Int32) by decide), eq_false (show ¬ enMap 6 = (6 : Int32) by decide), eq_true (show enMap 6 = (7 : Int32) by decide), ↓reduceIte]
theorem bcm_7 {s : St} (h9 : s 0 9 = nI 7) : f_X9_badCommand s = f_X9_badSet (s 5 0) (s 5 1) := by
  unfold f_X9_badCommand
  simp only [h9, eq_false (show ¬ nI 7 = (0 : Int32) by decide), eq_false (show ¬ nI 7 = (1 : Int32) by decide), eq_false (show ¬ nI 7 = (2 : Int32) by decide), eq_false (show ¬ nI 7 = (3 : Int32) by decide), eq_false (show ¬ nI 7 = (4 : Int32) by decide), eq_false (show ¬ nI 7 = (5 : Int32) by decide), eq_false (show ¬ nI 7 = (6 : Int32) by decide), eq_true (show nI 7 = (7 : Int32) by decide), ↓reduceIte]
theorem dom_7 {s : St} (h9 : s 0 9 = nI 7) : f_X9_does s = f_X9_sets s (s 5 0) (s 5 1) := by
  refine Eq.trans ?_ (pr_eta _)
  unfold f_X9_does
  simp only [h9, eq_false (show ¬ nI 7 = (0 : Int32) by decide), eq_false (show ¬ nI 7 = (1 : Int32) by decide), eq_false (show ¬ nI 7 = (2 : Int32) by decide), eq_false (show ¬ nI 7 = (3 : Int32) by decide), eq_false (show ¬ nI 7 = (4 : Int32) by decide), eq_false (show ¬ nI 7 = (5 : Int32) by decide), eq_false (show ¬ nI 7 = (6 : Int32) by decide), eq_true (show nI 7 = (7 : Int32) by decide), ↓reduceIte]
theorem cry_7 {σ : St} : f_X8_carryOut σ 7 = ((f_X5_changeSetting (sb (gmM 0) σ) (σ 5 0) (σ 5 1)).1, mg (giM 0) σ (f_X5_changeSetting (sb (gmM 0) σ) (σ 5 0) (σ 5 1)).2) := by
  unfold f_X8_carryOut
  simp only [eq_false (show ¬ enMap 7 = (1 : Int32) by decide), eq_false (show ¬ enMap 7 = (2 : Int32) by decide), eq_false (show ¬ enMap 7 = (3 : Int32) by decide), eq_false (show ¬ enMap 7 = (4 : Int32) by decide), eq_false (show ¬ enMap 7 = (5 : Int32) by decide), eq_false (show ¬ enMap 7 = (6 : Int32) by decide), eq_false (show ¬ enMap 7 = (7 : Int32) by decide), eq_true (show enMap 7 = (8 : Int32) by decide), ↓reduceIte]
theorem bcm_8 {s : St} (h9 : s 0 9 = nI 8) : f_X9_badCommand s = f_X9_badRun (s 5 0) := by
  unfold f_X9_badCommand
  simp only [h9, eq_false (show ¬ nI 8 = (0 : Int32) by decide), eq_false (show ¬ nI 8 = (1 : Int32) by decide), eq_false (show ¬ nI 8 = (2 : Int32) by decide), eq_false (show ¬ nI 8 = (3 : Int32) by decide), eq_false (show ¬ nI 8 = (4 : Int32) by decide), eq_false (show ¬ nI 8 = (5 : Int32) by decide), eq_false (show ¬ nI 8 = (6 : Int32) by decide), eq_false (show ¬ nI 8 = (7 : Int32) by decide), ↓reduceIte]
theorem dom_8 {s : St} (h9 : s 0 9 = nI 8) : f_X9_does s = f_X9_runs s (s 5 0) := by
  refine Eq.trans ?_ (pr_eta _)
  unfold f_X9_does
  simp only [h9, eq_false (show ¬ nI 8 = (0 : Int32) by decide), eq_false (show ¬ nI 8 = (1 : Int32) by decide), eq_false (show ¬ nI 8 = (2 : Int32) by decide), eq_false (show ¬ nI 8 = (3 : Int32) by decide), eq_false (show ¬ nI 8 = (4 : Int32) by decide), eq_false (show ¬ nI 8 = (5 : Int32) by decide), eq_false (show ¬ nI 8 = (6 : Int32) by decide), eq_false (show ¬ nI 8 = (7 : Int32) by decide), ↓reduceIte]
theorem cry_8 {σ : St} : f_X8_carryOut σ 8 = ((f_X5_spendTicks (sb (gmM 0) σ) (σ 5 0)).1, mg (giM 0) σ (f_X5_spendTicks (sb (gmM 0) σ) (σ 5 0)).2) := by
  unfold f_X8_carryOut
  simp only [eq_false (show ¬ enMap 8 = (1 : Int32) by decide), eq_false (show ¬ enMap 8 = (2 : Int32) by decide), eq_false (show ¬ enMap 8 = (3 : Int32) by decide), eq_false (show ¬ enMap 8 = (4 : Int32) by decide), eq_false (show ¬ enMap 8 = (5 : Int32) by decide), eq_false (show ¬ enMap 8 = (6 : Int32) by decide), eq_false (show ¬ enMap 8 = (7 : Int32) by decide), eq_false (show ¬ enMap 8 = (8 : Int32) by decide), ↓reduceIte]
theorem carry_sim {τ : Int} {σ s : St} {j : Nat} (hj : j < 9) (h9 : s 0 9 = nI j) (hn : ∀ k, k < 4 → σ 5 k = s 5 k) (hM : RMx τ (sb (gmM 0) σ) (s 1)) (h0 : 0 ≤ τ) (ht : τ + 501 < 2147483647) : ∃ A : Int32 × St, f_X8_carryOut σ j = (A.1, mg (giM 0) σ A.2) ∧ opS (τ + 501) A (f_X9_badCommand s) (f_X9_does s) (sb (gmM 0) σ) := by
  have n0 := hn 0 (by decide)
  have n1 := hn 1 (by decide)
  have n2 := hn 2 (by decide)
  have n3 := hn 3 (by decide)
  have hc : j = 0 ∨ j = 1 ∨ j = 2 ∨ j = 3 ∨ j = 4 ∨ j = 5 ∨ j = 6 ∨ j = 7 ∨ j = 8 := by omega
  rcases hc with rfl | rfl | rfl | rfl | rfl | rfl | rfl | rfl | rfl
  · refine ⟨_, cry_0, ?_⟩
    rw [bcm_0 h9, dom_0 h9, n0, n1]
    exact (add_sim hM h0 _ _ _).mono (by omega)
  · refine ⟨_, cry_1, ?_⟩
    rw [bcm_1 h9, dom_1 h9, n0, n1]
    exact (add_sim hM h0 _ _ _).mono (by omega)
  · refine ⟨_, cry_2, ?_⟩
    rw [bcm_2 h9, dom_2 h9, n0, n1, n2, n3]
    exact (sec_sim hM _ _ _ _).mono (by omega)
  · refine ⟨_, cry_3, ?_⟩
    rw [bcm_3 h9, dom_3 h9, n0, n1, n2]
    exact (timer_sim hM _ _ _).mono (by omega)
  · refine ⟨_, cry_4, ?_⟩
    rw [bcm_4 h9, dom_4 h9, n0]
    exact (raiseS_sim hM _).mono (by omega)
  · refine ⟨_, cry_5, ?_⟩
    rw [bcm_5 h9, dom_5 h9, n0]
    exact (line_sim hM _ _ rfl).mono (by omega)
  · refine ⟨_, cry_6, ?_⟩
    rw [bcm_6 h9, dom_6 h9, n0]
    exact (line_sim hM _ _ rfl).mono (by omega)
  · refine ⟨_, cry_7, ?_⟩
    rw [bcm_7 h9, dom_7 h9, n0, n1]
    exact (set_sim hM _ _).mono (by omega)
  · refine ⟨_, cry_8, ?_⟩
    rw [bcm_8 h9, dom_8 h9, n0]
    exact run_sim hM ht _
/-- of the class, what a run of commands leaves -/
def cf (t t' : St) : Prop := ∀ k, k ≠ 0 → ¬ (3 ≤ k ∧ k < 6) → ¬ (6 + 57 * 0 ≤ k ∧ k < 6 + 57 * 0 + 57) → t' k = t k
theorem cf.trans {t t' t'' : St} (a : cf t t') (b : cf t' t'') : cf t t'' := fun k h1 h2 h3 => (b k h1 h2 h3).trans (a k h1 h2 h3)
def rf (u u' : St) : Prop := u' 2 = u 2 ∧ u' 0 3 = u 0 3 ∧ u' 0 4 = u 0 4
theorem rf.trans {u u' u'' : St} (a : rf u u') (b : rf u' u'') : rf u u'' := ⟨b.1.trans a.1, b.2.1.trans a.2.1, b.2.2.trans a.2.2⟩
theorem rf.fq {u u' : St} (h : fq u u') : rf u u' := ⟨funext fun y => h 2 y (by decide) (by omega), h 0 3 (by decide) (by omega), h 0 4 (by decide) (by omega)⟩
theorem fq.r1 {u u' : St} (h : fq u u') : u' 1 = u 1 := funext fun y => h 1 y (by decide) (by omega)
theorem xM {t u : St} {k : Nat} (h : ¬ (3 ≤ k ∧ k < 6)) : mg giX t u k = t k := by
  funext b
  unfold mg
  rw [giX_n h]
theorem xM_sb {t u : St} : sb (gmM 0) (mg giX t u) = sb (gmM 0) t := by
  funext a
  show mg giX t u (gmM 0 a) = t (gmM 0 a)
  exact xM (by unfold gmM; omega)
section Sec
variable {L : Nat}
theorem l45_go {n k : Nat} {a : Int32} {t : St} (c1 : ¬ 150 ≤ nI k) (c2 : t 0 4 = 0) : f_X8_runCommands_l45 (n + 1) k a t = if (f_X2_readCommand (sb gmX t)).1 = 0 then (a, mg giX t (f_X2_readCommand (sb gmX t)).2) else f_X8_runCommands_l45 n (k + 1) (if 0 ≤ (f_X8_carryOut (mg giX t (f_X2_readCommand (sb gmX t)).2) (((mg giX t (f_X2_readCommand (sb gmX t)).2) 3 4).toNatClampNeg)).1 then a + 1 else a) (if 0 ≤ (f_X8_carryOut (mg giX t (f_X2_readCommand (sb gmX t)).2) (((mg giX t (f_X2_readCommand (sb gmX t)).2) 3 4).toNatClampNeg)).1 then (f_X8_carryOut (mg giX t (f_X2_readCommand (sb gmX t)).2) (((mg giX t (f_X2_readCommand (sb gmX t)).2) 3 4).toNatClampNeg)).2 else up2 (f_X8_carryOut (mg giX t (f_X2_readCommand (sb gmX t)).2) (((mg giX t (f_X2_readCommand (sb gmX t)).2) 3 4).toNatClampNeg)).2 0 4 (-(f_X8_carryOut (mg giX t (f_X2_readCommand (sb gmX t)).2) (((mg giX t (f_X2_readCommand (sb gmX t)).2) 3 4).toNatClampNeg)).1)) := (if_neg c1).trans (if_pos c2)
theorem l70_go {n : Nat} {a : Int32} {X s : St} (c1 : ¬ X 0 6 ≤ X 0 8) (c2 : X 0 7 = 0) (es : (f_X9_reads X).2 = s) : f_X9_runCommands_l70 (n + 1) a X = f_X9_runCommands_l70 n (if f_X9_badCommand s = 0 then a + 1 else a) (f_X9_skips (if f_X9_badCommand s = 0 then (f_X9_does (up2 s 0 7 (f_X9_badCommand s))).2 else up2 s 0 7 (f_X9_badCommand s))).2 := by
  subst es
  exact (if_neg c1).trans (if_pos c2)
theorem l70_end {n : Nat} {a : Int32} {X : St} (c : X 0 6 ≤ X 0 8) : f_X9_runCommands_l70 (n + 1) a X = (a, X) := if_pos c
theorem l70_why {n : Nat} {a : Int32} {X : St} (c : ¬ X 0 7 = 0) : f_X9_runCommands_l70 (n + 1) a X = (a, X) := by
  by_cases c1 : X 0 6 ≤ X 0 8
  · exact if_pos c1
  · exact (if_neg c1).trans (if_neg c)
theorem l45_150 {n k : Nat} {a : Int32} {t : St} (c1 : 150 ≤ nI k) : f_X8_runCommands_l45 (n + 1) k a t = (a, t) := if_pos c1
theorem l45_why {n k : Nat} {a : Int32} {t : St} (c1 : ¬ 150 ≤ nI k) (c2 : ¬ t 0 4 = 0) : f_X8_runCommands_l45 (n + 1) k a t = (a, t) := (if_neg c1).trans (if_neg c2)
/-- what both hold between two commands -/
def SR (τ : Int) (L P : Nat) (t u : St) : Prop := TX L P (sb gmX t) u ∧ RMx τ (sb (gmM 0) t) (u 1) ∧ t 0 4 = u 0 7
def SE (τ : Int) (L : Nat) (t u t' u' : St) : Prop := RMx τ (sb (gmM 0) t') (u' 1) ∧ t' 0 4 = u' 0 7 ∧ TN L (sb gmX t') u' ∧ cf t t' ∧ rf u u'
theorem one_sim {τ : Int} {P2 j : Nat} {a : Int32} {t v s : St} (hj : j < 9) (h0 : 0 ≤ τ) (ht : τ + 501 < 2147483647) (hT : TX L P2 v s) (hM : RMx τ (sb (gmM 0) t) (s 1)) (e4 : v 0 4 = nI j) (e9 : s 0 9 = nI j) (w0 : t 0 4 = 0) (w7 : s 0 7 = 0) : ∃ a' t' s', (if 0 ≤ (f_X8_carryOut (mg giX t v) (((mg giX t v) 3 4).toNatClampNeg)).1 then a + 1 else a) = a' ∧ (if 0 ≤ (f_X8_carryOut (mg giX t v) (((mg giX t v) 3 4).toNatClampNeg)).1 then (f_X8_carryOut (mg giX t v) (((mg giX t v) 3 4).toNatClampNeg)).2 else up2 (f_X8_carryOut (mg giX t v) (((mg giX t v) 3 4).toNatClampNeg)).2 0 4 (-(f_X8_carryOut (mg giX t v) (((mg giX t v) 3 4).toNatClampNeg)).1)) = t' ∧ (if f_X9_badCommand s = 0 then a + 1 else a) = a' ∧ (if f_X9_badCommand s = 0 then (f_X9_does (up2 s 0 7 (f_X9_badCommand s))).2 else up2 s 0 7 (f_X9_badCommand s)) = s' ∧ SR (τ + 501) L P2 t' s' ∧ cf t t' ∧ rf s s' ∧ ag s s' := by
  have ej : ((mg giX t v) 3 4).toNatClampNeg = j := by
    show (v 0 4).toNatClampNeg = j
    rw [e4, nI_clamp (by omega)]
  rw [ej]
  obtain ⟨A, q1, q2⟩ := carry_sim (σ := mg giX t v) (s := up2 s 0 7 (f_X9_badCommand s)) hj (by rw [up2_j (by decide)]; exact e9) (fun k hk => by rw [up2_k (by decide)]; exact hT.1.2.2.2.2 k hk) (by rw [xM_sb, up2_rowk (by decide)]; exact hM) h0 ht
  have eb : f_X9_badCommand (up2 s 0 7 (f_X9_badCommand s)) = f_X9_badCommand s := bc_c (up2_rowk (by decide)) (up2_rowk (by decide)) (up2_j (by decide))
  rw [eb] at q2
  rw [q1]
  dsimp only
  rcases q2 with ⟨b0, d1, d2, d3⟩ | ⟨b0, d1⟩
  · rw [b0] at d1 d3 ⊢
    have d2' : 0 ≤ A.1 := by rw [i32_le]; exact d2
    rw [if_pos d2', if_pos d2', if_pos (show (0 : Int32) = 0 from rfl), if_pos (show (0 : Int32) = 0 from rfl)]
    have hfr := fr_does (σ := up2 s 0 7 0)
    refine ⟨_, _, _, rfl, rfl, rfl, rfl, ⟨?_, ?_, ?_⟩, ?_, ?_, ag_does⟩
    · refine hT.keep ?_ ?_ ?_ ?_ ?_ ?_ ?_ ?_
      · show mg (giM 0) (mg giX t v) A.2 3 1 = _
        rw [gi_lo (by decide)]; rfl
      · show mg (giM 0) (mg giX t v) A.2 3 2 = _
        rw [gi_lo (by decide)]; rfl
      · show mg (giM 0) (mg giX t v) A.2 4 = _
        rw [gi_lo (by decide)]; rfl
      · show mg (giM 0) (mg giX t v) A.2 5 = _
        rw [gi_lo (by decide)]; rfl
      · rw [hfr 0 (by decide), up2_j (by decide)]
      · rw [hfr 0 (by decide), up2_j (by decide)]
      · rw [hfr 4 (by decide), up2_rowk (by decide)]
      · rw [hfr 5 (by decide), up2_rowk (by decide)]
    · exact d3.mcong (fun a b ha => congrFun (gi_in (q := 0) ha) b)
    · rw [gi_lo (by decide), xM (by decide), w0, hfr 0 (by decide), up2_s]
    · intro k h1 h2 h3
      rw [gi_lo h3, xM h2]
    · exact ⟨by rw [hfr 2 (by decide), up2_rowk (by decide)], by rw [hfr 0 (by decide), up2_j (by decide)], by rw [hfr 0 (by decide), up2_j (by decide)]⟩
  · have hne : ¬ f_X9_badCommand s = 0 := by rcases b0 with e | e | e <;> rw [e] <;> decide
    have hA : A.1 = -f_X9_badCommand s := congrArg Prod.fst d1
    have hlt : ¬ 0 ≤ A.1 := by rw [hA]; rcases b0 with e | e | e <;> rw [e] <;> decide
    have en : -A.1 = f_X9_badCommand s := by rw [hA]; rcases b0 with e | e | e <;> rw [e] <;> rfl
    have em : mg (giM 0) (mg giX t v) A.2 = mg giX t v := by
      rw [d1]
      exact mg_sb (prtM (g := fun x => x) (T := fun _ => 0) (ad := fun x => x) (q := 0) (by decide)) _
    rw [if_neg hlt, if_neg hlt, if_neg hne, if_neg hne, em, en]
    refine ⟨_, _, _, rfl, rfl, rfl, rfl, ⟨?_, ?_, ?_⟩, ?_, ?_, ag_7⟩
    · exact hT.keep rfl rfl rfl rfl (up2_j (by decide)) (up2_j (by decide)) (up2_rowk (by decide)) (up2_rowk (by decide))
    · rw [up2_rowk (by decide)]
      exact (hM.mono (by omega)).mcong (fun a b ha => by show up2 (mg giX t v) 0 4 _ (gmM 0 a) b = t (gmM 0 a) b; rw [up2_k (by unfold gmM; omega), xM (by unfold gmM; omega)])
    · rw [up2_s, up2_s]
    · intro k h1 h2 h3
      rw [up2_rowk h1, xM h2]
    · exact ⟨up2_rowk (by decide), up2_j (by decide), up2_j (by decide)⟩
end Sec
