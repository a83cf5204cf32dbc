theorem settle_ok {β : St} {a : Int32} (h : 0 ≤ a.toInt) : f_X8_settle β a = (0, a, f_X4_keep β) := by
  have n1 : (-1 : Int32).toInt = -1 := by decide
  have n2 : (-2 : Int32).toInt = -2 := by decide
  have n3 : (-3 : Int32).toInt = -3 := by decide
  unfold f_X8_settle
  rw [if_neg (fun e => by rw [e, n1] at h; omega), if_neg (fun e => by rw [e, n2] at h; omega), if_neg (fun e => by rw [e, n3] at h; omega)]
theorem settle_bad {β : St} {b : Int32} (h : b = 1 ∨ b = 2 ∨ b = 3) : f_X8_settle β (-b) = (b.toNatClampNeg, 0, β) := by
  rcases h with rfl | rfl | rfl <;> rfl
theorem refused_0 (δ : St) : f_X9_refused δ 0 = (0, up2 δ 0 4 0) := rfl
theorem refused_p {δ : St} {v : Int32} (h : v = 1 ∨ v = 2 ∨ v = 3) : f_X9_refused δ v = (1, up2 δ 0 4 v) := by
  rcases h with rfl | rfl | rfl <;> rfl
/-- what a call of both answers: alike, or refused alike, by the caller's numbers for what was thrown -/
def apiR (τ : Int) (C : Nat × Int32 × St) (D : Int32 × St) (W : Nat → Int32) : Prop := RBg τ C.2.2 D.2 ∧ ((C.1 = 0 ∧ D.2 0 4 = 0 ∧ C.2.1 = D.1) ∨ (C.1 ≠ 0 ∧ W C.1 ≠ 0 ∧ D.2 0 4 = W C.1))
def w23 (k : Nat) : Int32 := if k = 2 then 1 else if k = 3 then 2 else 0
def w123 (k : Nat) : Int32 := if k = 1 then 1 else if k = 2 then 2 else if k = 3 then 3 else 0
def w13 (k : Nat) : Int32 := if k = 1 then 1 else if k = 3 then 2 else 0
def w2 (k : Nat) : Int32 := if k = 2 then 1 else 0
def w12 (k : Nat) : Int32 := if k = 1 then 1 else if k = 2 then 2 else 0
def w1 (k : Nat) : Int32 := if k = 1 then 1 else 0
def w3 (k : Nat) : Int32 := if k = 3 then 1 else 0
section Und
variable {τ τ' : Int} {β δ : St}
theorem sv_1 (h : RBg τ β δ) : (f_X9_saves (up2 δ 0 4 0)) 1 = δ 1 ∧ f_X9_saves (up2 δ 0 4 0) 0 4 = 0 := by
  obtain ⟨-, ⟨c, nx, hc, hn, b12, d03, b11, hr⟩, -, -⟩ := h
  obtain ⟨-, -, s3, s4⟩ := saves_row (σ := up2 δ 0 4 0) hc (by rw [up2_j (by decide)]; exact d03)
  exact ⟨(s3 1 (by decide) (by decide)).trans (up2_rowk (by decide)), (s4 4 (by decide)).trans up2_s⟩
theorem api_u {A : Int32 × St} {bad : Int32} {Bf : St → Int32 × St} {D : Int32 × St} {W : Nat → Int32} (h : RBg τ β δ) (ht : τ ≤ τ') (hop : ∀ s : St, s 1 = δ 1 → opS τ' A bad (Bf s) (sb (gmM 0) (f_X4_prepare β))) (hfr : ∀ s, fr s (Bf s).2)
    (hD0 : bad = 0 → D = Bf (f_X9_saves (up2 δ 0 4 0))) (hD1 : (bad = 1 ∨ bad = 2 ∨ bad = 3) → W bad.toNatClampNeg ≠ 0 ∧ D.2 = up2 δ 0 4 (W bad.toNatClampNeg)) : apiR τ' (f_X8_settle (mg (giM 0) (f_X4_prepare β) A.2) A.1) D W := by
  obtain ⟨s1, s2⟩ := sv_1 h
  rcases hop (f_X9_saves (up2 δ 0 4 0)) s1 with ⟨b0, e1, e2, e3⟩ | ⟨b0, e1⟩
  · rw [settle_ok e2, hD0 b0]
    refine ⟨h.done ht e3 (hfr _), Or.inl ⟨rfl, ?_, e1⟩⟩
    show (Bf _).2 0 4 = 0
    rw [hfr _ 0 (by decide)]
    exact s2
  · obtain ⟨w0, w1⟩ := hD1 b0
    have es : mg (giM 0) (f_X4_prepare β) A.2 = f_X4_prepare β := by
      rw [e1]
      exact mg_sb (prtM (g := fun x => x) (T := fun _ => 0) (ad := fun x => x) (q := 0) (by decide)) _
    rw [es, e1]
    show apiR τ' (f_X8_settle (f_X4_prepare β) (-bad)) D W
    rw [settle_bad b0]
    refine ⟨?_, Or.inr ⟨?_, w0, ?_⟩⟩
    · show RBg τ' (f_X4_prepare β) D.2
      rw [w1]
      have hp := (h.prep (v := W bad.toNatClampNeg)).1
      obtain ⟨m1, ⟨c, nx, hH⟩, m3, m4⟩ := hp
      exact ⟨m1.mono ht, ⟨c, nx, hH.congr ht rfl (fun _ _ _ _ _ _ _ => rfl) rfl rfl⟩, m3, m4⟩
    · show bad.toNatClampNeg ≠ 0
      rcases b0 with rfl | rfl | rfl <;> decide
    · rw [w1, up2_s]
theorem prow (h : RBg τ β δ) {s : St} (hs : s 1 = δ 1) : RMx τ (sb (gmM 0) (f_X4_prepare β)) (s 1) := by
  rw [hs]
  exact h.1.mcong (h.prep (v := 0)).2
theorem a_addSource (h : RBg τ β δ) (h0 : 0 ≤ τ) (a b c : Int32) : apiR τ (f_X8_addSource β a b c) (f_X9_addSource δ a b c) w23 := by
  refine api_u (A := f_X5_makeSource (sb (gmM 0) (f_X4_prepare β)) a b c) (bad := f_X9_badSource δ a b c) (Bf := fun s => f_X9_comes s a b c) h (Int.le_refl _) (fun s hs => ?_) (fun s => fr_comes) (fun e => ?_) (fun e => ?_)
  · have e : f_X9_badSource s a b c = f_X9_badSource δ a b c := by unfold f_X9_badSource; rw [hs]
    rw [← e]
    exact add_sim (prow h hs) h0 a b c
  · unfold f_X9_addSource
    rw [e]
    rfl
  · have hne : f_X9_badSource δ a b c ≠ 1 := by
      unfold f_X9_badSource
      dsimp only
      repeat' split
      all_goals decide
    unfold f_X9_addSource
    rcases e with e | e | e
    · exact absurd e hne
    · rw [e]; exact ⟨by decide, rfl⟩
    · rw [e]; exact ⟨by decide, rfl⟩
theorem a_addSection (h : RBg τ β δ) (a b c e : Int32) : apiR τ (f_X8_addSection β a b c e) (f_X9_addSection δ a b c e) w123 := by
  refine api_u (A := f_X5_makeSection (sb (gmM 0) (f_X4_prepare β)) a b c e) (bad := f_X9_badSection δ a b c e) (Bf := fun s => f_X9_comesSection s a b c e) h (Int.le_refl _) (fun s hs => ?_) (fun s => fr_comesSection) (fun e1 => ?_) (fun e1 => ?_)
  · have e2 : f_X9_badSection s a b c e = f_X9_badSection δ a b c e := by unfold f_X9_badSection; rw [isSource_c hs, of_c hs, placeOf_c hs]
    rw [← e2]
    exact sec_sim (prow h hs) a b c e
  · unfold f_X9_addSection
    rw [e1]
    rfl
  · unfold f_X9_addSection
    rcases e1 with e1 | e1 | e1 <;> rw [e1] <;> exact ⟨by decide, rfl⟩
theorem a_setTimer (h : RBg τ β δ) (a b c : Int32) : apiR τ (f_X8_setTimer β a b c) (f_X9_setTimer δ a b c) w123 := by
  refine api_u (A := f_X5_changeTimer (sb (gmM 0) (f_X4_prepare β)) a b c) (bad := f_X9_badTimer δ a b c) (Bf := fun s => f_X9_times s a b c) h (Int.le_refl _) (fun s hs => ?_) (fun s => fr_times) (fun e1 => ?_) (fun e1 => ?_)
  · have e2 : f_X9_badTimer s a b c = f_X9_badTimer δ a b c := by unfold f_X9_badTimer; rw [isSource_c hs, of_c hs]
    rw [← e2]
    exact timer_sim (prow h hs) a b c
  · unfold f_X9_setTimer
    rw [e1]
    rfl
  · unfold f_X9_setTimer
    rcases e1 with e1 | e1 | e1 <;> rw [e1] <;> exact ⟨by decide, rfl⟩
theorem a_raise (h : RBg τ β δ) (a : Int32) : apiR τ (f_X8_raise β a) (f_X9_raise δ a) w13 := by
  refine api_u (A := f_X5_raiseSource (sb (gmM 0) (f_X4_prepare β)) a) (bad := f_X9_badRaise δ a) (Bf := fun s => f_X9_raises s a) h (Int.le_refl _) (fun s hs => ?_) (fun s => fr_raises) (fun e1 => ?_) (fun e1 => ?_)
  · have e2 : f_X9_badRaise s a = f_X9_badRaise δ a := by unfold f_X9_badRaise; rw [isSource_c hs, of_c hs]
    rw [← e2]
    exact raiseS_sim (prow h hs) a
  · unfold f_X9_raise
    rw [e1]
    rfl
  · have hne : f_X9_badRaise δ a ≠ 2 := by
      unfold f_X9_badRaise
      dsimp only
      repeat' split
      all_goals decide
    unfold f_X9_raise
    rcases e1 with e1 | e1 | e1
    · rw [e1]; exact ⟨by decide, rfl⟩
    · exact absurd e1 hne
    · rw [e1]; exact ⟨by decide, rfl⟩
theorem a_setLine (h : RBg τ β δ) (a b : Int32) (hz : zb b = b) : apiR τ (f_X8_setLine β a b) (f_X9_setLine δ a b) w13 := by
  refine api_u (A := f_X5_changeLine (sb (gmM 0) (f_X4_prepare β)) a b) (bad := f_X9_badLine δ a) (Bf := fun s => f_X9_lines s a b) h (Int.le_refl _) (fun s hs => ?_) (fun s => fr_lines) (fun e1 => ?_) (fun e1 => ?_)
  · have e2 : f_X9_badLine s a = f_X9_badLine δ a := by unfold f_X9_badLine; rw [isSource_c hs, of_c hs]
    rw [← e2]
    exact line_sim (prow h hs) a b hz
  · unfold f_X9_setLine
    rw [e1]
    rfl
  · have hne : f_X9_badLine δ a ≠ 2 := by
      unfold f_X9_badLine
      dsimp only
      repeat' split
      all_goals decide
    unfold f_X9_setLine
    rcases e1 with e1 | e1 | e1
    · rw [e1]; exact ⟨by decide, rfl⟩
    · exact absurd e1 hne
    · rw [e1]; exact ⟨by decide, rfl⟩
theorem badSet_02 (a b : Int32) : f_X9_badSet a b = 0 ∨ f_X9_badSet a b = 2 := by
  unfold f_X9_badSet
  dsimp only
  repeat' split
  all_goals first | exact Or.inl rfl | exact Or.inr rfl
theorem badRun_02 (a : Int32) : f_X9_badRun a = 0 ∨ f_X9_badRun a = 2 := by
  unfold f_X9_badRun
  dsimp only
  repeat' split
  all_goals first | exact Or.inl rfl | exact Or.inr rfl
theorem a_set (h : RBg τ β δ) (a b : Int32) : apiR τ (f_X8_set β a b) (f_X9_set δ a b) w2 := by
  refine api_u (A := f_X5_changeSetting (sb (gmM 0) (f_X4_prepare β)) a b) (bad := f_X9_badSet a b) (Bf := fun s => f_X9_sets s a b) h (Int.le_refl _) (fun s hs => set_sim (prow h hs) a b) (fun s => fr_sets) (fun e1 => ?_) (fun e1 => ?_)
  · unfold f_X9_set
    rw [e1]
    rfl
  · unfold f_X9_set
    rcases badSet_02 a b with e2 | e2
    · rw [e2] at e1; exact absurd e1 (by decide)
    · rw [e2]; exact ⟨by decide, rfl⟩
theorem a_run (h : RBg τ β δ) (ht : τ + 501 < 2147483647) (a : Int32) : apiR (τ + 501) (f_X8_run β a) (f_X9_run δ a) w2 := by
  refine api_u (A := f_X5_spendTicks (sb (gmM 0) (f_X4_prepare β)) a) (bad := f_X9_badRun a) (Bf := fun s => f_X9_runs s a) h (by omega) (fun s hs => run_sim (prow h hs) ht a) (fun s => fr_runs) (fun e1 => ?_) (fun e1 => ?_)
  · unfold f_X9_run
    rw [e1]
    rfl
  · unfold f_X9_run
    rcases badRun_02 a with e2 | e2
    · rw [e2] at e1; exact absurd e1 (by decide)
    · rw [e2]; exact ⟨by decide, rfl⟩
theorem a_clearSections (h : RBg τ β δ) (a : Int32) : apiR τ (f_X8_clearSections β a) (f_X9_clearSections δ a) w13 := by
  refine api_u (A := f_X5_dropSections (sb (gmM 0) (f_X4_prepare β)) a) (bad := badClear δ a) (Bf := fun s => (f_X9_of s a 7, up2 s 1 (ix a + 7) 0)) h (Int.le_refl _) (fun s hs => ?_) (fun s => fr.refl.up) (fun e1 => ?_) (fun e1 => ?_)
  · have e2 : badClear s a = badClear δ a := by unfold badClear; rw [isSource_c hs, placeOf_c hs]
    rw [← e2]
    exact clear_sim (prow h hs) a
  · unfold f_X9_clearSections
    unfold badClear at e1
    by_cases c1 : f_X9_isSource δ a = 0
    · rw [if_pos c1] at e1; exact absurd e1 (by decide)
    · rw [if_neg c1] at e1
      by_cases c2 : f_X9_placeOf δ a = -1
      · dsimp only
        rw [if_neg c1, if_pos c2]
        rfl
      · rw [if_neg c2] at e1; exact absurd e1 (by decide)
  · unfold f_X9_clearSections
    unfold badClear at e1 ⊢
    by_cases c1 : f_X9_isSource δ a = 0
    · dsimp only
      rw [if_pos c1, if_pos c1]
      exact ⟨by decide, rfl⟩
    · rw [if_neg c1] at e1
      by_cases c2 : f_X9_placeOf δ a = -1
      · rw [if_pos c2] at e1; exact absurd e1 (by decide)
      · dsimp only
        rw [if_neg c1, if_neg c2, if_neg c1, if_neg c2]
        exact ⟨by decide, rfl⟩
theorem a_setSource (h : RBg τ β δ) (a b c : Int32) : apiR τ (f_X8_setSource β a b c) (f_X9_setSource δ a b c) w123 := by
  have key : f_X9_setSource δ a b c = (let r52 := (f_X9_refused δ (badSetS δ a b c)).1; let s52 := (f_X9_refused δ (badSetS δ a b c)).2; (if r52 = 0 then setS (f_X9_saves s52) a b c else (0, s52))) := rfl
  refine api_u (A := f_X5_changeSource (sb (gmM 0) (f_X4_prepare β)) a b c) (bad := badSetS δ a b c) (Bf := fun s => setS s a b c) h (Int.le_refl _) (fun s hs => ?_) (fun s => fr.refl.up) (fun e1 => ?_) (fun e1 => ?_)
  · have e2 : badSetS s a b c = badSetS δ a b c := by unfold badSetS f_X9_isEntered; rw [isSource_c hs, placeOf_c hs, hs]
    rw [← e2]
    exact setS_sim (prow h hs) a b c
  · rw [key, e1]
    rfl
  · rw [key]
    rcases e1 with e1 | e1 | e1 <;> rw [e1] <;> exact ⟨by decide, rfl⟩
end Und
