/-- only the row of what is now has changed -/
def fr (σ u : St) : Prop := ∀ k, k ≠ 1 → u k = σ k
theorem fr.refl {σ : St} : fr σ σ := fun _ _ => rfl
theorem fr.trans {σ u w : St} (a : fr σ u) (b : fr u w) : fr σ w := fun k h => (b k h).trans (a k h)
theorem fr.up {σ u : St} {j : Nat} {v : Int32} (h : fr σ u) : fr σ (up2 u 1 j v) := fun k hk => (up2_rowk hk).trans (h k hk)
theorem fr_logs_l : ∀ n k t, fr t (f_X9_logs_l4 n k t)
  | 0, _, _ => fr.refl
  | n + 1, k, t => by
    unfold f_X9_logs_l4
    split
    · exact fr.refl
    · exact fr.trans (fr.up fr.refl) (fr_logs_l n _ _)
theorem fr_logs {σ : St} {a b c : Int32} : fr σ (f_X9_logs σ a b c) := by
  unfold f_X9_logs
  exact fr.up (fr.up (fr.up (fr.up (fr_logs_l _ _ _))))
theorem fr_changes {σ : St} {a b c : Int32} : fr σ (f_X9_changes σ a b c) := by
  unfold f_X9_changes
  exact fr.up (fr.up (fr.up fr.refl))
theorem fr_comes_l {s : St} : ∀ n k t, fr t (f_X9_comes_l15 s n k t)
  | 0, _, _ => fr.refl
  | n + 1, k, t => by
    unfold f_X9_comes_l15
    split
    · exact fr.refl
    · exact fr.trans (fr.up fr.refl) (fr_comes_l n _ _)
theorem fr_comes {σ : St} {a b c : Int32} : fr σ (f_X9_comes σ a b c).2 := by
  unfold f_X9_comes
  exact fr.up (fr.up (fr.up (fr.up (fr.up (fr.up (fr.up (fr_comes_l _ _ _)))))))
theorem fr_comesSection {σ : St} {a b c d : Int32} : fr σ (f_X9_comesSection σ a b c d).2 := by
  unfold f_X9_comesSection
  exact fr.up (fr.up (fr.up (fr.up fr.refl)))
theorem fr_times {σ : St} {a b c : Int32} : fr σ (f_X9_times σ a b c).2 := by
  unfold f_X9_times
  exact fr.up (fr.up fr.refl)
theorem fr_lines {σ : St} {a b : Int32} : fr σ (f_X9_lines σ a b).2 := by
  unfold f_X9_lines
  exact fr.up (fr.up fr.refl)
theorem fr_sets {σ : St} {a b : Int32} : fr σ (f_X9_sets σ a b).2 := by
  unfold f_X9_sets
  exact fr.up fr.refl
theorem fr_raises {σ : St} {a : Int32} : fr σ (f_X9_raises σ a).2 := by
  unfold f_X9_raises
  dsimp only
  split
  · exact fr.trans (fr.up (fr.up fr.refl)) fr_logs
  · exact fr.up (fr.up fr.refl)
theorem fr_top {σ : St} {a : Int32} : fr σ (f_X9_comesOnTop σ a) := by
  unfold f_X9_comesOnTop
  dsimp only
  repeat' first | with_reducible exact fr.refl | with_reducible refine fr.up ?_ | with_reducible refine fr.trans ?_ fr_logs | with_reducible refine fr.trans ?_ fr_changes | split | dsimp only
theorem fr_dec {σ X : St} (h : fr σ X) : fr σ (let r246 := f_X9_isEntering X; (if r246 = 0 then X else (if (X 1 7) = 0 then (let s269 := f_X9_comesOnTop X (X 1 0); s269) else X))) := by
  dsimp only
  split
  · exact h
  · split
    · exact fr.trans h fr_top
    · exact h
theorem fr_decides {σ : St} : fr σ (f_X9_decides σ) := by
  unfold f_X9_decides
  refine fr_dec (X := (let r1 := f_X9_candidate σ; (let r6 := f_X9_isEntering σ; (if r6 = 0 then (if r1 = (-1) then (if r1 = (-1) then σ else (let s174 := f_X9_changes σ 1 r1 (σ 1 2); (if (s174 1 9) ≤ 0 then s174 else (let r210 := f_X9_at (s174 1 (9 + (s174 1 9).toNatClampNeg)); (let s242 := f_X9_logs (up2 (up2 s174 1 (ix (s174 1 (9 + (s174 1 9).toNatClampNeg)) + 22) ((s174 1 (ix (s174 1 (9 + (s174 1 9).toNatClampNeg)) + 22)) + 1)) 1 88 ((s174 1 88) + 1)) 6 (s174 1 (9 + (s174 1 9).toNatClampNeg)) (s174 1 0); s242))))) else (if (σ 1 5) = 2 then (let s131 := f_X9_changes σ 3 r1 (σ 1 4); (let s154 := f_X9_logs (up2 s131 1 87 ((s131 1 87) + 1)) 5 r1 (s131 1 0); s154)) else (if r1 = (-1) then σ else (let s174 := f_X9_changes σ 1 r1 (σ 1 2); (if (s174 1 9) ≤ 0 then s174 else (let r210 := f_X9_at (s174 1 (9 + (s174 1 9).toNatClampNeg)); (let s242 := f_X9_logs (up2 (up2 s174 1 (ix (s174 1 (9 + (s174 1 9).toNatClampNeg)) + 22) ((s174 1 (ix (s174 1 (9 + (s174 1 9).toNatClampNeg)) + 22)) + 1)) 1 88 ((s174 1 88) + 1)) 6 (s174 1 (9 + (s174 1 9).toNatClampNeg)) (s174 1 0); s242))))))) else (if r1 = (-1) then (let s44 := f_X9_logs (up2 σ 1 89 ((σ 1 89) + 1)) 7 (σ 1 6) (σ 1 0); (let s56 := f_X9_changes s44 2 (-1) (s44 1 3); s56)) else (if r1 = (σ 1 6) then σ else (let s101 := f_X9_logs (up2 (up2 σ 1 6 r1) 1 86 ((σ 1 86) + 1)) 4 r1 (σ 1 0); s101))))))) ?_
  dsimp only
  repeat' first | with_reducible exact fr.refl | with_reducible refine fr.up ?_ | with_reducible refine fr.trans ?_ fr_logs | with_reducible refine fr.trans ?_ fr_changes | with_reducible refine fr.trans ?_ fr_raises | with_reducible refine fr.trans ?_ fr_top | split | dsimp only
theorem fr_spends {σ : St} : fr σ (f_X9_spends σ).2 := by
  unfold f_X9_spends
  dsimp only
  repeat' first | with_reducible exact fr.refl | with_reducible refine fr.up ?_ | with_reducible refine fr.trans ?_ fr_logs | with_reducible refine fr.trans ?_ fr_changes | with_reducible refine fr.trans ?_ fr_raises | with_reducible refine fr.trans ?_ fr_top | split | dsimp only
theorem fr_tick_l : ∀ n k t, fr t (f_X9_tick_l2 n k t)
  | 0, _, _ => fr.refl
  | n + 1, k, t => by
    unfold f_X9_tick_l2
    dsimp only
    split
    · exact fr.refl
    · refine fr.trans ?_ (fr_tick_l n _ _)
      repeat' first | with_reducible exact fr.refl | with_reducible refine fr.up ?_ | with_reducible refine fr.trans ?_ fr_logs | with_reducible refine fr.trans ?_ fr_changes | with_reducible refine fr.trans ?_ fr_raises | with_reducible refine fr.trans ?_ fr_top | split | dsimp only
theorem fr_tick {σ : St} : fr σ (f_X9_tick σ).2 := by
  unfold f_X9_tick
  exact fr.up (fr.trans (fr.trans (fr_tick_l _ _ _) fr_decides) fr_spends)
theorem fr_runs_l {p : Int32} : ∀ n k a t, fr t (f_X9_runs_l4 p n k a t).2
  | 0, _, _, _ => fr.refl
  | n + 1, k, a, t => by
    unfold f_X9_runs_l4
    dsimp only
    split
    · exact fr.refl
    · exact fr.trans fr_tick (fr_runs_l n _ _ _)
theorem fr_runs {σ : St} {a : Int32} : fr σ (f_X9_runs σ a).2 := by
  unfold f_X9_runs
  exact fr_runs_l _ _ _ _
theorem fr_does {σ : St} : fr σ (f_X9_does σ).2 := by
  unfold f_X9_does
  dsimp only
  repeat' first | with_reducible exact fr_comes | with_reducible exact fr_comesSection | with_reducible exact fr_times | with_reducible exact fr_raises | with_reducible exact fr_lines | with_reducible exact fr_sets | with_reducible exact fr_runs | split

/-- where the text is read, and how much of it there is -/
def ag (t u : St) : Prop := t 4 = u 4 ∧ t 0 6 = u 0 6 ∧ t 0 8 = u 0 8
theorem ag.refl {t : St} : ag t t := ⟨rfl, rfl, rfl⟩
theorem ag.trans {t u w : St} (a : ag t u) (b : ag u w) : ag t w := ⟨a.1.trans b.1, a.2.1.trans b.2.1, a.2.2.trans b.2.2⟩
theorem ag.symm {t u : St} (a : ag t u) : ag u t := ⟨a.1.symm, a.2.1.symm, a.2.2.symm⟩
theorem ag.sp {t u : St} {v w : Int32} (a : ag t u) (h : v = w) : ag (up2 t 0 8 v) (up2 u 0 8 w) := ⟨by rw [up2_rowk (by decide), up2_rowk (by decide)]; exact a.1, by rw [up2_j (by decide), up2_j (by decide)]; exact a.2.1, by rw [up2_s, up2_s]; exact h⟩
theorem ag.o5 {t u : St} {j : Nat} {v w : Int32} (a : ag t u) : ag (up2 t 5 j v) (up2 u 5 j w) := ⟨by rw [up2_rowk (by decide), up2_rowk (by decide)]; exact a.1, by rw [up2_k (by decide), up2_k (by decide)]; exact a.2.1, by rw [up2_k (by decide), up2_k (by decide)]; exact a.2.2⟩
theorem ag.o9 {t u : St} {v w : Int32} (a : ag t u) : ag (up2 t 0 9 v) (up2 u 0 9 w) := ⟨by rw [up2_rowk (by decide), up2_rowk (by decide)]; exact a.1, by rw [up2_j (by decide), up2_j (by decide)]; exact a.2.1, by rw [up2_j (by decide), up2_j (by decide)]; exact a.2.2⟩
theorem ag_isAt {t u : St} {a b : Int32} (h : ag t u) : f_X9_isAt t a b = f_X9_isAt u a b := by
  unfold f_X9_isAt
  rw [h.1, h.2.1, h.2.2]
theorem ag_skips_l : ∀ n t u, ag t u → ag (f_X9_skips_l9 n t) (f_X9_skips_l9 n u)
  | 0, _, _, h => h
  | n + 1, t, u, h => by
    unfold f_X9_skips_l9
    dsimp only
    rw [ag_isAt h]
    split
    · exact h
    · exact ag_skips_l n _ _ (h.sp (by rw [h.2.2]))
theorem ag_skips {t u : St} (h : ag t u) : (f_X9_skips t).1 = (f_X9_skips u).1 ∧ ag (f_X9_skips t).2 (f_X9_skips u).2 := ⟨ag_isAt h, ag_skips_l _ _ _ h⟩
theorem ag_word_l : ∀ n k a t u, ag t u → (f_X9_readsWord_l4 n k a t).1 = (f_X9_readsWord_l4 n k a u).1 ∧ (f_X9_readsWord_l4 n k a t).2.1 = (f_X9_readsWord_l4 n k a u).2.1 ∧ ag (f_X9_readsWord_l4 n k a t).2.2 (f_X9_readsWord_l4 n k a u).2.2
  | 0, _, _, _, _, h => ⟨rfl, rfl, h⟩
  | n + 1, k, a, t, u, h => by
    unfold f_X9_readsWord_l4
    dsimp only
    rw [ag_isAt h]
    split
    · exact ⟨rfl, rfl, h⟩
    · rw [h.1, h.2.2]
      exact ag_word_l n _ _ _ _ (h.sp rfl)
theorem word_60 {kk : Nat} {w : Int64} : ∀ n k t u, (f_X9_readsWord_l60 kk w n k t).1 = (f_X9_readsWord_l60 kk w n k u).1 ∧ (f_X9_readsWord_l60 kk w n k t).2 = t
  | 0, _, _, _ => ⟨rfl, rfl⟩
  | n + 1, k, t, u => by
    unfold f_X9_readsWord_l60
    dsimp only
    split
    · exact ⟨rfl, rfl⟩
    · split
      · exact ⟨rfl, rfl⟩
      · split
        · exact ⟨rfl, rfl⟩
        · exact word_60 n _ _ _
theorem ag_word {t u : St} (h : ag t u) : (f_X9_readsWord t).1 = (f_X9_readsWord u).1 ∧ ag (f_X9_readsWord t).2 (f_X9_readsWord u).2 := by
  obtain ⟨h1, h2, h3⟩ := ag_word_l fu151 0 0 t u h
  unfold f_X9_readsWord
  dsimp only
  rw [h1, h2]
  refine ⟨(word_60 _ _ _ _).1, ?_⟩
  rw [(word_60 _ _ _ t).2, (word_60 _ _ _ t).2]
  exact h3
theorem ag_num_l {p : Int32} {s1 s2 : St} (hs : s1 0 8 = s2 0 8) : ∀ n t u, ag t u → ag (f_X9_readsNumber_l32 p s1 n t) (f_X9_readsNumber_l32 p s2 n u)
  | 0, _, _, h => h
  | n + 1, t, u, h => by
    unfold f_X9_readsNumber_l32
    dsimp only
    rw [ag_isAt h, hs]
    split
    · exact h
    · rw [h.2.2]
      split
      · exact h
      · exact ag_num_l hs n _ _ ((h.o5).sp rfl)
theorem ag_num {t u : St} {p : Int32} (h : ag t u) : (f_X9_readsNumber t p).1 = (f_X9_readsNumber u p).1 ∧ ag (f_X9_readsNumber t p).2 (f_X9_readsNumber u p).2 := by
  obtain ⟨h1, h2⟩ := ag_skips h
  unfold f_X9_readsNumber
  dsimp only
  rw [h1, ag_isAt h2]
  split
  · exact ⟨rfl, h2⟩
  · split
    · exact ⟨rfl, h2⟩
    · exact ⟨rfl, ag_num_l h2.2.2 _ _ _ h2.o5⟩
theorem skip_9 : ∀ n t, f_X9_skips_l9 n t 0 9 = t 0 9
  | 0, _ => rfl
  | n + 1, t => by
    unfold f_X9_skips_l9
    dsimp only
    split
    · rfl
    · rw [skip_9 n]; exact up2_j (by decide)
theorem num_9l {p : Int32} {s : St} : ∀ n t, f_X9_readsNumber_l32 p s n t 0 9 = t 0 9
  | 0, _ => rfl
  | n + 1, t => by
    unfold f_X9_readsNumber_l32
    dsimp only
    split
    · rfl
    · split
      · rfl
      · rw [num_9l n, up2_j (by decide)]; exact up2_k (by decide)
theorem num_9 {t : St} {p : Int32} : (f_X9_readsNumber t p).2 0 9 = t 0 9 := by
  have h : (f_X9_skips t).2 0 9 = t 0 9 := skip_9 _ _
  unfold f_X9_readsNumber
  dsimp only
  split
  · exact h
  · split
    · exact h
    · exact (num_9l _ _).trans ((up2_k (by decide)).trans h)
/-- the same text, read on from here -/
def nx (t u : St) : Prop := u 4 = t 4 ∧ u 0 6 = t 0 6 ∧ (t 0 8).toInt ≤ (u 0 8).toInt
theorem nx.refl {t : St} : nx t t := ⟨rfl, rfl, Int.le_refl _⟩
theorem nx.trans {t u w : St} (a : nx t u) (b : nx u w) : nx t w := ⟨b.1.trans a.1, b.2.1.trans a.2.1, Int.le_trans a.2.2 b.2.2⟩
theorem nx.o5 {t u : St} {j : Nat} {v : Int32} (a : nx t u) : nx t (up2 u 5 j v) := ⟨by rw [up2_rowk (by decide)]; exact a.1, by rw [up2_k (by decide)]; exact a.2.1, by rw [up2_k (by decide)]; exact a.2.2⟩
theorem nx.o9 {t u : St} {v : Int32} (a : nx t u) : nx t (up2 u 0 9 v) := ⟨by rw [up2_rowk (by decide)]; exact a.1, by rw [up2_j (by decide)]; exact a.2.1, by rw [up2_j (by decide)]; exact a.2.2⟩
theorem nx.inc {t : St} {a b r : Int32} (I : InvD t) (er : f_X9_isAt t a b = r) (h : ¬ r = 0) : nx t (up2 t 0 8 (t 0 8 + 1)) := ⟨by rw [up2_rowk (by decide)], by rw [up2_j (by decide)], by rw [up2_s, (sp_inc I er h).2]; omega⟩
theorem nx_skips_l : ∀ n t, InvD t → nx t (f_X9_skips_l9 n t) ∧ InvD (f_X9_skips_l9 n t)
  | 0, _, I => ⟨nx.refl, I⟩
  | n + 1, t, I => by
    unfold f_X9_skips_l9
    dsimp only
    split
    · exact ⟨nx.refl, I⟩
    · next c =>
      have h := nx_skips_l n _ (I.spot (sp_inc I rfl c).1)
      exact ⟨(nx.inc I rfl c).trans h.1, h.2⟩
theorem nx_skips {t : St} (I : InvD t) : nx t (f_X9_skips t).2 ∧ InvD (f_X9_skips t).2 := nx_skips_l _ _ I
theorem nx_word_l : ∀ n k a t, InvD t → nx t (f_X9_readsWord_l4 n k a t).2.2 ∧ InvD (f_X9_readsWord_l4 n k a t).2.2
  | 0, _, _, _, I => ⟨nx.refl, I⟩
  | n + 1, k, a, t, I => by
    unfold f_X9_readsWord_l4
    dsimp only
    split
    · exact ⟨nx.refl, I⟩
    · next c =>
      have h := nx_word_l n (k + 1) (if 8 ≤ nI k then 0 else a <<< ((8 : Int32).toInt64 &&& 63) ||| (t 4 (t 0 8).toNatClampNeg).toInt64) _ (I.spot (sp_inc I rfl c).1)
      exact ⟨(nx.inc I rfl c).trans h.1, h.2⟩
theorem nx_word {t : St} (I : InvD t) : nx t (f_X9_readsWord t).2 ∧ InvD (f_X9_readsWord t).2 := by
  unfold f_X9_readsWord
  dsimp only
  rw [(word_60 _ _ _ t).2]
  exact nx_word_l _ _ _ _ I
theorem nx_num_l {p : Int32} {s1 : St} : ∀ n t, InvD t → nx t (f_X9_readsNumber_l32 p s1 n t) ∧ InvD (f_X9_readsNumber_l32 p s1 n t)
  | 0, _, I => ⟨nx.refl, I⟩
  | n + 1, t, I => by
    unfold f_X9_readsNumber_l32
    dsimp only
    split
    · exact ⟨nx.refl, I⟩
    · next c =>
      split
      · exact ⟨nx.refl, I⟩
      · have I2 : InvD (up2 t 5 p.toNatClampNeg (10 * t 5 p.toNatClampNeg + t 4 (t 0 8).toNatClampNeg - 48)) := I.up (by unfold InvDcr; omega)
        have e : ∀ {v : Int32}, up2 t 5 p.toNatClampNeg v 0 8 = t 0 8 := up2_k (by decide)
        have h := nx_num_l (p := p) (s1 := s1) n _ (I2.spot (sp_inc I rfl c).1)
        refine ⟨nx.trans ⟨?_, ?_, ?_⟩ h.1, h.2⟩
        · rw [up2_rowk (by decide), up2_rowk (by decide)]
        · rw [up2_j (by decide), up2_k (by decide)]
        · rw [up2_s, (sp_inc I rfl c).2]; omega
theorem nx_num {t : St} {p : Int32} (I : InvD t) : nx t (f_X9_readsNumber t p).2 ∧ InvD (f_X9_readsNumber t p).2 := by
  have h := nx_skips I
  unfold f_X9_readsNumber
  dsimp only
  split
  · exact h
  · split
    · exact h
    · have h2 := nx_num_l (p := p) (s1 := (f_X9_skips t).2) fu151 (up2 (f_X9_skips t).2 5 p.toNatClampNeg 0) (h.2.up (by unfold InvDcr; omega))
      exact ⟨(h.1.o5).trans h2.1, h2.2⟩
theorem nx_rd_l : ∀ n k t, InvD t → ¬ (f_X9_reads_l30 n k t).1 = 0 → nx t (f_X9_reads_l30 n k t).2 ∧ (t 0 8).toInt < ((f_X9_reads_l30 n k t).2 0 8).toInt
  | 0, _, _, _, h => absurd rfl h
  | n + 1, k, t, I, h => by
    have hs := nx_skips I
    have hn := nx_num (p := nI k) I
    unfold f_X9_reads_l30 at h ⊢
    dsimp only at h ⊢
    split at h
    · next c =>
      rw [if_pos c]
      rw [if_neg h]
      have h3 := (sp_inc hs.2 rfl h).2
      refine ⟨hs.1.trans (nx.inc hs.2 rfl h), ?_⟩
      have h4 := hs.1.2.2
      show (t 0 8).toInt < (up2 (f_X9_skips t).2 0 8 ((f_X9_skips t).2 0 8 + 1) 0 8).toInt
      rw [up2_s, h3]
      omega
    · next c =>
      rw [if_neg c]
      split at h
      · exact absurd rfl h
      · next c2 =>
        rw [if_neg c2]
        have h3 := nx_rd_l n (k + 1) _ hn.2 h
        have h4 := hn.1.2.2
        exact ⟨hn.1.trans h3.1, by omega⟩
theorem nx_reads {t : St} (I : InvD t) (h : ¬ (f_X9_reads t).1 = 0) : nx t (f_X9_reads t).2 ∧ (t 0 8).toInt < ((f_X9_reads t).2 0 8).toInt := by
  have hw := nx_word I
  unfold f_X9_reads at h ⊢
  dsimp only at h ⊢
  split at h
  · exact absurd rfl h
  · next c =>
    rw [if_neg c]
    have h3 := nx_rd_l _ _ _ (hw.2.up (by decide)) h
    have h4 : (t 0 8).toInt ≤ _ := (hw.1.o9 (v := (f_X9_readsWord t).1)).2.2
    exact ⟨(hw.1.o9).trans h3.1, by omega⟩
theorem ag_rd_l : ∀ n k t u, ag t u → t 0 9 = u 0 9 → (f_X9_reads_l30 n k t).1 = (f_X9_reads_l30 n k u).1 ∧ ag (f_X9_reads_l30 n k t).2 (f_X9_reads_l30 n k u).2
  | 0, _, _, _, h, _ => ⟨rfl, h⟩
  | n + 1, k, t, u, h, hw => by
    obtain ⟨h1, h2⟩ := ag_skips h
    obtain ⟨h3, h4⟩ := ag_num (p := nI k) h
    unfold f_X9_reads_l30
    dsimp only
    rw [hw, ag_isAt h2, h3]
    split
    · exact ⟨rfl, h2.sp (by rw [h2.2.2])⟩
    · split
      · exact ⟨rfl, h4⟩
      · exact ag_rd_l n _ _ _ h4 (by rw [num_9, num_9]; exact hw)
theorem ag_reads {t u : St} (h : ag t u) : (f_X9_reads t).1 = (f_X9_reads u).1 ∧ ag (f_X9_reads t).2 (f_X9_reads u).2 := by
  obtain ⟨h1, h2⟩ := ag_word h
  unfold f_X9_reads
  dsimp only
  rw [h1]
  split
  · exact ⟨rfl, (h2.o9).sp h.2.2⟩
  · exact ag_rd_l _ _ _ _ h2.o9 (by rw [up2_s, up2_s])

