theorem RM.mono {τ τ' : Int} {N d q : Nat} {μ : St} {ρ : Nat → Int32} (h : RM τ N d q μ ρ) (ht : τ ≤ τ') : RM τ' N d q μ ρ := by
  obtain ⟨h1, h2, hE, hG, hS, hP, hF, ⟨v1, v2⟩, hQ⟩ := h
  exact ⟨h1, h2, hE, hG, hS, hP, hF, ⟨v1, fun i hi => by obtain ⟨a, b, c, e, f, g, x, y⟩ := v2 i hi; exact ⟨a, b, c, e, f, by omega, x, y⟩⟩, hQ⟩
theorem upd_comm {f : Nat → Int32} {a b : Nat} {x y : Int32} (h : a ≠ b) : upd (upd f a x) b y = upd (upd f b y) a x := by
  funext j
  by_cases c1 : j = b
  · subst c1
    rw [upd_s, upd_n (fun e => h e.symm), upd_s]
  · rw [upd_n c1]
    by_cases c2 : j = a
    · subst c2; rw [upd_s, upd_s]
    · rw [upd_n c2, upd_n c2, upd_n c1]
theorem upd_id {f : Nat → Int32} {a : Nat} : upd f a (f a) = f := by
  funext j
  by_cases c : j = a
  · subst c; rw [upd_s]
  · rw [upd_n c]
theorem up2_id {σ : St} {k j : Nat} : up2 σ k j (σ k j) = σ := by
  funext a b
  by_cases c : a = k ∧ b = j
  · obtain ⟨rfl, rfl⟩ := c; rw [up2_s]
  · exact if_neg c
/-- since when a source waits -/
theorem RM.usin {τ : Int} {N d q i : Nat} {μ : St} {ρ : Nat → Int32} {v : Int32} (h : RM τ N d q μ ρ) (hi : i < N) : RM τ N d q (up2 μ (9 + i) 6 v) (upd ρ (93 + 24 * i + 6) v) := by
  have hN := h.N12
  have hd := h.d12
  have u : ∀ j, j < 93 → upd ρ (93 + 24 * i + 6) v j = ρ j := fun j hj => upd_n (by omega)
  have us : ∀ i' w', w' < 24 → w' ≠ 6 → upd ρ (93 + 24 * i + 6) v (93 + 24 * i' + w') = ρ (93 + 24 * i' + w') := fun i' w' h1 h2 => upd_n (by omega)
  have m : ∀ x y, x ≠ 9 + i → up2 μ (9 + i) 6 v x y = μ x y := fun x y hx => up2_k hx
  have m7 : ∀ x, up2 μ (9 + i) 6 v x 7 = μ x 7 := fun x => up2_j (by omega)
  obtain ⟨h1, ⟨a8, a9, a53⟩, hE, hG, hS, hP, hF, hV, hQ⟩ := h
  refine ⟨h1, ⟨by rw [u 8 (by decide)]; exact a8, by rw [u 9 (by decide)]; exact a9, by rw [m 5 3 (by omega)]; exact a53⟩, (hE.off ?_).roff (by unfold cok; omega), hG.congr (fun j _ hj => u j (by omega)) (fun a b ha _ => m a b (by omega)), fun i' hi' => ?_, hP.congr (fun k hk => u _ (by omega)) (fun i hi => m7 _), hF.congr (fun i _ _ => ⟨fun b _ => m _ _ (by omega), fun j b _ _ => m _ _ (by omega)⟩), hV.congr (fun k hk => u _ (by omega)) (fun i hi w hw => us _ _ (by omega) (by omega)), hQ.congr (u 5 (by decide)) (u 6 (by decide)) (fun k hk => u _ (by omega))⟩
  · unfold cin; exact decide_eq_false (by dsimp only; omega)
  · by_cases c : i' = i
    · subst c
      right
      rw [upd_s, up2_s]
    · rw [us i' 1 (by decide) (by decide), us i' 5 (by decide) (by decide), upd_n (by omega), m _ _ (by omega)]
      exact hS i' hi'
/-- since when a line that is down would wait: the reference alone -/
theorem RM.usinR {τ : Int} {N d q i : Nat} {μ : St} {ρ : Nat → Int32} {v : Int32} (h : RM τ N d q μ ρ) (hk : ρ (93 + 24 * i + 1) = 1 ∧ ρ (93 + 24 * i + 5) = 0) : RM τ N d q μ (upd ρ (93 + 24 * i + 6) v) := by
  have hN := h.N12
  have hd := h.d12
  have u : ∀ j, j < 93 → upd ρ (93 + 24 * i + 6) v j = ρ j := fun j hj => upd_n (by omega)
  have us : ∀ i' w', w' < 24 → w' ≠ 6 → upd ρ (93 + 24 * i + 6) v (93 + 24 * i' + w') = ρ (93 + 24 * i' + w') := fun i' w' h1 h2 => upd_n (by omega)
  obtain ⟨h1, ⟨a8, a9, a53⟩, hE, hG, hS, hP, hF, hV, hQ⟩ := h
  refine ⟨h1, ⟨by rw [u 8 (by decide)]; exact a8, by rw [u 9 (by decide)]; exact a9, a53⟩, hE.roff (by unfold cok; omega), hG.congr (fun j _ hj => u j (by omega)) (fun a b ha _ => rfl), fun i' hi' => ?_, hP.congr (fun k hk => u _ (by omega)) (fun i hi => rfl), hF, hV.congr (fun k hk => u _ (by omega)) (fun i hi w hw => us _ _ (by omega) (by omega)), hQ.congr (u 5 (by decide)) (u 6 (by decide)) (fun k hk => u _ (by omega))⟩
  by_cases c : i' = i
  · subst c
    left
    rw [us i' 1 (by decide) (by decide), us i' 5 (by decide) (by decide)]
    exact hk
  · rw [us i' 1 (by decide) (by decide), us i' 5 (by decide) (by decide), upd_n (by omega)]
    exact hS i' hi'
/-- the change that goes on -/
theorem RM.uchg {τ : Int} {N d q : Nat} {μ : St} {ρ : Nat → Int32} {a b c : Int32} (h : RM τ N d q μ ρ) (ha : a = 0 ∨ a = 1 ∨ a = 2 ∨ a = 3) (hb : (a = 1 ∨ a = 3) → ∃ s, s < N ∧ b = nI s ∧ ∀ k, k < d → ρ (10 + k) ≠ nI s) : RM τ N d q (up2 (up2 (up2 μ 0 7 a) 0 8 b) 0 9 c) (upd (upd (upd ρ 5 a) 6 b) 7 c) := by
  have hN := h.N12
  have hd := h.d12
  have u : ∀ j, j ≠ 5 → j ≠ 6 → j ≠ 7 → upd (upd (upd ρ 5 a) 6 b) 7 c j = ρ j := fun j h5 h6 h7 => by rw [upd_n h7, upd_n h6, upd_n h5]
  have m : ∀ x y, x ≠ 0 → up2 (up2 (up2 μ 0 7 a) 0 8 b) 0 9 c x y = μ x y := fun x y hx => by rw [up2_k hx, up2_k hx, up2_k hx]
  have e5 : upd (upd (upd ρ 5 a) 6 b) 7 c 5 = a := by rw [upd_n (by decide), upd_n (by decide), upd_s]
  have e6 : upd (upd (upd ρ 5 a) 6 b) 7 c 6 = b := by rw [upd_n (by decide), upd_s]
  obtain ⟨h1, ⟨a8, a9, a53⟩, hE, hG, hS, hP, hF, hV, hQ⟩ := h
  refine ⟨h1, ⟨by rw [u 8 (by decide) (by decide) (by decide)]; exact a8, by rw [u 9 (by decide) (by decide) (by decide)]; exact a9, by rw [m 5 3 (by omega)]; exact a53⟩, ((hE.up (k := 0) (b := 7) (by decide) rfl (zz_n (by omega))).up (k := 0) (b := 8) (by decide) rfl (zz_n (by omega))).up (k := 0) (b := 9) (by decide) rfl (zz_n (by omega)), hG.congr (fun j _ hj => u j (by omega) (by omega) (by omega)) (fun a b ha _ => m a b (by omega)), hS.congr (fun i hi => ⟨u _ (by omega) (by omega) (by omega), u _ (by omega) (by omega) (by omega), u _ (by omega) (by omega) (by omega)⟩) (fun i hi => m _ _ (by omega)), hP.congr (fun k hk => u _ (by omega) (by omega) (by omega)) (fun i hi => m _ _ (by omega)), hF.congr (fun i _ _ => ⟨fun b _ => m _ _ (by omega), fun j b _ _ => m _ _ (by omega)⟩), hV.congr (fun k hk => u _ (by omega) (by omega) (by omega)) (fun i hi w hw => u _ (by omega) (by omega) (by omega)), ?_⟩
  unfold RQ
  rw [e5, e6]
  refine ⟨ha, fun hq => ?_⟩
  obtain ⟨s, hs, hbs, hk⟩ := hb hq
  exact ⟨s, hs, hbs, fun k hkd => by rw [u _ (by omega) (by omega) (by omega)]; exact hk k hkd⟩
theorem changes_row (σ : St) (a b c : Int32) : (f_X9_changes σ a b c) 1 = upd (upd (upd (σ 1) 5 (if a = 2 then (if c = 0 then 0 else a) else a)) 6 b) 7 c := by
  have e : (if (if a = 2 then (if c = 0 then (1 : Int32) else 0) else 0) = 0 then a else 0) = (if a = 2 then (if c = 0 then 0 else a) else a) := by
    by_cases c1 : a = 2
    · rw [if_pos c1, if_pos c1]
      by_cases c2 : c = 0
      · rw [if_pos c2, if_pos c2]; rfl
      · rw [if_neg c2, if_neg c2]; rfl
    · rw [if_neg c1, if_neg c1]; rfl
  show (up2 (up2 (up2 σ 1 5 (if (if a = 2 then (if c = 0 then (1 : Int32) else 0) else 0) = 0 then a else 0)) 1 6 b) 1 7 c) 1 = _
  rw [e, up2_row, up2_row, up2_row]
/-- nothing goes on any more -/
theorem RM.none {τ : Int} {N d q : Nat} {μ σ : St} (h : RM τ N d q μ (σ 1)) : RM τ N d q (f_X5_setChange μ 0 (-1) 0) ((f_X9_changes σ 2 (-1) 0) 1) ∧ (f_X9_changes σ 2 (-1) 0) 1 5 = 0 := by
  rw [changes_row, if_pos rfl, if_pos rfl]
  exact ⟨h.uchg (Or.inl rfl) (fun h => by rcases h with h | h <;> exact absurd h (by decide)), by rw [upd_n (by decide), upd_n (by decide), upd_s]⟩
theorem RM.exit {τ : Int} {N d q : Nat} {μ σ : St} (h : RM τ N d q μ (σ 1)) : RM τ N d q (f_X5_beginExit μ) ((f_X9_changes σ 2 (-1) (σ 1 3)) 1) ∧ RT ((f_X9_changes σ 2 (-1) (σ 1 3)) 1) := by
  have e3 : σ 1 3 = μ 1 2 := h.set (k := 2) (by decide)
  have h0 : 0 ≤ (σ 1 3).toInt := h.rv.1 2 (by decide)
  have ee : (if σ 1 3 = 0 then (0 : Int32) else 2) = (if μ 1 2 ≤ 0 then 0 else 2) := by
    rw [e3] at h0 ⊢
    by_cases c : μ 1 2 = 0
    · rw [if_pos c, if_pos (by rw [c]; decide)]
    · rw [if_neg c, if_neg]
      intro hc
      rw [i32_le] at hc
      exact c (Int32.toInt_inj.mp (by have : (0 : Int32).toInt = 0 := rfl; omega))
  rw [changes_row, if_pos rfl, ee]
  constructor
  · show RM τ N d q (up2 (up2 (up2 μ 0 7 (if μ 1 2 ≤ 0 then 0 else 2)) 0 8 (-1)) 0 9 (μ 1 2)) _
    rw [← e3]
    refine h.uchg ?_ (fun hq => ?_)
    · split
      · exact Or.inl rfl
      · exact Or.inr (Or.inr (Or.inl rfl))
    · exfalso
      revert hq
      split <;> decide
  · intro hn
    rw [upd_n (by decide), upd_n (by decide), upd_s] at hn
    rw [upd_s, e3]
    by_cases c : μ 1 2 ≤ 0
    · rw [if_pos c] at hn; exact absurd rfl hn
    · rw [i32_le] at c
      have : (0 : Int32).toInt = 0 := rfl
      omega
/-- an edge -/
theorem raise_sim {τ : Int} {N d q i : Nat} {μ σ : St} (h : RM τ N d q μ (σ 1)) (hi : i < N) : (f_X5_receiveEdge μ (nI i) i).1 = (f_X9_raises σ (nI i)).1 ∧ ∃ q', RM τ N d q' (f_X5_receiveEdge μ (nI i) i).2 ((f_X9_raises σ (nI i)).2 1) := by
  have hN := h.N12
  have e4 : σ 1 (ix (nI i) + 4) = zb (μ (9 + i) 4) := by rw [ix_nI (by omega)]; exact h.b hi (by decide) (by decide) rfl (by decide)
  by_cases c : zb (μ (9 + i) 4) = 0
  · have e1 : f_X5_receiveEdge μ (nI i) i = _ := if_pos c
    have e2 : f_X9_raises σ (nI i) = _ := if_neg (show ¬ σ 1 (ix (nI i) + 4) = 1 by rw [e4, c]; decide)
    rw [e1, e2]
    refine ⟨rfl, q, ?_⟩
    show RM τ N d q _ ((up2 (up2 σ 1 (ix (nI i) + 4) 1) 1 (ix (nI i) + 6) (σ 1 0)) 1)
    rw [up2_row, up2_row, ix_nI (by omega), h.t]
    exact (h.usrc hi (w := 4) (b := 4) (by decide) (by decide) rfl (zz_y (by omega) : zb (1 : Int32) = _)).usin hi
  · have c1 : zb (μ (9 + i) 4) = 1 := (zb_two _).resolve_left c
    have e1 : f_X5_receiveEdge μ (nI i) i = _ := if_neg c
    have e2 : f_X9_raises σ (nI i) = _ := if_pos (show σ 1 (ix (nI i) + 4) = 1 by rw [e4, c1])
    rw [e1, e2]
    refine ⟨rfl, (q + 1) % 20, ?_⟩
    show RM τ N d _ (f_X3_add (up2 (up2 μ (9 + i) 11 ((μ (9 + i) 11) + 1)) 2 7 ((μ 2 7) + 1)) 3 (nI i) (μ 0 0)) ((f_X9_logs (up2 (up2 σ 1 (ix (nI i) + 19) ((σ 1 (ix (nI i) + 19)) + 1)) 1 90 ((σ 1 90) + 1)) 3 (nI i) (σ 1 0)) 1)
    rw [logs_row, up2_row, up2_row, ix_nI (by omega), h.t, h.f hi (w := 19) (by decide) (by decide) rfl (by decide), show σ 1 90 = μ 2 7 from h.acc (k := 7) (by decide)]
    exact ((h.usrc hi (w := 19) (b := 11) (by decide) (by decide) rfl (zz_n (by omega))).uacc (k := 7) (by decide)).log 3 (nI i) (μ 0 0)
