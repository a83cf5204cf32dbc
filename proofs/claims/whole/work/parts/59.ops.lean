theorem RV1.set {τ : Int} {i w : Nat} {ρ : Nat → Int32} {v : Int32} (h : RV1 τ i ρ) (hw : w < 24) (c1 : w = 1 → v = 0 ∨ v = 1) (c7 : w = 7 → ∃ c, c ≤ 2 ∧ v = nI c) (c8 : (w = 8 ∨ w = 11) → 0 ≤ v.toInt ∧ v.toInt ≤ 499) (c9 : (w = 9 ∨ w = 12) → 0 ≤ v.toInt ∧ v.toInt ≤ 500) (cp : (w = 15 ∨ w = 0 ∨ w = 2) → 0 ≤ v.toInt) (c17 : w ≠ 17) : RV1 τ i (upd ρ (93 + 24 * i + w) v) := by
  obtain ⟨h1, h2, h3, h4, h5, h6, h7, h8⟩ := h
  have g : ∀ (P : Int32 → Prop) (x : Nat), P (ρ (93 + 24 * i + x)) → (w = x → P v) → P (upd ρ (93 + 24 * i + w) v (93 + 24 * i + x)) := fun P x hp hq => by
    by_cases c : w = x
    · subst c; rw [upd_s]; exact hq rfl
    · rw [upd_n (by omega)]; exact hp
  refine ⟨g (fun y => y = 0 ∨ y = 1) 1 h1 c1, g (fun y => ∃ c, c ≤ 2 ∧ y = nI c) 7 h2 c7, fun j hj => ⟨g (fun y => 0 ≤ y.toInt ∧ y.toInt ≤ 499) (8 + 3 * j + 0) (h3 j hj).1 (fun e => c8 (by omega)), g (fun y => 0 ≤ y.toInt ∧ y.toInt ≤ 500) (8 + 3 * j + 1) (h3 j hj).2 (fun e => c9 (by omega))⟩, g (fun y => 0 ≤ y.toInt) 15 h4 (fun e => cp (Or.inl e)), g (fun y => 0 ≤ y.toInt) 17 h5 (fun e => absurd e c17), g (fun y => y.toInt ≤ τ) 17 h6 (fun e => absurd e c17), g (fun y => 0 ≤ y.toInt) 0 h7 (fun e => cp (by omega)), g (fun y => 0 ≤ y.toInt) 2 h8 (fun e => cp (by omega))⟩
theorem RM.usg {τ : Int} {N d q i w k b : Nat} {μ : St} {ρ : Nat → Int32} {v v' : Int32} (h : RM τ N d q μ ρ) (hi : i < N) (hw : w < 24) (h6 : w ≠ 6) (hc : cv (93 + 24 * i + w) = (k, b)) (hk : (k = 9 + i ∧ b ≠ 6 ∧ b ≠ 7) ∨ (33 + 2 * i ≤ k ∧ k < 33 + 2 * i + 2)) (hv : v' = zz k b v) (hS : (upd ρ (93 + 24 * i + w) v' (93 + 24 * i + 1) = 1 ∧ upd ρ (93 + 24 * i + w) v' (93 + 24 * i + 5) = 0) ∨ ρ (93 + 24 * i + 6) = μ (9 + i) 6) (hV1 : RV1 τ i (upd ρ (93 + 24 * i + w) v')) : RM τ N d q (up2 μ k b v) (upd ρ (93 + 24 * i + w) v') := by
  have hN := h.N12
  have hd := h.d12
  have u : ∀ j, j < 93 → upd ρ (93 + 24 * i + w) v' j = ρ j := fun j hj => upd_n (by omega)
  have us : ∀ i' w', w' < 24 → (i' ≠ i ∨ w' ≠ w) → upd ρ (93 + 24 * i + w) v' (93 + 24 * i' + w') = ρ (93 + 24 * i' + w') := fun i' w' h1 h2 => upd_n (by omega)
  have m : ∀ x y, x ≠ k → up2 μ k b v x y = μ x y := fun x y hx => up2_k hx
  have m6 : ∀ x, x < 21 → up2 μ k b v x 6 = μ x 6 := fun x hx => if_neg (by omega)
  have m7 : ∀ x, x < 21 → up2 μ k b v x 7 = μ x 7 := fun x hx => if_neg (by omega)
  obtain ⟨h1, ⟨a8, a9, a53⟩, hE, hG, hS0, hP, hF, ⟨v1, v2⟩, hQ⟩ := h
  refine ⟨h1, ⟨by rw [u 8 (by decide)]; exact a8, by rw [u 9 (by decide)]; exact a9, by rw [m 5 3 (by omega)]; exact a53⟩, hE.up (cok_s (by omega) hw h6) hc hv, hG.congr (fun j _ hj => u j (by omega)) (fun a b ha _ => m a b (by omega)), fun i' hi' => ?_, hP.congr (fun k hk => u _ (by omega)) (fun i hi => m7 _ (by omega)), hF.congr (fun i' hi' h12 => ⟨fun b _ => m _ _ (by omega), fun j b hj _ => m _ _ (by omega)⟩), ⟨fun k hk => by rw [u _ (by omega)]; exact v1 k hk, fun i' hi' => ?_⟩, hQ.congr (u 5 (by decide)) (u 6 (by decide)) (fun k hk => u _ (by omega))⟩
  · rw [us i' 6 (by decide) (by omega), m6 _ (by omega)]
    by_cases c : i' = i
    · subst c; exact hS
    · rw [us i' 1 (by decide) (by omega), us i' 5 (by decide) (by omega)]
      exact hS0 i' hi'
  · by_cases c : i' = i
    · subst c; exact hV1
    · exact (v2 i' hi').congr (fun w' hw' => us i' w' (by omega) (Or.inl c))
theorem RM.rsk {τ : Int} {N d q i w : Nat} {μ : St} {ρ : Nat → Int32} {v : Int32} (h : RM τ N d q μ ρ) (hi : i < N) (h1 : w ≠ 1) (h5 : w ≠ 5) : (upd ρ (93 + 24 * i + w) v (93 + 24 * i + 1) = 1 ∧ upd ρ (93 + 24 * i + w) v (93 + 24 * i + 5) = 0) ∨ ρ (93 + 24 * i + 6) = μ (9 + i) 6 := by
  rw [upd_n (by omega), upd_n (by omega)]
  exact h.rs i hi
/-- a setting -/
theorem RM.uset {τ : Int} {N d q k : Nat} {μ : St} {ρ : Nat → Int32} {v : Int32} (h : RM τ N d q μ ρ) (hk : k < 4) (hv : 0 ≤ v.toInt) : RM τ N d q (up2 μ 1 k v) (upd ρ (1 + k) v) := by
  have hd := h.d12
  have u : ∀ j, j = 0 ∨ 5 ≤ j → upd ρ (1 + k) v j = ρ j := fun j hj => upd_n (by omega)
  have m : ∀ a b, a ≠ 1 → up2 μ 1 k v a b = μ a b := fun a b hab => up2_k hab
  obtain ⟨h1, ⟨a8, a9, a53⟩, hE, hG, hS, hP, hF, ⟨v1, v2⟩, hQ⟩ := h
  refine ⟨h1, ⟨by rw [u 8 (by decide)]; exact a8, by rw [u 9 (by decide)]; exact a9, by rw [m 5 3 (by decide)]; exact a53⟩, hE.up (by unfold cok; omega) ?_ (zz_n (by omega)), hG.congr (fun j _ hj => u j (by omega)) (fun a b ha _ => m a b (by omega)), hS.congr (fun i hi => ⟨u _ (by omega), u _ (by omega), u _ (by omega)⟩) (fun i hi => m _ _ (by omega)), hP.congr (fun k hk => u _ (by omega)) (fun i hi => m _ _ (by omega)), hF.congr (fun i _ _ => ⟨fun b _ => m _ _ (by omega), fun j b _ _ => m _ _ (by omega)⟩), ⟨fun k' hk' => ?_, fun i hi => (v2 i hi).congr (fun w hw => u _ (by omega))⟩, hQ.congr (u 5 (by decide)) (u 6 (by decide)) (fun k hk => u _ (by omega))⟩
  · unfold cv
    rw [if_pos (by omega), if_neg (by omega), if_pos (by omega), show 1 + k - 1 = k by omega]
  · by_cases c : k' = k
    · subst c; rw [upd_s]; exact hv
    · rw [upd_n (by omega)]; exact v1 k' hk'
theorem RT.keep {ρ ρ' : Nat → Int32} (h : RT ρ) (e5 : ρ' 5 = ρ 5) (e7 : ρ' 7 = ρ 7) : RT ρ' := by
  unfold RT
  rw [e5, e7]
  exact h
theorem n10 : ¬ (1 : Int32) = 0 := by decide
theorem n01 : ¬ (0 : Int32) = 1 := by decide
theorem t00 : (0 : Int32).toInt = 0 := rfl
section Ops
variable {τ : Int} {μ σ : St}
theorem kind01 {N d q i : Nat} (h : RM τ N d q μ (σ 1)) (hi : i < N) : μ (9 + i) 1 = 0 ∨ μ (9 + i) 1 = 1 := by
  have h1 := (h.rv.2 i hi).1
  rw [h.f hi (w := 1) (b := 1) (by decide) (by decide) rfl (by decide)] at h1
  exact h1
theorem kind_eq {N d q i : Nat} (h : RM τ N d q μ (σ 1)) (hi : i < N) : f_X9_of σ (nI i) 1 = μ (9 + i) 1 := (of1 h hi (w := 1) (by decide)).trans (h.f hi (by decide) (by decide) rfl (by decide))
theorem raiseS_sim (h : RMx τ μ (σ 1)) (p : Int32) : opS τ (f_X5_raiseSource μ p) (f_X9_badRaise σ p) (f_X9_raises σ p) μ := by
  obtain ⟨N, d, q, h, hT⟩ := h
  unfold f_X5_raiseSource f_X9_badRaise
  dsimp only
  rcases src_cases h p with ⟨e1, e2⟩ | ⟨i, hi, rfl, e1, e2⟩
  · rw [e1, e2]
    exact Or.inr ⟨Or.inl rfl, rfl⟩
  · rw [e1, e2, if_neg n10, kind_eq h hi]
    unfold oc
    dsimp only
    rcases kind01 h hi with hk | hk
    · rw [hk, if_pos rfl, if_neg (by decide)]
      obtain ⟨r1, q', r2⟩ := raise_sim h hi
      refine Or.inl ⟨rfl, r1, ?_, N, d, q', r2, hT.keep (raise_lo (by decide)) (raise_lo (by decide))⟩
      show 0 ≤ (f_X5_receiveEdge μ (nI i) i).1.toInt
      unfold f_X5_receiveEdge
      split
      · show 0 ≤ (1 : Int32).toInt; decide
      · show 0 ≤ (0 : Int32).toInt; decide
    · rw [hk, if_neg (by decide), if_pos rfl]
      exact Or.inr ⟨Or.inr (Or.inr rfl), rfl⟩
theorem line_sim (h : RMx τ μ (σ 1)) (p v : Int32) (hz : zb v = v) : opS τ (f_X5_changeLine μ p v) (f_X9_badLine σ p) (f_X9_lines σ p v) μ := by
  obtain ⟨N, d, q, h, hT⟩ := h
  have hN := h.N12
  unfold f_X5_changeLine f_X9_badLine
  dsimp only
  rcases src_cases h p with ⟨e1, e2⟩ | ⟨i, hi, rfl, e1, e2⟩
  · rw [e1, e2]
    exact Or.inr ⟨Or.inl rfl, rfl⟩
  · rw [e1, e2, if_neg n10, kind_eq h hi]
    unfold oc
    dsimp only
    rcases kind01 h hi with hk | hk
    · rw [hk, if_pos rfl, if_pos rfl]
      exact Or.inr ⟨Or.inr (Or.inr rfl), rfl⟩
    · have e5 : σ 1 (93 + 24 * i + 5) = zb (μ (9 + i) 5) := h.b hi (by decide) (by decide) rfl (by decide)
      have e1k : σ 1 (93 + 24 * i + 1) = 1 := (h.f hi (w := 1) (b := 1) (by decide) (by decide) rfl (by decide)).trans hk
      rw [hk, if_neg (by decide)]
      have hV : ∀ v', RV1 τ i (upd (σ 1) (93 + 24 * i + 5) v') := fun v' => (h.rv.2 i hi).set (by decide) (fun e => absurd e (by decide)) (fun e => absurd e (by decide)) (fun e => absurd e (by omega)) (fun e => absurd e (by omega)) (fun e => absurd e (by omega)) (by decide)
      have e9 : f_X9_lines σ (nI i) v = (zb (μ (9 + i) 5), up2 (up2 σ 1 (93 + 24 * i + 5) (if v = 0 then 0 else 1)) 1 (93 + 24 * i + 6) (if v = 0 then σ 1 (93 + 24 * i + 6) else (if zb (μ (9 + i) 5) = 0 then μ 0 0 else σ 1 (93 + 24 * i + 6)))) := by
        unfold f_X9_lines
        dsimp only
        rw [ix_nI (by omega), e5, h.t]
      rw [e9]
      left
      refine ⟨by rw [if_neg (show ¬ (1 : Int32) = 0 by decide)], ?_, ?_, N, d, q, ?_, hT.keep ?_ ?_⟩
      · rcases zb_two (μ (9 + i) 5) with z | z <;> rw [z] <;> rfl
      · show 0 ≤ (if zb (μ (9 + i) 5) = 0 then (0 : Int32) else 1).toInt
        split <;> decide
      · dsimp only
        rw [up2_row, up2_row]
        rcases zb_two v with zv | zv
        · have hv : v = 0 := hz.symm.trans zv
          rw [hv, if_pos rfl, if_pos rfl, if_pos rfl]
          have e6 : upd (σ 1) (93 + 24 * i + 5) 0 (93 + 24 * i + 6) = σ 1 (93 + 24 * i + 6) := upd_n (by omega)
          rw [← e6, upd_id]
          exact h.usg hi (by decide) (by decide) (cv_f (by omega) (by decide) rfl) (by omega) (zz_y (by omega) : zb (0 : Int32) = _) (Or.inl ⟨by rw [upd_n (by omega)]; exact e1k, upd_s⟩) (hV _)
        · have hv : v = 1 := hz.symm.trans zv
          rw [hv, if_neg n10, if_neg n10, if_neg n10]
          by_cases cu : zb (μ (9 + i) 5) = 0
          · rw [if_pos cu, if_pos cu, upd_comm (by omega)]
            have hh := h.usin (v := μ 0 0) hi
            refine hh.usg hi (by decide) (by decide) (cv_f (by omega) (by decide) rfl) (by omega) (zz_y (by omega) : zb (1 : Int32) = _) (Or.inr (by rw [upd_s, up2_s])) ?_
            exact (hh.rv.2 i hi).set (by decide) (fun e => absurd e (by decide)) (fun e => absurd e (by decide)) (fun e => absurd e (by omega)) (fun e => absurd e (by omega)) (fun e => absurd e (by omega)) (by decide)
          · rw [if_neg cu, if_neg cu]
            have e6 : upd (σ 1) (93 + 24 * i + 5) 1 (93 + 24 * i + 6) = σ 1 (93 + 24 * i + 6) := upd_n (by omega)
            rw [← e6, upd_id]
            refine h.usg hi (by decide) (by decide) (cv_f (by omega) (by decide) rfl) (by omega) (zz_y (by omega) : zb (1 : Int32) = _) (Or.inr ?_) (hV _)
            rcases h.rs i hi with ⟨-, z⟩ | z
            · rw [e5] at z; exact absurd z cu
            · exact z
      · dsimp only
        rw [up2_row, up2_row, upd_n (by omega), upd_n (by omega)]
      · dsimp only
        rw [up2_row, up2_row, upd_n (by omega), upd_n (by omega)]
theorem timer_sim (h : RMx τ μ (σ 1)) (p a b : Int32) : opS τ (f_X5_changeTimer μ p a b) (f_X9_badTimer σ p a b) (f_X9_times σ p a b) μ := by
  obtain ⟨N, d, q, h, hT⟩ := h
  have hN := h.N12
  unfold f_X5_changeTimer f_X9_badTimer
  dsimp only
  rcases src_cases h p with ⟨e1, e2⟩ | ⟨i, hi, rfl, e1, e2⟩
  · rw [e1, e2]
    exact Or.inr ⟨Or.inl rfl, rfl⟩
  · rw [e1, e2, if_neg n10, kind_eq h hi, in_eq, in_eq]
    unfold oc
    dsimp only
    rcases in_cases a 0 999 with ea | ⟨ea, -, -⟩
    · rw [ea]; exact Or.inr ⟨Or.inr (Or.inl rfl), rfl⟩
    rw [ea, if_neg n10, if_neg n10]
    rcases in_cases b 0 1000 with eb | ⟨eb, hb0, -⟩
    · rw [eb]; exact Or.inr ⟨Or.inr (Or.inl rfl), rfl⟩
    rw [eb, if_neg n10, if_neg n10]
    rcases kind01 h hi with hk | hk
    · rw [hk, if_neg n01, if_neg n01]
      have e15 : f_X9_of σ (nI i) 15 = μ (9 + i) 17 := (of1 h hi (w := 15) (by decide)).trans (h.f hi (by decide) (by decide) rfl (by decide))
      have hp0 := (h.rv.2 i hi).2.2.2.1
      rw [h.f hi (w := 15) (b := 17) (by decide) (by decide) rfl (by decide)] at hp0
      have e9 : f_X9_times σ (nI i) a b = (μ (9 + i) 17, up2 (up2 σ 1 (93 + 24 * i + 14) (μ 0 0 + a)) 1 (93 + 24 * i + 15) b) := by
        unfold f_X9_times
        dsimp only
        rw [ix_nI (by omega), e15, h.t]
      rw [e9]
      refine Or.inl ⟨rfl, rfl, hp0, N, d, q, ?_, hT.keep ?_ ?_⟩
      · dsimp only
        rw [up2_row, up2_row]
        have h2 := h.usrc hi (w := 14) (b := 16) (v := μ 0 0 + a) (by decide) (by decide) rfl (zz_n (by omega))
        exact h2.usg hi (by decide) (by decide) (cv_f (by omega) (by decide) rfl) (by omega) (zz_n (by omega)) (h2.rsk hi (by decide) (by decide)) ((h2.rv.2 i hi).set (by decide) (fun e => absurd e (by decide)) (fun e => absurd e (by decide)) (fun e => absurd e (by omega)) (fun e => absurd e (by omega)) (fun _ => hb0) (by decide))
      · dsimp only
        rw [up2_row, up2_row, upd_n (by omega), upd_n (by omega)]
      · dsimp only
        rw [up2_row, up2_row, upd_n (by omega), upd_n (by omega)]
    · rw [hk]; exact Or.inr ⟨Or.inr (Or.inr rfl), rfl⟩
theorem set_sim (h : RMx τ μ (σ 1)) (a b : Int32) : opS τ (f_X5_changeSetting μ a b) (f_X9_badSet a b) (f_X9_sets σ a b) μ := by
  obtain ⟨N, d, q, h, hT⟩ := h
  unfold f_X5_changeSetting f_X9_badSet
  dsimp only
  rw [in_eq, in_eq]
  rcases in_cases a 0 3 with ea | ⟨ea, ha0, ha3⟩
  · rw [ea]; exact Or.inr ⟨Or.inr (Or.inl rfl), rfl⟩
  rw [ea, if_neg n10, if_neg n10]
  rcases in_cases b 0 (if a = 0 then 15 else 50) with eb | ⟨eb, hb0, -⟩
  · rw [eb]; exact Or.inr ⟨Or.inr (Or.inl rfl), rfl⟩
  rw [eb, if_neg n10, if_neg n10]
  have h3 : (3 : Int32).toInt = 3 := rfl
  obtain ⟨k, hk, rfl⟩ := of_nI (x := a) (n := 4) ⟨ha0, by omega⟩ (by decide)
  have ec : (nI k).toNatClampNeg = k := nI_clamp (by omega)
  have hs := h.set (k := k) (by omega)
  have h0 := h.rv.1 k (by omega)
  have e9 : f_X9_sets σ (nI k) b = (μ 1 k, up2 σ 1 (1 + k) b) := by
    unfold f_X9_sets
    rw [ec, hs]
  rw [e9, ec]
  refine Or.inl ⟨rfl, rfl, by show 0 ≤ (μ 1 k).toInt; rw [← hs]; exact h0, N, d, q, ?_, hT.keep ?_ ?_⟩
  · dsimp only
    rw [up2_row]
    exact h.uset (by omega) hb0
  · dsimp only
    rw [up2_row, upd_n (by omega)]
  · dsimp only
    rw [up2_row, upd_n (by omega)]
theorem place_st {N d q i : Nat} (h : RM τ N d q μ (σ 1)) (hi : i < N) : f_X7_isStacked μ i = if f_X9_placeOf σ (nI i) = -1 then 0 else 1 := by
  rw [place_eq h hi]
  rfl
theorem sec_sim (h : RMx τ μ (σ 1)) (p a b c : Int32) : opS τ (f_X5_makeSection μ p a b c) (f_X9_badSection σ p a b c) (f_X9_comesSection σ p a b c) μ := by
  obtain ⟨N, d, q, h, hT⟩ := h
  have hN := h.N12
  unfold f_X5_makeSection f_X9_badSection
  dsimp only
  rcases src_cases h p with ⟨e1, e2⟩ | ⟨i, hi, rfl, e1, e2⟩
  · rw [e1, e2]
    exact Or.inr ⟨Or.inl rfl, rfl⟩
  · rw [e1, e2, if_neg n10, cnt_eq h hi, in_eq, in_eq, in_eq]
    unfold oc
    dsimp only
    rcases in_cases a 0 499 with ea | ⟨ea, ha0, ha1⟩
    · rw [ea]; exact Or.inr ⟨Or.inr (Or.inl rfl), rfl⟩
    rw [ea, if_neg n10, if_neg n10]
    rcases in_cases b 1 500 with eb | ⟨eb, hb0, hb1⟩
    · rw [eb]; exact Or.inr ⟨Or.inr (Or.inl rfl), rfl⟩
    rw [eb, if_neg n10, if_neg n10]
    rcases in_cases c 1 15 with ec | ⟨ec, -, -⟩
    · rw [ec]; exact Or.inr ⟨Or.inr (Or.inl rfl), rfl⟩
    rw [ec, if_neg n10, if_neg n10]
    obtain ⟨n, hn, en⟩ := cnt_le h hi
    rw [en, place_st h hi]
    by_cases c2 : n = 2
    · subst c2
      rw [if_pos (by decide), if_pos (by decide)]
      exact Or.inr ⟨Or.inr (Or.inr rfl), rfl⟩
    · rw [if_neg (show ¬ (2 : Int32) ≤ nI n by rw [show (2 : Int32) = nI 2 from rfl, nI_leI (by decide) (by omega)]; omega), if_neg (show ¬ nI n = 2 by rw [show (2 : Int32) = nI 2 from rfl, nI_eq (by omega) (by decide)]; exact c2)]
      by_cases cp : f_X9_placeOf σ (nI i) = -1
      · rw [if_pos cp, if_pos cp, if_pos (show (0 : Int32) = 0 from rfl), nI_clamp (by omega)]
        have h1i : (1 : Int32).toInt = 1 := rfl
        have h499 : (499 : Int32).toInt = 499 := rfl
        have h500 : (500 : Int32).toInt = 500 := rfl
        have e7 : σ 1 (93 + 24 * i + 7) = nI n := (h.f hi (w := 7) (b := 18) (by decide) (by decide) rfl (by decide)).trans en
        have e9 : f_X9_comesSection σ (nI i) a b c = (nI (n + 1), up2 (up2 (up2 (up2 σ 1 (93 + 24 * i + (8 + 3 * n + 0)) a) 1 (93 + 24 * i + (8 + 3 * n + 1)) b) 1 (93 + 24 * i + (8 + 3 * n + 2)) c) 1 (93 + 24 * i + 7) (nI (n + 1))) := by
          unfold f_X9_comesSection
          dsimp only
          rw [cnt_eq h hi, en, nI_clamp (by omega), ix_nI (by omega), e7, nI_1, show 8 + 0 + 3 * n = 8 + 3 * n + 0 by omega, show 8 + 1 + 3 * n = 8 + 3 * n + 1 by omega, show 8 + 2 + 3 * n = 8 + 3 * n + 2 by omega]
          have eo : ∀ Z : St, f_X9_of Z (nI i) 7 = Z 1 (93 + 24 * i + 7) := fun Z => of_nIs (by omega) (w := 7) (by decide)
          rw [eo, up2_s]
        rw [e9, nI_1]
        refine Or.inl ⟨rfl, rfl, by show 0 ≤ (nI (n + 1)).toInt; rw [nI_toInt (by omega)]; omega, N, d, q, ?_, hT.keep ?_ ?_⟩
        · dsimp only
          rw [up2_row, up2_row, up2_row, up2_row]
          have g1 := h.usg (w := 8 + 3 * n + 0) hi (by omega) (by omega) (cv_c (by omega) (by omega) (by decide)) (by omega) (zz_n (by omega)) (h.rsk (v := a) hi (by omega) (by omega)) ((h.rv.2 i hi).set (by omega) (fun e => absurd e (by omega)) (fun e => absurd e (by omega)) (fun _ => ⟨ha0, by omega⟩) (fun e => absurd e (by omega)) (fun e => absurd e (by omega)) (by omega))
          have g2 := g1.usg (w := 8 + 3 * n + 1) hi (by omega) (by omega) (cv_c (by omega) (by omega) (by decide)) (by omega) (zz_n (by omega)) (g1.rsk (v := b) hi (by omega) (by omega)) ((g1.rv.2 i hi).set (by omega) (fun e => absurd e (by omega)) (fun e => absurd e (by omega)) (fun e => absurd e (by omega)) (fun _ => ⟨by omega, by omega⟩) (fun e => absurd e (by omega)) (by omega))
          have g3 := g2.usg (w := 8 + 3 * n + 2) hi (by omega) (by omega) (cv_c (by omega) (by omega) (by decide)) (by omega) (zz_n (by omega)) (g2.rsk (v := c) hi (by omega) (by omega)) ((g2.rv.2 i hi).set (by omega) (fun e => absurd e (by omega)) (fun e => absurd e (by omega)) (fun e => absurd e (by omega)) (fun e => absurd e (by omega)) (fun e => absurd e (by omega)) (by omega))
          exact g3.usg hi (by decide) (by decide) (cv_f (by omega) (by decide) rfl) (by omega) (zz_n (by omega)) (g3.rsk hi (by decide) (by decide)) ((g3.rv.2 i hi).set (by decide) (fun e => absurd e (by decide)) (fun _ => ⟨n + 1, by omega, rfl⟩) (fun e => absurd e (by omega)) (fun e => absurd e (by omega)) (fun e => absurd e (by omega)) (by decide))
        · dsimp only
          rw [up2_row, up2_row, up2_row, up2_row, upd_n (by omega), upd_n (by omega), upd_n (by omega), upd_n (by omega)]
        · dsimp only
          rw [up2_row, up2_row, up2_row, up2_row, upd_n (by omega), upd_n (by omega), upd_n (by omega), upd_n (by omega)]
      · rw [if_neg cp, if_neg cp]
        exact Or.inr ⟨Or.inr (Or.inr rfl), rfl⟩
/-- whether sections may go -/
def badClear (σ : St) (p : Int32) : Int32 := if f_X9_isSource σ p = 0 then 1 else (if f_X9_placeOf σ p = (-1) then 0 else 3)
theorem clear_sim (h : RMx τ μ (σ 1)) (p : Int32) : opS τ (f_X5_dropSections μ p) (badClear σ p) (f_X9_of σ p 7, up2 σ 1 (ix p + 7) 0) μ := by
  obtain ⟨N, d, q, h, hT⟩ := h
  have hN := h.N12
  unfold f_X5_dropSections badClear
  dsimp only
  rcases src_cases h p with ⟨e1, e2⟩ | ⟨i, hi, rfl, e1, e2⟩
  · rw [e1, e2]
    exact Or.inr ⟨Or.inl rfl, rfl⟩
  · rw [e1, e2, if_neg n10, cnt_eq h hi, ix_nI (by omega)]
    unfold oc
    dsimp only
    obtain ⟨n, hn, en⟩ := cnt_le h hi
    rw [place_st h hi]
    by_cases cp : f_X9_placeOf σ (nI i) = -1
    · rw [if_pos cp, if_pos cp, if_pos rfl]
      refine Or.inl ⟨rfl, rfl, by show 0 ≤ (μ (9 + i) 18).toInt; rw [en, nI_toInt (by omega)]; omega, N, d, q, ?_, hT.keep ?_ ?_⟩
      · dsimp only
        rw [up2_row]
        exact h.usg hi (by decide) (by decide) (cv_f (by omega) (by decide) rfl) (by omega) (zz_n (by omega)) (h.rsk hi (by decide) (by decide)) ((h.rv.2 i hi).set (by decide) (fun e => absurd e (by decide)) (fun _ => ⟨0, by omega, rfl⟩) (fun e => absurd e (by omega)) (fun e => absurd e (by omega)) (fun e => absurd e (by omega)) (by decide))
      · dsimp only
        rw [up2_row, upd_n (by omega)]
      · dsimp only
        rw [up2_row, upd_n (by omega)]
    · rw [if_neg cp, if_neg cp]
      exact Or.inr ⟨Or.inr (Or.inr rfl), rfl⟩
end Ops
