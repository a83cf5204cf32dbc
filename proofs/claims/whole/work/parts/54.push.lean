theorem nI_inj {a b : Nat} (ha : a < 2 ^ 31) (hb : b < 2 ^ 31) (h : nI a = nI b) : a = b := (nI_eq ha hb).mp h
/-- there is room on the stack for who isn't there -/
theorem RM.room {τ : Int} {N d q s : Nat} {μ : St} {ρ : Nat → Int32} (h : RM τ N d q μ ρ) (hs : s < N) (hk : ∀ k, k < d → ρ (10 + k) ≠ nI s) : d < N := by
  have hN := h.N12
  obtain ⟨p1, p2, -⟩ := h.rp
  have key := fb_holes N (d + 1) (fun k => if k < d then (ρ (10 + k)).toNatClampNeg else s) (fun k hk1 => by
    by_cases c : k < d
    · simp only [if_pos c]
      obtain ⟨z, hz, e⟩ := p1 k c
      rw [e, nI_clamp (by omega)]
      exact hz
    · simp only [if_neg c]
      exact hs) (fun j k hjk hk1 => by
    by_cases c : k < d
    · simp only [if_pos c, if_pos (show j < d by omega)]
      obtain ⟨z, hz, e⟩ := p1 k c
      obtain ⟨y, hy, e'⟩ := p1 j (by omega)
      have h2 := p2 j k hjk c
      rw [e, e'] at h2 ⊢
      rw [nI_clamp (by omega), nI_clamp (by omega)]
      intro hq
      exact h2 (by rw [hq])
    · simp only [if_neg c, if_pos (show j < d by omega)]
      obtain ⟨y, hy, e'⟩ := p1 j (by omega)
      have h2 := hk j (by omega)
      rw [e'] at h2 ⊢
      rw [nI_clamp (by omega)]
      intro hq
      exact h2 (by rw [hq]))
  omega
theorem inc_toInt {x : Int32} (h0 : 0 ≤ x.toInt) (h1 : x.toInt < 2147483647) : (x + 1).toInt = x.toInt + 1 := by
  obtain ⟨k, hk, rfl⟩ := of_nI (n := 2147483647) ⟨h0, h1⟩ (by decide)
  rw [nI_1, nI_toInt (by omega), nI_toInt (by omega)]
  omega
theorem push_sim {τ : Int} {N d q s : Nat} {μ : St} {ρ : Nat → Int32} {lat g a m : Int32} (h : RM τ N d q μ ρ) (h5 : ρ 5 = 0) (hs : s < N) (hk : ∀ k, k < d → ρ (10 + k) ≠ nI s) (hd : d < 12) (hτ : τ < 2147483647) :
    RM (τ + 1) N (d + 1) q (up2 (up2 (up2 (up2 (up2 (up2 (up2 (up2 (up2 (up2 μ (9 + s) 7 (nI d)) (9 + s) 8 0) (9 + s) 4 0) (9 + s) 9 (μ (9 + s) 9 + 1)) (9 + s) 12 lat) (9 + s) 13 g) 2 9 a) 4 d (nI s)) 0 6 (nI (d + 1))) 2 8 m)
      (upd (upd (upd (upd (upd (upd (upd (upd (upd ρ (93 + 24 * s + 4) 0) (93 + 24 * s + 16) 0) (93 + 24 * s + 17) (μ (9 + s) 9 + 1)) (93 + 24 * s + 20) lat) (93 + 24 * s + 21) g) 92 a) (10 + d) (nI s)) 9 (nI (d + 1))) 91 m) := by
  have hN := h.N12
  have hcame : ρ (93 + 24 * s + 17) = μ (9 + s) 9 := h.f hs (by decide) (by decide) rfl (by decide)
  obtain ⟨h1, ⟨a8, a9, a53⟩, hE, hG, hS, ⟨p1, p2, p3⟩, hF, ⟨v1, v2⟩, hQ⟩ := h
  generalize hR : upd (upd (upd (upd (upd (upd (upd (upd (upd ρ (93 + 24 * s + 4) 0) (93 + 24 * s + 16) 0) (93 + 24 * s + 17) (μ (9 + s) 9 + 1)) (93 + 24 * s + 20) lat) (93 + 24 * s + 21) g) 92 a) (10 + d) (nI s)) 9 (nI (d + 1))) 91 m = R
  generalize hC : up2 (up2 (up2 (up2 (up2 (up2 (up2 (up2 (up2 (up2 μ (9 + s) 7 (nI d)) (9 + s) 8 0) (9 + s) 4 0) (9 + s) 9 (μ (9 + s) 9 + 1)) (9 + s) 12 lat) (9 + s) 13 g) 2 9 a) 4 d (nI s)) 0 6 (nI (d + 1))) 2 8 m = C
  have u : ∀ j, (j ≠ 93 + 24 * s + 4 ∧ j ≠ 93 + 24 * s + 16 ∧ j ≠ 93 + 24 * s + 17 ∧ j ≠ 93 + 24 * s + 20 ∧ j ≠ 93 + 24 * s + 21 ∧ j ≠ 92 ∧ j ≠ 10 + d ∧ j ≠ 9 ∧ j ≠ 91) → R j = ρ j := fun j ⟨q1, q2, q3, q4, q5, q6, q7, q8, q9⟩ => by
    rw [← hR, upd_n q9, upd_n q8, upd_n q7, upd_n q6, upd_n q5, upd_n q4, upd_n q3, upd_n q2, upd_n q1]
  have R9 : R 9 = nI (d + 1) := by rw [← hR, upd_n (by omega), upd_s]
  have Rd : R (10 + d) = nI s := by rw [← hR, upd_n (by omega), upd_n (by omega), upd_s]
  have R17 : R (93 + 24 * s + 17) = μ (9 + s) 9 + 1 := by rw [← hR, upd_n (by omega), upd_n (by omega), upd_n (by omega), upd_n (by omega), upd_n (by omega), upd_n (by omega), upd_s]
  have m : ∀ x y, x ≠ 9 + s → x ≠ 2 → x ≠ 4 → x ≠ 0 → C x y = μ x y := fun x y q1 q2 q3 q4 => by
    rw [← hC, up2_k q2, up2_k q4, up2_k q3, up2_k q2, up2_k q1, up2_k q1, up2_k q1, up2_k q1, up2_k q1, up2_k q1]
  have m6 : C (9 + s) 6 = μ (9 + s) 6 := by
    rw [← hC, up2_k (by omega), up2_k (by omega), up2_k (by omega), up2_k (by omega), up2_j (by decide), up2_j (by decide), up2_j (by decide), up2_j (by decide), up2_j (by decide), up2_j (by decide)]
  have m7 : C (9 + s) 7 = nI d := by
    rw [← hC, up2_k (by omega), up2_k (by omega), up2_k (by omega), up2_k (by omega), up2_j (by decide), up2_j (by decide), up2_j (by decide), up2_j (by decide), up2_j (by decide), up2_s]
  refine ⟨⟨hN, by omega, h1.2.2⟩, ⟨by rw [u 8 (by omega)]; exact a8, R9, by rw [m 5 3 (by omega) (by omega) (by omega) (by omega)]; exact a53⟩, ?_, hG.congr (fun j _ _ => u j (by omega)) (fun x y _ _ => m x y (by omega) (by omega) (by omega) (by omega)), hS.congr (fun i hi => ⟨u _ (by omega), u _ (by omega), u _ (by omega)⟩) (fun i hi => ?_), ⟨fun k hk1 => ?_, fun j k hjk hk1 => ?_, fun i hi => ⟨fun k hk1 hq => ?_, fun hq => ?_⟩⟩, hF.congr (fun i hi _ => ⟨fun b _ => m _ _ (by omega) (by omega) (by omega) (by omega), fun j b _ _ => m _ _ (by omega) (by omega) (by omega) (by omega)⟩), ⟨fun k hk1 => by rw [u _ (by omega)]; exact v1 k hk1, fun i hi => ?_⟩, ⟨Or.inl ((u 5 (by omega)).trans h5), fun hq => ?_⟩⟩
  · rw [← hC, ← hR, upd_comm (f := ρ) (by omega)]
    refine RE.up (k := 2) (b := 8) ?_ (by decide) rfl (zz_n (by omega))
    refine RE.up (k := 0) (b := 6) ?_ (by decide) rfl (zz_n (by omega))
    refine RE.up (k := 4) (b := d) ?_ (by unfold cok; omega) ?_ (zz_n (by omega))
    · refine RE.up (k := 2) (b := 9) ?_ (by decide) rfl (zz_n (by omega))
      refine RE.us (w := 21) ?_ (by omega) (by decide) (by decide) rfl (zz_n (by omega))
      refine RE.us (w := 20) ?_ (by omega) (by decide) (by decide) rfl (zz_n (by omega))
      refine RE.us (w := 17) ?_ (by omega) (by decide) (by decide) rfl (zz_n (by omega))
      refine RE.us (w := 4) ?_ (by omega) (by decide) (by decide) rfl (zz_y (by omega) : zb (0 : Int32) = _)
      refine RE.us (w := 16) ?_ (by omega) (by decide) (by decide) rfl (zz_n (by omega))
      refine hE.off ?_
      unfold cin; exact decide_eq_false (by dsimp only; omega)
    · unfold cv
      rw [if_pos (by omega), if_neg (by omega), if_neg (by omega), if_neg (by omega), if_neg (by omega), if_neg (by omega), if_pos (by omega), show 10 + d - 10 = d by omega]
  · by_cases c : i = s
    · subst c; exact m6
    · exact m _ _ (by omega) (by omega) (by omega) (by omega)
  · by_cases c : k = d
    · subst c; exact ⟨s, hs, Rd⟩
    · rw [u _ (by omega)]; exact p1 k (by omega)
  · rw [u (10 + j) (by omega)]
    by_cases c : k = d
    · subst c; rw [Rd]; exact hk j (by omega)
    · rw [u (10 + k) (by omega)]; exact p2 j k hjk (by omega)
  · by_cases ci : i = s
    · subst ci
      rw [m7]
      by_cases c : k = d
      · rw [c]
      · rw [u _ (by omega)] at hq
        exact absurd hq (hk k (by omega))
    · rw [m _ _ (by omega) (by omega) (by omega) (by omega)]
      by_cases c : k = d
      · subst c
        rw [Rd] at hq
        exact absurd (nI_inj (by omega) (by omega) hq).symm ci
      · rw [u _ (by omega)] at hq
        exact (p3 i hi).1 k (by omega) hq
  · by_cases ci : i = s
    · subst ci
      exact absurd Rd (hq d (by omega))
    · rw [m _ _ (by omega) (by omega) (by omega) (by omega)]
      refine (p3 i hi).2 (fun k hk1 => ?_)
      have h9 := hq k (by omega)
      rw [u _ (by omega)] at h9
      exact h9
  · obtain ⟨w1, w2, w3, w4, w5, w6, w7, w8⟩ := v2 i hi
    by_cases ci : i = s
    · subst ci
      have e1 := inc_toInt w5 (by omega)
      rw [hcame] at e1 w5 w6
      refine ⟨by rw [u _ (by omega)]; exact w1, by rw [u _ (by omega)]; exact w2, fun j hj => by rw [u _ (by omega), u _ (by omega)]; exact w3 j hj, by rw [u _ (by omega)]; exact w4, ?_, ?_, by rw [u _ (by omega)]; exact w7, by rw [u _ (by omega)]; exact w8⟩
      · rw [R17]; omega
      · rw [R17]; omega
    · refine ⟨by rw [u _ (by omega)]; exact w1, by rw [u _ (by omega)]; exact w2, fun j hj => by rw [u _ (by omega), u _ (by omega)]; exact w3 j hj, by rw [u _ (by omega)]; exact w4, by rw [u _ (by omega)]; exact w5, by rw [u _ (by omega)]; omega, by rw [u _ (by omega)]; exact w7, by rw [u _ (by omega)]; exact w8⟩
  · rw [u 5 (by omega), h5] at hq
    rcases hq with hq | hq <;> exact absurd hq (by decide)
theorem comeOn_eq (μ : St) (i : Nat) (p t : Int32) : f_X7_comeOn μ i p t = (t - μ (9 + i) 6, up2 (up2 (up2 (up2 (up2 (up2 μ (9 + i) 7 p) (9 + i) 8 0) (9 + i) 4 0) (9 + i) 9 (μ (9 + i) 9 + 1)) (9 + i) 12 (t - μ (9 + i) 6)) (9 + i) 13 (if t - μ (9 + i) 6 ≤ μ (9 + i) 13 then μ (9 + i) 13 else t - μ (9 + i) 6)) := by
  by_cases c : t - μ (9 + i) 6 ≤ μ (9 + i) 13
  · have e : f_X7_comeOn μ i p t = _ := if_pos c
    rw [e, if_pos c]
    have hx : (up2 (up2 (up2 (up2 (up2 μ (9 + i) 7 p) (9 + i) 8 0) (9 + i) 4 0) (9 + i) 9 (μ (9 + i) 9 + 1)) (9 + i) 12 (t - μ (9 + i) 6)) (9 + i) 13 = μ (9 + i) 13 := by
      rw [up2_j (by decide), up2_j (by decide), up2_j (by decide), up2_j (by decide), up2_j (by decide)]
    rw [← hx, up2_id]
  · have e : f_X7_comeOn μ i p t = _ := if_neg c
    rw [e, if_neg c]
/-- who is entered comes on top -/
theorem top_sim {τ : Int} {N d q s : Nat} {μ σ : St} {t : Int32} (h : RM τ N d q μ (σ 1)) (hs : s < N) (e6 : σ 1 6 = nI s) (hk : ∀ k, k < d → σ 1 (10 + k) ≠ nI s) (hsin : σ 1 (93 + 24 * s + 6) = μ (9 + s) 6) (hτ : τ < 2147483647) :
    ∃ q', RM (τ + 1) N (d + 1) q' (f_X5_bringOnTop μ t) ((f_X9_comesOnTop σ t) 1) ∧ (f_X9_comesOnTop σ t) 1 5 = 0 := by
  have hN := h.N12
  have hd : d < 12 := by have := h.room hs hk; omega
  have em : μ 0 8 = nI s := h.c6.symm.trans e6
  obtain ⟨h3, h35⟩ := h.none
  have hrow := changes_row σ 2 (-1) 0
  have u3 : ∀ j, j ≠ 5 → j ≠ 6 → j ≠ 7 → (f_X9_changes σ 2 (-1) 0) 1 j = σ 1 j := fun j q1 q2 q3 => by rw [hrow, upd_n q3, upd_n q2, upd_n q1]
  have m3 : ∀ x y, x ≠ 0 → f_X5_setChange μ 0 (-1) 0 x y = μ x y := fun x y hx => by
    show up2 (up2 (up2 μ 0 7 0) 0 8 (-1)) 0 9 0 x y = _
    rw [up2_k hx, up2_k hx, up2_k hx]
  have m06 : f_X5_setChange μ 0 (-1) 0 0 6 = nI d := by
    show up2 (up2 (up2 μ 0 7 0) 0 8 (-1)) 0 9 0 0 6 = _
    rw [up2_j (by decide), up2_j (by decide), up2_j (by decide), h.md]
  -- the class
  have ec : f_X5_bringOnTop μ t = f_X3_add (up2 (up2 (up2 (up2 (up2 (up2 (up2 (up2 (up2 (up2 (f_X5_setChange μ 0 (-1) 0) (9 + s) 7 (nI d)) (9 + s) 8 0) (9 + s) 4 0) (9 + s) 9 (μ (9 + s) 9 + 1)) (9 + s) 12 (t - μ (9 + s) 6)) (9 + s) 13 (if t - μ (9 + s) 6 ≤ μ (9 + s) 13 then μ (9 + s) 13 else t - μ (9 + s) 6)) 2 9 (μ 2 9 + (t - μ (9 + s) 6))) 4 d (nI s)) 0 6 (nI (d + 1))) 2 8 (if μ 2 8 < nI (d + 1) then nI (d + 1) else μ 2 8)) 1 (nI s) t := by
    unfold f_X5_bringOnTop
    rw [em, find_some h hs]
    show (if f_X5_setChange μ 0 (-1) 0 0 6 < 12 then _ else _) = _
    rw [if_pos (by rw [m06, show (12 : Int32) = nI 12 from rfl, nI_ltI (by omega) (by decide)]; exact hd)]
    try dsimp only
    rw [comeOn_eq, m06, m3 (9 + s) 6 (by omega), m3 (9 + s) 9 (by omega), m3 (9 + s) 13 (by omega)]
    try dsimp only
    have z06 : ∀ X : St, (up2 (up2 (up2 (up2 (up2 (up2 X (9 + s) 7 (nI d)) (9 + s) 8 0) (9 + s) 4 0) (9 + s) 9 (μ (9 + s) 9 + 1)) (9 + s) 12 (t - μ (9 + s) 6)) (9 + s) 13 (if t - μ (9 + s) 6 ≤ μ (9 + s) 13 then μ (9 + s) 13 else t - μ (9 + s) 6)) 0 6 = X 0 6 := fun X => by
      rw [up2_k (by omega), up2_k (by omega), up2_k (by omega), up2_k (by omega), up2_k (by omega), up2_k (by omega)]
    have z28 : ∀ X : St, (up2 (up2 (up2 (up2 (up2 (up2 X (9 + s) 7 (nI d)) (9 + s) 8 0) (9 + s) 4 0) (9 + s) 9 (μ (9 + s) 9 + 1)) (9 + s) 12 (t - μ (9 + s) 6)) (9 + s) 13 (if t - μ (9 + s) 6 ≤ μ (9 + s) 13 then μ (9 + s) 13 else t - μ (9 + s) 6)) 2 8 = X 2 8 := fun X => by
      rw [up2_k (by omega), up2_k (by omega), up2_k (by omega), up2_k (by omega), up2_k (by omega), up2_k (by omega)]
    simp only [z06, z28, m06, m3 2 8 (by decide), m3 2 9 (by decide), nI_1, nI_clamp (show d < 2 ^ 31 by omega)]
  have er : (f_X9_comesOnTop σ t) 1 = lgr (upd (upd (upd (upd (upd (upd (upd (upd (upd ((f_X9_changes σ 2 (-1) 0) 1) (93 + 24 * s + 4) 0) (93 + 24 * s + 16) 0) (93 + 24 * s + 17) (μ (9 + s) 9 + 1)) (93 + 24 * s + 20) (t - μ (9 + s) 6)) (93 + 24 * s + 21) (if t - μ (9 + s) 6 ≤ μ (9 + s) 13 then μ (9 + s) 13 else t - μ (9 + s) 6)) 92 (μ 2 9 + (t - μ (9 + s) 6))) (10 + d) (nI s)) 9 (nI (d + 1))) 91 (if μ 2 8 < nI (d + 1) then nI (d + 1) else μ 2 8)) 1 (nI s) t := by
    unfold f_X9_comesOnTop
    try dsimp only
    rw [logs_row, e6, ix_nI (by omega), up2_row, up2_row, up2_row, up2_row, up2_row, up2_row, up2_row, up2_row, up2_row]
    rw [u3 (93 + 24 * s + 17) (by omega) (by omega) (by omega), u3 (93 + 24 * s + 6) (by omega) (by omega) (by omega), u3 (93 + 24 * s + 21) (by omega) (by omega) (by omega), u3 92 (by decide) (by decide) (by decide), u3 9 (by decide) (by decide) (by decide), u3 91 (by decide) (by decide) (by decide)]
    rw [h.f hs (w := 17) (by decide) (by decide) rfl (by decide), hsin, h.f hs (w := 21) (by decide) (by decide) rfl (by decide), show σ 1 92 = μ 2 9 from h.acc (k := 9) (by decide), show σ 1 91 = μ 2 8 from h.acc (k := 8) (by decide), h.2.1.2.1, nI_clamp (by omega), nI_1]
    unfold f_X9_greater
    have g1 : (if μ (9 + s) 13 ≤ t - μ (9 + s) 6 then t - μ (9 + s) 6 else μ (9 + s) 13) = (if t - μ (9 + s) 6 ≤ μ (9 + s) 13 then μ (9 + s) 13 else t - μ (9 + s) 6) := by rw [← mx_le, mx_eq]
    have g2 : (if μ 2 8 ≤ nI (d + 1) then nI (d + 1) else μ 2 8) = (if μ 2 8 < nI (d + 1) then nI (d + 1) else μ 2 8) := (mx_le _ _).symm
    have e13 : fw 21 = 13 := rfl
    have e9 : fw 17 = 9 := rfl
    rw [e13, e9, g1, g2]
  rw [ec, er]
  have hp := (push_sim (lat := t - μ (9 + s) 6) (g := (if t - μ (9 + s) 6 ≤ μ (9 + s) 13 then μ (9 + s) 13 else t - μ (9 + s) 6)) (a := μ 2 9 + (t - μ (9 + s) 6)) (m := (if μ 2 8 < nI (d + 1) then nI (d + 1) else μ 2 8)) h3 h35 hs (fun k hk1 => by rw [u3 _ (by omega) (by omega) (by omega)]; exact hk k hk1) hd hτ).log 1 (nI s) t
  rw [m3 (9 + s) 9 (by omega)] at hp
  refine ⟨_, hp, ?_⟩
  rw [lgr_o (by decide), upd_n (by decide), upd_n (by decide), upd_n (by omega), upd_n (by decide), upd_n (by omega), upd_n (by omega), upd_n (by omega), upd_n (by omega), upd_n (by omega)]
  exact h35
