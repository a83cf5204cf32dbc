/-- a new source's numbers -/
def nw (a b c : Int32) (w : Nat) : Int32 := if w = 0 then a else if w = 1 then b else if w = 2 then c else if w = 3 then 1 else if w = 20 ∨ w = 21 then -1 else 0
theorem nw_k1 : ∀ N, N < 12 → ∀ w, w < 24 → ((8 ≤ w ∧ w < 14) ∨ w = 6 ∨ w < 3) ∨ nw 0 0 0 w = zz (9 + N) (fw w) (frv (fw w)) := by decide +kernel
theorem nw_k2 : ∀ w, w < 24 → ((8 ≤ w ∧ w < 14) ∨ w = 6 ∨ w < 3) ∨ (fw w ≠ 0 ∧ fw w ≠ 1 ∧ fw w ≠ 2) := by decide
theorem comes_l {σ0 : St} {N : Nat} (h8 : σ0 1 8 = nI N) (hN : N < 12) : ∀ n k (t : St), k ≤ 24 → 24 < k + n → ∀ j, (f_X9_comes_l15 σ0 n k t) 1 j = if 93 + 24 * N + k ≤ j ∧ j < 93 + 24 * N + 24 then 0 else t 1 j
  | 0, k, t, hk, hn, j => absurd hn (by omega)
  | n + 1, k, t, hk, hn, j => by
    by_cases c : 24 ≤ nI k
    · have e : f_X9_comes_l15 σ0 (n + 1) k t = t := if_pos c
      rw [show (24 : Int32) = nI 24 from rfl, nI_leI (by decide) (by omega)] at c
      rw [e, if_neg (by omega)]
    · have e : f_X9_comes_l15 σ0 (n + 1) k t = f_X9_comes_l15 σ0 n (k + 1) (up2 t 1 (ix (σ0 1 8) + k) 0) := if_neg c
      rw [show (24 : Int32) = nI 24 from rfl, nI_leI (by decide) (by omega)] at c
      rw [e, comes_l h8 hN n (k + 1) _ (by omega) (by omega), h8, ix_nI hN]
      by_cases c1 : 93 + 24 * N + (k + 1) ≤ j ∧ j < 93 + 24 * N + 24
      · rw [if_pos c1, if_pos (by omega)]
      · rw [if_neg c1]
        by_cases c2 : j = 93 + 24 * N + k
        · subst c2; rw [up2_s, if_pos (by omega)]
        · rw [up2_j c2, if_neg (by omega)]
theorem comes_row {σ : St} {N : Nat} (h8 : σ 1 8 = nI N) (hN : N < 12) (a b c : Int32) : (f_X9_comes σ a b c).1 = nI N ∧ ∀ j, (f_X9_comes σ a b c).2 1 j = if j = 8 then nI (N + 1) else if 93 + 24 * N ≤ j ∧ j < 93 + 24 * N + 24 then nw a b c (j - (93 + 24 * N)) else σ 1 j := by
  have hl := comes_l h8 hN fu25 0 σ (by omega) (by unfold fu25; omega)
  have e8 : f_X9_comes_l15 σ fu25 0 σ 1 8 = nI N := by rw [hl, if_neg (by omega), h8]
  constructor
  · show f_X9_comes_l15 σ fu25 0 σ 1 8 + 1 - 1 = nI N
    rw [e8, nI_1, nI_pred]
  · intro j
    show up2 (up2 (up2 (up2 (up2 (up2 (up2 (f_X9_comes_l15 σ fu25 0 σ) 1 (ix (σ 1 8) + 0) a) 1 (ix (σ 1 8) + 1) b) 1 (ix (σ 1 8) + 2) c) 1 (ix (σ 1 8) + 3) 1) 1 (ix (σ 1 8) + 20) (-1)) 1 (ix (σ 1 8) + 21) (-1)) 1 8 (f_X9_comes_l15 σ fu25 0 σ 1 8 + 1) 1 j = _
    rw [e8, nI_1, h8, ix_nI hN]
    by_cases c8 : j = 8
    · subst c8; rw [up2_s, if_pos rfl]
    · rw [up2_j c8, if_neg c8]
      by_cases ci : 93 + 24 * N ≤ j ∧ j < 93 + 24 * N + 24
      · rw [if_pos ci]
        obtain ⟨w, rfl⟩ : ∃ w, j = 93 + 24 * N + w := ⟨j - (93 + 24 * N), by omega⟩
        rw [show 93 + 24 * N + w - (93 + 24 * N) = w by omega]
        unfold nw
        by_cases w0 : w = 0
        · subst w0; rw [up2_j (by omega), up2_j (by omega), up2_j (by omega), up2_j (by omega), up2_j (by omega), up2_s, if_pos rfl]
        · rw [if_neg w0]
          by_cases w1 : w = 1
          · subst w1; rw [up2_j (by omega), up2_j (by omega), up2_j (by omega), up2_j (by omega), up2_s, if_pos rfl]
          · rw [if_neg w1]
            by_cases w2 : w = 2
            · subst w2; rw [up2_j (by omega), up2_j (by omega), up2_j (by omega), up2_s, if_pos rfl]
            · rw [if_neg w2]
              by_cases w3 : w = 3
              · subst w3; rw [up2_j (by omega), up2_j (by omega), up2_s, if_pos rfl]
              · rw [if_neg w3]
                by_cases w20 : w = 20
                · subst w20; rw [up2_j (by omega), up2_s, if_pos (by omega)]
                · by_cases w21 : w = 21
                  · subst w21; rw [up2_s, if_pos (by omega)]
                  · rw [up2_j (by omega), up2_j (by omega), up2_j (by omega), up2_j (by omega), up2_j (by omega), up2_j (by omega), hl, if_pos (by omega), if_neg (by omega)]
      · rw [if_neg ci, up2_j (by omega), up2_j (by omega), up2_j (by omega), up2_j (by omega), up2_j (by omega), up2_j (by omega), hl, if_neg (by omega)]
/-- one more source -/
theorem RM.more {τ : Int} {N d q : Nat} {μ : St} {ρ R : Nat → Int32} {a b c : Int32} (h : RM τ N d q μ ρ) (hN : N < 12) (hτ : 0 ≤ τ) (hb : b = 0 ∨ b = 1) (ha : 0 ≤ a.toInt) (hc : 0 ≤ c.toInt) (hR : ∀ j, R j = if j = 8 then nI (N + 1) else if 93 + 24 * N ≤ j ∧ j < 93 + 24 * N + 24 then nw a b c (j - (93 + 24 * N)) else ρ j) :
    RM τ (N + 1) d q (up2 (up2 (up2 (up2 μ (9 + N) 0 a) (9 + N) 1 b) (9 + N) 2 c) 0 4 (nI (N + 1))) R := by
  have hd := h.d12
  obtain ⟨h1, ⟨a8, a9, a53⟩, hE, hG, hS, ⟨p1, p2, p3⟩, hF, ⟨v1, v2⟩, ⟨q1, q2⟩⟩ := h
  have u : ∀ j, j ≠ 8 → (j < 93 + 24 * N ∨ 93 + 24 * N + 24 ≤ j) → R j = ρ j := fun j hj hj2 => by rw [hR, if_neg hj, if_neg (by omega)]
  have un : ∀ w, w < 24 → R (93 + 24 * N + w) = nw a b c w := fun w hw => by rw [hR, if_neg (by omega), if_pos (by omega), show 93 + 24 * N + w - (93 + 24 * N) = w by omega]
  have m : ∀ x y, x ≠ 0 → x ≠ 9 + N → up2 (up2 (up2 (up2 μ (9 + N) 0 a) (9 + N) 1 b) (9 + N) 2 c) 0 4 (nI (N + 1)) x y = μ x y := fun x y hx hx2 => by rw [up2_k hx, up2_k hx2, up2_k hx2, up2_k hx2]
  have m0 : ∀ y, y ≠ 4 → up2 (up2 (up2 (up2 μ (9 + N) 0 a) (9 + N) 1 b) (9 + N) 2 c) 0 4 (nI (N + 1)) 0 y = μ 0 y := fun y hy => by rw [up2_j hy, up2_k (by omega), up2_k (by omega), up2_k (by omega)]
  have mn : ∀ y, y < 19 → up2 (up2 (up2 (up2 μ (9 + N) 0 a) (9 + N) 1 b) (9 + N) 2 c) 0 4 (nI (N + 1)) (9 + N) y = if y = 0 then a else if y = 1 then b else if y = 2 then c else frv y := fun y hy => by
    rw [up2_k (by omega)]
    by_cases y2 : y = 2
    · subst y2; rw [up2_s, if_neg (by decide), if_neg (by decide), if_pos rfl]
    · rw [up2_j y2]
      by_cases y1 : y = 1
      · subst y1; rw [up2_s, if_neg (by decide), if_pos rfl]
      · rw [up2_j y1]
        by_cases y0 : y = 0
        · subst y0; rw [up2_s, if_pos rfl]
        · rw [up2_j y0, if_neg y0, if_neg y1, if_neg y2]
          exact (hF N (Nat.le_refl _) hN).1 y hy
  have hcv : ∀ j, j < 381 → cok j → j ≠ 8 → ¬ ((cv j).1 = 0 ∧ (cv j).2 = 4) := by decide +kernel
  refine ⟨⟨by omega, hd, h1.2.2⟩, ⟨by rw [hR, if_pos rfl], by rw [u 9 (by decide) (by omega)]; exact a9, by rw [m 5 3 (by decide) (by omega)]; exact a53⟩, fun j hj hjN => ?_, hG.congr (fun j _ hj => u j (by omega) (by omega)) (fun x y _ _ => m x y (by omega) (by omega)), fun i hi => ?_, ⟨fun k hk => ?_, fun j k hj hk => by rw [u _ (by omega) (by omega), u _ (by omega) (by omega)]; exact p2 j k hj hk, fun i hi => ⟨fun k hk hq => ?_, fun hq => ?_⟩⟩, fun i hi h12 => ⟨fun y hy => ?_, fun j y hj hy => ?_⟩, ⟨fun k hk => by rw [u _ (by omega) (by omega)]; exact v1 k hk, fun i hi => ?_⟩, ⟨by rw [u 5 (by decide) (by omega)]; exact q1, fun hq => ?_⟩⟩
  · by_cases c8 : j = 8
    · subst c8
      rw [hR, if_pos rfl]
      show _ = zz 0 4 (up2 _ 0 4 (nI (N + 1)) 0 4)
      rw [up2_s]
      exact zz_n (by omega)
    · by_cases ci : 93 + 24 * N ≤ j
      · obtain ⟨w, rfl⟩ : ∃ w, j = 93 + 24 * N + w := ⟨j - (93 + 24 * N), by omega⟩
        have hw : w < 24 := by have := hjN (by omega); omega
        have hw6 : w ≠ 6 := by have := hj; unfold cok at this; omega
        rw [un w hw, cv_s N hN w hw]
        by_cases cs : 8 ≤ w ∧ w < 14
        · rw [if_pos cs]
          dsimp only
          rw [m _ _ (by omega) (by omega), (hF N (Nat.le_refl _) hN).2 ((w - 8) / 3) ((w - 8) % 3) (by omega) (by omega)]
          unfold nw
          rw [if_neg (by omega), if_neg (by omega), if_neg (by omega), if_neg (by omega), if_neg (by omega)]
          exact zz_n (by omega)
        · rw [if_neg cs]
          dsimp only
          have hfw : ∀ w, w < 24 → fw w < 19 := by decide
          rw [mn _ (hfw w hw)]
          by_cases w0 : w = 0
          · subst w0
            show nw a b c 0 = zz (9 + N) 0 a
            exact zz_n (by omega)
          · by_cases w1 : w = 1
            · subst w1
              show nw a b c 1 = zz (9 + N) 1 b
              exact zz_n (by omega)
            · by_cases w2 : w = 2
              · subst w2
                show nw a b c 2 = zz (9 + N) 2 c
                exact zz_n (by omega)
              · have k1 := (nw_k1 N hN w hw).resolve_left (by omega)
                obtain ⟨k2, k3, k4⟩ := (nw_k2 w hw).resolve_left (by omega)
                rw [if_neg k2, if_neg k3, if_neg k4, ← k1]
                unfold nw
                rw [if_neg w0, if_neg w1, if_neg w2, if_neg w0, if_neg w1, if_neg w2]
      · rw [u j c8 (by omega)]
        have hne := hcv j (cok_lt hj) hj c8
        by_cases cz : (cv j).1 = 0
        · have e2 : (cv j).2 ≠ 4 := fun z => hne ⟨cz, z⟩
          rw [hE j hj (by omega), cz, m0 _ e2]
        · by_cases c9 : (cv j).1 = 9 + N
          · exfalso
            have hbig : 93 ≤ j → (cv j).1 = 9 + (j - 93) / 24 ∨ 33 ≤ (cv j).1 := by
              intro hb93
              unfold cv
              rw [if_neg (by omega)]
              split
              · right; dsimp only; omega
              · left; rfl
            have hsm : ∀ j, j < 93 → cok j → (cv j).1 < 9 := by decide +kernel
            by_cases cj : j < 93
            · have := hsm j cj hj; omega
            · rcases hbig (by omega) with z | z <;> omega
          · rw [m _ _ cz c9]
            exact hE j hj (by omega)
  · by_cases ci : i = N
    · subst ci
      right
      rw [un 6 (by decide), mn 6 (by decide)]
      rfl
    · rw [u _ (by omega) (by omega), u _ (by omega) (by omega), u _ (by omega) (by omega), m _ _ (by omega) (by omega)]
      exact hS i (by omega)
  · obtain ⟨s, hs, e⟩ := p1 k hk
    exact ⟨s, by omega, by rw [u _ (by omega) (by omega)]; exact e⟩
  · rw [u _ (by omega) (by omega)] at hq
    by_cases ci : i = N
    · subst ci
      obtain ⟨s, hs, e⟩ := p1 k hk
      rw [e] at hq
      exact absurd (nI_inj (by omega) (by omega) hq) (by omega)
    · rw [m _ _ (by omega) (by omega)]
      exact (p3 i (by omega)).1 k hk hq
  · by_cases ci : i = N
    · subst ci; rw [mn 7 (by decide)]; rfl
    · rw [m _ _ (by omega) (by omega)]
      refine (p3 i (by omega)).2 (fun k hk => ?_)
      have h9 := hq k hk
      rw [u _ (by omega) (by omega)] at h9
      exact h9
  · rw [m _ _ (by omega) (by omega)]; exact (hF i (by omega) h12).1 y hy
  · rw [m _ _ (by omega) (by omega)]; exact (hF i (by omega) h12).2 j y hj hy
  · by_cases ci : i = N
    · subst ci
      refine ⟨by rw [un 1 (by decide)]; exact hb, ⟨0, by omega, by rw [un 7 (by decide)]; rfl⟩, fun j hj => ?_, by rw [un 15 (by decide)]; show (0 : Int) ≤ (0 : Int32).toInt; decide, by rw [un 17 (by decide)]; show (0 : Int) ≤ (0 : Int32).toInt; decide, by rw [un 17 (by decide)]; exact hτ, by rw [un 0 (by decide)]; exact ha, by rw [un 2 (by decide)]; exact hc⟩
      have z : ∀ w, 8 ≤ w → w < 14 → nw a b c w = 0 := fun w h8 h14 => by
        unfold nw
        rw [if_neg (by omega), if_neg (by omega), if_neg (by omega), if_neg (by omega), if_neg (by omega)]
      rw [un _ (by omega), un _ (by omega), z _ (by omega) (by omega), z _ (by omega) (by omega)]
      decide
    · exact (v2 i (by omega)).congr (fun w hw => u _ (by omega) (by omega))
  · rw [u 5 (by decide) (by omega)] at hq
    obtain ⟨s, hs, e6, hk⟩ := q2 hq
    exact ⟨s, by omega, by rw [u 6 (by decide) (by omega)]; exact e6, fun k hk1 => by rw [u _ (by omega) (by omega)]; exact hk k hk1⟩
theorem add_sim {τ : Int} {μ σ : St} (h : RMx τ μ (σ 1)) (hτ : 0 ≤ τ) (a b c : Int32) : opS τ (f_X5_makeSource μ a b c) (f_X9_badSource σ a b c) (f_X9_comes σ a b c) μ := by
  obtain ⟨N, d, q, h, hT⟩ := h
  have hN := h.N12
  unfold f_X5_makeSource f_X9_badSource
  dsimp only
  rw [in_eq, in_eq, in_eq]
  rcases in_cases a 1 15 with ea | ⟨ea, ha0, -⟩
  · rw [ea]; exact Or.inr ⟨Or.inr (Or.inl rfl), rfl⟩
  rw [ea, if_neg n10, if_neg n10]
  rcases in_cases b 0 1 with eb | ⟨eb, hb0, hb1⟩
  · rw [eb]; exact Or.inr ⟨Or.inr (Or.inl rfl), rfl⟩
  rw [eb, if_neg n10, if_neg n10]
  rcases in_cases c 1 500 with ec | ⟨ec, hc0, -⟩
  · rw [ec]; exact Or.inr ⟨Or.inr (Or.inl rfl), rfl⟩
  rw [ec, if_neg n10, if_neg n10, h.mN, h.2.1.1]
  have h1i : (1 : Int32).toInt = 1 := rfl
  have h0i : (0 : Int32).toInt = 0 := rfl
  by_cases c12 : N = 12
  · subst c12
    rw [if_neg (show ¬ nI 12 < 12 by decide), if_pos (show nI 12 = 12 from rfl)]
    exact Or.inr ⟨Or.inr (Or.inr rfl), rfl⟩
  · rw [if_pos (show nI N < 12 by rw [show (12 : Int32) = nI 12 from rfl, nI_ltI (by omega) (by decide)]; omega), if_neg (show ¬ nI N = 12 by rw [show (12 : Int32) = nI 12 from rfl, nI_eq (by omega) (by decide)]; exact c12), nI_1, nI_pred, nI_clamp (by omega)]
    obtain ⟨r1, r2⟩ := comes_row h.2.1.1 (by omega) a b c
    refine Or.inl ⟨rfl, r1.symm, by show 0 ≤ (nI N).toInt; rw [nI_toInt (by omega)]; omega, N + 1, d, q, h.more (by omega) hτ ?_ (by omega) (by omega) r2, hT.keep (by rw [r2, if_neg (by decide), if_neg (by omega)]) (by rw [r2, if_neg (by decide), if_neg (by omega)])⟩
    obtain ⟨k, hk, rfl⟩ := of_nI (x := b) (n := 2) ⟨by omega, by omega⟩ (by decide)
    have hk2 : k = 0 ∨ k = 1 := by omega
    rcases hk2 with rfl | rfl
    · exact Or.inl rfl
    · exact Or.inr rfl
/-- whether a source's number may be set -/
def badSetS (σ : St) (p w v : Int32) : Int32 := if f_X9_isSource σ p = 0 then 1 else (if f_X9_isValue w v = 0 then 2 else (if 2 ≤ w then 0 else (if f_X9_placeOf σ p = (-1) then (if f_X9_isEntered σ p = 0 then 0 else 3) else 3)))
def setS (σ : St) (p w v : Int32) : Int32 × St := (σ 1 (ix p + (if w = 0 then (0 : Int32) else (if w = 1 then 2 else 3)).toNatClampNeg), up2 σ 1 (ix p + (if w = 0 then (0 : Int32) else (if w = 1 then 2 else 3)).toNatClampNeg) v)
theorem chg_common {τ : Int} {N d q i : Nat} {μ σ : St} (h : RM τ N d q μ (σ 1)) (hT : RT (σ 1)) (hi : i < N) (w0 bf : Nat) (v : Int32) (hw : w0 = 0 ∨ w0 = 2) (hb : bf = w0) (hv : 0 ≤ v.toInt) :
    opS τ (if f_X7_isStacked μ i = 0 then (if nI i = μ 0 8 then ((-3 : Int32), μ) else (μ (9 + i) bf, up2 μ (9 + i) bf v)) else (-3, μ)) (if f_X9_placeOf σ (nI i) = (-1) then (if f_X9_isEntered σ (nI i) = 0 then 0 else 3) else 3) (σ 1 (93 + 24 * i + w0), up2 σ 1 (93 + 24 * i + w0) v) μ := by
  have hN := h.N12
  subst hb
  have hf : fw bf = bf := by rcases hw with rfl | rfl <;> rfl
  have e0 : σ 1 (93 + 24 * i + bf) = μ (9 + i) bf := h.f hi (by omega) (by omega) hf (by omega)
  have hr : 0 ≤ (σ 1 (93 + 24 * i + bf)).toInt := by
    rcases hw with rfl | rfl
    · exact (h.rv.2 i hi).2.2.2.2.2.2.1
    · exact (h.rv.2 i hi).2.2.2.2.2.2.2
  rw [place_st h hi]
  by_cases cp : f_X9_placeOf σ (nI i) = -1
  · rw [if_pos cp, if_pos cp, if_pos (show (0 : Int32) = 0 from rfl)]
    unfold f_X9_isEntered
    rw [h.c6]
    by_cases ce : μ 0 8 = nI i
    · rw [if_pos ce, if_neg n10, if_pos ce.symm]
      exact Or.inr ⟨Or.inr (Or.inr rfl), rfl⟩
    · rw [if_neg ce, if_pos (show (0 : Int32) = 0 from rfl), if_neg (fun z => ce z.symm)]
      refine Or.inl ⟨rfl, e0.symm, by show 0 ≤ (μ (9 + i) bf).toInt; rw [← e0]; exact hr, N, d, q, ?_, hT.keep ?_ ?_⟩
      · dsimp only
        rw [up2_row]
        exact h.usg hi (by omega) (by omega) (cv_f (by omega) (by omega) hf) (by omega) (zz_n (by omega)) (h.rsk hi (by omega) (by omega)) ((h.rv.2 i hi).set (by omega) (fun e => absurd e (by omega)) (fun e => absurd e (by omega)) (fun e => absurd e (by omega)) (fun e => absurd e (by omega)) (fun _ => hv) (by omega))
      · dsimp only
        rw [up2_row, upd_n (by omega)]
      · dsimp only
        rw [up2_row, upd_n (by omega)]
  · rw [if_neg cp, if_neg cp, if_neg n10]
    exact Or.inr ⟨Or.inr (Or.inr rfl), rfl⟩
theorem setS_sim {τ : Int} {μ σ : St} (h : RMx τ μ (σ 1)) (p w v : Int32) : opS τ (f_X5_changeSource μ p w v) (badSetS σ p w v) (setS σ p w v) μ := by
  obtain ⟨N, d, q, h, hT⟩ := h
  have hN := h.N12
  unfold f_X5_changeSource badSetS setS
  dsimp only
  rcases src_cases h p with ⟨e1, e2⟩ | ⟨i, hi, rfl, e1, e2⟩
  · rw [e1, e2]
    exact Or.inr ⟨Or.inl rfl, rfl⟩
  rw [e1, e2, if_neg n10, ix_nI (by omega)]
  have h1i : (1 : Int32).toInt = 1 := rfl
  unfold oc f_X9_isValue
  dsimp only
  by_cases w0 : w = 0
  · subst w0
    rw [if_pos (show (0 : Int32) = 0 from rfl), if_pos (show (0 : Int32) = 0 from rfl), if_pos (show (0 : Int32) = 0 from rfl)]
    unfold f_X5_changePriority
    dsimp only
    rw [in_eq]
    rcases in_cases v 1 15 with ev | ⟨ev, hv0, -⟩
    · rw [ev]; exact Or.inr ⟨Or.inr (Or.inl rfl), rfl⟩
    · rw [ev, if_neg n10, if_neg n10, if_neg (show ¬ (2 : Int32) ≤ 0 by decide)]
      exact chg_common h hT hi 0 0 v (Or.inl rfl) rfl (by omega)
  by_cases w1 : w = 1
  · subst w1
    rw [if_neg n10, if_neg n10, if_neg n10, if_pos (show (1 : Int32) = 1 from rfl), if_pos (show (1 : Int32) = 1 from rfl), if_pos (show (1 : Int32) = 1 from rfl)]
    unfold f_X5_changeLength
    dsimp only
    rw [in_eq]
    rcases in_cases v 1 500 with ev | ⟨ev, hv0, -⟩
    · rw [ev]; exact Or.inr ⟨Or.inr (Or.inl rfl), rfl⟩
    · rw [ev, if_neg n10, if_neg n10, if_neg (show ¬ (2 : Int32) ≤ 1 by decide)]
      exact chg_common h hT hi 2 2 v (Or.inr rfl) rfl (by omega)
  by_cases w2 : w = 2
  · subst w2
    have n20 : ¬ (2 : Int32) = 0 := by decide
    have n21 : ¬ (2 : Int32) = 1 := by decide
    rw [if_neg n20, if_neg n20, if_neg n20, if_neg n21, if_neg n21, if_neg n21, if_pos (show (2 : Int32) = 2 from rfl), if_pos (show (2 : Int32) = 2 from rfl)]
    unfold f_X5_changeEnabled
    dsimp only
    rw [in_eq]
    rcases in_cases v 0 1 with ev | ⟨ev, hv0, hv1⟩
    · rw [ev]; exact Or.inr ⟨Or.inr (Or.inl rfl), rfl⟩
    · rw [ev, if_neg n10, if_neg n10, if_neg n10, if_pos (show (2 : Int32) ≤ 2 by decide)]
      have e3 : σ 1 (93 + 24 * i + 3) = zb (μ (9 + i) 3) := h.b hi (by decide) (by decide) rfl (by decide)
      have hv2 : v = 0 ∨ v = 1 := by
        have h0i : (0 : Int32).toInt = 0 := rfl
        obtain ⟨k, hk, rfl⟩ := of_nI (x := v) (n := 2) ⟨by omega, by omega⟩ (by decide)
        have hk2 : k = 0 ∨ k = 1 := by omega
        rcases hk2 with rfl | rfl
        · exact Or.inl rfl
        · exact Or.inr rfl
      have ezb : (if zb (μ (9 + i) 3) = 0 then (0 : Int32) else 1) = zb (μ (9 + i) 3) := by
        rcases zb_two (μ (9 + i) 3) with z | z <;> rw [z] <;> rfl
      have ev1 : (if v = 1 then (1 : Int32) else 0) = v := by rcases hv2 with z | z <;> rw [z] <;> rfl
      have ezv : zb v = v := by rcases hv2 with z | z <;> rw [z] <;> rfl
      rw [ezb, ev1]
      refine Or.inl ⟨rfl, e3.symm, ?_, N, d, q, ?_, hT.keep ?_ ?_⟩
      · show 0 ≤ (zb (μ (9 + i) 3)).toInt
        rcases zb_two (μ (9 + i) 3) with z | z <;> rw [z] <;> decide
      · show RM τ N d q (up2 μ (9 + i) 3 v) ((up2 σ 1 (93 + 24 * i + 3) v) 1)
        rw [up2_row]
        exact h.usrc hi (w := 3) (b := 3) (by decide) (by decide) rfl (ezv.symm.trans (zz_y (by omega)))
      · show (up2 σ 1 (93 + 24 * i + 3) v) 1 5 = _
        rw [up2_row, upd_n (by omega)]
      · show (up2 σ 1 (93 + 24 * i + 3) v) 1 7 = _
        rw [up2_row, upd_n (by omega)]
  · rw [if_neg w0, if_neg w0, if_neg w1, if_neg w1, if_neg w2, if_neg w2, if_pos (show (0 : Int32) = 0 from rfl)]
    exact Or.inr ⟨Or.inr (Or.inl rfl), rfl⟩
