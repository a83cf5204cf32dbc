/-- what a copy hands over: truth values as 0 or 1 -/
def zz (a b : Nat) (x : Int32) : Int32 := if 9 ≤ a ∧ a < 21 ∧ 3 ≤ b ∧ b < 6 then zb x else x
theorem zz_n {a b : Nat} {x : Int32} (h : ¬ (9 ≤ a ∧ a < 21 ∧ 3 ≤ b ∧ b < 6)) : x = zz a b x := (if_neg h).symm
theorem zz_y {a b : Nat} {x : Int32} (h : 9 ≤ a ∧ a < 21 ∧ 3 ≤ b ∧ b < 6) : zb x = zz a b x := (if_pos h).symm
/-- the places P of the first Machine hold what those of the second hold, the rest is as it was -/
def cpd (P : Nat → Nat → Prop) (σ u : St) : Prop := ∀ a b, (P a b → u a b = zz a b (σ (57 + a) b)) ∧ (¬ P a b → u a b = σ a b)
theorem cpd.nil {σ : St} : cpd (fun a _ => a < 0) σ σ := fun _ _ => ⟨fun h => absurd h (Nat.not_lt_zero _), fun _ => rfl⟩
theorem cpd.congr {P P' : Nat → Nat → Prop} {σ u : St} (h : cpd P σ u) (e : ∀ a b, P a b ↔ P' a b) : cpd P' σ u := fun a b => ⟨fun q => (h a b).1 ((e a b).mpr q), fun q => (h a b).2 (fun r => q ((e a b).mp r))⟩
theorem cpd.up {P : Nat → Nat → Prop} {σ u : St} {k j : Nat} {v : Int32} (h : cpd P σ u) (hv : v = zz k j (σ (57 + k) j)) : cpd (fun a b => P a b ∨ (a = k ∧ b = j)) σ (up2 u k j v) := fun a b => by
  by_cases c : a = k ∧ b = j
  · obtain ⟨rfl, rfl⟩ := c
    rw [up2_s]
    exact ⟨fun _ => hv, fun q => absurd (Or.inr ⟨rfl, rfl⟩) q⟩
  · rw [show up2 u k j v a b = u a b from if_neg c]
    exact ⟨fun q => (h a b).1 (q.resolve_right c), fun q => (h a b).2 (fun r => q (Or.inl r))⟩
theorem cpd.src {P : Nat → Nat → Prop} {σ u : St} (h : cpd P σ u) (hP : ∀ a b, P a b → a < 57) {a b : Nat} (ha : 57 ≤ a) : u a b = σ a b := (h a b).2 (fun q => by have := hP a b q; omega)
theorem cpd.row {P : Nat → Nat → Prop} {σ u : St} {k n : Nat} (h : cpd P σ u) (hP : ∀ a b, P a b → a < 57) (hk : k < 9) : cpd (fun a b => P a b ∨ (a = k ∧ b < n)) σ (cpy u (57 + k) k n) := fun a b => by
  by_cases c : a = k ∧ b < n
  · obtain ⟨rfl, hb⟩ := c
    rw [show cpy u (57 + a) a n a b = u (57 + a) b from if_pos ⟨rfl, hb⟩, h.src hP (by omega)]
    exact ⟨fun _ => zz_n (by omega), fun q => absurd (Or.inr ⟨rfl, hb⟩) q⟩
  · rw [show cpy u (57 + k) k n a b = u a b from if_neg c]
    exact ⟨fun q => (h a b).1 (q.resolve_right c), fun q => (h a b).2 (fun r => q (Or.inl r))⟩
theorem cpd.trans {P P' : Nat → Nat → Prop} {σ u w : St} (h : cpd P σ u) (h2 : cpd P' u w) (hP : ∀ a b, P a b → a < 57) : cpd (fun a b => P a b ∨ P' a b) σ w := fun a b => by
  by_cases c : P' a b
  · refine ⟨fun _ => ?_, fun q => absurd (Or.inr c) q⟩
    rw [(h2 a b).1 c, h.src hP (by omega)]
  · rw [(h2 a b).2 c]
    exact ⟨fun q => (h a b).1 (q.resolve_right c), fun q => (h a b).2 (fun r => q (Or.inl r))⟩
theorem cp6 {σ : St} {i j : Nat} : cpd (fun a b => a = 33 + 2 * i + j ∧ b < 3) σ (f_X6_copyFrom σ i j) := by
  unfold f_X6_copyFrom
  refine cpd.congr (cpd.up (k := 33 + 2 * i + j) (j := 2) (cpd.up (k := 33 + 2 * i + j) (j := 1) (cpd.up (k := 33 + 2 * i + j) (j := 0) cpd.nil (zz_n (by omega))) (zz_n (by omega))) (zz_n (by omega))) (fun a b => ?_)
  constructor
  · rintro (((h | h) | h) | h)
    all_goals omega
  · intro h
    have h1 : b = 0 ∨ b = 1 ∨ b = 2 := by omega
    rcases h1 with h1 | h1 | h1
    · exact Or.inl (Or.inl (Or.inr ⟨h.1, h1⟩))
    · exact Or.inl (Or.inr ⟨h.1, h1⟩)
    · exact Or.inr ⟨h.1, h1⟩
theorem cp3 {σ : St} : cpd (fun a b => (6 ≤ a ∧ a < 9 ∧ b < 20) ∨ (a = 5 ∧ 3 ≤ b ∧ b < 5)) σ (f_X3_copyFrom σ) := by
  unfold f_X3_copyFrom
  have h1 := cpd.row (σ := σ) (k := 6) (n := 20) cpd.nil (fun a b h => by omega) (by decide)
  have h2 := cpd.row (k := 7) (n := 20) h1 (fun a b h => by omega) (by decide)
  have h3 := cpd.row (k := 8) (n := 20) h2 (fun a b h => by omega) (by decide)
  have p3 : ∀ a b, (((a < 0 ∨ a = 6 ∧ b < 20) ∨ a = 7 ∧ b < 20) ∨ a = 8 ∧ b < 20) → a < 57 := by intro a b h; omega
  have h4 := cpd.up (k := 5) (j := 3) h3 (v := cpy (cpy (cpy σ 63 6 20) 64 7 20) 65 8 20 62 3) ((h3.src p3 (by decide)).trans (zz_n (by omega)))
  have h5 := cpd.up (k := 5) (j := 4) h4 (v := cpy (cpy (cpy σ 63 6 20) 64 7 20) 65 8 20 62 4) ((h3.src p3 (by decide)).trans (zz_n (by omega)))
  exact h5.congr (fun a b => by omega)
theorem cp7l {i : Nat} : ∀ n k t, k ≤ 2 → 2 < k + n → cpd (fun a b => 33 + 2 * i + k ≤ a ∧ a < 33 + 2 * i + 2 ∧ b < 3) t (f_X7_copyFrom_l154 i n k t)
  | 0, k, t, hk, hn => absurd hn (by omega)
  | n + 1, k, t, hk, hn => by
    by_cases c : 2 ≤ nI k
    · have e : f_X7_copyFrom_l154 i (n + 1) k t = t := if_pos c
      rw [show (2 : Int32) = nI 2 from rfl, i32_le, nI_toInt (by omega), nI_toInt (by omega)] at c
      rw [e]
      exact cpd.nil.congr (fun a b => by omega)
    · have hk1 := kb_ge c (B := 2) (by decide) hk (by decide)
      have e := show f_X7_copyFrom_l154 i (n + 1) k t = _ from if_neg c
      rw [e]
      by_cases hi : i < 12
      · exact (cp6.trans (cp7l n (k + 1) _ (by omega) (by omega)) (fun a b h => by omega)).congr (fun a b => by omega)
      · have h1 := cp6 (σ := t) (i := i) (j := k)
        have h2 := cp7l (i := i) n (k + 1) (f_X6_copyFrom t i k) (by omega) (by omega)
        intro a b
        by_cases c2 : 33 + 2 * i + (k + 1) ≤ a ∧ a < 33 + 2 * i + 2 ∧ b < 3
        · refine ⟨fun _ => ?_, fun q => absurd (by omega) q⟩
          rw [(h2 a b).1 c2, (h1 (57 + a) b).2 (by omega)]
        · have e2 : f_X7_copyFrom_l154 i n (k + 1) (f_X6_copyFrom t i k) a b = f_X6_copyFrom t i k a b := (h2 a b).2 c2
          refine ⟨fun q => ?_, fun q => ?_⟩
          · exact e2.trans ((h1 a b).1 (by omega))
          · exact e2.trans ((h1 a b).2 (by omega))
theorem cp7 {σ : St} {i : Nat} (hi : i < 12) : cpd (fun a b => (a = 9 + i ∧ b < 19) ∨ (33 + 2 * i ≤ a ∧ a < 33 + 2 * i + 2 ∧ b < 3)) σ (f_X7_copyFrom σ i) := by
  unfold f_X7_copyFrom
  have h := (cpd.up (k := 9 + i) (j := 18) (cpd.up (k := 9 + i) (j := 17) (cpd.up (k := 9 + i) (j := 16) (cpd.up (k := 9 + i) (j := 15) (cpd.up (k := 9 + i) (j := 14) (cpd.up (k := 9 + i) (j := 13) (cpd.up (k := 9 + i) (j := 12) (cpd.up (k := 9 + i) (j := 11) (cpd.up (k := 9 + i) (j := 10) (cpd.up (k := 9 + i) (j := 9) (cpd.up (k := 9 + i) (j := 8) (cpd.up (k := 9 + i) (j := 7) (cpd.up (k := 9 + i) (j := 6) (cpd.up (k := 9 + i) (j := 5) (cpd.up (k := 9 + i) (j := 4) (cpd.up (k := 9 + i) (j := 3) (cpd.up (k := 9 + i) (j := 2) (cpd.up (k := 9 + i) (j := 1) (cpd.up (k := 9 + i) (j := 0) (cpd.nil (σ := σ)) (zz_n (by omega))) (zz_n (by omega))) (zz_n (by omega))) (zz_y (by omega))) (zz_y (by omega))) (zz_y (by omega))) (zz_n (by omega))) (zz_n (by omega))) (zz_n (by omega))) (zz_n (by omega))) (zz_n (by omega))) (zz_n (by omega))) (zz_n (by omega))) (zz_n (by omega))) (zz_n (by omega))) (zz_n (by omega))) (zz_n (by omega))) (zz_n (by omega))) (zz_n (by omega)))
  refine (h.trans (cp7l (i := i) fu3 0 _ (by omega) (by unfold fu3; omega)) (fun a b q => ?_)).congr (fun a b => ?_)
  · omega
  · omega
theorem cp5l : ∀ n k t, k ≤ 12 → 12 < k + n → cpd (fun a b => (9 + k ≤ a ∧ a < 21 ∧ b < 19) ∨ (33 + 2 * k ≤ a ∧ a < 57 ∧ b < 3)) t (f_X5_copyFrom_l39 n k t)
  | 0, k, t, hk, hn => absurd hn (by omega)
  | n + 1, k, t, hk, hn => by
    by_cases c : 12 ≤ nI k
    · have e : f_X5_copyFrom_l39 (n + 1) k t = t := if_pos c
      rw [show (12 : Int32) = nI 12 from rfl, i32_le, nI_toInt (by omega), nI_toInt (by omega)] at c
      rw [e]
      exact cpd.nil.congr (fun a b => by omega)
    · have hk1 := kb_ge c (B := 12) (by decide) hk (by decide)
      have e := show f_X5_copyFrom_l39 (n + 1) k t = _ from if_neg c
      rw [e]
      exact ((cp7 hk1).trans (cp5l n (k + 1) _ (by omega) (by omega)) (fun a b h => by omega)).congr (fun a b => by omega)
/-- what of a Machine a copy hands over: all of its numbers -/
def cpM (a b : Nat) : Prop := (a = 0 ∧ (b = 0 ∨ b = 4 ∨ (6 ≤ b ∧ b < 10))) ∨ (a = 1 ∧ b < 4) ∨ (a = 2 ∧ b < 10) ∨ (a = 4 ∧ b < 12) ∨ (a = 5 ∧ 3 ≤ b ∧ b < 5) ∨ (6 ≤ a ∧ a < 9 ∧ b < 20) ∨ (9 ≤ a ∧ a < 21 ∧ b < 19) ∨ (33 ≤ a ∧ a < 57 ∧ b < 3)
theorem cp5 {σ : St} : cpd cpM σ (f_X5_copyFrom σ) := by
  unfold f_X5_copyFrom
  dsimp only
  have h1 := cpd.up (σ := σ) (k := 0) (j := 0) (v := σ 57 0) cpd.nil (zz_n (by omega))
  have h2 := cpd.row (k := 1) (n := 4) h1 (fun a b h => by omega) (by decide)
  have h3 := cpd.row (k := 2) (n := 10) h2 (fun a b h => by omega) (by decide)
  have h4 := h3.trans (cp5l fu13 0 _ (by omega) (by unfold fu13; omega)) (fun a b h => by omega)
  generalize hu : f_X5_copyFrom_l39 fu13 0 _ = u at h4 ⊢
  have h5 := cpd.up (k := 0) (j := 4) (v := u 57 4) h4 ((h4.src (fun a b h => by omega) (by decide)).trans (zz_n (by omega)))
  have h6 := cpd.row (k := 4) (n := 12) h5 (fun a b h => by omega) (by decide)
  have s6 : ∀ j, cpy (up2 u 0 4 (u 57 4)) 61 4 12 57 j = σ 57 j := fun j => h6.src (fun a b h => by omega) (by decide)
  have h7 := cpd.up (k := 0) (j := 6) h6 ((s6 6).trans (zz_n (by omega)))
  have h8 := cpd.up (k := 0) (j := 7) h7 ((s6 7).trans (zz_n (by omega)))
  have h9 := cpd.up (k := 0) (j := 8) h8 ((s6 8).trans (zz_n (by omega)))
  have h10 := cpd.up (k := 0) (j := 9) h9 ((s6 9).trans (zz_n (by omega)))
  have h11 := h10.trans cp3 (fun a b h => by omega)
  exact h11.congr (fun a b => by unfold cpM; omega)

