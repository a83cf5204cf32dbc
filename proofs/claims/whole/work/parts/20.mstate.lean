def fu25 : Nat := 25
def fu60 : Nat := 60
/-- where the row of a source begins in the reference's row -/
def ix (x : Int32) : Nat := 93 + 24 * x.toNatClampNeg
theorem nI_rng {k n : Nat} (h : k < n) (hn : n < 2 ^ 31) : 0 ≤ (nI k).toInt ∧ (nI k).toInt < n := by
  rw [nI_toInt (by omega)]
  omega
theorem nI_dec {k : Nat} (h : 1 ≤ k) : nI k + Int32.ofInt (-1) = nI (k - 1) := by
  obtain ⟨j, rfl⟩ : ∃ j, k = j + 1 := ⟨k - 1, by omega⟩
  exact pk_m1 j
theorem add_ix {a b : Nat} (h : a + b < 2 ^ 31) : (nI a + nI b).toNatClampNeg = a + b := by
  rw [nI_add, nI_clamp h]
theorem add_vp {a b n : Nat} (h : a + b < n) (hn : n < 2 ^ 31) : vp_in (nI a + nI b) n := by
  rw [nI_add]
  exact vp_in_nI h hn
theorem of_nI {x : Int32} {n : Nat} (h : 0 ≤ x.toInt ∧ x.toInt < n) (hn : n < 2 ^ 31) : ∃ k, k < n ∧ x = nI k := vp_in_of (vp_in_iff.mpr h) hn
theorem at_eq {x r : Int32} (er : 93 + 24 * x = r) (h : 0 ≤ x.toInt ∧ x.toInt < 12) {w : Nat} (hw : w < 288) : r + nI w = nI (ix x + w) := by
  subst er
  obtain ⟨k, hk, rfl⟩ := of_nI (n := 12) h (by decide)
  rw [show (93 : Int32) = nI 93 from rfl, show (24 : Int32) = nI 24 from rfl, pk_mul, nI_add, nI_add, ix, nI_clamp (by omega)]
theorem ix_lt {x : Int32} (h : 0 ≤ x.toInt ∧ x.toInt < 12) : ix x ≤ 357 := by
  have := tnc h.1
  unfold ix
  omega
theorem at_ix {x r : Int32} (er : 93 + 24 * x = r) (h : 0 ≤ x.toInt ∧ x.toInt < 12) {w : Nat} (hw : w < 24) : (r + nI w).toNatClampNeg = ix x + w := by
  rw [at_eq er h (by omega), nI_clamp (by have := ix_lt h; omega)]
theorem at_vp {x r : Int32} (er : 93 + 24 * x = r) (h : 0 ≤ x.toInt ∧ x.toInt < 12) {w : Nat} (hw : w < 24) : vp_in (r + nI w) 381 := by
  rw [at_eq er h (by omega)]
  exact vp_in_nI (by have := ix_lt h; omega) (by decide)
theorem of_ix {x y r : Int32} (er : 93 + 24 * x = r) (h : 0 ≤ x.toInt ∧ x.toInt < 12) (hy : 0 ≤ y.toInt ∧ y.toInt < 24) : (r + y).toNatClampNeg = ix x + y.toNatClampNeg := by
  obtain ⟨w, hw, rfl⟩ := of_nI (n := 24) hy (by decide)
  rw [at_ix er h hw, nI_clamp (by omega)]
theorem of_vp {x y r : Int32} (er : 93 + 24 * x = r) (h : 0 ≤ x.toInt ∧ x.toInt < 12) (hy : 0 ≤ y.toInt ∧ y.toInt < 24) : vp_in (r + y) 381 := by
  obtain ⟨w, hw, rfl⟩ := of_nI (n := 24) hy (by decide)
  exact at_vp er h hw
/-- a row of the reference: what indexes is in range, who stands on the stack stands there once -/
def InvR (ρ : Nat → Int32) : Prop := (0 ≤ (ρ 8).toInt ∧ (ρ 8).toInt ≤ 12) ∧ (0 ≤ (ρ 9).toInt ∧ (ρ 9).toInt ≤ 12) ∧ (0 ≤ (ρ 22).toInt ∧ (ρ 22).toInt ≤ 20) ∧
  (∀ k : Nat, (k : Int) < (ρ 9).toInt → 0 ≤ (ρ (10 + k)).toInt ∧ (ρ (10 + k)).toInt < (ρ 8).toInt) ∧
  (∀ j k : Nat, j < k → (k : Int) < (ρ 9).toInt → ρ (10 + j) ≠ ρ (10 + k)) ∧
  ((ρ 5 = 1 ∨ ρ 5 = 3) → (0 ≤ (ρ 6).toInt ∧ (ρ 6).toInt < (ρ 8).toInt) ∧ ∀ k : Nat, (k : Int) < (ρ 9).toInt → ρ (10 + k) ≠ ρ 6) ∧
  ∀ s : Nat, s < 12 → 0 ≤ (ρ (100 + 24 * s)).toInt ∧ (ρ (100 + 24 * s)).toInt ≤ 2
abbrev crR (j : Nat) : Prop := j = 5 ∨ j = 6 ∨ j = 8 ∨ j = 9 ∨ (10 ≤ j ∧ j < 23) ∨ (93 ≤ j ∧ j < 381 ∧ (j - 93) % 24 = 7)
theorem InvR.cong {ρ ρ' : Nat → Int32} (I : InvR ρ) (h : ∀ j, crR j → ρ' j = ρ j) : InvR ρ' := by
  obtain ⟨a, b, c, d, e, f, g⟩ := I
  have h5 := h 5 (by decide)
  have h6 := h 6 (by decide)
  have h8 := h 8 (by decide)
  have h9 := h 9 (by decide)
  have h22 := h 22 (by decide)
  have hk : ∀ k : Nat, (k : Int) < (ρ 9).toInt → ρ' (10 + k) = ρ (10 + k) := fun k hk => h _ (by have := b.2; unfold crR; omega)
  refine ⟨by rw [h8]; exact a, by rw [h9]; exact b, by rw [h22]; exact c, fun k hk1 => ?_, fun j k hj hk1 => ?_, fun h1 => ?_, fun s hs => ?_⟩
  · rw [h9] at hk1; rw [hk k hk1, h8]; exact d k hk1
  · rw [h9] at hk1; rw [hk k hk1, hk j (by omega)]; exact e j k hj hk1
  · rw [h5] at h1
    obtain ⟨q1, q2⟩ := f h1
    refine ⟨by rw [h6, h8]; exact q1, fun k hk1 => ?_⟩
    rw [h9] at hk1
    rw [hk k hk1, h6]
    exact q2 k hk1
  · rw [h (100 + 24 * s) (by unfold crR; omega)]
    exact g s hs
/-- the reference: its row, the row aside, the four rows saved, and what else indexes -/
def InvD (σ : St) : Prop := InvR (σ 1) ∧ InvR (σ 3) ∧ (∀ q : Nat, q < 4 → InvR (fun k => σ 2 (381 * q + k))) ∧ (0 ≤ (σ 0 3).toInt ∧ (σ 0 3).toInt ≤ 4) ∧ (0 ≤ (σ 0 6).toInt ∧ (σ 0 6).toInt ≤ 150) ∧ (0 ≤ (σ 0 8).toInt ∧ (σ 0 8).toInt ≤ 150)
abbrev InvDcr (k j : Nat) : Prop := (k = 1 ∧ ¬ crR j) ∨ (k = 0 ∧ j ≠ 3 ∧ j ≠ 6 ∧ j ≠ 8) ∨ k = 4 ∨ k = 5
theorem InvD.up {σ : St} {k j : Nat} {v : Int32} (I : InvD σ) (h : InvDcr k j) : InvD (up2 σ k j v) := by
  obtain ⟨a, b, c, d, e, f⟩ := I
  have q : ∀ x y, ¬ (x = k ∧ y = j) → up2 σ k j v x y = σ x y := fun x y h1 => if_neg h1
  refine ⟨a.cong fun y hy => q 1 y (by unfold InvDcr at h; rintro ⟨rfl, rfl⟩; omega), b.cong fun y hy => q 3 y (by unfold InvDcr at h; rintro ⟨rfl, rfl⟩; omega), fun x hx => (c x hx).cong fun y hy => q 2 _ (by unfold InvDcr at h; rintro ⟨rfl, rfl⟩; omega), ?_, ?_, ?_⟩
  · rw [q 0 3 (by unfold InvDcr at h; omega)]; exact d
  · rw [q 0 6 (by unfold InvDcr at h; omega)]; exact e
  · rw [q 0 8 (by unfold InvDcr at h; omega)]; exact f
/-- a change of the row alone -/
theorem InvD.row {σ τ : St} (I : InvD σ) (h0 : τ 0 = σ 0) (h2 : τ 2 = σ 2) (h3 : τ 3 = σ 3) (h : InvR (τ 1)) : InvD τ := by
  obtain ⟨a, b, c, d, e, f⟩ := I
  exact ⟨h, by rw [h3]; exact b, fun q hq => by rw [h2]; exact c q hq, by rw [h0]; exact d, by rw [h0]; exact e, by rw [h0]; exact f⟩
theorem InvD.up1 {σ : St} {j : Nat} {v : Int32} (I : InvD σ) (h : InvR (upd (σ 1) j v)) : InvD (up2 σ 1 j v) :=
  I.row (up2_rowk (by decide)) (up2_rowk (by decide)) (up2_rowk (by decide)) (by rw [up2_row]; exact h)
theorem InvD.up0 {σ : St} {j : Nat} {v : Int32} (I : InvD σ) (h : (j = 3 → 0 ≤ v.toInt ∧ v.toInt ≤ 4) ∧ (j = 6 → 0 ≤ v.toInt ∧ v.toInt ≤ 150) ∧ (j = 8 → 0 ≤ v.toInt ∧ v.toInt ≤ 150)) : InvD (up2 σ 0 j v) := by
  obtain ⟨a, b, c, d, e, f⟩ := I
  refine ⟨by rw [up2_rowk (by decide)]; exact a, by rw [up2_rowk (by decide)]; exact b, fun q hq => by rw [up2_rowk (by decide)]; exact c q hq, ?_, ?_, ?_⟩
  · by_cases hj : 3 = j
    · subst hj; rw [up2_s]; exact h.1 rfl
    · rw [up2_j hj]; exact d
  · by_cases hj : 6 = j
    · subst hj; rw [up2_s]; exact h.2.1 rfl
    · rw [up2_j hj]; exact e
  · by_cases hj : 8 = j
    · subst hj; rw [up2_s]; exact h.2.2 rfl
    · rw [up2_j hj]; exact f
theorem upd_s {f : Nat → Int32} {j : Nat} {v : Int32} : upd f j v j = v := pk_us
theorem upd_n {f : Nat → Int32} {j k : Nat} {v : Int32} (h : k ≠ j) : upd f j v k = f k := pk_un h
theorem InvR.sec {ρ : Nat → Int32} {x v : Int32} (I : InvR ρ) (h : 0 ≤ v.toInt ∧ v.toInt ≤ 2) : InvR (upd ρ (ix x + 7) v) := by
  obtain ⟨a, b, c, d, e, f, g⟩ := I
  have q : ∀ y, y < 93 → upd ρ (ix x + 7) v y = ρ y := fun y hy => upd_n (by unfold ix; omega)
  have hb := b.2
  refine ⟨by rw [q 8 (by decide)]; exact a, by rw [q 9 (by decide)]; exact b, by rw [q 22 (by decide)]; exact c, fun k hk1 => ?_, fun j k hj hk1 => ?_, fun h1 => ?_, fun s hs => ?_⟩
  · rw [q 9 (by decide)] at hk1; rw [q (10 + k) (by omega), q 8 (by decide)]; exact d k hk1
  · rw [q 9 (by decide)] at hk1; rw [q (10 + k) (by omega), q (10 + j) (by omega)]; exact e j k hj hk1
  · rw [q 5 (by decide)] at h1
    obtain ⟨q1, q2⟩ := f h1
    refine ⟨by rw [q 6 (by decide), q 8 (by decide)]; exact q1, fun k hk1 => ?_⟩
    rw [q 9 (by decide)] at hk1
    rw [q (10 + k) (by omega), q 6 (by decide)]
    exact q2 k hk1
  · by_cases hx : 100 + 24 * s = ix x + 7
    · rw [hx, upd_s]; exact h
    · rw [upd_n hx]; exact g s hs
theorem InvD.sec {σ : St} {x v : Int32} (h : 0 ≤ v.toInt ∧ v.toInt ≤ 2) (I : InvD σ) : InvD (up2 σ 1 (ix x + 7) v) := I.up1 (I.1.sec h)
/-- who is entered isn't on the stack -/
def eOK (σ : St) (x : Int32) : Prop := (0 ≤ x.toInt ∧ x.toInt < (σ 1 8).toInt) ∧ ∀ k : Nat, (k : Int) < (σ 1 9).toInt → σ 1 (10 + k) ≠ x
theorem InvD.ent {σ : St} (I : InvD σ) (h : σ 1 5 = 1 ∨ σ 1 5 = 3) : eOK σ (σ 1 6) := I.1.2.2.2.2.2.1 h
theorem fb_holes : ∀ (m n : Nat) (f : Nat → Nat), (∀ i, i < n → f i < m) → (∀ i j, i < j → j < n → f i ≠ f j) → n ≤ m
  | 0, n, f, h, _ => by
    rcases Nat.eq_zero_or_pos n with q | q
    · omega
    · exact absurd (h 0 q) (by omega)
  | m + 1, n, f, h, h2 => by
    by_cases hx : ∃ i, i < n ∧ f i = m
    · obtain ⟨i, hi, hm⟩ := hx
      obtain ⟨n', rfl⟩ : ∃ n', n = n' + 1 := ⟨n - 1, by omega⟩
      have := fb_holes m n' (fun k => if k < i then f k else f (k + 1)) (fun k hk => by
        by_cases hki : k < i
        · simp only [if_pos hki]
          have h3 := h k (by omega)
          have h4 := h2 k i hki hi
          omega
        · simp only [if_neg hki]
          have h3 := h (k + 1) (by omega)
          have h4 := h2 i (k + 1) (by omega) (by omega)
          omega) (fun a b hab hb => by
        by_cases h1 : a < i
        · by_cases h3 : b < i
          · simp only [if_pos h1, if_pos h3]; exact h2 a b hab (by omega)
          · simp only [if_pos h1, if_neg h3]; exact h2 a (b + 1) (by omega) (by omega)
        · simp only [if_neg h1, if_neg (show ¬ b < i by omega)]; exact h2 (a + 1) (b + 1) (by omega) (by omega))
      omega
    · have := fb_holes m n f (fun i hi => by
        have h3 := h i hi
        have h4 : f i ≠ m := fun q => hx ⟨i, hi, q⟩
        omega) h2
      omega
/-- there is room on the stack for who isn't there -/
theorem eOK.room {σ : St} {x : Int32} (I : InvD σ) (h : eOK σ x) : (σ 1 9).toInt < (σ 1 8).toInt := by
  obtain ⟨a, b, c, d, e, f, g⟩ := I.1
  have key := fb_holes (σ 1 8).toInt.toNat ((σ 1 9).toInt.toNat + 1) (fun k => if k < (σ 1 9).toInt.toNat then (σ 1 (10 + k)).toInt.toNat else x.toInt.toNat) (fun k hk => by
    by_cases h1 : k < (σ 1 9).toInt.toNat
    · simp only [if_pos h1]
      have := d k (by omega)
      omega
    · simp only [if_neg h1]
      have := h.1
      omega) (fun j k hjk hk => by
    by_cases h1 : k < (σ 1 9).toInt.toNat
    · simp only [if_pos h1, if_pos (show j < (σ 1 9).toInt.toNat by omega)]
      intro q
      have h3 := d k (by omega)
      have h4 := d j (by omega)
      exact e j k hjk (by omega) (Int32.toInt_inj.mp (by omega))
    · simp only [if_neg h1, if_pos (show j < (σ 1 9).toInt.toNat by omega)]
      intro q
      have h4 := d j (by omega)
      have h5 := h.1
      exact h.2 j (by omega) (Int32.toInt_inj.mp (by omega)))
  have := h.1
  omega
theorem eOK.rng {σ : St} {x : Int32} (I : InvD σ) (h : eOK σ x) : 0 ≤ x.toInt ∧ x.toInt < 12 := by
  have := h.1
  have := I.1.1
  omega
/-- what is set of the change keeps the row in order -/
theorem InvR.change {ρ : Nat → Int32} {a b c : Int32} (I : InvR ρ) (h : (a = 1 ∨ a = 3) → (0 ≤ b.toInt ∧ b.toInt < (ρ 8).toInt) ∧ ∀ k : Nat, (k : Int) < (ρ 9).toInt → ρ (10 + k) ≠ b) : InvR (upd (upd (upd ρ 5 a) 6 b) 7 c) := by
  obtain ⟨q1, q2, q3, q4, q5, q6, q7⟩ := I
  have q : ∀ y, y ≠ 5 → y ≠ 6 → y ≠ 7 → upd (upd (upd ρ 5 a) 6 b) 7 c y = ρ y := fun y h5 h6 h7 => by rw [upd_n h7, upd_n h6, upd_n h5]
  have e5 : upd (upd (upd ρ 5 a) 6 b) 7 c 5 = a := by rw [upd_n (by decide), upd_n (by decide), upd_s]
  have e6 : upd (upd (upd ρ 5 a) 6 b) 7 c 6 = b := by rw [upd_n (by decide), upd_s]
  refine ⟨?_, ?_, ?_, fun k hk => ?_, fun j k hj hk => ?_, fun h1 => ?_, fun s hs => ?_⟩
  · rw [q 8 (by decide) (by decide) (by decide)]; exact q1
  · rw [q 9 (by decide) (by decide) (by decide)]; exact q2
  · rw [q 22 (by decide) (by decide) (by decide)]; exact q3
  · rw [q 9 (by decide) (by decide) (by decide)] at hk
    rw [q (10 + k) (by omega) (by omega) (by omega), q 8 (by decide) (by decide) (by decide)]; exact q4 k hk
  · rw [q 9 (by decide) (by decide) (by decide)] at hk
    rw [q (10 + k) (by omega) (by omega) (by omega), q (10 + j) (by omega) (by omega) (by omega)]; exact q5 j k hj hk
  · rw [e5] at h1
    rw [e6, q 8 (by decide) (by decide) (by decide), q 9 (by decide) (by decide) (by decide)]
    exact ⟨(h h1).1, fun k hk => by rw [q (10 + k) (by omega) (by omega) (by omega)]; exact (h h1).2 k hk⟩
  · rw [q (100 + 24 * s) (by omega) (by omega) (by omega)]; exact q7 s hs
/-- one more on the stack, while nobody is entered -/
theorem InvR.push {ρ : Nat → Int32} {w x : Int32} (I : InvR ρ) (hx : ρ 9 = x) (h5 : ρ 5 = 0) (hw : 0 ≤ w.toInt ∧ w.toInt < (ρ 8).toInt) (hn : ∀ k : Nat, (k : Int) < (ρ 9).toInt → ρ (10 + k) ≠ w) (hH : (ρ 9).toInt < 12) : InvR (upd (upd ρ (10 + x.toNatClampNeg) w) 9 (x + 1)) := by
  subst hx
  obtain ⟨q1, q2, q3, q4, q5, q6, q7⟩ := I
  have ht := tnc q2.1
  have hin := inc_to (x := ρ 9) (b := 12) (B := 12) q2.1 (by rw [i32_le]; show ¬ (12 : Int) ≤ _; omega) (by decide) (by decide)
  have hs : (ρ 9 + 1).toInt = (ρ 9).toInt + 1 := by
    obtain ⟨k, hk, e⟩ := of_nI (n := 12) ⟨q2.1, hH⟩ (by decide)
    rw [e, nI_1, nI_toInt (by omega), nI_toInt (by omega)]
    omega
  have q : ∀ y, y ≠ 9 → y ≠ 10 + (ρ 9).toNatClampNeg → upd (upd ρ (10 + (ρ 9).toNatClampNeg) w) 9 (ρ 9 + 1) y = ρ y := fun y h9 h10 => by rw [upd_n h9, upd_n h10]
  have e9 : upd (upd ρ (10 + (ρ 9).toNatClampNeg) w) 9 (ρ 9 + 1) 9 = ρ 9 + 1 := upd_s
  have eH : upd (upd ρ (10 + (ρ 9).toNatClampNeg) w) 9 (ρ 9 + 1) (10 + (ρ 9).toNatClampNeg) = w := by rw [upd_n (by omega), upd_s]
  refine ⟨?_, ?_, ?_, fun k hk => ?_, fun j k hj hk => ?_, fun h1 => ?_, fun s hs2 => ?_⟩
  · rw [q 8 (by decide) (by omega)]; exact q1
  · rw [e9, hs]; omega
  · rw [q 22 (by decide) (by omega)]; exact q3
  · rw [e9, hs] at hk
    rw [q 8 (by decide) (by omega)]
    by_cases hkk : k = (ρ 9).toNatClampNeg
    · subst hkk; rw [eH]; exact hw
    · rw [q (10 + k) (by omega) (by omega)]; exact q4 k (by omega)
  · rw [e9, hs] at hk
    rw [q (10 + j) (by omega) (by omega)]
    by_cases hkk : k = (ρ 9).toNatClampNeg
    · subst hkk; rw [eH]; exact hn j (by omega)
    · rw [q (10 + k) (by omega) (by omega)]; exact q5 j k hj (by omega)
  · rw [q 5 (by decide) (by omega), h5] at h1
    rcases h1 with h1 | h1 <;> exact absurd h1 (by decide)
  · rw [q (100 + 24 * s) (by omega) (by omega)]; exact q7 s hs2
theorem InvR.pop {ρ : Nat → Int32} {x : Int32} (I : InvR ρ) (hx : ρ 9 = x) (h0 : ¬ x = 0) : InvR (upd ρ 9 (x - 1)) := by
  subst hx
  obtain ⟨q1, q2, q3, q4, q5, q6, q7⟩ := I
  have hs : (ρ 9 - 1).toInt = (ρ 9).toInt - 1 := by
    obtain ⟨k, hk, e⟩ := of_nI (n := 13) ⟨q2.1, by omega⟩ (by decide)
    rw [e] at h0 ⊢
    have key : ∀ k, k < 13 → ¬ nI k = 0 → (nI k - 1).toInt = (nI k).toInt - 1 := by decide +kernel
    exact key k hk h0
  have h1 : (ρ 9).toInt ≠ 0 := fun e => h0 (Int32.toInt_inj.mp e)
  have q : ∀ y, y ≠ 9 → upd ρ 9 (ρ 9 - 1) y = ρ y := fun y h9 => upd_n h9
  refine ⟨?_, ?_, ?_, fun k hk => ?_, fun j k hj hk => ?_, fun h1 => ?_, fun s hs2 => ?_⟩
  · rw [q 8 (by decide)]; exact q1
  · rw [upd_s, hs]; omega
  · rw [q 22 (by decide)]; exact q3
  · rw [upd_s, hs] at hk
    rw [q 8 (by decide), q (10 + k) (by omega)]; exact q4 k (by omega)
  · rw [upd_s, hs] at hk
    rw [q (10 + j) (by omega), q (10 + k) (by omega)]; exact q5 j k hj (by omega)
  · rw [q 5 (by decide)] at h1
    obtain ⟨r1, r2⟩ := q6 h1
    refine ⟨by rw [q 6 (by decide), q 8 (by decide)]; exact r1, fun k hk => ?_⟩
    rw [upd_s, hs] at hk
    rw [q (10 + k) (by omega), q 6 (by decide)]; exact r2 k (by omega)
  · rw [q (100 + 24 * s) (by omega)]; exact q7 s hs2
