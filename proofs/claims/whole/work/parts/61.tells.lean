section Tells
variable {τ : Int} {N d q : Nat} {μ σ : St}
theorem fld (h : RM τ N d q μ (σ 1)) {i w b : Nat} (hi : i < N) (hw : w < 24 ∧ ¬ (8 ≤ w ∧ w < 14)) (h6 : w ≠ 6) (hb : fw w = b) (hz : ¬ (3 ≤ b ∧ b < 6)) : μ (9 + i) b = f_X9_of σ (nI i) (nI w) := ((of1 h hi hw.1).trans (h.f hi hw h6 hb hz)).symm
theorem zb_ite (x : Int32) : (if zb x = 0 then (0 : Int32) else 1) = zb x := by rcases zb_two x with z | z <;> rw [z] <;> rfl
theorem waits_eq (h : RM τ N d q μ (σ 1)) {i : Nat} (hi : i < N) : f_X5_whyWaits μ (nI i) i = f_X9_waits σ (nI i) := by
  unfold f_X5_whyWaits f_X9_waits
  dsimp only
  rw [pend_eq h hi, ena_eq h hi, prio_eq h hi, ceil_eq h, run_eq h, cand_eq h, h.c5, show σ 1 1 = μ 1 0 from h.set (k := 0) (by decide)]
theorem tell_src (h : RM τ N d q μ (σ 1)) {i k : Nat} (hi : i < N) (hk : k < 17) : f_X5_sourceValue μ (nI i) (nI k) = f_X9_tellSource σ (nI i) (nI k) := by
  have e : f_X5_sourceValue μ (nI i) (nI k) = oc (some i) (-1) (fun i2 => (if nI k = 0 then μ (9 + i2) 0 else (if nI k = 1 then μ (9 + i2) 1 else (if nI k = 2 then μ (9 + i2) 2 else (if nI k = 3 then (if (zb (μ (9 + i2) 3)) = 0 then 0 else 1) else (if nI k = 4 then (if f_X7_isPending μ i2 = 0 then 0 else 1) else (if nI k = 5 then (if (zb (μ (9 + i2) 5)) = 0 then 0 else 1) else (if nI k = 6 then μ (9 + i2) 7 else (if nI k = 7 then μ (9 + i2) 8 else (if nI k = 15 then (if μ (9 + i2) 17 ≤ 0 then -1 else μ (9 + i2) 16 - μ 0 0) else (if nI k = 16 then f_X5_whyWaits μ (nI i) i2 else f_X5_tallyOf μ i2 (nI k)))))))))))) := by
    unfold f_X5_sourceValue
    rw [find_some h hi]
    have hk2 : k = 0 ∨ k = 1 ∨ k = 2 ∨ k = 3 ∨ k = 4 ∨ k = 5 ∨ k = 6 ∨ k = 7 ∨ k = 8 ∨ k = 9 ∨ k = 10 ∨ k = 11 ∨ k = 12 ∨ k = 13 ∨ k = 14 ∨ k = 15 ∨ k = 16 := by omega
    rcases hk2 with rfl | rfl | rfl | rfl | rfl | rfl | rfl | rfl | rfl | rfl | rfl | rfl | rfl | rfl | rfl | rfl | rfl <;> rfl
  rw [e]
  clear e
  have e7 : ∀ k, 7 ≤ k → k < 15 → (16 : Int32) + nI k - 7 = nI (k + 9) := by
    intro k h1 h2
    rw [show (16 : Int32) = nI 16 from rfl, show (7 : Int32) = nI 7 from rfl, nI_add, pk_sub (by omega), show 16 + k - 7 = k + 9 by omega]
  have hk2 : k = 0 ∨ k = 1 ∨ k = 2 ∨ k = 3 ∨ k = 4 ∨ k = 5 ∨ k = 6 ∨ k = 7 ∨ k = 8 ∨ k = 9 ∨ k = 10 ∨ k = 11 ∨ k = 12 ∨ k = 13 ∨ k = 14 ∨ k = 15 ∨ k = 16 := by omega
  rcases hk2 with rfl | rfl | rfl | rfl | rfl | rfl | rfl | rfl | rfl | rfl | rfl | rfl | rfl | rfl | rfl | rfl | rfl
  · exact fld h hi (w := 0) (by decide) (by decide) rfl (by decide)
  · exact fld h hi (w := 1) (by decide) (by decide) rfl (by decide)
  · exact fld h hi (w := 2) (by decide) (by decide) rfl (by decide)
  · show (if zb (μ (9 + i) 3) = 0 then (0 : Int32) else 1) = f_X9_of σ (nI i) (nI 3)
    rw [zb_ite]; exact (ena_eq h hi).symm
  · show (if f_X7_isPending μ i = 0 then (0 : Int32) else 1) = (if f_X9_isPending σ (nI i) = 0 then 0 else 1)
    rw [pend_eq h hi]
  · show (if zb (μ (9 + i) 5) = 0 then (0 : Int32) else 1) = f_X9_of σ (nI i) (nI 5)
    rw [zb_ite]
    exact ((of1 h hi (w := 5) (by decide)).trans (h.b hi (by decide) (by decide) rfl (by decide))).symm
  · exact (place_eq h hi).symm
  · show μ (9 + i) 8 = f_X9_of σ (nI i) (16 + nI 7 - 7)
    rw [e7 7 (by decide) (by decide)]
    exact fld h hi (w := 16) (by decide) (by decide) rfl (by decide)
  · show μ (9 + i) 9 = f_X9_of σ (nI i) (16 + nI 8 - 7)
    rw [e7 8 (by decide) (by decide)]
    exact fld h hi (w := 17) (by decide) (by decide) rfl (by decide)
  · show μ (9 + i) 10 = f_X9_of σ (nI i) (16 + nI 9 - 7)
    rw [e7 9 (by decide) (by decide)]
    exact fld h hi (w := 18) (by decide) (by decide) rfl (by decide)
  · show μ (9 + i) 11 = f_X9_of σ (nI i) (16 + nI 10 - 7)
    rw [e7 10 (by decide) (by decide)]
    exact fld h hi (w := 19) (by decide) (by decide) rfl (by decide)
  · show μ (9 + i) 12 = f_X9_of σ (nI i) (16 + nI 11 - 7)
    rw [e7 11 (by decide) (by decide)]
    exact fld h hi (w := 20) (by decide) (by decide) rfl (by decide)
  · show μ (9 + i) 13 = f_X9_of σ (nI i) (16 + nI 12 - 7)
    rw [e7 12 (by decide) (by decide)]
    exact fld h hi (w := 21) (by decide) (by decide) rfl (by decide)
  · show μ (9 + i) 14 = f_X9_of σ (nI i) (16 + nI 13 - 7)
    rw [e7 13 (by decide) (by decide)]
    exact fld h hi (w := 22) (by decide) (by decide) rfl (by decide)
  · show μ (9 + i) 15 = f_X9_of σ (nI i) (16 + nI 14 - 7)
    rw [e7 14 (by decide) (by decide)]
    exact fld h hi (w := 23) (by decide) (by decide) rfl (by decide)
  · show (if μ (9 + i) 17 ≤ 0 then (-1 : Int32) else μ (9 + i) 16 - μ 0 0) = (if f_X9_of σ (nI i) (nI 15) = 0 then -1 else f_X9_of σ (nI i) (nI 14) - σ 1 0)
    rw [← fld h hi (w := 15) (b := 17) (by decide) (by decide) rfl (by decide), ← fld h hi (w := 14) (b := 16) (by decide) (by decide) rfl (by decide), h.t]
    have hp0 := (h.rv.2 i hi).2.2.2.1
    rw [h.f hi (w := 15) (b := 17) (by decide) (by decide) rfl (by decide)] at hp0
    by_cases c : μ (9 + i) 17 = 0
    · rw [if_pos c, if_pos (by rw [c]; decide)]
    · rw [if_neg c, if_neg]
      intro hc
      rw [i32_le] at hc
      exact c (Int32.toInt_inj.mp (by have : (0 : Int32).toInt = 0 := rfl; omega))
  · exact waits_eq h hi
theorem tell_proc (h : RM τ N d q μ (σ 1)) {k : Nat} (hk : k < 12) : f_X5_processorValue μ (nI k) = f_X9_tellProcessor σ (nI k) := by
  have hk2 : k = 0 ∨ k = 1 ∨ k = 2 ∨ k = 3 ∨ k = 4 ∨ k = 5 ∨ k = 6 ∨ k = 7 ∨ k = 8 ∨ k = 9 ∨ k = 10 ∨ k = 11 := by omega
  rcases hk2 with rfl | rfl | rfl | rfl | rfl | rfl | rfl | rfl | rfl | rfl | rfl | rfl
  · exact h.t.symm
  · exact (h.set (k := 0) (by decide)).symm
  · exact (h.set (k := 1) (by decide)).symm
  · exact (h.set (k := 2) (by decide)).symm
  · exact (h.set (k := 3) (by decide)).symm
  · exact level_eq h
  · exact cand_eq h
  · exact h.md.trans h.2.1.2.1.symm
  · exact h.c5.symm
  · exact h.c6.symm
  · exact h.c7.symm
  · exact h.mN.trans h.2.1.1.symm
theorem tell_acc (h : RM τ N d q μ (σ 1)) {k : Nat} (hk : k < 10) : f_X5_accountValue μ (nI k) = σ 1 (83 + k) := by
  unfold f_X5_accountValue
  dsimp only
  rw [in_eq, nI_clamp (by omega)]
  rcases in_cases (nI k) 0 9 with e | ⟨e, -, -⟩
  · exfalso
    unfold f_X9_in at e
    rw [if_neg (nI_pos (by omega)), if_neg (by rw [show (9 : Int32) = nI 9 from rfl, nI_ltI (by decide) (by omega)]; omega)] at e
    exact absurd e (by decide)
  · rw [e, if_neg n10, h.acc hk]
theorem tell_log (h : RM τ N d q μ (σ 1)) {k w : Nat} (hk : k < 2 ^ 31) (hw : w < 3) : f_X3_value μ (nI k) (nI w) = if nI k < σ 1 22 then σ 1 (23 + 3 * k + w) else -1 := by
  obtain ⟨⟨e, he, h22⟩, hG⟩ := h.rl
  have hq := h.1.2.2
  unfold f_X3_value
  rw [if_neg (nI_pos hk), ← h.cnt, h22]
  by_cases c : nI k < nI e
  · rw [if_pos c, if_pos c]
    rw [nI_ltI hk (by omega)] at c
    have er : ((((μ 5 3) + 20) - 1) - nI k) - ((((μ 5 3) + 20) - 1) - nI k) / 20 * 20 = nI ((q + 19 - k) % 20) := by
      rw [h.2.1.2.2, show (20 : Int32) = nI 20 from rfl, nI_add, show (1 : Int32) = nI 1 from rfl, pk_sub (by omega), pk_sub (by omega), pk_rem (by omega) (by decide) (by decide), show q + 20 - 1 - k = q + 19 - k by omega]
    rw [er, nI_clamp (by omega)]
    obtain ⟨g1, g2, g3⟩ := hG k (by omega)
    have hw3 : w = 0 ∨ w = 1 ∨ w = 2 := by omega
    rcases hw3 with rfl | rfl | rfl
    · exact g1.symm
    · exact g2.symm
    · exact g3.symm
  · rw [if_neg c, if_neg c]
theorem tell_sec (h : RM τ N d q μ (σ 1)) {i n k w : Nat} (hi : i < N) (en : μ (9 + i) 18 = nI n) (hn : n ≤ 2) (hk : k < n) (hw : w < 4) : f_X5_sectionValue μ (nI i) (nI k) (nI w) = f_X9_tellSection σ (nI i) (nI k) (nI w) := by
  have e : f_X5_sectionValue μ (nI i) (nI k) (nI w) = (if nI w = 0 then μ (33 + 2 * i + k) 0 else (if nI w = 1 then μ (33 + 2 * i + k) 1 else (if nI w = 2 then μ (33 + 2 * i + k) 2 else (if f_X7_isStacked μ i = 0 then 0 else (if f_X6_holds μ i k (μ (9 + i) 8) = 0 then 0 else 1))))) := by
    unfold f_X5_sectionValue
    rw [find_some h hi]
    show (let r21 := f_X8_isWithin (nI k) 0 (μ (9 + i) 18 - 1); (if r21 = 0 then _ else _)) = _
    dsimp only
    rw [in_eq, en]
    have ein : f_X9_in (nI k) 0 (nI n - 1) = 1 := by
      unfold f_X9_in
      rw [if_neg (nI_pos (by omega)), if_neg (by rw [show (1 : Int32) = nI 1 from rfl, pk_sub (by omega), nI_ltI (by omega) (by omega)]; omega)]
    rw [ein, if_neg n10, nI_clamp (by omega)]
  rw [e]
  have hw4 : w = 0 ∨ w = 1 ∨ w = 2 ∨ w = 3 := by omega
  rcases hw4 with rfl | rfl | rfl | rfl
  · show μ (33 + 2 * i + k) 0 = f_X9_of σ (nI i) (8 + 3 * nI k + nI 0)
    exact (of_sec h hi (by omega) (by decide)).symm
  · show μ (33 + 2 * i + k) 1 = f_X9_of σ (nI i) (8 + 3 * nI k + nI 1)
    exact (of_sec h hi (by omega) (by decide)).symm
  · show μ (33 + 2 * i + k) 2 = f_X9_of σ (nI i) (8 + 3 * nI k + nI 2)
    exact (of_sec h hi (by omega) (by decide)).symm
  · show (if f_X7_isStacked μ i = 0 then (0 : Int32) else (if f_X6_holds μ i k (μ (9 + i) 8) = 0 then 0 else 1)) = (if f_X9_isInForce σ (nI i) (nI k) = 0 then 0 else 1)
    rw [force_eq h hi (by omega)]
    unfold f_X7_isStacked
    by_cases c : μ (9 + i) 7 = -1
    · rw [if_pos c, if_pos c]; rfl
    · rw [if_neg c, if_neg c, if_neg n10]
/-! blocking -/
theorem mn_eq (a b : Int32) : (if a < b then a else b) = (if a ≤ b then a else b) := by
  by_cases c : a < b
  · rw [if_pos c, if_pos (by rw [i32_lt] at c; rw [i32_le]; omega)]
  · rw [if_neg c]
    by_cases c2 : a ≤ b
    · rw [if_pos c2]
      rw [i32_lt] at c
      rw [i32_le] at c2
      exact Int32.toInt_inj.mp (by omega)
    · rw [if_neg c2]
theorem mx0 {a x : Int32} (ha : 0 ≤ a.toInt) : (if a < (if 0 < x then x else 0) then (if 0 < x then x else 0) else a) = f_X9_greater a x := by
  unfold f_X9_greater
  have h0 : (0 : Int32).toInt = 0 := rfl
  by_cases c : 0 < x
  · rw [if_pos c, mx_le]
  · rw [if_neg c, if_neg (by rw [i32_lt]; omega)]
    rw [i32_lt] at c
    by_cases c2 : a ≤ x
    · rw [if_pos c2]
      rw [i32_le] at c2
      exact Int32.toInt_inj.mp (by omega)
    · rw [if_neg c2]
theorem bl_in (h : RM τ N d q μ (σ 1)) {s z : Nat} (hs : s < N) (hz : z < N) : ∀ n k a, k + n < 100 → 0 ≤ a.toInt → f_X5_longestBlocking_l36 s z n k a μ = f_X9_blocking_l40 (nI s) z n k a σ ∧ 0 ≤ (f_X9_blocking_l40 (nI s) z n k a σ).toInt
  | 0, k, a, _, ha => ⟨rfl, ha⟩
  | n + 1, k, a, hkn, ha => by
    obtain ⟨c2, hc2, ec⟩ := cnt_le h hz
    have er := show f_X9_blocking_l40 (nI s) z (n + 1) k a σ = _ from rfl
    have e9 : f_X9_blocking_l40 (nI s) z (n + 1) k a σ = (if f_X9_of σ (nI z) 7 ≤ nI k then a else f_X9_blocking_l40 (nI s) z n (k + 1) (if (if f_X9_of σ (nI s) 0 ≤ f_X9_of σ (nI z) 0 then (0 : Int32) else (if f_X9_of σ (nI z) ((8 + (3 * (nI k))) + 2) < f_X9_of σ (nI s) 0 then 0 else 1)) = 0 then a else f_X9_greater a ((if f_X9_of σ (nI z) 2 ≤ (f_X9_of σ (nI z) (8 + (3 * (nI k))) + f_X9_of σ (nI z) ((8 + (3 * (nI k))) + 1)) then f_X9_of σ (nI z) 2 else f_X9_of σ (nI z) (8 + (3 * (nI k))) + f_X9_of σ (nI z) ((8 + (3 * (nI k))) + 1)) - f_X9_of σ (nI z) (8 + (3 * (nI k))))) σ) := rfl
    have ge0 : ∀ x : Int32, 0 ≤ (f_X9_greater a x).toInt := fun x => Int.le_trans ha gr_l.1
    rw [e9, cnt_eq h hz, prio_eq h hs, prio_eq h hz]
    clear er e9
    by_cases cp : μ (9 + s) 0 ≤ μ (9 + z) 0
    · have e5 : f_X5_longestBlocking_l36 s z (n + 1) k a μ = a := if_pos cp
      rw [e5, if_pos cp, if_pos (show (0 : Int32) = 0 from rfl)]
      by_cases c : μ (9 + z) 18 ≤ nI k
      · rw [if_pos c]; exact ⟨rfl, ha⟩
      · rw [if_neg c]
        have hr := bl_in h hs hz n (k + 1) a (by omega) ha
        have e5' : f_X5_longestBlocking_l36 s z n (k + 1) a μ = a := by
          cases n with
          | zero => rfl
          | succ n => exact if_pos cp
        rw [e5'] at hr
        exact hr
    · have e5 := show f_X5_longestBlocking_l36 s z (n + 1) k a μ = _ from if_neg cp
      rw [e5, if_neg cp]
      by_cases c : μ (9 + z) 18 ≤ nI k
      · rw [if_pos c, if_pos c]; exact ⟨rfl, ha⟩
      · rw [if_neg c, if_neg c]
        have hk : k < 2 := kb_ge2 c ec hc2 (by omega)
        have g2 : f_X9_of σ (nI z) ((8 + (3 * (nI k))) + 2) = μ (33 + 2 * z + k) 2 := of_sec h hz hk (b := 2) (by decide)
        have g1 : f_X9_of σ (nI z) ((8 + (3 * (nI k))) + 1) = μ (33 + 2 * z + k) 1 := of_sec h hz hk (b := 1) (by decide)
        have gl : f_X9_of σ (nI z) 2 = μ (9 + z) 2 := (fld h hz (w := 2) (by decide) (by decide) rfl (by decide)).symm
        rw [g2, g1, of_sec0 h hz hk, gl]
        dsimp only
        by_cases cc : μ (33 + 2 * z + k) 2 < μ (9 + s) 0
        · rw [if_pos cc, if_pos cc, if_pos (show (0 : Int32) = 0 from rfl)]
          exact bl_in h hs hz n (k + 1) a (by omega) ha
        · rw [if_neg cc, if_neg cc, if_neg n10]
          have et : (if a < f_X6_ticksWithin μ z k (μ (9 + z) 2) then f_X6_ticksWithin μ z k (μ (9 + z) 2) else a) = f_X9_greater a ((if μ (9 + z) 2 ≤ (μ (33 + 2 * z + k) 0 + μ (33 + 2 * z + k) 1) then μ (9 + z) 2 else μ (33 + 2 * z + k) 0 + μ (33 + 2 * z + k) 1) - μ (33 + 2 * z + k) 0) := by
            unfold f_X6_ticksWithin
            rw [mx0 ha, mn_eq]
          rw [et]
          exact bl_in h hs hz n (k + 1) _ (by omega) (ge0 _)
theorem bl_out (h : RM τ N d q μ (σ 1)) {s : Nat} (hs : s < N) : ∀ n k a, k + n < 100 → 0 ≤ a.toInt → f_X5_longestBlocking_l11 s n k a μ = f_X9_blocking_l26 (nI s) n k a σ
  | 0, k, a, _, _ => rfl
  | n + 1, k, a, hkn, ha => by
    have hN := h.N12
    by_cases c : σ 1 8 ≤ nI k
    · have e1 : f_X9_blocking_l26 (nI s) (n + 1) k a σ = a := if_pos c
      rw [e1]
      rw [h.2.1.1, ← h.mN] at c
      exact if_pos c
    · have e1 : f_X9_blocking_l26 (nI s) (n + 1) k a σ = f_X9_blocking_l26 (nI s) n (k + 1) (f_X9_blocking_l40 (nI s) k fu3 0 a σ) σ := if_neg c
      rw [e1]
      have hk : k < N := kd_ge c h.2.1.1 (by omega) (by omega)
      rw [h.2.1.1, ← h.mN] at c
      have e2 : f_X5_longestBlocking_l11 s (n + 1) k a μ = f_X5_longestBlocking_l11 s n (k + 1) (f_X5_longestBlocking_l36 s k fu3 0 a μ) μ := if_neg c
      obtain ⟨g1, g2⟩ := bl_in h hs hk fu3 0 a (by unfold fu3; omega) ha
      rw [e2, g1]
      exact bl_out h hs n (k + 1) _ (by omega) g2
end Tells
