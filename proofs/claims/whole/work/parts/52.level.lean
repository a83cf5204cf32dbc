theorem mx_eq (a b : Int32) : (if a < b then b else a) = (if b ≤ a then a else b) := by
  by_cases c : a < b
  · rw [if_pos c, if_neg (by rw [i32_lt] at c; rw [i32_le]; omega)]
  · rw [if_neg c, if_pos (by rw [i32_lt] at c; rw [i32_le]; omega)]
theorem mx_le (a b : Int32) : (if a < b then b else a) = (if a ≤ b then b else a) := by
  by_cases c : a < b
  · rw [if_pos c, if_pos (by rw [i32_lt] at c; rw [i32_le]; omega)]
  · rw [if_neg c]
    by_cases c2 : a ≤ b
    · rw [if_pos c2]
      rw [i32_lt] at c
      rw [i32_le] at c2
      exact Int32.toInt_inj.mp (by omega)
    · rw [if_neg c2]
theorem kb_ge2 {x : Int32} {k c : Nat} (h : ¬ x ≤ nI k) (e : x = nI c) (hc : c ≤ 2) (hk : k < 100) : k < 2 := by
  rw [e, nI_leI (by omega) (by omega)] at h
  omega
theorem kd_ge {x : Int32} {k d : Nat} (h : ¬ x ≤ nI k) (e : x = nI d) (hd : d ≤ 12) (hk : k < 100) : k < d := by
  rw [e, nI_leI (by omega) (by omega)] at h
  omega
/-! what both read of a state: sources, places, levels, candidates -/
section Lev
variable {τ : Int} {N d q : Nat} {μ σ : St}
theorem find_some (h : RM τ N d q μ (σ 1)) {i : Nat} (hi : i < N) : f_X5_find μ (nI i) = some i := by
  have hN := h.N12
  unfold f_X5_find
  rw [if_neg (nI_pos (by omega)), if_neg (by rw [h.mN, nI_leI (by omega) (by omega)]; omega), nI_clamp (by omega)]
theorem isSource_1 (h : RM τ N d q μ (σ 1)) {i : Nat} (hi : i < N) : f_X9_isSource σ (nI i) = 1 := by
  have hN := h.N12
  show f_X9_in (nI i) 0 (σ 1 8 - 1) = 1
  rw [h.2.1.1]
  unfold f_X9_in
  rw [if_neg (nI_pos (by omega)), if_neg]
  rw [show (1 : Int32) = nI 1 from rfl, pk_sub (by omega), nI_ltI (by omega) (by omega)]
  omega
theorem src_cases (h : RM τ N d q μ (σ 1)) (p : Int32) : (f_X5_find μ p = none ∧ f_X9_isSource σ p = 0) ∨ ∃ i, i < N ∧ p = nI i ∧ f_X5_find μ p = some i ∧ f_X9_isSource σ p = 1 := by
  have hN := h.N12
  rcases pk_ix p (n := N) (by omega) with c | c | ⟨i, hi, rfl⟩
  · left
    refine ⟨if_pos c, ?_⟩
    show f_X9_in p 0 (σ 1 8 - 1) = 0
    unfold f_X9_in
    rw [if_pos c]
  · left
    have c' := c
    rw [i32_le, nI_toInt (by omega)] at c'
    have c0 : ¬ p < 0 := by rw [i32_lt]; show ¬ p.toInt < 0; omega
    constructor
    · unfold f_X5_find
      rw [if_neg c0, if_pos (by rw [h.mN]; exact c)]
    · show f_X9_in p 0 (σ 1 8 - 1) = 0
      unfold f_X9_in
      rw [if_neg c0, if_pos]
      rw [h.2.1.1, i32_lt, show (1 : Int32) = nI 1 from rfl, pk_sub_toInt (by omega) (by omega)]
      omega
  · right
    exact ⟨i, hi, rfl, find_some h hi, isSource_1 h hi⟩
theorem stk_at (h : RM τ N d q μ (σ 1)) {k : Nat} (hk : k < d) : f_X5_stackedAt μ (nI k) = σ 1 (10 + k) := by
  have hd := h.d12
  unfold f_X5_stackedAt
  rw [if_neg (nI_pos (by omega)), if_neg (by rw [h.md, nI_leI (by omega) (by omega)]; omega), nI_clamp (by omega), h.stk (by omega)]
theorem placeOf_c1 {p : Int32} (h9 : σ 1 9 = nI d) (hd : d ≤ 12) : ∀ n k, k ≤ d → d < k + n → (∀ j, j < k → σ 1 (10 + j) ≠ p) → (∃ j, j < d ∧ σ 1 (10 + j) = p ∧ f_X9_placeOf_l2 p n k σ = nI j) ∨ ((∀ j, j < d → σ 1 (10 + j) ≠ p) ∧ f_X9_placeOf_l2 p n k σ = -1)
  | 0, k, hk, hn, _ => absurd hn (by omega)
  | n + 1, k, hk, hn, hj => by
    by_cases c : σ 1 9 ≤ nI k
    · have e : f_X9_placeOf_l2 p (n + 1) k σ = -1 := if_pos c
      rw [h9, nI_leI (by omega) (by omega)] at c
      right
      exact ⟨fun j hjd => hj j (by omega), e⟩
    · have e : f_X9_placeOf_l2 p (n + 1) k σ = _ := if_neg c
      rw [h9, nI_leI (by omega) (by omega)] at c
      by_cases c2 : σ 1 (10 + k) = p
      · left
        exact ⟨k, by omega, c2, e.trans (if_pos c2)⟩
      · have e2 := e.trans (if_neg c2)
        rw [e2]
        exact placeOf_c1 h9 hd n (k + 1) (by omega) (by omega) (fun j hj1 => by
          by_cases q1 : j = k
          · rw [q1]; exact c2
          · exact hj j (by omega))
theorem place_eq (h : RM τ N d q μ (σ 1)) {i : Nat} (hi : i < N) : f_X9_placeOf σ (nI i) = μ (9 + i) 7 := by
  have hd := h.d12
  obtain ⟨-, -, hp⟩ := h.rp
  rcases placeOf_c1 (p := nI i) h.2.1.2.1 hd fu13 0 (by omega) (by unfold fu13; omega) (fun j hj => absurd hj (by omega)) with ⟨j, hj, e1, e2⟩ | ⟨e1, e2⟩
  · exact e2.trans ((hp i hi).1 j hj e1).symm
  · exact e2.trans ((hp i hi).2 e1).symm
/-- on the stack or not -/
theorem place_cases (h : RM τ N d q μ (σ 1)) {i : Nat} (hi : i < N) : (∃ k, k < d ∧ σ 1 (10 + k) = nI i ∧ μ (9 + i) 7 = nI k) ∨ ((∀ k, k < d → σ 1 (10 + k) ≠ nI i) ∧ μ (9 + i) 7 = -1) := by
  obtain ⟨-, -, hp⟩ := h.rp
  by_cases c : ∃ k, k < d ∧ σ 1 (10 + k) = nI i
  · obtain ⟨k, hk, e⟩ := c
    exact Or.inl ⟨k, hk, e, (hp i hi).1 k hk e⟩
  · have c' : ∀ k, k < d → σ 1 (10 + k) ≠ nI i := fun k hk e => c ⟨k, hk, e⟩
    exact Or.inr ⟨c', (hp i hi).2 c'⟩
theorem nI_nm1 {k : Nat} (h : k < 2 ^ 31) : nI k ≠ -1 := by
  intro e
  have h1 := nI_toInt h
  rw [e] at h1
  have h2 : (-1 : Int32).toInt = -1 := by decide
  omega
theorem of1 {w : Nat} (h : RM τ N d q μ (σ 1)) {i : Nat} (hi : i < N) (hw : w < 24) : f_X9_of σ (nI i) (nI w) = σ 1 (93 + 24 * i + w) := of_nIs (by have := h.N12; omega) hw
theorem pend_eq (h : RM τ N d q μ (σ 1)) {i : Nat} (hi : i < N) : f_X7_isPending μ i = f_X9_isPending σ (nI i) := by
  have e1 : f_X9_of σ (nI i) 1 = μ (9 + i) 1 := (of1 h hi (w := 1) (by decide)).trans (h.f hi (by decide) (by decide) rfl (by decide))
  have e4 : f_X9_of σ (nI i) 4 = zb (μ (9 + i) 4) := (of1 h hi (w := 4) (by decide)).trans (h.b hi (by decide) (by decide) rfl (by decide))
  have e5 : f_X9_of σ (nI i) 5 = zb (μ (9 + i) 5) := (of1 h hi (w := 5) (by decide)).trans (h.b hi (by decide) (by decide) rfl (by decide))
  have ep := place_eq h hi
  unfold f_X7_isPending f_X9_isPending f_X7_isStacked
  dsimp only
  rw [e1, e4, e5, ep]
  by_cases c : μ (9 + i) 1 = 0
  · rw [if_pos c, if_pos c]
    rcases zb_two (μ (9 + i) 4) with e | e <;> rw [e] <;> rfl
  · rw [if_neg c, if_neg c]
    rcases zb_two (μ (9 + i) 5) with e | e
    · rw [e]; rfl
    · rw [e, if_neg (by decide), if_pos rfl]
      by_cases c2 : μ (9 + i) 7 = -1
      · rw [if_pos c2, if_pos c2]; rfl
      · rw [if_neg c2, if_neg c2]; rfl
theorem in_hold {f l x : Int32} (hf : 0 ≤ f.toInt ∧ f.toInt ≤ 499) (hl : 0 ≤ l.toInt ∧ l.toInt ≤ 500) : (f + l ≤ x) ↔ (f + l - 1 < x) := by
  obtain ⟨a, ha, rfl⟩ := of_nI (n := 500) ⟨hf.1, by omega⟩ (by decide)
  obtain ⟨b, hb, rfl⟩ := of_nI (n := 501) ⟨hl.1, by omega⟩ (by decide)
  rw [nI_add, i32_le, i32_lt, nI_toInt (by omega), show (1 : Int32) = nI 1 from rfl, pk_sub_toInt (by omega) (by omega)]
  omega
theorem sec_ix {k b : Nat} : (8 : Int32) + 3 * nI k + nI b = nI (8 + 3 * k + b) := by
  rw [show (8 : Int32) = nI 8 from rfl, show (3 : Int32) = nI 3 from rfl, pk_mul, nI_add, nI_add]
theorem sec_ix0 {k : Nat} : (8 : Int32) + 3 * nI k = nI (8 + 3 * k + 0) := by
  rw [show (8 : Int32) = nI 8 from rfl, show (3 : Int32) = nI 3 from rfl, pk_mul, nI_add]
  rfl
theorem of_sec (h : RM τ N d q μ (σ 1)) {i k b : Nat} (hi : i < N) (hk : k < 2) (hb : b < 3) : f_X9_of σ (nI i) (8 + 3 * nI k + nI b) = μ (33 + 2 * i + k) b := by
  rw [sec_ix, of1 h hi (by omega), h.c hi hk hb]
theorem of_sec0 (h : RM τ N d q μ (σ 1)) {i k : Nat} (hi : i < N) (hk : k < 2) : f_X9_of σ (nI i) (8 + 3 * nI k) = μ (33 + 2 * i + k) 0 := by
  rw [sec_ix0, of1 h hi (by omega), h.c hi hk (by decide)]
theorem sec_rng (h : RM τ N d q μ (σ 1)) {i k : Nat} (hi : i < N) (hk : k < 2) : (0 ≤ (μ (33 + 2 * i + k) 0).toInt ∧ (μ (33 + 2 * i + k) 0).toInt ≤ 499) ∧ 0 ≤ (μ (33 + 2 * i + k) 1).toInt ∧ (μ (33 + 2 * i + k) 1).toInt ≤ 500 := by
  have h1 := (h.rv.2 i hi).2.2.1 k hk
  rw [h.c hi hk (by decide), h.c hi hk (by decide)] at h1
  exact h1
/-- whether a section is in force -/
theorem force_eq (h : RM τ N d q μ (σ 1)) {i k : Nat} (hi : i < N) (hk : k < 2) : f_X9_isInForce σ (nI i) (nI k) = if μ (9 + i) 7 = -1 then 0 else f_X6_holds μ i k (μ (9 + i) 8) := by
  have er : f_X9_of σ (nI i) 16 = μ (9 + i) 8 := (of1 h hi (w := 16) (by decide)).trans (h.f hi (by decide) (by decide) rfl (by decide))
  have e1 : f_X9_of σ (nI i) (8 + 3 * nI k + 1) = μ (33 + 2 * i + k) 1 := of_sec h hi hk (b := 1) (by decide)
  unfold f_X9_isInForce f_X6_holds f_X9_in
  dsimp only
  rw [of_sec0 h hi hk, place_eq h hi, er, e1]
  by_cases c : μ (9 + i) 7 = -1
  · rw [if_pos c, if_pos c]
  · rw [if_neg c, if_neg c]
    obtain ⟨r1, r2⟩ := sec_rng h hi hk
    by_cases c1 : μ (9 + i) 8 < μ (33 + 2 * i + k) 0
    · rw [if_pos c1, if_pos c1]; rfl
    · rw [if_neg c1, if_neg c1]
      by_cases c2 : μ (33 + 2 * i + k) 0 + μ (33 + 2 * i + k) 1 ≤ μ (9 + i) 8
      · rw [if_pos c2, if_pos ((in_hold r1 r2).mp c2)]; rfl
      · rw [if_neg c2, if_neg (fun z => c2 ((in_hold r1 r2).mpr z))]; rfl
theorem cnt_eq (h : RM τ N d q μ (σ 1)) {i : Nat} (hi : i < N) : f_X9_of σ (nI i) 7 = μ (9 + i) 18 := (of1 h hi (w := 7) (by decide)).trans (h.f hi (by decide) (by decide) rfl (by decide))
theorem cnt_le (h : RM τ N d q μ (σ 1)) {i : Nat} (hi : i < N) : ∃ c, c ≤ 2 ∧ μ (9 + i) 18 = nI c := by
  obtain ⟨c, hc, e⟩ := (h.rv.2 i hi).2.1
  exact ⟨c, hc, (h.f hi (by decide) (by decide) rfl (by decide)).symm.trans e⟩
theorem ceil_in (h : RM τ N d q μ (σ 1)) {s k4 : Nat} (hs : s < N) (hk4 : k4 < d) (e4 : σ 1 (10 + k4) = nI s) : ∀ n k a, k + n < 100 → f_X5_greatestCeiling_l25 s n k a μ = f_X9_ceiling_l28 k4 σ n k a σ
  | 0, k, a, _ => rfl
  | n + 1, k, a, hkn => by
    have hp : μ (9 + s) 7 = nI k4 := (h.rp.2.2 s hs).1 k4 hk4 e4
    have hd := h.d12
    obtain ⟨c2, hc2, ec⟩ := cnt_le h hs
    have er : f_X9_ceiling_l28 k4 σ (n + 1) k a σ = (if f_X9_of σ (nI s) 7 ≤ (nI k) then a else (f_X9_ceiling_l28 k4 σ n (k + 1) (if f_X9_isInForce σ (nI s) (nI k) = 0 then a else (if f_X9_of σ (nI s) ((8 + (3 * (nI k))) + 2) ≤ a then a else f_X9_of σ (nI s) ((8 + (3 * (nI k))) + 2))) σ)) := by rw [← e4]; rfl
    rw [er, cnt_eq h hs]
    by_cases c : μ (9 + s) 18 ≤ nI k
    · rw [if_pos c]
      exact if_pos c
    · have e := show f_X5_greatestCeiling_l25 s (n + 1) k a μ = _ from if_neg c
      rw [e, if_neg c]
      have hk : k < 2 := kb_ge2 c ec hc2 (by omega)
      have ez : f_X9_of σ (nI s) ((8 + (3 * (nI k))) + 2) = μ (33 + 2 * s + k) 2 := of_sec h hs hk (b := 2) (by decide)
      rw [ez, force_eq h hs hk, if_neg (show ¬ μ (9 + s) 7 = -1 by rw [hp]; exact nI_nm1 (by omega))]
      show f_X5_greatestCeiling_l25 s n (k + 1) (if f_X6_holds μ s k (μ (9 + s) 8) = 0 then a else (if a < μ (33 + 2 * s + k) 2 then μ (33 + 2 * s + k) 2 else a)) μ = _
      have em : (if a < μ (33 + 2 * s + k) 2 then μ (33 + 2 * s + k) 2 else a) = (if μ (33 + 2 * s + k) 2 ≤ a then a else μ (33 + 2 * s + k) 2) := mx_eq _ _
      rw [em]
      exact ceil_in h hs hk4 e4 n (k + 1) _ (by omega)
theorem ceil_out (h : RM τ N d q μ (σ 1)) : ∀ n k a, k + n < 100 → f_X5_greatestCeiling_l4 n k a μ = f_X9_ceiling_l4 n k a σ
  | 0, k, a, _ => rfl
  | n + 1, k, a, hkn => by
    have hd := h.d12
    by_cases c : σ 1 9 ≤ nI k
    · have e1 := show f_X9_ceiling_l4 (n + 1) k a σ = _ from if_pos c
      rw [e1]
      rw [h.2.1.2.1, ← h.md] at c
      exact if_pos c
    · have e1 := show f_X9_ceiling_l4 (n + 1) k a σ = _ from if_neg c
      rw [e1]
      have c' := c
      rw [h.2.1.2.1, ← h.md] at c
      have e2 := show f_X5_greatestCeiling_l4 (n + 1) k a μ = _ from if_neg c
      rw [e2]
      have hk : k < d := kd_ge c' h.2.1.2.1 (by omega) (by omega)
      obtain ⟨s, hs, e4⟩ := h.rp.1 k hk
      show oc (f_X5_find μ (f_X5_stackedAt μ (nI k))) (f_X5_greatestCeiling_l4 n (k + 1) a μ) (fun i18 => f_X5_greatestCeiling_l4 n (k + 1) (f_X5_greatestCeiling_l25 i18 fu3 0 a μ) μ) = f_X9_ceiling_l4 n (k + 1) (f_X9_ceiling_l28 k σ fu3 0 a σ) σ
      rw [stk_at h hk, e4, find_some h hs]
      show f_X5_greatestCeiling_l4 n (k + 1) (f_X5_greatestCeiling_l25 s fu3 0 a μ) μ = _
      rw [ceil_in h hs hk e4 fu3 0 a (by unfold fu3; omega)]
      exact ceil_out h n (k + 1) _ (by omega)
theorem ceil_eq (h : RM τ N d q μ (σ 1)) : f_X5_greatestCeiling μ = f_X9_ceiling σ := ceil_out h _ _ _ (by unfold fu13; omega)
theorem prio_eq (h : RM τ N d q μ (σ 1)) {i : Nat} (hi : i < N) : f_X9_of σ (nI i) 0 = μ (9 + i) 0 := (of1 h hi (w := 0) (by decide)).trans (h.f hi (by decide) (by decide) rfl (by decide))
theorem run_out (h : RM τ N d q μ (σ 1)) : ∀ n k a, k + n < 100 → f_X5_greatestPriority_l4 n k a μ = f_X9_running_l4 n k a σ
  | 0, k, a, _ => rfl
  | n + 1, k, a, hkn => by
    have hd := h.d12
    by_cases c : σ 1 9 ≤ nI k
    · have e1 := show f_X9_running_l4 (n + 1) k a σ = _ from if_pos c
      rw [e1]
      rw [h.2.1.2.1, ← h.md] at c
      exact if_pos c
    · have e1 := show f_X9_running_l4 (n + 1) k a σ = _ from if_neg c
      rw [e1]
      have c' := c
      rw [h.2.1.2.1, ← h.md] at c
      have e2 := show f_X5_greatestPriority_l4 (n + 1) k a μ = _ from if_neg c
      rw [e2]
      have hk : k < d := kd_ge c' h.2.1.2.1 (by omega) (by omega)
      obtain ⟨s, hs, e4⟩ := h.rp.1 k hk
      show oc (f_X5_find μ (f_X5_stackedAt μ (nI k))) (f_X5_greatestPriority_l4 n (k + 1) a μ) (fun i18 => f_X5_greatestPriority_l4 n (k + 1) (if a < μ (9 + i18) 0 then μ (9 + i18) 0 else a) μ) = f_X9_running_l4 n (k + 1) (if f_X9_of σ (σ 1 (10 + k)) 0 ≤ a then a else f_X9_of σ (σ 1 (10 + k)) 0) σ
      rw [stk_at h hk, e4, find_some h hs, prio_eq h hs]
      show f_X5_greatestPriority_l4 n (k + 1) (if a < μ (9 + s) 0 then μ (9 + s) 0 else a) μ = _
      rw [mx_eq]
      exact run_out h n (k + 1) _ (by omega)
theorem run_eq (h : RM τ N d q μ (σ 1)) : f_X5_greatestPriority μ = f_X9_running σ := run_out h _ _ _ (by unfold fu13; omega)
theorem level_eq (h : RM τ N d q μ (σ 1)) : f_X5_level μ = f_X9_level σ := by
  have e1 : σ 1 1 = μ 1 0 := h.set (k := 0) (by decide)
  unfold f_X5_level f_X9_level f_X9_greater
  dsimp only
  rw [ceil_eq h, run_eq h, e1, mx_le, mx_le]
theorem ena_eq (h : RM τ N d q μ (σ 1)) {i : Nat} (hi : i < N) : f_X9_of σ (nI i) 3 = zb (μ (9 + i) 3) := (of1 h hi (w := 3) (by decide)).trans (h.b hi (by decide) (by decide) rfl (by decide))
theorem pend01 {σ : St} {p : Int32} : f_X9_isPending σ p = 0 ∨ f_X9_isPending σ p = 1 := by
  unfold f_X9_isPending
  dsimp only
  repeat' split
  all_goals first | exact Or.inl rfl | exact Or.inr rfl
theorem cand_out (h : RM τ N d q μ (σ 1)) : ∀ n k a b, k + n < 100 → f_X5_candidateAbove_l7 n k a b μ = f_X9_candidate_l9 n k a b σ
  | 0, k, a, b, _ => rfl
  | n + 1, k, a, b, hkn => by
    have hN := h.N12
    by_cases c : σ 1 8 ≤ nI k
    · have e1 := show f_X9_candidate_l9 (n + 1) k a b σ = _ from if_pos c
      rw [e1]
      rw [h.2.1.1, ← h.mN] at c
      exact if_pos c
    · have e1 := show f_X9_candidate_l9 (n + 1) k a b σ = _ from if_neg c
      rw [e1]
      have c' := c
      rw [h.2.1.1, ← h.mN] at c
      have e2 := show f_X5_candidateAbove_l7 (n + 1) k a b μ = _ from if_neg c
      rw [e2]
      have hk : k < N := kd_ge c' h.2.1.1 (by omega) (by omega)
      dsimp only
      rw [ena_eq h hk, prio_eq h hk, pend_eq h hk]
      rcases zb_two (μ (9 + k) 3) with ez | ez
      · rw [ez, if_neg (show ¬ (0 : Int32) = 1 by decide), if_pos (show (0 : Int32) = 0 from rfl), if_pos (show (0 : Int32) = 0 from rfl)]
        rw [if_pos (show (0 : Int32) = 0 from rfl), if_pos (show (0 : Int32) = 0 from rfl), ite_self, ite_self]
        exact cand_out h n (k + 1) _ _ (by omega)
      · rw [ez, if_pos (show (1 : Int32) = 1 from rfl), if_neg (show ¬ (1 : Int32) = 0 by decide), if_neg (show ¬ (1 : Int32) = 0 by decide)]
        by_cases cp : μ (9 + k) 0 ≤ b
        · rw [if_pos cp, if_pos cp, if_pos cp, if_pos (show (0 : Int32) = 0 from rfl), if_pos (show (0 : Int32) = 0 from rfl)]
          exact cand_out h n (k + 1) _ _ (by omega)
        · rw [if_neg cp, if_neg cp, if_neg cp]
          rcases pend01 (σ := σ) (p := nI k) with eq | eq
          · rw [eq, if_pos (show (0 : Int32) = 0 from rfl), if_pos (show (0 : Int32) = 0 from rfl), if_pos (show (0 : Int32) = 0 from rfl)]
            exact cand_out h n (k + 1) _ _ (by omega)
          · rw [eq, if_neg (show ¬ (1 : Int32) = 0 by decide), if_neg (show ¬ (1 : Int32) = 0 by decide), if_neg (show ¬ (1 : Int32) = 0 by decide)]
            exact cand_out h n (k + 1) _ _ (by omega)
theorem cand_eq (h : RM τ N d q μ (σ 1)) : f_X5_candidateAbove μ (f_X5_level μ) = f_X9_candidate σ := by
  have e := level_eq h
  show f_X5_candidateAbove_l7 fu13 0 (-1) (f_X5_level μ) μ = f_X9_candidate_l9 fu13 0 (-1) (f_X9_level σ) σ
  rw [e]
  exact cand_out h _ _ _ _ (by unfold fu13; omega)
end Lev
