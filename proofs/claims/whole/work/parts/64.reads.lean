section Reads
variable {τ τ' : Int} {β δ : St}
theorem RBg.mono (h : RBg τ β δ) (ht : τ ≤ τ') : RBg τ' β δ := by
  obtain ⟨m1, ⟨c, nx, hH⟩, m3, m4⟩ := h
  exact ⟨m1.mono ht, ⟨c, nx, hH.congr ht rfl (fun _ _ _ _ _ _ _ => rfl) rfl rfl⟩, m3, m4⟩
/-- a call that changes no more than what was thrown -/
theorem RBg.refs {v : Int32} (h : RBg τ β δ) : RBg τ β (up2 δ 0 4 v) := by
  obtain ⟨m1, ⟨c, nx, hH⟩, m3, m4⟩ := h
  refine ⟨by rw [up2_rowk (by decide)]; exact m1, ⟨c, nx, hH.congr (Int.le_refl _) rfl (fun _ _ _ _ _ _ _ => rfl) (up2_j (by decide)) (up2_rowk (by decide))⟩, m3.congr rfl rfl rfl (up2_j (by decide)) (up2_rowk (by decide)) (up2_rowk (by decide)), by rw [up2_j (by decide)]; exact m4⟩
theorem api_no {W : Nat → Int32} {k : Nat} (h : RBg τ β δ) (hk : k ≠ 0) (hw : W k ≠ 0) : apiR τ (k, 0, β) (0, up2 δ 0 4 (W k)) W := ⟨h.refs, Or.inr ⟨hk, hw, by show up2 δ 0 4 (W k) 0 4 = _; exact up2_s⟩⟩
theorem api_yes {W : Nat → Int32} {a b : Int32} (h : RBg τ β δ) (e : a = b) : apiR τ (0, a, β) (b, up2 δ 0 4 0) W := ⟨h.refs, Or.inl ⟨rfl, by show up2 δ 0 4 0 0 4 = _; exact up2_s, e⟩⟩
theorem rsrc (β : St) (p : Int32) : f_X8_requireSource β p = (match f_X5_find (sb (gmM 0) β) p with | none => 1 | some _ => 0) := by
  unfold f_X8_requireSource oc
  cases f_X5_find (sb (gmM 0) β) p <;> rfl
theorem rarg_0 : f_X8_requireArgument 0 = 2 := rfl
theorem rarg_1 : f_X8_requireArgument 1 = 0 := rfl
theorem row4 {v : Int32} (δ : St) : (up2 δ 0 4 v) 1 = δ 1 := up2_rowk (by decide)
theorem k_of {x a : Int32} {n : Nat} (h0 : (0 : Int32).toInt ≤ x.toInt) (h1 : x.toInt ≤ a.toInt) (ha : a.toInt < n) (hn : n < 2 ^ 31) : ∃ k, k < n ∧ x = nI k := of_nI ⟨h0, by omega⟩ hn
theorem a_source (h : RBg τ β δ) (p w : Int32) : apiR τ (f_X8_source β p w) (f_X9_source δ p w) w12 := by
  obtain ⟨N, d, q, hm, hT⟩ := h.1
  unfold f_X8_source f_X9_source
  rw [rsrc]
  rcases src_cases hm p with ⟨e1, e2⟩ | ⟨i, hi, rfl, e1, e2⟩
  · rw [e1, e2]
    exact api_no (W := w12) (k := 1) h (by decide) (by decide)
  · rw [e1, e2]
    dsimp only
    rw [if_pos (show (0 : Nat) = 0 from rfl), in_eq, if_neg n10]
    rcases in_cases w 0 16 with ew | ⟨ew, h0, h1⟩
    · rw [ew, rarg_0]
      exact api_no (W := w12) (k := 2) h (by decide) (by decide)
    · obtain ⟨k, hk, rfl⟩ := k_of (n := 17) h0 h1 (by decide) (by decide)
      rw [ew, rarg_1, if_pos (show (0 : Nat) = 0 from rfl), if_neg n10, refused_0]
      have hm' : RM τ N d q (sb (gmM 0) β) ((up2 δ 0 4 0) 1) := by rw [row4]; exact hm
      exact api_yes h (tell_src hm' hi hk)
theorem a_stack (h : RBg τ β δ) (p : Int32) : apiR τ (f_X8_stack β p) (f_X9_stack δ p) w2 := by
  obtain ⟨N, d, q, hm, hT⟩ := h.1
  have hd := hm.d12
  unfold f_X8_stack f_X9_stack
  dsimp only
  by_cases c : p < 0
  · rw [if_pos c, rarg_0, if_neg (show ¬ (0 : Int32) ≤ p by rw [i32_le]; rw [i32_lt] at c; omega)]
    exact api_no (W := w2) (k := 2) h (by decide) (by decide)
  · rw [if_neg c, rarg_1, if_pos (show (0 : Nat) = 0 from rfl), if_pos (show (0 : Int32) ≤ p by rw [i32_le]; rw [i32_lt] at c; omega), refused_0]
    dsimp only
    rw [if_pos (show (0 : Int32) = 0 from rfl)]
    simp only [row4]
    obtain ⟨k, hk, rfl⟩ := nI_of c
    have e5 : f_X5_stackedAt (sb (gmM 0) β) (nI k) = if nI k < δ 1 9 then δ 1 (10 + k) else -1 := by
      unfold f_X5_stackedAt
      rw [if_neg c, hm.md, hm.2.1.2.1]
      by_cases c2 : k < d
      · rw [if_neg (by rw [nI_leI (by omega) hk]; omega), if_pos (by rw [nI_ltI hk (by omega)]; exact c2), nI_clamp hk, hm.stk (by omega)]
      · rw [if_pos (by rw [nI_leI (by omega) hk]; omega), if_neg (by rw [nI_ltI hk (by omega)]; exact c2)]
    rw [e5, nI_clamp hk]
    by_cases c2 : nI k < δ 1 9
    · rw [if_pos c2, if_pos c2]; exact api_yes h rfl
    · rw [if_neg c2, if_neg c2]; exact api_yes h rfl
theorem a_processor (h : RBg τ β δ) (p : Int32) : apiR τ (f_X8_processor β p) (f_X9_processor δ p) w2 := by
  obtain ⟨N, d, q, hm, hT⟩ := h.1
  unfold f_X8_processor f_X9_processor
  dsimp only
  rw [in_eq]
  rcases in_cases p 0 11 with ew | ⟨ew, h0, h1⟩
  · rw [ew, rarg_0]
    exact api_no (W := w2) (k := 2) h (by decide) (by decide)
  · obtain ⟨k, hk, rfl⟩ := k_of (n := 12) h0 h1 (by decide) (by decide)
    rw [ew, rarg_1, if_pos (show (0 : Nat) = 0 from rfl), if_neg n10, refused_0]
    have hm' : RM τ N d q (sb (gmM 0) β) ((up2 δ 0 4 0) 1) := by rw [row4]; exact hm
    exact api_yes h (tell_proc hm' hk)
theorem a_account (h : RBg τ β δ) (p : Int32) : apiR τ (f_X8_account β p) (f_X9_account δ p) w2 := by
  obtain ⟨N, d, q, hm, hT⟩ := h.1
  unfold f_X8_account f_X9_account
  dsimp only
  rw [in_eq]
  rcases in_cases p 0 9 with ew | ⟨ew, h0, h1⟩
  · rw [ew, rarg_0]
    exact api_no (W := w2) (k := 2) h (by decide) (by decide)
  · obtain ⟨k, hk, rfl⟩ := k_of (n := 10) h0 h1 (by decide) (by decide)
    rw [ew, rarg_1, if_pos (show (0 : Nat) = 0 from rfl), if_neg n10, refused_0]
    dsimp only
    rw [if_pos (show (0 : Int32) = 0 from rfl), row4, nI_clamp (by omega)]
    exact api_yes h (tell_acc hm hk)
theorem a_log (h : RBg τ β δ) (p w : Int32) : apiR τ (f_X8_log β p w) (f_X9_log δ p w) w2 := by
  obtain ⟨N, d, q, hm, hT⟩ := h.1
  unfold f_X8_log f_X9_log
  dsimp only
  rw [in_eq]
  by_cases c : p < 0
  · rw [if_pos c, if_pos c, rarg_0]
    exact api_no (W := w2) (k := 2) h (by decide) (by decide)
  · rw [if_neg c, if_neg c]
    rcases in_cases w 0 2 with ew | ⟨ew, h0, h1⟩
    · rw [ew, if_pos (show (0 : Int32) = 0 from rfl), if_pos (show (0 : Int32) = 0 from rfl), rarg_0]
      exact api_no (W := w2) (k := 2) h (by decide) (by decide)
    · obtain ⟨k, hk, rfl⟩ := k_of (n := 3) h0 h1 (by decide) (by decide)
      obtain ⟨j, hj, rfl⟩ := nI_of c
      rw [ew, if_neg n10, if_neg n10, rarg_1, if_pos (show (0 : Nat) = 0 from rfl), refused_0]
      dsimp only
      rw [if_pos (show (0 : Int32) = 0 from rfl)]
      simp only [row4]
      rw [nI_clamp (show k < 2 ^ 31 by omega), nI_clamp hj, tell_log hm hj hk]
      by_cases c2 : nI j < δ 1 22
      · rw [if_pos c2, if_pos c2]; exact api_yes h rfl
      · rw [if_neg c2, if_neg c2]; exact api_yes h rfl
theorem in_neg (x : Int32) : f_X9_in x 0 (0 - 1) = 0 := by
  unfold f_X9_in
  by_cases c : x < 0
  · rw [if_pos c]
  · rw [if_neg c, if_pos]
    rw [i32_lt] at c ⊢
    have h0 : (0 : Int32).toInt = 0 := rfl
    have h1 : ((0 : Int32) - 1).toInt = -1 := by decide
    omega
theorem a_section (h : RBg τ β δ) (p s w : Int32) : apiR τ (f_X8_section β p s w) (f_X9_section δ p s w) w12 := by
  obtain ⟨N, d, q, hm, hT⟩ := h.1
  unfold f_X8_section f_X9_section f_X5_sectionsOf
  dsimp only
  rw [in_eq]
  rcases src_cases hm p with ⟨e1, e2⟩ | ⟨i, hi, rfl, e1, e2⟩
  · rw [e1, e2]
    have e0 : f_X9_in s 0 (oc (none : Option Nat) (0 : Int32) (fun i2 => sb (gmM 0) β (9 + i2) 18) - 1) = 0 := in_neg s
    rw [e0]
    exact api_no (W := w12) (k := 1) h (by decide) (by decide)
  · obtain ⟨n, hn, en⟩ := cnt_le hm hi
    have eo : oc (some i) (0 : Int32) (fun i2 => sb (gmM 0) β (9 + i2) 18) = nI n := en
    rw [e1, e2, eo, if_neg n10, cnt_eq hm hi, en, in_eq]
    rcases in_cases s 0 (nI n - 1) with es | ⟨es, h0, h1⟩
    · rw [es]
      exact api_no (W := w12) (k := 1) h (by decide) (by decide)
    · have hn1 : (nI n - 1).toInt = n - 1 := by rw [show (1 : Int32) = nI 1 from rfl, pk_sub_toInt (by omega) (by omega)]; omega
      have h00 : (0 : Int32).toInt = 0 := rfl
      obtain ⟨k, hk, rfl⟩ := of_nI (x := s) (n := n) ⟨by omega, by omega⟩ (by omega)
      rw [es, if_neg n10, if_neg n10, if_neg n10]
      rcases in_cases w 0 3 with ew | ⟨ew, g0, g1⟩
      · rw [ew, rarg_0]
        exact api_no (W := w12) (k := 2) h (by decide) (by decide)
      · obtain ⟨j, hj, rfl⟩ := k_of (n := 4) g0 g1 (by decide) (by decide)
        rw [ew, rarg_1, if_pos (show (0 : Nat) = 0 from rfl), if_neg n10, refused_0]
        have hm' : RM τ N d q (sb (gmM 0) β) ((up2 δ 0 4 0) 1) := by rw [row4]; exact hm
        exact api_yes h (tell_sec hm' hi en hn hk hj)
theorem a_blocking (h : RBg τ β δ) (p : Int32) : apiR τ (f_X8_blocking β p) (f_X9_blocking δ p) w1 := by
  obtain ⟨N, d, q, hm, hT⟩ := h.1
  unfold f_X8_blocking f_X9_blocking f_X5_longestBlocking
  rw [rsrc]
  rcases src_cases hm p with ⟨e1, e2⟩ | ⟨i, hi, rfl, e1, e2⟩
  · rw [e1, e2]
    exact api_no (W := w1) (k := 1) h (by decide) (by decide)
  · rw [e1, e2]
    dsimp only
    rw [if_pos (show (0 : Nat) = 0 from rfl), if_neg n10, refused_0]
    have hm' : RM τ N d q (sb (gmM 0) β) ((up2 δ 0 4 0) 1) := by rw [row4]; exact hm
    exact api_yes h (bl_out hm' hi fu13 0 0 (by unfold fu13; omega) (by decide))
end Reads
