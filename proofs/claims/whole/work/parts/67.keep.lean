/-! calls of the text and of what is kept -/
theorem giX_0 : giX 3 = some 0 := rfl
section Keep
variable {τ τ' : Int} {β δ : St}
/-- a call of the text alone -/
theorem RBg.text {β' δ' : St} (h : RBg τ β δ) (hb : ∀ k, ¬ (3 ≤ k ∧ k < 6) → β' k = β k) (d1 : δ' 1 = δ 1) (d2 : δ' 2 = δ 2) (d3 : δ' 0 3 = δ 0 3) (d7 : δ' 0 7 = δ 0 7) (hX : RX β' δ') : RBg τ β' δ' := by
  obtain ⟨m1, ⟨c, nx, hH⟩, -, m4⟩ := h
  refine ⟨?_, ⟨c, nx, hH.congr (Int.le_refl _) (hb 1 (by decide)) (fun q a b h2 h7 _ ha => congrFun (hb _ (by unfold gmM; omega)) b) d3 d2⟩, hX, by rw [hb 0 (by decide), d7]; exact m4⟩
  rw [d1]
  exact m1.mcong (fun a b ha => congrFun (hb _ (by unfold gmM; omega)) b)
theorem nar_id {x : Int32} (h0 : 0 ≤ x.toInt) (h1 : x.toInt ≤ 127) : vp_nar .byte x.toInt8.toInt32 = x := by
  obtain ⟨k, hk, rfl⟩ := of_nI (n := 128) (x := x) ⟨h0, by omega⟩ (by decide)
  have key : ∀ k, k < 128 → vp_nar .byte (nI k).toInt8.toInt32 = nI k := by decide +kernel
  exact key k hk
theorem a_type (h : RBg τ β δ) (p : Int32) : apiR τ (f_X8_type β p) (f_X9_type δ p) w23 := by
  have hX := h.2.2.1
  obtain ⟨⟨L, hL, x1, x2⟩, x3, x4⟩ := hX
  unfold f_X8_type f_X9_type
  dsimp only
  rw [in_eq]
  rcases in_cases p 0 127 with ew | ⟨ew, h0, h1⟩
  · rw [ew, rarg_0]
    exact api_no (W := w23) (k := 2) h (by decide) (by decide)
  · have p0 : 0 ≤ p.toInt := h0
    have p1 : p.toInt ≤ 127 := h1
    rw [ew, rarg_1, if_pos (show (0 : Nat) = 0 from rfl), if_neg n10]
    unfold f_X2_append
    have e01 : sb gmX β 0 1 = nI L := x1
    rw [e01, x2]
    by_cases c : L = 150
    · subst c
      rw [if_neg (show ¬ nI 150 < 150 by decide), if_pos (show nI 150 = (150 : Int32) from rfl)]
      dsimp only
      rw [if_pos (show (0 : Int32) = 0 from rfl)]
      have em : mg giX β (sb gmX β) = β := mg_sb (prtX (g := fun x => x) (T := fun _ => 0) (ad := fun x => x)) _
      show apiR τ (3, 0, mg giX β (sb gmX β)) _ w23
      rw [em]
      exact api_no (W := w23) (k := 3) h (by decide) (by decide)
    · have hlt : nI L < 150 := by rw [show (150 : Int32) = nI 150 from rfl, nI_ltI (by omega) (by decide)]; omega
      have hne : ¬ nI L = 150 := by rw [show (150 : Int32) = nI 150 from rfl, nI_eq (by omega) (by decide)]; exact c
      rw [if_pos hlt, if_neg hne]
      dsimp only
      rw [if_neg n10, refused_0]
      dsimp only
      rw [if_pos (show (0 : Int32) = 0 from rfl), up2_j (show (6 : Nat) ≠ 4 by decide), x2, nI_clamp (by omega), nar_id p0 p1]
      have z3 : ∀ u : St, mg giX β u 3 = u 0 := fun u => rfl
      have z4 : ∀ u : St, mg giX β u 4 = u 1 := fun u => rfl
      have z5 : ∀ u : St, mg giX β u 5 = u 2 := fun u => rfl
      refine api_y2 (h.text (fun k hk => funext fun b => ?_) ?_ ?_ ?_ ?_ ⟨⟨L + 1, by omega, ?_, ?_⟩, fun k hk => ?_, fun k hk => ?_⟩) ?_ ?_
      · unfold mg; rw [giX_n hk]
      · rw [up2_rowk (by decide), up2_rowk (by decide), up2_rowk (by decide)]
      · rw [up2_rowk (by decide), up2_rowk (by decide), up2_rowk (by decide)]
      · rw [up2_j (by decide), up2_k (by decide), up2_j (by decide)]
      · rw [up2_j (by decide), up2_k (by decide), up2_j (by decide)]
      · rw [z3, up2_s, nI_1]
      · rw [up2_s, nI_1]
      · rw [z4, up2_k (show (1 : Nat) ≠ 0 by decide), up2_k (show (4 : Nat) ≠ 0 by decide)]
        by_cases ck : k = L
        · subst ck
          rw [up2_s, up2_s]
          exact ⟨rfl, p0, p1⟩
        · rw [up2_j ck, up2_j ck, up2_k (by decide)]
          exact x3 k hk
      · rw [z5, up2_k (by decide), up2_k (by decide), up2_k (by decide), up2_k (by decide), up2_k (by decide)]
        exact x4 k hk
      · rw [up2_j (by decide), up2_k (by decide), up2_s]
      · rw [z3, up2_s]
theorem a_clear (h : RBg τ β δ) : RBg τ (f_X8_clearCommands β).2 (f_X9_clearCommands δ).2 ∧ (f_X9_clearCommands δ).2 0 4 = 0 ∧ (f_X8_clearCommands β).1 = (f_X9_clearCommands δ).1 := by
  have hX := h.2.2.1
  obtain ⟨⟨L, hL, x1, x2⟩, x3, x4⟩ := hX
  refine ⟨h.text (fun k hk => funext fun b => ?_) ?_ ?_ ?_ ?_ ⟨⟨0, by decide, ?_, ?_⟩, fun k hk => ?_, fun k hk => ?_⟩, ?_, ?_⟩
  · show mg giX β _ k b = _
    unfold mg
    rw [giX_n hk]
  · show (up2 (up2 δ 0 4 0) 0 6 0) 1 = _
    rw [up2_rowk (by decide), up2_rowk (by decide)]
  · show (up2 (up2 δ 0 4 0) 0 6 0) 2 = _
    rw [up2_rowk (by decide), up2_rowk (by decide)]
  · show (up2 (up2 δ 0 4 0) 0 6 0) 0 3 = _
    rw [up2_j (by decide), up2_j (by decide)]
  · show (up2 (up2 δ 0 4 0) 0 6 0) 0 7 = _
    rw [up2_j (by decide), up2_j (by decide)]
  · show up2 (sb gmX β) 0 1 0 0 1 = _
    rw [up2_s]; rfl
  · show (up2 (up2 δ 0 4 0) 0 6 0) 0 6 = _
    rw [up2_s]; rfl
  · show up2 (sb gmX β) 0 1 0 1 k = (up2 (up2 δ 0 4 0) 0 6 0) 4 k ∧ 0 ≤ ((up2 (up2 δ 0 4 0) 0 6 0) 4 k).toInt ∧ ((up2 (up2 δ 0 4 0) 0 6 0) 4 k).toInt ≤ 127
    rw [up2_k (by decide), up2_k (by decide), up2_k (by decide)]
    exact x3 k hk
  · show up2 (sb gmX β) 0 1 0 2 k = (up2 (up2 δ 0 4 0) 0 6 0) 5 k
    rw [up2_k (by decide), up2_k (by decide), up2_k (by decide)]
    exact x4 k hk
  · show (up2 (up2 δ 0 4 0) 0 6 0) 0 4 = 0
    rw [up2_j (by decide), up2_s]
  · show β 3 1 = δ 0 6
    rw [x1, x2]
theorem a_stop (h : RBg τ β δ) : RBg τ β (f_X9_stop δ).2 ∧ (f_X9_stop δ).2 0 4 = 0 ∧ f_X8_stop β = (f_X9_stop δ).1 := ⟨h.refs, (show up2 δ 0 4 0 0 4 = 0 from up2_s), h.2.2.2⟩
theorem a_undo (h : RBg τ β δ) : apiR τ (f_X8_undo β) (f_X9_undo δ) w3 := by
  have hh := h
  obtain ⟨m1, ⟨c, nx, hc, hn, b12, d03, b11, hr⟩, m3, m4⟩ := h
  unfold f_X8_undo f_X9_undo f_X4_restore
  dsimp only
  rw [b12, d03, b11]
  by_cases c0 : c = 0
  · subst c0
    rw [if_pos (show nI 0 = 0 from rfl), if_pos (show nI 0 = 0 from rfl)]
    exact api_no (W := w3) (k := 3) hh (by decide) (by decide)
  · have hne : ¬ nI c = 0 := nI_ne0 (by omega) (by omega)
    have hp : (((nI nx + 5) - 1) - ((nI nx + 5) - 1) / 5 * 5) = nI ((nx + 4) % 5) := by
      have key : ∀ n, n < 5 → (((nI n + 5) - 1) - ((nI n + 5) - 1) / 5 * 5) = nI ((n + 4) % 5) := by decide +kernel
      exact key nx hn
    obtain ⟨c', rfl⟩ : ∃ c', c = c' + 1 := ⟨c - 1, by omega⟩
    rw [if_neg hne, if_neg hne, hp, nI_clamp (by omega), nI_pred, refused_0]
    dsimp only
    rw [if_neg n10, if_pos (show (0 : Int32) = 0 from rfl), up2_j (show (3 : Nat) ≠ 4 by decide), d03, nI_pred]
    have hpn : (nx + 4) % 5 < 5 := Nat.mod_lt _ (by decide)
    have e3 : (up2 (up2 δ 0 4 0) 0 3 (nI c')) 0 3 = nI c' := up2_s
    have eu : f_X9_undo_l33 fu382 0 (up2 (up2 δ 0 4 0) 0 3 (nI c')) = _ := undo_l fu382 0 _ (by omega) (by unfold fu382; omega) (by rw [e3, nI_toInt (by omega)]; omega)
    rw [e3, nI_clamp (by omega)] at eu
    have u1 : ∀ k, k < 381 → f_X9_undo_l33 fu382 0 (up2 (up2 δ 0 4 0) 0 3 (nI c')) 1 k = δ 2 (381 * c' + k) := fun k hk => by
      rw [eu]
      dsimp only
      rw [if_pos ⟨rfl, by omega, hk⟩, up2_k (by decide), up2_k (by decide)]
    have uo : ∀ a, a ≠ 1 → f_X9_undo_l33 fu382 0 (up2 (up2 δ 0 4 0) 0 3 (nI c')) a = (up2 (up2 δ 0 4 0) 0 3 (nI c')) a := fun a ha => by
      rw [eu]
      funext b
      exact if_neg (by omega)
    have cl : ∀ s : St, ∀ k, k < 6 → cpB 0 (2 + (nx + 4) % 5) s k = s k := fun s k hk => cpB_low hk
    refine api_y2 ⟨?_, ⟨c', (nx + 4) % 5, by omega, hpn, ?_, ?_, ?_, fun j hj => ?_⟩, m3.congr ?_ ?_ ?_ ?_ ?_ ?_, ?_⟩ ?_ ?_
    · refine ((hr c' (by omega)).copy (fun a b ha hm => ?_)).cong u1
      have hq : 2 + (nx + 5 - (c' + 1) + c') % 5 = 2 + (nx + 4) % 5 := by omega
      show cpB 0 (2 + (nx + 4) % 5) _ (gmM 0 a) b = zz a b (β (gmM (2 + (nx + 5 - (c' + 1) + c') % 5) a) b)
      rw [hq, (cpB_0 ha).1 hm, up2_k (by unfold gmM; omega), up2_k (by unfold gmM; omega)]
    · rw [cl _ 1 (by decide), up2_s]
    · rw [uo 0 (by decide), up2_s]
    · rw [cl _ 1 (by decide), up2_j (by decide), up2_s]
    · have hq : 2 + ((nx + 4) % 5 + 5 - c' + j) % 5 = 2 + (nx + 5 - (c' + 1) + j) % 5 := by omega
      rw [hq]
      refine ((hr j (by omega)).mcong (fun a b ha => ?_)).cong (fun k hk => ?_)
      · show cpB 0 (2 + (nx + 4) % 5) _ (gmM _ a) b = β (gmM _ a) b
        rw [cpB_1 (by unfold gmM; omega), up2_k (by unfold gmM; omega), up2_k (by unfold gmM; omega)]
      · rw [uo 2 (by decide), up2_k (by decide), up2_k (by decide)]
    · rw [cl _ 3 (by decide), up2_rowk (by decide), up2_rowk (by decide)]
    · rw [cl _ 4 (by decide), up2_rowk (by decide), up2_rowk (by decide)]
    · rw [cl _ 5 (by decide), up2_rowk (by decide), up2_rowk (by decide)]
    · rw [uo 0 (by decide), up2_j (by decide), up2_j (by decide)]
    · rw [uo 4 (by decide), up2_rowk (by decide), up2_rowk (by decide)]
    · rw [uo 5 (by decide), up2_rowk (by decide), up2_rowk (by decide)]
    · rw [cl _ 0 (by decide), up2_rowk (by decide), up2_rowk (by decide), uo 0 (by decide), up2_j (by decide), up2_j (by decide)]; exact m4
    · rw [uo 0 (by decide), up2_j (by decide), up2_s]
    · rw [cl _ 1 (by decide), up2_s, uo 0 (by decide), up2_s]
end Keep
