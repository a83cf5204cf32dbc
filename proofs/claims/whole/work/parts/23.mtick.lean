theorem run_ge : ∀ (n k : Nat) (a : Int32) (t : St), k ≤ 12 → 12 < k + n → (t 1 9).toInt ≤ 12 → a.toInt ≤ (f_X9_running_l4 n k a t).toInt ∧ ∀ j : Nat, k ≤ j → (j : Int) < (t 1 9).toInt → (f_X9_of t (t 1 (10 + j)) 0).toInt ≤ (f_X9_running_l4 n k a t).toInt
  | 0, k, a, t, hk, hn, _ => absurd hn (by omega)
  | n + 1, k, a, t, hk, hn, hH => by
    by_cases c : t 1 9 ≤ nI k
    · have e : f_X9_running_l4 (n + 1) k a t = a := if_pos c
      rw [e]
      rw [i32_le, nI_toInt (by omega)] at c
      exact ⟨Int.le_refl _, fun j h1 h2 => by omega⟩
    · have e : f_X9_running_l4 (n + 1) k a t = f_X9_running_l4 n (k + 1) (if f_X9_of t (t 1 (10 + k)) 0 ≤ a then a else f_X9_of t (t 1 (10 + k)) 0) t := if_neg c
      rw [e]
      have hk1 := kb_ge c (B := 12) (by omega) hk (by decide)
      obtain ⟨h1, h2⟩ := run_ge n (k + 1) (if f_X9_of t (t 1 (10 + k)) 0 ≤ a then a else f_X9_of t (t 1 (10 + k)) 0) t (by omega) (by omega) hH
      have h3 : a.toInt ≤ (if f_X9_of t (t 1 (10 + k)) 0 ≤ a then a else f_X9_of t (t 1 (10 + k)) 0).toInt ∧ (f_X9_of t (t 1 (10 + k)) 0).toInt ≤ (if f_X9_of t (t 1 (10 + k)) 0 ≤ a then a else f_X9_of t (t 1 (10 + k)) 0).toInt := by
        by_cases c2 : f_X9_of t (t 1 (10 + k)) 0 ≤ a
        · rw [if_pos c2]; rw [i32_le] at c2; exact ⟨Int.le_refl _, c2⟩
        · rw [if_neg c2]; rw [i32_le] at c2; exact ⟨by omega, Int.le_refl _⟩
      refine ⟨by omega, fun j h4 h5 => ?_⟩
      by_cases hj : j = k
      · subst hj; omega
      · exact h2 j (by omega) h5
theorem gr_l {a b : Int32} : a.toInt ≤ (f_X9_greater a b).toInt ∧ b.toInt ≤ (f_X9_greater a b).toInt := by
  unfold f_X9_greater
  by_cases c : a ≤ b
  · rw [if_pos c]; rw [i32_le] at c; exact ⟨c, Int.le_refl _⟩
  · rw [if_neg c]; rw [i32_le] at c; exact ⟨Int.le_refl _, by omega⟩
theorem level_ge {σ : St} (I : InvD σ) {j : Nat} (h : (j : Int) < (σ 1 9).toInt) : (f_X9_of σ (σ 1 (10 + j)) 0).toInt ≤ (f_X9_level σ).toInt := by
  have h1 := (run_ge 13 0 0 σ (by omega) (by omega) I.1.2.1.2).2 j (by omega) h
  have h2 := (gr_l (a := f_X9_ceiling σ) (b := f_X9_running σ)).2
  have h3 := (gr_l (a := σ 1 1) (b := f_X9_greater (f_X9_ceiling σ) (f_X9_running σ))).2
  have e1 : f_X9_running σ = f_X9_running_l4 13 0 0 σ := rfl
  have e2 : f_X9_level σ = f_X9_greater (σ 1 1) (f_X9_greater (f_X9_ceiling σ) (f_X9_running σ)) := rfl
  rw [e2]
  rw [e1] at h2
  rw [e1] at h3 ⊢
  omega
/-- who the loop of the candidate finds -/
def cdOK (σ : St) (L : Int) (b : Int32) : Prop := b = -1 ∨ ∃ j : Nat, (j : Int) < (σ 1 8).toInt ∧ b = nI j ∧ L < (f_X9_of σ (nI j) 0).toInt
theorem cand_l : ∀ (n k : Nat) (b a : Int32) (t : St) (L : Int), k ≤ 12 → (t 1 8).toInt ≤ 12 → L ≤ a.toInt → cdOK t L b → cdOK t L (f_X9_candidate_l9 n k b a t)
  | 0, k, b, a, t, L, _, _, _, hb => hb
  | n + 1, k, b, a, t, L, hk, hM, ha, hb => by
    by_cases c : t 1 8 ≤ nI k
    · have e : f_X9_candidate_l9 (n + 1) k b a t = b := if_pos c
      rw [e]; exact hb
    · have e := show f_X9_candidate_l9 (n + 1) k b a t = _ from if_neg c
      rw [e]
      have hk1 := kb_ge c (B := 12) (by omega) hk (by decide)
      have hkM := kc_ge c (by omega)
      dsimp only
      by_cases c1 : f_X9_of t (nI k) 3 = 1
      · rw [if_pos c1]
        by_cases c2 : f_X9_of t (nI k) 0 ≤ a
        · rw [if_pos c2, if_pos rfl, if_pos rfl]
          exact cand_l n (k + 1) b a t L (by omega) hM ha hb
        · rw [if_neg c2]
          by_cases c3 : f_X9_isPending t (nI k) = 0
          · rw [if_pos c3, if_pos rfl, if_pos rfl]
            exact cand_l n (k + 1) b a t L (by omega) hM ha hb
          · rw [if_neg c3, if_neg (by decide), if_neg (by decide)]
            rw [i32_le] at c2
            exact cand_l n (k + 1) _ _ t L (by omega) hM (by omega) (Or.inr ⟨k, hkM, rfl, by omega⟩)
      · rw [if_neg c1, if_pos rfl, if_pos rfl]
        exact cand_l n (k + 1) b a t L (by omega) hM ha hb
theorem cand_ok {σ : St} {r : Int32} (I : InvD σ) (er : f_X9_candidate σ = r) (h : ¬ r = -1) : eOK σ r := by
  have h1 := cand_l 13 0 (-1) (f_X9_level σ) σ (f_X9_level σ).toInt (by omega) I.1.1.2 (Int.le_refl _) (Or.inl rfl)
  have e1 : f_X9_candidate σ = f_X9_candidate_l9 13 0 (-1) (f_X9_level σ) σ := rfl
  rw [← e1, er] at h1
  rcases h1 with h1 | ⟨j, hj, rfl, hp⟩
  · exact absurd h1 h
  · have hM := I.1.1.2
    refine ⟨?_, fun k hk e => ?_⟩
    · rw [nI_toInt (by omega)]; exact ⟨by omega, hj⟩
    · have := level_ge I hk
      rw [e] at this
      omega
theorem InvR.who {ρ : Nat → Int32} {w : Int32} (I : InvR ρ) (h : (0 ≤ w.toInt ∧ w.toInt < (ρ 8).toInt) ∧ ∀ k : Nat, (k : Int) < (ρ 9).toInt → ρ (10 + k) ≠ w) : InvR (upd ρ 6 w) := by
  obtain ⟨q1, q2, q3, q4, q5, q6, q7⟩ := I
  have q : ∀ y, y ≠ 6 → upd ρ 6 w y = ρ y := fun y h9 => upd_n h9
  refine ⟨?_, ?_, ?_, fun k hk => ?_, fun j k hj hk => ?_, fun h1 => ?_, fun s hs2 => ?_⟩
  · rw [q 8 (by decide)]; exact q1
  · rw [q 9 (by decide)]; exact q2
  · rw [q 22 (by decide)]; exact q3
  · rw [q 9 (by decide)] at hk
    rw [q 8 (by decide), q (10 + k) (by omega)]; exact q4 k hk
  · rw [q 9 (by decide)] at hk
    rw [q (10 + k) (by omega), q (10 + j) (by omega)]; exact q5 j k hj hk
  · rw [upd_s, q 8 (by decide), q 9 (by decide)]
    exact ⟨h.1, fun k hk => by rw [q (10 + k) (by omega)]; exact h.2 k hk⟩
  · rw [q (100 + 24 * s) (by omega)]; exact q7 s hs2
theorem InvD.who {σ : St} {w : Int32} (h : eOK σ w) (I : InvD σ) : InvD (up2 σ 1 6 w) := I.up1 (I.1.who h)
theorem ent_of {σ : St} {r : Int32} (er : f_X9_isEntering σ = r) (h : ¬ r = 0) : σ 1 5 = 1 ∨ σ 1 5 = 3 := by
  unfold f_X9_isEntering at er
  by_cases c1 : σ 1 5 = 1
  · exact Or.inl c1
  · rw [if_neg c1] at er
    by_cases c3 : σ 1 5 = 3
    · exact Or.inr c3
    · rw [if_neg c3] at er; exact absurd er.symm h
theorem InvD.pop {σ : St} {x : Int32} (hx : σ 1 9 = x) (h0 : ¬ x = 0) (I : InvD σ) : InvD (up2 σ 1 9 (x - 1)) := I.up1 (I.1.pop hx h0)
/-- nobody is entered, and who comes has a place -/
def NE (τ : St) (w : Int32) : Prop := InvD τ ∧ τ 1 5 = 0 ∧ eOK τ w
theorem NE.up {σ : St} {k j : Nat} {v w : Int32} (N : NE σ w) (h : InvDcr k j) : NE (up2 σ k j v) w := by
  obtain ⟨I, a, b⟩ := N
  have q : ∀ y, crR y → up2 σ k j v 1 y = σ 1 y := fun y hy => if_neg (by unfold InvDcr at h; rintro ⟨rfl, rfl⟩; omega)
  have hb := I.1.2.1.2
  refine ⟨I.up h, by rw [q 5 (by decide)]; exact a, ?_⟩
  unfold eOK
  rw [q 8 (by decide), q 9 (by decide)]
  exact ⟨b.1, fun x hx => by rw [q (10 + x) (by unfold crR; omega)]; exact b.2 x hx⟩
theorem NE.push {σ : St} {x w : Int32} (hx : σ 1 9 = x) (N : NE σ w) : InvD (up2 (up2 σ 1 (10 + x.toNatClampNeg) w) 1 9 (x + 1)) := by
  obtain ⟨I, a, b⟩ := N
  refine I.row ?_ ?_ ?_ ?_
  · rw [up2_rowk (by decide), up2_rowk (by decide)]
  · rw [up2_rowk (by decide), up2_rowk (by decide)]
  · rw [up2_rowk (by decide), up2_rowk (by decide)]
  · rw [up2_row, up2_row]
    have := b.room I
    have := I.1.1.2
    exact I.1.push hx a b.1 b.2 (by omega)
theorem ne_of {σ s : St} {w : Int32} (es : f_X9_changes σ 2 (-1) 0 = s) (I : InvD s) (hE : eOK σ w) : NE s w := by
  have e : f_X9_changes σ 2 (-1) 0 = up2 (up2 (up2 σ 1 5 0) 1 6 (-1)) 1 7 0 := rfl
  rw [e] at es
  subst es
  refine ⟨I, rfl, ?_⟩
  unfold eOK
  rw [show up2 (up2 (up2 σ 1 5 0) 1 6 (-1)) 1 7 0 1 8 = σ 1 8 from rfl, show up2 (up2 (up2 σ 1 5 0) 1 6 (-1)) 1 7 0 1 9 = σ 1 9 from rfl]
  refine ⟨hE.1, fun k hk => ?_⟩
  rw [up2_j (by omega), up2_j (by omega), up2_j (by omega)]
  exact hE.2 k hk
theorem h_ix {x : Int32} (h : 0 ≤ x.toInt ∧ x.toInt ≤ 12) : (10 + x).toNatClampNeg = 10 + x.toNatClampNeg := by
  obtain ⟨k, hk, rfl⟩ := of_nI (n := 13) ⟨h.1, by omega⟩ (by decide)
  rw [show (10 : Int32) = nI 10 from rfl, add_ix (by omega), nI_clamp (by omega)]
theorem h_vp {x : Int32} (h : 0 ≤ x.toInt ∧ x.toInt ≤ 12) : vp_in (10 + x) 381 := by
  obtain ⟨k, hk, rfl⟩ := of_nI (n := 13) ⟨h.1, by omega⟩ (by decide)
  exact add_vp (a := 10) (by omega) (by decide)
theorem h_le {x : Int32} (h : 0 ≤ x.toInt ∧ x.toInt ≤ 12) : x.toNatClampNeg ≤ 12 := by
  have := tnc h.1
  omega
theorem top_eq {x : Int32} (h : 0 ≤ x.toInt ∧ x.toInt ≤ 12) : 10 + x - 1 = nI (9 + x.toNatClampNeg) := by
  obtain ⟨k, hk, rfl⟩ := of_nI (n := 13) ⟨h.1, by omega⟩ (by decide)
  rw [nI_clamp (by omega), show (10 : Int32) = nI 10 from rfl, show (1 : Int32) = nI 1 from rfl, nI_add, pk_sub (by omega)]
  congr 1
  omega
theorem top_ix {x : Int32} (h : 0 ≤ x.toInt ∧ x.toInt ≤ 12) : (10 + x - 1).toNatClampNeg = 9 + x.toNatClampNeg := by
  rw [top_eq h, nI_clamp (by have := h_le h; omega)]
theorem top_vp {x : Int32} (h : 0 ≤ x.toInt ∧ x.toInt ≤ 12) : vp_in (10 + x - 1) 381 := by
  rw [top_eq h]
  exact vp_in_nI (by have := h_le h; omega) (by decide)
theorem InvD.top {σ : St} (I : InvD σ) (h0 : ¬ σ 1 9 = 0) : 0 ≤ (σ 1 (9 + (σ 1 9).toNatClampNeg)).toInt ∧ (σ 1 (9 + (σ 1 9).toNatClampNeg)).toInt < 12 := by
  have h1 := I.1.2.1
  have h2 := tnc h1.1
  have h3 : (σ 1 9).toInt ≠ 0 := fun e => h0 (Int32.toInt_inj.mp e)
  have := I.stk (k := (σ 1 9).toNatClampNeg - 1) (by omega)
  rw [show 10 + ((σ 1 9).toNatClampNeg - 1) = 9 + (σ 1 9).toNatClampNeg by omega] at this
  exact this
theorem nle0 {x : Int32} (h : ¬ x ≤ 0) : ¬ x = 0 := fun e => h (by rw [e]; decide)

abbrev rmX9_comesOnTop : Room := { frames := 1, cells := 0, slots := 0, locals := 24 }
def f_X9_comesOnTop (σ : St) (p1 : Int32) : St := (let r9 := f_X9_at (σ 1 6); (let s17 := f_X9_changes σ 2 (-1) 0; (let r95 := f_X9_greater (s17 1 (ix (σ 1 6) + 21)) (p1 - (s17 1 (ix (σ 1 6) + 6))); (let r158 := f_X9_greater (s17 1 91) ((s17 1 9) + 1); (let s166 := f_X9_logs (up2 (up2 (up2 (up2 (up2 (up2 (up2 (up2 (up2 s17 1 (ix (σ 1 6) + 4) 0) 1 (ix (σ 1 6) + 16) 0) 1 (ix (σ 1 6) + 17) ((s17 1 (ix (σ 1 6) + 17)) + 1)) 1 (ix (σ 1 6) + 20) (p1 - (s17 1 (ix (σ 1 6) + 6)))) 1 (ix (σ 1 6) + 21) r95) 1 92 ((s17 1 92) + (p1 - (s17 1 (ix (σ 1 6) + 6))))) 1 (10 + (s17 1 9).toNatClampNeg) (σ 1 6)) 1 9 ((s17 1 9) + 1)) 1 91 r158) 1 (σ 1 6) p1; s166)))))
theorem v_X9_comesOnTop : cvV yX9_comesOnTop "NestedBellsModel" cX9_comesOnTop 5 none 1 := ⟨q_5_192, s_63, q_1_10, q_5_193, rfl, by decide +kernel, by decide +kernel, by decide +kernel⟩
set_option maxHeartbeats 4000000 in
set_option maxRecDepth 100000 in
theorem k_X9_comesOnTop {l : Launch} {D : va_G} {T : Nat → ClassId} {g ad : Nat → Nat} {σ : St} {p1 : Int32} (I0 : InvD σ) (hE : eOK σ (σ 1 6)) : mX l yX9_comesOnTop cX9_comesOnTop 5 none rmX9_comesOnTop D T g 6 ad (cE (dE T ad) σ) [.ref (ad 0), .int p1] (qV D 6 ad (dE T ad) (pV (f_X9_comesOnTop σ p1) InvD)) := by
  refine mX.of (own := "NestedBellsModel") (by decide +kernel) (Nat.le_of_ble_eq_true rfl) rfl ?_
  intro p e s m below meth c A ls H locs Z hr hlk _ hw hl
  have hx := Z.1.1
  have hb := Z.1.2.1
  have hl : lv_has ls 5 [(0, .ref (ad 0)), (1, .int p1)] := hl
  refine lv_aload_n hx hb dX9_comesOnTop_0 rfl (lv_at hl 0 rfl) ?_
  refine gD (j := 0) (v := .ref (ad 1)) Z hw  (by decide) q_4_212 rfl rfl dX9_comesOnTop_1 ?_
  refine lv_bipush (v := 6) hx hb dX9_comesOnTop_4 (by decide +kernel) ?_
  refine aE (v := σ 1 6) Z hw 1 (by decide) rfl (fun _ => rfl) (vp_in_nI (n := 6) (by decide) (by decide)) ((congrArg (σ 1) (nI_clamp (n := 6) (by decide))).trans rfl) dX9_comesOnTop_6 ?_
  refine lv_istore_n (lv' := [(2, .int (σ 1 6)), (0, .ref (ad 0)), (1, .int p1)]) hx hb dX9_comesOnTop_7 rfl hl (by decide) rfl (fun ls hl => ?_)
  refine lv_iload_n hx hb dX9_comesOnTop_8 rfl (lv_at hl 0 rfl) ?_
  refine bk_ip (rnS (rest := []) Z hw (k_X9_at (p1 := σ 1 6) ) v_X9_at rfl q_5_40 hl.1 rfl rfl (Nat.le_of_ble_eq_true rfl) ⟨(Nat.le_of_ble_eq_true rfl), (Nat.le_of_ble_eq_true rfl)⟩ ⟨(Nat.le_of_ble_eq_true rfl), (Nat.le_of_ble_eq_true rfl)⟩ dX9_comesOnTop_9) hw Z (fun r9 er9 H locs hw => ?_)
  refine lv_istore_n (lv' := [(3, .int r9), (2, .int (σ 1 6)), (0, .ref (ad 0)), (1, .int p1)]) hx hb dX9_comesOnTop_12 rfl hl (by decide) rfl (fun ls hl => ?_)
  refine lv_aload_n hx hb dX9_comesOnTop_13 rfl (lv_at hl 2 rfl) ?_
  refine lv_iconst (v := 2) hx hb dX9_comesOnTop_14 (by decide +kernel) ?_
  refine lv_iconst (v := (-1)) hx hb dX9_comesOnTop_15 (by decide +kernel) ?_
  refine lv_iconst (v := 0) hx hb dX9_comesOnTop_16 (by decide +kernel) ?_
  refine bk_v (rnV (rest := []) Z hw (k_X9_changes (p1 := 2) (p2 := (-1)) (p3 := 0) I0 (no13 (by decide) (by decide))) v_X9_changes q_5_186 (0) (by decide) rfl rfl rfl rfl hl.1 rfl rfl (Nat.le_of_ble_eq_true rfl) ⟨(Nat.le_of_ble_eq_true rfl), (Nat.le_of_ble_eq_true rfl)⟩ ⟨(Nat.le_of_ble_eq_true rfl), (Nat.le_of_ble_eq_true rfl)⟩ dX9_comesOnTop_17) hw Z (fun s17 H locs hp hw => ?_)
  obtain ⟨es17, I17⟩ := hp
  have N17 : NE s17 (σ 1 6) := ne_of es17 I17 hE
  refine lv_iload_n hx hb dX9_comesOnTop_20 rfl (lv_at hl 3 rfl) ?_
  refine lv_aload_n hx hb dX9_comesOnTop_21 rfl (lv_at hl 2 rfl) ?_
  refine gD (j := 0) (v := .ref (ad 1)) Z hw  (by decide) q_4_212 rfl rfl dX9_comesOnTop_22 ?_
  refine lv_iload_n hx hb dX9_comesOnTop_25 rfl (lv_at hl 0 rfl) ?_
  refine lv_bipush (v := 6) hx hb dX9_comesOnTop_26 (by decide +kernel) ?_
  refine lv_iadd hx hb dX9_comesOnTop_28 ?_
  refine aE (v := s17 1 (ix (σ 1 6) + 6)) Z hw 1 (by decide) rfl (fun _ => rfl) (at_vp er9 (hE.rng I0) (w := 6) (by omega)) ((congrArg (s17 1) (at_ix er9 (hE.rng I0) (w := 6) (by omega))).trans rfl) dX9_comesOnTop_29 ?_
  refine lv_isub hx hb dX9_comesOnTop_30 ?_
  refine lv_istore (lv' := [(4, .int (p1 - (s17 1 (ix (σ 1 6) + 6)))), (3, .int r9), (2, .int (σ 1 6)), (0, .ref (ad 0)), (1, .int p1)]) hx hb dX9_comesOnTop_31 hl (by decide) rfl (fun ls hl => ?_)
  refine lv_aload_n hx hb dX9_comesOnTop_33 rfl (lv_at hl 3 rfl) ?_
  refine gD (j := 0) (v := .ref (ad 1)) Z hw  (by decide) q_4_212 rfl rfl dX9_comesOnTop_34 ?_
  refine lv_iload_n hx hb dX9_comesOnTop_37 rfl (lv_at hl 1 rfl) ?_
  refine lv_iconst (v := 4) hx hb dX9_comesOnTop_38 (by decide +kernel) ?_
  refine lv_iadd hx hb dX9_comesOnTop_39 ?_
  refine lv_iconst (v := 0) hx hb dX9_comesOnTop_40 (by decide +kernel) ?_
  refine sE (j := ix (σ 1 6) + 4) Z hw 1 (by decide) rfl (fun _ => rfl) (at_vp er9 (hE.rng I0) (w := 4) (by omega)) (at_ix er9 (hE.rng I0) (w := 4) (by omega)) dX9_comesOnTop_41 (fun H locs hw => ?_)
  refine lv_aload_n hx hb dX9_comesOnTop_42 rfl (lv_at hl 3 rfl) ?_
  refine gD (j := 0) (v := .ref (ad 1)) Z hw  (by decide) q_4_212 rfl rfl dX9_comesOnTop_43 ?_
  refine lv_iload_n hx hb dX9_comesOnTop_46 rfl (lv_at hl 1 rfl) ?_
  refine lv_bipush (v := 16) hx hb dX9_comesOnTop_47 (by decide +kernel) ?_
  refine lv_iadd hx hb dX9_comesOnTop_49 ?_
  refine lv_iconst (v := 0) hx hb dX9_comesOnTop_50 (by decide +kernel) ?_
  refine sE (j := ix (σ 1 6) + 16) Z hw 1 (by decide) rfl (fun _ => rfl) (at_vp er9 (hE.rng I0) (w := 16) (by omega)) (at_ix er9 (hE.rng I0) (w := 16) (by omega)) dX9_comesOnTop_51 (fun H locs hw => ?_)
  refine lv_aload_n hx hb dX9_comesOnTop_52 rfl (lv_at hl 3 rfl) ?_
  refine gD (j := 0) (v := .ref (ad 1)) Z hw  (by decide) q_4_212 rfl rfl dX9_comesOnTop_53 ?_
  refine lv_iload_n hx hb dX9_comesOnTop_56 rfl (lv_at hl 1 rfl) ?_
  refine lv_bipush (v := 17) hx hb dX9_comesOnTop_57 (by decide +kernel) ?_
  refine lv_iadd hx hb dX9_comesOnTop_59 ?_
  refine lv_dup2_11 hx hb dX9_comesOnTop_60 rfl rfl ?_
  refine aE (v := s17 1 (ix (σ 1 6) + 17)) Z hw 1 (by decide) rfl (fun _ => rfl) (at_vp er9 (hE.rng I0) (w := 17) (by omega)) ((congrArg ((up2 (up2 s17 1 (ix (σ 1 6) + 4) 0) 1 (ix (σ 1 6) + 16) 0) 1) (at_ix er9 (hE.rng I0) (w := 17) (by omega))).trans ((up2_j (by omega)).trans (up2_j (by omega)))) dX9_comesOnTop_61 ?_
  refine lv_iconst (v := 1) hx hb dX9_comesOnTop_62 (by decide +kernel) ?_
  refine lv_iadd hx hb dX9_comesOnTop_63 ?_
  refine sE (j := ix (σ 1 6) + 17) Z hw 1 (by decide) rfl (fun _ => rfl) (at_vp er9 (hE.rng I0) (w := 17) (by omega)) (at_ix er9 (hE.rng I0) (w := 17) (by omega)) dX9_comesOnTop_64 (fun H locs hw => ?_)
  refine lv_aload_n hx hb dX9_comesOnTop_65 rfl (lv_at hl 3 rfl) ?_
  refine gD (j := 0) (v := .ref (ad 1)) Z hw  (by decide) q_4_212 rfl rfl dX9_comesOnTop_66 ?_
  refine lv_iload_n hx hb dX9_comesOnTop_69 rfl (lv_at hl 1 rfl) ?_
  refine lv_bipush (v := 20) hx hb dX9_comesOnTop_70 (by decide +kernel) ?_
  refine lv_iadd hx hb dX9_comesOnTop_72 ?_
  refine lv_iload hx hb dX9_comesOnTop_73 (lv_at hl 0 rfl) ?_
  refine sE (j := ix (σ 1 6) + 20) Z hw 1 (by decide) rfl (fun _ => rfl) (at_vp er9 (hE.rng I0) (w := 20) (by omega)) (at_ix er9 (hE.rng I0) (w := 20) (by omega)) dX9_comesOnTop_75 (fun H locs hw => ?_)
  refine lv_aload_n hx hb dX9_comesOnTop_76 rfl (lv_at hl 3 rfl) ?_
  refine gD (j := 0) (v := .ref (ad 1)) Z hw  (by decide) q_4_212 rfl rfl dX9_comesOnTop_77 ?_
  refine lv_iload_n hx hb dX9_comesOnTop_80 rfl (lv_at hl 1 rfl) ?_
  refine lv_bipush (v := 21) hx hb dX9_comesOnTop_81 (by decide +kernel) ?_
  refine lv_iadd hx hb dX9_comesOnTop_83 ?_
  refine lv_aload_n hx hb dX9_comesOnTop_84 rfl (lv_at hl 3 rfl) ?_
  refine gD (j := 0) (v := .ref (ad 1)) Z hw  (by decide) q_4_212 rfl rfl dX9_comesOnTop_85 ?_
  refine lv_iload_n hx hb dX9_comesOnTop_88 rfl (lv_at hl 1 rfl) ?_
  refine lv_bipush (v := 21) hx hb dX9_comesOnTop_89 (by decide +kernel) ?_
  refine lv_iadd hx hb dX9_comesOnTop_91 ?_
  refine aE (v := s17 1 (ix (σ 1 6) + 21)) Z hw 1 (by decide) rfl (fun _ => rfl) (at_vp er9 (hE.rng I0) (w := 21) (by omega)) ((congrArg ((up2 (up2 (up2 (up2 s17 1 (ix (σ 1 6) + 4) 0) 1 (ix (σ 1 6) + 16) 0) 1 (ix (σ 1 6) + 17) ((s17 1 (ix (σ 1 6) + 17)) + 1)) 1 (ix (σ 1 6) + 20) (p1 - (s17 1 (ix (σ 1 6) + 6)))) 1) (at_ix er9 (hE.rng I0) (w := 21) (by omega))).trans ((up2_j (by omega)).trans ((up2_j (by omega)).trans ((up2_j (by omega)).trans (up2_j (by omega)))))) dX9_comesOnTop_92 ?_
  refine lv_iload hx hb dX9_comesOnTop_93 (lv_at hl 0 rfl) ?_
  refine bk_ip (rnS (rest := [.int (r9 + 21), .ref (ad 1)]) Z hw (k_X9_greater (p1 := s17 1 (ix (σ 1 6) + 21)) (p2 := p1 - (s17 1 (ix (σ 1 6) + 6))) ) v_X9_greater rfl q_5_175 hl.1 rfl rfl (Nat.le_of_ble_eq_true rfl) ⟨(Nat.le_of_ble_eq_true rfl), (Nat.le_of_ble_eq_true rfl)⟩ ⟨(Nat.le_of_ble_eq_true rfl), (Nat.le_of_ble_eq_true rfl)⟩ dX9_comesOnTop_95) hw Z (fun r95 er95 H locs hw => ?_)
  refine sE (j := ix (σ 1 6) + 21) Z hw 1 (by decide) rfl (fun _ => rfl) (at_vp er9 (hE.rng I0) (w := 21) (by omega)) (at_ix er9 (hE.rng I0) (w := 21) (by omega)) dX9_comesOnTop_98 (fun H locs hw => ?_)
  refine lv_aload_n hx hb dX9_comesOnTop_99 rfl (lv_at hl 3 rfl) ?_
  refine gD (j := 0) (v := .ref (ad 1)) Z hw  (by decide) q_4_212 rfl rfl dX9_comesOnTop_100 ?_
  refine lv_bipush (v := 92) hx hb dX9_comesOnTop_103 (by decide +kernel) ?_
  refine lv_dup2_11 hx hb dX9_comesOnTop_105 rfl rfl ?_
  refine aE (v := s17 1 92) Z hw 1 (by decide) rfl (fun _ => rfl) (vp_in_nI (n := 92) (by decide) (by decide)) ((congrArg ((up2 (up2 (up2 (up2 (up2 s17 1 (ix (σ 1 6) + 4) 0) 1 (ix (σ 1 6) + 16) 0) 1 (ix (σ 1 6) + 17) ((s17 1 (ix (σ 1 6) + 17)) + 1)) 1 (ix (σ 1 6) + 20) (p1 - (s17 1 (ix (σ 1 6) + 6)))) 1 (ix (σ 1 6) + 21) r95) 1) (nI_clamp (n := 92) (by decide))).trans ((up2_j (by unfold ix; omega)).trans ((up2_j (by unfold ix; omega)).trans ((up2_j (by unfold ix; omega)).trans ((up2_j (by unfold ix; omega)).trans (up2_j (by unfold ix; omega))))))) dX9_comesOnTop_106 ?_
  refine lv_iload hx hb dX9_comesOnTop_107 (lv_at hl 0 rfl) ?_
  refine lv_iadd hx hb dX9_comesOnTop_109 ?_
  refine sE (j := 92) Z hw 1 (by decide) rfl (fun _ => rfl) (vp_in_nI (n := 92) (by decide) (by decide)) (nI_clamp (n := 92) (by decide)) dX9_comesOnTop_110 (fun H locs hw => ?_)
  refine lv_aload_n hx hb dX9_comesOnTop_111 rfl (lv_at hl 3 rfl) ?_
  refine gD (j := 0) (v := .ref (ad 1)) Z hw  (by decide) q_4_212 rfl rfl dX9_comesOnTop_112 ?_
  refine lv_bipush (v := 10) hx hb dX9_comesOnTop_115 (by decide +kernel) ?_
  refine lv_aload_n hx hb dX9_comesOnTop_117 rfl (lv_at hl 3 rfl) ?_
  refine gD (j := 0) (v := .ref (ad 1)) Z hw  (by decide) q_4_212 rfl rfl dX9_comesOnTop_118 ?_
  refine lv_bipush (v := 9) hx hb dX9_comesOnTop_121 (by decide +kernel) ?_
  refine aE (v := s17 1 9) Z hw 1 (by decide) rfl (fun _ => rfl) (vp_in_nI (n := 9) (by decide) (by decide)) ((congrArg ((up2 (up2 (up2 (up2 (up2 (up2 s17 1 (ix (σ 1 6) + 4) 0) 1 (ix (σ 1 6) + 16) 0) 1 (ix (σ 1 6) + 17) ((s17 1 (ix (σ 1 6) + 17)) + 1)) 1 (ix (σ 1 6) + 20) (p1 - (s17 1 (ix (σ 1 6) + 6)))) 1 (ix (σ 1 6) + 21) r95) 1 92 ((s17 1 92) + (p1 - (s17 1 (ix (σ 1 6) + 6))))) 1) (nI_clamp (n := 9) (by decide))).trans ((up2_j (by decide)).trans ((up2_j (by unfold ix; omega)).trans ((up2_j (by unfold ix; omega)).trans ((up2_j (by unfold ix; omega)).trans ((up2_j (by unfold ix; omega)).trans (up2_j (by unfold ix; omega)))))))) dX9_comesOnTop_123 ?_
  refine lv_iadd hx hb dX9_comesOnTop_124 ?_
  refine lv_iload_n hx hb dX9_comesOnTop_125 rfl (lv_at hl 2 rfl) ?_
  refine sE (j := 10 + (s17 1 9).toNatClampNeg) Z hw 1 (by decide) rfl (fun _ => rfl) (h_vp I17.1.2.1) (h_ix I17.1.2.1) dX9_comesOnTop_126 (fun H locs hw => ?_)
  refine lv_aload_n hx hb dX9_comesOnTop_127 rfl (lv_at hl 3 rfl) ?_
  refine gD (j := 0) (v := .ref (ad 1)) Z hw  (by decide) q_4_212 rfl rfl dX9_comesOnTop_128 ?_
  refine lv_bipush (v := 9) hx hb dX9_comesOnTop_131 (by decide +kernel) ?_
  refine lv_dup2_11 hx hb dX9_comesOnTop_133 rfl rfl ?_
  refine aE (v := s17 1 9) Z hw 1 (by decide) rfl (fun _ => rfl) (vp_in_nI (n := 9) (by decide) (by decide)) ((congrArg ((up2 (up2 (up2 (up2 (up2 (up2 (up2 s17 1 (ix (σ 1 6) + 4) 0) 1 (ix (σ 1 6) + 16) 0) 1 (ix (σ 1 6) + 17) ((s17 1 (ix (σ 1 6) + 17)) + 1)) 1 (ix (σ 1 6) + 20) (p1 - (s17 1 (ix (σ 1 6) + 6)))) 1 (ix (σ 1 6) + 21) r95) 1 92 ((s17 1 92) + (p1 - (s17 1 (ix (σ 1 6) + 6))))) 1 (10 + (s17 1 9).toNatClampNeg) (σ 1 6)) 1) (nI_clamp (n := 9) (by decide))).trans ((up2_j (by omega)).trans ((up2_j (by decide)).trans ((up2_j (by unfold ix; omega)).trans ((up2_j (by unfold ix; omega)).trans ((up2_j (by unfold ix; omega)).trans ((up2_j (by unfold ix; omega)).trans (up2_j (by unfold ix; omega))))))))) dX9_comesOnTop_134 ?_
  refine lv_iconst (v := 1) hx hb dX9_comesOnTop_135 (by decide +kernel) ?_
  refine lv_iadd hx hb dX9_comesOnTop_136 ?_
  refine sE (j := 9) Z hw 1 (by decide) rfl (fun _ => rfl) (vp_in_nI (n := 9) (by decide) (by decide)) (nI_clamp (n := 9) (by decide)) dX9_comesOnTop_137 (fun H locs hw => ?_)
  have hH := h_le I17.1.2.1
  refine lv_aload_n hx hb dX9_comesOnTop_138 rfl (lv_at hl 3 rfl) ?_
  refine gD (j := 0) (v := .ref (ad 1)) Z hw  (by decide) q_4_212 rfl rfl dX9_comesOnTop_139 ?_
  refine lv_bipush (v := 91) hx hb dX9_comesOnTop_142 (by decide +kernel) ?_
  refine lv_aload_n hx hb dX9_comesOnTop_144 rfl (lv_at hl 3 rfl) ?_
  refine gD (j := 0) (v := .ref (ad 1)) Z hw  (by decide) q_4_212 rfl rfl dX9_comesOnTop_145 ?_
  have hH := h_le I17.1.2.1
  refine lv_bipush (v := 91) hx hb dX9_comesOnTop_148 (by decide +kernel) ?_
  refine aE (v := s17 1 91) Z hw 1 (by decide) rfl (fun _ => rfl) (vp_in_nI (n := 91) (by decide) (by decide)) ((congrArg ((up2 (up2 (up2 (up2 (up2 (up2 (up2 (up2 s17 1 (ix (σ 1 6) + 4) 0) 1 (ix (σ 1 6) + 16) 0) 1 (ix (σ 1 6) + 17) ((s17 1 (ix (σ 1 6) + 17)) + 1)) 1 (ix (σ 1 6) + 20) (p1 - (s17 1 (ix (σ 1 6) + 6)))) 1 (ix (σ 1 6) + 21) r95) 1 92 ((s17 1 92) + (p1 - (s17 1 (ix (σ 1 6) + 6))))) 1 (10 + (s17 1 9).toNatClampNeg) (σ 1 6)) 1 9 ((s17 1 9) + 1)) 1) (nI_clamp (n := 91) (by decide))).trans ((up2_j (by decide)).trans ((up2_j (by omega)).trans ((up2_j (by decide)).trans ((up2_j (by unfold ix; omega)).trans ((up2_j (by unfold ix; omega)).trans ((up2_j (by unfold ix; omega)).trans ((up2_j (by unfold ix; omega)).trans (up2_j (by unfold ix; omega)))))))))) dX9_comesOnTop_150 ?_
  refine lv_aload_n hx hb dX9_comesOnTop_151 rfl (lv_at hl 3 rfl) ?_
  refine gD (j := 0) (v := .ref (ad 1)) Z hw  (by decide) q_4_212 rfl rfl dX9_comesOnTop_152 ?_
  refine lv_bipush (v := 9) hx hb dX9_comesOnTop_155 (by decide +kernel) ?_
  refine aE (v := (s17 1 9) + 1) Z hw 1 (by decide) rfl (fun _ => rfl) (vp_in_nI (n := 9) (by decide) (by decide)) ((congrArg ((up2 (up2 (up2 (up2 (up2 (up2 (up2 (up2 s17 1 (ix (σ 1 6) + 4) 0) 1 (ix (σ 1 6) + 16) 0) 1 (ix (σ 1 6) + 17) ((s17 1 (ix (σ 1 6) + 17)) + 1)) 1 (ix (σ 1 6) + 20) (p1 - (s17 1 (ix (σ 1 6) + 6)))) 1 (ix (σ 1 6) + 21) r95) 1 92 ((s17 1 92) + (p1 - (s17 1 (ix (σ 1 6) + 6))))) 1 (10 + (s17 1 9).toNatClampNeg) (σ 1 6)) 1 9 ((s17 1 9) + 1)) 1) (nI_clamp (n := 9) (by decide))).trans up2_s) dX9_comesOnTop_157 ?_
  refine bk_ip (rnS (rest := [.int 91, .ref (ad 1)]) Z hw (k_X9_greater (p1 := s17 1 91) (p2 := (s17 1 9) + 1) ) v_X9_greater rfl q_5_175 hl.1 rfl rfl (Nat.le_of_ble_eq_true rfl) ⟨(Nat.le_of_ble_eq_true rfl), (Nat.le_of_ble_eq_true rfl)⟩ ⟨(Nat.le_of_ble_eq_true rfl), (Nat.le_of_ble_eq_true rfl)⟩ dX9_comesOnTop_158) hw Z (fun r158 er158 H locs hw => ?_)
  refine sE (j := 91) Z hw 1 (by decide) rfl (fun _ => rfl) (vp_in_nI (n := 91) (by decide) (by decide)) (nI_clamp (n := 91) (by decide)) dX9_comesOnTop_161 (fun H locs hw => ?_)
  refine lv_aload_n hx hb dX9_comesOnTop_162 rfl (lv_at hl 3 rfl) ?_
  refine lv_iconst (v := 1) hx hb dX9_comesOnTop_163 (by decide +kernel) ?_
  refine lv_iload_n hx hb dX9_comesOnTop_164 rfl (lv_at hl 2 rfl) ?_
  refine lv_iload_n hx hb dX9_comesOnTop_165 rfl (lv_at hl 4 rfl) ?_
  refine bk_v (rnV (rest := []) Z hw (k_X9_logs (p1 := 1) (p2 := σ 1 6) (p3 := p1) (InvD.up (NE.push ((up2_j (by decide)).trans ((up2_j (by unfold ix; omega)).trans ((up2_j (by unfold ix; omega)).trans ((up2_j (by unfold ix; omega)).trans ((up2_j (by unfold ix; omega)).trans (up2_j (by unfold ix; omega))))))) (id (NE.up (NE.up (NE.up (NE.up (NE.up (NE.up N17 (by unfold InvDcr ix; omega)) (by unfold InvDcr ix; omega)) (by unfold InvDcr ix; omega)) (by unfold InvDcr ix; omega)) (by unfold InvDcr ix; omega)) (by decide)))) (by decide))) v_X9_logs q_5_109 (0) (by decide) rfl rfl rfl rfl hl.1 rfl rfl (Nat.le_of_ble_eq_true rfl) ⟨(Nat.le_of_ble_eq_true rfl), (Nat.le_of_ble_eq_true rfl)⟩ ⟨(Nat.le_of_ble_eq_true rfl), (Nat.le_of_ble_eq_true rfl)⟩ dX9_comesOnTop_166) hw Z (fun s166 H locs hp hw => ?_)
  obtain ⟨es166, I166⟩ := hp
  exact rt_v Z hr hlk hw dX9_comesOnTop_169 ⟨Eq.symm (by subst es166 er158 er95 es17 er9; exact rfl), I166⟩
abbrev rmX9_decides : Room := { frames := 6, cells := 0, slots := 0, locals := 134 }
def f_X9_decides (σ : St) : St := (let r1 := f_X9_candidate σ; (let r6 := f_X9_isEntering σ; (let s245 : St := (if r6 = 0 then (if r1 = (-1) then (if r1 = (-1) then σ else (let s174 := f_X9_changes σ 1 r1 (σ 1 2); (if (s174 1 9) ≤ 0 then s174 else (let r210 := f_X9_at (s174 1 (9 + (s174 1 9).toNatClampNeg)); (let s242 := f_X9_logs (up2 (up2 s174 1 (ix (s174 1 (9 + (s174 1 9).toNatClampNeg)) + 22) ((s174 1 (ix (s174 1 (9 + (s174 1 9).toNatClampNeg)) + 22)) + 1)) 1 88 ((s174 1 88) + 1)) 6 (s174 1 (9 + (s174 1 9).toNatClampNeg)) (s174 1 0); s242))))) else (if (σ 1 5) = 2 then (let s131 := f_X9_changes σ 3 r1 (σ 1 4); (let s154 := f_X9_logs (up2 s131 1 87 ((s131 1 87) + 1)) 5 r1 (s131 1 0); s154)) else (if r1 = (-1) then σ else (let s174 := f_X9_changes σ 1 r1 (σ 1 2); (if (s174 1 9) ≤ 0 then s174 else (let r210 := f_X9_at (s174 1 (9 + (s174 1 9).toNatClampNeg)); (let s242 := f_X9_logs (up2 (up2 s174 1 (ix (s174 1 (9 + (s174 1 9).toNatClampNeg)) + 22) ((s174 1 (ix (s174 1 (9 + (s174 1 9).toNatClampNeg)) + 22)) + 1)) 1 88 ((s174 1 88) + 1)) 6 (s174 1 (9 + (s174 1 9).toNatClampNeg)) (s174 1 0); s242))))))) else (if r1 = (-1) then (let s44 := f_X9_logs (up2 σ 1 89 ((σ 1 89) + 1)) 7 (σ 1 6) (σ 1 0); (let s56 := f_X9_changes s44 2 (-1) (s44 1 3); s56)) else (if r1 = (σ 1 6) then σ else (let s101 := f_X9_logs (up2 (up2 σ 1 6 r1) 1 86 ((σ 1 86) + 1)) 4 r1 (σ 1 0); s101)))); (let r246 := f_X9_isEntering s245; (if r246 = 0 then s245 else (if (s245 1 7) = 0 then (let s269 := f_X9_comesOnTop s245 (s245 1 0); s269) else s245))))))
theorem v_X9_decides : cvV yX9_decides "NestedBellsModel" cX9_decides 3 none 0 := ⟨q_5_153, s_54, q_1_10, q_5_154, rfl, by decide +kernel, by decide +kernel, by decide +kernel⟩
set_option maxHeartbeats 4000000 in
set_option maxRecDepth 100000 in
theorem k_X9_decides {l : Launch} {D : va_G} {T : Nat → ClassId} {g ad : Nat → Nat} {σ : St} (I0 : InvD σ) : mX l yX9_decides cX9_decides 3 none rmX9_decides D T g 6 ad (cE (dE T ad) σ) [.ref (ad 0)] (qV D 6 ad (dE T ad) (pV (f_X9_decides σ) InvD)) := by
  refine mX.of (own := "NestedBellsModel") (by decide +kernel) (Nat.le_of_ble_eq_true rfl) rfl ?_
  intro p e s m below meth c A ls H locs Z hr hlk _ hw hl
  have hx := Z.1.1
  have hb := Z.1.2.1
  have hl : lv_has ls 3 [(0, .ref (ad 0))] := hl
  refine lv_aload_n hx hb dX9_decides_0 rfl (lv_at hl 0 rfl) ?_
  refine bk_ip (rnV (rest := []) Z hw (k_X9_candidate  I0) v_X9_candidate q_5_155 (0) (by decide) rfl rfl rfl rfl hl.1 rfl rfl (Nat.le_of_ble_eq_true rfl) ⟨(Nat.le_of_ble_eq_true rfl), (Nat.le_of_ble_eq_true rfl)⟩ ⟨(Nat.le_of_ble_eq_true rfl), (Nat.le_of_ble_eq_true rfl)⟩ dX9_decides_1) hw Z (fun r1 er1 H locs hw => ?_)
  refine lv_istore_n (lv' := [(1, .int r1), (0, .ref (ad 0))]) hx hb dX9_decides_4 rfl hl (by decide) rfl (fun ls hl => ?_)
  refine lv_aload_n hx hb dX9_decides_5 rfl (lv_at hl 1 rfl) ?_
  refine bk_ip (rnV (rest := []) Z hw (k_X9_isEntering  I0) v_X9_isEntering q_5_182 (0) (by decide) rfl rfl rfl rfl hl.1 rfl rfl (Nat.le_of_ble_eq_true rfl) ⟨(Nat.le_of_ble_eq_true rfl), (Nat.le_of_ble_eq_true rfl)⟩ ⟨(Nat.le_of_ble_eq_true rfl), (Nat.le_of_ble_eq_true rfl)⟩ dX9_decides_6) hw Z (fun r6 er6 H locs hw => ?_)
  have hj245 : ∀ (s245 : St) (H : Heap) (locs : List Loc) (ls : Array Slot), ((if r6 = 0 then (if r1 = (-1) then (if r1 = (-1) then σ else (let s174 := f_X9_changes σ 1 r1 (σ 1 2); (if (s174 1 9) ≤ 0 then s174 else (let r210 := f_X9_at (s174 1 (9 + (s174 1 9).toNatClampNeg)); (let s242 := f_X9_logs (up2 (up2 s174 1 (ix (s174 1 (9 + (s174 1 9).toNatClampNeg)) + 22) ((s174 1 (ix (s174 1 (9 + (s174 1 9).toNatClampNeg)) + 22)) + 1)) 1 88 ((s174 1 88) + 1)) 6 (s174 1 (9 + (s174 1 9).toNatClampNeg)) (s174 1 0); s242))))) else (if (σ 1 5) = 2 then (let s131 := f_X9_changes σ 3 r1 (σ 1 4); (let s154 := f_X9_logs (up2 s131 1 87 ((s131 1 87) + 1)) 5 r1 (s131 1 0); s154)) else (if r1 = (-1) then σ else (let s174 := f_X9_changes σ 1 r1 (σ 1 2); (if (s174 1 9) ≤ 0 then s174 else (let r210 := f_X9_at (s174 1 (9 + (s174 1 9).toNatClampNeg)); (let s242 := f_X9_logs (up2 (up2 s174 1 (ix (s174 1 (9 + (s174 1 9).toNatClampNeg)) + 22) ((s174 1 (ix (s174 1 (9 + (s174 1 9).toNatClampNeg)) + 22)) + 1)) 1 88 ((s174 1 88) + 1)) 6 (s174 1 (9 + (s174 1 9).toNatClampNeg)) (s174 1 0); s242))))))) else (if r1 = (-1) then (let s44 := f_X9_logs (up2 σ 1 89 ((σ 1 89) + 1)) 7 (σ 1 6) (σ 1 0); (let s56 := f_X9_changes s44 2 (-1) (s44 1 3); s56)) else (if r1 = (σ 1 6) then σ else (let s101 := f_X9_logs (up2 (up2 σ 1 6 r1) 1 86 ((σ 1 86) + 1)) 4 r1 (σ 1 0); s101)))) : St) = s245 → InvD s245 → wo D A s.heap 6 ad (cE (dE T ad) s245) H locs → lv_has ls 3 [(0, .ref (ad 0))] → W p l e rmX9_decides s m [.ref (ad 0)].toArray below meth c H locs 0 0 (MQ below (qV D 6 ad (dE T ad) (pV (f_X9_decides σ) InvD) A) [.ref (ad 0)].toArray s rmX9_decides.cells rmX9_decides.slots A) (F0 m 245 ls []) := by
    intro s245 H locs ls es245 I245 hw hl
    refine lv_aload_n hx hb dX9_decides_245 rfl (lv_at hl 0 rfl) ?_
    refine bk_ip (rnV (rest := []) Z hw (k_X9_isEntering  I245) v_X9_isEntering q_5_182 (0) (by decide) rfl rfl rfl rfl hl.1 rfl rfl (Nat.le_of_ble_eq_true rfl) ⟨(Nat.le_of_ble_eq_true rfl), (Nat.le_of_ble_eq_true rfl)⟩ ⟨(Nat.le_of_ble_eq_true rfl), (Nat.le_of_ble_eq_true rfl)⟩ dX9_decides_246) hw Z (fun r246 er246 H locs hw => ?_)
    refine lv_if_eq (tgt := 272) hx hb dX9_decides_249 (by decide) (fun c249 => ?_) (fun c249 => ?_)
    · exact rt_v Z hr hlk hw dX9_decides_272 ⟨Eq.symm (by subst er246 es245 er6 er1; exact (lf_t c249 rfl)), I245⟩
    · refine lv_aload_n hx hb dX9_decides_252 rfl (lv_at hl 0 rfl) ?_
      refine gD (j := 0) (v := .ref (ad 1)) Z hw  (by decide) q_4_212 rfl rfl dX9_decides_253 ?_
      refine lv_bipush (v := 7) hx hb dX9_decides_256 (by decide +kernel) ?_
      refine aE (v := s245 1 7) Z hw 1 (by decide) rfl (fun _ => rfl) (vp_in_nI (n := 7) (by decide) (by decide)) ((congrArg (s245 1) (nI_clamp (n := 7) (by decide))).trans rfl) dX9_decides_258 ?_
      refine lv_if_ne (tgt := 272) hx hb dX9_decides_259 (by decide) (fun c259 => ?_) (fun c259 => ?_)
      · exact rt_v Z hr hlk hw dX9_decides_272 ⟨Eq.symm (by subst er246 es245 er6 er1; exact (lf_f c249 (lf_f c259 rfl))), I245⟩
      · refine lv_aload_n hx hb dX9_decides_262 rfl (lv_at hl 0 rfl) ?_
        refine lv_aload_n hx hb dX9_decides_263 rfl (lv_at hl 0 rfl) ?_
        refine gD (j := 0) (v := .ref (ad 1)) Z hw  (by decide) q_4_212 rfl rfl dX9_decides_264 ?_
        refine lv_iconst (v := 0) hx hb dX9_decides_267 (by decide +kernel) ?_
        refine aE (v := s245 1 0) Z hw 1 (by decide) rfl (fun _ => rfl) (vp_in_nI (n := 0) (by decide) (by decide)) ((congrArg (s245 1) (nI_clamp (n := 0) (by decide))).trans rfl) dX9_decides_268 ?_
        refine bk_v (rnV (rest := []) Z hw (k_X9_comesOnTop (p1 := s245 1 0) I245 (I245.ent (ent_of er246 c249))) v_X9_comesOnTop q_5_190 (0) (by decide) rfl rfl rfl rfl hl.1 rfl rfl (Nat.le_of_ble_eq_true rfl) ⟨(Nat.le_of_ble_eq_true rfl), (Nat.le_of_ble_eq_true rfl)⟩ ⟨(Nat.le_of_ble_eq_true rfl), (Nat.le_of_ble_eq_true rfl)⟩ dX9_decides_269) hw Z (fun s269 H locs hp hw => ?_)
        obtain ⟨es269, I269⟩ := hp
        exact rt_v Z hr hlk hw dX9_decides_272 ⟨Eq.symm (by subst es269 er246 es245 er6 er1; exact (lf_f c249 (lf_t c259 rfl))), I269⟩
  refine lv_if_eq (tgt := 107) hx hb dX9_decides_9 (by decide) (fun c9 => ?_) (fun c9 => ?_)
  · refine lv_iload_n hx hb dX9_decides_107 rfl (lv_at hl 0 rfl) ?_
    refine lv_iconst (v := (-1)) hx hb dX9_decides_108 (by decide +kernel) ?_
    refine lv_icmp_eq (tgt := 160) hx hb dX9_decides_109 (by decide) (fun c109 => ?_) (fun c109 => ?_)
    · refine lv_iload_n hx hb dX9_decides_160 rfl (lv_at hl 0 rfl) ?_
      refine lv_iconst (v := (-1)) hx hb dX9_decides_161 (by decide +kernel) ?_
      refine lv_icmp_eq (tgt := 245) hx hb dX9_decides_162 (by decide) (fun c162 => ?_) (fun c162 => ?_)
      · exact hj245 _ H locs ls (Eq.symm (lf_t c9 (lf_t c109 (lf_t c162 rfl)))) I0 hw (lv_sub hl [1] rfl)
      · refine lv_aload_n hx hb dX9_decides_165 rfl (lv_at hl 1 rfl) ?_
        refine lv_iconst (v := 1) hx hb dX9_decides_166 (by decide +kernel) ?_
        refine lv_iload_n hx hb dX9_decides_167 rfl (lv_at hl 0 rfl) ?_
        refine lv_aload_n hx hb dX9_decides_168 rfl (lv_at hl 1 rfl) ?_
        refine gD (j := 0) (v := .ref (ad 1)) Z hw  (by decide) q_4_212 rfl rfl dX9_decides_169 ?_
        refine lv_iconst (v := 2) hx hb dX9_decides_172 (by decide +kernel) ?_
        refine aE (v := σ 1 2) Z hw 1 (by decide) rfl (fun _ => rfl) (vp_in_nI (n := 2) (by decide) (by decide)) ((congrArg (σ 1) (nI_clamp (n := 2) (by decide))).trans rfl) dX9_decides_173 ?_
        refine bk_v (rnV (rest := []) Z hw (k_X9_changes (p1 := 1) (p2 := r1) (p3 := σ 1 2) I0 (fun _ => cand_ok I0 er1 c162)) v_X9_changes q_5_186 (0) (by decide) rfl rfl rfl rfl hl.1 rfl rfl (Nat.le_of_ble_eq_true rfl) ⟨(Nat.le_of_ble_eq_true rfl), (Nat.le_of_ble_eq_true rfl)⟩ ⟨(Nat.le_of_ble_eq_true rfl), (Nat.le_of_ble_eq_true rfl)⟩ dX9_decides_174) hw Z (fun s174 H locs hp hw => ?_)
        obtain ⟨es174, I174⟩ := hp
        refine lv_aload_n hx hb dX9_decides_177 rfl (lv_at hl 1 rfl) ?_
        refine gD (j := 0) (v := .ref (ad 1)) Z hw  (by decide) q_4_212 rfl rfl dX9_decides_178 ?_
        refine lv_bipush (v := 9) hx hb dX9_decides_181 (by decide +kernel) ?_
        refine aE (v := s174 1 9) Z hw 1 (by decide) rfl (fun _ => rfl) (vp_in_nI (n := 9) (by decide) (by decide)) ((congrArg (s174 1) (nI_clamp (n := 9) (by decide))).trans rfl) dX9_decides_183 ?_
        refine lv_if_le (tgt := 245) hx hb dX9_decides_184 (by decide) (fun c184 => ?_) (fun c184 => ?_)
        · exact hj245 _ H locs ls (Eq.symm (by subst es174; exact (lf_t c9 (lf_t c109 (lf_f c162 (lf_t c184 rfl)))))) I174 hw (lv_sub hl [1] rfl)
        · refine lv_aload_n hx hb dX9_decides_187 rfl (lv_at hl 1 rfl) ?_
          refine gD (j := 0) (v := .ref (ad 1)) Z hw  (by decide) q_4_212 rfl rfl dX9_decides_188 ?_
          refine lv_bipush (v := 10) hx hb dX9_decides_191 (by decide +kernel) ?_
          refine lv_aload_n hx hb dX9_decides_193 rfl (lv_at hl 1 rfl) ?_
          refine gD (j := 0) (v := .ref (ad 1)) Z hw  (by decide) q_4_212 rfl rfl dX9_decides_194 ?_
          refine lv_bipush (v := 9) hx hb dX9_decides_197 (by decide +kernel) ?_
          refine aE (v := s174 1 9) Z hw 1 (by decide) rfl (fun _ => rfl) (vp_in_nI (n := 9) (by decide) (by decide)) ((congrArg (s174 1) (nI_clamp (n := 9) (by decide))).trans rfl) dX9_decides_199 ?_
          refine lv_iadd hx hb dX9_decides_200 ?_
          refine lv_iconst (v := 1) hx hb dX9_decides_201 (by decide +kernel) ?_
          refine lv_isub hx hb dX9_decides_202 ?_
          refine aE (v := s174 1 (9 + (s174 1 9).toNatClampNeg)) Z hw 1 (by decide) rfl (fun _ => rfl) (top_vp I174.1.2.1) ((congrArg (s174 1) (top_ix I174.1.2.1)).trans rfl) dX9_decides_203 ?_
          refine lv_istore_n (lv' := [(2, .int (s174 1 (9 + (s174 1 9).toNatClampNeg))), (1, .int r1), (0, .ref (ad 0))]) hx hb dX9_decides_204 rfl hl (by decide) rfl (fun ls hl => ?_)
          refine lv_aload_n hx hb dX9_decides_205 rfl (lv_at hl 2 rfl) ?_
          refine gD (j := 0) (v := .ref (ad 1)) Z hw  (by decide) q_4_212 rfl rfl dX9_decides_206 ?_
          refine lv_iload_n hx hb dX9_decides_209 rfl (lv_at hl 0 rfl) ?_
          refine bk_ip (rnS (rest := [.ref (ad 1)]) Z hw (k_X9_at (p1 := s174 1 (9 + (s174 1 9).toNatClampNeg)) ) v_X9_at rfl q_5_40 hl.1 rfl rfl (Nat.le_of_ble_eq_true rfl) ⟨(Nat.le_of_ble_eq_true rfl), (Nat.le_of_ble_eq_true rfl)⟩ ⟨(Nat.le_of_ble_eq_true rfl), (Nat.le_of_ble_eq_true rfl)⟩ dX9_decides_210) hw Z (fun r210 er210 H locs hw => ?_)
          refine lv_bipush (v := 22) hx hb dX9_decides_213 (by decide +kernel) ?_
          refine lv_iadd hx hb dX9_decides_215 ?_
          refine lv_dup2_11 hx hb dX9_decides_216 rfl rfl ?_
          refine aE (v := s174 1 (ix (s174 1 (9 + (s174 1 9).toNatClampNeg)) + 22)) Z hw 1 (by decide) rfl (fun _ => rfl) (at_vp er210 (I174.top (nle0 c184)) (w := 22) (by omega)) ((congrArg (s174 1) (at_ix er210 (I174.top (nle0 c184)) (w := 22) (by omega))).trans rfl) dX9_decides_217 ?_
          refine lv_iconst (v := 1) hx hb dX9_decides_218 (by decide +kernel) ?_
          refine lv_iadd hx hb dX9_decides_219 ?_
          refine sE (j := ix (s174 1 (9 + (s174 1 9).toNatClampNeg)) + 22) Z hw 1 (by decide) rfl (fun _ => rfl) (at_vp er210 (I174.top (nle0 c184)) (w := 22) (by omega)) (at_ix er210 (I174.top (nle0 c184)) (w := 22) (by omega)) dX9_decides_220 (fun H locs hw => ?_)
          refine lv_aload_n hx hb dX9_decides_221 rfl (lv_at hl 2 rfl) ?_
          refine gD (j := 0) (v := .ref (ad 1)) Z hw  (by decide) q_4_212 rfl rfl dX9_decides_222 ?_
          refine lv_bipush (v := 88) hx hb dX9_decides_225 (by decide +kernel) ?_
          refine lv_dup2_11 hx hb dX9_decides_227 rfl rfl ?_
          refine aE (v := s174 1 88) Z hw 1 (by decide) rfl (fun _ => rfl) (vp_in_nI (n := 88) (by decide) (by decide)) ((congrArg ((up2 s174 1 (ix (s174 1 (9 + (s174 1 9).toNatClampNeg)) + 22) ((s174 1 (ix (s174 1 (9 + (s174 1 9).toNatClampNeg)) + 22)) + 1)) 1) (nI_clamp (n := 88) (by decide))).trans (up2_j (by unfold ix; omega))) dX9_decides_228 ?_
          refine lv_iconst (v := 1) hx hb dX9_decides_229 (by decide +kernel) ?_
          refine lv_iadd hx hb dX9_decides_230 ?_
          refine sE (j := 88) Z hw 1 (by decide) rfl (fun _ => rfl) (vp_in_nI (n := 88) (by decide) (by decide)) (nI_clamp (n := 88) (by decide)) dX9_decides_231 (fun H locs hw => ?_)
          refine lv_aload_n hx hb dX9_decides_232 rfl (lv_at hl 2 rfl) ?_
          refine lv_bipush (v := 6) hx hb dX9_decides_233 (by decide +kernel) ?_
          refine lv_iload_n hx hb dX9_decides_235 rfl (lv_at hl 0 rfl) ?_
          refine lv_aload_n hx hb dX9_decides_236 rfl (lv_at hl 2 rfl) ?_
          refine gD (j := 0) (v := .ref (ad 1)) Z hw  (by decide) q_4_212 rfl rfl dX9_decides_237 ?_
          refine lv_iconst (v := 0) hx hb dX9_decides_240 (by decide +kernel) ?_
          refine aE (v := s174 1 0) Z hw 1 (by decide) rfl (fun _ => rfl) (vp_in_nI (n := 0) (by decide) (by decide)) ((congrArg ((up2 (up2 s174 1 (ix (s174 1 (9 + (s174 1 9).toNatClampNeg)) + 22) ((s174 1 (ix (s174 1 (9 + (s174 1 9).toNatClampNeg)) + 22)) + 1)) 1 88 ((s174 1 88) + 1)) 1) (nI_clamp (n := 0) (by decide))).trans ((up2_j (by decide)).trans (up2_j (by unfold ix; omega)))) dX9_decides_241 ?_
          refine bk_v (rnV (rest := []) Z hw (k_X9_logs (p1 := 6) (p2 := s174 1 (9 + (s174 1 9).toNatClampNeg)) (p3 := s174 1 0) (InvD.up (InvD.up I174 (by unfold InvDcr ix; omega)) (by decide))) v_X9_logs q_5_109 (0) (by decide) rfl rfl rfl rfl hl.1 rfl rfl (Nat.le_of_ble_eq_true rfl) ⟨(Nat.le_of_ble_eq_true rfl), (Nat.le_of_ble_eq_true rfl)⟩ ⟨(Nat.le_of_ble_eq_true rfl), (Nat.le_of_ble_eq_true rfl)⟩ dX9_decides_242) hw Z (fun s242 H locs hp hw => ?_)
          obtain ⟨es242, I242⟩ := hp
          exact hj245 _ H locs ls (Eq.symm (by subst es242 er210 es174; exact (lf_t c9 (lf_t c109 (lf_f c162 (lf_f c184 rfl)))))) I242 hw (lv_sub hl [2] rfl)
    · refine lv_aload_n hx hb dX9_decides_112 rfl (lv_at hl 1 rfl) ?_
      refine gD (j := 0) (v := .ref (ad 1)) Z hw  (by decide) q_4_212 rfl rfl dX9_decides_113 ?_
      refine lv_iconst (v := 5) hx hb dX9_decides_116 (by decide +kernel) ?_
      refine aE (v := σ 1 5) Z hw 1 (by decide) rfl (fun _ => rfl) (vp_in_nI (n := 5) (by decide) (by decide)) ((congrArg (σ 1) (nI_clamp (n := 5) (by decide))).trans rfl) dX9_decides_117 ?_
      refine lv_iconst (v := 2) hx hb dX9_decides_118 (by decide +kernel) ?_
      refine lv_icmp_ne (tgt := 160) hx hb dX9_decides_119 (by decide) (fun c119 => ?_) (fun c119 => ?_)
      · refine lv_iload_n hx hb dX9_decides_160 rfl (lv_at hl 0 rfl) ?_
        refine lv_iconst (v := (-1)) hx hb dX9_decides_161 (by decide +kernel) ?_
        refine lv_icmp_eq (tgt := 245) hx hb dX9_decides_162 (by decide) (fun c162 => ?_) (fun c162 => ?_)
        · exact hj245 _ H locs ls (Eq.symm (lf_t c9 (lf_f c109 (lf_f c119 (lf_t c162 rfl))))) I0 hw (lv_sub hl [1] rfl)
        · refine lv_aload_n hx hb dX9_decides_165 rfl (lv_at hl 1 rfl) ?_
          refine lv_iconst (v := 1) hx hb dX9_decides_166 (by decide +kernel) ?_
          refine lv_iload_n hx hb dX9_decides_167 rfl (lv_at hl 0 rfl) ?_
          refine lv_aload_n hx hb dX9_decides_168 rfl (lv_at hl 1 rfl) ?_
          refine gD (j := 0) (v := .ref (ad 1)) Z hw  (by decide) q_4_212 rfl rfl dX9_decides_169 ?_
          refine lv_iconst (v := 2) hx hb dX9_decides_172 (by decide +kernel) ?_
          refine aE (v := σ 1 2) Z hw 1 (by decide) rfl (fun _ => rfl) (vp_in_nI (n := 2) (by decide) (by decide)) ((congrArg (σ 1) (nI_clamp (n := 2) (by decide))).trans rfl) dX9_decides_173 ?_
          refine bk_v (rnV (rest := []) Z hw (k_X9_changes (p1 := 1) (p2 := r1) (p3 := σ 1 2) I0 (fun _ => cand_ok I0 er1 c162)) v_X9_changes q_5_186 (0) (by decide) rfl rfl rfl rfl hl.1 rfl rfl (Nat.le_of_ble_eq_true rfl) ⟨(Nat.le_of_ble_eq_true rfl), (Nat.le_of_ble_eq_true rfl)⟩ ⟨(Nat.le_of_ble_eq_true rfl), (Nat.le_of_ble_eq_true rfl)⟩ dX9_decides_174) hw Z (fun s174 H locs hp hw => ?_)
          obtain ⟨es174, I174⟩ := hp
          refine lv_aload_n hx hb dX9_decides_177 rfl (lv_at hl 1 rfl) ?_
          refine gD (j := 0) (v := .ref (ad 1)) Z hw  (by decide) q_4_212 rfl rfl dX9_decides_178 ?_
          refine lv_bipush (v := 9) hx hb dX9_decides_181 (by decide +kernel) ?_
          refine aE (v := s174 1 9) Z hw 1 (by decide) rfl (fun _ => rfl) (vp_in_nI (n := 9) (by decide) (by decide)) ((congrArg (s174 1) (nI_clamp (n := 9) (by decide))).trans rfl) dX9_decides_183 ?_
          refine lv_if_le (tgt := 245) hx hb dX9_decides_184 (by decide) (fun c184 => ?_) (fun c184 => ?_)
          · exact hj245 _ H locs ls (Eq.symm (by subst es174; exact (lf_t c9 (lf_f c109 (lf_f c119 (lf_f c162 (lf_t c184 rfl))))))) I174 hw (lv_sub hl [1] rfl)
          · refine lv_aload_n hx hb dX9_decides_187 rfl (lv_at hl 1 rfl) ?_
            refine gD (j := 0) (v := .ref (ad 1)) Z hw  (by decide) q_4_212 rfl rfl dX9_decides_188 ?_
            refine lv_bipush (v := 10) hx hb dX9_decides_191 (by decide +kernel) ?_
            refine lv_aload_n hx hb dX9_decides_193 rfl (lv_at hl 1 rfl) ?_
            refine gD (j := 0) (v := .ref (ad 1)) Z hw  (by decide) q_4_212 rfl rfl dX9_decides_194 ?_
            refine lv_bipush (v := 9) hx hb dX9_decides_197 (by decide +kernel) ?_
            refine aE (v := s174 1 9) Z hw 1 (by decide) rfl (fun _ => rfl) (vp_in_nI (n := 9) (by decide) (by decide)) ((congrArg (s174 1) (nI_clamp (n := 9) (by decide))).trans rfl) dX9_decides_199 ?_
            refine lv_iadd hx hb dX9_decides_200 ?_
            refine lv_iconst (v := 1) hx hb dX9_decides_201 (by decide +kernel) ?_
            refine lv_isub hx hb dX9_decides_202 ?_
            refine aE (v := s174 1 (9 + (s174 1 9).toNatClampNeg)) Z hw 1 (by decide) rfl (fun _ => rfl) (top_vp I174.1.2.1) ((congrArg (s174 1) (top_ix I174.1.2.1)).trans rfl) dX9_decides_203 ?_
            refine lv_istore_n (lv' := [(2, .int (s174 1 (9 + (s174 1 9).toNatClampNeg))), (1, .int r1), (0, .ref (ad 0))]) hx hb dX9_decides_204 rfl hl (by decide) rfl (fun ls hl => ?_)
            refine lv_aload_n hx hb dX9_decides_205 rfl (lv_at hl 2 rfl) ?_
            refine gD (j := 0) (v := .ref (ad 1)) Z hw  (by decide) q_4_212 rfl rfl dX9_decides_206 ?_
            refine lv_iload_n hx hb dX9_decides_209 rfl (lv_at hl 0 rfl) ?_
            refine bk_ip (rnS (rest := [.ref (ad 1)]) Z hw (k_X9_at (p1 := s174 1 (9 + (s174 1 9).toNatClampNeg)) ) v_X9_at rfl q_5_40 hl.1 rfl rfl (Nat.le_of_ble_eq_true rfl) ⟨(Nat.le_of_ble_eq_true rfl), (Nat.le_of_ble_eq_true rfl)⟩ ⟨(Nat.le_of_ble_eq_true rfl), (Nat.le_of_ble_eq_true rfl)⟩ dX9_decides_210) hw Z (fun r210 er210 H locs hw => ?_)
            refine lv_bipush (v := 22) hx hb dX9_decides_213 (by decide +kernel) ?_
            refine lv_iadd hx hb dX9_decides_215 ?_
            refine lv_dup2_11 hx hb dX9_decides_216 rfl rfl ?_
            refine aE (v := s174 1 (ix (s174 1 (9 + (s174 1 9).toNatClampNeg)) + 22)) Z hw 1 (by decide) rfl (fun _ => rfl) (at_vp er210 (I174.top (nle0 c184)) (w := 22) (by omega)) ((congrArg (s174 1) (at_ix er210 (I174.top (nle0 c184)) (w := 22) (by omega))).trans rfl) dX9_decides_217 ?_
            refine lv_iconst (v := 1) hx hb dX9_decides_218 (by decide +kernel) ?_
            refine lv_iadd hx hb dX9_decides_219 ?_
            refine sE (j := ix (s174 1 (9 + (s174 1 9).toNatClampNeg)) + 22) Z hw 1 (by decide) rfl (fun _ => rfl) (at_vp er210 (I174.top (nle0 c184)) (w := 22) (by omega)) (at_ix er210 (I174.top (nle0 c184)) (w := 22) (by omega)) dX9_decides_220 (fun H locs hw => ?_)
            refine lv_aload_n hx hb dX9_decides_221 rfl (lv_at hl 2 rfl) ?_
            refine gD (j := 0) (v := .ref (ad 1)) Z hw  (by decide) q_4_212 rfl rfl dX9_decides_222 ?_
            refine lv_bipush (v := 88) hx hb dX9_decides_225 (by decide +kernel) ?_
            refine lv_dup2_11 hx hb dX9_decides_227 rfl rfl ?_
            refine aE (v := s174 1 88) Z hw 1 (by decide) rfl (fun _ => rfl) (vp_in_nI (n := 88) (by decide) (by decide)) ((congrArg ((up2 s174 1 (ix (s174 1 (9 + (s174 1 9).toNatClampNeg)) + 22) ((s174 1 (ix (s174 1 (9 + (s174 1 9).toNatClampNeg)) + 22)) + 1)) 1) (nI_clamp (n := 88) (by decide))).trans (up2_j (by unfold ix; omega))) dX9_decides_228 ?_
            refine lv_iconst (v := 1) hx hb dX9_decides_229 (by decide +kernel) ?_
            refine lv_iadd hx hb dX9_decides_230 ?_
            refine sE (j := 88) Z hw 1 (by decide) rfl (fun _ => rfl) (vp_in_nI (n := 88) (by decide) (by decide)) (nI_clamp (n := 88) (by decide)) dX9_decides_231 (fun H locs hw => ?_)
            refine lv_aload_n hx hb dX9_decides_232 rfl (lv_at hl 2 rfl) ?_
            refine lv_bipush (v := 6) hx hb dX9_decides_233 (by decide +kernel) ?_
            refine lv_iload_n hx hb dX9_decides_235 rfl (lv_at hl 0 rfl) ?_
            refine lv_aload_n hx hb dX9_decides_236 rfl (lv_at hl 2 rfl) ?_
            refine gD (j := 0) (v := .ref (ad 1)) Z hw  (by decide) q_4_212 rfl rfl dX9_decides_237 ?_
            refine lv_iconst (v := 0) hx hb dX9_decides_240 (by decide +kernel) ?_
            refine aE (v := s174 1 0) Z hw 1 (by decide) rfl (fun _ => rfl) (vp_in_nI (n := 0) (by decide) (by decide)) ((congrArg ((up2 (up2 s174 1 (ix (s174 1 (9 + (s174 1 9).toNatClampNeg)) + 22) ((s174 1 (ix (s174 1 (9 + (s174 1 9).toNatClampNeg)) + 22)) + 1)) 1 88 ((s174 1 88) + 1)) 1) (nI_clamp (n := 0) (by decide))).trans ((up2_j (by decide)).trans (up2_j (by unfold ix; omega)))) dX9_decides_241 ?_
            refine bk_v (rnV (rest := []) Z hw (k_X9_logs (p1 := 6) (p2 := s174 1 (9 + (s174 1 9).toNatClampNeg)) (p3 := s174 1 0) (InvD.up (InvD.up I174 (by unfold InvDcr ix; omega)) (by decide))) v_X9_logs q_5_109 (0) (by decide) rfl rfl rfl rfl hl.1 rfl rfl (Nat.le_of_ble_eq_true rfl) ⟨(Nat.le_of_ble_eq_true rfl), (Nat.le_of_ble_eq_true rfl)⟩ ⟨(Nat.le_of_ble_eq_true rfl), (Nat.le_of_ble_eq_true rfl)⟩ dX9_decides_242) hw Z (fun s242 H locs hp hw => ?_)
            obtain ⟨es242, I242⟩ := hp
            exact hj245 _ H locs ls (Eq.symm (by subst es242 er210 es174; exact (lf_t c9 (lf_f c109 (lf_f c119 (lf_f c162 (lf_f c184 rfl))))))) I242 hw (lv_sub hl [2] rfl)
      · refine lv_aload_n hx hb dX9_decides_122 rfl (lv_at hl 1 rfl) ?_
        refine lv_iconst (v := 3) hx hb dX9_decides_123 (by decide +kernel) ?_
        refine lv_iload_n hx hb dX9_decides_124 rfl (lv_at hl 0 rfl) ?_
        refine lv_aload_n hx hb dX9_decides_125 rfl (lv_at hl 1 rfl) ?_
        refine gD (j := 0) (v := .ref (ad 1)) Z hw  (by decide) q_4_212 rfl rfl dX9_decides_126 ?_
        refine lv_iconst (v := 4) hx hb dX9_decides_129 (by decide +kernel) ?_
        refine aE (v := σ 1 4) Z hw 1 (by decide) rfl (fun _ => rfl) (vp_in_nI (n := 4) (by decide) (by decide)) ((congrArg (σ 1) (nI_clamp (n := 4) (by decide))).trans rfl) dX9_decides_130 ?_
        refine bk_v (rnV (rest := []) Z hw (k_X9_changes (p1 := 3) (p2 := r1) (p3 := σ 1 4) I0 (fun _ => cand_ok I0 er1 c109)) v_X9_changes q_5_186 (0) (by decide) rfl rfl rfl rfl hl.1 rfl rfl (Nat.le_of_ble_eq_true rfl) ⟨(Nat.le_of_ble_eq_true rfl), (Nat.le_of_ble_eq_true rfl)⟩ ⟨(Nat.le_of_ble_eq_true rfl), (Nat.le_of_ble_eq_true rfl)⟩ dX9_decides_131) hw Z (fun s131 H locs hp hw => ?_)
        obtain ⟨es131, I131⟩ := hp
        refine lv_aload_n hx hb dX9_decides_134 rfl (lv_at hl 1 rfl) ?_
        refine gD (j := 0) (v := .ref (ad 1)) Z hw  (by decide) q_4_212 rfl rfl dX9_decides_135 ?_
        refine lv_bipush (v := 87) hx hb dX9_decides_138 (by decide +kernel) ?_
        refine lv_dup2_11 hx hb dX9_decides_140 rfl rfl ?_
        refine aE (v := s131 1 87) Z hw 1 (by decide) rfl (fun _ => rfl) (vp_in_nI (n := 87) (by decide) (by decide)) ((congrArg (s131 1) (nI_clamp (n := 87) (by decide))).trans rfl) dX9_decides_141 ?_
        refine lv_iconst (v := 1) hx hb dX9_decides_142 (by decide +kernel) ?_
        refine lv_iadd hx hb dX9_decides_143 ?_
        refine sE (j := 87) Z hw 1 (by decide) rfl (fun _ => rfl) (vp_in_nI (n := 87) (by decide) (by decide)) (nI_clamp (n := 87) (by decide)) dX9_decides_144 (fun H locs hw => ?_)
        refine lv_aload_n hx hb dX9_decides_145 rfl (lv_at hl 1 rfl) ?_
        refine lv_iconst (v := 5) hx hb dX9_decides_146 (by decide +kernel) ?_
        refine lv_iload_n hx hb dX9_decides_147 rfl (lv_at hl 0 rfl) ?_
        refine lv_aload_n hx hb dX9_decides_148 rfl (lv_at hl 1 rfl) ?_
        refine gD (j := 0) (v := .ref (ad 1)) Z hw  (by decide) q_4_212 rfl rfl dX9_decides_149 ?_
        refine lv_iconst (v := 0) hx hb dX9_decides_152 (by decide +kernel) ?_
        refine aE (v := s131 1 0) Z hw 1 (by decide) rfl (fun _ => rfl) (vp_in_nI (n := 0) (by decide) (by decide)) ((congrArg ((up2 s131 1 87 ((s131 1 87) + 1)) 1) (nI_clamp (n := 0) (by decide))).trans (up2_j (by decide))) dX9_decides_153 ?_
        refine bk_v (rnV (rest := []) Z hw (k_X9_logs (p1 := 5) (p2 := r1) (p3 := s131 1 0) (InvD.up I131 (by decide))) v_X9_logs q_5_109 (0) (by decide) rfl rfl rfl rfl hl.1 rfl rfl (Nat.le_of_ble_eq_true rfl) ⟨(Nat.le_of_ble_eq_true rfl), (Nat.le_of_ble_eq_true rfl)⟩ ⟨(Nat.le_of_ble_eq_true rfl), (Nat.le_of_ble_eq_true rfl)⟩ dX9_decides_154) hw Z (fun s154 H locs hp hw => ?_)
        obtain ⟨es154, I154⟩ := hp
        refine lv_goto (tgt := 245) hx hb dX9_decides_157 (by decide) ?_
        exact hj245 _ H locs ls (Eq.symm (by subst es154 es131; exact (lf_t c9 (lf_f c109 (lf_t c119 rfl))))) I154 hw (lv_sub hl [1] rfl)
  · refine lv_iload_n hx hb dX9_decides_12 rfl (lv_at hl 0 rfl) ?_
    refine lv_iconst (v := (-1)) hx hb dX9_decides_13 (by decide +kernel) ?_
    refine lv_icmp_ne (tgt := 62) hx hb dX9_decides_14 (by decide) (fun c14 => ?_) (fun c14 => ?_)
    · refine lv_iload_n hx hb dX9_decides_62 rfl (lv_at hl 0 rfl) ?_
      refine lv_aload_n hx hb dX9_decides_63 rfl (lv_at hl 1 rfl) ?_
      refine gD (j := 0) (v := .ref (ad 1)) Z hw  (by decide) q_4_212 rfl rfl dX9_decides_64 ?_
      refine lv_bipush (v := 6) hx hb dX9_decides_67 (by decide +kernel) ?_
      refine aE (v := σ 1 6) Z hw 1 (by decide) rfl (fun _ => rfl) (vp_in_nI (n := 6) (by decide) (by decide)) ((congrArg (σ 1) (nI_clamp (n := 6) (by decide))).trans rfl) dX9_decides_69 ?_
      refine lv_icmp_eq (tgt := 245) hx hb dX9_decides_70 (by decide) (fun c70 => ?_) (fun c70 => ?_)
      · exact hj245 _ H locs ls (Eq.symm (lf_f c9 (lf_f c14 (lf_t c70 rfl)))) I0 hw (lv_sub hl [1] rfl)
      · refine lv_aload_n hx hb dX9_decides_73 rfl (lv_at hl 1 rfl) ?_
        refine gD (j := 0) (v := .ref (ad 1)) Z hw  (by decide) q_4_212 rfl rfl dX9_decides_74 ?_
        refine lv_bipush (v := 6) hx hb dX9_decides_77 (by decide +kernel) ?_
        refine lv_iload_n hx hb dX9_decides_79 rfl (lv_at hl 0 rfl) ?_
        refine sE (j := 6) Z hw 1 (by decide) rfl (fun _ => rfl) (vp_in_nI (n := 6) (by decide) (by decide)) (nI_clamp (n := 6) (by decide)) dX9_decides_80 (fun H locs hw => ?_)
        refine lv_aload_n hx hb dX9_decides_81 rfl (lv_at hl 1 rfl) ?_
        refine gD (j := 0) (v := .ref (ad 1)) Z hw  (by decide) q_4_212 rfl rfl dX9_decides_82 ?_
        refine lv_bipush (v := 86) hx hb dX9_decides_85 (by decide +kernel) ?_
        refine lv_dup2_11 hx hb dX9_decides_87 rfl rfl ?_
        refine aE (v := σ 1 86) Z hw 1 (by decide) rfl (fun _ => rfl) (vp_in_nI (n := 86) (by decide) (by decide)) ((congrArg ((up2 σ 1 6 r1) 1) (nI_clamp (n := 86) (by decide))).trans (up2_j (by decide))) dX9_decides_88 ?_
        refine lv_iconst (v := 1) hx hb dX9_decides_89 (by decide +kernel) ?_
        refine lv_iadd hx hb dX9_decides_90 ?_
        refine sE (j := 86) Z hw 1 (by decide) rfl (fun _ => rfl) (vp_in_nI (n := 86) (by decide) (by decide)) (nI_clamp (n := 86) (by decide)) dX9_decides_91 (fun H locs hw => ?_)
        refine lv_aload_n hx hb dX9_decides_92 rfl (lv_at hl 1 rfl) ?_
        refine lv_iconst (v := 4) hx hb dX9_decides_93 (by decide +kernel) ?_
        refine lv_iload_n hx hb dX9_decides_94 rfl (lv_at hl 0 rfl) ?_
        refine lv_aload_n hx hb dX9_decides_95 rfl (lv_at hl 1 rfl) ?_
        refine gD (j := 0) (v := .ref (ad 1)) Z hw  (by decide) q_4_212 rfl rfl dX9_decides_96 ?_
        refine lv_iconst (v := 0) hx hb dX9_decides_99 (by decide +kernel) ?_
        refine aE (v := σ 1 0) Z hw 1 (by decide) rfl (fun _ => rfl) (vp_in_nI (n := 0) (by decide) (by decide)) ((congrArg ((up2 (up2 σ 1 6 r1) 1 86 ((σ 1 86) + 1)) 1) (nI_clamp (n := 0) (by decide))).trans ((up2_j (by decide)).trans (up2_j (by decide)))) dX9_decides_100 ?_
        refine bk_v (rnV (rest := []) Z hw (k_X9_logs (p1 := 4) (p2 := r1) (p3 := σ 1 0) (InvD.up (InvD.who (cand_ok I0 er1 c14) I0) (by decide))) v_X9_logs q_5_109 (0) (by decide) rfl rfl rfl rfl hl.1 rfl rfl (Nat.le_of_ble_eq_true rfl) ⟨(Nat.le_of_ble_eq_true rfl), (Nat.le_of_ble_eq_true rfl)⟩ ⟨(Nat.le_of_ble_eq_true rfl), (Nat.le_of_ble_eq_true rfl)⟩ dX9_decides_101) hw Z (fun s101 H locs hp hw => ?_)
        obtain ⟨es101, I101⟩ := hp
        refine lv_goto (tgt := 245) hx hb dX9_decides_104 (by decide) ?_
        exact hj245 _ H locs ls (Eq.symm (by subst es101; exact (lf_f c9 (lf_f c14 (lf_f c70 rfl))))) I101 hw (lv_sub hl [1] rfl)
    · refine lv_aload_n hx hb dX9_decides_17 rfl (lv_at hl 1 rfl) ?_
      refine gD (j := 0) (v := .ref (ad 1)) Z hw  (by decide) q_4_212 rfl rfl dX9_decides_18 ?_
      refine lv_bipush (v := 89) hx hb dX9_decides_21 (by decide +kernel) ?_
      refine lv_dup2_11 hx hb dX9_decides_23 rfl rfl ?_
      refine aE (v := σ 1 89) Z hw 1 (by decide) rfl (fun _ => rfl) (vp_in_nI (n := 89) (by decide) (by decide)) ((congrArg (σ 1) (nI_clamp (n := 89) (by decide))).trans rfl) dX9_decides_24 ?_
      refine lv_iconst (v := 1) hx hb dX9_decides_25 (by decide +kernel) ?_
      refine lv_iadd hx hb dX9_decides_26 ?_
      refine sE (j := 89) Z hw 1 (by decide) rfl (fun _ => rfl) (vp_in_nI (n := 89) (by decide) (by decide)) (nI_clamp (n := 89) (by decide)) dX9_decides_27 (fun H locs hw => ?_)
      refine lv_aload_n hx hb dX9_decides_28 rfl (lv_at hl 1 rfl) ?_
      refine lv_bipush (v := 7) hx hb dX9_decides_29 (by decide +kernel) ?_
      refine lv_aload_n hx hb dX9_decides_31 rfl (lv_at hl 1 rfl) ?_
      refine gD (j := 0) (v := .ref (ad 1)) Z hw  (by decide) q_4_212 rfl rfl dX9_decides_32 ?_
      refine lv_bipush (v := 6) hx hb dX9_decides_35 (by decide +kernel) ?_
      refine aE (v := σ 1 6) Z hw 1 (by decide) rfl (fun _ => rfl) (vp_in_nI (n := 6) (by decide) (by decide)) ((congrArg ((up2 σ 1 89 ((σ 1 89) + 1)) 1) (nI_clamp (n := 6) (by decide))).trans (up2_j (by decide))) dX9_decides_37 ?_
      refine lv_aload_n hx hb dX9_decides_38 rfl (lv_at hl 1 rfl) ?_
      refine gD (j := 0) (v := .ref (ad 1)) Z hw  (by decide) q_4_212 rfl rfl dX9_decides_39 ?_
      refine lv_iconst (v := 0) hx hb dX9_decides_42 (by decide +kernel) ?_
      refine aE (v := σ 1 0) Z hw 1 (by decide) rfl (fun _ => rfl) (vp_in_nI (n := 0) (by decide) (by decide)) ((congrArg ((up2 σ 1 89 ((σ 1 89) + 1)) 1) (nI_clamp (n := 0) (by decide))).trans (up2_j (by decide))) dX9_decides_43 ?_
      refine bk_v (rnV (rest := []) Z hw (k_X9_logs (p1 := 7) (p2 := σ 1 6) (p3 := σ 1 0) (InvD.up I0 (by decide))) v_X9_logs q_5_109 (0) (by decide) rfl rfl rfl rfl hl.1 rfl rfl (Nat.le_of_ble_eq_true rfl) ⟨(Nat.le_of_ble_eq_true rfl), (Nat.le_of_ble_eq_true rfl)⟩ ⟨(Nat.le_of_ble_eq_true rfl), (Nat.le_of_ble_eq_true rfl)⟩ dX9_decides_44) hw Z (fun s44 H locs hp hw => ?_)
      obtain ⟨es44, I44⟩ := hp
      refine lv_aload_n hx hb dX9_decides_47 rfl (lv_at hl 1 rfl) ?_
      refine lv_iconst (v := 2) hx hb dX9_decides_48 (by decide +kernel) ?_
      refine lv_iconst (v := (-1)) hx hb dX9_decides_49 (by decide +kernel) ?_
      refine lv_aload_n hx hb dX9_decides_50 rfl (lv_at hl 1 rfl) ?_
      refine gD (j := 0) (v := .ref (ad 1)) Z hw  (by decide) q_4_212 rfl rfl dX9_decides_51 ?_
      refine lv_iconst (v := 3) hx hb dX9_decides_54 (by decide +kernel) ?_
      refine aE (v := s44 1 3) Z hw 1 (by decide) rfl (fun _ => rfl) (vp_in_nI (n := 3) (by decide) (by decide)) ((congrArg (s44 1) (nI_clamp (n := 3) (by decide))).trans rfl) dX9_decides_55 ?_
      refine bk_v (rnV (rest := []) Z hw (k_X9_changes (p1 := 2) (p2 := (-1)) (p3 := s44 1 3) I44 (no13 (by decide) (by decide))) v_X9_changes q_5_186 (0) (by decide) rfl rfl rfl rfl hl.1 rfl rfl (Nat.le_of_ble_eq_true rfl) ⟨(Nat.le_of_ble_eq_true rfl), (Nat.le_of_ble_eq_true rfl)⟩ ⟨(Nat.le_of_ble_eq_true rfl), (Nat.le_of_ble_eq_true rfl)⟩ dX9_decides_56) hw Z (fun s56 H locs hp hw => ?_)
      obtain ⟨es56, I56⟩ := hp
      refine lv_goto (tgt := 245) hx hb dX9_decides_59 (by decide) ?_
      exact hj245 _ H locs ls (Eq.symm (by subst es56 es44; exact (lf_f c9 (lf_t c14 rfl)))) I56 hw (lv_sub hl [1] rfl)
abbrev rmX9_spends : Room := { frames := 2, cells := 0, slots := 0, locals := 48 }
def f_X9_spends (σ : St) : Int32 × St := (if (σ 1 5) = 0 then (if (σ 1 9) = 0 then (0, up2 σ 1 83 ((σ 1 83) + 1)) else (let r114 := f_X9_at (σ 1 (9 + (σ 1 9).toNatClampNeg)); (if (σ 1 (ix (σ 1 (9 + (σ 1 9).toNatClampNeg)) + 2)) ≤ ((σ 1 (ix (σ 1 (9 + (σ 1 9).toNatClampNeg)) + 16)) + 1) then (let v251 : Int32 := (if (σ 1 (ix (σ 1 (9 + (σ 1 9).toNatClampNeg)) + 1)) = 1 then (σ 1 0) + 1 else σ 1 (ix (σ 1 (9 + (σ 1 9).toNatClampNeg)) + 6)); (let s263 := f_X9_logs (up2 (up2 (up2 (up2 (up2 (up2 (up2 σ 1 84 ((σ 1 84) + 1)) 1 (ix (σ 1 (9 + (σ 1 9).toNatClampNeg)) + 23) ((σ 1 (ix (σ 1 (9 + (σ 1 9).toNatClampNeg)) + 23)) + 1)) 1 (ix (σ 1 (9 + (σ 1 9).toNatClampNeg)) + 16) ((σ 1 (ix (σ 1 (9 + (σ 1 9).toNatClampNeg)) + 16)) + 1)) 1 9 ((σ 1 9) - 1)) 1 (ix (σ 1 (9 + (σ 1 9).toNatClampNeg)) + 16) 0) 1 (ix (σ 1 (9 + (σ 1 9).toNatClampNeg)) + 18) ((σ 1 (ix (σ 1 (9 + (σ 1 9).toNatClampNeg)) + 18)) + 1)) 1 (ix (σ 1 (9 + (σ 1 9).toNatClampNeg)) + 6) v251) 2 (σ 1 (9 + (σ 1 9).toNatClampNeg)) ((σ 1 0) + 1); (let s275 := f_X9_changes s263 2 (-1) (s263 1 3); (1, s275)))) else (0, up2 (up2 (up2 σ 1 84 ((σ 1 84) + 1)) 1 (ix (σ 1 (9 + (σ 1 9).toNatClampNeg)) + 23) ((σ 1 (ix (σ 1 (9 + (σ 1 9).toNatClampNeg)) + 23)) + 1)) 1 (ix (σ 1 (9 + (σ 1 9).toNatClampNeg)) + 16) ((σ 1 (ix (σ 1 (9 + (σ 1 9).toNatClampNeg)) + 16)) + 1))))) else (if ((σ 1 7) - 1) = 0 then (let r42 := f_X9_isEntering (up2 (up2 σ 1 85 ((σ 1 85) + 1)) 1 7 ((σ 1 7) - 1)); (if r42 = 0 then (let s67 := f_X9_changes (up2 (up2 σ 1 85 ((σ 1 85) + 1)) 1 7 ((σ 1 7) - 1)) 2 (-1) 0; (0, s67)) else (let s57 := f_X9_comesOnTop (up2 (up2 σ 1 85 ((σ 1 85) + 1)) 1 7 ((σ 1 7) - 1)) ((σ 1 0) + 1); (0, s57)))) else (0, up2 (up2 σ 1 85 ((σ 1 85) + 1)) 1 7 ((σ 1 7) - 1))))
theorem v_X9_spends : cvV yX9_spends "NestedBellsModel" cX9_spends 3 (some (.int)) 0 := ⟨q_5_196, s_64, q_1_10, q_5_197, rfl, by decide +kernel, by decide +kernel, by decide +kernel⟩
set_option maxHeartbeats 4000000 in
set_option maxRecDepth 100000 in
theorem k_X9_spends {l : Launch} {D : va_G} {T : Nat → ClassId} {g ad : Nat → Nat} {σ : St} (I0 : InvD σ) : mX l yX9_spends cX9_spends 3 (some (.int)) rmX9_spends D T g 6 ad (cE (dE T ad) σ) [.ref (ad 0)] (qI D 6 ad (dE T ad) (pI (f_X9_spends σ) InvD)) := by
  refine mX.of (own := "NestedBellsModel") (by decide +kernel) (Nat.le_of_ble_eq_true rfl) rfl ?_
  intro p e s m below meth c A ls H locs Z hr hlk _ hw hl
  have hx := Z.1.1
  have hb := Z.1.2.1
  have hl : lv_has ls 3 [(0, .ref (ad 0))] := hl
  refine lv_aload_n hx hb dX9_spends_0 rfl (lv_at hl 0 rfl) ?_
  refine gD (j := 0) (v := .ref (ad 1)) Z hw  (by decide) q_4_212 rfl rfl dX9_spends_1 ?_
  refine lv_iconst (v := 5) hx hb dX9_spends_4 (by decide +kernel) ?_
  refine aE (v := σ 1 5) Z hw 1 (by decide) rfl (fun _ => rfl) (vp_in_nI (n := 5) (by decide) (by decide)) ((congrArg (σ 1) (nI_clamp (n := 5) (by decide))).trans rfl) dX9_spends_5 ?_
  refine lv_if_eq (tgt := 72) hx hb dX9_spends_6 (by decide) (fun c6 => ?_) (fun c6 => ?_)
  · refine lv_aload_n hx hb dX9_spends_72 rfl (lv_at hl 0 rfl) ?_
    refine gD (j := 0) (v := .ref (ad 1)) Z hw  (by decide) q_4_212 rfl rfl dX9_spends_73 ?_
    refine lv_bipush (v := 9) hx hb dX9_spends_76 (by decide +kernel) ?_
    refine aE (v := σ 1 9) Z hw 1 (by decide) rfl (fun _ => rfl) (vp_in_nI (n := 9) (by decide) (by decide)) ((congrArg (σ 1) (nI_clamp (n := 9) (by decide))).trans rfl) dX9_spends_78 ?_
    refine lv_if_ne (tgt := 95) hx hb dX9_spends_79 (by decide) (fun c79 => ?_) (fun c79 => ?_)
    · refine lv_aload_n hx hb dX9_spends_95 rfl (lv_at hl 0 rfl) ?_
      refine gD (j := 0) (v := .ref (ad 1)) Z hw  (by decide) q_4_212 rfl rfl dX9_spends_96 ?_
      refine lv_bipush (v := 10) hx hb dX9_spends_99 (by decide +kernel) ?_
      refine lv_aload_n hx hb dX9_spends_101 rfl (lv_at hl 0 rfl) ?_
      refine gD (j := 0) (v := .ref (ad 1)) Z hw  (by decide) q_4_212 rfl rfl dX9_spends_102 ?_
      refine lv_bipush (v := 9) hx hb dX9_spends_105 (by decide +kernel) ?_
      refine aE (v := σ 1 9) Z hw 1 (by decide) rfl (fun _ => rfl) (vp_in_nI (n := 9) (by decide) (by decide)) ((congrArg (σ 1) (nI_clamp (n := 9) (by decide))).trans rfl) dX9_spends_107 ?_
      refine lv_iadd hx hb dX9_spends_108 ?_
      refine lv_iconst (v := 1) hx hb dX9_spends_109 (by decide +kernel) ?_
      refine lv_isub hx hb dX9_spends_110 ?_
      refine aE (v := σ 1 (9 + (σ 1 9).toNatClampNeg)) Z hw 1 (by decide) rfl (fun _ => rfl) (top_vp I0.1.2.1) ((congrArg (σ 1) (top_ix I0.1.2.1)).trans rfl) dX9_spends_111 ?_
      refine lv_istore_n (lv' := [(1, .int (σ 1 (9 + (σ 1 9).toNatClampNeg))), (0, .ref (ad 0))]) hx hb dX9_spends_112 rfl hl (by decide) rfl (fun ls hl => ?_)
      refine lv_iload_n hx hb dX9_spends_113 rfl (lv_at hl 0 rfl) ?_
      refine bk_ip (rnS (rest := []) Z hw (k_X9_at (p1 := σ 1 (9 + (σ 1 9).toNatClampNeg)) ) v_X9_at rfl q_5_40 hl.1 rfl rfl (Nat.le_of_ble_eq_true rfl) ⟨(Nat.le_of_ble_eq_true rfl), (Nat.le_of_ble_eq_true rfl)⟩ ⟨(Nat.le_of_ble_eq_true rfl), (Nat.le_of_ble_eq_true rfl)⟩ dX9_spends_114) hw Z (fun r114 er114 H locs hw => ?_)
      refine lv_istore_n (lv' := [(2, .int r114), (1, .int (σ 1 (9 + (σ 1 9).toNatClampNeg))), (0, .ref (ad 0))]) hx hb dX9_spends_117 rfl hl (by decide) rfl (fun ls hl => ?_)
      refine lv_aload_n hx hb dX9_spends_118 rfl (lv_at hl 2 rfl) ?_
      refine gD (j := 0) (v := .ref (ad 1)) Z hw  (by decide) q_4_212 rfl rfl dX9_spends_119 ?_
      refine lv_bipush (v := 84) hx hb dX9_spends_122 (by decide +kernel) ?_
      refine lv_dup2_11 hx hb dX9_spends_124 rfl rfl ?_
      refine aE (v := σ 1 84) Z hw 1 (by decide) rfl (fun _ => rfl) (vp_in_nI (n := 84) (by decide) (by decide)) ((congrArg (σ 1) (nI_clamp (n := 84) (by decide))).trans rfl) dX9_spends_125 ?_
      refine lv_iconst (v := 1) hx hb dX9_spends_126 (by decide +kernel) ?_
      refine lv_iadd hx hb dX9_spends_127 ?_
      refine sE (j := 84) Z hw 1 (by decide) rfl (fun _ => rfl) (vp_in_nI (n := 84) (by decide) (by decide)) (nI_clamp (n := 84) (by decide)) dX9_spends_128 (fun H locs hw => ?_)
      refine lv_aload_n hx hb dX9_spends_129 rfl (lv_at hl 2 rfl) ?_
      refine gD (j := 0) (v := .ref (ad 1)) Z hw  (by decide) q_4_212 rfl rfl dX9_spends_130 ?_
      refine lv_iload_n hx hb dX9_spends_133 rfl (lv_at hl 0 rfl) ?_
      refine lv_bipush (v := 23) hx hb dX9_spends_134 (by decide +kernel) ?_
      refine lv_iadd hx hb dX9_spends_136 ?_
      refine lv_dup2_11 hx hb dX9_spends_137 rfl rfl ?_
      refine aE (v := σ 1 (ix (σ 1 (9 + (σ 1 9).toNatClampNeg)) + 23)) Z hw 1 (by decide) rfl (fun _ => rfl) (at_vp er114 (I0.top c79) (w := 23) (by omega)) ((congrArg ((up2 σ 1 84 ((σ 1 84) + 1)) 1) (at_ix er114 (I0.top c79) (w := 23) (by omega))).trans (up2_j (by unfold ix; omega))) dX9_spends_138 ?_
      refine lv_iconst (v := 1) hx hb dX9_spends_139 (by decide +kernel) ?_
      refine lv_iadd hx hb dX9_spends_140 ?_
      refine sE (j := ix (σ 1 (9 + (σ 1 9).toNatClampNeg)) + 23) Z hw 1 (by decide) rfl (fun _ => rfl) (at_vp er114 (I0.top c79) (w := 23) (by omega)) (at_ix er114 (I0.top c79) (w := 23) (by omega)) dX9_spends_141 (fun H locs hw => ?_)
      refine lv_aload_n hx hb dX9_spends_142 rfl (lv_at hl 2 rfl) ?_
      refine gD (j := 0) (v := .ref (ad 1)) Z hw  (by decide) q_4_212 rfl rfl dX9_spends_143 ?_
      refine lv_iload_n hx hb dX9_spends_146 rfl (lv_at hl 0 rfl) ?_
      refine lv_bipush (v := 16) hx hb dX9_spends_147 (by decide +kernel) ?_
      refine lv_iadd hx hb dX9_spends_149 ?_
      refine lv_dup2_11 hx hb dX9_spends_150 rfl rfl ?_
      refine aE (v := σ 1 (ix (σ 1 (9 + (σ 1 9).toNatClampNeg)) + 16)) Z hw 1 (by decide) rfl (fun _ => rfl) (at_vp er114 (I0.top c79) (w := 16) (by omega)) ((congrArg ((up2 (up2 σ 1 84 ((σ 1 84) + 1)) 1 (ix (σ 1 (9 + (σ 1 9).toNatClampNeg)) + 23) ((σ 1 (ix (σ 1 (9 + (σ 1 9).toNatClampNeg)) + 23)) + 1)) 1) (at_ix er114 (I0.top c79) (w := 16) (by omega))).trans ((up2_j (by omega)).trans (up2_j (by unfold ix; omega)))) dX9_spends_151 ?_
      refine lv_iconst (v := 1) hx hb dX9_spends_152 (by decide +kernel) ?_
      refine lv_iadd hx hb dX9_spends_153 ?_
      refine sE (j := ix (σ 1 (9 + (σ 1 9).toNatClampNeg)) + 16) Z hw 1 (by decide) rfl (fun _ => rfl) (at_vp er114 (I0.top c79) (w := 16) (by omega)) (at_ix er114 (I0.top c79) (w := 16) (by omega)) dX9_spends_154 (fun H locs hw => ?_)
      refine lv_aload_n hx hb dX9_spends_155 rfl (lv_at hl 2 rfl) ?_
      refine gD (j := 0) (v := .ref (ad 1)) Z hw  (by decide) q_4_212 rfl rfl dX9_spends_156 ?_
      refine lv_iload_n hx hb dX9_spends_159 rfl (lv_at hl 0 rfl) ?_
      refine lv_bipush (v := 16) hx hb dX9_spends_160 (by decide +kernel) ?_
      refine lv_iadd hx hb dX9_spends_162 ?_
      refine aE (v := (σ 1 (ix (σ 1 (9 + (σ 1 9).toNatClampNeg)) + 16)) + 1) Z hw 1 (by decide) rfl (fun _ => rfl) (at_vp er114 (I0.top c79) (w := 16) (by omega)) ((congrArg ((up2 (up2 (up2 σ 1 84 ((σ 1 84) + 1)) 1 (ix (σ 1 (9 + (σ 1 9).toNatClampNeg)) + 23) ((σ 1 (ix (σ 1 (9 + (σ 1 9).toNatClampNeg)) + 23)) + 1)) 1 (ix (σ 1 (9 + (σ 1 9).toNatClampNeg)) + 16) ((σ 1 (ix (σ 1 (9 + (σ 1 9).toNatClampNeg)) + 16)) + 1)) 1) (at_ix er114 (I0.top c79) (w := 16) (by omega))).trans up2_s) dX9_spends_163 ?_
      refine lv_aload_n hx hb dX9_spends_164 rfl (lv_at hl 2 rfl) ?_
      refine gD (j := 0) (v := .ref (ad 1)) Z hw  (by decide) q_4_212 rfl rfl dX9_spends_165 ?_
      refine lv_iload_n hx hb dX9_spends_168 rfl (lv_at hl 0 rfl) ?_
      refine lv_iconst (v := 2) hx hb dX9_spends_169 (by decide +kernel) ?_
      refine lv_iadd hx hb dX9_spends_170 ?_
      refine aE (v := σ 1 (ix (σ 1 (9 + (σ 1 9).toNatClampNeg)) + 2)) Z hw 1 (by decide) rfl (fun _ => rfl) (at_vp er114 (I0.top c79) (w := 2) (by omega)) ((congrArg ((up2 (up2 (up2 σ 1 84 ((σ 1 84) + 1)) 1 (ix (σ 1 (9 + (σ 1 9).toNatClampNeg)) + 23) ((σ 1 (ix (σ 1 (9 + (σ 1 9).toNatClampNeg)) + 23)) + 1)) 1 (ix (σ 1 (9 + (σ 1 9).toNatClampNeg)) + 16) ((σ 1 (ix (σ 1 (9 + (σ 1 9).toNatClampNeg)) + 16)) + 1)) 1) (at_ix er114 (I0.top c79) (w := 2) (by omega))).trans ((up2_j (by omega)).trans ((up2_j (by omega)).trans (up2_j (by unfold ix; omega))))) dX9_spends_171 ?_
      refine lv_icmp_ge (tgt := 177) hx hb dX9_spends_172 (by decide) (fun c172 => ?_) (fun c172 => ?_)
      · refine lv_aload_n hx hb dX9_spends_177 rfl (lv_at hl 2 rfl) ?_
        refine gD (j := 0) (v := .ref (ad 1)) Z hw  (by decide) q_4_212 rfl rfl dX9_spends_178 ?_
        refine lv_bipush (v := 9) hx hb dX9_spends_181 (by decide +kernel) ?_
        refine lv_dup2_11 hx hb dX9_spends_183 rfl rfl ?_
        refine aE (v := σ 1 9) Z hw 1 (by decide) rfl (fun _ => rfl) (vp_in_nI (n := 9) (by decide) (by decide)) ((congrArg ((up2 (up2 (up2 σ 1 84 ((σ 1 84) + 1)) 1 (ix (σ 1 (9 + (σ 1 9).toNatClampNeg)) + 23) ((σ 1 (ix (σ 1 (9 + (σ 1 9).toNatClampNeg)) + 23)) + 1)) 1 (ix (σ 1 (9 + (σ 1 9).toNatClampNeg)) + 16) ((σ 1 (ix (σ 1 (9 + (σ 1 9).toNatClampNeg)) + 16)) + 1)) 1) (nI_clamp (n := 9) (by decide))).trans ((up2_j (by unfold ix; omega)).trans ((up2_j (by unfold ix; omega)).trans (up2_j (by decide))))) dX9_spends_184 ?_
        refine lv_iconst (v := 1) hx hb dX9_spends_185 (by decide +kernel) ?_
        refine lv_isub hx hb dX9_spends_186 ?_
        refine sE (j := 9) Z hw 1 (by decide) rfl (fun _ => rfl) (vp_in_nI (n := 9) (by decide) (by decide)) (nI_clamp (n := 9) (by decide)) dX9_spends_187 (fun H locs hw => ?_)
        refine lv_aload_n hx hb dX9_spends_188 rfl (lv_at hl 2 rfl) ?_
        refine gD (j := 0) (v := .ref (ad 1)) Z hw  (by decide) q_4_212 rfl rfl dX9_spends_189 ?_
        refine lv_iload_n hx hb dX9_spends_192 rfl (lv_at hl 0 rfl) ?_
        refine lv_bipush (v := 16) hx hb dX9_spends_193 (by decide +kernel) ?_
        refine lv_iadd hx hb dX9_spends_195 ?_
        refine lv_iconst (v := 0) hx hb dX9_spends_196 (by decide +kernel) ?_
        refine sE (j := ix (σ 1 (9 + (σ 1 9).toNatClampNeg)) + 16) Z hw 1 (by decide) rfl (fun _ => rfl) (at_vp er114 (I0.top c79) (w := 16) (by omega)) (at_ix er114 (I0.top c79) (w := 16) (by omega)) dX9_spends_197 (fun H locs hw => ?_)
        refine lv_aload_n hx hb dX9_spends_198 rfl (lv_at hl 2 rfl) ?_
        refine gD (j := 0) (v := .ref (ad 1)) Z hw  (by decide) q_4_212 rfl rfl dX9_spends_199 ?_
        refine lv_iload_n hx hb dX9_spends_202 rfl (lv_at hl 0 rfl) ?_
        refine lv_bipush (v := 18) hx hb dX9_spends_203 (by decide +kernel) ?_
        refine lv_iadd hx hb dX9_spends_205 ?_
        refine lv_dup2_11 hx hb dX9_spends_206 rfl rfl ?_
        refine aE (v := σ 1 (ix (σ 1 (9 + (σ 1 9).toNatClampNeg)) + 18)) Z hw 1 (by decide) rfl (fun _ => rfl) (at_vp er114 (I0.top c79) (w := 18) (by omega)) ((congrArg ((up2 (up2 (up2 (up2 (up2 σ 1 84 ((σ 1 84) + 1)) 1 (ix (σ 1 (9 + (σ 1 9).toNatClampNeg)) + 23) ((σ 1 (ix (σ 1 (9 + (σ 1 9).toNatClampNeg)) + 23)) + 1)) 1 (ix (σ 1 (9 + (σ 1 9).toNatClampNeg)) + 16) ((σ 1 (ix (σ 1 (9 + (σ 1 9).toNatClampNeg)) + 16)) + 1)) 1 9 ((σ 1 9) - 1)) 1 (ix (σ 1 (9 + (σ 1 9).toNatClampNeg)) + 16) 0) 1) (at_ix er114 (I0.top c79) (w := 18) (by omega))).trans ((up2_j (by omega)).trans ((up2_j (by unfold ix; omega)).trans ((up2_j (by omega)).trans ((up2_j (by omega)).trans (up2_j (by unfold ix; omega))))))) dX9_spends_207 ?_
        refine lv_iconst (v := 1) hx hb dX9_spends_208 (by decide +kernel) ?_
        refine lv_iadd hx hb dX9_spends_209 ?_
        refine sE (j := ix (σ 1 (9 + (σ 1 9).toNatClampNeg)) + 18) Z hw 1 (by decide) rfl (fun _ => rfl) (at_vp er114 (I0.top c79) (w := 18) (by omega)) (at_ix er114 (I0.top c79) (w := 18) (by omega)) dX9_spends_210 (fun H locs hw => ?_)
        refine lv_aload_n hx hb dX9_spends_211 rfl (lv_at hl 2 rfl) ?_
        refine gD (j := 0) (v := .ref (ad 1)) Z hw  (by decide) q_4_212 rfl rfl dX9_spends_212 ?_
        refine lv_iload_n hx hb dX9_spends_215 rfl (lv_at hl 0 rfl) ?_
        refine lv_bipush (v := 6) hx hb dX9_spends_216 (by decide +kernel) ?_
        refine lv_iadd hx hb dX9_spends_218 ?_
        refine lv_aload_n hx hb dX9_spends_219 rfl (lv_at hl 2 rfl) ?_
        refine gD (j := 0) (v := .ref (ad 1)) Z hw  (by decide) q_4_212 rfl rfl dX9_spends_220 ?_
        refine lv_iload_n hx hb dX9_spends_223 rfl (lv_at hl 0 rfl) ?_
        refine lv_iconst (v := 1) hx hb dX9_spends_224 (by decide +kernel) ?_
        refine lv_iadd hx hb dX9_spends_225 ?_
        refine aE (v := σ 1 (ix (σ 1 (9 + (σ 1 9).toNatClampNeg)) + 1)) Z hw 1 (by decide) rfl (fun _ => rfl) (at_vp er114 (I0.top c79) (w := 1) (by omega)) ((congrArg ((up2 (up2 (up2 (up2 (up2 (up2 σ 1 84 ((σ 1 84) + 1)) 1 (ix (σ 1 (9 + (σ 1 9).toNatClampNeg)) + 23) ((σ 1 (ix (σ 1 (9 + (σ 1 9).toNatClampNeg)) + 23)) + 1)) 1 (ix (σ 1 (9 + (σ 1 9).toNatClampNeg)) + 16) ((σ 1 (ix (σ 1 (9 + (σ 1 9).toNatClampNeg)) + 16)) + 1)) 1 9 ((σ 1 9) - 1)) 1 (ix (σ 1 (9 + (σ 1 9).toNatClampNeg)) + 16) 0) 1 (ix (σ 1 (9 + (σ 1 9).toNatClampNeg)) + 18) ((σ 1 (ix (σ 1 (9 + (σ 1 9).toNatClampNeg)) + 18)) + 1)) 1) (at_ix er114 (I0.top c79) (w := 1) (by omega))).trans ((up2_j (by omega)).trans ((up2_j (by omega)).trans ((up2_j (by unfold ix; omega)).trans ((up2_j (by omega)).trans ((up2_j (by omega)).trans (up2_j (by unfold ix; omega)))))))) dX9_spends_226 ?_
        refine lv_iconst (v := 1) hx hb dX9_spends_227 (by decide +kernel) ?_
        have hj251 : ∀ (v251 : Int32) (H : Heap) (locs : List Loc) (ls : Array Slot), ((if (σ 1 (ix (σ 1 (9 + (σ 1 9).toNatClampNeg)) + 1)) = 1 then (σ 1 0) + 1 else σ 1 (ix (σ 1 (9 + (σ 1 9).toNatClampNeg)) + 6)) : Int32) = v251 → wo D A s.heap 6 ad (cE (dE T ad) (up2 (up2 (up2 (up2 (up2 (up2 σ 1 84 ((σ 1 84) + 1)) 1 (ix (σ 1 (9 + (σ 1 9).toNatClampNeg)) + 23) ((σ 1 (ix (σ 1 (9 + (σ 1 9).toNatClampNeg)) + 23)) + 1)) 1 (ix (σ 1 (9 + (σ 1 9).toNatClampNeg)) + 16) ((σ 1 (ix (σ 1 (9 + (σ 1 9).toNatClampNeg)) + 16)) + 1)) 1 9 ((σ 1 9) - 1)) 1 (ix (σ 1 (9 + (σ 1 9).toNatClampNeg)) + 16) 0) 1 (ix (σ 1 (9 + (σ 1 9).toNatClampNeg)) + 18) ((σ 1 (ix (σ 1 (9 + (σ 1 9).toNatClampNeg)) + 18)) + 1))) H locs → lv_has ls 3 [(1, .int (σ 1 (9 + (σ 1 9).toNatClampNeg))), (0, .ref (ad 0))] → W p l e rmX9_spends s m [.ref (ad 0)].toArray below meth c H locs 0 0 (MQ below (qI D 6 ad (dE T ad) (pI (f_X9_spends σ) InvD) A) [.ref (ad 0)].toArray s rmX9_spends.cells rmX9_spends.slots A) (F0 m 251 ls [.int v251, .int (r114 + 6), .ref (ad 1)]) := by
          intro v251 H locs ls ev251 hw hl
          refine sE (j := ix (σ 1 (9 + (σ 1 9).toNatClampNeg)) + 6) Z hw 1 (by decide) rfl (fun _ => rfl) (at_vp er114 (I0.top c79) (w := 6) (by omega)) (at_ix er114 (I0.top c79) (w := 6) (by omega)) dX9_spends_251 (fun H locs hw => ?_)
          refine lv_aload_n hx hb dX9_spends_252 rfl (lv_at hl 1 rfl) ?_
          refine lv_iconst (v := 2) hx hb dX9_spends_253 (by decide +kernel) ?_
          refine lv_iload_n hx hb dX9_spends_254 rfl (lv_at hl 0 rfl) ?_
          refine lv_aload_n hx hb dX9_spends_255 rfl (lv_at hl 1 rfl) ?_
          refine gD (j := 0) (v := .ref (ad 1)) Z hw  (by decide) q_4_212 rfl rfl dX9_spends_256 ?_
          refine lv_iconst (v := 0) hx hb dX9_spends_259 (by decide +kernel) ?_
          refine aE (v := σ 1 0) Z hw 1 (by decide) rfl (fun _ => rfl) (vp_in_nI (n := 0) (by decide) (by decide)) ((congrArg ((up2 (up2 (up2 (up2 (up2 (up2 (up2 σ 1 84 ((σ 1 84) + 1)) 1 (ix (σ 1 (9 + (σ 1 9).toNatClampNeg)) + 23) ((σ 1 (ix (σ 1 (9 + (σ 1 9).toNatClampNeg)) + 23)) + 1)) 1 (ix (σ 1 (9 + (σ 1 9).toNatClampNeg)) + 16) ((σ 1 (ix (σ 1 (9 + (σ 1 9).toNatClampNeg)) + 16)) + 1)) 1 9 ((σ 1 9) - 1)) 1 (ix (σ 1 (9 + (σ 1 9).toNatClampNeg)) + 16) 0) 1 (ix (σ 1 (9 + (σ 1 9).toNatClampNeg)) + 18) ((σ 1 (ix (σ 1 (9 + (σ 1 9).toNatClampNeg)) + 18)) + 1)) 1 (ix (σ 1 (9 + (σ 1 9).toNatClampNeg)) + 6) v251) 1) (nI_clamp (n := 0) (by decide))).trans ((up2_j (by unfold ix; omega)).trans ((up2_j (by unfold ix; omega)).trans ((up2_j (by unfold ix; omega)).trans ((up2_j (by decide)).trans ((up2_j (by unfold ix; omega)).trans ((up2_j (by unfold ix; omega)).trans (up2_j (by decide))))))))) dX9_spends_260 ?_
          refine lv_iconst (v := 1) hx hb dX9_spends_261 (by decide +kernel) ?_
          refine lv_iadd hx hb dX9_spends_262 ?_
          refine bk_v (rnV (rest := []) Z hw (k_X9_logs (p1 := 2) (p2 := σ 1 (9 + (σ 1 9).toNatClampNeg)) (p3 := (σ 1 0) + 1) (InvD.up (InvD.up (InvD.up (InvD.pop ((up2_j (by unfold ix; omega)).trans ((up2_j (by unfold ix; omega)).trans (up2_j (by decide)))) c79 (InvD.up (InvD.up (InvD.up I0 (by decide)) (by unfold InvDcr ix; omega)) (by unfold InvDcr ix; omega))) (by unfold InvDcr ix; omega)) (by unfold InvDcr ix; omega)) (by unfold InvDcr ix; omega))) v_X9_logs q_5_109 (0) (by decide) rfl rfl rfl rfl hl.1 rfl rfl (Nat.le_of_ble_eq_true rfl) ⟨(Nat.le_of_ble_eq_true rfl), (Nat.le_of_ble_eq_true rfl)⟩ ⟨(Nat.le_of_ble_eq_true rfl), (Nat.le_of_ble_eq_true rfl)⟩ dX9_spends_263) hw Z (fun s263 H locs hp hw => ?_)
          obtain ⟨es263, I263⟩ := hp
          refine lv_aload_n hx hb dX9_spends_266 rfl (lv_at hl 1 rfl) ?_
          refine lv_iconst (v := 2) hx hb dX9_spends_267 (by decide +kernel) ?_
          refine lv_iconst (v := (-1)) hx hb dX9_spends_268 (by decide +kernel) ?_
          refine lv_aload_n hx hb dX9_spends_269 rfl (lv_at hl 1 rfl) ?_
          refine gD (j := 0) (v := .ref (ad 1)) Z hw  (by decide) q_4_212 rfl rfl dX9_spends_270 ?_
          refine lv_iconst (v := 3) hx hb dX9_spends_273 (by decide +kernel) ?_
          refine aE (v := s263 1 3) Z hw 1 (by decide) rfl (fun _ => rfl) (vp_in_nI (n := 3) (by decide) (by decide)) ((congrArg (s263 1) (nI_clamp (n := 3) (by decide))).trans rfl) dX9_spends_274 ?_
          refine bk_v (rnV (rest := []) Z hw (k_X9_changes (p1 := 2) (p2 := (-1)) (p3 := s263 1 3) I263 (no13 (by decide) (by decide))) v_X9_changes q_5_186 (0) (by decide) rfl rfl rfl rfl hl.1 rfl rfl (Nat.le_of_ble_eq_true rfl) ⟨(Nat.le_of_ble_eq_true rfl), (Nat.le_of_ble_eq_true rfl)⟩ ⟨(Nat.le_of_ble_eq_true rfl), (Nat.le_of_ble_eq_true rfl)⟩ dX9_spends_275) hw Z (fun s275 H locs hp hw => ?_)
          obtain ⟨es275, I275⟩ := hp
          refine lv_iconst (v := 1) hx hb dX9_spends_278 (by decide +kernel) ?_
          exact rt_i Z hr hlk hw dX9_spends_279 (pI.mk (by subst es275 es263 ev251 er114; exact (lf_t c6 (lf_f c79 (lf_t c172 rfl)))) I275)
        refine lv_icmp_ne (tgt := 242) hx hb dX9_spends_228 (by decide) (fun c228 => ?_) (fun c228 => ?_)
        · refine lv_aload_n hx hb dX9_spends_242 rfl (lv_at hl 2 rfl) ?_
          refine gD (j := 0) (v := .ref (ad 1)) Z hw  (by decide) q_4_212 rfl rfl dX9_spends_243 ?_
          refine lv_iload_n hx hb dX9_spends_246 rfl (lv_at hl 0 rfl) ?_
          refine lv_bipush (v := 6) hx hb dX9_spends_247 (by decide +kernel) ?_
          refine lv_iadd hx hb dX9_spends_249 ?_
          refine aE (v := σ 1 (ix (σ 1 (9 + (σ 1 9).toNatClampNeg)) + 6)) Z hw 1 (by decide) rfl (fun _ => rfl) (at_vp er114 (I0.top c79) (w := 6) (by omega)) ((congrArg ((up2 (up2 (up2 (up2 (up2 (up2 σ 1 84 ((σ 1 84) + 1)) 1 (ix (σ 1 (9 + (σ 1 9).toNatClampNeg)) + 23) ((σ 1 (ix (σ 1 (9 + (σ 1 9).toNatClampNeg)) + 23)) + 1)) 1 (ix (σ 1 (9 + (σ 1 9).toNatClampNeg)) + 16) ((σ 1 (ix (σ 1 (9 + (σ 1 9).toNatClampNeg)) + 16)) + 1)) 1 9 ((σ 1 9) - 1)) 1 (ix (σ 1 (9 + (σ 1 9).toNatClampNeg)) + 16) 0) 1 (ix (σ 1 (9 + (σ 1 9).toNatClampNeg)) + 18) ((σ 1 (ix (σ 1 (9 + (σ 1 9).toNatClampNeg)) + 18)) + 1)) 1) (at_ix er114 (I0.top c79) (w := 6) (by omega))).trans ((up2_j (by omega)).trans ((up2_j (by omega)).trans ((up2_j (by unfold ix; omega)).trans ((up2_j (by omega)).trans ((up2_j (by omega)).trans (up2_j (by unfold ix; omega)))))))) dX9_spends_250 ?_
          exact hj251 _ H locs ls (Eq.symm (lf_f c228 rfl)) hw (lv_sub hl [1, 2] rfl)
        · refine lv_aload_n hx hb dX9_spends_231 rfl (lv_at hl 2 rfl) ?_
          refine gD (j := 0) (v := .ref (ad 1)) Z hw  (by decide) q_4_212 rfl rfl dX9_spends_232 ?_
          refine lv_iconst (v := 0) hx hb dX9_spends_235 (by decide +kernel) ?_
          refine aE (v := σ 1 0) Z hw 1 (by decide) rfl (fun _ => rfl) (vp_in_nI (n := 0) (by decide) (by decide)) ((congrArg ((up2 (up2 (up2 (up2 (up2 (up2 σ 1 84 ((σ 1 84) + 1)) 1 (ix (σ 1 (9 + (σ 1 9).toNatClampNeg)) + 23) ((σ 1 (ix (σ 1 (9 + (σ 1 9).toNatClampNeg)) + 23)) + 1)) 1 (ix (σ 1 (9 + (σ 1 9).toNatClampNeg)) + 16) ((σ 1 (ix (σ 1 (9 + (σ 1 9).toNatClampNeg)) + 16)) + 1)) 1 9 ((σ 1 9) - 1)) 1 (ix (σ 1 (9 + (σ 1 9).toNatClampNeg)) + 16) 0) 1 (ix (σ 1 (9 + (σ 1 9).toNatClampNeg)) + 18) ((σ 1 (ix (σ 1 (9 + (σ 1 9).toNatClampNeg)) + 18)) + 1)) 1) (nI_clamp (n := 0) (by decide))).trans ((up2_j (by unfold ix; omega)).trans ((up2_j (by unfold ix; omega)).trans ((up2_j (by decide)).trans ((up2_j (by unfold ix; omega)).trans ((up2_j (by unfold ix; omega)).trans (up2_j (by decide)))))))) dX9_spends_236 ?_
          refine lv_iconst (v := 1) hx hb dX9_spends_237 (by decide +kernel) ?_
          refine lv_iadd hx hb dX9_spends_238 ?_
          refine lv_goto (tgt := 251) hx hb dX9_spends_239 (by decide) ?_
          exact hj251 _ H locs ls (Eq.symm (lf_t c228 rfl)) hw (lv_sub hl [1, 2] rfl)
      · refine lv_iconst (v := 0) hx hb dX9_spends_175 (by decide +kernel) ?_
        exact rt_i Z hr hlk hw dX9_spends_176 (pI.mk (by subst er114; exact (lf_t c6 (lf_f c79 (lf_f c172 rfl)))) (InvD.up (InvD.up (InvD.up I0 (by decide)) (by unfold InvDcr ix; omega)) (by unfold InvDcr ix; omega)))
    · refine lv_aload_n hx hb dX9_spends_82 rfl (lv_at hl 0 rfl) ?_
      refine gD (j := 0) (v := .ref (ad 1)) Z hw  (by decide) q_4_212 rfl rfl dX9_spends_83 ?_
      refine lv_bipush (v := 83) hx hb dX9_spends_86 (by decide +kernel) ?_
      refine lv_dup2_11 hx hb dX9_spends_88 rfl rfl ?_
      refine aE (v := σ 1 83) Z hw 1 (by decide) rfl (fun _ => rfl) (vp_in_nI (n := 83) (by decide) (by decide)) ((congrArg (σ 1) (nI_clamp (n := 83) (by decide))).trans rfl) dX9_spends_89 ?_
      refine lv_iconst (v := 1) hx hb dX9_spends_90 (by decide +kernel) ?_
      refine lv_iadd hx hb dX9_spends_91 ?_
      refine sE (j := 83) Z hw 1 (by decide) rfl (fun _ => rfl) (vp_in_nI (n := 83) (by decide) (by decide)) (nI_clamp (n := 83) (by decide)) dX9_spends_92 (fun H locs hw => ?_)
      refine lv_iconst (v := 0) hx hb dX9_spends_93 (by decide +kernel) ?_
      exact rt_i Z hr hlk hw dX9_spends_94 (pI.mk (lf_t c6 (lf_t c79 rfl)) (InvD.up I0 (by decide)))
  · refine lv_aload_n hx hb dX9_spends_9 rfl (lv_at hl 0 rfl) ?_
    refine gD (j := 0) (v := .ref (ad 1)) Z hw  (by decide) q_4_212 rfl rfl dX9_spends_10 ?_
    refine lv_bipush (v := 85) hx hb dX9_spends_13 (by decide +kernel) ?_
    refine lv_dup2_11 hx hb dX9_spends_15 rfl rfl ?_
    refine aE (v := σ 1 85) Z hw 1 (by decide) rfl (fun _ => rfl) (vp_in_nI (n := 85) (by decide) (by decide)) ((congrArg (σ 1) (nI_clamp (n := 85) (by decide))).trans rfl) dX9_spends_16 ?_
    refine lv_iconst (v := 1) hx hb dX9_spends_17 (by decide +kernel) ?_
    refine lv_iadd hx hb dX9_spends_18 ?_
    refine sE (j := 85) Z hw 1 (by decide) rfl (fun _ => rfl) (vp_in_nI (n := 85) (by decide) (by decide)) (nI_clamp (n := 85) (by decide)) dX9_spends_19 (fun H locs hw => ?_)
    refine lv_aload_n hx hb dX9_spends_20 rfl (lv_at hl 0 rfl) ?_
    refine gD (j := 0) (v := .ref (ad 1)) Z hw  (by decide) q_4_212 rfl rfl dX9_spends_21 ?_
    refine lv_bipush (v := 7) hx hb dX9_spends_24 (by decide +kernel) ?_
    refine lv_dup2_11 hx hb dX9_spends_26 rfl rfl ?_
    refine aE (v := σ 1 7) Z hw 1 (by decide) rfl (fun _ => rfl) (vp_in_nI (n := 7) (by decide) (by decide)) ((congrArg ((up2 σ 1 85 ((σ 1 85) + 1)) 1) (nI_clamp (n := 7) (by decide))).trans (up2_j (by decide))) dX9_spends_27 ?_
    refine lv_iconst (v := 1) hx hb dX9_spends_28 (by decide +kernel) ?_
    refine lv_isub hx hb dX9_spends_29 ?_
    refine sE (j := 7) Z hw 1 (by decide) rfl (fun _ => rfl) (vp_in_nI (n := 7) (by decide) (by decide)) (nI_clamp (n := 7) (by decide)) dX9_spends_30 (fun H locs hw => ?_)
    refine lv_aload_n hx hb dX9_spends_31 rfl (lv_at hl 0 rfl) ?_
    refine gD (j := 0) (v := .ref (ad 1)) Z hw  (by decide) q_4_212 rfl rfl dX9_spends_32 ?_
    refine lv_bipush (v := 7) hx hb dX9_spends_35 (by decide +kernel) ?_
    refine aE (v := (σ 1 7) - 1) Z hw 1 (by decide) rfl (fun _ => rfl) (vp_in_nI (n := 7) (by decide) (by decide)) ((congrArg ((up2 (up2 σ 1 85 ((σ 1 85) + 1)) 1 7 ((σ 1 7) - 1)) 1) (nI_clamp (n := 7) (by decide))).trans up2_s) dX9_spends_37 ?_
    refine lv_if_ne (tgt := 70) hx hb dX9_spends_38 (by decide) (fun c38 => ?_) (fun c38 => ?_)
    · refine lv_iconst (v := 0) hx hb dX9_spends_70 (by decide +kernel) ?_
      exact rt_i Z hr hlk hw dX9_spends_71 (pI.mk (lf_f c6 (lf_f c38 rfl)) (InvD.up (InvD.up I0 (by decide)) (by decide)))
    · refine lv_aload_n hx hb dX9_spends_41 rfl (lv_at hl 0 rfl) ?_
      refine bk_ip (rnV (rest := []) Z hw (k_X9_isEntering  (InvD.up (InvD.up I0 (by decide)) (by decide))) v_X9_isEntering q_5_182 (0) (by decide) rfl rfl rfl rfl hl.1 rfl rfl (Nat.le_of_ble_eq_true rfl) ⟨(Nat.le_of_ble_eq_true rfl), (Nat.le_of_ble_eq_true rfl)⟩ ⟨(Nat.le_of_ble_eq_true rfl), (Nat.le_of_ble_eq_true rfl)⟩ dX9_spends_42) hw Z (fun r42 er42 H locs hw => ?_)
      refine lv_if_eq (tgt := 63) hx hb dX9_spends_45 (by decide) (fun c45 => ?_) (fun c45 => ?_)
      · refine lv_aload_n hx hb dX9_spends_63 rfl (lv_at hl 0 rfl) ?_
        refine lv_iconst (v := 2) hx hb dX9_spends_64 (by decide +kernel) ?_
        refine lv_iconst (v := (-1)) hx hb dX9_spends_65 (by decide +kernel) ?_
        refine lv_iconst (v := 0) hx hb dX9_spends_66 (by decide +kernel) ?_
        refine bk_v (rnV (rest := []) Z hw (k_X9_changes (p1 := 2) (p2 := (-1)) (p3 := 0) (InvD.up (InvD.up I0 (by decide)) (by decide)) (no13 (by decide) (by decide))) v_X9_changes q_5_186 (0) (by decide) rfl rfl rfl rfl hl.1 rfl rfl (Nat.le_of_ble_eq_true rfl) ⟨(Nat.le_of_ble_eq_true rfl), (Nat.le_of_ble_eq_true rfl)⟩ ⟨(Nat.le_of_ble_eq_true rfl), (Nat.le_of_ble_eq_true rfl)⟩ dX9_spends_67) hw Z (fun s67 H locs hp hw => ?_)
        obtain ⟨es67, I67⟩ := hp
        refine lv_iconst (v := 0) hx hb dX9_spends_70 (by decide +kernel) ?_
        exact rt_i Z hr hlk hw dX9_spends_71 (pI.mk (by subst es67 er42; exact (lf_f c6 (lf_t c38 (lf_t c45 rfl)))) I67)
      · refine lv_aload_n hx hb dX9_spends_48 rfl (lv_at hl 0 rfl) ?_
        refine lv_aload_n hx hb dX9_spends_49 rfl (lv_at hl 0 rfl) ?_
        refine gD (j := 0) (v := .ref (ad 1)) Z hw  (by decide) q_4_212 rfl rfl dX9_spends_50 ?_
        refine lv_iconst (v := 0) hx hb dX9_spends_53 (by decide +kernel) ?_
        refine aE (v := σ 1 0) Z hw 1 (by decide) rfl (fun _ => rfl) (vp_in_nI (n := 0) (by decide) (by decide)) ((congrArg ((up2 (up2 σ 1 85 ((σ 1 85) + 1)) 1 7 ((σ 1 7) - 1)) 1) (nI_clamp (n := 0) (by decide))).trans ((up2_j (by decide)).trans (up2_j (by decide)))) dX9_spends_54 ?_
        refine lv_iconst (v := 1) hx hb dX9_spends_55 (by decide +kernel) ?_
        refine lv_iadd hx hb dX9_spends_56 ?_
        refine bk_v (rnV (rest := []) Z hw (k_X9_comesOnTop (p1 := (σ 1 0) + 1) (InvD.up (InvD.up I0 (by decide)) (by decide)) (InvD.ent (InvD.up (InvD.up I0 (by decide)) (by decide)) (ent_of er42 c45))) v_X9_comesOnTop q_5_190 (0) (by decide) rfl rfl rfl rfl hl.1 rfl rfl (Nat.le_of_ble_eq_true rfl) ⟨(Nat.le_of_ble_eq_true rfl), (Nat.le_of_ble_eq_true rfl)⟩ ⟨(Nat.le_of_ble_eq_true rfl), (Nat.le_of_ble_eq_true rfl)⟩ dX9_spends_57) hw Z (fun s57 H locs hp hw => ?_)
        obtain ⟨es57, I57⟩ := hp
        refine lv_goto (tgt := 70) hx hb dX9_spends_60 (by decide) ?_
        refine lv_iconst (v := 0) hx hb dX9_spends_70 (by decide +kernel) ?_
        exact rt_i Z hr hlk hw dX9_spends_71 (pI.mk (by subst es57 er42; exact (lf_f c6 (lf_t c38 (lf_f c45 rfl)))) I57)
abbrev rmX9_raises : Room := { frames := 1, cells := 0, slots := 0, locals := 24 }
def f_X9_raises (σ : St) (p1 : Int32) : Int32 × St := (let r1 := f_X9_at p1; (if (σ 1 (ix p1 + 4)) = 1 then (let s50 := f_X9_logs (up2 (up2 σ 1 (ix p1 + 19) ((σ 1 (ix p1 + 19)) + 1)) 1 90 ((σ 1 90) + 1)) 3 p1 (σ 1 0); (0, s50)) else (1, up2 (up2 σ 1 (ix p1 + 4) 1) 1 (ix p1 + 6) (σ 1 0))))
theorem v_X9_raises : cvV yX9_raises "NestedBellsModel" cX9_raises 3 (some (.int)) 1 := ⟨q_5_107, s_47, q_1_10, q_5_108, rfl, by decide +kernel, by decide +kernel, by decide +kernel⟩
set_option maxHeartbeats 4000000 in
set_option maxRecDepth 100000 in
theorem k_X9_raises {l : Launch} {D : va_G} {T : Nat → ClassId} {g ad : Nat → Nat} {σ : St} {p1 : Int32} (I0 : InvD σ) (hs : 0 ≤ p1.toInt ∧ p1.toInt < 12) : mX l yX9_raises cX9_raises 3 (some (.int)) rmX9_raises D T g 6 ad (cE (dE T ad) σ) [.ref (ad 0), .int p1] (qI D 6 ad (dE T ad) (pI (f_X9_raises σ p1) InvD)) := by
  refine mX.of (own := "NestedBellsModel") (by decide +kernel) (Nat.le_of_ble_eq_true rfl) rfl ?_
  intro p e s m below meth c A ls H locs Z hr hlk _ hw hl
  have hx := Z.1.1
  have hb := Z.1.2.1
  have hl : lv_has ls 3 [(0, .ref (ad 0)), (1, .int p1)] := hl
  refine lv_iload_n hx hb dX9_raises_0 rfl (lv_at hl 1 rfl) ?_
  refine bk_ip (rnS (rest := []) Z hw (k_X9_at (p1 := p1) ) v_X9_at rfl q_5_40 hl.1 rfl rfl (Nat.le_of_ble_eq_true rfl) ⟨(Nat.le_of_ble_eq_true rfl), (Nat.le_of_ble_eq_true rfl)⟩ ⟨(Nat.le_of_ble_eq_true rfl), (Nat.le_of_ble_eq_true rfl)⟩ dX9_raises_1) hw Z (fun r1 er1 H locs hw => ?_)
  refine lv_istore_n (lv' := [(2, .int r1), (0, .ref (ad 0)), (1, .int p1)]) hx hb dX9_raises_4 rfl hl (by decide) rfl (fun ls hl => ?_)
  refine lv_aload_n hx hb dX9_raises_5 rfl (lv_at hl 1 rfl) ?_
  refine gD (j := 0) (v := .ref (ad 1)) Z hw  (by decide) q_4_212 rfl rfl dX9_raises_6 ?_
  refine lv_iload_n hx hb dX9_raises_9 rfl (lv_at hl 0 rfl) ?_
  refine lv_iconst (v := 4) hx hb dX9_raises_10 (by decide +kernel) ?_
  refine lv_iadd hx hb dX9_raises_11 ?_
  refine aE (v := σ 1 (ix p1 + 4)) Z hw 1 (by decide) rfl (fun _ => rfl) (at_vp er1 hs (w := 4) (by omega)) ((congrArg (σ 1) (at_ix er1 hs (w := 4) (by omega))).trans rfl) dX9_raises_12 ?_
  refine lv_iconst (v := 1) hx hb dX9_raises_13 (by decide +kernel) ?_
  refine lv_icmp_ne (tgt := 55) hx hb dX9_raises_14 (by decide) (fun c14 => ?_) (fun c14 => ?_)
  · refine lv_aload_n hx hb dX9_raises_55 rfl (lv_at hl 1 rfl) ?_
    refine gD (j := 0) (v := .ref (ad 1)) Z hw  (by decide) q_4_212 rfl rfl dX9_raises_56 ?_
    refine lv_iload_n hx hb dX9_raises_59 rfl (lv_at hl 0 rfl) ?_
    refine lv_iconst (v := 4) hx hb dX9_raises_60 (by decide +kernel) ?_
    refine lv_iadd hx hb dX9_raises_61 ?_
    refine lv_iconst (v := 1) hx hb dX9_raises_62 (by decide +kernel) ?_
    refine sE (j := ix p1 + 4) Z hw 1 (by decide) rfl (fun _ => rfl) (at_vp er1 hs (w := 4) (by omega)) (at_ix er1 hs (w := 4) (by omega)) dX9_raises_63 (fun H locs hw => ?_)
    refine lv_aload_n hx hb dX9_raises_64 rfl (lv_at hl 1 rfl) ?_
    refine gD (j := 0) (v := .ref (ad 1)) Z hw  (by decide) q_4_212 rfl rfl dX9_raises_65 ?_
    refine lv_iload_n hx hb dX9_raises_68 rfl (lv_at hl 0 rfl) ?_
    refine lv_bipush (v := 6) hx hb dX9_raises_69 (by decide +kernel) ?_
    refine lv_iadd hx hb dX9_raises_71 ?_
    refine lv_aload_n hx hb dX9_raises_72 rfl (lv_at hl 1 rfl) ?_
    refine gD (j := 0) (v := .ref (ad 1)) Z hw  (by decide) q_4_212 rfl rfl dX9_raises_73 ?_
    refine lv_iconst (v := 0) hx hb dX9_raises_76 (by decide +kernel) ?_
    refine aE (v := σ 1 0) Z hw 1 (by decide) rfl (fun _ => rfl) (vp_in_nI (n := 0) (by decide) (by decide)) ((congrArg ((up2 σ 1 (ix p1 + 4) 1) 1) (nI_clamp (n := 0) (by decide))).trans (up2_j (by unfold ix; omega))) dX9_raises_77 ?_
    refine sE (j := ix p1 + 6) Z hw 1 (by decide) rfl (fun _ => rfl) (at_vp er1 hs (w := 6) (by omega)) (at_ix er1 hs (w := 6) (by omega)) dX9_raises_78 (fun H locs hw => ?_)
    refine lv_iconst (v := 1) hx hb dX9_raises_79 (by decide +kernel) ?_
    exact rt_i Z hr hlk hw dX9_raises_80 (pI.mk (by subst er1; exact (lf_f c14 rfl)) (InvD.up (InvD.up I0 (by unfold InvDcr ix; omega)) (by unfold InvDcr ix; omega)))
  · refine lv_aload_n hx hb dX9_raises_17 rfl (lv_at hl 1 rfl) ?_
    refine gD (j := 0) (v := .ref (ad 1)) Z hw  (by decide) q_4_212 rfl rfl dX9_raises_18 ?_
    refine lv_iload_n hx hb dX9_raises_21 rfl (lv_at hl 0 rfl) ?_
    refine lv_bipush (v := 19) hx hb dX9_raises_22 (by decide +kernel) ?_
    refine lv_iadd hx hb dX9_raises_24 ?_
    refine lv_dup2_11 hx hb dX9_raises_25 rfl rfl ?_
    refine aE (v := σ 1 (ix p1 + 19)) Z hw 1 (by decide) rfl (fun _ => rfl) (at_vp er1 hs (w := 19) (by omega)) ((congrArg (σ 1) (at_ix er1 hs (w := 19) (by omega))).trans rfl) dX9_raises_26 ?_
    refine lv_iconst (v := 1) hx hb dX9_raises_27 (by decide +kernel) ?_
    refine lv_iadd hx hb dX9_raises_28 ?_
    refine sE (j := ix p1 + 19) Z hw 1 (by decide) rfl (fun _ => rfl) (at_vp er1 hs (w := 19) (by omega)) (at_ix er1 hs (w := 19) (by omega)) dX9_raises_29 (fun H locs hw => ?_)
    refine lv_aload_n hx hb dX9_raises_30 rfl (lv_at hl 1 rfl) ?_
    refine gD (j := 0) (v := .ref (ad 1)) Z hw  (by decide) q_4_212 rfl rfl dX9_raises_31 ?_
    refine lv_bipush (v := 90) hx hb dX9_raises_34 (by decide +kernel) ?_
    refine lv_dup2_11 hx hb dX9_raises_36 rfl rfl ?_
    refine aE (v := σ 1 90) Z hw 1 (by decide) rfl (fun _ => rfl) (vp_in_nI (n := 90) (by decide) (by decide)) ((congrArg ((up2 σ 1 (ix p1 + 19) ((σ 1 (ix p1 + 19)) + 1)) 1) (nI_clamp (n := 90) (by decide))).trans (up2_j (by unfold ix; omega))) dX9_raises_37 ?_
    refine lv_iconst (v := 1) hx hb dX9_raises_38 (by decide +kernel) ?_
    refine lv_iadd hx hb dX9_raises_39 ?_
    refine sE (j := 90) Z hw 1 (by decide) rfl (fun _ => rfl) (vp_in_nI (n := 90) (by decide) (by decide)) (nI_clamp (n := 90) (by decide)) dX9_raises_40 (fun H locs hw => ?_)
    refine lv_aload_n hx hb dX9_raises_41 rfl (lv_at hl 1 rfl) ?_
    refine lv_iconst (v := 3) hx hb dX9_raises_42 (by decide +kernel) ?_
    refine lv_iload_n hx hb dX9_raises_43 rfl (lv_at hl 2 rfl) ?_
    refine lv_aload_n hx hb dX9_raises_44 rfl (lv_at hl 1 rfl) ?_
    refine gD (j := 0) (v := .ref (ad 1)) Z hw  (by decide) q_4_212 rfl rfl dX9_raises_45 ?_
    refine lv_iconst (v := 0) hx hb dX9_raises_48 (by decide +kernel) ?_
    refine aE (v := σ 1 0) Z hw 1 (by decide) rfl (fun _ => rfl) (vp_in_nI (n := 0) (by decide) (by decide)) ((congrArg ((up2 (up2 σ 1 (ix p1 + 19) ((σ 1 (ix p1 + 19)) + 1)) 1 90 ((σ 1 90) + 1)) 1) (nI_clamp (n := 0) (by decide))).trans ((up2_j (by decide)).trans (up2_j (by unfold ix; omega)))) dX9_raises_49 ?_
    refine bk_v (rnV (rest := []) Z hw (k_X9_logs (p1 := 3) (p2 := p1) (p3 := σ 1 0) (InvD.up (InvD.up I0 (by unfold InvDcr ix; omega)) (by decide))) v_X9_logs q_5_109 (0) (by decide) rfl rfl rfl rfl hl.1 rfl rfl (Nat.le_of_ble_eq_true rfl) ⟨(Nat.le_of_ble_eq_true rfl), (Nat.le_of_ble_eq_true rfl)⟩ ⟨(Nat.le_of_ble_eq_true rfl), (Nat.le_of_ble_eq_true rfl)⟩ dX9_raises_50) hw Z (fun s50 H locs hp hw => ?_)
    obtain ⟨es50, I50⟩ := hp
    refine lv_iconst (v := 0) hx hb dX9_raises_53 (by decide +kernel) ?_
    exact rt_i Z hr hlk hw dX9_raises_54 (pI.mk (by subst es50 er1; exact (lf_t c14 rfl)) I50)
abbrev rmX9_tick : Room := { frames := 7, cells := 0, slots := 0, locals := 156 }
def f_X9_tick_l2 : Nat → Nat → St → St
  | 0, k2, t2 => (t2)
  | n2 + 1, k2, t2 => (if (t2 1 8) ≤ (nI k2) then t2 else (let r17 := f_X9_of t2 (nI k2) 15; (let s67 : St := (if r17 ≤ 0 then t2 else (let r27 := f_X9_of t2 (nI k2) 14; (if r27 = (t2 1 0) then (let r41 := (f_X9_raises t2 (nI k2)).1; let s41 := (f_X9_raises t2 (nI k2)).2; (let r50 := f_X9_at (nI k2); (let r62 := f_X9_of s41 (nI k2) 15; up2 s41 1 (ix (nI k2) + 14) ((s41 1 (ix (nI k2) + 14)) + r62)))) else t2))); (f_X9_tick_l2 n2 (k2 + 1) s67))))
def f_X9_tick (σ : St) : Int32 × St := (let u2 := (f_X9_tick_l2 fu13 0 σ); (let s74 := f_X9_decides u2; (let r78 := (f_X9_spends s74).1; let s78 := (f_X9_spends s74).2; (r78, up2 s78 1 0 ((s78 1 0) + 1)))))
theorem v_X9_tick : cvV yX9_tick "NestedBellsModel" cX9_tick 3 (some (.int)) 0 := ⟨q_5_149, s_53, q_1_10, q_5_150, rfl, by decide +kernel, by decide +kernel, by decide +kernel⟩
set_option maxHeartbeats 4000000 in
set_option maxRecDepth 100000 in
theorem L_X9_tick_2 {l : Launch} {D : va_G} {T : Nat → ClassId} {g ad : Nat → Nat} {p : Program} {e : Env} {s : State} {m : MethodId} {below : List Frame} {meth : Method} {c : Code} {A : Nat → Prop} {Qw : State → Prop} (Z : en p m c cX9_tick 3 s [.ref (ad 0)].toArray "NestedBellsModel" D T g A) : ∀ (n2 : Nat) (k2 : Nat) (t2 : St) (H : Heap) (locs : List Loc) (ls : Array Slot), k2 ≤ 12 → 12 < k2 + n2 → InvD t2 → wo D A s.heap 6 ad (cE (dE T ad) t2) H locs → lv_has ls 3 [(1, .int (nI k2)), (0, .ref (ad 0))] → (∀ (u2 : St) (H : Heap) (locs : List Loc) (ls : Array Slot), (f_X9_tick_l2 n2 k2 t2) = u2 → InvD u2 → wo D A s.heap 6 ad (cE (dE T ad) u2) H locs → lv_has ls 3 [(0, .ref (ad 0))] → W p l e rmX9_tick s m [.ref (ad 0)].toArray below meth c H locs 0 0 Qw (F0 m 73 ls [])) → W p l e rmX9_tick s m [.ref (ad 0)].toArray below meth c H locs 0 0 Qw (F0 m 2 ls []) := by
  have hx := Z.1.1
  have hb := Z.1.2.1
  intro n2
  induction n2 with
  | zero =>
    intro k2 t2 H locs ls hk2 hn2 It2 hw hl kk
    exact absurd hn2 (by omega)
  | succ n2 ih =>
    intro k2 t2 H locs ls hk2 hn2 It2 hw hl kk
    refine lv_iload_n hx hb dX9_tick_2 rfl (lv_at hl 0 rfl) ?_
    refine lv_aload_n hx hb dX9_tick_3 rfl (lv_at hl 1 rfl) ?_
    refine gD (j := 0) (v := .ref (ad 1)) Z hw  (by decide) q_4_212 rfl rfl dX9_tick_4 ?_
    refine lv_bipush (v := 8) hx hb dX9_tick_7 (by decide +kernel) ?_
    refine aE (v := t2 1 8) Z hw 1 (by decide) rfl (fun _ => rfl) (vp_in_nI (n := 8) (by decide) (by decide)) ((congrArg (t2 1) (nI_clamp (n := 8) (by decide))).trans rfl) dX9_tick_9 ?_
    refine lv_icmp_ge (tgt := 73) hx hb dX9_tick_10 (by decide) (fun c10 => ?_) (fun c10 => ?_)
    · exact kk _ H locs ls (Eq.symm (lf_t c10 rfl)) It2 hw (lv_sub hl [1] rfl)
    · have hkb2 : k2 < 12 := kb_ge c10 It2.1.1.2 hk2 (by decide)
      refine lv_aload_n hx hb dX9_tick_13 rfl (lv_at hl 1 rfl) ?_
      refine lv_iload_n hx hb dX9_tick_14 rfl (lv_at hl 0 rfl) ?_
      refine lv_bipush (v := 15) hx hb dX9_tick_15 (by decide +kernel) ?_
      refine bk_ip (rnV (rest := []) Z hw (k_X9_of (p1 := nI k2) (p2 := 15) It2 (nI_rng (by omega) (by decide)) (by decide +kernel)) v_X9_of q_5_70 (0) (by decide) rfl rfl rfl rfl hl.1 rfl rfl (Nat.le_of_ble_eq_true rfl) ⟨(Nat.le_of_ble_eq_true rfl), (Nat.le_of_ble_eq_true rfl)⟩ ⟨(Nat.le_of_ble_eq_true rfl), (Nat.le_of_ble_eq_true rfl)⟩ dX9_tick_17) hw Z (fun r17 er17 H locs hw => ?_)
      have hj67 : ∀ (s67 : St) (H : Heap) (locs : List Loc) (ls : Array Slot), ((if r17 ≤ 0 then t2 else (let r27 := f_X9_of t2 (nI k2) 14; (if r27 = (t2 1 0) then (let r41 := (f_X9_raises t2 (nI k2)).1; let s41 := (f_X9_raises t2 (nI k2)).2; (let r50 := f_X9_at (nI k2); (let r62 := f_X9_of s41 (nI k2) 15; up2 s41 1 (ix (nI k2) + 14) ((s41 1 (ix (nI k2) + 14)) + r62)))) else t2))) : St) = s67 → InvD s67 → wo D A s.heap 6 ad (cE (dE T ad) s67) H locs → lv_has ls 3 [(1, .int (nI k2)), (0, .ref (ad 0))] → W p l e rmX9_tick s m [.ref (ad 0)].toArray below meth c H locs 0 0 Qw (F0 m 67 ls []) := by
        intro s67 H locs ls es67 I67 hw hl
        refine lv_iinc (v := nI (k2 + 1)) (lv' := [(1, .int (nI (k2 + 1))), (0, .ref (ad 0))]) hx hb dX9_tick_67 hl (k := 0) rfl (nI_1 _) (by decide) rfl (fun ls hl => ?_)
        refine lv_goto (tgt := 2) hx hb dX9_tick_70 (by decide) ?_
        exact ih (k2 + 1) s67 H locs ls (by omega) (by omega) I67 hw (lv_sub hl [0, 1] rfl) (fun u2 H locs ls eu2 I2 hw hl => kk u2 H locs ls (Eq.trans (Eq.symm (show (f_X9_tick_l2 n2 (k2 + 1) s67) = _ from (by subst es67 er17; exact (lf_f c10 rfl)))) eu2) I2 hw hl)
      refine lv_if_le (tgt := 67) hx hb dX9_tick_20 (by decide) (fun c20 => ?_) (fun c20 => ?_)
      · exact hj67 _ H locs ls (Eq.symm (lf_t c20 rfl)) It2 hw (lv_sub hl [0, 1] rfl)
      · refine lv_aload_n hx hb dX9_tick_23 rfl (lv_at hl 1 rfl) ?_
        refine lv_iload_n hx hb dX9_tick_24 rfl (lv_at hl 0 rfl) ?_
        refine lv_bipush (v := 14) hx hb dX9_tick_25 (by decide +kernel) ?_
        refine bk_ip (rnV (rest := []) Z hw (k_X9_of (p1 := nI k2) (p2 := 14) It2 (nI_rng (by omega) (by decide)) (by decide +kernel)) v_X9_of q_5_70 (0) (by decide) rfl rfl rfl rfl hl.1 rfl rfl (Nat.le_of_ble_eq_true rfl) ⟨(Nat.le_of_ble_eq_true rfl), (Nat.le_of_ble_eq_true rfl)⟩ ⟨(Nat.le_of_ble_eq_true rfl), (Nat.le_of_ble_eq_true rfl)⟩ dX9_tick_27) hw Z (fun r27 er27 H locs hw => ?_)
        refine lv_aload_n hx hb dX9_tick_30 rfl (lv_at hl 1 rfl) ?_
        refine gD (j := 0) (v := .ref (ad 1)) Z hw  (by decide) q_4_212 rfl rfl dX9_tick_31 ?_
        refine lv_iconst (v := 0) hx hb dX9_tick_34 (by decide +kernel) ?_
        refine aE (v := t2 1 0) Z hw 1 (by decide) rfl (fun _ => rfl) (vp_in_nI (n := 0) (by decide) (by decide)) ((congrArg (t2 1) (nI_clamp (n := 0) (by decide))).trans rfl) dX9_tick_35 ?_
        refine lv_icmp_ne (tgt := 67) hx hb dX9_tick_36 (by decide) (fun c36 => ?_) (fun c36 => ?_)
        · exact hj67 _ H locs ls (Eq.symm (by subst er27; exact (lf_f c20 (lf_f c36 rfl)))) It2 hw (lv_sub hl [0, 1] rfl)
        · refine lv_aload_n hx hb dX9_tick_39 rfl (lv_at hl 1 rfl) ?_
          refine lv_iload_n hx hb dX9_tick_40 rfl (lv_at hl 0 rfl) ?_
          refine bk_i (rnV (rest := []) Z hw (k_X9_raises (p1 := nI k2) It2 (nI_rng (by omega) (by decide))) v_X9_raises q_5_105 (0) (by decide) rfl rfl rfl rfl hl.1 rfl rfl (Nat.le_of_ble_eq_true rfl) ⟨(Nat.le_of_ble_eq_true rfl), (Nat.le_of_ble_eq_true rfl)⟩ ⟨(Nat.le_of_ble_eq_true rfl), (Nat.le_of_ble_eq_true rfl)⟩ dX9_tick_41) hw Z (fun r41 s41 H locs hp hw => ?_)
          obtain ⟨er41, es41, I41⟩ := hp
          refine lv_istore_n (lv' := [(2, .int r41), (1, .int (nI k2)), (0, .ref (ad 0))]) hx hb dX9_tick_44 rfl hl (by decide) rfl (fun ls hl => ?_)
          refine lv_aload_n hx hb dX9_tick_45 rfl (lv_at hl 2 rfl) ?_
          refine gD (j := 0) (v := .ref (ad 1)) Z hw  (by decide) q_4_212 rfl rfl dX9_tick_46 ?_
          refine lv_iload_n hx hb dX9_tick_49 rfl (lv_at hl 1 rfl) ?_
          refine bk_ip (rnS (rest := [.ref (ad 1)]) Z hw (k_X9_at (p1 := nI k2) ) v_X9_at rfl q_5_40 hl.1 rfl rfl (Nat.le_of_ble_eq_true rfl) ⟨(Nat.le_of_ble_eq_true rfl), (Nat.le_of_ble_eq_true rfl)⟩ ⟨(Nat.le_of_ble_eq_true rfl), (Nat.le_of_ble_eq_true rfl)⟩ dX9_tick_50) hw Z (fun r50 er50 H locs hw => ?_)
          refine lv_bipush (v := 14) hx hb dX9_tick_53 (by decide +kernel) ?_
          refine lv_iadd hx hb dX9_tick_55 ?_
          refine lv_dup2_11 hx hb dX9_tick_56 rfl rfl ?_
          refine aE (v := s41 1 (ix (nI k2) + 14)) Z hw 1 (by decide) rfl (fun _ => rfl) (at_vp er50 (nI_rng (by omega) (by decide)) (w := 14) (by omega)) ((congrArg (s41 1) (at_ix er50 (nI_rng (by omega) (by decide)) (w := 14) (by omega))).trans rfl) dX9_tick_57 ?_
          refine lv_aload_n hx hb dX9_tick_58 rfl (lv_at hl 2 rfl) ?_
          refine lv_iload_n hx hb dX9_tick_59 rfl (lv_at hl 1 rfl) ?_
          refine lv_bipush (v := 15) hx hb dX9_tick_60 (by decide +kernel) ?_
          refine bk_ip (rnV (rest := [.int (s41 1 (ix (nI k2) + 14)), .int (r50 + 14), .ref (ad 1)]) Z hw (k_X9_of (p1 := nI k2) (p2 := 15) I41 (nI_rng (by omega) (by decide)) (by decide +kernel)) v_X9_of q_5_70 (0) (by decide) rfl rfl rfl rfl hl.1 rfl rfl (Nat.le_of_ble_eq_true rfl) ⟨(Nat.le_of_ble_eq_true rfl), (Nat.le_of_ble_eq_true rfl)⟩ ⟨(Nat.le_of_ble_eq_true rfl), (Nat.le_of_ble_eq_true rfl)⟩ dX9_tick_62) hw Z (fun r62 er62 H locs hw => ?_)
          refine lv_iadd hx hb dX9_tick_65 ?_
          refine sE (j := ix (nI k2) + 14) Z hw 1 (by decide) rfl (fun _ => rfl) (at_vp er50 (nI_rng (by omega) (by decide)) (w := 14) (by omega)) (at_ix er50 (nI_rng (by omega) (by decide)) (w := 14) (by omega)) dX9_tick_66 (fun H locs hw => ?_)
          exact hj67 _ H locs ls (Eq.symm (by subst er62 er50 es41 er41 er27; exact (lf_f c20 (lf_t c36 rfl)))) (InvD.up I41 (by unfold InvDcr ix; omega)) hw (lv_sub hl [1, 2] rfl)
set_option maxHeartbeats 4000000 in
set_option maxRecDepth 100000 in
theorem k_X9_tick {l : Launch} {D : va_G} {T : Nat → ClassId} {g ad : Nat → Nat} {σ : St} (I0 : InvD σ) : mX l yX9_tick cX9_tick 3 (some (.int)) rmX9_tick D T g 6 ad (cE (dE T ad) σ) [.ref (ad 0)] (qI D 6 ad (dE T ad) (pI (f_X9_tick σ) InvD)) := by
  refine mX.of (own := "NestedBellsModel") (by decide +kernel) (Nat.le_of_ble_eq_true rfl) rfl ?_
  intro p e s m below meth c A ls H locs Z hr hlk _ hw hl
  have hx := Z.1.1
  have hb := Z.1.2.1
  have hl : lv_has ls 3 [(0, .ref (ad 0))] := hl
  refine lv_iconst (v := 0) hx hb dX9_tick_0 (by decide +kernel) ?_
  refine lv_istore_n (lv' := [(1, .int 0), (0, .ref (ad 0))]) hx hb dX9_tick_1 rfl hl (by decide) rfl (fun ls hl => ?_)
  refine L_X9_tick_2 Z fu13 0 σ H locs ls (by omega) (by unfold fu13; omega) I0 hw (lv_sub hl [0, 1] rfl) (fun u2 H locs ls eu2 I2 hw hl => ?_)
  refine lv_aload_n hx hb dX9_tick_73 rfl (lv_at hl 0 rfl) ?_
  refine bk_v (rnV (rest := []) Z hw (k_X9_decides  I2) v_X9_decides q_5_151 (0) (by decide) rfl rfl rfl rfl hl.1 rfl rfl (Nat.le_of_ble_eq_true rfl) ⟨(Nat.le_of_ble_eq_true rfl), (Nat.le_of_ble_eq_true rfl)⟩ ⟨(Nat.le_of_ble_eq_true rfl), (Nat.le_of_ble_eq_true rfl)⟩ dX9_tick_74) hw Z (fun s74 H locs hp hw => ?_)
  obtain ⟨es74, I74⟩ := hp
  refine lv_aload_n hx hb dX9_tick_77 rfl (lv_at hl 0 rfl) ?_
  refine bk_i (rnV (rest := []) Z hw (k_X9_spends  I74) v_X9_spends q_5_194 (0) (by decide) rfl rfl rfl rfl hl.1 rfl rfl (Nat.le_of_ble_eq_true rfl) ⟨(Nat.le_of_ble_eq_true rfl), (Nat.le_of_ble_eq_true rfl)⟩ ⟨(Nat.le_of_ble_eq_true rfl), (Nat.le_of_ble_eq_true rfl)⟩ dX9_tick_78) hw Z (fun r78 s78 H locs hp hw => ?_)
  obtain ⟨er78, es78, I78⟩ := hp
  refine lv_istore_n (lv' := [(1, .int r78), (0, .ref (ad 0))]) hx hb dX9_tick_81 rfl hl (by decide) rfl (fun ls hl => ?_)
  refine lv_aload_n hx hb dX9_tick_82 rfl (lv_at hl 1 rfl) ?_
  refine gD (j := 0) (v := .ref (ad 1)) Z hw  (by decide) q_4_212 rfl rfl dX9_tick_83 ?_
  refine lv_iconst (v := 0) hx hb dX9_tick_86 (by decide +kernel) ?_
  refine lv_dup2_11 hx hb dX9_tick_87 rfl rfl ?_
  refine aE (v := s78 1 0) Z hw 1 (by decide) rfl (fun _ => rfl) (vp_in_nI (n := 0) (by decide) (by decide)) ((congrArg (s78 1) (nI_clamp (n := 0) (by decide))).trans rfl) dX9_tick_88 ?_
  refine lv_iconst (v := 1) hx hb dX9_tick_89 (by decide +kernel) ?_
  refine lv_iadd hx hb dX9_tick_90 ?_
  refine sE (j := 0) Z hw 1 (by decide) rfl (fun _ => rfl) (vp_in_nI (n := 0) (by decide) (by decide)) (nI_clamp (n := 0) (by decide)) dX9_tick_91 (fun H locs hw => ?_)
  refine lv_iload_n hx hb dX9_tick_92 rfl (lv_at hl 0 rfl) ?_
  exact rt_i Z hr hlk hw dX9_tick_93 (pI.mk (by subst es78 er78 es74 eu2; exact rfl) (InvD.up I78 (by decide)))
abbrev rmX9_runs : Room := { frames := 8, cells := 0, slots := 0, locals := 178 }
def f_X9_runs_l4 (p1 : Int32) : Nat → Nat → Int32 → St → Int32 × St
  | 0, k4, a4_2, t4 => (a4_2, t4)
  | n4 + 1, k4, a4_2, t4 => (if p1 ≤ (nI k4) then (a4_2, t4) else (let r11 := (f_X9_tick t4).1; let s11 := (f_X9_tick t4).2; (f_X9_runs_l4 p1 n4 (k4 + 1) (a4_2 + r11) s11)))
def f_X9_runs (σ : St) (p1 : Int32) : Int32 × St := (let w4_2 := (f_X9_runs_l4 p1 fu501 0 0 σ).1; let u4 := (f_X9_runs_l4 p1 fu501 0 0 σ).2; (w4_2, u4))
theorem v_X9_runs : cvV yX9_runs "NestedBellsModel" cX9_runs 4 (some (.int)) 1 := ⟨q_5_145, s_52, q_1_10, q_5_146, rfl, by decide +kernel, by decide +kernel, by decide +kernel⟩
set_option maxHeartbeats 4000000 in
set_option maxRecDepth 100000 in
theorem L_X9_runs_4 {l : Launch} {D : va_G} {T : Nat → ClassId} {g ad : Nat → Nat} {p : Program} {e : Env} {s : State} {m : MethodId} {below : List Frame} {meth : Method} {c : Code} {A : Nat → Prop} {Qw : State → Prop} {p1 : Int32} (Z : en p m c cX9_runs 4 s [.ref (ad 0), .int p1].toArray "NestedBellsModel" D T g A) (hb1 : p1.toInt ≤ 500) : ∀ (n4 : Nat) (k4 : Nat) (a4_2 : Int32) (t4 : St) (H : Heap) (locs : List Loc) (ls : Array Slot), k4 ≤ 500 → 500 < k4 + n4 → InvD t4 → wo D A s.heap 6 ad (cE (dE T ad) t4) H locs → lv_has ls 4 [(3, .int (nI k4)), (2, .int a4_2), (0, .ref (ad 0)), (1, .int p1)] → (∀ (w4_2 : Int32) (u4 : St) (H : Heap) (locs : List Loc) (ls : Array Slot), (f_X9_runs_l4 p1 n4 k4 a4_2 t4).1 = w4_2 → (f_X9_runs_l4 p1 n4 k4 a4_2 t4).2 = u4 → InvD u4 → wo D A s.heap 6 ad (cE (dE T ad) u4) H locs → lv_has ls 4 [(2, .int w4_2)] → W p l e rmX9_runs s m [.ref (ad 0), .int p1].toArray below meth c H locs 0 0 Qw (F0 m 22 ls [])) → W p l e rmX9_runs s m [.ref (ad 0), .int p1].toArray below meth c H locs 0 0 Qw (F0 m 4 ls []) := by
  have hx := Z.1.1
  have hb := Z.1.2.1
  intro n4
  induction n4 with
  | zero =>
    intro k4 a4_2 t4 H locs ls hk4 hn4 It4 hw hl kk
    exact absurd hn4 (by omega)
  | succ n4 ih =>
    intro k4 a4_2 t4 H locs ls hk4 hn4 It4 hw hl kk
    refine lv_iload_n hx hb dX9_runs_4 rfl (lv_at hl 0 rfl) ?_
    refine lv_iload_n hx hb dX9_runs_5 rfl (lv_at hl 3 rfl) ?_
    refine lv_icmp_ge (tgt := 22) hx hb dX9_runs_6 (by decide) (fun c6 => ?_) (fun c6 => ?_)
    · exact kk _ _ H locs ls (Eq.symm (congrArg (fun z : Int32 × St => z.1) (show (a4_2, t4) = _ from (lf_t c6 rfl)))) (Eq.symm (congrArg (fun z : Int32 × St => z.2) (show (a4_2, t4) = _ from (lf_t c6 rfl)))) It4 hw (lv_sub hl [1] rfl)
    · have hkb4 : k4 < 500 := kb_ge c6 hb1 hk4 (by decide)
      refine lv_iload_n hx hb dX9_runs_9 rfl (lv_at hl 1 rfl) ?_
      refine lv_aload_n hx hb dX9_runs_10 rfl (lv_at hl 2 rfl) ?_
      refine bk_i (rnV (rest := [.int a4_2]) Z hw (k_X9_tick  It4) v_X9_tick q_5_147 (0) (by decide) rfl rfl rfl rfl hl.1 rfl rfl (Nat.le_of_ble_eq_true rfl) ⟨(Nat.le_of_ble_eq_true rfl), (Nat.le_of_ble_eq_true rfl)⟩ ⟨(Nat.le_of_ble_eq_true rfl), (Nat.le_of_ble_eq_true rfl)⟩ dX9_runs_11) hw Z (fun r11 s11 H locs hp hw => ?_)
      obtain ⟨er11, es11, I11⟩ := hp
      refine lv_iadd hx hb dX9_runs_14 ?_
      refine lv_istore_n (lv' := [(2, .int (a4_2 + r11)), (3, .int (nI k4)), (0, .ref (ad 0)), (1, .int p1)]) hx hb dX9_runs_15 rfl hl (by decide) rfl (fun ls hl => ?_)
      refine lv_iinc (v := nI (k4 + 1)) (lv' := [(3, .int (nI (k4 + 1))), (2, .int (a4_2 + r11)), (0, .ref (ad 0)), (1, .int p1)]) hx hb dX9_runs_16 hl (k := 1) rfl (nI_1 _) (by decide) rfl (fun ls hl => ?_)
      refine lv_goto (tgt := 4) hx hb dX9_runs_19 (by decide) ?_
      exact ih (k4 + 1) (a4_2 + r11) s11 H locs ls (by omega) (by omega) I11 hw (lv_sub hl [0, 1, 2, 3] rfl) (fun w4_2 u4 H locs ls ew4_2 eu4 I4 hw hl => kk w4_2 u4 H locs ls (Eq.trans (Eq.symm (congrArg (fun z : Int32 × St => z.1) (show (f_X9_runs_l4 p1 n4 (k4 + 1) (a4_2 + r11) s11) = _ from (by subst es11 er11; exact (lf_f c6 rfl))))) ew4_2) (Eq.trans (Eq.symm (congrArg (fun z : Int32 × St => z.2) (show (f_X9_runs_l4 p1 n4 (k4 + 1) (a4_2 + r11) s11) = _ from (by subst es11 er11; exact (lf_f c6 rfl))))) eu4) I4 hw hl)
set_option maxHeartbeats 4000000 in
set_option maxRecDepth 100000 in
theorem k_X9_runs {l : Launch} {D : va_G} {T : Nat → ClassId} {g ad : Nat → Nat} {σ : St} {p1 : Int32} (I0 : InvD σ) (hb1 : p1.toInt ≤ 500) : mX l yX9_runs cX9_runs 4 (some (.int)) rmX9_runs D T g 6 ad (cE (dE T ad) σ) [.ref (ad 0), .int p1] (qI D 6 ad (dE T ad) (pI (f_X9_runs σ p1) InvD)) := by
  refine mX.of (own := "NestedBellsModel") (by decide +kernel) (Nat.le_of_ble_eq_true rfl) rfl ?_
  intro p e s m below meth c A ls H locs Z hr hlk _ hw hl
  have hx := Z.1.1
  have hb := Z.1.2.1
  have hl : lv_has ls 4 [(0, .ref (ad 0)), (1, .int p1)] := hl
  refine lv_iconst (v := 0) hx hb dX9_runs_0 (by decide +kernel) ?_
  refine lv_istore_n (lv' := [(2, .int 0), (0, .ref (ad 0)), (1, .int p1)]) hx hb dX9_runs_1 rfl hl (by decide) rfl (fun ls hl => ?_)
  refine lv_iconst (v := 0) hx hb dX9_runs_2 (by decide +kernel) ?_
  refine lv_istore_n (lv' := [(3, .int 0), (2, .int 0), (0, .ref (ad 0)), (1, .int p1)]) hx hb dX9_runs_3 rfl hl (by decide) rfl (fun ls hl => ?_)
  refine L_X9_runs_4 (p1 := p1) Z hb1 fu501 0 0 σ H locs ls (by omega) (by unfold fu501; omega) I0 hw (lv_sub hl [0, 1, 2, 3] rfl) (fun w4_2 u4 H locs ls ew4_2 eu4 I4 hw hl => ?_)
  refine lv_iload_n hx hb dX9_runs_22 rfl (lv_at hl 0 rfl) ?_
  exact rt_i Z hr hlk hw dX9_runs_23 (pI.mk (by subst eu4 ew4_2; exact rfl) I4)
