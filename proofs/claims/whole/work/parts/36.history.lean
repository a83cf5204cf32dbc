/-- copying Machine q1 into Machine q0 -/
def cpB (q0 q1 : Nat) (σ : St) : St := mg (giP q0 q1) σ (f_X5_copyFrom (sb (gmP q0 q1) σ))
theorem giM_s {q a : Nat} (h : a < 57) : giM q (gmM q a) = some a := by
  unfold giM gmM
  rw [if_pos (by omega)]
  congr 1; omega
theorem giM_n {q k : Nat} (h : ¬ (6 + 57 * q ≤ k ∧ k < 6 + 57 * q + 57)) : giM q k = none := if_neg h
theorem cpB_0 {q0 q1 a b : Nat} {σ : St} (ha : a < 57) : (cpM a b → cpB q0 q1 σ (gmM q0 a) b = zz a b (σ (gmM q1 a) b)) ∧ (¬ cpM a b → cpB q0 q1 σ (gmM q0 a) b = σ (gmM q0 a) b) := by
  have e : cpB q0 q1 σ (gmM q0 a) b = f_X5_copyFrom (sb (gmP q0 q1) σ) a b := by
    unfold cpB mg giP
    rw [giM_s ha]
  have h := cp5 (σ := sb (gmP q0 q1) σ) a b
  have e0 : sb (gmP q0 q1) σ a b = σ (gmM q0 a) b := by unfold sb gmP; rw [if_pos ha]
  have e1 : sb (gmP q0 q1) σ (57 + a) b = σ (gmM q1 a) b := by unfold sb gmP; rw [if_neg (by omega), show 57 + a - 57 = a by omega]
  rw [e, ← e0, ← e1]
  exact h
theorem cpB_1 {q0 q1 k b : Nat} {σ : St} (hk : ¬ (6 + 57 * q0 ≤ k ∧ k < 6 + 57 * q0 + 57)) : cpB q0 q1 σ k b = σ k b := by
  unfold cpB mg giP
  rw [giM_n hk]
  by_cases c : 6 + 57 * q1 ≤ k ∧ k < 6 + 57 * q1 + 57
  · rw [show giM q1 k = some (k - (6 + 57 * q1)) from if_pos c]
    show f_X5_copyFrom (sb (gmP q0 q1) σ) (57 + (k - (6 + 57 * q1))) b = σ k b
    have h := (cp5 (σ := sb (gmP q0 q1) σ) (57 + (k - (6 + 57 * q1))) b).2 (by unfold cpM; omega)
    rw [h]
    unfold sb gmP gmM
    rw [if_neg (by omega)]
    congr 1; omega
  · rw [giM_n c]
    rfl
theorem InvC.cong {σ τ : St} (I : InvC σ) (h4 : τ 0 4 = σ 0 4) (h6 : τ 0 6 = σ 0 6) (h53 : τ 5 3 = σ 5 3) (h54 : τ 5 4 = σ 5 4) (h18 : ∀ i, i < 12 → τ (9 + i) 18 = σ (9 + i) 18) : InvC τ := by
  obtain ⟨a, b, c, d, e⟩ := I
  exact ⟨by rw [h4]; exact a, by rw [h6]; exact b, by rw [h53]; exact c, by rw [h54]; exact d, fun i hi => by rw [h18 i hi]; exact e i hi⟩
/-- what the class keeps of the whole object -/
def InvB (σ : St) : Prop := (0 ≤ (σ 1 1).toInt ∧ (σ 1 1).toInt < 5) ∧ (0 ≤ (σ 1 2).toInt ∧ (σ 1 2).toInt ≤ 4) ∧ InvX (sb gmX σ) ∧ ∀ q, q < 7 → InvC (sb (gmM q) σ)
theorem InvB.copied {σ : St} {q0 q1 : Nat} (h0 : q0 < 7) (h1 : q1 < 7) (hne : q0 ≠ q1) (I : InvB σ) : InvB (cpB q0 q1 σ) := by
  obtain ⟨a, b, c, d⟩ := I
  refine ⟨?_, ?_, ?_, fun q hq => ?_⟩
  · rw [cpB_1 (by omega)]; exact a
  · rw [cpB_1 (by omega)]; exact b
  · unfold InvX sb gmX at c ⊢
    rw [cpB_1 (by omega), cpB_1 (by omega)]; exact c
  · by_cases e : q = q0
    · subst e
      have k : ∀ x y, x < 57 → cpM x y → ¬ (9 ≤ x ∧ x < 21 ∧ 3 ≤ y ∧ y < 6) → sb (gmM q) (cpB q q1 σ) x y = sb (gmM q1) σ x y := fun x y hx hm hz => ((cpB_0 hx).1 hm).trans (zz_n hz).symm
      exact (d q1 h1).cong (k 0 4 (by decide) (by unfold cpM; omega) (by omega)) (k 0 6 (by decide) (by unfold cpM; omega) (by omega)) (k 5 3 (by decide) (by unfold cpM; omega) (by omega)) (k 5 4 (by decide) (by unfold cpM; omega) (by omega)) (fun i hi => k (9 + i) 18 (by omega) (by unfold cpM; omega) (by omega))
    · have k : ∀ x y, x < 57 → sb (gmM q) (cpB q0 q1 σ) x y = sb (gmM q) σ x y := fun x y hx => cpB_1 (by unfold gmM; omega)
      exact (d q hq).cong (k 0 4 (by decide)) (k 0 6 (by decide)) (k 5 3 (by decide)) (k 5 4 (by decide)) (fun i hi => k (9 + i) 18 (by omega))
theorem InvB.next {σ : St} {v : Int32} (h : 0 ≤ v.toInt ∧ v.toInt < 5) (I : InvB σ) : InvB (up2 σ 1 1 v) := by
  obtain ⟨a, b, c, d⟩ := I
  have k : ∀ x y, x ≠ 1 → up2 σ 1 1 v x y = σ x y := fun x y hx => up2_k hx
  refine ⟨by rw [up2_s]; exact h, by rw [up2_j (by decide)]; exact b, ?_, fun q hq => ?_⟩
  · unfold InvX sb gmX at c ⊢
    rw [k _ _ (by omega), k _ _ (by omega)]; exact c
  · have k2 : ∀ x y, sb (gmM q) (up2 σ 1 1 v) x y = sb (gmM q) σ x y := fun x y => k _ _ (by unfold gmM; omega)
    exact (d q hq).cong (k2 0 4) (k2 0 6) (k2 5 3) (k2 5 4) (fun i hi => k2 (9 + i) 18)
theorem InvB.count {σ : St} {v : Int32} (h : 0 ≤ v.toInt ∧ v.toInt ≤ 4) (I : InvB σ) : InvB (up2 σ 1 2 v) := by
  obtain ⟨a, b, c, d⟩ := I
  have k : ∀ x y, x ≠ 1 → up2 σ 1 2 v x y = σ x y := fun x y hx => up2_k hx
  refine ⟨by rw [up2_j (by decide)]; exact a, by rw [up2_s]; exact h, ?_, fun q hq => ?_⟩
  · unfold InvX sb gmX at c ⊢
    rw [k _ _ (by omega), k _ _ (by omega)]; exact c
  · have k2 : ∀ x y, sb (gmM q) (up2 σ 1 2 v) x y = sb (gmM q) σ x y := fun x y => k _ _ (by unfold gmM; omega)
    exact (d q hq).cong (k2 0 4) (k2 0 6) (k2 5 3) (k2 5 4) (fun i hi => k2 (9 + i) 18)
theorem r5_i {x : Int32} (h : 0 ≤ x.toInt ∧ x.toInt < 5) : 0 ≤ ((x + 1) - (x + 1) / 5 * 5).toInt ∧ ((x + 1) - (x + 1) / 5 * 5).toInt < 5 := by
  obtain ⟨j, hj, rfl⟩ := of_nI (n := 5) h (by decide)
  have key : ∀ j, j < 5 → 0 ≤ ((nI j + 1) - (nI j + 1) / 5 * 5).toInt ∧ ((nI j + 1) - (nI j + 1) / 5 * 5).toInt < 5 := by decide +kernel
  exact key j hj
theorem r5_d {x : Int32} (h : 0 ≤ x.toInt ∧ x.toInt < 5) : 0 ≤ ((x + 5) - 1 - ((x + 5) - 1) / 5 * 5).toInt ∧ ((x + 5) - 1 - ((x + 5) - 1) / 5 * 5).toInt < 5 := by
  obtain ⟨j, hj, rfl⟩ := of_nI (n := 5) h (by decide)
  have key : ∀ j, j < 5 → 0 ≤ ((nI j + 5) - 1 - ((nI j + 5) - 1) / 5 * 5).toInt ∧ ((nI j + 5) - 1 - ((nI j + 5) - 1) / 5 * 5).toInt < 5 := by decide +kernel
  exact key j hj
theorem c4_i {x : Int32} (h : 0 ≤ x.toInt ∧ x.toInt ≤ 4) (c : ¬ 4 ≤ x) : 0 ≤ (x + 1).toInt ∧ (x + 1).toInt ≤ 4 := inc_to h.1 c (by decide) (by decide)
theorem c4_d {x : Int32} (h : 0 ≤ x.toInt ∧ x.toInt ≤ 4) (c : ¬ x = 0) : 0 ≤ (x - 1).toInt ∧ (x - 1).toInt ≤ 4 := by
  obtain ⟨j, hj, rfl⟩ := of_nI (n := 5) ⟨h.1, by omega⟩ (by decide)
  have key : ∀ j, j < 5 → ¬ nI j = 0 → 0 ≤ (nI j - 1).toInt ∧ (nI j - 1).toInt ≤ 4 := by decide +kernel
  exact key j hj c
theorem n5 {x : Int32} (h : 0 ≤ x.toInt ∧ x.toInt < 5) : x.toNatClampNeg < 5 := by
  have := tnc h.1
  omega

abbrev rmX4_prepare : Room := { frames := 3, cells := 0, slots := 0, locals := 83 }
def f_X4_prepare (σ : St) : St := cpB (2 + ((σ 1 1).toNatClampNeg)) 0 σ
theorem v_X4_prepare : cvV yX4_prepare "NestedBells$History" cX4_prepare 2 none 1 := ⟨q_2_133, q_2_134, q_1_6, q_2_135, rfl, by decide +kernel, by decide +kernel, by decide +kernel⟩
set_option maxHeartbeats 4000000 in
set_option maxRecDepth 100000 in
theorem k_X4_prepare {l : Launch} {D : va_G} {T : Nat → ClassId} {g ad : Nat → Nat} {σ : St} (I0 : InvB σ) : mX l yX4_prepare cX4_prepare 2 none rmX4_prepare D T g 405 ad (cE (bE g T ad) σ) [.ref (ad 1), .ref (ad (6 + 57 * 0))] (qV D 405 ad (bE g T ad) (pV (f_X4_prepare σ) InvB)) := by
  refine mX.of (own := "NestedBells$History") (by decide +kernel) (Nat.le_of_ble_eq_true rfl) rfl ?_
  intro p e s m below meth c A ls H locs Z hr hlk _ hw hl
  have hx := Z.1.1
  have hb := Z.1.2.1
  have hl : lv_has ls 2 [(0, .ref (ad 1)), (1, .ref (ad (6 + 57 * 0)))] := hl
  refine lv_aload_n hx hb dX4_prepare_0 rfl (lv_at hl 0 rfl) ?_
  refine gO (C := "NestedBells$History") (TC := TX4) (NF := 3) (ci := 2) (j := 0) (v := .ref (ad 2)) Z hw (1) (by decide) rfl (fun _ => rfl) rfl iX4 (by decide) q_1_216 rfl rfl dX4_prepare_1 ?_
  refine lv_aload_n hx hb dX4_prepare_4 rfl (lv_at hl 0 rfl) ?_
  refine gO (C := "NestedBells$History") (TC := TX4) (NF := 3) (ci := 2) (j := 1) (v := .int (σ 1 1)) Z hw (1) (by decide) rfl (fun _ => rfl) rfl iX4 (by decide) q_1_217 rfl rfl dX4_prepare_5 ?_
  refine qE (n := 5) (t0 := 3) (v := .ref (ad (6 + 57 * (2 + ((σ 1 1).toNatClampNeg))))) Z hw 2 (by decide) rfl rfl rfl (vp_in_iff.mpr I0.1) (tr_ok rfl (n5 I0.1)) dX4_prepare_8 ?_
  refine lv_aload_n hx hb dX4_prepare_9 rfl (lv_at hl 1 rfl) ?_
  refine bs_v (prtP (g := g) (T := T) (ad := ad) (q0 := 2 + ((σ 1 1).toNatClampNeg)) (q1 := 0) (by have h1 : (σ 1 1).toNatClampNeg < 5 := (n5 I0.1); omega) (by decide) (by omega)) (rnV (rest := []) Z ((prtP (g := g) (T := T) (ad := ad) (q0 := 2 + ((σ 1 1).toNatClampNeg)) (q1 := 0) (by have h1 : (σ 1 1).toNatClampNeg < 5 := (n5 I0.1); omega) (by decide) (by omega)).sub hw) k_X5_copyFrom v_X5_copyFrom q_2_136 0 (by decide) rfl rfl rfl rfl hl.1 rfl rfl (Nat.le_of_ble_eq_true rfl) ⟨(Nat.le_of_ble_eq_true rfl), (Nat.le_of_ble_eq_true rfl)⟩ ⟨(Nat.le_of_ble_eq_true rfl), (Nat.le_of_ble_eq_true rfl)⟩ dX4_prepare_10) hw Z (fun u10 H locs hp hw => ?_)
  obtain ⟨rfl, -⟩ := hp
  exact rt_v Z hr hlk hw dX4_prepare_13 ⟨Eq.symm rfl, (InvB.copied (q0 := 2 + ((σ 1 1).toNatClampNeg)) (q1 := 0) (by have h1 : (σ 1 1).toNatClampNeg < 5 := (n5 I0.1); omega) (by decide) (by omega) I0)⟩
abbrev rmX4_keep : Room := { frames := 0, cells := 0, slots := 0, locals := 0 }
def f_X4_keep (σ : St) : St := (if 4 ≤ (σ 1 2) then up2 σ 1 1 (((σ 1 1) + 1) - ((σ 1 1) + 1) / 5 * 5) else up2 (up2 σ 1 1 (((σ 1 1) + 1) - ((σ 1 1) + 1) / 5 * 5)) 1 2 ((σ 1 2) + 1))
theorem v_X4_keep : cvV yX4_keep "NestedBells$History" cX4_keep 1 none 0 := ⟨q_3_70, q_3_71, q_1_6, q_3_72, rfl, by decide +kernel, by decide +kernel, by decide +kernel⟩
set_option maxHeartbeats 4000000 in
set_option maxRecDepth 100000 in
theorem k_X4_keep {l : Launch} {D : va_G} {T : Nat → ClassId} {g ad : Nat → Nat} {σ : St} (I0 : InvB σ) : mX l yX4_keep cX4_keep 1 none rmX4_keep D T g 405 ad (cE (bE g T ad) σ) [.ref (ad 1)] (qV D 405 ad (bE g T ad) (pV (f_X4_keep σ) InvB)) := by
  refine mX.of (own := "NestedBells$History") (by decide +kernel) (Nat.le_of_ble_eq_true rfl) rfl ?_
  intro p e s m below meth c A ls H locs Z hr hlk _ hw hl
  have hx := Z.1.1
  have hb := Z.1.2.1
  have hl : lv_has ls 1 [(0, .ref (ad 1))] := hl
  refine lv_aload_n hx hb dX4_keep_0 rfl (lv_at hl 0 rfl) ?_
  refine lv_aload_n hx hb dX4_keep_1 rfl (lv_at hl 0 rfl) ?_
  refine gO (C := "NestedBells$History") (TC := TX4) (NF := 3) (ci := 2) (j := 1) (v := .int (σ 1 1)) Z hw (1) (by decide) rfl (fun _ => rfl) rfl iX4 (by decide) q_1_217 rfl rfl dX4_keep_2 ?_
  refine lv_iconst (v := 1) hx hb dX4_keep_5 (by decide +kernel) ?_
  refine lv_iadd hx hb dX4_keep_6 ?_
  refine lv_iconst (v := 5) hx hb dX4_keep_7 (by decide +kernel) ?_
  refine lv_irem hx hb dX4_keep_8 (by decide) ?_
  refine pO (C := "NestedBells$History") (TC := TX4) (NF := 3) (ci := 2) (j := 1) (ty0 := tyX4) Z hw (1) (by decide) rfl (fun _ => rfl) rfl iX4 tyX4_ok nmX4 (by decide) q_1_217 rfl rfl rfl rfl (Nat.le_of_ble_eq_true rfl) dX4_keep_9 (fun H locs hw => ?_)
  refine lv_aload_n hx hb dX4_keep_12 rfl (lv_at hl 0 rfl) ?_
  refine gO (C := "NestedBells$History") (TC := TX4) (NF := 3) (ci := 2) (j := 2) (v := .int (σ 1 2)) Z hw (1) (by decide) rfl (fun _ => rfl) rfl iX4 (by decide) q_1_218 rfl (congrArg (fun x => some (Value.int x)) (up2_j (by decide))) dX4_keep_13 ?_
  refine lv_iconst (v := 4) hx hb dX4_keep_16 (by decide +kernel) ?_
  refine lv_icmp_ge (tgt := 30) hx hb dX4_keep_17 (by decide) (fun c17 => ?_) (fun c17 => ?_)
  · exact rt_v Z hr hlk hw dX4_keep_30 ⟨Eq.symm (lf_t c17 rfl), (InvB.next (r5_i I0.1) I0)⟩
  · refine lv_aload_n hx hb dX4_keep_20 rfl (lv_at hl 0 rfl) ?_
    refine lv_dup hx hb dX4_keep_21 rfl ?_
    refine gO (C := "NestedBells$History") (TC := TX4) (NF := 3) (ci := 2) (j := 2) (v := .int (σ 1 2)) Z hw (1) (by decide) rfl (fun _ => rfl) rfl iX4 (by decide) q_1_218 rfl (congrArg (fun x => some (Value.int x)) (up2_j (by decide))) dX4_keep_22 ?_
    refine lv_iconst (v := 1) hx hb dX4_keep_25 (by decide +kernel) ?_
    refine lv_iadd hx hb dX4_keep_26 ?_
    refine pO (C := "NestedBells$History") (TC := TX4) (NF := 3) (ci := 2) (j := 2) (ty0 := tyX4) Z hw (1) (by decide) rfl (fun _ => rfl) rfl iX4 tyX4_ok nmX4 (by decide) q_1_218 rfl rfl rfl rfl (Nat.le_of_ble_eq_true rfl) dX4_keep_27 (fun H locs hw => ?_)
    exact rt_v Z hr hlk hw dX4_keep_30 ⟨Eq.symm (lf_f c17 rfl), (InvB.count (c4_i I0.2.1 c17) (InvB.next (r5_i I0.1) I0))⟩
abbrev rmX4_restore : Room := { frames := 3, cells := 0, slots := 0, locals := 83 }
def f_X4_restore (σ : St) : Int32 × St := (if (σ 1 2) = 0 then (0, σ) else (1, cpB 0 (2 + (((((σ 1 1) + 5) - 1) - (((σ 1 1) + 5) - 1) / 5 * 5).toNatClampNeg)) (up2 (up2 σ 1 1 ((((σ 1 1) + 5) - 1) - (((σ 1 1) + 5) - 1) / 5 * 5)) 1 2 ((σ 1 2) - 1))))
theorem v_X4_restore : cvV yX4_restore "NestedBells$History" cX4_restore 2 (some (.boolean)) 1 := ⟨q_4_202, q_4_203, q_1_6, q_4_204, rfl, by decide +kernel, by decide +kernel, by decide +kernel⟩
set_option maxHeartbeats 4000000 in
set_option maxRecDepth 100000 in
theorem k_X4_restore {l : Launch} {D : va_G} {T : Nat → ClassId} {g ad : Nat → Nat} {σ : St} (I0 : InvB σ) : mX l yX4_restore cX4_restore 2 (some (.boolean)) rmX4_restore D T g 405 ad (cE (bE g T ad) σ) [.ref (ad 1), .ref (ad (6 + 57 * 0))] (qI D 405 ad (bE g T ad) (pI (f_X4_restore σ) InvB)) := by
  refine mX.of (own := "NestedBells$History") (by decide +kernel) (Nat.le_of_ble_eq_true rfl) rfl ?_
  intro p e s m below meth c A ls H locs Z hr hlk _ hw hl
  have hx := Z.1.1
  have hb := Z.1.2.1
  have hl : lv_has ls 2 [(0, .ref (ad 1)), (1, .ref (ad (6 + 57 * 0)))] := hl
  refine lv_aload_n hx hb dX4_restore_0 rfl (lv_at hl 0 rfl) ?_
  refine gO (C := "NestedBells$History") (TC := TX4) (NF := 3) (ci := 2) (j := 2) (v := .int (σ 1 2)) Z hw (1) (by decide) rfl (fun _ => rfl) rfl iX4 (by decide) q_1_218 rfl rfl dX4_restore_1 ?_
  refine lv_if_ne (tgt := 9) hx hb dX4_restore_4 (by decide) (fun c4 => ?_) (fun c4 => ?_)
  · refine lv_aload_n hx hb dX4_restore_9 rfl (lv_at hl 0 rfl) ?_
    refine lv_aload_n hx hb dX4_restore_10 rfl (lv_at hl 0 rfl) ?_
    refine gO (C := "NestedBells$History") (TC := TX4) (NF := 3) (ci := 2) (j := 1) (v := .int (σ 1 1)) Z hw (1) (by decide) rfl (fun _ => rfl) rfl iX4 (by decide) q_1_217 rfl rfl dX4_restore_11 ?_
    refine lv_iconst (v := 5) hx hb dX4_restore_14 (by decide +kernel) ?_
    refine lv_iadd hx hb dX4_restore_15 ?_
    refine lv_iconst (v := 1) hx hb dX4_restore_16 (by decide +kernel) ?_
    refine lv_isub hx hb dX4_restore_17 ?_
    refine lv_iconst (v := 5) hx hb dX4_restore_18 (by decide +kernel) ?_
    refine lv_irem hx hb dX4_restore_19 (by decide) ?_
    refine pO (C := "NestedBells$History") (TC := TX4) (NF := 3) (ci := 2) (j := 1) (ty0 := tyX4) Z hw (1) (by decide) rfl (fun _ => rfl) rfl iX4 tyX4_ok nmX4 (by decide) q_1_217 rfl rfl rfl rfl (Nat.le_of_ble_eq_true rfl) dX4_restore_20 (fun H locs hw => ?_)
    refine lv_aload_n hx hb dX4_restore_23 rfl (lv_at hl 0 rfl) ?_
    refine lv_dup hx hb dX4_restore_24 rfl ?_
    refine gO (C := "NestedBells$History") (TC := TX4) (NF := 3) (ci := 2) (j := 2) (v := .int (σ 1 2)) Z hw (1) (by decide) rfl (fun _ => rfl) rfl iX4 (by decide) q_1_218 rfl (congrArg (fun x => some (Value.int x)) (up2_j (by decide))) dX4_restore_25 ?_
    refine lv_iconst (v := 1) hx hb dX4_restore_28 (by decide +kernel) ?_
    refine lv_isub hx hb dX4_restore_29 ?_
    refine pO (C := "NestedBells$History") (TC := TX4) (NF := 3) (ci := 2) (j := 2) (ty0 := tyX4) Z hw (1) (by decide) rfl (fun _ => rfl) rfl iX4 tyX4_ok nmX4 (by decide) q_1_218 rfl rfl rfl rfl (Nat.le_of_ble_eq_true rfl) dX4_restore_30 (fun H locs hw => ?_)
    refine lv_aload_n hx hb dX4_restore_33 rfl (lv_at hl 1 rfl) ?_
    refine lv_aload_n hx hb dX4_restore_34 rfl (lv_at hl 0 rfl) ?_
    refine gO (C := "NestedBells$History") (TC := TX4) (NF := 3) (ci := 2) (j := 0) (v := .ref (ad 2)) Z hw (1) (by decide) rfl (fun _ => rfl) rfl iX4 (by decide) q_1_216 rfl rfl dX4_restore_35 ?_
    refine lv_aload_n hx hb dX4_restore_38 rfl (lv_at hl 0 rfl) ?_
    refine gO (C := "NestedBells$History") (TC := TX4) (NF := 3) (ci := 2) (j := 1) (v := .int ((((σ 1 1) + 5) - 1) - (((σ 1 1) + 5) - 1) / 5 * 5)) Z hw (1) (by decide) rfl (fun _ => rfl) rfl iX4 (by decide) q_1_217 rfl (congrArg (fun x => some (Value.int x)) ((up2_j (by decide)).trans up2_s)) dX4_restore_39 ?_
    refine qE (n := 5) (t0 := 3) (v := .ref (ad (6 + 57 * (2 + (((((σ 1 1) + 5) - 1) - (((σ 1 1) + 5) - 1) / 5 * 5).toNatClampNeg))))) Z hw 2 (by decide) rfl rfl rfl (vp_in_iff.mpr (r5_d I0.1)) (tr_ok rfl (n5 (r5_d I0.1))) dX4_restore_42 ?_
    refine bs_v (prtP (g := g) (T := T) (ad := ad) (q0 := 0) (q1 := 2 + (((((σ 1 1) + 5) - 1) - (((σ 1 1) + 5) - 1) / 5 * 5).toNatClampNeg)) (by decide) (by have h1 : ((((σ 1 1) + 5) - 1) - (((σ 1 1) + 5) - 1) / 5 * 5).toNatClampNeg < 5 := (n5 (r5_d I0.1)); omega) (by omega)) (rnV (rest := []) Z ((prtP (g := g) (T := T) (ad := ad) (q0 := 0) (q1 := 2 + (((((σ 1 1) + 5) - 1) - (((σ 1 1) + 5) - 1) / 5 * 5).toNatClampNeg)) (by decide) (by have h1 : ((((σ 1 1) + 5) - 1) - (((σ 1 1) + 5) - 1) / 5 * 5).toNatClampNeg < 5 := (n5 (r5_d I0.1)); omega) (by omega)).sub hw) k_X5_copyFrom v_X5_copyFrom q_2_136 0 (by decide) rfl rfl rfl rfl hl.1 rfl rfl (Nat.le_of_ble_eq_true rfl) ⟨(Nat.le_of_ble_eq_true rfl), (Nat.le_of_ble_eq_true rfl)⟩ ⟨(Nat.le_of_ble_eq_true rfl), (Nat.le_of_ble_eq_true rfl)⟩ dX4_restore_43) hw Z (fun u43 H locs hp hw => ?_)
    obtain ⟨rfl, -⟩ := hp
    refine lv_iconst (v := 1) hx hb dX4_restore_46 (by decide +kernel) ?_
    exact rt_z Z hr hlk hw rfl dX4_restore_47 (pI.mk (lf_f c4 rfl) (InvB.copied (q0 := 0) (q1 := 2 + (((((σ 1 1) + 5) - 1) - (((σ 1 1) + 5) - 1) / 5 * 5).toNatClampNeg)) (by decide) (by have h1 : ((((σ 1 1) + 5) - 1) - (((σ 1 1) + 5) - 1) / 5 * 5).toNatClampNeg < 5 := (n5 (r5_d I0.1)); omega) (by omega) (InvB.count (c4_d I0.2.1 c4) (InvB.next (r5_d I0.1) I0))))
  · refine lv_iconst (v := 0) hx hb dX4_restore_7 (by decide +kernel) ?_
    exact rt_z Z hr hlk hw rfl dX4_restore_8 (pI.mk (lf_t c4 rfl) I0)
