abbrev rmX8_isWithin : Room := { frames := 0, cells := 0, slots := 0, locals := 0 }
def f_X8_isWithin (p1 : Int32) (p2 : Int32) (p3 : Int32) : Int32 := (if p1 < p2 then 0 else (if p3 < p1 then 0 else 1))
theorem v_X8_isWithin : cvS yX8_isWithin cX8_isWithin 3 (some (.boolean)) 3 := ⟨q_2_175, q_1_1, q_2_176, by decide +kernel, by decide +kernel, by decide +kernel⟩
set_option maxHeartbeats 4000000 in
set_option maxRecDepth 100000 in
theorem k_X8_isWithin {l : Launch} {D : va_G} {T : Nat → ClassId} {g ad : Nat → Nat} {N : Nat} {E : Nat → (Nat → Int32) → va_E} {σ : St} {p1 : Int32} {p2 : Int32} {p3 : Int32} : mX l yX8_isWithin cX8_isWithin 3 (some (.boolean)) rmX8_isWithin D T g N ad (cE E σ) [.int p1, .int p2, .int p3] (qI D N ad E (pR (f_X8_isWithin p1 p2 p3) σ)) := by
  refine mX.of (own := "NestedBells") (by decide +kernel) (Nat.le_of_ble_eq_true rfl) rfl ?_
  intro p e s m below meth c A ls H locs Z hr hlk _ hw hl
  have hx := Z.1.1
  have hb := Z.1.2.1
  have hl : lv_has ls 3 [(0, .int p1), (1, .int p2), (2, .int p3)] := hl
  refine lv_iload_n hx hb dX8_isWithin_0 rfl (lv_at hl 0 rfl) ?_
  refine lv_iload_n hx hb dX8_isWithin_1 rfl (lv_at hl 1 rfl) ?_
  refine lv_icmp_lt (tgt := 14) hx hb dX8_isWithin_2 (by decide) (fun c2 => ?_) (fun c2 => ?_)
  · refine lv_iconst (v := 0) hx hb dX8_isWithin_14 (by decide +kernel) ?_
    exact rt_z Z hr hlk hw rfl dX8_isWithin_15 ⟨Eq.symm (lf_t c2 rfl), rfl⟩
  · refine lv_iload_n hx hb dX8_isWithin_5 rfl (lv_at hl 0 rfl) ?_
    refine lv_iload_n hx hb dX8_isWithin_6 rfl (lv_at hl 2 rfl) ?_
    refine lv_icmp_gt (tgt := 14) hx hb dX8_isWithin_7 (by decide) (fun c7 => ?_) (fun c7 => ?_)
    · refine lv_iconst (v := 0) hx hb dX8_isWithin_14 (by decide +kernel) ?_
      exact rt_z Z hr hlk hw rfl dX8_isWithin_15 ⟨Eq.symm (lf_f c2 (lf_t c7 rfl)), rfl⟩
    · refine lv_iconst (v := 1) hx hb dX8_isWithin_10 (by decide +kernel) ?_
      refine lv_goto (tgt := 15) hx hb dX8_isWithin_11 (by decide) ?_
      exact rt_z Z hr hlk hw rfl dX8_isWithin_15 ⟨Eq.symm (lf_f c2 (lf_f c7 rfl)), rfl⟩
theorem vp_bd {x y : Int32} {n : Nat} (c1 : ¬ x < 0) (c2 : ¬ y ≤ x) (h : y.toInt ≤ n) : vp_in x n := by
  rw [i32_le] at c2
  rw [i32_lt] at c1
  exact vp_of (Int.not_lt.mp c1) (by omega)
theorem isw {v lo hi r : Int32} (er : f_X8_isWithin v lo hi = r) (h : ¬ r = 0) : lo.toInt ≤ v.toInt ∧ v.toInt ≤ hi.toInt := by
  unfold f_X8_isWithin at er
  by_cases c1 : v < lo
  · rw [if_pos c1] at er; exact absurd er.symm h
  · rw [if_neg c1] at er
    by_cases c2 : hi < v
    · rw [if_pos c2] at er; exact absurd er.symm h
    · rw [i32_lt] at c1 c2; omega
theorem isw_vp {v hi r : Int32} {n : Nat} (er : f_X8_isWithin v 0 hi = r) (h : ¬ r = 0) (hn : hi.toInt < n) : vp_in v n := by
  obtain ⟨h1, h2⟩ := isw er h
  exact vp_of h1 (by omega)

abbrev rmX6_holds : Room := { frames := 0, cells := 0, slots := 0, locals := 0 }
def f_X6_holds (σ : St) (i : Nat) (j : Nat) (p1 : Int32) : Int32 := (if p1 < (σ (33 + 2 * i + j) 0) then 0 else (if ((σ (33 + 2 * i + j) 0) + (σ (33 + 2 * i + j) 1)) ≤ p1 then 0 else 1))
theorem v_X6_holds : cvV yX6_holds "NestedBells$Section" cX6_holds 2 (some (.boolean)) 1 := ⟨q_2_238, q_2_239, q_1_5, q_3_0, rfl, by decide +kernel, by decide +kernel, by decide +kernel⟩
set_option maxHeartbeats 4000000 in
set_option maxRecDepth 100000 in
theorem k_X6_holds {l : Launch} {D : va_G} {T : Nat → ClassId} {g ad : Nat → Nat} {σ : St} {i : Nat} {j : Nat} {p1 : Int32} (I0 : InvC σ) (hi : i < 12) (hj : j < 2) : mX l yX6_holds cX6_holds 2 (some (.boolean)) rmX6_holds D T g 57 ad (cE (mE T ad) σ) [.ref (ad (33 + 2 * i + j)), .int p1] (qI D 57 ad (mE T ad) (pR (f_X6_holds σ i j p1) σ)) := by
  refine mX.of (own := "NestedBells$Section") (by decide +kernel) (Nat.le_of_ble_eq_true rfl) rfl ?_
  intro p e s m below meth c A ls H locs Z hr hlk _ hw hl
  have hx := Z.1.1
  have hb := Z.1.2.1
  have hl : lv_has ls 2 [(0, .ref (ad (33 + 2 * i + j))), (1, .int p1)] := hl
  refine lv_iload_n hx hb dX6_holds_0 rfl (lv_at hl 1 rfl) ?_
  refine lv_aload_n hx hb dX6_holds_1 rfl (lv_at hl 0 rfl) ?_
  refine gS (j := 0) (v := .int (σ (33 + 2 * i + j) 0)) Z hw hi hj (by decide) q_1_76 rfl rfl dX6_holds_2 ?_
  refine lv_icmp_lt (tgt := 25) hx hb dX6_holds_5 (by decide) (fun c5 => ?_) (fun c5 => ?_)
  · refine lv_iconst (v := 0) hx hb dX6_holds_25 (by decide +kernel) ?_
    exact rt_z Z hr hlk hw rfl dX6_holds_26 ⟨Eq.symm (lf_t c5 rfl), rfl⟩
  · refine lv_iload_n hx hb dX6_holds_8 rfl (lv_at hl 1 rfl) ?_
    refine lv_aload_n hx hb dX6_holds_9 rfl (lv_at hl 0 rfl) ?_
    refine gS (j := 0) (v := .int (σ (33 + 2 * i + j) 0)) Z hw hi hj (by decide) q_1_76 rfl rfl dX6_holds_10 ?_
    refine lv_aload_n hx hb dX6_holds_13 rfl (lv_at hl 0 rfl) ?_
    refine gS (j := 1) (v := .int (σ (33 + 2 * i + j) 1)) Z hw hi hj (by decide) q_1_78 rfl rfl dX6_holds_14 ?_
    refine lv_iadd hx hb dX6_holds_17 ?_
    refine lv_icmp_ge (tgt := 25) hx hb dX6_holds_18 (by decide) (fun c18 => ?_) (fun c18 => ?_)
    · refine lv_iconst (v := 0) hx hb dX6_holds_25 (by decide +kernel) ?_
      exact rt_z Z hr hlk hw rfl dX6_holds_26 ⟨Eq.symm (lf_f c5 (lf_t c18 rfl)), rfl⟩
    · refine lv_iconst (v := 1) hx hb dX6_holds_21 (by decide +kernel) ?_
      refine lv_goto (tgt := 26) hx hb dX6_holds_22 (by decide) ?_
      exact rt_z Z hr hlk hw rfl dX6_holds_26 ⟨Eq.symm (lf_f c5 (lf_f c18 rfl)), rfl⟩
abbrev rmX6_ticksWithin : Room := { frames := 1, cells := 0, slots := 0, locals := 21 }
def f_X6_ticksWithin (σ : St) (i : Nat) (j : Nat) (p1 : Int32) : Int32 := (if 0 < ((if p1 < ((σ (33 + 2 * i + j) 0) + (σ (33 + 2 * i + j) 1)) then p1 else ((σ (33 + 2 * i + j) 0) + (σ (33 + 2 * i + j) 1))) - (σ (33 + 2 * i + j) 0)) then ((if p1 < ((σ (33 + 2 * i + j) 0) + (σ (33 + 2 * i + j) 1)) then p1 else ((σ (33 + 2 * i + j) 0) + (σ (33 + 2 * i + j) 1))) - (σ (33 + 2 * i + j) 0)) else 0)
theorem v_X6_ticksWithin : cvV yX6_ticksWithin "NestedBells$Section" cX6_ticksWithin 2 (some (.int)) 1 := ⟨q_4_175, q_4_176, q_1_5, q_4_177, rfl, by decide +kernel, by decide +kernel, by decide +kernel⟩
set_option maxHeartbeats 4000000 in
set_option maxRecDepth 100000 in
theorem k_X6_ticksWithin {l : Launch} {D : va_G} {T : Nat → ClassId} {g ad : Nat → Nat} {σ : St} {i : Nat} {j : Nat} {p1 : Int32} (I0 : InvC σ) (hi : i < 12) (hj : j < 2) : mX l yX6_ticksWithin cX6_ticksWithin 2 (some (.int)) rmX6_ticksWithin D T g 57 ad (cE (mE T ad) σ) [.ref (ad (33 + 2 * i + j)), .int p1] (qI D 57 ad (mE T ad) (pR (f_X6_ticksWithin σ i j p1) σ)) := by
  refine mX.of (own := "NestedBells$Section") (by decide +kernel) (Nat.le_of_ble_eq_true rfl) rfl ?_
  intro p e s m below meth c A ls H locs Z hr hlk _ hw hl
  have hx := Z.1.1
  have hb := Z.1.2.1
  have hl : lv_has ls 2 [(0, .ref (ad (33 + 2 * i + j))), (1, .int p1)] := hl
  refine lv_iconst (v := 0) hx hb dX6_ticksWithin_0 (by decide +kernel) ?_
  refine lv_aload_n hx hb dX6_ticksWithin_1 rfl (lv_at hl 0 rfl) ?_
  refine gS (j := 0) (v := .int (σ (33 + 2 * i + j) 0)) Z hw hi hj (by decide) q_1_76 rfl rfl dX6_ticksWithin_2 ?_
  refine lv_aload_n hx hb dX6_ticksWithin_5 rfl (lv_at hl 0 rfl) ?_
  refine gS (j := 1) (v := .int (σ (33 + 2 * i + j) 1)) Z hw hi hj (by decide) q_1_78 rfl rfl dX6_ticksWithin_6 ?_
  refine lv_iadd hx hb dX6_ticksWithin_9 ?_
  refine lv_iload_n hx hb dX6_ticksWithin_10 rfl (lv_at hl 1 rfl) ?_
  refine va_mmin hx hb (Z.1.2.2.1.trans hl.1.symm) Z.1.2.2.2.1 (Z.1.2.2.2.2 _ q_4_178) (Z.1.2.2.2.2 _ q_4_179) (Z.1.2.2.2.2 _ q_1_18) (Z.1.2.2.2.2 _ q_4_180) (Nat.le_of_ble_eq_true rfl) (Nat.le_of_ble_eq_true rfl) (Nat.le_of_ble_eq_true rfl) (Nat.le_of_ble_eq_true rfl) dX6_ticksWithin_11 ?_
  refine lv_aload_n hx hb dX6_ticksWithin_14 rfl (lv_at hl 0 rfl) ?_
  refine gS (j := 0) (v := .int (σ (33 + 2 * i + j) 0)) Z hw hi hj (by decide) q_1_76 rfl rfl dX6_ticksWithin_15 ?_
  refine lv_isub hx hb dX6_ticksWithin_18 ?_
  refine va_mmax hx hb (Z.1.2.2.1.trans hl.1.symm) Z.1.2.2.2.1 (Z.1.2.2.2.2 _ q_4_181) (Z.1.2.2.2.2 _ q_3_2) (Z.1.2.2.2.2 _ q_1_18) (Z.1.2.2.2.2 _ q_3_3) (Nat.le_of_ble_eq_true rfl) (Nat.le_of_ble_eq_true rfl) (Nat.le_of_ble_eq_true rfl) (Nat.le_of_ble_eq_true rfl) dX6_ticksWithin_19 ?_
  exact rt_i Z hr hlk hw dX6_ticksWithin_22 ⟨Eq.symm rfl, rfl⟩
abbrev rmX7_isStacked : Room := { frames := 0, cells := 0, slots := 0, locals := 0 }
def f_X7_isStacked (σ : St) (i : Nat) : Int32 := (if (σ (9 + i) 7) = (-1) then 0 else 1)
theorem v_X7_isStacked : cvV yX7_isStacked "NestedBells$Source" cX7_isStacked 1 (some (.boolean)) 0 := ⟨q_2_186, q_2_187, q_1_4, q_2_188, rfl, by decide +kernel, by decide +kernel, by decide +kernel⟩
set_option maxHeartbeats 4000000 in
set_option maxRecDepth 100000 in
theorem k_X7_isStacked {l : Launch} {D : va_G} {T : Nat → ClassId} {g ad : Nat → Nat} {σ : St} {i : Nat} (I0 : InvC σ) (hi : i < 12) : mX l yX7_isStacked cX7_isStacked 1 (some (.boolean)) rmX7_isStacked D T g 57 ad (cE (mE T ad) σ) [.ref (ad (9 + i))] (qI D 57 ad (mE T ad) (pR (f_X7_isStacked σ i) σ)) := by
  refine mX.of (own := "NestedBells$Source") (by decide +kernel) (Nat.le_of_ble_eq_true rfl) rfl ?_
  intro p e s m below meth c A ls H locs Z hr hlk _ hw hl
  have hx := Z.1.1
  have hb := Z.1.2.1
  have hl : lv_has ls 1 [(0, .ref (ad (9 + i)))] := hl
  refine lv_aload_n hx hb dX7_isStacked_0 rfl (lv_at hl 0 rfl) ?_
  refine gU (j := 7) (v := .int (σ (9 + i) 7)) Z hw hi (by decide) q_1_103 rfl rfl dX7_isStacked_1 ?_
  refine lv_iconst (v := (-1)) hx hb dX7_isStacked_4 (by decide +kernel) ?_
  refine lv_icmp_eq (tgt := 12) hx hb dX7_isStacked_5 (by decide) (fun c5 => ?_) (fun c5 => ?_)
  · refine lv_iconst (v := 0) hx hb dX7_isStacked_12 (by decide +kernel) ?_
    exact rt_z Z hr hlk hw rfl dX7_isStacked_13 ⟨Eq.symm (lf_t c5 rfl), rfl⟩
  · refine lv_iconst (v := 1) hx hb dX7_isStacked_8 (by decide +kernel) ?_
    refine lv_goto (tgt := 13) hx hb dX7_isStacked_9 (by decide) ?_
    exact rt_z Z hr hlk hw rfl dX7_isStacked_13 ⟨Eq.symm (lf_f c5 rfl), rfl⟩
abbrev rmX7_isPending : Room := { frames := 1, cells := 0, slots := 0, locals := 20 }
def f_X7_isPending (σ : St) (i : Nat) : Int32 := (if (σ (9 + i) 1) = 0 then zb (σ (9 + i) 4) else (if (zb (σ (9 + i) 5)) = 0 then 0 else (let r22 := f_X7_isStacked σ i; (if r22 = 0 then 1 else 0))))
theorem v_X7_isPending : cvV yX7_isPending "NestedBells$Source" cX7_isPending 1 (some (.boolean)) 0 := ⟨q_3_13, q_3_14, q_1_4, q_3_15, rfl, by decide +kernel, by decide +kernel, by decide +kernel⟩
set_option maxHeartbeats 4000000 in
set_option maxRecDepth 100000 in
theorem k_X7_isPending {l : Launch} {D : va_G} {T : Nat → ClassId} {g ad : Nat → Nat} {σ : St} {i : Nat} (I0 : InvC σ) (hi : i < 12) : mX l yX7_isPending cX7_isPending 1 (some (.boolean)) rmX7_isPending D T g 57 ad (cE (mE T ad) σ) [.ref (ad (9 + i))] (qI D 57 ad (mE T ad) (pR (f_X7_isPending σ i) σ)) := by
  refine mX.of (own := "NestedBells$Source") (by decide +kernel) (Nat.le_of_ble_eq_true rfl) rfl ?_
  intro p e s m below meth c A ls H locs Z hr hlk _ hw hl
  have hx := Z.1.1
  have hb := Z.1.2.1
  have hl : lv_has ls 1 [(0, .ref (ad (9 + i)))] := hl
  refine lv_aload_n hx hb dX7_isPending_0 rfl (lv_at hl 0 rfl) ?_
  refine gU (j := 1) (v := .int (σ (9 + i) 1)) Z hw hi (by decide) q_1_91 rfl rfl dX7_isPending_1 ?_
  refine lv_if_ne (tgt := 14) hx hb dX7_isPending_4 (by decide) (fun c4 => ?_) (fun c4 => ?_)
  · refine lv_aload_n hx hb dX7_isPending_14 rfl (lv_at hl 0 rfl) ?_
    refine gU (j := 5) (v := .int (zb (σ (9 + i) 5))) Z hw hi (by decide) q_1_99 rfl rfl dX7_isPending_15 ?_
    refine lv_if_eq (tgt := 32) hx hb dX7_isPending_18 (by decide) (fun c18 => ?_) (fun c18 => ?_)
    · refine lv_iconst (v := 0) hx hb dX7_isPending_32 (by decide +kernel) ?_
      exact rt_z Z hr hlk hw rfl dX7_isPending_33 ⟨Eq.symm (lf_f c4 (lf_t c18 rfl)), rfl⟩
    · refine lv_aload_n hx hb dX7_isPending_21 rfl (lv_at hl 0 rfl) ?_
      refine bk_ip (rnV (rest := []) Z hw (k_X7_isStacked (i := i) I0 hi) v_X7_isStacked q_3_16 (9 + i) (by have h1 : i < 12 := hi; omega) rfl (mE_src hi) rfl rfl hl.1 rfl rfl (Nat.le_of_ble_eq_true rfl) ⟨(Nat.le_of_ble_eq_true rfl), (Nat.le_of_ble_eq_true rfl)⟩ ⟨(Nat.le_of_ble_eq_true rfl), (Nat.le_of_ble_eq_true rfl)⟩ dX7_isPending_22) hw Z (fun r22 er22 H locs hw => ?_)
      refine lv_if_ne (tgt := 32) hx hb dX7_isPending_25 (by decide) (fun c25 => ?_) (fun c25 => ?_)
      · refine lv_iconst (v := 0) hx hb dX7_isPending_32 (by decide +kernel) ?_
        exact rt_z Z hr hlk hw rfl dX7_isPending_33 ⟨Eq.symm (by subst er22; exact (lf_f c4 (lf_f c18 (lf_f c25 rfl)))), rfl⟩
      · refine lv_iconst (v := 1) hx hb dX7_isPending_28 (by decide +kernel) ?_
        refine lv_goto (tgt := 33) hx hb dX7_isPending_29 (by decide) ?_
        exact rt_z Z hr hlk hw rfl dX7_isPending_33 ⟨Eq.symm (by subst er22; exact (lf_f c4 (lf_f c18 (lf_t c25 rfl)))), rfl⟩
  · refine lv_aload_n hx hb dX7_isPending_7 rfl (lv_at hl 0 rfl) ?_
    refine gU (j := 4) (v := .int (zb (σ (9 + i) 4))) Z hw hi (by decide) q_1_97 rfl rfl dX7_isPending_8 ?_
    refine lv_goto (tgt := 33) hx hb dX7_isPending_11 (by decide) ?_
    exact rt_z Z hr hlk hw zb_nar dX7_isPending_33 ⟨Eq.symm (lf_t c4 rfl), rfl⟩
abbrev rmX7_comeOn : Room := { frames := 0, cells := 0, slots := 0, locals := 0 }
def f_X7_comeOn (σ : St) (i : Nat) (p1 : Int32) (p2 : Int32) : Int32 × St := (if (p2 - (σ (9 + i) 6)) ≤ (σ (9 + i) 13) then (p2 - (σ (9 + i) 6), up2 (up2 (up2 (up2 (up2 σ (9 + i) 7 p1) (9 + i) 8 0) (9 + i) 4 0) (9 + i) 9 ((σ (9 + i) 9) + 1)) (9 + i) 12 (p2 - (σ (9 + i) 6))) else (p2 - (σ (9 + i) 6), up2 (up2 (up2 (up2 (up2 (up2 σ (9 + i) 7 p1) (9 + i) 8 0) (9 + i) 4 0) (9 + i) 9 ((σ (9 + i) 9) + 1)) (9 + i) 12 (p2 - (σ (9 + i) 6))) (9 + i) 13 (p2 - (σ (9 + i) 6))))
theorem v_X7_comeOn : cvV yX7_comeOn "NestedBells$Source" cX7_comeOn 3 (some (.int)) 2 := ⟨q_3_54, q_3_55, q_1_4, q_3_56, rfl, by decide +kernel, by decide +kernel, by decide +kernel⟩
set_option maxHeartbeats 4000000 in
set_option maxRecDepth 100000 in
theorem k_X7_comeOn {l : Launch} {D : va_G} {T : Nat → ClassId} {g ad : Nat → Nat} {σ : St} {i : Nat} {p1 : Int32} {p2 : Int32} (I0 : InvC σ) (hi : i < 12) : mX l yX7_comeOn cX7_comeOn 3 (some (.int)) rmX7_comeOn D T g 57 ad (cE (mE T ad) σ) [.ref (ad (9 + i)), .int p1, .int p2] (qI D 57 ad (mE T ad) (pI (f_X7_comeOn σ i p1 p2) InvC)) := by
  refine mX.of (own := "NestedBells$Source") (by decide +kernel) (Nat.le_of_ble_eq_true rfl) rfl ?_
  intro p e s m below meth c A ls H locs Z hr hlk _ hw hl
  have hx := Z.1.1
  have hb := Z.1.2.1
  have hl : lv_has ls 3 [(0, .ref (ad (9 + i))), (1, .int p1), (2, .int p2)] := hl
  refine lv_aload_n hx hb dX7_comeOn_0 rfl (lv_at hl 0 rfl) ?_
  refine lv_iload_n hx hb dX7_comeOn_1 rfl (lv_at hl 1 rfl) ?_
  refine pU (j := 7) Z hw hi (by decide) q_1_103 rfl rfl rfl rfl dX7_comeOn_2 (fun H locs hw => ?_)
  refine lv_aload_n hx hb dX7_comeOn_5 rfl (lv_at hl 0 rfl) ?_
  refine lv_iconst (v := 0) hx hb dX7_comeOn_6 (by decide +kernel) ?_
  refine pU (j := 8) Z hw hi (by decide) q_1_105 rfl rfl rfl rfl dX7_comeOn_7 (fun H locs hw => ?_)
  refine lv_aload_n hx hb dX7_comeOn_10 rfl (lv_at hl 0 rfl) ?_
  refine lv_iconst (v := 0) hx hb dX7_comeOn_11 (by decide +kernel) ?_
  refine pUb (j := 4) Z hw hi (by decide) q_1_97 (by decide) dX7_comeOn_12 (fun H locs hw => ?_)
  refine lv_aload_n hx hb dX7_comeOn_15 rfl (lv_at hl 0 rfl) ?_
  refine lv_dup hx hb dX7_comeOn_16 rfl ?_
  refine gU (j := 9) (v := .int (σ (9 + i) 9)) Z hw hi (by decide) q_1_107 rfl (congrArg (fun x => some (Value.int x)) ((up2_j (by decide)).trans ((up2_j (by decide)).trans (up2_j (by decide))))) dX7_comeOn_17 ?_
  refine lv_iconst (v := 1) hx hb dX7_comeOn_20 (by decide +kernel) ?_
  refine lv_iadd hx hb dX7_comeOn_21 ?_
  refine pU (j := 9) Z hw hi (by decide) q_1_107 rfl rfl rfl rfl dX7_comeOn_22 (fun H locs hw => ?_)
  refine lv_aload_n hx hb dX7_comeOn_25 rfl (lv_at hl 0 rfl) ?_
  refine lv_iload_n hx hb dX7_comeOn_26 rfl (lv_at hl 2 rfl) ?_
  refine lv_aload_n hx hb dX7_comeOn_27 rfl (lv_at hl 0 rfl) ?_
  refine gU (j := 6) (v := .int (σ (9 + i) 6)) Z hw hi (by decide) q_1_101 rfl (congrArg (fun x => some (Value.int x)) ((up2_j (by decide)).trans ((up2_j (by decide)).trans ((up2_j (by decide)).trans (up2_j (by decide)))))) dX7_comeOn_28 ?_
  refine lv_isub hx hb dX7_comeOn_31 ?_
  refine pU (j := 12) Z hw hi (by decide) q_1_113 rfl rfl rfl rfl dX7_comeOn_32 (fun H locs hw => ?_)
  refine lv_aload_n hx hb dX7_comeOn_35 rfl (lv_at hl 0 rfl) ?_
  refine gU (j := 12) (v := .int (p2 - (σ (9 + i) 6))) Z hw hi (by decide) q_1_113 rfl (congrArg (fun x => some (Value.int x)) up2_s) dX7_comeOn_36 ?_
  refine lv_aload_n hx hb dX7_comeOn_39 rfl (lv_at hl 0 rfl) ?_
  refine gU (j := 13) (v := .int (σ (9 + i) 13)) Z hw hi (by decide) q_1_115 rfl (congrArg (fun x => some (Value.int x)) ((up2_j (by decide)).trans ((up2_j (by decide)).trans ((up2_j (by decide)).trans ((up2_j (by decide)).trans (up2_j (by decide))))))) dX7_comeOn_40 ?_
  refine lv_icmp_le (tgt := 54) hx hb dX7_comeOn_43 (by decide) (fun c43 => ?_) (fun c43 => ?_)
  · refine lv_aload_n hx hb dX7_comeOn_54 rfl (lv_at hl 0 rfl) ?_
    refine gU (j := 12) (v := .int (p2 - (σ (9 + i) 6))) Z hw hi (by decide) q_1_113 rfl (congrArg (fun x => some (Value.int x)) up2_s) dX7_comeOn_55 ?_
    exact rt_i Z hr hlk hw dX7_comeOn_58 (pI.mk (lf_t c43 rfl) (InvC.up (InvC.up (InvC.up (InvC.up (InvC.up I0 (by unfold InvCcr; omega)) (by unfold InvCcr; omega)) (by unfold InvCcr; omega)) (by unfold InvCcr; omega)) (by unfold InvCcr; omega)))
  · refine lv_aload_n hx hb dX7_comeOn_46 rfl (lv_at hl 0 rfl) ?_
    refine lv_aload_n hx hb dX7_comeOn_47 rfl (lv_at hl 0 rfl) ?_
    refine gU (j := 12) (v := .int (p2 - (σ (9 + i) 6))) Z hw hi (by decide) q_1_113 rfl (congrArg (fun x => some (Value.int x)) up2_s) dX7_comeOn_48 ?_
    refine pU (j := 13) Z hw hi (by decide) q_1_115 rfl rfl rfl rfl dX7_comeOn_51 (fun H locs hw => ?_)
    refine lv_aload_n hx hb dX7_comeOn_54 rfl (lv_at hl 0 rfl) ?_
    refine gU (j := 12) (v := .int (p2 - (σ (9 + i) 6))) Z hw hi (by decide) q_1_113 rfl (congrArg (fun x => some (Value.int x)) ((up2_j (by decide)).trans up2_s)) dX7_comeOn_55 ?_
    exact rt_i Z hr hlk hw dX7_comeOn_58 (pI.mk (lf_f c43 rfl) (InvC.up (InvC.up (InvC.up (InvC.up (InvC.up (InvC.up I0 (by unfold InvCcr; omega)) (by unfold InvCcr; omega)) (by unfold InvCcr; omega)) (by unfold InvCcr; omega)) (by unfold InvCcr; omega)) (by unfold InvCcr; omega)))
abbrev rmX7_goOff : Room := { frames := 0, cells := 0, slots := 0, locals := 0 }
def f_X7_goOff (σ : St) (i : Nat) (p1 : Int32) : St := (if (σ (9 + i) 1) = 1 then (if (zb (σ (9 + i) 5)) = 0 then up2 (up2 (up2 σ (9 + i) 7 (-1)) (9 + i) 8 0) (9 + i) 10 ((σ (9 + i) 10) + 1) else up2 (up2 (up2 (up2 σ (9 + i) 7 (-1)) (9 + i) 8 0) (9 + i) 10 ((σ (9 + i) 10) + 1)) (9 + i) 6 p1) else up2 (up2 (up2 σ (9 + i) 7 (-1)) (9 + i) 8 0) (9 + i) 10 ((σ (9 + i) 10) + 1))
theorem v_X7_goOff : cvV yX7_goOff "NestedBells$Source" cX7_goOff 2 none 1 := ⟨q_3_66, q_3_67, q_1_4, q_3_68, rfl, by decide +kernel, by decide +kernel, by decide +kernel⟩
set_option maxHeartbeats 4000000 in
set_option maxRecDepth 100000 in
theorem k_X7_goOff {l : Launch} {D : va_G} {T : Nat → ClassId} {g ad : Nat → Nat} {σ : St} {i : Nat} {p1 : Int32} (I0 : InvC σ) (hi : i < 12) : mX l yX7_goOff cX7_goOff 2 none rmX7_goOff D T g 57 ad (cE (mE T ad) σ) [.ref (ad (9 + i)), .int p1] (qV D 57 ad (mE T ad) (pV (f_X7_goOff σ i p1) InvC)) := by
  refine mX.of (own := "NestedBells$Source") (by decide +kernel) (Nat.le_of_ble_eq_true rfl) rfl ?_
  intro p e s m below meth c A ls H locs Z hr hlk _ hw hl
  have hx := Z.1.1
  have hb := Z.1.2.1
  have hl : lv_has ls 2 [(0, .ref (ad (9 + i))), (1, .int p1)] := hl
  refine lv_aload_n hx hb dX7_goOff_0 rfl (lv_at hl 0 rfl) ?_
  refine lv_iconst (v := (-1)) hx hb dX7_goOff_1 (by decide +kernel) ?_
  refine pU (j := 7) Z hw hi (by decide) q_1_103 rfl rfl rfl rfl dX7_goOff_2 (fun H locs hw => ?_)
  refine lv_aload_n hx hb dX7_goOff_5 rfl (lv_at hl 0 rfl) ?_
  refine lv_iconst (v := 0) hx hb dX7_goOff_6 (by decide +kernel) ?_
  refine pU (j := 8) Z hw hi (by decide) q_1_105 rfl rfl rfl rfl dX7_goOff_7 (fun H locs hw => ?_)
  refine lv_aload_n hx hb dX7_goOff_10 rfl (lv_at hl 0 rfl) ?_
  refine lv_dup hx hb dX7_goOff_11 rfl ?_
  refine gU (j := 10) (v := .int (σ (9 + i) 10)) Z hw hi (by decide) q_1_109 rfl (congrArg (fun x => some (Value.int x)) ((up2_j (by decide)).trans (up2_j (by decide)))) dX7_goOff_12 ?_
  refine lv_iconst (v := 1) hx hb dX7_goOff_15 (by decide +kernel) ?_
  refine lv_iadd hx hb dX7_goOff_16 ?_
  refine pU (j := 10) Z hw hi (by decide) q_1_109 rfl rfl rfl rfl dX7_goOff_17 (fun H locs hw => ?_)
  refine lv_aload_n hx hb dX7_goOff_20 rfl (lv_at hl 0 rfl) ?_
  refine gU (j := 1) (v := .int (σ (9 + i) 1)) Z hw hi (by decide) q_1_91 rfl (congrArg (fun x => some (Value.int x)) ((up2_j (by decide)).trans ((up2_j (by decide)).trans (up2_j (by decide))))) dX7_goOff_21 ?_
  refine lv_iconst (v := 1) hx hb dX7_goOff_24 (by decide +kernel) ?_
  refine lv_icmp_ne (tgt := 40) hx hb dX7_goOff_25 (by decide) (fun c25 => ?_) (fun c25 => ?_)
  · exact rt_v Z hr hlk hw dX7_goOff_40 ⟨Eq.symm (lf_f c25 rfl), (InvC.up (InvC.up (InvC.up I0 (by unfold InvCcr; omega)) (by unfold InvCcr; omega)) (by unfold InvCcr; omega))⟩
  · refine lv_aload_n hx hb dX7_goOff_28 rfl (lv_at hl 0 rfl) ?_
    refine gU (j := 5) (v := .int (zb (σ (9 + i) 5))) Z hw hi (by decide) q_1_99 rfl (congrArg (fun x => some (Value.int (zb x))) ((up2_j (by decide)).trans ((up2_j (by decide)).trans (up2_j (by decide))))) dX7_goOff_29 ?_
    refine lv_if_eq (tgt := 40) hx hb dX7_goOff_32 (by decide) (fun c32 => ?_) (fun c32 => ?_)
    · exact rt_v Z hr hlk hw dX7_goOff_40 ⟨Eq.symm (lf_t c25 (lf_t c32 rfl)), (InvC.up (InvC.up (InvC.up I0 (by unfold InvCcr; omega)) (by unfold InvCcr; omega)) (by unfold InvCcr; omega))⟩
    · refine lv_aload_n hx hb dX7_goOff_35 rfl (lv_at hl 0 rfl) ?_
      refine lv_iload_n hx hb dX7_goOff_36 rfl (lv_at hl 1 rfl) ?_
      refine pU (j := 6) Z hw hi (by decide) q_1_101 rfl rfl rfl rfl dX7_goOff_37 (fun H locs hw => ?_)
      exact rt_v Z hr hlk hw dX7_goOff_40 ⟨Eq.symm (lf_t c25 (lf_f c32 rfl)), (InvC.up (InvC.up (InvC.up (InvC.up I0 (by unfold InvCcr; omega)) (by unfold InvCcr; omega)) (by unfold InvCcr; omega)) (by unfold InvCcr; omega))⟩
abbrev rmX5_isEntering : Room := { frames := 0, cells := 0, slots := 0, locals := 0 }
def f_X5_isEntering (σ : St) : Int32 := (if (σ 0 7) = 1 then 1 else (if (σ 0 7) = 3 then 1 else 0))
theorem v_X5_isEntering : cvV yX5_isEntering "NestedBells$Machine" cX5_isEntering 1 (some (.boolean)) 0 := ⟨q_3_23, s_15, q_1_2, q_3_24, rfl, by decide +kernel, by decide +kernel, by decide +kernel⟩
set_option maxHeartbeats 4000000 in
set_option maxRecDepth 100000 in
theorem k_X5_isEntering {l : Launch} {D : va_G} {T : Nat → ClassId} {g ad : Nat → Nat} {σ : St} (I0 : InvC σ) : mX l yX5_isEntering cX5_isEntering 1 (some (.boolean)) rmX5_isEntering D T g 57 ad (cE (mE T ad) σ) [.ref (ad 0)] (qI D 57 ad (mE T ad) (pR (f_X5_isEntering σ) σ)) := by
  refine mX.of (own := "NestedBells$Machine") (by decide +kernel) (Nat.le_of_ble_eq_true rfl) rfl ?_
  intro p e s m below meth c A ls H locs Z hr hlk _ hw hl
  have hx := Z.1.1
  have hb := Z.1.2.1
  have hl : lv_has ls 1 [(0, .ref (ad 0))] := hl
  refine lv_aload_n hx hb dX5_isEntering_0 rfl (lv_at hl 0 rfl) ?_
  refine gM (j := 7) (v := .int (σ 0 7)) Z hw  (by decide) q_1_179 rfl rfl dX5_isEntering_1 ?_
  refine lv_iconst (v := 1) hx hb dX5_isEntering_4 (by decide +kernel) ?_
  refine lv_icmp_eq (tgt := 16) hx hb dX5_isEntering_5 (by decide) (fun c5 => ?_) (fun c5 => ?_)
  · refine lv_iconst (v := 1) hx hb dX5_isEntering_16 (by decide +kernel) ?_
    refine lv_goto (tgt := 21) hx hb dX5_isEntering_17 (by decide) ?_
    exact rt_z Z hr hlk hw rfl dX5_isEntering_21 ⟨Eq.symm (lf_t c5 rfl), rfl⟩
  · refine lv_aload_n hx hb dX5_isEntering_8 rfl (lv_at hl 0 rfl) ?_
    refine gM (j := 7) (v := .int (σ 0 7)) Z hw  (by decide) q_1_179 rfl rfl dX5_isEntering_9 ?_
    refine lv_iconst (v := 3) hx hb dX5_isEntering_12 (by decide +kernel) ?_
    refine lv_icmp_ne (tgt := 20) hx hb dX5_isEntering_13 (by decide) (fun c13 => ?_) (fun c13 => ?_)
    · refine lv_iconst (v := 0) hx hb dX5_isEntering_20 (by decide +kernel) ?_
      exact rt_z Z hr hlk hw rfl dX5_isEntering_21 ⟨Eq.symm (lf_f c5 (lf_f c13 rfl)), rfl⟩
    · refine lv_iconst (v := 1) hx hb dX5_isEntering_16 (by decide +kernel) ?_
      refine lv_goto (tgt := 21) hx hb dX5_isEntering_17 (by decide) ?_
      exact rt_z Z hr hlk hw rfl dX5_isEntering_21 ⟨Eq.symm (lf_f c5 (lf_t c13 rfl)), rfl⟩
abbrev rmX5_setChange : Room := { frames := 0, cells := 0, slots := 0, locals := 0 }
def f_X5_setChange (σ : St) (p1 : Int32) (p2 : Int32) (p3 : Int32) : St := up2 (up2 (up2 σ 0 7 p1) 0 8 p2) 0 9 p3
theorem v_X5_setChange : cvV yX5_setChange "NestedBells$Machine" cX5_setChange 4 none 3 := ⟨q_3_43, s_20, q_1_2, q_3_44, rfl, by decide +kernel, by decide +kernel, by decide +kernel⟩
set_option maxHeartbeats 4000000 in
set_option maxRecDepth 100000 in
theorem k_X5_setChange {l : Launch} {D : va_G} {T : Nat → ClassId} {g ad : Nat → Nat} {σ : St} {p1 : Int32} {p2 : Int32} {p3 : Int32} (I0 : InvC σ) : mX l yX5_setChange cX5_setChange 4 none rmX5_setChange D T g 57 ad (cE (mE T ad) σ) [.ref (ad 0), .int p1, .int p2, .int p3] (qV D 57 ad (mE T ad) (pV (f_X5_setChange σ p1 p2 p3) InvC)) := by
  refine mX.of (own := "NestedBells$Machine") (by decide +kernel) (Nat.le_of_ble_eq_true rfl) rfl ?_
  intro p e s m below meth c A ls H locs Z hr hlk _ hw hl
  have hx := Z.1.1
  have hb := Z.1.2.1
  have hl : lv_has ls 4 [(0, .ref (ad 0)), (1, .int p1), (2, .int p2), (3, .int p3)] := hl
  refine lv_aload_n hx hb dX5_setChange_0 rfl (lv_at hl 0 rfl) ?_
  refine lv_iload_n hx hb dX5_setChange_1 rfl (lv_at hl 1 rfl) ?_
  refine pM (j := 7) Z hw  (by decide) q_1_179 rfl rfl rfl rfl dX5_setChange_2 (fun H locs hw => ?_)
  refine lv_aload_n hx hb dX5_setChange_5 rfl (lv_at hl 0 rfl) ?_
  refine lv_iload_n hx hb dX5_setChange_6 rfl (lv_at hl 2 rfl) ?_
  refine pM (j := 8) Z hw  (by decide) q_1_180 rfl rfl rfl rfl dX5_setChange_7 (fun H locs hw => ?_)
  refine lv_aload_n hx hb dX5_setChange_10 rfl (lv_at hl 0 rfl) ?_
  refine lv_iload_n hx hb dX5_setChange_11 rfl (lv_at hl 3 rfl) ?_
  refine pM (j := 9) Z hw  (by decide) q_1_181 rfl rfl rfl rfl dX5_setChange_12 (fun H locs hw => ?_)
  exact rt_v Z hr hlk hw dX5_setChange_15 ⟨Eq.symm rfl, (InvC.up (InvC.up (InvC.up I0 (by decide)) (by decide)) (by decide))⟩
abbrev rmX5_beginExit : Room := { frames := 0, cells := 0, slots := 0, locals := 0 }
def f_X5_beginExit (σ : St) : St := (let v15 : Int32 := (if (σ 1 2) ≤ 0 then 0 else 2); up2 (up2 (up2 σ 0 7 v15) 0 8 (-1)) 0 9 (σ 1 2))
theorem v_X5_beginExit : cvV yX5_beginExit "NestedBells$Machine" cX5_beginExit 1 none 0 := ⟨q_3_31, s_17, q_1_2, q_3_32, rfl, by decide +kernel, by decide +kernel, by decide +kernel⟩
set_option maxHeartbeats 4000000 in
set_option maxRecDepth 100000 in
theorem k_X5_beginExit {l : Launch} {D : va_G} {T : Nat → ClassId} {g ad : Nat → Nat} {σ : St} (I0 : InvC σ) : mX l yX5_beginExit cX5_beginExit 1 none rmX5_beginExit D T g 57 ad (cE (mE T ad) σ) [.ref (ad 0)] (qV D 57 ad (mE T ad) (pV (f_X5_beginExit σ) InvC)) := by
  refine mX.of (own := "NestedBells$Machine") (by decide +kernel) (Nat.le_of_ble_eq_true rfl) rfl ?_
  intro p e s m below meth c A ls H locs Z hr hlk _ hw hl
  have hx := Z.1.1
  have hb := Z.1.2.1
  have hl : lv_has ls 1 [(0, .ref (ad 0))] := hl
  refine lv_aload_n hx hb dX5_beginExit_0 rfl (lv_at hl 0 rfl) ?_
  refine lv_aload_n hx hb dX5_beginExit_1 rfl (lv_at hl 0 rfl) ?_
  refine gM (j := 1) (v := .ref (ad 1)) Z hw  (by decide) q_1_171 rfl rfl dX5_beginExit_2 ?_
  refine lv_iconst (v := 2) hx hb dX5_beginExit_5 (by decide +kernel) ?_
  refine aE (v := σ 1 2) Z hw 1 (by decide) rfl (fun _ => rfl) (vp_in_nI (n := 2) (by decide) (by decide)) ((congrArg (σ 1) (nI_clamp (n := 2) (by decide))).trans rfl) dX5_beginExit_6 ?_
  have hj15 : ∀ (v15 : Int32) (H : Heap) (locs : List Loc) (ls : Array Slot), ((if (σ 1 2) ≤ 0 then 0 else 2) : Int32) = v15 → wo D A s.heap 57 ad (cE (mE T ad) σ) H locs → lv_has ls 1 [(0, .ref (ad 0))] → W p l e rmX5_beginExit s m [.ref (ad 0)].toArray below meth c H locs 0 0 (MQ below (qV D 57 ad (mE T ad) (pV (f_X5_beginExit σ) InvC) A) [.ref (ad 0)].toArray s rmX5_beginExit.cells rmX5_beginExit.slots A) (F0 m 15 ls [.int v15, .ref (ad 0)]) := by
    intro v15 H locs ls ev15 hw hl
    refine pM (j := 7) Z hw  (by decide) q_1_179 rfl rfl rfl rfl dX5_beginExit_15 (fun H locs hw => ?_)
    refine lv_aload_n hx hb dX5_beginExit_18 rfl (lv_at hl 0 rfl) ?_
    refine lv_iconst (v := (-1)) hx hb dX5_beginExit_19 (by decide +kernel) ?_
    refine pM (j := 8) Z hw  (by decide) q_1_180 rfl rfl rfl rfl dX5_beginExit_20 (fun H locs hw => ?_)
    refine lv_aload_n hx hb dX5_beginExit_23 rfl (lv_at hl 0 rfl) ?_
    refine lv_aload_n hx hb dX5_beginExit_24 rfl (lv_at hl 0 rfl) ?_
    refine gM (j := 1) (v := .ref (ad 1)) Z hw  (by decide) q_1_171 rfl rfl dX5_beginExit_25 ?_
    refine lv_iconst (v := 2) hx hb dX5_beginExit_28 (by decide +kernel) ?_
    refine aE (v := σ 1 2) Z hw 1 (by decide) rfl (fun _ => rfl) (vp_in_nI (n := 2) (by decide) (by decide)) ((congrArg ((up2 (up2 σ 0 7 v15) 0 8 (-1)) 1) (nI_clamp (n := 2) (by decide))).trans ((up2_j (by decide)).trans (up2_j (by decide)))) dX5_beginExit_29 ?_
    refine pM (j := 9) Z hw  (by decide) q_1_181 rfl rfl rfl rfl dX5_beginExit_30 (fun H locs hw => ?_)
    exact rt_v Z hr hlk hw dX5_beginExit_33 ⟨Eq.symm (by subst ev15; exact rfl), (InvC.up (InvC.up (InvC.up I0 (by decide)) (by decide)) (by decide))⟩
  refine lv_if_le (tgt := 14) hx hb dX5_beginExit_7 (by decide) (fun c7 => ?_) (fun c7 => ?_)
  · refine lv_iconst (v := 0) hx hb dX5_beginExit_14 (by decide +kernel) ?_
    exact hj15 _ H locs ls (Eq.symm (lf_t c7 rfl)) hw (lv_sub hl [0] rfl)
  · refine lv_iconst (v := 2) hx hb dX5_beginExit_10 (by decide +kernel) ?_
    refine lv_goto (tgt := 15) hx hb dX5_beginExit_11 (by decide) ?_
    exact hj15 _ H locs ls (Eq.symm (lf_f c7 rfl)) hw (lv_sub hl [0] rfl)
abbrev rmX5_isIdle : Room := { frames := 0, cells := 0, slots := 0, locals := 0 }
def f_X5_isIdle (σ : St) : Int32 := (if (σ 0 6) = 0 then (if (σ 0 7) = 0 then 1 else 0) else 0)
theorem v_X5_isIdle : cvV yX5_isIdle "NestedBells$Machine" cX5_isIdle 1 (some (.boolean)) 0 := ⟨q_4_145, s_33, q_1_2, q_4_146, rfl, by decide +kernel, by decide +kernel, by decide +kernel⟩
set_option maxHeartbeats 4000000 in
set_option maxRecDepth 100000 in
theorem k_X5_isIdle {l : Launch} {D : va_G} {T : Nat → ClassId} {g ad : Nat → Nat} {σ : St} (I0 : InvC σ) : mX l yX5_isIdle cX5_isIdle 1 (some (.boolean)) rmX5_isIdle D T g 57 ad (cE (mE T ad) σ) [.ref (ad 0)] (qI D 57 ad (mE T ad) (pR (f_X5_isIdle σ) σ)) := by
  refine mX.of (own := "NestedBells$Machine") (by decide +kernel) (Nat.le_of_ble_eq_true rfl) rfl ?_
  intro p e s m below meth c A ls H locs Z hr hlk _ hw hl
  have hx := Z.1.1
  have hb := Z.1.2.1
  have hl : lv_has ls 1 [(0, .ref (ad 0))] := hl
  refine lv_aload_n hx hb dX5_isIdle_0 rfl (lv_at hl 0 rfl) ?_
  refine gM (j := 6) (v := .int (σ 0 6)) Z hw  (by decide) q_1_177 rfl rfl dX5_isIdle_1 ?_
  refine lv_if_ne (tgt := 18) hx hb dX5_isIdle_4 (by decide) (fun c4 => ?_) (fun c4 => ?_)
  · refine lv_iconst (v := 0) hx hb dX5_isIdle_18 (by decide +kernel) ?_
    exact rt_z Z hr hlk hw rfl dX5_isIdle_19 ⟨Eq.symm (lf_f c4 rfl), rfl⟩
  · refine lv_aload_n hx hb dX5_isIdle_7 rfl (lv_at hl 0 rfl) ?_
    refine gM (j := 7) (v := .int (σ 0 7)) Z hw  (by decide) q_1_179 rfl rfl dX5_isIdle_8 ?_
    refine lv_if_ne (tgt := 18) hx hb dX5_isIdle_11 (by decide) (fun c11 => ?_) (fun c11 => ?_)
    · refine lv_iconst (v := 0) hx hb dX5_isIdle_18 (by decide +kernel) ?_
      exact rt_z Z hr hlk hw rfl dX5_isIdle_19 ⟨Eq.symm (lf_t c4 (lf_f c11 rfl)), rfl⟩
    · refine lv_iconst (v := 1) hx hb dX5_isIdle_14 (by decide +kernel) ?_
      refine lv_goto (tgt := 19) hx hb dX5_isIdle_15 (by decide) ?_
      exact rt_z Z hr hlk hw rfl dX5_isIdle_19 ⟨Eq.symm (lf_t c4 (lf_t c11 rfl)), rfl⟩
abbrev rmX5_find : Room := { frames := 0, cells := 0, slots := 0, locals := 0 }
def f_X5_find (σ : St) (p1 : Int32) : Option Nat := (if p1 < 0 then none else (if (σ 0 4) ≤ p1 then none else (some p1.toNatClampNeg)))
theorem v_X5_find : cvV yX5_find "NestedBells$Machine" cX5_find 2 (some (.object "NestedBells$Source")) 1 := ⟨q_2_182, q_2_183, q_1_2, q_2_184, rfl, by decide +kernel, by decide +kernel, by decide +kernel⟩
set_option maxHeartbeats 4000000 in
set_option maxRecDepth 100000 in
theorem k_X5_find {l : Launch} {D : va_G} {T : Nat → ClassId} {g ad : Nat → Nat} {σ : St} {p1 : Int32} (I0 : InvC σ) : mX l yX5_find cX5_find 2 (some (.object "NestedBells$Source")) rmX5_find D T g 57 ad (cE (mE T ad) σ) [.ref (ad 0), .int p1] (qQ D 57 ad (mE T ad) (pR (Option.map (fun i => ad (9 + i)) (f_X5_find σ p1)) σ)) := by
  refine mX.of (own := "NestedBells$Machine") (by decide +kernel) (Nat.le_of_ble_eq_true rfl) rfl ?_
  intro p e s m below meth c A ls H locs Z hr hlk _ hw hl
  have hx := Z.1.1
  have hb := Z.1.2.1
  have hl : lv_has ls 2 [(0, .ref (ad 0)), (1, .int p1)] := hl
  refine lv_iload_n hx hb dX5_find_0 rfl (lv_at hl 1 rfl) ?_
  refine lv_if_lt (tgt := 21) hx hb dX5_find_1 (by decide) (fun c1 => ?_) (fun c1 => ?_)
  · refine lv_null hx hb dX5_find_21 ?_
    exact rt_q (v := none) Z hr (Or.inl ⟨_, rfl⟩) hlk hw dX5_find_22 rfl ⟨Eq.symm (congrArg (Option.map (fun i => ad (9 + i))) (show none = (f_X5_find σ p1) from (lf_t c1 rfl))), rfl⟩
  · refine lv_iload_n hx hb dX5_find_4 rfl (lv_at hl 1 rfl) ?_
    refine lv_aload_n hx hb dX5_find_5 rfl (lv_at hl 0 rfl) ?_
    refine gM (j := 4) (v := .int (σ 0 4)) Z hw  (by decide) q_1_174 rfl rfl dX5_find_6 ?_
    refine lv_icmp_ge (tgt := 21) hx hb dX5_find_9 (by decide) (fun c9 => ?_) (fun c9 => ?_)
    · refine lv_null hx hb dX5_find_21 ?_
      exact rt_q (v := none) Z hr (Or.inl ⟨_, rfl⟩) hlk hw dX5_find_22 rfl ⟨Eq.symm (congrArg (Option.map (fun i => ad (9 + i))) (show none = (f_X5_find σ p1) from (lf_f c1 (lf_t c9 rfl)))), rfl⟩
    · refine lv_aload_n hx hb dX5_find_12 rfl (lv_at hl 0 rfl) ?_
      refine gM (j := 3) (v := .ref (ad 3)) Z hw  (by decide) q_1_173 rfl rfl dX5_find_13 ?_
      refine lv_iload_n hx hb dX5_find_16 rfl (lv_at hl 1 rfl) ?_
      refine qE (n := 12) (t0 := 5) (v := .ref (ad (9 + p1.toNatClampNeg))) Z hw 3 (by decide) rfl rfl rfl (vp_bd c1 c9 I0.1.2) (tr_ok rfl (Nat.not_le.mp fun q => (vp_bd c1 c9 I0.1.2) (Or.inr q))) dX5_find_17 ?_
      refine lv_goto (tgt := 22) hx hb dX5_find_18 (by decide) ?_
      exact rt_q (v := some ((ad (9 + p1.toNatClampNeg)))) Z hr (Or.inl ⟨_, rfl⟩) hlk hw dX5_find_22 rfl ⟨Eq.symm (congrArg (Option.map (fun i => ad (9 + i))) (show some p1.toNatClampNeg = (f_X5_find σ p1) from (lf_f c1 (lf_f c9 rfl)))), rfl⟩
theorem fin_lt {σ : St} {n : Int32} {i : Nat} (I : InvC σ) (h : f_X5_find σ n = some i) : i < 12 := by
  unfold f_X5_find at h
  by_cases c1 : n < 0
  · rw [if_pos c1] at h; cases h
  · rw [if_neg c1] at h
    by_cases c2 : σ 0 4 ≤ n
    · rw [if_pos c2] at h; cases h
    · rw [if_neg c2] at h
      cases h
      have h1 := I.1.2
      rw [i32_le] at c2
      rw [i32_lt] at c1
      have h2 : 0 ≤ n.toInt := Int.not_lt.mp c1
      have := tnc h2
      omega

abbrev rmX5_stackedAt : Room := { frames := 0, cells := 0, slots := 0, locals := 0 }
def f_X5_stackedAt (σ : St) (p1 : Int32) : Int32 := (if p1 < 0 then (-1) else (if (σ 0 6) ≤ p1 then (-1) else σ 4 p1.toNatClampNeg))
theorem v_X5_stackedAt : cvV yX5_stackedAt "NestedBells$Machine" cX5_stackedAt 2 (some (.int)) 1 := ⟨q_2_234, q_2_235, q_1_2, q_2_236, rfl, by decide +kernel, by decide +kernel, by decide +kernel⟩
set_option maxHeartbeats 4000000 in
set_option maxRecDepth 100000 in
theorem k_X5_stackedAt {l : Launch} {D : va_G} {T : Nat → ClassId} {g ad : Nat → Nat} {σ : St} {p1 : Int32} (I0 : InvC σ) : mX l yX5_stackedAt cX5_stackedAt 2 (some (.int)) rmX5_stackedAt D T g 57 ad (cE (mE T ad) σ) [.ref (ad 0), .int p1] (qI D 57 ad (mE T ad) (pR (f_X5_stackedAt σ p1) σ)) := by
  refine mX.of (own := "NestedBells$Machine") (by decide +kernel) (Nat.le_of_ble_eq_true rfl) rfl ?_
  intro p e s m below meth c A ls H locs Z hr hlk _ hw hl
  have hx := Z.1.1
  have hb := Z.1.2.1
  have hl : lv_has ls 2 [(0, .ref (ad 0)), (1, .int p1)] := hl
  refine lv_iload_n hx hb dX5_stackedAt_0 rfl (lv_at hl 1 rfl) ?_
  refine lv_if_lt (tgt := 21) hx hb dX5_stackedAt_1 (by decide) (fun c1 => ?_) (fun c1 => ?_)
  · refine lv_iconst (v := (-1)) hx hb dX5_stackedAt_21 (by decide +kernel) ?_
    exact rt_i Z hr hlk hw dX5_stackedAt_22 ⟨Eq.symm (lf_t c1 rfl), rfl⟩
  · refine lv_iload_n hx hb dX5_stackedAt_4 rfl (lv_at hl 1 rfl) ?_
    refine lv_aload_n hx hb dX5_stackedAt_5 rfl (lv_at hl 0 rfl) ?_
    refine gM (j := 6) (v := .int (σ 0 6)) Z hw  (by decide) q_1_177 rfl rfl dX5_stackedAt_6 ?_
    refine lv_icmp_ge (tgt := 21) hx hb dX5_stackedAt_9 (by decide) (fun c9 => ?_) (fun c9 => ?_)
    · refine lv_iconst (v := (-1)) hx hb dX5_stackedAt_21 (by decide +kernel) ?_
      exact rt_i Z hr hlk hw dX5_stackedAt_22 ⟨Eq.symm (lf_f c1 (lf_t c9 rfl)), rfl⟩
    · refine lv_aload_n hx hb dX5_stackedAt_12 rfl (lv_at hl 0 rfl) ?_
      refine gM (j := 5) (v := .ref (ad 4)) Z hw  (by decide) q_1_176 rfl rfl dX5_stackedAt_13 ?_
      refine lv_iload_n hx hb dX5_stackedAt_16 rfl (lv_at hl 1 rfl) ?_
      refine aE (v := σ 4 p1.toNatClampNeg) Z hw 4 (by decide) rfl (fun _ => rfl) (vp_bd c1 c9 I0.2.1.2) rfl dX5_stackedAt_17 ?_
      refine lv_goto (tgt := 22) hx hb dX5_stackedAt_18 (by decide) ?_
      exact rt_i Z hr hlk hw dX5_stackedAt_22 ⟨Eq.symm (lf_f c1 (lf_f c9 rfl)), rfl⟩
theorem nx20 {x : Int32} (h : 0 ≤ x.toInt ∧ x.toInt < 20) : 0 ≤ ((x + 1) - (x + 1) / 20 * 20).toInt ∧ ((x + 1) - (x + 1) / 20 * 20).toInt < 20 := by
  obtain ⟨j, hj, rfl⟩ := vp_in_of (vp_in_iff.mpr h) (by decide)
  have key : ∀ j, j < 20 → 0 ≤ ((nI j + 1) - (nI j + 1) / 20 * 20).toInt ∧ ((nI j + 1) - (nI j + 1) / 20 * 20).toInt < 20 := by decide +kernel
  exact key j hj
theorem inc_to {x b : Int32} {B : Int} (h : 0 ≤ x.toInt) (c : ¬ b ≤ x) (hb : b.toInt ≤ B) (hB : B < 2147483647) : 0 ≤ (x + 1).toInt ∧ (x + 1).toInt ≤ B := by
  rw [i32_le] at c
  have hx : x.toInt < B := by omega
  obtain ⟨j, hj, rfl⟩ : ∃ j : Nat, j < 2147483647 ∧ x = nI j := by
    refine ⟨x.toInt.toNat, by omega, ?_⟩
    apply Int32.toInt_inj.mp
    rw [nI_toInt (by omega)]
    omega
  rw [nI_1, nI_toInt (by omega)]
  rw [nI_toInt (by omega)] at hx h
  omega
theorem log_row {x y z : Int32} (hx : 0 ≤ x.toInt ∧ x.toInt < 20) (c1 : ¬ y < 0) (c2 : y < z) (hz : z.toInt ≤ 20) : vp_in (x + 20 - 1 - y - (x + 20 - 1 - y) / 20 * 20) 20 := by
  obtain ⟨a, ha, rfl⟩ := vp_in_of (n := 20) (vp_in_iff.mpr hx) (by decide)
  rw [i32_lt] at c1 c2
  obtain ⟨b, hb, rfl⟩ := vp_in_of (n := 20) (vp_in_iff.mpr ⟨Int.not_lt.mp c1, by omega⟩) (by decide)
  have e : nI a + 20 - 1 - nI b = nI (a + 19 - b) := by
    rw [show nI a + 20 - 1 = nI (a + 19) from by rw [show (20 : Int32) = nI 20 from rfl, nI_add, show (1 : Int32) = nI 1 from rfl, pk_sub (by omega)]; rfl, pk_sub (by omega)]
  rw [e, show (20 : Int32) = nI 20 from rfl, pk_rem (a := a + 19 - b) (d := 20) (by omega) (by decide) (by decide)]
  exact vp_in_nI (by omega) (by decide)

abbrev rmX3_add : Room := { frames := 0, cells := 0, slots := 0, locals := 0 }
def f_X3_add (σ : St) (p1 : Int32) (p2 : Int32) (p3 : Int32) : St := (if 20 ≤ (σ 5 4) then up2 (up2 (up2 (up2 σ 6 ((σ 5 3).toNatClampNeg) p1) 7 ((σ 5 3).toNatClampNeg) p2) 8 ((σ 5 3).toNatClampNeg) p3) 5 3 (((σ 5 3) + 1) - ((σ 5 3) + 1) / 20 * 20) else up2 (up2 (up2 (up2 (up2 σ 6 ((σ 5 3).toNatClampNeg) p1) 7 ((σ 5 3).toNatClampNeg) p2) 8 ((σ 5 3).toNatClampNeg) p3) 5 3 (((σ 5 3) + 1) - ((σ 5 3) + 1) / 20 * 20)) 5 4 ((σ 5 4) + 1))
theorem v_X3_add : cvV yX3_add "NestedBells$EventLog" cX3_add 4 none 3 := ⟨q_2_202, q_2_203, q_1_3, q_2_204, rfl, by decide +kernel, by decide +kernel, by decide +kernel⟩
set_option maxHeartbeats 4000000 in
set_option maxRecDepth 100000 in
theorem k_X3_add {l : Launch} {D : va_G} {T : Nat → ClassId} {g ad : Nat → Nat} {σ : St} {p1 : Int32} {p2 : Int32} {p3 : Int32} (I0 : InvC σ) : mX l yX3_add cX3_add 4 none rmX3_add D T g 57 ad (cE (mE T ad) σ) [.ref (ad 5), .int p1, .int p2, .int p3] (qV D 57 ad (mE T ad) (pV (f_X3_add σ p1 p2 p3) InvC)) := by
  refine mX.of (own := "NestedBells$EventLog") (by decide +kernel) (Nat.le_of_ble_eq_true rfl) rfl ?_
  intro p e s m below meth c A ls H locs Z hr hlk _ hw hl
  have hx := Z.1.1
  have hb := Z.1.2.1
  have hl : lv_has ls 4 [(0, .ref (ad 5)), (1, .int p1), (2, .int p2), (3, .int p3)] := hl
  refine lv_aload_n hx hb dX3_add_0 rfl (lv_at hl 0 rfl) ?_
  refine gEv (j := 0) (v := .ref (ad 6)) Z hw  (by decide) q_1_46 rfl rfl dX3_add_1 ?_
  refine lv_aload_n hx hb dX3_add_4 rfl (lv_at hl 0 rfl) ?_
  refine gEv (j := 3) (v := .int (σ 5 3)) Z hw  (by decide) q_1_49 rfl rfl dX3_add_5 ?_
  refine lv_iload_n hx hb dX3_add_8 rfl (lv_at hl 1 rfl) ?_
  refine sE (j := (σ 5 3).toNatClampNeg) Z hw 6 (by decide) rfl (fun _ => rfl) (vp_of I0.2.2.1.1 I0.2.2.1.2) rfl dX3_add_9 (fun H locs hw => ?_)
  refine lv_aload_n hx hb dX3_add_10 rfl (lv_at hl 0 rfl) ?_
  refine gEv (j := 1) (v := .ref (ad 7)) Z hw  (by decide) q_1_47 rfl rfl dX3_add_11 ?_
  refine lv_aload_n hx hb dX3_add_14 rfl (lv_at hl 0 rfl) ?_
  refine gEv (j := 3) (v := .int (σ 5 3)) Z hw  (by decide) q_1_49 rfl (congrArg (fun x => some (Value.int x)) (up2_k (by decide))) dX3_add_15 ?_
  refine lv_iload_n hx hb dX3_add_18 rfl (lv_at hl 2 rfl) ?_
  refine sE (j := (σ 5 3).toNatClampNeg) Z hw 7 (by decide) rfl (fun _ => rfl) (vp_of I0.2.2.1.1 I0.2.2.1.2) rfl dX3_add_19 (fun H locs hw => ?_)
  refine lv_aload_n hx hb dX3_add_20 rfl (lv_at hl 0 rfl) ?_
  refine gEv (j := 2) (v := .ref (ad 8)) Z hw  (by decide) q_1_48 rfl rfl dX3_add_21 ?_
  refine lv_aload_n hx hb dX3_add_24 rfl (lv_at hl 0 rfl) ?_
  refine gEv (j := 3) (v := .int (σ 5 3)) Z hw  (by decide) q_1_49 rfl (congrArg (fun x => some (Value.int x)) ((up2_k (by decide)).trans (up2_k (by decide)))) dX3_add_25 ?_
  refine lv_iload_n hx hb dX3_add_28 rfl (lv_at hl 3 rfl) ?_
  refine sE (j := (σ 5 3).toNatClampNeg) Z hw 8 (by decide) rfl (fun _ => rfl) (vp_of I0.2.2.1.1 I0.2.2.1.2) rfl dX3_add_29 (fun H locs hw => ?_)
  refine lv_aload_n hx hb dX3_add_30 rfl (lv_at hl 0 rfl) ?_
  refine lv_aload_n hx hb dX3_add_31 rfl (lv_at hl 0 rfl) ?_
  refine gEv (j := 3) (v := .int (σ 5 3)) Z hw  (by decide) q_1_49 rfl (congrArg (fun x => some (Value.int x)) ((up2_k (by decide)).trans ((up2_k (by decide)).trans (up2_k (by decide))))) dX3_add_32 ?_
  refine lv_iconst (v := 1) hx hb dX3_add_35 (by decide +kernel) ?_
  refine lv_iadd hx hb dX3_add_36 ?_
  refine lv_bipush (v := 20) hx hb dX3_add_37 (by decide +kernel) ?_
  refine lv_irem hx hb dX3_add_39 (by decide) ?_
  refine pEv (j := 3) Z hw  (by decide) q_1_49 rfl rfl rfl rfl dX3_add_40 (fun H locs hw => ?_)
  refine lv_aload_n hx hb dX3_add_43 rfl (lv_at hl 0 rfl) ?_
  refine gEv (j := 4) (v := .int (σ 5 4)) Z hw  (by decide) q_1_50 rfl (congrArg (fun x => some (Value.int x)) ((up2_j (by decide)).trans ((up2_k (by decide)).trans ((up2_k (by decide)).trans (up2_k (by decide)))))) dX3_add_44 ?_
  refine lv_bipush (v := 20) hx hb dX3_add_47 (by decide +kernel) ?_
  refine lv_icmp_ge (tgt := 62) hx hb dX3_add_49 (by decide) (fun c49 => ?_) (fun c49 => ?_)
  · exact rt_v Z hr hlk hw dX3_add_62 ⟨Eq.symm (lf_t c49 rfl), (InvC.up53 (nx20 I0.2.2.1) (InvC.up (InvC.up (InvC.up I0 (by unfold InvCcr; omega)) (by unfold InvCcr; omega)) (by unfold InvCcr; omega)))⟩
  · refine lv_aload_n hx hb dX3_add_52 rfl (lv_at hl 0 rfl) ?_
    refine lv_dup hx hb dX3_add_53 rfl ?_
    refine gEv (j := 4) (v := .int (σ 5 4)) Z hw  (by decide) q_1_50 rfl (congrArg (fun x => some (Value.int x)) ((up2_j (by decide)).trans ((up2_k (by decide)).trans ((up2_k (by decide)).trans (up2_k (by decide)))))) dX3_add_54 ?_
    refine lv_iconst (v := 1) hx hb dX3_add_57 (by decide +kernel) ?_
    refine lv_iadd hx hb dX3_add_58 ?_
    refine pEv (j := 4) Z hw  (by decide) q_1_50 rfl rfl rfl rfl dX3_add_59 (fun H locs hw => ?_)
    exact rt_v Z hr hlk hw dX3_add_62 ⟨Eq.symm (lf_f c49 rfl), (InvC.up54 (inc_to I0.2.2.2.1.1 c49 (by decide) (by decide)) (InvC.up53 (nx20 I0.2.2.1) (InvC.up (InvC.up (InvC.up I0 (by unfold InvCcr; omega)) (by unfold InvCcr; omega)) (by unfold InvCcr; omega))))⟩
abbrev rmX3_value : Room := { frames := 0, cells := 0, slots := 0, locals := 0 }
def f_X3_value (σ : St) (p1 : Int32) (p2 : Int32) : Int32 := (if p1 < 0 then (-1) else (if p1 < (σ 5 4) then (if p2 = 0 then σ 6 ((((((σ 5 3) + 20) - 1) - p1) - ((((σ 5 3) + 20) - 1) - p1) / 20 * 20).toNatClampNeg) else (if p2 = 1 then σ 7 ((((((σ 5 3) + 20) - 1) - p1) - ((((σ 5 3) + 20) - 1) - p1) / 20 * 20).toNatClampNeg) else σ 8 ((((((σ 5 3) + 20) - 1) - p1) - ((((σ 5 3) + 20) - 1) - p1) / 20 * 20).toNatClampNeg))) else (-1)))
theorem v_X3_value : cvV yX3_value "NestedBells$EventLog" cX3_value 4 (some (.int)) 2 := ⟨q_3_116, q_3_117, q_1_3, q_3_118, rfl, by decide +kernel, by decide +kernel, by decide +kernel⟩
set_option maxHeartbeats 4000000 in
set_option maxRecDepth 100000 in
theorem k_X3_value {l : Launch} {D : va_G} {T : Nat → ClassId} {g ad : Nat → Nat} {σ : St} {p1 : Int32} {p2 : Int32} (I0 : InvC σ) : mX l yX3_value cX3_value 4 (some (.int)) rmX3_value D T g 57 ad (cE (mE T ad) σ) [.ref (ad 5), .int p1, .int p2] (qI D 57 ad (mE T ad) (pR (f_X3_value σ p1 p2) σ)) := by
  refine mX.of (own := "NestedBells$EventLog") (by decide +kernel) (Nat.le_of_ble_eq_true rfl) rfl ?_
  intro p e s m below meth c A ls H locs Z hr hlk _ hw hl
  have hx := Z.1.1
  have hb := Z.1.2.1
  have hl : lv_has ls 4 [(0, .ref (ad 5)), (1, .int p1), (2, .int p2)] := hl
  refine lv_iload_n hx hb dX3_value_0 rfl (lv_at hl 1 rfl) ?_
  refine lv_if_lt (tgt := 12) hx hb dX3_value_1 (by decide) (fun c1 => ?_) (fun c1 => ?_)
  · refine lv_iconst (v := (-1)) hx hb dX3_value_12 (by decide +kernel) ?_
    exact rt_i Z hr hlk hw dX3_value_13 ⟨Eq.symm (lf_t c1 rfl), rfl⟩
  · refine lv_iload_n hx hb dX3_value_4 rfl (lv_at hl 1 rfl) ?_
    refine lv_aload_n hx hb dX3_value_5 rfl (lv_at hl 0 rfl) ?_
    refine gEv (j := 4) (v := .int (σ 5 4)) Z hw  (by decide) q_1_50 rfl rfl dX3_value_6 ?_
    refine lv_icmp_lt (tgt := 14) hx hb dX3_value_9 (by decide) (fun c9 => ?_) (fun c9 => ?_)
    · refine lv_aload_n hx hb dX3_value_14 rfl (lv_at hl 0 rfl) ?_
      refine gEv (j := 3) (v := .int (σ 5 3)) Z hw  (by decide) q_1_49 rfl rfl dX3_value_15 ?_
      refine lv_bipush (v := 20) hx hb dX3_value_18 (by decide +kernel) ?_
      refine lv_iadd hx hb dX3_value_20 ?_
      refine lv_iconst (v := 1) hx hb dX3_value_21 (by decide +kernel) ?_
      refine lv_isub hx hb dX3_value_22 ?_
      refine lv_iload_n hx hb dX3_value_23 rfl (lv_at hl 1 rfl) ?_
      refine lv_isub hx hb dX3_value_24 ?_
      refine lv_bipush (v := 20) hx hb dX3_value_25 (by decide +kernel) ?_
      refine lv_irem hx hb dX3_value_27 (by decide) ?_
      refine lv_istore_n (lv' := [(3, .int (((((σ 5 3) + 20) - 1) - p1) - ((((σ 5 3) + 20) - 1) - p1) / 20 * 20)), (0, .ref (ad 5)), (1, .int p1), (2, .int p2)]) hx hb dX3_value_28 rfl hl (by decide) rfl (fun ls hl => ?_)
      refine lv_iload_n hx hb dX3_value_29 rfl (lv_at hl 3 rfl) ?_
      rcases Decidable.em (p2 = 0) with c30_0 | c30_0
      · refine lv_lookup (off := 26) (tgt := 56) hx hb dX3_value_30 (by decide) (by rw [c30_0]; rfl) (by decide) ?_
        refine lv_aload_n hx hb dX3_value_56 rfl (lv_at hl 1 rfl) ?_
        refine gEv (j := 0) (v := .ref (ad 6)) Z hw  (by decide) q_1_46 rfl rfl dX3_value_57 ?_
        refine lv_iload_n hx hb dX3_value_60 rfl (lv_at hl 0 rfl) ?_
        refine aE (v := σ 6 ((((((σ 5 3) + 20) - 1) - p1) - ((((σ 5 3) + 20) - 1) - p1) / 20 * 20).toNatClampNeg)) Z hw 6 (by decide) rfl (fun _ => rfl) (log_row I0.2.2.1 c1 c9 I0.2.2.2.1.2) rfl dX3_value_61 ?_
        exact rt_i Z hr hlk hw dX3_value_62 ⟨Eq.symm (lf_f c1 (lf_t c9 (lf_t c30_0 rfl))), rfl⟩
      · rcases Decidable.em (p2 = 1) with c30_1 | c30_1
        · refine lv_lookup (off := 33) (tgt := 63) hx hb dX3_value_30 (by decide) (by rw [c30_1]; rfl) (by decide) ?_
          refine lv_aload_n hx hb dX3_value_63 rfl (lv_at hl 1 rfl) ?_
          refine gEv (j := 1) (v := .ref (ad 7)) Z hw  (by decide) q_1_47 rfl rfl dX3_value_64 ?_
          refine lv_iload_n hx hb dX3_value_67 rfl (lv_at hl 0 rfl) ?_
          refine aE (v := σ 7 ((((((σ 5 3) + 20) - 1) - p1) - ((((σ 5 3) + 20) - 1) - p1) / 20 * 20).toNatClampNeg)) Z hw 7 (by decide) rfl (fun _ => rfl) (log_row I0.2.2.1 c1 c9 I0.2.2.2.1.2) rfl dX3_value_68 ?_
          exact rt_i Z hr hlk hw dX3_value_69 ⟨Eq.symm (lf_f c1 (lf_t c9 (lf_f c30_0 (lf_t c30_1 rfl)))), rfl⟩
        · refine lv_lookup (off := 40) (tgt := 70) hx hb dX3_value_30 (by decide) (by show Op.lookupswitch.offset [(0, 26), (1, 33)] _ _ = _; rw [lv_osw c30_0 (by decide +kernel), lv_osw c30_1 (by decide +kernel)]; rfl) (by decide) ?_
          refine lv_aload_n hx hb dX3_value_70 rfl (lv_at hl 1 rfl) ?_
          refine gEv (j := 2) (v := .ref (ad 8)) Z hw  (by decide) q_1_48 rfl rfl dX3_value_71 ?_
          refine lv_iload_n hx hb dX3_value_74 rfl (lv_at hl 0 rfl) ?_
          refine aE (v := σ 8 ((((((σ 5 3) + 20) - 1) - p1) - ((((σ 5 3) + 20) - 1) - p1) / 20 * 20).toNatClampNeg)) Z hw 8 (by decide) rfl (fun _ => rfl) (log_row I0.2.2.1 c1 c9 I0.2.2.2.1.2) rfl dX3_value_75 ?_
          exact rt_i Z hr hlk hw dX3_value_76 ⟨Eq.symm (lf_f c1 (lf_t c9 (lf_f c30_0 (lf_f c30_1 rfl)))), rfl⟩
    · refine lv_iconst (v := (-1)) hx hb dX3_value_12 (by decide +kernel) ?_
      exact rt_i Z hr hlk hw dX3_value_13 ⟨Eq.symm (lf_f c1 (lf_f c9 rfl)), rfl⟩
abbrev rmX5_receiveEdge : Room := { frames := 1, cells := 0, slots := 0, locals := 23 }
def f_X5_receiveEdge (σ : St) (p1 : Int32) (i : Nat) : Int32 × St := (if (zb (σ (9 + i) 4)) = 0 then (1, up2 (up2 σ (9 + i) 4 1) (9 + i) 6 (σ 0 0)) else (let s38 := f_X3_add (up2 (up2 σ (9 + i) 11 ((σ (9 + i) 11) + 1)) 2 7 ((σ 2 7) + 1)) 3 p1 (σ 0 0); (0, s38)))
theorem v_X5_receiveEdge : cvV yX5_receiveEdge "NestedBells$Machine" cX5_receiveEdge 3 (some (.int)) 2 := ⟨q_2_199, s_7, q_1_2, q_2_200, rfl, by decide +kernel, by decide +kernel, by decide +kernel⟩
set_option maxHeartbeats 4000000 in
set_option maxRecDepth 100000 in
theorem k_X5_receiveEdge {l : Launch} {D : va_G} {T : Nat → ClassId} {g ad : Nat → Nat} {σ : St} {p1 : Int32} {i : Nat} (I0 : InvC σ) (hi : i < 12) : mX l yX5_receiveEdge cX5_receiveEdge 3 (some (.int)) rmX5_receiveEdge D T g 57 ad (cE (mE T ad) σ) [.ref (ad 0), .int p1, .ref (ad (9 + i))] (qI D 57 ad (mE T ad) (pI (f_X5_receiveEdge σ p1 i) InvC)) := by
  refine mX.of (own := "NestedBells$Machine") (by decide +kernel) (Nat.le_of_ble_eq_true rfl) rfl ?_
  intro p e s m below meth c A ls H locs Z hr hlk _ hw hl
  have hx := Z.1.1
  have hb := Z.1.2.1
  have hl : lv_has ls 3 [(0, .ref (ad 0)), (1, .int p1), (2, .ref (ad (9 + i)))] := hl
  refine lv_aload_n hx hb dX5_receiveEdge_0 rfl (lv_at hl 2 rfl) ?_
  refine gU (j := 4) (v := .int (zb (σ (9 + i) 4))) Z hw hi (by decide) q_1_98 rfl rfl dX5_receiveEdge_1 ?_
  refine lv_if_eq (tgt := 43) hx hb dX5_receiveEdge_4 (by decide) (fun c4 => ?_) (fun c4 => ?_)
  · refine lv_aload_n hx hb dX5_receiveEdge_43 rfl (lv_at hl 2 rfl) ?_
    refine lv_iconst (v := 1) hx hb dX5_receiveEdge_44 (by decide +kernel) ?_
    refine pUb (j := 4) Z hw hi (by decide) q_1_98 (by decide) dX5_receiveEdge_45 (fun H locs hw => ?_)
    refine lv_aload_n hx hb dX5_receiveEdge_48 rfl (lv_at hl 2 rfl) ?_
    refine lv_aload_n hx hb dX5_receiveEdge_49 rfl (lv_at hl 0 rfl) ?_
    refine gM (j := 0) (v := .int (σ 0 0)) Z hw  (by decide) q_1_170 rfl (congrArg (fun x => some (Value.int x)) (up2_j (by decide))) dX5_receiveEdge_50 ?_
    refine pU (j := 6) Z hw hi (by decide) q_1_102 rfl rfl rfl rfl dX5_receiveEdge_53 (fun H locs hw => ?_)
    refine lv_iconst (v := 1) hx hb dX5_receiveEdge_56 (by decide +kernel) ?_
    exact rt_i Z hr hlk hw dX5_receiveEdge_57 (pI.mk (lf_t c4 rfl) (InvC.up (InvC.up I0 (by unfold InvCcr; omega)) (by unfold InvCcr; omega)))
  · refine lv_aload_n hx hb dX5_receiveEdge_7 rfl (lv_at hl 2 rfl) ?_
    refine lv_dup hx hb dX5_receiveEdge_8 rfl ?_
    refine gU (j := 11) (v := .int (σ (9 + i) 11)) Z hw hi (by decide) q_1_112 rfl rfl dX5_receiveEdge_9 ?_
    refine lv_iconst (v := 1) hx hb dX5_receiveEdge_12 (by decide +kernel) ?_
    refine lv_iadd hx hb dX5_receiveEdge_13 ?_
    refine pU (j := 11) Z hw hi (by decide) q_1_112 rfl rfl rfl rfl dX5_receiveEdge_14 (fun H locs hw => ?_)
    refine lv_aload_n hx hb dX5_receiveEdge_17 rfl (lv_at hl 0 rfl) ?_
    refine gM (j := 2) (v := .ref (ad 2)) Z hw  (by decide) q_1_172 rfl rfl dX5_receiveEdge_18 ?_
    refine lv_bipush (v := 7) hx hb dX5_receiveEdge_21 (by decide +kernel) ?_
    refine lv_dup2_11 hx hb dX5_receiveEdge_23 rfl rfl ?_
    refine aE (v := σ 2 7) Z hw 2 (by decide) rfl (fun _ => rfl) (vp_in_nI (n := 7) (by decide) (by decide)) ((congrArg ((up2 σ (9 + i) 11 ((σ (9 + i) 11) + 1)) 2) (nI_clamp (n := 7) (by decide))).trans (up2_j (by decide))) dX5_receiveEdge_24 ?_
    refine lv_iconst (v := 1) hx hb dX5_receiveEdge_25 (by decide +kernel) ?_
    refine lv_iadd hx hb dX5_receiveEdge_26 ?_
    refine sE (j := 7) Z hw 2 (by decide) rfl (fun _ => rfl) (vp_in_nI (n := 7) (by decide) (by decide)) (nI_clamp (n := 7) (by decide)) dX5_receiveEdge_27 (fun H locs hw => ?_)
    refine lv_aload_n hx hb dX5_receiveEdge_28 rfl (lv_at hl 0 rfl) ?_
    refine gM (j := 10) (v := .ref (ad 5)) Z hw  (by decide) q_1_182 rfl rfl dX5_receiveEdge_29 ?_
    refine lv_iconst (v := 3) hx hb dX5_receiveEdge_32 (by decide +kernel) ?_
    refine lv_iload_n hx hb dX5_receiveEdge_33 rfl (lv_at hl 1 rfl) ?_
    refine lv_aload_n hx hb dX5_receiveEdge_34 rfl (lv_at hl 0 rfl) ?_
    refine gM (j := 0) (v := .int (σ 0 0)) Z hw  (by decide) q_1_170 rfl (congrArg (fun x => some (Value.int x)) ((up2_j (by decide)).trans (up2_j (by decide)))) dX5_receiveEdge_35 ?_
    refine bk_v (rnV (rest := []) Z hw (k_X3_add (p1 := 3) (p2 := p1) (p3 := σ 0 0) (InvC.up (InvC.up I0 (by unfold InvCcr; omega)) (by decide))) v_X3_add q_2_201 (5) (by decide) rfl rfl rfl rfl hl.1 rfl rfl (Nat.le_of_ble_eq_true rfl) ⟨(Nat.le_of_ble_eq_true rfl), (Nat.le_of_ble_eq_true rfl)⟩ ⟨(Nat.le_of_ble_eq_true rfl), (Nat.le_of_ble_eq_true rfl)⟩ dX5_receiveEdge_38) hw Z (fun s38 H locs hp hw => ?_)
    obtain ⟨es38, I38⟩ := hp
    refine lv_iconst (v := 0) hx hb dX5_receiveEdge_41 (by decide +kernel) ?_
    exact rt_i Z hr hlk hw dX5_receiveEdge_42 (pI.mk (by subst es38; exact (lf_f c4 rfl)) I38)
