abbrev rmX8_requireArgument : Room := { frames := 6, cells := 1, slots := 6, locals := 82 }
def f_X8_requireArgument (p1 : Int32) : Nat := (if p1 = 0 then 2 else 0)
theorem v_X8_requireArgument : cvS yX8_requireArgument cX8_requireArgument 1 none 1 := ⟨q_4_82, q_1_1, q_4_83, by decide +kernel, by decide +kernel, by decide +kernel⟩
set_option maxHeartbeats 4000000 in
set_option maxRecDepth 100000 in
theorem k_X8_requireArgument {l : Launch} {D : va_G} {T : Nat → ClassId} {g ad : Nat → Nat} {N : Nat} {E : Nat → (Nat → Int32) → va_E} (hfl : l.stackTraces = false) {σ : St} {p1 : Int32} : mT l yX8_requireArgument cX8_requireArgument 1 none rmX8_requireArgument D T g N ad (cE E σ) [.int p1] (qV D N ad E (pXV (f_X8_requireArgument p1) σ)) (qX D N ad E (pXVX (f_X8_requireArgument p1) σ)) := by
  refine mT.of (own := "NestedBells") (by decide +kernel) (Nat.le_of_ble_eq_true rfl) rfl ?_
  intro p e s m below meth c A ls H locs Z hT hr hlk ht hw hl
  have hx := Z.1.1
  have hb := Z.1.2.1
  have hl : lv_has ls 1 [(0, .int p1)] := hl
  refine lv_iload_n hx hb dX8_requireArgument_0 rfl (lv_at hl 0 rfl) ?_
  refine lv_if_ne (tgt := 14) hx hb dX8_requireArgument_1 (by decide) (fun c1 => ?_) (fun c1 => ?_)
  · exact vx_ret (W.widen (Nat.le_of_ble_eq_true rfl) (Nat.le_of_ble_eq_true rfl) (rt_v Z hr hlk hw dX8_requireArgument_14 ⟨Eq.symm (lf_f c1 rfl), rfl⟩))
  · exact th_row (k := 2) (σ := σ) Z hw hT hfl thw2 (by decide +kernel) Z.2.2.2.1.2.2.2.2.2.1 hl.1 hlk ht dX8_requireArgument_4 dX8_requireArgument_7 dX8_requireArgument_8 dX8_requireArgument_10 dX8_requireArgument_13 ⟨by decide, Eq.symm (lf_t c1 rfl), rfl⟩ (Nat.le_of_ble_eq_true rfl) (Nat.le_of_ble_eq_true rfl) (Nat.le_of_ble_eq_true rfl) (Nat.le_of_ble_eq_true rfl) (Nat.le_of_ble_eq_true rfl) (Nat.le_of_ble_eq_true rfl)
theorem most_le {x r : Int32} (e : f_X8_isWithin x 0 1000 = r) (h : f_X8_requireArgument r = 0) : x.toInt ≤ 1000 := by
  unfold f_X8_requireArgument at h
  unfold f_X8_isWithin at e
  by_cases c : x < 0
  · rw [if_pos c] at e; subst e; cases h
  · by_cases c2 : 1000 < x
    · rw [if_neg c, if_pos c2] at e; subst e; cases h
    · rw [i32_lt] at c2
      exact Int.not_lt.mp c2
abbrev rmX8_requireSource : Room := { frames := 6, cells := 1, slots := 6, locals := 82 }
def f_X8_requireSource (σ : St) (p1 : Int32) : Nat := (oc (f_X5_find (sb (gmM 0) σ) p1) 1 (fun i5 => 0))
theorem v_X8_requireSource : cvV yX8_requireSource "NestedBells" cX8_requireSource 2 none 1 := ⟨q_4_77, s_32, q_1_1, q_4_78, rfl, by decide +kernel, by decide +kernel, by decide +kernel⟩
set_option maxHeartbeats 4000000 in
set_option maxRecDepth 100000 in
theorem k_X8_requireSource {l : Launch} {D : va_G} {T : Nat → ClassId} {g ad : Nat → Nat} (hfl : l.stackTraces = false) {σ : St} {p1 : Int32} (I0 : InvB σ) : mT l yX8_requireSource cX8_requireSource 2 none rmX8_requireSource D T g 405 ad (cE (bE g T ad) σ) [.ref (ad 0), .int p1] (qV D 405 ad (bE g T ad) (pXV (f_X8_requireSource σ p1) σ)) (qX D 405 ad (bE g T ad) (pXVX (f_X8_requireSource σ p1) σ)) := by
  refine mT.of (own := "NestedBells") (by decide +kernel) (Nat.le_of_ble_eq_true rfl) rfl ?_
  intro p e s m below meth c A ls H locs Z hT hr hlk ht hw hl
  have hx := Z.1.1
  have hb := Z.1.2.1
  have hl : lv_has ls 2 [(0, .ref (ad 0)), (1, .int p1)] := hl
  refine lv_aload_n hx hb dX8_requireSource_0 rfl (lv_at hl 0 rfl) ?_
  refine gO (C := "NestedBells") (TC := TX8) (NF := 5) (ci := 6) (j := 0) (v := .ref (ad 6)) Z hw (0) (by decide) rfl (fun _ => rfl) rfl iX8 (by decide) q_2_18 rfl rfl dX8_requireSource_1 ?_
  refine lv_iload_n hx hb dX8_requireSource_4 rfl (lv_at hl 1 rfl) ?_
  refine bs_qp (prtM (g := g) (T := T) (ad := ad) (q := 0) (by decide)) (rnV (rest := []) Z ((prtM (g := g) (T := T) (ad := ad) (q := 0) (by decide)).sub hw) (k_X5_find (p1 := p1) (I0.2.2.2 0 (by decide))) v_X5_find q_4_79 0 (by decide) rfl rfl rfl rfl hl.1 rfl rfl (Nat.le_of_ble_eq_true rfl) ⟨(Nat.le_of_ble_eq_true rfl), (Nat.le_of_ble_eq_true rfl)⟩ ⟨(Nat.le_of_ble_eq_true rfl), (Nat.le_of_ble_eq_true rfl)⟩ dX8_requireSource_5) hw Z (fun r5 er5 H locs hw => ?_)
  subst er5
  rcases hf5 : f_X5_find (sb (gmM 0) σ) p1 with _ | i5
  · show W _ _ _ _ _ _ _ _ _ _ _ _ _ _ _ (F0 _ _ _ (.null :: _))
    refine lv_ifnonnullN hx hb dX8_requireSource_8 ?_
    exact th_row (k := 1) (σ := σ) Z hw hT hfl thw1 (by decide +kernel) Z.2.2.2.1.2.2.2.2.1 hl.1 hlk ht dX8_requireSource_11 dX8_requireSource_14 dX8_requireSource_15 dX8_requireSource_17 dX8_requireSource_20 ⟨by decide, Eq.symm (lf_n hf5 rfl), rfl⟩ (Nat.le_of_ble_eq_true rfl) (Nat.le_of_ble_eq_true rfl) (Nat.le_of_ble_eq_true rfl) (Nat.le_of_ble_eq_true rfl) (Nat.le_of_ble_eq_true rfl) (Nat.le_of_ble_eq_true rfl)
  · show W _ _ _ _ _ _ _ _ _ _ _ _ _ _ _ (F0 _ _ _ (.ref (ad (gmM 0 (9 + i5))) :: _))
    refine lv_ifnonnull (tgt := 21) hx hb dX8_requireSource_8 (by decide) ?_
    exact vx_ret (W.widen (Nat.le_of_ble_eq_true rfl) (Nat.le_of_ble_eq_true rfl) (rt_v Z hr hlk hw dX8_requireSource_21 ⟨Eq.symm (lf_s hf5 rfl), rfl⟩))
abbrev rmX8_settle : Room := { frames := 6, cells := 1, slots := 6, locals := 82 }
def f_X8_settle (σ : St) (p1 : Int32) : Nat × Int32 × St := (if p1 = (-1) then (1, 0, σ) else (if p1 = (-2) then (2, 0, σ) else (if p1 = (-3) then (3, 0, σ) else (let s51 := f_X4_keep σ; (0, p1, s51)))))
theorem v_X8_settle : cvV yX8_settle "NestedBells" cX8_settle 2 (some (.int)) 1 := ⟨q_3_130, s_27, q_1_1, q_3_131, rfl, by decide +kernel, by decide +kernel, by decide +kernel⟩
set_option maxHeartbeats 4000000 in
set_option maxRecDepth 100000 in
theorem k_X8_settle {l : Launch} {D : va_G} {T : Nat → ClassId} {g ad : Nat → Nat} (hfl : l.stackTraces = false) {σ : St} {p1 : Int32} (I0 : InvB σ) : mT l yX8_settle cX8_settle 2 (some (.int)) rmX8_settle D T g 405 ad (cE (bE g T ad) σ) [.ref (ad 0), .int p1] (qI D 405 ad (bE g T ad) (pXI (f_X8_settle σ p1) InvB)) (qX D 405 ad (bE g T ad) (pXX (f_X8_settle σ p1) InvB)) := by
  refine mT.of (own := "NestedBells") (by decide +kernel) (Nat.le_of_ble_eq_true rfl) rfl ?_
  intro p e s m below meth c A ls H locs Z hT hr hlk ht hw hl
  have hx := Z.1.1
  have hb := Z.1.2.1
  have hl : lv_has ls 2 [(0, .ref (ad 0)), (1, .int p1)] := hl
  refine lv_iload_n hx hb dX8_settle_0 rfl (lv_at hl 1 rfl) ?_
  refine lv_iconst (v := (-1)) hx hb dX8_settle_1 (by decide +kernel) ?_
  refine lv_icmp_ne (tgt := 15) hx hb dX8_settle_2 (by decide) (fun c2 => ?_) (fun c2 => ?_)
  · refine lv_iload_n hx hb dX8_settle_15 rfl (lv_at hl 1 rfl) ?_
    refine lv_bipush (v := (-2)) hx hb dX8_settle_16 (by decide +kernel) ?_
    refine lv_icmp_ne (tgt := 31) hx hb dX8_settle_18 (by decide) (fun c18 => ?_) (fun c18 => ?_)
    · refine lv_iload_n hx hb dX8_settle_31 rfl (lv_at hl 1 rfl) ?_
      refine lv_bipush (v := (-3)) hx hb dX8_settle_32 (by decide +kernel) ?_
      refine lv_icmp_ne (tgt := 47) hx hb dX8_settle_34 (by decide) (fun c34 => ?_) (fun c34 => ?_)
      · refine lv_aload_n hx hb dX8_settle_47 rfl (lv_at hl 0 rfl) ?_
        refine gO (C := "NestedBells") (TC := TX8) (NF := 5) (ci := 6) (j := 2) (v := .ref (ad 1)) Z hw (0) (by decide) rfl (fun _ => rfl) rfl iX8 (by decide) q_2_20 rfl rfl dX8_settle_48 ?_
        refine bk_v (rnV (rest := []) Z hw (k_X4_keep  I0) v_X4_keep q_3_69 (1) (by decide) rfl rfl rfl rfl hl.1 rfl rfl (Nat.le_of_ble_eq_true rfl) ⟨(Nat.le_of_ble_eq_true rfl), (Nat.le_of_ble_eq_true rfl)⟩ ⟨(Nat.le_of_ble_eq_true rfl), (Nat.le_of_ble_eq_true rfl)⟩ dX8_settle_51) hw Z (fun s51 H locs hp hw => ?_)
        obtain ⟨es51, I51⟩ := hp
        refine lv_iload_n hx hb dX8_settle_54 rfl (lv_at hl 1 rfl) ?_
        exact vx_ret (W.widen (Nat.le_of_ble_eq_true rfl) (Nat.le_of_ble_eq_true rfl) (rt_i Z hr hlk hw dX8_settle_55 ⟨Eq.symm (by subst es51; exact (lf_f c2 (lf_f c18 (lf_f c34 rfl)))), I51⟩))
      · exact th_row (k := 3) (σ := σ) Z hw hT hfl thw3 (by decide +kernel) Z.2.2.2.1.2.2.2.2.2.2 hl.1 hlk ht dX8_settle_37 dX8_settle_40 dX8_settle_41 dX8_settle_43 dX8_settle_46 ⟨by decide, Eq.symm (lf_f c2 (lf_f c18 (lf_t c34 rfl))), I0⟩ (Nat.le_of_ble_eq_true rfl) (Nat.le_of_ble_eq_true rfl) (Nat.le_of_ble_eq_true rfl) (Nat.le_of_ble_eq_true rfl) (Nat.le_of_ble_eq_true rfl) (Nat.le_of_ble_eq_true rfl)
    · exact th_row (k := 2) (σ := σ) Z hw hT hfl thw2 (by decide +kernel) Z.2.2.2.1.2.2.2.2.2.1 hl.1 hlk ht dX8_settle_21 dX8_settle_24 dX8_settle_25 dX8_settle_27 dX8_settle_30 ⟨by decide, Eq.symm (lf_f c2 (lf_t c18 rfl)), I0⟩ (Nat.le_of_ble_eq_true rfl) (Nat.le_of_ble_eq_true rfl) (Nat.le_of_ble_eq_true rfl) (Nat.le_of_ble_eq_true rfl) (Nat.le_of_ble_eq_true rfl) (Nat.le_of_ble_eq_true rfl)
  · exact th_row (k := 1) (σ := σ) Z hw hT hfl thw1 (by decide +kernel) Z.2.2.2.1.2.2.2.2.1 hl.1 hlk ht dX8_settle_5 dX8_settle_8 dX8_settle_9 dX8_settle_11 dX8_settle_14 ⟨by decide, Eq.symm (lf_t c2 rfl), I0⟩ (Nat.le_of_ble_eq_true rfl) (Nat.le_of_ble_eq_true rfl) (Nat.le_of_ble_eq_true rfl) (Nat.le_of_ble_eq_true rfl) (Nat.le_of_ble_eq_true rfl) (Nat.le_of_ble_eq_true rfl)
abbrev rmX8_addSource : Room := { frames := 7, cells := 1, slots := 6, locals := 104 }
def f_X8_addSource (σ : St) (p1 : Int32) (p2 : Int32) (p3 : Int32) : Nat × Int32 × St := (let s8 := f_X4_prepare σ; (let r19 := (f_X5_makeSource (sb (gmM 0) s8) p1 p2 p3).1; let u19 : St := (f_X5_makeSource (sb (gmM 0) s8) p1 p2 p3).2; f_X8_settle (mg (giM 0) s8 u19) r19))
theorem v_X8_addSource : cvV yX8_addSource "NestedBells" cX8_addSource 4 (some (.int)) 3 := ⟨q_3_125, q_3_126, q_1_1, q_3_127, rfl, by decide +kernel, by decide +kernel, by decide +kernel⟩
set_option maxHeartbeats 4000000 in
set_option maxRecDepth 100000 in
theorem k_X8_addSource {l : Launch} {D : va_G} {T : Nat → ClassId} {g ad : Nat → Nat} (hfl : l.stackTraces = false) {σ : St} {p1 : Int32} {p2 : Int32} {p3 : Int32} (I0 : InvB σ) : mT l yX8_addSource cX8_addSource 4 (some (.int)) rmX8_addSource D T g 405 ad (cE (bE g T ad) σ) [.ref (ad 0), .int p1, .int p2, .int p3] (qI D 405 ad (bE g T ad) (pXI (f_X8_addSource σ p1 p2 p3) InvB)) (qX D 405 ad (bE g T ad) (pXX (f_X8_addSource σ p1 p2 p3) InvB)) := by
  refine mT.of (own := "NestedBells") (by decide +kernel) (Nat.le_of_ble_eq_true rfl) rfl ?_
  intro p e s m below meth c A ls H locs Z hT hr hlk ht hw hl
  have hx := Z.1.1
  have hb := Z.1.2.1
  have hl : lv_has ls 4 [(0, .ref (ad 0)), (1, .int p1), (2, .int p2), (3, .int p3)] := hl
  refine lv_aload_n hx hb dX8_addSource_0 rfl (lv_at hl 0 rfl) ?_
  refine gO (C := "NestedBells") (TC := TX8) (NF := 5) (ci := 6) (j := 2) (v := .ref (ad 1)) Z hw (0) (by decide) rfl (fun _ => rfl) rfl iX8 (by decide) q_2_20 rfl rfl dX8_addSource_1 ?_
  refine lv_aload_n hx hb dX8_addSource_4 rfl (lv_at hl 0 rfl) ?_
  refine gO (C := "NestedBells") (TC := TX8) (NF := 5) (ci := 6) (j := 0) (v := .ref (ad 6)) Z hw (0) (by decide) rfl (fun _ => rfl) rfl iX8 (by decide) q_2_18 rfl rfl dX8_addSource_5 ?_
  refine bk_v (rnV (rest := []) Z hw (k_X4_prepare  I0) v_X4_prepare q_2_132 (1) (by decide) rfl rfl rfl rfl hl.1 rfl rfl (Nat.le_of_ble_eq_true rfl) ⟨(Nat.le_of_ble_eq_true rfl), (Nat.le_of_ble_eq_true rfl)⟩ ⟨(Nat.le_of_ble_eq_true rfl), (Nat.le_of_ble_eq_true rfl)⟩ dX8_addSource_8) hw Z (fun s8 H locs hp hw => ?_)
  obtain ⟨es8, I8⟩ := hp
  refine lv_aload_n hx hb dX8_addSource_11 rfl (lv_at hl 0 rfl) ?_
  refine lv_aload_n hx hb dX8_addSource_12 rfl (lv_at hl 0 rfl) ?_
  refine gO (C := "NestedBells") (TC := TX8) (NF := 5) (ci := 6) (j := 0) (v := .ref (ad 6)) Z hw (0) (by decide) rfl (fun _ => rfl) rfl iX8 (by decide) q_2_18 rfl rfl dX8_addSource_13 ?_
  refine lv_iload_n hx hb dX8_addSource_16 rfl (lv_at hl 1 rfl) ?_
  refine lv_iload_n hx hb dX8_addSource_17 rfl (lv_at hl 2 rfl) ?_
  refine lv_iload_n hx hb dX8_addSource_18 rfl (lv_at hl 3 rfl) ?_
  refine bs_i (prtM (g := g) (T := T) (ad := ad) (q := 0) (by decide)) (rnV (rest := [.ref (ad 0)]) Z ((prtM (g := g) (T := T) (ad := ad) (q := 0) (by decide)).sub hw) (k_X5_makeSource (p1 := p1) (p2 := p2) (p3 := p3) (I8.2.2.2 0 (by decide))) v_X5_makeSource q_2_170 0 (by decide) rfl rfl rfl rfl hl.1 rfl rfl (Nat.le_of_ble_eq_true rfl) ⟨(Nat.le_of_ble_eq_true rfl), (Nat.le_of_ble_eq_true rfl)⟩ ⟨(Nat.le_of_ble_eq_true rfl), (Nat.le_of_ble_eq_true rfl)⟩ dX8_addSource_19) hw Z (fun r19 u19 H locs hp hw => ?_)
  obtain ⟨er19, es19, I19⟩ := hp
  refine bx_i (rxV (rest := []) Z hw hT (k_X8_settle hfl (p1 := r19) (InvB.mach (q := 0) (by decide) I19 I8)) v_X8_settle q_3_128 0 (by decide) rfl rfl rfl rfl hl.1 rfl rfl (Nat.le_of_ble_eq_true rfl) ⟨(Nat.le_of_ble_eq_true rfl), (Nat.le_of_ble_eq_true rfl)⟩ ⟨(Nat.le_of_ble_eq_true rfl), (Nat.le_of_ble_eq_true rfl)⟩ dX8_addSource_22) hw Z hlk ht (fun k22 u22 hp22 => ?_) (Nat.le_of_ble_eq_true rfl) (Nat.le_of_ble_eq_true rfl) (fun r22 u22 H locs hp22 hw => ?_)
  · exact ⟨hp22.1, (Eq.symm (show f_X8_settle (mg (giM 0) s8 u19) r19 = (f_X8_addSource σ p1 p2 p3) from (by subst es19 er19 es8; exact rfl))).trans hp22.2.1, hp22.2.2⟩
  · exact vx_ret (W.widen (Nat.le_of_ble_eq_true rfl) (Nat.le_of_ble_eq_true rfl) (rt_i Z hr hlk hw dX8_addSource_25 ⟨(Eq.symm (show f_X8_settle (mg (giM 0) s8 u19) r19 = (f_X8_addSource σ p1 p2 p3) from (by subst es19 er19 es8; exact rfl))).trans hp22.1, hp22.2⟩))
abbrev rmX8_setSource : Room := { frames := 7, cells := 1, slots := 6, locals := 104 }
def f_X8_setSource (σ : St) (p1 : Int32) (p2 : Int32) (p3 : Int32) : Nat × Int32 × St := (let s8 := f_X4_prepare σ; (let r19 := (f_X5_changeSource (sb (gmM 0) s8) p1 p2 p3).1; let u19 : St := (f_X5_changeSource (sb (gmM 0) s8) p1 p2 p3).2; f_X8_settle (mg (giM 0) s8 u19) r19))
theorem v_X8_setSource : cvV yX8_setSource "NestedBells" cX8_setSource 4 (some (.int)) 3 := ⟨q_3_236, q_3_237, q_1_1, q_3_238, rfl, by decide +kernel, by decide +kernel, by decide +kernel⟩
set_option maxHeartbeats 4000000 in
set_option maxRecDepth 100000 in
theorem k_X8_setSource {l : Launch} {D : va_G} {T : Nat → ClassId} {g ad : Nat → Nat} (hfl : l.stackTraces = false) {σ : St} {p1 : Int32} {p2 : Int32} {p3 : Int32} (I0 : InvB σ) : mT l yX8_setSource cX8_setSource 4 (some (.int)) rmX8_setSource D T g 405 ad (cE (bE g T ad) σ) [.ref (ad 0), .int p1, .int p2, .int p3] (qI D 405 ad (bE g T ad) (pXI (f_X8_setSource σ p1 p2 p3) InvB)) (qX D 405 ad (bE g T ad) (pXX (f_X8_setSource σ p1 p2 p3) InvB)) := by
  refine mT.of (own := "NestedBells") (by decide +kernel) (Nat.le_of_ble_eq_true rfl) rfl ?_
  intro p e s m below meth c A ls H locs Z hT hr hlk ht hw hl
  have hx := Z.1.1
  have hb := Z.1.2.1
  have hl : lv_has ls 4 [(0, .ref (ad 0)), (1, .int p1), (2, .int p2), (3, .int p3)] := hl
  refine lv_aload_n hx hb dX8_setSource_0 rfl (lv_at hl 0 rfl) ?_
  refine gO (C := "NestedBells") (TC := TX8) (NF := 5) (ci := 6) (j := 2) (v := .ref (ad 1)) Z hw (0) (by decide) rfl (fun _ => rfl) rfl iX8 (by decide) q_2_20 rfl rfl dX8_setSource_1 ?_
  refine lv_aload_n hx hb dX8_setSource_4 rfl (lv_at hl 0 rfl) ?_
  refine gO (C := "NestedBells") (TC := TX8) (NF := 5) (ci := 6) (j := 0) (v := .ref (ad 6)) Z hw (0) (by decide) rfl (fun _ => rfl) rfl iX8 (by decide) q_2_18 rfl rfl dX8_setSource_5 ?_
  refine bk_v (rnV (rest := []) Z hw (k_X4_prepare  I0) v_X4_prepare q_2_132 (1) (by decide) rfl rfl rfl rfl hl.1 rfl rfl (Nat.le_of_ble_eq_true rfl) ⟨(Nat.le_of_ble_eq_true rfl), (Nat.le_of_ble_eq_true rfl)⟩ ⟨(Nat.le_of_ble_eq_true rfl), (Nat.le_of_ble_eq_true rfl)⟩ dX8_setSource_8) hw Z (fun s8 H locs hp hw => ?_)
  obtain ⟨es8, I8⟩ := hp
  refine lv_aload_n hx hb dX8_setSource_11 rfl (lv_at hl 0 rfl) ?_
  refine lv_aload_n hx hb dX8_setSource_12 rfl (lv_at hl 0 rfl) ?_
  refine gO (C := "NestedBells") (TC := TX8) (NF := 5) (ci := 6) (j := 0) (v := .ref (ad 6)) Z hw (0) (by decide) rfl (fun _ => rfl) rfl iX8 (by decide) q_2_18 rfl rfl dX8_setSource_13 ?_
  refine lv_iload_n hx hb dX8_setSource_16 rfl (lv_at hl 1 rfl) ?_
  refine lv_iload_n hx hb dX8_setSource_17 rfl (lv_at hl 2 rfl) ?_
  refine lv_iload_n hx hb dX8_setSource_18 rfl (lv_at hl 3 rfl) ?_
  refine bs_i (prtM (g := g) (T := T) (ad := ad) (q := 0) (by decide)) (rnV (rest := [.ref (ad 0)]) Z ((prtM (g := g) (T := T) (ad := ad) (q := 0) (by decide)).sub hw) (k_X5_changeSource (p1 := p1) (p2 := p2) (p3 := p3) (I8.2.2.2 0 (by decide))) v_X5_changeSource q_3_239 0 (by decide) rfl rfl rfl rfl hl.1 rfl rfl (Nat.le_of_ble_eq_true rfl) ⟨(Nat.le_of_ble_eq_true rfl), (Nat.le_of_ble_eq_true rfl)⟩ ⟨(Nat.le_of_ble_eq_true rfl), (Nat.le_of_ble_eq_true rfl)⟩ dX8_setSource_19) hw Z (fun r19 u19 H locs hp hw => ?_)
  obtain ⟨er19, es19, I19⟩ := hp
  refine bx_i (rxV (rest := []) Z hw hT (k_X8_settle hfl (p1 := r19) (InvB.mach (q := 0) (by decide) I19 I8)) v_X8_settle q_3_128 0 (by decide) rfl rfl rfl rfl hl.1 rfl rfl (Nat.le_of_ble_eq_true rfl) ⟨(Nat.le_of_ble_eq_true rfl), (Nat.le_of_ble_eq_true rfl)⟩ ⟨(Nat.le_of_ble_eq_true rfl), (Nat.le_of_ble_eq_true rfl)⟩ dX8_setSource_22) hw Z hlk ht (fun k22 u22 hp22 => ?_) (Nat.le_of_ble_eq_true rfl) (Nat.le_of_ble_eq_true rfl) (fun r22 u22 H locs hp22 hw => ?_)
  · exact ⟨hp22.1, (Eq.symm (show f_X8_settle (mg (giM 0) s8 u19) r19 = (f_X8_setSource σ p1 p2 p3) from (by subst es19 er19 es8; exact rfl))).trans hp22.2.1, hp22.2.2⟩
  · exact vx_ret (W.widen (Nat.le_of_ble_eq_true rfl) (Nat.le_of_ble_eq_true rfl) (rt_i Z hr hlk hw dX8_setSource_25 ⟨(Eq.symm (show f_X8_settle (mg (giM 0) s8 u19) r19 = (f_X8_setSource σ p1 p2 p3) from (by subst es19 er19 es8; exact rfl))).trans hp22.1, hp22.2⟩))
abbrev rmX8_addSection : Room := { frames := 7, cells := 1, slots := 6, locals := 104 }
def f_X8_addSection (σ : St) (p1 : Int32) (p2 : Int32) (p3 : Int32) (p4 : Int32) : Nat × Int32 × St := (let s8 := f_X4_prepare σ; (let r21 := (f_X5_makeSection (sb (gmM 0) s8) p1 p2 p3 p4).1; let u21 : St := (f_X5_makeSection (sb (gmM 0) s8) p1 p2 p3 p4).2; f_X8_settle (mg (giM 0) s8 u21) r21))
theorem v_X8_addSection : cvV yX8_addSection "NestedBells" cX8_addSection 5 (some (.int)) 4 := ⟨q_4_19, q_4_20, q_1_1, q_4_21, rfl, by decide +kernel, by decide +kernel, by decide +kernel⟩
set_option maxHeartbeats 4000000 in
set_option maxRecDepth 100000 in
theorem k_X8_addSection {l : Launch} {D : va_G} {T : Nat → ClassId} {g ad : Nat → Nat} (hfl : l.stackTraces = false) {σ : St} {p1 : Int32} {p2 : Int32} {p3 : Int32} {p4 : Int32} (I0 : InvB σ) : mT l yX8_addSection cX8_addSection 5 (some (.int)) rmX8_addSection D T g 405 ad (cE (bE g T ad) σ) [.ref (ad 0), .int p1, .int p2, .int p3, .int p4] (qI D 405 ad (bE g T ad) (pXI (f_X8_addSection σ p1 p2 p3 p4) InvB)) (qX D 405 ad (bE g T ad) (pXX (f_X8_addSection σ p1 p2 p3 p4) InvB)) := by
  refine mT.of (own := "NestedBells") (by decide +kernel) (Nat.le_of_ble_eq_true rfl) rfl ?_
  intro p e s m below meth c A ls H locs Z hT hr hlk ht hw hl
  have hx := Z.1.1
  have hb := Z.1.2.1
  have hl : lv_has ls 5 [(0, .ref (ad 0)), (1, .int p1), (2, .int p2), (3, .int p3), (4, .int p4)] := hl
  refine lv_aload_n hx hb dX8_addSection_0 rfl (lv_at hl 0 rfl) ?_
  refine gO (C := "NestedBells") (TC := TX8) (NF := 5) (ci := 6) (j := 2) (v := .ref (ad 1)) Z hw (0) (by decide) rfl (fun _ => rfl) rfl iX8 (by decide) q_2_20 rfl rfl dX8_addSection_1 ?_
  refine lv_aload_n hx hb dX8_addSection_4 rfl (lv_at hl 0 rfl) ?_
  refine gO (C := "NestedBells") (TC := TX8) (NF := 5) (ci := 6) (j := 0) (v := .ref (ad 6)) Z hw (0) (by decide) rfl (fun _ => rfl) rfl iX8 (by decide) q_2_18 rfl rfl dX8_addSection_5 ?_
  refine bk_v (rnV (rest := []) Z hw (k_X4_prepare  I0) v_X4_prepare q_2_132 (1) (by decide) rfl rfl rfl rfl hl.1 rfl rfl (Nat.le_of_ble_eq_true rfl) ⟨(Nat.le_of_ble_eq_true rfl), (Nat.le_of_ble_eq_true rfl)⟩ ⟨(Nat.le_of_ble_eq_true rfl), (Nat.le_of_ble_eq_true rfl)⟩ dX8_addSection_8) hw Z (fun s8 H locs hp hw => ?_)
  obtain ⟨es8, I8⟩ := hp
  refine lv_aload_n hx hb dX8_addSection_11 rfl (lv_at hl 0 rfl) ?_
  refine lv_aload_n hx hb dX8_addSection_12 rfl (lv_at hl 0 rfl) ?_
  refine gO (C := "NestedBells") (TC := TX8) (NF := 5) (ci := 6) (j := 0) (v := .ref (ad 6)) Z hw (0) (by decide) rfl (fun _ => rfl) rfl iX8 (by decide) q_2_18 rfl rfl dX8_addSection_13 ?_
  refine lv_iload_n hx hb dX8_addSection_16 rfl (lv_at hl 1 rfl) ?_
  refine lv_iload_n hx hb dX8_addSection_17 rfl (lv_at hl 2 rfl) ?_
  refine lv_iload_n hx hb dX8_addSection_18 rfl (lv_at hl 3 rfl) ?_
  refine lv_iload hx hb dX8_addSection_19 (lv_at hl 4 rfl) ?_
  refine bs_i (prtM (g := g) (T := T) (ad := ad) (q := 0) (by decide)) (rnV (rest := [.ref (ad 0)]) Z ((prtM (g := g) (T := T) (ad := ad) (q := 0) (by decide)).sub hw) (k_X5_makeSection (p1 := p1) (p2 := p2) (p3 := p3) (p4 := p4) (I8.2.2.2 0 (by decide))) v_X5_makeSection q_2_177 0 (by decide) rfl rfl rfl rfl hl.1 rfl rfl (Nat.le_of_ble_eq_true rfl) ⟨(Nat.le_of_ble_eq_true rfl), (Nat.le_of_ble_eq_true rfl)⟩ ⟨(Nat.le_of_ble_eq_true rfl), (Nat.le_of_ble_eq_true rfl)⟩ dX8_addSection_21) hw Z (fun r21 u21 H locs hp hw => ?_)
  obtain ⟨er21, es21, I21⟩ := hp
  refine bx_i (rxV (rest := []) Z hw hT (k_X8_settle hfl (p1 := r21) (InvB.mach (q := 0) (by decide) I21 I8)) v_X8_settle q_3_128 0 (by decide) rfl rfl rfl rfl hl.1 rfl rfl (Nat.le_of_ble_eq_true rfl) ⟨(Nat.le_of_ble_eq_true rfl), (Nat.le_of_ble_eq_true rfl)⟩ ⟨(Nat.le_of_ble_eq_true rfl), (Nat.le_of_ble_eq_true rfl)⟩ dX8_addSection_24) hw Z hlk ht (fun k24 u24 hp24 => ?_) (Nat.le_of_ble_eq_true rfl) (Nat.le_of_ble_eq_true rfl) (fun r24 u24 H locs hp24 hw => ?_)
  · exact ⟨hp24.1, (Eq.symm (show f_X8_settle (mg (giM 0) s8 u21) r21 = (f_X8_addSection σ p1 p2 p3 p4) from (by subst es21 er21 es8; exact rfl))).trans hp24.2.1, hp24.2.2⟩
  · exact vx_ret (W.widen (Nat.le_of_ble_eq_true rfl) (Nat.le_of_ble_eq_true rfl) (rt_i Z hr hlk hw dX8_addSection_27 ⟨(Eq.symm (show f_X8_settle (mg (giM 0) s8 u21) r21 = (f_X8_addSection σ p1 p2 p3 p4) from (by subst es21 er21 es8; exact rfl))).trans hp24.1, hp24.2⟩))
abbrev rmX8_clearSections : Room := { frames := 7, cells := 1, slots := 6, locals := 104 }
def f_X8_clearSections (σ : St) (p1 : Int32) : Nat × Int32 × St := (let s8 := f_X4_prepare σ; (let r17 := (f_X5_dropSections (sb (gmM 0) s8) p1).1; let u17 : St := (f_X5_dropSections (sb (gmM 0) s8) p1).2; f_X8_settle (mg (giM 0) s8 u17) r17))
theorem v_X8_clearSections : cvV yX8_clearSections "NestedBells" cX8_clearSections 2 (some (.int)) 1 := ⟨q_4_26, q_4_27, q_1_1, q_4_28, rfl, by decide +kernel, by decide +kernel, by decide +kernel⟩
set_option maxHeartbeats 4000000 in
set_option maxRecDepth 100000 in
theorem k_X8_clearSections {l : Launch} {D : va_G} {T : Nat → ClassId} {g ad : Nat → Nat} (hfl : l.stackTraces = false) {σ : St} {p1 : Int32} (I0 : InvB σ) : mT l yX8_clearSections cX8_clearSections 2 (some (.int)) rmX8_clearSections D T g 405 ad (cE (bE g T ad) σ) [.ref (ad 0), .int p1] (qI D 405 ad (bE g T ad) (pXI (f_X8_clearSections σ p1) InvB)) (qX D 405 ad (bE g T ad) (pXX (f_X8_clearSections σ p1) InvB)) := by
  refine mT.of (own := "NestedBells") (by decide +kernel) (Nat.le_of_ble_eq_true rfl) rfl ?_
  intro p e s m below meth c A ls H locs Z hT hr hlk ht hw hl
  have hx := Z.1.1
  have hb := Z.1.2.1
  have hl : lv_has ls 2 [(0, .ref (ad 0)), (1, .int p1)] := hl
  refine lv_aload_n hx hb dX8_clearSections_0 rfl (lv_at hl 0 rfl) ?_
  refine gO (C := "NestedBells") (TC := TX8) (NF := 5) (ci := 6) (j := 2) (v := .ref (ad 1)) Z hw (0) (by decide) rfl (fun _ => rfl) rfl iX8 (by decide) q_2_20 rfl rfl dX8_clearSections_1 ?_
  refine lv_aload_n hx hb dX8_clearSections_4 rfl (lv_at hl 0 rfl) ?_
  refine gO (C := "NestedBells") (TC := TX8) (NF := 5) (ci := 6) (j := 0) (v := .ref (ad 6)) Z hw (0) (by decide) rfl (fun _ => rfl) rfl iX8 (by decide) q_2_18 rfl rfl dX8_clearSections_5 ?_
  refine bk_v (rnV (rest := []) Z hw (k_X4_prepare  I0) v_X4_prepare q_2_132 (1) (by decide) rfl rfl rfl rfl hl.1 rfl rfl (Nat.le_of_ble_eq_true rfl) ⟨(Nat.le_of_ble_eq_true rfl), (Nat.le_of_ble_eq_true rfl)⟩ ⟨(Nat.le_of_ble_eq_true rfl), (Nat.le_of_ble_eq_true rfl)⟩ dX8_clearSections_8) hw Z (fun s8 H locs hp hw => ?_)
  obtain ⟨es8, I8⟩ := hp
  refine lv_aload_n hx hb dX8_clearSections_11 rfl (lv_at hl 0 rfl) ?_
  refine lv_aload_n hx hb dX8_clearSections_12 rfl (lv_at hl 0 rfl) ?_
  refine gO (C := "NestedBells") (TC := TX8) (NF := 5) (ci := 6) (j := 0) (v := .ref (ad 6)) Z hw (0) (by decide) rfl (fun _ => rfl) rfl iX8 (by decide) q_2_18 rfl rfl dX8_clearSections_13 ?_
  refine lv_iload_n hx hb dX8_clearSections_16 rfl (lv_at hl 1 rfl) ?_
  refine bs_i (prtM (g := g) (T := T) (ad := ad) (q := 0) (by decide)) (rnV (rest := [.ref (ad 0)]) Z ((prtM (g := g) (T := T) (ad := ad) (q := 0) (by decide)).sub hw) (k_X5_dropSections (p1 := p1) (I8.2.2.2 0 (by decide))) v_X5_dropSections q_4_29 0 (by decide) rfl rfl rfl rfl hl.1 rfl rfl (Nat.le_of_ble_eq_true rfl) ⟨(Nat.le_of_ble_eq_true rfl), (Nat.le_of_ble_eq_true rfl)⟩ ⟨(Nat.le_of_ble_eq_true rfl), (Nat.le_of_ble_eq_true rfl)⟩ dX8_clearSections_17) hw Z (fun r17 u17 H locs hp hw => ?_)
  obtain ⟨er17, es17, I17⟩ := hp
  refine bx_i (rxV (rest := []) Z hw hT (k_X8_settle hfl (p1 := r17) (InvB.mach (q := 0) (by decide) I17 I8)) v_X8_settle q_3_128 0 (by decide) rfl rfl rfl rfl hl.1 rfl rfl (Nat.le_of_ble_eq_true rfl) ⟨(Nat.le_of_ble_eq_true rfl), (Nat.le_of_ble_eq_true rfl)⟩ ⟨(Nat.le_of_ble_eq_true rfl), (Nat.le_of_ble_eq_true rfl)⟩ dX8_clearSections_20) hw Z hlk ht (fun k20 u20 hp20 => ?_) (Nat.le_of_ble_eq_true rfl) (Nat.le_of_ble_eq_true rfl) (fun r20 u20 H locs hp20 hw => ?_)
  · exact ⟨hp20.1, (Eq.symm (show f_X8_settle (mg (giM 0) s8 u17) r17 = (f_X8_clearSections σ p1) from (by subst es17 er17 es8; exact rfl))).trans hp20.2.1, hp20.2.2⟩
  · exact vx_ret (W.widen (Nat.le_of_ble_eq_true rfl) (Nat.le_of_ble_eq_true rfl) (rt_i Z hr hlk hw dX8_clearSections_23 ⟨(Eq.symm (show f_X8_settle (mg (giM 0) s8 u17) r17 = (f_X8_clearSections σ p1) from (by subst es17 er17 es8; exact rfl))).trans hp20.1, hp20.2⟩))
abbrev rmX8_setTimer : Room := { frames := 7, cells := 1, slots := 6, locals := 104 }
def f_X8_setTimer (σ : St) (p1 : Int32) (p2 : Int32) (p3 : Int32) : Nat × Int32 × St := (let s8 := f_X4_prepare σ; (let r19 := (f_X5_changeTimer (sb (gmM 0) s8) p1 p2 p3).1; let u19 : St := (f_X5_changeTimer (sb (gmM 0) s8) p1 p2 p3).2; f_X8_settle (mg (giM 0) s8 u19) r19))
theorem v_X8_setTimer : cvV yX8_setTimer "NestedBells" cX8_setTimer 4 (some (.int)) 3 := ⟨q_4_37, q_4_38, q_1_1, q_4_39, rfl, by decide +kernel, by decide +kernel, by decide +kernel⟩
set_option maxHeartbeats 4000000 in
set_option maxRecDepth 100000 in
theorem k_X8_setTimer {l : Launch} {D : va_G} {T : Nat → ClassId} {g ad : Nat → Nat} (hfl : l.stackTraces = false) {σ : St} {p1 : Int32} {p2 : Int32} {p3 : Int32} (I0 : InvB σ) : mT l yX8_setTimer cX8_setTimer 4 (some (.int)) rmX8_setTimer D T g 405 ad (cE (bE g T ad) σ) [.ref (ad 0), .int p1, .int p2, .int p3] (qI D 405 ad (bE g T ad) (pXI (f_X8_setTimer σ p1 p2 p3) InvB)) (qX D 405 ad (bE g T ad) (pXX (f_X8_setTimer σ p1 p2 p3) InvB)) := by
  refine mT.of (own := "NestedBells") (by decide +kernel) (Nat.le_of_ble_eq_true rfl) rfl ?_
  intro p e s m below meth c A ls H locs Z hT hr hlk ht hw hl
  have hx := Z.1.1
  have hb := Z.1.2.1
  have hl : lv_has ls 4 [(0, .ref (ad 0)), (1, .int p1), (2, .int p2), (3, .int p3)] := hl
  refine lv_aload_n hx hb dX8_setTimer_0 rfl (lv_at hl 0 rfl) ?_
  refine gO (C := "NestedBells") (TC := TX8) (NF := 5) (ci := 6) (j := 2) (v := .ref (ad 1)) Z hw (0) (by decide) rfl (fun _ => rfl) rfl iX8 (by decide) q_2_20 rfl rfl dX8_setTimer_1 ?_
  refine lv_aload_n hx hb dX8_setTimer_4 rfl (lv_at hl 0 rfl) ?_
  refine gO (C := "NestedBells") (TC := TX8) (NF := 5) (ci := 6) (j := 0) (v := .ref (ad 6)) Z hw (0) (by decide) rfl (fun _ => rfl) rfl iX8 (by decide) q_2_18 rfl rfl dX8_setTimer_5 ?_
  refine bk_v (rnV (rest := []) Z hw (k_X4_prepare  I0) v_X4_prepare q_2_132 (1) (by decide) rfl rfl rfl rfl hl.1 rfl rfl (Nat.le_of_ble_eq_true rfl) ⟨(Nat.le_of_ble_eq_true rfl), (Nat.le_of_ble_eq_true rfl)⟩ ⟨(Nat.le_of_ble_eq_true rfl), (Nat.le_of_ble_eq_true rfl)⟩ dX8_setTimer_8) hw Z (fun s8 H locs hp hw => ?_)
  obtain ⟨es8, I8⟩ := hp
  refine lv_aload_n hx hb dX8_setTimer_11 rfl (lv_at hl 0 rfl) ?_
  refine lv_aload_n hx hb dX8_setTimer_12 rfl (lv_at hl 0 rfl) ?_
  refine gO (C := "NestedBells") (TC := TX8) (NF := 5) (ci := 6) (j := 0) (v := .ref (ad 6)) Z hw (0) (by decide) rfl (fun _ => rfl) rfl iX8 (by decide) q_2_18 rfl rfl dX8_setTimer_13 ?_
  refine lv_iload_n hx hb dX8_setTimer_16 rfl (lv_at hl 1 rfl) ?_
  refine lv_iload_n hx hb dX8_setTimer_17 rfl (lv_at hl 2 rfl) ?_
  refine lv_iload_n hx hb dX8_setTimer_18 rfl (lv_at hl 3 rfl) ?_
  refine bs_i (prtM (g := g) (T := T) (ad := ad) (q := 0) (by decide)) (rnV (rest := [.ref (ad 0)]) Z ((prtM (g := g) (T := T) (ad := ad) (q := 0) (by decide)).sub hw) (k_X5_changeTimer (p1 := p1) (p2 := p2) (p3 := p3) (I8.2.2.2 0 (by decide))) v_X5_changeTimer q_2_189 0 (by decide) rfl rfl rfl rfl hl.1 rfl rfl (Nat.le_of_ble_eq_true rfl) ⟨(Nat.le_of_ble_eq_true rfl), (Nat.le_of_ble_eq_true rfl)⟩ ⟨(Nat.le_of_ble_eq_true rfl), (Nat.le_of_ble_eq_true rfl)⟩ dX8_setTimer_19) hw Z (fun r19 u19 H locs hp hw => ?_)
  obtain ⟨er19, es19, I19⟩ := hp
  refine bx_i (rxV (rest := []) Z hw hT (k_X8_settle hfl (p1 := r19) (InvB.mach (q := 0) (by decide) I19 I8)) v_X8_settle q_3_128 0 (by decide) rfl rfl rfl rfl hl.1 rfl rfl (Nat.le_of_ble_eq_true rfl) ⟨(Nat.le_of_ble_eq_true rfl), (Nat.le_of_ble_eq_true rfl)⟩ ⟨(Nat.le_of_ble_eq_true rfl), (Nat.le_of_ble_eq_true rfl)⟩ dX8_setTimer_22) hw Z hlk ht (fun k22 u22 hp22 => ?_) (Nat.le_of_ble_eq_true rfl) (Nat.le_of_ble_eq_true rfl) (fun r22 u22 H locs hp22 hw => ?_)
  · exact ⟨hp22.1, (Eq.symm (show f_X8_settle (mg (giM 0) s8 u19) r19 = (f_X8_setTimer σ p1 p2 p3) from (by subst es19 er19 es8; exact rfl))).trans hp22.2.1, hp22.2.2⟩
  · exact vx_ret (W.widen (Nat.le_of_ble_eq_true rfl) (Nat.le_of_ble_eq_true rfl) (rt_i Z hr hlk hw dX8_setTimer_25 ⟨(Eq.symm (show f_X8_settle (mg (giM 0) s8 u19) r19 = (f_X8_setTimer σ p1 p2 p3) from (by subst es19 er19 es8; exact rfl))).trans hp22.1, hp22.2⟩))
abbrev rmX8_raise : Room := { frames := 7, cells := 1, slots := 6, locals := 104 }
def f_X8_raise (σ : St) (p1 : Int32) : Nat × Int32 × St := (let s8 := f_X4_prepare σ; (let r17 := (f_X5_raiseSource (sb (gmM 0) s8) p1).1; let u17 : St := (f_X5_raiseSource (sb (gmM 0) s8) p1).2; f_X8_settle (mg (giM 0) s8 u17) r17))
theorem v_X8_raise : cvV yX8_raise "NestedBells" cX8_raise 2 (some (.int)) 1 := ⟨q_4_44, q_4_45, q_1_1, q_4_46, rfl, by decide +kernel, by decide +kernel, by decide +kernel⟩
set_option maxHeartbeats 4000000 in
set_option maxRecDepth 100000 in
theorem k_X8_raise {l : Launch} {D : va_G} {T : Nat → ClassId} {g ad : Nat → Nat} (hfl : l.stackTraces = false) {σ : St} {p1 : Int32} (I0 : InvB σ) : mT l yX8_raise cX8_raise 2 (some (.int)) rmX8_raise D T g 405 ad (cE (bE g T ad) σ) [.ref (ad 0), .int p1] (qI D 405 ad (bE g T ad) (pXI (f_X8_raise σ p1) InvB)) (qX D 405 ad (bE g T ad) (pXX (f_X8_raise σ p1) InvB)) := by
  refine mT.of (own := "NestedBells") (by decide +kernel) (Nat.le_of_ble_eq_true rfl) rfl ?_
  intro p e s m below meth c A ls H locs Z hT hr hlk ht hw hl
  have hx := Z.1.1
  have hb := Z.1.2.1
  have hl : lv_has ls 2 [(0, .ref (ad 0)), (1, .int p1)] := hl
  refine lv_aload_n hx hb dX8_raise_0 rfl (lv_at hl 0 rfl) ?_
  refine gO (C := "NestedBells") (TC := TX8) (NF := 5) (ci := 6) (j := 2) (v := .ref (ad 1)) Z hw (0) (by decide) rfl (fun _ => rfl) rfl iX8 (by decide) q_2_20 rfl rfl dX8_raise_1 ?_
  refine lv_aload_n hx hb dX8_raise_4 rfl (lv_at hl 0 rfl) ?_
  refine gO (C := "NestedBells") (TC := TX8) (NF := 5) (ci := 6) (j := 0) (v := .ref (ad 6)) Z hw (0) (by decide) rfl (fun _ => rfl) rfl iX8 (by decide) q_2_18 rfl rfl dX8_raise_5 ?_
  refine bk_v (rnV (rest := []) Z hw (k_X4_prepare  I0) v_X4_prepare q_2_132 (1) (by decide) rfl rfl rfl rfl hl.1 rfl rfl (Nat.le_of_ble_eq_true rfl) ⟨(Nat.le_of_ble_eq_true rfl), (Nat.le_of_ble_eq_true rfl)⟩ ⟨(Nat.le_of_ble_eq_true rfl), (Nat.le_of_ble_eq_true rfl)⟩ dX8_raise_8) hw Z (fun s8 H locs hp hw => ?_)
  obtain ⟨es8, I8⟩ := hp
  refine lv_aload_n hx hb dX8_raise_11 rfl (lv_at hl 0 rfl) ?_
  refine lv_aload_n hx hb dX8_raise_12 rfl (lv_at hl 0 rfl) ?_
  refine gO (C := "NestedBells") (TC := TX8) (NF := 5) (ci := 6) (j := 0) (v := .ref (ad 6)) Z hw (0) (by decide) rfl (fun _ => rfl) rfl iX8 (by decide) q_2_18 rfl rfl dX8_raise_13 ?_
  refine lv_iload_n hx hb dX8_raise_16 rfl (lv_at hl 1 rfl) ?_
  refine bs_i (prtM (g := g) (T := T) (ad := ad) (q := 0) (by decide)) (rnV (rest := [.ref (ad 0)]) Z ((prtM (g := g) (T := T) (ad := ad) (q := 0) (by decide)).sub hw) (k_X5_raiseSource (p1 := p1) (I8.2.2.2 0 (by decide))) v_X5_raiseSource q_2_193 0 (by decide) rfl rfl rfl rfl hl.1 rfl rfl (Nat.le_of_ble_eq_true rfl) ⟨(Nat.le_of_ble_eq_true rfl), (Nat.le_of_ble_eq_true rfl)⟩ ⟨(Nat.le_of_ble_eq_true rfl), (Nat.le_of_ble_eq_true rfl)⟩ dX8_raise_17) hw Z (fun r17 u17 H locs hp hw => ?_)
  obtain ⟨er17, es17, I17⟩ := hp
  refine bx_i (rxV (rest := []) Z hw hT (k_X8_settle hfl (p1 := r17) (InvB.mach (q := 0) (by decide) I17 I8)) v_X8_settle q_3_128 0 (by decide) rfl rfl rfl rfl hl.1 rfl rfl (Nat.le_of_ble_eq_true rfl) ⟨(Nat.le_of_ble_eq_true rfl), (Nat.le_of_ble_eq_true rfl)⟩ ⟨(Nat.le_of_ble_eq_true rfl), (Nat.le_of_ble_eq_true rfl)⟩ dX8_raise_20) hw Z hlk ht (fun k20 u20 hp20 => ?_) (Nat.le_of_ble_eq_true rfl) (Nat.le_of_ble_eq_true rfl) (fun r20 u20 H locs hp20 hw => ?_)
  · exact ⟨hp20.1, (Eq.symm (show f_X8_settle (mg (giM 0) s8 u17) r17 = (f_X8_raise σ p1) from (by subst es17 er17 es8; exact rfl))).trans hp20.2.1, hp20.2.2⟩
  · exact vx_ret (W.widen (Nat.le_of_ble_eq_true rfl) (Nat.le_of_ble_eq_true rfl) (rt_i Z hr hlk hw dX8_raise_23 ⟨(Eq.symm (show f_X8_settle (mg (giM 0) s8 u17) r17 = (f_X8_raise σ p1) from (by subst es17 er17 es8; exact rfl))).trans hp20.1, hp20.2⟩))
abbrev rmX8_setLine : Room := { frames := 7, cells := 1, slots := 6, locals := 104 }
def f_X8_setLine (σ : St) (p1 : Int32) (p2 : Int32) : Nat × Int32 × St := (let s8 := f_X4_prepare σ; (let r18 := (f_X5_changeLine (sb (gmM 0) s8) p1 p2).1; let u18 : St := (f_X5_changeLine (sb (gmM 0) s8) p1 p2).2; f_X8_settle (mg (giM 0) s8 u18) r18))
theorem v_X8_setLine : cvV yX8_setLine "NestedBells" cX8_setLine 3 (some (.int)) 2 := ⟨q_4_51, q_4_52, q_1_1, q_4_53, rfl, by decide +kernel, by decide +kernel, by decide +kernel⟩
set_option maxHeartbeats 4000000 in
set_option maxRecDepth 100000 in
theorem k_X8_setLine {l : Launch} {D : va_G} {T : Nat → ClassId} {g ad : Nat → Nat} (hfl : l.stackTraces = false) {σ : St} {p1 : Int32} {p2 : Int32} (I0 : InvB σ) (hz2 : zb p2 = p2) : mT l yX8_setLine cX8_setLine 3 (some (.int)) rmX8_setLine D T g 405 ad (cE (bE g T ad) σ) [.ref (ad 0), .int p1, .int p2] (qI D 405 ad (bE g T ad) (pXI (f_X8_setLine σ p1 p2) InvB)) (qX D 405 ad (bE g T ad) (pXX (f_X8_setLine σ p1 p2) InvB)) := by
  refine mT.of (own := "NestedBells") (by decide +kernel) (Nat.le_of_ble_eq_true rfl) rfl ?_
  intro p e s m below meth c A ls H locs Z hT hr hlk ht hw hl
  have hx := Z.1.1
  have hb := Z.1.2.1
  have hl : lv_has ls 3 [(0, .ref (ad 0)), (1, .int p1), (2, .int p2)] := hl
  refine lv_aload_n hx hb dX8_setLine_0 rfl (lv_at hl 0 rfl) ?_
  refine gO (C := "NestedBells") (TC := TX8) (NF := 5) (ci := 6) (j := 2) (v := .ref (ad 1)) Z hw (0) (by decide) rfl (fun _ => rfl) rfl iX8 (by decide) q_2_20 rfl rfl dX8_setLine_1 ?_
  refine lv_aload_n hx hb dX8_setLine_4 rfl (lv_at hl 0 rfl) ?_
  refine gO (C := "NestedBells") (TC := TX8) (NF := 5) (ci := 6) (j := 0) (v := .ref (ad 6)) Z hw (0) (by decide) rfl (fun _ => rfl) rfl iX8 (by decide) q_2_18 rfl rfl dX8_setLine_5 ?_
  refine bk_v (rnV (rest := []) Z hw (k_X4_prepare  I0) v_X4_prepare q_2_132 (1) (by decide) rfl rfl rfl rfl hl.1 rfl rfl (Nat.le_of_ble_eq_true rfl) ⟨(Nat.le_of_ble_eq_true rfl), (Nat.le_of_ble_eq_true rfl)⟩ ⟨(Nat.le_of_ble_eq_true rfl), (Nat.le_of_ble_eq_true rfl)⟩ dX8_setLine_8) hw Z (fun s8 H locs hp hw => ?_)
  obtain ⟨es8, I8⟩ := hp
  refine lv_aload_n hx hb dX8_setLine_11 rfl (lv_at hl 0 rfl) ?_
  refine lv_aload_n hx hb dX8_setLine_12 rfl (lv_at hl 0 rfl) ?_
  refine gO (C := "NestedBells") (TC := TX8) (NF := 5) (ci := 6) (j := 0) (v := .ref (ad 6)) Z hw (0) (by decide) rfl (fun _ => rfl) rfl iX8 (by decide) q_2_18 rfl rfl dX8_setLine_13 ?_
  refine lv_iload_n hx hb dX8_setLine_16 rfl (lv_at hl 1 rfl) ?_
  refine lv_iload_n hx hb dX8_setLine_17 rfl (lv_at hl 2 rfl) ?_
  refine bs_i (prtM (g := g) (T := T) (ad := ad) (q := 0) (by decide)) (rnV (rest := [.ref (ad 0)]) Z ((prtM (g := g) (T := T) (ad := ad) (q := 0) (by decide)).sub hw) (k_X5_changeLine (p1 := p1) (p2 := p2) (I8.2.2.2 0 (by decide)) hz2) v_X5_changeLine q_2_205 0 (by decide) rfl rfl rfl rfl hl.1 rfl rfl (Nat.le_of_ble_eq_true rfl) ⟨(Nat.le_of_ble_eq_true rfl), (Nat.le_of_ble_eq_true rfl)⟩ ⟨(Nat.le_of_ble_eq_true rfl), (Nat.le_of_ble_eq_true rfl)⟩ dX8_setLine_18) hw Z (fun r18 u18 H locs hp hw => ?_)
  obtain ⟨er18, es18, I18⟩ := hp
  refine bx_i (rxV (rest := []) Z hw hT (k_X8_settle hfl (p1 := r18) (InvB.mach (q := 0) (by decide) I18 I8)) v_X8_settle q_3_128 0 (by decide) rfl rfl rfl rfl hl.1 rfl rfl (Nat.le_of_ble_eq_true rfl) ⟨(Nat.le_of_ble_eq_true rfl), (Nat.le_of_ble_eq_true rfl)⟩ ⟨(Nat.le_of_ble_eq_true rfl), (Nat.le_of_ble_eq_true rfl)⟩ dX8_setLine_21) hw Z hlk ht (fun k21 u21 hp21 => ?_) (Nat.le_of_ble_eq_true rfl) (Nat.le_of_ble_eq_true rfl) (fun r21 u21 H locs hp21 hw => ?_)
  · exact ⟨hp21.1, (Eq.symm (show f_X8_settle (mg (giM 0) s8 u18) r18 = (f_X8_setLine σ p1 p2) from (by subst es18 er18 es8; exact rfl))).trans hp21.2.1, hp21.2.2⟩
  · exact vx_ret (W.widen (Nat.le_of_ble_eq_true rfl) (Nat.le_of_ble_eq_true rfl) (rt_i Z hr hlk hw dX8_setLine_24 ⟨(Eq.symm (show f_X8_settle (mg (giM 0) s8 u18) r18 = (f_X8_setLine σ p1 p2) from (by subst es18 er18 es8; exact rfl))).trans hp21.1, hp21.2⟩))
abbrev rmX8_set : Room := { frames := 7, cells := 1, slots := 6, locals := 104 }
def f_X8_set (σ : St) (p1 : Int32) (p2 : Int32) : Nat × Int32 × St := (let s8 := f_X4_prepare σ; (let r18 := (f_X5_changeSetting (sb (gmM 0) s8) p1 p2).1; let u18 : St := (f_X5_changeSetting (sb (gmM 0) s8) p1 p2).2; f_X8_settle (mg (giM 0) s8 u18) r18))
theorem v_X8_set : cvV yX8_set "NestedBells" cX8_set 3 (some (.int)) 2 := ⟨q_4_58, q_4_59, q_1_1, q_4_60, rfl, by decide +kernel, by decide +kernel, by decide +kernel⟩
set_option maxHeartbeats 4000000 in
set_option maxRecDepth 100000 in
theorem k_X8_set {l : Launch} {D : va_G} {T : Nat → ClassId} {g ad : Nat → Nat} (hfl : l.stackTraces = false) {σ : St} {p1 : Int32} {p2 : Int32} (I0 : InvB σ) : mT l yX8_set cX8_set 3 (some (.int)) rmX8_set D T g 405 ad (cE (bE g T ad) σ) [.ref (ad 0), .int p1, .int p2] (qI D 405 ad (bE g T ad) (pXI (f_X8_set σ p1 p2) InvB)) (qX D 405 ad (bE g T ad) (pXX (f_X8_set σ p1 p2) InvB)) := by
  refine mT.of (own := "NestedBells") (by decide +kernel) (Nat.le_of_ble_eq_true rfl) rfl ?_
  intro p e s m below meth c A ls H locs Z hT hr hlk ht hw hl
  have hx := Z.1.1
  have hb := Z.1.2.1
  have hl : lv_has ls 3 [(0, .ref (ad 0)), (1, .int p1), (2, .int p2)] := hl
  refine lv_aload_n hx hb dX8_set_0 rfl (lv_at hl 0 rfl) ?_
  refine gO (C := "NestedBells") (TC := TX8) (NF := 5) (ci := 6) (j := 2) (v := .ref (ad 1)) Z hw (0) (by decide) rfl (fun _ => rfl) rfl iX8 (by decide) q_2_20 rfl rfl dX8_set_1 ?_
  refine lv_aload_n hx hb dX8_set_4 rfl (lv_at hl 0 rfl) ?_
  refine gO (C := "NestedBells") (TC := TX8) (NF := 5) (ci := 6) (j := 0) (v := .ref (ad 6)) Z hw (0) (by decide) rfl (fun _ => rfl) rfl iX8 (by decide) q_2_18 rfl rfl dX8_set_5 ?_
  refine bk_v (rnV (rest := []) Z hw (k_X4_prepare  I0) v_X4_prepare q_2_132 (1) (by decide) rfl rfl rfl rfl hl.1 rfl rfl (Nat.le_of_ble_eq_true rfl) ⟨(Nat.le_of_ble_eq_true rfl), (Nat.le_of_ble_eq_true rfl)⟩ ⟨(Nat.le_of_ble_eq_true rfl), (Nat.le_of_ble_eq_true rfl)⟩ dX8_set_8) hw Z (fun s8 H locs hp hw => ?_)
  obtain ⟨es8, I8⟩ := hp
  refine lv_aload_n hx hb dX8_set_11 rfl (lv_at hl 0 rfl) ?_
  refine lv_aload_n hx hb dX8_set_12 rfl (lv_at hl 0 rfl) ?_
  refine gO (C := "NestedBells") (TC := TX8) (NF := 5) (ci := 6) (j := 0) (v := .ref (ad 6)) Z hw (0) (by decide) rfl (fun _ => rfl) rfl iX8 (by decide) q_2_18 rfl rfl dX8_set_13 ?_
  refine lv_iload_n hx hb dX8_set_16 rfl (lv_at hl 1 rfl) ?_
  refine lv_iload_n hx hb dX8_set_17 rfl (lv_at hl 2 rfl) ?_
  refine bs_i (prtM (g := g) (T := T) (ad := ad) (q := 0) (by decide)) (rnV (rest := [.ref (ad 0)]) Z ((prtM (g := g) (T := T) (ad := ad) (q := 0) (by decide)).sub hw) (k_X5_changeSetting (p1 := p1) (p2 := p2) (I8.2.2.2 0 (by decide))) v_X5_changeSetting q_2_209 0 (by decide) rfl rfl rfl rfl hl.1 rfl rfl (Nat.le_of_ble_eq_true rfl) ⟨(Nat.le_of_ble_eq_true rfl), (Nat.le_of_ble_eq_true rfl)⟩ ⟨(Nat.le_of_ble_eq_true rfl), (Nat.le_of_ble_eq_true rfl)⟩ dX8_set_18) hw Z (fun r18 u18 H locs hp hw => ?_)
  obtain ⟨er18, es18, I18⟩ := hp
  refine bx_i (rxV (rest := []) Z hw hT (k_X8_settle hfl (p1 := r18) (InvB.mach (q := 0) (by decide) I18 I8)) v_X8_settle q_3_128 0 (by decide) rfl rfl rfl rfl hl.1 rfl rfl (Nat.le_of_ble_eq_true rfl) ⟨(Nat.le_of_ble_eq_true rfl), (Nat.le_of_ble_eq_true rfl)⟩ ⟨(Nat.le_of_ble_eq_true rfl), (Nat.le_of_ble_eq_true rfl)⟩ dX8_set_21) hw Z hlk ht (fun k21 u21 hp21 => ?_) (Nat.le_of_ble_eq_true rfl) (Nat.le_of_ble_eq_true rfl) (fun r21 u21 H locs hp21 hw => ?_)
  · exact ⟨hp21.1, (Eq.symm (show f_X8_settle (mg (giM 0) s8 u18) r18 = (f_X8_set σ p1 p2) from (by subst es18 er18 es8; exact rfl))).trans hp21.2.1, hp21.2.2⟩
  · exact vx_ret (W.widen (Nat.le_of_ble_eq_true rfl) (Nat.le_of_ble_eq_true rfl) (rt_i Z hr hlk hw dX8_set_24 ⟨(Eq.symm (show f_X8_settle (mg (giM 0) s8 u18) r18 = (f_X8_set σ p1 p2) from (by subst es18 er18 es8; exact rfl))).trans hp21.1, hp21.2⟩))
abbrev rmX8_run : Room := { frames := 7, cells := 1, slots := 6, locals := 111 }
def f_X8_run (σ : St) (p1 : Int32) : Nat × Int32 × St := (let s8 := f_X4_prepare σ; (let r17 := (f_X5_spendTicks (sb (gmM 0) s8) p1).1; let u17 : St := (f_X5_spendTicks (sb (gmM 0) s8) p1).2; f_X8_settle (mg (giM 0) s8 u17) r17))
theorem v_X8_run : cvV yX8_run "NestedBells" cX8_run 2 (some (.int)) 1 := ⟨q_4_65, q_4_66, q_1_1, q_4_67, rfl, by decide +kernel, by decide +kernel, by decide +kernel⟩
set_option maxHeartbeats 4000000 in
set_option maxRecDepth 100000 in
theorem k_X8_run {l : Launch} {D : va_G} {T : Nat → ClassId} {g ad : Nat → Nat} (hfl : l.stackTraces = false) {σ : St} {p1 : Int32} (I0 : InvB σ) : mT l yX8_run cX8_run 2 (some (.int)) rmX8_run D T g 405 ad (cE (bE g T ad) σ) [.ref (ad 0), .int p1] (qI D 405 ad (bE g T ad) (pXI (f_X8_run σ p1) InvB)) (qX D 405 ad (bE g T ad) (pXX (f_X8_run σ p1) InvB)) := by
  refine mT.of (own := "NestedBells") (by decide +kernel) (Nat.le_of_ble_eq_true rfl) rfl ?_
  intro p e s m below meth c A ls H locs Z hT hr hlk ht hw hl
  have hx := Z.1.1
  have hb := Z.1.2.1
  have hl : lv_has ls 2 [(0, .ref (ad 0)), (1, .int p1)] := hl
  refine lv_aload_n hx hb dX8_run_0 rfl (lv_at hl 0 rfl) ?_
  refine gO (C := "NestedBells") (TC := TX8) (NF := 5) (ci := 6) (j := 2) (v := .ref (ad 1)) Z hw (0) (by decide) rfl (fun _ => rfl) rfl iX8 (by decide) q_2_20 rfl rfl dX8_run_1 ?_
  refine lv_aload_n hx hb dX8_run_4 rfl (lv_at hl 0 rfl) ?_
  refine gO (C := "NestedBells") (TC := TX8) (NF := 5) (ci := 6) (j := 0) (v := .ref (ad 6)) Z hw (0) (by decide) rfl (fun _ => rfl) rfl iX8 (by decide) q_2_18 rfl rfl dX8_run_5 ?_
  refine bk_v (rnV (rest := []) Z hw (k_X4_prepare  I0) v_X4_prepare q_2_132 (1) (by decide) rfl rfl rfl rfl hl.1 rfl rfl (Nat.le_of_ble_eq_true rfl) ⟨(Nat.le_of_ble_eq_true rfl), (Nat.le_of_ble_eq_true rfl)⟩ ⟨(Nat.le_of_ble_eq_true rfl), (Nat.le_of_ble_eq_true rfl)⟩ dX8_run_8) hw Z (fun s8 H locs hp hw => ?_)
  obtain ⟨es8, I8⟩ := hp
  refine lv_aload_n hx hb dX8_run_11 rfl (lv_at hl 0 rfl) ?_
  refine lv_aload_n hx hb dX8_run_12 rfl (lv_at hl 0 rfl) ?_
  refine gO (C := "NestedBells") (TC := TX8) (NF := 5) (ci := 6) (j := 0) (v := .ref (ad 6)) Z hw (0) (by decide) rfl (fun _ => rfl) rfl iX8 (by decide) q_2_18 rfl rfl dX8_run_13 ?_
  refine lv_iload_n hx hb dX8_run_16 rfl (lv_at hl 1 rfl) ?_
  refine bs_i (prtM (g := g) (T := T) (ad := ad) (q := 0) (by decide)) (rnV (rest := [.ref (ad 0)]) Z ((prtM (g := g) (T := T) (ad := ad) (q := 0) (by decide)).sub hw) (k_X5_spendTicks (p1 := p1) (I8.2.2.2 0 (by decide))) v_X5_spendTicks q_2_213 0 (by decide) rfl rfl rfl rfl hl.1 rfl rfl (Nat.le_of_ble_eq_true rfl) ⟨(Nat.le_of_ble_eq_true rfl), (Nat.le_of_ble_eq_true rfl)⟩ ⟨(Nat.le_of_ble_eq_true rfl), (Nat.le_of_ble_eq_true rfl)⟩ dX8_run_17) hw Z (fun r17 u17 H locs hp hw => ?_)
  obtain ⟨er17, es17, I17⟩ := hp
  refine bx_i (rxV (rest := []) Z hw hT (k_X8_settle hfl (p1 := r17) (InvB.mach (q := 0) (by decide) I17 I8)) v_X8_settle q_3_128 0 (by decide) rfl rfl rfl rfl hl.1 rfl rfl (Nat.le_of_ble_eq_true rfl) ⟨(Nat.le_of_ble_eq_true rfl), (Nat.le_of_ble_eq_true rfl)⟩ ⟨(Nat.le_of_ble_eq_true rfl), (Nat.le_of_ble_eq_true rfl)⟩ dX8_run_20) hw Z hlk ht (fun k20 u20 hp20 => ?_) (Nat.le_of_ble_eq_true rfl) (Nat.le_of_ble_eq_true rfl) (fun r20 u20 H locs hp20 hw => ?_)
  · exact ⟨hp20.1, (Eq.symm (show f_X8_settle (mg (giM 0) s8 u17) r17 = (f_X8_run σ p1) from (by subst es17 er17 es8; exact rfl))).trans hp20.2.1, hp20.2.2⟩
  · exact vx_ret (W.widen (Nat.le_of_ble_eq_true rfl) (Nat.le_of_ble_eq_true rfl) (rt_i Z hr hlk hw dX8_run_23 ⟨(Eq.symm (show f_X8_settle (mg (giM 0) s8 u17) r17 = (f_X8_run σ p1) from (by subst es17 er17 es8; exact rfl))).trans hp20.1, hp20.2⟩))
abbrev rmX8_source : Room := { frames := 7, cells := 2, slots := 12, locals := 110 }
def f_X8_source (σ : St) (p1 : Int32) (p2 : Int32) : Nat × Int32 × St := (if f_X8_requireSource σ p1 = 0 then (let r9 := f_X8_isWithin p2 0 16; (if f_X8_requireArgument r9 = 0 then (let r21 := f_X5_sourceValue (sb (gmM 0) σ) p1 p2; (0, r21, σ)) else (f_X8_requireArgument r9, 0, σ))) else (f_X8_requireSource σ p1, 0, σ))
theorem v_X8_source : cvV yX8_source "NestedBells" cX8_source 3 (some (.int)) 2 := ⟨q_4_72, q_4_73, q_1_1, q_4_74, rfl, by decide +kernel, by decide +kernel, by decide +kernel⟩
set_option maxHeartbeats 4000000 in
set_option maxRecDepth 100000 in
theorem k_X8_source {l : Launch} {D : va_G} {T : Nat → ClassId} {g ad : Nat → Nat} (hfl : l.stackTraces = false) {σ : St} {p1 : Int32} {p2 : Int32} (I0 : InvB σ) : mT l yX8_source cX8_source 3 (some (.int)) rmX8_source D T g 405 ad (cE (bE g T ad) σ) [.ref (ad 0), .int p1, .int p2] (qI D 405 ad (bE g T ad) (pXI (f_X8_source σ p1 p2) InvB)) (qX D 405 ad (bE g T ad) (pXX (f_X8_source σ p1 p2) InvB)) := by
  refine mT.of (own := "NestedBells") (by decide +kernel) (Nat.le_of_ble_eq_true rfl) rfl ?_
  intro p e s m below meth c A ls H locs Z hT hr hlk ht hw hl
  have hx := Z.1.1
  have hb := Z.1.2.1
  have hl : lv_has ls 3 [(0, .ref (ad 0)), (1, .int p1), (2, .int p2)] := hl
  refine lv_aload_n hx hb dX8_source_0 rfl (lv_at hl 0 rfl) ?_
  refine lv_iload_n hx hb dX8_source_1 rfl (lv_at hl 1 rfl) ?_
  refine bx_v (rxV (rest := []) Z hw hT (k_X8_requireSource hfl (p1 := p1) I0) v_X8_requireSource q_4_75 0 (by decide) rfl rfl rfl rfl hl.1 rfl rfl (Nat.le_of_ble_eq_true rfl) ⟨(Nat.le_of_ble_eq_true rfl), (Nat.le_of_ble_eq_true rfl)⟩ ⟨(Nat.le_of_ble_eq_true rfl), (Nat.le_of_ble_eq_true rfl)⟩ dX8_source_2) hw Z hlk ht (fun k2 u2 hp2 => ?_) (Nat.le_of_ble_eq_true rfl) (Nat.le_of_ble_eq_true rfl) (fun u2 H locs hp2 hw => ?_)
  · obtain ⟨h12, h22, h32⟩ := hp2
    subst h22 h32
    exact ⟨h12, Eq.symm (lf_f h12 rfl), I0⟩
  · obtain ⟨e2, rfl⟩ := hp2
    refine lv_iload_n hx hb dX8_source_5 rfl (lv_at hl 2 rfl) ?_
    refine lv_iconst (v := 0) hx hb dX8_source_6 (by decide +kernel) ?_
    refine lv_bipush (v := 16) hx hb dX8_source_7 (by decide +kernel) ?_
    refine bk_ip (rnS (rest := []) Z hw (k_X8_isWithin (p1 := p2) (p2 := 0) (p3 := 16) ) v_X8_isWithin rfl q_4_80 hl.1 rfl rfl (Nat.le_of_ble_eq_true rfl) ⟨(Nat.le_of_ble_eq_true rfl), (Nat.le_of_ble_eq_true rfl)⟩ ⟨(Nat.le_of_ble_eq_true rfl), (Nat.le_of_ble_eq_true rfl)⟩ dX8_source_9) hw Z (fun r9 er9 H locs hw => ?_)
    refine bx_v (rxS (rest := []) Z hw hT (k_X8_requireArgument hfl (p1 := r9) ) v_X8_requireArgument rfl q_4_81 hl.1 rfl rfl (Nat.le_of_ble_eq_true rfl) ⟨(Nat.le_of_ble_eq_true rfl), (Nat.le_of_ble_eq_true rfl)⟩ ⟨(Nat.le_of_ble_eq_true rfl), (Nat.le_of_ble_eq_true rfl)⟩ dX8_source_12) hw Z hlk ht (fun k12 u12 hp12 => ?_) (Nat.le_of_ble_eq_true rfl) (Nat.le_of_ble_eq_true rfl) (fun u12 H locs hp12 hw => ?_)
    · obtain ⟨h112, h212, h312⟩ := hp12
      subst h212 h312
      exact ⟨h112, Eq.symm (by subst er9; exact (lf_t e2 (lf_f h112 rfl))), I0⟩
    · obtain ⟨e12, rfl⟩ := hp12
      refine lv_aload_n hx hb dX8_source_15 rfl (lv_at hl 0 rfl) ?_
      refine gO (C := "NestedBells") (TC := TX8) (NF := 5) (ci := 6) (j := 0) (v := .ref (ad 6)) Z hw (0) (by decide) rfl (fun _ => rfl) rfl iX8 (by decide) q_2_18 rfl rfl dX8_source_16 ?_
      refine lv_iload_n hx hb dX8_source_19 rfl (lv_at hl 1 rfl) ?_
      refine lv_iload_n hx hb dX8_source_20 rfl (lv_at hl 2 rfl) ?_
      refine bs_ip (prtM (g := g) (T := T) (ad := ad) (q := 0) (by decide)) (rnV (rest := []) Z ((prtM (g := g) (T := T) (ad := ad) (q := 0) (by decide)).sub hw) (k_X5_sourceValue (p1 := p1) (p2 := p2) (I0.2.2.2 0 (by decide))) v_X5_sourceValue q_3_95 0 (by decide) rfl rfl rfl rfl hl.1 rfl rfl (Nat.le_of_ble_eq_true rfl) ⟨(Nat.le_of_ble_eq_true rfl), (Nat.le_of_ble_eq_true rfl)⟩ ⟨(Nat.le_of_ble_eq_true rfl), (Nat.le_of_ble_eq_true rfl)⟩ dX8_source_21) hw Z (fun r21 er21 H locs hw => ?_)
      exact vx_ret (W.widen (Nat.le_of_ble_eq_true rfl) (Nat.le_of_ble_eq_true rfl) (rt_i Z hr hlk hw dX8_source_24 ⟨Eq.symm (by subst er21 er9; exact (lf_t e2 (lf_t e12 rfl))), I0⟩))
abbrev rmX8_section : Room := { frames := 7, cells := 1, slots := 6, locals := 102 }
def f_X8_section (σ : St) (p1 : Int32) (p2 : Int32) (p3 : Int32) : Nat × Int32 × St := (let r7 := f_X5_sectionsOf (sb (gmM 0) σ) p1; (let r12 := f_X8_isWithin p2 0 (r7 - 1); (if r12 = 0 then (1, 0, σ) else (let r31 := f_X8_isWithin p3 0 3; (if f_X8_requireArgument r31 = 0 then (let r44 := f_X5_sectionValue (sb (gmM 0) σ) p1 p2 p3; (0, r44, σ)) else (f_X8_requireArgument r31, 0, σ))))))
theorem v_X8_section : cvV yX8_section "NestedBells" cX8_section 4 (some (.int)) 3 := ⟨q_4_88, q_4_89, q_1_1, q_4_90, rfl, by decide +kernel, by decide +kernel, by decide +kernel⟩
set_option maxHeartbeats 4000000 in
set_option maxRecDepth 100000 in
theorem k_X8_section {l : Launch} {D : va_G} {T : Nat → ClassId} {g ad : Nat → Nat} (hfl : l.stackTraces = false) {σ : St} {p1 : Int32} {p2 : Int32} {p3 : Int32} (I0 : InvB σ) : mT l yX8_section cX8_section 4 (some (.int)) rmX8_section D T g 405 ad (cE (bE g T ad) σ) [.ref (ad 0), .int p1, .int p2, .int p3] (qI D 405 ad (bE g T ad) (pXI (f_X8_section σ p1 p2 p3) InvB)) (qX D 405 ad (bE g T ad) (pXX (f_X8_section σ p1 p2 p3) InvB)) := by
  refine mT.of (own := "NestedBells") (by decide +kernel) (Nat.le_of_ble_eq_true rfl) rfl ?_
  intro p e s m below meth c A ls H locs Z hT hr hlk ht hw hl
  have hx := Z.1.1
  have hb := Z.1.2.1
  have hl : lv_has ls 4 [(0, .ref (ad 0)), (1, .int p1), (2, .int p2), (3, .int p3)] := hl
  refine lv_iload_n hx hb dX8_section_0 rfl (lv_at hl 2 rfl) ?_
  refine lv_iconst (v := 0) hx hb dX8_section_1 (by decide +kernel) ?_
  refine lv_aload_n hx hb dX8_section_2 rfl (lv_at hl 0 rfl) ?_
  refine gO (C := "NestedBells") (TC := TX8) (NF := 5) (ci := 6) (j := 0) (v := .ref (ad 6)) Z hw (0) (by decide) rfl (fun _ => rfl) rfl iX8 (by decide) q_2_18 rfl rfl dX8_section_3 ?_
  refine lv_iload_n hx hb dX8_section_6 rfl (lv_at hl 1 rfl) ?_
  refine bs_ip (prtM (g := g) (T := T) (ad := ad) (q := 0) (by decide)) (rnV (rest := [.int 0, .int p2]) Z ((prtM (g := g) (T := T) (ad := ad) (q := 0) (by decide)).sub hw) (k_X5_sectionsOf (p1 := p1) (I0.2.2.2 0 (by decide))) v_X5_sectionsOf q_3_106 0 (by decide) rfl rfl rfl rfl hl.1 rfl rfl (Nat.le_of_ble_eq_true rfl) ⟨(Nat.le_of_ble_eq_true rfl), (Nat.le_of_ble_eq_true rfl)⟩ ⟨(Nat.le_of_ble_eq_true rfl), (Nat.le_of_ble_eq_true rfl)⟩ dX8_section_7) hw Z (fun r7 er7 H locs hw => ?_)
  refine lv_iconst (v := 1) hx hb dX8_section_10 (by decide +kernel) ?_
  refine lv_isub hx hb dX8_section_11 ?_
  refine bk_ip (rnS (rest := []) Z hw (k_X8_isWithin (p1 := p2) (p2 := 0) (p3 := r7 - 1) ) v_X8_isWithin rfl q_4_80 hl.1 rfl rfl (Nat.le_of_ble_eq_true rfl) ⟨(Nat.le_of_ble_eq_true rfl), (Nat.le_of_ble_eq_true rfl)⟩ ⟨(Nat.le_of_ble_eq_true rfl), (Nat.le_of_ble_eq_true rfl)⟩ dX8_section_12) hw Z (fun r12 er12 H locs hw => ?_)
  refine lv_if_ne (tgt := 28) hx hb dX8_section_15 (by decide) (fun c15 => ?_) (fun c15 => ?_)
  · refine lv_iload_n hx hb dX8_section_28 rfl (lv_at hl 3 rfl) ?_
    refine lv_iconst (v := 0) hx hb dX8_section_29 (by decide +kernel) ?_
    refine lv_iconst (v := 3) hx hb dX8_section_30 (by decide +kernel) ?_
    refine bk_ip (rnS (rest := []) Z hw (k_X8_isWithin (p1 := p3) (p2 := 0) (p3 := 3) ) v_X8_isWithin rfl q_4_80 hl.1 rfl rfl (Nat.le_of_ble_eq_true rfl) ⟨(Nat.le_of_ble_eq_true rfl), (Nat.le_of_ble_eq_true rfl)⟩ ⟨(Nat.le_of_ble_eq_true rfl), (Nat.le_of_ble_eq_true rfl)⟩ dX8_section_31) hw Z (fun r31 er31 H locs hw => ?_)
    refine bx_v (rxS (rest := []) Z hw hT (k_X8_requireArgument hfl (p1 := r31) ) v_X8_requireArgument rfl q_4_81 hl.1 rfl rfl (Nat.le_of_ble_eq_true rfl) ⟨(Nat.le_of_ble_eq_true rfl), (Nat.le_of_ble_eq_true rfl)⟩ ⟨(Nat.le_of_ble_eq_true rfl), (Nat.le_of_ble_eq_true rfl)⟩ dX8_section_34) hw Z hlk ht (fun k34 u34 hp34 => ?_) (Nat.le_of_ble_eq_true rfl) (Nat.le_of_ble_eq_true rfl) (fun u34 H locs hp34 hw => ?_)
    · obtain ⟨h134, h234, h334⟩ := hp34
      subst h234 h334
      exact ⟨h134, Eq.symm (by subst er31 er12 er7; exact (lf_f c15 (lf_f h134 rfl))), I0⟩
    · obtain ⟨e34, rfl⟩ := hp34
      refine lv_aload_n hx hb dX8_section_37 rfl (lv_at hl 0 rfl) ?_
      refine gO (C := "NestedBells") (TC := TX8) (NF := 5) (ci := 6) (j := 0) (v := .ref (ad 6)) Z hw (0) (by decide) rfl (fun _ => rfl) rfl iX8 (by decide) q_2_18 rfl rfl dX8_section_38 ?_
      refine lv_iload_n hx hb dX8_section_41 rfl (lv_at hl 1 rfl) ?_
      refine lv_iload_n hx hb dX8_section_42 rfl (lv_at hl 2 rfl) ?_
      refine lv_iload_n hx hb dX8_section_43 rfl (lv_at hl 3 rfl) ?_
      refine bs_ip (prtM (g := g) (T := T) (ad := ad) (q := 0) (by decide)) (rnV (rest := []) Z ((prtM (g := g) (T := T) (ad := ad) (q := 0) (by decide)).sub hw) (k_X5_sectionValue (p1 := p1) (p2 := p2) (p3 := p3) (I0.2.2.2 0 (by decide))) v_X5_sectionValue q_3_110 0 (by decide) rfl rfl rfl rfl hl.1 rfl rfl (Nat.le_of_ble_eq_true rfl) ⟨(Nat.le_of_ble_eq_true rfl), (Nat.le_of_ble_eq_true rfl)⟩ ⟨(Nat.le_of_ble_eq_true rfl), (Nat.le_of_ble_eq_true rfl)⟩ dX8_section_44) hw Z (fun r44 er44 H locs hw => ?_)
      exact vx_ret (W.widen (Nat.le_of_ble_eq_true rfl) (Nat.le_of_ble_eq_true rfl) (rt_i Z hr hlk hw dX8_section_47 ⟨Eq.symm (by subst er44 er31 er12 er7; exact (lf_f c15 (lf_t e34 rfl))), I0⟩))
  · exact th_row (k := 1) (σ := σ) Z hw hT hfl thw1 (by decide +kernel) Z.2.2.2.1.2.1 hl.1 hlk ht dX8_section_18 dX8_section_21 dX8_section_22 dX8_section_24 dX8_section_27 ⟨by decide, Eq.symm (by subst er12 er7; exact (lf_t c15 rfl)), I0⟩ (Nat.le_of_ble_eq_true rfl) (Nat.le_of_ble_eq_true rfl) (Nat.le_of_ble_eq_true rfl) (Nat.le_of_ble_eq_true rfl) (Nat.le_of_ble_eq_true rfl) (Nat.le_of_ble_eq_true rfl)
abbrev rmX8_stack : Room := { frames := 7, cells := 1, slots := 6, locals := 102 }
def f_X8_stack (σ : St) (p1 : Int32) : Nat × Int32 × St := (let v9 : Int32 := (if p1 < 0 then 0 else 1); (if f_X8_requireArgument v9 = 0 then (let r17 := f_X5_stackedAt (sb (gmM 0) σ) p1; (0, r17, σ)) else (f_X8_requireArgument v9, 0, σ)))
theorem v_X8_stack : cvV yX8_stack "NestedBells" cX8_stack 2 (some (.int)) 1 := ⟨q_4_96, q_4_97, q_1_1, q_4_98, rfl, by decide +kernel, by decide +kernel, by decide +kernel⟩
set_option maxHeartbeats 4000000 in
set_option maxRecDepth 100000 in
theorem k_X8_stack {l : Launch} {D : va_G} {T : Nat → ClassId} {g ad : Nat → Nat} (hfl : l.stackTraces = false) {σ : St} {p1 : Int32} (I0 : InvB σ) : mT l yX8_stack cX8_stack 2 (some (.int)) rmX8_stack D T g 405 ad (cE (bE g T ad) σ) [.ref (ad 0), .int p1] (qI D 405 ad (bE g T ad) (pXI (f_X8_stack σ p1) InvB)) (qX D 405 ad (bE g T ad) (pXX (f_X8_stack σ p1) InvB)) := by
  refine mT.of (own := "NestedBells") (by decide +kernel) (Nat.le_of_ble_eq_true rfl) rfl ?_
  intro p e s m below meth c A ls H locs Z hT hr hlk ht hw hl
  have hx := Z.1.1
  have hb := Z.1.2.1
  have hl : lv_has ls 2 [(0, .ref (ad 0)), (1, .int p1)] := hl
  refine lv_iload_n hx hb dX8_stack_0 rfl (lv_at hl 1 rfl) ?_
  have hj9 : ∀ (v9 : Int32) (H : Heap) (locs : List Loc) (ls : Array Slot), ((if p1 < 0 then 0 else 1) : Int32) = v9 → wo D A s.heap 405 ad (cE (bE g T ad) σ) H locs → lv_has ls 2 [(0, .ref (ad 0)), (1, .int p1)] → W p l e rmX8_stack s m [.ref (ad 0), .int p1].toArray below meth c H locs 0 0 (vx_MQ below ((qI D 405 ad (bE g T ad) (pXI (f_X8_stack σ p1) InvB)) A) ((qX D 405 ad (bE g T ad) (pXX (f_X8_stack σ p1) InvB)) A) [.ref (ad 0), .int p1].toArray s rmX8_stack.cells rmX8_stack.slots A) (F0 m 9 ls [.int v9]) := by
    intro v9 H locs ls ev9 hw hl
    refine bx_v (rxS (rest := []) Z hw hT (k_X8_requireArgument hfl (p1 := v9) ) v_X8_requireArgument rfl q_4_81 hl.1 rfl rfl (Nat.le_of_ble_eq_true rfl) ⟨(Nat.le_of_ble_eq_true rfl), (Nat.le_of_ble_eq_true rfl)⟩ ⟨(Nat.le_of_ble_eq_true rfl), (Nat.le_of_ble_eq_true rfl)⟩ dX8_stack_9) hw Z hlk ht (fun k9 u9 hp9 => ?_) (Nat.le_of_ble_eq_true rfl) (Nat.le_of_ble_eq_true rfl) (fun u9 H locs hp9 hw => ?_)
    · obtain ⟨h19, h29, h39⟩ := hp9
      subst h29 h39
      exact ⟨h19, Eq.symm (by subst ev9; exact (lf_f h19 rfl)), I0⟩
    · obtain ⟨e9, rfl⟩ := hp9
      refine lv_aload_n hx hb dX8_stack_12 rfl (lv_at hl 0 rfl) ?_
      refine gO (C := "NestedBells") (TC := TX8) (NF := 5) (ci := 6) (j := 0) (v := .ref (ad 6)) Z hw (0) (by decide) rfl (fun _ => rfl) rfl iX8 (by decide) q_2_18 rfl rfl dX8_stack_13 ?_
      refine lv_iload_n hx hb dX8_stack_16 rfl (lv_at hl 1 rfl) ?_
      refine bs_ip (prtM (g := g) (T := T) (ad := ad) (q := 0) (by decide)) (rnV (rest := []) Z ((prtM (g := g) (T := T) (ad := ad) (q := 0) (by decide)).sub hw) (k_X5_stackedAt (p1 := p1) (I0.2.2.2 0 (by decide))) v_X5_stackedAt q_3_114 0 (by decide) rfl rfl rfl rfl hl.1 rfl rfl (Nat.le_of_ble_eq_true rfl) ⟨(Nat.le_of_ble_eq_true rfl), (Nat.le_of_ble_eq_true rfl)⟩ ⟨(Nat.le_of_ble_eq_true rfl), (Nat.le_of_ble_eq_true rfl)⟩ dX8_stack_17) hw Z (fun r17 er17 H locs hw => ?_)
      exact vx_ret (W.widen (Nat.le_of_ble_eq_true rfl) (Nat.le_of_ble_eq_true rfl) (rt_i Z hr hlk hw dX8_stack_20 ⟨Eq.symm (by subst er17 ev9; exact (lf_t e9 rfl)), I0⟩))
  refine lv_if_lt (tgt := 8) hx hb dX8_stack_1 (by decide) (fun c1 => ?_) (fun c1 => ?_)
  · refine lv_iconst (v := 0) hx hb dX8_stack_8 (by decide +kernel) ?_
    exact hj9 _ H locs ls (Eq.symm (lf_t c1 rfl)) hw (lv_sub hl [0, 1] rfl)
  · refine lv_iconst (v := 1) hx hb dX8_stack_4 (by decide +kernel) ?_
    refine lv_goto (tgt := 9) hx hb dX8_stack_5 (by decide) ?_
    exact hj9 _ H locs ls (Eq.symm (lf_f c1 rfl)) hw (lv_sub hl [0, 1] rfl)
abbrev rmX8_processor : Room := { frames := 7, cells := 1, slots := 6, locals := 102 }
def f_X8_processor (σ : St) (p1 : Int32) : Nat × Int32 × St := (let r4 := f_X8_isWithin p1 0 11; (if f_X8_requireArgument r4 = 0 then (let r15 := f_X5_processorValue (sb (gmM 0) σ) p1; (0, r15, σ)) else (f_X8_requireArgument r4, 0, σ)))
theorem v_X8_processor : cvV yX8_processor "NestedBells" cX8_processor 2 (some (.int)) 1 := ⟨q_4_103, q_4_104, q_1_1, q_4_105, rfl, by decide +kernel, by decide +kernel, by decide +kernel⟩
set_option maxHeartbeats 4000000 in
set_option maxRecDepth 100000 in
theorem k_X8_processor {l : Launch} {D : va_G} {T : Nat → ClassId} {g ad : Nat → Nat} (hfl : l.stackTraces = false) {σ : St} {p1 : Int32} (I0 : InvB σ) : mT l yX8_processor cX8_processor 2 (some (.int)) rmX8_processor D T g 405 ad (cE (bE g T ad) σ) [.ref (ad 0), .int p1] (qI D 405 ad (bE g T ad) (pXI (f_X8_processor σ p1) InvB)) (qX D 405 ad (bE g T ad) (pXX (f_X8_processor σ p1) InvB)) := by
  refine mT.of (own := "NestedBells") (by decide +kernel) (Nat.le_of_ble_eq_true rfl) rfl ?_
  intro p e s m below meth c A ls H locs Z hT hr hlk ht hw hl
  have hx := Z.1.1
  have hb := Z.1.2.1
  have hl : lv_has ls 2 [(0, .ref (ad 0)), (1, .int p1)] := hl
  refine lv_iload_n hx hb dX8_processor_0 rfl (lv_at hl 1 rfl) ?_
  refine lv_iconst (v := 0) hx hb dX8_processor_1 (by decide +kernel) ?_
  refine lv_bipush (v := 11) hx hb dX8_processor_2 (by decide +kernel) ?_
  refine bk_ip (rnS (rest := []) Z hw (k_X8_isWithin (p1 := p1) (p2 := 0) (p3 := 11) ) v_X8_isWithin rfl q_4_80 hl.1 rfl rfl (Nat.le_of_ble_eq_true rfl) ⟨(Nat.le_of_ble_eq_true rfl), (Nat.le_of_ble_eq_true rfl)⟩ ⟨(Nat.le_of_ble_eq_true rfl), (Nat.le_of_ble_eq_true rfl)⟩ dX8_processor_4) hw Z (fun r4 er4 H locs hw => ?_)
  refine bx_v (rxS (rest := []) Z hw hT (k_X8_requireArgument hfl (p1 := r4) ) v_X8_requireArgument rfl q_4_81 hl.1 rfl rfl (Nat.le_of_ble_eq_true rfl) ⟨(Nat.le_of_ble_eq_true rfl), (Nat.le_of_ble_eq_true rfl)⟩ ⟨(Nat.le_of_ble_eq_true rfl), (Nat.le_of_ble_eq_true rfl)⟩ dX8_processor_7) hw Z hlk ht (fun k7 u7 hp7 => ?_) (Nat.le_of_ble_eq_true rfl) (Nat.le_of_ble_eq_true rfl) (fun u7 H locs hp7 hw => ?_)
  · obtain ⟨h17, h27, h37⟩ := hp7
    subst h27 h37
    exact ⟨h17, Eq.symm (by subst er4; exact (lf_f h17 rfl)), I0⟩
  · obtain ⟨e7, rfl⟩ := hp7
    refine lv_aload_n hx hb dX8_processor_10 rfl (lv_at hl 0 rfl) ?_
    refine gO (C := "NestedBells") (TC := TX8) (NF := 5) (ci := 6) (j := 0) (v := .ref (ad 6)) Z hw (0) (by decide) rfl (fun _ => rfl) rfl iX8 (by decide) q_2_18 rfl rfl dX8_processor_11 ?_
    refine lv_iload_n hx hb dX8_processor_14 rfl (lv_at hl 1 rfl) ?_
    refine bs_ip (prtM (g := g) (T := T) (ad := ad) (q := 0) (by decide)) (rnV (rest := []) Z ((prtM (g := g) (T := T) (ad := ad) (q := 0) (by decide)).sub hw) (k_X5_processorValue (p1 := p1) (I0.2.2.2 0 (by decide))) v_X5_processorValue q_3_83 0 (by decide) rfl rfl rfl rfl hl.1 rfl rfl (Nat.le_of_ble_eq_true rfl) ⟨(Nat.le_of_ble_eq_true rfl), (Nat.le_of_ble_eq_true rfl)⟩ ⟨(Nat.le_of_ble_eq_true rfl), (Nat.le_of_ble_eq_true rfl)⟩ dX8_processor_15) hw Z (fun r15 er15 H locs hw => ?_)
    exact vx_ret (W.widen (Nat.le_of_ble_eq_true rfl) (Nat.le_of_ble_eq_true rfl) (rt_i Z hr hlk hw dX8_processor_18 ⟨Eq.symm (by subst er15 er4; exact (lf_t e7 rfl)), I0⟩))
abbrev rmX8_account : Room := { frames := 7, cells := 1, slots := 6, locals := 102 }
def f_X8_account (σ : St) (p1 : Int32) : Nat × Int32 × St := (let r4 := f_X8_isWithin p1 0 9; (if f_X8_requireArgument r4 = 0 then (let r15 := f_X5_accountValue (sb (gmM 0) σ) p1; (0, r15, σ)) else (f_X8_requireArgument r4, 0, σ)))
theorem v_X8_account : cvV yX8_account "NestedBells" cX8_account 2 (some (.int)) 1 := ⟨q_4_110, q_4_111, q_1_1, q_4_112, rfl, by decide +kernel, by decide +kernel, by decide +kernel⟩
set_option maxHeartbeats 4000000 in
set_option maxRecDepth 100000 in
theorem k_X8_account {l : Launch} {D : va_G} {T : Nat → ClassId} {g ad : Nat → Nat} (hfl : l.stackTraces = false) {σ : St} {p1 : Int32} (I0 : InvB σ) : mT l yX8_account cX8_account 2 (some (.int)) rmX8_account D T g 405 ad (cE (bE g T ad) σ) [.ref (ad 0), .int p1] (qI D 405 ad (bE g T ad) (pXI (f_X8_account σ p1) InvB)) (qX D 405 ad (bE g T ad) (pXX (f_X8_account σ p1) InvB)) := by
  refine mT.of (own := "NestedBells") (by decide +kernel) (Nat.le_of_ble_eq_true rfl) rfl ?_
  intro p e s m below meth c A ls H locs Z hT hr hlk ht hw hl
  have hx := Z.1.1
  have hb := Z.1.2.1
  have hl : lv_has ls 2 [(0, .ref (ad 0)), (1, .int p1)] := hl
  refine lv_iload_n hx hb dX8_account_0 rfl (lv_at hl 1 rfl) ?_
  refine lv_iconst (v := 0) hx hb dX8_account_1 (by decide +kernel) ?_
  refine lv_bipush (v := 9) hx hb dX8_account_2 (by decide +kernel) ?_
  refine bk_ip (rnS (rest := []) Z hw (k_X8_isWithin (p1 := p1) (p2 := 0) (p3 := 9) ) v_X8_isWithin rfl q_4_80 hl.1 rfl rfl (Nat.le_of_ble_eq_true rfl) ⟨(Nat.le_of_ble_eq_true rfl), (Nat.le_of_ble_eq_true rfl)⟩ ⟨(Nat.le_of_ble_eq_true rfl), (Nat.le_of_ble_eq_true rfl)⟩ dX8_account_4) hw Z (fun r4 er4 H locs hw => ?_)
  refine bx_v (rxS (rest := []) Z hw hT (k_X8_requireArgument hfl (p1 := r4) ) v_X8_requireArgument rfl q_4_81 hl.1 rfl rfl (Nat.le_of_ble_eq_true rfl) ⟨(Nat.le_of_ble_eq_true rfl), (Nat.le_of_ble_eq_true rfl)⟩ ⟨(Nat.le_of_ble_eq_true rfl), (Nat.le_of_ble_eq_true rfl)⟩ dX8_account_7) hw Z hlk ht (fun k7 u7 hp7 => ?_) (Nat.le_of_ble_eq_true rfl) (Nat.le_of_ble_eq_true rfl) (fun u7 H locs hp7 hw => ?_)
  · obtain ⟨h17, h27, h37⟩ := hp7
    subst h27 h37
    exact ⟨h17, Eq.symm (by subst er4; exact (lf_f h17 rfl)), I0⟩
  · obtain ⟨e7, rfl⟩ := hp7
    refine lv_aload_n hx hb dX8_account_10 rfl (lv_at hl 0 rfl) ?_
    refine gO (C := "NestedBells") (TC := TX8) (NF := 5) (ci := 6) (j := 0) (v := .ref (ad 6)) Z hw (0) (by decide) rfl (fun _ => rfl) rfl iX8 (by decide) q_2_18 rfl rfl dX8_account_11 ?_
    refine lv_iload_n hx hb dX8_account_14 rfl (lv_at hl 1 rfl) ?_
    refine bs_ip (prtM (g := g) (T := T) (ad := ad) (q := 0) (by decide)) (rnV (rest := []) Z ((prtM (g := g) (T := T) (ad := ad) (q := 0) (by decide)).sub hw) (k_X5_accountValue (p1 := p1) (I0.2.2.2 0 (by decide))) v_X5_accountValue q_3_87 0 (by decide) rfl rfl rfl rfl hl.1 rfl rfl (Nat.le_of_ble_eq_true rfl) ⟨(Nat.le_of_ble_eq_true rfl), (Nat.le_of_ble_eq_true rfl)⟩ ⟨(Nat.le_of_ble_eq_true rfl), (Nat.le_of_ble_eq_true rfl)⟩ dX8_account_15) hw Z (fun r15 er15 H locs hw => ?_)
    exact vx_ret (W.widen (Nat.le_of_ble_eq_true rfl) (Nat.le_of_ble_eq_true rfl) (rt_i Z hr hlk hw dX8_account_18 ⟨Eq.symm (by subst er15 er4; exact (lf_t e7 rfl)), I0⟩))
abbrev rmX8_log : Room := { frames := 7, cells := 1, slots := 6, locals := 102 }
def f_X8_log (σ : St) (p1 : Int32) (p2 : Int32) : Nat × Int32 × St := (let v18 : Int32 := (if p1 < 0 then 0 else (let r7 := f_X8_isWithin p2 0 2; (if r7 = 0 then 0 else 1))); (if f_X8_requireArgument v18 = 0 then (let r30 := f_X3_value (sb (gmM 0) σ) p1 p2; (0, r30, σ)) else (f_X8_requireArgument v18, 0, σ)))
theorem v_X8_log : cvV yX8_log "NestedBells" cX8_log 3 (some (.int)) 2 := ⟨q_4_117, q_4_118, q_1_1, q_4_119, rfl, by decide +kernel, by decide +kernel, by decide +kernel⟩
set_option maxHeartbeats 4000000 in
set_option maxRecDepth 100000 in
theorem k_X8_log {l : Launch} {D : va_G} {T : Nat → ClassId} {g ad : Nat → Nat} (hfl : l.stackTraces = false) {σ : St} {p1 : Int32} {p2 : Int32} (I0 : InvB σ) : mT l yX8_log cX8_log 3 (some (.int)) rmX8_log D T g 405 ad (cE (bE g T ad) σ) [.ref (ad 0), .int p1, .int p2] (qI D 405 ad (bE g T ad) (pXI (f_X8_log σ p1 p2) InvB)) (qX D 405 ad (bE g T ad) (pXX (f_X8_log σ p1 p2) InvB)) := by
  refine mT.of (own := "NestedBells") (by decide +kernel) (Nat.le_of_ble_eq_true rfl) rfl ?_
  intro p e s m below meth c A ls H locs Z hT hr hlk ht hw hl
  have hx := Z.1.1
  have hb := Z.1.2.1
  have hl : lv_has ls 3 [(0, .ref (ad 0)), (1, .int p1), (2, .int p2)] := hl
  refine lv_iload_n hx hb dX8_log_0 rfl (lv_at hl 1 rfl) ?_
  have hj18 : ∀ (v18 : Int32) (H : Heap) (locs : List Loc) (ls : Array Slot), ((if p1 < 0 then 0 else (let r7 := f_X8_isWithin p2 0 2; (if r7 = 0 then 0 else 1))) : Int32) = v18 → wo D A s.heap 405 ad (cE (bE g T ad) σ) H locs → lv_has ls 3 [(0, .ref (ad 0)), (1, .int p1), (2, .int p2)] → W p l e rmX8_log s m [.ref (ad 0), .int p1, .int p2].toArray below meth c H locs 0 0 (vx_MQ below ((qI D 405 ad (bE g T ad) (pXI (f_X8_log σ p1 p2) InvB)) A) ((qX D 405 ad (bE g T ad) (pXX (f_X8_log σ p1 p2) InvB)) A) [.ref (ad 0), .int p1, .int p2].toArray s rmX8_log.cells rmX8_log.slots A) (F0 m 18 ls [.int v18]) := by
    intro v18 H locs ls ev18 hw hl
    refine bx_v (rxS (rest := []) Z hw hT (k_X8_requireArgument hfl (p1 := v18) ) v_X8_requireArgument rfl q_4_81 hl.1 rfl rfl (Nat.le_of_ble_eq_true rfl) ⟨(Nat.le_of_ble_eq_true rfl), (Nat.le_of_ble_eq_true rfl)⟩ ⟨(Nat.le_of_ble_eq_true rfl), (Nat.le_of_ble_eq_true rfl)⟩ dX8_log_18) hw Z hlk ht (fun k18 u18 hp18 => ?_) (Nat.le_of_ble_eq_true rfl) (Nat.le_of_ble_eq_true rfl) (fun u18 H locs hp18 hw => ?_)
    · obtain ⟨h118, h218, h318⟩ := hp18
      subst h218 h318
      exact ⟨h118, Eq.symm (by subst ev18; exact (lf_f h118 rfl)), I0⟩
    · obtain ⟨e18, rfl⟩ := hp18
      refine lv_aload_n hx hb dX8_log_21 rfl (lv_at hl 0 rfl) ?_
      refine gO (C := "NestedBells") (TC := TX8) (NF := 5) (ci := 6) (j := 0) (v := .ref (ad 6)) Z hw (0) (by decide) rfl (fun _ => rfl) rfl iX8 (by decide) q_2_18 rfl rfl dX8_log_22 ?_
      refine gO (C := "NestedBells$Machine") (TC := TX5) (NF := 11) (ci := 3) (j := 10) (v := .ref (ad 11)) Z hw (6) (by decide) rfl (fun _ => rfl) rfl iX5 (by decide) q_1_183 rfl rfl dX8_log_25 ?_
      refine lv_iload_n hx hb dX8_log_28 rfl (lv_at hl 1 rfl) ?_
      refine lv_iload_n hx hb dX8_log_29 rfl (lv_at hl 2 rfl) ?_
      refine bs_ip (prtM (g := g) (T := T) (ad := ad) (q := 0) (by decide)) (rnV (rest := []) Z ((prtM (g := g) (T := T) (ad := ad) (q := 0) (by decide)).sub hw) (k_X3_value (p1 := p1) (p2 := p2) (I0.2.2.2 0 (by decide))) v_X3_value q_3_115 5 (by decide) rfl rfl rfl rfl hl.1 rfl rfl (Nat.le_of_ble_eq_true rfl) ⟨(Nat.le_of_ble_eq_true rfl), (Nat.le_of_ble_eq_true rfl)⟩ ⟨(Nat.le_of_ble_eq_true rfl), (Nat.le_of_ble_eq_true rfl)⟩ dX8_log_30) hw Z (fun r30 er30 H locs hw => ?_)
      exact vx_ret (W.widen (Nat.le_of_ble_eq_true rfl) (Nat.le_of_ble_eq_true rfl) (rt_i Z hr hlk hw dX8_log_33 ⟨Eq.symm (by subst er30 ev18; exact (lf_t e18 rfl)), I0⟩))
  refine lv_if_lt (tgt := 17) hx hb dX8_log_1 (by decide) (fun c1 => ?_) (fun c1 => ?_)
  · refine lv_iconst (v := 0) hx hb dX8_log_17 (by decide +kernel) ?_
    exact hj18 _ H locs ls (Eq.symm (lf_t c1 rfl)) hw (lv_sub hl [0, 1, 2] rfl)
  · refine lv_iload_n hx hb dX8_log_4 rfl (lv_at hl 2 rfl) ?_
    refine lv_iconst (v := 0) hx hb dX8_log_5 (by decide +kernel) ?_
    refine lv_iconst (v := 2) hx hb dX8_log_6 (by decide +kernel) ?_
    refine bk_ip (rnS (rest := []) Z hw (k_X8_isWithin (p1 := p2) (p2 := 0) (p3 := 2) ) v_X8_isWithin rfl q_4_80 hl.1 rfl rfl (Nat.le_of_ble_eq_true rfl) ⟨(Nat.le_of_ble_eq_true rfl), (Nat.le_of_ble_eq_true rfl)⟩ ⟨(Nat.le_of_ble_eq_true rfl), (Nat.le_of_ble_eq_true rfl)⟩ dX8_log_7) hw Z (fun r7 er7 H locs hw => ?_)
    refine lv_if_eq (tgt := 17) hx hb dX8_log_10 (by decide) (fun c10 => ?_) (fun c10 => ?_)
    · refine lv_iconst (v := 0) hx hb dX8_log_17 (by decide +kernel) ?_
      exact hj18 _ H locs ls (Eq.symm (by subst er7; exact (lf_f c1 (lf_t c10 rfl)))) hw (lv_sub hl [0, 1, 2] rfl)
    · refine lv_iconst (v := 1) hx hb dX8_log_13 (by decide +kernel) ?_
      refine lv_goto (tgt := 18) hx hb dX8_log_14 (by decide) ?_
      exact hj18 _ H locs ls (Eq.symm (by subst er7; exact (lf_f c1 (lf_f c10 rfl)))) hw (lv_sub hl [0, 1, 2] rfl)
abbrev rmX8_entersAfter : Room := { frames := 7, cells := 2, slots := 12, locals := 113 }
def f_X8_entersAfter (σ : St) (p1 : Int32) (p2 : Int32) : Nat × Int32 × St := (if f_X8_requireSource σ p1 = 0 then (let r10 := f_X8_isWithin p2 0 1000; (if f_X8_requireArgument r10 = 0 then (let r33 := (f_X5_spendUntilOnTop (sb (gmM 1) (cpB 1 0 σ)) p1 p2).1; let u33 : St := (f_X5_spendUntilOnTop (sb (gmM 1) (cpB 1 0 σ)) p1 p2).2; (0, r33, mg (giM 1) (cpB 1 0 σ) u33)) else (f_X8_requireArgument r10, 0, σ))) else (f_X8_requireSource σ p1, 0, σ))
theorem v_X8_entersAfter : cvV yX8_entersAfter "NestedBells" cX8_entersAfter 3 (some (.int)) 2 := ⟨q_4_124, q_4_125, q_1_1, q_4_126, rfl, by decide +kernel, by decide +kernel, by decide +kernel⟩
set_option maxHeartbeats 4000000 in
set_option maxRecDepth 100000 in
theorem k_X8_entersAfter {l : Launch} {D : va_G} {T : Nat → ClassId} {g ad : Nat → Nat} (hfl : l.stackTraces = false) {σ : St} {p1 : Int32} {p2 : Int32} (I0 : InvB σ) : mT l yX8_entersAfter cX8_entersAfter 3 (some (.int)) rmX8_entersAfter D T g 405 ad (cE (bE g T ad) σ) [.ref (ad 0), .int p1, .int p2] (qI D 405 ad (bE g T ad) (pXI (f_X8_entersAfter σ p1 p2) InvB)) (qX D 405 ad (bE g T ad) (pXX (f_X8_entersAfter σ p1 p2) InvB)) := by
  refine mT.of (own := "NestedBells") (by decide +kernel) (Nat.le_of_ble_eq_true rfl) rfl ?_
  intro p e s m below meth c A ls H locs Z hT hr hlk ht hw hl
  have hx := Z.1.1
  have hb := Z.1.2.1
  have hl : lv_has ls 3 [(0, .ref (ad 0)), (1, .int p1), (2, .int p2)] := hl
  refine lv_aload_n hx hb dX8_entersAfter_0 rfl (lv_at hl 0 rfl) ?_
  refine lv_iload_n hx hb dX8_entersAfter_1 rfl (lv_at hl 1 rfl) ?_
  refine bx_v (rxV (rest := []) Z hw hT (k_X8_requireSource hfl (p1 := p1) I0) v_X8_requireSource q_4_75 0 (by decide) rfl rfl rfl rfl hl.1 rfl rfl (Nat.le_of_ble_eq_true rfl) ⟨(Nat.le_of_ble_eq_true rfl), (Nat.le_of_ble_eq_true rfl)⟩ ⟨(Nat.le_of_ble_eq_true rfl), (Nat.le_of_ble_eq_true rfl)⟩ dX8_entersAfter_2) hw Z hlk ht (fun k2 u2 hp2 => ?_) (Nat.le_of_ble_eq_true rfl) (Nat.le_of_ble_eq_true rfl) (fun u2 H locs hp2 hw => ?_)
  · obtain ⟨h12, h22, h32⟩ := hp2
    subst h22 h32
    exact ⟨h12, Eq.symm (lf_f h12 rfl), I0⟩
  · obtain ⟨e2, rfl⟩ := hp2
    refine lv_iload_n hx hb dX8_entersAfter_5 rfl (lv_at hl 2 rfl) ?_
    refine lv_iconst (v := 0) hx hb dX8_entersAfter_6 (by decide +kernel) ?_
    refine lv_sipush (v := 1000) hx hb dX8_entersAfter_7 (by decide +kernel) ?_
    refine bk_ip (rnS (rest := []) Z hw (k_X8_isWithin (p1 := p2) (p2 := 0) (p3 := 1000) ) v_X8_isWithin rfl q_4_80 hl.1 rfl rfl (Nat.le_of_ble_eq_true rfl) ⟨(Nat.le_of_ble_eq_true rfl), (Nat.le_of_ble_eq_true rfl)⟩ ⟨(Nat.le_of_ble_eq_true rfl), (Nat.le_of_ble_eq_true rfl)⟩ dX8_entersAfter_10) hw Z (fun r10 er10 H locs hw => ?_)
    refine bx_v (rxS (rest := []) Z hw hT (k_X8_requireArgument hfl (p1 := r10) ) v_X8_requireArgument rfl q_4_81 hl.1 rfl rfl (Nat.le_of_ble_eq_true rfl) ⟨(Nat.le_of_ble_eq_true rfl), (Nat.le_of_ble_eq_true rfl)⟩ ⟨(Nat.le_of_ble_eq_true rfl), (Nat.le_of_ble_eq_true rfl)⟩ dX8_entersAfter_13) hw Z hlk ht (fun k13 u13 hp13 => ?_) (Nat.le_of_ble_eq_true rfl) (Nat.le_of_ble_eq_true rfl) (fun u13 H locs hp13 hw => ?_)
    · obtain ⟨h113, h213, h313⟩ := hp13
      subst h213 h313
      exact ⟨h113, Eq.symm (by subst er10; exact (lf_t e2 (lf_f h113 rfl))), I0⟩
    · obtain ⟨e13, rfl⟩ := hp13
      refine lv_aload_n hx hb dX8_entersAfter_16 rfl (lv_at hl 0 rfl) ?_
      refine gO (C := "NestedBells") (TC := TX8) (NF := 5) (ci := 6) (j := 1) (v := .ref (ad 63)) Z hw (0) (by decide) rfl (fun _ => rfl) rfl iX8 (by decide) q_2_19 rfl rfl dX8_entersAfter_17 ?_
      refine lv_aload_n hx hb dX8_entersAfter_20 rfl (lv_at hl 0 rfl) ?_
      refine gO (C := "NestedBells") (TC := TX8) (NF := 5) (ci := 6) (j := 0) (v := .ref (ad 6)) Z hw (0) (by decide) rfl (fun _ => rfl) rfl iX8 (by decide) q_2_18 rfl rfl dX8_entersAfter_21 ?_
      refine bs_v (prtP (g := g) (T := T) (ad := ad) (q0 := 1) (q1 := 0) (by decide) (by decide) (by omega)) (rnV (rest := []) Z ((prtP (g := g) (T := T) (ad := ad) (q0 := 1) (q1 := 0) (by decide) (by decide) (by omega)).sub hw) k_X5_copyFrom v_X5_copyFrom q_4_127 0 (by decide) rfl rfl rfl rfl hl.1 rfl rfl (Nat.le_of_ble_eq_true rfl) ⟨(Nat.le_of_ble_eq_true rfl), (Nat.le_of_ble_eq_true rfl)⟩ ⟨(Nat.le_of_ble_eq_true rfl), (Nat.le_of_ble_eq_true rfl)⟩ dX8_entersAfter_24) hw Z (fun u24 H locs hp hw => ?_)
      obtain ⟨rfl, -⟩ := hp
      refine lv_aload_n hx hb dX8_entersAfter_27 rfl (lv_at hl 0 rfl) ?_
      refine gO (C := "NestedBells") (TC := TX8) (NF := 5) (ci := 6) (j := 1) (v := .ref (ad 63)) Z hw (0) (by decide) rfl (fun _ => rfl) rfl iX8 (by decide) q_2_19 rfl rfl dX8_entersAfter_28 ?_
      refine lv_iload_n hx hb dX8_entersAfter_31 rfl (lv_at hl 1 rfl) ?_
      refine lv_iload_n hx hb dX8_entersAfter_32 rfl (lv_at hl 2 rfl) ?_
      refine bs_i (prtM (g := g) (T := T) (ad := ad) (q := 1) (by decide)) (rnV (rest := []) Z ((prtM (g := g) (T := T) (ad := ad) (q := 1) (by decide)).sub hw) (k_X5_spendUntilOnTop (p1 := p1) (p2 := p2) ((InvB.copied (q0 := 1) (q1 := 0) (by decide) (by decide) (by omega) I0).2.2.2 1 (by decide)) (most_le er10 e13)) v_X5_spendUntilOnTop q_4_128 0 (by decide) rfl rfl rfl rfl hl.1 rfl rfl (Nat.le_of_ble_eq_true rfl) ⟨(Nat.le_of_ble_eq_true rfl), (Nat.le_of_ble_eq_true rfl)⟩ ⟨(Nat.le_of_ble_eq_true rfl), (Nat.le_of_ble_eq_true rfl)⟩ dX8_entersAfter_33) hw Z (fun r33 u33 H locs hp hw => ?_)
      obtain ⟨er33, es33, I33⟩ := hp
      exact vx_ret (W.widen (Nat.le_of_ble_eq_true rfl) (Nat.le_of_ble_eq_true rfl) (rt_i Z hr hlk hw dX8_entersAfter_36 ⟨Eq.symm (by subst es33 er33 er10; exact (lf_t e2 (lf_t e13 rfl))), (InvB.mach (q := 1) (by decide) I33 (InvB.copied (q0 := 1) (q1 := 0) (by decide) (by decide) (by omega) I0))⟩))
abbrev rmX8_idleAfter : Room := { frames := 7, cells := 1, slots := 6, locals := 110 }
def f_X8_idleAfter (σ : St) (p1 : Int32) : Nat × Int32 × St := (let r5 := f_X8_isWithin p1 0 1000; (if f_X8_requireArgument r5 = 0 then (let r27 := (f_X5_spendUntilIdle (sb (gmM 1) (cpB 1 0 σ)) p1).1; let u27 : St := (f_X5_spendUntilIdle (sb (gmM 1) (cpB 1 0 σ)) p1).2; (0, r27, mg (giM 1) (cpB 1 0 σ) u27)) else (f_X8_requireArgument r5, 0, σ)))
theorem v_X8_idleAfter : cvV yX8_idleAfter "NestedBells" cX8_idleAfter 2 (some (.int)) 1 := ⟨q_4_136, q_4_137, q_1_1, q_4_138, rfl, by decide +kernel, by decide +kernel, by decide +kernel⟩
set_option maxHeartbeats 4000000 in
set_option maxRecDepth 100000 in
theorem k_X8_idleAfter {l : Launch} {D : va_G} {T : Nat → ClassId} {g ad : Nat → Nat} (hfl : l.stackTraces = false) {σ : St} {p1 : Int32} (I0 : InvB σ) : mT l yX8_idleAfter cX8_idleAfter 2 (some (.int)) rmX8_idleAfter D T g 405 ad (cE (bE g T ad) σ) [.ref (ad 0), .int p1] (qI D 405 ad (bE g T ad) (pXI (f_X8_idleAfter σ p1) InvB)) (qX D 405 ad (bE g T ad) (pXX (f_X8_idleAfter σ p1) InvB)) := by
  refine mT.of (own := "NestedBells") (by decide +kernel) (Nat.le_of_ble_eq_true rfl) rfl ?_
  intro p e s m below meth c A ls H locs Z hT hr hlk ht hw hl
  have hx := Z.1.1
  have hb := Z.1.2.1
  have hl : lv_has ls 2 [(0, .ref (ad 0)), (1, .int p1)] := hl
  refine lv_iload_n hx hb dX8_idleAfter_0 rfl (lv_at hl 1 rfl) ?_
  refine lv_iconst (v := 0) hx hb dX8_idleAfter_1 (by decide +kernel) ?_
  refine lv_sipush (v := 1000) hx hb dX8_idleAfter_2 (by decide +kernel) ?_
  refine bk_ip (rnS (rest := []) Z hw (k_X8_isWithin (p1 := p1) (p2 := 0) (p3 := 1000) ) v_X8_isWithin rfl q_4_80 hl.1 rfl rfl (Nat.le_of_ble_eq_true rfl) ⟨(Nat.le_of_ble_eq_true rfl), (Nat.le_of_ble_eq_true rfl)⟩ ⟨(Nat.le_of_ble_eq_true rfl), (Nat.le_of_ble_eq_true rfl)⟩ dX8_idleAfter_5) hw Z (fun r5 er5 H locs hw => ?_)
  refine bx_v (rxS (rest := []) Z hw hT (k_X8_requireArgument hfl (p1 := r5) ) v_X8_requireArgument rfl q_4_81 hl.1 rfl rfl (Nat.le_of_ble_eq_true rfl) ⟨(Nat.le_of_ble_eq_true rfl), (Nat.le_of_ble_eq_true rfl)⟩ ⟨(Nat.le_of_ble_eq_true rfl), (Nat.le_of_ble_eq_true rfl)⟩ dX8_idleAfter_8) hw Z hlk ht (fun k8 u8 hp8 => ?_) (Nat.le_of_ble_eq_true rfl) (Nat.le_of_ble_eq_true rfl) (fun u8 H locs hp8 hw => ?_)
  · obtain ⟨h18, h28, h38⟩ := hp8
    subst h28 h38
    exact ⟨h18, Eq.symm (by subst er5; exact (lf_f h18 rfl)), I0⟩
  · obtain ⟨e8, rfl⟩ := hp8
    refine lv_aload_n hx hb dX8_idleAfter_11 rfl (lv_at hl 0 rfl) ?_
    refine gO (C := "NestedBells") (TC := TX8) (NF := 5) (ci := 6) (j := 1) (v := .ref (ad 63)) Z hw (0) (by decide) rfl (fun _ => rfl) rfl iX8 (by decide) q_2_19 rfl rfl dX8_idleAfter_12 ?_
    refine lv_aload_n hx hb dX8_idleAfter_15 rfl (lv_at hl 0 rfl) ?_
    refine gO (C := "NestedBells") (TC := TX8) (NF := 5) (ci := 6) (j := 0) (v := .ref (ad 6)) Z hw (0) (by decide) rfl (fun _ => rfl) rfl iX8 (by decide) q_2_18 rfl rfl dX8_idleAfter_16 ?_
    refine bs_v (prtP (g := g) (T := T) (ad := ad) (q0 := 1) (q1 := 0) (by decide) (by decide) (by omega)) (rnV (rest := []) Z ((prtP (g := g) (T := T) (ad := ad) (q0 := 1) (q1 := 0) (by decide) (by decide) (by omega)).sub hw) k_X5_copyFrom v_X5_copyFrom q_4_127 0 (by decide) rfl rfl rfl rfl hl.1 rfl rfl (Nat.le_of_ble_eq_true rfl) ⟨(Nat.le_of_ble_eq_true rfl), (Nat.le_of_ble_eq_true rfl)⟩ ⟨(Nat.le_of_ble_eq_true rfl), (Nat.le_of_ble_eq_true rfl)⟩ dX8_idleAfter_19) hw Z (fun u19 H locs hp hw => ?_)
    obtain ⟨rfl, -⟩ := hp
    refine lv_aload_n hx hb dX8_idleAfter_22 rfl (lv_at hl 0 rfl) ?_
    refine gO (C := "NestedBells") (TC := TX8) (NF := 5) (ci := 6) (j := 1) (v := .ref (ad 63)) Z hw (0) (by decide) rfl (fun _ => rfl) rfl iX8 (by decide) q_2_19 rfl rfl dX8_idleAfter_23 ?_
    refine lv_iload_n hx hb dX8_idleAfter_26 rfl (lv_at hl 1 rfl) ?_
    refine bs_i (prtM (g := g) (T := T) (ad := ad) (q := 1) (by decide)) (rnV (rest := []) Z ((prtM (g := g) (T := T) (ad := ad) (q := 1) (by decide)).sub hw) (k_X5_spendUntilIdle (p1 := p1) ((InvB.copied (q0 := 1) (q1 := 0) (by decide) (by decide) (by omega) I0).2.2.2 1 (by decide)) (most_le er5 e8)) v_X5_spendUntilIdle q_4_139 0 (by decide) rfl rfl rfl rfl hl.1 rfl rfl (Nat.le_of_ble_eq_true rfl) ⟨(Nat.le_of_ble_eq_true rfl), (Nat.le_of_ble_eq_true rfl)⟩ ⟨(Nat.le_of_ble_eq_true rfl), (Nat.le_of_ble_eq_true rfl)⟩ dX8_idleAfter_27) hw Z (fun r27 u27 H locs hp hw => ?_)
    obtain ⟨er27, es27, I27⟩ := hp
    exact vx_ret (W.widen (Nat.le_of_ble_eq_true rfl) (Nat.le_of_ble_eq_true rfl) (rt_i Z hr hlk hw dX8_idleAfter_30 ⟨Eq.symm (by subst es27 er27 er5; exact (lf_t e8 rfl)), (InvB.mach (q := 1) (by decide) I27 (InvB.copied (q0 := 1) (q1 := 0) (by decide) (by decide) (by omega) I0))⟩))
abbrev rmX8_latencyIf : Room := { frames := 7, cells := 2, slots := 12, locals := 113 }
def f_X8_latencyIf (σ : St) (p1 : Int32) (p2 : Int32) : Nat × Int32 × St := (if f_X8_requireSource σ p1 = 0 then (let r10 := f_X8_isWithin p2 0 1000; (if f_X8_requireArgument r10 = 0 then (let u32 : St := f_X5_makePending (sb (gmM 1) (cpB 1 0 σ)) p1; (let r41 := (f_X5_spendUntilOnTop (sb (gmM 1) (mg (giM 1) (cpB 1 0 σ) u32)) p1 p2).1; let u41 : St := (f_X5_spendUntilOnTop (sb (gmM 1) (mg (giM 1) (cpB 1 0 σ) u32)) p1 p2).2; (if r41 = (-1) then (0, (-1), mg (giM 1) (mg (giM 1) (cpB 1 0 σ) u32) u41) else (let r55 := f_X5_latestLatency (sb (gmM 1) (mg (giM 1) (mg (giM 1) (cpB 1 0 σ) u32) u41)) p1; (0, r55, mg (giM 1) (mg (giM 1) (cpB 1 0 σ) u32) u41))))) else (f_X8_requireArgument r10, 0, σ))) else (f_X8_requireSource σ p1, 0, σ))
theorem v_X8_latencyIf : cvV yX8_latencyIf "NestedBells" cX8_latencyIf 3 (some (.int)) 2 := ⟨q_4_151, q_4_152, q_1_1, q_4_153, rfl, by decide +kernel, by decide +kernel, by decide +kernel⟩
set_option maxHeartbeats 4000000 in
set_option maxRecDepth 100000 in
theorem k_X8_latencyIf {l : Launch} {D : va_G} {T : Nat → ClassId} {g ad : Nat → Nat} (hfl : l.stackTraces = false) {σ : St} {p1 : Int32} {p2 : Int32} (I0 : InvB σ) : mT l yX8_latencyIf cX8_latencyIf 3 (some (.int)) rmX8_latencyIf D T g 405 ad (cE (bE g T ad) σ) [.ref (ad 0), .int p1, .int p2] (qI D 405 ad (bE g T ad) (pXI (f_X8_latencyIf σ p1 p2) InvB)) (qX D 405 ad (bE g T ad) (pXX (f_X8_latencyIf σ p1 p2) InvB)) := by
  refine mT.of (own := "NestedBells") (by decide +kernel) (Nat.le_of_ble_eq_true rfl) rfl ?_
  intro p e s m below meth c A ls H locs Z hT hr hlk ht hw hl
  have hx := Z.1.1
  have hb := Z.1.2.1
  have hl : lv_has ls 3 [(0, .ref (ad 0)), (1, .int p1), (2, .int p2)] := hl
  refine lv_aload_n hx hb dX8_latencyIf_0 rfl (lv_at hl 0 rfl) ?_
  refine lv_iload_n hx hb dX8_latencyIf_1 rfl (lv_at hl 1 rfl) ?_
  refine bx_v (rxV (rest := []) Z hw hT (k_X8_requireSource hfl (p1 := p1) I0) v_X8_requireSource q_4_75 0 (by decide) rfl rfl rfl rfl hl.1 rfl rfl (Nat.le_of_ble_eq_true rfl) ⟨(Nat.le_of_ble_eq_true rfl), (Nat.le_of_ble_eq_true rfl)⟩ ⟨(Nat.le_of_ble_eq_true rfl), (Nat.le_of_ble_eq_true rfl)⟩ dX8_latencyIf_2) hw Z hlk ht (fun k2 u2 hp2 => ?_) (Nat.le_of_ble_eq_true rfl) (Nat.le_of_ble_eq_true rfl) (fun u2 H locs hp2 hw => ?_)
  · obtain ⟨h12, h22, h32⟩ := hp2
    subst h22 h32
    exact ⟨h12, Eq.symm (lf_f h12 rfl), I0⟩
  · obtain ⟨e2, rfl⟩ := hp2
    refine lv_iload_n hx hb dX8_latencyIf_5 rfl (lv_at hl 2 rfl) ?_
    refine lv_iconst (v := 0) hx hb dX8_latencyIf_6 (by decide +kernel) ?_
    refine lv_sipush (v := 1000) hx hb dX8_latencyIf_7 (by decide +kernel) ?_
    refine bk_ip (rnS (rest := []) Z hw (k_X8_isWithin (p1 := p2) (p2 := 0) (p3 := 1000) ) v_X8_isWithin rfl q_4_80 hl.1 rfl rfl (Nat.le_of_ble_eq_true rfl) ⟨(Nat.le_of_ble_eq_true rfl), (Nat.le_of_ble_eq_true rfl)⟩ ⟨(Nat.le_of_ble_eq_true rfl), (Nat.le_of_ble_eq_true rfl)⟩ dX8_latencyIf_10) hw Z (fun r10 er10 H locs hw => ?_)
    refine bx_v (rxS (rest := []) Z hw hT (k_X8_requireArgument hfl (p1 := r10) ) v_X8_requireArgument rfl q_4_81 hl.1 rfl rfl (Nat.le_of_ble_eq_true rfl) ⟨(Nat.le_of_ble_eq_true rfl), (Nat.le_of_ble_eq_true rfl)⟩ ⟨(Nat.le_of_ble_eq_true rfl), (Nat.le_of_ble_eq_true rfl)⟩ dX8_latencyIf_13) hw Z hlk ht (fun k13 u13 hp13 => ?_) (Nat.le_of_ble_eq_true rfl) (Nat.le_of_ble_eq_true rfl) (fun u13 H locs hp13 hw => ?_)
    · obtain ⟨h113, h213, h313⟩ := hp13
      subst h213 h313
      exact ⟨h113, Eq.symm (by subst er10; exact (lf_t e2 (lf_f h113 rfl))), I0⟩
    · obtain ⟨e13, rfl⟩ := hp13
      refine lv_aload_n hx hb dX8_latencyIf_16 rfl (lv_at hl 0 rfl) ?_
      refine gO (C := "NestedBells") (TC := TX8) (NF := 5) (ci := 6) (j := 1) (v := .ref (ad 63)) Z hw (0) (by decide) rfl (fun _ => rfl) rfl iX8 (by decide) q_2_19 rfl rfl dX8_latencyIf_17 ?_
      refine lv_aload_n hx hb dX8_latencyIf_20 rfl (lv_at hl 0 rfl) ?_
      refine gO (C := "NestedBells") (TC := TX8) (NF := 5) (ci := 6) (j := 0) (v := .ref (ad 6)) Z hw (0) (by decide) rfl (fun _ => rfl) rfl iX8 (by decide) q_2_18 rfl rfl dX8_latencyIf_21 ?_
      refine bs_v (prtP (g := g) (T := T) (ad := ad) (q0 := 1) (q1 := 0) (by decide) (by decide) (by omega)) (rnV (rest := []) Z ((prtP (g := g) (T := T) (ad := ad) (q0 := 1) (q1 := 0) (by decide) (by decide) (by omega)).sub hw) k_X5_copyFrom v_X5_copyFrom q_4_127 0 (by decide) rfl rfl rfl rfl hl.1 rfl rfl (Nat.le_of_ble_eq_true rfl) ⟨(Nat.le_of_ble_eq_true rfl), (Nat.le_of_ble_eq_true rfl)⟩ ⟨(Nat.le_of_ble_eq_true rfl), (Nat.le_of_ble_eq_true rfl)⟩ dX8_latencyIf_24) hw Z (fun u24 H locs hp hw => ?_)
      obtain ⟨rfl, -⟩ := hp
      refine lv_aload_n hx hb dX8_latencyIf_27 rfl (lv_at hl 0 rfl) ?_
      refine gO (C := "NestedBells") (TC := TX8) (NF := 5) (ci := 6) (j := 1) (v := .ref (ad 63)) Z hw (0) (by decide) rfl (fun _ => rfl) rfl iX8 (by decide) q_2_19 rfl rfl dX8_latencyIf_28 ?_
      refine lv_iload_n hx hb dX8_latencyIf_31 rfl (lv_at hl 1 rfl) ?_
      refine bs_v (prtM (g := g) (T := T) (ad := ad) (q := 1) (by decide)) (rnV (rest := []) Z ((prtM (g := g) (T := T) (ad := ad) (q := 1) (by decide)).sub hw) (k_X5_makePending (p1 := p1) ((InvB.copied (q0 := 1) (q1 := 0) (by decide) (by decide) (by omega) I0).2.2.2 1 (by decide))) v_X5_makePending q_4_154 0 (by decide) rfl rfl rfl rfl hl.1 rfl rfl (Nat.le_of_ble_eq_true rfl) ⟨(Nat.le_of_ble_eq_true rfl), (Nat.le_of_ble_eq_true rfl)⟩ ⟨(Nat.le_of_ble_eq_true rfl), (Nat.le_of_ble_eq_true rfl)⟩ dX8_latencyIf_32) hw Z (fun u32 H locs hp hw => ?_)
      obtain ⟨es32, I32⟩ := hp
      refine lv_aload_n hx hb dX8_latencyIf_35 rfl (lv_at hl 0 rfl) ?_
      refine gO (C := "NestedBells") (TC := TX8) (NF := 5) (ci := 6) (j := 1) (v := .ref (ad 63)) Z hw (0) (by decide) rfl (fun _ => rfl) rfl iX8 (by decide) q_2_19 rfl rfl dX8_latencyIf_36 ?_
      refine lv_iload_n hx hb dX8_latencyIf_39 rfl (lv_at hl 1 rfl) ?_
      refine lv_iload_n hx hb dX8_latencyIf_40 rfl (lv_at hl 2 rfl) ?_
      refine bs_i (prtM (g := g) (T := T) (ad := ad) (q := 1) (by decide)) (rnV (rest := []) Z ((prtM (g := g) (T := T) (ad := ad) (q := 1) (by decide)).sub hw) (k_X5_spendUntilOnTop (p1 := p1) (p2 := p2) ((InvB.mach (q := 1) (by decide) I32 (InvB.copied (q0 := 1) (q1 := 0) (by decide) (by decide) (by omega) I0)).2.2.2 1 (by decide)) (most_le er10 e13)) v_X5_spendUntilOnTop q_4_128 0 (by decide) rfl rfl rfl rfl hl.1 rfl rfl (Nat.le_of_ble_eq_true rfl) ⟨(Nat.le_of_ble_eq_true rfl), (Nat.le_of_ble_eq_true rfl)⟩ ⟨(Nat.le_of_ble_eq_true rfl), (Nat.le_of_ble_eq_true rfl)⟩ dX8_latencyIf_41) hw Z (fun r41 u41 H locs hp hw => ?_)
      obtain ⟨er41, es41, I41⟩ := hp
      refine lv_iconst (v := (-1)) hx hb dX8_latencyIf_44 (by decide +kernel) ?_
      refine lv_icmp_ne (tgt := 50) hx hb dX8_latencyIf_45 (by decide) (fun c45 => ?_) (fun c45 => ?_)
      · refine lv_aload_n hx hb dX8_latencyIf_50 rfl (lv_at hl 0 rfl) ?_
        refine gO (C := "NestedBells") (TC := TX8) (NF := 5) (ci := 6) (j := 1) (v := .ref (ad 63)) Z hw (0) (by decide) rfl (fun _ => rfl) rfl iX8 (by decide) q_2_19 rfl rfl dX8_latencyIf_51 ?_
        refine lv_iload_n hx hb dX8_latencyIf_54 rfl (lv_at hl 1 rfl) ?_
        refine bs_ip (prtM (g := g) (T := T) (ad := ad) (q := 1) (by decide)) (rnV (rest := []) Z ((prtM (g := g) (T := T) (ad := ad) (q := 1) (by decide)).sub hw) (k_X5_latestLatency (p1 := p1) ((InvB.mach (q := 1) (by decide) I41 (InvB.mach (q := 1) (by decide) I32 (InvB.copied (q0 := 1) (q1 := 0) (by decide) (by decide) (by omega) I0))).2.2.2 1 (by decide))) v_X5_latestLatency q_4_159 0 (by decide) rfl rfl rfl rfl hl.1 rfl rfl (Nat.le_of_ble_eq_true rfl) ⟨(Nat.le_of_ble_eq_true rfl), (Nat.le_of_ble_eq_true rfl)⟩ ⟨(Nat.le_of_ble_eq_true rfl), (Nat.le_of_ble_eq_true rfl)⟩ dX8_latencyIf_55) hw Z (fun r55 er55 H locs hw => ?_)
        exact vx_ret (W.widen (Nat.le_of_ble_eq_true rfl) (Nat.le_of_ble_eq_true rfl) (rt_i Z hr hlk hw dX8_latencyIf_58 ⟨Eq.symm (by subst er55 es41 er41 es32 er10; exact (lf_t e2 (lf_t e13 (lf_f c45 rfl)))), (InvB.mach (q := 1) (by decide) I41 (InvB.mach (q := 1) (by decide) I32 (InvB.copied (q0 := 1) (q1 := 0) (by decide) (by decide) (by omega) I0)))⟩))
      · refine lv_iconst (v := (-1)) hx hb dX8_latencyIf_48 (by decide +kernel) ?_
        exact vx_ret (W.widen (Nat.le_of_ble_eq_true rfl) (Nat.le_of_ble_eq_true rfl) (rt_i Z hr hlk hw dX8_latencyIf_49 ⟨Eq.symm (by subst es41 er41 es32 er10; exact (lf_t e2 (lf_t e13 (lf_t c45 rfl)))), (InvB.mach (q := 1) (by decide) I41 (InvB.mach (q := 1) (by decide) I32 (InvB.copied (q0 := 1) (q1 := 0) (by decide) (by decide) (by omega) I0)))⟩))
abbrev rmX8_blocking : Room := { frames := 7, cells := 1, slots := 6, locals := 103 }
def f_X8_blocking (σ : St) (p1 : Int32) : Nat × Int32 × St := (if f_X8_requireSource σ p1 = 0 then (let r10 := f_X5_longestBlocking (sb (gmM 0) σ) p1; (0, r10, σ)) else (f_X8_requireSource σ p1, 0, σ))
theorem v_X8_blocking : cvV yX8_blocking "NestedBells" cX8_blocking 2 (some (.int)) 1 := ⟨q_4_167, q_4_168, q_1_1, q_4_169, rfl, by decide +kernel, by decide +kernel, by decide +kernel⟩
set_option maxHeartbeats 4000000 in
set_option maxRecDepth 100000 in
theorem k_X8_blocking {l : Launch} {D : va_G} {T : Nat → ClassId} {g ad : Nat → Nat} (hfl : l.stackTraces = false) {σ : St} {p1 : Int32} (I0 : InvB σ) : mT l yX8_blocking cX8_blocking 2 (some (.int)) rmX8_blocking D T g 405 ad (cE (bE g T ad) σ) [.ref (ad 0), .int p1] (qI D 405 ad (bE g T ad) (pXI (f_X8_blocking σ p1) InvB)) (qX D 405 ad (bE g T ad) (pXX (f_X8_blocking σ p1) InvB)) := by
  refine mT.of (own := "NestedBells") (by decide +kernel) (Nat.le_of_ble_eq_true rfl) rfl ?_
  intro p e s m below meth c A ls H locs Z hT hr hlk ht hw hl
  have hx := Z.1.1
  have hb := Z.1.2.1
  have hl : lv_has ls 2 [(0, .ref (ad 0)), (1, .int p1)] := hl
  refine lv_aload_n hx hb dX8_blocking_0 rfl (lv_at hl 0 rfl) ?_
  refine lv_iload_n hx hb dX8_blocking_1 rfl (lv_at hl 1 rfl) ?_
  refine bx_v (rxV (rest := []) Z hw hT (k_X8_requireSource hfl (p1 := p1) I0) v_X8_requireSource q_4_75 0 (by decide) rfl rfl rfl rfl hl.1 rfl rfl (Nat.le_of_ble_eq_true rfl) ⟨(Nat.le_of_ble_eq_true rfl), (Nat.le_of_ble_eq_true rfl)⟩ ⟨(Nat.le_of_ble_eq_true rfl), (Nat.le_of_ble_eq_true rfl)⟩ dX8_blocking_2) hw Z hlk ht (fun k2 u2 hp2 => ?_) (Nat.le_of_ble_eq_true rfl) (Nat.le_of_ble_eq_true rfl) (fun u2 H locs hp2 hw => ?_)
  · obtain ⟨h12, h22, h32⟩ := hp2
    subst h22 h32
    exact ⟨h12, Eq.symm (lf_f h12 rfl), I0⟩
  · obtain ⟨e2, rfl⟩ := hp2
    refine lv_aload_n hx hb dX8_blocking_5 rfl (lv_at hl 0 rfl) ?_
    refine gO (C := "NestedBells") (TC := TX8) (NF := 5) (ci := 6) (j := 0) (v := .ref (ad 6)) Z hw (0) (by decide) rfl (fun _ => rfl) rfl iX8 (by decide) q_2_18 rfl rfl dX8_blocking_6 ?_
    refine lv_iload_n hx hb dX8_blocking_9 rfl (lv_at hl 1 rfl) ?_
    refine bs_ip (prtM (g := g) (T := T) (ad := ad) (q := 0) (by decide)) (rnV (rest := []) Z ((prtM (g := g) (T := T) (ad := ad) (q := 0) (by decide)).sub hw) (k_X5_longestBlocking (p1 := p1) (I0.2.2.2 0 (by decide))) v_X5_longestBlocking q_4_170 0 (by decide) rfl rfl rfl rfl hl.1 rfl rfl (Nat.le_of_ble_eq_true rfl) ⟨(Nat.le_of_ble_eq_true rfl), (Nat.le_of_ble_eq_true rfl)⟩ ⟨(Nat.le_of_ble_eq_true rfl), (Nat.le_of_ble_eq_true rfl)⟩ dX8_blocking_10) hw Z (fun r10 er10 H locs hw => ?_)
    exact vx_ret (W.widen (Nat.le_of_ble_eq_true rfl) (Nat.le_of_ble_eq_true rfl) (rt_i Z hr hlk hw dX8_blocking_13 ⟨Eq.symm (by subst er10; exact (lf_t e2 rfl)), I0⟩))
abbrev rmX8_type : Room := { frames := 7, cells := 2, slots := 12, locals := 102 }
def f_X8_type (σ : St) (p1 : Int32) : Nat × Int32 × St := (let r4 := f_X8_isWithin p1 0 127; (if f_X8_requireArgument r4 = 0 then (let r15 := (f_X2_append (sb gmX σ) p1).1; let u15 : St := (f_X2_append (sb gmX σ) p1).2; (if r15 = 0 then (3, 0, mg giX σ u15) else (0, (mg giX σ u15) 3 1, mg giX σ u15))) else (f_X8_requireArgument r4, 0, σ)))
theorem v_X8_type : cvV yX8_type "NestedBells" cX8_type 2 (some (.int)) 1 := ⟨q_4_186, q_4_187, q_1_1, q_4_188, rfl, by decide +kernel, by decide +kernel, by decide +kernel⟩
set_option maxHeartbeats 4000000 in
set_option maxRecDepth 100000 in
theorem k_X8_type {l : Launch} {D : va_G} {T : Nat → ClassId} {g ad : Nat → Nat} (hfl : l.stackTraces = false) {σ : St} {p1 : Int32} (I0 : InvB σ) : mT l yX8_type cX8_type 2 (some (.int)) rmX8_type D T g 405 ad (cE (bE g T ad) σ) [.ref (ad 0), .int p1] (qI D 405 ad (bE g T ad) (pXI (f_X8_type σ p1) InvB)) (qX D 405 ad (bE g T ad) (pXX (f_X8_type σ p1) InvB)) := by
  refine mT.of (own := "NestedBells") (by decide +kernel) (Nat.le_of_ble_eq_true rfl) rfl ?_
  intro p e s m below meth c A ls H locs Z hT hr hlk ht hw hl
  have hx := Z.1.1
  have hb := Z.1.2.1
  have hl : lv_has ls 2 [(0, .ref (ad 0)), (1, .int p1)] := hl
  refine lv_iload_n hx hb dX8_type_0 rfl (lv_at hl 1 rfl) ?_
  refine lv_iconst (v := 0) hx hb dX8_type_1 (by decide +kernel) ?_
  refine lv_bipush (v := 127) hx hb dX8_type_2 (by decide +kernel) ?_
  refine bk_ip (rnS (rest := []) Z hw (k_X8_isWithin (p1 := p1) (p2 := 0) (p3 := 127) ) v_X8_isWithin rfl q_4_80 hl.1 rfl rfl (Nat.le_of_ble_eq_true rfl) ⟨(Nat.le_of_ble_eq_true rfl), (Nat.le_of_ble_eq_true rfl)⟩ ⟨(Nat.le_of_ble_eq_true rfl), (Nat.le_of_ble_eq_true rfl)⟩ dX8_type_4) hw Z (fun r4 er4 H locs hw => ?_)
  refine bx_v (rxS (rest := []) Z hw hT (k_X8_requireArgument hfl (p1 := r4) ) v_X8_requireArgument rfl q_4_81 hl.1 rfl rfl (Nat.le_of_ble_eq_true rfl) ⟨(Nat.le_of_ble_eq_true rfl), (Nat.le_of_ble_eq_true rfl)⟩ ⟨(Nat.le_of_ble_eq_true rfl), (Nat.le_of_ble_eq_true rfl)⟩ dX8_type_7) hw Z hlk ht (fun k7 u7 hp7 => ?_) (Nat.le_of_ble_eq_true rfl) (Nat.le_of_ble_eq_true rfl) (fun u7 H locs hp7 hw => ?_)
  · obtain ⟨h17, h27, h37⟩ := hp7
    subst h27 h37
    exact ⟨h17, Eq.symm (by subst er4; exact (lf_f h17 rfl)), I0⟩
  · obtain ⟨e7, rfl⟩ := hp7
    refine lv_aload_n hx hb dX8_type_10 rfl (lv_at hl 0 rfl) ?_
    refine gO (C := "NestedBells") (TC := TX8) (NF := 5) (ci := 6) (j := 3) (v := .ref (ad 3)) Z hw (0) (by decide) rfl (fun _ => rfl) rfl iX8 (by decide) q_2_21 rfl rfl dX8_type_11 ?_
    refine lv_iload_n hx hb dX8_type_14 rfl (lv_at hl 1 rfl) ?_
    refine bs_i (prtX (g := g) (T := T) (ad := ad)) (rnV (rest := []) Z ((prtX (g := g) (T := T) (ad := ad)).sub hw) (k_X2_append (p1 := p1) I0.2.2.1) v_X2_append q_4_189 0 (by decide) rfl rfl rfl rfl hl.1 rfl rfl (Nat.le_of_ble_eq_true rfl) ⟨(Nat.le_of_ble_eq_true rfl), (Nat.le_of_ble_eq_true rfl)⟩ ⟨(Nat.le_of_ble_eq_true rfl), (Nat.le_of_ble_eq_true rfl)⟩ dX8_type_15) hw Z (fun r15 u15 H locs hp hw => ?_)
    obtain ⟨er15, es15, I15⟩ := hp
    refine lv_if_ne (tgt := 31) hx hb dX8_type_18 (by decide) (fun c18 => ?_) (fun c18 => ?_)
    · refine lv_aload_n hx hb dX8_type_31 rfl (lv_at hl 0 rfl) ?_
      refine gO (C := "NestedBells") (TC := TX8) (NF := 5) (ci := 6) (j := 3) (v := .ref (ad 3)) Z hw (0) (by decide) rfl (fun _ => rfl) rfl iX8 (by decide) q_2_21 rfl rfl dX8_type_32 ?_
      refine gO (C := "NestedBells$CommandText") (TC := TX2) (NF := 6) (ci := 0) (j := 1) (v := .int ((mg giX σ u15) 3 1)) Z hw (3) (by decide) rfl (fun _ => rfl) rfl iX2 (by decide) q_1_237 rfl rfl dX8_type_35 ?_
      exact vx_ret (W.widen (Nat.le_of_ble_eq_true rfl) (Nat.le_of_ble_eq_true rfl) (rt_i Z hr hlk hw dX8_type_38 ⟨Eq.symm (by subst es15 er15 er4; exact (lf_t e7 (lf_f c18 rfl))), (InvB.text I15 I0)⟩))
    · exact th_row (k := 3) (σ := (mg giX σ u15)) Z hw hT hfl thw3 (by decide +kernel) Z.2.2.2.1.2.2.1 hl.1 hlk ht dX8_type_21 dX8_type_24 dX8_type_25 dX8_type_27 dX8_type_30 ⟨by decide, Eq.symm (by subst es15 er15 er4; exact (lf_t e7 (lf_t c18 rfl))), (InvB.text I15 I0)⟩ (Nat.le_of_ble_eq_true rfl) (Nat.le_of_ble_eq_true rfl) (Nat.le_of_ble_eq_true rfl) (Nat.le_of_ble_eq_true rfl) (Nat.le_of_ble_eq_true rfl) (Nat.le_of_ble_eq_true rfl)
abbrev rmX8_undo : Room := { frames := 6, cells := 1, slots := 6, locals := 104 }
def f_X8_undo (σ : St) : Nat × Int32 × St := (let r8 := (f_X4_restore σ).1; let s8 := (f_X4_restore σ).2; (if r8 = 0 then (3, 0, s8) else (0, s8 1 2, s8)))
theorem v_X8_undo : cvV yX8_undo "NestedBells" cX8_undo 1 (some (.int)) 0 := ⟨q_4_198, q_4_199, q_1_1, q_4_200, rfl, by decide +kernel, by decide +kernel, by decide +kernel⟩
set_option maxHeartbeats 4000000 in
set_option maxRecDepth 100000 in
theorem k_X8_undo {l : Launch} {D : va_G} {T : Nat → ClassId} {g ad : Nat → Nat} (hfl : l.stackTraces = false) {σ : St} (I0 : InvB σ) : mT l yX8_undo cX8_undo 1 (some (.int)) rmX8_undo D T g 405 ad (cE (bE g T ad) σ) [.ref (ad 0)] (qI D 405 ad (bE g T ad) (pXI (f_X8_undo σ) InvB)) (qX D 405 ad (bE g T ad) (pXX (f_X8_undo σ) InvB)) := by
  refine mT.of (own := "NestedBells") (by decide +kernel) (Nat.le_of_ble_eq_true rfl) rfl ?_
  intro p e s m below meth c A ls H locs Z hT hr hlk ht hw hl
  have hx := Z.1.1
  have hb := Z.1.2.1
  have hl : lv_has ls 1 [(0, .ref (ad 0))] := hl
  refine lv_aload_n hx hb dX8_undo_0 rfl (lv_at hl 0 rfl) ?_
  refine gO (C := "NestedBells") (TC := TX8) (NF := 5) (ci := 6) (j := 2) (v := .ref (ad 1)) Z hw (0) (by decide) rfl (fun _ => rfl) rfl iX8 (by decide) q_2_20 rfl rfl dX8_undo_1 ?_
  refine lv_aload_n hx hb dX8_undo_4 rfl (lv_at hl 0 rfl) ?_
  refine gO (C := "NestedBells") (TC := TX8) (NF := 5) (ci := 6) (j := 0) (v := .ref (ad 6)) Z hw (0) (by decide) rfl (fun _ => rfl) rfl iX8 (by decide) q_2_18 rfl rfl dX8_undo_5 ?_
  refine bk_i (rnV (rest := []) Z hw (k_X4_restore  I0) v_X4_restore q_4_201 (1) (by decide) rfl rfl rfl rfl hl.1 rfl rfl (Nat.le_of_ble_eq_true rfl) ⟨(Nat.le_of_ble_eq_true rfl), (Nat.le_of_ble_eq_true rfl)⟩ ⟨(Nat.le_of_ble_eq_true rfl), (Nat.le_of_ble_eq_true rfl)⟩ dX8_undo_8) hw Z (fun r8 s8 H locs hp hw => ?_)
  obtain ⟨er8, es8, I8⟩ := hp
  refine lv_if_ne (tgt := 24) hx hb dX8_undo_11 (by decide) (fun c11 => ?_) (fun c11 => ?_)
  · refine lv_aload_n hx hb dX8_undo_24 rfl (lv_at hl 0 rfl) ?_
    refine gO (C := "NestedBells") (TC := TX8) (NF := 5) (ci := 6) (j := 2) (v := .ref (ad 1)) Z hw (0) (by decide) rfl (fun _ => rfl) rfl iX8 (by decide) q_2_20 rfl rfl dX8_undo_25 ?_
    refine gO (C := "NestedBells$History") (TC := TX4) (NF := 3) (ci := 2) (j := 2) (v := .int (s8 1 2)) Z hw (1) (by decide) rfl (fun _ => rfl) rfl iX4 (by decide) q_1_219 rfl rfl dX8_undo_28 ?_
    exact vx_ret (W.widen (Nat.le_of_ble_eq_true rfl) (Nat.le_of_ble_eq_true rfl) (rt_i Z hr hlk hw dX8_undo_31 ⟨Eq.symm (by subst es8 er8; exact (lf_f c11 rfl)), I8⟩))
  · exact th_row (k := 3) (σ := s8) Z hw hT hfl thw3 (by decide +kernel) Z.2.2.2.1.2.2.2.1 hl.1 hlk ht dX8_undo_14 dX8_undo_17 dX8_undo_18 dX8_undo_20 dX8_undo_23 ⟨by decide, Eq.symm (by subst es8 er8; exact (lf_t c11 rfl)), I8⟩ (Nat.le_of_ble_eq_true rfl) (Nat.le_of_ble_eq_true rfl) (Nat.le_of_ble_eq_true rfl) (Nat.le_of_ble_eq_true rfl) (Nat.le_of_ble_eq_true rfl) (Nat.le_of_ble_eq_true rfl)
abbrev rmX8_clearCommands : Room := { frames := 1, cells := 0, slots := 0, locals := 21 }
def f_X8_clearCommands (σ : St) : Int32 × St := (let r4 := (f_X2_empty (sb gmX σ)).1; let u4 : St := (f_X2_empty (sb gmX σ)).2; (r4, mg giX σ u4))
theorem v_X8_clearCommands : cvV yX8_clearCommands "NestedBells" cX8_clearCommands 1 (some (.int)) 0 := ⟨q_2_35, q_2_36, q_1_1, q_2_37, rfl, by decide +kernel, by decide +kernel, by decide +kernel⟩
set_option maxHeartbeats 4000000 in
set_option maxRecDepth 100000 in
theorem k_X8_clearCommands {l : Launch} {D : va_G} {T : Nat → ClassId} {g ad : Nat → Nat} {σ : St} (I0 : InvB σ) : mX l yX8_clearCommands cX8_clearCommands 1 (some (.int)) rmX8_clearCommands D T g 405 ad (cE (bE g T ad) σ) [.ref (ad 0)] (qI D 405 ad (bE g T ad) (pI (f_X8_clearCommands σ) InvB)) := by
  refine mX.of (own := "NestedBells") (by decide +kernel) (Nat.le_of_ble_eq_true rfl) rfl ?_
  intro p e s m below meth c A ls H locs Z hr hlk _ hw hl
  have hx := Z.1.1
  have hb := Z.1.2.1
  have hl : lv_has ls 1 [(0, .ref (ad 0))] := hl
  refine lv_aload_n hx hb dX8_clearCommands_0 rfl (lv_at hl 0 rfl) ?_
  refine gO (C := "NestedBells") (TC := TX8) (NF := 5) (ci := 6) (j := 3) (v := .ref (ad 3)) Z hw (0) (by decide) rfl (fun _ => rfl) rfl iX8 (by decide) q_2_21 rfl rfl dX8_clearCommands_1 ?_
  refine bs_i (prtX (g := g) (T := T) (ad := ad)) (rnV (rest := []) Z ((prtX (g := g) (T := T) (ad := ad)).sub hw) (k_X2_empty  I0.2.2.1) v_X2_empty q_2_38 0 (by decide) rfl rfl rfl rfl hl.1 rfl rfl (Nat.le_of_ble_eq_true rfl) ⟨(Nat.le_of_ble_eq_true rfl), (Nat.le_of_ble_eq_true rfl)⟩ ⟨(Nat.le_of_ble_eq_true rfl), (Nat.le_of_ble_eq_true rfl)⟩ dX8_clearCommands_4) hw Z (fun r4 u4 H locs hp hw => ?_)
  obtain ⟨er4, es4, I4⟩ := hp
  exact rt_i Z hr hlk hw dX8_clearCommands_7 (pI.mk (by subst es4 er4; exact rfl) (InvB.text I4 I0))
abbrev rmX8_stop : Room := { frames := 0, cells := 0, slots := 0, locals := 0 }
def f_X8_stop (σ : St) : Int32 := σ 0 4
theorem v_X8_stop : cvV yX8_stop "NestedBells" cX8_stop 1 (some (.int)) 0 := ⟨q_3_74, q_3_75, q_1_1, q_3_76, rfl, by decide +kernel, by decide +kernel, by decide +kernel⟩
set_option maxHeartbeats 4000000 in
set_option maxRecDepth 100000 in
theorem k_X8_stop {l : Launch} {D : va_G} {T : Nat → ClassId} {g ad : Nat → Nat} {σ : St} (I0 : InvB σ) : mX l yX8_stop cX8_stop 1 (some (.int)) rmX8_stop D T g 405 ad (cE (bE g T ad) σ) [.ref (ad 0)] (qI D 405 ad (bE g T ad) (pR (f_X8_stop σ) σ)) := by
  refine mX.of (own := "NestedBells") (by decide +kernel) (Nat.le_of_ble_eq_true rfl) rfl ?_
  intro p e s m below meth c A ls H locs Z hr hlk _ hw hl
  have hx := Z.1.1
  have hb := Z.1.2.1
  have hl : lv_has ls 1 [(0, .ref (ad 0))] := hl
  refine lv_aload_n hx hb dX8_stop_0 rfl (lv_at hl 0 rfl) ?_
  refine gO (C := "NestedBells") (TC := TX8) (NF := 5) (ci := 6) (j := 4) (v := .int (σ 0 4)) Z hw (0) (by decide) rfl (fun _ => rfl) rfl iX8 (by decide) q_2_22 rfl rfl dX8_stop_1 ?_
  exact rt_i Z hr hlk hw dX8_stop_4 ⟨Eq.symm rfl, rfl⟩
