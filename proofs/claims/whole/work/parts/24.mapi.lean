theorem InvD.set {σ : St} {x v : Int32} (h : 0 ≤ x.toInt ∧ x.toInt < 4) (I : InvD σ) : InvD (up2 σ 1 (1 + x.toNatClampNeg) v) := by
  have := tnc h.1
  exact I.up (by unfold InvDcr; omega)
theorem s1_ix {x : Int32} (h : 0 ≤ x.toInt ∧ x.toInt < 4) : (1 + x).toNatClampNeg = 1 + x.toNatClampNeg := by
  obtain ⟨k, hk, rfl⟩ := of_nI (n := 4) h (by decide)
  rw [show (1 : Int32) = nI 1 from rfl, add_ix (by omega), nI_clamp (by omega)]
theorem s1_vp {x : Int32} (h : 0 ≤ x.toInt ∧ x.toInt < 4) : vp_in (1 + x) 381 := by
  obtain ⟨k, hk, rfl⟩ := of_nI (n := 4) h (by decide)
  exact add_vp (a := 1) (by omega) (by decide)
theorem cs_eq {x r y : Int32} (er : 93 + 24 * x = r) (h : 0 ≤ x.toInt ∧ x.toInt < 12) (hy : 0 ≤ y.toInt ∧ y.toInt < 2) : r + 8 + 3 * y = nI (ix x + (8 + 3 * y.toNatClampNeg)) := by
  have e8 := at_eq er h (w := 8) (by omega)
  rw [show r + 8 = nI (ix x + 8) from e8]
  obtain ⟨k, hk, rfl⟩ := of_nI (n := 2) hy (by decide)
  rw [nI_clamp (by omega), show (3 : Int32) = nI 3 from rfl, pk_mul, nI_add, Nat.add_assoc]
theorem cs_ix {x r y : Int32} (er : 93 + 24 * x = r) (h : 0 ≤ x.toInt ∧ x.toInt < 12) (hy : 0 ≤ y.toInt ∧ y.toInt < 2) : (r + 8 + 3 * y).toNatClampNeg = ix x + (8 + 3 * y.toNatClampNeg) := by
  have := ix_lt h
  have := tnc hy.1
  rw [cs_eq er h hy, nI_clamp (by omega)]
theorem cs_vp {x r y : Int32} (er : 93 + 24 * x = r) (h : 0 ≤ x.toInt ∧ x.toInt < 12) (hy : 0 ≤ y.toInt ∧ y.toInt < 2) : vp_in (r + 8 + 3 * y) 381 := by
  have := ix_lt h
  have := tnc hy.1
  rw [cs_eq er h hy]
  exact vp_in_nI (by omega) (by decide)
theorem cs_ixw {x r y : Int32} {w : Nat} (er : 93 + 24 * x = r) (h : 0 ≤ x.toInt ∧ x.toInt < 12) (hy : 0 ≤ y.toInt ∧ y.toInt < 2) (hw : w < 3) : (r + 8 + 3 * y + nI w).toNatClampNeg = ix x + (8 + w + 3 * y.toNatClampNeg) := by
  have := ix_lt h
  have := tnc hy.1
  rw [cs_eq er h hy, nI_add, nI_clamp (by omega)]
  omega
theorem cs_vpw {x r y : Int32} {w : Nat} (er : 93 + 24 * x = r) (h : 0 ≤ x.toInt ∧ x.toInt < 12) (hy : 0 ≤ y.toInt ∧ y.toInt < 2) (hw : w < 3) : vp_in (r + 8 + 3 * y + nI w) 381 := by
  have := ix_lt h
  have := tnc hy.1
  rw [cs_eq er h hy, nI_add]
  exact vp_in_nI (by omega) (by decide)
theorem cs_w {y : Int32} {w : Nat} (hy : 0 ≤ y.toInt ∧ y.toInt < 2) (hw : w < 3) : 8 + w + 3 * y.toNatClampNeg < 24 ∧ 8 + w + 3 * y.toNatClampNeg ≠ 7 := by
  have := tnc hy.1
  omega
theorem sec1 {v : Int32} (h : 0 ≤ v.toInt ∧ v.toInt < 2) : 0 ≤ (v + 1).toInt ∧ (v + 1).toInt ≤ 2 := by
  obtain ⟨k, hk, rfl⟩ := of_nI (n := 2) h (by decide)
  have key : ∀ k, k < 2 → 0 ≤ (nI k + 1).toInt ∧ (nI k + 1).toInt ≤ 2 := by decide +kernel
  exact key k hk
theorem of7 {σ : St} {x r : Int32} (er : f_X9_of σ x 7 = r) : σ 1 (ix x + 7) = r := by rw [← er, show (7 : Int32) = nI 7 from rfl, of_lit (by decide)]

abbrev rmX9_isEntered : Room := { frames := 0, cells := 0, slots := 0, locals := 0 }
def f_X9_isEntered (σ : St) (p1 : Int32) : Int32 := (if (σ 1 6) = p1 then 1 else 0)
theorem v_X9_isEntered : cvV yX9_isEntered "NestedBellsModel" cX9_isEntered 2 (some (.boolean)) 1 := ⟨q_5_60, s_40, q_1_10, q_5_61, rfl, by decide +kernel, by decide +kernel, by decide +kernel⟩
set_option maxHeartbeats 4000000 in
set_option maxRecDepth 100000 in
theorem k_X9_isEntered {l : Launch} {D : va_G} {T : Nat → ClassId} {g ad : Nat → Nat} {σ : St} {p1 : Int32} (I0 : InvD σ) : mX l yX9_isEntered cX9_isEntered 2 (some (.boolean)) rmX9_isEntered D T g 6 ad (cE (dE T ad) σ) [.ref (ad 0), .int p1] (qI D 6 ad (dE T ad) (pR (f_X9_isEntered σ p1) σ)) := by
  refine mX.of (own := "NestedBellsModel") (by decide +kernel) (Nat.le_of_ble_eq_true rfl) rfl ?_
  intro p e s m below meth c A ls H locs Z hr hlk _ hw hl
  have hx := Z.1.1
  have hb := Z.1.2.1
  have hl : lv_has ls 2 [(0, .ref (ad 0)), (1, .int p1)] := hl
  refine lv_aload_n hx hb dX9_isEntered_0 rfl (lv_at hl 0 rfl) ?_
  refine gD (j := 0) (v := .ref (ad 1)) Z hw  (by decide) q_4_212 rfl rfl dX9_isEntered_1 ?_
  refine lv_bipush (v := 6) hx hb dX9_isEntered_4 (by decide +kernel) ?_
  refine aE (v := σ 1 6) Z hw 1 (by decide) rfl (fun _ => rfl) (vp_in_nI (n := 6) (by decide) (by decide)) ((congrArg (σ 1) (nI_clamp (n := 6) (by decide))).trans rfl) dX9_isEntered_6 ?_
  refine lv_iload_n hx hb dX9_isEntered_7 rfl (lv_at hl 1 rfl) ?_
  refine lv_icmp_ne (tgt := 15) hx hb dX9_isEntered_8 (by decide) (fun c8 => ?_) (fun c8 => ?_)
  · refine lv_iconst (v := 0) hx hb dX9_isEntered_15 (by decide +kernel) ?_
    exact rt_z Z hr hlk hw rfl dX9_isEntered_16 ⟨Eq.symm (lf_f c8 rfl), rfl⟩
  · refine lv_iconst (v := 1) hx hb dX9_isEntered_11 (by decide +kernel) ?_
    refine lv_goto (tgt := 16) hx hb dX9_isEntered_12 (by decide) ?_
    exact rt_z Z hr hlk hw rfl dX9_isEntered_16 ⟨Eq.symm (lf_t c8 rfl), rfl⟩
abbrev rmX9_badTimer : Room := { frames := 2, cells := 0, slots := 0, locals := 43 }
def f_X9_badTimer (σ : St) (p1 : Int32) (p2 : Int32) (p3 : Int32) : Int32 := (let r2 := f_X9_isSource σ p1; (if r2 = 0 then 1 else (let r17 := f_X9_in p2 0 999; (if r17 = 0 then 2 else (let r28 := f_X9_in p3 0 1000; (if r28 = 0 then 2 else (let r41 := f_X9_of σ p1 1; (if r41 = 1 then 3 else 0))))))))
theorem v_X9_badTimer : cvV yX9_badTimer "NestedBellsModel" cX9_badTimer 4 (some (.int)) 3 := ⟨q_5_88, s_44, q_1_10, q_5_89, rfl, by decide +kernel, by decide +kernel, by decide +kernel⟩
set_option maxHeartbeats 4000000 in
set_option maxRecDepth 100000 in
theorem k_X9_badTimer {l : Launch} {D : va_G} {T : Nat → ClassId} {g ad : Nat → Nat} {σ : St} {p1 : Int32} {p2 : Int32} {p3 : Int32} (I0 : InvD σ) : mX l yX9_badTimer cX9_badTimer 4 (some (.int)) rmX9_badTimer D T g 6 ad (cE (dE T ad) σ) [.ref (ad 0), .int p1, .int p2, .int p3] (qI D 6 ad (dE T ad) (pR (f_X9_badTimer σ p1 p2 p3) σ)) := by
  refine mX.of (own := "NestedBellsModel") (by decide +kernel) (Nat.le_of_ble_eq_true rfl) rfl ?_
  intro p e s m below meth c A ls H locs Z hr hlk _ hw hl
  have hx := Z.1.1
  have hb := Z.1.2.1
  have hl : lv_has ls 4 [(0, .ref (ad 0)), (1, .int p1), (2, .int p2), (3, .int p3)] := hl
  refine lv_aload_n hx hb dX9_badTimer_0 rfl (lv_at hl 0 rfl) ?_
  refine lv_iload_n hx hb dX9_badTimer_1 rfl (lv_at hl 1 rfl) ?_
  refine bk_ip (rnV (rest := []) Z hw (k_X9_isSource (p1 := p1) I0) v_X9_isSource q_5_47 (0) (by decide) rfl rfl rfl rfl hl.1 rfl rfl (Nat.le_of_ble_eq_true rfl) ⟨(Nat.le_of_ble_eq_true rfl), (Nat.le_of_ble_eq_true rfl)⟩ ⟨(Nat.le_of_ble_eq_true rfl), (Nat.le_of_ble_eq_true rfl)⟩ dX9_badTimer_2) hw Z (fun r2 er2 H locs hw => ?_)
  refine lv_if_ne (tgt := 12) hx hb dX9_badTimer_5 (by decide) (fun c5 => ?_) (fun c5 => ?_)
  · have hs := src_rng12 I0 er2 c5
    refine lv_iload_n hx hb dX9_badTimer_12 rfl (lv_at hl 2 rfl) ?_
    refine lv_iconst (v := 0) hx hb dX9_badTimer_13 (by decide +kernel) ?_
    refine lv_sipush (v := 999) hx hb dX9_badTimer_14 (by decide +kernel) ?_
    refine bk_ip (rnS (rest := []) Z hw (k_X9_in (p1 := p2) (p2 := 0) (p3 := 999) ) v_X9_in rfl q_5_29 hl.1 rfl rfl (Nat.le_of_ble_eq_true rfl) ⟨(Nat.le_of_ble_eq_true rfl), (Nat.le_of_ble_eq_true rfl)⟩ ⟨(Nat.le_of_ble_eq_true rfl), (Nat.le_of_ble_eq_true rfl)⟩ dX9_badTimer_17) hw Z (fun r17 er17 H locs hw => ?_)
    refine lv_if_eq (tgt := 34) hx hb dX9_badTimer_20 (by decide) (fun c20 => ?_) (fun c20 => ?_)
    · refine lv_iconst (v := 2) hx hb dX9_badTimer_34 (by decide +kernel) ?_
      refine lv_goto (tgt := 53) hx hb dX9_badTimer_35 (by decide) ?_
      exact rt_i Z hr hlk hw dX9_badTimer_53 ⟨Eq.symm (by subst er17 er2; exact (lf_f c5 (lf_t c20 rfl))), rfl⟩
    · refine lv_iload_n hx hb dX9_badTimer_23 rfl (lv_at hl 3 rfl) ?_
      refine lv_iconst (v := 0) hx hb dX9_badTimer_24 (by decide +kernel) ?_
      refine lv_sipush (v := 1000) hx hb dX9_badTimer_25 (by decide +kernel) ?_
      refine bk_ip (rnS (rest := []) Z hw (k_X9_in (p1 := p3) (p2 := 0) (p3 := 1000) ) v_X9_in rfl q_5_29 hl.1 rfl rfl (Nat.le_of_ble_eq_true rfl) ⟨(Nat.le_of_ble_eq_true rfl), (Nat.le_of_ble_eq_true rfl)⟩ ⟨(Nat.le_of_ble_eq_true rfl), (Nat.le_of_ble_eq_true rfl)⟩ dX9_badTimer_28) hw Z (fun r28 er28 H locs hw => ?_)
      refine lv_if_ne (tgt := 38) hx hb dX9_badTimer_31 (by decide) (fun c31 => ?_) (fun c31 => ?_)
      · refine lv_aload_n hx hb dX9_badTimer_38 rfl (lv_at hl 0 rfl) ?_
        refine lv_iload_n hx hb dX9_badTimer_39 rfl (lv_at hl 1 rfl) ?_
        refine lv_iconst (v := 1) hx hb dX9_badTimer_40 (by decide +kernel) ?_
        refine bk_ip (rnV (rest := []) Z hw (k_X9_of (p1 := p1) (p2 := 1) I0 hs (by decide +kernel)) v_X9_of q_5_70 (0) (by decide) rfl rfl rfl rfl hl.1 rfl rfl (Nat.le_of_ble_eq_true rfl) ⟨(Nat.le_of_ble_eq_true rfl), (Nat.le_of_ble_eq_true rfl)⟩ ⟨(Nat.le_of_ble_eq_true rfl), (Nat.le_of_ble_eq_true rfl)⟩ dX9_badTimer_41) hw Z (fun r41 er41 H locs hw => ?_)
        refine lv_iconst (v := 1) hx hb dX9_badTimer_44 (by decide +kernel) ?_
        refine lv_icmp_ne (tgt := 52) hx hb dX9_badTimer_45 (by decide) (fun c45 => ?_) (fun c45 => ?_)
        · refine lv_iconst (v := 0) hx hb dX9_badTimer_52 (by decide +kernel) ?_
          exact rt_i Z hr hlk hw dX9_badTimer_53 ⟨Eq.symm (by subst er41 er28 er17 er2; exact (lf_f c5 (lf_f c20 (lf_f c31 (lf_f c45 rfl))))), rfl⟩
        · refine lv_iconst (v := 3) hx hb dX9_badTimer_48 (by decide +kernel) ?_
          refine lv_goto (tgt := 53) hx hb dX9_badTimer_49 (by decide) ?_
          exact rt_i Z hr hlk hw dX9_badTimer_53 ⟨Eq.symm (by subst er41 er28 er17 er2; exact (lf_f c5 (lf_f c20 (lf_f c31 (lf_t c45 rfl))))), rfl⟩
      · refine lv_iconst (v := 2) hx hb dX9_badTimer_34 (by decide +kernel) ?_
        refine lv_goto (tgt := 53) hx hb dX9_badTimer_35 (by decide) ?_
        exact rt_i Z hr hlk hw dX9_badTimer_53 ⟨Eq.symm (by subst er28 er17 er2; exact (lf_f c5 (lf_f c20 (lf_t c31 rfl)))), rfl⟩
  · refine lv_iconst (v := 1) hx hb dX9_badTimer_8 (by decide +kernel) ?_
    refine lv_goto (tgt := 53) hx hb dX9_badTimer_9 (by decide) ?_
    exact rt_i Z hr hlk hw dX9_badTimer_53 ⟨Eq.symm (by subst er2; exact (lf_t c5 rfl)), rfl⟩
abbrev rmX9_badSection : Room := { frames := 2, cells := 0, slots := 0, locals := 43 }
def f_X9_badSection (σ : St) (p1 : Int32) (p2 : Int32) (p3 : Int32) (p4 : Int32) : Int32 := (let r2 := f_X9_isSource σ p1; (if r2 = 0 then 1 else (let r15 := f_X9_in p2 0 499; (if r15 = 0 then 2 else (let r26 := f_X9_in p3 1 500; (if r26 = 0 then 2 else (let r37 := f_X9_in p4 1 15; (if r37 = 0 then 2 else (let r49 := f_X9_of σ p1 7; (if r49 = 2 then 3 else (let r58 := f_X9_placeOf σ p1; (if r58 = (-1) then 0 else 3))))))))))))
theorem v_X9_badSection : cvV yX9_badSection "NestedBellsModel" cX9_badSection 5 (some (.int)) 4 := ⟨q_5_68, s_41, q_1_10, q_5_69, rfl, by decide +kernel, by decide +kernel, by decide +kernel⟩
set_option maxHeartbeats 4000000 in
set_option maxRecDepth 100000 in
theorem k_X9_badSection {l : Launch} {D : va_G} {T : Nat → ClassId} {g ad : Nat → Nat} {σ : St} {p1 : Int32} {p2 : Int32} {p3 : Int32} {p4 : Int32} (I0 : InvD σ) : mX l yX9_badSection cX9_badSection 5 (some (.int)) rmX9_badSection D T g 6 ad (cE (dE T ad) σ) [.ref (ad 0), .int p1, .int p2, .int p3, .int p4] (qI D 6 ad (dE T ad) (pR (f_X9_badSection σ p1 p2 p3 p4) σ)) := by
  refine mX.of (own := "NestedBellsModel") (by decide +kernel) (Nat.le_of_ble_eq_true rfl) rfl ?_
  intro p e s m below meth c A ls H locs Z hr hlk _ hw hl
  have hx := Z.1.1
  have hb := Z.1.2.1
  have hl : lv_has ls 5 [(0, .ref (ad 0)), (1, .int p1), (2, .int p2), (3, .int p3), (4, .int p4)] := hl
  refine lv_aload_n hx hb dX9_badSection_0 rfl (lv_at hl 0 rfl) ?_
  refine lv_iload_n hx hb dX9_badSection_1 rfl (lv_at hl 1 rfl) ?_
  refine bk_ip (rnV (rest := []) Z hw (k_X9_isSource (p1 := p1) I0) v_X9_isSource q_5_47 (0) (by decide) rfl rfl rfl rfl hl.1 rfl rfl (Nat.le_of_ble_eq_true rfl) ⟨(Nat.le_of_ble_eq_true rfl), (Nat.le_of_ble_eq_true rfl)⟩ ⟨(Nat.le_of_ble_eq_true rfl), (Nat.le_of_ble_eq_true rfl)⟩ dX9_badSection_2) hw Z (fun r2 er2 H locs hw => ?_)
  refine lv_if_ne (tgt := 10) hx hb dX9_badSection_5 (by decide) (fun c5 => ?_) (fun c5 => ?_)
  · have hs := src_rng12 I0 er2 c5
    refine lv_iload_n hx hb dX9_badSection_10 rfl (lv_at hl 2 rfl) ?_
    refine lv_iconst (v := 0) hx hb dX9_badSection_11 (by decide +kernel) ?_
    refine lv_sipush (v := 499) hx hb dX9_badSection_12 (by decide +kernel) ?_
    refine bk_ip (rnS (rest := []) Z hw (k_X9_in (p1 := p2) (p2 := 0) (p3 := 499) ) v_X9_in rfl q_5_29 hl.1 rfl rfl (Nat.le_of_ble_eq_true rfl) ⟨(Nat.le_of_ble_eq_true rfl), (Nat.le_of_ble_eq_true rfl)⟩ ⟨(Nat.le_of_ble_eq_true rfl), (Nat.le_of_ble_eq_true rfl)⟩ dX9_badSection_15) hw Z (fun r15 er15 H locs hw => ?_)
    refine lv_if_eq (tgt := 43) hx hb dX9_badSection_18 (by decide) (fun c18 => ?_) (fun c18 => ?_)
    · refine lv_iconst (v := 2) hx hb dX9_badSection_43 (by decide +kernel) ?_
      exact rt_i Z hr hlk hw dX9_badSection_44 ⟨Eq.symm (by subst er15 er2; exact (lf_f c5 (lf_t c18 rfl))), rfl⟩
    · refine lv_iload_n hx hb dX9_badSection_21 rfl (lv_at hl 3 rfl) ?_
      refine lv_iconst (v := 1) hx hb dX9_badSection_22 (by decide +kernel) ?_
      refine lv_sipush (v := 500) hx hb dX9_badSection_23 (by decide +kernel) ?_
      refine bk_ip (rnS (rest := []) Z hw (k_X9_in (p1 := p3) (p2 := 1) (p3 := 500) ) v_X9_in rfl q_5_29 hl.1 rfl rfl (Nat.le_of_ble_eq_true rfl) ⟨(Nat.le_of_ble_eq_true rfl), (Nat.le_of_ble_eq_true rfl)⟩ ⟨(Nat.le_of_ble_eq_true rfl), (Nat.le_of_ble_eq_true rfl)⟩ dX9_badSection_26) hw Z (fun r26 er26 H locs hw => ?_)
      refine lv_if_eq (tgt := 43) hx hb dX9_badSection_29 (by decide) (fun c29 => ?_) (fun c29 => ?_)
      · refine lv_iconst (v := 2) hx hb dX9_badSection_43 (by decide +kernel) ?_
        exact rt_i Z hr hlk hw dX9_badSection_44 ⟨Eq.symm (by subst er26 er15 er2; exact (lf_f c5 (lf_f c18 (lf_t c29 rfl)))), rfl⟩
      · refine lv_iload hx hb dX9_badSection_32 (lv_at hl 4 rfl) ?_
        refine lv_iconst (v := 1) hx hb dX9_badSection_34 (by decide +kernel) ?_
        refine lv_bipush (v := 15) hx hb dX9_badSection_35 (by decide +kernel) ?_
        refine bk_ip (rnS (rest := []) Z hw (k_X9_in (p1 := p4) (p2 := 1) (p3 := 15) ) v_X9_in rfl q_5_29 hl.1 rfl rfl (Nat.le_of_ble_eq_true rfl) ⟨(Nat.le_of_ble_eq_true rfl), (Nat.le_of_ble_eq_true rfl)⟩ ⟨(Nat.le_of_ble_eq_true rfl), (Nat.le_of_ble_eq_true rfl)⟩ dX9_badSection_37) hw Z (fun r37 er37 H locs hw => ?_)
        refine lv_if_ne (tgt := 45) hx hb dX9_badSection_40 (by decide) (fun c40 => ?_) (fun c40 => ?_)
        · refine lv_aload_n hx hb dX9_badSection_45 rfl (lv_at hl 0 rfl) ?_
          refine lv_iload_n hx hb dX9_badSection_46 rfl (lv_at hl 1 rfl) ?_
          refine lv_bipush (v := 7) hx hb dX9_badSection_47 (by decide +kernel) ?_
          refine bk_ip (rnV (rest := []) Z hw (k_X9_of (p1 := p1) (p2 := 7) I0 hs (by decide +kernel)) v_X9_of q_5_70 (0) (by decide) rfl rfl rfl rfl hl.1 rfl rfl (Nat.le_of_ble_eq_true rfl) ⟨(Nat.le_of_ble_eq_true rfl), (Nat.le_of_ble_eq_true rfl)⟩ ⟨(Nat.le_of_ble_eq_true rfl), (Nat.le_of_ble_eq_true rfl)⟩ dX9_badSection_49) hw Z (fun r49 er49 H locs hw => ?_)
          refine lv_iconst (v := 2) hx hb dX9_badSection_52 (by decide +kernel) ?_
          refine lv_icmp_eq (tgt := 65) hx hb dX9_badSection_53 (by decide) (fun c53 => ?_) (fun c53 => ?_)
          · refine lv_iconst (v := 3) hx hb dX9_badSection_65 (by decide +kernel) ?_
            refine lv_goto (tgt := 70) hx hb dX9_badSection_66 (by decide) ?_
            exact rt_i Z hr hlk hw dX9_badSection_70 ⟨Eq.symm (by subst er49 er37 er26 er15 er2; exact (lf_f c5 (lf_f c18 (lf_f c29 (lf_f c40 (lf_t c53 rfl)))))), rfl⟩
          · refine lv_aload_n hx hb dX9_badSection_56 rfl (lv_at hl 0 rfl) ?_
            refine lv_iload_n hx hb dX9_badSection_57 rfl (lv_at hl 1 rfl) ?_
            refine bk_ip (rnV (rest := []) Z hw (k_X9_placeOf (p1 := p1) I0) v_X9_placeOf q_5_54 (0) (by decide) rfl rfl rfl rfl hl.1 rfl rfl (Nat.le_of_ble_eq_true rfl) ⟨(Nat.le_of_ble_eq_true rfl), (Nat.le_of_ble_eq_true rfl)⟩ ⟨(Nat.le_of_ble_eq_true rfl), (Nat.le_of_ble_eq_true rfl)⟩ dX9_badSection_58) hw Z (fun r58 er58 H locs hw => ?_)
            refine lv_iconst (v := (-1)) hx hb dX9_badSection_61 (by decide +kernel) ?_
            refine lv_icmp_eq (tgt := 69) hx hb dX9_badSection_62 (by decide) (fun c62 => ?_) (fun c62 => ?_)
            · refine lv_iconst (v := 0) hx hb dX9_badSection_69 (by decide +kernel) ?_
              exact rt_i Z hr hlk hw dX9_badSection_70 ⟨Eq.symm (by subst er58 er49 er37 er26 er15 er2; exact (lf_f c5 (lf_f c18 (lf_f c29 (lf_f c40 (lf_f c53 (lf_t c62 rfl))))))), rfl⟩
            · refine lv_iconst (v := 3) hx hb dX9_badSection_65 (by decide +kernel) ?_
              refine lv_goto (tgt := 70) hx hb dX9_badSection_66 (by decide) ?_
              exact rt_i Z hr hlk hw dX9_badSection_70 ⟨Eq.symm (by subst er58 er49 er37 er26 er15 er2; exact (lf_f c5 (lf_f c18 (lf_f c29 (lf_f c40 (lf_f c53 (lf_f c62 rfl))))))), rfl⟩
        · refine lv_iconst (v := 2) hx hb dX9_badSection_43 (by decide +kernel) ?_
          exact rt_i Z hr hlk hw dX9_badSection_44 ⟨Eq.symm (by subst er37 er26 er15 er2; exact (lf_f c5 (lf_f c18 (lf_f c29 (lf_t c40 rfl))))), rfl⟩
  · refine lv_iconst (v := 1) hx hb dX9_badSection_8 (by decide +kernel) ?_
    exact rt_i Z hr hlk hw dX9_badSection_9 ⟨Eq.symm (by subst er2; exact (lf_t c5 rfl)), rfl⟩
abbrev rmX9_badRaise : Room := { frames := 2, cells := 0, slots := 0, locals := 43 }
def f_X9_badRaise (σ : St) (p1 : Int32) : Int32 := (let r2 := f_X9_isSource σ p1; (if r2 = 0 then 1 else (let r15 := f_X9_of σ p1 1; (if r15 = 1 then 3 else 0))))
theorem v_X9_badRaise : cvV yX9_badRaise "NestedBellsModel" cX9_badRaise 2 (some (.int)) 1 := ⟨q_5_100, s_46, q_1_10, q_5_101, rfl, by decide +kernel, by decide +kernel, by decide +kernel⟩
set_option maxHeartbeats 4000000 in
set_option maxRecDepth 100000 in
theorem k_X9_badRaise {l : Launch} {D : va_G} {T : Nat → ClassId} {g ad : Nat → Nat} {σ : St} {p1 : Int32} (I0 : InvD σ) : mX l yX9_badRaise cX9_badRaise 2 (some (.int)) rmX9_badRaise D T g 6 ad (cE (dE T ad) σ) [.ref (ad 0), .int p1] (qI D 6 ad (dE T ad) (pR (f_X9_badRaise σ p1) σ)) := by
  refine mX.of (own := "NestedBellsModel") (by decide +kernel) (Nat.le_of_ble_eq_true rfl) rfl ?_
  intro p e s m below meth c A ls H locs Z hr hlk _ hw hl
  have hx := Z.1.1
  have hb := Z.1.2.1
  have hl : lv_has ls 2 [(0, .ref (ad 0)), (1, .int p1)] := hl
  refine lv_aload_n hx hb dX9_badRaise_0 rfl (lv_at hl 0 rfl) ?_
  refine lv_iload_n hx hb dX9_badRaise_1 rfl (lv_at hl 1 rfl) ?_
  refine bk_ip (rnV (rest := []) Z hw (k_X9_isSource (p1 := p1) I0) v_X9_isSource q_5_47 (0) (by decide) rfl rfl rfl rfl hl.1 rfl rfl (Nat.le_of_ble_eq_true rfl) ⟨(Nat.le_of_ble_eq_true rfl), (Nat.le_of_ble_eq_true rfl)⟩ ⟨(Nat.le_of_ble_eq_true rfl), (Nat.le_of_ble_eq_true rfl)⟩ dX9_badRaise_2) hw Z (fun r2 er2 H locs hw => ?_)
  refine lv_if_ne (tgt := 12) hx hb dX9_badRaise_5 (by decide) (fun c5 => ?_) (fun c5 => ?_)
  · have hs := src_rng12 I0 er2 c5
    refine lv_aload_n hx hb dX9_badRaise_12 rfl (lv_at hl 0 rfl) ?_
    refine lv_iload_n hx hb dX9_badRaise_13 rfl (lv_at hl 1 rfl) ?_
    refine lv_iconst (v := 1) hx hb dX9_badRaise_14 (by decide +kernel) ?_
    refine bk_ip (rnV (rest := []) Z hw (k_X9_of (p1 := p1) (p2 := 1) I0 hs (by decide +kernel)) v_X9_of q_5_70 (0) (by decide) rfl rfl rfl rfl hl.1 rfl rfl (Nat.le_of_ble_eq_true rfl) ⟨(Nat.le_of_ble_eq_true rfl), (Nat.le_of_ble_eq_true rfl)⟩ ⟨(Nat.le_of_ble_eq_true rfl), (Nat.le_of_ble_eq_true rfl)⟩ dX9_badRaise_15) hw Z (fun r15 er15 H locs hw => ?_)
    refine lv_iconst (v := 1) hx hb dX9_badRaise_18 (by decide +kernel) ?_
    refine lv_icmp_ne (tgt := 26) hx hb dX9_badRaise_19 (by decide) (fun c19 => ?_) (fun c19 => ?_)
    · refine lv_iconst (v := 0) hx hb dX9_badRaise_26 (by decide +kernel) ?_
      exact rt_i Z hr hlk hw dX9_badRaise_27 ⟨Eq.symm (by subst er15 er2; exact (lf_f c5 (lf_f c19 rfl))), rfl⟩
    · refine lv_iconst (v := 3) hx hb dX9_badRaise_22 (by decide +kernel) ?_
      refine lv_goto (tgt := 27) hx hb dX9_badRaise_23 (by decide) ?_
      exact rt_i Z hr hlk hw dX9_badRaise_27 ⟨Eq.symm (by subst er15 er2; exact (lf_f c5 (lf_t c19 rfl))), rfl⟩
  · refine lv_iconst (v := 1) hx hb dX9_badRaise_8 (by decide +kernel) ?_
    refine lv_goto (tgt := 27) hx hb dX9_badRaise_9 (by decide) ?_
    exact rt_i Z hr hlk hw dX9_badRaise_27 ⟨Eq.symm (by subst er2; exact (lf_t c5 rfl)), rfl⟩
abbrev rmX9_badLine : Room := { frames := 2, cells := 0, slots := 0, locals := 43 }
def f_X9_badLine (σ : St) (p1 : Int32) : Int32 := (let r2 := f_X9_isSource σ p1; (if r2 = 0 then 1 else (let r15 := f_X9_of σ p1 1; (if r15 = 0 then 3 else 0))))
theorem v_X9_badLine : cvV yX9_badLine "NestedBellsModel" cX9_badLine 2 (some (.int)) 1 := ⟨q_5_119, s_49, q_1_10, q_5_120, rfl, by decide +kernel, by decide +kernel, by decide +kernel⟩
set_option maxHeartbeats 4000000 in
set_option maxRecDepth 100000 in
theorem k_X9_badLine {l : Launch} {D : va_G} {T : Nat → ClassId} {g ad : Nat → Nat} {σ : St} {p1 : Int32} (I0 : InvD σ) : mX l yX9_badLine cX9_badLine 2 (some (.int)) rmX9_badLine D T g 6 ad (cE (dE T ad) σ) [.ref (ad 0), .int p1] (qI D 6 ad (dE T ad) (pR (f_X9_badLine σ p1) σ)) := by
  refine mX.of (own := "NestedBellsModel") (by decide +kernel) (Nat.le_of_ble_eq_true rfl) rfl ?_
  intro p e s m below meth c A ls H locs Z hr hlk _ hw hl
  have hx := Z.1.1
  have hb := Z.1.2.1
  have hl : lv_has ls 2 [(0, .ref (ad 0)), (1, .int p1)] := hl
  refine lv_aload_n hx hb dX9_badLine_0 rfl (lv_at hl 0 rfl) ?_
  refine lv_iload_n hx hb dX9_badLine_1 rfl (lv_at hl 1 rfl) ?_
  refine bk_ip (rnV (rest := []) Z hw (k_X9_isSource (p1 := p1) I0) v_X9_isSource q_5_47 (0) (by decide) rfl rfl rfl rfl hl.1 rfl rfl (Nat.le_of_ble_eq_true rfl) ⟨(Nat.le_of_ble_eq_true rfl), (Nat.le_of_ble_eq_true rfl)⟩ ⟨(Nat.le_of_ble_eq_true rfl), (Nat.le_of_ble_eq_true rfl)⟩ dX9_badLine_2) hw Z (fun r2 er2 H locs hw => ?_)
  refine lv_if_ne (tgt := 12) hx hb dX9_badLine_5 (by decide) (fun c5 => ?_) (fun c5 => ?_)
  · have hs := src_rng12 I0 er2 c5
    refine lv_aload_n hx hb dX9_badLine_12 rfl (lv_at hl 0 rfl) ?_
    refine lv_iload_n hx hb dX9_badLine_13 rfl (lv_at hl 1 rfl) ?_
    refine lv_iconst (v := 1) hx hb dX9_badLine_14 (by decide +kernel) ?_
    refine bk_ip (rnV (rest := []) Z hw (k_X9_of (p1 := p1) (p2 := 1) I0 hs (by decide +kernel)) v_X9_of q_5_70 (0) (by decide) rfl rfl rfl rfl hl.1 rfl rfl (Nat.le_of_ble_eq_true rfl) ⟨(Nat.le_of_ble_eq_true rfl), (Nat.le_of_ble_eq_true rfl)⟩ ⟨(Nat.le_of_ble_eq_true rfl), (Nat.le_of_ble_eq_true rfl)⟩ dX9_badLine_15) hw Z (fun r15 er15 H locs hw => ?_)
    refine lv_if_ne (tgt := 25) hx hb dX9_badLine_18 (by decide) (fun c18 => ?_) (fun c18 => ?_)
    · refine lv_iconst (v := 0) hx hb dX9_badLine_25 (by decide +kernel) ?_
      exact rt_i Z hr hlk hw dX9_badLine_26 ⟨Eq.symm (by subst er15 er2; exact (lf_f c5 (lf_f c18 rfl))), rfl⟩
    · refine lv_iconst (v := 3) hx hb dX9_badLine_21 (by decide +kernel) ?_
      refine lv_goto (tgt := 26) hx hb dX9_badLine_22 (by decide) ?_
      exact rt_i Z hr hlk hw dX9_badLine_26 ⟨Eq.symm (by subst er15 er2; exact (lf_f c5 (lf_t c18 rfl))), rfl⟩
  · refine lv_iconst (v := 1) hx hb dX9_badLine_8 (by decide +kernel) ?_
    refine lv_goto (tgt := 26) hx hb dX9_badLine_9 (by decide) ?_
    exact rt_i Z hr hlk hw dX9_badLine_26 ⟨Eq.symm (by subst er2; exact (lf_t c5 rfl)), rfl⟩
abbrev rmX9_times : Room := { frames := 2, cells := 0, slots := 0, locals := 42 }
def f_X9_times (σ : St) (p1 : Int32) (p2 : Int32) (p3 : Int32) : Int32 × St := (let r4 := f_X9_of σ p1 15; (let r14 := f_X9_at p1; (let r34 := f_X9_at p1; (r4, up2 (up2 σ 1 (ix p1 + 14) ((σ 1 0) + p2)) 1 (ix p1 + 15) p3))))
theorem v_X9_times : cvV yX9_times "NestedBellsModel" cX9_times 5 (some (.int)) 3 := ⟨q_5_92, s_45, q_1_10, q_5_93, rfl, by decide +kernel, by decide +kernel, by decide +kernel⟩
set_option maxHeartbeats 4000000 in
set_option maxRecDepth 100000 in
theorem k_X9_times {l : Launch} {D : va_G} {T : Nat → ClassId} {g ad : Nat → Nat} {σ : St} {p1 : Int32} {p2 : Int32} {p3 : Int32} (I0 : InvD σ) (hs : 0 ≤ p1.toInt ∧ p1.toInt < 12) : mX l yX9_times cX9_times 5 (some (.int)) rmX9_times D T g 6 ad (cE (dE T ad) σ) [.ref (ad 0), .int p1, .int p2, .int p3] (qI D 6 ad (dE T ad) (pI (f_X9_times σ p1 p2 p3) InvD)) := by
  refine mX.of (own := "NestedBellsModel") (by decide +kernel) (Nat.le_of_ble_eq_true rfl) rfl ?_
  intro p e s m below meth c A ls H locs Z hr hlk _ hw hl
  have hx := Z.1.1
  have hb := Z.1.2.1
  have hl : lv_has ls 5 [(0, .ref (ad 0)), (1, .int p1), (2, .int p2), (3, .int p3)] := hl
  refine lv_aload_n hx hb dX9_times_0 rfl (lv_at hl 0 rfl) ?_
  refine lv_iload_n hx hb dX9_times_1 rfl (lv_at hl 1 rfl) ?_
  refine lv_bipush (v := 15) hx hb dX9_times_2 (by decide +kernel) ?_
  refine bk_ip (rnV (rest := []) Z hw (k_X9_of (p1 := p1) (p2 := 15) I0 hs (by decide +kernel)) v_X9_of q_5_70 (0) (by decide) rfl rfl rfl rfl hl.1 rfl rfl (Nat.le_of_ble_eq_true rfl) ⟨(Nat.le_of_ble_eq_true rfl), (Nat.le_of_ble_eq_true rfl)⟩ ⟨(Nat.le_of_ble_eq_true rfl), (Nat.le_of_ble_eq_true rfl)⟩ dX9_times_4) hw Z (fun r4 er4 H locs hw => ?_)
  refine lv_istore (lv' := [(4, .int r4), (0, .ref (ad 0)), (1, .int p1), (2, .int p2), (3, .int p3)]) hx hb dX9_times_7 hl (by decide) rfl (fun ls hl => ?_)
  refine lv_aload_n hx hb dX9_times_9 rfl (lv_at hl 1 rfl) ?_
  refine gD (j := 0) (v := .ref (ad 1)) Z hw  (by decide) q_4_212 rfl rfl dX9_times_10 ?_
  refine lv_iload_n hx hb dX9_times_13 rfl (lv_at hl 2 rfl) ?_
  refine bk_ip (rnS (rest := [.ref (ad 1)]) Z hw (k_X9_at (p1 := p1) ) v_X9_at rfl q_5_40 hl.1 rfl rfl (Nat.le_of_ble_eq_true rfl) ⟨(Nat.le_of_ble_eq_true rfl), (Nat.le_of_ble_eq_true rfl)⟩ ⟨(Nat.le_of_ble_eq_true rfl), (Nat.le_of_ble_eq_true rfl)⟩ dX9_times_14) hw Z (fun r14 er14 H locs hw => ?_)
  refine lv_bipush (v := 14) hx hb dX9_times_17 (by decide +kernel) ?_
  refine lv_iadd hx hb dX9_times_19 ?_
  refine lv_aload_n hx hb dX9_times_20 rfl (lv_at hl 1 rfl) ?_
  refine gD (j := 0) (v := .ref (ad 1)) Z hw  (by decide) q_4_212 rfl rfl dX9_times_21 ?_
  refine lv_iconst (v := 0) hx hb dX9_times_24 (by decide +kernel) ?_
  refine aE (v := σ 1 0) Z hw 1 (by decide) rfl (fun _ => rfl) (vp_in_nI (n := 0) (by decide) (by decide)) ((congrArg (σ 1) (nI_clamp (n := 0) (by decide))).trans rfl) dX9_times_25 ?_
  refine lv_iload_n hx hb dX9_times_26 rfl (lv_at hl 3 rfl) ?_
  refine lv_iadd hx hb dX9_times_27 ?_
  refine sE (j := ix p1 + 14) Z hw 1 (by decide) rfl (fun _ => rfl) (at_vp er14 hs (w := 14) (by omega)) (at_ix er14 hs (w := 14) (by omega)) dX9_times_28 (fun H locs hw => ?_)
  refine lv_aload_n hx hb dX9_times_29 rfl (lv_at hl 1 rfl) ?_
  refine gD (j := 0) (v := .ref (ad 1)) Z hw  (by decide) q_4_212 rfl rfl dX9_times_30 ?_
  refine lv_iload_n hx hb dX9_times_33 rfl (lv_at hl 2 rfl) ?_
  refine bk_ip (rnS (rest := [.ref (ad 1)]) Z hw (k_X9_at (p1 := p1) ) v_X9_at rfl q_5_40 hl.1 rfl rfl (Nat.le_of_ble_eq_true rfl) ⟨(Nat.le_of_ble_eq_true rfl), (Nat.le_of_ble_eq_true rfl)⟩ ⟨(Nat.le_of_ble_eq_true rfl), (Nat.le_of_ble_eq_true rfl)⟩ dX9_times_34) hw Z (fun r34 er34 H locs hw => ?_)
  refine lv_bipush (v := 15) hx hb dX9_times_37 (by decide +kernel) ?_
  refine lv_iadd hx hb dX9_times_39 ?_
  refine lv_iload_n hx hb dX9_times_40 rfl (lv_at hl 4 rfl) ?_
  refine sE (j := ix p1 + 15) Z hw 1 (by decide) rfl (fun _ => rfl) (at_vp er34 hs (w := 15) (by omega)) (at_ix er34 hs (w := 15) (by omega)) dX9_times_41 (fun H locs hw => ?_)
  refine lv_iload hx hb dX9_times_42 (lv_at hl 0 rfl) ?_
  exact rt_i Z hr hlk hw dX9_times_44 (pI.mk (by subst er34 er14 er4; exact rfl) (InvD.up (InvD.up I0 (by unfold InvDcr ix; omega)) (by unfold InvDcr ix; omega)))
abbrev rmX9_lines : Room := { frames := 1, cells := 0, slots := 0, locals := 20 }
def f_X9_lines (σ : St) (p1 : Int32) (p2 : Int32) : Int32 × St := (let r1 := f_X9_at p1; (let v31 : Int32 := (if p2 = 0 then 0 else 1); (let v67 : Int32 := (if p2 = 0 then σ 1 (ix p1 + 6) else (if (σ 1 (ix p1 + 5)) = 0 then σ 1 0 else σ 1 (ix p1 + 6))); (σ 1 (ix p1 + 5), up2 (up2 σ 1 (ix p1 + 5) v31) 1 (ix p1 + 6) v67))))
theorem v_X9_lines : cvV yX9_lines "NestedBellsModel" cX9_lines 5 (some (.int)) 2 := ⟨q_5_123, s_50, q_1_10, q_5_124, rfl, by decide +kernel, by decide +kernel, by decide +kernel⟩
set_option maxHeartbeats 4000000 in
set_option maxRecDepth 100000 in
theorem k_X9_lines {l : Launch} {D : va_G} {T : Nat → ClassId} {g ad : Nat → Nat} {σ : St} {p1 : Int32} {p2 : Int32} (I0 : InvD σ) (hz2 : zb p2 = p2) (hs : 0 ≤ p1.toInt ∧ p1.toInt < 12) : mX l yX9_lines cX9_lines 5 (some (.int)) rmX9_lines D T g 6 ad (cE (dE T ad) σ) [.ref (ad 0), .int p1, .int p2] (qI D 6 ad (dE T ad) (pI (f_X9_lines σ p1 p2) InvD)) := by
  refine mX.of (own := "NestedBellsModel") (by decide +kernel) (Nat.le_of_ble_eq_true rfl) rfl ?_
  intro p e s m below meth c A ls H locs Z hr hlk _ hw hl
  have hx := Z.1.1
  have hb := Z.1.2.1
  have hl : lv_has ls 5 [(0, .ref (ad 0)), (1, .int p1), (2, .int p2)] := hl
  refine lv_iload_n hx hb dX9_lines_0 rfl (lv_at hl 1 rfl) ?_
  refine bk_ip (rnS (rest := []) Z hw (k_X9_at (p1 := p1) ) v_X9_at rfl q_5_40 hl.1 rfl rfl (Nat.le_of_ble_eq_true rfl) ⟨(Nat.le_of_ble_eq_true rfl), (Nat.le_of_ble_eq_true rfl)⟩ ⟨(Nat.le_of_ble_eq_true rfl), (Nat.le_of_ble_eq_true rfl)⟩ dX9_lines_1) hw Z (fun r1 er1 H locs hw => ?_)
  refine lv_istore_n (lv' := [(3, .int r1), (0, .ref (ad 0)), (1, .int p1), (2, .int p2)]) hx hb dX9_lines_4 rfl hl (by decide) rfl (fun ls hl => ?_)
  refine lv_aload_n hx hb dX9_lines_5 rfl (lv_at hl 1 rfl) ?_
  refine gD (j := 0) (v := .ref (ad 1)) Z hw  (by decide) q_4_212 rfl rfl dX9_lines_6 ?_
  refine lv_iload_n hx hb dX9_lines_9 rfl (lv_at hl 0 rfl) ?_
  refine lv_iconst (v := 5) hx hb dX9_lines_10 (by decide +kernel) ?_
  refine lv_iadd hx hb dX9_lines_11 ?_
  refine aE (v := σ 1 (ix p1 + 5)) Z hw 1 (by decide) rfl (fun _ => rfl) (at_vp er1 hs (w := 5) (by omega)) ((congrArg (σ 1) (at_ix er1 hs (w := 5) (by omega))).trans rfl) dX9_lines_12 ?_
  refine lv_istore (lv' := [(4, .int (σ 1 (ix p1 + 5))), (3, .int r1), (0, .ref (ad 0)), (1, .int p1), (2, .int p2)]) hx hb dX9_lines_13 hl (by decide) rfl (fun ls hl => ?_)
  refine lv_aload_n hx hb dX9_lines_15 rfl (lv_at hl 2 rfl) ?_
  refine gD (j := 0) (v := .ref (ad 1)) Z hw  (by decide) q_4_212 rfl rfl dX9_lines_16 ?_
  refine lv_iload_n hx hb dX9_lines_19 rfl (lv_at hl 1 rfl) ?_
  refine lv_iconst (v := 5) hx hb dX9_lines_20 (by decide +kernel) ?_
  refine lv_iadd hx hb dX9_lines_21 ?_
  refine lv_iload_n hx hb dX9_lines_22 rfl (lv_at hl 4 rfl) ?_
  have hj31 : ∀ (v31 : Int32) (H : Heap) (locs : List Loc) (ls : Array Slot), ((if p2 = 0 then 0 else 1) : Int32) = v31 → wo D A s.heap 6 ad (cE (dE T ad) σ) H locs → lv_has ls 5 [(4, .int (σ 1 (ix p1 + 5))), (3, .int r1), (0, .ref (ad 0)), (2, .int p2)] → W p l e rmX9_lines s m [.ref (ad 0), .int p1, .int p2].toArray below meth c H locs 0 0 (MQ below (qI D 6 ad (dE T ad) (pI (f_X9_lines σ p1 p2) InvD) A) [.ref (ad 0), .int p1, .int p2].toArray s rmX9_lines.cells rmX9_lines.slots A) (F0 m 31 ls [.int v31, .int (r1 + 5), .ref (ad 1)]) := by
    intro v31 H locs ls ev31 hw hl
    refine sE (j := ix p1 + 5) Z hw 1 (by decide) rfl (fun _ => rfl) (at_vp er1 hs (w := 5) (by omega)) (at_ix er1 hs (w := 5) (by omega)) dX9_lines_31 (fun H locs hw => ?_)
    refine lv_aload_n hx hb dX9_lines_32 rfl (lv_at hl 2 rfl) ?_
    refine gD (j := 0) (v := .ref (ad 1)) Z hw  (by decide) q_4_212 rfl rfl dX9_lines_33 ?_
    refine lv_iload_n hx hb dX9_lines_36 rfl (lv_at hl 1 rfl) ?_
    refine lv_bipush (v := 6) hx hb dX9_lines_37 (by decide +kernel) ?_
    refine lv_iadd hx hb dX9_lines_39 ?_
    refine lv_iload_n hx hb dX9_lines_40 rfl (lv_at hl 3 rfl) ?_
    have hj67 : ∀ (v67 : Int32) (H : Heap) (locs : List Loc) (ls : Array Slot), ((if p2 = 0 then σ 1 (ix p1 + 6) else (if (σ 1 (ix p1 + 5)) = 0 then σ 1 0 else σ 1 (ix p1 + 6))) : Int32) = v67 → wo D A s.heap 6 ad (cE (dE T ad) (up2 σ 1 (ix p1 + 5) v31)) H locs → lv_has ls 5 [(4, .int (σ 1 (ix p1 + 5)))] → W p l e rmX9_lines s m [.ref (ad 0), .int p1, .int p2].toArray below meth c H locs 0 0 (MQ below (qI D 6 ad (dE T ad) (pI (f_X9_lines σ p1 p2) InvD) A) [.ref (ad 0), .int p1, .int p2].toArray s rmX9_lines.cells rmX9_lines.slots A) (F0 m 67 ls [.int v67, .int (r1 + 6), .ref (ad 1)]) := by
      intro v67 H locs ls ev67 hw hl
      refine sE (j := ix p1 + 6) Z hw 1 (by decide) rfl (fun _ => rfl) (at_vp er1 hs (w := 6) (by omega)) (at_ix er1 hs (w := 6) (by omega)) dX9_lines_67 (fun H locs hw => ?_)
      refine lv_iload hx hb dX9_lines_68 (lv_at hl 0 rfl) ?_
      exact rt_i Z hr hlk hw dX9_lines_70 (pI.mk (by subst ev67 ev31 er1; exact rfl) (InvD.up (InvD.up I0 (by unfold InvDcr ix; omega)) (by unfold InvDcr ix; omega)))
    refine lv_if_eq (tgt := 58) hx hb dX9_lines_41 (by decide) (fun c41 => ?_) (fun c41 => ?_)
    · refine lv_aload_n hx hb dX9_lines_58 rfl (lv_at hl 2 rfl) ?_
      refine gD (j := 0) (v := .ref (ad 1)) Z hw  (by decide) q_4_212 rfl rfl dX9_lines_59 ?_
      refine lv_iload_n hx hb dX9_lines_62 rfl (lv_at hl 1 rfl) ?_
      refine lv_bipush (v := 6) hx hb dX9_lines_63 (by decide +kernel) ?_
      refine lv_iadd hx hb dX9_lines_65 ?_
      refine aE (v := σ 1 (ix p1 + 6)) Z hw 1 (by decide) rfl (fun _ => rfl) (at_vp er1 hs (w := 6) (by omega)) ((congrArg ((up2 σ 1 (ix p1 + 5) v31) 1) (at_ix er1 hs (w := 6) (by omega))).trans (up2_j (by omega))) dX9_lines_66 ?_
      exact hj67 _ H locs ls (Eq.symm (lf_t c41 rfl)) hw (lv_sub hl [0] rfl)
    · refine lv_iload hx hb dX9_lines_44 (lv_at hl 0 rfl) ?_
      refine lv_if_ne (tgt := 58) hx hb dX9_lines_46 (by decide) (fun c46 => ?_) (fun c46 => ?_)
      · refine lv_aload_n hx hb dX9_lines_58 rfl (lv_at hl 2 rfl) ?_
        refine gD (j := 0) (v := .ref (ad 1)) Z hw  (by decide) q_4_212 rfl rfl dX9_lines_59 ?_
        refine lv_iload_n hx hb dX9_lines_62 rfl (lv_at hl 1 rfl) ?_
        refine lv_bipush (v := 6) hx hb dX9_lines_63 (by decide +kernel) ?_
        refine lv_iadd hx hb dX9_lines_65 ?_
        refine aE (v := σ 1 (ix p1 + 6)) Z hw 1 (by decide) rfl (fun _ => rfl) (at_vp er1 hs (w := 6) (by omega)) ((congrArg ((up2 σ 1 (ix p1 + 5) v31) 1) (at_ix er1 hs (w := 6) (by omega))).trans (up2_j (by omega))) dX9_lines_66 ?_
        exact hj67 _ H locs ls (Eq.symm (lf_f c41 (lf_f c46 rfl))) hw (lv_sub hl [0] rfl)
      · refine lv_aload_n hx hb dX9_lines_49 rfl (lv_at hl 2 rfl) ?_
        refine gD (j := 0) (v := .ref (ad 1)) Z hw  (by decide) q_4_212 rfl rfl dX9_lines_50 ?_
        refine lv_iconst (v := 0) hx hb dX9_lines_53 (by decide +kernel) ?_
        refine aE (v := σ 1 0) Z hw 1 (by decide) rfl (fun _ => rfl) (vp_in_nI (n := 0) (by decide) (by decide)) ((congrArg ((up2 σ 1 (ix p1 + 5) v31) 1) (nI_clamp (n := 0) (by decide))).trans (up2_j (by unfold ix; omega))) dX9_lines_54 ?_
        refine lv_goto (tgt := 67) hx hb dX9_lines_55 (by decide) ?_
        exact hj67 _ H locs ls (Eq.symm (lf_f c41 (lf_t c46 rfl))) hw (lv_sub hl [0] rfl)
  refine lv_if_eq (tgt := 30) hx hb dX9_lines_23 (by decide) (fun c23 => ?_) (fun c23 => ?_)
  · refine lv_iconst (v := 0) hx hb dX9_lines_30 (by decide +kernel) ?_
    exact hj31 _ H locs ls (Eq.symm (lf_t c23 rfl)) hw (lv_sub hl [0, 1, 2, 4] rfl)
  · refine lv_iconst (v := 1) hx hb dX9_lines_26 (by decide +kernel) ?_
    refine lv_goto (tgt := 31) hx hb dX9_lines_27 (by decide) ?_
    exact hj31 _ H locs ls (Eq.symm (lf_f c23 rfl)) hw (lv_sub hl [0, 1, 2, 4] rfl)
abbrev rmX9_sets : Room := { frames := 0, cells := 0, slots := 0, locals := 0 }
def f_X9_sets (σ : St) (p1 : Int32) (p2 : Int32) : Int32 × St := (σ 1 (1 + p1.toNatClampNeg), up2 σ 1 (1 + p1.toNatClampNeg) p2)
theorem v_X9_sets : cvV yX9_sets "NestedBellsModel" cX9_sets 4 (some (.int)) 2 := ⟨q_5_134, s_51, q_1_10, q_5_135, rfl, by decide +kernel, by decide +kernel, by decide +kernel⟩
set_option maxHeartbeats 4000000 in
set_option maxRecDepth 100000 in
theorem k_X9_sets {l : Launch} {D : va_G} {T : Nat → ClassId} {g ad : Nat → Nat} {σ : St} {p1 : Int32} {p2 : Int32} (I0 : InvD σ) (h4 : 0 ≤ p1.toInt ∧ p1.toInt < 4) : mX l yX9_sets cX9_sets 4 (some (.int)) rmX9_sets D T g 6 ad (cE (dE T ad) σ) [.ref (ad 0), .int p1, .int p2] (qI D 6 ad (dE T ad) (pI (f_X9_sets σ p1 p2) InvD)) := by
  refine mX.of (own := "NestedBellsModel") (by decide +kernel) (Nat.le_of_ble_eq_true rfl) rfl ?_
  intro p e s m below meth c A ls H locs Z hr hlk _ hw hl
  have hx := Z.1.1
  have hb := Z.1.2.1
  have hl : lv_has ls 4 [(0, .ref (ad 0)), (1, .int p1), (2, .int p2)] := hl
  refine lv_aload_n hx hb dX9_sets_0 rfl (lv_at hl 0 rfl) ?_
  refine gD (j := 0) (v := .ref (ad 1)) Z hw  (by decide) q_4_212 rfl rfl dX9_sets_1 ?_
  refine lv_iconst (v := 1) hx hb dX9_sets_4 (by decide +kernel) ?_
  refine lv_iload_n hx hb dX9_sets_5 rfl (lv_at hl 1 rfl) ?_
  refine lv_iadd hx hb dX9_sets_6 ?_
  refine aE (v := σ 1 (1 + p1.toNatClampNeg)) Z hw 1 (by decide) rfl (fun _ => rfl) (s1_vp h4) ((congrArg (σ 1) (s1_ix h4)).trans rfl) dX9_sets_7 ?_
  refine lv_istore_n (lv' := [(3, .int (σ 1 (1 + p1.toNatClampNeg))), (0, .ref (ad 0)), (1, .int p1), (2, .int p2)]) hx hb dX9_sets_8 rfl hl (by decide) rfl (fun ls hl => ?_)
  refine lv_aload_n hx hb dX9_sets_9 rfl (lv_at hl 1 rfl) ?_
  refine gD (j := 0) (v := .ref (ad 1)) Z hw  (by decide) q_4_212 rfl rfl dX9_sets_10 ?_
  refine lv_iconst (v := 1) hx hb dX9_sets_13 (by decide +kernel) ?_
  refine lv_iload_n hx hb dX9_sets_14 rfl (lv_at hl 2 rfl) ?_
  refine lv_iadd hx hb dX9_sets_15 ?_
  refine lv_iload_n hx hb dX9_sets_16 rfl (lv_at hl 3 rfl) ?_
  refine sE (j := 1 + p1.toNatClampNeg) Z hw 1 (by decide) rfl (fun _ => rfl) (s1_vp h4) (s1_ix h4) dX9_sets_17 (fun H locs hw => ?_)
  refine lv_iload_n hx hb dX9_sets_18 rfl (lv_at hl 0 rfl) ?_
  exact rt_i Z hr hlk hw dX9_sets_19 (pI.mk rfl (InvD.set h4 I0))
abbrev rmX9_comesSection : Room := { frames := 2, cells := 0, slots := 0, locals := 42 }
def f_X9_comesSection (σ : St) (p1 : Int32) (p2 : Int32) (p3 : Int32) (p4 : Int32) : Int32 × St := (let r1 := f_X9_at p1; (let r12 := f_X9_of σ p1 7; (let r53 := f_X9_at p1; (let r68 := f_X9_of (up2 (up2 (up2 (up2 σ 1 (ix p1 + (8 + 0 + 3 * r12.toNatClampNeg)) p2) 1 (ix p1 + (8 + 1 + 3 * r12.toNatClampNeg)) p3) 1 (ix p1 + (8 + 2 + 3 * r12.toNatClampNeg)) p4) 1 (ix p1 + 7) ((σ 1 (ix p1 + 7)) + 1)) p1 7; (r68, up2 (up2 (up2 (up2 σ 1 (ix p1 + (8 + 0 + 3 * r12.toNatClampNeg)) p2) 1 (ix p1 + (8 + 1 + 3 * r12.toNatClampNeg)) p3) 1 (ix p1 + (8 + 2 + 3 * r12.toNatClampNeg)) p4) 1 (ix p1 + 7) ((σ 1 (ix p1 + 7)) + 1))))))
theorem v_X9_comesSection : cvV yX9_comesSection "NestedBellsModel" cX9_comesSection 6 (some (.int)) 4 := ⟨q_5_76, s_43, q_1_10, q_5_77, rfl, by decide +kernel, by decide +kernel, by decide +kernel⟩
set_option maxHeartbeats 4000000 in
set_option maxRecDepth 100000 in
theorem k_X9_comesSection {l : Launch} {D : va_G} {T : Nat → ClassId} {g ad : Nat → Nat} {σ : St} {p1 : Int32} {p2 : Int32} {p3 : Int32} {p4 : Int32} (I0 : InvD σ) (hs : 0 ≤ p1.toInt ∧ p1.toInt < 12) (hS : (σ 1 (ix p1 + 7)).toInt < 2) : mX l yX9_comesSection cX9_comesSection 6 (some (.int)) rmX9_comesSection D T g 6 ad (cE (dE T ad) σ) [.ref (ad 0), .int p1, .int p2, .int p3, .int p4] (qI D 6 ad (dE T ad) (pI (f_X9_comesSection σ p1 p2 p3 p4) InvD)) := by
  refine mX.of (own := "NestedBellsModel") (by decide +kernel) (Nat.le_of_ble_eq_true rfl) rfl ?_
  intro p e s m below meth c A ls H locs Z hr hlk _ hw hl
  have hx := Z.1.1
  have hb := Z.1.2.1
  have hl : lv_has ls 6 [(0, .ref (ad 0)), (1, .int p1), (2, .int p2), (3, .int p3), (4, .int p4)] := hl
  refine lv_iload_n hx hb dX9_comesSection_0 rfl (lv_at hl 1 rfl) ?_
  refine bk_ip (rnS (rest := []) Z hw (k_X9_at (p1 := p1) ) v_X9_at rfl q_5_40 hl.1 rfl rfl (Nat.le_of_ble_eq_true rfl) ⟨(Nat.le_of_ble_eq_true rfl), (Nat.le_of_ble_eq_true rfl)⟩ ⟨(Nat.le_of_ble_eq_true rfl), (Nat.le_of_ble_eq_true rfl)⟩ dX9_comesSection_1) hw Z (fun r1 er1 H locs hw => ?_)
  refine lv_bipush (v := 8) hx hb dX9_comesSection_4 (by decide +kernel) ?_
  refine lv_iadd hx hb dX9_comesSection_6 ?_
  refine lv_iconst (v := 3) hx hb dX9_comesSection_7 (by decide +kernel) ?_
  refine lv_aload_n hx hb dX9_comesSection_8 rfl (lv_at hl 0 rfl) ?_
  refine lv_iload_n hx hb dX9_comesSection_9 rfl (lv_at hl 1 rfl) ?_
  refine lv_bipush (v := 7) hx hb dX9_comesSection_10 (by decide +kernel) ?_
  refine bk_ip (rnV (rest := [.int 3, .int (r1 + 8)]) Z hw (k_X9_of (p1 := p1) (p2 := 7) I0 hs (by decide +kernel)) v_X9_of q_5_70 (0) (by decide) rfl rfl rfl rfl hl.1 rfl rfl (Nat.le_of_ble_eq_true rfl) ⟨(Nat.le_of_ble_eq_true rfl), (Nat.le_of_ble_eq_true rfl)⟩ ⟨(Nat.le_of_ble_eq_true rfl), (Nat.le_of_ble_eq_true rfl)⟩ dX9_comesSection_12) hw Z (fun r12 er12 H locs hw => ?_)
  refine lv_imul hx hb dX9_comesSection_15 ?_
  refine lv_iadd hx hb dX9_comesSection_16 ?_
  have hy : 0 ≤ r12.toInt ∧ r12.toInt < 2 := ⟨(sec_of I0 hs er12).1, by rw [← of7 er12]; exact hS⟩
  refine lv_istore (lv' := [(5, .int ((r1 + 8) + (3 * r12))), (0, .ref (ad 0)), (1, .int p1), (2, .int p2), (3, .int p3), (4, .int p4)]) hx hb dX9_comesSection_17 hl (by decide) rfl (fun ls hl => ?_)
  refine lv_aload_n hx hb dX9_comesSection_19 rfl (lv_at hl 1 rfl) ?_
  refine gD (j := 0) (v := .ref (ad 1)) Z hw  (by decide) q_4_212 rfl rfl dX9_comesSection_20 ?_
  refine lv_iload hx hb dX9_comesSection_23 (lv_at hl 0 rfl) ?_
  refine lv_iload_n hx hb dX9_comesSection_25 rfl (lv_at hl 3 rfl) ?_
  refine sE (j := ix p1 + (8 + 0 + 3 * r12.toNatClampNeg)) Z hw 1 (by decide) rfl (fun _ => rfl) (cs_vp er1 hs hy) (cs_ix er1 hs hy) dX9_comesSection_26 (fun H locs hw => ?_)
  refine lv_aload_n hx hb dX9_comesSection_27 rfl (lv_at hl 1 rfl) ?_
  refine gD (j := 0) (v := .ref (ad 1)) Z hw  (by decide) q_4_212 rfl rfl dX9_comesSection_28 ?_
  refine lv_iload hx hb dX9_comesSection_31 (lv_at hl 0 rfl) ?_
  refine lv_iconst (v := 1) hx hb dX9_comesSection_33 (by decide +kernel) ?_
  refine lv_iadd hx hb dX9_comesSection_34 ?_
  refine lv_iload_n hx hb dX9_comesSection_35 rfl (lv_at hl 4 rfl) ?_
  refine sE (j := ix p1 + (8 + 1 + 3 * r12.toNatClampNeg)) Z hw 1 (by decide) rfl (fun _ => rfl) (cs_vpw (w := 1) er1 hs hy (by decide)) (cs_ixw (w := 1) er1 hs hy (by decide)) dX9_comesSection_36 (fun H locs hw => ?_)
  refine lv_aload_n hx hb dX9_comesSection_37 rfl (lv_at hl 1 rfl) ?_
  refine gD (j := 0) (v := .ref (ad 1)) Z hw  (by decide) q_4_212 rfl rfl dX9_comesSection_38 ?_
  refine lv_iload hx hb dX9_comesSection_41 (lv_at hl 0 rfl) ?_
  refine lv_iconst (v := 2) hx hb dX9_comesSection_43 (by decide +kernel) ?_
  refine lv_iadd hx hb dX9_comesSection_44 ?_
  refine lv_iload hx hb dX9_comesSection_45 (lv_at hl 5 rfl) ?_
  refine sE (j := ix p1 + (8 + 2 + 3 * r12.toNatClampNeg)) Z hw 1 (by decide) rfl (fun _ => rfl) (cs_vpw (w := 2) er1 hs hy (by decide)) (cs_ixw (w := 2) er1 hs hy (by decide)) dX9_comesSection_47 (fun H locs hw => ?_)
  refine lv_aload_n hx hb dX9_comesSection_48 rfl (lv_at hl 1 rfl) ?_
  refine gD (j := 0) (v := .ref (ad 1)) Z hw  (by decide) q_4_212 rfl rfl dX9_comesSection_49 ?_
  refine lv_iload_n hx hb dX9_comesSection_52 rfl (lv_at hl 2 rfl) ?_
  refine bk_ip (rnS (rest := [.ref (ad 1)]) Z hw (k_X9_at (p1 := p1) ) v_X9_at rfl q_5_40 hl.1 rfl rfl (Nat.le_of_ble_eq_true rfl) ⟨(Nat.le_of_ble_eq_true rfl), (Nat.le_of_ble_eq_true rfl)⟩ ⟨(Nat.le_of_ble_eq_true rfl), (Nat.le_of_ble_eq_true rfl)⟩ dX9_comesSection_53) hw Z (fun r53 er53 H locs hw => ?_)
  refine lv_bipush (v := 7) hx hb dX9_comesSection_56 (by decide +kernel) ?_
  refine lv_iadd hx hb dX9_comesSection_58 ?_
  refine lv_dup2_11 hx hb dX9_comesSection_59 rfl rfl ?_
  refine aE (v := σ 1 (ix p1 + 7)) Z hw 1 (by decide) rfl (fun _ => rfl) (at_vp er53 hs (w := 7) (by omega)) ((congrArg ((up2 (up2 (up2 σ 1 (ix p1 + (8 + 0 + 3 * r12.toNatClampNeg)) p2) 1 (ix p1 + (8 + 1 + 3 * r12.toNatClampNeg)) p3) 1 (ix p1 + (8 + 2 + 3 * r12.toNatClampNeg)) p4) 1) (at_ix er53 hs (w := 7) (by omega))).trans ((up2_j (by omega)).trans ((up2_j (by omega)).trans (up2_j (by omega))))) dX9_comesSection_60 ?_
  refine lv_iconst (v := 1) hx hb dX9_comesSection_61 (by decide +kernel) ?_
  refine lv_iadd hx hb dX9_comesSection_62 ?_
  refine sE (j := ix p1 + 7) Z hw 1 (by decide) rfl (fun _ => rfl) (at_vp er53 hs (w := 7) (by omega)) (at_ix er53 hs (w := 7) (by omega)) dX9_comesSection_63 (fun H locs hw => ?_)
  refine lv_aload_n hx hb dX9_comesSection_64 rfl (lv_at hl 1 rfl) ?_
  refine lv_iload_n hx hb dX9_comesSection_65 rfl (lv_at hl 2 rfl) ?_
  refine lv_bipush (v := 7) hx hb dX9_comesSection_66 (by decide +kernel) ?_
  refine bk_ip (rnV (rest := []) Z hw (k_X9_of (p1 := p1) (p2 := 7) (InvD.sec (sec1 (by rw [of7 er12]; exact hy)) (InvD.fld (cs_w (w := 2) hy (by decide)) (InvD.fld (cs_w (w := 1) hy (by decide)) (InvD.fld (cs_w (w := 0) hy (by decide)) I0)))) hs (by decide +kernel)) v_X9_of q_5_70 (0) (by decide) rfl rfl rfl rfl hl.1 rfl rfl (Nat.le_of_ble_eq_true rfl) ⟨(Nat.le_of_ble_eq_true rfl), (Nat.le_of_ble_eq_true rfl)⟩ ⟨(Nat.le_of_ble_eq_true rfl), (Nat.le_of_ble_eq_true rfl)⟩ dX9_comesSection_68) hw Z (fun r68 er68 H locs hw => ?_)
  exact rt_i Z hr hlk hw dX9_comesSection_71 (pI.mk (by subst er68 er53 er12 er1; exact rfl) (InvD.sec (sec1 (by rw [of7 er12]; exact hy)) (InvD.fld (cs_w (w := 2) hy (by decide)) (InvD.fld (cs_w (w := 1) hy (by decide)) (InvD.fld (cs_w (w := 0) hy (by decide)) I0)))))
abbrev rmX9_waits : Room := { frames := 6, cells := 0, slots := 0, locals := 134 }
def f_X9_waits (σ : St) (p1 : Int32) : Int32 := (let r2 := f_X9_isPending σ p1; (if r2 = 0 then (-1) else (let r13 := f_X9_of σ p1 0; (let r20 := f_X9_of σ p1 3; (if r20 = 0 then 1 else (if (σ 1 1) < r13 then (let r46 := f_X9_ceiling σ; (if r46 < r13 then (let r58 := f_X9_running σ; (if r58 < r13 then (let r69 := f_X9_candidate σ; (if r69 = p1 then (if (σ 1 5) = 0 then 0 else 6) else 5)) else 4)) else 3)) else 2))))))
theorem v_X9_waits : cvV yX9_waits "NestedBellsModel" cX9_waits 3 (some (.int)) 1 := ⟨q_5_208, s_66, q_1_10, q_5_209, rfl, by decide +kernel, by decide +kernel, by decide +kernel⟩
set_option maxHeartbeats 4000000 in
set_option maxRecDepth 100000 in
theorem k_X9_waits {l : Launch} {D : va_G} {T : Nat → ClassId} {g ad : Nat → Nat} {σ : St} {p1 : Int32} (I0 : InvD σ) (hs : 0 ≤ p1.toInt ∧ p1.toInt < 12) : mX l yX9_waits cX9_waits 3 (some (.int)) rmX9_waits D T g 6 ad (cE (dE T ad) σ) [.ref (ad 0), .int p1] (qI D 6 ad (dE T ad) (pR (f_X9_waits σ p1) σ)) := by
  refine mX.of (own := "NestedBellsModel") (by decide +kernel) (Nat.le_of_ble_eq_true rfl) rfl ?_
  intro p e s m below meth c A ls H locs Z hr hlk _ hw hl
  have hx := Z.1.1
  have hb := Z.1.2.1
  have hl : lv_has ls 3 [(0, .ref (ad 0)), (1, .int p1)] := hl
  refine lv_aload_n hx hb dX9_waits_0 rfl (lv_at hl 0 rfl) ?_
  refine lv_iload_n hx hb dX9_waits_1 rfl (lv_at hl 1 rfl) ?_
  refine bk_ip (rnV (rest := []) Z hw (k_X9_isPending (p1 := p1) I0 hs) v_X9_isPending q_5_178 (0) (by decide) rfl rfl rfl rfl hl.1 rfl rfl (Nat.le_of_ble_eq_true rfl) ⟨(Nat.le_of_ble_eq_true rfl), (Nat.le_of_ble_eq_true rfl)⟩ ⟨(Nat.le_of_ble_eq_true rfl), (Nat.le_of_ble_eq_true rfl)⟩ dX9_waits_2) hw Z (fun r2 er2 H locs hw => ?_)
  refine lv_if_ne (tgt := 10) hx hb dX9_waits_5 (by decide) (fun c5 => ?_) (fun c5 => ?_)
  · refine lv_aload_n hx hb dX9_waits_10 rfl (lv_at hl 0 rfl) ?_
    refine lv_iload_n hx hb dX9_waits_11 rfl (lv_at hl 1 rfl) ?_
    refine lv_iconst (v := 0) hx hb dX9_waits_12 (by decide +kernel) ?_
    refine bk_ip (rnV (rest := []) Z hw (k_X9_of (p1 := p1) (p2 := 0) I0 hs (by decide +kernel)) v_X9_of q_5_70 (0) (by decide) rfl rfl rfl rfl hl.1 rfl rfl (Nat.le_of_ble_eq_true rfl) ⟨(Nat.le_of_ble_eq_true rfl), (Nat.le_of_ble_eq_true rfl)⟩ ⟨(Nat.le_of_ble_eq_true rfl), (Nat.le_of_ble_eq_true rfl)⟩ dX9_waits_13) hw Z (fun r13 er13 H locs hw => ?_)
    refine lv_istore_n (lv' := [(2, .int r13), (0, .ref (ad 0)), (1, .int p1)]) hx hb dX9_waits_16 rfl hl (by decide) rfl (fun ls hl => ?_)
    refine lv_aload_n hx hb dX9_waits_17 rfl (lv_at hl 1 rfl) ?_
    refine lv_iload_n hx hb dX9_waits_18 rfl (lv_at hl 2 rfl) ?_
    refine lv_iconst (v := 3) hx hb dX9_waits_19 (by decide +kernel) ?_
    refine bk_ip (rnV (rest := []) Z hw (k_X9_of (p1 := p1) (p2 := 3) I0 hs (by decide +kernel)) v_X9_of q_5_70 (0) (by decide) rfl rfl rfl rfl hl.1 rfl rfl (Nat.le_of_ble_eq_true rfl) ⟨(Nat.le_of_ble_eq_true rfl), (Nat.le_of_ble_eq_true rfl)⟩ ⟨(Nat.le_of_ble_eq_true rfl), (Nat.le_of_ble_eq_true rfl)⟩ dX9_waits_20) hw Z (fun r20 er20 H locs hw => ?_)
    refine lv_if_ne (tgt := 30) hx hb dX9_waits_23 (by decide) (fun c23 => ?_) (fun c23 => ?_)
    · refine lv_iload_n hx hb dX9_waits_30 rfl (lv_at hl 0 rfl) ?_
      refine lv_aload_n hx hb dX9_waits_31 rfl (lv_at hl 1 rfl) ?_
      refine gD (j := 0) (v := .ref (ad 1)) Z hw  (by decide) q_4_212 rfl rfl dX9_waits_32 ?_
      refine lv_iconst (v := 1) hx hb dX9_waits_35 (by decide +kernel) ?_
      refine aE (v := σ 1 1) Z hw 1 (by decide) rfl (fun _ => rfl) (vp_in_nI (n := 1) (by decide) (by decide)) ((congrArg (σ 1) (nI_clamp (n := 1) (by decide))).trans rfl) dX9_waits_36 ?_
      refine lv_icmp_gt (tgt := 44) hx hb dX9_waits_37 (by decide) (fun c37 => ?_) (fun c37 => ?_)
      · refine lv_iload_n hx hb dX9_waits_44 rfl (lv_at hl 0 rfl) ?_
        refine lv_aload_n hx hb dX9_waits_45 rfl (lv_at hl 1 rfl) ?_
        refine bk_ip (rnV (rest := [.int r13]) Z hw (k_X9_ceiling  I0) v_X9_ceiling q_5_163 (0) (by decide) rfl rfl rfl rfl hl.1 rfl rfl (Nat.le_of_ble_eq_true rfl) ⟨(Nat.le_of_ble_eq_true rfl), (Nat.le_of_ble_eq_true rfl)⟩ ⟨(Nat.le_of_ble_eq_true rfl), (Nat.le_of_ble_eq_true rfl)⟩ dX9_waits_46) hw Z (fun r46 er46 H locs hw => ?_)
        refine lv_icmp_gt (tgt := 56) hx hb dX9_waits_49 (by decide) (fun c49 => ?_) (fun c49 => ?_)
        · refine lv_iload_n hx hb dX9_waits_56 rfl (lv_at hl 0 rfl) ?_
          refine lv_aload_n hx hb dX9_waits_57 rfl (lv_at hl 1 rfl) ?_
          refine bk_ip (rnV (rest := [.int r13]) Z hw (k_X9_running  I0) v_X9_running q_5_171 (0) (by decide) rfl rfl rfl rfl hl.1 rfl rfl (Nat.le_of_ble_eq_true rfl) ⟨(Nat.le_of_ble_eq_true rfl), (Nat.le_of_ble_eq_true rfl)⟩ ⟨(Nat.le_of_ble_eq_true rfl), (Nat.le_of_ble_eq_true rfl)⟩ dX9_waits_58) hw Z (fun r58 er58 H locs hw => ?_)
          refine lv_icmp_gt (tgt := 68) hx hb dX9_waits_61 (by decide) (fun c61 => ?_) (fun c61 => ?_)
          · refine lv_aload_n hx hb dX9_waits_68 rfl (lv_at hl 1 rfl) ?_
            refine bk_ip (rnV (rest := []) Z hw (k_X9_candidate  I0) v_X9_candidate q_5_155 (0) (by decide) rfl rfl rfl rfl hl.1 rfl rfl (Nat.le_of_ble_eq_true rfl) ⟨(Nat.le_of_ble_eq_true rfl), (Nat.le_of_ble_eq_true rfl)⟩ ⟨(Nat.le_of_ble_eq_true rfl), (Nat.le_of_ble_eq_true rfl)⟩ dX9_waits_69) hw Z (fun r69 er69 H locs hw => ?_)
            refine lv_iload_n hx hb dX9_waits_72 rfl (lv_at hl 2 rfl) ?_
            refine lv_icmp_eq (tgt := 80) hx hb dX9_waits_73 (by decide) (fun c73 => ?_) (fun c73 => ?_)
            · refine lv_aload_n hx hb dX9_waits_80 rfl (lv_at hl 1 rfl) ?_
              refine gD (j := 0) (v := .ref (ad 1)) Z hw  (by decide) q_4_212 rfl rfl dX9_waits_81 ?_
              refine lv_iconst (v := 5) hx hb dX9_waits_84 (by decide +kernel) ?_
              refine aE (v := σ 1 5) Z hw 1 (by decide) rfl (fun _ => rfl) (vp_in_nI (n := 5) (by decide) (by decide)) ((congrArg (σ 1) (nI_clamp (n := 5) (by decide))).trans rfl) dX9_waits_85 ?_
              refine lv_if_eq (tgt := 94) hx hb dX9_waits_86 (by decide) (fun c86 => ?_) (fun c86 => ?_)
              · refine lv_iconst (v := 0) hx hb dX9_waits_94 (by decide +kernel) ?_
                exact rt_i Z hr hlk hw dX9_waits_95 ⟨Eq.symm (by subst er69 er58 er46 er20 er13 er2; exact (lf_f c5 (lf_f c23 (lf_t c37 (lf_t c49 (lf_t c61 (lf_t c73 (lf_t c86 rfl)))))))), rfl⟩
              · refine lv_bipush (v := 6) hx hb dX9_waits_89 (by decide +kernel) ?_
                refine lv_goto (tgt := 95) hx hb dX9_waits_91 (by decide) ?_
                exact rt_i Z hr hlk hw dX9_waits_95 ⟨Eq.symm (by subst er69 er58 er46 er20 er13 er2; exact (lf_f c5 (lf_f c23 (lf_t c37 (lf_t c49 (lf_t c61 (lf_t c73 (lf_f c86 rfl)))))))), rfl⟩
            · refine lv_iconst (v := 5) hx hb dX9_waits_76 (by decide +kernel) ?_
              refine lv_goto (tgt := 95) hx hb dX9_waits_77 (by decide) ?_
              exact rt_i Z hr hlk hw dX9_waits_95 ⟨Eq.symm (by subst er69 er58 er46 er20 er13 er2; exact (lf_f c5 (lf_f c23 (lf_t c37 (lf_t c49 (lf_t c61 (lf_f c73 rfl))))))), rfl⟩
          · refine lv_iconst (v := 4) hx hb dX9_waits_64 (by decide +kernel) ?_
            refine lv_goto (tgt := 95) hx hb dX9_waits_65 (by decide) ?_
            exact rt_i Z hr hlk hw dX9_waits_95 ⟨Eq.symm (by subst er58 er46 er20 er13 er2; exact (lf_f c5 (lf_f c23 (lf_t c37 (lf_t c49 (lf_f c61 rfl)))))), rfl⟩
        · refine lv_iconst (v := 3) hx hb dX9_waits_52 (by decide +kernel) ?_
          refine lv_goto (tgt := 95) hx hb dX9_waits_53 (by decide) ?_
          exact rt_i Z hr hlk hw dX9_waits_95 ⟨Eq.symm (by subst er46 er20 er13 er2; exact (lf_f c5 (lf_f c23 (lf_t c37 (lf_f c49 rfl))))), rfl⟩
      · refine lv_iconst (v := 2) hx hb dX9_waits_40 (by decide +kernel) ?_
        refine lv_goto (tgt := 95) hx hb dX9_waits_41 (by decide) ?_
        exact rt_i Z hr hlk hw dX9_waits_95 ⟨Eq.symm (by subst er20 er13 er2; exact (lf_f c5 (lf_f c23 (lf_f c37 rfl)))), rfl⟩
    · refine lv_iconst (v := 1) hx hb dX9_waits_26 (by decide +kernel) ?_
      refine lv_goto (tgt := 95) hx hb dX9_waits_27 (by decide) ?_
      exact rt_i Z hr hlk hw dX9_waits_95 ⟨Eq.symm (by subst er20 er13 er2; exact (lf_f c5 (lf_t c23 rfl))), rfl⟩
  · refine lv_iconst (v := (-1)) hx hb dX9_waits_8 (by decide +kernel) ?_
    exact rt_i Z hr hlk hw dX9_waits_9 ⟨Eq.symm (by subst er2; exact (lf_t c5 rfl)), rfl⟩
abbrev rmX9_tellSource : Room := { frames := 7, cells := 0, slots := 0, locals := 156 }
def f_X9_tellSource (σ : St) (p1 : Int32) (p2 : Int32) : Int32 := (if p2 = 0 then (let r87 := f_X9_of σ p1 p2; r87) else (if p2 = 1 then (let r87 := f_X9_of σ p1 p2; r87) else (if p2 = 2 then (let r87 := f_X9_of σ p1 p2; r87) else (if p2 = 3 then (let r87 := f_X9_of σ p1 p2; r87) else (if p2 = 4 then (let r93 := f_X9_isPending σ p1; (if r93 = 0 then 0 else 1)) else (if p2 = 5 then (let r87 := f_X9_of σ p1 p2; r87) else (if p2 = 6 then (let r107 := f_X9_placeOf σ p1; r107) else (if p2 = 7 then (let r155 := f_X9_of σ p1 ((16 + p2) - 7); r155) else (if p2 = 8 then (let r155 := f_X9_of σ p1 ((16 + p2) - 7); r155) else (if p2 = 9 then (let r155 := f_X9_of σ p1 ((16 + p2) - 7); r155) else (if p2 = 10 then (let r155 := f_X9_of σ p1 ((16 + p2) - 7); r155) else (if p2 = 11 then (let r155 := f_X9_of σ p1 ((16 + p2) - 7); r155) else (if p2 = 12 then (let r155 := f_X9_of σ p1 ((16 + p2) - 7); r155) else (if p2 = 13 then (let r155 := f_X9_of σ p1 ((16 + p2) - 7); r155) else (if p2 = 14 then (let r155 := f_X9_of σ p1 ((16 + p2) - 7); r155) else (if p2 = 15 then (let r115 := f_X9_of σ p1 15; (if r115 = 0 then (-1) else (let r129 := f_X9_of σ p1 14; r129 - (σ 1 0)))) else (if p2 = 16 then (let r142 := f_X9_waits σ p1; r142) else 0)))))))))))))))))
theorem v_X9_tellSource : cvV yX9_tellSource "NestedBellsModel" cX9_tellSource 3 (some (.int)) 2 := ⟨q_5_204, s_65, q_1_10, q_5_205, rfl, by decide +kernel, by decide +kernel, by decide +kernel⟩
set_option maxHeartbeats 4000000 in
set_option maxRecDepth 100000 in
theorem k_X9_tellSource {l : Launch} {D : va_G} {T : Nat → ClassId} {g ad : Nat → Nat} {σ : St} {p1 : Int32} {p2 : Int32} (I0 : InvD σ) (hs : 0 ≤ p1.toInt ∧ p1.toInt < 12) (h17 : 0 ≤ p2.toInt ∧ p2.toInt < 17) : mX l yX9_tellSource cX9_tellSource 3 (some (.int)) rmX9_tellSource D T g 6 ad (cE (dE T ad) σ) [.ref (ad 0), .int p1, .int p2] (qI D 6 ad (dE T ad) (pR (f_X9_tellSource σ p1 p2) σ)) := by
  refine mX.of (own := "NestedBellsModel") (by decide +kernel) (Nat.le_of_ble_eq_true rfl) rfl ?_
  intro p e s m below meth c A ls H locs Z hr hlk _ hw hl
  have hx := Z.1.1
  have hb := Z.1.2.1
  have hl : lv_has ls 3 [(0, .ref (ad 0)), (1, .int p1), (2, .int p2)] := hl
  refine lv_iload_n hx hb dX9_tellSource_0 rfl (lv_at hl 2 rfl) ?_
  rcases Decidable.em (p2 = 0) with c1_0 | c1_0
  · refine lv_tableIn (off := 83) (tgt := 84) hx hb dX9_tellSource_1 (by rw [c1_0]; decide +kernel) (by rw [c1_0]; decide +kernel) (by rw [c1_0]; rfl) (by decide) ?_
    refine lv_aload_n hx hb dX9_tellSource_84 rfl (lv_at hl 0 rfl) ?_
    refine lv_iload_n hx hb dX9_tellSource_85 rfl (lv_at hl 1 rfl) ?_
    refine lv_iload_n hx hb dX9_tellSource_86 rfl (lv_at hl 2 rfl) ?_
    refine bk_ip (rnV (rest := []) Z hw (k_X9_of (p1 := p1) (p2 := p2) I0 hs ⟨h17.1, by have := h17.2; omega⟩) v_X9_of q_5_70 (0) (by decide) rfl rfl rfl rfl hl.1 rfl rfl (Nat.le_of_ble_eq_true rfl) ⟨(Nat.le_of_ble_eq_true rfl), (Nat.le_of_ble_eq_true rfl)⟩ ⟨(Nat.le_of_ble_eq_true rfl), (Nat.le_of_ble_eq_true rfl)⟩ dX9_tellSource_87) hw Z (fun r87 er87 H locs hw => ?_)
    exact rt_i Z hr hlk hw dX9_tellSource_90 ⟨Eq.symm (by subst er87; exact (lf_t c1_0 rfl)), rfl⟩
  · rcases Decidable.em (p2 = 1) with c1_1 | c1_1
    · refine lv_tableIn (off := 83) (tgt := 84) hx hb dX9_tellSource_1 (by rw [c1_1]; decide +kernel) (by rw [c1_1]; decide +kernel) (by rw [c1_1]; rfl) (by decide) ?_
      refine lv_aload_n hx hb dX9_tellSource_84 rfl (lv_at hl 0 rfl) ?_
      refine lv_iload_n hx hb dX9_tellSource_85 rfl (lv_at hl 1 rfl) ?_
      refine lv_iload_n hx hb dX9_tellSource_86 rfl (lv_at hl 2 rfl) ?_
      refine bk_ip (rnV (rest := []) Z hw (k_X9_of (p1 := p1) (p2 := p2) I0 hs ⟨h17.1, by have := h17.2; omega⟩) v_X9_of q_5_70 (0) (by decide) rfl rfl rfl rfl hl.1 rfl rfl (Nat.le_of_ble_eq_true rfl) ⟨(Nat.le_of_ble_eq_true rfl), (Nat.le_of_ble_eq_true rfl)⟩ ⟨(Nat.le_of_ble_eq_true rfl), (Nat.le_of_ble_eq_true rfl)⟩ dX9_tellSource_87) hw Z (fun r87 er87 H locs hw => ?_)
      exact rt_i Z hr hlk hw dX9_tellSource_90 ⟨Eq.symm (by subst er87; exact (lf_f c1_0 (lf_t c1_1 rfl))), rfl⟩
    · rcases Decidable.em (p2 = 2) with c1_2 | c1_2
      · refine lv_tableIn (off := 83) (tgt := 84) hx hb dX9_tellSource_1 (by rw [c1_2]; decide +kernel) (by rw [c1_2]; decide +kernel) (by rw [c1_2]; rfl) (by decide) ?_
        refine lv_aload_n hx hb dX9_tellSource_84 rfl (lv_at hl 0 rfl) ?_
        refine lv_iload_n hx hb dX9_tellSource_85 rfl (lv_at hl 1 rfl) ?_
        refine lv_iload_n hx hb dX9_tellSource_86 rfl (lv_at hl 2 rfl) ?_
        refine bk_ip (rnV (rest := []) Z hw (k_X9_of (p1 := p1) (p2 := p2) I0 hs ⟨h17.1, by have := h17.2; omega⟩) v_X9_of q_5_70 (0) (by decide) rfl rfl rfl rfl hl.1 rfl rfl (Nat.le_of_ble_eq_true rfl) ⟨(Nat.le_of_ble_eq_true rfl), (Nat.le_of_ble_eq_true rfl)⟩ ⟨(Nat.le_of_ble_eq_true rfl), (Nat.le_of_ble_eq_true rfl)⟩ dX9_tellSource_87) hw Z (fun r87 er87 H locs hw => ?_)
        exact rt_i Z hr hlk hw dX9_tellSource_90 ⟨Eq.symm (by subst er87; exact (lf_f c1_0 (lf_f c1_1 (lf_t c1_2 rfl)))), rfl⟩
      · rcases Decidable.em (p2 = 3) with c1_3 | c1_3
        · refine lv_tableIn (off := 83) (tgt := 84) hx hb dX9_tellSource_1 (by rw [c1_3]; decide +kernel) (by rw [c1_3]; decide +kernel) (by rw [c1_3]; rfl) (by decide) ?_
          refine lv_aload_n hx hb dX9_tellSource_84 rfl (lv_at hl 0 rfl) ?_
          refine lv_iload_n hx hb dX9_tellSource_85 rfl (lv_at hl 1 rfl) ?_
          refine lv_iload_n hx hb dX9_tellSource_86 rfl (lv_at hl 2 rfl) ?_
          refine bk_ip (rnV (rest := []) Z hw (k_X9_of (p1 := p1) (p2 := p2) I0 hs ⟨h17.1, by have := h17.2; omega⟩) v_X9_of q_5_70 (0) (by decide) rfl rfl rfl rfl hl.1 rfl rfl (Nat.le_of_ble_eq_true rfl) ⟨(Nat.le_of_ble_eq_true rfl), (Nat.le_of_ble_eq_true rfl)⟩ ⟨(Nat.le_of_ble_eq_true rfl), (Nat.le_of_ble_eq_true rfl)⟩ dX9_tellSource_87) hw Z (fun r87 er87 H locs hw => ?_)
          exact rt_i Z hr hlk hw dX9_tellSource_90 ⟨Eq.symm (by subst er87; exact (lf_f c1_0 (lf_f c1_1 (lf_f c1_2 (lf_t c1_3 rfl))))), rfl⟩
        · rcases Decidable.em (p2 = 4) with c1_4 | c1_4
          · refine lv_tableIn (off := 90) (tgt := 91) hx hb dX9_tellSource_1 (by rw [c1_4]; decide +kernel) (by rw [c1_4]; decide +kernel) (by rw [c1_4]; rfl) (by decide) ?_
            refine lv_aload_n hx hb dX9_tellSource_91 rfl (lv_at hl 0 rfl) ?_
            refine lv_iload_n hx hb dX9_tellSource_92 rfl (lv_at hl 1 rfl) ?_
            refine bk_ip (rnV (rest := []) Z hw (k_X9_isPending (p1 := p1) I0 hs) v_X9_isPending q_5_178 (0) (by decide) rfl rfl rfl rfl hl.1 rfl rfl (Nat.le_of_ble_eq_true rfl) ⟨(Nat.le_of_ble_eq_true rfl), (Nat.le_of_ble_eq_true rfl)⟩ ⟨(Nat.le_of_ble_eq_true rfl), (Nat.le_of_ble_eq_true rfl)⟩ dX9_tellSource_93) hw Z (fun r93 er93 H locs hw => ?_)
            refine lv_if_eq (tgt := 103) hx hb dX9_tellSource_96 (by decide) (fun c96 => ?_) (fun c96 => ?_)
            · refine lv_iconst (v := 0) hx hb dX9_tellSource_103 (by decide +kernel) ?_
              exact rt_i Z hr hlk hw dX9_tellSource_104 ⟨Eq.symm (by subst er93; exact (lf_f c1_0 (lf_f c1_1 (lf_f c1_2 (lf_f c1_3 (lf_t c1_4 (lf_t c96 rfl))))))), rfl⟩
            · refine lv_iconst (v := 1) hx hb dX9_tellSource_99 (by decide +kernel) ?_
              refine lv_goto (tgt := 104) hx hb dX9_tellSource_100 (by decide) ?_
              exact rt_i Z hr hlk hw dX9_tellSource_104 ⟨Eq.symm (by subst er93; exact (lf_f c1_0 (lf_f c1_1 (lf_f c1_2 (lf_f c1_3 (lf_t c1_4 (lf_f c96 rfl))))))), rfl⟩
          · rcases Decidable.em (p2 = 5) with c1_5 | c1_5
            · refine lv_tableIn (off := 83) (tgt := 84) hx hb dX9_tellSource_1 (by rw [c1_5]; decide +kernel) (by rw [c1_5]; decide +kernel) (by rw [c1_5]; rfl) (by decide) ?_
              refine lv_aload_n hx hb dX9_tellSource_84 rfl (lv_at hl 0 rfl) ?_
              refine lv_iload_n hx hb dX9_tellSource_85 rfl (lv_at hl 1 rfl) ?_
              refine lv_iload_n hx hb dX9_tellSource_86 rfl (lv_at hl 2 rfl) ?_
              refine bk_ip (rnV (rest := []) Z hw (k_X9_of (p1 := p1) (p2 := p2) I0 hs ⟨h17.1, by have := h17.2; omega⟩) v_X9_of q_5_70 (0) (by decide) rfl rfl rfl rfl hl.1 rfl rfl (Nat.le_of_ble_eq_true rfl) ⟨(Nat.le_of_ble_eq_true rfl), (Nat.le_of_ble_eq_true rfl)⟩ ⟨(Nat.le_of_ble_eq_true rfl), (Nat.le_of_ble_eq_true rfl)⟩ dX9_tellSource_87) hw Z (fun r87 er87 H locs hw => ?_)
              exact rt_i Z hr hlk hw dX9_tellSource_90 ⟨Eq.symm (by subst er87; exact (lf_f c1_0 (lf_f c1_1 (lf_f c1_2 (lf_f c1_3 (lf_f c1_4 (lf_t c1_5 rfl))))))), rfl⟩
            · rcases Decidable.em (p2 = 6) with c1_6 | c1_6
              · refine lv_tableIn (off := 104) (tgt := 105) hx hb dX9_tellSource_1 (by rw [c1_6]; decide +kernel) (by rw [c1_6]; decide +kernel) (by rw [c1_6]; rfl) (by decide) ?_
                refine lv_aload_n hx hb dX9_tellSource_105 rfl (lv_at hl 0 rfl) ?_
                refine lv_iload_n hx hb dX9_tellSource_106 rfl (lv_at hl 1 rfl) ?_
                refine bk_ip (rnV (rest := []) Z hw (k_X9_placeOf (p1 := p1) I0) v_X9_placeOf q_5_54 (0) (by decide) rfl rfl rfl rfl hl.1 rfl rfl (Nat.le_of_ble_eq_true rfl) ⟨(Nat.le_of_ble_eq_true rfl), (Nat.le_of_ble_eq_true rfl)⟩ ⟨(Nat.le_of_ble_eq_true rfl), (Nat.le_of_ble_eq_true rfl)⟩ dX9_tellSource_107) hw Z (fun r107 er107 H locs hw => ?_)
                exact rt_i Z hr hlk hw dX9_tellSource_110 ⟨Eq.symm (by subst er107; exact (lf_f c1_0 (lf_f c1_1 (lf_f c1_2 (lf_f c1_3 (lf_f c1_4 (lf_f c1_5 (lf_t c1_6 rfl)))))))), rfl⟩
              · rcases Decidable.em (p2 = 7) with c1_7 | c1_7
                · refine lv_tableIn (off := 145) (tgt := 146) hx hb dX9_tellSource_1 (by rw [c1_7]; decide +kernel) (by rw [c1_7]; decide +kernel) (by rw [c1_7]; rfl) (by decide) ?_
                  have hcc := c1_7
                  refine lv_aload_n hx hb dX9_tellSource_146 rfl (lv_at hl 0 rfl) ?_
                  refine lv_iload_n hx hb dX9_tellSource_147 rfl (lv_at hl 1 rfl) ?_
                  refine lv_bipush (v := 16) hx hb dX9_tellSource_148 (by decide +kernel) ?_
                  refine lv_iload_n hx hb dX9_tellSource_150 rfl (lv_at hl 2 rfl) ?_
                  refine lv_iadd hx hb dX9_tellSource_151 ?_
                  refine lv_bipush (v := 7) hx hb dX9_tellSource_152 (by decide +kernel) ?_
                  refine lv_isub hx hb dX9_tellSource_154 ?_
                  refine bk_ip (rnV (rest := []) Z hw (k_X9_of (p1 := p1) (p2 := (16 + p2) - 7) I0 hs (by rw [hcc]; decide +kernel)) v_X9_of q_5_70 (0) (by decide) rfl rfl rfl rfl hl.1 rfl rfl (Nat.le_of_ble_eq_true rfl) ⟨(Nat.le_of_ble_eq_true rfl), (Nat.le_of_ble_eq_true rfl)⟩ ⟨(Nat.le_of_ble_eq_true rfl), (Nat.le_of_ble_eq_true rfl)⟩ dX9_tellSource_155) hw Z (fun r155 er155 H locs hw => ?_)
                  exact rt_i Z hr hlk hw dX9_tellSource_158 ⟨Eq.symm (by subst er155; exact (lf_f c1_0 (lf_f c1_1 (lf_f c1_2 (lf_f c1_3 (lf_f c1_4 (lf_f c1_5 (lf_f c1_6 (lf_t c1_7 rfl))))))))), rfl⟩
                · rcases Decidable.em (p2 = 8) with c1_8 | c1_8
                  · refine lv_tableIn (off := 145) (tgt := 146) hx hb dX9_tellSource_1 (by rw [c1_8]; decide +kernel) (by rw [c1_8]; decide +kernel) (by rw [c1_8]; rfl) (by decide) ?_
                    have hcc := c1_8
                    refine lv_aload_n hx hb dX9_tellSource_146 rfl (lv_at hl 0 rfl) ?_
                    refine lv_iload_n hx hb dX9_tellSource_147 rfl (lv_at hl 1 rfl) ?_
                    refine lv_bipush (v := 16) hx hb dX9_tellSource_148 (by decide +kernel) ?_
                    refine lv_iload_n hx hb dX9_tellSource_150 rfl (lv_at hl 2 rfl) ?_
                    refine lv_iadd hx hb dX9_tellSource_151 ?_
                    refine lv_bipush (v := 7) hx hb dX9_tellSource_152 (by decide +kernel) ?_
                    refine lv_isub hx hb dX9_tellSource_154 ?_
                    refine bk_ip (rnV (rest := []) Z hw (k_X9_of (p1 := p1) (p2 := (16 + p2) - 7) I0 hs (by rw [hcc]; decide +kernel)) v_X9_of q_5_70 (0) (by decide) rfl rfl rfl rfl hl.1 rfl rfl (Nat.le_of_ble_eq_true rfl) ⟨(Nat.le_of_ble_eq_true rfl), (Nat.le_of_ble_eq_true rfl)⟩ ⟨(Nat.le_of_ble_eq_true rfl), (Nat.le_of_ble_eq_true rfl)⟩ dX9_tellSource_155) hw Z (fun r155 er155 H locs hw => ?_)
                    exact rt_i Z hr hlk hw dX9_tellSource_158 ⟨Eq.symm (by subst er155; exact (lf_f c1_0 (lf_f c1_1 (lf_f c1_2 (lf_f c1_3 (lf_f c1_4 (lf_f c1_5 (lf_f c1_6 (lf_f c1_7 (lf_t c1_8 rfl)))))))))), rfl⟩
                  · rcases Decidable.em (p2 = 9) with c1_9 | c1_9
                    · refine lv_tableIn (off := 145) (tgt := 146) hx hb dX9_tellSource_1 (by rw [c1_9]; decide +kernel) (by rw [c1_9]; decide +kernel) (by rw [c1_9]; rfl) (by decide) ?_
                      have hcc := c1_9
                      refine lv_aload_n hx hb dX9_tellSource_146 rfl (lv_at hl 0 rfl) ?_
                      refine lv_iload_n hx hb dX9_tellSource_147 rfl (lv_at hl 1 rfl) ?_
                      refine lv_bipush (v := 16) hx hb dX9_tellSource_148 (by decide +kernel) ?_
                      refine lv_iload_n hx hb dX9_tellSource_150 rfl (lv_at hl 2 rfl) ?_
                      refine lv_iadd hx hb dX9_tellSource_151 ?_
                      refine lv_bipush (v := 7) hx hb dX9_tellSource_152 (by decide +kernel) ?_
                      refine lv_isub hx hb dX9_tellSource_154 ?_
                      refine bk_ip (rnV (rest := []) Z hw (k_X9_of (p1 := p1) (p2 := (16 + p2) - 7) I0 hs (by rw [hcc]; decide +kernel)) v_X9_of q_5_70 (0) (by decide) rfl rfl rfl rfl hl.1 rfl rfl (Nat.le_of_ble_eq_true rfl) ⟨(Nat.le_of_ble_eq_true rfl), (Nat.le_of_ble_eq_true rfl)⟩ ⟨(Nat.le_of_ble_eq_true rfl), (Nat.le_of_ble_eq_true rfl)⟩ dX9_tellSource_155) hw Z (fun r155 er155 H locs hw => ?_)
                      exact rt_i Z hr hlk hw dX9_tellSource_158 ⟨Eq.symm (by subst er155; exact (lf_f c1_0 (lf_f c1_1 (lf_f c1_2 (lf_f c1_3 (lf_f c1_4 (lf_f c1_5 (lf_f c1_6 (lf_f c1_7 (lf_f c1_8 (lf_t c1_9 rfl))))))))))), rfl⟩
                    · rcases Decidable.em (p2 = 10) with c1_10 | c1_10
                      · refine lv_tableIn (off := 145) (tgt := 146) hx hb dX9_tellSource_1 (by rw [c1_10]; decide +kernel) (by rw [c1_10]; decide +kernel) (by rw [c1_10]; rfl) (by decide) ?_
                        have hcc := c1_10
                        refine lv_aload_n hx hb dX9_tellSource_146 rfl (lv_at hl 0 rfl) ?_
                        refine lv_iload_n hx hb dX9_tellSource_147 rfl (lv_at hl 1 rfl) ?_
                        refine lv_bipush (v := 16) hx hb dX9_tellSource_148 (by decide +kernel) ?_
                        refine lv_iload_n hx hb dX9_tellSource_150 rfl (lv_at hl 2 rfl) ?_
                        refine lv_iadd hx hb dX9_tellSource_151 ?_
                        refine lv_bipush (v := 7) hx hb dX9_tellSource_152 (by decide +kernel) ?_
                        refine lv_isub hx hb dX9_tellSource_154 ?_
                        refine bk_ip (rnV (rest := []) Z hw (k_X9_of (p1 := p1) (p2 := (16 + p2) - 7) I0 hs (by rw [hcc]; decide +kernel)) v_X9_of q_5_70 (0) (by decide) rfl rfl rfl rfl hl.1 rfl rfl (Nat.le_of_ble_eq_true rfl) ⟨(Nat.le_of_ble_eq_true rfl), (Nat.le_of_ble_eq_true rfl)⟩ ⟨(Nat.le_of_ble_eq_true rfl), (Nat.le_of_ble_eq_true rfl)⟩ dX9_tellSource_155) hw Z (fun r155 er155 H locs hw => ?_)
                        exact rt_i Z hr hlk hw dX9_tellSource_158 ⟨Eq.symm (by subst er155; exact (lf_f c1_0 (lf_f c1_1 (lf_f c1_2 (lf_f c1_3 (lf_f c1_4 (lf_f c1_5 (lf_f c1_6 (lf_f c1_7 (lf_f c1_8 (lf_f c1_9 (lf_t c1_10 rfl)))))))))))), rfl⟩
                      · rcases Decidable.em (p2 = 11) with c1_11 | c1_11
                        · refine lv_tableIn (off := 145) (tgt := 146) hx hb dX9_tellSource_1 (by rw [c1_11]; decide +kernel) (by rw [c1_11]; decide +kernel) (by rw [c1_11]; rfl) (by decide) ?_
                          have hcc := c1_11
                          refine lv_aload_n hx hb dX9_tellSource_146 rfl (lv_at hl 0 rfl) ?_
                          refine lv_iload_n hx hb dX9_tellSource_147 rfl (lv_at hl 1 rfl) ?_
                          refine lv_bipush (v := 16) hx hb dX9_tellSource_148 (by decide +kernel) ?_
                          refine lv_iload_n hx hb dX9_tellSource_150 rfl (lv_at hl 2 rfl) ?_
                          refine lv_iadd hx hb dX9_tellSource_151 ?_
                          refine lv_bipush (v := 7) hx hb dX9_tellSource_152 (by decide +kernel) ?_
                          refine lv_isub hx hb dX9_tellSource_154 ?_
                          refine bk_ip (rnV (rest := []) Z hw (k_X9_of (p1 := p1) (p2 := (16 + p2) - 7) I0 hs (by rw [hcc]; decide +kernel)) v_X9_of q_5_70 (0) (by decide) rfl rfl rfl rfl hl.1 rfl rfl (Nat.le_of_ble_eq_true rfl) ⟨(Nat.le_of_ble_eq_true rfl), (Nat.le_of_ble_eq_true rfl)⟩ ⟨(Nat.le_of_ble_eq_true rfl), (Nat.le_of_ble_eq_true rfl)⟩ dX9_tellSource_155) hw Z (fun r155 er155 H locs hw => ?_)
                          exact rt_i Z hr hlk hw dX9_tellSource_158 ⟨Eq.symm (by subst er155; exact (lf_f c1_0 (lf_f c1_1 (lf_f c1_2 (lf_f c1_3 (lf_f c1_4 (lf_f c1_5 (lf_f c1_6 (lf_f c1_7 (lf_f c1_8 (lf_f c1_9 (lf_f c1_10 (lf_t c1_11 rfl))))))))))))), rfl⟩
                        · rcases Decidable.em (p2 = 12) with c1_12 | c1_12
                          · refine lv_tableIn (off := 145) (tgt := 146) hx hb dX9_tellSource_1 (by rw [c1_12]; decide +kernel) (by rw [c1_12]; decide +kernel) (by rw [c1_12]; rfl) (by decide) ?_
                            have hcc := c1_12
                            refine lv_aload_n hx hb dX9_tellSource_146 rfl (lv_at hl 0 rfl) ?_
                            refine lv_iload_n hx hb dX9_tellSource_147 rfl (lv_at hl 1 rfl) ?_
                            refine lv_bipush (v := 16) hx hb dX9_tellSource_148 (by decide +kernel) ?_
                            refine lv_iload_n hx hb dX9_tellSource_150 rfl (lv_at hl 2 rfl) ?_
                            refine lv_iadd hx hb dX9_tellSource_151 ?_
                            refine lv_bipush (v := 7) hx hb dX9_tellSource_152 (by decide +kernel) ?_
                            refine lv_isub hx hb dX9_tellSource_154 ?_
                            refine bk_ip (rnV (rest := []) Z hw (k_X9_of (p1 := p1) (p2 := (16 + p2) - 7) I0 hs (by rw [hcc]; decide +kernel)) v_X9_of q_5_70 (0) (by decide) rfl rfl rfl rfl hl.1 rfl rfl (Nat.le_of_ble_eq_true rfl) ⟨(Nat.le_of_ble_eq_true rfl), (Nat.le_of_ble_eq_true rfl)⟩ ⟨(Nat.le_of_ble_eq_true rfl), (Nat.le_of_ble_eq_true rfl)⟩ dX9_tellSource_155) hw Z (fun r155 er155 H locs hw => ?_)
                            exact rt_i Z hr hlk hw dX9_tellSource_158 ⟨Eq.symm (by subst er155; exact (lf_f c1_0 (lf_f c1_1 (lf_f c1_2 (lf_f c1_3 (lf_f c1_4 (lf_f c1_5 (lf_f c1_6 (lf_f c1_7 (lf_f c1_8 (lf_f c1_9 (lf_f c1_10 (lf_f c1_11 (lf_t c1_12 rfl)))))))))))))), rfl⟩
                          · rcases Decidable.em (p2 = 13) with c1_13 | c1_13
                            · refine lv_tableIn (off := 145) (tgt := 146) hx hb dX9_tellSource_1 (by rw [c1_13]; decide +kernel) (by rw [c1_13]; decide +kernel) (by rw [c1_13]; rfl) (by decide) ?_
                              have hcc := c1_13
                              refine lv_aload_n hx hb dX9_tellSource_146 rfl (lv_at hl 0 rfl) ?_
                              refine lv_iload_n hx hb dX9_tellSource_147 rfl (lv_at hl 1 rfl) ?_
                              refine lv_bipush (v := 16) hx hb dX9_tellSource_148 (by decide +kernel) ?_
                              refine lv_iload_n hx hb dX9_tellSource_150 rfl (lv_at hl 2 rfl) ?_
                              refine lv_iadd hx hb dX9_tellSource_151 ?_
                              refine lv_bipush (v := 7) hx hb dX9_tellSource_152 (by decide +kernel) ?_
                              refine lv_isub hx hb dX9_tellSource_154 ?_
                              refine bk_ip (rnV (rest := []) Z hw (k_X9_of (p1 := p1) (p2 := (16 + p2) - 7) I0 hs (by rw [hcc]; decide +kernel)) v_X9_of q_5_70 (0) (by decide) rfl rfl rfl rfl hl.1 rfl rfl (Nat.le_of_ble_eq_true rfl) ⟨(Nat.le_of_ble_eq_true rfl), (Nat.le_of_ble_eq_true rfl)⟩ ⟨(Nat.le_of_ble_eq_true rfl), (Nat.le_of_ble_eq_true rfl)⟩ dX9_tellSource_155) hw Z (fun r155 er155 H locs hw => ?_)
                              exact rt_i Z hr hlk hw dX9_tellSource_158 ⟨Eq.symm (by subst er155; exact (lf_f c1_0 (lf_f c1_1 (lf_f c1_2 (lf_f c1_3 (lf_f c1_4 (lf_f c1_5 (lf_f c1_6 (lf_f c1_7 (lf_f c1_8 (lf_f c1_9 (lf_f c1_10 (lf_f c1_11 (lf_f c1_12 (lf_t c1_13 rfl))))))))))))))), rfl⟩
                            · rcases Decidable.em (p2 = 14) with c1_14 | c1_14
                              · refine lv_tableIn (off := 145) (tgt := 146) hx hb dX9_tellSource_1 (by rw [c1_14]; decide +kernel) (by rw [c1_14]; decide +kernel) (by rw [c1_14]; rfl) (by decide) ?_
                                have hcc := c1_14
                                refine lv_aload_n hx hb dX9_tellSource_146 rfl (lv_at hl 0 rfl) ?_
                                refine lv_iload_n hx hb dX9_tellSource_147 rfl (lv_at hl 1 rfl) ?_
                                refine lv_bipush (v := 16) hx hb dX9_tellSource_148 (by decide +kernel) ?_
                                refine lv_iload_n hx hb dX9_tellSource_150 rfl (lv_at hl 2 rfl) ?_
                                refine lv_iadd hx hb dX9_tellSource_151 ?_
                                refine lv_bipush (v := 7) hx hb dX9_tellSource_152 (by decide +kernel) ?_
                                refine lv_isub hx hb dX9_tellSource_154 ?_
                                refine bk_ip (rnV (rest := []) Z hw (k_X9_of (p1 := p1) (p2 := (16 + p2) - 7) I0 hs (by rw [hcc]; decide +kernel)) v_X9_of q_5_70 (0) (by decide) rfl rfl rfl rfl hl.1 rfl rfl (Nat.le_of_ble_eq_true rfl) ⟨(Nat.le_of_ble_eq_true rfl), (Nat.le_of_ble_eq_true rfl)⟩ ⟨(Nat.le_of_ble_eq_true rfl), (Nat.le_of_ble_eq_true rfl)⟩ dX9_tellSource_155) hw Z (fun r155 er155 H locs hw => ?_)
                                exact rt_i Z hr hlk hw dX9_tellSource_158 ⟨Eq.symm (by subst er155; exact (lf_f c1_0 (lf_f c1_1 (lf_f c1_2 (lf_f c1_3 (lf_f c1_4 (lf_f c1_5 (lf_f c1_6 (lf_f c1_7 (lf_f c1_8 (lf_f c1_9 (lf_f c1_10 (lf_f c1_11 (lf_f c1_12 (lf_f c1_13 (lf_t c1_14 rfl)))))))))))))))), rfl⟩
                              · rcases Decidable.em (p2 = 15) with c1_15 | c1_15
                                · refine lv_tableIn (off := 110) (tgt := 111) hx hb dX9_tellSource_1 (by rw [c1_15]; decide +kernel) (by rw [c1_15]; decide +kernel) (by rw [c1_15]; rfl) (by decide) ?_
                                  refine lv_aload_n hx hb dX9_tellSource_111 rfl (lv_at hl 0 rfl) ?_
                                  refine lv_iload_n hx hb dX9_tellSource_112 rfl (lv_at hl 1 rfl) ?_
                                  refine lv_bipush (v := 15) hx hb dX9_tellSource_113 (by decide +kernel) ?_
                                  refine bk_ip (rnV (rest := []) Z hw (k_X9_of (p1 := p1) (p2 := 15) I0 hs (by decide +kernel)) v_X9_of q_5_70 (0) (by decide) rfl rfl rfl rfl hl.1 rfl rfl (Nat.le_of_ble_eq_true rfl) ⟨(Nat.le_of_ble_eq_true rfl), (Nat.le_of_ble_eq_true rfl)⟩ ⟨(Nat.le_of_ble_eq_true rfl), (Nat.le_of_ble_eq_true rfl)⟩ dX9_tellSource_115) hw Z (fun r115 er115 H locs hw => ?_)
                                  refine lv_if_ne (tgt := 125) hx hb dX9_tellSource_118 (by decide) (fun c118 => ?_) (fun c118 => ?_)
                                  · refine lv_aload_n hx hb dX9_tellSource_125 rfl (lv_at hl 0 rfl) ?_
                                    refine lv_iload_n hx hb dX9_tellSource_126 rfl (lv_at hl 1 rfl) ?_
                                    refine lv_bipush (v := 14) hx hb dX9_tellSource_127 (by decide +kernel) ?_
                                    refine bk_ip (rnV (rest := []) Z hw (k_X9_of (p1 := p1) (p2 := 14) I0 hs (by decide +kernel)) v_X9_of q_5_70 (0) (by decide) rfl rfl rfl rfl hl.1 rfl rfl (Nat.le_of_ble_eq_true rfl) ⟨(Nat.le_of_ble_eq_true rfl), (Nat.le_of_ble_eq_true rfl)⟩ ⟨(Nat.le_of_ble_eq_true rfl), (Nat.le_of_ble_eq_true rfl)⟩ dX9_tellSource_129) hw Z (fun r129 er129 H locs hw => ?_)
                                    refine lv_aload_n hx hb dX9_tellSource_132 rfl (lv_at hl 0 rfl) ?_
                                    refine gD (j := 0) (v := .ref (ad 1)) Z hw  (by decide) q_4_212 rfl rfl dX9_tellSource_133 ?_
                                    refine lv_iconst (v := 0) hx hb dX9_tellSource_136 (by decide +kernel) ?_
                                    refine aE (v := σ 1 0) Z hw 1 (by decide) rfl (fun _ => rfl) (vp_in_nI (n := 0) (by decide) (by decide)) ((congrArg (σ 1) (nI_clamp (n := 0) (by decide))).trans rfl) dX9_tellSource_137 ?_
                                    refine lv_isub hx hb dX9_tellSource_138 ?_
                                    exact rt_i Z hr hlk hw dX9_tellSource_139 ⟨Eq.symm (by subst er129 er115; exact (lf_f c1_0 (lf_f c1_1 (lf_f c1_2 (lf_f c1_3 (lf_f c1_4 (lf_f c1_5 (lf_f c1_6 (lf_f c1_7 (lf_f c1_8 (lf_f c1_9 (lf_f c1_10 (lf_f c1_11 (lf_f c1_12 (lf_f c1_13 (lf_f c1_14 (lf_t c1_15 (lf_f c118 rfl)))))))))))))))))), rfl⟩
                                  · refine lv_iconst (v := (-1)) hx hb dX9_tellSource_121 (by decide +kernel) ?_
                                    refine lv_goto (tgt := 139) hx hb dX9_tellSource_122 (by decide) ?_
                                    exact rt_i Z hr hlk hw dX9_tellSource_139 ⟨Eq.symm (by subst er115; exact (lf_f c1_0 (lf_f c1_1 (lf_f c1_2 (lf_f c1_3 (lf_f c1_4 (lf_f c1_5 (lf_f c1_6 (lf_f c1_7 (lf_f c1_8 (lf_f c1_9 (lf_f c1_10 (lf_f c1_11 (lf_f c1_12 (lf_f c1_13 (lf_f c1_14 (lf_t c1_15 (lf_t c118 rfl)))))))))))))))))), rfl⟩
                                · rcases Decidable.em (p2 = 16) with c1_16 | c1_16
                                  · refine lv_tableIn (off := 139) (tgt := 140) hx hb dX9_tellSource_1 (by rw [c1_16]; decide +kernel) (by rw [c1_16]; decide +kernel) (by rw [c1_16]; rfl) (by decide) ?_
                                    refine lv_aload_n hx hb dX9_tellSource_140 rfl (lv_at hl 0 rfl) ?_
                                    refine lv_iload_n hx hb dX9_tellSource_141 rfl (lv_at hl 1 rfl) ?_
                                    refine bk_ip (rnV (rest := []) Z hw (k_X9_waits (p1 := p1) I0 hs) v_X9_waits q_5_206 (0) (by decide) rfl rfl rfl rfl hl.1 rfl rfl (Nat.le_of_ble_eq_true rfl) ⟨(Nat.le_of_ble_eq_true rfl), (Nat.le_of_ble_eq_true rfl)⟩ ⟨(Nat.le_of_ble_eq_true rfl), (Nat.le_of_ble_eq_true rfl)⟩ dX9_tellSource_142) hw Z (fun r142 er142 H locs hw => ?_)
                                    exact rt_i Z hr hlk hw dX9_tellSource_145 ⟨Eq.symm (by subst er142; exact (lf_f c1_0 (lf_f c1_1 (lf_f c1_2 (lf_f c1_3 (lf_f c1_4 (lf_f c1_5 (lf_f c1_6 (lf_f c1_7 (lf_f c1_8 (lf_f c1_9 (lf_f c1_10 (lf_f c1_11 (lf_f c1_12 (lf_f c1_13 (lf_f c1_14 (lf_f c1_15 (lf_t c1_16 rfl)))))))))))))))))), rfl⟩
                                  · exact absurd h17 (by have t0 := lv_neT (a := 0) c1_0 (by decide +kernel); have t1 := lv_neT (a := 1) c1_1 (by decide +kernel); have t2 := lv_neT (a := 2) c1_2 (by decide +kernel); have t3 := lv_neT (a := 3) c1_3 (by decide +kernel); have t4 := lv_neT (a := 4) c1_4 (by decide +kernel); have t5 := lv_neT (a := 5) c1_5 (by decide +kernel); have t6 := lv_neT (a := 6) c1_6 (by decide +kernel); have t7 := lv_neT (a := 7) c1_7 (by decide +kernel); have t8 := lv_neT (a := 8) c1_8 (by decide +kernel); have t9 := lv_neT (a := 9) c1_9 (by decide +kernel); have t10 := lv_neT (a := 10) c1_10 (by decide +kernel); have t11 := lv_neT (a := 11) c1_11 (by decide +kernel); have t12 := lv_neT (a := 12) c1_12 (by decide +kernel); have t13 := lv_neT (a := 13) c1_13 (by decide +kernel); have t14 := lv_neT (a := 14) c1_14 (by decide +kernel); have t15 := lv_neT (a := 15) c1_15 (by decide +kernel); have t16 := lv_neT (a := 16) c1_16 (by decide +kernel); omega)
abbrev rmX9_tellSection : Room := { frames := 3, cells := 0, slots := 0, locals := 65 }
def f_X9_tellSection (σ : St) (p1 : Int32) (p2 : Int32) (p3 : Int32) : Int32 := (if p3 = 3 then (let r8 := f_X9_isInForce σ p1 p2; (if r8 = 0 then 0 else 1)) else (let r32 := f_X9_of σ p1 ((8 + (3 * p2)) + p3); r32))
theorem v_X9_tellSection : cvV yX9_tellSection "NestedBellsModel" cX9_tellSection 4 (some (.int)) 3 := ⟨q_5_216, s_67, q_1_10, q_5_217, rfl, by decide +kernel, by decide +kernel, by decide +kernel⟩
set_option maxHeartbeats 4000000 in
set_option maxRecDepth 100000 in
theorem k_X9_tellSection {l : Launch} {D : va_G} {T : Nat → ClassId} {g ad : Nat → Nat} {σ : St} {p1 : Int32} {p2 : Int32} {p3 : Int32} (I0 : InvD σ) (hs : 0 ≤ p1.toInt ∧ p1.toInt < 12) (h2 : 0 ≤ p2.toInt ∧ p2.toInt < 2) (h3 : 0 ≤ p3.toInt ∧ p3.toInt < 4) : mX l yX9_tellSection cX9_tellSection 4 (some (.int)) rmX9_tellSection D T g 6 ad (cE (dE T ad) σ) [.ref (ad 0), .int p1, .int p2, .int p3] (qI D 6 ad (dE T ad) (pR (f_X9_tellSection σ p1 p2 p3) σ)) := by
  refine mX.of (own := "NestedBellsModel") (by decide +kernel) (Nat.le_of_ble_eq_true rfl) rfl ?_
  intro p e s m below meth c A ls H locs Z hr hlk _ hw hl
  have hx := Z.1.1
  have hb := Z.1.2.1
  have hl : lv_has ls 4 [(0, .ref (ad 0)), (1, .int p1), (2, .int p2), (3, .int p3)] := hl
  refine lv_iload_n hx hb dX9_tellSection_0 rfl (lv_at hl 3 rfl) ?_
  refine lv_iconst (v := 3) hx hb dX9_tellSection_1 (by decide +kernel) ?_
  refine lv_icmp_ne (tgt := 22) hx hb dX9_tellSection_2 (by decide) (fun c2 => ?_) (fun c2 => ?_)
  · refine lv_aload_n hx hb dX9_tellSection_22 rfl (lv_at hl 0 rfl) ?_
    refine lv_iload_n hx hb dX9_tellSection_23 rfl (lv_at hl 1 rfl) ?_
    refine lv_bipush (v := 8) hx hb dX9_tellSection_24 (by decide +kernel) ?_
    refine lv_iconst (v := 3) hx hb dX9_tellSection_26 (by decide +kernel) ?_
    refine lv_iload_n hx hb dX9_tellSection_27 rfl (lv_at hl 2 rfl) ?_
    refine lv_imul hx hb dX9_tellSection_28 ?_
    refine lv_iadd hx hb dX9_tellSection_29 ?_
    refine lv_iload_n hx hb dX9_tellSection_30 rfl (lv_at hl 3 rfl) ?_
    refine lv_iadd hx hb dX9_tellSection_31 ?_
    refine bk_ip (rnV (rest := []) Z hw (k_X9_of (p1 := p1) (p2 := (8 + (3 * p2)) + p3) I0 hs (w8p h2 h3)) v_X9_of q_5_70 (0) (by decide) rfl rfl rfl rfl hl.1 rfl rfl (Nat.le_of_ble_eq_true rfl) ⟨(Nat.le_of_ble_eq_true rfl), (Nat.le_of_ble_eq_true rfl)⟩ ⟨(Nat.le_of_ble_eq_true rfl), (Nat.le_of_ble_eq_true rfl)⟩ dX9_tellSection_32) hw Z (fun r32 er32 H locs hw => ?_)
    exact rt_i Z hr hlk hw dX9_tellSection_35 ⟨Eq.symm (by subst er32; exact (lf_f c2 rfl)), rfl⟩
  · refine lv_aload_n hx hb dX9_tellSection_5 rfl (lv_at hl 0 rfl) ?_
    refine lv_iload_n hx hb dX9_tellSection_6 rfl (lv_at hl 1 rfl) ?_
    refine lv_iload_n hx hb dX9_tellSection_7 rfl (lv_at hl 2 rfl) ?_
    refine bk_ip (rnV (rest := []) Z hw (k_X9_isInForce (p1 := p1) (p2 := p2) I0 hs h2) v_X9_isInForce q_5_167 (0) (by decide) rfl rfl rfl rfl hl.1 rfl rfl (Nat.le_of_ble_eq_true rfl) ⟨(Nat.le_of_ble_eq_true rfl), (Nat.le_of_ble_eq_true rfl)⟩ ⟨(Nat.le_of_ble_eq_true rfl), (Nat.le_of_ble_eq_true rfl)⟩ dX9_tellSection_8) hw Z (fun r8 er8 H locs hw => ?_)
    refine lv_if_eq (tgt := 18) hx hb dX9_tellSection_11 (by decide) (fun c11 => ?_) (fun c11 => ?_)
    · refine lv_iconst (v := 0) hx hb dX9_tellSection_18 (by decide +kernel) ?_
      refine lv_goto (tgt := 35) hx hb dX9_tellSection_19 (by decide) ?_
      exact rt_i Z hr hlk hw dX9_tellSection_35 ⟨Eq.symm (by subst er8; exact (lf_t c2 (lf_t c11 rfl))), rfl⟩
    · refine lv_iconst (v := 1) hx hb dX9_tellSection_14 (by decide +kernel) ?_
      refine lv_goto (tgt := 35) hx hb dX9_tellSection_15 (by decide) ?_
      exact rt_i Z hr hlk hw dX9_tellSection_35 ⟨Eq.symm (by subst er8; exact (lf_t c2 (lf_f c11 rfl))), rfl⟩
abbrev rmX9_tellProcessor : Room := { frames := 6, cells := 0, slots := 0, locals := 134 }
def f_X9_tellProcessor (σ : St) (p1 : Int32) : Int32 := (if p1 = 5 then (let r45 := f_X9_level σ; r45) else (if p1 = 6 then (let r50 := f_X9_candidate σ; r50) else (if p1 = 7 then σ 1 9 else (if p1 = 8 then σ 1 5 else (if p1 = 9 then σ 1 6 else (if p1 = 10 then σ 1 7 else (if p1 = 11 then σ 1 8 else σ 1 p1.toNatClampNeg)))))))
theorem v_X9_tellProcessor : cvV yX9_tellProcessor "NestedBellsModel" cX9_tellProcessor 2 (some (.int)) 1 := ⟨q_5_228, s_68, q_1_10, q_5_229, rfl, by decide +kernel, by decide +kernel, by decide +kernel⟩
set_option maxHeartbeats 4000000 in
set_option maxRecDepth 100000 in
theorem k_X9_tellProcessor {l : Launch} {D : va_G} {T : Nat → ClassId} {g ad : Nat → Nat} {σ : St} {p1 : Int32} (I0 : InvD σ) (h12 : 0 ≤ p1.toInt ∧ p1.toInt < 12) : mX l yX9_tellProcessor cX9_tellProcessor 2 (some (.int)) rmX9_tellProcessor D T g 6 ad (cE (dE T ad) σ) [.ref (ad 0), .int p1] (qI D 6 ad (dE T ad) (pR (f_X9_tellProcessor σ p1) σ)) := by
  refine mX.of (own := "NestedBellsModel") (by decide +kernel) (Nat.le_of_ble_eq_true rfl) rfl ?_
  intro p e s m below meth c A ls H locs Z hr hlk _ hw hl
  have hx := Z.1.1
  have hb := Z.1.2.1
  have hl : lv_has ls 2 [(0, .ref (ad 0)), (1, .int p1)] := hl
  refine lv_iload_n hx hb dX9_tellProcessor_0 rfl (lv_at hl 1 rfl) ?_
  rcases Decidable.em (p1 = 5) with c1_5 | c1_5
  · refine lv_tableIn (off := 43) (tgt := 44) hx hb dX9_tellProcessor_1 (by rw [c1_5]; decide +kernel) (by rw [c1_5]; decide +kernel) (by rw [c1_5]; rfl) (by decide) ?_
    refine lv_aload_n hx hb dX9_tellProcessor_44 rfl (lv_at hl 0 rfl) ?_
    refine bk_ip (rnV (rest := []) Z hw (k_X9_level  I0) v_X9_level q_5_159 (0) (by decide) rfl rfl rfl rfl hl.1 rfl rfl (Nat.le_of_ble_eq_true rfl) ⟨(Nat.le_of_ble_eq_true rfl), (Nat.le_of_ble_eq_true rfl)⟩ ⟨(Nat.le_of_ble_eq_true rfl), (Nat.le_of_ble_eq_true rfl)⟩ dX9_tellProcessor_45) hw Z (fun r45 er45 H locs hw => ?_)
    exact rt_i Z hr hlk hw dX9_tellProcessor_48 ⟨Eq.symm (by subst er45; exact (lf_t c1_5 rfl)), rfl⟩
  · rcases Decidable.em (p1 = 6) with c1_6 | c1_6
    · refine lv_tableIn (off := 48) (tgt := 49) hx hb dX9_tellProcessor_1 (by rw [c1_6]; decide +kernel) (by rw [c1_6]; decide +kernel) (by rw [c1_6]; rfl) (by decide) ?_
      refine lv_aload_n hx hb dX9_tellProcessor_49 rfl (lv_at hl 0 rfl) ?_
      refine bk_ip (rnV (rest := []) Z hw (k_X9_candidate  I0) v_X9_candidate q_5_155 (0) (by decide) rfl rfl rfl rfl hl.1 rfl rfl (Nat.le_of_ble_eq_true rfl) ⟨(Nat.le_of_ble_eq_true rfl), (Nat.le_of_ble_eq_true rfl)⟩ ⟨(Nat.le_of_ble_eq_true rfl), (Nat.le_of_ble_eq_true rfl)⟩ dX9_tellProcessor_50) hw Z (fun r50 er50 H locs hw => ?_)
      exact rt_i Z hr hlk hw dX9_tellProcessor_53 ⟨Eq.symm (by subst er50; exact (lf_f c1_5 (lf_t c1_6 rfl))), rfl⟩
    · rcases Decidable.em (p1 = 7) with c1_7 | c1_7
      · refine lv_tableIn (off := 53) (tgt := 54) hx hb dX9_tellProcessor_1 (by rw [c1_7]; decide +kernel) (by rw [c1_7]; decide +kernel) (by rw [c1_7]; rfl) (by decide) ?_
        refine lv_aload_n hx hb dX9_tellProcessor_54 rfl (lv_at hl 0 rfl) ?_
        refine gD (j := 0) (v := .ref (ad 1)) Z hw  (by decide) q_4_212 rfl rfl dX9_tellProcessor_55 ?_
        refine lv_bipush (v := 9) hx hb dX9_tellProcessor_58 (by decide +kernel) ?_
        refine aE (v := σ 1 9) Z hw 1 (by decide) rfl (fun _ => rfl) (vp_in_nI (n := 9) (by decide) (by decide)) ((congrArg (σ 1) (nI_clamp (n := 9) (by decide))).trans rfl) dX9_tellProcessor_60 ?_
        exact rt_i Z hr hlk hw dX9_tellProcessor_61 ⟨Eq.symm (lf_f c1_5 (lf_f c1_6 (lf_t c1_7 rfl))), rfl⟩
      · rcases Decidable.em (p1 = 8) with c1_8 | c1_8
        · refine lv_tableIn (off := 61) (tgt := 62) hx hb dX9_tellProcessor_1 (by rw [c1_8]; decide +kernel) (by rw [c1_8]; decide +kernel) (by rw [c1_8]; rfl) (by decide) ?_
          refine lv_aload_n hx hb dX9_tellProcessor_62 rfl (lv_at hl 0 rfl) ?_
          refine gD (j := 0) (v := .ref (ad 1)) Z hw  (by decide) q_4_212 rfl rfl dX9_tellProcessor_63 ?_
          refine lv_iconst (v := 5) hx hb dX9_tellProcessor_66 (by decide +kernel) ?_
          refine aE (v := σ 1 5) Z hw 1 (by decide) rfl (fun _ => rfl) (vp_in_nI (n := 5) (by decide) (by decide)) ((congrArg (σ 1) (nI_clamp (n := 5) (by decide))).trans rfl) dX9_tellProcessor_67 ?_
          exact rt_i Z hr hlk hw dX9_tellProcessor_68 ⟨Eq.symm (lf_f c1_5 (lf_f c1_6 (lf_f c1_7 (lf_t c1_8 rfl)))), rfl⟩
        · rcases Decidable.em (p1 = 9) with c1_9 | c1_9
          · refine lv_tableIn (off := 68) (tgt := 69) hx hb dX9_tellProcessor_1 (by rw [c1_9]; decide +kernel) (by rw [c1_9]; decide +kernel) (by rw [c1_9]; rfl) (by decide) ?_
            refine lv_aload_n hx hb dX9_tellProcessor_69 rfl (lv_at hl 0 rfl) ?_
            refine gD (j := 0) (v := .ref (ad 1)) Z hw  (by decide) q_4_212 rfl rfl dX9_tellProcessor_70 ?_
            refine lv_bipush (v := 6) hx hb dX9_tellProcessor_73 (by decide +kernel) ?_
            refine aE (v := σ 1 6) Z hw 1 (by decide) rfl (fun _ => rfl) (vp_in_nI (n := 6) (by decide) (by decide)) ((congrArg (σ 1) (nI_clamp (n := 6) (by decide))).trans rfl) dX9_tellProcessor_75 ?_
            exact rt_i Z hr hlk hw dX9_tellProcessor_76 ⟨Eq.symm (lf_f c1_5 (lf_f c1_6 (lf_f c1_7 (lf_f c1_8 (lf_t c1_9 rfl))))), rfl⟩
          · rcases Decidable.em (p1 = 10) with c1_10 | c1_10
            · refine lv_tableIn (off := 76) (tgt := 77) hx hb dX9_tellProcessor_1 (by rw [c1_10]; decide +kernel) (by rw [c1_10]; decide +kernel) (by rw [c1_10]; rfl) (by decide) ?_
              refine lv_aload_n hx hb dX9_tellProcessor_77 rfl (lv_at hl 0 rfl) ?_
              refine gD (j := 0) (v := .ref (ad 1)) Z hw  (by decide) q_4_212 rfl rfl dX9_tellProcessor_78 ?_
              refine lv_bipush (v := 7) hx hb dX9_tellProcessor_81 (by decide +kernel) ?_
              refine aE (v := σ 1 7) Z hw 1 (by decide) rfl (fun _ => rfl) (vp_in_nI (n := 7) (by decide) (by decide)) ((congrArg (σ 1) (nI_clamp (n := 7) (by decide))).trans rfl) dX9_tellProcessor_83 ?_
              exact rt_i Z hr hlk hw dX9_tellProcessor_84 ⟨Eq.symm (lf_f c1_5 (lf_f c1_6 (lf_f c1_7 (lf_f c1_8 (lf_f c1_9 (lf_t c1_10 rfl)))))), rfl⟩
            · rcases Decidable.em (p1 = 11) with c1_11 | c1_11
              · refine lv_tableIn (off := 84) (tgt := 85) hx hb dX9_tellProcessor_1 (by rw [c1_11]; decide +kernel) (by rw [c1_11]; decide +kernel) (by rw [c1_11]; rfl) (by decide) ?_
                refine lv_aload_n hx hb dX9_tellProcessor_85 rfl (lv_at hl 0 rfl) ?_
                refine gD (j := 0) (v := .ref (ad 1)) Z hw  (by decide) q_4_212 rfl rfl dX9_tellProcessor_86 ?_
                refine lv_bipush (v := 8) hx hb dX9_tellProcessor_89 (by decide +kernel) ?_
                refine aE (v := σ 1 8) Z hw 1 (by decide) rfl (fun _ => rfl) (vp_in_nI (n := 8) (by decide) (by decide)) ((congrArg (σ 1) (nI_clamp (n := 8) (by decide))).trans rfl) dX9_tellProcessor_91 ?_
                exact rt_i Z hr hlk hw dX9_tellProcessor_92 ⟨Eq.symm (lf_f c1_5 (lf_f c1_6 (lf_f c1_7 (lf_f c1_8 (lf_f c1_9 (lf_f c1_10 (lf_t c1_11 rfl))))))), rfl⟩
              · refine lv_tableOut (tgt := 93) hx hb dX9_tellProcessor_1 (by have t5 := lv_neT (a := 5) c1_5 (by decide +kernel); have t6 := lv_neT (a := 6) c1_6 (by decide +kernel); have t7 := lv_neT (a := 7) c1_7 (by decide +kernel); have t8 := lv_neT (a := 8) c1_8 (by decide +kernel); have t9 := lv_neT (a := 9) c1_9 (by decide +kernel); have t10 := lv_neT (a := 10) c1_10 (by decide +kernel); have t11 := lv_neT (a := 11) c1_11 (by decide +kernel); omega) (by decide) ?_
                refine lv_aload_n hx hb dX9_tellProcessor_93 rfl (lv_at hl 0 rfl) ?_
                refine gD (j := 0) (v := .ref (ad 1)) Z hw  (by decide) q_4_212 rfl rfl dX9_tellProcessor_94 ?_
                refine lv_iload_n hx hb dX9_tellProcessor_97 rfl (lv_at hl 1 rfl) ?_
                refine aE (v := σ 1 p1.toNatClampNeg) Z hw 1 (by decide) rfl (fun _ => rfl) (vp_of h12.1 (by have := h12.2; omega)) rfl dX9_tellProcessor_98 ?_
                exact rt_i Z hr hlk hw dX9_tellProcessor_99 ⟨Eq.symm (lf_f c1_5 (lf_f c1_6 (lf_f c1_7 (lf_f c1_8 (lf_f c1_9 (lf_f c1_10 (lf_f c1_11 rfl))))))), rfl⟩
abbrev rmX9_enters : Room := { frames := 8, cells := 0, slots := 0, locals := 178 }
def f_X9_enters_l11 (p1 : Int32) (p2 : Int32) (r4 : Int32) : Nat → Nat → St → Nat × St
  | 0, k11, t11 => (k11, t11)
  | n11 + 1, k11, t11 => (if p2 ≤ (nI k11) then (k11, t11) else (let r21 := f_X9_of t11 p1 17; (if r21 = r4 then (let r29 := (f_X9_tick t11).1; let s29 := (f_X9_tick t11).2; (f_X9_enters_l11 p1 p2 r4 n11 (k11 + 1) s29)) else (k11, t11))))
def f_X9_enters (σ : St) (p1 : Int32) (p2 : Int32) : Int32 × St := (let r4 := f_X9_of σ p1 17; (let kk11 := (f_X9_enters_l11 p1 p2 r4 fu1001 0 σ).1; let u11 := (f_X9_enters_l11 p1 p2 r4 fu1001 0 σ).2; (let r44 := f_X9_of u11 p1 17; (if r44 ≤ r4 then ((-1), u11) else (nI kk11, u11)))))
theorem v_X9_enters : cvV yX9_enters "NestedBellsModel" cX9_enters 6 (some (.int)) 2 := ⟨q_6_11, s_70, q_1_10, q_6_12, rfl, by decide +kernel, by decide +kernel, by decide +kernel⟩
set_option maxHeartbeats 4000000 in
set_option maxRecDepth 100000 in
theorem L_X9_enters_11 {l : Launch} {D : va_G} {T : Nat → ClassId} {g ad : Nat → Nat} {p : Program} {e : Env} {s : State} {m : MethodId} {below : List Frame} {meth : Method} {c : Code} {A : Nat → Prop} {Qw : State → Prop} {p1 : Int32} {p2 : Int32} {r4 : Int32} (Z : en p m c cX9_enters 6 s [.ref (ad 0), .int p1, .int p2].toArray "NestedBellsModel" D T g A) (hs : 0 ≤ p1.toInt ∧ p1.toInt < 12) (hb2 : p2.toInt ≤ 1000) : ∀ (n11 : Nat) (k11 : Nat) (t11 : St) (H : Heap) (locs : List Loc) (ls : Array Slot), k11 ≤ 1000 → 1000 < k11 + n11 → InvD t11 → wo D A s.heap 6 ad (cE (dE T ad) t11) H locs → lv_has ls 6 [(4, .int (nI k11)), (3, .int r4), (0, .ref (ad 0)), (1, .int p1), (2, .int p2)] → (∀ (kk11 : Nat) (u11 : St) (H : Heap) (locs : List Loc) (ls : Array Slot), (f_X9_enters_l11 p1 p2 r4 n11 k11 t11).1 = kk11 → (f_X9_enters_l11 p1 p2 r4 n11 k11 t11).2 = u11 → InvD u11 → wo D A s.heap 6 ad (cE (dE T ad) u11) H locs → lv_has ls 6 [(4, .int (nI kk11)), (3, .int r4), (0, .ref (ad 0)), (1, .int p1)] → W p l e rmX9_enters s m [.ref (ad 0), .int p1, .int p2].toArray below meth c H locs 0 0 Qw (F0 m 40 ls [])) → W p l e rmX9_enters s m [.ref (ad 0), .int p1, .int p2].toArray below meth c H locs 0 0 Qw (F0 m 11 ls []) := by
  have hx := Z.1.1
  have hb := Z.1.2.1
  intro n11
  induction n11 with
  | zero =>
    intro k11 t11 H locs ls hk11 hn11 It11 hw hl kk
    exact absurd hn11 (by omega)
  | succ n11 ih =>
    intro k11 t11 H locs ls hk11 hn11 It11 hw hl kk
    refine lv_iload hx hb dX9_enters_11 (lv_at hl 0 rfl) ?_
    refine lv_iload_n hx hb dX9_enters_13 rfl (lv_at hl 4 rfl) ?_
    refine lv_icmp_ge (tgt := 40) hx hb dX9_enters_14 (by decide) (fun c14 => ?_) (fun c14 => ?_)
    · exact kk _ _ H locs ls (Eq.symm (congrArg (fun z : Nat × St => z.1) (show (k11, t11) = _ from (lf_t c14 rfl)))) (Eq.symm (congrArg (fun z : Nat × St => z.2) (show (k11, t11) = _ from (lf_t c14 rfl)))) It11 hw (lv_sub hl [0, 1, 2, 3] rfl)
    · have hkb11 : k11 < 1000 := kb_ge c14 hb2 hk11 (by decide)
      refine lv_aload_n hx hb dX9_enters_17 rfl (lv_at hl 2 rfl) ?_
      refine lv_iload_n hx hb dX9_enters_18 rfl (lv_at hl 3 rfl) ?_
      refine lv_bipush (v := 17) hx hb dX9_enters_19 (by decide +kernel) ?_
      refine bk_ip (rnV (rest := []) Z hw (k_X9_of (p1 := p1) (p2 := 17) It11 hs (by decide +kernel)) v_X9_of q_5_70 (0) (by decide) rfl rfl rfl rfl hl.1 rfl rfl (Nat.le_of_ble_eq_true rfl) ⟨(Nat.le_of_ble_eq_true rfl), (Nat.le_of_ble_eq_true rfl)⟩ ⟨(Nat.le_of_ble_eq_true rfl), (Nat.le_of_ble_eq_true rfl)⟩ dX9_enters_21) hw Z (fun r21 er21 H locs hw => ?_)
      refine lv_iload_n hx hb dX9_enters_24 rfl (lv_at hl 1 rfl) ?_
      refine lv_icmp_ne (tgt := 40) hx hb dX9_enters_25 (by decide) (fun c25 => ?_) (fun c25 => ?_)
      · exact kk _ _ H locs ls (Eq.symm (congrArg (fun z : Nat × St => z.1) (show (k11, t11) = _ from (by subst er21; exact (lf_f c14 (lf_f c25 rfl)))))) (Eq.symm (congrArg (fun z : Nat × St => z.2) (show (k11, t11) = _ from (by subst er21; exact (lf_f c14 (lf_f c25 rfl)))))) It11 hw (lv_sub hl [0, 1, 2, 3] rfl)
      · refine lv_aload_n hx hb dX9_enters_28 rfl (lv_at hl 2 rfl) ?_
        refine bk_i (rnV (rest := []) Z hw (k_X9_tick  It11) v_X9_tick q_5_147 (0) (by decide) rfl rfl rfl rfl hl.1 rfl rfl (Nat.le_of_ble_eq_true rfl) ⟨(Nat.le_of_ble_eq_true rfl), (Nat.le_of_ble_eq_true rfl)⟩ ⟨(Nat.le_of_ble_eq_true rfl), (Nat.le_of_ble_eq_true rfl)⟩ dX9_enters_29) hw Z (fun r29 s29 H locs hp hw => ?_)
        obtain ⟨er29, es29, I29⟩ := hp
        refine lv_istore (lv' := [(5, .int r29), (4, .int (nI k11)), (3, .int r4), (0, .ref (ad 0)), (1, .int p1), (2, .int p2)]) hx hb dX9_enters_32 hl (by decide) rfl (fun ls hl => ?_)
        refine lv_iinc (v := nI (k11 + 1)) (lv' := [(4, .int (nI (k11 + 1))), (5, .int r29), (3, .int r4), (0, .ref (ad 0)), (1, .int p1), (2, .int p2)]) hx hb dX9_enters_34 hl (k := 1) rfl (nI_1 _) (by decide) rfl (fun ls hl => ?_)
        refine lv_goto (tgt := 11) hx hb dX9_enters_37 (by decide) ?_
        exact ih (k11 + 1) s29 H locs ls (by omega) (by omega) I29 hw (lv_sub hl [0, 2, 3, 4, 5] rfl) (fun kk11 u11 H locs ls ekk11 eu11 I11 hw hl => kk kk11 u11 H locs ls (Eq.trans (Eq.symm (congrArg (fun z : Nat × St => z.1) (show (f_X9_enters_l11 p1 p2 r4 n11 (k11 + 1) s29) = _ from (by subst es29 er29 er21; exact (lf_f c14 (lf_t c25 rfl)))))) ekk11) (Eq.trans (Eq.symm (congrArg (fun z : Nat × St => z.2) (show (f_X9_enters_l11 p1 p2 r4 n11 (k11 + 1) s29) = _ from (by subst es29 er29 er21; exact (lf_f c14 (lf_t c25 rfl)))))) eu11) I11 hw hl)
set_option maxHeartbeats 4000000 in
set_option maxRecDepth 100000 in
theorem k_X9_enters {l : Launch} {D : va_G} {T : Nat → ClassId} {g ad : Nat → Nat} {σ : St} {p1 : Int32} {p2 : Int32} (I0 : InvD σ) (hs : 0 ≤ p1.toInt ∧ p1.toInt < 12) (hb2 : p2.toInt ≤ 1000) : mX l yX9_enters cX9_enters 6 (some (.int)) rmX9_enters D T g 6 ad (cE (dE T ad) σ) [.ref (ad 0), .int p1, .int p2] (qI D 6 ad (dE T ad) (pI (f_X9_enters σ p1 p2) InvD)) := by
  refine mX.of (own := "NestedBellsModel") (by decide +kernel) (Nat.le_of_ble_eq_true rfl) rfl ?_
  intro p e s m below meth c A ls H locs Z hr hlk _ hw hl
  have hx := Z.1.1
  have hb := Z.1.2.1
  have hl : lv_has ls 6 [(0, .ref (ad 0)), (1, .int p1), (2, .int p2)] := hl
  refine lv_aload_n hx hb dX9_enters_0 rfl (lv_at hl 0 rfl) ?_
  refine lv_iload_n hx hb dX9_enters_1 rfl (lv_at hl 1 rfl) ?_
  refine lv_bipush (v := 17) hx hb dX9_enters_2 (by decide +kernel) ?_
  refine bk_ip (rnV (rest := []) Z hw (k_X9_of (p1 := p1) (p2 := 17) I0 hs (by decide +kernel)) v_X9_of q_5_70 (0) (by decide) rfl rfl rfl rfl hl.1 rfl rfl (Nat.le_of_ble_eq_true rfl) ⟨(Nat.le_of_ble_eq_true rfl), (Nat.le_of_ble_eq_true rfl)⟩ ⟨(Nat.le_of_ble_eq_true rfl), (Nat.le_of_ble_eq_true rfl)⟩ dX9_enters_4) hw Z (fun r4 er4 H locs hw => ?_)
  refine lv_istore_n (lv' := [(3, .int r4), (0, .ref (ad 0)), (1, .int p1), (2, .int p2)]) hx hb dX9_enters_7 rfl hl (by decide) rfl (fun ls hl => ?_)
  refine lv_iconst (v := 0) hx hb dX9_enters_8 (by decide +kernel) ?_
  refine lv_istore (lv' := [(4, .int 0), (3, .int r4), (0, .ref (ad 0)), (1, .int p1), (2, .int p2)]) hx hb dX9_enters_9 hl (by decide) rfl (fun ls hl => ?_)
  refine L_X9_enters_11 (p1 := p1) (p2 := p2) (r4 := r4) Z hs hb2 fu1001 0 σ H locs ls (by omega) (by unfold fu1001; omega) I0 hw (lv_sub hl [0, 1, 2, 3, 4] rfl) (fun kk11 u11 H locs ls ekk11 eu11 I11 hw hl => ?_)
  refine lv_aload_n hx hb dX9_enters_40 rfl (lv_at hl 2 rfl) ?_
  refine lv_iload_n hx hb dX9_enters_41 rfl (lv_at hl 3 rfl) ?_
  refine lv_bipush (v := 17) hx hb dX9_enters_42 (by decide +kernel) ?_
  refine bk_ip (rnV (rest := []) Z hw (k_X9_of (p1 := p1) (p2 := 17) I11 hs (by decide +kernel)) v_X9_of q_5_70 (0) (by decide) rfl rfl rfl rfl hl.1 rfl rfl (Nat.le_of_ble_eq_true rfl) ⟨(Nat.le_of_ble_eq_true rfl), (Nat.le_of_ble_eq_true rfl)⟩ ⟨(Nat.le_of_ble_eq_true rfl), (Nat.le_of_ble_eq_true rfl)⟩ dX9_enters_44) hw Z (fun r44 er44 H locs hw => ?_)
  refine lv_iload_n hx hb dX9_enters_47 rfl (lv_at hl 1 rfl) ?_
  refine lv_icmp_le (tgt := 56) hx hb dX9_enters_48 (by decide) (fun c48 => ?_) (fun c48 => ?_)
  · refine lv_iconst (v := (-1)) hx hb dX9_enters_56 (by decide +kernel) ?_
    exact rt_i Z hr hlk hw dX9_enters_57 (pI.mk (by subst er44 eu11 ekk11 er4; exact (lf_t c48 rfl)) I11)
  · refine lv_iload hx hb dX9_enters_51 (lv_at hl 0 rfl) ?_
    refine lv_goto (tgt := 57) hx hb dX9_enters_53 (by decide) ?_
    exact rt_i Z hr hlk hw dX9_enters_57 (pI.mk (by subst er44 eu11 ekk11 er4; exact (lf_f c48 rfl)) I11)
