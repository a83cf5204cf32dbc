theorem vp_lt {x b : Int32} {n : Nat} (h0 : 0 ≤ x.toInt) (c : x < b) (hb : b.toInt ≤ n) : vp_in x n := by
  rw [i32_lt] at c
  exact vp_of h0 (by omega)
theorem vp_nle {x b : Int32} {n : Nat} (h0 : 0 ≤ x.toInt) (c : ¬ b ≤ x) (hb : b.toInt ≤ n) : vp_in x n := by
  rw [i32_le] at c
  exact vp_of h0 (by omega)
theorem tn_lt {x : Int32} {n : Nat} (h : vp_in x n) : x.toNatClampNeg < n := Nat.not_le.mp fun q => h (Or.inr q)
theorem inc_lt {x b : Int32} {B : Int} (h : 0 ≤ x.toInt) (c : x < b) (hb : b.toInt ≤ B) (hB : B < 2147483647) : 0 ≤ (x + 1).toInt ∧ (x + 1).toInt ≤ B :=
  inc_to h (b := b) (by rw [i32_le]; rw [i32_lt] at c; omega) hb hB
theorem sv_vp {x y r : Int32} (er : f_X8_isWithin x 0 (y - 1) = r) (c : ¬ r = 0) (h : 0 ≤ y.toInt ∧ y.toInt ≤ 2) : vp_in x 2 := by
  obtain ⟨h1, h2⟩ := isw er c
  obtain ⟨j, hj, rfl⟩ := vp_in_of (n := 3) (vp_in_iff.mpr ⟨h.1, by omega⟩) (by decide)
  have key : ∀ j, j < 3 → (nI j - 1).toInt ≤ 1 := by decide +kernel
  have := key j hj
  exact vp_of h1 (by omega)
theorem kb_gt {x : Int32} {k B : Nat} (h : ¬ x < nI k) (hx : x.toInt ≤ B) (hk : k ≤ B + 1) (hB : B + 1 < 2 ^ 31) : k < B + 1 := by
  rw [i32_lt, nI_toInt (by omega)] at h
  omega
theorem isw_hi {v lo hi r : Int32} {B : Int} (er : f_X8_isWithin v lo hi = r) (h : ¬ r = 0) (hB : hi.toInt = B) : v.toInt ≤ B := by
  have := (isw er h).2
  omega

abbrev rmX5_makeSource : Room := { frames := 1, cells := 0, slots := 0, locals := 22 }
def f_X5_makeSource (σ : St) (p1 : Int32) (p2 : Int32) (p3 : Int32) : Int32 × St := (let r4 := f_X8_isWithin p1 1 15; (if r4 = 0 then ((-2), σ) else (let r13 := f_X8_isWithin p2 0 1; (if r13 = 0 then ((-2), σ) else (let r24 := f_X8_isWithin p3 1 500; (if r24 = 0 then ((-2), σ) else (if (σ 0 4) < 12 then (((σ 0 4) + 1) - 1, up2 (up2 (up2 (up2 σ (9 + ((σ 0 4).toNatClampNeg)) 0 p1) (9 + ((σ 0 4).toNatClampNeg)) 1 p2) (9 + ((σ 0 4).toNatClampNeg)) 2 p3) 0 4 ((σ 0 4) + 1)) else ((-3), σ))))))))
theorem v_X5_makeSource : cvV yX5_makeSource "NestedBells$Machine" cX5_makeSource 5 (some (.int)) 3 := ⟨q_2_171, q_2_172, q_1_2, q_2_173, rfl, by decide +kernel, by decide +kernel, by decide +kernel⟩
set_option maxHeartbeats 4000000 in
set_option maxRecDepth 100000 in
theorem k_X5_makeSource {l : Launch} {D : va_G} {T : Nat → ClassId} {g ad : Nat → Nat} {σ : St} {p1 : Int32} {p2 : Int32} {p3 : Int32} (I0 : InvC σ) : mX l yX5_makeSource cX5_makeSource 5 (some (.int)) rmX5_makeSource D T g 57 ad (cE (mE T ad) σ) [.ref (ad 0), .int p1, .int p2, .int p3] (qI D 57 ad (mE T ad) (pI (f_X5_makeSource σ p1 p2 p3) InvC)) := by
  refine mX.of (own := "NestedBells$Machine") (by decide +kernel) (Nat.le_of_ble_eq_true rfl) rfl ?_
  intro p e s m below meth c A ls H locs Z hr hlk _ hw hl
  have hx := Z.1.1
  have hb := Z.1.2.1
  have hl : lv_has ls 5 [(0, .ref (ad 0)), (1, .int p1), (2, .int p2), (3, .int p3)] := hl
  refine lv_iload_n hx hb dX5_makeSource_0 rfl (lv_at hl 1 rfl) ?_
  refine lv_iconst (v := 1) hx hb dX5_makeSource_1 (by decide +kernel) ?_
  refine lv_bipush (v := 15) hx hb dX5_makeSource_2 (by decide +kernel) ?_
  refine bk_ip (rnSN (rest := []) Z hw (k_X8_isWithin (p1 := p1) (p2 := 1) (p3 := 15) ) v_X8_isWithin Z.2.2.2.1.1.2.2.2 hl.1 rfl rfl (Nat.le_of_ble_eq_true rfl) ⟨(Nat.le_of_ble_eq_true rfl), (Nat.le_of_ble_eq_true rfl)⟩ ⟨(Nat.le_of_ble_eq_true rfl), (Nat.le_of_ble_eq_true rfl)⟩ dX5_makeSource_4) hw Z (fun r4 er4 H locs hw => ?_)
  refine lv_if_eq (tgt := 30) hx hb dX5_makeSource_7 (by decide) (fun c7 => ?_) (fun c7 => ?_)
  · refine lv_bipush (v := (-2)) hx hb dX5_makeSource_30 (by decide +kernel) ?_
    exact rt_i Z hr hlk hw dX5_makeSource_32 (pI.mk (by subst er4; exact (lf_t c7 rfl)) I0)
  · refine lv_iload_n hx hb dX5_makeSource_10 rfl (lv_at hl 2 rfl) ?_
    refine lv_iconst (v := 0) hx hb dX5_makeSource_11 (by decide +kernel) ?_
    refine lv_iconst (v := 1) hx hb dX5_makeSource_12 (by decide +kernel) ?_
    refine bk_ip (rnSN (rest := []) Z hw (k_X8_isWithin (p1 := p2) (p2 := 0) (p3 := 1) ) v_X8_isWithin Z.2.2.2.1.1.2.2.2 hl.1 rfl rfl (Nat.le_of_ble_eq_true rfl) ⟨(Nat.le_of_ble_eq_true rfl), (Nat.le_of_ble_eq_true rfl)⟩ ⟨(Nat.le_of_ble_eq_true rfl), (Nat.le_of_ble_eq_true rfl)⟩ dX5_makeSource_13) hw Z (fun r13 er13 H locs hw => ?_)
    refine lv_if_eq (tgt := 30) hx hb dX5_makeSource_16 (by decide) (fun c16 => ?_) (fun c16 => ?_)
    · refine lv_bipush (v := (-2)) hx hb dX5_makeSource_30 (by decide +kernel) ?_
      exact rt_i Z hr hlk hw dX5_makeSource_32 (pI.mk (by subst er13 er4; exact (lf_f c7 (lf_t c16 rfl))) I0)
    · refine lv_iload_n hx hb dX5_makeSource_19 rfl (lv_at hl 3 rfl) ?_
      refine lv_iconst (v := 1) hx hb dX5_makeSource_20 (by decide +kernel) ?_
      refine lv_sipush (v := 500) hx hb dX5_makeSource_21 (by decide +kernel) ?_
      refine bk_ip (rnSN (rest := []) Z hw (k_X8_isWithin (p1 := p3) (p2 := 1) (p3 := 500) ) v_X8_isWithin Z.2.2.2.1.1.2.2.2 hl.1 rfl rfl (Nat.le_of_ble_eq_true rfl) ⟨(Nat.le_of_ble_eq_true rfl), (Nat.le_of_ble_eq_true rfl)⟩ ⟨(Nat.le_of_ble_eq_true rfl), (Nat.le_of_ble_eq_true rfl)⟩ dX5_makeSource_24) hw Z (fun r24 er24 H locs hw => ?_)
      refine lv_if_ne (tgt := 33) hx hb dX5_makeSource_27 (by decide) (fun c27 => ?_) (fun c27 => ?_)
      · refine lv_aload_n hx hb dX5_makeSource_33 rfl (lv_at hl 0 rfl) ?_
        refine gM (j := 4) (v := .int (σ 0 4)) Z hw  (by decide) q_1_174 rfl rfl dX5_makeSource_34 ?_
        refine lv_bipush (v := 12) hx hb dX5_makeSource_37 (by decide +kernel) ?_
        refine lv_icmp_lt (tgt := 45) hx hb dX5_makeSource_39 (by decide) (fun c39 => ?_) (fun c39 => ?_)
        · refine lv_aload_n hx hb dX5_makeSource_45 rfl (lv_at hl 0 rfl) ?_
          refine gM (j := 3) (v := .ref (ad 3)) Z hw  (by decide) q_1_173 rfl rfl dX5_makeSource_46 ?_
          refine lv_aload_n hx hb dX5_makeSource_49 rfl (lv_at hl 0 rfl) ?_
          refine gM (j := 4) (v := .int (σ 0 4)) Z hw  (by decide) q_1_174 rfl rfl dX5_makeSource_50 ?_
          refine qE (n := 12) (t0 := 5) (v := .ref (ad (9 + ((σ 0 4).toNatClampNeg)))) Z hw 3 (by decide) rfl rfl rfl (vp_lt I0.1.1 c39 (by decide)) (tr_ok rfl (tn_lt (vp_lt (n := 12) I0.1.1 c39 (by decide)))) dX5_makeSource_53 ?_
          refine lv_astore (lv' := [(4, .ref (ad (9 + ((σ 0 4).toNatClampNeg)))), (0, .ref (ad 0)), (1, .int p1), (2, .int p2), (3, .int p3)]) hx hb dX5_makeSource_54 hl (by decide) rfl (fun ls hl => ?_)
          refine lv_aload hx hb dX5_makeSource_56 (lv_at hl 0 rfl) ?_
          refine lv_iload_n hx hb dX5_makeSource_58 rfl (lv_at hl 2 rfl) ?_
          refine pU (j := 0) Z hw (tn_lt (vp_lt (n := 12) I0.1.1 c39 (by decide))) (by decide) q_1_90 rfl rfl rfl rfl dX5_makeSource_59 (fun H locs hw => ?_)
          refine lv_aload hx hb dX5_makeSource_62 (lv_at hl 0 rfl) ?_
          refine lv_iload_n hx hb dX5_makeSource_64 rfl (lv_at hl 3 rfl) ?_
          refine pU (j := 1) Z hw (tn_lt (vp_lt (n := 12) I0.1.1 c39 (by decide))) (by decide) q_1_92 rfl rfl rfl rfl dX5_makeSource_65 (fun H locs hw => ?_)
          refine lv_aload hx hb dX5_makeSource_68 (lv_at hl 0 rfl) ?_
          refine lv_iload_n hx hb dX5_makeSource_70 rfl (lv_at hl 4 rfl) ?_
          refine pU (j := 2) Z hw (tn_lt (vp_lt (n := 12) I0.1.1 c39 (by decide))) (by decide) q_1_94 rfl rfl rfl rfl dX5_makeSource_71 (fun H locs hw => ?_)
          refine lv_aload_n hx hb dX5_makeSource_74 rfl (lv_at hl 1 rfl) ?_
          refine lv_dup hx hb dX5_makeSource_75 rfl ?_
          refine gM (j := 4) (v := .int (σ 0 4)) Z hw  (by decide) q_1_174 rfl (congrArg (fun x => some (Value.int x)) ((up2_j (by decide)).trans ((up2_j (by decide)).trans (up2_j (by decide))))) dX5_makeSource_76 ?_
          refine lv_iconst (v := 1) hx hb dX5_makeSource_79 (by decide +kernel) ?_
          refine lv_iadd hx hb dX5_makeSource_80 ?_
          refine pM (j := 4) Z hw  (by decide) q_1_174 rfl rfl rfl rfl dX5_makeSource_81 (fun H locs hw => ?_)
          refine lv_aload_n hx hb dX5_makeSource_84 rfl (lv_at hl 1 rfl) ?_
          refine gM (j := 4) (v := .int ((σ 0 4) + 1)) Z hw  (by decide) q_1_174 rfl (congrArg (fun x => some (Value.int x)) up2_s) dX5_makeSource_85 ?_
          refine lv_iconst (v := 1) hx hb dX5_makeSource_88 (by decide +kernel) ?_
          refine lv_isub hx hb dX5_makeSource_89 ?_
          exact rt_i Z hr hlk hw dX5_makeSource_90 (pI.mk (by subst er24 er13 er4; exact (lf_f c7 (lf_f c16 (lf_f c27 (lf_t c39 rfl))))) (InvC.up4 (inc_lt I0.1.1 c39 (by decide) (by decide)) (InvC.up (InvC.up (InvC.up I0 (by unfold InvCcr; omega)) (by unfold InvCcr; omega)) (by unfold InvCcr; omega))))
        · refine lv_bipush (v := (-3)) hx hb dX5_makeSource_42 (by decide +kernel) ?_
          exact rt_i Z hr hlk hw dX5_makeSource_44 (pI.mk (by subst er24 er13 er4; exact (lf_f c7 (lf_f c16 (lf_f c27 (lf_f c39 rfl))))) I0)
      · refine lv_bipush (v := (-2)) hx hb dX5_makeSource_30 (by decide +kernel) ?_
        exact rt_i Z hr hlk hw dX5_makeSource_32 (pI.mk (by subst er24 er13 er4; exact (lf_f c7 (lf_f c16 (lf_t c27 rfl)))) I0)
abbrev rmX5_changePriority : Room := { frames := 1, cells := 0, slots := 0, locals := 22 }
def f_X5_changePriority (σ : St) (p1 : Int32) (i : Nat) (p3 : Int32) : Int32 × St := (let r4 := f_X8_isWithin p3 1 15; (if r4 = 0 then ((-2), σ) else (let r14 := f_X7_isStacked σ i; (if r14 = 0 then (if p1 = (σ 0 8) then ((-3), σ) else (σ (9 + i) 0, up2 σ (9 + i) 0 p3)) else ((-3), σ)))))
theorem v_X5_changePriority : cvV yX5_changePriority "NestedBells$Machine" cX5_changePriority 5 (some (.int)) 3 := ⟨q_4_5, s_29, q_1_2, q_4_6, rfl, by decide +kernel, by decide +kernel, by decide +kernel⟩
set_option maxHeartbeats 4000000 in
set_option maxRecDepth 100000 in
theorem k_X5_changePriority {l : Launch} {D : va_G} {T : Nat → ClassId} {g ad : Nat → Nat} {σ : St} {p1 : Int32} {i : Nat} {p3 : Int32} (I0 : InvC σ) (hi : i < 12) : mX l yX5_changePriority cX5_changePriority 5 (some (.int)) rmX5_changePriority D T g 57 ad (cE (mE T ad) σ) [.ref (ad 0), .int p1, .ref (ad (9 + i)), .int p3] (qI D 57 ad (mE T ad) (pI (f_X5_changePriority σ p1 i p3) InvC)) := by
  refine mX.of (own := "NestedBells$Machine") (by decide +kernel) (Nat.le_of_ble_eq_true rfl) rfl ?_
  intro p e s m below meth c A ls H locs Z hr hlk _ hw hl
  have hx := Z.1.1
  have hb := Z.1.2.1
  have hl : lv_has ls 5 [(0, .ref (ad 0)), (1, .int p1), (2, .ref (ad (9 + i))), (3, .int p3)] := hl
  refine lv_iload_n hx hb dX5_changePriority_0 rfl (lv_at hl 3 rfl) ?_
  refine lv_iconst (v := 1) hx hb dX5_changePriority_1 (by decide +kernel) ?_
  refine lv_bipush (v := 15) hx hb dX5_changePriority_2 (by decide +kernel) ?_
  refine bk_ip (rnSN (rest := []) Z hw (k_X8_isWithin (p1 := p3) (p2 := 1) (p3 := 15) ) v_X8_isWithin Z.2.2.2.1.1.2.2.2 hl.1 rfl rfl (Nat.le_of_ble_eq_true rfl) ⟨(Nat.le_of_ble_eq_true rfl), (Nat.le_of_ble_eq_true rfl)⟩ ⟨(Nat.le_of_ble_eq_true rfl), (Nat.le_of_ble_eq_true rfl)⟩ dX5_changePriority_4) hw Z (fun r4 er4 H locs hw => ?_)
  refine lv_if_ne (tgt := 13) hx hb dX5_changePriority_7 (by decide) (fun c7 => ?_) (fun c7 => ?_)
  · refine lv_aload_n hx hb dX5_changePriority_13 rfl (lv_at hl 2 rfl) ?_
    refine bk_ip (rnV (rest := []) Z hw (k_X7_isStacked (i := i) I0 hi) v_X7_isStacked q_2_185 (9 + i) (by have h1 : i < 12 := hi; omega) rfl (mE_src hi) rfl rfl hl.1 rfl rfl (Nat.le_of_ble_eq_true rfl) ⟨(Nat.le_of_ble_eq_true rfl), (Nat.le_of_ble_eq_true rfl)⟩ ⟨(Nat.le_of_ble_eq_true rfl), (Nat.le_of_ble_eq_true rfl)⟩ dX5_changePriority_14) hw Z (fun r14 er14 H locs hw => ?_)
    refine lv_if_ne (tgt := 28) hx hb dX5_changePriority_17 (by decide) (fun c17 => ?_) (fun c17 => ?_)
    · refine lv_bipush (v := (-3)) hx hb dX5_changePriority_28 (by decide +kernel) ?_
      exact rt_i Z hr hlk hw dX5_changePriority_30 (pI.mk (by subst er14 er4; exact (lf_f c7 (lf_f c17 rfl))) I0)
    · refine lv_iload_n hx hb dX5_changePriority_20 rfl (lv_at hl 1 rfl) ?_
      refine lv_aload_n hx hb dX5_changePriority_21 rfl (lv_at hl 0 rfl) ?_
      refine gM (j := 8) (v := .int (σ 0 8)) Z hw  (by decide) q_1_180 rfl rfl dX5_changePriority_22 ?_
      refine lv_icmp_ne (tgt := 31) hx hb dX5_changePriority_25 (by decide) (fun c25 => ?_) (fun c25 => ?_)
      · refine lv_aload_n hx hb dX5_changePriority_31 rfl (lv_at hl 2 rfl) ?_
        refine gU (j := 0) (v := .int (σ (9 + i) 0)) Z hw hi (by decide) q_1_90 rfl rfl dX5_changePriority_32 ?_
        refine lv_istore (lv' := [(4, .int (σ (9 + i) 0)), (0, .ref (ad 0)), (1, .int p1), (2, .ref (ad (9 + i))), (3, .int p3)]) hx hb dX5_changePriority_35 hl (by decide) rfl (fun ls hl => ?_)
        refine lv_aload_n hx hb dX5_changePriority_37 rfl (lv_at hl 3 rfl) ?_
        refine lv_iload_n hx hb dX5_changePriority_38 rfl (lv_at hl 4 rfl) ?_
        refine pU (j := 0) Z hw hi (by decide) q_1_90 rfl rfl rfl rfl dX5_changePriority_39 (fun H locs hw => ?_)
        refine lv_iload hx hb dX5_changePriority_42 (lv_at hl 0 rfl) ?_
        exact rt_i Z hr hlk hw dX5_changePriority_44 (pI.mk (by subst er14 er4; exact (lf_f c7 (lf_t c17 (lf_f c25 rfl)))) (InvC.up I0 (by unfold InvCcr; omega)))
      · refine lv_bipush (v := (-3)) hx hb dX5_changePriority_28 (by decide +kernel) ?_
        exact rt_i Z hr hlk hw dX5_changePriority_30 (pI.mk (by subst er14 er4; exact (lf_f c7 (lf_t c17 (lf_t c25 rfl)))) I0)
  · refine lv_bipush (v := (-2)) hx hb dX5_changePriority_10 (by decide +kernel) ?_
    exact rt_i Z hr hlk hw dX5_changePriority_12 (pI.mk (by subst er4; exact (lf_t c7 rfl)) I0)
abbrev rmX5_changeLength : Room := { frames := 1, cells := 0, slots := 0, locals := 22 }
def f_X5_changeLength (σ : St) (p1 : Int32) (i : Nat) (p3 : Int32) : Int32 × St := (let r5 := f_X8_isWithin p3 1 500; (if r5 = 0 then ((-2), σ) else (let r15 := f_X7_isStacked σ i; (if r15 = 0 then (if p1 = (σ 0 8) then ((-3), σ) else (σ (9 + i) 2, up2 σ (9 + i) 2 p3)) else ((-3), σ)))))
theorem v_X5_changeLength : cvV yX5_changeLength "NestedBells$Machine" cX5_changeLength 5 (some (.int)) 3 := ⟨q_4_9, s_30, q_1_2, q_4_10, rfl, by decide +kernel, by decide +kernel, by decide +kernel⟩
set_option maxHeartbeats 4000000 in
set_option maxRecDepth 100000 in
theorem k_X5_changeLength {l : Launch} {D : va_G} {T : Nat → ClassId} {g ad : Nat → Nat} {σ : St} {p1 : Int32} {i : Nat} {p3 : Int32} (I0 : InvC σ) (hi : i < 12) : mX l yX5_changeLength cX5_changeLength 5 (some (.int)) rmX5_changeLength D T g 57 ad (cE (mE T ad) σ) [.ref (ad 0), .int p1, .ref (ad (9 + i)), .int p3] (qI D 57 ad (mE T ad) (pI (f_X5_changeLength σ p1 i p3) InvC)) := by
  refine mX.of (own := "NestedBells$Machine") (by decide +kernel) (Nat.le_of_ble_eq_true rfl) rfl ?_
  intro p e s m below meth c A ls H locs Z hr hlk _ hw hl
  have hx := Z.1.1
  have hb := Z.1.2.1
  have hl : lv_has ls 5 [(0, .ref (ad 0)), (1, .int p1), (2, .ref (ad (9 + i))), (3, .int p3)] := hl
  refine lv_iload_n hx hb dX5_changeLength_0 rfl (lv_at hl 3 rfl) ?_
  refine lv_iconst (v := 1) hx hb dX5_changeLength_1 (by decide +kernel) ?_
  refine lv_sipush (v := 500) hx hb dX5_changeLength_2 (by decide +kernel) ?_
  refine bk_ip (rnSN (rest := []) Z hw (k_X8_isWithin (p1 := p3) (p2 := 1) (p3 := 500) ) v_X8_isWithin Z.2.2.2.1.1.2.2.2 hl.1 rfl rfl (Nat.le_of_ble_eq_true rfl) ⟨(Nat.le_of_ble_eq_true rfl), (Nat.le_of_ble_eq_true rfl)⟩ ⟨(Nat.le_of_ble_eq_true rfl), (Nat.le_of_ble_eq_true rfl)⟩ dX5_changeLength_5) hw Z (fun r5 er5 H locs hw => ?_)
  refine lv_if_ne (tgt := 14) hx hb dX5_changeLength_8 (by decide) (fun c8 => ?_) (fun c8 => ?_)
  · refine lv_aload_n hx hb dX5_changeLength_14 rfl (lv_at hl 2 rfl) ?_
    refine bk_ip (rnV (rest := []) Z hw (k_X7_isStacked (i := i) I0 hi) v_X7_isStacked q_2_185 (9 + i) (by have h1 : i < 12 := hi; omega) rfl (mE_src hi) rfl rfl hl.1 rfl rfl (Nat.le_of_ble_eq_true rfl) ⟨(Nat.le_of_ble_eq_true rfl), (Nat.le_of_ble_eq_true rfl)⟩ ⟨(Nat.le_of_ble_eq_true rfl), (Nat.le_of_ble_eq_true rfl)⟩ dX5_changeLength_15) hw Z (fun r15 er15 H locs hw => ?_)
    refine lv_if_ne (tgt := 29) hx hb dX5_changeLength_18 (by decide) (fun c18 => ?_) (fun c18 => ?_)
    · refine lv_bipush (v := (-3)) hx hb dX5_changeLength_29 (by decide +kernel) ?_
      exact rt_i Z hr hlk hw dX5_changeLength_31 (pI.mk (by subst er15 er5; exact (lf_f c8 (lf_f c18 rfl))) I0)
    · refine lv_iload_n hx hb dX5_changeLength_21 rfl (lv_at hl 1 rfl) ?_
      refine lv_aload_n hx hb dX5_changeLength_22 rfl (lv_at hl 0 rfl) ?_
      refine gM (j := 8) (v := .int (σ 0 8)) Z hw  (by decide) q_1_180 rfl rfl dX5_changeLength_23 ?_
      refine lv_icmp_ne (tgt := 32) hx hb dX5_changeLength_26 (by decide) (fun c26 => ?_) (fun c26 => ?_)
      · refine lv_aload_n hx hb dX5_changeLength_32 rfl (lv_at hl 2 rfl) ?_
        refine gU (j := 2) (v := .int (σ (9 + i) 2)) Z hw hi (by decide) q_1_94 rfl rfl dX5_changeLength_33 ?_
        refine lv_istore (lv' := [(4, .int (σ (9 + i) 2)), (0, .ref (ad 0)), (1, .int p1), (2, .ref (ad (9 + i))), (3, .int p3)]) hx hb dX5_changeLength_36 hl (by decide) rfl (fun ls hl => ?_)
        refine lv_aload_n hx hb dX5_changeLength_38 rfl (lv_at hl 3 rfl) ?_
        refine lv_iload_n hx hb dX5_changeLength_39 rfl (lv_at hl 4 rfl) ?_
        refine pU (j := 2) Z hw hi (by decide) q_1_94 rfl rfl rfl rfl dX5_changeLength_40 (fun H locs hw => ?_)
        refine lv_iload hx hb dX5_changeLength_43 (lv_at hl 0 rfl) ?_
        exact rt_i Z hr hlk hw dX5_changeLength_45 (pI.mk (by subst er15 er5; exact (lf_f c8 (lf_t c18 (lf_f c26 rfl)))) (InvC.up I0 (by unfold InvCcr; omega)))
      · refine lv_bipush (v := (-3)) hx hb dX5_changeLength_29 (by decide +kernel) ?_
        exact rt_i Z hr hlk hw dX5_changeLength_31 (pI.mk (by subst er15 er5; exact (lf_f c8 (lf_t c18 (lf_t c26 rfl)))) I0)
  · refine lv_bipush (v := (-2)) hx hb dX5_changeLength_11 (by decide +kernel) ?_
    exact rt_i Z hr hlk hw dX5_changeLength_13 (pI.mk (by subst er5; exact (lf_t c8 rfl)) I0)
abbrev rmX5_changeEnabled : Room := { frames := 1, cells := 0, slots := 0, locals := 22 }
def f_X5_changeEnabled (σ : St) (i : Nat) (p2 : Int32) : Int32 × St := (let r3 := f_X8_isWithin p2 0 1; (if r3 = 0 then ((-2), σ) else (let v24 : Int32 := (if (zb (σ (9 + i) 3)) = 0 then 0 else 1); (let v36 : Int32 := (if p2 = 1 then 1 else 0); (v24, up2 σ (9 + i) 3 v36)))))
theorem v_X5_changeEnabled : cvV yX5_changeEnabled "NestedBells$Machine" cX5_changeEnabled 4 (some (.int)) 2 := ⟨q_4_13, s_31, q_1_2, q_4_14, rfl, by decide +kernel, by decide +kernel, by decide +kernel⟩
set_option maxHeartbeats 4000000 in
set_option maxRecDepth 100000 in
theorem k_X5_changeEnabled {l : Launch} {D : va_G} {T : Nat → ClassId} {g ad : Nat → Nat} {σ : St} {i : Nat} {p2 : Int32} (I0 : InvC σ) (hi : i < 12) : mX l yX5_changeEnabled cX5_changeEnabled 4 (some (.int)) rmX5_changeEnabled D T g 57 ad (cE (mE T ad) σ) [.ref (ad 0), .ref (ad (9 + i)), .int p2] (qI D 57 ad (mE T ad) (pI (f_X5_changeEnabled σ i p2) InvC)) := by
  refine mX.of (own := "NestedBells$Machine") (by decide +kernel) (Nat.le_of_ble_eq_true rfl) rfl ?_
  intro p e s m below meth c A ls H locs Z hr hlk _ hw hl
  have hx := Z.1.1
  have hb := Z.1.2.1
  have hl : lv_has ls 4 [(0, .ref (ad 0)), (1, .ref (ad (9 + i))), (2, .int p2)] := hl
  refine lv_iload_n hx hb dX5_changeEnabled_0 rfl (lv_at hl 2 rfl) ?_
  refine lv_iconst (v := 0) hx hb dX5_changeEnabled_1 (by decide +kernel) ?_
  refine lv_iconst (v := 1) hx hb dX5_changeEnabled_2 (by decide +kernel) ?_
  refine bk_ip (rnSN (rest := []) Z hw (k_X8_isWithin (p1 := p2) (p2 := 0) (p3 := 1) ) v_X8_isWithin Z.2.2.2.1.1.2.2.2 hl.1 rfl rfl (Nat.le_of_ble_eq_true rfl) ⟨(Nat.le_of_ble_eq_true rfl), (Nat.le_of_ble_eq_true rfl)⟩ ⟨(Nat.le_of_ble_eq_true rfl), (Nat.le_of_ble_eq_true rfl)⟩ dX5_changeEnabled_3) hw Z (fun r3 er3 H locs hw => ?_)
  refine lv_if_ne (tgt := 12) hx hb dX5_changeEnabled_6 (by decide) (fun c6 => ?_) (fun c6 => ?_)
  · refine lv_aload_n hx hb dX5_changeEnabled_12 rfl (lv_at hl 1 rfl) ?_
    refine gU (j := 3) (v := .int (zb (σ (9 + i) 3))) Z hw hi (by decide) q_1_96 rfl rfl dX5_changeEnabled_13 ?_
    have hj24 : ∀ (v24 : Int32) (H : Heap) (locs : List Loc) (ls : Array Slot), ((if (zb (σ (9 + i) 3)) = 0 then 0 else 1) : Int32) = v24 → wo D A s.heap 57 ad (cE (mE T ad) σ) H locs → lv_has ls 4 [(1, .ref (ad (9 + i))), (2, .int p2)] → W p l e rmX5_changeEnabled s m [.ref (ad 0), .ref (ad (9 + i)), .int p2].toArray below meth c H locs 0 0 (MQ below (qI D 57 ad (mE T ad) (pI (f_X5_changeEnabled σ i p2) InvC) A) [.ref (ad 0), .ref (ad (9 + i)), .int p2].toArray s rmX5_changeEnabled.cells rmX5_changeEnabled.slots A) (F0 m 24 ls [.int v24]) := by
      intro v24 H locs ls ev24 hw hl
      refine lv_istore_n (lv' := [(3, .int v24), (1, .ref (ad (9 + i))), (2, .int p2)]) hx hb dX5_changeEnabled_24 rfl hl (by decide) rfl (fun ls hl => ?_)
      refine lv_aload_n hx hb dX5_changeEnabled_25 rfl (lv_at hl 1 rfl) ?_
      refine lv_iload_n hx hb dX5_changeEnabled_26 rfl (lv_at hl 2 rfl) ?_
      refine lv_iconst (v := 1) hx hb dX5_changeEnabled_27 (by decide +kernel) ?_
      have hj36 : ∀ (v36 : Int32) (H : Heap) (locs : List Loc) (ls : Array Slot), ((if p2 = 1 then 1 else 0) : Int32) = v36 → wo D A s.heap 57 ad (cE (mE T ad) σ) H locs → lv_has ls 4 [(3, .int v24)] → W p l e rmX5_changeEnabled s m [.ref (ad 0), .ref (ad (9 + i)), .int p2].toArray below meth c H locs 0 0 (MQ below (qI D 57 ad (mE T ad) (pI (f_X5_changeEnabled σ i p2) InvC) A) [.ref (ad 0), .ref (ad (9 + i)), .int p2].toArray s rmX5_changeEnabled.cells rmX5_changeEnabled.slots A) (F0 m 36 ls [.int v36, .ref (ad (9 + i))]) := by
        intro v36 H locs ls ev36 hw hl
        refine pUb (j := 3) Z hw hi (by decide) q_1_96 (by rw [← ev36]; split <;> rfl) dX5_changeEnabled_36 (fun H locs hw => ?_)
        refine lv_iload_n hx hb dX5_changeEnabled_39 rfl (lv_at hl 0 rfl) ?_
        exact rt_i Z hr hlk hw dX5_changeEnabled_40 (pI.mk (by subst ev36 ev24 er3; exact (lf_f c6 rfl)) (InvC.up I0 (by unfold InvCcr; omega)))
      refine lv_icmp_ne (tgt := 35) hx hb dX5_changeEnabled_28 (by decide) (fun c28 => ?_) (fun c28 => ?_)
      · refine lv_iconst (v := 0) hx hb dX5_changeEnabled_35 (by decide +kernel) ?_
        exact hj36 _ H locs ls (Eq.symm (lf_f c28 rfl)) hw (lv_sub hl [0] rfl)
      · refine lv_iconst (v := 1) hx hb dX5_changeEnabled_31 (by decide +kernel) ?_
        refine lv_goto (tgt := 36) hx hb dX5_changeEnabled_32 (by decide) ?_
        exact hj36 _ H locs ls (Eq.symm (lf_t c28 rfl)) hw (lv_sub hl [0] rfl)
    refine lv_if_eq (tgt := 23) hx hb dX5_changeEnabled_16 (by decide) (fun c16 => ?_) (fun c16 => ?_)
    · refine lv_iconst (v := 0) hx hb dX5_changeEnabled_23 (by decide +kernel) ?_
      exact hj24 _ H locs ls (Eq.symm (lf_t c16 rfl)) hw (lv_sub hl [1, 2] rfl)
    · refine lv_iconst (v := 1) hx hb dX5_changeEnabled_19 (by decide +kernel) ?_
      refine lv_goto (tgt := 24) hx hb dX5_changeEnabled_20 (by decide) ?_
      exact hj24 _ H locs ls (Eq.symm (lf_f c16 rfl)) hw (lv_sub hl [1, 2] rfl)
  · refine lv_bipush (v := (-2)) hx hb dX5_changeEnabled_9 (by decide +kernel) ?_
    exact rt_i Z hr hlk hw dX5_changeEnabled_11 (pI.mk (by subst er3; exact (lf_t c6 rfl)) I0)
abbrev rmX5_changeSource : Room := { frames := 2, cells := 0, slots := 0, locals := 46 }
def f_X5_changeSource (σ : St) (p1 : Int32) (p2 : Int32) (p3 : Int32) : Int32 × St := (oc (f_X5_find σ p1) ((-1), σ) (fun i2 => (if p2 = 0 then (let r45 := (f_X5_changePriority σ p1 i2 p3).1; let s45 := (f_X5_changePriority σ p1 i2 p3).2; (r45, s45)) else (if p2 = 1 then (let r54 := (f_X5_changeLength σ p1 i2 p3).1; let s54 := (f_X5_changeLength σ p1 i2 p3).2; (r54, s54)) else (if p2 = 2 then (let r62 := (f_X5_changeEnabled σ i2 p3).1; let s62 := (f_X5_changeEnabled σ i2 p3).2; (r62, s62)) else ((-2), σ))))))
theorem v_X5_changeSource : cvV yX5_changeSource "NestedBells$Machine" cX5_changeSource 5 (some (.int)) 3 := ⟨q_4_0, q_4_1, q_1_2, q_4_2, rfl, by decide +kernel, by decide +kernel, by decide +kernel⟩
set_option maxHeartbeats 4000000 in
set_option maxRecDepth 100000 in
theorem k_X5_changeSource {l : Launch} {D : va_G} {T : Nat → ClassId} {g ad : Nat → Nat} {σ : St} {p1 : Int32} {p2 : Int32} {p3 : Int32} (I0 : InvC σ) : mX l yX5_changeSource cX5_changeSource 5 (some (.int)) rmX5_changeSource D T g 57 ad (cE (mE T ad) σ) [.ref (ad 0), .int p1, .int p2, .int p3] (qI D 57 ad (mE T ad) (pI (f_X5_changeSource σ p1 p2 p3) InvC)) := by
  refine mX.of (own := "NestedBells$Machine") (by decide +kernel) (Nat.le_of_ble_eq_true rfl) rfl ?_
  intro p e s m below meth c A ls H locs Z hr hlk _ hw hl
  have hx := Z.1.1
  have hb := Z.1.2.1
  have hl : lv_has ls 5 [(0, .ref (ad 0)), (1, .int p1), (2, .int p2), (3, .int p3)] := hl
  refine lv_aload_n hx hb dX5_changeSource_0 rfl (lv_at hl 0 rfl) ?_
  refine lv_iload_n hx hb dX5_changeSource_1 rfl (lv_at hl 1 rfl) ?_
  refine bk_qp (rnV (rest := []) Z hw (k_X5_find (p1 := p1) I0) v_X5_find q_2_181 (0) (by decide) rfl rfl rfl rfl hl.1 rfl rfl (Nat.le_of_ble_eq_true rfl) ⟨(Nat.le_of_ble_eq_true rfl), (Nat.le_of_ble_eq_true rfl)⟩ ⟨(Nat.le_of_ble_eq_true rfl), (Nat.le_of_ble_eq_true rfl)⟩ dX5_changeSource_2) hw Z (fun r2 er2 H locs hw => ?_)
  subst er2
  rcases hf2 : f_X5_find σ p1 with _ | i2
  · show W _ _ _ _ _ _ _ _ _ _ _ _ _ _ _ (F0 _ _ _ (.null :: _))
    refine lv_astoreN (lv' := [(4, .null), (0, .ref (ad 0)), (1, .int p1), (2, .int p2), (3, .int p3)]) hx hb dX5_changeSource_5 hl (by decide) rfl (fun ls hl => ?_)
    refine lv_aloadN hx hb dX5_changeSource_7 (lv_at hl 0 rfl) ?_
    refine lv_ifnonnullN hx hb dX5_changeSource_9 ?_
    refine lv_iconst (v := (-1)) hx hb dX5_changeSource_12 (by decide +kernel) ?_
    exact rt_i Z hr hlk hw dX5_changeSource_13 (pI.mk (lf_n hf2 rfl) I0)
  · have hi2 : i2 < 12 := fin_lt I0 hf2
    show W _ _ _ _ _ _ _ _ _ _ _ _ _ _ _ (F0 _ _ _ (.ref (ad (9 + i2)) :: _))
    refine lv_astore (lv' := [(4, .ref (ad (9 + i2))), (0, .ref (ad 0)), (1, .int p1), (2, .int p2), (3, .int p3)]) hx hb dX5_changeSource_5 hl (by decide) rfl (fun ls hl => ?_)
    refine lv_aload hx hb dX5_changeSource_7 (lv_at hl 0 rfl) ?_
    refine lv_ifnonnull (tgt := 14) hx hb dX5_changeSource_9 (by decide) ?_
    refine lv_iload_n hx hb dX5_changeSource_14 rfl (lv_at hl 3 rfl) ?_
    rcases Decidable.em (p2 = 0) with c15_0 | c15_0
    · refine lv_tableIn (off := 25) (tgt := 40) hx hb dX5_changeSource_15 (by rw [c15_0]; decide +kernel) (by rw [c15_0]; decide +kernel) (by rw [c15_0]; rfl) (by decide) ?_
      refine lv_aload_n hx hb dX5_changeSource_40 rfl (lv_at hl 1 rfl) ?_
      refine lv_iload_n hx hb dX5_changeSource_41 rfl (lv_at hl 2 rfl) ?_
      refine lv_aload hx hb dX5_changeSource_42 (lv_at hl 0 rfl) ?_
      refine lv_iload_n hx hb dX5_changeSource_44 rfl (lv_at hl 4 rfl) ?_
      refine bk_i (rnV (rest := []) Z hw (k_X5_changePriority (p1 := p1) (i := i2) (p3 := p3) I0 hi2) v_X5_changePriority q_4_3 (0) (by decide) rfl rfl rfl rfl hl.1 rfl rfl (Nat.le_of_ble_eq_true rfl) ⟨(Nat.le_of_ble_eq_true rfl), (Nat.le_of_ble_eq_true rfl)⟩ ⟨(Nat.le_of_ble_eq_true rfl), (Nat.le_of_ble_eq_true rfl)⟩ dX5_changeSource_45) hw Z (fun r45 s45 H locs hp hw => ?_)
      obtain ⟨er45, es45, I45⟩ := hp
      exact rt_i Z hr hlk hw dX5_changeSource_48 (pI.mk (by subst es45 er45; exact (lf_s hf2 (lf_t c15_0 rfl))) I45)
    · rcases Decidable.em (p2 = 1) with c15_1 | c15_1
      · refine lv_tableIn (off := 34) (tgt := 49) hx hb dX5_changeSource_15 (by rw [c15_1]; decide +kernel) (by rw [c15_1]; decide +kernel) (by rw [c15_1]; rfl) (by decide) ?_
        refine lv_aload_n hx hb dX5_changeSource_49 rfl (lv_at hl 1 rfl) ?_
        refine lv_iload_n hx hb dX5_changeSource_50 rfl (lv_at hl 2 rfl) ?_
        refine lv_aload hx hb dX5_changeSource_51 (lv_at hl 0 rfl) ?_
        refine lv_iload_n hx hb dX5_changeSource_53 rfl (lv_at hl 4 rfl) ?_
        refine bk_i (rnV (rest := []) Z hw (k_X5_changeLength (p1 := p1) (i := i2) (p3 := p3) I0 hi2) v_X5_changeLength q_4_7 (0) (by decide) rfl rfl rfl rfl hl.1 rfl rfl (Nat.le_of_ble_eq_true rfl) ⟨(Nat.le_of_ble_eq_true rfl), (Nat.le_of_ble_eq_true rfl)⟩ ⟨(Nat.le_of_ble_eq_true rfl), (Nat.le_of_ble_eq_true rfl)⟩ dX5_changeSource_54) hw Z (fun r54 s54 H locs hp hw => ?_)
        obtain ⟨er54, es54, I54⟩ := hp
        exact rt_i Z hr hlk hw dX5_changeSource_57 (pI.mk (by subst es54 er54; exact (lf_s hf2 (lf_f c15_0 (lf_t c15_1 rfl)))) I54)
      · rcases Decidable.em (p2 = 2) with c15_2 | c15_2
        · refine lv_tableIn (off := 43) (tgt := 58) hx hb dX5_changeSource_15 (by rw [c15_2]; decide +kernel) (by rw [c15_2]; decide +kernel) (by rw [c15_2]; rfl) (by decide) ?_
          refine lv_aload_n hx hb dX5_changeSource_58 rfl (lv_at hl 1 rfl) ?_
          refine lv_aload hx hb dX5_changeSource_59 (lv_at hl 0 rfl) ?_
          refine lv_iload_n hx hb dX5_changeSource_61 rfl (lv_at hl 4 rfl) ?_
          refine bk_i (rnV (rest := []) Z hw (k_X5_changeEnabled (i := i2) (p2 := p3) I0 hi2) v_X5_changeEnabled q_4_11 (0) (by decide) rfl rfl rfl rfl hl.1 rfl rfl (Nat.le_of_ble_eq_true rfl) ⟨(Nat.le_of_ble_eq_true rfl), (Nat.le_of_ble_eq_true rfl)⟩ ⟨(Nat.le_of_ble_eq_true rfl), (Nat.le_of_ble_eq_true rfl)⟩ dX5_changeSource_62) hw Z (fun r62 s62 H locs hp hw => ?_)
          obtain ⟨er62, es62, I62⟩ := hp
          exact rt_i Z hr hlk hw dX5_changeSource_65 (pI.mk (by subst es62 er62; exact (lf_s hf2 (lf_f c15_0 (lf_f c15_1 (lf_t c15_2 rfl))))) I62)
        · refine lv_tableOut (tgt := 66) hx hb dX5_changeSource_15 (by have t0 := lv_neT (a := 0) c15_0 (by decide +kernel); have t1 := lv_neT (a := 1) c15_1 (by decide +kernel); have t2 := lv_neT (a := 2) c15_2 (by decide +kernel); omega) (by decide) ?_
          refine lv_bipush (v := (-2)) hx hb dX5_changeSource_66 (by decide +kernel) ?_
          exact rt_i Z hr hlk hw dX5_changeSource_68 (pI.mk (lf_s hf2 (lf_f c15_0 (lf_f c15_1 (lf_f c15_2 rfl)))) I0)
abbrev rmX5_makeSection : Room := { frames := 1, cells := 0, slots := 0, locals := 22 }
def f_X5_makeSection (σ : St) (p1 : Int32) (p2 : Int32) (p3 : Int32) (p4 : Int32) : Int32 × St := (oc (f_X5_find σ p1) ((-1), σ) (fun i2 => (let r19 := f_X8_isWithin p2 0 499; (if r19 = 0 then ((-2), σ) else (let r30 := f_X8_isWithin p3 1 500; (if r30 = 0 then ((-2), σ) else (let r41 := f_X8_isWithin p4 1 15; (if r41 = 0 then ((-2), σ) else (if 2 ≤ (σ (9 + i2) 18) then ((-3), σ) else (let r61 := f_X7_isStacked σ i2; (if r61 = 0 then ((σ (9 + i2) 18) + 1, up2 (up2 (up2 (up2 σ (33 + 2 * i2 + ((σ (9 + i2) 18).toNatClampNeg)) 0 p2) (33 + 2 * i2 + ((σ (9 + i2) 18).toNatClampNeg)) 1 p3) (33 + 2 * i2 + ((σ (9 + i2) 18).toNatClampNeg)) 2 p4) (9 + i2) 18 ((σ (9 + i2) 18) + 1)) else ((-3), σ))))))))))))
theorem v_X5_makeSection : cvV yX5_makeSection "NestedBells$Machine" cX5_makeSection 7 (some (.int)) 4 := ⟨q_2_178, q_2_179, q_1_2, q_2_180, rfl, by decide +kernel, by decide +kernel, by decide +kernel⟩
set_option maxHeartbeats 4000000 in
set_option maxRecDepth 100000 in
theorem k_X5_makeSection {l : Launch} {D : va_G} {T : Nat → ClassId} {g ad : Nat → Nat} {σ : St} {p1 : Int32} {p2 : Int32} {p3 : Int32} {p4 : Int32} (I0 : InvC σ) : mX l yX5_makeSection cX5_makeSection 7 (some (.int)) rmX5_makeSection D T g 57 ad (cE (mE T ad) σ) [.ref (ad 0), .int p1, .int p2, .int p3, .int p4] (qI D 57 ad (mE T ad) (pI (f_X5_makeSection σ p1 p2 p3 p4) InvC)) := by
  refine mX.of (own := "NestedBells$Machine") (by decide +kernel) (Nat.le_of_ble_eq_true rfl) rfl ?_
  intro p e s m below meth c A ls H locs Z hr hlk _ hw hl
  have hx := Z.1.1
  have hb := Z.1.2.1
  have hl : lv_has ls 7 [(0, .ref (ad 0)), (1, .int p1), (2, .int p2), (3, .int p3), (4, .int p4)] := hl
  refine lv_aload_n hx hb dX5_makeSection_0 rfl (lv_at hl 0 rfl) ?_
  refine lv_iload_n hx hb dX5_makeSection_1 rfl (lv_at hl 1 rfl) ?_
  refine bk_qp (rnV (rest := []) Z hw (k_X5_find (p1 := p1) I0) v_X5_find q_2_181 (0) (by decide) rfl rfl rfl rfl hl.1 rfl rfl (Nat.le_of_ble_eq_true rfl) ⟨(Nat.le_of_ble_eq_true rfl), (Nat.le_of_ble_eq_true rfl)⟩ ⟨(Nat.le_of_ble_eq_true rfl), (Nat.le_of_ble_eq_true rfl)⟩ dX5_makeSection_2) hw Z (fun r2 er2 H locs hw => ?_)
  subst er2
  rcases hf2 : f_X5_find σ p1 with _ | i2
  · show W _ _ _ _ _ _ _ _ _ _ _ _ _ _ _ (F0 _ _ _ (.null :: _))
    refine lv_astoreN (lv' := [(5, .null), (0, .ref (ad 0)), (1, .int p1), (2, .int p2), (3, .int p3), (4, .int p4)]) hx hb dX5_makeSection_5 hl (by decide) rfl (fun ls hl => ?_)
    refine lv_aloadN hx hb dX5_makeSection_7 (lv_at hl 0 rfl) ?_
    refine lv_ifnonnullN hx hb dX5_makeSection_9 ?_
    refine lv_iconst (v := (-1)) hx hb dX5_makeSection_12 (by decide +kernel) ?_
    exact rt_i Z hr hlk hw dX5_makeSection_13 (pI.mk (lf_n hf2 rfl) I0)
  · have hi2 : i2 < 12 := fin_lt I0 hf2
    show W _ _ _ _ _ _ _ _ _ _ _ _ _ _ _ (F0 _ _ _ (.ref (ad (9 + i2)) :: _))
    refine lv_astore (lv' := [(5, .ref (ad (9 + i2))), (0, .ref (ad 0)), (1, .int p1), (2, .int p2), (3, .int p3), (4, .int p4)]) hx hb dX5_makeSection_5 hl (by decide) rfl (fun ls hl => ?_)
    refine lv_aload hx hb dX5_makeSection_7 (lv_at hl 0 rfl) ?_
    refine lv_ifnonnull (tgt := 14) hx hb dX5_makeSection_9 (by decide) ?_
    refine lv_iload_n hx hb dX5_makeSection_14 rfl (lv_at hl 3 rfl) ?_
    refine lv_iconst (v := 0) hx hb dX5_makeSection_15 (by decide +kernel) ?_
    refine lv_sipush (v := 499) hx hb dX5_makeSection_16 (by decide +kernel) ?_
    refine bk_ip (rnSN (rest := []) Z hw (k_X8_isWithin (p1 := p2) (p2 := 0) (p3 := 499) ) v_X8_isWithin Z.2.2.2.1.1.2.2.2 hl.1 rfl rfl (Nat.le_of_ble_eq_true rfl) ⟨(Nat.le_of_ble_eq_true rfl), (Nat.le_of_ble_eq_true rfl)⟩ ⟨(Nat.le_of_ble_eq_true rfl), (Nat.le_of_ble_eq_true rfl)⟩ dX5_makeSection_19) hw Z (fun r19 er19 H locs hw => ?_)
    refine lv_if_eq (tgt := 47) hx hb dX5_makeSection_22 (by decide) (fun c22 => ?_) (fun c22 => ?_)
    · refine lv_bipush (v := (-2)) hx hb dX5_makeSection_47 (by decide +kernel) ?_
      exact rt_i Z hr hlk hw dX5_makeSection_49 (pI.mk (by subst er19; exact (lf_s hf2 (lf_t c22 rfl))) I0)
    · refine lv_iload_n hx hb dX5_makeSection_25 rfl (lv_at hl 4 rfl) ?_
      refine lv_iconst (v := 1) hx hb dX5_makeSection_26 (by decide +kernel) ?_
      refine lv_sipush (v := 500) hx hb dX5_makeSection_27 (by decide +kernel) ?_
      refine bk_ip (rnSN (rest := []) Z hw (k_X8_isWithin (p1 := p3) (p2 := 1) (p3 := 500) ) v_X8_isWithin Z.2.2.2.1.1.2.2.2 hl.1 rfl rfl (Nat.le_of_ble_eq_true rfl) ⟨(Nat.le_of_ble_eq_true rfl), (Nat.le_of_ble_eq_true rfl)⟩ ⟨(Nat.le_of_ble_eq_true rfl), (Nat.le_of_ble_eq_true rfl)⟩ dX5_makeSection_30) hw Z (fun r30 er30 H locs hw => ?_)
      refine lv_if_eq (tgt := 47) hx hb dX5_makeSection_33 (by decide) (fun c33 => ?_) (fun c33 => ?_)
      · refine lv_bipush (v := (-2)) hx hb dX5_makeSection_47 (by decide +kernel) ?_
        exact rt_i Z hr hlk hw dX5_makeSection_49 (pI.mk (by subst er30 er19; exact (lf_s hf2 (lf_f c22 (lf_t c33 rfl)))) I0)
      · refine lv_iload hx hb dX5_makeSection_36 (lv_at hl 5 rfl) ?_
        refine lv_iconst (v := 1) hx hb dX5_makeSection_38 (by decide +kernel) ?_
        refine lv_bipush (v := 15) hx hb dX5_makeSection_39 (by decide +kernel) ?_
        refine bk_ip (rnSN (rest := []) Z hw (k_X8_isWithin (p1 := p4) (p2 := 1) (p3 := 15) ) v_X8_isWithin Z.2.2.2.1.1.2.2.2 hl.1 rfl rfl (Nat.le_of_ble_eq_true rfl) ⟨(Nat.le_of_ble_eq_true rfl), (Nat.le_of_ble_eq_true rfl)⟩ ⟨(Nat.le_of_ble_eq_true rfl), (Nat.le_of_ble_eq_true rfl)⟩ dX5_makeSection_41) hw Z (fun r41 er41 H locs hw => ?_)
        refine lv_if_ne (tgt := 50) hx hb dX5_makeSection_44 (by decide) (fun c44 => ?_) (fun c44 => ?_)
        · refine lv_aload hx hb dX5_makeSection_50 (lv_at hl 0 rfl) ?_
          refine gU (j := 18) (v := .int (σ (9 + i2) 18)) Z hw hi2 (by decide) q_1_126 rfl rfl dX5_makeSection_52 ?_
          refine lv_iconst (v := 2) hx hb dX5_makeSection_55 (by decide +kernel) ?_
          refine lv_icmp_ge (tgt := 67) hx hb dX5_makeSection_56 (by decide) (fun c56 => ?_) (fun c56 => ?_)
          · refine lv_bipush (v := (-3)) hx hb dX5_makeSection_67 (by decide +kernel) ?_
            exact rt_i Z hr hlk hw dX5_makeSection_69 (pI.mk (by subst er41 er30 er19; exact (lf_s hf2 (lf_f c22 (lf_f c33 (lf_f c44 (lf_t c56 rfl)))))) I0)
          · refine lv_aload hx hb dX5_makeSection_59 (lv_at hl 0 rfl) ?_
            refine bk_ip (rnV (rest := []) Z hw (k_X7_isStacked (i := i2) I0 hi2) v_X7_isStacked q_2_185 (9 + i2) (by have h1 : i2 < 12 := hi2; omega) rfl (mE_src hi2) rfl rfl hl.1 rfl rfl (Nat.le_of_ble_eq_true rfl) ⟨(Nat.le_of_ble_eq_true rfl), (Nat.le_of_ble_eq_true rfl)⟩ ⟨(Nat.le_of_ble_eq_true rfl), (Nat.le_of_ble_eq_true rfl)⟩ dX5_makeSection_61) hw Z (fun r61 er61 H locs hw => ?_)
            refine lv_if_eq (tgt := 70) hx hb dX5_makeSection_64 (by decide) (fun c64 => ?_) (fun c64 => ?_)
            · refine lv_aload hx hb dX5_makeSection_70 (lv_at hl 0 rfl) ?_
              refine gU (j := 19) (v := .ref (ad (21 + i2))) Z hw hi2 (by decide) q_1_128 rfl rfl dX5_makeSection_72 ?_
              refine lv_aload hx hb dX5_makeSection_75 (lv_at hl 0 rfl) ?_
              refine gU (j := 18) (v := .int (σ (9 + i2) 18)) Z hw hi2 (by decide) q_1_126 rfl rfl dX5_makeSection_77 ?_
              refine qE (n := 2) (t0 := 4) (v := .ref (ad (33 + 2 * i2 + ((σ (9 + i2) 18).toNatClampNeg)))) Z hw (21 + i2) (by omega) rfl (mE_sar hi2) rfl (vp_nle (I0.2.2.2.2 _ hi2).1 c56 (by decide)) (tr_ok rfl (tn_lt (vp_nle (n := 2) (I0.2.2.2.2 _ hi2).1 c56 (by decide)))) dX5_makeSection_80 ?_
              refine lv_astore (lv' := [(6, .ref (ad (33 + 2 * i2 + ((σ (9 + i2) 18).toNatClampNeg)))), (5, .ref (ad (9 + i2))), (0, .ref (ad 0)), (1, .int p1), (2, .int p2), (3, .int p3), (4, .int p4)]) hx hb dX5_makeSection_81 hl (by decide) rfl (fun ls hl => ?_)
              refine lv_aload hx hb dX5_makeSection_83 (lv_at hl 0 rfl) ?_
              refine lv_iload_n hx hb dX5_makeSection_85 rfl (lv_at hl 4 rfl) ?_
              refine pS (j := 0) Z hw hi2 (tn_lt (vp_nle (n := 2) (I0.2.2.2.2 _ hi2).1 c56 (by decide))) (by decide) q_1_77 rfl rfl rfl rfl dX5_makeSection_86 (fun H locs hw => ?_)
              refine lv_aload hx hb dX5_makeSection_89 (lv_at hl 0 rfl) ?_
              refine lv_iload_n hx hb dX5_makeSection_91 rfl (lv_at hl 5 rfl) ?_
              refine pS (j := 1) Z hw hi2 (tn_lt (vp_nle (n := 2) (I0.2.2.2.2 _ hi2).1 c56 (by decide))) (by decide) q_1_79 rfl rfl rfl rfl dX5_makeSection_92 (fun H locs hw => ?_)
              refine lv_aload hx hb dX5_makeSection_95 (lv_at hl 0 rfl) ?_
              refine lv_iload hx hb dX5_makeSection_97 (lv_at hl 6 rfl) ?_
              refine pS (j := 2) Z hw hi2 (tn_lt (vp_nle (n := 2) (I0.2.2.2.2 _ hi2).1 c56 (by decide))) (by decide) q_1_81 rfl rfl rfl rfl dX5_makeSection_99 (fun H locs hw => ?_)
              refine lv_aload hx hb dX5_makeSection_102 (lv_at hl 1 rfl) ?_
              refine lv_dup hx hb dX5_makeSection_104 rfl ?_
              refine gU (j := 18) (v := .int (σ (9 + i2) 18)) Z hw hi2 (by decide) q_1_126 rfl (congrArg (fun x => some (Value.int x)) ((up2_j (by decide)).trans ((up2_j (by decide)).trans (up2_j (by decide))))) dX5_makeSection_105 ?_
              refine lv_iconst (v := 1) hx hb dX5_makeSection_108 (by decide +kernel) ?_
              refine lv_iadd hx hb dX5_makeSection_109 ?_
              refine pU (j := 18) Z hw hi2 (by decide) q_1_126 rfl rfl rfl rfl dX5_makeSection_110 (fun H locs hw => ?_)
              refine lv_aload hx hb dX5_makeSection_113 (lv_at hl 1 rfl) ?_
              refine gU (j := 18) (v := .int ((σ (9 + i2) 18) + 1)) Z hw hi2 (by decide) q_1_126 rfl (congrArg (fun x => some (Value.int x)) up2_s) dX5_makeSection_115 ?_
              exact rt_i Z hr hlk hw dX5_makeSection_118 (pI.mk (by subst er61 er41 er30 er19; exact (lf_s hf2 (lf_f c22 (lf_f c33 (lf_f c44 (lf_f c56 (lf_t c64 rfl))))))) (InvC.up18 (inc_to (I0.2.2.2.2 _ hi2).1 c56 (by decide) (by decide)) (InvC.up (InvC.up (InvC.up I0 (by unfold InvCcr; omega)) (by unfold InvCcr; omega)) (by unfold InvCcr; omega))))
            · refine lv_bipush (v := (-3)) hx hb dX5_makeSection_67 (by decide +kernel) ?_
              exact rt_i Z hr hlk hw dX5_makeSection_69 (pI.mk (by subst er61 er41 er30 er19; exact (lf_s hf2 (lf_f c22 (lf_f c33 (lf_f c44 (lf_f c56 (lf_f c64 rfl))))))) I0)
        · refine lv_bipush (v := (-2)) hx hb dX5_makeSection_47 (by decide +kernel) ?_
          exact rt_i Z hr hlk hw dX5_makeSection_49 (pI.mk (by subst er41 er30 er19; exact (lf_s hf2 (lf_f c22 (lf_f c33 (lf_t c44 rfl))))) I0)
abbrev rmX5_dropSections : Room := { frames := 1, cells := 0, slots := 0, locals := 21 }
def f_X5_dropSections (σ : St) (p1 : Int32) : Int32 × St := (oc (f_X5_find σ p1) ((-1), σ) (fun i2 => (let r13 := f_X7_isStacked σ i2; (if r13 = 0 then (σ (9 + i2) 18, up2 σ (9 + i2) 18 0) else ((-3), σ)))))
theorem v_X5_dropSections : cvV yX5_dropSections "NestedBells$Machine" cX5_dropSections 4 (some (.int)) 1 := ⟨q_4_30, q_4_31, q_1_2, q_4_32, rfl, by decide +kernel, by decide +kernel, by decide +kernel⟩
set_option maxHeartbeats 4000000 in
set_option maxRecDepth 100000 in
theorem k_X5_dropSections {l : Launch} {D : va_G} {T : Nat → ClassId} {g ad : Nat → Nat} {σ : St} {p1 : Int32} (I0 : InvC σ) : mX l yX5_dropSections cX5_dropSections 4 (some (.int)) rmX5_dropSections D T g 57 ad (cE (mE T ad) σ) [.ref (ad 0), .int p1] (qI D 57 ad (mE T ad) (pI (f_X5_dropSections σ p1) InvC)) := by
  refine mX.of (own := "NestedBells$Machine") (by decide +kernel) (Nat.le_of_ble_eq_true rfl) rfl ?_
  intro p e s m below meth c A ls H locs Z hr hlk _ hw hl
  have hx := Z.1.1
  have hb := Z.1.2.1
  have hl : lv_has ls 4 [(0, .ref (ad 0)), (1, .int p1)] := hl
  refine lv_aload_n hx hb dX5_dropSections_0 rfl (lv_at hl 0 rfl) ?_
  refine lv_iload_n hx hb dX5_dropSections_1 rfl (lv_at hl 1 rfl) ?_
  refine bk_qp (rnV (rest := []) Z hw (k_X5_find (p1 := p1) I0) v_X5_find q_2_181 (0) (by decide) rfl rfl rfl rfl hl.1 rfl rfl (Nat.le_of_ble_eq_true rfl) ⟨(Nat.le_of_ble_eq_true rfl), (Nat.le_of_ble_eq_true rfl)⟩ ⟨(Nat.le_of_ble_eq_true rfl), (Nat.le_of_ble_eq_true rfl)⟩ dX5_dropSections_2) hw Z (fun r2 er2 H locs hw => ?_)
  subst er2
  rcases hf2 : f_X5_find σ p1 with _ | i2
  · show W _ _ _ _ _ _ _ _ _ _ _ _ _ _ _ (F0 _ _ _ (.null :: _))
    refine lv_astore_nN (lv' := [(2, .null), (0, .ref (ad 0)), (1, .int p1)]) hx hb dX5_dropSections_5 rfl hl (by decide) rfl (fun ls hl => ?_)
    refine lv_aload_nN hx hb dX5_dropSections_6 rfl (lv_at hl 0 rfl) ?_
    refine lv_ifnonnullN hx hb dX5_dropSections_7 ?_
    refine lv_iconst (v := (-1)) hx hb dX5_dropSections_10 (by decide +kernel) ?_
    exact rt_i Z hr hlk hw dX5_dropSections_11 (pI.mk (lf_n hf2 rfl) I0)
  · have hi2 : i2 < 12 := fin_lt I0 hf2
    show W _ _ _ _ _ _ _ _ _ _ _ _ _ _ _ (F0 _ _ _ (.ref (ad (9 + i2)) :: _))
    refine lv_astore_n (lv' := [(2, .ref (ad (9 + i2))), (0, .ref (ad 0)), (1, .int p1)]) hx hb dX5_dropSections_5 rfl hl (by decide) rfl (fun ls hl => ?_)
    refine lv_aload_n hx hb dX5_dropSections_6 rfl (lv_at hl 0 rfl) ?_
    refine lv_ifnonnull (tgt := 12) hx hb dX5_dropSections_7 (by decide) ?_
    refine lv_aload_n hx hb dX5_dropSections_12 rfl (lv_at hl 0 rfl) ?_
    refine bk_ip (rnV (rest := []) Z hw (k_X7_isStacked (i := i2) I0 hi2) v_X7_isStacked q_2_185 (9 + i2) (by have h1 : i2 < 12 := hi2; omega) rfl (mE_src hi2) rfl rfl hl.1 rfl rfl (Nat.le_of_ble_eq_true rfl) ⟨(Nat.le_of_ble_eq_true rfl), (Nat.le_of_ble_eq_true rfl)⟩ ⟨(Nat.le_of_ble_eq_true rfl), (Nat.le_of_ble_eq_true rfl)⟩ dX5_dropSections_13) hw Z (fun r13 er13 H locs hw => ?_)
    refine lv_if_eq (tgt := 22) hx hb dX5_dropSections_16 (by decide) (fun c16 => ?_) (fun c16 => ?_)
    · refine lv_aload_n hx hb dX5_dropSections_22 rfl (lv_at hl 0 rfl) ?_
      refine gU (j := 18) (v := .int (σ (9 + i2) 18)) Z hw hi2 (by decide) q_1_126 rfl rfl dX5_dropSections_23 ?_
      refine lv_istore_n (lv' := [(3, .int (σ (9 + i2) 18)), (2, .ref (ad (9 + i2))), (0, .ref (ad 0)), (1, .int p1)]) hx hb dX5_dropSections_26 rfl hl (by decide) rfl (fun ls hl => ?_)
      refine lv_aload_n hx hb dX5_dropSections_27 rfl (lv_at hl 1 rfl) ?_
      refine lv_iconst (v := 0) hx hb dX5_dropSections_28 (by decide +kernel) ?_
      refine pU (j := 18) Z hw hi2 (by decide) q_1_126 rfl rfl rfl rfl dX5_dropSections_29 (fun H locs hw => ?_)
      refine lv_iload_n hx hb dX5_dropSections_32 rfl (lv_at hl 0 rfl) ?_
      exact rt_i Z hr hlk hw dX5_dropSections_33 (pI.mk (by subst er13; exact (lf_s hf2 (lf_t c16 rfl))) (InvC.up18 (by decide) I0))
    · refine lv_bipush (v := (-3)) hx hb dX5_dropSections_19 (by decide +kernel) ?_
      exact rt_i Z hr hlk hw dX5_dropSections_21 (pI.mk (by subst er13; exact (lf_s hf2 (lf_f c16 rfl))) I0)
abbrev rmX5_changeTimer : Room := { frames := 1, cells := 0, slots := 0, locals := 22 }
def f_X5_changeTimer (σ : St) (p1 : Int32) (p2 : Int32) (p3 : Int32) : Int32 × St := (oc (f_X5_find σ p1) ((-1), σ) (fun i2 => (let r19 := f_X8_isWithin p2 0 999; (if r19 = 0 then ((-2), σ) else (let r30 := f_X8_isWithin p3 0 1000; (if r30 = 0 then ((-2), σ) else (if (σ (9 + i2) 1) = 1 then ((-3), σ) else (σ (9 + i2) 17, up2 (up2 σ (9 + i2) 16 ((σ 0 0) + p2)) (9 + i2) 17 p3))))))))
theorem v_X5_changeTimer : cvV yX5_changeTimer "NestedBells$Machine" cX5_changeTimer 6 (some (.int)) 3 := ⟨q_2_190, q_2_191, q_1_2, q_2_192, rfl, by decide +kernel, by decide +kernel, by decide +kernel⟩
set_option maxHeartbeats 4000000 in
set_option maxRecDepth 100000 in
theorem k_X5_changeTimer {l : Launch} {D : va_G} {T : Nat → ClassId} {g ad : Nat → Nat} {σ : St} {p1 : Int32} {p2 : Int32} {p3 : Int32} (I0 : InvC σ) : mX l yX5_changeTimer cX5_changeTimer 6 (some (.int)) rmX5_changeTimer D T g 57 ad (cE (mE T ad) σ) [.ref (ad 0), .int p1, .int p2, .int p3] (qI D 57 ad (mE T ad) (pI (f_X5_changeTimer σ p1 p2 p3) InvC)) := by
  refine mX.of (own := "NestedBells$Machine") (by decide +kernel) (Nat.le_of_ble_eq_true rfl) rfl ?_
  intro p e s m below meth c A ls H locs Z hr hlk _ hw hl
  have hx := Z.1.1
  have hb := Z.1.2.1
  have hl : lv_has ls 6 [(0, .ref (ad 0)), (1, .int p1), (2, .int p2), (3, .int p3)] := hl
  refine lv_aload_n hx hb dX5_changeTimer_0 rfl (lv_at hl 0 rfl) ?_
  refine lv_iload_n hx hb dX5_changeTimer_1 rfl (lv_at hl 1 rfl) ?_
  refine bk_qp (rnV (rest := []) Z hw (k_X5_find (p1 := p1) I0) v_X5_find q_2_181 (0) (by decide) rfl rfl rfl rfl hl.1 rfl rfl (Nat.le_of_ble_eq_true rfl) ⟨(Nat.le_of_ble_eq_true rfl), (Nat.le_of_ble_eq_true rfl)⟩ ⟨(Nat.le_of_ble_eq_true rfl), (Nat.le_of_ble_eq_true rfl)⟩ dX5_changeTimer_2) hw Z (fun r2 er2 H locs hw => ?_)
  subst er2
  rcases hf2 : f_X5_find σ p1 with _ | i2
  · show W _ _ _ _ _ _ _ _ _ _ _ _ _ _ _ (F0 _ _ _ (.null :: _))
    refine lv_astoreN (lv' := [(4, .null), (0, .ref (ad 0)), (1, .int p1), (2, .int p2), (3, .int p3)]) hx hb dX5_changeTimer_5 hl (by decide) rfl (fun ls hl => ?_)
    refine lv_aloadN hx hb dX5_changeTimer_7 (lv_at hl 0 rfl) ?_
    refine lv_ifnonnullN hx hb dX5_changeTimer_9 ?_
    refine lv_iconst (v := (-1)) hx hb dX5_changeTimer_12 (by decide +kernel) ?_
    exact rt_i Z hr hlk hw dX5_changeTimer_13 (pI.mk (lf_n hf2 rfl) I0)
  · have hi2 : i2 < 12 := fin_lt I0 hf2
    show W _ _ _ _ _ _ _ _ _ _ _ _ _ _ _ (F0 _ _ _ (.ref (ad (9 + i2)) :: _))
    refine lv_astore (lv' := [(4, .ref (ad (9 + i2))), (0, .ref (ad 0)), (1, .int p1), (2, .int p2), (3, .int p3)]) hx hb dX5_changeTimer_5 hl (by decide) rfl (fun ls hl => ?_)
    refine lv_aload hx hb dX5_changeTimer_7 (lv_at hl 0 rfl) ?_
    refine lv_ifnonnull (tgt := 14) hx hb dX5_changeTimer_9 (by decide) ?_
    refine lv_iload_n hx hb dX5_changeTimer_14 rfl (lv_at hl 3 rfl) ?_
    refine lv_iconst (v := 0) hx hb dX5_changeTimer_15 (by decide +kernel) ?_
    refine lv_sipush (v := 999) hx hb dX5_changeTimer_16 (by decide +kernel) ?_
    refine bk_ip (rnSN (rest := []) Z hw (k_X8_isWithin (p1 := p2) (p2 := 0) (p3 := 999) ) v_X8_isWithin Z.2.2.2.1.1.2.2.2 hl.1 rfl rfl (Nat.le_of_ble_eq_true rfl) ⟨(Nat.le_of_ble_eq_true rfl), (Nat.le_of_ble_eq_true rfl)⟩ ⟨(Nat.le_of_ble_eq_true rfl), (Nat.le_of_ble_eq_true rfl)⟩ dX5_changeTimer_19) hw Z (fun r19 er19 H locs hw => ?_)
    refine lv_if_eq (tgt := 36) hx hb dX5_changeTimer_22 (by decide) (fun c22 => ?_) (fun c22 => ?_)
    · refine lv_bipush (v := (-2)) hx hb dX5_changeTimer_36 (by decide +kernel) ?_
      exact rt_i Z hr hlk hw dX5_changeTimer_38 (pI.mk (by subst er19; exact (lf_s hf2 (lf_t c22 rfl))) I0)
    · refine lv_iload_n hx hb dX5_changeTimer_25 rfl (lv_at hl 4 rfl) ?_
      refine lv_iconst (v := 0) hx hb dX5_changeTimer_26 (by decide +kernel) ?_
      refine lv_sipush (v := 1000) hx hb dX5_changeTimer_27 (by decide +kernel) ?_
      refine bk_ip (rnSN (rest := []) Z hw (k_X8_isWithin (p1 := p3) (p2 := 0) (p3 := 1000) ) v_X8_isWithin Z.2.2.2.1.1.2.2.2 hl.1 rfl rfl (Nat.le_of_ble_eq_true rfl) ⟨(Nat.le_of_ble_eq_true rfl), (Nat.le_of_ble_eq_true rfl)⟩ ⟨(Nat.le_of_ble_eq_true rfl), (Nat.le_of_ble_eq_true rfl)⟩ dX5_changeTimer_30) hw Z (fun r30 er30 H locs hw => ?_)
      refine lv_if_ne (tgt := 39) hx hb dX5_changeTimer_33 (by decide) (fun c33 => ?_) (fun c33 => ?_)
      · refine lv_aload hx hb dX5_changeTimer_39 (lv_at hl 0 rfl) ?_
        refine gU (j := 1) (v := .int (σ (9 + i2) 1)) Z hw hi2 (by decide) q_1_92 rfl rfl dX5_changeTimer_41 ?_
        refine lv_iconst (v := 1) hx hb dX5_changeTimer_44 (by decide +kernel) ?_
        refine lv_icmp_ne (tgt := 51) hx hb dX5_changeTimer_45 (by decide) (fun c45 => ?_) (fun c45 => ?_)
        · refine lv_aload hx hb dX5_changeTimer_51 (lv_at hl 0 rfl) ?_
          refine gU (j := 17) (v := .int (σ (9 + i2) 17)) Z hw hi2 (by decide) q_1_124 rfl rfl dX5_changeTimer_53 ?_
          refine lv_istore (lv' := [(5, .int (σ (9 + i2) 17)), (4, .ref (ad (9 + i2))), (0, .ref (ad 0)), (1, .int p1), (2, .int p2), (3, .int p3)]) hx hb dX5_changeTimer_56 hl (by decide) rfl (fun ls hl => ?_)
          refine lv_aload hx hb dX5_changeTimer_58 (lv_at hl 1 rfl) ?_
          refine lv_aload_n hx hb dX5_changeTimer_60 rfl (lv_at hl 2 rfl) ?_
          refine gM (j := 0) (v := .int (σ 0 0)) Z hw  (by decide) q_1_170 rfl rfl dX5_changeTimer_61 ?_
          refine lv_iload_n hx hb dX5_changeTimer_64 rfl (lv_at hl 4 rfl) ?_
          refine lv_iadd hx hb dX5_changeTimer_65 ?_
          refine pU (j := 16) Z hw hi2 (by decide) q_1_122 rfl rfl rfl rfl dX5_changeTimer_66 (fun H locs hw => ?_)
          refine lv_aload hx hb dX5_changeTimer_69 (lv_at hl 1 rfl) ?_
          refine lv_iload_n hx hb dX5_changeTimer_71 rfl (lv_at hl 5 rfl) ?_
          refine pU (j := 17) Z hw hi2 (by decide) q_1_124 rfl rfl rfl rfl dX5_changeTimer_72 (fun H locs hw => ?_)
          refine lv_iload hx hb dX5_changeTimer_75 (lv_at hl 0 rfl) ?_
          exact rt_i Z hr hlk hw dX5_changeTimer_77 (pI.mk (by subst er30 er19; exact (lf_s hf2 (lf_f c22 (lf_f c33 (lf_f c45 rfl))))) (InvC.up (InvC.up I0 (by unfold InvCcr; omega)) (by unfold InvCcr; omega)))
        · refine lv_bipush (v := (-3)) hx hb dX5_changeTimer_48 (by decide +kernel) ?_
          exact rt_i Z hr hlk hw dX5_changeTimer_50 (pI.mk (by subst er30 er19; exact (lf_s hf2 (lf_f c22 (lf_f c33 (lf_t c45 rfl))))) I0)
      · refine lv_bipush (v := (-2)) hx hb dX5_changeTimer_36 (by decide +kernel) ?_
        exact rt_i Z hr hlk hw dX5_changeTimer_38 (pI.mk (by subst er30 er19; exact (lf_s hf2 (lf_f c22 (lf_t c33 rfl)))) I0)
abbrev rmX5_raiseSource : Room := { frames := 2, cells := 0, slots := 0, locals := 45 }
def f_X5_raiseSource (σ : St) (p1 : Int32) : Int32 × St := (oc (f_X5_find σ p1) ((-1), σ) (fun i2 => (if (σ (9 + i2) 1) = 0 then (let r22 := (f_X5_receiveEdge σ p1 i2).1; let s22 := (f_X5_receiveEdge σ p1 i2).2; (r22, s22)) else ((-3), σ))))
theorem v_X5_raiseSource : cvV yX5_raiseSource "NestedBells$Machine" cX5_raiseSource 3 (some (.int)) 1 := ⟨q_2_194, q_2_195, q_1_2, q_2_196, rfl, by decide +kernel, by decide +kernel, by decide +kernel⟩
set_option maxHeartbeats 4000000 in
set_option maxRecDepth 100000 in
theorem k_X5_raiseSource {l : Launch} {D : va_G} {T : Nat → ClassId} {g ad : Nat → Nat} {σ : St} {p1 : Int32} (I0 : InvC σ) : mX l yX5_raiseSource cX5_raiseSource 3 (some (.int)) rmX5_raiseSource D T g 57 ad (cE (mE T ad) σ) [.ref (ad 0), .int p1] (qI D 57 ad (mE T ad) (pI (f_X5_raiseSource σ p1) InvC)) := by
  refine mX.of (own := "NestedBells$Machine") (by decide +kernel) (Nat.le_of_ble_eq_true rfl) rfl ?_
  intro p e s m below meth c A ls H locs Z hr hlk _ hw hl
  have hx := Z.1.1
  have hb := Z.1.2.1
  have hl : lv_has ls 3 [(0, .ref (ad 0)), (1, .int p1)] := hl
  refine lv_aload_n hx hb dX5_raiseSource_0 rfl (lv_at hl 0 rfl) ?_
  refine lv_iload_n hx hb dX5_raiseSource_1 rfl (lv_at hl 1 rfl) ?_
  refine bk_qp (rnV (rest := []) Z hw (k_X5_find (p1 := p1) I0) v_X5_find q_2_181 (0) (by decide) rfl rfl rfl rfl hl.1 rfl rfl (Nat.le_of_ble_eq_true rfl) ⟨(Nat.le_of_ble_eq_true rfl), (Nat.le_of_ble_eq_true rfl)⟩ ⟨(Nat.le_of_ble_eq_true rfl), (Nat.le_of_ble_eq_true rfl)⟩ dX5_raiseSource_2) hw Z (fun r2 er2 H locs hw => ?_)
  subst er2
  rcases hf2 : f_X5_find σ p1 with _ | i2
  · show W _ _ _ _ _ _ _ _ _ _ _ _ _ _ _ (F0 _ _ _ (.null :: _))
    refine lv_astore_nN (lv' := [(2, .null), (0, .ref (ad 0)), (1, .int p1)]) hx hb dX5_raiseSource_5 rfl hl (by decide) rfl (fun ls hl => ?_)
    refine lv_aload_nN hx hb dX5_raiseSource_6 rfl (lv_at hl 0 rfl) ?_
    refine lv_ifnonnullN hx hb dX5_raiseSource_7 ?_
    refine lv_iconst (v := (-1)) hx hb dX5_raiseSource_10 (by decide +kernel) ?_
    exact rt_i Z hr hlk hw dX5_raiseSource_11 (pI.mk (lf_n hf2 rfl) I0)
  · have hi2 : i2 < 12 := fin_lt I0 hf2
    show W _ _ _ _ _ _ _ _ _ _ _ _ _ _ _ (F0 _ _ _ (.ref (ad (9 + i2)) :: _))
    refine lv_astore_n (lv' := [(2, .ref (ad (9 + i2))), (0, .ref (ad 0)), (1, .int p1)]) hx hb dX5_raiseSource_5 rfl hl (by decide) rfl (fun ls hl => ?_)
    refine lv_aload_n hx hb dX5_raiseSource_6 rfl (lv_at hl 0 rfl) ?_
    refine lv_ifnonnull (tgt := 12) hx hb dX5_raiseSource_7 (by decide) ?_
    refine lv_aload_n hx hb dX5_raiseSource_12 rfl (lv_at hl 0 rfl) ?_
    refine gU (j := 1) (v := .int (σ (9 + i2) 1)) Z hw hi2 (by decide) q_1_92 rfl rfl dX5_raiseSource_13 ?_
    refine lv_if_ne (tgt := 28) hx hb dX5_raiseSource_16 (by decide) (fun c16 => ?_) (fun c16 => ?_)
    · refine lv_bipush (v := (-3)) hx hb dX5_raiseSource_28 (by decide +kernel) ?_
      exact rt_i Z hr hlk hw dX5_raiseSource_30 (pI.mk (lf_s hf2 (lf_f c16 rfl)) I0)
    · refine lv_aload_n hx hb dX5_raiseSource_19 rfl (lv_at hl 1 rfl) ?_
      refine lv_iload_n hx hb dX5_raiseSource_20 rfl (lv_at hl 2 rfl) ?_
      refine lv_aload_n hx hb dX5_raiseSource_21 rfl (lv_at hl 0 rfl) ?_
      refine bk_i (rnV (rest := []) Z hw (k_X5_receiveEdge (p1 := p1) (i := i2) I0 hi2) v_X5_receiveEdge q_2_197 (0) (by decide) rfl rfl rfl rfl hl.1 rfl rfl (Nat.le_of_ble_eq_true rfl) ⟨(Nat.le_of_ble_eq_true rfl), (Nat.le_of_ble_eq_true rfl)⟩ ⟨(Nat.le_of_ble_eq_true rfl), (Nat.le_of_ble_eq_true rfl)⟩ dX5_raiseSource_22) hw Z (fun r22 s22 H locs hp hw => ?_)
      obtain ⟨er22, es22, I22⟩ := hp
      refine lv_goto (tgt := 30) hx hb dX5_raiseSource_25 (by decide) ?_
      exact rt_i Z hr hlk hw dX5_raiseSource_30 (pI.mk (by subst es22 er22; exact (lf_s hf2 (lf_t c16 rfl))) I22)
abbrev rmX5_changeLine : Room := { frames := 1, cells := 0, slots := 0, locals := 21 }
def f_X5_changeLine (σ : St) (p1 : Int32) (p2 : Int32) : Int32 × St := (oc (f_X5_find σ p1) ((-1), σ) (fun i2 => (if (σ (9 + i2) 1) = 0 then ((-3), σ) else (let v34 : Int32 := (if (zb (σ (9 + i2) 5)) = 0 then 0 else 1); (let s55 : St := (if p2 = 0 then σ else (if (zb (σ (9 + i2) 5)) = 0 then up2 σ (9 + i2) 6 (σ 0 0) else σ)); (v34, up2 s55 (9 + i2) 5 p2))))))
theorem v_X5_changeLine : cvV yX5_changeLine "NestedBells$Machine" cX5_changeLine 5 (some (.int)) 2 := ⟨q_2_206, q_2_207, q_1_2, q_2_208, rfl, by decide +kernel, by decide +kernel, by decide +kernel⟩
set_option maxHeartbeats 4000000 in
set_option maxRecDepth 100000 in
theorem k_X5_changeLine {l : Launch} {D : va_G} {T : Nat → ClassId} {g ad : Nat → Nat} {σ : St} {p1 : Int32} {p2 : Int32} (I0 : InvC σ) (hz2 : zb p2 = p2) : mX l yX5_changeLine cX5_changeLine 5 (some (.int)) rmX5_changeLine D T g 57 ad (cE (mE T ad) σ) [.ref (ad 0), .int p1, .int p2] (qI D 57 ad (mE T ad) (pI (f_X5_changeLine σ p1 p2) InvC)) := by
  refine mX.of (own := "NestedBells$Machine") (by decide +kernel) (Nat.le_of_ble_eq_true rfl) rfl ?_
  intro p e s m below meth c A ls H locs Z hr hlk _ hw hl
  have hx := Z.1.1
  have hb := Z.1.2.1
  have hl : lv_has ls 5 [(0, .ref (ad 0)), (1, .int p1), (2, .int p2)] := hl
  refine lv_aload_n hx hb dX5_changeLine_0 rfl (lv_at hl 0 rfl) ?_
  refine lv_iload_n hx hb dX5_changeLine_1 rfl (lv_at hl 1 rfl) ?_
  refine bk_qp (rnV (rest := []) Z hw (k_X5_find (p1 := p1) I0) v_X5_find q_2_181 (0) (by decide) rfl rfl rfl rfl hl.1 rfl rfl (Nat.le_of_ble_eq_true rfl) ⟨(Nat.le_of_ble_eq_true rfl), (Nat.le_of_ble_eq_true rfl)⟩ ⟨(Nat.le_of_ble_eq_true rfl), (Nat.le_of_ble_eq_true rfl)⟩ dX5_changeLine_2) hw Z (fun r2 er2 H locs hw => ?_)
  subst er2
  rcases hf2 : f_X5_find σ p1 with _ | i2
  · show W _ _ _ _ _ _ _ _ _ _ _ _ _ _ _ (F0 _ _ _ (.null :: _))
    refine lv_astore_nN (lv' := [(3, .null), (0, .ref (ad 0)), (1, .int p1), (2, .int p2)]) hx hb dX5_changeLine_5 rfl hl (by decide) rfl (fun ls hl => ?_)
    refine lv_aload_nN hx hb dX5_changeLine_6 rfl (lv_at hl 0 rfl) ?_
    refine lv_ifnonnullN hx hb dX5_changeLine_7 ?_
    refine lv_iconst (v := (-1)) hx hb dX5_changeLine_10 (by decide +kernel) ?_
    exact rt_i Z hr hlk hw dX5_changeLine_11 (pI.mk (lf_n hf2 rfl) I0)
  · have hi2 : i2 < 12 := fin_lt I0 hf2
    show W _ _ _ _ _ _ _ _ _ _ _ _ _ _ _ (F0 _ _ _ (.ref (ad (9 + i2)) :: _))
    refine lv_astore_n (lv' := [(3, .ref (ad (9 + i2))), (0, .ref (ad 0)), (1, .int p1), (2, .int p2)]) hx hb dX5_changeLine_5 rfl hl (by decide) rfl (fun ls hl => ?_)
    refine lv_aload_n hx hb dX5_changeLine_6 rfl (lv_at hl 0 rfl) ?_
    refine lv_ifnonnull (tgt := 12) hx hb dX5_changeLine_7 (by decide) ?_
    refine lv_aload_n hx hb dX5_changeLine_12 rfl (lv_at hl 0 rfl) ?_
    refine gU (j := 1) (v := .int (σ (9 + i2) 1)) Z hw hi2 (by decide) q_1_92 rfl rfl dX5_changeLine_13 ?_
    refine lv_if_ne (tgt := 22) hx hb dX5_changeLine_16 (by decide) (fun c16 => ?_) (fun c16 => ?_)
    · refine lv_aload_n hx hb dX5_changeLine_22 rfl (lv_at hl 0 rfl) ?_
      refine gU (j := 5) (v := .int (zb (σ (9 + i2) 5))) Z hw hi2 (by decide) q_1_100 rfl rfl dX5_changeLine_23 ?_
      have hj34 : ∀ (v34 : Int32) (H : Heap) (locs : List Loc) (ls : Array Slot), ((if (zb (σ (9 + i2) 5)) = 0 then 0 else 1) : Int32) = v34 → wo D A s.heap 57 ad (cE (mE T ad) σ) H locs → lv_has ls 5 [(3, .ref (ad (9 + i2))), (0, .ref (ad 0)), (2, .int p2)] → W p l e rmX5_changeLine s m [.ref (ad 0), .int p1, .int p2].toArray below meth c H locs 0 0 (MQ below (qI D 57 ad (mE T ad) (pI (f_X5_changeLine σ p1 p2) InvC) A) [.ref (ad 0), .int p1, .int p2].toArray s rmX5_changeLine.cells rmX5_changeLine.slots A) (F0 m 34 ls [.int v34]) := by
        intro v34 H locs ls ev34 hw hl
        refine lv_istore (lv' := [(4, .int v34), (3, .ref (ad (9 + i2))), (0, .ref (ad 0)), (2, .int p2)]) hx hb dX5_changeLine_34 hl (by decide) rfl (fun ls hl => ?_)
        refine lv_iload_n hx hb dX5_changeLine_36 rfl (lv_at hl 3 rfl) ?_
        have hj55 : ∀ (s55 : St) (H : Heap) (locs : List Loc) (ls : Array Slot), ((if p2 = 0 then σ else (if (zb (σ (9 + i2) 5)) = 0 then up2 σ (9 + i2) 6 (σ 0 0) else σ)) : St) = s55 → InvC s55 → wo D A s.heap 57 ad (cE (mE T ad) s55) H locs → lv_has ls 5 [(4, .int v34), (3, .ref (ad (9 + i2))), (2, .int p2)] → W p l e rmX5_changeLine s m [.ref (ad 0), .int p1, .int p2].toArray below meth c H locs 0 0 (MQ below (qI D 57 ad (mE T ad) (pI (f_X5_changeLine σ p1 p2) InvC) A) [.ref (ad 0), .int p1, .int p2].toArray s rmX5_changeLine.cells rmX5_changeLine.slots A) (F0 m 55 ls []) := by
          intro s55 H locs ls es55 I55 hw hl
          refine lv_aload_n hx hb dX5_changeLine_55 rfl (lv_at hl 1 rfl) ?_
          refine lv_iload_n hx hb dX5_changeLine_56 rfl (lv_at hl 2 rfl) ?_
          refine pUb (j := 5) Z hw hi2 (by decide) q_1_100 hz2 dX5_changeLine_57 (fun H locs hw => ?_)
          refine lv_iload hx hb dX5_changeLine_60 (lv_at hl 0 rfl) ?_
          exact rt_i Z hr hlk hw dX5_changeLine_62 (pI.mk (by subst es55 ev34; exact (lf_s hf2 (lf_f c16 rfl))) (InvC.up I55 (by unfold InvCcr; omega)))
        refine lv_if_eq (tgt := 55) hx hb dX5_changeLine_37 (by decide) (fun c37 => ?_) (fun c37 => ?_)
        · exact hj55 _ H locs ls (Eq.symm (lf_t c37 rfl)) I0 hw (lv_sub hl [0, 1, 3] rfl)
        · refine lv_aload_n hx hb dX5_changeLine_40 rfl (lv_at hl 1 rfl) ?_
          refine gU (j := 5) (v := .int (zb (σ (9 + i2) 5))) Z hw hi2 (by decide) q_1_100 rfl rfl dX5_changeLine_41 ?_
          refine lv_if_ne (tgt := 55) hx hb dX5_changeLine_44 (by decide) (fun c44 => ?_) (fun c44 => ?_)
          · exact hj55 _ H locs ls (Eq.symm (lf_f c37 (lf_f c44 rfl))) I0 hw (lv_sub hl [0, 1, 3] rfl)
          · refine lv_aload_n hx hb dX5_changeLine_47 rfl (lv_at hl 1 rfl) ?_
            refine lv_aload_n hx hb dX5_changeLine_48 rfl (lv_at hl 2 rfl) ?_
            refine gM (j := 0) (v := .int (σ 0 0)) Z hw  (by decide) q_1_170 rfl rfl dX5_changeLine_49 ?_
            refine pU (j := 6) Z hw hi2 (by decide) q_1_102 rfl rfl rfl rfl dX5_changeLine_52 (fun H locs hw => ?_)
            exact hj55 _ H locs ls (Eq.symm (lf_f c37 (lf_t c44 rfl))) (InvC.up I0 (by unfold InvCcr; omega)) hw (lv_sub hl [0, 1, 3] rfl)
      refine lv_if_eq (tgt := 33) hx hb dX5_changeLine_26 (by decide) (fun c26 => ?_) (fun c26 => ?_)
      · refine lv_iconst (v := 0) hx hb dX5_changeLine_33 (by decide +kernel) ?_
        exact hj34 _ H locs ls (Eq.symm (lf_t c26 rfl)) hw (lv_sub hl [0, 1, 3] rfl)
      · refine lv_iconst (v := 1) hx hb dX5_changeLine_29 (by decide +kernel) ?_
        refine lv_goto (tgt := 34) hx hb dX5_changeLine_30 (by decide) ?_
        exact hj34 _ H locs ls (Eq.symm (lf_f c26 rfl)) hw (lv_sub hl [0, 1, 3] rfl)
    · refine lv_bipush (v := (-3)) hx hb dX5_changeLine_19 (by decide +kernel) ?_
      exact rt_i Z hr hlk hw dX5_changeLine_21 (pI.mk (lf_s hf2 (lf_t c16 rfl)) I0)
abbrev rmX5_changeSetting : Room := { frames := 1, cells := 0, slots := 0, locals := 22 }
def f_X5_changeSetting (σ : St) (p1 : Int32) (p2 : Int32) : Int32 × St := (let r3 := f_X8_isWithin p1 0 3; (if r3 = 0 then ((-2), σ) else (let v22 : Int32 := (if p1 = 0 then 15 else 50); (let r22 := f_X8_isWithin p2 0 v22; (if r22 = 0 then ((-2), σ) else (σ 1 p1.toNatClampNeg, up2 σ 1 p1.toNatClampNeg p2))))))
theorem v_X5_changeSetting : cvV yX5_changeSetting "NestedBells$Machine" cX5_changeSetting 4 (some (.int)) 2 := ⟨q_2_210, q_2_211, q_1_2, q_2_212, rfl, by decide +kernel, by decide +kernel, by decide +kernel⟩
set_option maxHeartbeats 4000000 in
set_option maxRecDepth 100000 in
theorem k_X5_changeSetting {l : Launch} {D : va_G} {T : Nat → ClassId} {g ad : Nat → Nat} {σ : St} {p1 : Int32} {p2 : Int32} (I0 : InvC σ) : mX l yX5_changeSetting cX5_changeSetting 4 (some (.int)) rmX5_changeSetting D T g 57 ad (cE (mE T ad) σ) [.ref (ad 0), .int p1, .int p2] (qI D 57 ad (mE T ad) (pI (f_X5_changeSetting σ p1 p2) InvC)) := by
  refine mX.of (own := "NestedBells$Machine") (by decide +kernel) (Nat.le_of_ble_eq_true rfl) rfl ?_
  intro p e s m below meth c A ls H locs Z hr hlk _ hw hl
  have hx := Z.1.1
  have hb := Z.1.2.1
  have hl : lv_has ls 4 [(0, .ref (ad 0)), (1, .int p1), (2, .int p2)] := hl
  refine lv_iload_n hx hb dX5_changeSetting_0 rfl (lv_at hl 1 rfl) ?_
  refine lv_iconst (v := 0) hx hb dX5_changeSetting_1 (by decide +kernel) ?_
  refine lv_iconst (v := 3) hx hb dX5_changeSetting_2 (by decide +kernel) ?_
  refine bk_ip (rnSN (rest := []) Z hw (k_X8_isWithin (p1 := p1) (p2 := 0) (p3 := 3) ) v_X8_isWithin Z.2.2.2.1.1.2.2.2 hl.1 rfl rfl (Nat.le_of_ble_eq_true rfl) ⟨(Nat.le_of_ble_eq_true rfl), (Nat.le_of_ble_eq_true rfl)⟩ ⟨(Nat.le_of_ble_eq_true rfl), (Nat.le_of_ble_eq_true rfl)⟩ dX5_changeSetting_3) hw Z (fun r3 er3 H locs hw => ?_)
  refine lv_if_eq (tgt := 28) hx hb dX5_changeSetting_6 (by decide) (fun c6 => ?_) (fun c6 => ?_)
  · refine lv_bipush (v := (-2)) hx hb dX5_changeSetting_28 (by decide +kernel) ?_
    exact rt_i Z hr hlk hw dX5_changeSetting_30 (pI.mk (by subst er3; exact (lf_t c6 rfl)) I0)
  · refine lv_iload_n hx hb dX5_changeSetting_9 rfl (lv_at hl 2 rfl) ?_
    refine lv_iconst (v := 0) hx hb dX5_changeSetting_10 (by decide +kernel) ?_
    refine lv_iload_n hx hb dX5_changeSetting_11 rfl (lv_at hl 1 rfl) ?_
    have hj22 : ∀ (v22 : Int32) (H : Heap) (locs : List Loc) (ls : Array Slot), ((if p1 = 0 then 15 else 50) : Int32) = v22 → wo D A s.heap 57 ad (cE (mE T ad) σ) H locs → lv_has ls 4 [(0, .ref (ad 0)), (1, .int p1), (2, .int p2)] → W p l e rmX5_changeSetting s m [.ref (ad 0), .int p1, .int p2].toArray below meth c H locs 0 0 (MQ below (qI D 57 ad (mE T ad) (pI (f_X5_changeSetting σ p1 p2) InvC) A) [.ref (ad 0), .int p1, .int p2].toArray s rmX5_changeSetting.cells rmX5_changeSetting.slots A) (F0 m 22 ls [.int v22, .int 0, .int p2]) := by
      intro v22 H locs ls ev22 hw hl
      refine bk_ip (rnSN (rest := []) Z hw (k_X8_isWithin (p1 := p2) (p2 := 0) (p3 := v22) ) v_X8_isWithin Z.2.2.2.1.1.2.2.2 hl.1 rfl rfl (Nat.le_of_ble_eq_true rfl) ⟨(Nat.le_of_ble_eq_true rfl), (Nat.le_of_ble_eq_true rfl)⟩ ⟨(Nat.le_of_ble_eq_true rfl), (Nat.le_of_ble_eq_true rfl)⟩ dX5_changeSetting_22) hw Z (fun r22 er22 H locs hw => ?_)
      refine lv_if_ne (tgt := 31) hx hb dX5_changeSetting_25 (by decide) (fun c25 => ?_) (fun c25 => ?_)
      · refine lv_aload_n hx hb dX5_changeSetting_31 rfl (lv_at hl 0 rfl) ?_
        refine gM (j := 1) (v := .ref (ad 1)) Z hw  (by decide) q_1_171 rfl rfl dX5_changeSetting_32 ?_
        refine lv_iload_n hx hb dX5_changeSetting_35 rfl (lv_at hl 1 rfl) ?_
        refine aE (v := σ 1 p1.toNatClampNeg) Z hw 1 (by decide) rfl (fun _ => rfl) (isw_vp er3 c6 (by decide)) rfl dX5_changeSetting_36 ?_
        refine lv_istore_n (lv' := [(3, .int (σ 1 p1.toNatClampNeg)), (0, .ref (ad 0)), (1, .int p1), (2, .int p2)]) hx hb dX5_changeSetting_37 rfl hl (by decide) rfl (fun ls hl => ?_)
        refine lv_aload_n hx hb dX5_changeSetting_38 rfl (lv_at hl 1 rfl) ?_
        refine gM (j := 1) (v := .ref (ad 1)) Z hw  (by decide) q_1_171 rfl rfl dX5_changeSetting_39 ?_
        refine lv_iload_n hx hb dX5_changeSetting_42 rfl (lv_at hl 2 rfl) ?_
        refine lv_iload_n hx hb dX5_changeSetting_43 rfl (lv_at hl 3 rfl) ?_
        refine sE (j := p1.toNatClampNeg) Z hw 1 (by decide) rfl (fun _ => rfl) (isw_vp er3 c6 (by decide)) rfl dX5_changeSetting_44 (fun H locs hw => ?_)
        refine lv_iload_n hx hb dX5_changeSetting_45 rfl (lv_at hl 0 rfl) ?_
        exact rt_i Z hr hlk hw dX5_changeSetting_46 (pI.mk (by subst er22 ev22 er3; exact (lf_f c6 (lf_f c25 rfl))) (InvC.up I0 (by unfold InvCcr; omega)))
      · refine lv_bipush (v := (-2)) hx hb dX5_changeSetting_28 (by decide +kernel) ?_
        exact rt_i Z hr hlk hw dX5_changeSetting_30 (pI.mk (by subst er22 ev22 er3; exact (lf_f c6 (lf_t c25 rfl))) I0)
    refine lv_if_ne (tgt := 20) hx hb dX5_changeSetting_12 (by decide) (fun c12 => ?_) (fun c12 => ?_)
    · refine lv_bipush (v := 50) hx hb dX5_changeSetting_20 (by decide +kernel) ?_
      exact hj22 _ H locs ls (Eq.symm (lf_f c12 rfl)) hw (lv_sub hl [0, 1, 2] rfl)
    · refine lv_bipush (v := 15) hx hb dX5_changeSetting_15 (by decide +kernel) ?_
      refine lv_goto (tgt := 22) hx hb dX5_changeSetting_17 (by decide) ?_
      exact hj22 _ H locs ls (Eq.symm (lf_t c12 rfl)) hw (lv_sub hl [0, 1, 2] rfl)
abbrev rmX5_spendTicks : Room := { frames := 4, cells := 0, slots := 0, locals := 88 }
def f_X5_spendTicks_l18 (p1 : Int32) : Nat → Nat → Int32 → St → Int32 × St
  | 0, k18, a18_2, t18 => (a18_2, t18)
  | n18 + 1, k18, a18_2, t18 => (if p1 ≤ (nI k18) then (a18_2, t18) else (let r25 := (f_X5_tick t18).1; let s25 := (f_X5_tick t18).2; (f_X5_spendTicks_l18 p1 n18 (k18 + 1) (a18_2 + r25) s25)))
def f_X5_spendTicks (σ : St) (p1 : Int32) : Int32 × St := (let r5 := f_X8_isWithin p1 1 500; (if r5 = 0 then ((-2), σ) else (let w18_2 := (f_X5_spendTicks_l18 p1 fu501 0 0 σ).1; let u18 := (f_X5_spendTicks_l18 p1 fu501 0 0 σ).2; (w18_2, u18))))
theorem v_X5_spendTicks : cvV yX5_spendTicks "NestedBells$Machine" cX5_spendTicks 4 (some (.int)) 1 := ⟨q_2_214, q_2_215, q_1_2, q_2_216, rfl, by decide +kernel, by decide +kernel, by decide +kernel⟩
set_option maxHeartbeats 4000000 in
set_option maxRecDepth 100000 in
theorem L_X5_spendTicks_18 {l : Launch} {D : va_G} {T : Nat → ClassId} {g ad : Nat → Nat} {p : Program} {e : Env} {s : State} {m : MethodId} {below : List Frame} {meth : Method} {c : Code} {A : Nat → Prop} {Qw : State → Prop} {p1 : Int32} (Z : en p m c cX5_spendTicks 4 s [.ref (ad 0), .int p1].toArray "NestedBells$Machine" D T g A) (hb1 : p1.toInt ≤ 500) : ∀ (n18 : Nat) (k18 : Nat) (a18_2 : Int32) (t18 : St) (H : Heap) (locs : List Loc) (ls : Array Slot), k18 ≤ 500 → 500 < k18 + n18 → InvC t18 → wo D A s.heap 57 ad (cE (mE T ad) t18) H locs → lv_has ls 4 [(3, .int (nI k18)), (2, .int a18_2), (0, .ref (ad 0)), (1, .int p1)] → (∀ (w18_2 : Int32) (u18 : St) (H : Heap) (locs : List Loc) (ls : Array Slot), (f_X5_spendTicks_l18 p1 n18 k18 a18_2 t18).1 = w18_2 → (f_X5_spendTicks_l18 p1 n18 k18 a18_2 t18).2 = u18 → InvC u18 → wo D A s.heap 57 ad (cE (mE T ad) u18) H locs → lv_has ls 4 [(2, .int w18_2)] → W p l e rmX5_spendTicks s m [.ref (ad 0), .int p1].toArray below meth c H locs 0 0 Qw (F0 m 36 ls [])) → W p l e rmX5_spendTicks s m [.ref (ad 0), .int p1].toArray below meth c H locs 0 0 Qw (F0 m 18 ls []) := by
  have hx := Z.1.1
  have hb := Z.1.2.1
  intro n18
  induction n18 with
  | zero =>
    intro k18 a18_2 t18 H locs ls hk18 hn18 It18 hw hl kk
    exact absurd hn18 (by omega)
  | succ n18 ih =>
    intro k18 a18_2 t18 H locs ls hk18 hn18 It18 hw hl kk
    refine lv_iload_n hx hb dX5_spendTicks_18 rfl (lv_at hl 0 rfl) ?_
    refine lv_iload_n hx hb dX5_spendTicks_19 rfl (lv_at hl 3 rfl) ?_
    refine lv_icmp_ge (tgt := 36) hx hb dX5_spendTicks_20 (by decide) (fun c20 => ?_) (fun c20 => ?_)
    · exact kk _ _ H locs ls (Eq.symm (congrArg (fun z : Int32 × St => z.1) (show (a18_2, t18) = _ from (lf_t c20 rfl)))) (Eq.symm (congrArg (fun z : Int32 × St => z.2) (show (a18_2, t18) = _ from (lf_t c20 rfl)))) It18 hw (lv_sub hl [1] rfl)
    · have hkb18 : k18 < 500 := kb_ge c20 hb1 hk18 (by decide)
      refine lv_iload_n hx hb dX5_spendTicks_23 rfl (lv_at hl 1 rfl) ?_
      refine lv_aload_n hx hb dX5_spendTicks_24 rfl (lv_at hl 2 rfl) ?_
      refine bk_i (rnV (rest := [.int a18_2]) Z hw (k_X5_tick  It18) v_X5_tick q_2_217 (0) (by decide) rfl rfl rfl rfl hl.1 rfl rfl (Nat.le_of_ble_eq_true rfl) ⟨(Nat.le_of_ble_eq_true rfl), (Nat.le_of_ble_eq_true rfl)⟩ ⟨(Nat.le_of_ble_eq_true rfl), (Nat.le_of_ble_eq_true rfl)⟩ dX5_spendTicks_25) hw Z (fun r25 s25 H locs hp hw => ?_)
      obtain ⟨er25, es25, I25⟩ := hp
      refine lv_iadd hx hb dX5_spendTicks_28 ?_
      refine lv_istore_n (lv' := [(2, .int (a18_2 + r25)), (3, .int (nI k18)), (0, .ref (ad 0)), (1, .int p1)]) hx hb dX5_spendTicks_29 rfl hl (by decide) rfl (fun ls hl => ?_)
      refine lv_iinc (v := nI (k18 + 1)) (lv' := [(3, .int (nI (k18 + 1))), (2, .int (a18_2 + r25)), (0, .ref (ad 0)), (1, .int p1)]) hx hb dX5_spendTicks_30 hl (k := 1) rfl (nI_1 _) (by decide) rfl (fun ls hl => ?_)
      refine lv_goto (tgt := 18) hx hb dX5_spendTicks_33 (by decide) ?_
      exact ih (k18 + 1) (a18_2 + r25) s25 H locs ls (by omega) (by omega) I25 hw (lv_sub hl [0, 1, 2, 3] rfl) (fun w18_2 u18 H locs ls ew18_2 eu18 I18 hw hl => kk w18_2 u18 H locs ls (Eq.trans (Eq.symm (congrArg (fun z : Int32 × St => z.1) (show (f_X5_spendTicks_l18 p1 n18 (k18 + 1) (a18_2 + r25) s25) = _ from (by subst es25 er25; exact (lf_f c20 rfl))))) ew18_2) (Eq.trans (Eq.symm (congrArg (fun z : Int32 × St => z.2) (show (f_X5_spendTicks_l18 p1 n18 (k18 + 1) (a18_2 + r25) s25) = _ from (by subst es25 er25; exact (lf_f c20 rfl))))) eu18) I18 hw hl)
set_option maxHeartbeats 4000000 in
set_option maxRecDepth 100000 in
theorem k_X5_spendTicks {l : Launch} {D : va_G} {T : Nat → ClassId} {g ad : Nat → Nat} {σ : St} {p1 : Int32} (I0 : InvC σ) : mX l yX5_spendTicks cX5_spendTicks 4 (some (.int)) rmX5_spendTicks D T g 57 ad (cE (mE T ad) σ) [.ref (ad 0), .int p1] (qI D 57 ad (mE T ad) (pI (f_X5_spendTicks σ p1) InvC)) := by
  refine mX.of (own := "NestedBells$Machine") (by decide +kernel) (Nat.le_of_ble_eq_true rfl) rfl ?_
  intro p e s m below meth c A ls H locs Z hr hlk _ hw hl
  have hx := Z.1.1
  have hb := Z.1.2.1
  have hl : lv_has ls 4 [(0, .ref (ad 0)), (1, .int p1)] := hl
  refine lv_iload_n hx hb dX5_spendTicks_0 rfl (lv_at hl 1 rfl) ?_
  refine lv_iconst (v := 1) hx hb dX5_spendTicks_1 (by decide +kernel) ?_
  refine lv_sipush (v := 500) hx hb dX5_spendTicks_2 (by decide +kernel) ?_
  refine bk_ip (rnSN (rest := []) Z hw (k_X8_isWithin (p1 := p1) (p2 := 1) (p3 := 500) ) v_X8_isWithin Z.2.2.2.1.1.2.2.2 hl.1 rfl rfl (Nat.le_of_ble_eq_true rfl) ⟨(Nat.le_of_ble_eq_true rfl), (Nat.le_of_ble_eq_true rfl)⟩ ⟨(Nat.le_of_ble_eq_true rfl), (Nat.le_of_ble_eq_true rfl)⟩ dX5_spendTicks_5) hw Z (fun r5 er5 H locs hw => ?_)
  refine lv_if_ne (tgt := 14) hx hb dX5_spendTicks_8 (by decide) (fun c8 => ?_) (fun c8 => ?_)
  · refine lv_iconst (v := 0) hx hb dX5_spendTicks_14 (by decide +kernel) ?_
    refine lv_istore_n (lv' := [(2, .int 0), (0, .ref (ad 0)), (1, .int p1)]) hx hb dX5_spendTicks_15 rfl hl (by decide) rfl (fun ls hl => ?_)
    refine lv_iconst (v := 0) hx hb dX5_spendTicks_16 (by decide +kernel) ?_
    refine lv_istore_n (lv' := [(3, .int 0), (2, .int 0), (0, .ref (ad 0)), (1, .int p1)]) hx hb dX5_spendTicks_17 rfl hl (by decide) rfl (fun ls hl => ?_)
    refine L_X5_spendTicks_18 (p1 := p1) Z (isw_hi er5 c8 (by decide)) fu501 0 0 σ H locs ls (by omega) (by unfold fu501; omega) I0 hw (lv_sub hl [0, 1, 2, 3] rfl) (fun w18_2 u18 H locs ls ew18_2 eu18 I18 hw hl => ?_)
    refine lv_iload_n hx hb dX5_spendTicks_36 rfl (lv_at hl 0 rfl) ?_
    exact rt_i Z hr hlk hw dX5_spendTicks_37 (pI.mk (by subst eu18 ew18_2 er5; exact (lf_f c8 rfl)) I18)
  · refine lv_bipush (v := (-2)) hx hb dX5_spendTicks_11 (by decide +kernel) ?_
    exact rt_i Z hr hlk hw dX5_spendTicks_13 (pI.mk (by subst er5; exact (lf_t c8 rfl)) I0)
