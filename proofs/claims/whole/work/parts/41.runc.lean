abbrev rmX8_carryOut : Room := { frames := 5, cells := 0, slots := 0, locals := 111 }
def f_X8_carryOut (σ : St) (i : Nat) : Int32 × St := (if (enMap i) = 1 then (let r67 := (f_X5_makeSource (sb (gmM 0) σ) (σ 5 0) 0 (σ 5 1)).1; let u67 : St := (f_X5_makeSource (sb (gmM 0) σ) (σ 5 0) 0 (σ 5 1)).2; (r67, mg (giM 0) σ u67)) else (if (enMap i) = 2 then (let r82 := (f_X5_makeSource (sb (gmM 0) σ) (σ 5 0) 1 (σ 5 1)).1; let u82 : St := (f_X5_makeSource (sb (gmM 0) σ) (σ 5 0) 1 (σ 5 1)).2; (r82, mg (giM 0) σ u82)) else (if (enMap i) = 3 then (let r102 := (f_X5_makeSection (sb (gmM 0) σ) (σ 5 0) (σ 5 1) (σ 5 2) (σ 5 3)).1; let u102 : St := (f_X5_makeSection (sb (gmM 0) σ) (σ 5 0) (σ 5 1) (σ 5 2) (σ 5 3)).2; (r102, mg (giM 0) σ u102)) else (if (enMap i) = 4 then (let r119 := (f_X5_changeTimer (sb (gmM 0) σ) (σ 5 0) (σ 5 1) (σ 5 2)).1; let u119 : St := (f_X5_changeTimer (sb (gmM 0) σ) (σ 5 0) (σ 5 1) (σ 5 2)).2; (r119, mg (giM 0) σ u119)) else (if (enMap i) = 5 then (let r130 := (f_X5_raiseSource (sb (gmM 0) σ) (σ 5 0)).1; let u130 : St := (f_X5_raiseSource (sb (gmM 0) σ) (σ 5 0)).2; (r130, mg (giM 0) σ u130)) else (if (enMap i) = 6 then (let r142 := (f_X5_changeLine (sb (gmM 0) σ) (σ 5 0) 1).1; let u142 : St := (f_X5_changeLine (sb (gmM 0) σ) (σ 5 0) 1).2; (r142, mg (giM 0) σ u142)) else (if (enMap i) = 7 then (let r154 := (f_X5_changeLine (sb (gmM 0) σ) (σ 5 0) 0).1; let u154 : St := (f_X5_changeLine (sb (gmM 0) σ) (σ 5 0) 0).2; (r154, mg (giM 0) σ u154)) else (if (enMap i) = 8 then (let r168 := (f_X5_changeSetting (sb (gmM 0) σ) (σ 5 0) (σ 5 1)).1; let u168 : St := (f_X5_changeSetting (sb (gmM 0) σ) (σ 5 0) (σ 5 1)).2; (r168, mg (giM 0) σ u168)) else (let r179 := (f_X5_spendTicks (sb (gmM 0) σ) (σ 5 0)).1; let u179 : St := (f_X5_spendTicks (sb (gmM 0) σ) (σ 5 0)).2; (r179, mg (giM 0) σ u179))))))))))
theorem v_X8_carryOut : cvV yX8_carryOut "NestedBells" cX8_carryOut 3 (some (.int)) 2 := ⟨q_2_160, s_6, q_1_1, q_2_161, rfl, by decide +kernel, by decide +kernel, by decide +kernel⟩
set_option maxHeartbeats 4000000 in
set_option maxRecDepth 100000 in
theorem k_X8_carryOut {l : Launch} {D : va_G} {T : Nat → ClassId} {g ad : Nat → Nat} {σ : St} {i : Nat} (I0 : InvB σ) (hi : i < 9) : mX l yX8_carryOut cX8_carryOut 3 (some (.int)) rmX8_carryOut D T g 405 ad (cE (bE g T ad) σ) [.ref (ad 0), .ref (g i), .ref (ad 5)] (qI D 405 ad (bE g T ad) (pI (f_X8_carryOut σ i) InvB)) := by
  refine mX.of (own := "NestedBells") (by decide +kernel) (Nat.le_of_ble_eq_true rfl) rfl ?_
  intro p e s m below meth c A ls H locs Z hr hlk _ hw hl
  have hx := Z.1.1
  have hb := Z.1.2.1
  have hl : lv_has ls 3 [(0, .ref (ad 0)), (1, .ref (g i)), (2, .ref (ad 5))] := hl
  refine va_gets hx hb Z.2.2.2.2.2.2.2.2.2.2.1 hw.2.2 Z.1.2.2.2.1 (Z.1.2.2.2.2 _ q_2_162) (fun _ h => h) dX8_carryOut_0 ?_
  refine lv_aload_n hx hb dX8_carryOut_3 rfl (lv_at hl 1 rfl) ?_
  refine bk_ip (rnU (rest := [.ref (g 28)]) Z hw (k_ordinal (i := i) hi) v_ordinal q_2_164 q_2_165 (va_recvEc Z.2.2.2.2.2.2.1 hi hw.2.2) hl.1 rfl rfl (Nat.le_of_ble_eq_true rfl) ⟨(Nat.le_of_ble_eq_true rfl), (Nat.le_of_ble_eq_true rfl)⟩ ⟨(Nat.le_of_ble_eq_true rfl), (Nat.le_of_ble_eq_true rfl)⟩ dX8_carryOut_4) hw Z (fun r4 er4 H locs hw => ?_)
  subst er4
  refine va_ti hx hb Z.2.2.2.2.2.2.2.2.2.2.2.1 hw.2.2 (vp_in_nI hi (by decide)) (v := .int (enMap i)) (sm_at hi) dX8_carryOut_7 ?_
  rcases Decidable.em ((enMap i) = 1) with c8_1 | c8_1
  · refine lv_tableIn (off := 48) (tgt := 56) hx hb dX8_carryOut_8 (by rw [c8_1]; decide +kernel) (by rw [c8_1]; decide +kernel) (by rw [c8_1]; rfl) (by decide) ?_
    refine lv_aload_n hx hb dX8_carryOut_56 rfl (lv_at hl 0 rfl) ?_
    refine gO (C := "NestedBells") (TC := TX8) (NF := 5) (ci := 6) (j := 0) (v := .ref (ad 6)) Z hw (0) (by decide) rfl (fun _ => rfl) rfl iX8 (by decide) q_2_18 rfl rfl dX8_carryOut_57 ?_
    refine lv_aload_n hx hb dX8_carryOut_60 rfl (lv_at hl 2 rfl) ?_
    refine lv_iconst (v := 0) hx hb dX8_carryOut_61 (by decide +kernel) ?_
    refine aE (v := σ 5 0) Z hw 5 (by decide) rfl (fun _ => rfl) (vp_in_nI (n := 0) (by decide) (by decide)) ((congrArg (σ 5) (nI_clamp (n := 0) (by decide))).trans rfl) dX8_carryOut_62 ?_
    refine lv_iconst (v := 0) hx hb dX8_carryOut_63 (by decide +kernel) ?_
    refine lv_aload_n hx hb dX8_carryOut_64 rfl (lv_at hl 2 rfl) ?_
    refine lv_iconst (v := 1) hx hb dX8_carryOut_65 (by decide +kernel) ?_
    refine aE (v := σ 5 1) Z hw 5 (by decide) rfl (fun _ => rfl) (vp_in_nI (n := 1) (by decide) (by decide)) ((congrArg (σ 5) (nI_clamp (n := 1) (by decide))).trans rfl) dX8_carryOut_66 ?_
    refine bs_i (prtM (g := g) (T := T) (ad := ad) (q := 0) (by decide)) (rnV (rest := []) Z ((prtM (g := g) (T := T) (ad := ad) (q := 0) (by decide)).sub hw) (k_X5_makeSource (p1 := σ 5 0) (p2 := 0) (p3 := σ 5 1) (I0.2.2.2 0 (by decide))) v_X5_makeSource q_2_170 0 (by decide) rfl rfl rfl rfl hl.1 rfl rfl (Nat.le_of_ble_eq_true rfl) ⟨(Nat.le_of_ble_eq_true rfl), (Nat.le_of_ble_eq_true rfl)⟩ ⟨(Nat.le_of_ble_eq_true rfl), (Nat.le_of_ble_eq_true rfl)⟩ dX8_carryOut_67) hw Z (fun r67 u67 H locs hp hw => ?_)
    obtain ⟨er67, es67, I67⟩ := hp
    exact rt_i Z hr hlk hw dX8_carryOut_70 (pI.mk (by subst es67 er67; exact (lf_t c8_1 rfl)) (InvB.mach (q := 0) (by decide) I67 I0))
  · rcases Decidable.em ((enMap i) = 2) with c8_2 | c8_2
    · refine lv_tableIn (off := 63) (tgt := 71) hx hb dX8_carryOut_8 (by rw [c8_2]; decide +kernel) (by rw [c8_2]; decide +kernel) (by rw [c8_2]; rfl) (by decide) ?_
      refine lv_aload_n hx hb dX8_carryOut_71 rfl (lv_at hl 0 rfl) ?_
      refine gO (C := "NestedBells") (TC := TX8) (NF := 5) (ci := 6) (j := 0) (v := .ref (ad 6)) Z hw (0) (by decide) rfl (fun _ => rfl) rfl iX8 (by decide) q_2_18 rfl rfl dX8_carryOut_72 ?_
      refine lv_aload_n hx hb dX8_carryOut_75 rfl (lv_at hl 2 rfl) ?_
      refine lv_iconst (v := 0) hx hb dX8_carryOut_76 (by decide +kernel) ?_
      refine aE (v := σ 5 0) Z hw 5 (by decide) rfl (fun _ => rfl) (vp_in_nI (n := 0) (by decide) (by decide)) ((congrArg (σ 5) (nI_clamp (n := 0) (by decide))).trans rfl) dX8_carryOut_77 ?_
      refine lv_iconst (v := 1) hx hb dX8_carryOut_78 (by decide +kernel) ?_
      refine lv_aload_n hx hb dX8_carryOut_79 rfl (lv_at hl 2 rfl) ?_
      refine lv_iconst (v := 1) hx hb dX8_carryOut_80 (by decide +kernel) ?_
      refine aE (v := σ 5 1) Z hw 5 (by decide) rfl (fun _ => rfl) (vp_in_nI (n := 1) (by decide) (by decide)) ((congrArg (σ 5) (nI_clamp (n := 1) (by decide))).trans rfl) dX8_carryOut_81 ?_
      refine bs_i (prtM (g := g) (T := T) (ad := ad) (q := 0) (by decide)) (rnV (rest := []) Z ((prtM (g := g) (T := T) (ad := ad) (q := 0) (by decide)).sub hw) (k_X5_makeSource (p1 := σ 5 0) (p2 := 1) (p3 := σ 5 1) (I0.2.2.2 0 (by decide))) v_X5_makeSource q_2_170 0 (by decide) rfl rfl rfl rfl hl.1 rfl rfl (Nat.le_of_ble_eq_true rfl) ⟨(Nat.le_of_ble_eq_true rfl), (Nat.le_of_ble_eq_true rfl)⟩ ⟨(Nat.le_of_ble_eq_true rfl), (Nat.le_of_ble_eq_true rfl)⟩ dX8_carryOut_82) hw Z (fun r82 u82 H locs hp hw => ?_)
      obtain ⟨er82, es82, I82⟩ := hp
      exact rt_i Z hr hlk hw dX8_carryOut_85 (pI.mk (by subst es82 er82; exact (lf_f c8_1 (lf_t c8_2 rfl))) (InvB.mach (q := 0) (by decide) I82 I0))
    · rcases Decidable.em ((enMap i) = 3) with c8_3 | c8_3
      · refine lv_tableIn (off := 78) (tgt := 86) hx hb dX8_carryOut_8 (by rw [c8_3]; decide +kernel) (by rw [c8_3]; decide +kernel) (by rw [c8_3]; rfl) (by decide) ?_
        refine lv_aload_n hx hb dX8_carryOut_86 rfl (lv_at hl 0 rfl) ?_
        refine gO (C := "NestedBells") (TC := TX8) (NF := 5) (ci := 6) (j := 0) (v := .ref (ad 6)) Z hw (0) (by decide) rfl (fun _ => rfl) rfl iX8 (by decide) q_2_18 rfl rfl dX8_carryOut_87 ?_
        refine lv_aload_n hx hb dX8_carryOut_90 rfl (lv_at hl 2 rfl) ?_
        refine lv_iconst (v := 0) hx hb dX8_carryOut_91 (by decide +kernel) ?_
        refine aE (v := σ 5 0) Z hw 5 (by decide) rfl (fun _ => rfl) (vp_in_nI (n := 0) (by decide) (by decide)) ((congrArg (σ 5) (nI_clamp (n := 0) (by decide))).trans rfl) dX8_carryOut_92 ?_
        refine lv_aload_n hx hb dX8_carryOut_93 rfl (lv_at hl 2 rfl) ?_
        refine lv_iconst (v := 1) hx hb dX8_carryOut_94 (by decide +kernel) ?_
        refine aE (v := σ 5 1) Z hw 5 (by decide) rfl (fun _ => rfl) (vp_in_nI (n := 1) (by decide) (by decide)) ((congrArg (σ 5) (nI_clamp (n := 1) (by decide))).trans rfl) dX8_carryOut_95 ?_
        refine lv_aload_n hx hb dX8_carryOut_96 rfl (lv_at hl 2 rfl) ?_
        refine lv_iconst (v := 2) hx hb dX8_carryOut_97 (by decide +kernel) ?_
        refine aE (v := σ 5 2) Z hw 5 (by decide) rfl (fun _ => rfl) (vp_in_nI (n := 2) (by decide) (by decide)) ((congrArg (σ 5) (nI_clamp (n := 2) (by decide))).trans rfl) dX8_carryOut_98 ?_
        refine lv_aload_n hx hb dX8_carryOut_99 rfl (lv_at hl 2 rfl) ?_
        refine lv_iconst (v := 3) hx hb dX8_carryOut_100 (by decide +kernel) ?_
        refine aE (v := σ 5 3) Z hw 5 (by decide) rfl (fun _ => rfl) (vp_in_nI (n := 3) (by decide) (by decide)) ((congrArg (σ 5) (nI_clamp (n := 3) (by decide))).trans rfl) dX8_carryOut_101 ?_
        refine bs_i (prtM (g := g) (T := T) (ad := ad) (q := 0) (by decide)) (rnV (rest := []) Z ((prtM (g := g) (T := T) (ad := ad) (q := 0) (by decide)).sub hw) (k_X5_makeSection (p1 := σ 5 0) (p2 := σ 5 1) (p3 := σ 5 2) (p4 := σ 5 3) (I0.2.2.2 0 (by decide))) v_X5_makeSection q_2_177 0 (by decide) rfl rfl rfl rfl hl.1 rfl rfl (Nat.le_of_ble_eq_true rfl) ⟨(Nat.le_of_ble_eq_true rfl), (Nat.le_of_ble_eq_true rfl)⟩ ⟨(Nat.le_of_ble_eq_true rfl), (Nat.le_of_ble_eq_true rfl)⟩ dX8_carryOut_102) hw Z (fun r102 u102 H locs hp hw => ?_)
        obtain ⟨er102, es102, I102⟩ := hp
        exact rt_i Z hr hlk hw dX8_carryOut_105 (pI.mk (by subst es102 er102; exact (lf_f c8_1 (lf_f c8_2 (lf_t c8_3 rfl)))) (InvB.mach (q := 0) (by decide) I102 I0))
      · rcases Decidable.em ((enMap i) = 4) with c8_4 | c8_4
        · refine lv_tableIn (off := 98) (tgt := 106) hx hb dX8_carryOut_8 (by rw [c8_4]; decide +kernel) (by rw [c8_4]; decide +kernel) (by rw [c8_4]; rfl) (by decide) ?_
          refine lv_aload_n hx hb dX8_carryOut_106 rfl (lv_at hl 0 rfl) ?_
          refine gO (C := "NestedBells") (TC := TX8) (NF := 5) (ci := 6) (j := 0) (v := .ref (ad 6)) Z hw (0) (by decide) rfl (fun _ => rfl) rfl iX8 (by decide) q_2_18 rfl rfl dX8_carryOut_107 ?_
          refine lv_aload_n hx hb dX8_carryOut_110 rfl (lv_at hl 2 rfl) ?_
          refine lv_iconst (v := 0) hx hb dX8_carryOut_111 (by decide +kernel) ?_
          refine aE (v := σ 5 0) Z hw 5 (by decide) rfl (fun _ => rfl) (vp_in_nI (n := 0) (by decide) (by decide)) ((congrArg (σ 5) (nI_clamp (n := 0) (by decide))).trans rfl) dX8_carryOut_112 ?_
          refine lv_aload_n hx hb dX8_carryOut_113 rfl (lv_at hl 2 rfl) ?_
          refine lv_iconst (v := 1) hx hb dX8_carryOut_114 (by decide +kernel) ?_
          refine aE (v := σ 5 1) Z hw 5 (by decide) rfl (fun _ => rfl) (vp_in_nI (n := 1) (by decide) (by decide)) ((congrArg (σ 5) (nI_clamp (n := 1) (by decide))).trans rfl) dX8_carryOut_115 ?_
          refine lv_aload_n hx hb dX8_carryOut_116 rfl (lv_at hl 2 rfl) ?_
          refine lv_iconst (v := 2) hx hb dX8_carryOut_117 (by decide +kernel) ?_
          refine aE (v := σ 5 2) Z hw 5 (by decide) rfl (fun _ => rfl) (vp_in_nI (n := 2) (by decide) (by decide)) ((congrArg (σ 5) (nI_clamp (n := 2) (by decide))).trans rfl) dX8_carryOut_118 ?_
          refine bs_i (prtM (g := g) (T := T) (ad := ad) (q := 0) (by decide)) (rnV (rest := []) Z ((prtM (g := g) (T := T) (ad := ad) (q := 0) (by decide)).sub hw) (k_X5_changeTimer (p1 := σ 5 0) (p2 := σ 5 1) (p3 := σ 5 2) (I0.2.2.2 0 (by decide))) v_X5_changeTimer q_2_189 0 (by decide) rfl rfl rfl rfl hl.1 rfl rfl (Nat.le_of_ble_eq_true rfl) ⟨(Nat.le_of_ble_eq_true rfl), (Nat.le_of_ble_eq_true rfl)⟩ ⟨(Nat.le_of_ble_eq_true rfl), (Nat.le_of_ble_eq_true rfl)⟩ dX8_carryOut_119) hw Z (fun r119 u119 H locs hp hw => ?_)
          obtain ⟨er119, es119, I119⟩ := hp
          exact rt_i Z hr hlk hw dX8_carryOut_122 (pI.mk (by subst es119 er119; exact (lf_f c8_1 (lf_f c8_2 (lf_f c8_3 (lf_t c8_4 rfl))))) (InvB.mach (q := 0) (by decide) I119 I0))
        · rcases Decidable.em ((enMap i) = 5) with c8_5 | c8_5
          · refine lv_tableIn (off := 115) (tgt := 123) hx hb dX8_carryOut_8 (by rw [c8_5]; decide +kernel) (by rw [c8_5]; decide +kernel) (by rw [c8_5]; rfl) (by decide) ?_
            refine lv_aload_n hx hb dX8_carryOut_123 rfl (lv_at hl 0 rfl) ?_
            refine gO (C := "NestedBells") (TC := TX8) (NF := 5) (ci := 6) (j := 0) (v := .ref (ad 6)) Z hw (0) (by decide) rfl (fun _ => rfl) rfl iX8 (by decide) q_2_18 rfl rfl dX8_carryOut_124 ?_
            refine lv_aload_n hx hb dX8_carryOut_127 rfl (lv_at hl 2 rfl) ?_
            refine lv_iconst (v := 0) hx hb dX8_carryOut_128 (by decide +kernel) ?_
            refine aE (v := σ 5 0) Z hw 5 (by decide) rfl (fun _ => rfl) (vp_in_nI (n := 0) (by decide) (by decide)) ((congrArg (σ 5) (nI_clamp (n := 0) (by decide))).trans rfl) dX8_carryOut_129 ?_
            refine bs_i (prtM (g := g) (T := T) (ad := ad) (q := 0) (by decide)) (rnV (rest := []) Z ((prtM (g := g) (T := T) (ad := ad) (q := 0) (by decide)).sub hw) (k_X5_raiseSource (p1 := σ 5 0) (I0.2.2.2 0 (by decide))) v_X5_raiseSource q_2_193 0 (by decide) rfl rfl rfl rfl hl.1 rfl rfl (Nat.le_of_ble_eq_true rfl) ⟨(Nat.le_of_ble_eq_true rfl), (Nat.le_of_ble_eq_true rfl)⟩ ⟨(Nat.le_of_ble_eq_true rfl), (Nat.le_of_ble_eq_true rfl)⟩ dX8_carryOut_130) hw Z (fun r130 u130 H locs hp hw => ?_)
            obtain ⟨er130, es130, I130⟩ := hp
            exact rt_i Z hr hlk hw dX8_carryOut_133 (pI.mk (by subst es130 er130; exact (lf_f c8_1 (lf_f c8_2 (lf_f c8_3 (lf_f c8_4 (lf_t c8_5 rfl)))))) (InvB.mach (q := 0) (by decide) I130 I0))
          · rcases Decidable.em ((enMap i) = 6) with c8_6 | c8_6
            · refine lv_tableIn (off := 126) (tgt := 134) hx hb dX8_carryOut_8 (by rw [c8_6]; decide +kernel) (by rw [c8_6]; decide +kernel) (by rw [c8_6]; rfl) (by decide) ?_
              refine lv_aload_n hx hb dX8_carryOut_134 rfl (lv_at hl 0 rfl) ?_
              refine gO (C := "NestedBells") (TC := TX8) (NF := 5) (ci := 6) (j := 0) (v := .ref (ad 6)) Z hw (0) (by decide) rfl (fun _ => rfl) rfl iX8 (by decide) q_2_18 rfl rfl dX8_carryOut_135 ?_
              refine lv_aload_n hx hb dX8_carryOut_138 rfl (lv_at hl 2 rfl) ?_
              refine lv_iconst (v := 0) hx hb dX8_carryOut_139 (by decide +kernel) ?_
              refine aE (v := σ 5 0) Z hw 5 (by decide) rfl (fun _ => rfl) (vp_in_nI (n := 0) (by decide) (by decide)) ((congrArg (σ 5) (nI_clamp (n := 0) (by decide))).trans rfl) dX8_carryOut_140 ?_
              refine lv_iconst (v := 1) hx hb dX8_carryOut_141 (by decide +kernel) ?_
              refine bs_i (prtM (g := g) (T := T) (ad := ad) (q := 0) (by decide)) (rnV (rest := []) Z ((prtM (g := g) (T := T) (ad := ad) (q := 0) (by decide)).sub hw) (k_X5_changeLine (p1 := σ 5 0) (p2 := 1) (I0.2.2.2 0 (by decide)) (by decide)) v_X5_changeLine q_2_205 0 (by decide) rfl rfl rfl rfl hl.1 rfl rfl (Nat.le_of_ble_eq_true rfl) ⟨(Nat.le_of_ble_eq_true rfl), (Nat.le_of_ble_eq_true rfl)⟩ ⟨(Nat.le_of_ble_eq_true rfl), (Nat.le_of_ble_eq_true rfl)⟩ dX8_carryOut_142) hw Z (fun r142 u142 H locs hp hw => ?_)
              obtain ⟨er142, es142, I142⟩ := hp
              exact rt_i Z hr hlk hw dX8_carryOut_145 (pI.mk (by subst es142 er142; exact (lf_f c8_1 (lf_f c8_2 (lf_f c8_3 (lf_f c8_4 (lf_f c8_5 (lf_t c8_6 rfl))))))) (InvB.mach (q := 0) (by decide) I142 I0))
            · rcases Decidable.em ((enMap i) = 7) with c8_7 | c8_7
              · refine lv_tableIn (off := 138) (tgt := 146) hx hb dX8_carryOut_8 (by rw [c8_7]; decide +kernel) (by rw [c8_7]; decide +kernel) (by rw [c8_7]; rfl) (by decide) ?_
                refine lv_aload_n hx hb dX8_carryOut_146 rfl (lv_at hl 0 rfl) ?_
                refine gO (C := "NestedBells") (TC := TX8) (NF := 5) (ci := 6) (j := 0) (v := .ref (ad 6)) Z hw (0) (by decide) rfl (fun _ => rfl) rfl iX8 (by decide) q_2_18 rfl rfl dX8_carryOut_147 ?_
                refine lv_aload_n hx hb dX8_carryOut_150 rfl (lv_at hl 2 rfl) ?_
                refine lv_iconst (v := 0) hx hb dX8_carryOut_151 (by decide +kernel) ?_
                refine aE (v := σ 5 0) Z hw 5 (by decide) rfl (fun _ => rfl) (vp_in_nI (n := 0) (by decide) (by decide)) ((congrArg (σ 5) (nI_clamp (n := 0) (by decide))).trans rfl) dX8_carryOut_152 ?_
                refine lv_iconst (v := 0) hx hb dX8_carryOut_153 (by decide +kernel) ?_
                refine bs_i (prtM (g := g) (T := T) (ad := ad) (q := 0) (by decide)) (rnV (rest := []) Z ((prtM (g := g) (T := T) (ad := ad) (q := 0) (by decide)).sub hw) (k_X5_changeLine (p1 := σ 5 0) (p2 := 0) (I0.2.2.2 0 (by decide)) (by decide)) v_X5_changeLine q_2_205 0 (by decide) rfl rfl rfl rfl hl.1 rfl rfl (Nat.le_of_ble_eq_true rfl) ⟨(Nat.le_of_ble_eq_true rfl), (Nat.le_of_ble_eq_true rfl)⟩ ⟨(Nat.le_of_ble_eq_true rfl), (Nat.le_of_ble_eq_true rfl)⟩ dX8_carryOut_154) hw Z (fun r154 u154 H locs hp hw => ?_)
                obtain ⟨er154, es154, I154⟩ := hp
                exact rt_i Z hr hlk hw dX8_carryOut_157 (pI.mk (by subst es154 er154; exact (lf_f c8_1 (lf_f c8_2 (lf_f c8_3 (lf_f c8_4 (lf_f c8_5 (lf_f c8_6 (lf_t c8_7 rfl)))))))) (InvB.mach (q := 0) (by decide) I154 I0))
              · rcases Decidable.em ((enMap i) = 8) with c8_8 | c8_8
                · refine lv_tableIn (off := 150) (tgt := 158) hx hb dX8_carryOut_8 (by rw [c8_8]; decide +kernel) (by rw [c8_8]; decide +kernel) (by rw [c8_8]; rfl) (by decide) ?_
                  refine lv_aload_n hx hb dX8_carryOut_158 rfl (lv_at hl 0 rfl) ?_
                  refine gO (C := "NestedBells") (TC := TX8) (NF := 5) (ci := 6) (j := 0) (v := .ref (ad 6)) Z hw (0) (by decide) rfl (fun _ => rfl) rfl iX8 (by decide) q_2_18 rfl rfl dX8_carryOut_159 ?_
                  refine lv_aload_n hx hb dX8_carryOut_162 rfl (lv_at hl 2 rfl) ?_
                  refine lv_iconst (v := 0) hx hb dX8_carryOut_163 (by decide +kernel) ?_
                  refine aE (v := σ 5 0) Z hw 5 (by decide) rfl (fun _ => rfl) (vp_in_nI (n := 0) (by decide) (by decide)) ((congrArg (σ 5) (nI_clamp (n := 0) (by decide))).trans rfl) dX8_carryOut_164 ?_
                  refine lv_aload_n hx hb dX8_carryOut_165 rfl (lv_at hl 2 rfl) ?_
                  refine lv_iconst (v := 1) hx hb dX8_carryOut_166 (by decide +kernel) ?_
                  refine aE (v := σ 5 1) Z hw 5 (by decide) rfl (fun _ => rfl) (vp_in_nI (n := 1) (by decide) (by decide)) ((congrArg (σ 5) (nI_clamp (n := 1) (by decide))).trans rfl) dX8_carryOut_167 ?_
                  refine bs_i (prtM (g := g) (T := T) (ad := ad) (q := 0) (by decide)) (rnV (rest := []) Z ((prtM (g := g) (T := T) (ad := ad) (q := 0) (by decide)).sub hw) (k_X5_changeSetting (p1 := σ 5 0) (p2 := σ 5 1) (I0.2.2.2 0 (by decide))) v_X5_changeSetting q_2_209 0 (by decide) rfl rfl rfl rfl hl.1 rfl rfl (Nat.le_of_ble_eq_true rfl) ⟨(Nat.le_of_ble_eq_true rfl), (Nat.le_of_ble_eq_true rfl)⟩ ⟨(Nat.le_of_ble_eq_true rfl), (Nat.le_of_ble_eq_true rfl)⟩ dX8_carryOut_168) hw Z (fun r168 u168 H locs hp hw => ?_)
                  obtain ⟨er168, es168, I168⟩ := hp
                  exact rt_i Z hr hlk hw dX8_carryOut_171 (pI.mk (by subst es168 er168; exact (lf_f c8_1 (lf_f c8_2 (lf_f c8_3 (lf_f c8_4 (lf_f c8_5 (lf_f c8_6 (lf_f c8_7 (lf_t c8_8 rfl))))))))) (InvB.mach (q := 0) (by decide) I168 I0))
                · refine lv_tableOut (tgt := 172) hx hb dX8_carryOut_8 (by have t1 := lv_neT (a := 1) c8_1 (by decide +kernel); have t2 := lv_neT (a := 2) c8_2 (by decide +kernel); have t3 := lv_neT (a := 3) c8_3 (by decide +kernel); have t4 := lv_neT (a := 4) c8_4 (by decide +kernel); have t5 := lv_neT (a := 5) c8_5 (by decide +kernel); have t6 := lv_neT (a := 6) c8_6 (by decide +kernel); have t7 := lv_neT (a := 7) c8_7 (by decide +kernel); have t8 := lv_neT (a := 8) c8_8 (by decide +kernel); omega) (by decide) ?_
                  refine lv_aload_n hx hb dX8_carryOut_172 rfl (lv_at hl 0 rfl) ?_
                  refine gO (C := "NestedBells") (TC := TX8) (NF := 5) (ci := 6) (j := 0) (v := .ref (ad 6)) Z hw (0) (by decide) rfl (fun _ => rfl) rfl iX8 (by decide) q_2_18 rfl rfl dX8_carryOut_173 ?_
                  refine lv_aload_n hx hb dX8_carryOut_176 rfl (lv_at hl 2 rfl) ?_
                  refine lv_iconst (v := 0) hx hb dX8_carryOut_177 (by decide +kernel) ?_
                  refine aE (v := σ 5 0) Z hw 5 (by decide) rfl (fun _ => rfl) (vp_in_nI (n := 0) (by decide) (by decide)) ((congrArg (σ 5) (nI_clamp (n := 0) (by decide))).trans rfl) dX8_carryOut_178 ?_
                  refine bs_i (prtM (g := g) (T := T) (ad := ad) (q := 0) (by decide)) (rnV (rest := []) Z ((prtM (g := g) (T := T) (ad := ad) (q := 0) (by decide)).sub hw) (k_X5_spendTicks (p1 := σ 5 0) (I0.2.2.2 0 (by decide))) v_X5_spendTicks q_2_213 0 (by decide) rfl rfl rfl rfl hl.1 rfl rfl (Nat.le_of_ble_eq_true rfl) ⟨(Nat.le_of_ble_eq_true rfl), (Nat.le_of_ble_eq_true rfl)⟩ ⟨(Nat.le_of_ble_eq_true rfl), (Nat.le_of_ble_eq_true rfl)⟩ dX8_carryOut_179) hw Z (fun r179 u179 H locs hp hw => ?_)
                  obtain ⟨er179, es179, I179⟩ := hp
                  exact rt_i Z hr hlk hw dX8_carryOut_182 (pI.mk (by subst es179 er179; exact (lf_f c8_1 (lf_f c8_2 (lf_f c8_3 (lf_f c8_4 (lf_f c8_5 (lf_f c8_6 (lf_f c8_7 (lf_f c8_8 rfl))))))))) (InvB.mach (q := 0) (by decide) I179 I0))
theorem rc_l : ∀ n k t, ¬ (f_X2_readCommand_l26 n k t).1 = 0 → (f_X2_readCommand_l26 n k t).2 0 4 = t 0 4
  | 0, _, _, h => absurd rfl h
  | n + 1, k, t, h => by
    by_cases c : enN ((t 0 4).toNatClampNeg) ≤ nI k
    · have e : f_X2_readCommand_l26 (n + 1) k t = _ := if_pos c
      rw [e] at h ⊢
      by_cases c2 : f_X2_byteHere (f_X2_skipSpaces t) = 59
      · have e2 := show (let s54 := f_X2_skipSpaces t; (let r58 := f_X2_byteHere s54; (if r58 = 59 then ((1 : Int32), up2 s54 0 2 ((s54 0 2) + 1)) else (0, up2 s54 0 3 (s54 0 2))))) = _ from if_pos c2
        rw [e2]
        exact (show up2 (f_X2_skipSpaces t) 0 2 (f_X2_skipSpaces t 0 2 + 1) 0 4 = f_X2_skipSpaces t 0 4 from up2_j (by decide)).trans sk_4
      · have e2 := show (let s54 := f_X2_skipSpaces t; (let r58 := f_X2_byteHere s54; (if r58 = 59 then ((1 : Int32), up2 s54 0 2 ((s54 0 2) + 1)) else (0, up2 s54 0 3 (s54 0 2))))) = _ from if_neg c2
        rw [e2] at h
        exact absurd rfl h
    · have e : f_X2_readCommand_l26 (n + 1) k t = _ := if_neg c
      rw [e] at h ⊢
      by_cases c2 : (f_X2_readNumber t (nI k)).1 = 0
      · have e2 := show (let r39 := (f_X2_readNumber t (nI k)).1; let s39 := (f_X2_readNumber t (nI k)).2; (if r39 = 0 then ((0 : Int32), s39) else (f_X2_readCommand_l26 n (k + 1) s39))) = _ from if_pos c2
        rw [e2] at h
        exact absurd rfl h
      · have e2 := show (let r39 := (f_X2_readNumber t (nI k)).1; let s39 := (f_X2_readNumber t (nI k)).2; (if r39 = 0 then ((0 : Int32), s39) else (f_X2_readCommand_l26 n (k + 1) s39))) = _ from if_neg c2
        rw [e2] at h ⊢
        exact (rc_l n (k + 1) _ h).trans (rn_4 rfl)
theorem rc_cmd {σ u : St} {r : Int32} (er : (f_X2_readCommand σ).1 = r) (h : ¬ r = 0) (es : (f_X2_readCommand σ).2 = u) : 0 ≤ (u 0 4).toInt ∧ (u 0 4).toInt < 9 := by
  subst er; subst es
  by_cases c1 : f_X2_skipSpaces σ 0 1 ≤ f_X2_skipSpaces σ 0 2
  · have e : f_X2_readCommand σ = _ := if_pos c1
    rw [e] at h
    exact absurd rfl h
  · have e : f_X2_readCommand σ = _ := if_neg c1
    rw [e] at h ⊢
    by_cases c2 : (f_X2_readWord (f_X2_skipSpaces σ)).1 = 0
    · have e2 := show (let r16 := (f_X2_readWord (f_X2_skipSpaces σ)).1; let s16 := (f_X2_readWord (f_X2_skipSpaces σ)).2; (if r16 = 0 then ((0 : Int32), s16) else (f_X2_readCommand_l26 fu5 0 s16))) = _ from if_pos c2
      rw [e2] at h
      exact absurd rfl h
    · have e2 := show (let r16 := (f_X2_readWord (f_X2_skipSpaces σ)).1; let s16 := (f_X2_readWord (f_X2_skipSpaces σ)).2; (if r16 = 0 then ((0 : Int32), s16) else (f_X2_readCommand_l26 fu5 0 s16))) = _ from if_neg c2
      rw [e2] at h ⊢
      rw [rc_l _ _ _ h]
      exact rw_cmd rfl c2 rfl

abbrev rmX8_runCommands : Room := { frames := 8, cells := 0, slots := 0, locals := 175 }
def f_X8_runCommands_l45 : Nat → Nat → Int32 → St → Int32 × St
  | 0, k45, a45_2, t45 => (a45_2, t45)
  | n45 + 1, k45, a45_2, t45 => (if 150 ≤ (nI k45) then (a45_2, t45) else (if (t45 0 4) = 0 then (let r63 := (f_X2_readCommand (sb gmX t45)).1; let u63 : St := (f_X2_readCommand (sb gmX t45)).2; (if r63 = 0 then (a45_2, mg giX t45 u63) else (let r84 := (f_X8_carryOut (mg giX t45 u63) (((mg giX t45 u63) 3 4).toNatClampNeg)).1; let s84 := (f_X8_carryOut (mg giX t45 u63) (((mg giX t45 u63) 3 4).toNatClampNeg)).2; (let w107_2 : Int32 := (if 0 ≤ r84 then a45_2 + 1 else a45_2); let s107 : St := (if 0 ≤ r84 then s84 else up2 s84 0 4 (-r84)); (f_X8_runCommands_l45 n45 (k45 + 1) w107_2 s107))))) else (a45_2, t45)))
def f_X8_runCommands (σ : St) : Int32 × St := (let r4 := (f_X2_findFault (sb gmX σ)).1; let u4 : St := (f_X2_findFault (sb gmX σ)).2; (if r4 = (-1) then (let s26 := f_X4_prepare (mg giX σ u4); (let u38 : St := f_X2_rewind (sb gmX (up2 s26 0 4 0)); (let w45_2 := (f_X8_runCommands_l45 fu151 0 0 (mg giX (up2 s26 0 4 0) u38)).1; let u45 := (f_X8_runCommands_l45 fu151 0 0 (mg giX (up2 s26 0 4 0) u38)).2; (let s117 := f_X4_keep u45; (w45_2, s117))))) else ((-10) - r4, mg giX σ u4)))
theorem v_X8_runCommands : cvV yX8_runCommands "NestedBells" cX8_runCommands 5 (some (.int)) 0 := ⟨q_2_43, q_2_44, q_1_1, q_2_45, rfl, by decide +kernel, by decide +kernel, by decide +kernel⟩
set_option maxHeartbeats 4000000 in
set_option maxRecDepth 100000 in
theorem L_X8_runCommands_45 {l : Launch} {D : va_G} {T : Nat → ClassId} {g ad : Nat → Nat} {p : Program} {e : Env} {s : State} {m : MethodId} {below : List Frame} {meth : Method} {c : Code} {A : Nat → Prop} {Qw : State → Prop} (Z : en p m c cX8_runCommands 5 s [.ref (ad 0)].toArray "NestedBells" D T g A) : ∀ (n45 : Nat) (k45 : Nat) (a45_2 : Int32) (t45 : St) (H : Heap) (locs : List Loc) (ls : Array Slot), k45 ≤ 150 → 150 < k45 + n45 → InvB t45 → wo D A s.heap 405 ad (cE (bE g T ad) t45) H locs → lv_has ls 5 [(3, .int (nI k45)), (2, .int a45_2), (0, .ref (ad 0))] → (∀ (w45_2 : Int32) (u45 : St) (H : Heap) (locs : List Loc) (ls : Array Slot), (f_X8_runCommands_l45 n45 k45 a45_2 t45).1 = w45_2 → (f_X8_runCommands_l45 n45 k45 a45_2 t45).2 = u45 → InvB u45 → wo D A s.heap 405 ad (cE (bE g T ad) u45) H locs → lv_has ls 5 [(2, .int w45_2), (0, .ref (ad 0))] → W p l e rmX8_runCommands s m [.ref (ad 0)].toArray below meth c H locs 0 0 Qw (F0 m 113 ls [])) → W p l e rmX8_runCommands s m [.ref (ad 0)].toArray below meth c H locs 0 0 Qw (F0 m 45 ls []) := by
  have hx := Z.1.1
  have hb := Z.1.2.1
  intro n45
  induction n45 with
  | zero =>
    intro k45 a45_2 t45 H locs ls hk45 hn45 It45 hw hl kk
    exact absurd hn45 (by omega)
  | succ n45 ih =>
    intro k45 a45_2 t45 H locs ls hk45 hn45 It45 hw hl kk
    refine lv_iload_n hx hb dX8_runCommands_45 rfl (lv_at hl 0 rfl) ?_
    refine lv_sipush (v := 150) hx hb dX8_runCommands_46 (by decide +kernel) ?_
    refine lv_icmp_ge (tgt := 113) hx hb dX8_runCommands_49 (by decide) (fun c49 => ?_) (fun c49 => ?_)
    · exact kk _ _ H locs ls (Eq.symm (congrArg (fun z : Int32 × St => z.1) (show (a45_2, t45) = _ from (lf_t c49 rfl)))) (Eq.symm (congrArg (fun z : Int32 × St => z.2) (show (a45_2, t45) = _ from (lf_t c49 rfl)))) It45 hw (lv_sub hl [1, 2] rfl)
    · have hkb45 : k45 < 150 := kb_ge c49 (by decide) hk45 (by decide)
      refine lv_aload_n hx hb dX8_runCommands_52 rfl (lv_at hl 2 rfl) ?_
      refine gO (C := "NestedBells") (TC := TX8) (NF := 5) (ci := 6) (j := 4) (v := .int (t45 0 4)) Z hw (0) (by decide) rfl (fun _ => rfl) rfl iX8 (by decide) q_2_22 rfl rfl dX8_runCommands_53 ?_
      refine lv_if_ne (tgt := 113) hx hb dX8_runCommands_56 (by decide) (fun c56 => ?_) (fun c56 => ?_)
      · exact kk _ _ H locs ls (Eq.symm (congrArg (fun z : Int32 × St => z.1) (show (a45_2, t45) = _ from (lf_f c49 (lf_f c56 rfl))))) (Eq.symm (congrArg (fun z : Int32 × St => z.2) (show (a45_2, t45) = _ from (lf_f c49 (lf_f c56 rfl))))) It45 hw (lv_sub hl [1, 2] rfl)
      · refine lv_aload_n hx hb dX8_runCommands_59 rfl (lv_at hl 2 rfl) ?_
        refine gO (C := "NestedBells") (TC := TX8) (NF := 5) (ci := 6) (j := 3) (v := .ref (ad 3)) Z hw (0) (by decide) rfl (fun _ => rfl) rfl iX8 (by decide) q_2_21 rfl rfl dX8_runCommands_60 ?_
        refine bs_i (prtX (g := g) (T := T) (ad := ad)) (rnV (rest := []) Z ((prtX (g := g) (T := T) (ad := ad)).sub hw) (k_X2_readCommand  It45.2.2.1) v_X2_readCommand q_2_157 0 (by decide) rfl rfl rfl rfl hl.1 rfl rfl (Nat.le_of_ble_eq_true rfl) ⟨(Nat.le_of_ble_eq_true rfl), (Nat.le_of_ble_eq_true rfl)⟩ ⟨(Nat.le_of_ble_eq_true rfl), (Nat.le_of_ble_eq_true rfl)⟩ dX8_runCommands_63) hw Z (fun r63 u63 H locs hp hw => ?_)
        obtain ⟨er63, es63, I63⟩ := hp
        refine lv_if_eq (tgt := 113) hx hb dX8_runCommands_66 (by decide) (fun c66 => ?_) (fun c66 => ?_)
        · exact kk _ _ H locs ls (Eq.symm (congrArg (fun z : Int32 × St => z.1) (show (a45_2, mg giX t45 u63) = _ from (by subst es63 er63; exact (lf_f c49 (lf_t c56 (lf_t c66 rfl))))))) (Eq.symm (congrArg (fun z : Int32 × St => z.2) (show (a45_2, mg giX t45 u63) = _ from (by subst es63 er63; exact (lf_f c49 (lf_t c56 (lf_t c66 rfl))))))) (InvB.text I63 It45) hw (lv_sub hl [1, 2] rfl)
        · refine lv_aload_n hx hb dX8_runCommands_69 rfl (lv_at hl 2 rfl) ?_
          refine lv_aload_n hx hb dX8_runCommands_70 rfl (lv_at hl 2 rfl) ?_
          refine gO (C := "NestedBells") (TC := TX8) (NF := 5) (ci := 6) (j := 3) (v := .ref (ad 3)) Z hw (0) (by decide) rfl (fun _ => rfl) rfl iX8 (by decide) q_2_21 rfl rfl dX8_runCommands_71 ?_
          refine gO (C := "NestedBells$CommandText") (TC := TX2) (NF := 6) (ci := 0) (j := 4) (v := .ref (g ((mg giX t45 u63) 3 4).toNatClampNeg)) Z hw 3 (by decide) rfl (fun _ => rfl) rfl iX2 (by decide) q_2_1 rfl (congrArg some (cmd_v (rc_cmd er63 c66 es63))) dX8_runCommands_74 ?_
          refine lv_aload_n hx hb dX8_runCommands_77 rfl (lv_at hl 2 rfl) ?_
          refine gO (C := "NestedBells") (TC := TX8) (NF := 5) (ci := 6) (j := 3) (v := .ref (ad 3)) Z hw (0) (by decide) rfl (fun _ => rfl) rfl iX8 (by decide) q_2_21 rfl rfl dX8_runCommands_78 ?_
          refine gO (C := "NestedBells$CommandText") (TC := TX2) (NF := 6) (ci := 0) (j := 5) (v := .ref (ad 5)) Z hw (3) (by decide) rfl (fun _ => rfl) rfl iX2 (by decide) q_2_3 rfl rfl dX8_runCommands_81 ?_
          refine bk_i (rnV (rest := []) Z hw (k_X8_carryOut (i := ((mg giX t45 u63) 3 4).toNatClampNeg) (InvB.text I63 It45) (cmd_n (rc_cmd er63 c66 es63))) v_X8_carryOut q_2_158 (0) (by decide) rfl rfl rfl rfl hl.1 rfl rfl (Nat.le_of_ble_eq_true rfl) ⟨(Nat.le_of_ble_eq_true rfl), (Nat.le_of_ble_eq_true rfl)⟩ ⟨(Nat.le_of_ble_eq_true rfl), (Nat.le_of_ble_eq_true rfl)⟩ dX8_runCommands_84) hw Z (fun r84 s84 H locs hp hw => ?_)
          obtain ⟨er84, es84, I84⟩ := hp
          refine lv_istore (lv' := [(4, .int r84), (3, .int (nI k45)), (2, .int a45_2), (0, .ref (ad 0))]) hx hb dX8_runCommands_87 hl (by decide) rfl (fun ls hl => ?_)
          refine lv_iload hx hb dX8_runCommands_89 (lv_at hl 0 rfl) ?_
          have hj107 : ∀ (w107_2 : Int32) (s107 : St) (H : Heap) (locs : List Loc) (ls : Array Slot), ((if 0 ≤ r84 then a45_2 + 1 else a45_2) : Int32) = w107_2 → ((if 0 ≤ r84 then s84 else up2 s84 0 4 (-r84)) : St) = s107 → InvB s107 → wo D A s.heap 405 ad (cE (bE g T ad) s107) H locs → lv_has ls 5 [(2, .int w107_2), (3, .int (nI k45)), (0, .ref (ad 0))] → W p l e rmX8_runCommands s m [.ref (ad 0)].toArray below meth c H locs 0 0 Qw (F0 m 107 ls []) := by
            intro w107_2 s107 H locs ls ew107_2 es107 I107 hw hl
            refine lv_iinc (v := nI (k45 + 1)) (lv' := [(3, .int (nI (k45 + 1))), (2, .int w107_2), (0, .ref (ad 0))]) hx hb dX8_runCommands_107 hl (k := 1) rfl (nI_1 _) (by decide) rfl (fun ls hl => ?_)
            refine lv_goto (tgt := 45) hx hb dX8_runCommands_110 (by decide) ?_
            exact ih (k45 + 1) w107_2 s107 H locs ls (by omega) (by omega) I107 hw (lv_sub hl [0, 1, 2] rfl) (fun w45_2 u45 H locs ls ew45_2 eu45 I45 hw hl => kk w45_2 u45 H locs ls (Eq.trans (Eq.symm (congrArg (fun z : Int32 × St => z.1) (show (f_X8_runCommands_l45 n45 (k45 + 1) w107_2 s107) = _ from (by subst es107 ew107_2 es84 er84 es63 er63; exact (lf_f c49 (lf_t c56 (lf_f c66 rfl))))))) ew45_2) (Eq.trans (Eq.symm (congrArg (fun z : Int32 × St => z.2) (show (f_X8_runCommands_l45 n45 (k45 + 1) w107_2 s107) = _ from (by subst es107 ew107_2 es84 er84 es63 er63; exact (lf_f c49 (lf_t c56 (lf_f c66 rfl))))))) eu45) I45 hw hl)
          refine lv_if_ge (tgt := 104) hx hb dX8_runCommands_91 (by decide) (fun c91 => ?_) (fun c91 => ?_)
          · refine lv_iinc (v := a45_2 + 1) (lv' := [(2, .int (a45_2 + 1)), (4, .int r84), (3, .int (nI k45)), (0, .ref (ad 0))]) hx hb dX8_runCommands_104 hl (k := 2) rfl rfl (by decide) rfl (fun ls hl => ?_)
            exact hj107 _ _ H locs ls (Eq.symm (lf_t c91 rfl)) (Eq.symm (lf_t c91 rfl)) I84 hw (lv_sub hl [0, 2, 3] rfl)
          · refine lv_aload_n hx hb dX8_runCommands_94 rfl (lv_at hl 3 rfl) ?_
            refine lv_iload hx hb dX8_runCommands_95 (lv_at hl 0 rfl) ?_
            refine lv_ineg hx hb dX8_runCommands_97 ?_
            refine pO (C := "NestedBells") (TC := TX8) (NF := 5) (ci := 6) (j := 4) (ty0 := tyX8) Z hw (0) (by decide) rfl (fun _ => rfl) rfl iX8 tyX8_ok nmX8 (by decide) q_2_22 rfl rfl rfl rfl (Nat.le_of_ble_eq_true rfl) dX8_runCommands_98 (fun H locs hw => ?_)
            refine lv_goto (tgt := 107) hx hb dX8_runCommands_101 (by decide) ?_
            exact hj107 _ _ H locs ls (Eq.symm (lf_f c91 rfl)) (Eq.symm (lf_f c91 rfl)) (InvB.why I84) hw (lv_sub hl [2, 1, 3] rfl)
set_option maxHeartbeats 4000000 in
set_option maxRecDepth 100000 in
theorem k_X8_runCommands {l : Launch} {D : va_G} {T : Nat → ClassId} {g ad : Nat → Nat} {σ : St} (I0 : InvB σ) : mX l yX8_runCommands cX8_runCommands 5 (some (.int)) rmX8_runCommands D T g 405 ad (cE (bE g T ad) σ) [.ref (ad 0)] (qI D 405 ad (bE g T ad) (pI (f_X8_runCommands σ) InvB)) := by
  refine mX.of (own := "NestedBells") (by decide +kernel) (Nat.le_of_ble_eq_true rfl) rfl ?_
  intro p e s m below meth c A ls H locs Z hr hlk _ hw hl
  have hx := Z.1.1
  have hb := Z.1.2.1
  have hl : lv_has ls 5 [(0, .ref (ad 0))] := hl
  refine lv_aload_n hx hb dX8_runCommands_0 rfl (lv_at hl 0 rfl) ?_
  refine gO (C := "NestedBells") (TC := TX8) (NF := 5) (ci := 6) (j := 3) (v := .ref (ad 3)) Z hw (0) (by decide) rfl (fun _ => rfl) rfl iX8 (by decide) q_2_21 rfl rfl dX8_runCommands_1 ?_
  refine bs_i (prtX (g := g) (T := T) (ad := ad)) (rnV (rest := []) Z ((prtX (g := g) (T := T) (ad := ad)).sub hw) (k_X2_findFault  I0.2.2.1) v_X2_findFault q_2_46 0 (by decide) rfl rfl rfl rfl hl.1 rfl rfl (Nat.le_of_ble_eq_true rfl) ⟨(Nat.le_of_ble_eq_true rfl), (Nat.le_of_ble_eq_true rfl)⟩ ⟨(Nat.le_of_ble_eq_true rfl), (Nat.le_of_ble_eq_true rfl)⟩ dX8_runCommands_4) hw Z (fun r4 u4 H locs hp hw => ?_)
  obtain ⟨er4, es4, I4⟩ := hp
  refine lv_istore_n (lv' := [(1, .int r4), (0, .ref (ad 0))]) hx hb dX8_runCommands_7 rfl hl (by decide) rfl (fun ls hl => ?_)
  refine lv_iload_n hx hb dX8_runCommands_8 rfl (lv_at hl 0 rfl) ?_
  refine lv_iconst (v := (-1)) hx hb dX8_runCommands_9 (by decide +kernel) ?_
  refine lv_icmp_eq (tgt := 18) hx hb dX8_runCommands_10 (by decide) (fun c10 => ?_) (fun c10 => ?_)
  · refine lv_aload_n hx hb dX8_runCommands_18 rfl (lv_at hl 1 rfl) ?_
    refine gO (C := "NestedBells") (TC := TX8) (NF := 5) (ci := 6) (j := 2) (v := .ref (ad 1)) Z hw (0) (by decide) rfl (fun _ => rfl) rfl iX8 (by decide) q_2_20 rfl rfl dX8_runCommands_19 ?_
    refine lv_aload_n hx hb dX8_runCommands_22 rfl (lv_at hl 1 rfl) ?_
    refine gO (C := "NestedBells") (TC := TX8) (NF := 5) (ci := 6) (j := 0) (v := .ref (ad 6)) Z hw (0) (by decide) rfl (fun _ => rfl) rfl iX8 (by decide) q_2_18 rfl rfl dX8_runCommands_23 ?_
    refine bk_v (rnV (rest := []) Z hw (k_X4_prepare  (InvB.text I4 I0)) v_X4_prepare q_2_132 (1) (by decide) rfl rfl rfl rfl hl.1 rfl rfl (Nat.le_of_ble_eq_true rfl) ⟨(Nat.le_of_ble_eq_true rfl), (Nat.le_of_ble_eq_true rfl)⟩ ⟨(Nat.le_of_ble_eq_true rfl), (Nat.le_of_ble_eq_true rfl)⟩ dX8_runCommands_26) hw Z (fun s26 H locs hp hw => ?_)
    obtain ⟨es26, I26⟩ := hp
    refine lv_aload_n hx hb dX8_runCommands_29 rfl (lv_at hl 1 rfl) ?_
    refine lv_iconst (v := 0) hx hb dX8_runCommands_30 (by decide +kernel) ?_
    refine pO (C := "NestedBells") (TC := TX8) (NF := 5) (ci := 6) (j := 4) (ty0 := tyX8) Z hw (0) (by decide) rfl (fun _ => rfl) rfl iX8 tyX8_ok nmX8 (by decide) q_2_22 rfl rfl rfl rfl (Nat.le_of_ble_eq_true rfl) dX8_runCommands_31 (fun H locs hw => ?_)
    refine lv_aload_n hx hb dX8_runCommands_34 rfl (lv_at hl 1 rfl) ?_
    refine gO (C := "NestedBells") (TC := TX8) (NF := 5) (ci := 6) (j := 3) (v := .ref (ad 3)) Z hw (0) (by decide) rfl (fun _ => rfl) rfl iX8 (by decide) q_2_21 rfl rfl dX8_runCommands_35 ?_
    refine bs_v (prtX (g := g) (T := T) (ad := ad)) (rnV (rest := []) Z ((prtX (g := g) (T := T) (ad := ad)).sub hw) (k_X2_rewind  (InvB.why I26).2.2.1) v_X2_rewind q_2_156 0 (by decide) rfl rfl rfl rfl hl.1 rfl rfl (Nat.le_of_ble_eq_true rfl) ⟨(Nat.le_of_ble_eq_true rfl), (Nat.le_of_ble_eq_true rfl)⟩ ⟨(Nat.le_of_ble_eq_true rfl), (Nat.le_of_ble_eq_true rfl)⟩ dX8_runCommands_38) hw Z (fun u38 H locs hp hw => ?_)
    obtain ⟨es38, I38⟩ := hp
    refine lv_iconst (v := 0) hx hb dX8_runCommands_41 (by decide +kernel) ?_
    refine lv_istore_n (lv' := [(2, .int 0), (1, .int r4), (0, .ref (ad 0))]) hx hb dX8_runCommands_42 rfl hl (by decide) rfl (fun ls hl => ?_)
    refine lv_iconst (v := 0) hx hb dX8_runCommands_43 (by decide +kernel) ?_
    refine lv_istore_n (lv' := [(3, .int 0), (2, .int 0), (1, .int r4), (0, .ref (ad 0))]) hx hb dX8_runCommands_44 rfl hl (by decide) rfl (fun ls hl => ?_)
    refine L_X8_runCommands_45 Z fu151 0 0 (mg giX (up2 s26 0 4 0) u38) H locs ls (by omega) (by unfold fu151; omega) (InvB.text I38 (InvB.why I26)) hw (lv_sub hl [0, 1, 3] rfl) (fun w45_2 u45 H locs ls ew45_2 eu45 I45 hw hl => ?_)
    refine lv_aload_n hx hb dX8_runCommands_113 rfl (lv_at hl 1 rfl) ?_
    refine gO (C := "NestedBells") (TC := TX8) (NF := 5) (ci := 6) (j := 2) (v := .ref (ad 1)) Z hw (0) (by decide) rfl (fun _ => rfl) rfl iX8 (by decide) q_2_20 rfl rfl dX8_runCommands_114 ?_
    refine bk_v (rnV (rest := []) Z hw (k_X4_keep  I45) v_X4_keep q_3_69 (1) (by decide) rfl rfl rfl rfl hl.1 rfl rfl (Nat.le_of_ble_eq_true rfl) ⟨(Nat.le_of_ble_eq_true rfl), (Nat.le_of_ble_eq_true rfl)⟩ ⟨(Nat.le_of_ble_eq_true rfl), (Nat.le_of_ble_eq_true rfl)⟩ dX8_runCommands_117) hw Z (fun s117 H locs hp hw => ?_)
    obtain ⟨es117, I117⟩ := hp
    refine lv_iload_n hx hb dX8_runCommands_120 rfl (lv_at hl 0 rfl) ?_
    exact rt_i Z hr hlk hw dX8_runCommands_121 (pI.mk (by subst es117 eu45 ew45_2 es38 es26 es4 er4; exact (lf_t c10 rfl)) I117)
  · refine lv_bipush (v := (-10)) hx hb dX8_runCommands_13 (by decide +kernel) ?_
    refine lv_iload_n hx hb dX8_runCommands_15 rfl (lv_at hl 0 rfl) ?_
    refine lv_isub hx hb dX8_runCommands_16 ?_
    exact rt_i Z hr hlk hw dX8_runCommands_17 (pI.mk (by subst es4 er4; exact (lf_f c10 rfl)) (InvB.text I4 I0))
