abbrev rmX5_whyWaits : Room := { frames := 3, cells := 0, slots := 0, locals := 65 }
def f_X5_whyWaits (σ : St) (p1 : Int32) (i : Nat) : Int32 := (let r1 := f_X7_isPending σ i; (if r1 = 0 then (-1) else (if (zb (σ (9 + i) 3)) = 0 then 1 else (if (σ 1 0) < (σ (9 + i) 0) then (let r38 := f_X5_greatestCeiling σ; (if r38 < (σ (9 + i) 0) then (let r51 := f_X5_greatestPriority σ; (if r51 < (σ (9 + i) 0) then (let r61 := f_X5_level σ; (let r64 := f_X5_candidateAbove σ r61; (if r64 = p1 then (if (σ 0 7) = 0 then 0 else 6) else 5))) else 4)) else 3)) else 2))))
theorem v_X5_whyWaits : cvV yX5_whyWaits "NestedBells$Machine" cX5_whyWaits 3 (some (.int)) 2 := ⟨q_3_101, s_26, q_1_2, q_3_102, rfl, by decide +kernel, by decide +kernel, by decide +kernel⟩
set_option maxHeartbeats 4000000 in
set_option maxRecDepth 100000 in
theorem k_X5_whyWaits {l : Launch} {D : va_G} {T : Nat → ClassId} {g ad : Nat → Nat} {σ : St} {p1 : Int32} {i : Nat} (I0 : InvC σ) (hi : i < 12) : mX l yX5_whyWaits cX5_whyWaits 3 (some (.int)) rmX5_whyWaits D T g 57 ad (cE (mE T ad) σ) [.ref (ad 0), .int p1, .ref (ad (9 + i))] (qI D 57 ad (mE T ad) (pR (f_X5_whyWaits σ p1 i) σ)) := by
  refine mX.of (own := "NestedBells$Machine") (by decide +kernel) (Nat.le_of_ble_eq_true rfl) rfl ?_
  intro p e s m below meth c A ls H locs Z hr hlk _ hw hl
  have hx := Z.1.1
  have hb := Z.1.2.1
  have hl : lv_has ls 3 [(0, .ref (ad 0)), (1, .int p1), (2, .ref (ad (9 + i)))] := hl
  refine lv_aload_n hx hb dX5_whyWaits_0 rfl (lv_at hl 2 rfl) ?_
  refine bk_ip (rnV (rest := []) Z hw (k_X7_isPending (i := i) I0 hi) v_X7_isPending q_3_12 (9 + i) (by have h1 : i < 12 := hi; omega) rfl (mE_src hi) rfl rfl hl.1 rfl rfl (Nat.le_of_ble_eq_true rfl) ⟨(Nat.le_of_ble_eq_true rfl), (Nat.le_of_ble_eq_true rfl)⟩ ⟨(Nat.le_of_ble_eq_true rfl), (Nat.le_of_ble_eq_true rfl)⟩ dX5_whyWaits_1) hw Z (fun r1 er1 H locs hw => ?_)
  refine lv_if_ne (tgt := 9) hx hb dX5_whyWaits_4 (by decide) (fun c4 => ?_) (fun c4 => ?_)
  · refine lv_aload_n hx hb dX5_whyWaits_9 rfl (lv_at hl 2 rfl) ?_
    refine gU (j := 3) (v := .int (zb (σ (9 + i) 3))) Z hw hi (by decide) q_1_96 rfl rfl dX5_whyWaits_10 ?_
    refine lv_if_ne (tgt := 18) hx hb dX5_whyWaits_13 (by decide) (fun c13 => ?_) (fun c13 => ?_)
    · refine lv_aload_n hx hb dX5_whyWaits_18 rfl (lv_at hl 2 rfl) ?_
      refine gU (j := 0) (v := .int (σ (9 + i) 0)) Z hw hi (by decide) q_1_90 rfl rfl dX5_whyWaits_19 ?_
      refine lv_aload_n hx hb dX5_whyWaits_22 rfl (lv_at hl 0 rfl) ?_
      refine gM (j := 1) (v := .ref (ad 1)) Z hw  (by decide) q_1_171 rfl rfl dX5_whyWaits_23 ?_
      refine lv_iconst (v := 0) hx hb dX5_whyWaits_26 (by decide +kernel) ?_
      refine aE (v := σ 1 0) Z hw 1 (by decide) rfl (fun _ => rfl) (vp_in_nI (n := 0) (by decide) (by decide)) ((congrArg (σ 1) (nI_clamp (n := 0) (by decide))).trans rfl) dX5_whyWaits_27 ?_
      refine lv_icmp_gt (tgt := 33) hx hb dX5_whyWaits_28 (by decide) (fun c28 => ?_) (fun c28 => ?_)
      · refine lv_aload_n hx hb dX5_whyWaits_33 rfl (lv_at hl 2 rfl) ?_
        refine gU (j := 0) (v := .int (σ (9 + i) 0)) Z hw hi (by decide) q_1_90 rfl rfl dX5_whyWaits_34 ?_
        refine lv_aload_n hx hb dX5_whyWaits_37 rfl (lv_at hl 0 rfl) ?_
        refine bk_ip (rnV (rest := [.int (σ (9 + i) 0)]) Z hw (k_X5_greatestCeiling  I0) v_X5_greatestCeiling q_2_229 (0) (by decide) rfl rfl rfl rfl hl.1 rfl rfl (Nat.le_of_ble_eq_true rfl) ⟨(Nat.le_of_ble_eq_true rfl), (Nat.le_of_ble_eq_true rfl)⟩ ⟨(Nat.le_of_ble_eq_true rfl), (Nat.le_of_ble_eq_true rfl)⟩ dX5_whyWaits_38) hw Z (fun r38 er38 H locs hw => ?_)
        refine lv_icmp_gt (tgt := 46) hx hb dX5_whyWaits_41 (by decide) (fun c41 => ?_) (fun c41 => ?_)
        · refine lv_aload_n hx hb dX5_whyWaits_46 rfl (lv_at hl 2 rfl) ?_
          refine gU (j := 0) (v := .int (σ (9 + i) 0)) Z hw hi (by decide) q_1_90 rfl rfl dX5_whyWaits_47 ?_
          refine lv_aload_n hx hb dX5_whyWaits_50 rfl (lv_at hl 0 rfl) ?_
          refine bk_ip (rnV (rest := [.int (σ (9 + i) 0)]) Z hw (k_X5_greatestPriority  I0) v_X5_greatestPriority q_3_4 (0) (by decide) rfl rfl rfl rfl hl.1 rfl rfl (Nat.le_of_ble_eq_true rfl) ⟨(Nat.le_of_ble_eq_true rfl), (Nat.le_of_ble_eq_true rfl)⟩ ⟨(Nat.le_of_ble_eq_true rfl), (Nat.le_of_ble_eq_true rfl)⟩ dX5_whyWaits_51) hw Z (fun r51 er51 H locs hw => ?_)
          refine lv_icmp_gt (tgt := 59) hx hb dX5_whyWaits_54 (by decide) (fun c54 => ?_) (fun c54 => ?_)
          · refine lv_aload_n hx hb dX5_whyWaits_59 rfl (lv_at hl 0 rfl) ?_
            refine lv_aload_n hx hb dX5_whyWaits_60 rfl (lv_at hl 0 rfl) ?_
            refine bk_ip (rnV (rest := [.ref (ad 0)]) Z hw (k_X5_level  I0) v_X5_level q_2_225 (0) (by decide) rfl rfl rfl rfl hl.1 rfl rfl (Nat.le_of_ble_eq_true rfl) ⟨(Nat.le_of_ble_eq_true rfl), (Nat.le_of_ble_eq_true rfl)⟩ ⟨(Nat.le_of_ble_eq_true rfl), (Nat.le_of_ble_eq_true rfl)⟩ dX5_whyWaits_61) hw Z (fun r61 er61 H locs hw => ?_)
            refine bk_ip (rnV (rest := []) Z hw (k_X5_candidateAbove (p1 := r61) I0) v_X5_candidateAbove q_3_8 (0) (by decide) rfl rfl rfl rfl hl.1 rfl rfl (Nat.le_of_ble_eq_true rfl) ⟨(Nat.le_of_ble_eq_true rfl), (Nat.le_of_ble_eq_true rfl)⟩ ⟨(Nat.le_of_ble_eq_true rfl), (Nat.le_of_ble_eq_true rfl)⟩ dX5_whyWaits_64) hw Z (fun r64 er64 H locs hw => ?_)
            refine lv_iload_n hx hb dX5_whyWaits_67 rfl (lv_at hl 1 rfl) ?_
            refine lv_icmp_eq (tgt := 73) hx hb dX5_whyWaits_68 (by decide) (fun c68 => ?_) (fun c68 => ?_)
            · refine lv_aload_n hx hb dX5_whyWaits_73 rfl (lv_at hl 0 rfl) ?_
              refine gM (j := 7) (v := .int (σ 0 7)) Z hw  (by decide) q_1_179 rfl rfl dX5_whyWaits_74 ?_
              refine lv_if_eq (tgt := 85) hx hb dX5_whyWaits_77 (by decide) (fun c77 => ?_) (fun c77 => ?_)
              · refine lv_iconst (v := 0) hx hb dX5_whyWaits_85 (by decide +kernel) ?_
                exact rt_i Z hr hlk hw dX5_whyWaits_86 ⟨Eq.symm (by subst er64 er61 er51 er38 er1; exact (lf_f c4 (lf_f c13 (lf_t c28 (lf_t c41 (lf_t c54 (lf_t c68 (lf_t c77 rfl)))))))), rfl⟩
              · refine lv_bipush (v := 6) hx hb dX5_whyWaits_80 (by decide +kernel) ?_
                refine lv_goto (tgt := 86) hx hb dX5_whyWaits_82 (by decide) ?_
                exact rt_i Z hr hlk hw dX5_whyWaits_86 ⟨Eq.symm (by subst er64 er61 er51 er38 er1; exact (lf_f c4 (lf_f c13 (lf_t c28 (lf_t c41 (lf_t c54 (lf_t c68 (lf_f c77 rfl)))))))), rfl⟩
            · refine lv_iconst (v := 5) hx hb dX5_whyWaits_71 (by decide +kernel) ?_
              exact rt_i Z hr hlk hw dX5_whyWaits_72 ⟨Eq.symm (by subst er64 er61 er51 er38 er1; exact (lf_f c4 (lf_f c13 (lf_t c28 (lf_t c41 (lf_t c54 (lf_f c68 rfl))))))), rfl⟩
          · refine lv_iconst (v := 4) hx hb dX5_whyWaits_57 (by decide +kernel) ?_
            exact rt_i Z hr hlk hw dX5_whyWaits_58 ⟨Eq.symm (by subst er51 er38 er1; exact (lf_f c4 (lf_f c13 (lf_t c28 (lf_t c41 (lf_f c54 rfl)))))), rfl⟩
        · refine lv_iconst (v := 3) hx hb dX5_whyWaits_44 (by decide +kernel) ?_
          exact rt_i Z hr hlk hw dX5_whyWaits_45 ⟨Eq.symm (by subst er38 er1; exact (lf_f c4 (lf_f c13 (lf_t c28 (lf_f c41 rfl))))), rfl⟩
      · refine lv_iconst (v := 2) hx hb dX5_whyWaits_31 (by decide +kernel) ?_
        exact rt_i Z hr hlk hw dX5_whyWaits_32 ⟨Eq.symm (by subst er1; exact (lf_f c4 (lf_f c13 (lf_f c28 rfl)))), rfl⟩
    · refine lv_iconst (v := 1) hx hb dX5_whyWaits_16 (by decide +kernel) ?_
      exact rt_i Z hr hlk hw dX5_whyWaits_17 ⟨Eq.symm (by subst er1; exact (lf_f c4 (lf_t c13 rfl))), rfl⟩
  · refine lv_iconst (v := (-1)) hx hb dX5_whyWaits_7 (by decide +kernel) ?_
    exact rt_i Z hr hlk hw dX5_whyWaits_8 ⟨Eq.symm (by subst er1; exact (lf_t c4 rfl)), rfl⟩
abbrev rmX5_tallyOf : Room := { frames := 0, cells := 0, slots := 0, locals := 0 }
def f_X5_tallyOf (σ : St) (i : Nat) (p2 : Int32) : Int32 := (if p2 = 8 then σ (9 + i) 9 else (if p2 = 9 then σ (9 + i) 10 else (if p2 = 10 then σ (9 + i) 11 else (if p2 = 11 then σ (9 + i) 12 else (if p2 = 12 then σ (9 + i) 13 else (if p2 = 13 then σ (9 + i) 14 else σ (9 + i) 15))))))
theorem v_X5_tallyOf : cvS yX5_tallyOf cX5_tallyOf 2 (some (.int)) 2 := ⟨q_3_104, q_1_2, q_3_105, by decide +kernel, by decide +kernel, by decide +kernel⟩
set_option maxHeartbeats 4000000 in
set_option maxRecDepth 100000 in
theorem k_X5_tallyOf {l : Launch} {D : va_G} {T : Nat → ClassId} {g ad : Nat → Nat} {σ : St} {i : Nat} {p2 : Int32} (I0 : InvC σ) (hi : i < 12) : mX l yX5_tallyOf cX5_tallyOf 2 (some (.int)) rmX5_tallyOf D T g 57 ad (cE (mE T ad) σ) [.ref (ad (9 + i)), .int p2] (qI D 57 ad (mE T ad) (pR (f_X5_tallyOf σ i p2) σ)) := by
  refine mX.of (own := "NestedBells$Machine") (by decide +kernel) (Nat.le_of_ble_eq_true rfl) rfl ?_
  intro p e s m below meth c A ls H locs Z hr hlk _ hw hl
  have hx := Z.1.1
  have hb := Z.1.2.1
  have hl : lv_has ls 2 [(0, .ref (ad (9 + i))), (1, .int p2)] := hl
  refine lv_iload_n hx hb dX5_tallyOf_0 rfl (lv_at hl 1 rfl) ?_
  rcases Decidable.em (p2 = 8) with c1_8 | c1_8
  · refine lv_tableIn (off := 39) (tgt := 40) hx hb dX5_tallyOf_1 (by rw [c1_8]; decide +kernel) (by rw [c1_8]; decide +kernel) (by rw [c1_8]; rfl) (by decide) ?_
    refine lv_aload_n hx hb dX5_tallyOf_40 rfl (lv_at hl 0 rfl) ?_
    refine gU (j := 9) (v := .int (σ (9 + i) 9)) Z hw hi (by decide) q_1_108 rfl rfl dX5_tallyOf_41 ?_
    exact rt_i Z hr hlk hw dX5_tallyOf_44 ⟨Eq.symm (lf_t c1_8 rfl), rfl⟩
  · rcases Decidable.em (p2 = 9) with c1_9 | c1_9
    · refine lv_tableIn (off := 44) (tgt := 45) hx hb dX5_tallyOf_1 (by rw [c1_9]; decide +kernel) (by rw [c1_9]; decide +kernel) (by rw [c1_9]; rfl) (by decide) ?_
      refine lv_aload_n hx hb dX5_tallyOf_45 rfl (lv_at hl 0 rfl) ?_
      refine gU (j := 10) (v := .int (σ (9 + i) 10)) Z hw hi (by decide) q_1_110 rfl rfl dX5_tallyOf_46 ?_
      exact rt_i Z hr hlk hw dX5_tallyOf_49 ⟨Eq.symm (lf_f c1_8 (lf_t c1_9 rfl)), rfl⟩
    · rcases Decidable.em (p2 = 10) with c1_10 | c1_10
      · refine lv_tableIn (off := 49) (tgt := 50) hx hb dX5_tallyOf_1 (by rw [c1_10]; decide +kernel) (by rw [c1_10]; decide +kernel) (by rw [c1_10]; rfl) (by decide) ?_
        refine lv_aload_n hx hb dX5_tallyOf_50 rfl (lv_at hl 0 rfl) ?_
        refine gU (j := 11) (v := .int (σ (9 + i) 11)) Z hw hi (by decide) q_1_112 rfl rfl dX5_tallyOf_51 ?_
        exact rt_i Z hr hlk hw dX5_tallyOf_54 ⟨Eq.symm (lf_f c1_8 (lf_f c1_9 (lf_t c1_10 rfl))), rfl⟩
      · rcases Decidable.em (p2 = 11) with c1_11 | c1_11
        · refine lv_tableIn (off := 54) (tgt := 55) hx hb dX5_tallyOf_1 (by rw [c1_11]; decide +kernel) (by rw [c1_11]; decide +kernel) (by rw [c1_11]; rfl) (by decide) ?_
          refine lv_aload_n hx hb dX5_tallyOf_55 rfl (lv_at hl 0 rfl) ?_
          refine gU (j := 12) (v := .int (σ (9 + i) 12)) Z hw hi (by decide) q_1_114 rfl rfl dX5_tallyOf_56 ?_
          exact rt_i Z hr hlk hw dX5_tallyOf_59 ⟨Eq.symm (lf_f c1_8 (lf_f c1_9 (lf_f c1_10 (lf_t c1_11 rfl)))), rfl⟩
        · rcases Decidable.em (p2 = 12) with c1_12 | c1_12
          · refine lv_tableIn (off := 59) (tgt := 60) hx hb dX5_tallyOf_1 (by rw [c1_12]; decide +kernel) (by rw [c1_12]; decide +kernel) (by rw [c1_12]; rfl) (by decide) ?_
            refine lv_aload_n hx hb dX5_tallyOf_60 rfl (lv_at hl 0 rfl) ?_
            refine gU (j := 13) (v := .int (σ (9 + i) 13)) Z hw hi (by decide) q_1_116 rfl rfl dX5_tallyOf_61 ?_
            exact rt_i Z hr hlk hw dX5_tallyOf_64 ⟨Eq.symm (lf_f c1_8 (lf_f c1_9 (lf_f c1_10 (lf_f c1_11 (lf_t c1_12 rfl))))), rfl⟩
          · rcases Decidable.em (p2 = 13) with c1_13 | c1_13
            · refine lv_tableIn (off := 64) (tgt := 65) hx hb dX5_tallyOf_1 (by rw [c1_13]; decide +kernel) (by rw [c1_13]; decide +kernel) (by rw [c1_13]; rfl) (by decide) ?_
              refine lv_aload_n hx hb dX5_tallyOf_65 rfl (lv_at hl 0 rfl) ?_
              refine gU (j := 14) (v := .int (σ (9 + i) 14)) Z hw hi (by decide) q_1_118 rfl rfl dX5_tallyOf_66 ?_
              exact rt_i Z hr hlk hw dX5_tallyOf_69 ⟨Eq.symm (lf_f c1_8 (lf_f c1_9 (lf_f c1_10 (lf_f c1_11 (lf_f c1_12 (lf_t c1_13 rfl)))))), rfl⟩
            · refine lv_tableOut (tgt := 70) hx hb dX5_tallyOf_1 (by have t8 := lv_neT (a := 8) c1_8 (by decide +kernel); have t9 := lv_neT (a := 9) c1_9 (by decide +kernel); have t10 := lv_neT (a := 10) c1_10 (by decide +kernel); have t11 := lv_neT (a := 11) c1_11 (by decide +kernel); have t12 := lv_neT (a := 12) c1_12 (by decide +kernel); have t13 := lv_neT (a := 13) c1_13 (by decide +kernel); omega) (by decide) ?_
              refine lv_aload_n hx hb dX5_tallyOf_70 rfl (lv_at hl 0 rfl) ?_
              refine gU (j := 15) (v := .int (σ (9 + i) 15)) Z hw hi (by decide) q_1_120 rfl rfl dX5_tallyOf_71 ?_
              exact rt_i Z hr hlk hw dX5_tallyOf_74 ⟨Eq.symm (lf_f c1_8 (lf_f c1_9 (lf_f c1_10 (lf_f c1_11 (lf_f c1_12 (lf_f c1_13 rfl)))))), rfl⟩
abbrev rmX5_sourceValue : Room := { frames := 4, cells := 0, slots := 0, locals := 87 }
def f_X5_sourceValue (σ : St) (p1 : Int32) (p2 : Int32) : Int32 := (oc (f_X5_find σ p1) (-1) (fun i2 => (if p2 = 0 then σ (9 + i2) 0 else (if p2 = 1 then σ (9 + i2) 1 else (if p2 = 2 then σ (9 + i2) 2 else (if p2 = 3 then (if (zb (σ (9 + i2) 3)) = 0 then 0 else 1) else (if p2 = 4 then (let r125 := f_X7_isPending σ i2; (if r125 = 0 then 0 else 1)) else (if p2 = 5 then (if (zb (σ (9 + i2) 5)) = 0 then 0 else 1) else (if p2 = 6 then σ (9 + i2) 7 else (if p2 = 7 then σ (9 + i2) 8 else (if p2 = 8 then (let r190 := f_X5_tallyOf σ i2 p2; r190) else (if p2 = 9 then (let r190 := f_X5_tallyOf σ i2 p2; r190) else (if p2 = 10 then (let r190 := f_X5_tallyOf σ i2 p2; r190) else (if p2 = 11 then (let r190 := f_X5_tallyOf σ i2 p2; r190) else (if p2 = 12 then (let r190 := f_X5_tallyOf σ i2 p2; r190) else (if p2 = 13 then (let r190 := f_X5_tallyOf σ i2 p2; r190) else (if p2 = 14 then (let r190 := f_X5_tallyOf σ i2 p2; r190) else (if p2 = 15 then (if (σ (9 + i2) 17) ≤ 0 then (-1) else (σ (9 + i2) 16) - (σ 0 0)) else (if p2 = 16 then (let r184 := f_X5_whyWaits σ p1 i2; r184) else (let r190 := f_X5_tallyOf σ i2 p2; r190))))))))))))))))))))
theorem v_X5_sourceValue : cvV yX5_sourceValue "NestedBells$Machine" cX5_sourceValue 4 (some (.int)) 2 := ⟨q_3_96, q_3_97, q_1_2, q_3_98, rfl, by decide +kernel, by decide +kernel, by decide +kernel⟩
set_option maxHeartbeats 4000000 in
set_option maxRecDepth 100000 in
theorem k_X5_sourceValue {l : Launch} {D : va_G} {T : Nat → ClassId} {g ad : Nat → Nat} {σ : St} {p1 : Int32} {p2 : Int32} (I0 : InvC σ) : mX l yX5_sourceValue cX5_sourceValue 4 (some (.int)) rmX5_sourceValue D T g 57 ad (cE (mE T ad) σ) [.ref (ad 0), .int p1, .int p2] (qI D 57 ad (mE T ad) (pR (f_X5_sourceValue σ p1 p2) σ)) := by
  refine mX.of (own := "NestedBells$Machine") (by decide +kernel) (Nat.le_of_ble_eq_true rfl) rfl ?_
  intro p e s m below meth c A ls H locs Z hr hlk _ hw hl
  have hx := Z.1.1
  have hb := Z.1.2.1
  have hl : lv_has ls 4 [(0, .ref (ad 0)), (1, .int p1), (2, .int p2)] := hl
  refine lv_aload_n hx hb dX5_sourceValue_0 rfl (lv_at hl 0 rfl) ?_
  refine lv_iload_n hx hb dX5_sourceValue_1 rfl (lv_at hl 1 rfl) ?_
  refine bk_qp (rnV (rest := []) Z hw (k_X5_find (p1 := p1) I0) v_X5_find q_2_181 (0) (by decide) rfl rfl rfl rfl hl.1 rfl rfl (Nat.le_of_ble_eq_true rfl) ⟨(Nat.le_of_ble_eq_true rfl), (Nat.le_of_ble_eq_true rfl)⟩ ⟨(Nat.le_of_ble_eq_true rfl), (Nat.le_of_ble_eq_true rfl)⟩ dX5_sourceValue_2) hw Z (fun r2 er2 H locs hw => ?_)
  subst er2
  rcases hf2 : f_X5_find σ p1 with _ | i2
  · show W _ _ _ _ _ _ _ _ _ _ _ _ _ _ _ (F0 _ _ _ (.null :: _))
    refine lv_astore_nN (lv' := [(3, .null), (0, .ref (ad 0)), (1, .int p1), (2, .int p2)]) hx hb dX5_sourceValue_5 rfl hl (by decide) rfl (fun ls hl => ?_)
    refine lv_aload_nN hx hb dX5_sourceValue_6 rfl (lv_at hl 0 rfl) ?_
    refine lv_ifnonnullN hx hb dX5_sourceValue_7 ?_
    refine lv_iconst (v := (-1)) hx hb dX5_sourceValue_10 (by decide +kernel) ?_
    exact rt_i Z hr hlk hw dX5_sourceValue_11 ⟨Eq.symm (lf_n hf2 rfl), rfl⟩
  · have hi2 : i2 < 12 := fin_lt I0 hf2
    show W _ _ _ _ _ _ _ _ _ _ _ _ _ _ _ (F0 _ _ _ (.ref (ad (9 + i2)) :: _))
    refine lv_astore_n (lv' := [(3, .ref (ad (9 + i2))), (0, .ref (ad 0)), (1, .int p1), (2, .int p2)]) hx hb dX5_sourceValue_5 rfl hl (by decide) rfl (fun ls hl => ?_)
    refine lv_aload_n hx hb dX5_sourceValue_6 rfl (lv_at hl 0 rfl) ?_
    refine lv_ifnonnull (tgt := 12) hx hb dX5_sourceValue_7 (by decide) ?_
    refine lv_iload_n hx hb dX5_sourceValue_12 rfl (lv_at hl 3 rfl) ?_
    rcases Decidable.em (p2 = 0) with c13_0 | c13_0
    · refine lv_tableIn (off := 83) (tgt := 96) hx hb dX5_sourceValue_13 (by rw [c13_0]; decide +kernel) (by rw [c13_0]; decide +kernel) (by rw [c13_0]; rfl) (by decide) ?_
      refine lv_aload_n hx hb dX5_sourceValue_96 rfl (lv_at hl 0 rfl) ?_
      refine gU (j := 0) (v := .int (σ (9 + i2) 0)) Z hw hi2 (by decide) q_1_90 rfl rfl dX5_sourceValue_97 ?_
      exact rt_i Z hr hlk hw dX5_sourceValue_100 ⟨Eq.symm (lf_s hf2 (lf_t c13_0 rfl)), rfl⟩
    · rcases Decidable.em (p2 = 1) with c13_1 | c13_1
      · refine lv_tableIn (off := 88) (tgt := 101) hx hb dX5_sourceValue_13 (by rw [c13_1]; decide +kernel) (by rw [c13_1]; decide +kernel) (by rw [c13_1]; rfl) (by decide) ?_
        refine lv_aload_n hx hb dX5_sourceValue_101 rfl (lv_at hl 0 rfl) ?_
        refine gU (j := 1) (v := .int (σ (9 + i2) 1)) Z hw hi2 (by decide) q_1_92 rfl rfl dX5_sourceValue_102 ?_
        exact rt_i Z hr hlk hw dX5_sourceValue_105 ⟨Eq.symm (lf_s hf2 (lf_f c13_0 (lf_t c13_1 rfl))), rfl⟩
      · rcases Decidable.em (p2 = 2) with c13_2 | c13_2
        · refine lv_tableIn (off := 93) (tgt := 106) hx hb dX5_sourceValue_13 (by rw [c13_2]; decide +kernel) (by rw [c13_2]; decide +kernel) (by rw [c13_2]; rfl) (by decide) ?_
          refine lv_aload_n hx hb dX5_sourceValue_106 rfl (lv_at hl 0 rfl) ?_
          refine gU (j := 2) (v := .int (σ (9 + i2) 2)) Z hw hi2 (by decide) q_1_94 rfl rfl dX5_sourceValue_107 ?_
          exact rt_i Z hr hlk hw dX5_sourceValue_110 ⟨Eq.symm (lf_s hf2 (lf_f c13_0 (lf_f c13_1 (lf_t c13_2 rfl)))), rfl⟩
        · rcases Decidable.em (p2 = 3) with c13_3 | c13_3
          · refine lv_tableIn (off := 98) (tgt := 111) hx hb dX5_sourceValue_13 (by rw [c13_3]; decide +kernel) (by rw [c13_3]; decide +kernel) (by rw [c13_3]; rfl) (by decide) ?_
            refine lv_aload_n hx hb dX5_sourceValue_111 rfl (lv_at hl 0 rfl) ?_
            refine gU (j := 3) (v := .int (zb (σ (9 + i2) 3))) Z hw hi2 (by decide) q_1_96 rfl rfl dX5_sourceValue_112 ?_
            refine lv_if_eq (tgt := 122) hx hb dX5_sourceValue_115 (by decide) (fun c115 => ?_) (fun c115 => ?_)
            · refine lv_iconst (v := 0) hx hb dX5_sourceValue_122 (by decide +kernel) ?_
              exact rt_i Z hr hlk hw dX5_sourceValue_123 ⟨Eq.symm (lf_s hf2 (lf_f c13_0 (lf_f c13_1 (lf_f c13_2 (lf_t c13_3 (lf_t c115 rfl)))))), rfl⟩
            · refine lv_iconst (v := 1) hx hb dX5_sourceValue_118 (by decide +kernel) ?_
              refine lv_goto (tgt := 123) hx hb dX5_sourceValue_119 (by decide) ?_
              exact rt_i Z hr hlk hw dX5_sourceValue_123 ⟨Eq.symm (lf_s hf2 (lf_f c13_0 (lf_f c13_1 (lf_f c13_2 (lf_t c13_3 (lf_f c115 rfl)))))), rfl⟩
          · rcases Decidable.em (p2 = 4) with c13_4 | c13_4
            · refine lv_tableIn (off := 111) (tgt := 124) hx hb dX5_sourceValue_13 (by rw [c13_4]; decide +kernel) (by rw [c13_4]; decide +kernel) (by rw [c13_4]; rfl) (by decide) ?_
              refine lv_aload_n hx hb dX5_sourceValue_124 rfl (lv_at hl 0 rfl) ?_
              refine bk_ip (rnV (rest := []) Z hw (k_X7_isPending (i := i2) I0 hi2) v_X7_isPending q_3_12 (9 + i2) (by have h1 : i2 < 12 := hi2; omega) rfl (mE_src hi2) rfl rfl hl.1 rfl rfl (Nat.le_of_ble_eq_true rfl) ⟨(Nat.le_of_ble_eq_true rfl), (Nat.le_of_ble_eq_true rfl)⟩ ⟨(Nat.le_of_ble_eq_true rfl), (Nat.le_of_ble_eq_true rfl)⟩ dX5_sourceValue_125) hw Z (fun r125 er125 H locs hw => ?_)
              refine lv_if_eq (tgt := 135) hx hb dX5_sourceValue_128 (by decide) (fun c128 => ?_) (fun c128 => ?_)
              · refine lv_iconst (v := 0) hx hb dX5_sourceValue_135 (by decide +kernel) ?_
                exact rt_i Z hr hlk hw dX5_sourceValue_136 ⟨Eq.symm (by subst er125; exact (lf_s hf2 (lf_f c13_0 (lf_f c13_1 (lf_f c13_2 (lf_f c13_3 (lf_t c13_4 (lf_t c128 rfl)))))))), rfl⟩
              · refine lv_iconst (v := 1) hx hb dX5_sourceValue_131 (by decide +kernel) ?_
                refine lv_goto (tgt := 136) hx hb dX5_sourceValue_132 (by decide) ?_
                exact rt_i Z hr hlk hw dX5_sourceValue_136 ⟨Eq.symm (by subst er125; exact (lf_s hf2 (lf_f c13_0 (lf_f c13_1 (lf_f c13_2 (lf_f c13_3 (lf_t c13_4 (lf_f c128 rfl)))))))), rfl⟩
            · rcases Decidable.em (p2 = 5) with c13_5 | c13_5
              · refine lv_tableIn (off := 124) (tgt := 137) hx hb dX5_sourceValue_13 (by rw [c13_5]; decide +kernel) (by rw [c13_5]; decide +kernel) (by rw [c13_5]; rfl) (by decide) ?_
                refine lv_aload_n hx hb dX5_sourceValue_137 rfl (lv_at hl 0 rfl) ?_
                refine gU (j := 5) (v := .int (zb (σ (9 + i2) 5))) Z hw hi2 (by decide) q_1_100 rfl rfl dX5_sourceValue_138 ?_
                refine lv_if_eq (tgt := 148) hx hb dX5_sourceValue_141 (by decide) (fun c141 => ?_) (fun c141 => ?_)
                · refine lv_iconst (v := 0) hx hb dX5_sourceValue_148 (by decide +kernel) ?_
                  exact rt_i Z hr hlk hw dX5_sourceValue_149 ⟨Eq.symm (lf_s hf2 (lf_f c13_0 (lf_f c13_1 (lf_f c13_2 (lf_f c13_3 (lf_f c13_4 (lf_t c13_5 (lf_t c141 rfl)))))))), rfl⟩
                · refine lv_iconst (v := 1) hx hb dX5_sourceValue_144 (by decide +kernel) ?_
                  refine lv_goto (tgt := 149) hx hb dX5_sourceValue_145 (by decide) ?_
                  exact rt_i Z hr hlk hw dX5_sourceValue_149 ⟨Eq.symm (lf_s hf2 (lf_f c13_0 (lf_f c13_1 (lf_f c13_2 (lf_f c13_3 (lf_f c13_4 (lf_t c13_5 (lf_f c141 rfl)))))))), rfl⟩
              · rcases Decidable.em (p2 = 6) with c13_6 | c13_6
                · refine lv_tableIn (off := 137) (tgt := 150) hx hb dX5_sourceValue_13 (by rw [c13_6]; decide +kernel) (by rw [c13_6]; decide +kernel) (by rw [c13_6]; rfl) (by decide) ?_
                  refine lv_aload_n hx hb dX5_sourceValue_150 rfl (lv_at hl 0 rfl) ?_
                  refine gU (j := 7) (v := .int (σ (9 + i2) 7)) Z hw hi2 (by decide) q_1_104 rfl rfl dX5_sourceValue_151 ?_
                  exact rt_i Z hr hlk hw dX5_sourceValue_154 ⟨Eq.symm (lf_s hf2 (lf_f c13_0 (lf_f c13_1 (lf_f c13_2 (lf_f c13_3 (lf_f c13_4 (lf_f c13_5 (lf_t c13_6 rfl)))))))), rfl⟩
                · rcases Decidable.em (p2 = 7) with c13_7 | c13_7
                  · refine lv_tableIn (off := 142) (tgt := 155) hx hb dX5_sourceValue_13 (by rw [c13_7]; decide +kernel) (by rw [c13_7]; decide +kernel) (by rw [c13_7]; rfl) (by decide) ?_
                    refine lv_aload_n hx hb dX5_sourceValue_155 rfl (lv_at hl 0 rfl) ?_
                    refine gU (j := 8) (v := .int (σ (9 + i2) 8)) Z hw hi2 (by decide) q_1_106 rfl rfl dX5_sourceValue_156 ?_
                    exact rt_i Z hr hlk hw dX5_sourceValue_159 ⟨Eq.symm (lf_s hf2 (lf_f c13_0 (lf_f c13_1 (lf_f c13_2 (lf_f c13_3 (lf_f c13_4 (lf_f c13_5 (lf_f c13_6 (lf_t c13_7 rfl))))))))), rfl⟩
                  · rcases Decidable.em (p2 = 8) with c13_8 | c13_8
                    · refine lv_tableIn (off := 175) (tgt := 188) hx hb dX5_sourceValue_13 (by rw [c13_8]; decide +kernel) (by rw [c13_8]; decide +kernel) (by rw [c13_8]; rfl) (by decide) ?_
                      refine lv_aload_n hx hb dX5_sourceValue_188 rfl (lv_at hl 0 rfl) ?_
                      refine lv_iload_n hx hb dX5_sourceValue_189 rfl (lv_at hl 3 rfl) ?_
                      refine bk_ip (rnS (rest := []) Z hw (k_X5_tallyOf (i := i2) (p2 := p2) I0 hi2) v_X5_tallyOf rfl q_3_103 hl.1 rfl rfl (Nat.le_of_ble_eq_true rfl) ⟨(Nat.le_of_ble_eq_true rfl), (Nat.le_of_ble_eq_true rfl)⟩ ⟨(Nat.le_of_ble_eq_true rfl), (Nat.le_of_ble_eq_true rfl)⟩ dX5_sourceValue_190) hw Z (fun r190 er190 H locs hw => ?_)
                      exact rt_i Z hr hlk hw dX5_sourceValue_193 ⟨Eq.symm (by subst er190; exact (lf_s hf2 (lf_f c13_0 (lf_f c13_1 (lf_f c13_2 (lf_f c13_3 (lf_f c13_4 (lf_f c13_5 (lf_f c13_6 (lf_f c13_7 (lf_t c13_8 rfl))))))))))), rfl⟩
                    · rcases Decidable.em (p2 = 9) with c13_9 | c13_9
                      · refine lv_tableIn (off := 175) (tgt := 188) hx hb dX5_sourceValue_13 (by rw [c13_9]; decide +kernel) (by rw [c13_9]; decide +kernel) (by rw [c13_9]; rfl) (by decide) ?_
                        refine lv_aload_n hx hb dX5_sourceValue_188 rfl (lv_at hl 0 rfl) ?_
                        refine lv_iload_n hx hb dX5_sourceValue_189 rfl (lv_at hl 3 rfl) ?_
                        refine bk_ip (rnS (rest := []) Z hw (k_X5_tallyOf (i := i2) (p2 := p2) I0 hi2) v_X5_tallyOf rfl q_3_103 hl.1 rfl rfl (Nat.le_of_ble_eq_true rfl) ⟨(Nat.le_of_ble_eq_true rfl), (Nat.le_of_ble_eq_true rfl)⟩ ⟨(Nat.le_of_ble_eq_true rfl), (Nat.le_of_ble_eq_true rfl)⟩ dX5_sourceValue_190) hw Z (fun r190 er190 H locs hw => ?_)
                        exact rt_i Z hr hlk hw dX5_sourceValue_193 ⟨Eq.symm (by subst er190; exact (lf_s hf2 (lf_f c13_0 (lf_f c13_1 (lf_f c13_2 (lf_f c13_3 (lf_f c13_4 (lf_f c13_5 (lf_f c13_6 (lf_f c13_7 (lf_f c13_8 (lf_t c13_9 rfl)))))))))))), rfl⟩
                      · rcases Decidable.em (p2 = 10) with c13_10 | c13_10
                        · refine lv_tableIn (off := 175) (tgt := 188) hx hb dX5_sourceValue_13 (by rw [c13_10]; decide +kernel) (by rw [c13_10]; decide +kernel) (by rw [c13_10]; rfl) (by decide) ?_
                          refine lv_aload_n hx hb dX5_sourceValue_188 rfl (lv_at hl 0 rfl) ?_
                          refine lv_iload_n hx hb dX5_sourceValue_189 rfl (lv_at hl 3 rfl) ?_
                          refine bk_ip (rnS (rest := []) Z hw (k_X5_tallyOf (i := i2) (p2 := p2) I0 hi2) v_X5_tallyOf rfl q_3_103 hl.1 rfl rfl (Nat.le_of_ble_eq_true rfl) ⟨(Nat.le_of_ble_eq_true rfl), (Nat.le_of_ble_eq_true rfl)⟩ ⟨(Nat.le_of_ble_eq_true rfl), (Nat.le_of_ble_eq_true rfl)⟩ dX5_sourceValue_190) hw Z (fun r190 er190 H locs hw => ?_)
                          exact rt_i Z hr hlk hw dX5_sourceValue_193 ⟨Eq.symm (by subst er190; exact (lf_s hf2 (lf_f c13_0 (lf_f c13_1 (lf_f c13_2 (lf_f c13_3 (lf_f c13_4 (lf_f c13_5 (lf_f c13_6 (lf_f c13_7 (lf_f c13_8 (lf_f c13_9 (lf_t c13_10 rfl))))))))))))), rfl⟩
                        · rcases Decidable.em (p2 = 11) with c13_11 | c13_11
                          · refine lv_tableIn (off := 175) (tgt := 188) hx hb dX5_sourceValue_13 (by rw [c13_11]; decide +kernel) (by rw [c13_11]; decide +kernel) (by rw [c13_11]; rfl) (by decide) ?_
                            refine lv_aload_n hx hb dX5_sourceValue_188 rfl (lv_at hl 0 rfl) ?_
                            refine lv_iload_n hx hb dX5_sourceValue_189 rfl (lv_at hl 3 rfl) ?_
                            refine bk_ip (rnS (rest := []) Z hw (k_X5_tallyOf (i := i2) (p2 := p2) I0 hi2) v_X5_tallyOf rfl q_3_103 hl.1 rfl rfl (Nat.le_of_ble_eq_true rfl) ⟨(Nat.le_of_ble_eq_true rfl), (Nat.le_of_ble_eq_true rfl)⟩ ⟨(Nat.le_of_ble_eq_true rfl), (Nat.le_of_ble_eq_true rfl)⟩ dX5_sourceValue_190) hw Z (fun r190 er190 H locs hw => ?_)
                            exact rt_i Z hr hlk hw dX5_sourceValue_193 ⟨Eq.symm (by subst er190; exact (lf_s hf2 (lf_f c13_0 (lf_f c13_1 (lf_f c13_2 (lf_f c13_3 (lf_f c13_4 (lf_f c13_5 (lf_f c13_6 (lf_f c13_7 (lf_f c13_8 (lf_f c13_9 (lf_f c13_10 (lf_t c13_11 rfl)))))))))))))), rfl⟩
                          · rcases Decidable.em (p2 = 12) with c13_12 | c13_12
                            · refine lv_tableIn (off := 175) (tgt := 188) hx hb dX5_sourceValue_13 (by rw [c13_12]; decide +kernel) (by rw [c13_12]; decide +kernel) (by rw [c13_12]; rfl) (by decide) ?_
                              refine lv_aload_n hx hb dX5_sourceValue_188 rfl (lv_at hl 0 rfl) ?_
                              refine lv_iload_n hx hb dX5_sourceValue_189 rfl (lv_at hl 3 rfl) ?_
                              refine bk_ip (rnS (rest := []) Z hw (k_X5_tallyOf (i := i2) (p2 := p2) I0 hi2) v_X5_tallyOf rfl q_3_103 hl.1 rfl rfl (Nat.le_of_ble_eq_true rfl) ⟨(Nat.le_of_ble_eq_true rfl), (Nat.le_of_ble_eq_true rfl)⟩ ⟨(Nat.le_of_ble_eq_true rfl), (Nat.le_of_ble_eq_true rfl)⟩ dX5_sourceValue_190) hw Z (fun r190 er190 H locs hw => ?_)
                              exact rt_i Z hr hlk hw dX5_sourceValue_193 ⟨Eq.symm (by subst er190; exact (lf_s hf2 (lf_f c13_0 (lf_f c13_1 (lf_f c13_2 (lf_f c13_3 (lf_f c13_4 (lf_f c13_5 (lf_f c13_6 (lf_f c13_7 (lf_f c13_8 (lf_f c13_9 (lf_f c13_10 (lf_f c13_11 (lf_t c13_12 rfl))))))))))))))), rfl⟩
                            · rcases Decidable.em (p2 = 13) with c13_13 | c13_13
                              · refine lv_tableIn (off := 175) (tgt := 188) hx hb dX5_sourceValue_13 (by rw [c13_13]; decide +kernel) (by rw [c13_13]; decide +kernel) (by rw [c13_13]; rfl) (by decide) ?_
                                refine lv_aload_n hx hb dX5_sourceValue_188 rfl (lv_at hl 0 rfl) ?_
                                refine lv_iload_n hx hb dX5_sourceValue_189 rfl (lv_at hl 3 rfl) ?_
                                refine bk_ip (rnS (rest := []) Z hw (k_X5_tallyOf (i := i2) (p2 := p2) I0 hi2) v_X5_tallyOf rfl q_3_103 hl.1 rfl rfl (Nat.le_of_ble_eq_true rfl) ⟨(Nat.le_of_ble_eq_true rfl), (Nat.le_of_ble_eq_true rfl)⟩ ⟨(Nat.le_of_ble_eq_true rfl), (Nat.le_of_ble_eq_true rfl)⟩ dX5_sourceValue_190) hw Z (fun r190 er190 H locs hw => ?_)
                                exact rt_i Z hr hlk hw dX5_sourceValue_193 ⟨Eq.symm (by subst er190; exact (lf_s hf2 (lf_f c13_0 (lf_f c13_1 (lf_f c13_2 (lf_f c13_3 (lf_f c13_4 (lf_f c13_5 (lf_f c13_6 (lf_f c13_7 (lf_f c13_8 (lf_f c13_9 (lf_f c13_10 (lf_f c13_11 (lf_f c13_12 (lf_t c13_13 rfl)))))))))))))))), rfl⟩
                              · rcases Decidable.em (p2 = 14) with c13_14 | c13_14
                                · refine lv_tableIn (off := 175) (tgt := 188) hx hb dX5_sourceValue_13 (by rw [c13_14]; decide +kernel) (by rw [c13_14]; decide +kernel) (by rw [c13_14]; rfl) (by decide) ?_
                                  refine lv_aload_n hx hb dX5_sourceValue_188 rfl (lv_at hl 0 rfl) ?_
                                  refine lv_iload_n hx hb dX5_sourceValue_189 rfl (lv_at hl 3 rfl) ?_
                                  refine bk_ip (rnS (rest := []) Z hw (k_X5_tallyOf (i := i2) (p2 := p2) I0 hi2) v_X5_tallyOf rfl q_3_103 hl.1 rfl rfl (Nat.le_of_ble_eq_true rfl) ⟨(Nat.le_of_ble_eq_true rfl), (Nat.le_of_ble_eq_true rfl)⟩ ⟨(Nat.le_of_ble_eq_true rfl), (Nat.le_of_ble_eq_true rfl)⟩ dX5_sourceValue_190) hw Z (fun r190 er190 H locs hw => ?_)
                                  exact rt_i Z hr hlk hw dX5_sourceValue_193 ⟨Eq.symm (by subst er190; exact (lf_s hf2 (lf_f c13_0 (lf_f c13_1 (lf_f c13_2 (lf_f c13_3 (lf_f c13_4 (lf_f c13_5 (lf_f c13_6 (lf_f c13_7 (lf_f c13_8 (lf_f c13_9 (lf_f c13_10 (lf_f c13_11 (lf_f c13_12 (lf_f c13_13 (lf_t c13_14 rfl))))))))))))))))), rfl⟩
                                · rcases Decidable.em (p2 = 15) with c13_15 | c13_15
                                  · refine lv_tableIn (off := 147) (tgt := 160) hx hb dX5_sourceValue_13 (by rw [c13_15]; decide +kernel) (by rw [c13_15]; decide +kernel) (by rw [c13_15]; rfl) (by decide) ?_
                                    refine lv_aload_n hx hb dX5_sourceValue_160 rfl (lv_at hl 0 rfl) ?_
                                    refine gU (j := 17) (v := .int (σ (9 + i2) 17)) Z hw hi2 (by decide) q_1_124 rfl rfl dX5_sourceValue_161 ?_
                                    refine lv_if_le (tgt := 179) hx hb dX5_sourceValue_164 (by decide) (fun c164 => ?_) (fun c164 => ?_)
                                    · refine lv_iconst (v := (-1)) hx hb dX5_sourceValue_179 (by decide +kernel) ?_
                                      exact rt_i Z hr hlk hw dX5_sourceValue_180 ⟨Eq.symm (lf_s hf2 (lf_f c13_0 (lf_f c13_1 (lf_f c13_2 (lf_f c13_3 (lf_f c13_4 (lf_f c13_5 (lf_f c13_6 (lf_f c13_7 (lf_f c13_8 (lf_f c13_9 (lf_f c13_10 (lf_f c13_11 (lf_f c13_12 (lf_f c13_13 (lf_f c13_14 (lf_t c13_15 (lf_t c164 rfl)))))))))))))))))), rfl⟩
                                    · refine lv_aload_n hx hb dX5_sourceValue_167 rfl (lv_at hl 0 rfl) ?_
                                      refine gU (j := 16) (v := .int (σ (9 + i2) 16)) Z hw hi2 (by decide) q_1_122 rfl rfl dX5_sourceValue_168 ?_
                                      refine lv_aload_n hx hb dX5_sourceValue_171 rfl (lv_at hl 1 rfl) ?_
                                      refine gM (j := 0) (v := .int (σ 0 0)) Z hw  (by decide) q_1_170 rfl rfl dX5_sourceValue_172 ?_
                                      refine lv_isub hx hb dX5_sourceValue_175 ?_
                                      refine lv_goto (tgt := 180) hx hb dX5_sourceValue_176 (by decide) ?_
                                      exact rt_i Z hr hlk hw dX5_sourceValue_180 ⟨Eq.symm (lf_s hf2 (lf_f c13_0 (lf_f c13_1 (lf_f c13_2 (lf_f c13_3 (lf_f c13_4 (lf_f c13_5 (lf_f c13_6 (lf_f c13_7 (lf_f c13_8 (lf_f c13_9 (lf_f c13_10 (lf_f c13_11 (lf_f c13_12 (lf_f c13_13 (lf_f c13_14 (lf_t c13_15 (lf_f c164 rfl)))))))))))))))))), rfl⟩
                                  · rcases Decidable.em (p2 = 16) with c13_16 | c13_16
                                    · refine lv_tableIn (off := 168) (tgt := 181) hx hb dX5_sourceValue_13 (by rw [c13_16]; decide +kernel) (by rw [c13_16]; decide +kernel) (by rw [c13_16]; rfl) (by decide) ?_
                                      refine lv_aload_n hx hb dX5_sourceValue_181 rfl (lv_at hl 1 rfl) ?_
                                      refine lv_iload_n hx hb dX5_sourceValue_182 rfl (lv_at hl 2 rfl) ?_
                                      refine lv_aload_n hx hb dX5_sourceValue_183 rfl (lv_at hl 0 rfl) ?_
                                      refine bk_ip (rnV (rest := []) Z hw (k_X5_whyWaits (p1 := p1) (i := i2) I0 hi2) v_X5_whyWaits q_3_99 (0) (by decide) rfl rfl rfl rfl hl.1 rfl rfl (Nat.le_of_ble_eq_true rfl) ⟨(Nat.le_of_ble_eq_true rfl), (Nat.le_of_ble_eq_true rfl)⟩ ⟨(Nat.le_of_ble_eq_true rfl), (Nat.le_of_ble_eq_true rfl)⟩ dX5_sourceValue_184) hw Z (fun r184 er184 H locs hw => ?_)
                                      exact rt_i Z hr hlk hw dX5_sourceValue_187 ⟨Eq.symm (by subst er184; exact (lf_s hf2 (lf_f c13_0 (lf_f c13_1 (lf_f c13_2 (lf_f c13_3 (lf_f c13_4 (lf_f c13_5 (lf_f c13_6 (lf_f c13_7 (lf_f c13_8 (lf_f c13_9 (lf_f c13_10 (lf_f c13_11 (lf_f c13_12 (lf_f c13_13 (lf_f c13_14 (lf_f c13_15 (lf_t c13_16 rfl))))))))))))))))))), rfl⟩
                                    · refine lv_tableOut (tgt := 188) hx hb dX5_sourceValue_13 (by have t0 := lv_neT (a := 0) c13_0 (by decide +kernel); have t1 := lv_neT (a := 1) c13_1 (by decide +kernel); have t2 := lv_neT (a := 2) c13_2 (by decide +kernel); have t3 := lv_neT (a := 3) c13_3 (by decide +kernel); have t4 := lv_neT (a := 4) c13_4 (by decide +kernel); have t5 := lv_neT (a := 5) c13_5 (by decide +kernel); have t6 := lv_neT (a := 6) c13_6 (by decide +kernel); have t7 := lv_neT (a := 7) c13_7 (by decide +kernel); have t8 := lv_neT (a := 8) c13_8 (by decide +kernel); have t9 := lv_neT (a := 9) c13_9 (by decide +kernel); have t10 := lv_neT (a := 10) c13_10 (by decide +kernel); have t11 := lv_neT (a := 11) c13_11 (by decide +kernel); have t12 := lv_neT (a := 12) c13_12 (by decide +kernel); have t13 := lv_neT (a := 13) c13_13 (by decide +kernel); have t14 := lv_neT (a := 14) c13_14 (by decide +kernel); have t15 := lv_neT (a := 15) c13_15 (by decide +kernel); have t16 := lv_neT (a := 16) c13_16 (by decide +kernel); omega) (by decide) ?_
                                      refine lv_aload_n hx hb dX5_sourceValue_188 rfl (lv_at hl 0 rfl) ?_
                                      refine lv_iload_n hx hb dX5_sourceValue_189 rfl (lv_at hl 3 rfl) ?_
                                      refine bk_ip (rnS (rest := []) Z hw (k_X5_tallyOf (i := i2) (p2 := p2) I0 hi2) v_X5_tallyOf rfl q_3_103 hl.1 rfl rfl (Nat.le_of_ble_eq_true rfl) ⟨(Nat.le_of_ble_eq_true rfl), (Nat.le_of_ble_eq_true rfl)⟩ ⟨(Nat.le_of_ble_eq_true rfl), (Nat.le_of_ble_eq_true rfl)⟩ dX5_sourceValue_190) hw Z (fun r190 er190 H locs hw => ?_)
                                      exact rt_i Z hr hlk hw dX5_sourceValue_193 ⟨Eq.symm (by subst er190; exact (lf_s hf2 (lf_f c13_0 (lf_f c13_1 (lf_f c13_2 (lf_f c13_3 (lf_f c13_4 (lf_f c13_5 (lf_f c13_6 (lf_f c13_7 (lf_f c13_8 (lf_f c13_9 (lf_f c13_10 (lf_f c13_11 (lf_f c13_12 (lf_f c13_13 (lf_f c13_14 (lf_f c13_15 (lf_f c13_16 rfl))))))))))))))))))), rfl⟩
abbrev rmX5_sectionsOf : Room := { frames := 1, cells := 0, slots := 0, locals := 21 }
def f_X5_sectionsOf (σ : St) (p1 : Int32) : Int32 := (oc (f_X5_find σ p1) 0 (fun i2 => σ (9 + i2) 18))
theorem v_X5_sectionsOf : cvV yX5_sectionsOf "NestedBells$Machine" cX5_sectionsOf 3 (some (.int)) 1 := ⟨q_3_107, q_3_108, q_1_2, q_3_109, rfl, by decide +kernel, by decide +kernel, by decide +kernel⟩
set_option maxHeartbeats 4000000 in
set_option maxRecDepth 100000 in
theorem k_X5_sectionsOf {l : Launch} {D : va_G} {T : Nat → ClassId} {g ad : Nat → Nat} {σ : St} {p1 : Int32} (I0 : InvC σ) : mX l yX5_sectionsOf cX5_sectionsOf 3 (some (.int)) rmX5_sectionsOf D T g 57 ad (cE (mE T ad) σ) [.ref (ad 0), .int p1] (qI D 57 ad (mE T ad) (pR (f_X5_sectionsOf σ p1) σ)) := by
  refine mX.of (own := "NestedBells$Machine") (by decide +kernel) (Nat.le_of_ble_eq_true rfl) rfl ?_
  intro p e s m below meth c A ls H locs Z hr hlk _ hw hl
  have hx := Z.1.1
  have hb := Z.1.2.1
  have hl : lv_has ls 3 [(0, .ref (ad 0)), (1, .int p1)] := hl
  refine lv_aload_n hx hb dX5_sectionsOf_0 rfl (lv_at hl 0 rfl) ?_
  refine lv_iload_n hx hb dX5_sectionsOf_1 rfl (lv_at hl 1 rfl) ?_
  refine bk_qp (rnV (rest := []) Z hw (k_X5_find (p1 := p1) I0) v_X5_find q_2_181 (0) (by decide) rfl rfl rfl rfl hl.1 rfl rfl (Nat.le_of_ble_eq_true rfl) ⟨(Nat.le_of_ble_eq_true rfl), (Nat.le_of_ble_eq_true rfl)⟩ ⟨(Nat.le_of_ble_eq_true rfl), (Nat.le_of_ble_eq_true rfl)⟩ dX5_sectionsOf_2) hw Z (fun r2 er2 H locs hw => ?_)
  subst er2
  rcases hf2 : f_X5_find σ p1 with _ | i2
  · show W _ _ _ _ _ _ _ _ _ _ _ _ _ _ _ (F0 _ _ _ (.null :: _))
    refine lv_astore_nN (lv' := [(2, .null), (0, .ref (ad 0)), (1, .int p1)]) hx hb dX5_sectionsOf_5 rfl hl (by decide) rfl (fun ls hl => ?_)
    refine lv_aload_nN hx hb dX5_sectionsOf_6 rfl (lv_at hl 0 rfl) ?_
    refine lv_ifnonnullN hx hb dX5_sectionsOf_7 ?_
    refine lv_iconst (v := 0) hx hb dX5_sectionsOf_10 (by decide +kernel) ?_
    refine lv_goto (tgt := 18) hx hb dX5_sectionsOf_11 (by decide) ?_
    exact rt_i Z hr hlk hw dX5_sectionsOf_18 ⟨Eq.symm (lf_n hf2 rfl), rfl⟩
  · have hi2 : i2 < 12 := fin_lt I0 hf2
    show W _ _ _ _ _ _ _ _ _ _ _ _ _ _ _ (F0 _ _ _ (.ref (ad (9 + i2)) :: _))
    refine lv_astore_n (lv' := [(2, .ref (ad (9 + i2))), (0, .ref (ad 0)), (1, .int p1)]) hx hb dX5_sectionsOf_5 rfl hl (by decide) rfl (fun ls hl => ?_)
    refine lv_aload_n hx hb dX5_sectionsOf_6 rfl (lv_at hl 0 rfl) ?_
    refine lv_ifnonnull (tgt := 14) hx hb dX5_sectionsOf_7 (by decide) ?_
    refine lv_aload_n hx hb dX5_sectionsOf_14 rfl (lv_at hl 0 rfl) ?_
    refine gU (j := 18) (v := .int (σ (9 + i2) 18)) Z hw hi2 (by decide) q_1_126 rfl rfl dX5_sectionsOf_15 ?_
    exact rt_i Z hr hlk hw dX5_sectionsOf_18 ⟨Eq.symm (lf_s hf2 rfl), rfl⟩
abbrev rmX5_sectionValue : Room := { frames := 1, cells := 0, slots := 0, locals := 22 }
def f_X5_sectionValue (σ : St) (p1 : Int32) (p2 : Int32) (p3 : Int32) : Int32 := (oc (f_X5_find σ p1) (-1) (fun i2 => (let r21 := f_X8_isWithin p2 0 ((σ (9 + i2) 18) - 1); (if r21 = 0 then (-1) else (if p3 = 0 then σ (33 + 2 * i2 + p2.toNatClampNeg) 0 else (if p3 = 1 then σ (33 + 2 * i2 + p2.toNatClampNeg) 1 else (if p3 = 2 then σ (33 + 2 * i2 + p2.toNatClampNeg) 2 else (let r84 := f_X7_isStacked σ i2; (if r84 = 0 then 0 else (let r97 := f_X6_holds σ i2 p2.toNatClampNeg (σ (9 + i2) 8); (if r97 = 0 then 0 else 1)))))))))))
theorem v_X5_sectionValue : cvV yX5_sectionValue "NestedBells$Machine" cX5_sectionValue 6 (some (.int)) 3 := ⟨q_3_111, q_3_112, q_1_2, q_3_113, rfl, by decide +kernel, by decide +kernel, by decide +kernel⟩
set_option maxHeartbeats 4000000 in
set_option maxRecDepth 100000 in
theorem k_X5_sectionValue {l : Launch} {D : va_G} {T : Nat → ClassId} {g ad : Nat → Nat} {σ : St} {p1 : Int32} {p2 : Int32} {p3 : Int32} (I0 : InvC σ) : mX l yX5_sectionValue cX5_sectionValue 6 (some (.int)) rmX5_sectionValue D T g 57 ad (cE (mE T ad) σ) [.ref (ad 0), .int p1, .int p2, .int p3] (qI D 57 ad (mE T ad) (pR (f_X5_sectionValue σ p1 p2 p3) σ)) := by
  refine mX.of (own := "NestedBells$Machine") (by decide +kernel) (Nat.le_of_ble_eq_true rfl) rfl ?_
  intro p e s m below meth c A ls H locs Z hr hlk _ hw hl
  have hx := Z.1.1
  have hb := Z.1.2.1
  have hl : lv_has ls 6 [(0, .ref (ad 0)), (1, .int p1), (2, .int p2), (3, .int p3)] := hl
  refine lv_aload_n hx hb dX5_sectionValue_0 rfl (lv_at hl 0 rfl) ?_
  refine lv_iload_n hx hb dX5_sectionValue_1 rfl (lv_at hl 1 rfl) ?_
  refine bk_qp (rnV (rest := []) Z hw (k_X5_find (p1 := p1) I0) v_X5_find q_2_181 (0) (by decide) rfl rfl rfl rfl hl.1 rfl rfl (Nat.le_of_ble_eq_true rfl) ⟨(Nat.le_of_ble_eq_true rfl), (Nat.le_of_ble_eq_true rfl)⟩ ⟨(Nat.le_of_ble_eq_true rfl), (Nat.le_of_ble_eq_true rfl)⟩ dX5_sectionValue_2) hw Z (fun r2 er2 H locs hw => ?_)
  subst er2
  rcases hf2 : f_X5_find σ p1 with _ | i2
  · show W _ _ _ _ _ _ _ _ _ _ _ _ _ _ _ (F0 _ _ _ (.null :: _))
    refine lv_astoreN (lv' := [(4, .null), (0, .ref (ad 0)), (1, .int p1), (2, .int p2), (3, .int p3)]) hx hb dX5_sectionValue_5 hl (by decide) rfl (fun ls hl => ?_)
    refine lv_aloadN hx hb dX5_sectionValue_7 (lv_at hl 0 rfl) ?_
    refine lv_ifnullN (tgt := 27) hx hb dX5_sectionValue_9 (by decide) ?_
    refine lv_iconst (v := (-1)) hx hb dX5_sectionValue_27 (by decide +kernel) ?_
    exact rt_i Z hr hlk hw dX5_sectionValue_28 ⟨Eq.symm (lf_n hf2 rfl), rfl⟩
  · have hi2 : i2 < 12 := fin_lt I0 hf2
    show W _ _ _ _ _ _ _ _ _ _ _ _ _ _ _ (F0 _ _ _ (.ref (ad (9 + i2)) :: _))
    refine lv_astore (lv' := [(4, .ref (ad (9 + i2))), (0, .ref (ad 0)), (1, .int p1), (2, .int p2), (3, .int p3)]) hx hb dX5_sectionValue_5 hl (by decide) rfl (fun ls hl => ?_)
    refine lv_aload hx hb dX5_sectionValue_7 (lv_at hl 0 rfl) ?_
    refine lv_ifnull hx hb dX5_sectionValue_9 ?_
    refine lv_iload_n hx hb dX5_sectionValue_12 rfl (lv_at hl 3 rfl) ?_
    refine lv_iconst (v := 0) hx hb dX5_sectionValue_13 (by decide +kernel) ?_
    refine lv_aload hx hb dX5_sectionValue_14 (lv_at hl 0 rfl) ?_
    refine gU (j := 18) (v := .int (σ (9 + i2) 18)) Z hw hi2 (by decide) q_1_126 rfl rfl dX5_sectionValue_16 ?_
    refine lv_iconst (v := 1) hx hb dX5_sectionValue_19 (by decide +kernel) ?_
    refine lv_isub hx hb dX5_sectionValue_20 ?_
    refine bk_ip (rnSN (rest := []) Z hw (k_X8_isWithin (p1 := p2) (p2 := 0) (p3 := (σ (9 + i2) 18) - 1) ) v_X8_isWithin Z.2.2.2.1.1.2.2.2 hl.1 rfl rfl (Nat.le_of_ble_eq_true rfl) ⟨(Nat.le_of_ble_eq_true rfl), (Nat.le_of_ble_eq_true rfl)⟩ ⟨(Nat.le_of_ble_eq_true rfl), (Nat.le_of_ble_eq_true rfl)⟩ dX5_sectionValue_21) hw Z (fun r21 er21 H locs hw => ?_)
    refine lv_if_ne (tgt := 29) hx hb dX5_sectionValue_24 (by decide) (fun c24 => ?_) (fun c24 => ?_)
    · refine lv_aload hx hb dX5_sectionValue_29 (lv_at hl 0 rfl) ?_
      refine gU (j := 19) (v := .ref (ad (21 + i2))) Z hw hi2 (by decide) q_1_128 rfl rfl dX5_sectionValue_31 ?_
      refine lv_iload_n hx hb dX5_sectionValue_34 rfl (lv_at hl 3 rfl) ?_
      refine qE (n := 2) (t0 := 4) (v := .ref (ad (33 + 2 * i2 + p2.toNatClampNeg))) Z hw (21 + i2) (by omega) rfl (mE_sar hi2) rfl (sv_vp er21 c24 (I0.2.2.2.2 _ hi2)) (tr_ok rfl (tn_lt (sv_vp er21 c24 (I0.2.2.2.2 _ hi2)))) dX5_sectionValue_35 ?_
      refine lv_astore (lv' := [(5, .ref (ad (33 + 2 * i2 + p2.toNatClampNeg))), (4, .ref (ad (9 + i2))), (0, .ref (ad 0)), (1, .int p1), (2, .int p2), (3, .int p3)]) hx hb dX5_sectionValue_36 hl (by decide) rfl (fun ls hl => ?_)
      refine lv_iload_n hx hb dX5_sectionValue_38 rfl (lv_at hl 5 rfl) ?_
      rcases Decidable.em (p3 = 0) with c39_0 | c39_0
      · refine lv_tableIn (off := 25) (tgt := 64) hx hb dX5_sectionValue_39 (by rw [c39_0]; decide +kernel) (by rw [c39_0]; decide +kernel) (by rw [c39_0]; rfl) (by decide) ?_
        refine lv_aload hx hb dX5_sectionValue_64 (lv_at hl 0 rfl) ?_
        refine gS (j := 0) (v := .int (σ (33 + 2 * i2 + p2.toNatClampNeg) 0)) Z hw hi2 (tn_lt (sv_vp er21 c24 (I0.2.2.2.2 _ hi2))) (by decide) q_1_77 rfl rfl dX5_sectionValue_66 ?_
        exact rt_i Z hr hlk hw dX5_sectionValue_69 ⟨Eq.symm (by subst er21; exact (lf_s hf2 (lf_f c24 (lf_t c39_0 rfl)))), rfl⟩
      · rcases Decidable.em (p3 = 1) with c39_1 | c39_1
        · refine lv_tableIn (off := 31) (tgt := 70) hx hb dX5_sectionValue_39 (by rw [c39_1]; decide +kernel) (by rw [c39_1]; decide +kernel) (by rw [c39_1]; rfl) (by decide) ?_
          refine lv_aload hx hb dX5_sectionValue_70 (lv_at hl 0 rfl) ?_
          refine gS (j := 1) (v := .int (σ (33 + 2 * i2 + p2.toNatClampNeg) 1)) Z hw hi2 (tn_lt (sv_vp er21 c24 (I0.2.2.2.2 _ hi2))) (by decide) q_1_79 rfl rfl dX5_sectionValue_72 ?_
          exact rt_i Z hr hlk hw dX5_sectionValue_75 ⟨Eq.symm (by subst er21; exact (lf_s hf2 (lf_f c24 (lf_f c39_0 (lf_t c39_1 rfl))))), rfl⟩
        · rcases Decidable.em (p3 = 2) with c39_2 | c39_2
          · refine lv_tableIn (off := 37) (tgt := 76) hx hb dX5_sectionValue_39 (by rw [c39_2]; decide +kernel) (by rw [c39_2]; decide +kernel) (by rw [c39_2]; rfl) (by decide) ?_
            refine lv_aload hx hb dX5_sectionValue_76 (lv_at hl 0 rfl) ?_
            refine gS (j := 2) (v := .int (σ (33 + 2 * i2 + p2.toNatClampNeg) 2)) Z hw hi2 (tn_lt (sv_vp er21 c24 (I0.2.2.2.2 _ hi2))) (by decide) q_1_81 rfl rfl dX5_sectionValue_78 ?_
            exact rt_i Z hr hlk hw dX5_sectionValue_81 ⟨Eq.symm (by subst er21; exact (lf_s hf2 (lf_f c24 (lf_f c39_0 (lf_f c39_1 (lf_t c39_2 rfl)))))), rfl⟩
          · refine lv_tableOut (tgt := 82) hx hb dX5_sectionValue_39 (by have t0 := lv_neT (a := 0) c39_0 (by decide +kernel); have t1 := lv_neT (a := 1) c39_1 (by decide +kernel); have t2 := lv_neT (a := 2) c39_2 (by decide +kernel); omega) (by decide) ?_
            refine lv_aload hx hb dX5_sectionValue_82 (lv_at hl 1 rfl) ?_
            refine bk_ip (rnV (rest := []) Z hw (k_X7_isStacked (i := i2) I0 hi2) v_X7_isStacked q_2_185 (9 + i2) (by have h1 : i2 < 12 := hi2; omega) rfl (mE_src hi2) rfl rfl hl.1 rfl rfl (Nat.le_of_ble_eq_true rfl) ⟨(Nat.le_of_ble_eq_true rfl), (Nat.le_of_ble_eq_true rfl)⟩ ⟨(Nat.le_of_ble_eq_true rfl), (Nat.le_of_ble_eq_true rfl)⟩ dX5_sectionValue_84) hw Z (fun r84 er84 H locs hw => ?_)
            refine lv_if_eq (tgt := 107) hx hb dX5_sectionValue_87 (by decide) (fun c87 => ?_) (fun c87 => ?_)
            · refine lv_iconst (v := 0) hx hb dX5_sectionValue_107 (by decide +kernel) ?_
              exact rt_i Z hr hlk hw dX5_sectionValue_108 ⟨Eq.symm (by subst er84 er21; exact (lf_s hf2 (lf_f c24 (lf_f c39_0 (lf_f c39_1 (lf_f c39_2 (lf_t c87 rfl))))))), rfl⟩
            · refine lv_aload hx hb dX5_sectionValue_90 (lv_at hl 0 rfl) ?_
              refine lv_aload hx hb dX5_sectionValue_92 (lv_at hl 1 rfl) ?_
              refine gU (j := 8) (v := .int (σ (9 + i2) 8)) Z hw hi2 (by decide) q_1_106 rfl rfl dX5_sectionValue_94 ?_
              refine bk_ip (rnV (rest := []) Z hw (k_X6_holds (i := i2) (j := p2.toNatClampNeg) (p1 := σ (9 + i2) 8) I0 hi2 (tn_lt (sv_vp er21 c24 (I0.2.2.2.2 _ hi2)))) v_X6_holds q_2_237 (33 + 2 * i2 + p2.toNatClampNeg) (by have h1 : i2 < 12 := hi2; have h2 : p2.toNatClampNeg < 2 := (tn_lt (sv_vp er21 c24 (I0.2.2.2.2 _ hi2))); omega) rfl (mE_sec hi2 (tn_lt (sv_vp er21 c24 (I0.2.2.2.2 _ hi2)))) rfl rfl hl.1 rfl rfl (Nat.le_of_ble_eq_true rfl) ⟨(Nat.le_of_ble_eq_true rfl), (Nat.le_of_ble_eq_true rfl)⟩ ⟨(Nat.le_of_ble_eq_true rfl), (Nat.le_of_ble_eq_true rfl)⟩ dX5_sectionValue_97) hw Z (fun r97 er97 H locs hw => ?_)
              refine lv_if_eq (tgt := 107) hx hb dX5_sectionValue_100 (by decide) (fun c100 => ?_) (fun c100 => ?_)
              · refine lv_iconst (v := 0) hx hb dX5_sectionValue_107 (by decide +kernel) ?_
                exact rt_i Z hr hlk hw dX5_sectionValue_108 ⟨Eq.symm (by subst er97 er84 er21; exact (lf_s hf2 (lf_f c24 (lf_f c39_0 (lf_f c39_1 (lf_f c39_2 (lf_f c87 (lf_t c100 rfl)))))))), rfl⟩
              · refine lv_iconst (v := 1) hx hb dX5_sectionValue_103 (by decide +kernel) ?_
                refine lv_goto (tgt := 108) hx hb dX5_sectionValue_104 (by decide) ?_
                exact rt_i Z hr hlk hw dX5_sectionValue_108 ⟨Eq.symm (by subst er97 er84 er21; exact (lf_s hf2 (lf_f c24 (lf_f c39_0 (lf_f c39_1 (lf_f c39_2 (lf_f c87 (lf_f c100 rfl)))))))), rfl⟩
    · refine lv_iconst (v := (-1)) hx hb dX5_sectionValue_27 (by decide +kernel) ?_
      exact rt_i Z hr hlk hw dX5_sectionValue_28 ⟨Eq.symm (by subst er21; exact (lf_s hf2 (lf_t c24 rfl))), rfl⟩
abbrev rmX5_processorValue : Room := { frames := 3, cells := 0, slots := 0, locals := 65 }
def f_X5_processorValue (σ : St) (p1 : Int32) : Int32 := (if p1 = 0 then σ 0 0 else (if p1 = 1 then σ 1 0 else (if p1 = 2 then σ 1 1 else (if p1 = 3 then σ 1 2 else (if p1 = 4 then σ 1 3 else (if p1 = 5 then (let r94 := f_X5_level σ; r94) else (if p1 = 6 then (let r100 := f_X5_level σ; (let r103 := f_X5_candidateAbove σ r100; r103)) else (if p1 = 7 then σ 0 6 else (if p1 = 8 then σ 0 7 else (if p1 = 9 then σ 0 8 else (if p1 = 10 then σ 0 9 else σ 0 4)))))))))))
theorem v_X5_processorValue : cvV yX5_processorValue "NestedBells$Machine" cX5_processorValue 2 (some (.int)) 1 := ⟨q_3_84, q_3_85, q_1_2, q_3_86, rfl, by decide +kernel, by decide +kernel, by decide +kernel⟩
set_option maxHeartbeats 4000000 in
set_option maxRecDepth 100000 in
theorem k_X5_processorValue {l : Launch} {D : va_G} {T : Nat → ClassId} {g ad : Nat → Nat} {σ : St} {p1 : Int32} (I0 : InvC σ) : mX l yX5_processorValue cX5_processorValue 2 (some (.int)) rmX5_processorValue D T g 57 ad (cE (mE T ad) σ) [.ref (ad 0), .int p1] (qI D 57 ad (mE T ad) (pR (f_X5_processorValue σ p1) σ)) := by
  refine mX.of (own := "NestedBells$Machine") (by decide +kernel) (Nat.le_of_ble_eq_true rfl) rfl ?_
  intro p e s m below meth c A ls H locs Z hr hlk _ hw hl
  have hx := Z.1.1
  have hb := Z.1.2.1
  have hl : lv_has ls 2 [(0, .ref (ad 0)), (1, .int p1)] := hl
  refine lv_iload_n hx hb dX5_processorValue_0 rfl (lv_at hl 1 rfl) ?_
  rcases Decidable.em (p1 = 0) with c1_0 | c1_0
  · refine lv_tableIn (off := 59) (tgt := 60) hx hb dX5_processorValue_1 (by rw [c1_0]; decide +kernel) (by rw [c1_0]; decide +kernel) (by rw [c1_0]; rfl) (by decide) ?_
    refine lv_aload_n hx hb dX5_processorValue_60 rfl (lv_at hl 0 rfl) ?_
    refine gM (j := 0) (v := .int (σ 0 0)) Z hw  (by decide) q_1_170 rfl rfl dX5_processorValue_61 ?_
    exact rt_i Z hr hlk hw dX5_processorValue_64 ⟨Eq.symm (lf_t c1_0 rfl), rfl⟩
  · rcases Decidable.em (p1 = 1) with c1_1 | c1_1
    · refine lv_tableIn (off := 64) (tgt := 65) hx hb dX5_processorValue_1 (by rw [c1_1]; decide +kernel) (by rw [c1_1]; decide +kernel) (by rw [c1_1]; rfl) (by decide) ?_
      refine lv_aload_n hx hb dX5_processorValue_65 rfl (lv_at hl 0 rfl) ?_
      refine gM (j := 1) (v := .ref (ad 1)) Z hw  (by decide) q_1_171 rfl rfl dX5_processorValue_66 ?_
      refine lv_iconst (v := 0) hx hb dX5_processorValue_69 (by decide +kernel) ?_
      refine aE (v := σ 1 0) Z hw 1 (by decide) rfl (fun _ => rfl) (vp_in_nI (n := 0) (by decide) (by decide)) ((congrArg (σ 1) (nI_clamp (n := 0) (by decide))).trans rfl) dX5_processorValue_70 ?_
      exact rt_i Z hr hlk hw dX5_processorValue_71 ⟨Eq.symm (lf_f c1_0 (lf_t c1_1 rfl)), rfl⟩
    · rcases Decidable.em (p1 = 2) with c1_2 | c1_2
      · refine lv_tableIn (off := 71) (tgt := 72) hx hb dX5_processorValue_1 (by rw [c1_2]; decide +kernel) (by rw [c1_2]; decide +kernel) (by rw [c1_2]; rfl) (by decide) ?_
        refine lv_aload_n hx hb dX5_processorValue_72 rfl (lv_at hl 0 rfl) ?_
        refine gM (j := 1) (v := .ref (ad 1)) Z hw  (by decide) q_1_171 rfl rfl dX5_processorValue_73 ?_
        refine lv_iconst (v := 1) hx hb dX5_processorValue_76 (by decide +kernel) ?_
        refine aE (v := σ 1 1) Z hw 1 (by decide) rfl (fun _ => rfl) (vp_in_nI (n := 1) (by decide) (by decide)) ((congrArg (σ 1) (nI_clamp (n := 1) (by decide))).trans rfl) dX5_processorValue_77 ?_
        exact rt_i Z hr hlk hw dX5_processorValue_78 ⟨Eq.symm (lf_f c1_0 (lf_f c1_1 (lf_t c1_2 rfl))), rfl⟩
      · rcases Decidable.em (p1 = 3) with c1_3 | c1_3
        · refine lv_tableIn (off := 78) (tgt := 79) hx hb dX5_processorValue_1 (by rw [c1_3]; decide +kernel) (by rw [c1_3]; decide +kernel) (by rw [c1_3]; rfl) (by decide) ?_
          refine lv_aload_n hx hb dX5_processorValue_79 rfl (lv_at hl 0 rfl) ?_
          refine gM (j := 1) (v := .ref (ad 1)) Z hw  (by decide) q_1_171 rfl rfl dX5_processorValue_80 ?_
          refine lv_iconst (v := 2) hx hb dX5_processorValue_83 (by decide +kernel) ?_
          refine aE (v := σ 1 2) Z hw 1 (by decide) rfl (fun _ => rfl) (vp_in_nI (n := 2) (by decide) (by decide)) ((congrArg (σ 1) (nI_clamp (n := 2) (by decide))).trans rfl) dX5_processorValue_84 ?_
          exact rt_i Z hr hlk hw dX5_processorValue_85 ⟨Eq.symm (lf_f c1_0 (lf_f c1_1 (lf_f c1_2 (lf_t c1_3 rfl)))), rfl⟩
        · rcases Decidable.em (p1 = 4) with c1_4 | c1_4
          · refine lv_tableIn (off := 85) (tgt := 86) hx hb dX5_processorValue_1 (by rw [c1_4]; decide +kernel) (by rw [c1_4]; decide +kernel) (by rw [c1_4]; rfl) (by decide) ?_
            refine lv_aload_n hx hb dX5_processorValue_86 rfl (lv_at hl 0 rfl) ?_
            refine gM (j := 1) (v := .ref (ad 1)) Z hw  (by decide) q_1_171 rfl rfl dX5_processorValue_87 ?_
            refine lv_iconst (v := 3) hx hb dX5_processorValue_90 (by decide +kernel) ?_
            refine aE (v := σ 1 3) Z hw 1 (by decide) rfl (fun _ => rfl) (vp_in_nI (n := 3) (by decide) (by decide)) ((congrArg (σ 1) (nI_clamp (n := 3) (by decide))).trans rfl) dX5_processorValue_91 ?_
            exact rt_i Z hr hlk hw dX5_processorValue_92 ⟨Eq.symm (lf_f c1_0 (lf_f c1_1 (lf_f c1_2 (lf_f c1_3 (lf_t c1_4 rfl))))), rfl⟩
          · rcases Decidable.em (p1 = 5) with c1_5 | c1_5
            · refine lv_tableIn (off := 92) (tgt := 93) hx hb dX5_processorValue_1 (by rw [c1_5]; decide +kernel) (by rw [c1_5]; decide +kernel) (by rw [c1_5]; rfl) (by decide) ?_
              refine lv_aload_n hx hb dX5_processorValue_93 rfl (lv_at hl 0 rfl) ?_
              refine bk_ip (rnV (rest := []) Z hw (k_X5_level  I0) v_X5_level q_2_225 (0) (by decide) rfl rfl rfl rfl hl.1 rfl rfl (Nat.le_of_ble_eq_true rfl) ⟨(Nat.le_of_ble_eq_true rfl), (Nat.le_of_ble_eq_true rfl)⟩ ⟨(Nat.le_of_ble_eq_true rfl), (Nat.le_of_ble_eq_true rfl)⟩ dX5_processorValue_94) hw Z (fun r94 er94 H locs hw => ?_)
              exact rt_i Z hr hlk hw dX5_processorValue_97 ⟨Eq.symm (by subst er94; exact (lf_f c1_0 (lf_f c1_1 (lf_f c1_2 (lf_f c1_3 (lf_f c1_4 (lf_t c1_5 rfl))))))), rfl⟩
            · rcases Decidable.em (p1 = 6) with c1_6 | c1_6
              · refine lv_tableIn (off := 97) (tgt := 98) hx hb dX5_processorValue_1 (by rw [c1_6]; decide +kernel) (by rw [c1_6]; decide +kernel) (by rw [c1_6]; rfl) (by decide) ?_
                refine lv_aload_n hx hb dX5_processorValue_98 rfl (lv_at hl 0 rfl) ?_
                refine lv_aload_n hx hb dX5_processorValue_99 rfl (lv_at hl 0 rfl) ?_
                refine bk_ip (rnV (rest := [.ref (ad 0)]) Z hw (k_X5_level  I0) v_X5_level q_2_225 (0) (by decide) rfl rfl rfl rfl hl.1 rfl rfl (Nat.le_of_ble_eq_true rfl) ⟨(Nat.le_of_ble_eq_true rfl), (Nat.le_of_ble_eq_true rfl)⟩ ⟨(Nat.le_of_ble_eq_true rfl), (Nat.le_of_ble_eq_true rfl)⟩ dX5_processorValue_100) hw Z (fun r100 er100 H locs hw => ?_)
                refine bk_ip (rnV (rest := []) Z hw (k_X5_candidateAbove (p1 := r100) I0) v_X5_candidateAbove q_3_8 (0) (by decide) rfl rfl rfl rfl hl.1 rfl rfl (Nat.le_of_ble_eq_true rfl) ⟨(Nat.le_of_ble_eq_true rfl), (Nat.le_of_ble_eq_true rfl)⟩ ⟨(Nat.le_of_ble_eq_true rfl), (Nat.le_of_ble_eq_true rfl)⟩ dX5_processorValue_103) hw Z (fun r103 er103 H locs hw => ?_)
                exact rt_i Z hr hlk hw dX5_processorValue_106 ⟨Eq.symm (by subst er103 er100; exact (lf_f c1_0 (lf_f c1_1 (lf_f c1_2 (lf_f c1_3 (lf_f c1_4 (lf_f c1_5 (lf_t c1_6 rfl)))))))), rfl⟩
              · rcases Decidable.em (p1 = 7) with c1_7 | c1_7
                · refine lv_tableIn (off := 106) (tgt := 107) hx hb dX5_processorValue_1 (by rw [c1_7]; decide +kernel) (by rw [c1_7]; decide +kernel) (by rw [c1_7]; rfl) (by decide) ?_
                  refine lv_aload_n hx hb dX5_processorValue_107 rfl (lv_at hl 0 rfl) ?_
                  refine gM (j := 6) (v := .int (σ 0 6)) Z hw  (by decide) q_1_177 rfl rfl dX5_processorValue_108 ?_
                  exact rt_i Z hr hlk hw dX5_processorValue_111 ⟨Eq.symm (lf_f c1_0 (lf_f c1_1 (lf_f c1_2 (lf_f c1_3 (lf_f c1_4 (lf_f c1_5 (lf_f c1_6 (lf_t c1_7 rfl)))))))), rfl⟩
                · rcases Decidable.em (p1 = 8) with c1_8 | c1_8
                  · refine lv_tableIn (off := 111) (tgt := 112) hx hb dX5_processorValue_1 (by rw [c1_8]; decide +kernel) (by rw [c1_8]; decide +kernel) (by rw [c1_8]; rfl) (by decide) ?_
                    refine lv_aload_n hx hb dX5_processorValue_112 rfl (lv_at hl 0 rfl) ?_
                    refine gM (j := 7) (v := .int (σ 0 7)) Z hw  (by decide) q_1_179 rfl rfl dX5_processorValue_113 ?_
                    exact rt_i Z hr hlk hw dX5_processorValue_116 ⟨Eq.symm (lf_f c1_0 (lf_f c1_1 (lf_f c1_2 (lf_f c1_3 (lf_f c1_4 (lf_f c1_5 (lf_f c1_6 (lf_f c1_7 (lf_t c1_8 rfl))))))))), rfl⟩
                  · rcases Decidable.em (p1 = 9) with c1_9 | c1_9
                    · refine lv_tableIn (off := 116) (tgt := 117) hx hb dX5_processorValue_1 (by rw [c1_9]; decide +kernel) (by rw [c1_9]; decide +kernel) (by rw [c1_9]; rfl) (by decide) ?_
                      refine lv_aload_n hx hb dX5_processorValue_117 rfl (lv_at hl 0 rfl) ?_
                      refine gM (j := 8) (v := .int (σ 0 8)) Z hw  (by decide) q_1_180 rfl rfl dX5_processorValue_118 ?_
                      exact rt_i Z hr hlk hw dX5_processorValue_121 ⟨Eq.symm (lf_f c1_0 (lf_f c1_1 (lf_f c1_2 (lf_f c1_3 (lf_f c1_4 (lf_f c1_5 (lf_f c1_6 (lf_f c1_7 (lf_f c1_8 (lf_t c1_9 rfl)))))))))), rfl⟩
                    · rcases Decidable.em (p1 = 10) with c1_10 | c1_10
                      · refine lv_tableIn (off := 121) (tgt := 122) hx hb dX5_processorValue_1 (by rw [c1_10]; decide +kernel) (by rw [c1_10]; decide +kernel) (by rw [c1_10]; rfl) (by decide) ?_
                        refine lv_aload_n hx hb dX5_processorValue_122 rfl (lv_at hl 0 rfl) ?_
                        refine gM (j := 9) (v := .int (σ 0 9)) Z hw  (by decide) q_1_181 rfl rfl dX5_processorValue_123 ?_
                        exact rt_i Z hr hlk hw dX5_processorValue_126 ⟨Eq.symm (lf_f c1_0 (lf_f c1_1 (lf_f c1_2 (lf_f c1_3 (lf_f c1_4 (lf_f c1_5 (lf_f c1_6 (lf_f c1_7 (lf_f c1_8 (lf_f c1_9 (lf_t c1_10 rfl))))))))))), rfl⟩
                      · refine lv_tableOut (tgt := 127) hx hb dX5_processorValue_1 (by have t0 := lv_neT (a := 0) c1_0 (by decide +kernel); have t1 := lv_neT (a := 1) c1_1 (by decide +kernel); have t2 := lv_neT (a := 2) c1_2 (by decide +kernel); have t3 := lv_neT (a := 3) c1_3 (by decide +kernel); have t4 := lv_neT (a := 4) c1_4 (by decide +kernel); have t5 := lv_neT (a := 5) c1_5 (by decide +kernel); have t6 := lv_neT (a := 6) c1_6 (by decide +kernel); have t7 := lv_neT (a := 7) c1_7 (by decide +kernel); have t8 := lv_neT (a := 8) c1_8 (by decide +kernel); have t9 := lv_neT (a := 9) c1_9 (by decide +kernel); have t10 := lv_neT (a := 10) c1_10 (by decide +kernel); omega) (by decide) ?_
                        refine lv_aload_n hx hb dX5_processorValue_127 rfl (lv_at hl 0 rfl) ?_
                        refine gM (j := 4) (v := .int (σ 0 4)) Z hw  (by decide) q_1_174 rfl rfl dX5_processorValue_128 ?_
                        exact rt_i Z hr hlk hw dX5_processorValue_131 ⟨Eq.symm (lf_f c1_0 (lf_f c1_1 (lf_f c1_2 (lf_f c1_3 (lf_f c1_4 (lf_f c1_5 (lf_f c1_6 (lf_f c1_7 (lf_f c1_8 (lf_f c1_9 (lf_f c1_10 rfl))))))))))), rfl⟩
abbrev rmX5_accountValue : Room := { frames := 1, cells := 0, slots := 0, locals := 22 }
def f_X5_accountValue (σ : St) (p1 : Int32) : Int32 := (let r4 := f_X8_isWithin p1 0 9; (if r4 = 0 then (-1) else σ 2 p1.toNatClampNeg))
theorem v_X5_accountValue : cvV yX5_accountValue "NestedBells$Machine" cX5_accountValue 2 (some (.int)) 1 := ⟨q_3_88, q_3_89, q_1_2, q_3_90, rfl, by decide +kernel, by decide +kernel, by decide +kernel⟩
set_option maxHeartbeats 4000000 in
set_option maxRecDepth 100000 in
theorem k_X5_accountValue {l : Launch} {D : va_G} {T : Nat → ClassId} {g ad : Nat → Nat} {σ : St} {p1 : Int32} (I0 : InvC σ) : mX l yX5_accountValue cX5_accountValue 2 (some (.int)) rmX5_accountValue D T g 57 ad (cE (mE T ad) σ) [.ref (ad 0), .int p1] (qI D 57 ad (mE T ad) (pR (f_X5_accountValue σ p1) σ)) := by
  refine mX.of (own := "NestedBells$Machine") (by decide +kernel) (Nat.le_of_ble_eq_true rfl) rfl ?_
  intro p e s m below meth c A ls H locs Z hr hlk _ hw hl
  have hx := Z.1.1
  have hb := Z.1.2.1
  have hl : lv_has ls 2 [(0, .ref (ad 0)), (1, .int p1)] := hl
  refine lv_iload_n hx hb dX5_accountValue_0 rfl (lv_at hl 1 rfl) ?_
  refine lv_iconst (v := 0) hx hb dX5_accountValue_1 (by decide +kernel) ?_
  refine lv_bipush (v := 9) hx hb dX5_accountValue_2 (by decide +kernel) ?_
  refine bk_ip (rnSN (rest := []) Z hw (k_X8_isWithin (p1 := p1) (p2 := 0) (p3 := 9) ) v_X8_isWithin Z.2.2.2.1.1.2.2.2 hl.1 rfl rfl (Nat.le_of_ble_eq_true rfl) ⟨(Nat.le_of_ble_eq_true rfl), (Nat.le_of_ble_eq_true rfl)⟩ ⟨(Nat.le_of_ble_eq_true rfl), (Nat.le_of_ble_eq_true rfl)⟩ dX5_accountValue_4) hw Z (fun r4 er4 H locs hw => ?_)
  refine lv_if_eq (tgt := 19) hx hb dX5_accountValue_7 (by decide) (fun c7 => ?_) (fun c7 => ?_)
  · refine lv_iconst (v := (-1)) hx hb dX5_accountValue_19 (by decide +kernel) ?_
    exact rt_i Z hr hlk hw dX5_accountValue_20 ⟨Eq.symm (by subst er4; exact (lf_t c7 rfl)), rfl⟩
  · refine lv_aload_n hx hb dX5_accountValue_10 rfl (lv_at hl 0 rfl) ?_
    refine gM (j := 2) (v := .ref (ad 2)) Z hw  (by decide) q_1_172 rfl rfl dX5_accountValue_11 ?_
    refine lv_iload_n hx hb dX5_accountValue_14 rfl (lv_at hl 1 rfl) ?_
    refine aE (v := σ 2 p1.toNatClampNeg) Z hw 2 (by decide) rfl (fun _ => rfl) (isw_vp er4 c7 (by decide)) rfl dX5_accountValue_15 ?_
    refine lv_goto (tgt := 20) hx hb dX5_accountValue_16 (by decide) ?_
    exact rt_i Z hr hlk hw dX5_accountValue_20 ⟨Eq.symm (by subst er4; exact (lf_f c7 rfl)), rfl⟩
abbrev rmX5_spendUntilOnTop : Room := { frames := 4, cells := 0, slots := 0, locals := 88 }
def f_X5_spendUntilOnTop_l21 (σ : St) (p2 : Int32) (i2 : Nat) : Nat → Nat → St → Int32 × St
  | 0, k21, t21 => (0, t21)
  | n21 + 1, k21, t21 => (if p2 < (nI k21) then ((-1), t21) else (let r28 := (f_X5_tick t21).1; let s28 := (f_X5_tick t21).2; (if (s28 (9 + i2) 9) ≤ (σ (9 + i2) 9) then (f_X5_spendUntilOnTop_l21 σ p2 i2 n21 (k21 + 1) s28) else (nI k21, s28))))
def f_X5_spendUntilOnTop (σ : St) (p1 : Int32) (p2 : Int32) : Int32 × St := (oc (f_X5_find σ p1) ((-1), σ) (fun i2 => (f_X5_spendUntilOnTop_l21 σ p2 i2 fu1002 1 σ)))
theorem v_X5_spendUntilOnTop : cvV yX5_spendUntilOnTop "NestedBells$Machine" cX5_spendUntilOnTop 6 (some (.int)) 2 := ⟨q_4_129, q_4_130, q_1_2, q_4_131, rfl, by decide +kernel, by decide +kernel, by decide +kernel⟩
set_option maxHeartbeats 4000000 in
set_option maxRecDepth 100000 in
theorem L_X5_spendUntilOnTop_21 {l : Launch} {D : va_G} {T : Nat → ClassId} {g ad : Nat → Nat} {p : Program} {e : Env} {s : State} {m : MethodId} {below : List Frame} {meth : Method} {c : Code} {A : Nat → Prop} {σ : St} {p1 : Int32} {p2 : Int32} {i2 : Nat} (Z : en p m c cX5_spendUntilOnTop 6 s [.ref (ad 0), .int p1, .int p2].toArray "NestedBells$Machine" D T g A) (hr : meth.sig.returnType = (some (.int))) (hlk : meth.locks = false) (hb2 : p2.toInt ≤ 1000) (hi2 : i2 < 12) : ∀ (n21 : Nat) (k21 : Nat) (t21 : St) (H : Heap) (locs : List Loc) (ls : Array Slot), k21 ≤ 1001 → 1001 < k21 + n21 → InvC t21 → wo D A s.heap 57 ad (cE (mE T ad) t21) H locs → lv_has ls 6 [(5, .int (nI k21)), (4, .int (σ (9 + i2) 9)), (3, .ref (ad (9 + i2))), (0, .ref (ad 0)), (2, .int p2)] → W p l e rmX5_spendUntilOnTop s m [.ref (ad 0), .int p1, .int p2].toArray below meth c H locs 0 0 (MQ below (qI D 57 ad (mE T ad) (pI (f_X5_spendUntilOnTop_l21 σ p2 i2 n21 k21 t21) InvC) A) [.ref (ad 0), .int p1, .int p2].toArray s rmX5_spendUntilOnTop.cells rmX5_spendUntilOnTop.slots A) (F0 m 21 ls []) := by
  have hx := Z.1.1
  have hb := Z.1.2.1
  intro n21
  induction n21 with
  | zero =>
    intro k21 t21 H locs ls hk21 hn21 It21 hw hl
    exact absurd hn21 (by omega)
  | succ n21 ih =>
    intro k21 t21 H locs ls hk21 hn21 It21 hw hl
    refine lv_iload hx hb dX5_spendUntilOnTop_21 (lv_at hl 0 rfl) ?_
    refine lv_iload_n hx hb dX5_spendUntilOnTop_23 rfl (lv_at hl 4 rfl) ?_
    refine lv_icmp_gt (tgt := 50) hx hb dX5_spendUntilOnTop_24 (by decide) (fun c24 => ?_) (fun c24 => ?_)
    · refine lv_iconst (v := (-1)) hx hb dX5_spendUntilOnTop_50 (by decide +kernel) ?_
      exact rt_i Z hr hlk hw dX5_spendUntilOnTop_51 (pI.mk (lf_t c24 rfl) It21)
    · have hkb21 : k21 < 1001 := kb_gt c24 hb2 hk21 (by decide)
      refine lv_aload_n hx hb dX5_spendUntilOnTop_27 rfl (lv_at hl 3 rfl) ?_
      refine bk_i (rnV (rest := []) Z hw (k_X5_tick  It21) v_X5_tick q_2_217 (0) (by decide) rfl rfl rfl rfl hl.1 rfl rfl (Nat.le_of_ble_eq_true rfl) ⟨(Nat.le_of_ble_eq_true rfl), (Nat.le_of_ble_eq_true rfl)⟩ ⟨(Nat.le_of_ble_eq_true rfl), (Nat.le_of_ble_eq_true rfl)⟩ dX5_spendUntilOnTop_28) hw Z (fun r28 s28 H locs hp hw => ?_)
      obtain ⟨er28, es28, I28⟩ := hp
      refine lv_pop hx hb dX5_spendUntilOnTop_31 rfl ?_
      refine lv_aload_n hx hb dX5_spendUntilOnTop_32 rfl (lv_at hl 2 rfl) ?_
      refine gU (j := 9) (v := .int (s28 (9 + i2) 9)) Z hw hi2 (by decide) q_1_108 rfl rfl dX5_spendUntilOnTop_33 ?_
      refine lv_iload hx hb dX5_spendUntilOnTop_36 (lv_at hl 1 rfl) ?_
      refine lv_icmp_le (tgt := 44) hx hb dX5_spendUntilOnTop_38 (by decide) (fun c38 => ?_) (fun c38 => ?_)
      · refine lv_iinc (v := nI (k21 + 1)) (lv' := [(5, .int (nI (k21 + 1))), (4, .int (σ (9 + i2) 9)), (3, .ref (ad (9 + i2))), (0, .ref (ad 0)), (2, .int p2)]) hx hb dX5_spendUntilOnTop_44 hl (k := 0) rfl (nI_1 _) (by decide) rfl (fun ls hl => ?_)
        refine lv_goto (tgt := 21) hx hb dX5_spendUntilOnTop_47 (by decide) ?_
        have q21 : (f_X5_spendUntilOnTop_l21 σ p2 i2 n21 (k21 + 1) s28) = (f_X5_spendUntilOnTop_l21 σ p2 i2 (n21 + 1) k21 t21) := (by subst es28 er28; exact (lf_f c24 (lf_t c38 rfl)))
        rw [← q21]
        exact ih (k21 + 1) s28 H locs ls (by omega) (by omega) I28 hw (lv_sub hl [0, 1, 2, 3, 4] rfl)
      · refine lv_iload hx hb dX5_spendUntilOnTop_41 (lv_at hl 0 rfl) ?_
        exact rt_i Z hr hlk hw dX5_spendUntilOnTop_43 (pI.mk (by subst es28 er28; exact (lf_f c24 (lf_f c38 rfl))) I28)
set_option maxHeartbeats 4000000 in
set_option maxRecDepth 100000 in
theorem k_X5_spendUntilOnTop {l : Launch} {D : va_G} {T : Nat → ClassId} {g ad : Nat → Nat} {σ : St} {p1 : Int32} {p2 : Int32} (I0 : InvC σ) (hb2 : p2.toInt ≤ 1000) : mX l yX5_spendUntilOnTop cX5_spendUntilOnTop 6 (some (.int)) rmX5_spendUntilOnTop D T g 57 ad (cE (mE T ad) σ) [.ref (ad 0), .int p1, .int p2] (qI D 57 ad (mE T ad) (pI (f_X5_spendUntilOnTop σ p1 p2) InvC)) := by
  refine mX.of (own := "NestedBells$Machine") (by decide +kernel) (Nat.le_of_ble_eq_true rfl) rfl ?_
  intro p e s m below meth c A ls H locs Z hr hlk _ hw hl
  have hx := Z.1.1
  have hb := Z.1.2.1
  have hl : lv_has ls 6 [(0, .ref (ad 0)), (1, .int p1), (2, .int p2)] := hl
  refine lv_aload_n hx hb dX5_spendUntilOnTop_0 rfl (lv_at hl 0 rfl) ?_
  refine lv_iload_n hx hb dX5_spendUntilOnTop_1 rfl (lv_at hl 1 rfl) ?_
  refine bk_qp (rnV (rest := []) Z hw (k_X5_find (p1 := p1) I0) v_X5_find q_2_181 (0) (by decide) rfl rfl rfl rfl hl.1 rfl rfl (Nat.le_of_ble_eq_true rfl) ⟨(Nat.le_of_ble_eq_true rfl), (Nat.le_of_ble_eq_true rfl)⟩ ⟨(Nat.le_of_ble_eq_true rfl), (Nat.le_of_ble_eq_true rfl)⟩ dX5_spendUntilOnTop_2) hw Z (fun r2 er2 H locs hw => ?_)
  subst er2
  rcases hf2 : f_X5_find σ p1 with _ | i2
  · show W _ _ _ _ _ _ _ _ _ _ _ _ _ _ _ (F0 _ _ _ (.null :: _))
    refine lv_astore_nN (lv' := [(3, .null), (0, .ref (ad 0)), (1, .int p1), (2, .int p2)]) hx hb dX5_spendUntilOnTop_5 rfl hl (by decide) rfl (fun ls hl => ?_)
    refine lv_aload_nN hx hb dX5_spendUntilOnTop_6 rfl (lv_at hl 0 rfl) ?_
    refine lv_ifnonnullN hx hb dX5_spendUntilOnTop_7 ?_
    refine lv_iconst (v := (-1)) hx hb dX5_spendUntilOnTop_10 (by decide +kernel) ?_
    exact rt_i Z hr hlk hw dX5_spendUntilOnTop_11 (pI.mk (lf_n hf2 rfl) I0)
  · have hi2 : i2 < 12 := fin_lt I0 hf2
    show W _ _ _ _ _ _ _ _ _ _ _ _ _ _ _ (F0 _ _ _ (.ref (ad (9 + i2)) :: _))
    refine lv_astore_n (lv' := [(3, .ref (ad (9 + i2))), (0, .ref (ad 0)), (1, .int p1), (2, .int p2)]) hx hb dX5_spendUntilOnTop_5 rfl hl (by decide) rfl (fun ls hl => ?_)
    refine lv_aload_n hx hb dX5_spendUntilOnTop_6 rfl (lv_at hl 0 rfl) ?_
    refine lv_ifnonnull (tgt := 12) hx hb dX5_spendUntilOnTop_7 (by decide) ?_
    refine lv_aload_n hx hb dX5_spendUntilOnTop_12 rfl (lv_at hl 0 rfl) ?_
    refine gU (j := 9) (v := .int (σ (9 + i2) 9)) Z hw hi2 (by decide) q_1_108 rfl rfl dX5_spendUntilOnTop_13 ?_
    refine lv_istore (lv' := [(4, .int (σ (9 + i2) 9)), (3, .ref (ad (9 + i2))), (0, .ref (ad 0)), (1, .int p1), (2, .int p2)]) hx hb dX5_spendUntilOnTop_16 hl (by decide) rfl (fun ls hl => ?_)
    refine lv_iconst (v := 1) hx hb dX5_spendUntilOnTop_18 (by decide +kernel) ?_
    refine lv_istore (lv' := [(5, .int 1), (4, .int (σ (9 + i2) 9)), (3, .ref (ad (9 + i2))), (0, .ref (ad 0)), (1, .int p1), (2, .int p2)]) hx hb dX5_spendUntilOnTop_19 hl (by decide) rfl (fun ls hl => ?_)
    have q21 : (f_X5_spendUntilOnTop_l21 σ p2 i2 fu1002 1 σ) = (f_X5_spendUntilOnTop σ p1 p2) := (lf_s hf2 rfl)
    rw [← q21]
    exact L_X5_spendUntilOnTop_21 (σ := σ) (p1 := p1) (p2 := p2) (i2 := i2) Z hr hlk hb2 hi2 fu1002 1 σ H locs ls (by omega) (by unfold fu1002; omega) I0 hw (lv_sub hl [0, 1, 2, 3, 5] rfl)
abbrev rmX5_spendUntilIdle : Room := { frames := 4, cells := 0, slots := 0, locals := 88 }
def f_X5_spendUntilIdle_l2 (p1 : Int32) : Nat → Nat → St → Int32 × St
  | 0, k2, t2 => (0, t2)
  | n2 + 1, k2, t2 => (if p1 ≤ (nI k2) then (let r28 := f_X5_isIdle t2; (if r28 = 0 then ((-1), t2) else (p1, t2))) else (let r8 := f_X5_isIdle t2; (if r8 = 0 then (let r17 := (f_X5_tick t2).1; let s17 := (f_X5_tick t2).2; (f_X5_spendUntilIdle_l2 p1 n2 (k2 + 1) s17)) else (nI k2, t2))))
def f_X5_spendUntilIdle (σ : St) (p1 : Int32) : Int32 × St := (f_X5_spendUntilIdle_l2 p1 fu1001 0 σ)
theorem v_X5_spendUntilIdle : cvV yX5_spendUntilIdle "NestedBells$Machine" cX5_spendUntilIdle 3 (some (.int)) 1 := ⟨q_4_140, q_4_141, q_1_2, q_4_142, rfl, by decide +kernel, by decide +kernel, by decide +kernel⟩
set_option maxHeartbeats 4000000 in
set_option maxRecDepth 100000 in
theorem L_X5_spendUntilIdle_2 {l : Launch} {D : va_G} {T : Nat → ClassId} {g ad : Nat → Nat} {p : Program} {e : Env} {s : State} {m : MethodId} {below : List Frame} {meth : Method} {c : Code} {A : Nat → Prop} {p1 : Int32} (Z : en p m c cX5_spendUntilIdle 3 s [.ref (ad 0), .int p1].toArray "NestedBells$Machine" D T g A) (hr : meth.sig.returnType = (some (.int))) (hlk : meth.locks = false) (hb1 : p1.toInt ≤ 1000) : ∀ (n2 : Nat) (k2 : Nat) (t2 : St) (H : Heap) (locs : List Loc) (ls : Array Slot), k2 ≤ 1000 → 1000 < k2 + n2 → InvC t2 → wo D A s.heap 57 ad (cE (mE T ad) t2) H locs → lv_has ls 3 [(2, .int (nI k2)), (0, .ref (ad 0)), (1, .int p1)] → W p l e rmX5_spendUntilIdle s m [.ref (ad 0), .int p1].toArray below meth c H locs 0 0 (MQ below (qI D 57 ad (mE T ad) (pI (f_X5_spendUntilIdle_l2 p1 n2 k2 t2) InvC) A) [.ref (ad 0), .int p1].toArray s rmX5_spendUntilIdle.cells rmX5_spendUntilIdle.slots A) (F0 m 2 ls []) := by
  have hx := Z.1.1
  have hb := Z.1.2.1
  intro n2
  induction n2 with
  | zero =>
    intro k2 t2 H locs ls hk2 hn2 It2 hw hl
    exact absurd hn2 (by omega)
  | succ n2 ih =>
    intro k2 t2 H locs ls hk2 hn2 It2 hw hl
    refine lv_iload_n hx hb dX5_spendUntilIdle_2 rfl (lv_at hl 0 rfl) ?_
    refine lv_iload_n hx hb dX5_spendUntilIdle_3 rfl (lv_at hl 2 rfl) ?_
    refine lv_icmp_ge (tgt := 27) hx hb dX5_spendUntilIdle_4 (by decide) (fun c4 => ?_) (fun c4 => ?_)
    · refine lv_aload_n hx hb dX5_spendUntilIdle_27 rfl (lv_at hl 1 rfl) ?_
      refine bk_ip (rnV (rest := []) Z hw (k_X5_isIdle  It2) v_X5_isIdle q_4_143 (0) (by decide) rfl rfl rfl rfl hl.1 rfl rfl (Nat.le_of_ble_eq_true rfl) ⟨(Nat.le_of_ble_eq_true rfl), (Nat.le_of_ble_eq_true rfl)⟩ ⟨(Nat.le_of_ble_eq_true rfl), (Nat.le_of_ble_eq_true rfl)⟩ dX5_spendUntilIdle_28) hw Z (fun r28 er28 H locs hw => ?_)
      refine lv_if_eq (tgt := 38) hx hb dX5_spendUntilIdle_31 (by decide) (fun c31 => ?_) (fun c31 => ?_)
      · refine lv_iconst (v := (-1)) hx hb dX5_spendUntilIdle_38 (by decide +kernel) ?_
        exact rt_i Z hr hlk hw dX5_spendUntilIdle_39 (pI.mk (by subst er28; exact (lf_t c4 (lf_t c31 rfl))) It2)
      · refine lv_iload_n hx hb dX5_spendUntilIdle_34 rfl (lv_at hl 2 rfl) ?_
        refine lv_goto (tgt := 39) hx hb dX5_spendUntilIdle_35 (by decide) ?_
        exact rt_i Z hr hlk hw dX5_spendUntilIdle_39 (pI.mk (by subst er28; exact (lf_t c4 (lf_f c31 rfl))) It2)
    · have hkb2 : k2 < 1000 := kb_ge c4 hb1 hk2 (by decide)
      refine lv_aload_n hx hb dX5_spendUntilIdle_7 rfl (lv_at hl 1 rfl) ?_
      refine bk_ip (rnV (rest := []) Z hw (k_X5_isIdle  It2) v_X5_isIdle q_4_143 (0) (by decide) rfl rfl rfl rfl hl.1 rfl rfl (Nat.le_of_ble_eq_true rfl) ⟨(Nat.le_of_ble_eq_true rfl), (Nat.le_of_ble_eq_true rfl)⟩ ⟨(Nat.le_of_ble_eq_true rfl), (Nat.le_of_ble_eq_true rfl)⟩ dX5_spendUntilIdle_8) hw Z (fun r8 er8 H locs hw => ?_)
      refine lv_if_eq (tgt := 16) hx hb dX5_spendUntilIdle_11 (by decide) (fun c11 => ?_) (fun c11 => ?_)
      · refine lv_aload_n hx hb dX5_spendUntilIdle_16 rfl (lv_at hl 1 rfl) ?_
        refine bk_i (rnV (rest := []) Z hw (k_X5_tick  It2) v_X5_tick q_2_217 (0) (by decide) rfl rfl rfl rfl hl.1 rfl rfl (Nat.le_of_ble_eq_true rfl) ⟨(Nat.le_of_ble_eq_true rfl), (Nat.le_of_ble_eq_true rfl)⟩ ⟨(Nat.le_of_ble_eq_true rfl), (Nat.le_of_ble_eq_true rfl)⟩ dX5_spendUntilIdle_17) hw Z (fun r17 s17 H locs hp hw => ?_)
        obtain ⟨er17, es17, I17⟩ := hp
        refine lv_pop hx hb dX5_spendUntilIdle_20 rfl ?_
        refine lv_iinc (v := nI (k2 + 1)) (lv' := [(2, .int (nI (k2 + 1))), (0, .ref (ad 0)), (1, .int p1)]) hx hb dX5_spendUntilIdle_21 hl (k := 0) rfl (nI_1 _) (by decide) rfl (fun ls hl => ?_)
        refine lv_goto (tgt := 2) hx hb dX5_spendUntilIdle_24 (by decide) ?_
        have q2 : (f_X5_spendUntilIdle_l2 p1 n2 (k2 + 1) s17) = (f_X5_spendUntilIdle_l2 p1 (n2 + 1) k2 t2) := (by subst es17 er17 er8; exact (lf_f c4 (lf_t c11 rfl)))
        rw [← q2]
        exact ih (k2 + 1) s17 H locs ls (by omega) (by omega) I17 hw (lv_sub hl [0, 1, 2] rfl)
      · refine lv_iload_n hx hb dX5_spendUntilIdle_14 rfl (lv_at hl 0 rfl) ?_
        exact rt_i Z hr hlk hw dX5_spendUntilIdle_15 (pI.mk (by subst er8; exact (lf_f c4 (lf_f c11 rfl))) It2)
set_option maxHeartbeats 4000000 in
set_option maxRecDepth 100000 in
theorem k_X5_spendUntilIdle {l : Launch} {D : va_G} {T : Nat → ClassId} {g ad : Nat → Nat} {σ : St} {p1 : Int32} (I0 : InvC σ) (hb1 : p1.toInt ≤ 1000) : mX l yX5_spendUntilIdle cX5_spendUntilIdle 3 (some (.int)) rmX5_spendUntilIdle D T g 57 ad (cE (mE T ad) σ) [.ref (ad 0), .int p1] (qI D 57 ad (mE T ad) (pI (f_X5_spendUntilIdle σ p1) InvC)) := by
  refine mX.of (own := "NestedBells$Machine") (by decide +kernel) (Nat.le_of_ble_eq_true rfl) rfl ?_
  intro p e s m below meth c A ls H locs Z hr hlk _ hw hl
  have hx := Z.1.1
  have hb := Z.1.2.1
  have hl : lv_has ls 3 [(0, .ref (ad 0)), (1, .int p1)] := hl
  refine lv_iconst (v := 0) hx hb dX5_spendUntilIdle_0 (by decide +kernel) ?_
  refine lv_istore_n (lv' := [(2, .int 0), (0, .ref (ad 0)), (1, .int p1)]) hx hb dX5_spendUntilIdle_1 rfl hl (by decide) rfl (fun ls hl => ?_)
  have q2 : (f_X5_spendUntilIdle_l2 p1 fu1001 0 σ) = (f_X5_spendUntilIdle σ p1) := rfl
  rw [← q2]
  exact L_X5_spendUntilIdle_2 (p1 := p1) Z hr hlk hb1 fu1001 0 σ H locs ls (by omega) (by unfold fu1001; omega) I0 hw (lv_sub hl [0, 1, 2] rfl)
abbrev rmX5_makePending : Room := { frames := 2, cells := 0, slots := 0, locals := 45 }
def f_X5_makePending (σ : St) (p1 : Int32) : St := (oc (f_X5_find σ p1) σ (fun i2 => (if (σ (9 + i2) 1) = 0 then (let r21 := (f_X5_receiveEdge σ p1 i2).1; let s21 := (f_X5_receiveEdge σ p1 i2).2; s21) else (let r31 := (f_X5_changeLine σ p1 1).1; let s31 := (f_X5_changeLine σ p1 1).2; s31))))
theorem v_X5_makePending : cvV yX5_makePending "NestedBells$Machine" cX5_makePending 3 none 1 := ⟨q_4_155, q_4_156, q_1_2, q_4_157, rfl, by decide +kernel, by decide +kernel, by decide +kernel⟩
set_option maxHeartbeats 4000000 in
set_option maxRecDepth 100000 in
theorem k_X5_makePending {l : Launch} {D : va_G} {T : Nat → ClassId} {g ad : Nat → Nat} {σ : St} {p1 : Int32} (I0 : InvC σ) : mX l yX5_makePending cX5_makePending 3 none rmX5_makePending D T g 57 ad (cE (mE T ad) σ) [.ref (ad 0), .int p1] (qV D 57 ad (mE T ad) (pV (f_X5_makePending σ p1) InvC)) := by
  refine mX.of (own := "NestedBells$Machine") (by decide +kernel) (Nat.le_of_ble_eq_true rfl) rfl ?_
  intro p e s m below meth c A ls H locs Z hr hlk _ hw hl
  have hx := Z.1.1
  have hb := Z.1.2.1
  have hl : lv_has ls 3 [(0, .ref (ad 0)), (1, .int p1)] := hl
  refine lv_aload_n hx hb dX5_makePending_0 rfl (lv_at hl 0 rfl) ?_
  refine lv_iload_n hx hb dX5_makePending_1 rfl (lv_at hl 1 rfl) ?_
  refine bk_qp (rnV (rest := []) Z hw (k_X5_find (p1 := p1) I0) v_X5_find q_2_181 (0) (by decide) rfl rfl rfl rfl hl.1 rfl rfl (Nat.le_of_ble_eq_true rfl) ⟨(Nat.le_of_ble_eq_true rfl), (Nat.le_of_ble_eq_true rfl)⟩ ⟨(Nat.le_of_ble_eq_true rfl), (Nat.le_of_ble_eq_true rfl)⟩ dX5_makePending_2) hw Z (fun r2 er2 H locs hw => ?_)
  subst er2
  rcases hf2 : f_X5_find σ p1 with _ | i2
  · show W _ _ _ _ _ _ _ _ _ _ _ _ _ _ _ (F0 _ _ _ (.null :: _))
    refine lv_astore_nN (lv' := [(2, .null), (0, .ref (ad 0)), (1, .int p1)]) hx hb dX5_makePending_5 rfl hl (by decide) rfl (fun ls hl => ?_)
    refine lv_aload_nN hx hb dX5_makePending_6 rfl (lv_at hl 0 rfl) ?_
    refine lv_ifnonnullN hx hb dX5_makePending_7 ?_
    exact rt_v Z hr hlk hw dX5_makePending_10 ⟨Eq.symm (lf_n hf2 rfl), I0⟩
  · have hi2 : i2 < 12 := fin_lt I0 hf2
    show W _ _ _ _ _ _ _ _ _ _ _ _ _ _ _ (F0 _ _ _ (.ref (ad (9 + i2)) :: _))
    refine lv_astore_n (lv' := [(2, .ref (ad (9 + i2))), (0, .ref (ad 0)), (1, .int p1)]) hx hb dX5_makePending_5 rfl hl (by decide) rfl (fun ls hl => ?_)
    refine lv_aload_n hx hb dX5_makePending_6 rfl (lv_at hl 0 rfl) ?_
    refine lv_ifnonnull (tgt := 11) hx hb dX5_makePending_7 (by decide) ?_
    refine lv_aload_n hx hb dX5_makePending_11 rfl (lv_at hl 0 rfl) ?_
    refine gU (j := 1) (v := .int (σ (9 + i2) 1)) Z hw hi2 (by decide) q_1_92 rfl rfl dX5_makePending_12 ?_
    refine lv_if_ne (tgt := 28) hx hb dX5_makePending_15 (by decide) (fun c15 => ?_) (fun c15 => ?_)
    · refine lv_aload_n hx hb dX5_makePending_28 rfl (lv_at hl 1 rfl) ?_
      refine lv_iload_n hx hb dX5_makePending_29 rfl (lv_at hl 2 rfl) ?_
      refine lv_iconst (v := 1) hx hb dX5_makePending_30 (by decide +kernel) ?_
      refine bk_i (rnV (rest := []) Z hw (k_X5_changeLine (p1 := p1) (p2 := 1) I0 (by decide)) v_X5_changeLine q_4_158 (0) (by decide) rfl rfl rfl rfl hl.1 rfl rfl (Nat.le_of_ble_eq_true rfl) ⟨(Nat.le_of_ble_eq_true rfl), (Nat.le_of_ble_eq_true rfl)⟩ ⟨(Nat.le_of_ble_eq_true rfl), (Nat.le_of_ble_eq_true rfl)⟩ dX5_makePending_31) hw Z (fun r31 s31 H locs hp hw => ?_)
      obtain ⟨er31, es31, I31⟩ := hp
      refine lv_pop hx hb dX5_makePending_34 rfl ?_
      exact rt_v Z hr hlk hw dX5_makePending_35 ⟨Eq.symm (by subst es31 er31; exact (lf_s hf2 (lf_f c15 rfl))), I31⟩
    · refine lv_aload_n hx hb dX5_makePending_18 rfl (lv_at hl 1 rfl) ?_
      refine lv_iload_n hx hb dX5_makePending_19 rfl (lv_at hl 2 rfl) ?_
      refine lv_aload_n hx hb dX5_makePending_20 rfl (lv_at hl 0 rfl) ?_
      refine bk_i (rnV (rest := []) Z hw (k_X5_receiveEdge (p1 := p1) (i := i2) I0 hi2) v_X5_receiveEdge q_2_197 (0) (by decide) rfl rfl rfl rfl hl.1 rfl rfl (Nat.le_of_ble_eq_true rfl) ⟨(Nat.le_of_ble_eq_true rfl), (Nat.le_of_ble_eq_true rfl)⟩ ⟨(Nat.le_of_ble_eq_true rfl), (Nat.le_of_ble_eq_true rfl)⟩ dX5_makePending_21) hw Z (fun r21 s21 H locs hp hw => ?_)
      obtain ⟨er21, es21, I21⟩ := hp
      refine lv_pop hx hb dX5_makePending_24 rfl ?_
      refine lv_goto (tgt := 35) hx hb dX5_makePending_25 (by decide) ?_
      exact rt_v Z hr hlk hw dX5_makePending_35 ⟨Eq.symm (by subst es21 er21; exact (lf_s hf2 (lf_t c15 rfl))), I21⟩
abbrev rmX5_latestLatency : Room := { frames := 1, cells := 0, slots := 0, locals := 21 }
def f_X5_latestLatency (σ : St) (p1 : Int32) : Int32 := (oc (f_X5_find σ p1) (-1) (fun i2 => σ (9 + i2) 12))
theorem v_X5_latestLatency : cvV yX5_latestLatency "NestedBells$Machine" cX5_latestLatency 3 (some (.int)) 1 := ⟨q_4_160, q_4_161, q_1_2, q_4_162, rfl, by decide +kernel, by decide +kernel, by decide +kernel⟩
set_option maxHeartbeats 4000000 in
set_option maxRecDepth 100000 in
theorem k_X5_latestLatency {l : Launch} {D : va_G} {T : Nat → ClassId} {g ad : Nat → Nat} {σ : St} {p1 : Int32} (I0 : InvC σ) : mX l yX5_latestLatency cX5_latestLatency 3 (some (.int)) rmX5_latestLatency D T g 57 ad (cE (mE T ad) σ) [.ref (ad 0), .int p1] (qI D 57 ad (mE T ad) (pR (f_X5_latestLatency σ p1) σ)) := by
  refine mX.of (own := "NestedBells$Machine") (by decide +kernel) (Nat.le_of_ble_eq_true rfl) rfl ?_
  intro p e s m below meth c A ls H locs Z hr hlk _ hw hl
  have hx := Z.1.1
  have hb := Z.1.2.1
  have hl : lv_has ls 3 [(0, .ref (ad 0)), (1, .int p1)] := hl
  refine lv_aload_n hx hb dX5_latestLatency_0 rfl (lv_at hl 0 rfl) ?_
  refine lv_iload_n hx hb dX5_latestLatency_1 rfl (lv_at hl 1 rfl) ?_
  refine bk_qp (rnV (rest := []) Z hw (k_X5_find (p1 := p1) I0) v_X5_find q_2_181 (0) (by decide) rfl rfl rfl rfl hl.1 rfl rfl (Nat.le_of_ble_eq_true rfl) ⟨(Nat.le_of_ble_eq_true rfl), (Nat.le_of_ble_eq_true rfl)⟩ ⟨(Nat.le_of_ble_eq_true rfl), (Nat.le_of_ble_eq_true rfl)⟩ dX5_latestLatency_2) hw Z (fun r2 er2 H locs hw => ?_)
  subst er2
  rcases hf2 : f_X5_find σ p1 with _ | i2
  · show W _ _ _ _ _ _ _ _ _ _ _ _ _ _ _ (F0 _ _ _ (.null :: _))
    refine lv_astore_nN (lv' := [(2, .null), (0, .ref (ad 0)), (1, .int p1)]) hx hb dX5_latestLatency_5 rfl hl (by decide) rfl (fun ls hl => ?_)
    refine lv_aload_nN hx hb dX5_latestLatency_6 rfl (lv_at hl 0 rfl) ?_
    refine lv_ifnonnullN hx hb dX5_latestLatency_7 ?_
    refine lv_iconst (v := (-1)) hx hb dX5_latestLatency_10 (by decide +kernel) ?_
    refine lv_goto (tgt := 18) hx hb dX5_latestLatency_11 (by decide) ?_
    exact rt_i Z hr hlk hw dX5_latestLatency_18 ⟨Eq.symm (lf_n hf2 rfl), rfl⟩
  · have hi2 : i2 < 12 := fin_lt I0 hf2
    show W _ _ _ _ _ _ _ _ _ _ _ _ _ _ _ (F0 _ _ _ (.ref (ad (9 + i2)) :: _))
    refine lv_astore_n (lv' := [(2, .ref (ad (9 + i2))), (0, .ref (ad 0)), (1, .int p1)]) hx hb dX5_latestLatency_5 rfl hl (by decide) rfl (fun ls hl => ?_)
    refine lv_aload_n hx hb dX5_latestLatency_6 rfl (lv_at hl 0 rfl) ?_
    refine lv_ifnonnull (tgt := 14) hx hb dX5_latestLatency_7 (by decide) ?_
    refine lv_aload_n hx hb dX5_latestLatency_14 rfl (lv_at hl 0 rfl) ?_
    refine gU (j := 12) (v := .int (σ (9 + i2) 12)) Z hw hi2 (by decide) q_1_114 rfl rfl dX5_latestLatency_15 ?_
    exact rt_i Z hr hlk hw dX5_latestLatency_18 ⟨Eq.symm (lf_s hf2 rfl), rfl⟩
abbrev rmX5_longestBlocking : Room := { frames := 2, cells := 0, slots := 0, locals := 42 }
def f_X5_longestBlocking_l36 (i2 : Nat) (k11 : Nat) : Nat → Nat → Int32 → St → Int32
  | 0, k36, a36_3, t36 => (a36_3)
  | n36 + 1, k36, a36_3, t36 => (if (t36 (9 + i2) 0) ≤ (t36 (9 + k11) 0) then a36_3 else (if (t36 (9 + k11) 18) ≤ (nI k36) then a36_3 else (let w95_3 : Int32 := (if (t36 (33 + 2 * k11 + k36) 2) < (t36 (9 + i2) 0) then a36_3 else (let r88 := f_X6_ticksWithin t36 k11 k36 (t36 (9 + k11) 2); (if a36_3 < r88 then r88 else a36_3))); (f_X5_longestBlocking_l36 i2 k11 n36 (k36 + 1) w95_3 t36))))
def f_X5_longestBlocking_l11 (i2 : Nat) : Nat → Nat → Int32 → St → Int32
  | 0, k11, a11_3, t11 => (a11_3)
  | n11 + 1, k11, a11_3, t11 => (if (t11 0 4) ≤ (nI k11) then a11_3 else (let w36_3 := (f_X5_longestBlocking_l36 i2 k11 fu3 0 a11_3 t11); (f_X5_longestBlocking_l11 i2 n11 (k11 + 1) w36_3 t11)))
def f_X5_longestBlocking (σ : St) (p1 : Int32) : Int32 := (oc (f_X5_find σ p1) 0 (fun i2 => (let w11_3 := (f_X5_longestBlocking_l11 i2 fu13 0 0 σ); w11_3)))
theorem v_X5_longestBlocking : cvV yX5_longestBlocking "NestedBells$Machine" cX5_longestBlocking 8 (some (.int)) 1 := ⟨q_4_171, q_4_172, q_1_2, q_4_173, rfl, by decide +kernel, by decide +kernel, by decide +kernel⟩
set_option maxHeartbeats 4000000 in
set_option maxRecDepth 100000 in
theorem L_X5_longestBlocking_36 {l : Launch} {D : va_G} {T : Nat → ClassId} {g ad : Nat → Nat} {p : Program} {e : Env} {s : State} {m : MethodId} {below : List Frame} {meth : Method} {c : Code} {A : Nat → Prop} {Qw : State → Prop} {p1 : Int32} {i2 : Nat} {k11 : Nat} (Z : en p m c cX5_longestBlocking 8 s [.ref (ad 0), .int p1].toArray "NestedBells$Machine" D T g A) (hi2 : i2 < 12) (hkb11 : k11 < 12) : ∀ (n36 : Nat) (k36 : Nat) (a36_3 : Int32) (t36 : St) (H : Heap) (locs : List Loc) (ls : Array Slot), k36 ≤ 2 → 2 < k36 + n36 → InvC t36 → wo D A s.heap 57 ad (cE (mE T ad) t36) H locs → lv_has ls 8 [(6, .int (nI k36)), (5, .ref (ad (9 + k11))), (4, .int (nI k11)), (3, .int a36_3), (2, .ref (ad (9 + i2))), (0, .ref (ad 0))] → (∀ (w36_3 : Int32) (H : Heap) (locs : List Loc) (ls : Array Slot), (f_X5_longestBlocking_l36 i2 k11 n36 k36 a36_3 t36) = w36_3 → InvC t36 → wo D A s.heap 57 ad (cE (mE T ad) t36) H locs → lv_has ls 8 [(4, .int (nI k11)), (3, .int w36_3), (2, .ref (ad (9 + i2))), (0, .ref (ad 0))] → W p l e rmX5_longestBlocking s m [.ref (ad 0), .int p1].toArray below meth c H locs 0 0 Qw (F0 m 101 ls [])) → W p l e rmX5_longestBlocking s m [.ref (ad 0), .int p1].toArray below meth c H locs 0 0 Qw (F0 m 36 ls []) := by
  have hx := Z.1.1
  have hb := Z.1.2.1
  intro n36
  induction n36 with
  | zero =>
    intro k36 a36_3 t36 H locs ls hk36 hn36 It36 hw hl kk
    exact absurd hn36 (by omega)
  | succ n36 ih =>
    intro k36 a36_3 t36 H locs ls hk36 hn36 It36 hw hl kk
    refine lv_aload hx hb dX5_longestBlocking_36 (lv_at hl 1 rfl) ?_
    refine gU (j := 0) (v := .int (t36 (9 + k11) 0)) Z hw (by omega) (by decide) q_1_90 rfl rfl dX5_longestBlocking_38 ?_
    refine lv_aload_n hx hb dX5_longestBlocking_41 rfl (lv_at hl 4 rfl) ?_
    refine gU (j := 0) (v := .int (t36 (9 + i2) 0)) Z hw hi2 (by decide) q_1_90 rfl rfl dX5_longestBlocking_42 ?_
    refine lv_icmp_ge (tgt := 101) hx hb dX5_longestBlocking_45 (by decide) (fun c45 => ?_) (fun c45 => ?_)
    · exact kk _ H locs ls (Eq.symm (lf_t c45 rfl)) It36 hw (lv_sub hl [2, 3, 4, 5] rfl)
    · refine lv_iload hx hb dX5_longestBlocking_48 (lv_at hl 0 rfl) ?_
      refine lv_aload hx hb dX5_longestBlocking_50 (lv_at hl 1 rfl) ?_
      refine gU (j := 18) (v := .int (t36 (9 + k11) 18)) Z hw (by omega) (by decide) q_1_126 rfl rfl dX5_longestBlocking_52 ?_
      refine lv_icmp_ge (tgt := 101) hx hb dX5_longestBlocking_55 (by decide) (fun c55 => ?_) (fun c55 => ?_)
      · exact kk _ H locs ls (Eq.symm (lf_f c45 (lf_t c55 rfl))) It36 hw (lv_sub hl [2, 3, 4, 5] rfl)
      · have hkb36 : k36 < 2 := kb_ge c55 (It36.2.2.2.2 _ hkb11).2 hk36 (by decide)
        refine lv_aload hx hb dX5_longestBlocking_58 (lv_at hl 1 rfl) ?_
        refine gU (j := 19) (v := .ref (ad (21 + k11))) Z hw (by omega) (by decide) q_1_128 rfl rfl dX5_longestBlocking_60 ?_
        refine lv_iload hx hb dX5_longestBlocking_63 (lv_at hl 0 rfl) ?_
        refine qE (n := 2) (t0 := 4) (v := .ref (ad (33 + 2 * k11 + k36))) Z hw (21 + k11) (by omega) rfl (mE_sar (by omega)) rfl (vp_in_nI (by omega) (by decide)) (tr_ok (nI_clamp (by omega)) (by omega)) dX5_longestBlocking_65 ?_
        refine lv_astore (lv' := [(7, .ref (ad (33 + 2 * k11 + k36))), (6, .int (nI k36)), (5, .ref (ad (9 + k11))), (4, .int (nI k11)), (3, .int a36_3), (2, .ref (ad (9 + i2))), (0, .ref (ad 0))]) hx hb dX5_longestBlocking_66 hl (by decide) rfl (fun ls hl => ?_)
        refine lv_aload hx hb dX5_longestBlocking_68 (lv_at hl 0 rfl) ?_
        refine gS (j := 2) (v := .int (t36 (33 + 2 * k11 + k36) 2)) Z hw (by omega) (by omega) (by decide) q_1_81 rfl rfl dX5_longestBlocking_70 ?_
        refine lv_aload_n hx hb dX5_longestBlocking_73 rfl (lv_at hl 5 rfl) ?_
        refine gU (j := 0) (v := .int (t36 (9 + i2) 0)) Z hw hi2 (by decide) q_1_90 rfl rfl dX5_longestBlocking_74 ?_
        have hj95 : ∀ (w95_3 : Int32) (H : Heap) (locs : List Loc) (ls : Array Slot), ((if (t36 (33 + 2 * k11 + k36) 2) < (t36 (9 + i2) 0) then a36_3 else (let r88 := f_X6_ticksWithin t36 k11 k36 (t36 (9 + k11) 2); (if a36_3 < r88 then r88 else a36_3))) : Int32) = w95_3 → wo D A s.heap 57 ad (cE (mE T ad) t36) H locs → lv_has ls 8 [(6, .int (nI k36)), (5, .ref (ad (9 + k11))), (4, .int (nI k11)), (3, .int w95_3), (2, .ref (ad (9 + i2))), (0, .ref (ad 0))] → W p l e rmX5_longestBlocking s m [.ref (ad 0), .int p1].toArray below meth c H locs 0 0 Qw (F0 m 95 ls []) := by
          intro w95_3 H locs ls ew95_3 hw hl
          refine lv_iinc (v := nI (k36 + 1)) (lv' := [(6, .int (nI (k36 + 1))), (5, .ref (ad (9 + k11))), (4, .int (nI k11)), (3, .int w95_3), (2, .ref (ad (9 + i2))), (0, .ref (ad 0))]) hx hb dX5_longestBlocking_95 hl (k := 0) rfl (nI_1 _) (by decide) rfl (fun ls hl => ?_)
          refine lv_goto (tgt := 36) hx hb dX5_longestBlocking_98 (by decide) ?_
          exact ih (k36 + 1) w95_3 t36 H locs ls (by omega) (by omega) It36 hw (lv_sub hl [0, 1, 2, 3, 4, 5] rfl) (fun w36_3 H locs ls ew36_3 I36 hw hl => kk w36_3 H locs ls (Eq.trans (Eq.symm (show (f_X5_longestBlocking_l36 i2 k11 n36 (k36 + 1) w95_3 t36) = _ from (by subst ew95_3; exact (lf_f c45 (lf_f c55 rfl))))) ew36_3) I36 hw hl)
        refine lv_icmp_lt (tgt := 95) hx hb dX5_longestBlocking_77 (by decide) (fun c77 => ?_) (fun c77 => ?_)
        · exact hj95 _ H locs ls (Eq.symm (lf_t c77 rfl)) hw (lv_sub hl [1, 2, 3, 4, 5, 6] rfl)
        · refine lv_iload_n hx hb dX5_longestBlocking_80 rfl (lv_at hl 4 rfl) ?_
          refine lv_aload hx hb dX5_longestBlocking_81 (lv_at hl 0 rfl) ?_
          refine lv_aload hx hb dX5_longestBlocking_83 (lv_at hl 2 rfl) ?_
          refine gU (j := 2) (v := .int (t36 (9 + k11) 2)) Z hw (by omega) (by decide) q_1_94 rfl rfl dX5_longestBlocking_85 ?_
          refine bk_ip (rnV (rest := [.int a36_3]) Z hw (k_X6_ticksWithin (i := k11) (j := k36) (p1 := t36 (9 + k11) 2) It36 (by omega) (by omega)) v_X6_ticksWithin q_4_174 (33 + 2 * k11 + k36) (by have h1 : k11 < 12 := (by omega); have h2 : k36 < 2 := (by omega); omega) rfl (mE_sec (by omega) (by omega)) rfl rfl hl.1 rfl rfl (Nat.le_of_ble_eq_true rfl) ⟨(Nat.le_of_ble_eq_true rfl), (Nat.le_of_ble_eq_true rfl)⟩ ⟨(Nat.le_of_ble_eq_true rfl), (Nat.le_of_ble_eq_true rfl)⟩ dX5_longestBlocking_88) hw Z (fun r88 er88 H locs hw => ?_)
          refine va_mmax hx hb (Z.1.2.2.1.trans hl.1.symm) Z.1.2.2.2.1 (Z.1.2.2.2.2 _ q_3_1) (Z.1.2.2.2.2 _ q_3_2) (Z.1.2.2.2.2 _ q_1_18) (Z.1.2.2.2.2 _ q_3_3) (Nat.le_of_ble_eq_true rfl) (Nat.le_of_ble_eq_true rfl) (Nat.le_of_ble_eq_true rfl) (Nat.le_of_ble_eq_true rfl) dX5_longestBlocking_91 ?_
          refine lv_istore_n (lv' := [(3, .int (if a36_3 < r88 then r88 else a36_3)), (7, .ref (ad (33 + 2 * k11 + k36))), (6, .int (nI k36)), (5, .ref (ad (9 + k11))), (4, .int (nI k11)), (2, .ref (ad (9 + i2))), (0, .ref (ad 0))]) hx hb dX5_longestBlocking_94 rfl hl (by decide) rfl (fun ls hl => ?_)
          exact hj95 _ H locs ls (Eq.symm (by subst er88; exact (lf_f c77 rfl))) hw (lv_sub hl [2, 3, 4, 0, 5, 6] rfl)
set_option maxHeartbeats 4000000 in
set_option maxRecDepth 100000 in
theorem L_X5_longestBlocking_11 {l : Launch} {D : va_G} {T : Nat → ClassId} {g ad : Nat → Nat} {p : Program} {e : Env} {s : State} {m : MethodId} {below : List Frame} {meth : Method} {c : Code} {A : Nat → Prop} {Qw : State → Prop} {p1 : Int32} {i2 : Nat} (Z : en p m c cX5_longestBlocking 8 s [.ref (ad 0), .int p1].toArray "NestedBells$Machine" D T g A) (hi2 : i2 < 12) : ∀ (n11 : Nat) (k11 : Nat) (a11_3 : Int32) (t11 : St) (H : Heap) (locs : List Loc) (ls : Array Slot), k11 ≤ 12 → 12 < k11 + n11 → InvC t11 → wo D A s.heap 57 ad (cE (mE T ad) t11) H locs → lv_has ls 8 [(4, .int (nI k11)), (3, .int a11_3), (2, .ref (ad (9 + i2))), (0, .ref (ad 0))] → (∀ (w11_3 : Int32) (H : Heap) (locs : List Loc) (ls : Array Slot), (f_X5_longestBlocking_l11 i2 n11 k11 a11_3 t11) = w11_3 → InvC t11 → wo D A s.heap 57 ad (cE (mE T ad) t11) H locs → lv_has ls 8 [(3, .int w11_3)] → W p l e rmX5_longestBlocking s m [.ref (ad 0), .int p1].toArray below meth c H locs 0 0 Qw (F0 m 107 ls [])) → W p l e rmX5_longestBlocking s m [.ref (ad 0), .int p1].toArray below meth c H locs 0 0 Qw (F0 m 11 ls []) := by
  have hx := Z.1.1
  have hb := Z.1.2.1
  intro n11
  induction n11 with
  | zero =>
    intro k11 a11_3 t11 H locs ls hk11 hn11 It11 hw hl kk
    exact absurd hn11 (by omega)
  | succ n11 ih =>
    intro k11 a11_3 t11 H locs ls hk11 hn11 It11 hw hl kk
    refine lv_aload_n hx hb dX5_longestBlocking_11 rfl (lv_at hl 2 rfl) ?_
    refine lv_ifnull hx hb dX5_longestBlocking_12 ?_
    refine lv_iload hx hb dX5_longestBlocking_15 (lv_at hl 0 rfl) ?_
    refine lv_aload_n hx hb dX5_longestBlocking_17 rfl (lv_at hl 3 rfl) ?_
    refine gM (j := 4) (v := .int (t11 0 4)) Z hw  (by decide) q_1_174 rfl rfl dX5_longestBlocking_18 ?_
    refine lv_icmp_ge (tgt := 107) hx hb dX5_longestBlocking_21 (by decide) (fun c21 => ?_) (fun c21 => ?_)
    · exact kk _ H locs ls (Eq.symm (lf_t c21 rfl)) It11 hw (lv_sub hl [1] rfl)
    · have hkb11 : k11 < 12 := kb_ge c21 It11.1.2 hk11 (by decide)
      refine lv_aload_n hx hb dX5_longestBlocking_24 rfl (lv_at hl 3 rfl) ?_
      refine gM (j := 3) (v := .ref (ad 3)) Z hw  (by decide) q_1_173 rfl rfl dX5_longestBlocking_25 ?_
      refine lv_iload hx hb dX5_longestBlocking_28 (lv_at hl 0 rfl) ?_
      refine qE (n := 12) (t0 := 5) (v := .ref (ad (9 + k11))) Z hw 3 (by decide) rfl rfl rfl (vp_in_nI (by omega) (by decide)) (tr_ok (nI_clamp (by omega)) (by omega)) dX5_longestBlocking_30 ?_
      refine lv_astore (lv' := [(5, .ref (ad (9 + k11))), (4, .int (nI k11)), (3, .int a11_3), (2, .ref (ad (9 + i2))), (0, .ref (ad 0))]) hx hb dX5_longestBlocking_31 hl (by decide) rfl (fun ls hl => ?_)
      refine lv_iconst (v := 0) hx hb dX5_longestBlocking_33 (by decide +kernel) ?_
      refine lv_istore (lv' := [(6, .int 0), (5, .ref (ad (9 + k11))), (4, .int (nI k11)), (3, .int a11_3), (2, .ref (ad (9 + i2))), (0, .ref (ad 0))]) hx hb dX5_longestBlocking_34 hl (by decide) rfl (fun ls hl => ?_)
      refine L_X5_longestBlocking_36 (p1 := p1) (i2 := i2) (k11 := k11) Z hi2 hkb11 fu3 0 a11_3 t11 H locs ls (by omega) (by unfold fu3; omega) It11 hw (lv_sub hl [0, 1, 2, 3, 4, 5] rfl) (fun w36_3 H locs ls ew36_3 I36 hw hl => ?_)
      refine lv_iinc (v := nI (k11 + 1)) (lv' := [(4, .int (nI (k11 + 1))), (3, .int w36_3), (2, .ref (ad (9 + i2))), (0, .ref (ad 0))]) hx hb dX5_longestBlocking_101 hl (k := 0) rfl (nI_1 _) (by decide) rfl (fun ls hl => ?_)
      refine lv_goto (tgt := 11) hx hb dX5_longestBlocking_104 (by decide) ?_
      exact ih (k11 + 1) w36_3 t11 H locs ls (by omega) (by omega) I36 hw (lv_sub hl [0, 1, 2, 3] rfl) (fun w11_3 H locs ls ew11_3 I11 hw hl => kk w11_3 H locs ls (Eq.trans (Eq.symm (show (f_X5_longestBlocking_l11 i2 n11 (k11 + 1) w36_3 t11) = _ from (by subst ew36_3; exact (lf_f c21 rfl)))) ew11_3) I11 hw hl)
set_option maxHeartbeats 4000000 in
set_option maxRecDepth 100000 in
theorem k_X5_longestBlocking {l : Launch} {D : va_G} {T : Nat → ClassId} {g ad : Nat → Nat} {σ : St} {p1 : Int32} (I0 : InvC σ) : mX l yX5_longestBlocking cX5_longestBlocking 8 (some (.int)) rmX5_longestBlocking D T g 57 ad (cE (mE T ad) σ) [.ref (ad 0), .int p1] (qI D 57 ad (mE T ad) (pR (f_X5_longestBlocking σ p1) σ)) := by
  refine mX.of (own := "NestedBells$Machine") (by decide +kernel) (Nat.le_of_ble_eq_true rfl) rfl ?_
  intro p e s m below meth c A ls H locs Z hr hlk _ hw hl
  have hx := Z.1.1
  have hb := Z.1.2.1
  have hl : lv_has ls 8 [(0, .ref (ad 0)), (1, .int p1)] := hl
  refine lv_aload_n hx hb dX5_longestBlocking_0 rfl (lv_at hl 0 rfl) ?_
  refine lv_iload_n hx hb dX5_longestBlocking_1 rfl (lv_at hl 1 rfl) ?_
  refine bk_qp (rnV (rest := []) Z hw (k_X5_find (p1 := p1) I0) v_X5_find q_2_181 (0) (by decide) rfl rfl rfl rfl hl.1 rfl rfl (Nat.le_of_ble_eq_true rfl) ⟨(Nat.le_of_ble_eq_true rfl), (Nat.le_of_ble_eq_true rfl)⟩ ⟨(Nat.le_of_ble_eq_true rfl), (Nat.le_of_ble_eq_true rfl)⟩ dX5_longestBlocking_2) hw Z (fun r2 er2 H locs hw => ?_)
  subst er2
  rcases hf2 : f_X5_find σ p1 with _ | i2
  · show W _ _ _ _ _ _ _ _ _ _ _ _ _ _ _ (F0 _ _ _ (.null :: _))
    refine lv_astore_nN (lv' := [(2, .null), (0, .ref (ad 0)), (1, .int p1)]) hx hb dX5_longestBlocking_5 rfl hl (by decide) rfl (fun ls hl => ?_)
    refine lv_iconst (v := 0) hx hb dX5_longestBlocking_6 (by decide +kernel) ?_
    refine lv_istore_n (lv' := [(3, .int 0), (2, .null), (0, .ref (ad 0)), (1, .int p1)]) hx hb dX5_longestBlocking_7 rfl hl (by decide) rfl (fun ls hl => ?_)
    refine lv_iconst (v := 0) hx hb dX5_longestBlocking_8 (by decide +kernel) ?_
    refine lv_istore (lv' := [(4, .int 0), (3, .int 0), (2, .null), (0, .ref (ad 0)), (1, .int p1)]) hx hb dX5_longestBlocking_9 hl (by decide) rfl (fun ls hl => ?_)
    refine lv_aload_nN hx hb dX5_longestBlocking_11 rfl (lv_at hl 2 rfl) ?_
    refine lv_ifnullN (tgt := 107) hx hb dX5_longestBlocking_12 (by decide) ?_
    refine lv_iload_n hx hb dX5_longestBlocking_107 rfl (lv_at hl 1 rfl) ?_
    exact rt_i Z hr hlk hw dX5_longestBlocking_108 ⟨Eq.symm (lf_n hf2 rfl), rfl⟩
  · have hi2 : i2 < 12 := fin_lt I0 hf2
    show W _ _ _ _ _ _ _ _ _ _ _ _ _ _ _ (F0 _ _ _ (.ref (ad (9 + i2)) :: _))
    refine lv_astore_n (lv' := [(2, .ref (ad (9 + i2))), (0, .ref (ad 0)), (1, .int p1)]) hx hb dX5_longestBlocking_5 rfl hl (by decide) rfl (fun ls hl => ?_)
    refine lv_iconst (v := 0) hx hb dX5_longestBlocking_6 (by decide +kernel) ?_
    refine lv_istore_n (lv' := [(3, .int 0), (2, .ref (ad (9 + i2))), (0, .ref (ad 0)), (1, .int p1)]) hx hb dX5_longestBlocking_7 rfl hl (by decide) rfl (fun ls hl => ?_)
    refine lv_iconst (v := 0) hx hb dX5_longestBlocking_8 (by decide +kernel) ?_
    refine lv_istore (lv' := [(4, .int 0), (3, .int 0), (2, .ref (ad (9 + i2))), (0, .ref (ad 0)), (1, .int p1)]) hx hb dX5_longestBlocking_9 hl (by decide) rfl (fun ls hl => ?_)
    refine L_X5_longestBlocking_11 (p1 := p1) (i2 := i2) Z hi2 fu13 0 0 σ H locs ls (by omega) (by unfold fu13; omega) I0 hw (lv_sub hl [0, 1, 2, 3] rfl) (fun w11_3 H locs ls ew11_3 I11 hw hl => ?_)
    refine lv_iload_n hx hb dX5_longestBlocking_107 rfl (lv_at hl 0 rfl) ?_
    exact rt_i Z hr hlk hw dX5_longestBlocking_108 ⟨Eq.symm (by subst ew11_3; exact (lf_s hf2 rfl)), rfl⟩
