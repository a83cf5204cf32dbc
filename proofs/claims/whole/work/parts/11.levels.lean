abbrev rmX5_ringTimers : Room := { frames := 2, cells := 0, slots := 0, locals := 45 }
def f_X5_ringTimers_l2 : Nat → Nat → St → St
  | 0, k2, t2 => (t2)
  | n2 + 1, k2, t2 => (if (t2 0 4) ≤ (nI k2) then t2 else (let s55 : St := (if (t2 (9 + k2) 17) ≤ 0 then t2 else (if (t2 (9 + k2) 16) = (t2 0 0) then (let r38 := (f_X5_receiveEdge t2 (nI k2) k2).1; let s38 := (f_X5_receiveEdge t2 (nI k2) k2).2; up2 s38 (9 + k2) 16 ((s38 (9 + k2) 16) + (s38 (9 + k2) 17))) else t2)); (f_X5_ringTimers_l2 n2 (k2 + 1) s55)))
def f_X5_ringTimers (σ : St) : St := (let u2 := (f_X5_ringTimers_l2 fu13 0 σ); u2)
theorem v_X5_ringTimers : cvV yX5_ringTimers "NestedBells$Machine" cX5_ringTimers 3 none 0 := ⟨q_2_223, s_9, q_1_2, q_2_224, rfl, by decide +kernel, by decide +kernel, by decide +kernel⟩
set_option maxHeartbeats 4000000 in
set_option maxRecDepth 100000 in
theorem L_X5_ringTimers_2 {l : Launch} {D : va_G} {T : Nat → ClassId} {g ad : Nat → Nat} {p : Program} {e : Env} {s : State} {m : MethodId} {below : List Frame} {meth : Method} {c : Code} {A : Nat → Prop} {Qw : State → Prop} (Z : en p m c cX5_ringTimers 3 s [.ref (ad 0)].toArray "NestedBells$Machine" D T g A) : ∀ (n2 : Nat) (k2 : Nat) (t2 : St) (H : Heap) (locs : List Loc) (ls : Array Slot), k2 ≤ 12 → 12 < k2 + n2 → InvC t2 → wo D A s.heap 57 ad (cE (mE T ad) t2) H locs → lv_has ls 3 [(1, .int (nI k2)), (0, .ref (ad 0))] → (∀ (u2 : St) (H : Heap) (locs : List Loc) (ls : Array Slot), (f_X5_ringTimers_l2 n2 k2 t2) = u2 → InvC u2 → wo D A s.heap 57 ad (cE (mE T ad) u2) H locs → lv_has ls 3 [] → W p l e rmX5_ringTimers s m [.ref (ad 0)].toArray below meth c H locs 0 0 Qw (F0 m 61 ls [])) → W p l e rmX5_ringTimers s m [.ref (ad 0)].toArray below meth c H locs 0 0 Qw (F0 m 2 ls []) := by
  have hx := Z.1.1
  have hb := Z.1.2.1
  intro n2
  induction n2 with
  | zero =>
    intro k2 t2 H locs ls hk2 hn2 It2 hw hl kk
    exact absurd hn2 (by omega)
  | succ n2 ih =>
    intro k2 t2 H locs ls hk2 hn2 It2 hw hl kk
    refine lv_iload_n hx hb dX5_ringTimers_2 rfl (lv_at hl 0 rfl) ?_
    refine lv_aload_n hx hb dX5_ringTimers_3 rfl (lv_at hl 1 rfl) ?_
    refine gM (j := 4) (v := .int (t2 0 4)) Z hw  (by decide) q_1_174 rfl rfl dX5_ringTimers_4 ?_
    refine lv_icmp_ge (tgt := 61) hx hb dX5_ringTimers_7 (by decide) (fun c7 => ?_) (fun c7 => ?_)
    · exact kk _ H locs ls (Eq.symm (lf_t c7 rfl)) It2 hw (lv_sub hl [] rfl)
    · have hkb2 : k2 < 12 := kb_ge c7 It2.1.2 hk2 (by decide)
      refine lv_aload_n hx hb dX5_ringTimers_10 rfl (lv_at hl 1 rfl) ?_
      refine gM (j := 3) (v := .ref (ad 3)) Z hw  (by decide) q_1_173 rfl rfl dX5_ringTimers_11 ?_
      refine lv_iload_n hx hb dX5_ringTimers_14 rfl (lv_at hl 0 rfl) ?_
      refine qE (n := 12) (t0 := 5) (v := .ref (ad (9 + k2))) Z hw 3 (by decide) rfl rfl rfl (vp_in_nI (by omega) (by decide)) (tr_ok (nI_clamp (by omega)) (by omega)) dX5_ringTimers_15 ?_
      refine lv_astore_n (lv' := [(2, .ref (ad (9 + k2))), (1, .int (nI k2)), (0, .ref (ad 0))]) hx hb dX5_ringTimers_16 rfl hl (by decide) rfl (fun ls hl => ?_)
      refine lv_aload_n hx hb dX5_ringTimers_17 rfl (lv_at hl 0 rfl) ?_
      refine gU (j := 17) (v := .int (t2 (9 + k2) 17)) Z hw (by omega) (by decide) q_1_124 rfl rfl dX5_ringTimers_18 ?_
      have hj55 : ∀ (s55 : St) (H : Heap) (locs : List Loc) (ls : Array Slot), ((if (t2 (9 + k2) 17) ≤ 0 then t2 else (if (t2 (9 + k2) 16) = (t2 0 0) then (let r38 := (f_X5_receiveEdge t2 (nI k2) k2).1; let s38 := (f_X5_receiveEdge t2 (nI k2) k2).2; up2 s38 (9 + k2) 16 ((s38 (9 + k2) 16) + (s38 (9 + k2) 17))) else t2)) : St) = s55 → InvC s55 → wo D A s.heap 57 ad (cE (mE T ad) s55) H locs → lv_has ls 3 [(1, .int (nI k2)), (0, .ref (ad 0))] → W p l e rmX5_ringTimers s m [.ref (ad 0)].toArray below meth c H locs 0 0 Qw (F0 m 55 ls []) := by
        intro s55 H locs ls es55 I55 hw hl
        refine lv_iinc (v := nI (k2 + 1)) (lv' := [(1, .int (nI (k2 + 1))), (0, .ref (ad 0))]) hx hb dX5_ringTimers_55 hl (k := 0) rfl (nI_1 _) (by decide) rfl (fun ls hl => ?_)
        refine lv_goto (tgt := 2) hx hb dX5_ringTimers_58 (by decide) ?_
        exact ih (k2 + 1) s55 H locs ls (by omega) (by omega) I55 hw (lv_sub hl [0, 1] rfl) (fun u2 H locs ls eu2 I2 hw hl => kk u2 H locs ls (Eq.trans (Eq.symm (show (f_X5_ringTimers_l2 n2 (k2 + 1) s55) = _ from (by subst es55; exact (lf_f c7 rfl)))) eu2) I2 hw hl)
      refine lv_if_le (tgt := 55) hx hb dX5_ringTimers_21 (by decide) (fun c21 => ?_) (fun c21 => ?_)
      · exact hj55 _ H locs ls (Eq.symm (lf_t c21 rfl)) It2 hw (lv_sub hl [1, 2] rfl)
      · refine lv_aload_n hx hb dX5_ringTimers_24 rfl (lv_at hl 0 rfl) ?_
        refine gU (j := 16) (v := .int (t2 (9 + k2) 16)) Z hw (by omega) (by decide) q_1_122 rfl rfl dX5_ringTimers_25 ?_
        refine lv_aload_n hx hb dX5_ringTimers_28 rfl (lv_at hl 2 rfl) ?_
        refine gM (j := 0) (v := .int (t2 0 0)) Z hw  (by decide) q_1_170 rfl rfl dX5_ringTimers_29 ?_
        refine lv_icmp_ne (tgt := 55) hx hb dX5_ringTimers_32 (by decide) (fun c32 => ?_) (fun c32 => ?_)
        · exact hj55 _ H locs ls (Eq.symm (lf_f c21 (lf_f c32 rfl))) It2 hw (lv_sub hl [1, 2] rfl)
        · refine lv_aload_n hx hb dX5_ringTimers_35 rfl (lv_at hl 2 rfl) ?_
          refine lv_iload_n hx hb dX5_ringTimers_36 rfl (lv_at hl 1 rfl) ?_
          refine lv_aload_n hx hb dX5_ringTimers_37 rfl (lv_at hl 0 rfl) ?_
          refine bk_i (rnV (rest := []) Z hw (k_X5_receiveEdge (p1 := nI k2) (i := k2) It2 (by omega)) v_X5_receiveEdge q_2_197 (0) (by decide) rfl rfl rfl rfl hl.1 rfl rfl (Nat.le_of_ble_eq_true rfl) ⟨(Nat.le_of_ble_eq_true rfl), (Nat.le_of_ble_eq_true rfl)⟩ ⟨(Nat.le_of_ble_eq_true rfl), (Nat.le_of_ble_eq_true rfl)⟩ dX5_ringTimers_38) hw Z (fun r38 s38 H locs hp hw => ?_)
          obtain ⟨er38, es38, I38⟩ := hp
          refine lv_pop hx hb dX5_ringTimers_41 rfl ?_
          refine lv_aload_n hx hb dX5_ringTimers_42 rfl (lv_at hl 0 rfl) ?_
          refine lv_dup hx hb dX5_ringTimers_43 rfl ?_
          refine gU (j := 16) (v := .int (s38 (9 + k2) 16)) Z hw (by omega) (by decide) q_1_122 rfl rfl dX5_ringTimers_44 ?_
          refine lv_aload_n hx hb dX5_ringTimers_47 rfl (lv_at hl 0 rfl) ?_
          refine gU (j := 17) (v := .int (s38 (9 + k2) 17)) Z hw (by omega) (by decide) q_1_124 rfl rfl dX5_ringTimers_48 ?_
          refine lv_iadd hx hb dX5_ringTimers_51 ?_
          refine pU (j := 16) Z hw (by omega) (by decide) q_1_122 rfl rfl rfl rfl dX5_ringTimers_52 (fun H locs hw => ?_)
          exact hj55 _ H locs ls (Eq.symm (by subst es38 er38; exact (lf_f c21 (lf_t c32 rfl)))) (InvC.up I38 (by unfold InvCcr; omega)) hw (lv_sub hl [1, 2] rfl)
set_option maxHeartbeats 4000000 in
set_option maxRecDepth 100000 in
theorem k_X5_ringTimers {l : Launch} {D : va_G} {T : Nat → ClassId} {g ad : Nat → Nat} {σ : St} (I0 : InvC σ) : mX l yX5_ringTimers cX5_ringTimers 3 none rmX5_ringTimers D T g 57 ad (cE (mE T ad) σ) [.ref (ad 0)] (qV D 57 ad (mE T ad) (pV (f_X5_ringTimers σ) InvC)) := by
  refine mX.of (own := "NestedBells$Machine") (by decide +kernel) (Nat.le_of_ble_eq_true rfl) rfl ?_
  intro p e s m below meth c A ls H locs Z hr hlk _ hw hl
  have hx := Z.1.1
  have hb := Z.1.2.1
  have hl : lv_has ls 3 [(0, .ref (ad 0))] := hl
  refine lv_iconst (v := 0) hx hb dX5_ringTimers_0 (by decide +kernel) ?_
  refine lv_istore_n (lv' := [(1, .int 0), (0, .ref (ad 0))]) hx hb dX5_ringTimers_1 rfl hl (by decide) rfl (fun ls hl => ?_)
  refine L_X5_ringTimers_2 Z fu13 0 σ H locs ls (by omega) (by unfold fu13; omega) I0 hw (lv_sub hl [0, 1] rfl) (fun u2 H locs ls eu2 I2 hw hl => ?_)
  exact rt_v Z hr hlk hw dX5_ringTimers_61 ⟨Eq.symm (by subst eu2; exact rfl), I2⟩
abbrev rmX5_greatestCeiling : Room := { frames := 1, cells := 0, slots := 0, locals := 21 }
def f_X5_greatestCeiling_l25 (i18 : Nat) : Nat → Nat → Int32 → St → Int32
  | 0, k25, a25_1, t25 => (a25_1)
  | n25 + 1, k25, a25_1, t25 => (if (t25 (9 + i18) 18) ≤ (nI k25) then a25_1 else (let r49 := f_X6_holds t25 i18 k25 (t25 (9 + i18) 8); (let w70_1 : Int32 := (if r49 = 0 then a25_1 else (if a25_1 < (t25 (33 + 2 * i18 + k25) 2) then (t25 (33 + 2 * i18 + k25) 2) else a25_1)); (f_X5_greatestCeiling_l25 i18 n25 (k25 + 1) w70_1 t25))))
def f_X5_greatestCeiling_l4 : Nat → Nat → Int32 → St → Int32
  | 0, k4, a4_1, t4 => (a4_1)
  | n4 + 1, k4, a4_1, t4 => (if (t4 0 6) ≤ (nI k4) then a4_1 else (let r15 := f_X5_stackedAt t4 (nI k4); (oc (f_X5_find t4 r15) (f_X5_greatestCeiling_l4 n4 (k4 + 1) a4_1 t4) (fun i18 => (let w25_1 := (f_X5_greatestCeiling_l25 i18 fu3 0 a4_1 t4); (f_X5_greatestCeiling_l4 n4 (k4 + 1) w25_1 t4))))))
def f_X5_greatestCeiling (σ : St) : Int32 := (let w4_1 := (f_X5_greatestCeiling_l4 fu13 0 0 σ); w4_1)
theorem v_X5_greatestCeiling : cvV yX5_greatestCeiling "NestedBells$Machine" cX5_greatestCeiling 5 (some (.int)) 0 := ⟨q_2_231, s_11, q_1_2, q_2_232, rfl, by decide +kernel, by decide +kernel, by decide +kernel⟩
set_option maxHeartbeats 4000000 in
set_option maxRecDepth 100000 in
theorem L_X5_greatestCeiling_25 {l : Launch} {D : va_G} {T : Nat → ClassId} {g ad : Nat → Nat} {p : Program} {e : Env} {s : State} {m : MethodId} {below : List Frame} {meth : Method} {c : Code} {A : Nat → Prop} {Qw : State → Prop} {k4 : Nat} {i18 : Nat} (Z : en p m c cX5_greatestCeiling 5 s [.ref (ad 0)].toArray "NestedBells$Machine" D T g A) (hi18 : i18 < 12) : ∀ (n25 : Nat) (k25 : Nat) (a25_1 : Int32) (t25 : St) (H : Heap) (locs : List Loc) (ls : Array Slot), k25 ≤ 2 → 2 < k25 + n25 → InvC t25 → wo D A s.heap 57 ad (cE (mE T ad) t25) H locs → lv_has ls 5 [(4, .int (nI k25)), (3, .ref (ad (9 + i18))), (2, .int (nI k4)), (1, .int a25_1), (0, .ref (ad 0))] → (∀ (w25_1 : Int32) (H : Heap) (locs : List Loc) (ls : Array Slot), (f_X5_greatestCeiling_l25 i18 n25 k25 a25_1 t25) = w25_1 → InvC t25 → wo D A s.heap 57 ad (cE (mE T ad) t25) H locs → lv_has ls 5 [(2, .int (nI k4)), (1, .int w25_1), (0, .ref (ad 0))] → W p l e rmX5_greatestCeiling s m [.ref (ad 0)].toArray below meth c H locs 0 0 Qw (F0 m 76 ls [])) → W p l e rmX5_greatestCeiling s m [.ref (ad 0)].toArray below meth c H locs 0 0 Qw (F0 m 25 ls []) := by
  have hx := Z.1.1
  have hb := Z.1.2.1
  intro n25
  induction n25 with
  | zero =>
    intro k25 a25_1 t25 H locs ls hk25 hn25 It25 hw hl kk
    exact absurd hn25 (by omega)
  | succ n25 ih =>
    intro k25 a25_1 t25 H locs ls hk25 hn25 It25 hw hl kk
    refine lv_aload_n hx hb dX5_greatestCeiling_25 rfl (lv_at hl 1 rfl) ?_
    refine lv_ifnull hx hb dX5_greatestCeiling_26 ?_
    refine lv_iload hx hb dX5_greatestCeiling_29 (lv_at hl 0 rfl) ?_
    refine lv_aload_n hx hb dX5_greatestCeiling_31 rfl (lv_at hl 1 rfl) ?_
    refine gU (j := 18) (v := .int (t25 (9 + i18) 18)) Z hw hi18 (by decide) q_1_126 rfl rfl dX5_greatestCeiling_32 ?_
    refine lv_icmp_ge (tgt := 76) hx hb dX5_greatestCeiling_35 (by decide) (fun c35 => ?_) (fun c35 => ?_)
    · exact kk _ H locs ls (Eq.symm (lf_t c35 rfl)) It25 hw (lv_sub hl [2, 3, 4] rfl)
    · have hkb25 : k25 < 2 := kb_ge c35 (It25.2.2.2.2 _ hi18).2 hk25 (by decide)
      refine lv_aload_n hx hb dX5_greatestCeiling_38 rfl (lv_at hl 1 rfl) ?_
      refine gU (j := 19) (v := .ref (ad (21 + i18))) Z hw hi18 (by decide) q_1_128 rfl rfl dX5_greatestCeiling_39 ?_
      refine lv_iload hx hb dX5_greatestCeiling_42 (lv_at hl 0 rfl) ?_
      refine qE (n := 2) (t0 := 4) (v := .ref (ad (33 + 2 * i18 + k25))) Z hw (21 + i18) (by omega) rfl (mE_sar hi18) rfl (vp_in_nI (by omega) (by decide)) (tr_ok (nI_clamp (by omega)) (by omega)) dX5_greatestCeiling_44 ?_
      refine lv_aload_n hx hb dX5_greatestCeiling_45 rfl (lv_at hl 1 rfl) ?_
      refine gU (j := 8) (v := .int (t25 (9 + i18) 8)) Z hw hi18 (by decide) q_1_106 rfl rfl dX5_greatestCeiling_46 ?_
      refine bk_ip (rnV (rest := []) Z hw (k_X6_holds (i := i18) (j := k25) (p1 := t25 (9 + i18) 8) It25 hi18 (by omega)) v_X6_holds q_2_237 (33 + 2 * i18 + k25) (by have h1 : i18 < 12 := hi18; have h2 : k25 < 2 := (by omega); omega) rfl (mE_sec hi18 (by omega)) rfl rfl hl.1 rfl rfl (Nat.le_of_ble_eq_true rfl) ⟨(Nat.le_of_ble_eq_true rfl), (Nat.le_of_ble_eq_true rfl)⟩ ⟨(Nat.le_of_ble_eq_true rfl), (Nat.le_of_ble_eq_true rfl)⟩ dX5_greatestCeiling_49) hw Z (fun r49 er49 H locs hw => ?_)
      have hj70 : ∀ (w70_1 : Int32) (H : Heap) (locs : List Loc) (ls : Array Slot), ((if r49 = 0 then a25_1 else (if a25_1 < (t25 (33 + 2 * i18 + k25) 2) then (t25 (33 + 2 * i18 + k25) 2) else a25_1)) : Int32) = w70_1 → wo D A s.heap 57 ad (cE (mE T ad) t25) H locs → lv_has ls 5 [(4, .int (nI k25)), (3, .ref (ad (9 + i18))), (2, .int (nI k4)), (1, .int w70_1), (0, .ref (ad 0))] → W p l e rmX5_greatestCeiling s m [.ref (ad 0)].toArray below meth c H locs 0 0 Qw (F0 m 70 ls []) := by
        intro w70_1 H locs ls ew70_1 hw hl
        refine lv_iinc (v := nI (k25 + 1)) (lv' := [(4, .int (nI (k25 + 1))), (3, .ref (ad (9 + i18))), (2, .int (nI k4)), (1, .int w70_1), (0, .ref (ad 0))]) hx hb dX5_greatestCeiling_70 hl (k := 0) rfl (nI_1 _) (by decide) rfl (fun ls hl => ?_)
        refine lv_goto (tgt := 25) hx hb dX5_greatestCeiling_73 (by decide) ?_
        exact ih (k25 + 1) w70_1 t25 H locs ls (by omega) (by omega) It25 hw (lv_sub hl [0, 1, 2, 3, 4] rfl) (fun w25_1 H locs ls ew25_1 I25 hw hl => kk w25_1 H locs ls (Eq.trans (Eq.symm (show (f_X5_greatestCeiling_l25 i18 n25 (k25 + 1) w70_1 t25) = _ from (by subst ew70_1 er49; exact (lf_f c35 rfl)))) ew25_1) I25 hw hl)
      refine lv_if_eq (tgt := 70) hx hb dX5_greatestCeiling_52 (by decide) (fun c52 => ?_) (fun c52 => ?_)
      · exact hj70 _ H locs ls (Eq.symm (lf_t c52 rfl)) hw (lv_sub hl [0, 1, 2, 3, 4] rfl)
      · refine lv_iload_n hx hb dX5_greatestCeiling_55 rfl (lv_at hl 3 rfl) ?_
        refine lv_aload_n hx hb dX5_greatestCeiling_56 rfl (lv_at hl 1 rfl) ?_
        refine gU (j := 19) (v := .ref (ad (21 + i18))) Z hw hi18 (by decide) q_1_128 rfl rfl dX5_greatestCeiling_57 ?_
        refine lv_iload hx hb dX5_greatestCeiling_60 (lv_at hl 0 rfl) ?_
        refine qE (n := 2) (t0 := 4) (v := .ref (ad (33 + 2 * i18 + k25))) Z hw (21 + i18) (by omega) rfl (mE_sar hi18) rfl (vp_in_nI (by omega) (by decide)) (tr_ok (nI_clamp (by omega)) (by omega)) dX5_greatestCeiling_62 ?_
        refine gS (j := 2) (v := .int (t25 (33 + 2 * i18 + k25) 2)) Z hw hi18 (by omega) (by decide) q_1_81 rfl rfl dX5_greatestCeiling_63 ?_
        refine va_mmax hx hb (Z.1.2.2.1.trans hl.1.symm) Z.1.2.2.2.1 (Z.1.2.2.2.2 _ q_3_1) (Z.1.2.2.2.2 _ q_3_2) (Z.1.2.2.2.2 _ q_1_18) (Z.1.2.2.2.2 _ q_3_3) (Nat.le_of_ble_eq_true rfl) (Nat.le_of_ble_eq_true rfl) (Nat.le_of_ble_eq_true rfl) (Nat.le_of_ble_eq_true rfl) dX5_greatestCeiling_66 ?_
        refine lv_istore_n (lv' := [(1, .int (if a25_1 < (t25 (33 + 2 * i18 + k25) 2) then (t25 (33 + 2 * i18 + k25) 2) else a25_1)), (4, .int (nI k25)), (3, .ref (ad (9 + i18))), (2, .int (nI k4)), (0, .ref (ad 0))]) hx hb dX5_greatestCeiling_69 rfl hl (by decide) rfl (fun ls hl => ?_)
        exact hj70 _ H locs ls (Eq.symm (lf_f c52 rfl)) hw (lv_sub hl [1, 2, 3, 0, 4] rfl)
set_option maxHeartbeats 4000000 in
set_option maxRecDepth 100000 in
theorem L_X5_greatestCeiling_4 {l : Launch} {D : va_G} {T : Nat → ClassId} {g ad : Nat → Nat} {p : Program} {e : Env} {s : State} {m : MethodId} {below : List Frame} {meth : Method} {c : Code} {A : Nat → Prop} {Qw : State → Prop} (Z : en p m c cX5_greatestCeiling 5 s [.ref (ad 0)].toArray "NestedBells$Machine" D T g A) : ∀ (n4 : Nat) (k4 : Nat) (a4_1 : Int32) (t4 : St) (H : Heap) (locs : List Loc) (ls : Array Slot), k4 ≤ 12 → 12 < k4 + n4 → InvC t4 → wo D A s.heap 57 ad (cE (mE T ad) t4) H locs → lv_has ls 5 [(2, .int (nI k4)), (1, .int a4_1), (0, .ref (ad 0))] → (∀ (w4_1 : Int32) (H : Heap) (locs : List Loc) (ls : Array Slot), (f_X5_greatestCeiling_l4 n4 k4 a4_1 t4) = w4_1 → InvC t4 → wo D A s.heap 57 ad (cE (mE T ad) t4) H locs → lv_has ls 5 [(1, .int w4_1)] → W p l e rmX5_greatestCeiling s m [.ref (ad 0)].toArray below meth c H locs 0 0 Qw (F0 m 82 ls [])) → W p l e rmX5_greatestCeiling s m [.ref (ad 0)].toArray below meth c H locs 0 0 Qw (F0 m 4 ls []) := by
  have hx := Z.1.1
  have hb := Z.1.2.1
  intro n4
  induction n4 with
  | zero =>
    intro k4 a4_1 t4 H locs ls hk4 hn4 It4 hw hl kk
    exact absurd hn4 (by omega)
  | succ n4 ih =>
    intro k4 a4_1 t4 H locs ls hk4 hn4 It4 hw hl kk
    refine lv_iload_n hx hb dX5_greatestCeiling_4 rfl (lv_at hl 0 rfl) ?_
    refine lv_aload_n hx hb dX5_greatestCeiling_5 rfl (lv_at hl 2 rfl) ?_
    refine gM (j := 6) (v := .int (t4 0 6)) Z hw  (by decide) q_1_177 rfl rfl dX5_greatestCeiling_6 ?_
    refine lv_icmp_ge (tgt := 82) hx hb dX5_greatestCeiling_9 (by decide) (fun c9 => ?_) (fun c9 => ?_)
    · exact kk _ H locs ls (Eq.symm (lf_t c9 rfl)) It4 hw (lv_sub hl [1] rfl)
    · have hkb4 : k4 < 12 := kb_ge c9 It4.2.1.2 hk4 (by decide)
      refine lv_aload_n hx hb dX5_greatestCeiling_12 rfl (lv_at hl 2 rfl) ?_
      refine lv_aload_n hx hb dX5_greatestCeiling_13 rfl (lv_at hl 2 rfl) ?_
      refine lv_iload_n hx hb dX5_greatestCeiling_14 rfl (lv_at hl 0 rfl) ?_
      refine bk_ip (rnV (rest := [.ref (ad 0)]) Z hw (k_X5_stackedAt (p1 := nI k4) It4) v_X5_stackedAt q_2_233 (0) (by decide) rfl rfl rfl rfl hl.1 rfl rfl (Nat.le_of_ble_eq_true rfl) ⟨(Nat.le_of_ble_eq_true rfl), (Nat.le_of_ble_eq_true rfl)⟩ ⟨(Nat.le_of_ble_eq_true rfl), (Nat.le_of_ble_eq_true rfl)⟩ dX5_greatestCeiling_15) hw Z (fun r15 er15 H locs hw => ?_)
      refine bk_qp (rnV (rest := []) Z hw (k_X5_find (p1 := r15) It4) v_X5_find q_2_181 (0) (by decide) rfl rfl rfl rfl hl.1 rfl rfl (Nat.le_of_ble_eq_true rfl) ⟨(Nat.le_of_ble_eq_true rfl), (Nat.le_of_ble_eq_true rfl)⟩ ⟨(Nat.le_of_ble_eq_true rfl), (Nat.le_of_ble_eq_true rfl)⟩ dX5_greatestCeiling_18) hw Z (fun r18 er18 H locs hw => ?_)
      subst er18
      rcases hf18 : f_X5_find t4 r15 with _ | i18
      · show W _ _ _ _ _ _ _ _ _ _ _ _ _ _ _ (F0 _ _ _ (.null :: _))
        refine lv_astore_nN (lv' := [(3, .null), (2, .int (nI k4)), (1, .int a4_1), (0, .ref (ad 0))]) hx hb dX5_greatestCeiling_21 rfl hl (by decide) rfl (fun ls hl => ?_)
        refine lv_iconst (v := 0) hx hb dX5_greatestCeiling_22 (by decide +kernel) ?_
        refine lv_istore (lv' := [(4, .int 0), (3, .null), (2, .int (nI k4)), (1, .int a4_1), (0, .ref (ad 0))]) hx hb dX5_greatestCeiling_23 hl (by decide) rfl (fun ls hl => ?_)
        refine lv_aload_nN hx hb dX5_greatestCeiling_25 rfl (lv_at hl 1 rfl) ?_
        refine lv_ifnullN (tgt := 76) hx hb dX5_greatestCeiling_26 (by decide) ?_
        refine lv_iinc (v := nI (k4 + 1)) (lv' := [(2, .int (nI (k4 + 1))), (4, .int 0), (3, .null), (1, .int a4_1), (0, .ref (ad 0))]) hx hb dX5_greatestCeiling_76 hl (k := 2) rfl (nI_1 _) (by decide) rfl (fun ls hl => ?_)
        refine lv_goto (tgt := 4) hx hb dX5_greatestCeiling_79 (by decide) ?_
        exact ih (k4 + 1) a4_1 t4 H locs ls (by omega) (by omega) It4 hw (lv_sub hl [0, 3, 4] rfl) (fun w4_1 H locs ls ew4_1 I4 hw hl => kk w4_1 H locs ls (Eq.trans (Eq.symm (show (f_X5_greatestCeiling_l4 n4 (k4 + 1) a4_1 t4) = _ from (by subst er15; exact (lf_f c9 (lf_n hf18 rfl))))) ew4_1) I4 hw hl)
      · have hi18 : i18 < 12 := fin_lt It4 hf18
        show W _ _ _ _ _ _ _ _ _ _ _ _ _ _ _ (F0 _ _ _ (.ref (ad (9 + i18)) :: _))
        refine lv_astore_n (lv' := [(3, .ref (ad (9 + i18))), (2, .int (nI k4)), (1, .int a4_1), (0, .ref (ad 0))]) hx hb dX5_greatestCeiling_21 rfl hl (by decide) rfl (fun ls hl => ?_)
        refine lv_iconst (v := 0) hx hb dX5_greatestCeiling_22 (by decide +kernel) ?_
        refine lv_istore (lv' := [(4, .int 0), (3, .ref (ad (9 + i18))), (2, .int (nI k4)), (1, .int a4_1), (0, .ref (ad 0))]) hx hb dX5_greatestCeiling_23 hl (by decide) rfl (fun ls hl => ?_)
        refine L_X5_greatestCeiling_25 (k4 := k4) (i18 := i18) Z hi18 fu3 0 a4_1 t4 H locs ls (by omega) (by unfold fu3; omega) It4 hw (lv_sub hl [0, 1, 2, 3, 4] rfl) (fun w25_1 H locs ls ew25_1 I25 hw hl => ?_)
        refine lv_iinc (v := nI (k4 + 1)) (lv' := [(2, .int (nI (k4 + 1))), (1, .int w25_1), (0, .ref (ad 0))]) hx hb dX5_greatestCeiling_76 hl (k := 0) rfl (nI_1 _) (by decide) rfl (fun ls hl => ?_)
        refine lv_goto (tgt := 4) hx hb dX5_greatestCeiling_79 (by decide) ?_
        exact ih (k4 + 1) w25_1 t4 H locs ls (by omega) (by omega) I25 hw (lv_sub hl [0, 1, 2] rfl) (fun w4_1 H locs ls ew4_1 I4 hw hl => kk w4_1 H locs ls (Eq.trans (Eq.symm (show (f_X5_greatestCeiling_l4 n4 (k4 + 1) w25_1 t4) = _ from (by subst ew25_1 er15; exact (lf_f c9 (lf_s hf18 rfl))))) ew4_1) I4 hw hl)
set_option maxHeartbeats 4000000 in
set_option maxRecDepth 100000 in
theorem k_X5_greatestCeiling {l : Launch} {D : va_G} {T : Nat → ClassId} {g ad : Nat → Nat} {σ : St} (I0 : InvC σ) : mX l yX5_greatestCeiling cX5_greatestCeiling 5 (some (.int)) rmX5_greatestCeiling D T g 57 ad (cE (mE T ad) σ) [.ref (ad 0)] (qI D 57 ad (mE T ad) (pR (f_X5_greatestCeiling σ) σ)) := by
  refine mX.of (own := "NestedBells$Machine") (by decide +kernel) (Nat.le_of_ble_eq_true rfl) rfl ?_
  intro p e s m below meth c A ls H locs Z hr hlk _ hw hl
  have hx := Z.1.1
  have hb := Z.1.2.1
  have hl : lv_has ls 5 [(0, .ref (ad 0))] := hl
  refine lv_iconst (v := 0) hx hb dX5_greatestCeiling_0 (by decide +kernel) ?_
  refine lv_istore_n (lv' := [(1, .int 0), (0, .ref (ad 0))]) hx hb dX5_greatestCeiling_1 rfl hl (by decide) rfl (fun ls hl => ?_)
  refine lv_iconst (v := 0) hx hb dX5_greatestCeiling_2 (by decide +kernel) ?_
  refine lv_istore_n (lv' := [(2, .int 0), (1, .int 0), (0, .ref (ad 0))]) hx hb dX5_greatestCeiling_3 rfl hl (by decide) rfl (fun ls hl => ?_)
  refine L_X5_greatestCeiling_4 Z fu13 0 0 σ H locs ls (by omega) (by unfold fu13; omega) I0 hw (lv_sub hl [0, 1, 2] rfl) (fun w4_1 H locs ls ew4_1 I4 hw hl => ?_)
  refine lv_iload_n hx hb dX5_greatestCeiling_82 rfl (lv_at hl 0 rfl) ?_
  exact rt_i Z hr hlk hw dX5_greatestCeiling_83 ⟨Eq.symm (by subst ew4_1; exact rfl), rfl⟩
abbrev rmX5_greatestPriority : Room := { frames := 1, cells := 0, slots := 0, locals := 21 }
def f_X5_greatestPriority_l4 : Nat → Nat → Int32 → St → Int32
  | 0, k4, a4_1, t4 => (a4_1)
  | n4 + 1, k4, a4_1, t4 => (if (t4 0 6) ≤ (nI k4) then a4_1 else (let r15 := f_X5_stackedAt t4 (nI k4); (oc (f_X5_find t4 r15) (f_X5_greatestPriority_l4 n4 (k4 + 1) a4_1 t4) (fun i18 => (f_X5_greatestPriority_l4 n4 (k4 + 1) (if a4_1 < (t4 (9 + i18) 0) then (t4 (9 + i18) 0) else a4_1) t4)))))
def f_X5_greatestPriority (σ : St) : Int32 := (let w4_1 := (f_X5_greatestPriority_l4 fu13 0 0 σ); w4_1)
theorem v_X5_greatestPriority : cvV yX5_greatestPriority "NestedBells$Machine" cX5_greatestPriority 4 (some (.int)) 0 := ⟨q_3_6, s_12, q_1_2, q_3_7, rfl, by decide +kernel, by decide +kernel, by decide +kernel⟩
set_option maxHeartbeats 4000000 in
set_option maxRecDepth 100000 in
theorem L_X5_greatestPriority_4 {l : Launch} {D : va_G} {T : Nat → ClassId} {g ad : Nat → Nat} {p : Program} {e : Env} {s : State} {m : MethodId} {below : List Frame} {meth : Method} {c : Code} {A : Nat → Prop} {Qw : State → Prop} (Z : en p m c cX5_greatestPriority 4 s [.ref (ad 0)].toArray "NestedBells$Machine" D T g A) : ∀ (n4 : Nat) (k4 : Nat) (a4_1 : Int32) (t4 : St) (H : Heap) (locs : List Loc) (ls : Array Slot), k4 ≤ 12 → 12 < k4 + n4 → InvC t4 → wo D A s.heap 57 ad (cE (mE T ad) t4) H locs → lv_has ls 4 [(2, .int (nI k4)), (1, .int a4_1), (0, .ref (ad 0))] → (∀ (w4_1 : Int32) (H : Heap) (locs : List Loc) (ls : Array Slot), (f_X5_greatestPriority_l4 n4 k4 a4_1 t4) = w4_1 → InvC t4 → wo D A s.heap 57 ad (cE (mE T ad) t4) H locs → lv_has ls 4 [(1, .int w4_1)] → W p l e rmX5_greatestPriority s m [.ref (ad 0)].toArray below meth c H locs 0 0 Qw (F0 m 41 ls [])) → W p l e rmX5_greatestPriority s m [.ref (ad 0)].toArray below meth c H locs 0 0 Qw (F0 m 4 ls []) := by
  have hx := Z.1.1
  have hb := Z.1.2.1
  intro n4
  induction n4 with
  | zero =>
    intro k4 a4_1 t4 H locs ls hk4 hn4 It4 hw hl kk
    exact absurd hn4 (by omega)
  | succ n4 ih =>
    intro k4 a4_1 t4 H locs ls hk4 hn4 It4 hw hl kk
    refine lv_iload_n hx hb dX5_greatestPriority_4 rfl (lv_at hl 0 rfl) ?_
    refine lv_aload_n hx hb dX5_greatestPriority_5 rfl (lv_at hl 2 rfl) ?_
    refine gM (j := 6) (v := .int (t4 0 6)) Z hw  (by decide) q_1_177 rfl rfl dX5_greatestPriority_6 ?_
    refine lv_icmp_ge (tgt := 41) hx hb dX5_greatestPriority_9 (by decide) (fun c9 => ?_) (fun c9 => ?_)
    · exact kk _ H locs ls (Eq.symm (lf_t c9 rfl)) It4 hw (lv_sub hl [1] rfl)
    · have hkb4 : k4 < 12 := kb_ge c9 It4.2.1.2 hk4 (by decide)
      refine lv_aload_n hx hb dX5_greatestPriority_12 rfl (lv_at hl 2 rfl) ?_
      refine lv_aload_n hx hb dX5_greatestPriority_13 rfl (lv_at hl 2 rfl) ?_
      refine lv_iload_n hx hb dX5_greatestPriority_14 rfl (lv_at hl 0 rfl) ?_
      refine bk_ip (rnV (rest := [.ref (ad 0)]) Z hw (k_X5_stackedAt (p1 := nI k4) It4) v_X5_stackedAt q_2_233 (0) (by decide) rfl rfl rfl rfl hl.1 rfl rfl (Nat.le_of_ble_eq_true rfl) ⟨(Nat.le_of_ble_eq_true rfl), (Nat.le_of_ble_eq_true rfl)⟩ ⟨(Nat.le_of_ble_eq_true rfl), (Nat.le_of_ble_eq_true rfl)⟩ dX5_greatestPriority_15) hw Z (fun r15 er15 H locs hw => ?_)
      refine bk_qp (rnV (rest := []) Z hw (k_X5_find (p1 := r15) It4) v_X5_find q_2_181 (0) (by decide) rfl rfl rfl rfl hl.1 rfl rfl (Nat.le_of_ble_eq_true rfl) ⟨(Nat.le_of_ble_eq_true rfl), (Nat.le_of_ble_eq_true rfl)⟩ ⟨(Nat.le_of_ble_eq_true rfl), (Nat.le_of_ble_eq_true rfl)⟩ dX5_greatestPriority_18) hw Z (fun r18 er18 H locs hw => ?_)
      subst er18
      rcases hf18 : f_X5_find t4 r15 with _ | i18
      · show W _ _ _ _ _ _ _ _ _ _ _ _ _ _ _ (F0 _ _ _ (.null :: _))
        refine lv_astore_nN (lv' := [(3, .null), (2, .int (nI k4)), (1, .int a4_1), (0, .ref (ad 0))]) hx hb dX5_greatestPriority_21 rfl hl (by decide) rfl (fun ls hl => ?_)
        refine lv_aload_nN hx hb dX5_greatestPriority_22 rfl (lv_at hl 0 rfl) ?_
        refine lv_ifnullN (tgt := 35) hx hb dX5_greatestPriority_23 (by decide) ?_
        refine lv_iinc (v := nI (k4 + 1)) (lv' := [(2, .int (nI (k4 + 1))), (3, .null), (1, .int a4_1), (0, .ref (ad 0))]) hx hb dX5_greatestPriority_35 hl (k := 1) rfl (nI_1 _) (by decide) rfl (fun ls hl => ?_)
        refine lv_goto (tgt := 4) hx hb dX5_greatestPriority_38 (by decide) ?_
        exact ih (k4 + 1) a4_1 t4 H locs ls (by omega) (by omega) It4 hw (lv_sub hl [0, 2, 3] rfl) (fun w4_1 H locs ls ew4_1 I4 hw hl => kk w4_1 H locs ls (Eq.trans (Eq.symm (show (f_X5_greatestPriority_l4 n4 (k4 + 1) a4_1 t4) = _ from (by subst er15; exact (lf_f c9 (lf_n hf18 rfl))))) ew4_1) I4 hw hl)
      · have hi18 : i18 < 12 := fin_lt It4 hf18
        show W _ _ _ _ _ _ _ _ _ _ _ _ _ _ _ (F0 _ _ _ (.ref (ad (9 + i18)) :: _))
        refine lv_astore_n (lv' := [(3, .ref (ad (9 + i18))), (2, .int (nI k4)), (1, .int a4_1), (0, .ref (ad 0))]) hx hb dX5_greatestPriority_21 rfl hl (by decide) rfl (fun ls hl => ?_)
        refine lv_aload_n hx hb dX5_greatestPriority_22 rfl (lv_at hl 0 rfl) ?_
        refine lv_ifnull hx hb dX5_greatestPriority_23 ?_
        refine lv_iload_n hx hb dX5_greatestPriority_26 rfl (lv_at hl 2 rfl) ?_
        refine lv_aload_n hx hb dX5_greatestPriority_27 rfl (lv_at hl 0 rfl) ?_
        refine gU (j := 0) (v := .int (t4 (9 + i18) 0)) Z hw hi18 (by decide) q_1_90 rfl rfl dX5_greatestPriority_28 ?_
        refine va_mmax hx hb (Z.1.2.2.1.trans hl.1.symm) Z.1.2.2.2.1 (Z.1.2.2.2.2 _ q_3_1) (Z.1.2.2.2.2 _ q_3_2) (Z.1.2.2.2.2 _ q_1_18) (Z.1.2.2.2.2 _ q_3_3) (Nat.le_of_ble_eq_true rfl) (Nat.le_of_ble_eq_true rfl) (Nat.le_of_ble_eq_true rfl) (Nat.le_of_ble_eq_true rfl) dX5_greatestPriority_31 ?_
        refine lv_istore_n (lv' := [(1, .int (if a4_1 < (t4 (9 + i18) 0) then (t4 (9 + i18) 0) else a4_1)), (3, .ref (ad (9 + i18))), (2, .int (nI k4)), (0, .ref (ad 0))]) hx hb dX5_greatestPriority_34 rfl hl (by decide) rfl (fun ls hl => ?_)
        refine lv_iinc (v := nI (k4 + 1)) (lv' := [(2, .int (nI (k4 + 1))), (1, .int (if a4_1 < (t4 (9 + i18) 0) then (t4 (9 + i18) 0) else a4_1)), (3, .ref (ad (9 + i18))), (0, .ref (ad 0))]) hx hb dX5_greatestPriority_35 hl (k := 2) rfl (nI_1 _) (by decide) rfl (fun ls hl => ?_)
        refine lv_goto (tgt := 4) hx hb dX5_greatestPriority_38 (by decide) ?_
        exact ih (k4 + 1) (if a4_1 < (t4 (9 + i18) 0) then (t4 (9 + i18) 0) else a4_1) t4 H locs ls (by omega) (by omega) It4 hw (lv_sub hl [0, 1, 3] rfl) (fun w4_1 H locs ls ew4_1 I4 hw hl => kk w4_1 H locs ls (Eq.trans (Eq.symm (show (f_X5_greatestPriority_l4 n4 (k4 + 1) (if a4_1 < (t4 (9 + i18) 0) then (t4 (9 + i18) 0) else a4_1) t4) = _ from (by subst er15; exact (lf_f c9 (lf_s hf18 rfl))))) ew4_1) I4 hw hl)
set_option maxHeartbeats 4000000 in
set_option maxRecDepth 100000 in
theorem k_X5_greatestPriority {l : Launch} {D : va_G} {T : Nat → ClassId} {g ad : Nat → Nat} {σ : St} (I0 : InvC σ) : mX l yX5_greatestPriority cX5_greatestPriority 4 (some (.int)) rmX5_greatestPriority D T g 57 ad (cE (mE T ad) σ) [.ref (ad 0)] (qI D 57 ad (mE T ad) (pR (f_X5_greatestPriority σ) σ)) := by
  refine mX.of (own := "NestedBells$Machine") (by decide +kernel) (Nat.le_of_ble_eq_true rfl) rfl ?_
  intro p e s m below meth c A ls H locs Z hr hlk _ hw hl
  have hx := Z.1.1
  have hb := Z.1.2.1
  have hl : lv_has ls 4 [(0, .ref (ad 0))] := hl
  refine lv_iconst (v := 0) hx hb dX5_greatestPriority_0 (by decide +kernel) ?_
  refine lv_istore_n (lv' := [(1, .int 0), (0, .ref (ad 0))]) hx hb dX5_greatestPriority_1 rfl hl (by decide) rfl (fun ls hl => ?_)
  refine lv_iconst (v := 0) hx hb dX5_greatestPriority_2 (by decide +kernel) ?_
  refine lv_istore_n (lv' := [(2, .int 0), (1, .int 0), (0, .ref (ad 0))]) hx hb dX5_greatestPriority_3 rfl hl (by decide) rfl (fun ls hl => ?_)
  refine L_X5_greatestPriority_4 Z fu13 0 0 σ H locs ls (by omega) (by unfold fu13; omega) I0 hw (lv_sub hl [0, 1, 2] rfl) (fun w4_1 H locs ls ew4_1 I4 hw hl => ?_)
  refine lv_iload_n hx hb dX5_greatestPriority_41 rfl (lv_at hl 0 rfl) ?_
  exact rt_i Z hr hlk hw dX5_greatestPriority_42 ⟨Eq.symm (by subst ew4_1; exact rfl), rfl⟩
abbrev rmX5_level : Room := { frames := 2, cells := 0, slots := 0, locals := 45 }
def f_X5_level (σ : St) : Int32 := (let r7 := f_X5_greatestCeiling σ; (let r11 := f_X5_greatestPriority σ; (if (σ 1 0) < (if r7 < r11 then r11 else r7) then (if r7 < r11 then r11 else r7) else (σ 1 0))))
theorem v_X5_level : cvV yX5_level "NestedBells$Machine" cX5_level 1 (some (.int)) 0 := ⟨q_2_227, s_10, q_1_2, q_2_228, rfl, by decide +kernel, by decide +kernel, by decide +kernel⟩
set_option maxHeartbeats 4000000 in
set_option maxRecDepth 100000 in
theorem k_X5_level {l : Launch} {D : va_G} {T : Nat → ClassId} {g ad : Nat → Nat} {σ : St} (I0 : InvC σ) : mX l yX5_level cX5_level 1 (some (.int)) rmX5_level D T g 57 ad (cE (mE T ad) σ) [.ref (ad 0)] (qI D 57 ad (mE T ad) (pR (f_X5_level σ) σ)) := by
  refine mX.of (own := "NestedBells$Machine") (by decide +kernel) (Nat.le_of_ble_eq_true rfl) rfl ?_
  intro p e s m below meth c A ls H locs Z hr hlk _ hw hl
  have hx := Z.1.1
  have hb := Z.1.2.1
  have hl : lv_has ls 1 [(0, .ref (ad 0))] := hl
  refine lv_aload_n hx hb dX5_level_0 rfl (lv_at hl 0 rfl) ?_
  refine gM (j := 1) (v := .ref (ad 1)) Z hw  (by decide) q_1_171 rfl rfl dX5_level_1 ?_
  refine lv_iconst (v := 0) hx hb dX5_level_4 (by decide +kernel) ?_
  refine aE (v := σ 1 0) Z hw 1 (by decide) rfl (fun _ => rfl) (vp_in_nI (n := 0) (by decide) (by decide)) ((congrArg (σ 1) (nI_clamp (n := 0) (by decide))).trans rfl) dX5_level_5 ?_
  refine lv_aload_n hx hb dX5_level_6 rfl (lv_at hl 0 rfl) ?_
  refine bk_ip (rnV (rest := [.int (σ 1 0)]) Z hw (k_X5_greatestCeiling  I0) v_X5_greatestCeiling q_2_229 (0) (by decide) rfl rfl rfl rfl hl.1 rfl rfl (Nat.le_of_ble_eq_true rfl) ⟨(Nat.le_of_ble_eq_true rfl), (Nat.le_of_ble_eq_true rfl)⟩ ⟨(Nat.le_of_ble_eq_true rfl), (Nat.le_of_ble_eq_true rfl)⟩ dX5_level_7) hw Z (fun r7 er7 H locs hw => ?_)
  refine lv_aload_n hx hb dX5_level_10 rfl (lv_at hl 0 rfl) ?_
  refine bk_ip (rnV (rest := [.int r7, .int (σ 1 0)]) Z hw (k_X5_greatestPriority  I0) v_X5_greatestPriority q_3_4 (0) (by decide) rfl rfl rfl rfl hl.1 rfl rfl (Nat.le_of_ble_eq_true rfl) ⟨(Nat.le_of_ble_eq_true rfl), (Nat.le_of_ble_eq_true rfl)⟩ ⟨(Nat.le_of_ble_eq_true rfl), (Nat.le_of_ble_eq_true rfl)⟩ dX5_level_11) hw Z (fun r11 er11 H locs hw => ?_)
  refine va_mmax hx hb (Z.1.2.2.1.trans hl.1.symm) Z.1.2.2.2.1 (Z.1.2.2.2.2 _ q_3_1) (Z.1.2.2.2.2 _ q_3_2) (Z.1.2.2.2.2 _ q_1_18) (Z.1.2.2.2.2 _ q_3_3) (Nat.le_of_ble_eq_true rfl) (Nat.le_of_ble_eq_true rfl) (Nat.le_of_ble_eq_true rfl) (Nat.le_of_ble_eq_true rfl) dX5_level_14 ?_
  refine va_mmax hx hb (Z.1.2.2.1.trans hl.1.symm) Z.1.2.2.2.1 (Z.1.2.2.2.2 _ q_3_1) (Z.1.2.2.2.2 _ q_3_2) (Z.1.2.2.2.2 _ q_1_18) (Z.1.2.2.2.2 _ q_3_3) (Nat.le_of_ble_eq_true rfl) (Nat.le_of_ble_eq_true rfl) (Nat.le_of_ble_eq_true rfl) (Nat.le_of_ble_eq_true rfl) dX5_level_17 ?_
  exact rt_i Z hr hlk hw dX5_level_20 ⟨Eq.symm (by subst er11 er7; exact rfl), rfl⟩
abbrev rmX5_candidateAbove : Room := { frames := 2, cells := 0, slots := 0, locals := 40 }
def f_X5_candidateAbove_l7 : Nat → Nat → Int32 → Int32 → St → Int32
  | 0, k7, a7_2, a7_3, t7 => (a7_2)
  | n7 + 1, k7, a7_2, a7_3, t7 => (if (t7 0 4) ≤ (nI k7) then a7_2 else (let w59_3 : Int32 := (if (t7 (9 + k7) 0) ≤ a7_3 then a7_3 else (if (zb (t7 (9 + k7) 3)) = 0 then a7_3 else (let r44 := f_X7_isPending t7 k7; (if r44 = 0 then a7_3 else t7 (9 + k7) 0)))); let w59_2 : Int32 := (if (t7 (9 + k7) 0) ≤ a7_3 then a7_2 else (if (zb (t7 (9 + k7) 3)) = 0 then a7_2 else (let r44 := f_X7_isPending t7 k7; (if r44 = 0 then a7_2 else nI k7)))); (f_X5_candidateAbove_l7 n7 (k7 + 1) w59_2 w59_3 t7)))
def f_X5_candidateAbove (σ : St) (p1 : Int32) : Int32 := (let w7_2 := (f_X5_candidateAbove_l7 fu13 0 (-1) p1 σ); w7_2)
theorem v_X5_candidateAbove : cvV yX5_candidateAbove "NestedBells$Machine" cX5_candidateAbove 6 (some (.int)) 1 := ⟨q_3_10, s_13, q_1_2, q_3_11, rfl, by decide +kernel, by decide +kernel, by decide +kernel⟩
set_option maxHeartbeats 4000000 in
set_option maxRecDepth 100000 in
theorem L_X5_candidateAbove_7 {l : Launch} {D : va_G} {T : Nat → ClassId} {g ad : Nat → Nat} {p : Program} {e : Env} {s : State} {m : MethodId} {below : List Frame} {meth : Method} {c : Code} {A : Nat → Prop} {Qw : State → Prop} {p1 : Int32} (Z : en p m c cX5_candidateAbove 6 s [.ref (ad 0), .int p1].toArray "NestedBells$Machine" D T g A) : ∀ (n7 : Nat) (k7 : Nat) (a7_2 : Int32) (a7_3 : Int32) (t7 : St) (H : Heap) (locs : List Loc) (ls : Array Slot), k7 ≤ 12 → 12 < k7 + n7 → InvC t7 → wo D A s.heap 57 ad (cE (mE T ad) t7) H locs → lv_has ls 6 [(4, .int (nI k7)), (3, .int a7_3), (2, .int a7_2), (0, .ref (ad 0))] → (∀ (w7_2 : Int32) (H : Heap) (locs : List Loc) (ls : Array Slot), (f_X5_candidateAbove_l7 n7 k7 a7_2 a7_3 t7) = w7_2 → InvC t7 → wo D A s.heap 57 ad (cE (mE T ad) t7) H locs → lv_has ls 6 [(2, .int w7_2)] → W p l e rmX5_candidateAbove s m [.ref (ad 0), .int p1].toArray below meth c H locs 0 0 Qw (F0 m 65 ls [])) → W p l e rmX5_candidateAbove s m [.ref (ad 0), .int p1].toArray below meth c H locs 0 0 Qw (F0 m 7 ls []) := by
  have hx := Z.1.1
  have hb := Z.1.2.1
  intro n7
  induction n7 with
  | zero =>
    intro k7 a7_2 a7_3 t7 H locs ls hk7 hn7 It7 hw hl kk
    exact absurd hn7 (by omega)
  | succ n7 ih =>
    intro k7 a7_2 a7_3 t7 H locs ls hk7 hn7 It7 hw hl kk
    refine lv_iload hx hb dX5_candidateAbove_7 (lv_at hl 0 rfl) ?_
    refine lv_aload_n hx hb dX5_candidateAbove_9 rfl (lv_at hl 3 rfl) ?_
    refine gM (j := 4) (v := .int (t7 0 4)) Z hw  (by decide) q_1_174 rfl rfl dX5_candidateAbove_10 ?_
    refine lv_icmp_ge (tgt := 65) hx hb dX5_candidateAbove_13 (by decide) (fun c13 => ?_) (fun c13 => ?_)
    · exact kk _ H locs ls (Eq.symm (lf_t c13 rfl)) It7 hw (lv_sub hl [2] rfl)
    · have hkb7 : k7 < 12 := kb_ge c13 It7.1.2 hk7 (by decide)
      refine lv_aload_n hx hb dX5_candidateAbove_16 rfl (lv_at hl 3 rfl) ?_
      refine gM (j := 3) (v := .ref (ad 3)) Z hw  (by decide) q_1_173 rfl rfl dX5_candidateAbove_17 ?_
      refine lv_iload hx hb dX5_candidateAbove_20 (lv_at hl 0 rfl) ?_
      refine qE (n := 12) (t0 := 5) (v := .ref (ad (9 + k7))) Z hw 3 (by decide) rfl rfl rfl (vp_in_nI (by omega) (by decide)) (tr_ok (nI_clamp (by omega)) (by omega)) dX5_candidateAbove_22 ?_
      refine lv_astore (lv' := [(5, .ref (ad (9 + k7))), (4, .int (nI k7)), (3, .int a7_3), (2, .int a7_2), (0, .ref (ad 0))]) hx hb dX5_candidateAbove_23 hl (by decide) rfl (fun ls hl => ?_)
      refine lv_aload hx hb dX5_candidateAbove_25 (lv_at hl 0 rfl) ?_
      refine gU (j := 0) (v := .int (t7 (9 + k7) 0)) Z hw (by omega) (by decide) q_1_90 rfl rfl dX5_candidateAbove_27 ?_
      refine lv_iload_n hx hb dX5_candidateAbove_30 rfl (lv_at hl 2 rfl) ?_
      have hj59 : ∀ (w59_3 : Int32) (w59_2 : Int32) (H : Heap) (locs : List Loc) (ls : Array Slot), ((if (t7 (9 + k7) 0) ≤ a7_3 then a7_3 else (if (zb (t7 (9 + k7) 3)) = 0 then a7_3 else (let r44 := f_X7_isPending t7 k7; (if r44 = 0 then a7_3 else t7 (9 + k7) 0)))) : Int32) = w59_3 → ((if (t7 (9 + k7) 0) ≤ a7_3 then a7_2 else (if (zb (t7 (9 + k7) 3)) = 0 then a7_2 else (let r44 := f_X7_isPending t7 k7; (if r44 = 0 then a7_2 else nI k7)))) : Int32) = w59_2 → wo D A s.heap 57 ad (cE (mE T ad) t7) H locs → lv_has ls 6 [(4, .int (nI k7)), (3, .int w59_3), (2, .int w59_2), (0, .ref (ad 0))] → W p l e rmX5_candidateAbove s m [.ref (ad 0), .int p1].toArray below meth c H locs 0 0 Qw (F0 m 59 ls []) := by
        intro w59_3 w59_2 H locs ls ew59_3 ew59_2 hw hl
        refine lv_iinc (v := nI (k7 + 1)) (lv' := [(4, .int (nI (k7 + 1))), (3, .int w59_3), (2, .int w59_2), (0, .ref (ad 0))]) hx hb dX5_candidateAbove_59 hl (k := 0) rfl (nI_1 _) (by decide) rfl (fun ls hl => ?_)
        refine lv_goto (tgt := 7) hx hb dX5_candidateAbove_62 (by decide) ?_
        exact ih (k7 + 1) w59_2 w59_3 t7 H locs ls (by omega) (by omega) It7 hw (lv_sub hl [0, 1, 2, 3] rfl) (fun w7_2 H locs ls ew7_2 I7 hw hl => kk w7_2 H locs ls (Eq.trans (Eq.symm (show (f_X5_candidateAbove_l7 n7 (k7 + 1) w59_2 w59_3 t7) = _ from (by subst ew59_2 ew59_3; exact (lf_f c13 rfl)))) ew7_2) I7 hw hl)
      refine lv_icmp_le (tgt := 59) hx hb dX5_candidateAbove_31 (by decide) (fun c31 => ?_) (fun c31 => ?_)
      · exact hj59 _ _ H locs ls (Eq.symm (lf_t c31 rfl)) (Eq.symm (lf_t c31 rfl)) hw (lv_sub hl [1, 2, 3, 4] rfl)
      · refine lv_aload hx hb dX5_candidateAbove_34 (lv_at hl 0 rfl) ?_
        refine gU (j := 3) (v := .int (zb (t7 (9 + k7) 3))) Z hw (by omega) (by decide) q_1_96 rfl rfl dX5_candidateAbove_36 ?_
        refine lv_if_eq (tgt := 59) hx hb dX5_candidateAbove_39 (by decide) (fun c39 => ?_) (fun c39 => ?_)
        · exact hj59 _ _ H locs ls (Eq.symm (lf_f c31 (lf_t c39 rfl))) (Eq.symm (lf_f c31 (lf_t c39 rfl))) hw (lv_sub hl [1, 2, 3, 4] rfl)
        · refine lv_aload hx hb dX5_candidateAbove_42 (lv_at hl 0 rfl) ?_
          refine bk_ip (rnV (rest := []) Z hw (k_X7_isPending (i := k7) It7 (by omega)) v_X7_isPending q_3_12 (9 + k7) (by have h1 : k7 < 12 := (by omega); omega) rfl (mE_src (by omega)) rfl rfl hl.1 rfl rfl (Nat.le_of_ble_eq_true rfl) ⟨(Nat.le_of_ble_eq_true rfl), (Nat.le_of_ble_eq_true rfl)⟩ ⟨(Nat.le_of_ble_eq_true rfl), (Nat.le_of_ble_eq_true rfl)⟩ dX5_candidateAbove_44) hw Z (fun r44 er44 H locs hw => ?_)
          refine lv_if_eq (tgt := 59) hx hb dX5_candidateAbove_47 (by decide) (fun c47 => ?_) (fun c47 => ?_)
          · exact hj59 _ _ H locs ls (Eq.symm (by subst er44; exact (lf_f c31 (lf_f c39 (lf_t c47 rfl))))) (Eq.symm (by subst er44; exact (lf_f c31 (lf_f c39 (lf_t c47 rfl))))) hw (lv_sub hl [1, 2, 3, 4] rfl)
          · refine lv_iload hx hb dX5_candidateAbove_50 (lv_at hl 1 rfl) ?_
            refine lv_istore_n (lv' := [(2, .int (nI k7)), (5, .ref (ad (9 + k7))), (4, .int (nI k7)), (3, .int a7_3), (0, .ref (ad 0))]) hx hb dX5_candidateAbove_52 rfl hl (by decide) rfl (fun ls hl => ?_)
            refine lv_aload hx hb dX5_candidateAbove_53 (lv_at hl 1 rfl) ?_
            refine gU (j := 0) (v := .int (t7 (9 + k7) 0)) Z hw (by omega) (by decide) q_1_90 rfl rfl dX5_candidateAbove_55 ?_
            refine lv_istore_n (lv' := [(3, .int (t7 (9 + k7) 0)), (2, .int (nI k7)), (5, .ref (ad (9 + k7))), (4, .int (nI k7)), (0, .ref (ad 0))]) hx hb dX5_candidateAbove_58 rfl hl (by decide) rfl (fun ls hl => ?_)
            exact hj59 _ _ H locs ls (Eq.symm (by subst er44; exact (lf_f c31 (lf_f c39 (lf_f c47 rfl))))) (Eq.symm (by subst er44; exact (lf_f c31 (lf_f c39 (lf_f c47 rfl))))) hw (lv_sub hl [3, 0, 1, 4] rfl)
set_option maxHeartbeats 4000000 in
set_option maxRecDepth 100000 in
theorem k_X5_candidateAbove {l : Launch} {D : va_G} {T : Nat → ClassId} {g ad : Nat → Nat} {σ : St} {p1 : Int32} (I0 : InvC σ) : mX l yX5_candidateAbove cX5_candidateAbove 6 (some (.int)) rmX5_candidateAbove D T g 57 ad (cE (mE T ad) σ) [.ref (ad 0), .int p1] (qI D 57 ad (mE T ad) (pR (f_X5_candidateAbove σ p1) σ)) := by
  refine mX.of (own := "NestedBells$Machine") (by decide +kernel) (Nat.le_of_ble_eq_true rfl) rfl ?_
  intro p e s m below meth c A ls H locs Z hr hlk _ hw hl
  have hx := Z.1.1
  have hb := Z.1.2.1
  have hl : lv_has ls 6 [(0, .ref (ad 0)), (1, .int p1)] := hl
  refine lv_iconst (v := (-1)) hx hb dX5_candidateAbove_0 (by decide +kernel) ?_
  refine lv_istore_n (lv' := [(2, .int (-1)), (0, .ref (ad 0)), (1, .int p1)]) hx hb dX5_candidateAbove_1 rfl hl (by decide) rfl (fun ls hl => ?_)
  refine lv_iload_n hx hb dX5_candidateAbove_2 rfl (lv_at hl 2 rfl) ?_
  refine lv_istore_n (lv' := [(3, .int p1), (2, .int (-1)), (0, .ref (ad 0)), (1, .int p1)]) hx hb dX5_candidateAbove_3 rfl hl (by decide) rfl (fun ls hl => ?_)
  refine lv_iconst (v := 0) hx hb dX5_candidateAbove_4 (by decide +kernel) ?_
  refine lv_istore (lv' := [(4, .int 0), (3, .int p1), (2, .int (-1)), (0, .ref (ad 0)), (1, .int p1)]) hx hb dX5_candidateAbove_5 hl (by decide) rfl (fun ls hl => ?_)
  refine L_X5_candidateAbove_7 (p1 := p1) Z fu13 0 (-1) p1 σ H locs ls (by omega) (by unfold fu13; omega) I0 hw (lv_sub hl [0, 1, 2, 3] rfl) (fun w7_2 H locs ls ew7_2 I7 hw hl => ?_)
  refine lv_iload_n hx hb dX5_candidateAbove_65 rfl (lv_at hl 0 rfl) ?_
  exact rt_i Z hr hlk hw dX5_candidateAbove_66 ⟨Eq.symm (by subst ew7_2; exact rfl), rfl⟩
