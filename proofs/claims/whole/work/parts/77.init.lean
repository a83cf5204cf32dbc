/-! constructors: straight ones -/
theorem all_0 {P : Nat → Prop} : ∀ k, k < 0 → P k := fun k h => absurd h (by omega)
theorem all_s {P : Nat → Prop} {n : Nat} (h : ∀ k, k < n → P k) (hn : P n) : ∀ k, k < n + 1 → P k := fun k hk => by
  by_cases c : k = n
  · subst c; exact hn
  · exact h k (by omega)
def ec3 (T : Nat → ClassId) (ad : Nat → Nat) (k : Nat) : va_E := match k with
  | 0 => .inr (1, [.ref (ad 1), .ref (ad 2), .ref (ad 3), .int 0, .int 0])
  | _ => .inl (T 1, 20, .inl (fun _ => 0))
def ec6 (_ : Nat → Nat) (_ : Nat) : va_E := .inr (4, [.int 0, .int 0, .int 0])
def d9 : Nat → Int32 := upd (upd (upd (upd (fun _ => 0) 2 12) 3 10) 4 6) 6 (-1)
def ec9 (T : Nat → ClassId) (ad : Nat → Nat) (k : Nat) : va_E := match k with
  | 0 => .inr (7, [.ref (ad 1), .ref (ad 2), .ref (ad 3), .int 0, .int 0, .ref (ad 4), .int 0, .int 0, .int 0, .int 0, .ref (ad 5), .long 0])
  | 1 => .inl (T 1, 381, .inl d9)
  | 2 => .inl (T 1, 1524, .inl (fun _ => 0))
  | 3 => .inl (T 1, 381, .inl (fun _ => 0))
  | 4 => .inl (T 1, 150, .inl (fun _ => 0))
  | _ => .inl (T 1, 4, .inl (fun _ => 0))
abbrev rmX6_init : Room := { frames := 1, cells := 0, slots := 0, locals := 20 }
theorem v_X6_init : cvI yX6_init cX6_init 1 0 := ⟨q_1_73, q_1_5, q_1_74, rfl, by decide +kernel, by decide +kernel, by decide +kernel⟩
set_option maxHeartbeats 4000000 in
set_option maxRecDepth 100000 in
theorem k_X6_init {l : Launch} {D : va_G} {T : Nat → ClassId} {g : Nat → Nat} {b : Nat} : mI l yX6_init cX6_init 1 none rmX6_init D T g 1 (fun _ => b) (fun _ => .inr (4, [.int 0, .int 0, .int 0])) [.ref b] (qN D 1 b ec6) := by
  refine mI.of (own := "NestedBells$Section") (by decide +kernel) (Nat.le_of_ble_eq_true rfl) rfl ?_
  intro p e s m below meth c A ls H locs Z hO hr hlk hin hw hl
  have hx := Z.1.1
  have hb := Z.1.2.1
  have hi := hin rfl
  have hl : lv_has ls 1 [(0, .ref b)] := hl
  obtain ⟨c0, hc0⟩ : ∃ c0 : Nat → va_E, c0 = fun _ => .inr (4, [.int 0, .int 0, .int 0]) := ⟨_, rfl⟩
  have hw : wo D A s.heap 1 (fun _ => b) (va_up c0 0 (.inr (4, [.int 0, .int 0, .int 0]))) H locs := hw.cong (all_s all_0 rfl)
  refine lv_aload_n hx hb dX6_init_0 rfl (lv_at hl 0 rfl) ?_
  refine oI Z q_1_75 hl.1 (Nat.le_of_ble_eq_true rfl) (Nat.le_of_ble_eq_true rfl) dX6_init_1 ?_
  refine lv_aload_n hx hb dX6_init_4 rfl (lv_at hl 0 rfl) ?_
  refine lv_iconst (v := 0) hx hb dX6_init_5 (by decide +kernel) ?_
  refine pOo (C := "NestedBells$Section") (TC := TX6) (NF := 3) (ci := 4) (j := 0) (ty0 := tyX6) (ty := .int) (fs' := [.int 0, .int 0, .int 0]) Z hi hw (by decide) rfl rfl iX6 tyX6_ok nmX6 (by decide) q_1_76 rfl rfl rfl rfl rfl (Nat.le_of_ble_eq_true rfl) rfl dX6_init_6 (fun H locs hw => ?_)
  refine lv_aload_n hx hb dX6_init_9 rfl (lv_at hl 0 rfl) ?_
  refine lv_iconst (v := 0) hx hb dX6_init_10 (by decide +kernel) ?_
  refine pOo (C := "NestedBells$Section") (TC := TX6) (NF := 3) (ci := 4) (j := 1) (ty0 := tyX6) (ty := .int) (fs' := [.int 0, .int 0, .int 0]) Z hi hw (by decide) rfl rfl iX6 tyX6_ok nmX6 (by decide) q_1_78 rfl rfl rfl rfl rfl (Nat.le_of_ble_eq_true rfl) rfl dX6_init_11 (fun H locs hw => ?_)
  refine lv_aload_n hx hb dX6_init_14 rfl (lv_at hl 0 rfl) ?_
  refine lv_iconst (v := 0) hx hb dX6_init_15 (by decide +kernel) ?_
  refine pOo (C := "NestedBells$Section") (TC := TX6) (NF := 3) (ci := 4) (j := 2) (ty0 := tyX6) (ty := .int) (fs' := [.int 0, .int 0, .int 0]) Z hi hw (by decide) rfl rfl iX6 tyX6_ok nmX6 (by decide) q_1_80 rfl rfl rfl rfl rfl (Nat.le_of_ble_eq_true rfl) rfl dX6_init_16 (fun H locs hw => ?_)
  exact rt_n (Ec := ec6) Z hr hlk (hw.cong (all_s all_0 rfl)) rfl dX6_init_19
abbrev rmX3_init : Room := { frames := 1, cells := 3, slots := 60, locals := 20 }
theorem v_X3_init : cvI yX3_init cX3_init 1 0 := ⟨q_1_43, q_1_3, q_1_44, rfl, by decide +kernel, by decide +kernel, by decide +kernel⟩
set_option maxHeartbeats 4000000 in
set_option maxRecDepth 100000 in
theorem k_X3_init {l : Launch} {D : va_G} {T : Nat → ClassId} {g : Nat → Nat} {b : Nat} : mI l yX3_init cX3_init 1 none rmX3_init D T g 1 (fun _ => b) (fun _ => .inr (1, [.null, .null, .null, .int 0, .int 0])) [.ref b] (qN D 4 b (ec3 T)) := by
  refine mI.of (own := "NestedBells$EventLog") (by decide +kernel) (Nat.le_of_ble_eq_true rfl) rfl ?_
  intro p e s m below meth c A ls H locs Z hO hr hlk hin hw hl
  have hx := Z.1.1
  have hb := Z.1.2.1
  have hi := hin rfl
  have hl : lv_has ls 1 [(0, .ref b)] := hl
  obtain ⟨c0, hc0⟩ : ∃ c0 : Nat → va_E, c0 = fun _ => .inr (1, [.null, .null, .null, .int 0, .int 0]) := ⟨_, rfl⟩
  have hw : wo D A s.heap 1 (fun _ => b) (va_up c0 0 (.inr (1, [.null, .null, .null, .int 0, .int 0]))) H locs := hw.cong (all_s all_0 rfl)
  refine lv_aload_n hx hb dX3_init_0 rfl (lv_at hl 0 rfl) ?_
  refine oI Z q_1_45 hl.1 (Nat.le_of_ble_eq_true rfl) (Nat.le_of_ble_eq_true rfl) dX3_init_1 ?_
  refine lv_aload_n hx hb dX3_init_4 rfl (lv_at hl 0 rfl) ?_
  refine lv_bipush (v := 20) hx hb dX3_init_5 (by decide +kernel) ?_
  refine nI0 (N' := 20) Z hw (by decide) q_1_63 (by decide) (by decide) (Nat.le_of_ble_eq_true rfl) (Nat.le_of_ble_eq_true rfl) (Nat.le_of_ble_eq_true rfl) dX3_init_7 (fun q1 H hw => ?_)
  refine pOo (C := "NestedBells$EventLog") (TC := TX3) (NF := 5) (ci := 1) (j := 0) (ty0 := tyX3) (ty := .array .int) (fs' := [.ref q1, .null, .null, .int 0, .int 0]) Z hi hw (by decide) rfl rfl iX3 tyX3_ok nmX3 (by decide) q_1_46 rfl rfl rfl rfl rfl (Nat.le_of_ble_eq_true rfl) rfl dX3_init_9 (fun H locs hw => ?_)
  refine lv_aload_n hx hb dX3_init_12 rfl (lv_at hl 0 rfl) ?_
  refine lv_bipush (v := 20) hx hb dX3_init_13 (by decide +kernel) ?_
  refine nI0 (N' := 20) Z hw (by decide) q_1_63 (by decide) (by decide) (Nat.le_of_ble_eq_true rfl) (Nat.le_of_ble_eq_true rfl) (Nat.le_of_ble_eq_true rfl) dX3_init_15 (fun q2 H hw => ?_)
  refine pOo (C := "NestedBells$EventLog") (TC := TX3) (NF := 5) (ci := 1) (j := 1) (ty0 := tyX3) (ty := .array .int) (fs' := [.ref q1, .ref q2, .null, .int 0, .int 0]) Z hi hw (by decide) rfl rfl iX3 tyX3_ok nmX3 (by decide) q_1_47 rfl rfl rfl rfl rfl (Nat.le_of_ble_eq_true rfl) rfl dX3_init_17 (fun H locs hw => ?_)
  refine lv_aload_n hx hb dX3_init_20 rfl (lv_at hl 0 rfl) ?_
  refine lv_bipush (v := 20) hx hb dX3_init_21 (by decide +kernel) ?_
  refine nI0 (N' := 20) Z hw (by decide) q_1_63 (by decide) (by decide) (Nat.le_of_ble_eq_true rfl) (Nat.le_of_ble_eq_true rfl) (Nat.le_of_ble_eq_true rfl) dX3_init_23 (fun q3 H hw => ?_)
  refine pOo (C := "NestedBells$EventLog") (TC := TX3) (NF := 5) (ci := 1) (j := 2) (ty0 := tyX3) (ty := .array .int) (fs' := [.ref q1, .ref q2, .ref q3, .int 0, .int 0]) Z hi hw (by decide) rfl rfl iX3 tyX3_ok nmX3 (by decide) q_1_48 rfl rfl rfl rfl rfl (Nat.le_of_ble_eq_true rfl) rfl dX3_init_25 (fun H locs hw => ?_)
  refine lv_aload_n hx hb dX3_init_28 rfl (lv_at hl 0 rfl) ?_
  refine lv_iconst (v := 0) hx hb dX3_init_29 (by decide +kernel) ?_
  refine pOo (C := "NestedBells$EventLog") (TC := TX3) (NF := 5) (ci := 1) (j := 3) (ty0 := tyX3) (ty := .int) (fs' := [.ref q1, .ref q2, .ref q3, .int 0, .int 0]) Z hi hw (by decide) rfl rfl iX3 tyX3_ok nmX3 (by decide) q_1_49 rfl rfl rfl rfl rfl (Nat.le_of_ble_eq_true rfl) rfl dX3_init_30 (fun H locs hw => ?_)
  refine lv_aload_n hx hb dX3_init_33 rfl (lv_at hl 0 rfl) ?_
  refine lv_iconst (v := 0) hx hb dX3_init_34 (by decide +kernel) ?_
  refine pOo (C := "NestedBells$EventLog") (TC := TX3) (NF := 5) (ci := 1) (j := 4) (ty0 := tyX3) (ty := .int) (fs' := [.ref q1, .ref q2, .ref q3, .int 0, .int 0]) Z hi hw (by decide) rfl rfl iX3 tyX3_ok nmX3 (by decide) q_1_50 rfl rfl rfl rfl rfl (Nat.le_of_ble_eq_true rfl) rfl dX3_init_35 (fun H locs hw => ?_)
  exact rt_n (Ec := (ec3 T)) Z hr hlk (hw.cong (all_s (all_s (all_s (all_s all_0 rfl) rfl) rfl) rfl)) rfl dX3_init_38
abbrev rmX9_init : Room := { frames := 1, cells := 5, slots := 2440, locals := 20 }
theorem v_X9_init : cvI yX9_init cX9_init 1 0 := ⟨q_4_209, q_1_10, q_4_210, rfl, by decide +kernel, by decide +kernel, by decide +kernel⟩
set_option maxHeartbeats 4000000 in
set_option maxRecDepth 100000 in
theorem k_X9_init {l : Launch} {D : va_G} {T : Nat → ClassId} {g : Nat → Nat} {b : Nat} : mI l yX9_init cX9_init 1 none rmX9_init D T g 1 (fun _ => b) (fun _ => .inr (7, [.null, .null, .null, .int 0, .int 0, .null, .int 0, .int 0, .int 0, .int 0, .null, .long 0])) [.ref b] (qN D 6 b (ec9 T)) := by
  refine mI.of (own := "NestedBellsModel") (by decide +kernel) (Nat.le_of_ble_eq_true rfl) rfl ?_
  intro p e s m below meth c A ls H locs Z hO hr hlk hin hw hl
  have hx := Z.1.1
  have hb := Z.1.2.1
  have hi := hin rfl
  have hl : lv_has ls 1 [(0, .ref b)] := hl
  obtain ⟨c0, hc0⟩ : ∃ c0 : Nat → va_E, c0 = fun _ => .inr (7, [.null, .null, .null, .int 0, .int 0, .null, .int 0, .int 0, .int 0, .int 0, .null, .long 0]) := ⟨_, rfl⟩
  have hw : wo D A s.heap 1 (fun _ => b) (va_up c0 0 (.inr (7, [.null, .null, .null, .int 0, .int 0, .null, .int 0, .int 0, .int 0, .int 0, .null, .long 0]))) H locs := hw.cong (all_s all_0 rfl)
  refine lv_aload_n hx hb dX9_init_0 rfl (lv_at hl 0 rfl) ?_
  refine oI Z q_4_211 hl.1 (Nat.le_of_ble_eq_true rfl) (Nat.le_of_ble_eq_true rfl) dX9_init_1 ?_
  refine lv_aload_n hx hb dX9_init_4 rfl (lv_at hl 0 rfl) ?_
  refine lv_sipush (v := 381) hx hb dX9_init_5 (by decide +kernel) ?_
  refine nI0 (N' := 381) Z hw (by decide) q_1_63 (by decide) (by decide) (Nat.le_of_ble_eq_true rfl) (Nat.le_of_ble_eq_true rfl) (Nat.le_of_ble_eq_true rfl) dX9_init_8 (fun q1 H hw => ?_)
  refine pOo (C := "NestedBellsModel") (TC := TX9) (NF := 12) (ci := 7) (j := 0) (ty0 := tyX9) (ty := .array .int) (fs' := [.ref q1, .null, .null, .int 0, .int 0, .null, .int 0, .int 0, .int 0, .int 0, .null, .long 0]) Z hi hw (by decide) rfl rfl iX9 tyX9_ok nmX9 (by decide) q_4_212 rfl rfl rfl rfl rfl (Nat.le_of_ble_eq_true rfl) rfl dX9_init_10 (fun H locs hw => ?_)
  refine lv_aload_n hx hb dX9_init_13 rfl (lv_at hl 0 rfl) ?_
  refine lv_sipush (v := 1524) hx hb dX9_init_14 (by decide +kernel) ?_
  refine nI0 (N' := 1524) Z hw (by decide) q_1_63 (by decide) (by decide) (Nat.le_of_ble_eq_true rfl) (Nat.le_of_ble_eq_true rfl) (Nat.le_of_ble_eq_true rfl) dX9_init_17 (fun q2 H hw => ?_)
  refine pOo (C := "NestedBellsModel") (TC := TX9) (NF := 12) (ci := 7) (j := 1) (ty0 := tyX9) (ty := .array .int) (fs' := [.ref q1, .ref q2, .null, .int 0, .int 0, .null, .int 0, .int 0, .int 0, .int 0, .null, .long 0]) Z hi hw (by decide) rfl rfl iX9 tyX9_ok nmX9 (by decide) q_4_213 rfl rfl rfl rfl rfl (Nat.le_of_ble_eq_true rfl) rfl dX9_init_19 (fun H locs hw => ?_)
  refine lv_aload_n hx hb dX9_init_22 rfl (lv_at hl 0 rfl) ?_
  refine lv_sipush (v := 381) hx hb dX9_init_23 (by decide +kernel) ?_
  refine nI0 (N' := 381) Z hw (by decide) q_1_63 (by decide) (by decide) (Nat.le_of_ble_eq_true rfl) (Nat.le_of_ble_eq_true rfl) (Nat.le_of_ble_eq_true rfl) dX9_init_26 (fun q3 H hw => ?_)
  refine pOo (C := "NestedBellsModel") (TC := TX9) (NF := 12) (ci := 7) (j := 2) (ty0 := tyX9) (ty := .array .int) (fs' := [.ref q1, .ref q2, .ref q3, .int 0, .int 0, .null, .int 0, .int 0, .int 0, .int 0, .null, .long 0]) Z hi hw (by decide) rfl rfl iX9 tyX9_ok nmX9 (by decide) q_4_214 rfl rfl rfl rfl rfl (Nat.le_of_ble_eq_true rfl) rfl dX9_init_28 (fun H locs hw => ?_)
  refine lv_aload_n hx hb dX9_init_31 rfl (lv_at hl 0 rfl) ?_
  refine lv_sipush (v := 150) hx hb dX9_init_32 (by decide +kernel) ?_
  refine nI0 (N' := 150) Z hw (by decide) q_1_63 (by decide) (by decide) (Nat.le_of_ble_eq_true rfl) (Nat.le_of_ble_eq_true rfl) (Nat.le_of_ble_eq_true rfl) dX9_init_35 (fun q4 H hw => ?_)
  refine pOo (C := "NestedBellsModel") (TC := TX9) (NF := 12) (ci := 7) (j := 5) (ty0 := tyX9) (ty := .array .int) (fs' := [.ref q1, .ref q2, .ref q3, .int 0, .int 0, .ref q4, .int 0, .int 0, .int 0, .int 0, .null, .long 0]) Z hi hw (by decide) rfl rfl iX9 tyX9_ok nmX9 (by decide) q_4_217 rfl rfl rfl rfl rfl (Nat.le_of_ble_eq_true rfl) rfl dX9_init_37 (fun H locs hw => ?_)
  refine lv_aload_n hx hb dX9_init_40 rfl (lv_at hl 0 rfl) ?_
  refine lv_iconst (v := 4) hx hb dX9_init_41 (by decide +kernel) ?_
  refine nI0 (N' := 4) Z hw (by decide) q_1_63 (by decide) (by decide) (Nat.le_of_ble_eq_true rfl) (Nat.le_of_ble_eq_true rfl) (Nat.le_of_ble_eq_true rfl) dX9_init_42 (fun q5 H hw => ?_)
  refine pOo (C := "NestedBellsModel") (TC := TX9) (NF := 12) (ci := 7) (j := 10) (ty0 := tyX9) (ty := .array .int) (fs' := [.ref q1, .ref q2, .ref q3, .int 0, .int 0, .ref q4, .int 0, .int 0, .int 0, .int 0, .ref q5, .long 0]) Z hi hw (by decide) rfl rfl iX9 tyX9_ok nmX9 (by decide) q_4_222 rfl rfl rfl rfl rfl (Nat.le_of_ble_eq_true rfl) rfl dX9_init_44 (fun H locs hw => ?_)
  refine lv_aload_n hx hb dX9_init_47 rfl (lv_at hl 0 rfl) ?_
  refine gf (C := "NestedBellsModel") (TC := TX9) (NF := 12) (ci := 7) (j := 0) (v := .ref q1) (fs := [.ref q1, .ref q2, .ref q3, .int 0, .int 0, .ref q4, .int 0, .int 0, .int 0, .int 0, .ref q5, .long 0]) Z hw 0 (by decide) rfl (if_pos rfl) rfl iX9 (by decide) q_4_212 rfl rfl dX9_init_48 ?_
  refine lv_iconst (v := 2) hx hb dX9_init_51 (by decide +kernel) ?_
  refine lv_bipush (v := 12) hx hb dX9_init_52 (by decide +kernel) ?_
  refine as (n := 381) (f := (fun _ => 0)) (ct' := va_up (va_up (ext (ext (ext (ext (ext c0 1 (.inl (T 1, 381, .inl (fun _ => 0)))) 2 (.inl (T 1, 1524, .inl (fun _ => 0)))) 3 (.inl (T 1, 381, .inl (fun _ => 0)))) 4 (.inl (T 1, 150, .inl (fun _ => 0)))) 5 (.inl (T 1, 4, .inl (fun _ => 0)))) 1 (.inl (T 1, 381, .inl (upd (fun _ => 0) 2 12)))) 0 (.inr (7, [.ref q1, .ref q2, .ref q3, .int 0, .int 0, .ref q4, .int 0, .int 0, .int 0, .int 0, .ref q5, .long 0]))) Z hw 1 (by decide) rfl rfl (vp_in_nI (n := 2) (by decide) (by decide)) (va_ud (by decide)) dX9_init_54 (fun H locs hw => ?_)
  refine lv_aload_n hx hb dX9_init_55 rfl (lv_at hl 0 rfl) ?_
  refine gf (C := "NestedBellsModel") (TC := TX9) (NF := 12) (ci := 7) (j := 0) (v := .ref q1) (fs := [.ref q1, .ref q2, .ref q3, .int 0, .int 0, .ref q4, .int 0, .int 0, .int 0, .int 0, .ref q5, .long 0]) Z hw 0 (by decide) rfl (if_pos rfl) rfl iX9 (by decide) q_4_212 rfl rfl dX9_init_56 ?_
  refine lv_iconst (v := 3) hx hb dX9_init_59 (by decide +kernel) ?_
  refine lv_bipush (v := 10) hx hb dX9_init_60 (by decide +kernel) ?_
  refine as (n := 381) (f := (upd (fun _ => 0) 2 12)) (ct' := va_up (va_up (va_up (ext (ext (ext (ext (ext c0 1 (.inl (T 1, 381, .inl (fun _ => 0)))) 2 (.inl (T 1, 1524, .inl (fun _ => 0)))) 3 (.inl (T 1, 381, .inl (fun _ => 0)))) 4 (.inl (T 1, 150, .inl (fun _ => 0)))) 5 (.inl (T 1, 4, .inl (fun _ => 0)))) 1 (.inl (T 1, 381, .inl (upd (fun _ => 0) 2 12)))) 1 (.inl (T 1, 381, .inl (upd (upd (fun _ => 0) 2 12) 3 10)))) 0 (.inr (7, [.ref q1, .ref q2, .ref q3, .int 0, .int 0, .ref q4, .int 0, .int 0, .int 0, .int 0, .ref q5, .long 0]))) Z hw 1 (by decide) rfl rfl (vp_in_nI (n := 3) (by decide) (by decide)) (va_ud (by decide)) dX9_init_62 (fun H locs hw => ?_)
  refine lv_aload_n hx hb dX9_init_63 rfl (lv_at hl 0 rfl) ?_
  refine gf (C := "NestedBellsModel") (TC := TX9) (NF := 12) (ci := 7) (j := 0) (v := .ref q1) (fs := [.ref q1, .ref q2, .ref q3, .int 0, .int 0, .ref q4, .int 0, .int 0, .int 0, .int 0, .ref q5, .long 0]) Z hw 0 (by decide) rfl (if_pos rfl) rfl iX9 (by decide) q_4_212 rfl rfl dX9_init_64 ?_
  refine lv_iconst (v := 4) hx hb dX9_init_67 (by decide +kernel) ?_
  refine lv_bipush (v := 6) hx hb dX9_init_68 (by decide +kernel) ?_
  refine as (n := 381) (f := (upd (upd (fun _ => 0) 2 12) 3 10)) (ct' := va_up (va_up (va_up (va_up (ext (ext (ext (ext (ext c0 1 (.inl (T 1, 381, .inl (fun _ => 0)))) 2 (.inl (T 1, 1524, .inl (fun _ => 0)))) 3 (.inl (T 1, 381, .inl (fun _ => 0)))) 4 (.inl (T 1, 150, .inl (fun _ => 0)))) 5 (.inl (T 1, 4, .inl (fun _ => 0)))) 1 (.inl (T 1, 381, .inl (upd (fun _ => 0) 2 12)))) 1 (.inl (T 1, 381, .inl (upd (upd (fun _ => 0) 2 12) 3 10)))) 1 (.inl (T 1, 381, .inl (upd (upd (upd (fun _ => 0) 2 12) 3 10) 4 6)))) 0 (.inr (7, [.ref q1, .ref q2, .ref q3, .int 0, .int 0, .ref q4, .int 0, .int 0, .int 0, .int 0, .ref q5, .long 0]))) Z hw 1 (by decide) rfl rfl (vp_in_nI (n := 4) (by decide) (by decide)) (va_ud (by decide)) dX9_init_70 (fun H locs hw => ?_)
  refine lv_aload_n hx hb dX9_init_71 rfl (lv_at hl 0 rfl) ?_
  refine gf (C := "NestedBellsModel") (TC := TX9) (NF := 12) (ci := 7) (j := 0) (v := .ref q1) (fs := [.ref q1, .ref q2, .ref q3, .int 0, .int 0, .ref q4, .int 0, .int 0, .int 0, .int 0, .ref q5, .long 0]) Z hw 0 (by decide) rfl (if_pos rfl) rfl iX9 (by decide) q_4_212 rfl rfl dX9_init_72 ?_
  refine lv_bipush (v := 6) hx hb dX9_init_75 (by decide +kernel) ?_
  refine lv_iconst (v := -1) hx hb dX9_init_77 (by decide +kernel) ?_
  refine as (n := 381) (f := (upd (upd (upd (fun _ => 0) 2 12) 3 10) 4 6)) (ct' := va_up (va_up (va_up (va_up (va_up (ext (ext (ext (ext (ext c0 1 (.inl (T 1, 381, .inl (fun _ => 0)))) 2 (.inl (T 1, 1524, .inl (fun _ => 0)))) 3 (.inl (T 1, 381, .inl (fun _ => 0)))) 4 (.inl (T 1, 150, .inl (fun _ => 0)))) 5 (.inl (T 1, 4, .inl (fun _ => 0)))) 1 (.inl (T 1, 381, .inl (upd (fun _ => 0) 2 12)))) 1 (.inl (T 1, 381, .inl (upd (upd (fun _ => 0) 2 12) 3 10)))) 1 (.inl (T 1, 381, .inl (upd (upd (upd (fun _ => 0) 2 12) 3 10) 4 6)))) 1 (.inl (T 1, 381, .inl (upd (upd (upd (upd (fun _ => 0) 2 12) 3 10) 4 6) 6 (-1))))) 0 (.inr (7, [.ref q1, .ref q2, .ref q3, .int 0, .int 0, .ref q4, .int 0, .int 0, .int 0, .int 0, .ref q5, .long 0]))) Z hw 1 (by decide) rfl rfl (vp_in_nI (n := 6) (by decide) (by decide)) (va_ud (by decide)) dX9_init_78 (fun H locs hw => ?_)
  exact rt_n (Ec := (ec9 T)) Z hr hlk (hw.cong (all_s (all_s (all_s (all_s (all_s (all_s all_0 rfl) rfl) rfl) rfl) rfl) rfl)) rfl dX9_init_79
