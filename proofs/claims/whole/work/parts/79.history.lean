/-! the History's constructor, and the object's -/
theorem va_un {f : Nat → va_E} {i k : Nat} {y : va_E} (h : k ≠ i) : va_up f i y k = f k := if_neg h
def ec4 (T : Nat → ClassId) (ad : Nat → Nat) (k : Nat) : va_E := if k = 0 then .inr (2, [.ref (ad 1), .int 0, .int 0]) else if k = 1 then .inl (T 3, 5, .inr (.inr (.inr (.inr (trn 5 (fun i => ad (2 + 57 * i))))))) else mE T (fun a => ad (2 + 57 * ((k - 2) / 57) + a)) ((k - 2) % 57) (mu0 ((k - 2) % 57))
theorem ec4_M {T : Nat → ClassId} {ad : Nat → Nat} {q x : Nat} (hx : x < 57) : ec4 T ad (2 + 57 * q + x) = mE T (fun a => ad (2 + 57 * q + a)) x (mu0 x) := by
  unfold ec4
  rw [if_neg (by omega), if_neg (by omega), show (2 + 57 * q + x - 2) / 57 = q by omega, show (2 + 57 * q + x - 2) % 57 = x by omega]
theorem mE_at {T : Nat → ClassId} {ad aq : Nat → Nat} {o a : Nat} (ha : a < 57) (h : ∀ x, x < 57 → ad (o + x) = aq x) : cE (mE T aq) mu0 a = mE T (fun x => ad (o + x)) a (mu0 a) := mE_cong ha (fun x hx => (h x hx).symm)
abbrev rmX4_init : Room := { frames := 4, cells := 286, slots := 2255, locals := 82 }
theorem v_X4_init : cvI yX4_init cX4_init 2 0 := ⟨q_1_210, q_1_6, q_1_211, rfl, by decide +kernel, by decide +kernel, by decide +kernel⟩
set_option maxHeartbeats 4000000 in
set_option maxRecDepth 100000 in
theorem k_X4_init {l : Launch} {D : va_G} {T : Nat → ClassId} {g : Nat → Nat} {b : Nat} : mI l yX4_init cX4_init 2 none rmX4_init D T g 1 (fun _ => b) (fun _ => .inr (2, [.null, .int 0, .int 0])) [.ref b] (qN D 287 b (ec4 T)) := by
  refine mI.of (own := "NestedBells$History") (by decide +kernel) (Nat.le_of_ble_eq_true rfl) rfl ?_
  intro p e s m below meth c A ls H locs Z hO hr hlk hin hw hl
  have hx := Z.1.1
  have hb := Z.1.2.1
  have hi := hin rfl
  have hl : lv_has ls 2 [(0, .ref b)] := hl
  obtain ⟨c0, hc0⟩ : ∃ c0 : Nat → va_E, c0 = fun _ => .inr (2, [.null, .int 0, .int 0]) := ⟨_, rfl⟩
  have hw : wo D A s.heap 1 (fun _ => b) (va_up c0 0 (.inr (2, [.null, .int 0, .int 0]))) H locs := hw.cong (all_s all_0 rfl)
  refine lv_aload_n hx hb dX4_init_0 rfl (lv_at hl 0 rfl) ?_
  refine oI Z q_1_212 hl.1 (Nat.le_of_ble_eq_true rfl) (Nat.le_of_ble_eq_true rfl) dX4_init_1 ?_
  refine lv_aload_n hx hb dX4_init_4 rfl (lv_at hl 0 rfl) ?_
  refine lv_iconst (v := 5) hx hb dX4_init_5 (by decide +kernel) ?_
  refine nQ0 (N' := 5) (t0 := 3) (C := "NestedBells$Machine") Z hw (by decide) q_1_213 hO.2.2 rfl rfl (by decide) (by decide) (Nat.le_of_ble_eq_true rfl) (Nat.le_of_ble_eq_true rfl) (Nat.le_of_ble_eq_true rfl) dX4_init_6 (fun q1 H hw => ?_)
  refine pOo (C := "NestedBells$History") (TC := TX4) (NF := 3) (ci := 2) (j := 0) (ty0 := tyX4) (ty := .array (.object "NestedBells$Machine")) (fs' := [.ref q1, .int 0, .int 0]) Z hi hw (by decide) rfl rfl iX4 tyX4_ok nmX4 (by decide) q_1_216 rfl rfl rfl rfl rfl (Nat.le_of_ble_eq_true rfl) rfl dX4_init_9 (fun H locs hw => ?_)
  refine lv_aload_n hx hb dX4_init_12 rfl (lv_at hl 0 rfl) ?_
  refine lv_iconst (v := 0) hx hb dX4_init_13 (by decide +kernel) ?_
  refine pOo (C := "NestedBells$History") (TC := TX4) (NF := 3) (ci := 2) (j := 1) (ty0 := tyX4) (ty := .int) (fs' := [.ref q1, .int 0, .int 0]) Z hi hw (by decide) rfl rfl iX4 tyX4_ok nmX4 (by decide) q_1_217 rfl rfl rfl rfl rfl (Nat.le_of_ble_eq_true rfl) rfl dX4_init_14 (fun H locs hw => ?_)
  refine lv_aload_n hx hb dX4_init_17 rfl (lv_at hl 0 rfl) ?_
  refine lv_iconst (v := 0) hx hb dX4_init_18 (by decide +kernel) ?_
  refine pOo (C := "NestedBells$History") (TC := TX4) (NF := 3) (ci := 2) (j := 2) (ty0 := tyX4) (ty := .int) (fs' := [.ref q1, .int 0, .int 0]) Z hi hw (by decide) rfl rfl iX4 tyX4_ok nmX4 (by decide) q_1_218 rfl rfl rfl rfl rfl (Nat.le_of_ble_eq_true rfl) rfl dX4_init_19 (fun H locs hw => ?_)
  refine lv_iconst (v := 0) hx hb dX4_init_22 (by decide +kernel) ?_
  refine lv_istore_n (lv' := [(1, .int 0), (0, .ref b)]) hx hb dX4_init_23 rfl hl (by decide) rfl (fun ls hl => ?_)
  refine lv_iload_n hx hb dX4_init_24 rfl (lv_at hl 0 rfl) ?_
  refine lv_iconst (v := 5) hx hb dX4_init_25 (by decide +kernel) ?_
  refine lv_icmp_ge (tgt := 48) hx hb dX4_init_26 (by decide) (fun q => ?_) (fun q => ?_)
  · exact absurd q (by decide)
  refine lv_aload_n hx hb dX4_init_29 rfl (lv_at hl 1 rfl) ?_
  refine gf (C := "NestedBells$History") (TC := TX4) (NF := 3) (ci := 2) (j := 0) (v := .ref q1) (fs := [.ref q1, .int 0, .int 0]) Z hw 0 (by decide) rfl (if_pos rfl) rfl iX4 (by decide) q_1_216 rfl rfl dX4_init_30 ?_
  refine lv_iload_n hx hb dX4_init_33 rfl (lv_at hl 0 rfl) ?_
  refine nO0 (C := "NestedBells$Machine") (TC := TX5) (NF := 11) (ci := 3) (fs := [.int 0, .null, .null, .null, .int 0, .null, .int 0, .int 0, .int 0, .int 0, .null]) Z hw (by decide) iX5 tyX5_ok q_1_213 q_1_33 q_1_2 rfl (by decide +kernel) (Nat.le_of_ble_eq_true rfl) (Nat.le_of_ble_eq_true rfl) dX4_init_34 (fun q2 H hw => ?_)
  refine lv_dup hx hb dX4_init_37 rfl ?_
  refine bk_n (N := 2) (b := q2) (by decide) (rnI (rest := [.ref q2, .int 0, .ref q1]) Z hO (wo_last hw rfl rfl) k_X5_init v_X5_init q_1_215 hl.1 rfl rfl (Nat.le_of_ble_eq_true rfl) ⟨Nat.le_of_ble_eq_true rfl, Nat.le_of_ble_eq_true rfl⟩ ⟨Nat.le_of_ble_eq_true rfl, Nat.le_of_ble_eq_true rfl⟩ dX4_init_38) hw rfl Z (fun a2 H locs e2 hw => ?_)
  replace hw : wo D A s.heap 59 (glue 2 (ext (fun _ => b) 1 q1) a2) (va_up (glue 2 (ext c0 1 (.inl (T 3, 5, .inr (.inr (.inr (.inr (fun _ => none))))))) ((fun ad => cE (mE T ad) mu0) a2)) 0 (.inr (2, [.ref q1, .int 0, .int 0]))) H locs := wo_glue hw (by decide)
  refine sq (ct' := va_up (va_up (glue 2 (ext c0 1 (.inl (T 3, 5, .inr (.inr (.inr (.inr (fun _ => none))))))) ((fun ad => cE (mE T ad) mu0) a2)) 1 (.inl (T 3, 5, .inr (.inr (.inr (.inr (va_up (fun _ => none) 0 (some q2)))))))) 0 (.inr (2, [.ref q1, .int 0, .int 0]))) (t0 := 3) (ci := 3) (vs := _) (f := (fun _ => none)) Z hw 1 2 (by decide) (by decide) rfl e2 rfl rfl rfl rfl (vp_in_nI (n := 0) (by decide) (by decide)) (va_ud (by decide)) dX4_init_41 (fun H locs hw => ?_)
  refine lv_iinc (v := 1) (lv' := [(1, .int 1), (0, .ref b)]) hx hb dX4_init_42 hl (k := 0) rfl (by decide) (by decide) rfl (fun ls hl => ?_)
  refine lv_goto (tgt := 24) hx hb dX4_init_45 (by decide) ?_
  refine lv_iload_n hx hb dX4_init_24 rfl (lv_at hl 0 rfl) ?_
  refine lv_iconst (v := 5) hx hb dX4_init_25 (by decide +kernel) ?_
  refine lv_icmp_ge (tgt := 48) hx hb dX4_init_26 (by decide) (fun q => ?_) (fun q => ?_)
  · exact absurd q (by decide)
  refine lv_aload_n hx hb dX4_init_29 rfl (lv_at hl 1 rfl) ?_
  refine gf (C := "NestedBells$History") (TC := TX4) (NF := 3) (ci := 2) (j := 0) (v := .ref q1) (fs := [.ref q1, .int 0, .int 0]) Z hw 0 (by decide) rfl (if_pos rfl) rfl iX4 (by decide) q_1_216 rfl rfl dX4_init_30 ?_
  refine lv_iload_n hx hb dX4_init_33 rfl (lv_at hl 0 rfl) ?_
  refine nO0 (C := "NestedBells$Machine") (TC := TX5) (NF := 11) (ci := 3) (fs := [.int 0, .null, .null, .null, .int 0, .null, .int 0, .int 0, .int 0, .int 0, .null]) Z hw (by decide) iX5 tyX5_ok q_1_213 q_1_33 q_1_2 rfl (by decide +kernel) (Nat.le_of_ble_eq_true rfl) (Nat.le_of_ble_eq_true rfl) dX4_init_34 (fun q59 H hw => ?_)
  refine lv_dup hx hb dX4_init_37 rfl ?_
  refine bk_n (N := 59) (b := q59) (by decide) (rnI (rest := [.ref q59, .int 1, .ref q1]) Z hO (wo_last hw rfl rfl) k_X5_init v_X5_init q_1_215 hl.1 rfl rfl (Nat.le_of_ble_eq_true rfl) ⟨Nat.le_of_ble_eq_true rfl, Nat.le_of_ble_eq_true rfl⟩ ⟨Nat.le_of_ble_eq_true rfl, Nat.le_of_ble_eq_true rfl⟩ dX4_init_38) hw rfl Z (fun a59 H locs e59 hw => ?_)
  replace hw : wo D A s.heap 116 (glue 59 (glue 2 (ext (fun _ => b) 1 q1) a2) a59) (va_up (glue 59 (va_up (glue 2 (ext c0 1 (.inl (T 3, 5, .inr (.inr (.inr (.inr (fun _ => none))))))) ((fun ad => cE (mE T ad) mu0) a2)) 1 (.inl (T 3, 5, .inr (.inr (.inr (.inr (va_up (fun _ => none) 0 (some q2)))))))) ((fun ad => cE (mE T ad) mu0) a59)) 0 (.inr (2, [.ref q1, .int 0, .int 0]))) H locs := wo_glue hw (by decide)
  refine sq (ct' := va_up (va_up (glue 59 (va_up (glue 2 (ext c0 1 (.inl (T 3, 5, .inr (.inr (.inr (.inr (fun _ => none))))))) ((fun ad => cE (mE T ad) mu0) a2)) 1 (.inl (T 3, 5, .inr (.inr (.inr (.inr (va_up (fun _ => none) 0 (some q2)))))))) ((fun ad => cE (mE T ad) mu0) a59)) 1 (.inl (T 3, 5, .inr (.inr (.inr (.inr (va_up (va_up (fun _ => none) 0 (some q2)) 1 (some q59)))))))) 0 (.inr (2, [.ref q1, .int 0, .int 0]))) (t0 := 3) (ci := 3) (vs := _) (f := (va_up (fun _ => none) 0 (some q2))) Z hw 1 59 (by decide) (by decide) rfl e59 rfl rfl rfl rfl (vp_in_nI (n := 1) (by decide) (by decide)) (va_ud (by decide)) dX4_init_41 (fun H locs hw => ?_)
  refine lv_iinc (v := 2) (lv' := [(1, .int 2), (0, .ref b)]) hx hb dX4_init_42 hl (k := 0) rfl (by decide) (by decide) rfl (fun ls hl => ?_)
  refine lv_goto (tgt := 24) hx hb dX4_init_45 (by decide) ?_
  refine lv_iload_n hx hb dX4_init_24 rfl (lv_at hl 0 rfl) ?_
  refine lv_iconst (v := 5) hx hb dX4_init_25 (by decide +kernel) ?_
  refine lv_icmp_ge (tgt := 48) hx hb dX4_init_26 (by decide) (fun q => ?_) (fun q => ?_)
  · exact absurd q (by decide)
  refine lv_aload_n hx hb dX4_init_29 rfl (lv_at hl 1 rfl) ?_
  refine gf (C := "NestedBells$History") (TC := TX4) (NF := 3) (ci := 2) (j := 0) (v := .ref q1) (fs := [.ref q1, .int 0, .int 0]) Z hw 0 (by decide) rfl (if_pos rfl) rfl iX4 (by decide) q_1_216 rfl rfl dX4_init_30 ?_
  refine lv_iload_n hx hb dX4_init_33 rfl (lv_at hl 0 rfl) ?_
  refine nO0 (C := "NestedBells$Machine") (TC := TX5) (NF := 11) (ci := 3) (fs := [.int 0, .null, .null, .null, .int 0, .null, .int 0, .int 0, .int 0, .int 0, .null]) Z hw (by decide) iX5 tyX5_ok q_1_213 q_1_33 q_1_2 rfl (by decide +kernel) (Nat.le_of_ble_eq_true rfl) (Nat.le_of_ble_eq_true rfl) dX4_init_34 (fun q116 H hw => ?_)
  refine lv_dup hx hb dX4_init_37 rfl ?_
  refine bk_n (N := 116) (b := q116) (by decide) (rnI (rest := [.ref q116, .int 2, .ref q1]) Z hO (wo_last hw rfl rfl) k_X5_init v_X5_init q_1_215 hl.1 rfl rfl (Nat.le_of_ble_eq_true rfl) ⟨Nat.le_of_ble_eq_true rfl, Nat.le_of_ble_eq_true rfl⟩ ⟨Nat.le_of_ble_eq_true rfl, Nat.le_of_ble_eq_true rfl⟩ dX4_init_38) hw rfl Z (fun a116 H locs e116 hw => ?_)
  replace hw : wo D A s.heap 173 (glue 116 (glue 59 (glue 2 (ext (fun _ => b) 1 q1) a2) a59) a116) (va_up (glue 116 (va_up (glue 59 (va_up (glue 2 (ext c0 1 (.inl (T 3, 5, .inr (.inr (.inr (.inr (fun _ => none))))))) ((fun ad => cE (mE T ad) mu0) a2)) 1 (.inl (T 3, 5, .inr (.inr (.inr (.inr (va_up (fun _ => none) 0 (some q2)))))))) ((fun ad => cE (mE T ad) mu0) a59)) 1 (.inl (T 3, 5, .inr (.inr (.inr (.inr (va_up (va_up (fun _ => none) 0 (some q2)) 1 (some q59)))))))) ((fun ad => cE (mE T ad) mu0) a116)) 0 (.inr (2, [.ref q1, .int 0, .int 0]))) H locs := wo_glue hw (by decide)
  refine sq (ct' := va_up (va_up (glue 116 (va_up (glue 59 (va_up (glue 2 (ext c0 1 (.inl (T 3, 5, .inr (.inr (.inr (.inr (fun _ => none))))))) ((fun ad => cE (mE T ad) mu0) a2)) 1 (.inl (T 3, 5, .inr (.inr (.inr (.inr (va_up (fun _ => none) 0 (some q2)))))))) ((fun ad => cE (mE T ad) mu0) a59)) 1 (.inl (T 3, 5, .inr (.inr (.inr (.inr (va_up (va_up (fun _ => none) 0 (some q2)) 1 (some q59)))))))) ((fun ad => cE (mE T ad) mu0) a116)) 1 (.inl (T 3, 5, .inr (.inr (.inr (.inr (va_up (va_up (va_up (fun _ => none) 0 (some q2)) 1 (some q59)) 2 (some q116)))))))) 0 (.inr (2, [.ref q1, .int 0, .int 0]))) (t0 := 3) (ci := 3) (vs := _) (f := (va_up (va_up (fun _ => none) 0 (some q2)) 1 (some q59))) Z hw 1 116 (by decide) (by decide) rfl e116 rfl rfl rfl rfl (vp_in_nI (n := 2) (by decide) (by decide)) (va_ud (by decide)) dX4_init_41 (fun H locs hw => ?_)
  refine lv_iinc (v := 3) (lv' := [(1, .int 3), (0, .ref b)]) hx hb dX4_init_42 hl (k := 0) rfl (by decide) (by decide) rfl (fun ls hl => ?_)
  refine lv_goto (tgt := 24) hx hb dX4_init_45 (by decide) ?_
  refine lv_iload_n hx hb dX4_init_24 rfl (lv_at hl 0 rfl) ?_
  refine lv_iconst (v := 5) hx hb dX4_init_25 (by decide +kernel) ?_
  refine lv_icmp_ge (tgt := 48) hx hb dX4_init_26 (by decide) (fun q => ?_) (fun q => ?_)
  · exact absurd q (by decide)
  refine lv_aload_n hx hb dX4_init_29 rfl (lv_at hl 1 rfl) ?_
  refine gf (C := "NestedBells$History") (TC := TX4) (NF := 3) (ci := 2) (j := 0) (v := .ref q1) (fs := [.ref q1, .int 0, .int 0]) Z hw 0 (by decide) rfl (if_pos rfl) rfl iX4 (by decide) q_1_216 rfl rfl dX4_init_30 ?_
  refine lv_iload_n hx hb dX4_init_33 rfl (lv_at hl 0 rfl) ?_
  refine nO0 (C := "NestedBells$Machine") (TC := TX5) (NF := 11) (ci := 3) (fs := [.int 0, .null, .null, .null, .int 0, .null, .int 0, .int 0, .int 0, .int 0, .null]) Z hw (by decide) iX5 tyX5_ok q_1_213 q_1_33 q_1_2 rfl (by decide +kernel) (Nat.le_of_ble_eq_true rfl) (Nat.le_of_ble_eq_true rfl) dX4_init_34 (fun q173 H hw => ?_)
  refine lv_dup hx hb dX4_init_37 rfl ?_
  refine bk_n (N := 173) (b := q173) (by decide) (rnI (rest := [.ref q173, .int 3, .ref q1]) Z hO (wo_last hw rfl rfl) k_X5_init v_X5_init q_1_215 hl.1 rfl rfl (Nat.le_of_ble_eq_true rfl) ⟨Nat.le_of_ble_eq_true rfl, Nat.le_of_ble_eq_true rfl⟩ ⟨Nat.le_of_ble_eq_true rfl, Nat.le_of_ble_eq_true rfl⟩ dX4_init_38) hw rfl Z (fun a173 H locs e173 hw => ?_)
  replace hw : wo D A s.heap 230 (glue 173 (glue 116 (glue 59 (glue 2 (ext (fun _ => b) 1 q1) a2) a59) a116) a173) (va_up (glue 173 (va_up (glue 116 (va_up (glue 59 (va_up (glue 2 (ext c0 1 (.inl (T 3, 5, .inr (.inr (.inr (.inr (fun _ => none))))))) ((fun ad => cE (mE T ad) mu0) a2)) 1 (.inl (T 3, 5, .inr (.inr (.inr (.inr (va_up (fun _ => none) 0 (some q2)))))))) ((fun ad => cE (mE T ad) mu0) a59)) 1 (.inl (T 3, 5, .inr (.inr (.inr (.inr (va_up (va_up (fun _ => none) 0 (some q2)) 1 (some q59)))))))) ((fun ad => cE (mE T ad) mu0) a116)) 1 (.inl (T 3, 5, .inr (.inr (.inr (.inr (va_up (va_up (va_up (fun _ => none) 0 (some q2)) 1 (some q59)) 2 (some q116)))))))) ((fun ad => cE (mE T ad) mu0) a173)) 0 (.inr (2, [.ref q1, .int 0, .int 0]))) H locs := wo_glue hw (by decide)
  refine sq (ct' := va_up (va_up (glue 173 (va_up (glue 116 (va_up (glue 59 (va_up (glue 2 (ext c0 1 (.inl (T 3, 5, .inr (.inr (.inr (.inr (fun _ => none))))))) ((fun ad => cE (mE T ad) mu0) a2)) 1 (.inl (T 3, 5, .inr (.inr (.inr (.inr (va_up (fun _ => none) 0 (some q2)))))))) ((fun ad => cE (mE T ad) mu0) a59)) 1 (.inl (T 3, 5, .inr (.inr (.inr (.inr (va_up (va_up (fun _ => none) 0 (some q2)) 1 (some q59)))))))) ((fun ad => cE (mE T ad) mu0) a116)) 1 (.inl (T 3, 5, .inr (.inr (.inr (.inr (va_up (va_up (va_up (fun _ => none) 0 (some q2)) 1 (some q59)) 2 (some q116)))))))) ((fun ad => cE (mE T ad) mu0) a173)) 1 (.inl (T 3, 5, .inr (.inr (.inr (.inr (va_up (va_up (va_up (va_up (fun _ => none) 0 (some q2)) 1 (some q59)) 2 (some q116)) 3 (some q173)))))))) 0 (.inr (2, [.ref q1, .int 0, .int 0]))) (t0 := 3) (ci := 3) (vs := _) (f := (va_up (va_up (va_up (fun _ => none) 0 (some q2)) 1 (some q59)) 2 (some q116))) Z hw 1 173 (by decide) (by decide) rfl e173 rfl rfl rfl rfl (vp_in_nI (n := 3) (by decide) (by decide)) (va_ud (by decide)) dX4_init_41 (fun H locs hw => ?_)
  refine lv_iinc (v := 4) (lv' := [(1, .int 4), (0, .ref b)]) hx hb dX4_init_42 hl (k := 0) rfl (by decide) (by decide) rfl (fun ls hl => ?_)
  refine lv_goto (tgt := 24) hx hb dX4_init_45 (by decide) ?_
  refine lv_iload_n hx hb dX4_init_24 rfl (lv_at hl 0 rfl) ?_
  refine lv_iconst (v := 5) hx hb dX4_init_25 (by decide +kernel) ?_
  refine lv_icmp_ge (tgt := 48) hx hb dX4_init_26 (by decide) (fun q => ?_) (fun q => ?_)
  · exact absurd q (by decide)
  refine lv_aload_n hx hb dX4_init_29 rfl (lv_at hl 1 rfl) ?_
  refine gf (C := "NestedBells$History") (TC := TX4) (NF := 3) (ci := 2) (j := 0) (v := .ref q1) (fs := [.ref q1, .int 0, .int 0]) Z hw 0 (by decide) rfl (if_pos rfl) rfl iX4 (by decide) q_1_216 rfl rfl dX4_init_30 ?_
  refine lv_iload_n hx hb dX4_init_33 rfl (lv_at hl 0 rfl) ?_
  refine nO0 (C := "NestedBells$Machine") (TC := TX5) (NF := 11) (ci := 3) (fs := [.int 0, .null, .null, .null, .int 0, .null, .int 0, .int 0, .int 0, .int 0, .null]) Z hw (by decide) iX5 tyX5_ok q_1_213 q_1_33 q_1_2 rfl (by decide +kernel) (Nat.le_of_ble_eq_true rfl) (Nat.le_of_ble_eq_true rfl) dX4_init_34 (fun q230 H hw => ?_)
  refine lv_dup hx hb dX4_init_37 rfl ?_
  refine bk_n (N := 230) (b := q230) (by decide) (rnI (rest := [.ref q230, .int 4, .ref q1]) Z hO (wo_last hw rfl rfl) k_X5_init v_X5_init q_1_215 hl.1 rfl rfl (Nat.le_of_ble_eq_true rfl) ⟨Nat.le_of_ble_eq_true rfl, Nat.le_of_ble_eq_true rfl⟩ ⟨Nat.le_of_ble_eq_true rfl, Nat.le_of_ble_eq_true rfl⟩ dX4_init_38) hw rfl Z (fun a230 H locs e230 hw => ?_)
  replace hw : wo D A s.heap 287 (glue 230 (glue 173 (glue 116 (glue 59 (glue 2 (ext (fun _ => b) 1 q1) a2) a59) a116) a173) a230) (va_up (glue 230 (va_up (glue 173 (va_up (glue 116 (va_up (glue 59 (va_up (glue 2 (ext c0 1 (.inl (T 3, 5, .inr (.inr (.inr (.inr (fun _ => none))))))) ((fun ad => cE (mE T ad) mu0) a2)) 1 (.inl (T 3, 5, .inr (.inr (.inr (.inr (va_up (fun _ => none) 0 (some q2)))))))) ((fun ad => cE (mE T ad) mu0) a59)) 1 (.inl (T 3, 5, .inr (.inr (.inr (.inr (va_up (va_up (fun _ => none) 0 (some q2)) 1 (some q59)))))))) ((fun ad => cE (mE T ad) mu0) a116)) 1 (.inl (T 3, 5, .inr (.inr (.inr (.inr (va_up (va_up (va_up (fun _ => none) 0 (some q2)) 1 (some q59)) 2 (some q116)))))))) ((fun ad => cE (mE T ad) mu0) a173)) 1 (.inl (T 3, 5, .inr (.inr (.inr (.inr (va_up (va_up (va_up (va_up (fun _ => none) 0 (some q2)) 1 (some q59)) 2 (some q116)) 3 (some q173)))))))) ((fun ad => cE (mE T ad) mu0) a230)) 0 (.inr (2, [.ref q1, .int 0, .int 0]))) H locs := wo_glue hw (by decide)
  refine sq (ct' := va_up (va_up (glue 230 (va_up (glue 173 (va_up (glue 116 (va_up (glue 59 (va_up (glue 2 (ext c0 1 (.inl (T 3, 5, .inr (.inr (.inr (.inr (fun _ => none))))))) ((fun ad => cE (mE T ad) mu0) a2)) 1 (.inl (T 3, 5, .inr (.inr (.inr (.inr (va_up (fun _ => none) 0 (some q2)))))))) ((fun ad => cE (mE T ad) mu0) a59)) 1 (.inl (T 3, 5, .inr (.inr (.inr (.inr (va_up (va_up (fun _ => none) 0 (some q2)) 1 (some q59)))))))) ((fun ad => cE (mE T ad) mu0) a116)) 1 (.inl (T 3, 5, .inr (.inr (.inr (.inr (va_up (va_up (va_up (fun _ => none) 0 (some q2)) 1 (some q59)) 2 (some q116)))))))) ((fun ad => cE (mE T ad) mu0) a173)) 1 (.inl (T 3, 5, .inr (.inr (.inr (.inr (va_up (va_up (va_up (va_up (fun _ => none) 0 (some q2)) 1 (some q59)) 2 (some q116)) 3 (some q173)))))))) ((fun ad => cE (mE T ad) mu0) a230)) 1 (.inl (T 3, 5, .inr (.inr (.inr (.inr (va_up (va_up (va_up (va_up (va_up (fun _ => none) 0 (some q2)) 1 (some q59)) 2 (some q116)) 3 (some q173)) 4 (some q230)))))))) 0 (.inr (2, [.ref q1, .int 0, .int 0]))) (t0 := 3) (ci := 3) (vs := _) (f := (va_up (va_up (va_up (va_up (fun _ => none) 0 (some q2)) 1 (some q59)) 2 (some q116)) 3 (some q173))) Z hw 1 230 (by decide) (by decide) rfl e230 rfl rfl rfl rfl (vp_in_nI (n := 4) (by decide) (by decide)) (va_ud (by decide)) dX4_init_41 (fun H locs hw => ?_)
  refine lv_iinc (v := 5) (lv' := [(1, .int 5), (0, .ref b)]) hx hb dX4_init_42 hl (k := 0) rfl (by decide) (by decide) rfl (fun ls hl => ?_)
  refine lv_goto (tgt := 24) hx hb dX4_init_45 (by decide) ?_
  refine lv_iload_n hx hb dX4_init_24 rfl (lv_at hl 0 rfl) ?_
  refine lv_iconst (v := 5) hx hb dX4_init_25 (by decide +kernel) ?_
  refine lv_icmp_ge (tgt := 48) hx hb dX4_init_26 (by decide) (fun q => ?_) (fun q => ?_)
  rotate_left
  · exact absurd (by decide) q
  have hA230 : ∀ x, x < 57 → (glue 230 (glue 173 (glue 116 (glue 59 (glue 2 (ext (fun _ => b) 1 q1) a2) a59) a116) a173) a230) (230 + x) = a230 x := fun x hx => glue_r
  have hC230 : ∀ x, x < 57 → (va_up (va_up (glue 230 (va_up (glue 173 (va_up (glue 116 (va_up (glue 59 (va_up (glue 2 (ext c0 1 (.inl (T 3, 5, .inr (.inr (.inr (.inr (fun _ => none))))))) ((fun ad => cE (mE T ad) mu0) a2)) 1 (.inl (T 3, 5, .inr (.inr (.inr (.inr (va_up (fun _ => none) 0 (some q2)))))))) ((fun ad => cE (mE T ad) mu0) a59)) 1 (.inl (T 3, 5, .inr (.inr (.inr (.inr (va_up (va_up (fun _ => none) 0 (some q2)) 1 (some q59)))))))) ((fun ad => cE (mE T ad) mu0) a116)) 1 (.inl (T 3, 5, .inr (.inr (.inr (.inr (va_up (va_up (va_up (fun _ => none) 0 (some q2)) 1 (some q59)) 2 (some q116)))))))) ((fun ad => cE (mE T ad) mu0) a173)) 1 (.inl (T 3, 5, .inr (.inr (.inr (.inr (va_up (va_up (va_up (va_up (fun _ => none) 0 (some q2)) 1 (some q59)) 2 (some q116)) 3 (some q173)))))))) ((fun ad => cE (mE T ad) mu0) a230)) 1 (.inl (T 3, 5, .inr (.inr (.inr (.inr (va_up (va_up (va_up (va_up (va_up (fun _ => none) 0 (some q2)) 1 (some q59)) 2 (some q116)) 3 (some q173)) 4 (some q230)))))))) 0 (.inr (2, [.ref q1, .int 0, .int 0]))) (230 + x) = cE (mE T a230) mu0 x := fun x hx => (va_un (by omega)).trans ((va_un (by omega)).trans (glue_r))
  have hA173 : ∀ x, x < 57 → (glue 230 (glue 173 (glue 116 (glue 59 (glue 2 (ext (fun _ => b) 1 q1) a2) a59) a116) a173) a230) (173 + x) = a173 x := fun x hx => (glue_l (by omega)).trans (glue_r)
  have hC173 : ∀ x, x < 57 → (va_up (va_up (glue 230 (va_up (glue 173 (va_up (glue 116 (va_up (glue 59 (va_up (glue 2 (ext c0 1 (.inl (T 3, 5, .inr (.inr (.inr (.inr (fun _ => none))))))) ((fun ad => cE (mE T ad) mu0) a2)) 1 (.inl (T 3, 5, .inr (.inr (.inr (.inr (va_up (fun _ => none) 0 (some q2)))))))) ((fun ad => cE (mE T ad) mu0) a59)) 1 (.inl (T 3, 5, .inr (.inr (.inr (.inr (va_up (va_up (fun _ => none) 0 (some q2)) 1 (some q59)))))))) ((fun ad => cE (mE T ad) mu0) a116)) 1 (.inl (T 3, 5, .inr (.inr (.inr (.inr (va_up (va_up (va_up (fun _ => none) 0 (some q2)) 1 (some q59)) 2 (some q116)))))))) ((fun ad => cE (mE T ad) mu0) a173)) 1 (.inl (T 3, 5, .inr (.inr (.inr (.inr (va_up (va_up (va_up (va_up (fun _ => none) 0 (some q2)) 1 (some q59)) 2 (some q116)) 3 (some q173)))))))) ((fun ad => cE (mE T ad) mu0) a230)) 1 (.inl (T 3, 5, .inr (.inr (.inr (.inr (va_up (va_up (va_up (va_up (va_up (fun _ => none) 0 (some q2)) 1 (some q59)) 2 (some q116)) 3 (some q173)) 4 (some q230)))))))) 0 (.inr (2, [.ref q1, .int 0, .int 0]))) (173 + x) = cE (mE T a173) mu0 x := fun x hx => (va_un (by omega)).trans ((va_un (by omega)).trans ((glue_l (by omega)).trans ((va_un (by omega)).trans (glue_r))))
  have hA116 : ∀ x, x < 57 → (glue 230 (glue 173 (glue 116 (glue 59 (glue 2 (ext (fun _ => b) 1 q1) a2) a59) a116) a173) a230) (116 + x) = a116 x := fun x hx => (glue_l (by omega)).trans ((glue_l (by omega)).trans (glue_r))
  have hC116 : ∀ x, x < 57 → (va_up (va_up (glue 230 (va_up (glue 173 (va_up (glue 116 (va_up (glue 59 (va_up (glue 2 (ext c0 1 (.inl (T 3, 5, .inr (.inr (.inr (.inr (fun _ => none))))))) ((fun ad => cE (mE T ad) mu0) a2)) 1 (.inl (T 3, 5, .inr (.inr (.inr (.inr (va_up (fun _ => none) 0 (some q2)))))))) ((fun ad => cE (mE T ad) mu0) a59)) 1 (.inl (T 3, 5, .inr (.inr (.inr (.inr (va_up (va_up (fun _ => none) 0 (some q2)) 1 (some q59)))))))) ((fun ad => cE (mE T ad) mu0) a116)) 1 (.inl (T 3, 5, .inr (.inr (.inr (.inr (va_up (va_up (va_up (fun _ => none) 0 (some q2)) 1 (some q59)) 2 (some q116)))))))) ((fun ad => cE (mE T ad) mu0) a173)) 1 (.inl (T 3, 5, .inr (.inr (.inr (.inr (va_up (va_up (va_up (va_up (fun _ => none) 0 (some q2)) 1 (some q59)) 2 (some q116)) 3 (some q173)))))))) ((fun ad => cE (mE T ad) mu0) a230)) 1 (.inl (T 3, 5, .inr (.inr (.inr (.inr (va_up (va_up (va_up (va_up (va_up (fun _ => none) 0 (some q2)) 1 (some q59)) 2 (some q116)) 3 (some q173)) 4 (some q230)))))))) 0 (.inr (2, [.ref q1, .int 0, .int 0]))) (116 + x) = cE (mE T a116) mu0 x := fun x hx => (va_un (by omega)).trans ((va_un (by omega)).trans ((glue_l (by omega)).trans ((va_un (by omega)).trans ((glue_l (by omega)).trans ((va_un (by omega)).trans (glue_r))))))
  have hA59 : ∀ x, x < 57 → (glue 230 (glue 173 (glue 116 (glue 59 (glue 2 (ext (fun _ => b) 1 q1) a2) a59) a116) a173) a230) (59 + x) = a59 x := fun x hx => (glue_l (by omega)).trans ((glue_l (by omega)).trans ((glue_l (by omega)).trans (glue_r)))
  have hC59 : ∀ x, x < 57 → (va_up (va_up (glue 230 (va_up (glue 173 (va_up (glue 116 (va_up (glue 59 (va_up (glue 2 (ext c0 1 (.inl (T 3, 5, .inr (.inr (.inr (.inr (fun _ => none))))))) ((fun ad => cE (mE T ad) mu0) a2)) 1 (.inl (T 3, 5, .inr (.inr (.inr (.inr (va_up (fun _ => none) 0 (some q2)))))))) ((fun ad => cE (mE T ad) mu0) a59)) 1 (.inl (T 3, 5, .inr (.inr (.inr (.inr (va_up (va_up (fun _ => none) 0 (some q2)) 1 (some q59)))))))) ((fun ad => cE (mE T ad) mu0) a116)) 1 (.inl (T 3, 5, .inr (.inr (.inr (.inr (va_up (va_up (va_up (fun _ => none) 0 (some q2)) 1 (some q59)) 2 (some q116)))))))) ((fun ad => cE (mE T ad) mu0) a173)) 1 (.inl (T 3, 5, .inr (.inr (.inr (.inr (va_up (va_up (va_up (va_up (fun _ => none) 0 (some q2)) 1 (some q59)) 2 (some q116)) 3 (some q173)))))))) ((fun ad => cE (mE T ad) mu0) a230)) 1 (.inl (T 3, 5, .inr (.inr (.inr (.inr (va_up (va_up (va_up (va_up (va_up (fun _ => none) 0 (some q2)) 1 (some q59)) 2 (some q116)) 3 (some q173)) 4 (some q230)))))))) 0 (.inr (2, [.ref q1, .int 0, .int 0]))) (59 + x) = cE (mE T a59) mu0 x := fun x hx => (va_un (by omega)).trans ((va_un (by omega)).trans ((glue_l (by omega)).trans ((va_un (by omega)).trans ((glue_l (by omega)).trans ((va_un (by omega)).trans ((glue_l (by omega)).trans ((va_un (by omega)).trans (glue_r))))))))
  have hA2 : ∀ x, x < 57 → (glue 230 (glue 173 (glue 116 (glue 59 (glue 2 (ext (fun _ => b) 1 q1) a2) a59) a116) a173) a230) (2 + x) = a2 x := fun x hx => (glue_l (by omega)).trans ((glue_l (by omega)).trans ((glue_l (by omega)).trans ((glue_l (by omega)).trans (glue_r))))
  have hC2 : ∀ x, x < 57 → (va_up (va_up (glue 230 (va_up (glue 173 (va_up (glue 116 (va_up (glue 59 (va_up (glue 2 (ext c0 1 (.inl (T 3, 5, .inr (.inr (.inr (.inr (fun _ => none))))))) ((fun ad => cE (mE T ad) mu0) a2)) 1 (.inl (T 3, 5, .inr (.inr (.inr (.inr (va_up (fun _ => none) 0 (some q2)))))))) ((fun ad => cE (mE T ad) mu0) a59)) 1 (.inl (T 3, 5, .inr (.inr (.inr (.inr (va_up (va_up (fun _ => none) 0 (some q2)) 1 (some q59)))))))) ((fun ad => cE (mE T ad) mu0) a116)) 1 (.inl (T 3, 5, .inr (.inr (.inr (.inr (va_up (va_up (va_up (fun _ => none) 0 (some q2)) 1 (some q59)) 2 (some q116)))))))) ((fun ad => cE (mE T ad) mu0) a173)) 1 (.inl (T 3, 5, .inr (.inr (.inr (.inr (va_up (va_up (va_up (va_up (fun _ => none) 0 (some q2)) 1 (some q59)) 2 (some q116)) 3 (some q173)))))))) ((fun ad => cE (mE T ad) mu0) a230)) 1 (.inl (T 3, 5, .inr (.inr (.inr (.inr (va_up (va_up (va_up (va_up (va_up (fun _ => none) 0 (some q2)) 1 (some q59)) 2 (some q116)) 3 (some q173)) 4 (some q230)))))))) 0 (.inr (2, [.ref q1, .int 0, .int 0]))) (2 + x) = cE (mE T a2) mu0 x := fun x hx => (va_un (by omega)).trans ((va_un (by omega)).trans ((glue_l (by omega)).trans ((va_un (by omega)).trans ((glue_l (by omega)).trans ((va_un (by omega)).trans ((glue_l (by omega)).trans ((va_un (by omega)).trans ((glue_l (by omega)).trans ((va_un (by omega)).trans (glue_r))))))))))
  refine rt_n (Ec := ec4 T) Z hr hlk (hw.cong (fun k hk => ?_)) rfl dX4_init_48
  by_cases k0 : k = 0
  · subst k0; rfl
  by_cases k1 : k = 1
  · subst k1; exact congrArg (fun f => (Sum.inl (T 3, 5, .inr (.inr (.inr (.inr f)))) : va_E)) (trn_s (trn_s (trn_s (trn_s (trn_s trn_0 e2) e59) e116) e173) e230)
  by_cases z2 : k < 59
  · obtain ⟨x, rfl⟩ : ∃ x, k = 2 + x := ⟨k - 2, by omega⟩
    exact (hC2 x (by omega)).trans ((mE_at (by omega) (fun y hy => hA2 y hy)).trans (ec4_M (q := 0) (by omega)).symm)
  by_cases z59 : k < 116
  · obtain ⟨x, rfl⟩ : ∃ x, k = 59 + x := ⟨k - 59, by omega⟩
    exact (hC59 x (by omega)).trans ((mE_at (by omega) (fun y hy => hA59 y hy)).trans (ec4_M (q := 1) (by omega)).symm)
  by_cases z116 : k < 173
  · obtain ⟨x, rfl⟩ : ∃ x, k = 116 + x := ⟨k - 116, by omega⟩
    exact (hC116 x (by omega)).trans ((mE_at (by omega) (fun y hy => hA116 y hy)).trans (ec4_M (q := 2) (by omega)).symm)
  by_cases z173 : k < 230
  · obtain ⟨x, rfl⟩ : ∃ x, k = 173 + x := ⟨k - 173, by omega⟩
    exact (hC173 x (by omega)).trans ((mE_at (by omega) (fun y hy => hA173 y hy)).trans (ec4_M (q := 3) (by omega)).symm)
  by_cases z230 : k < 287
  · obtain ⟨x, rfl⟩ : ∃ x, k = 230 + x := ⟨k - 230, by omega⟩
    exact (hC230 x (by omega)).trans ((mE_at (by omega) (fun y hy => hA230 y hy)).trans (ec4_M (q := 4) (by omega)).symm)
  exact absurd hk (by omega)
