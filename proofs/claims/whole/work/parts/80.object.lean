/-! the object's constructor -/
def g405 (k : Nat) : Nat := if k = 0 then 0 else if k < 3 then 114 + k else if k < 6 then 399 + k else if k < 120 then k - 5 else k - 3
theorem g405_lt : ∀ k, k < 405 → g405 k < 405 := fun k hk => by
  unfold g405
  repeat' split
  all_goals omega
theorem g405_in : ∀ i j, i < 405 → j < 405 → g405 i = g405 j → i = j := fun i j hi hj h => by
  unfold g405 at h
  repeat' split at h
  all_goals omega
theorem g405_0 {x : Nat} (hx : x < 57) : g405 (6 + 57 * 0 + x) = 1 + x := by
  unfold g405
  repeat' split
  all_goals omega
theorem g405_1 {x : Nat} (hx : x < 57) : g405 (6 + 57 * 1 + x) = 58 + x := by
  unfold g405
  repeat' split
  all_goals omega
theorem g405_2 {q x : Nat} (hx : x < 57) : g405 (6 + 57 * (2 + q) + x) = 115 + (2 + 57 * q + x) := by
  unfold g405
  repeat' split
  all_goals omega
theorem big_M {g : Nat → Nat} {T : Nat → ClassId} {q a : Nat} (ha : a < 57) {aq ad : Nat → Nat} (h : ∀ x, x < 57 → ad (6 + 57 * q + x) = aq x) : cE (mE T aq) mu0 a = cE (bE g T ad) be0 (6 + 57 * q + a) := by
  refine (mE_at ha h).trans ?_
  show mE T _ a (mu0 a) = bE g T ad (6 + 57 * q + a) (be0 (6 + 57 * q + a))
  rw [b_M ha, show be0 (6 + 57 * q + a) = mu0 a from be0_M ha]
theorem big_at {g : Nat → Nat} {T : Nat → ClassId} {AD a402 a115 a58 a1 : Nat → Nat} {CT : Nat → va_E} (hA402 : ∀ x, x < 3 → AD (402 + x) = a402 x) (hA115 : ∀ x, x < 287 → AD (115 + x) = a115 x) (hA58 : ∀ x, x < 57 → AD (58 + x) = a58 x) (hA1 : ∀ x, x < 57 → AD (1 + x) = a1 x)
    (hC0 : CT 0 = .inr (6, [.ref (AD 1), .ref (AD 58), .ref (AD 115), .ref (AD 402), .int 0])) (hC402 : ∀ x, x < 3 → CT (402 + x) = ec2 g T a402 x) (hC115 : ∀ x, x < 287 → CT (115 + x) = ec4 T a115 x) (hC58 : ∀ x, x < 57 → CT (58 + x) = cE (mE T a58) mu0 x) (hC1 : ∀ x, x < 57 → CT (1 + x) = cE (mE T a1) mu0 x) {k : Nat} (hk : k < 405) : CT (g405 k) = cE (bE g T (fun x => AD (g405 x))) be0 k := by
  by_cases k0 : k = 0
  · subst k0; exact hC0
  by_cases k1 : k = 1
  · subst k1
    refine (hC115 0 (by decide)).trans ?_
    show (Sum.inr (2, [.ref (a115 1), .int 0, .int 0]) : va_E) = Sum.inr (2, [.ref (AD 116), .int 0, .int 0])
    rw [← hA115 1 (by decide)]
  by_cases k2 : k = 2
  · subst k2
    refine (hC115 1 (by decide)).trans ?_
    refine congrArg (fun f => (Sum.inl (T 3, 5, .inr (.inr (.inr (.inr f)))) : va_E)) (tr_cong (fun i hi => ?_))
    show a115 (2 + 57 * i) = AD (g405 (6 + 57 * (2 + i) + 0))
    rw [g405_2 (by decide), hA115 _ (by omega)]
    rfl
  by_cases k3 : k = 3
  · subst k3
    refine (hC402 0 (by decide)).trans ?_
    show (Sum.inr (0, [.ref (a402 1), .int 0, .int 0, .int (-1), .ref (g 8), .ref (a402 2)]) : va_E) = Sum.inr (0, [.ref (AD 403), .int 0, .int 0, .int (-1), .ref (g 8), .ref (AD 404)])
    rw [← hA402 1 (by decide), ← hA402 2 (by decide)]
  by_cases k4 : k = 4
  · subst k4; exact hC402 1 (by decide)
  by_cases k5 : k = 5
  · subst k5; exact hC402 2 (by decide)
  by_cases z1 : k < 63
  · obtain ⟨x, rfl⟩ : ∃ x, k = 6 + 57 * 0 + x := ⟨k - 6, by omega⟩
    rw [g405_0 (by omega)]
    exact (hC1 x (by omega)).trans (big_M (by omega) (fun y hy => by rw [g405_0 hy]; exact hA1 y hy))
  by_cases z2 : k < 120
  · obtain ⟨x, rfl⟩ : ∃ x, k = 6 + 57 * 1 + x := ⟨k - 63, by omega⟩
    rw [g405_1 (by omega)]
    exact (hC58 x (by omega)).trans (big_M (by omega) (fun y hy => by rw [g405_1 hy]; exact hA58 y hy))
  obtain ⟨q, x, hx, rfl⟩ : ∃ q x, x < 57 ∧ k = 6 + 57 * (2 + q) + x := ⟨(k - 120) / 57, (k - 120) % 57, Nat.mod_lt _ (by decide), by omega⟩
  rw [g405_2 hx]
  refine (hC115 _ (by omega)).trans ((ec4_M hx).trans (?_ : mE T _ x (mu0 x) = _))
  exact (big_M (aq := fun y => a115 (2 + 57 * q + y)) hx (fun y hy => by rw [g405_2 hy]; exact hA115 _ (by omega)))
abbrev rmX8_init : Room := { frames := 5, cells := 404, slots := 3318, locals := 103 }
theorem v_X8_init : cvI yX8_init cX8_init 1 0 := ⟨q_1_27, q_1_1, q_1_28, rfl, by decide +kernel, by decide +kernel, by decide +kernel⟩
set_option maxHeartbeats 4000000 in
set_option maxRecDepth 100000 in
theorem k_X8_init {l : Launch} {D : va_G} {T : Nat → ClassId} {g : Nat → Nat} {b : Nat} : mI l yX8_init cX8_init 1 none rmX8_init D T g 1 (fun _ => b) (fun _ => .inr (6, [.null, .null, .null, .null, .int 0])) [.ref b] (qN D 405 b (fun ad => cE (bE g T ad) be0)) := by
  refine mI.of (own := "NestedBells") (by decide +kernel) (Nat.le_of_ble_eq_true rfl) rfl ?_
  intro p e s m below meth c A ls H locs Z hO hr hlk hin hw hl
  have hx := Z.1.1
  have hb := Z.1.2.1
  have hi := hin rfl
  have hl : lv_has ls 1 [(0, .ref b)] := hl
  obtain ⟨c0, hc0⟩ : ∃ c0 : Nat → va_E, c0 = fun _ => .inr (6, [.null, .null, .null, .null, .int 0]) := ⟨_, rfl⟩
  have hw : wo D A s.heap 1 (fun _ => b) (va_up c0 0 (.inr (6, [.null, .null, .null, .null, .int 0]))) H locs := hw.cong (all_s all_0 rfl)
  refine lv_aload_n hx hb dX8_init_0 rfl (lv_at hl 0 rfl) ?_
  refine oI Z q_1_29 hl.1 (Nat.le_of_ble_eq_true rfl) (Nat.le_of_ble_eq_true rfl) dX8_init_1 ?_
  refine lv_aload_n hx hb dX8_init_4 rfl (lv_at hl 0 rfl) ?_
  refine nO0 (C := "NestedBells$Machine") (TC := TX5) (NF := 11) (ci := 3) (fs := [.int 0, .null, .null, .null, .int 0, .null, .int 0, .int 0, .int 0, .int 0, .null]) Z hw (by decide) iX5 tyX5_ok q_1_32 q_1_33 q_1_2 rfl (by decide +kernel) (Nat.le_of_ble_eq_true rfl) (Nat.le_of_ble_eq_true rfl) dX8_init_5 (fun q1 H hw => ?_)
  refine lv_dup hx hb dX8_init_8 rfl ?_
  refine bk_n (N := 1) (b := q1) (by decide) (rnI (rest := [.ref q1, .ref b]) Z hO (wo_last hw rfl rfl) k_X5_init v_X5_init q_1_34 hl.1 rfl rfl (Nat.le_of_ble_eq_true rfl) ⟨Nat.le_of_ble_eq_true rfl, Nat.le_of_ble_eq_true rfl⟩ ⟨Nat.le_of_ble_eq_true rfl, Nat.le_of_ble_eq_true rfl⟩ dX8_init_9) hw rfl Z (fun a1 H locs e1 hw => ?_)
  replace hw : wo D A s.heap 58 (glue 1 (fun _ => b) a1) (va_up (glue 1 c0 ((fun ad => cE (mE T ad) mu0) a1)) 0 (.inr (6, [.null, .null, .null, .null, .int 0]))) H locs := wo_glue hw (by decide)
  refine pOo (C := "NestedBells") (TC := TX8) (NF := 5) (ci := 6) (j := 0) (ty0 := tyX8) (ty := .object "NestedBells$Machine") (fs' := [.ref q1, .null, .null, .null, .int 0]) Z hi hw (by decide) rfl rfl iX8 tyX8_ok nmX8 (by decide) q_2_18 rfl rfl rfl rfl rfl (Nat.le_of_ble_eq_true rfl) rfl dX8_init_12 (fun H locs hw => ?_)
  refine lv_aload_n hx hb dX8_init_15 rfl (lv_at hl 0 rfl) ?_
  refine nO0 (C := "NestedBells$Machine") (TC := TX5) (NF := 11) (ci := 3) (fs := [.int 0, .null, .null, .null, .int 0, .null, .int 0, .int 0, .int 0, .int 0, .null]) Z hw (by decide) iX5 tyX5_ok q_1_32 q_1_33 q_1_2 rfl (by decide +kernel) (Nat.le_of_ble_eq_true rfl) (Nat.le_of_ble_eq_true rfl) dX8_init_16 (fun q58 H hw => ?_)
  refine lv_dup hx hb dX8_init_19 rfl ?_
  refine bk_n (N := 58) (b := q58) (by decide) (rnI (rest := [.ref q58, .ref b]) Z hO (wo_last hw rfl rfl) k_X5_init v_X5_init q_1_34 hl.1 rfl rfl (Nat.le_of_ble_eq_true rfl) ⟨Nat.le_of_ble_eq_true rfl, Nat.le_of_ble_eq_true rfl⟩ ⟨Nat.le_of_ble_eq_true rfl, Nat.le_of_ble_eq_true rfl⟩ dX8_init_20) hw rfl Z (fun a58 H locs e58 hw => ?_)
  replace hw : wo D A s.heap 115 (glue 58 (glue 1 (fun _ => b) a1) a58) (va_up (glue 58 (glue 1 c0 ((fun ad => cE (mE T ad) mu0) a1)) ((fun ad => cE (mE T ad) mu0) a58)) 0 (.inr (6, [.ref q1, .null, .null, .null, .int 0]))) H locs := wo_glue hw (by decide)
  refine pOo (C := "NestedBells") (TC := TX8) (NF := 5) (ci := 6) (j := 1) (ty0 := tyX8) (ty := .object "NestedBells$Machine") (fs' := [.ref q1, .ref q58, .null, .null, .int 0]) Z hi hw (by decide) rfl rfl iX8 tyX8_ok nmX8 (by decide) q_2_19 rfl rfl rfl rfl rfl (Nat.le_of_ble_eq_true rfl) rfl dX8_init_23 (fun H locs hw => ?_)
  refine lv_aload_n hx hb dX8_init_26 rfl (lv_at hl 0 rfl) ?_
  refine nO0 (C := "NestedBells$History") (TC := TX4) (NF := 3) (ci := 2) (fs := [.null, .int 0, .int 0]) Z hw (by decide) iX4 tyX4_ok q_1_207 q_1_208 q_1_6 rfl (by decide +kernel) (Nat.le_of_ble_eq_true rfl) (Nat.le_of_ble_eq_true rfl) dX8_init_27 (fun q115 H hw => ?_)
  refine lv_dup hx hb dX8_init_30 rfl ?_
  refine bk_n (N := 115) (b := q115) (by decide) (rnI (rest := [.ref q115, .ref b]) Z hO (wo_last hw rfl rfl) k_X4_init v_X4_init q_1_209 hl.1 rfl rfl (Nat.le_of_ble_eq_true rfl) ⟨Nat.le_of_ble_eq_true rfl, Nat.le_of_ble_eq_true rfl⟩ ⟨Nat.le_of_ble_eq_true rfl, Nat.le_of_ble_eq_true rfl⟩ dX8_init_31) hw rfl Z (fun a115 H locs e115 hw => ?_)
  replace hw : wo D A s.heap 402 (glue 115 (glue 58 (glue 1 (fun _ => b) a1) a58) a115) (va_up (glue 115 (glue 58 (glue 1 c0 ((fun ad => cE (mE T ad) mu0) a1)) ((fun ad => cE (mE T ad) mu0) a58)) ((ec4 T) a115)) 0 (.inr (6, [.ref q1, .ref q58, .null, .null, .int 0]))) H locs := wo_glue hw (by decide)
  refine pOo (C := "NestedBells") (TC := TX8) (NF := 5) (ci := 6) (j := 2) (ty0 := tyX8) (ty := .object "NestedBells$History") (fs' := [.ref q1, .ref q58, .ref q115, .null, .int 0]) Z hi hw (by decide) rfl rfl iX8 tyX8_ok nmX8 (by decide) q_2_20 rfl rfl rfl rfl rfl (Nat.le_of_ble_eq_true rfl) rfl dX8_init_34 (fun H locs hw => ?_)
  refine lv_aload_n hx hb dX8_init_37 rfl (lv_at hl 0 rfl) ?_
  refine nO0 (C := "NestedBells$CommandText") (TC := TX2) (NF := 6) (ci := 0) (fs := [.null, .int 0, .int 0, .int 0, .null, .null]) Z hw (by decide) iX2 tyX2_ok q_1_227 q_1_228 q_1_7 rfl (by decide +kernel) (Nat.le_of_ble_eq_true rfl) (Nat.le_of_ble_eq_true rfl) dX8_init_38 (fun q402 H hw => ?_)
  refine lv_dup hx hb dX8_init_41 rfl ?_
  refine bk_n (N := 402) (b := q402) (by decide) (rnIN (rest := [.ref q402, .ref b]) Z hO (wo_last hw rfl rfl) k_X2_init v_X2_init Z.2.2.2.1.1.2.2.1 hl.1 rfl rfl (Nat.le_of_ble_eq_true rfl) ⟨Nat.le_of_ble_eq_true rfl, Nat.le_of_ble_eq_true rfl⟩ ⟨Nat.le_of_ble_eq_true rfl, Nat.le_of_ble_eq_true rfl⟩ dX8_init_42) hw rfl Z (fun a402 H locs e402 hw => ?_)
  replace hw : wo D A s.heap 405 (glue 402 (glue 115 (glue 58 (glue 1 (fun _ => b) a1) a58) a115) a402) (va_up (glue 402 (glue 115 (glue 58 (glue 1 c0 ((fun ad => cE (mE T ad) mu0) a1)) ((fun ad => cE (mE T ad) mu0) a58)) ((ec4 T) a115)) ((ec2 g T) a402)) 0 (.inr (6, [.ref q1, .ref q58, .ref q115, .null, .int 0]))) H locs := wo_glue hw (by decide)
  refine pOo (C := "NestedBells") (TC := TX8) (NF := 5) (ci := 6) (j := 3) (ty0 := tyX8) (ty := .object "NestedBells$CommandText") (fs' := [.ref q1, .ref q58, .ref q115, .ref q402, .int 0]) Z hi hw (by decide) rfl rfl iX8 tyX8_ok nmX8 (by decide) q_2_21 rfl rfl rfl rfl rfl (Nat.le_of_ble_eq_true rfl) rfl dX8_init_45 (fun H locs hw => ?_)
  refine lv_aload_n hx hb dX8_init_48 rfl (lv_at hl 0 rfl) ?_
  refine lv_iconst (v := 0) hx hb dX8_init_49 (by decide +kernel) ?_
  refine pOo (C := "NestedBells") (TC := TX8) (NF := 5) (ci := 6) (j := 4) (ty0 := tyX8) (ty := .int) (fs' := [.ref q1, .ref q58, .ref q115, .ref q402, .int 0]) Z hi hw (by decide) rfl rfl iX8 tyX8_ok nmX8 (by decide) q_2_22 rfl rfl rfl rfl rfl (Nat.le_of_ble_eq_true rfl) rfl dX8_init_50 (fun H locs hw => ?_)
  have hA402 : ∀ x, x < 3 → (glue 402 (glue 115 (glue 58 (glue 1 (fun _ => b) a1) a58) a115) a402) (402 + x) = a402 x := fun x hx => glue_r
  have hC402 : ∀ x, x < 3 → (va_up (glue 402 (glue 115 (glue 58 (glue 1 c0 ((fun ad => cE (mE T ad) mu0) a1)) ((fun ad => cE (mE T ad) mu0) a58)) ((ec4 T) a115)) ((ec2 g T) a402)) 0 (.inr (6, [.ref q1, .ref q58, .ref q115, .ref q402, .int 0]))) (402 + x) = ec2 g T a402 x := fun x hx => (va_un (by omega)).trans (glue_r)
  have hA115 : ∀ x, x < 287 → (glue 402 (glue 115 (glue 58 (glue 1 (fun _ => b) a1) a58) a115) a402) (115 + x) = a115 x := fun x hx => (glue_l (by omega)).trans (glue_r)
  have hC115 : ∀ x, x < 287 → (va_up (glue 402 (glue 115 (glue 58 (glue 1 c0 ((fun ad => cE (mE T ad) mu0) a1)) ((fun ad => cE (mE T ad) mu0) a58)) ((ec4 T) a115)) ((ec2 g T) a402)) 0 (.inr (6, [.ref q1, .ref q58, .ref q115, .ref q402, .int 0]))) (115 + x) = ec4 T a115 x := fun x hx => (va_un (by omega)).trans ((glue_l (by omega)).trans (glue_r))
  have hA58 : ∀ x, x < 57 → (glue 402 (glue 115 (glue 58 (glue 1 (fun _ => b) a1) a58) a115) a402) (58 + x) = a58 x := fun x hx => (glue_l (by omega)).trans ((glue_l (by omega)).trans (glue_r))
  have hC58 : ∀ x, x < 57 → (va_up (glue 402 (glue 115 (glue 58 (glue 1 c0 ((fun ad => cE (mE T ad) mu0) a1)) ((fun ad => cE (mE T ad) mu0) a58)) ((ec4 T) a115)) ((ec2 g T) a402)) 0 (.inr (6, [.ref q1, .ref q58, .ref q115, .ref q402, .int 0]))) (58 + x) = (fun ad => cE (mE T ad) mu0) a58 x := fun x hx => (va_un (by omega)).trans ((glue_l (by omega)).trans ((glue_l (by omega)).trans (glue_r)))
  have hA1 : ∀ x, x < 57 → (glue 402 (glue 115 (glue 58 (glue 1 (fun _ => b) a1) a58) a115) a402) (1 + x) = a1 x := fun x hx => (glue_l (by omega)).trans ((glue_l (by omega)).trans ((glue_l (by omega)).trans (glue_r)))
  have hC1 : ∀ x, x < 57 → (va_up (glue 402 (glue 115 (glue 58 (glue 1 c0 ((fun ad => cE (mE T ad) mu0) a1)) ((fun ad => cE (mE T ad) mu0) a58)) ((ec4 T) a115)) ((ec2 g T) a402)) 0 (.inr (6, [.ref q1, .ref q58, .ref q115, .ref q402, .int 0]))) (1 + x) = (fun ad => cE (mE T ad) mu0) a1 x := fun x hx => (va_un (by omega)).trans ((glue_l (by omega)).trans ((glue_l (by omega)).trans ((glue_l (by omega)).trans (glue_r))))
  generalize hAD : (glue 402 (glue 115 (glue 58 (glue 1 (fun _ => b) a1) a58) a115) a402) = AD at hw hA402 hA115 hA58 hA1
  generalize hCT : (va_up (glue 402 (glue 115 (glue 58 (glue 1 c0 ((fun ad => cE (mE T ad) mu0) a1)) ((fun ad => cE (mE T ad) mu0) a58)) ((ec4 T) a115)) ((ec2 g T) a402)) 0 (.inr (6, [.ref q1, .ref q58, .ref q115, .ref q402, .int 0]))) = CT at hw hC402 hC115 hC58 hC1
  have hC0 : CT 0 = .inr (6, [.ref (AD 1), .ref (AD 58), .ref (AD 115), .ref (AD 402), .int 0]) := by
    have f1 := hA1 0 (by decide)
    have f2 := hA58 0 (by decide)
    have f3 := hA115 0 (by decide)
    have f4 := hA402 0 (by decide)
    rw [e1] at f1
    rw [e58] at f2
    rw [e115] at f3
    rw [e402] at f4
    rw [← hCT, show AD 1 = q1 from f1, show AD 58 = q58 from f2, show AD 115 = q115 from f3, show AD 402 = q402 from f4]
    rfl
  have hb0 : AD 0 = b := by rw [← hAD]; rfl
  exact rt_n (Ec := fun ad => cE (bE g T ad) be0) Z hr hlk ((wo_sub hw g405 g405_lt g405_in (fun k _ => rfl)).cong (fun k hk => big_at (g := g) (T := T) (AD := AD) hA402 hA115 hA58 hA1 hC0 hC402 hC115 hC58 hC1 hk)) hb0 dX8_init_53
