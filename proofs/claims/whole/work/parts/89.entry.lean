/-! the law's body: both are made, then the loop -/
set_option maxHeartbeats 4000000 in
set_option maxRecDepth 100000 in
theorem law_body {p : Program} {l : Launch} {e : Env} {s : State} {m : MethodId} {below : List Frame} {meth : Method} {c : Code} {A : Nat → Prop} {D : va_G} {T : Nat → ClassId} {g ad0 : Nat → Nat} {ct0 : Nat → va_E} {b L : Nat} {xs : Nat → Int32} {Qw : State → Prop} {H : Heap} {locs : List Loc} {ls : Array Slot} (hfl : l.stackTraces = false) (Z : en p m c cL_law 7 s #[.ref b] "NestedBellsLaw" D T g A) (hO : aO s) (hT : tW s) (hN : nCs s) (harr : (Cond.arrayClass .long).before #[Value.ref b] s = true) (hX : va_X b L xs s s.heap) (hbl : b < s.heap.size) (hbA : ¬ A b) (hL : L ≤ 2560)
    (kx : ∀ (H : Heap) (locs : List Loc) (ls : Array Slot) (cells slots : Nat), cells ≤ 601024 → slots ≤ 7293034 → va_S A s.heap H locs → W p l e room_1 s m #[.ref b] below meth c H locs cells slots Qw (F0 m 1595 ls []))
    (hw : wo D A s.heap 0 ad0 ct0 H locs) (hl : lv_has ls 7 [(0, .ref b)]) : W p l e room_1 s m #[.ref b] below meth c H locs 0 0 Qw (F0 m 0 ls []) := by
  have hx := Z.1.1
  have hb := Z.1.2.1
  refine nwO (C := "NestedBells") (TC := TX8) (NF := 5) (ci := 6) (fs := [.null, .null, .null, .null, .int 0]) Z hw iX8 tyX8_ok q_1_24 q_1_25 q_1_1 rfl (by decide +kernel) (Nat.le_of_ble_eq_true rfl) (Nat.le_of_ble_eq_true rfl) dL_law_0 (fun q0 H hw => ?_)
  refine lv_dup hx hb dL_law_3 rfl ?_
  refine bk_n (N := 0) (b := q0) (by decide) (rnI (rest := [.ref q0]) Z hO (wo_last hw rfl rfl) k_X8_init v_X8_init q_1_26 hl.1 rfl rfl (Nat.le_of_ble_eq_true rfl) ⟨Nat.le_of_ble_eq_true rfl, Nat.le_of_ble_eq_true rfl⟩ ⟨Nat.le_of_ble_eq_true rfl, Nat.le_of_ble_eq_true rfl⟩ dL_law_4) hw rfl Z (fun a0 H locs e0 hw => ?_)
  replace hw : wo D A s.heap 405 a0 (cE (bE g T a0) be0) H locs := wo_eq hw (fun k _ => (if_neg (by omega))) (fun k _ => (if_neg (by omega)))
  refine lv_astore_n (lv' := [(1, .ref q0), (0, .ref b)]) hx hb dL_law_7 rfl hl (by decide) rfl (fun ls hl => ?_)
  refine nwO (C := "NestedBellsModel") (TC := TX9) (NF := 12) (ci := 7) (fs := [.null, .null, .null, .int 0, .int 0, .null, .int 0, .int 0, .int 0, .int 0, .null, .long 0]) Z hw iX9 tyX9_ok q_4_206 q_4_207 q_1_10 rfl (by decide +kernel) (Nat.le_of_ble_eq_true rfl) (Nat.le_of_ble_eq_true rfl) dL_law_8 (fun q1 H hw => ?_)
  refine lv_dup hx hb dL_law_11 rfl ?_
  refine bk_n (N := 405) (b := q1) (by decide) (rnI (rest := [.ref q1]) Z hO (wo_last hw rfl rfl) k_X9_init v_X9_init q_4_208 hl.1 rfl rfl (Nat.le_of_ble_eq_true rfl) ⟨Nat.le_of_ble_eq_true rfl, Nat.le_of_ble_eq_true rfl⟩ ⟨Nat.le_of_ble_eq_true rfl, Nat.le_of_ble_eq_true rfl⟩ dL_law_12) hw rfl Z (fun a1 H locs e1 hw => ?_)
  replace hw : wo D A s.heap 411 (glue 405 a0 a1) (glue 405 (cE (bE g T a0) be0) (ec9 T a1)) H locs := wo_eq hw (fun k hk => by
    by_cases h : k < 405
    · rw [glue_l h, glue_l h, ext_n (by omega)]
    · unfold glue; rw [if_neg h, if_neg h]) (fun k hk => by
    by_cases h : k < 405
    · rw [glue_l h, glue_l h, ext_n (by omega)]
    · unfold glue; rw [if_neg h, if_neg h])
  refine lv_astore_n (lv' := [(2, .ref q1), (1, .ref q0), (0, .ref b)]) hx hb dL_law_15 rfl hl (by decide) rfl (fun ls hl => ?_)
  refine lv_iconst (v := 1) hx hb dL_law_16 (by decide +kernel) ?_
  refine va_newa (D := D) (atype := .long) (ty := .long) (N' := 1) (a0 := (1, .inr (.inl (fun _ => 0)))) hx hb harr rfl Z.2.1 hw.1 hw.2.1 hw.2.2 Z.2.2.1 (fun _ => rfl) (by decide) (by decide) (Nat.le_of_ble_eq_true rfl) (Nat.le_of_ble_eq_true rfl) (Nat.le_of_ble_eq_true rfl) dL_law_17 (fun q2 cA H hK hP hD hS => ?_)
  have ec : cA = T 2 := Option.some.inj ((va_nm_long (tyN hK)).symm.trans (va_nm_long (Z.2.1.2 2 (T 2, .long) rfl).2))
  subst ec
  have hw : wo D A s.heap 412 (ext (glue 405 a0 a1) 411 q2) (ext (glue 405 (cE (bE g T a0) be0) (ec9 T a1)) 411 (.inl (T 2, 1, .inr (.inl (fun _ => 0))))) H locs := ⟨by rw [← wl_ext]; exact hP, by rw [← wl_ext]; exact hD, hS⟩
  refine lv_astore_n (lv' := [(3, .ref q2), (2, .ref q1), (1, .ref q0), (0, .ref b)]) hx hb dL_law_19 rfl hl (by decide) rfl (fun ls hl => ?_)
  refine lv_iconst (v := 0) hx hb dL_law_20 (by decide +kernel) ?_
  refine lv_istore (lv' := [(4, .int 0), (3, .ref q2), (2, .ref q1), (1, .ref q0), (0, .ref b)]) hx hb dL_law_21 hl (by decide) rfl (fun ls hl => ?_)
  obtain ⟨AD, hAD⟩ : ∃ AD : Nat → Nat, AD = fun k => ext (glue 405 a0 a1) 411 q2 (g412 k) := ⟨_, rfl⟩
  have hlo : ∀ x, x < 405 → AD x = a0 x := fun x hx => by
    rw [hAD]
    show ext (glue 405 a0 a1) 411 q2 (g412 x) = a0 x
    rw [show g412 x = x from if_pos hx, ext_n (by omega), glue_l hx]
  have hhi : ∀ j, j < 6 → AD (406 + j) = a1 j := fun j hj => by
    rw [hAD]
    show ext (glue 405 a0 a1) 411 q2 (g412 (406 + j)) = a1 j
    rw [show g412 (406 + j) = 405 + j by unfold g412; rw [if_neg (by omega), if_neg (by omega)]; omega, ext_n (by omega), glue_r]
  have h5 : AD 405 = q2 := by
    rw [hAD]
    exact ext_s
  have hw2 : wo D A s.heap 412 AD (cE (lE g T AD) s412) H locs := by
    have hw3 := wo_sub hw g412 g412_lt g412_in (ct' := fun k => ext (glue 405 (cE (bE g T a0) be0) (ec9 T a1)) 411 (.inl (T 2, 1, .inr (.inl (fun _ => 0)))) (g412 k)) (fun k _ => rfl)
    rw [← hAD] at hw3
    refine hw3.cong (fun k hk => ?_)
    by_cases k1 : k < 405
    · show ext _ 411 _ (g412 k) = _
      rw [show g412 k = k from if_pos k1, ext_n (by omega), glue_l k1]
      show bE g T a0 k (be0 k) = lE g T AD k (s412 k)
      unfold lE oE
      rw [if_pos (by omega), if_pos k1, show s412 k = be0 k from funext fun b => if_pos k1]
      exact bE_cong k1 (fun x hx => (hlo x hx).symm)
    by_cases k2 : k = 405
    · subst k2
      show (Sum.inl (T 2, 1, .inr (.inl (fun _ => 0))) : va_E) = Sum.inl (T 2, 1, .inr (.inl (fun j => if j = 0 then mk64 0 0 else 0)))
      congr 5
      funext j
      by_cases hj : j = 0
      · rw [if_pos hj]; rfl
      · rw [if_neg hj]
    obtain ⟨j, rfl⟩ : ∃ j, k = 406 + j := ⟨k - 406, by omega⟩
    show ext _ 411 _ (g412 (406 + j)) = _
    rw [show g412 (406 + j) = 405 + j by unfold g412; rw [if_neg (by omega), if_neg (by omega)]; omega, ext_n (by omega), glue_r]
    show ec9 T a1 j = lE g T AD (406 + j) (s412 (406 + j))
    unfold lE
    rw [if_neg (by omega), Nat.add_sub_cancel_left, show s412 (406 + j) = de0 j from funext fun b => by
      show (if 406 + j < 405 then be0 (406 + j) b else if 406 + j = 405 then 0 else de0 (406 + j - 406) b) = de0 j b
      rw [if_neg (by omega), if_neg (by omega), Nat.add_sub_cancel_left]]
    exact ec9_at (fun x hx => (hhi x hx).symm) j (by omega)
  have r0 : AD 0 = q0 := (hlo 0 (by decide)).trans e0
  have r1 : AD 406 = q1 := (hhi 0 (by decide)).trans e1
  refine law_loop (ad := AD) hfl Z hT hN hX hbl hbA hL (fun σ H locs ls cells slots hc hs hw => kx H locs ls cells slots hc hs hw.2.2) 512 0 s412 0 H locs ls _ _ (by omega) (by omega) (Nat.le_of_ble_eq_true rfl) (Nat.le_of_ble_eq_true rfl) (by omega) (by omega) s412_I hw2 ?_
  rw [r0, r1, h5]
  exact lv_sub hl [0, 4, 3, 2, 1] rfl
