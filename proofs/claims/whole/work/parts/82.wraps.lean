/-! the law's wrappers, one by one -/
theorem w23_k {k : Nat} (h : w23 k ≠ 0) : k = 2 ∨ k = 3 := by
  unfold w23 at h
  by_cases c2 : k = 2
  · subst c2; exact Or.inl rfl
  by_cases c3 : k = 3
  · subst c3; exact Or.inr (rfl)
  rw [if_neg c2, if_neg c3] at h
  exact absurd rfl h
theorem w123_k {k : Nat} (h : w123 k ≠ 0) : k = 1 ∨ k = 2 ∨ k = 3 := by
  unfold w123 at h
  by_cases c1 : k = 1
  · subst c1; exact Or.inl rfl
  by_cases c2 : k = 2
  · subst c2; exact Or.inr (Or.inl rfl)
  by_cases c3 : k = 3
  · subst c3; exact Or.inr (Or.inr (rfl))
  rw [if_neg c1, if_neg c2, if_neg c3] at h
  exact absurd rfl h
theorem w13_k {k : Nat} (h : w13 k ≠ 0) : k = 1 ∨ k = 3 := by
  unfold w13 at h
  by_cases c1 : k = 1
  · subst c1; exact Or.inl rfl
  by_cases c3 : k = 3
  · subst c3; exact Or.inr (rfl)
  rw [if_neg c1, if_neg c3] at h
  exact absurd rfl h
theorem w2_k {k : Nat} (h : w2 k ≠ 0) : k = 2 := by
  unfold w2 at h
  by_cases c2 : k = 2
  · exact c2
  rw [if_neg c2] at h
  exact absurd rfl h
theorem w12_k {k : Nat} (h : w12 k ≠ 0) : k = 1 ∨ k = 2 := by
  unfold w12 at h
  by_cases c1 : k = 1
  · subst c1; exact Or.inl rfl
  by_cases c2 : k = 2
  · subst c2; exact Or.inr (rfl)
  rw [if_neg c1, if_neg c2] at h
  exact absurd rfl h
theorem w1_k {k : Nat} (h : w1 k ≠ 0) : k = 1 := by
  unfold w1 at h
  by_cases c1 : k = 1
  · exact c1
  rw [if_neg c1] at h
  exact absurd rfl h
theorem w3_k {k : Nat} (h : w3 k ≠ 0) : k = 3 := by
  unfold w3 at h
  by_cases c3 : k = 3
  · exact c3
  rw [if_neg c3] at h
  exact absurd rfl h
abbrev rmL_addSource : Room := { frames := 8, cells := 1, slots := 6, locals := 127 }
set_option maxHeartbeats 4000000 in
set_option maxRecDepth 100000 in
theorem k_L_addSource {l : Launch} {D : va_G} {T : Nat → ClassId} {g ad : Nat → Nat} (hfl : l.stackTraces = false) {σ : St} {p1 : Int32} {p2 : Int32} {p3 : Int32} (I0 : InvB σ) (hW : (f_X8_addSource σ p1 p2 p3).1 ≠ 0 → w23 (f_X8_addSource σ p1 p2 p3).1 ≠ 0) : mW l yL_addSource cL_addSource 6 [(0, 12, 15, 13), (0, 12, 19, 15)] rmL_addSource D T g 406 ad (cE (oE g T ad) σ) [.ref (ad 0), .int p1, .int p2, .int p3, .ref (ad 405)] (qI D 406 ad (oE g T ad) (pI (wr w23 σ (f_X8_addSource σ p1 p2 p3)) InvB)) := by
  refine mW.of (own := "NestedBellsLaw") (by decide +kernel) (Nat.le_of_ble_eq_true rfl) rfl ?_
  intro p e s m below meth c A ls H locs Z hT hN hr hlk ht hw hl
  have hx := Z.1.1
  have hb := Z.1.2.1
  have hl : lv_has ls 6 [(0, .ref (ad 0)), (1, .int p1), (2, .int p2), (3, .int p3), (4, .ref (ad 405))] := hl
  refine lv_aload hx hb dL_addSource_0 (lv_at hl 4 rfl) ?_
  refine lv_iconst (v := 0) hx hb dL_addSource_2 (by decide +kernel) ?_
  refine lv_aload_n hx hb dL_addSource_3 rfl (lv_at hl 0 rfl) ?_
  refine lv_iload_n hx hb dL_addSource_4 rfl (lv_at hl 1 rfl) ?_
  refine lv_iload_n hx hb dL_addSource_5 rfl (lv_at hl 2 rfl) ?_
  refine lv_iload_n hx hb dL_addSource_6 rfl (lv_at hl 3 rfl) ?_
  refine bo_i (rest := [.int 0, .ref (ad 405)]) prtO (rxV (rest := [.int 0, .ref (ad 405)]) Z (prtO.sub hw) hT (k_X8_addSource hfl (p1 := p1) (p2 := p2) (p3 := p3) I0) v_X8_addSource q_3_124 0 (by decide) rfl rfl rfl rfl hl.1 rfl rfl (Nat.le_of_ble_eq_true rfl) ⟨Nat.le_of_ble_eq_true rfl, Nat.le_of_ble_eq_true rfl⟩ ⟨Nat.le_of_ble_eq_true rfl, Nat.le_of_ble_eq_true rfl⟩ dL_addSource_7) hw Z (fun k u H locs q9 ce hp hw hce hv hcl => ?_) (fun r u H locs hp hw => ?_)
  · obtain ⟨k0, kf, I1⟩ := hp
    have kf : (f_X8_addSource σ p1 p2 p3) = (k, 0, u) := kf
    rw [kf] at hW
    rcases w23_k (hW k0) with rfl | rfl
    · refine vx_catch (E := exN 2) (name := "java/lang/IllegalArgumentException") Z.1.2.2.2.1 [] ⟨0, 12, 15, 13⟩ [⟨0, 12, 19, 15⟩] ht (fun _ h => nomatch h) (by decide) (by decide) (Z.1.2.2.2.2 _ q_3_122) (va_Nw.use (tB_ot (tb_at 4 rfl)) (hT _ (tb_at 4 rfl))) hce hv hcl ?_
      refine lv_astore (lv' := [(5, .ref q9), (0, .ref (ad 0)), (1, .int p1), (2, .int p2), (3, .int p3), (4, .ref (ad 405))]) hx hb dL_addSource_15 hl (by decide) rfl (fun ls hl => ?_)
      refine lv_iconst (v := 1) hx hb dL_addSource_17 (by decide +kernel) ?_
      exact vx_ret (W.widen (Nat.le_of_ble_eq_true rfl) (Nat.le_of_ble_eq_true rfl) (rt_i Z hr hlk hw dL_addSource_18 (pI.mk (by unfold wr; rw [kf]; rfl) (mgO_inv I1))))
    · refine vx_catch (E := exN 3) (name := "java/lang/IllegalStateException") Z.1.2.2.2.1 [⟨0, 12, 15, 13⟩] ⟨0, 12, 19, 15⟩ [] ht (List.forall_mem_cons.mpr ⟨Or.inr ⟨by decide, "java/lang/IllegalArgumentException", Z.1.2.2.2.2 _ q_3_122, hN.2.2⟩, fun _ h => nomatch h⟩) (by decide) (by decide) (Z.1.2.2.2.2 _ q_3_123) (va_Nw.use (tB_ot (tb_at 5 rfl)) (hT _ (tb_at 5 rfl))) hce hv hcl ?_
      refine lv_astore (lv' := [(5, .ref q9), (0, .ref (ad 0)), (1, .int p1), (2, .int p2), (3, .int p3), (4, .ref (ad 405))]) hx hb dL_addSource_19 hl (by decide) rfl (fun ls hl => ?_)
      refine lv_iconst (v := 2) hx hb dL_addSource_21 (by decide +kernel) ?_
      exact vx_ret (W.widen (Nat.le_of_ble_eq_true rfl) (Nat.le_of_ble_eq_true rfl) (rt_i Z hr hlk hw dL_addSource_22 (pI.mk (by unfold wr; rw [kf]; rfl) (mgO_inv I1))))
  · obtain ⟨kf, I1⟩ := hp
    have kf : (f_X8_addSource σ p1 p2 p3) = (0, r, u) := kf
    refine lv_i2l (v := r.toInt64) hx hb dL_addSource_10 rfl ?_
    refine lO Z hw rfl dL_addSource_11 (fun H locs hw => ?_)
    refine lv_goto (tgt := 23) hx hb dL_addSource_12 (by decide) ?_
    refine lv_iconst (v := 0) hx hb dL_addSource_23 (by decide +kernel) ?_
    exact vx_ret (W.widen (Nat.le_of_ble_eq_true rfl) (Nat.le_of_ble_eq_true rfl) (rt_i Z hr hlk hw dL_addSource_24 (pI.mk (by unfold wr; rw [kf]; rfl) (oL_inv I1))))
abbrev rmL_setSource : Room := { frames := 8, cells := 1, slots := 6, locals := 127 }
set_option maxHeartbeats 4000000 in
set_option maxRecDepth 100000 in
theorem k_L_setSource {l : Launch} {D : va_G} {T : Nat → ClassId} {g ad : Nat → Nat} (hfl : l.stackTraces = false) {σ : St} {p1 : Int32} {p2 : Int32} {p3 : Int32} (I0 : InvB σ) (hW : (f_X8_setSource σ p1 p2 p3).1 ≠ 0 → w123 (f_X8_setSource σ p1 p2 p3).1 ≠ 0) : mW l yL_setSource cL_setSource 6 [(0, 12, 15, 20), (0, 12, 19, 13), (0, 12, 23, 15)] rmL_setSource D T g 406 ad (cE (oE g T ad) σ) [.ref (ad 0), .int p1, .int p2, .int p3, .ref (ad 405)] (qI D 406 ad (oE g T ad) (pI (wr w123 σ (f_X8_setSource σ p1 p2 p3)) InvB)) := by
  refine mW.of (own := "NestedBellsLaw") (by decide +kernel) (Nat.le_of_ble_eq_true rfl) rfl ?_
  intro p e s m below meth c A ls H locs Z hT hN hr hlk ht hw hl
  have hx := Z.1.1
  have hb := Z.1.2.1
  have hl : lv_has ls 6 [(0, .ref (ad 0)), (1, .int p1), (2, .int p2), (3, .int p3), (4, .ref (ad 405))] := hl
  refine lv_aload hx hb dL_setSource_0 (lv_at hl 4 rfl) ?_
  refine lv_iconst (v := 0) hx hb dL_setSource_2 (by decide +kernel) ?_
  refine lv_aload_n hx hb dL_setSource_3 rfl (lv_at hl 0 rfl) ?_
  refine lv_iload_n hx hb dL_setSource_4 rfl (lv_at hl 1 rfl) ?_
  refine lv_iload_n hx hb dL_setSource_5 rfl (lv_at hl 2 rfl) ?_
  refine lv_iload_n hx hb dL_setSource_6 rfl (lv_at hl 3 rfl) ?_
  refine bo_i (rest := [.int 0, .ref (ad 405)]) prtO (rxV (rest := [.int 0, .ref (ad 405)]) Z (prtO.sub hw) hT (k_X8_setSource hfl (p1 := p1) (p2 := p2) (p3 := p3) I0) v_X8_setSource q_3_235 0 (by decide) rfl rfl rfl rfl hl.1 rfl rfl (Nat.le_of_ble_eq_true rfl) ⟨Nat.le_of_ble_eq_true rfl, Nat.le_of_ble_eq_true rfl⟩ ⟨Nat.le_of_ble_eq_true rfl, Nat.le_of_ble_eq_true rfl⟩ dL_setSource_7) hw Z (fun k u H locs q9 ce hp hw hce hv hcl => ?_) (fun r u H locs hp hw => ?_)
  · obtain ⟨k0, kf, I1⟩ := hp
    have kf : (f_X8_setSource σ p1 p2 p3) = (k, 0, u) := kf
    rw [kf] at hW
    rcases w123_k (hW k0) with rfl | rfl | rfl
    · refine vx_catch (E := exN 1) (name := "java/lang/IndexOutOfBoundsException") Z.1.2.2.2.1 [] ⟨0, 12, 15, 20⟩ [⟨0, 12, 19, 13⟩, ⟨0, 12, 23, 15⟩] ht (fun _ h => nomatch h) (by decide) (by decide) (Z.1.2.2.2.2 _ q_3_234) (va_Nw.use (tB_ot (tb_at 3 rfl)) (hT _ (tb_at 3 rfl))) hce hv hcl ?_
      refine lv_astore (lv' := [(5, .ref q9), (0, .ref (ad 0)), (1, .int p1), (2, .int p2), (3, .int p3), (4, .ref (ad 405))]) hx hb dL_setSource_15 hl (by decide) rfl (fun ls hl => ?_)
      refine lv_iconst (v := 1) hx hb dL_setSource_17 (by decide +kernel) ?_
      exact vx_ret (W.widen (Nat.le_of_ble_eq_true rfl) (Nat.le_of_ble_eq_true rfl) (rt_i Z hr hlk hw dL_setSource_18 (pI.mk (by unfold wr; rw [kf]; rfl) (mgO_inv I1))))
    · refine vx_catch (E := exN 2) (name := "java/lang/IllegalArgumentException") Z.1.2.2.2.1 [⟨0, 12, 15, 20⟩] ⟨0, 12, 19, 13⟩ [⟨0, 12, 23, 15⟩] ht (List.forall_mem_cons.mpr ⟨Or.inr ⟨by decide, "java/lang/IndexOutOfBoundsException", Z.1.2.2.2.2 _ q_3_234, hN.1⟩, fun _ h => nomatch h⟩) (by decide) (by decide) (Z.1.2.2.2.2 _ q_3_122) (va_Nw.use (tB_ot (tb_at 4 rfl)) (hT _ (tb_at 4 rfl))) hce hv hcl ?_
      refine lv_astore (lv' := [(5, .ref q9), (0, .ref (ad 0)), (1, .int p1), (2, .int p2), (3, .int p3), (4, .ref (ad 405))]) hx hb dL_setSource_19 hl (by decide) rfl (fun ls hl => ?_)
      refine lv_iconst (v := 2) hx hb dL_setSource_21 (by decide +kernel) ?_
      exact vx_ret (W.widen (Nat.le_of_ble_eq_true rfl) (Nat.le_of_ble_eq_true rfl) (rt_i Z hr hlk hw dL_setSource_22 (pI.mk (by unfold wr; rw [kf]; rfl) (mgO_inv I1))))
    · refine vx_catch (E := exN 3) (name := "java/lang/IllegalStateException") Z.1.2.2.2.1 [⟨0, 12, 15, 20⟩, ⟨0, 12, 19, 13⟩] ⟨0, 12, 23, 15⟩ [] ht (List.forall_mem_cons.mpr ⟨Or.inr ⟨by decide, "java/lang/IndexOutOfBoundsException", Z.1.2.2.2.2 _ q_3_234, hN.2.1⟩, List.forall_mem_cons.mpr ⟨Or.inr ⟨by decide, "java/lang/IllegalArgumentException", Z.1.2.2.2.2 _ q_3_122, hN.2.2⟩, fun _ h => nomatch h⟩⟩) (by decide) (by decide) (Z.1.2.2.2.2 _ q_3_123) (va_Nw.use (tB_ot (tb_at 5 rfl)) (hT _ (tb_at 5 rfl))) hce hv hcl ?_
      refine lv_astore (lv' := [(5, .ref q9), (0, .ref (ad 0)), (1, .int p1), (2, .int p2), (3, .int p3), (4, .ref (ad 405))]) hx hb dL_setSource_23 hl (by decide) rfl (fun ls hl => ?_)
      refine lv_iconst (v := 3) hx hb dL_setSource_25 (by decide +kernel) ?_
      exact vx_ret (W.widen (Nat.le_of_ble_eq_true rfl) (Nat.le_of_ble_eq_true rfl) (rt_i Z hr hlk hw dL_setSource_26 (pI.mk (by unfold wr; rw [kf]; rfl) (mgO_inv I1))))
  · obtain ⟨kf, I1⟩ := hp
    have kf : (f_X8_setSource σ p1 p2 p3) = (0, r, u) := kf
    refine lv_i2l (v := r.toInt64) hx hb dL_setSource_10 rfl ?_
    refine lO Z hw rfl dL_setSource_11 (fun H locs hw => ?_)
    refine lv_goto (tgt := 27) hx hb dL_setSource_12 (by decide) ?_
    refine lv_iconst (v := 0) hx hb dL_setSource_27 (by decide +kernel) ?_
    exact vx_ret (W.widen (Nat.le_of_ble_eq_true rfl) (Nat.le_of_ble_eq_true rfl) (rt_i Z hr hlk hw dL_setSource_28 (pI.mk (by unfold wr; rw [kf]; rfl) (oL_inv I1))))
abbrev rmL_addSection : Room := { frames := 8, cells := 1, slots := 6, locals := 128 }
set_option maxHeartbeats 4000000 in
set_option maxRecDepth 100000 in
theorem k_L_addSection {l : Launch} {D : va_G} {T : Nat → ClassId} {g ad : Nat → Nat} (hfl : l.stackTraces = false) {σ : St} {p1 : Int32} {p2 : Int32} {p3 : Int32} {p4 : Int32} (I0 : InvB σ) (hW : (f_X8_addSection σ p1 p2 p3 p4).1 ≠ 0 → w123 (f_X8_addSection σ p1 p2 p3 p4).1 ≠ 0) : mW l yL_addSection cL_addSection 7 [(0, 14, 17, 20), (0, 14, 21, 13), (0, 14, 25, 15)] rmL_addSection D T g 406 ad (cE (oE g T ad) σ) [.ref (ad 0), .int p1, .int p2, .int p3, .int p4, .ref (ad 405)] (qI D 406 ad (oE g T ad) (pI (wr w123 σ (f_X8_addSection σ p1 p2 p3 p4)) InvB)) := by
  refine mW.of (own := "NestedBellsLaw") (by decide +kernel) (Nat.le_of_ble_eq_true rfl) rfl ?_
  intro p e s m below meth c A ls H locs Z hT hN hr hlk ht hw hl
  have hx := Z.1.1
  have hb := Z.1.2.1
  have hl : lv_has ls 7 [(0, .ref (ad 0)), (1, .int p1), (2, .int p2), (3, .int p3), (4, .int p4), (5, .ref (ad 405))] := hl
  refine lv_aload hx hb dL_addSection_0 (lv_at hl 5 rfl) ?_
  refine lv_iconst (v := 0) hx hb dL_addSection_2 (by decide +kernel) ?_
  refine lv_aload_n hx hb dL_addSection_3 rfl (lv_at hl 0 rfl) ?_
  refine lv_iload_n hx hb dL_addSection_4 rfl (lv_at hl 1 rfl) ?_
  refine lv_iload_n hx hb dL_addSection_5 rfl (lv_at hl 2 rfl) ?_
  refine lv_iload_n hx hb dL_addSection_6 rfl (lv_at hl 3 rfl) ?_
  refine lv_iload hx hb dL_addSection_7 (lv_at hl 4 rfl) ?_
  refine bo_i (rest := [.int 0, .ref (ad 405)]) prtO (rxV (rest := [.int 0, .ref (ad 405)]) Z (prtO.sub hw) hT (k_X8_addSection hfl (p1 := p1) (p2 := p2) (p3 := p3) (p4 := p4) I0) v_X8_addSection q_4_18 0 (by decide) rfl rfl rfl rfl hl.1 rfl rfl (Nat.le_of_ble_eq_true rfl) ⟨Nat.le_of_ble_eq_true rfl, Nat.le_of_ble_eq_true rfl⟩ ⟨Nat.le_of_ble_eq_true rfl, Nat.le_of_ble_eq_true rfl⟩ dL_addSection_9) hw Z (fun k u H locs q9 ce hp hw hce hv hcl => ?_) (fun r u H locs hp hw => ?_)
  · obtain ⟨k0, kf, I1⟩ := hp
    have kf : (f_X8_addSection σ p1 p2 p3 p4) = (k, 0, u) := kf
    rw [kf] at hW
    rcases w123_k (hW k0) with rfl | rfl | rfl
    · refine vx_catch (E := exN 1) (name := "java/lang/IndexOutOfBoundsException") Z.1.2.2.2.1 [] ⟨0, 14, 17, 20⟩ [⟨0, 14, 21, 13⟩, ⟨0, 14, 25, 15⟩] ht (fun _ h => nomatch h) (by decide) (by decide) (Z.1.2.2.2.2 _ q_3_234) (va_Nw.use (tB_ot (tb_at 3 rfl)) (hT _ (tb_at 3 rfl))) hce hv hcl ?_
      refine lv_astore (lv' := [(6, .ref q9), (0, .ref (ad 0)), (1, .int p1), (2, .int p2), (3, .int p3), (4, .int p4), (5, .ref (ad 405))]) hx hb dL_addSection_17 hl (by decide) rfl (fun ls hl => ?_)
      refine lv_iconst (v := 1) hx hb dL_addSection_19 (by decide +kernel) ?_
      exact vx_ret (W.widen (Nat.le_of_ble_eq_true rfl) (Nat.le_of_ble_eq_true rfl) (rt_i Z hr hlk hw dL_addSection_20 (pI.mk (by unfold wr; rw [kf]; rfl) (mgO_inv I1))))
    · refine vx_catch (E := exN 2) (name := "java/lang/IllegalArgumentException") Z.1.2.2.2.1 [⟨0, 14, 17, 20⟩] ⟨0, 14, 21, 13⟩ [⟨0, 14, 25, 15⟩] ht (List.forall_mem_cons.mpr ⟨Or.inr ⟨by decide, "java/lang/IndexOutOfBoundsException", Z.1.2.2.2.2 _ q_3_234, hN.1⟩, fun _ h => nomatch h⟩) (by decide) (by decide) (Z.1.2.2.2.2 _ q_3_122) (va_Nw.use (tB_ot (tb_at 4 rfl)) (hT _ (tb_at 4 rfl))) hce hv hcl ?_
      refine lv_astore (lv' := [(6, .ref q9), (0, .ref (ad 0)), (1, .int p1), (2, .int p2), (3, .int p3), (4, .int p4), (5, .ref (ad 405))]) hx hb dL_addSection_21 hl (by decide) rfl (fun ls hl => ?_)
      refine lv_iconst (v := 2) hx hb dL_addSection_23 (by decide +kernel) ?_
      exact vx_ret (W.widen (Nat.le_of_ble_eq_true rfl) (Nat.le_of_ble_eq_true rfl) (rt_i Z hr hlk hw dL_addSection_24 (pI.mk (by unfold wr; rw [kf]; rfl) (mgO_inv I1))))
    · refine vx_catch (E := exN 3) (name := "java/lang/IllegalStateException") Z.1.2.2.2.1 [⟨0, 14, 17, 20⟩, ⟨0, 14, 21, 13⟩] ⟨0, 14, 25, 15⟩ [] ht (List.forall_mem_cons.mpr ⟨Or.inr ⟨by decide, "java/lang/IndexOutOfBoundsException", Z.1.2.2.2.2 _ q_3_234, hN.2.1⟩, List.forall_mem_cons.mpr ⟨Or.inr ⟨by decide, "java/lang/IllegalArgumentException", Z.1.2.2.2.2 _ q_3_122, hN.2.2⟩, fun _ h => nomatch h⟩⟩) (by decide) (by decide) (Z.1.2.2.2.2 _ q_3_123) (va_Nw.use (tB_ot (tb_at 5 rfl)) (hT _ (tb_at 5 rfl))) hce hv hcl ?_
      refine lv_astore (lv' := [(6, .ref q9), (0, .ref (ad 0)), (1, .int p1), (2, .int p2), (3, .int p3), (4, .int p4), (5, .ref (ad 405))]) hx hb dL_addSection_25 hl (by decide) rfl (fun ls hl => ?_)
      refine lv_iconst (v := 3) hx hb dL_addSection_27 (by decide +kernel) ?_
      exact vx_ret (W.widen (Nat.le_of_ble_eq_true rfl) (Nat.le_of_ble_eq_true rfl) (rt_i Z hr hlk hw dL_addSection_28 (pI.mk (by unfold wr; rw [kf]; rfl) (mgO_inv I1))))
  · obtain ⟨kf, I1⟩ := hp
    have kf : (f_X8_addSection σ p1 p2 p3 p4) = (0, r, u) := kf
    refine lv_i2l (v := r.toInt64) hx hb dL_addSection_12 rfl ?_
    refine lO Z hw rfl dL_addSection_13 (fun H locs hw => ?_)
    refine lv_goto (tgt := 29) hx hb dL_addSection_14 (by decide) ?_
    refine lv_iconst (v := 0) hx hb dL_addSection_29 (by decide +kernel) ?_
    exact vx_ret (W.widen (Nat.le_of_ble_eq_true rfl) (Nat.le_of_ble_eq_true rfl) (rt_i Z hr hlk hw dL_addSection_30 (pI.mk (by unfold wr; rw [kf]; rfl) (oL_inv I1))))
abbrev rmL_clearSections : Room := { frames := 8, cells := 1, slots := 6, locals := 125 }
set_option maxHeartbeats 4000000 in
set_option maxRecDepth 100000 in
theorem k_L_clearSections {l : Launch} {D : va_G} {T : Nat → ClassId} {g ad : Nat → Nat} (hfl : l.stackTraces = false) {σ : St} {p1 : Int32} (I0 : InvB σ) (hW : (f_X8_clearSections σ p1).1 ≠ 0 → w13 (f_X8_clearSections σ p1).1 ≠ 0) : mW l yL_clearSections cL_clearSections 4 [(0, 9, 12, 20), (0, 9, 15, 15)] rmL_clearSections D T g 406 ad (cE (oE g T ad) σ) [.ref (ad 0), .int p1, .ref (ad 405)] (qI D 406 ad (oE g T ad) (pI (wr w13 σ (f_X8_clearSections σ p1)) InvB)) := by
  refine mW.of (own := "NestedBellsLaw") (by decide +kernel) (Nat.le_of_ble_eq_true rfl) rfl ?_
  intro p e s m below meth c A ls H locs Z hT hN hr hlk ht hw hl
  have hx := Z.1.1
  have hb := Z.1.2.1
  have hl : lv_has ls 4 [(0, .ref (ad 0)), (1, .int p1), (2, .ref (ad 405))] := hl
  refine lv_aload_n hx hb dL_clearSections_0 rfl (lv_at hl 2 rfl) ?_
  refine lv_iconst (v := 0) hx hb dL_clearSections_1 (by decide +kernel) ?_
  refine lv_aload_n hx hb dL_clearSections_2 rfl (lv_at hl 0 rfl) ?_
  refine lv_iload_n hx hb dL_clearSections_3 rfl (lv_at hl 1 rfl) ?_
  refine bo_i (rest := [.int 0, .ref (ad 405)]) prtO (rxV (rest := [.int 0, .ref (ad 405)]) Z (prtO.sub hw) hT (k_X8_clearSections hfl (p1 := p1) I0) v_X8_clearSections q_4_25 0 (by decide) rfl rfl rfl rfl hl.1 rfl rfl (Nat.le_of_ble_eq_true rfl) ⟨Nat.le_of_ble_eq_true rfl, Nat.le_of_ble_eq_true rfl⟩ ⟨Nat.le_of_ble_eq_true rfl, Nat.le_of_ble_eq_true rfl⟩ dL_clearSections_4) hw Z (fun k u H locs q9 ce hp hw hce hv hcl => ?_) (fun r u H locs hp hw => ?_)
  · obtain ⟨k0, kf, I1⟩ := hp
    have kf : (f_X8_clearSections σ p1) = (k, 0, u) := kf
    rw [kf] at hW
    rcases w13_k (hW k0) with rfl | rfl
    · refine vx_catch (E := exN 1) (name := "java/lang/IndexOutOfBoundsException") Z.1.2.2.2.1 [] ⟨0, 9, 12, 20⟩ [⟨0, 9, 15, 15⟩] ht (fun _ h => nomatch h) (by decide) (by decide) (Z.1.2.2.2.2 _ q_3_234) (va_Nw.use (tB_ot (tb_at 3 rfl)) (hT _ (tb_at 3 rfl))) hce hv hcl ?_
      refine lv_astore_n (lv' := [(3, .ref q9), (0, .ref (ad 0)), (1, .int p1), (2, .ref (ad 405))]) hx hb dL_clearSections_12 rfl hl (by decide) rfl (fun ls hl => ?_)
      refine lv_iconst (v := 1) hx hb dL_clearSections_13 (by decide +kernel) ?_
      exact vx_ret (W.widen (Nat.le_of_ble_eq_true rfl) (Nat.le_of_ble_eq_true rfl) (rt_i Z hr hlk hw dL_clearSections_14 (pI.mk (by unfold wr; rw [kf]; rfl) (mgO_inv I1))))
    · refine vx_catch (E := exN 3) (name := "java/lang/IllegalStateException") Z.1.2.2.2.1 [⟨0, 9, 12, 20⟩] ⟨0, 9, 15, 15⟩ [] ht (List.forall_mem_cons.mpr ⟨Or.inr ⟨by decide, "java/lang/IndexOutOfBoundsException", Z.1.2.2.2.2 _ q_3_234, hN.2.1⟩, fun _ h => nomatch h⟩) (by decide) (by decide) (Z.1.2.2.2.2 _ q_3_123) (va_Nw.use (tB_ot (tb_at 5 rfl)) (hT _ (tb_at 5 rfl))) hce hv hcl ?_
      refine lv_astore_n (lv' := [(3, .ref q9), (0, .ref (ad 0)), (1, .int p1), (2, .ref (ad 405))]) hx hb dL_clearSections_15 rfl hl (by decide) rfl (fun ls hl => ?_)
      refine lv_iconst (v := 2) hx hb dL_clearSections_16 (by decide +kernel) ?_
      exact vx_ret (W.widen (Nat.le_of_ble_eq_true rfl) (Nat.le_of_ble_eq_true rfl) (rt_i Z hr hlk hw dL_clearSections_17 (pI.mk (by unfold wr; rw [kf]; rfl) (mgO_inv I1))))
  · obtain ⟨kf, I1⟩ := hp
    have kf : (f_X8_clearSections σ p1) = (0, r, u) := kf
    refine lv_i2l (v := r.toInt64) hx hb dL_clearSections_7 rfl ?_
    refine lO Z hw rfl dL_clearSections_8 (fun H locs hw => ?_)
    refine lv_goto (tgt := 18) hx hb dL_clearSections_9 (by decide) ?_
    refine lv_iconst (v := 0) hx hb dL_clearSections_18 (by decide +kernel) ?_
    exact vx_ret (W.widen (Nat.le_of_ble_eq_true rfl) (Nat.le_of_ble_eq_true rfl) (rt_i Z hr hlk hw dL_clearSections_19 (pI.mk (by unfold wr; rw [kf]; rfl) (oL_inv I1))))
abbrev rmL_setTimer : Room := { frames := 8, cells := 1, slots := 6, locals := 127 }
set_option maxHeartbeats 4000000 in
set_option maxRecDepth 100000 in
theorem k_L_setTimer {l : Launch} {D : va_G} {T : Nat → ClassId} {g ad : Nat → Nat} (hfl : l.stackTraces = false) {σ : St} {p1 : Int32} {p2 : Int32} {p3 : Int32} (I0 : InvB σ) (hW : (f_X8_setTimer σ p1 p2 p3).1 ≠ 0 → w123 (f_X8_setTimer σ p1 p2 p3).1 ≠ 0) : mW l yL_setTimer cL_setTimer 6 [(0, 12, 15, 20), (0, 12, 19, 13), (0, 12, 23, 15)] rmL_setTimer D T g 406 ad (cE (oE g T ad) σ) [.ref (ad 0), .int p1, .int p2, .int p3, .ref (ad 405)] (qI D 406 ad (oE g T ad) (pI (wr w123 σ (f_X8_setTimer σ p1 p2 p3)) InvB)) := by
  refine mW.of (own := "NestedBellsLaw") (by decide +kernel) (Nat.le_of_ble_eq_true rfl) rfl ?_
  intro p e s m below meth c A ls H locs Z hT hN hr hlk ht hw hl
  have hx := Z.1.1
  have hb := Z.1.2.1
  have hl : lv_has ls 6 [(0, .ref (ad 0)), (1, .int p1), (2, .int p2), (3, .int p3), (4, .ref (ad 405))] := hl
  refine lv_aload hx hb dL_setTimer_0 (lv_at hl 4 rfl) ?_
  refine lv_iconst (v := 0) hx hb dL_setTimer_2 (by decide +kernel) ?_
  refine lv_aload_n hx hb dL_setTimer_3 rfl (lv_at hl 0 rfl) ?_
  refine lv_iload_n hx hb dL_setTimer_4 rfl (lv_at hl 1 rfl) ?_
  refine lv_iload_n hx hb dL_setTimer_5 rfl (lv_at hl 2 rfl) ?_
  refine lv_iload_n hx hb dL_setTimer_6 rfl (lv_at hl 3 rfl) ?_
  refine bo_i (rest := [.int 0, .ref (ad 405)]) prtO (rxV (rest := [.int 0, .ref (ad 405)]) Z (prtO.sub hw) hT (k_X8_setTimer hfl (p1 := p1) (p2 := p2) (p3 := p3) I0) v_X8_setTimer q_4_36 0 (by decide) rfl rfl rfl rfl hl.1 rfl rfl (Nat.le_of_ble_eq_true rfl) ⟨Nat.le_of_ble_eq_true rfl, Nat.le_of_ble_eq_true rfl⟩ ⟨Nat.le_of_ble_eq_true rfl, Nat.le_of_ble_eq_true rfl⟩ dL_setTimer_7) hw Z (fun k u H locs q9 ce hp hw hce hv hcl => ?_) (fun r u H locs hp hw => ?_)
  · obtain ⟨k0, kf, I1⟩ := hp
    have kf : (f_X8_setTimer σ p1 p2 p3) = (k, 0, u) := kf
    rw [kf] at hW
    rcases w123_k (hW k0) with rfl | rfl | rfl
    · refine vx_catch (E := exN 1) (name := "java/lang/IndexOutOfBoundsException") Z.1.2.2.2.1 [] ⟨0, 12, 15, 20⟩ [⟨0, 12, 19, 13⟩, ⟨0, 12, 23, 15⟩] ht (fun _ h => nomatch h) (by decide) (by decide) (Z.1.2.2.2.2 _ q_3_234) (va_Nw.use (tB_ot (tb_at 3 rfl)) (hT _ (tb_at 3 rfl))) hce hv hcl ?_
      refine lv_astore (lv' := [(5, .ref q9), (0, .ref (ad 0)), (1, .int p1), (2, .int p2), (3, .int p3), (4, .ref (ad 405))]) hx hb dL_setTimer_15 hl (by decide) rfl (fun ls hl => ?_)
      refine lv_iconst (v := 1) hx hb dL_setTimer_17 (by decide +kernel) ?_
      exact vx_ret (W.widen (Nat.le_of_ble_eq_true rfl) (Nat.le_of_ble_eq_true rfl) (rt_i Z hr hlk hw dL_setTimer_18 (pI.mk (by unfold wr; rw [kf]; rfl) (mgO_inv I1))))
    · refine vx_catch (E := exN 2) (name := "java/lang/IllegalArgumentException") Z.1.2.2.2.1 [⟨0, 12, 15, 20⟩] ⟨0, 12, 19, 13⟩ [⟨0, 12, 23, 15⟩] ht (List.forall_mem_cons.mpr ⟨Or.inr ⟨by decide, "java/lang/IndexOutOfBoundsException", Z.1.2.2.2.2 _ q_3_234, hN.1⟩, fun _ h => nomatch h⟩) (by decide) (by decide) (Z.1.2.2.2.2 _ q_3_122) (va_Nw.use (tB_ot (tb_at 4 rfl)) (hT _ (tb_at 4 rfl))) hce hv hcl ?_
      refine lv_astore (lv' := [(5, .ref q9), (0, .ref (ad 0)), (1, .int p1), (2, .int p2), (3, .int p3), (4, .ref (ad 405))]) hx hb dL_setTimer_19 hl (by decide) rfl (fun ls hl => ?_)
      refine lv_iconst (v := 2) hx hb dL_setTimer_21 (by decide +kernel) ?_
      exact vx_ret (W.widen (Nat.le_of_ble_eq_true rfl) (Nat.le_of_ble_eq_true rfl) (rt_i Z hr hlk hw dL_setTimer_22 (pI.mk (by unfold wr; rw [kf]; rfl) (mgO_inv I1))))
    · refine vx_catch (E := exN 3) (name := "java/lang/IllegalStateException") Z.1.2.2.2.1 [⟨0, 12, 15, 20⟩, ⟨0, 12, 19, 13⟩] ⟨0, 12, 23, 15⟩ [] ht (List.forall_mem_cons.mpr ⟨Or.inr ⟨by decide, "java/lang/IndexOutOfBoundsException", Z.1.2.2.2.2 _ q_3_234, hN.2.1⟩, List.forall_mem_cons.mpr ⟨Or.inr ⟨by decide, "java/lang/IllegalArgumentException", Z.1.2.2.2.2 _ q_3_122, hN.2.2⟩, fun _ h => nomatch h⟩⟩) (by decide) (by decide) (Z.1.2.2.2.2 _ q_3_123) (va_Nw.use (tB_ot (tb_at 5 rfl)) (hT _ (tb_at 5 rfl))) hce hv hcl ?_
      refine lv_astore (lv' := [(5, .ref q9), (0, .ref (ad 0)), (1, .int p1), (2, .int p2), (3, .int p3), (4, .ref (ad 405))]) hx hb dL_setTimer_23 hl (by decide) rfl (fun ls hl => ?_)
      refine lv_iconst (v := 3) hx hb dL_setTimer_25 (by decide +kernel) ?_
      exact vx_ret (W.widen (Nat.le_of_ble_eq_true rfl) (Nat.le_of_ble_eq_true rfl) (rt_i Z hr hlk hw dL_setTimer_26 (pI.mk (by unfold wr; rw [kf]; rfl) (mgO_inv I1))))
  · obtain ⟨kf, I1⟩ := hp
    have kf : (f_X8_setTimer σ p1 p2 p3) = (0, r, u) := kf
    refine lv_i2l (v := r.toInt64) hx hb dL_setTimer_10 rfl ?_
    refine lO Z hw rfl dL_setTimer_11 (fun H locs hw => ?_)
    refine lv_goto (tgt := 27) hx hb dL_setTimer_12 (by decide) ?_
    refine lv_iconst (v := 0) hx hb dL_setTimer_27 (by decide +kernel) ?_
    exact vx_ret (W.widen (Nat.le_of_ble_eq_true rfl) (Nat.le_of_ble_eq_true rfl) (rt_i Z hr hlk hw dL_setTimer_28 (pI.mk (by unfold wr; rw [kf]; rfl) (oL_inv I1))))
abbrev rmL_raise : Room := { frames := 8, cells := 1, slots := 6, locals := 125 }
set_option maxHeartbeats 4000000 in
set_option maxRecDepth 100000 in
theorem k_L_raise {l : Launch} {D : va_G} {T : Nat → ClassId} {g ad : Nat → Nat} (hfl : l.stackTraces = false) {σ : St} {p1 : Int32} (I0 : InvB σ) (hW : (f_X8_raise σ p1).1 ≠ 0 → w13 (f_X8_raise σ p1).1 ≠ 0) : mW l yL_raise cL_raise 4 [(0, 9, 12, 20), (0, 9, 15, 15)] rmL_raise D T g 406 ad (cE (oE g T ad) σ) [.ref (ad 0), .int p1, .ref (ad 405)] (qI D 406 ad (oE g T ad) (pI (wr w13 σ (f_X8_raise σ p1)) InvB)) := by
  refine mW.of (own := "NestedBellsLaw") (by decide +kernel) (Nat.le_of_ble_eq_true rfl) rfl ?_
  intro p e s m below meth c A ls H locs Z hT hN hr hlk ht hw hl
  have hx := Z.1.1
  have hb := Z.1.2.1
  have hl : lv_has ls 4 [(0, .ref (ad 0)), (1, .int p1), (2, .ref (ad 405))] := hl
  refine lv_aload_n hx hb dL_raise_0 rfl (lv_at hl 2 rfl) ?_
  refine lv_iconst (v := 0) hx hb dL_raise_1 (by decide +kernel) ?_
  refine lv_aload_n hx hb dL_raise_2 rfl (lv_at hl 0 rfl) ?_
  refine lv_iload_n hx hb dL_raise_3 rfl (lv_at hl 1 rfl) ?_
  refine bo_i (rest := [.int 0, .ref (ad 405)]) prtO (rxV (rest := [.int 0, .ref (ad 405)]) Z (prtO.sub hw) hT (k_X8_raise hfl (p1 := p1) I0) v_X8_raise q_4_43 0 (by decide) rfl rfl rfl rfl hl.1 rfl rfl (Nat.le_of_ble_eq_true rfl) ⟨Nat.le_of_ble_eq_true rfl, Nat.le_of_ble_eq_true rfl⟩ ⟨Nat.le_of_ble_eq_true rfl, Nat.le_of_ble_eq_true rfl⟩ dL_raise_4) hw Z (fun k u H locs q9 ce hp hw hce hv hcl => ?_) (fun r u H locs hp hw => ?_)
  · obtain ⟨k0, kf, I1⟩ := hp
    have kf : (f_X8_raise σ p1) = (k, 0, u) := kf
    rw [kf] at hW
    rcases w13_k (hW k0) with rfl | rfl
    · refine vx_catch (E := exN 1) (name := "java/lang/IndexOutOfBoundsException") Z.1.2.2.2.1 [] ⟨0, 9, 12, 20⟩ [⟨0, 9, 15, 15⟩] ht (fun _ h => nomatch h) (by decide) (by decide) (Z.1.2.2.2.2 _ q_3_234) (va_Nw.use (tB_ot (tb_at 3 rfl)) (hT _ (tb_at 3 rfl))) hce hv hcl ?_
      refine lv_astore_n (lv' := [(3, .ref q9), (0, .ref (ad 0)), (1, .int p1), (2, .ref (ad 405))]) hx hb dL_raise_12 rfl hl (by decide) rfl (fun ls hl => ?_)
      refine lv_iconst (v := 1) hx hb dL_raise_13 (by decide +kernel) ?_
      exact vx_ret (W.widen (Nat.le_of_ble_eq_true rfl) (Nat.le_of_ble_eq_true rfl) (rt_i Z hr hlk hw dL_raise_14 (pI.mk (by unfold wr; rw [kf]; rfl) (mgO_inv I1))))
    · refine vx_catch (E := exN 3) (name := "java/lang/IllegalStateException") Z.1.2.2.2.1 [⟨0, 9, 12, 20⟩] ⟨0, 9, 15, 15⟩ [] ht (List.forall_mem_cons.mpr ⟨Or.inr ⟨by decide, "java/lang/IndexOutOfBoundsException", Z.1.2.2.2.2 _ q_3_234, hN.2.1⟩, fun _ h => nomatch h⟩) (by decide) (by decide) (Z.1.2.2.2.2 _ q_3_123) (va_Nw.use (tB_ot (tb_at 5 rfl)) (hT _ (tb_at 5 rfl))) hce hv hcl ?_
      refine lv_astore_n (lv' := [(3, .ref q9), (0, .ref (ad 0)), (1, .int p1), (2, .ref (ad 405))]) hx hb dL_raise_15 rfl hl (by decide) rfl (fun ls hl => ?_)
      refine lv_iconst (v := 2) hx hb dL_raise_16 (by decide +kernel) ?_
      exact vx_ret (W.widen (Nat.le_of_ble_eq_true rfl) (Nat.le_of_ble_eq_true rfl) (rt_i Z hr hlk hw dL_raise_17 (pI.mk (by unfold wr; rw [kf]; rfl) (mgO_inv I1))))
  · obtain ⟨kf, I1⟩ := hp
    have kf : (f_X8_raise σ p1) = (0, r, u) := kf
    refine lv_i2l (v := r.toInt64) hx hb dL_raise_7 rfl ?_
    refine lO Z hw rfl dL_raise_8 (fun H locs hw => ?_)
    refine lv_goto (tgt := 18) hx hb dL_raise_9 (by decide) ?_
    refine lv_iconst (v := 0) hx hb dL_raise_18 (by decide +kernel) ?_
    exact vx_ret (W.widen (Nat.le_of_ble_eq_true rfl) (Nat.le_of_ble_eq_true rfl) (rt_i Z hr hlk hw dL_raise_19 (pI.mk (by unfold wr; rw [kf]; rfl) (oL_inv I1))))
abbrev rmL_setLine : Room := { frames := 8, cells := 1, slots := 6, locals := 126 }
set_option maxHeartbeats 4000000 in
set_option maxRecDepth 100000 in
theorem k_L_setLine {l : Launch} {D : va_G} {T : Nat → ClassId} {g ad : Nat → Nat} (hfl : l.stackTraces = false) {σ : St} {p1 : Int32} {p2 : Int32} (I0 : InvB σ) (hz : zb p2 = p2) (hW : (f_X8_setLine σ p1 p2).1 ≠ 0 → w13 (f_X8_setLine σ p1 p2).1 ≠ 0) : mW l yL_setLine cL_setLine 5 [(0, 10, 13, 20), (0, 10, 17, 15)] rmL_setLine D T g 406 ad (cE (oE g T ad) σ) [.ref (ad 0), .int p1, .int p2, .ref (ad 405)] (qI D 406 ad (oE g T ad) (pI (wr w13 σ (f_X8_setLine σ p1 p2)) InvB)) := by
  refine mW.of (own := "NestedBellsLaw") (by decide +kernel) (Nat.le_of_ble_eq_true rfl) rfl ?_
  intro p e s m below meth c A ls H locs Z hT hN hr hlk ht hw hl
  have hx := Z.1.1
  have hb := Z.1.2.1
  have hl : lv_has ls 5 [(0, .ref (ad 0)), (1, .int p1), (2, .int p2), (3, .ref (ad 405))] := hl
  refine lv_aload_n hx hb dL_setLine_0 rfl (lv_at hl 3 rfl) ?_
  refine lv_iconst (v := 0) hx hb dL_setLine_1 (by decide +kernel) ?_
  refine lv_aload_n hx hb dL_setLine_2 rfl (lv_at hl 0 rfl) ?_
  refine lv_iload_n hx hb dL_setLine_3 rfl (lv_at hl 1 rfl) ?_
  refine lv_iload_n hx hb dL_setLine_4 rfl (lv_at hl 2 rfl) ?_
  refine bo_i (rest := [.int 0, .ref (ad 405)]) prtO (rxV (rest := [.int 0, .ref (ad 405)]) Z (prtO.sub hw) hT (k_X8_setLine hfl (p1 := p1) (p2 := p2) I0 hz) v_X8_setLine q_4_50 0 (by decide) rfl rfl rfl rfl hl.1 rfl rfl (Nat.le_of_ble_eq_true rfl) ⟨Nat.le_of_ble_eq_true rfl, Nat.le_of_ble_eq_true rfl⟩ ⟨Nat.le_of_ble_eq_true rfl, Nat.le_of_ble_eq_true rfl⟩ dL_setLine_5) hw Z (fun k u H locs q9 ce hp hw hce hv hcl => ?_) (fun r u H locs hp hw => ?_)
  · obtain ⟨k0, kf, I1⟩ := hp
    have kf : (f_X8_setLine σ p1 p2) = (k, 0, u) := kf
    rw [kf] at hW
    rcases w13_k (hW k0) with rfl | rfl
    · refine vx_catch (E := exN 1) (name := "java/lang/IndexOutOfBoundsException") Z.1.2.2.2.1 [] ⟨0, 10, 13, 20⟩ [⟨0, 10, 17, 15⟩] ht (fun _ h => nomatch h) (by decide) (by decide) (Z.1.2.2.2.2 _ q_3_234) (va_Nw.use (tB_ot (tb_at 3 rfl)) (hT _ (tb_at 3 rfl))) hce hv hcl ?_
      refine lv_astore (lv' := [(4, .ref q9), (0, .ref (ad 0)), (1, .int p1), (2, .int p2), (3, .ref (ad 405))]) hx hb dL_setLine_13 hl (by decide) rfl (fun ls hl => ?_)
      refine lv_iconst (v := 1) hx hb dL_setLine_15 (by decide +kernel) ?_
      exact vx_ret (W.widen (Nat.le_of_ble_eq_true rfl) (Nat.le_of_ble_eq_true rfl) (rt_i Z hr hlk hw dL_setLine_16 (pI.mk (by unfold wr; rw [kf]; rfl) (mgO_inv I1))))
    · refine vx_catch (E := exN 3) (name := "java/lang/IllegalStateException") Z.1.2.2.2.1 [⟨0, 10, 13, 20⟩] ⟨0, 10, 17, 15⟩ [] ht (List.forall_mem_cons.mpr ⟨Or.inr ⟨by decide, "java/lang/IndexOutOfBoundsException", Z.1.2.2.2.2 _ q_3_234, hN.2.1⟩, fun _ h => nomatch h⟩) (by decide) (by decide) (Z.1.2.2.2.2 _ q_3_123) (va_Nw.use (tB_ot (tb_at 5 rfl)) (hT _ (tb_at 5 rfl))) hce hv hcl ?_
      refine lv_astore (lv' := [(4, .ref q9), (0, .ref (ad 0)), (1, .int p1), (2, .int p2), (3, .ref (ad 405))]) hx hb dL_setLine_17 hl (by decide) rfl (fun ls hl => ?_)
      refine lv_iconst (v := 2) hx hb dL_setLine_19 (by decide +kernel) ?_
      exact vx_ret (W.widen (Nat.le_of_ble_eq_true rfl) (Nat.le_of_ble_eq_true rfl) (rt_i Z hr hlk hw dL_setLine_20 (pI.mk (by unfold wr; rw [kf]; rfl) (mgO_inv I1))))
  · obtain ⟨kf, I1⟩ := hp
    have kf : (f_X8_setLine σ p1 p2) = (0, r, u) := kf
    refine lv_i2l (v := r.toInt64) hx hb dL_setLine_8 rfl ?_
    refine lO Z hw rfl dL_setLine_9 (fun H locs hw => ?_)
    refine lv_goto (tgt := 21) hx hb dL_setLine_10 (by decide) ?_
    refine lv_iconst (v := 0) hx hb dL_setLine_21 (by decide +kernel) ?_
    exact vx_ret (W.widen (Nat.le_of_ble_eq_true rfl) (Nat.le_of_ble_eq_true rfl) (rt_i Z hr hlk hw dL_setLine_22 (pI.mk (by unfold wr; rw [kf]; rfl) (oL_inv I1))))
abbrev rmL_set : Room := { frames := 8, cells := 1, slots := 6, locals := 126 }
set_option maxHeartbeats 4000000 in
set_option maxRecDepth 100000 in
theorem k_L_set {l : Launch} {D : va_G} {T : Nat → ClassId} {g ad : Nat → Nat} (hfl : l.stackTraces = false) {σ : St} {p1 : Int32} {p2 : Int32} (I0 : InvB σ) (hW : (f_X8_set σ p1 p2).1 ≠ 0 → w2 (f_X8_set σ p1 p2).1 ≠ 0) : mW l yL_set cL_set 5 [(0, 10, 13, 13)] rmL_set D T g 406 ad (cE (oE g T ad) σ) [.ref (ad 0), .int p1, .int p2, .ref (ad 405)] (qI D 406 ad (oE g T ad) (pI (wr w2 σ (f_X8_set σ p1 p2)) InvB)) := by
  refine mW.of (own := "NestedBellsLaw") (by decide +kernel) (Nat.le_of_ble_eq_true rfl) rfl ?_
  intro p e s m below meth c A ls H locs Z hT hN hr hlk ht hw hl
  have hx := Z.1.1
  have hb := Z.1.2.1
  have hl : lv_has ls 5 [(0, .ref (ad 0)), (1, .int p1), (2, .int p2), (3, .ref (ad 405))] := hl
  refine lv_aload_n hx hb dL_set_0 rfl (lv_at hl 3 rfl) ?_
  refine lv_iconst (v := 0) hx hb dL_set_1 (by decide +kernel) ?_
  refine lv_aload_n hx hb dL_set_2 rfl (lv_at hl 0 rfl) ?_
  refine lv_iload_n hx hb dL_set_3 rfl (lv_at hl 1 rfl) ?_
  refine lv_iload_n hx hb dL_set_4 rfl (lv_at hl 2 rfl) ?_
  refine bo_i (rest := [.int 0, .ref (ad 405)]) prtO (rxV (rest := [.int 0, .ref (ad 405)]) Z (prtO.sub hw) hT (k_X8_set hfl (p1 := p1) (p2 := p2) I0) v_X8_set q_4_57 0 (by decide) rfl rfl rfl rfl hl.1 rfl rfl (Nat.le_of_ble_eq_true rfl) ⟨Nat.le_of_ble_eq_true rfl, Nat.le_of_ble_eq_true rfl⟩ ⟨Nat.le_of_ble_eq_true rfl, Nat.le_of_ble_eq_true rfl⟩ dL_set_5) hw Z (fun k u H locs q9 ce hp hw hce hv hcl => ?_) (fun r u H locs hp hw => ?_)
  · obtain ⟨k0, kf, I1⟩ := hp
    have kf : (f_X8_set σ p1 p2) = (k, 0, u) := kf
    rw [kf] at hW
    rcases w2_k (hW k0) with rfl
    · refine vx_catch (E := exN 2) (name := "java/lang/IllegalArgumentException") Z.1.2.2.2.1 [] ⟨0, 10, 13, 13⟩ [] ht (fun _ h => nomatch h) (by decide) (by decide) (Z.1.2.2.2.2 _ q_3_122) (va_Nw.use (tB_ot (tb_at 4 rfl)) (hT _ (tb_at 4 rfl))) hce hv hcl ?_
      refine lv_astore (lv' := [(4, .ref q9), (0, .ref (ad 0)), (1, .int p1), (2, .int p2), (3, .ref (ad 405))]) hx hb dL_set_13 hl (by decide) rfl (fun ls hl => ?_)
      refine lv_iconst (v := 1) hx hb dL_set_15 (by decide +kernel) ?_
      exact vx_ret (W.widen (Nat.le_of_ble_eq_true rfl) (Nat.le_of_ble_eq_true rfl) (rt_i Z hr hlk hw dL_set_16 (pI.mk (by unfold wr; rw [kf]; rfl) (mgO_inv I1))))
  · obtain ⟨kf, I1⟩ := hp
    have kf : (f_X8_set σ p1 p2) = (0, r, u) := kf
    refine lv_i2l (v := r.toInt64) hx hb dL_set_8 rfl ?_
    refine lO Z hw rfl dL_set_9 (fun H locs hw => ?_)
    refine lv_goto (tgt := 17) hx hb dL_set_10 (by decide) ?_
    refine lv_iconst (v := 0) hx hb dL_set_17 (by decide +kernel) ?_
    exact vx_ret (W.widen (Nat.le_of_ble_eq_true rfl) (Nat.le_of_ble_eq_true rfl) (rt_i Z hr hlk hw dL_set_18 (pI.mk (by unfold wr; rw [kf]; rfl) (oL_inv I1))))
abbrev rmL_run : Room := { frames := 8, cells := 1, slots := 6, locals := 132 }
set_option maxHeartbeats 4000000 in
set_option maxRecDepth 100000 in
theorem k_L_run {l : Launch} {D : va_G} {T : Nat → ClassId} {g ad : Nat → Nat} (hfl : l.stackTraces = false) {σ : St} {p1 : Int32} (I0 : InvB σ) (hW : (f_X8_run σ p1).1 ≠ 0 → w2 (f_X8_run σ p1).1 ≠ 0) : mW l yL_run cL_run 4 [(0, 9, 12, 13)] rmL_run D T g 406 ad (cE (oE g T ad) σ) [.ref (ad 0), .int p1, .ref (ad 405)] (qI D 406 ad (oE g T ad) (pI (wr w2 σ (f_X8_run σ p1)) InvB)) := by
  refine mW.of (own := "NestedBellsLaw") (by decide +kernel) (Nat.le_of_ble_eq_true rfl) rfl ?_
  intro p e s m below meth c A ls H locs Z hT hN hr hlk ht hw hl
  have hx := Z.1.1
  have hb := Z.1.2.1
  have hl : lv_has ls 4 [(0, .ref (ad 0)), (1, .int p1), (2, .ref (ad 405))] := hl
  refine lv_aload_n hx hb dL_run_0 rfl (lv_at hl 2 rfl) ?_
  refine lv_iconst (v := 0) hx hb dL_run_1 (by decide +kernel) ?_
  refine lv_aload_n hx hb dL_run_2 rfl (lv_at hl 0 rfl) ?_
  refine lv_iload_n hx hb dL_run_3 rfl (lv_at hl 1 rfl) ?_
  refine bo_i (rest := [.int 0, .ref (ad 405)]) prtO (rxV (rest := [.int 0, .ref (ad 405)]) Z (prtO.sub hw) hT (k_X8_run hfl (p1 := p1) I0) v_X8_run q_4_64 0 (by decide) rfl rfl rfl rfl hl.1 rfl rfl (Nat.le_of_ble_eq_true rfl) ⟨Nat.le_of_ble_eq_true rfl, Nat.le_of_ble_eq_true rfl⟩ ⟨Nat.le_of_ble_eq_true rfl, Nat.le_of_ble_eq_true rfl⟩ dL_run_4) hw Z (fun k u H locs q9 ce hp hw hce hv hcl => ?_) (fun r u H locs hp hw => ?_)
  · obtain ⟨k0, kf, I1⟩ := hp
    have kf : (f_X8_run σ p1) = (k, 0, u) := kf
    rw [kf] at hW
    rcases w2_k (hW k0) with rfl
    · refine vx_catch (E := exN 2) (name := "java/lang/IllegalArgumentException") Z.1.2.2.2.1 [] ⟨0, 9, 12, 13⟩ [] ht (fun _ h => nomatch h) (by decide) (by decide) (Z.1.2.2.2.2 _ q_3_122) (va_Nw.use (tB_ot (tb_at 4 rfl)) (hT _ (tb_at 4 rfl))) hce hv hcl ?_
      refine lv_astore_n (lv' := [(3, .ref q9), (0, .ref (ad 0)), (1, .int p1), (2, .ref (ad 405))]) hx hb dL_run_12 rfl hl (by decide) rfl (fun ls hl => ?_)
      refine lv_iconst (v := 1) hx hb dL_run_13 (by decide +kernel) ?_
      exact vx_ret (W.widen (Nat.le_of_ble_eq_true rfl) (Nat.le_of_ble_eq_true rfl) (rt_i Z hr hlk hw dL_run_14 (pI.mk (by unfold wr; rw [kf]; rfl) (mgO_inv I1))))
  · obtain ⟨kf, I1⟩ := hp
    have kf : (f_X8_run σ p1) = (0, r, u) := kf
    refine lv_i2l (v := r.toInt64) hx hb dL_run_7 rfl ?_
    refine lO Z hw rfl dL_run_8 (fun H locs hw => ?_)
    refine lv_goto (tgt := 15) hx hb dL_run_9 (by decide) ?_
    refine lv_iconst (v := 0) hx hb dL_run_15 (by decide +kernel) ?_
    exact vx_ret (W.widen (Nat.le_of_ble_eq_true rfl) (Nat.le_of_ble_eq_true rfl) (rt_i Z hr hlk hw dL_run_16 (pI.mk (by unfold wr; rw [kf]; rfl) (oL_inv I1))))
abbrev rmL_source : Room := { frames := 8, cells := 2, slots := 12, locals := 132 }
set_option maxHeartbeats 4000000 in
set_option maxRecDepth 100000 in
theorem k_L_source {l : Launch} {D : va_G} {T : Nat → ClassId} {g ad : Nat → Nat} (hfl : l.stackTraces = false) {σ : St} {p1 : Int32} {p2 : Int32} (I0 : InvB σ) (hW : (f_X8_source σ p1 p2).1 ≠ 0 → w12 (f_X8_source σ p1 p2).1 ≠ 0) : mW l yL_source cL_source 5 [(0, 10, 13, 20), (0, 10, 17, 13)] rmL_source D T g 406 ad (cE (oE g T ad) σ) [.ref (ad 0), .int p1, .int p2, .ref (ad 405)] (qI D 406 ad (oE g T ad) (pI (wr w12 σ (f_X8_source σ p1 p2)) InvB)) := by
  refine mW.of (own := "NestedBellsLaw") (by decide +kernel) (Nat.le_of_ble_eq_true rfl) rfl ?_
  intro p e s m below meth c A ls H locs Z hT hN hr hlk ht hw hl
  have hx := Z.1.1
  have hb := Z.1.2.1
  have hl : lv_has ls 5 [(0, .ref (ad 0)), (1, .int p1), (2, .int p2), (3, .ref (ad 405))] := hl
  refine lv_aload_n hx hb dL_source_0 rfl (lv_at hl 3 rfl) ?_
  refine lv_iconst (v := 0) hx hb dL_source_1 (by decide +kernel) ?_
  refine lv_aload_n hx hb dL_source_2 rfl (lv_at hl 0 rfl) ?_
  refine lv_iload_n hx hb dL_source_3 rfl (lv_at hl 1 rfl) ?_
  refine lv_iload_n hx hb dL_source_4 rfl (lv_at hl 2 rfl) ?_
  refine bo_i (rest := [.int 0, .ref (ad 405)]) prtO (rxV (rest := [.int 0, .ref (ad 405)]) Z (prtO.sub hw) hT (k_X8_source hfl (p1 := p1) (p2 := p2) I0) v_X8_source q_4_71 0 (by decide) rfl rfl rfl rfl hl.1 rfl rfl (Nat.le_of_ble_eq_true rfl) ⟨Nat.le_of_ble_eq_true rfl, Nat.le_of_ble_eq_true rfl⟩ ⟨Nat.le_of_ble_eq_true rfl, Nat.le_of_ble_eq_true rfl⟩ dL_source_5) hw Z (fun k u H locs q9 ce hp hw hce hv hcl => ?_) (fun r u H locs hp hw => ?_)
  · obtain ⟨k0, kf, I1⟩ := hp
    have kf : (f_X8_source σ p1 p2) = (k, 0, u) := kf
    rw [kf] at hW
    rcases w12_k (hW k0) with rfl | rfl
    · refine vx_catch (E := exN 1) (name := "java/lang/IndexOutOfBoundsException") Z.1.2.2.2.1 [] ⟨0, 10, 13, 20⟩ [⟨0, 10, 17, 13⟩] ht (fun _ h => nomatch h) (by decide) (by decide) (Z.1.2.2.2.2 _ q_3_234) (va_Nw.use (tB_ot (tb_at 3 rfl)) (hT _ (tb_at 3 rfl))) hce hv hcl ?_
      refine lv_astore (lv' := [(4, .ref q9), (0, .ref (ad 0)), (1, .int p1), (2, .int p2), (3, .ref (ad 405))]) hx hb dL_source_13 hl (by decide) rfl (fun ls hl => ?_)
      refine lv_iconst (v := 1) hx hb dL_source_15 (by decide +kernel) ?_
      exact vx_ret (W.widen (Nat.le_of_ble_eq_true rfl) (Nat.le_of_ble_eq_true rfl) (rt_i Z hr hlk hw dL_source_16 (pI.mk (by unfold wr; rw [kf]; rfl) (mgO_inv I1))))
    · refine vx_catch (E := exN 2) (name := "java/lang/IllegalArgumentException") Z.1.2.2.2.1 [⟨0, 10, 13, 20⟩] ⟨0, 10, 17, 13⟩ [] ht (List.forall_mem_cons.mpr ⟨Or.inr ⟨by decide, "java/lang/IndexOutOfBoundsException", Z.1.2.2.2.2 _ q_3_234, hN.1⟩, fun _ h => nomatch h⟩) (by decide) (by decide) (Z.1.2.2.2.2 _ q_3_122) (va_Nw.use (tB_ot (tb_at 4 rfl)) (hT _ (tb_at 4 rfl))) hce hv hcl ?_
      refine lv_astore (lv' := [(4, .ref q9), (0, .ref (ad 0)), (1, .int p1), (2, .int p2), (3, .ref (ad 405))]) hx hb dL_source_17 hl (by decide) rfl (fun ls hl => ?_)
      refine lv_iconst (v := 2) hx hb dL_source_19 (by decide +kernel) ?_
      exact vx_ret (W.widen (Nat.le_of_ble_eq_true rfl) (Nat.le_of_ble_eq_true rfl) (rt_i Z hr hlk hw dL_source_20 (pI.mk (by unfold wr; rw [kf]; rfl) (mgO_inv I1))))
  · obtain ⟨kf, I1⟩ := hp
    have kf : (f_X8_source σ p1 p2) = (0, r, u) := kf
    refine lv_i2l (v := r.toInt64) hx hb dL_source_8 rfl ?_
    refine lO Z hw rfl dL_source_9 (fun H locs hw => ?_)
    refine lv_goto (tgt := 21) hx hb dL_source_10 (by decide) ?_
    refine lv_iconst (v := 0) hx hb dL_source_21 (by decide +kernel) ?_
    exact vx_ret (W.widen (Nat.le_of_ble_eq_true rfl) (Nat.le_of_ble_eq_true rfl) (rt_i Z hr hlk hw dL_source_22 (pI.mk (by unfold wr; rw [kf]; rfl) (oL_inv I1))))
abbrev rmL_section : Room := { frames := 8, cells := 1, slots := 6, locals := 125 }
set_option maxHeartbeats 4000000 in
set_option maxRecDepth 100000 in
theorem k_L_section {l : Launch} {D : va_G} {T : Nat → ClassId} {g ad : Nat → Nat} (hfl : l.stackTraces = false) {σ : St} {p1 : Int32} {p2 : Int32} {p3 : Int32} (I0 : InvB σ) (hW : (f_X8_section σ p1 p2 p3).1 ≠ 0 → w12 (f_X8_section σ p1 p2 p3).1 ≠ 0) : mW l yL_section cL_section 6 [(0, 12, 15, 20), (0, 12, 19, 13)] rmL_section D T g 406 ad (cE (oE g T ad) σ) [.ref (ad 0), .int p1, .int p2, .int p3, .ref (ad 405)] (qI D 406 ad (oE g T ad) (pI (wr w12 σ (f_X8_section σ p1 p2 p3)) InvB)) := by
  refine mW.of (own := "NestedBellsLaw") (by decide +kernel) (Nat.le_of_ble_eq_true rfl) rfl ?_
  intro p e s m below meth c A ls H locs Z hT hN hr hlk ht hw hl
  have hx := Z.1.1
  have hb := Z.1.2.1
  have hl : lv_has ls 6 [(0, .ref (ad 0)), (1, .int p1), (2, .int p2), (3, .int p3), (4, .ref (ad 405))] := hl
  refine lv_aload hx hb dL_section_0 (lv_at hl 4 rfl) ?_
  refine lv_iconst (v := 0) hx hb dL_section_2 (by decide +kernel) ?_
  refine lv_aload_n hx hb dL_section_3 rfl (lv_at hl 0 rfl) ?_
  refine lv_iload_n hx hb dL_section_4 rfl (lv_at hl 1 rfl) ?_
  refine lv_iload_n hx hb dL_section_5 rfl (lv_at hl 2 rfl) ?_
  refine lv_iload_n hx hb dL_section_6 rfl (lv_at hl 3 rfl) ?_
  refine bo_i (rest := [.int 0, .ref (ad 405)]) prtO (rxV (rest := [.int 0, .ref (ad 405)]) Z (prtO.sub hw) hT (k_X8_section hfl (p1 := p1) (p2 := p2) (p3 := p3) I0) v_X8_section q_4_87 0 (by decide) rfl rfl rfl rfl hl.1 rfl rfl (Nat.le_of_ble_eq_true rfl) ⟨Nat.le_of_ble_eq_true rfl, Nat.le_of_ble_eq_true rfl⟩ ⟨Nat.le_of_ble_eq_true rfl, Nat.le_of_ble_eq_true rfl⟩ dL_section_7) hw Z (fun k u H locs q9 ce hp hw hce hv hcl => ?_) (fun r u H locs hp hw => ?_)
  · obtain ⟨k0, kf, I1⟩ := hp
    have kf : (f_X8_section σ p1 p2 p3) = (k, 0, u) := kf
    rw [kf] at hW
    rcases w12_k (hW k0) with rfl | rfl
    · refine vx_catch (E := exN 1) (name := "java/lang/IndexOutOfBoundsException") Z.1.2.2.2.1 [] ⟨0, 12, 15, 20⟩ [⟨0, 12, 19, 13⟩] ht (fun _ h => nomatch h) (by decide) (by decide) (Z.1.2.2.2.2 _ q_3_234) (va_Nw.use (tB_ot (tb_at 3 rfl)) (hT _ (tb_at 3 rfl))) hce hv hcl ?_
      refine lv_astore (lv' := [(5, .ref q9), (0, .ref (ad 0)), (1, .int p1), (2, .int p2), (3, .int p3), (4, .ref (ad 405))]) hx hb dL_section_15 hl (by decide) rfl (fun ls hl => ?_)
      refine lv_iconst (v := 1) hx hb dL_section_17 (by decide +kernel) ?_
      exact vx_ret (W.widen (Nat.le_of_ble_eq_true rfl) (Nat.le_of_ble_eq_true rfl) (rt_i Z hr hlk hw dL_section_18 (pI.mk (by unfold wr; rw [kf]; rfl) (mgO_inv I1))))
    · refine vx_catch (E := exN 2) (name := "java/lang/IllegalArgumentException") Z.1.2.2.2.1 [⟨0, 12, 15, 20⟩] ⟨0, 12, 19, 13⟩ [] ht (List.forall_mem_cons.mpr ⟨Or.inr ⟨by decide, "java/lang/IndexOutOfBoundsException", Z.1.2.2.2.2 _ q_3_234, hN.1⟩, fun _ h => nomatch h⟩) (by decide) (by decide) (Z.1.2.2.2.2 _ q_3_122) (va_Nw.use (tB_ot (tb_at 4 rfl)) (hT _ (tb_at 4 rfl))) hce hv hcl ?_
      refine lv_astore (lv' := [(5, .ref q9), (0, .ref (ad 0)), (1, .int p1), (2, .int p2), (3, .int p3), (4, .ref (ad 405))]) hx hb dL_section_19 hl (by decide) rfl (fun ls hl => ?_)
      refine lv_iconst (v := 2) hx hb dL_section_21 (by decide +kernel) ?_
      exact vx_ret (W.widen (Nat.le_of_ble_eq_true rfl) (Nat.le_of_ble_eq_true rfl) (rt_i Z hr hlk hw dL_section_22 (pI.mk (by unfold wr; rw [kf]; rfl) (mgO_inv I1))))
  · obtain ⟨kf, I1⟩ := hp
    have kf : (f_X8_section σ p1 p2 p3) = (0, r, u) := kf
    refine lv_i2l (v := r.toInt64) hx hb dL_section_10 rfl ?_
    refine lO Z hw rfl dL_section_11 (fun H locs hw => ?_)
    refine lv_goto (tgt := 23) hx hb dL_section_12 (by decide) ?_
    refine lv_iconst (v := 0) hx hb dL_section_23 (by decide +kernel) ?_
    exact vx_ret (W.widen (Nat.le_of_ble_eq_true rfl) (Nat.le_of_ble_eq_true rfl) (rt_i Z hr hlk hw dL_section_24 (pI.mk (by unfold wr; rw [kf]; rfl) (oL_inv I1))))
abbrev rmL_stack : Room := { frames := 8, cells := 1, slots := 6, locals := 123 }
set_option maxHeartbeats 4000000 in
set_option maxRecDepth 100000 in
theorem k_L_stack {l : Launch} {D : va_G} {T : Nat → ClassId} {g ad : Nat → Nat} (hfl : l.stackTraces = false) {σ : St} {p1 : Int32} (I0 : InvB σ) (hW : (f_X8_stack σ p1).1 ≠ 0 → w2 (f_X8_stack σ p1).1 ≠ 0) : mW l yL_stack cL_stack 4 [(0, 9, 12, 13)] rmL_stack D T g 406 ad (cE (oE g T ad) σ) [.ref (ad 0), .int p1, .ref (ad 405)] (qI D 406 ad (oE g T ad) (pI (wr w2 σ (f_X8_stack σ p1)) InvB)) := by
  refine mW.of (own := "NestedBellsLaw") (by decide +kernel) (Nat.le_of_ble_eq_true rfl) rfl ?_
  intro p e s m below meth c A ls H locs Z hT hN hr hlk ht hw hl
  have hx := Z.1.1
  have hb := Z.1.2.1
  have hl : lv_has ls 4 [(0, .ref (ad 0)), (1, .int p1), (2, .ref (ad 405))] := hl
  refine lv_aload_n hx hb dL_stack_0 rfl (lv_at hl 2 rfl) ?_
  refine lv_iconst (v := 0) hx hb dL_stack_1 (by decide +kernel) ?_
  refine lv_aload_n hx hb dL_stack_2 rfl (lv_at hl 0 rfl) ?_
  refine lv_iload_n hx hb dL_stack_3 rfl (lv_at hl 1 rfl) ?_
  refine bo_i (rest := [.int 0, .ref (ad 405)]) prtO (rxV (rest := [.int 0, .ref (ad 405)]) Z (prtO.sub hw) hT (k_X8_stack hfl (p1 := p1) I0) v_X8_stack q_4_95 0 (by decide) rfl rfl rfl rfl hl.1 rfl rfl (Nat.le_of_ble_eq_true rfl) ⟨Nat.le_of_ble_eq_true rfl, Nat.le_of_ble_eq_true rfl⟩ ⟨Nat.le_of_ble_eq_true rfl, Nat.le_of_ble_eq_true rfl⟩ dL_stack_4) hw Z (fun k u H locs q9 ce hp hw hce hv hcl => ?_) (fun r u H locs hp hw => ?_)
  · obtain ⟨k0, kf, I1⟩ := hp
    have kf : (f_X8_stack σ p1) = (k, 0, u) := kf
    rw [kf] at hW
    rcases w2_k (hW k0) with rfl
    · refine vx_catch (E := exN 2) (name := "java/lang/IllegalArgumentException") Z.1.2.2.2.1 [] ⟨0, 9, 12, 13⟩ [] ht (fun _ h => nomatch h) (by decide) (by decide) (Z.1.2.2.2.2 _ q_3_122) (va_Nw.use (tB_ot (tb_at 4 rfl)) (hT _ (tb_at 4 rfl))) hce hv hcl ?_
      refine lv_astore_n (lv' := [(3, .ref q9), (0, .ref (ad 0)), (1, .int p1), (2, .ref (ad 405))]) hx hb dL_stack_12 rfl hl (by decide) rfl (fun ls hl => ?_)
      refine lv_iconst (v := 1) hx hb dL_stack_13 (by decide +kernel) ?_
      exact vx_ret (W.widen (Nat.le_of_ble_eq_true rfl) (Nat.le_of_ble_eq_true rfl) (rt_i Z hr hlk hw dL_stack_14 (pI.mk (by unfold wr; rw [kf]; rfl) (mgO_inv I1))))
  · obtain ⟨kf, I1⟩ := hp
    have kf : (f_X8_stack σ p1) = (0, r, u) := kf
    refine lv_i2l (v := r.toInt64) hx hb dL_stack_7 rfl ?_
    refine lO Z hw rfl dL_stack_8 (fun H locs hw => ?_)
    refine lv_goto (tgt := 15) hx hb dL_stack_9 (by decide) ?_
    refine lv_iconst (v := 0) hx hb dL_stack_15 (by decide +kernel) ?_
    exact vx_ret (W.widen (Nat.le_of_ble_eq_true rfl) (Nat.le_of_ble_eq_true rfl) (rt_i Z hr hlk hw dL_stack_16 (pI.mk (by unfold wr; rw [kf]; rfl) (oL_inv I1))))
abbrev rmL_processor : Room := { frames := 8, cells := 1, slots := 6, locals := 123 }
set_option maxHeartbeats 4000000 in
set_option maxRecDepth 100000 in
theorem k_L_processor {l : Launch} {D : va_G} {T : Nat → ClassId} {g ad : Nat → Nat} (hfl : l.stackTraces = false) {σ : St} {p1 : Int32} (I0 : InvB σ) (hW : (f_X8_processor σ p1).1 ≠ 0 → w2 (f_X8_processor σ p1).1 ≠ 0) : mW l yL_processor cL_processor 4 [(0, 9, 12, 13)] rmL_processor D T g 406 ad (cE (oE g T ad) σ) [.ref (ad 0), .int p1, .ref (ad 405)] (qI D 406 ad (oE g T ad) (pI (wr w2 σ (f_X8_processor σ p1)) InvB)) := by
  refine mW.of (own := "NestedBellsLaw") (by decide +kernel) (Nat.le_of_ble_eq_true rfl) rfl ?_
  intro p e s m below meth c A ls H locs Z hT hN hr hlk ht hw hl
  have hx := Z.1.1
  have hb := Z.1.2.1
  have hl : lv_has ls 4 [(0, .ref (ad 0)), (1, .int p1), (2, .ref (ad 405))] := hl
  refine lv_aload_n hx hb dL_processor_0 rfl (lv_at hl 2 rfl) ?_
  refine lv_iconst (v := 0) hx hb dL_processor_1 (by decide +kernel) ?_
  refine lv_aload_n hx hb dL_processor_2 rfl (lv_at hl 0 rfl) ?_
  refine lv_iload_n hx hb dL_processor_3 rfl (lv_at hl 1 rfl) ?_
  refine bo_i (rest := [.int 0, .ref (ad 405)]) prtO (rxV (rest := [.int 0, .ref (ad 405)]) Z (prtO.sub hw) hT (k_X8_processor hfl (p1 := p1) I0) v_X8_processor q_4_102 0 (by decide) rfl rfl rfl rfl hl.1 rfl rfl (Nat.le_of_ble_eq_true rfl) ⟨Nat.le_of_ble_eq_true rfl, Nat.le_of_ble_eq_true rfl⟩ ⟨Nat.le_of_ble_eq_true rfl, Nat.le_of_ble_eq_true rfl⟩ dL_processor_4) hw Z (fun k u H locs q9 ce hp hw hce hv hcl => ?_) (fun r u H locs hp hw => ?_)
  · obtain ⟨k0, kf, I1⟩ := hp
    have kf : (f_X8_processor σ p1) = (k, 0, u) := kf
    rw [kf] at hW
    rcases w2_k (hW k0) with rfl
    · refine vx_catch (E := exN 2) (name := "java/lang/IllegalArgumentException") Z.1.2.2.2.1 [] ⟨0, 9, 12, 13⟩ [] ht (fun _ h => nomatch h) (by decide) (by decide) (Z.1.2.2.2.2 _ q_3_122) (va_Nw.use (tB_ot (tb_at 4 rfl)) (hT _ (tb_at 4 rfl))) hce hv hcl ?_
      refine lv_astore_n (lv' := [(3, .ref q9), (0, .ref (ad 0)), (1, .int p1), (2, .ref (ad 405))]) hx hb dL_processor_12 rfl hl (by decide) rfl (fun ls hl => ?_)
      refine lv_iconst (v := 1) hx hb dL_processor_13 (by decide +kernel) ?_
      exact vx_ret (W.widen (Nat.le_of_ble_eq_true rfl) (Nat.le_of_ble_eq_true rfl) (rt_i Z hr hlk hw dL_processor_14 (pI.mk (by unfold wr; rw [kf]; rfl) (mgO_inv I1))))
  · obtain ⟨kf, I1⟩ := hp
    have kf : (f_X8_processor σ p1) = (0, r, u) := kf
    refine lv_i2l (v := r.toInt64) hx hb dL_processor_7 rfl ?_
    refine lO Z hw rfl dL_processor_8 (fun H locs hw => ?_)
    refine lv_goto (tgt := 15) hx hb dL_processor_9 (by decide) ?_
    refine lv_iconst (v := 0) hx hb dL_processor_15 (by decide +kernel) ?_
    exact vx_ret (W.widen (Nat.le_of_ble_eq_true rfl) (Nat.le_of_ble_eq_true rfl) (rt_i Z hr hlk hw dL_processor_16 (pI.mk (by unfold wr; rw [kf]; rfl) (oL_inv I1))))
abbrev rmL_account : Room := { frames := 8, cells := 1, slots := 6, locals := 123 }
set_option maxHeartbeats 4000000 in
set_option maxRecDepth 100000 in
theorem k_L_account {l : Launch} {D : va_G} {T : Nat → ClassId} {g ad : Nat → Nat} (hfl : l.stackTraces = false) {σ : St} {p1 : Int32} (I0 : InvB σ) (hW : (f_X8_account σ p1).1 ≠ 0 → w2 (f_X8_account σ p1).1 ≠ 0) : mW l yL_account cL_account 4 [(0, 9, 12, 13)] rmL_account D T g 406 ad (cE (oE g T ad) σ) [.ref (ad 0), .int p1, .ref (ad 405)] (qI D 406 ad (oE g T ad) (pI (wr w2 σ (f_X8_account σ p1)) InvB)) := by
  refine mW.of (own := "NestedBellsLaw") (by decide +kernel) (Nat.le_of_ble_eq_true rfl) rfl ?_
  intro p e s m below meth c A ls H locs Z hT hN hr hlk ht hw hl
  have hx := Z.1.1
  have hb := Z.1.2.1
  have hl : lv_has ls 4 [(0, .ref (ad 0)), (1, .int p1), (2, .ref (ad 405))] := hl
  refine lv_aload_n hx hb dL_account_0 rfl (lv_at hl 2 rfl) ?_
  refine lv_iconst (v := 0) hx hb dL_account_1 (by decide +kernel) ?_
  refine lv_aload_n hx hb dL_account_2 rfl (lv_at hl 0 rfl) ?_
  refine lv_iload_n hx hb dL_account_3 rfl (lv_at hl 1 rfl) ?_
  refine bo_i (rest := [.int 0, .ref (ad 405)]) prtO (rxV (rest := [.int 0, .ref (ad 405)]) Z (prtO.sub hw) hT (k_X8_account hfl (p1 := p1) I0) v_X8_account q_4_109 0 (by decide) rfl rfl rfl rfl hl.1 rfl rfl (Nat.le_of_ble_eq_true rfl) ⟨Nat.le_of_ble_eq_true rfl, Nat.le_of_ble_eq_true rfl⟩ ⟨Nat.le_of_ble_eq_true rfl, Nat.le_of_ble_eq_true rfl⟩ dL_account_4) hw Z (fun k u H locs q9 ce hp hw hce hv hcl => ?_) (fun r u H locs hp hw => ?_)
  · obtain ⟨k0, kf, I1⟩ := hp
    have kf : (f_X8_account σ p1) = (k, 0, u) := kf
    rw [kf] at hW
    rcases w2_k (hW k0) with rfl
    · refine vx_catch (E := exN 2) (name := "java/lang/IllegalArgumentException") Z.1.2.2.2.1 [] ⟨0, 9, 12, 13⟩ [] ht (fun _ h => nomatch h) (by decide) (by decide) (Z.1.2.2.2.2 _ q_3_122) (va_Nw.use (tB_ot (tb_at 4 rfl)) (hT _ (tb_at 4 rfl))) hce hv hcl ?_
      refine lv_astore_n (lv' := [(3, .ref q9), (0, .ref (ad 0)), (1, .int p1), (2, .ref (ad 405))]) hx hb dL_account_12 rfl hl (by decide) rfl (fun ls hl => ?_)
      refine lv_iconst (v := 1) hx hb dL_account_13 (by decide +kernel) ?_
      exact vx_ret (W.widen (Nat.le_of_ble_eq_true rfl) (Nat.le_of_ble_eq_true rfl) (rt_i Z hr hlk hw dL_account_14 (pI.mk (by unfold wr; rw [kf]; rfl) (mgO_inv I1))))
  · obtain ⟨kf, I1⟩ := hp
    have kf : (f_X8_account σ p1) = (0, r, u) := kf
    refine lv_i2l (v := r.toInt64) hx hb dL_account_7 rfl ?_
    refine lO Z hw rfl dL_account_8 (fun H locs hw => ?_)
    refine lv_goto (tgt := 15) hx hb dL_account_9 (by decide) ?_
    refine lv_iconst (v := 0) hx hb dL_account_15 (by decide +kernel) ?_
    exact vx_ret (W.widen (Nat.le_of_ble_eq_true rfl) (Nat.le_of_ble_eq_true rfl) (rt_i Z hr hlk hw dL_account_16 (pI.mk (by unfold wr; rw [kf]; rfl) (oL_inv I1))))
abbrev rmL_log : Room := { frames := 8, cells := 1, slots := 6, locals := 124 }
set_option maxHeartbeats 4000000 in
set_option maxRecDepth 100000 in
theorem k_L_log {l : Launch} {D : va_G} {T : Nat → ClassId} {g ad : Nat → Nat} (hfl : l.stackTraces = false) {σ : St} {p1 : Int32} {p2 : Int32} (I0 : InvB σ) (hW : (f_X8_log σ p1 p2).1 ≠ 0 → w2 (f_X8_log σ p1 p2).1 ≠ 0) : mW l yL_log cL_log 5 [(0, 10, 13, 13)] rmL_log D T g 406 ad (cE (oE g T ad) σ) [.ref (ad 0), .int p1, .int p2, .ref (ad 405)] (qI D 406 ad (oE g T ad) (pI (wr w2 σ (f_X8_log σ p1 p2)) InvB)) := by
  refine mW.of (own := "NestedBellsLaw") (by decide +kernel) (Nat.le_of_ble_eq_true rfl) rfl ?_
  intro p e s m below meth c A ls H locs Z hT hN hr hlk ht hw hl
  have hx := Z.1.1
  have hb := Z.1.2.1
  have hl : lv_has ls 5 [(0, .ref (ad 0)), (1, .int p1), (2, .int p2), (3, .ref (ad 405))] := hl
  refine lv_aload_n hx hb dL_log_0 rfl (lv_at hl 3 rfl) ?_
  refine lv_iconst (v := 0) hx hb dL_log_1 (by decide +kernel) ?_
  refine lv_aload_n hx hb dL_log_2 rfl (lv_at hl 0 rfl) ?_
  refine lv_iload_n hx hb dL_log_3 rfl (lv_at hl 1 rfl) ?_
  refine lv_iload_n hx hb dL_log_4 rfl (lv_at hl 2 rfl) ?_
  refine bo_i (rest := [.int 0, .ref (ad 405)]) prtO (rxV (rest := [.int 0, .ref (ad 405)]) Z (prtO.sub hw) hT (k_X8_log hfl (p1 := p1) (p2 := p2) I0) v_X8_log q_4_116 0 (by decide) rfl rfl rfl rfl hl.1 rfl rfl (Nat.le_of_ble_eq_true rfl) ⟨Nat.le_of_ble_eq_true rfl, Nat.le_of_ble_eq_true rfl⟩ ⟨Nat.le_of_ble_eq_true rfl, Nat.le_of_ble_eq_true rfl⟩ dL_log_5) hw Z (fun k u H locs q9 ce hp hw hce hv hcl => ?_) (fun r u H locs hp hw => ?_)
  · obtain ⟨k0, kf, I1⟩ := hp
    have kf : (f_X8_log σ p1 p2) = (k, 0, u) := kf
    rw [kf] at hW
    rcases w2_k (hW k0) with rfl
    · refine vx_catch (E := exN 2) (name := "java/lang/IllegalArgumentException") Z.1.2.2.2.1 [] ⟨0, 10, 13, 13⟩ [] ht (fun _ h => nomatch h) (by decide) (by decide) (Z.1.2.2.2.2 _ q_3_122) (va_Nw.use (tB_ot (tb_at 4 rfl)) (hT _ (tb_at 4 rfl))) hce hv hcl ?_
      refine lv_astore (lv' := [(4, .ref q9), (0, .ref (ad 0)), (1, .int p1), (2, .int p2), (3, .ref (ad 405))]) hx hb dL_log_13 hl (by decide) rfl (fun ls hl => ?_)
      refine lv_iconst (v := 1) hx hb dL_log_15 (by decide +kernel) ?_
      exact vx_ret (W.widen (Nat.le_of_ble_eq_true rfl) (Nat.le_of_ble_eq_true rfl) (rt_i Z hr hlk hw dL_log_16 (pI.mk (by unfold wr; rw [kf]; rfl) (mgO_inv I1))))
  · obtain ⟨kf, I1⟩ := hp
    have kf : (f_X8_log σ p1 p2) = (0, r, u) := kf
    refine lv_i2l (v := r.toInt64) hx hb dL_log_8 rfl ?_
    refine lO Z hw rfl dL_log_9 (fun H locs hw => ?_)
    refine lv_goto (tgt := 17) hx hb dL_log_10 (by decide) ?_
    refine lv_iconst (v := 0) hx hb dL_log_17 (by decide +kernel) ?_
    exact vx_ret (W.widen (Nat.le_of_ble_eq_true rfl) (Nat.le_of_ble_eq_true rfl) (rt_i Z hr hlk hw dL_log_18 (pI.mk (by unfold wr; rw [kf]; rfl) (oL_inv I1))))
abbrev rmL_entersAfter : Room := { frames := 8, cells := 2, slots := 12, locals := 135 }
set_option maxHeartbeats 4000000 in
set_option maxRecDepth 100000 in
theorem k_L_entersAfter {l : Launch} {D : va_G} {T : Nat → ClassId} {g ad : Nat → Nat} (hfl : l.stackTraces = false) {σ : St} {p1 : Int32} {p2 : Int32} (I0 : InvB σ) (hW : (f_X8_entersAfter σ p1 p2).1 ≠ 0 → w12 (f_X8_entersAfter σ p1 p2).1 ≠ 0) : mW l yL_entersAfter cL_entersAfter 5 [(0, 10, 13, 20), (0, 10, 17, 13)] rmL_entersAfter D T g 406 ad (cE (oE g T ad) σ) [.ref (ad 0), .int p1, .int p2, .ref (ad 405)] (qI D 406 ad (oE g T ad) (pI (wr w12 σ (f_X8_entersAfter σ p1 p2)) InvB)) := by
  refine mW.of (own := "NestedBellsLaw") (by decide +kernel) (Nat.le_of_ble_eq_true rfl) rfl ?_
  intro p e s m below meth c A ls H locs Z hT hN hr hlk ht hw hl
  have hx := Z.1.1
  have hb := Z.1.2.1
  have hl : lv_has ls 5 [(0, .ref (ad 0)), (1, .int p1), (2, .int p2), (3, .ref (ad 405))] := hl
  refine lv_aload_n hx hb dL_entersAfter_0 rfl (lv_at hl 3 rfl) ?_
  refine lv_iconst (v := 0) hx hb dL_entersAfter_1 (by decide +kernel) ?_
  refine lv_aload_n hx hb dL_entersAfter_2 rfl (lv_at hl 0 rfl) ?_
  refine lv_iload_n hx hb dL_entersAfter_3 rfl (lv_at hl 1 rfl) ?_
  refine lv_iload_n hx hb dL_entersAfter_4 rfl (lv_at hl 2 rfl) ?_
  refine bo_i (rest := [.int 0, .ref (ad 405)]) prtO (rxV (rest := [.int 0, .ref (ad 405)]) Z (prtO.sub hw) hT (k_X8_entersAfter hfl (p1 := p1) (p2 := p2) I0) v_X8_entersAfter q_4_123 0 (by decide) rfl rfl rfl rfl hl.1 rfl rfl (Nat.le_of_ble_eq_true rfl) ⟨Nat.le_of_ble_eq_true rfl, Nat.le_of_ble_eq_true rfl⟩ ⟨Nat.le_of_ble_eq_true rfl, Nat.le_of_ble_eq_true rfl⟩ dL_entersAfter_5) hw Z (fun k u H locs q9 ce hp hw hce hv hcl => ?_) (fun r u H locs hp hw => ?_)
  · obtain ⟨k0, kf, I1⟩ := hp
    have kf : (f_X8_entersAfter σ p1 p2) = (k, 0, u) := kf
    rw [kf] at hW
    rcases w12_k (hW k0) with rfl | rfl
    · refine vx_catch (E := exN 1) (name := "java/lang/IndexOutOfBoundsException") Z.1.2.2.2.1 [] ⟨0, 10, 13, 20⟩ [⟨0, 10, 17, 13⟩] ht (fun _ h => nomatch h) (by decide) (by decide) (Z.1.2.2.2.2 _ q_3_234) (va_Nw.use (tB_ot (tb_at 3 rfl)) (hT _ (tb_at 3 rfl))) hce hv hcl ?_
      refine lv_astore (lv' := [(4, .ref q9), (0, .ref (ad 0)), (1, .int p1), (2, .int p2), (3, .ref (ad 405))]) hx hb dL_entersAfter_13 hl (by decide) rfl (fun ls hl => ?_)
      refine lv_iconst (v := 1) hx hb dL_entersAfter_15 (by decide +kernel) ?_
      exact vx_ret (W.widen (Nat.le_of_ble_eq_true rfl) (Nat.le_of_ble_eq_true rfl) (rt_i Z hr hlk hw dL_entersAfter_16 (pI.mk (by unfold wr; rw [kf]; rfl) (mgO_inv I1))))
    · refine vx_catch (E := exN 2) (name := "java/lang/IllegalArgumentException") Z.1.2.2.2.1 [⟨0, 10, 13, 20⟩] ⟨0, 10, 17, 13⟩ [] ht (List.forall_mem_cons.mpr ⟨Or.inr ⟨by decide, "java/lang/IndexOutOfBoundsException", Z.1.2.2.2.2 _ q_3_234, hN.1⟩, fun _ h => nomatch h⟩) (by decide) (by decide) (Z.1.2.2.2.2 _ q_3_122) (va_Nw.use (tB_ot (tb_at 4 rfl)) (hT _ (tb_at 4 rfl))) hce hv hcl ?_
      refine lv_astore (lv' := [(4, .ref q9), (0, .ref (ad 0)), (1, .int p1), (2, .int p2), (3, .ref (ad 405))]) hx hb dL_entersAfter_17 hl (by decide) rfl (fun ls hl => ?_)
      refine lv_iconst (v := 2) hx hb dL_entersAfter_19 (by decide +kernel) ?_
      exact vx_ret (W.widen (Nat.le_of_ble_eq_true rfl) (Nat.le_of_ble_eq_true rfl) (rt_i Z hr hlk hw dL_entersAfter_20 (pI.mk (by unfold wr; rw [kf]; rfl) (mgO_inv I1))))
  · obtain ⟨kf, I1⟩ := hp
    have kf : (f_X8_entersAfter σ p1 p2) = (0, r, u) := kf
    refine lv_i2l (v := r.toInt64) hx hb dL_entersAfter_8 rfl ?_
    refine lO Z hw rfl dL_entersAfter_9 (fun H locs hw => ?_)
    refine lv_goto (tgt := 21) hx hb dL_entersAfter_10 (by decide) ?_
    refine lv_iconst (v := 0) hx hb dL_entersAfter_21 (by decide +kernel) ?_
    exact vx_ret (W.widen (Nat.le_of_ble_eq_true rfl) (Nat.le_of_ble_eq_true rfl) (rt_i Z hr hlk hw dL_entersAfter_22 (pI.mk (by unfold wr; rw [kf]; rfl) (oL_inv I1))))
abbrev rmL_idleAfter : Room := { frames := 8, cells := 1, slots := 6, locals := 131 }
set_option maxHeartbeats 4000000 in
set_option maxRecDepth 100000 in
theorem k_L_idleAfter {l : Launch} {D : va_G} {T : Nat → ClassId} {g ad : Nat → Nat} (hfl : l.stackTraces = false) {σ : St} {p1 : Int32} (I0 : InvB σ) (hW : (f_X8_idleAfter σ p1).1 ≠ 0 → w2 (f_X8_idleAfter σ p1).1 ≠ 0) : mW l yL_idleAfter cL_idleAfter 4 [(0, 9, 12, 13)] rmL_idleAfter D T g 406 ad (cE (oE g T ad) σ) [.ref (ad 0), .int p1, .ref (ad 405)] (qI D 406 ad (oE g T ad) (pI (wr w2 σ (f_X8_idleAfter σ p1)) InvB)) := by
  refine mW.of (own := "NestedBellsLaw") (by decide +kernel) (Nat.le_of_ble_eq_true rfl) rfl ?_
  intro p e s m below meth c A ls H locs Z hT hN hr hlk ht hw hl
  have hx := Z.1.1
  have hb := Z.1.2.1
  have hl : lv_has ls 4 [(0, .ref (ad 0)), (1, .int p1), (2, .ref (ad 405))] := hl
  refine lv_aload_n hx hb dL_idleAfter_0 rfl (lv_at hl 2 rfl) ?_
  refine lv_iconst (v := 0) hx hb dL_idleAfter_1 (by decide +kernel) ?_
  refine lv_aload_n hx hb dL_idleAfter_2 rfl (lv_at hl 0 rfl) ?_
  refine lv_iload_n hx hb dL_idleAfter_3 rfl (lv_at hl 1 rfl) ?_
  refine bo_i (rest := [.int 0, .ref (ad 405)]) prtO (rxV (rest := [.int 0, .ref (ad 405)]) Z (prtO.sub hw) hT (k_X8_idleAfter hfl (p1 := p1) I0) v_X8_idleAfter q_4_135 0 (by decide) rfl rfl rfl rfl hl.1 rfl rfl (Nat.le_of_ble_eq_true rfl) ⟨Nat.le_of_ble_eq_true rfl, Nat.le_of_ble_eq_true rfl⟩ ⟨Nat.le_of_ble_eq_true rfl, Nat.le_of_ble_eq_true rfl⟩ dL_idleAfter_4) hw Z (fun k u H locs q9 ce hp hw hce hv hcl => ?_) (fun r u H locs hp hw => ?_)
  · obtain ⟨k0, kf, I1⟩ := hp
    have kf : (f_X8_idleAfter σ p1) = (k, 0, u) := kf
    rw [kf] at hW
    rcases w2_k (hW k0) with rfl
    · refine vx_catch (E := exN 2) (name := "java/lang/IllegalArgumentException") Z.1.2.2.2.1 [] ⟨0, 9, 12, 13⟩ [] ht (fun _ h => nomatch h) (by decide) (by decide) (Z.1.2.2.2.2 _ q_3_122) (va_Nw.use (tB_ot (tb_at 4 rfl)) (hT _ (tb_at 4 rfl))) hce hv hcl ?_
      refine lv_astore_n (lv' := [(3, .ref q9), (0, .ref (ad 0)), (1, .int p1), (2, .ref (ad 405))]) hx hb dL_idleAfter_12 rfl hl (by decide) rfl (fun ls hl => ?_)
      refine lv_iconst (v := 1) hx hb dL_idleAfter_13 (by decide +kernel) ?_
      exact vx_ret (W.widen (Nat.le_of_ble_eq_true rfl) (Nat.le_of_ble_eq_true rfl) (rt_i Z hr hlk hw dL_idleAfter_14 (pI.mk (by unfold wr; rw [kf]; rfl) (mgO_inv I1))))
  · obtain ⟨kf, I1⟩ := hp
    have kf : (f_X8_idleAfter σ p1) = (0, r, u) := kf
    refine lv_i2l (v := r.toInt64) hx hb dL_idleAfter_7 rfl ?_
    refine lO Z hw rfl dL_idleAfter_8 (fun H locs hw => ?_)
    refine lv_goto (tgt := 15) hx hb dL_idleAfter_9 (by decide) ?_
    refine lv_iconst (v := 0) hx hb dL_idleAfter_15 (by decide +kernel) ?_
    exact vx_ret (W.widen (Nat.le_of_ble_eq_true rfl) (Nat.le_of_ble_eq_true rfl) (rt_i Z hr hlk hw dL_idleAfter_16 (pI.mk (by unfold wr; rw [kf]; rfl) (oL_inv I1))))
abbrev rmL_latencyIf : Room := { frames := 8, cells := 2, slots := 12, locals := 135 }
set_option maxHeartbeats 4000000 in
set_option maxRecDepth 100000 in
theorem k_L_latencyIf {l : Launch} {D : va_G} {T : Nat → ClassId} {g ad : Nat → Nat} (hfl : l.stackTraces = false) {σ : St} {p1 : Int32} {p2 : Int32} (I0 : InvB σ) (hW : (f_X8_latencyIf σ p1 p2).1 ≠ 0 → w12 (f_X8_latencyIf σ p1 p2).1 ≠ 0) : mW l yL_latencyIf cL_latencyIf 5 [(0, 10, 13, 20), (0, 10, 17, 13)] rmL_latencyIf D T g 406 ad (cE (oE g T ad) σ) [.ref (ad 0), .int p1, .int p2, .ref (ad 405)] (qI D 406 ad (oE g T ad) (pI (wr w12 σ (f_X8_latencyIf σ p1 p2)) InvB)) := by
  refine mW.of (own := "NestedBellsLaw") (by decide +kernel) (Nat.le_of_ble_eq_true rfl) rfl ?_
  intro p e s m below meth c A ls H locs Z hT hN hr hlk ht hw hl
  have hx := Z.1.1
  have hb := Z.1.2.1
  have hl : lv_has ls 5 [(0, .ref (ad 0)), (1, .int p1), (2, .int p2), (3, .ref (ad 405))] := hl
  refine lv_aload_n hx hb dL_latencyIf_0 rfl (lv_at hl 3 rfl) ?_
  refine lv_iconst (v := 0) hx hb dL_latencyIf_1 (by decide +kernel) ?_
  refine lv_aload_n hx hb dL_latencyIf_2 rfl (lv_at hl 0 rfl) ?_
  refine lv_iload_n hx hb dL_latencyIf_3 rfl (lv_at hl 1 rfl) ?_
  refine lv_iload_n hx hb dL_latencyIf_4 rfl (lv_at hl 2 rfl) ?_
  refine bo_i (rest := [.int 0, .ref (ad 405)]) prtO (rxV (rest := [.int 0, .ref (ad 405)]) Z (prtO.sub hw) hT (k_X8_latencyIf hfl (p1 := p1) (p2 := p2) I0) v_X8_latencyIf q_4_150 0 (by decide) rfl rfl rfl rfl hl.1 rfl rfl (Nat.le_of_ble_eq_true rfl) ⟨Nat.le_of_ble_eq_true rfl, Nat.le_of_ble_eq_true rfl⟩ ⟨Nat.le_of_ble_eq_true rfl, Nat.le_of_ble_eq_true rfl⟩ dL_latencyIf_5) hw Z (fun k u H locs q9 ce hp hw hce hv hcl => ?_) (fun r u H locs hp hw => ?_)
  · obtain ⟨k0, kf, I1⟩ := hp
    have kf : (f_X8_latencyIf σ p1 p2) = (k, 0, u) := kf
    rw [kf] at hW
    rcases w12_k (hW k0) with rfl | rfl
    · refine vx_catch (E := exN 1) (name := "java/lang/IndexOutOfBoundsException") Z.1.2.2.2.1 [] ⟨0, 10, 13, 20⟩ [⟨0, 10, 17, 13⟩] ht (fun _ h => nomatch h) (by decide) (by decide) (Z.1.2.2.2.2 _ q_3_234) (va_Nw.use (tB_ot (tb_at 3 rfl)) (hT _ (tb_at 3 rfl))) hce hv hcl ?_
      refine lv_astore (lv' := [(4, .ref q9), (0, .ref (ad 0)), (1, .int p1), (2, .int p2), (3, .ref (ad 405))]) hx hb dL_latencyIf_13 hl (by decide) rfl (fun ls hl => ?_)
      refine lv_iconst (v := 1) hx hb dL_latencyIf_15 (by decide +kernel) ?_
      exact vx_ret (W.widen (Nat.le_of_ble_eq_true rfl) (Nat.le_of_ble_eq_true rfl) (rt_i Z hr hlk hw dL_latencyIf_16 (pI.mk (by unfold wr; rw [kf]; rfl) (mgO_inv I1))))
    · refine vx_catch (E := exN 2) (name := "java/lang/IllegalArgumentException") Z.1.2.2.2.1 [⟨0, 10, 13, 20⟩] ⟨0, 10, 17, 13⟩ [] ht (List.forall_mem_cons.mpr ⟨Or.inr ⟨by decide, "java/lang/IndexOutOfBoundsException", Z.1.2.2.2.2 _ q_3_234, hN.1⟩, fun _ h => nomatch h⟩) (by decide) (by decide) (Z.1.2.2.2.2 _ q_3_122) (va_Nw.use (tB_ot (tb_at 4 rfl)) (hT _ (tb_at 4 rfl))) hce hv hcl ?_
      refine lv_astore (lv' := [(4, .ref q9), (0, .ref (ad 0)), (1, .int p1), (2, .int p2), (3, .ref (ad 405))]) hx hb dL_latencyIf_17 hl (by decide) rfl (fun ls hl => ?_)
      refine lv_iconst (v := 2) hx hb dL_latencyIf_19 (by decide +kernel) ?_
      exact vx_ret (W.widen (Nat.le_of_ble_eq_true rfl) (Nat.le_of_ble_eq_true rfl) (rt_i Z hr hlk hw dL_latencyIf_20 (pI.mk (by unfold wr; rw [kf]; rfl) (mgO_inv I1))))
  · obtain ⟨kf, I1⟩ := hp
    have kf : (f_X8_latencyIf σ p1 p2) = (0, r, u) := kf
    refine lv_i2l (v := r.toInt64) hx hb dL_latencyIf_8 rfl ?_
    refine lO Z hw rfl dL_latencyIf_9 (fun H locs hw => ?_)
    refine lv_goto (tgt := 21) hx hb dL_latencyIf_10 (by decide) ?_
    refine lv_iconst (v := 0) hx hb dL_latencyIf_21 (by decide +kernel) ?_
    exact vx_ret (W.widen (Nat.le_of_ble_eq_true rfl) (Nat.le_of_ble_eq_true rfl) (rt_i Z hr hlk hw dL_latencyIf_22 (pI.mk (by unfold wr; rw [kf]; rfl) (oL_inv I1))))
abbrev rmL_blocking : Room := { frames := 8, cells := 1, slots := 6, locals := 124 }
set_option maxHeartbeats 4000000 in
set_option maxRecDepth 100000 in
theorem k_L_blocking {l : Launch} {D : va_G} {T : Nat → ClassId} {g ad : Nat → Nat} (hfl : l.stackTraces = false) {σ : St} {p1 : Int32} (I0 : InvB σ) (hW : (f_X8_blocking σ p1).1 ≠ 0 → w1 (f_X8_blocking σ p1).1 ≠ 0) : mW l yL_blocking cL_blocking 4 [(0, 9, 12, 20)] rmL_blocking D T g 406 ad (cE (oE g T ad) σ) [.ref (ad 0), .int p1, .ref (ad 405)] (qI D 406 ad (oE g T ad) (pI (wr w1 σ (f_X8_blocking σ p1)) InvB)) := by
  refine mW.of (own := "NestedBellsLaw") (by decide +kernel) (Nat.le_of_ble_eq_true rfl) rfl ?_
  intro p e s m below meth c A ls H locs Z hT hN hr hlk ht hw hl
  have hx := Z.1.1
  have hb := Z.1.2.1
  have hl : lv_has ls 4 [(0, .ref (ad 0)), (1, .int p1), (2, .ref (ad 405))] := hl
  refine lv_aload_n hx hb dL_blocking_0 rfl (lv_at hl 2 rfl) ?_
  refine lv_iconst (v := 0) hx hb dL_blocking_1 (by decide +kernel) ?_
  refine lv_aload_n hx hb dL_blocking_2 rfl (lv_at hl 0 rfl) ?_
  refine lv_iload_n hx hb dL_blocking_3 rfl (lv_at hl 1 rfl) ?_
  refine bo_i (rest := [.int 0, .ref (ad 405)]) prtO (rxV (rest := [.int 0, .ref (ad 405)]) Z (prtO.sub hw) hT (k_X8_blocking hfl (p1 := p1) I0) v_X8_blocking q_4_166 0 (by decide) rfl rfl rfl rfl hl.1 rfl rfl (Nat.le_of_ble_eq_true rfl) ⟨Nat.le_of_ble_eq_true rfl, Nat.le_of_ble_eq_true rfl⟩ ⟨Nat.le_of_ble_eq_true rfl, Nat.le_of_ble_eq_true rfl⟩ dL_blocking_4) hw Z (fun k u H locs q9 ce hp hw hce hv hcl => ?_) (fun r u H locs hp hw => ?_)
  · obtain ⟨k0, kf, I1⟩ := hp
    have kf : (f_X8_blocking σ p1) = (k, 0, u) := kf
    rw [kf] at hW
    rcases w1_k (hW k0) with rfl
    · refine vx_catch (E := exN 1) (name := "java/lang/IndexOutOfBoundsException") Z.1.2.2.2.1 [] ⟨0, 9, 12, 20⟩ [] ht (fun _ h => nomatch h) (by decide) (by decide) (Z.1.2.2.2.2 _ q_3_234) (va_Nw.use (tB_ot (tb_at 3 rfl)) (hT _ (tb_at 3 rfl))) hce hv hcl ?_
      refine lv_astore_n (lv' := [(3, .ref q9), (0, .ref (ad 0)), (1, .int p1), (2, .ref (ad 405))]) hx hb dL_blocking_12 rfl hl (by decide) rfl (fun ls hl => ?_)
      refine lv_iconst (v := 1) hx hb dL_blocking_13 (by decide +kernel) ?_
      exact vx_ret (W.widen (Nat.le_of_ble_eq_true rfl) (Nat.le_of_ble_eq_true rfl) (rt_i Z hr hlk hw dL_blocking_14 (pI.mk (by unfold wr; rw [kf]; rfl) (mgO_inv I1))))
  · obtain ⟨kf, I1⟩ := hp
    have kf : (f_X8_blocking σ p1) = (0, r, u) := kf
    refine lv_i2l (v := r.toInt64) hx hb dL_blocking_7 rfl ?_
    refine lO Z hw rfl dL_blocking_8 (fun H locs hw => ?_)
    refine lv_goto (tgt := 15) hx hb dL_blocking_9 (by decide) ?_
    refine lv_iconst (v := 0) hx hb dL_blocking_15 (by decide +kernel) ?_
    exact vx_ret (W.widen (Nat.le_of_ble_eq_true rfl) (Nat.le_of_ble_eq_true rfl) (rt_i Z hr hlk hw dL_blocking_16 (pI.mk (by unfold wr; rw [kf]; rfl) (oL_inv I1))))
abbrev rmL_type : Room := { frames := 8, cells := 2, slots := 12, locals := 123 }
set_option maxHeartbeats 4000000 in
set_option maxRecDepth 100000 in
theorem k_L_type {l : Launch} {D : va_G} {T : Nat → ClassId} {g ad : Nat → Nat} (hfl : l.stackTraces = false) {σ : St} {p1 : Int32} (I0 : InvB σ) (hW : (f_X8_type σ p1).1 ≠ 0 → w23 (f_X8_type σ p1).1 ≠ 0) : mW l yL_type cL_type 4 [(0, 9, 12, 13), (0, 9, 15, 15)] rmL_type D T g 406 ad (cE (oE g T ad) σ) [.ref (ad 0), .int p1, .ref (ad 405)] (qI D 406 ad (oE g T ad) (pI (wr w23 σ (f_X8_type σ p1)) InvB)) := by
  refine mW.of (own := "NestedBellsLaw") (by decide +kernel) (Nat.le_of_ble_eq_true rfl) rfl ?_
  intro p e s m below meth c A ls H locs Z hT hN hr hlk ht hw hl
  have hx := Z.1.1
  have hb := Z.1.2.1
  have hl : lv_has ls 4 [(0, .ref (ad 0)), (1, .int p1), (2, .ref (ad 405))] := hl
  refine lv_aload_n hx hb dL_type_0 rfl (lv_at hl 2 rfl) ?_
  refine lv_iconst (v := 0) hx hb dL_type_1 (by decide +kernel) ?_
  refine lv_aload_n hx hb dL_type_2 rfl (lv_at hl 0 rfl) ?_
  refine lv_iload_n hx hb dL_type_3 rfl (lv_at hl 1 rfl) ?_
  refine bo_i (rest := [.int 0, .ref (ad 405)]) prtO (rxV (rest := [.int 0, .ref (ad 405)]) Z (prtO.sub hw) hT (k_X8_type hfl (p1 := p1) I0) v_X8_type q_4_185 0 (by decide) rfl rfl rfl rfl hl.1 rfl rfl (Nat.le_of_ble_eq_true rfl) ⟨Nat.le_of_ble_eq_true rfl, Nat.le_of_ble_eq_true rfl⟩ ⟨Nat.le_of_ble_eq_true rfl, Nat.le_of_ble_eq_true rfl⟩ dL_type_4) hw Z (fun k u H locs q9 ce hp hw hce hv hcl => ?_) (fun r u H locs hp hw => ?_)
  · obtain ⟨k0, kf, I1⟩ := hp
    have kf : (f_X8_type σ p1) = (k, 0, u) := kf
    rw [kf] at hW
    rcases w23_k (hW k0) with rfl | rfl
    · refine vx_catch (E := exN 2) (name := "java/lang/IllegalArgumentException") Z.1.2.2.2.1 [] ⟨0, 9, 12, 13⟩ [⟨0, 9, 15, 15⟩] ht (fun _ h => nomatch h) (by decide) (by decide) (Z.1.2.2.2.2 _ q_3_122) (va_Nw.use (tB_ot (tb_at 4 rfl)) (hT _ (tb_at 4 rfl))) hce hv hcl ?_
      refine lv_astore_n (lv' := [(3, .ref q9), (0, .ref (ad 0)), (1, .int p1), (2, .ref (ad 405))]) hx hb dL_type_12 rfl hl (by decide) rfl (fun ls hl => ?_)
      refine lv_iconst (v := 1) hx hb dL_type_13 (by decide +kernel) ?_
      exact vx_ret (W.widen (Nat.le_of_ble_eq_true rfl) (Nat.le_of_ble_eq_true rfl) (rt_i Z hr hlk hw dL_type_14 (pI.mk (by unfold wr; rw [kf]; rfl) (mgO_inv I1))))
    · refine vx_catch (E := exN 3) (name := "java/lang/IllegalStateException") Z.1.2.2.2.1 [⟨0, 9, 12, 13⟩] ⟨0, 9, 15, 15⟩ [] ht (List.forall_mem_cons.mpr ⟨Or.inr ⟨by decide, "java/lang/IllegalArgumentException", Z.1.2.2.2.2 _ q_3_122, hN.2.2⟩, fun _ h => nomatch h⟩) (by decide) (by decide) (Z.1.2.2.2.2 _ q_3_123) (va_Nw.use (tB_ot (tb_at 5 rfl)) (hT _ (tb_at 5 rfl))) hce hv hcl ?_
      refine lv_astore_n (lv' := [(3, .ref q9), (0, .ref (ad 0)), (1, .int p1), (2, .ref (ad 405))]) hx hb dL_type_15 rfl hl (by decide) rfl (fun ls hl => ?_)
      refine lv_iconst (v := 2) hx hb dL_type_16 (by decide +kernel) ?_
      exact vx_ret (W.widen (Nat.le_of_ble_eq_true rfl) (Nat.le_of_ble_eq_true rfl) (rt_i Z hr hlk hw dL_type_17 (pI.mk (by unfold wr; rw [kf]; rfl) (mgO_inv I1))))
  · obtain ⟨kf, I1⟩ := hp
    have kf : (f_X8_type σ p1) = (0, r, u) := kf
    refine lv_i2l (v := r.toInt64) hx hb dL_type_7 rfl ?_
    refine lO Z hw rfl dL_type_8 (fun H locs hw => ?_)
    refine lv_goto (tgt := 18) hx hb dL_type_9 (by decide) ?_
    refine lv_iconst (v := 0) hx hb dL_type_18 (by decide +kernel) ?_
    exact vx_ret (W.widen (Nat.le_of_ble_eq_true rfl) (Nat.le_of_ble_eq_true rfl) (rt_i Z hr hlk hw dL_type_19 (pI.mk (by unfold wr; rw [kf]; rfl) (oL_inv I1))))
abbrev rmL_undo : Room := { frames := 7, cells := 1, slots := 6, locals := 124 }
set_option maxHeartbeats 4000000 in
set_option maxRecDepth 100000 in
theorem k_L_undo {l : Launch} {D : va_G} {T : Nat → ClassId} {g ad : Nat → Nat} (hfl : l.stackTraces = false) {σ : St} (I0 : InvB σ) (hW : (f_X8_undo σ).1 ≠ 0 → w3 (f_X8_undo σ).1 ≠ 0) : mW l yL_undo cL_undo 3 [(0, 8, 11, 15)] rmL_undo D T g 406 ad (cE (oE g T ad) σ) [.ref (ad 0), .ref (ad 405)] (qI D 406 ad (oE g T ad) (pI (wr w3 σ (f_X8_undo σ)) InvB)) := by
  refine mW.of (own := "NestedBellsLaw") (by decide +kernel) (Nat.le_of_ble_eq_true rfl) rfl ?_
  intro p e s m below meth c A ls H locs Z hT hN hr hlk ht hw hl
  have hx := Z.1.1
  have hb := Z.1.2.1
  have hl : lv_has ls 3 [(0, .ref (ad 0)), (1, .ref (ad 405))] := hl
  refine lv_aload_n hx hb dL_undo_0 rfl (lv_at hl 1 rfl) ?_
  refine lv_iconst (v := 0) hx hb dL_undo_1 (by decide +kernel) ?_
  refine lv_aload_n hx hb dL_undo_2 rfl (lv_at hl 0 rfl) ?_
  refine bo_i (rest := [.int 0, .ref (ad 405)]) prtO (rxV (rest := [.int 0, .ref (ad 405)]) Z (prtO.sub hw) hT (k_X8_undo hfl I0) v_X8_undo q_4_197 0 (by decide) rfl rfl rfl rfl hl.1 rfl rfl (Nat.le_of_ble_eq_true rfl) ⟨Nat.le_of_ble_eq_true rfl, Nat.le_of_ble_eq_true rfl⟩ ⟨Nat.le_of_ble_eq_true rfl, Nat.le_of_ble_eq_true rfl⟩ dL_undo_3) hw Z (fun k u H locs q9 ce hp hw hce hv hcl => ?_) (fun r u H locs hp hw => ?_)
  · obtain ⟨k0, kf, I1⟩ := hp
    have kf : (f_X8_undo σ) = (k, 0, u) := kf
    rw [kf] at hW
    rcases w3_k (hW k0) with rfl
    · refine vx_catch (E := exN 3) (name := "java/lang/IllegalStateException") Z.1.2.2.2.1 [] ⟨0, 8, 11, 15⟩ [] ht (fun _ h => nomatch h) (by decide) (by decide) (Z.1.2.2.2.2 _ q_3_123) (va_Nw.use (tB_ot (tb_at 5 rfl)) (hT _ (tb_at 5 rfl))) hce hv hcl ?_
      refine lv_astore_n (lv' := [(2, .ref q9), (0, .ref (ad 0)), (1, .ref (ad 405))]) hx hb dL_undo_11 rfl hl (by decide) rfl (fun ls hl => ?_)
      refine lv_iconst (v := 1) hx hb dL_undo_12 (by decide +kernel) ?_
      exact vx_ret (W.widen (Nat.le_of_ble_eq_true rfl) (Nat.le_of_ble_eq_true rfl) (rt_i Z hr hlk hw dL_undo_13 (pI.mk (by unfold wr; rw [kf]; rfl) (mgO_inv I1))))
  · obtain ⟨kf, I1⟩ := hp
    have kf : (f_X8_undo σ) = (0, r, u) := kf
    refine lv_i2l (v := r.toInt64) hx hb dL_undo_6 rfl ?_
    refine lO Z hw rfl dL_undo_7 (fun H locs hw => ?_)
    refine lv_goto (tgt := 14) hx hb dL_undo_8 (by decide) ?_
    refine lv_iconst (v := 0) hx hb dL_undo_14 (by decide +kernel) ?_
    exact vx_ret (W.widen (Nat.le_of_ble_eq_true rfl) (Nat.le_of_ble_eq_true rfl) (rt_i Z hr hlk hw dL_undo_15 (pI.mk (by unfold wr; rw [kf]; rfl) (oL_inv I1))))
