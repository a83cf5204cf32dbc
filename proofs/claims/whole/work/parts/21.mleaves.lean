abbrev rmX9_in : Room := { frames := 0, cells := 0, slots := 0, locals := 0 }
def f_X9_in (p1 : Int32) (p2 : Int32) (p3 : Int32) : Int32 := (if p1 < p2 then 0 else (if p3 < p1 then 0 else 1))
theorem v_X9_in : cvS yX9_in cX9_in 3 (some (.boolean)) 3 := ⟨q_5_30, q_1_10, q_5_31, by decide +kernel, by decide +kernel, by decide +kernel⟩
set_option maxHeartbeats 4000000 in
set_option maxRecDepth 100000 in
theorem k_X9_in {l : Launch} {D : va_G} {T : Nat → ClassId} {g ad : Nat → Nat} {N : Nat} {E : Nat → (Nat → Int32) → va_E} {σ : St} {p1 : Int32} {p2 : Int32} {p3 : Int32} : mX l yX9_in cX9_in 3 (some (.boolean)) rmX9_in D T g N ad (cE E σ) [.int p1, .int p2, .int p3] (qI D N ad E (pR (f_X9_in p1 p2 p3) σ)) := by
  refine mX.of (own := "NestedBellsModel") (by decide +kernel) (Nat.le_of_ble_eq_true rfl) rfl ?_
  intro p e s m below meth c A ls H locs Z hr hlk _ hw hl
  have hx := Z.1.1
  have hb := Z.1.2.1
  have hl : lv_has ls 3 [(0, .int p1), (1, .int p2), (2, .int p3)] := hl
  refine lv_iload_n hx hb dX9_in_0 rfl (lv_at hl 0 rfl) ?_
  refine lv_iload_n hx hb dX9_in_1 rfl (lv_at hl 1 rfl) ?_
  refine lv_icmp_lt (tgt := 14) hx hb dX9_in_2 (by decide) (fun c2 => ?_) (fun c2 => ?_)
  · refine lv_iconst (v := 0) hx hb dX9_in_14 (by decide +kernel) ?_
    exact rt_z Z hr hlk hw rfl dX9_in_15 ⟨Eq.symm (lf_t c2 rfl), rfl⟩
  · refine lv_iload_n hx hb dX9_in_5 rfl (lv_at hl 0 rfl) ?_
    refine lv_iload_n hx hb dX9_in_6 rfl (lv_at hl 2 rfl) ?_
    refine lv_icmp_gt (tgt := 14) hx hb dX9_in_7 (by decide) (fun c7 => ?_) (fun c7 => ?_)
    · refine lv_iconst (v := 0) hx hb dX9_in_14 (by decide +kernel) ?_
      exact rt_z Z hr hlk hw rfl dX9_in_15 ⟨Eq.symm (lf_f c2 (lf_t c7 rfl)), rfl⟩
    · refine lv_iconst (v := 1) hx hb dX9_in_10 (by decide +kernel) ?_
      refine lv_goto (tgt := 15) hx hb dX9_in_11 (by decide) ?_
      exact rt_z Z hr hlk hw rfl dX9_in_15 ⟨Eq.symm (lf_f c2 (lf_f c7 rfl)), rfl⟩
abbrev rmX9_at : Room := { frames := 0, cells := 0, slots := 0, locals := 0 }
def f_X9_at (p1 : Int32) : Int32 := 93 + (24 * p1)
theorem v_X9_at : cvS yX9_at cX9_at 1 (some (.int)) 1 := ⟨q_5_41, q_1_10, q_5_42, by decide +kernel, by decide +kernel, by decide +kernel⟩
set_option maxHeartbeats 4000000 in
set_option maxRecDepth 100000 in
theorem k_X9_at {l : Launch} {D : va_G} {T : Nat → ClassId} {g ad : Nat → Nat} {N : Nat} {E : Nat → (Nat → Int32) → va_E} {σ : St} {p1 : Int32} : mX l yX9_at cX9_at 1 (some (.int)) rmX9_at D T g N ad (cE E σ) [.int p1] (qI D N ad E (pR (f_X9_at p1) σ)) := by
  refine mX.of (own := "NestedBellsModel") (by decide +kernel) (Nat.le_of_ble_eq_true rfl) rfl ?_
  intro p e s m below meth c A ls H locs Z hr hlk _ hw hl
  have hx := Z.1.1
  have hb := Z.1.2.1
  have hl : lv_has ls 1 [(0, .int p1)] := hl
  refine lv_bipush (v := 93) hx hb dX9_at_0 (by decide +kernel) ?_
  refine lv_bipush (v := 24) hx hb dX9_at_2 (by decide +kernel) ?_
  refine lv_iload_n hx hb dX9_at_4 rfl (lv_at hl 0 rfl) ?_
  refine lv_imul hx hb dX9_at_5 ?_
  refine lv_iadd hx hb dX9_at_6 ?_
  exact rt_i Z hr hlk hw dX9_at_7 ⟨Eq.symm rfl, rfl⟩
abbrev rmX9_greater : Room := { frames := 0, cells := 0, slots := 0, locals := 0 }
def f_X9_greater (p1 : Int32) (p2 : Int32) : Int32 := (if p1 ≤ p2 then p2 else p1)
theorem v_X9_greater : cvS yX9_greater cX9_greater 2 (some (.int)) 2 := ⟨q_5_176, q_1_10, q_5_177, by decide +kernel, by decide +kernel, by decide +kernel⟩
set_option maxHeartbeats 4000000 in
set_option maxRecDepth 100000 in
theorem k_X9_greater {l : Launch} {D : va_G} {T : Nat → ClassId} {g ad : Nat → Nat} {N : Nat} {E : Nat → (Nat → Int32) → va_E} {σ : St} {p1 : Int32} {p2 : Int32} : mX l yX9_greater cX9_greater 2 (some (.int)) rmX9_greater D T g N ad (cE E σ) [.int p1, .int p2] (qI D N ad E (pR (f_X9_greater p1 p2) σ)) := by
  refine mX.of (own := "NestedBellsModel") (by decide +kernel) (Nat.le_of_ble_eq_true rfl) rfl ?_
  intro p e s m below meth c A ls H locs Z hr hlk _ hw hl
  have hx := Z.1.1
  have hb := Z.1.2.1
  have hl : lv_has ls 2 [(0, .int p1), (1, .int p2)] := hl
  refine lv_iload_n hx hb dX9_greater_0 rfl (lv_at hl 0 rfl) ?_
  refine lv_iload_n hx hb dX9_greater_1 rfl (lv_at hl 1 rfl) ?_
  refine lv_icmp_le (tgt := 9) hx hb dX9_greater_2 (by decide) (fun c2 => ?_) (fun c2 => ?_)
  · refine lv_iload_n hx hb dX9_greater_9 rfl (lv_at hl 1 rfl) ?_
    exact rt_i Z hr hlk hw dX9_greater_10 ⟨Eq.symm (lf_t c2 rfl), rfl⟩
  · refine lv_iload_n hx hb dX9_greater_5 rfl (lv_at hl 0 rfl) ?_
    refine lv_goto (tgt := 10) hx hb dX9_greater_6 (by decide) ?_
    exact rt_i Z hr hlk hw dX9_greater_10 ⟨Eq.symm (lf_f c2 rfl), rfl⟩
theorem in_nar {a b c r : Int32} (er : f_X9_in a b c = r) : narrow .boolean (.int r) = .int r := by
  subst er
  unfold f_X9_in
  split <;> (try split) <;> rfl
theorem in_of {v lo hi r : Int32} (er : f_X9_in v lo hi = r) (h : ¬ r = 0) : lo.toInt ≤ v.toInt ∧ v.toInt ≤ hi.toInt := by
  unfold f_X9_in at er
  by_cases c1 : v < lo
  · rw [if_pos c1] at er; exact absurd er.symm h
  · rw [if_neg c1] at er
    by_cases c2 : hi < v
    · rw [if_pos c2] at er; exact absurd er.symm h
    · rw [i32_lt] at c1 c2; omega
theorem kb_nle {k b : Nat} (h : ¬ nI k ≤ nI b) (hk : k < 2 ^ 31) (hb : b < 2 ^ 31) : b < k := by
  rw [i32_le, nI_toInt hk, nI_toInt hb] at h
  omega
theorem kc_ge {x : Int32} {k : Nat} (h : ¬ x ≤ nI k) (hk : k < 2 ^ 31) : (k : Int) < x.toInt := by
  rw [i32_le, nI_toInt hk] at h
  omega
theorem ev_eq {k : Nat} (h : k ≤ 59) : 23 + nI k - 3 = nI (20 + k) := by
  rw [show (23 : Int32) = nI 23 from rfl, show (3 : Int32) = nI 3 from rfl, nI_add, pk_sub (by omega)]
  congr 1
  omega
theorem ev_ix {k : Nat} (h : k ≤ 59) : (23 + nI k - 3).toNatClampNeg = 20 + k := by rw [ev_eq h, nI_clamp (by omega)]
theorem ev_vp {k : Nat} (h : k ≤ 59) : vp_in (23 + nI k - 3) 381 := by rw [ev_eq h]; exact vp_in_nI (by omega) (by decide)
theorem InvR.ev {ρ : Nat → Int32} {v : Int32} (I : InvR ρ) (h : 0 ≤ v.toInt ∧ v.toInt ≤ 20) : InvR (upd ρ 22 v) := by
  obtain ⟨q1, q2, q3, q4, q5, q6, q7⟩ := I
  have q : ∀ y, y ≠ 22 → upd ρ 22 v y = ρ y := fun y h9 => upd_n h9
  refine ⟨?_, ?_, ?_, fun k hk => ?_, fun j k hj hk => ?_, fun h1 => ?_, fun s hs2 => ?_⟩
  · rw [q 8 (by decide)]; exact q1
  · rw [q 9 (by decide)]; exact q2
  · rw [upd_s]; exact h
  · rw [q 9 (by decide)] at hk
    rw [q 8 (by decide), q (10 + k) (by omega)]; exact q4 k hk
  · rw [q 9 (by decide)] at hk
    rw [q (10 + k) (by omega), q (10 + j) (by omega)]; exact q5 j k hj hk
  · rw [q 5 (by decide)] at h1
    rw [q 6 (by decide), q 8 (by decide), q 9 (by decide)]
    exact ⟨(q6 h1).1, fun k hk => by rw [q (10 + k) (by omega)]; exact (q6 h1).2 k hk⟩
  · rw [q (100 + 24 * s) (by omega)]; exact q7 s hs2
theorem InvD.ev {σ : St} {v : Int32} (h : 0 ≤ v.toInt ∧ v.toInt ≤ 20) (I : InvD σ) : InvD (up2 σ 1 22 v) := I.up1 (I.1.ev h)
theorem ev_in {x v : Int32} (h : 0 ≤ x.toInt ∧ x.toInt ≤ 20) (e : (if 20 ≤ x then 0 else 1) = v) : 0 ≤ (x + v).toInt ∧ (x + v).toInt ≤ 20 := by
  subst e
  split
  · rw [Int32.add_zero]; exact h
  · next c => exact inc_to h.1 c (by decide) (by decide)

abbrev rmX9_isValue : Room := { frames := 1, cells := 0, slots := 0, locals := 22 }
def f_X9_isValue (p1 : Int32) (p2 : Int32) : Int32 := (if p1 = 0 then (let r32 := f_X9_in p2 1 15; r32) else (if p1 = 1 then (let r41 := f_X9_in p2 1 500; r41) else (if p1 = 2 then (let r53 := f_X9_in p2 0 1; (if r53 = 0 then 0 else 1)) else 0)))
theorem v_X9_isValue : cvS yX9_isValue cX9_isValue 2 (some (.boolean)) 2 := ⟨q_5_52, q_1_10, q_5_53, by decide +kernel, by decide +kernel, by decide +kernel⟩
set_option maxHeartbeats 4000000 in
set_option maxRecDepth 100000 in
theorem k_X9_isValue {l : Launch} {D : va_G} {T : Nat → ClassId} {g ad : Nat → Nat} {N : Nat} {E : Nat → (Nat → Int32) → va_E} {σ : St} {p1 : Int32} {p2 : Int32} : mX l yX9_isValue cX9_isValue 2 (some (.boolean)) rmX9_isValue D T g N ad (cE E σ) [.int p1, .int p2] (qI D N ad E (pR (f_X9_isValue p1 p2) σ)) := by
  refine mX.of (own := "NestedBellsModel") (by decide +kernel) (Nat.le_of_ble_eq_true rfl) rfl ?_
  intro p e s m below meth c A ls H locs Z hr hlk _ hw hl
  have hx := Z.1.1
  have hb := Z.1.2.1
  have hl : lv_has ls 2 [(0, .int p1), (1, .int p2)] := hl
  refine lv_iload_n hx hb dX9_isValue_0 rfl (lv_at hl 0 rfl) ?_
  rcases Decidable.em (p1 = 0) with c1_0 | c1_0
  · refine lv_lookup (off := 27) (tgt := 28) hx hb dX9_isValue_1 (by decide) (by rw [c1_0]; rfl) (by decide) ?_
    refine lv_iload_n hx hb dX9_isValue_28 rfl (lv_at hl 1 rfl) ?_
    refine lv_iconst (v := 1) hx hb dX9_isValue_29 (by decide +kernel) ?_
    refine lv_bipush (v := 15) hx hb dX9_isValue_30 (by decide +kernel) ?_
    refine bk_ip (rnS (rest := []) Z hw (k_X9_in (p1 := p2) (p2 := 1) (p3 := 15) ) v_X9_in rfl q_5_29 hl.1 rfl rfl (Nat.le_of_ble_eq_true rfl) ⟨(Nat.le_of_ble_eq_true rfl), (Nat.le_of_ble_eq_true rfl)⟩ ⟨(Nat.le_of_ble_eq_true rfl), (Nat.le_of_ble_eq_true rfl)⟩ dX9_isValue_32) hw Z (fun r32 er32 H locs hw => ?_)
    exact rt_z Z hr hlk hw (in_nar er32) dX9_isValue_35 ⟨Eq.symm (by subst er32; exact (lf_t c1_0 rfl)), rfl⟩
  · rcases Decidable.em (p1 = 1) with c1_1 | c1_1
    · refine lv_lookup (off := 35) (tgt := 36) hx hb dX9_isValue_1 (by decide) (by rw [c1_1]; rfl) (by decide) ?_
      refine lv_iload_n hx hb dX9_isValue_36 rfl (lv_at hl 1 rfl) ?_
      refine lv_iconst (v := 1) hx hb dX9_isValue_37 (by decide +kernel) ?_
      refine lv_sipush (v := 500) hx hb dX9_isValue_38 (by decide +kernel) ?_
      refine bk_ip (rnS (rest := []) Z hw (k_X9_in (p1 := p2) (p2 := 1) (p3 := 500) ) v_X9_in rfl q_5_29 hl.1 rfl rfl (Nat.le_of_ble_eq_true rfl) ⟨(Nat.le_of_ble_eq_true rfl), (Nat.le_of_ble_eq_true rfl)⟩ ⟨(Nat.le_of_ble_eq_true rfl), (Nat.le_of_ble_eq_true rfl)⟩ dX9_isValue_41) hw Z (fun r41 er41 H locs hw => ?_)
      exact rt_z Z hr hlk hw (in_nar er41) dX9_isValue_44 ⟨Eq.symm (by subst er41; exact (lf_f c1_0 (lf_t c1_1 rfl))), rfl⟩
    · refine lv_lookup (off := 44) (tgt := 45) hx hb dX9_isValue_1 (by decide) (by show Op.lookupswitch.offset [(0, 27), (1, 35)] _ _ = _; rw [lv_osw c1_0 (by decide +kernel), lv_osw c1_1 (by decide +kernel)]; rfl) (by decide) ?_
      refine lv_iload_n hx hb dX9_isValue_45 rfl (lv_at hl 0 rfl) ?_
      refine lv_iconst (v := 2) hx hb dX9_isValue_46 (by decide +kernel) ?_
      refine lv_icmp_ne (tgt := 63) hx hb dX9_isValue_47 (by decide) (fun c47 => ?_) (fun c47 => ?_)
      · refine lv_iconst (v := 0) hx hb dX9_isValue_63 (by decide +kernel) ?_
        exact rt_z Z hr hlk hw rfl dX9_isValue_64 ⟨Eq.symm (lf_f c1_0 (lf_f c1_1 (lf_f c47 rfl))), rfl⟩
      · refine lv_iload_n hx hb dX9_isValue_50 rfl (lv_at hl 1 rfl) ?_
        refine lv_iconst (v := 0) hx hb dX9_isValue_51 (by decide +kernel) ?_
        refine lv_iconst (v := 1) hx hb dX9_isValue_52 (by decide +kernel) ?_
        refine bk_ip (rnS (rest := []) Z hw (k_X9_in (p1 := p2) (p2 := 0) (p3 := 1) ) v_X9_in rfl q_5_29 hl.1 rfl rfl (Nat.le_of_ble_eq_true rfl) ⟨(Nat.le_of_ble_eq_true rfl), (Nat.le_of_ble_eq_true rfl)⟩ ⟨(Nat.le_of_ble_eq_true rfl), (Nat.le_of_ble_eq_true rfl)⟩ dX9_isValue_53) hw Z (fun r53 er53 H locs hw => ?_)
        refine lv_if_eq (tgt := 63) hx hb dX9_isValue_56 (by decide) (fun c56 => ?_) (fun c56 => ?_)
        · refine lv_iconst (v := 0) hx hb dX9_isValue_63 (by decide +kernel) ?_
          exact rt_z Z hr hlk hw rfl dX9_isValue_64 ⟨Eq.symm (by subst er53; exact (lf_f c1_0 (lf_f c1_1 (lf_t c47 (lf_t c56 rfl))))), rfl⟩
        · refine lv_iconst (v := 1) hx hb dX9_isValue_59 (by decide +kernel) ?_
          refine lv_goto (tgt := 64) hx hb dX9_isValue_60 (by decide) ?_
          exact rt_z Z hr hlk hw rfl dX9_isValue_64 ⟨Eq.symm (by subst er53; exact (lf_f c1_0 (lf_f c1_1 (lf_t c47 (lf_f c56 rfl))))), rfl⟩
abbrev rmX9_badSet : Room := { frames := 1, cells := 0, slots := 0, locals := 22 }
def f_X9_badSet (p1 : Int32) (p2 : Int32) : Int32 := (let r3 := f_X9_in p1 0 3; (if r3 = 0 then 2 else (let v22 : Int32 := (if p1 = 0 then 15 else 50); (let r22 := f_X9_in p2 0 v22; (if r22 = 0 then 2 else 0)))))
theorem v_X9_badSet : cvS yX9_badSet cX9_badSet 2 (some (.int)) 2 := ⟨q_5_130, q_1_10, q_5_131, by decide +kernel, by decide +kernel, by decide +kernel⟩
set_option maxHeartbeats 4000000 in
set_option maxRecDepth 100000 in
theorem k_X9_badSet {l : Launch} {D : va_G} {T : Nat → ClassId} {g ad : Nat → Nat} {N : Nat} {E : Nat → (Nat → Int32) → va_E} {σ : St} {p1 : Int32} {p2 : Int32} : mX l yX9_badSet cX9_badSet 2 (some (.int)) rmX9_badSet D T g N ad (cE E σ) [.int p1, .int p2] (qI D N ad E (pR (f_X9_badSet p1 p2) σ)) := by
  refine mX.of (own := "NestedBellsModel") (by decide +kernel) (Nat.le_of_ble_eq_true rfl) rfl ?_
  intro p e s m below meth c A ls H locs Z hr hlk _ hw hl
  have hx := Z.1.1
  have hb := Z.1.2.1
  have hl : lv_has ls 2 [(0, .int p1), (1, .int p2)] := hl
  refine lv_iload_n hx hb dX9_badSet_0 rfl (lv_at hl 0 rfl) ?_
  refine lv_iconst (v := 0) hx hb dX9_badSet_1 (by decide +kernel) ?_
  refine lv_iconst (v := 3) hx hb dX9_badSet_2 (by decide +kernel) ?_
  refine bk_ip (rnS (rest := []) Z hw (k_X9_in (p1 := p1) (p2 := 0) (p3 := 3) ) v_X9_in rfl q_5_29 hl.1 rfl rfl (Nat.le_of_ble_eq_true rfl) ⟨(Nat.le_of_ble_eq_true rfl), (Nat.le_of_ble_eq_true rfl)⟩ ⟨(Nat.le_of_ble_eq_true rfl), (Nat.le_of_ble_eq_true rfl)⟩ dX9_badSet_3) hw Z (fun r3 er3 H locs hw => ?_)
  refine lv_if_eq (tgt := 32) hx hb dX9_badSet_6 (by decide) (fun c6 => ?_) (fun c6 => ?_)
  · refine lv_iconst (v := 2) hx hb dX9_badSet_32 (by decide +kernel) ?_
    exact rt_i Z hr hlk hw dX9_badSet_33 ⟨Eq.symm (by subst er3; exact (lf_t c6 rfl)), rfl⟩
  · refine lv_iload_n hx hb dX9_badSet_9 rfl (lv_at hl 1 rfl) ?_
    refine lv_iconst (v := 0) hx hb dX9_badSet_10 (by decide +kernel) ?_
    refine lv_iload_n hx hb dX9_badSet_11 rfl (lv_at hl 0 rfl) ?_
    have hj22 : ∀ (v22 : Int32) (H : Heap) (locs : List Loc) (ls : Array Slot), ((if p1 = 0 then 15 else 50) : Int32) = v22 → wo D A s.heap N ad (cE E σ) H locs → lv_has ls 2 [] → W p l e rmX9_badSet s m [.int p1, .int p2].toArray below meth c H locs 0 0 (MQ below (qI D N ad E (pR (f_X9_badSet p1 p2) σ) A) [.int p1, .int p2].toArray s rmX9_badSet.cells rmX9_badSet.slots A) (F0 m 22 ls [.int v22, .int 0, .int p2]) := by
      intro v22 H locs ls ev22 hw hl
      refine bk_ip (rnS (rest := []) Z hw (k_X9_in (p1 := p2) (p2 := 0) (p3 := v22) ) v_X9_in rfl q_5_29 hl.1 rfl rfl (Nat.le_of_ble_eq_true rfl) ⟨(Nat.le_of_ble_eq_true rfl), (Nat.le_of_ble_eq_true rfl)⟩ ⟨(Nat.le_of_ble_eq_true rfl), (Nat.le_of_ble_eq_true rfl)⟩ dX9_badSet_22) hw Z (fun r22 er22 H locs hw => ?_)
      refine lv_if_eq (tgt := 32) hx hb dX9_badSet_25 (by decide) (fun c25 => ?_) (fun c25 => ?_)
      · refine lv_iconst (v := 2) hx hb dX9_badSet_32 (by decide +kernel) ?_
        exact rt_i Z hr hlk hw dX9_badSet_33 ⟨Eq.symm (by subst er22 ev22 er3; exact (lf_f c6 (lf_t c25 rfl))), rfl⟩
      · refine lv_iconst (v := 0) hx hb dX9_badSet_28 (by decide +kernel) ?_
        refine lv_goto (tgt := 33) hx hb dX9_badSet_29 (by decide) ?_
        exact rt_i Z hr hlk hw dX9_badSet_33 ⟨Eq.symm (by subst er22 ev22 er3; exact (lf_f c6 (lf_f c25 rfl))), rfl⟩
    refine lv_if_ne (tgt := 20) hx hb dX9_badSet_12 (by decide) (fun c12 => ?_) (fun c12 => ?_)
    · refine lv_bipush (v := 50) hx hb dX9_badSet_20 (by decide +kernel) ?_
      exact hj22 _ H locs ls (Eq.symm (lf_f c12 rfl)) hw (lv_sub hl [] rfl)
    · refine lv_bipush (v := 15) hx hb dX9_badSet_15 (by decide +kernel) ?_
      refine lv_goto (tgt := 22) hx hb dX9_badSet_17 (by decide) ?_
      exact hj22 _ H locs ls (Eq.symm (lf_t c12 rfl)) hw (lv_sub hl [] rfl)
abbrev rmX9_badRun : Room := { frames := 1, cells := 0, slots := 0, locals := 22 }
def f_X9_badRun (p1 : Int32) : Int32 := (let r5 := f_X9_in p1 1 500; (if r5 = 0 then 2 else 0))
theorem v_X9_badRun : cvS yX9_badRun cX9_badRun 1 (some (.int)) 1 := ⟨q_5_141, q_1_10, q_5_142, by decide +kernel, by decide +kernel, by decide +kernel⟩
set_option maxHeartbeats 4000000 in
set_option maxRecDepth 100000 in
theorem k_X9_badRun {l : Launch} {D : va_G} {T : Nat → ClassId} {g ad : Nat → Nat} {N : Nat} {E : Nat → (Nat → Int32) → va_E} {σ : St} {p1 : Int32} : mX l yX9_badRun cX9_badRun 1 (some (.int)) rmX9_badRun D T g N ad (cE E σ) [.int p1] (qI D N ad E (pR (f_X9_badRun p1) σ)) := by
  refine mX.of (own := "NestedBellsModel") (by decide +kernel) (Nat.le_of_ble_eq_true rfl) rfl ?_
  intro p e s m below meth c A ls H locs Z hr hlk _ hw hl
  have hx := Z.1.1
  have hb := Z.1.2.1
  have hl : lv_has ls 1 [(0, .int p1)] := hl
  refine lv_iload_n hx hb dX9_badRun_0 rfl (lv_at hl 0 rfl) ?_
  refine lv_iconst (v := 1) hx hb dX9_badRun_1 (by decide +kernel) ?_
  refine lv_sipush (v := 500) hx hb dX9_badRun_2 (by decide +kernel) ?_
  refine bk_ip (rnS (rest := []) Z hw (k_X9_in (p1 := p1) (p2 := 1) (p3 := 500) ) v_X9_in rfl q_5_29 hl.1 rfl rfl (Nat.le_of_ble_eq_true rfl) ⟨(Nat.le_of_ble_eq_true rfl), (Nat.le_of_ble_eq_true rfl)⟩ ⟨(Nat.le_of_ble_eq_true rfl), (Nat.le_of_ble_eq_true rfl)⟩ dX9_badRun_5) hw Z (fun r5 er5 H locs hw => ?_)
  refine lv_if_eq (tgt := 15) hx hb dX9_badRun_8 (by decide) (fun c8 => ?_) (fun c8 => ?_)
  · refine lv_iconst (v := 2) hx hb dX9_badRun_15 (by decide +kernel) ?_
    exact rt_i Z hr hlk hw dX9_badRun_16 ⟨Eq.symm (by subst er5; exact (lf_t c8 rfl)), rfl⟩
  · refine lv_iconst (v := 0) hx hb dX9_badRun_11 (by decide +kernel) ?_
    refine lv_goto (tgt := 16) hx hb dX9_badRun_12 (by decide) ?_
    exact rt_i Z hr hlk hw dX9_badRun_16 ⟨Eq.symm (by subst er5; exact (lf_f c8 rfl)), rfl⟩
abbrev rmX9_isMost : Room := { frames := 1, cells := 0, slots := 0, locals := 22 }
def f_X9_isMost (p1 : Int32) : Int32 := (let r5 := f_X9_in p1 0 1000; r5)
theorem v_X9_isMost : cvS yX9_isMost cX9_isMost 1 (some (.boolean)) 1 := ⟨q_6_3, q_1_10, q_6_4, by decide +kernel, by decide +kernel, by decide +kernel⟩
set_option maxHeartbeats 4000000 in
set_option maxRecDepth 100000 in
theorem k_X9_isMost {l : Launch} {D : va_G} {T : Nat → ClassId} {g ad : Nat → Nat} {N : Nat} {E : Nat → (Nat → Int32) → va_E} {σ : St} {p1 : Int32} : mX l yX9_isMost cX9_isMost 1 (some (.boolean)) rmX9_isMost D T g N ad (cE E σ) [.int p1] (qI D N ad E (pR (f_X9_isMost p1) σ)) := by
  refine mX.of (own := "NestedBellsModel") (by decide +kernel) (Nat.le_of_ble_eq_true rfl) rfl ?_
  intro p e s m below meth c A ls H locs Z hr hlk _ hw hl
  have hx := Z.1.1
  have hb := Z.1.2.1
  have hl : lv_has ls 1 [(0, .int p1)] := hl
  refine lv_iload_n hx hb dX9_isMost_0 rfl (lv_at hl 0 rfl) ?_
  refine lv_iconst (v := 0) hx hb dX9_isMost_1 (by decide +kernel) ?_
  refine lv_sipush (v := 1000) hx hb dX9_isMost_2 (by decide +kernel) ?_
  refine bk_ip (rnS (rest := []) Z hw (k_X9_in (p1 := p1) (p2 := 0) (p3 := 1000) ) v_X9_in rfl q_5_29 hl.1 rfl rfl (Nat.le_of_ble_eq_true rfl) ⟨(Nat.le_of_ble_eq_true rfl), (Nat.le_of_ble_eq_true rfl)⟩ ⟨(Nat.le_of_ble_eq_true rfl), (Nat.le_of_ble_eq_true rfl)⟩ dX9_isMost_5) hw Z (fun r5 er5 H locs hw => ?_)
  exact rt_z Z hr hlk hw (in_nar er5) dX9_isMost_8 ⟨Eq.symm (by subst er5; exact rfl), rfl⟩
abbrev rmX9_without : Room := { frames := 0, cells := 0, slots := 0, locals := 0 }
def f_X9_without (p1 : Int32) : Int32 := (if p1 = 3 then 2 else p1)
theorem v_X9_without : cvS yX9_without cX9_without 1 (some (.int)) 1 := ⟨q_5_103, q_1_10, q_5_104, by decide +kernel, by decide +kernel, by decide +kernel⟩
set_option maxHeartbeats 4000000 in
set_option maxRecDepth 100000 in
theorem k_X9_without {l : Launch} {D : va_G} {T : Nat → ClassId} {g ad : Nat → Nat} {N : Nat} {E : Nat → (Nat → Int32) → va_E} {σ : St} {p1 : Int32} : mX l yX9_without cX9_without 1 (some (.int)) rmX9_without D T g N ad (cE E σ) [.int p1] (qI D N ad E (pR (f_X9_without p1) σ)) := by
  refine mX.of (own := "NestedBellsModel") (by decide +kernel) (Nat.le_of_ble_eq_true rfl) rfl ?_
  intro p e s m below meth c A ls H locs Z hr hlk _ hw hl
  have hx := Z.1.1
  have hb := Z.1.2.1
  have hl : lv_has ls 1 [(0, .int p1)] := hl
  refine lv_iload_n hx hb dX9_without_0 rfl (lv_at hl 0 rfl) ?_
  refine lv_iconst (v := 3) hx hb dX9_without_1 (by decide +kernel) ?_
  refine lv_icmp_ne (tgt := 9) hx hb dX9_without_2 (by decide) (fun c2 => ?_) (fun c2 => ?_)
  · refine lv_iload_n hx hb dX9_without_9 rfl (lv_at hl 0 rfl) ?_
    exact rt_i Z hr hlk hw dX9_without_10 ⟨Eq.symm (lf_f c2 rfl), rfl⟩
  · refine lv_iconst (v := 2) hx hb dX9_without_5 (by decide +kernel) ?_
    refine lv_goto (tgt := 10) hx hb dX9_without_6 (by decide) ?_
    exact rt_i Z hr hlk hw dX9_without_10 ⟨Eq.symm (lf_t c2 rfl), rfl⟩
abbrev rmX9_thrown : Room := { frames := 0, cells := 0, slots := 0, locals := 0 }
def f_X9_thrown (σ : St) : Int32 := σ 0 4
theorem v_X9_thrown : cvV yX9_thrown "NestedBellsModel" cX9_thrown 1 (some (.int)) 0 := ⟨q_5_10, q_5_11, q_1_10, q_5_12, rfl, by decide +kernel, by decide +kernel, by decide +kernel⟩
set_option maxHeartbeats 4000000 in
set_option maxRecDepth 100000 in
theorem k_X9_thrown {l : Launch} {D : va_G} {T : Nat → ClassId} {g ad : Nat → Nat} {σ : St} (I0 : InvD σ) : mX l yX9_thrown cX9_thrown 1 (some (.int)) rmX9_thrown D T g 6 ad (cE (dE T ad) σ) [.ref (ad 0)] (qI D 6 ad (dE T ad) (pR (f_X9_thrown σ) σ)) := by
  refine mX.of (own := "NestedBellsModel") (by decide +kernel) (Nat.le_of_ble_eq_true rfl) rfl ?_
  intro p e s m below meth c A ls H locs Z hr hlk _ hw hl
  have hx := Z.1.1
  have hb := Z.1.2.1
  have hl : lv_has ls 1 [(0, .ref (ad 0))] := hl
  refine lv_aload_n hx hb dX9_thrown_0 rfl (lv_at hl 0 rfl) ?_
  refine gD (j := 4) (v := .int (σ 0 4)) Z hw  (by decide) q_4_216 rfl rfl dX9_thrown_1 ?_
  exact rt_i Z hr hlk hw dX9_thrown_4 ⟨Eq.symm rfl, rfl⟩
abbrev rmX9_refused : Room := { frames := 0, cells := 0, slots := 0, locals := 0 }
def f_X9_refused (σ : St) (p1 : Int32) : Int32 × St := (if p1 ≤ 0 then (0, up2 σ 0 4 p1) else (1, up2 σ 0 4 p1))
theorem v_X9_refused : cvV yX9_refused "NestedBellsModel" cX9_refused 2 (some (.boolean)) 1 := ⟨q_5_19, s_34, q_1_10, q_5_20, rfl, by decide +kernel, by decide +kernel, by decide +kernel⟩
set_option maxHeartbeats 4000000 in
set_option maxRecDepth 100000 in
theorem k_X9_refused {l : Launch} {D : va_G} {T : Nat → ClassId} {g ad : Nat → Nat} {σ : St} {p1 : Int32} (I0 : InvD σ) : mX l yX9_refused cX9_refused 2 (some (.boolean)) rmX9_refused D T g 6 ad (cE (dE T ad) σ) [.ref (ad 0), .int p1] (qI D 6 ad (dE T ad) (pI (f_X9_refused σ p1) InvD)) := by
  refine mX.of (own := "NestedBellsModel") (by decide +kernel) (Nat.le_of_ble_eq_true rfl) rfl ?_
  intro p e s m below meth c A ls H locs Z hr hlk _ hw hl
  have hx := Z.1.1
  have hb := Z.1.2.1
  have hl : lv_has ls 2 [(0, .ref (ad 0)), (1, .int p1)] := hl
  refine lv_aload_n hx hb dX9_refused_0 rfl (lv_at hl 0 rfl) ?_
  refine lv_iload_n hx hb dX9_refused_1 rfl (lv_at hl 1 rfl) ?_
  refine pD (j := 4) Z hw  (by decide) q_4_216 rfl rfl rfl rfl dX9_refused_2 (fun H locs hw => ?_)
  refine lv_iload_n hx hb dX9_refused_5 rfl (lv_at hl 1 rfl) ?_
  refine lv_if_le (tgt := 13) hx hb dX9_refused_6 (by decide) (fun c6 => ?_) (fun c6 => ?_)
  · refine lv_iconst (v := 0) hx hb dX9_refused_13 (by decide +kernel) ?_
    exact rt_z Z hr hlk hw rfl dX9_refused_14 (pI.mk (lf_t c6 rfl) (InvD.up I0 (by decide)))
  · refine lv_iconst (v := 1) hx hb dX9_refused_9 (by decide +kernel) ?_
    refine lv_goto (tgt := 14) hx hb dX9_refused_10 (by decide) ?_
    exact rt_z Z hr hlk hw rfl dX9_refused_14 (pI.mk (lf_f c6 rfl) (InvD.up I0 (by decide)))
abbrev rmX9_isSource : Room := { frames := 1, cells := 0, slots := 0, locals := 22 }
def f_X9_isSource (σ : St) (p1 : Int32) : Int32 := (let r11 := f_X9_in p1 0 ((σ 1 8) - 1); r11)
theorem v_X9_isSource : cvV yX9_isSource "NestedBellsModel" cX9_isSource 2 (some (.boolean)) 1 := ⟨q_5_49, s_38, q_1_10, q_5_50, rfl, by decide +kernel, by decide +kernel, by decide +kernel⟩
set_option maxHeartbeats 4000000 in
set_option maxRecDepth 100000 in
theorem k_X9_isSource {l : Launch} {D : va_G} {T : Nat → ClassId} {g ad : Nat → Nat} {σ : St} {p1 : Int32} (I0 : InvD σ) : mX l yX9_isSource cX9_isSource 2 (some (.boolean)) rmX9_isSource D T g 6 ad (cE (dE T ad) σ) [.ref (ad 0), .int p1] (qI D 6 ad (dE T ad) (pR (f_X9_isSource σ p1) σ)) := by
  refine mX.of (own := "NestedBellsModel") (by decide +kernel) (Nat.le_of_ble_eq_true rfl) rfl ?_
  intro p e s m below meth c A ls H locs Z hr hlk _ hw hl
  have hx := Z.1.1
  have hb := Z.1.2.1
  have hl : lv_has ls 2 [(0, .ref (ad 0)), (1, .int p1)] := hl
  refine lv_iload_n hx hb dX9_isSource_0 rfl (lv_at hl 1 rfl) ?_
  refine lv_iconst (v := 0) hx hb dX9_isSource_1 (by decide +kernel) ?_
  refine lv_aload_n hx hb dX9_isSource_2 rfl (lv_at hl 0 rfl) ?_
  refine gD (j := 0) (v := .ref (ad 1)) Z hw  (by decide) q_4_212 rfl rfl dX9_isSource_3 ?_
  refine lv_bipush (v := 8) hx hb dX9_isSource_6 (by decide +kernel) ?_
  refine aE (v := σ 1 8) Z hw 1 (by decide) rfl (fun _ => rfl) (vp_in_nI (n := 8) (by decide) (by decide)) ((congrArg (σ 1) (nI_clamp (n := 8) (by decide))).trans rfl) dX9_isSource_8 ?_
  refine lv_iconst (v := 1) hx hb dX9_isSource_9 (by decide +kernel) ?_
  refine lv_isub hx hb dX9_isSource_10 ?_
  refine bk_ip (rnS (rest := []) Z hw (k_X9_in (p1 := p1) (p2 := 0) (p3 := (σ 1 8) - 1) ) v_X9_in rfl q_5_29 hl.1 rfl rfl (Nat.le_of_ble_eq_true rfl) ⟨(Nat.le_of_ble_eq_true rfl), (Nat.le_of_ble_eq_true rfl)⟩ ⟨(Nat.le_of_ble_eq_true rfl), (Nat.le_of_ble_eq_true rfl)⟩ dX9_isSource_11) hw Z (fun r11 er11 H locs hw => ?_)
  exact rt_z Z hr hlk hw (in_nar er11) dX9_isSource_14 ⟨Eq.symm (by subst er11; exact rfl), rfl⟩
theorem src_rng {σ : St} {x r : Int32} (I : InvD σ) (er : f_X9_isSource σ x = r) (h : ¬ r = 0) : 0 ≤ x.toInt ∧ x.toInt < (σ 1 8).toInt := by
  unfold f_X9_isSource at er
  obtain ⟨h1, h2⟩ := in_of er h
  obtain ⟨k, hk, e⟩ := of_nI (n := 13) ⟨I.1.1.1, by have := I.1.1.2; omega⟩ (by decide)
  rw [e] at h2 ⊢
  have key : ∀ k, k < 13 → (nI k - 1).toInt = (nI k).toInt - 1 := by decide +kernel
  rw [key k hk] at h2
  exact ⟨h1, by omega⟩
theorem src_rng12 {σ : St} {x r : Int32} (I : InvD σ) (er : f_X9_isSource σ x = r) (h : ¬ r = 0) : 0 ≤ x.toInt ∧ x.toInt < 12 := by
  have := src_rng I er h
  have := I.1.1
  omega
theorem InvD.zero {σ : St} {x : Int32} {w : Nat} (hw : w < 24) (I : InvD σ) : InvD (up2 σ 1 (ix x + w) 0) := by
  by_cases h : w = 7
  · subst h; exact I.sec (by decide)
  · exact I.up (by unfold InvDcr ix; omega)
theorem InvD.fld {σ : St} {x v : Int32} {w : Nat} (hw : w < 24 ∧ w ≠ 7) (I : InvD σ) : InvD (up2 σ 1 (ix x + w) v) := I.up (by unfold InvDcr ix; omega)
theorem InvR.many {ρ : Nat → Int32} (I : InvR ρ) (h : (ρ 8).toInt < 12) : InvR (upd ρ 8 (ρ 8 + 1)) := by
  obtain ⟨q1, q2, q3, q4, q5, q6, q7⟩ := I
  have hs : (ρ 8 + 1).toInt = (ρ 8).toInt + 1 := by
    obtain ⟨k, hk, e⟩ := of_nI (n := 12) ⟨q1.1, h⟩ (by decide)
    rw [e, nI_1, nI_toInt (by omega), nI_toInt (by omega)]
    omega
  have q : ∀ y, y ≠ 8 → upd ρ 8 (ρ 8 + 1) y = ρ y := fun y h9 => upd_n h9
  refine ⟨?_, ?_, ?_, fun k hk => ?_, fun j k hj hk => ?_, fun h1 => ?_, fun s hs2 => ?_⟩
  · rw [upd_s, hs]; omega
  · rw [q 9 (by decide)]; exact q2
  · rw [q 22 (by decide)]; exact q3
  · rw [q 9 (by decide)] at hk
    rw [upd_s, hs, q (10 + k) (by omega)]
    have := q4 k hk
    omega
  · rw [q 9 (by decide)] at hk
    rw [q (10 + k) (by omega), q (10 + j) (by omega)]; exact q5 j k hj hk
  · rw [q 5 (by decide)] at h1
    rw [q 6 (by decide), upd_s, q 9 (by decide), hs]
    have h3 := q6 h1
    exact ⟨by omega, fun k hk => by rw [q (10 + k) (by omega)]; exact h3.2 k hk⟩
  · rw [q (100 + 24 * s) (by omega)]; exact q7 s hs2
theorem InvD.many {σ : St} {x : Int32} (hx : σ 1 8 = x) (h : x.toInt < 12) (I : InvD σ) : InvD (up2 σ 1 8 (x + 1)) := by
  subst hx
  exact I.up1 (I.1.many h)

abbrev rmX9_of : Room := { frames := 1, cells := 0, slots := 0, locals := 20 }
def f_X9_of (σ : St) (p1 : Int32) (p2 : Int32) : Int32 := (let r5 := f_X9_at p1; σ 1 (ix p1 + p2.toNatClampNeg))
theorem v_X9_of : cvV yX9_of "NestedBellsModel" cX9_of 3 (some (.int)) 2 := ⟨q_5_72, s_42, q_1_10, q_5_73, rfl, by decide +kernel, by decide +kernel, by decide +kernel⟩
set_option maxHeartbeats 4000000 in
set_option maxRecDepth 100000 in
theorem k_X9_of {l : Launch} {D : va_G} {T : Nat → ClassId} {g ad : Nat → Nat} {σ : St} {p1 : Int32} {p2 : Int32} (I0 : InvD σ) (hs : 0 ≤ p1.toInt ∧ p1.toInt < 12) (hq : 0 ≤ p2.toInt ∧ p2.toInt < 24) : mX l yX9_of cX9_of 3 (some (.int)) rmX9_of D T g 6 ad (cE (dE T ad) σ) [.ref (ad 0), .int p1, .int p2] (qI D 6 ad (dE T ad) (pR (f_X9_of σ p1 p2) σ)) := by
  refine mX.of (own := "NestedBellsModel") (by decide +kernel) (Nat.le_of_ble_eq_true rfl) rfl ?_
  intro p e s m below meth c A ls H locs Z hr hlk _ hw hl
  have hx := Z.1.1
  have hb := Z.1.2.1
  have hl : lv_has ls 3 [(0, .ref (ad 0)), (1, .int p1), (2, .int p2)] := hl
  refine lv_aload_n hx hb dX9_of_0 rfl (lv_at hl 0 rfl) ?_
  refine gD (j := 0) (v := .ref (ad 1)) Z hw  (by decide) q_4_212 rfl rfl dX9_of_1 ?_
  refine lv_iload_n hx hb dX9_of_4 rfl (lv_at hl 1 rfl) ?_
  refine bk_ip (rnS (rest := [.ref (ad 1)]) Z hw (k_X9_at (p1 := p1) ) v_X9_at rfl q_5_40 hl.1 rfl rfl (Nat.le_of_ble_eq_true rfl) ⟨(Nat.le_of_ble_eq_true rfl), (Nat.le_of_ble_eq_true rfl)⟩ ⟨(Nat.le_of_ble_eq_true rfl), (Nat.le_of_ble_eq_true rfl)⟩ dX9_of_5) hw Z (fun r5 er5 H locs hw => ?_)
  refine lv_iload_n hx hb dX9_of_8 rfl (lv_at hl 2 rfl) ?_
  refine lv_iadd hx hb dX9_of_9 ?_
  refine aE (v := σ 1 (ix p1 + p2.toNatClampNeg)) Z hw 1 (by decide) rfl (fun _ => rfl) (of_vp er5 hs hq) ((congrArg (σ 1) (of_ix er5 hs hq)).trans rfl) dX9_of_10 ?_
  exact rt_i Z hr hlk hw dX9_of_11 ⟨Eq.symm (by subst er5; exact rfl), rfl⟩
abbrev rmX9_placeOf : Room := { frames := 0, cells := 0, slots := 0, locals := 0 }
def f_X9_placeOf_l2 (p1 : Int32) : Nat → Nat → St → Int32
  | 0, k2, t2 => 0
  | n2 + 1, k2, t2 => (if (t2 1 9) ≤ (nI k2) then (-1) else (if (t2 1 (10 + k2)) = p1 then nI k2 else (f_X9_placeOf_l2 p1 n2 (k2 + 1) t2)))
def f_X9_placeOf (σ : St) (p1 : Int32) : Int32 := (f_X9_placeOf_l2 p1 fu13 0 σ)
theorem v_X9_placeOf : cvV yX9_placeOf "NestedBellsModel" cX9_placeOf 3 (some (.int)) 1 := ⟨q_5_56, s_39, q_1_10, q_5_57, rfl, by decide +kernel, by decide +kernel, by decide +kernel⟩
set_option maxHeartbeats 4000000 in
set_option maxRecDepth 100000 in
theorem L_X9_placeOf_2 {l : Launch} {D : va_G} {T : Nat → ClassId} {g ad : Nat → Nat} {p : Program} {e : Env} {s : State} {m : MethodId} {below : List Frame} {meth : Method} {c : Code} {A : Nat → Prop} {p1 : Int32} (Z : en p m c cX9_placeOf 3 s [.ref (ad 0), .int p1].toArray "NestedBellsModel" D T g A) (hr : meth.sig.returnType = (some (.int))) (hlk : meth.locks = false) : ∀ (n2 : Nat) (k2 : Nat) (t2 : St) (H : Heap) (locs : List Loc) (ls : Array Slot), k2 ≤ 12 → 12 < k2 + n2 → InvD t2 → wo D A s.heap 6 ad (cE (dE T ad) t2) H locs → lv_has ls 3 [(2, .int (nI k2)), (0, .ref (ad 0)), (1, .int p1)] → W p l e rmX9_placeOf s m [.ref (ad 0), .int p1].toArray below meth c H locs 0 0 (MQ below (qI D 6 ad (dE T ad) (pR (f_X9_placeOf_l2 p1 n2 k2 t2) t2) A) [.ref (ad 0), .int p1].toArray s rmX9_placeOf.cells rmX9_placeOf.slots A) (F0 m 2 ls []) := by
  have hx := Z.1.1
  have hb := Z.1.2.1
  intro n2
  induction n2 with
  | zero =>
    intro k2 t2 H locs ls hk2 hn2 It2 hw hl
    exact absurd hn2 (by omega)
  | succ n2 ih =>
    intro k2 t2 H locs ls hk2 hn2 It2 hw hl
    refine lv_iload_n hx hb dX9_placeOf_2 rfl (lv_at hl 0 rfl) ?_
    refine lv_aload_n hx hb dX9_placeOf_3 rfl (lv_at hl 1 rfl) ?_
    refine gD (j := 0) (v := .ref (ad 1)) Z hw  (by decide) q_4_212 rfl rfl dX9_placeOf_4 ?_
    refine lv_bipush (v := 9) hx hb dX9_placeOf_7 (by decide +kernel) ?_
    refine aE (v := t2 1 9) Z hw 1 (by decide) rfl (fun _ => rfl) (vp_in_nI (n := 9) (by decide) (by decide)) ((congrArg (t2 1) (nI_clamp (n := 9) (by decide))).trans rfl) dX9_placeOf_9 ?_
    refine lv_icmp_ge (tgt := 34) hx hb dX9_placeOf_10 (by decide) (fun c10 => ?_) (fun c10 => ?_)
    · refine lv_iconst (v := (-1)) hx hb dX9_placeOf_34 (by decide +kernel) ?_
      exact rt_i Z hr hlk hw dX9_placeOf_35 ⟨Eq.symm (lf_t c10 rfl), rfl⟩
    · have hkb2 : k2 < 12 := kb_ge c10 It2.1.2.1.2 hk2 (by decide)
      refine lv_aload_n hx hb dX9_placeOf_13 rfl (lv_at hl 1 rfl) ?_
      refine gD (j := 0) (v := .ref (ad 1)) Z hw  (by decide) q_4_212 rfl rfl dX9_placeOf_14 ?_
      refine lv_bipush (v := 10) hx hb dX9_placeOf_17 (by decide +kernel) ?_
      refine lv_iload_n hx hb dX9_placeOf_19 rfl (lv_at hl 0 rfl) ?_
      refine lv_iadd hx hb dX9_placeOf_20 ?_
      refine aE (v := t2 1 (10 + k2)) Z hw 1 (by decide) rfl (fun _ => rfl) (add_vp (a := 10) (b := k2) (by omega) (by decide)) ((congrArg (t2 1) (add_ix (a := 10) (b := k2) (by omega))).trans rfl) dX9_placeOf_21 ?_
      refine lv_iload_n hx hb dX9_placeOf_22 rfl (lv_at hl 2 rfl) ?_
      refine lv_icmp_ne (tgt := 28) hx hb dX9_placeOf_23 (by decide) (fun c23 => ?_) (fun c23 => ?_)
      · refine lv_iinc (v := nI (k2 + 1)) (lv' := [(2, .int (nI (k2 + 1))), (0, .ref (ad 0)), (1, .int p1)]) hx hb dX9_placeOf_28 hl (k := 0) rfl (nI_1 _) (by decide) rfl (fun ls hl => ?_)
        refine lv_goto (tgt := 2) hx hb dX9_placeOf_31 (by decide) ?_
        have q2 : (f_X9_placeOf_l2 p1 n2 (k2 + 1) t2) = (f_X9_placeOf_l2 p1 (n2 + 1) k2 t2) := (lf_f c10 (lf_f c23 rfl))
        rw [← q2]
        exact ih (k2 + 1) t2 H locs ls (by omega) (by omega) It2 hw (lv_sub hl [0, 1, 2] rfl)
      · refine lv_iload_n hx hb dX9_placeOf_26 rfl (lv_at hl 0 rfl) ?_
        exact rt_i Z hr hlk hw dX9_placeOf_27 ⟨Eq.symm (lf_f c10 (lf_t c23 rfl)), rfl⟩
set_option maxHeartbeats 4000000 in
set_option maxRecDepth 100000 in
theorem k_X9_placeOf {l : Launch} {D : va_G} {T : Nat → ClassId} {g ad : Nat → Nat} {σ : St} {p1 : Int32} (I0 : InvD σ) : mX l yX9_placeOf cX9_placeOf 3 (some (.int)) rmX9_placeOf D T g 6 ad (cE (dE T ad) σ) [.ref (ad 0), .int p1] (qI D 6 ad (dE T ad) (pR (f_X9_placeOf σ p1) σ)) := by
  refine mX.of (own := "NestedBellsModel") (by decide +kernel) (Nat.le_of_ble_eq_true rfl) rfl ?_
  intro p e s m below meth c A ls H locs Z hr hlk _ hw hl
  have hx := Z.1.1
  have hb := Z.1.2.1
  have hl : lv_has ls 3 [(0, .ref (ad 0)), (1, .int p1)] := hl
  refine lv_iconst (v := 0) hx hb dX9_placeOf_0 (by decide +kernel) ?_
  refine lv_istore_n (lv' := [(2, .int 0), (0, .ref (ad 0)), (1, .int p1)]) hx hb dX9_placeOf_1 rfl hl (by decide) rfl (fun ls hl => ?_)
  have q2 : (f_X9_placeOf_l2 p1 fu13 0 σ) = (f_X9_placeOf σ p1) := rfl
  rw [← q2]
  exact L_X9_placeOf_2 (p1 := p1) Z hr hlk fu13 0 σ H locs ls (by omega) (by unfold fu13; omega) I0 hw (lv_sub hl [0, 1, 2] rfl)
abbrev rmX9_isPending : Room := { frames := 2, cells := 0, slots := 0, locals := 42 }
def f_X9_isPending (σ : St) (p1 : Int32) : Int32 := (let r3 := f_X9_of σ p1 1; (if r3 = 0 then (let r12 := f_X9_of σ p1 4; (if r12 = 1 then 1 else 0)) else (let r30 := f_X9_of σ p1 5; (if r30 = 1 then (let r39 := f_X9_placeOf σ p1; (if r39 = (-1) then 1 else 0)) else 0))))
theorem v_X9_isPending : cvV yX9_isPending "NestedBellsModel" cX9_isPending 2 (some (.boolean)) 1 := ⟨q_5_180, s_60, q_1_10, q_5_181, rfl, by decide +kernel, by decide +kernel, by decide +kernel⟩
set_option maxHeartbeats 4000000 in
set_option maxRecDepth 100000 in
theorem k_X9_isPending {l : Launch} {D : va_G} {T : Nat → ClassId} {g ad : Nat → Nat} {σ : St} {p1 : Int32} (I0 : InvD σ) (hs : 0 ≤ p1.toInt ∧ p1.toInt < 12) : mX l yX9_isPending cX9_isPending 2 (some (.boolean)) rmX9_isPending D T g 6 ad (cE (dE T ad) σ) [.ref (ad 0), .int p1] (qI D 6 ad (dE T ad) (pR (f_X9_isPending σ p1) σ)) := by
  refine mX.of (own := "NestedBellsModel") (by decide +kernel) (Nat.le_of_ble_eq_true rfl) rfl ?_
  intro p e s m below meth c A ls H locs Z hr hlk _ hw hl
  have hx := Z.1.1
  have hb := Z.1.2.1
  have hl : lv_has ls 2 [(0, .ref (ad 0)), (1, .int p1)] := hl
  refine lv_aload_n hx hb dX9_isPending_0 rfl (lv_at hl 0 rfl) ?_
  refine lv_iload_n hx hb dX9_isPending_1 rfl (lv_at hl 1 rfl) ?_
  refine lv_iconst (v := 1) hx hb dX9_isPending_2 (by decide +kernel) ?_
  refine bk_ip (rnV (rest := []) Z hw (k_X9_of (p1 := p1) (p2 := 1) I0 hs (by decide +kernel)) v_X9_of q_5_70 (0) (by decide) rfl rfl rfl rfl hl.1 rfl rfl (Nat.le_of_ble_eq_true rfl) ⟨(Nat.le_of_ble_eq_true rfl), (Nat.le_of_ble_eq_true rfl)⟩ ⟨(Nat.le_of_ble_eq_true rfl), (Nat.le_of_ble_eq_true rfl)⟩ dX9_isPending_3) hw Z (fun r3 er3 H locs hw => ?_)
  refine lv_if_ne (tgt := 27) hx hb dX9_isPending_6 (by decide) (fun c6 => ?_) (fun c6 => ?_)
  · refine lv_aload_n hx hb dX9_isPending_27 rfl (lv_at hl 0 rfl) ?_
    refine lv_iload_n hx hb dX9_isPending_28 rfl (lv_at hl 1 rfl) ?_
    refine lv_iconst (v := 5) hx hb dX9_isPending_29 (by decide +kernel) ?_
    refine bk_ip (rnV (rest := []) Z hw (k_X9_of (p1 := p1) (p2 := 5) I0 hs (by decide +kernel)) v_X9_of q_5_70 (0) (by decide) rfl rfl rfl rfl hl.1 rfl rfl (Nat.le_of_ble_eq_true rfl) ⟨(Nat.le_of_ble_eq_true rfl), (Nat.le_of_ble_eq_true rfl)⟩ ⟨(Nat.le_of_ble_eq_true rfl), (Nat.le_of_ble_eq_true rfl)⟩ dX9_isPending_30) hw Z (fun r30 er30 H locs hw => ?_)
    refine lv_iconst (v := 1) hx hb dX9_isPending_33 (by decide +kernel) ?_
    refine lv_icmp_ne (tgt := 50) hx hb dX9_isPending_34 (by decide) (fun c34 => ?_) (fun c34 => ?_)
    · refine lv_iconst (v := 0) hx hb dX9_isPending_50 (by decide +kernel) ?_
      exact rt_z Z hr hlk hw rfl dX9_isPending_51 ⟨Eq.symm (by subst er30 er3; exact (lf_f c6 (lf_f c34 rfl))), rfl⟩
    · refine lv_aload_n hx hb dX9_isPending_37 rfl (lv_at hl 0 rfl) ?_
      refine lv_iload_n hx hb dX9_isPending_38 rfl (lv_at hl 1 rfl) ?_
      refine bk_ip (rnV (rest := []) Z hw (k_X9_placeOf (p1 := p1) I0) v_X9_placeOf q_5_54 (0) (by decide) rfl rfl rfl rfl hl.1 rfl rfl (Nat.le_of_ble_eq_true rfl) ⟨(Nat.le_of_ble_eq_true rfl), (Nat.le_of_ble_eq_true rfl)⟩ ⟨(Nat.le_of_ble_eq_true rfl), (Nat.le_of_ble_eq_true rfl)⟩ dX9_isPending_39) hw Z (fun r39 er39 H locs hw => ?_)
      refine lv_iconst (v := (-1)) hx hb dX9_isPending_42 (by decide +kernel) ?_
      refine lv_icmp_ne (tgt := 50) hx hb dX9_isPending_43 (by decide) (fun c43 => ?_) (fun c43 => ?_)
      · refine lv_iconst (v := 0) hx hb dX9_isPending_50 (by decide +kernel) ?_
        exact rt_z Z hr hlk hw rfl dX9_isPending_51 ⟨Eq.symm (by subst er39 er30 er3; exact (lf_f c6 (lf_t c34 (lf_f c43 rfl)))), rfl⟩
      · refine lv_iconst (v := 1) hx hb dX9_isPending_46 (by decide +kernel) ?_
        refine lv_goto (tgt := 51) hx hb dX9_isPending_47 (by decide) ?_
        exact rt_z Z hr hlk hw rfl dX9_isPending_51 ⟨Eq.symm (by subst er39 er30 er3; exact (lf_f c6 (lf_t c34 (lf_t c43 rfl)))), rfl⟩
  · refine lv_aload_n hx hb dX9_isPending_9 rfl (lv_at hl 0 rfl) ?_
    refine lv_iload_n hx hb dX9_isPending_10 rfl (lv_at hl 1 rfl) ?_
    refine lv_iconst (v := 4) hx hb dX9_isPending_11 (by decide +kernel) ?_
    refine bk_ip (rnV (rest := []) Z hw (k_X9_of (p1 := p1) (p2 := 4) I0 hs (by decide +kernel)) v_X9_of q_5_70 (0) (by decide) rfl rfl rfl rfl hl.1 rfl rfl (Nat.le_of_ble_eq_true rfl) ⟨(Nat.le_of_ble_eq_true rfl), (Nat.le_of_ble_eq_true rfl)⟩ ⟨(Nat.le_of_ble_eq_true rfl), (Nat.le_of_ble_eq_true rfl)⟩ dX9_isPending_12) hw Z (fun r12 er12 H locs hw => ?_)
    refine lv_iconst (v := 1) hx hb dX9_isPending_15 (by decide +kernel) ?_
    refine lv_icmp_ne (tgt := 23) hx hb dX9_isPending_16 (by decide) (fun c16 => ?_) (fun c16 => ?_)
    · refine lv_iconst (v := 0) hx hb dX9_isPending_23 (by decide +kernel) ?_
      refine lv_goto (tgt := 51) hx hb dX9_isPending_24 (by decide) ?_
      exact rt_z Z hr hlk hw rfl dX9_isPending_51 ⟨Eq.symm (by subst er12 er3; exact (lf_t c6 (lf_f c16 rfl))), rfl⟩
    · refine lv_iconst (v := 1) hx hb dX9_isPending_19 (by decide +kernel) ?_
      refine lv_goto (tgt := 51) hx hb dX9_isPending_20 (by decide) ?_
      exact rt_z Z hr hlk hw rfl dX9_isPending_51 ⟨Eq.symm (by subst er12 er3; exact (lf_t c6 (lf_t c16 rfl))), rfl⟩
abbrev rmX9_logs : Room := { frames := 0, cells := 0, slots := 0, locals := 0 }
def f_X9_logs_l4 : Nat → Nat → St → St
  | 0, k4, t4 => (t4)
  | n4 + 1, k4, t4 => (if (nI k4) ≤ 2 then t4 else (f_X9_logs_l4 n4 (k4 - 1) (up2 t4 1 (23 + k4) (t4 1 (20 + k4)))))
def f_X9_logs (σ : St) (p1 : Int32) (p2 : Int32) (p3 : Int32) : St := (let u4 := (f_X9_logs_l4 fu61 59 σ); (let v87 : Int32 := (if 20 ≤ (u4 1 22) then 0 else 1); up2 (up2 (up2 (up2 u4 1 23 p1) 1 24 p2) 1 25 p3) 1 22 ((u4 1 22) + v87)))
theorem v_X9_logs : cvV yX9_logs "NestedBellsModel" cX9_logs 5 none 3 := ⟨q_5_111, s_48, q_1_10, q_5_112, rfl, by decide +kernel, by decide +kernel, by decide +kernel⟩
set_option maxHeartbeats 4000000 in
set_option maxRecDepth 100000 in
theorem L_X9_logs_4 {l : Launch} {D : va_G} {T : Nat → ClassId} {g ad : Nat → Nat} {p : Program} {e : Env} {s : State} {m : MethodId} {below : List Frame} {meth : Method} {c : Code} {A : Nat → Prop} {Qw : State → Prop} {p1 : Int32} {p2 : Int32} {p3 : Int32} (Z : en p m c cX9_logs 5 s [.ref (ad 0), .int p1, .int p2, .int p3].toArray "NestedBellsModel" D T g A) : ∀ (n4 : Nat) (k4 : Nat) (t4 : St) (H : Heap) (locs : List Loc) (ls : Array Slot), k4 ≤ 59 → k4 < n4 → InvD t4 → wo D A s.heap 6 ad (cE (dE T ad) t4) H locs → lv_has ls 5 [(4, .int (nI k4)), (0, .ref (ad 0)), (1, .int p1), (2, .int p2), (3, .int p3)] → (∀ (u4 : St) (H : Heap) (locs : List Loc) (ls : Array Slot), (f_X9_logs_l4 n4 k4 t4) = u4 → InvD u4 → wo D A s.heap 6 ad (cE (dE T ad) u4) H locs → lv_has ls 5 [(0, .ref (ad 0)), (1, .int p1), (2, .int p2), (3, .int p3)] → W p l e rmX9_logs s m [.ref (ad 0), .int p1, .int p2, .int p3].toArray below meth c H locs 0 0 Qw (F0 m 38 ls [])) → W p l e rmX9_logs s m [.ref (ad 0), .int p1, .int p2, .int p3].toArray below meth c H locs 0 0 Qw (F0 m 4 ls []) := by
  have hx := Z.1.1
  have hb := Z.1.2.1
  intro n4
  induction n4 with
  | zero =>
    intro k4 t4 H locs ls hk4 hn4 It4 hw hl kk
    exact absurd hn4 (by omega)
  | succ n4 ih =>
    intro k4 t4 H locs ls hk4 hn4 It4 hw hl kk
    refine lv_iload hx hb dX9_logs_4 (lv_at hl 0 rfl) ?_
    refine lv_iconst (v := 2) hx hb dX9_logs_6 (by decide +kernel) ?_
    refine lv_icmp_le (tgt := 38) hx hb dX9_logs_7 (by decide) (fun c7 => ?_) (fun c7 => ?_)
    · exact kk _ H locs ls (Eq.symm (lf_t c7 rfl)) It4 hw (lv_sub hl [1, 2, 3, 4] rfl)
    · have hkb4 : 2 < k4 := kb_nle (b := 2) c7 (by omega) (by decide)
      refine lv_aload_n hx hb dX9_logs_10 rfl (lv_at hl 1 rfl) ?_
      refine gD (j := 0) (v := .ref (ad 1)) Z hw  (by decide) q_4_212 rfl rfl dX9_logs_11 ?_
      refine lv_bipush (v := 23) hx hb dX9_logs_14 (by decide +kernel) ?_
      refine lv_iload hx hb dX9_logs_16 (lv_at hl 0 rfl) ?_
      refine lv_iadd hx hb dX9_logs_18 ?_
      refine lv_aload_n hx hb dX9_logs_19 rfl (lv_at hl 1 rfl) ?_
      refine gD (j := 0) (v := .ref (ad 1)) Z hw  (by decide) q_4_212 rfl rfl dX9_logs_20 ?_
      refine lv_bipush (v := 23) hx hb dX9_logs_23 (by decide +kernel) ?_
      refine lv_iload hx hb dX9_logs_25 (lv_at hl 0 rfl) ?_
      refine lv_iadd hx hb dX9_logs_27 ?_
      refine lv_iconst (v := 3) hx hb dX9_logs_28 (by decide +kernel) ?_
      refine lv_isub hx hb dX9_logs_29 ?_
      refine aE (v := t4 1 (20 + k4)) Z hw 1 (by decide) rfl (fun _ => rfl) (ev_vp (by omega)) ((congrArg (t4 1) (ev_ix (by omega))).trans rfl) dX9_logs_30 ?_
      refine sE (j := 23 + k4) Z hw 1 (by decide) rfl (fun _ => rfl) (add_vp (a := 23) (b := k4) (by omega) (by decide)) (add_ix (a := 23) (b := k4) (by omega)) dX9_logs_31 (fun H locs hw => ?_)
      refine lv_iinc (v := nI (k4 - 1)) (lv' := [(4, .int (nI (k4 - 1))), (0, .ref (ad 0)), (1, .int p1), (2, .int p2), (3, .int p3)]) hx hb dX9_logs_32 hl (k := 0) rfl (nI_dec (by omega)) (by decide) rfl (fun ls hl => ?_)
      refine lv_goto (tgt := 4) hx hb dX9_logs_35 (by decide) ?_
      exact ih (k4 - 1) (up2 t4 1 (23 + k4) (t4 1 (20 + k4))) H locs ls (by omega) (by omega) (InvD.up It4 (by unfold InvDcr; omega)) hw (lv_sub hl [0, 1, 2, 3, 4] rfl) (fun u4 H locs ls eu4 I4 hw hl => kk u4 H locs ls (Eq.trans (Eq.symm (show (f_X9_logs_l4 n4 (k4 - 1) (up2 t4 1 (23 + k4) (t4 1 (20 + k4)))) = _ from (lf_f c7 rfl))) eu4) I4 hw hl)
set_option maxHeartbeats 4000000 in
set_option maxRecDepth 100000 in
theorem k_X9_logs {l : Launch} {D : va_G} {T : Nat → ClassId} {g ad : Nat → Nat} {σ : St} {p1 : Int32} {p2 : Int32} {p3 : Int32} (I0 : InvD σ) : mX l yX9_logs cX9_logs 5 none rmX9_logs D T g 6 ad (cE (dE T ad) σ) [.ref (ad 0), .int p1, .int p2, .int p3] (qV D 6 ad (dE T ad) (pV (f_X9_logs σ p1 p2 p3) InvD)) := by
  refine mX.of (own := "NestedBellsModel") (by decide +kernel) (Nat.le_of_ble_eq_true rfl) rfl ?_
  intro p e s m below meth c A ls H locs Z hr hlk _ hw hl
  have hx := Z.1.1
  have hb := Z.1.2.1
  have hl : lv_has ls 5 [(0, .ref (ad 0)), (1, .int p1), (2, .int p2), (3, .int p3)] := hl
  refine lv_bipush (v := 59) hx hb dX9_logs_0 (by decide +kernel) ?_
  refine lv_istore (lv' := [(4, .int 59), (0, .ref (ad 0)), (1, .int p1), (2, .int p2), (3, .int p3)]) hx hb dX9_logs_2 hl (by decide) rfl (fun ls hl => ?_)
  refine L_X9_logs_4 (p1 := p1) (p2 := p2) (p3 := p3) Z fu61 59 σ H locs ls (by omega) (by unfold fu61; omega) I0 hw (lv_sub hl [0, 1, 2, 3, 4] rfl) (fun u4 H locs ls eu4 I4 hw hl => ?_)
  refine lv_aload_n hx hb dX9_logs_38 rfl (lv_at hl 0 rfl) ?_
  refine gD (j := 0) (v := .ref (ad 1)) Z hw  (by decide) q_4_212 rfl rfl dX9_logs_39 ?_
  refine lv_bipush (v := 23) hx hb dX9_logs_42 (by decide +kernel) ?_
  refine lv_iload_n hx hb dX9_logs_44 rfl (lv_at hl 1 rfl) ?_
  refine sE (j := 23) Z hw 1 (by decide) rfl (fun _ => rfl) (vp_in_nI (n := 23) (by decide) (by decide)) (nI_clamp (n := 23) (by decide)) dX9_logs_45 (fun H locs hw => ?_)
  refine lv_aload_n hx hb dX9_logs_46 rfl (lv_at hl 0 rfl) ?_
  refine gD (j := 0) (v := .ref (ad 1)) Z hw  (by decide) q_4_212 rfl rfl dX9_logs_47 ?_
  refine lv_bipush (v := 24) hx hb dX9_logs_50 (by decide +kernel) ?_
  refine lv_iload_n hx hb dX9_logs_52 rfl (lv_at hl 2 rfl) ?_
  refine sE (j := 24) Z hw 1 (by decide) rfl (fun _ => rfl) (vp_in_nI (n := 24) (by decide) (by decide)) (nI_clamp (n := 24) (by decide)) dX9_logs_53 (fun H locs hw => ?_)
  refine lv_aload_n hx hb dX9_logs_54 rfl (lv_at hl 0 rfl) ?_
  refine gD (j := 0) (v := .ref (ad 1)) Z hw  (by decide) q_4_212 rfl rfl dX9_logs_55 ?_
  refine lv_bipush (v := 25) hx hb dX9_logs_58 (by decide +kernel) ?_
  refine lv_iload_n hx hb dX9_logs_60 rfl (lv_at hl 3 rfl) ?_
  refine sE (j := 25) Z hw 1 (by decide) rfl (fun _ => rfl) (vp_in_nI (n := 25) (by decide) (by decide)) (nI_clamp (n := 25) (by decide)) dX9_logs_61 (fun H locs hw => ?_)
  refine lv_aload_n hx hb dX9_logs_62 rfl (lv_at hl 0 rfl) ?_
  refine gD (j := 0) (v := .ref (ad 1)) Z hw  (by decide) q_4_212 rfl rfl dX9_logs_63 ?_
  refine lv_bipush (v := 22) hx hb dX9_logs_66 (by decide +kernel) ?_
  refine lv_dup2_11 hx hb dX9_logs_68 rfl rfl ?_
  refine aE (v := u4 1 22) Z hw 1 (by decide) rfl (fun _ => rfl) (vp_in_nI (n := 22) (by decide) (by decide)) ((congrArg ((up2 (up2 (up2 u4 1 23 p1) 1 24 p2) 1 25 p3) 1) (nI_clamp (n := 22) (by decide))).trans ((up2_j (by decide)).trans ((up2_j (by decide)).trans (up2_j (by decide))))) dX9_logs_69 ?_
  refine lv_aload_n hx hb dX9_logs_70 rfl (lv_at hl 0 rfl) ?_
  refine gD (j := 0) (v := .ref (ad 1)) Z hw  (by decide) q_4_212 rfl rfl dX9_logs_71 ?_
  refine lv_bipush (v := 22) hx hb dX9_logs_74 (by decide +kernel) ?_
  refine aE (v := u4 1 22) Z hw 1 (by decide) rfl (fun _ => rfl) (vp_in_nI (n := 22) (by decide) (by decide)) ((congrArg ((up2 (up2 (up2 u4 1 23 p1) 1 24 p2) 1 25 p3) 1) (nI_clamp (n := 22) (by decide))).trans ((up2_j (by decide)).trans ((up2_j (by decide)).trans (up2_j (by decide))))) dX9_logs_76 ?_
  refine lv_bipush (v := 20) hx hb dX9_logs_77 (by decide +kernel) ?_
  have hj87 : ∀ (v87 : Int32) (H : Heap) (locs : List Loc) (ls : Array Slot), ((if 20 ≤ (u4 1 22) then 0 else 1) : Int32) = v87 → wo D A s.heap 6 ad (cE (dE T ad) (up2 (up2 (up2 u4 1 23 p1) 1 24 p2) 1 25 p3)) H locs → lv_has ls 5 [] → W p l e rmX9_logs s m [.ref (ad 0), .int p1, .int p2, .int p3].toArray below meth c H locs 0 0 (MQ below (qV D 6 ad (dE T ad) (pV (f_X9_logs σ p1 p2 p3) InvD) A) [.ref (ad 0), .int p1, .int p2, .int p3].toArray s rmX9_logs.cells rmX9_logs.slots A) (F0 m 87 ls [.int v87, .int (u4 1 22), .int 22, .ref (ad 1)]) := by
    intro v87 H locs ls ev87 hw hl
    refine lv_iadd hx hb dX9_logs_87 ?_
    refine sE (j := 22) Z hw 1 (by decide) rfl (fun _ => rfl) (vp_in_nI (n := 22) (by decide) (by decide)) (nI_clamp (n := 22) (by decide)) dX9_logs_88 (fun H locs hw => ?_)
    exact rt_v Z hr hlk hw dX9_logs_89 ⟨Eq.symm (by subst ev87 eu4; exact rfl), (InvD.ev (ev_in I4.1.2.2.1 ev87) (InvD.up (InvD.up (InvD.up I4 (by decide)) (by decide)) (by decide)))⟩
  refine lv_icmp_ge (tgt := 86) hx hb dX9_logs_79 (by decide) (fun c79 => ?_) (fun c79 => ?_)
  · refine lv_iconst (v := 0) hx hb dX9_logs_86 (by decide +kernel) ?_
    exact hj87 _ H locs ls (Eq.symm (lf_t c79 rfl)) hw (lv_sub hl [] rfl)
  · refine lv_iconst (v := 1) hx hb dX9_logs_82 (by decide +kernel) ?_
    refine lv_goto (tgt := 87) hx hb dX9_logs_83 (by decide) ?_
    exact hj87 _ H locs ls (Eq.symm (lf_f c79 rfl)) hw (lv_sub hl [] rfl)
abbrev rmX9_badSource : Room := { frames := 1, cells := 0, slots := 0, locals := 22 }
def f_X9_badSource (σ : St) (p1 : Int32) (p2 : Int32) (p3 : Int32) : Int32 := (let r4 := f_X9_in p1 1 15; (if r4 = 0 then 2 else (let r13 := f_X9_in p2 0 1; (if r13 = 0 then 2 else (let r24 := f_X9_in p3 1 500; (if r24 = 0 then 2 else (if (σ 1 8) = 12 then 3 else 0)))))))
theorem v_X9_badSource : cvV yX9_badSource "NestedBellsModel" cX9_badSource 4 (some (.int)) 3 := ⟨q_5_27, s_35, q_1_10, q_5_28, rfl, by decide +kernel, by decide +kernel, by decide +kernel⟩
set_option maxHeartbeats 4000000 in
set_option maxRecDepth 100000 in
theorem k_X9_badSource {l : Launch} {D : va_G} {T : Nat → ClassId} {g ad : Nat → Nat} {σ : St} {p1 : Int32} {p2 : Int32} {p3 : Int32} (I0 : InvD σ) : mX l yX9_badSource cX9_badSource 4 (some (.int)) rmX9_badSource D T g 6 ad (cE (dE T ad) σ) [.ref (ad 0), .int p1, .int p2, .int p3] (qI D 6 ad (dE T ad) (pR (f_X9_badSource σ p1 p2 p3) σ)) := by
  refine mX.of (own := "NestedBellsModel") (by decide +kernel) (Nat.le_of_ble_eq_true rfl) rfl ?_
  intro p e s m below meth c A ls H locs Z hr hlk _ hw hl
  have hx := Z.1.1
  have hb := Z.1.2.1
  have hl : lv_has ls 4 [(0, .ref (ad 0)), (1, .int p1), (2, .int p2), (3, .int p3)] := hl
  refine lv_iload_n hx hb dX9_badSource_0 rfl (lv_at hl 1 rfl) ?_
  refine lv_iconst (v := 1) hx hb dX9_badSource_1 (by decide +kernel) ?_
  refine lv_bipush (v := 15) hx hb dX9_badSource_2 (by decide +kernel) ?_
  refine bk_ip (rnS (rest := []) Z hw (k_X9_in (p1 := p1) (p2 := 1) (p3 := 15) ) v_X9_in rfl q_5_29 hl.1 rfl rfl (Nat.le_of_ble_eq_true rfl) ⟨(Nat.le_of_ble_eq_true rfl), (Nat.le_of_ble_eq_true rfl)⟩ ⟨(Nat.le_of_ble_eq_true rfl), (Nat.le_of_ble_eq_true rfl)⟩ dX9_badSource_4) hw Z (fun r4 er4 H locs hw => ?_)
  refine lv_if_eq (tgt := 30) hx hb dX9_badSource_7 (by decide) (fun c7 => ?_) (fun c7 => ?_)
  · refine lv_iconst (v := 2) hx hb dX9_badSource_30 (by decide +kernel) ?_
    refine lv_goto (tgt := 51) hx hb dX9_badSource_31 (by decide) ?_
    exact rt_i Z hr hlk hw dX9_badSource_51 ⟨Eq.symm (by subst er4; exact (lf_t c7 rfl)), rfl⟩
  · refine lv_iload_n hx hb dX9_badSource_10 rfl (lv_at hl 2 rfl) ?_
    refine lv_iconst (v := 0) hx hb dX9_badSource_11 (by decide +kernel) ?_
    refine lv_iconst (v := 1) hx hb dX9_badSource_12 (by decide +kernel) ?_
    refine bk_ip (rnS (rest := []) Z hw (k_X9_in (p1 := p2) (p2 := 0) (p3 := 1) ) v_X9_in rfl q_5_29 hl.1 rfl rfl (Nat.le_of_ble_eq_true rfl) ⟨(Nat.le_of_ble_eq_true rfl), (Nat.le_of_ble_eq_true rfl)⟩ ⟨(Nat.le_of_ble_eq_true rfl), (Nat.le_of_ble_eq_true rfl)⟩ dX9_badSource_13) hw Z (fun r13 er13 H locs hw => ?_)
    refine lv_if_eq (tgt := 30) hx hb dX9_badSource_16 (by decide) (fun c16 => ?_) (fun c16 => ?_)
    · refine lv_iconst (v := 2) hx hb dX9_badSource_30 (by decide +kernel) ?_
      refine lv_goto (tgt := 51) hx hb dX9_badSource_31 (by decide) ?_
      exact rt_i Z hr hlk hw dX9_badSource_51 ⟨Eq.symm (by subst er13 er4; exact (lf_f c7 (lf_t c16 rfl))), rfl⟩
    · refine lv_iload_n hx hb dX9_badSource_19 rfl (lv_at hl 3 rfl) ?_
      refine lv_iconst (v := 1) hx hb dX9_badSource_20 (by decide +kernel) ?_
      refine lv_sipush (v := 500) hx hb dX9_badSource_21 (by decide +kernel) ?_
      refine bk_ip (rnS (rest := []) Z hw (k_X9_in (p1 := p3) (p2 := 1) (p3 := 500) ) v_X9_in rfl q_5_29 hl.1 rfl rfl (Nat.le_of_ble_eq_true rfl) ⟨(Nat.le_of_ble_eq_true rfl), (Nat.le_of_ble_eq_true rfl)⟩ ⟨(Nat.le_of_ble_eq_true rfl), (Nat.le_of_ble_eq_true rfl)⟩ dX9_badSource_24) hw Z (fun r24 er24 H locs hw => ?_)
      refine lv_if_ne (tgt := 34) hx hb dX9_badSource_27 (by decide) (fun c27 => ?_) (fun c27 => ?_)
      · refine lv_aload_n hx hb dX9_badSource_34 rfl (lv_at hl 0 rfl) ?_
        refine gD (j := 0) (v := .ref (ad 1)) Z hw  (by decide) q_4_212 rfl rfl dX9_badSource_35 ?_
        refine lv_bipush (v := 8) hx hb dX9_badSource_38 (by decide +kernel) ?_
        refine aE (v := σ 1 8) Z hw 1 (by decide) rfl (fun _ => rfl) (vp_in_nI (n := 8) (by decide) (by decide)) ((congrArg (σ 1) (nI_clamp (n := 8) (by decide))).trans rfl) dX9_badSource_40 ?_
        refine lv_bipush (v := 12) hx hb dX9_badSource_41 (by decide +kernel) ?_
        refine lv_icmp_ne (tgt := 50) hx hb dX9_badSource_43 (by decide) (fun c43 => ?_) (fun c43 => ?_)
        · refine lv_iconst (v := 0) hx hb dX9_badSource_50 (by decide +kernel) ?_
          exact rt_i Z hr hlk hw dX9_badSource_51 ⟨Eq.symm (by subst er24 er13 er4; exact (lf_f c7 (lf_f c16 (lf_f c27 (lf_f c43 rfl))))), rfl⟩
        · refine lv_iconst (v := 3) hx hb dX9_badSource_46 (by decide +kernel) ?_
          refine lv_goto (tgt := 51) hx hb dX9_badSource_47 (by decide) ?_
          exact rt_i Z hr hlk hw dX9_badSource_51 ⟨Eq.symm (by subst er24 er13 er4; exact (lf_f c7 (lf_f c16 (lf_f c27 (lf_t c43 rfl))))), rfl⟩
      · refine lv_iconst (v := 2) hx hb dX9_badSource_30 (by decide +kernel) ?_
        refine lv_goto (tgt := 51) hx hb dX9_badSource_31 (by decide) ?_
        exact rt_i Z hr hlk hw dX9_badSource_51 ⟨Eq.symm (by subst er24 er13 er4; exact (lf_f c7 (lf_f c16 (lf_t c27 rfl)))), rfl⟩
abbrev rmX9_comes : Room := { frames := 1, cells := 0, slots := 0, locals := 20 }
def f_X9_comes_l15 (σ : St) : Nat → Nat → St → St
  | 0, k15, t15 => (t15)
  | n15 + 1, k15, t15 => (if 24 ≤ (nI k15) then t15 else (f_X9_comes_l15 σ n15 (k15 + 1) (up2 t15 1 (ix (σ 1 8) + k15) 0)))
def f_X9_comes (σ : St) (p1 : Int32) (p2 : Int32) (p3 : Int32) : Int32 × St := (let r7 := f_X9_at (σ 1 8); (let u15 := (f_X9_comes_l15 σ fu25 0 σ); (((u15 1 8) + 1) - 1, up2 (up2 (up2 (up2 (up2 (up2 (up2 u15 1 (ix (σ 1 8) + 0) p1) 1 (ix (σ 1 8) + 1) p2) 1 (ix (σ 1 8) + 2) p3) 1 (ix (σ 1 8) + 3) 1) 1 (ix (σ 1 8) + 20) (-1)) 1 (ix (σ 1 8) + 21) (-1)) 1 8 ((u15 1 8) + 1))))
theorem v_X9_comes : cvV yX9_comes "NestedBellsModel" cX9_comes 6 (some (.int)) 3 := ⟨q_5_38, s_37, q_1_10, q_5_39, rfl, by decide +kernel, by decide +kernel, by decide +kernel⟩
set_option maxHeartbeats 4000000 in
set_option maxRecDepth 100000 in
theorem L_X9_comes_15 {l : Launch} {D : va_G} {T : Nat → ClassId} {g ad : Nat → Nat} {p : Program} {e : Env} {s : State} {m : MethodId} {below : List Frame} {meth : Method} {c : Code} {A : Nat → Prop} {Qw : State → Prop} {σ : St} {p1 : Int32} {p2 : Int32} {p3 : Int32} {r7 : Int32} (Z : en p m c cX9_comes 6 s [.ref (ad 0), .int p1, .int p2, .int p3].toArray "NestedBellsModel" D T g A) (hM : (σ 1 8).toInt < 12) (er7 : f_X9_at (σ 1 8) = r7) (I0 : InvD σ) : ∀ (n15 : Nat) (k15 : Nat) (t15 : St) (H : Heap) (locs : List Loc) (ls : Array Slot), k15 ≤ 24 → 24 < k15 + n15 → InvD t15 → t15 1 8 = σ 1 8 → wo D A s.heap 6 ad (cE (dE T ad) t15) H locs → lv_has ls 6 [(5, .int (nI k15)), (4, .int r7), (0, .ref (ad 0)), (1, .int p1), (2, .int p2), (3, .int p3)] → (∀ (u15 : St) (H : Heap) (locs : List Loc) (ls : Array Slot), (f_X9_comes_l15 σ n15 k15 t15) = u15 → InvD u15 → u15 1 8 = σ 1 8 → wo D A s.heap 6 ad (cE (dE T ad) u15) H locs → lv_has ls 6 [(4, .int r7), (0, .ref (ad 0)), (1, .int p1), (2, .int p2), (3, .int p3)] → W p l e rmX9_comes s m [.ref (ad 0), .int p1, .int p2, .int p3].toArray below meth c H locs 0 0 Qw (F0 m 39 ls [])) → W p l e rmX9_comes s m [.ref (ad 0), .int p1, .int p2, .int p3].toArray below meth c H locs 0 0 Qw (F0 m 15 ls []) := by
  have hx := Z.1.1
  have hb := Z.1.2.1
  intro n15
  induction n15 with
  | zero =>
    intro k15 t15 H locs ls hk15 hn15 It15 hq15 hw hl kk
    exact absurd hn15 (by omega)
  | succ n15 ih =>
    intro k15 t15 H locs ls hk15 hn15 It15 hq15 hw hl kk
    refine lv_iload hx hb dX9_comes_15 (lv_at hl 0 rfl) ?_
    refine lv_bipush (v := 24) hx hb dX9_comes_17 (by decide +kernel) ?_
    refine lv_icmp_ge (tgt := 39) hx hb dX9_comes_19 (by decide) (fun c19 => ?_) (fun c19 => ?_)
    · exact kk _ H locs ls (Eq.symm (lf_t c19 rfl)) It15 hq15 hw (lv_sub hl [1, 2, 3, 4, 5] rfl)
    · have hkb15 : k15 < 24 := kb_ge c19 (by decide) hk15 (by decide)
      refine lv_aload_n hx hb dX9_comes_22 rfl (lv_at hl 2 rfl) ?_
      refine gD (j := 0) (v := .ref (ad 1)) Z hw  (by decide) q_4_212 rfl rfl dX9_comes_23 ?_
      refine lv_iload hx hb dX9_comes_26 (lv_at hl 1 rfl) ?_
      refine lv_iload hx hb dX9_comes_28 (lv_at hl 0 rfl) ?_
      refine lv_iadd hx hb dX9_comes_30 ?_
      refine lv_iconst (v := 0) hx hb dX9_comes_31 (by decide +kernel) ?_
      refine sE (j := ix (σ 1 8) + k15) Z hw 1 (by decide) rfl (fun _ => rfl) (at_vp er7 ⟨I0.1.1.1, hM⟩ (w := k15) (by omega)) (at_ix er7 ⟨I0.1.1.1, hM⟩ (w := k15) (by omega)) dX9_comes_32 (fun H locs hw => ?_)
      refine lv_iinc (v := nI (k15 + 1)) (lv' := [(5, .int (nI (k15 + 1))), (4, .int r7), (0, .ref (ad 0)), (1, .int p1), (2, .int p2), (3, .int p3)]) hx hb dX9_comes_33 hl (k := 0) rfl (nI_1 _) (by decide) rfl (fun ls hl => ?_)
      refine lv_goto (tgt := 15) hx hb dX9_comes_36 (by decide) ?_
      exact ih (k15 + 1) (up2 t15 1 (ix (σ 1 8) + k15) 0) H locs ls (by omega) (by omega) (InvD.zero (by omega) It15) (by rw [up2_j (by unfold ix; omega)]; exact hq15) hw (lv_sub hl [0, 1, 2, 3, 4, 5] rfl) (fun u15 H locs ls eu15 I15 hq15y hw hl => kk u15 H locs ls (Eq.trans (Eq.symm (show (f_X9_comes_l15 σ n15 (k15 + 1) (up2 t15 1 (ix (σ 1 8) + k15) 0)) = _ from (lf_f c19 rfl))) eu15) I15 hq15y hw hl)
set_option maxHeartbeats 4000000 in
set_option maxRecDepth 100000 in
theorem k_X9_comes {l : Launch} {D : va_G} {T : Nat → ClassId} {g ad : Nat → Nat} {σ : St} {p1 : Int32} {p2 : Int32} {p3 : Int32} (I0 : InvD σ) (hM : (σ 1 8).toInt < 12) : mX l yX9_comes cX9_comes 6 (some (.int)) rmX9_comes D T g 6 ad (cE (dE T ad) σ) [.ref (ad 0), .int p1, .int p2, .int p3] (qI D 6 ad (dE T ad) (pI (f_X9_comes σ p1 p2 p3) InvD)) := by
  refine mX.of (own := "NestedBellsModel") (by decide +kernel) (Nat.le_of_ble_eq_true rfl) rfl ?_
  intro p e s m below meth c A ls H locs Z hr hlk _ hw hl
  have hx := Z.1.1
  have hb := Z.1.2.1
  have hl : lv_has ls 6 [(0, .ref (ad 0)), (1, .int p1), (2, .int p2), (3, .int p3)] := hl
  refine lv_aload_n hx hb dX9_comes_0 rfl (lv_at hl 0 rfl) ?_
  refine gD (j := 0) (v := .ref (ad 1)) Z hw  (by decide) q_4_212 rfl rfl dX9_comes_1 ?_
  refine lv_bipush (v := 8) hx hb dX9_comes_4 (by decide +kernel) ?_
  refine aE (v := σ 1 8) Z hw 1 (by decide) rfl (fun _ => rfl) (vp_in_nI (n := 8) (by decide) (by decide)) ((congrArg (σ 1) (nI_clamp (n := 8) (by decide))).trans rfl) dX9_comes_6 ?_
  refine bk_ip (rnS (rest := []) Z hw (k_X9_at (p1 := σ 1 8) ) v_X9_at rfl q_5_40 hl.1 rfl rfl (Nat.le_of_ble_eq_true rfl) ⟨(Nat.le_of_ble_eq_true rfl), (Nat.le_of_ble_eq_true rfl)⟩ ⟨(Nat.le_of_ble_eq_true rfl), (Nat.le_of_ble_eq_true rfl)⟩ dX9_comes_7) hw Z (fun r7 er7 H locs hw => ?_)
  refine lv_istore (lv' := [(4, .int r7), (0, .ref (ad 0)), (1, .int p1), (2, .int p2), (3, .int p3)]) hx hb dX9_comes_10 hl (by decide) rfl (fun ls hl => ?_)
  refine lv_iconst (v := 0) hx hb dX9_comes_12 (by decide +kernel) ?_
  refine lv_istore (lv' := [(5, .int 0), (4, .int r7), (0, .ref (ad 0)), (1, .int p1), (2, .int p2), (3, .int p3)]) hx hb dX9_comes_13 hl (by decide) rfl (fun ls hl => ?_)
  refine L_X9_comes_15 (σ := σ) (p1 := p1) (p2 := p2) (p3 := p3) (r7 := r7) Z hM er7 I0 fu25 0 σ H locs ls (by omega) (by unfold fu25; omega) I0 rfl hw (lv_sub hl [0, 1, 2, 3, 4, 5] rfl) (fun u15 H locs ls eu15 I15 hq15x hw hl => ?_)
  refine lv_aload_n hx hb dX9_comes_39 rfl (lv_at hl 1 rfl) ?_
  refine gD (j := 0) (v := .ref (ad 1)) Z hw  (by decide) q_4_212 rfl rfl dX9_comes_40 ?_
  refine lv_iload hx hb dX9_comes_43 (lv_at hl 0 rfl) ?_
  refine lv_iconst (v := 0) hx hb dX9_comes_45 (by decide +kernel) ?_
  refine lv_iadd hx hb dX9_comes_46 ?_
  refine lv_iload_n hx hb dX9_comes_47 rfl (lv_at hl 2 rfl) ?_
  refine sE (j := ix (σ 1 8) + 0) Z hw 1 (by decide) rfl (fun _ => rfl) (at_vp er7 ⟨I0.1.1.1, hM⟩ (w := 0) (by omega)) (at_ix er7 ⟨I0.1.1.1, hM⟩ (w := 0) (by omega)) dX9_comes_48 (fun H locs hw => ?_)
  refine lv_aload_n hx hb dX9_comes_49 rfl (lv_at hl 1 rfl) ?_
  refine gD (j := 0) (v := .ref (ad 1)) Z hw  (by decide) q_4_212 rfl rfl dX9_comes_50 ?_
  refine lv_iload hx hb dX9_comes_53 (lv_at hl 0 rfl) ?_
  refine lv_iconst (v := 1) hx hb dX9_comes_55 (by decide +kernel) ?_
  refine lv_iadd hx hb dX9_comes_56 ?_
  refine lv_iload_n hx hb dX9_comes_57 rfl (lv_at hl 3 rfl) ?_
  refine sE (j := ix (σ 1 8) + 1) Z hw 1 (by decide) rfl (fun _ => rfl) (at_vp er7 ⟨I0.1.1.1, hM⟩ (w := 1) (by omega)) (at_ix er7 ⟨I0.1.1.1, hM⟩ (w := 1) (by omega)) dX9_comes_58 (fun H locs hw => ?_)
  refine lv_aload_n hx hb dX9_comes_59 rfl (lv_at hl 1 rfl) ?_
  refine gD (j := 0) (v := .ref (ad 1)) Z hw  (by decide) q_4_212 rfl rfl dX9_comes_60 ?_
  refine lv_iload hx hb dX9_comes_63 (lv_at hl 0 rfl) ?_
  refine lv_iconst (v := 2) hx hb dX9_comes_65 (by decide +kernel) ?_
  refine lv_iadd hx hb dX9_comes_66 ?_
  refine lv_iload_n hx hb dX9_comes_67 rfl (lv_at hl 4 rfl) ?_
  refine sE (j := ix (σ 1 8) + 2) Z hw 1 (by decide) rfl (fun _ => rfl) (at_vp er7 ⟨I0.1.1.1, hM⟩ (w := 2) (by omega)) (at_ix er7 ⟨I0.1.1.1, hM⟩ (w := 2) (by omega)) dX9_comes_68 (fun H locs hw => ?_)
  refine lv_aload_n hx hb dX9_comes_69 rfl (lv_at hl 1 rfl) ?_
  refine gD (j := 0) (v := .ref (ad 1)) Z hw  (by decide) q_4_212 rfl rfl dX9_comes_70 ?_
  refine lv_iload hx hb dX9_comes_73 (lv_at hl 0 rfl) ?_
  refine lv_iconst (v := 3) hx hb dX9_comes_75 (by decide +kernel) ?_
  refine lv_iadd hx hb dX9_comes_76 ?_
  refine lv_iconst (v := 1) hx hb dX9_comes_77 (by decide +kernel) ?_
  refine sE (j := ix (σ 1 8) + 3) Z hw 1 (by decide) rfl (fun _ => rfl) (at_vp er7 ⟨I0.1.1.1, hM⟩ (w := 3) (by omega)) (at_ix er7 ⟨I0.1.1.1, hM⟩ (w := 3) (by omega)) dX9_comes_78 (fun H locs hw => ?_)
  refine lv_aload_n hx hb dX9_comes_79 rfl (lv_at hl 1 rfl) ?_
  refine gD (j := 0) (v := .ref (ad 1)) Z hw  (by decide) q_4_212 rfl rfl dX9_comes_80 ?_
  refine lv_iload hx hb dX9_comes_83 (lv_at hl 0 rfl) ?_
  refine lv_bipush (v := 20) hx hb dX9_comes_85 (by decide +kernel) ?_
  refine lv_iadd hx hb dX9_comes_87 ?_
  refine lv_iconst (v := (-1)) hx hb dX9_comes_88 (by decide +kernel) ?_
  refine sE (j := ix (σ 1 8) + 20) Z hw 1 (by decide) rfl (fun _ => rfl) (at_vp er7 ⟨I0.1.1.1, hM⟩ (w := 20) (by omega)) (at_ix er7 ⟨I0.1.1.1, hM⟩ (w := 20) (by omega)) dX9_comes_89 (fun H locs hw => ?_)
  refine lv_aload_n hx hb dX9_comes_90 rfl (lv_at hl 1 rfl) ?_
  refine gD (j := 0) (v := .ref (ad 1)) Z hw  (by decide) q_4_212 rfl rfl dX9_comes_91 ?_
  refine lv_iload hx hb dX9_comes_94 (lv_at hl 0 rfl) ?_
  refine lv_bipush (v := 21) hx hb dX9_comes_96 (by decide +kernel) ?_
  refine lv_iadd hx hb dX9_comes_98 ?_
  refine lv_iconst (v := (-1)) hx hb dX9_comes_99 (by decide +kernel) ?_
  refine sE (j := ix (σ 1 8) + 21) Z hw 1 (by decide) rfl (fun _ => rfl) (at_vp er7 ⟨I0.1.1.1, hM⟩ (w := 21) (by omega)) (at_ix er7 ⟨I0.1.1.1, hM⟩ (w := 21) (by omega)) dX9_comes_100 (fun H locs hw => ?_)
  refine lv_aload_n hx hb dX9_comes_101 rfl (lv_at hl 1 rfl) ?_
  refine gD (j := 0) (v := .ref (ad 1)) Z hw  (by decide) q_4_212 rfl rfl dX9_comes_102 ?_
  refine lv_bipush (v := 8) hx hb dX9_comes_105 (by decide +kernel) ?_
  refine lv_dup2_11 hx hb dX9_comes_107 rfl rfl ?_
  refine aE (v := u15 1 8) Z hw 1 (by decide) rfl (fun _ => rfl) (vp_in_nI (n := 8) (by decide) (by decide)) ((congrArg ((up2 (up2 (up2 (up2 (up2 (up2 u15 1 (ix (σ 1 8) + 0) p1) 1 (ix (σ 1 8) + 1) p2) 1 (ix (σ 1 8) + 2) p3) 1 (ix (σ 1 8) + 3) 1) 1 (ix (σ 1 8) + 20) (-1)) 1 (ix (σ 1 8) + 21) (-1)) 1) (nI_clamp (n := 8) (by decide))).trans ((up2_j (by unfold ix; omega)).trans ((up2_j (by unfold ix; omega)).trans ((up2_j (by unfold ix; omega)).trans ((up2_j (by unfold ix; omega)).trans ((up2_j (by unfold ix; omega)).trans (up2_j (by unfold ix; omega)))))))) dX9_comes_108 ?_
  refine lv_iconst (v := 1) hx hb dX9_comes_109 (by decide +kernel) ?_
  refine lv_iadd hx hb dX9_comes_110 ?_
  refine sE (j := 8) Z hw 1 (by decide) rfl (fun _ => rfl) (vp_in_nI (n := 8) (by decide) (by decide)) (nI_clamp (n := 8) (by decide)) dX9_comes_111 (fun H locs hw => ?_)
  refine lv_aload_n hx hb dX9_comes_112 rfl (lv_at hl 1 rfl) ?_
  refine gD (j := 0) (v := .ref (ad 1)) Z hw  (by decide) q_4_212 rfl rfl dX9_comes_113 ?_
  refine lv_bipush (v := 8) hx hb dX9_comes_116 (by decide +kernel) ?_
  refine aE (v := (u15 1 8) + 1) Z hw 1 (by decide) rfl (fun _ => rfl) (vp_in_nI (n := 8) (by decide) (by decide)) ((congrArg ((up2 (up2 (up2 (up2 (up2 (up2 (up2 u15 1 (ix (σ 1 8) + 0) p1) 1 (ix (σ 1 8) + 1) p2) 1 (ix (σ 1 8) + 2) p3) 1 (ix (σ 1 8) + 3) 1) 1 (ix (σ 1 8) + 20) (-1)) 1 (ix (σ 1 8) + 21) (-1)) 1 8 ((u15 1 8) + 1)) 1) (nI_clamp (n := 8) (by decide))).trans up2_s) dX9_comes_118 ?_
  refine lv_iconst (v := 1) hx hb dX9_comes_119 (by decide +kernel) ?_
  refine lv_isub hx hb dX9_comes_120 ?_
  exact rt_i Z hr hlk hw dX9_comes_121 (pI.mk (by subst eu15 er7; exact rfl) (InvD.many ((up2_j (by unfold ix; omega)).trans ((up2_j (by unfold ix; omega)).trans ((up2_j (by unfold ix; omega)).trans ((up2_j (by unfold ix; omega)).trans ((up2_j (by unfold ix; omega)).trans (up2_j (by unfold ix; omega))))))) (by rw [hq15x]; exact hM) (InvD.up (InvD.up (InvD.up (InvD.up (InvD.up (InvD.up I15 (by unfold InvDcr ix; omega)) (by unfold InvDcr ix; omega)) (by unfold InvDcr ix; omega)) (by unfold InvDcr ix; omega)) (by unfold InvDcr ix; omega)) (by unfold InvDcr ix; omega))))
