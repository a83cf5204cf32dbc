/-- the command held, by its number; anything else is none -/
def cmdV (g : Nat → Nat) (x : Int32) : Value := if 0 ≤ x.toInt ∧ x.toInt < 9 then .ref (g x.toNatClampNeg) else .null
def txtE (g ad : Nat → Nat) (r : Nat → Int32) : List Value := [.ref (ad 1), .int (r 1), .int (r 2), .int (r 3), cmdV g (r 4), .ref (ad 2)]
def xE (g : Nat → Nat) (T : Nat → ClassId) (ad : Nat → Nat) (k : Nat) (r : Nat → Int32) : va_E :=
  match k with
  | 0 => .inr (0, txtE g ad r)
  | 1 => .inl (T 0, 150, .inl r)
  | _ => .inl (T 1, 4, .inl r)
def InvX (σ : St) : Prop := (0 ≤ (σ 0 1).toInt ∧ (σ 0 1).toInt ≤ 150) ∧ (0 ≤ (σ 0 2).toInt ∧ (σ 0 2).toInt ≤ 150)
abbrev InvXcr (k j : Nat) : Prop := ¬ (k = 0 ∧ (j = 1 ∨ j = 2))
theorem InvX.up {σ : St} {k j : Nat} {v : Int32} (I : InvX σ) (h : InvXcr k j) : InvX (up2 σ k j v) := by
  have q : ∀ x y, ¬ (x = k ∧ y = j) → up2 σ k j v x y = σ x y := fun x y h1 => if_neg h1
  unfold InvX
  rw [q 0 1 (by unfold InvXcr at h; omega), q 0 2 (by unfold InvXcr at h; omega)]
  exact I
theorem InvX.len {σ : St} {v : Int32} (h : 0 ≤ v.toInt ∧ v.toInt ≤ 150) (I : InvX σ) : InvX (up2 σ 0 1 v) := ⟨by rw [up2_s]; exact h, by rw [up2_j (by decide)]; exact I.2⟩
theorem InvX.at {σ : St} {v : Int32} (h : 0 ≤ v.toInt ∧ v.toInt ≤ 150) (I : InvX σ) : InvX (up2 σ 0 2 v) := ⟨by rw [up2_j (by decide)]; exact I.1, by rw [up2_s]; exact h⟩
section TextRows
variable {p : Program} {l : Launch} {e : Env} {R : Room} {s : State} {m : MethodId} {args : Array Value} {below : List Frame} {meth : Method} {c : Code} {H : Heap} {locs : List Loc} {cells slots : Nat} {Qw : State → Prop} {cc : ByteArray} {pc nL : Nat} {ls : Array Slot} {rest : List Value} {own : String} {D : va_G} {T : Nat → ClassId} {g : Nat → Nat} {A : Nat → Prop} {N : Nat} {ad : Nat → Nat}
theorem aBy {E : Nat → (Nat → Int32) → va_E} {σ : St} {n : Nat} {a : Nat} {i v : Int32} (Z : en p m c cc nL s args own D T g A) (hw : wo D A s.heap N ad (cE E σ) H locs) (k : Nat) (hk : k < N) (ha : ad k = a) (hc : ∀ r, E k r = .inl (T 0, n, .inl r)) (hin : vp_in i n) (hv : σ k i.toNatClampNeg = v) (d : decode cc pc = .ok (.baload, 1))
    (kk : W p l e R s m args below meth c H locs cells slots Qw (F0 m (pc + 1) ls (.int v :: rest))) : W p l e R s m args below meth c H locs cells slots Qw (F0 m pc ls (.int i :: .ref a :: rest)) := by
  subst ha; subst hv
  exact va_bald Z.1.1 Z.1.2.1 Z.2.1 hw.1 k 0 ((wl_at hk).trans (by rw [show cE E σ k = _ from hc _])) rfl hin d kk
theorem sBy {E : Nat → (Nat → Int32) → va_E} {σ : St} {n : Nat} {a j : Nat} {i x : Int32} (Z : en p m c cc nL s args own D T g A) (hw : wo D A s.heap N ad (cE E σ) H locs) (k : Nat) (hk : k < N) (ha : ad k = a) (hc : ∀ r, E k r = .inl (T 0, n, .inl r)) (hin : vp_in i n) (hj : i.toNatClampNeg = j) (d : decode cc pc = .ok (.bastore, 1))
    (kk : ∀ (H1 : Heap) (locs1 : List Loc), wo D A s.heap N ad (cE E (up2 σ k j (vp_nar .byte x))) H1 locs1 → W p l e R s m args below meth c H1 locs1 cells slots Qw (F0 m (pc + 1) ls rest)) : W p l e R s m args below meth c H locs cells slots Qw (F0 m pc ls (.int x :: .int i :: .ref a :: rest)) := by
  subst hj; subst ha
  have hct : va_up (cE E σ) k (.inl (T 0, n, .inl (upd (σ k) i.toNatClampNeg (vp_nar .byte x)))) = cE E (up2 σ k i.toNatClampNeg (vp_nar .byte x)) := cE_up (hc _)
  exact va_bast Z.1.1 Z.1.2.1 Z.2.1 hw.1 hw.2.1 hw.2.2 k 0 ((wl_at hk).trans (by rw [show cE E σ k = _ from hc _])) rfl hin d (fun H1 l1 hP hD hS => kk H1 l1 ⟨by rw [← hct, ← wl_set hk]; exact hP, by rw [← hct, ← wl_set hk]; exact hD, hS⟩)
end TextRows
theorem tx_lt {σ : St} (I : InvX σ) (c : ¬ σ 0 1 ≤ σ 0 2) : vp_in (σ 0 2) 150 := by
  rw [i32_le] at c
  have h1 := I.1
  exact vp_of I.2.1 (by omega)
theorem tx_inc {σ : St} (I : InvX σ) (c : ¬ σ 0 1 ≤ σ 0 2) : (0 ≤ (σ 0 2 + 1).toInt ∧ (σ 0 2 + 1).toInt ≤ 150) ∧ (σ 0 2 + 1).toInt = (σ 0 2).toInt + 1 := by
  rw [i32_le] at c
  have h1 := I.1
  obtain ⟨k, hk, e⟩ := of_nI (n := 150) ⟨I.2.1, by omega⟩ (by decide)
  rw [e, nI_1, nI_toInt (by omega), nI_toInt (by omega)]
  omega
def mz (t : St) (n : Nat) : Prop := (t 0 1).toInt - (t 0 2).toInt < n ∧ 0 < n
theorem mz_0 {t : St} (I : InvX t) : mz t 151 := by
  have h2 := I.1
  have h3 := I.2
  unfold mz
  omega
theorem mz_s {t u : St} {n : Nat} (I : InvX t) (c : ¬ t 0 1 ≤ t 0 2) (hm : mz t (n + 1)) (h1 : u 0 1 = t 0 1) (h2 : u 0 2 = t 0 2 + 1) : mz u n := by
  have h3 := (tx_inc I c).2
  unfold mz at hm ⊢
  rw [h1, h2, h3]
  rw [i32_le] at c
  omega
theorem ap_L {σ : St} (I : InvX σ) (c : σ 0 1 < 150) : 0 ≤ (σ 0 1).toInt ∧ (σ 0 1).toInt < 150 := ⟨I.1.1, by rw [i32_lt] at c; exact c⟩

abbrev rmX2_append : Room := { frames := 0, cells := 0, slots := 0, locals := 0 }
def f_X2_append (σ : St) (p1 : Int32) : Int32 × St := (if (σ 0 1) < 150 then (1, up2 (up2 σ 1 ((σ 0 1).toNatClampNeg) (vp_nar .byte p1.toInt8.toInt32)) 0 1 ((σ 0 1) + 1)) else (0, σ))
theorem v_X2_append : cvV yX2_append "NestedBells$CommandText" cX2_append 2 (some (.boolean)) 1 := ⟨q_4_190, q_4_191, q_1_7, q_4_192, rfl, by decide +kernel, by decide +kernel, by decide +kernel⟩
set_option maxHeartbeats 4000000 in
set_option maxRecDepth 100000 in
theorem k_X2_append {l : Launch} {D : va_G} {T : Nat → ClassId} {g ad : Nat → Nat} {σ : St} {p1 : Int32} (I0 : InvX σ) : mX l yX2_append cX2_append 2 (some (.boolean)) rmX2_append D T g 3 ad (cE (xE g T ad) σ) [.ref (ad 0), .int p1] (qI D 3 ad (xE g T ad) (pI (f_X2_append σ p1) InvX)) := by
  refine mX.of (own := "NestedBells$CommandText") (by decide +kernel) (Nat.le_of_ble_eq_true rfl) rfl ?_
  intro p e s m below meth c A ls H locs Z hr hlk _ hw hl
  have hx := Z.1.1
  have hb := Z.1.2.1
  have hl : lv_has ls 2 [(0, .ref (ad 0)), (1, .int p1)] := hl
  refine lv_aload_n hx hb dX2_append_0 rfl (lv_at hl 0 rfl) ?_
  refine gO (C := "NestedBells$CommandText") (TC := TX2) (NF := 6) (ci := 0) (j := 1) (v := .int (σ 0 1)) Z hw (0) (by decide) rfl (fun _ => rfl) rfl iX2 (by decide) q_1_236 rfl rfl dX2_append_1 ?_
  refine lv_sipush (v := 150) hx hb dX2_append_4 (by decide +kernel) ?_
  refine lv_icmp_lt (tgt := 12) hx hb dX2_append_7 (by decide) (fun c7 => ?_) (fun c7 => ?_)
  · have hL := ap_L I0 c7
    refine lv_aload_n hx hb dX2_append_12 rfl (lv_at hl 0 rfl) ?_
    refine gO (C := "NestedBells$CommandText") (TC := TX2) (NF := 6) (ci := 0) (j := 0) (v := .ref (ad 1)) Z hw (0) (by decide) rfl (fun _ => rfl) rfl iX2 (by decide) q_1_235 rfl rfl dX2_append_13 ?_
    refine lv_aload_n hx hb dX2_append_16 rfl (lv_at hl 0 rfl) ?_
    refine gO (C := "NestedBells$CommandText") (TC := TX2) (NF := 6) (ci := 0) (j := 1) (v := .int (σ 0 1)) Z hw (0) (by decide) rfl (fun _ => rfl) rfl iX2 (by decide) q_1_236 rfl rfl dX2_append_17 ?_
    refine lv_iload_n hx hb dX2_append_20 rfl (lv_at hl 1 rfl) ?_
    refine lv_i2b hx hb dX2_append_21 rfl ?_
    refine sBy (j := (σ 0 1).toNatClampNeg) Z hw 1 (by decide) rfl (fun _ => rfl) (vp_in_iff.mpr hL) rfl dX2_append_22 (fun H locs hw => ?_)
    refine lv_aload_n hx hb dX2_append_23 rfl (lv_at hl 0 rfl) ?_
    refine lv_dup hx hb dX2_append_24 rfl ?_
    refine gO (C := "NestedBells$CommandText") (TC := TX2) (NF := 6) (ci := 0) (j := 1) (v := .int (σ 0 1)) Z hw (0) (by decide) rfl (fun _ => rfl) rfl iX2 (by decide) q_1_236 rfl (congrArg (fun x => some (Value.int x)) (up2_k (by decide))) dX2_append_25 ?_
    refine lv_iconst (v := 1) hx hb dX2_append_28 (by decide +kernel) ?_
    refine lv_iadd hx hb dX2_append_29 ?_
    refine pO (C := "NestedBells$CommandText") (TC := TX2) (NF := 6) (ci := 0) (j := 1) (ty0 := tyX2) Z hw (0) (by decide) rfl (fun _ => rfl) rfl iX2 tyX2_ok nmX2 (by decide) q_1_236 rfl rfl rfl rfl (Nat.le_of_ble_eq_true rfl) dX2_append_30 (fun H locs hw => ?_)
    refine lv_iconst (v := 1) hx hb dX2_append_33 (by decide +kernel) ?_
    exact rt_z Z hr hlk hw rfl dX2_append_34 (pI.mk (lf_t c7 rfl) (InvX.len (inc_n hL (by decide)) (InvX.up I0 (by unfold InvXcr; omega))))
  · refine lv_iconst (v := 0) hx hb dX2_append_10 (by decide +kernel) ?_
    exact rt_z Z hr hlk hw rfl dX2_append_11 (pI.mk (lf_f c7 rfl) I0)
abbrev rmX2_empty : Room := { frames := 0, cells := 0, slots := 0, locals := 0 }
def f_X2_empty (σ : St) : Int32 × St := (σ 0 1, up2 σ 0 1 0)
theorem v_X2_empty : cvV yX2_empty "NestedBells$CommandText" cX2_empty 2 (some (.int)) 0 := ⟨q_2_39, q_2_40, q_1_7, q_2_41, rfl, by decide +kernel, by decide +kernel, by decide +kernel⟩
set_option maxHeartbeats 4000000 in
set_option maxRecDepth 100000 in
theorem k_X2_empty {l : Launch} {D : va_G} {T : Nat → ClassId} {g ad : Nat → Nat} {σ : St} (I0 : InvX σ) : mX l yX2_empty cX2_empty 2 (some (.int)) rmX2_empty D T g 3 ad (cE (xE g T ad) σ) [.ref (ad 0)] (qI D 3 ad (xE g T ad) (pI (f_X2_empty σ) InvX)) := by
  refine mX.of (own := "NestedBells$CommandText") (by decide +kernel) (Nat.le_of_ble_eq_true rfl) rfl ?_
  intro p e s m below meth c A ls H locs Z hr hlk _ hw hl
  have hx := Z.1.1
  have hb := Z.1.2.1
  have hl : lv_has ls 2 [(0, .ref (ad 0))] := hl
  refine lv_aload_n hx hb dX2_empty_0 rfl (lv_at hl 0 rfl) ?_
  refine gO (C := "NestedBells$CommandText") (TC := TX2) (NF := 6) (ci := 0) (j := 1) (v := .int (σ 0 1)) Z hw (0) (by decide) rfl (fun _ => rfl) rfl iX2 (by decide) q_1_236 rfl rfl dX2_empty_1 ?_
  refine lv_istore_n (lv' := [(1, .int (σ 0 1)), (0, .ref (ad 0))]) hx hb dX2_empty_4 rfl hl (by decide) rfl (fun ls hl => ?_)
  refine lv_aload_n hx hb dX2_empty_5 rfl (lv_at hl 1 rfl) ?_
  refine lv_iconst (v := 0) hx hb dX2_empty_6 (by decide +kernel) ?_
  refine pO (C := "NestedBells$CommandText") (TC := TX2) (NF := 6) (ci := 0) (j := 1) (ty0 := tyX2) Z hw (0) (by decide) rfl (fun _ => rfl) rfl iX2 tyX2_ok nmX2 (by decide) q_1_236 rfl rfl rfl rfl (Nat.le_of_ble_eq_true rfl) dX2_empty_7 (fun H locs hw => ?_)
  refine lv_iload_n hx hb dX2_empty_10 rfl (lv_at hl 0 rfl) ?_
  exact rt_i Z hr hlk hw dX2_empty_11 (pI.mk rfl (InvX.len (by decide) I0))
abbrev rmX2_rewind : Room := { frames := 0, cells := 0, slots := 0, locals := 0 }
def f_X2_rewind (σ : St) : St := up2 (up2 σ 0 2 0) 0 3 (-1)
theorem v_X2_rewind : cvV yX2_rewind "NestedBells$CommandText" cX2_rewind 1 none 0 := ⟨q_2_51, q_2_52, q_1_7, q_2_53, rfl, by decide +kernel, by decide +kernel, by decide +kernel⟩
set_option maxHeartbeats 4000000 in
set_option maxRecDepth 100000 in
theorem k_X2_rewind {l : Launch} {D : va_G} {T : Nat → ClassId} {g ad : Nat → Nat} {σ : St} (I0 : InvX σ) : mX l yX2_rewind cX2_rewind 1 none rmX2_rewind D T g 3 ad (cE (xE g T ad) σ) [.ref (ad 0)] (qV D 3 ad (xE g T ad) (pV (f_X2_rewind σ) InvX)) := by
  refine mX.of (own := "NestedBells$CommandText") (by decide +kernel) (Nat.le_of_ble_eq_true rfl) rfl ?_
  intro p e s m below meth c A ls H locs Z hr hlk _ hw hl
  have hx := Z.1.1
  have hb := Z.1.2.1
  have hl : lv_has ls 1 [(0, .ref (ad 0))] := hl
  refine lv_aload_n hx hb dX2_rewind_0 rfl (lv_at hl 0 rfl) ?_
  refine lv_iconst (v := 0) hx hb dX2_rewind_1 (by decide +kernel) ?_
  refine pO (C := "NestedBells$CommandText") (TC := TX2) (NF := 6) (ci := 0) (j := 2) (ty0 := tyX2) Z hw (0) (by decide) rfl (fun _ => rfl) rfl iX2 tyX2_ok nmX2 (by decide) q_1_238 rfl rfl rfl rfl (Nat.le_of_ble_eq_true rfl) dX2_rewind_2 (fun H locs hw => ?_)
  refine lv_aload_n hx hb dX2_rewind_5 rfl (lv_at hl 0 rfl) ?_
  refine lv_iconst (v := (-1)) hx hb dX2_rewind_6 (by decide +kernel) ?_
  refine pO (C := "NestedBells$CommandText") (TC := TX2) (NF := 6) (ci := 0) (j := 3) (ty0 := tyX2) Z hw (0) (by decide) rfl (fun _ => rfl) rfl iX2 tyX2_ok nmX2 (by decide) q_1_239 rfl rfl rfl rfl (Nat.le_of_ble_eq_true rfl) dX2_rewind_7 (fun H locs hw => ?_)
  exact rt_v Z hr hlk hw dX2_rewind_10 ⟨Eq.symm rfl, (InvX.up (InvX.at (by decide) I0) (by decide))⟩
abbrev rmX2_byteHere : Room := { frames := 0, cells := 0, slots := 0, locals := 0 }
def f_X2_byteHere (σ : St) : Int32 := (if (σ 0 1) ≤ (σ 0 2) then (-1) else σ 1 ((σ 0 2).toNatClampNeg))
theorem v_X2_byteHere : cvV yX2_byteHere "NestedBells$CommandText" cX2_byteHere 1 (some (.int)) 0 := ⟨q_2_130, s_5, q_1_7, q_2_131, rfl, by decide +kernel, by decide +kernel, by decide +kernel⟩
set_option maxHeartbeats 4000000 in
set_option maxRecDepth 100000 in
theorem k_X2_byteHere {l : Launch} {D : va_G} {T : Nat → ClassId} {g ad : Nat → Nat} {σ : St} (I0 : InvX σ) : mX l yX2_byteHere cX2_byteHere 1 (some (.int)) rmX2_byteHere D T g 3 ad (cE (xE g T ad) σ) [.ref (ad 0)] (qI D 3 ad (xE g T ad) (pR (f_X2_byteHere σ) σ)) := by
  refine mX.of (own := "NestedBells$CommandText") (by decide +kernel) (Nat.le_of_ble_eq_true rfl) rfl ?_
  intro p e s m below meth c A ls H locs Z hr hlk _ hw hl
  have hx := Z.1.1
  have hb := Z.1.2.1
  have hl : lv_has ls 1 [(0, .ref (ad 0))] := hl
  refine lv_aload_n hx hb dX2_byteHere_0 rfl (lv_at hl 0 rfl) ?_
  refine gO (C := "NestedBells$CommandText") (TC := TX2) (NF := 6) (ci := 0) (j := 2) (v := .int (σ 0 2)) Z hw (0) (by decide) rfl (fun _ => rfl) rfl iX2 (by decide) q_1_238 rfl rfl dX2_byteHere_1 ?_
  refine lv_aload_n hx hb dX2_byteHere_4 rfl (lv_at hl 0 rfl) ?_
  refine gO (C := "NestedBells$CommandText") (TC := TX2) (NF := 6) (ci := 0) (j := 1) (v := .int (σ 0 1)) Z hw (0) (by decide) rfl (fun _ => rfl) rfl iX2 (by decide) q_1_236 rfl rfl dX2_byteHere_5 ?_
  refine lv_icmp_ge (tgt := 23) hx hb dX2_byteHere_8 (by decide) (fun c8 => ?_) (fun c8 => ?_)
  · refine lv_iconst (v := (-1)) hx hb dX2_byteHere_23 (by decide +kernel) ?_
    exact rt_i Z hr hlk hw dX2_byteHere_24 ⟨Eq.symm (lf_t c8 rfl), rfl⟩
  · refine lv_aload_n hx hb dX2_byteHere_11 rfl (lv_at hl 0 rfl) ?_
    refine gO (C := "NestedBells$CommandText") (TC := TX2) (NF := 6) (ci := 0) (j := 0) (v := .ref (ad 1)) Z hw (0) (by decide) rfl (fun _ => rfl) rfl iX2 (by decide) q_1_235 rfl rfl dX2_byteHere_12 ?_
    refine lv_aload_n hx hb dX2_byteHere_15 rfl (lv_at hl 0 rfl) ?_
    refine gO (C := "NestedBells$CommandText") (TC := TX2) (NF := 6) (ci := 0) (j := 2) (v := .int (σ 0 2)) Z hw (0) (by decide) rfl (fun _ => rfl) rfl iX2 (by decide) q_1_238 rfl rfl dX2_byteHere_16 ?_
    refine aBy (v := σ 1 ((σ 0 2).toNatClampNeg)) Z hw 1 (by decide) rfl (fun _ => rfl) (tx_lt I0 c8) rfl dX2_byteHere_19 ?_
    refine lv_goto (tgt := 24) hx hb dX2_byteHere_20 (by decide) ?_
    exact rt_i Z hr hlk hw dX2_byteHere_24 ⟨Eq.symm (lf_f c8 rfl), rfl⟩
abbrev rmX2_isDigitHere : Room := { frames := 1, cells := 0, slots := 0, locals := 20 }
def f_X2_isDigitHere (σ : St) : Int32 := (let r1 := f_X2_byteHere σ; (if r1 < 48 then 0 else (let r10 := f_X2_byteHere σ; (if 57 < r10 then 0 else 1))))
theorem v_X2_isDigitHere : cvV yX2_isDigitHere "NestedBells$CommandText" cX2_isDigitHere 1 (some (.boolean)) 0 := ⟨q_2_126, s_4, q_1_7, q_2_127, rfl, by decide +kernel, by decide +kernel, by decide +kernel⟩
set_option maxHeartbeats 4000000 in
set_option maxRecDepth 100000 in
theorem k_X2_isDigitHere {l : Launch} {D : va_G} {T : Nat → ClassId} {g ad : Nat → Nat} {σ : St} (I0 : InvX σ) : mX l yX2_isDigitHere cX2_isDigitHere 1 (some (.boolean)) rmX2_isDigitHere D T g 3 ad (cE (xE g T ad) σ) [.ref (ad 0)] (qI D 3 ad (xE g T ad) (pR (f_X2_isDigitHere σ) σ)) := by
  refine mX.of (own := "NestedBells$CommandText") (by decide +kernel) (Nat.le_of_ble_eq_true rfl) rfl ?_
  intro p e s m below meth c A ls H locs Z hr hlk _ hw hl
  have hx := Z.1.1
  have hb := Z.1.2.1
  have hl : lv_has ls 1 [(0, .ref (ad 0))] := hl
  refine lv_aload_n hx hb dX2_isDigitHere_0 rfl (lv_at hl 0 rfl) ?_
  refine bk_ip (rnV (rest := []) Z hw (k_X2_byteHere  I0) v_X2_byteHere q_2_128 (0) (by decide) rfl ((fun _ => rfl) _) rfl rfl hl.1 rfl rfl (Nat.le_of_ble_eq_true rfl) ⟨(Nat.le_of_ble_eq_true rfl), (Nat.le_of_ble_eq_true rfl)⟩ ⟨(Nat.le_of_ble_eq_true rfl), (Nat.le_of_ble_eq_true rfl)⟩ dX2_isDigitHere_1) hw Z (fun r1 er1 H locs hw => ?_)
  refine lv_bipush (v := 48) hx hb dX2_isDigitHere_4 (by decide +kernel) ?_
  refine lv_icmp_lt (tgt := 22) hx hb dX2_isDigitHere_6 (by decide) (fun c6 => ?_) (fun c6 => ?_)
  · refine lv_iconst (v := 0) hx hb dX2_isDigitHere_22 (by decide +kernel) ?_
    exact rt_z Z hr hlk hw rfl dX2_isDigitHere_23 ⟨Eq.symm (by subst er1; exact (lf_t c6 rfl)), rfl⟩
  · refine lv_aload_n hx hb dX2_isDigitHere_9 rfl (lv_at hl 0 rfl) ?_
    refine bk_ip (rnV (rest := []) Z hw (k_X2_byteHere  I0) v_X2_byteHere q_2_128 (0) (by decide) rfl ((fun _ => rfl) _) rfl rfl hl.1 rfl rfl (Nat.le_of_ble_eq_true rfl) ⟨(Nat.le_of_ble_eq_true rfl), (Nat.le_of_ble_eq_true rfl)⟩ ⟨(Nat.le_of_ble_eq_true rfl), (Nat.le_of_ble_eq_true rfl)⟩ dX2_isDigitHere_10) hw Z (fun r10 er10 H locs hw => ?_)
    refine lv_bipush (v := 57) hx hb dX2_isDigitHere_13 (by decide +kernel) ?_
    refine lv_icmp_gt (tgt := 22) hx hb dX2_isDigitHere_15 (by decide) (fun c15 => ?_) (fun c15 => ?_)
    · refine lv_iconst (v := 0) hx hb dX2_isDigitHere_22 (by decide +kernel) ?_
      exact rt_z Z hr hlk hw rfl dX2_isDigitHere_23 ⟨Eq.symm (by subst er10 er1; exact (lf_f c6 (lf_t c15 rfl))), rfl⟩
    · refine lv_iconst (v := 1) hx hb dX2_isDigitHere_18 (by decide +kernel) ?_
      refine lv_goto (tgt := 23) hx hb dX2_isDigitHere_19 (by decide) ?_
      exact rt_z Z hr hlk hw rfl dX2_isDigitHere_23 ⟨Eq.symm (by subst er10 er1; exact (lf_f c6 (lf_f c15 rfl))), rfl⟩
theorem dig_lt {σ : St} {r : Int32} (er : f_X2_isDigitHere σ = r) (h : ¬ r = 0) : ¬ σ 0 1 ≤ σ 0 2 := by
  intro c
  have e : f_X2_byteHere σ = -1 := if_pos c
  unfold f_X2_isDigitHere at er
  dsimp only at er
  rw [e, if_pos (by decide)] at er
  exact h er.symm
theorem dig_nar {σ : St} {r : Int32} (er : f_X2_isDigitHere σ = r) : narrow .boolean (.int r) = .int r := by
  subst er
  unfold f_X2_isDigitHere
  dsimp only
  split
  · rfl
  · split <;> rfl

abbrev rmX2_skipSpaces : Room := { frames := 0, cells := 0, slots := 0, locals := 0 }
def f_X2_skipSpaces_l0 : Nat → St → St
  | 0, t0 => (t0)
  | n0 + 1, t0 => (if (t0 0 1) ≤ (t0 0 2) then t0 else (if (t0 1 ((t0 0 2).toNatClampNeg)) = 32 then (f_X2_skipSpaces_l0 n0 (up2 t0 0 2 ((t0 0 2) + 1))) else t0))
def f_X2_skipSpaces (σ : St) : St := (let u0 := (f_X2_skipSpaces_l0 fu151 σ); u0)
theorem v_X2_skipSpaces : cvV yX2_skipSpaces "NestedBells$CommandText" cX2_skipSpaces 1 none 0 := ⟨q_2_60, s_0, q_1_7, q_2_61, rfl, by decide +kernel, by decide +kernel, by decide +kernel⟩
set_option maxHeartbeats 4000000 in
set_option maxRecDepth 100000 in
theorem L_X2_skipSpaces_0 {l : Launch} {D : va_G} {T : Nat → ClassId} {g ad : Nat → Nat} {p : Program} {e : Env} {s : State} {m : MethodId} {below : List Frame} {meth : Method} {c : Code} {A : Nat → Prop} {Qw : State → Prop} (Z : en p m c cX2_skipSpaces 1 s [.ref (ad 0)].toArray "NestedBells$CommandText" D T g A) : ∀ (n0 : Nat) (t0 : St) (H : Heap) (locs : List Loc) (ls : Array Slot), mz t0 n0 → InvX t0 → wo D A s.heap 3 ad (cE (xE g T ad) t0) H locs → lv_has ls 1 [(0, .ref (ad 0))] → (∀ (u0 : St) (H : Heap) (locs : List Loc) (ls : Array Slot), (f_X2_skipSpaces_l0 n0 t0) = u0 → InvX u0 → wo D A s.heap 3 ad (cE (xE g T ad) u0) H locs → lv_has ls 1 [] → W p l e rmX2_skipSpaces s m [.ref (ad 0)].toArray below meth c H locs 0 0 Qw (F0 m 38 ls [])) → W p l e rmX2_skipSpaces s m [.ref (ad 0)].toArray below meth c H locs 0 0 Qw (F0 m 0 ls []) := by
  have hx := Z.1.1
  have hb := Z.1.2.1
  intro n0
  induction n0 with
  | zero =>
    intro t0 H locs ls hn0 It0 hw hl kk
    exact absurd hn0.2 (by omega)
  | succ n0 ih =>
    intro t0 H locs ls hn0 It0 hw hl kk
    refine lv_aload_n hx hb dX2_skipSpaces_0 rfl (lv_at hl 0 rfl) ?_
    refine gO (C := "NestedBells$CommandText") (TC := TX2) (NF := 6) (ci := 0) (j := 2) (v := .int (t0 0 2)) Z hw (0) (by decide) rfl (fun _ => rfl) rfl iX2 (by decide) q_1_238 rfl rfl dX2_skipSpaces_1 ?_
    refine lv_aload_n hx hb dX2_skipSpaces_4 rfl (lv_at hl 0 rfl) ?_
    refine gO (C := "NestedBells$CommandText") (TC := TX2) (NF := 6) (ci := 0) (j := 1) (v := .int (t0 0 1)) Z hw (0) (by decide) rfl (fun _ => rfl) rfl iX2 (by decide) q_1_236 rfl rfl dX2_skipSpaces_5 ?_
    refine lv_icmp_ge (tgt := 38) hx hb dX2_skipSpaces_8 (by decide) (fun c8 => ?_) (fun c8 => ?_)
    · exact kk _ H locs ls (Eq.symm (lf_t c8 rfl)) It0 hw (lv_sub hl [] rfl)
    · refine lv_aload_n hx hb dX2_skipSpaces_11 rfl (lv_at hl 0 rfl) ?_
      refine gO (C := "NestedBells$CommandText") (TC := TX2) (NF := 6) (ci := 0) (j := 0) (v := .ref (ad 1)) Z hw (0) (by decide) rfl (fun _ => rfl) rfl iX2 (by decide) q_1_235 rfl rfl dX2_skipSpaces_12 ?_
      refine lv_aload_n hx hb dX2_skipSpaces_15 rfl (lv_at hl 0 rfl) ?_
      refine gO (C := "NestedBells$CommandText") (TC := TX2) (NF := 6) (ci := 0) (j := 2) (v := .int (t0 0 2)) Z hw (0) (by decide) rfl (fun _ => rfl) rfl iX2 (by decide) q_1_238 rfl rfl dX2_skipSpaces_16 ?_
      refine aBy (v := t0 1 ((t0 0 2).toNatClampNeg)) Z hw 1 (by decide) rfl (fun _ => rfl) (tx_lt It0 c8) rfl dX2_skipSpaces_19 ?_
      refine lv_bipush (v := 32) hx hb dX2_skipSpaces_20 (by decide +kernel) ?_
      refine lv_icmp_ne (tgt := 38) hx hb dX2_skipSpaces_22 (by decide) (fun c22 => ?_) (fun c22 => ?_)
      · exact kk _ H locs ls (Eq.symm (lf_f c8 (lf_f c22 rfl))) It0 hw (lv_sub hl [] rfl)
      · refine lv_aload_n hx hb dX2_skipSpaces_25 rfl (lv_at hl 0 rfl) ?_
        refine lv_dup hx hb dX2_skipSpaces_26 rfl ?_
        refine gO (C := "NestedBells$CommandText") (TC := TX2) (NF := 6) (ci := 0) (j := 2) (v := .int (t0 0 2)) Z hw (0) (by decide) rfl (fun _ => rfl) rfl iX2 (by decide) q_1_238 rfl rfl dX2_skipSpaces_27 ?_
        refine lv_iconst (v := 1) hx hb dX2_skipSpaces_30 (by decide +kernel) ?_
        refine lv_iadd hx hb dX2_skipSpaces_31 ?_
        refine pO (C := "NestedBells$CommandText") (TC := TX2) (NF := 6) (ci := 0) (j := 2) (ty0 := tyX2) Z hw (0) (by decide) rfl (fun _ => rfl) rfl iX2 tyX2_ok nmX2 (by decide) q_1_238 rfl rfl rfl rfl (Nat.le_of_ble_eq_true rfl) dX2_skipSpaces_32 (fun H locs hw => ?_)
        refine lv_goto (tgt := 0) hx hb dX2_skipSpaces_35 (by decide) ?_
        exact ih (up2 t0 0 2 ((t0 0 2) + 1)) H locs ls (mz_s It0 c8 hn0 (by rw [up2_j (by decide)]) (by rw [up2_s])) (InvX.at (tx_inc It0 c8).1 It0) hw (lv_sub hl [0] rfl) (fun u0 H locs ls eu0 I0 hw hl => kk u0 H locs ls (Eq.trans (Eq.symm (show (f_X2_skipSpaces_l0 n0 (up2 t0 0 2 ((t0 0 2) + 1))) = _ from (lf_f c8 (lf_t c22 rfl)))) eu0) I0 hw hl)
set_option maxHeartbeats 4000000 in
set_option maxRecDepth 100000 in
theorem k_X2_skipSpaces {l : Launch} {D : va_G} {T : Nat → ClassId} {g ad : Nat → Nat} {σ : St} (I0 : InvX σ) : mX l yX2_skipSpaces cX2_skipSpaces 1 none rmX2_skipSpaces D T g 3 ad (cE (xE g T ad) σ) [.ref (ad 0)] (qV D 3 ad (xE g T ad) (pV (f_X2_skipSpaces σ) InvX)) := by
  refine mX.of (own := "NestedBells$CommandText") (by decide +kernel) (Nat.le_of_ble_eq_true rfl) rfl ?_
  intro p e s m below meth c A ls H locs Z hr hlk _ hw hl
  have hx := Z.1.1
  have hb := Z.1.2.1
  have hl : lv_has ls 1 [(0, .ref (ad 0))] := hl
  refine L_X2_skipSpaces_0 Z fu151 σ H locs ls (mz_0 I0) I0 hw (lv_sub hl [0] rfl) (fun u0 H locs ls eu0 I0 hw hl => ?_)
  exact rt_v Z hr hlk hw dX2_skipSpaces_38 ⟨Eq.symm (by subst eu0; exact rfl), I0⟩
abbrev rmX2_readNumber : Room := { frames := 2, cells := 0, slots := 0, locals := 40 }
def f_X2_readNumber_l44 : Nat → Nat → Int32 → St → Int32 × St
  | 0, k44, a44_3, t44 => (a44_3, t44)
  | n44 + 1, k44, a44_3, t44 => (if 3 ≤ (nI k44) then (a44_3, t44) else (let r51 := f_X2_isDigitHere t44; (if r51 = 0 then (a44_3, t44) else (let r62 := f_X2_byteHere t44; (f_X2_readNumber_l44 n44 (k44 + 1) (((10 * a44_3) + r62) - 48) (up2 t44 0 2 ((t44 0 2) + 1)))))))
def f_X2_readNumber (σ : St) (p1 : Int32) : Int32 × St := (let s6 := f_X2_skipSpaces σ; (if (s6 0 2) = (σ 0 2) then (0, up2 s6 0 3 (s6 0 2)) else (let r18 := f_X2_isDigitHere s6; (if r18 = 0 then (0, up2 s6 0 3 (s6 0 2)) else (if p1 < 4 then (let w44_3 := (f_X2_readNumber_l44 fu4 0 0 s6).1; let u44 := (f_X2_readNumber_l44 fu4 0 0 s6).2; (1, up2 u44 2 p1.toNatClampNeg w44_3)) else (0, up2 s6 0 3 (s6 0 2)))))))
theorem v_X2_readNumber : cvV yX2_readNumber "NestedBells$CommandText" cX2_readNumber 5 (some (.boolean)) 1 := ⟨q_2_122, s_3, q_1_7, q_2_123, rfl, by decide +kernel, by decide +kernel, by decide +kernel⟩
set_option maxHeartbeats 4000000 in
set_option maxRecDepth 100000 in
theorem L_X2_readNumber_44 {l : Launch} {D : va_G} {T : Nat → ClassId} {g ad : Nat → Nat} {p : Program} {e : Env} {s : State} {m : MethodId} {below : List Frame} {meth : Method} {c : Code} {A : Nat → Prop} {Qw : State → Prop} {p1 : Int32} (Z : en p m c cX2_readNumber 5 s [.ref (ad 0), .int p1].toArray "NestedBells$CommandText" D T g A) : ∀ (n44 : Nat) (k44 : Nat) (a44_3 : Int32) (t44 : St) (H : Heap) (locs : List Loc) (ls : Array Slot), k44 ≤ 3 → 3 < k44 + n44 → InvX t44 → wo D A s.heap 3 ad (cE (xE g T ad) t44) H locs → lv_has ls 5 [(4, .int (nI k44)), (3, .int a44_3), (0, .ref (ad 0)), (1, .int p1)] → (∀ (w44_3 : Int32) (u44 : St) (H : Heap) (locs : List Loc) (ls : Array Slot), (f_X2_readNumber_l44 n44 k44 a44_3 t44).1 = w44_3 → (f_X2_readNumber_l44 n44 k44 a44_3 t44).2 = u44 → InvX u44 → wo D A s.heap 3 ad (cE (xE g T ad) u44) H locs → lv_has ls 5 [(3, .int w44_3), (0, .ref (ad 0)), (1, .int p1)] → W p l e rmX2_readNumber s m [.ref (ad 0), .int p1].toArray below meth c H locs 0 0 Qw (F0 m 86 ls [])) → W p l e rmX2_readNumber s m [.ref (ad 0), .int p1].toArray below meth c H locs 0 0 Qw (F0 m 44 ls []) := by
  have hx := Z.1.1
  have hb := Z.1.2.1
  intro n44
  induction n44 with
  | zero =>
    intro k44 a44_3 t44 H locs ls hk44 hn44 It44 hw hl kk
    exact absurd hn44 (by omega)
  | succ n44 ih =>
    intro k44 a44_3 t44 H locs ls hk44 hn44 It44 hw hl kk
    refine lv_iload hx hb dX2_readNumber_44 (lv_at hl 0 rfl) ?_
    refine lv_iconst (v := 3) hx hb dX2_readNumber_46 (by decide +kernel) ?_
    refine lv_icmp_ge (tgt := 86) hx hb dX2_readNumber_47 (by decide) (fun c47 => ?_) (fun c47 => ?_)
    · exact kk _ _ H locs ls (Eq.symm (congrArg (fun z : Int32 × St => z.1) (show (a44_3, t44) = _ from (lf_t c47 rfl)))) (Eq.symm (congrArg (fun z : Int32 × St => z.2) (show (a44_3, t44) = _ from (lf_t c47 rfl)))) It44 hw (lv_sub hl [1, 2, 3] rfl)
    · have hkb44 : k44 < 3 := kb_ge c47 (by decide) hk44 (by decide)
      refine lv_aload_n hx hb dX2_readNumber_50 rfl (lv_at hl 2 rfl) ?_
      refine bk_ip (rnV (rest := []) Z hw (k_X2_isDigitHere  It44) v_X2_isDigitHere q_2_124 (0) (by decide) rfl ((fun _ => rfl) _) rfl rfl hl.1 rfl rfl (Nat.le_of_ble_eq_true rfl) ⟨(Nat.le_of_ble_eq_true rfl), (Nat.le_of_ble_eq_true rfl)⟩ ⟨(Nat.le_of_ble_eq_true rfl), (Nat.le_of_ble_eq_true rfl)⟩ dX2_readNumber_51) hw Z (fun r51 er51 H locs hw => ?_)
      refine lv_if_eq (tgt := 86) hx hb dX2_readNumber_54 (by decide) (fun c54 => ?_) (fun c54 => ?_)
      · exact kk _ _ H locs ls (Eq.symm (congrArg (fun z : Int32 × St => z.1) (show (a44_3, t44) = _ from (by subst er51; exact (lf_f c47 (lf_t c54 rfl)))))) (Eq.symm (congrArg (fun z : Int32 × St => z.2) (show (a44_3, t44) = _ from (by subst er51; exact (lf_f c47 (lf_t c54 rfl)))))) It44 hw (lv_sub hl [1, 2, 3] rfl)
      · refine lv_bipush (v := 10) hx hb dX2_readNumber_57 (by decide +kernel) ?_
        refine lv_iload_n hx hb dX2_readNumber_59 rfl (lv_at hl 1 rfl) ?_
        refine lv_imul hx hb dX2_readNumber_60 ?_
        refine lv_aload_n hx hb dX2_readNumber_61 rfl (lv_at hl 2 rfl) ?_
        refine bk_ip (rnV (rest := [.int (10 * a44_3)]) Z hw (k_X2_byteHere  It44) v_X2_byteHere q_2_128 (0) (by decide) rfl ((fun _ => rfl) _) rfl rfl hl.1 rfl rfl (Nat.le_of_ble_eq_true rfl) ⟨(Nat.le_of_ble_eq_true rfl), (Nat.le_of_ble_eq_true rfl)⟩ ⟨(Nat.le_of_ble_eq_true rfl), (Nat.le_of_ble_eq_true rfl)⟩ dX2_readNumber_62) hw Z (fun r62 er62 H locs hw => ?_)
        refine lv_iadd hx hb dX2_readNumber_65 ?_
        refine lv_bipush (v := 48) hx hb dX2_readNumber_66 (by decide +kernel) ?_
        refine lv_isub hx hb dX2_readNumber_68 ?_
        refine lv_istore_n (lv' := [(3, .int (((10 * a44_3) + r62) - 48)), (4, .int (nI k44)), (0, .ref (ad 0)), (1, .int p1)]) hx hb dX2_readNumber_69 rfl hl (by decide) rfl (fun ls hl => ?_)
        refine lv_aload_n hx hb dX2_readNumber_70 rfl (lv_at hl 2 rfl) ?_
        refine lv_dup hx hb dX2_readNumber_71 rfl ?_
        refine gO (C := "NestedBells$CommandText") (TC := TX2) (NF := 6) (ci := 0) (j := 2) (v := .int (t44 0 2)) Z hw (0) (by decide) rfl (fun _ => rfl) rfl iX2 (by decide) q_1_238 rfl rfl dX2_readNumber_72 ?_
        refine lv_iconst (v := 1) hx hb dX2_readNumber_75 (by decide +kernel) ?_
        refine lv_iadd hx hb dX2_readNumber_76 ?_
        refine pO (C := "NestedBells$CommandText") (TC := TX2) (NF := 6) (ci := 0) (j := 2) (ty0 := tyX2) Z hw (0) (by decide) rfl (fun _ => rfl) rfl iX2 tyX2_ok nmX2 (by decide) q_1_238 rfl rfl rfl rfl (Nat.le_of_ble_eq_true rfl) dX2_readNumber_77 (fun H locs hw => ?_)
        refine lv_iinc (v := nI (k44 + 1)) (lv' := [(4, .int (nI (k44 + 1))), (3, .int (((10 * a44_3) + r62) - 48)), (0, .ref (ad 0)), (1, .int p1)]) hx hb dX2_readNumber_80 hl (k := 1) rfl (nI_1 _) (by decide) rfl (fun ls hl => ?_)
        refine lv_goto (tgt := 44) hx hb dX2_readNumber_83 (by decide) ?_
        exact ih (k44 + 1) (((10 * a44_3) + r62) - 48) (up2 t44 0 2 ((t44 0 2) + 1)) H locs ls (by omega) (by omega) (InvX.at (tx_inc It44 (dig_lt er51 c54)).1 It44) hw (lv_sub hl [0, 1, 2, 3] rfl) (fun w44_3 u44 H locs ls ew44_3 eu44 I44 hw hl => kk w44_3 u44 H locs ls (Eq.trans (Eq.symm (congrArg (fun z : Int32 × St => z.1) (show (f_X2_readNumber_l44 n44 (k44 + 1) (((10 * a44_3) + r62) - 48) (up2 t44 0 2 ((t44 0 2) + 1))) = _ from (by subst er62 er51; exact (lf_f c47 (lf_f c54 rfl)))))) ew44_3) (Eq.trans (Eq.symm (congrArg (fun z : Int32 × St => z.2) (show (f_X2_readNumber_l44 n44 (k44 + 1) (((10 * a44_3) + r62) - 48) (up2 t44 0 2 ((t44 0 2) + 1))) = _ from (by subst er62 er51; exact (lf_f c47 (lf_f c54 rfl)))))) eu44) I44 hw hl)
set_option maxHeartbeats 4000000 in
set_option maxRecDepth 100000 in
theorem k_X2_readNumber {l : Launch} {D : va_G} {T : Nat → ClassId} {g ad : Nat → Nat} {σ : St} {p1 : Int32} (I0 : InvX σ) (h0 : 0 ≤ p1.toInt) : mX l yX2_readNumber cX2_readNumber 5 (some (.boolean)) rmX2_readNumber D T g 3 ad (cE (xE g T ad) σ) [.ref (ad 0), .int p1] (qI D 3 ad (xE g T ad) (pI (f_X2_readNumber σ p1) InvX)) := by
  refine mX.of (own := "NestedBells$CommandText") (by decide +kernel) (Nat.le_of_ble_eq_true rfl) rfl ?_
  intro p e s m below meth c A ls H locs Z hr hlk _ hw hl
  have hx := Z.1.1
  have hb := Z.1.2.1
  have hl : lv_has ls 5 [(0, .ref (ad 0)), (1, .int p1)] := hl
  refine lv_aload_n hx hb dX2_readNumber_0 rfl (lv_at hl 0 rfl) ?_
  refine gO (C := "NestedBells$CommandText") (TC := TX2) (NF := 6) (ci := 0) (j := 2) (v := .int (σ 0 2)) Z hw (0) (by decide) rfl (fun _ => rfl) rfl iX2 (by decide) q_1_238 rfl rfl dX2_readNumber_1 ?_
  refine lv_istore_n (lv' := [(2, .int (σ 0 2)), (0, .ref (ad 0)), (1, .int p1)]) hx hb dX2_readNumber_4 rfl hl (by decide) rfl (fun ls hl => ?_)
  refine lv_aload_n hx hb dX2_readNumber_5 rfl (lv_at hl 1 rfl) ?_
  refine bk_v (rnV (rest := []) Z hw (k_X2_skipSpaces  I0) v_X2_skipSpaces q_2_58 (0) (by decide) rfl ((fun _ => rfl) _) rfl rfl hl.1 rfl rfl (Nat.le_of_ble_eq_true rfl) ⟨(Nat.le_of_ble_eq_true rfl), (Nat.le_of_ble_eq_true rfl)⟩ ⟨(Nat.le_of_ble_eq_true rfl), (Nat.le_of_ble_eq_true rfl)⟩ dX2_readNumber_6) hw Z (fun s6 H locs hp hw => ?_)
  obtain ⟨es6, I6⟩ := hp
  refine lv_aload_n hx hb dX2_readNumber_9 rfl (lv_at hl 1 rfl) ?_
  refine gO (C := "NestedBells$CommandText") (TC := TX2) (NF := 6) (ci := 0) (j := 2) (v := .int (s6 0 2)) Z hw (0) (by decide) rfl (fun _ => rfl) rfl iX2 (by decide) q_1_238 rfl rfl dX2_readNumber_10 ?_
  refine lv_iload_n hx hb dX2_readNumber_13 rfl (lv_at hl 0 rfl) ?_
  refine lv_icmp_eq (tgt := 29) hx hb dX2_readNumber_14 (by decide) (fun c14 => ?_) (fun c14 => ?_)
  · refine lv_aload_n hx hb dX2_readNumber_29 rfl (lv_at hl 1 rfl) ?_
    refine lv_aload_n hx hb dX2_readNumber_30 rfl (lv_at hl 1 rfl) ?_
    refine gO (C := "NestedBells$CommandText") (TC := TX2) (NF := 6) (ci := 0) (j := 2) (v := .int (s6 0 2)) Z hw (0) (by decide) rfl (fun _ => rfl) rfl iX2 (by decide) q_1_238 rfl rfl dX2_readNumber_31 ?_
    refine pO (C := "NestedBells$CommandText") (TC := TX2) (NF := 6) (ci := 0) (j := 3) (ty0 := tyX2) Z hw (0) (by decide) rfl (fun _ => rfl) rfl iX2 tyX2_ok nmX2 (by decide) q_1_239 rfl rfl rfl rfl (Nat.le_of_ble_eq_true rfl) dX2_readNumber_34 (fun H locs hw => ?_)
    refine lv_iconst (v := 0) hx hb dX2_readNumber_37 (by decide +kernel) ?_
    exact rt_z Z hr hlk hw rfl dX2_readNumber_38 (pI.mk (by subst es6; exact (lf_t c14 rfl)) (InvX.up I6 (by decide)))
  · refine lv_aload_n hx hb dX2_readNumber_17 rfl (lv_at hl 1 rfl) ?_
    refine bk_ip (rnV (rest := []) Z hw (k_X2_isDigitHere  I6) v_X2_isDigitHere q_2_124 (0) (by decide) rfl ((fun _ => rfl) _) rfl rfl hl.1 rfl rfl (Nat.le_of_ble_eq_true rfl) ⟨(Nat.le_of_ble_eq_true rfl), (Nat.le_of_ble_eq_true rfl)⟩ ⟨(Nat.le_of_ble_eq_true rfl), (Nat.le_of_ble_eq_true rfl)⟩ dX2_readNumber_18) hw Z (fun r18 er18 H locs hw => ?_)
    refine lv_if_eq (tgt := 29) hx hb dX2_readNumber_21 (by decide) (fun c21 => ?_) (fun c21 => ?_)
    · refine lv_aload_n hx hb dX2_readNumber_29 rfl (lv_at hl 1 rfl) ?_
      refine lv_aload_n hx hb dX2_readNumber_30 rfl (lv_at hl 1 rfl) ?_
      refine gO (C := "NestedBells$CommandText") (TC := TX2) (NF := 6) (ci := 0) (j := 2) (v := .int (s6 0 2)) Z hw (0) (by decide) rfl (fun _ => rfl) rfl iX2 (by decide) q_1_238 rfl rfl dX2_readNumber_31 ?_
      refine pO (C := "NestedBells$CommandText") (TC := TX2) (NF := 6) (ci := 0) (j := 3) (ty0 := tyX2) Z hw (0) (by decide) rfl (fun _ => rfl) rfl iX2 tyX2_ok nmX2 (by decide) q_1_239 rfl rfl rfl rfl (Nat.le_of_ble_eq_true rfl) dX2_readNumber_34 (fun H locs hw => ?_)
      refine lv_iconst (v := 0) hx hb dX2_readNumber_37 (by decide +kernel) ?_
      exact rt_z Z hr hlk hw rfl dX2_readNumber_38 (pI.mk (by subst er18 es6; exact (lf_f c14 (lf_t c21 rfl))) (InvX.up I6 (by decide)))
    · refine lv_iload_n hx hb dX2_readNumber_24 rfl (lv_at hl 2 rfl) ?_
      refine lv_iconst (v := 4) hx hb dX2_readNumber_25 (by decide +kernel) ?_
      refine lv_icmp_lt (tgt := 39) hx hb dX2_readNumber_26 (by decide) (fun c26 => ?_) (fun c26 => ?_)
      · refine lv_iconst (v := 0) hx hb dX2_readNumber_39 (by decide +kernel) ?_
        refine lv_istore_n (lv' := [(3, .int 0), (2, .int (σ 0 2)), (0, .ref (ad 0)), (1, .int p1)]) hx hb dX2_readNumber_40 rfl hl (by decide) rfl (fun ls hl => ?_)
        refine lv_iconst (v := 0) hx hb dX2_readNumber_41 (by decide +kernel) ?_
        refine lv_istore (lv' := [(4, .int 0), (3, .int 0), (2, .int (σ 0 2)), (0, .ref (ad 0)), (1, .int p1)]) hx hb dX2_readNumber_42 hl (by decide) rfl (fun ls hl => ?_)
        refine L_X2_readNumber_44 (p1 := p1) Z fu4 0 0 s6 H locs ls (by omega) (by unfold fu4; omega) I6 hw (lv_sub hl [0, 1, 3, 4] rfl) (fun w44_3 u44 H locs ls ew44_3 eu44 I44 hw hl => ?_)
        refine lv_aload_n hx hb dX2_readNumber_86 rfl (lv_at hl 1 rfl) ?_
        refine gO (C := "NestedBells$CommandText") (TC := TX2) (NF := 6) (ci := 0) (j := 5) (v := .ref (ad 2)) Z hw (0) (by decide) rfl (fun _ => rfl) rfl iX2 (by decide) q_2_2 rfl rfl dX2_readNumber_87 ?_
        refine lv_iload_n hx hb dX2_readNumber_90 rfl (lv_at hl 2 rfl) ?_
        refine lv_iload_n hx hb dX2_readNumber_91 rfl (lv_at hl 0 rfl) ?_
        refine sE (j := p1.toNatClampNeg) Z hw 2 (by decide) rfl (fun _ => rfl) (vp_of h0 (by rw [i32_lt] at c26; exact c26)) rfl dX2_readNumber_92 (fun H locs hw => ?_)
        refine lv_iconst (v := 1) hx hb dX2_readNumber_93 (by decide +kernel) ?_
        exact rt_z Z hr hlk hw rfl dX2_readNumber_94 (pI.mk (by subst eu44 ew44_3 er18 es6; exact (lf_f c14 (lf_f c21 (lf_t c26 rfl)))) (InvX.up I44 (by unfold InvXcr; omega)))
      · refine lv_aload_n hx hb dX2_readNumber_29 rfl (lv_at hl 1 rfl) ?_
        refine lv_aload_n hx hb dX2_readNumber_30 rfl (lv_at hl 1 rfl) ?_
        refine gO (C := "NestedBells$CommandText") (TC := TX2) (NF := 6) (ci := 0) (j := 2) (v := .int (s6 0 2)) Z hw (0) (by decide) rfl (fun _ => rfl) rfl iX2 (by decide) q_1_238 rfl rfl dX2_readNumber_31 ?_
        refine pO (C := "NestedBells$CommandText") (TC := TX2) (NF := 6) (ci := 0) (j := 3) (ty0 := tyX2) Z hw (0) (by decide) rfl (fun _ => rfl) rfl iX2 tyX2_ok nmX2 (by decide) q_1_239 rfl rfl rfl rfl (Nat.le_of_ble_eq_true rfl) dX2_readNumber_34 (fun H locs hw => ?_)
        refine lv_iconst (v := 0) hx hb dX2_readNumber_37 (by decide +kernel) ?_
        exact rt_z Z hr hlk hw rfl dX2_readNumber_38 (pI.mk (by subst er18 es6; exact (lf_f c14 (lf_f c21 (lf_f c26 rfl)))) (InvX.up I6 (by decide)))
