theorem InvD.stk {σ : St} {k : Nat} (I : InvD σ) (h : (k : Int) < (σ 1 9).toInt) : 0 ≤ (σ 1 (10 + k)).toInt ∧ (σ 1 (10 + k)).toInt < 12 := by
  have h1 := I.1.2.2.2.1 k h
  have h2 := I.1.1
  omega
theorem of_lit {σ : St} {x : Int32} {w : Nat} (hw : w < 2 ^ 31) : f_X9_of σ x (nI w) = σ 1 (ix x + w) := by
  unfold f_X9_of
  rw [nI_clamp hw]
theorem sec_of {σ : St} {x r : Int32} (I : InvD σ) (h : 0 ≤ x.toInt ∧ x.toInt < 12) (er : f_X9_of σ x 7 = r) : 0 ≤ r.toInt ∧ r.toInt ≤ 2 := by
  rw [← er, show (7 : Int32) = nI 7 from rfl, of_lit (by decide)]
  obtain ⟨k, hk, rfl⟩ := of_nI (n := 12) h (by decide)
  have := I.1.2.2.2.2.2.2 k hk
  rw [ix, nI_clamp (by omega), show 93 + 24 * k + 7 = 100 + 24 * k by omega]
  exact this
theorem w_3 {x : Int32} {a : Nat} (h : 0 ≤ x.toInt ∧ x.toInt < 2) (ha : a < 20) : nI a + 3 * x = nI (a + 3 * x.toNatClampNeg) := by
  obtain ⟨k, hk, rfl⟩ := of_nI (n := 2) h (by decide)
  rw [nI_clamp (by omega), show (3 : Int32) = nI 3 from rfl, pk_mul, nI_add]
theorem w8 {x : Int32} (h : 0 ≤ x.toInt ∧ x.toInt < 2) : 0 ≤ (8 + 3 * x).toInt ∧ (8 + 3 * x).toInt < 24 := by
  obtain ⟨k, hk, rfl⟩ := of_nI (n := 2) h (by decide)
  have key : ∀ k, k < 2 → 0 ≤ (8 + 3 * nI k).toInt ∧ (8 + 3 * nI k).toInt < 24 := by decide +kernel
  exact key k hk
theorem w8p {x y : Int32} (h : 0 ≤ x.toInt ∧ x.toInt < 2) (hy : 0 ≤ y.toInt ∧ y.toInt < 4) : 0 ≤ (8 + 3 * x + y).toInt ∧ (8 + 3 * x + y).toInt < 24 := by
  obtain ⟨k, hk, rfl⟩ := of_nI (n := 2) h (by decide)
  obtain ⟨j, hj, rfl⟩ := of_nI (n := 4) hy (by decide)
  have key : ∀ k, k < 2 → ∀ j, j < 4 → 0 ≤ (8 + 3 * nI k + nI j).toInt ∧ (8 + 3 * nI k + nI j).toInt < 24 := by decide +kernel
  exact key k hk j hj
theorem InvD.change {σ : St} {a b c : Int32} (I : InvD σ) (h : (a = 1 ∨ a = 3) → eOK σ b) : InvD (up2 (up2 (up2 σ 1 5 a) 1 6 b) 1 7 c) := by
  refine I.row ?_ ?_ ?_ ?_
  · rw [up2_rowk (by decide), up2_rowk (by decide), up2_rowk (by decide)]
  · rw [up2_rowk (by decide), up2_rowk (by decide), up2_rowk (by decide)]
  · rw [up2_rowk (by decide), up2_rowk (by decide), up2_rowk (by decide)]
  · rw [up2_row, up2_row, up2_row]
    exact I.1.change h
theorem ch_p {c : Prop} [Decidable c] {a v : Int32} (e : (if c then a else 0) = v) (h : v = 1 ∨ v = 3) : a = 1 ∨ a = 3 := by
  subst e
  by_cases hc : c
  · rw [if_pos hc] at h; exact h
  · rw [if_neg hc] at h; rcases h with h | h <;> exact absurd h (by decide)
theorem no13 {P : Prop} {a : Int32} (h1 : ¬ a = 1) (h3 : ¬ a = 3) : (a = 1 ∨ a = 3) → P := fun h => absurd h (by rintro (h | h) <;> contradiction)

abbrev rmX9_isInForce : Room := { frames := 2, cells := 0, slots := 0, locals := 42 }
def f_X9_isInForce (σ : St) (p1 : Int32) (p2 : Int32) : Int32 := (let r8 := f_X9_of σ p1 (8 + (3 * p2)); (let r14 := f_X9_placeOf σ p1; (if r14 = (-1) then 0 else (let r25 := f_X9_of σ p1 16; (let r40 := f_X9_of σ p1 ((8 + (3 * p2)) + 1); (let r46 := f_X9_in r25 r8 ((r8 + r40) - 1); (if r46 = 0 then 0 else 1)))))))
theorem v_X9_isInForce : cvV yX9_isInForce "NestedBellsModel" cX9_isInForce 4 (some (.boolean)) 2 := ⟨q_5_169, s_58, q_1_10, q_5_170, rfl, by decide +kernel, by decide +kernel, by decide +kernel⟩
set_option maxHeartbeats 4000000 in
set_option maxRecDepth 100000 in
theorem k_X9_isInForce {l : Launch} {D : va_G} {T : Nat → ClassId} {g ad : Nat → Nat} {σ : St} {p1 : Int32} {p2 : Int32} (I0 : InvD σ) (hs : 0 ≤ p1.toInt ∧ p1.toInt < 12) (h2 : 0 ≤ p2.toInt ∧ p2.toInt < 2) : mX l yX9_isInForce cX9_isInForce 4 (some (.boolean)) rmX9_isInForce D T g 6 ad (cE (dE T ad) σ) [.ref (ad 0), .int p1, .int p2] (qI D 6 ad (dE T ad) (pR (f_X9_isInForce σ p1 p2) σ)) := by
  refine mX.of (own := "NestedBellsModel") (by decide +kernel) (Nat.le_of_ble_eq_true rfl) rfl ?_
  intro p e s m below meth c A ls H locs Z hr hlk _ hw hl
  have hx := Z.1.1
  have hb := Z.1.2.1
  have hl : lv_has ls 4 [(0, .ref (ad 0)), (1, .int p1), (2, .int p2)] := hl
  refine lv_aload_n hx hb dX9_isInForce_0 rfl (lv_at hl 0 rfl) ?_
  refine lv_iload_n hx hb dX9_isInForce_1 rfl (lv_at hl 1 rfl) ?_
  refine lv_bipush (v := 8) hx hb dX9_isInForce_2 (by decide +kernel) ?_
  refine lv_iconst (v := 3) hx hb dX9_isInForce_4 (by decide +kernel) ?_
  refine lv_iload_n hx hb dX9_isInForce_5 rfl (lv_at hl 2 rfl) ?_
  refine lv_imul hx hb dX9_isInForce_6 ?_
  refine lv_iadd hx hb dX9_isInForce_7 ?_
  refine bk_ip (rnV (rest := []) Z hw (k_X9_of (p1 := p1) (p2 := 8 + (3 * p2)) I0 hs (w8 h2)) v_X9_of q_5_70 (0) (by decide) rfl rfl rfl rfl hl.1 rfl rfl (Nat.le_of_ble_eq_true rfl) ⟨(Nat.le_of_ble_eq_true rfl), (Nat.le_of_ble_eq_true rfl)⟩ ⟨(Nat.le_of_ble_eq_true rfl), (Nat.le_of_ble_eq_true rfl)⟩ dX9_isInForce_8) hw Z (fun r8 er8 H locs hw => ?_)
  refine lv_istore_n (lv' := [(3, .int r8), (0, .ref (ad 0)), (1, .int p1), (2, .int p2)]) hx hb dX9_isInForce_11 rfl hl (by decide) rfl (fun ls hl => ?_)
  refine lv_aload_n hx hb dX9_isInForce_12 rfl (lv_at hl 1 rfl) ?_
  refine lv_iload_n hx hb dX9_isInForce_13 rfl (lv_at hl 2 rfl) ?_
  refine bk_ip (rnV (rest := []) Z hw (k_X9_placeOf (p1 := p1) I0) v_X9_placeOf q_5_54 (0) (by decide) rfl rfl rfl rfl hl.1 rfl rfl (Nat.le_of_ble_eq_true rfl) ⟨(Nat.le_of_ble_eq_true rfl), (Nat.le_of_ble_eq_true rfl)⟩ ⟨(Nat.le_of_ble_eq_true rfl), (Nat.le_of_ble_eq_true rfl)⟩ dX9_isInForce_14) hw Z (fun r14 er14 H locs hw => ?_)
  refine lv_iconst (v := (-1)) hx hb dX9_isInForce_17 (by decide +kernel) ?_
  refine lv_icmp_eq (tgt := 56) hx hb dX9_isInForce_18 (by decide) (fun c18 => ?_) (fun c18 => ?_)
  · refine lv_iconst (v := 0) hx hb dX9_isInForce_56 (by decide +kernel) ?_
    exact rt_z Z hr hlk hw rfl dX9_isInForce_57 ⟨Eq.symm (by subst er14 er8; exact (lf_t c18 rfl)), rfl⟩
  · refine lv_aload_n hx hb dX9_isInForce_21 rfl (lv_at hl 1 rfl) ?_
    refine lv_iload_n hx hb dX9_isInForce_22 rfl (lv_at hl 2 rfl) ?_
    refine lv_bipush (v := 16) hx hb dX9_isInForce_23 (by decide +kernel) ?_
    refine bk_ip (rnV (rest := []) Z hw (k_X9_of (p1 := p1) (p2 := 16) I0 hs (by decide +kernel)) v_X9_of q_5_70 (0) (by decide) rfl rfl rfl rfl hl.1 rfl rfl (Nat.le_of_ble_eq_true rfl) ⟨(Nat.le_of_ble_eq_true rfl), (Nat.le_of_ble_eq_true rfl)⟩ ⟨(Nat.le_of_ble_eq_true rfl), (Nat.le_of_ble_eq_true rfl)⟩ dX9_isInForce_25) hw Z (fun r25 er25 H locs hw => ?_)
    refine lv_iload_n hx hb dX9_isInForce_28 rfl (lv_at hl 0 rfl) ?_
    refine lv_iload_n hx hb dX9_isInForce_29 rfl (lv_at hl 0 rfl) ?_
    refine lv_aload_n hx hb dX9_isInForce_30 rfl (lv_at hl 1 rfl) ?_
    refine lv_iload_n hx hb dX9_isInForce_31 rfl (lv_at hl 2 rfl) ?_
    refine lv_bipush (v := 8) hx hb dX9_isInForce_32 (by decide +kernel) ?_
    refine lv_iconst (v := 3) hx hb dX9_isInForce_34 (by decide +kernel) ?_
    refine lv_iload_n hx hb dX9_isInForce_35 rfl (lv_at hl 3 rfl) ?_
    refine lv_imul hx hb dX9_isInForce_36 ?_
    refine lv_iadd hx hb dX9_isInForce_37 ?_
    refine lv_iconst (v := 1) hx hb dX9_isInForce_38 (by decide +kernel) ?_
    refine lv_iadd hx hb dX9_isInForce_39 ?_
    refine bk_ip (rnV (rest := [.int r8, .int r8, .int r25]) Z hw (k_X9_of (p1 := p1) (p2 := (8 + (3 * p2)) + 1) I0 hs (w8p h2 (y := 1) (by decide +kernel))) v_X9_of q_5_70 (0) (by decide) rfl rfl rfl rfl hl.1 rfl rfl (Nat.le_of_ble_eq_true rfl) ⟨(Nat.le_of_ble_eq_true rfl), (Nat.le_of_ble_eq_true rfl)⟩ ⟨(Nat.le_of_ble_eq_true rfl), (Nat.le_of_ble_eq_true rfl)⟩ dX9_isInForce_40) hw Z (fun r40 er40 H locs hw => ?_)
    refine lv_iadd hx hb dX9_isInForce_43 ?_
    refine lv_iconst (v := 1) hx hb dX9_isInForce_44 (by decide +kernel) ?_
    refine lv_isub hx hb dX9_isInForce_45 ?_
    refine bk_ip (rnS (rest := []) Z hw (k_X9_in (p1 := r25) (p2 := r8) (p3 := (r8 + r40) - 1) ) v_X9_in rfl q_5_29 hl.1 rfl rfl (Nat.le_of_ble_eq_true rfl) ⟨(Nat.le_of_ble_eq_true rfl), (Nat.le_of_ble_eq_true rfl)⟩ ⟨(Nat.le_of_ble_eq_true rfl), (Nat.le_of_ble_eq_true rfl)⟩ dX9_isInForce_46) hw Z (fun r46 er46 H locs hw => ?_)
    refine lv_if_eq (tgt := 56) hx hb dX9_isInForce_49 (by decide) (fun c49 => ?_) (fun c49 => ?_)
    · refine lv_iconst (v := 0) hx hb dX9_isInForce_56 (by decide +kernel) ?_
      exact rt_z Z hr hlk hw rfl dX9_isInForce_57 ⟨Eq.symm (by subst er46 er40 er25 er14 er8; exact (lf_f c18 (lf_t c49 rfl))), rfl⟩
    · refine lv_iconst (v := 1) hx hb dX9_isInForce_52 (by decide +kernel) ?_
      refine lv_goto (tgt := 57) hx hb dX9_isInForce_53 (by decide) ?_
      exact rt_z Z hr hlk hw rfl dX9_isInForce_57 ⟨Eq.symm (by subst er46 er40 er25 er14 er8; exact (lf_f c18 (lf_f c49 rfl))), rfl⟩
abbrev rmX9_ceiling : Room := { frames := 3, cells := 0, slots := 0, locals := 65 }
def f_X9_ceiling_l28 (k4 : Nat) (t4 : St) : Nat → Nat → Int32 → St → Int32
  | 0, k28, a28_1, t28 => (a28_1)
  | n28 + 1, k28, a28_1, t28 => (let r34 := f_X9_of t28 (t4 1 (10 + k4)) 7; (if r34 ≤ (nI k28) then a28_1 else (let r51 := f_X9_of t28 (t4 1 (10 + k4)) ((8 + (3 * (nI k28))) + 2); (let r60 := f_X9_isInForce t28 (t4 1 (10 + k4)) (nI k28); (let v78 : Int32 := (if r60 = 0 then a28_1 else (if r51 ≤ a28_1 then a28_1 else r51)); (f_X9_ceiling_l28 k4 t4 n28 (k28 + 1) v78 t28))))))
def f_X9_ceiling_l4 : Nat → Nat → Int32 → St → Int32
  | 0, k4, a4_1, t4 => (a4_1)
  | n4 + 1, k4, a4_1, t4 => (if (t4 1 9) ≤ (nI k4) then a4_1 else (let w28_1 := (f_X9_ceiling_l28 k4 t4 fu3 0 a4_1 t4); (f_X9_ceiling_l4 n4 (k4 + 1) w28_1 t4)))
def f_X9_ceiling (σ : St) : Int32 := (let w4_1 := (f_X9_ceiling_l4 fu13 0 0 σ); w4_1)
theorem v_X9_ceiling : cvV yX9_ceiling "NestedBellsModel" cX9_ceiling 6 (some (.int)) 0 := ⟨q_5_165, s_57, q_1_10, q_5_166, rfl, by decide +kernel, by decide +kernel, by decide +kernel⟩
set_option maxHeartbeats 4000000 in
set_option maxRecDepth 100000 in
theorem L_X9_ceiling_28 {l : Launch} {D : va_G} {T : Nat → ClassId} {g ad : Nat → Nat} {p : Program} {e : Env} {s : State} {m : MethodId} {below : List Frame} {meth : Method} {c : Code} {A : Nat → Prop} {Qw : State → Prop} {k4 : Nat} {t4 : St} (Z : en p m c cX9_ceiling 6 s [.ref (ad 0)].toArray "NestedBellsModel" D T g A) (hs3 : 0 ≤ (t4 1 (10 + k4)).toInt ∧ (t4 1 (10 + k4)).toInt < 12) : ∀ (n28 : Nat) (k28 : Nat) (a28_1 : Int32) (t28 : St) (H : Heap) (locs : List Loc) (ls : Array Slot), k28 ≤ 2 → 2 < k28 + n28 → InvD t28 → wo D A s.heap 6 ad (cE (dE T ad) t28) H locs → lv_has ls 6 [(4, .int (nI k28)), (3, .int (t4 1 (10 + k4))), (2, .int (nI k4)), (1, .int a28_1), (0, .ref (ad 0))] → (∀ (w28_1 : Int32) (H : Heap) (locs : List Loc) (ls : Array Slot), (f_X9_ceiling_l28 k4 t4 n28 k28 a28_1 t28) = w28_1 → InvD t28 → wo D A s.heap 6 ad (cE (dE T ad) t28) H locs → lv_has ls 6 [(2, .int (nI k4)), (1, .int w28_1), (0, .ref (ad 0))] → W p l e rmX9_ceiling s m [.ref (ad 0)].toArray below meth c H locs 0 0 Qw (F0 m 85 ls [])) → W p l e rmX9_ceiling s m [.ref (ad 0)].toArray below meth c H locs 0 0 Qw (F0 m 28 ls []) := by
  have hx := Z.1.1
  have hb := Z.1.2.1
  intro n28
  induction n28 with
  | zero =>
    intro k28 a28_1 t28 H locs ls hk28 hn28 It28 hw hl kk
    exact absurd hn28 (by omega)
  | succ n28 ih =>
    intro k28 a28_1 t28 H locs ls hk28 hn28 It28 hw hl kk
    refine lv_iload hx hb dX9_ceiling_28 (lv_at hl 0 rfl) ?_
    refine lv_aload_n hx hb dX9_ceiling_30 rfl (lv_at hl 4 rfl) ?_
    refine lv_iload_n hx hb dX9_ceiling_31 rfl (lv_at hl 1 rfl) ?_
    refine lv_bipush (v := 7) hx hb dX9_ceiling_32 (by decide +kernel) ?_
    refine bk_ip (rnV (rest := [.int (nI k28)]) Z hw (k_X9_of (p1 := t4 1 (10 + k4)) (p2 := 7) It28 hs3 (by decide +kernel)) v_X9_of q_5_70 (0) (by decide) rfl rfl rfl rfl hl.1 rfl rfl (Nat.le_of_ble_eq_true rfl) ⟨(Nat.le_of_ble_eq_true rfl), (Nat.le_of_ble_eq_true rfl)⟩ ⟨(Nat.le_of_ble_eq_true rfl), (Nat.le_of_ble_eq_true rfl)⟩ dX9_ceiling_34) hw Z (fun r34 er34 H locs hw => ?_)
    refine lv_icmp_ge (tgt := 85) hx hb dX9_ceiling_37 (by decide) (fun c37 => ?_) (fun c37 => ?_)
    · exact kk _ H locs ls (Eq.symm (by subst er34; exact (lf_t c37 rfl))) It28 hw (lv_sub hl [2, 3, 4] rfl)
    · have hkb28 : k28 < 2 := kb_ge c37 (sec_of It28 hs3 er34).2 hk28 (by decide)
      refine lv_aload_n hx hb dX9_ceiling_40 rfl (lv_at hl 4 rfl) ?_
      refine lv_iload_n hx hb dX9_ceiling_41 rfl (lv_at hl 1 rfl) ?_
      refine lv_bipush (v := 8) hx hb dX9_ceiling_42 (by decide +kernel) ?_
      refine lv_iconst (v := 3) hx hb dX9_ceiling_44 (by decide +kernel) ?_
      refine lv_iload hx hb dX9_ceiling_45 (lv_at hl 0 rfl) ?_
      refine lv_imul hx hb dX9_ceiling_47 ?_
      refine lv_iadd hx hb dX9_ceiling_48 ?_
      refine lv_iconst (v := 2) hx hb dX9_ceiling_49 (by decide +kernel) ?_
      refine lv_iadd hx hb dX9_ceiling_50 ?_
      refine bk_ip (rnV (rest := []) Z hw (k_X9_of (p1 := t4 1 (10 + k4)) (p2 := (8 + (3 * (nI k28))) + 2) It28 hs3 (w8p (nI_rng hkb28 (by decide)) (y := 2) (by decide +kernel))) v_X9_of q_5_70 (0) (by decide) rfl rfl rfl rfl hl.1 rfl rfl (Nat.le_of_ble_eq_true rfl) ⟨(Nat.le_of_ble_eq_true rfl), (Nat.le_of_ble_eq_true rfl)⟩ ⟨(Nat.le_of_ble_eq_true rfl), (Nat.le_of_ble_eq_true rfl)⟩ dX9_ceiling_51) hw Z (fun r51 er51 H locs hw => ?_)
      refine lv_istore (lv' := [(5, .int r51), (4, .int (nI k28)), (3, .int (t4 1 (10 + k4))), (2, .int (nI k4)), (1, .int a28_1), (0, .ref (ad 0))]) hx hb dX9_ceiling_54 hl (by decide) rfl (fun ls hl => ?_)
      refine lv_aload_n hx hb dX9_ceiling_56 rfl (lv_at hl 5 rfl) ?_
      refine lv_iload_n hx hb dX9_ceiling_57 rfl (lv_at hl 2 rfl) ?_
      refine lv_iload hx hb dX9_ceiling_58 (lv_at hl 1 rfl) ?_
      refine bk_ip (rnV (rest := []) Z hw (k_X9_isInForce (p1 := t4 1 (10 + k4)) (p2 := nI k28) It28 hs3 (nI_rng (by omega) (by decide))) v_X9_isInForce q_5_167 (0) (by decide) rfl rfl rfl rfl hl.1 rfl rfl (Nat.le_of_ble_eq_true rfl) ⟨(Nat.le_of_ble_eq_true rfl), (Nat.le_of_ble_eq_true rfl)⟩ ⟨(Nat.le_of_ble_eq_true rfl), (Nat.le_of_ble_eq_true rfl)⟩ dX9_ceiling_60) hw Z (fun r60 er60 H locs hw => ?_)
      have hj78 : ∀ (v78 : Int32) (H : Heap) (locs : List Loc) (ls : Array Slot), ((if r60 = 0 then a28_1 else (if r51 ≤ a28_1 then a28_1 else r51)) : Int32) = v78 → wo D A s.heap 6 ad (cE (dE T ad) t28) H locs → lv_has ls 6 [(4, .int (nI k28)), (3, .int (t4 1 (10 + k4))), (2, .int (nI k4)), (0, .ref (ad 0))] → W p l e rmX9_ceiling s m [.ref (ad 0)].toArray below meth c H locs 0 0 Qw (F0 m 78 ls [.int v78]) := by
        intro v78 H locs ls ev78 hw hl
        refine lv_istore_n (lv' := [(1, .int v78), (4, .int (nI k28)), (3, .int (t4 1 (10 + k4))), (2, .int (nI k4)), (0, .ref (ad 0))]) hx hb dX9_ceiling_78 rfl hl (by decide) rfl (fun ls hl => ?_)
        refine lv_iinc (v := nI (k28 + 1)) (lv' := [(4, .int (nI (k28 + 1))), (1, .int v78), (3, .int (t4 1 (10 + k4))), (2, .int (nI k4)), (0, .ref (ad 0))]) hx hb dX9_ceiling_79 hl (k := 1) rfl (nI_1 _) (by decide) rfl (fun ls hl => ?_)
        refine lv_goto (tgt := 28) hx hb dX9_ceiling_82 (by decide) ?_
        exact ih (k28 + 1) v78 t28 H locs ls (by omega) (by omega) It28 hw (lv_sub hl [0, 2, 3, 1, 4] rfl) (fun w28_1 H locs ls ew28_1 I28 hw hl => kk w28_1 H locs ls (Eq.trans (Eq.symm (show (f_X9_ceiling_l28 k4 t4 n28 (k28 + 1) v78 t28) = _ from (by subst ev78 er60 er51 er34; exact (lf_f c37 rfl)))) ew28_1) I28 hw hl)
      refine lv_if_eq (tgt := 77) hx hb dX9_ceiling_63 (by decide) (fun c63 => ?_) (fun c63 => ?_)
      · refine lv_iload_n hx hb dX9_ceiling_77 rfl (lv_at hl 4 rfl) ?_
        exact hj78 _ H locs ls (Eq.symm (lf_t c63 rfl)) hw (lv_sub hl [1, 2, 3, 5] rfl)
      · refine lv_iload hx hb dX9_ceiling_66 (lv_at hl 0 rfl) ?_
        refine lv_iload_n hx hb dX9_ceiling_68 rfl (lv_at hl 4 rfl) ?_
        refine lv_icmp_le (tgt := 77) hx hb dX9_ceiling_69 (by decide) (fun c69 => ?_) (fun c69 => ?_)
        · refine lv_iload_n hx hb dX9_ceiling_77 rfl (lv_at hl 4 rfl) ?_
          exact hj78 _ H locs ls (Eq.symm (lf_f c63 (lf_t c69 rfl))) hw (lv_sub hl [1, 2, 3, 5] rfl)
        · refine lv_iload hx hb dX9_ceiling_72 (lv_at hl 0 rfl) ?_
          refine lv_goto (tgt := 78) hx hb dX9_ceiling_74 (by decide) ?_
          exact hj78 _ H locs ls (Eq.symm (lf_f c63 (lf_f c69 rfl))) hw (lv_sub hl [1, 2, 3, 5] rfl)
set_option maxHeartbeats 4000000 in
set_option maxRecDepth 100000 in
theorem L_X9_ceiling_4 {l : Launch} {D : va_G} {T : Nat → ClassId} {g ad : Nat → Nat} {p : Program} {e : Env} {s : State} {m : MethodId} {below : List Frame} {meth : Method} {c : Code} {A : Nat → Prop} {Qw : State → Prop} (Z : en p m c cX9_ceiling 6 s [.ref (ad 0)].toArray "NestedBellsModel" D T g A) : ∀ (n4 : Nat) (k4 : Nat) (a4_1 : Int32) (t4 : St) (H : Heap) (locs : List Loc) (ls : Array Slot), k4 ≤ 12 → 12 < k4 + n4 → InvD t4 → wo D A s.heap 6 ad (cE (dE T ad) t4) H locs → lv_has ls 6 [(2, .int (nI k4)), (1, .int a4_1), (0, .ref (ad 0))] → (∀ (w4_1 : Int32) (H : Heap) (locs : List Loc) (ls : Array Slot), (f_X9_ceiling_l4 n4 k4 a4_1 t4) = w4_1 → InvD t4 → wo D A s.heap 6 ad (cE (dE T ad) t4) H locs → lv_has ls 6 [(1, .int w4_1)] → W p l e rmX9_ceiling s m [.ref (ad 0)].toArray below meth c H locs 0 0 Qw (F0 m 91 ls [])) → W p l e rmX9_ceiling s m [.ref (ad 0)].toArray below meth c H locs 0 0 Qw (F0 m 4 ls []) := by
  have hx := Z.1.1
  have hb := Z.1.2.1
  intro n4
  induction n4 with
  | zero =>
    intro k4 a4_1 t4 H locs ls hk4 hn4 It4 hw hl kk
    exact absurd hn4 (by omega)
  | succ n4 ih =>
    intro k4 a4_1 t4 H locs ls hk4 hn4 It4 hw hl kk
    refine lv_iload_n hx hb dX9_ceiling_4 rfl (lv_at hl 0 rfl) ?_
    refine lv_aload_n hx hb dX9_ceiling_5 rfl (lv_at hl 2 rfl) ?_
    refine gD (j := 0) (v := .ref (ad 1)) Z hw  (by decide) q_4_212 rfl rfl dX9_ceiling_6 ?_
    refine lv_bipush (v := 9) hx hb dX9_ceiling_9 (by decide +kernel) ?_
    refine aE (v := t4 1 9) Z hw 1 (by decide) rfl (fun _ => rfl) (vp_in_nI (n := 9) (by decide) (by decide)) ((congrArg (t4 1) (nI_clamp (n := 9) (by decide))).trans rfl) dX9_ceiling_11 ?_
    refine lv_icmp_ge (tgt := 91) hx hb dX9_ceiling_12 (by decide) (fun c12 => ?_) (fun c12 => ?_)
    · exact kk _ H locs ls (Eq.symm (lf_t c12 rfl)) It4 hw (lv_sub hl [1] rfl)
    · have hkb4 : k4 < 12 := kb_ge c12 It4.1.2.1.2 hk4 (by decide)
      have hkc4 : (k4 : Int) < (t4 1 9).toInt := kc_ge c12 (by omega)
      refine lv_aload_n hx hb dX9_ceiling_15 rfl (lv_at hl 2 rfl) ?_
      refine gD (j := 0) (v := .ref (ad 1)) Z hw  (by decide) q_4_212 rfl rfl dX9_ceiling_16 ?_
      refine lv_bipush (v := 10) hx hb dX9_ceiling_19 (by decide +kernel) ?_
      refine lv_iload_n hx hb dX9_ceiling_21 rfl (lv_at hl 0 rfl) ?_
      refine lv_iadd hx hb dX9_ceiling_22 ?_
      refine aE (v := t4 1 (10 + k4)) Z hw 1 (by decide) rfl (fun _ => rfl) (add_vp (a := 10) (b := k4) (by omega) (by decide)) ((congrArg (t4 1) (add_ix (a := 10) (b := k4) (by omega))).trans rfl) dX9_ceiling_23 ?_
      refine lv_istore_n (lv' := [(3, .int (t4 1 (10 + k4))), (2, .int (nI k4)), (1, .int a4_1), (0, .ref (ad 0))]) hx hb dX9_ceiling_24 rfl hl (by decide) rfl (fun ls hl => ?_)
      refine lv_iconst (v := 0) hx hb dX9_ceiling_25 (by decide +kernel) ?_
      refine lv_istore (lv' := [(4, .int 0), (3, .int (t4 1 (10 + k4))), (2, .int (nI k4)), (1, .int a4_1), (0, .ref (ad 0))]) hx hb dX9_ceiling_26 hl (by decide) rfl (fun ls hl => ?_)
      refine L_X9_ceiling_28 (k4 := k4) (t4 := t4) Z (It4.stk hkc4) fu3 0 a4_1 t4 H locs ls (by omega) (by unfold fu3; omega) It4 hw (lv_sub hl [0, 1, 2, 3, 4] rfl) (fun w28_1 H locs ls ew28_1 I28 hw hl => ?_)
      refine lv_iinc (v := nI (k4 + 1)) (lv' := [(2, .int (nI (k4 + 1))), (1, .int w28_1), (0, .ref (ad 0))]) hx hb dX9_ceiling_85 hl (k := 0) rfl (nI_1 _) (by decide) rfl (fun ls hl => ?_)
      refine lv_goto (tgt := 4) hx hb dX9_ceiling_88 (by decide) ?_
      exact ih (k4 + 1) w28_1 t4 H locs ls (by omega) (by omega) I28 hw (lv_sub hl [0, 1, 2] rfl) (fun w4_1 H locs ls ew4_1 I4 hw hl => kk w4_1 H locs ls (Eq.trans (Eq.symm (show (f_X9_ceiling_l4 n4 (k4 + 1) w28_1 t4) = _ from (by subst ew28_1; exact (lf_f c12 rfl)))) ew4_1) I4 hw hl)
set_option maxHeartbeats 4000000 in
set_option maxRecDepth 100000 in
theorem k_X9_ceiling {l : Launch} {D : va_G} {T : Nat → ClassId} {g ad : Nat → Nat} {σ : St} (I0 : InvD σ) : mX l yX9_ceiling cX9_ceiling 6 (some (.int)) rmX9_ceiling D T g 6 ad (cE (dE T ad) σ) [.ref (ad 0)] (qI D 6 ad (dE T ad) (pR (f_X9_ceiling σ) σ)) := by
  refine mX.of (own := "NestedBellsModel") (by decide +kernel) (Nat.le_of_ble_eq_true rfl) rfl ?_
  intro p e s m below meth c A ls H locs Z hr hlk _ hw hl
  have hx := Z.1.1
  have hb := Z.1.2.1
  have hl : lv_has ls 6 [(0, .ref (ad 0))] := hl
  refine lv_iconst (v := 0) hx hb dX9_ceiling_0 (by decide +kernel) ?_
  refine lv_istore_n (lv' := [(1, .int 0), (0, .ref (ad 0))]) hx hb dX9_ceiling_1 rfl hl (by decide) rfl (fun ls hl => ?_)
  refine lv_iconst (v := 0) hx hb dX9_ceiling_2 (by decide +kernel) ?_
  refine lv_istore_n (lv' := [(2, .int 0), (1, .int 0), (0, .ref (ad 0))]) hx hb dX9_ceiling_3 rfl hl (by decide) rfl (fun ls hl => ?_)
  refine L_X9_ceiling_4 Z fu13 0 0 σ H locs ls (by omega) (by unfold fu13; omega) I0 hw (lv_sub hl [0, 1, 2] rfl) (fun w4_1 H locs ls ew4_1 I4 hw hl => ?_)
  refine lv_iload_n hx hb dX9_ceiling_91 rfl (lv_at hl 0 rfl) ?_
  exact rt_i Z hr hlk hw dX9_ceiling_92 ⟨Eq.symm (by subst ew4_1; exact rfl), rfl⟩
abbrev rmX9_running : Room := { frames := 2, cells := 0, slots := 0, locals := 42 }
def f_X9_running_l4 : Nat → Nat → Int32 → St → Int32
  | 0, k4, a4_1, t4 => (a4_1)
  | n4 + 1, k4, a4_1, t4 => (if (t4 1 9) ≤ (nI k4) then a4_1 else (let r26 := f_X9_of t4 (t4 1 (10 + k4)) 0; (let v40 : Int32 := (if r26 ≤ a4_1 then a4_1 else r26); (f_X9_running_l4 n4 (k4 + 1) v40 t4))))
def f_X9_running (σ : St) : Int32 := (let w4_1 := (f_X9_running_l4 fu13 0 0 σ); w4_1)
theorem v_X9_running : cvV yX9_running "NestedBellsModel" cX9_running 4 (some (.int)) 0 := ⟨q_5_173, s_59, q_1_10, q_5_174, rfl, by decide +kernel, by decide +kernel, by decide +kernel⟩
set_option maxHeartbeats 4000000 in
set_option maxRecDepth 100000 in
theorem L_X9_running_4 {l : Launch} {D : va_G} {T : Nat → ClassId} {g ad : Nat → Nat} {p : Program} {e : Env} {s : State} {m : MethodId} {below : List Frame} {meth : Method} {c : Code} {A : Nat → Prop} {Qw : State → Prop} (Z : en p m c cX9_running 4 s [.ref (ad 0)].toArray "NestedBellsModel" D T g A) : ∀ (n4 : Nat) (k4 : Nat) (a4_1 : Int32) (t4 : St) (H : Heap) (locs : List Loc) (ls : Array Slot), k4 ≤ 12 → 12 < k4 + n4 → InvD t4 → wo D A s.heap 6 ad (cE (dE T ad) t4) H locs → lv_has ls 4 [(2, .int (nI k4)), (1, .int a4_1), (0, .ref (ad 0))] → (∀ (w4_1 : Int32) (H : Heap) (locs : List Loc) (ls : Array Slot), (f_X9_running_l4 n4 k4 a4_1 t4) = w4_1 → InvD t4 → wo D A s.heap 6 ad (cE (dE T ad) t4) H locs → lv_has ls 4 [(1, .int w4_1)] → W p l e rmX9_running s m [.ref (ad 0)].toArray below meth c H locs 0 0 Qw (F0 m 47 ls [])) → W p l e rmX9_running s m [.ref (ad 0)].toArray below meth c H locs 0 0 Qw (F0 m 4 ls []) := by
  have hx := Z.1.1
  have hb := Z.1.2.1
  intro n4
  induction n4 with
  | zero =>
    intro k4 a4_1 t4 H locs ls hk4 hn4 It4 hw hl kk
    exact absurd hn4 (by omega)
  | succ n4 ih =>
    intro k4 a4_1 t4 H locs ls hk4 hn4 It4 hw hl kk
    refine lv_iload_n hx hb dX9_running_4 rfl (lv_at hl 0 rfl) ?_
    refine lv_aload_n hx hb dX9_running_5 rfl (lv_at hl 2 rfl) ?_
    refine gD (j := 0) (v := .ref (ad 1)) Z hw  (by decide) q_4_212 rfl rfl dX9_running_6 ?_
    refine lv_bipush (v := 9) hx hb dX9_running_9 (by decide +kernel) ?_
    refine aE (v := t4 1 9) Z hw 1 (by decide) rfl (fun _ => rfl) (vp_in_nI (n := 9) (by decide) (by decide)) ((congrArg (t4 1) (nI_clamp (n := 9) (by decide))).trans rfl) dX9_running_11 ?_
    refine lv_icmp_ge (tgt := 47) hx hb dX9_running_12 (by decide) (fun c12 => ?_) (fun c12 => ?_)
    · exact kk _ H locs ls (Eq.symm (lf_t c12 rfl)) It4 hw (lv_sub hl [1] rfl)
    · have hkb4 : k4 < 12 := kb_ge c12 It4.1.2.1.2 hk4 (by decide)
      have hkc4 : (k4 : Int) < (t4 1 9).toInt := kc_ge c12 (by omega)
      refine lv_aload_n hx hb dX9_running_15 rfl (lv_at hl 2 rfl) ?_
      refine lv_aload_n hx hb dX9_running_16 rfl (lv_at hl 2 rfl) ?_
      refine gD (j := 0) (v := .ref (ad 1)) Z hw  (by decide) q_4_212 rfl rfl dX9_running_17 ?_
      refine lv_bipush (v := 10) hx hb dX9_running_20 (by decide +kernel) ?_
      refine lv_iload_n hx hb dX9_running_22 rfl (lv_at hl 0 rfl) ?_
      refine lv_iadd hx hb dX9_running_23 ?_
      refine aE (v := t4 1 (10 + k4)) Z hw 1 (by decide) rfl (fun _ => rfl) (add_vp (a := 10) (b := k4) (by omega) (by decide)) ((congrArg (t4 1) (add_ix (a := 10) (b := k4) (by omega))).trans rfl) dX9_running_24 ?_
      refine lv_iconst (v := 0) hx hb dX9_running_25 (by decide +kernel) ?_
      refine bk_ip (rnV (rest := []) Z hw (k_X9_of (p1 := t4 1 (10 + k4)) (p2 := 0) It4 (It4.stk hkc4) (by decide +kernel)) v_X9_of q_5_70 (0) (by decide) rfl rfl rfl rfl hl.1 rfl rfl (Nat.le_of_ble_eq_true rfl) ⟨(Nat.le_of_ble_eq_true rfl), (Nat.le_of_ble_eq_true rfl)⟩ ⟨(Nat.le_of_ble_eq_true rfl), (Nat.le_of_ble_eq_true rfl)⟩ dX9_running_26) hw Z (fun r26 er26 H locs hw => ?_)
      refine lv_istore_n (lv' := [(3, .int r26), (2, .int (nI k4)), (1, .int a4_1), (0, .ref (ad 0))]) hx hb dX9_running_29 rfl hl (by decide) rfl (fun ls hl => ?_)
      refine lv_iload_n hx hb dX9_running_30 rfl (lv_at hl 0 rfl) ?_
      refine lv_iload_n hx hb dX9_running_31 rfl (lv_at hl 2 rfl) ?_
      have hj40 : ∀ (v40 : Int32) (H : Heap) (locs : List Loc) (ls : Array Slot), ((if r26 ≤ a4_1 then a4_1 else r26) : Int32) = v40 → wo D A s.heap 6 ad (cE (dE T ad) t4) H locs → lv_has ls 4 [(2, .int (nI k4)), (0, .ref (ad 0))] → W p l e rmX9_running s m [.ref (ad 0)].toArray below meth c H locs 0 0 Qw (F0 m 40 ls [.int v40]) := by
        intro v40 H locs ls ev40 hw hl
        refine lv_istore_n (lv' := [(1, .int v40), (2, .int (nI k4)), (0, .ref (ad 0))]) hx hb dX9_running_40 rfl hl (by decide) rfl (fun ls hl => ?_)
        refine lv_iinc (v := nI (k4 + 1)) (lv' := [(2, .int (nI (k4 + 1))), (1, .int v40), (0, .ref (ad 0))]) hx hb dX9_running_41 hl (k := 1) rfl (nI_1 _) (by decide) rfl (fun ls hl => ?_)
        refine lv_goto (tgt := 4) hx hb dX9_running_44 (by decide) ?_
        exact ih (k4 + 1) v40 t4 H locs ls (by omega) (by omega) It4 hw (lv_sub hl [0, 1, 2] rfl) (fun w4_1 H locs ls ew4_1 I4 hw hl => kk w4_1 H locs ls (Eq.trans (Eq.symm (show (f_X9_running_l4 n4 (k4 + 1) v40 t4) = _ from (by subst ev40 er26; exact (lf_f c12 rfl)))) ew4_1) I4 hw hl)
      refine lv_icmp_le (tgt := 39) hx hb dX9_running_32 (by decide) (fun c32 => ?_) (fun c32 => ?_)
      · refine lv_iload_n hx hb dX9_running_39 rfl (lv_at hl 2 rfl) ?_
        exact hj40 _ H locs ls (Eq.symm (lf_t c32 rfl)) hw (lv_sub hl [1, 3] rfl)
      · refine lv_iload_n hx hb dX9_running_35 rfl (lv_at hl 0 rfl) ?_
        refine lv_goto (tgt := 40) hx hb dX9_running_36 (by decide) ?_
        exact hj40 _ H locs ls (Eq.symm (lf_f c32 rfl)) hw (lv_sub hl [1, 3] rfl)
set_option maxHeartbeats 4000000 in
set_option maxRecDepth 100000 in
theorem k_X9_running {l : Launch} {D : va_G} {T : Nat → ClassId} {g ad : Nat → Nat} {σ : St} (I0 : InvD σ) : mX l yX9_running cX9_running 4 (some (.int)) rmX9_running D T g 6 ad (cE (dE T ad) σ) [.ref (ad 0)] (qI D 6 ad (dE T ad) (pR (f_X9_running σ) σ)) := by
  refine mX.of (own := "NestedBellsModel") (by decide +kernel) (Nat.le_of_ble_eq_true rfl) rfl ?_
  intro p e s m below meth c A ls H locs Z hr hlk _ hw hl
  have hx := Z.1.1
  have hb := Z.1.2.1
  have hl : lv_has ls 4 [(0, .ref (ad 0))] := hl
  refine lv_iconst (v := 0) hx hb dX9_running_0 (by decide +kernel) ?_
  refine lv_istore_n (lv' := [(1, .int 0), (0, .ref (ad 0))]) hx hb dX9_running_1 rfl hl (by decide) rfl (fun ls hl => ?_)
  refine lv_iconst (v := 0) hx hb dX9_running_2 (by decide +kernel) ?_
  refine lv_istore_n (lv' := [(2, .int 0), (1, .int 0), (0, .ref (ad 0))]) hx hb dX9_running_3 rfl hl (by decide) rfl (fun ls hl => ?_)
  refine L_X9_running_4 Z fu13 0 0 σ H locs ls (by omega) (by unfold fu13; omega) I0 hw (lv_sub hl [0, 1, 2] rfl) (fun w4_1 H locs ls ew4_1 I4 hw hl => ?_)
  refine lv_iload_n hx hb dX9_running_47 rfl (lv_at hl 0 rfl) ?_
  exact rt_i Z hr hlk hw dX9_running_48 ⟨Eq.symm (by subst ew4_1; exact rfl), rfl⟩
abbrev rmX9_level : Room := { frames := 4, cells := 0, slots := 0, locals := 90 }
def f_X9_level (σ : St) : Int32 := (let r7 := f_X9_ceiling σ; (let r11 := f_X9_running σ; (let r14 := f_X9_greater r7 r11; (let r17 := f_X9_greater (σ 1 1) r14; r17))))
theorem v_X9_level : cvV yX9_level "NestedBellsModel" cX9_level 1 (some (.int)) 0 := ⟨q_5_161, s_56, q_1_10, q_5_162, rfl, by decide +kernel, by decide +kernel, by decide +kernel⟩
set_option maxHeartbeats 4000000 in
set_option maxRecDepth 100000 in
theorem k_X9_level {l : Launch} {D : va_G} {T : Nat → ClassId} {g ad : Nat → Nat} {σ : St} (I0 : InvD σ) : mX l yX9_level cX9_level 1 (some (.int)) rmX9_level D T g 6 ad (cE (dE T ad) σ) [.ref (ad 0)] (qI D 6 ad (dE T ad) (pR (f_X9_level σ) σ)) := by
  refine mX.of (own := "NestedBellsModel") (by decide +kernel) (Nat.le_of_ble_eq_true rfl) rfl ?_
  intro p e s m below meth c A ls H locs Z hr hlk _ hw hl
  have hx := Z.1.1
  have hb := Z.1.2.1
  have hl : lv_has ls 1 [(0, .ref (ad 0))] := hl
  refine lv_aload_n hx hb dX9_level_0 rfl (lv_at hl 0 rfl) ?_
  refine gD (j := 0) (v := .ref (ad 1)) Z hw  (by decide) q_4_212 rfl rfl dX9_level_1 ?_
  refine lv_iconst (v := 1) hx hb dX9_level_4 (by decide +kernel) ?_
  refine aE (v := σ 1 1) Z hw 1 (by decide) rfl (fun _ => rfl) (vp_in_nI (n := 1) (by decide) (by decide)) ((congrArg (σ 1) (nI_clamp (n := 1) (by decide))).trans rfl) dX9_level_5 ?_
  refine lv_aload_n hx hb dX9_level_6 rfl (lv_at hl 0 rfl) ?_
  refine bk_ip (rnV (rest := [.int (σ 1 1)]) Z hw (k_X9_ceiling  I0) v_X9_ceiling q_5_163 (0) (by decide) rfl rfl rfl rfl hl.1 rfl rfl (Nat.le_of_ble_eq_true rfl) ⟨(Nat.le_of_ble_eq_true rfl), (Nat.le_of_ble_eq_true rfl)⟩ ⟨(Nat.le_of_ble_eq_true rfl), (Nat.le_of_ble_eq_true rfl)⟩ dX9_level_7) hw Z (fun r7 er7 H locs hw => ?_)
  refine lv_aload_n hx hb dX9_level_10 rfl (lv_at hl 0 rfl) ?_
  refine bk_ip (rnV (rest := [.int r7, .int (σ 1 1)]) Z hw (k_X9_running  I0) v_X9_running q_5_171 (0) (by decide) rfl rfl rfl rfl hl.1 rfl rfl (Nat.le_of_ble_eq_true rfl) ⟨(Nat.le_of_ble_eq_true rfl), (Nat.le_of_ble_eq_true rfl)⟩ ⟨(Nat.le_of_ble_eq_true rfl), (Nat.le_of_ble_eq_true rfl)⟩ dX9_level_11) hw Z (fun r11 er11 H locs hw => ?_)
  refine bk_ip (rnS (rest := [.int (σ 1 1)]) Z hw (k_X9_greater (p1 := r7) (p2 := r11) ) v_X9_greater rfl q_5_175 hl.1 rfl rfl (Nat.le_of_ble_eq_true rfl) ⟨(Nat.le_of_ble_eq_true rfl), (Nat.le_of_ble_eq_true rfl)⟩ ⟨(Nat.le_of_ble_eq_true rfl), (Nat.le_of_ble_eq_true rfl)⟩ dX9_level_14) hw Z (fun r14 er14 H locs hw => ?_)
  refine bk_ip (rnS (rest := []) Z hw (k_X9_greater (p1 := σ 1 1) (p2 := r14) ) v_X9_greater rfl q_5_175 hl.1 rfl rfl (Nat.le_of_ble_eq_true rfl) ⟨(Nat.le_of_ble_eq_true rfl), (Nat.le_of_ble_eq_true rfl)⟩ ⟨(Nat.le_of_ble_eq_true rfl), (Nat.le_of_ble_eq_true rfl)⟩ dX9_level_17) hw Z (fun r17 er17 H locs hw => ?_)
  exact rt_i Z hr hlk hw dX9_level_20 ⟨Eq.symm (by subst er17 er14 er11 er7; exact rfl), rfl⟩
abbrev rmX9_candidate : Room := { frames := 5, cells := 0, slots := 0, locals := 110 }
def f_X9_candidate_l9 : Nat → Nat → Int32 → Int32 → St → Int32
  | 0, k9, a9_2, a9_1, t9 => (a9_2)
  | n9 + 1, k9, a9_2, a9_1, t9 => (if (t9 1 8) ≤ (nI k9) then a9_2 else (let r23 := f_X9_of t9 (nI k9) 3; (let v53 : Int32 := (if r23 = 1 then (let r33 := f_X9_of t9 (nI k9) 0; (if r33 ≤ a9_1 then 0 else (let r42 := f_X9_isPending t9 (nI k9); (if r42 = 0 then 0 else 1)))) else 0); (let v65 : Int32 := (if v53 = 0 then a9_2 else nI k9); (let v81 : Int32 := (if v53 = 0 then a9_1 else (let r74 := f_X9_of t9 (nI k9) 0; r74)); (f_X9_candidate_l9 n9 (k9 + 1) v65 v81 t9))))))
def f_X9_candidate (σ : St) : Int32 := (let r1 := f_X9_level σ; (let w9_2 := (f_X9_candidate_l9 fu13 0 (-1) r1 σ); w9_2))
theorem v_X9_candidate : cvV yX9_candidate "NestedBellsModel" cX9_candidate 5 (some (.int)) 0 := ⟨q_5_157, s_55, q_1_10, q_5_158, rfl, by decide +kernel, by decide +kernel, by decide +kernel⟩
set_option maxHeartbeats 4000000 in
set_option maxRecDepth 100000 in
theorem L_X9_candidate_9 {l : Launch} {D : va_G} {T : Nat → ClassId} {g ad : Nat → Nat} {p : Program} {e : Env} {s : State} {m : MethodId} {below : List Frame} {meth : Method} {c : Code} {A : Nat → Prop} {Qw : State → Prop} (Z : en p m c cX9_candidate 5 s [.ref (ad 0)].toArray "NestedBellsModel" D T g A) : ∀ (n9 : Nat) (k9 : Nat) (a9_2 : Int32) (a9_1 : Int32) (t9 : St) (H : Heap) (locs : List Loc) (ls : Array Slot), k9 ≤ 12 → 12 < k9 + n9 → InvD t9 → wo D A s.heap 6 ad (cE (dE T ad) t9) H locs → lv_has ls 5 [(3, .int (nI k9)), (2, .int a9_2), (1, .int a9_1), (0, .ref (ad 0))] → (∀ (w9_2 : Int32) (H : Heap) (locs : List Loc) (ls : Array Slot), (f_X9_candidate_l9 n9 k9 a9_2 a9_1 t9) = w9_2 → InvD t9 → wo D A s.heap 6 ad (cE (dE T ad) t9) H locs → lv_has ls 5 [(2, .int w9_2)] → W p l e rmX9_candidate s m [.ref (ad 0)].toArray below meth c H locs 0 0 Qw (F0 m 88 ls [])) → W p l e rmX9_candidate s m [.ref (ad 0)].toArray below meth c H locs 0 0 Qw (F0 m 9 ls []) := by
  have hx := Z.1.1
  have hb := Z.1.2.1
  intro n9
  induction n9 with
  | zero =>
    intro k9 a9_2 a9_1 t9 H locs ls hk9 hn9 It9 hw hl kk
    exact absurd hn9 (by omega)
  | succ n9 ih =>
    intro k9 a9_2 a9_1 t9 H locs ls hk9 hn9 It9 hw hl kk
    refine lv_iload_n hx hb dX9_candidate_9 rfl (lv_at hl 0 rfl) ?_
    refine lv_aload_n hx hb dX9_candidate_10 rfl (lv_at hl 3 rfl) ?_
    refine gD (j := 0) (v := .ref (ad 1)) Z hw  (by decide) q_4_212 rfl rfl dX9_candidate_11 ?_
    refine lv_bipush (v := 8) hx hb dX9_candidate_14 (by decide +kernel) ?_
    refine aE (v := t9 1 8) Z hw 1 (by decide) rfl (fun _ => rfl) (vp_in_nI (n := 8) (by decide) (by decide)) ((congrArg (t9 1) (nI_clamp (n := 8) (by decide))).trans rfl) dX9_candidate_16 ?_
    refine lv_icmp_ge (tgt := 88) hx hb dX9_candidate_17 (by decide) (fun c17 => ?_) (fun c17 => ?_)
    · exact kk _ H locs ls (Eq.symm (lf_t c17 rfl)) It9 hw (lv_sub hl [1] rfl)
    · have hkb9 : k9 < 12 := kb_ge c17 It9.1.1.2 hk9 (by decide)
      refine lv_aload_n hx hb dX9_candidate_20 rfl (lv_at hl 3 rfl) ?_
      refine lv_iload_n hx hb dX9_candidate_21 rfl (lv_at hl 0 rfl) ?_
      refine lv_iconst (v := 3) hx hb dX9_candidate_22 (by decide +kernel) ?_
      refine bk_ip (rnV (rest := []) Z hw (k_X9_of (p1 := nI k9) (p2 := 3) It9 (nI_rng (by omega) (by decide)) (by decide +kernel)) v_X9_of q_5_70 (0) (by decide) rfl rfl rfl rfl hl.1 rfl rfl (Nat.le_of_ble_eq_true rfl) ⟨(Nat.le_of_ble_eq_true rfl), (Nat.le_of_ble_eq_true rfl)⟩ ⟨(Nat.le_of_ble_eq_true rfl), (Nat.le_of_ble_eq_true rfl)⟩ dX9_candidate_23) hw Z (fun r23 er23 H locs hw => ?_)
      refine lv_iconst (v := 1) hx hb dX9_candidate_26 (by decide +kernel) ?_
      have hj53 : ∀ (v53 : Int32) (H : Heap) (locs : List Loc) (ls : Array Slot), ((if r23 = 1 then (let r33 := f_X9_of t9 (nI k9) 0; (if r33 ≤ a9_1 then 0 else (let r42 := f_X9_isPending t9 (nI k9); (if r42 = 0 then 0 else 1)))) else 0) : Int32) = v53 → wo D A s.heap 6 ad (cE (dE T ad) t9) H locs → lv_has ls 5 [(3, .int (nI k9)), (2, .int a9_2), (1, .int a9_1), (0, .ref (ad 0))] → W p l e rmX9_candidate s m [.ref (ad 0)].toArray below meth c H locs 0 0 Qw (F0 m 53 ls [.int v53]) := by
        intro v53 H locs ls ev53 hw hl
        refine lv_istore (lv' := [(4, .int v53), (3, .int (nI k9)), (2, .int a9_2), (1, .int a9_1), (0, .ref (ad 0))]) hx hb dX9_candidate_53 hl (by decide) rfl (fun ls hl => ?_)
        refine lv_iload hx hb dX9_candidate_55 (lv_at hl 0 rfl) ?_
        have hj65 : ∀ (v65 : Int32) (H : Heap) (locs : List Loc) (ls : Array Slot), ((if v53 = 0 then a9_2 else nI k9) : Int32) = v65 → wo D A s.heap 6 ad (cE (dE T ad) t9) H locs → lv_has ls 5 [(4, .int v53), (3, .int (nI k9)), (1, .int a9_1), (0, .ref (ad 0))] → W p l e rmX9_candidate s m [.ref (ad 0)].toArray below meth c H locs 0 0 Qw (F0 m 65 ls [.int v65]) := by
          intro v65 H locs ls ev65 hw hl
          refine lv_istore_n (lv' := [(2, .int v65), (4, .int v53), (3, .int (nI k9)), (1, .int a9_1), (0, .ref (ad 0))]) hx hb dX9_candidate_65 rfl hl (by decide) rfl (fun ls hl => ?_)
          refine lv_iload hx hb dX9_candidate_66 (lv_at hl 1 rfl) ?_
          have hj81 : ∀ (v81 : Int32) (H : Heap) (locs : List Loc) (ls : Array Slot), ((if v53 = 0 then a9_1 else (let r74 := f_X9_of t9 (nI k9) 0; r74)) : Int32) = v81 → wo D A s.heap 6 ad (cE (dE T ad) t9) H locs → lv_has ls 5 [(2, .int v65), (3, .int (nI k9)), (0, .ref (ad 0))] → W p l e rmX9_candidate s m [.ref (ad 0)].toArray below meth c H locs 0 0 Qw (F0 m 81 ls [.int v81]) := by
            intro v81 H locs ls ev81 hw hl
            refine lv_istore_n (lv' := [(1, .int v81), (2, .int v65), (3, .int (nI k9)), (0, .ref (ad 0))]) hx hb dX9_candidate_81 rfl hl (by decide) rfl (fun ls hl => ?_)
            refine lv_iinc (v := nI (k9 + 1)) (lv' := [(3, .int (nI (k9 + 1))), (1, .int v81), (2, .int v65), (0, .ref (ad 0))]) hx hb dX9_candidate_82 hl (k := 2) rfl (nI_1 _) (by decide) rfl (fun ls hl => ?_)
            refine lv_goto (tgt := 9) hx hb dX9_candidate_85 (by decide) ?_
            exact ih (k9 + 1) v65 v81 t9 H locs ls (by omega) (by omega) It9 hw (lv_sub hl [0, 2, 1, 3] rfl) (fun w9_2 H locs ls ew9_2 I9 hw hl => kk w9_2 H locs ls (Eq.trans (Eq.symm (show (f_X9_candidate_l9 n9 (k9 + 1) v65 v81 t9) = _ from (by subst ev81 ev65 ev53 er23; exact (lf_f c17 rfl)))) ew9_2) I9 hw hl)
          refine lv_if_eq (tgt := 80) hx hb dX9_candidate_68 (by decide) (fun c68 => ?_) (fun c68 => ?_)
          · refine lv_iload_n hx hb dX9_candidate_80 rfl (lv_at hl 3 rfl) ?_
            exact hj81 _ H locs ls (Eq.symm (lf_t c68 rfl)) hw (lv_sub hl [0, 2, 4] rfl)
          · refine lv_aload_n hx hb dX9_candidate_71 rfl (lv_at hl 4 rfl) ?_
            refine lv_iload_n hx hb dX9_candidate_72 rfl (lv_at hl 2 rfl) ?_
            refine lv_iconst (v := 0) hx hb dX9_candidate_73 (by decide +kernel) ?_
            refine bk_ip (rnV (rest := []) Z hw (k_X9_of (p1 := nI k9) (p2 := 0) It9 (nI_rng (by omega) (by decide)) (by decide +kernel)) v_X9_of q_5_70 (0) (by decide) rfl rfl rfl rfl hl.1 rfl rfl (Nat.le_of_ble_eq_true rfl) ⟨(Nat.le_of_ble_eq_true rfl), (Nat.le_of_ble_eq_true rfl)⟩ ⟨(Nat.le_of_ble_eq_true rfl), (Nat.le_of_ble_eq_true rfl)⟩ dX9_candidate_74) hw Z (fun r74 er74 H locs hw => ?_)
            refine lv_goto (tgt := 81) hx hb dX9_candidate_77 (by decide) ?_
            exact hj81 _ H locs ls (Eq.symm (by subst er74; exact (lf_f c68 rfl))) hw (lv_sub hl [0, 2, 4] rfl)
        refine lv_if_eq (tgt := 64) hx hb dX9_candidate_57 (by decide) (fun c57 => ?_) (fun c57 => ?_)
        · refine lv_iload_n hx hb dX9_candidate_64 rfl (lv_at hl 2 rfl) ?_
          exact hj65 _ H locs ls (Eq.symm (lf_t c57 rfl)) hw (lv_sub hl [0, 1, 3, 4] rfl)
        · refine lv_iload_n hx hb dX9_candidate_60 rfl (lv_at hl 1 rfl) ?_
          refine lv_goto (tgt := 65) hx hb dX9_candidate_61 (by decide) ?_
          exact hj65 _ H locs ls (Eq.symm (lf_f c57 rfl)) hw (lv_sub hl [0, 1, 3, 4] rfl)
      refine lv_icmp_ne (tgt := 52) hx hb dX9_candidate_27 (by decide) (fun c27 => ?_) (fun c27 => ?_)
      · refine lv_iconst (v := 0) hx hb dX9_candidate_52 (by decide +kernel) ?_
        exact hj53 _ H locs ls (Eq.symm (lf_f c27 rfl)) hw (lv_sub hl [0, 1, 2, 3] rfl)
      · refine lv_aload_n hx hb dX9_candidate_30 rfl (lv_at hl 3 rfl) ?_
        refine lv_iload_n hx hb dX9_candidate_31 rfl (lv_at hl 0 rfl) ?_
        refine lv_iconst (v := 0) hx hb dX9_candidate_32 (by decide +kernel) ?_
        refine bk_ip (rnV (rest := []) Z hw (k_X9_of (p1 := nI k9) (p2 := 0) It9 (nI_rng (by omega) (by decide)) (by decide +kernel)) v_X9_of q_5_70 (0) (by decide) rfl rfl rfl rfl hl.1 rfl rfl (Nat.le_of_ble_eq_true rfl) ⟨(Nat.le_of_ble_eq_true rfl), (Nat.le_of_ble_eq_true rfl)⟩ ⟨(Nat.le_of_ble_eq_true rfl), (Nat.le_of_ble_eq_true rfl)⟩ dX9_candidate_33) hw Z (fun r33 er33 H locs hw => ?_)
        refine lv_iload_n hx hb dX9_candidate_36 rfl (lv_at hl 2 rfl) ?_
        refine lv_icmp_le (tgt := 52) hx hb dX9_candidate_37 (by decide) (fun c37 => ?_) (fun c37 => ?_)
        · refine lv_iconst (v := 0) hx hb dX9_candidate_52 (by decide +kernel) ?_
          exact hj53 _ H locs ls (Eq.symm (by subst er33; exact (lf_t c27 (lf_t c37 rfl)))) hw (lv_sub hl [0, 1, 2, 3] rfl)
        · refine lv_aload_n hx hb dX9_candidate_40 rfl (lv_at hl 3 rfl) ?_
          refine lv_iload_n hx hb dX9_candidate_41 rfl (lv_at hl 0 rfl) ?_
          refine bk_ip (rnV (rest := []) Z hw (k_X9_isPending (p1 := nI k9) It9 (nI_rng (by omega) (by decide))) v_X9_isPending q_5_178 (0) (by decide) rfl rfl rfl rfl hl.1 rfl rfl (Nat.le_of_ble_eq_true rfl) ⟨(Nat.le_of_ble_eq_true rfl), (Nat.le_of_ble_eq_true rfl)⟩ ⟨(Nat.le_of_ble_eq_true rfl), (Nat.le_of_ble_eq_true rfl)⟩ dX9_candidate_42) hw Z (fun r42 er42 H locs hw => ?_)
          refine lv_if_eq (tgt := 52) hx hb dX9_candidate_45 (by decide) (fun c45 => ?_) (fun c45 => ?_)
          · refine lv_iconst (v := 0) hx hb dX9_candidate_52 (by decide +kernel) ?_
            exact hj53 _ H locs ls (Eq.symm (by subst er42 er33; exact (lf_t c27 (lf_f c37 (lf_t c45 rfl))))) hw (lv_sub hl [0, 1, 2, 3] rfl)
          · refine lv_iconst (v := 1) hx hb dX9_candidate_48 (by decide +kernel) ?_
            refine lv_goto (tgt := 53) hx hb dX9_candidate_49 (by decide) ?_
            exact hj53 _ H locs ls (Eq.symm (by subst er42 er33; exact (lf_t c27 (lf_f c37 (lf_f c45 rfl))))) hw (lv_sub hl [0, 1, 2, 3] rfl)
set_option maxHeartbeats 4000000 in
set_option maxRecDepth 100000 in
theorem k_X9_candidate {l : Launch} {D : va_G} {T : Nat → ClassId} {g ad : Nat → Nat} {σ : St} (I0 : InvD σ) : mX l yX9_candidate cX9_candidate 5 (some (.int)) rmX9_candidate D T g 6 ad (cE (dE T ad) σ) [.ref (ad 0)] (qI D 6 ad (dE T ad) (pR (f_X9_candidate σ) σ)) := by
  refine mX.of (own := "NestedBellsModel") (by decide +kernel) (Nat.le_of_ble_eq_true rfl) rfl ?_
  intro p e s m below meth c A ls H locs Z hr hlk _ hw hl
  have hx := Z.1.1
  have hb := Z.1.2.1
  have hl : lv_has ls 5 [(0, .ref (ad 0))] := hl
  refine lv_aload_n hx hb dX9_candidate_0 rfl (lv_at hl 0 rfl) ?_
  refine bk_ip (rnV (rest := []) Z hw (k_X9_level  I0) v_X9_level q_5_159 (0) (by decide) rfl rfl rfl rfl hl.1 rfl rfl (Nat.le_of_ble_eq_true rfl) ⟨(Nat.le_of_ble_eq_true rfl), (Nat.le_of_ble_eq_true rfl)⟩ ⟨(Nat.le_of_ble_eq_true rfl), (Nat.le_of_ble_eq_true rfl)⟩ dX9_candidate_1) hw Z (fun r1 er1 H locs hw => ?_)
  refine lv_istore_n (lv' := [(1, .int r1), (0, .ref (ad 0))]) hx hb dX9_candidate_4 rfl hl (by decide) rfl (fun ls hl => ?_)
  refine lv_iconst (v := (-1)) hx hb dX9_candidate_5 (by decide +kernel) ?_
  refine lv_istore_n (lv' := [(2, .int (-1)), (1, .int r1), (0, .ref (ad 0))]) hx hb dX9_candidate_6 rfl hl (by decide) rfl (fun ls hl => ?_)
  refine lv_iconst (v := 0) hx hb dX9_candidate_7 (by decide +kernel) ?_
  refine lv_istore_n (lv' := [(3, .int 0), (2, .int (-1)), (1, .int r1), (0, .ref (ad 0))]) hx hb dX9_candidate_8 rfl hl (by decide) rfl (fun ls hl => ?_)
  refine L_X9_candidate_9 Z fu13 0 (-1) r1 σ H locs ls (by omega) (by unfold fu13; omega) I0 hw (lv_sub hl [0, 1, 2, 3] rfl) (fun w9_2 H locs ls ew9_2 I9 hw hl => ?_)
  refine lv_iload_n hx hb dX9_candidate_88 rfl (lv_at hl 0 rfl) ?_
  exact rt_i Z hr hlk hw dX9_candidate_89 ⟨Eq.symm (by subst ew9_2 er1; exact rfl), rfl⟩
abbrev rmX9_isEntering : Room := { frames := 0, cells := 0, slots := 0, locals := 0 }
def f_X9_isEntering (σ : St) : Int32 := (if (σ 1 5) = 1 then 1 else (if (σ 1 5) = 3 then 1 else 0))
theorem v_X9_isEntering : cvV yX9_isEntering "NestedBellsModel" cX9_isEntering 1 (some (.boolean)) 0 := ⟨q_5_184, s_61, q_1_10, q_5_185, rfl, by decide +kernel, by decide +kernel, by decide +kernel⟩
set_option maxHeartbeats 4000000 in
set_option maxRecDepth 100000 in
theorem k_X9_isEntering {l : Launch} {D : va_G} {T : Nat → ClassId} {g ad : Nat → Nat} {σ : St} (I0 : InvD σ) : mX l yX9_isEntering cX9_isEntering 1 (some (.boolean)) rmX9_isEntering D T g 6 ad (cE (dE T ad) σ) [.ref (ad 0)] (qI D 6 ad (dE T ad) (pR (f_X9_isEntering σ) σ)) := by
  refine mX.of (own := "NestedBellsModel") (by decide +kernel) (Nat.le_of_ble_eq_true rfl) rfl ?_
  intro p e s m below meth c A ls H locs Z hr hlk _ hw hl
  have hx := Z.1.1
  have hb := Z.1.2.1
  have hl : lv_has ls 1 [(0, .ref (ad 0))] := hl
  refine lv_aload_n hx hb dX9_isEntering_0 rfl (lv_at hl 0 rfl) ?_
  refine gD (j := 0) (v := .ref (ad 1)) Z hw  (by decide) q_4_212 rfl rfl dX9_isEntering_1 ?_
  refine lv_iconst (v := 5) hx hb dX9_isEntering_4 (by decide +kernel) ?_
  refine aE (v := σ 1 5) Z hw 1 (by decide) rfl (fun _ => rfl) (vp_in_nI (n := 5) (by decide) (by decide)) ((congrArg (σ 1) (nI_clamp (n := 5) (by decide))).trans rfl) dX9_isEntering_5 ?_
  refine lv_iconst (v := 1) hx hb dX9_isEntering_6 (by decide +kernel) ?_
  refine lv_icmp_eq (tgt := 20) hx hb dX9_isEntering_7 (by decide) (fun c7 => ?_) (fun c7 => ?_)
  · refine lv_iconst (v := 1) hx hb dX9_isEntering_20 (by decide +kernel) ?_
    refine lv_goto (tgt := 25) hx hb dX9_isEntering_21 (by decide) ?_
    exact rt_z Z hr hlk hw rfl dX9_isEntering_25 ⟨Eq.symm (lf_t c7 rfl), rfl⟩
  · refine lv_aload_n hx hb dX9_isEntering_10 rfl (lv_at hl 0 rfl) ?_
    refine gD (j := 0) (v := .ref (ad 1)) Z hw  (by decide) q_4_212 rfl rfl dX9_isEntering_11 ?_
    refine lv_iconst (v := 5) hx hb dX9_isEntering_14 (by decide +kernel) ?_
    refine aE (v := σ 1 5) Z hw 1 (by decide) rfl (fun _ => rfl) (vp_in_nI (n := 5) (by decide) (by decide)) ((congrArg (σ 1) (nI_clamp (n := 5) (by decide))).trans rfl) dX9_isEntering_15 ?_
    refine lv_iconst (v := 3) hx hb dX9_isEntering_16 (by decide +kernel) ?_
    refine lv_icmp_ne (tgt := 24) hx hb dX9_isEntering_17 (by decide) (fun c17 => ?_) (fun c17 => ?_)
    · refine lv_iconst (v := 0) hx hb dX9_isEntering_24 (by decide +kernel) ?_
      exact rt_z Z hr hlk hw rfl dX9_isEntering_25 ⟨Eq.symm (lf_f c7 (lf_f c17 rfl)), rfl⟩
    · refine lv_iconst (v := 1) hx hb dX9_isEntering_20 (by decide +kernel) ?_
      refine lv_goto (tgt := 25) hx hb dX9_isEntering_21 (by decide) ?_
      exact rt_z Z hr hlk hw rfl dX9_isEntering_25 ⟨Eq.symm (lf_f c7 (lf_t c17 rfl)), rfl⟩
abbrev rmX9_changes : Room := { frames := 0, cells := 0, slots := 0, locals := 0 }
def f_X9_changes (σ : St) (p1 : Int32) (p2 : Int32) (p3 : Int32) : St := (let v14 : Int32 := (if p1 = 2 then (if p3 = 0 then 1 else 0) else 0); (let v31 : Int32 := (if v14 = 0 then p1 else 0); up2 (up2 (up2 σ 1 5 v31) 1 6 p2) 1 7 p3))
theorem v_X9_changes : cvV yX9_changes "NestedBellsModel" cX9_changes 5 none 3 := ⟨q_5_188, s_62, q_1_10, q_5_189, rfl, by decide +kernel, by decide +kernel, by decide +kernel⟩
set_option maxHeartbeats 4000000 in
set_option maxRecDepth 100000 in
theorem k_X9_changes {l : Launch} {D : va_G} {T : Nat → ClassId} {g ad : Nat → Nat} {σ : St} {p1 : Int32} {p2 : Int32} {p3 : Int32} (I0 : InvD σ) (hC : (p1 = 1 ∨ p1 = 3) → eOK σ p2) : mX l yX9_changes cX9_changes 5 none rmX9_changes D T g 6 ad (cE (dE T ad) σ) [.ref (ad 0), .int p1, .int p2, .int p3] (qV D 6 ad (dE T ad) (pV (f_X9_changes σ p1 p2 p3) InvD)) := by
  refine mX.of (own := "NestedBellsModel") (by decide +kernel) (Nat.le_of_ble_eq_true rfl) rfl ?_
  intro p e s m below meth c A ls H locs Z hr hlk _ hw hl
  have hx := Z.1.1
  have hb := Z.1.2.1
  have hl : lv_has ls 5 [(0, .ref (ad 0)), (1, .int p1), (2, .int p2), (3, .int p3)] := hl
  refine lv_iload_n hx hb dX9_changes_0 rfl (lv_at hl 1 rfl) ?_
  refine lv_iconst (v := 2) hx hb dX9_changes_1 (by decide +kernel) ?_
  have hj14 : ∀ (v14 : Int32) (H : Heap) (locs : List Loc) (ls : Array Slot), ((if p1 = 2 then (if p3 = 0 then 1 else 0) else 0) : Int32) = v14 → wo D A s.heap 6 ad (cE (dE T ad) σ) H locs → lv_has ls 5 [(0, .ref (ad 0)), (1, .int p1), (2, .int p2), (3, .int p3)] → W p l e rmX9_changes s m [.ref (ad 0), .int p1, .int p2, .int p3].toArray below meth c H locs 0 0 (MQ below (qV D 6 ad (dE T ad) (pV (f_X9_changes σ p1 p2 p3) InvD) A) [.ref (ad 0), .int p1, .int p2, .int p3].toArray s rmX9_changes.cells rmX9_changes.slots A) (F0 m 14 ls [.int v14]) := by
    intro v14 H locs ls ev14 hw hl
    refine lv_istore (lv' := [(4, .int v14), (0, .ref (ad 0)), (1, .int p1), (2, .int p2), (3, .int p3)]) hx hb dX9_changes_14 hl (by decide) rfl (fun ls hl => ?_)
    refine lv_aload_n hx hb dX9_changes_16 rfl (lv_at hl 1 rfl) ?_
    refine gD (j := 0) (v := .ref (ad 1)) Z hw  (by decide) q_4_212 rfl rfl dX9_changes_17 ?_
    refine lv_iconst (v := 5) hx hb dX9_changes_20 (by decide +kernel) ?_
    refine lv_iload hx hb dX9_changes_21 (lv_at hl 0 rfl) ?_
    have hj31 : ∀ (v31 : Int32) (H : Heap) (locs : List Loc) (ls : Array Slot), ((if v14 = 0 then p1 else 0) : Int32) = v31 → wo D A s.heap 6 ad (cE (dE T ad) σ) H locs → lv_has ls 5 [(0, .ref (ad 0)), (2, .int p2), (3, .int p3)] → W p l e rmX9_changes s m [.ref (ad 0), .int p1, .int p2, .int p3].toArray below meth c H locs 0 0 (MQ below (qV D 6 ad (dE T ad) (pV (f_X9_changes σ p1 p2 p3) InvD) A) [.ref (ad 0), .int p1, .int p2, .int p3].toArray s rmX9_changes.cells rmX9_changes.slots A) (F0 m 31 ls [.int v31, .int 5, .ref (ad 1)]) := by
      intro v31 H locs ls ev31 hw hl
      refine sE (j := 5) Z hw 1 (by decide) rfl (fun _ => rfl) (vp_in_nI (n := 5) (by decide) (by decide)) (nI_clamp (n := 5) (by decide)) dX9_changes_31 (fun H locs hw => ?_)
      refine lv_aload_n hx hb dX9_changes_32 rfl (lv_at hl 0 rfl) ?_
      refine gD (j := 0) (v := .ref (ad 1)) Z hw  (by decide) q_4_212 rfl rfl dX9_changes_33 ?_
      refine lv_bipush (v := 6) hx hb dX9_changes_36 (by decide +kernel) ?_
      refine lv_iload_n hx hb dX9_changes_38 rfl (lv_at hl 1 rfl) ?_
      refine sE (j := 6) Z hw 1 (by decide) rfl (fun _ => rfl) (vp_in_nI (n := 6) (by decide) (by decide)) (nI_clamp (n := 6) (by decide)) dX9_changes_39 (fun H locs hw => ?_)
      refine lv_aload_n hx hb dX9_changes_40 rfl (lv_at hl 0 rfl) ?_
      refine gD (j := 0) (v := .ref (ad 1)) Z hw  (by decide) q_4_212 rfl rfl dX9_changes_41 ?_
      refine lv_bipush (v := 7) hx hb dX9_changes_44 (by decide +kernel) ?_
      refine lv_iload_n hx hb dX9_changes_46 rfl (lv_at hl 2 rfl) ?_
      refine sE (j := 7) Z hw 1 (by decide) rfl (fun _ => rfl) (vp_in_nI (n := 7) (by decide) (by decide)) (nI_clamp (n := 7) (by decide)) dX9_changes_47 (fun H locs hw => ?_)
      exact rt_v Z hr hlk hw dX9_changes_48 ⟨Eq.symm (by subst ev31 ev14; exact rfl), (InvD.change I0 (fun h => hC (ch_p ev31 h)))⟩
    refine lv_if_eq (tgt := 30) hx hb dX9_changes_23 (by decide) (fun c23 => ?_) (fun c23 => ?_)
    · refine lv_iload_n hx hb dX9_changes_30 rfl (lv_at hl 2 rfl) ?_
      exact hj31 _ H locs ls (Eq.symm (lf_t c23 rfl)) hw (lv_sub hl [1, 3, 4] rfl)
    · refine lv_iconst (v := 0) hx hb dX9_changes_26 (by decide +kernel) ?_
      refine lv_goto (tgt := 31) hx hb dX9_changes_27 (by decide) ?_
      exact hj31 _ H locs ls (Eq.symm (lf_f c23 rfl)) hw (lv_sub hl [1, 3, 4] rfl)
  refine lv_icmp_ne (tgt := 13) hx hb dX9_changes_2 (by decide) (fun c2 => ?_) (fun c2 => ?_)
  · refine lv_iconst (v := 0) hx hb dX9_changes_13 (by decide +kernel) ?_
    exact hj14 _ H locs ls (Eq.symm (lf_f c2 rfl)) hw (lv_sub hl [0, 1, 2, 3] rfl)
  · refine lv_iload_n hx hb dX9_changes_5 rfl (lv_at hl 3 rfl) ?_
    refine lv_if_ne (tgt := 13) hx hb dX9_changes_6 (by decide) (fun c6 => ?_) (fun c6 => ?_)
    · refine lv_iconst (v := 0) hx hb dX9_changes_13 (by decide +kernel) ?_
      exact hj14 _ H locs ls (Eq.symm (lf_t c2 (lf_f c6 rfl))) hw (lv_sub hl [0, 1, 2, 3] rfl)
    · refine lv_iconst (v := 1) hx hb dX9_changes_9 (by decide +kernel) ?_
      refine lv_goto (tgt := 14) hx hb dX9_changes_10 (by decide) ?_
      exact hj14 _ H locs ls (Eq.symm (lf_t c2 (lf_t c6 rfl))) hw (lv_sub hl [0, 1, 2, 3] rfl)
