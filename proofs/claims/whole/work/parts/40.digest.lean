
theorem so_le {σ : St} {p : Int32} (I : InvC σ) : (f_X5_sectionsOf σ p).toInt ≤ 2 := by
  unfold f_X5_sectionsOf
  rcases h : f_X5_find σ p with _ | i
  · show (0 : Int32).toInt ≤ 2
    decide
  · have hi := fin_lt I h
    exact (I.2.2.2.2 i hi).2

abbrev rmX8_addSourceTo : Room := { frames := 5, cells := 0, slots := 0, locals := 110 }
def f_X8_addSourceTo_l6 (p2 : Int32) : Nat → Nat → Int64 → St → Int64
  | 0, k6, a6_4, t6 => (a6_4)
  | n6 + 1, k6, a6_4, t6 => (if 17 ≤ (nI k6) then a6_4 else (let r26 := f_X5_sourceValue (sb (gmM 0) t6) p2 (nI k6); (f_X8_addSourceTo_l6 p2 n6 (k6 + 1) ((31 * a6_4) + r26.toInt64) t6)))
def f_X8_addSourceTo_l58 (p2 : Int32) (k42 : Nat) : Nat → Nat → Int64 → St → Int64
  | 0, k58, a58_4, t58 => (a58_4)
  | n58 + 1, k58, a58_4, t58 => (if 4 ≤ (nI k58) then a58_4 else (let r79 := f_X5_sectionValue (sb (gmM 0) t58) p2 (nI k42) (nI k58); (f_X8_addSourceTo_l58 p2 k42 n58 (k58 + 1) ((31 * a58_4) + r79.toInt64) t58)))
def f_X8_addSourceTo_l42 (p2 : Int32) : Nat → Nat → Int64 → St → Int64
  | 0, k42, a42_4, t42 => (a42_4)
  | n42 + 1, k42, a42_4, t42 => (let r49 := f_X5_sectionsOf (sb (gmM 0) t42) p2; (if r49 ≤ (nI k42) then a42_4 else (let w58_4 := (f_X8_addSourceTo_l58 p2 k42 fu5 0 a42_4 t42); (f_X8_addSourceTo_l42 p2 n42 (k42 + 1) w58_4 t42))))
def f_X8_addSourceTo (σ : St) (p1 : Int64) (p2 : Int32) : Int64 := (let w6_4 := (f_X8_addSourceTo_l6 p2 fu18 0 p1 σ); (let w42_4 := (f_X8_addSourceTo_l42 p2 fu3 0 w6_4 σ); w42_4))
theorem v_X8_addSourceTo : cvV yX8_addSourceTo "NestedBells" cX8_addSourceTo 8 (some (.long)) 2 := ⟨q_3_93, s_25, q_1_1, q_3_94, rfl, by decide +kernel, by decide +kernel, by decide +kernel⟩
set_option maxHeartbeats 4000000 in
set_option maxRecDepth 100000 in
theorem L_X8_addSourceTo_6 {l : Launch} {D : va_G} {T : Nat → ClassId} {g ad : Nat → Nat} {p : Program} {e : Env} {s : State} {m : MethodId} {below : List Frame} {meth : Method} {c : Code} {A : Nat → Prop} {Qw : State → Prop} {p1 : Int64} {p2 : Int32} (Z : en p m c cX8_addSourceTo 8 s [.ref (ad 0), .long p1, .int p2].toArray "NestedBells" D T g A) : ∀ (n6 : Nat) (k6 : Nat) (a6_4 : Int64) (t6 : St) (H : Heap) (locs : List Loc) (ls : Array Slot), k6 ≤ 17 → 17 < k6 + n6 → InvB t6 → wo D A s.heap 405 ad (cE (bE g T ad) t6) H locs → lv_has ls 8 [(6, .int (nI k6)), (4, .long a6_4), (0, .ref (ad 0)), (3, .int p2)] → (∀ (w6_4 : Int64) (H : Heap) (locs : List Loc) (ls : Array Slot), (f_X8_addSourceTo_l6 p2 n6 k6 a6_4 t6) = w6_4 → InvB t6 → wo D A s.heap 405 ad (cE (bE g T ad) t6) H locs → lv_has ls 8 [(4, .long w6_4), (0, .ref (ad 0)), (3, .int p2)] → W p l e rmX8_addSourceTo s m [.ref (ad 0), .long p1, .int p2].toArray below meth c H locs 0 0 Qw (F0 m 39 ls [])) → W p l e rmX8_addSourceTo s m [.ref (ad 0), .long p1, .int p2].toArray below meth c H locs 0 0 Qw (F0 m 6 ls []) := by
  have hx := Z.1.1
  have hb := Z.1.2.1
  intro n6
  induction n6 with
  | zero =>
    intro k6 a6_4 t6 H locs ls hk6 hn6 It6 hw hl kk
    exact absurd hn6 (by omega)
  | succ n6 ih =>
    intro k6 a6_4 t6 H locs ls hk6 hn6 It6 hw hl kk
    refine lv_iload hx hb dX8_addSourceTo_6 (lv_at hl 0 rfl) ?_
    refine lv_bipush (v := 17) hx hb dX8_addSourceTo_8 (by decide +kernel) ?_
    refine lv_icmp_ge (tgt := 39) hx hb dX8_addSourceTo_10 (by decide) (fun c10 => ?_) (fun c10 => ?_)
    · exact kk _ H locs ls (Eq.symm (lf_t c10 rfl)) It6 hw (lv_sub hl [1, 2, 3] rfl)
    · have hkb6 : k6 < 17 := kb_ge c10 (by decide) hk6 (by decide)
      refine lv_ldc2 (v := 31) hx hb Z.1.2.2.2.1 (Z.1.2.2.2.2 _ q_3_82) dX8_addSourceTo_13 ?_
      refine lv_lload hx hb dX8_addSourceTo_16 (lv_at hl 1 rfl) ?_
      refine lv_lmul hx hb dX8_addSourceTo_18 ?_
      refine lv_aload_n hx hb dX8_addSourceTo_19 rfl (lv_at hl 2 rfl) ?_
      refine gO (C := "NestedBells") (TC := TX8) (NF := 5) (ci := 6) (j := 0) (v := .ref (ad 6)) Z hw (0) (by decide) rfl (fun _ => rfl) rfl iX8 (by decide) q_2_18 rfl rfl dX8_addSourceTo_20 ?_
      refine lv_iload_n hx hb dX8_addSourceTo_23 rfl (lv_at hl 3 rfl) ?_
      refine lv_iload hx hb dX8_addSourceTo_24 (lv_at hl 0 rfl) ?_
      refine bs_ip (prtM (g := g) (T := T) (ad := ad) (q := 0) (by decide)) (rnV (rest := [.long (31 * a6_4)]) Z ((prtM (g := g) (T := T) (ad := ad) (q := 0) (by decide)).sub hw) (k_X5_sourceValue (p1 := p2) (p2 := nI k6) (It6.2.2.2 0 (by decide))) v_X5_sourceValue q_3_95 0 (by decide) rfl rfl rfl rfl hl.1 rfl rfl (Nat.le_of_ble_eq_true rfl) ⟨(Nat.le_of_ble_eq_true rfl), (Nat.le_of_ble_eq_true rfl)⟩ ⟨(Nat.le_of_ble_eq_true rfl), (Nat.le_of_ble_eq_true rfl)⟩ dX8_addSourceTo_26) hw Z (fun r26 er26 H locs hw => ?_)
      refine lv_i2l hx hb dX8_addSourceTo_29 rfl ?_
      refine lv_ladd hx hb dX8_addSourceTo_30 ?_
      refine lv_lstore (lv' := [(4, .long ((31 * a6_4) + r26.toInt64)), (6, .int (nI k6)), (0, .ref (ad 0)), (3, .int p2)]) hx hb dX8_addSourceTo_31 hl (by decide) rfl (fun ls hl => ?_)
      refine lv_iinc (v := nI (k6 + 1)) (lv' := [(6, .int (nI (k6 + 1))), (4, .long ((31 * a6_4) + r26.toInt64)), (0, .ref (ad 0)), (3, .int p2)]) hx hb dX8_addSourceTo_33 hl (k := 1) rfl (nI_1 _) (by decide) rfl (fun ls hl => ?_)
      refine lv_goto (tgt := 6) hx hb dX8_addSourceTo_36 (by decide) ?_
      exact ih (k6 + 1) ((31 * a6_4) + r26.toInt64) t6 H locs ls (by omega) (by omega) It6 hw (lv_sub hl [0, 1, 2, 3] rfl) (fun w6_4 H locs ls ew6_4 I6 hw hl => kk w6_4 H locs ls (Eq.trans (Eq.symm (show (f_X8_addSourceTo_l6 p2 n6 (k6 + 1) ((31 * a6_4) + r26.toInt64) t6) = _ from (by subst er26; exact (lf_f c10 rfl)))) ew6_4) I6 hw hl)
set_option maxHeartbeats 4000000 in
set_option maxRecDepth 100000 in
theorem L_X8_addSourceTo_58 {l : Launch} {D : va_G} {T : Nat → ClassId} {g ad : Nat → Nat} {p : Program} {e : Env} {s : State} {m : MethodId} {below : List Frame} {meth : Method} {c : Code} {A : Nat → Prop} {Qw : State → Prop} {p1 : Int64} {p2 : Int32} {k42 : Nat} (Z : en p m c cX8_addSourceTo 8 s [.ref (ad 0), .long p1, .int p2].toArray "NestedBells" D T g A) : ∀ (n58 : Nat) (k58 : Nat) (a58_4 : Int64) (t58 : St) (H : Heap) (locs : List Loc) (ls : Array Slot), k58 ≤ 4 → 4 < k58 + n58 → InvB t58 → wo D A s.heap 405 ad (cE (bE g T ad) t58) H locs → lv_has ls 8 [(7, .int (nI k58)), (6, .int (nI k42)), (4, .long a58_4), (0, .ref (ad 0)), (3, .int p2)] → (∀ (w58_4 : Int64) (H : Heap) (locs : List Loc) (ls : Array Slot), (f_X8_addSourceTo_l58 p2 k42 n58 k58 a58_4 t58) = w58_4 → InvB t58 → wo D A s.heap 405 ad (cE (bE g T ad) t58) H locs → lv_has ls 8 [(6, .int (nI k42)), (4, .long w58_4), (0, .ref (ad 0)), (3, .int p2)] → W p l e rmX8_addSourceTo s m [.ref (ad 0), .long p1, .int p2].toArray below meth c H locs 0 0 Qw (F0 m 92 ls [])) → W p l e rmX8_addSourceTo s m [.ref (ad 0), .long p1, .int p2].toArray below meth c H locs 0 0 Qw (F0 m 58 ls []) := by
  have hx := Z.1.1
  have hb := Z.1.2.1
  intro n58
  induction n58 with
  | zero =>
    intro k58 a58_4 t58 H locs ls hk58 hn58 It58 hw hl kk
    exact absurd hn58 (by omega)
  | succ n58 ih =>
    intro k58 a58_4 t58 H locs ls hk58 hn58 It58 hw hl kk
    refine lv_iload hx hb dX8_addSourceTo_58 (lv_at hl 0 rfl) ?_
    refine lv_iconst (v := 4) hx hb dX8_addSourceTo_60 (by decide +kernel) ?_
    refine lv_icmp_ge (tgt := 92) hx hb dX8_addSourceTo_61 (by decide) (fun c61 => ?_) (fun c61 => ?_)
    · exact kk _ H locs ls (Eq.symm (lf_t c61 rfl)) It58 hw (lv_sub hl [1, 2, 3, 4] rfl)
    · have hkb58 : k58 < 4 := kb_ge c61 (by decide) hk58 (by decide)
      refine lv_ldc2 (v := 31) hx hb Z.1.2.2.2.1 (Z.1.2.2.2.2 _ q_3_82) dX8_addSourceTo_64 ?_
      refine lv_lload hx hb dX8_addSourceTo_67 (lv_at hl 2 rfl) ?_
      refine lv_lmul hx hb dX8_addSourceTo_69 ?_
      refine lv_aload_n hx hb dX8_addSourceTo_70 rfl (lv_at hl 3 rfl) ?_
      refine gO (C := "NestedBells") (TC := TX8) (NF := 5) (ci := 6) (j := 0) (v := .ref (ad 6)) Z hw (0) (by decide) rfl (fun _ => rfl) rfl iX8 (by decide) q_2_18 rfl rfl dX8_addSourceTo_71 ?_
      refine lv_iload_n hx hb dX8_addSourceTo_74 rfl (lv_at hl 4 rfl) ?_
      refine lv_iload hx hb dX8_addSourceTo_75 (lv_at hl 1 rfl) ?_
      refine lv_iload hx hb dX8_addSourceTo_77 (lv_at hl 0 rfl) ?_
      refine bs_ip (prtM (g := g) (T := T) (ad := ad) (q := 0) (by decide)) (rnV (rest := [.long (31 * a58_4)]) Z ((prtM (g := g) (T := T) (ad := ad) (q := 0) (by decide)).sub hw) (k_X5_sectionValue (p1 := p2) (p2 := nI k42) (p3 := nI k58) (It58.2.2.2 0 (by decide))) v_X5_sectionValue q_3_110 0 (by decide) rfl rfl rfl rfl hl.1 rfl rfl (Nat.le_of_ble_eq_true rfl) ⟨(Nat.le_of_ble_eq_true rfl), (Nat.le_of_ble_eq_true rfl)⟩ ⟨(Nat.le_of_ble_eq_true rfl), (Nat.le_of_ble_eq_true rfl)⟩ dX8_addSourceTo_79) hw Z (fun r79 er79 H locs hw => ?_)
      refine lv_i2l hx hb dX8_addSourceTo_82 rfl ?_
      refine lv_ladd hx hb dX8_addSourceTo_83 ?_
      refine lv_lstore (lv' := [(4, .long ((31 * a58_4) + r79.toInt64)), (7, .int (nI k58)), (6, .int (nI k42)), (0, .ref (ad 0)), (3, .int p2)]) hx hb dX8_addSourceTo_84 hl (by decide) rfl (fun ls hl => ?_)
      refine lv_iinc (v := nI (k58 + 1)) (lv' := [(7, .int (nI (k58 + 1))), (4, .long ((31 * a58_4) + r79.toInt64)), (6, .int (nI k42)), (0, .ref (ad 0)), (3, .int p2)]) hx hb dX8_addSourceTo_86 hl (k := 1) rfl (nI_1 _) (by decide) rfl (fun ls hl => ?_)
      refine lv_goto (tgt := 58) hx hb dX8_addSourceTo_89 (by decide) ?_
      exact ih (k58 + 1) ((31 * a58_4) + r79.toInt64) t58 H locs ls (by omega) (by omega) It58 hw (lv_sub hl [0, 2, 1, 3, 4] rfl) (fun w58_4 H locs ls ew58_4 I58 hw hl => kk w58_4 H locs ls (Eq.trans (Eq.symm (show (f_X8_addSourceTo_l58 p2 k42 n58 (k58 + 1) ((31 * a58_4) + r79.toInt64) t58) = _ from (by subst er79; exact (lf_f c61 rfl)))) ew58_4) I58 hw hl)
set_option maxHeartbeats 4000000 in
set_option maxRecDepth 100000 in
theorem L_X8_addSourceTo_42 {l : Launch} {D : va_G} {T : Nat → ClassId} {g ad : Nat → Nat} {p : Program} {e : Env} {s : State} {m : MethodId} {below : List Frame} {meth : Method} {c : Code} {A : Nat → Prop} {Qw : State → Prop} {p1 : Int64} {p2 : Int32} (Z : en p m c cX8_addSourceTo 8 s [.ref (ad 0), .long p1, .int p2].toArray "NestedBells" D T g A) : ∀ (n42 : Nat) (k42 : Nat) (a42_4 : Int64) (t42 : St) (H : Heap) (locs : List Loc) (ls : Array Slot), k42 ≤ 2 → 2 < k42 + n42 → InvB t42 → wo D A s.heap 405 ad (cE (bE g T ad) t42) H locs → lv_has ls 8 [(6, .int (nI k42)), (4, .long a42_4), (0, .ref (ad 0)), (3, .int p2)] → (∀ (w42_4 : Int64) (H : Heap) (locs : List Loc) (ls : Array Slot), (f_X8_addSourceTo_l42 p2 n42 k42 a42_4 t42) = w42_4 → InvB t42 → wo D A s.heap 405 ad (cE (bE g T ad) t42) H locs → lv_has ls 8 [(4, .long w42_4)] → W p l e rmX8_addSourceTo s m [.ref (ad 0), .long p1, .int p2].toArray below meth c H locs 0 0 Qw (F0 m 98 ls [])) → W p l e rmX8_addSourceTo s m [.ref (ad 0), .long p1, .int p2].toArray below meth c H locs 0 0 Qw (F0 m 42 ls []) := by
  have hx := Z.1.1
  have hb := Z.1.2.1
  intro n42
  induction n42 with
  | zero =>
    intro k42 a42_4 t42 H locs ls hk42 hn42 It42 hw hl kk
    exact absurd hn42 (by omega)
  | succ n42 ih =>
    intro k42 a42_4 t42 H locs ls hk42 hn42 It42 hw hl kk
    refine lv_iload hx hb dX8_addSourceTo_42 (lv_at hl 0 rfl) ?_
    refine lv_aload_n hx hb dX8_addSourceTo_44 rfl (lv_at hl 2 rfl) ?_
    refine gO (C := "NestedBells") (TC := TX8) (NF := 5) (ci := 6) (j := 0) (v := .ref (ad 6)) Z hw (0) (by decide) rfl (fun _ => rfl) rfl iX8 (by decide) q_2_18 rfl rfl dX8_addSourceTo_45 ?_
    refine lv_iload_n hx hb dX8_addSourceTo_48 rfl (lv_at hl 3 rfl) ?_
    refine bs_ip (prtM (g := g) (T := T) (ad := ad) (q := 0) (by decide)) (rnV (rest := [.int (nI k42)]) Z ((prtM (g := g) (T := T) (ad := ad) (q := 0) (by decide)).sub hw) (k_X5_sectionsOf (p1 := p2) (It42.2.2.2 0 (by decide))) v_X5_sectionsOf q_3_106 0 (by decide) rfl rfl rfl rfl hl.1 rfl rfl (Nat.le_of_ble_eq_true rfl) ⟨(Nat.le_of_ble_eq_true rfl), (Nat.le_of_ble_eq_true rfl)⟩ ⟨(Nat.le_of_ble_eq_true rfl), (Nat.le_of_ble_eq_true rfl)⟩ dX8_addSourceTo_49) hw Z (fun r49 er49 H locs hw => ?_)
    refine lv_icmp_ge (tgt := 98) hx hb dX8_addSourceTo_52 (by decide) (fun c52 => ?_) (fun c52 => ?_)
    · exact kk _ H locs ls (Eq.symm (by subst er49; exact (lf_t c52 rfl))) It42 hw (lv_sub hl [1] rfl)
    · have hkb42 : k42 < 2 := kb_ge c52 (er49 ▸ so_le (It42.2.2.2 0 (by decide))) hk42 (by decide)
      refine lv_iconst (v := 0) hx hb dX8_addSourceTo_55 (by decide +kernel) ?_
      refine lv_istore (lv' := [(7, .int 0), (6, .int (nI k42)), (4, .long a42_4), (0, .ref (ad 0)), (3, .int p2)]) hx hb dX8_addSourceTo_56 hl (by decide) rfl (fun ls hl => ?_)
      refine L_X8_addSourceTo_58 (p1 := p1) (p2 := p2) (k42 := k42) Z fu5 0 a42_4 t42 H locs ls (by omega) (by unfold fu5; omega) It42 hw (lv_sub hl [0, 1, 2, 3, 4] rfl) (fun w58_4 H locs ls ew58_4 I58 hw hl => ?_)
      refine lv_iinc (v := nI (k42 + 1)) (lv' := [(6, .int (nI (k42 + 1))), (4, .long w58_4), (0, .ref (ad 0)), (3, .int p2)]) hx hb dX8_addSourceTo_92 hl (k := 0) rfl (nI_1 _) (by decide) rfl (fun ls hl => ?_)
      refine lv_goto (tgt := 42) hx hb dX8_addSourceTo_95 (by decide) ?_
      exact ih (k42 + 1) w58_4 t42 H locs ls (by omega) (by omega) I58 hw (lv_sub hl [0, 1, 2, 3] rfl) (fun w42_4 H locs ls ew42_4 I42 hw hl => kk w42_4 H locs ls (Eq.trans (Eq.symm (show (f_X8_addSourceTo_l42 p2 n42 (k42 + 1) w58_4 t42) = _ from (by subst ew58_4 er49; exact (lf_f c52 rfl)))) ew42_4) I42 hw hl)
set_option maxHeartbeats 4000000 in
set_option maxRecDepth 100000 in
theorem k_X8_addSourceTo {l : Launch} {D : va_G} {T : Nat → ClassId} {g ad : Nat → Nat} {σ : St} {p1 : Int64} {p2 : Int32} (I0 : InvB σ) : mX l yX8_addSourceTo cX8_addSourceTo 8 (some (.long)) rmX8_addSourceTo D T g 405 ad (cE (bE g T ad) σ) [.ref (ad 0), .long p1, .int p2] (qL D 405 ad (bE g T ad) (pR (f_X8_addSourceTo σ p1 p2) σ)) := by
  refine mX.of (own := "NestedBells") (by decide +kernel) (Nat.le_of_ble_eq_true rfl) rfl ?_
  intro p e s m below meth c A ls H locs Z hr hlk _ hw hl
  have hx := Z.1.1
  have hb := Z.1.2.1
  have hl : lv_has ls 8 [(0, .ref (ad 0)), (1, .long p1), (3, .int p2)] := hl
  refine lv_lload_n hx hb dX8_addSourceTo_0 rfl (lv_at hl 1 rfl) ?_
  refine lv_lstore (lv' := [(4, .long p1), (0, .ref (ad 0)), (1, .long p1), (3, .int p2)]) hx hb dX8_addSourceTo_1 hl (by decide) rfl (fun ls hl => ?_)
  refine lv_iconst (v := 0) hx hb dX8_addSourceTo_3 (by decide +kernel) ?_
  refine lv_istore (lv' := [(6, .int 0), (4, .long p1), (0, .ref (ad 0)), (1, .long p1), (3, .int p2)]) hx hb dX8_addSourceTo_4 hl (by decide) rfl (fun ls hl => ?_)
  refine L_X8_addSourceTo_6 (p1 := p1) (p2 := p2) Z fu18 0 p1 σ H locs ls (by omega) (by unfold fu18; omega) I0 hw (lv_sub hl [0, 1, 2, 4] rfl) (fun w6_4 H locs ls ew6_4 I6 hw hl => ?_)
  refine lv_iconst (v := 0) hx hb dX8_addSourceTo_39 (by decide +kernel) ?_
  refine lv_istore (lv' := [(6, .int 0), (4, .long w6_4), (0, .ref (ad 0)), (3, .int p2)]) hx hb dX8_addSourceTo_40 hl (by decide) rfl (fun ls hl => ?_)
  refine L_X8_addSourceTo_42 (p1 := p1) (p2 := p2) Z fu3 0 w6_4 σ H locs ls (by omega) (by unfold fu3; omega) I6 hw (lv_sub hl [0, 1, 2, 3] rfl) (fun w42_4 H locs ls ew42_4 I42 hw hl => ?_)
  refine lv_lload hx hb dX8_addSourceTo_98 (lv_at hl 0 rfl) ?_
  exact rt_l Z hr hlk hw dX8_addSourceTo_100 ⟨Eq.symm (by subst ew42_4 ew6_4; exact rfl), rfl⟩
abbrev rmX8_digest : Room := { frames := 6, cells := 0, slots := 0, locals := 137 }
def f_X8_digest_l48 : Nat → Nat → Int64 → St → Int64
  | 0, k48, a48_1, t48 => (a48_1)
  | n48 + 1, k48, a48_1, t48 => (if 12 ≤ (nI k48) then a48_1 else (let r64 := f_X5_processorValue (sb (gmM 0) t48) (nI k48); (f_X8_digest_l48 n48 (k48 + 1) ((31 * a48_1) + r64.toInt64) t48)))
def f_X8_digest_l78 : Nat → Nat → Int64 → St → Int64
  | 0, k78, a78_1, t78 => (a78_1)
  | n78 + 1, k78, a78_1, t78 => (if 10 ≤ (nI k78) then a78_1 else (let r94 := f_X5_accountValue (sb (gmM 0) t78) (nI k78); (f_X8_digest_l78 n78 (k78 + 1) ((31 * a78_1) + r94.toInt64) t78)))
def f_X8_digest_l108 : Nat → Nat → Int64 → St → Int64
  | 0, k108, a108_1, t108 => (a108_1)
  | n108 + 1, k108, a108_1, t108 => (if (t108 6 4) ≤ (nI k108) then a108_1 else (let r122 := f_X8_addSourceTo t108 a108_1 (nI k108); (f_X8_digest_l108 n108 (k108 + 1) r122 t108)))
def f_X8_digest_l134 : Nat → Nat → Int64 → St → Int64
  | 0, k134, a134_1, t134 => (a134_1)
  | n134 + 1, k134, a134_1, t134 => (if (t134 6 6) ≤ (nI k134) then a134_1 else (let r155 := f_X5_stackedAt (sb (gmM 0) t134) (nI k134); (f_X8_digest_l134 n134 (k134 + 1) ((31 * a134_1) + r155.toInt64) t134)))
def f_X8_digest_l186 (k169 : Nat) : Nat → Nat → Int64 → St → Int64
  | 0, k186, a186_1, t186 => (a186_1)
  | n186 + 1, k186, a186_1, t186 => (if 3 ≤ (nI k186) then a186_1 else (let r207 := f_X3_value (sb (gmM 0) t186) (nI k169) (nI k186); (f_X8_digest_l186 k169 n186 (k186 + 1) ((31 * a186_1) + r207.toInt64) t186)))
def f_X8_digest_l169 : Nat → Nat → Int64 → St → Int64
  | 0, k169, a169_1, t169 => (a169_1)
  | n169 + 1, k169, a169_1, t169 => (if (t169 11 4) ≤ (nI k169) then a169_1 else (let w186_1 := (f_X8_digest_l186 k169 fu4 0 a169_1 t169); (f_X8_digest_l169 n169 (k169 + 1) w186_1 t169)))
def f_X8_digest (σ : St) : Int64 := (let w48_1 := (f_X8_digest_l48 fu13 0 ((31 * ((31 * ((31 * 43211) + ((σ 1 2).toInt64))) + ((σ 3 1).toInt64))) + ((σ 0 4).toInt64)) σ); (let w78_1 := (f_X8_digest_l78 fu11 0 w48_1 σ); (let w108_1 := (f_X8_digest_l108 fu13 0 w78_1 σ); (let w134_1 := (f_X8_digest_l134 fu13 0 w108_1 σ); (let w169_1 := (f_X8_digest_l169 fu21 0 w134_1 σ); w169_1)))))
theorem v_X8_digest : cvV yX8_digest "NestedBells" cX8_digest 5 (some (.long)) 0 := ⟨q_3_78, q_3_79, q_1_1, q_3_80, rfl, by decide +kernel, by decide +kernel, by decide +kernel⟩
set_option maxHeartbeats 4000000 in
set_option maxRecDepth 100000 in
theorem L_X8_digest_48 {l : Launch} {D : va_G} {T : Nat → ClassId} {g ad : Nat → Nat} {p : Program} {e : Env} {s : State} {m : MethodId} {below : List Frame} {meth : Method} {c : Code} {A : Nat → Prop} {Qw : State → Prop} (Z : en p m c cX8_digest 5 s [.ref (ad 0)].toArray "NestedBells" D T g A) : ∀ (n48 : Nat) (k48 : Nat) (a48_1 : Int64) (t48 : St) (H : Heap) (locs : List Loc) (ls : Array Slot), k48 ≤ 12 → 12 < k48 + n48 → InvB t48 → wo D A s.heap 405 ad (cE (bE g T ad) t48) H locs → lv_has ls 5 [(3, .int (nI k48)), (1, .long a48_1), (0, .ref (ad 0))] → (∀ (w48_1 : Int64) (H : Heap) (locs : List Loc) (ls : Array Slot), (f_X8_digest_l48 n48 k48 a48_1 t48) = w48_1 → InvB t48 → wo D A s.heap 405 ad (cE (bE g T ad) t48) H locs → lv_has ls 5 [(1, .long w48_1), (0, .ref (ad 0))] → W p l e rmX8_digest s m [.ref (ad 0)].toArray below meth c H locs 0 0 Qw (F0 m 76 ls [])) → W p l e rmX8_digest s m [.ref (ad 0)].toArray below meth c H locs 0 0 Qw (F0 m 48 ls []) := by
  have hx := Z.1.1
  have hb := Z.1.2.1
  intro n48
  induction n48 with
  | zero =>
    intro k48 a48_1 t48 H locs ls hk48 hn48 It48 hw hl kk
    exact absurd hn48 (by omega)
  | succ n48 ih =>
    intro k48 a48_1 t48 H locs ls hk48 hn48 It48 hw hl kk
    refine lv_iload_n hx hb dX8_digest_48 rfl (lv_at hl 0 rfl) ?_
    refine lv_bipush (v := 12) hx hb dX8_digest_49 (by decide +kernel) ?_
    refine lv_icmp_ge (tgt := 76) hx hb dX8_digest_51 (by decide) (fun c51 => ?_) (fun c51 => ?_)
    · exact kk _ H locs ls (Eq.symm (lf_t c51 rfl)) It48 hw (lv_sub hl [1, 2] rfl)
    · have hkb48 : k48 < 12 := kb_ge c51 (by decide) hk48 (by decide)
      refine lv_ldc2 (v := 31) hx hb Z.1.2.2.2.1 (Z.1.2.2.2.2 _ q_3_82) dX8_digest_54 ?_
      refine lv_lload_n hx hb dX8_digest_57 rfl (lv_at hl 1 rfl) ?_
      refine lv_lmul hx hb dX8_digest_58 ?_
      refine lv_aload_n hx hb dX8_digest_59 rfl (lv_at hl 2 rfl) ?_
      refine gO (C := "NestedBells") (TC := TX8) (NF := 5) (ci := 6) (j := 0) (v := .ref (ad 6)) Z hw (0) (by decide) rfl (fun _ => rfl) rfl iX8 (by decide) q_2_18 rfl rfl dX8_digest_60 ?_
      refine lv_iload_n hx hb dX8_digest_63 rfl (lv_at hl 0 rfl) ?_
      refine bs_ip (prtM (g := g) (T := T) (ad := ad) (q := 0) (by decide)) (rnV (rest := [.long (31 * a48_1)]) Z ((prtM (g := g) (T := T) (ad := ad) (q := 0) (by decide)).sub hw) (k_X5_processorValue (p1 := nI k48) (It48.2.2.2 0 (by decide))) v_X5_processorValue q_3_83 0 (by decide) rfl rfl rfl rfl hl.1 rfl rfl (Nat.le_of_ble_eq_true rfl) ⟨(Nat.le_of_ble_eq_true rfl), (Nat.le_of_ble_eq_true rfl)⟩ ⟨(Nat.le_of_ble_eq_true rfl), (Nat.le_of_ble_eq_true rfl)⟩ dX8_digest_64) hw Z (fun r64 er64 H locs hw => ?_)
      refine lv_i2l hx hb dX8_digest_67 rfl ?_
      refine lv_ladd hx hb dX8_digest_68 ?_
      refine lv_lstore_n (lv' := [(1, .long ((31 * a48_1) + r64.toInt64)), (3, .int (nI k48)), (0, .ref (ad 0))]) hx hb dX8_digest_69 rfl hl (by decide) rfl (fun ls hl => ?_)
      refine lv_iinc (v := nI (k48 + 1)) (lv' := [(3, .int (nI (k48 + 1))), (1, .long ((31 * a48_1) + r64.toInt64)), (0, .ref (ad 0))]) hx hb dX8_digest_70 hl (k := 1) rfl (nI_1 _) (by decide) rfl (fun ls hl => ?_)
      refine lv_goto (tgt := 48) hx hb dX8_digest_73 (by decide) ?_
      exact ih (k48 + 1) ((31 * a48_1) + r64.toInt64) t48 H locs ls (by omega) (by omega) It48 hw (lv_sub hl [0, 1, 2] rfl) (fun w48_1 H locs ls ew48_1 I48 hw hl => kk w48_1 H locs ls (Eq.trans (Eq.symm (show (f_X8_digest_l48 n48 (k48 + 1) ((31 * a48_1) + r64.toInt64) t48) = _ from (by subst er64; exact (lf_f c51 rfl)))) ew48_1) I48 hw hl)
set_option maxHeartbeats 4000000 in
set_option maxRecDepth 100000 in
theorem L_X8_digest_78 {l : Launch} {D : va_G} {T : Nat → ClassId} {g ad : Nat → Nat} {p : Program} {e : Env} {s : State} {m : MethodId} {below : List Frame} {meth : Method} {c : Code} {A : Nat → Prop} {Qw : State → Prop} (Z : en p m c cX8_digest 5 s [.ref (ad 0)].toArray "NestedBells" D T g A) : ∀ (n78 : Nat) (k78 : Nat) (a78_1 : Int64) (t78 : St) (H : Heap) (locs : List Loc) (ls : Array Slot), k78 ≤ 10 → 10 < k78 + n78 → InvB t78 → wo D A s.heap 405 ad (cE (bE g T ad) t78) H locs → lv_has ls 5 [(3, .int (nI k78)), (1, .long a78_1), (0, .ref (ad 0))] → (∀ (w78_1 : Int64) (H : Heap) (locs : List Loc) (ls : Array Slot), (f_X8_digest_l78 n78 k78 a78_1 t78) = w78_1 → InvB t78 → wo D A s.heap 405 ad (cE (bE g T ad) t78) H locs → lv_has ls 5 [(1, .long w78_1), (0, .ref (ad 0))] → W p l e rmX8_digest s m [.ref (ad 0)].toArray below meth c H locs 0 0 Qw (F0 m 106 ls [])) → W p l e rmX8_digest s m [.ref (ad 0)].toArray below meth c H locs 0 0 Qw (F0 m 78 ls []) := by
  have hx := Z.1.1
  have hb := Z.1.2.1
  intro n78
  induction n78 with
  | zero =>
    intro k78 a78_1 t78 H locs ls hk78 hn78 It78 hw hl kk
    exact absurd hn78 (by omega)
  | succ n78 ih =>
    intro k78 a78_1 t78 H locs ls hk78 hn78 It78 hw hl kk
    refine lv_iload_n hx hb dX8_digest_78 rfl (lv_at hl 0 rfl) ?_
    refine lv_bipush (v := 10) hx hb dX8_digest_79 (by decide +kernel) ?_
    refine lv_icmp_ge (tgt := 106) hx hb dX8_digest_81 (by decide) (fun c81 => ?_) (fun c81 => ?_)
    · exact kk _ H locs ls (Eq.symm (lf_t c81 rfl)) It78 hw (lv_sub hl [1, 2] rfl)
    · have hkb78 : k78 < 10 := kb_ge c81 (by decide) hk78 (by decide)
      refine lv_ldc2 (v := 31) hx hb Z.1.2.2.2.1 (Z.1.2.2.2.2 _ q_3_82) dX8_digest_84 ?_
      refine lv_lload_n hx hb dX8_digest_87 rfl (lv_at hl 1 rfl) ?_
      refine lv_lmul hx hb dX8_digest_88 ?_
      refine lv_aload_n hx hb dX8_digest_89 rfl (lv_at hl 2 rfl) ?_
      refine gO (C := "NestedBells") (TC := TX8) (NF := 5) (ci := 6) (j := 0) (v := .ref (ad 6)) Z hw (0) (by decide) rfl (fun _ => rfl) rfl iX8 (by decide) q_2_18 rfl rfl dX8_digest_90 ?_
      refine lv_iload_n hx hb dX8_digest_93 rfl (lv_at hl 0 rfl) ?_
      refine bs_ip (prtM (g := g) (T := T) (ad := ad) (q := 0) (by decide)) (rnV (rest := [.long (31 * a78_1)]) Z ((prtM (g := g) (T := T) (ad := ad) (q := 0) (by decide)).sub hw) (k_X5_accountValue (p1 := nI k78) (It78.2.2.2 0 (by decide))) v_X5_accountValue q_3_87 0 (by decide) rfl rfl rfl rfl hl.1 rfl rfl (Nat.le_of_ble_eq_true rfl) ⟨(Nat.le_of_ble_eq_true rfl), (Nat.le_of_ble_eq_true rfl)⟩ ⟨(Nat.le_of_ble_eq_true rfl), (Nat.le_of_ble_eq_true rfl)⟩ dX8_digest_94) hw Z (fun r94 er94 H locs hw => ?_)
      refine lv_i2l hx hb dX8_digest_97 rfl ?_
      refine lv_ladd hx hb dX8_digest_98 ?_
      refine lv_lstore_n (lv' := [(1, .long ((31 * a78_1) + r94.toInt64)), (3, .int (nI k78)), (0, .ref (ad 0))]) hx hb dX8_digest_99 rfl hl (by decide) rfl (fun ls hl => ?_)
      refine lv_iinc (v := nI (k78 + 1)) (lv' := [(3, .int (nI (k78 + 1))), (1, .long ((31 * a78_1) + r94.toInt64)), (0, .ref (ad 0))]) hx hb dX8_digest_100 hl (k := 1) rfl (nI_1 _) (by decide) rfl (fun ls hl => ?_)
      refine lv_goto (tgt := 78) hx hb dX8_digest_103 (by decide) ?_
      exact ih (k78 + 1) ((31 * a78_1) + r94.toInt64) t78 H locs ls (by omega) (by omega) It78 hw (lv_sub hl [0, 1, 2] rfl) (fun w78_1 H locs ls ew78_1 I78 hw hl => kk w78_1 H locs ls (Eq.trans (Eq.symm (show (f_X8_digest_l78 n78 (k78 + 1) ((31 * a78_1) + r94.toInt64) t78) = _ from (by subst er94; exact (lf_f c81 rfl)))) ew78_1) I78 hw hl)
set_option maxHeartbeats 4000000 in
set_option maxRecDepth 100000 in
theorem L_X8_digest_108 {l : Launch} {D : va_G} {T : Nat → ClassId} {g ad : Nat → Nat} {p : Program} {e : Env} {s : State} {m : MethodId} {below : List Frame} {meth : Method} {c : Code} {A : Nat → Prop} {Qw : State → Prop} (Z : en p m c cX8_digest 5 s [.ref (ad 0)].toArray "NestedBells" D T g A) : ∀ (n108 : Nat) (k108 : Nat) (a108_1 : Int64) (t108 : St) (H : Heap) (locs : List Loc) (ls : Array Slot), k108 ≤ 12 → 12 < k108 + n108 → InvB t108 → wo D A s.heap 405 ad (cE (bE g T ad) t108) H locs → lv_has ls 5 [(3, .int (nI k108)), (1, .long a108_1), (0, .ref (ad 0))] → (∀ (w108_1 : Int64) (H : Heap) (locs : List Loc) (ls : Array Slot), (f_X8_digest_l108 n108 k108 a108_1 t108) = w108_1 → InvB t108 → wo D A s.heap 405 ad (cE (bE g T ad) t108) H locs → lv_has ls 5 [(1, .long w108_1), (0, .ref (ad 0))] → W p l e rmX8_digest s m [.ref (ad 0)].toArray below meth c H locs 0 0 Qw (F0 m 132 ls [])) → W p l e rmX8_digest s m [.ref (ad 0)].toArray below meth c H locs 0 0 Qw (F0 m 108 ls []) := by
  have hx := Z.1.1
  have hb := Z.1.2.1
  intro n108
  induction n108 with
  | zero =>
    intro k108 a108_1 t108 H locs ls hk108 hn108 It108 hw hl kk
    exact absurd hn108 (by omega)
  | succ n108 ih =>
    intro k108 a108_1 t108 H locs ls hk108 hn108 It108 hw hl kk
    refine lv_iload_n hx hb dX8_digest_108 rfl (lv_at hl 0 rfl) ?_
    refine lv_aload_n hx hb dX8_digest_109 rfl (lv_at hl 2 rfl) ?_
    refine gO (C := "NestedBells") (TC := TX8) (NF := 5) (ci := 6) (j := 0) (v := .ref (ad 6)) Z hw (0) (by decide) rfl (fun _ => rfl) rfl iX8 (by decide) q_2_18 rfl rfl dX8_digest_110 ?_
    refine gO (C := "NestedBells$Machine") (TC := TX5) (NF := 11) (ci := 3) (j := 4) (v := .int (t108 6 4)) Z hw (6) (by decide) rfl (fun _ => rfl) rfl iX5 (by decide) q_1_175 rfl rfl dX8_digest_113 ?_
    refine lv_icmp_ge (tgt := 132) hx hb dX8_digest_116 (by decide) (fun c116 => ?_) (fun c116 => ?_)
    · exact kk _ H locs ls (Eq.symm (lf_t c116 rfl)) It108 hw (lv_sub hl [1, 2] rfl)
    · have hkb108 : k108 < 12 := kb_ge c116 ((It108.2.2.2 0 (by decide)).1.2) hk108 (by decide)
      refine lv_aload_n hx hb dX8_digest_119 rfl (lv_at hl 2 rfl) ?_
      refine lv_lload_n hx hb dX8_digest_120 rfl (lv_at hl 1 rfl) ?_
      refine lv_iload_n hx hb dX8_digest_121 rfl (lv_at hl 0 rfl) ?_
      refine bk_lp (rnV (rest := []) Z hw (k_X8_addSourceTo (p1 := a108_1) (p2 := nI k108) It108) v_X8_addSourceTo q_3_91 (0) (by decide) rfl rfl rfl rfl hl.1 rfl rfl (Nat.le_of_ble_eq_true rfl) ⟨(Nat.le_of_ble_eq_true rfl), (Nat.le_of_ble_eq_true rfl)⟩ ⟨(Nat.le_of_ble_eq_true rfl), (Nat.le_of_ble_eq_true rfl)⟩ dX8_digest_122) hw Z (fun r122 er122 H locs hw => ?_)
      refine lv_lstore_n (lv' := [(1, .long r122), (3, .int (nI k108)), (0, .ref (ad 0))]) hx hb dX8_digest_125 rfl hl (by decide) rfl (fun ls hl => ?_)
      refine lv_iinc (v := nI (k108 + 1)) (lv' := [(3, .int (nI (k108 + 1))), (1, .long r122), (0, .ref (ad 0))]) hx hb dX8_digest_126 hl (k := 1) rfl (nI_1 _) (by decide) rfl (fun ls hl => ?_)
      refine lv_goto (tgt := 108) hx hb dX8_digest_129 (by decide) ?_
      exact ih (k108 + 1) r122 t108 H locs ls (by omega) (by omega) It108 hw (lv_sub hl [0, 1, 2] rfl) (fun w108_1 H locs ls ew108_1 I108 hw hl => kk w108_1 H locs ls (Eq.trans (Eq.symm (show (f_X8_digest_l108 n108 (k108 + 1) r122 t108) = _ from (by subst er122; exact (lf_f c116 rfl)))) ew108_1) I108 hw hl)
set_option maxHeartbeats 4000000 in
set_option maxRecDepth 100000 in
theorem L_X8_digest_134 {l : Launch} {D : va_G} {T : Nat → ClassId} {g ad : Nat → Nat} {p : Program} {e : Env} {s : State} {m : MethodId} {below : List Frame} {meth : Method} {c : Code} {A : Nat → Prop} {Qw : State → Prop} (Z : en p m c cX8_digest 5 s [.ref (ad 0)].toArray "NestedBells" D T g A) : ∀ (n134 : Nat) (k134 : Nat) (a134_1 : Int64) (t134 : St) (H : Heap) (locs : List Loc) (ls : Array Slot), k134 ≤ 12 → 12 < k134 + n134 → InvB t134 → wo D A s.heap 405 ad (cE (bE g T ad) t134) H locs → lv_has ls 5 [(3, .int (nI k134)), (1, .long a134_1), (0, .ref (ad 0))] → (∀ (w134_1 : Int64) (H : Heap) (locs : List Loc) (ls : Array Slot), (f_X8_digest_l134 n134 k134 a134_1 t134) = w134_1 → InvB t134 → wo D A s.heap 405 ad (cE (bE g T ad) t134) H locs → lv_has ls 5 [(1, .long w134_1), (0, .ref (ad 0))] → W p l e rmX8_digest s m [.ref (ad 0)].toArray below meth c H locs 0 0 Qw (F0 m 167 ls [])) → W p l e rmX8_digest s m [.ref (ad 0)].toArray below meth c H locs 0 0 Qw (F0 m 134 ls []) := by
  have hx := Z.1.1
  have hb := Z.1.2.1
  intro n134
  induction n134 with
  | zero =>
    intro k134 a134_1 t134 H locs ls hk134 hn134 It134 hw hl kk
    exact absurd hn134 (by omega)
  | succ n134 ih =>
    intro k134 a134_1 t134 H locs ls hk134 hn134 It134 hw hl kk
    refine lv_iload_n hx hb dX8_digest_134 rfl (lv_at hl 0 rfl) ?_
    refine lv_aload_n hx hb dX8_digest_135 rfl (lv_at hl 2 rfl) ?_
    refine gO (C := "NestedBells") (TC := TX8) (NF := 5) (ci := 6) (j := 0) (v := .ref (ad 6)) Z hw (0) (by decide) rfl (fun _ => rfl) rfl iX8 (by decide) q_2_18 rfl rfl dX8_digest_136 ?_
    refine gO (C := "NestedBells$Machine") (TC := TX5) (NF := 11) (ci := 3) (j := 6) (v := .int (t134 6 6)) Z hw (6) (by decide) rfl (fun _ => rfl) rfl iX5 (by decide) q_1_178 rfl rfl dX8_digest_139 ?_
    refine lv_icmp_ge (tgt := 167) hx hb dX8_digest_142 (by decide) (fun c142 => ?_) (fun c142 => ?_)
    · exact kk _ H locs ls (Eq.symm (lf_t c142 rfl)) It134 hw (lv_sub hl [1, 2] rfl)
    · have hkb134 : k134 < 12 := kb_ge c142 ((It134.2.2.2 0 (by decide)).2.1.2) hk134 (by decide)
      refine lv_ldc2 (v := 31) hx hb Z.1.2.2.2.1 (Z.1.2.2.2.2 _ q_3_82) dX8_digest_145 ?_
      refine lv_lload_n hx hb dX8_digest_148 rfl (lv_at hl 1 rfl) ?_
      refine lv_lmul hx hb dX8_digest_149 ?_
      refine lv_aload_n hx hb dX8_digest_150 rfl (lv_at hl 2 rfl) ?_
      refine gO (C := "NestedBells") (TC := TX8) (NF := 5) (ci := 6) (j := 0) (v := .ref (ad 6)) Z hw (0) (by decide) rfl (fun _ => rfl) rfl iX8 (by decide) q_2_18 rfl rfl dX8_digest_151 ?_
      refine lv_iload_n hx hb dX8_digest_154 rfl (lv_at hl 0 rfl) ?_
      refine bs_ip (prtM (g := g) (T := T) (ad := ad) (q := 0) (by decide)) (rnV (rest := [.long (31 * a134_1)]) Z ((prtM (g := g) (T := T) (ad := ad) (q := 0) (by decide)).sub hw) (k_X5_stackedAt (p1 := nI k134) (It134.2.2.2 0 (by decide))) v_X5_stackedAt q_3_114 0 (by decide) rfl rfl rfl rfl hl.1 rfl rfl (Nat.le_of_ble_eq_true rfl) ⟨(Nat.le_of_ble_eq_true rfl), (Nat.le_of_ble_eq_true rfl)⟩ ⟨(Nat.le_of_ble_eq_true rfl), (Nat.le_of_ble_eq_true rfl)⟩ dX8_digest_155) hw Z (fun r155 er155 H locs hw => ?_)
      refine lv_i2l hx hb dX8_digest_158 rfl ?_
      refine lv_ladd hx hb dX8_digest_159 ?_
      refine lv_lstore_n (lv' := [(1, .long ((31 * a134_1) + r155.toInt64)), (3, .int (nI k134)), (0, .ref (ad 0))]) hx hb dX8_digest_160 rfl hl (by decide) rfl (fun ls hl => ?_)
      refine lv_iinc (v := nI (k134 + 1)) (lv' := [(3, .int (nI (k134 + 1))), (1, .long ((31 * a134_1) + r155.toInt64)), (0, .ref (ad 0))]) hx hb dX8_digest_161 hl (k := 1) rfl (nI_1 _) (by decide) rfl (fun ls hl => ?_)
      refine lv_goto (tgt := 134) hx hb dX8_digest_164 (by decide) ?_
      exact ih (k134 + 1) ((31 * a134_1) + r155.toInt64) t134 H locs ls (by omega) (by omega) It134 hw (lv_sub hl [0, 1, 2] rfl) (fun w134_1 H locs ls ew134_1 I134 hw hl => kk w134_1 H locs ls (Eq.trans (Eq.symm (show (f_X8_digest_l134 n134 (k134 + 1) ((31 * a134_1) + r155.toInt64) t134) = _ from (by subst er155; exact (lf_f c142 rfl)))) ew134_1) I134 hw hl)
set_option maxHeartbeats 4000000 in
set_option maxRecDepth 100000 in
theorem L_X8_digest_186 {l : Launch} {D : va_G} {T : Nat → ClassId} {g ad : Nat → Nat} {p : Program} {e : Env} {s : State} {m : MethodId} {below : List Frame} {meth : Method} {c : Code} {A : Nat → Prop} {Qw : State → Prop} {k169 : Nat} (Z : en p m c cX8_digest 5 s [.ref (ad 0)].toArray "NestedBells" D T g A) : ∀ (n186 : Nat) (k186 : Nat) (a186_1 : Int64) (t186 : St) (H : Heap) (locs : List Loc) (ls : Array Slot), k186 ≤ 3 → 3 < k186 + n186 → InvB t186 → wo D A s.heap 405 ad (cE (bE g T ad) t186) H locs → lv_has ls 5 [(4, .int (nI k186)), (3, .int (nI k169)), (1, .long a186_1), (0, .ref (ad 0))] → (∀ (w186_1 : Int64) (H : Heap) (locs : List Loc) (ls : Array Slot), (f_X8_digest_l186 k169 n186 k186 a186_1 t186) = w186_1 → InvB t186 → wo D A s.heap 405 ad (cE (bE g T ad) t186) H locs → lv_has ls 5 [(3, .int (nI k169)), (1, .long w186_1), (0, .ref (ad 0))] → W p l e rmX8_digest s m [.ref (ad 0)].toArray below meth c H locs 0 0 Qw (F0 m 219 ls [])) → W p l e rmX8_digest s m [.ref (ad 0)].toArray below meth c H locs 0 0 Qw (F0 m 186 ls []) := by
  have hx := Z.1.1
  have hb := Z.1.2.1
  intro n186
  induction n186 with
  | zero =>
    intro k186 a186_1 t186 H locs ls hk186 hn186 It186 hw hl kk
    exact absurd hn186 (by omega)
  | succ n186 ih =>
    intro k186 a186_1 t186 H locs ls hk186 hn186 It186 hw hl kk
    refine lv_iload hx hb dX8_digest_186 (lv_at hl 0 rfl) ?_
    refine lv_iconst (v := 3) hx hb dX8_digest_188 (by decide +kernel) ?_
    refine lv_icmp_ge (tgt := 219) hx hb dX8_digest_189 (by decide) (fun c189 => ?_) (fun c189 => ?_)
    · exact kk _ H locs ls (Eq.symm (lf_t c189 rfl)) It186 hw (lv_sub hl [1, 2, 3] rfl)
    · have hkb186 : k186 < 3 := kb_ge c189 (by decide) hk186 (by decide)
      refine lv_ldc2 (v := 31) hx hb Z.1.2.2.2.1 (Z.1.2.2.2.2 _ q_3_82) dX8_digest_192 ?_
      refine lv_lload_n hx hb dX8_digest_195 rfl (lv_at hl 2 rfl) ?_
      refine lv_lmul hx hb dX8_digest_196 ?_
      refine lv_aload_n hx hb dX8_digest_197 rfl (lv_at hl 3 rfl) ?_
      refine gO (C := "NestedBells") (TC := TX8) (NF := 5) (ci := 6) (j := 0) (v := .ref (ad 6)) Z hw (0) (by decide) rfl (fun _ => rfl) rfl iX8 (by decide) q_2_18 rfl rfl dX8_digest_198 ?_
      refine gO (C := "NestedBells$Machine") (TC := TX5) (NF := 11) (ci := 3) (j := 10) (v := .ref (ad 11)) Z hw (6) (by decide) rfl (fun _ => rfl) rfl iX5 (by decide) q_1_183 rfl rfl dX8_digest_201 ?_
      refine lv_iload_n hx hb dX8_digest_204 rfl (lv_at hl 1 rfl) ?_
      refine lv_iload hx hb dX8_digest_205 (lv_at hl 0 rfl) ?_
      refine bs_ip (prtM (g := g) (T := T) (ad := ad) (q := 0) (by decide)) (rnV (rest := [.long (31 * a186_1)]) Z ((prtM (g := g) (T := T) (ad := ad) (q := 0) (by decide)).sub hw) (k_X3_value (p1 := nI k169) (p2 := nI k186) (It186.2.2.2 0 (by decide))) v_X3_value q_3_115 5 (by decide) rfl rfl rfl rfl hl.1 rfl rfl (Nat.le_of_ble_eq_true rfl) ⟨(Nat.le_of_ble_eq_true rfl), (Nat.le_of_ble_eq_true rfl)⟩ ⟨(Nat.le_of_ble_eq_true rfl), (Nat.le_of_ble_eq_true rfl)⟩ dX8_digest_207) hw Z (fun r207 er207 H locs hw => ?_)
      refine lv_i2l hx hb dX8_digest_210 rfl ?_
      refine lv_ladd hx hb dX8_digest_211 ?_
      refine lv_lstore_n (lv' := [(1, .long ((31 * a186_1) + r207.toInt64)), (4, .int (nI k186)), (3, .int (nI k169)), (0, .ref (ad 0))]) hx hb dX8_digest_212 rfl hl (by decide) rfl (fun ls hl => ?_)
      refine lv_iinc (v := nI (k186 + 1)) (lv' := [(4, .int (nI (k186 + 1))), (1, .long ((31 * a186_1) + r207.toInt64)), (3, .int (nI k169)), (0, .ref (ad 0))]) hx hb dX8_digest_213 hl (k := 1) rfl (nI_1 _) (by decide) rfl (fun ls hl => ?_)
      refine lv_goto (tgt := 186) hx hb dX8_digest_216 (by decide) ?_
      exact ih (k186 + 1) ((31 * a186_1) + r207.toInt64) t186 H locs ls (by omega) (by omega) It186 hw (lv_sub hl [0, 2, 1, 3] rfl) (fun w186_1 H locs ls ew186_1 I186 hw hl => kk w186_1 H locs ls (Eq.trans (Eq.symm (show (f_X8_digest_l186 k169 n186 (k186 + 1) ((31 * a186_1) + r207.toInt64) t186) = _ from (by subst er207; exact (lf_f c189 rfl)))) ew186_1) I186 hw hl)
set_option maxHeartbeats 4000000 in
set_option maxRecDepth 100000 in
theorem L_X8_digest_169 {l : Launch} {D : va_G} {T : Nat → ClassId} {g ad : Nat → Nat} {p : Program} {e : Env} {s : State} {m : MethodId} {below : List Frame} {meth : Method} {c : Code} {A : Nat → Prop} {Qw : State → Prop} (Z : en p m c cX8_digest 5 s [.ref (ad 0)].toArray "NestedBells" D T g A) : ∀ (n169 : Nat) (k169 : Nat) (a169_1 : Int64) (t169 : St) (H : Heap) (locs : List Loc) (ls : Array Slot), k169 ≤ 20 → 20 < k169 + n169 → InvB t169 → wo D A s.heap 405 ad (cE (bE g T ad) t169) H locs → lv_has ls 5 [(3, .int (nI k169)), (1, .long a169_1), (0, .ref (ad 0))] → (∀ (w169_1 : Int64) (H : Heap) (locs : List Loc) (ls : Array Slot), (f_X8_digest_l169 n169 k169 a169_1 t169) = w169_1 → InvB t169 → wo D A s.heap 405 ad (cE (bE g T ad) t169) H locs → lv_has ls 5 [(1, .long w169_1)] → W p l e rmX8_digest s m [.ref (ad 0)].toArray below meth c H locs 0 0 Qw (F0 m 225 ls [])) → W p l e rmX8_digest s m [.ref (ad 0)].toArray below meth c H locs 0 0 Qw (F0 m 169 ls []) := by
  have hx := Z.1.1
  have hb := Z.1.2.1
  intro n169
  induction n169 with
  | zero =>
    intro k169 a169_1 t169 H locs ls hk169 hn169 It169 hw hl kk
    exact absurd hn169 (by omega)
  | succ n169 ih =>
    intro k169 a169_1 t169 H locs ls hk169 hn169 It169 hw hl kk
    refine lv_iload_n hx hb dX8_digest_169 rfl (lv_at hl 0 rfl) ?_
    refine lv_aload_n hx hb dX8_digest_170 rfl (lv_at hl 2 rfl) ?_
    refine gO (C := "NestedBells") (TC := TX8) (NF := 5) (ci := 6) (j := 0) (v := .ref (ad 6)) Z hw (0) (by decide) rfl (fun _ => rfl) rfl iX8 (by decide) q_2_18 rfl rfl dX8_digest_171 ?_
    refine gO (C := "NestedBells$Machine") (TC := TX5) (NF := 11) (ci := 3) (j := 10) (v := .ref (ad 11)) Z hw (6) (by decide) rfl (fun _ => rfl) rfl iX5 (by decide) q_1_183 rfl rfl dX8_digest_174 ?_
    refine gO (C := "NestedBells$EventLog") (TC := TX3) (NF := 5) (ci := 1) (j := 4) (v := .int (t169 11 4)) Z hw (11) (by decide) rfl (fun _ => rfl) rfl iX3 (by decide) q_1_51 rfl rfl dX8_digest_177 ?_
    refine lv_icmp_ge (tgt := 225) hx hb dX8_digest_180 (by decide) (fun c180 => ?_) (fun c180 => ?_)
    · exact kk _ H locs ls (Eq.symm (lf_t c180 rfl)) It169 hw (lv_sub hl [1] rfl)
    · have hkb169 : k169 < 20 := kb_ge c180 ((It169.2.2.2 0 (by decide)).2.2.2.1.2) hk169 (by decide)
      refine lv_iconst (v := 0) hx hb dX8_digest_183 (by decide +kernel) ?_
      refine lv_istore (lv' := [(4, .int 0), (3, .int (nI k169)), (1, .long a169_1), (0, .ref (ad 0))]) hx hb dX8_digest_184 hl (by decide) rfl (fun ls hl => ?_)
      refine L_X8_digest_186 (k169 := k169) Z fu4 0 a169_1 t169 H locs ls (by omega) (by unfold fu4; omega) It169 hw (lv_sub hl [0, 1, 2, 3] rfl) (fun w186_1 H locs ls ew186_1 I186 hw hl => ?_)
      refine lv_iinc (v := nI (k169 + 1)) (lv' := [(3, .int (nI (k169 + 1))), (1, .long w186_1), (0, .ref (ad 0))]) hx hb dX8_digest_219 hl (k := 0) rfl (nI_1 _) (by decide) rfl (fun ls hl => ?_)
      refine lv_goto (tgt := 169) hx hb dX8_digest_222 (by decide) ?_
      exact ih (k169 + 1) w186_1 t169 H locs ls (by omega) (by omega) I186 hw (lv_sub hl [0, 1, 2] rfl) (fun w169_1 H locs ls ew169_1 I169 hw hl => kk w169_1 H locs ls (Eq.trans (Eq.symm (show (f_X8_digest_l169 n169 (k169 + 1) w186_1 t169) = _ from (by subst ew186_1; exact (lf_f c180 rfl)))) ew169_1) I169 hw hl)
set_option maxHeartbeats 4000000 in
set_option maxRecDepth 100000 in
theorem k_X8_digest {l : Launch} {D : va_G} {T : Nat → ClassId} {g ad : Nat → Nat} {σ : St} (I0 : InvB σ) : mX l yX8_digest cX8_digest 5 (some (.long)) rmX8_digest D T g 405 ad (cE (bE g T ad) σ) [.ref (ad 0)] (qL D 405 ad (bE g T ad) (pR (f_X8_digest σ) σ)) := by
  refine mX.of (own := "NestedBells") (by decide +kernel) (Nat.le_of_ble_eq_true rfl) rfl ?_
  intro p e s m below meth c A ls H locs Z hr hlk _ hw hl
  have hx := Z.1.1
  have hb := Z.1.2.1
  have hl : lv_has ls 5 [(0, .ref (ad 0))] := hl
  refine lv_ldc2 (v := 43211) hx hb Z.1.2.2.2.1 (Z.1.2.2.2.2 _ q_3_81) dX8_digest_0 ?_
  refine lv_lstore_n (lv' := [(1, .long 43211), (0, .ref (ad 0))]) hx hb dX8_digest_3 rfl hl (by decide) rfl (fun ls hl => ?_)
  refine lv_ldc2 (v := 31) hx hb Z.1.2.2.2.1 (Z.1.2.2.2.2 _ q_3_82) dX8_digest_4 ?_
  refine lv_lload_n hx hb dX8_digest_7 rfl (lv_at hl 0 rfl) ?_
  refine lv_lmul hx hb dX8_digest_8 ?_
  refine lv_aload_n hx hb dX8_digest_9 rfl (lv_at hl 1 rfl) ?_
  refine gO (C := "NestedBells") (TC := TX8) (NF := 5) (ci := 6) (j := 2) (v := .ref (ad 1)) Z hw (0) (by decide) rfl (fun _ => rfl) rfl iX8 (by decide) q_2_20 rfl rfl dX8_digest_10 ?_
  refine gO (C := "NestedBells$History") (TC := TX4) (NF := 3) (ci := 2) (j := 2) (v := .int (σ 1 2)) Z hw (1) (by decide) rfl (fun _ => rfl) rfl iX4 (by decide) q_1_219 rfl rfl dX8_digest_13 ?_
  refine lv_i2l hx hb dX8_digest_16 rfl ?_
  refine lv_ladd hx hb dX8_digest_17 ?_
  refine lv_lstore_n (lv' := [(1, .long ((31 * 43211) + ((σ 1 2).toInt64))), (0, .ref (ad 0))]) hx hb dX8_digest_18 rfl hl (by decide) rfl (fun ls hl => ?_)
  refine lv_ldc2 (v := 31) hx hb Z.1.2.2.2.1 (Z.1.2.2.2.2 _ q_3_82) dX8_digest_19 ?_
  refine lv_lload_n hx hb dX8_digest_22 rfl (lv_at hl 0 rfl) ?_
  refine lv_lmul hx hb dX8_digest_23 ?_
  refine lv_aload_n hx hb dX8_digest_24 rfl (lv_at hl 1 rfl) ?_
  refine gO (C := "NestedBells") (TC := TX8) (NF := 5) (ci := 6) (j := 3) (v := .ref (ad 3)) Z hw (0) (by decide) rfl (fun _ => rfl) rfl iX8 (by decide) q_2_21 rfl rfl dX8_digest_25 ?_
  refine gO (C := "NestedBells$CommandText") (TC := TX2) (NF := 6) (ci := 0) (j := 1) (v := .int (σ 3 1)) Z hw (3) (by decide) rfl (fun _ => rfl) rfl iX2 (by decide) q_1_237 rfl rfl dX8_digest_28 ?_
  refine lv_i2l hx hb dX8_digest_31 rfl ?_
  refine lv_ladd hx hb dX8_digest_32 ?_
  refine lv_lstore_n (lv' := [(1, .long ((31 * ((31 * 43211) + ((σ 1 2).toInt64))) + ((σ 3 1).toInt64))), (0, .ref (ad 0))]) hx hb dX8_digest_33 rfl hl (by decide) rfl (fun ls hl => ?_)
  refine lv_ldc2 (v := 31) hx hb Z.1.2.2.2.1 (Z.1.2.2.2.2 _ q_3_82) dX8_digest_34 ?_
  refine lv_lload_n hx hb dX8_digest_37 rfl (lv_at hl 0 rfl) ?_
  refine lv_lmul hx hb dX8_digest_38 ?_
  refine lv_aload_n hx hb dX8_digest_39 rfl (lv_at hl 1 rfl) ?_
  refine gO (C := "NestedBells") (TC := TX8) (NF := 5) (ci := 6) (j := 4) (v := .int (σ 0 4)) Z hw (0) (by decide) rfl (fun _ => rfl) rfl iX8 (by decide) q_2_22 rfl rfl dX8_digest_40 ?_
  refine lv_i2l hx hb dX8_digest_43 rfl ?_
  refine lv_ladd hx hb dX8_digest_44 ?_
  refine lv_lstore_n (lv' := [(1, .long ((31 * ((31 * ((31 * 43211) + ((σ 1 2).toInt64))) + ((σ 3 1).toInt64))) + ((σ 0 4).toInt64))), (0, .ref (ad 0))]) hx hb dX8_digest_45 rfl hl (by decide) rfl (fun ls hl => ?_)
  refine lv_iconst (v := 0) hx hb dX8_digest_46 (by decide +kernel) ?_
  refine lv_istore_n (lv' := [(3, .int 0), (1, .long ((31 * ((31 * ((31 * 43211) + ((σ 1 2).toInt64))) + ((σ 3 1).toInt64))) + ((σ 0 4).toInt64))), (0, .ref (ad 0))]) hx hb dX8_digest_47 rfl hl (by decide) rfl (fun ls hl => ?_)
  refine L_X8_digest_48 Z fu13 0 ((31 * ((31 * ((31 * 43211) + ((σ 1 2).toInt64))) + ((σ 3 1).toInt64))) + ((σ 0 4).toInt64)) σ H locs ls (by omega) (by unfold fu13; omega) I0 hw (lv_sub hl [0, 1, 2] rfl) (fun w48_1 H locs ls ew48_1 I48 hw hl => ?_)
  refine lv_iconst (v := 0) hx hb dX8_digest_76 (by decide +kernel) ?_
  refine lv_istore_n (lv' := [(3, .int 0), (1, .long w48_1), (0, .ref (ad 0))]) hx hb dX8_digest_77 rfl hl (by decide) rfl (fun ls hl => ?_)
  refine L_X8_digest_78 Z fu11 0 w48_1 σ H locs ls (by omega) (by unfold fu11; omega) I48 hw (lv_sub hl [0, 1, 2] rfl) (fun w78_1 H locs ls ew78_1 I78 hw hl => ?_)
  refine lv_iconst (v := 0) hx hb dX8_digest_106 (by decide +kernel) ?_
  refine lv_istore_n (lv' := [(3, .int 0), (1, .long w78_1), (0, .ref (ad 0))]) hx hb dX8_digest_107 rfl hl (by decide) rfl (fun ls hl => ?_)
  refine L_X8_digest_108 Z fu13 0 w78_1 σ H locs ls (by omega) (by unfold fu13; omega) I78 hw (lv_sub hl [0, 1, 2] rfl) (fun w108_1 H locs ls ew108_1 I108 hw hl => ?_)
  refine lv_iconst (v := 0) hx hb dX8_digest_132 (by decide +kernel) ?_
  refine lv_istore_n (lv' := [(3, .int 0), (1, .long w108_1), (0, .ref (ad 0))]) hx hb dX8_digest_133 rfl hl (by decide) rfl (fun ls hl => ?_)
  refine L_X8_digest_134 Z fu13 0 w108_1 σ H locs ls (by omega) (by unfold fu13; omega) I108 hw (lv_sub hl [0, 1, 2] rfl) (fun w134_1 H locs ls ew134_1 I134 hw hl => ?_)
  refine lv_iconst (v := 0) hx hb dX8_digest_167 (by decide +kernel) ?_
  refine lv_istore_n (lv' := [(3, .int 0), (1, .long w134_1), (0, .ref (ad 0))]) hx hb dX8_digest_168 rfl hl (by decide) rfl (fun ls hl => ?_)
  refine L_X8_digest_169 Z fu21 0 w134_1 σ H locs ls (by omega) (by unfold fu21; omega) I134 hw (lv_sub hl [0, 1, 2] rfl) (fun w169_1 H locs ls ew169_1 I169 hw hl => ?_)
  refine lv_lload_n hx hb dX8_digest_225 rfl (lv_at hl 0 rfl) ?_
  exact rt_l Z hr hlk hw dX8_digest_226 ⟨Eq.symm (by subst ew169_1 ew134_1 ew108_1 ew78_1 ew48_1; exact rfl), rfl⟩
