theorem InvD.uph {σ : St} {v : Int64} (I : InvD σ) : InvD (uph σ v) := (I.up (by decide)).up (by decide)
def lc (x y : Int64) : Int32 := if x > y then 1 else (if x = y then 0 else (-1))
theorem lc_0 {x y : Int64} : lc x y = 0 ↔ x = y := by
  unfold lc
  by_cases h : x > y
  · rw [if_pos h]
    exact ⟨fun a => absurd a (by decide), fun a => by subst a; exact absurd h Int64.lt_irrefl⟩
  · rw [if_neg h]
    by_cases h2 : x = y
    · rw [if_pos h2]; exact ⟨fun _ => h2, fun _ => rfl⟩
    · rw [if_neg h2]; exact ⟨fun a => absurd a (by decide), fun a => absurd a h2⟩
theorem lv_lcmp {p : Program} {l : Launch} {e : Env} {R : Room} {s : State} {m : MethodId} {args : Array Value} {below : List Frame} {meth : Method} {c : Code} {H : Heap} {locs : List Loc} {cells slots : Nat} {Qw : State → Prop} {cc : ByteArray} {pc : Nat} {ls : Array Slot} {rest : List Value} (hexec : p.tables.exec = Jvm.exec) (hb : c.code = cc) {x y : Int64} (hdg : decode cc pc = .ok (.lcmp, 1))
    (k : W p l e R s m args below meth c H locs cells slots Qw (F0 m (pc + 1) ls (.int (lc x y) :: rest))) : W p l e R s m args below meth c H locs cells slots Qw (F0 m pc ls (.long y :: .long x :: rest)) := by
  intro T hT X
  obtain ⟨t, a, b⟩ := k T hT X
  refine ⟨t, ?_, b⟩
  by_cases c1 : x > y
  · rw [show lc x y = 1 from if_pos c1] at a
    jvm_step X.here [X.here.top, hexec, hb, hdg, c1]
    exact a
  · by_cases c2 : x = y
    · subst c2
      rw [lc_0.mpr rfl] at a
      jvm_step X.here [X.here.top, hexec, hb, hdg, c1]
      exact a
    · rw [show lc x y = -1 from (if_neg c1).trans (if_neg c2)] at a
      jvm_step X.here [X.here.top, hexec, hb, hdg, c1, c2]
      exact a
theorem ms_8 {x r : Int32} {k : Nat} (h : ¬ 4 * r ≤ nI k) (hr : 0 ≤ r.toInt ∧ r.toInt ≤ 2) (hk : k ≤ 8) : k < 8 := by
  obtain ⟨j, hj, rfl⟩ := of_nI (n := 3) ⟨hr.1, by omega⟩ (by decide)
  have key : ∀ j, j < 3 → (4 * nI j).toInt ≤ 8 := by decide +kernel
  exact kb_ge h (key j hj) hk (by decide)
theorem ms_q {k : Nat} (h : k < 8) : (0 ≤ (nI k / 4).toInt ∧ (nI k / 4).toInt < 2) ∧ 0 ≤ (nI k - nI k / 4 * 4).toInt ∧ (nI k - nI k / 4 * 4).toInt < 4 := by
  have key : ∀ k, k < 8 → (0 ≤ (nI k / 4).toInt ∧ (nI k / 4).toInt < 2) ∧ 0 ≤ (nI k - nI k / 4 * 4).toInt ∧ (nI k - nI k / 4 * 4).toInt < 4 := by decide +kernel
  exact key k h
theorem dg_60 {x : Int32} {k : Nat} (h : ¬ 3 * x ≤ nI k) (hx : 0 ≤ x.toInt ∧ x.toInt ≤ 20) (hk : k ≤ 60) : k < 60 := by
  obtain ⟨j, hj, rfl⟩ := of_nI (n := 21) ⟨hx.1, by omega⟩ (by decide)
  have key : ∀ j, j < 21 → (3 * nI j).toInt ≤ 60 := by decide +kernel
  exact kb_ge h (key j hj) hk (by decide)
def fu18 : Nat := 18
def fu9 : Nat := 9
def fu11 : Nat := 11

abbrev rmX9_mix : Room := { frames := 0, cells := 0, slots := 0, locals := 0 }
def f_X9_mix (σ : St) (p1 : Int32) : St := uph σ ((31 * (mk64 (σ 0 11) (σ 0 12))) + p1.toInt64)
theorem v_X9_mix : cvV yX9_mix "NestedBellsModel" cX9_mix 2 none 1 := ⟨q_6_95, s_79, q_1_10, q_6_96, rfl, by decide +kernel, by decide +kernel, by decide +kernel⟩
set_option maxHeartbeats 4000000 in
set_option maxRecDepth 100000 in
theorem k_X9_mix {l : Launch} {D : va_G} {T : Nat → ClassId} {g ad : Nat → Nat} {σ : St} {p1 : Int32} (I0 : InvD σ) : mX l yX9_mix cX9_mix 2 none rmX9_mix D T g 6 ad (cE (dE T ad) σ) [.ref (ad 0), .int p1] (qV D 6 ad (dE T ad) (pV (f_X9_mix σ p1) InvD)) := by
  refine mX.of (own := "NestedBellsModel") (by decide +kernel) (Nat.le_of_ble_eq_true rfl) rfl ?_
  intro p e s m below meth c A ls H locs Z hr hlk _ hw hl
  have hx := Z.1.1
  have hb := Z.1.2.1
  have hl : lv_has ls 2 [(0, .ref (ad 0)), (1, .int p1)] := hl
  refine lv_aload_n hx hb dX9_mix_0 rfl (lv_at hl 0 rfl) ?_
  refine lv_ldc2 (v := 31) hx hb Z.1.2.2.2.1 (Z.1.2.2.2.2 _ q_6_97) dX9_mix_1 ?_
  refine lv_aload_n hx hb dX9_mix_4 rfl (lv_at hl 0 rfl) ?_
  refine gD (j := 11) (v := .long (mk64 (σ 0 11) (σ 0 12))) Z hw  (by decide) q_4_223 rfl rfl dX9_mix_5 ?_
  refine lv_lmul hx hb dX9_mix_8 ?_
  refine lv_iload_n hx hb dX9_mix_9 rfl (lv_at hl 1 rfl) ?_
  refine lv_i2l hx hb dX9_mix_10 rfl ?_
  refine lv_ladd hx hb dX9_mix_11 ?_
  refine pDL Z hw q_4_223 dX9_mix_12 (fun H locs hw => ?_)
  exact rt_v Z hr hlk hw dX9_mix_15 ⟨Eq.symm rfl, (InvD.uph I0)⟩
abbrev rmX9_mixSource : Room := { frames := 8, cells := 0, slots := 0, locals := 178 }
def f_X9_mixSource_l2 (p1 : Int32) : Nat → Nat → St → St
  | 0, k2, t2 => (t2)
  | n2 + 1, k2, t2 => (if 17 ≤ (nI k2) then t2 else (let r12 := f_X9_tellSource t2 p1 (nI k2); (let s15 := f_X9_mix t2 r12; (f_X9_mixSource_l2 p1 n2 (k2 + 1) s15))))
def f_X9_mixSource_l26 (p1 : Int32) : Nat → Nat → St → St
  | 0, k26, t26 => (t26)
  | n26 + 1, k26, t26 => (let r32 := f_X9_of t26 p1 7; (if (4 * r32) ≤ (nI k26) then t26 else (let r48 := f_X9_tellSection t26 p1 ((nI k26) / 4) ((nI k26) - (nI k26) / 4 * 4); (let s51 := f_X9_mix t26 r48; (f_X9_mixSource_l26 p1 n26 (k26 + 1) s51)))))
def f_X9_mixSource (σ : St) (p1 : Int32) : St := (let u2 := (f_X9_mixSource_l2 p1 fu18 0 σ); (let u26 := (f_X9_mixSource_l26 p1 fu9 0 u2); u26))
theorem v_X9_mixSource : cvV yX9_mixSource "NestedBellsModel" cX9_mixSource 3 none 1 := ⟨q_6_100, s_80, q_1_10, q_6_101, rfl, by decide +kernel, by decide +kernel, by decide +kernel⟩
set_option maxHeartbeats 4000000 in
set_option maxRecDepth 100000 in
theorem L_X9_mixSource_2 {l : Launch} {D : va_G} {T : Nat → ClassId} {g ad : Nat → Nat} {p : Program} {e : Env} {s : State} {m : MethodId} {below : List Frame} {meth : Method} {c : Code} {A : Nat → Prop} {Qw : State → Prop} {p1 : Int32} (Z : en p m c cX9_mixSource 3 s [.ref (ad 0), .int p1].toArray "NestedBellsModel" D T g A) (hs : 0 ≤ p1.toInt ∧ p1.toInt < 12) : ∀ (n2 : Nat) (k2 : Nat) (t2 : St) (H : Heap) (locs : List Loc) (ls : Array Slot), k2 ≤ 17 → 17 < k2 + n2 → InvD t2 → wo D A s.heap 6 ad (cE (dE T ad) t2) H locs → lv_has ls 3 [(2, .int (nI k2)), (0, .ref (ad 0)), (1, .int p1)] → (∀ (u2 : St) (H : Heap) (locs : List Loc) (ls : Array Slot), (f_X9_mixSource_l2 p1 n2 k2 t2) = u2 → InvD u2 → wo D A s.heap 6 ad (cE (dE T ad) u2) H locs → lv_has ls 3 [(0, .ref (ad 0)), (1, .int p1)] → W p l e rmX9_mixSource s m [.ref (ad 0), .int p1].toArray below meth c H locs 0 0 Qw (F0 m 24 ls [])) → W p l e rmX9_mixSource s m [.ref (ad 0), .int p1].toArray below meth c H locs 0 0 Qw (F0 m 2 ls []) := by
  have hx := Z.1.1
  have hb := Z.1.2.1
  intro n2
  induction n2 with
  | zero =>
    intro k2 t2 H locs ls hk2 hn2 It2 hw hl kk
    exact absurd hn2 (by omega)
  | succ n2 ih =>
    intro k2 t2 H locs ls hk2 hn2 It2 hw hl kk
    refine lv_iload_n hx hb dX9_mixSource_2 rfl (lv_at hl 0 rfl) ?_
    refine lv_bipush (v := 17) hx hb dX9_mixSource_3 (by decide +kernel) ?_
    refine lv_icmp_ge (tgt := 24) hx hb dX9_mixSource_5 (by decide) (fun c5 => ?_) (fun c5 => ?_)
    · exact kk _ H locs ls (Eq.symm (lf_t c5 rfl)) It2 hw (lv_sub hl [1, 2] rfl)
    · have hkb2 : k2 < 17 := kb_ge c5 (by decide) hk2 (by decide)
      refine lv_aload_n hx hb dX9_mixSource_8 rfl (lv_at hl 1 rfl) ?_
      refine lv_aload_n hx hb dX9_mixSource_9 rfl (lv_at hl 1 rfl) ?_
      refine lv_iload_n hx hb dX9_mixSource_10 rfl (lv_at hl 2 rfl) ?_
      refine lv_iload_n hx hb dX9_mixSource_11 rfl (lv_at hl 0 rfl) ?_
      refine bk_ip (rnV (rest := [.ref (ad 0)]) Z hw (k_X9_tellSource (p1 := p1) (p2 := nI k2) It2 hs (nI_rng (by omega) (by decide))) v_X9_tellSource q_5_202 (0) (by decide) rfl rfl rfl rfl hl.1 rfl rfl (Nat.le_of_ble_eq_true rfl) ⟨(Nat.le_of_ble_eq_true rfl), (Nat.le_of_ble_eq_true rfl)⟩ ⟨(Nat.le_of_ble_eq_true rfl), (Nat.le_of_ble_eq_true rfl)⟩ dX9_mixSource_12) hw Z (fun r12 er12 H locs hw => ?_)
      refine bk_v (rnV (rest := []) Z hw (k_X9_mix (p1 := r12) It2) v_X9_mix q_6_93 (0) (by decide) rfl rfl rfl rfl hl.1 rfl rfl (Nat.le_of_ble_eq_true rfl) ⟨(Nat.le_of_ble_eq_true rfl), (Nat.le_of_ble_eq_true rfl)⟩ ⟨(Nat.le_of_ble_eq_true rfl), (Nat.le_of_ble_eq_true rfl)⟩ dX9_mixSource_15) hw Z (fun s15 H locs hp hw => ?_)
      obtain ⟨es15, I15⟩ := hp
      refine lv_iinc (v := nI (k2 + 1)) (lv' := [(2, .int (nI (k2 + 1))), (0, .ref (ad 0)), (1, .int p1)]) hx hb dX9_mixSource_18 hl (k := 0) rfl (nI_1 _) (by decide) rfl (fun ls hl => ?_)
      refine lv_goto (tgt := 2) hx hb dX9_mixSource_21 (by decide) ?_
      exact ih (k2 + 1) s15 H locs ls (by omega) (by omega) I15 hw (lv_sub hl [0, 1, 2] rfl) (fun u2 H locs ls eu2 I2 hw hl => kk u2 H locs ls (Eq.trans (Eq.symm (show (f_X9_mixSource_l2 p1 n2 (k2 + 1) s15) = _ from (by subst es15 er12; exact (lf_f c5 rfl)))) eu2) I2 hw hl)
set_option maxHeartbeats 4000000 in
set_option maxRecDepth 100000 in
theorem L_X9_mixSource_26 {l : Launch} {D : va_G} {T : Nat → ClassId} {g ad : Nat → Nat} {p : Program} {e : Env} {s : State} {m : MethodId} {below : List Frame} {meth : Method} {c : Code} {A : Nat → Prop} {Qw : State → Prop} {p1 : Int32} (Z : en p m c cX9_mixSource 3 s [.ref (ad 0), .int p1].toArray "NestedBellsModel" D T g A) (hs : 0 ≤ p1.toInt ∧ p1.toInt < 12) : ∀ (n26 : Nat) (k26 : Nat) (t26 : St) (H : Heap) (locs : List Loc) (ls : Array Slot), k26 ≤ 8 → 8 < k26 + n26 → InvD t26 → wo D A s.heap 6 ad (cE (dE T ad) t26) H locs → lv_has ls 3 [(2, .int (nI k26)), (0, .ref (ad 0)), (1, .int p1)] → (∀ (u26 : St) (H : Heap) (locs : List Loc) (ls : Array Slot), (f_X9_mixSource_l26 p1 n26 k26 t26) = u26 → InvD u26 → wo D A s.heap 6 ad (cE (dE T ad) u26) H locs → lv_has ls 3 [] → W p l e rmX9_mixSource s m [.ref (ad 0), .int p1].toArray below meth c H locs 0 0 Qw (F0 m 60 ls [])) → W p l e rmX9_mixSource s m [.ref (ad 0), .int p1].toArray below meth c H locs 0 0 Qw (F0 m 26 ls []) := by
  have hx := Z.1.1
  have hb := Z.1.2.1
  intro n26
  induction n26 with
  | zero =>
    intro k26 t26 H locs ls hk26 hn26 It26 hw hl kk
    exact absurd hn26 (by omega)
  | succ n26 ih =>
    intro k26 t26 H locs ls hk26 hn26 It26 hw hl kk
    refine lv_iload_n hx hb dX9_mixSource_26 rfl (lv_at hl 0 rfl) ?_
    refine lv_iconst (v := 4) hx hb dX9_mixSource_27 (by decide +kernel) ?_
    refine lv_aload_n hx hb dX9_mixSource_28 rfl (lv_at hl 1 rfl) ?_
    refine lv_iload_n hx hb dX9_mixSource_29 rfl (lv_at hl 2 rfl) ?_
    refine lv_bipush (v := 7) hx hb dX9_mixSource_30 (by decide +kernel) ?_
    refine bk_ip (rnV (rest := [.int 4, .int (nI k26)]) Z hw (k_X9_of (p1 := p1) (p2 := 7) It26 hs (by decide +kernel)) v_X9_of q_5_70 (0) (by decide) rfl rfl rfl rfl hl.1 rfl rfl (Nat.le_of_ble_eq_true rfl) ⟨(Nat.le_of_ble_eq_true rfl), (Nat.le_of_ble_eq_true rfl)⟩ ⟨(Nat.le_of_ble_eq_true rfl), (Nat.le_of_ble_eq_true rfl)⟩ dX9_mixSource_32) hw Z (fun r32 er32 H locs hw => ?_)
    refine lv_imul hx hb dX9_mixSource_35 ?_
    refine lv_icmp_ge (tgt := 60) hx hb dX9_mixSource_36 (by decide) (fun c36 => ?_) (fun c36 => ?_)
    · exact kk _ H locs ls (Eq.symm (by subst er32; exact (lf_t c36 rfl))) It26 hw (lv_sub hl [] rfl)
    · have hkb26 : k26 < 8 := ms_8 (x := 0) c36 (sec_of It26 hs er32) hk26
      have hq26 := ms_q hkb26
      refine lv_aload_n hx hb dX9_mixSource_39 rfl (lv_at hl 1 rfl) ?_
      refine lv_aload_n hx hb dX9_mixSource_40 rfl (lv_at hl 1 rfl) ?_
      refine lv_iload_n hx hb dX9_mixSource_41 rfl (lv_at hl 2 rfl) ?_
      refine lv_iload_n hx hb dX9_mixSource_42 rfl (lv_at hl 0 rfl) ?_
      refine lv_iconst (v := 4) hx hb dX9_mixSource_43 (by decide +kernel) ?_
      refine lv_idiv hx hb dX9_mixSource_44 (by decide) ?_
      refine lv_iload_n hx hb dX9_mixSource_45 rfl (lv_at hl 0 rfl) ?_
      refine lv_iconst (v := 4) hx hb dX9_mixSource_46 (by decide +kernel) ?_
      refine lv_irem hx hb dX9_mixSource_47 (by decide) ?_
      refine bk_ip (rnV (rest := [.ref (ad 0)]) Z hw (k_X9_tellSection (p1 := p1) (p2 := (nI k26) / 4) (p3 := (nI k26) - (nI k26) / 4 * 4) It26 hs hq26.1 hq26.2) v_X9_tellSection q_5_214 (0) (by decide) rfl rfl rfl rfl hl.1 rfl rfl (Nat.le_of_ble_eq_true rfl) ⟨(Nat.le_of_ble_eq_true rfl), (Nat.le_of_ble_eq_true rfl)⟩ ⟨(Nat.le_of_ble_eq_true rfl), (Nat.le_of_ble_eq_true rfl)⟩ dX9_mixSource_48) hw Z (fun r48 er48 H locs hw => ?_)
      refine bk_v (rnV (rest := []) Z hw (k_X9_mix (p1 := r48) It26) v_X9_mix q_6_93 (0) (by decide) rfl rfl rfl rfl hl.1 rfl rfl (Nat.le_of_ble_eq_true rfl) ⟨(Nat.le_of_ble_eq_true rfl), (Nat.le_of_ble_eq_true rfl)⟩ ⟨(Nat.le_of_ble_eq_true rfl), (Nat.le_of_ble_eq_true rfl)⟩ dX9_mixSource_51) hw Z (fun s51 H locs hp hw => ?_)
      obtain ⟨es51, I51⟩ := hp
      refine lv_iinc (v := nI (k26 + 1)) (lv' := [(2, .int (nI (k26 + 1))), (0, .ref (ad 0)), (1, .int p1)]) hx hb dX9_mixSource_54 hl (k := 0) rfl (nI_1 _) (by decide) rfl (fun ls hl => ?_)
      refine lv_goto (tgt := 26) hx hb dX9_mixSource_57 (by decide) ?_
      exact ih (k26 + 1) s51 H locs ls (by omega) (by omega) I51 hw (lv_sub hl [0, 1, 2] rfl) (fun u26 H locs ls eu26 I26 hw hl => kk u26 H locs ls (Eq.trans (Eq.symm (show (f_X9_mixSource_l26 p1 n26 (k26 + 1) s51) = _ from (by subst es51 er48 er32; exact (lf_f c36 rfl)))) eu26) I26 hw hl)
set_option maxHeartbeats 4000000 in
set_option maxRecDepth 100000 in
theorem k_X9_mixSource {l : Launch} {D : va_G} {T : Nat → ClassId} {g ad : Nat → Nat} {σ : St} {p1 : Int32} (I0 : InvD σ) (hs : 0 ≤ p1.toInt ∧ p1.toInt < 12) : mX l yX9_mixSource cX9_mixSource 3 none rmX9_mixSource D T g 6 ad (cE (dE T ad) σ) [.ref (ad 0), .int p1] (qV D 6 ad (dE T ad) (pV (f_X9_mixSource σ p1) InvD)) := by
  refine mX.of (own := "NestedBellsModel") (by decide +kernel) (Nat.le_of_ble_eq_true rfl) rfl ?_
  intro p e s m below meth c A ls H locs Z hr hlk _ hw hl
  have hx := Z.1.1
  have hb := Z.1.2.1
  have hl : lv_has ls 3 [(0, .ref (ad 0)), (1, .int p1)] := hl
  refine lv_iconst (v := 0) hx hb dX9_mixSource_0 (by decide +kernel) ?_
  refine lv_istore_n (lv' := [(2, .int 0), (0, .ref (ad 0)), (1, .int p1)]) hx hb dX9_mixSource_1 rfl hl (by decide) rfl (fun ls hl => ?_)
  refine L_X9_mixSource_2 (p1 := p1) Z hs fu18 0 σ H locs ls (by omega) (by unfold fu18; omega) I0 hw (lv_sub hl [0, 1, 2] rfl) (fun u2 H locs ls eu2 I2 hw hl => ?_)
  refine lv_iconst (v := 0) hx hb dX9_mixSource_24 (by decide +kernel) ?_
  refine lv_istore_n (lv' := [(2, .int 0), (0, .ref (ad 0)), (1, .int p1)]) hx hb dX9_mixSource_25 rfl hl (by decide) rfl (fun ls hl => ?_)
  refine L_X9_mixSource_26 (p1 := p1) Z hs fu9 0 u2 H locs ls (by omega) (by unfold fu9; omega) I2 hw (lv_sub hl [0, 1, 2] rfl) (fun u26 H locs ls eu26 I26 hw hl => ?_)
  exact rt_v Z hr hlk hw dX9_mixSource_60 ⟨Eq.symm (by subst eu26 eu2; exact rfl), I26⟩
abbrev rmX9_digest : Room := { frames := 9, cells := 0, slots := 0, locals := 200 }
def f_X9_digest_l38 : Nat → Nat → St → St
  | 0, k38, t38 => (t38)
  | n38 + 1, k38, t38 => (if 12 ≤ (nI k38) then t38 else (let r47 := f_X9_tellProcessor t38 (nI k38); (let s50 := f_X9_mix t38 r47; (f_X9_digest_l38 n38 (k38 + 1) s50))))
def f_X9_digest_l61 : Nat → Nat → St → St
  | 0, k61, t61 => (t61)
  | n61 + 1, k61, t61 => (if 10 ≤ (nI k61) then t61 else (let s77 := f_X9_mix t61 (t61 1 (83 + k61)); (f_X9_digest_l61 n61 (k61 + 1) s77)))
def f_X9_digest_l88 : Nat → Nat → St → St
  | 0, k88, t88 => (t88)
  | n88 + 1, k88, t88 => (if (t88 1 8) ≤ (nI k88) then t88 else (let s101 := f_X9_mixSource t88 (nI k88); (f_X9_digest_l88 n88 (k88 + 1) s101)))
def f_X9_digest_l112 : Nat → Nat → St → St
  | 0, k112, t112 => (t112)
  | n112 + 1, k112, t112 => (if (t112 1 9) ≤ (nI k112) then t112 else (let s133 := f_X9_mix t112 (t112 1 (10 + k112)); (f_X9_digest_l112 n112 (k112 + 1) s133)))
def f_X9_digest_l144 : Nat → Nat → St → St
  | 0, k144, t144 => (t144)
  | n144 + 1, k144, t144 => (if (3 * (t144 1 22)) ≤ (nI k144) then t144 else (let s167 := f_X9_mix t144 (t144 1 (23 + k144)); (f_X9_digest_l144 n144 (k144 + 1) s167)))
def f_X9_digest (σ : St) : Int64 × St := (let s17 := f_X9_mix (uph (up2 σ 0 4 0) 43211) ((uph (up2 σ 0 4 0) 43211) 0 3); (let s25 := f_X9_mix s17 (s17 0 6); (let s33 := f_X9_mix s25 (s25 0 7); (let u38 := (f_X9_digest_l38 fu13 0 s33); (let u61 := (f_X9_digest_l61 fu11 0 u38); (let u88 := (f_X9_digest_l88 fu13 0 u61); (let u112 := (f_X9_digest_l112 fu13 0 u88); (let u144 := (f_X9_digest_l144 fu61 0 u112); (mk64 (u144 0 11) (u144 0 12), u144)))))))))
theorem v_X9_digest : cvV yX9_digest "NestedBellsModel" cX9_digest 2 (some (.long)) 0 := ⟨q_6_89, q_6_90, q_1_10, q_6_91, rfl, by decide +kernel, by decide +kernel, by decide +kernel⟩
set_option maxHeartbeats 4000000 in
set_option maxRecDepth 100000 in
theorem L_X9_digest_38 {l : Launch} {D : va_G} {T : Nat → ClassId} {g ad : Nat → Nat} {p : Program} {e : Env} {s : State} {m : MethodId} {below : List Frame} {meth : Method} {c : Code} {A : Nat → Prop} {Qw : State → Prop} (Z : en p m c cX9_digest 2 s [.ref (ad 0)].toArray "NestedBellsModel" D T g A) : ∀ (n38 : Nat) (k38 : Nat) (t38 : St) (H : Heap) (locs : List Loc) (ls : Array Slot), k38 ≤ 12 → 12 < k38 + n38 → InvD t38 → wo D A s.heap 6 ad (cE (dE T ad) t38) H locs → lv_has ls 2 [(1, .int (nI k38)), (0, .ref (ad 0))] → (∀ (u38 : St) (H : Heap) (locs : List Loc) (ls : Array Slot), (f_X9_digest_l38 n38 k38 t38) = u38 → InvD u38 → wo D A s.heap 6 ad (cE (dE T ad) u38) H locs → lv_has ls 2 [(0, .ref (ad 0))] → W p l e rmX9_digest s m [.ref (ad 0)].toArray below meth c H locs 0 0 Qw (F0 m 59 ls [])) → W p l e rmX9_digest s m [.ref (ad 0)].toArray below meth c H locs 0 0 Qw (F0 m 38 ls []) := by
  have hx := Z.1.1
  have hb := Z.1.2.1
  intro n38
  induction n38 with
  | zero =>
    intro k38 t38 H locs ls hk38 hn38 It38 hw hl kk
    exact absurd hn38 (by omega)
  | succ n38 ih =>
    intro k38 t38 H locs ls hk38 hn38 It38 hw hl kk
    refine lv_iload_n hx hb dX9_digest_38 rfl (lv_at hl 0 rfl) ?_
    refine lv_bipush (v := 12) hx hb dX9_digest_39 (by decide +kernel) ?_
    refine lv_icmp_ge (tgt := 59) hx hb dX9_digest_41 (by decide) (fun c41 => ?_) (fun c41 => ?_)
    · exact kk _ H locs ls (Eq.symm (lf_t c41 rfl)) It38 hw (lv_sub hl [1] rfl)
    · have hkb38 : k38 < 12 := kb_ge c41 (by decide) hk38 (by decide)
      refine lv_aload_n hx hb dX9_digest_44 rfl (lv_at hl 1 rfl) ?_
      refine lv_aload_n hx hb dX9_digest_45 rfl (lv_at hl 1 rfl) ?_
      refine lv_iload_n hx hb dX9_digest_46 rfl (lv_at hl 0 rfl) ?_
      refine bk_ip (rnV (rest := [.ref (ad 0)]) Z hw (k_X9_tellProcessor (p1 := nI k38) It38 (nI_rng (by omega) (by decide))) v_X9_tellProcessor q_5_226 (0) (by decide) rfl rfl rfl rfl hl.1 rfl rfl (Nat.le_of_ble_eq_true rfl) ⟨(Nat.le_of_ble_eq_true rfl), (Nat.le_of_ble_eq_true rfl)⟩ ⟨(Nat.le_of_ble_eq_true rfl), (Nat.le_of_ble_eq_true rfl)⟩ dX9_digest_47) hw Z (fun r47 er47 H locs hw => ?_)
      refine bk_v (rnV (rest := []) Z hw (k_X9_mix (p1 := r47) It38) v_X9_mix q_6_93 (0) (by decide) rfl rfl rfl rfl hl.1 rfl rfl (Nat.le_of_ble_eq_true rfl) ⟨(Nat.le_of_ble_eq_true rfl), (Nat.le_of_ble_eq_true rfl)⟩ ⟨(Nat.le_of_ble_eq_true rfl), (Nat.le_of_ble_eq_true rfl)⟩ dX9_digest_50) hw Z (fun s50 H locs hp hw => ?_)
      obtain ⟨es50, I50⟩ := hp
      refine lv_iinc (v := nI (k38 + 1)) (lv' := [(1, .int (nI (k38 + 1))), (0, .ref (ad 0))]) hx hb dX9_digest_53 hl (k := 0) rfl (nI_1 _) (by decide) rfl (fun ls hl => ?_)
      refine lv_goto (tgt := 38) hx hb dX9_digest_56 (by decide) ?_
      exact ih (k38 + 1) s50 H locs ls (by omega) (by omega) I50 hw (lv_sub hl [0, 1] rfl) (fun u38 H locs ls eu38 I38 hw hl => kk u38 H locs ls (Eq.trans (Eq.symm (show (f_X9_digest_l38 n38 (k38 + 1) s50) = _ from (by subst es50 er47; exact (lf_f c41 rfl)))) eu38) I38 hw hl)
set_option maxHeartbeats 4000000 in
set_option maxRecDepth 100000 in
theorem L_X9_digest_61 {l : Launch} {D : va_G} {T : Nat → ClassId} {g ad : Nat → Nat} {p : Program} {e : Env} {s : State} {m : MethodId} {below : List Frame} {meth : Method} {c : Code} {A : Nat → Prop} {Qw : State → Prop} (Z : en p m c cX9_digest 2 s [.ref (ad 0)].toArray "NestedBellsModel" D T g A) : ∀ (n61 : Nat) (k61 : Nat) (t61 : St) (H : Heap) (locs : List Loc) (ls : Array Slot), k61 ≤ 10 → 10 < k61 + n61 → InvD t61 → wo D A s.heap 6 ad (cE (dE T ad) t61) H locs → lv_has ls 2 [(1, .int (nI k61)), (0, .ref (ad 0))] → (∀ (u61 : St) (H : Heap) (locs : List Loc) (ls : Array Slot), (f_X9_digest_l61 n61 k61 t61) = u61 → InvD u61 → wo D A s.heap 6 ad (cE (dE T ad) u61) H locs → lv_has ls 2 [(0, .ref (ad 0))] → W p l e rmX9_digest s m [.ref (ad 0)].toArray below meth c H locs 0 0 Qw (F0 m 86 ls [])) → W p l e rmX9_digest s m [.ref (ad 0)].toArray below meth c H locs 0 0 Qw (F0 m 61 ls []) := by
  have hx := Z.1.1
  have hb := Z.1.2.1
  intro n61
  induction n61 with
  | zero =>
    intro k61 t61 H locs ls hk61 hn61 It61 hw hl kk
    exact absurd hn61 (by omega)
  | succ n61 ih =>
    intro k61 t61 H locs ls hk61 hn61 It61 hw hl kk
    refine lv_iload_n hx hb dX9_digest_61 rfl (lv_at hl 0 rfl) ?_
    refine lv_bipush (v := 10) hx hb dX9_digest_62 (by decide +kernel) ?_
    refine lv_icmp_ge (tgt := 86) hx hb dX9_digest_64 (by decide) (fun c64 => ?_) (fun c64 => ?_)
    · exact kk _ H locs ls (Eq.symm (lf_t c64 rfl)) It61 hw (lv_sub hl [1] rfl)
    · have hkb61 : k61 < 10 := kb_ge c64 (by decide) hk61 (by decide)
      refine lv_aload_n hx hb dX9_digest_67 rfl (lv_at hl 1 rfl) ?_
      refine lv_aload_n hx hb dX9_digest_68 rfl (lv_at hl 1 rfl) ?_
      refine gD (j := 0) (v := .ref (ad 1)) Z hw  (by decide) q_4_212 rfl rfl dX9_digest_69 ?_
      refine lv_bipush (v := 83) hx hb dX9_digest_72 (by decide +kernel) ?_
      refine lv_iload_n hx hb dX9_digest_74 rfl (lv_at hl 0 rfl) ?_
      refine lv_iadd hx hb dX9_digest_75 ?_
      refine aE (v := t61 1 (83 + k61)) Z hw 1 (by decide) rfl (fun _ => rfl) (add_vp (a := 83) (b := k61) (by omega) (by decide)) ((congrArg (t61 1) (add_ix (a := 83) (b := k61) (by omega))).trans rfl) dX9_digest_76 ?_
      refine bk_v (rnV (rest := []) Z hw (k_X9_mix (p1 := t61 1 (83 + k61)) It61) v_X9_mix q_6_93 (0) (by decide) rfl rfl rfl rfl hl.1 rfl rfl (Nat.le_of_ble_eq_true rfl) ⟨(Nat.le_of_ble_eq_true rfl), (Nat.le_of_ble_eq_true rfl)⟩ ⟨(Nat.le_of_ble_eq_true rfl), (Nat.le_of_ble_eq_true rfl)⟩ dX9_digest_77) hw Z (fun s77 H locs hp hw => ?_)
      obtain ⟨es77, I77⟩ := hp
      refine lv_iinc (v := nI (k61 + 1)) (lv' := [(1, .int (nI (k61 + 1))), (0, .ref (ad 0))]) hx hb dX9_digest_80 hl (k := 0) rfl (nI_1 _) (by decide) rfl (fun ls hl => ?_)
      refine lv_goto (tgt := 61) hx hb dX9_digest_83 (by decide) ?_
      exact ih (k61 + 1) s77 H locs ls (by omega) (by omega) I77 hw (lv_sub hl [0, 1] rfl) (fun u61 H locs ls eu61 I61 hw hl => kk u61 H locs ls (Eq.trans (Eq.symm (show (f_X9_digest_l61 n61 (k61 + 1) s77) = _ from (by subst es77; exact (lf_f c64 rfl)))) eu61) I61 hw hl)
set_option maxHeartbeats 4000000 in
set_option maxRecDepth 100000 in
theorem L_X9_digest_88 {l : Launch} {D : va_G} {T : Nat → ClassId} {g ad : Nat → Nat} {p : Program} {e : Env} {s : State} {m : MethodId} {below : List Frame} {meth : Method} {c : Code} {A : Nat → Prop} {Qw : State → Prop} (Z : en p m c cX9_digest 2 s [.ref (ad 0)].toArray "NestedBellsModel" D T g A) : ∀ (n88 : Nat) (k88 : Nat) (t88 : St) (H : Heap) (locs : List Loc) (ls : Array Slot), k88 ≤ 12 → 12 < k88 + n88 → InvD t88 → wo D A s.heap 6 ad (cE (dE T ad) t88) H locs → lv_has ls 2 [(1, .int (nI k88)), (0, .ref (ad 0))] → (∀ (u88 : St) (H : Heap) (locs : List Loc) (ls : Array Slot), (f_X9_digest_l88 n88 k88 t88) = u88 → InvD u88 → wo D A s.heap 6 ad (cE (dE T ad) u88) H locs → lv_has ls 2 [(0, .ref (ad 0))] → W p l e rmX9_digest s m [.ref (ad 0)].toArray below meth c H locs 0 0 Qw (F0 m 110 ls [])) → W p l e rmX9_digest s m [.ref (ad 0)].toArray below meth c H locs 0 0 Qw (F0 m 88 ls []) := by
  have hx := Z.1.1
  have hb := Z.1.2.1
  intro n88
  induction n88 with
  | zero =>
    intro k88 t88 H locs ls hk88 hn88 It88 hw hl kk
    exact absurd hn88 (by omega)
  | succ n88 ih =>
    intro k88 t88 H locs ls hk88 hn88 It88 hw hl kk
    refine lv_iload_n hx hb dX9_digest_88 rfl (lv_at hl 0 rfl) ?_
    refine lv_aload_n hx hb dX9_digest_89 rfl (lv_at hl 1 rfl) ?_
    refine gD (j := 0) (v := .ref (ad 1)) Z hw  (by decide) q_4_212 rfl rfl dX9_digest_90 ?_
    refine lv_bipush (v := 8) hx hb dX9_digest_93 (by decide +kernel) ?_
    refine aE (v := t88 1 8) Z hw 1 (by decide) rfl (fun _ => rfl) (vp_in_nI (n := 8) (by decide) (by decide)) ((congrArg (t88 1) (nI_clamp (n := 8) (by decide))).trans rfl) dX9_digest_95 ?_
    refine lv_icmp_ge (tgt := 110) hx hb dX9_digest_96 (by decide) (fun c96 => ?_) (fun c96 => ?_)
    · exact kk _ H locs ls (Eq.symm (lf_t c96 rfl)) It88 hw (lv_sub hl [1] rfl)
    · have hkb88 : k88 < 12 := kb_ge c96 It88.1.1.2 hk88 (by decide)
      refine lv_aload_n hx hb dX9_digest_99 rfl (lv_at hl 1 rfl) ?_
      refine lv_iload_n hx hb dX9_digest_100 rfl (lv_at hl 0 rfl) ?_
      refine bk_v (rnV (rest := []) Z hw (k_X9_mixSource (p1 := nI k88) It88 (nI_rng (by omega) (by decide))) v_X9_mixSource q_6_98 (0) (by decide) rfl rfl rfl rfl hl.1 rfl rfl (Nat.le_of_ble_eq_true rfl) ⟨(Nat.le_of_ble_eq_true rfl), (Nat.le_of_ble_eq_true rfl)⟩ ⟨(Nat.le_of_ble_eq_true rfl), (Nat.le_of_ble_eq_true rfl)⟩ dX9_digest_101) hw Z (fun s101 H locs hp hw => ?_)
      obtain ⟨es101, I101⟩ := hp
      refine lv_iinc (v := nI (k88 + 1)) (lv' := [(1, .int (nI (k88 + 1))), (0, .ref (ad 0))]) hx hb dX9_digest_104 hl (k := 0) rfl (nI_1 _) (by decide) rfl (fun ls hl => ?_)
      refine lv_goto (tgt := 88) hx hb dX9_digest_107 (by decide) ?_
      exact ih (k88 + 1) s101 H locs ls (by omega) (by omega) I101 hw (lv_sub hl [0, 1] rfl) (fun u88 H locs ls eu88 I88 hw hl => kk u88 H locs ls (Eq.trans (Eq.symm (show (f_X9_digest_l88 n88 (k88 + 1) s101) = _ from (by subst es101; exact (lf_f c96 rfl)))) eu88) I88 hw hl)
set_option maxHeartbeats 4000000 in
set_option maxRecDepth 100000 in
theorem L_X9_digest_112 {l : Launch} {D : va_G} {T : Nat → ClassId} {g ad : Nat → Nat} {p : Program} {e : Env} {s : State} {m : MethodId} {below : List Frame} {meth : Method} {c : Code} {A : Nat → Prop} {Qw : State → Prop} (Z : en p m c cX9_digest 2 s [.ref (ad 0)].toArray "NestedBellsModel" D T g A) : ∀ (n112 : Nat) (k112 : Nat) (t112 : St) (H : Heap) (locs : List Loc) (ls : Array Slot), k112 ≤ 12 → 12 < k112 + n112 → InvD t112 → wo D A s.heap 6 ad (cE (dE T ad) t112) H locs → lv_has ls 2 [(1, .int (nI k112)), (0, .ref (ad 0))] → (∀ (u112 : St) (H : Heap) (locs : List Loc) (ls : Array Slot), (f_X9_digest_l112 n112 k112 t112) = u112 → InvD u112 → wo D A s.heap 6 ad (cE (dE T ad) u112) H locs → lv_has ls 2 [(0, .ref (ad 0))] → W p l e rmX9_digest s m [.ref (ad 0)].toArray below meth c H locs 0 0 Qw (F0 m 142 ls [])) → W p l e rmX9_digest s m [.ref (ad 0)].toArray below meth c H locs 0 0 Qw (F0 m 112 ls []) := by
  have hx := Z.1.1
  have hb := Z.1.2.1
  intro n112
  induction n112 with
  | zero =>
    intro k112 t112 H locs ls hk112 hn112 It112 hw hl kk
    exact absurd hn112 (by omega)
  | succ n112 ih =>
    intro k112 t112 H locs ls hk112 hn112 It112 hw hl kk
    refine lv_iload_n hx hb dX9_digest_112 rfl (lv_at hl 0 rfl) ?_
    refine lv_aload_n hx hb dX9_digest_113 rfl (lv_at hl 1 rfl) ?_
    refine gD (j := 0) (v := .ref (ad 1)) Z hw  (by decide) q_4_212 rfl rfl dX9_digest_114 ?_
    refine lv_bipush (v := 9) hx hb dX9_digest_117 (by decide +kernel) ?_
    refine aE (v := t112 1 9) Z hw 1 (by decide) rfl (fun _ => rfl) (vp_in_nI (n := 9) (by decide) (by decide)) ((congrArg (t112 1) (nI_clamp (n := 9) (by decide))).trans rfl) dX9_digest_119 ?_
    refine lv_icmp_ge (tgt := 142) hx hb dX9_digest_120 (by decide) (fun c120 => ?_) (fun c120 => ?_)
    · exact kk _ H locs ls (Eq.symm (lf_t c120 rfl)) It112 hw (lv_sub hl [1] rfl)
    · have hkb112 : k112 < 12 := kb_ge c120 It112.1.2.1.2 hk112 (by decide)
      refine lv_aload_n hx hb dX9_digest_123 rfl (lv_at hl 1 rfl) ?_
      refine lv_aload_n hx hb dX9_digest_124 rfl (lv_at hl 1 rfl) ?_
      refine gD (j := 0) (v := .ref (ad 1)) Z hw  (by decide) q_4_212 rfl rfl dX9_digest_125 ?_
      refine lv_bipush (v := 10) hx hb dX9_digest_128 (by decide +kernel) ?_
      refine lv_iload_n hx hb dX9_digest_130 rfl (lv_at hl 0 rfl) ?_
      refine lv_iadd hx hb dX9_digest_131 ?_
      refine aE (v := t112 1 (10 + k112)) Z hw 1 (by decide) rfl (fun _ => rfl) (add_vp (a := 10) (b := k112) (by omega) (by decide)) ((congrArg (t112 1) (add_ix (a := 10) (b := k112) (by omega))).trans rfl) dX9_digest_132 ?_
      refine bk_v (rnV (rest := []) Z hw (k_X9_mix (p1 := t112 1 (10 + k112)) It112) v_X9_mix q_6_93 (0) (by decide) rfl rfl rfl rfl hl.1 rfl rfl (Nat.le_of_ble_eq_true rfl) ⟨(Nat.le_of_ble_eq_true rfl), (Nat.le_of_ble_eq_true rfl)⟩ ⟨(Nat.le_of_ble_eq_true rfl), (Nat.le_of_ble_eq_true rfl)⟩ dX9_digest_133) hw Z (fun s133 H locs hp hw => ?_)
      obtain ⟨es133, I133⟩ := hp
      refine lv_iinc (v := nI (k112 + 1)) (lv' := [(1, .int (nI (k112 + 1))), (0, .ref (ad 0))]) hx hb dX9_digest_136 hl (k := 0) rfl (nI_1 _) (by decide) rfl (fun ls hl => ?_)
      refine lv_goto (tgt := 112) hx hb dX9_digest_139 (by decide) ?_
      exact ih (k112 + 1) s133 H locs ls (by omega) (by omega) I133 hw (lv_sub hl [0, 1] rfl) (fun u112 H locs ls eu112 I112 hw hl => kk u112 H locs ls (Eq.trans (Eq.symm (show (f_X9_digest_l112 n112 (k112 + 1) s133) = _ from (by subst es133; exact (lf_f c120 rfl)))) eu112) I112 hw hl)
set_option maxHeartbeats 4000000 in
set_option maxRecDepth 100000 in
theorem L_X9_digest_144 {l : Launch} {D : va_G} {T : Nat → ClassId} {g ad : Nat → Nat} {p : Program} {e : Env} {s : State} {m : MethodId} {below : List Frame} {meth : Method} {c : Code} {A : Nat → Prop} {Qw : State → Prop} (Z : en p m c cX9_digest 2 s [.ref (ad 0)].toArray "NestedBellsModel" D T g A) : ∀ (n144 : Nat) (k144 : Nat) (t144 : St) (H : Heap) (locs : List Loc) (ls : Array Slot), k144 ≤ 60 → 60 < k144 + n144 → InvD t144 → wo D A s.heap 6 ad (cE (dE T ad) t144) H locs → lv_has ls 2 [(1, .int (nI k144)), (0, .ref (ad 0))] → (∀ (u144 : St) (H : Heap) (locs : List Loc) (ls : Array Slot), (f_X9_digest_l144 n144 k144 t144) = u144 → InvD u144 → wo D A s.heap 6 ad (cE (dE T ad) u144) H locs → lv_has ls 2 [(0, .ref (ad 0))] → W p l e rmX9_digest s m [.ref (ad 0)].toArray below meth c H locs 0 0 Qw (F0 m 176 ls [])) → W p l e rmX9_digest s m [.ref (ad 0)].toArray below meth c H locs 0 0 Qw (F0 m 144 ls []) := by
  have hx := Z.1.1
  have hb := Z.1.2.1
  intro n144
  induction n144 with
  | zero =>
    intro k144 t144 H locs ls hk144 hn144 It144 hw hl kk
    exact absurd hn144 (by omega)
  | succ n144 ih =>
    intro k144 t144 H locs ls hk144 hn144 It144 hw hl kk
    refine lv_iload_n hx hb dX9_digest_144 rfl (lv_at hl 0 rfl) ?_
    refine lv_iconst (v := 3) hx hb dX9_digest_145 (by decide +kernel) ?_
    refine lv_aload_n hx hb dX9_digest_146 rfl (lv_at hl 1 rfl) ?_
    refine gD (j := 0) (v := .ref (ad 1)) Z hw  (by decide) q_4_212 rfl rfl dX9_digest_147 ?_
    refine lv_bipush (v := 22) hx hb dX9_digest_150 (by decide +kernel) ?_
    refine aE (v := t144 1 22) Z hw 1 (by decide) rfl (fun _ => rfl) (vp_in_nI (n := 22) (by decide) (by decide)) ((congrArg (t144 1) (nI_clamp (n := 22) (by decide))).trans rfl) dX9_digest_152 ?_
    refine lv_imul hx hb dX9_digest_153 ?_
    refine lv_icmp_ge (tgt := 176) hx hb dX9_digest_154 (by decide) (fun c154 => ?_) (fun c154 => ?_)
    · exact kk _ H locs ls (Eq.symm (lf_t c154 rfl)) It144 hw (lv_sub hl [1] rfl)
    · have hkb144 : k144 < 60 := dg_60 c154 It144.1.2.2.1 hk144
      refine lv_aload_n hx hb dX9_digest_157 rfl (lv_at hl 1 rfl) ?_
      refine lv_aload_n hx hb dX9_digest_158 rfl (lv_at hl 1 rfl) ?_
      refine gD (j := 0) (v := .ref (ad 1)) Z hw  (by decide) q_4_212 rfl rfl dX9_digest_159 ?_
      refine lv_bipush (v := 23) hx hb dX9_digest_162 (by decide +kernel) ?_
      refine lv_iload_n hx hb dX9_digest_164 rfl (lv_at hl 0 rfl) ?_
      refine lv_iadd hx hb dX9_digest_165 ?_
      refine aE (v := t144 1 (23 + k144)) Z hw 1 (by decide) rfl (fun _ => rfl) (add_vp (a := 23) (b := k144) (by omega) (by decide)) ((congrArg (t144 1) (add_ix (a := 23) (b := k144) (by omega))).trans rfl) dX9_digest_166 ?_
      refine bk_v (rnV (rest := []) Z hw (k_X9_mix (p1 := t144 1 (23 + k144)) It144) v_X9_mix q_6_93 (0) (by decide) rfl rfl rfl rfl hl.1 rfl rfl (Nat.le_of_ble_eq_true rfl) ⟨(Nat.le_of_ble_eq_true rfl), (Nat.le_of_ble_eq_true rfl)⟩ ⟨(Nat.le_of_ble_eq_true rfl), (Nat.le_of_ble_eq_true rfl)⟩ dX9_digest_167) hw Z (fun s167 H locs hp hw => ?_)
      obtain ⟨es167, I167⟩ := hp
      refine lv_iinc (v := nI (k144 + 1)) (lv' := [(1, .int (nI (k144 + 1))), (0, .ref (ad 0))]) hx hb dX9_digest_170 hl (k := 0) rfl (nI_1 _) (by decide) rfl (fun ls hl => ?_)
      refine lv_goto (tgt := 144) hx hb dX9_digest_173 (by decide) ?_
      exact ih (k144 + 1) s167 H locs ls (by omega) (by omega) I167 hw (lv_sub hl [0, 1] rfl) (fun u144 H locs ls eu144 I144 hw hl => kk u144 H locs ls (Eq.trans (Eq.symm (show (f_X9_digest_l144 n144 (k144 + 1) s167) = _ from (by subst es167; exact (lf_f c154 rfl)))) eu144) I144 hw hl)
set_option maxHeartbeats 4000000 in
set_option maxRecDepth 100000 in
theorem k_X9_digest {l : Launch} {D : va_G} {T : Nat → ClassId} {g ad : Nat → Nat} {σ : St} (I0 : InvD σ) : mX l yX9_digest cX9_digest 2 (some (.long)) rmX9_digest D T g 6 ad (cE (dE T ad) σ) [.ref (ad 0)] (qL D 6 ad (dE T ad) (pI (f_X9_digest σ) InvD)) := by
  refine mX.of (own := "NestedBellsModel") (by decide +kernel) (Nat.le_of_ble_eq_true rfl) rfl ?_
  intro p e s m below meth c A ls H locs Z hr hlk _ hw hl
  have hx := Z.1.1
  have hb := Z.1.2.1
  have hl : lv_has ls 2 [(0, .ref (ad 0))] := hl
  refine lv_aload_n hx hb dX9_digest_0 rfl (lv_at hl 0 rfl) ?_
  refine lv_iconst (v := 0) hx hb dX9_digest_1 (by decide +kernel) ?_
  refine pD (j := 4) Z hw  (by decide) q_4_216 rfl rfl rfl rfl dX9_digest_2 (fun H locs hw => ?_)
  refine lv_aload_n hx hb dX9_digest_5 rfl (lv_at hl 0 rfl) ?_
  refine lv_ldc2 (v := 43211) hx hb Z.1.2.2.2.1 (Z.1.2.2.2.2 _ q_6_92) dX9_digest_6 ?_
  refine pDL Z hw q_4_223 dX9_digest_9 (fun H locs hw => ?_)
  refine lv_aload_n hx hb dX9_digest_12 rfl (lv_at hl 0 rfl) ?_
  refine lv_aload_n hx hb dX9_digest_13 rfl (lv_at hl 0 rfl) ?_
  refine gD (j := 3) (v := .int ((uph (up2 σ 0 4 0) 43211) 0 3)) Z hw  (by decide) q_4_215 rfl rfl dX9_digest_14 ?_
  refine bk_v (rnV (rest := []) Z hw (k_X9_mix (p1 := (uph (up2 σ 0 4 0) 43211) 0 3) (InvD.uph (InvD.up I0 (by decide)))) v_X9_mix q_6_93 (0) (by decide) rfl rfl rfl rfl hl.1 rfl rfl (Nat.le_of_ble_eq_true rfl) ⟨(Nat.le_of_ble_eq_true rfl), (Nat.le_of_ble_eq_true rfl)⟩ ⟨(Nat.le_of_ble_eq_true rfl), (Nat.le_of_ble_eq_true rfl)⟩ dX9_digest_17) hw Z (fun s17 H locs hp hw => ?_)
  obtain ⟨es17, I17⟩ := hp
  refine lv_aload_n hx hb dX9_digest_20 rfl (lv_at hl 0 rfl) ?_
  refine lv_aload_n hx hb dX9_digest_21 rfl (lv_at hl 0 rfl) ?_
  refine gD (j := 6) (v := .int (s17 0 6)) Z hw  (by decide) q_4_218 rfl rfl dX9_digest_22 ?_
  refine bk_v (rnV (rest := []) Z hw (k_X9_mix (p1 := s17 0 6) I17) v_X9_mix q_6_93 (0) (by decide) rfl rfl rfl rfl hl.1 rfl rfl (Nat.le_of_ble_eq_true rfl) ⟨(Nat.le_of_ble_eq_true rfl), (Nat.le_of_ble_eq_true rfl)⟩ ⟨(Nat.le_of_ble_eq_true rfl), (Nat.le_of_ble_eq_true rfl)⟩ dX9_digest_25) hw Z (fun s25 H locs hp hw => ?_)
  obtain ⟨es25, I25⟩ := hp
  refine lv_aload_n hx hb dX9_digest_28 rfl (lv_at hl 0 rfl) ?_
  refine lv_aload_n hx hb dX9_digest_29 rfl (lv_at hl 0 rfl) ?_
  refine gD (j := 7) (v := .int (s25 0 7)) Z hw  (by decide) q_4_219 rfl rfl dX9_digest_30 ?_
  refine bk_v (rnV (rest := []) Z hw (k_X9_mix (p1 := s25 0 7) I25) v_X9_mix q_6_93 (0) (by decide) rfl rfl rfl rfl hl.1 rfl rfl (Nat.le_of_ble_eq_true rfl) ⟨(Nat.le_of_ble_eq_true rfl), (Nat.le_of_ble_eq_true rfl)⟩ ⟨(Nat.le_of_ble_eq_true rfl), (Nat.le_of_ble_eq_true rfl)⟩ dX9_digest_33) hw Z (fun s33 H locs hp hw => ?_)
  obtain ⟨es33, I33⟩ := hp
  refine lv_iconst (v := 0) hx hb dX9_digest_36 (by decide +kernel) ?_
  refine lv_istore_n (lv' := [(1, .int 0), (0, .ref (ad 0))]) hx hb dX9_digest_37 rfl hl (by decide) rfl (fun ls hl => ?_)
  refine L_X9_digest_38 Z fu13 0 s33 H locs ls (by omega) (by unfold fu13; omega) I33 hw (lv_sub hl [0, 1] rfl) (fun u38 H locs ls eu38 I38 hw hl => ?_)
  refine lv_iconst (v := 0) hx hb dX9_digest_59 (by decide +kernel) ?_
  refine lv_istore_n (lv' := [(1, .int 0), (0, .ref (ad 0))]) hx hb dX9_digest_60 rfl hl (by decide) rfl (fun ls hl => ?_)
  refine L_X9_digest_61 Z fu11 0 u38 H locs ls (by omega) (by unfold fu11; omega) I38 hw (lv_sub hl [0, 1] rfl) (fun u61 H locs ls eu61 I61 hw hl => ?_)
  refine lv_iconst (v := 0) hx hb dX9_digest_86 (by decide +kernel) ?_
  refine lv_istore_n (lv' := [(1, .int 0), (0, .ref (ad 0))]) hx hb dX9_digest_87 rfl hl (by decide) rfl (fun ls hl => ?_)
  refine L_X9_digest_88 Z fu13 0 u61 H locs ls (by omega) (by unfold fu13; omega) I61 hw (lv_sub hl [0, 1] rfl) (fun u88 H locs ls eu88 I88 hw hl => ?_)
  refine lv_iconst (v := 0) hx hb dX9_digest_110 (by decide +kernel) ?_
  refine lv_istore_n (lv' := [(1, .int 0), (0, .ref (ad 0))]) hx hb dX9_digest_111 rfl hl (by decide) rfl (fun ls hl => ?_)
  refine L_X9_digest_112 Z fu13 0 u88 H locs ls (by omega) (by unfold fu13; omega) I88 hw (lv_sub hl [0, 1] rfl) (fun u112 H locs ls eu112 I112 hw hl => ?_)
  refine lv_iconst (v := 0) hx hb dX9_digest_142 (by decide +kernel) ?_
  refine lv_istore_n (lv' := [(1, .int 0), (0, .ref (ad 0))]) hx hb dX9_digest_143 rfl hl (by decide) rfl (fun ls hl => ?_)
  refine L_X9_digest_144 Z fu61 0 u112 H locs ls (by omega) (by unfold fu61; omega) I112 hw (lv_sub hl [0, 1] rfl) (fun u144 H locs ls eu144 I144 hw hl => ?_)
  refine lv_aload_n hx hb dX9_digest_176 rfl (lv_at hl 0 rfl) ?_
  refine gD (j := 11) (v := .long (mk64 (u144 0 11) (u144 0 12))) Z hw  (by decide) q_4_223 rfl rfl dX9_digest_177 ?_
  exact rt_l Z hr hlk hw dX9_digest_180 (pI.mk (by subst eu144 eu112 eu88 eu61 eu38 es33 es25 es17; exact rfl) I144)
abbrev rmX9_isAt : Room := { frames := 1, cells := 0, slots := 0, locals := 22 }
def f_X9_isAt (σ : St) (p1 : Int32) (p2 : Int32) : Int32 := (if (σ 0 6) ≤ (σ 0 8) then 0 else (let r22 := f_X9_in (σ 4 ((σ 0 8).toNatClampNeg)) p1 p2; (if r22 = 0 then 0 else 1)))
theorem v_X9_isAt : cvV yX9_isAt "NestedBellsModel" cX9_isAt 3 (some (.boolean)) 2 := ⟨q_6_47, s_73, q_1_10, q_6_48, rfl, by decide +kernel, by decide +kernel, by decide +kernel⟩
set_option maxHeartbeats 4000000 in
set_option maxRecDepth 100000 in
theorem k_X9_isAt {l : Launch} {D : va_G} {T : Nat → ClassId} {g ad : Nat → Nat} {σ : St} {p1 : Int32} {p2 : Int32} (I0 : InvD σ) : mX l yX9_isAt cX9_isAt 3 (some (.boolean)) rmX9_isAt D T g 6 ad (cE (dE T ad) σ) [.ref (ad 0), .int p1, .int p2] (qI D 6 ad (dE T ad) (pR (f_X9_isAt σ p1 p2) σ)) := by
  refine mX.of (own := "NestedBellsModel") (by decide +kernel) (Nat.le_of_ble_eq_true rfl) rfl ?_
  intro p e s m below meth c A ls H locs Z hr hlk _ hw hl
  have hx := Z.1.1
  have hb := Z.1.2.1
  have hl : lv_has ls 3 [(0, .ref (ad 0)), (1, .int p1), (2, .int p2)] := hl
  refine lv_aload_n hx hb dX9_isAt_0 rfl (lv_at hl 0 rfl) ?_
  refine gD (j := 8) (v := .int (σ 0 8)) Z hw  (by decide) q_4_220 rfl rfl dX9_isAt_1 ?_
  refine lv_aload_n hx hb dX9_isAt_4 rfl (lv_at hl 0 rfl) ?_
  refine gD (j := 6) (v := .int (σ 0 6)) Z hw  (by decide) q_4_218 rfl rfl dX9_isAt_5 ?_
  refine lv_icmp_ge (tgt := 32) hx hb dX9_isAt_8 (by decide) (fun c8 => ?_) (fun c8 => ?_)
  · refine lv_iconst (v := 0) hx hb dX9_isAt_32 (by decide +kernel) ?_
    exact rt_z Z hr hlk hw rfl dX9_isAt_33 ⟨Eq.symm (lf_t c8 rfl), rfl⟩
  · have hsp : (σ 0 8).toInt < 150 := by have h6 := I0.2.2.2.2.1; rw [i32_le] at c8; omega
    refine lv_aload_n hx hb dX9_isAt_11 rfl (lv_at hl 0 rfl) ?_
    refine gD (j := 5) (v := .ref (ad 4)) Z hw  (by decide) q_4_217 rfl rfl dX9_isAt_12 ?_
    refine lv_aload_n hx hb dX9_isAt_15 rfl (lv_at hl 0 rfl) ?_
    refine gD (j := 8) (v := .int (σ 0 8)) Z hw  (by decide) q_4_220 rfl rfl dX9_isAt_16 ?_
    refine aE (v := σ 4 ((σ 0 8).toNatClampNeg)) Z hw 4 (by decide) rfl (fun _ => rfl) (vp_of I0.2.2.2.2.2.1 hsp) rfl dX9_isAt_19 ?_
    refine lv_iload_n hx hb dX9_isAt_20 rfl (lv_at hl 1 rfl) ?_
    refine lv_iload_n hx hb dX9_isAt_21 rfl (lv_at hl 2 rfl) ?_
    refine bk_ip (rnS (rest := []) Z hw (k_X9_in (p1 := σ 4 ((σ 0 8).toNatClampNeg)) (p2 := p1) (p3 := p2) ) v_X9_in rfl q_5_29 hl.1 rfl rfl (Nat.le_of_ble_eq_true rfl) ⟨(Nat.le_of_ble_eq_true rfl), (Nat.le_of_ble_eq_true rfl)⟩ ⟨(Nat.le_of_ble_eq_true rfl), (Nat.le_of_ble_eq_true rfl)⟩ dX9_isAt_22) hw Z (fun r22 er22 H locs hw => ?_)
    refine lv_if_eq (tgt := 32) hx hb dX9_isAt_25 (by decide) (fun c25 => ?_) (fun c25 => ?_)
    · refine lv_iconst (v := 0) hx hb dX9_isAt_32 (by decide +kernel) ?_
      exact rt_z Z hr hlk hw rfl dX9_isAt_33 ⟨Eq.symm (by subst er22; exact (lf_f c8 (lf_t c25 rfl))), rfl⟩
    · refine lv_iconst (v := 1) hx hb dX9_isAt_28 (by decide +kernel) ?_
      refine lv_goto (tgt := 33) hx hb dX9_isAt_29 (by decide) ?_
      exact rt_z Z hr hlk hw rfl dX9_isAt_33 ⟨Eq.symm (by subst er22; exact (lf_f c8 (lf_f c25 rfl))), rfl⟩
theorem isAt_lt {σ : St} {a b r : Int32} (er : f_X9_isAt σ a b = r) (h : ¬ r = 0) : (σ 0 8).toInt < (σ 0 6).toInt := by
  unfold f_X9_isAt at er
  split at er
  · exact absurd er.symm h
  · next c => rw [i32_le] at c; omega
theorem isAt_nar {σ : St} {a b r : Int32} (er : f_X9_isAt σ a b = r) : narrow .boolean (.int r) = .int r := by
  subst er
  unfold f_X9_isAt
  split
  · rfl
  · dsimp only
    split <;> rfl
theorem at_vp2 {σ : St} {a b r : Int32} (I : InvD σ) (er : f_X9_isAt σ a b = r) (h : ¬ r = 0) : vp_in (σ 0 8) 150 := by
  have h1 := isAt_lt er h
  have h2 := I.2.2.2.2.1
  exact vp_of I.2.2.2.2.2.1 (by omega)
theorem sp_inc {σ : St} {a b r : Int32} (I : InvD σ) (er : f_X9_isAt σ a b = r) (h : ¬ r = 0) : (0 ≤ (σ 0 8 + 1).toInt ∧ (σ 0 8 + 1).toInt ≤ 150) ∧ (σ 0 8 + 1).toInt = (σ 0 8).toInt + 1 := by
  have h1 := isAt_lt er h
  have h2 := I.2.2.2.2.1
  obtain ⟨k, hk, e⟩ := of_nI (n := 150) ⟨I.2.2.2.2.2.1, by omega⟩ (by decide)
  rw [e, nI_1, nI_toInt (by omega), nI_toInt (by omega)]
  omega
/-- the text not yet read, as a measure -/
def ms (t : St) (n : Nat) : Prop := (t 0 6).toInt - (t 0 8).toInt < n ∧ 0 < n
theorem ms_0 {t : St} (I : InvD t) : ms t 151 := by
  have h2 := I.2.2.2.2.1
  have h3 := I.2.2.2.2.2.1
  unfold ms
  omega
theorem ms_s {t u : St} {a b r : Int32} {n : Nat} (I : InvD t) (er : f_X9_isAt t a b = r) (h : ¬ r = 0) (hm : ms t (n + 1)) (h6 : u 0 6 = t 0 6) (h8 : u 0 8 = t 0 8 + 1) : ms u n := by
  have h1 := isAt_lt er h
  have h2 := (sp_inc I er h).2
  unfold ms at hm ⊢
  rw [h6, h8, h2]
  omega

abbrev rmX9_skips : Room := { frames := 2, cells := 0, slots := 0, locals := 44 }
def f_X9_skips_l9 : Nat → St → St
  | 0, t9 => (t9)
  | n9 + 1, t9 => (let r14 := f_X9_isAt t9 32 32; (if r14 = 0 then t9 else (f_X9_skips_l9 n9 (up2 t9 0 8 ((t9 0 8) + 1)))))
def f_X9_skips (σ : St) : Int32 × St := (let r5 := f_X9_isAt σ 32 32; (let u9 := (f_X9_skips_l9 fu151 σ); (r5, u9)))
theorem v_X9_skips : cvV yX9_skips "NestedBellsModel" cX9_skips 2 (some (.boolean)) 0 := ⟨q_6_43, s_72, q_1_10, q_6_44, rfl, by decide +kernel, by decide +kernel, by decide +kernel⟩
set_option maxHeartbeats 4000000 in
set_option maxRecDepth 100000 in
theorem L_X9_skips_9 {l : Launch} {D : va_G} {T : Nat → ClassId} {g ad : Nat → Nat} {p : Program} {e : Env} {s : State} {m : MethodId} {below : List Frame} {meth : Method} {c : Code} {A : Nat → Prop} {Qw : State → Prop} {r5 : Int32} (Z : en p m c cX9_skips 2 s [.ref (ad 0)].toArray "NestedBellsModel" D T g A) : ∀ (n9 : Nat) (t9 : St) (H : Heap) (locs : List Loc) (ls : Array Slot), ms t9 n9 → InvD t9 → wo D A s.heap 6 ad (cE (dE T ad) t9) H locs → lv_has ls 2 [(1, .int r5), (0, .ref (ad 0))] → (∀ (u9 : St) (H : Heap) (locs : List Loc) (ls : Array Slot), (f_X9_skips_l9 n9 t9) = u9 → InvD u9 → wo D A s.heap 6 ad (cE (dE T ad) u9) H locs → lv_has ls 2 [(1, .int r5)] → W p l e rmX9_skips s m [.ref (ad 0)].toArray below meth c H locs 0 0 Qw (F0 m 33 ls [])) → W p l e rmX9_skips s m [.ref (ad 0)].toArray below meth c H locs 0 0 Qw (F0 m 9 ls []) := by
  have hx := Z.1.1
  have hb := Z.1.2.1
  intro n9
  induction n9 with
  | zero =>
    intro t9 H locs ls hn9 It9 hw hl kk
    exact absurd hn9.2 (by omega)
  | succ n9 ih =>
    intro t9 H locs ls hn9 It9 hw hl kk
    refine lv_aload_n hx hb dX9_skips_9 rfl (lv_at hl 1 rfl) ?_
    refine lv_bipush (v := 32) hx hb dX9_skips_10 (by decide +kernel) ?_
    refine lv_bipush (v := 32) hx hb dX9_skips_12 (by decide +kernel) ?_
    refine bk_ip (rnV (rest := []) Z hw (k_X9_isAt (p1 := 32) (p2 := 32) It9) v_X9_isAt q_6_45 (0) (by decide) rfl rfl rfl rfl hl.1 rfl rfl (Nat.le_of_ble_eq_true rfl) ⟨(Nat.le_of_ble_eq_true rfl), (Nat.le_of_ble_eq_true rfl)⟩ ⟨(Nat.le_of_ble_eq_true rfl), (Nat.le_of_ble_eq_true rfl)⟩ dX9_skips_14) hw Z (fun r14 er14 H locs hw => ?_)
    refine lv_if_eq (tgt := 33) hx hb dX9_skips_17 (by decide) (fun c17 => ?_) (fun c17 => ?_)
    · exact kk _ H locs ls (Eq.symm (by subst er14; exact (lf_t c17 rfl))) It9 hw (lv_sub hl [0] rfl)
    · refine lv_aload_n hx hb dX9_skips_20 rfl (lv_at hl 1 rfl) ?_
      refine lv_dup hx hb dX9_skips_21 rfl ?_
      refine gD (j := 8) (v := .int (t9 0 8)) Z hw  (by decide) q_4_220 rfl rfl dX9_skips_22 ?_
      refine lv_iconst (v := 1) hx hb dX9_skips_25 (by decide +kernel) ?_
      refine lv_iadd hx hb dX9_skips_26 ?_
      refine pD (j := 8) Z hw  (by decide) q_4_220 rfl rfl rfl rfl dX9_skips_27 (fun H locs hw => ?_)
      refine lv_goto (tgt := 9) hx hb dX9_skips_30 (by decide) ?_
      exact ih (up2 t9 0 8 ((t9 0 8) + 1)) H locs ls (ms_s It9 er14 c17 hn9 (by rw [up2_j (by decide)]) (by rw [up2_s])) (InvD.spot (sp_inc It9 er14 c17).1 It9) hw (lv_sub hl [0, 1] rfl) (fun u9 H locs ls eu9 I9 hw hl => kk u9 H locs ls (Eq.trans (Eq.symm (show (f_X9_skips_l9 n9 (up2 t9 0 8 ((t9 0 8) + 1))) = _ from (by subst er14; exact (lf_f c17 rfl)))) eu9) I9 hw hl)
set_option maxHeartbeats 4000000 in
set_option maxRecDepth 100000 in
theorem k_X9_skips {l : Launch} {D : va_G} {T : Nat → ClassId} {g ad : Nat → Nat} {σ : St} (I0 : InvD σ) : mX l yX9_skips cX9_skips 2 (some (.boolean)) rmX9_skips D T g 6 ad (cE (dE T ad) σ) [.ref (ad 0)] (qI D 6 ad (dE T ad) (pI (f_X9_skips σ) InvD)) := by
  refine mX.of (own := "NestedBellsModel") (by decide +kernel) (Nat.le_of_ble_eq_true rfl) rfl ?_
  intro p e s m below meth c A ls H locs Z hr hlk _ hw hl
  have hx := Z.1.1
  have hb := Z.1.2.1
  have hl : lv_has ls 2 [(0, .ref (ad 0))] := hl
  refine lv_aload_n hx hb dX9_skips_0 rfl (lv_at hl 0 rfl) ?_
  refine lv_bipush (v := 32) hx hb dX9_skips_1 (by decide +kernel) ?_
  refine lv_bipush (v := 32) hx hb dX9_skips_3 (by decide +kernel) ?_
  refine bk_ip (rnV (rest := []) Z hw (k_X9_isAt (p1 := 32) (p2 := 32) I0) v_X9_isAt q_6_45 (0) (by decide) rfl rfl rfl rfl hl.1 rfl rfl (Nat.le_of_ble_eq_true rfl) ⟨(Nat.le_of_ble_eq_true rfl), (Nat.le_of_ble_eq_true rfl)⟩ ⟨(Nat.le_of_ble_eq_true rfl), (Nat.le_of_ble_eq_true rfl)⟩ dX9_skips_5) hw Z (fun r5 er5 H locs hw => ?_)
  refine lv_istore_n (lv' := [(1, .int r5), (0, .ref (ad 0))]) hx hb dX9_skips_8 rfl hl (by decide) rfl (fun ls hl => ?_)
  refine L_X9_skips_9 (r5 := r5) Z fu151 σ H locs ls (ms_0 I0) I0 hw (lv_sub hl [0, 1] rfl) (fun u9 H locs ls eu9 I9 hw hl => ?_)
  refine lv_iload_n hx hb dX9_skips_33 rfl (lv_at hl 0 rfl) ?_
  exact rt_z Z hr hlk hw (isAt_nar er5) dX9_skips_34 (pI.mk (by subst eu9 er5; exact rfl) I9)
abbrev rmX9_letters : Room := { frames := 0, cells := 0, slots := 0, locals := 0 }
def f_X9_letters (p1 : Int32) : Int64 := (if p1 = 0 then 1701078885 else (if p1 = 1 then 1818848869 else (if p1 = 2 then 32481100150959982 else (if p1 = 3 then 499984983410 else (if p1 = 4 then 491260572517 else (if p1 = 5 then 30064 else (if p1 = 6 then 1685026670 else (if p1 = 7 then 7562612 else 7501166))))))))
theorem v_X9_letters : cvS yX9_letters cX9_letters 1 (some (.long)) 1 := ⟨q_6_58, q_1_10, q_6_59, by decide +kernel, by decide +kernel, by decide +kernel⟩
set_option maxHeartbeats 4000000 in
set_option maxRecDepth 100000 in
theorem k_X9_letters {l : Launch} {D : va_G} {T : Nat → ClassId} {g ad : Nat → Nat} {N : Nat} {E : Nat → (Nat → Int32) → va_E} {σ : St} {p1 : Int32} : mX l yX9_letters cX9_letters 1 (some (.long)) rmX9_letters D T g N ad (cE E σ) [.int p1] (qL D N ad E (pR (f_X9_letters p1) σ)) := by
  refine mX.of (own := "NestedBellsModel") (by decide +kernel) (Nat.le_of_ble_eq_true rfl) rfl ?_
  intro p e s m below meth c A ls H locs Z hr hlk _ hw hl
  have hx := Z.1.1
  have hb := Z.1.2.1
  have hl : lv_has ls 1 [(0, .int p1)] := hl
  refine lv_iload_n hx hb dX9_letters_0 rfl (lv_at hl 0 rfl) ?_
  rcases Decidable.em (p1 = 0) with c1_0 | c1_0
  · refine lv_tableIn (off := 47) (tgt := 48) hx hb dX9_letters_1 (by rw [c1_0]; decide +kernel) (by rw [c1_0]; decide +kernel) (by rw [c1_0]; rfl) (by decide) ?_
    refine lv_ldc2 (v := 1701078885) hx hb Z.1.2.2.2.1 (Z.1.2.2.2.2 _ q_6_60) dX9_letters_48 ?_
    exact rt_l Z hr hlk hw dX9_letters_51 ⟨Eq.symm (lf_t c1_0 rfl), rfl⟩
  · rcases Decidable.em (p1 = 1) with c1_1 | c1_1
    · refine lv_tableIn (off := 51) (tgt := 52) hx hb dX9_letters_1 (by rw [c1_1]; decide +kernel) (by rw [c1_1]; decide +kernel) (by rw [c1_1]; rfl) (by decide) ?_
      refine lv_ldc2 (v := 1818848869) hx hb Z.1.2.2.2.1 (Z.1.2.2.2.2 _ q_6_61) dX9_letters_52 ?_
      exact rt_l Z hr hlk hw dX9_letters_55 ⟨Eq.symm (lf_f c1_0 (lf_t c1_1 rfl)), rfl⟩
    · rcases Decidable.em (p1 = 2) with c1_2 | c1_2
      · refine lv_tableIn (off := 55) (tgt := 56) hx hb dX9_letters_1 (by rw [c1_2]; decide +kernel) (by rw [c1_2]; decide +kernel) (by rw [c1_2]; rfl) (by decide) ?_
        refine lv_ldc2 (v := 32481100150959982) hx hb Z.1.2.2.2.1 (Z.1.2.2.2.2 _ q_6_62) dX9_letters_56 ?_
        exact rt_l Z hr hlk hw dX9_letters_59 ⟨Eq.symm (lf_f c1_0 (lf_f c1_1 (lf_t c1_2 rfl))), rfl⟩
      · rcases Decidable.em (p1 = 3) with c1_3 | c1_3
        · refine lv_tableIn (off := 59) (tgt := 60) hx hb dX9_letters_1 (by rw [c1_3]; decide +kernel) (by rw [c1_3]; decide +kernel) (by rw [c1_3]; rfl) (by decide) ?_
          refine lv_ldc2 (v := 499984983410) hx hb Z.1.2.2.2.1 (Z.1.2.2.2.2 _ q_6_63) dX9_letters_60 ?_
          exact rt_l Z hr hlk hw dX9_letters_63 ⟨Eq.symm (lf_f c1_0 (lf_f c1_1 (lf_f c1_2 (lf_t c1_3 rfl)))), rfl⟩
        · rcases Decidable.em (p1 = 4) with c1_4 | c1_4
          · refine lv_tableIn (off := 63) (tgt := 64) hx hb dX9_letters_1 (by rw [c1_4]; decide +kernel) (by rw [c1_4]; decide +kernel) (by rw [c1_4]; rfl) (by decide) ?_
            refine lv_ldc2 (v := 491260572517) hx hb Z.1.2.2.2.1 (Z.1.2.2.2.2 _ q_6_64) dX9_letters_64 ?_
            exact rt_l Z hr hlk hw dX9_letters_67 ⟨Eq.symm (lf_f c1_0 (lf_f c1_1 (lf_f c1_2 (lf_f c1_3 (lf_t c1_4 rfl))))), rfl⟩
          · rcases Decidable.em (p1 = 5) with c1_5 | c1_5
            · refine lv_tableIn (off := 67) (tgt := 68) hx hb dX9_letters_1 (by rw [c1_5]; decide +kernel) (by rw [c1_5]; decide +kernel) (by rw [c1_5]; rfl) (by decide) ?_
              refine lv_ldc2 (v := 30064) hx hb Z.1.2.2.2.1 (Z.1.2.2.2.2 _ q_6_65) dX9_letters_68 ?_
              exact rt_l Z hr hlk hw dX9_letters_71 ⟨Eq.symm (lf_f c1_0 (lf_f c1_1 (lf_f c1_2 (lf_f c1_3 (lf_f c1_4 (lf_t c1_5 rfl)))))), rfl⟩
            · rcases Decidable.em (p1 = 6) with c1_6 | c1_6
              · refine lv_tableIn (off := 71) (tgt := 72) hx hb dX9_letters_1 (by rw [c1_6]; decide +kernel) (by rw [c1_6]; decide +kernel) (by rw [c1_6]; rfl) (by decide) ?_
                refine lv_ldc2 (v := 1685026670) hx hb Z.1.2.2.2.1 (Z.1.2.2.2.2 _ q_6_66) dX9_letters_72 ?_
                exact rt_l Z hr hlk hw dX9_letters_75 ⟨Eq.symm (lf_f c1_0 (lf_f c1_1 (lf_f c1_2 (lf_f c1_3 (lf_f c1_4 (lf_f c1_5 (lf_t c1_6 rfl))))))), rfl⟩
              · rcases Decidable.em (p1 = 7) with c1_7 | c1_7
                · refine lv_tableIn (off := 75) (tgt := 76) hx hb dX9_letters_1 (by rw [c1_7]; decide +kernel) (by rw [c1_7]; decide +kernel) (by rw [c1_7]; rfl) (by decide) ?_
                  refine lv_ldc2 (v := 7562612) hx hb Z.1.2.2.2.1 (Z.1.2.2.2.2 _ q_6_67) dX9_letters_76 ?_
                  exact rt_l Z hr hlk hw dX9_letters_79 ⟨Eq.symm (lf_f c1_0 (lf_f c1_1 (lf_f c1_2 (lf_f c1_3 (lf_f c1_4 (lf_f c1_5 (lf_f c1_6 (lf_t c1_7 rfl)))))))), rfl⟩
                · refine lv_tableOut (tgt := 80) hx hb dX9_letters_1 (by have t0 := lv_neT (a := 0) c1_0 (by decide +kernel); have t1 := lv_neT (a := 1) c1_1 (by decide +kernel); have t2 := lv_neT (a := 2) c1_2 (by decide +kernel); have t3 := lv_neT (a := 3) c1_3 (by decide +kernel); have t4 := lv_neT (a := 4) c1_4 (by decide +kernel); have t5 := lv_neT (a := 5) c1_5 (by decide +kernel); have t6 := lv_neT (a := 6) c1_6 (by decide +kernel); have t7 := lv_neT (a := 7) c1_7 (by decide +kernel); omega) (by decide) ?_
                  refine lv_ldc2 (v := 7501166) hx hb Z.1.2.2.2.1 (Z.1.2.2.2.2 _ q_6_68) dX9_letters_80 ?_
                  exact rt_l Z hr hlk hw dX9_letters_83 ⟨Eq.symm (lf_f c1_0 (lf_f c1_1 (lf_f c1_2 (lf_f c1_3 (lf_f c1_4 (lf_f c1_5 (lf_f c1_6 (lf_f c1_7 rfl)))))))), rfl⟩
abbrev rmX9_numbersOf : Room := { frames := 0, cells := 0, slots := 0, locals := 0 }
def f_X9_numbersOf (p1 : Int32) : Int32 := (if p1 = 2 then 4 else (if p1 = 3 then 3 else (if p1 < 2 then 2 else (if p1 = 7 then 2 else 1))))
theorem v_X9_numbersOf : cvS yX9_numbersOf cX9_numbersOf 1 (some (.int)) 1 := ⟨q_6_70, q_1_10, q_6_71, by decide +kernel, by decide +kernel, by decide +kernel⟩
set_option maxHeartbeats 4000000 in
set_option maxRecDepth 100000 in
theorem k_X9_numbersOf {l : Launch} {D : va_G} {T : Nat → ClassId} {g ad : Nat → Nat} {N : Nat} {E : Nat → (Nat → Int32) → va_E} {σ : St} {p1 : Int32} : mX l yX9_numbersOf cX9_numbersOf 1 (some (.int)) rmX9_numbersOf D T g N ad (cE E σ) [.int p1] (qI D N ad E (pR (f_X9_numbersOf p1) σ)) := by
  refine mX.of (own := "NestedBellsModel") (by decide +kernel) (Nat.le_of_ble_eq_true rfl) rfl ?_
  intro p e s m below meth c A ls H locs Z hr hlk _ hw hl
  have hx := Z.1.1
  have hb := Z.1.2.1
  have hl : lv_has ls 1 [(0, .int p1)] := hl
  refine lv_iload_n hx hb dX9_numbersOf_0 rfl (lv_at hl 0 rfl) ?_
  refine lv_iconst (v := 2) hx hb dX9_numbersOf_1 (by decide +kernel) ?_
  refine lv_icmp_ne (tgt := 9) hx hb dX9_numbersOf_2 (by decide) (fun c2 => ?_) (fun c2 => ?_)
  · refine lv_iload_n hx hb dX9_numbersOf_9 rfl (lv_at hl 0 rfl) ?_
    refine lv_iconst (v := 3) hx hb dX9_numbersOf_10 (by decide +kernel) ?_
    refine lv_icmp_ne (tgt := 18) hx hb dX9_numbersOf_11 (by decide) (fun c11 => ?_) (fun c11 => ?_)
    · refine lv_iload_n hx hb dX9_numbersOf_18 rfl (lv_at hl 0 rfl) ?_
      refine lv_iconst (v := 2) hx hb dX9_numbersOf_19 (by decide +kernel) ?_
      refine lv_icmp_lt (tgt := 29) hx hb dX9_numbersOf_20 (by decide) (fun c20 => ?_) (fun c20 => ?_)
      · refine lv_iconst (v := 2) hx hb dX9_numbersOf_29 (by decide +kernel) ?_
        refine lv_goto (tgt := 34) hx hb dX9_numbersOf_30 (by decide) ?_
        exact rt_i Z hr hlk hw dX9_numbersOf_34 ⟨Eq.symm (lf_f c2 (lf_f c11 (lf_t c20 rfl))), rfl⟩
      · refine lv_iload_n hx hb dX9_numbersOf_23 rfl (lv_at hl 0 rfl) ?_
        refine lv_bipush (v := 7) hx hb dX9_numbersOf_24 (by decide +kernel) ?_
        refine lv_icmp_ne (tgt := 33) hx hb dX9_numbersOf_26 (by decide) (fun c26 => ?_) (fun c26 => ?_)
        · refine lv_iconst (v := 1) hx hb dX9_numbersOf_33 (by decide +kernel) ?_
          exact rt_i Z hr hlk hw dX9_numbersOf_34 ⟨Eq.symm (lf_f c2 (lf_f c11 (lf_f c20 (lf_f c26 rfl)))), rfl⟩
        · refine lv_iconst (v := 2) hx hb dX9_numbersOf_29 (by decide +kernel) ?_
          refine lv_goto (tgt := 34) hx hb dX9_numbersOf_30 (by decide) ?_
          exact rt_i Z hr hlk hw dX9_numbersOf_34 ⟨Eq.symm (lf_f c2 (lf_f c11 (lf_f c20 (lf_t c26 rfl)))), rfl⟩
    · refine lv_iconst (v := 3) hx hb dX9_numbersOf_14 (by decide +kernel) ?_
      refine lv_goto (tgt := 34) hx hb dX9_numbersOf_15 (by decide) ?_
      exact rt_i Z hr hlk hw dX9_numbersOf_34 ⟨Eq.symm (lf_f c2 (lf_t c11 rfl)), rfl⟩
  · refine lv_iconst (v := 4) hx hb dX9_numbersOf_5 (by decide +kernel) ?_
    refine lv_goto (tgt := 34) hx hb dX9_numbersOf_6 (by decide) ?_
    exact rt_i Z hr hlk hw dX9_numbersOf_34 ⟨Eq.symm (lf_t c2 rfl), rfl⟩
theorem sp_0 {t : St} (I : InvD t) : ((0 : Nat) : Int) ≤ (t 0 8).toInt := I.2.2.2.2.2.1
theorem nO_4 {x r : Int32} (er : f_X9_numbersOf x = r) : r.toInt ≤ 4 := by
  unfold f_X9_numbersOf at er
  subst er
  split
  · decide
  · split
    · decide
    · split
      · decide
      · split <;> decide
theorem zb01 {P : Prop} [Decidable P] {v : Int32} (ev : (if P then 1 else 0) = v) : zb v = v := by
  subst ev
  split <;> decide
theorem rd_sp {σ : St} {a b r v : Int32} (I : InvD σ) (er : f_X9_isAt σ a b = r) (ev : (if r = 0 then 0 else 1) = v) : 0 ≤ (σ 0 8 + v).toInt ∧ (σ 0 8 + v).toInt ≤ 150 := by
  by_cases h : r = 0
  · rw [if_pos h] at ev
    subst ev
    rw [Int32.add_zero]
    exact I.2.2.2.2.2
  · rw [if_neg h] at ev
    subst ev
    exact (sp_inc I er h).1

abbrev rmX9_readsWord : Room := { frames := 2, cells := 0, slots := 0, locals := 44 }
def f_X9_readsWord_l4 : Nat → Nat → Int64 → St → Nat × Int64 × St
  | 0, k4, a4_1, t4 => (k4, a4_1, t4)
  | n4 + 1, k4, a4_1, t4 => (let r9 := f_X9_isAt t4 97 122; (if r9 = 0 then (k4, a4_1, t4) else (let v40 : Int64 := (if 8 ≤ (nI k4) then 0 else (a4_1 <<< ((8 : Int32).toInt64 &&& 63)) ||| ((t4 4 ((t4 0 8).toNatClampNeg)).toInt64)); (f_X9_readsWord_l4 n4 (k4 + 1) v40 (up2 t4 0 8 ((t4 0 8) + 1))))))
def f_X9_readsWord_l60 (kk4 : Nat) (w4_1 : Int64) : Nat → Nat → St → Int32 × St
  | 0, k60, t60 => (0, t60)
  | n60 + 1, k60, t60 => (if 9 ≤ (nI k60) then ((-1), t60) else (if 8 ≤ (nI kk4) then ((-1), t60) else (let r75 := f_X9_letters (nI k60); (if (lc r75 w4_1) = 0 then (nI k60, t60) else (f_X9_readsWord_l60 kk4 w4_1 n60 (k60 + 1) t60)))))
def f_X9_readsWord (σ : St) : Int32 × St := (let kk4 := (f_X9_readsWord_l4 fu151 0 0 σ).1; let w4_1 := (f_X9_readsWord_l4 fu151 0 0 σ).2.1; let u4 := (f_X9_readsWord_l4 fu151 0 0 σ).2.2; (f_X9_readsWord_l60 kk4 w4_1 fu10 0 u4))
theorem v_X9_readsWord : cvV yX9_readsWord "NestedBellsModel" cX9_readsWord 5 (some (.int)) 0 := ⟨q_6_55, s_75, q_1_10, q_6_56, rfl, by decide +kernel, by decide +kernel, by decide +kernel⟩
set_option maxHeartbeats 4000000 in
set_option maxRecDepth 100000 in
theorem L_X9_readsWord_4 {l : Launch} {D : va_G} {T : Nat → ClassId} {g ad : Nat → Nat} {p : Program} {e : Env} {s : State} {m : MethodId} {below : List Frame} {meth : Method} {c : Code} {A : Nat → Prop} {Qw : State → Prop} (Z : en p m c cX9_readsWord 5 s [.ref (ad 0)].toArray "NestedBellsModel" D T g A) : ∀ (n4 : Nat) (k4 : Nat) (a4_1 : Int64) (t4 : St) (H : Heap) (locs : List Loc) (ls : Array Slot), k4 ≤ 150 → 150 < k4 + n4 → InvD t4 → (k4 : Int) ≤ (t4 0 8).toInt → wo D A s.heap 6 ad (cE (dE T ad) t4) H locs → lv_has ls 5 [(3, .int (nI k4)), (1, .long a4_1), (0, .ref (ad 0))] → (∀ (kk4 : Nat) (w4_1 : Int64) (u4 : St) (H : Heap) (locs : List Loc) (ls : Array Slot), (f_X9_readsWord_l4 n4 k4 a4_1 t4).1 = kk4 → (f_X9_readsWord_l4 n4 k4 a4_1 t4).2.1 = w4_1 → (f_X9_readsWord_l4 n4 k4 a4_1 t4).2.2 = u4 → InvD u4 → wo D A s.heap 6 ad (cE (dE T ad) u4) H locs → lv_has ls 5 [(3, .int (nI kk4)), (1, .long w4_1)] → W p l e rmX9_readsWord s m [.ref (ad 0)].toArray below meth c H locs 0 0 Qw (F0 m 57 ls [])) → W p l e rmX9_readsWord s m [.ref (ad 0)].toArray below meth c H locs 0 0 Qw (F0 m 4 ls []) := by
  have hx := Z.1.1
  have hb := Z.1.2.1
  intro n4
  induction n4 with
  | zero =>
    intro k4 a4_1 t4 H locs ls hk4 hn4 It4 hi4 hw hl kk
    exact absurd hn4 (by omega)
  | succ n4 ih =>
    intro k4 a4_1 t4 H locs ls hk4 hn4 It4 hi4 hw hl kk
    refine lv_aload_n hx hb dX9_readsWord_4 rfl (lv_at hl 2 rfl) ?_
    refine lv_bipush (v := 97) hx hb dX9_readsWord_5 (by decide +kernel) ?_
    refine lv_bipush (v := 122) hx hb dX9_readsWord_7 (by decide +kernel) ?_
    refine bk_ip (rnV (rest := []) Z hw (k_X9_isAt (p1 := 97) (p2 := 122) It4) v_X9_isAt q_6_45 (0) (by decide) rfl rfl rfl rfl hl.1 rfl rfl (Nat.le_of_ble_eq_true rfl) ⟨(Nat.le_of_ble_eq_true rfl), (Nat.le_of_ble_eq_true rfl)⟩ ⟨(Nat.le_of_ble_eq_true rfl), (Nat.le_of_ble_eq_true rfl)⟩ dX9_readsWord_9) hw Z (fun r9 er9 H locs hw => ?_)
    refine lv_if_eq (tgt := 57) hx hb dX9_readsWord_12 (by decide) (fun c12 => ?_) (fun c12 => ?_)
    · exact kk _ _ _ H locs ls (Eq.symm (congrArg (fun z : Nat × Int64 × St => z.1) (show (k4, a4_1, t4) = _ from (by subst er9; exact (lf_t c12 rfl))))) (Eq.symm (congrArg (fun z : Nat × Int64 × St => z.2.1) (show (k4, a4_1, t4) = _ from (by subst er9; exact (lf_t c12 rfl))))) (Eq.symm (congrArg (fun z : Nat × Int64 × St => z.2.2) (show (k4, a4_1, t4) = _ from (by subst er9; exact (lf_t c12 rfl))))) It4 hw (lv_sub hl [0, 1] rfl)
    · have hkb4 : k4 < 150 := by have h1 := isAt_lt er9 c12; have h2 := It4.2.2.2.2.1; omega
      refine lv_iload_n hx hb dX9_readsWord_15 rfl (lv_at hl 0 rfl) ?_
      refine lv_bipush (v := 8) hx hb dX9_readsWord_16 (by decide +kernel) ?_
      have hj40 : ∀ (v40 : Int64) (H : Heap) (locs : List Loc) (ls : Array Slot), ((if 8 ≤ (nI k4) then 0 else (a4_1 <<< ((8 : Int32).toInt64 &&& 63)) ||| ((t4 4 ((t4 0 8).toNatClampNeg)).toInt64)) : Int64) = v40 → wo D A s.heap 6 ad (cE (dE T ad) t4) H locs → lv_has ls 5 [(3, .int (nI k4)), (0, .ref (ad 0))] → W p l e rmX9_readsWord s m [.ref (ad 0)].toArray below meth c H locs 0 0 Qw (F0 m 40 ls [.long v40]) := by
        intro v40 H locs ls ev40 hw hl
        refine lv_lstore_n (lv' := [(1, .long v40), (3, .int (nI k4)), (0, .ref (ad 0))]) hx hb dX9_readsWord_40 rfl hl (by decide) rfl (fun ls hl => ?_)
        refine lv_iinc (v := nI (k4 + 1)) (lv' := [(3, .int (nI (k4 + 1))), (1, .long v40), (0, .ref (ad 0))]) hx hb dX9_readsWord_41 hl (k := 1) rfl (nI_1 _) (by decide) rfl (fun ls hl => ?_)
        refine lv_aload_n hx hb dX9_readsWord_44 rfl (lv_at hl 2 rfl) ?_
        refine lv_dup hx hb dX9_readsWord_45 rfl ?_
        refine gD (j := 8) (v := .int (t4 0 8)) Z hw  (by decide) q_4_220 rfl rfl dX9_readsWord_46 ?_
        refine lv_iconst (v := 1) hx hb dX9_readsWord_49 (by decide +kernel) ?_
        refine lv_iadd hx hb dX9_readsWord_50 ?_
        refine pD (j := 8) Z hw  (by decide) q_4_220 rfl rfl rfl rfl dX9_readsWord_51 (fun H locs hw => ?_)
        refine lv_goto (tgt := 4) hx hb dX9_readsWord_54 (by decide) ?_
        exact ih (k4 + 1) v40 (up2 t4 0 8 ((t4 0 8) + 1)) H locs ls (by omega) (by omega) (InvD.spot (sp_inc It4 er9 c12).1 It4) (by rw [up2_s, (sp_inc It4 er9 c12).2]; omega) hw (lv_sub hl [0, 1, 2] rfl) (fun kk4 w4_1 u4 H locs ls ekk4 ew4_1 eu4 I4 hw hl => kk kk4 w4_1 u4 H locs ls (Eq.trans (Eq.symm (congrArg (fun z : Nat × Int64 × St => z.1) (show (f_X9_readsWord_l4 n4 (k4 + 1) v40 (up2 t4 0 8 ((t4 0 8) + 1))) = _ from (by subst ev40 er9; exact (lf_f c12 rfl))))) ekk4) (Eq.trans (Eq.symm (congrArg (fun z : Nat × Int64 × St => z.2.1) (show (f_X9_readsWord_l4 n4 (k4 + 1) v40 (up2 t4 0 8 ((t4 0 8) + 1))) = _ from (by subst ev40 er9; exact (lf_f c12 rfl))))) ew4_1) (Eq.trans (Eq.symm (congrArg (fun z : Nat × Int64 × St => z.2.2) (show (f_X9_readsWord_l4 n4 (k4 + 1) v40 (up2 t4 0 8 ((t4 0 8) + 1))) = _ from (by subst ev40 er9; exact (lf_f c12 rfl))))) eu4) I4 hw hl)
      refine lv_icmp_ge (tgt := 39) hx hb dX9_readsWord_18 (by decide) (fun c18 => ?_) (fun c18 => ?_)
      · refine lv_lconst (v := 0) hx hb dX9_readsWord_39 (by decide) ?_
        exact hj40 _ H locs ls (Eq.symm (lf_t c18 rfl)) hw (lv_sub hl [0, 2] rfl)
      · refine lv_lload_n hx hb dX9_readsWord_21 rfl (lv_at hl 1 rfl) ?_
        refine lv_bipush (v := 8) hx hb dX9_readsWord_22 (by decide +kernel) ?_
        refine lv_lshl hx hb dX9_readsWord_24 (rfl : _ = a4_1 <<< ((8 : Int32).toInt64 &&& 63)) ?_
        refine lv_aload_n hx hb dX9_readsWord_25 rfl (lv_at hl 2 rfl) ?_
        refine gD (j := 5) (v := .ref (ad 4)) Z hw  (by decide) q_4_217 rfl rfl dX9_readsWord_26 ?_
        refine lv_aload_n hx hb dX9_readsWord_29 rfl (lv_at hl 2 rfl) ?_
        refine gD (j := 8) (v := .int (t4 0 8)) Z hw  (by decide) q_4_220 rfl rfl dX9_readsWord_30 ?_
        refine aE (v := t4 4 ((t4 0 8).toNatClampNeg)) Z hw 4 (by decide) rfl (fun _ => rfl) (at_vp2 It4 er9 c12) rfl dX9_readsWord_33 ?_
        refine lv_i2l hx hb dX9_readsWord_34 rfl ?_
        refine lv_lor hx hb dX9_readsWord_35 ?_
        refine lv_goto (tgt := 40) hx hb dX9_readsWord_36 (by decide) ?_
        exact hj40 _ H locs ls (Eq.symm (lf_f c18 rfl)) hw (lv_sub hl [0, 2] rfl)
set_option maxHeartbeats 4000000 in
set_option maxRecDepth 100000 in
theorem L_X9_readsWord_60 {l : Launch} {D : va_G} {T : Nat → ClassId} {g ad : Nat → Nat} {p : Program} {e : Env} {s : State} {m : MethodId} {below : List Frame} {meth : Method} {c : Code} {A : Nat → Prop} {kk4 : Nat} {w4_1 : Int64} (Z : en p m c cX9_readsWord 5 s [.ref (ad 0)].toArray "NestedBellsModel" D T g A) (hr : meth.sig.returnType = (some (.int))) (hlk : meth.locks = false) : ∀ (n60 : Nat) (k60 : Nat) (t60 : St) (H : Heap) (locs : List Loc) (ls : Array Slot), k60 ≤ 9 → 9 < k60 + n60 → InvD t60 → wo D A s.heap 6 ad (cE (dE T ad) t60) H locs → lv_has ls 5 [(4, .int (nI k60)), (3, .int (nI kk4)), (1, .long w4_1)] → W p l e rmX9_readsWord s m [.ref (ad 0)].toArray below meth c H locs 0 0 (MQ below (qI D 6 ad (dE T ad) (pI (f_X9_readsWord_l60 kk4 w4_1 n60 k60 t60) InvD) A) [.ref (ad 0)].toArray s rmX9_readsWord.cells rmX9_readsWord.slots A) (F0 m 60 ls []) := by
  have hx := Z.1.1
  have hb := Z.1.2.1
  intro n60
  induction n60 with
  | zero =>
    intro k60 t60 H locs ls hk60 hn60 It60 hw hl
    exact absurd hn60 (by omega)
  | succ n60 ih =>
    intro k60 t60 H locs ls hk60 hn60 It60 hw hl
    refine lv_iload hx hb dX9_readsWord_60 (lv_at hl 0 rfl) ?_
    refine lv_bipush (v := 9) hx hb dX9_readsWord_62 (by decide +kernel) ?_
    refine lv_icmp_ge (tgt := 92) hx hb dX9_readsWord_64 (by decide) (fun c64 => ?_) (fun c64 => ?_)
    · refine lv_iconst (v := (-1)) hx hb dX9_readsWord_92 (by decide +kernel) ?_
      exact rt_i Z hr hlk hw dX9_readsWord_93 (pI.mk (lf_t c64 rfl) It60)
    · have hkb60 : k60 < 9 := kb_ge c64 (by decide) hk60 (by decide)
      refine lv_iload_n hx hb dX9_readsWord_67 rfl (lv_at hl 1 rfl) ?_
      refine lv_bipush (v := 8) hx hb dX9_readsWord_68 (by decide +kernel) ?_
      refine lv_icmp_ge (tgt := 92) hx hb dX9_readsWord_70 (by decide) (fun c70 => ?_) (fun c70 => ?_)
      · refine lv_iconst (v := (-1)) hx hb dX9_readsWord_92 (by decide +kernel) ?_
        exact rt_i Z hr hlk hw dX9_readsWord_93 (pI.mk (lf_f c64 (lf_t c70 rfl)) It60)
      · refine lv_iload hx hb dX9_readsWord_73 (lv_at hl 0 rfl) ?_
        refine bk_lp (rnS (rest := []) Z hw (k_X9_letters (p1 := nI k60) ) v_X9_letters rfl q_6_57 hl.1 rfl rfl (Nat.le_of_ble_eq_true rfl) ⟨(Nat.le_of_ble_eq_true rfl), (Nat.le_of_ble_eq_true rfl)⟩ ⟨(Nat.le_of_ble_eq_true rfl), (Nat.le_of_ble_eq_true rfl)⟩ dX9_readsWord_75) hw Z (fun r75 er75 H locs hw => ?_)
        refine lv_lload_n hx hb dX9_readsWord_78 rfl (lv_at hl 2 rfl) ?_
        refine lv_lcmp hx hb dX9_readsWord_79 ?_
        refine lv_if_ne (tgt := 86) hx hb dX9_readsWord_80 (by decide) (fun c80 => ?_) (fun c80 => ?_)
        · refine lv_iinc (v := nI (k60 + 1)) (lv' := [(4, .int (nI (k60 + 1))), (3, .int (nI kk4)), (1, .long w4_1)]) hx hb dX9_readsWord_86 hl (k := 0) rfl (nI_1 _) (by decide) rfl (fun ls hl => ?_)
          refine lv_goto (tgt := 60) hx hb dX9_readsWord_89 (by decide) ?_
          have q60 : (f_X9_readsWord_l60 kk4 w4_1 n60 (k60 + 1) t60) = (f_X9_readsWord_l60 kk4 w4_1 (n60 + 1) k60 t60) := (by subst er75; exact (lf_f c64 (lf_f c70 (lf_f c80 rfl))))
          rw [← q60]
          exact ih (k60 + 1) t60 H locs ls (by omega) (by omega) It60 hw (lv_sub hl [0, 1, 2] rfl)
        · refine lv_iload hx hb dX9_readsWord_83 (lv_at hl 0 rfl) ?_
          exact rt_i Z hr hlk hw dX9_readsWord_85 (pI.mk (by subst er75; exact (lf_f c64 (lf_f c70 (lf_t c80 rfl)))) It60)
set_option maxHeartbeats 4000000 in
set_option maxRecDepth 100000 in
theorem k_X9_readsWord {l : Launch} {D : va_G} {T : Nat → ClassId} {g ad : Nat → Nat} {σ : St} (I0 : InvD σ) : mX l yX9_readsWord cX9_readsWord 5 (some (.int)) rmX9_readsWord D T g 6 ad (cE (dE T ad) σ) [.ref (ad 0)] (qI D 6 ad (dE T ad) (pI (f_X9_readsWord σ) InvD)) := by
  refine mX.of (own := "NestedBellsModel") (by decide +kernel) (Nat.le_of_ble_eq_true rfl) rfl ?_
  intro p e s m below meth c A ls H locs Z hr hlk _ hw hl
  have hx := Z.1.1
  have hb := Z.1.2.1
  have hl : lv_has ls 5 [(0, .ref (ad 0))] := hl
  refine lv_lconst (v := 0) hx hb dX9_readsWord_0 (by decide) ?_
  refine lv_lstore_n (lv' := [(1, .long 0), (0, .ref (ad 0))]) hx hb dX9_readsWord_1 rfl hl (by decide) rfl (fun ls hl => ?_)
  refine lv_iconst (v := 0) hx hb dX9_readsWord_2 (by decide +kernel) ?_
  refine lv_istore_n (lv' := [(3, .int 0), (1, .long 0), (0, .ref (ad 0))]) hx hb dX9_readsWord_3 rfl hl (by decide) rfl (fun ls hl => ?_)
  refine L_X9_readsWord_4 Z fu151 0 0 σ H locs ls (by omega) (by unfold fu151; omega) I0 (sp_0 I0) hw (lv_sub hl [0, 1, 2] rfl) (fun kk4 w4_1 u4 H locs ls ekk4 ew4_1 eu4 I4 hw hl => ?_)
  refine lv_iconst (v := 0) hx hb dX9_readsWord_57 (by decide +kernel) ?_
  refine lv_istore (lv' := [(4, .int 0), (3, .int (nI kk4)), (1, .long w4_1)]) hx hb dX9_readsWord_58 hl (by decide) rfl (fun ls hl => ?_)
  have q60 : (f_X9_readsWord_l60 kk4 w4_1 fu10 0 u4) = (f_X9_readsWord σ) := (by subst eu4 ew4_1 ekk4; exact rfl)
  rw [← q60]
  exact L_X9_readsWord_60 (kk4 := kk4) (w4_1 := w4_1) Z hr hlk fu10 0 u4 H locs ls (by omega) (by unfold fu10; omega) I4 hw (lv_sub hl [0, 1, 2] rfl)
abbrev rmX9_readsNumber : Room := { frames := 3, cells := 0, slots := 0, locals := 65 }
def f_X9_readsNumber_l32 (p1 : Int32) (s1 : St) : Nat → St → St
  | 0, t32 => (t32)
  | n32 + 1, t32 => (let r37 := f_X9_isAt t32 48 57; (if r37 = 0 then t32 else (if ((s1 0 8) + 3) ≤ (t32 0 8) then t32 else (f_X9_readsNumber_l32 p1 s1 n32 (up2 (up2 t32 5 p1.toNatClampNeg (((10 * (t32 5 p1.toNatClampNeg)) + (t32 4 ((t32 0 8).toNatClampNeg))) - 48)) 0 8 ((t32 0 8) + 1))))))
def f_X9_readsNumber (σ : St) (p1 : Int32) : Int32 × St := (let r1 := (f_X9_skips σ).1; let s1 := (f_X9_skips σ).2; (if r1 = 0 then (0, s1) else (let r12 := f_X9_isAt s1 48 57; (if r12 = 0 then (0, s1) else (let u32 := (f_X9_readsNumber_l32 p1 s1 fu151 (up2 s1 5 p1.toNatClampNeg 0)); (1, u32))))))
theorem v_X9_readsNumber : cvV yX9_readsNumber "NestedBellsModel" cX9_readsNumber 3 (some (.boolean)) 1 := ⟨q_6_74, s_76, q_1_10, q_6_75, rfl, by decide +kernel, by decide +kernel, by decide +kernel⟩
set_option maxHeartbeats 4000000 in
set_option maxRecDepth 100000 in
theorem L_X9_readsNumber_32 {l : Launch} {D : va_G} {T : Nat → ClassId} {g ad : Nat → Nat} {p : Program} {e : Env} {s : State} {m : MethodId} {below : List Frame} {meth : Method} {c : Code} {A : Nat → Prop} {Qw : State → Prop} {p1 : Int32} {s1 : St} (Z : en p m c cX9_readsNumber 3 s [.ref (ad 0), .int p1].toArray "NestedBellsModel" D T g A) (h4 : 0 ≤ p1.toInt ∧ p1.toInt < 4) : ∀ (n32 : Nat) (t32 : St) (H : Heap) (locs : List Loc) (ls : Array Slot), ms t32 n32 → InvD t32 → wo D A s.heap 6 ad (cE (dE T ad) t32) H locs → lv_has ls 3 [(2, .int (s1 0 8)), (0, .ref (ad 0)), (1, .int p1)] → (∀ (u32 : St) (H : Heap) (locs : List Loc) (ls : Array Slot), (f_X9_readsNumber_l32 p1 s1 n32 t32) = u32 → InvD u32 → wo D A s.heap 6 ad (cE (dE T ad) u32) H locs → lv_has ls 3 [] → W p l e rmX9_readsNumber s m [.ref (ad 0), .int p1].toArray below meth c H locs 0 0 Qw (F0 m 94 ls [])) → W p l e rmX9_readsNumber s m [.ref (ad 0), .int p1].toArray below meth c H locs 0 0 Qw (F0 m 32 ls []) := by
  have hx := Z.1.1
  have hb := Z.1.2.1
  intro n32
  induction n32 with
  | zero =>
    intro t32 H locs ls hn32 It32 hw hl kk
    exact absurd hn32.2 (by omega)
  | succ n32 ih =>
    intro t32 H locs ls hn32 It32 hw hl kk
    refine lv_aload_n hx hb dX9_readsNumber_32 rfl (lv_at hl 1 rfl) ?_
    refine lv_bipush (v := 48) hx hb dX9_readsNumber_33 (by decide +kernel) ?_
    refine lv_bipush (v := 57) hx hb dX9_readsNumber_35 (by decide +kernel) ?_
    refine bk_ip (rnV (rest := []) Z hw (k_X9_isAt (p1 := 48) (p2 := 57) It32) v_X9_isAt q_6_45 (0) (by decide) rfl rfl rfl rfl hl.1 rfl rfl (Nat.le_of_ble_eq_true rfl) ⟨(Nat.le_of_ble_eq_true rfl), (Nat.le_of_ble_eq_true rfl)⟩ ⟨(Nat.le_of_ble_eq_true rfl), (Nat.le_of_ble_eq_true rfl)⟩ dX9_readsNumber_37) hw Z (fun r37 er37 H locs hw => ?_)
    refine lv_if_eq (tgt := 94) hx hb dX9_readsNumber_40 (by decide) (fun c40 => ?_) (fun c40 => ?_)
    · exact kk _ H locs ls (Eq.symm (by subst er37; exact (lf_t c40 rfl))) It32 hw (lv_sub hl [] rfl)
    · refine lv_aload_n hx hb dX9_readsNumber_43 rfl (lv_at hl 1 rfl) ?_
      refine gD (j := 8) (v := .int (t32 0 8)) Z hw  (by decide) q_4_220 rfl rfl dX9_readsNumber_44 ?_
      refine lv_iload_n hx hb dX9_readsNumber_47 rfl (lv_at hl 0 rfl) ?_
      refine lv_iconst (v := 3) hx hb dX9_readsNumber_48 (by decide +kernel) ?_
      refine lv_iadd hx hb dX9_readsNumber_49 ?_
      refine lv_icmp_ge (tgt := 94) hx hb dX9_readsNumber_50 (by decide) (fun c50 => ?_) (fun c50 => ?_)
      · exact kk _ H locs ls (Eq.symm (by subst er37; exact (lf_f c40 (lf_t c50 rfl)))) It32 hw (lv_sub hl [] rfl)
      · refine lv_aload_n hx hb dX9_readsNumber_53 rfl (lv_at hl 1 rfl) ?_
        refine gD (j := 10) (v := .ref (ad 5)) Z hw  (by decide) q_4_222 rfl rfl dX9_readsNumber_54 ?_
        refine lv_iload_n hx hb dX9_readsNumber_57 rfl (lv_at hl 2 rfl) ?_
        refine lv_bipush (v := 10) hx hb dX9_readsNumber_58 (by decide +kernel) ?_
        refine lv_aload_n hx hb dX9_readsNumber_60 rfl (lv_at hl 1 rfl) ?_
        refine gD (j := 10) (v := .ref (ad 5)) Z hw  (by decide) q_4_222 rfl rfl dX9_readsNumber_61 ?_
        refine lv_iload_n hx hb dX9_readsNumber_64 rfl (lv_at hl 2 rfl) ?_
        refine aE (v := t32 5 p1.toNatClampNeg) Z hw 5 (by decide) rfl (fun _ => rfl) (vp_in_iff.mpr h4) rfl dX9_readsNumber_65 ?_
        refine lv_imul hx hb dX9_readsNumber_66 ?_
        refine lv_aload_n hx hb dX9_readsNumber_67 rfl (lv_at hl 1 rfl) ?_
        refine gD (j := 5) (v := .ref (ad 4)) Z hw  (by decide) q_4_217 rfl rfl dX9_readsNumber_68 ?_
        refine lv_aload_n hx hb dX9_readsNumber_71 rfl (lv_at hl 1 rfl) ?_
        refine gD (j := 8) (v := .int (t32 0 8)) Z hw  (by decide) q_4_220 rfl rfl dX9_readsNumber_72 ?_
        refine aE (v := t32 4 ((t32 0 8).toNatClampNeg)) Z hw 4 (by decide) rfl (fun _ => rfl) (at_vp2 It32 er37 c40) rfl dX9_readsNumber_75 ?_
        refine lv_iadd hx hb dX9_readsNumber_76 ?_
        refine lv_bipush (v := 48) hx hb dX9_readsNumber_77 (by decide +kernel) ?_
        refine lv_isub hx hb dX9_readsNumber_79 ?_
        refine sE (j := p1.toNatClampNeg) Z hw 5 (by decide) rfl (fun _ => rfl) (vp_in_iff.mpr h4) rfl dX9_readsNumber_80 (fun H locs hw => ?_)
        refine lv_aload_n hx hb dX9_readsNumber_81 rfl (lv_at hl 1 rfl) ?_
        refine lv_dup hx hb dX9_readsNumber_82 rfl ?_
        refine gD (j := 8) (v := .int (t32 0 8)) Z hw  (by decide) q_4_220 rfl (congrArg (fun x => some (Value.int x)) (up2_k (by decide))) dX9_readsNumber_83 ?_
        refine lv_iconst (v := 1) hx hb dX9_readsNumber_86 (by decide +kernel) ?_
        refine lv_iadd hx hb dX9_readsNumber_87 ?_
        refine pD (j := 8) Z hw  (by decide) q_4_220 rfl rfl rfl rfl dX9_readsNumber_88 (fun H locs hw => ?_)
        refine lv_goto (tgt := 32) hx hb dX9_readsNumber_91 (by decide) ?_
        exact ih (up2 (up2 t32 5 p1.toNatClampNeg (((10 * (t32 5 p1.toNatClampNeg)) + (t32 4 ((t32 0 8).toNatClampNeg))) - 48)) 0 8 ((t32 0 8) + 1)) H locs ls (ms_s It32 er37 c40 hn32 (by rw [up2_j (by decide), up2_k (by decide)]) (by rw [up2_s])) (InvD.spot (sp_inc It32 er37 c40).1 (InvD.up It32 (by unfold InvDcr; omega))) hw (lv_sub hl [0, 1, 2] rfl) (fun u32 H locs ls eu32 I32 hw hl => kk u32 H locs ls (Eq.trans (Eq.symm (show (f_X9_readsNumber_l32 p1 s1 n32 (up2 (up2 t32 5 p1.toNatClampNeg (((10 * (t32 5 p1.toNatClampNeg)) + (t32 4 ((t32 0 8).toNatClampNeg))) - 48)) 0 8 ((t32 0 8) + 1))) = _ from (by subst er37; exact (lf_f c40 (lf_f c50 rfl))))) eu32) I32 hw hl)
set_option maxHeartbeats 4000000 in
set_option maxRecDepth 100000 in
theorem k_X9_readsNumber {l : Launch} {D : va_G} {T : Nat → ClassId} {g ad : Nat → Nat} {σ : St} {p1 : Int32} (I0 : InvD σ) (h4 : 0 ≤ p1.toInt ∧ p1.toInt < 4) : mX l yX9_readsNumber cX9_readsNumber 3 (some (.boolean)) rmX9_readsNumber D T g 6 ad (cE (dE T ad) σ) [.ref (ad 0), .int p1] (qI D 6 ad (dE T ad) (pI (f_X9_readsNumber σ p1) InvD)) := by
  refine mX.of (own := "NestedBellsModel") (by decide +kernel) (Nat.le_of_ble_eq_true rfl) rfl ?_
  intro p e s m below meth c A ls H locs Z hr hlk _ hw hl
  have hx := Z.1.1
  have hb := Z.1.2.1
  have hl : lv_has ls 3 [(0, .ref (ad 0)), (1, .int p1)] := hl
  refine lv_aload_n hx hb dX9_readsNumber_0 rfl (lv_at hl 0 rfl) ?_
  refine bk_i (rnV (rest := []) Z hw (k_X9_skips  I0) v_X9_skips q_6_41 (0) (by decide) rfl rfl rfl rfl hl.1 rfl rfl (Nat.le_of_ble_eq_true rfl) ⟨(Nat.le_of_ble_eq_true rfl), (Nat.le_of_ble_eq_true rfl)⟩ ⟨(Nat.le_of_ble_eq_true rfl), (Nat.le_of_ble_eq_true rfl)⟩ dX9_readsNumber_1) hw Z (fun r1 s1 H locs hp hw => ?_)
  obtain ⟨er1, es1, I1⟩ := hp
  refine lv_if_eq (tgt := 18) hx hb dX9_readsNumber_4 (by decide) (fun c4 => ?_) (fun c4 => ?_)
  · refine lv_iconst (v := 0) hx hb dX9_readsNumber_18 (by decide +kernel) ?_
    exact rt_z Z hr hlk hw rfl dX9_readsNumber_19 (pI.mk (by subst es1 er1; exact (lf_t c4 rfl)) I1)
  · refine lv_aload_n hx hb dX9_readsNumber_7 rfl (lv_at hl 0 rfl) ?_
    refine lv_bipush (v := 48) hx hb dX9_readsNumber_8 (by decide +kernel) ?_
    refine lv_bipush (v := 57) hx hb dX9_readsNumber_10 (by decide +kernel) ?_
    refine bk_ip (rnV (rest := []) Z hw (k_X9_isAt (p1 := 48) (p2 := 57) I1) v_X9_isAt q_6_45 (0) (by decide) rfl rfl rfl rfl hl.1 rfl rfl (Nat.le_of_ble_eq_true rfl) ⟨(Nat.le_of_ble_eq_true rfl), (Nat.le_of_ble_eq_true rfl)⟩ ⟨(Nat.le_of_ble_eq_true rfl), (Nat.le_of_ble_eq_true rfl)⟩ dX9_readsNumber_12) hw Z (fun r12 er12 H locs hw => ?_)
    refine lv_if_ne (tgt := 20) hx hb dX9_readsNumber_15 (by decide) (fun c15 => ?_) (fun c15 => ?_)
    · refine lv_aload_n hx hb dX9_readsNumber_20 rfl (lv_at hl 0 rfl) ?_
      refine gD (j := 8) (v := .int (s1 0 8)) Z hw  (by decide) q_4_220 rfl rfl dX9_readsNumber_21 ?_
      refine lv_istore_n (lv' := [(2, .int (s1 0 8)), (0, .ref (ad 0)), (1, .int p1)]) hx hb dX9_readsNumber_24 rfl hl (by decide) rfl (fun ls hl => ?_)
      refine lv_aload_n hx hb dX9_readsNumber_25 rfl (lv_at hl 1 rfl) ?_
      refine gD (j := 10) (v := .ref (ad 5)) Z hw  (by decide) q_4_222 rfl rfl dX9_readsNumber_26 ?_
      refine lv_iload_n hx hb dX9_readsNumber_29 rfl (lv_at hl 2 rfl) ?_
      refine lv_iconst (v := 0) hx hb dX9_readsNumber_30 (by decide +kernel) ?_
      refine sE (j := p1.toNatClampNeg) Z hw 5 (by decide) rfl (fun _ => rfl) (vp_in_iff.mpr h4) rfl dX9_readsNumber_31 (fun H locs hw => ?_)
      refine L_X9_readsNumber_32 (p1 := p1) (s1 := s1) Z h4 fu151 (up2 s1 5 p1.toNatClampNeg 0) H locs ls (ms_0 (I1.up (by unfold InvDcr; omega))) (InvD.up I1 (by unfold InvDcr; omega)) hw (lv_sub hl [0, 1, 2] rfl) (fun u32 H locs ls eu32 I32 hw hl => ?_)
      refine lv_iconst (v := 1) hx hb dX9_readsNumber_94 (by decide +kernel) ?_
      exact rt_z Z hr hlk hw rfl dX9_readsNumber_95 (pI.mk (by subst eu32 er12 es1 er1; exact (lf_f c4 (lf_f c15 rfl))) I32)
    · refine lv_iconst (v := 0) hx hb dX9_readsNumber_18 (by decide +kernel) ?_
      exact rt_z Z hr hlk hw rfl dX9_readsNumber_19 (pI.mk (by subst er12 es1 er1; exact (lf_f c4 (lf_t c15 rfl))) I1)
abbrev rmX9_reads : Room := { frames := 4, cells := 0, slots := 0, locals := 87 }
def f_X9_reads_l30 : Nat → Nat → St → Int32 × St
  | 0, k30, t30 => (0, t30)
  | n30 + 1, k30, t30 => (let r35 := f_X9_numbersOf (t30 0 9); (if r35 ≤ (nI k30) then (let r58 := (f_X9_skips t30).1; let s58 := (f_X9_skips t30).2; (let r67 := f_X9_isAt s58 59 59; (let v85 : Int32 := (if r67 = 0 then 0 else 1); (r67, up2 s58 0 8 ((s58 0 8) + v85))))) else (let r43 := (f_X9_readsNumber t30 (nI k30)).1; let s43 := (f_X9_readsNumber t30 (nI k30)).2; (if r43 = 0 then (0, s43) else (f_X9_reads_l30 n30 (k30 + 1) s43)))))
def f_X9_reads (σ : St) : Int32 × St := (let r7 := (f_X9_readsWord σ).1; let s7 := (f_X9_readsWord σ).2; (if r7 = (-1) then (0, up2 (up2 s7 0 9 r7) 0 8 (σ 0 8)) else (f_X9_reads_l30 fu5 0 (up2 s7 0 9 r7))))
theorem v_X9_reads : cvV yX9_reads "NestedBellsModel" cX9_reads 3 (some (.boolean)) 0 := ⟨q_6_51, s_74, q_1_10, q_6_52, rfl, by decide +kernel, by decide +kernel, by decide +kernel⟩
set_option maxHeartbeats 4000000 in
set_option maxRecDepth 100000 in
theorem L_X9_reads_30 {l : Launch} {D : va_G} {T : Nat → ClassId} {g ad : Nat → Nat} {p : Program} {e : Env} {s : State} {m : MethodId} {below : List Frame} {meth : Method} {c : Code} {A : Nat → Prop} (Z : en p m c cX9_reads 3 s [.ref (ad 0)].toArray "NestedBellsModel" D T g A) (hr : meth.sig.returnType = (some (.boolean))) (hlk : meth.locks = false) : ∀ (n30 : Nat) (k30 : Nat) (t30 : St) (H : Heap) (locs : List Loc) (ls : Array Slot), k30 ≤ 4 → 4 < k30 + n30 → InvD t30 → wo D A s.heap 6 ad (cE (dE T ad) t30) H locs → lv_has ls 3 [(2, .int (nI k30)), (0, .ref (ad 0))] → W p l e rmX9_reads s m [.ref (ad 0)].toArray below meth c H locs 0 0 (MQ below (qI D 6 ad (dE T ad) (pI (f_X9_reads_l30 n30 k30 t30) InvD) A) [.ref (ad 0)].toArray s rmX9_reads.cells rmX9_reads.slots A) (F0 m 30 ls []) := by
  have hx := Z.1.1
  have hb := Z.1.2.1
  intro n30
  induction n30 with
  | zero =>
    intro k30 t30 H locs ls hk30 hn30 It30 hw hl
    exact absurd hn30 (by omega)
  | succ n30 ih =>
    intro k30 t30 H locs ls hk30 hn30 It30 hw hl
    refine lv_iload_n hx hb dX9_reads_30 rfl (lv_at hl 0 rfl) ?_
    refine lv_aload_n hx hb dX9_reads_31 rfl (lv_at hl 1 rfl) ?_
    refine gD (j := 9) (v := .int (t30 0 9)) Z hw  (by decide) q_4_221 rfl rfl dX9_reads_32 ?_
    refine bk_ip (rnS (rest := [.int (nI k30)]) Z hw (k_X9_numbersOf (p1 := t30 0 9) ) v_X9_numbersOf rfl q_6_69 hl.1 rfl rfl (Nat.le_of_ble_eq_true rfl) ⟨(Nat.le_of_ble_eq_true rfl), (Nat.le_of_ble_eq_true rfl)⟩ ⟨(Nat.le_of_ble_eq_true rfl), (Nat.le_of_ble_eq_true rfl)⟩ dX9_reads_35) hw Z (fun r35 er35 H locs hw => ?_)
    refine lv_icmp_ge (tgt := 57) hx hb dX9_reads_38 (by decide) (fun c38 => ?_) (fun c38 => ?_)
    · refine lv_aload_n hx hb dX9_reads_57 rfl (lv_at hl 1 rfl) ?_
      refine bk_i (rnV (rest := []) Z hw (k_X9_skips  It30) v_X9_skips q_6_41 (0) (by decide) rfl rfl rfl rfl hl.1 rfl rfl (Nat.le_of_ble_eq_true rfl) ⟨(Nat.le_of_ble_eq_true rfl), (Nat.le_of_ble_eq_true rfl)⟩ ⟨(Nat.le_of_ble_eq_true rfl), (Nat.le_of_ble_eq_true rfl)⟩ dX9_reads_58) hw Z (fun r58 s58 H locs hp hw => ?_)
      obtain ⟨er58, es58, I58⟩ := hp
      refine lv_pop hx hb dX9_reads_61 rfl ?_
      refine lv_aload_n hx hb dX9_reads_62 rfl (lv_at hl 1 rfl) ?_
      refine lv_bipush (v := 59) hx hb dX9_reads_63 (by decide +kernel) ?_
      refine lv_bipush (v := 59) hx hb dX9_reads_65 (by decide +kernel) ?_
      refine bk_ip (rnV (rest := []) Z hw (k_X9_isAt (p1 := 59) (p2 := 59) I58) v_X9_isAt q_6_45 (0) (by decide) rfl rfl rfl rfl hl.1 rfl rfl (Nat.le_of_ble_eq_true rfl) ⟨(Nat.le_of_ble_eq_true rfl), (Nat.le_of_ble_eq_true rfl)⟩ ⟨(Nat.le_of_ble_eq_true rfl), (Nat.le_of_ble_eq_true rfl)⟩ dX9_reads_67) hw Z (fun r67 er67 H locs hw => ?_)
      refine lv_istore_n (lv' := [(2, .int r67), (0, .ref (ad 0))]) hx hb dX9_reads_70 rfl hl (by decide) rfl (fun ls hl => ?_)
      refine lv_aload_n hx hb dX9_reads_71 rfl (lv_at hl 1 rfl) ?_
      refine lv_dup hx hb dX9_reads_72 rfl ?_
      refine gD (j := 8) (v := .int (s58 0 8)) Z hw  (by decide) q_4_220 rfl rfl dX9_reads_73 ?_
      refine lv_iload_n hx hb dX9_reads_76 rfl (lv_at hl 0 rfl) ?_
      have hj85 : ∀ (v85 : Int32) (H : Heap) (locs : List Loc) (ls : Array Slot), ((if r67 = 0 then 0 else 1) : Int32) = v85 → wo D A s.heap 6 ad (cE (dE T ad) s58) H locs → lv_has ls 3 [(2, .int r67)] → W p l e rmX9_reads s m [.ref (ad 0)].toArray below meth c H locs 0 0 (MQ below (qI D 6 ad (dE T ad) (pI (f_X9_reads_l30 (n30 + 1) k30 t30) InvD) A) [.ref (ad 0)].toArray s rmX9_reads.cells rmX9_reads.slots A) (F0 m 85 ls [.int v85, .int (s58 0 8), .ref (ad 0)]) := by
        intro v85 H locs ls ev85 hw hl
        refine lv_iadd hx hb dX9_reads_85 ?_
        refine pD (j := 8) Z hw  (by decide) q_4_220 rfl rfl rfl rfl dX9_reads_86 (fun H locs hw => ?_)
        refine lv_iload_n hx hb dX9_reads_89 rfl (lv_at hl 0 rfl) ?_
        exact rt_z Z hr hlk hw (isAt_nar er67) dX9_reads_90 (pI.mk (by subst ev85 er67 es58 er58 er35; exact (lf_t c38 rfl)) (InvD.spot (rd_sp I58 er67 ev85) I58))
      refine lv_if_eq (tgt := 84) hx hb dX9_reads_77 (by decide) (fun c77 => ?_) (fun c77 => ?_)
      · refine lv_iconst (v := 0) hx hb dX9_reads_84 (by decide +kernel) ?_
        exact hj85 _ H locs ls (Eq.symm (lf_t c77 rfl)) hw (lv_sub hl [0] rfl)
      · refine lv_iconst (v := 1) hx hb dX9_reads_80 (by decide +kernel) ?_
        refine lv_goto (tgt := 85) hx hb dX9_reads_81 (by decide) ?_
        exact hj85 _ H locs ls (Eq.symm (lf_f c77 rfl)) hw (lv_sub hl [0] rfl)
    · have hkb30 : k30 < 4 := kb_ge c38 (nO_4 er35) hk30 (by decide)
      refine lv_aload_n hx hb dX9_reads_41 rfl (lv_at hl 1 rfl) ?_
      refine lv_iload_n hx hb dX9_reads_42 rfl (lv_at hl 0 rfl) ?_
      refine bk_i (rnV (rest := []) Z hw (k_X9_readsNumber (p1 := nI k30) It30 (nI_rng (by omega) (by decide))) v_X9_readsNumber q_6_72 (0) (by decide) rfl rfl rfl rfl hl.1 rfl rfl (Nat.le_of_ble_eq_true rfl) ⟨(Nat.le_of_ble_eq_true rfl), (Nat.le_of_ble_eq_true rfl)⟩ ⟨(Nat.le_of_ble_eq_true rfl), (Nat.le_of_ble_eq_true rfl)⟩ dX9_reads_43) hw Z (fun r43 s43 H locs hp hw => ?_)
      obtain ⟨er43, es43, I43⟩ := hp
      refine lv_if_ne (tgt := 51) hx hb dX9_reads_46 (by decide) (fun c46 => ?_) (fun c46 => ?_)
      · refine lv_iinc (v := nI (k30 + 1)) (lv' := [(2, .int (nI (k30 + 1))), (0, .ref (ad 0))]) hx hb dX9_reads_51 hl (k := 0) rfl (nI_1 _) (by decide) rfl (fun ls hl => ?_)
        refine lv_goto (tgt := 30) hx hb dX9_reads_54 (by decide) ?_
        have q30 : (f_X9_reads_l30 n30 (k30 + 1) s43) = (f_X9_reads_l30 (n30 + 1) k30 t30) := (by subst es43 er43 er35; exact (lf_f c38 (lf_f c46 rfl)))
        rw [← q30]
        exact ih (k30 + 1) s43 H locs ls (by omega) (by omega) I43 hw (lv_sub hl [0, 1] rfl)
      · refine lv_iconst (v := 0) hx hb dX9_reads_49 (by decide +kernel) ?_
        exact rt_z Z hr hlk hw rfl dX9_reads_50 (pI.mk (by subst es43 er43 er35; exact (lf_f c38 (lf_t c46 rfl))) I43)
set_option maxHeartbeats 4000000 in
set_option maxRecDepth 100000 in
theorem k_X9_reads {l : Launch} {D : va_G} {T : Nat → ClassId} {g ad : Nat → Nat} {σ : St} (I0 : InvD σ) : mX l yX9_reads cX9_reads 3 (some (.boolean)) rmX9_reads D T g 6 ad (cE (dE T ad) σ) [.ref (ad 0)] (qI D 6 ad (dE T ad) (pI (f_X9_reads σ) InvD)) := by
  refine mX.of (own := "NestedBellsModel") (by decide +kernel) (Nat.le_of_ble_eq_true rfl) rfl ?_
  intro p e s m below meth c A ls H locs Z hr hlk _ hw hl
  have hx := Z.1.1
  have hb := Z.1.2.1
  have hl : lv_has ls 3 [(0, .ref (ad 0))] := hl
  refine lv_aload_n hx hb dX9_reads_0 rfl (lv_at hl 0 rfl) ?_
  refine gD (j := 8) (v := .int (σ 0 8)) Z hw  (by decide) q_4_220 rfl rfl dX9_reads_1 ?_
  refine lv_istore_n (lv' := [(1, .int (σ 0 8)), (0, .ref (ad 0))]) hx hb dX9_reads_4 rfl hl (by decide) rfl (fun ls hl => ?_)
  refine lv_aload_n hx hb dX9_reads_5 rfl (lv_at hl 1 rfl) ?_
  refine lv_aload_n hx hb dX9_reads_6 rfl (lv_at hl 1 rfl) ?_
  refine bk_i (rnV (rest := [.ref (ad 0)]) Z hw (k_X9_readsWord  I0) v_X9_readsWord q_6_53 (0) (by decide) rfl rfl rfl rfl hl.1 rfl rfl (Nat.le_of_ble_eq_true rfl) ⟨(Nat.le_of_ble_eq_true rfl), (Nat.le_of_ble_eq_true rfl)⟩ ⟨(Nat.le_of_ble_eq_true rfl), (Nat.le_of_ble_eq_true rfl)⟩ dX9_reads_7) hw Z (fun r7 s7 H locs hp hw => ?_)
  obtain ⟨er7, es7, I7⟩ := hp
  refine pD (j := 9) Z hw  (by decide) q_4_221 rfl rfl rfl rfl dX9_reads_10 (fun H locs hw => ?_)
  refine lv_aload_n hx hb dX9_reads_13 rfl (lv_at hl 1 rfl) ?_
  refine gD (j := 9) (v := .int r7) Z hw  (by decide) q_4_221 rfl (congrArg (fun x => some (Value.int x)) up2_s) dX9_reads_14 ?_
  refine lv_iconst (v := (-1)) hx hb dX9_reads_17 (by decide +kernel) ?_
  refine lv_icmp_ne (tgt := 28) hx hb dX9_reads_18 (by decide) (fun c18 => ?_) (fun c18 => ?_)
  · refine lv_iconst (v := 0) hx hb dX9_reads_28 (by decide +kernel) ?_
    refine lv_istore_n (lv' := [(2, .int 0), (1, .int (σ 0 8)), (0, .ref (ad 0))]) hx hb dX9_reads_29 rfl hl (by decide) rfl (fun ls hl => ?_)
    have q30 : (f_X9_reads_l30 fu5 0 (up2 s7 0 9 r7)) = (f_X9_reads σ) := (by subst es7 er7; exact (lf_f c18 rfl))
    rw [← q30]
    exact L_X9_reads_30 Z hr hlk fu5 0 (up2 s7 0 9 r7) H locs ls (by omega) (by unfold fu5; omega) (InvD.up I7 (by decide)) hw (lv_sub hl [0, 2] rfl)
  · refine lv_aload_n hx hb dX9_reads_21 rfl (lv_at hl 1 rfl) ?_
    refine lv_iload_n hx hb dX9_reads_22 rfl (lv_at hl 0 rfl) ?_
    refine pD (j := 8) Z hw  (by decide) q_4_220 rfl rfl rfl rfl dX9_reads_23 (fun H locs hw => ?_)
    refine lv_iconst (v := 0) hx hb dX9_reads_26 (by decide +kernel) ?_
    exact rt_z Z hr hlk hw rfl dX9_reads_27 (pI.mk (by subst es7 er7; exact (lf_t c18 rfl)) (InvD.spot I0.2.2.2.2.2 (InvD.up I7 (by decide))))
abbrev rmX9_badCommand : Room := { frames := 3, cells := 0, slots := 0, locals := 67 }
def f_X9_badCommand (σ : St) : Int32 := (if (σ 0 9) = 0 then (let r71 := f_X9_badSource σ (σ 5 0) (σ 0 9) (σ 5 1); r71) else (if (σ 0 9) = 1 then (let r71 := f_X9_badSource σ (σ 5 0) (σ 0 9) (σ 5 1); r71) else (if (σ 0 9) = 2 then (let r90 := f_X9_badSection σ (σ 5 0) (σ 5 1) (σ 5 2) (σ 5 3); r90) else (if (σ 0 9) = 3 then (let r103 := f_X9_badTimer σ (σ 5 0) (σ 5 1) (σ 5 2); r103) else (if (σ 0 9) = 4 then (let r109 := f_X9_badRaise σ (σ 5 0); r109) else (if (σ 0 9) = 5 then (let r115 := f_X9_badLine σ (σ 5 0); r115) else (if (σ 0 9) = 6 then (let r115 := f_X9_badLine σ (σ 5 0); r115) else (if (σ 0 9) = 7 then (let r121 := f_X9_badSet (σ 5 0) (σ 5 1); r121) else (let r126 := f_X9_badRun (σ 5 0); r126)))))))))
theorem v_X9_badCommand : cvV yX9_badCommand "NestedBellsModel" cX9_badCommand 3 (some (.int)) 0 := ⟨q_6_78, s_77, q_1_10, q_6_79, rfl, by decide +kernel, by decide +kernel, by decide +kernel⟩
set_option maxHeartbeats 4000000 in
set_option maxRecDepth 100000 in
theorem k_X9_badCommand {l : Launch} {D : va_G} {T : Nat → ClassId} {g ad : Nat → Nat} {σ : St} (I0 : InvD σ) : mX l yX9_badCommand cX9_badCommand 3 (some (.int)) rmX9_badCommand D T g 6 ad (cE (dE T ad) σ) [.ref (ad 0)] (qI D 6 ad (dE T ad) (pR (f_X9_badCommand σ) σ)) := by
  refine mX.of (own := "NestedBellsModel") (by decide +kernel) (Nat.le_of_ble_eq_true rfl) rfl ?_
  intro p e s m below meth c A ls H locs Z hr hlk _ hw hl
  have hx := Z.1.1
  have hb := Z.1.2.1
  have hl : lv_has ls 3 [(0, .ref (ad 0))] := hl
  refine lv_aload_n hx hb dX9_badCommand_0 rfl (lv_at hl 0 rfl) ?_
  refine gD (j := 10) (v := .ref (ad 5)) Z hw  (by decide) q_4_222 rfl rfl dX9_badCommand_1 ?_
  refine lv_iconst (v := 0) hx hb dX9_badCommand_4 (by decide +kernel) ?_
  refine aE (v := σ 5 0) Z hw 5 (by decide) rfl (fun _ => rfl) (vp_in_nI (n := 0) (by decide) (by decide)) ((congrArg (σ 5) (nI_clamp (n := 0) (by decide))).trans rfl) dX9_badCommand_5 ?_
  refine lv_istore_n (lv' := [(1, .int (σ 5 0)), (0, .ref (ad 0))]) hx hb dX9_badCommand_6 rfl hl (by decide) rfl (fun ls hl => ?_)
  refine lv_aload_n hx hb dX9_badCommand_7 rfl (lv_at hl 1 rfl) ?_
  refine gD (j := 10) (v := .ref (ad 5)) Z hw  (by decide) q_4_222 rfl rfl dX9_badCommand_8 ?_
  refine lv_iconst (v := 1) hx hb dX9_badCommand_11 (by decide +kernel) ?_
  refine aE (v := σ 5 1) Z hw 5 (by decide) rfl (fun _ => rfl) (vp_in_nI (n := 1) (by decide) (by decide)) ((congrArg (σ 5) (nI_clamp (n := 1) (by decide))).trans rfl) dX9_badCommand_12 ?_
  refine lv_istore_n (lv' := [(2, .int (σ 5 1)), (1, .int (σ 5 0)), (0, .ref (ad 0))]) hx hb dX9_badCommand_13 rfl hl (by decide) rfl (fun ls hl => ?_)
  refine lv_aload_n hx hb dX9_badCommand_14 rfl (lv_at hl 2 rfl) ?_
  refine gD (j := 9) (v := .int (σ 0 9)) Z hw  (by decide) q_4_221 rfl rfl dX9_badCommand_15 ?_
  rcases Decidable.em ((σ 0 9) = 0) with c18_0 | c18_0
  · refine lv_tableIn (off := 46) (tgt := 64) hx hb dX9_badCommand_18 (by rw [c18_0]; decide +kernel) (by rw [c18_0]; decide +kernel) (by rw [c18_0]; rfl) (by decide) ?_
    refine lv_aload_n hx hb dX9_badCommand_64 rfl (lv_at hl 2 rfl) ?_
    refine lv_iload_n hx hb dX9_badCommand_65 rfl (lv_at hl 1 rfl) ?_
    refine lv_aload_n hx hb dX9_badCommand_66 rfl (lv_at hl 2 rfl) ?_
    refine gD (j := 9) (v := .int (σ 0 9)) Z hw  (by decide) q_4_221 rfl rfl dX9_badCommand_67 ?_
    refine lv_iload_n hx hb dX9_badCommand_70 rfl (lv_at hl 0 rfl) ?_
    refine bk_ip (rnV (rest := []) Z hw (k_X9_badSource (p1 := σ 5 0) (p2 := σ 0 9) (p3 := σ 5 1) I0) v_X9_badSource q_5_25 (0) (by decide) rfl rfl rfl rfl hl.1 rfl rfl (Nat.le_of_ble_eq_true rfl) ⟨(Nat.le_of_ble_eq_true rfl), (Nat.le_of_ble_eq_true rfl)⟩ ⟨(Nat.le_of_ble_eq_true rfl), (Nat.le_of_ble_eq_true rfl)⟩ dX9_badCommand_71) hw Z (fun r71 er71 H locs hw => ?_)
    exact rt_i Z hr hlk hw dX9_badCommand_74 ⟨Eq.symm (by subst er71; exact (lf_t c18_0 rfl)), rfl⟩
  · rcases Decidable.em ((σ 0 9) = 1) with c18_1 | c18_1
    · refine lv_tableIn (off := 46) (tgt := 64) hx hb dX9_badCommand_18 (by rw [c18_1]; decide +kernel) (by rw [c18_1]; decide +kernel) (by rw [c18_1]; rfl) (by decide) ?_
      refine lv_aload_n hx hb dX9_badCommand_64 rfl (lv_at hl 2 rfl) ?_
      refine lv_iload_n hx hb dX9_badCommand_65 rfl (lv_at hl 1 rfl) ?_
      refine lv_aload_n hx hb dX9_badCommand_66 rfl (lv_at hl 2 rfl) ?_
      refine gD (j := 9) (v := .int (σ 0 9)) Z hw  (by decide) q_4_221 rfl rfl dX9_badCommand_67 ?_
      refine lv_iload_n hx hb dX9_badCommand_70 rfl (lv_at hl 0 rfl) ?_
      refine bk_ip (rnV (rest := []) Z hw (k_X9_badSource (p1 := σ 5 0) (p2 := σ 0 9) (p3 := σ 5 1) I0) v_X9_badSource q_5_25 (0) (by decide) rfl rfl rfl rfl hl.1 rfl rfl (Nat.le_of_ble_eq_true rfl) ⟨(Nat.le_of_ble_eq_true rfl), (Nat.le_of_ble_eq_true rfl)⟩ ⟨(Nat.le_of_ble_eq_true rfl), (Nat.le_of_ble_eq_true rfl)⟩ dX9_badCommand_71) hw Z (fun r71 er71 H locs hw => ?_)
      exact rt_i Z hr hlk hw dX9_badCommand_74 ⟨Eq.symm (by subst er71; exact (lf_f c18_0 (lf_t c18_1 rfl))), rfl⟩
    · rcases Decidable.em ((σ 0 9) = 2) with c18_2 | c18_2
      · refine lv_tableIn (off := 57) (tgt := 75) hx hb dX9_badCommand_18 (by rw [c18_2]; decide +kernel) (by rw [c18_2]; decide +kernel) (by rw [c18_2]; rfl) (by decide) ?_
        refine lv_aload_n hx hb dX9_badCommand_75 rfl (lv_at hl 2 rfl) ?_
        refine lv_iload_n hx hb dX9_badCommand_76 rfl (lv_at hl 1 rfl) ?_
        refine lv_iload_n hx hb dX9_badCommand_77 rfl (lv_at hl 0 rfl) ?_
        refine lv_aload_n hx hb dX9_badCommand_78 rfl (lv_at hl 2 rfl) ?_
        refine gD (j := 10) (v := .ref (ad 5)) Z hw  (by decide) q_4_222 rfl rfl dX9_badCommand_79 ?_
        refine lv_iconst (v := 2) hx hb dX9_badCommand_82 (by decide +kernel) ?_
        refine aE (v := σ 5 2) Z hw 5 (by decide) rfl (fun _ => rfl) (vp_in_nI (n := 2) (by decide) (by decide)) ((congrArg (σ 5) (nI_clamp (n := 2) (by decide))).trans rfl) dX9_badCommand_83 ?_
        refine lv_aload_n hx hb dX9_badCommand_84 rfl (lv_at hl 2 rfl) ?_
        refine gD (j := 10) (v := .ref (ad 5)) Z hw  (by decide) q_4_222 rfl rfl dX9_badCommand_85 ?_
        refine lv_iconst (v := 3) hx hb dX9_badCommand_88 (by decide +kernel) ?_
        refine aE (v := σ 5 3) Z hw 5 (by decide) rfl (fun _ => rfl) (vp_in_nI (n := 3) (by decide) (by decide)) ((congrArg (σ 5) (nI_clamp (n := 3) (by decide))).trans rfl) dX9_badCommand_89 ?_
        refine bk_ip (rnV (rest := []) Z hw (k_X9_badSection (p1 := σ 5 0) (p2 := σ 5 1) (p3 := σ 5 2) (p4 := σ 5 3) I0) v_X9_badSection q_5_66 (0) (by decide) rfl rfl rfl rfl hl.1 rfl rfl (Nat.le_of_ble_eq_true rfl) ⟨(Nat.le_of_ble_eq_true rfl), (Nat.le_of_ble_eq_true rfl)⟩ ⟨(Nat.le_of_ble_eq_true rfl), (Nat.le_of_ble_eq_true rfl)⟩ dX9_badCommand_90) hw Z (fun r90 er90 H locs hw => ?_)
        exact rt_i Z hr hlk hw dX9_badCommand_93 ⟨Eq.symm (by subst er90; exact (lf_f c18_0 (lf_f c18_1 (lf_t c18_2 rfl)))), rfl⟩
      · rcases Decidable.em ((σ 0 9) = 3) with c18_3 | c18_3
        · refine lv_tableIn (off := 76) (tgt := 94) hx hb dX9_badCommand_18 (by rw [c18_3]; decide +kernel) (by rw [c18_3]; decide +kernel) (by rw [c18_3]; rfl) (by decide) ?_
          refine lv_aload_n hx hb dX9_badCommand_94 rfl (lv_at hl 2 rfl) ?_
          refine lv_iload_n hx hb dX9_badCommand_95 rfl (lv_at hl 1 rfl) ?_
          refine lv_iload_n hx hb dX9_badCommand_96 rfl (lv_at hl 0 rfl) ?_
          refine lv_aload_n hx hb dX9_badCommand_97 rfl (lv_at hl 2 rfl) ?_
          refine gD (j := 10) (v := .ref (ad 5)) Z hw  (by decide) q_4_222 rfl rfl dX9_badCommand_98 ?_
          refine lv_iconst (v := 2) hx hb dX9_badCommand_101 (by decide +kernel) ?_
          refine aE (v := σ 5 2) Z hw 5 (by decide) rfl (fun _ => rfl) (vp_in_nI (n := 2) (by decide) (by decide)) ((congrArg (σ 5) (nI_clamp (n := 2) (by decide))).trans rfl) dX9_badCommand_102 ?_
          refine bk_ip (rnV (rest := []) Z hw (k_X9_badTimer (p1 := σ 5 0) (p2 := σ 5 1) (p3 := σ 5 2) I0) v_X9_badTimer q_5_86 (0) (by decide) rfl rfl rfl rfl hl.1 rfl rfl (Nat.le_of_ble_eq_true rfl) ⟨(Nat.le_of_ble_eq_true rfl), (Nat.le_of_ble_eq_true rfl)⟩ ⟨(Nat.le_of_ble_eq_true rfl), (Nat.le_of_ble_eq_true rfl)⟩ dX9_badCommand_103) hw Z (fun r103 er103 H locs hw => ?_)
          exact rt_i Z hr hlk hw dX9_badCommand_106 ⟨Eq.symm (by subst er103; exact (lf_f c18_0 (lf_f c18_1 (lf_f c18_2 (lf_t c18_3 rfl))))), rfl⟩
        · rcases Decidable.em ((σ 0 9) = 4) with c18_4 | c18_4
          · refine lv_tableIn (off := 89) (tgt := 107) hx hb dX9_badCommand_18 (by rw [c18_4]; decide +kernel) (by rw [c18_4]; decide +kernel) (by rw [c18_4]; rfl) (by decide) ?_
            refine lv_aload_n hx hb dX9_badCommand_107 rfl (lv_at hl 2 rfl) ?_
            refine lv_iload_n hx hb dX9_badCommand_108 rfl (lv_at hl 1 rfl) ?_
            refine bk_ip (rnV (rest := []) Z hw (k_X9_badRaise (p1 := σ 5 0) I0) v_X9_badRaise q_5_98 (0) (by decide) rfl rfl rfl rfl hl.1 rfl rfl (Nat.le_of_ble_eq_true rfl) ⟨(Nat.le_of_ble_eq_true rfl), (Nat.le_of_ble_eq_true rfl)⟩ ⟨(Nat.le_of_ble_eq_true rfl), (Nat.le_of_ble_eq_true rfl)⟩ dX9_badCommand_109) hw Z (fun r109 er109 H locs hw => ?_)
            exact rt_i Z hr hlk hw dX9_badCommand_112 ⟨Eq.symm (by subst er109; exact (lf_f c18_0 (lf_f c18_1 (lf_f c18_2 (lf_f c18_3 (lf_t c18_4 rfl)))))), rfl⟩
          · rcases Decidable.em ((σ 0 9) = 5) with c18_5 | c18_5
            · refine lv_tableIn (off := 95) (tgt := 113) hx hb dX9_badCommand_18 (by rw [c18_5]; decide +kernel) (by rw [c18_5]; decide +kernel) (by rw [c18_5]; rfl) (by decide) ?_
              refine lv_aload_n hx hb dX9_badCommand_113 rfl (lv_at hl 2 rfl) ?_
              refine lv_iload_n hx hb dX9_badCommand_114 rfl (lv_at hl 1 rfl) ?_
              refine bk_ip (rnV (rest := []) Z hw (k_X9_badLine (p1 := σ 5 0) I0) v_X9_badLine q_5_117 (0) (by decide) rfl rfl rfl rfl hl.1 rfl rfl (Nat.le_of_ble_eq_true rfl) ⟨(Nat.le_of_ble_eq_true rfl), (Nat.le_of_ble_eq_true rfl)⟩ ⟨(Nat.le_of_ble_eq_true rfl), (Nat.le_of_ble_eq_true rfl)⟩ dX9_badCommand_115) hw Z (fun r115 er115 H locs hw => ?_)
              exact rt_i Z hr hlk hw dX9_badCommand_118 ⟨Eq.symm (by subst er115; exact (lf_f c18_0 (lf_f c18_1 (lf_f c18_2 (lf_f c18_3 (lf_f c18_4 (lf_t c18_5 rfl))))))), rfl⟩
            · rcases Decidable.em ((σ 0 9) = 6) with c18_6 | c18_6
              · refine lv_tableIn (off := 95) (tgt := 113) hx hb dX9_badCommand_18 (by rw [c18_6]; decide +kernel) (by rw [c18_6]; decide +kernel) (by rw [c18_6]; rfl) (by decide) ?_
                refine lv_aload_n hx hb dX9_badCommand_113 rfl (lv_at hl 2 rfl) ?_
                refine lv_iload_n hx hb dX9_badCommand_114 rfl (lv_at hl 1 rfl) ?_
                refine bk_ip (rnV (rest := []) Z hw (k_X9_badLine (p1 := σ 5 0) I0) v_X9_badLine q_5_117 (0) (by decide) rfl rfl rfl rfl hl.1 rfl rfl (Nat.le_of_ble_eq_true rfl) ⟨(Nat.le_of_ble_eq_true rfl), (Nat.le_of_ble_eq_true rfl)⟩ ⟨(Nat.le_of_ble_eq_true rfl), (Nat.le_of_ble_eq_true rfl)⟩ dX9_badCommand_115) hw Z (fun r115 er115 H locs hw => ?_)
                exact rt_i Z hr hlk hw dX9_badCommand_118 ⟨Eq.symm (by subst er115; exact (lf_f c18_0 (lf_f c18_1 (lf_f c18_2 (lf_f c18_3 (lf_f c18_4 (lf_f c18_5 (lf_t c18_6 rfl)))))))), rfl⟩
              · rcases Decidable.em ((σ 0 9) = 7) with c18_7 | c18_7
                · refine lv_tableIn (off := 101) (tgt := 119) hx hb dX9_badCommand_18 (by rw [c18_7]; decide +kernel) (by rw [c18_7]; decide +kernel) (by rw [c18_7]; rfl) (by decide) ?_
                  refine lv_iload_n hx hb dX9_badCommand_119 rfl (lv_at hl 1 rfl) ?_
                  refine lv_iload_n hx hb dX9_badCommand_120 rfl (lv_at hl 0 rfl) ?_
                  refine bk_ip (rnS (rest := []) Z hw (k_X9_badSet (p1 := σ 5 0) (p2 := σ 5 1) ) v_X9_badSet rfl q_5_129 hl.1 rfl rfl (Nat.le_of_ble_eq_true rfl) ⟨(Nat.le_of_ble_eq_true rfl), (Nat.le_of_ble_eq_true rfl)⟩ ⟨(Nat.le_of_ble_eq_true rfl), (Nat.le_of_ble_eq_true rfl)⟩ dX9_badCommand_121) hw Z (fun r121 er121 H locs hw => ?_)
                  exact rt_i Z hr hlk hw dX9_badCommand_124 ⟨Eq.symm (by subst er121; exact (lf_f c18_0 (lf_f c18_1 (lf_f c18_2 (lf_f c18_3 (lf_f c18_4 (lf_f c18_5 (lf_f c18_6 (lf_t c18_7 rfl))))))))), rfl⟩
                · refine lv_tableOut (tgt := 125) hx hb dX9_badCommand_18 (by have t0 := lv_neT (a := 0) c18_0 (by decide +kernel); have t1 := lv_neT (a := 1) c18_1 (by decide +kernel); have t2 := lv_neT (a := 2) c18_2 (by decide +kernel); have t3 := lv_neT (a := 3) c18_3 (by decide +kernel); have t4 := lv_neT (a := 4) c18_4 (by decide +kernel); have t5 := lv_neT (a := 5) c18_5 (by decide +kernel); have t6 := lv_neT (a := 6) c18_6 (by decide +kernel); have t7 := lv_neT (a := 7) c18_7 (by decide +kernel); omega) (by decide) ?_
                  refine lv_iload_n hx hb dX9_badCommand_125 rfl (lv_at hl 1 rfl) ?_
                  refine bk_ip (rnS (rest := []) Z hw (k_X9_badRun (p1 := σ 5 0) ) v_X9_badRun rfl q_5_140 hl.1 rfl rfl (Nat.le_of_ble_eq_true rfl) ⟨(Nat.le_of_ble_eq_true rfl), (Nat.le_of_ble_eq_true rfl)⟩ ⟨(Nat.le_of_ble_eq_true rfl), (Nat.le_of_ble_eq_true rfl)⟩ dX9_badCommand_126) hw Z (fun r126 er126 H locs hw => ?_)
                  exact rt_i Z hr hlk hw dX9_badCommand_129 ⟨Eq.symm (by subst er126; exact (lf_f c18_0 (lf_f c18_1 (lf_f c18_2 (lf_f c18_3 (lf_f c18_4 (lf_f c18_5 (lf_f c18_6 (lf_f c18_7 rfl))))))))), rfl⟩
theorem bc_01 {σ : St} (I : InvD σ) (h : f_X9_badCommand σ = 0) (c : σ 0 9 = 0 ∨ σ 0 9 = 1) : (σ 1 8).toInt < 12 := by
  unfold f_X9_badCommand at h
  rcases c with c | c <;> rw [c] at h
  · rw [if_pos rfl] at h
    exact as_M (v := 0) I h (by decide) (by decide)
  · rw [if_neg (by decide), if_pos rfl] at h
    exact as_M (v := 0) I h (by decide) (by decide)
theorem bc_2 {σ : St} (I : InvD σ) (h : f_X9_badCommand σ = 0) (c : σ 0 9 = 2) : (0 ≤ (σ 5 0).toInt ∧ (σ 5 0).toInt < 12) ∧ (σ 1 (ix (σ 5 0) + 7)).toInt < 2 := by
  unfold f_X9_badCommand at h
  rw [c, if_neg (by decide), if_neg (by decide), if_pos rfl] at h
  exact bs_S I h (by decide)
theorem bc_3 {σ : St} (I : InvD σ) (h : f_X9_badCommand σ = 0) (c : σ 0 9 = 3) : 0 ≤ (σ 5 0).toInt ∧ (σ 5 0).toInt < 12 := by
  unfold f_X9_badCommand at h
  rw [c, if_neg (by decide), if_neg (by decide), if_neg (by decide), if_pos rfl] at h
  exact bt_S I h (by decide)
theorem bc_4 {σ : St} (I : InvD σ) (h : f_X9_badCommand σ = 0) (c : σ 0 9 = 4) : 0 ≤ (σ 5 0).toInt ∧ (σ 5 0).toInt < 12 := by
  unfold f_X9_badCommand at h
  rw [c, if_neg (by decide), if_neg (by decide), if_neg (by decide), if_neg (by decide), if_pos rfl] at h
  exact br_S (v := 0) I h (by decide) (by decide)
theorem bc_5 {σ : St} (I : InvD σ) (h : f_X9_badCommand σ = 0) (c : σ 0 9 = 5 ∨ σ 0 9 = 6) : 0 ≤ (σ 5 0).toInt ∧ (σ 5 0).toInt < 12 := by
  unfold f_X9_badCommand at h
  rcases c with c | c <;> rw [c] at h
  · rw [if_neg (by decide), if_neg (by decide), if_neg (by decide), if_neg (by decide), if_neg (by decide), if_pos rfl] at h
    exact bl_S (v := 0) I h (by decide) (by decide)
  · rw [if_neg (by decide), if_neg (by decide), if_neg (by decide), if_neg (by decide), if_neg (by decide), if_neg (by decide), if_pos rfl] at h
    exact bl_S (v := 0) I h (by decide) (by decide)
theorem bc_7 {σ : St} (h : f_X9_badCommand σ = 0) (c : σ 0 9 = 7) : 0 ≤ (σ 5 0).toInt ∧ (σ 5 0).toInt < 4 := by
  unfold f_X9_badCommand at h
  rw [c, if_neg (by decide), if_neg (by decide), if_neg (by decide), if_neg (by decide), if_neg (by decide), if_neg (by decide), if_neg (by decide), if_pos rfl] at h
  exact set_4 (v := 0) h (by decide) (by decide)
theorem bc_8 {σ : St} (h : f_X9_badCommand σ = 0) (c0 : ¬ σ 0 9 = 0) (c1 : ¬ σ 0 9 = 1) (c2 : ¬ σ 0 9 = 2) (c3 : ¬ σ 0 9 = 3) (c4 : ¬ σ 0 9 = 4) (c5 : ¬ σ 0 9 = 5) (c6 : ¬ σ 0 9 = 6) (c7 : ¬ σ 0 9 = 7) : (σ 5 0).toInt ≤ 500 := by
  unfold f_X9_badCommand at h
  rw [if_neg c0, if_neg c1, if_neg c2, if_neg c3, if_neg c4, if_neg c5, if_neg c6, if_neg c7] at h
  exact run_5 (v := 0) h (by decide) (by decide)

abbrev rmX9_does : Room := { frames := 9, cells := 0, slots := 0, locals := 201 }
def f_X9_does (σ : St) : Int32 × St := (if (σ 0 9) = 0 then (let r71 := (f_X9_comes σ (σ 5 0) (σ 0 9) (σ 5 1)).1; let s71 := (f_X9_comes σ (σ 5 0) (σ 0 9) (σ 5 1)).2; (r71, s71)) else (if (σ 0 9) = 1 then (let r71 := (f_X9_comes σ (σ 5 0) (σ 0 9) (σ 5 1)).1; let s71 := (f_X9_comes σ (σ 5 0) (σ 0 9) (σ 5 1)).2; (r71, s71)) else (if (σ 0 9) = 2 then (let r90 := (f_X9_comesSection σ (σ 5 0) (σ 5 1) (σ 5 2) (σ 5 3)).1; let s90 := (f_X9_comesSection σ (σ 5 0) (σ 5 1) (σ 5 2) (σ 5 3)).2; (r90, s90)) else (if (σ 0 9) = 3 then (let r103 := (f_X9_times σ (σ 5 0) (σ 5 1) (σ 5 2)).1; let s103 := (f_X9_times σ (σ 5 0) (σ 5 1) (σ 5 2)).2; (r103, s103)) else (if (σ 0 9) = 4 then (let r109 := (f_X9_raises σ (σ 5 0)).1; let s109 := (f_X9_raises σ (σ 5 0)).2; (r109, s109)) else (if (σ 0 9) = 5 then (let v128 : Int32 := (if (σ 0 9) = 5 then 1 else 0); (let r128 := (f_X9_lines σ (σ 5 0) v128).1; let s128 := (f_X9_lines σ (σ 5 0) v128).2; (r128, s128))) else (if (σ 0 9) = 6 then (let v128 : Int32 := (if (σ 0 9) = 5 then 1 else 0); (let r128 := (f_X9_lines σ (σ 5 0) v128).1; let s128 := (f_X9_lines σ (σ 5 0) v128).2; (r128, s128))) else (if (σ 0 9) = 7 then (let r135 := (f_X9_sets σ (σ 5 0) (σ 5 1)).1; let s135 := (f_X9_sets σ (σ 5 0) (σ 5 1)).2; (r135, s135)) else (let r141 := (f_X9_runs σ (σ 5 0)).1; let s141 := (f_X9_runs σ (σ 5 0)).2; (r141, s141))))))))))
theorem v_X9_does : cvV yX9_does "NestedBellsModel" cX9_does 3 (some (.int)) 0 := ⟨q_6_82, s_78, q_1_10, q_6_83, rfl, by decide +kernel, by decide +kernel, by decide +kernel⟩
set_option maxHeartbeats 4000000 in
set_option maxRecDepth 100000 in
theorem k_X9_does {l : Launch} {D : va_G} {T : Nat → ClassId} {g ad : Nat → Nat} {σ : St} (I0 : InvD σ) (hB : f_X9_badCommand σ = 0) : mX l yX9_does cX9_does 3 (some (.int)) rmX9_does D T g 6 ad (cE (dE T ad) σ) [.ref (ad 0)] (qI D 6 ad (dE T ad) (pI (f_X9_does σ) InvD)) := by
  refine mX.of (own := "NestedBellsModel") (by decide +kernel) (Nat.le_of_ble_eq_true rfl) rfl ?_
  intro p e s m below meth c A ls H locs Z hr hlk _ hw hl
  have hx := Z.1.1
  have hb := Z.1.2.1
  have hl : lv_has ls 3 [(0, .ref (ad 0))] := hl
  refine lv_aload_n hx hb dX9_does_0 rfl (lv_at hl 0 rfl) ?_
  refine gD (j := 10) (v := .ref (ad 5)) Z hw  (by decide) q_4_222 rfl rfl dX9_does_1 ?_
  refine lv_iconst (v := 0) hx hb dX9_does_4 (by decide +kernel) ?_
  refine aE (v := σ 5 0) Z hw 5 (by decide) rfl (fun _ => rfl) (vp_in_nI (n := 0) (by decide) (by decide)) ((congrArg (σ 5) (nI_clamp (n := 0) (by decide))).trans rfl) dX9_does_5 ?_
  refine lv_istore_n (lv' := [(1, .int (σ 5 0)), (0, .ref (ad 0))]) hx hb dX9_does_6 rfl hl (by decide) rfl (fun ls hl => ?_)
  refine lv_aload_n hx hb dX9_does_7 rfl (lv_at hl 1 rfl) ?_
  refine gD (j := 10) (v := .ref (ad 5)) Z hw  (by decide) q_4_222 rfl rfl dX9_does_8 ?_
  refine lv_iconst (v := 1) hx hb dX9_does_11 (by decide +kernel) ?_
  refine aE (v := σ 5 1) Z hw 5 (by decide) rfl (fun _ => rfl) (vp_in_nI (n := 1) (by decide) (by decide)) ((congrArg (σ 5) (nI_clamp (n := 1) (by decide))).trans rfl) dX9_does_12 ?_
  refine lv_istore_n (lv' := [(2, .int (σ 5 1)), (1, .int (σ 5 0)), (0, .ref (ad 0))]) hx hb dX9_does_13 rfl hl (by decide) rfl (fun ls hl => ?_)
  refine lv_aload_n hx hb dX9_does_14 rfl (lv_at hl 2 rfl) ?_
  refine gD (j := 9) (v := .int (σ 0 9)) Z hw  (by decide) q_4_221 rfl rfl dX9_does_15 ?_
  rcases Decidable.em ((σ 0 9) = 0) with c18_0 | c18_0
  · refine lv_tableIn (off := 46) (tgt := 64) hx hb dX9_does_18 (by rw [c18_0]; decide +kernel) (by rw [c18_0]; decide +kernel) (by rw [c18_0]; rfl) (by decide) ?_
    refine lv_aload_n hx hb dX9_does_64 rfl (lv_at hl 2 rfl) ?_
    refine lv_iload_n hx hb dX9_does_65 rfl (lv_at hl 1 rfl) ?_
    refine lv_aload_n hx hb dX9_does_66 rfl (lv_at hl 2 rfl) ?_
    refine gD (j := 9) (v := .int (σ 0 9)) Z hw  (by decide) q_4_221 rfl rfl dX9_does_67 ?_
    refine lv_iload_n hx hb dX9_does_70 rfl (lv_at hl 0 rfl) ?_
    refine bk_i (rnV (rest := []) Z hw (k_X9_comes (p1 := σ 5 0) (p2 := σ 0 9) (p3 := σ 5 1) I0 (bc_01 I0 hB (by first | exact Or.inl c18_0 | exact Or.inr c18_1))) v_X9_comes q_5_36 (0) (by decide) rfl rfl rfl rfl hl.1 rfl rfl (Nat.le_of_ble_eq_true rfl) ⟨(Nat.le_of_ble_eq_true rfl), (Nat.le_of_ble_eq_true rfl)⟩ ⟨(Nat.le_of_ble_eq_true rfl), (Nat.le_of_ble_eq_true rfl)⟩ dX9_does_71) hw Z (fun r71 s71 H locs hp hw => ?_)
    obtain ⟨er71, es71, I71⟩ := hp
    exact rt_i Z hr hlk hw dX9_does_74 (pI.mk (by subst es71 er71; exact (lf_t c18_0 rfl)) I71)
  · rcases Decidable.em ((σ 0 9) = 1) with c18_1 | c18_1
    · refine lv_tableIn (off := 46) (tgt := 64) hx hb dX9_does_18 (by rw [c18_1]; decide +kernel) (by rw [c18_1]; decide +kernel) (by rw [c18_1]; rfl) (by decide) ?_
      refine lv_aload_n hx hb dX9_does_64 rfl (lv_at hl 2 rfl) ?_
      refine lv_iload_n hx hb dX9_does_65 rfl (lv_at hl 1 rfl) ?_
      refine lv_aload_n hx hb dX9_does_66 rfl (lv_at hl 2 rfl) ?_
      refine gD (j := 9) (v := .int (σ 0 9)) Z hw  (by decide) q_4_221 rfl rfl dX9_does_67 ?_
      refine lv_iload_n hx hb dX9_does_70 rfl (lv_at hl 0 rfl) ?_
      refine bk_i (rnV (rest := []) Z hw (k_X9_comes (p1 := σ 5 0) (p2 := σ 0 9) (p3 := σ 5 1) I0 (bc_01 I0 hB (by first | exact Or.inl c18_0 | exact Or.inr c18_1))) v_X9_comes q_5_36 (0) (by decide) rfl rfl rfl rfl hl.1 rfl rfl (Nat.le_of_ble_eq_true rfl) ⟨(Nat.le_of_ble_eq_true rfl), (Nat.le_of_ble_eq_true rfl)⟩ ⟨(Nat.le_of_ble_eq_true rfl), (Nat.le_of_ble_eq_true rfl)⟩ dX9_does_71) hw Z (fun r71 s71 H locs hp hw => ?_)
      obtain ⟨er71, es71, I71⟩ := hp
      exact rt_i Z hr hlk hw dX9_does_74 (pI.mk (by subst es71 er71; exact (lf_f c18_0 (lf_t c18_1 rfl))) I71)
    · rcases Decidable.em ((σ 0 9) = 2) with c18_2 | c18_2
      · refine lv_tableIn (off := 57) (tgt := 75) hx hb dX9_does_18 (by rw [c18_2]; decide +kernel) (by rw [c18_2]; decide +kernel) (by rw [c18_2]; rfl) (by decide) ?_
        have hz := bc_2 I0 hB c18_2
        refine lv_aload_n hx hb dX9_does_75 rfl (lv_at hl 2 rfl) ?_
        refine lv_iload_n hx hb dX9_does_76 rfl (lv_at hl 1 rfl) ?_
        refine lv_iload_n hx hb dX9_does_77 rfl (lv_at hl 0 rfl) ?_
        refine lv_aload_n hx hb dX9_does_78 rfl (lv_at hl 2 rfl) ?_
        refine gD (j := 10) (v := .ref (ad 5)) Z hw  (by decide) q_4_222 rfl rfl dX9_does_79 ?_
        refine lv_iconst (v := 2) hx hb dX9_does_82 (by decide +kernel) ?_
        refine aE (v := σ 5 2) Z hw 5 (by decide) rfl (fun _ => rfl) (vp_in_nI (n := 2) (by decide) (by decide)) ((congrArg (σ 5) (nI_clamp (n := 2) (by decide))).trans rfl) dX9_does_83 ?_
        refine lv_aload_n hx hb dX9_does_84 rfl (lv_at hl 2 rfl) ?_
        refine gD (j := 10) (v := .ref (ad 5)) Z hw  (by decide) q_4_222 rfl rfl dX9_does_85 ?_
        refine lv_iconst (v := 3) hx hb dX9_does_88 (by decide +kernel) ?_
        refine aE (v := σ 5 3) Z hw 5 (by decide) rfl (fun _ => rfl) (vp_in_nI (n := 3) (by decide) (by decide)) ((congrArg (σ 5) (nI_clamp (n := 3) (by decide))).trans rfl) dX9_does_89 ?_
        refine bk_i (rnV (rest := []) Z hw (k_X9_comesSection (p1 := σ 5 0) (p2 := σ 5 1) (p3 := σ 5 2) (p4 := σ 5 3) I0 hz.1 hz.2) v_X9_comesSection q_5_74 (0) (by decide) rfl rfl rfl rfl hl.1 rfl rfl (Nat.le_of_ble_eq_true rfl) ⟨(Nat.le_of_ble_eq_true rfl), (Nat.le_of_ble_eq_true rfl)⟩ ⟨(Nat.le_of_ble_eq_true rfl), (Nat.le_of_ble_eq_true rfl)⟩ dX9_does_90) hw Z (fun r90 s90 H locs hp hw => ?_)
        obtain ⟨er90, es90, I90⟩ := hp
        exact rt_i Z hr hlk hw dX9_does_93 (pI.mk (by subst es90 er90; exact (lf_f c18_0 (lf_f c18_1 (lf_t c18_2 rfl)))) I90)
      · rcases Decidable.em ((σ 0 9) = 3) with c18_3 | c18_3
        · refine lv_tableIn (off := 76) (tgt := 94) hx hb dX9_does_18 (by rw [c18_3]; decide +kernel) (by rw [c18_3]; decide +kernel) (by rw [c18_3]; rfl) (by decide) ?_
          refine lv_aload_n hx hb dX9_does_94 rfl (lv_at hl 2 rfl) ?_
          refine lv_iload_n hx hb dX9_does_95 rfl (lv_at hl 1 rfl) ?_
          refine lv_iload_n hx hb dX9_does_96 rfl (lv_at hl 0 rfl) ?_
          refine lv_aload_n hx hb dX9_does_97 rfl (lv_at hl 2 rfl) ?_
          refine gD (j := 10) (v := .ref (ad 5)) Z hw  (by decide) q_4_222 rfl rfl dX9_does_98 ?_
          refine lv_iconst (v := 2) hx hb dX9_does_101 (by decide +kernel) ?_
          refine aE (v := σ 5 2) Z hw 5 (by decide) rfl (fun _ => rfl) (vp_in_nI (n := 2) (by decide) (by decide)) ((congrArg (σ 5) (nI_clamp (n := 2) (by decide))).trans rfl) dX9_does_102 ?_
          refine bk_i (rnV (rest := []) Z hw (k_X9_times (p1 := σ 5 0) (p2 := σ 5 1) (p3 := σ 5 2) I0 (bc_3 I0 hB c18_3)) v_X9_times q_5_90 (0) (by decide) rfl rfl rfl rfl hl.1 rfl rfl (Nat.le_of_ble_eq_true rfl) ⟨(Nat.le_of_ble_eq_true rfl), (Nat.le_of_ble_eq_true rfl)⟩ ⟨(Nat.le_of_ble_eq_true rfl), (Nat.le_of_ble_eq_true rfl)⟩ dX9_does_103) hw Z (fun r103 s103 H locs hp hw => ?_)
          obtain ⟨er103, es103, I103⟩ := hp
          exact rt_i Z hr hlk hw dX9_does_106 (pI.mk (by subst es103 er103; exact (lf_f c18_0 (lf_f c18_1 (lf_f c18_2 (lf_t c18_3 rfl))))) I103)
        · rcases Decidable.em ((σ 0 9) = 4) with c18_4 | c18_4
          · refine lv_tableIn (off := 89) (tgt := 107) hx hb dX9_does_18 (by rw [c18_4]; decide +kernel) (by rw [c18_4]; decide +kernel) (by rw [c18_4]; rfl) (by decide) ?_
            refine lv_aload_n hx hb dX9_does_107 rfl (lv_at hl 2 rfl) ?_
            refine lv_iload_n hx hb dX9_does_108 rfl (lv_at hl 1 rfl) ?_
            refine bk_i (rnV (rest := []) Z hw (k_X9_raises (p1 := σ 5 0) I0 (bc_4 I0 hB c18_4)) v_X9_raises q_5_105 (0) (by decide) rfl rfl rfl rfl hl.1 rfl rfl (Nat.le_of_ble_eq_true rfl) ⟨(Nat.le_of_ble_eq_true rfl), (Nat.le_of_ble_eq_true rfl)⟩ ⟨(Nat.le_of_ble_eq_true rfl), (Nat.le_of_ble_eq_true rfl)⟩ dX9_does_109) hw Z (fun r109 s109 H locs hp hw => ?_)
            obtain ⟨er109, es109, I109⟩ := hp
            exact rt_i Z hr hlk hw dX9_does_112 (pI.mk (by subst es109 er109; exact (lf_f c18_0 (lf_f c18_1 (lf_f c18_2 (lf_f c18_3 (lf_t c18_4 rfl)))))) I109)
          · rcases Decidable.em ((σ 0 9) = 5) with c18_5 | c18_5
            · refine lv_tableIn (off := 95) (tgt := 113) hx hb dX9_does_18 (by rw [c18_5]; decide +kernel) (by rw [c18_5]; decide +kernel) (by rw [c18_5]; rfl) (by decide) ?_
              refine lv_aload_n hx hb dX9_does_113 rfl (lv_at hl 2 rfl) ?_
              refine lv_iload_n hx hb dX9_does_114 rfl (lv_at hl 1 rfl) ?_
              refine lv_aload_n hx hb dX9_does_115 rfl (lv_at hl 2 rfl) ?_
              refine gD (j := 9) (v := .int (σ 0 9)) Z hw  (by decide) q_4_221 rfl rfl dX9_does_116 ?_
              refine lv_iconst (v := 5) hx hb dX9_does_119 (by decide +kernel) ?_
              have hj128 : ∀ (v128 : Int32) (H : Heap) (locs : List Loc) (ls : Array Slot), ((if (σ 0 9) = 5 then 1 else 0) : Int32) = v128 → wo D A s.heap 6 ad (cE (dE T ad) σ) H locs → lv_has ls 3 [] → W p l e rmX9_does s m [.ref (ad 0)].toArray below meth c H locs 0 0 (MQ below (qI D 6 ad (dE T ad) (pI (f_X9_does σ) InvD) A) [.ref (ad 0)].toArray s rmX9_does.cells rmX9_does.slots A) (F0 m 128 ls [.int v128, .int (σ 5 0), .ref (ad 0)]) := by
                intro v128 H locs ls ev128 hw hl
                refine bk_i (rnV (rest := []) Z hw (k_X9_lines (p1 := σ 5 0) (p2 := v128) I0 (zb01 ev128) (bc_5 I0 hB (by first | exact Or.inl c18_5 | exact Or.inr c18_6))) v_X9_lines q_5_121 (0) (by decide) rfl rfl rfl rfl hl.1 rfl rfl (Nat.le_of_ble_eq_true rfl) ⟨(Nat.le_of_ble_eq_true rfl), (Nat.le_of_ble_eq_true rfl)⟩ ⟨(Nat.le_of_ble_eq_true rfl), (Nat.le_of_ble_eq_true rfl)⟩ dX9_does_128) hw Z (fun r128 s128 H locs hp hw => ?_)
                obtain ⟨er128, es128, I128⟩ := hp
                exact rt_i Z hr hlk hw dX9_does_131 (pI.mk (by subst es128 er128 ev128; exact (lf_f c18_0 (lf_f c18_1 (lf_f c18_2 (lf_f c18_3 (lf_f c18_4 (lf_t c18_5 rfl))))))) I128)
              refine lv_icmp_ne (tgt := 127) hx hb dX9_does_120 (by decide) (fun c120 => ?_) (fun c120 => ?_)
              · refine lv_iconst (v := 0) hx hb dX9_does_127 (by decide +kernel) ?_
                exact hj128 _ H locs ls (Eq.symm (lf_f c120 rfl)) hw (lv_sub hl [] rfl)
              · refine lv_iconst (v := 1) hx hb dX9_does_123 (by decide +kernel) ?_
                refine lv_goto (tgt := 128) hx hb dX9_does_124 (by decide) ?_
                exact hj128 _ H locs ls (Eq.symm (lf_t c120 rfl)) hw (lv_sub hl [] rfl)
            · rcases Decidable.em ((σ 0 9) = 6) with c18_6 | c18_6
              · refine lv_tableIn (off := 95) (tgt := 113) hx hb dX9_does_18 (by rw [c18_6]; decide +kernel) (by rw [c18_6]; decide +kernel) (by rw [c18_6]; rfl) (by decide) ?_
                refine lv_aload_n hx hb dX9_does_113 rfl (lv_at hl 2 rfl) ?_
                refine lv_iload_n hx hb dX9_does_114 rfl (lv_at hl 1 rfl) ?_
                refine lv_aload_n hx hb dX9_does_115 rfl (lv_at hl 2 rfl) ?_
                refine gD (j := 9) (v := .int (σ 0 9)) Z hw  (by decide) q_4_221 rfl rfl dX9_does_116 ?_
                refine lv_iconst (v := 5) hx hb dX9_does_119 (by decide +kernel) ?_
                have hj128 : ∀ (v128 : Int32) (H : Heap) (locs : List Loc) (ls : Array Slot), ((if (σ 0 9) = 5 then 1 else 0) : Int32) = v128 → wo D A s.heap 6 ad (cE (dE T ad) σ) H locs → lv_has ls 3 [] → W p l e rmX9_does s m [.ref (ad 0)].toArray below meth c H locs 0 0 (MQ below (qI D 6 ad (dE T ad) (pI (f_X9_does σ) InvD) A) [.ref (ad 0)].toArray s rmX9_does.cells rmX9_does.slots A) (F0 m 128 ls [.int v128, .int (σ 5 0), .ref (ad 0)]) := by
                  intro v128 H locs ls ev128 hw hl
                  refine bk_i (rnV (rest := []) Z hw (k_X9_lines (p1 := σ 5 0) (p2 := v128) I0 (zb01 ev128) (bc_5 I0 hB (by first | exact Or.inl c18_5 | exact Or.inr c18_6))) v_X9_lines q_5_121 (0) (by decide) rfl rfl rfl rfl hl.1 rfl rfl (Nat.le_of_ble_eq_true rfl) ⟨(Nat.le_of_ble_eq_true rfl), (Nat.le_of_ble_eq_true rfl)⟩ ⟨(Nat.le_of_ble_eq_true rfl), (Nat.le_of_ble_eq_true rfl)⟩ dX9_does_128) hw Z (fun r128 s128 H locs hp hw => ?_)
                  obtain ⟨er128, es128, I128⟩ := hp
                  exact rt_i Z hr hlk hw dX9_does_131 (pI.mk (by subst es128 er128 ev128; exact (lf_f c18_0 (lf_f c18_1 (lf_f c18_2 (lf_f c18_3 (lf_f c18_4 (lf_f c18_5 (lf_t c18_6 rfl)))))))) I128)
                refine lv_icmp_ne (tgt := 127) hx hb dX9_does_120 (by decide) (fun c120 => ?_) (fun c120 => ?_)
                · refine lv_iconst (v := 0) hx hb dX9_does_127 (by decide +kernel) ?_
                  exact hj128 _ H locs ls (Eq.symm (lf_f c120 rfl)) hw (lv_sub hl [] rfl)
                · refine lv_iconst (v := 1) hx hb dX9_does_123 (by decide +kernel) ?_
                  refine lv_goto (tgt := 128) hx hb dX9_does_124 (by decide) ?_
                  exact hj128 _ H locs ls (Eq.symm (lf_t c120 rfl)) hw (lv_sub hl [] rfl)
              · rcases Decidable.em ((σ 0 9) = 7) with c18_7 | c18_7
                · refine lv_tableIn (off := 114) (tgt := 132) hx hb dX9_does_18 (by rw [c18_7]; decide +kernel) (by rw [c18_7]; decide +kernel) (by rw [c18_7]; rfl) (by decide) ?_
                  refine lv_aload_n hx hb dX9_does_132 rfl (lv_at hl 2 rfl) ?_
                  refine lv_iload_n hx hb dX9_does_133 rfl (lv_at hl 1 rfl) ?_
                  refine lv_iload_n hx hb dX9_does_134 rfl (lv_at hl 0 rfl) ?_
                  refine bk_i (rnV (rest := []) Z hw (k_X9_sets (p1 := σ 5 0) (p2 := σ 5 1) I0 (bc_7 hB c18_7)) v_X9_sets q_5_132 (0) (by decide) rfl rfl rfl rfl hl.1 rfl rfl (Nat.le_of_ble_eq_true rfl) ⟨(Nat.le_of_ble_eq_true rfl), (Nat.le_of_ble_eq_true rfl)⟩ ⟨(Nat.le_of_ble_eq_true rfl), (Nat.le_of_ble_eq_true rfl)⟩ dX9_does_135) hw Z (fun r135 s135 H locs hp hw => ?_)
                  obtain ⟨er135, es135, I135⟩ := hp
                  exact rt_i Z hr hlk hw dX9_does_138 (pI.mk (by subst es135 er135; exact (lf_f c18_0 (lf_f c18_1 (lf_f c18_2 (lf_f c18_3 (lf_f c18_4 (lf_f c18_5 (lf_f c18_6 (lf_t c18_7 rfl))))))))) I135)
                · refine lv_tableOut (tgt := 139) hx hb dX9_does_18 (by have t0 := lv_neT (a := 0) c18_0 (by decide +kernel); have t1 := lv_neT (a := 1) c18_1 (by decide +kernel); have t2 := lv_neT (a := 2) c18_2 (by decide +kernel); have t3 := lv_neT (a := 3) c18_3 (by decide +kernel); have t4 := lv_neT (a := 4) c18_4 (by decide +kernel); have t5 := lv_neT (a := 5) c18_5 (by decide +kernel); have t6 := lv_neT (a := 6) c18_6 (by decide +kernel); have t7 := lv_neT (a := 7) c18_7 (by decide +kernel); omega) (by decide) ?_
                  refine lv_aload_n hx hb dX9_does_139 rfl (lv_at hl 2 rfl) ?_
                  refine lv_iload_n hx hb dX9_does_140 rfl (lv_at hl 1 rfl) ?_
                  refine bk_i (rnV (rest := []) Z hw (k_X9_runs (p1 := σ 5 0) I0 (bc_8 hB c18_0 c18_1 c18_2 c18_3 c18_4 c18_5 c18_6 c18_7)) v_X9_runs q_5_143 (0) (by decide) rfl rfl rfl rfl hl.1 rfl rfl (Nat.le_of_ble_eq_true rfl) ⟨(Nat.le_of_ble_eq_true rfl), (Nat.le_of_ble_eq_true rfl)⟩ ⟨(Nat.le_of_ble_eq_true rfl), (Nat.le_of_ble_eq_true rfl)⟩ dX9_does_141) hw Z (fun r141 s141 H locs hp hw => ?_)
                  obtain ⟨er141, es141, I141⟩ := hp
                  exact rt_i Z hr hlk hw dX9_does_144 (pI.mk (by subst es141 er141; exact (lf_f c18_0 (lf_f c18_1 (lf_f c18_2 (lf_f c18_3 (lf_f c18_4 (lf_f c18_5 (lf_f c18_6 (lf_f c18_7 rfl))))))))) I141)
