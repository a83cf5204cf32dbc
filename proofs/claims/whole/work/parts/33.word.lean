def fu17 : Nat := 17
theorem cmd_v {g : Nat → Nat} {x : Int32} (h : 0 ≤ x.toInt ∧ x.toInt < 9) : cmdV g x = .ref (g x.toNatClampNeg) := if_pos h
theorem cmd_n {x : Int32} (h : 0 ≤ x.toInt ∧ x.toInt < 9) : x.toNatClampNeg < 9 := by
  have := tnc h.1
  omega
def enN (i : Nat) : Int32 := ([2, 2, 4, 3, 1, 1, 1, 2, 1] : List Int32).getD i 0
theorem enN_4 : ∀ i, i < 9 → (enN i).toInt ≤ 4 := by decide +kernel
theorem pCm {p : Program} {l : Launch} {e : Env} {R : Room} {s : State} {m : MethodId} {args : Array Value} {below : List Frame} {meth : Method} {c : Code} {H : Heap} {locs : List Loc} {cells slots : Nat} {Qw : State → Prop} {cc : ByteArray} {pc nL : Nat} {ls : Array Slot} {rest : List Value} {own : String} {D : va_G} {T : Nat → ClassId} {g : Nat → Nat} {A : Nat → Prop} {ad : Nat → Nat} {σ : St} {idx k : Nat} (Z : en p m c cc nL s args own D T g A) (hw : wo D A s.heap 3 ad (cE (xE g T ad) σ) H locs) (hq : Cond.fieldLink own idx "NestedBells$CommandText" (TX2 4).2.1 (TX2 4).2.2.1 ∈ AW) (hk : k < 9) (d : decode cc pc = .ok (.putfield idx, 3))
    (kk : ∀ (H1 : Heap) (locs1 : List Loc), wo D A s.heap 3 ad (cE (xE g T ad) (up2 σ 0 4 (nI k))) H1 locs1 → W p l e R s m args below meth c H1 locs1 cells slots Qw (F0 m (pc + 3) ls rest)) : W p l e R s m args below meth c H locs cells slots Qw (F0 m pc ls (.ref (g k) :: .ref (ad 0) :: rest)) := by
  have hc : cmdV g (nI k) = .ref (g k) := by
    rw [cmd_v (by rw [nI_toInt (by omega)]; omega), nI_clamp (by omega)]
  refine pE (C := "NestedBells$CommandText") (TC := TX2) (NF := 6) (ci := 0) (j := 4) (fs := txtE g ad (σ 0)) (ty0 := tyX2) (ty := .object "NestedBells$Command") Z hw 0 (by decide) rfl rfl rfl iX2 tyX2_ok nmX2 (by decide) hq rfl rfl rfl rfl (by rw [show (txtE g ad (σ 0)).length = 6 from rfl]; decide) ?_ d rfl kk
  show Sum.inr (0, txtE g ad (upd (σ 0) 4 (nI k))) = Sum.inr (0, (txtE g ad (σ 0)).set 4 (.ref (g k)))
  have e1 : txtE g ad (upd (σ 0) 4 (nI k)) = (txtE g ad (σ 0)).set 4 (.ref (g k)) := by
    show [Value.ref (ad 1), .int (σ 0 1), .int (σ 0 2), .int (σ 0 3), cmdV g (nI k), .ref (ad 2)] = _
    rw [hc]
    rfl
  rw [e1]
theorem iw_eq {σ : St} {p : Int32} {L k : Nat} (I : InvX σ) (hst : 0 ≤ p.toInt ∧ p.toInt ≤ (σ 0 2).toInt) (hL : L < 16) (c : nI L = σ 0 2 - p) (hk : k < L) : (p + nI k).toNatClampNeg = p.toNatClampNeg + k ∧ vp_in (p + nI k) 150 := by
  have h2 := I.2.2
  obtain ⟨a, ha, ea⟩ := of_nI (n := 151) ⟨I.2.1, by omega⟩ (by decide)
  obtain ⟨b, hb, rfl⟩ := of_nI (n := 151) ⟨hst.1, by omega⟩ (by decide)
  rw [ea] at c hst
  have hab : b ≤ a := by
    have := hst.2
    rw [nI_toInt (by omega), nI_toInt (by omega)] at this
    omega
  rw [pk_sub hab] at c
  have h3 : L = a - b := by
    have := congrArg Int32.toInt c
    rw [nI_toInt (by omega), nI_toInt (by omega)] at this
    omega
  rw [nI_add, nI_clamp (by omega), nI_clamp (by omega)]
  exact ⟨rfl, vp_in_nI (by omega) (by decide)⟩

abbrev rmX2_isWord : Room := { frames := 4, cells := 0, slots := 0, locals := 87 }
def f_X2_isWord_l17 (i : Nat) (p2 : Int32) : Nat → Nat → St → Int32
  | 0, k17, t17 => 0
  | n17 + 1, k17, t17 => (if (nI (wLen i)) ≤ (nI k17) then 1 else (if (t17 1 (p2.toNatClampNeg + k17)) = (wByte i k17) then (f_X2_isWord_l17 i p2 n17 (k17 + 1) t17) else 0))
def f_X2_isWord (σ : St) (i : Nat) (p2 : Int32) : Int32 := (if (nI (wLen i)) = ((σ 0 2) - p2) then (f_X2_isWord_l17 i p2 fu17 0 σ) else 0)
theorem v_X2_isWord : cvV yX2_isWord "NestedBells$CommandText" cX2_isWord 4 (some (.boolean)) 2 := ⟨q_2_70, s_2, q_1_7, q_2_71, rfl, by decide +kernel, by decide +kernel, by decide +kernel⟩
set_option maxHeartbeats 4000000 in
set_option maxRecDepth 100000 in
theorem L_X2_isWord_17 {l : Launch} {D : va_G} {T : Nat → ClassId} {g ad : Nat → Nat} {p : Program} {e : Env} {s : State} {m : MethodId} {below : List Frame} {meth : Method} {c : Code} {A : Nat → Prop} {i : Nat} {p2 : Int32} (Z : en p m c cX2_isWord 4 s [.ref (ad 0), .ref (g (9 + i)), .int p2].toArray "NestedBells$CommandText" D T g A) (hr : meth.sig.returnType = (some (.boolean))) (hlk : meth.locks = false) (hi : i < 9) (hL : wLen i < 16) : ∀ (n17 : Nat) (k17 : Nat) (t17 : St) (H : Heap) (locs : List Loc) (ls : Array Slot), k17 ≤ 16 → 16 < k17 + n17 → InvX t17 → (nI (wLen i) = t17 0 2 - p2) → (0 ≤ p2.toInt ∧ p2.toInt ≤ (t17 0 2).toInt) → wo D A s.heap 3 ad (cE (xE g T ad) t17) H locs → lv_has ls 4 [(3, .int (nI k17)), (0, .ref (ad 0)), (1, .ref (g (9 + i))), (2, .int p2)] → W p l e rmX2_isWord s m [.ref (ad 0), .ref (g (9 + i)), .int p2].toArray below meth c H locs 0 0 (MQ below (qI D 3 ad (xE g T ad) (pR (f_X2_isWord_l17 i p2 n17 k17 t17) t17) A) [.ref (ad 0), .ref (g (9 + i)), .int p2].toArray s rmX2_isWord.cells rmX2_isWord.slots A) (F0 m 17 ls []) := by
  have hx := Z.1.1
  have hb := Z.1.2.1
  intro n17
  induction n17 with
  | zero =>
    intro k17 t17 H locs ls hk17 hn17 It17 hc17 hs17 hw hl
    exact absurd hn17 (by omega)
  | succ n17 ih =>
    intro k17 t17 H locs ls hk17 hn17 It17 hc17 hs17 hw hl
    refine lv_iload_n hx hb dX2_isWord_17 rfl (lv_at hl 0 rfl) ?_
    refine lv_aload_n hx hb dX2_isWord_18 rfl (lv_at hl 2 rfl) ?_
    refine bk_ip (rnX (rest := [.int (nI k17)]) Z hw (k_J0_length_8abf5 (i := i) hi) v_J0_length_8abf5 q_2_72 (vk_recv (i := i) (adK := fun i => g (9 + i)) Z.2.2.2.2.2.2.2.2.2.2.2.2.1 hi hw.2.2) hl.1 rfl rfl (Nat.le_of_ble_eq_true rfl) ⟨(Nat.le_of_ble_eq_true rfl), (Nat.le_of_ble_eq_true rfl)⟩ ⟨(Nat.le_of_ble_eq_true rfl), (Nat.le_of_ble_eq_true rfl)⟩ dX2_isWord_19) hw Z (fun r19 er19 H locs hw => ?_)
    subst er19
    refine lv_icmp_ge (tgt := 49) hx hb dX2_isWord_22 (by decide) (fun c22 => ?_) (fun c22 => ?_)
    · refine lv_iconst (v := 1) hx hb dX2_isWord_49 (by decide +kernel) ?_
      exact rt_z Z hr hlk hw rfl dX2_isWord_50 ⟨Eq.symm (lf_t c22 rfl), rfl⟩
    · have hkb17 : k17 < wLen i := by have h1 := c22; rw [i32_le, nI_toInt (by omega), nI_toInt (by omega)] at h1; omega
      refine lv_aload_n hx hb dX2_isWord_25 rfl (lv_at hl 1 rfl) ?_
      refine gO (C := "NestedBells$CommandText") (TC := TX2) (NF := 6) (ci := 0) (j := 0) (v := .ref (ad 1)) Z hw (0) (by decide) rfl (fun _ => rfl) rfl iX2 (by decide) q_1_235 rfl rfl dX2_isWord_26 ?_
      refine lv_iload_n hx hb dX2_isWord_29 rfl (lv_at hl 3 rfl) ?_
      refine lv_iload_n hx hb dX2_isWord_30 rfl (lv_at hl 0 rfl) ?_
      refine lv_iadd hx hb dX2_isWord_31 ?_
      refine aBy (v := t17 1 (p2.toNatClampNeg + k17)) Z hw 1 (by decide) rfl (fun _ => rfl) (iw_eq It17 hs17 hL hc17 hkb17).2 ((congrArg (t17 1) (iw_eq It17 hs17 hL hc17 hkb17).1).trans rfl) dX2_isWord_32 ?_
      refine lv_aload_n hx hb dX2_isWord_33 rfl (lv_at hl 2 rfl) ?_
      refine lv_iload_n hx hb dX2_isWord_34 rfl (lv_at hl 0 rfl) ?_
      refine bk_ip (rnX (rest := [.int (t17 1 (p2.toNatClampNeg + k17))]) Z hw (k_J0_charAt_5068e (i := i) (j := k17) hi hkb17) v_J0_charAt_5068e q_2_82 (vk_recv (i := i) (adK := fun i => g (9 + i)) Z.2.2.2.2.2.2.2.2.2.2.2.2.1 hi hw.2.2) hl.1 rfl rfl (Nat.le_of_ble_eq_true rfl) ⟨(Nat.le_of_ble_eq_true rfl), (Nat.le_of_ble_eq_true rfl)⟩ ⟨(Nat.le_of_ble_eq_true rfl), (Nat.le_of_ble_eq_true rfl)⟩ dX2_isWord_35) hw Z (fun r35 er35 H locs hw => ?_)
      subst er35
      refine lv_icmp_eq (tgt := 43) hx hb dX2_isWord_38 (by decide) (fun c38 => ?_) (fun c38 => ?_)
      · refine lv_iinc (v := nI (k17 + 1)) (lv' := [(3, .int (nI (k17 + 1))), (0, .ref (ad 0)), (1, .ref (g (9 + i))), (2, .int p2)]) hx hb dX2_isWord_43 hl (k := 0) rfl (nI_1 _) (by decide) rfl (fun ls hl => ?_)
        refine lv_goto (tgt := 17) hx hb dX2_isWord_46 (by decide) ?_
        have q17 : (f_X2_isWord_l17 i p2 n17 (k17 + 1) t17) = (f_X2_isWord_l17 i p2 (n17 + 1) k17 t17) := (lf_f c22 (lf_t c38 rfl))
        rw [← q17]
        exact ih (k17 + 1) t17 H locs ls (by omega) (by omega) It17 hc17 hs17 hw (lv_sub hl [0, 1, 2, 3] rfl)
      · refine lv_iconst (v := 0) hx hb dX2_isWord_41 (by decide +kernel) ?_
        exact rt_z Z hr hlk hw rfl dX2_isWord_42 ⟨Eq.symm (lf_f c22 (lf_f c38 rfl)), rfl⟩
set_option maxHeartbeats 4000000 in
set_option maxRecDepth 100000 in
theorem k_X2_isWord {l : Launch} {D : va_G} {T : Nat → ClassId} {g ad : Nat → Nat} {σ : St} {i : Nat} {p2 : Int32} (I0 : InvX σ) (hi : i < 9) (hst : 0 ≤ p2.toInt ∧ p2.toInt ≤ (σ 0 2).toInt) : mX l yX2_isWord cX2_isWord 4 (some (.boolean)) rmX2_isWord D T g 3 ad (cE (xE g T ad) σ) [.ref (ad 0), .ref (g (9 + i)), .int p2] (qI D 3 ad (xE g T ad) (pR (f_X2_isWord σ i p2) σ)) := by
  refine mX.of (own := "NestedBells$CommandText") (by decide +kernel) (Nat.le_of_ble_eq_true rfl) rfl ?_
  intro p e s m below meth c A ls H locs Z hr hlk _ hw hl
  have hx := Z.1.1
  have hb := Z.1.2.1
  have hl : lv_has ls 4 [(0, .ref (ad 0)), (1, .ref (g (9 + i))), (2, .int p2)] := hl
  refine lv_aload_n hx hb dX2_isWord_0 rfl (lv_at hl 1 rfl) ?_
  refine bk_ip (rnX (rest := []) Z hw (k_J0_length_8abf5 (i := i) hi) v_J0_length_8abf5 q_2_72 (vk_recv (i := i) (adK := fun i => g (9 + i)) Z.2.2.2.2.2.2.2.2.2.2.2.2.1 hi hw.2.2) hl.1 rfl rfl (Nat.le_of_ble_eq_true rfl) ⟨(Nat.le_of_ble_eq_true rfl), (Nat.le_of_ble_eq_true rfl)⟩ ⟨(Nat.le_of_ble_eq_true rfl), (Nat.le_of_ble_eq_true rfl)⟩ dX2_isWord_1) hw Z (fun r1 er1 H locs hw => ?_)
  subst er1
  refine lv_aload_n hx hb dX2_isWord_4 rfl (lv_at hl 0 rfl) ?_
  refine gO (C := "NestedBells$CommandText") (TC := TX2) (NF := 6) (ci := 0) (j := 2) (v := .int (σ 0 2)) Z hw (0) (by decide) rfl (fun _ => rfl) rfl iX2 (by decide) q_1_238 rfl rfl dX2_isWord_5 ?_
  refine lv_iload_n hx hb dX2_isWord_8 rfl (lv_at hl 2 rfl) ?_
  refine lv_isub hx hb dX2_isWord_9 ?_
  refine lv_icmp_eq (tgt := 15) hx hb dX2_isWord_10 (by decide) (fun c10 => ?_) (fun c10 => ?_)
  · refine lv_iconst (v := 0) hx hb dX2_isWord_15 (by decide +kernel) ?_
    refine lv_istore_n (lv' := [(3, .int 0), (0, .ref (ad 0)), (1, .ref (g (9 + i))), (2, .int p2)]) hx hb dX2_isWord_16 rfl hl (by decide) rfl (fun ls hl => ?_)
    have q17 : (f_X2_isWord_l17 i p2 fu17 0 σ) = (f_X2_isWord σ i p2) := (lf_t c10 rfl)
    rw [← q17]
    exact L_X2_isWord_17 (i := i) (p2 := p2) Z hr hlk hi (wLen_lt i hi) fu17 0 σ H locs ls (by omega) (by unfold fu17; omega) I0 c10 hst hw (lv_sub hl [0, 1, 2, 3] rfl)
  · refine lv_iconst (v := 0) hx hb dX2_isWord_13 (by decide +kernel) ?_
    exact rt_z Z hr hlk hw rfl dX2_isWord_14 ⟨Eq.symm (lf_f c10 rfl), rfl⟩
abbrev rmX2_readWord : Room := { frames := 5, cells := 0, slots := 0, locals := 110 }
def f_X2_readWord_l5 : Nat → St → St
  | 0, t5 => (t5)
  | n5 + 1, t5 => (if (t5 0 1) ≤ (t5 0 2) then t5 else (if (t5 1 ((t5 0 2).toNatClampNeg)) < 97 then t5 else (if 122 < (t5 1 ((t5 0 2).toNatClampNeg)) then t5 else (f_X2_readWord_l5 n5 (up2 t5 0 2 ((t5 0 2) + 1))))))
def f_X2_readWord_l59 (σ : St) : Nat → Nat → St → Int32 × St
  | 0, k59, t59 => (0, t59)
  | n59 + 1, k59, t59 => (if 9 ≤ (nI k59) then (0, up2 t59 0 3 (σ 0 2)) else (let r77 := f_X2_isWord t59 k59 (σ 0 2); (if r77 = 0 then (f_X2_readWord_l59 σ n59 (k59 + 1) t59) else (1, up2 t59 0 4 (nI k59)))))
def f_X2_readWord (σ : St) : Int32 × St := (let u5 := (f_X2_readWord_l5 fu151 σ); (f_X2_readWord_l59 σ fu10 0 u5))
theorem v_X2_readWord : cvV yX2_readWord "NestedBells$CommandText" cX2_readWord 3 (some (.boolean)) 0 := ⟨q_2_64, s_1, q_1_7, q_2_65, rfl, by decide +kernel, by decide +kernel, by decide +kernel⟩
set_option maxHeartbeats 4000000 in
set_option maxRecDepth 100000 in
theorem L_X2_readWord_5 {l : Launch} {D : va_G} {T : Nat → ClassId} {g ad : Nat → Nat} {p : Program} {e : Env} {s : State} {m : MethodId} {below : List Frame} {meth : Method} {c : Code} {A : Nat → Prop} {Qw : State → Prop} {σ : St} (Z : en p m c cX2_readWord 3 s [.ref (ad 0)].toArray "NestedBells$CommandText" D T g A) (I0 : InvX σ) : ∀ (n5 : Nat) (t5 : St) (H : Heap) (locs : List Loc) (ls : Array Slot), mz t5 n5 → InvX t5 → ((σ 0 2).toInt ≤ (t5 0 2).toInt) → wo D A s.heap 3 ad (cE (xE g T ad) t5) H locs → lv_has ls 3 [(1, .int (σ 0 2)), (0, .ref (ad 0))] → (∀ (u5 : St) (H : Heap) (locs : List Loc) (ls : Array Slot), (f_X2_readWord_l5 n5 t5) = u5 → InvX u5 → ((σ 0 2).toInt ≤ (u5 0 2).toInt) → wo D A s.heap 3 ad (cE (xE g T ad) u5) H locs → lv_has ls 3 [(1, .int (σ 0 2)), (0, .ref (ad 0))] → W p l e rmX2_readWord s m [.ref (ad 0)].toArray below meth c H locs 0 0 Qw (F0 m 57 ls [])) → W p l e rmX2_readWord s m [.ref (ad 0)].toArray below meth c H locs 0 0 Qw (F0 m 5 ls []) := by
  have hx := Z.1.1
  have hb := Z.1.2.1
  intro n5
  induction n5 with
  | zero =>
    intro t5 H locs ls hn5 It5 hst5 hw hl kk
    exact absurd hn5.2 (by omega)
  | succ n5 ih =>
    intro t5 H locs ls hn5 It5 hst5 hw hl kk
    refine lv_aload_n hx hb dX2_readWord_5 rfl (lv_at hl 1 rfl) ?_
    refine gO (C := "NestedBells$CommandText") (TC := TX2) (NF := 6) (ci := 0) (j := 2) (v := .int (t5 0 2)) Z hw (0) (by decide) rfl (fun _ => rfl) rfl iX2 (by decide) q_1_238 rfl rfl dX2_readWord_6 ?_
    refine lv_aload_n hx hb dX2_readWord_9 rfl (lv_at hl 1 rfl) ?_
    refine gO (C := "NestedBells$CommandText") (TC := TX2) (NF := 6) (ci := 0) (j := 1) (v := .int (t5 0 1)) Z hw (0) (by decide) rfl (fun _ => rfl) rfl iX2 (by decide) q_1_236 rfl rfl dX2_readWord_10 ?_
    refine lv_icmp_ge (tgt := 57) hx hb dX2_readWord_13 (by decide) (fun c13 => ?_) (fun c13 => ?_)
    · exact kk _ H locs ls (Eq.symm (lf_t c13 rfl)) It5 hst5 hw (lv_sub hl [0, 1] rfl)
    · refine lv_aload_n hx hb dX2_readWord_16 rfl (lv_at hl 1 rfl) ?_
      refine gO (C := "NestedBells$CommandText") (TC := TX2) (NF := 6) (ci := 0) (j := 0) (v := .ref (ad 1)) Z hw (0) (by decide) rfl (fun _ => rfl) rfl iX2 (by decide) q_1_235 rfl rfl dX2_readWord_17 ?_
      refine lv_aload_n hx hb dX2_readWord_20 rfl (lv_at hl 1 rfl) ?_
      refine gO (C := "NestedBells$CommandText") (TC := TX2) (NF := 6) (ci := 0) (j := 2) (v := .int (t5 0 2)) Z hw (0) (by decide) rfl (fun _ => rfl) rfl iX2 (by decide) q_1_238 rfl rfl dX2_readWord_21 ?_
      refine aBy (v := t5 1 ((t5 0 2).toNatClampNeg)) Z hw 1 (by decide) rfl (fun _ => rfl) (tx_lt It5 c13) rfl dX2_readWord_24 ?_
      refine lv_bipush (v := 97) hx hb dX2_readWord_25 (by decide +kernel) ?_
      refine lv_icmp_lt (tgt := 57) hx hb dX2_readWord_27 (by decide) (fun c27 => ?_) (fun c27 => ?_)
      · exact kk _ H locs ls (Eq.symm (lf_f c13 (lf_t c27 rfl))) It5 hst5 hw (lv_sub hl [0, 1] rfl)
      · refine lv_aload_n hx hb dX2_readWord_30 rfl (lv_at hl 1 rfl) ?_
        refine gO (C := "NestedBells$CommandText") (TC := TX2) (NF := 6) (ci := 0) (j := 0) (v := .ref (ad 1)) Z hw (0) (by decide) rfl (fun _ => rfl) rfl iX2 (by decide) q_1_235 rfl rfl dX2_readWord_31 ?_
        refine lv_aload_n hx hb dX2_readWord_34 rfl (lv_at hl 1 rfl) ?_
        refine gO (C := "NestedBells$CommandText") (TC := TX2) (NF := 6) (ci := 0) (j := 2) (v := .int (t5 0 2)) Z hw (0) (by decide) rfl (fun _ => rfl) rfl iX2 (by decide) q_1_238 rfl rfl dX2_readWord_35 ?_
        refine aBy (v := t5 1 ((t5 0 2).toNatClampNeg)) Z hw 1 (by decide) rfl (fun _ => rfl) (tx_lt It5 c13) rfl dX2_readWord_38 ?_
        refine lv_bipush (v := 122) hx hb dX2_readWord_39 (by decide +kernel) ?_
        refine lv_icmp_gt (tgt := 57) hx hb dX2_readWord_41 (by decide) (fun c41 => ?_) (fun c41 => ?_)
        · exact kk _ H locs ls (Eq.symm (lf_f c13 (lf_f c27 (lf_t c41 rfl)))) It5 hst5 hw (lv_sub hl [0, 1] rfl)
        · refine lv_aload_n hx hb dX2_readWord_44 rfl (lv_at hl 1 rfl) ?_
          refine lv_dup hx hb dX2_readWord_45 rfl ?_
          refine gO (C := "NestedBells$CommandText") (TC := TX2) (NF := 6) (ci := 0) (j := 2) (v := .int (t5 0 2)) Z hw (0) (by decide) rfl (fun _ => rfl) rfl iX2 (by decide) q_1_238 rfl rfl dX2_readWord_46 ?_
          refine lv_iconst (v := 1) hx hb dX2_readWord_49 (by decide +kernel) ?_
          refine lv_iadd hx hb dX2_readWord_50 ?_
          refine pO (C := "NestedBells$CommandText") (TC := TX2) (NF := 6) (ci := 0) (j := 2) (ty0 := tyX2) Z hw (0) (by decide) rfl (fun _ => rfl) rfl iX2 tyX2_ok nmX2 (by decide) q_1_238 rfl rfl rfl rfl (Nat.le_of_ble_eq_true rfl) dX2_readWord_51 (fun H locs hw => ?_)
          refine lv_goto (tgt := 5) hx hb dX2_readWord_54 (by decide) ?_
          exact ih (up2 t5 0 2 ((t5 0 2) + 1)) H locs ls (mz_s It5 c13 hn5 (by rw [up2_j (by decide)]) (by rw [up2_s])) (InvX.at (tx_inc It5 c13).1 It5) (by rw [up2_s, (tx_inc It5 c13).2]; omega) hw (lv_sub hl [0, 1] rfl) (fun u5 H locs ls eu5 I5 hst5y hw hl => kk u5 H locs ls (Eq.trans (Eq.symm (show (f_X2_readWord_l5 n5 (up2 t5 0 2 ((t5 0 2) + 1))) = _ from (lf_f c13 (lf_f c27 (lf_f c41 rfl))))) eu5) I5 hst5y hw hl)
set_option maxHeartbeats 4000000 in
set_option maxRecDepth 100000 in
theorem L_X2_readWord_59 {l : Launch} {D : va_G} {T : Nat → ClassId} {g ad : Nat → Nat} {p : Program} {e : Env} {s : State} {m : MethodId} {below : List Frame} {meth : Method} {c : Code} {A : Nat → Prop} {σ : St} (Z : en p m c cX2_readWord 3 s [.ref (ad 0)].toArray "NestedBells$CommandText" D T g A) (hr : meth.sig.returnType = (some (.boolean))) (hlk : meth.locks = false) (I0 : InvX σ) : ∀ (n59 : Nat) (k59 : Nat) (t59 : St) (H : Heap) (locs : List Loc) (ls : Array Slot), k59 ≤ 9 → 9 < k59 + n59 → InvX t59 → ((σ 0 2).toInt ≤ (t59 0 2).toInt) → wo D A s.heap 3 ad (cE (xE g T ad) t59) H locs → lv_has ls 3 [(2, .int (nI k59)), (1, .int (σ 0 2)), (0, .ref (ad 0))] → W p l e rmX2_readWord s m [.ref (ad 0)].toArray below meth c H locs 0 0 (MQ below (qI D 3 ad (xE g T ad) (pI (f_X2_readWord_l59 σ n59 k59 t59) InvX) A) [.ref (ad 0)].toArray s rmX2_readWord.cells rmX2_readWord.slots A) (F0 m 59 ls []) := by
  have hx := Z.1.1
  have hb := Z.1.2.1
  intro n59
  induction n59 with
  | zero =>
    intro k59 t59 H locs ls hk59 hn59 It59 hst59 hw hl
    exact absurd hn59 (by omega)
  | succ n59 ih =>
    intro k59 t59 H locs ls hk59 hn59 It59 hst59 hw hl
    refine lv_iload_n hx hb dX2_readWord_59 rfl (lv_at hl 0 rfl) ?_
    refine va_gets hx hb Z.2.2.2.2.2.2.2.2.1 hw.2.2 Z.1.2.2.2.1 (Z.1.2.2.2.2 _ q_2_66) (fun _ h => h) dX2_readWord_60 ?_
    refine va_tlen hx hb Z.2.2.2.2.2.2.2.2.2.1 hw.2.2 (v := 9) rfl dX2_readWord_63 ?_
    refine lv_icmp_ge (tgt := 100) hx hb dX2_readWord_64 (by decide) (fun c64 => ?_) (fun c64 => ?_)
    · refine lv_aload_n hx hb dX2_readWord_100 rfl (lv_at hl 2 rfl) ?_
      refine lv_iload_n hx hb dX2_readWord_101 rfl (lv_at hl 1 rfl) ?_
      refine pO (C := "NestedBells$CommandText") (TC := TX2) (NF := 6) (ci := 0) (j := 3) (ty0 := tyX2) Z hw (0) (by decide) rfl (fun _ => rfl) rfl iX2 tyX2_ok nmX2 (by decide) q_1_239 rfl rfl rfl rfl (Nat.le_of_ble_eq_true rfl) dX2_readWord_102 (fun H locs hw => ?_)
      refine lv_iconst (v := 0) hx hb dX2_readWord_105 (by decide +kernel) ?_
      exact rt_z Z hr hlk hw rfl dX2_readWord_106 (pI.mk (lf_t c64 rfl) (InvX.up It59 (by decide)))
    · have hkb59 : k59 < 9 := kb_ge c64 (by decide) hk59 (by decide)
      refine lv_aload_n hx hb dX2_readWord_67 rfl (lv_at hl 2 rfl) ?_
      refine va_gets hx hb Z.2.2.2.2.2.2.2.2.1 hw.2.2 Z.1.2.2.2.1 (Z.1.2.2.2.2 _ q_2_66) (fun _ h => h) dX2_readWord_68 ?_
      refine lv_iload_n hx hb dX2_readWord_71 rfl (lv_at hl 0 rfl) ?_
      refine vb_tq hx hb Z.2.2.2.2.2.2.2.2.2.1 hw.2.2 (vp_in_nI (by omega) (by decide)) (v := .ref (g k59)) (congrArg (fun x => Value.ref (g x)) (nI_clamp (by omega))) dX2_readWord_72 ?_
      refine vk_getf hx hb (v := .ref (g (9 + k59))) (Z.2.2.2.2.2.2.2.1 k59 (by omega)) hw.2.2 Z.1.2.2.2.1 (Z.1.2.2.2.2 _ q_6_104) (fun _ h => h) dX2_readWord_73 ?_
      refine lv_iload_n hx hb dX2_readWord_76 rfl (lv_at hl 1 rfl) ?_
      refine bk_ip (rnV (rest := []) Z hw (k_X2_isWord (i := k59) (p2 := σ 0 2) It59 (by omega) ⟨I0.2.1, hst59⟩) v_X2_isWord q_2_68 (0) (by decide) rfl ((fun _ => rfl) _) rfl rfl hl.1 rfl rfl (Nat.le_of_ble_eq_true rfl) ⟨(Nat.le_of_ble_eq_true rfl), (Nat.le_of_ble_eq_true rfl)⟩ ⟨(Nat.le_of_ble_eq_true rfl), (Nat.le_of_ble_eq_true rfl)⟩ dX2_readWord_77) hw Z (fun r77 er77 H locs hw => ?_)
      refine lv_if_eq (tgt := 94) hx hb dX2_readWord_80 (by decide) (fun c80 => ?_) (fun c80 => ?_)
      · refine lv_iinc (v := nI (k59 + 1)) (lv' := [(2, .int (nI (k59 + 1))), (1, .int (σ 0 2)), (0, .ref (ad 0))]) hx hb dX2_readWord_94 hl (k := 0) rfl (nI_1 _) (by decide) rfl (fun ls hl => ?_)
        refine lv_goto (tgt := 59) hx hb dX2_readWord_97 (by decide) ?_
        have q59 : (f_X2_readWord_l59 σ n59 (k59 + 1) t59) = (f_X2_readWord_l59 σ (n59 + 1) k59 t59) := (by subst er77; exact (lf_f c64 (lf_t c80 rfl)))
        rw [← q59]
        exact ih (k59 + 1) t59 H locs ls (by omega) (by omega) It59 hst59 hw (lv_sub hl [0, 1, 2] rfl)
      · refine lv_aload_n hx hb dX2_readWord_83 rfl (lv_at hl 2 rfl) ?_
        refine va_gets hx hb Z.2.2.2.2.2.2.2.2.1 hw.2.2 Z.1.2.2.2.1 (Z.1.2.2.2.2 _ q_2_66) (fun _ h => h) dX2_readWord_84 ?_
        refine lv_iload_n hx hb dX2_readWord_87 rfl (lv_at hl 0 rfl) ?_
        refine vb_tq hx hb Z.2.2.2.2.2.2.2.2.2.1 hw.2.2 (vp_in_nI (by omega) (by decide)) (v := .ref (g k59)) (congrArg (fun x => Value.ref (g x)) (nI_clamp (by omega))) dX2_readWord_88 ?_
        refine pCm (k := k59) Z hw q_2_0 (by omega) dX2_readWord_89 (fun H locs hw => ?_)
        refine lv_iconst (v := 1) hx hb dX2_readWord_92 (by decide +kernel) ?_
        exact rt_z Z hr hlk hw rfl dX2_readWord_93 (pI.mk (by subst er77; exact (lf_f c64 (lf_f c80 rfl))) (InvX.up It59 (by decide)))
set_option maxHeartbeats 4000000 in
set_option maxRecDepth 100000 in
theorem k_X2_readWord {l : Launch} {D : va_G} {T : Nat → ClassId} {g ad : Nat → Nat} {σ : St} (I0 : InvX σ) : mX l yX2_readWord cX2_readWord 3 (some (.boolean)) rmX2_readWord D T g 3 ad (cE (xE g T ad) σ) [.ref (ad 0)] (qI D 3 ad (xE g T ad) (pI (f_X2_readWord σ) InvX)) := by
  refine mX.of (own := "NestedBells$CommandText") (by decide +kernel) (Nat.le_of_ble_eq_true rfl) rfl ?_
  intro p e s m below meth c A ls H locs Z hr hlk _ hw hl
  have hx := Z.1.1
  have hb := Z.1.2.1
  have hl : lv_has ls 3 [(0, .ref (ad 0))] := hl
  refine lv_aload_n hx hb dX2_readWord_0 rfl (lv_at hl 0 rfl) ?_
  refine gO (C := "NestedBells$CommandText") (TC := TX2) (NF := 6) (ci := 0) (j := 2) (v := .int (σ 0 2)) Z hw (0) (by decide) rfl (fun _ => rfl) rfl iX2 (by decide) q_1_238 rfl rfl dX2_readWord_1 ?_
  refine lv_istore_n (lv' := [(1, .int (σ 0 2)), (0, .ref (ad 0))]) hx hb dX2_readWord_4 rfl hl (by decide) rfl (fun ls hl => ?_)
  refine L_X2_readWord_5 (σ := σ) Z I0 fu151 σ H locs ls (mz_0 I0) I0 (Int.le_refl _) hw (lv_sub hl [0, 1] rfl) (fun u5 H locs ls eu5 I5 hst5x hw hl => ?_)
  refine lv_iconst (v := 0) hx hb dX2_readWord_57 (by decide +kernel) ?_
  refine lv_istore_n (lv' := [(2, .int 0), (1, .int (σ 0 2)), (0, .ref (ad 0))]) hx hb dX2_readWord_58 rfl hl (by decide) rfl (fun ls hl => ?_)
  have q59 : (f_X2_readWord_l59 σ fu10 0 u5) = (f_X2_readWord σ) := (by subst eu5; exact rfl)
  rw [← q59]
  exact L_X2_readWord_59 (σ := σ) Z hr hlk I0 fu10 0 u5 H locs ls (by omega) (by unfold fu10; omega) I5 hst5x hw (lv_sub hl [0, 1, 2] rfl)
theorem rw_l {σ : St} : ∀ n k t, ¬ (f_X2_readWord_l59 σ n k t).1 = 0 → k ≤ 9 → 0 ≤ ((f_X2_readWord_l59 σ n k t).2 0 4).toInt ∧ ((f_X2_readWord_l59 σ n k t).2 0 4).toInt < 9
  | 0, _, _, h, _ => absurd rfl h
  | n + 1, k, t, h, hk => by
    unfold f_X2_readWord_l59 at h ⊢
    dsimp only at h ⊢
    split at h
    · exact absurd rfl h
    · next c =>
      rw [if_neg c]
      have hk1 := kb_ge c (B := 9) (by decide) hk (by decide)
      split at h
      · next c2 => rw [if_pos c2]; exact rw_l n (k + 1) t h (by omega)
      · next c2 =>
        rw [if_neg c2]
        show 0 ≤ (up2 t 0 4 (nI k) 0 4).toInt ∧ (up2 t 0 4 (nI k) 0 4).toInt < 9
        rw [up2_s, nI_toInt (by omega)]
        omega
theorem rw_cmd {σ u : St} {r : Int32} (er : (f_X2_readWord σ).1 = r) (h : ¬ r = 0) (es : (f_X2_readWord σ).2 = u) : 0 ≤ (u 0 4).toInt ∧ (u 0 4).toInt < 9 := by
  rw [← es]
  rw [← er] at h
  exact rw_l _ _ _ h (by omega)
theorem sk_4l : ∀ n t, f_X2_skipSpaces_l0 n t 0 4 = t 0 4
  | 0, _ => rfl
  | n + 1, t => by
    unfold f_X2_skipSpaces_l0
    split
    · rfl
    · split
      · rw [sk_4l n]; exact up2_j (by decide)
      · rfl
theorem sk_4 {t : St} : f_X2_skipSpaces t 0 4 = t 0 4 := sk_4l _ _
theorem rn_4l : ∀ n k a t, (f_X2_readNumber_l44 n k a t).2 0 4 = t 0 4
  | 0, _, _, _ => rfl
  | n + 1, k, a, t => by
    unfold f_X2_readNumber_l44
    dsimp only
    split
    · rfl
    · split
      · rfl
      · rw [rn_4l n]; exact up2_j (by decide)
theorem o34 {a : St} {v r : Int32} (h : a 0 4 = r) : up2 a 0 3 v 0 4 = r := (up2_j (by decide)).trans h
theorem o24 {a : St} {j : Nat} {v r : Int32} (h : a 0 4 = r) : up2 a 2 j v 0 4 = r := (up2_k (by decide)).trans h
theorem rn_4 {t u : St} {p : Int32} (es : (f_X2_readNumber t p).2 = u) : u 0 4 = t 0 4 := by
  rw [← es]
  have h := sk_4 (t := t)
  unfold f_X2_readNumber
  dsimp only
  split
  · exact o34 (a := f_X2_skipSpaces t) (v := f_X2_skipSpaces t 0 2) h
  · split
    · exact o34 (a := f_X2_skipSpaces t) (v := f_X2_skipSpaces t 0 2) h
    · split
      · exact o24 (a := (f_X2_readNumber_l44 fu4 0 0 (f_X2_skipSpaces t)).2) (j := p.toNatClampNeg) (v := (f_X2_readNumber_l44 fu4 0 0 (f_X2_skipSpaces t)).1) ((rn_4l _ _ _ _).trans h)
      · exact o34 (a := f_X2_skipSpaces t) (v := f_X2_skipSpaces t 0 2) h
theorem bh_lt {σ : St} {r : Int32} (er : f_X2_byteHere σ = r) (c : r = 59) : ¬ σ 0 1 ≤ σ 0 2 := by
  intro h
  unfold f_X2_byteHere at er
  rw [if_pos h, c] at er
  exact absurd er (by decide)
theorem en_k {x : Int32} {k : Nat} (hc : 0 ≤ x.toInt ∧ x.toInt < 9) (c : ¬ enN x.toNatClampNeg ≤ nI k) (hk : k ≤ 4) : k < 4 := kb_ge c (enN_4 _ (cmd_n hc)) hk (by decide)

abbrev rmX2_readCommand : Room := { frames := 6, cells := 0, slots := 0, locals := 132 }
def f_X2_readCommand_l26 : Nat → Nat → St → Int32 × St
  | 0, k26, t26 => (0, t26)
  | n26 + 1, k26, t26 => (if (enN ((t26 0 4).toNatClampNeg)) ≤ (nI k26) then (let s54 := f_X2_skipSpaces t26; (let r58 := f_X2_byteHere s54; (if r58 = 59 then (1, up2 s54 0 2 ((s54 0 2) + 1)) else (0, up2 s54 0 3 (s54 0 2))))) else (let r39 := (f_X2_readNumber t26 (nI k26)).1; let s39 := (f_X2_readNumber t26 (nI k26)).2; (if r39 = 0 then (0, s39) else (f_X2_readCommand_l26 n26 (k26 + 1) s39))))
def f_X2_readCommand (σ : St) : Int32 × St := (let s1 := f_X2_skipSpaces σ; (if (s1 0 1) ≤ (s1 0 2) then (0, s1) else (let r16 := (f_X2_readWord s1).1; let s16 := (f_X2_readWord s1).2; (if r16 = 0 then (0, s16) else (f_X2_readCommand_l26 fu5 0 s16)))))
theorem v_X2_readCommand : cvV yX2_readCommand "NestedBells$CommandText" cX2_readCommand 2 (some (.boolean)) 0 := ⟨q_2_55, q_2_56, q_1_7, q_2_57, rfl, by decide +kernel, by decide +kernel, by decide +kernel⟩
set_option maxHeartbeats 4000000 in
set_option maxRecDepth 100000 in
theorem L_X2_readCommand_26 {l : Launch} {D : va_G} {T : Nat → ClassId} {g ad : Nat → Nat} {p : Program} {e : Env} {s : State} {m : MethodId} {below : List Frame} {meth : Method} {c : Code} {A : Nat → Prop} (Z : en p m c cX2_readCommand 2 s [.ref (ad 0)].toArray "NestedBells$CommandText" D T g A) (hr : meth.sig.returnType = (some (.boolean))) (hlk : meth.locks = false) : ∀ (n26 : Nat) (k26 : Nat) (t26 : St) (H : Heap) (locs : List Loc) (ls : Array Slot), k26 ≤ 4 → 4 < k26 + n26 → InvX t26 → (0 ≤ (t26 0 4).toInt ∧ (t26 0 4).toInt < 9) → wo D A s.heap 3 ad (cE (xE g T ad) t26) H locs → lv_has ls 2 [(1, .int (nI k26)), (0, .ref (ad 0))] → W p l e rmX2_readCommand s m [.ref (ad 0)].toArray below meth c H locs 0 0 (MQ below (qI D 3 ad (xE g T ad) (pI (f_X2_readCommand_l26 n26 k26 t26) InvX) A) [.ref (ad 0)].toArray s rmX2_readCommand.cells rmX2_readCommand.slots A) (F0 m 26 ls []) := by
  have hx := Z.1.1
  have hb := Z.1.2.1
  intro n26
  induction n26 with
  | zero =>
    intro k26 t26 H locs ls hk26 hn26 It26 hc26 hw hl
    exact absurd hn26 (by omega)
  | succ n26 ih =>
    intro k26 t26 H locs ls hk26 hn26 It26 hc26 hw hl
    refine lv_iload_n hx hb dX2_readCommand_26 rfl (lv_at hl 0 rfl) ?_
    refine lv_aload_n hx hb dX2_readCommand_27 rfl (lv_at hl 1 rfl) ?_
    refine gO (C := "NestedBells$CommandText") (TC := TX2) (NF := 6) (ci := 0) (j := 4) (v := .ref (g (t26 0 4).toNatClampNeg)) Z hw 0 (by decide) rfl (fun _ => rfl) rfl iX2 (by decide) q_2_0 rfl (congrArg some (cmd_v hc26)) dX2_readCommand_28 ?_
    refine vk_getf hx hb (v := .int (enN ((t26 0 4).toNatClampNeg))) ((Z.2.2.2.2.2.2.1.1 ((t26 0 4).toNatClampNeg) (cmd_n hc26)).2.2 ("NestedBells$Command", "numberCount", "I", [2, 2, 4, 3, 1, 1, 1, 2, 1]) List.mem_cons_self) hw.2.2 Z.1.2.2.2.1 (Z.1.2.2.2.2 _ q_6_107) (fun _ h => h) dX2_readCommand_31 ?_
    refine lv_icmp_ge (tgt := 53) hx hb dX2_readCommand_34 (by decide) (fun c34 => ?_) (fun c34 => ?_)
    · refine lv_aload_n hx hb dX2_readCommand_53 rfl (lv_at hl 1 rfl) ?_
      refine bk_v (rnV (rest := []) Z hw (k_X2_skipSpaces  It26) v_X2_skipSpaces q_2_58 (0) (by decide) rfl ((fun _ => rfl) _) rfl rfl hl.1 rfl rfl (Nat.le_of_ble_eq_true rfl) ⟨(Nat.le_of_ble_eq_true rfl), (Nat.le_of_ble_eq_true rfl)⟩ ⟨(Nat.le_of_ble_eq_true rfl), (Nat.le_of_ble_eq_true rfl)⟩ dX2_readCommand_54) hw Z (fun s54 H locs hp hw => ?_)
      obtain ⟨es54, I54⟩ := hp
      refine lv_aload_n hx hb dX2_readCommand_57 rfl (lv_at hl 1 rfl) ?_
      refine bk_ip (rnV (rest := []) Z hw (k_X2_byteHere  I54) v_X2_byteHere q_2_128 (0) (by decide) rfl ((fun _ => rfl) _) rfl rfl hl.1 rfl rfl (Nat.le_of_ble_eq_true rfl) ⟨(Nat.le_of_ble_eq_true rfl), (Nat.le_of_ble_eq_true rfl)⟩ ⟨(Nat.le_of_ble_eq_true rfl), (Nat.le_of_ble_eq_true rfl)⟩ dX2_readCommand_58) hw Z (fun r58 er58 H locs hw => ?_)
      refine lv_bipush (v := 59) hx hb dX2_readCommand_61 (by decide +kernel) ?_
      refine lv_icmp_eq (tgt := 76) hx hb dX2_readCommand_63 (by decide) (fun c63 => ?_) (fun c63 => ?_)
      · refine lv_aload_n hx hb dX2_readCommand_76 rfl (lv_at hl 1 rfl) ?_
        refine lv_dup hx hb dX2_readCommand_77 rfl ?_
        refine gO (C := "NestedBells$CommandText") (TC := TX2) (NF := 6) (ci := 0) (j := 2) (v := .int (s54 0 2)) Z hw (0) (by decide) rfl (fun _ => rfl) rfl iX2 (by decide) q_1_238 rfl rfl dX2_readCommand_78 ?_
        refine lv_iconst (v := 1) hx hb dX2_readCommand_81 (by decide +kernel) ?_
        refine lv_iadd hx hb dX2_readCommand_82 ?_
        refine pO (C := "NestedBells$CommandText") (TC := TX2) (NF := 6) (ci := 0) (j := 2) (ty0 := tyX2) Z hw (0) (by decide) rfl (fun _ => rfl) rfl iX2 tyX2_ok nmX2 (by decide) q_1_238 rfl rfl rfl rfl (Nat.le_of_ble_eq_true rfl) dX2_readCommand_83 (fun H locs hw => ?_)
        refine lv_iconst (v := 1) hx hb dX2_readCommand_86 (by decide +kernel) ?_
        exact rt_z Z hr hlk hw rfl dX2_readCommand_87 (pI.mk (by subst er58 es54; exact (lf_t c34 (lf_t c63 rfl))) (InvX.at (tx_inc I54 (bh_lt er58 c63)).1 I54))
      · refine lv_aload_n hx hb dX2_readCommand_66 rfl (lv_at hl 1 rfl) ?_
        refine lv_aload_n hx hb dX2_readCommand_67 rfl (lv_at hl 1 rfl) ?_
        refine gO (C := "NestedBells$CommandText") (TC := TX2) (NF := 6) (ci := 0) (j := 2) (v := .int (s54 0 2)) Z hw (0) (by decide) rfl (fun _ => rfl) rfl iX2 (by decide) q_1_238 rfl rfl dX2_readCommand_68 ?_
        refine pO (C := "NestedBells$CommandText") (TC := TX2) (NF := 6) (ci := 0) (j := 3) (ty0 := tyX2) Z hw (0) (by decide) rfl (fun _ => rfl) rfl iX2 tyX2_ok nmX2 (by decide) q_1_239 rfl rfl rfl rfl (Nat.le_of_ble_eq_true rfl) dX2_readCommand_71 (fun H locs hw => ?_)
        refine lv_iconst (v := 0) hx hb dX2_readCommand_74 (by decide +kernel) ?_
        exact rt_z Z hr hlk hw rfl dX2_readCommand_75 (pI.mk (by subst er58 es54; exact (lf_t c34 (lf_f c63 rfl))) (InvX.up I54 (by decide)))
    · have hkb26 : k26 < 4 := en_k hc26 c34 hk26
      refine lv_aload_n hx hb dX2_readCommand_37 rfl (lv_at hl 1 rfl) ?_
      refine lv_iload_n hx hb dX2_readCommand_38 rfl (lv_at hl 0 rfl) ?_
      refine bk_i (rnV (rest := []) Z hw (k_X2_readNumber (p1 := nI k26) It26 (nI_rng (n := 4) hkb26 (by decide)).1) v_X2_readNumber q_2_120 (0) (by decide) rfl ((fun _ => rfl) _) rfl rfl hl.1 rfl rfl (Nat.le_of_ble_eq_true rfl) ⟨(Nat.le_of_ble_eq_true rfl), (Nat.le_of_ble_eq_true rfl)⟩ ⟨(Nat.le_of_ble_eq_true rfl), (Nat.le_of_ble_eq_true rfl)⟩ dX2_readCommand_39) hw Z (fun r39 s39 H locs hp hw => ?_)
      obtain ⟨er39, es39, I39⟩ := hp
      refine lv_if_ne (tgt := 47) hx hb dX2_readCommand_42 (by decide) (fun c42 => ?_) (fun c42 => ?_)
      · refine lv_iinc (v := nI (k26 + 1)) (lv' := [(1, .int (nI (k26 + 1))), (0, .ref (ad 0))]) hx hb dX2_readCommand_47 hl (k := 0) rfl (nI_1 _) (by decide) rfl (fun ls hl => ?_)
        refine lv_goto (tgt := 26) hx hb dX2_readCommand_50 (by decide) ?_
        have q26 : (f_X2_readCommand_l26 n26 (k26 + 1) s39) = (f_X2_readCommand_l26 (n26 + 1) k26 t26) := (by subst es39 er39; exact (lf_f c34 (lf_f c42 rfl)))
        rw [← q26]
        exact ih (k26 + 1) s39 H locs ls (by omega) (by omega) I39 (by rw [rn_4 es39]; exact hc26) hw (lv_sub hl [0, 1] rfl)
      · refine lv_iconst (v := 0) hx hb dX2_readCommand_45 (by decide +kernel) ?_
        exact rt_z Z hr hlk hw rfl dX2_readCommand_46 (pI.mk (by subst es39 er39; exact (lf_f c34 (lf_t c42 rfl))) I39)
set_option maxHeartbeats 4000000 in
set_option maxRecDepth 100000 in
theorem k_X2_readCommand {l : Launch} {D : va_G} {T : Nat → ClassId} {g ad : Nat → Nat} {σ : St} (I0 : InvX σ) : mX l yX2_readCommand cX2_readCommand 2 (some (.boolean)) rmX2_readCommand D T g 3 ad (cE (xE g T ad) σ) [.ref (ad 0)] (qI D 3 ad (xE g T ad) (pI (f_X2_readCommand σ) InvX)) := by
  refine mX.of (own := "NestedBells$CommandText") (by decide +kernel) (Nat.le_of_ble_eq_true rfl) rfl ?_
  intro p e s m below meth c A ls H locs Z hr hlk _ hw hl
  have hx := Z.1.1
  have hb := Z.1.2.1
  have hl : lv_has ls 2 [(0, .ref (ad 0))] := hl
  refine lv_aload_n hx hb dX2_readCommand_0 rfl (lv_at hl 0 rfl) ?_
  refine bk_v (rnV (rest := []) Z hw (k_X2_skipSpaces  I0) v_X2_skipSpaces q_2_58 (0) (by decide) rfl ((fun _ => rfl) _) rfl rfl hl.1 rfl rfl (Nat.le_of_ble_eq_true rfl) ⟨(Nat.le_of_ble_eq_true rfl), (Nat.le_of_ble_eq_true rfl)⟩ ⟨(Nat.le_of_ble_eq_true rfl), (Nat.le_of_ble_eq_true rfl)⟩ dX2_readCommand_1) hw Z (fun s1 H locs hp hw => ?_)
  obtain ⟨es1, I1⟩ := hp
  refine lv_aload_n hx hb dX2_readCommand_4 rfl (lv_at hl 0 rfl) ?_
  refine gO (C := "NestedBells$CommandText") (TC := TX2) (NF := 6) (ci := 0) (j := 2) (v := .int (s1 0 2)) Z hw (0) (by decide) rfl (fun _ => rfl) rfl iX2 (by decide) q_1_238 rfl rfl dX2_readCommand_5 ?_
  refine lv_aload_n hx hb dX2_readCommand_8 rfl (lv_at hl 0 rfl) ?_
  refine gO (C := "NestedBells$CommandText") (TC := TX2) (NF := 6) (ci := 0) (j := 1) (v := .int (s1 0 1)) Z hw (0) (by decide) rfl (fun _ => rfl) rfl iX2 (by decide) q_1_236 rfl rfl dX2_readCommand_9 ?_
  refine lv_icmp_ge (tgt := 22) hx hb dX2_readCommand_12 (by decide) (fun c12 => ?_) (fun c12 => ?_)
  · refine lv_iconst (v := 0) hx hb dX2_readCommand_22 (by decide +kernel) ?_
    exact rt_z Z hr hlk hw rfl dX2_readCommand_23 (pI.mk (by subst es1; exact (lf_t c12 rfl)) I1)
  · refine lv_aload_n hx hb dX2_readCommand_15 rfl (lv_at hl 0 rfl) ?_
    refine bk_i (rnV (rest := []) Z hw (k_X2_readWord  I1) v_X2_readWord q_2_62 (0) (by decide) rfl ((fun _ => rfl) _) rfl rfl hl.1 rfl rfl (Nat.le_of_ble_eq_true rfl) ⟨(Nat.le_of_ble_eq_true rfl), (Nat.le_of_ble_eq_true rfl)⟩ ⟨(Nat.le_of_ble_eq_true rfl), (Nat.le_of_ble_eq_true rfl)⟩ dX2_readCommand_16) hw Z (fun r16 s16 H locs hp hw => ?_)
    obtain ⟨er16, es16, I16⟩ := hp
    refine lv_if_ne (tgt := 24) hx hb dX2_readCommand_19 (by decide) (fun c19 => ?_) (fun c19 => ?_)
    · refine lv_iconst (v := 0) hx hb dX2_readCommand_24 (by decide +kernel) ?_
      refine lv_istore_n (lv' := [(1, .int 0), (0, .ref (ad 0))]) hx hb dX2_readCommand_25 rfl hl (by decide) rfl (fun ls hl => ?_)
      have q26 : (f_X2_readCommand_l26 fu5 0 s16) = (f_X2_readCommand σ) := (by subst es16 er16 es1; exact (lf_f c12 (lf_f c19 rfl)))
      rw [← q26]
      exact L_X2_readCommand_26 Z hr hlk fu5 0 s16 H locs ls (by omega) (by unfold fu5; omega) I16 (rw_cmd er16 c19 es16) hw (lv_sub hl [0, 1] rfl)
    · refine lv_iconst (v := 0) hx hb dX2_readCommand_22 (by decide +kernel) ?_
      exact rt_z Z hr hlk hw rfl dX2_readCommand_23 (pI.mk (by subst es16 er16 es1; exact (lf_f c12 (lf_t c19 rfl))) I16)
abbrev rmX2_findFault : Room := { frames := 7, cells := 0, slots := 0, locals := 153 }
def f_X2_findFault_l8 : Nat → Nat → Int32 → St → St
  | 0, k8, a8_1, t8 => (t8)
  | n8 + 1, k8, a8_1, t8 => (if a8_1 = 0 then t8 else (if 150 ≤ (nI k8) then t8 else (let r20 := (f_X2_readCommand t8).1; let s20 := (f_X2_readCommand t8).2; (f_X2_findFault_l8 n8 (k8 + 1) r20 s20))))
def f_X2_findFault (σ : St) : Int32 × St := (let s1 := f_X2_rewind σ; (let u8 := (f_X2_findFault_l8 fu151 0 1 s1); (u8 0 3, u8)))
theorem v_X2_findFault : cvV yX2_findFault "NestedBells$CommandText" cX2_findFault 3 (some (.int)) 0 := ⟨q_2_47, q_2_48, q_1_7, q_2_49, rfl, by decide +kernel, by decide +kernel, by decide +kernel⟩
set_option maxHeartbeats 4000000 in
set_option maxRecDepth 100000 in
theorem L_X2_findFault_8 {l : Launch} {D : va_G} {T : Nat → ClassId} {g ad : Nat → Nat} {p : Program} {e : Env} {s : State} {m : MethodId} {below : List Frame} {meth : Method} {c : Code} {A : Nat → Prop} {Qw : State → Prop} (Z : en p m c cX2_findFault 3 s [.ref (ad 0)].toArray "NestedBells$CommandText" D T g A) : ∀ (n8 : Nat) (k8 : Nat) (a8_1 : Int32) (t8 : St) (H : Heap) (locs : List Loc) (ls : Array Slot), k8 ≤ 150 → 150 < k8 + n8 → InvX t8 → wo D A s.heap 3 ad (cE (xE g T ad) t8) H locs → lv_has ls 3 [(2, .int (nI k8)), (1, .int a8_1), (0, .ref (ad 0))] → (∀ (u8 : St) (H : Heap) (locs : List Loc) (ls : Array Slot), (f_X2_findFault_l8 n8 k8 a8_1 t8) = u8 → InvX u8 → wo D A s.heap 3 ad (cE (xE g T ad) u8) H locs → lv_has ls 3 [(0, .ref (ad 0))] → W p l e rmX2_findFault s m [.ref (ad 0)].toArray below meth c H locs 0 0 Qw (F0 m 30 ls [])) → W p l e rmX2_findFault s m [.ref (ad 0)].toArray below meth c H locs 0 0 Qw (F0 m 8 ls []) := by
  have hx := Z.1.1
  have hb := Z.1.2.1
  intro n8
  induction n8 with
  | zero =>
    intro k8 a8_1 t8 H locs ls hk8 hn8 It8 hw hl kk
    exact absurd hn8 (by omega)
  | succ n8 ih =>
    intro k8 a8_1 t8 H locs ls hk8 hn8 It8 hw hl kk
    refine lv_iload_n hx hb dX2_findFault_8 rfl (lv_at hl 1 rfl) ?_
    refine lv_if_eq (tgt := 30) hx hb dX2_findFault_9 (by decide) (fun c9 => ?_) (fun c9 => ?_)
    · exact kk _ H locs ls (Eq.symm (lf_t c9 rfl)) It8 hw (lv_sub hl [2] rfl)
    · refine lv_iload_n hx hb dX2_findFault_12 rfl (lv_at hl 0 rfl) ?_
      refine lv_sipush (v := 150) hx hb dX2_findFault_13 (by decide +kernel) ?_
      refine lv_icmp_ge (tgt := 30) hx hb dX2_findFault_16 (by decide) (fun c16 => ?_) (fun c16 => ?_)
      · exact kk _ H locs ls (Eq.symm (lf_f c9 (lf_t c16 rfl))) It8 hw (lv_sub hl [2] rfl)
      · have hkb8 : k8 < 150 := kb_ge c16 (by decide) hk8 (by decide)
        refine lv_aload_n hx hb dX2_findFault_19 rfl (lv_at hl 2 rfl) ?_
        refine bk_i (rnV (rest := []) Z hw (k_X2_readCommand  It8) v_X2_readCommand q_2_54 (0) (by decide) rfl ((fun _ => rfl) _) rfl rfl hl.1 rfl rfl (Nat.le_of_ble_eq_true rfl) ⟨(Nat.le_of_ble_eq_true rfl), (Nat.le_of_ble_eq_true rfl)⟩ ⟨(Nat.le_of_ble_eq_true rfl), (Nat.le_of_ble_eq_true rfl)⟩ dX2_findFault_20) hw Z (fun r20 s20 H locs hp hw => ?_)
        obtain ⟨er20, es20, I20⟩ := hp
        refine lv_istore_n (lv' := [(1, .int r20), (2, .int (nI k8)), (0, .ref (ad 0))]) hx hb dX2_findFault_23 rfl hl (by decide) rfl (fun ls hl => ?_)
        refine lv_iinc (v := nI (k8 + 1)) (lv' := [(2, .int (nI (k8 + 1))), (1, .int r20), (0, .ref (ad 0))]) hx hb dX2_findFault_24 hl (k := 1) rfl (nI_1 _) (by decide) rfl (fun ls hl => ?_)
        refine lv_goto (tgt := 8) hx hb dX2_findFault_27 (by decide) ?_
        exact ih (k8 + 1) r20 s20 H locs ls (by omega) (by omega) I20 hw (lv_sub hl [0, 1, 2] rfl) (fun u8 H locs ls eu8 I8 hw hl => kk u8 H locs ls (Eq.trans (Eq.symm (show (f_X2_findFault_l8 n8 (k8 + 1) r20 s20) = _ from (by subst es20 er20; exact (lf_f c9 (lf_f c16 rfl))))) eu8) I8 hw hl)
set_option maxHeartbeats 4000000 in
set_option maxRecDepth 100000 in
theorem k_X2_findFault {l : Launch} {D : va_G} {T : Nat → ClassId} {g ad : Nat → Nat} {σ : St} (I0 : InvX σ) : mX l yX2_findFault cX2_findFault 3 (some (.int)) rmX2_findFault D T g 3 ad (cE (xE g T ad) σ) [.ref (ad 0)] (qI D 3 ad (xE g T ad) (pI (f_X2_findFault σ) InvX)) := by
  refine mX.of (own := "NestedBells$CommandText") (by decide +kernel) (Nat.le_of_ble_eq_true rfl) rfl ?_
  intro p e s m below meth c A ls H locs Z hr hlk _ hw hl
  have hx := Z.1.1
  have hb := Z.1.2.1
  have hl : lv_has ls 3 [(0, .ref (ad 0))] := hl
  refine lv_aload_n hx hb dX2_findFault_0 rfl (lv_at hl 0 rfl) ?_
  refine bk_v (rnV (rest := []) Z hw (k_X2_rewind  I0) v_X2_rewind q_2_50 (0) (by decide) rfl ((fun _ => rfl) _) rfl rfl hl.1 rfl rfl (Nat.le_of_ble_eq_true rfl) ⟨(Nat.le_of_ble_eq_true rfl), (Nat.le_of_ble_eq_true rfl)⟩ ⟨(Nat.le_of_ble_eq_true rfl), (Nat.le_of_ble_eq_true rfl)⟩ dX2_findFault_1) hw Z (fun s1 H locs hp hw => ?_)
  obtain ⟨es1, I1⟩ := hp
  refine lv_iconst (v := 1) hx hb dX2_findFault_4 (by decide +kernel) ?_
  refine lv_istore_n (lv' := [(1, .int 1), (0, .ref (ad 0))]) hx hb dX2_findFault_5 rfl hl (by decide) rfl (fun ls hl => ?_)
  refine lv_iconst (v := 0) hx hb dX2_findFault_6 (by decide +kernel) ?_
  refine lv_istore_n (lv' := [(2, .int 0), (1, .int 1), (0, .ref (ad 0))]) hx hb dX2_findFault_7 rfl hl (by decide) rfl (fun ls hl => ?_)
  refine L_X2_findFault_8 Z fu151 0 1 s1 H locs ls (by omega) (by unfold fu151; omega) I1 hw (lv_sub hl [0, 1, 2] rfl) (fun u8 H locs ls eu8 I8 hw hl => ?_)
  refine lv_aload_n hx hb dX2_findFault_30 rfl (lv_at hl 0 rfl) ?_
  refine gO (C := "NestedBells$CommandText") (TC := TX2) (NF := 6) (ci := 0) (j := 3) (v := .int (u8 0 3)) Z hw (0) (by decide) rfl (fun _ => rfl) rfl iX2 (by decide) q_1_239 rfl rfl dX2_findFault_31 ?_
  exact rt_i Z hr hlk hw dX2_findFault_34 (pI.mk (by subst eu8 es1; exact rfl) I8)
