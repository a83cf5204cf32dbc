theorem sv_eq {x : Int32} {k : Nat} (h : 0 ≤ x.toInt ∧ x.toInt < 4) (hk : k < 381) : 381 * x + nI k = nI (381 * x.toNatClampNeg + k) := by
  obtain ⟨j, hj, rfl⟩ := of_nI (n := 4) h (by decide)
  rw [nI_clamp (by omega), show (381 : Int32) = nI 381 from rfl, pk_mul, nI_add]
theorem sv_nat {x : Int32} (h : 0 ≤ x.toInt ∧ x.toInt < 4) : x.toNatClampNeg < 4 := by
  have := tnc h.1
  omega
theorem sw_ix {x : Int32} {k : Nat} (h : 0 ≤ x.toInt ∧ x.toInt < 4) (hk : k < 381) : (381 * x + nI k).toNatClampNeg = 381 * x.toNatClampNeg + k := by
  have := sv_nat h
  rw [sv_eq h hk, nI_clamp (by omega)]
theorem sw_vp {x : Int32} {k : Nat} (h : 0 ≤ x.toInt ∧ x.toInt < 4) (hk : k < 381) : vp_in (381 * x + nI k) 1524 := by
  have := sv_nat h
  rw [sv_eq h hk]
  exact vp_in_nI (by omega) (by decide)
theorem sv_a {σ : St} (I : InvD σ) (h : ¬ σ 0 3 = 4) : 0 ≤ (σ 0 3).toInt ∧ (σ 0 3).toInt < 4 := by
  have h1 := I.2.2.2.1
  have h2 : (σ 0 3).toInt ≠ 4 := fun e => h (Int32.toInt_inj.mp e)
  omega
theorem sv_dec {x : Int32} (h : 0 ≤ x.toInt ∧ x.toInt ≤ 4) (h0 : ¬ x = 0) : 0 ≤ (x - 1).toInt ∧ (x - 1).toInt < 4 ∧ (x - 1).toInt = x.toInt - 1 := by
  obtain ⟨j, hj, rfl⟩ := of_nI (n := 5) ⟨h.1, by omega⟩ (by decide)
  have key : ∀ j, j < 5 → ¬ nI j = 0 → 0 ≤ (nI j - 1).toInt ∧ (nI j - 1).toInt < 4 ∧ (nI j - 1).toInt = (nI j).toInt - 1 := by decide +kernel
  exact key j hj h0
theorem sv_inc {x : Int32} (h : 0 ≤ x.toInt ∧ x.toInt < 4) : 0 ≤ (x + 1).toInt ∧ (x + 1).toInt ≤ 4 ∧ (x + 1).toInt = x.toInt + 1 := by
  obtain ⟨j, hj, rfl⟩ := of_nI (n := 4) h (by decide)
  have key : ∀ j, j < 4 → 0 ≤ (nI j + 1).toInt ∧ (nI j + 1).toInt ≤ 4 ∧ (nI j + 1).toInt = (nI j).toInt + 1 := by decide +kernel
  exact key j hj

theorem refused_st {σ : St} {v : Int32} : (f_X9_refused σ v).2 = up2 σ 0 4 v := by
  unfold f_X9_refused
  split <;> rfl
theorem ref0 {σ : St} {v r : Int32} (er : (f_X9_refused σ v).1 = r) (c : r = 0) : v ≤ 0 := by
  unfold f_X9_refused at er
  by_cases h : v ≤ 0
  · exact h
  · rw [if_neg h] at er
    rw [← er] at c
    exact absurd c (show ¬ (1 : Int32) = 0 by decide)
theorem tree_ne {r a t v : Int32} (ev : (if r = 0 then a else t) = v) (ha : ¬ a ≤ 0) (hv : v ≤ 0) : ¬ r = 0 := fun h => by
  rw [if_pos h] at ev
  rw [ev] at ha
  exact ha hv
theorem ud_ne {σ s : St} {v r : Int32} (er : (f_X9_refused σ v).1 = r) (es : (f_X9_refused σ v).2 = s) (ev : (if σ 0 3 = 0 then 1 else 0) = v) (c : r = 0) : ¬ s 0 3 = 0 := by
  rw [← es, refused_st]
  exact tree_ne ev (by decide) (ref0 er c)

abbrev rmX9_keeps : Room := { frames := 0, cells := 0, slots := 0, locals := 0 }
def f_X9_keeps_l2 : Nat → Nat → St → St
  | 0, k2, t2 => (t2)
  | n2 + 1, k2, t2 => (if 381 ≤ (nI k2) then t2 else (f_X9_keeps_l2 n2 (k2 + 1) (up2 t2 3 k2 (t2 1 k2))))
def f_X9_keeps (σ : St) : St := (let u2 := (f_X9_keeps_l2 fu382 0 σ); u2)
theorem keeps_l : ∀ (n k : Nat) (t : St), k ≤ 381 → 381 < k + n → f_X9_keeps_l2 n k t = fun a b => if a = 3 ∧ k ≤ b ∧ b < 381 then t 1 (b) else t a b
  | 0, k, t, hk, hn => absurd hn (by omega)
  | n + 1, k, t, hk, hn => by
    by_cases c : 381 ≤ nI k
    · have e : f_X9_keeps_l2 (n + 1) k t = t := if_pos c
      rw [show (381 : Int32) = nI 381 from rfl, i32_le, nI_toInt (by omega), nI_toInt (by omega)] at c
      rw [e]
      funext a b
      rw [if_neg (by omega)]
    · have hk1 := kb_ge c (B := 381) (by decide) hk (by decide)
      have e := show f_X9_keeps_l2 (n + 1) k t = _ from if_neg c
      rw [e]
      (try dsimp only)
      rw [keeps_l n (k + 1) _ (by omega) (by omega)]
      funext a b
      by_cases h1 : a = 3
      · subst h1
        by_cases h2 : (k + 1) ≤ b ∧ b < 381
        · rw [if_pos ⟨rfl, h2.1, h2.2⟩, if_pos ⟨rfl, by omega, by omega⟩]
          rw [up2_k (by decide)]
        · rw [if_neg (by omega)]
          by_cases h3 : b = k
          · subst h3
            rw [up2_s, if_pos ⟨rfl, by omega, by omega⟩]
            
          · rw [up2_j (by omega), if_neg (by omega)]
      · rw [if_neg (by omega), up2_k h1, if_neg (by omega)]
theorem keeps_inv {σ u : St} (e : f_X9_keeps_l2 fu382 0 σ = u) (I : InvD σ) : InvD u := by
  rw [keeps_l fu382 0 σ (by omega) (by unfold fu382; omega)] at e
  subst e
  obtain ⟨a, b, c, d, e2, f⟩ := I
  refine ⟨a.cong fun j _ => if_neg (by omega), a.cong fun j hj => if_pos ⟨rfl, by omega, by unfold crR at hj; omega⟩, fun q hq => (c q hq).cong fun j _ => if_neg (by omega), ?_, ?_, ?_⟩
  · exact d
  · exact e2
  · exact f

theorem v_X9_keeps : cvV yX9_keeps "NestedBellsModel" cX9_keeps 2 none 0 := ⟨q_6_7, s_69, q_1_10, q_6_8, rfl, by decide +kernel, by decide +kernel, by decide +kernel⟩
set_option maxHeartbeats 4000000 in
set_option maxRecDepth 100000 in
theorem L_X9_keeps_2 {l : Launch} {D : va_G} {T : Nat → ClassId} {g ad : Nat → Nat} {p : Program} {e : Env} {s : State} {m : MethodId} {below : List Frame} {meth : Method} {c : Code} {A : Nat → Prop} {Qw : State → Prop} (Z : en p m c cX9_keeps 2 s [.ref (ad 0)].toArray "NestedBellsModel" D T g A) : ∀ (n2 : Nat) (k2 : Nat) (t2 : St) (H : Heap) (locs : List Loc) (ls : Array Slot), k2 ≤ 381 → 381 < k2 + n2 → wo D A s.heap 6 ad (cE (dE T ad) t2) H locs → lv_has ls 2 [(1, .int (nI k2)), (0, .ref (ad 0))] → (∀ (u2 : St) (H : Heap) (locs : List Loc) (ls : Array Slot), (f_X9_keeps_l2 n2 k2 t2) = u2 → wo D A s.heap 6 ad (cE (dE T ad) u2) H locs → lv_has ls 2 [] → W p l e rmX9_keeps s m [.ref (ad 0)].toArray below meth c H locs 0 0 Qw (F0 m 27 ls [])) → W p l e rmX9_keeps s m [.ref (ad 0)].toArray below meth c H locs 0 0 Qw (F0 m 2 ls []) := by
  have hx := Z.1.1
  have hb := Z.1.2.1
  intro n2
  induction n2 with
  | zero =>
    intro k2 t2 H locs ls hk2 hn2 hw hl kk
    exact absurd hn2 (by omega)
  | succ n2 ih =>
    intro k2 t2 H locs ls hk2 hn2 hw hl kk
    refine lv_iload_n hx hb dX9_keeps_2 rfl (lv_at hl 0 rfl) ?_
    refine lv_sipush (v := 381) hx hb dX9_keeps_3 (by decide +kernel) ?_
    refine lv_icmp_ge (tgt := 27) hx hb dX9_keeps_6 (by decide) (fun c6 => ?_) (fun c6 => ?_)
    · exact kk _ H locs ls (Eq.symm (lf_t c6 rfl)) hw (lv_sub hl [] rfl)
    · have hkb2 : k2 < 381 := kb_ge c6 (by decide) hk2 (by decide)
      refine lv_aload_n hx hb dX9_keeps_9 rfl (lv_at hl 1 rfl) ?_
      refine gD (j := 2) (v := .ref (ad 3)) Z hw  (by decide) q_4_214 rfl rfl dX9_keeps_10 ?_
      refine lv_iload_n hx hb dX9_keeps_13 rfl (lv_at hl 0 rfl) ?_
      refine lv_aload_n hx hb dX9_keeps_14 rfl (lv_at hl 1 rfl) ?_
      refine gD (j := 0) (v := .ref (ad 1)) Z hw  (by decide) q_4_212 rfl rfl dX9_keeps_15 ?_
      refine lv_iload_n hx hb dX9_keeps_18 rfl (lv_at hl 0 rfl) ?_
      refine aE (v := t2 1 k2) Z hw 1 (by decide) rfl (fun _ => rfl) (vp_in_nI (by omega) (by decide)) ((congrArg (t2 1) (nI_clamp (by omega))).trans rfl) dX9_keeps_19 ?_
      refine sE (j := k2) Z hw 3 (by decide) rfl (fun _ => rfl) (vp_in_nI (by omega) (by decide)) (nI_clamp (by omega)) dX9_keeps_20 (fun H locs hw => ?_)
      refine lv_iinc (v := nI (k2 + 1)) (lv' := [(1, .int (nI (k2 + 1))), (0, .ref (ad 0))]) hx hb dX9_keeps_21 hl (k := 0) rfl (nI_1 _) (by decide) rfl (fun ls hl => ?_)
      refine lv_goto (tgt := 2) hx hb dX9_keeps_24 (by decide) ?_
      exact ih (k2 + 1) (up2 t2 3 k2 (t2 1 k2)) H locs ls (by omega) (by omega) hw (lv_sub hl [0, 1] rfl) (fun u2 H locs ls eu2 hw hl => kk u2 H locs ls (Eq.trans (Eq.symm (show (f_X9_keeps_l2 n2 (k2 + 1) (up2 t2 3 k2 (t2 1 k2))) = _ from (lf_f c6 rfl))) eu2) hw hl)
set_option maxHeartbeats 4000000 in
set_option maxRecDepth 100000 in
theorem k_X9_keeps {l : Launch} {D : va_G} {T : Nat → ClassId} {g ad : Nat → Nat} {σ : St} (I0 : InvD σ) : mX l yX9_keeps cX9_keeps 2 none rmX9_keeps D T g 6 ad (cE (dE T ad) σ) [.ref (ad 0)] (qV D 6 ad (dE T ad) (pV (f_X9_keeps σ) InvD)) := by
  refine mX.of (own := "NestedBellsModel") (by decide +kernel) (Nat.le_of_ble_eq_true rfl) rfl ?_
  intro p e s m below meth c A ls H locs Z hr hlk _ hw hl
  have hx := Z.1.1
  have hb := Z.1.2.1
  have hl : lv_has ls 2 [(0, .ref (ad 0))] := hl
  refine lv_iconst (v := 0) hx hb dX9_keeps_0 (by decide +kernel) ?_
  refine lv_istore_n (lv' := [(1, .int 0), (0, .ref (ad 0))]) hx hb dX9_keeps_1 rfl hl (by decide) rfl (fun ls hl => ?_)
  refine L_X9_keeps_2 Z fu382 0 σ H locs ls (by omega) (by unfold fu382; omega) hw (lv_sub hl [0, 1] rfl) (fun u2 H locs ls eu2 hw hl => ?_)
  have I2 := keeps_inv eu2 I0
  exact rt_v Z hr hlk hw dX9_keeps_27 ⟨Eq.symm (by subst eu2; exact rfl), I2⟩
abbrev rmX9_takesBack : Room := { frames := 0, cells := 0, slots := 0, locals := 0 }
def f_X9_takesBack_l2 : Nat → Nat → St → St
  | 0, k2, t2 => (t2)
  | n2 + 1, k2, t2 => (if 381 ≤ (nI k2) then t2 else (f_X9_takesBack_l2 n2 (k2 + 1) (up2 t2 1 k2 (t2 3 k2))))
def f_X9_takesBack (σ : St) : St := (let u2 := (f_X9_takesBack_l2 fu382 0 σ); u2)
theorem takes_l : ∀ (n k : Nat) (t : St), k ≤ 381 → 381 < k + n → f_X9_takesBack_l2 n k t = fun a b => if a = 1 ∧ k ≤ b ∧ b < 381 then t 3 (b) else t a b
  | 0, k, t, hk, hn => absurd hn (by omega)
  | n + 1, k, t, hk, hn => by
    by_cases c : 381 ≤ nI k
    · have e : f_X9_takesBack_l2 (n + 1) k t = t := if_pos c
      rw [show (381 : Int32) = nI 381 from rfl, i32_le, nI_toInt (by omega), nI_toInt (by omega)] at c
      rw [e]
      funext a b
      rw [if_neg (by omega)]
    · have hk1 := kb_ge c (B := 381) (by decide) hk (by decide)
      have e := show f_X9_takesBack_l2 (n + 1) k t = _ from if_neg c
      rw [e]
      (try dsimp only)
      rw [takes_l n (k + 1) _ (by omega) (by omega)]
      funext a b
      by_cases h1 : a = 1
      · subst h1
        by_cases h2 : (k + 1) ≤ b ∧ b < 381
        · rw [if_pos ⟨rfl, h2.1, h2.2⟩, if_pos ⟨rfl, by omega, by omega⟩]
          rw [up2_k (by decide)]
        · rw [if_neg (by omega)]
          by_cases h3 : b = k
          · subst h3
            rw [up2_s, if_pos ⟨rfl, by omega, by omega⟩]
            
          · rw [up2_j (by omega), if_neg (by omega)]
      · rw [if_neg (by omega), up2_k h1, if_neg (by omega)]
theorem takes_inv {σ u : St} (e : f_X9_takesBack_l2 fu382 0 σ = u) (I : InvD σ) : InvD u := by
  rw [takes_l fu382 0 σ (by omega) (by unfold fu382; omega)] at e
  subst e
  obtain ⟨a, b, c, d, e2, f⟩ := I
  refine ⟨b.cong fun j hj => if_pos ⟨rfl, by omega, by unfold crR at hj; omega⟩, b.cong fun j _ => if_neg (by omega), fun q hq => (c q hq).cong fun j _ => if_neg (by omega), ?_, ?_, ?_⟩
  · exact d
  · exact e2
  · exact f

theorem v_X9_takesBack : cvV yX9_takesBack "NestedBellsModel" cX9_takesBack 2 none 0 := ⟨q_6_15, s_71, q_1_10, q_6_16, rfl, by decide +kernel, by decide +kernel, by decide +kernel⟩
set_option maxHeartbeats 4000000 in
set_option maxRecDepth 100000 in
theorem L_X9_takesBack_2 {l : Launch} {D : va_G} {T : Nat → ClassId} {g ad : Nat → Nat} {p : Program} {e : Env} {s : State} {m : MethodId} {below : List Frame} {meth : Method} {c : Code} {A : Nat → Prop} {Qw : State → Prop} (Z : en p m c cX9_takesBack 2 s [.ref (ad 0)].toArray "NestedBellsModel" D T g A) : ∀ (n2 : Nat) (k2 : Nat) (t2 : St) (H : Heap) (locs : List Loc) (ls : Array Slot), k2 ≤ 381 → 381 < k2 + n2 → wo D A s.heap 6 ad (cE (dE T ad) t2) H locs → lv_has ls 2 [(1, .int (nI k2)), (0, .ref (ad 0))] → (∀ (u2 : St) (H : Heap) (locs : List Loc) (ls : Array Slot), (f_X9_takesBack_l2 n2 k2 t2) = u2 → wo D A s.heap 6 ad (cE (dE T ad) u2) H locs → lv_has ls 2 [] → W p l e rmX9_takesBack s m [.ref (ad 0)].toArray below meth c H locs 0 0 Qw (F0 m 27 ls [])) → W p l e rmX9_takesBack s m [.ref (ad 0)].toArray below meth c H locs 0 0 Qw (F0 m 2 ls []) := by
  have hx := Z.1.1
  have hb := Z.1.2.1
  intro n2
  induction n2 with
  | zero =>
    intro k2 t2 H locs ls hk2 hn2 hw hl kk
    exact absurd hn2 (by omega)
  | succ n2 ih =>
    intro k2 t2 H locs ls hk2 hn2 hw hl kk
    refine lv_iload_n hx hb dX9_takesBack_2 rfl (lv_at hl 0 rfl) ?_
    refine lv_sipush (v := 381) hx hb dX9_takesBack_3 (by decide +kernel) ?_
    refine lv_icmp_ge (tgt := 27) hx hb dX9_takesBack_6 (by decide) (fun c6 => ?_) (fun c6 => ?_)
    · exact kk _ H locs ls (Eq.symm (lf_t c6 rfl)) hw (lv_sub hl [] rfl)
    · have hkb2 : k2 < 381 := kb_ge c6 (by decide) hk2 (by decide)
      refine lv_aload_n hx hb dX9_takesBack_9 rfl (lv_at hl 1 rfl) ?_
      refine gD (j := 0) (v := .ref (ad 1)) Z hw  (by decide) q_4_212 rfl rfl dX9_takesBack_10 ?_
      refine lv_iload_n hx hb dX9_takesBack_13 rfl (lv_at hl 0 rfl) ?_
      refine lv_aload_n hx hb dX9_takesBack_14 rfl (lv_at hl 1 rfl) ?_
      refine gD (j := 2) (v := .ref (ad 3)) Z hw  (by decide) q_4_214 rfl rfl dX9_takesBack_15 ?_
      refine lv_iload_n hx hb dX9_takesBack_18 rfl (lv_at hl 0 rfl) ?_
      refine aE (v := t2 3 k2) Z hw 3 (by decide) rfl (fun _ => rfl) (vp_in_nI (by omega) (by decide)) ((congrArg (t2 3) (nI_clamp (by omega))).trans rfl) dX9_takesBack_19 ?_
      refine sE (j := k2) Z hw 1 (by decide) rfl (fun _ => rfl) (vp_in_nI (by omega) (by decide)) (nI_clamp (by omega)) dX9_takesBack_20 (fun H locs hw => ?_)
      refine lv_iinc (v := nI (k2 + 1)) (lv' := [(1, .int (nI (k2 + 1))), (0, .ref (ad 0))]) hx hb dX9_takesBack_21 hl (k := 0) rfl (nI_1 _) (by decide) rfl (fun ls hl => ?_)
      refine lv_goto (tgt := 2) hx hb dX9_takesBack_24 (by decide) ?_
      exact ih (k2 + 1) (up2 t2 1 k2 (t2 3 k2)) H locs ls (by omega) (by omega) hw (lv_sub hl [0, 1] rfl) (fun u2 H locs ls eu2 hw hl => kk u2 H locs ls (Eq.trans (Eq.symm (show (f_X9_takesBack_l2 n2 (k2 + 1) (up2 t2 1 k2 (t2 3 k2))) = _ from (lf_f c6 rfl))) eu2) hw hl)
set_option maxHeartbeats 4000000 in
set_option maxRecDepth 100000 in
theorem k_X9_takesBack {l : Launch} {D : va_G} {T : Nat → ClassId} {g ad : Nat → Nat} {σ : St} (I0 : InvD σ) : mX l yX9_takesBack cX9_takesBack 2 none rmX9_takesBack D T g 6 ad (cE (dE T ad) σ) [.ref (ad 0)] (qV D 6 ad (dE T ad) (pV (f_X9_takesBack σ) InvD)) := by
  refine mX.of (own := "NestedBellsModel") (by decide +kernel) (Nat.le_of_ble_eq_true rfl) rfl ?_
  intro p e s m below meth c A ls H locs Z hr hlk _ hw hl
  have hx := Z.1.1
  have hb := Z.1.2.1
  have hl : lv_has ls 2 [(0, .ref (ad 0))] := hl
  refine lv_iconst (v := 0) hx hb dX9_takesBack_0 (by decide +kernel) ?_
  refine lv_istore_n (lv' := [(1, .int 0), (0, .ref (ad 0))]) hx hb dX9_takesBack_1 rfl hl (by decide) rfl (fun ls hl => ?_)
  refine L_X9_takesBack_2 Z fu382 0 σ H locs ls (by omega) (by unfold fu382; omega) hw (lv_sub hl [0, 1] rfl) (fun u2 H locs ls eu2 hw hl => ?_)
  have I2 := takes_inv eu2 I0
  exact rt_v Z hr hlk hw dX9_takesBack_27 ⟨Eq.symm (by subst eu2; exact rfl), I2⟩
abbrev rmX9_undo : Room := { frames := 1, cells := 0, slots := 0, locals := 21 }
def f_X9_undo_l33 : Nat → Nat → St → St
  | 0, k33, t33 => (t33)
  | n33 + 1, k33, t33 => (if 381 ≤ (nI k33) then t33 else (f_X9_undo_l33 n33 (k33 + 1) (up2 t33 1 k33 (t33 2 (381 * (t33 0 3).toNatClampNeg + k33)))))
def f_X9_undo (σ : St) : Int32 × St := (let v13 : Int32 := (if (σ 0 3) = 0 then 1 else 0); (let r13 := (f_X9_refused σ v13).1; let s13 := (f_X9_refused σ v13).2; (if r13 = 0 then (let u33 := (f_X9_undo_l33 fu382 0 (up2 s13 0 3 ((s13 0 3) - 1))); (u33 0 3, u33)) else (0, s13))))
theorem undo_l : ∀ (n k : Nat) (t : St), k ≤ 381 → 381 < k + n → (0 ≤ (t 0 3).toInt ∧ (t 0 3).toInt < 4) → f_X9_undo_l33 n k t = fun a b => if a = 1 ∧ k ≤ b ∧ b < 381 then t 2 (381 * (t 0 3).toNatClampNeg + b) else t a b
  | 0, k, t, hk, hn, _ => absurd hn (by omega)
  | n + 1, k, t, hk, hn, hs => by
    by_cases c : 381 ≤ nI k
    · have e : f_X9_undo_l33 (n + 1) k t = t := if_pos c
      rw [show (381 : Int32) = nI 381 from rfl, i32_le, nI_toInt (by omega), nI_toInt (by omega)] at c
      rw [e]
      funext a b
      rw [if_neg (by omega)]
    · have hk1 := kb_ge c (B := 381) (by decide) hk (by decide)
      have e := show f_X9_undo_l33 (n + 1) k t = _ from if_neg c
      rw [e]
      rw [undo_l n (k + 1) _ (by omega) (by omega) (by rw [up2_k (by decide)]; exact hs)]
      rw [up2_k (a := 0) (b := 3) (k := 1) (by decide)]
      funext a b
      by_cases h1 : a = 1
      · subst h1
        by_cases h2 : k + 1 ≤ b ∧ b < 381
        · rw [if_pos ⟨rfl, h2.1, h2.2⟩, if_pos ⟨rfl, by omega, by omega⟩, up2_k (by decide)]
        · rw [if_neg (by omega)]
          by_cases h3 : b = k
          · subst h3
            rw [up2_s, if_pos ⟨rfl, by omega, by omega⟩]
          · rw [up2_j (by omega), if_neg (by omega)]
      · rw [if_neg (by omega), up2_k h1, if_neg (by omega)]
theorem undo_inv {σ u : St} (e : f_X9_undo_l33 fu382 0 σ = u) (I : InvD σ) (hs : 0 ≤ (σ 0 3).toInt ∧ (σ 0 3).toInt < 4) : InvD u := by
  rw [undo_l fu382 0 σ (by omega) (by unfold fu382; omega) hs] at e
  subst e
  obtain ⟨a, b, c, d, e2, f⟩ := I
  refine ⟨(c _ (sv_nat hs)).cong fun j hj => if_pos ⟨rfl, by omega, by unfold crR at hj; omega⟩, b.cong fun j _ => if_neg (by omega), fun q hq => (c q hq).cong fun j _ => if_neg (by omega), ?_, ?_, ?_⟩
  · exact d
  · exact e2
  · exact f

theorem v_X9_undo : cvV yX9_undo "NestedBellsModel" cX9_undo 2 (some (.int)) 0 := ⟨q_5_14, q_5_15, q_1_10, q_5_16, rfl, by decide +kernel, by decide +kernel, by decide +kernel⟩
set_option maxHeartbeats 4000000 in
set_option maxRecDepth 100000 in
theorem L_X9_undo_33 {l : Launch} {D : va_G} {T : Nat → ClassId} {g ad : Nat → Nat} {p : Program} {e : Env} {s : State} {m : MethodId} {below : List Frame} {meth : Method} {c : Code} {A : Nat → Prop} {Qw : State → Prop} (Z : en p m c cX9_undo 2 s [.ref (ad 0)].toArray "NestedBellsModel" D T g A) : ∀ (n33 : Nat) (k33 : Nat) (t33 : St) (H : Heap) (locs : List Loc) (ls : Array Slot), k33 ≤ 381 → 381 < k33 + n33 → 0 ≤ (t33 0 3).toInt ∧ (t33 0 3).toInt < 4 → wo D A s.heap 6 ad (cE (dE T ad) t33) H locs → lv_has ls 2 [(1, .int (nI k33)), (0, .ref (ad 0))] → (∀ (u33 : St) (H : Heap) (locs : List Loc) (ls : Array Slot), (f_X9_undo_l33 n33 k33 t33) = u33 → 0 ≤ (u33 0 3).toInt ∧ (u33 0 3).toInt < 4 → wo D A s.heap 6 ad (cE (dE T ad) u33) H locs → lv_has ls 2 [(0, .ref (ad 0))] → W p l e rmX9_undo s m [.ref (ad 0)].toArray below meth c H locs 0 0 Qw (F0 m 67 ls [])) → W p l e rmX9_undo s m [.ref (ad 0)].toArray below meth c H locs 0 0 Qw (F0 m 33 ls []) := by
  have hx := Z.1.1
  have hb := Z.1.2.1
  intro n33
  induction n33 with
  | zero =>
    intro k33 t33 H locs ls hk33 hn33 hv33 hw hl kk
    exact absurd hn33 (by omega)
  | succ n33 ih =>
    intro k33 t33 H locs ls hk33 hn33 hv33 hw hl kk
    refine lv_iload_n hx hb dX9_undo_33 rfl (lv_at hl 0 rfl) ?_
    refine lv_sipush (v := 381) hx hb dX9_undo_34 (by decide +kernel) ?_
    refine lv_icmp_ge (tgt := 67) hx hb dX9_undo_37 (by decide) (fun c37 => ?_) (fun c37 => ?_)
    · exact kk _ H locs ls (Eq.symm (lf_t c37 rfl)) hv33 hw (lv_sub hl [1] rfl)
    · have hkb33 : k33 < 381 := kb_ge c37 (by decide) hk33 (by decide)
      refine lv_aload_n hx hb dX9_undo_40 rfl (lv_at hl 1 rfl) ?_
      refine gD (j := 0) (v := .ref (ad 1)) Z hw  (by decide) q_4_212 rfl rfl dX9_undo_41 ?_
      refine lv_iload_n hx hb dX9_undo_44 rfl (lv_at hl 0 rfl) ?_
      refine lv_aload_n hx hb dX9_undo_45 rfl (lv_at hl 1 rfl) ?_
      refine gD (j := 1) (v := .ref (ad 2)) Z hw  (by decide) q_4_213 rfl rfl dX9_undo_46 ?_
      refine lv_sipush (v := 381) hx hb dX9_undo_49 (by decide +kernel) ?_
      refine lv_aload_n hx hb dX9_undo_52 rfl (lv_at hl 1 rfl) ?_
      refine gD (j := 3) (v := .int (t33 0 3)) Z hw  (by decide) q_4_215 rfl rfl dX9_undo_53 ?_
      refine lv_imul hx hb dX9_undo_56 ?_
      refine lv_iload_n hx hb dX9_undo_57 rfl (lv_at hl 0 rfl) ?_
      refine lv_iadd hx hb dX9_undo_58 ?_
      refine aE (v := t33 2 (381 * (t33 0 3).toNatClampNeg + k33)) Z hw 2 (by decide) rfl (fun _ => rfl) (sw_vp hv33 (by omega)) ((congrArg (t33 2) (sw_ix hv33 (by omega))).trans rfl) dX9_undo_59 ?_
      refine sE (j := k33) Z hw 1 (by decide) rfl (fun _ => rfl) (vp_in_nI (by omega) (by decide)) (nI_clamp (by omega)) dX9_undo_60 (fun H locs hw => ?_)
      refine lv_iinc (v := nI (k33 + 1)) (lv' := [(1, .int (nI (k33 + 1))), (0, .ref (ad 0))]) hx hb dX9_undo_61 hl (k := 0) rfl (nI_1 _) (by decide) rfl (fun ls hl => ?_)
      refine lv_goto (tgt := 33) hx hb dX9_undo_64 (by decide) ?_
      exact ih (k33 + 1) (up2 t33 1 k33 (t33 2 (381 * (t33 0 3).toNatClampNeg + k33))) H locs ls (by omega) (by omega) (by rw [up2_k (by decide)]; exact hv33) hw (lv_sub hl [0, 1] rfl) (fun u33 H locs ls eu33 hv33y hw hl => kk u33 H locs ls (Eq.trans (Eq.symm (show (f_X9_undo_l33 n33 (k33 + 1) (up2 t33 1 k33 (t33 2 (381 * (t33 0 3).toNatClampNeg + k33)))) = _ from (lf_f c37 rfl))) eu33) hv33y hw hl)
set_option maxHeartbeats 4000000 in
set_option maxRecDepth 100000 in
theorem k_X9_undo {l : Launch} {D : va_G} {T : Nat → ClassId} {g ad : Nat → Nat} {σ : St} (I0 : InvD σ) : mX l yX9_undo cX9_undo 2 (some (.int)) rmX9_undo D T g 6 ad (cE (dE T ad) σ) [.ref (ad 0)] (qI D 6 ad (dE T ad) (pI (f_X9_undo σ) InvD)) := by
  refine mX.of (own := "NestedBellsModel") (by decide +kernel) (Nat.le_of_ble_eq_true rfl) rfl ?_
  intro p e s m below meth c A ls H locs Z hr hlk _ hw hl
  have hx := Z.1.1
  have hb := Z.1.2.1
  have hl : lv_has ls 2 [(0, .ref (ad 0))] := hl
  refine lv_aload_n hx hb dX9_undo_0 rfl (lv_at hl 0 rfl) ?_
  refine lv_aload_n hx hb dX9_undo_1 rfl (lv_at hl 0 rfl) ?_
  refine gD (j := 3) (v := .int (σ 0 3)) Z hw  (by decide) q_4_215 rfl rfl dX9_undo_2 ?_
  have hj13 : ∀ (v13 : Int32) (H : Heap) (locs : List Loc) (ls : Array Slot), ((if (σ 0 3) = 0 then 1 else 0) : Int32) = v13 → wo D A s.heap 6 ad (cE (dE T ad) σ) H locs → lv_has ls 2 [(0, .ref (ad 0))] → W p l e rmX9_undo s m [.ref (ad 0)].toArray below meth c H locs 0 0 (MQ below (qI D 6 ad (dE T ad) (pI (f_X9_undo σ) InvD) A) [.ref (ad 0)].toArray s rmX9_undo.cells rmX9_undo.slots A) (F0 m 13 ls [.int v13, .ref (ad 0)]) := by
    intro v13 H locs ls ev13 hw hl
    refine bk_i (rnV (rest := []) Z hw (k_X9_refused (p1 := v13) I0) v_X9_refused q_5_17 (0) (by decide) rfl rfl rfl rfl hl.1 rfl rfl (Nat.le_of_ble_eq_true rfl) ⟨(Nat.le_of_ble_eq_true rfl), (Nat.le_of_ble_eq_true rfl)⟩ ⟨(Nat.le_of_ble_eq_true rfl), (Nat.le_of_ble_eq_true rfl)⟩ dX9_undo_13) hw Z (fun r13 s13 H locs hp hw => ?_)
    obtain ⟨er13, es13, I13⟩ := hp
    refine lv_if_eq (tgt := 21) hx hb dX9_undo_16 (by decide) (fun c16 => ?_) (fun c16 => ?_)
    · have hne : ¬ s13 0 3 = 0 := ud_ne er13 es13 ev13 c16
      refine lv_aload_n hx hb dX9_undo_21 rfl (lv_at hl 0 rfl) ?_
      refine lv_dup hx hb dX9_undo_22 rfl ?_
      refine gD (j := 3) (v := .int (s13 0 3)) Z hw  (by decide) q_4_215 rfl rfl dX9_undo_23 ?_
      refine lv_iconst (v := 1) hx hb dX9_undo_26 (by decide +kernel) ?_
      refine lv_isub hx hb dX9_undo_27 ?_
      refine pD (j := 3) Z hw  (by decide) q_4_215 rfl rfl rfl rfl dX9_undo_28 (fun H locs hw => ?_)
      refine lv_iconst (v := 0) hx hb dX9_undo_31 (by decide +kernel) ?_
      refine lv_istore_n (lv' := [(1, .int 0), (0, .ref (ad 0))]) hx hb dX9_undo_32 rfl hl (by decide) rfl (fun ls hl => ?_)
      refine L_X9_undo_33 Z fu382 0 (up2 s13 0 3 ((s13 0 3) - 1)) H locs ls (by omega) (by unfold fu382; omega) (by rw [up2_s]; exact ⟨(sv_dec I13.2.2.2.1 hne).1, (sv_dec I13.2.2.2.1 hne).2.1⟩) hw (lv_sub hl [0, 1] rfl) (fun u33 H locs ls eu33 hv33x hw hl => ?_)
      have I33 := undo_inv eu33 (InvD.up0 I13 ⟨fun _ => ⟨(sv_dec I13.2.2.2.1 hne).1, by have := (sv_dec I13.2.2.2.1 hne).2.1; omega⟩, fun h => absurd h (by decide), fun h => absurd h (by decide)⟩) (by rw [up2_s]; exact ⟨(sv_dec I13.2.2.2.1 hne).1, (sv_dec I13.2.2.2.1 hne).2.1⟩)
      refine lv_aload_n hx hb dX9_undo_67 rfl (lv_at hl 0 rfl) ?_
      refine gD (j := 3) (v := .int (u33 0 3)) Z hw  (by decide) q_4_215 rfl rfl dX9_undo_68 ?_
      exact rt_i Z hr hlk hw dX9_undo_71 (pI.mk (by subst eu33 es13 er13 ev13; exact (lf_t c16 rfl)) I33)
    · refine lv_iconst (v := 0) hx hb dX9_undo_19 (by decide +kernel) ?_
      exact rt_i Z hr hlk hw dX9_undo_20 (pI.mk (by subst es13 er13 ev13; exact (lf_f c16 rfl)) I13)
  refine lv_if_ne (tgt := 12) hx hb dX9_undo_5 (by decide) (fun c5 => ?_) (fun c5 => ?_)
  · refine lv_iconst (v := 0) hx hb dX9_undo_12 (by decide +kernel) ?_
    exact hj13 _ H locs ls (Eq.symm (lf_f c5 rfl)) hw (lv_sub hl [0] rfl)
  · refine lv_iconst (v := 1) hx hb dX9_undo_8 (by decide +kernel) ?_
    refine lv_goto (tgt := 13) hx hb dX9_undo_9 (by decide) ?_
    exact hj13 _ H locs ls (Eq.symm (lf_t c5 rfl)) hw (lv_sub hl [0] rfl)
abbrev rmX9_saves : Room := { frames := 0, cells := 0, slots := 0, locals := 0 }
def f_X9_saves_l51 : Nat → Nat → St → St
  | 0, k51, t51 => (t51)
  | n51 + 1, k51, t51 => (if 381 ≤ (nI k51) then t51 else (f_X9_saves_l51 n51 (k51 + 1) (up2 t51 2 (381 * (t51 0 3).toNatClampNeg + k51) (t51 1 k51))))
def f_X9_saves_l10 : Nat → Nat → St → St
  | 0, k10, t10 => (t10)
  | n10 + 1, k10, t10 => (if 1143 ≤ (nI k10) then t10 else (f_X9_saves_l10 n10 (k10 + 1) (up2 t10 2 k10 (t10 2 (k10 + 381)))))
def f_X9_saves (σ : St) : St := (if (σ 0 3) = 4 then (let u10 := (f_X9_saves_l10 fu1144 0 σ); (let u51 := (f_X9_saves_l51 fu382 0 (up2 u10 0 3 ((u10 0 3) - 1))); up2 u51 0 3 ((u51 0 3) + 1))) else (let u51 := (f_X9_saves_l51 fu382 0 σ); up2 u51 0 3 ((u51 0 3) + 1)))
theorem shift_l : ∀ (n k : Nat) (t : St), k ≤ 1143 → 1143 < k + n → f_X9_saves_l10 n k t = fun a b => if a = 2 ∧ k ≤ b ∧ b < 1143 then t 2 (b + 381) else t a b
  | 0, k, t, hk, hn => absurd hn (by omega)
  | n + 1, k, t, hk, hn => by
    by_cases c : 1143 ≤ nI k
    · have e : f_X9_saves_l10 (n + 1) k t = t := if_pos c
      rw [show (1143 : Int32) = nI 1143 from rfl, i32_le, nI_toInt (by omega), nI_toInt (by omega)] at c
      rw [e]
      funext a b
      rw [if_neg (by omega)]
    · have hk1 := kb_ge c (B := 1143) (by decide) hk (by decide)
      have e := show f_X9_saves_l10 (n + 1) k t = _ from if_neg c
      rw [e]
      (try dsimp only)
      rw [shift_l n (k + 1) _ (by omega) (by omega)]
      funext a b
      by_cases h1 : a = 2
      · subst h1
        by_cases h2 : (k + 1) ≤ b ∧ b < 1143
        · rw [if_pos ⟨rfl, h2.1, h2.2⟩, if_pos ⟨rfl, by omega, by omega⟩]
          rw [up2_j (by omega)]
        · rw [if_neg (by omega)]
          by_cases h3 : b = k
          · subst h3
            rw [up2_s, if_pos ⟨rfl, by omega, by omega⟩]
            (try exact congrArg (t 2) (by omega))
          · rw [up2_j (by omega), if_neg (by omega)]
      · rw [if_neg (by omega), up2_k h1, if_neg (by omega)]
theorem store_l : ∀ (n k : Nat) (t : St), k ≤ 381 → 381 < k + n → f_X9_saves_l51 n k t = fun a b => if a = 2 ∧ 381 * (t 0 3).toNatClampNeg + k ≤ b ∧ b < 381 * (t 0 3).toNatClampNeg + 381 then t 1 (b - 381 * (t 0 3).toNatClampNeg) else t a b
  | 0, k, t, hk, hn => absurd hn (by omega)
  | n + 1, k, t, hk, hn => by
    by_cases c : 381 ≤ nI k
    · have e : f_X9_saves_l51 (n + 1) k t = t := if_pos c
      rw [show (381 : Int32) = nI 381 from rfl, i32_le, nI_toInt (by omega), nI_toInt (by omega)] at c
      rw [e]
      funext a b
      rw [if_neg (by omega)]
    · have hk1 := kb_ge c (B := 381) (by decide) hk (by decide)
      have e := show f_X9_saves_l51 (n + 1) k t = _ from if_neg c
      rw [e]
      rw [store_l n (k + 1) _ (by omega) (by omega)]
      rw [up2_k (a := 0) (b := 3) (k := 2) (by decide)]
      funext a b
      by_cases h1 : a = 2
      · subst h1
        by_cases h2 : 381 * (t 0 3).toNatClampNeg + (k + 1) ≤ b ∧ b < 381 * (t 0 3).toNatClampNeg + 381
        · rw [if_pos ⟨rfl, h2.1, h2.2⟩, if_pos ⟨rfl, by omega, by omega⟩, up2_k (by decide)]
        · rw [if_neg (by omega)]
          by_cases h3 : b = 381 * (t 0 3).toNatClampNeg + k
          · subst h3
            rw [up2_s, if_pos ⟨rfl, by omega, by omega⟩]
            exact congrArg (t 1) (by omega)
          · rw [up2_j (by omega), if_neg (by omega)]
      · rw [if_neg (by omega), up2_k h1, if_neg (by omega)]
/-- what a save leaves while there is room -/
theorem saves_a {σ : St} (hs : ¬ σ 0 3 = 4) : f_X9_saves σ = up2 (fun a b => if a = 2 ∧ 381 * (σ 0 3).toNatClampNeg ≤ b ∧ b < 381 * (σ 0 3).toNatClampNeg + 381 then σ 1 (b - 381 * (σ 0 3).toNatClampNeg) else σ a b) 0 3 (σ 0 3 + 1) := by
  have e := show f_X9_saves σ = _ from if_neg hs
  rw [e]
  dsimp only
  rw [store_l fu382 0 σ (by omega) (by unfold fu382; omega)]
  have e3 : (fun a b => if a = 2 ∧ 381 * (σ 0 3).toNatClampNeg + 0 ≤ b ∧ b < 381 * (σ 0 3).toNatClampNeg + 381 then σ 1 (b - 381 * (σ 0 3).toNatClampNeg) else σ a b) 0 3 = σ 0 3 := if_neg (by omega)
  rw [e3]
  rfl
/-- and when there is none -/
theorem saves_b {σ : St} (hs : σ 0 3 = 4) : f_X9_saves σ = up2 (fun a b => if a = 2 ∧ 1143 ≤ b ∧ b < 1524 then σ 1 (b - 1143) else if a = 2 ∧ b < 1143 then σ 2 (b + 381) else if a = 0 ∧ b = 3 then 3 else σ a b) 0 3 4 := by
  have e := show f_X9_saves σ = _ from if_pos hs
  rw [e]
  dsimp only
  rw [shift_l fu1144 0 σ (by omega) (by unfold fu1144; omega), store_l fu382 0 _ (by omega) (by unfold fu382; omega)]
  obtain ⟨τ, hτ⟩ : ∃ τ : St, τ = fun a b => if a = 2 ∧ 0 ≤ b ∧ b < 1143 then σ 2 (b + 381) else σ a b := ⟨_, rfl⟩
  rw [← hτ]
  have h03 : τ 0 3 = 4 := by rw [hτ]; exact (if_neg (by omega)).trans hs
  have e3 : up2 τ 0 3 (τ 0 3 - 1) 0 3 = 3 := by rw [up2_s, h03]; rfl
  rw [e3, show (3 : Int32).toNatClampNeg = 3 from rfl]
  funext a b
  by_cases h0 : a = 0 ∧ b = 3
  · obtain ⟨rfl, rfl⟩ := h0
    rw [up2_s, up2_s]
    have e4 := (show (if 0 = 2 ∧ 381 * 3 + 0 ≤ 3 ∧ 3 < 381 * 3 + 381 then up2 τ 0 3 (τ 0 3 - 1) 1 (3 - 381 * 3) else up2 τ 0 3 (τ 0 3 - 1) 0 3) = 3 from (if_neg (by omega)).trans e3)
    exact (congrArg (· + 1) e4).trans (by decide)
  · refine Eq.trans (if_neg h0) (Eq.trans ?_ (if_neg h0).symm)
    by_cases h1 : a = 2 ∧ 1143 ≤ b ∧ b < 1524
    · refine (if_pos (by omega)).trans (Eq.trans ?_ (if_pos h1).symm)
      rw [up2_k (by decide), hτ]
      exact if_neg (by omega)
    · refine (if_neg (by omega)).trans (Eq.trans ?_ (if_neg h1).symm)
      rw [show ∀ (τ : St) v, up2 τ 0 3 v a b = τ a b from fun τ v => if_neg h0, hτ]
      by_cases h2 : a = 2 ∧ b < 1143
      · exact (if_pos (by omega)).trans (if_pos h2).symm
      · exact (if_neg (by omega)).trans ((if_neg h0).symm.trans (if_neg h2).symm)
theorem saves_inv {σ : St} (I : InvD σ) : InvD (f_X9_saves σ) := by
  by_cases hs : σ 0 3 = 4
  · rw [saves_b hs]
    obtain ⟨a, b, c, d, e2, f⟩ := I
    have q : ∀ x y, x ≠ 2 → ¬ (x = 0 ∧ y = 3) → (if x = 2 ∧ 1143 ≤ y ∧ y < 1524 then σ 1 (y - 1143) else if x = 2 ∧ y < 1143 then σ 2 (y + 381) else if x = 0 ∧ y = 3 then 3 else σ x y) = σ x y := fun x y h1 h2 => by
      rw [if_neg (by omega), if_neg (by omega), if_neg h2]
    refine InvD.up0 ⟨a.cong fun j _ => q 1 j (by decide) (by omega), b.cong fun j _ => q 3 j (by decide) (by omega), fun x hx => ?_, ?_, ?_, ?_⟩ ⟨fun _ => by decide, fun h => absurd h (by decide), fun h => absurd h (by decide)⟩
    · by_cases h3 : x = 3
      · subst h3
        refine a.cong fun j hj => ?_
        unfold crR at hj
        refine (if_pos (by omega)).trans (congrArg (σ 1) ?_)
        omega
      · refine (c (x + 1) (by omega)).cong fun j hj => ?_
        unfold crR at hj
        refine (if_neg (by omega)).trans ((if_pos (by omega)).trans (congrArg (σ 2) ?_))
        omega
    · have e : (if 0 = 2 ∧ 1143 ≤ 3 ∧ 3 < 1524 then σ 1 (3 - 1143) else if 0 = 2 ∧ 3 < 1143 then σ 2 (3 + 381) else if 0 = 0 ∧ 3 = 3 then 3 else σ 0 3) = 3 := by
        rw [if_neg (by omega), if_neg (by omega), if_pos (by omega)]
      show 0 ≤ Int32.toInt (if 0 = 2 ∧ 1143 ≤ 3 ∧ 3 < 1524 then σ 1 (3 - 1143) else if 0 = 2 ∧ 3 < 1143 then σ 2 (3 + 381) else if 0 = 0 ∧ 3 = 3 then 3 else σ 0 3) ∧ Int32.toInt (if 0 = 2 ∧ 1143 ≤ 3 ∧ 3 < 1524 then σ 1 (3 - 1143) else if 0 = 2 ∧ 3 < 1143 then σ 2 (3 + 381) else if 0 = 0 ∧ 3 = 3 then 3 else σ 0 3) ≤ 4
      rw [e]; decide
    · have e := q 0 6 (by decide) (by omega)
      exact (show ∀ v : Int32, σ 0 6 = v → (0 ≤ v.toInt ∧ v.toInt ≤ 150) from fun v hv => by rw [← hv]; exact e2) _ e.symm
    · have e := q 0 8 (by decide) (by omega)
      exact (show ∀ v : Int32, σ 0 8 = v → (0 ≤ v.toInt ∧ v.toInt ≤ 150) from fun v hv => by rw [← hv]; exact f) _ e.symm
  · have hv := sv_a I hs
    rw [saves_a hs]
    obtain ⟨a, b, c, d, e2, f⟩ := I
    refine InvD.up0 ⟨a.cong fun j _ => if_neg (by omega), b.cong fun j _ => if_neg (by omega), fun x hx => ?_, d, e2, f⟩ ⟨fun _ => ⟨(sv_inc hv).1, (sv_inc hv).2.1⟩, fun h => absurd h (by decide), fun h => absurd h (by decide)⟩
    by_cases h3 : x = (σ 0 3).toNatClampNeg
    · subst h3
      refine a.cong fun j hj => ?_
      unfold crR at hj
      refine (if_pos (by omega)).trans (congrArg (σ 1) ?_)
      omega
    · refine (c x hx).cong fun j hj => ?_
      unfold crR at hj
      exact if_neg (by omega)
theorem saves_1 {σ : St} : f_X9_saves σ 1 = σ 1 := by
  funext b
  by_cases hs : σ 0 3 = 4
  · rw [saves_b hs, up2_k (by decide)]
    exact (if_neg (by omega)).trans ((if_neg (by omega)).trans (if_neg (by omega)))
  · rw [saves_a hs, up2_k (by decide)]
    exact if_neg (by omega)

theorem v_X9_saves : cvV yX9_saves "NestedBellsModel" cX9_saves 2 none 0 := ⟨q_5_34, s_36, q_1_10, q_5_35, rfl, by decide +kernel, by decide +kernel, by decide +kernel⟩
set_option maxHeartbeats 4000000 in
set_option maxRecDepth 100000 in
theorem L_X9_saves_51 {l : Launch} {D : va_G} {T : Nat → ClassId} {g ad : Nat → Nat} {p : Program} {e : Env} {s : State} {m : MethodId} {below : List Frame} {meth : Method} {c : Code} {A : Nat → Prop} {Qw : State → Prop} (Z : en p m c cX9_saves 2 s [.ref (ad 0)].toArray "NestedBellsModel" D T g A) : ∀ (n51 : Nat) (k51 : Nat) (t51 : St) (H : Heap) (locs : List Loc) (ls : Array Slot), k51 ≤ 381 → 381 < k51 + n51 → 0 ≤ (t51 0 3).toInt ∧ (t51 0 3).toInt < 4 → wo D A s.heap 6 ad (cE (dE T ad) t51) H locs → lv_has ls 2 [(1, .int (nI k51)), (0, .ref (ad 0))] → (∀ (u51 : St) (H : Heap) (locs : List Loc) (ls : Array Slot), (f_X9_saves_l51 n51 k51 t51) = u51 → 0 ≤ (u51 0 3).toInt ∧ (u51 0 3).toInt < 4 → wo D A s.heap 6 ad (cE (dE T ad) u51) H locs → lv_has ls 2 [(0, .ref (ad 0))] → W p l e rmX9_saves s m [.ref (ad 0)].toArray below meth c H locs 0 0 Qw (F0 m 85 ls [])) → W p l e rmX9_saves s m [.ref (ad 0)].toArray below meth c H locs 0 0 Qw (F0 m 51 ls []) := by
  have hx := Z.1.1
  have hb := Z.1.2.1
  intro n51
  induction n51 with
  | zero =>
    intro k51 t51 H locs ls hk51 hn51 hv51 hw hl kk
    exact absurd hn51 (by omega)
  | succ n51 ih =>
    intro k51 t51 H locs ls hk51 hn51 hv51 hw hl kk
    refine lv_iload_n hx hb dX9_saves_51 rfl (lv_at hl 0 rfl) ?_
    refine lv_sipush (v := 381) hx hb dX9_saves_52 (by decide +kernel) ?_
    refine lv_icmp_ge (tgt := 85) hx hb dX9_saves_55 (by decide) (fun c55 => ?_) (fun c55 => ?_)
    · exact kk _ H locs ls (Eq.symm (lf_t c55 rfl)) hv51 hw (lv_sub hl [1] rfl)
    · have hkb51 : k51 < 381 := kb_ge c55 (by decide) hk51 (by decide)
      refine lv_aload_n hx hb dX9_saves_58 rfl (lv_at hl 1 rfl) ?_
      refine gD (j := 1) (v := .ref (ad 2)) Z hw  (by decide) q_4_213 rfl rfl dX9_saves_59 ?_
      refine lv_sipush (v := 381) hx hb dX9_saves_62 (by decide +kernel) ?_
      refine lv_aload_n hx hb dX9_saves_65 rfl (lv_at hl 1 rfl) ?_
      refine gD (j := 3) (v := .int (t51 0 3)) Z hw  (by decide) q_4_215 rfl rfl dX9_saves_66 ?_
      refine lv_imul hx hb dX9_saves_69 ?_
      refine lv_iload_n hx hb dX9_saves_70 rfl (lv_at hl 0 rfl) ?_
      refine lv_iadd hx hb dX9_saves_71 ?_
      refine lv_aload_n hx hb dX9_saves_72 rfl (lv_at hl 1 rfl) ?_
      refine gD (j := 0) (v := .ref (ad 1)) Z hw  (by decide) q_4_212 rfl rfl dX9_saves_73 ?_
      refine lv_iload_n hx hb dX9_saves_76 rfl (lv_at hl 0 rfl) ?_
      refine aE (v := t51 1 k51) Z hw 1 (by decide) rfl (fun _ => rfl) (vp_in_nI (by omega) (by decide)) ((congrArg (t51 1) (nI_clamp (by omega))).trans rfl) dX9_saves_77 ?_
      refine sE (j := 381 * (t51 0 3).toNatClampNeg + k51) Z hw 2 (by decide) rfl (fun _ => rfl) (sw_vp hv51 (by omega)) (sw_ix hv51 (by omega)) dX9_saves_78 (fun H locs hw => ?_)
      refine lv_iinc (v := nI (k51 + 1)) (lv' := [(1, .int (nI (k51 + 1))), (0, .ref (ad 0))]) hx hb dX9_saves_79 hl (k := 0) rfl (nI_1 _) (by decide) rfl (fun ls hl => ?_)
      refine lv_goto (tgt := 51) hx hb dX9_saves_82 (by decide) ?_
      exact ih (k51 + 1) (up2 t51 2 (381 * (t51 0 3).toNatClampNeg + k51) (t51 1 k51)) H locs ls (by omega) (by omega) (by rw [up2_k (by decide)]; exact hv51) hw (lv_sub hl [0, 1] rfl) (fun u51 H locs ls eu51 hv51y hw hl => kk u51 H locs ls (Eq.trans (Eq.symm (show (f_X9_saves_l51 n51 (k51 + 1) (up2 t51 2 (381 * (t51 0 3).toNatClampNeg + k51) (t51 1 k51))) = _ from (lf_f c55 rfl))) eu51) hv51y hw hl)
set_option maxHeartbeats 4000000 in
set_option maxRecDepth 100000 in
theorem L_X9_saves_10 {l : Launch} {D : va_G} {T : Nat → ClassId} {g ad : Nat → Nat} {p : Program} {e : Env} {s : State} {m : MethodId} {below : List Frame} {meth : Method} {c : Code} {A : Nat → Prop} {Qw : State → Prop} (Z : en p m c cX9_saves 2 s [.ref (ad 0)].toArray "NestedBellsModel" D T g A) : ∀ (n10 : Nat) (k10 : Nat) (t10 : St) (H : Heap) (locs : List Loc) (ls : Array Slot), k10 ≤ 1143 → 1143 < k10 + n10 → t10 0 3 = 4 → wo D A s.heap 6 ad (cE (dE T ad) t10) H locs → lv_has ls 2 [(1, .int (nI k10)), (0, .ref (ad 0))] → (∀ (u10 : St) (H : Heap) (locs : List Loc) (ls : Array Slot), (f_X9_saves_l10 n10 k10 t10) = u10 → u10 0 3 = 4 → wo D A s.heap 6 ad (cE (dE T ad) u10) H locs → lv_has ls 2 [(0, .ref (ad 0))] → W p l e rmX9_saves s m [.ref (ad 0)].toArray below meth c H locs 0 0 Qw (F0 m 39 ls [])) → W p l e rmX9_saves s m [.ref (ad 0)].toArray below meth c H locs 0 0 Qw (F0 m 10 ls []) := by
  have hx := Z.1.1
  have hb := Z.1.2.1
  intro n10
  induction n10 with
  | zero =>
    intro k10 t10 H locs ls hk10 hn10 hv10 hw hl kk
    exact absurd hn10 (by omega)
  | succ n10 ih =>
    intro k10 t10 H locs ls hk10 hn10 hv10 hw hl kk
    refine lv_iload_n hx hb dX9_saves_10 rfl (lv_at hl 0 rfl) ?_
    refine lv_sipush (v := 1143) hx hb dX9_saves_11 (by decide +kernel) ?_
    refine lv_icmp_ge (tgt := 39) hx hb dX9_saves_14 (by decide) (fun c14 => ?_) (fun c14 => ?_)
    · exact kk _ H locs ls (Eq.symm (lf_t c14 rfl)) hv10 hw (lv_sub hl [1] rfl)
    · have hkb10 : k10 < 1143 := kb_ge c14 (by decide) hk10 (by decide)
      refine lv_aload_n hx hb dX9_saves_17 rfl (lv_at hl 1 rfl) ?_
      refine gD (j := 1) (v := .ref (ad 2)) Z hw  (by decide) q_4_213 rfl rfl dX9_saves_18 ?_
      refine lv_iload_n hx hb dX9_saves_21 rfl (lv_at hl 0 rfl) ?_
      refine lv_aload_n hx hb dX9_saves_22 rfl (lv_at hl 1 rfl) ?_
      refine gD (j := 1) (v := .ref (ad 2)) Z hw  (by decide) q_4_213 rfl rfl dX9_saves_23 ?_
      refine lv_iload_n hx hb dX9_saves_26 rfl (lv_at hl 0 rfl) ?_
      refine lv_sipush (v := 381) hx hb dX9_saves_27 (by decide +kernel) ?_
      refine lv_iadd hx hb dX9_saves_30 ?_
      refine aE (v := t10 2 (k10 + 381)) Z hw 2 (by decide) rfl (fun _ => rfl) (add_vp (a := k10) (b := 381) (by omega) (by decide)) ((congrArg (t10 2) (add_ix (a := k10) (b := 381) (by omega))).trans rfl) dX9_saves_31 ?_
      refine sE (j := k10) Z hw 2 (by decide) rfl (fun _ => rfl) (vp_in_nI (by omega) (by decide)) (nI_clamp (by omega)) dX9_saves_32 (fun H locs hw => ?_)
      refine lv_iinc (v := nI (k10 + 1)) (lv' := [(1, .int (nI (k10 + 1))), (0, .ref (ad 0))]) hx hb dX9_saves_33 hl (k := 0) rfl (nI_1 _) (by decide) rfl (fun ls hl => ?_)
      refine lv_goto (tgt := 10) hx hb dX9_saves_36 (by decide) ?_
      exact ih (k10 + 1) (up2 t10 2 k10 (t10 2 (k10 + 381))) H locs ls (by omega) (by omega) (by rw [up2_k (by decide)]; exact hv10) hw (lv_sub hl [0, 1] rfl) (fun u10 H locs ls eu10 hv10y hw hl => kk u10 H locs ls (Eq.trans (Eq.symm (show (f_X9_saves_l10 n10 (k10 + 1) (up2 t10 2 k10 (t10 2 (k10 + 381)))) = _ from (lf_f c14 rfl))) eu10) hv10y hw hl)
set_option maxHeartbeats 4000000 in
set_option maxRecDepth 100000 in
theorem k_X9_saves {l : Launch} {D : va_G} {T : Nat → ClassId} {g ad : Nat → Nat} {σ : St} (I0 : InvD σ) : mX l yX9_saves cX9_saves 2 none rmX9_saves D T g 6 ad (cE (dE T ad) σ) [.ref (ad 0)] (qV D 6 ad (dE T ad) (pV (f_X9_saves σ) InvD)) := by
  refine mX.of (own := "NestedBellsModel") (by decide +kernel) (Nat.le_of_ble_eq_true rfl) rfl ?_
  intro p e s m below meth c A ls H locs Z hr hlk _ hw hl
  have hx := Z.1.1
  have hb := Z.1.2.1
  have hl : lv_has ls 2 [(0, .ref (ad 0))] := hl
  refine lv_aload_n hx hb dX9_saves_0 rfl (lv_at hl 0 rfl) ?_
  refine gD (j := 3) (v := .int (σ 0 3)) Z hw  (by decide) q_4_215 rfl rfl dX9_saves_1 ?_
  refine lv_iconst (v := 4) hx hb dX9_saves_4 (by decide +kernel) ?_
  refine lv_icmp_ne (tgt := 49) hx hb dX9_saves_5 (by decide) (fun c5 => ?_) (fun c5 => ?_)
  · refine lv_iconst (v := 0) hx hb dX9_saves_49 (by decide +kernel) ?_
    refine lv_istore_n (lv' := [(1, .int 0), (0, .ref (ad 0))]) hx hb dX9_saves_50 rfl hl (by decide) rfl (fun ls hl => ?_)
    refine L_X9_saves_51 Z fu382 0 σ H locs ls (by omega) (by unfold fu382; omega) (by first | exact sv_a I0 c5 | (rw [up2_s, hv10x]; decide)) hw (lv_sub hl [0, 1] rfl) (fun u51 H locs ls eu51 hv51x hw hl => ?_)
    have I51 := trivial
    refine lv_aload_n hx hb dX9_saves_85 rfl (lv_at hl 0 rfl) ?_
    refine lv_dup hx hb dX9_saves_86 rfl ?_
    refine gD (j := 3) (v := .int (u51 0 3)) Z hw  (by decide) q_4_215 rfl rfl dX9_saves_87 ?_
    refine lv_iconst (v := 1) hx hb dX9_saves_90 (by decide +kernel) ?_
    refine lv_iadd hx hb dX9_saves_91 ?_
    refine pD (j := 3) Z hw  (by decide) q_4_215 rfl rfl rfl rfl dX9_saves_92 (fun H locs hw => ?_)
    exact rt_v Z hr hlk hw dX9_saves_95 ⟨Eq.symm (by subst eu51; exact (lf_f c5 rfl)), (Eq.mpr (congrArg InvD (show up2 u51 0 3 ((u51 0 3) + 1) = (f_X9_saves σ) from (by subst eu51; exact (lf_f c5 rfl)))) (saves_inv I0))⟩
  · refine lv_iconst (v := 0) hx hb dX9_saves_8 (by decide +kernel) ?_
    refine lv_istore_n (lv' := [(1, .int 0), (0, .ref (ad 0))]) hx hb dX9_saves_9 rfl hl (by decide) rfl (fun ls hl => ?_)
    refine L_X9_saves_10 Z fu1144 0 σ H locs ls (by omega) (by unfold fu1144; omega) c5 hw (lv_sub hl [0, 1] rfl) (fun u10 H locs ls eu10 hv10x hw hl => ?_)
    have I10 := trivial
    refine lv_aload_n hx hb dX9_saves_39 rfl (lv_at hl 0 rfl) ?_
    refine lv_dup hx hb dX9_saves_40 rfl ?_
    refine gD (j := 3) (v := .int (u10 0 3)) Z hw  (by decide) q_4_215 rfl rfl dX9_saves_41 ?_
    refine lv_iconst (v := 1) hx hb dX9_saves_44 (by decide +kernel) ?_
    refine lv_isub hx hb dX9_saves_45 ?_
    refine pD (j := 3) Z hw  (by decide) q_4_215 rfl rfl rfl rfl dX9_saves_46 (fun H locs hw => ?_)
    refine lv_iconst (v := 0) hx hb dX9_saves_49 (by decide +kernel) ?_
    refine lv_istore_n (lv' := [(1, .int 0), (0, .ref (ad 0))]) hx hb dX9_saves_50 rfl hl (by decide) rfl (fun ls hl => ?_)
    refine L_X9_saves_51 Z fu382 0 (up2 u10 0 3 ((u10 0 3) - 1)) H locs ls (by omega) (by unfold fu382; omega) (by first | exact sv_a I0 c5 | (rw [up2_s, hv10x]; decide)) hw (lv_sub hl [0, 1] rfl) (fun u51 H locs ls eu51 hv51x hw hl => ?_)
    have I51 := trivial
    refine lv_aload_n hx hb dX9_saves_85 rfl (lv_at hl 0 rfl) ?_
    refine lv_dup hx hb dX9_saves_86 rfl ?_
    refine gD (j := 3) (v := .int (u51 0 3)) Z hw  (by decide) q_4_215 rfl rfl dX9_saves_87 ?_
    refine lv_iconst (v := 1) hx hb dX9_saves_90 (by decide +kernel) ?_
    refine lv_iadd hx hb dX9_saves_91 ?_
    refine pD (j := 3) Z hw  (by decide) q_4_215 rfl rfl rfl rfl dX9_saves_92 (fun H locs hw => ?_)
    exact rt_v Z hr hlk hw dX9_saves_95 ⟨Eq.symm (by subst eu51 eu10; exact (lf_t c5 rfl)), (Eq.mpr (congrArg InvD (show up2 u51 0 3 ((u51 0 3) + 1) = (f_X9_saves σ) from (by subst eu51 eu10; exact (lf_t c5 rfl)))) (saves_inv I0))⟩
