/-- two Machines: the second 57 places on -/
def prE (T : Nat → ClassId) (ad : Nat → Nat) (k : Nat) (r : Nat → Int32) : va_E := if k < 57 then mE T ad k r else mE T (fun a => ad (57 + a)) (k - 57) r
theorem p_A {T : Nat → ClassId} {ad : Nat → Nat} {k : Nat} {r : Nat → Int32} (h : k < 57) : prE T ad k r = mE T ad k r := if_pos h
theorem p_B {T : Nat → ClassId} {ad : Nat → Nat} {k : Nat} {r : Nat → Int32} (h : 57 + k < 114) : prE T ad (57 + k) r = mE T (fun a => ad (57 + a)) k r := by
  unfold prE
  rw [if_neg (by omega), show 57 + k - 57 = k by omega]
def cpy (σ : St) (k0 k1 n : Nat) : St := fun a b => if a = k1 ∧ b < n then σ k0 b else σ a b
theorem zb_zbx {x : Int32} : zb (zb x) = zb x := zb_zb x
section PairRows
variable {p : Program} {l : Launch} {e : Env} {R : Room} {s : State} {m : MethodId} {args : Array Value} {below : List Frame} {meth : Method} {c : Code} {H : Heap} {locs : List Loc} {cells slots : Nat} {Qw : State → Prop} {cc : ByteArray} {pc nL : Nat} {ls : Array Slot} {rest : List Value} {own : String} {D : va_G} {T : Nat → ClassId} {g : Nat → Nat} {A : Nat → Prop} {N : Nat} {ad : Nat → Nat}
theorem gO {E : Nat → (Nat → Int32) → va_E} {σ : St} {C : String} {TC : u_T} {NF ci idx j : Nat} {f : (Nat → Int32) → List Value} {v : Value} {a : Nat} (Z : en p m c cc nL s args own D T g A) (hw : wo D A s.heap N ad (cE E σ) H locs) (k : Nat) (hk : k < N) (ha : ad k = a) (hc : ∀ r, E k r = .inr (ci, f r)) (hcl : vwCl[ci]? = some (C, TC, NF)) (hin : ∀ w ∈ u_ws C TC NF, w ∈ AW) (hj : j < NF) (hq : Cond.fieldLink own idx C (TC j).2.1 (TC j).2.2.1 ∈ AW) (hC : (TC j).1 = C) (hv : (f (σ k))[j]? = some v) (d : decode cc pc = .ok (.getfield idx, 3))
    (kk : W p l e R s m args below meth c H locs cells slots Qw (F0 m (pc + 3) ls (v :: rest))) : W p l e R s m args below meth c H locs cells slots Qw (F0 m pc ls (.ref a :: rest)) :=
  gE Z hw k hk ha (hc _) hcl hin hj hq hC hv d kk
theorem pO {E : Nat → (Nat → Int32) → va_E} {σ : St} {C : String} {TC : u_T} {NF ci idx j : Nat} {f : (Nat → Int32) → List Value} {x : Int32} {a : Nat} {ty0 : Nat → FieldType} (Z : en p m c cc nL s args own D T g A) (hw : wo D A s.heap N ad (cE E σ) H locs) (k : Nat) (hk : k < N) (ha : ad k = a) (hc : ∀ r, E k r = .inr (ci, f r)) (hcl : vwCl[ci]? = some (C, TC, NF)) (hin : ∀ w ∈ u_ws C TC NF, w ∈ AW) (hty : ∀ k, k < NF → parseFieldDescriptor (TC k).2.2.1 = some (ty0 k)) (hnm : ∀ a, a < NF → ∀ b, b < NF → a ≠ b → (TC a).2.1 ≠ (TC b).2.1) (hj : j < NF) (hq : Cond.fieldLink own idx C (TC j).2.1 (TC j).2.2.1 ∈ AW) (hC : (TC j).1 = C) (hd : ty0 j = .int) (he : f (upd (σ k) j x) = (f (σ k)).set j (.int x)) (hf0 : (TC j).2.2.2 = false) (hl : j < (f (σ k)).length) (d : decode cc pc = .ok (.putfield idx, 3))
    (kk : ∀ (H1 : Heap) (locs1 : List Loc), wo D A s.heap N ad (cE E (up2 σ k j x)) H1 locs1 → W p l e R s m args below meth c H1 locs1 cells slots Qw (F0 m (pc + 3) ls rest)) : W p l e R s m args below meth c H locs cells slots Qw (F0 m pc ls (.int x :: .ref a :: rest)) :=
  pE (ty := .int) Z hw k hk ha (hc _) hcl hin hty hnm hj hq hC hd rfl rfl hl ((hc _).trans (congrArg (fun x => (Sum.inr (ci, x) : va_E)) he)) d hf0 kk
theorem pOb {E : Nat → (Nat → Int32) → va_E} {σ : St} {idx j : Nat} {x : Int32} {a i : Nat} {ad' : Nat → Nat} (Z : en p m c cc nL s args own D T g A) (hw : wo D A s.heap N ad (cE E σ) H locs) (k : Nat) (hk : k < N) (ha : ad k = a) (hc : ∀ r, E k r = .inr (5, srcE ad' i r)) (hj : 3 ≤ j ∧ j < 6) (hq : Cond.fieldLink own idx "NestedBells$Source" (TX7 j).2.1 (TX7 j).2.2.1 ∈ AW) (hz : zb x = x) (d : decode cc pc = .ok (.putfield idx, 3))
    (kk : ∀ (H1 : Heap) (locs1 : List Loc), wo D A s.heap N ad (cE E (up2 σ k j x)) H1 locs1 → W p l e R s m args below meth c H1 locs1 cells slots Qw (F0 m (pc + 3) ls rest)) : W p l e R s m args below meth c H locs cells slots Qw (F0 m pc ls (.int x :: .ref a :: rest)) := by
  have h3 : j = 3 ∨ j = 4 ∨ j = 5 := by omega
  have hn : narrow .boolean (.int x) = .int x := by rw [← hz]; exact zb_nar
  have hfit : fits .boolean (.int x) = true := by
    rw [← hz]
    have : zb x = 0 ∨ zb x = 1 := by
      unfold zb
      have h := Nat.and_one_is_mod x.toBitVec.toNat
      have h2 : (x &&& 1).toBitVec.toNat = x.toBitVec.toNat % 2 := by rw [← h]; rfl
      rcases Nat.mod_two_eq_zero_or_one x.toBitVec.toNat with q | q
      · left; apply Int32.toBitVec_inj.mp; apply BitVec.eq_of_toNat_eq; rw [h2, q]; rfl
      · right; apply Int32.toBitVec_inj.mp; apply BitVec.eq_of_toNat_eq; rw [h2, q]; rfl
    rcases this with q | q <;> rw [q] <;> rfl
  refine pE (C := "NestedBells$Source") (TC := TX7) (NF := 20) (ci := 5) (ty0 := tyX7) (ty := .boolean) Z hw k hk ha (hc _) rfl iX7 tyX7_ok nmX7 (by omega) hq ?_ ?_ hn hfit ?_ ((hc _).trans ?_) d ?_ kk
  · rcases h3 with rfl | rfl | rfl <;> rfl
  · rcases h3 with rfl | rfl | rfl <;> rfl
  · rcases h3 with rfl | rfl | rfl <;> exact Nat.le_of_ble_eq_true rfl
  · rcases h3 with rfl | rfl | rfl <;> simp [srcE, upd, hz]
  · rcases h3 with rfl | rfl | rfl <;> rfl
theorem acp {E : Nat → (Nat → Int32) → va_E} {σ : St} {n idx : Nat} (Z : en p m c cc nL s args own D T g A) (hw : wo D A s.heap N ad (cE E σ) H locs) (hsz : ls.size = nL) (k0 k1 : Nat) (hk0 : k0 < N) (hk1 : k1 < N) {a0 a1 : Nat} (ha0 : ad k0 = a0) (ha1 : ad k1 = a1) (hc0 : ∀ r, E k0 r = .inl (T 1, n, .inl r)) (hc1 : ∀ r, E k1 r = .inl (T 1, n, .inl r)) (hq : Cond.methodLink own idx arraycopyName ∈ AW) (hq1 : Cond.native arraycopyName ∈ AW) (hq2 : Cond.static arraycopyName ∈ AW) (hq3 : Cond.initialized "java/lang/System" ∈ AW) {x : Int32} (hx0 : ¬ x < 0) (hxn : x.toNatClampNeg = n) (hR : 1 ≤ R.frames) (hL : nativeFrameWords "java/lang/System" "arraycopy" 5 + 11 ≤ R.locals) (d : decode cc pc = .ok (.invokestatic idx, 3))
    (kk : ∀ (H1 : Heap) (locs1 : List Loc), wo D A s.heap N ad (cE E (cpy σ k0 k1 n)) H1 locs1 → W p l e R s m args below meth c H1 locs1 cells slots Qw (F0 m (pc + 3) ls [])) : W p l e R s m args below meth c H locs cells slots Qw (F0 m pc ls [.int x, .int 0, .ref a1, .int 0, .ref a0]) := by
  subst ha0; subst ha1; subst hxn
  have hct : va_up (cE E σ) k1 (.inl (T 1, x.toNatClampNeg, .inl (va_cpy (σ k0) (σ k1) 0 0 x.toNatClampNeg))) = cE E (cpy σ k0 k1 x.toNatClampNeg) := by
    funext a
    by_cases h : a = k1
    · subst h
      refine (if_pos rfl).trans (Eq.trans ?_ (hc1 _).symm)
      refine congrArg (fun z => (Sum.inl (T 1, x.toNatClampNeg, Sum.inl z) : va_E)) (funext fun b => ?_)
      unfold va_cpy cpy
      rw [Nat.zero_add, Nat.zero_add, Nat.sub_zero]
      by_cases hb : b < x.toNatClampNeg
      · rw [if_pos ⟨Nat.zero_le _, hb⟩, if_pos ⟨rfl, hb⟩]
      · rw [if_neg (by omega), if_neg (by omega)]
    · refine (if_neg h).trans ?_
      show E a (σ a) = E a (cpy σ k0 k1 x.toNatClampNeg a)
      congr 1
      funext b
      exact (if_neg (by omega)).symm
  refine va_copyi (rest := []) Z.1.1 Z.1.2.1 (Z.1.2.2.1.trans hsz.symm) Z.1.2.2.2.1 (Z.1.2.2.2.2 _ hq) (Z.1.2.2.2.2 _ hq1) (Z.1.2.2.2.2 _ hq2) (Z.1.2.2.2.2 _ hq3) Z.2.1 hw.1 hw.2.1 hw.2.2 k0 k1 1 1 ((wl_at hk0).trans (by rw [show cE E σ k0 = _ from hc0 _])) ((wl_at hk1).trans (by rw [show cE E σ k1 = _ from hc1 _])) rfl rfl rfl (by decide) (by decide) hx0 (by show 0 + _ ≤ _; omega) (by show 0 + _ ≤ _; omega) (fun _ _ => rfl) hR (by show 0 + _ ≤ _; omega) d (fun H1 l1 hP hD hS => kk H1 l1 ⟨?_, ?_, hS⟩)
  · rw [← hct, ← wl_set hk1]; exact hP
  · rw [← hct, ← wl_set hk1]; exact hD
end PairRows

abbrev rmX6_copyFrom : Room := { frames := 0, cells := 0, slots := 0, locals := 0 }
def f_X6_copyFrom (σ : St) (i : Nat) (j : Nat) : St := up2 (up2 (up2 σ (33 + 2 * i + j) 0 (σ (57 + (33 + 2 * i + j)) 0)) (33 + 2 * i + j) 1 (σ (57 + (33 + 2 * i + j)) 1)) (33 + 2 * i + j) 2 (σ (57 + (33 + 2 * i + j)) 2)
theorem v_X6_copyFrom : cvV yX6_copyFrom "NestedBells$Section" cX6_copyFrom 2 none 1 := ⟨q_2_148, q_2_149, q_1_5, q_2_150, rfl, by decide +kernel, by decide +kernel, by decide +kernel⟩
set_option maxHeartbeats 4000000 in
set_option maxRecDepth 100000 in
theorem k_X6_copyFrom {l : Launch} {D : va_G} {T : Nat → ClassId} {g ad : Nat → Nat} {σ : St} {i : Nat} {j : Nat} (hi : i < 12) (hj : j < 2) : mX l yX6_copyFrom cX6_copyFrom 2 none rmX6_copyFrom D T g 114 ad (cE (prE T ad) σ) [.ref (ad (33 + 2 * i + j)), .ref (ad (57 + (33 + 2 * i + j)))] (qV D 114 ad (prE T ad) (pV (f_X6_copyFrom σ i j) (fun _ => True))) := by
  refine mX.of (own := "NestedBells$Section") (by decide +kernel) (Nat.le_of_ble_eq_true rfl) rfl ?_
  intro p e s m below meth c A ls H locs Z hr hlk _ hw hl
  have hx := Z.1.1
  have hb := Z.1.2.1
  have hl : lv_has ls 2 [(0, .ref (ad (33 + 2 * i + j))), (1, .ref (ad (57 + (33 + 2 * i + j))))] := hl
  refine lv_aload_n hx hb dX6_copyFrom_0 rfl (lv_at hl 0 rfl) ?_
  refine lv_aload_n hx hb dX6_copyFrom_1 rfl (lv_at hl 1 rfl) ?_
  refine gO (C := "NestedBells$Section") (TC := TX6) (NF := 3) (ci := 4) (j := 0) (v := .int (σ (57 + (33 + 2 * i + j)) 0)) Z hw (57 + (33 + 2 * i + j)) (by have h1 : i < 12 := hi; have h2 : j < 2 := hj; omega) rfl (fun _ => (p_B (by have h1 : i < 12 := hi; have h2 : j < 2 := hj; omega)).trans (mE_sec hi hj)) rfl iX6 (by decide) q_1_76 rfl rfl dX6_copyFrom_2 ?_
  refine pO (C := "NestedBells$Section") (TC := TX6) (NF := 3) (ci := 4) (j := 0) (ty0 := tyX6) Z hw (33 + 2 * i + j) (by have h1 : i < 12 := hi; have h2 : j < 2 := hj; omega) rfl (fun _ => (p_A (by have h1 : i < 12 := hi; have h2 : j < 2 := hj; omega)).trans (mE_sec hi hj)) rfl iX6 tyX6_ok nmX6 (by decide) q_1_76 rfl rfl rfl rfl (Nat.le_of_ble_eq_true rfl) dX6_copyFrom_5 (fun H locs hw => ?_)
  refine lv_aload_n hx hb dX6_copyFrom_8 rfl (lv_at hl 0 rfl) ?_
  refine lv_aload_n hx hb dX6_copyFrom_9 rfl (lv_at hl 1 rfl) ?_
  refine gO (C := "NestedBells$Section") (TC := TX6) (NF := 3) (ci := 4) (j := 1) (v := .int (σ (57 + (33 + 2 * i + j)) 1)) Z hw (57 + (33 + 2 * i + j)) (by have h1 : i < 12 := hi; have h2 : j < 2 := hj; omega) rfl (fun _ => (p_B (by have h1 : i < 12 := hi; have h2 : j < 2 := hj; omega)).trans (mE_sec hi hj)) rfl iX6 (by decide) q_1_78 rfl (congrArg (fun x => some (Value.int x)) (up2_j (by decide))) dX6_copyFrom_10 ?_
  refine pO (C := "NestedBells$Section") (TC := TX6) (NF := 3) (ci := 4) (j := 1) (ty0 := tyX6) Z hw (33 + 2 * i + j) (by have h1 : i < 12 := hi; have h2 : j < 2 := hj; omega) rfl (fun _ => (p_A (by have h1 : i < 12 := hi; have h2 : j < 2 := hj; omega)).trans (mE_sec hi hj)) rfl iX6 tyX6_ok nmX6 (by decide) q_1_78 rfl rfl rfl rfl (Nat.le_of_ble_eq_true rfl) dX6_copyFrom_13 (fun H locs hw => ?_)
  refine lv_aload_n hx hb dX6_copyFrom_16 rfl (lv_at hl 0 rfl) ?_
  refine lv_aload_n hx hb dX6_copyFrom_17 rfl (lv_at hl 1 rfl) ?_
  refine gO (C := "NestedBells$Section") (TC := TX6) (NF := 3) (ci := 4) (j := 2) (v := .int (σ (57 + (33 + 2 * i + j)) 2)) Z hw (57 + (33 + 2 * i + j)) (by have h1 : i < 12 := hi; have h2 : j < 2 := hj; omega) rfl (fun _ => (p_B (by have h1 : i < 12 := hi; have h2 : j < 2 := hj; omega)).trans (mE_sec hi hj)) rfl iX6 (by decide) q_1_80 rfl (congrArg (fun x => some (Value.int x)) ((up2_j (by decide)).trans (up2_j (by decide)))) dX6_copyFrom_18 ?_
  refine pO (C := "NestedBells$Section") (TC := TX6) (NF := 3) (ci := 4) (j := 2) (ty0 := tyX6) Z hw (33 + 2 * i + j) (by have h1 : i < 12 := hi; have h2 : j < 2 := hj; omega) rfl (fun _ => (p_A (by have h1 : i < 12 := hi; have h2 : j < 2 := hj; omega)).trans (mE_sec hi hj)) rfl iX6 tyX6_ok nmX6 (by decide) q_1_80 rfl rfl rfl rfl (Nat.le_of_ble_eq_true rfl) dX6_copyFrom_21 (fun H locs hw => ?_)
  exact rt_v Z hr hlk hw dX6_copyFrom_24 ⟨Eq.symm rfl, trivial⟩
abbrev rmX3_copyFrom : Room := { frames := 1, cells := 0, slots := 0, locals := 40 }
def f_X3_copyFrom (σ : St) : St := up2 (up2 (cpy (cpy (cpy σ (63) (6) 20) (64) (7) 20) (65) (8) 20) 5 3 ((cpy (cpy (cpy σ (63) (6) 20) (64) (7) 20) (65) (8) 20) 62 3)) 5 4 ((cpy (cpy (cpy σ (63) (6) 20) (64) (7) 20) (65) (8) 20) 62 4)
theorem v_X3_copyFrom : cvV yX3_copyFrom "NestedBells$EventLog" cX3_copyFrom 2 none 1 := ⟨q_2_152, q_2_153, q_1_3, q_2_154, rfl, by decide +kernel, by decide +kernel, by decide +kernel⟩
set_option maxHeartbeats 4000000 in
set_option maxRecDepth 100000 in
theorem k_X3_copyFrom {l : Launch} {D : va_G} {T : Nat → ClassId} {g ad : Nat → Nat} {σ : St} : mX l yX3_copyFrom cX3_copyFrom 2 none rmX3_copyFrom D T g 114 ad (cE (prE T ad) σ) [.ref (ad 5), .ref (ad 62)] (qV D 114 ad (prE T ad) (pV (f_X3_copyFrom σ) (fun _ => True))) := by
  refine mX.of (own := "NestedBells$EventLog") (by decide +kernel) (Nat.le_of_ble_eq_true rfl) rfl ?_
  intro p e s m below meth c A ls H locs Z hr hlk _ hw hl
  have hx := Z.1.1
  have hb := Z.1.2.1
  have hl : lv_has ls 2 [(0, .ref (ad 5)), (1, .ref (ad 62))] := hl
  refine lv_aload_n hx hb dX3_copyFrom_0 rfl (lv_at hl 1 rfl) ?_
  refine gO (C := "NestedBells$EventLog") (TC := TX3) (NF := 5) (ci := 1) (j := 0) (v := .ref (ad 63)) Z hw (62) (by decide) rfl (fun _ => rfl) rfl iX3 (by decide) q_1_46 rfl rfl dX3_copyFrom_1 ?_
  refine lv_iconst (v := 0) hx hb dX3_copyFrom_4 (by decide +kernel) ?_
  refine lv_aload_n hx hb dX3_copyFrom_5 rfl (lv_at hl 0 rfl) ?_
  refine gO (C := "NestedBells$EventLog") (TC := TX3) (NF := 5) (ci := 1) (j := 0) (v := .ref (ad 6)) Z hw (5) (by decide) rfl (fun _ => rfl) rfl iX3 (by decide) q_1_46 rfl rfl dX3_copyFrom_6 ?_
  refine lv_iconst (v := 0) hx hb dX3_copyFrom_9 (by decide +kernel) ?_
  refine lv_bipush (v := 20) hx hb dX3_copyFrom_10 (by decide +kernel) ?_
  refine acp (n := 20) Z hw hl.1 (63) (6) (by decide) (by decide) rfl rfl (fun _ => rfl) (fun _ => rfl) q_2_155 q_2_142 q_2_141 q_1_11 (by decide) (by decide) (Nat.le_of_ble_eq_true rfl) (Nat.le_of_ble_eq_true rfl) dX3_copyFrom_12 (fun H locs hw => ?_)
  refine lv_aload_n hx hb dX3_copyFrom_15 rfl (lv_at hl 1 rfl) ?_
  refine gO (C := "NestedBells$EventLog") (TC := TX3) (NF := 5) (ci := 1) (j := 1) (v := .ref (ad 64)) Z hw (62) (by decide) rfl (fun _ => rfl) rfl iX3 (by decide) q_1_47 rfl rfl dX3_copyFrom_16 ?_
  refine lv_iconst (v := 0) hx hb dX3_copyFrom_19 (by decide +kernel) ?_
  refine lv_aload_n hx hb dX3_copyFrom_20 rfl (lv_at hl 0 rfl) ?_
  refine gO (C := "NestedBells$EventLog") (TC := TX3) (NF := 5) (ci := 1) (j := 1) (v := .ref (ad 7)) Z hw (5) (by decide) rfl (fun _ => rfl) rfl iX3 (by decide) q_1_47 rfl rfl dX3_copyFrom_21 ?_
  refine lv_iconst (v := 0) hx hb dX3_copyFrom_24 (by decide +kernel) ?_
  refine lv_bipush (v := 20) hx hb dX3_copyFrom_25 (by decide +kernel) ?_
  refine acp (n := 20) Z hw hl.1 (64) (7) (by decide) (by decide) rfl rfl (fun _ => rfl) (fun _ => rfl) q_2_155 q_2_142 q_2_141 q_1_11 (by decide) (by decide) (Nat.le_of_ble_eq_true rfl) (Nat.le_of_ble_eq_true rfl) dX3_copyFrom_27 (fun H locs hw => ?_)
  refine lv_aload_n hx hb dX3_copyFrom_30 rfl (lv_at hl 1 rfl) ?_
  refine gO (C := "NestedBells$EventLog") (TC := TX3) (NF := 5) (ci := 1) (j := 2) (v := .ref (ad 65)) Z hw (62) (by decide) rfl (fun _ => rfl) rfl iX3 (by decide) q_1_48 rfl rfl dX3_copyFrom_31 ?_
  refine lv_iconst (v := 0) hx hb dX3_copyFrom_34 (by decide +kernel) ?_
  refine lv_aload_n hx hb dX3_copyFrom_35 rfl (lv_at hl 0 rfl) ?_
  refine gO (C := "NestedBells$EventLog") (TC := TX3) (NF := 5) (ci := 1) (j := 2) (v := .ref (ad 8)) Z hw (5) (by decide) rfl (fun _ => rfl) rfl iX3 (by decide) q_1_48 rfl rfl dX3_copyFrom_36 ?_
  refine lv_iconst (v := 0) hx hb dX3_copyFrom_39 (by decide +kernel) ?_
  refine lv_bipush (v := 20) hx hb dX3_copyFrom_40 (by decide +kernel) ?_
  refine acp (n := 20) Z hw hl.1 (65) (8) (by decide) (by decide) rfl rfl (fun _ => rfl) (fun _ => rfl) q_2_155 q_2_142 q_2_141 q_1_11 (by decide) (by decide) (Nat.le_of_ble_eq_true rfl) (Nat.le_of_ble_eq_true rfl) dX3_copyFrom_42 (fun H locs hw => ?_)
  refine lv_aload_n hx hb dX3_copyFrom_45 rfl (lv_at hl 0 rfl) ?_
  refine lv_aload_n hx hb dX3_copyFrom_46 rfl (lv_at hl 1 rfl) ?_
  refine gO (C := "NestedBells$EventLog") (TC := TX3) (NF := 5) (ci := 1) (j := 3) (v := .int ((cpy (cpy (cpy σ (63) (6) 20) (64) (7) 20) (65) (8) 20) 62 3)) Z hw (62) (by decide) rfl (fun _ => rfl) rfl iX3 (by decide) q_1_49 rfl rfl dX3_copyFrom_47 ?_
  refine pO (C := "NestedBells$EventLog") (TC := TX3) (NF := 5) (ci := 1) (j := 3) (ty0 := tyX3) Z hw (5) (by decide) rfl (fun _ => rfl) rfl iX3 tyX3_ok nmX3 (by decide) q_1_49 rfl rfl rfl rfl (Nat.le_of_ble_eq_true rfl) dX3_copyFrom_50 (fun H locs hw => ?_)
  refine lv_aload_n hx hb dX3_copyFrom_53 rfl (lv_at hl 0 rfl) ?_
  refine lv_aload_n hx hb dX3_copyFrom_54 rfl (lv_at hl 1 rfl) ?_
  refine gO (C := "NestedBells$EventLog") (TC := TX3) (NF := 5) (ci := 1) (j := 4) (v := .int ((cpy (cpy (cpy σ (63) (6) 20) (64) (7) 20) (65) (8) 20) 62 4)) Z hw (62) (by decide) rfl (fun _ => rfl) rfl iX3 (by decide) q_1_50 rfl (congrArg (fun x => some (Value.int x)) (up2_j (by decide))) dX3_copyFrom_55 ?_
  refine pO (C := "NestedBells$EventLog") (TC := TX3) (NF := 5) (ci := 1) (j := 4) (ty0 := tyX3) Z hw (5) (by decide) rfl (fun _ => rfl) rfl iX3 tyX3_ok nmX3 (by decide) q_1_50 rfl rfl rfl rfl (Nat.le_of_ble_eq_true rfl) dX3_copyFrom_58 (fun H locs hw => ?_)
  exact rt_v Z hr hlk hw dX3_copyFrom_61 ⟨Eq.symm rfl, trivial⟩
abbrev rmX7_copyFrom : Room := { frames := 1, cells := 0, slots := 0, locals := 21 }
def f_X7_copyFrom_l154 (i : Nat) : Nat → Nat → St → St
  | 0, k154, t154 => (t154)
  | n154 + 1, k154, t154 => (if 2 ≤ (nI k154) then t154 else (let s171 := f_X6_copyFrom t154 i k154; (f_X7_copyFrom_l154 i n154 (k154 + 1) s171)))
def f_X7_copyFrom (σ : St) (i : Nat) : St := (let u154 := (f_X7_copyFrom_l154 i fu3 0 (up2 (up2 (up2 (up2 (up2 (up2 (up2 (up2 (up2 (up2 (up2 (up2 (up2 (up2 (up2 (up2 (up2 (up2 (up2 σ (9 + i) 0 (σ (57 + (9 + i)) 0)) (9 + i) 1 (σ (57 + (9 + i)) 1)) (9 + i) 2 (σ (57 + (9 + i)) 2)) (9 + i) 3 (zb (σ (57 + (9 + i)) 3))) (9 + i) 4 (zb (σ (57 + (9 + i)) 4))) (9 + i) 5 (zb (σ (57 + (9 + i)) 5))) (9 + i) 6 (σ (57 + (9 + i)) 6)) (9 + i) 7 (σ (57 + (9 + i)) 7)) (9 + i) 8 (σ (57 + (9 + i)) 8)) (9 + i) 9 (σ (57 + (9 + i)) 9)) (9 + i) 10 (σ (57 + (9 + i)) 10)) (9 + i) 11 (σ (57 + (9 + i)) 11)) (9 + i) 12 (σ (57 + (9 + i)) 12)) (9 + i) 13 (σ (57 + (9 + i)) 13)) (9 + i) 14 (σ (57 + (9 + i)) 14)) (9 + i) 15 (σ (57 + (9 + i)) 15)) (9 + i) 16 (σ (57 + (9 + i)) 16)) (9 + i) 17 (σ (57 + (9 + i)) 17)) (9 + i) 18 (σ (57 + (9 + i)) 18))); u154)
theorem v_X7_copyFrom : cvV yX7_copyFrom "NestedBells$Source" cX7_copyFrom 3 none 1 := ⟨q_2_144, q_2_145, q_1_4, q_2_146, rfl, by decide +kernel, by decide +kernel, by decide +kernel⟩
set_option maxHeartbeats 4000000 in
set_option maxRecDepth 100000 in
theorem L_X7_copyFrom_154 {l : Launch} {D : va_G} {T : Nat → ClassId} {g ad : Nat → Nat} {p : Program} {e : Env} {s : State} {m : MethodId} {below : List Frame} {meth : Method} {c : Code} {A : Nat → Prop} {Qw : State → Prop} {i : Nat} (Z : en p m c cX7_copyFrom 3 s [.ref (ad (9 + i)), .ref (ad (57 + (9 + i)))].toArray "NestedBells$Source" D T g A) (hi : i < 12) : ∀ (n154 : Nat) (k154 : Nat) (t154 : St) (H : Heap) (locs : List Loc) (ls : Array Slot), k154 ≤ 2 → 2 < k154 + n154 → wo D A s.heap 114 ad (cE (prE T ad) t154) H locs → lv_has ls 3 [(2, .int (nI k154)), (0, .ref (ad (9 + i))), (1, .ref (ad (57 + (9 + i))))] → (∀ (u154 : St) (H : Heap) (locs : List Loc) (ls : Array Slot), (f_X7_copyFrom_l154 i n154 k154 t154) = u154 → wo D A s.heap 114 ad (cE (prE T ad) u154) H locs → lv_has ls 3 [] → W p l e rmX7_copyFrom s m [.ref (ad (9 + i)), .ref (ad (57 + (9 + i)))].toArray below meth c H locs 0 0 Qw (F0 m 180 ls [])) → W p l e rmX7_copyFrom s m [.ref (ad (9 + i)), .ref (ad (57 + (9 + i)))].toArray below meth c H locs 0 0 Qw (F0 m 154 ls []) := by
  have hx := Z.1.1
  have hb := Z.1.2.1
  intro n154
  induction n154 with
  | zero =>
    intro k154 t154 H locs ls hk154 hn154 hw hl kk
    exact absurd hn154 (by omega)
  | succ n154 ih =>
    intro k154 t154 H locs ls hk154 hn154 hw hl kk
    refine lv_iload_n hx hb dX7_copyFrom_154 rfl (lv_at hl 0 rfl) ?_
    refine lv_iconst (v := 2) hx hb dX7_copyFrom_155 (by decide +kernel) ?_
    refine lv_icmp_ge (tgt := 180) hx hb dX7_copyFrom_156 (by decide) (fun c156 => ?_) (fun c156 => ?_)
    · exact kk _ H locs ls (Eq.symm (lf_t c156 rfl)) hw (lv_sub hl [] rfl)
    · have hkb154 : k154 < 2 := kb_ge c156 (by decide) hk154 (by decide)
      refine lv_aload_n hx hb dX7_copyFrom_159 rfl (lv_at hl 1 rfl) ?_
      refine gO (C := "NestedBells$Source") (TC := TX7) (NF := 20) (ci := 5) (j := 19) (v := .ref (ad (21 + i))) Z hw (9 + i) (by have h1 : i < 12 := hi; omega) rfl (fun _ => (p_A (by have h1 : i < 12 := hi; omega)).trans (mE_src hi)) rfl iX7 (by decide) q_1_127 rfl rfl dX7_copyFrom_160 ?_
      refine lv_iload_n hx hb dX7_copyFrom_163 rfl (lv_at hl 0 rfl) ?_
      refine qE (n := 2) (t0 := 4) (v := .ref (ad (33 + 2 * i + k154))) Z hw (21 + i) (by have h1 : i < 12 := hi; omega) rfl ((fun _ => (p_A (by have h1 : i < 12 := hi; omega)).trans (mE_sar hi)) _) rfl (vp_in_nI (by omega) (by decide)) (tr_ok (nI_clamp (by omega)) (by omega)) dX7_copyFrom_164 ?_
      refine lv_aload_n hx hb dX7_copyFrom_165 rfl (lv_at hl 2 rfl) ?_
      refine gO (C := "NestedBells$Source") (TC := TX7) (NF := 20) (ci := 5) (j := 19) (v := .ref (ad (57 + (21 + i)))) Z hw (57 + (9 + i)) (by have h1 : i < 12 := hi; omega) rfl (fun _ => (p_B (by have h1 : i < 12 := hi; omega)).trans (mE_src hi)) rfl iX7 (by decide) q_1_127 rfl rfl dX7_copyFrom_166 ?_
      refine lv_iload_n hx hb dX7_copyFrom_169 rfl (lv_at hl 0 rfl) ?_
      refine qE (n := 2) (t0 := 4) (v := .ref (ad (57 + (33 + 2 * i + k154)))) Z hw (57 + (21 + i)) (by have h1 : i < 12 := hi; omega) rfl ((fun _ => (p_B (by have h1 : i < 12 := hi; omega)).trans (mE_sar hi)) _) rfl (vp_in_nI (by omega) (by decide)) (tr_ok (nI_clamp (by omega)) (by omega)) dX7_copyFrom_170 ?_
      refine bk_v (rnV (rest := []) Z hw (k_X6_copyFrom (i := i) (j := k154) hi (by omega)) v_X6_copyFrom q_2_147 (33 + 2 * i + k154) (by have h1 : i < 12 := hi; have h2 : k154 < 2 := (by omega); omega) rfl ((fun _ => (p_A (by have h1 : i < 12 := hi; have h2 : k154 < 2 := (by omega); omega)).trans (mE_sec hi (by omega))) _) rfl rfl hl.1 rfl rfl (Nat.le_of_ble_eq_true rfl) ⟨(Nat.le_of_ble_eq_true rfl), (Nat.le_of_ble_eq_true rfl)⟩ ⟨(Nat.le_of_ble_eq_true rfl), (Nat.le_of_ble_eq_true rfl)⟩ dX7_copyFrom_171) hw Z (fun s171 H locs hp hw => ?_)
      obtain ⟨es171, I171⟩ := hp
      refine lv_iinc (v := nI (k154 + 1)) (lv' := [(2, .int (nI (k154 + 1))), (0, .ref (ad (9 + i))), (1, .ref (ad (57 + (9 + i))))]) hx hb dX7_copyFrom_174 hl (k := 0) rfl (nI_1 _) (by decide) rfl (fun ls hl => ?_)
      refine lv_goto (tgt := 154) hx hb dX7_copyFrom_177 (by decide) ?_
      exact ih (k154 + 1) s171 H locs ls (by omega) (by omega) hw (lv_sub hl [0, 1, 2] rfl) (fun u154 H locs ls eu154 hw hl => kk u154 H locs ls (Eq.trans (Eq.symm (show (f_X7_copyFrom_l154 i n154 (k154 + 1) s171) = _ from (by subst es171; exact (lf_f c156 rfl)))) eu154) hw hl)
set_option maxHeartbeats 4000000 in
set_option maxRecDepth 100000 in
theorem k_X7_copyFrom {l : Launch} {D : va_G} {T : Nat → ClassId} {g ad : Nat → Nat} {σ : St} {i : Nat} (hi : i < 12) : mX l yX7_copyFrom cX7_copyFrom 3 none rmX7_copyFrom D T g 114 ad (cE (prE T ad) σ) [.ref (ad (9 + i)), .ref (ad (57 + (9 + i)))] (qV D 114 ad (prE T ad) (pV (f_X7_copyFrom σ i) (fun _ => True))) := by
  refine mX.of (own := "NestedBells$Source") (by decide +kernel) (Nat.le_of_ble_eq_true rfl) rfl ?_
  intro p e s m below meth c A ls H locs Z hr hlk _ hw hl
  have hx := Z.1.1
  have hb := Z.1.2.1
  have hl : lv_has ls 3 [(0, .ref (ad (9 + i))), (1, .ref (ad (57 + (9 + i))))] := hl
  refine lv_aload_n hx hb dX7_copyFrom_0 rfl (lv_at hl 0 rfl) ?_
  refine lv_aload_n hx hb dX7_copyFrom_1 rfl (lv_at hl 1 rfl) ?_
  refine gO (C := "NestedBells$Source") (TC := TX7) (NF := 20) (ci := 5) (j := 0) (v := .int (σ (57 + (9 + i)) 0)) Z hw (57 + (9 + i)) (by have h1 : i < 12 := hi; omega) rfl (fun _ => (p_B (by have h1 : i < 12 := hi; omega)).trans (mE_src hi)) rfl iX7 (by decide) q_1_89 rfl rfl dX7_copyFrom_2 ?_
  refine pO (C := "NestedBells$Source") (TC := TX7) (NF := 20) (ci := 5) (j := 0) (ty0 := tyX7) Z hw (9 + i) (by have h1 : i < 12 := hi; omega) rfl (fun _ => (p_A (by have h1 : i < 12 := hi; omega)).trans (mE_src hi)) rfl iX7 tyX7_ok nmX7 (by decide) q_1_89 rfl rfl rfl rfl (Nat.le_of_ble_eq_true rfl) dX7_copyFrom_5 (fun H locs hw => ?_)
  refine lv_aload_n hx hb dX7_copyFrom_8 rfl (lv_at hl 0 rfl) ?_
  refine lv_aload_n hx hb dX7_copyFrom_9 rfl (lv_at hl 1 rfl) ?_
  refine gO (C := "NestedBells$Source") (TC := TX7) (NF := 20) (ci := 5) (j := 1) (v := .int (σ (57 + (9 + i)) 1)) Z hw (57 + (9 + i)) (by have h1 : i < 12 := hi; omega) rfl (fun _ => (p_B (by have h1 : i < 12 := hi; omega)).trans (mE_src hi)) rfl iX7 (by decide) q_1_91 rfl (congrArg (fun x => some (Value.int x)) (up2_j (by decide))) dX7_copyFrom_10 ?_
  refine pO (C := "NestedBells$Source") (TC := TX7) (NF := 20) (ci := 5) (j := 1) (ty0 := tyX7) Z hw (9 + i) (by have h1 : i < 12 := hi; omega) rfl (fun _ => (p_A (by have h1 : i < 12 := hi; omega)).trans (mE_src hi)) rfl iX7 tyX7_ok nmX7 (by decide) q_1_91 rfl rfl rfl rfl (Nat.le_of_ble_eq_true rfl) dX7_copyFrom_13 (fun H locs hw => ?_)
  refine lv_aload_n hx hb dX7_copyFrom_16 rfl (lv_at hl 0 rfl) ?_
  refine lv_aload_n hx hb dX7_copyFrom_17 rfl (lv_at hl 1 rfl) ?_
  refine gO (C := "NestedBells$Source") (TC := TX7) (NF := 20) (ci := 5) (j := 2) (v := .int (σ (57 + (9 + i)) 2)) Z hw (57 + (9 + i)) (by have h1 : i < 12 := hi; omega) rfl (fun _ => (p_B (by have h1 : i < 12 := hi; omega)).trans (mE_src hi)) rfl iX7 (by decide) q_1_93 rfl (congrArg (fun x => some (Value.int x)) ((up2_j (by decide)).trans (up2_j (by decide)))) dX7_copyFrom_18 ?_
  refine pO (C := "NestedBells$Source") (TC := TX7) (NF := 20) (ci := 5) (j := 2) (ty0 := tyX7) Z hw (9 + i) (by have h1 : i < 12 := hi; omega) rfl (fun _ => (p_A (by have h1 : i < 12 := hi; omega)).trans (mE_src hi)) rfl iX7 tyX7_ok nmX7 (by decide) q_1_93 rfl rfl rfl rfl (Nat.le_of_ble_eq_true rfl) dX7_copyFrom_21 (fun H locs hw => ?_)
  refine lv_aload_n hx hb dX7_copyFrom_24 rfl (lv_at hl 0 rfl) ?_
  refine lv_aload_n hx hb dX7_copyFrom_25 rfl (lv_at hl 1 rfl) ?_
  refine gO (C := "NestedBells$Source") (TC := TX7) (NF := 20) (ci := 5) (j := 3) (v := .int (zb (σ (57 + (9 + i)) 3))) Z hw (57 + (9 + i)) (by have h1 : i < 12 := hi; omega) rfl (fun _ => (p_B (by have h1 : i < 12 := hi; omega)).trans (mE_src hi)) rfl iX7 (by decide) q_1_95 rfl (congrArg (fun x => some (Value.int (zb x))) ((up2_j (by decide)).trans ((up2_j (by decide)).trans (up2_j (by decide))))) dX7_copyFrom_26 ?_
  refine pOb (j := 3) Z hw (9 + i) (by have h1 : i < 12 := hi; omega) rfl (fun _ => (p_A (by have h1 : i < 12 := hi; omega)).trans (mE_src hi)) (by decide) q_1_95 zb_zbx dX7_copyFrom_29 (fun H locs hw => ?_)
  refine lv_aload_n hx hb dX7_copyFrom_32 rfl (lv_at hl 0 rfl) ?_
  refine lv_aload_n hx hb dX7_copyFrom_33 rfl (lv_at hl 1 rfl) ?_
  refine gO (C := "NestedBells$Source") (TC := TX7) (NF := 20) (ci := 5) (j := 4) (v := .int (zb (σ (57 + (9 + i)) 4))) Z hw (57 + (9 + i)) (by have h1 : i < 12 := hi; omega) rfl (fun _ => (p_B (by have h1 : i < 12 := hi; omega)).trans (mE_src hi)) rfl iX7 (by decide) q_1_97 rfl (congrArg (fun x => some (Value.int (zb x))) ((up2_j (by decide)).trans ((up2_j (by decide)).trans ((up2_j (by decide)).trans (up2_j (by decide)))))) dX7_copyFrom_34 ?_
  refine pOb (j := 4) Z hw (9 + i) (by have h1 : i < 12 := hi; omega) rfl (fun _ => (p_A (by have h1 : i < 12 := hi; omega)).trans (mE_src hi)) (by decide) q_1_97 zb_zbx dX7_copyFrom_37 (fun H locs hw => ?_)
  refine lv_aload_n hx hb dX7_copyFrom_40 rfl (lv_at hl 0 rfl) ?_
  refine lv_aload_n hx hb dX7_copyFrom_41 rfl (lv_at hl 1 rfl) ?_
  refine gO (C := "NestedBells$Source") (TC := TX7) (NF := 20) (ci := 5) (j := 5) (v := .int (zb (σ (57 + (9 + i)) 5))) Z hw (57 + (9 + i)) (by have h1 : i < 12 := hi; omega) rfl (fun _ => (p_B (by have h1 : i < 12 := hi; omega)).trans (mE_src hi)) rfl iX7 (by decide) q_1_99 rfl (congrArg (fun x => some (Value.int (zb x))) ((up2_j (by decide)).trans ((up2_j (by decide)).trans ((up2_j (by decide)).trans ((up2_j (by decide)).trans (up2_j (by decide))))))) dX7_copyFrom_42 ?_
  refine pOb (j := 5) Z hw (9 + i) (by have h1 : i < 12 := hi; omega) rfl (fun _ => (p_A (by have h1 : i < 12 := hi; omega)).trans (mE_src hi)) (by decide) q_1_99 zb_zbx dX7_copyFrom_45 (fun H locs hw => ?_)
  refine lv_aload_n hx hb dX7_copyFrom_48 rfl (lv_at hl 0 rfl) ?_
  refine lv_aload_n hx hb dX7_copyFrom_49 rfl (lv_at hl 1 rfl) ?_
  refine gO (C := "NestedBells$Source") (TC := TX7) (NF := 20) (ci := 5) (j := 6) (v := .int (σ (57 + (9 + i)) 6)) Z hw (57 + (9 + i)) (by have h1 : i < 12 := hi; omega) rfl (fun _ => (p_B (by have h1 : i < 12 := hi; omega)).trans (mE_src hi)) rfl iX7 (by decide) q_1_101 rfl (congrArg (fun x => some (Value.int x)) ((up2_j (by decide)).trans ((up2_j (by decide)).trans ((up2_j (by decide)).trans ((up2_j (by decide)).trans ((up2_j (by decide)).trans (up2_j (by decide)))))))) dX7_copyFrom_50 ?_
  refine pO (C := "NestedBells$Source") (TC := TX7) (NF := 20) (ci := 5) (j := 6) (ty0 := tyX7) Z hw (9 + i) (by have h1 : i < 12 := hi; omega) rfl (fun _ => (p_A (by have h1 : i < 12 := hi; omega)).trans (mE_src hi)) rfl iX7 tyX7_ok nmX7 (by decide) q_1_101 rfl rfl rfl rfl (Nat.le_of_ble_eq_true rfl) dX7_copyFrom_53 (fun H locs hw => ?_)
  refine lv_aload_n hx hb dX7_copyFrom_56 rfl (lv_at hl 0 rfl) ?_
  refine lv_aload_n hx hb dX7_copyFrom_57 rfl (lv_at hl 1 rfl) ?_
  refine gO (C := "NestedBells$Source") (TC := TX7) (NF := 20) (ci := 5) (j := 7) (v := .int (σ (57 + (9 + i)) 7)) Z hw (57 + (9 + i)) (by have h1 : i < 12 := hi; omega) rfl (fun _ => (p_B (by have h1 : i < 12 := hi; omega)).trans (mE_src hi)) rfl iX7 (by decide) q_1_103 rfl (congrArg (fun x => some (Value.int x)) ((up2_j (by decide)).trans ((up2_j (by decide)).trans ((up2_j (by decide)).trans ((up2_j (by decide)).trans ((up2_j (by decide)).trans ((up2_j (by decide)).trans (up2_j (by decide))))))))) dX7_copyFrom_58 ?_
  refine pO (C := "NestedBells$Source") (TC := TX7) (NF := 20) (ci := 5) (j := 7) (ty0 := tyX7) Z hw (9 + i) (by have h1 : i < 12 := hi; omega) rfl (fun _ => (p_A (by have h1 : i < 12 := hi; omega)).trans (mE_src hi)) rfl iX7 tyX7_ok nmX7 (by decide) q_1_103 rfl rfl rfl rfl (Nat.le_of_ble_eq_true rfl) dX7_copyFrom_61 (fun H locs hw => ?_)
  refine lv_aload_n hx hb dX7_copyFrom_64 rfl (lv_at hl 0 rfl) ?_
  refine lv_aload_n hx hb dX7_copyFrom_65 rfl (lv_at hl 1 rfl) ?_
  refine gO (C := "NestedBells$Source") (TC := TX7) (NF := 20) (ci := 5) (j := 8) (v := .int (σ (57 + (9 + i)) 8)) Z hw (57 + (9 + i)) (by have h1 : i < 12 := hi; omega) rfl (fun _ => (p_B (by have h1 : i < 12 := hi; omega)).trans (mE_src hi)) rfl iX7 (by decide) q_1_105 rfl (congrArg (fun x => some (Value.int x)) ((up2_j (by decide)).trans ((up2_j (by decide)).trans ((up2_j (by decide)).trans ((up2_j (by decide)).trans ((up2_j (by decide)).trans ((up2_j (by decide)).trans ((up2_j (by decide)).trans (up2_j (by decide)))))))))) dX7_copyFrom_66 ?_
  refine pO (C := "NestedBells$Source") (TC := TX7) (NF := 20) (ci := 5) (j := 8) (ty0 := tyX7) Z hw (9 + i) (by have h1 : i < 12 := hi; omega) rfl (fun _ => (p_A (by have h1 : i < 12 := hi; omega)).trans (mE_src hi)) rfl iX7 tyX7_ok nmX7 (by decide) q_1_105 rfl rfl rfl rfl (Nat.le_of_ble_eq_true rfl) dX7_copyFrom_69 (fun H locs hw => ?_)
  refine lv_aload_n hx hb dX7_copyFrom_72 rfl (lv_at hl 0 rfl) ?_
  refine lv_aload_n hx hb dX7_copyFrom_73 rfl (lv_at hl 1 rfl) ?_
  refine gO (C := "NestedBells$Source") (TC := TX7) (NF := 20) (ci := 5) (j := 9) (v := .int (σ (57 + (9 + i)) 9)) Z hw (57 + (9 + i)) (by have h1 : i < 12 := hi; omega) rfl (fun _ => (p_B (by have h1 : i < 12 := hi; omega)).trans (mE_src hi)) rfl iX7 (by decide) q_1_107 rfl (congrArg (fun x => some (Value.int x)) ((up2_j (by decide)).trans ((up2_j (by decide)).trans ((up2_j (by decide)).trans ((up2_j (by decide)).trans ((up2_j (by decide)).trans ((up2_j (by decide)).trans ((up2_j (by decide)).trans ((up2_j (by decide)).trans (up2_j (by decide))))))))))) dX7_copyFrom_74 ?_
  refine pO (C := "NestedBells$Source") (TC := TX7) (NF := 20) (ci := 5) (j := 9) (ty0 := tyX7) Z hw (9 + i) (by have h1 : i < 12 := hi; omega) rfl (fun _ => (p_A (by have h1 : i < 12 := hi; omega)).trans (mE_src hi)) rfl iX7 tyX7_ok nmX7 (by decide) q_1_107 rfl rfl rfl rfl (Nat.le_of_ble_eq_true rfl) dX7_copyFrom_77 (fun H locs hw => ?_)
  refine lv_aload_n hx hb dX7_copyFrom_80 rfl (lv_at hl 0 rfl) ?_
  refine lv_aload_n hx hb dX7_copyFrom_81 rfl (lv_at hl 1 rfl) ?_
  refine gO (C := "NestedBells$Source") (TC := TX7) (NF := 20) (ci := 5) (j := 10) (v := .int (σ (57 + (9 + i)) 10)) Z hw (57 + (9 + i)) (by have h1 : i < 12 := hi; omega) rfl (fun _ => (p_B (by have h1 : i < 12 := hi; omega)).trans (mE_src hi)) rfl iX7 (by decide) q_1_109 rfl (congrArg (fun x => some (Value.int x)) ((up2_j (by decide)).trans ((up2_j (by decide)).trans ((up2_j (by decide)).trans ((up2_j (by decide)).trans ((up2_j (by decide)).trans ((up2_j (by decide)).trans ((up2_j (by decide)).trans ((up2_j (by decide)).trans ((up2_j (by decide)).trans (up2_j (by decide)))))))))))) dX7_copyFrom_82 ?_
  refine pO (C := "NestedBells$Source") (TC := TX7) (NF := 20) (ci := 5) (j := 10) (ty0 := tyX7) Z hw (9 + i) (by have h1 : i < 12 := hi; omega) rfl (fun _ => (p_A (by have h1 : i < 12 := hi; omega)).trans (mE_src hi)) rfl iX7 tyX7_ok nmX7 (by decide) q_1_109 rfl rfl rfl rfl (Nat.le_of_ble_eq_true rfl) dX7_copyFrom_85 (fun H locs hw => ?_)
  refine lv_aload_n hx hb dX7_copyFrom_88 rfl (lv_at hl 0 rfl) ?_
  refine lv_aload_n hx hb dX7_copyFrom_89 rfl (lv_at hl 1 rfl) ?_
  refine gO (C := "NestedBells$Source") (TC := TX7) (NF := 20) (ci := 5) (j := 11) (v := .int (σ (57 + (9 + i)) 11)) Z hw (57 + (9 + i)) (by have h1 : i < 12 := hi; omega) rfl (fun _ => (p_B (by have h1 : i < 12 := hi; omega)).trans (mE_src hi)) rfl iX7 (by decide) q_1_111 rfl (congrArg (fun x => some (Value.int x)) ((up2_j (by decide)).trans ((up2_j (by decide)).trans ((up2_j (by decide)).trans ((up2_j (by decide)).trans ((up2_j (by decide)).trans ((up2_j (by decide)).trans ((up2_j (by decide)).trans ((up2_j (by decide)).trans ((up2_j (by decide)).trans ((up2_j (by decide)).trans (up2_j (by decide))))))))))))) dX7_copyFrom_90 ?_
  refine pO (C := "NestedBells$Source") (TC := TX7) (NF := 20) (ci := 5) (j := 11) (ty0 := tyX7) Z hw (9 + i) (by have h1 : i < 12 := hi; omega) rfl (fun _ => (p_A (by have h1 : i < 12 := hi; omega)).trans (mE_src hi)) rfl iX7 tyX7_ok nmX7 (by decide) q_1_111 rfl rfl rfl rfl (Nat.le_of_ble_eq_true rfl) dX7_copyFrom_93 (fun H locs hw => ?_)
  refine lv_aload_n hx hb dX7_copyFrom_96 rfl (lv_at hl 0 rfl) ?_
  refine lv_aload_n hx hb dX7_copyFrom_97 rfl (lv_at hl 1 rfl) ?_
  refine gO (C := "NestedBells$Source") (TC := TX7) (NF := 20) (ci := 5) (j := 12) (v := .int (σ (57 + (9 + i)) 12)) Z hw (57 + (9 + i)) (by have h1 : i < 12 := hi; omega) rfl (fun _ => (p_B (by have h1 : i < 12 := hi; omega)).trans (mE_src hi)) rfl iX7 (by decide) q_1_113 rfl (congrArg (fun x => some (Value.int x)) ((up2_j (by decide)).trans ((up2_j (by decide)).trans ((up2_j (by decide)).trans ((up2_j (by decide)).trans ((up2_j (by decide)).trans ((up2_j (by decide)).trans ((up2_j (by decide)).trans ((up2_j (by decide)).trans ((up2_j (by decide)).trans ((up2_j (by decide)).trans ((up2_j (by decide)).trans (up2_j (by decide)))))))))))))) dX7_copyFrom_98 ?_
  refine pO (C := "NestedBells$Source") (TC := TX7) (NF := 20) (ci := 5) (j := 12) (ty0 := tyX7) Z hw (9 + i) (by have h1 : i < 12 := hi; omega) rfl (fun _ => (p_A (by have h1 : i < 12 := hi; omega)).trans (mE_src hi)) rfl iX7 tyX7_ok nmX7 (by decide) q_1_113 rfl rfl rfl rfl (Nat.le_of_ble_eq_true rfl) dX7_copyFrom_101 (fun H locs hw => ?_)
  refine lv_aload_n hx hb dX7_copyFrom_104 rfl (lv_at hl 0 rfl) ?_
  refine lv_aload_n hx hb dX7_copyFrom_105 rfl (lv_at hl 1 rfl) ?_
  refine gO (C := "NestedBells$Source") (TC := TX7) (NF := 20) (ci := 5) (j := 13) (v := .int (σ (57 + (9 + i)) 13)) Z hw (57 + (9 + i)) (by have h1 : i < 12 := hi; omega) rfl (fun _ => (p_B (by have h1 : i < 12 := hi; omega)).trans (mE_src hi)) rfl iX7 (by decide) q_1_115 rfl (congrArg (fun x => some (Value.int x)) ((up2_j (by decide)).trans ((up2_j (by decide)).trans ((up2_j (by decide)).trans ((up2_j (by decide)).trans ((up2_j (by decide)).trans ((up2_j (by decide)).trans ((up2_j (by decide)).trans ((up2_j (by decide)).trans ((up2_j (by decide)).trans ((up2_j (by decide)).trans ((up2_j (by decide)).trans ((up2_j (by decide)).trans (up2_j (by decide))))))))))))))) dX7_copyFrom_106 ?_
  refine pO (C := "NestedBells$Source") (TC := TX7) (NF := 20) (ci := 5) (j := 13) (ty0 := tyX7) Z hw (9 + i) (by have h1 : i < 12 := hi; omega) rfl (fun _ => (p_A (by have h1 : i < 12 := hi; omega)).trans (mE_src hi)) rfl iX7 tyX7_ok nmX7 (by decide) q_1_115 rfl rfl rfl rfl (Nat.le_of_ble_eq_true rfl) dX7_copyFrom_109 (fun H locs hw => ?_)
  refine lv_aload_n hx hb dX7_copyFrom_112 rfl (lv_at hl 0 rfl) ?_
  refine lv_aload_n hx hb dX7_copyFrom_113 rfl (lv_at hl 1 rfl) ?_
  refine gO (C := "NestedBells$Source") (TC := TX7) (NF := 20) (ci := 5) (j := 14) (v := .int (σ (57 + (9 + i)) 14)) Z hw (57 + (9 + i)) (by have h1 : i < 12 := hi; omega) rfl (fun _ => (p_B (by have h1 : i < 12 := hi; omega)).trans (mE_src hi)) rfl iX7 (by decide) q_1_117 rfl (congrArg (fun x => some (Value.int x)) ((up2_j (by decide)).trans ((up2_j (by decide)).trans ((up2_j (by decide)).trans ((up2_j (by decide)).trans ((up2_j (by decide)).trans ((up2_j (by decide)).trans ((up2_j (by decide)).trans ((up2_j (by decide)).trans ((up2_j (by decide)).trans ((up2_j (by decide)).trans ((up2_j (by decide)).trans ((up2_j (by decide)).trans ((up2_j (by decide)).trans (up2_j (by decide)))))))))))))))) dX7_copyFrom_114 ?_
  refine pO (C := "NestedBells$Source") (TC := TX7) (NF := 20) (ci := 5) (j := 14) (ty0 := tyX7) Z hw (9 + i) (by have h1 : i < 12 := hi; omega) rfl (fun _ => (p_A (by have h1 : i < 12 := hi; omega)).trans (mE_src hi)) rfl iX7 tyX7_ok nmX7 (by decide) q_1_117 rfl rfl rfl rfl (Nat.le_of_ble_eq_true rfl) dX7_copyFrom_117 (fun H locs hw => ?_)
  refine lv_aload_n hx hb dX7_copyFrom_120 rfl (lv_at hl 0 rfl) ?_
  refine lv_aload_n hx hb dX7_copyFrom_121 rfl (lv_at hl 1 rfl) ?_
  refine gO (C := "NestedBells$Source") (TC := TX7) (NF := 20) (ci := 5) (j := 15) (v := .int (σ (57 + (9 + i)) 15)) Z hw (57 + (9 + i)) (by have h1 : i < 12 := hi; omega) rfl (fun _ => (p_B (by have h1 : i < 12 := hi; omega)).trans (mE_src hi)) rfl iX7 (by decide) q_1_119 rfl (congrArg (fun x => some (Value.int x)) ((up2_j (by decide)).trans ((up2_j (by decide)).trans ((up2_j (by decide)).trans ((up2_j (by decide)).trans ((up2_j (by decide)).trans ((up2_j (by decide)).trans ((up2_j (by decide)).trans ((up2_j (by decide)).trans ((up2_j (by decide)).trans ((up2_j (by decide)).trans ((up2_j (by decide)).trans ((up2_j (by decide)).trans ((up2_j (by decide)).trans ((up2_j (by decide)).trans (up2_j (by decide))))))))))))))))) dX7_copyFrom_122 ?_
  refine pO (C := "NestedBells$Source") (TC := TX7) (NF := 20) (ci := 5) (j := 15) (ty0 := tyX7) Z hw (9 + i) (by have h1 : i < 12 := hi; omega) rfl (fun _ => (p_A (by have h1 : i < 12 := hi; omega)).trans (mE_src hi)) rfl iX7 tyX7_ok nmX7 (by decide) q_1_119 rfl rfl rfl rfl (Nat.le_of_ble_eq_true rfl) dX7_copyFrom_125 (fun H locs hw => ?_)
  refine lv_aload_n hx hb dX7_copyFrom_128 rfl (lv_at hl 0 rfl) ?_
  refine lv_aload_n hx hb dX7_copyFrom_129 rfl (lv_at hl 1 rfl) ?_
  refine gO (C := "NestedBells$Source") (TC := TX7) (NF := 20) (ci := 5) (j := 16) (v := .int (σ (57 + (9 + i)) 16)) Z hw (57 + (9 + i)) (by have h1 : i < 12 := hi; omega) rfl (fun _ => (p_B (by have h1 : i < 12 := hi; omega)).trans (mE_src hi)) rfl iX7 (by decide) q_1_121 rfl (congrArg (fun x => some (Value.int x)) ((up2_j (by decide)).trans ((up2_j (by decide)).trans ((up2_j (by decide)).trans ((up2_j (by decide)).trans ((up2_j (by decide)).trans ((up2_j (by decide)).trans ((up2_j (by decide)).trans ((up2_j (by decide)).trans ((up2_j (by decide)).trans ((up2_j (by decide)).trans ((up2_j (by decide)).trans ((up2_j (by decide)).trans ((up2_j (by decide)).trans ((up2_j (by decide)).trans ((up2_j (by decide)).trans (up2_j (by decide)))))))))))))))))) dX7_copyFrom_130 ?_
  refine pO (C := "NestedBells$Source") (TC := TX7) (NF := 20) (ci := 5) (j := 16) (ty0 := tyX7) Z hw (9 + i) (by have h1 : i < 12 := hi; omega) rfl (fun _ => (p_A (by have h1 : i < 12 := hi; omega)).trans (mE_src hi)) rfl iX7 tyX7_ok nmX7 (by decide) q_1_121 rfl rfl rfl rfl (Nat.le_of_ble_eq_true rfl) dX7_copyFrom_133 (fun H locs hw => ?_)
  refine lv_aload_n hx hb dX7_copyFrom_136 rfl (lv_at hl 0 rfl) ?_
  refine lv_aload_n hx hb dX7_copyFrom_137 rfl (lv_at hl 1 rfl) ?_
  refine gO (C := "NestedBells$Source") (TC := TX7) (NF := 20) (ci := 5) (j := 17) (v := .int (σ (57 + (9 + i)) 17)) Z hw (57 + (9 + i)) (by have h1 : i < 12 := hi; omega) rfl (fun _ => (p_B (by have h1 : i < 12 := hi; omega)).trans (mE_src hi)) rfl iX7 (by decide) q_1_123 rfl (congrArg (fun x => some (Value.int x)) ((up2_j (by decide)).trans ((up2_j (by decide)).trans ((up2_j (by decide)).trans ((up2_j (by decide)).trans ((up2_j (by decide)).trans ((up2_j (by decide)).trans ((up2_j (by decide)).trans ((up2_j (by decide)).trans ((up2_j (by decide)).trans ((up2_j (by decide)).trans ((up2_j (by decide)).trans ((up2_j (by decide)).trans ((up2_j (by decide)).trans ((up2_j (by decide)).trans ((up2_j (by decide)).trans ((up2_j (by decide)).trans (up2_j (by decide))))))))))))))))))) dX7_copyFrom_138 ?_
  refine pO (C := "NestedBells$Source") (TC := TX7) (NF := 20) (ci := 5) (j := 17) (ty0 := tyX7) Z hw (9 + i) (by have h1 : i < 12 := hi; omega) rfl (fun _ => (p_A (by have h1 : i < 12 := hi; omega)).trans (mE_src hi)) rfl iX7 tyX7_ok nmX7 (by decide) q_1_123 rfl rfl rfl rfl (Nat.le_of_ble_eq_true rfl) dX7_copyFrom_141 (fun H locs hw => ?_)
  refine lv_aload_n hx hb dX7_copyFrom_144 rfl (lv_at hl 0 rfl) ?_
  refine lv_aload_n hx hb dX7_copyFrom_145 rfl (lv_at hl 1 rfl) ?_
  refine gO (C := "NestedBells$Source") (TC := TX7) (NF := 20) (ci := 5) (j := 18) (v := .int (σ (57 + (9 + i)) 18)) Z hw (57 + (9 + i)) (by have h1 : i < 12 := hi; omega) rfl (fun _ => (p_B (by have h1 : i < 12 := hi; omega)).trans (mE_src hi)) rfl iX7 (by decide) q_1_125 rfl (congrArg (fun x => some (Value.int x)) ((up2_j (by decide)).trans ((up2_j (by decide)).trans ((up2_j (by decide)).trans ((up2_j (by decide)).trans ((up2_j (by decide)).trans ((up2_j (by decide)).trans ((up2_j (by decide)).trans ((up2_j (by decide)).trans ((up2_j (by decide)).trans ((up2_j (by decide)).trans ((up2_j (by decide)).trans ((up2_j (by decide)).trans ((up2_j (by decide)).trans ((up2_j (by decide)).trans ((up2_j (by decide)).trans ((up2_j (by decide)).trans ((up2_j (by decide)).trans (up2_j (by decide)))))))))))))))))))) dX7_copyFrom_146 ?_
  refine pO (C := "NestedBells$Source") (TC := TX7) (NF := 20) (ci := 5) (j := 18) (ty0 := tyX7) Z hw (9 + i) (by have h1 : i < 12 := hi; omega) rfl (fun _ => (p_A (by have h1 : i < 12 := hi; omega)).trans (mE_src hi)) rfl iX7 tyX7_ok nmX7 (by decide) q_1_125 rfl rfl rfl rfl (Nat.le_of_ble_eq_true rfl) dX7_copyFrom_149 (fun H locs hw => ?_)
  refine lv_iconst (v := 0) hx hb dX7_copyFrom_152 (by decide +kernel) ?_
  refine lv_istore_n (lv' := [(2, .int 0), (0, .ref (ad (9 + i))), (1, .ref (ad (57 + (9 + i))))]) hx hb dX7_copyFrom_153 rfl hl (by decide) rfl (fun ls hl => ?_)
  refine L_X7_copyFrom_154 (i := i) Z hi fu3 0 (up2 (up2 (up2 (up2 (up2 (up2 (up2 (up2 (up2 (up2 (up2 (up2 (up2 (up2 (up2 (up2 (up2 (up2 (up2 σ (9 + i) 0 (σ (57 + (9 + i)) 0)) (9 + i) 1 (σ (57 + (9 + i)) 1)) (9 + i) 2 (σ (57 + (9 + i)) 2)) (9 + i) 3 (zb (σ (57 + (9 + i)) 3))) (9 + i) 4 (zb (σ (57 + (9 + i)) 4))) (9 + i) 5 (zb (σ (57 + (9 + i)) 5))) (9 + i) 6 (σ (57 + (9 + i)) 6)) (9 + i) 7 (σ (57 + (9 + i)) 7)) (9 + i) 8 (σ (57 + (9 + i)) 8)) (9 + i) 9 (σ (57 + (9 + i)) 9)) (9 + i) 10 (σ (57 + (9 + i)) 10)) (9 + i) 11 (σ (57 + (9 + i)) 11)) (9 + i) 12 (σ (57 + (9 + i)) 12)) (9 + i) 13 (σ (57 + (9 + i)) 13)) (9 + i) 14 (σ (57 + (9 + i)) 14)) (9 + i) 15 (σ (57 + (9 + i)) 15)) (9 + i) 16 (σ (57 + (9 + i)) 16)) (9 + i) 17 (σ (57 + (9 + i)) 17)) (9 + i) 18 (σ (57 + (9 + i)) 18)) H locs ls (by omega) (by unfold fu3; omega) hw (lv_sub hl [0, 1, 2] rfl) (fun u154 H locs ls eu154 hw hl => ?_)
  exact rt_v Z hr hlk hw dX7_copyFrom_180 ⟨Eq.symm (by subst eu154; exact rfl), trivial⟩
abbrev rmX5_copyFrom : Room := { frames := 2, cells := 0, slots := 0, locals := 61 }
def f_X5_copyFrom_l39 : Nat → Nat → St → St
  | 0, k39, t39 => (t39)
  | n39 + 1, k39, t39 => (if 12 ≤ (nI k39) then t39 else (let s57 := f_X7_copyFrom t39 k39; (f_X5_copyFrom_l39 n39 (k39 + 1) s57)))
def f_X5_copyFrom (σ : St) : St := (let u39 := (f_X5_copyFrom_l39 fu13 0 (cpy (cpy (up2 σ 0 0 (σ 57 0)) (58) (1) 4) (59) (2) 10)); (let s129 := f_X3_copyFrom (up2 (up2 (up2 (up2 (cpy (up2 u39 0 4 (u39 57 4)) (61) (4) 12) 0 6 ((cpy (up2 u39 0 4 (u39 57 4)) (61) (4) 12) 57 6)) 0 7 ((cpy (up2 u39 0 4 (u39 57 4)) (61) (4) 12) 57 7)) 0 8 ((cpy (up2 u39 0 4 (u39 57 4)) (61) (4) 12) 57 8)) 0 9 ((cpy (up2 u39 0 4 (u39 57 4)) (61) (4) 12) 57 9)); s129))
theorem v_X5_copyFrom : cvV yX5_copyFrom "NestedBells$Machine" cX5_copyFrom 3 none 1 := ⟨q_2_137, q_2_138, q_1_2, q_2_139, rfl, by decide +kernel, by decide +kernel, by decide +kernel⟩
set_option maxHeartbeats 4000000 in
set_option maxRecDepth 100000 in
theorem L_X5_copyFrom_39 {l : Launch} {D : va_G} {T : Nat → ClassId} {g ad : Nat → Nat} {p : Program} {e : Env} {s : State} {m : MethodId} {below : List Frame} {meth : Method} {c : Code} {A : Nat → Prop} {Qw : State → Prop} (Z : en p m c cX5_copyFrom 3 s [.ref (ad 0), .ref (ad 57)].toArray "NestedBells$Machine" D T g A) : ∀ (n39 : Nat) (k39 : Nat) (t39 : St) (H : Heap) (locs : List Loc) (ls : Array Slot), k39 ≤ 12 → 12 < k39 + n39 → wo D A s.heap 114 ad (cE (prE T ad) t39) H locs → lv_has ls 3 [(2, .int (nI k39)), (0, .ref (ad 0)), (1, .ref (ad 57))] → (∀ (u39 : St) (H : Heap) (locs : List Loc) (ls : Array Slot), (f_X5_copyFrom_l39 n39 k39 t39) = u39 → wo D A s.heap 114 ad (cE (prE T ad) u39) H locs → lv_has ls 3 [(0, .ref (ad 0)), (1, .ref (ad 57))] → W p l e rmX5_copyFrom s m [.ref (ad 0), .ref (ad 57)].toArray below meth c H locs 0 0 Qw (F0 m 66 ls [])) → W p l e rmX5_copyFrom s m [.ref (ad 0), .ref (ad 57)].toArray below meth c H locs 0 0 Qw (F0 m 39 ls []) := by
  have hx := Z.1.1
  have hb := Z.1.2.1
  intro n39
  induction n39 with
  | zero =>
    intro k39 t39 H locs ls hk39 hn39 hw hl kk
    exact absurd hn39 (by omega)
  | succ n39 ih =>
    intro k39 t39 H locs ls hk39 hn39 hw hl kk
    refine lv_iload_n hx hb dX5_copyFrom_39 rfl (lv_at hl 0 rfl) ?_
    refine lv_bipush (v := 12) hx hb dX5_copyFrom_40 (by decide +kernel) ?_
    refine lv_icmp_ge (tgt := 66) hx hb dX5_copyFrom_42 (by decide) (fun c42 => ?_) (fun c42 => ?_)
    · exact kk _ H locs ls (Eq.symm (lf_t c42 rfl)) hw (lv_sub hl [1, 2] rfl)
    · have hkb39 : k39 < 12 := kb_ge c42 (by decide) hk39 (by decide)
      refine lv_aload_n hx hb dX5_copyFrom_45 rfl (lv_at hl 1 rfl) ?_
      refine gO (C := "NestedBells$Machine") (TC := TX5) (NF := 11) (ci := 3) (j := 3) (v := .ref (ad 3)) Z hw (0) (by decide) rfl (fun _ => rfl) rfl iX5 (by decide) q_1_173 rfl rfl dX5_copyFrom_46 ?_
      refine lv_iload_n hx hb dX5_copyFrom_49 rfl (lv_at hl 0 rfl) ?_
      refine qE (n := 12) (t0 := 5) (v := .ref (ad (9 + k39))) Z hw (3) (by decide) rfl rfl rfl (vp_in_nI (by omega) (by decide)) (tr_ok (nI_clamp (by omega)) (by omega)) dX5_copyFrom_50 ?_
      refine lv_aload_n hx hb dX5_copyFrom_51 rfl (lv_at hl 2 rfl) ?_
      refine gO (C := "NestedBells$Machine") (TC := TX5) (NF := 11) (ci := 3) (j := 3) (v := .ref (ad 60)) Z hw (57) (by decide) rfl (fun _ => rfl) rfl iX5 (by decide) q_1_173 rfl rfl dX5_copyFrom_52 ?_
      refine lv_iload_n hx hb dX5_copyFrom_55 rfl (lv_at hl 0 rfl) ?_
      refine qE (n := 12) (t0 := 5) (v := .ref (ad (57 + (9 + k39)))) Z hw (60) (by decide) rfl rfl rfl (vp_in_nI (by omega) (by decide)) (tr_ok (nI_clamp (by omega)) (by omega)) dX5_copyFrom_56 ?_
      refine bk_v (rnV (rest := []) Z hw (k_X7_copyFrom (i := k39) (by omega)) v_X7_copyFrom q_2_143 (9 + k39) (by have h1 : k39 < 12 := (by omega); omega) rfl ((fun _ => (p_A (by have h1 : k39 < 12 := (by omega); omega)).trans (mE_src (by omega))) _) rfl rfl hl.1 rfl rfl (Nat.le_of_ble_eq_true rfl) ⟨(Nat.le_of_ble_eq_true rfl), (Nat.le_of_ble_eq_true rfl)⟩ ⟨(Nat.le_of_ble_eq_true rfl), (Nat.le_of_ble_eq_true rfl)⟩ dX5_copyFrom_57) hw Z (fun s57 H locs hp hw => ?_)
      obtain ⟨es57, I57⟩ := hp
      refine lv_iinc (v := nI (k39 + 1)) (lv' := [(2, .int (nI (k39 + 1))), (0, .ref (ad 0)), (1, .ref (ad 57))]) hx hb dX5_copyFrom_60 hl (k := 0) rfl (nI_1 _) (by decide) rfl (fun ls hl => ?_)
      refine lv_goto (tgt := 39) hx hb dX5_copyFrom_63 (by decide) ?_
      exact ih (k39 + 1) s57 H locs ls (by omega) (by omega) hw (lv_sub hl [0, 1, 2] rfl) (fun u39 H locs ls eu39 hw hl => kk u39 H locs ls (Eq.trans (Eq.symm (show (f_X5_copyFrom_l39 n39 (k39 + 1) s57) = _ from (by subst es57; exact (lf_f c42 rfl)))) eu39) hw hl)
set_option maxHeartbeats 4000000 in
set_option maxRecDepth 100000 in
theorem k_X5_copyFrom {l : Launch} {D : va_G} {T : Nat → ClassId} {g ad : Nat → Nat} {σ : St} : mX l yX5_copyFrom cX5_copyFrom 3 none rmX5_copyFrom D T g 114 ad (cE (prE T ad) σ) [.ref (ad 0), .ref (ad 57)] (qV D 114 ad (prE T ad) (pV (f_X5_copyFrom σ) (fun _ => True))) := by
  refine mX.of (own := "NestedBells$Machine") (by decide +kernel) (Nat.le_of_ble_eq_true rfl) rfl ?_
  intro p e s m below meth c A ls H locs Z hr hlk _ hw hl
  have hx := Z.1.1
  have hb := Z.1.2.1
  have hl : lv_has ls 3 [(0, .ref (ad 0)), (1, .ref (ad 57))] := hl
  refine lv_aload_n hx hb dX5_copyFrom_0 rfl (lv_at hl 0 rfl) ?_
  refine lv_aload_n hx hb dX5_copyFrom_1 rfl (lv_at hl 1 rfl) ?_
  refine gO (C := "NestedBells$Machine") (TC := TX5) (NF := 11) (ci := 3) (j := 0) (v := .int (σ 57 0)) Z hw (57) (by decide) rfl (fun _ => rfl) rfl iX5 (by decide) q_1_170 rfl rfl dX5_copyFrom_2 ?_
  refine pO (C := "NestedBells$Machine") (TC := TX5) (NF := 11) (ci := 3) (j := 0) (ty0 := tyX5) Z hw (0) (by decide) rfl (fun _ => rfl) rfl iX5 tyX5_ok nmX5 (by decide) q_1_170 rfl rfl rfl rfl (Nat.le_of_ble_eq_true rfl) dX5_copyFrom_5 (fun H locs hw => ?_)
  refine lv_aload_n hx hb dX5_copyFrom_8 rfl (lv_at hl 1 rfl) ?_
  refine gO (C := "NestedBells$Machine") (TC := TX5) (NF := 11) (ci := 3) (j := 1) (v := .ref (ad 58)) Z hw (57) (by decide) rfl (fun _ => rfl) rfl iX5 (by decide) q_1_171 rfl rfl dX5_copyFrom_9 ?_
  refine lv_iconst (v := 0) hx hb dX5_copyFrom_12 (by decide +kernel) ?_
  refine lv_aload_n hx hb dX5_copyFrom_13 rfl (lv_at hl 0 rfl) ?_
  refine gO (C := "NestedBells$Machine") (TC := TX5) (NF := 11) (ci := 3) (j := 1) (v := .ref (ad 1)) Z hw (0) (by decide) rfl (fun _ => rfl) rfl iX5 (by decide) q_1_171 rfl rfl dX5_copyFrom_14 ?_
  refine lv_iconst (v := 0) hx hb dX5_copyFrom_17 (by decide +kernel) ?_
  refine lv_iconst (v := 4) hx hb dX5_copyFrom_18 (by decide +kernel) ?_
  refine acp (n := 4) Z hw hl.1 (58) (1) (by decide) (by decide) rfl rfl (fun _ => rfl) (fun _ => rfl) q_2_140 q_2_142 q_2_141 q_1_11 (by decide) (by decide) (Nat.le_of_ble_eq_true rfl) (Nat.le_of_ble_eq_true rfl) dX5_copyFrom_19 (fun H locs hw => ?_)
  refine lv_aload_n hx hb dX5_copyFrom_22 rfl (lv_at hl 1 rfl) ?_
  refine gO (C := "NestedBells$Machine") (TC := TX5) (NF := 11) (ci := 3) (j := 2) (v := .ref (ad 59)) Z hw (57) (by decide) rfl (fun _ => rfl) rfl iX5 (by decide) q_1_172 rfl rfl dX5_copyFrom_23 ?_
  refine lv_iconst (v := 0) hx hb dX5_copyFrom_26 (by decide +kernel) ?_
  refine lv_aload_n hx hb dX5_copyFrom_27 rfl (lv_at hl 0 rfl) ?_
  refine gO (C := "NestedBells$Machine") (TC := TX5) (NF := 11) (ci := 3) (j := 2) (v := .ref (ad 2)) Z hw (0) (by decide) rfl (fun _ => rfl) rfl iX5 (by decide) q_1_172 rfl rfl dX5_copyFrom_28 ?_
  refine lv_iconst (v := 0) hx hb dX5_copyFrom_31 (by decide +kernel) ?_
  refine lv_bipush (v := 10) hx hb dX5_copyFrom_32 (by decide +kernel) ?_
  refine acp (n := 10) Z hw hl.1 (59) (2) (by decide) (by decide) rfl rfl (fun _ => rfl) (fun _ => rfl) q_2_140 q_2_142 q_2_141 q_1_11 (by decide) (by decide) (Nat.le_of_ble_eq_true rfl) (Nat.le_of_ble_eq_true rfl) dX5_copyFrom_34 (fun H locs hw => ?_)
  refine lv_iconst (v := 0) hx hb dX5_copyFrom_37 (by decide +kernel) ?_
  refine lv_istore_n (lv' := [(2, .int 0), (0, .ref (ad 0)), (1, .ref (ad 57))]) hx hb dX5_copyFrom_38 rfl hl (by decide) rfl (fun ls hl => ?_)
  refine L_X5_copyFrom_39 Z fu13 0 (cpy (cpy (up2 σ 0 0 (σ 57 0)) (58) (1) 4) (59) (2) 10) H locs ls (by omega) (by unfold fu13; omega) hw (lv_sub hl [0, 1, 2] rfl) (fun u39 H locs ls eu39 hw hl => ?_)
  refine lv_aload_n hx hb dX5_copyFrom_66 rfl (lv_at hl 0 rfl) ?_
  refine lv_aload_n hx hb dX5_copyFrom_67 rfl (lv_at hl 1 rfl) ?_
  refine gO (C := "NestedBells$Machine") (TC := TX5) (NF := 11) (ci := 3) (j := 4) (v := .int (u39 57 4)) Z hw (57) (by decide) rfl (fun _ => rfl) rfl iX5 (by decide) q_1_174 rfl rfl dX5_copyFrom_68 ?_
  refine pO (C := "NestedBells$Machine") (TC := TX5) (NF := 11) (ci := 3) (j := 4) (ty0 := tyX5) Z hw (0) (by decide) rfl (fun _ => rfl) rfl iX5 tyX5_ok nmX5 (by decide) q_1_174 rfl rfl rfl rfl (Nat.le_of_ble_eq_true rfl) dX5_copyFrom_71 (fun H locs hw => ?_)
  refine lv_aload_n hx hb dX5_copyFrom_74 rfl (lv_at hl 1 rfl) ?_
  refine gO (C := "NestedBells$Machine") (TC := TX5) (NF := 11) (ci := 3) (j := 5) (v := .ref (ad 61)) Z hw (57) (by decide) rfl (fun _ => rfl) rfl iX5 (by decide) q_1_176 rfl rfl dX5_copyFrom_75 ?_
  refine lv_iconst (v := 0) hx hb dX5_copyFrom_78 (by decide +kernel) ?_
  refine lv_aload_n hx hb dX5_copyFrom_79 rfl (lv_at hl 0 rfl) ?_
  refine gO (C := "NestedBells$Machine") (TC := TX5) (NF := 11) (ci := 3) (j := 5) (v := .ref (ad 4)) Z hw (0) (by decide) rfl (fun _ => rfl) rfl iX5 (by decide) q_1_176 rfl rfl dX5_copyFrom_80 ?_
  refine lv_iconst (v := 0) hx hb dX5_copyFrom_83 (by decide +kernel) ?_
  refine lv_bipush (v := 12) hx hb dX5_copyFrom_84 (by decide +kernel) ?_
  refine acp (n := 12) Z hw hl.1 (61) (4) (by decide) (by decide) rfl rfl (fun _ => rfl) (fun _ => rfl) q_2_140 q_2_142 q_2_141 q_1_11 (by decide) (by decide) (Nat.le_of_ble_eq_true rfl) (Nat.le_of_ble_eq_true rfl) dX5_copyFrom_86 (fun H locs hw => ?_)
  refine lv_aload_n hx hb dX5_copyFrom_89 rfl (lv_at hl 0 rfl) ?_
  refine lv_aload_n hx hb dX5_copyFrom_90 rfl (lv_at hl 1 rfl) ?_
  refine gO (C := "NestedBells$Machine") (TC := TX5) (NF := 11) (ci := 3) (j := 6) (v := .int ((cpy (up2 u39 0 4 (u39 57 4)) (61) (4) 12) 57 6)) Z hw (57) (by decide) rfl (fun _ => rfl) rfl iX5 (by decide) q_1_177 rfl rfl dX5_copyFrom_91 ?_
  refine pO (C := "NestedBells$Machine") (TC := TX5) (NF := 11) (ci := 3) (j := 6) (ty0 := tyX5) Z hw (0) (by decide) rfl (fun _ => rfl) rfl iX5 tyX5_ok nmX5 (by decide) q_1_177 rfl rfl rfl rfl (Nat.le_of_ble_eq_true rfl) dX5_copyFrom_94 (fun H locs hw => ?_)
  refine lv_aload_n hx hb dX5_copyFrom_97 rfl (lv_at hl 0 rfl) ?_
  refine lv_aload_n hx hb dX5_copyFrom_98 rfl (lv_at hl 1 rfl) ?_
  refine gO (C := "NestedBells$Machine") (TC := TX5) (NF := 11) (ci := 3) (j := 7) (v := .int ((cpy (up2 u39 0 4 (u39 57 4)) (61) (4) 12) 57 7)) Z hw (57) (by decide) rfl (fun _ => rfl) rfl iX5 (by decide) q_1_179 rfl (congrArg (fun x => some (Value.int x)) (up2_j (by decide))) dX5_copyFrom_99 ?_
  refine pO (C := "NestedBells$Machine") (TC := TX5) (NF := 11) (ci := 3) (j := 7) (ty0 := tyX5) Z hw (0) (by decide) rfl (fun _ => rfl) rfl iX5 tyX5_ok nmX5 (by decide) q_1_179 rfl rfl rfl rfl (Nat.le_of_ble_eq_true rfl) dX5_copyFrom_102 (fun H locs hw => ?_)
  refine lv_aload_n hx hb dX5_copyFrom_105 rfl (lv_at hl 0 rfl) ?_
  refine lv_aload_n hx hb dX5_copyFrom_106 rfl (lv_at hl 1 rfl) ?_
  refine gO (C := "NestedBells$Machine") (TC := TX5) (NF := 11) (ci := 3) (j := 8) (v := .int ((cpy (up2 u39 0 4 (u39 57 4)) (61) (4) 12) 57 8)) Z hw (57) (by decide) rfl (fun _ => rfl) rfl iX5 (by decide) q_1_180 rfl (congrArg (fun x => some (Value.int x)) ((up2_j (by decide)).trans (up2_j (by decide)))) dX5_copyFrom_107 ?_
  refine pO (C := "NestedBells$Machine") (TC := TX5) (NF := 11) (ci := 3) (j := 8) (ty0 := tyX5) Z hw (0) (by decide) rfl (fun _ => rfl) rfl iX5 tyX5_ok nmX5 (by decide) q_1_180 rfl rfl rfl rfl (Nat.le_of_ble_eq_true rfl) dX5_copyFrom_110 (fun H locs hw => ?_)
  refine lv_aload_n hx hb dX5_copyFrom_113 rfl (lv_at hl 0 rfl) ?_
  refine lv_aload_n hx hb dX5_copyFrom_114 rfl (lv_at hl 1 rfl) ?_
  refine gO (C := "NestedBells$Machine") (TC := TX5) (NF := 11) (ci := 3) (j := 9) (v := .int ((cpy (up2 u39 0 4 (u39 57 4)) (61) (4) 12) 57 9)) Z hw (57) (by decide) rfl (fun _ => rfl) rfl iX5 (by decide) q_1_181 rfl (congrArg (fun x => some (Value.int x)) ((up2_j (by decide)).trans ((up2_j (by decide)).trans (up2_j (by decide))))) dX5_copyFrom_115 ?_
  refine pO (C := "NestedBells$Machine") (TC := TX5) (NF := 11) (ci := 3) (j := 9) (ty0 := tyX5) Z hw (0) (by decide) rfl (fun _ => rfl) rfl iX5 tyX5_ok nmX5 (by decide) q_1_181 rfl rfl rfl rfl (Nat.le_of_ble_eq_true rfl) dX5_copyFrom_118 (fun H locs hw => ?_)
  refine lv_aload_n hx hb dX5_copyFrom_121 rfl (lv_at hl 0 rfl) ?_
  refine gO (C := "NestedBells$Machine") (TC := TX5) (NF := 11) (ci := 3) (j := 10) (v := .ref (ad 5)) Z hw (0) (by decide) rfl (fun _ => rfl) rfl iX5 (by decide) q_1_182 rfl rfl dX5_copyFrom_122 ?_
  refine lv_aload_n hx hb dX5_copyFrom_125 rfl (lv_at hl 1 rfl) ?_
  refine gO (C := "NestedBells$Machine") (TC := TX5) (NF := 11) (ci := 3) (j := 10) (v := .ref (ad 62)) Z hw (57) (by decide) rfl (fun _ => rfl) rfl iX5 (by decide) q_1_182 rfl rfl dX5_copyFrom_126 ?_
  refine bk_v (rnV (rest := []) Z hw (k_X3_copyFrom  ) v_X3_copyFrom q_2_151 (5) (by decide) rfl ((fun _ => rfl) _) rfl rfl hl.1 rfl rfl (Nat.le_of_ble_eq_true rfl) ⟨(Nat.le_of_ble_eq_true rfl), (Nat.le_of_ble_eq_true rfl)⟩ ⟨(Nat.le_of_ble_eq_true rfl), (Nat.le_of_ble_eq_true rfl)⟩ dX5_copyFrom_129) hw Z (fun s129 H locs hp hw => ?_)
  obtain ⟨es129, I129⟩ := hp
  exact rt_v Z hr hlk hw dX5_copyFrom_132 ⟨Eq.symm (by subst es129 eu39; exact rfl), trivial⟩
