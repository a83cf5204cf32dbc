/-! constructors: straight ones -/
theorem all_0 {P : Nat → Prop} : ∀ k, k < 0 → P k := fun k h => absurd h (by omega)
theorem all_s {P : Nat → Prop} {n : Nat} (h : ∀ k, k < n → P k) (hn : P n) : ∀ k, k < n + 1 → P k := fun k hk => by
  by_cases c : k = n
  · subst c; exact hn
  · exact h k (by omega)
def ec3 (T : Nat → ClassId) (ad : Nat → Nat) (k : Nat) : va_E := match k with
  | 0 => .inr (1, [.ref (ad 1), .ref (ad 2), .ref (ad 3), .int 0, .int 0])
  | _ => .inl (T 1, 20, .inl (fun _ => 0))
def ec6 (_ : Nat → Nat) (_ : Nat) : va_E := .inr (4, [.int 0, .int 0, .int 0])
def d9 : Nat → Int32 := upd (upd (upd (upd (fun _ => 0) 2 12) 3 10) 4 6) 6 (-1)
def ec9 (T : Nat → ClassId) (ad : Nat → Nat) (k : Nat) : va_E := match k with
  | 0 => .inr (7, [.ref (ad 1), .ref (ad 2), .ref (ad 3), .int 0, .int 0, .ref (ad 4), .int 0, .int 0, .int 0, .int 0, .ref (ad 5), .long 0])
  | 1 => .inl (T 1, 381, .inl d9)
  | 2 => .inl (T 1, 1524, .inl (fun _ => 0))
  | 3 => .inl (T 1, 381, .inl (fun _ => 0))
  | 4 => .inl (T 1, 150, .inl (fun _ => 0))
  | _ => .inl (T 1, 4, .inl (fun _ => 0))
def ec2 (g : Nat → Nat) (T : Nat → ClassId) (ad : Nat → Nat) (k : Nat) : va_E := match k with
  | 0 => .inr (0, [.ref (ad 1), .int 0, .int 0, .int (-1), .ref (g 8), .ref (ad 2)])
  | 1 => .inl (T 0, 150, .inl (fun _ => 0))
  | _ => .inl (T 1, 4, .inl (fun _ => 0))
def ec7 (T : Nat → ClassId) (ad : Nat → Nat) (k : Nat) : va_E := match k with
  | 0 => .inr (5, [.int 0, .int 0, .int 0, .int 1, .int 0, .int 0, .int 0, .int (-1), .int 0, .int 0, .int 0, .int 0, .int (-1), .int (-1), .int 0, .int 0, .int 0, .int 0, .int 0, .ref (ad 1)])
  | 1 => .inl (T 4, 2, .inr (.inr (.inr (.inr (trn 2 (fun j => ad (2 + j)))))))
  | _ => .inr (4, [.int 0, .int 0, .int 0])
theorem trn2 {a c : Nat} {f : Nat → Nat} (h0 : f 0 = a) (h1 : f 1 = c) : va_up (va_up (fun _ => none) 0 (some a)) 1 (some c) = trn 2 f := by
  subst h0; subst h1
  funext j
  unfold va_up trn
  by_cases h1 : j = 1
  · subst h1; rfl
  · by_cases h0 : j = 0
    · subst h0; rfl
    · rw [if_neg h1, if_neg h0, if_neg (by omega)]
theorem glue_u {N : Nat} {ct h : Nat → va_E} {X : va_E} (hN : 0 < N) : glue N (va_up ct 0 X) h = va_up (glue N ct h) 0 X := by
  funext j
  show (if j < N then (if j = 0 then X else ct j) else h (j - N)) = (if j = 0 then X else (if j < N then ct j else h (j - N)))
  by_cases h1 : j < N
  · rw [if_pos h1, if_pos h1]
  · rw [if_neg h1, if_neg h1, if_neg (show ¬ j = 0 by omega)]
theorem wo_eq {D : va_G} {A : Nat → Prop} {H0 : Heap} {N : Nat} {ad ad' : Nat → Nat} {ct ct' : Nat → va_E} {H : Heap} {locs : List Loc} (h : wo D A H0 N ad ct H locs) (e1 : ∀ k, k < N → ad k = ad' k) (e2 : ∀ k, k < N → ct k = ct' k) : wo D A H0 N ad' ct' H locs := by
  have e : wl N ad ct = wl N ad' ct' := by
    unfold wl
    refine List.map_congr_left (fun k hk => ?_)
    rw [e1 k (List.mem_range.mp hk), e2 k (List.mem_range.mp hk)]
  unfold wo at h ⊢
  rw [← e]
  exact h
theorem wo_last {D : va_G} {A : Nat → Prop} {H0 : Heap} {N q : Nat} {ad : Nat → Nat} {ct : Nat → va_E} {x : va_E} {H : Heap} {locs : List Loc} (h : wo D A H0 (N + 1) ad ct H locs) (hq : ad N = q) (hc : ct N = x) : wo D A H0 1 (fun _ => q) (fun _ => x) H locs := by
  subst hq; subst hc
  exact wo_sub h (fun _ => N) (fun k _ => Nat.lt_succ_self N) (fun i j hi hj _ => by omega) (fun k _ => rfl)
theorem wo_same2 {D : va_G} {A : Nat → Prop} {H0 : Heap} {N q : Nat} {ad a1 : Nat → Nat} {ct : Nat → va_E} {x X : va_E} {H : Heap} {locs : List Loc} (h : wo D A H0 (N + 1) (glue N (ext ad N q) a1) (va_up (glue N (ext ct N x) (fun _ => x)) 0 X) H locs) (e : a1 0 = q) (hN : 0 < N) : wo D A H0 (N + 1) (ext ad N q) (va_up (ext ct N x) 0 X) H locs := by
  refine wo_eq h (fun k hk => ?_) (fun k hk => ?_)
  · by_cases c : k < N
    · rw [glue_l c]
    · have : k = N + 0 := by omega
      rw [this, glue_r, e]
      exact ext_s.symm
  · unfold va_up
    by_cases c0 : k = 0
    · rw [if_pos c0, if_pos c0]
    · rw [if_neg c0, if_neg c0]
      by_cases c : k < N
      · rw [glue_l c]
      · have : k = N + 0 := by omega
        rw [this, glue_r]
        exact ext_s.symm
theorem wo_glue {D : va_G} {A : Nat → Prop} {H0 : Heap} {N Nc q : Nat} {ad a1 : Nat → Nat} {ct h : Nat → va_E} {x X : va_E} {H : Heap} {locs : List Loc} (hw : wo D A H0 (N + Nc) (glue N (ext ad N q) a1) (glue N (va_up (ext ct N x) 0 X) h) H locs) (hN : 0 < N) : wo D A H0 (N + Nc) (glue N ad a1) (va_up (glue N ct h) 0 X) H locs := by
  refine wo_eq hw (fun k hk => ?_) (fun k hk => ?_)
  · by_cases c : k < N
    · rw [glue_l c, glue_l c, ext_n (by omega)]
    · unfold glue; rw [if_neg c, if_neg c]
  · unfold va_up
    by_cases c0 : k = 0
    · subst c0
      rw [glue_l hN, if_pos rfl, if_pos rfl]
    · rw [if_neg c0]
      by_cases c : k < N
      · rw [glue_l c, glue_l c, if_neg c0, ext_n (by omega)]
      · unfold glue; rw [if_neg c, if_neg c]
section Own2
variable {p : Program} {l : Launch} {e : Env} {R : Room} {s : State} {m : MethodId} {args : Array Value} {below : List Frame} {meth : Method} {c : Code} {H : Heap} {locs : List Loc} {cells slots : Nat} {Qw : State → Prop} {cc : ByteArray} {pc nL : Nat} {ls : Array Slot} {rest : List Value} {own : String} {D : va_G} {T : Nat → ClassId} {g : Nat → Nat} {A : Nat → Prop} {N : Nat} {ad : Nat → Nat} {ct : Nat → va_E} {X : va_E}
theorem nO0 {C : String} {TC : u_T} {NF ci idx : Nat} {fs : List Value} {ty0 : Nat → FieldType} (Z : en p m c cc nL s args own D T g A) (hw : wo D A s.heap N ad (va_up ct 0 X) H locs) (h0 : 0 < N) (hin : ∀ w ∈ u_ws C TC NF, w ∈ AW) (hty : ∀ k, k < NF → parseFieldDescriptor (TC k).2.2.1 = some (ty0 k)) (hcl : Cond.classLink own idx C ∈ AW) (hinst : Cond.instantiable C NF ∈ AW) (hini : Cond.initialized C ∈ AW) (hc : vwCl[ci]? = some (C, TC, NF)) (hfs : ∀ j, j < NF → defaultValue (ty0 j) = vp_V fs j) (hcells : cells + 1 ≤ R.cells) (hslots : slots + NF ≤ R.slots) (d : decode cc pc = .ok (.new idx, 3))
    (kk : ∀ (q : Nat) (H1 : Heap), wo D A s.heap (N + 1) (ext ad N q) (va_up (ext ct N (.inr (ci, fs))) 0 X) H1 locs → W p l e R s m args below meth c H1 locs (cells + 1) (slots + NF) Qw (F0 m (pc + 3) ls (.ref q :: rest))) : W p l e R s m args below meth c H locs cells slots Qw (F0 m pc ls rest) :=
  nwO Z hw hin hty hcl hinst hini hc hfs hcells hslots d (fun q H1 hw1 => kk q H1 (hw1.eq (ext_u h0)))
end Own2
abbrev rmX6_init : Room := { frames := 1, cells := 0, slots := 0, locals := 20 }
theorem v_X6_init : cvI yX6_init cX6_init 1 0 := ⟨q_1_73, q_1_5, q_1_74, rfl, by decide +kernel, by decide +kernel, by decide +kernel⟩
set_option maxHeartbeats 4000000 in
set_option maxRecDepth 100000 in
theorem k_X6_init {l : Launch} {D : va_G} {T : Nat → ClassId} {g : Nat → Nat} {b : Nat} : mI l yX6_init cX6_init 1 none rmX6_init D T g 1 (fun _ => b) (fun _ => .inr (4, [.int 0, .int 0, .int 0])) [.ref b] (qN D 1 b ec6) := by
  refine mI.of (own := "NestedBells$Section") (by decide +kernel) (Nat.le_of_ble_eq_true rfl) rfl ?_
  intro p e s m below meth c A ls H locs Z hO hr hlk hin hw hl
  have hx := Z.1.1
  have hb := Z.1.2.1
  have hi := hin rfl
  have hl : lv_has ls 1 [(0, .ref b)] := hl
  obtain ⟨c0, hc0⟩ : ∃ c0 : Nat → va_E, c0 = fun _ => .inr (4, [.int 0, .int 0, .int 0]) := ⟨_, rfl⟩
  have hw : wo D A s.heap 1 (fun _ => b) (va_up c0 0 (.inr (4, [.int 0, .int 0, .int 0]))) H locs := hw.cong (all_s all_0 rfl)
  refine lv_aload_n hx hb dX6_init_0 rfl (lv_at hl 0 rfl) ?_
  refine oI Z q_1_75 hl.1 (Nat.le_of_ble_eq_true rfl) (Nat.le_of_ble_eq_true rfl) dX6_init_1 ?_
  refine lv_aload_n hx hb dX6_init_4 rfl (lv_at hl 0 rfl) ?_
  refine lv_iconst (v := 0) hx hb dX6_init_5 (by decide +kernel) ?_
  refine pOo (C := "NestedBells$Section") (TC := TX6) (NF := 3) (ci := 4) (j := 0) (ty0 := tyX6) (ty := .int) (fs' := [.int 0, .int 0, .int 0]) Z hi hw (by decide) rfl rfl iX6 tyX6_ok nmX6 (by decide) q_1_76 rfl rfl rfl rfl rfl (Nat.le_of_ble_eq_true rfl) rfl dX6_init_6 (fun H locs hw => ?_)
  refine lv_aload_n hx hb dX6_init_9 rfl (lv_at hl 0 rfl) ?_
  refine lv_iconst (v := 0) hx hb dX6_init_10 (by decide +kernel) ?_
  refine pOo (C := "NestedBells$Section") (TC := TX6) (NF := 3) (ci := 4) (j := 1) (ty0 := tyX6) (ty := .int) (fs' := [.int 0, .int 0, .int 0]) Z hi hw (by decide) rfl rfl iX6 tyX6_ok nmX6 (by decide) q_1_78 rfl rfl rfl rfl rfl (Nat.le_of_ble_eq_true rfl) rfl dX6_init_11 (fun H locs hw => ?_)
  refine lv_aload_n hx hb dX6_init_14 rfl (lv_at hl 0 rfl) ?_
  refine lv_iconst (v := 0) hx hb dX6_init_15 (by decide +kernel) ?_
  refine pOo (C := "NestedBells$Section") (TC := TX6) (NF := 3) (ci := 4) (j := 2) (ty0 := tyX6) (ty := .int) (fs' := [.int 0, .int 0, .int 0]) Z hi hw (by decide) rfl rfl iX6 tyX6_ok nmX6 (by decide) q_1_80 rfl rfl rfl rfl rfl (Nat.le_of_ble_eq_true rfl) rfl dX6_init_16 (fun H locs hw => ?_)
  exact rt_n (Ec := ec6) Z hr hlk (hw.cong (all_s all_0 rfl)) rfl dX6_init_19
abbrev rmX3_init : Room := { frames := 1, cells := 3, slots := 60, locals := 20 }
theorem v_X3_init : cvI yX3_init cX3_init 1 0 := ⟨q_1_43, q_1_3, q_1_44, rfl, by decide +kernel, by decide +kernel, by decide +kernel⟩
set_option maxHeartbeats 4000000 in
set_option maxRecDepth 100000 in
theorem k_X3_init {l : Launch} {D : va_G} {T : Nat → ClassId} {g : Nat → Nat} {b : Nat} : mI l yX3_init cX3_init 1 none rmX3_init D T g 1 (fun _ => b) (fun _ => .inr (1, [.null, .null, .null, .int 0, .int 0])) [.ref b] (qN D 4 b (ec3 T)) := by
  refine mI.of (own := "NestedBells$EventLog") (by decide +kernel) (Nat.le_of_ble_eq_true rfl) rfl ?_
  intro p e s m below meth c A ls H locs Z hO hr hlk hin hw hl
  have hx := Z.1.1
  have hb := Z.1.2.1
  have hi := hin rfl
  have hl : lv_has ls 1 [(0, .ref b)] := hl
  obtain ⟨c0, hc0⟩ : ∃ c0 : Nat → va_E, c0 = fun _ => .inr (1, [.null, .null, .null, .int 0, .int 0]) := ⟨_, rfl⟩
  have hw : wo D A s.heap 1 (fun _ => b) (va_up c0 0 (.inr (1, [.null, .null, .null, .int 0, .int 0]))) H locs := hw.cong (all_s all_0 rfl)
  refine lv_aload_n hx hb dX3_init_0 rfl (lv_at hl 0 rfl) ?_
  refine oI Z q_1_45 hl.1 (Nat.le_of_ble_eq_true rfl) (Nat.le_of_ble_eq_true rfl) dX3_init_1 ?_
  refine lv_aload_n hx hb dX3_init_4 rfl (lv_at hl 0 rfl) ?_
  refine lv_bipush (v := 20) hx hb dX3_init_5 (by decide +kernel) ?_
  refine nI0 (N' := 20) Z hw (by decide) q_1_63 (by decide) (by decide) (Nat.le_of_ble_eq_true rfl) (Nat.le_of_ble_eq_true rfl) (Nat.le_of_ble_eq_true rfl) dX3_init_7 (fun q1 H hw => ?_)
  refine pOo (C := "NestedBells$EventLog") (TC := TX3) (NF := 5) (ci := 1) (j := 0) (ty0 := tyX3) (ty := .array .int) (fs' := [.ref q1, .null, .null, .int 0, .int 0]) Z hi hw (by decide) rfl rfl iX3 tyX3_ok nmX3 (by decide) q_1_46 rfl rfl rfl rfl rfl (Nat.le_of_ble_eq_true rfl) rfl dX3_init_9 (fun H locs hw => ?_)
  refine lv_aload_n hx hb dX3_init_12 rfl (lv_at hl 0 rfl) ?_
  refine lv_bipush (v := 20) hx hb dX3_init_13 (by decide +kernel) ?_
  refine nI0 (N' := 20) Z hw (by decide) q_1_63 (by decide) (by decide) (Nat.le_of_ble_eq_true rfl) (Nat.le_of_ble_eq_true rfl) (Nat.le_of_ble_eq_true rfl) dX3_init_15 (fun q2 H hw => ?_)
  refine pOo (C := "NestedBells$EventLog") (TC := TX3) (NF := 5) (ci := 1) (j := 1) (ty0 := tyX3) (ty := .array .int) (fs' := [.ref q1, .ref q2, .null, .int 0, .int 0]) Z hi hw (by decide) rfl rfl iX3 tyX3_ok nmX3 (by decide) q_1_47 rfl rfl rfl rfl rfl (Nat.le_of_ble_eq_true rfl) rfl dX3_init_17 (fun H locs hw => ?_)
  refine lv_aload_n hx hb dX3_init_20 rfl (lv_at hl 0 rfl) ?_
  refine lv_bipush (v := 20) hx hb dX3_init_21 (by decide +kernel) ?_
  refine nI0 (N' := 20) Z hw (by decide) q_1_63 (by decide) (by decide) (Nat.le_of_ble_eq_true rfl) (Nat.le_of_ble_eq_true rfl) (Nat.le_of_ble_eq_true rfl) dX3_init_23 (fun q3 H hw => ?_)
  refine pOo (C := "NestedBells$EventLog") (TC := TX3) (NF := 5) (ci := 1) (j := 2) (ty0 := tyX3) (ty := .array .int) (fs' := [.ref q1, .ref q2, .ref q3, .int 0, .int 0]) Z hi hw (by decide) rfl rfl iX3 tyX3_ok nmX3 (by decide) q_1_48 rfl rfl rfl rfl rfl (Nat.le_of_ble_eq_true rfl) rfl dX3_init_25 (fun H locs hw => ?_)
  refine lv_aload_n hx hb dX3_init_28 rfl (lv_at hl 0 rfl) ?_
  refine lv_iconst (v := 0) hx hb dX3_init_29 (by decide +kernel) ?_
  refine pOo (C := "NestedBells$EventLog") (TC := TX3) (NF := 5) (ci := 1) (j := 3) (ty0 := tyX3) (ty := .int) (fs' := [.ref q1, .ref q2, .ref q3, .int 0, .int 0]) Z hi hw (by decide) rfl rfl iX3 tyX3_ok nmX3 (by decide) q_1_49 rfl rfl rfl rfl rfl (Nat.le_of_ble_eq_true rfl) rfl dX3_init_30 (fun H locs hw => ?_)
  refine lv_aload_n hx hb dX3_init_33 rfl (lv_at hl 0 rfl) ?_
  refine lv_iconst (v := 0) hx hb dX3_init_34 (by decide +kernel) ?_
  refine pOo (C := "NestedBells$EventLog") (TC := TX3) (NF := 5) (ci := 1) (j := 4) (ty0 := tyX3) (ty := .int) (fs' := [.ref q1, .ref q2, .ref q3, .int 0, .int 0]) Z hi hw (by decide) rfl rfl iX3 tyX3_ok nmX3 (by decide) q_1_50 rfl rfl rfl rfl rfl (Nat.le_of_ble_eq_true rfl) rfl dX3_init_35 (fun H locs hw => ?_)
  exact rt_n (Ec := (ec3 T)) Z hr hlk (hw.cong (all_s (all_s (all_s (all_s all_0 rfl) rfl) rfl) rfl)) rfl dX3_init_38
abbrev rmX9_init : Room := { frames := 1, cells := 5, slots := 2440, locals := 20 }
theorem v_X9_init : cvI yX9_init cX9_init 1 0 := ⟨q_4_209, q_1_10, q_4_210, rfl, by decide +kernel, by decide +kernel, by decide +kernel⟩
set_option maxHeartbeats 4000000 in
set_option maxRecDepth 100000 in
theorem k_X9_init {l : Launch} {D : va_G} {T : Nat → ClassId} {g : Nat → Nat} {b : Nat} : mI l yX9_init cX9_init 1 none rmX9_init D T g 1 (fun _ => b) (fun _ => .inr (7, [.null, .null, .null, .int 0, .int 0, .null, .int 0, .int 0, .int 0, .int 0, .null, .long 0])) [.ref b] (qN D 6 b (ec9 T)) := by
  refine mI.of (own := "NestedBellsModel") (by decide +kernel) (Nat.le_of_ble_eq_true rfl) rfl ?_
  intro p e s m below meth c A ls H locs Z hO hr hlk hin hw hl
  have hx := Z.1.1
  have hb := Z.1.2.1
  have hi := hin rfl
  have hl : lv_has ls 1 [(0, .ref b)] := hl
  obtain ⟨c0, hc0⟩ : ∃ c0 : Nat → va_E, c0 = fun _ => .inr (7, [.null, .null, .null, .int 0, .int 0, .null, .int 0, .int 0, .int 0, .int 0, .null, .long 0]) := ⟨_, rfl⟩
  have hw : wo D A s.heap 1 (fun _ => b) (va_up c0 0 (.inr (7, [.null, .null, .null, .int 0, .int 0, .null, .int 0, .int 0, .int 0, .int 0, .null, .long 0]))) H locs := hw.cong (all_s all_0 rfl)
  refine lv_aload_n hx hb dX9_init_0 rfl (lv_at hl 0 rfl) ?_
  refine oI Z q_4_211 hl.1 (Nat.le_of_ble_eq_true rfl) (Nat.le_of_ble_eq_true rfl) dX9_init_1 ?_
  refine lv_aload_n hx hb dX9_init_4 rfl (lv_at hl 0 rfl) ?_
  refine lv_sipush (v := 381) hx hb dX9_init_5 (by decide +kernel) ?_
  refine nI0 (N' := 381) Z hw (by decide) q_1_63 (by decide) (by decide) (Nat.le_of_ble_eq_true rfl) (Nat.le_of_ble_eq_true rfl) (Nat.le_of_ble_eq_true rfl) dX9_init_8 (fun q1 H hw => ?_)
  refine pOo (C := "NestedBellsModel") (TC := TX9) (NF := 12) (ci := 7) (j := 0) (ty0 := tyX9) (ty := .array .int) (fs' := [.ref q1, .null, .null, .int 0, .int 0, .null, .int 0, .int 0, .int 0, .int 0, .null, .long 0]) Z hi hw (by decide) rfl rfl iX9 tyX9_ok nmX9 (by decide) q_4_212 rfl rfl rfl rfl rfl (Nat.le_of_ble_eq_true rfl) rfl dX9_init_10 (fun H locs hw => ?_)
  refine lv_aload_n hx hb dX9_init_13 rfl (lv_at hl 0 rfl) ?_
  refine lv_sipush (v := 1524) hx hb dX9_init_14 (by decide +kernel) ?_
  refine nI0 (N' := 1524) Z hw (by decide) q_1_63 (by decide) (by decide) (Nat.le_of_ble_eq_true rfl) (Nat.le_of_ble_eq_true rfl) (Nat.le_of_ble_eq_true rfl) dX9_init_17 (fun q2 H hw => ?_)
  refine pOo (C := "NestedBellsModel") (TC := TX9) (NF := 12) (ci := 7) (j := 1) (ty0 := tyX9) (ty := .array .int) (fs' := [.ref q1, .ref q2, .null, .int 0, .int 0, .null, .int 0, .int 0, .int 0, .int 0, .null, .long 0]) Z hi hw (by decide) rfl rfl iX9 tyX9_ok nmX9 (by decide) q_4_213 rfl rfl rfl rfl rfl (Nat.le_of_ble_eq_true rfl) rfl dX9_init_19 (fun H locs hw => ?_)
  refine lv_aload_n hx hb dX9_init_22 rfl (lv_at hl 0 rfl) ?_
  refine lv_sipush (v := 381) hx hb dX9_init_23 (by decide +kernel) ?_
  refine nI0 (N' := 381) Z hw (by decide) q_1_63 (by decide) (by decide) (Nat.le_of_ble_eq_true rfl) (Nat.le_of_ble_eq_true rfl) (Nat.le_of_ble_eq_true rfl) dX9_init_26 (fun q3 H hw => ?_)
  refine pOo (C := "NestedBellsModel") (TC := TX9) (NF := 12) (ci := 7) (j := 2) (ty0 := tyX9) (ty := .array .int) (fs' := [.ref q1, .ref q2, .ref q3, .int 0, .int 0, .null, .int 0, .int 0, .int 0, .int 0, .null, .long 0]) Z hi hw (by decide) rfl rfl iX9 tyX9_ok nmX9 (by decide) q_4_214 rfl rfl rfl rfl rfl (Nat.le_of_ble_eq_true rfl) rfl dX9_init_28 (fun H locs hw => ?_)
  refine lv_aload_n hx hb dX9_init_31 rfl (lv_at hl 0 rfl) ?_
  refine lv_sipush (v := 150) hx hb dX9_init_32 (by decide +kernel) ?_
  refine nI0 (N' := 150) Z hw (by decide) q_1_63 (by decide) (by decide) (Nat.le_of_ble_eq_true rfl) (Nat.le_of_ble_eq_true rfl) (Nat.le_of_ble_eq_true rfl) dX9_init_35 (fun q4 H hw => ?_)
  refine pOo (C := "NestedBellsModel") (TC := TX9) (NF := 12) (ci := 7) (j := 5) (ty0 := tyX9) (ty := .array .int) (fs' := [.ref q1, .ref q2, .ref q3, .int 0, .int 0, .ref q4, .int 0, .int 0, .int 0, .int 0, .null, .long 0]) Z hi hw (by decide) rfl rfl iX9 tyX9_ok nmX9 (by decide) q_4_217 rfl rfl rfl rfl rfl (Nat.le_of_ble_eq_true rfl) rfl dX9_init_37 (fun H locs hw => ?_)
  refine lv_aload_n hx hb dX9_init_40 rfl (lv_at hl 0 rfl) ?_
  refine lv_iconst (v := 4) hx hb dX9_init_41 (by decide +kernel) ?_
  refine nI0 (N' := 4) Z hw (by decide) q_1_63 (by decide) (by decide) (Nat.le_of_ble_eq_true rfl) (Nat.le_of_ble_eq_true rfl) (Nat.le_of_ble_eq_true rfl) dX9_init_42 (fun q5 H hw => ?_)
  refine pOo (C := "NestedBellsModel") (TC := TX9) (NF := 12) (ci := 7) (j := 10) (ty0 := tyX9) (ty := .array .int) (fs' := [.ref q1, .ref q2, .ref q3, .int 0, .int 0, .ref q4, .int 0, .int 0, .int 0, .int 0, .ref q5, .long 0]) Z hi hw (by decide) rfl rfl iX9 tyX9_ok nmX9 (by decide) q_4_222 rfl rfl rfl rfl rfl (Nat.le_of_ble_eq_true rfl) rfl dX9_init_44 (fun H locs hw => ?_)
  refine lv_aload_n hx hb dX9_init_47 rfl (lv_at hl 0 rfl) ?_
  refine gf (C := "NestedBellsModel") (TC := TX9) (NF := 12) (ci := 7) (j := 0) (v := .ref q1) (fs := [.ref q1, .ref q2, .ref q3, .int 0, .int 0, .ref q4, .int 0, .int 0, .int 0, .int 0, .ref q5, .long 0]) Z hw 0 (by decide) rfl (if_pos rfl) rfl iX9 (by decide) q_4_212 rfl rfl dX9_init_48 ?_
  refine lv_iconst (v := 2) hx hb dX9_init_51 (by decide +kernel) ?_
  refine lv_bipush (v := 12) hx hb dX9_init_52 (by decide +kernel) ?_
  refine as (n := 381) (f := (fun _ => 0)) (ct' := va_up (va_up (ext (ext (ext (ext (ext c0 1 (.inl (T 1, 381, .inl (fun _ => 0)))) 2 (.inl (T 1, 1524, .inl (fun _ => 0)))) 3 (.inl (T 1, 381, .inl (fun _ => 0)))) 4 (.inl (T 1, 150, .inl (fun _ => 0)))) 5 (.inl (T 1, 4, .inl (fun _ => 0)))) 1 (.inl (T 1, 381, .inl (upd (fun _ => 0) 2 12)))) 0 (.inr (7, [.ref q1, .ref q2, .ref q3, .int 0, .int 0, .ref q4, .int 0, .int 0, .int 0, .int 0, .ref q5, .long 0]))) Z hw 1 (by decide) rfl rfl (vp_in_nI (n := 2) (by decide) (by decide)) (va_ud (by decide)) dX9_init_54 (fun H locs hw => ?_)
  refine lv_aload_n hx hb dX9_init_55 rfl (lv_at hl 0 rfl) ?_
  refine gf (C := "NestedBellsModel") (TC := TX9) (NF := 12) (ci := 7) (j := 0) (v := .ref q1) (fs := [.ref q1, .ref q2, .ref q3, .int 0, .int 0, .ref q4, .int 0, .int 0, .int 0, .int 0, .ref q5, .long 0]) Z hw 0 (by decide) rfl (if_pos rfl) rfl iX9 (by decide) q_4_212 rfl rfl dX9_init_56 ?_
  refine lv_iconst (v := 3) hx hb dX9_init_59 (by decide +kernel) ?_
  refine lv_bipush (v := 10) hx hb dX9_init_60 (by decide +kernel) ?_
  refine as (n := 381) (f := (upd (fun _ => 0) 2 12)) (ct' := va_up (va_up (va_up (ext (ext (ext (ext (ext c0 1 (.inl (T 1, 381, .inl (fun _ => 0)))) 2 (.inl (T 1, 1524, .inl (fun _ => 0)))) 3 (.inl (T 1, 381, .inl (fun _ => 0)))) 4 (.inl (T 1, 150, .inl (fun _ => 0)))) 5 (.inl (T 1, 4, .inl (fun _ => 0)))) 1 (.inl (T 1, 381, .inl (upd (fun _ => 0) 2 12)))) 1 (.inl (T 1, 381, .inl (upd (upd (fun _ => 0) 2 12) 3 10)))) 0 (.inr (7, [.ref q1, .ref q2, .ref q3, .int 0, .int 0, .ref q4, .int 0, .int 0, .int 0, .int 0, .ref q5, .long 0]))) Z hw 1 (by decide) rfl rfl (vp_in_nI (n := 3) (by decide) (by decide)) (va_ud (by decide)) dX9_init_62 (fun H locs hw => ?_)
  refine lv_aload_n hx hb dX9_init_63 rfl (lv_at hl 0 rfl) ?_
  refine gf (C := "NestedBellsModel") (TC := TX9) (NF := 12) (ci := 7) (j := 0) (v := .ref q1) (fs := [.ref q1, .ref q2, .ref q3, .int 0, .int 0, .ref q4, .int 0, .int 0, .int 0, .int 0, .ref q5, .long 0]) Z hw 0 (by decide) rfl (if_pos rfl) rfl iX9 (by decide) q_4_212 rfl rfl dX9_init_64 ?_
  refine lv_iconst (v := 4) hx hb dX9_init_67 (by decide +kernel) ?_
  refine lv_bipush (v := 6) hx hb dX9_init_68 (by decide +kernel) ?_
  refine as (n := 381) (f := (upd (upd (fun _ => 0) 2 12) 3 10)) (ct' := va_up (va_up (va_up (va_up (ext (ext (ext (ext (ext c0 1 (.inl (T 1, 381, .inl (fun _ => 0)))) 2 (.inl (T 1, 1524, .inl (fun _ => 0)))) 3 (.inl (T 1, 381, .inl (fun _ => 0)))) 4 (.inl (T 1, 150, .inl (fun _ => 0)))) 5 (.inl (T 1, 4, .inl (fun _ => 0)))) 1 (.inl (T 1, 381, .inl (upd (fun _ => 0) 2 12)))) 1 (.inl (T 1, 381, .inl (upd (upd (fun _ => 0) 2 12) 3 10)))) 1 (.inl (T 1, 381, .inl (upd (upd (upd (fun _ => 0) 2 12) 3 10) 4 6)))) 0 (.inr (7, [.ref q1, .ref q2, .ref q3, .int 0, .int 0, .ref q4, .int 0, .int 0, .int 0, .int 0, .ref q5, .long 0]))) Z hw 1 (by decide) rfl rfl (vp_in_nI (n := 4) (by decide) (by decide)) (va_ud (by decide)) dX9_init_70 (fun H locs hw => ?_)
  refine lv_aload_n hx hb dX9_init_71 rfl (lv_at hl 0 rfl) ?_
  refine gf (C := "NestedBellsModel") (TC := TX9) (NF := 12) (ci := 7) (j := 0) (v := .ref q1) (fs := [.ref q1, .ref q2, .ref q3, .int 0, .int 0, .ref q4, .int 0, .int 0, .int 0, .int 0, .ref q5, .long 0]) Z hw 0 (by decide) rfl (if_pos rfl) rfl iX9 (by decide) q_4_212 rfl rfl dX9_init_72 ?_
  refine lv_bipush (v := 6) hx hb dX9_init_75 (by decide +kernel) ?_
  refine lv_iconst (v := -1) hx hb dX9_init_77 (by decide +kernel) ?_
  refine as (n := 381) (f := (upd (upd (upd (fun _ => 0) 2 12) 3 10) 4 6)) (ct' := va_up (va_up (va_up (va_up (va_up (ext (ext (ext (ext (ext c0 1 (.inl (T 1, 381, .inl (fun _ => 0)))) 2 (.inl (T 1, 1524, .inl (fun _ => 0)))) 3 (.inl (T 1, 381, .inl (fun _ => 0)))) 4 (.inl (T 1, 150, .inl (fun _ => 0)))) 5 (.inl (T 1, 4, .inl (fun _ => 0)))) 1 (.inl (T 1, 381, .inl (upd (fun _ => 0) 2 12)))) 1 (.inl (T 1, 381, .inl (upd (upd (fun _ => 0) 2 12) 3 10)))) 1 (.inl (T 1, 381, .inl (upd (upd (upd (fun _ => 0) 2 12) 3 10) 4 6)))) 1 (.inl (T 1, 381, .inl (upd (upd (upd (upd (fun _ => 0) 2 12) 3 10) 4 6) 6 (-1))))) 0 (.inr (7, [.ref q1, .ref q2, .ref q3, .int 0, .int 0, .ref q4, .int 0, .int 0, .int 0, .int 0, .ref q5, .long 0]))) Z hw 1 (by decide) rfl rfl (vp_in_nI (n := 6) (by decide) (by decide)) (va_ud (by decide)) dX9_init_78 (fun H locs hw => ?_)
  exact rt_n (Ec := (ec9 T)) Z hr hlk (hw.cong (all_s (all_s (all_s (all_s (all_s (all_s all_0 rfl) rfl) rfl) rfl) rfl) rfl)) rfl dX9_init_79
abbrev rmX2_init : Room := { frames := 1, cells := 2, slots := 154, locals := 20 }
theorem v_X2_init : cvI yX2_init cX2_init 1 0 := ⟨q_1_230, q_1_7, q_1_231, rfl, by decide +kernel, by decide +kernel, by decide +kernel⟩
set_option maxHeartbeats 4000000 in
set_option maxRecDepth 100000 in
theorem k_X2_init {l : Launch} {D : va_G} {T : Nat → ClassId} {g : Nat → Nat} {b : Nat} : mI l yX2_init cX2_init 1 none rmX2_init D T g 1 (fun _ => b) (fun _ => .inr (0, [.null, .int 0, .int 0, .int 0, .null, .null])) [.ref b] (qN D 3 b (ec2 g T)) := by
  refine mI.of (own := "NestedBells$CommandText") (by decide +kernel) (Nat.le_of_ble_eq_true rfl) rfl ?_
  intro p e s m below meth c A ls H locs Z hO hr hlk hin hw hl
  have hx := Z.1.1
  have hb := Z.1.2.1
  have hi := hin rfl
  have hl : lv_has ls 1 [(0, .ref b)] := hl
  obtain ⟨c0, hc0⟩ : ∃ c0 : Nat → va_E, c0 = fun _ => .inr (0, [.null, .int 0, .int 0, .int 0, .null, .null]) := ⟨_, rfl⟩
  have hw : wo D A s.heap 1 (fun _ => b) (va_up c0 0 (.inr (0, [.null, .int 0, .int 0, .int 0, .null, .null]))) H locs := hw.cong (all_s all_0 rfl)
  refine lv_aload_n hx hb dX2_init_0 rfl (lv_at hl 0 rfl) ?_
  refine oI Z q_1_232 hl.1 (Nat.le_of_ble_eq_true rfl) (Nat.le_of_ble_eq_true rfl) dX2_init_1 ?_
  refine lv_aload_n hx hb dX2_init_4 rfl (lv_at hl 0 rfl) ?_
  refine lv_sipush (v := 150) hx hb dX2_init_5 (by decide +kernel) ?_
  refine nB0 (N' := 150) Z hw (by decide) q_2_17 (by decide) (by decide) (Nat.le_of_ble_eq_true rfl) (Nat.le_of_ble_eq_true rfl) (Nat.le_of_ble_eq_true rfl) dX2_init_8 (fun q1 H hw => ?_)
  refine pOo (C := "NestedBells$CommandText") (TC := TX2) (NF := 6) (ci := 0) (j := 0) (ty0 := tyX2) (ty := .array .byte) (fs' := [.ref q1, .int 0, .int 0, .int 0, .null, .null]) Z hi hw (by decide) rfl rfl iX2 tyX2_ok nmX2 (by decide) q_1_235 rfl rfl rfl rfl rfl (Nat.le_of_ble_eq_true rfl) rfl dX2_init_10 (fun H locs hw => ?_)
  refine lv_aload_n hx hb dX2_init_13 rfl (lv_at hl 0 rfl) ?_
  refine lv_iconst (v := 0) hx hb dX2_init_14 (by decide +kernel) ?_
  refine pOo (C := "NestedBells$CommandText") (TC := TX2) (NF := 6) (ci := 0) (j := 1) (ty0 := tyX2) (ty := .int) (fs' := [.ref q1, .int 0, .int 0, .int 0, .null, .null]) Z hi hw (by decide) rfl rfl iX2 tyX2_ok nmX2 (by decide) q_1_236 rfl rfl rfl rfl rfl (Nat.le_of_ble_eq_true rfl) rfl dX2_init_15 (fun H locs hw => ?_)
  refine lv_aload_n hx hb dX2_init_18 rfl (lv_at hl 0 rfl) ?_
  refine lv_iconst (v := 0) hx hb dX2_init_19 (by decide +kernel) ?_
  refine pOo (C := "NestedBells$CommandText") (TC := TX2) (NF := 6) (ci := 0) (j := 2) (ty0 := tyX2) (ty := .int) (fs' := [.ref q1, .int 0, .int 0, .int 0, .null, .null]) Z hi hw (by decide) rfl rfl iX2 tyX2_ok nmX2 (by decide) q_1_238 rfl rfl rfl rfl rfl (Nat.le_of_ble_eq_true rfl) rfl dX2_init_20 (fun H locs hw => ?_)
  refine lv_aload_n hx hb dX2_init_23 rfl (lv_at hl 0 rfl) ?_
  refine lv_iconst (v := -1) hx hb dX2_init_24 (by decide +kernel) ?_
  refine pOo (C := "NestedBells$CommandText") (TC := TX2) (NF := 6) (ci := 0) (j := 3) (ty0 := tyX2) (ty := .int) (fs' := [.ref q1, .int 0, .int 0, .int (-1), .null, .null]) Z hi hw (by decide) rfl rfl iX2 tyX2_ok nmX2 (by decide) q_1_239 rfl rfl rfl rfl rfl (Nat.le_of_ble_eq_true rfl) rfl dX2_init_25 (fun H locs hw => ?_)
  refine lv_aload_n hx hb dX2_init_28 rfl (lv_at hl 0 rfl) ?_
  refine va_gets (v := .ref (g 8)) hx hb (Z.2.2.2.2.2.2.1.1 8 (by decide)).1 hw.2.2 Z.1.2.2.2.1 (Z.1.2.2.2.2 _ q_1_233) (fun _ h => h) dX2_init_29 ?_
  refine pOo (C := "NestedBells$CommandText") (TC := TX2) (NF := 6) (ci := 0) (j := 4) (ty0 := tyX2) (ty := .object "NestedBells$Command") (fs' := [.ref q1, .int 0, .int 0, .int (-1), .ref (g 8), .null]) Z hi hw (by decide) rfl rfl iX2 tyX2_ok nmX2 (by decide) q_2_0 rfl rfl rfl rfl rfl (Nat.le_of_ble_eq_true rfl) rfl dX2_init_32 (fun H locs hw => ?_)
  refine lv_aload_n hx hb dX2_init_35 rfl (lv_at hl 0 rfl) ?_
  refine lv_iconst (v := 4) hx hb dX2_init_36 (by decide +kernel) ?_
  refine nI0 (N' := 4) Z hw (by decide) q_1_63 (by decide) (by decide) (Nat.le_of_ble_eq_true rfl) (Nat.le_of_ble_eq_true rfl) (Nat.le_of_ble_eq_true rfl) dX2_init_37 (fun q2 H hw => ?_)
  refine pOo (C := "NestedBells$CommandText") (TC := TX2) (NF := 6) (ci := 0) (j := 5) (ty0 := tyX2) (ty := .array .int) (fs' := [.ref q1, .int 0, .int 0, .int (-1), .ref (g 8), .ref q2]) Z hi hw (by decide) rfl rfl iX2 tyX2_ok nmX2 (by decide) q_2_2 rfl rfl rfl rfl rfl (Nat.le_of_ble_eq_true rfl) rfl dX2_init_39 (fun H locs hw => ?_)
  exact rt_n (Ec := (ec2 g T)) Z hr hlk (hw.cong (all_s (all_s (all_s all_0 rfl) rfl) rfl)) rfl dX2_init_42
abbrev rmX7_init : Room := { frames := 2, cells := 3, slots := 8, locals := 40 }
theorem v_X7_init : cvI yX7_init cX7_init 2 0 := ⟨q_1_66, q_1_4, q_1_67, rfl, by decide +kernel, by decide +kernel, by decide +kernel⟩
set_option maxHeartbeats 4000000 in
set_option maxRecDepth 100000 in
theorem k_X7_init {l : Launch} {D : va_G} {T : Nat → ClassId} {g : Nat → Nat} {b : Nat} : mI l yX7_init cX7_init 2 none rmX7_init D T g 1 (fun _ => b) (fun _ => .inr (5, [.int 0, .int 0, .int 0, .int 0, .int 0, .int 0, .int 0, .int 0, .int 0, .int 0, .int 0, .int 0, .int 0, .int 0, .int 0, .int 0, .int 0, .int 0, .int 0, .null])) [.ref b] (qN D 4 b (ec7 T)) := by
  refine mI.of (own := "NestedBells$Source") (by decide +kernel) (Nat.le_of_ble_eq_true rfl) rfl ?_
  intro p e s m below meth c A ls H locs Z hO hr hlk hin hw hl
  have hx := Z.1.1
  have hb := Z.1.2.1
  have hi := hin rfl
  have hl : lv_has ls 2 [(0, .ref b)] := hl
  obtain ⟨c0, hc0⟩ : ∃ c0 : Nat → va_E, c0 = fun _ => .inr (5, [.int 0, .int 0, .int 0, .int 0, .int 0, .int 0, .int 0, .int 0, .int 0, .int 0, .int 0, .int 0, .int 0, .int 0, .int 0, .int 0, .int 0, .int 0, .int 0, .null]) := ⟨_, rfl⟩
  have hw : wo D A s.heap 1 (fun _ => b) (va_up c0 0 (.inr (5, [.int 0, .int 0, .int 0, .int 0, .int 0, .int 0, .int 0, .int 0, .int 0, .int 0, .int 0, .int 0, .int 0, .int 0, .int 0, .int 0, .int 0, .int 0, .int 0, .null]))) H locs := hw.cong (all_s all_0 rfl)
  refine lv_aload_n hx hb dX7_init_0 rfl (lv_at hl 0 rfl) ?_
  refine oI Z q_1_68 hl.1 (Nat.le_of_ble_eq_true rfl) (Nat.le_of_ble_eq_true rfl) dX7_init_1 ?_
  refine lv_aload_n hx hb dX7_init_4 rfl (lv_at hl 0 rfl) ?_
  refine lv_iconst (v := 0) hx hb dX7_init_5 (by decide +kernel) ?_
  refine pOo (C := "NestedBells$Source") (TC := TX7) (NF := 20) (ci := 5) (j := 0) (ty0 := tyX7) (ty := .int) (fs' := [.int 0, .int 0, .int 0, .int 0, .int 0, .int 0, .int 0, .int 0, .int 0, .int 0, .int 0, .int 0, .int 0, .int 0, .int 0, .int 0, .int 0, .int 0, .int 0, .null]) Z hi hw (by decide) rfl rfl iX7 tyX7_ok nmX7 (by decide) q_1_89 rfl rfl rfl rfl rfl (Nat.le_of_ble_eq_true rfl) rfl dX7_init_6 (fun H locs hw => ?_)
  refine lv_aload_n hx hb dX7_init_9 rfl (lv_at hl 0 rfl) ?_
  refine lv_iconst (v := 0) hx hb dX7_init_10 (by decide +kernel) ?_
  refine pOo (C := "NestedBells$Source") (TC := TX7) (NF := 20) (ci := 5) (j := 1) (ty0 := tyX7) (ty := .int) (fs' := [.int 0, .int 0, .int 0, .int 0, .int 0, .int 0, .int 0, .int 0, .int 0, .int 0, .int 0, .int 0, .int 0, .int 0, .int 0, .int 0, .int 0, .int 0, .int 0, .null]) Z hi hw (by decide) rfl rfl iX7 tyX7_ok nmX7 (by decide) q_1_91 rfl rfl rfl rfl rfl (Nat.le_of_ble_eq_true rfl) rfl dX7_init_11 (fun H locs hw => ?_)
  refine lv_aload_n hx hb dX7_init_14 rfl (lv_at hl 0 rfl) ?_
  refine lv_iconst (v := 0) hx hb dX7_init_15 (by decide +kernel) ?_
  refine pOo (C := "NestedBells$Source") (TC := TX7) (NF := 20) (ci := 5) (j := 2) (ty0 := tyX7) (ty := .int) (fs' := [.int 0, .int 0, .int 0, .int 0, .int 0, .int 0, .int 0, .int 0, .int 0, .int 0, .int 0, .int 0, .int 0, .int 0, .int 0, .int 0, .int 0, .int 0, .int 0, .null]) Z hi hw (by decide) rfl rfl iX7 tyX7_ok nmX7 (by decide) q_1_93 rfl rfl rfl rfl rfl (Nat.le_of_ble_eq_true rfl) rfl dX7_init_16 (fun H locs hw => ?_)
  refine lv_aload_n hx hb dX7_init_19 rfl (lv_at hl 0 rfl) ?_
  refine lv_iconst (v := 1) hx hb dX7_init_20 (by decide +kernel) ?_
  refine pOo (C := "NestedBells$Source") (TC := TX7) (NF := 20) (ci := 5) (j := 3) (ty0 := tyX7) (ty := .boolean) (fs' := [.int 0, .int 0, .int 0, .int 1, .int 0, .int 0, .int 0, .int 0, .int 0, .int 0, .int 0, .int 0, .int 0, .int 0, .int 0, .int 0, .int 0, .int 0, .int 0, .null]) Z hi hw (by decide) rfl rfl iX7 tyX7_ok nmX7 (by decide) q_1_95 rfl rfl rfl rfl rfl (Nat.le_of_ble_eq_true rfl) rfl dX7_init_21 (fun H locs hw => ?_)
  refine lv_aload_n hx hb dX7_init_24 rfl (lv_at hl 0 rfl) ?_
  refine lv_iconst (v := 0) hx hb dX7_init_25 (by decide +kernel) ?_
  refine pOo (C := "NestedBells$Source") (TC := TX7) (NF := 20) (ci := 5) (j := 4) (ty0 := tyX7) (ty := .boolean) (fs' := [.int 0, .int 0, .int 0, .int 1, .int 0, .int 0, .int 0, .int 0, .int 0, .int 0, .int 0, .int 0, .int 0, .int 0, .int 0, .int 0, .int 0, .int 0, .int 0, .null]) Z hi hw (by decide) rfl rfl iX7 tyX7_ok nmX7 (by decide) q_1_97 rfl rfl rfl rfl rfl (Nat.le_of_ble_eq_true rfl) rfl dX7_init_26 (fun H locs hw => ?_)
  refine lv_aload_n hx hb dX7_init_29 rfl (lv_at hl 0 rfl) ?_
  refine lv_iconst (v := 0) hx hb dX7_init_30 (by decide +kernel) ?_
  refine pOo (C := "NestedBells$Source") (TC := TX7) (NF := 20) (ci := 5) (j := 5) (ty0 := tyX7) (ty := .boolean) (fs' := [.int 0, .int 0, .int 0, .int 1, .int 0, .int 0, .int 0, .int 0, .int 0, .int 0, .int 0, .int 0, .int 0, .int 0, .int 0, .int 0, .int 0, .int 0, .int 0, .null]) Z hi hw (by decide) rfl rfl iX7 tyX7_ok nmX7 (by decide) q_1_99 rfl rfl rfl rfl rfl (Nat.le_of_ble_eq_true rfl) rfl dX7_init_31 (fun H locs hw => ?_)
  refine lv_aload_n hx hb dX7_init_34 rfl (lv_at hl 0 rfl) ?_
  refine lv_iconst (v := 0) hx hb dX7_init_35 (by decide +kernel) ?_
  refine pOo (C := "NestedBells$Source") (TC := TX7) (NF := 20) (ci := 5) (j := 6) (ty0 := tyX7) (ty := .int) (fs' := [.int 0, .int 0, .int 0, .int 1, .int 0, .int 0, .int 0, .int 0, .int 0, .int 0, .int 0, .int 0, .int 0, .int 0, .int 0, .int 0, .int 0, .int 0, .int 0, .null]) Z hi hw (by decide) rfl rfl iX7 tyX7_ok nmX7 (by decide) q_1_101 rfl rfl rfl rfl rfl (Nat.le_of_ble_eq_true rfl) rfl dX7_init_36 (fun H locs hw => ?_)
  refine lv_aload_n hx hb dX7_init_39 rfl (lv_at hl 0 rfl) ?_
  refine lv_iconst (v := -1) hx hb dX7_init_40 (by decide +kernel) ?_
  refine pOo (C := "NestedBells$Source") (TC := TX7) (NF := 20) (ci := 5) (j := 7) (ty0 := tyX7) (ty := .int) (fs' := [.int 0, .int 0, .int 0, .int 1, .int 0, .int 0, .int 0, .int (-1), .int 0, .int 0, .int 0, .int 0, .int 0, .int 0, .int 0, .int 0, .int 0, .int 0, .int 0, .null]) Z hi hw (by decide) rfl rfl iX7 tyX7_ok nmX7 (by decide) q_1_103 rfl rfl rfl rfl rfl (Nat.le_of_ble_eq_true rfl) rfl dX7_init_41 (fun H locs hw => ?_)
  refine lv_aload_n hx hb dX7_init_44 rfl (lv_at hl 0 rfl) ?_
  refine lv_iconst (v := 0) hx hb dX7_init_45 (by decide +kernel) ?_
  refine pOo (C := "NestedBells$Source") (TC := TX7) (NF := 20) (ci := 5) (j := 8) (ty0 := tyX7) (ty := .int) (fs' := [.int 0, .int 0, .int 0, .int 1, .int 0, .int 0, .int 0, .int (-1), .int 0, .int 0, .int 0, .int 0, .int 0, .int 0, .int 0, .int 0, .int 0, .int 0, .int 0, .null]) Z hi hw (by decide) rfl rfl iX7 tyX7_ok nmX7 (by decide) q_1_105 rfl rfl rfl rfl rfl (Nat.le_of_ble_eq_true rfl) rfl dX7_init_46 (fun H locs hw => ?_)
  refine lv_aload_n hx hb dX7_init_49 rfl (lv_at hl 0 rfl) ?_
  refine lv_iconst (v := 0) hx hb dX7_init_50 (by decide +kernel) ?_
  refine pOo (C := "NestedBells$Source") (TC := TX7) (NF := 20) (ci := 5) (j := 9) (ty0 := tyX7) (ty := .int) (fs' := [.int 0, .int 0, .int 0, .int 1, .int 0, .int 0, .int 0, .int (-1), .int 0, .int 0, .int 0, .int 0, .int 0, .int 0, .int 0, .int 0, .int 0, .int 0, .int 0, .null]) Z hi hw (by decide) rfl rfl iX7 tyX7_ok nmX7 (by decide) q_1_107 rfl rfl rfl rfl rfl (Nat.le_of_ble_eq_true rfl) rfl dX7_init_51 (fun H locs hw => ?_)
  refine lv_aload_n hx hb dX7_init_54 rfl (lv_at hl 0 rfl) ?_
  refine lv_iconst (v := 0) hx hb dX7_init_55 (by decide +kernel) ?_
  refine pOo (C := "NestedBells$Source") (TC := TX7) (NF := 20) (ci := 5) (j := 10) (ty0 := tyX7) (ty := .int) (fs' := [.int 0, .int 0, .int 0, .int 1, .int 0, .int 0, .int 0, .int (-1), .int 0, .int 0, .int 0, .int 0, .int 0, .int 0, .int 0, .int 0, .int 0, .int 0, .int 0, .null]) Z hi hw (by decide) rfl rfl iX7 tyX7_ok nmX7 (by decide) q_1_109 rfl rfl rfl rfl rfl (Nat.le_of_ble_eq_true rfl) rfl dX7_init_56 (fun H locs hw => ?_)
  refine lv_aload_n hx hb dX7_init_59 rfl (lv_at hl 0 rfl) ?_
  refine lv_iconst (v := 0) hx hb dX7_init_60 (by decide +kernel) ?_
  refine pOo (C := "NestedBells$Source") (TC := TX7) (NF := 20) (ci := 5) (j := 11) (ty0 := tyX7) (ty := .int) (fs' := [.int 0, .int 0, .int 0, .int 1, .int 0, .int 0, .int 0, .int (-1), .int 0, .int 0, .int 0, .int 0, .int 0, .int 0, .int 0, .int 0, .int 0, .int 0, .int 0, .null]) Z hi hw (by decide) rfl rfl iX7 tyX7_ok nmX7 (by decide) q_1_111 rfl rfl rfl rfl rfl (Nat.le_of_ble_eq_true rfl) rfl dX7_init_61 (fun H locs hw => ?_)
  refine lv_aload_n hx hb dX7_init_64 rfl (lv_at hl 0 rfl) ?_
  refine lv_iconst (v := -1) hx hb dX7_init_65 (by decide +kernel) ?_
  refine pOo (C := "NestedBells$Source") (TC := TX7) (NF := 20) (ci := 5) (j := 12) (ty0 := tyX7) (ty := .int) (fs' := [.int 0, .int 0, .int 0, .int 1, .int 0, .int 0, .int 0, .int (-1), .int 0, .int 0, .int 0, .int 0, .int (-1), .int 0, .int 0, .int 0, .int 0, .int 0, .int 0, .null]) Z hi hw (by decide) rfl rfl iX7 tyX7_ok nmX7 (by decide) q_1_113 rfl rfl rfl rfl rfl (Nat.le_of_ble_eq_true rfl) rfl dX7_init_66 (fun H locs hw => ?_)
  refine lv_aload_n hx hb dX7_init_69 rfl (lv_at hl 0 rfl) ?_
  refine lv_iconst (v := -1) hx hb dX7_init_70 (by decide +kernel) ?_
  refine pOo (C := "NestedBells$Source") (TC := TX7) (NF := 20) (ci := 5) (j := 13) (ty0 := tyX7) (ty := .int) (fs' := [.int 0, .int 0, .int 0, .int 1, .int 0, .int 0, .int 0, .int (-1), .int 0, .int 0, .int 0, .int 0, .int (-1), .int (-1), .int 0, .int 0, .int 0, .int 0, .int 0, .null]) Z hi hw (by decide) rfl rfl iX7 tyX7_ok nmX7 (by decide) q_1_115 rfl rfl rfl rfl rfl (Nat.le_of_ble_eq_true rfl) rfl dX7_init_71 (fun H locs hw => ?_)
  refine lv_aload_n hx hb dX7_init_74 rfl (lv_at hl 0 rfl) ?_
  refine lv_iconst (v := 0) hx hb dX7_init_75 (by decide +kernel) ?_
  refine pOo (C := "NestedBells$Source") (TC := TX7) (NF := 20) (ci := 5) (j := 14) (ty0 := tyX7) (ty := .int) (fs' := [.int 0, .int 0, .int 0, .int 1, .int 0, .int 0, .int 0, .int (-1), .int 0, .int 0, .int 0, .int 0, .int (-1), .int (-1), .int 0, .int 0, .int 0, .int 0, .int 0, .null]) Z hi hw (by decide) rfl rfl iX7 tyX7_ok nmX7 (by decide) q_1_117 rfl rfl rfl rfl rfl (Nat.le_of_ble_eq_true rfl) rfl dX7_init_76 (fun H locs hw => ?_)
  refine lv_aload_n hx hb dX7_init_79 rfl (lv_at hl 0 rfl) ?_
  refine lv_iconst (v := 0) hx hb dX7_init_80 (by decide +kernel) ?_
  refine pOo (C := "NestedBells$Source") (TC := TX7) (NF := 20) (ci := 5) (j := 15) (ty0 := tyX7) (ty := .int) (fs' := [.int 0, .int 0, .int 0, .int 1, .int 0, .int 0, .int 0, .int (-1), .int 0, .int 0, .int 0, .int 0, .int (-1), .int (-1), .int 0, .int 0, .int 0, .int 0, .int 0, .null]) Z hi hw (by decide) rfl rfl iX7 tyX7_ok nmX7 (by decide) q_1_119 rfl rfl rfl rfl rfl (Nat.le_of_ble_eq_true rfl) rfl dX7_init_81 (fun H locs hw => ?_)
  refine lv_aload_n hx hb dX7_init_84 rfl (lv_at hl 0 rfl) ?_
  refine lv_iconst (v := 0) hx hb dX7_init_85 (by decide +kernel) ?_
  refine pOo (C := "NestedBells$Source") (TC := TX7) (NF := 20) (ci := 5) (j := 16) (ty0 := tyX7) (ty := .int) (fs' := [.int 0, .int 0, .int 0, .int 1, .int 0, .int 0, .int 0, .int (-1), .int 0, .int 0, .int 0, .int 0, .int (-1), .int (-1), .int 0, .int 0, .int 0, .int 0, .int 0, .null]) Z hi hw (by decide) rfl rfl iX7 tyX7_ok nmX7 (by decide) q_1_121 rfl rfl rfl rfl rfl (Nat.le_of_ble_eq_true rfl) rfl dX7_init_86 (fun H locs hw => ?_)
  refine lv_aload_n hx hb dX7_init_89 rfl (lv_at hl 0 rfl) ?_
  refine lv_iconst (v := 0) hx hb dX7_init_90 (by decide +kernel) ?_
  refine pOo (C := "NestedBells$Source") (TC := TX7) (NF := 20) (ci := 5) (j := 17) (ty0 := tyX7) (ty := .int) (fs' := [.int 0, .int 0, .int 0, .int 1, .int 0, .int 0, .int 0, .int (-1), .int 0, .int 0, .int 0, .int 0, .int (-1), .int (-1), .int 0, .int 0, .int 0, .int 0, .int 0, .null]) Z hi hw (by decide) rfl rfl iX7 tyX7_ok nmX7 (by decide) q_1_123 rfl rfl rfl rfl rfl (Nat.le_of_ble_eq_true rfl) rfl dX7_init_91 (fun H locs hw => ?_)
  refine lv_aload_n hx hb dX7_init_94 rfl (lv_at hl 0 rfl) ?_
  refine lv_iconst (v := 0) hx hb dX7_init_95 (by decide +kernel) ?_
  refine pOo (C := "NestedBells$Source") (TC := TX7) (NF := 20) (ci := 5) (j := 18) (ty0 := tyX7) (ty := .int) (fs' := [.int 0, .int 0, .int 0, .int 1, .int 0, .int 0, .int 0, .int (-1), .int 0, .int 0, .int 0, .int 0, .int (-1), .int (-1), .int 0, .int 0, .int 0, .int 0, .int 0, .null]) Z hi hw (by decide) rfl rfl iX7 tyX7_ok nmX7 (by decide) q_1_125 rfl rfl rfl rfl rfl (Nat.le_of_ble_eq_true rfl) rfl dX7_init_96 (fun H locs hw => ?_)
  refine lv_aload_n hx hb dX7_init_99 rfl (lv_at hl 0 rfl) ?_
  refine lv_iconst (v := 2) hx hb dX7_init_100 (by decide +kernel) ?_
  refine nQ0 (N' := 2) (t0 := 4) (C := "NestedBells$Section") Z hw (by decide) q_1_69 hO.2.1 rfl rfl (by decide) (by decide) (Nat.le_of_ble_eq_true rfl) (Nat.le_of_ble_eq_true rfl) (Nat.le_of_ble_eq_true rfl) dX7_init_101 (fun q1 H hw => ?_)
  refine pOo (C := "NestedBells$Source") (TC := TX7) (NF := 20) (ci := 5) (j := 19) (ty0 := tyX7) (ty := .array (.object "NestedBells$Section")) (fs' := [.int 0, .int 0, .int 0, .int 1, .int 0, .int 0, .int 0, .int (-1), .int 0, .int 0, .int 0, .int 0, .int (-1), .int (-1), .int 0, .int 0, .int 0, .int 0, .int 0, .ref q1]) Z hi hw (by decide) rfl rfl iX7 tyX7_ok nmX7 (by decide) q_1_127 rfl rfl rfl rfl rfl (Nat.le_of_ble_eq_true rfl) rfl dX7_init_104 (fun H locs hw => ?_)
  refine lv_iconst (v := 0) hx hb dX7_init_107 (by decide +kernel) ?_
  refine lv_istore_n (lv' := [(1, .int 0), (0, .ref b)]) hx hb dX7_init_108 rfl hl (by decide) rfl (fun ls hl => ?_)
  refine lv_iload_n hx hb dX7_init_109 rfl (lv_at hl 0 rfl) ?_
  refine lv_iconst (v := 2) hx hb dX7_init_110 (by decide +kernel) ?_
  refine lv_icmp_ge (tgt := 133) hx hb dX7_init_111 (by decide) (fun q => ?_) (fun q => ?_)
  · exact absurd q (by decide)
  refine lv_aload_n hx hb dX7_init_114 rfl (lv_at hl 1 rfl) ?_
  refine gf (C := "NestedBells$Source") (TC := TX7) (NF := 20) (ci := 5) (j := 19) (v := .ref q1) (fs := [.int 0, .int 0, .int 0, .int 1, .int 0, .int 0, .int 0, .int (-1), .int 0, .int 0, .int 0, .int 0, .int (-1), .int (-1), .int 0, .int 0, .int 0, .int 0, .int 0, .ref q1]) Z hw 0 (by decide) rfl (if_pos rfl) rfl iX7 (by decide) q_1_127 rfl rfl dX7_init_115 ?_
  refine lv_iload_n hx hb dX7_init_118 rfl (lv_at hl 0 rfl) ?_
  refine nO0 (C := "NestedBells$Section") (TC := TX6) (NF := 3) (ci := 4) (fs := [.int 0, .int 0, .int 0]) Z hw (by decide) iX6 tyX6_ok q_1_69 q_1_71 q_1_5 rfl (by decide +kernel) (Nat.le_of_ble_eq_true rfl) (Nat.le_of_ble_eq_true rfl) dX7_init_119 (fun q2 H hw => ?_)
  refine lv_dup hx hb dX7_init_122 rfl ?_
  refine bk_n (N := 2) (b := q2) (by decide) (rnIN (rest := [.ref q2, .int 0, .ref q1]) Z hO (wo_last hw rfl rfl) k_X6_init v_X6_init Z.2.2.2.1.1.2.1 hl.1 rfl rfl (Nat.le_of_ble_eq_true rfl) ⟨Nat.le_of_ble_eq_true rfl, Nat.le_of_ble_eq_true rfl⟩ ⟨Nat.le_of_ble_eq_true rfl, Nat.le_of_ble_eq_true rfl⟩ dX7_init_123) hw rfl Z (fun a2 H locs e2 hw => ?_)
  replace hw : wo D A s.heap 3 (ext (ext (fun _ => b) 1 q1) 2 q2) (va_up (ext (ext c0 1 (.inl (T 4, 2, .inr (.inr (.inr (.inr (fun _ => none))))))) 2 (.inr (4, [.int 0, .int 0, .int 0]))) 0 (.inr (5, [.int 0, .int 0, .int 0, .int 1, .int 0, .int 0, .int 0, .int (-1), .int 0, .int 0, .int 0, .int 0, .int (-1), .int (-1), .int 0, .int 0, .int 0, .int 0, .int 0, .ref q1]))) H locs := wo_same2 (wo.eq hw (glue_u (by decide))) e2 (by decide)
  refine sq (ct' := va_up (va_up (ext (ext c0 1 (.inl (T 4, 2, .inr (.inr (.inr (.inr (fun _ => none))))))) 2 (.inr (4, [.int 0, .int 0, .int 0]))) 1 (.inl (T 4, 2, .inr (.inr (.inr (.inr (va_up (fun _ => none) 0 (some q2)))))))) 0 (.inr (5, [.int 0, .int 0, .int 0, .int 1, .int 0, .int 0, .int 0, .int (-1), .int 0, .int 0, .int 0, .int 0, .int (-1), .int (-1), .int 0, .int 0, .int 0, .int 0, .int 0, .ref q1]))) (t0 := 4) (ci := 4) (vs := [.int 0, .int 0, .int 0]) (f := (fun _ => none)) Z hw 1 2 (by decide) (by decide) rfl rfl rfl rfl rfl rfl (vp_in_nI (n := 0) (by decide) (by decide)) (va_ud (by decide)) dX7_init_126 (fun H locs hw => ?_)
  refine lv_iinc (v := 1) (lv' := [(1, .int 1), (0, .ref b)]) hx hb dX7_init_127 hl (k := 0) rfl (by decide) (by decide) rfl (fun ls hl => ?_)
  refine lv_goto (tgt := 109) hx hb dX7_init_130 (by decide) ?_
  refine lv_iload_n hx hb dX7_init_109 rfl (lv_at hl 0 rfl) ?_
  refine lv_iconst (v := 2) hx hb dX7_init_110 (by decide +kernel) ?_
  refine lv_icmp_ge (tgt := 133) hx hb dX7_init_111 (by decide) (fun q => ?_) (fun q => ?_)
  · exact absurd q (by decide)
  refine lv_aload_n hx hb dX7_init_114 rfl (lv_at hl 1 rfl) ?_
  refine gf (C := "NestedBells$Source") (TC := TX7) (NF := 20) (ci := 5) (j := 19) (v := .ref q1) (fs := [.int 0, .int 0, .int 0, .int 1, .int 0, .int 0, .int 0, .int (-1), .int 0, .int 0, .int 0, .int 0, .int (-1), .int (-1), .int 0, .int 0, .int 0, .int 0, .int 0, .ref q1]) Z hw 0 (by decide) rfl (if_pos rfl) rfl iX7 (by decide) q_1_127 rfl rfl dX7_init_115 ?_
  refine lv_iload_n hx hb dX7_init_118 rfl (lv_at hl 0 rfl) ?_
  refine nO0 (C := "NestedBells$Section") (TC := TX6) (NF := 3) (ci := 4) (fs := [.int 0, .int 0, .int 0]) Z hw (by decide) iX6 tyX6_ok q_1_69 q_1_71 q_1_5 rfl (by decide +kernel) (Nat.le_of_ble_eq_true rfl) (Nat.le_of_ble_eq_true rfl) dX7_init_119 (fun q3 H hw => ?_)
  refine lv_dup hx hb dX7_init_122 rfl ?_
  refine bk_n (N := 3) (b := q3) (by decide) (rnIN (rest := [.ref q3, .int 1, .ref q1]) Z hO (wo_last hw rfl rfl) k_X6_init v_X6_init Z.2.2.2.1.1.2.1 hl.1 rfl rfl (Nat.le_of_ble_eq_true rfl) ⟨Nat.le_of_ble_eq_true rfl, Nat.le_of_ble_eq_true rfl⟩ ⟨Nat.le_of_ble_eq_true rfl, Nat.le_of_ble_eq_true rfl⟩ dX7_init_123) hw rfl Z (fun a3 H locs e3 hw => ?_)
  replace hw : wo D A s.heap 4 (ext (ext (ext (fun _ => b) 1 q1) 2 q2) 3 q3) (va_up (ext (va_up (ext (ext c0 1 (.inl (T 4, 2, .inr (.inr (.inr (.inr (fun _ => none))))))) 2 (.inr (4, [.int 0, .int 0, .int 0]))) 1 (.inl (T 4, 2, .inr (.inr (.inr (.inr (va_up (fun _ => none) 0 (some q2)))))))) 3 (.inr (4, [.int 0, .int 0, .int 0]))) 0 (.inr (5, [.int 0, .int 0, .int 0, .int 1, .int 0, .int 0, .int 0, .int (-1), .int 0, .int 0, .int 0, .int 0, .int (-1), .int (-1), .int 0, .int 0, .int 0, .int 0, .int 0, .ref q1]))) H locs := wo_same2 (wo.eq hw (glue_u (by decide))) e3 (by decide)
  refine sq (ct' := va_up (va_up (ext (va_up (ext (ext c0 1 (.inl (T 4, 2, .inr (.inr (.inr (.inr (fun _ => none))))))) 2 (.inr (4, [.int 0, .int 0, .int 0]))) 1 (.inl (T 4, 2, .inr (.inr (.inr (.inr (va_up (fun _ => none) 0 (some q2)))))))) 3 (.inr (4, [.int 0, .int 0, .int 0]))) 1 (.inl (T 4, 2, .inr (.inr (.inr (.inr (va_up (va_up (fun _ => none) 0 (some q2)) 1 (some q3)))))))) 0 (.inr (5, [.int 0, .int 0, .int 0, .int 1, .int 0, .int 0, .int 0, .int (-1), .int 0, .int 0, .int 0, .int 0, .int (-1), .int (-1), .int 0, .int 0, .int 0, .int 0, .int 0, .ref q1]))) (t0 := 4) (ci := 4) (vs := [.int 0, .int 0, .int 0]) (f := (va_up (fun _ => none) 0 (some q2))) Z hw 1 3 (by decide) (by decide) rfl rfl rfl rfl rfl rfl (vp_in_nI (n := 1) (by decide) (by decide)) (va_ud (by decide)) dX7_init_126 (fun H locs hw => ?_)
  refine lv_iinc (v := 2) (lv' := [(1, .int 2), (0, .ref b)]) hx hb dX7_init_127 hl (k := 0) rfl (by decide) (by decide) rfl (fun ls hl => ?_)
  refine lv_goto (tgt := 109) hx hb dX7_init_130 (by decide) ?_
  refine lv_iload_n hx hb dX7_init_109 rfl (lv_at hl 0 rfl) ?_
  refine lv_iconst (v := 2) hx hb dX7_init_110 (by decide +kernel) ?_
  refine lv_icmp_ge (tgt := 133) hx hb dX7_init_111 (by decide) (fun q => ?_) (fun q => ?_)
  rotate_left
  · exact absurd (by decide) q
  exact rt_n (Ec := (ec7 T)) Z hr hlk (hw.cong (all_s (all_s (all_s (all_s all_0 rfl) (congrArg (fun f => (Sum.inl (T 4, 2, .inr (.inr (.inr (.inr f)))) : va_E)) (trn2 rfl rfl))) rfl) rfl)) rfl dX7_init_133
