theorem sv1 {σ s t : St} {v : Int32} (es : (f_X9_refused σ v).2 = s) (et : f_X9_saves s = t) : t 1 = σ 1 := by
  rw [← et, saves_1, ← es, refused_st]
  exact up2_rowk (by decide)
theorem in0 {p hi r : Int32} {n : Nat} (er : f_X9_in p 0 hi = r) (h : ¬ r = 0) (hn : hi.toInt < n) : 0 ≤ p.toInt ∧ p.toInt < n := by
  have h1 := in_of er h
  have h2 : (0 : Int32).toInt = 0 := by decide
  omega
theorem tree2 {r p lo hi v : Int32} (ev : (if r = 0 then 1 else (let q := f_X9_in p lo hi; (if q = 0 then 2 else 0))) = v) (hv : v ≤ 0) : ∃ q, f_X9_in p lo hi = q ∧ ¬ q = 0 := by
  refine ⟨_, rfl, fun h => ?_⟩
  by_cases c : r = 0
  · rw [if_pos c] at ev; subst ev; exact absurd hv (by decide)
  · rw [if_neg c] at ev
    dsimp only at ev
    rw [if_pos h] at ev; subst ev; exact absurd hv (by decide)
theorem tree01 {P : Prop} [Decidable P] {v : Int32} (ev : (if P then 0 else 1) = v) (hv : v ≤ 0) : P := by
  by_cases c : P
  · exact c
  · rw [if_neg c] at ev; subst ev; exact absurd hv (by decide)
theorem le_0 {a b : Int32} (e : a = b) (h : b ≤ 0) (ha : ¬ a ≤ 0) : False := ha (by rw [e]; exact h)
theorem as_M {σ : St} {p1 p2 p3 r v : Int32} (I : InvD σ) (er : f_X9_badSource σ p1 p2 p3 = r) (ev : (if r = 0 then 0 else r - 1) = v) (hv : v ≤ 0) : (σ 1 8).toInt < 12 := by
  have bad : ∀ x : Int32, x = 2 ∨ x = 3 → x = r → False := by
    rintro x (rfl | rfl) rfl <;> (rw [← ev] at hv; exact absurd hv (by decide))
  have h8 := I.1.1
  unfold f_X9_badSource at er
  dsimp only at er
  split at er
  · exact (bad 2 (Or.inl rfl) er).elim
  · split at er
    · exact (bad 2 (Or.inl rfl) er).elim
    · split at er
      · exact (bad 2 (Or.inl rfl) er).elim
      · split at er
        · exact (bad 3 (Or.inr rfl) er).elim
        · next c =>
          have h2 : (σ 1 8).toInt ≠ 12 := fun e => c (Int32.toInt_inj.mp e)
          omega
theorem bs_S {σ : St} {p1 p2 p3 p4 r : Int32} (I : InvD σ) (er : f_X9_badSection σ p1 p2 p3 p4 = r) (hv : r ≤ 0) : (0 ≤ p1.toInt ∧ p1.toInt < 12) ∧ (σ 1 (ix p1 + 7)).toInt < 2 := by
  unfold f_X9_badSection at er
  dsimp only at er
  split at er
  · exact (le_0 er hv (by decide)).elim
  · next c =>
    have hs := src_rng12 I rfl c
    refine ⟨hs, ?_⟩
    split at er
    · exact (le_0 er hv (by decide)).elim
    · split at er
      · exact (le_0 er hv (by decide)).elim
      · split at er
        · exact (le_0 er hv (by decide)).elim
        · split at er
          · exact (le_0 er hv (by decide)).elim
          · next c2 =>
            have h1 := (sec_of I hs (rfl : f_X9_of σ p1 7 = _)).2
            have h2 : (f_X9_of σ p1 7).toInt ≠ 2 := fun e => c2 (Int32.toInt_inj.mp e)
            rw [of7 (rfl : f_X9_of σ p1 7 = _)]
            omega
theorem bt_S {σ : St} {p1 p2 p3 r : Int32} (I : InvD σ) (er : f_X9_badTimer σ p1 p2 p3 = r) (hv : r ≤ 0) : 0 ≤ p1.toInt ∧ p1.toInt < 12 := by
  unfold f_X9_badTimer at er
  dsimp only at er
  split at er
  · exact (le_0 er hv (by decide)).elim
  · next c => exact src_rng12 I rfl c
theorem wo_0 {r v : Int32} (er : f_X9_without r = v) (hv : v ≤ 0) : r ≤ 0 := by
  unfold f_X9_without at er
  split at er
  · exact (le_0 er hv (by decide)).elim
  · rw [er]; exact hv
theorem br_S {σ : St} {p1 r v : Int32} (I : InvD σ) (er : f_X9_badRaise σ p1 = r) (ev : f_X9_without r = v) (hv : v ≤ 0) : 0 ≤ p1.toInt ∧ p1.toInt < 12 := by
  have hv := wo_0 ev hv
  unfold f_X9_badRaise at er
  dsimp only at er
  split at er
  · exact (le_0 er hv (by decide)).elim
  · next c => exact src_rng12 I rfl c
theorem bl_S {σ : St} {p1 r v : Int32} (I : InvD σ) (er : f_X9_badLine σ p1 = r) (ev : f_X9_without r = v) (hv : v ≤ 0) : 0 ≤ p1.toInt ∧ p1.toInt < 12 := by
  have hv := wo_0 ev hv
  unfold f_X9_badLine at er
  dsimp only at er
  split at er
  · exact (le_0 er hv (by decide)).elim
  · next c => exact src_rng12 I rfl c
theorem set_4 {p1 p2 r v : Int32} (er : f_X9_badSet p1 p2 = r) (ev : (if r ≤ 0 then 0 else 1) = v) (hv : v ≤ 0) : 0 ≤ p1.toInt ∧ p1.toInt < 4 := by
  have hr := tree01 ev hv
  unfold f_X9_badSet at er
  dsimp only at er
  split at er
  · exact (le_0 er hr (by decide)).elim
  · next c => exact in0 (n := 4) rfl c (by decide)
theorem run_5 {p1 r v : Int32} (er : f_X9_badRun p1 = r) (ev : (if r ≤ 0 then 0 else 1) = v) (hv : v ≤ 0) : p1.toInt ≤ 500 := by
  have hr := tree01 ev hv
  unfold f_X9_badRun at er
  dsimp only at er
  split at er
  · exact (le_0 er hr (by decide)).elim
  · next c => exact (in_of rfl c).2
theorem ss_v {a v : Int32} (ev : (if a = 0 then 0 else (if a = 1 then 2 else 3)) = v) : (0 ≤ v.toInt ∧ v.toInt < 24) ∧ v.toNatClampNeg < 24 ∧ v.toNatClampNeg ≠ 7 := by
  subst ev
  split
  · decide
  · split <;> decide
theorem sect {σ : St} {p1 p2 r v : Int32} (I : InvD σ) (er : f_X9_isSource σ p1 = r) (ev : (if r = 0 then 0 else (let r14 := f_X9_of σ p1 7; let r19 := f_X9_in p2 0 (r14 - 1); (if r19 = 0 then 0 else 1))) = v) (h : ¬ v = 0) : (0 ≤ p1.toInt ∧ p1.toInt < 12) ∧ 0 ≤ p2.toInt ∧ p2.toInt < 2 := by
  by_cases c : r = 0
  · rw [if_pos c] at ev; exact absurd ev.symm h
  · rw [if_neg c] at ev
    have hs := src_rng12 I er c
    refine ⟨hs, ?_⟩
    dsimp only at ev
    split at ev
    · exact absurd ev.symm h
    · next c2 =>
      have h7 := sec_of I hs (rfl : f_X9_of σ p1 7 = _)
      obtain ⟨k, hk, e⟩ := of_nI (n := 3) ⟨h7.1, by omega⟩ (by decide)
      rw [e] at c2
      have key : ∀ k, k < 3 → (nI k - 1).toInt < 2 := by decide +kernel
      exact in0 (n := 2) rfl c2 (key k hk)
theorem sa_ix {a : Nat} {x : Int32} (h : 0 ≤ x.toInt ∧ x.toInt < 12) (ha : a < 300) : (nI a + x).toNatClampNeg = a + x.toNatClampNeg := by
  obtain ⟨k, hk, rfl⟩ := of_nI (n := 12) h (by decide)
  rw [add_ix (by omega), nI_clamp (by omega)]
theorem sa_vp {a : Nat} {x : Int32} (h : 0 ≤ x.toInt ∧ x.toInt < 12) (ha : a < 300) : vp_in (nI a + x) 381 := by
  obtain ⟨k, hk, rfl⟩ := of_nI (n := 12) h (by decide)
  exact add_vp (by omega) (by decide)
theorem row_lt {x y : Int32} {n : Nat} (c1 : ¬ x < 0) (c2 : x < y) (hy : y.toInt ≤ n) : 0 ≤ x.toInt ∧ x.toInt < n := by
  rw [i32_lt] at c1 c2
  have h2 : (0 : Int32).toInt = 0 := by decide
  omega
theorem lg_ix {x y : Int32} (h : 0 ≤ x.toInt ∧ x.toInt < 20) (hy : 0 ≤ y.toInt ∧ y.toInt < 3) : (23 + 3 * x + y).toNatClampNeg = 23 + 3 * x.toNatClampNeg + y.toNatClampNeg ∧ vp_in (23 + 3 * x + y) 381 := by
  obtain ⟨k, hk, rfl⟩ := of_nI (n := 20) h (by decide)
  obtain ⟨j, hj, rfl⟩ := of_nI (n := 3) hy (by decide)
  have e : 23 + 3 * nI k + nI j = nI (23 + 3 * k + j) := by
    rw [show (3 : Int32) = nI 3 from rfl, pk_mul, show (23 : Int32) = nI 23 from rfl, nI_add, nI_add]
  rw [e, nI_clamp (by omega), nI_clamp (by omega), nI_clamp (by omega)]
  exact ⟨rfl, vp_in_nI (by omega) (by decide)⟩
theorem lgv {p1 p2 v : Int32} (ev : (if p1 < 0 then 1 else (let q := f_X9_in p2 0 2; (if q = 0 then 1 else 0))) = v) (hv : v ≤ 0) : ¬ p1 < 0 ∧ 0 ≤ p2.toInt ∧ p2.toInt < 3 := by
  by_cases c : p1 < 0
  · rw [if_pos c] at ev; exact (le_0 ev hv (by decide)).elim
  · rw [if_neg c] at ev
    dsimp only at ev
    split at ev
    · exact (le_0 ev hv (by decide)).elim
    · next c2 => exact ⟨c, in0 (n := 3) rfl c2 (by decide)⟩
theorem InvD.len {σ : St} {v : Int32} (h : 0 ≤ v.toInt ∧ v.toInt ≤ 150) (I : InvD σ) : InvD (up2 σ 0 6 v) := I.up0 ⟨fun h => absurd h (by decide), fun _ => h, fun h => absurd h (by decide)⟩
theorem InvD.spot {σ : St} {v : Int32} (h : 0 ≤ v.toInt ∧ v.toInt ≤ 150) (I : InvD σ) : InvD (up2 σ 0 8 v) := I.up0 ⟨fun h => absurd h (by decide), fun h => absurd h (by decide), fun _ => h⟩
theorem ty_L {σ : St} {r v : Int32} (I : InvD σ) (ev : (if r = 0 then 1 else (if σ 0 6 = 150 then 2 else 0)) = v) (hv : v ≤ 0) : 0 ≤ (σ 0 6).toInt ∧ (σ 0 6).toInt < 150 := by
  have h6 := I.2.2.2.2.1
  by_cases c : r = 0
  · rw [if_pos c] at ev; exact (le_0 ev hv (by decide)).elim
  · rw [if_neg c] at ev
    split at ev
    · exact (le_0 ev hv (by decide)).elim
    · next c2 =>
      have h2 : (σ 0 6).toInt ≠ 150 := fun e => c2 (Int32.toInt_inj.mp e)
      omega
theorem inc_n {x : Int32} {n : Nat} (h : 0 ≤ x.toInt ∧ x.toInt < n) (hn : n < 2 ^ 31) : 0 ≤ (x + 1).toInt ∧ (x + 1).toInt ≤ n := by
  obtain ⟨k, hk, rfl⟩ := of_nI (n := n) h hn
  rw [nI_1, nI_toInt (by omega)]
  omega

abbrev rmX9_clearSections : Room := { frames := 2, cells := 0, slots := 0, locals := 43 }
def f_X9_clearSections (σ : St) (p1 : Int32) : Int32 × St := (let r3 := f_X9_isSource σ p1; (let v27 : Int32 := (if r3 = 0 then 1 else (let r15 := f_X9_placeOf σ p1; (if r15 = (-1) then 0 else 2))); (let r27 := (f_X9_refused σ v27).1; let s27 := (f_X9_refused σ v27).2; (if r27 = 0 then (let s36 := f_X9_saves s27; (let r43 := f_X9_of s36 p1 7; (let r52 := f_X9_at p1; (r43, up2 s36 1 (ix p1 + 7) 0)))) else (0, s27)))))
theorem v_X9_clearSections : cvV yX9_clearSections "NestedBellsModel" cX9_clearSections 3 (some (.int)) 1 := ⟨q_5_79, q_5_80, q_1_10, q_5_81, rfl, by decide +kernel, by decide +kernel, by decide +kernel⟩
set_option maxHeartbeats 4000000 in
set_option maxRecDepth 100000 in
theorem k_X9_clearSections {l : Launch} {D : va_G} {T : Nat → ClassId} {g ad : Nat → Nat} {σ : St} {p1 : Int32} (I0 : InvD σ) : mX l yX9_clearSections cX9_clearSections 3 (some (.int)) rmX9_clearSections D T g 6 ad (cE (dE T ad) σ) [.ref (ad 0), .int p1] (qI D 6 ad (dE T ad) (pI (f_X9_clearSections σ p1) InvD)) := by
  refine mX.of (own := "NestedBellsModel") (by decide +kernel) (Nat.le_of_ble_eq_true rfl) rfl ?_
  intro p e s m below meth c A ls H locs Z hr hlk _ hw hl
  have hx := Z.1.1
  have hb := Z.1.2.1
  have hl : lv_has ls 3 [(0, .ref (ad 0)), (1, .int p1)] := hl
  refine lv_aload_n hx hb dX9_clearSections_0 rfl (lv_at hl 0 rfl) ?_
  refine lv_aload_n hx hb dX9_clearSections_1 rfl (lv_at hl 0 rfl) ?_
  refine lv_iload_n hx hb dX9_clearSections_2 rfl (lv_at hl 1 rfl) ?_
  refine bk_ip (rnV (rest := [.ref (ad 0)]) Z hw (k_X9_isSource (p1 := p1) I0) v_X9_isSource q_5_47 (0) (by decide) rfl rfl rfl rfl hl.1 rfl rfl (Nat.le_of_ble_eq_true rfl) ⟨(Nat.le_of_ble_eq_true rfl), (Nat.le_of_ble_eq_true rfl)⟩ ⟨(Nat.le_of_ble_eq_true rfl), (Nat.le_of_ble_eq_true rfl)⟩ dX9_clearSections_3) hw Z (fun r3 er3 H locs hw => ?_)
  have hj27 : ∀ (v27 : Int32) (H : Heap) (locs : List Loc) (ls : Array Slot), ((if r3 = 0 then 1 else (let r15 := f_X9_placeOf σ p1; (if r15 = (-1) then 0 else 2))) : Int32) = v27 → wo D A s.heap 6 ad (cE (dE T ad) σ) H locs → lv_has ls 3 [(0, .ref (ad 0)), (1, .int p1)] → W p l e rmX9_clearSections s m [.ref (ad 0), .int p1].toArray below meth c H locs 0 0 (MQ below (qI D 6 ad (dE T ad) (pI (f_X9_clearSections σ p1) InvD) A) [.ref (ad 0), .int p1].toArray s rmX9_clearSections.cells rmX9_clearSections.slots A) (F0 m 27 ls [.int v27, .ref (ad 0)]) := by
    intro v27 H locs ls ev27 hw hl
    refine bk_i (rnV (rest := []) Z hw (k_X9_refused (p1 := v27) I0) v_X9_refused q_5_17 (0) (by decide) rfl rfl rfl rfl hl.1 rfl rfl (Nat.le_of_ble_eq_true rfl) ⟨(Nat.le_of_ble_eq_true rfl), (Nat.le_of_ble_eq_true rfl)⟩ ⟨(Nat.le_of_ble_eq_true rfl), (Nat.le_of_ble_eq_true rfl)⟩ dX9_clearSections_27) hw Z (fun r27 s27 H locs hp hw => ?_)
    obtain ⟨er27, es27, I27⟩ := hp
    refine lv_if_eq (tgt := 35) hx hb dX9_clearSections_30 (by decide) (fun c30 => ?_) (fun c30 => ?_)
    · have hs := src_rng12 I0 er3 (tree_ne ev27 (by decide) (ref0 er27 c30))
      refine lv_aload_n hx hb dX9_clearSections_35 rfl (lv_at hl 0 rfl) ?_
      refine bk_v (rnV (rest := []) Z hw (k_X9_saves  I27) v_X9_saves q_5_32 (0) (by decide) rfl rfl rfl rfl hl.1 rfl rfl (Nat.le_of_ble_eq_true rfl) ⟨(Nat.le_of_ble_eq_true rfl), (Nat.le_of_ble_eq_true rfl)⟩ ⟨(Nat.le_of_ble_eq_true rfl), (Nat.le_of_ble_eq_true rfl)⟩ dX9_clearSections_36) hw Z (fun s36 H locs hp hw => ?_)
      obtain ⟨es36, I36⟩ := hp
      refine lv_aload_n hx hb dX9_clearSections_39 rfl (lv_at hl 0 rfl) ?_
      refine lv_iload_n hx hb dX9_clearSections_40 rfl (lv_at hl 1 rfl) ?_
      refine lv_bipush (v := 7) hx hb dX9_clearSections_41 (by decide +kernel) ?_
      refine bk_ip (rnV (rest := []) Z hw (k_X9_of (p1 := p1) (p2 := 7) I36 hs (by decide +kernel)) v_X9_of q_5_70 (0) (by decide) rfl rfl rfl rfl hl.1 rfl rfl (Nat.le_of_ble_eq_true rfl) ⟨(Nat.le_of_ble_eq_true rfl), (Nat.le_of_ble_eq_true rfl)⟩ ⟨(Nat.le_of_ble_eq_true rfl), (Nat.le_of_ble_eq_true rfl)⟩ dX9_clearSections_43) hw Z (fun r43 er43 H locs hw => ?_)
      refine lv_istore_n (lv' := [(2, .int r43), (0, .ref (ad 0)), (1, .int p1)]) hx hb dX9_clearSections_46 rfl hl (by decide) rfl (fun ls hl => ?_)
      refine lv_aload_n hx hb dX9_clearSections_47 rfl (lv_at hl 1 rfl) ?_
      refine gD (j := 0) (v := .ref (ad 1)) Z hw  (by decide) q_4_212 rfl rfl dX9_clearSections_48 ?_
      refine lv_iload_n hx hb dX9_clearSections_51 rfl (lv_at hl 2 rfl) ?_
      refine bk_ip (rnS (rest := [.ref (ad 1)]) Z hw (k_X9_at (p1 := p1) ) v_X9_at rfl q_5_40 hl.1 rfl rfl (Nat.le_of_ble_eq_true rfl) ⟨(Nat.le_of_ble_eq_true rfl), (Nat.le_of_ble_eq_true rfl)⟩ ⟨(Nat.le_of_ble_eq_true rfl), (Nat.le_of_ble_eq_true rfl)⟩ dX9_clearSections_52) hw Z (fun r52 er52 H locs hw => ?_)
      refine lv_bipush (v := 7) hx hb dX9_clearSections_55 (by decide +kernel) ?_
      refine lv_iadd hx hb dX9_clearSections_57 ?_
      refine lv_iconst (v := 0) hx hb dX9_clearSections_58 (by decide +kernel) ?_
      refine sE (j := ix p1 + 7) Z hw 1 (by decide) rfl (fun _ => rfl) (at_vp er52 hs (w := 7) (by omega)) (at_ix er52 hs (w := 7) (by omega)) dX9_clearSections_59 (fun H locs hw => ?_)
      refine lv_iload_n hx hb dX9_clearSections_60 rfl (lv_at hl 0 rfl) ?_
      exact rt_i Z hr hlk hw dX9_clearSections_61 (pI.mk (by subst er52 er43 es36 es27 er27 ev27 er3; exact (lf_t c30 rfl)) (InvD.sec (by decide) I36))
    · refine lv_iconst (v := 0) hx hb dX9_clearSections_33 (by decide +kernel) ?_
      exact rt_i Z hr hlk hw dX9_clearSections_34 (pI.mk (by subst es27 er27 ev27 er3; exact (lf_f c30 rfl)) I27)
  refine lv_if_ne (tgt := 13) hx hb dX9_clearSections_6 (by decide) (fun c6 => ?_) (fun c6 => ?_)
  · refine lv_aload_n hx hb dX9_clearSections_13 rfl (lv_at hl 0 rfl) ?_
    refine lv_iload_n hx hb dX9_clearSections_14 rfl (lv_at hl 1 rfl) ?_
    refine bk_ip (rnV (rest := [.ref (ad 0)]) Z hw (k_X9_placeOf (p1 := p1) I0) v_X9_placeOf q_5_54 (0) (by decide) rfl rfl rfl rfl hl.1 rfl rfl (Nat.le_of_ble_eq_true rfl) ⟨(Nat.le_of_ble_eq_true rfl), (Nat.le_of_ble_eq_true rfl)⟩ ⟨(Nat.le_of_ble_eq_true rfl), (Nat.le_of_ble_eq_true rfl)⟩ dX9_clearSections_15) hw Z (fun r15 er15 H locs hw => ?_)
    refine lv_iconst (v := (-1)) hx hb dX9_clearSections_18 (by decide +kernel) ?_
    refine lv_icmp_eq (tgt := 26) hx hb dX9_clearSections_19 (by decide) (fun c19 => ?_) (fun c19 => ?_)
    · refine lv_iconst (v := 0) hx hb dX9_clearSections_26 (by decide +kernel) ?_
      exact hj27 _ H locs ls (Eq.symm (by subst er15; exact (lf_f c6 (lf_t c19 rfl)))) hw (lv_sub hl [0, 1] rfl)
    · refine lv_iconst (v := 2) hx hb dX9_clearSections_22 (by decide +kernel) ?_
      refine lv_goto (tgt := 27) hx hb dX9_clearSections_23 (by decide) ?_
      exact hj27 _ H locs ls (Eq.symm (by subst er15; exact (lf_f c6 (lf_f c19 rfl)))) hw (lv_sub hl [0, 1] rfl)
  · refine lv_iconst (v := 1) hx hb dX9_clearSections_9 (by decide +kernel) ?_
    refine lv_goto (tgt := 27) hx hb dX9_clearSections_10 (by decide) ?_
    exact hj27 _ H locs ls (Eq.symm (lf_t c6 rfl)) hw (lv_sub hl [0, 1] rfl)
abbrev rmX9_setSource : Room := { frames := 2, cells := 0, slots := 0, locals := 43 }
def f_X9_setSource (σ : St) (p1 : Int32) (p2 : Int32) (p3 : Int32) : Int32 × St := (let r3 := f_X9_isSource σ p1; (let v52 : Int32 := (if r3 = 0 then 1 else (let r15 := f_X9_isValue p2 p3; (if r15 = 0 then 2 else (if 2 ≤ p2 then 0 else (let r32 := f_X9_placeOf σ p1; (if r32 = (-1) then (let r41 := f_X9_isEntered σ p1; (if r41 = 0 then 0 else 3)) else 3)))))); (let r52 := (f_X9_refused σ v52).1; let s52 := (f_X9_refused σ v52).2; (if r52 = 0 then (let s61 := f_X9_saves s52; (let r65 := f_X9_at p1; (let v86 : Int32 := (if p2 = 0 then 0 else (if p2 = 1 then 2 else 3)); (s61 1 (ix p1 + v86.toNatClampNeg), up2 s61 1 (ix p1 + v86.toNatClampNeg) p3)))) else (0, s52)))))
theorem v_X9_setSource : cvV yX9_setSource "NestedBellsModel" cX9_setSource 6 (some (.int)) 3 := ⟨q_5_44, q_5_45, q_1_10, q_5_46, rfl, by decide +kernel, by decide +kernel, by decide +kernel⟩
set_option maxHeartbeats 4000000 in
set_option maxRecDepth 100000 in
theorem k_X9_setSource {l : Launch} {D : va_G} {T : Nat → ClassId} {g ad : Nat → Nat} {σ : St} {p1 : Int32} {p2 : Int32} {p3 : Int32} (I0 : InvD σ) : mX l yX9_setSource cX9_setSource 6 (some (.int)) rmX9_setSource D T g 6 ad (cE (dE T ad) σ) [.ref (ad 0), .int p1, .int p2, .int p3] (qI D 6 ad (dE T ad) (pI (f_X9_setSource σ p1 p2 p3) InvD)) := by
  refine mX.of (own := "NestedBellsModel") (by decide +kernel) (Nat.le_of_ble_eq_true rfl) rfl ?_
  intro p e s m below meth c A ls H locs Z hr hlk _ hw hl
  have hx := Z.1.1
  have hb := Z.1.2.1
  have hl : lv_has ls 6 [(0, .ref (ad 0)), (1, .int p1), (2, .int p2), (3, .int p3)] := hl
  refine lv_aload_n hx hb dX9_setSource_0 rfl (lv_at hl 0 rfl) ?_
  refine lv_aload_n hx hb dX9_setSource_1 rfl (lv_at hl 0 rfl) ?_
  refine lv_iload_n hx hb dX9_setSource_2 rfl (lv_at hl 1 rfl) ?_
  refine bk_ip (rnV (rest := [.ref (ad 0)]) Z hw (k_X9_isSource (p1 := p1) I0) v_X9_isSource q_5_47 (0) (by decide) rfl rfl rfl rfl hl.1 rfl rfl (Nat.le_of_ble_eq_true rfl) ⟨(Nat.le_of_ble_eq_true rfl), (Nat.le_of_ble_eq_true rfl)⟩ ⟨(Nat.le_of_ble_eq_true rfl), (Nat.le_of_ble_eq_true rfl)⟩ dX9_setSource_3) hw Z (fun r3 er3 H locs hw => ?_)
  have hj52 : ∀ (v52 : Int32) (H : Heap) (locs : List Loc) (ls : Array Slot), ((if r3 = 0 then 1 else (let r15 := f_X9_isValue p2 p3; (if r15 = 0 then 2 else (if 2 ≤ p2 then 0 else (let r32 := f_X9_placeOf σ p1; (if r32 = (-1) then (let r41 := f_X9_isEntered σ p1; (if r41 = 0 then 0 else 3)) else 3)))))) : Int32) = v52 → wo D A s.heap 6 ad (cE (dE T ad) σ) H locs → lv_has ls 6 [(0, .ref (ad 0)), (1, .int p1), (2, .int p2), (3, .int p3)] → W p l e rmX9_setSource s m [.ref (ad 0), .int p1, .int p2, .int p3].toArray below meth c H locs 0 0 (MQ below (qI D 6 ad (dE T ad) (pI (f_X9_setSource σ p1 p2 p3) InvD) A) [.ref (ad 0), .int p1, .int p2, .int p3].toArray s rmX9_setSource.cells rmX9_setSource.slots A) (F0 m 52 ls [.int v52, .ref (ad 0)]) := by
    intro v52 H locs ls ev52 hw hl
    refine bk_i (rnV (rest := []) Z hw (k_X9_refused (p1 := v52) I0) v_X9_refused q_5_17 (0) (by decide) rfl rfl rfl rfl hl.1 rfl rfl (Nat.le_of_ble_eq_true rfl) ⟨(Nat.le_of_ble_eq_true rfl), (Nat.le_of_ble_eq_true rfl)⟩ ⟨(Nat.le_of_ble_eq_true rfl), (Nat.le_of_ble_eq_true rfl)⟩ dX9_setSource_52) hw Z (fun r52 s52 H locs hp hw => ?_)
    obtain ⟨er52, es52, I52⟩ := hp
    refine lv_if_eq (tgt := 60) hx hb dX9_setSource_55 (by decide) (fun c55 => ?_) (fun c55 => ?_)
    · have hs := src_rng12 I0 er3 (tree_ne ev52 (by decide) (ref0 er52 c55))
      refine lv_aload_n hx hb dX9_setSource_60 rfl (lv_at hl 0 rfl) ?_
      refine bk_v (rnV (rest := []) Z hw (k_X9_saves  I52) v_X9_saves q_5_32 (0) (by decide) rfl rfl rfl rfl hl.1 rfl rfl (Nat.le_of_ble_eq_true rfl) ⟨(Nat.le_of_ble_eq_true rfl), (Nat.le_of_ble_eq_true rfl)⟩ ⟨(Nat.le_of_ble_eq_true rfl), (Nat.le_of_ble_eq_true rfl)⟩ dX9_setSource_61) hw Z (fun s61 H locs hp hw => ?_)
      obtain ⟨es61, I61⟩ := hp
      refine lv_iload_n hx hb dX9_setSource_64 rfl (lv_at hl 1 rfl) ?_
      refine bk_ip (rnS (rest := []) Z hw (k_X9_at (p1 := p1) ) v_X9_at rfl q_5_40 hl.1 rfl rfl (Nat.le_of_ble_eq_true rfl) ⟨(Nat.le_of_ble_eq_true rfl), (Nat.le_of_ble_eq_true rfl)⟩ ⟨(Nat.le_of_ble_eq_true rfl), (Nat.le_of_ble_eq_true rfl)⟩ dX9_setSource_65) hw Z (fun r65 er65 H locs hw => ?_)
      refine lv_iload_n hx hb dX9_setSource_68 rfl (lv_at hl 2 rfl) ?_
      have hj86 : ∀ (v86 : Int32) (H : Heap) (locs : List Loc) (ls : Array Slot), ((if p2 = 0 then 0 else (if p2 = 1 then 2 else 3)) : Int32) = v86 → wo D A s.heap 6 ad (cE (dE T ad) s61) H locs → lv_has ls 6 [(0, .ref (ad 0)), (3, .int p3)] → W p l e rmX9_setSource s m [.ref (ad 0), .int p1, .int p2, .int p3].toArray below meth c H locs 0 0 (MQ below (qI D 6 ad (dE T ad) (pI (f_X9_setSource σ p1 p2 p3) InvD) A) [.ref (ad 0), .int p1, .int p2, .int p3].toArray s rmX9_setSource.cells rmX9_setSource.slots A) (F0 m 86 ls [.int v86, .int r65]) := by
        intro v86 H locs ls ev86 hw hl
        have hv86 := ss_v ev86
        refine lv_iadd hx hb dX9_setSource_86 ?_
        refine lv_istore (lv' := [(4, .int (r65 + v86)), (0, .ref (ad 0)), (3, .int p3)]) hx hb dX9_setSource_87 hl (by decide) rfl (fun ls hl => ?_)
        refine lv_aload_n hx hb dX9_setSource_89 rfl (lv_at hl 1 rfl) ?_
        refine gD (j := 0) (v := .ref (ad 1)) Z hw  (by decide) q_4_212 rfl rfl dX9_setSource_90 ?_
        refine lv_iload hx hb dX9_setSource_93 (lv_at hl 0 rfl) ?_
        refine aE (v := s61 1 (ix p1 + v86.toNatClampNeg)) Z hw 1 (by decide) rfl (fun _ => rfl) (of_vp er65 hs hv86.1) ((congrArg (s61 1) (of_ix er65 hs hv86.1)).trans rfl) dX9_setSource_95 ?_
        refine lv_istore (lv' := [(5, .int (s61 1 (ix p1 + v86.toNatClampNeg))), (4, .int (r65 + v86)), (0, .ref (ad 0)), (3, .int p3)]) hx hb dX9_setSource_96 hl (by decide) rfl (fun ls hl => ?_)
        refine lv_aload_n hx hb dX9_setSource_98 rfl (lv_at hl 2 rfl) ?_
        refine gD (j := 0) (v := .ref (ad 1)) Z hw  (by decide) q_4_212 rfl rfl dX9_setSource_99 ?_
        refine lv_iload hx hb dX9_setSource_102 (lv_at hl 1 rfl) ?_
        refine lv_iload_n hx hb dX9_setSource_104 rfl (lv_at hl 3 rfl) ?_
        refine sE (j := ix p1 + v86.toNatClampNeg) Z hw 1 (by decide) rfl (fun _ => rfl) (of_vp er65 hs hv86.1) (of_ix er65 hs hv86.1) dX9_setSource_105 (fun H locs hw => ?_)
        refine lv_iload hx hb dX9_setSource_106 (lv_at hl 0 rfl) ?_
        exact rt_i Z hr hlk hw dX9_setSource_108 (pI.mk (by subst ev86 er65 es61 es52 er52 ev52 er3; exact (lf_t c55 rfl)) (InvD.fld hv86.2 I61))
      refine lv_if_ne (tgt := 76) hx hb dX9_setSource_69 (by decide) (fun c69 => ?_) (fun c69 => ?_)
      · refine lv_iload_n hx hb dX9_setSource_76 rfl (lv_at hl 2 rfl) ?_
        refine lv_iconst (v := 1) hx hb dX9_setSource_77 (by decide +kernel) ?_
        refine lv_icmp_ne (tgt := 85) hx hb dX9_setSource_78 (by decide) (fun c78 => ?_) (fun c78 => ?_)
        · refine lv_iconst (v := 3) hx hb dX9_setSource_85 (by decide +kernel) ?_
          exact hj86 _ H locs ls (Eq.symm (lf_f c69 (lf_f c78 rfl))) hw (lv_sub hl [0, 3] rfl)
        · refine lv_iconst (v := 2) hx hb dX9_setSource_81 (by decide +kernel) ?_
          refine lv_goto (tgt := 86) hx hb dX9_setSource_82 (by decide) ?_
          exact hj86 _ H locs ls (Eq.symm (lf_f c69 (lf_t c78 rfl))) hw (lv_sub hl [0, 3] rfl)
      · refine lv_iconst (v := 0) hx hb dX9_setSource_72 (by decide +kernel) ?_
        refine lv_goto (tgt := 86) hx hb dX9_setSource_73 (by decide) ?_
        exact hj86 _ H locs ls (Eq.symm (lf_t c69 rfl)) hw (lv_sub hl [0, 3] rfl)
    · refine lv_iconst (v := 0) hx hb dX9_setSource_58 (by decide +kernel) ?_
      exact rt_i Z hr hlk hw dX9_setSource_59 (pI.mk (by subst es52 er52 ev52 er3; exact (lf_f c55 rfl)) I52)
  refine lv_if_ne (tgt := 13) hx hb dX9_setSource_6 (by decide) (fun c6 => ?_) (fun c6 => ?_)
  · refine lv_iload_n hx hb dX9_setSource_13 rfl (lv_at hl 2 rfl) ?_
    refine lv_iload_n hx hb dX9_setSource_14 rfl (lv_at hl 3 rfl) ?_
    refine bk_ip (rnS (rest := [.ref (ad 0)]) Z hw (k_X9_isValue (p1 := p2) (p2 := p3) ) v_X9_isValue rfl q_5_51 hl.1 rfl rfl (Nat.le_of_ble_eq_true rfl) ⟨(Nat.le_of_ble_eq_true rfl), (Nat.le_of_ble_eq_true rfl)⟩ ⟨(Nat.le_of_ble_eq_true rfl), (Nat.le_of_ble_eq_true rfl)⟩ dX9_setSource_15) hw Z (fun r15 er15 H locs hw => ?_)
    refine lv_if_ne (tgt := 25) hx hb dX9_setSource_18 (by decide) (fun c18 => ?_) (fun c18 => ?_)
    · refine lv_iload_n hx hb dX9_setSource_25 rfl (lv_at hl 2 rfl) ?_
      refine lv_iconst (v := 2) hx hb dX9_setSource_26 (by decide +kernel) ?_
      refine lv_icmp_ge (tgt := 51) hx hb dX9_setSource_27 (by decide) (fun c27 => ?_) (fun c27 => ?_)
      · refine lv_iconst (v := 0) hx hb dX9_setSource_51 (by decide +kernel) ?_
        exact hj52 _ H locs ls (Eq.symm (by subst er15; exact (lf_f c6 (lf_f c18 (lf_t c27 rfl))))) hw (lv_sub hl [0, 1, 2, 3] rfl)
      · refine lv_aload_n hx hb dX9_setSource_30 rfl (lv_at hl 0 rfl) ?_
        refine lv_iload_n hx hb dX9_setSource_31 rfl (lv_at hl 1 rfl) ?_
        refine bk_ip (rnV (rest := [.ref (ad 0)]) Z hw (k_X9_placeOf (p1 := p1) I0) v_X9_placeOf q_5_54 (0) (by decide) rfl rfl rfl rfl hl.1 rfl rfl (Nat.le_of_ble_eq_true rfl) ⟨(Nat.le_of_ble_eq_true rfl), (Nat.le_of_ble_eq_true rfl)⟩ ⟨(Nat.le_of_ble_eq_true rfl), (Nat.le_of_ble_eq_true rfl)⟩ dX9_setSource_32) hw Z (fun r32 er32 H locs hw => ?_)
        refine lv_iconst (v := (-1)) hx hb dX9_setSource_35 (by decide +kernel) ?_
        refine lv_icmp_ne (tgt := 47) hx hb dX9_setSource_36 (by decide) (fun c36 => ?_) (fun c36 => ?_)
        · refine lv_iconst (v := 3) hx hb dX9_setSource_47 (by decide +kernel) ?_
          refine lv_goto (tgt := 52) hx hb dX9_setSource_48 (by decide) ?_
          exact hj52 _ H locs ls (Eq.symm (by subst er32 er15; exact (lf_f c6 (lf_f c18 (lf_f c27 (lf_f c36 rfl)))))) hw (lv_sub hl [0, 1, 2, 3] rfl)
        · refine lv_aload_n hx hb dX9_setSource_39 rfl (lv_at hl 0 rfl) ?_
          refine lv_iload_n hx hb dX9_setSource_40 rfl (lv_at hl 1 rfl) ?_
          refine bk_ip (rnV (rest := [.ref (ad 0)]) Z hw (k_X9_isEntered (p1 := p1) I0) v_X9_isEntered q_5_58 (0) (by decide) rfl rfl rfl rfl hl.1 rfl rfl (Nat.le_of_ble_eq_true rfl) ⟨(Nat.le_of_ble_eq_true rfl), (Nat.le_of_ble_eq_true rfl)⟩ ⟨(Nat.le_of_ble_eq_true rfl), (Nat.le_of_ble_eq_true rfl)⟩ dX9_setSource_41) hw Z (fun r41 er41 H locs hw => ?_)
          refine lv_if_eq (tgt := 51) hx hb dX9_setSource_44 (by decide) (fun c44 => ?_) (fun c44 => ?_)
          · refine lv_iconst (v := 0) hx hb dX9_setSource_51 (by decide +kernel) ?_
            exact hj52 _ H locs ls (Eq.symm (by subst er41 er32 er15; exact (lf_f c6 (lf_f c18 (lf_f c27 (lf_t c36 (lf_t c44 rfl))))))) hw (lv_sub hl [0, 1, 2, 3] rfl)
          · refine lv_iconst (v := 3) hx hb dX9_setSource_47 (by decide +kernel) ?_
            refine lv_goto (tgt := 52) hx hb dX9_setSource_48 (by decide) ?_
            exact hj52 _ H locs ls (Eq.symm (by subst er41 er32 er15; exact (lf_f c6 (lf_f c18 (lf_f c27 (lf_t c36 (lf_f c44 rfl))))))) hw (lv_sub hl [0, 1, 2, 3] rfl)
    · refine lv_iconst (v := 2) hx hb dX9_setSource_21 (by decide +kernel) ?_
      refine lv_goto (tgt := 52) hx hb dX9_setSource_22 (by decide) ?_
      exact hj52 _ H locs ls (Eq.symm (by subst er15; exact (lf_f c6 (lf_t c18 rfl)))) hw (lv_sub hl [0, 1, 2, 3] rfl)
  · refine lv_iconst (v := 1) hx hb dX9_setSource_9 (by decide +kernel) ?_
    refine lv_goto (tgt := 52) hx hb dX9_setSource_10 (by decide) ?_
    exact hj52 _ H locs ls (Eq.symm (lf_t c6 rfl)) hw (lv_sub hl [0, 1, 2, 3] rfl)
abbrev rmX9_addSource : Room := { frames := 2, cells := 0, slots := 0, locals := 45 }
def f_X9_addSource (σ : St) (p1 : Int32) (p2 : Int32) (p3 : Int32) : Int32 × St := (let r4 := f_X9_badSource σ p1 p2 p3; (let v23 : Int32 := (if r4 = 0 then 0 else r4 - 1); (let r23 := (f_X9_refused σ v23).1; let s23 := (f_X9_refused σ v23).2; (if r23 = 0 then (let s32 := f_X9_saves s23; (let r39 := (f_X9_comes s32 p1 p2 p3).1; let s39 := (f_X9_comes s32 p1 p2 p3).2; (r39, s39))) else (0, s23)))))
theorem v_X9_addSource : cvV yX9_addSource "NestedBellsModel" cX9_addSource 5 (some (.int)) 3 := ⟨q_5_22, q_5_23, q_1_10, q_5_24, rfl, by decide +kernel, by decide +kernel, by decide +kernel⟩
set_option maxHeartbeats 4000000 in
set_option maxRecDepth 100000 in
theorem k_X9_addSource {l : Launch} {D : va_G} {T : Nat → ClassId} {g ad : Nat → Nat} {σ : St} {p1 : Int32} {p2 : Int32} {p3 : Int32} (I0 : InvD σ) : mX l yX9_addSource cX9_addSource 5 (some (.int)) rmX9_addSource D T g 6 ad (cE (dE T ad) σ) [.ref (ad 0), .int p1, .int p2, .int p3] (qI D 6 ad (dE T ad) (pI (f_X9_addSource σ p1 p2 p3) InvD)) := by
  refine mX.of (own := "NestedBellsModel") (by decide +kernel) (Nat.le_of_ble_eq_true rfl) rfl ?_
  intro p e s m below meth c A ls H locs Z hr hlk _ hw hl
  have hx := Z.1.1
  have hb := Z.1.2.1
  have hl : lv_has ls 5 [(0, .ref (ad 0)), (1, .int p1), (2, .int p2), (3, .int p3)] := hl
  refine lv_aload_n hx hb dX9_addSource_0 rfl (lv_at hl 0 rfl) ?_
  refine lv_iload_n hx hb dX9_addSource_1 rfl (lv_at hl 1 rfl) ?_
  refine lv_iload_n hx hb dX9_addSource_2 rfl (lv_at hl 2 rfl) ?_
  refine lv_iload_n hx hb dX9_addSource_3 rfl (lv_at hl 3 rfl) ?_
  refine bk_ip (rnV (rest := []) Z hw (k_X9_badSource (p1 := p1) (p2 := p2) (p3 := p3) I0) v_X9_badSource q_5_25 (0) (by decide) rfl rfl rfl rfl hl.1 rfl rfl (Nat.le_of_ble_eq_true rfl) ⟨(Nat.le_of_ble_eq_true rfl), (Nat.le_of_ble_eq_true rfl)⟩ ⟨(Nat.le_of_ble_eq_true rfl), (Nat.le_of_ble_eq_true rfl)⟩ dX9_addSource_4) hw Z (fun r4 er4 H locs hw => ?_)
  refine lv_istore (lv' := [(4, .int r4), (0, .ref (ad 0)), (1, .int p1), (2, .int p2), (3, .int p3)]) hx hb dX9_addSource_7 hl (by decide) rfl (fun ls hl => ?_)
  refine lv_aload_n hx hb dX9_addSource_9 rfl (lv_at hl 1 rfl) ?_
  refine lv_iload hx hb dX9_addSource_10 (lv_at hl 0 rfl) ?_
  have hj23 : ∀ (v23 : Int32) (H : Heap) (locs : List Loc) (ls : Array Slot), ((if r4 = 0 then 0 else r4 - 1) : Int32) = v23 → wo D A s.heap 6 ad (cE (dE T ad) σ) H locs → lv_has ls 5 [(0, .ref (ad 0)), (1, .int p1), (2, .int p2), (3, .int p3)] → W p l e rmX9_addSource s m [.ref (ad 0), .int p1, .int p2, .int p3].toArray below meth c H locs 0 0 (MQ below (qI D 6 ad (dE T ad) (pI (f_X9_addSource σ p1 p2 p3) InvD) A) [.ref (ad 0), .int p1, .int p2, .int p3].toArray s rmX9_addSource.cells rmX9_addSource.slots A) (F0 m 23 ls [.int v23, .ref (ad 0)]) := by
    intro v23 H locs ls ev23 hw hl
    refine bk_i (rnV (rest := []) Z hw (k_X9_refused (p1 := v23) I0) v_X9_refused q_5_17 (0) (by decide) rfl rfl rfl rfl hl.1 rfl rfl (Nat.le_of_ble_eq_true rfl) ⟨(Nat.le_of_ble_eq_true rfl), (Nat.le_of_ble_eq_true rfl)⟩ ⟨(Nat.le_of_ble_eq_true rfl), (Nat.le_of_ble_eq_true rfl)⟩ dX9_addSource_23) hw Z (fun r23 s23 H locs hp hw => ?_)
    obtain ⟨er23, es23, I23⟩ := hp
    refine lv_if_eq (tgt := 31) hx hb dX9_addSource_26 (by decide) (fun c26 => ?_) (fun c26 => ?_)
    · refine lv_aload_n hx hb dX9_addSource_31 rfl (lv_at hl 0 rfl) ?_
      refine bk_v (rnV (rest := []) Z hw (k_X9_saves  I23) v_X9_saves q_5_32 (0) (by decide) rfl rfl rfl rfl hl.1 rfl rfl (Nat.le_of_ble_eq_true rfl) ⟨(Nat.le_of_ble_eq_true rfl), (Nat.le_of_ble_eq_true rfl)⟩ ⟨(Nat.le_of_ble_eq_true rfl), (Nat.le_of_ble_eq_true rfl)⟩ dX9_addSource_32) hw Z (fun s32 H locs hp hw => ?_)
      obtain ⟨es32, I32⟩ := hp
      refine lv_aload_n hx hb dX9_addSource_35 rfl (lv_at hl 0 rfl) ?_
      refine lv_iload_n hx hb dX9_addSource_36 rfl (lv_at hl 1 rfl) ?_
      refine lv_iload_n hx hb dX9_addSource_37 rfl (lv_at hl 2 rfl) ?_
      refine lv_iload_n hx hb dX9_addSource_38 rfl (lv_at hl 3 rfl) ?_
      refine bk_i (rnV (rest := []) Z hw (k_X9_comes (p1 := p1) (p2 := p2) (p3 := p3) I32 (by rw [congrFun (sv1 es23 es32) 8]; exact as_M I0 er4 ev23 (ref0 er23 c26))) v_X9_comes q_5_36 (0) (by decide) rfl rfl rfl rfl hl.1 rfl rfl (Nat.le_of_ble_eq_true rfl) ⟨(Nat.le_of_ble_eq_true rfl), (Nat.le_of_ble_eq_true rfl)⟩ ⟨(Nat.le_of_ble_eq_true rfl), (Nat.le_of_ble_eq_true rfl)⟩ dX9_addSource_39) hw Z (fun r39 s39 H locs hp hw => ?_)
      obtain ⟨er39, es39, I39⟩ := hp
      exact rt_i Z hr hlk hw dX9_addSource_42 (pI.mk (by subst es39 er39 es32 es23 er23 ev23 er4; exact (lf_t c26 rfl)) I39)
    · refine lv_iconst (v := 0) hx hb dX9_addSource_29 (by decide +kernel) ?_
      exact rt_i Z hr hlk hw dX9_addSource_30 (pI.mk (by subst es23 er23 ev23 er4; exact (lf_f c26 rfl)) I23)
  refine lv_if_ne (tgt := 19) hx hb dX9_addSource_12 (by decide) (fun c12 => ?_) (fun c12 => ?_)
  · refine lv_iload hx hb dX9_addSource_19 (lv_at hl 0 rfl) ?_
    refine lv_iconst (v := 1) hx hb dX9_addSource_21 (by decide +kernel) ?_
    refine lv_isub hx hb dX9_addSource_22 ?_
    exact hj23 _ H locs ls (Eq.symm (lf_f c12 rfl)) hw (lv_sub hl [1, 2, 3, 4] rfl)
  · refine lv_iconst (v := 0) hx hb dX9_addSource_15 (by decide +kernel) ?_
    refine lv_goto (tgt := 23) hx hb dX9_addSource_16 (by decide) ?_
    exact hj23 _ H locs ls (Eq.symm (lf_t c12 rfl)) hw (lv_sub hl [1, 2, 3, 4] rfl)
abbrev rmX9_addSection : Room := { frames := 3, cells := 0, slots := 0, locals := 67 }
def f_X9_addSection (σ : St) (p1 : Int32) (p2 : Int32) (p3 : Int32) (p4 : Int32) : Int32 × St := (let r7 := f_X9_badSection σ p1 p2 p3 p4; (let r10 := (f_X9_refused σ r7).1; let s10 := (f_X9_refused σ r7).2; (if r10 = 0 then (let s19 := f_X9_saves s10; (let r28 := (f_X9_comesSection s19 p1 p2 p3 p4).1; let s28 := (f_X9_comesSection s19 p1 p2 p3 p4).2; (r28, s28))) else (0, s10))))
theorem v_X9_addSection : cvV yX9_addSection "NestedBellsModel" cX9_addSection 5 (some (.int)) 4 := ⟨q_5_63, q_5_64, q_1_10, q_5_65, rfl, by decide +kernel, by decide +kernel, by decide +kernel⟩
set_option maxHeartbeats 4000000 in
set_option maxRecDepth 100000 in
theorem k_X9_addSection {l : Launch} {D : va_G} {T : Nat → ClassId} {g ad : Nat → Nat} {σ : St} {p1 : Int32} {p2 : Int32} {p3 : Int32} {p4 : Int32} (I0 : InvD σ) : mX l yX9_addSection cX9_addSection 5 (some (.int)) rmX9_addSection D T g 6 ad (cE (dE T ad) σ) [.ref (ad 0), .int p1, .int p2, .int p3, .int p4] (qI D 6 ad (dE T ad) (pI (f_X9_addSection σ p1 p2 p3 p4) InvD)) := by
  refine mX.of (own := "NestedBellsModel") (by decide +kernel) (Nat.le_of_ble_eq_true rfl) rfl ?_
  intro p e s m below meth c A ls H locs Z hr hlk _ hw hl
  have hx := Z.1.1
  have hb := Z.1.2.1
  have hl : lv_has ls 5 [(0, .ref (ad 0)), (1, .int p1), (2, .int p2), (3, .int p3), (4, .int p4)] := hl
  refine lv_aload_n hx hb dX9_addSection_0 rfl (lv_at hl 0 rfl) ?_
  refine lv_aload_n hx hb dX9_addSection_1 rfl (lv_at hl 0 rfl) ?_
  refine lv_iload_n hx hb dX9_addSection_2 rfl (lv_at hl 1 rfl) ?_
  refine lv_iload_n hx hb dX9_addSection_3 rfl (lv_at hl 2 rfl) ?_
  refine lv_iload_n hx hb dX9_addSection_4 rfl (lv_at hl 3 rfl) ?_
  refine lv_iload hx hb dX9_addSection_5 (lv_at hl 4 rfl) ?_
  refine bk_ip (rnV (rest := [.ref (ad 0)]) Z hw (k_X9_badSection (p1 := p1) (p2 := p2) (p3 := p3) (p4 := p4) I0) v_X9_badSection q_5_66 (0) (by decide) rfl rfl rfl rfl hl.1 rfl rfl (Nat.le_of_ble_eq_true rfl) ⟨(Nat.le_of_ble_eq_true rfl), (Nat.le_of_ble_eq_true rfl)⟩ ⟨(Nat.le_of_ble_eq_true rfl), (Nat.le_of_ble_eq_true rfl)⟩ dX9_addSection_7) hw Z (fun r7 er7 H locs hw => ?_)
  refine bk_i (rnV (rest := []) Z hw (k_X9_refused (p1 := r7) I0) v_X9_refused q_5_17 (0) (by decide) rfl rfl rfl rfl hl.1 rfl rfl (Nat.le_of_ble_eq_true rfl) ⟨(Nat.le_of_ble_eq_true rfl), (Nat.le_of_ble_eq_true rfl)⟩ ⟨(Nat.le_of_ble_eq_true rfl), (Nat.le_of_ble_eq_true rfl)⟩ dX9_addSection_10) hw Z (fun r10 s10 H locs hp hw => ?_)
  obtain ⟨er10, es10, I10⟩ := hp
  refine lv_if_eq (tgt := 18) hx hb dX9_addSection_13 (by decide) (fun c13 => ?_) (fun c13 => ?_)
  · have hz := bs_S I0 er7 (ref0 er10 c13)
    refine lv_aload_n hx hb dX9_addSection_18 rfl (lv_at hl 0 rfl) ?_
    refine bk_v (rnV (rest := []) Z hw (k_X9_saves  I10) v_X9_saves q_5_32 (0) (by decide) rfl rfl rfl rfl hl.1 rfl rfl (Nat.le_of_ble_eq_true rfl) ⟨(Nat.le_of_ble_eq_true rfl), (Nat.le_of_ble_eq_true rfl)⟩ ⟨(Nat.le_of_ble_eq_true rfl), (Nat.le_of_ble_eq_true rfl)⟩ dX9_addSection_19) hw Z (fun s19 H locs hp hw => ?_)
    obtain ⟨es19, I19⟩ := hp
    refine lv_aload_n hx hb dX9_addSection_22 rfl (lv_at hl 0 rfl) ?_
    refine lv_iload_n hx hb dX9_addSection_23 rfl (lv_at hl 1 rfl) ?_
    refine lv_iload_n hx hb dX9_addSection_24 rfl (lv_at hl 2 rfl) ?_
    refine lv_iload_n hx hb dX9_addSection_25 rfl (lv_at hl 3 rfl) ?_
    refine lv_iload hx hb dX9_addSection_26 (lv_at hl 4 rfl) ?_
    refine bk_i (rnV (rest := []) Z hw (k_X9_comesSection (p1 := p1) (p2 := p2) (p3 := p3) (p4 := p4) I19 hz.1 (by rw [congrFun (sv1 es10 es19) _]; exact hz.2)) v_X9_comesSection q_5_74 (0) (by decide) rfl rfl rfl rfl hl.1 rfl rfl (Nat.le_of_ble_eq_true rfl) ⟨(Nat.le_of_ble_eq_true rfl), (Nat.le_of_ble_eq_true rfl)⟩ ⟨(Nat.le_of_ble_eq_true rfl), (Nat.le_of_ble_eq_true rfl)⟩ dX9_addSection_28) hw Z (fun r28 s28 H locs hp hw => ?_)
    obtain ⟨er28, es28, I28⟩ := hp
    exact rt_i Z hr hlk hw dX9_addSection_31 (pI.mk (by subst es28 er28 es19 es10 er10 er7; exact (lf_t c13 rfl)) I28)
  · refine lv_iconst (v := 0) hx hb dX9_addSection_16 (by decide +kernel) ?_
    exact rt_i Z hr hlk hw dX9_addSection_17 (pI.mk (by subst es10 er10 er7; exact (lf_f c13 rfl)) I10)
abbrev rmX9_setTimer : Room := { frames := 3, cells := 0, slots := 0, locals := 66 }
def f_X9_setTimer (σ : St) (p1 : Int32) (p2 : Int32) (p3 : Int32) : Int32 × St := (let r5 := f_X9_badTimer σ p1 p2 p3; (let r8 := (f_X9_refused σ r5).1; let s8 := (f_X9_refused σ r5).2; (if r8 = 0 then (let s17 := f_X9_saves s8; (let r24 := (f_X9_times s17 p1 p2 p3).1; let s24 := (f_X9_times s17 p1 p2 p3).2; (r24, s24))) else (0, s8))))
theorem v_X9_setTimer : cvV yX9_setTimer "NestedBellsModel" cX9_setTimer 4 (some (.int)) 3 := ⟨q_5_83, q_5_84, q_1_10, q_5_85, rfl, by decide +kernel, by decide +kernel, by decide +kernel⟩
set_option maxHeartbeats 4000000 in
set_option maxRecDepth 100000 in
theorem k_X9_setTimer {l : Launch} {D : va_G} {T : Nat → ClassId} {g ad : Nat → Nat} {σ : St} {p1 : Int32} {p2 : Int32} {p3 : Int32} (I0 : InvD σ) : mX l yX9_setTimer cX9_setTimer 4 (some (.int)) rmX9_setTimer D T g 6 ad (cE (dE T ad) σ) [.ref (ad 0), .int p1, .int p2, .int p3] (qI D 6 ad (dE T ad) (pI (f_X9_setTimer σ p1 p2 p3) InvD)) := by
  refine mX.of (own := "NestedBellsModel") (by decide +kernel) (Nat.le_of_ble_eq_true rfl) rfl ?_
  intro p e s m below meth c A ls H locs Z hr hlk _ hw hl
  have hx := Z.1.1
  have hb := Z.1.2.1
  have hl : lv_has ls 4 [(0, .ref (ad 0)), (1, .int p1), (2, .int p2), (3, .int p3)] := hl
  refine lv_aload_n hx hb dX9_setTimer_0 rfl (lv_at hl 0 rfl) ?_
  refine lv_aload_n hx hb dX9_setTimer_1 rfl (lv_at hl 0 rfl) ?_
  refine lv_iload_n hx hb dX9_setTimer_2 rfl (lv_at hl 1 rfl) ?_
  refine lv_iload_n hx hb dX9_setTimer_3 rfl (lv_at hl 2 rfl) ?_
  refine lv_iload_n hx hb dX9_setTimer_4 rfl (lv_at hl 3 rfl) ?_
  refine bk_ip (rnV (rest := [.ref (ad 0)]) Z hw (k_X9_badTimer (p1 := p1) (p2 := p2) (p3 := p3) I0) v_X9_badTimer q_5_86 (0) (by decide) rfl rfl rfl rfl hl.1 rfl rfl (Nat.le_of_ble_eq_true rfl) ⟨(Nat.le_of_ble_eq_true rfl), (Nat.le_of_ble_eq_true rfl)⟩ ⟨(Nat.le_of_ble_eq_true rfl), (Nat.le_of_ble_eq_true rfl)⟩ dX9_setTimer_5) hw Z (fun r5 er5 H locs hw => ?_)
  refine bk_i (rnV (rest := []) Z hw (k_X9_refused (p1 := r5) I0) v_X9_refused q_5_17 (0) (by decide) rfl rfl rfl rfl hl.1 rfl rfl (Nat.le_of_ble_eq_true rfl) ⟨(Nat.le_of_ble_eq_true rfl), (Nat.le_of_ble_eq_true rfl)⟩ ⟨(Nat.le_of_ble_eq_true rfl), (Nat.le_of_ble_eq_true rfl)⟩ dX9_setTimer_8) hw Z (fun r8 s8 H locs hp hw => ?_)
  obtain ⟨er8, es8, I8⟩ := hp
  refine lv_if_eq (tgt := 16) hx hb dX9_setTimer_11 (by decide) (fun c11 => ?_) (fun c11 => ?_)
  · have hs := bt_S I0 er5 (ref0 er8 c11)
    refine lv_aload_n hx hb dX9_setTimer_16 rfl (lv_at hl 0 rfl) ?_
    refine bk_v (rnV (rest := []) Z hw (k_X9_saves  I8) v_X9_saves q_5_32 (0) (by decide) rfl rfl rfl rfl hl.1 rfl rfl (Nat.le_of_ble_eq_true rfl) ⟨(Nat.le_of_ble_eq_true rfl), (Nat.le_of_ble_eq_true rfl)⟩ ⟨(Nat.le_of_ble_eq_true rfl), (Nat.le_of_ble_eq_true rfl)⟩ dX9_setTimer_17) hw Z (fun s17 H locs hp hw => ?_)
    obtain ⟨es17, I17⟩ := hp
    refine lv_aload_n hx hb dX9_setTimer_20 rfl (lv_at hl 0 rfl) ?_
    refine lv_iload_n hx hb dX9_setTimer_21 rfl (lv_at hl 1 rfl) ?_
    refine lv_iload_n hx hb dX9_setTimer_22 rfl (lv_at hl 2 rfl) ?_
    refine lv_iload_n hx hb dX9_setTimer_23 rfl (lv_at hl 3 rfl) ?_
    refine bk_i (rnV (rest := []) Z hw (k_X9_times (p1 := p1) (p2 := p2) (p3 := p3) I17 hs) v_X9_times q_5_90 (0) (by decide) rfl rfl rfl rfl hl.1 rfl rfl (Nat.le_of_ble_eq_true rfl) ⟨(Nat.le_of_ble_eq_true rfl), (Nat.le_of_ble_eq_true rfl)⟩ ⟨(Nat.le_of_ble_eq_true rfl), (Nat.le_of_ble_eq_true rfl)⟩ dX9_setTimer_24) hw Z (fun r24 s24 H locs hp hw => ?_)
    obtain ⟨er24, es24, I24⟩ := hp
    exact rt_i Z hr hlk hw dX9_setTimer_27 (pI.mk (by subst es24 er24 es17 es8 er8 er5; exact (lf_t c11 rfl)) I24)
  · refine lv_iconst (v := 0) hx hb dX9_setTimer_14 (by decide +kernel) ?_
    exact rt_i Z hr hlk hw dX9_setTimer_15 (pI.mk (by subst es8 er8 er5; exact (lf_f c11 rfl)) I8)
abbrev rmX9_raise : Room := { frames := 3, cells := 0, slots := 0, locals := 64 }
def f_X9_raise (σ : St) (p1 : Int32) : Int32 × St := (let r3 := f_X9_badRaise σ p1; (let r6 := f_X9_without r3; (let r9 := (f_X9_refused σ r6).1; let s9 := (f_X9_refused σ r6).2; (if r9 = 0 then (let s18 := f_X9_saves s9; (let r23 := (f_X9_raises s18 p1).1; let s23 := (f_X9_raises s18 p1).2; (r23, s23))) else (0, s9)))))
theorem v_X9_raise : cvV yX9_raise "NestedBellsModel" cX9_raise 2 (some (.int)) 1 := ⟨q_5_95, q_5_96, q_1_10, q_5_97, rfl, by decide +kernel, by decide +kernel, by decide +kernel⟩
set_option maxHeartbeats 4000000 in
set_option maxRecDepth 100000 in
theorem k_X9_raise {l : Launch} {D : va_G} {T : Nat → ClassId} {g ad : Nat → Nat} {σ : St} {p1 : Int32} (I0 : InvD σ) : mX l yX9_raise cX9_raise 2 (some (.int)) rmX9_raise D T g 6 ad (cE (dE T ad) σ) [.ref (ad 0), .int p1] (qI D 6 ad (dE T ad) (pI (f_X9_raise σ p1) InvD)) := by
  refine mX.of (own := "NestedBellsModel") (by decide +kernel) (Nat.le_of_ble_eq_true rfl) rfl ?_
  intro p e s m below meth c A ls H locs Z hr hlk _ hw hl
  have hx := Z.1.1
  have hb := Z.1.2.1
  have hl : lv_has ls 2 [(0, .ref (ad 0)), (1, .int p1)] := hl
  refine lv_aload_n hx hb dX9_raise_0 rfl (lv_at hl 0 rfl) ?_
  refine lv_aload_n hx hb dX9_raise_1 rfl (lv_at hl 0 rfl) ?_
  refine lv_iload_n hx hb dX9_raise_2 rfl (lv_at hl 1 rfl) ?_
  refine bk_ip (rnV (rest := [.ref (ad 0)]) Z hw (k_X9_badRaise (p1 := p1) I0) v_X9_badRaise q_5_98 (0) (by decide) rfl rfl rfl rfl hl.1 rfl rfl (Nat.le_of_ble_eq_true rfl) ⟨(Nat.le_of_ble_eq_true rfl), (Nat.le_of_ble_eq_true rfl)⟩ ⟨(Nat.le_of_ble_eq_true rfl), (Nat.le_of_ble_eq_true rfl)⟩ dX9_raise_3) hw Z (fun r3 er3 H locs hw => ?_)
  refine bk_ip (rnS (rest := [.ref (ad 0)]) Z hw (k_X9_without (p1 := r3) ) v_X9_without rfl q_5_102 hl.1 rfl rfl (Nat.le_of_ble_eq_true rfl) ⟨(Nat.le_of_ble_eq_true rfl), (Nat.le_of_ble_eq_true rfl)⟩ ⟨(Nat.le_of_ble_eq_true rfl), (Nat.le_of_ble_eq_true rfl)⟩ dX9_raise_6) hw Z (fun r6 er6 H locs hw => ?_)
  refine bk_i (rnV (rest := []) Z hw (k_X9_refused (p1 := r6) I0) v_X9_refused q_5_17 (0) (by decide) rfl rfl rfl rfl hl.1 rfl rfl (Nat.le_of_ble_eq_true rfl) ⟨(Nat.le_of_ble_eq_true rfl), (Nat.le_of_ble_eq_true rfl)⟩ ⟨(Nat.le_of_ble_eq_true rfl), (Nat.le_of_ble_eq_true rfl)⟩ dX9_raise_9) hw Z (fun r9 s9 H locs hp hw => ?_)
  obtain ⟨er9, es9, I9⟩ := hp
  refine lv_if_eq (tgt := 17) hx hb dX9_raise_12 (by decide) (fun c12 => ?_) (fun c12 => ?_)
  · have hs := br_S I0 er3 er6 (ref0 er9 c12)
    refine lv_aload_n hx hb dX9_raise_17 rfl (lv_at hl 0 rfl) ?_
    refine bk_v (rnV (rest := []) Z hw (k_X9_saves  I9) v_X9_saves q_5_32 (0) (by decide) rfl rfl rfl rfl hl.1 rfl rfl (Nat.le_of_ble_eq_true rfl) ⟨(Nat.le_of_ble_eq_true rfl), (Nat.le_of_ble_eq_true rfl)⟩ ⟨(Nat.le_of_ble_eq_true rfl), (Nat.le_of_ble_eq_true rfl)⟩ dX9_raise_18) hw Z (fun s18 H locs hp hw => ?_)
    obtain ⟨es18, I18⟩ := hp
    refine lv_aload_n hx hb dX9_raise_21 rfl (lv_at hl 0 rfl) ?_
    refine lv_iload_n hx hb dX9_raise_22 rfl (lv_at hl 1 rfl) ?_
    refine bk_i (rnV (rest := []) Z hw (k_X9_raises (p1 := p1) I18 hs) v_X9_raises q_5_105 (0) (by decide) rfl rfl rfl rfl hl.1 rfl rfl (Nat.le_of_ble_eq_true rfl) ⟨(Nat.le_of_ble_eq_true rfl), (Nat.le_of_ble_eq_true rfl)⟩ ⟨(Nat.le_of_ble_eq_true rfl), (Nat.le_of_ble_eq_true rfl)⟩ dX9_raise_23) hw Z (fun r23 s23 H locs hp hw => ?_)
    obtain ⟨er23, es23, I23⟩ := hp
    exact rt_i Z hr hlk hw dX9_raise_26 (pI.mk (by subst es23 er23 es18 es9 er9 er6 er3; exact (lf_t c12 rfl)) I23)
  · refine lv_iconst (v := 0) hx hb dX9_raise_15 (by decide +kernel) ?_
    exact rt_i Z hr hlk hw dX9_raise_16 (pI.mk (by subst es9 er9 er6 er3; exact (lf_f c12 rfl)) I9)
abbrev rmX9_setLine : Room := { frames := 3, cells := 0, slots := 0, locals := 64 }
def f_X9_setLine (σ : St) (p1 : Int32) (p2 : Int32) : Int32 × St := (let r3 := f_X9_badLine σ p1; (let r6 := f_X9_without r3; (let r9 := (f_X9_refused σ r6).1; let s9 := (f_X9_refused σ r6).2; (if r9 = 0 then (let s18 := f_X9_saves s9; (let r24 := (f_X9_lines s18 p1 p2).1; let s24 := (f_X9_lines s18 p1 p2).2; (r24, s24))) else (0, s9)))))
theorem v_X9_setLine : cvV yX9_setLine "NestedBellsModel" cX9_setLine 3 (some (.int)) 2 := ⟨q_5_114, q_5_115, q_1_10, q_5_116, rfl, by decide +kernel, by decide +kernel, by decide +kernel⟩
set_option maxHeartbeats 4000000 in
set_option maxRecDepth 100000 in
theorem k_X9_setLine {l : Launch} {D : va_G} {T : Nat → ClassId} {g ad : Nat → Nat} {σ : St} {p1 : Int32} {p2 : Int32} (I0 : InvD σ) (hz2 : zb p2 = p2) : mX l yX9_setLine cX9_setLine 3 (some (.int)) rmX9_setLine D T g 6 ad (cE (dE T ad) σ) [.ref (ad 0), .int p1, .int p2] (qI D 6 ad (dE T ad) (pI (f_X9_setLine σ p1 p2) InvD)) := by
  refine mX.of (own := "NestedBellsModel") (by decide +kernel) (Nat.le_of_ble_eq_true rfl) rfl ?_
  intro p e s m below meth c A ls H locs Z hr hlk _ hw hl
  have hx := Z.1.1
  have hb := Z.1.2.1
  have hl : lv_has ls 3 [(0, .ref (ad 0)), (1, .int p1), (2, .int p2)] := hl
  refine lv_aload_n hx hb dX9_setLine_0 rfl (lv_at hl 0 rfl) ?_
  refine lv_aload_n hx hb dX9_setLine_1 rfl (lv_at hl 0 rfl) ?_
  refine lv_iload_n hx hb dX9_setLine_2 rfl (lv_at hl 1 rfl) ?_
  refine bk_ip (rnV (rest := [.ref (ad 0)]) Z hw (k_X9_badLine (p1 := p1) I0) v_X9_badLine q_5_117 (0) (by decide) rfl rfl rfl rfl hl.1 rfl rfl (Nat.le_of_ble_eq_true rfl) ⟨(Nat.le_of_ble_eq_true rfl), (Nat.le_of_ble_eq_true rfl)⟩ ⟨(Nat.le_of_ble_eq_true rfl), (Nat.le_of_ble_eq_true rfl)⟩ dX9_setLine_3) hw Z (fun r3 er3 H locs hw => ?_)
  refine bk_ip (rnS (rest := [.ref (ad 0)]) Z hw (k_X9_without (p1 := r3) ) v_X9_without rfl q_5_102 hl.1 rfl rfl (Nat.le_of_ble_eq_true rfl) ⟨(Nat.le_of_ble_eq_true rfl), (Nat.le_of_ble_eq_true rfl)⟩ ⟨(Nat.le_of_ble_eq_true rfl), (Nat.le_of_ble_eq_true rfl)⟩ dX9_setLine_6) hw Z (fun r6 er6 H locs hw => ?_)
  refine bk_i (rnV (rest := []) Z hw (k_X9_refused (p1 := r6) I0) v_X9_refused q_5_17 (0) (by decide) rfl rfl rfl rfl hl.1 rfl rfl (Nat.le_of_ble_eq_true rfl) ⟨(Nat.le_of_ble_eq_true rfl), (Nat.le_of_ble_eq_true rfl)⟩ ⟨(Nat.le_of_ble_eq_true rfl), (Nat.le_of_ble_eq_true rfl)⟩ dX9_setLine_9) hw Z (fun r9 s9 H locs hp hw => ?_)
  obtain ⟨er9, es9, I9⟩ := hp
  refine lv_if_eq (tgt := 17) hx hb dX9_setLine_12 (by decide) (fun c12 => ?_) (fun c12 => ?_)
  · have hs := bl_S I0 er3 er6 (ref0 er9 c12)
    refine lv_aload_n hx hb dX9_setLine_17 rfl (lv_at hl 0 rfl) ?_
    refine bk_v (rnV (rest := []) Z hw (k_X9_saves  I9) v_X9_saves q_5_32 (0) (by decide) rfl rfl rfl rfl hl.1 rfl rfl (Nat.le_of_ble_eq_true rfl) ⟨(Nat.le_of_ble_eq_true rfl), (Nat.le_of_ble_eq_true rfl)⟩ ⟨(Nat.le_of_ble_eq_true rfl), (Nat.le_of_ble_eq_true rfl)⟩ dX9_setLine_18) hw Z (fun s18 H locs hp hw => ?_)
    obtain ⟨es18, I18⟩ := hp
    refine lv_aload_n hx hb dX9_setLine_21 rfl (lv_at hl 0 rfl) ?_
    refine lv_iload_n hx hb dX9_setLine_22 rfl (lv_at hl 1 rfl) ?_
    refine lv_iload_n hx hb dX9_setLine_23 rfl (lv_at hl 2 rfl) ?_
    refine bk_i (rnV (rest := []) Z hw (k_X9_lines (p1 := p1) (p2 := p2) I18 hz2 hs) v_X9_lines q_5_121 (0) (by decide) rfl rfl rfl rfl hl.1 rfl rfl (Nat.le_of_ble_eq_true rfl) ⟨(Nat.le_of_ble_eq_true rfl), (Nat.le_of_ble_eq_true rfl)⟩ ⟨(Nat.le_of_ble_eq_true rfl), (Nat.le_of_ble_eq_true rfl)⟩ dX9_setLine_24) hw Z (fun r24 s24 H locs hp hw => ?_)
    obtain ⟨er24, es24, I24⟩ := hp
    exact rt_i Z hr hlk hw dX9_setLine_27 (pI.mk (by subst es24 er24 es18 es9 er9 er6 er3; exact (lf_t c12 rfl)) I24)
  · refine lv_iconst (v := 0) hx hb dX9_setLine_15 (by decide +kernel) ?_
    exact rt_i Z hr hlk hw dX9_setLine_16 (pI.mk (by subst es9 er9 er6 er3; exact (lf_f c12 rfl)) I9)
abbrev rmX9_set : Room := { frames := 2, cells := 0, slots := 0, locals := 43 }
def f_X9_set (σ : St) (p1 : Int32) (p2 : Int32) : Int32 × St := (let r3 := f_X9_badSet p1 p2; (let v14 : Int32 := (if r3 ≤ 0 then 0 else 1); (let r14 := (f_X9_refused σ v14).1; let s14 := (f_X9_refused σ v14).2; (if r14 = 0 then (let s23 := f_X9_saves s14; (let r29 := (f_X9_sets s23 p1 p2).1; let s29 := (f_X9_sets s23 p1 p2).2; (r29, s29))) else (0, s14)))))
theorem v_X9_set : cvV yX9_set "NestedBellsModel" cX9_set 3 (some (.int)) 2 := ⟨q_5_126, q_5_127, q_1_10, q_5_128, rfl, by decide +kernel, by decide +kernel, by decide +kernel⟩
set_option maxHeartbeats 4000000 in
set_option maxRecDepth 100000 in
theorem k_X9_set {l : Launch} {D : va_G} {T : Nat → ClassId} {g ad : Nat → Nat} {σ : St} {p1 : Int32} {p2 : Int32} (I0 : InvD σ) : mX l yX9_set cX9_set 3 (some (.int)) rmX9_set D T g 6 ad (cE (dE T ad) σ) [.ref (ad 0), .int p1, .int p2] (qI D 6 ad (dE T ad) (pI (f_X9_set σ p1 p2) InvD)) := by
  refine mX.of (own := "NestedBellsModel") (by decide +kernel) (Nat.le_of_ble_eq_true rfl) rfl ?_
  intro p e s m below meth c A ls H locs Z hr hlk _ hw hl
  have hx := Z.1.1
  have hb := Z.1.2.1
  have hl : lv_has ls 3 [(0, .ref (ad 0)), (1, .int p1), (2, .int p2)] := hl
  refine lv_aload_n hx hb dX9_set_0 rfl (lv_at hl 0 rfl) ?_
  refine lv_iload_n hx hb dX9_set_1 rfl (lv_at hl 1 rfl) ?_
  refine lv_iload_n hx hb dX9_set_2 rfl (lv_at hl 2 rfl) ?_
  refine bk_ip (rnS (rest := [.ref (ad 0)]) Z hw (k_X9_badSet (p1 := p1) (p2 := p2) ) v_X9_badSet rfl q_5_129 hl.1 rfl rfl (Nat.le_of_ble_eq_true rfl) ⟨(Nat.le_of_ble_eq_true rfl), (Nat.le_of_ble_eq_true rfl)⟩ ⟨(Nat.le_of_ble_eq_true rfl), (Nat.le_of_ble_eq_true rfl)⟩ dX9_set_3) hw Z (fun r3 er3 H locs hw => ?_)
  have hj14 : ∀ (v14 : Int32) (H : Heap) (locs : List Loc) (ls : Array Slot), ((if r3 ≤ 0 then 0 else 1) : Int32) = v14 → wo D A s.heap 6 ad (cE (dE T ad) σ) H locs → lv_has ls 3 [(0, .ref (ad 0)), (1, .int p1), (2, .int p2)] → W p l e rmX9_set s m [.ref (ad 0), .int p1, .int p2].toArray below meth c H locs 0 0 (MQ below (qI D 6 ad (dE T ad) (pI (f_X9_set σ p1 p2) InvD) A) [.ref (ad 0), .int p1, .int p2].toArray s rmX9_set.cells rmX9_set.slots A) (F0 m 14 ls [.int v14, .ref (ad 0)]) := by
    intro v14 H locs ls ev14 hw hl
    refine bk_i (rnV (rest := []) Z hw (k_X9_refused (p1 := v14) I0) v_X9_refused q_5_17 (0) (by decide) rfl rfl rfl rfl hl.1 rfl rfl (Nat.le_of_ble_eq_true rfl) ⟨(Nat.le_of_ble_eq_true rfl), (Nat.le_of_ble_eq_true rfl)⟩ ⟨(Nat.le_of_ble_eq_true rfl), (Nat.le_of_ble_eq_true rfl)⟩ dX9_set_14) hw Z (fun r14 s14 H locs hp hw => ?_)
    obtain ⟨er14, es14, I14⟩ := hp
    refine lv_if_eq (tgt := 22) hx hb dX9_set_17 (by decide) (fun c17 => ?_) (fun c17 => ?_)
    · have h4 := set_4 er3 ev14 (ref0 er14 c17)
      refine lv_aload_n hx hb dX9_set_22 rfl (lv_at hl 0 rfl) ?_
      refine bk_v (rnV (rest := []) Z hw (k_X9_saves  I14) v_X9_saves q_5_32 (0) (by decide) rfl rfl rfl rfl hl.1 rfl rfl (Nat.le_of_ble_eq_true rfl) ⟨(Nat.le_of_ble_eq_true rfl), (Nat.le_of_ble_eq_true rfl)⟩ ⟨(Nat.le_of_ble_eq_true rfl), (Nat.le_of_ble_eq_true rfl)⟩ dX9_set_23) hw Z (fun s23 H locs hp hw => ?_)
      obtain ⟨es23, I23⟩ := hp
      refine lv_aload_n hx hb dX9_set_26 rfl (lv_at hl 0 rfl) ?_
      refine lv_iload_n hx hb dX9_set_27 rfl (lv_at hl 1 rfl) ?_
      refine lv_iload_n hx hb dX9_set_28 rfl (lv_at hl 2 rfl) ?_
      refine bk_i (rnV (rest := []) Z hw (k_X9_sets (p1 := p1) (p2 := p2) I23 h4) v_X9_sets q_5_132 (0) (by decide) rfl rfl rfl rfl hl.1 rfl rfl (Nat.le_of_ble_eq_true rfl) ⟨(Nat.le_of_ble_eq_true rfl), (Nat.le_of_ble_eq_true rfl)⟩ ⟨(Nat.le_of_ble_eq_true rfl), (Nat.le_of_ble_eq_true rfl)⟩ dX9_set_29) hw Z (fun r29 s29 H locs hp hw => ?_)
      obtain ⟨er29, es29, I29⟩ := hp
      exact rt_i Z hr hlk hw dX9_set_32 (pI.mk (by subst es29 er29 es23 es14 er14 ev14 er3; exact (lf_t c17 rfl)) I29)
    · refine lv_iconst (v := 0) hx hb dX9_set_20 (by decide +kernel) ?_
      exact rt_i Z hr hlk hw dX9_set_21 (pI.mk (by subst es14 er14 ev14 er3; exact (lf_f c17 rfl)) I14)
  refine lv_if_le (tgt := 13) hx hb dX9_set_6 (by decide) (fun c6 => ?_) (fun c6 => ?_)
  · refine lv_iconst (v := 0) hx hb dX9_set_13 (by decide +kernel) ?_
    exact hj14 _ H locs ls (Eq.symm (lf_t c6 rfl)) hw (lv_sub hl [0, 1, 2] rfl)
  · refine lv_iconst (v := 1) hx hb dX9_set_9 (by decide +kernel) ?_
    refine lv_goto (tgt := 14) hx hb dX9_set_10 (by decide) ?_
    exact hj14 _ H locs ls (Eq.symm (lf_f c6 rfl)) hw (lv_sub hl [0, 1, 2] rfl)
abbrev rmX9_run : Room := { frames := 9, cells := 0, slots := 0, locals := 201 }
def f_X9_run (σ : St) (p1 : Int32) : Int32 × St := (let r2 := f_X9_badRun p1; (let v13 : Int32 := (if r2 ≤ 0 then 0 else 1); (let r13 := (f_X9_refused σ v13).1; let s13 := (f_X9_refused σ v13).2; (if r13 = 0 then (let s22 := f_X9_saves s13; (let r27 := (f_X9_runs s22 p1).1; let s27 := (f_X9_runs s22 p1).2; (r27, s27))) else (0, s13)))))
theorem v_X9_run : cvV yX9_run "NestedBellsModel" cX9_run 2 (some (.int)) 1 := ⟨q_5_137, q_5_138, q_1_10, q_5_139, rfl, by decide +kernel, by decide +kernel, by decide +kernel⟩
set_option maxHeartbeats 4000000 in
set_option maxRecDepth 100000 in
theorem k_X9_run {l : Launch} {D : va_G} {T : Nat → ClassId} {g ad : Nat → Nat} {σ : St} {p1 : Int32} (I0 : InvD σ) : mX l yX9_run cX9_run 2 (some (.int)) rmX9_run D T g 6 ad (cE (dE T ad) σ) [.ref (ad 0), .int p1] (qI D 6 ad (dE T ad) (pI (f_X9_run σ p1) InvD)) := by
  refine mX.of (own := "NestedBellsModel") (by decide +kernel) (Nat.le_of_ble_eq_true rfl) rfl ?_
  intro p e s m below meth c A ls H locs Z hr hlk _ hw hl
  have hx := Z.1.1
  have hb := Z.1.2.1
  have hl : lv_has ls 2 [(0, .ref (ad 0)), (1, .int p1)] := hl
  refine lv_aload_n hx hb dX9_run_0 rfl (lv_at hl 0 rfl) ?_
  refine lv_iload_n hx hb dX9_run_1 rfl (lv_at hl 1 rfl) ?_
  refine bk_ip (rnS (rest := [.ref (ad 0)]) Z hw (k_X9_badRun (p1 := p1) ) v_X9_badRun rfl q_5_140 hl.1 rfl rfl (Nat.le_of_ble_eq_true rfl) ⟨(Nat.le_of_ble_eq_true rfl), (Nat.le_of_ble_eq_true rfl)⟩ ⟨(Nat.le_of_ble_eq_true rfl), (Nat.le_of_ble_eq_true rfl)⟩ dX9_run_2) hw Z (fun r2 er2 H locs hw => ?_)
  have hj13 : ∀ (v13 : Int32) (H : Heap) (locs : List Loc) (ls : Array Slot), ((if r2 ≤ 0 then 0 else 1) : Int32) = v13 → wo D A s.heap 6 ad (cE (dE T ad) σ) H locs → lv_has ls 2 [(0, .ref (ad 0)), (1, .int p1)] → W p l e rmX9_run s m [.ref (ad 0), .int p1].toArray below meth c H locs 0 0 (MQ below (qI D 6 ad (dE T ad) (pI (f_X9_run σ p1) InvD) A) [.ref (ad 0), .int p1].toArray s rmX9_run.cells rmX9_run.slots A) (F0 m 13 ls [.int v13, .ref (ad 0)]) := by
    intro v13 H locs ls ev13 hw hl
    refine bk_i (rnV (rest := []) Z hw (k_X9_refused (p1 := v13) I0) v_X9_refused q_5_17 (0) (by decide) rfl rfl rfl rfl hl.1 rfl rfl (Nat.le_of_ble_eq_true rfl) ⟨(Nat.le_of_ble_eq_true rfl), (Nat.le_of_ble_eq_true rfl)⟩ ⟨(Nat.le_of_ble_eq_true rfl), (Nat.le_of_ble_eq_true rfl)⟩ dX9_run_13) hw Z (fun r13 s13 H locs hp hw => ?_)
    obtain ⟨er13, es13, I13⟩ := hp
    refine lv_if_eq (tgt := 21) hx hb dX9_run_16 (by decide) (fun c16 => ?_) (fun c16 => ?_)
    · refine lv_aload_n hx hb dX9_run_21 rfl (lv_at hl 0 rfl) ?_
      refine bk_v (rnV (rest := []) Z hw (k_X9_saves  I13) v_X9_saves q_5_32 (0) (by decide) rfl rfl rfl rfl hl.1 rfl rfl (Nat.le_of_ble_eq_true rfl) ⟨(Nat.le_of_ble_eq_true rfl), (Nat.le_of_ble_eq_true rfl)⟩ ⟨(Nat.le_of_ble_eq_true rfl), (Nat.le_of_ble_eq_true rfl)⟩ dX9_run_22) hw Z (fun s22 H locs hp hw => ?_)
      obtain ⟨es22, I22⟩ := hp
      refine lv_aload_n hx hb dX9_run_25 rfl (lv_at hl 0 rfl) ?_
      refine lv_iload_n hx hb dX9_run_26 rfl (lv_at hl 1 rfl) ?_
      refine bk_i (rnV (rest := []) Z hw (k_X9_runs (p1 := p1) I22 (run_5 er2 ev13 (ref0 er13 c16))) v_X9_runs q_5_143 (0) (by decide) rfl rfl rfl rfl hl.1 rfl rfl (Nat.le_of_ble_eq_true rfl) ⟨(Nat.le_of_ble_eq_true rfl), (Nat.le_of_ble_eq_true rfl)⟩ ⟨(Nat.le_of_ble_eq_true rfl), (Nat.le_of_ble_eq_true rfl)⟩ dX9_run_27) hw Z (fun r27 s27 H locs hp hw => ?_)
      obtain ⟨er27, es27, I27⟩ := hp
      exact rt_i Z hr hlk hw dX9_run_30 (pI.mk (by subst es27 er27 es22 es13 er13 ev13 er2; exact (lf_t c16 rfl)) I27)
    · refine lv_iconst (v := 0) hx hb dX9_run_19 (by decide +kernel) ?_
      exact rt_i Z hr hlk hw dX9_run_20 (pI.mk (by subst es13 er13 ev13 er2; exact (lf_f c16 rfl)) I13)
  refine lv_if_le (tgt := 12) hx hb dX9_run_5 (by decide) (fun c5 => ?_) (fun c5 => ?_)
  · refine lv_iconst (v := 0) hx hb dX9_run_12 (by decide +kernel) ?_
    exact hj13 _ H locs ls (Eq.symm (lf_t c5 rfl)) hw (lv_sub hl [0, 1] rfl)
  · refine lv_iconst (v := 1) hx hb dX9_run_8 (by decide +kernel) ?_
    refine lv_goto (tgt := 13) hx hb dX9_run_9 (by decide) ?_
    exact hj13 _ H locs ls (Eq.symm (lf_f c5 rfl)) hw (lv_sub hl [0, 1] rfl)
abbrev rmX9_source : Room := { frames := 8, cells := 0, slots := 0, locals := 178 }
def f_X9_source (σ : St) (p1 : Int32) (p2 : Int32) : Int32 × St := (let r3 := f_X9_isSource σ p1; (let v28 : Int32 := (if r3 = 0 then 1 else (let r17 := f_X9_in p2 0 16; (if r17 = 0 then 2 else 0))); (let r28 := (f_X9_refused σ v28).1; let s28 := (f_X9_refused σ v28).2; (if r28 = 0 then (let r41 := f_X9_tellSource s28 p1 p2; (r41, s28)) else (0, s28)))))
theorem v_X9_source : cvV yX9_source "NestedBellsModel" cX9_source 3 (some (.int)) 2 := ⟨q_5_199, q_5_200, q_1_10, q_5_201, rfl, by decide +kernel, by decide +kernel, by decide +kernel⟩
set_option maxHeartbeats 4000000 in
set_option maxRecDepth 100000 in
theorem k_X9_source {l : Launch} {D : va_G} {T : Nat → ClassId} {g ad : Nat → Nat} {σ : St} {p1 : Int32} {p2 : Int32} (I0 : InvD σ) : mX l yX9_source cX9_source 3 (some (.int)) rmX9_source D T g 6 ad (cE (dE T ad) σ) [.ref (ad 0), .int p1, .int p2] (qI D 6 ad (dE T ad) (pI (f_X9_source σ p1 p2) InvD)) := by
  refine mX.of (own := "NestedBellsModel") (by decide +kernel) (Nat.le_of_ble_eq_true rfl) rfl ?_
  intro p e s m below meth c A ls H locs Z hr hlk _ hw hl
  have hx := Z.1.1
  have hb := Z.1.2.1
  have hl : lv_has ls 3 [(0, .ref (ad 0)), (1, .int p1), (2, .int p2)] := hl
  refine lv_aload_n hx hb dX9_source_0 rfl (lv_at hl 0 rfl) ?_
  refine lv_aload_n hx hb dX9_source_1 rfl (lv_at hl 0 rfl) ?_
  refine lv_iload_n hx hb dX9_source_2 rfl (lv_at hl 1 rfl) ?_
  refine bk_ip (rnV (rest := [.ref (ad 0)]) Z hw (k_X9_isSource (p1 := p1) I0) v_X9_isSource q_5_47 (0) (by decide) rfl rfl rfl rfl hl.1 rfl rfl (Nat.le_of_ble_eq_true rfl) ⟨(Nat.le_of_ble_eq_true rfl), (Nat.le_of_ble_eq_true rfl)⟩ ⟨(Nat.le_of_ble_eq_true rfl), (Nat.le_of_ble_eq_true rfl)⟩ dX9_source_3) hw Z (fun r3 er3 H locs hw => ?_)
  have hj28 : ∀ (v28 : Int32) (H : Heap) (locs : List Loc) (ls : Array Slot), ((if r3 = 0 then 1 else (let r17 := f_X9_in p2 0 16; (if r17 = 0 then 2 else 0))) : Int32) = v28 → wo D A s.heap 6 ad (cE (dE T ad) σ) H locs → lv_has ls 3 [(0, .ref (ad 0)), (1, .int p1), (2, .int p2)] → W p l e rmX9_source s m [.ref (ad 0), .int p1, .int p2].toArray below meth c H locs 0 0 (MQ below (qI D 6 ad (dE T ad) (pI (f_X9_source σ p1 p2) InvD) A) [.ref (ad 0), .int p1, .int p2].toArray s rmX9_source.cells rmX9_source.slots A) (F0 m 28 ls [.int v28, .ref (ad 0)]) := by
    intro v28 H locs ls ev28 hw hl
    refine bk_i (rnV (rest := []) Z hw (k_X9_refused (p1 := v28) I0) v_X9_refused q_5_17 (0) (by decide) rfl rfl rfl rfl hl.1 rfl rfl (Nat.le_of_ble_eq_true rfl) ⟨(Nat.le_of_ble_eq_true rfl), (Nat.le_of_ble_eq_true rfl)⟩ ⟨(Nat.le_of_ble_eq_true rfl), (Nat.le_of_ble_eq_true rfl)⟩ dX9_source_28) hw Z (fun r28 s28 H locs hp hw => ?_)
    obtain ⟨er28, es28, I28⟩ := hp
    refine lv_if_eq (tgt := 38) hx hb dX9_source_31 (by decide) (fun c31 => ?_) (fun c31 => ?_)
    · have hs := src_rng12 I0 er3 (tree_ne ev28 (by decide) (ref0 er28 c31))
      obtain ⟨q17, eq17, nq17⟩ := tree2 ev28 (ref0 er28 c31)
      have h17 := in0 (n := 17) eq17 nq17 (by decide)
      refine lv_aload_n hx hb dX9_source_38 rfl (lv_at hl 0 rfl) ?_
      refine lv_iload_n hx hb dX9_source_39 rfl (lv_at hl 1 rfl) ?_
      refine lv_iload_n hx hb dX9_source_40 rfl (lv_at hl 2 rfl) ?_
      refine bk_ip (rnV (rest := []) Z hw (k_X9_tellSource (p1 := p1) (p2 := p2) I28 hs h17) v_X9_tellSource q_5_202 (0) (by decide) rfl rfl rfl rfl hl.1 rfl rfl (Nat.le_of_ble_eq_true rfl) ⟨(Nat.le_of_ble_eq_true rfl), (Nat.le_of_ble_eq_true rfl)⟩ ⟨(Nat.le_of_ble_eq_true rfl), (Nat.le_of_ble_eq_true rfl)⟩ dX9_source_41) hw Z (fun r41 er41 H locs hw => ?_)
      exact rt_i Z hr hlk hw dX9_source_44 (pI.mk (by subst er41 es28 er28 ev28 er3; exact (lf_t c31 rfl)) I28)
    · refine lv_iconst (v := 0) hx hb dX9_source_34 (by decide +kernel) ?_
      refine lv_goto (tgt := 44) hx hb dX9_source_35 (by decide) ?_
      exact rt_i Z hr hlk hw dX9_source_44 (pI.mk (by subst es28 er28 ev28 er3; exact (lf_f c31 rfl)) I28)
  refine lv_if_ne (tgt := 13) hx hb dX9_source_6 (by decide) (fun c6 => ?_) (fun c6 => ?_)
  · refine lv_iload_n hx hb dX9_source_13 rfl (lv_at hl 2 rfl) ?_
    refine lv_iconst (v := 0) hx hb dX9_source_14 (by decide +kernel) ?_
    refine lv_bipush (v := 16) hx hb dX9_source_15 (by decide +kernel) ?_
    refine bk_ip (rnS (rest := [.ref (ad 0)]) Z hw (k_X9_in (p1 := p2) (p2 := 0) (p3 := 16) ) v_X9_in rfl q_5_29 hl.1 rfl rfl (Nat.le_of_ble_eq_true rfl) ⟨(Nat.le_of_ble_eq_true rfl), (Nat.le_of_ble_eq_true rfl)⟩ ⟨(Nat.le_of_ble_eq_true rfl), (Nat.le_of_ble_eq_true rfl)⟩ dX9_source_17) hw Z (fun r17 er17 H locs hw => ?_)
    refine lv_if_eq (tgt := 27) hx hb dX9_source_20 (by decide) (fun c20 => ?_) (fun c20 => ?_)
    · refine lv_iconst (v := 2) hx hb dX9_source_27 (by decide +kernel) ?_
      exact hj28 _ H locs ls (Eq.symm (by subst er17; exact (lf_f c6 (lf_t c20 rfl)))) hw (lv_sub hl [0, 1, 2] rfl)
    · refine lv_iconst (v := 0) hx hb dX9_source_23 (by decide +kernel) ?_
      refine lv_goto (tgt := 28) hx hb dX9_source_24 (by decide) ?_
      exact hj28 _ H locs ls (Eq.symm (by subst er17; exact (lf_f c6 (lf_f c20 rfl)))) hw (lv_sub hl [0, 1, 2] rfl)
  · refine lv_iconst (v := 1) hx hb dX9_source_9 (by decide +kernel) ?_
    refine lv_goto (tgt := 28) hx hb dX9_source_10 (by decide) ?_
    exact hj28 _ H locs ls (Eq.symm (lf_t c6 rfl)) hw (lv_sub hl [0, 1, 2] rfl)
abbrev rmX9_section : Room := { frames := 4, cells := 0, slots := 0, locals := 88 }
def f_X9_section (σ : St) (p1 : Int32) (p2 : Int32) (p3 : Int32) : Int32 × St := (let r2 := f_X9_isSource σ p1; (let v30 : Int32 := (if r2 = 0 then 0 else (let r14 := f_X9_of σ p1 7; (let r19 := f_X9_in p2 0 (r14 - 1); (if r19 = 0 then 0 else 1)))); (let v56 : Int32 := (if v30 = 0 then 1 else (let r45 := f_X9_in p3 0 3; (if r45 = 0 then 2 else 0))); (let r56 := (f_X9_refused σ v56).1; let s56 := (f_X9_refused σ v56).2; (if r56 = 0 then (let r70 := f_X9_tellSection s56 p1 p2 p3; (r70, s56)) else (0, s56))))))
theorem v_X9_section : cvV yX9_section "NestedBellsModel" cX9_section 5 (some (.int)) 3 := ⟨q_5_211, q_5_212, q_1_10, q_5_213, rfl, by decide +kernel, by decide +kernel, by decide +kernel⟩
set_option maxHeartbeats 4000000 in
set_option maxRecDepth 100000 in
theorem k_X9_section {l : Launch} {D : va_G} {T : Nat → ClassId} {g ad : Nat → Nat} {σ : St} {p1 : Int32} {p2 : Int32} {p3 : Int32} (I0 : InvD σ) : mX l yX9_section cX9_section 5 (some (.int)) rmX9_section D T g 6 ad (cE (dE T ad) σ) [.ref (ad 0), .int p1, .int p2, .int p3] (qI D 6 ad (dE T ad) (pI (f_X9_section σ p1 p2 p3) InvD)) := by
  refine mX.of (own := "NestedBellsModel") (by decide +kernel) (Nat.le_of_ble_eq_true rfl) rfl ?_
  intro p e s m below meth c A ls H locs Z hr hlk _ hw hl
  have hx := Z.1.1
  have hb := Z.1.2.1
  have hl : lv_has ls 5 [(0, .ref (ad 0)), (1, .int p1), (2, .int p2), (3, .int p3)] := hl
  refine lv_aload_n hx hb dX9_section_0 rfl (lv_at hl 0 rfl) ?_
  refine lv_iload_n hx hb dX9_section_1 rfl (lv_at hl 1 rfl) ?_
  refine bk_ip (rnV (rest := []) Z hw (k_X9_isSource (p1 := p1) I0) v_X9_isSource q_5_47 (0) (by decide) rfl rfl rfl rfl hl.1 rfl rfl (Nat.le_of_ble_eq_true rfl) ⟨(Nat.le_of_ble_eq_true rfl), (Nat.le_of_ble_eq_true rfl)⟩ ⟨(Nat.le_of_ble_eq_true rfl), (Nat.le_of_ble_eq_true rfl)⟩ dX9_section_2) hw Z (fun r2 er2 H locs hw => ?_)
  have hj30 : ∀ (v30 : Int32) (H : Heap) (locs : List Loc) (ls : Array Slot), ((if r2 = 0 then 0 else (let r14 := f_X9_of σ p1 7; (let r19 := f_X9_in p2 0 (r14 - 1); (if r19 = 0 then 0 else 1)))) : Int32) = v30 → wo D A s.heap 6 ad (cE (dE T ad) σ) H locs → lv_has ls 5 [(0, .ref (ad 0)), (1, .int p1), (2, .int p2), (3, .int p3)] → W p l e rmX9_section s m [.ref (ad 0), .int p1, .int p2, .int p3].toArray below meth c H locs 0 0 (MQ below (qI D 6 ad (dE T ad) (pI (f_X9_section σ p1 p2 p3) InvD) A) [.ref (ad 0), .int p1, .int p2, .int p3].toArray s rmX9_section.cells rmX9_section.slots A) (F0 m 30 ls [.int v30]) := by
    intro v30 H locs ls ev30 hw hl
    refine lv_istore (lv' := [(4, .int v30), (0, .ref (ad 0)), (1, .int p1), (2, .int p2), (3, .int p3)]) hx hb dX9_section_30 hl (by decide) rfl (fun ls hl => ?_)
    refine lv_aload_n hx hb dX9_section_32 rfl (lv_at hl 1 rfl) ?_
    refine lv_iload hx hb dX9_section_33 (lv_at hl 0 rfl) ?_
    have hj56 : ∀ (v56 : Int32) (H : Heap) (locs : List Loc) (ls : Array Slot), ((if v30 = 0 then 1 else (let r45 := f_X9_in p3 0 3; (if r45 = 0 then 2 else 0))) : Int32) = v56 → wo D A s.heap 6 ad (cE (dE T ad) σ) H locs → lv_has ls 5 [(0, .ref (ad 0)), (1, .int p1), (2, .int p2), (3, .int p3)] → W p l e rmX9_section s m [.ref (ad 0), .int p1, .int p2, .int p3].toArray below meth c H locs 0 0 (MQ below (qI D 6 ad (dE T ad) (pI (f_X9_section σ p1 p2 p3) InvD) A) [.ref (ad 0), .int p1, .int p2, .int p3].toArray s rmX9_section.cells rmX9_section.slots A) (F0 m 56 ls [.int v56, .ref (ad 0)]) := by
      intro v56 H locs ls ev56 hw hl
      refine bk_i (rnV (rest := []) Z hw (k_X9_refused (p1 := v56) I0) v_X9_refused q_5_17 (0) (by decide) rfl rfl rfl rfl hl.1 rfl rfl (Nat.le_of_ble_eq_true rfl) ⟨(Nat.le_of_ble_eq_true rfl), (Nat.le_of_ble_eq_true rfl)⟩ ⟨(Nat.le_of_ble_eq_true rfl), (Nat.le_of_ble_eq_true rfl)⟩ dX9_section_56) hw Z (fun r56 s56 H locs hp hw => ?_)
      obtain ⟨er56, es56, I56⟩ := hp
      refine lv_if_eq (tgt := 66) hx hb dX9_section_59 (by decide) (fun c59 => ?_) (fun c59 => ?_)
      · have hz := sect I0 er2 ev30 (tree_ne ev56 (by decide) (ref0 er56 c59))
        obtain ⟨q17, eq17, nq17⟩ := tree2 ev56 (ref0 er56 c59)
        have h3 := in0 (n := 4) eq17 nq17 (by decide)
        refine lv_aload_n hx hb dX9_section_66 rfl (lv_at hl 0 rfl) ?_
        refine lv_iload_n hx hb dX9_section_67 rfl (lv_at hl 1 rfl) ?_
        refine lv_iload_n hx hb dX9_section_68 rfl (lv_at hl 2 rfl) ?_
        refine lv_iload_n hx hb dX9_section_69 rfl (lv_at hl 3 rfl) ?_
        refine bk_ip (rnV (rest := []) Z hw (k_X9_tellSection (p1 := p1) (p2 := p2) (p3 := p3) I56 hz.1 hz.2 h3) v_X9_tellSection q_5_214 (0) (by decide) rfl rfl rfl rfl hl.1 rfl rfl (Nat.le_of_ble_eq_true rfl) ⟨(Nat.le_of_ble_eq_true rfl), (Nat.le_of_ble_eq_true rfl)⟩ ⟨(Nat.le_of_ble_eq_true rfl), (Nat.le_of_ble_eq_true rfl)⟩ dX9_section_70) hw Z (fun r70 er70 H locs hw => ?_)
        exact rt_i Z hr hlk hw dX9_section_73 (pI.mk (by subst er70 es56 er56 ev56 ev30 er2; exact (lf_t c59 rfl)) I56)
      · refine lv_iconst (v := 0) hx hb dX9_section_62 (by decide +kernel) ?_
        refine lv_goto (tgt := 73) hx hb dX9_section_63 (by decide) ?_
        exact rt_i Z hr hlk hw dX9_section_73 (pI.mk (by subst es56 er56 ev56 ev30 er2; exact (lf_f c59 rfl)) I56)
    refine lv_if_ne (tgt := 42) hx hb dX9_section_35 (by decide) (fun c35 => ?_) (fun c35 => ?_)
    · refine lv_iload_n hx hb dX9_section_42 rfl (lv_at hl 4 rfl) ?_
      refine lv_iconst (v := 0) hx hb dX9_section_43 (by decide +kernel) ?_
      refine lv_iconst (v := 3) hx hb dX9_section_44 (by decide +kernel) ?_
      refine bk_ip (rnS (rest := [.ref (ad 0)]) Z hw (k_X9_in (p1 := p3) (p2 := 0) (p3 := 3) ) v_X9_in rfl q_5_29 hl.1 rfl rfl (Nat.le_of_ble_eq_true rfl) ⟨(Nat.le_of_ble_eq_true rfl), (Nat.le_of_ble_eq_true rfl)⟩ ⟨(Nat.le_of_ble_eq_true rfl), (Nat.le_of_ble_eq_true rfl)⟩ dX9_section_45) hw Z (fun r45 er45 H locs hw => ?_)
      refine lv_if_eq (tgt := 55) hx hb dX9_section_48 (by decide) (fun c48 => ?_) (fun c48 => ?_)
      · refine lv_iconst (v := 2) hx hb dX9_section_55 (by decide +kernel) ?_
        exact hj56 _ H locs ls (Eq.symm (by subst er45; exact (lf_f c35 (lf_t c48 rfl)))) hw (lv_sub hl [1, 2, 3, 4] rfl)
      · refine lv_iconst (v := 0) hx hb dX9_section_51 (by decide +kernel) ?_
        refine lv_goto (tgt := 56) hx hb dX9_section_52 (by decide) ?_
        exact hj56 _ H locs ls (Eq.symm (by subst er45; exact (lf_f c35 (lf_f c48 rfl)))) hw (lv_sub hl [1, 2, 3, 4] rfl)
    · refine lv_iconst (v := 1) hx hb dX9_section_38 (by decide +kernel) ?_
      refine lv_goto (tgt := 56) hx hb dX9_section_39 (by decide) ?_
      exact hj56 _ H locs ls (Eq.symm (lf_t c35 rfl)) hw (lv_sub hl [1, 2, 3, 4] rfl)
  refine lv_if_eq (tgt := 29) hx hb dX9_section_5 (by decide) (fun c5 => ?_) (fun c5 => ?_)
  · refine lv_iconst (v := 0) hx hb dX9_section_29 (by decide +kernel) ?_
    exact hj30 _ H locs ls (Eq.symm (lf_t c5 rfl)) hw (lv_sub hl [0, 1, 2, 3] rfl)
  · have hs := src_rng12 I0 er2 c5
    refine lv_iload_n hx hb dX9_section_8 rfl (lv_at hl 2 rfl) ?_
    refine lv_iconst (v := 0) hx hb dX9_section_9 (by decide +kernel) ?_
    refine lv_aload_n hx hb dX9_section_10 rfl (lv_at hl 0 rfl) ?_
    refine lv_iload_n hx hb dX9_section_11 rfl (lv_at hl 1 rfl) ?_
    refine lv_bipush (v := 7) hx hb dX9_section_12 (by decide +kernel) ?_
    refine bk_ip (rnV (rest := [.int 0, .int p2]) Z hw (k_X9_of (p1 := p1) (p2 := 7) I0 hs (by decide +kernel)) v_X9_of q_5_70 (0) (by decide) rfl rfl rfl rfl hl.1 rfl rfl (Nat.le_of_ble_eq_true rfl) ⟨(Nat.le_of_ble_eq_true rfl), (Nat.le_of_ble_eq_true rfl)⟩ ⟨(Nat.le_of_ble_eq_true rfl), (Nat.le_of_ble_eq_true rfl)⟩ dX9_section_14) hw Z (fun r14 er14 H locs hw => ?_)
    refine lv_iconst (v := 1) hx hb dX9_section_17 (by decide +kernel) ?_
    refine lv_isub hx hb dX9_section_18 ?_
    refine bk_ip (rnS (rest := []) Z hw (k_X9_in (p1 := p2) (p2 := 0) (p3 := r14 - 1) ) v_X9_in rfl q_5_29 hl.1 rfl rfl (Nat.le_of_ble_eq_true rfl) ⟨(Nat.le_of_ble_eq_true rfl), (Nat.le_of_ble_eq_true rfl)⟩ ⟨(Nat.le_of_ble_eq_true rfl), (Nat.le_of_ble_eq_true rfl)⟩ dX9_section_19) hw Z (fun r19 er19 H locs hw => ?_)
    refine lv_if_eq (tgt := 29) hx hb dX9_section_22 (by decide) (fun c22 => ?_) (fun c22 => ?_)
    · refine lv_iconst (v := 0) hx hb dX9_section_29 (by decide +kernel) ?_
      exact hj30 _ H locs ls (Eq.symm (by subst er19 er14; exact (lf_f c5 (lf_t c22 rfl)))) hw (lv_sub hl [0, 1, 2, 3] rfl)
    · refine lv_iconst (v := 1) hx hb dX9_section_25 (by decide +kernel) ?_
      refine lv_goto (tgt := 30) hx hb dX9_section_26 (by decide) ?_
      exact hj30 _ H locs ls (Eq.symm (by subst er19 er14; exact (lf_f c5 (lf_f c22 rfl)))) hw (lv_sub hl [0, 1, 2, 3] rfl)
abbrev rmX9_stack : Room := { frames := 1, cells := 0, slots := 0, locals := 21 }
def f_X9_stack (σ : St) (p1 : Int32) : Int32 × St := (let v10 : Int32 := (if 0 ≤ p1 then 0 else 1); (let r10 := (f_X9_refused σ v10).1; let s10 := (f_X9_refused σ v10).2; (if r10 = 0 then (if p1 < (s10 1 9) then (s10 1 (10 + p1.toNatClampNeg), s10) else ((-1), s10)) else (0, s10))))
theorem v_X9_stack : cvV yX9_stack "NestedBellsModel" cX9_stack 2 (some (.int)) 1 := ⟨q_5_219, q_5_220, q_1_10, q_5_221, rfl, by decide +kernel, by decide +kernel, by decide +kernel⟩
set_option maxHeartbeats 4000000 in
set_option maxRecDepth 100000 in
theorem k_X9_stack {l : Launch} {D : va_G} {T : Nat → ClassId} {g ad : Nat → Nat} {σ : St} {p1 : Int32} (I0 : InvD σ) : mX l yX9_stack cX9_stack 2 (some (.int)) rmX9_stack D T g 6 ad (cE (dE T ad) σ) [.ref (ad 0), .int p1] (qI D 6 ad (dE T ad) (pI (f_X9_stack σ p1) InvD)) := by
  refine mX.of (own := "NestedBellsModel") (by decide +kernel) (Nat.le_of_ble_eq_true rfl) rfl ?_
  intro p e s m below meth c A ls H locs Z hr hlk _ hw hl
  have hx := Z.1.1
  have hb := Z.1.2.1
  have hl : lv_has ls 2 [(0, .ref (ad 0)), (1, .int p1)] := hl
  refine lv_aload_n hx hb dX9_stack_0 rfl (lv_at hl 0 rfl) ?_
  refine lv_iload_n hx hb dX9_stack_1 rfl (lv_at hl 1 rfl) ?_
  have hj10 : ∀ (v10 : Int32) (H : Heap) (locs : List Loc) (ls : Array Slot), ((if 0 ≤ p1 then 0 else 1) : Int32) = v10 → wo D A s.heap 6 ad (cE (dE T ad) σ) H locs → lv_has ls 2 [(0, .ref (ad 0)), (1, .int p1)] → W p l e rmX9_stack s m [.ref (ad 0), .int p1].toArray below meth c H locs 0 0 (MQ below (qI D 6 ad (dE T ad) (pI (f_X9_stack σ p1) InvD) A) [.ref (ad 0), .int p1].toArray s rmX9_stack.cells rmX9_stack.slots A) (F0 m 10 ls [.int v10, .ref (ad 0)]) := by
    intro v10 H locs ls ev10 hw hl
    refine bk_i (rnV (rest := []) Z hw (k_X9_refused (p1 := v10) I0) v_X9_refused q_5_17 (0) (by decide) rfl rfl rfl rfl hl.1 rfl rfl (Nat.le_of_ble_eq_true rfl) ⟨(Nat.le_of_ble_eq_true rfl), (Nat.le_of_ble_eq_true rfl)⟩ ⟨(Nat.le_of_ble_eq_true rfl), (Nat.le_of_ble_eq_true rfl)⟩ dX9_stack_10) hw Z (fun r10 s10 H locs hp hw => ?_)
    obtain ⟨er10, es10, I10⟩ := hp
    refine lv_if_eq (tgt := 20) hx hb dX9_stack_13 (by decide) (fun c13 => ?_) (fun c13 => ?_)
    · refine lv_iload_n hx hb dX9_stack_20 rfl (lv_at hl 1 rfl) ?_
      refine lv_aload_n hx hb dX9_stack_21 rfl (lv_at hl 0 rfl) ?_
      refine gD (j := 0) (v := .ref (ad 1)) Z hw  (by decide) q_4_212 rfl rfl dX9_stack_22 ?_
      refine lv_bipush (v := 9) hx hb dX9_stack_25 (by decide +kernel) ?_
      refine aE (v := s10 1 9) Z hw 1 (by decide) rfl (fun _ => rfl) (vp_in_nI (n := 9) (by decide) (by decide)) ((congrArg (s10 1) (nI_clamp (n := 9) (by decide))).trans rfl) dX9_stack_27 ?_
      refine lv_icmp_lt (tgt := 35) hx hb dX9_stack_28 (by decide) (fun c28 => ?_) (fun c28 => ?_)
      · have h12 := row_lt (n := 12) (Int32.not_lt.mpr (tree01 ev10 (ref0 er10 c13))) c28 I10.1.2.1.2
        refine lv_aload_n hx hb dX9_stack_35 rfl (lv_at hl 0 rfl) ?_
        refine gD (j := 0) (v := .ref (ad 1)) Z hw  (by decide) q_4_212 rfl rfl dX9_stack_36 ?_
        refine lv_bipush (v := 10) hx hb dX9_stack_39 (by decide +kernel) ?_
        refine lv_iload_n hx hb dX9_stack_41 rfl (lv_at hl 1 rfl) ?_
        refine lv_iadd hx hb dX9_stack_42 ?_
        refine aE (v := s10 1 (10 + p1.toNatClampNeg)) Z hw 1 (by decide) rfl (fun _ => rfl) (sa_vp (a := 10) h12 (by decide)) ((congrArg (s10 1) (sa_ix (a := 10) h12 (by decide))).trans rfl) dX9_stack_43 ?_
        exact rt_i Z hr hlk hw dX9_stack_44 (pI.mk (by subst es10 er10 ev10; exact (lf_t c13 (lf_t c28 rfl))) I10)
      · refine lv_iconst (v := (-1)) hx hb dX9_stack_31 (by decide +kernel) ?_
        refine lv_goto (tgt := 44) hx hb dX9_stack_32 (by decide) ?_
        exact rt_i Z hr hlk hw dX9_stack_44 (pI.mk (by subst es10 er10 ev10; exact (lf_t c13 (lf_f c28 rfl))) I10)
    · refine lv_iconst (v := 0) hx hb dX9_stack_16 (by decide +kernel) ?_
      refine lv_goto (tgt := 44) hx hb dX9_stack_17 (by decide) ?_
      exact rt_i Z hr hlk hw dX9_stack_44 (pI.mk (by subst es10 er10 ev10; exact (lf_f c13 rfl)) I10)
  refine lv_if_ge (tgt := 9) hx hb dX9_stack_2 (by decide) (fun c2 => ?_) (fun c2 => ?_)
  · refine lv_iconst (v := 0) hx hb dX9_stack_9 (by decide +kernel) ?_
    exact hj10 _ H locs ls (Eq.symm (lf_t c2 rfl)) hw (lv_sub hl [0, 1] rfl)
  · refine lv_iconst (v := 1) hx hb dX9_stack_5 (by decide +kernel) ?_
    refine lv_goto (tgt := 10) hx hb dX9_stack_6 (by decide) ?_
    exact hj10 _ H locs ls (Eq.symm (lf_f c2 rfl)) hw (lv_sub hl [0, 1] rfl)
abbrev rmX9_processor : Room := { frames := 7, cells := 0, slots := 0, locals := 155 }
def f_X9_processor (σ : St) (p1 : Int32) : Int32 × St := (let r5 := f_X9_in p1 0 11; (let v16 : Int32 := (if r5 = 0 then 1 else 0); (let r16 := (f_X9_refused σ v16).1; let s16 := (f_X9_refused σ v16).2; (if r16 = 0 then (let r28 := f_X9_tellProcessor s16 p1; (r28, s16)) else (0, s16)))))
theorem v_X9_processor : cvV yX9_processor "NestedBellsModel" cX9_processor 2 (some (.int)) 1 := ⟨q_5_223, q_5_224, q_1_10, q_5_225, rfl, by decide +kernel, by decide +kernel, by decide +kernel⟩
set_option maxHeartbeats 4000000 in
set_option maxRecDepth 100000 in
theorem k_X9_processor {l : Launch} {D : va_G} {T : Nat → ClassId} {g ad : Nat → Nat} {σ : St} {p1 : Int32} (I0 : InvD σ) : mX l yX9_processor cX9_processor 2 (some (.int)) rmX9_processor D T g 6 ad (cE (dE T ad) σ) [.ref (ad 0), .int p1] (qI D 6 ad (dE T ad) (pI (f_X9_processor σ p1) InvD)) := by
  refine mX.of (own := "NestedBellsModel") (by decide +kernel) (Nat.le_of_ble_eq_true rfl) rfl ?_
  intro p e s m below meth c A ls H locs Z hr hlk _ hw hl
  have hx := Z.1.1
  have hb := Z.1.2.1
  have hl : lv_has ls 2 [(0, .ref (ad 0)), (1, .int p1)] := hl
  refine lv_aload_n hx hb dX9_processor_0 rfl (lv_at hl 0 rfl) ?_
  refine lv_iload_n hx hb dX9_processor_1 rfl (lv_at hl 1 rfl) ?_
  refine lv_iconst (v := 0) hx hb dX9_processor_2 (by decide +kernel) ?_
  refine lv_bipush (v := 11) hx hb dX9_processor_3 (by decide +kernel) ?_
  refine bk_ip (rnS (rest := [.ref (ad 0)]) Z hw (k_X9_in (p1 := p1) (p2 := 0) (p3 := 11) ) v_X9_in rfl q_5_29 hl.1 rfl rfl (Nat.le_of_ble_eq_true rfl) ⟨(Nat.le_of_ble_eq_true rfl), (Nat.le_of_ble_eq_true rfl)⟩ ⟨(Nat.le_of_ble_eq_true rfl), (Nat.le_of_ble_eq_true rfl)⟩ dX9_processor_5) hw Z (fun r5 er5 H locs hw => ?_)
  have hj16 : ∀ (v16 : Int32) (H : Heap) (locs : List Loc) (ls : Array Slot), ((if r5 = 0 then 1 else 0) : Int32) = v16 → wo D A s.heap 6 ad (cE (dE T ad) σ) H locs → lv_has ls 2 [(0, .ref (ad 0)), (1, .int p1)] → W p l e rmX9_processor s m [.ref (ad 0), .int p1].toArray below meth c H locs 0 0 (MQ below (qI D 6 ad (dE T ad) (pI (f_X9_processor σ p1) InvD) A) [.ref (ad 0), .int p1].toArray s rmX9_processor.cells rmX9_processor.slots A) (F0 m 16 ls [.int v16, .ref (ad 0)]) := by
    intro v16 H locs ls ev16 hw hl
    refine bk_i (rnV (rest := []) Z hw (k_X9_refused (p1 := v16) I0) v_X9_refused q_5_17 (0) (by decide) rfl rfl rfl rfl hl.1 rfl rfl (Nat.le_of_ble_eq_true rfl) ⟨(Nat.le_of_ble_eq_true rfl), (Nat.le_of_ble_eq_true rfl)⟩ ⟨(Nat.le_of_ble_eq_true rfl), (Nat.le_of_ble_eq_true rfl)⟩ dX9_processor_16) hw Z (fun r16 s16 H locs hp hw => ?_)
    obtain ⟨er16, es16, I16⟩ := hp
    refine lv_if_eq (tgt := 26) hx hb dX9_processor_19 (by decide) (fun c19 => ?_) (fun c19 => ?_)
    · have h12 := in0 (n := 12) er5 (tree_ne ev16 (by decide) (ref0 er16 c19)) (by decide)
      refine lv_aload_n hx hb dX9_processor_26 rfl (lv_at hl 0 rfl) ?_
      refine lv_iload_n hx hb dX9_processor_27 rfl (lv_at hl 1 rfl) ?_
      refine bk_ip (rnV (rest := []) Z hw (k_X9_tellProcessor (p1 := p1) I16 h12) v_X9_tellProcessor q_5_226 (0) (by decide) rfl rfl rfl rfl hl.1 rfl rfl (Nat.le_of_ble_eq_true rfl) ⟨(Nat.le_of_ble_eq_true rfl), (Nat.le_of_ble_eq_true rfl)⟩ ⟨(Nat.le_of_ble_eq_true rfl), (Nat.le_of_ble_eq_true rfl)⟩ dX9_processor_28) hw Z (fun r28 er28 H locs hw => ?_)
      exact rt_i Z hr hlk hw dX9_processor_31 (pI.mk (by subst er28 es16 er16 ev16 er5; exact (lf_t c19 rfl)) I16)
    · refine lv_iconst (v := 0) hx hb dX9_processor_22 (by decide +kernel) ?_
      refine lv_goto (tgt := 31) hx hb dX9_processor_23 (by decide) ?_
      exact rt_i Z hr hlk hw dX9_processor_31 (pI.mk (by subst es16 er16 ev16 er5; exact (lf_f c19 rfl)) I16)
  refine lv_if_eq (tgt := 15) hx hb dX9_processor_8 (by decide) (fun c8 => ?_) (fun c8 => ?_)
  · refine lv_iconst (v := 1) hx hb dX9_processor_15 (by decide +kernel) ?_
    exact hj16 _ H locs ls (Eq.symm (lf_t c8 rfl)) hw (lv_sub hl [0, 1] rfl)
  · refine lv_iconst (v := 0) hx hb dX9_processor_11 (by decide +kernel) ?_
    refine lv_goto (tgt := 16) hx hb dX9_processor_12 (by decide) ?_
    exact hj16 _ H locs ls (Eq.symm (lf_f c8 rfl)) hw (lv_sub hl [0, 1] rfl)
abbrev rmX9_account : Room := { frames := 1, cells := 0, slots := 0, locals := 22 }
def f_X9_account (σ : St) (p1 : Int32) : Int32 × St := (let r5 := f_X9_in p1 0 9; (let v16 : Int32 := (if r5 = 0 then 1 else 0); (let r16 := (f_X9_refused σ v16).1; let s16 := (f_X9_refused σ v16).2; (if r16 = 0 then (s16 1 (83 + p1.toNatClampNeg), s16) else (0, s16)))))
theorem v_X9_account : cvV yX9_account "NestedBellsModel" cX9_account 2 (some (.int)) 1 := ⟨q_5_231, q_5_232, q_1_10, q_5_233, rfl, by decide +kernel, by decide +kernel, by decide +kernel⟩
set_option maxHeartbeats 4000000 in
set_option maxRecDepth 100000 in
theorem k_X9_account {l : Launch} {D : va_G} {T : Nat → ClassId} {g ad : Nat → Nat} {σ : St} {p1 : Int32} (I0 : InvD σ) : mX l yX9_account cX9_account 2 (some (.int)) rmX9_account D T g 6 ad (cE (dE T ad) σ) [.ref (ad 0), .int p1] (qI D 6 ad (dE T ad) (pI (f_X9_account σ p1) InvD)) := by
  refine mX.of (own := "NestedBellsModel") (by decide +kernel) (Nat.le_of_ble_eq_true rfl) rfl ?_
  intro p e s m below meth c A ls H locs Z hr hlk _ hw hl
  have hx := Z.1.1
  have hb := Z.1.2.1
  have hl : lv_has ls 2 [(0, .ref (ad 0)), (1, .int p1)] := hl
  refine lv_aload_n hx hb dX9_account_0 rfl (lv_at hl 0 rfl) ?_
  refine lv_iload_n hx hb dX9_account_1 rfl (lv_at hl 1 rfl) ?_
  refine lv_iconst (v := 0) hx hb dX9_account_2 (by decide +kernel) ?_
  refine lv_bipush (v := 9) hx hb dX9_account_3 (by decide +kernel) ?_
  refine bk_ip (rnS (rest := [.ref (ad 0)]) Z hw (k_X9_in (p1 := p1) (p2 := 0) (p3 := 9) ) v_X9_in rfl q_5_29 hl.1 rfl rfl (Nat.le_of_ble_eq_true rfl) ⟨(Nat.le_of_ble_eq_true rfl), (Nat.le_of_ble_eq_true rfl)⟩ ⟨(Nat.le_of_ble_eq_true rfl), (Nat.le_of_ble_eq_true rfl)⟩ dX9_account_5) hw Z (fun r5 er5 H locs hw => ?_)
  have hj16 : ∀ (v16 : Int32) (H : Heap) (locs : List Loc) (ls : Array Slot), ((if r5 = 0 then 1 else 0) : Int32) = v16 → wo D A s.heap 6 ad (cE (dE T ad) σ) H locs → lv_has ls 2 [(0, .ref (ad 0)), (1, .int p1)] → W p l e rmX9_account s m [.ref (ad 0), .int p1].toArray below meth c H locs 0 0 (MQ below (qI D 6 ad (dE T ad) (pI (f_X9_account σ p1) InvD) A) [.ref (ad 0), .int p1].toArray s rmX9_account.cells rmX9_account.slots A) (F0 m 16 ls [.int v16, .ref (ad 0)]) := by
    intro v16 H locs ls ev16 hw hl
    refine bk_i (rnV (rest := []) Z hw (k_X9_refused (p1 := v16) I0) v_X9_refused q_5_17 (0) (by decide) rfl rfl rfl rfl hl.1 rfl rfl (Nat.le_of_ble_eq_true rfl) ⟨(Nat.le_of_ble_eq_true rfl), (Nat.le_of_ble_eq_true rfl)⟩ ⟨(Nat.le_of_ble_eq_true rfl), (Nat.le_of_ble_eq_true rfl)⟩ dX9_account_16) hw Z (fun r16 s16 H locs hp hw => ?_)
    obtain ⟨er16, es16, I16⟩ := hp
    refine lv_if_eq (tgt := 26) hx hb dX9_account_19 (by decide) (fun c19 => ?_) (fun c19 => ?_)
    · have h12 := in0 (n := 12) er5 (tree_ne ev16 (by decide) (ref0 er16 c19)) (by decide)
      refine lv_aload_n hx hb dX9_account_26 rfl (lv_at hl 0 rfl) ?_
      refine gD (j := 0) (v := .ref (ad 1)) Z hw  (by decide) q_4_212 rfl rfl dX9_account_27 ?_
      refine lv_bipush (v := 83) hx hb dX9_account_30 (by decide +kernel) ?_
      refine lv_iload_n hx hb dX9_account_32 rfl (lv_at hl 1 rfl) ?_
      refine lv_iadd hx hb dX9_account_33 ?_
      refine aE (v := s16 1 (83 + p1.toNatClampNeg)) Z hw 1 (by decide) rfl (fun _ => rfl) (sa_vp (a := 83) h12 (by decide)) ((congrArg (s16 1) (sa_ix (a := 83) h12 (by decide))).trans rfl) dX9_account_34 ?_
      exact rt_i Z hr hlk hw dX9_account_35 (pI.mk (by subst es16 er16 ev16 er5; exact (lf_t c19 rfl)) I16)
    · refine lv_iconst (v := 0) hx hb dX9_account_22 (by decide +kernel) ?_
      refine lv_goto (tgt := 35) hx hb dX9_account_23 (by decide) ?_
      exact rt_i Z hr hlk hw dX9_account_35 (pI.mk (by subst es16 er16 ev16 er5; exact (lf_f c19 rfl)) I16)
  refine lv_if_eq (tgt := 15) hx hb dX9_account_8 (by decide) (fun c8 => ?_) (fun c8 => ?_)
  · refine lv_iconst (v := 1) hx hb dX9_account_15 (by decide +kernel) ?_
    exact hj16 _ H locs ls (Eq.symm (lf_t c8 rfl)) hw (lv_sub hl [0, 1] rfl)
  · refine lv_iconst (v := 0) hx hb dX9_account_11 (by decide +kernel) ?_
    refine lv_goto (tgt := 16) hx hb dX9_account_12 (by decide) ?_
    exact hj16 _ H locs ls (Eq.symm (lf_f c8 rfl)) hw (lv_sub hl [0, 1] rfl)
abbrev rmX9_log : Room := { frames := 1, cells := 0, slots := 0, locals := 22 }
def f_X9_log (σ : St) (p1 : Int32) (p2 : Int32) : Int32 × St := (let v19 : Int32 := (if p1 < 0 then 1 else (let r8 := f_X9_in p2 0 2; (if r8 = 0 then 1 else 0))); (let r19 := (f_X9_refused σ v19).1; let s19 := (f_X9_refused σ v19).2; (if r19 = 0 then (if p1 < (s19 1 22) then (s19 1 (23 + 3 * p1.toNatClampNeg + p2.toNatClampNeg), s19) else ((-1), s19)) else (0, s19))))
theorem v_X9_log : cvV yX9_log "NestedBellsModel" cX9_log 3 (some (.int)) 2 := ⟨q_5_235, q_5_236, q_1_10, q_5_237, rfl, by decide +kernel, by decide +kernel, by decide +kernel⟩
set_option maxHeartbeats 4000000 in
set_option maxRecDepth 100000 in
theorem k_X9_log {l : Launch} {D : va_G} {T : Nat → ClassId} {g ad : Nat → Nat} {σ : St} {p1 : Int32} {p2 : Int32} (I0 : InvD σ) : mX l yX9_log cX9_log 3 (some (.int)) rmX9_log D T g 6 ad (cE (dE T ad) σ) [.ref (ad 0), .int p1, .int p2] (qI D 6 ad (dE T ad) (pI (f_X9_log σ p1 p2) InvD)) := by
  refine mX.of (own := "NestedBellsModel") (by decide +kernel) (Nat.le_of_ble_eq_true rfl) rfl ?_
  intro p e s m below meth c A ls H locs Z hr hlk _ hw hl
  have hx := Z.1.1
  have hb := Z.1.2.1
  have hl : lv_has ls 3 [(0, .ref (ad 0)), (1, .int p1), (2, .int p2)] := hl
  refine lv_aload_n hx hb dX9_log_0 rfl (lv_at hl 0 rfl) ?_
  refine lv_iload_n hx hb dX9_log_1 rfl (lv_at hl 1 rfl) ?_
  have hj19 : ∀ (v19 : Int32) (H : Heap) (locs : List Loc) (ls : Array Slot), ((if p1 < 0 then 1 else (let r8 := f_X9_in p2 0 2; (if r8 = 0 then 1 else 0))) : Int32) = v19 → wo D A s.heap 6 ad (cE (dE T ad) σ) H locs → lv_has ls 3 [(0, .ref (ad 0)), (1, .int p1), (2, .int p2)] → W p l e rmX9_log s m [.ref (ad 0), .int p1, .int p2].toArray below meth c H locs 0 0 (MQ below (qI D 6 ad (dE T ad) (pI (f_X9_log σ p1 p2) InvD) A) [.ref (ad 0), .int p1, .int p2].toArray s rmX9_log.cells rmX9_log.slots A) (F0 m 19 ls [.int v19, .ref (ad 0)]) := by
    intro v19 H locs ls ev19 hw hl
    refine bk_i (rnV (rest := []) Z hw (k_X9_refused (p1 := v19) I0) v_X9_refused q_5_17 (0) (by decide) rfl rfl rfl rfl hl.1 rfl rfl (Nat.le_of_ble_eq_true rfl) ⟨(Nat.le_of_ble_eq_true rfl), (Nat.le_of_ble_eq_true rfl)⟩ ⟨(Nat.le_of_ble_eq_true rfl), (Nat.le_of_ble_eq_true rfl)⟩ dX9_log_19) hw Z (fun r19 s19 H locs hp hw => ?_)
    obtain ⟨er19, es19, I19⟩ := hp
    refine lv_if_eq (tgt := 27) hx hb dX9_log_22 (by decide) (fun c22 => ?_) (fun c22 => ?_)
    · refine lv_iload_n hx hb dX9_log_27 rfl (lv_at hl 1 rfl) ?_
      refine lv_aload_n hx hb dX9_log_28 rfl (lv_at hl 0 rfl) ?_
      refine gD (j := 0) (v := .ref (ad 1)) Z hw  (by decide) q_4_212 rfl rfl dX9_log_29 ?_
      refine lv_bipush (v := 22) hx hb dX9_log_32 (by decide +kernel) ?_
      refine aE (v := s19 1 22) Z hw 1 (by decide) rfl (fun _ => rfl) (vp_in_nI (n := 22) (by decide) (by decide)) ((congrArg (s19 1) (nI_clamp (n := 22) (by decide))).trans rfl) dX9_log_34 ?_
      refine lv_icmp_lt (tgt := 42) hx hb dX9_log_35 (by decide) (fun c35 => ?_) (fun c35 => ?_)
      · have hz := lgv ev19 (ref0 er19 c22)
        have h20 := row_lt (n := 20) hz.1 c35 I19.1.2.2.1.2
        refine lv_aload_n hx hb dX9_log_42 rfl (lv_at hl 0 rfl) ?_
        refine gD (j := 0) (v := .ref (ad 1)) Z hw  (by decide) q_4_212 rfl rfl dX9_log_43 ?_
        refine lv_bipush (v := 23) hx hb dX9_log_46 (by decide +kernel) ?_
        refine lv_iconst (v := 3) hx hb dX9_log_48 (by decide +kernel) ?_
        refine lv_iload_n hx hb dX9_log_49 rfl (lv_at hl 1 rfl) ?_
        refine lv_imul hx hb dX9_log_50 ?_
        refine lv_iadd hx hb dX9_log_51 ?_
        refine lv_iload_n hx hb dX9_log_52 rfl (lv_at hl 2 rfl) ?_
        refine lv_iadd hx hb dX9_log_53 ?_
        refine aE (v := s19 1 (23 + 3 * p1.toNatClampNeg + p2.toNatClampNeg)) Z hw 1 (by decide) rfl (fun _ => rfl) (lg_ix h20 hz.2).2 ((congrArg (s19 1) (lg_ix h20 hz.2).1).trans rfl) dX9_log_54 ?_
        exact rt_i Z hr hlk hw dX9_log_55 (pI.mk (by subst es19 er19 ev19; exact (lf_t c22 (lf_t c35 rfl))) I19)
      · refine lv_iconst (v := (-1)) hx hb dX9_log_38 (by decide +kernel) ?_
        refine lv_goto (tgt := 55) hx hb dX9_log_39 (by decide) ?_
        exact rt_i Z hr hlk hw dX9_log_55 (pI.mk (by subst es19 er19 ev19; exact (lf_t c22 (lf_f c35 rfl))) I19)
    · refine lv_iconst (v := 0) hx hb dX9_log_25 (by decide +kernel) ?_
      exact rt_i Z hr hlk hw dX9_log_26 (pI.mk (by subst es19 er19 ev19; exact (lf_f c22 rfl)) I19)
  refine lv_if_lt (tgt := 14) hx hb dX9_log_2 (by decide) (fun c2 => ?_) (fun c2 => ?_)
  · refine lv_iconst (v := 1) hx hb dX9_log_14 (by decide +kernel) ?_
    refine lv_goto (tgt := 19) hx hb dX9_log_15 (by decide) ?_
    exact hj19 _ H locs ls (Eq.symm (lf_t c2 rfl)) hw (lv_sub hl [0, 1, 2] rfl)
  · refine lv_iload_n hx hb dX9_log_5 rfl (lv_at hl 2 rfl) ?_
    refine lv_iconst (v := 0) hx hb dX9_log_6 (by decide +kernel) ?_
    refine lv_iconst (v := 2) hx hb dX9_log_7 (by decide +kernel) ?_
    refine bk_ip (rnS (rest := [.ref (ad 0)]) Z hw (k_X9_in (p1 := p2) (p2 := 0) (p3 := 2) ) v_X9_in rfl q_5_29 hl.1 rfl rfl (Nat.le_of_ble_eq_true rfl) ⟨(Nat.le_of_ble_eq_true rfl), (Nat.le_of_ble_eq_true rfl)⟩ ⟨(Nat.le_of_ble_eq_true rfl), (Nat.le_of_ble_eq_true rfl)⟩ dX9_log_8) hw Z (fun r8 er8 H locs hw => ?_)
    refine lv_if_ne (tgt := 18) hx hb dX9_log_11 (by decide) (fun c11 => ?_) (fun c11 => ?_)
    · refine lv_iconst (v := 0) hx hb dX9_log_18 (by decide +kernel) ?_
      exact hj19 _ H locs ls (Eq.symm (by subst er8; exact (lf_f c2 (lf_f c11 rfl)))) hw (lv_sub hl [0, 1, 2] rfl)
    · refine lv_iconst (v := 1) hx hb dX9_log_14 (by decide +kernel) ?_
      refine lv_goto (tgt := 19) hx hb dX9_log_15 (by decide) ?_
      exact hj19 _ H locs ls (Eq.symm (by subst er8; exact (lf_f c2 (lf_t c11 rfl)))) hw (lv_sub hl [0, 1, 2] rfl)
abbrev rmX9_entersAfter : Room := { frames := 9, cells := 0, slots := 0, locals := 203 }
def f_X9_entersAfter (σ : St) (p1 : Int32) (p2 : Int32) : Int32 × St := (let r3 := f_X9_isSource σ p1; (let v25 : Int32 := (if r3 = 0 then 1 else (let r14 := f_X9_isMost p2; (if r14 = 0 then 2 else 0))); (let r25 := (f_X9_refused σ v25).1; let s25 := (f_X9_refused σ v25).2; (if r25 = 0 then (let s34 := f_X9_keeps s25; (let r40 := (f_X9_enters s34 p1 p2).1; let s40 := (f_X9_enters s34 p1 p2).2; (let s45 := f_X9_takesBack s40; (r40, s45)))) else (0, s25)))))
theorem v_X9_entersAfter : cvV yX9_entersAfter "NestedBellsModel" cX9_entersAfter 4 (some (.int)) 2 := ⟨q_5_239, q_6_0, q_1_10, q_6_1, rfl, by decide +kernel, by decide +kernel, by decide +kernel⟩
set_option maxHeartbeats 4000000 in
set_option maxRecDepth 100000 in
theorem k_X9_entersAfter {l : Launch} {D : va_G} {T : Nat → ClassId} {g ad : Nat → Nat} {σ : St} {p1 : Int32} {p2 : Int32} (I0 : InvD σ) : mX l yX9_entersAfter cX9_entersAfter 4 (some (.int)) rmX9_entersAfter D T g 6 ad (cE (dE T ad) σ) [.ref (ad 0), .int p1, .int p2] (qI D 6 ad (dE T ad) (pI (f_X9_entersAfter σ p1 p2) InvD)) := by
  refine mX.of (own := "NestedBellsModel") (by decide +kernel) (Nat.le_of_ble_eq_true rfl) rfl ?_
  intro p e s m below meth c A ls H locs Z hr hlk _ hw hl
  have hx := Z.1.1
  have hb := Z.1.2.1
  have hl : lv_has ls 4 [(0, .ref (ad 0)), (1, .int p1), (2, .int p2)] := hl
  refine lv_aload_n hx hb dX9_entersAfter_0 rfl (lv_at hl 0 rfl) ?_
  refine lv_aload_n hx hb dX9_entersAfter_1 rfl (lv_at hl 0 rfl) ?_
  refine lv_iload_n hx hb dX9_entersAfter_2 rfl (lv_at hl 1 rfl) ?_
  refine bk_ip (rnV (rest := [.ref (ad 0)]) Z hw (k_X9_isSource (p1 := p1) I0) v_X9_isSource q_5_47 (0) (by decide) rfl rfl rfl rfl hl.1 rfl rfl (Nat.le_of_ble_eq_true rfl) ⟨(Nat.le_of_ble_eq_true rfl), (Nat.le_of_ble_eq_true rfl)⟩ ⟨(Nat.le_of_ble_eq_true rfl), (Nat.le_of_ble_eq_true rfl)⟩ dX9_entersAfter_3) hw Z (fun r3 er3 H locs hw => ?_)
  have hj25 : ∀ (v25 : Int32) (H : Heap) (locs : List Loc) (ls : Array Slot), ((if r3 = 0 then 1 else (let r14 := f_X9_isMost p2; (if r14 = 0 then 2 else 0))) : Int32) = v25 → wo D A s.heap 6 ad (cE (dE T ad) σ) H locs → lv_has ls 4 [(0, .ref (ad 0)), (1, .int p1), (2, .int p2)] → W p l e rmX9_entersAfter s m [.ref (ad 0), .int p1, .int p2].toArray below meth c H locs 0 0 (MQ below (qI D 6 ad (dE T ad) (pI (f_X9_entersAfter σ p1 p2) InvD) A) [.ref (ad 0), .int p1, .int p2].toArray s rmX9_entersAfter.cells rmX9_entersAfter.slots A) (F0 m 25 ls [.int v25, .ref (ad 0)]) := by
    intro v25 H locs ls ev25 hw hl
    refine bk_i (rnV (rest := []) Z hw (k_X9_refused (p1 := v25) I0) v_X9_refused q_5_17 (0) (by decide) rfl rfl rfl rfl hl.1 rfl rfl (Nat.le_of_ble_eq_true rfl) ⟨(Nat.le_of_ble_eq_true rfl), (Nat.le_of_ble_eq_true rfl)⟩ ⟨(Nat.le_of_ble_eq_true rfl), (Nat.le_of_ble_eq_true rfl)⟩ dX9_entersAfter_25) hw Z (fun r25 s25 H locs hp hw => ?_)
    obtain ⟨er25, es25, I25⟩ := hp
    refine lv_if_eq (tgt := 33) hx hb dX9_entersAfter_28 (by decide) (fun c28 => ?_) (fun c28 => ?_)
    · have hs := src_rng12 I0 er3 (tree_ne ev25 (by decide) (ref0 er25 c28))
      obtain ⟨q17, eq17, nq17⟩ := tree2 ev25 (ref0 er25 c28)
      have hb2 : p2.toInt ≤ 1000 := (in_of eq17 nq17).2
      refine lv_aload_n hx hb dX9_entersAfter_33 rfl (lv_at hl 0 rfl) ?_
      refine bk_v (rnV (rest := []) Z hw (k_X9_keeps  I25) v_X9_keeps q_6_5 (0) (by decide) rfl rfl rfl rfl hl.1 rfl rfl (Nat.le_of_ble_eq_true rfl) ⟨(Nat.le_of_ble_eq_true rfl), (Nat.le_of_ble_eq_true rfl)⟩ ⟨(Nat.le_of_ble_eq_true rfl), (Nat.le_of_ble_eq_true rfl)⟩ dX9_entersAfter_34) hw Z (fun s34 H locs hp hw => ?_)
      obtain ⟨es34, I34⟩ := hp
      refine lv_aload_n hx hb dX9_entersAfter_37 rfl (lv_at hl 0 rfl) ?_
      refine lv_iload_n hx hb dX9_entersAfter_38 rfl (lv_at hl 1 rfl) ?_
      refine lv_iload_n hx hb dX9_entersAfter_39 rfl (lv_at hl 2 rfl) ?_
      refine bk_i (rnV (rest := []) Z hw (k_X9_enters (p1 := p1) (p2 := p2) I34 hs hb2) v_X9_enters q_6_9 (0) (by decide) rfl rfl rfl rfl hl.1 rfl rfl (Nat.le_of_ble_eq_true rfl) ⟨(Nat.le_of_ble_eq_true rfl), (Nat.le_of_ble_eq_true rfl)⟩ ⟨(Nat.le_of_ble_eq_true rfl), (Nat.le_of_ble_eq_true rfl)⟩ dX9_entersAfter_40) hw Z (fun r40 s40 H locs hp hw => ?_)
      obtain ⟨er40, es40, I40⟩ := hp
      refine lv_istore_n (lv' := [(3, .int r40), (0, .ref (ad 0)), (1, .int p1), (2, .int p2)]) hx hb dX9_entersAfter_43 rfl hl (by decide) rfl (fun ls hl => ?_)
      refine lv_aload_n hx hb dX9_entersAfter_44 rfl (lv_at hl 1 rfl) ?_
      refine bk_v (rnV (rest := []) Z hw (k_X9_takesBack  I40) v_X9_takesBack q_6_13 (0) (by decide) rfl rfl rfl rfl hl.1 rfl rfl (Nat.le_of_ble_eq_true rfl) ⟨(Nat.le_of_ble_eq_true rfl), (Nat.le_of_ble_eq_true rfl)⟩ ⟨(Nat.le_of_ble_eq_true rfl), (Nat.le_of_ble_eq_true rfl)⟩ dX9_entersAfter_45) hw Z (fun s45 H locs hp hw => ?_)
      obtain ⟨es45, I45⟩ := hp
      refine lv_iload_n hx hb dX9_entersAfter_48 rfl (lv_at hl 0 rfl) ?_
      exact rt_i Z hr hlk hw dX9_entersAfter_49 (pI.mk (by subst es45 es40 er40 es34 es25 er25 ev25 er3; exact (lf_t c28 rfl)) I45)
    · refine lv_iconst (v := 0) hx hb dX9_entersAfter_31 (by decide +kernel) ?_
      exact rt_i Z hr hlk hw dX9_entersAfter_32 (pI.mk (by subst es25 er25 ev25 er3; exact (lf_f c28 rfl)) I25)
  refine lv_if_ne (tgt := 13) hx hb dX9_entersAfter_6 (by decide) (fun c6 => ?_) (fun c6 => ?_)
  · refine lv_iload_n hx hb dX9_entersAfter_13 rfl (lv_at hl 2 rfl) ?_
    refine bk_ip (rnS (rest := [.ref (ad 0)]) Z hw (k_X9_isMost (p1 := p2) ) v_X9_isMost rfl q_6_2 hl.1 rfl rfl (Nat.le_of_ble_eq_true rfl) ⟨(Nat.le_of_ble_eq_true rfl), (Nat.le_of_ble_eq_true rfl)⟩ ⟨(Nat.le_of_ble_eq_true rfl), (Nat.le_of_ble_eq_true rfl)⟩ dX9_entersAfter_14) hw Z (fun r14 er14 H locs hw => ?_)
    refine lv_if_eq (tgt := 24) hx hb dX9_entersAfter_17 (by decide) (fun c17 => ?_) (fun c17 => ?_)
    · refine lv_iconst (v := 2) hx hb dX9_entersAfter_24 (by decide +kernel) ?_
      exact hj25 _ H locs ls (Eq.symm (by subst er14; exact (lf_f c6 (lf_t c17 rfl)))) hw (lv_sub hl [0, 1, 2] rfl)
    · refine lv_iconst (v := 0) hx hb dX9_entersAfter_20 (by decide +kernel) ?_
      refine lv_goto (tgt := 25) hx hb dX9_entersAfter_21 (by decide) ?_
      exact hj25 _ H locs ls (Eq.symm (by subst er14; exact (lf_f c6 (lf_f c17 rfl)))) hw (lv_sub hl [0, 1, 2] rfl)
  · refine lv_iconst (v := 1) hx hb dX9_entersAfter_9 (by decide +kernel) ?_
    refine lv_goto (tgt := 25) hx hb dX9_entersAfter_10 (by decide) ?_
    exact hj25 _ H locs ls (Eq.symm (lf_t c6 rfl)) hw (lv_sub hl [0, 1, 2] rfl)
abbrev rmX9_idleAfter : Room := { frames := 8, cells := 0, slots := 0, locals := 178 }
def f_X9_idleAfter_l27 (p1 : Int32) : Nat → Nat → St → Nat × St
  | 0, k27, t27 => (k27, t27)
  | n27 + 1, k27, t27 => (if p1 ≤ (nI k27) then (k27, t27) else (if 0 < (t27 1 9) then (let r52 := (f_X9_tick t27).1; let s52 := (f_X9_tick t27).2; (f_X9_idleAfter_l27 p1 n27 (k27 + 1) s52)) else (if (t27 1 5) = 0 then (k27, t27) else (let r52 := (f_X9_tick t27).1; let s52 := (f_X9_tick t27).2; (f_X9_idleAfter_l27 p1 n27 (k27 + 1) s52)))))
def f_X9_idleAfter (σ : St) (p1 : Int32) : Int32 × St := (let r2 := f_X9_isMost p1; (let v13 : Int32 := (if r2 = 0 then 1 else 0); (let r13 := (f_X9_refused σ v13).1; let s13 := (f_X9_refused σ v13).2; (if r13 = 0 then (let s22 := f_X9_keeps s13; (let kk27 := (f_X9_idleAfter_l27 p1 fu1001 0 s22).1; let u27 := (f_X9_idleAfter_l27 p1 fu1001 0 s22).2; (let v86 : Int32 := (if (u27 1 9) = 0 then (if (u27 1 5) = 0 then 1 else 0) else 0); (let s88 := f_X9_takesBack u27; (if v86 = 0 then ((-1), s88) else (nI kk27, s88)))))) else (0, s13)))))
theorem v_X9_idleAfter : cvV yX9_idleAfter "NestedBellsModel" cX9_idleAfter 4 (some (.int)) 1 := ⟨q_6_18, q_6_19, q_1_10, q_6_20, rfl, by decide +kernel, by decide +kernel, by decide +kernel⟩
set_option maxHeartbeats 4000000 in
set_option maxRecDepth 100000 in
theorem L_X9_idleAfter_27 {l : Launch} {D : va_G} {T : Nat → ClassId} {g ad : Nat → Nat} {p : Program} {e : Env} {s : State} {m : MethodId} {below : List Frame} {meth : Method} {c : Code} {A : Nat → Prop} {Qw : State → Prop} {p1 : Int32} (Z : en p m c cX9_idleAfter 4 s [.ref (ad 0), .int p1].toArray "NestedBellsModel" D T g A) (hb1 : p1.toInt ≤ 1000) : ∀ (n27 : Nat) (k27 : Nat) (t27 : St) (H : Heap) (locs : List Loc) (ls : Array Slot), k27 ≤ 1000 → 1000 < k27 + n27 → InvD t27 → wo D A s.heap 6 ad (cE (dE T ad) t27) H locs → lv_has ls 4 [(2, .int (nI k27)), (0, .ref (ad 0)), (1, .int p1)] → (∀ (kk27 : Nat) (u27 : St) (H : Heap) (locs : List Loc) (ls : Array Slot), (f_X9_idleAfter_l27 p1 n27 k27 t27).1 = kk27 → (f_X9_idleAfter_l27 p1 n27 k27 t27).2 = u27 → InvD u27 → wo D A s.heap 6 ad (cE (dE T ad) u27) H locs → lv_has ls 4 [(2, .int (nI kk27)), (0, .ref (ad 0))] → W p l e rmX9_idleAfter s m [.ref (ad 0), .int p1].toArray below meth c H locs 0 0 Qw (F0 m 62 ls [])) → W p l e rmX9_idleAfter s m [.ref (ad 0), .int p1].toArray below meth c H locs 0 0 Qw (F0 m 27 ls []) := by
  have hx := Z.1.1
  have hb := Z.1.2.1
  intro n27
  induction n27 with
  | zero =>
    intro k27 t27 H locs ls hk27 hn27 It27 hw hl kk
    exact absurd hn27 (by omega)
  | succ n27 ih =>
    intro k27 t27 H locs ls hk27 hn27 It27 hw hl kk
    refine lv_iload_n hx hb dX9_idleAfter_27 rfl (lv_at hl 0 rfl) ?_
    refine lv_iload_n hx hb dX9_idleAfter_28 rfl (lv_at hl 2 rfl) ?_
    refine lv_icmp_ge (tgt := 62) hx hb dX9_idleAfter_29 (by decide) (fun c29 => ?_) (fun c29 => ?_)
    · exact kk _ _ H locs ls (Eq.symm (congrArg (fun z : Nat × St => z.1) (show (k27, t27) = _ from (lf_t c29 rfl)))) (Eq.symm (congrArg (fun z : Nat × St => z.2) (show (k27, t27) = _ from (lf_t c29 rfl)))) It27 hw (lv_sub hl [0, 1] rfl)
    · have hkb27 : k27 < 1000 := kb_ge c29 hb1 hk27 (by decide)
      refine lv_aload_n hx hb dX9_idleAfter_32 rfl (lv_at hl 1 rfl) ?_
      refine gD (j := 0) (v := .ref (ad 1)) Z hw  (by decide) q_4_212 rfl rfl dX9_idleAfter_33 ?_
      refine lv_bipush (v := 9) hx hb dX9_idleAfter_36 (by decide +kernel) ?_
      refine aE (v := t27 1 9) Z hw 1 (by decide) rfl (fun _ => rfl) (vp_in_nI (n := 9) (by decide) (by decide)) ((congrArg (t27 1) (nI_clamp (n := 9) (by decide))).trans rfl) dX9_idleAfter_38 ?_
      refine lv_if_gt (tgt := 51) hx hb dX9_idleAfter_39 (by decide) (fun c39 => ?_) (fun c39 => ?_)
      · refine lv_aload_n hx hb dX9_idleAfter_51 rfl (lv_at hl 1 rfl) ?_
        refine bk_i (rnV (rest := []) Z hw (k_X9_tick  It27) v_X9_tick q_5_147 (0) (by decide) rfl rfl rfl rfl hl.1 rfl rfl (Nat.le_of_ble_eq_true rfl) ⟨(Nat.le_of_ble_eq_true rfl), (Nat.le_of_ble_eq_true rfl)⟩ ⟨(Nat.le_of_ble_eq_true rfl), (Nat.le_of_ble_eq_true rfl)⟩ dX9_idleAfter_52) hw Z (fun r52 s52 H locs hp hw => ?_)
        obtain ⟨er52, es52, I52⟩ := hp
        refine lv_istore_n (lv' := [(3, .int r52), (2, .int (nI k27)), (0, .ref (ad 0)), (1, .int p1)]) hx hb dX9_idleAfter_55 rfl hl (by decide) rfl (fun ls hl => ?_)
        refine lv_iinc (v := nI (k27 + 1)) (lv' := [(2, .int (nI (k27 + 1))), (3, .int r52), (0, .ref (ad 0)), (1, .int p1)]) hx hb dX9_idleAfter_56 hl (k := 1) rfl (nI_1 _) (by decide) rfl (fun ls hl => ?_)
        refine lv_goto (tgt := 27) hx hb dX9_idleAfter_59 (by decide) ?_
        exact ih (k27 + 1) s52 H locs ls (by omega) (by omega) I52 hw (lv_sub hl [0, 2, 3] rfl) (fun kk27 u27 H locs ls ekk27 eu27 I27 hw hl => kk kk27 u27 H locs ls (Eq.trans (Eq.symm (congrArg (fun z : Nat × St => z.1) (show (f_X9_idleAfter_l27 p1 n27 (k27 + 1) s52) = _ from (by subst es52 er52; exact (lf_f c29 (lf_t c39 rfl)))))) ekk27) (Eq.trans (Eq.symm (congrArg (fun z : Nat × St => z.2) (show (f_X9_idleAfter_l27 p1 n27 (k27 + 1) s52) = _ from (by subst es52 er52; exact (lf_f c29 (lf_t c39 rfl)))))) eu27) I27 hw hl)
      · refine lv_aload_n hx hb dX9_idleAfter_42 rfl (lv_at hl 1 rfl) ?_
        refine gD (j := 0) (v := .ref (ad 1)) Z hw  (by decide) q_4_212 rfl rfl dX9_idleAfter_43 ?_
        refine lv_iconst (v := 5) hx hb dX9_idleAfter_46 (by decide +kernel) ?_
        refine aE (v := t27 1 5) Z hw 1 (by decide) rfl (fun _ => rfl) (vp_in_nI (n := 5) (by decide) (by decide)) ((congrArg (t27 1) (nI_clamp (n := 5) (by decide))).trans rfl) dX9_idleAfter_47 ?_
        refine lv_if_eq (tgt := 62) hx hb dX9_idleAfter_48 (by decide) (fun c48 => ?_) (fun c48 => ?_)
        · exact kk _ _ H locs ls (Eq.symm (congrArg (fun z : Nat × St => z.1) (show (k27, t27) = _ from (lf_f c29 (lf_f c39 (lf_t c48 rfl)))))) (Eq.symm (congrArg (fun z : Nat × St => z.2) (show (k27, t27) = _ from (lf_f c29 (lf_f c39 (lf_t c48 rfl)))))) It27 hw (lv_sub hl [0, 1] rfl)
        · refine lv_aload_n hx hb dX9_idleAfter_51 rfl (lv_at hl 1 rfl) ?_
          refine bk_i (rnV (rest := []) Z hw (k_X9_tick  It27) v_X9_tick q_5_147 (0) (by decide) rfl rfl rfl rfl hl.1 rfl rfl (Nat.le_of_ble_eq_true rfl) ⟨(Nat.le_of_ble_eq_true rfl), (Nat.le_of_ble_eq_true rfl)⟩ ⟨(Nat.le_of_ble_eq_true rfl), (Nat.le_of_ble_eq_true rfl)⟩ dX9_idleAfter_52) hw Z (fun r52 s52 H locs hp hw => ?_)
          obtain ⟨er52, es52, I52⟩ := hp
          refine lv_istore_n (lv' := [(3, .int r52), (2, .int (nI k27)), (0, .ref (ad 0)), (1, .int p1)]) hx hb dX9_idleAfter_55 rfl hl (by decide) rfl (fun ls hl => ?_)
          refine lv_iinc (v := nI (k27 + 1)) (lv' := [(2, .int (nI (k27 + 1))), (3, .int r52), (0, .ref (ad 0)), (1, .int p1)]) hx hb dX9_idleAfter_56 hl (k := 1) rfl (nI_1 _) (by decide) rfl (fun ls hl => ?_)
          refine lv_goto (tgt := 27) hx hb dX9_idleAfter_59 (by decide) ?_
          exact ih (k27 + 1) s52 H locs ls (by omega) (by omega) I52 hw (lv_sub hl [0, 2, 3] rfl) (fun kk27 u27 H locs ls ekk27 eu27 I27 hw hl => kk kk27 u27 H locs ls (Eq.trans (Eq.symm (congrArg (fun z : Nat × St => z.1) (show (f_X9_idleAfter_l27 p1 n27 (k27 + 1) s52) = _ from (by subst es52 er52; exact (lf_f c29 (lf_f c39 (lf_f c48 rfl))))))) ekk27) (Eq.trans (Eq.symm (congrArg (fun z : Nat × St => z.2) (show (f_X9_idleAfter_l27 p1 n27 (k27 + 1) s52) = _ from (by subst es52 er52; exact (lf_f c29 (lf_f c39 (lf_f c48 rfl))))))) eu27) I27 hw hl)
set_option maxHeartbeats 4000000 in
set_option maxRecDepth 100000 in
theorem k_X9_idleAfter {l : Launch} {D : va_G} {T : Nat → ClassId} {g ad : Nat → Nat} {σ : St} {p1 : Int32} (I0 : InvD σ) : mX l yX9_idleAfter cX9_idleAfter 4 (some (.int)) rmX9_idleAfter D T g 6 ad (cE (dE T ad) σ) [.ref (ad 0), .int p1] (qI D 6 ad (dE T ad) (pI (f_X9_idleAfter σ p1) InvD)) := by
  refine mX.of (own := "NestedBellsModel") (by decide +kernel) (Nat.le_of_ble_eq_true rfl) rfl ?_
  intro p e s m below meth c A ls H locs Z hr hlk _ hw hl
  have hx := Z.1.1
  have hb := Z.1.2.1
  have hl : lv_has ls 4 [(0, .ref (ad 0)), (1, .int p1)] := hl
  refine lv_aload_n hx hb dX9_idleAfter_0 rfl (lv_at hl 0 rfl) ?_
  refine lv_iload_n hx hb dX9_idleAfter_1 rfl (lv_at hl 1 rfl) ?_
  refine bk_ip (rnS (rest := [.ref (ad 0)]) Z hw (k_X9_isMost (p1 := p1) ) v_X9_isMost rfl q_6_2 hl.1 rfl rfl (Nat.le_of_ble_eq_true rfl) ⟨(Nat.le_of_ble_eq_true rfl), (Nat.le_of_ble_eq_true rfl)⟩ ⟨(Nat.le_of_ble_eq_true rfl), (Nat.le_of_ble_eq_true rfl)⟩ dX9_idleAfter_2) hw Z (fun r2 er2 H locs hw => ?_)
  have hj13 : ∀ (v13 : Int32) (H : Heap) (locs : List Loc) (ls : Array Slot), ((if r2 = 0 then 1 else 0) : Int32) = v13 → wo D A s.heap 6 ad (cE (dE T ad) σ) H locs → lv_has ls 4 [(0, .ref (ad 0)), (1, .int p1)] → W p l e rmX9_idleAfter s m [.ref (ad 0), .int p1].toArray below meth c H locs 0 0 (MQ below (qI D 6 ad (dE T ad) (pI (f_X9_idleAfter σ p1) InvD) A) [.ref (ad 0), .int p1].toArray s rmX9_idleAfter.cells rmX9_idleAfter.slots A) (F0 m 13 ls [.int v13, .ref (ad 0)]) := by
    intro v13 H locs ls ev13 hw hl
    refine bk_i (rnV (rest := []) Z hw (k_X9_refused (p1 := v13) I0) v_X9_refused q_5_17 (0) (by decide) rfl rfl rfl rfl hl.1 rfl rfl (Nat.le_of_ble_eq_true rfl) ⟨(Nat.le_of_ble_eq_true rfl), (Nat.le_of_ble_eq_true rfl)⟩ ⟨(Nat.le_of_ble_eq_true rfl), (Nat.le_of_ble_eq_true rfl)⟩ dX9_idleAfter_13) hw Z (fun r13 s13 H locs hp hw => ?_)
    obtain ⟨er13, es13, I13⟩ := hp
    refine lv_if_eq (tgt := 21) hx hb dX9_idleAfter_16 (by decide) (fun c16 => ?_) (fun c16 => ?_)
    · have hb1 : p1.toInt ≤ 1000 := (in_of er2 (tree_ne ev13 (by decide) (ref0 er13 c16))).2
      refine lv_aload_n hx hb dX9_idleAfter_21 rfl (lv_at hl 0 rfl) ?_
      refine bk_v (rnV (rest := []) Z hw (k_X9_keeps  I13) v_X9_keeps q_6_5 (0) (by decide) rfl rfl rfl rfl hl.1 rfl rfl (Nat.le_of_ble_eq_true rfl) ⟨(Nat.le_of_ble_eq_true rfl), (Nat.le_of_ble_eq_true rfl)⟩ ⟨(Nat.le_of_ble_eq_true rfl), (Nat.le_of_ble_eq_true rfl)⟩ dX9_idleAfter_22) hw Z (fun s22 H locs hp hw => ?_)
      obtain ⟨es22, I22⟩ := hp
      refine lv_iconst (v := 0) hx hb dX9_idleAfter_25 (by decide +kernel) ?_
      refine lv_istore_n (lv' := [(2, .int 0), (0, .ref (ad 0)), (1, .int p1)]) hx hb dX9_idleAfter_26 rfl hl (by decide) rfl (fun ls hl => ?_)
      refine L_X9_idleAfter_27 (p1 := p1) Z hb1 fu1001 0 s22 H locs ls (by omega) (by unfold fu1001; omega) I22 hw (lv_sub hl [0, 1, 2] rfl) (fun kk27 u27 H locs ls ekk27 eu27 I27 hw hl => ?_)
      refine lv_aload_n hx hb dX9_idleAfter_62 rfl (lv_at hl 1 rfl) ?_
      refine gD (j := 0) (v := .ref (ad 1)) Z hw  (by decide) q_4_212 rfl rfl dX9_idleAfter_63 ?_
      refine lv_bipush (v := 9) hx hb dX9_idleAfter_66 (by decide +kernel) ?_
      refine aE (v := u27 1 9) Z hw 1 (by decide) rfl (fun _ => rfl) (vp_in_nI (n := 9) (by decide) (by decide)) ((congrArg (u27 1) (nI_clamp (n := 9) (by decide))).trans rfl) dX9_idleAfter_68 ?_
      have hj86 : ∀ (v86 : Int32) (H : Heap) (locs : List Loc) (ls : Array Slot), ((if (u27 1 9) = 0 then (if (u27 1 5) = 0 then 1 else 0) else 0) : Int32) = v86 → wo D A s.heap 6 ad (cE (dE T ad) u27) H locs → lv_has ls 4 [(2, .int (nI kk27)), (0, .ref (ad 0))] → W p l e rmX9_idleAfter s m [.ref (ad 0), .int p1].toArray below meth c H locs 0 0 (MQ below (qI D 6 ad (dE T ad) (pI (f_X9_idleAfter σ p1) InvD) A) [.ref (ad 0), .int p1].toArray s rmX9_idleAfter.cells rmX9_idleAfter.slots A) (F0 m 86 ls [.int v86]) := by
        intro v86 H locs ls ev86 hw hl
        refine lv_istore_n (lv' := [(3, .int v86), (2, .int (nI kk27)), (0, .ref (ad 0))]) hx hb dX9_idleAfter_86 rfl hl (by decide) rfl (fun ls hl => ?_)
        refine lv_aload_n hx hb dX9_idleAfter_87 rfl (lv_at hl 2 rfl) ?_
        refine bk_v (rnV (rest := []) Z hw (k_X9_takesBack  I27) v_X9_takesBack q_6_13 (0) (by decide) rfl rfl rfl rfl hl.1 rfl rfl (Nat.le_of_ble_eq_true rfl) ⟨(Nat.le_of_ble_eq_true rfl), (Nat.le_of_ble_eq_true rfl)⟩ ⟨(Nat.le_of_ble_eq_true rfl), (Nat.le_of_ble_eq_true rfl)⟩ dX9_idleAfter_88) hw Z (fun s88 H locs hp hw => ?_)
        obtain ⟨es88, I88⟩ := hp
        refine lv_iload_n hx hb dX9_idleAfter_91 rfl (lv_at hl 0 rfl) ?_
        refine lv_if_eq (tgt := 99) hx hb dX9_idleAfter_92 (by decide) (fun c92 => ?_) (fun c92 => ?_)
        · refine lv_iconst (v := (-1)) hx hb dX9_idleAfter_99 (by decide +kernel) ?_
          exact rt_i Z hr hlk hw dX9_idleAfter_100 (pI.mk (by subst es88 ev86 eu27 ekk27 es22 es13 er13 ev13 er2; exact (lf_t c16 (lf_t c92 rfl))) I88)
        · refine lv_iload_n hx hb dX9_idleAfter_95 rfl (lv_at hl 1 rfl) ?_
          refine lv_goto (tgt := 100) hx hb dX9_idleAfter_96 (by decide) ?_
          exact rt_i Z hr hlk hw dX9_idleAfter_100 (pI.mk (by subst es88 ev86 eu27 ekk27 es22 es13 er13 ev13 er2; exact (lf_t c16 (lf_f c92 rfl))) I88)
      refine lv_if_ne (tgt := 85) hx hb dX9_idleAfter_69 (by decide) (fun c69 => ?_) (fun c69 => ?_)
      · refine lv_iconst (v := 0) hx hb dX9_idleAfter_85 (by decide +kernel) ?_
        exact hj86 _ H locs ls (Eq.symm (lf_f c69 rfl)) hw (lv_sub hl [0, 1] rfl)
      · refine lv_aload_n hx hb dX9_idleAfter_72 rfl (lv_at hl 1 rfl) ?_
        refine gD (j := 0) (v := .ref (ad 1)) Z hw  (by decide) q_4_212 rfl rfl dX9_idleAfter_73 ?_
        refine lv_iconst (v := 5) hx hb dX9_idleAfter_76 (by decide +kernel) ?_
        refine aE (v := u27 1 5) Z hw 1 (by decide) rfl (fun _ => rfl) (vp_in_nI (n := 5) (by decide) (by decide)) ((congrArg (u27 1) (nI_clamp (n := 5) (by decide))).trans rfl) dX9_idleAfter_77 ?_
        refine lv_if_ne (tgt := 85) hx hb dX9_idleAfter_78 (by decide) (fun c78 => ?_) (fun c78 => ?_)
        · refine lv_iconst (v := 0) hx hb dX9_idleAfter_85 (by decide +kernel) ?_
          exact hj86 _ H locs ls (Eq.symm (lf_t c69 (lf_f c78 rfl))) hw (lv_sub hl [0, 1] rfl)
        · refine lv_iconst (v := 1) hx hb dX9_idleAfter_81 (by decide +kernel) ?_
          refine lv_goto (tgt := 86) hx hb dX9_idleAfter_82 (by decide) ?_
          exact hj86 _ H locs ls (Eq.symm (lf_t c69 (lf_t c78 rfl))) hw (lv_sub hl [0, 1] rfl)
    · refine lv_iconst (v := 0) hx hb dX9_idleAfter_19 (by decide +kernel) ?_
      exact rt_i Z hr hlk hw dX9_idleAfter_20 (pI.mk (by subst es13 er13 ev13 er2; exact (lf_f c16 rfl)) I13)
  refine lv_if_eq (tgt := 12) hx hb dX9_idleAfter_5 (by decide) (fun c5 => ?_) (fun c5 => ?_)
  · refine lv_iconst (v := 1) hx hb dX9_idleAfter_12 (by decide +kernel) ?_
    exact hj13 _ H locs ls (Eq.symm (lf_t c5 rfl)) hw (lv_sub hl [0, 1] rfl)
  · refine lv_iconst (v := 0) hx hb dX9_idleAfter_8 (by decide +kernel) ?_
    refine lv_goto (tgt := 13) hx hb dX9_idleAfter_9 (by decide) ?_
    exact hj13 _ H locs ls (Eq.symm (lf_f c5 rfl)) hw (lv_sub hl [0, 1] rfl)
abbrev rmX9_latencyIf : Room := { frames := 9, cells := 0, slots := 0, locals := 203 }
def f_X9_latencyIf (σ : St) (p1 : Int32) (p2 : Int32) : Int32 × St := (let r3 := f_X9_isSource σ p1; (let v25 : Int32 := (if r3 = 0 then 1 else (let r14 := f_X9_isMost p2; (if r14 = 0 then 2 else 0))); (let r25 := (f_X9_refused σ v25).1; let s25 := (f_X9_refused σ v25).2; (if r25 = 0 then (let s34 := f_X9_keeps s25; (let r40 := f_X9_of s34 p1 1; (let v60 : Int32 := (if r40 = 0 then (let r48 := (f_X9_raises s34 p1).1; let s48 := (f_X9_raises s34 p1).2; r48) else (let r57 := (f_X9_lines s34 p1 1).1; let s57 := (f_X9_lines s34 p1 1).2; r57)); let s60 : St := (if r40 = 0 then (let r48 := (f_X9_raises s34 p1).1; let s48 := (f_X9_raises s34 p1).2; s48) else (let r57 := (f_X9_lines s34 p1 1).1; let s57 := (f_X9_lines s34 p1 1).2; s57)); (let r64 := (f_X9_enters s60 p1 p2).1; let s64 := (f_X9_enters s60 p1 p2).2; (let r73 := f_X9_of s64 p1 20; (let s79 := f_X9_takesBack s64; (if r64 = (-1) then ((-1), s79) else (r73, s79)))))))) else (0, s25)))))
theorem v_X9_latencyIf : cvV yX9_latencyIf "NestedBellsModel" cX9_latencyIf 6 (some (.int)) 2 := ⟨q_6_22, q_6_23, q_1_10, q_6_24, rfl, by decide +kernel, by decide +kernel, by decide +kernel⟩
set_option maxHeartbeats 4000000 in
set_option maxRecDepth 100000 in
theorem k_X9_latencyIf {l : Launch} {D : va_G} {T : Nat → ClassId} {g ad : Nat → Nat} {σ : St} {p1 : Int32} {p2 : Int32} (I0 : InvD σ) : mX l yX9_latencyIf cX9_latencyIf 6 (some (.int)) rmX9_latencyIf D T g 6 ad (cE (dE T ad) σ) [.ref (ad 0), .int p1, .int p2] (qI D 6 ad (dE T ad) (pI (f_X9_latencyIf σ p1 p2) InvD)) := by
  refine mX.of (own := "NestedBellsModel") (by decide +kernel) (Nat.le_of_ble_eq_true rfl) rfl ?_
  intro p e s m below meth c A ls H locs Z hr hlk _ hw hl
  have hx := Z.1.1
  have hb := Z.1.2.1
  have hl : lv_has ls 6 [(0, .ref (ad 0)), (1, .int p1), (2, .int p2)] := hl
  refine lv_aload_n hx hb dX9_latencyIf_0 rfl (lv_at hl 0 rfl) ?_
  refine lv_aload_n hx hb dX9_latencyIf_1 rfl (lv_at hl 0 rfl) ?_
  refine lv_iload_n hx hb dX9_latencyIf_2 rfl (lv_at hl 1 rfl) ?_
  refine bk_ip (rnV (rest := [.ref (ad 0)]) Z hw (k_X9_isSource (p1 := p1) I0) v_X9_isSource q_5_47 (0) (by decide) rfl rfl rfl rfl hl.1 rfl rfl (Nat.le_of_ble_eq_true rfl) ⟨(Nat.le_of_ble_eq_true rfl), (Nat.le_of_ble_eq_true rfl)⟩ ⟨(Nat.le_of_ble_eq_true rfl), (Nat.le_of_ble_eq_true rfl)⟩ dX9_latencyIf_3) hw Z (fun r3 er3 H locs hw => ?_)
  have hj25 : ∀ (v25 : Int32) (H : Heap) (locs : List Loc) (ls : Array Slot), ((if r3 = 0 then 1 else (let r14 := f_X9_isMost p2; (if r14 = 0 then 2 else 0))) : Int32) = v25 → wo D A s.heap 6 ad (cE (dE T ad) σ) H locs → lv_has ls 6 [(0, .ref (ad 0)), (1, .int p1), (2, .int p2)] → W p l e rmX9_latencyIf s m [.ref (ad 0), .int p1, .int p2].toArray below meth c H locs 0 0 (MQ below (qI D 6 ad (dE T ad) (pI (f_X9_latencyIf σ p1 p2) InvD) A) [.ref (ad 0), .int p1, .int p2].toArray s rmX9_latencyIf.cells rmX9_latencyIf.slots A) (F0 m 25 ls [.int v25, .ref (ad 0)]) := by
    intro v25 H locs ls ev25 hw hl
    refine bk_i (rnV (rest := []) Z hw (k_X9_refused (p1 := v25) I0) v_X9_refused q_5_17 (0) (by decide) rfl rfl rfl rfl hl.1 rfl rfl (Nat.le_of_ble_eq_true rfl) ⟨(Nat.le_of_ble_eq_true rfl), (Nat.le_of_ble_eq_true rfl)⟩ ⟨(Nat.le_of_ble_eq_true rfl), (Nat.le_of_ble_eq_true rfl)⟩ dX9_latencyIf_25) hw Z (fun r25 s25 H locs hp hw => ?_)
    obtain ⟨er25, es25, I25⟩ := hp
    refine lv_if_eq (tgt := 33) hx hb dX9_latencyIf_28 (by decide) (fun c28 => ?_) (fun c28 => ?_)
    · have hs := src_rng12 I0 er3 (tree_ne ev25 (by decide) (ref0 er25 c28))
      obtain ⟨q17, eq17, nq17⟩ := tree2 ev25 (ref0 er25 c28)
      have hb2 : p2.toInt ≤ 1000 := (in_of eq17 nq17).2
      refine lv_aload_n hx hb dX9_latencyIf_33 rfl (lv_at hl 0 rfl) ?_
      refine bk_v (rnV (rest := []) Z hw (k_X9_keeps  I25) v_X9_keeps q_6_5 (0) (by decide) rfl rfl rfl rfl hl.1 rfl rfl (Nat.le_of_ble_eq_true rfl) ⟨(Nat.le_of_ble_eq_true rfl), (Nat.le_of_ble_eq_true rfl)⟩ ⟨(Nat.le_of_ble_eq_true rfl), (Nat.le_of_ble_eq_true rfl)⟩ dX9_latencyIf_34) hw Z (fun s34 H locs hp hw => ?_)
      obtain ⟨es34, I34⟩ := hp
      refine lv_aload_n hx hb dX9_latencyIf_37 rfl (lv_at hl 0 rfl) ?_
      refine lv_iload_n hx hb dX9_latencyIf_38 rfl (lv_at hl 1 rfl) ?_
      refine lv_iconst (v := 1) hx hb dX9_latencyIf_39 (by decide +kernel) ?_
      refine bk_ip (rnV (rest := []) Z hw (k_X9_of (p1 := p1) (p2 := 1) I34 hs (by decide +kernel)) v_X9_of q_5_70 (0) (by decide) rfl rfl rfl rfl hl.1 rfl rfl (Nat.le_of_ble_eq_true rfl) ⟨(Nat.le_of_ble_eq_true rfl), (Nat.le_of_ble_eq_true rfl)⟩ ⟨(Nat.le_of_ble_eq_true rfl), (Nat.le_of_ble_eq_true rfl)⟩ dX9_latencyIf_40) hw Z (fun r40 er40 H locs hw => ?_)
      have hj60 : ∀ (v60 : Int32) (s60 : St) (H : Heap) (locs : List Loc) (ls : Array Slot), ((if r40 = 0 then (let r48 := (f_X9_raises s34 p1).1; let s48 := (f_X9_raises s34 p1).2; r48) else (let r57 := (f_X9_lines s34 p1 1).1; let s57 := (f_X9_lines s34 p1 1).2; r57)) : Int32) = v60 → ((if r40 = 0 then (let r48 := (f_X9_raises s34 p1).1; let s48 := (f_X9_raises s34 p1).2; s48) else (let r57 := (f_X9_lines s34 p1 1).1; let s57 := (f_X9_lines s34 p1 1).2; s57)) : St) = s60 → InvD s60 → wo D A s.heap 6 ad (cE (dE T ad) s60) H locs → lv_has ls 6 [(0, .ref (ad 0)), (1, .int p1), (2, .int p2)] → W p l e rmX9_latencyIf s m [.ref (ad 0), .int p1, .int p2].toArray below meth c H locs 0 0 (MQ below (qI D 6 ad (dE T ad) (pI (f_X9_latencyIf σ p1 p2) InvD) A) [.ref (ad 0), .int p1, .int p2].toArray s rmX9_latencyIf.cells rmX9_latencyIf.slots A) (F0 m 60 ls [.int v60]) := by
        intro v60 s60 H locs ls ev60 es60 I60 hw hl
        refine lv_istore_n (lv' := [(3, .int v60), (0, .ref (ad 0)), (1, .int p1), (2, .int p2)]) hx hb dX9_latencyIf_60 rfl hl (by decide) rfl (fun ls hl => ?_)
        refine lv_aload_n hx hb dX9_latencyIf_61 rfl (lv_at hl 1 rfl) ?_
        refine lv_iload_n hx hb dX9_latencyIf_62 rfl (lv_at hl 2 rfl) ?_
        refine lv_iload_n hx hb dX9_latencyIf_63 rfl (lv_at hl 3 rfl) ?_
        refine bk_i (rnV (rest := []) Z hw (k_X9_enters (p1 := p1) (p2 := p2) I60 hs hb2) v_X9_enters q_6_9 (0) (by decide) rfl rfl rfl rfl hl.1 rfl rfl (Nat.le_of_ble_eq_true rfl) ⟨(Nat.le_of_ble_eq_true rfl), (Nat.le_of_ble_eq_true rfl)⟩ ⟨(Nat.le_of_ble_eq_true rfl), (Nat.le_of_ble_eq_true rfl)⟩ dX9_latencyIf_64) hw Z (fun r64 s64 H locs hp hw => ?_)
        obtain ⟨er64, es64, I64⟩ := hp
        refine lv_istore (lv' := [(4, .int r64), (3, .int v60), (0, .ref (ad 0)), (1, .int p1), (2, .int p2)]) hx hb dX9_latencyIf_67 hl (by decide) rfl (fun ls hl => ?_)
        refine lv_aload_n hx hb dX9_latencyIf_69 rfl (lv_at hl 2 rfl) ?_
        refine lv_iload_n hx hb dX9_latencyIf_70 rfl (lv_at hl 3 rfl) ?_
        refine lv_bipush (v := 20) hx hb dX9_latencyIf_71 (by decide +kernel) ?_
        refine bk_ip (rnV (rest := []) Z hw (k_X9_of (p1 := p1) (p2 := 20) I64 hs (by decide +kernel)) v_X9_of q_5_70 (0) (by decide) rfl rfl rfl rfl hl.1 rfl rfl (Nat.le_of_ble_eq_true rfl) ⟨(Nat.le_of_ble_eq_true rfl), (Nat.le_of_ble_eq_true rfl)⟩ ⟨(Nat.le_of_ble_eq_true rfl), (Nat.le_of_ble_eq_true rfl)⟩ dX9_latencyIf_73) hw Z (fun r73 er73 H locs hw => ?_)
        refine lv_istore (lv' := [(5, .int r73), (4, .int r64), (3, .int v60), (0, .ref (ad 0)), (1, .int p1), (2, .int p2)]) hx hb dX9_latencyIf_76 hl (by decide) rfl (fun ls hl => ?_)
        refine lv_aload_n hx hb dX9_latencyIf_78 rfl (lv_at hl 3 rfl) ?_
        refine bk_v (rnV (rest := []) Z hw (k_X9_takesBack  I64) v_X9_takesBack q_6_13 (0) (by decide) rfl rfl rfl rfl hl.1 rfl rfl (Nat.le_of_ble_eq_true rfl) ⟨(Nat.le_of_ble_eq_true rfl), (Nat.le_of_ble_eq_true rfl)⟩ ⟨(Nat.le_of_ble_eq_true rfl), (Nat.le_of_ble_eq_true rfl)⟩ dX9_latencyIf_79) hw Z (fun s79 H locs hp hw => ?_)
        obtain ⟨es79, I79⟩ := hp
        refine lv_iload hx hb dX9_latencyIf_82 (lv_at hl 1 rfl) ?_
        refine lv_iconst (v := (-1)) hx hb dX9_latencyIf_84 (by decide +kernel) ?_
        refine lv_icmp_ne (tgt := 92) hx hb dX9_latencyIf_85 (by decide) (fun c85 => ?_) (fun c85 => ?_)
        · refine lv_iload hx hb dX9_latencyIf_92 (lv_at hl 0 rfl) ?_
          exact rt_i Z hr hlk hw dX9_latencyIf_94 (pI.mk (by subst es79 er73 es64 er64 es60 ev60 er40 es34 es25 er25 ev25 er3; exact (lf_t c28 (lf_f c85 rfl))) I79)
        · refine lv_iconst (v := (-1)) hx hb dX9_latencyIf_88 (by decide +kernel) ?_
          refine lv_goto (tgt := 94) hx hb dX9_latencyIf_89 (by decide) ?_
          exact rt_i Z hr hlk hw dX9_latencyIf_94 (pI.mk (by subst es79 er73 es64 er64 es60 ev60 er40 es34 es25 er25 ev25 er3; exact (lf_t c28 (lf_t c85 rfl))) I79)
      refine lv_if_ne (tgt := 54) hx hb dX9_latencyIf_43 (by decide) (fun c43 => ?_) (fun c43 => ?_)
      · refine lv_aload_n hx hb dX9_latencyIf_54 rfl (lv_at hl 0 rfl) ?_
        refine lv_iload_n hx hb dX9_latencyIf_55 rfl (lv_at hl 1 rfl) ?_
        refine lv_iconst (v := 1) hx hb dX9_latencyIf_56 (by decide +kernel) ?_
        refine bk_i (rnV (rest := []) Z hw (k_X9_lines (p1 := p1) (p2 := 1) I34 (by decide) hs) v_X9_lines q_5_121 (0) (by decide) rfl rfl rfl rfl hl.1 rfl rfl (Nat.le_of_ble_eq_true rfl) ⟨(Nat.le_of_ble_eq_true rfl), (Nat.le_of_ble_eq_true rfl)⟩ ⟨(Nat.le_of_ble_eq_true rfl), (Nat.le_of_ble_eq_true rfl)⟩ dX9_latencyIf_57) hw Z (fun r57 s57 H locs hp hw => ?_)
        obtain ⟨er57, es57, I57⟩ := hp
        exact hj60 _ _ H locs ls (Eq.symm (by subst es57 er57; exact (lf_f c43 rfl))) (Eq.symm (by subst es57 er57; exact (lf_f c43 rfl))) I57 hw (lv_sub hl [0, 1, 2] rfl)
      · refine lv_aload_n hx hb dX9_latencyIf_46 rfl (lv_at hl 0 rfl) ?_
        refine lv_iload_n hx hb dX9_latencyIf_47 rfl (lv_at hl 1 rfl) ?_
        refine bk_i (rnV (rest := []) Z hw (k_X9_raises (p1 := p1) I34 hs) v_X9_raises q_5_105 (0) (by decide) rfl rfl rfl rfl hl.1 rfl rfl (Nat.le_of_ble_eq_true rfl) ⟨(Nat.le_of_ble_eq_true rfl), (Nat.le_of_ble_eq_true rfl)⟩ ⟨(Nat.le_of_ble_eq_true rfl), (Nat.le_of_ble_eq_true rfl)⟩ dX9_latencyIf_48) hw Z (fun r48 s48 H locs hp hw => ?_)
        obtain ⟨er48, es48, I48⟩ := hp
        refine lv_goto (tgt := 60) hx hb dX9_latencyIf_51 (by decide) ?_
        exact hj60 _ _ H locs ls (Eq.symm (by subst es48 er48; exact (lf_t c43 rfl))) (Eq.symm (by subst es48 er48; exact (lf_t c43 rfl))) I48 hw (lv_sub hl [0, 1, 2] rfl)
    · refine lv_iconst (v := 0) hx hb dX9_latencyIf_31 (by decide +kernel) ?_
      exact rt_i Z hr hlk hw dX9_latencyIf_32 (pI.mk (by subst es25 er25 ev25 er3; exact (lf_f c28 rfl)) I25)
  refine lv_if_ne (tgt := 13) hx hb dX9_latencyIf_6 (by decide) (fun c6 => ?_) (fun c6 => ?_)
  · refine lv_iload_n hx hb dX9_latencyIf_13 rfl (lv_at hl 2 rfl) ?_
    refine bk_ip (rnS (rest := [.ref (ad 0)]) Z hw (k_X9_isMost (p1 := p2) ) v_X9_isMost rfl q_6_2 hl.1 rfl rfl (Nat.le_of_ble_eq_true rfl) ⟨(Nat.le_of_ble_eq_true rfl), (Nat.le_of_ble_eq_true rfl)⟩ ⟨(Nat.le_of_ble_eq_true rfl), (Nat.le_of_ble_eq_true rfl)⟩ dX9_latencyIf_14) hw Z (fun r14 er14 H locs hw => ?_)
    refine lv_if_eq (tgt := 24) hx hb dX9_latencyIf_17 (by decide) (fun c17 => ?_) (fun c17 => ?_)
    · refine lv_iconst (v := 2) hx hb dX9_latencyIf_24 (by decide +kernel) ?_
      exact hj25 _ H locs ls (Eq.symm (by subst er14; exact (lf_f c6 (lf_t c17 rfl)))) hw (lv_sub hl [0, 1, 2] rfl)
    · refine lv_iconst (v := 0) hx hb dX9_latencyIf_20 (by decide +kernel) ?_
      refine lv_goto (tgt := 25) hx hb dX9_latencyIf_21 (by decide) ?_
      exact hj25 _ H locs ls (Eq.symm (by subst er14; exact (lf_f c6 (lf_f c17 rfl)))) hw (lv_sub hl [0, 1, 2] rfl)
  · refine lv_iconst (v := 1) hx hb dX9_latencyIf_9 (by decide +kernel) ?_
    refine lv_goto (tgt := 25) hx hb dX9_latencyIf_10 (by decide) ?_
    exact hj25 _ H locs ls (Eq.symm (lf_t c6 rfl)) hw (lv_sub hl [0, 1, 2] rfl)
abbrev rmX9_blocking : Room := { frames := 2, cells := 0, slots := 0, locals := 43 }
def f_X9_blocking_l40 (p1 : Int32) (k26 : Nat) : Nat → Nat → Int32 → St → Int32
  | 0, k40, a40_2, t40 => (a40_2)
  | n40 + 1, k40, a40_2, t40 => (let r46 := f_X9_of t40 (nI k26) 7; (if r46 ≤ (nI k40) then a40_2 else (let r61 := f_X9_of t40 (nI k26) (8 + (3 * (nI k40))); (let r79 := f_X9_of t40 (nI k26) ((8 + (3 * (nI k40))) + 1); (let r90 := f_X9_of t40 (nI k26) 2; (let v107 : Int32 := (if r90 ≤ (r61 + r79) then (let r104 := f_X9_of t40 (nI k26) 2; r104) else r61 + r79); (let r112 := f_X9_of t40 (nI k26) 0; (let r118 := f_X9_of t40 p1 0; (let v152 : Int32 := (if r118 ≤ r112 then 0 else (let r135 := f_X9_of t40 (nI k26) ((8 + (3 * (nI k40))) + 2); (let r141 := f_X9_of t40 p1 0; (if r135 < r141 then 0 else 1)))); (let v172 : Int32 := (if v152 = 0 then a40_2 else (let r165 := f_X9_greater a40_2 (v107 - r61); r165)); (f_X9_blocking_l40 p1 k26 n40 (k40 + 1) v172 t40)))))))))))
def f_X9_blocking_l26 (p1 : Int32) : Nat → Nat → Int32 → St → Int32
  | 0, k26, a26_2, t26 => (a26_2)
  | n26 + 1, k26, a26_2, t26 => (if (t26 1 8) ≤ (nI k26) then a26_2 else (let w40_2 := (f_X9_blocking_l40 p1 k26 fu3 0 a26_2 t26); (f_X9_blocking_l26 p1 n26 (k26 + 1) w40_2 t26)))
def f_X9_blocking (σ : St) (p1 : Int32) : Int32 × St := (let r3 := f_X9_isSource σ p1; (let v14 : Int32 := (if r3 = 0 then 1 else 0); (let r14 := (f_X9_refused σ v14).1; let s14 := (f_X9_refused σ v14).2; (if r14 = 0 then (let w26_2 := (f_X9_blocking_l26 p1 fu13 0 0 s14); (w26_2, s14)) else (0, s14)))))
theorem v_X9_blocking : cvV yX9_blocking "NestedBellsModel" cX9_blocking 8 (some (.int)) 1 := ⟨q_6_26, q_6_27, q_1_10, q_6_28, rfl, by decide +kernel, by decide +kernel, by decide +kernel⟩
set_option maxHeartbeats 4000000 in
set_option maxRecDepth 100000 in
theorem L_X9_blocking_40 {l : Launch} {D : va_G} {T : Nat → ClassId} {g ad : Nat → Nat} {p : Program} {e : Env} {s : State} {m : MethodId} {below : List Frame} {meth : Method} {c : Code} {A : Nat → Prop} {Qw : State → Prop} {p1 : Int32} {k26 : Nat} (Z : en p m c cX9_blocking 8 s [.ref (ad 0), .int p1].toArray "NestedBellsModel" D T g A) (hs : 0 ≤ p1.toInt ∧ p1.toInt < 12) (hkb26 : k26 < 12) : ∀ (n40 : Nat) (k40 : Nat) (a40_2 : Int32) (t40 : St) (H : Heap) (locs : List Loc) (ls : Array Slot), k40 ≤ 2 → 2 < k40 + n40 → InvD t40 → wo D A s.heap 6 ad (cE (dE T ad) t40) H locs → lv_has ls 8 [(4, .int (nI k40)), (3, .int (nI k26)), (2, .int a40_2), (0, .ref (ad 0)), (1, .int p1)] → (∀ (w40_2 : Int32) (H : Heap) (locs : List Loc) (ls : Array Slot), (f_X9_blocking_l40 p1 k26 n40 k40 a40_2 t40) = w40_2 → InvD t40 → wo D A s.heap 6 ad (cE (dE T ad) t40) H locs → lv_has ls 8 [(3, .int (nI k26)), (2, .int w40_2), (0, .ref (ad 0)), (1, .int p1)] → W p l e rmX9_blocking s m [.ref (ad 0), .int p1].toArray below meth c H locs 0 0 Qw (F0 m 179 ls [])) → W p l e rmX9_blocking s m [.ref (ad 0), .int p1].toArray below meth c H locs 0 0 Qw (F0 m 40 ls []) := by
  have hx := Z.1.1
  have hb := Z.1.2.1
  intro n40
  induction n40 with
  | zero =>
    intro k40 a40_2 t40 H locs ls hk40 hn40 It40 hw hl kk
    exact absurd hn40 (by omega)
  | succ n40 ih =>
    intro k40 a40_2 t40 H locs ls hk40 hn40 It40 hw hl kk
    refine lv_iload hx hb dX9_blocking_40 (lv_at hl 0 rfl) ?_
    refine lv_aload_n hx hb dX9_blocking_42 rfl (lv_at hl 3 rfl) ?_
    refine lv_iload_n hx hb dX9_blocking_43 rfl (lv_at hl 1 rfl) ?_
    refine lv_bipush (v := 7) hx hb dX9_blocking_44 (by decide +kernel) ?_
    refine bk_ip (rnV (rest := [.int (nI k40)]) Z hw (k_X9_of (p1 := nI k26) (p2 := 7) It40 (nI_rng (by omega) (by decide)) (by decide +kernel)) v_X9_of q_5_70 (0) (by decide) rfl rfl rfl rfl hl.1 rfl rfl (Nat.le_of_ble_eq_true rfl) ⟨(Nat.le_of_ble_eq_true rfl), (Nat.le_of_ble_eq_true rfl)⟩ ⟨(Nat.le_of_ble_eq_true rfl), (Nat.le_of_ble_eq_true rfl)⟩ dX9_blocking_46) hw Z (fun r46 er46 H locs hw => ?_)
    refine lv_icmp_ge (tgt := 179) hx hb dX9_blocking_49 (by decide) (fun c49 => ?_) (fun c49 => ?_)
    · exact kk _ H locs ls (Eq.symm (by subst er46; exact (lf_t c49 rfl))) It40 hw (lv_sub hl [1, 2, 3, 4] rfl)
    · have hkb40 : k40 < 2 := kb_ge c49 (sec_of It40 (nI_rng hkb26 (by decide)) er46).2 hk40 (by decide)
      refine lv_aload_n hx hb dX9_blocking_52 rfl (lv_at hl 3 rfl) ?_
      refine lv_iload_n hx hb dX9_blocking_53 rfl (lv_at hl 1 rfl) ?_
      refine lv_bipush (v := 8) hx hb dX9_blocking_54 (by decide +kernel) ?_
      refine lv_iconst (v := 3) hx hb dX9_blocking_56 (by decide +kernel) ?_
      refine lv_iload hx hb dX9_blocking_57 (lv_at hl 0 rfl) ?_
      refine lv_imul hx hb dX9_blocking_59 ?_
      refine lv_iadd hx hb dX9_blocking_60 ?_
      refine bk_ip (rnV (rest := []) Z hw (k_X9_of (p1 := nI k26) (p2 := 8 + (3 * (nI k40))) It40 (nI_rng (by omega) (by decide)) (w8 (nI_rng hkb40 (by decide)))) v_X9_of q_5_70 (0) (by decide) rfl rfl rfl rfl hl.1 rfl rfl (Nat.le_of_ble_eq_true rfl) ⟨(Nat.le_of_ble_eq_true rfl), (Nat.le_of_ble_eq_true rfl)⟩ ⟨(Nat.le_of_ble_eq_true rfl), (Nat.le_of_ble_eq_true rfl)⟩ dX9_blocking_61) hw Z (fun r61 er61 H locs hw => ?_)
      refine lv_istore (lv' := [(5, .int r61), (4, .int (nI k40)), (3, .int (nI k26)), (2, .int a40_2), (0, .ref (ad 0)), (1, .int p1)]) hx hb dX9_blocking_64 hl (by decide) rfl (fun ls hl => ?_)
      refine lv_iload hx hb dX9_blocking_66 (lv_at hl 0 rfl) ?_
      refine lv_aload_n hx hb dX9_blocking_68 rfl (lv_at hl 4 rfl) ?_
      refine lv_iload_n hx hb dX9_blocking_69 rfl (lv_at hl 2 rfl) ?_
      refine lv_bipush (v := 8) hx hb dX9_blocking_70 (by decide +kernel) ?_
      refine lv_iconst (v := 3) hx hb dX9_blocking_72 (by decide +kernel) ?_
      refine lv_iload hx hb dX9_blocking_73 (lv_at hl 1 rfl) ?_
      refine lv_imul hx hb dX9_blocking_75 ?_
      refine lv_iadd hx hb dX9_blocking_76 ?_
      refine lv_iconst (v := 1) hx hb dX9_blocking_77 (by decide +kernel) ?_
      refine lv_iadd hx hb dX9_blocking_78 ?_
      refine bk_ip (rnV (rest := [.int r61]) Z hw (k_X9_of (p1 := nI k26) (p2 := (8 + (3 * (nI k40))) + 1) It40 (nI_rng (by omega) (by decide)) (w8p (nI_rng hkb40 (by decide)) (y := 1) (by decide +kernel))) v_X9_of q_5_70 (0) (by decide) rfl rfl rfl rfl hl.1 rfl rfl (Nat.le_of_ble_eq_true rfl) ⟨(Nat.le_of_ble_eq_true rfl), (Nat.le_of_ble_eq_true rfl)⟩ ⟨(Nat.le_of_ble_eq_true rfl), (Nat.le_of_ble_eq_true rfl)⟩ dX9_blocking_79) hw Z (fun r79 er79 H locs hw => ?_)
      refine lv_iadd hx hb dX9_blocking_82 ?_
      refine lv_istore (lv' := [(6, .int (r61 + r79)), (5, .int r61), (4, .int (nI k40)), (3, .int (nI k26)), (2, .int a40_2), (0, .ref (ad 0)), (1, .int p1)]) hx hb dX9_blocking_83 hl (by decide) rfl (fun ls hl => ?_)
      refine lv_iload hx hb dX9_blocking_85 (lv_at hl 0 rfl) ?_
      refine lv_aload_n hx hb dX9_blocking_87 rfl (lv_at hl 5 rfl) ?_
      refine lv_iload_n hx hb dX9_blocking_88 rfl (lv_at hl 3 rfl) ?_
      refine lv_iconst (v := 2) hx hb dX9_blocking_89 (by decide +kernel) ?_
      refine bk_ip (rnV (rest := [.int (r61 + r79)]) Z hw (k_X9_of (p1 := nI k26) (p2 := 2) It40 (nI_rng (by omega) (by decide)) (by decide +kernel)) v_X9_of q_5_70 (0) (by decide) rfl rfl rfl rfl hl.1 rfl rfl (Nat.le_of_ble_eq_true rfl) ⟨(Nat.le_of_ble_eq_true rfl), (Nat.le_of_ble_eq_true rfl)⟩ ⟨(Nat.le_of_ble_eq_true rfl), (Nat.le_of_ble_eq_true rfl)⟩ dX9_blocking_90) hw Z (fun r90 er90 H locs hw => ?_)
      have hj107 : ∀ (v107 : Int32) (H : Heap) (locs : List Loc) (ls : Array Slot), ((if r90 ≤ (r61 + r79) then (let r104 := f_X9_of t40 (nI k26) 2; r104) else r61 + r79) : Int32) = v107 → wo D A s.heap 6 ad (cE (dE T ad) t40) H locs → lv_has ls 8 [(5, .int r61), (4, .int (nI k40)), (3, .int (nI k26)), (2, .int a40_2), (0, .ref (ad 0)), (1, .int p1)] → W p l e rmX9_blocking s m [.ref (ad 0), .int p1].toArray below meth c H locs 0 0 Qw (F0 m 107 ls [.int v107]) := by
        intro v107 H locs ls ev107 hw hl
        refine lv_istore (lv' := [(6, .int v107), (5, .int r61), (4, .int (nI k40)), (3, .int (nI k26)), (2, .int a40_2), (0, .ref (ad 0)), (1, .int p1)]) hx hb dX9_blocking_107 hl (by decide) rfl (fun ls hl => ?_)
        refine lv_aload_n hx hb dX9_blocking_109 rfl (lv_at hl 5 rfl) ?_
        refine lv_iload_n hx hb dX9_blocking_110 rfl (lv_at hl 3 rfl) ?_
        refine lv_iconst (v := 0) hx hb dX9_blocking_111 (by decide +kernel) ?_
        refine bk_ip (rnV (rest := []) Z hw (k_X9_of (p1 := nI k26) (p2 := 0) It40 (nI_rng (by omega) (by decide)) (by decide +kernel)) v_X9_of q_5_70 (0) (by decide) rfl rfl rfl rfl hl.1 rfl rfl (Nat.le_of_ble_eq_true rfl) ⟨(Nat.le_of_ble_eq_true rfl), (Nat.le_of_ble_eq_true rfl)⟩ ⟨(Nat.le_of_ble_eq_true rfl), (Nat.le_of_ble_eq_true rfl)⟩ dX9_blocking_112) hw Z (fun r112 er112 H locs hw => ?_)
        refine lv_aload_n hx hb dX9_blocking_115 rfl (lv_at hl 5 rfl) ?_
        refine lv_iload_n hx hb dX9_blocking_116 rfl (lv_at hl 6 rfl) ?_
        refine lv_iconst (v := 0) hx hb dX9_blocking_117 (by decide +kernel) ?_
        refine bk_ip (rnV (rest := [.int r112]) Z hw (k_X9_of (p1 := p1) (p2 := 0) It40 hs (by decide +kernel)) v_X9_of q_5_70 (0) (by decide) rfl rfl rfl rfl hl.1 rfl rfl (Nat.le_of_ble_eq_true rfl) ⟨(Nat.le_of_ble_eq_true rfl), (Nat.le_of_ble_eq_true rfl)⟩ ⟨(Nat.le_of_ble_eq_true rfl), (Nat.le_of_ble_eq_true rfl)⟩ dX9_blocking_118) hw Z (fun r118 er118 H locs hw => ?_)
        have hj152 : ∀ (v152 : Int32) (H : Heap) (locs : List Loc) (ls : Array Slot), ((if r118 ≤ r112 then 0 else (let r135 := f_X9_of t40 (nI k26) ((8 + (3 * (nI k40))) + 2); (let r141 := f_X9_of t40 p1 0; (if r135 < r141 then 0 else 1)))) : Int32) = v152 → wo D A s.heap 6 ad (cE (dE T ad) t40) H locs → lv_has ls 8 [(6, .int v107), (5, .int r61), (4, .int (nI k40)), (3, .int (nI k26)), (2, .int a40_2), (0, .ref (ad 0)), (1, .int p1)] → W p l e rmX9_blocking s m [.ref (ad 0), .int p1].toArray below meth c H locs 0 0 Qw (F0 m 152 ls [.int v152]) := by
          intro v152 H locs ls ev152 hw hl
          refine lv_istore (lv' := [(7, .int v152), (6, .int v107), (5, .int r61), (4, .int (nI k40)), (3, .int (nI k26)), (2, .int a40_2), (0, .ref (ad 0)), (1, .int p1)]) hx hb dX9_blocking_152 hl (by decide) rfl (fun ls hl => ?_)
          refine lv_iload hx hb dX9_blocking_154 (lv_at hl 0 rfl) ?_
          have hj172 : ∀ (v172 : Int32) (H : Heap) (locs : List Loc) (ls : Array Slot), ((if v152 = 0 then a40_2 else (let r165 := f_X9_greater a40_2 (v107 - r61); r165)) : Int32) = v172 → wo D A s.heap 6 ad (cE (dE T ad) t40) H locs → lv_has ls 8 [(4, .int (nI k40)), (3, .int (nI k26)), (0, .ref (ad 0)), (1, .int p1)] → W p l e rmX9_blocking s m [.ref (ad 0), .int p1].toArray below meth c H locs 0 0 Qw (F0 m 172 ls [.int v172]) := by
            intro v172 H locs ls ev172 hw hl
            refine lv_istore_n (lv' := [(2, .int v172), (4, .int (nI k40)), (3, .int (nI k26)), (0, .ref (ad 0)), (1, .int p1)]) hx hb dX9_blocking_172 rfl hl (by decide) rfl (fun ls hl => ?_)
            refine lv_iinc (v := nI (k40 + 1)) (lv' := [(4, .int (nI (k40 + 1))), (2, .int v172), (3, .int (nI k26)), (0, .ref (ad 0)), (1, .int p1)]) hx hb dX9_blocking_173 hl (k := 1) rfl (nI_1 _) (by decide) rfl (fun ls hl => ?_)
            refine lv_goto (tgt := 40) hx hb dX9_blocking_176 (by decide) ?_
            exact ih (k40 + 1) v172 t40 H locs ls (by omega) (by omega) It40 hw (lv_sub hl [0, 2, 1, 3, 4] rfl) (fun w40_2 H locs ls ew40_2 I40 hw hl => kk w40_2 H locs ls (Eq.trans (Eq.symm (show (f_X9_blocking_l40 p1 k26 n40 (k40 + 1) v172 t40) = _ from (by subst ev172 ev152 er118 er112 ev107 er90 er79 er61 er46; exact (lf_f c49 rfl)))) ew40_2) I40 hw hl)
          refine lv_if_eq (tgt := 171) hx hb dX9_blocking_156 (by decide) (fun c156 => ?_) (fun c156 => ?_)
          · refine lv_iload_n hx hb dX9_blocking_171 rfl (lv_at hl 5 rfl) ?_
            exact hj172 _ H locs ls (Eq.symm (lf_t c156 rfl)) hw (lv_sub hl [3, 4, 6, 7] rfl)
          · refine lv_iload_n hx hb dX9_blocking_159 rfl (lv_at hl 5 rfl) ?_
            refine lv_iload hx hb dX9_blocking_160 (lv_at hl 1 rfl) ?_
            refine lv_iload hx hb dX9_blocking_162 (lv_at hl 2 rfl) ?_
            refine lv_isub hx hb dX9_blocking_164 ?_
            refine bk_ip (rnS (rest := []) Z hw (k_X9_greater (p1 := a40_2) (p2 := v107 - r61) ) v_X9_greater rfl q_5_175 hl.1 rfl rfl (Nat.le_of_ble_eq_true rfl) ⟨(Nat.le_of_ble_eq_true rfl), (Nat.le_of_ble_eq_true rfl)⟩ ⟨(Nat.le_of_ble_eq_true rfl), (Nat.le_of_ble_eq_true rfl)⟩ dX9_blocking_165) hw Z (fun r165 er165 H locs hw => ?_)
            refine lv_goto (tgt := 172) hx hb dX9_blocking_168 (by decide) ?_
            exact hj172 _ H locs ls (Eq.symm (by subst er165; exact (lf_f c156 rfl))) hw (lv_sub hl [3, 4, 6, 7] rfl)
        refine lv_icmp_ge (tgt := 151) hx hb dX9_blocking_121 (by decide) (fun c121 => ?_) (fun c121 => ?_)
        · refine lv_iconst (v := 0) hx hb dX9_blocking_151 (by decide +kernel) ?_
          exact hj152 _ H locs ls (Eq.symm (lf_t c121 rfl)) hw (lv_sub hl [0, 1, 2, 3, 4, 5, 6] rfl)
        · refine lv_aload_n hx hb dX9_blocking_124 rfl (lv_at hl 5 rfl) ?_
          refine lv_iload_n hx hb dX9_blocking_125 rfl (lv_at hl 3 rfl) ?_
          refine lv_bipush (v := 8) hx hb dX9_blocking_126 (by decide +kernel) ?_
          refine lv_iconst (v := 3) hx hb dX9_blocking_128 (by decide +kernel) ?_
          refine lv_iload hx hb dX9_blocking_129 (lv_at hl 2 rfl) ?_
          refine lv_imul hx hb dX9_blocking_131 ?_
          refine lv_iadd hx hb dX9_blocking_132 ?_
          refine lv_iconst (v := 2) hx hb dX9_blocking_133 (by decide +kernel) ?_
          refine lv_iadd hx hb dX9_blocking_134 ?_
          refine bk_ip (rnV (rest := []) Z hw (k_X9_of (p1 := nI k26) (p2 := (8 + (3 * (nI k40))) + 2) It40 (nI_rng (by omega) (by decide)) (w8p (nI_rng hkb40 (by decide)) (y := 2) (by decide +kernel))) v_X9_of q_5_70 (0) (by decide) rfl rfl rfl rfl hl.1 rfl rfl (Nat.le_of_ble_eq_true rfl) ⟨(Nat.le_of_ble_eq_true rfl), (Nat.le_of_ble_eq_true rfl)⟩ ⟨(Nat.le_of_ble_eq_true rfl), (Nat.le_of_ble_eq_true rfl)⟩ dX9_blocking_135) hw Z (fun r135 er135 H locs hw => ?_)
          refine lv_aload_n hx hb dX9_blocking_138 rfl (lv_at hl 5 rfl) ?_
          refine lv_iload_n hx hb dX9_blocking_139 rfl (lv_at hl 6 rfl) ?_
          refine lv_iconst (v := 0) hx hb dX9_blocking_140 (by decide +kernel) ?_
          refine bk_ip (rnV (rest := [.int r135]) Z hw (k_X9_of (p1 := p1) (p2 := 0) It40 hs (by decide +kernel)) v_X9_of q_5_70 (0) (by decide) rfl rfl rfl rfl hl.1 rfl rfl (Nat.le_of_ble_eq_true rfl) ⟨(Nat.le_of_ble_eq_true rfl), (Nat.le_of_ble_eq_true rfl)⟩ ⟨(Nat.le_of_ble_eq_true rfl), (Nat.le_of_ble_eq_true rfl)⟩ dX9_blocking_141) hw Z (fun r141 er141 H locs hw => ?_)
          refine lv_icmp_lt (tgt := 151) hx hb dX9_blocking_144 (by decide) (fun c144 => ?_) (fun c144 => ?_)
          · refine lv_iconst (v := 0) hx hb dX9_blocking_151 (by decide +kernel) ?_
            exact hj152 _ H locs ls (Eq.symm (by subst er141 er135; exact (lf_f c121 (lf_t c144 rfl)))) hw (lv_sub hl [0, 1, 2, 3, 4, 5, 6] rfl)
          · refine lv_iconst (v := 1) hx hb dX9_blocking_147 (by decide +kernel) ?_
            refine lv_goto (tgt := 152) hx hb dX9_blocking_148 (by decide) ?_
            exact hj152 _ H locs ls (Eq.symm (by subst er141 er135; exact (lf_f c121 (lf_f c144 rfl)))) hw (lv_sub hl [0, 1, 2, 3, 4, 5, 6] rfl)
      refine lv_icmp_ge (tgt := 101) hx hb dX9_blocking_93 (by decide) (fun c93 => ?_) (fun c93 => ?_)
      · refine lv_aload_n hx hb dX9_blocking_101 rfl (lv_at hl 5 rfl) ?_
        refine lv_iload_n hx hb dX9_blocking_102 rfl (lv_at hl 3 rfl) ?_
        refine lv_iconst (v := 2) hx hb dX9_blocking_103 (by decide +kernel) ?_
        refine bk_ip (rnV (rest := []) Z hw (k_X9_of (p1 := nI k26) (p2 := 2) It40 (nI_rng (by omega) (by decide)) (by decide +kernel)) v_X9_of q_5_70 (0) (by decide) rfl rfl rfl rfl hl.1 rfl rfl (Nat.le_of_ble_eq_true rfl) ⟨(Nat.le_of_ble_eq_true rfl), (Nat.le_of_ble_eq_true rfl)⟩ ⟨(Nat.le_of_ble_eq_true rfl), (Nat.le_of_ble_eq_true rfl)⟩ dX9_blocking_104) hw Z (fun r104 er104 H locs hw => ?_)
        exact hj107 _ H locs ls (Eq.symm (by subst er104; exact (lf_t c93 rfl))) hw (lv_sub hl [1, 2, 3, 4, 5, 6] rfl)
      · refine lv_iload hx hb dX9_blocking_96 (lv_at hl 0 rfl) ?_
        refine lv_goto (tgt := 107) hx hb dX9_blocking_98 (by decide) ?_
        exact hj107 _ H locs ls (Eq.symm (lf_f c93 rfl)) hw (lv_sub hl [1, 2, 3, 4, 5, 6] rfl)
set_option maxHeartbeats 4000000 in
set_option maxRecDepth 100000 in
theorem L_X9_blocking_26 {l : Launch} {D : va_G} {T : Nat → ClassId} {g ad : Nat → Nat} {p : Program} {e : Env} {s : State} {m : MethodId} {below : List Frame} {meth : Method} {c : Code} {A : Nat → Prop} {Qw : State → Prop} {p1 : Int32} (Z : en p m c cX9_blocking 8 s [.ref (ad 0), .int p1].toArray "NestedBellsModel" D T g A) (hs : 0 ≤ p1.toInt ∧ p1.toInt < 12) : ∀ (n26 : Nat) (k26 : Nat) (a26_2 : Int32) (t26 : St) (H : Heap) (locs : List Loc) (ls : Array Slot), k26 ≤ 12 → 12 < k26 + n26 → InvD t26 → wo D A s.heap 6 ad (cE (dE T ad) t26) H locs → lv_has ls 8 [(3, .int (nI k26)), (2, .int a26_2), (0, .ref (ad 0)), (1, .int p1)] → (∀ (w26_2 : Int32) (H : Heap) (locs : List Loc) (ls : Array Slot), (f_X9_blocking_l26 p1 n26 k26 a26_2 t26) = w26_2 → InvD t26 → wo D A s.heap 6 ad (cE (dE T ad) t26) H locs → lv_has ls 8 [(2, .int w26_2)] → W p l e rmX9_blocking s m [.ref (ad 0), .int p1].toArray below meth c H locs 0 0 Qw (F0 m 185 ls [])) → W p l e rmX9_blocking s m [.ref (ad 0), .int p1].toArray below meth c H locs 0 0 Qw (F0 m 26 ls []) := by
  have hx := Z.1.1
  have hb := Z.1.2.1
  intro n26
  induction n26 with
  | zero =>
    intro k26 a26_2 t26 H locs ls hk26 hn26 It26 hw hl kk
    exact absurd hn26 (by omega)
  | succ n26 ih =>
    intro k26 a26_2 t26 H locs ls hk26 hn26 It26 hw hl kk
    refine lv_iload_n hx hb dX9_blocking_26 rfl (lv_at hl 0 rfl) ?_
    refine lv_aload_n hx hb dX9_blocking_27 rfl (lv_at hl 2 rfl) ?_
    refine gD (j := 0) (v := .ref (ad 1)) Z hw  (by decide) q_4_212 rfl rfl dX9_blocking_28 ?_
    refine lv_bipush (v := 8) hx hb dX9_blocking_31 (by decide +kernel) ?_
    refine aE (v := t26 1 8) Z hw 1 (by decide) rfl (fun _ => rfl) (vp_in_nI (n := 8) (by decide) (by decide)) ((congrArg (t26 1) (nI_clamp (n := 8) (by decide))).trans rfl) dX9_blocking_33 ?_
    refine lv_icmp_ge (tgt := 185) hx hb dX9_blocking_34 (by decide) (fun c34 => ?_) (fun c34 => ?_)
    · exact kk _ H locs ls (Eq.symm (lf_t c34 rfl)) It26 hw (lv_sub hl [1] rfl)
    · have hkb26 : k26 < 12 := kb_ge c34 It26.1.1.2 hk26 (by decide)
      refine lv_iconst (v := 0) hx hb dX9_blocking_37 (by decide +kernel) ?_
      refine lv_istore (lv' := [(4, .int 0), (3, .int (nI k26)), (2, .int a26_2), (0, .ref (ad 0)), (1, .int p1)]) hx hb dX9_blocking_38 hl (by decide) rfl (fun ls hl => ?_)
      refine L_X9_blocking_40 (p1 := p1) (k26 := k26) Z hs hkb26 fu3 0 a26_2 t26 H locs ls (by omega) (by unfold fu3; omega) It26 hw (lv_sub hl [0, 1, 2, 3, 4] rfl) (fun w40_2 H locs ls ew40_2 I40 hw hl => ?_)
      refine lv_iinc (v := nI (k26 + 1)) (lv' := [(3, .int (nI (k26 + 1))), (2, .int w40_2), (0, .ref (ad 0)), (1, .int p1)]) hx hb dX9_blocking_179 hl (k := 0) rfl (nI_1 _) (by decide) rfl (fun ls hl => ?_)
      refine lv_goto (tgt := 26) hx hb dX9_blocking_182 (by decide) ?_
      exact ih (k26 + 1) w40_2 t26 H locs ls (by omega) (by omega) I40 hw (lv_sub hl [0, 1, 2, 3] rfl) (fun w26_2 H locs ls ew26_2 I26 hw hl => kk w26_2 H locs ls (Eq.trans (Eq.symm (show (f_X9_blocking_l26 p1 n26 (k26 + 1) w40_2 t26) = _ from (by subst ew40_2; exact (lf_f c34 rfl)))) ew26_2) I26 hw hl)
set_option maxHeartbeats 4000000 in
set_option maxRecDepth 100000 in
theorem k_X9_blocking {l : Launch} {D : va_G} {T : Nat → ClassId} {g ad : Nat → Nat} {σ : St} {p1 : Int32} (I0 : InvD σ) : mX l yX9_blocking cX9_blocking 8 (some (.int)) rmX9_blocking D T g 6 ad (cE (dE T ad) σ) [.ref (ad 0), .int p1] (qI D 6 ad (dE T ad) (pI (f_X9_blocking σ p1) InvD)) := by
  refine mX.of (own := "NestedBellsModel") (by decide +kernel) (Nat.le_of_ble_eq_true rfl) rfl ?_
  intro p e s m below meth c A ls H locs Z hr hlk _ hw hl
  have hx := Z.1.1
  have hb := Z.1.2.1
  have hl : lv_has ls 8 [(0, .ref (ad 0)), (1, .int p1)] := hl
  refine lv_aload_n hx hb dX9_blocking_0 rfl (lv_at hl 0 rfl) ?_
  refine lv_aload_n hx hb dX9_blocking_1 rfl (lv_at hl 0 rfl) ?_
  refine lv_iload_n hx hb dX9_blocking_2 rfl (lv_at hl 1 rfl) ?_
  refine bk_ip (rnV (rest := [.ref (ad 0)]) Z hw (k_X9_isSource (p1 := p1) I0) v_X9_isSource q_5_47 (0) (by decide) rfl rfl rfl rfl hl.1 rfl rfl (Nat.le_of_ble_eq_true rfl) ⟨(Nat.le_of_ble_eq_true rfl), (Nat.le_of_ble_eq_true rfl)⟩ ⟨(Nat.le_of_ble_eq_true rfl), (Nat.le_of_ble_eq_true rfl)⟩ dX9_blocking_3) hw Z (fun r3 er3 H locs hw => ?_)
  have hj14 : ∀ (v14 : Int32) (H : Heap) (locs : List Loc) (ls : Array Slot), ((if r3 = 0 then 1 else 0) : Int32) = v14 → wo D A s.heap 6 ad (cE (dE T ad) σ) H locs → lv_has ls 8 [(0, .ref (ad 0)), (1, .int p1)] → W p l e rmX9_blocking s m [.ref (ad 0), .int p1].toArray below meth c H locs 0 0 (MQ below (qI D 6 ad (dE T ad) (pI (f_X9_blocking σ p1) InvD) A) [.ref (ad 0), .int p1].toArray s rmX9_blocking.cells rmX9_blocking.slots A) (F0 m 14 ls [.int v14, .ref (ad 0)]) := by
    intro v14 H locs ls ev14 hw hl
    refine bk_i (rnV (rest := []) Z hw (k_X9_refused (p1 := v14) I0) v_X9_refused q_5_17 (0) (by decide) rfl rfl rfl rfl hl.1 rfl rfl (Nat.le_of_ble_eq_true rfl) ⟨(Nat.le_of_ble_eq_true rfl), (Nat.le_of_ble_eq_true rfl)⟩ ⟨(Nat.le_of_ble_eq_true rfl), (Nat.le_of_ble_eq_true rfl)⟩ dX9_blocking_14) hw Z (fun r14 s14 H locs hp hw => ?_)
    obtain ⟨er14, es14, I14⟩ := hp
    refine lv_if_eq (tgt := 22) hx hb dX9_blocking_17 (by decide) (fun c17 => ?_) (fun c17 => ?_)
    · have hs := src_rng12 I0 er3 (tree_ne ev14 (by decide) (ref0 er14 c17))
      refine lv_iconst (v := 0) hx hb dX9_blocking_22 (by decide +kernel) ?_
      refine lv_istore_n (lv' := [(2, .int 0), (0, .ref (ad 0)), (1, .int p1)]) hx hb dX9_blocking_23 rfl hl (by decide) rfl (fun ls hl => ?_)
      refine lv_iconst (v := 0) hx hb dX9_blocking_24 (by decide +kernel) ?_
      refine lv_istore_n (lv' := [(3, .int 0), (2, .int 0), (0, .ref (ad 0)), (1, .int p1)]) hx hb dX9_blocking_25 rfl hl (by decide) rfl (fun ls hl => ?_)
      refine L_X9_blocking_26 (p1 := p1) Z hs fu13 0 0 s14 H locs ls (by omega) (by unfold fu13; omega) I14 hw (lv_sub hl [0, 1, 2, 3] rfl) (fun w26_2 H locs ls ew26_2 I26 hw hl => ?_)
      refine lv_iload_n hx hb dX9_blocking_185 rfl (lv_at hl 0 rfl) ?_
      exact rt_i Z hr hlk hw dX9_blocking_186 (pI.mk (by subst ew26_2 es14 er14 ev14 er3; exact (lf_t c17 rfl)) I26)
    · refine lv_iconst (v := 0) hx hb dX9_blocking_20 (by decide +kernel) ?_
      exact rt_i Z hr hlk hw dX9_blocking_21 (pI.mk (by subst es14 er14 ev14 er3; exact (lf_f c17 rfl)) I14)
  refine lv_if_eq (tgt := 13) hx hb dX9_blocking_6 (by decide) (fun c6 => ?_) (fun c6 => ?_)
  · refine lv_iconst (v := 1) hx hb dX9_blocking_13 (by decide +kernel) ?_
    exact hj14 _ H locs ls (Eq.symm (lf_t c6 rfl)) hw (lv_sub hl [0, 1] rfl)
  · refine lv_iconst (v := 0) hx hb dX9_blocking_9 (by decide +kernel) ?_
    refine lv_goto (tgt := 14) hx hb dX9_blocking_10 (by decide) ?_
    exact hj14 _ H locs ls (Eq.symm (lf_f c6 rfl)) hw (lv_sub hl [0, 1] rfl)
abbrev rmX9_type : Room := { frames := 1, cells := 0, slots := 0, locals := 22 }
def f_X9_type (σ : St) (p1 : Int32) : Int32 × St := (let r5 := f_X9_in p1 0 127; (let v30 : Int32 := (if r5 = 0 then 1 else (if (σ 0 6) = 150 then 2 else 0)); (let r30 := (f_X9_refused σ v30).1; let s30 := (f_X9_refused σ v30).2; (if r30 = 0 then ((s30 0 6) + 1, up2 (up2 s30 4 ((s30 0 6).toNatClampNeg) p1) 0 6 ((s30 0 6) + 1)) else (0, s30)))))
theorem v_X9_type : cvV yX9_type "NestedBellsModel" cX9_type 2 (some (.int)) 1 := ⟨q_6_30, q_6_31, q_1_10, q_6_32, rfl, by decide +kernel, by decide +kernel, by decide +kernel⟩
set_option maxHeartbeats 4000000 in
set_option maxRecDepth 100000 in
theorem k_X9_type {l : Launch} {D : va_G} {T : Nat → ClassId} {g ad : Nat → Nat} {σ : St} {p1 : Int32} (I0 : InvD σ) : mX l yX9_type cX9_type 2 (some (.int)) rmX9_type D T g 6 ad (cE (dE T ad) σ) [.ref (ad 0), .int p1] (qI D 6 ad (dE T ad) (pI (f_X9_type σ p1) InvD)) := by
  refine mX.of (own := "NestedBellsModel") (by decide +kernel) (Nat.le_of_ble_eq_true rfl) rfl ?_
  intro p e s m below meth c A ls H locs Z hr hlk _ hw hl
  have hx := Z.1.1
  have hb := Z.1.2.1
  have hl : lv_has ls 2 [(0, .ref (ad 0)), (1, .int p1)] := hl
  refine lv_aload_n hx hb dX9_type_0 rfl (lv_at hl 0 rfl) ?_
  refine lv_iload_n hx hb dX9_type_1 rfl (lv_at hl 1 rfl) ?_
  refine lv_iconst (v := 0) hx hb dX9_type_2 (by decide +kernel) ?_
  refine lv_bipush (v := 127) hx hb dX9_type_3 (by decide +kernel) ?_
  refine bk_ip (rnS (rest := [.ref (ad 0)]) Z hw (k_X9_in (p1 := p1) (p2 := 0) (p3 := 127) ) v_X9_in rfl q_5_29 hl.1 rfl rfl (Nat.le_of_ble_eq_true rfl) ⟨(Nat.le_of_ble_eq_true rfl), (Nat.le_of_ble_eq_true rfl)⟩ ⟨(Nat.le_of_ble_eq_true rfl), (Nat.le_of_ble_eq_true rfl)⟩ dX9_type_5) hw Z (fun r5 er5 H locs hw => ?_)
  have hj30 : ∀ (v30 : Int32) (H : Heap) (locs : List Loc) (ls : Array Slot), ((if r5 = 0 then 1 else (if (σ 0 6) = 150 then 2 else 0)) : Int32) = v30 → wo D A s.heap 6 ad (cE (dE T ad) σ) H locs → lv_has ls 2 [(0, .ref (ad 0)), (1, .int p1)] → W p l e rmX9_type s m [.ref (ad 0), .int p1].toArray below meth c H locs 0 0 (MQ below (qI D 6 ad (dE T ad) (pI (f_X9_type σ p1) InvD) A) [.ref (ad 0), .int p1].toArray s rmX9_type.cells rmX9_type.slots A) (F0 m 30 ls [.int v30, .ref (ad 0)]) := by
    intro v30 H locs ls ev30 hw hl
    refine bk_i (rnV (rest := []) Z hw (k_X9_refused (p1 := v30) I0) v_X9_refused q_5_17 (0) (by decide) rfl rfl rfl rfl hl.1 rfl rfl (Nat.le_of_ble_eq_true rfl) ⟨(Nat.le_of_ble_eq_true rfl), (Nat.le_of_ble_eq_true rfl)⟩ ⟨(Nat.le_of_ble_eq_true rfl), (Nat.le_of_ble_eq_true rfl)⟩ dX9_type_30) hw Z (fun r30 s30 H locs hp hw => ?_)
    obtain ⟨er30, es30, I30⟩ := hp
    refine lv_if_eq (tgt := 38) hx hb dX9_type_33 (by decide) (fun c33 => ?_) (fun c33 => ?_)
    · have hL0 := ty_L I0 ev30 (ref0 er30 c33)
      have hL : 0 ≤ (s30 0 6).toInt ∧ (s30 0 6).toInt < 150 := by rw [← es30, refused_st, up2_j (by decide)]; exact hL0
      refine lv_aload_n hx hb dX9_type_38 rfl (lv_at hl 0 rfl) ?_
      refine gD (j := 5) (v := .ref (ad 4)) Z hw  (by decide) q_4_217 rfl rfl dX9_type_39 ?_
      refine lv_aload_n hx hb dX9_type_42 rfl (lv_at hl 0 rfl) ?_
      refine gD (j := 6) (v := .int (s30 0 6)) Z hw  (by decide) q_4_218 rfl rfl dX9_type_43 ?_
      refine lv_iload_n hx hb dX9_type_46 rfl (lv_at hl 1 rfl) ?_
      refine sE (j := (s30 0 6).toNatClampNeg) Z hw 4 (by decide) rfl (fun _ => rfl) (vp_in_iff.mpr hL) rfl dX9_type_47 (fun H locs hw => ?_)
      refine lv_aload_n hx hb dX9_type_48 rfl (lv_at hl 0 rfl) ?_
      refine lv_dup hx hb dX9_type_49 rfl ?_
      refine gD (j := 6) (v := .int (s30 0 6)) Z hw  (by decide) q_4_218 rfl (congrArg (fun x => some (Value.int x)) (up2_k (by decide))) dX9_type_50 ?_
      refine lv_iconst (v := 1) hx hb dX9_type_53 (by decide +kernel) ?_
      refine lv_iadd hx hb dX9_type_54 ?_
      refine pD (j := 6) Z hw  (by decide) q_4_218 rfl rfl rfl rfl dX9_type_55 (fun H locs hw => ?_)
      refine lv_aload_n hx hb dX9_type_58 rfl (lv_at hl 0 rfl) ?_
      refine gD (j := 6) (v := .int ((s30 0 6) + 1)) Z hw  (by decide) q_4_218 rfl (congrArg (fun x => some (Value.int x)) up2_s) dX9_type_59 ?_
      exact rt_i Z hr hlk hw dX9_type_62 (pI.mk (by subst es30 er30 ev30 er5; exact (lf_t c33 rfl)) (InvD.len (inc_n hL (by decide)) (InvD.up I30 (by unfold InvDcr; omega))))
    · refine lv_iconst (v := 0) hx hb dX9_type_36 (by decide +kernel) ?_
      exact rt_i Z hr hlk hw dX9_type_37 (pI.mk (by subst es30 er30 ev30 er5; exact (lf_f c33 rfl)) I30)
  refine lv_if_ne (tgt := 15) hx hb dX9_type_8 (by decide) (fun c8 => ?_) (fun c8 => ?_)
  · refine lv_aload_n hx hb dX9_type_15 rfl (lv_at hl 0 rfl) ?_
    refine gD (j := 6) (v := .int (σ 0 6)) Z hw  (by decide) q_4_218 rfl rfl dX9_type_16 ?_
    refine lv_sipush (v := 150) hx hb dX9_type_19 (by decide +kernel) ?_
    refine lv_icmp_ne (tgt := 29) hx hb dX9_type_22 (by decide) (fun c22 => ?_) (fun c22 => ?_)
    · refine lv_iconst (v := 0) hx hb dX9_type_29 (by decide +kernel) ?_
      exact hj30 _ H locs ls (Eq.symm (lf_f c8 (lf_f c22 rfl))) hw (lv_sub hl [0, 1] rfl)
    · refine lv_iconst (v := 2) hx hb dX9_type_25 (by decide +kernel) ?_
      refine lv_goto (tgt := 30) hx hb dX9_type_26 (by decide) ?_
      exact hj30 _ H locs ls (Eq.symm (lf_f c8 (lf_t c22 rfl))) hw (lv_sub hl [0, 1] rfl)
  · refine lv_iconst (v := 1) hx hb dX9_type_11 (by decide +kernel) ?_
    refine lv_goto (tgt := 30) hx hb dX9_type_12 (by decide) ?_
    exact hj30 _ H locs ls (Eq.symm (lf_t c8 rfl)) hw (lv_sub hl [0, 1] rfl)
abbrev rmX9_clearCommands : Room := { frames := 0, cells := 0, slots := 0, locals := 0 }
def f_X9_clearCommands (σ : St) : Int32 × St := (σ 0 6, up2 (up2 σ 0 4 0) 0 6 0)
theorem v_X9_clearCommands : cvV yX9_clearCommands "NestedBellsModel" cX9_clearCommands 2 (some (.int)) 0 := ⟨q_6_34, q_6_35, q_1_10, q_6_36, rfl, by decide +kernel, by decide +kernel, by decide +kernel⟩
set_option maxHeartbeats 4000000 in
set_option maxRecDepth 100000 in
theorem k_X9_clearCommands {l : Launch} {D : va_G} {T : Nat → ClassId} {g ad : Nat → Nat} {σ : St} (I0 : InvD σ) : mX l yX9_clearCommands cX9_clearCommands 2 (some (.int)) rmX9_clearCommands D T g 6 ad (cE (dE T ad) σ) [.ref (ad 0)] (qI D 6 ad (dE T ad) (pI (f_X9_clearCommands σ) InvD)) := by
  refine mX.of (own := "NestedBellsModel") (by decide +kernel) (Nat.le_of_ble_eq_true rfl) rfl ?_
  intro p e s m below meth c A ls H locs Z hr hlk _ hw hl
  have hx := Z.1.1
  have hb := Z.1.2.1
  have hl : lv_has ls 2 [(0, .ref (ad 0))] := hl
  refine lv_aload_n hx hb dX9_clearCommands_0 rfl (lv_at hl 0 rfl) ?_
  refine lv_iconst (v := 0) hx hb dX9_clearCommands_1 (by decide +kernel) ?_
  refine pD (j := 4) Z hw  (by decide) q_4_216 rfl rfl rfl rfl dX9_clearCommands_2 (fun H locs hw => ?_)
  refine lv_aload_n hx hb dX9_clearCommands_5 rfl (lv_at hl 0 rfl) ?_
  refine gD (j := 6) (v := .int (σ 0 6)) Z hw  (by decide) q_4_218 rfl (congrArg (fun x => some (Value.int x)) (up2_j (by decide))) dX9_clearCommands_6 ?_
  refine lv_istore_n (lv' := [(1, .int (σ 0 6)), (0, .ref (ad 0))]) hx hb dX9_clearCommands_9 rfl hl (by decide) rfl (fun ls hl => ?_)
  refine lv_aload_n hx hb dX9_clearCommands_10 rfl (lv_at hl 1 rfl) ?_
  refine lv_iconst (v := 0) hx hb dX9_clearCommands_11 (by decide +kernel) ?_
  refine pD (j := 6) Z hw  (by decide) q_4_218 rfl rfl rfl rfl dX9_clearCommands_12 (fun H locs hw => ?_)
  refine lv_iload_n hx hb dX9_clearCommands_15 rfl (lv_at hl 0 rfl) ?_
  exact rt_i Z hr hlk hw dX9_clearCommands_16 (pI.mk rfl (InvD.len (by decide) (InvD.up I0 (by decide))))
abbrev rmX9_stop : Room := { frames := 0, cells := 0, slots := 0, locals := 0 }
def f_X9_stop (σ : St) : Int32 × St := (σ 0 7, up2 σ 0 4 0)
theorem v_X9_stop : cvV yX9_stop "NestedBellsModel" cX9_stop 1 (some (.int)) 0 := ⟨q_6_85, q_6_86, q_1_10, q_6_87, rfl, by decide +kernel, by decide +kernel, by decide +kernel⟩
set_option maxHeartbeats 4000000 in
set_option maxRecDepth 100000 in
theorem k_X9_stop {l : Launch} {D : va_G} {T : Nat → ClassId} {g ad : Nat → Nat} {σ : St} (I0 : InvD σ) : mX l yX9_stop cX9_stop 1 (some (.int)) rmX9_stop D T g 6 ad (cE (dE T ad) σ) [.ref (ad 0)] (qI D 6 ad (dE T ad) (pI (f_X9_stop σ) InvD)) := by
  refine mX.of (own := "NestedBellsModel") (by decide +kernel) (Nat.le_of_ble_eq_true rfl) rfl ?_
  intro p e s m below meth c A ls H locs Z hr hlk _ hw hl
  have hx := Z.1.1
  have hb := Z.1.2.1
  have hl : lv_has ls 1 [(0, .ref (ad 0))] := hl
  refine lv_aload_n hx hb dX9_stop_0 rfl (lv_at hl 0 rfl) ?_
  refine lv_iconst (v := 0) hx hb dX9_stop_1 (by decide +kernel) ?_
  refine pD (j := 4) Z hw  (by decide) q_4_216 rfl rfl rfl rfl dX9_stop_2 (fun H locs hw => ?_)
  refine lv_aload_n hx hb dX9_stop_5 rfl (lv_at hl 0 rfl) ?_
  refine gD (j := 7) (v := .int (σ 0 7)) Z hw  (by decide) q_4_219 rfl (congrArg (fun x => some (Value.int x)) (up2_j (by decide))) dX9_stop_6 ?_
  exact rt_i Z hr hlk hw dX9_stop_9 (pI.mk rfl (InvD.up I0 (by decide)))
