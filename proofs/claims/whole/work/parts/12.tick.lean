abbrev rmX5_giveUpEntry : Room := { frames := 1, cells := 0, slots := 0, locals := 23 }
def f_X5_giveUpEntry (σ : St) : St := (let s25 := f_X3_add (up2 σ 2 6 ((σ 2 6) + 1)) 7 (σ 0 8) (σ 0 0); (let s29 := f_X5_beginExit s25; s29))
theorem v_X5_giveUpEntry : cvV yX5_giveUpEntry "NestedBells$Machine" cX5_giveUpEntry 1 none 0 := ⟨q_3_27, s_16, q_1_2, q_3_28, rfl, by decide +kernel, by decide +kernel, by decide +kernel⟩
set_option maxHeartbeats 4000000 in
set_option maxRecDepth 100000 in
theorem k_X5_giveUpEntry {l : Launch} {D : va_G} {T : Nat → ClassId} {g ad : Nat → Nat} {σ : St} (I0 : InvC σ) : mX l yX5_giveUpEntry cX5_giveUpEntry 1 none rmX5_giveUpEntry D T g 57 ad (cE (mE T ad) σ) [.ref (ad 0)] (qV D 57 ad (mE T ad) (pV (f_X5_giveUpEntry σ) InvC)) := by
  refine mX.of (own := "NestedBells$Machine") (by decide +kernel) (Nat.le_of_ble_eq_true rfl) rfl ?_
  intro p e s m below meth c A ls H locs Z hr hlk _ hw hl
  have hx := Z.1.1
  have hb := Z.1.2.1
  have hl : lv_has ls 1 [(0, .ref (ad 0))] := hl
  refine lv_aload_n hx hb dX5_giveUpEntry_0 rfl (lv_at hl 0 rfl) ?_
  refine gM (j := 2) (v := .ref (ad 2)) Z hw  (by decide) q_1_172 rfl rfl dX5_giveUpEntry_1 ?_
  refine lv_bipush (v := 6) hx hb dX5_giveUpEntry_4 (by decide +kernel) ?_
  refine lv_dup2_11 hx hb dX5_giveUpEntry_6 rfl rfl ?_
  refine aE (v := σ 2 6) Z hw 2 (by decide) rfl (fun _ => rfl) (vp_in_nI (n := 6) (by decide) (by decide)) ((congrArg (σ 2) (nI_clamp (n := 6) (by decide))).trans rfl) dX5_giveUpEntry_7 ?_
  refine lv_iconst (v := 1) hx hb dX5_giveUpEntry_8 (by decide +kernel) ?_
  refine lv_iadd hx hb dX5_giveUpEntry_9 ?_
  refine sE (j := 6) Z hw 2 (by decide) rfl (fun _ => rfl) (vp_in_nI (n := 6) (by decide) (by decide)) (nI_clamp (n := 6) (by decide)) dX5_giveUpEntry_10 (fun H locs hw => ?_)
  refine lv_aload_n hx hb dX5_giveUpEntry_11 rfl (lv_at hl 0 rfl) ?_
  refine gM (j := 10) (v := .ref (ad 5)) Z hw  (by decide) q_1_182 rfl rfl dX5_giveUpEntry_12 ?_
  refine lv_bipush (v := 7) hx hb dX5_giveUpEntry_15 (by decide +kernel) ?_
  refine lv_aload_n hx hb dX5_giveUpEntry_17 rfl (lv_at hl 0 rfl) ?_
  refine gM (j := 8) (v := .int (σ 0 8)) Z hw  (by decide) q_1_180 rfl (congrArg (fun x => some (Value.int x)) (up2_j (by decide))) dX5_giveUpEntry_18 ?_
  refine lv_aload_n hx hb dX5_giveUpEntry_21 rfl (lv_at hl 0 rfl) ?_
  refine gM (j := 0) (v := .int (σ 0 0)) Z hw  (by decide) q_1_170 rfl (congrArg (fun x => some (Value.int x)) (up2_j (by decide))) dX5_giveUpEntry_22 ?_
  refine bk_v (rnV (rest := []) Z hw (k_X3_add (p1 := 7) (p2 := σ 0 8) (p3 := σ 0 0) (InvC.up I0 (by decide))) v_X3_add q_2_201 (5) (by decide) rfl rfl rfl rfl hl.1 rfl rfl (Nat.le_of_ble_eq_true rfl) ⟨(Nat.le_of_ble_eq_true rfl), (Nat.le_of_ble_eq_true rfl)⟩ ⟨(Nat.le_of_ble_eq_true rfl), (Nat.le_of_ble_eq_true rfl)⟩ dX5_giveUpEntry_25) hw Z (fun s25 H locs hp hw => ?_)
  obtain ⟨es25, I25⟩ := hp
  refine lv_aload_n hx hb dX5_giveUpEntry_28 rfl (lv_at hl 0 rfl) ?_
  refine bk_v (rnV (rest := []) Z hw (k_X5_beginExit  I25) v_X5_beginExit q_3_29 (0) (by decide) rfl rfl rfl rfl hl.1 rfl rfl (Nat.le_of_ble_eq_true rfl) ⟨(Nat.le_of_ble_eq_true rfl), (Nat.le_of_ble_eq_true rfl)⟩ ⟨(Nat.le_of_ble_eq_true rfl), (Nat.le_of_ble_eq_true rfl)⟩ dX5_giveUpEntry_29) hw Z (fun s29 H locs hp hw => ?_)
  obtain ⟨es29, I29⟩ := hp
  exact rt_v Z hr hlk hw dX5_giveUpEntry_32 ⟨Eq.symm (by subst es29 es25; exact rfl), I29⟩
abbrev rmX5_takeOver : Room := { frames := 1, cells := 0, slots := 0, locals := 23 }
def f_X5_takeOver (σ : St) (p1 : Int32) : St := (let s25 := f_X3_add (up2 (up2 σ 0 8 p1) 2 3 ((σ 2 3) + 1)) 4 p1 (σ 0 0); s25)
theorem v_X5_takeOver : cvV yX5_takeOver "NestedBells$Machine" cX5_takeOver 2 none 1 := ⟨q_3_35, s_18, q_1_2, q_3_36, rfl, by decide +kernel, by decide +kernel, by decide +kernel⟩
set_option maxHeartbeats 4000000 in
set_option maxRecDepth 100000 in
theorem k_X5_takeOver {l : Launch} {D : va_G} {T : Nat → ClassId} {g ad : Nat → Nat} {σ : St} {p1 : Int32} (I0 : InvC σ) : mX l yX5_takeOver cX5_takeOver 2 none rmX5_takeOver D T g 57 ad (cE (mE T ad) σ) [.ref (ad 0), .int p1] (qV D 57 ad (mE T ad) (pV (f_X5_takeOver σ p1) InvC)) := by
  refine mX.of (own := "NestedBells$Machine") (by decide +kernel) (Nat.le_of_ble_eq_true rfl) rfl ?_
  intro p e s m below meth c A ls H locs Z hr hlk _ hw hl
  have hx := Z.1.1
  have hb := Z.1.2.1
  have hl : lv_has ls 2 [(0, .ref (ad 0)), (1, .int p1)] := hl
  refine lv_aload_n hx hb dX5_takeOver_0 rfl (lv_at hl 0 rfl) ?_
  refine lv_iload_n hx hb dX5_takeOver_1 rfl (lv_at hl 1 rfl) ?_
  refine pM (j := 8) Z hw  (by decide) q_1_180 rfl rfl rfl rfl dX5_takeOver_2 (fun H locs hw => ?_)
  refine lv_aload_n hx hb dX5_takeOver_5 rfl (lv_at hl 0 rfl) ?_
  refine gM (j := 2) (v := .ref (ad 2)) Z hw  (by decide) q_1_172 rfl rfl dX5_takeOver_6 ?_
  refine lv_iconst (v := 3) hx hb dX5_takeOver_9 (by decide +kernel) ?_
  refine lv_dup2_11 hx hb dX5_takeOver_10 rfl rfl ?_
  refine aE (v := σ 2 3) Z hw 2 (by decide) rfl (fun _ => rfl) (vp_in_nI (n := 3) (by decide) (by decide)) ((congrArg ((up2 σ 0 8 p1) 2) (nI_clamp (n := 3) (by decide))).trans (up2_j (by decide))) dX5_takeOver_11 ?_
  refine lv_iconst (v := 1) hx hb dX5_takeOver_12 (by decide +kernel) ?_
  refine lv_iadd hx hb dX5_takeOver_13 ?_
  refine sE (j := 3) Z hw 2 (by decide) rfl (fun _ => rfl) (vp_in_nI (n := 3) (by decide) (by decide)) (nI_clamp (n := 3) (by decide)) dX5_takeOver_14 (fun H locs hw => ?_)
  refine lv_aload_n hx hb dX5_takeOver_15 rfl (lv_at hl 0 rfl) ?_
  refine gM (j := 10) (v := .ref (ad 5)) Z hw  (by decide) q_1_182 rfl rfl dX5_takeOver_16 ?_
  refine lv_iconst (v := 4) hx hb dX5_takeOver_19 (by decide +kernel) ?_
  refine lv_iload_n hx hb dX5_takeOver_20 rfl (lv_at hl 1 rfl) ?_
  refine lv_aload_n hx hb dX5_takeOver_21 rfl (lv_at hl 0 rfl) ?_
  refine gM (j := 0) (v := .int (σ 0 0)) Z hw  (by decide) q_1_170 rfl (congrArg (fun x => some (Value.int x)) ((up2_j (by decide)).trans (up2_j (by decide)))) dX5_takeOver_22 ?_
  refine bk_v (rnV (rest := []) Z hw (k_X3_add (p1 := 4) (p2 := p1) (p3 := σ 0 0) (InvC.up (InvC.up I0 (by decide)) (by decide))) v_X3_add q_2_201 (5) (by decide) rfl rfl rfl rfl hl.1 rfl rfl (Nat.le_of_ble_eq_true rfl) ⟨(Nat.le_of_ble_eq_true rfl), (Nat.le_of_ble_eq_true rfl)⟩ ⟨(Nat.le_of_ble_eq_true rfl), (Nat.le_of_ble_eq_true rfl)⟩ dX5_takeOver_25) hw Z (fun s25 H locs hp hw => ?_)
  obtain ⟨es25, I25⟩ := hp
  exact rt_v Z hr hlk hw dX5_takeOver_28 ⟨Eq.symm (by subst es25; exact rfl), I25⟩
abbrev rmX5_beginTail : Room := { frames := 1, cells := 0, slots := 0, locals := 23 }
def f_X5_beginTail (σ : St) (p1 : Int32) : St := (let s9 := f_X5_setChange σ 3 p1 (σ 1 3); (let s32 := f_X3_add (up2 s9 2 4 ((s9 2 4) + 1)) 5 p1 (s9 0 0); s32))
theorem v_X5_beginTail : cvV yX5_beginTail "NestedBells$Machine" cX5_beginTail 2 none 1 := ⟨q_3_39, s_19, q_1_2, q_3_40, rfl, by decide +kernel, by decide +kernel, by decide +kernel⟩
set_option maxHeartbeats 4000000 in
set_option maxRecDepth 100000 in
theorem k_X5_beginTail {l : Launch} {D : va_G} {T : Nat → ClassId} {g ad : Nat → Nat} {σ : St} {p1 : Int32} (I0 : InvC σ) : mX l yX5_beginTail cX5_beginTail 2 none rmX5_beginTail D T g 57 ad (cE (mE T ad) σ) [.ref (ad 0), .int p1] (qV D 57 ad (mE T ad) (pV (f_X5_beginTail σ p1) InvC)) := by
  refine mX.of (own := "NestedBells$Machine") (by decide +kernel) (Nat.le_of_ble_eq_true rfl) rfl ?_
  intro p e s m below meth c A ls H locs Z hr hlk _ hw hl
  have hx := Z.1.1
  have hb := Z.1.2.1
  have hl : lv_has ls 2 [(0, .ref (ad 0)), (1, .int p1)] := hl
  refine lv_aload_n hx hb dX5_beginTail_0 rfl (lv_at hl 0 rfl) ?_
  refine lv_iconst (v := 3) hx hb dX5_beginTail_1 (by decide +kernel) ?_
  refine lv_iload_n hx hb dX5_beginTail_2 rfl (lv_at hl 1 rfl) ?_
  refine lv_aload_n hx hb dX5_beginTail_3 rfl (lv_at hl 0 rfl) ?_
  refine gM (j := 1) (v := .ref (ad 1)) Z hw  (by decide) q_1_171 rfl rfl dX5_beginTail_4 ?_
  refine lv_iconst (v := 3) hx hb dX5_beginTail_7 (by decide +kernel) ?_
  refine aE (v := σ 1 3) Z hw 1 (by decide) rfl (fun _ => rfl) (vp_in_nI (n := 3) (by decide) (by decide)) ((congrArg (σ 1) (nI_clamp (n := 3) (by decide))).trans rfl) dX5_beginTail_8 ?_
  refine bk_v (rnV (rest := []) Z hw (k_X5_setChange (p1 := 3) (p2 := p1) (p3 := σ 1 3) I0) v_X5_setChange q_3_41 (0) (by decide) rfl rfl rfl rfl hl.1 rfl rfl (Nat.le_of_ble_eq_true rfl) ⟨(Nat.le_of_ble_eq_true rfl), (Nat.le_of_ble_eq_true rfl)⟩ ⟨(Nat.le_of_ble_eq_true rfl), (Nat.le_of_ble_eq_true rfl)⟩ dX5_beginTail_9) hw Z (fun s9 H locs hp hw => ?_)
  obtain ⟨es9, I9⟩ := hp
  refine lv_aload_n hx hb dX5_beginTail_12 rfl (lv_at hl 0 rfl) ?_
  refine gM (j := 2) (v := .ref (ad 2)) Z hw  (by decide) q_1_172 rfl rfl dX5_beginTail_13 ?_
  refine lv_iconst (v := 4) hx hb dX5_beginTail_16 (by decide +kernel) ?_
  refine lv_dup2_11 hx hb dX5_beginTail_17 rfl rfl ?_
  refine aE (v := s9 2 4) Z hw 2 (by decide) rfl (fun _ => rfl) (vp_in_nI (n := 4) (by decide) (by decide)) ((congrArg (s9 2) (nI_clamp (n := 4) (by decide))).trans rfl) dX5_beginTail_18 ?_
  refine lv_iconst (v := 1) hx hb dX5_beginTail_19 (by decide +kernel) ?_
  refine lv_iadd hx hb dX5_beginTail_20 ?_
  refine sE (j := 4) Z hw 2 (by decide) rfl (fun _ => rfl) (vp_in_nI (n := 4) (by decide) (by decide)) (nI_clamp (n := 4) (by decide)) dX5_beginTail_21 (fun H locs hw => ?_)
  refine lv_aload_n hx hb dX5_beginTail_22 rfl (lv_at hl 0 rfl) ?_
  refine gM (j := 10) (v := .ref (ad 5)) Z hw  (by decide) q_1_182 rfl rfl dX5_beginTail_23 ?_
  refine lv_iconst (v := 5) hx hb dX5_beginTail_26 (by decide +kernel) ?_
  refine lv_iload_n hx hb dX5_beginTail_27 rfl (lv_at hl 1 rfl) ?_
  refine lv_aload_n hx hb dX5_beginTail_28 rfl (lv_at hl 0 rfl) ?_
  refine gM (j := 0) (v := .int (s9 0 0)) Z hw  (by decide) q_1_170 rfl (congrArg (fun x => some (Value.int x)) (up2_j (by decide))) dX5_beginTail_29 ?_
  refine bk_v (rnV (rest := []) Z hw (k_X3_add (p1 := 5) (p2 := p1) (p3 := s9 0 0) (InvC.up I9 (by decide))) v_X3_add q_2_201 (5) (by decide) rfl rfl rfl rfl hl.1 rfl rfl (Nat.le_of_ble_eq_true rfl) ⟨(Nat.le_of_ble_eq_true rfl), (Nat.le_of_ble_eq_true rfl)⟩ ⟨(Nat.le_of_ble_eq_true rfl), (Nat.le_of_ble_eq_true rfl)⟩ dX5_beginTail_32) hw Z (fun s32 H locs hp hw => ?_)
  obtain ⟨es32, I32⟩ := hp
  exact rt_v Z hr hlk hw dX5_beginTail_35 ⟨Eq.symm (by subst es32 es9; exact rfl), I32⟩
abbrev rmX5_beginEntry : Room := { frames := 1, cells := 0, slots := 0, locals := 23 }
def f_X5_beginEntry (σ : St) (p1 : Int32) : St := (let s9 := f_X5_setChange σ 1 p1 (σ 1 1); (let r19 := f_X5_stackedAt s9 ((s9 0 6) - 1); (oc (f_X5_find s9 r19) s9 (fun i25 => (let s64 := f_X3_add (up2 (up2 s9 (9 + i25) 14 ((s9 (9 + i25) 14) + 1)) 2 5 ((s9 2 5) + 1)) 6 r19 (s9 0 0); s64)))))
theorem v_X5_beginEntry : cvV yX5_beginEntry "NestedBells$Machine" cX5_beginEntry 4 none 1 := ⟨q_3_47, s_21, q_1_2, q_3_48, rfl, by decide +kernel, by decide +kernel, by decide +kernel⟩
set_option maxHeartbeats 4000000 in
set_option maxRecDepth 100000 in
theorem k_X5_beginEntry {l : Launch} {D : va_G} {T : Nat → ClassId} {g ad : Nat → Nat} {σ : St} {p1 : Int32} (I0 : InvC σ) : mX l yX5_beginEntry cX5_beginEntry 4 none rmX5_beginEntry D T g 57 ad (cE (mE T ad) σ) [.ref (ad 0), .int p1] (qV D 57 ad (mE T ad) (pV (f_X5_beginEntry σ p1) InvC)) := by
  refine mX.of (own := "NestedBells$Machine") (by decide +kernel) (Nat.le_of_ble_eq_true rfl) rfl ?_
  intro p e s m below meth c A ls H locs Z hr hlk _ hw hl
  have hx := Z.1.1
  have hb := Z.1.2.1
  have hl : lv_has ls 4 [(0, .ref (ad 0)), (1, .int p1)] := hl
  refine lv_aload_n hx hb dX5_beginEntry_0 rfl (lv_at hl 0 rfl) ?_
  refine lv_iconst (v := 1) hx hb dX5_beginEntry_1 (by decide +kernel) ?_
  refine lv_iload_n hx hb dX5_beginEntry_2 rfl (lv_at hl 1 rfl) ?_
  refine lv_aload_n hx hb dX5_beginEntry_3 rfl (lv_at hl 0 rfl) ?_
  refine gM (j := 1) (v := .ref (ad 1)) Z hw  (by decide) q_1_171 rfl rfl dX5_beginEntry_4 ?_
  refine lv_iconst (v := 1) hx hb dX5_beginEntry_7 (by decide +kernel) ?_
  refine aE (v := σ 1 1) Z hw 1 (by decide) rfl (fun _ => rfl) (vp_in_nI (n := 1) (by decide) (by decide)) ((congrArg (σ 1) (nI_clamp (n := 1) (by decide))).trans rfl) dX5_beginEntry_8 ?_
  refine bk_v (rnV (rest := []) Z hw (k_X5_setChange (p1 := 1) (p2 := p1) (p3 := σ 1 1) I0) v_X5_setChange q_3_41 (0) (by decide) rfl rfl rfl rfl hl.1 rfl rfl (Nat.le_of_ble_eq_true rfl) ⟨(Nat.le_of_ble_eq_true rfl), (Nat.le_of_ble_eq_true rfl)⟩ ⟨(Nat.le_of_ble_eq_true rfl), (Nat.le_of_ble_eq_true rfl)⟩ dX5_beginEntry_9) hw Z (fun s9 H locs hp hw => ?_)
  obtain ⟨es9, I9⟩ := hp
  refine lv_aload_n hx hb dX5_beginEntry_12 rfl (lv_at hl 0 rfl) ?_
  refine lv_aload_n hx hb dX5_beginEntry_13 rfl (lv_at hl 0 rfl) ?_
  refine gM (j := 6) (v := .int (s9 0 6)) Z hw  (by decide) q_1_177 rfl rfl dX5_beginEntry_14 ?_
  refine lv_iconst (v := 1) hx hb dX5_beginEntry_17 (by decide +kernel) ?_
  refine lv_isub hx hb dX5_beginEntry_18 ?_
  refine bk_ip (rnV (rest := []) Z hw (k_X5_stackedAt (p1 := (s9 0 6) - 1) I9) v_X5_stackedAt q_2_233 (0) (by decide) rfl rfl rfl rfl hl.1 rfl rfl (Nat.le_of_ble_eq_true rfl) ⟨(Nat.le_of_ble_eq_true rfl), (Nat.le_of_ble_eq_true rfl)⟩ ⟨(Nat.le_of_ble_eq_true rfl), (Nat.le_of_ble_eq_true rfl)⟩ dX5_beginEntry_19) hw Z (fun r19 er19 H locs hw => ?_)
  refine lv_istore_n (lv' := [(2, .int r19), (0, .ref (ad 0)), (1, .int p1)]) hx hb dX5_beginEntry_22 rfl hl (by decide) rfl (fun ls hl => ?_)
  refine lv_aload_n hx hb dX5_beginEntry_23 rfl (lv_at hl 1 rfl) ?_
  refine lv_iload_n hx hb dX5_beginEntry_24 rfl (lv_at hl 0 rfl) ?_
  refine bk_qp (rnV (rest := []) Z hw (k_X5_find (p1 := r19) I9) v_X5_find q_2_181 (0) (by decide) rfl rfl rfl rfl hl.1 rfl rfl (Nat.le_of_ble_eq_true rfl) ⟨(Nat.le_of_ble_eq_true rfl), (Nat.le_of_ble_eq_true rfl)⟩ ⟨(Nat.le_of_ble_eq_true rfl), (Nat.le_of_ble_eq_true rfl)⟩ dX5_beginEntry_25) hw Z (fun r25 er25 H locs hw => ?_)
  subst er25
  rcases hf25 : f_X5_find s9 r19 with _ | i25
  · show W _ _ _ _ _ _ _ _ _ _ _ _ _ _ _ (F0 _ _ _ (.null :: _))
    refine lv_astore_nN (lv' := [(3, .null), (2, .int r19), (0, .ref (ad 0)), (1, .int p1)]) hx hb dX5_beginEntry_28 rfl hl (by decide) rfl (fun ls hl => ?_)
    refine lv_aload_nN hx hb dX5_beginEntry_29 rfl (lv_at hl 0 rfl) ?_
    refine lv_ifnullN (tgt := 67) hx hb dX5_beginEntry_30 (by decide) ?_
    exact rt_v Z hr hlk hw dX5_beginEntry_67 ⟨Eq.symm (by subst er19 es9; exact (lf_n hf25 rfl)), I9⟩
  · have hi25 : i25 < 12 := fin_lt I9 hf25
    show W _ _ _ _ _ _ _ _ _ _ _ _ _ _ _ (F0 _ _ _ (.ref (ad (9 + i25)) :: _))
    refine lv_astore_n (lv' := [(3, .ref (ad (9 + i25))), (2, .int r19), (0, .ref (ad 0)), (1, .int p1)]) hx hb dX5_beginEntry_28 rfl hl (by decide) rfl (fun ls hl => ?_)
    refine lv_aload_n hx hb dX5_beginEntry_29 rfl (lv_at hl 0 rfl) ?_
    refine lv_ifnull hx hb dX5_beginEntry_30 ?_
    refine lv_aload_n hx hb dX5_beginEntry_33 rfl (lv_at hl 0 rfl) ?_
    refine lv_dup hx hb dX5_beginEntry_34 rfl ?_
    refine gU (j := 14) (v := .int (s9 (9 + i25) 14)) Z hw hi25 (by decide) q_1_118 rfl rfl dX5_beginEntry_35 ?_
    refine lv_iconst (v := 1) hx hb dX5_beginEntry_38 (by decide +kernel) ?_
    refine lv_iadd hx hb dX5_beginEntry_39 ?_
    refine pU (j := 14) Z hw hi25 (by decide) q_1_118 rfl rfl rfl rfl dX5_beginEntry_40 (fun H locs hw => ?_)
    refine lv_aload_n hx hb dX5_beginEntry_43 rfl (lv_at hl 2 rfl) ?_
    refine gM (j := 2) (v := .ref (ad 2)) Z hw  (by decide) q_1_172 rfl rfl dX5_beginEntry_44 ?_
    refine lv_iconst (v := 5) hx hb dX5_beginEntry_47 (by decide +kernel) ?_
    refine lv_dup2_11 hx hb dX5_beginEntry_48 rfl rfl ?_
    refine aE (v := s9 2 5) Z hw 2 (by decide) rfl (fun _ => rfl) (vp_in_nI (n := 5) (by decide) (by decide)) ((congrArg ((up2 s9 (9 + i25) 14 ((s9 (9 + i25) 14) + 1)) 2) (nI_clamp (n := 5) (by decide))).trans (up2_j (by decide))) dX5_beginEntry_49 ?_
    refine lv_iconst (v := 1) hx hb dX5_beginEntry_50 (by decide +kernel) ?_
    refine lv_iadd hx hb dX5_beginEntry_51 ?_
    refine sE (j := 5) Z hw 2 (by decide) rfl (fun _ => rfl) (vp_in_nI (n := 5) (by decide) (by decide)) (nI_clamp (n := 5) (by decide)) dX5_beginEntry_52 (fun H locs hw => ?_)
    refine lv_aload_n hx hb dX5_beginEntry_53 rfl (lv_at hl 2 rfl) ?_
    refine gM (j := 10) (v := .ref (ad 5)) Z hw  (by decide) q_1_182 rfl rfl dX5_beginEntry_54 ?_
    refine lv_bipush (v := 6) hx hb dX5_beginEntry_57 (by decide +kernel) ?_
    refine lv_iload_n hx hb dX5_beginEntry_59 rfl (lv_at hl 1 rfl) ?_
    refine lv_aload_n hx hb dX5_beginEntry_60 rfl (lv_at hl 2 rfl) ?_
    refine gM (j := 0) (v := .int (s9 0 0)) Z hw  (by decide) q_1_170 rfl (congrArg (fun x => some (Value.int x)) ((up2_j (by decide)).trans (up2_j (by decide)))) dX5_beginEntry_61 ?_
    refine bk_v (rnV (rest := []) Z hw (k_X3_add (p1 := 6) (p2 := r19) (p3 := s9 0 0) (InvC.up (InvC.up I9 (by unfold InvCcr; omega)) (by decide))) v_X3_add q_2_201 (5) (by decide) rfl rfl rfl rfl hl.1 rfl rfl (Nat.le_of_ble_eq_true rfl) ⟨(Nat.le_of_ble_eq_true rfl), (Nat.le_of_ble_eq_true rfl)⟩ ⟨(Nat.le_of_ble_eq_true rfl), (Nat.le_of_ble_eq_true rfl)⟩ dX5_beginEntry_64) hw Z (fun s64 H locs hp hw => ?_)
    obtain ⟨es64, I64⟩ := hp
    exact rt_v Z hr hlk hw dX5_beginEntry_67 ⟨Eq.symm (by subst es64 er19 es9; exact (lf_s hf25 rfl)), I64⟩
abbrev rmX5_arrange : Room := { frames := 2, cells := 0, slots := 0, locals := 46 }
def f_X5_arrange (σ : St) (p1 : Int32) : St := (let r1 := f_X5_isEntering σ; (if r1 = 0 then (if p1 = (-1) then σ else (if (σ 0 7) = 2 then (let s50 := f_X5_beginTail σ p1; s50) else (let s58 := f_X5_beginEntry σ p1; s58))) else (if p1 = (-1) then (let s13 := f_X5_giveUpEntry σ; s13) else (if p1 = (σ 0 8) then σ else (let s29 := f_X5_takeOver σ p1; s29)))))
theorem v_X5_arrange : cvV yX5_arrange "NestedBells$Machine" cX5_arrange 2 none 1 := ⟨q_3_19, s_14, q_1_2, q_3_20, rfl, by decide +kernel, by decide +kernel, by decide +kernel⟩
set_option maxHeartbeats 4000000 in
set_option maxRecDepth 100000 in
theorem k_X5_arrange {l : Launch} {D : va_G} {T : Nat → ClassId} {g ad : Nat → Nat} {σ : St} {p1 : Int32} (I0 : InvC σ) : mX l yX5_arrange cX5_arrange 2 none rmX5_arrange D T g 57 ad (cE (mE T ad) σ) [.ref (ad 0), .int p1] (qV D 57 ad (mE T ad) (pV (f_X5_arrange σ p1) InvC)) := by
  refine mX.of (own := "NestedBells$Machine") (by decide +kernel) (Nat.le_of_ble_eq_true rfl) rfl ?_
  intro p e s m below meth c A ls H locs Z hr hlk _ hw hl
  have hx := Z.1.1
  have hb := Z.1.2.1
  have hl : lv_has ls 2 [(0, .ref (ad 0)), (1, .int p1)] := hl
  refine lv_aload_n hx hb dX5_arrange_0 rfl (lv_at hl 0 rfl) ?_
  refine bk_ip (rnV (rest := []) Z hw (k_X5_isEntering  I0) v_X5_isEntering q_3_21 (0) (by decide) rfl rfl rfl rfl hl.1 rfl rfl (Nat.le_of_ble_eq_true rfl) ⟨(Nat.le_of_ble_eq_true rfl), (Nat.le_of_ble_eq_true rfl)⟩ ⟨(Nat.le_of_ble_eq_true rfl), (Nat.le_of_ble_eq_true rfl)⟩ dX5_arrange_1) hw Z (fun r1 er1 H locs hw => ?_)
  refine lv_if_eq (tgt := 35) hx hb dX5_arrange_4 (by decide) (fun c4 => ?_) (fun c4 => ?_)
  · refine lv_iload_n hx hb dX5_arrange_35 rfl (lv_at hl 1 rfl) ?_
    refine lv_iconst (v := (-1)) hx hb dX5_arrange_36 (by decide +kernel) ?_
    refine lv_icmp_eq (tgt := 61) hx hb dX5_arrange_37 (by decide) (fun c37 => ?_) (fun c37 => ?_)
    · exact rt_v Z hr hlk hw dX5_arrange_61 ⟨Eq.symm (by subst er1; exact (lf_t c4 (lf_t c37 rfl))), I0⟩
    · refine lv_aload_n hx hb dX5_arrange_40 rfl (lv_at hl 0 rfl) ?_
      refine gM (j := 7) (v := .int (σ 0 7)) Z hw  (by decide) q_1_179 rfl rfl dX5_arrange_41 ?_
      refine lv_iconst (v := 2) hx hb dX5_arrange_44 (by decide +kernel) ?_
      refine lv_icmp_ne (tgt := 56) hx hb dX5_arrange_45 (by decide) (fun c45 => ?_) (fun c45 => ?_)
      · refine lv_aload_n hx hb dX5_arrange_56 rfl (lv_at hl 0 rfl) ?_
        refine lv_iload_n hx hb dX5_arrange_57 rfl (lv_at hl 1 rfl) ?_
        refine bk_v (rnV (rest := []) Z hw (k_X5_beginEntry (p1 := p1) I0) v_X5_beginEntry q_3_45 (0) (by decide) rfl rfl rfl rfl hl.1 rfl rfl (Nat.le_of_ble_eq_true rfl) ⟨(Nat.le_of_ble_eq_true rfl), (Nat.le_of_ble_eq_true rfl)⟩ ⟨(Nat.le_of_ble_eq_true rfl), (Nat.le_of_ble_eq_true rfl)⟩ dX5_arrange_58) hw Z (fun s58 H locs hp hw => ?_)
        obtain ⟨es58, I58⟩ := hp
        exact rt_v Z hr hlk hw dX5_arrange_61 ⟨Eq.symm (by subst es58 er1; exact (lf_t c4 (lf_f c37 (lf_f c45 rfl)))), I58⟩
      · refine lv_aload_n hx hb dX5_arrange_48 rfl (lv_at hl 0 rfl) ?_
        refine lv_iload_n hx hb dX5_arrange_49 rfl (lv_at hl 1 rfl) ?_
        refine bk_v (rnV (rest := []) Z hw (k_X5_beginTail (p1 := p1) I0) v_X5_beginTail q_3_37 (0) (by decide) rfl rfl rfl rfl hl.1 rfl rfl (Nat.le_of_ble_eq_true rfl) ⟨(Nat.le_of_ble_eq_true rfl), (Nat.le_of_ble_eq_true rfl)⟩ ⟨(Nat.le_of_ble_eq_true rfl), (Nat.le_of_ble_eq_true rfl)⟩ dX5_arrange_50) hw Z (fun s50 H locs hp hw => ?_)
        obtain ⟨es50, I50⟩ := hp
        refine lv_goto (tgt := 61) hx hb dX5_arrange_53 (by decide) ?_
        exact rt_v Z hr hlk hw dX5_arrange_61 ⟨Eq.symm (by subst es50 er1; exact (lf_t c4 (lf_f c37 (lf_t c45 rfl)))), I50⟩
  · refine lv_iload_n hx hb dX5_arrange_7 rfl (lv_at hl 1 rfl) ?_
    refine lv_iconst (v := (-1)) hx hb dX5_arrange_8 (by decide +kernel) ?_
    refine lv_icmp_ne (tgt := 19) hx hb dX5_arrange_9 (by decide) (fun c9 => ?_) (fun c9 => ?_)
    · refine lv_iload_n hx hb dX5_arrange_19 rfl (lv_at hl 1 rfl) ?_
      refine lv_aload_n hx hb dX5_arrange_20 rfl (lv_at hl 0 rfl) ?_
      refine gM (j := 8) (v := .int (σ 0 8)) Z hw  (by decide) q_1_180 rfl rfl dX5_arrange_21 ?_
      refine lv_icmp_eq (tgt := 61) hx hb dX5_arrange_24 (by decide) (fun c24 => ?_) (fun c24 => ?_)
      · exact rt_v Z hr hlk hw dX5_arrange_61 ⟨Eq.symm (by subst er1; exact (lf_f c4 (lf_f c9 (lf_t c24 rfl)))), I0⟩
      · refine lv_aload_n hx hb dX5_arrange_27 rfl (lv_at hl 0 rfl) ?_
        refine lv_iload_n hx hb dX5_arrange_28 rfl (lv_at hl 1 rfl) ?_
        refine bk_v (rnV (rest := []) Z hw (k_X5_takeOver (p1 := p1) I0) v_X5_takeOver q_3_33 (0) (by decide) rfl rfl rfl rfl hl.1 rfl rfl (Nat.le_of_ble_eq_true rfl) ⟨(Nat.le_of_ble_eq_true rfl), (Nat.le_of_ble_eq_true rfl)⟩ ⟨(Nat.le_of_ble_eq_true rfl), (Nat.le_of_ble_eq_true rfl)⟩ dX5_arrange_29) hw Z (fun s29 H locs hp hw => ?_)
        obtain ⟨es29, I29⟩ := hp
        refine lv_goto (tgt := 61) hx hb dX5_arrange_32 (by decide) ?_
        exact rt_v Z hr hlk hw dX5_arrange_61 ⟨Eq.symm (by subst es29 er1; exact (lf_f c4 (lf_f c9 (lf_f c24 rfl)))), I29⟩
    · refine lv_aload_n hx hb dX5_arrange_12 rfl (lv_at hl 0 rfl) ?_
      refine bk_v (rnV (rest := []) Z hw (k_X5_giveUpEntry  I0) v_X5_giveUpEntry q_3_25 (0) (by decide) rfl rfl rfl rfl hl.1 rfl rfl (Nat.le_of_ble_eq_true rfl) ⟨(Nat.le_of_ble_eq_true rfl), (Nat.le_of_ble_eq_true rfl)⟩ ⟨(Nat.le_of_ble_eq_true rfl), (Nat.le_of_ble_eq_true rfl)⟩ dX5_arrange_13) hw Z (fun s13 H locs hp hw => ?_)
      obtain ⟨es13, I13⟩ := hp
      refine lv_goto (tgt := 61) hx hb dX5_arrange_16 (by decide) ?_
      exact rt_v Z hr hlk hw dX5_arrange_61 ⟨Eq.symm (by subst es13 er1; exact (lf_f c4 (lf_t c9 rfl))), I13⟩
theorem comeOn_06 {σ : St} {i : Nat} {a b : Int32} : (f_X7_comeOn σ i a b).2 0 6 = σ 0 6 := by
  unfold f_X7_comeOn
  split <;> simp [up2]
theorem goOff_06 {σ : St} {i : Nat} {a : Int32} : f_X7_goOff σ i a 0 6 = σ 0 6 := by
  unfold f_X7_goOff
  split <;> (try split) <;> simp [up2] <;> (intro h; exact absurd h (by omega))
theorem bt_vp {σ σ' : St} {x b : Int32} (e : σ' 0 6 = σ 0 6) (c : σ 0 6 < b) (hb : b.toInt ≤ 12) (h : 0 ≤ (σ' 0 6).toInt) : vp_in (σ' 0 6) 12 := by
  rw [i32_lt] at c
  exact vp_of h (by rw [e]; omega)
theorem bt_in {σ σ' : St} {b : Int32} (e : σ' 0 6 = σ 0 6) (c : σ 0 6 < b) (hb : b.toInt ≤ 12) (h : 0 ≤ (σ' 0 6).toInt) : 0 ≤ (σ' 0 6 + 1).toInt ∧ (σ' 0 6 + 1).toInt ≤ 12 :=
  inc_to h (b := b) (by rw [e, i32_le]; rw [i32_lt] at c; omega) hb (by decide)
theorem dec_in {x : Int32} (h : x.toInt ≤ 12) (h1 : ¬ x - 1 < 0) (h0 : 0 ≤ x.toInt) : 0 ≤ (x - 1).toInt ∧ (x - 1).toInt ≤ 12 := by
  obtain ⟨j, hj, rfl⟩ := vp_in_of (n := 13) (vp_in_iff.mpr ⟨h0, by omega⟩) (by decide)
  have key : ∀ j, j < 13 → ¬ nI j - 1 < 0 → 0 ≤ (nI j - 1).toInt ∧ (nI j - 1).toInt ≤ 12 := by decide +kernel
  exact key j hj h1
theorem st_some {σ : St} {x r : Int32} {i : Nat} (er : f_X5_stackedAt σ x = r) (hf : f_X5_find σ r = some i) : ¬ x < 0 := by
  intro h
  unfold f_X5_stackedAt at er
  rw [if_pos h] at er
  subst er
  unfold f_X5_find at hf
  rw [if_pos (by decide)] at hf
  cases hf

abbrev rmX5_bringOnTop : Room := { frames := 1, cells := 0, slots := 0, locals := 23 }
def f_X5_bringOnTop (σ : St) (p1 : Int32) : St := (oc (f_X5_find σ (σ 0 8)) (let s15 := f_X5_setChange σ 0 (-1) 0; s15) (fun i7 => (let s15 := f_X5_setChange σ 0 (-1) 0; (if (s15 0 6) < 12 then (let r46 := (f_X7_comeOn s15 i7 (s15 0 6) p1).1; let s46 := (f_X7_comeOn s15 i7 (s15 0 6) p1).2; (let s99 := f_X3_add (up2 (up2 (up2 (up2 s46 2 9 ((s15 2 9) + r46)) 4 ((s46 0 6).toNatClampNeg) (σ 0 8)) 0 6 ((s46 0 6) + 1)) 2 8 (if (s46 2 8) < ((s46 0 6) + 1) then ((s46 0 6) + 1) else (s46 2 8))) 1 (σ 0 8) p1; s99)) else s15))))
theorem v_X5_bringOnTop : cvV yX5_bringOnTop "NestedBells$Machine" cX5_bringOnTop 4 none 1 := ⟨q_3_51, s_22, q_1_2, q_3_52, rfl, by decide +kernel, by decide +kernel, by decide +kernel⟩
set_option maxHeartbeats 4000000 in
set_option maxRecDepth 100000 in
theorem k_X5_bringOnTop {l : Launch} {D : va_G} {T : Nat → ClassId} {g ad : Nat → Nat} {σ : St} {p1 : Int32} (I0 : InvC σ) : mX l yX5_bringOnTop cX5_bringOnTop 4 none rmX5_bringOnTop D T g 57 ad (cE (mE T ad) σ) [.ref (ad 0), .int p1] (qV D 57 ad (mE T ad) (pV (f_X5_bringOnTop σ p1) InvC)) := by
  refine mX.of (own := "NestedBells$Machine") (by decide +kernel) (Nat.le_of_ble_eq_true rfl) rfl ?_
  intro p e s m below meth c A ls H locs Z hr hlk _ hw hl
  have hx := Z.1.1
  have hb := Z.1.2.1
  have hl : lv_has ls 4 [(0, .ref (ad 0)), (1, .int p1)] := hl
  refine lv_aload_n hx hb dX5_bringOnTop_0 rfl (lv_at hl 0 rfl) ?_
  refine gM (j := 8) (v := .int (σ 0 8)) Z hw  (by decide) q_1_180 rfl rfl dX5_bringOnTop_1 ?_
  refine lv_istore_n (lv' := [(2, .int (σ 0 8)), (0, .ref (ad 0)), (1, .int p1)]) hx hb dX5_bringOnTop_4 rfl hl (by decide) rfl (fun ls hl => ?_)
  refine lv_aload_n hx hb dX5_bringOnTop_5 rfl (lv_at hl 1 rfl) ?_
  refine lv_iload_n hx hb dX5_bringOnTop_6 rfl (lv_at hl 0 rfl) ?_
  refine bk_qp (rnV (rest := []) Z hw (k_X5_find (p1 := σ 0 8) I0) v_X5_find q_2_181 (0) (by decide) rfl rfl rfl rfl hl.1 rfl rfl (Nat.le_of_ble_eq_true rfl) ⟨(Nat.le_of_ble_eq_true rfl), (Nat.le_of_ble_eq_true rfl)⟩ ⟨(Nat.le_of_ble_eq_true rfl), (Nat.le_of_ble_eq_true rfl)⟩ dX5_bringOnTop_7) hw Z (fun r7 er7 H locs hw => ?_)
  subst er7
  rcases hf7 : f_X5_find σ (σ 0 8) with _ | i7
  · show W _ _ _ _ _ _ _ _ _ _ _ _ _ _ _ (F0 _ _ _ (.null :: _))
    refine lv_astore_nN (lv' := [(3, .null), (2, .int (σ 0 8)), (0, .ref (ad 0)), (1, .int p1)]) hx hb dX5_bringOnTop_10 rfl hl (by decide) rfl (fun ls hl => ?_)
    refine lv_aload_n hx hb dX5_bringOnTop_11 rfl (lv_at hl 2 rfl) ?_
    refine lv_iconst (v := 0) hx hb dX5_bringOnTop_12 (by decide +kernel) ?_
    refine lv_iconst (v := (-1)) hx hb dX5_bringOnTop_13 (by decide +kernel) ?_
    refine lv_iconst (v := 0) hx hb dX5_bringOnTop_14 (by decide +kernel) ?_
    refine bk_v (rnV (rest := []) Z hw (k_X5_setChange (p1 := 0) (p2 := (-1)) (p3 := 0) I0) v_X5_setChange q_3_41 (0) (by decide) rfl rfl rfl rfl hl.1 rfl rfl (Nat.le_of_ble_eq_true rfl) ⟨(Nat.le_of_ble_eq_true rfl), (Nat.le_of_ble_eq_true rfl)⟩ ⟨(Nat.le_of_ble_eq_true rfl), (Nat.le_of_ble_eq_true rfl)⟩ dX5_bringOnTop_15) hw Z (fun s15 H locs hp hw => ?_)
    obtain ⟨es15, I15⟩ := hp
    refine lv_aload_nN hx hb dX5_bringOnTop_18 rfl (lv_at hl 0 rfl) ?_
    refine lv_ifnullN (tgt := 31) hx hb dX5_bringOnTop_19 (by decide) ?_
    exact rt_v Z hr hlk hw dX5_bringOnTop_31 ⟨Eq.symm (by subst es15; exact (lf_n hf7 rfl)), I15⟩
  · have hi7 : i7 < 12 := fin_lt I0 hf7
    show W _ _ _ _ _ _ _ _ _ _ _ _ _ _ _ (F0 _ _ _ (.ref (ad (9 + i7)) :: _))
    refine lv_astore_n (lv' := [(3, .ref (ad (9 + i7))), (2, .int (σ 0 8)), (0, .ref (ad 0)), (1, .int p1)]) hx hb dX5_bringOnTop_10 rfl hl (by decide) rfl (fun ls hl => ?_)
    refine lv_aload_n hx hb dX5_bringOnTop_11 rfl (lv_at hl 2 rfl) ?_
    refine lv_iconst (v := 0) hx hb dX5_bringOnTop_12 (by decide +kernel) ?_
    refine lv_iconst (v := (-1)) hx hb dX5_bringOnTop_13 (by decide +kernel) ?_
    refine lv_iconst (v := 0) hx hb dX5_bringOnTop_14 (by decide +kernel) ?_
    refine bk_v (rnV (rest := []) Z hw (k_X5_setChange (p1 := 0) (p2 := (-1)) (p3 := 0) I0) v_X5_setChange q_3_41 (0) (by decide) rfl rfl rfl rfl hl.1 rfl rfl (Nat.le_of_ble_eq_true rfl) ⟨(Nat.le_of_ble_eq_true rfl), (Nat.le_of_ble_eq_true rfl)⟩ ⟨(Nat.le_of_ble_eq_true rfl), (Nat.le_of_ble_eq_true rfl)⟩ dX5_bringOnTop_15) hw Z (fun s15 H locs hp hw => ?_)
    obtain ⟨es15, I15⟩ := hp
    refine lv_aload_n hx hb dX5_bringOnTop_18 rfl (lv_at hl 0 rfl) ?_
    refine lv_ifnull hx hb dX5_bringOnTop_19 ?_
    refine lv_aload_n hx hb dX5_bringOnTop_22 rfl (lv_at hl 2 rfl) ?_
    refine gM (j := 6) (v := .int (s15 0 6)) Z hw  (by decide) q_1_177 rfl rfl dX5_bringOnTop_23 ?_
    refine lv_bipush (v := 12) hx hb dX5_bringOnTop_26 (by decide +kernel) ?_
    refine lv_icmp_lt (tgt := 32) hx hb dX5_bringOnTop_28 (by decide) (fun c28 => ?_) (fun c28 => ?_)
    · refine lv_aload_n hx hb dX5_bringOnTop_32 rfl (lv_at hl 2 rfl) ?_
      refine gM (j := 2) (v := .ref (ad 2)) Z hw  (by decide) q_1_172 rfl rfl dX5_bringOnTop_33 ?_
      refine lv_bipush (v := 9) hx hb dX5_bringOnTop_36 (by decide +kernel) ?_
      refine lv_dup2_11 hx hb dX5_bringOnTop_38 rfl rfl ?_
      refine aE (v := s15 2 9) Z hw 2 (by decide) rfl (fun _ => rfl) (vp_in_nI (n := 9) (by decide) (by decide)) ((congrArg (s15 2) (nI_clamp (n := 9) (by decide))).trans rfl) dX5_bringOnTop_39 ?_
      refine lv_aload_n hx hb dX5_bringOnTop_40 rfl (lv_at hl 0 rfl) ?_
      refine lv_aload_n hx hb dX5_bringOnTop_41 rfl (lv_at hl 2 rfl) ?_
      refine gM (j := 6) (v := .int (s15 0 6)) Z hw  (by decide) q_1_177 rfl rfl dX5_bringOnTop_42 ?_
      refine lv_iload_n hx hb dX5_bringOnTop_45 rfl (lv_at hl 3 rfl) ?_
      refine bk_i (rnV (rest := [.int (s15 2 9), .int 9, .ref (ad 2)]) Z hw (k_X7_comeOn (i := i7) (p1 := s15 0 6) (p2 := p1) I15 hi7) v_X7_comeOn q_3_53 (9 + i7) (by have h1 : i7 < 12 := hi7; omega) rfl (mE_src hi7) rfl rfl hl.1 rfl rfl (Nat.le_of_ble_eq_true rfl) ⟨(Nat.le_of_ble_eq_true rfl), (Nat.le_of_ble_eq_true rfl)⟩ ⟨(Nat.le_of_ble_eq_true rfl), (Nat.le_of_ble_eq_true rfl)⟩ dX5_bringOnTop_46) hw Z (fun r46 s46 H locs hp hw => ?_)
      obtain ⟨er46, es46, I46⟩ := hp
      refine lv_iadd hx hb dX5_bringOnTop_49 ?_
      refine sE (j := 9) Z hw 2 (by decide) rfl (fun _ => rfl) (vp_in_nI (n := 9) (by decide) (by decide)) (nI_clamp (n := 9) (by decide)) dX5_bringOnTop_50 (fun H locs hw => ?_)
      refine lv_aload_n hx hb dX5_bringOnTop_51 rfl (lv_at hl 2 rfl) ?_
      refine gM (j := 5) (v := .ref (ad 4)) Z hw  (by decide) q_1_176 rfl rfl dX5_bringOnTop_52 ?_
      refine lv_aload_n hx hb dX5_bringOnTop_55 rfl (lv_at hl 2 rfl) ?_
      refine gM (j := 6) (v := .int (s46 0 6)) Z hw  (by decide) q_1_177 rfl (congrArg (fun x => some (Value.int x)) (up2_j (by decide))) dX5_bringOnTop_56 ?_
      refine lv_iload_n hx hb dX5_bringOnTop_59 rfl (lv_at hl 1 rfl) ?_
      refine sE (j := (s46 0 6).toNatClampNeg) Z hw 4 (by decide) rfl (fun _ => rfl) (bt_vp (x := 0) (by rw [← es46, comeOn_06]) c28 (by decide) I46.2.1.1) rfl dX5_bringOnTop_60 (fun H locs hw => ?_)
      refine lv_aload_n hx hb dX5_bringOnTop_61 rfl (lv_at hl 2 rfl) ?_
      refine lv_dup hx hb dX5_bringOnTop_62 rfl ?_
      refine gM (j := 6) (v := .int (s46 0 6)) Z hw  (by decide) q_1_177 rfl (congrArg (fun x => some (Value.int x)) ((up2_k (by decide)).trans (up2_j (by decide)))) dX5_bringOnTop_63 ?_
      refine lv_iconst (v := 1) hx hb dX5_bringOnTop_66 (by decide +kernel) ?_
      refine lv_iadd hx hb dX5_bringOnTop_67 ?_
      refine pM (j := 6) Z hw  (by decide) q_1_177 rfl rfl rfl rfl dX5_bringOnTop_68 (fun H locs hw => ?_)
      refine lv_aload_n hx hb dX5_bringOnTop_71 rfl (lv_at hl 2 rfl) ?_
      refine gM (j := 2) (v := .ref (ad 2)) Z hw  (by decide) q_1_172 rfl rfl dX5_bringOnTop_72 ?_
      refine lv_bipush (v := 8) hx hb dX5_bringOnTop_75 (by decide +kernel) ?_
      refine lv_aload_n hx hb dX5_bringOnTop_77 rfl (lv_at hl 2 rfl) ?_
      refine gM (j := 2) (v := .ref (ad 2)) Z hw  (by decide) q_1_172 rfl rfl dX5_bringOnTop_78 ?_
      refine lv_bipush (v := 8) hx hb dX5_bringOnTop_81 (by decide +kernel) ?_
      refine aE (v := s46 2 8) Z hw 2 (by decide) rfl (fun _ => rfl) (vp_in_nI (n := 8) (by decide) (by decide)) ((congrArg ((up2 (up2 (up2 s46 2 9 ((s15 2 9) + r46)) 4 ((s46 0 6).toNatClampNeg) (σ 0 8)) 0 6 ((s46 0 6) + 1)) 2) (nI_clamp (n := 8) (by decide))).trans ((up2_j (by decide)).trans ((up2_k (by decide)).trans (up2_j (by decide))))) dX5_bringOnTop_83 ?_
      refine lv_aload_n hx hb dX5_bringOnTop_84 rfl (lv_at hl 2 rfl) ?_
      refine gM (j := 6) (v := .int ((s46 0 6) + 1)) Z hw  (by decide) q_1_177 rfl (congrArg (fun x => some (Value.int x)) up2_s) dX5_bringOnTop_85 ?_
      refine va_mmax hx hb (Z.1.2.2.1.trans hl.1.symm) Z.1.2.2.2.1 (Z.1.2.2.2.2 _ q_3_1) (Z.1.2.2.2.2 _ q_3_2) (Z.1.2.2.2.2 _ q_1_18) (Z.1.2.2.2.2 _ q_3_3) (Nat.le_of_ble_eq_true rfl) (Nat.le_of_ble_eq_true rfl) (Nat.le_of_ble_eq_true rfl) (Nat.le_of_ble_eq_true rfl) dX5_bringOnTop_88 ?_
      refine sE (j := 8) Z hw 2 (by decide) rfl (fun _ => rfl) (vp_in_nI (n := 8) (by decide) (by decide)) (nI_clamp (n := 8) (by decide)) dX5_bringOnTop_91 (fun H locs hw => ?_)
      refine lv_aload_n hx hb dX5_bringOnTop_92 rfl (lv_at hl 2 rfl) ?_
      refine gM (j := 10) (v := .ref (ad 5)) Z hw  (by decide) q_1_182 rfl rfl dX5_bringOnTop_93 ?_
      refine lv_iconst (v := 1) hx hb dX5_bringOnTop_96 (by decide +kernel) ?_
      refine lv_iload_n hx hb dX5_bringOnTop_97 rfl (lv_at hl 1 rfl) ?_
      refine lv_iload_n hx hb dX5_bringOnTop_98 rfl (lv_at hl 3 rfl) ?_
      refine bk_v (rnV (rest := []) Z hw (k_X3_add (p1 := 1) (p2 := σ 0 8) (p3 := p1) (InvC.up (InvC.up6 (bt_in (by rw [← es46, comeOn_06]) c28 (by decide) I46.2.1.1) (InvC.up (InvC.up I46 (by decide)) (by unfold InvCcr; omega))) (by decide))) v_X3_add q_2_201 (5) (by decide) rfl rfl rfl rfl hl.1 rfl rfl (Nat.le_of_ble_eq_true rfl) ⟨(Nat.le_of_ble_eq_true rfl), (Nat.le_of_ble_eq_true rfl)⟩ ⟨(Nat.le_of_ble_eq_true rfl), (Nat.le_of_ble_eq_true rfl)⟩ dX5_bringOnTop_99) hw Z (fun s99 H locs hp hw => ?_)
      obtain ⟨es99, I99⟩ := hp
      exact rt_v Z hr hlk hw dX5_bringOnTop_102 ⟨Eq.symm (by subst es99 es46 er46 es15; exact (lf_s hf7 (lf_t c28 rfl))), I99⟩
    · exact rt_v Z hr hlk hw dX5_bringOnTop_31 ⟨Eq.symm (by subst es15; exact (lf_s hf7 (lf_f c28 rfl))), I15⟩
abbrev rmX5_spendOnChange : Room := { frames := 2, cells := 0, slots := 0, locals := 46 }
def f_X5_spendOnChange (σ : St) : St := (if ((σ 0 9) - 1) ≤ 0 then (let r29 := f_X5_isEntering (up2 (up2 σ 2 2 ((σ 2 2) + 1)) 0 9 ((σ 0 9) - 1)); (if r29 = 0 then (let s52 := f_X5_setChange (up2 (up2 σ 2 2 ((σ 2 2) + 1)) 0 9 ((σ 0 9) - 1)) 0 (-1) 0; s52) else (let s42 := f_X5_bringOnTop (up2 (up2 σ 2 2 ((σ 2 2) + 1)) 0 9 ((σ 0 9) - 1)) ((σ 0 0) + 1); s42))) else up2 (up2 σ 2 2 ((σ 2 2) + 1)) 0 9 ((σ 0 9) - 1))
theorem v_X5_spendOnChange : cvV yX5_spendOnChange "NestedBells$Machine" cX5_spendOnChange 1 none 0 := ⟨q_3_59, s_23, q_1_2, q_3_60, rfl, by decide +kernel, by decide +kernel, by decide +kernel⟩
set_option maxHeartbeats 4000000 in
set_option maxRecDepth 100000 in
theorem k_X5_spendOnChange {l : Launch} {D : va_G} {T : Nat → ClassId} {g ad : Nat → Nat} {σ : St} (I0 : InvC σ) : mX l yX5_spendOnChange cX5_spendOnChange 1 none rmX5_spendOnChange D T g 57 ad (cE (mE T ad) σ) [.ref (ad 0)] (qV D 57 ad (mE T ad) (pV (f_X5_spendOnChange σ) InvC)) := by
  refine mX.of (own := "NestedBells$Machine") (by decide +kernel) (Nat.le_of_ble_eq_true rfl) rfl ?_
  intro p e s m below meth c A ls H locs Z hr hlk _ hw hl
  have hx := Z.1.1
  have hb := Z.1.2.1
  have hl : lv_has ls 1 [(0, .ref (ad 0))] := hl
  refine lv_aload_n hx hb dX5_spendOnChange_0 rfl (lv_at hl 0 rfl) ?_
  refine gM (j := 2) (v := .ref (ad 2)) Z hw  (by decide) q_1_172 rfl rfl dX5_spendOnChange_1 ?_
  refine lv_iconst (v := 2) hx hb dX5_spendOnChange_4 (by decide +kernel) ?_
  refine lv_dup2_11 hx hb dX5_spendOnChange_5 rfl rfl ?_
  refine aE (v := σ 2 2) Z hw 2 (by decide) rfl (fun _ => rfl) (vp_in_nI (n := 2) (by decide) (by decide)) ((congrArg (σ 2) (nI_clamp (n := 2) (by decide))).trans rfl) dX5_spendOnChange_6 ?_
  refine lv_iconst (v := 1) hx hb dX5_spendOnChange_7 (by decide +kernel) ?_
  refine lv_iadd hx hb dX5_spendOnChange_8 ?_
  refine sE (j := 2) Z hw 2 (by decide) rfl (fun _ => rfl) (vp_in_nI (n := 2) (by decide) (by decide)) (nI_clamp (n := 2) (by decide)) dX5_spendOnChange_9 (fun H locs hw => ?_)
  refine lv_aload_n hx hb dX5_spendOnChange_10 rfl (lv_at hl 0 rfl) ?_
  refine lv_dup hx hb dX5_spendOnChange_11 rfl ?_
  refine gM (j := 9) (v := .int (σ 0 9)) Z hw  (by decide) q_1_181 rfl (congrArg (fun x => some (Value.int x)) (up2_j (by decide))) dX5_spendOnChange_12 ?_
  refine lv_iconst (v := 1) hx hb dX5_spendOnChange_15 (by decide +kernel) ?_
  refine lv_isub hx hb dX5_spendOnChange_16 ?_
  refine pM (j := 9) Z hw  (by decide) q_1_181 rfl rfl rfl rfl dX5_spendOnChange_17 (fun H locs hw => ?_)
  refine lv_aload_n hx hb dX5_spendOnChange_20 rfl (lv_at hl 0 rfl) ?_
  refine gM (j := 9) (v := .int ((σ 0 9) - 1)) Z hw  (by decide) q_1_181 rfl (congrArg (fun x => some (Value.int x)) up2_s) dX5_spendOnChange_21 ?_
  refine lv_if_le (tgt := 28) hx hb dX5_spendOnChange_24 (by decide) (fun c24 => ?_) (fun c24 => ?_)
  · refine lv_aload_n hx hb dX5_spendOnChange_28 rfl (lv_at hl 0 rfl) ?_
    refine bk_ip (rnV (rest := []) Z hw (k_X5_isEntering  (InvC.up (InvC.up I0 (by decide)) (by decide))) v_X5_isEntering q_3_21 (0) (by decide) rfl rfl rfl rfl hl.1 rfl rfl (Nat.le_of_ble_eq_true rfl) ⟨(Nat.le_of_ble_eq_true rfl), (Nat.le_of_ble_eq_true rfl)⟩ ⟨(Nat.le_of_ble_eq_true rfl), (Nat.le_of_ble_eq_true rfl)⟩ dX5_spendOnChange_29) hw Z (fun r29 er29 H locs hw => ?_)
    refine lv_if_eq (tgt := 48) hx hb dX5_spendOnChange_32 (by decide) (fun c32 => ?_) (fun c32 => ?_)
    · refine lv_aload_n hx hb dX5_spendOnChange_48 rfl (lv_at hl 0 rfl) ?_
      refine lv_iconst (v := 0) hx hb dX5_spendOnChange_49 (by decide +kernel) ?_
      refine lv_iconst (v := (-1)) hx hb dX5_spendOnChange_50 (by decide +kernel) ?_
      refine lv_iconst (v := 0) hx hb dX5_spendOnChange_51 (by decide +kernel) ?_
      refine bk_v (rnV (rest := []) Z hw (k_X5_setChange (p1 := 0) (p2 := (-1)) (p3 := 0) (InvC.up (InvC.up I0 (by decide)) (by decide))) v_X5_setChange q_3_41 (0) (by decide) rfl rfl rfl rfl hl.1 rfl rfl (Nat.le_of_ble_eq_true rfl) ⟨(Nat.le_of_ble_eq_true rfl), (Nat.le_of_ble_eq_true rfl)⟩ ⟨(Nat.le_of_ble_eq_true rfl), (Nat.le_of_ble_eq_true rfl)⟩ dX5_spendOnChange_52) hw Z (fun s52 H locs hp hw => ?_)
      obtain ⟨es52, I52⟩ := hp
      exact rt_v Z hr hlk hw dX5_spendOnChange_55 ⟨Eq.symm (by subst es52 er29; exact (lf_t c24 (lf_t c32 rfl))), I52⟩
    · refine lv_aload_n hx hb dX5_spendOnChange_35 rfl (lv_at hl 0 rfl) ?_
      refine lv_aload_n hx hb dX5_spendOnChange_36 rfl (lv_at hl 0 rfl) ?_
      refine gM (j := 0) (v := .int (σ 0 0)) Z hw  (by decide) q_1_170 rfl (congrArg (fun x => some (Value.int x)) ((up2_j (by decide)).trans (up2_j (by decide)))) dX5_spendOnChange_37 ?_
      refine lv_iconst (v := 1) hx hb dX5_spendOnChange_40 (by decide +kernel) ?_
      refine lv_iadd hx hb dX5_spendOnChange_41 ?_
      refine bk_v (rnV (rest := []) Z hw (k_X5_bringOnTop (p1 := (σ 0 0) + 1) (InvC.up (InvC.up I0 (by decide)) (by decide))) v_X5_bringOnTop q_3_49 (0) (by decide) rfl rfl rfl rfl hl.1 rfl rfl (Nat.le_of_ble_eq_true rfl) ⟨(Nat.le_of_ble_eq_true rfl), (Nat.le_of_ble_eq_true rfl)⟩ ⟨(Nat.le_of_ble_eq_true rfl), (Nat.le_of_ble_eq_true rfl)⟩ dX5_spendOnChange_42) hw Z (fun s42 H locs hp hw => ?_)
      obtain ⟨es42, I42⟩ := hp
      refine lv_goto (tgt := 55) hx hb dX5_spendOnChange_45 (by decide) ?_
      exact rt_v Z hr hlk hw dX5_spendOnChange_55 ⟨Eq.symm (by subst es42 er29; exact (lf_t c24 (lf_f c32 rfl))), I42⟩
  · exact rt_v Z hr hlk hw dX5_spendOnChange_27 ⟨Eq.symm (lf_f c24 rfl), (InvC.up (InvC.up I0 (by decide)) (by decide))⟩
abbrev rmX5_spendOnHandler : Room := { frames := 1, cells := 0, slots := 0, locals := 23 }
def f_X5_spendOnHandler (σ : St) : Int32 × St := (let r7 := f_X5_stackedAt σ ((σ 0 6) - 1); (oc (f_X5_find σ r7) (0, σ) (fun i13 => (if (σ (9 + i13) 2) ≤ ((σ (9 + i13) 8) + 1) then (let s73 := f_X7_goOff (up2 (up2 (up2 σ 2 1 ((σ 2 1) + 1)) (9 + i13) 15 ((σ (9 + i13) 15) + 1)) (9 + i13) 8 ((σ (9 + i13) 8) + 1)) i13 ((σ 0 0) + 1); (let s98 := f_X3_add (up2 s73 0 6 ((s73 0 6) - 1)) 2 r7 ((s73 0 0) + 1); (let s102 := f_X5_beginExit s98; (1, s102)))) else (0, up2 (up2 (up2 σ 2 1 ((σ 2 1) + 1)) (9 + i13) 15 ((σ (9 + i13) 15) + 1)) (9 + i13) 8 ((σ (9 + i13) 8) + 1))))))
theorem v_X5_spendOnHandler : cvV yX5_spendOnHandler "NestedBells$Machine" cX5_spendOnHandler 3 (some (.int)) 0 := ⟨q_3_63, s_24, q_1_2, q_3_64, rfl, by decide +kernel, by decide +kernel, by decide +kernel⟩
set_option maxHeartbeats 4000000 in
set_option maxRecDepth 100000 in
theorem k_X5_spendOnHandler {l : Launch} {D : va_G} {T : Nat → ClassId} {g ad : Nat → Nat} {σ : St} (I0 : InvC σ) : mX l yX5_spendOnHandler cX5_spendOnHandler 3 (some (.int)) rmX5_spendOnHandler D T g 57 ad (cE (mE T ad) σ) [.ref (ad 0)] (qI D 57 ad (mE T ad) (pI (f_X5_spendOnHandler σ) InvC)) := by
  refine mX.of (own := "NestedBells$Machine") (by decide +kernel) (Nat.le_of_ble_eq_true rfl) rfl ?_
  intro p e s m below meth c A ls H locs Z hr hlk _ hw hl
  have hx := Z.1.1
  have hb := Z.1.2.1
  have hl : lv_has ls 3 [(0, .ref (ad 0))] := hl
  refine lv_aload_n hx hb dX5_spendOnHandler_0 rfl (lv_at hl 0 rfl) ?_
  refine lv_aload_n hx hb dX5_spendOnHandler_1 rfl (lv_at hl 0 rfl) ?_
  refine gM (j := 6) (v := .int (σ 0 6)) Z hw  (by decide) q_1_177 rfl rfl dX5_spendOnHandler_2 ?_
  refine lv_iconst (v := 1) hx hb dX5_spendOnHandler_5 (by decide +kernel) ?_
  refine lv_isub hx hb dX5_spendOnHandler_6 ?_
  refine bk_ip (rnV (rest := []) Z hw (k_X5_stackedAt (p1 := (σ 0 6) - 1) I0) v_X5_stackedAt q_2_233 (0) (by decide) rfl rfl rfl rfl hl.1 rfl rfl (Nat.le_of_ble_eq_true rfl) ⟨(Nat.le_of_ble_eq_true rfl), (Nat.le_of_ble_eq_true rfl)⟩ ⟨(Nat.le_of_ble_eq_true rfl), (Nat.le_of_ble_eq_true rfl)⟩ dX5_spendOnHandler_7) hw Z (fun r7 er7 H locs hw => ?_)
  refine lv_istore_n (lv' := [(1, .int r7), (0, .ref (ad 0))]) hx hb dX5_spendOnHandler_10 rfl hl (by decide) rfl (fun ls hl => ?_)
  refine lv_aload_n hx hb dX5_spendOnHandler_11 rfl (lv_at hl 1 rfl) ?_
  refine lv_iload_n hx hb dX5_spendOnHandler_12 rfl (lv_at hl 0 rfl) ?_
  refine bk_qp (rnV (rest := []) Z hw (k_X5_find (p1 := r7) I0) v_X5_find q_2_181 (0) (by decide) rfl rfl rfl rfl hl.1 rfl rfl (Nat.le_of_ble_eq_true rfl) ⟨(Nat.le_of_ble_eq_true rfl), (Nat.le_of_ble_eq_true rfl)⟩ ⟨(Nat.le_of_ble_eq_true rfl), (Nat.le_of_ble_eq_true rfl)⟩ dX5_spendOnHandler_13) hw Z (fun r13 er13 H locs hw => ?_)
  subst er13
  rcases hf13 : f_X5_find σ r7 with _ | i13
  · show W _ _ _ _ _ _ _ _ _ _ _ _ _ _ _ (F0 _ _ _ (.null :: _))
    refine lv_astore_nN (lv' := [(2, .null), (1, .int r7), (0, .ref (ad 0))]) hx hb dX5_spendOnHandler_16 rfl hl (by decide) rfl (fun ls hl => ?_)
    refine lv_aload_nN hx hb dX5_spendOnHandler_17 rfl (lv_at hl 0 rfl) ?_
    refine lv_ifnonnullN hx hb dX5_spendOnHandler_18 ?_
    refine lv_iconst (v := 0) hx hb dX5_spendOnHandler_21 (by decide +kernel) ?_
    exact rt_i Z hr hlk hw dX5_spendOnHandler_22 (pI.mk (by subst er7; exact (lf_n hf13 rfl)) I0)
  · have hi13 : i13 < 12 := fin_lt I0 hf13
    show W _ _ _ _ _ _ _ _ _ _ _ _ _ _ _ (F0 _ _ _ (.ref (ad (9 + i13)) :: _))
    refine lv_astore_n (lv' := [(2, .ref (ad (9 + i13))), (1, .int r7), (0, .ref (ad 0))]) hx hb dX5_spendOnHandler_16 rfl hl (by decide) rfl (fun ls hl => ?_)
    refine lv_aload_n hx hb dX5_spendOnHandler_17 rfl (lv_at hl 0 rfl) ?_
    refine lv_ifnonnull (tgt := 23) hx hb dX5_spendOnHandler_18 (by decide) ?_
    refine lv_aload_n hx hb dX5_spendOnHandler_23 rfl (lv_at hl 2 rfl) ?_
    refine gM (j := 2) (v := .ref (ad 2)) Z hw  (by decide) q_1_172 rfl rfl dX5_spendOnHandler_24 ?_
    refine lv_iconst (v := 1) hx hb dX5_spendOnHandler_27 (by decide +kernel) ?_
    refine lv_dup2_11 hx hb dX5_spendOnHandler_28 rfl rfl ?_
    refine aE (v := σ 2 1) Z hw 2 (by decide) rfl (fun _ => rfl) (vp_in_nI (n := 1) (by decide) (by decide)) ((congrArg (σ 2) (nI_clamp (n := 1) (by decide))).trans rfl) dX5_spendOnHandler_29 ?_
    refine lv_iconst (v := 1) hx hb dX5_spendOnHandler_30 (by decide +kernel) ?_
    refine lv_iadd hx hb dX5_spendOnHandler_31 ?_
    refine sE (j := 1) Z hw 2 (by decide) rfl (fun _ => rfl) (vp_in_nI (n := 1) (by decide) (by decide)) (nI_clamp (n := 1) (by decide)) dX5_spendOnHandler_32 (fun H locs hw => ?_)
    refine lv_aload_n hx hb dX5_spendOnHandler_33 rfl (lv_at hl 0 rfl) ?_
    refine lv_dup hx hb dX5_spendOnHandler_34 rfl ?_
    refine gU (j := 15) (v := .int (σ (9 + i13) 15)) Z hw hi13 (by decide) q_1_120 rfl (congrArg (fun x => some (Value.int x)) (up2_j (by decide))) dX5_spendOnHandler_35 ?_
    refine lv_iconst (v := 1) hx hb dX5_spendOnHandler_38 (by decide +kernel) ?_
    refine lv_iadd hx hb dX5_spendOnHandler_39 ?_
    refine pU (j := 15) Z hw hi13 (by decide) q_1_120 rfl rfl rfl rfl dX5_spendOnHandler_40 (fun H locs hw => ?_)
    refine lv_aload_n hx hb dX5_spendOnHandler_43 rfl (lv_at hl 0 rfl) ?_
    refine lv_dup hx hb dX5_spendOnHandler_44 rfl ?_
    refine gU (j := 8) (v := .int (σ (9 + i13) 8)) Z hw hi13 (by decide) q_1_106 rfl (congrArg (fun x => some (Value.int x)) ((up2_j (by decide)).trans (up2_j (by decide)))) dX5_spendOnHandler_45 ?_
    refine lv_iconst (v := 1) hx hb dX5_spendOnHandler_48 (by decide +kernel) ?_
    refine lv_iadd hx hb dX5_spendOnHandler_49 ?_
    refine pU (j := 8) Z hw hi13 (by decide) q_1_106 rfl rfl rfl rfl dX5_spendOnHandler_50 (fun H locs hw => ?_)
    refine lv_aload_n hx hb dX5_spendOnHandler_53 rfl (lv_at hl 0 rfl) ?_
    refine gU (j := 8) (v := .int ((σ (9 + i13) 8) + 1)) Z hw hi13 (by decide) q_1_106 rfl (congrArg (fun x => some (Value.int x)) up2_s) dX5_spendOnHandler_54 ?_
    refine lv_aload_n hx hb dX5_spendOnHandler_57 rfl (lv_at hl 0 rfl) ?_
    refine gU (j := 2) (v := .int (σ (9 + i13) 2)) Z hw hi13 (by decide) q_1_94 rfl (congrArg (fun x => some (Value.int x)) ((up2_j (by decide)).trans ((up2_j (by decide)).trans (up2_j (by decide))))) dX5_spendOnHandler_58 ?_
    refine lv_icmp_ge (tgt := 66) hx hb dX5_spendOnHandler_61 (by decide) (fun c61 => ?_) (fun c61 => ?_)
    · refine lv_aload_n hx hb dX5_spendOnHandler_66 rfl (lv_at hl 0 rfl) ?_
      refine lv_aload_n hx hb dX5_spendOnHandler_67 rfl (lv_at hl 2 rfl) ?_
      refine gM (j := 0) (v := .int (σ 0 0)) Z hw  (by decide) q_1_170 rfl (congrArg (fun x => some (Value.int x)) ((up2_j (by decide)).trans ((up2_j (by decide)).trans (up2_j (by decide))))) dX5_spendOnHandler_68 ?_
      refine lv_iconst (v := 1) hx hb dX5_spendOnHandler_71 (by decide +kernel) ?_
      refine lv_iadd hx hb dX5_spendOnHandler_72 ?_
      refine bk_v (rnV (rest := []) Z hw (k_X7_goOff (i := i13) (p1 := (σ 0 0) + 1) (InvC.up (InvC.up (InvC.up I0 (by decide)) (by unfold InvCcr; omega)) (by unfold InvCcr; omega)) hi13) v_X7_goOff q_3_65 (9 + i13) (by have h1 : i13 < 12 := hi13; omega) rfl (mE_src hi13) rfl rfl hl.1 rfl rfl (Nat.le_of_ble_eq_true rfl) ⟨(Nat.le_of_ble_eq_true rfl), (Nat.le_of_ble_eq_true rfl)⟩ ⟨(Nat.le_of_ble_eq_true rfl), (Nat.le_of_ble_eq_true rfl)⟩ dX5_spendOnHandler_73) hw Z (fun s73 H locs hp hw => ?_)
      obtain ⟨es73, I73⟩ := hp
      refine lv_aload_n hx hb dX5_spendOnHandler_76 rfl (lv_at hl 2 rfl) ?_
      refine lv_dup hx hb dX5_spendOnHandler_77 rfl ?_
      refine gM (j := 6) (v := .int (s73 0 6)) Z hw  (by decide) q_1_177 rfl rfl dX5_spendOnHandler_78 ?_
      refine lv_iconst (v := 1) hx hb dX5_spendOnHandler_81 (by decide +kernel) ?_
      refine lv_isub hx hb dX5_spendOnHandler_82 ?_
      refine pM (j := 6) Z hw  (by decide) q_1_177 rfl rfl rfl rfl dX5_spendOnHandler_83 (fun H locs hw => ?_)
      refine lv_aload_n hx hb dX5_spendOnHandler_86 rfl (lv_at hl 2 rfl) ?_
      refine gM (j := 10) (v := .ref (ad 5)) Z hw  (by decide) q_1_182 rfl rfl dX5_spendOnHandler_87 ?_
      refine lv_iconst (v := 2) hx hb dX5_spendOnHandler_90 (by decide +kernel) ?_
      refine lv_iload_n hx hb dX5_spendOnHandler_91 rfl (lv_at hl 1 rfl) ?_
      refine lv_aload_n hx hb dX5_spendOnHandler_92 rfl (lv_at hl 2 rfl) ?_
      refine gM (j := 0) (v := .int (s73 0 0)) Z hw  (by decide) q_1_170 rfl (congrArg (fun x => some (Value.int x)) (up2_j (by decide))) dX5_spendOnHandler_93 ?_
      refine lv_iconst (v := 1) hx hb dX5_spendOnHandler_96 (by decide +kernel) ?_
      refine lv_iadd hx hb dX5_spendOnHandler_97 ?_
      refine bk_v (rnV (rest := []) Z hw (k_X3_add (p1 := 2) (p2 := r7) (p3 := (s73 0 0) + 1) (InvC.up6 (by rw [show s73 0 6 = σ 0 6 by rw [← es73, goOff_06]; simp [up2]]; exact dec_in I0.2.1.2 (st_some er7 hf13) I0.2.1.1) I73)) v_X3_add q_2_201 (5) (by decide) rfl rfl rfl rfl hl.1 rfl rfl (Nat.le_of_ble_eq_true rfl) ⟨(Nat.le_of_ble_eq_true rfl), (Nat.le_of_ble_eq_true rfl)⟩ ⟨(Nat.le_of_ble_eq_true rfl), (Nat.le_of_ble_eq_true rfl)⟩ dX5_spendOnHandler_98) hw Z (fun s98 H locs hp hw => ?_)
      obtain ⟨es98, I98⟩ := hp
      refine lv_aload_n hx hb dX5_spendOnHandler_101 rfl (lv_at hl 2 rfl) ?_
      refine bk_v (rnV (rest := []) Z hw (k_X5_beginExit  I98) v_X5_beginExit q_3_29 (0) (by decide) rfl rfl rfl rfl hl.1 rfl rfl (Nat.le_of_ble_eq_true rfl) ⟨(Nat.le_of_ble_eq_true rfl), (Nat.le_of_ble_eq_true rfl)⟩ ⟨(Nat.le_of_ble_eq_true rfl), (Nat.le_of_ble_eq_true rfl)⟩ dX5_spendOnHandler_102) hw Z (fun s102 H locs hp hw => ?_)
      obtain ⟨es102, I102⟩ := hp
      refine lv_iconst (v := 1) hx hb dX5_spendOnHandler_105 (by decide +kernel) ?_
      exact rt_i Z hr hlk hw dX5_spendOnHandler_106 (pI.mk (by subst es102 es98 es73 er7; exact (lf_s hf13 (lf_t c61 rfl))) I102)
    · refine lv_iconst (v := 0) hx hb dX5_spendOnHandler_64 (by decide +kernel) ?_
      exact rt_i Z hr hlk hw dX5_spendOnHandler_65 (pI.mk (by subst er7; exact (lf_s hf13 (lf_f c61 rfl))) (InvC.up (InvC.up (InvC.up I0 (by decide)) (by unfold InvCcr; omega)) (by unfold InvCcr; omega)))
abbrev rmX5_tick : Room := { frames := 3, cells := 0, slots := 0, locals := 67 }
def f_X5_tick (σ : St) : Int32 × St := (let s1 := f_X5_ringTimers σ; (let r7 := f_X5_level s1; (let r10 := f_X5_candidateAbove s1 r7; (let s13 := f_X5_arrange s1 r10; (let r17 := f_X5_isEntering s13; (let s38 : St := (if r17 = 0 then s13 else (if (s13 0 9) = 0 then (let s35 := f_X5_bringOnTop s13 (s13 0 0); s35) else s13)); (let w79_1 : Int32 := (if (s38 0 7) = 0 then (if (s38 0 6) ≤ 0 then 0 else (let r62 := (f_X5_spendOnHandler s38).1; let s62 := (f_X5_spendOnHandler s38).2; r62)) else (let s48 := f_X5_spendOnChange s38; 0)); let s79 : St := (if (s38 0 7) = 0 then (if (s38 0 6) ≤ 0 then up2 s38 2 0 ((s38 2 0) + 1) else (let r62 := (f_X5_spendOnHandler s38).1; let s62 := (f_X5_spendOnHandler s38).2; s62)) else (let s48 := f_X5_spendOnChange s38; s48)); (w79_1, up2 s79 0 0 ((s79 0 0) + 1)))))))))
theorem v_X5_tick : cvV yX5_tick "NestedBells$Machine" cX5_tick 2 (some (.int)) 0 := ⟨q_2_219, s_8, q_1_2, q_2_220, rfl, by decide +kernel, by decide +kernel, by decide +kernel⟩
set_option maxHeartbeats 4000000 in
set_option maxRecDepth 100000 in
theorem k_X5_tick {l : Launch} {D : va_G} {T : Nat → ClassId} {g ad : Nat → Nat} {σ : St} (I0 : InvC σ) : mX l yX5_tick cX5_tick 2 (some (.int)) rmX5_tick D T g 57 ad (cE (mE T ad) σ) [.ref (ad 0)] (qI D 57 ad (mE T ad) (pI (f_X5_tick σ) InvC)) := by
  refine mX.of (own := "NestedBells$Machine") (by decide +kernel) (Nat.le_of_ble_eq_true rfl) rfl ?_
  intro p e s m below meth c A ls H locs Z hr hlk _ hw hl
  have hx := Z.1.1
  have hb := Z.1.2.1
  have hl : lv_has ls 2 [(0, .ref (ad 0))] := hl
  refine lv_aload_n hx hb dX5_tick_0 rfl (lv_at hl 0 rfl) ?_
  refine bk_v (rnV (rest := []) Z hw (k_X5_ringTimers  I0) v_X5_ringTimers q_2_221 (0) (by decide) rfl rfl rfl rfl hl.1 rfl rfl (Nat.le_of_ble_eq_true rfl) ⟨(Nat.le_of_ble_eq_true rfl), (Nat.le_of_ble_eq_true rfl)⟩ ⟨(Nat.le_of_ble_eq_true rfl), (Nat.le_of_ble_eq_true rfl)⟩ dX5_tick_1) hw Z (fun s1 H locs hp hw => ?_)
  obtain ⟨es1, I1⟩ := hp
  refine lv_aload_n hx hb dX5_tick_4 rfl (lv_at hl 0 rfl) ?_
  refine lv_aload_n hx hb dX5_tick_5 rfl (lv_at hl 0 rfl) ?_
  refine lv_aload_n hx hb dX5_tick_6 rfl (lv_at hl 0 rfl) ?_
  refine bk_ip (rnV (rest := [.ref (ad 0), .ref (ad 0)]) Z hw (k_X5_level  I1) v_X5_level q_2_225 (0) (by decide) rfl rfl rfl rfl hl.1 rfl rfl (Nat.le_of_ble_eq_true rfl) ⟨(Nat.le_of_ble_eq_true rfl), (Nat.le_of_ble_eq_true rfl)⟩ ⟨(Nat.le_of_ble_eq_true rfl), (Nat.le_of_ble_eq_true rfl)⟩ dX5_tick_7) hw Z (fun r7 er7 H locs hw => ?_)
  refine bk_ip (rnV (rest := [.ref (ad 0)]) Z hw (k_X5_candidateAbove (p1 := r7) I1) v_X5_candidateAbove q_3_8 (0) (by decide) rfl rfl rfl rfl hl.1 rfl rfl (Nat.le_of_ble_eq_true rfl) ⟨(Nat.le_of_ble_eq_true rfl), (Nat.le_of_ble_eq_true rfl)⟩ ⟨(Nat.le_of_ble_eq_true rfl), (Nat.le_of_ble_eq_true rfl)⟩ dX5_tick_10) hw Z (fun r10 er10 H locs hw => ?_)
  refine bk_v (rnV (rest := []) Z hw (k_X5_arrange (p1 := r10) I1) v_X5_arrange q_3_17 (0) (by decide) rfl rfl rfl rfl hl.1 rfl rfl (Nat.le_of_ble_eq_true rfl) ⟨(Nat.le_of_ble_eq_true rfl), (Nat.le_of_ble_eq_true rfl)⟩ ⟨(Nat.le_of_ble_eq_true rfl), (Nat.le_of_ble_eq_true rfl)⟩ dX5_tick_13) hw Z (fun s13 H locs hp hw => ?_)
  obtain ⟨es13, I13⟩ := hp
  refine lv_aload_n hx hb dX5_tick_16 rfl (lv_at hl 0 rfl) ?_
  refine bk_ip (rnV (rest := []) Z hw (k_X5_isEntering  I13) v_X5_isEntering q_3_21 (0) (by decide) rfl rfl rfl rfl hl.1 rfl rfl (Nat.le_of_ble_eq_true rfl) ⟨(Nat.le_of_ble_eq_true rfl), (Nat.le_of_ble_eq_true rfl)⟩ ⟨(Nat.le_of_ble_eq_true rfl), (Nat.le_of_ble_eq_true rfl)⟩ dX5_tick_17) hw Z (fun r17 er17 H locs hw => ?_)
  have hj38 : ∀ (s38 : St) (H : Heap) (locs : List Loc) (ls : Array Slot), ((if r17 = 0 then s13 else (if (s13 0 9) = 0 then (let s35 := f_X5_bringOnTop s13 (s13 0 0); s35) else s13)) : St) = s38 → InvC s38 → wo D A s.heap 57 ad (cE (mE T ad) s38) H locs → lv_has ls 2 [(0, .ref (ad 0))] → W p l e rmX5_tick s m [.ref (ad 0)].toArray below meth c H locs 0 0 (MQ below (qI D 57 ad (mE T ad) (pI (f_X5_tick σ) InvC) A) [.ref (ad 0)].toArray s rmX5_tick.cells rmX5_tick.slots A) (F0 m 38 ls []) := by
    intro s38 H locs ls es38 I38 hw hl
    refine lv_iconst (v := 0) hx hb dX5_tick_38 (by decide +kernel) ?_
    refine lv_istore_n (lv' := [(1, .int 0), (0, .ref (ad 0))]) hx hb dX5_tick_39 rfl hl (by decide) rfl (fun ls hl => ?_)
    refine lv_aload_n hx hb dX5_tick_40 rfl (lv_at hl 1 rfl) ?_
    refine gM (j := 7) (v := .int (s38 0 7)) Z hw  (by decide) q_1_179 rfl rfl dX5_tick_41 ?_
    have hj79 : ∀ (w79_1 : Int32) (s79 : St) (H : Heap) (locs : List Loc) (ls : Array Slot), ((if (s38 0 7) = 0 then (if (s38 0 6) ≤ 0 then 0 else (let r62 := (f_X5_spendOnHandler s38).1; let s62 := (f_X5_spendOnHandler s38).2; r62)) else (let s48 := f_X5_spendOnChange s38; 0)) : Int32) = w79_1 → ((if (s38 0 7) = 0 then (if (s38 0 6) ≤ 0 then up2 s38 2 0 ((s38 2 0) + 1) else (let r62 := (f_X5_spendOnHandler s38).1; let s62 := (f_X5_spendOnHandler s38).2; s62)) else (let s48 := f_X5_spendOnChange s38; s48)) : St) = s79 → InvC s79 → wo D A s.heap 57 ad (cE (mE T ad) s79) H locs → lv_has ls 2 [(1, .int w79_1), (0, .ref (ad 0))] → W p l e rmX5_tick s m [.ref (ad 0)].toArray below meth c H locs 0 0 (MQ below (qI D 57 ad (mE T ad) (pI (f_X5_tick σ) InvC) A) [.ref (ad 0)].toArray s rmX5_tick.cells rmX5_tick.slots A) (F0 m 79 ls []) := by
      intro w79_1 s79 H locs ls ew79_1 es79 I79 hw hl
      refine lv_aload_n hx hb dX5_tick_79 rfl (lv_at hl 1 rfl) ?_
      refine lv_dup hx hb dX5_tick_80 rfl ?_
      refine gM (j := 0) (v := .int (s79 0 0)) Z hw  (by decide) q_1_170 rfl rfl dX5_tick_81 ?_
      refine lv_iconst (v := 1) hx hb dX5_tick_84 (by decide +kernel) ?_
      refine lv_iadd hx hb dX5_tick_85 ?_
      refine pM (j := 0) Z hw  (by decide) q_1_170 rfl rfl rfl rfl dX5_tick_86 (fun H locs hw => ?_)
      refine lv_iload_n hx hb dX5_tick_89 rfl (lv_at hl 0 rfl) ?_
      exact rt_i Z hr hlk hw dX5_tick_90 (pI.mk (by subst es79 ew79_1 es38 er17 es13 er10 er7 es1; exact rfl) (InvC.up I79 (by decide)))
    refine lv_if_eq (tgt := 54) hx hb dX5_tick_44 (by decide) (fun c44 => ?_) (fun c44 => ?_)
    · refine lv_aload_n hx hb dX5_tick_54 rfl (lv_at hl 1 rfl) ?_
      refine gM (j := 6) (v := .int (s38 0 6)) Z hw  (by decide) q_1_177 rfl rfl dX5_tick_55 ?_
      refine lv_if_le (tgt := 69) hx hb dX5_tick_58 (by decide) (fun c58 => ?_) (fun c58 => ?_)
      · refine lv_aload_n hx hb dX5_tick_69 rfl (lv_at hl 1 rfl) ?_
        refine gM (j := 2) (v := .ref (ad 2)) Z hw  (by decide) q_1_172 rfl rfl dX5_tick_70 ?_
        refine lv_iconst (v := 0) hx hb dX5_tick_73 (by decide +kernel) ?_
        refine lv_dup2_11 hx hb dX5_tick_74 rfl rfl ?_
        refine aE (v := s38 2 0) Z hw 2 (by decide) rfl (fun _ => rfl) (vp_in_nI (n := 0) (by decide) (by decide)) ((congrArg (s38 2) (nI_clamp (n := 0) (by decide))).trans rfl) dX5_tick_75 ?_
        refine lv_iconst (v := 1) hx hb dX5_tick_76 (by decide +kernel) ?_
        refine lv_iadd hx hb dX5_tick_77 ?_
        refine sE (j := 0) Z hw 2 (by decide) rfl (fun _ => rfl) (vp_in_nI (n := 0) (by decide) (by decide)) (nI_clamp (n := 0) (by decide)) dX5_tick_78 (fun H locs hw => ?_)
        exact hj79 _ _ H locs ls (Eq.symm (lf_t c44 (lf_t c58 rfl))) (Eq.symm (lf_t c44 (lf_t c58 rfl))) (InvC.up I38 (by decide)) hw (lv_sub hl [0, 1] rfl)
      · refine lv_aload_n hx hb dX5_tick_61 rfl (lv_at hl 1 rfl) ?_
        refine bk_i (rnV (rest := []) Z hw (k_X5_spendOnHandler  I38) v_X5_spendOnHandler q_3_61 (0) (by decide) rfl rfl rfl rfl hl.1 rfl rfl (Nat.le_of_ble_eq_true rfl) ⟨(Nat.le_of_ble_eq_true rfl), (Nat.le_of_ble_eq_true rfl)⟩ ⟨(Nat.le_of_ble_eq_true rfl), (Nat.le_of_ble_eq_true rfl)⟩ dX5_tick_62) hw Z (fun r62 s62 H locs hp hw => ?_)
        obtain ⟨er62, es62, I62⟩ := hp
        refine lv_istore_n (lv' := [(1, .int r62), (0, .ref (ad 0))]) hx hb dX5_tick_65 rfl hl (by decide) rfl (fun ls hl => ?_)
        refine lv_goto (tgt := 79) hx hb dX5_tick_66 (by decide) ?_
        exact hj79 _ _ H locs ls (Eq.symm (by subst es62 er62; exact (lf_t c44 (lf_f c58 rfl)))) (Eq.symm (by subst es62 er62; exact (lf_t c44 (lf_f c58 rfl)))) I62 hw (lv_sub hl [0, 1] rfl)
    · refine lv_aload_n hx hb dX5_tick_47 rfl (lv_at hl 1 rfl) ?_
      refine bk_v (rnV (rest := []) Z hw (k_X5_spendOnChange  I38) v_X5_spendOnChange q_3_57 (0) (by decide) rfl rfl rfl rfl hl.1 rfl rfl (Nat.le_of_ble_eq_true rfl) ⟨(Nat.le_of_ble_eq_true rfl), (Nat.le_of_ble_eq_true rfl)⟩ ⟨(Nat.le_of_ble_eq_true rfl), (Nat.le_of_ble_eq_true rfl)⟩ dX5_tick_48) hw Z (fun s48 H locs hp hw => ?_)
      obtain ⟨es48, I48⟩ := hp
      refine lv_goto (tgt := 79) hx hb dX5_tick_51 (by decide) ?_
      exact hj79 _ _ H locs ls (Eq.symm (by subst es48; exact (lf_f c44 rfl))) (Eq.symm (by subst es48; exact (lf_f c44 rfl))) I48 hw (lv_sub hl [0, 1] rfl)
  refine lv_if_eq (tgt := 38) hx hb dX5_tick_20 (by decide) (fun c20 => ?_) (fun c20 => ?_)
  · exact hj38 _ H locs ls (Eq.symm (lf_t c20 rfl)) I13 hw (lv_sub hl [0] rfl)
  · refine lv_aload_n hx hb dX5_tick_23 rfl (lv_at hl 0 rfl) ?_
    refine gM (j := 9) (v := .int (s13 0 9)) Z hw  (by decide) q_1_181 rfl rfl dX5_tick_24 ?_
    refine lv_if_ne (tgt := 38) hx hb dX5_tick_27 (by decide) (fun c27 => ?_) (fun c27 => ?_)
    · exact hj38 _ H locs ls (Eq.symm (lf_f c20 (lf_f c27 rfl))) I13 hw (lv_sub hl [0] rfl)
    · refine lv_aload_n hx hb dX5_tick_30 rfl (lv_at hl 0 rfl) ?_
      refine lv_aload_n hx hb dX5_tick_31 rfl (lv_at hl 0 rfl) ?_
      refine gM (j := 0) (v := .int (s13 0 0)) Z hw  (by decide) q_1_170 rfl rfl dX5_tick_32 ?_
      refine bk_v (rnV (rest := []) Z hw (k_X5_bringOnTop (p1 := s13 0 0) I13) v_X5_bringOnTop q_3_49 (0) (by decide) rfl rfl rfl rfl hl.1 rfl rfl (Nat.le_of_ble_eq_true rfl) ⟨(Nat.le_of_ble_eq_true rfl), (Nat.le_of_ble_eq_true rfl)⟩ ⟨(Nat.le_of_ble_eq_true rfl), (Nat.le_of_ble_eq_true rfl)⟩ dX5_tick_35) hw Z (fun s35 H locs hp hw => ?_)
      obtain ⟨es35, I35⟩ := hp
      exact hj38 _ H locs ls (Eq.symm (by subst es35; exact (lf_f c20 (lf_t c27 rfl)))) I35 hw (lv_sub hl [0] rfl)
