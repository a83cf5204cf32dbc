/-! the law's other turns -/
theorem sbD_O {σ u : St} : sb gmD (mg giO σ u) = sb gmD σ := by
  funext a b
  show mg giO σ u (406 + a) b = σ (406 + a) b
  unfold mg giO
  rw [if_neg (by omega)]
theorem rw2 {c a b k : Nat} (e : a + b ≤ k) : c + a + b ≤ c + k := by omega
set_option maxHeartbeats 4000000 in
set_option maxRecDepth 100000 in
theorem B_20 {p : Program} {l : Launch} {e : Env} {s : State} {m : MethodId} {below : List Frame} {meth : Method} {c : Code} {A : Nat → Prop} {H : Heap} {locs : List Loc} {ls : Array Slot} {D : va_G} {T : Nat → ClassId} {g ad : Nat → Nat} {b L i cells slots : Nat} {xs : Nat → Int32} {σ : St} {τ : Int} {Qw : State → Prop} (hfl : l.stackTraces = false) (Z : en p m c cL_law 7 s #[.ref b] "NestedBellsLaw" D T g A) (hT : tW s) (hN : nCs s) (hX : va_X b L xs s s.heap) (hbl : b < s.heap.size) (hbA : ¬ A b) (hL : L ≤ 2560) (hi : i + 5 ≤ L) (h0 : 0 ≤ τ) (ht : τ + 75651 < 2147483000) (I : LI τ σ) (hw : wo D A s.heap 412 ad (cE (lE g T ad) σ) H locs) (hl : lv_has ls 7 [(4, .int (nI i)), (0, .ref b), (1, .ref (ad 0)), (2, .ref (ad 406)), (3, .ref (ad 405))]) (hc : cells + 2 ≤ 601024) (hs : slots + 12 ≤ 7293034) (kk : ∀ (σ' : St) (H : Heap) (locs : List Loc) (ls : Array Slot), LI (τ + 75651) σ' → wo D A s.heap 412 ad (cE (lE g T ad) σ') H locs → lv_has ls 7 [(4, .int (nI i)), (0, .ref b), (1, .ref (ad 0)), (2, .ref (ad 406)), (3, .ref (ad 405))] → W p l e room_1 s m #[.ref b] below meth c H locs (cells + 2) (slots + 12) Qw (F0 m 1589 ls [])) : W p l e room_1 s m #[.ref b] below meth c H locs cells slots Qw (F0 m 1492 ls []) := by
  have hx := Z.1.1
  have hb := Z.1.2.1
  refine lv_aload_n hx hb dL_law_1492 rfl (lv_at hl 2 rfl) ?_
  refine bs_i prtB (rnV (rest := []) Z (prtB.sub hw) (k_X8_clearCommands (σ := σ) I.1) v_X8_clearCommands q_2_34 0 (by decide) rfl rfl rfl rfl hl.1 rfl rfl (Nat.le_of_ble_eq_true rfl) ⟨Nat.le_of_ble_eq_true rfl, Nat.le_of_ble_eq_true rfl⟩ ⟨Nat.le_trans (Nat.add_le_add_left (Nat.le_of_ble_eq_true rfl) _) hc, Nat.le_trans (Nat.add_le_add_left (Nat.le_of_ble_eq_true rfl) _) hs⟩ dL_law_1493) hw Z (fun r5 u H locs hp hw => ?_)
  obtain ⟨er5, eu, Iu⟩ := hp
  have er5 : (f_X8_clearCommands σ).1 = r5 := er5
  have eu : (f_X8_clearCommands σ).2 = u := eu
  refine lv_aload_n hx hb dL_law_1496 rfl (lv_at hl 3 rfl) ?_
  have ID : InvD (sb gmD (mg giO σ u)) := by rw [sbD_O]; exact I.2.1
  refine bs_i prtD (rnV (rest := [.int r5]) Z (prtD.sub hw) (k_X9_clearCommands ID) v_X9_clearCommands q_6_33 0 (by decide) rfl rfl rfl rfl hl.1 rfl rfl (Nat.le_of_ble_eq_true rfl) ⟨Nat.le_of_ble_eq_true rfl, Nat.le_of_ble_eq_true rfl⟩ ⟨rc2 hc (Nat.le_of_ble_eq_true rfl), rc2 hs (Nat.le_of_ble_eq_true rfl)⟩ dL_law_1497) hw Z (fun r6 u9 H locs hp hw => ?_)
  obtain ⟨er6, eu9, I9⟩ := hp
  rw [sbD_O] at er6 eu9
  obtain ⟨hR, -, hE⟩ := a_clear I.2.2
  rw [eu, eu9] at hR
  rw [er5, er6] at hE
  have hR := hR.mono (show τ ≤ τ + 75651 by omega)
  refine lv_icmp_eq (tgt := 1589) hx hb dL_law_1500 (by decide) (fun q5 => ?_) (fun q5 => ?_)
  rotate_left
  · exact absurd hE q5
  exact W.widen (rw2 (k := 2) (Nat.le_of_ble_eq_true rfl)) (rw2 (k := 12) (Nat.le_of_ble_eq_true rfl)) (kk _ H locs ls (LI.mk (U := mg giO σ u) (u := u9) (mgO_inv Iu) I9 (hR.lo (fun k hk => mgO hk)) (fun k hk => rfl) rfl) hw (lv_sub hl [0, 1, 2, 3, 4] rfl))
set_option maxHeartbeats 4000000 in
set_option maxRecDepth 100000 in
theorem B_21 {p : Program} {l : Launch} {e : Env} {s : State} {m : MethodId} {below : List Frame} {meth : Method} {c : Code} {A : Nat → Prop} {H : Heap} {locs : List Loc} {ls : Array Slot} {D : va_G} {T : Nat → ClassId} {g ad : Nat → Nat} {b L i cells slots : Nat} {xs : Nat → Int32} {σ : St} {τ : Int} {Qw : State → Prop} (hfl : l.stackTraces = false) (Z : en p m c cL_law 7 s #[.ref b] "NestedBellsLaw" D T g A) (hT : tW s) (hN : nCs s) (hX : va_X b L xs s s.heap) (hbl : b < s.heap.size) (hbA : ¬ A b) (hL : L ≤ 2560) (hi : i + 5 ≤ L) (h0 : 0 ≤ τ) (ht : τ + 75651 < 2147483000) (I : LI τ σ) (hw : wo D A s.heap 412 ad (cE (lE g T ad) σ) H locs) (hl : lv_has ls 7 [(4, .int (nI i)), (0, .ref b), (1, .ref (ad 0)), (2, .ref (ad 406)), (3, .ref (ad 405))]) (hc : cells + 2 ≤ 601024) (hs : slots + 12 ≤ 7293034) (kk : ∀ (σ' : St) (H : Heap) (locs : List Loc) (ls : Array Slot), LI (τ + 75651) σ' → wo D A s.heap 412 ad (cE (lE g T ad) σ') H locs → lv_has ls 7 [(4, .int (nI i)), (0, .ref b), (1, .ref (ad 0)), (2, .ref (ad 406)), (3, .ref (ad 405))] → W p l e room_1 s m #[.ref b] below meth c H locs (cells + 2) (slots + 12) Qw (F0 m 1589 ls [])) : W p l e room_1 s m #[.ref b] below meth c H locs cells slots Qw (F0 m 1505 ls []) := by
  have hx := Z.1.1
  have hb := Z.1.2.1
  refine lv_aload_n hx hb dL_law_1505 rfl (lv_at hl 2 rfl) ?_
  refine bs_i prtB (rnV (rest := []) Z (prtB.sub hw) (k_X8_runCommands (σ := σ) I.1) v_X8_runCommands q_2_42 0 (by decide) rfl rfl rfl rfl hl.1 rfl rfl (Nat.le_of_ble_eq_true rfl) ⟨Nat.le_of_ble_eq_true rfl, Nat.le_of_ble_eq_true rfl⟩ ⟨Nat.le_trans (Nat.add_le_add_left (Nat.le_of_ble_eq_true rfl) _) hc, Nat.le_trans (Nat.add_le_add_left (Nat.le_of_ble_eq_true rfl) _) hs⟩ dL_law_1506) hw Z (fun r5 u H locs hp hw => ?_)
  obtain ⟨er5, eu, Iu⟩ := hp
  have er5 : (f_X8_runCommands σ).1 = r5 := er5
  have eu : (f_X8_runCommands σ).2 = u := eu
  refine lv_aload_n hx hb dL_law_1509 rfl (lv_at hl 3 rfl) ?_
  have ID : InvD (sb gmD (mg giO σ u)) := by rw [sbD_O]; exact I.2.1
  refine bs_i prtD (rnV (rest := [.int r5]) Z (prtD.sub hw) (k_X9_runCommands ID) v_X9_runCommands q_6_37 0 (by decide) rfl rfl rfl rfl hl.1 rfl rfl (Nat.le_of_ble_eq_true rfl) ⟨Nat.le_of_ble_eq_true rfl, Nat.le_of_ble_eq_true rfl⟩ ⟨rc2 hc (Nat.le_of_ble_eq_true rfl), rc2 hs (Nat.le_of_ble_eq_true rfl)⟩ dL_law_1510) hw Z (fun r6 u9 H locs hp hw => ?_)
  obtain ⟨er6, eu9, I9⟩ := hp
  rw [sbD_O] at er6 eu9
  obtain ⟨a9, T9, U9, t1, t2, hR, -⟩ := a_runCommands I.2.2 h0 ht
  rw [t1] at er5 eu
  rw [t2] at er6 eu9
  have hE : r5 = r6 := er5.symm.trans er6
  have eu : T9 = u := eu
  have eu9 : U9 = u9 := eu9
  rw [eu, eu9] at hR
  refine lv_icmp_eq (tgt := 1589) hx hb dL_law_1513 (by decide) (fun q5 => ?_) (fun q5 => ?_)
  rotate_left
  · exact absurd hE q5
  exact W.widen (rw2 (k := 2) (Nat.le_of_ble_eq_true rfl)) (rw2 (k := 12) (Nat.le_of_ble_eq_true rfl)) (kk _ H locs ls (LI.mk (U := mg giO σ u) (u := u9) (mgO_inv Iu) I9 (hR.lo (fun k hk => mgO hk)) (fun k hk => rfl) rfl) hw (lv_sub hl [0, 1, 2, 3, 4] rfl))
set_option maxHeartbeats 4000000 in
set_option maxRecDepth 100000 in
theorem B_22 {p : Program} {l : Launch} {e : Env} {s : State} {m : MethodId} {below : List Frame} {meth : Method} {c : Code} {A : Nat → Prop} {H : Heap} {locs : List Loc} {ls : Array Slot} {D : va_G} {T : Nat → ClassId} {g ad : Nat → Nat} {b L i cells slots : Nat} {xs : Nat → Int32} {σ : St} {τ : Int} {Qw : State → Prop} (hfl : l.stackTraces = false) (Z : en p m c cL_law 7 s #[.ref b] "NestedBellsLaw" D T g A) (hT : tW s) (hN : nCs s) (hX : va_X b L xs s s.heap) (hbl : b < s.heap.size) (hbA : ¬ A b) (hL : L ≤ 2560) (hi : i + 5 ≤ L) (h0 : 0 ≤ τ) (ht : τ + 75651 < 2147483000) (I : LI τ σ) (hw : wo D A s.heap 412 ad (cE (lE g T ad) σ) H locs) (hl : lv_has ls 7 [(4, .int (nI i)), (0, .ref b), (1, .ref (ad 0)), (2, .ref (ad 406)), (3, .ref (ad 405))]) (hc : cells + 2 ≤ 601024) (hs : slots + 12 ≤ 7293034) (kk : ∀ (σ' : St) (H : Heap) (locs : List Loc) (ls : Array Slot), LI (τ + 75651) σ' → wo D A s.heap 412 ad (cE (lE g T ad) σ') H locs → lv_has ls 7 [(4, .int (nI i)), (0, .ref b), (1, .ref (ad 0)), (2, .ref (ad 406)), (3, .ref (ad 405))] → W p l e room_1 s m #[.ref b] below meth c H locs (cells + 2) (slots + 12) Qw (F0 m 1589 ls [])) : W p l e room_1 s m #[.ref b] below meth c H locs cells slots Qw (F0 m 1518 ls []) := by
  have hx := Z.1.1
  have hb := Z.1.2.1
  refine lv_aload_n hx hb dL_law_1518 rfl (lv_at hl 2 rfl) ?_
  refine bs_i prtB (rnV (rest := []) Z (prtB.sub hw) (k_X8_stop (σ := σ) I.1) v_X8_stop q_3_73 0 (by decide) rfl rfl rfl rfl hl.1 rfl rfl (Nat.le_of_ble_eq_true rfl) ⟨Nat.le_of_ble_eq_true rfl, Nat.le_of_ble_eq_true rfl⟩ ⟨Nat.le_trans (Nat.add_le_add_left (Nat.le_of_ble_eq_true rfl) _) hc, Nat.le_trans (Nat.add_le_add_left (Nat.le_of_ble_eq_true rfl) _) hs⟩ dL_law_1519) hw Z (fun r5 u H locs hp hw => ?_)
  obtain ⟨er5, eu⟩ := hp
  have er5 : f_X8_stop σ = r5 := er5
  have eu : σ = u := eu
  have Iu : InvB u := eu ▸ I.1
  refine lv_aload_n hx hb dL_law_1522 rfl (lv_at hl 3 rfl) ?_
  have ID : InvD (sb gmD (mg giO σ u)) := by rw [sbD_O]; exact I.2.1
  refine bs_i prtD (rnV (rest := [.int r5]) Z (prtD.sub hw) (k_X9_stop ID) v_X9_stop q_6_84 0 (by decide) rfl rfl rfl rfl hl.1 rfl rfl (Nat.le_of_ble_eq_true rfl) ⟨Nat.le_of_ble_eq_true rfl, Nat.le_of_ble_eq_true rfl⟩ ⟨rc2 hc (Nat.le_of_ble_eq_true rfl), rc2 hs (Nat.le_of_ble_eq_true rfl)⟩ dL_law_1523) hw Z (fun r6 u9 H locs hp hw => ?_)
  obtain ⟨er6, eu9, I9⟩ := hp
  rw [sbD_O] at er6 eu9
  obtain ⟨hR, -, hE⟩ := a_stop I.2.2
  rw [eu9] at hR
  rw [er5, er6] at hE
  have hR : RBg (τ + 75651) u u9 := eu ▸ hR.mono (show τ ≤ τ + 75651 by omega)
  refine lv_icmp_eq (tgt := 1589) hx hb dL_law_1526 (by decide) (fun q5 => ?_) (fun q5 => ?_)
  rotate_left
  · exact absurd hE q5
  exact W.widen (rw2 (k := 2) (Nat.le_of_ble_eq_true rfl)) (rw2 (k := 12) (Nat.le_of_ble_eq_true rfl)) (kk _ H locs ls (LI.mk (U := mg giO σ u) (u := u9) (mgO_inv Iu) I9 (hR.lo (fun k hk => mgO hk)) (fun k hk => rfl) rfl) hw (lv_sub hl [0, 1, 2, 3, 4] rfl))
set_option maxHeartbeats 4000000 in
set_option maxRecDepth 100000 in
theorem B_24 {p : Program} {l : Launch} {e : Env} {s : State} {m : MethodId} {below : List Frame} {meth : Method} {c : Code} {A : Nat → Prop} {H : Heap} {locs : List Loc} {ls : Array Slot} {D : va_G} {T : Nat → ClassId} {g ad : Nat → Nat} {b L i cells slots : Nat} {xs : Nat → Int32} {σ : St} {τ : Int} {Qw : State → Prop} (hfl : l.stackTraces = false) (Z : en p m c cL_law 7 s #[.ref b] "NestedBellsLaw" D T g A) (hT : tW s) (hN : nCs s) (hX : va_X b L xs s s.heap) (hbl : b < s.heap.size) (hbA : ¬ A b) (hL : L ≤ 2560) (hi : i + 5 ≤ L) (h0 : 0 ≤ τ) (ht : τ + 75651 < 2147483000) (I : LI τ σ) (hw : wo D A s.heap 412 ad (cE (lE g T ad) σ) H locs) (hl : lv_has ls 7 [(4, .int (nI i)), (0, .ref b), (1, .ref (ad 0)), (2, .ref (ad 406)), (3, .ref (ad 405))]) (hc : cells + 2 ≤ 601024) (hs : slots + 12 ≤ 7293034) (kk : ∀ (σ' : St) (H : Heap) (locs : List Loc) (ls : Array Slot), LI (τ + 75651) σ' → wo D A s.heap 412 ad (cE (lE g T ad) σ') H locs → lv_has ls 7 [(4, .int (nI i)), (0, .ref b), (1, .ref (ad 0)), (2, .ref (ad 406)), (3, .ref (ad 405))] → W p l e room_1 s m #[.ref b] below meth c H locs (cells + 2) (slots + 12) Qw (F0 m 1589 ls [])) : W p l e room_1 s m #[.ref b] below meth c H locs cells slots Qw (F0 m 1575 ls []) := by
  have hx := Z.1.1
  have hb := Z.1.2.1
  refine lv_aload_n hx hb dL_law_1575 rfl (lv_at hl 2 rfl) ?_
  refine bs_l prtB (rnV (rest := []) Z (prtB.sub hw) (k_X8_digest (σ := σ) I.1) v_X8_digest q_3_77 0 (by decide) rfl rfl rfl rfl hl.1 rfl rfl (Nat.le_of_ble_eq_true rfl) ⟨Nat.le_of_ble_eq_true rfl, Nat.le_of_ble_eq_true rfl⟩ ⟨Nat.le_trans (Nat.add_le_add_left (Nat.le_of_ble_eq_true rfl) _) hc, Nat.le_trans (Nat.add_le_add_left (Nat.le_of_ble_eq_true rfl) _) hs⟩ dL_law_1576) hw Z (fun r5 u H locs hp hw => ?_)
  obtain ⟨er5, eu⟩ := hp
  have er5 : f_X8_digest σ = r5 := er5
  have eu : σ = u := eu
  have Iu : InvB u := eu ▸ I.1
  refine lv_aload_n hx hb dL_law_1579 rfl (lv_at hl 3 rfl) ?_
  have ID : InvD (sb gmD (mg giO σ u)) := by rw [sbD_O]; exact I.2.1
  refine bs_l prtD (rnV (rest := [.long r5]) Z (prtD.sub hw) (k_X9_digest ID) v_X9_digest q_6_88 0 (by decide) rfl rfl rfl rfl hl.1 rfl rfl (Nat.le_of_ble_eq_true rfl) ⟨Nat.le_of_ble_eq_true rfl, Nat.le_of_ble_eq_true rfl⟩ ⟨rc2 hc (Nat.le_of_ble_eq_true rfl), rc2 hs (Nat.le_of_ble_eq_true rfl)⟩ dL_law_1580) hw Z (fun r6 u9 H locs hp hw => ?_)
  obtain ⟨er6, eu9, I9⟩ := hp
  rw [sbD_O] at er6 eu9
  obtain ⟨T9, t1, hR, -⟩ := a_digest I.2.2
  rw [t1] at er6 eu9
  have hE : r5 = r6 := er5.symm.trans er6
  have eu9 : T9 = u9 := eu9
  rw [eu9] at hR
  have hR : RBg (τ + 75651) u u9 := eu ▸ hR.mono (show τ ≤ τ + 75651 by omega)
  refine lv_lcmp hx hb dL_law_1583 ?_
  refine lv_if_eq (tgt := 1589) hx hb dL_law_1584 (by decide) (fun q5 => ?_) (fun q5 => ?_)
  rotate_left
  · exact absurd (lc_0.mpr hE) q5
  exact W.widen (rw2 (k := 2) (Nat.le_of_ble_eq_true rfl)) (rw2 (k := 12) (Nat.le_of_ble_eq_true rfl)) (kk _ H locs ls (LI.mk (U := mg giO σ u) (u := u9) (mgO_inv Iu) I9 (hR.lo (fun k hk => mgO hk)) (fun k hk => rfl) rfl) hw (lv_sub hl [0, 1, 2, 3, 4] rfl))
