/-! the law's loop -/
theorem LI.mono {τ τ' : Int} {σ : St} (h : LI τ σ) (ht : τ ≤ τ') : LI τ' σ := ⟨h.1, h.2.1, h.2.2.mono ht⟩
set_option maxHeartbeats 4000000 in
set_option maxRecDepth 100000 in
theorem law_loop {p : Program} {l : Launch} {e : Env} {s : State} {m : MethodId} {below : List Frame} {meth : Method} {c : Code} {A : Nat → Prop} {D : va_G} {T : Nat → ClassId} {g ad : Nat → Nat} {b L : Nat} {xs : Nat → Int32} {Qw : State → Prop} (hfl : l.stackTraces = false) (Z : en p m c cL_law 7 s #[.ref b] "NestedBellsLaw" D T g A) (hT : tW s) (hN : nCs s) (hX : va_X b L xs s s.heap) (hbl : b < s.heap.size) (hbA : ¬ A b) (hL : L ≤ 2560)
    (kx : ∀ (σ : St) (H : Heap) (locs : List Loc) (ls : Array Slot) (cells slots : Nat), cells ≤ 601024 → slots ≤ 7293034 → wo D A s.heap 412 ad (cE (lE g T ad) σ) H locs → W p l e room_1 s m #[.ref b] below meth c H locs cells slots Qw (F0 m 1595 ls [])) :
    ∀ (n i : Nat) (σ : St) (τ : Int) (H : Heap) (locs : List Loc) (ls : Array Slot) (cells slots : Nat), L < i + 5 * n + 5 → i ≤ L → cells + 2 * n ≤ 601024 → slots + 12 * n ≤ 7293034 → 0 ≤ τ → τ + 75651 * n < 2147483000 → LI τ σ → wo D A s.heap 412 ad (cE (lE g T ad) σ) H locs → lv_has ls 7 [(4, .int (nI i)), (0, .ref b), (1, .ref (ad 0)), (2, .ref (ad 406)), (3, .ref (ad 405))] → W p l e room_1 s m #[.ref b] below meth c H locs cells slots Qw (F0 m 23 ls []) := by
  have hx := Z.1.1
  have hb := Z.1.2.1
  intro n
  induction n with
  | zero =>
    intro i σ τ H locs ls cells slots hn hiL hc hs h0 ht I hw hl
    refine lv_iload hx hb dL_law_23 (lv_at hl 0 rfl) ?_
    refine lv_aload_n hx hb dL_law_25 rfl (lv_at hl 1 rfl) ?_
    refine va_slen hx hb hX hbl hbA hw.2.2 dL_law_26 ?_
    refine lv_iconst (v := 5) hx hb dL_law_27 (by decide +kernel) ?_
    refine lv_isub hx hb dL_law_28 ?_
    have e5 : (nI L - nI 5).toInt = L - 5 := pk_sub_toInt (by omega) (by decide)
    refine lv_icmp_gt (tgt := 1595) hx hb dL_law_29 (by decide) (fun q => ?_) (fun q => ?_)
    · exact kx σ H locs ls cells slots (by omega) (by omega) hw
    · exfalso
      have q2 : ¬ (nI L - nI 5).toInt < (nI i).toInt := fun h => q (i32_lt.mpr h)
      rw [e5, nI_toInt (by omega)] at q2
      omega
  | succ n ih =>
    intro i σ τ H locs ls cells slots hn hiL hc hs h0 ht I hw hl
    refine lv_iload hx hb dL_law_23 (lv_at hl 0 rfl) ?_
    refine lv_aload_n hx hb dL_law_25 rfl (lv_at hl 1 rfl) ?_
    refine va_slen hx hb hX hbl hbA hw.2.2 dL_law_26 ?_
    refine lv_iconst (v := 5) hx hb dL_law_27 (by decide +kernel) ?_
    refine lv_isub hx hb dL_law_28 ?_
    have e5 : (nI L - nI 5).toInt = L - 5 := pk_sub_toInt (by omega) (by decide)
    refine lv_icmp_gt (tgt := 1595) hx hb dL_law_29 (by decide) (fun q => ?_) (fun q => ?_)
    · exact kx σ H locs ls cells slots (by omega) (by omega) hw
    have hi : i + 5 ≤ L := by
      have q2 : ¬ (nI L - nI 5).toInt < (nI i).toInt := fun h => q (i32_lt.mpr h)
      rw [e5, nI_toInt (by omega)] at q2
      omega
    have kk : ∀ (σ' : St) (H : Heap) (locs : List Loc) (ls : Array Slot), LI (τ + 75651) σ' → wo D A s.heap 412 ad (cE (lE g T ad) σ') H locs → lv_has ls 7 [(4, .int (nI i)), (0, .ref b), (1, .ref (ad 0)), (2, .ref (ad 406)), (3, .ref (ad 405))] → W p l e room_1 s m #[.ref b] below meth c H locs (cells + 2) (slots + 12) Qw (F0 m 1589 ls []) := by
      intro σ' H locs ls I' hw' hl'
      refine lv_iinc (v := nI (i + 5)) (lv' := [(4, .int (nI (i + 5))), (0, .ref b), (1, .ref (ad 0)), (2, .ref (ad 406)), (3, .ref (ad 405))]) hx hb dL_law_1589 hl' (k := 0) rfl (nI_add (a := i) (b := 5)) (by decide) rfl (fun ls hl => ?_)
      refine lv_goto (tgt := 23) hx hb dL_law_1592 (by decide) ?_
      exact ih (i + 5) σ' (τ + 75651) H locs ls (cells + 2) (slots + 12) (by omega) hi (by omega) (by omega) (by omega) (by omega) I' hw' hl
    have ht' : τ + 75651 < 2147483000 := by omega
    have hc' : cells + 2 ≤ 601024 := by omega
    have hs' : slots + 12 ≤ 7293034 := by omega
    refine lv_aload_n hx hb dL_law_32 rfl (lv_at hl 1 rfl) ?_
    refine lv_iload hx hb dL_law_33 (lv_at hl 0 rfl) ?_
    refine sS (k := i) Z hX hbl hbA hw rfl (by omega) hL dL_law_35 ?_
    refine lv_bipush (v := 31) hx hb dL_law_36 (by decide +kernel) ?_
    refine lv_iand hx hb dL_law_38 ?_
    generalize xs i &&& 31 = v
    by_cases hv : v.toInt < 0 ∨ 24 < v.toInt
    · refine lv_tableOut (tgt := 1589) hx hb dL_law_39 hv (by decide) ?_
      exact W.widen (Nat.le_add_right _ _) (Nat.le_add_right _ _) (kk σ H locs ls (I.mono (by omega)) hw hl)
    have hv1 : ¬ v.toInt < 0 := fun h => hv (Or.inl h)
    have hv2 : ¬ 24 < v.toInt := fun h => hv (Or.inr h)
    have hj : v.toInt = 0 ∨ v.toInt = 1 ∨ v.toInt = 2 ∨ v.toInt = 3 ∨ v.toInt = 4 ∨ v.toInt = 5 ∨ v.toInt = 6 ∨ v.toInt = 7 ∨ v.toInt = 8 ∨ v.toInt = 9 ∨ v.toInt = 10 ∨ v.toInt = 11 ∨ v.toInt = 12 ∨ v.toInt = 13 ∨ v.toInt = 14 ∨ v.toInt = 15 ∨ v.toInt = 16 ∨ v.toInt = 17 ∨ v.toInt = 18 ∨ v.toInt = 19 ∨ v.toInt = 20 ∨ v.toInt = 21 ∨ v.toInt = 22 ∨ v.toInt = 23 ∨ v.toInt = 24 := by omega
    rcases hj with hj | hj | hj | hj | hj | hj | hj | hj | hj | hj | hj | hj | hj | hj | hj | hj | hj | hj | hj | hj | hj | hj | hj | hj | hj
    · refine lv_tableIn (off := 113) (tgt := 152) hx hb dL_law_39 hv1 hv2 (by rw [hj]; rfl) (by decide) ?_
      exact B_0 hfl Z hT hN hX hbl hbA hL hi h0 ht' I hw hl hc' hs' kk
    · refine lv_tableIn (off := 193) (tgt := 232) hx hb dL_law_39 hv1 hv2 (by rw [hj]; rfl) (by decide) ?_
      exact B_1 hfl Z hT hN hX hbl hbA hL hi h0 ht' I hw hl hc' hs' kk
    · refine lv_tableIn (off := 273) (tgt := 312) hx hb dL_law_39 hv1 hv2 (by rw [hj]; rfl) (by decide) ?_
      exact B_2 hfl Z hT hN hX hbl hbA hL hi h0 ht' I hw hl hc' hs' kk
    · refine lv_tableIn (off := 365) (tgt := 404) hx hb dL_law_39 hv1 hv2 (by rw [hj]; rfl) (by decide) ?_
      exact B_3 hfl Z hT hN hX hbl hbA hL hi h0 ht' I hw hl hc' hs' kk
    · refine lv_tableIn (off := 421) (tgt := 460) hx hb dL_law_39 hv1 hv2 (by rw [hj]; rfl) (by decide) ?_
      exact B_4 hfl Z hT hN hX hbl hbA hL hi h0 ht' I hw hl hc' hs' kk
    · refine lv_tableIn (off := 501) (tgt := 540) hx hb dL_law_39 hv1 hv2 (by rw [hj]; rfl) (by decide) ?_
      exact B_5 hfl Z hT hN hX hbl hbA hL hi h0 ht' I hw hl hc' hs' kk
    · refine lv_tableIn (off := 557) (tgt := 596) hx hb dL_law_39 hv1 hv2 (by rw [hj]; rfl) (by decide) ?_
      exact B_6 hfl Z hT hN hX hbl hbA hL hi h0 ht' I hw hl hc' hs' kk
    · refine lv_tableIn (off := 641) (tgt := 680) hx hb dL_law_39 hv1 hv2 (by rw [hj]; rfl) (by decide) ?_
      exact B_7 hfl Z hT hN hX hbl hbA hL hi h0 ht' I hw hl hc' hs' kk
    · refine lv_tableIn (off := 709) (tgt := 748) hx hb dL_law_39 hv1 hv2 (by rw [hj]; rfl) (by decide) ?_
      exact B_8 hfl Z hT hN hX hbl hbA hL hi h0 ht' I hw hl hc' hs' kk
    · refine lv_tableIn (off := 765) (tgt := 804) hx hb dL_law_39 hv1 hv2 (by rw [hj]; rfl) (by decide) ?_
      exact B_9 hfl Z hT hN hX hbl hbA hL hi h0 ht' I hw hl hc' hs' kk
    · refine lv_tableIn (off := 833) (tgt := 872) hx hb dL_law_39 hv1 hv2 (by rw [hj]; rfl) (by decide) ?_
      exact B_10 hfl Z hT hN hX hbl hbA hL hi h0 ht' I hw hl hc' hs' kk
    · refine lv_tableIn (off := 913) (tgt := 952) hx hb dL_law_39 hv1 hv2 (by rw [hj]; rfl) (by decide) ?_
      exact B_11 hfl Z hT hN hX hbl hbA hL hi h0 ht' I hw hl hc' hs' kk
    · refine lv_tableIn (off := 969) (tgt := 1008) hx hb dL_law_39 hv1 hv2 (by rw [hj]; rfl) (by decide) ?_
      exact B_12 hfl Z hT hN hX hbl hbA hL hi h0 ht' I hw hl hc' hs' kk
    · refine lv_tableIn (off := 1025) (tgt := 1064) hx hb dL_law_39 hv1 hv2 (by rw [hj]; rfl) (by decide) ?_
      exact B_13 hfl Z hT hN hX hbl hbA hL hi h0 ht' I hw hl hc' hs' kk
    · refine lv_tableIn (off := 1081) (tgt := 1120) hx hb dL_law_39 hv1 hv2 (by rw [hj]; rfl) (by decide) ?_
      exact B_14 hfl Z hT hN hX hbl hbA hL hi h0 ht' I hw hl hc' hs' kk
    · refine lv_tableIn (off := 1149) (tgt := 1188) hx hb dL_law_39 hv1 hv2 (by rw [hj]; rfl) (by decide) ?_
      exact B_15 hfl Z hT hN hX hbl hbA hL hi h0 ht' I hw hl hc' hs' kk
    · refine lv_tableIn (off := 1217) (tgt := 1256) hx hb dL_law_39 hv1 hv2 (by rw [hj]; rfl) (by decide) ?_
      exact B_16 hfl Z hT hN hX hbl hbA hL hi h0 ht' I hw hl hc' hs' kk
    · refine lv_tableIn (off := 1273) (tgt := 1312) hx hb dL_law_39 hv1 hv2 (by rw [hj]; rfl) (by decide) ?_
      exact B_17 hfl Z hT hN hX hbl hbA hL hi h0 ht' I hw hl hc' hs' kk
    · refine lv_tableIn (off := 1341) (tgt := 1380) hx hb dL_law_39 hv1 hv2 (by rw [hj]; rfl) (by decide) ?_
      exact B_18 hfl Z hT hN hX hbl hbA hL hi h0 ht' I hw hl hc' hs' kk
    · refine lv_tableIn (off := 1397) (tgt := 1436) hx hb dL_law_39 hv1 hv2 (by rw [hj]; rfl) (by decide) ?_
      exact B_19 hfl Z hT hN hX hbl hbA hL hi h0 ht' I hw hl hc' hs' kk
    · refine lv_tableIn (off := 1453) (tgt := 1492) hx hb dL_law_39 hv1 hv2 (by rw [hj]; rfl) (by decide) ?_
      exact B_20 hfl Z hT hN hX hbl hbA hL hi h0 ht' I hw hl hc' hs' kk
    · refine lv_tableIn (off := 1466) (tgt := 1505) hx hb dL_law_39 hv1 hv2 (by rw [hj]; rfl) (by decide) ?_
      exact B_21 hfl Z hT hN hX hbl hbA hL hi h0 ht' I hw hl hc' hs' kk
    · refine lv_tableIn (off := 1479) (tgt := 1518) hx hb dL_law_39 hv1 hv2 (by rw [hj]; rfl) (by decide) ?_
      exact B_22 hfl Z hT hN hX hbl hbA hL hi h0 ht' I hw hl hc' hs' kk
    · refine lv_tableIn (off := 1492) (tgt := 1531) hx hb dL_law_39 hv1 hv2 (by rw [hj]; rfl) (by decide) ?_
      exact B_23 hfl Z hT hN hX hbl hbA hL hi h0 ht' I hw hl hc' hs' kk
    · refine lv_tableIn (off := 1536) (tgt := 1575) hx hb dL_law_39 hv1 hv2 (by rw [hj]; rfl) (by decide) ?_
      exact B_24 hfl Z hT hN hX hbl hbA hL hi h0 ht' I hw hl hc' hs' kk
