section StrCalls
variable {p : Program} {l : Launch} {e : Env} {R : Room} {s : State} {m : MethodId} {args : Array Value} {below : List Frame} {meth : Method} {c : Code} {H : Heap} {locs : List Loc} {cells slots : Nat} {Qw : State → Prop} {cc : ByteArray} {pc nL : Nat} {ls : Array Slot} {rest st0 : List Value} {own C : String} {D : va_G} {T : Nat → ClassId} {g : Nat → Nat} {A : Nat → Prop} {N N' : Nat} {ad ad' : Nat → Nat} {y : MethodName} {bytes : ByteArray} {maxL n idx : Nat} {ret : Option FieldType} {rm : Room} {ct ct' : Nat → va_E} {As : List Value} {b : Nat} {Q : (Nat → Prop) → Array Value → State → Outcome → State → Prop}
/-- a receiver outside the world -/
theorem rnX (Z : en p m c cc nL s args own D T g A) (hw : wo D A s.heap N' ad' ct' H locs) (hM : mX l y bytes maxL ret rm D T g N' ad' ct' (.ref b :: As) Q) (V : cvV y C bytes maxL ret n) (hl : Cond.methodLink own idx y ∈ AW) (hrc : ∃ cell : Cell, H[b]? = some cell ∧ cell.vm.isStatics = false ∧ s.vm.findClass C = some cell.cls)
    (hsz : ls.size = nL) (hn : As.length = n) (hst : st0 = As.reverse ++ .ref b :: rest) (hcat : (rest.map fun v => v.category).sum ≤ 8) (hR : rm.frames + 1 ≤ R.frames ∧ 8 + (maxL + 11) + rm.locals ≤ R.locals) (hf : cells + rm.cells ≤ R.cells ∧ slots + rm.slots ≤ R.slots) (d : decode cc pc = .ok (.invokevirtual idx, 3)) :
    va_Run p l e R s m args below meth c H locs cells slots rm.cells rm.slots (F0 m pc ls st0) rest (Q (wA N' ad' H.size) (Value.ref b :: As).toArray) (wA N' ad' H.size) := by
  subst hst
  obtain ⟨v1, v2, v3, v4, v5, v6, v7, v8⟩ := V
  exact va_runV (As := As) (rest := rest) (C := C) Z.1 (hM H.size) (cwV n Z.1.2.2.2.2 (AW_app (fun w hw => by
    simp only [List.mem_cons, List.not_mem_nil, or_false] at hw
    rcases hw with rfl | rfl | rfl | rfl
    · exact hl
    · exact v1
    · exact v2
    · exact v3) (AW_cons v4)) rfl rfl rfl ⟨v5, v6, v7, v8⟩ hR) ⟨wPc_blind, hrc, fun U hU hW => ⟨rfl, by rw [hU], by rw [hU]; exact hw.1, va_K.moved hW.alike Z.2.1, wl_D hw.2.1 (fun _ _ _ => trivial), Z.2.2.2.call hw.2.2 hU hW (wA_in hw Z.2.2.1)⟩⟩ rfl hn hsz rfl (lv_room hcat) d hf
/-- a static method of another class -/
theorem rnSO (Z : en p m c cc nL s args own D T g A) (hw : wo D A s.heap N' ad' ct' H locs) (hM : mX l y bytes maxL ret rm D T g N' ad' ct' As Q) (V : cvS y bytes maxL ret n) (hl : Cond.methodLink own idx y ∈ AW)
    (hsz : ls.size = nL) (hn : As.length = n) (hst : st0 = As.reverse ++ rest) (hcat : (rest.map fun v => v.category).sum ≤ 8) (hR : rm.frames + 1 ≤ R.frames ∧ 8 + (maxL + 11) + rm.locals ≤ R.locals) (hf : cells + rm.cells ≤ R.cells ∧ slots + rm.slots ≤ R.slots) (d : decode cc pc = .ok (.invokestatic idx, 3)) :
    va_Run p l e R s m args below meth c H locs cells slots rm.cells rm.slots (F0 m pc ls st0) rest (Q (wA N' ad' H.size) As.toArray) (wA N' ad' H.size) := by
  subst hst
  obtain ⟨v1, v3, v4, v6, v7, v8⟩ := V
  exact va_runS (As := As) (rest := rest) Z.1 (hM H.size) ⟨callB_of n Z.1.2.2.2.2 (AW_cons v4) rfl rfl rfl (Z.1.2.2.2.2 _ v3) (Z.1.2.2.2.2 _ hl) ⟨v6, v7, v8⟩ hR, Z.1.2.2.2.2 _ v1⟩ ⟨wPc_blind, fun U hU hW => ⟨rfl, by rw [hU], by rw [hU]; exact hw.1, va_K.moved hW.alike Z.2.1, wl_D hw.2.1 (fun _ _ _ => trivial), Z.2.2.2.call hw.2.2 hU hW (wA_in hw Z.2.2.1)⟩⟩ rfl hn hsz rfl (lv_room hcat) d hf
end StrCalls
def wLen (i : Nat) : Nat := enLens.getD i 0
def wByte (i j : Nat) : Int32 := (enBytes.getD i []).getD j 0
abbrev rmJ0_coder_7d493 : Room := { frames := 0, cells := 0, slots := 0, locals := 0 }
theorem v_J0_coder_7d493 : cvV yJ0_coder_7d493 "java/lang/String" cJ0_coder_7d493 1 (some (.byte)) 0 := ⟨q_2_77, q_2_78, q_1_19, q_2_79, rfl, by decide +kernel, by decide +kernel, by decide +kernel⟩
set_option maxHeartbeats 4000000 in
theorem k_J0_coder_7d493 {l : Launch} {D : va_G} {T : Nat → ClassId} {g ad : Nat → Nat} {N : Nat} {E : Nat → (Nat → Int32) → va_E} {σ : St} {i : Nat} (hi : i < 9) : mX l yJ0_coder_7d493 cJ0_coder_7d493 1 (some (.byte)) rmJ0_coder_7d493 D T g N ad (cE E σ) [.ref (g (9 + i))] (qI D N ad E (pR 0 σ)) := by
  refine mX.of (own := "java/lang/String") (by decide +kernel) (Nat.le_of_ble_eq_true rfl) rfl ?_
  intro p e s m below meth c A ls H locs Z hr hlk _ hw hl
  have hx := Z.1.1
  have hb := Z.1.2.1
  have hl : lv_has ls 1 [(0, .ref (g (9 + i)))] := hl
  obtain ⟨a1, a2, a3, a4, a5, a6, a7, a8, vk, zcs, zq⟩ := Z.2.2.2.2
  refine va_gets hx hb zcs hw.2.2 Z.1.2.2.2.1 (Z.1.2.2.2.2 _ q_2_80) (fun _ h => h) dJ0_coder_7d493_0 ?_
  refine lv_if_eq (tgt := 13) hx hb dJ0_coder_7d493_3 (by decide) (fun h => absurd h (by decide)) (fun _ => ?_)
  refine lv_aload_n hx hb dJ0_coder_7d493_6 rfl (lv_at hl 0 rfl) ?_
  refine vk_getf hx hb (vk.1 i hi).2.1 hw.2.2 Z.1.2.2.2.1 (Z.1.2.2.2.2 _ q_6_106) (fun _ h => h) dJ0_coder_7d493_7 ?_
  refine lv_goto (tgt := 14) hx hb dJ0_coder_7d493_10 (by decide) ?_
  exact rt_z Z hr hlk hw rfl dJ0_coder_7d493_14 ⟨rfl, rfl⟩
abbrev rmJ0_isLatin1_aae02 : Room := { frames := 0, cells := 0, slots := 0, locals := 0 }
theorem v_J0_isLatin1_aae02 : cvV yJ0_isLatin1_aae02 "java/lang/String" cJ0_isLatin1_aae02 1 (some (.boolean)) 0 := ⟨q_2_87, q_2_88, q_1_19, q_2_89, rfl, by decide +kernel, by decide +kernel, by decide +kernel⟩
set_option maxHeartbeats 4000000 in
theorem k_J0_isLatin1_aae02 {l : Launch} {D : va_G} {T : Nat → ClassId} {g ad : Nat → Nat} {N : Nat} {E : Nat → (Nat → Int32) → va_E} {σ : St} {i : Nat} (hi : i < 9) : mX l yJ0_isLatin1_aae02 cJ0_isLatin1_aae02 1 (some (.boolean)) rmJ0_isLatin1_aae02 D T g N ad (cE E σ) [.ref (g (9 + i))] (qI D N ad E (pR 1 σ)) := by
  refine mX.of (own := "java/lang/String") (by decide +kernel) (Nat.le_of_ble_eq_true rfl) rfl ?_
  intro p e s m below meth c A ls H locs Z hr hlk _ hw hl
  have hx := Z.1.1
  have hb := Z.1.2.1
  have hl : lv_has ls 1 [(0, .ref (g (9 + i)))] := hl
  obtain ⟨a1, a2, a3, a4, a5, a6, a7, a8, vk, zcs, zq⟩ := Z.2.2.2.2
  refine va_gets hx hb zcs hw.2.2 Z.1.2.2.2.1 (Z.1.2.2.2.2 _ q_2_80) (fun _ h => h) dJ0_isLatin1_aae02_0 ?_
  refine lv_if_eq (tgt := 17) hx hb dJ0_isLatin1_aae02_3 (by decide) (fun h => absurd h (by decide)) (fun _ => ?_)
  refine lv_aload_n hx hb dJ0_isLatin1_aae02_6 rfl (lv_at hl 0 rfl) ?_
  refine vk_getf hx hb (vk.1 i hi).2.1 hw.2.2 Z.1.2.2.2.1 (Z.1.2.2.2.2 _ q_6_106) (fun _ h => h) dJ0_isLatin1_aae02_7 ?_
  refine lv_if_ne (tgt := 17) hx hb dJ0_isLatin1_aae02_10 (by decide) (fun h => absurd rfl h) (fun _ => ?_)
  refine lv_iconst (v := 1) hx hb dJ0_isLatin1_aae02_13 (by decide +kernel) ?_
  refine lv_goto (tgt := 18) hx hb dJ0_isLatin1_aae02_14 (by decide) ?_
  exact rt_z Z hr hlk hw rfl dJ0_isLatin1_aae02_18 ⟨rfl, rfl⟩
theorem len_sh : ∀ i, i < 9 → (nI (wLen i)) >>> ((0 : Int32) &&& 31) = nI (wLen i) := by decide +kernel
abbrev rmJ0_length_8abf5 : Room := { frames := 1, cells := 0, slots := 0, locals := 20 }
theorem v_J0_length_8abf5 : cvV yJ0_length_8abf5 "java/lang/String" cJ0_length_8abf5 1 (some (.int)) 0 := ⟨q_2_73, q_2_74, q_1_19, q_2_75, rfl, by decide +kernel, by decide +kernel, by decide +kernel⟩
set_option maxHeartbeats 4000000 in
theorem k_J0_length_8abf5 {l : Launch} {D : va_G} {T : Nat → ClassId} {g ad : Nat → Nat} {N : Nat} {E : Nat → (Nat → Int32) → va_E} {σ : St} {i : Nat} (hi : i < 9) : mX l yJ0_length_8abf5 cJ0_length_8abf5 1 (some (.int)) rmJ0_length_8abf5 D T g N ad (cE E σ) [.ref (g (9 + i))] (qI D N ad E (pR (nI (wLen i)) σ)) := by
  refine mX.of (own := "java/lang/String") (by decide +kernel) (Nat.le_of_ble_eq_true rfl) rfl ?_
  intro p e s m below meth c A ls H locs Z hr hlk _ hw hl
  have hx := Z.1.1
  have hb := Z.1.2.1
  have hl : lv_has ls 1 [(0, .ref (g (9 + i)))] := hl
  obtain ⟨a1, a2, a3, a4, a5, a6, a7, a8, vk, zcs, zq⟩ := Z.2.2.2.2
  refine lv_aload_n hx hb dJ0_length_8abf5_0 rfl (lv_at hl 0 rfl) ?_
  refine vk_getf hx hb (vk.1 i hi).2.2.1 hw.2.2 Z.1.2.2.2.1 (Z.1.2.2.2.2 _ q_6_105) (fun _ h => h) dJ0_length_8abf5_1 ?_
  refine va_tlen hx hb (vk.1 i hi).2.2.2 hw.2.2 (v := nI (wLen i)) rfl dJ0_length_8abf5_4 ?_
  refine lv_aload_n hx hb dJ0_length_8abf5_5 rfl (lv_at hl 0 rfl) ?_
  refine bk_ip (rnX (rest := [.int (nI (wLen i))]) Z hw (k_J0_coder_7d493 hi) v_J0_coder_7d493 q_2_76 (vk_recv (i := i) (adK := fun i => g (9 + i)) vk hi hw.2.2) hl.1 rfl rfl (Nat.le_of_ble_eq_true rfl) ⟨(Nat.le_of_ble_eq_true rfl), (Nat.le_of_ble_eq_true rfl)⟩ ⟨(Nat.le_of_ble_eq_true rfl), (Nat.le_of_ble_eq_true rfl)⟩ dJ0_length_8abf5_6) hw Z (fun r er H locs hw => ?_)
  subst er
  refine lv_ishr hx hb dJ0_length_8abf5_9 ?_
  exact rt_i Z hr hlk hw dJ0_length_8abf5_10 ⟨(len_sh i hi).symm, rfl⟩
abbrev rmJ3_checkIndex_8e157 : Room := { frames := 0, cells := 0, slots := 0, locals := 0 }
theorem v_J3_checkIndex_8e157 : cvS yJ3_checkIndex_8e157 cJ3_checkIndex_8e157 3 (some (.int)) 3 := ⟨q_2_99, q_1_21, q_2_100, by decide +kernel, by decide +kernel, by decide +kernel⟩
set_option maxHeartbeats 4000000 in
theorem k_J3_checkIndex_8e157n {l : Launch} {D : va_G} {T : Nat → ClassId} {g ad : Nat → Nat} {N : Nat} {E : Nat → (Nat → Int32) → va_E} {σ : St} {x n : Int32} (h1 : ¬ x < 0) (h2 : x < n) : mX l yJ3_checkIndex_8e157 cJ3_checkIndex_8e157 3 (some (.int)) rmJ3_checkIndex_8e157 D T g N ad (cE E σ) [.int x, .int n, .null] (qI D N ad E (pR x σ)) := by
  refine mX.of (own := "jdk/internal/util/Preconditions") (by decide +kernel) (Nat.le_of_ble_eq_true rfl) rfl ?_
  intro p e s m below meth c A ls H locs Z hr hlk _ hw hl
  have hx := Z.1.1
  have hb := Z.1.2.1
  have hl : lv_has ls 3 [(0, .int x), (1, .int n), (2, .null)] := hl
  obtain ⟨a1, a2, a3, a4, a5, a6, a7, a8, vk, zcs, zq⟩ := Z.2.2.2.2
  refine lv_iload_n hx hb dJ3_checkIndex_8e157_0 rfl (lv_at hl 0 rfl) ?_
  refine lv_if_lt (tgt := 9) hx hb dJ3_checkIndex_8e157_1 (by decide) (fun h => absurd h h1) (fun _ => ?_)
  refine lv_iload_n hx hb dJ3_checkIndex_8e157_4 rfl (lv_at hl 0 rfl) ?_
  refine lv_iload_n hx hb dJ3_checkIndex_8e157_5 rfl (lv_at hl 1 rfl) ?_
  refine lv_icmp_lt (tgt := 16) hx hb dJ3_checkIndex_8e157_6 (by decide) (fun _ => ?_) (fun h => absurd h2 h)
  refine lv_iload_n hx hb dJ3_checkIndex_8e157_16 rfl (lv_at hl 0 rfl) ?_
  exact rt_i Z hr hlk hw dJ3_checkIndex_8e157_17 ⟨rfl, rfl⟩
set_option maxHeartbeats 4000000 in
theorem k_J3_checkIndex_8e157r {l : Launch} {D : va_G} {T : Nat → ClassId} {g ad : Nat → Nat} {N : Nat} {E : Nat → (Nat → Int32) → va_E} {σ : St} {f : Nat} {x n : Int32} (h1 : ¬ x < 0) (h2 : x < n) : mX l yJ3_checkIndex_8e157 cJ3_checkIndex_8e157 3 (some (.int)) rmJ3_checkIndex_8e157 D T g N ad (cE E σ) [.int x, .int n, .ref f] (qI D N ad E (pR x σ)) := by
  refine mX.of (own := "jdk/internal/util/Preconditions") (by decide +kernel) (Nat.le_of_ble_eq_true rfl) rfl ?_
  intro p e s m below meth c A ls H locs Z hr hlk _ hw hl
  have hx := Z.1.1
  have hb := Z.1.2.1
  have hl : lv_has ls 3 [(0, .int x), (1, .int n), (2, .ref f)] := hl
  obtain ⟨a1, a2, a3, a4, a5, a6, a7, a8, vk, zcs, zq⟩ := Z.2.2.2.2
  refine lv_iload_n hx hb dJ3_checkIndex_8e157_0 rfl (lv_at hl 0 rfl) ?_
  refine lv_if_lt (tgt := 9) hx hb dJ3_checkIndex_8e157_1 (by decide) (fun h => absurd h h1) (fun _ => ?_)
  refine lv_iload_n hx hb dJ3_checkIndex_8e157_4 rfl (lv_at hl 0 rfl) ?_
  refine lv_iload_n hx hb dJ3_checkIndex_8e157_5 rfl (lv_at hl 1 rfl) ?_
  refine lv_icmp_lt (tgt := 16) hx hb dJ3_checkIndex_8e157_6 (by decide) (fun _ => ?_) (fun h => absurd h2 h)
  refine lv_iload_n hx hb dJ3_checkIndex_8e157_16 rfl (lv_at hl 0 rfl) ?_
  exact rt_i Z hr hlk hw dJ3_checkIndex_8e157_17 ⟨rfl, rfl⟩
abbrev rmJ0_checkIndex_df160 : Room := { frames := 1, cells := 0, slots := 0, locals := 22 }
theorem v_J0_checkIndex_df160 : cvS yJ0_checkIndex_df160 cJ0_checkIndex_df160 2 none 2 := ⟨q_2_94, q_1_19, q_2_95, by decide +kernel, by decide +kernel, by decide +kernel⟩
set_option maxHeartbeats 4000000 in
theorem k_J0_checkIndex_df160 {l : Launch} {D : va_G} {T : Nat → ClassId} {g ad : Nat → Nat} {N : Nat} {E : Nat → (Nat → Int32) → va_E} {σ : St} {x n : Int32} (h1 : ¬ x < 0) (h2 : x < n) : mX l yJ0_checkIndex_df160 cJ0_checkIndex_df160 2 none rmJ0_checkIndex_df160 D T g N ad (cE E σ) [.int x, .int n] (qV D N ad E (pV σ (fun _ => True))) := by
  refine mX.of (own := "java/lang/String") (by decide +kernel) (Nat.le_of_ble_eq_true rfl) rfl ?_
  intro p e s m below meth c A ls H locs Z hr hlk _ hw hl
  have hx := Z.1.1
  have hb := Z.1.2.1
  have hl : lv_has ls 2 [(0, .int x), (1, .int n)] := hl
  obtain ⟨a1, a2, a3, a4, a5, a6, a7, a8, vk, zcs, zq⟩ := Z.2.2.2.2
  refine lv_iload_n hx hb dJ0_checkIndex_df160_0 rfl (lv_at hl 0 rfl) ?_
  refine lv_iload_n hx hb dJ0_checkIndex_df160_1 rfl (lv_at hl 1 rfl) ?_
  rcases zq with zq | ⟨f, zq⟩
  · refine va_gets hx hb zq hw.2.2 Z.1.2.2.2.1 (Z.1.2.2.2.2 _ q_2_96) (fun _ h => h) dJ0_checkIndex_df160_2 ?_
    refine bk_ip (rnSO (rest := []) Z hw (k_J3_checkIndex_8e157n h1 h2) v_J3_checkIndex_8e157 q_2_98 hl.1 rfl rfl (Nat.le_of_ble_eq_true rfl) ⟨(Nat.le_of_ble_eq_true rfl), (Nat.le_of_ble_eq_true rfl)⟩ ⟨(Nat.le_of_ble_eq_true rfl), (Nat.le_of_ble_eq_true rfl)⟩ dJ0_checkIndex_df160_5) hw Z (fun r er H locs hw => ?_)
    refine lv_pop hx hb dJ0_checkIndex_df160_8 rfl ?_
    exact rt_v Z hr hlk hw dJ0_checkIndex_df160_9 ⟨rfl, trivial⟩
  · refine va_gets hx hb zq hw.2.2 Z.1.2.2.2.1 (Z.1.2.2.2.2 _ q_2_96) (fun _ h => h) dJ0_checkIndex_df160_2 ?_
    refine bk_ip (rnSO (rest := []) Z hw (k_J3_checkIndex_8e157r (f := f) h1 h2) v_J3_checkIndex_8e157 q_2_98 hl.1 rfl rfl (Nat.le_of_ble_eq_true rfl) ⟨(Nat.le_of_ble_eq_true rfl), (Nat.le_of_ble_eq_true rfl)⟩ ⟨(Nat.le_of_ble_eq_true rfl), (Nat.le_of_ble_eq_true rfl)⟩ dJ0_checkIndex_df160_5) hw Z (fun r er H locs hw => ?_)
    refine lv_pop hx hb dJ0_checkIndex_df160_8 rfl ?_
    exact rt_v Z hr hlk hw dJ0_checkIndex_df160_9 ⟨rfl, trivial⟩
theorem ch_and : ∀ i, i < 9 → ∀ j, j < wLen i → ((wByte i j &&& 255).toUInt32 % 65536).toInt32 = wByte i j ∧ narrow .char (.int (wByte i j)) = .int (wByte i j) := by decide +kernel
theorem wLen_lt : ∀ i, i < 9 → wLen i < 16 := by decide +kernel
abbrev rmJ1_charAt_3b067 : Room := { frames := 2, cells := 0, slots := 0, locals := 44 }
theorem v_J1_charAt_3b067 : cvS yJ1_charAt_3b067 cJ1_charAt_3b067 2 (some (.char)) 2 := ⟨q_2_91, q_1_20, q_2_92, by decide +kernel, by decide +kernel, by decide +kernel⟩
set_option maxHeartbeats 4000000 in
theorem k_J1_charAt_3b067 {l : Launch} {D : va_G} {T : Nat → ClassId} {g ad : Nat → Nat} {N : Nat} {E : Nat → (Nat → Int32) → va_E} {σ : St} {i j : Nat} (hi : i < 9) (hj : j < wLen i) : mX l yJ1_charAt_3b067 cJ1_charAt_3b067 2 (some (.char)) rmJ1_charAt_3b067 D T g N ad (cE E σ) [.ref (g (18 + i)), .int (nI j)] (qI D N ad E (pR (wByte i j) σ)) := by
  refine mX.of (own := "java/lang/StringLatin1") (by decide +kernel) (Nat.le_of_ble_eq_true rfl) rfl ?_
  intro p e s m below meth c A ls H locs Z hr hlk _ hw hl
  have hx := Z.1.1
  have hb := Z.1.2.1
  have hl : lv_has ls 2 [(0, .ref (g (18 + i))), (1, .int (nI j))] := hl
  obtain ⟨a1, a2, a3, a4, a5, a6, a7, a8, vk, zcs, zq⟩ := Z.2.2.2.2
  have h16 := wLen_lt i hi
  have h1 : ¬ nI j < 0 := by
    rw [i32_lt, nI_toInt (by omega)]
    show ¬ (j : Int) < 0
    omega
  have h2 : nI j < nI (wLen i) := by rw [i32_lt, nI_toInt (by omega), nI_toInt (by omega)]; omega
  refine lv_iload_n hx hb dJ1_charAt_3b067_0 rfl (lv_at hl 1 rfl) ?_
  refine lv_aload_n hx hb dJ1_charAt_3b067_1 rfl (lv_at hl 0 rfl) ?_
  refine va_tlen hx hb (vk.1 i hi).2.2.2 hw.2.2 (v := nI (wLen i)) rfl dJ1_charAt_3b067_2 ?_
  refine bk_v (rnSO (rest := []) Z hw (k_J0_checkIndex_df160 h1 h2) v_J0_checkIndex_df160 q_2_93 hl.1 rfl rfl (Nat.le_of_ble_eq_true rfl) ⟨(Nat.le_of_ble_eq_true rfl), (Nat.le_of_ble_eq_true rfl)⟩ ⟨(Nat.le_of_ble_eq_true rfl), (Nat.le_of_ble_eq_true rfl)⟩ dJ1_charAt_3b067_3) hw Z (fun u H locs hp hw => ?_)
  obtain ⟨rfl, -⟩ := hp
  refine lv_aload_n hx hb dJ1_charAt_3b067_6 rfl (lv_at hl 0 rfl) ?_
  refine lv_iload_n hx hb dJ1_charAt_3b067_7 rfl (lv_at hl 1 rfl) ?_
  refine va_tb hx hb (vk.1 i hi).2.2.2 hw.2.2 (vp_in_nI hj (show wLen i < 2 ^ 31 from by omega)) (v := .int (wByte i j)) (by rw [nI_clamp (by omega)]; rfl) dJ1_charAt_3b067_8 ?_
  refine lv_sipush (v := 255) hx hb dJ1_charAt_3b067_9 (by decide +kernel) ?_
  refine lv_iand hx hb dJ1_charAt_3b067_12 ?_
  refine lv_i2c (v := wByte i j) hx hb dJ1_charAt_3b067_13 (ch_and i hi j hj).1 ?_
  exact rt_z Z hr hlk hw (ch_and i hi j hj).2 dJ1_charAt_3b067_14 ⟨rfl, rfl⟩
abbrev rmJ0_charAt_5068e : Room := { frames := 3, cells := 0, slots := 0, locals := 66 }
theorem v_J0_charAt_5068e : cvV yJ0_charAt_5068e "java/lang/String" cJ0_charAt_5068e 2 (some (.char)) 1 := ⟨q_2_83, q_2_84, q_1_19, q_2_85, rfl, by decide +kernel, by decide +kernel, by decide +kernel⟩
set_option maxHeartbeats 4000000 in
theorem k_J0_charAt_5068e {l : Launch} {D : va_G} {T : Nat → ClassId} {g ad : Nat → Nat} {N : Nat} {E : Nat → (Nat → Int32) → va_E} {σ : St} {i j : Nat} (hi : i < 9) (hj : j < wLen i) : mX l yJ0_charAt_5068e cJ0_charAt_5068e 2 (some (.char)) rmJ0_charAt_5068e D T g N ad (cE E σ) [.ref (g (9 + i)), .int (nI j)] (qI D N ad E (pR (wByte i j) σ)) := by
  refine mX.of (own := "java/lang/String") (by decide +kernel) (Nat.le_of_ble_eq_true rfl) rfl ?_
  intro p e s m below meth c A ls H locs Z hr hlk _ hw hl
  have hx := Z.1.1
  have hb := Z.1.2.1
  have hl : lv_has ls 2 [(0, .ref (g (9 + i))), (1, .int (nI j))] := hl
  obtain ⟨a1, a2, a3, a4, a5, a6, a7, a8, vk, zcs, zq⟩ := Z.2.2.2.2
  refine lv_aload_n hx hb dJ0_charAt_5068e_0 rfl (lv_at hl 0 rfl) ?_
  refine bk_ip (rnX (rest := []) Z hw (k_J0_isLatin1_aae02 hi) v_J0_isLatin1_aae02 q_2_86 (vk_recv (i := i) (adK := fun i => g (9 + i)) vk hi hw.2.2) hl.1 rfl rfl (Nat.le_of_ble_eq_true rfl) ⟨(Nat.le_of_ble_eq_true rfl), (Nat.le_of_ble_eq_true rfl)⟩ ⟨(Nat.le_of_ble_eq_true rfl), (Nat.le_of_ble_eq_true rfl)⟩ dJ0_charAt_5068e_1) hw Z (fun r er H locs hw => ?_)
  subst er
  refine lv_if_eq (tgt := 16) hx hb dJ0_charAt_5068e_4 (by decide) (fun h => absurd h (by decide)) (fun _ => ?_)
  refine lv_aload_n hx hb dJ0_charAt_5068e_7 rfl (lv_at hl 0 rfl) ?_
  refine vk_getf hx hb (vk.1 i hi).2.2.1 hw.2.2 Z.1.2.2.2.1 (Z.1.2.2.2.2 _ q_6_105) (fun _ h => h) dJ0_charAt_5068e_8 ?_
  refine lv_iload_n hx hb dJ0_charAt_5068e_11 rfl (lv_at hl 1 rfl) ?_
  refine bk_ip (rnSO (rest := []) Z hw (k_J1_charAt_3b067 hi hj) v_J1_charAt_3b067 q_2_90 hl.1 rfl rfl (Nat.le_of_ble_eq_true rfl) ⟨(Nat.le_of_ble_eq_true rfl), (Nat.le_of_ble_eq_true rfl)⟩ ⟨(Nat.le_of_ble_eq_true rfl), (Nat.le_of_ble_eq_true rfl)⟩ dJ0_charAt_5068e_12) hw Z (fun r er H locs hw => ?_)
  subst er
  exact rt_z Z hr hlk hw (ch_and i hi j hj).2 dJ0_charAt_5068e_15 ⟨rfl, rfl⟩

