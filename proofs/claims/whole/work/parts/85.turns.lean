/-! the law's turns -/
theorem rc2 {c a b k M : Nat} (h : c + k ≤ M) (e : a + b ≤ k) : c + a + b ≤ M := by omega
theorem rc3 {c a b d k M : Nat} (h : c + k ≤ M) (e : a + b + d ≤ k) : c + a + b + d ≤ M := by omega
theorem rw3 {c a b d k : Nat} (e : a + b + d ≤ k) : c + a + b + d ≤ c + k := by omega
theorem v_L_addSource : cvW yL_addSource cL_addSource 6 [(0, 12, 15, 13), (0, 12, 19, 15)] 5 := ⟨q_3_120, q_1_0, q_3_121, by decide +kernel, by decide +kernel, by decide +kernel⟩
set_option maxHeartbeats 4000000 in
set_option maxRecDepth 100000 in
theorem B_0 {p : Program} {l : Launch} {e : Env} {s : State} {m : MethodId} {below : List Frame} {meth : Method} {c : Code} {A : Nat → Prop} {H : Heap} {locs : List Loc} {ls : Array Slot} {D : va_G} {T : Nat → ClassId} {g ad : Nat → Nat} {b L i cells slots : Nat} {xs : Nat → Int32} {σ : St} {τ : Int} {Qw : State → Prop} (hfl : l.stackTraces = false) (Z : en p m c cL_law 7 s #[.ref b] "NestedBellsLaw" D T g A) (hT : tW s) (hN : nCs s) (hX : va_X b L xs s s.heap) (hbl : b < s.heap.size) (hbA : ¬ A b) (hL : L ≤ 2560) (hi : i + 5 ≤ L) (h0 : 0 ≤ τ) (ht : τ + 75651 < 2147483000) (I : LI τ σ) (hw : wo D A s.heap 412 ad (cE (lE g T ad) σ) H locs) (hl : lv_has ls 7 [(4, .int (nI i)), (0, .ref b), (1, .ref (ad 0)), (2, .ref (ad 406)), (3, .ref (ad 405))]) (hc : cells + 2 ≤ 601024) (hs : slots + 12 ≤ 7293034) (kk : ∀ (σ' : St) (H : Heap) (locs : List Loc) (ls : Array Slot), LI (τ + 75651) σ' → wo D A s.heap 412 ad (cE (lE g T ad) σ') H locs → lv_has ls 7 [(4, .int (nI i)), (0, .ref b), (1, .ref (ad 0)), (2, .ref (ad 406)), (3, .ref (ad 405))] → W p l e room_1 s m #[.ref b] below meth c H locs (cells + 2) (slots + 12) Qw (F0 m 1589 ls [])) : W p l e room_1 s m #[.ref b] below meth c H locs cells slots Qw (F0 m 152 ls []) := by
  have hx := Z.1.1
  have hb := Z.1.2.1
  refine lv_aload_n hx hb dL_law_152 rfl (lv_at hl 2 rfl) ?_
  refine lv_aload_n hx hb dL_law_153 rfl (lv_at hl 1 rfl) ?_
  refine lv_iload hx hb dL_law_154 (lv_at hl 0 rfl) ?_
  refine lv_iconst (v := 1) hx hb dL_law_156 (by decide +kernel) ?_
  refine lv_iadd hx hb dL_law_157 ?_
  refine sS (k := i + 1) Z hX hbl hbA hw (nI_add (a := i) (b := 1)) (by omega) hL dL_law_158 ?_
  refine lv_aload_n hx hb dL_law_159 rfl (lv_at hl 1 rfl) ?_
  refine lv_iload hx hb dL_law_160 (lv_at hl 0 rfl) ?_
  refine lv_iconst (v := 2) hx hb dL_law_162 (by decide +kernel) ?_
  refine lv_iadd hx hb dL_law_163 ?_
  refine sS (k := i + 2) Z hX hbl hbA hw (nI_add (a := i) (b := 2)) (by omega) hL dL_law_164 ?_
  refine lv_aload_n hx hb dL_law_165 rfl (lv_at hl 1 rfl) ?_
  refine lv_iload hx hb dL_law_166 (lv_at hl 0 rfl) ?_
  refine lv_iconst (v := 3) hx hb dL_law_168 (by decide +kernel) ?_
  refine lv_iadd hx hb dL_law_169 ?_
  refine sS (k := i + 3) Z hX hbl hbA hw (nI_add (a := i) (b := 3)) (by omega) hL dL_law_170 ?_
  refine lv_aload_n hx hb dL_law_171 rfl (lv_at hl 4 rfl) ?_
  have hA := api_law (σ := σ) (a_addSource I.2.2 h0 (xs (i + 1)) (xs (i + 2)) (xs (i + 3)))
  refine bs_i prtW (rnW (rest := []) Z (prtW.sub hw) hT hN (k_L_addSource hfl (σ := σ) (p1 := (xs (i + 1))) (p2 := (xs (i + 2))) (p3 := (xs (i + 3))) I.1 hA.1) v_L_addSource rfl q_3_119 hl.1 rfl rfl (Nat.le_of_ble_eq_true rfl) ⟨Nat.le_of_ble_eq_true rfl, Nat.le_of_ble_eq_true rfl⟩ ⟨Nat.le_trans (Nat.add_le_add_left (Nat.le_of_ble_eq_true rfl) _) hc, Nat.le_trans (Nat.add_le_add_left (Nat.le_of_ble_eq_true rfl) _) hs⟩ dL_law_172) hw Z (fun r5 u H locs hp hw => ?_)
  obtain ⟨er5, eu, Iu⟩ := hp
  have er5 : (wr w23 σ (f_X8_addSource σ (xs (i + 1)) (xs (i + 2)) (xs (i + 3)))).1 = r5 := er5
  have eu : (wr w23 σ (f_X8_addSource σ (xs (i + 1)) (xs (i + 2)) (xs (i + 3)))).2 = u := eu
  rw [er5, eu] at hA
  refine lv_istore (lv' := [(5, .int r5), (4, .int (nI i)), (0, .ref b), (1, .ref (ad 0)), (2, .ref (ad 406)), (3, .ref (ad 405))]) hx hb dL_law_175 hl (by decide) rfl (fun ls hl => ?_)
  refine lv_aload_n hx hb dL_law_177 rfl (lv_at hl 4 rfl) ?_
  refine lv_aload_n hx hb dL_law_178 rfl (lv_at hl 2 rfl) ?_
  refine lv_iload hx hb dL_law_179 (lv_at hl 1 rfl) ?_
  refine lv_iconst (v := 1) hx hb dL_law_181 (by decide +kernel) ?_
  refine lv_iadd hx hb dL_law_182 ?_
  refine sS (k := i + 1) Z hX hbl hbA hw (nI_add (a := i) (b := 1)) (by omega) hL dL_law_183 ?_
  refine lv_aload_n hx hb dL_law_184 rfl (lv_at hl 2 rfl) ?_
  refine lv_iload hx hb dL_law_185 (lv_at hl 1 rfl) ?_
  refine lv_iconst (v := 2) hx hb dL_law_187 (by decide +kernel) ?_
  refine lv_iadd hx hb dL_law_188 ?_
  refine sS (k := i + 2) Z hX hbl hbA hw (nI_add (a := i) (b := 2)) (by omega) hL dL_law_189 ?_
  refine lv_aload_n hx hb dL_law_190 rfl (lv_at hl 2 rfl) ?_
  refine lv_iload hx hb dL_law_191 (lv_at hl 1 rfl) ?_
  refine lv_iconst (v := 3) hx hb dL_law_193 (by decide +kernel) ?_
  refine lv_iadd hx hb dL_law_194 ?_
  refine sS (k := i + 3) Z hX hbl hbA hw (nI_add (a := i) (b := 3)) (by omega) hL dL_law_195 ?_
  have ID : InvD (sb gmD (mg giW σ u)) := by rw [sbD_W]; exact I.2.1
  refine bs_i prtD (rnV (rest := []) Z (prtD.sub hw) (k_X9_addSource (p1 := (xs (i + 1))) (p2 := (xs (i + 2))) (p3 := (xs (i + 3))) ID) v_X9_addSource q_5_21 0 (by decide) rfl rfl rfl rfl hl.1 rfl rfl (Nat.le_of_ble_eq_true rfl) ⟨Nat.le_of_ble_eq_true rfl, Nat.le_of_ble_eq_true rfl⟩ ⟨rc2 hc (Nat.le_of_ble_eq_true rfl), rc2 hs (Nat.le_of_ble_eq_true rfl)⟩ dL_law_196) hw Z (fun r6 u9 H locs hp hw => ?_)
  obtain ⟨er6, eu9, I9⟩ := hp
  rw [sbD_W] at er6 eu9
  rw [er6, eu9] at hA
  refine lv_istore (lv' := [(6, .int r6), (5, .int r5), (4, .int (nI i)), (0, .ref b), (1, .ref (ad 0)), (2, .ref (ad 406)), (3, .ref (ad 405))]) hx hb dL_law_199 hl (by decide) rfl (fun ls hl => ?_)
  refine lv_aload_n hx hb dL_law_201 rfl (lv_at hl 5 rfl) ?_
  refine bs_ip prtD (rnV (rest := []) Z (prtD.sub hw) (k_X9_thrown (I9.lo (fun k hk => sbD_D hk))) v_X9_thrown q_5_9 0 (by decide) rfl rfl rfl rfl hl.1 rfl rfl (Nat.le_of_ble_eq_true rfl) ⟨Nat.le_of_ble_eq_true rfl, Nat.le_of_ble_eq_true rfl⟩ ⟨rc3 hc (Nat.le_of_ble_eq_true rfl), rc3 hs (Nat.le_of_ble_eq_true rfl)⟩ dL_law_202) hw Z (fun r7 er7 H locs hw => ?_)
  have er7 : u9 0 4 = r7 := er7
  refine lv_iload hx hb dL_law_205 (lv_at hl 1 rfl) ?_
  refine lv_icmp_eq (tgt := 212) hx hb dL_law_207 (by decide) (fun q5 => ?_) (fun q5 => ?_)
  rotate_left
  · exact absurd (er7.symm.trans hA.2.1.symm) q5
  refine lv_iload hx hb dL_law_212 (lv_at hl 1 rfl) ?_
  refine lv_if_ne (tgt := 229) hx hb dL_law_214 (by decide) (fun q6 => ?_) (fun q6 => ?_)
  · refine lv_goto (tgt := 1589) hx hb dL_law_229 (by decide) ?_
    exact W.widen (rw3 (k := 2) (Nat.le_of_ble_eq_true rfl)) (rw3 (k := 12) (Nat.le_of_ble_eq_true rfl)) (kk _ H locs ls (LI.mk (u := u9) Iu I9 (hA.2.2.2.mono (by omega)) (fun k hk => mgW hk) rfl) hw (lv_sub hl [2, 3, 4, 5, 6] rfl))
  refine lv_aload_n hx hb dL_law_217 rfl (lv_at hl 6 rfl) ?_
  refine lv_iconst (v := 0) hx hb dL_law_218 (by decide +kernel) ?_
  refine lD Z hw rfl dL_law_219 ?_
  refine lv_iload hx hb dL_law_220 (lv_at hl 0 rfl) ?_
  refine lv_i2l (v := r6.toInt64) hx hb dL_law_222 rfl ?_
  refine lv_lcmp hx hb dL_law_223 ?_
  refine lv_if_eq (tgt := 229) hx hb dL_law_224 (by decide) (fun q7 => ?_) (fun q7 => ?_)
  rotate_left
  · exact absurd (lc_0.mpr (hA.2.2.1 q6)) q7
  refine lv_goto (tgt := 1589) hx hb dL_law_229 (by decide) ?_
  exact W.widen (rw3 (k := 2) (Nat.le_of_ble_eq_true rfl)) (rw3 (k := 12) (Nat.le_of_ble_eq_true rfl)) (kk _ H locs ls (LI.mk (u := u9) Iu I9 (hA.2.2.2.mono (by omega)) (fun k hk => mgW hk) rfl) hw (lv_sub hl [2, 3, 4, 5, 6] rfl))
theorem v_L_setSource : cvW yL_setSource cL_setSource 6 [(0, 12, 15, 20), (0, 12, 19, 13), (0, 12, 23, 15)] 5 := ⟨q_3_232, q_1_0, q_3_233, by decide +kernel, by decide +kernel, by decide +kernel⟩
set_option maxHeartbeats 4000000 in
set_option maxRecDepth 100000 in
theorem B_1 {p : Program} {l : Launch} {e : Env} {s : State} {m : MethodId} {below : List Frame} {meth : Method} {c : Code} {A : Nat → Prop} {H : Heap} {locs : List Loc} {ls : Array Slot} {D : va_G} {T : Nat → ClassId} {g ad : Nat → Nat} {b L i cells slots : Nat} {xs : Nat → Int32} {σ : St} {τ : Int} {Qw : State → Prop} (hfl : l.stackTraces = false) (Z : en p m c cL_law 7 s #[.ref b] "NestedBellsLaw" D T g A) (hT : tW s) (hN : nCs s) (hX : va_X b L xs s s.heap) (hbl : b < s.heap.size) (hbA : ¬ A b) (hL : L ≤ 2560) (hi : i + 5 ≤ L) (h0 : 0 ≤ τ) (ht : τ + 75651 < 2147483000) (I : LI τ σ) (hw : wo D A s.heap 412 ad (cE (lE g T ad) σ) H locs) (hl : lv_has ls 7 [(4, .int (nI i)), (0, .ref b), (1, .ref (ad 0)), (2, .ref (ad 406)), (3, .ref (ad 405))]) (hc : cells + 2 ≤ 601024) (hs : slots + 12 ≤ 7293034) (kk : ∀ (σ' : St) (H : Heap) (locs : List Loc) (ls : Array Slot), LI (τ + 75651) σ' → wo D A s.heap 412 ad (cE (lE g T ad) σ') H locs → lv_has ls 7 [(4, .int (nI i)), (0, .ref b), (1, .ref (ad 0)), (2, .ref (ad 406)), (3, .ref (ad 405))] → W p l e room_1 s m #[.ref b] below meth c H locs (cells + 2) (slots + 12) Qw (F0 m 1589 ls [])) : W p l e room_1 s m #[.ref b] below meth c H locs cells slots Qw (F0 m 232 ls []) := by
  have hx := Z.1.1
  have hb := Z.1.2.1
  refine lv_aload_n hx hb dL_law_232 rfl (lv_at hl 2 rfl) ?_
  refine lv_aload_n hx hb dL_law_233 rfl (lv_at hl 1 rfl) ?_
  refine lv_iload hx hb dL_law_234 (lv_at hl 0 rfl) ?_
  refine lv_iconst (v := 1) hx hb dL_law_236 (by decide +kernel) ?_
  refine lv_iadd hx hb dL_law_237 ?_
  refine sS (k := i + 1) Z hX hbl hbA hw (nI_add (a := i) (b := 1)) (by omega) hL dL_law_238 ?_
  refine lv_aload_n hx hb dL_law_239 rfl (lv_at hl 1 rfl) ?_
  refine lv_iload hx hb dL_law_240 (lv_at hl 0 rfl) ?_
  refine lv_iconst (v := 2) hx hb dL_law_242 (by decide +kernel) ?_
  refine lv_iadd hx hb dL_law_243 ?_
  refine sS (k := i + 2) Z hX hbl hbA hw (nI_add (a := i) (b := 2)) (by omega) hL dL_law_244 ?_
  refine lv_aload_n hx hb dL_law_245 rfl (lv_at hl 1 rfl) ?_
  refine lv_iload hx hb dL_law_246 (lv_at hl 0 rfl) ?_
  refine lv_iconst (v := 3) hx hb dL_law_248 (by decide +kernel) ?_
  refine lv_iadd hx hb dL_law_249 ?_
  refine sS (k := i + 3) Z hX hbl hbA hw (nI_add (a := i) (b := 3)) (by omega) hL dL_law_250 ?_
  refine lv_aload_n hx hb dL_law_251 rfl (lv_at hl 4 rfl) ?_
  have hA := api_law (σ := σ) (a_setSource I.2.2 (xs (i + 1)) (xs (i + 2)) (xs (i + 3)))
  refine bs_i prtW (rnW (rest := []) Z (prtW.sub hw) hT hN (k_L_setSource hfl (σ := σ) (p1 := (xs (i + 1))) (p2 := (xs (i + 2))) (p3 := (xs (i + 3))) I.1 hA.1) v_L_setSource rfl q_3_231 hl.1 rfl rfl (Nat.le_of_ble_eq_true rfl) ⟨Nat.le_of_ble_eq_true rfl, Nat.le_of_ble_eq_true rfl⟩ ⟨Nat.le_trans (Nat.add_le_add_left (Nat.le_of_ble_eq_true rfl) _) hc, Nat.le_trans (Nat.add_le_add_left (Nat.le_of_ble_eq_true rfl) _) hs⟩ dL_law_252) hw Z (fun r5 u H locs hp hw => ?_)
  obtain ⟨er5, eu, Iu⟩ := hp
  have er5 : (wr w123 σ (f_X8_setSource σ (xs (i + 1)) (xs (i + 2)) (xs (i + 3)))).1 = r5 := er5
  have eu : (wr w123 σ (f_X8_setSource σ (xs (i + 1)) (xs (i + 2)) (xs (i + 3)))).2 = u := eu
  rw [er5, eu] at hA
  refine lv_istore (lv' := [(5, .int r5), (4, .int (nI i)), (0, .ref b), (1, .ref (ad 0)), (2, .ref (ad 406)), (3, .ref (ad 405))]) hx hb dL_law_255 hl (by decide) rfl (fun ls hl => ?_)
  refine lv_aload_n hx hb dL_law_257 rfl (lv_at hl 4 rfl) ?_
  refine lv_aload_n hx hb dL_law_258 rfl (lv_at hl 2 rfl) ?_
  refine lv_iload hx hb dL_law_259 (lv_at hl 1 rfl) ?_
  refine lv_iconst (v := 1) hx hb dL_law_261 (by decide +kernel) ?_
  refine lv_iadd hx hb dL_law_262 ?_
  refine sS (k := i + 1) Z hX hbl hbA hw (nI_add (a := i) (b := 1)) (by omega) hL dL_law_263 ?_
  refine lv_aload_n hx hb dL_law_264 rfl (lv_at hl 2 rfl) ?_
  refine lv_iload hx hb dL_law_265 (lv_at hl 1 rfl) ?_
  refine lv_iconst (v := 2) hx hb dL_law_267 (by decide +kernel) ?_
  refine lv_iadd hx hb dL_law_268 ?_
  refine sS (k := i + 2) Z hX hbl hbA hw (nI_add (a := i) (b := 2)) (by omega) hL dL_law_269 ?_
  refine lv_aload_n hx hb dL_law_270 rfl (lv_at hl 2 rfl) ?_
  refine lv_iload hx hb dL_law_271 (lv_at hl 1 rfl) ?_
  refine lv_iconst (v := 3) hx hb dL_law_273 (by decide +kernel) ?_
  refine lv_iadd hx hb dL_law_274 ?_
  refine sS (k := i + 3) Z hX hbl hbA hw (nI_add (a := i) (b := 3)) (by omega) hL dL_law_275 ?_
  have ID : InvD (sb gmD (mg giW σ u)) := by rw [sbD_W]; exact I.2.1
  refine bs_i prtD (rnV (rest := []) Z (prtD.sub hw) (k_X9_setSource (p1 := (xs (i + 1))) (p2 := (xs (i + 2))) (p3 := (xs (i + 3))) ID) v_X9_setSource q_5_43 0 (by decide) rfl rfl rfl rfl hl.1 rfl rfl (Nat.le_of_ble_eq_true rfl) ⟨Nat.le_of_ble_eq_true rfl, Nat.le_of_ble_eq_true rfl⟩ ⟨rc2 hc (Nat.le_of_ble_eq_true rfl), rc2 hs (Nat.le_of_ble_eq_true rfl)⟩ dL_law_276) hw Z (fun r6 u9 H locs hp hw => ?_)
  obtain ⟨er6, eu9, I9⟩ := hp
  rw [sbD_W] at er6 eu9
  rw [er6, eu9] at hA
  refine lv_istore (lv' := [(6, .int r6), (5, .int r5), (4, .int (nI i)), (0, .ref b), (1, .ref (ad 0)), (2, .ref (ad 406)), (3, .ref (ad 405))]) hx hb dL_law_279 hl (by decide) rfl (fun ls hl => ?_)
  refine lv_aload_n hx hb dL_law_281 rfl (lv_at hl 5 rfl) ?_
  refine bs_ip prtD (rnV (rest := []) Z (prtD.sub hw) (k_X9_thrown (I9.lo (fun k hk => sbD_D hk))) v_X9_thrown q_5_9 0 (by decide) rfl rfl rfl rfl hl.1 rfl rfl (Nat.le_of_ble_eq_true rfl) ⟨Nat.le_of_ble_eq_true rfl, Nat.le_of_ble_eq_true rfl⟩ ⟨rc3 hc (Nat.le_of_ble_eq_true rfl), rc3 hs (Nat.le_of_ble_eq_true rfl)⟩ dL_law_282) hw Z (fun r7 er7 H locs hw => ?_)
  have er7 : u9 0 4 = r7 := er7
  refine lv_iload hx hb dL_law_285 (lv_at hl 1 rfl) ?_
  refine lv_icmp_eq (tgt := 292) hx hb dL_law_287 (by decide) (fun q5 => ?_) (fun q5 => ?_)
  rotate_left
  · exact absurd (er7.symm.trans hA.2.1.symm) q5
  refine lv_iload hx hb dL_law_292 (lv_at hl 1 rfl) ?_
  refine lv_if_ne (tgt := 309) hx hb dL_law_294 (by decide) (fun q6 => ?_) (fun q6 => ?_)
  · refine lv_goto (tgt := 1589) hx hb dL_law_309 (by decide) ?_
    exact W.widen (rw3 (k := 2) (Nat.le_of_ble_eq_true rfl)) (rw3 (k := 12) (Nat.le_of_ble_eq_true rfl)) (kk _ H locs ls (LI.mk (u := u9) Iu I9 (hA.2.2.2.mono (by omega)) (fun k hk => mgW hk) rfl) hw (lv_sub hl [2, 3, 4, 5, 6] rfl))
  refine lv_aload_n hx hb dL_law_297 rfl (lv_at hl 6 rfl) ?_
  refine lv_iconst (v := 0) hx hb dL_law_298 (by decide +kernel) ?_
  refine lD Z hw rfl dL_law_299 ?_
  refine lv_iload hx hb dL_law_300 (lv_at hl 0 rfl) ?_
  refine lv_i2l (v := r6.toInt64) hx hb dL_law_302 rfl ?_
  refine lv_lcmp hx hb dL_law_303 ?_
  refine lv_if_eq (tgt := 309) hx hb dL_law_304 (by decide) (fun q7 => ?_) (fun q7 => ?_)
  rotate_left
  · exact absurd (lc_0.mpr (hA.2.2.1 q6)) q7
  refine lv_goto (tgt := 1589) hx hb dL_law_309 (by decide) ?_
  exact W.widen (rw3 (k := 2) (Nat.le_of_ble_eq_true rfl)) (rw3 (k := 12) (Nat.le_of_ble_eq_true rfl)) (kk _ H locs ls (LI.mk (u := u9) Iu I9 (hA.2.2.2.mono (by omega)) (fun k hk => mgW hk) rfl) hw (lv_sub hl [2, 3, 4, 5, 6] rfl))
theorem v_L_addSection : cvW yL_addSection cL_addSection 7 [(0, 14, 17, 20), (0, 14, 21, 13), (0, 14, 25, 15)] 6 := ⟨q_4_16, q_1_0, q_4_17, by decide +kernel, by decide +kernel, by decide +kernel⟩
set_option maxHeartbeats 4000000 in
set_option maxRecDepth 100000 in
theorem B_2 {p : Program} {l : Launch} {e : Env} {s : State} {m : MethodId} {below : List Frame} {meth : Method} {c : Code} {A : Nat → Prop} {H : Heap} {locs : List Loc} {ls : Array Slot} {D : va_G} {T : Nat → ClassId} {g ad : Nat → Nat} {b L i cells slots : Nat} {xs : Nat → Int32} {σ : St} {τ : Int} {Qw : State → Prop} (hfl : l.stackTraces = false) (Z : en p m c cL_law 7 s #[.ref b] "NestedBellsLaw" D T g A) (hT : tW s) (hN : nCs s) (hX : va_X b L xs s s.heap) (hbl : b < s.heap.size) (hbA : ¬ A b) (hL : L ≤ 2560) (hi : i + 5 ≤ L) (h0 : 0 ≤ τ) (ht : τ + 75651 < 2147483000) (I : LI τ σ) (hw : wo D A s.heap 412 ad (cE (lE g T ad) σ) H locs) (hl : lv_has ls 7 [(4, .int (nI i)), (0, .ref b), (1, .ref (ad 0)), (2, .ref (ad 406)), (3, .ref (ad 405))]) (hc : cells + 2 ≤ 601024) (hs : slots + 12 ≤ 7293034) (kk : ∀ (σ' : St) (H : Heap) (locs : List Loc) (ls : Array Slot), LI (τ + 75651) σ' → wo D A s.heap 412 ad (cE (lE g T ad) σ') H locs → lv_has ls 7 [(4, .int (nI i)), (0, .ref b), (1, .ref (ad 0)), (2, .ref (ad 406)), (3, .ref (ad 405))] → W p l e room_1 s m #[.ref b] below meth c H locs (cells + 2) (slots + 12) Qw (F0 m 1589 ls [])) : W p l e room_1 s m #[.ref b] below meth c H locs cells slots Qw (F0 m 312 ls []) := by
  have hx := Z.1.1
  have hb := Z.1.2.1
  refine lv_aload_n hx hb dL_law_312 rfl (lv_at hl 2 rfl) ?_
  refine lv_aload_n hx hb dL_law_313 rfl (lv_at hl 1 rfl) ?_
  refine lv_iload hx hb dL_law_314 (lv_at hl 0 rfl) ?_
  refine lv_iconst (v := 1) hx hb dL_law_316 (by decide +kernel) ?_
  refine lv_iadd hx hb dL_law_317 ?_
  refine sS (k := i + 1) Z hX hbl hbA hw (nI_add (a := i) (b := 1)) (by omega) hL dL_law_318 ?_
  refine lv_aload_n hx hb dL_law_319 rfl (lv_at hl 1 rfl) ?_
  refine lv_iload hx hb dL_law_320 (lv_at hl 0 rfl) ?_
  refine lv_iconst (v := 2) hx hb dL_law_322 (by decide +kernel) ?_
  refine lv_iadd hx hb dL_law_323 ?_
  refine sS (k := i + 2) Z hX hbl hbA hw (nI_add (a := i) (b := 2)) (by omega) hL dL_law_324 ?_
  refine lv_aload_n hx hb dL_law_325 rfl (lv_at hl 1 rfl) ?_
  refine lv_iload hx hb dL_law_326 (lv_at hl 0 rfl) ?_
  refine lv_iconst (v := 3) hx hb dL_law_328 (by decide +kernel) ?_
  refine lv_iadd hx hb dL_law_329 ?_
  refine sS (k := i + 3) Z hX hbl hbA hw (nI_add (a := i) (b := 3)) (by omega) hL dL_law_330 ?_
  refine lv_aload_n hx hb dL_law_331 rfl (lv_at hl 1 rfl) ?_
  refine lv_iload hx hb dL_law_332 (lv_at hl 0 rfl) ?_
  refine lv_iconst (v := 4) hx hb dL_law_334 (by decide +kernel) ?_
  refine lv_iadd hx hb dL_law_335 ?_
  refine sS (k := i + 4) Z hX hbl hbA hw (nI_add (a := i) (b := 4)) (by omega) hL dL_law_336 ?_
  refine lv_aload_n hx hb dL_law_337 rfl (lv_at hl 4 rfl) ?_
  have hA := api_law (σ := σ) (a_addSection I.2.2 (xs (i + 1)) (xs (i + 2)) (xs (i + 3)) (xs (i + 4)))
  refine bs_i prtW (rnW (rest := []) Z (prtW.sub hw) hT hN (k_L_addSection hfl (σ := σ) (p1 := (xs (i + 1))) (p2 := (xs (i + 2))) (p3 := (xs (i + 3))) (p4 := (xs (i + 4))) I.1 hA.1) v_L_addSection rfl q_4_15 hl.1 rfl rfl (Nat.le_of_ble_eq_true rfl) ⟨Nat.le_of_ble_eq_true rfl, Nat.le_of_ble_eq_true rfl⟩ ⟨Nat.le_trans (Nat.add_le_add_left (Nat.le_of_ble_eq_true rfl) _) hc, Nat.le_trans (Nat.add_le_add_left (Nat.le_of_ble_eq_true rfl) _) hs⟩ dL_law_338) hw Z (fun r5 u H locs hp hw => ?_)
  obtain ⟨er5, eu, Iu⟩ := hp
  have er5 : (wr w123 σ (f_X8_addSection σ (xs (i + 1)) (xs (i + 2)) (xs (i + 3)) (xs (i + 4)))).1 = r5 := er5
  have eu : (wr w123 σ (f_X8_addSection σ (xs (i + 1)) (xs (i + 2)) (xs (i + 3)) (xs (i + 4)))).2 = u := eu
  rw [er5, eu] at hA
  refine lv_istore (lv' := [(5, .int r5), (4, .int (nI i)), (0, .ref b), (1, .ref (ad 0)), (2, .ref (ad 406)), (3, .ref (ad 405))]) hx hb dL_law_341 hl (by decide) rfl (fun ls hl => ?_)
  refine lv_aload_n hx hb dL_law_343 rfl (lv_at hl 4 rfl) ?_
  refine lv_aload_n hx hb dL_law_344 rfl (lv_at hl 2 rfl) ?_
  refine lv_iload hx hb dL_law_345 (lv_at hl 1 rfl) ?_
  refine lv_iconst (v := 1) hx hb dL_law_347 (by decide +kernel) ?_
  refine lv_iadd hx hb dL_law_348 ?_
  refine sS (k := i + 1) Z hX hbl hbA hw (nI_add (a := i) (b := 1)) (by omega) hL dL_law_349 ?_
  refine lv_aload_n hx hb dL_law_350 rfl (lv_at hl 2 rfl) ?_
  refine lv_iload hx hb dL_law_351 (lv_at hl 1 rfl) ?_
  refine lv_iconst (v := 2) hx hb dL_law_353 (by decide +kernel) ?_
  refine lv_iadd hx hb dL_law_354 ?_
  refine sS (k := i + 2) Z hX hbl hbA hw (nI_add (a := i) (b := 2)) (by omega) hL dL_law_355 ?_
  refine lv_aload_n hx hb dL_law_356 rfl (lv_at hl 2 rfl) ?_
  refine lv_iload hx hb dL_law_357 (lv_at hl 1 rfl) ?_
  refine lv_iconst (v := 3) hx hb dL_law_359 (by decide +kernel) ?_
  refine lv_iadd hx hb dL_law_360 ?_
  refine sS (k := i + 3) Z hX hbl hbA hw (nI_add (a := i) (b := 3)) (by omega) hL dL_law_361 ?_
  refine lv_aload_n hx hb dL_law_362 rfl (lv_at hl 2 rfl) ?_
  refine lv_iload hx hb dL_law_363 (lv_at hl 1 rfl) ?_
  refine lv_iconst (v := 4) hx hb dL_law_365 (by decide +kernel) ?_
  refine lv_iadd hx hb dL_law_366 ?_
  refine sS (k := i + 4) Z hX hbl hbA hw (nI_add (a := i) (b := 4)) (by omega) hL dL_law_367 ?_
  have ID : InvD (sb gmD (mg giW σ u)) := by rw [sbD_W]; exact I.2.1
  refine bs_i prtD (rnV (rest := []) Z (prtD.sub hw) (k_X9_addSection (p1 := (xs (i + 1))) (p2 := (xs (i + 2))) (p3 := (xs (i + 3))) (p4 := (xs (i + 4))) ID) v_X9_addSection q_5_62 0 (by decide) rfl rfl rfl rfl hl.1 rfl rfl (Nat.le_of_ble_eq_true rfl) ⟨Nat.le_of_ble_eq_true rfl, Nat.le_of_ble_eq_true rfl⟩ ⟨rc2 hc (Nat.le_of_ble_eq_true rfl), rc2 hs (Nat.le_of_ble_eq_true rfl)⟩ dL_law_368) hw Z (fun r6 u9 H locs hp hw => ?_)
  obtain ⟨er6, eu9, I9⟩ := hp
  rw [sbD_W] at er6 eu9
  rw [er6, eu9] at hA
  refine lv_istore (lv' := [(6, .int r6), (5, .int r5), (4, .int (nI i)), (0, .ref b), (1, .ref (ad 0)), (2, .ref (ad 406)), (3, .ref (ad 405))]) hx hb dL_law_371 hl (by decide) rfl (fun ls hl => ?_)
  refine lv_aload_n hx hb dL_law_373 rfl (lv_at hl 5 rfl) ?_
  refine bs_ip prtD (rnV (rest := []) Z (prtD.sub hw) (k_X9_thrown (I9.lo (fun k hk => sbD_D hk))) v_X9_thrown q_5_9 0 (by decide) rfl rfl rfl rfl hl.1 rfl rfl (Nat.le_of_ble_eq_true rfl) ⟨Nat.le_of_ble_eq_true rfl, Nat.le_of_ble_eq_true rfl⟩ ⟨rc3 hc (Nat.le_of_ble_eq_true rfl), rc3 hs (Nat.le_of_ble_eq_true rfl)⟩ dL_law_374) hw Z (fun r7 er7 H locs hw => ?_)
  have er7 : u9 0 4 = r7 := er7
  refine lv_iload hx hb dL_law_377 (lv_at hl 1 rfl) ?_
  refine lv_icmp_eq (tgt := 384) hx hb dL_law_379 (by decide) (fun q5 => ?_) (fun q5 => ?_)
  rotate_left
  · exact absurd (er7.symm.trans hA.2.1.symm) q5
  refine lv_iload hx hb dL_law_384 (lv_at hl 1 rfl) ?_
  refine lv_if_ne (tgt := 401) hx hb dL_law_386 (by decide) (fun q6 => ?_) (fun q6 => ?_)
  · refine lv_goto (tgt := 1589) hx hb dL_law_401 (by decide) ?_
    exact W.widen (rw3 (k := 2) (Nat.le_of_ble_eq_true rfl)) (rw3 (k := 12) (Nat.le_of_ble_eq_true rfl)) (kk _ H locs ls (LI.mk (u := u9) Iu I9 (hA.2.2.2.mono (by omega)) (fun k hk => mgW hk) rfl) hw (lv_sub hl [2, 3, 4, 5, 6] rfl))
  refine lv_aload_n hx hb dL_law_389 rfl (lv_at hl 6 rfl) ?_
  refine lv_iconst (v := 0) hx hb dL_law_390 (by decide +kernel) ?_
  refine lD Z hw rfl dL_law_391 ?_
  refine lv_iload hx hb dL_law_392 (lv_at hl 0 rfl) ?_
  refine lv_i2l (v := r6.toInt64) hx hb dL_law_394 rfl ?_
  refine lv_lcmp hx hb dL_law_395 ?_
  refine lv_if_eq (tgt := 401) hx hb dL_law_396 (by decide) (fun q7 => ?_) (fun q7 => ?_)
  rotate_left
  · exact absurd (lc_0.mpr (hA.2.2.1 q6)) q7
  refine lv_goto (tgt := 1589) hx hb dL_law_401 (by decide) ?_
  exact W.widen (rw3 (k := 2) (Nat.le_of_ble_eq_true rfl)) (rw3 (k := 12) (Nat.le_of_ble_eq_true rfl)) (kk _ H locs ls (LI.mk (u := u9) Iu I9 (hA.2.2.2.mono (by omega)) (fun k hk => mgW hk) rfl) hw (lv_sub hl [2, 3, 4, 5, 6] rfl))
theorem v_L_clearSections : cvW yL_clearSections cL_clearSections 4 [(0, 9, 12, 20), (0, 9, 15, 15)] 3 := ⟨q_4_23, q_1_0, q_4_24, by decide +kernel, by decide +kernel, by decide +kernel⟩
set_option maxHeartbeats 4000000 in
set_option maxRecDepth 100000 in
theorem B_3 {p : Program} {l : Launch} {e : Env} {s : State} {m : MethodId} {below : List Frame} {meth : Method} {c : Code} {A : Nat → Prop} {H : Heap} {locs : List Loc} {ls : Array Slot} {D : va_G} {T : Nat → ClassId} {g ad : Nat → Nat} {b L i cells slots : Nat} {xs : Nat → Int32} {σ : St} {τ : Int} {Qw : State → Prop} (hfl : l.stackTraces = false) (Z : en p m c cL_law 7 s #[.ref b] "NestedBellsLaw" D T g A) (hT : tW s) (hN : nCs s) (hX : va_X b L xs s s.heap) (hbl : b < s.heap.size) (hbA : ¬ A b) (hL : L ≤ 2560) (hi : i + 5 ≤ L) (h0 : 0 ≤ τ) (ht : τ + 75651 < 2147483000) (I : LI τ σ) (hw : wo D A s.heap 412 ad (cE (lE g T ad) σ) H locs) (hl : lv_has ls 7 [(4, .int (nI i)), (0, .ref b), (1, .ref (ad 0)), (2, .ref (ad 406)), (3, .ref (ad 405))]) (hc : cells + 2 ≤ 601024) (hs : slots + 12 ≤ 7293034) (kk : ∀ (σ' : St) (H : Heap) (locs : List Loc) (ls : Array Slot), LI (τ + 75651) σ' → wo D A s.heap 412 ad (cE (lE g T ad) σ') H locs → lv_has ls 7 [(4, .int (nI i)), (0, .ref b), (1, .ref (ad 0)), (2, .ref (ad 406)), (3, .ref (ad 405))] → W p l e room_1 s m #[.ref b] below meth c H locs (cells + 2) (slots + 12) Qw (F0 m 1589 ls [])) : W p l e room_1 s m #[.ref b] below meth c H locs cells slots Qw (F0 m 404 ls []) := by
  have hx := Z.1.1
  have hb := Z.1.2.1
  refine lv_aload_n hx hb dL_law_404 rfl (lv_at hl 2 rfl) ?_
  refine lv_aload_n hx hb dL_law_405 rfl (lv_at hl 1 rfl) ?_
  refine lv_iload hx hb dL_law_406 (lv_at hl 0 rfl) ?_
  refine lv_iconst (v := 1) hx hb dL_law_408 (by decide +kernel) ?_
  refine lv_iadd hx hb dL_law_409 ?_
  refine sS (k := i + 1) Z hX hbl hbA hw (nI_add (a := i) (b := 1)) (by omega) hL dL_law_410 ?_
  refine lv_aload_n hx hb dL_law_411 rfl (lv_at hl 4 rfl) ?_
  have hA := api_law (σ := σ) (a_clearSections I.2.2 (xs (i + 1)))
  refine bs_i prtW (rnW (rest := []) Z (prtW.sub hw) hT hN (k_L_clearSections hfl (σ := σ) (p1 := (xs (i + 1))) I.1 hA.1) v_L_clearSections rfl q_4_22 hl.1 rfl rfl (Nat.le_of_ble_eq_true rfl) ⟨Nat.le_of_ble_eq_true rfl, Nat.le_of_ble_eq_true rfl⟩ ⟨Nat.le_trans (Nat.add_le_add_left (Nat.le_of_ble_eq_true rfl) _) hc, Nat.le_trans (Nat.add_le_add_left (Nat.le_of_ble_eq_true rfl) _) hs⟩ dL_law_412) hw Z (fun r5 u H locs hp hw => ?_)
  obtain ⟨er5, eu, Iu⟩ := hp
  have er5 : (wr w13 σ (f_X8_clearSections σ (xs (i + 1)))).1 = r5 := er5
  have eu : (wr w13 σ (f_X8_clearSections σ (xs (i + 1)))).2 = u := eu
  rw [er5, eu] at hA
  refine lv_istore (lv' := [(5, .int r5), (4, .int (nI i)), (0, .ref b), (1, .ref (ad 0)), (2, .ref (ad 406)), (3, .ref (ad 405))]) hx hb dL_law_415 hl (by decide) rfl (fun ls hl => ?_)
  refine lv_aload_n hx hb dL_law_417 rfl (lv_at hl 4 rfl) ?_
  refine lv_aload_n hx hb dL_law_418 rfl (lv_at hl 2 rfl) ?_
  refine lv_iload hx hb dL_law_419 (lv_at hl 1 rfl) ?_
  refine lv_iconst (v := 1) hx hb dL_law_421 (by decide +kernel) ?_
  refine lv_iadd hx hb dL_law_422 ?_
  refine sS (k := i + 1) Z hX hbl hbA hw (nI_add (a := i) (b := 1)) (by omega) hL dL_law_423 ?_
  have ID : InvD (sb gmD (mg giW σ u)) := by rw [sbD_W]; exact I.2.1
  refine bs_i prtD (rnV (rest := []) Z (prtD.sub hw) (k_X9_clearSections (p1 := (xs (i + 1))) ID) v_X9_clearSections q_5_78 0 (by decide) rfl rfl rfl rfl hl.1 rfl rfl (Nat.le_of_ble_eq_true rfl) ⟨Nat.le_of_ble_eq_true rfl, Nat.le_of_ble_eq_true rfl⟩ ⟨rc2 hc (Nat.le_of_ble_eq_true rfl), rc2 hs (Nat.le_of_ble_eq_true rfl)⟩ dL_law_424) hw Z (fun r6 u9 H locs hp hw => ?_)
  obtain ⟨er6, eu9, I9⟩ := hp
  rw [sbD_W] at er6 eu9
  rw [er6, eu9] at hA
  refine lv_istore (lv' := [(6, .int r6), (5, .int r5), (4, .int (nI i)), (0, .ref b), (1, .ref (ad 0)), (2, .ref (ad 406)), (3, .ref (ad 405))]) hx hb dL_law_427 hl (by decide) rfl (fun ls hl => ?_)
  refine lv_aload_n hx hb dL_law_429 rfl (lv_at hl 5 rfl) ?_
  refine bs_ip prtD (rnV (rest := []) Z (prtD.sub hw) (k_X9_thrown (I9.lo (fun k hk => sbD_D hk))) v_X9_thrown q_5_9 0 (by decide) rfl rfl rfl rfl hl.1 rfl rfl (Nat.le_of_ble_eq_true rfl) ⟨Nat.le_of_ble_eq_true rfl, Nat.le_of_ble_eq_true rfl⟩ ⟨rc3 hc (Nat.le_of_ble_eq_true rfl), rc3 hs (Nat.le_of_ble_eq_true rfl)⟩ dL_law_430) hw Z (fun r7 er7 H locs hw => ?_)
  have er7 : u9 0 4 = r7 := er7
  refine lv_iload hx hb dL_law_433 (lv_at hl 1 rfl) ?_
  refine lv_icmp_eq (tgt := 440) hx hb dL_law_435 (by decide) (fun q5 => ?_) (fun q5 => ?_)
  rotate_left
  · exact absurd (er7.symm.trans hA.2.1.symm) q5
  refine lv_iload hx hb dL_law_440 (lv_at hl 1 rfl) ?_
  refine lv_if_ne (tgt := 457) hx hb dL_law_442 (by decide) (fun q6 => ?_) (fun q6 => ?_)
  · refine lv_goto (tgt := 1589) hx hb dL_law_457 (by decide) ?_
    exact W.widen (rw3 (k := 2) (Nat.le_of_ble_eq_true rfl)) (rw3 (k := 12) (Nat.le_of_ble_eq_true rfl)) (kk _ H locs ls (LI.mk (u := u9) Iu I9 (hA.2.2.2.mono (by omega)) (fun k hk => mgW hk) rfl) hw (lv_sub hl [2, 3, 4, 5, 6] rfl))
  refine lv_aload_n hx hb dL_law_445 rfl (lv_at hl 6 rfl) ?_
  refine lv_iconst (v := 0) hx hb dL_law_446 (by decide +kernel) ?_
  refine lD Z hw rfl dL_law_447 ?_
  refine lv_iload hx hb dL_law_448 (lv_at hl 0 rfl) ?_
  refine lv_i2l (v := r6.toInt64) hx hb dL_law_450 rfl ?_
  refine lv_lcmp hx hb dL_law_451 ?_
  refine lv_if_eq (tgt := 457) hx hb dL_law_452 (by decide) (fun q7 => ?_) (fun q7 => ?_)
  rotate_left
  · exact absurd (lc_0.mpr (hA.2.2.1 q6)) q7
  refine lv_goto (tgt := 1589) hx hb dL_law_457 (by decide) ?_
  exact W.widen (rw3 (k := 2) (Nat.le_of_ble_eq_true rfl)) (rw3 (k := 12) (Nat.le_of_ble_eq_true rfl)) (kk _ H locs ls (LI.mk (u := u9) Iu I9 (hA.2.2.2.mono (by omega)) (fun k hk => mgW hk) rfl) hw (lv_sub hl [2, 3, 4, 5, 6] rfl))
theorem v_L_setTimer : cvW yL_setTimer cL_setTimer 6 [(0, 12, 15, 20), (0, 12, 19, 13), (0, 12, 23, 15)] 5 := ⟨q_4_34, q_1_0, q_4_35, by decide +kernel, by decide +kernel, by decide +kernel⟩
set_option maxHeartbeats 4000000 in
set_option maxRecDepth 100000 in
theorem B_4 {p : Program} {l : Launch} {e : Env} {s : State} {m : MethodId} {below : List Frame} {meth : Method} {c : Code} {A : Nat → Prop} {H : Heap} {locs : List Loc} {ls : Array Slot} {D : va_G} {T : Nat → ClassId} {g ad : Nat → Nat} {b L i cells slots : Nat} {xs : Nat → Int32} {σ : St} {τ : Int} {Qw : State → Prop} (hfl : l.stackTraces = false) (Z : en p m c cL_law 7 s #[.ref b] "NestedBellsLaw" D T g A) (hT : tW s) (hN : nCs s) (hX : va_X b L xs s s.heap) (hbl : b < s.heap.size) (hbA : ¬ A b) (hL : L ≤ 2560) (hi : i + 5 ≤ L) (h0 : 0 ≤ τ) (ht : τ + 75651 < 2147483000) (I : LI τ σ) (hw : wo D A s.heap 412 ad (cE (lE g T ad) σ) H locs) (hl : lv_has ls 7 [(4, .int (nI i)), (0, .ref b), (1, .ref (ad 0)), (2, .ref (ad 406)), (3, .ref (ad 405))]) (hc : cells + 2 ≤ 601024) (hs : slots + 12 ≤ 7293034) (kk : ∀ (σ' : St) (H : Heap) (locs : List Loc) (ls : Array Slot), LI (τ + 75651) σ' → wo D A s.heap 412 ad (cE (lE g T ad) σ') H locs → lv_has ls 7 [(4, .int (nI i)), (0, .ref b), (1, .ref (ad 0)), (2, .ref (ad 406)), (3, .ref (ad 405))] → W p l e room_1 s m #[.ref b] below meth c H locs (cells + 2) (slots + 12) Qw (F0 m 1589 ls [])) : W p l e room_1 s m #[.ref b] below meth c H locs cells slots Qw (F0 m 460 ls []) := by
  have hx := Z.1.1
  have hb := Z.1.2.1
  refine lv_aload_n hx hb dL_law_460 rfl (lv_at hl 2 rfl) ?_
  refine lv_aload_n hx hb dL_law_461 rfl (lv_at hl 1 rfl) ?_
  refine lv_iload hx hb dL_law_462 (lv_at hl 0 rfl) ?_
  refine lv_iconst (v := 1) hx hb dL_law_464 (by decide +kernel) ?_
  refine lv_iadd hx hb dL_law_465 ?_
  refine sS (k := i + 1) Z hX hbl hbA hw (nI_add (a := i) (b := 1)) (by omega) hL dL_law_466 ?_
  refine lv_aload_n hx hb dL_law_467 rfl (lv_at hl 1 rfl) ?_
  refine lv_iload hx hb dL_law_468 (lv_at hl 0 rfl) ?_
  refine lv_iconst (v := 2) hx hb dL_law_470 (by decide +kernel) ?_
  refine lv_iadd hx hb dL_law_471 ?_
  refine sS (k := i + 2) Z hX hbl hbA hw (nI_add (a := i) (b := 2)) (by omega) hL dL_law_472 ?_
  refine lv_aload_n hx hb dL_law_473 rfl (lv_at hl 1 rfl) ?_
  refine lv_iload hx hb dL_law_474 (lv_at hl 0 rfl) ?_
  refine lv_iconst (v := 3) hx hb dL_law_476 (by decide +kernel) ?_
  refine lv_iadd hx hb dL_law_477 ?_
  refine sS (k := i + 3) Z hX hbl hbA hw (nI_add (a := i) (b := 3)) (by omega) hL dL_law_478 ?_
  refine lv_aload_n hx hb dL_law_479 rfl (lv_at hl 4 rfl) ?_
  have hA := api_law (σ := σ) (a_setTimer I.2.2 (xs (i + 1)) (xs (i + 2)) (xs (i + 3)))
  refine bs_i prtW (rnW (rest := []) Z (prtW.sub hw) hT hN (k_L_setTimer hfl (σ := σ) (p1 := (xs (i + 1))) (p2 := (xs (i + 2))) (p3 := (xs (i + 3))) I.1 hA.1) v_L_setTimer rfl q_4_33 hl.1 rfl rfl (Nat.le_of_ble_eq_true rfl) ⟨Nat.le_of_ble_eq_true rfl, Nat.le_of_ble_eq_true rfl⟩ ⟨Nat.le_trans (Nat.add_le_add_left (Nat.le_of_ble_eq_true rfl) _) hc, Nat.le_trans (Nat.add_le_add_left (Nat.le_of_ble_eq_true rfl) _) hs⟩ dL_law_480) hw Z (fun r5 u H locs hp hw => ?_)
  obtain ⟨er5, eu, Iu⟩ := hp
  have er5 : (wr w123 σ (f_X8_setTimer σ (xs (i + 1)) (xs (i + 2)) (xs (i + 3)))).1 = r5 := er5
  have eu : (wr w123 σ (f_X8_setTimer σ (xs (i + 1)) (xs (i + 2)) (xs (i + 3)))).2 = u := eu
  rw [er5, eu] at hA
  refine lv_istore (lv' := [(5, .int r5), (4, .int (nI i)), (0, .ref b), (1, .ref (ad 0)), (2, .ref (ad 406)), (3, .ref (ad 405))]) hx hb dL_law_483 hl (by decide) rfl (fun ls hl => ?_)
  refine lv_aload_n hx hb dL_law_485 rfl (lv_at hl 4 rfl) ?_
  refine lv_aload_n hx hb dL_law_486 rfl (lv_at hl 2 rfl) ?_
  refine lv_iload hx hb dL_law_487 (lv_at hl 1 rfl) ?_
  refine lv_iconst (v := 1) hx hb dL_law_489 (by decide +kernel) ?_
  refine lv_iadd hx hb dL_law_490 ?_
  refine sS (k := i + 1) Z hX hbl hbA hw (nI_add (a := i) (b := 1)) (by omega) hL dL_law_491 ?_
  refine lv_aload_n hx hb dL_law_492 rfl (lv_at hl 2 rfl) ?_
  refine lv_iload hx hb dL_law_493 (lv_at hl 1 rfl) ?_
  refine lv_iconst (v := 2) hx hb dL_law_495 (by decide +kernel) ?_
  refine lv_iadd hx hb dL_law_496 ?_
  refine sS (k := i + 2) Z hX hbl hbA hw (nI_add (a := i) (b := 2)) (by omega) hL dL_law_497 ?_
  refine lv_aload_n hx hb dL_law_498 rfl (lv_at hl 2 rfl) ?_
  refine lv_iload hx hb dL_law_499 (lv_at hl 1 rfl) ?_
  refine lv_iconst (v := 3) hx hb dL_law_501 (by decide +kernel) ?_
  refine lv_iadd hx hb dL_law_502 ?_
  refine sS (k := i + 3) Z hX hbl hbA hw (nI_add (a := i) (b := 3)) (by omega) hL dL_law_503 ?_
  have ID : InvD (sb gmD (mg giW σ u)) := by rw [sbD_W]; exact I.2.1
  refine bs_i prtD (rnV (rest := []) Z (prtD.sub hw) (k_X9_setTimer (p1 := (xs (i + 1))) (p2 := (xs (i + 2))) (p3 := (xs (i + 3))) ID) v_X9_setTimer q_5_82 0 (by decide) rfl rfl rfl rfl hl.1 rfl rfl (Nat.le_of_ble_eq_true rfl) ⟨Nat.le_of_ble_eq_true rfl, Nat.le_of_ble_eq_true rfl⟩ ⟨rc2 hc (Nat.le_of_ble_eq_true rfl), rc2 hs (Nat.le_of_ble_eq_true rfl)⟩ dL_law_504) hw Z (fun r6 u9 H locs hp hw => ?_)
  obtain ⟨er6, eu9, I9⟩ := hp
  rw [sbD_W] at er6 eu9
  rw [er6, eu9] at hA
  refine lv_istore (lv' := [(6, .int r6), (5, .int r5), (4, .int (nI i)), (0, .ref b), (1, .ref (ad 0)), (2, .ref (ad 406)), (3, .ref (ad 405))]) hx hb dL_law_507 hl (by decide) rfl (fun ls hl => ?_)
  refine lv_aload_n hx hb dL_law_509 rfl (lv_at hl 5 rfl) ?_
  refine bs_ip prtD (rnV (rest := []) Z (prtD.sub hw) (k_X9_thrown (I9.lo (fun k hk => sbD_D hk))) v_X9_thrown q_5_9 0 (by decide) rfl rfl rfl rfl hl.1 rfl rfl (Nat.le_of_ble_eq_true rfl) ⟨Nat.le_of_ble_eq_true rfl, Nat.le_of_ble_eq_true rfl⟩ ⟨rc3 hc (Nat.le_of_ble_eq_true rfl), rc3 hs (Nat.le_of_ble_eq_true rfl)⟩ dL_law_510) hw Z (fun r7 er7 H locs hw => ?_)
  have er7 : u9 0 4 = r7 := er7
  refine lv_iload hx hb dL_law_513 (lv_at hl 1 rfl) ?_
  refine lv_icmp_eq (tgt := 520) hx hb dL_law_515 (by decide) (fun q5 => ?_) (fun q5 => ?_)
  rotate_left
  · exact absurd (er7.symm.trans hA.2.1.symm) q5
  refine lv_iload hx hb dL_law_520 (lv_at hl 1 rfl) ?_
  refine lv_if_ne (tgt := 537) hx hb dL_law_522 (by decide) (fun q6 => ?_) (fun q6 => ?_)
  · refine lv_goto (tgt := 1589) hx hb dL_law_537 (by decide) ?_
    exact W.widen (rw3 (k := 2) (Nat.le_of_ble_eq_true rfl)) (rw3 (k := 12) (Nat.le_of_ble_eq_true rfl)) (kk _ H locs ls (LI.mk (u := u9) Iu I9 (hA.2.2.2.mono (by omega)) (fun k hk => mgW hk) rfl) hw (lv_sub hl [2, 3, 4, 5, 6] rfl))
  refine lv_aload_n hx hb dL_law_525 rfl (lv_at hl 6 rfl) ?_
  refine lv_iconst (v := 0) hx hb dL_law_526 (by decide +kernel) ?_
  refine lD Z hw rfl dL_law_527 ?_
  refine lv_iload hx hb dL_law_528 (lv_at hl 0 rfl) ?_
  refine lv_i2l (v := r6.toInt64) hx hb dL_law_530 rfl ?_
  refine lv_lcmp hx hb dL_law_531 ?_
  refine lv_if_eq (tgt := 537) hx hb dL_law_532 (by decide) (fun q7 => ?_) (fun q7 => ?_)
  rotate_left
  · exact absurd (lc_0.mpr (hA.2.2.1 q6)) q7
  refine lv_goto (tgt := 1589) hx hb dL_law_537 (by decide) ?_
  exact W.widen (rw3 (k := 2) (Nat.le_of_ble_eq_true rfl)) (rw3 (k := 12) (Nat.le_of_ble_eq_true rfl)) (kk _ H locs ls (LI.mk (u := u9) Iu I9 (hA.2.2.2.mono (by omega)) (fun k hk => mgW hk) rfl) hw (lv_sub hl [2, 3, 4, 5, 6] rfl))
theorem v_L_raise : cvW yL_raise cL_raise 4 [(0, 9, 12, 20), (0, 9, 15, 15)] 3 := ⟨q_4_41, q_1_0, q_4_42, by decide +kernel, by decide +kernel, by decide +kernel⟩
set_option maxHeartbeats 4000000 in
set_option maxRecDepth 100000 in
theorem B_5 {p : Program} {l : Launch} {e : Env} {s : State} {m : MethodId} {below : List Frame} {meth : Method} {c : Code} {A : Nat → Prop} {H : Heap} {locs : List Loc} {ls : Array Slot} {D : va_G} {T : Nat → ClassId} {g ad : Nat → Nat} {b L i cells slots : Nat} {xs : Nat → Int32} {σ : St} {τ : Int} {Qw : State → Prop} (hfl : l.stackTraces = false) (Z : en p m c cL_law 7 s #[.ref b] "NestedBellsLaw" D T g A) (hT : tW s) (hN : nCs s) (hX : va_X b L xs s s.heap) (hbl : b < s.heap.size) (hbA : ¬ A b) (hL : L ≤ 2560) (hi : i + 5 ≤ L) (h0 : 0 ≤ τ) (ht : τ + 75651 < 2147483000) (I : LI τ σ) (hw : wo D A s.heap 412 ad (cE (lE g T ad) σ) H locs) (hl : lv_has ls 7 [(4, .int (nI i)), (0, .ref b), (1, .ref (ad 0)), (2, .ref (ad 406)), (3, .ref (ad 405))]) (hc : cells + 2 ≤ 601024) (hs : slots + 12 ≤ 7293034) (kk : ∀ (σ' : St) (H : Heap) (locs : List Loc) (ls : Array Slot), LI (τ + 75651) σ' → wo D A s.heap 412 ad (cE (lE g T ad) σ') H locs → lv_has ls 7 [(4, .int (nI i)), (0, .ref b), (1, .ref (ad 0)), (2, .ref (ad 406)), (3, .ref (ad 405))] → W p l e room_1 s m #[.ref b] below meth c H locs (cells + 2) (slots + 12) Qw (F0 m 1589 ls [])) : W p l e room_1 s m #[.ref b] below meth c H locs cells slots Qw (F0 m 540 ls []) := by
  have hx := Z.1.1
  have hb := Z.1.2.1
  refine lv_aload_n hx hb dL_law_540 rfl (lv_at hl 2 rfl) ?_
  refine lv_aload_n hx hb dL_law_541 rfl (lv_at hl 1 rfl) ?_
  refine lv_iload hx hb dL_law_542 (lv_at hl 0 rfl) ?_
  refine lv_iconst (v := 1) hx hb dL_law_544 (by decide +kernel) ?_
  refine lv_iadd hx hb dL_law_545 ?_
  refine sS (k := i + 1) Z hX hbl hbA hw (nI_add (a := i) (b := 1)) (by omega) hL dL_law_546 ?_
  refine lv_aload_n hx hb dL_law_547 rfl (lv_at hl 4 rfl) ?_
  have hA := api_law (σ := σ) (a_raise I.2.2 (xs (i + 1)))
  refine bs_i prtW (rnW (rest := []) Z (prtW.sub hw) hT hN (k_L_raise hfl (σ := σ) (p1 := (xs (i + 1))) I.1 hA.1) v_L_raise rfl q_4_40 hl.1 rfl rfl (Nat.le_of_ble_eq_true rfl) ⟨Nat.le_of_ble_eq_true rfl, Nat.le_of_ble_eq_true rfl⟩ ⟨Nat.le_trans (Nat.add_le_add_left (Nat.le_of_ble_eq_true rfl) _) hc, Nat.le_trans (Nat.add_le_add_left (Nat.le_of_ble_eq_true rfl) _) hs⟩ dL_law_548) hw Z (fun r5 u H locs hp hw => ?_)
  obtain ⟨er5, eu, Iu⟩ := hp
  have er5 : (wr w13 σ (f_X8_raise σ (xs (i + 1)))).1 = r5 := er5
  have eu : (wr w13 σ (f_X8_raise σ (xs (i + 1)))).2 = u := eu
  rw [er5, eu] at hA
  refine lv_istore (lv' := [(5, .int r5), (4, .int (nI i)), (0, .ref b), (1, .ref (ad 0)), (2, .ref (ad 406)), (3, .ref (ad 405))]) hx hb dL_law_551 hl (by decide) rfl (fun ls hl => ?_)
  refine lv_aload_n hx hb dL_law_553 rfl (lv_at hl 4 rfl) ?_
  refine lv_aload_n hx hb dL_law_554 rfl (lv_at hl 2 rfl) ?_
  refine lv_iload hx hb dL_law_555 (lv_at hl 1 rfl) ?_
  refine lv_iconst (v := 1) hx hb dL_law_557 (by decide +kernel) ?_
  refine lv_iadd hx hb dL_law_558 ?_
  refine sS (k := i + 1) Z hX hbl hbA hw (nI_add (a := i) (b := 1)) (by omega) hL dL_law_559 ?_
  have ID : InvD (sb gmD (mg giW σ u)) := by rw [sbD_W]; exact I.2.1
  refine bs_i prtD (rnV (rest := []) Z (prtD.sub hw) (k_X9_raise (p1 := (xs (i + 1))) ID) v_X9_raise q_5_94 0 (by decide) rfl rfl rfl rfl hl.1 rfl rfl (Nat.le_of_ble_eq_true rfl) ⟨Nat.le_of_ble_eq_true rfl, Nat.le_of_ble_eq_true rfl⟩ ⟨rc2 hc (Nat.le_of_ble_eq_true rfl), rc2 hs (Nat.le_of_ble_eq_true rfl)⟩ dL_law_560) hw Z (fun r6 u9 H locs hp hw => ?_)
  obtain ⟨er6, eu9, I9⟩ := hp
  rw [sbD_W] at er6 eu9
  rw [er6, eu9] at hA
  refine lv_istore (lv' := [(6, .int r6), (5, .int r5), (4, .int (nI i)), (0, .ref b), (1, .ref (ad 0)), (2, .ref (ad 406)), (3, .ref (ad 405))]) hx hb dL_law_563 hl (by decide) rfl (fun ls hl => ?_)
  refine lv_aload_n hx hb dL_law_565 rfl (lv_at hl 5 rfl) ?_
  refine bs_ip prtD (rnV (rest := []) Z (prtD.sub hw) (k_X9_thrown (I9.lo (fun k hk => sbD_D hk))) v_X9_thrown q_5_9 0 (by decide) rfl rfl rfl rfl hl.1 rfl rfl (Nat.le_of_ble_eq_true rfl) ⟨Nat.le_of_ble_eq_true rfl, Nat.le_of_ble_eq_true rfl⟩ ⟨rc3 hc (Nat.le_of_ble_eq_true rfl), rc3 hs (Nat.le_of_ble_eq_true rfl)⟩ dL_law_566) hw Z (fun r7 er7 H locs hw => ?_)
  have er7 : u9 0 4 = r7 := er7
  refine lv_iload hx hb dL_law_569 (lv_at hl 1 rfl) ?_
  refine lv_icmp_eq (tgt := 576) hx hb dL_law_571 (by decide) (fun q5 => ?_) (fun q5 => ?_)
  rotate_left
  · exact absurd (er7.symm.trans hA.2.1.symm) q5
  refine lv_iload hx hb dL_law_576 (lv_at hl 1 rfl) ?_
  refine lv_if_ne (tgt := 593) hx hb dL_law_578 (by decide) (fun q6 => ?_) (fun q6 => ?_)
  · refine lv_goto (tgt := 1589) hx hb dL_law_593 (by decide) ?_
    exact W.widen (rw3 (k := 2) (Nat.le_of_ble_eq_true rfl)) (rw3 (k := 12) (Nat.le_of_ble_eq_true rfl)) (kk _ H locs ls (LI.mk (u := u9) Iu I9 (hA.2.2.2.mono (by omega)) (fun k hk => mgW hk) rfl) hw (lv_sub hl [2, 3, 4, 5, 6] rfl))
  refine lv_aload_n hx hb dL_law_581 rfl (lv_at hl 6 rfl) ?_
  refine lv_iconst (v := 0) hx hb dL_law_582 (by decide +kernel) ?_
  refine lD Z hw rfl dL_law_583 ?_
  refine lv_iload hx hb dL_law_584 (lv_at hl 0 rfl) ?_
  refine lv_i2l (v := r6.toInt64) hx hb dL_law_586 rfl ?_
  refine lv_lcmp hx hb dL_law_587 ?_
  refine lv_if_eq (tgt := 593) hx hb dL_law_588 (by decide) (fun q7 => ?_) (fun q7 => ?_)
  rotate_left
  · exact absurd (lc_0.mpr (hA.2.2.1 q6)) q7
  refine lv_goto (tgt := 1589) hx hb dL_law_593 (by decide) ?_
  exact W.widen (rw3 (k := 2) (Nat.le_of_ble_eq_true rfl)) (rw3 (k := 12) (Nat.le_of_ble_eq_true rfl)) (kk _ H locs ls (LI.mk (u := u9) Iu I9 (hA.2.2.2.mono (by omega)) (fun k hk => mgW hk) rfl) hw (lv_sub hl [2, 3, 4, 5, 6] rfl))
theorem v_L_setLine : cvW yL_setLine cL_setLine 5 [(0, 10, 13, 20), (0, 10, 17, 15)] 4 := ⟨q_4_48, q_1_0, q_4_49, by decide +kernel, by decide +kernel, by decide +kernel⟩
set_option maxHeartbeats 4000000 in
set_option maxRecDepth 100000 in
theorem B_6 {p : Program} {l : Launch} {e : Env} {s : State} {m : MethodId} {below : List Frame} {meth : Method} {c : Code} {A : Nat → Prop} {H : Heap} {locs : List Loc} {ls : Array Slot} {D : va_G} {T : Nat → ClassId} {g ad : Nat → Nat} {b L i cells slots : Nat} {xs : Nat → Int32} {σ : St} {τ : Int} {Qw : State → Prop} (hfl : l.stackTraces = false) (Z : en p m c cL_law 7 s #[.ref b] "NestedBellsLaw" D T g A) (hT : tW s) (hN : nCs s) (hX : va_X b L xs s s.heap) (hbl : b < s.heap.size) (hbA : ¬ A b) (hL : L ≤ 2560) (hi : i + 5 ≤ L) (h0 : 0 ≤ τ) (ht : τ + 75651 < 2147483000) (I : LI τ σ) (hw : wo D A s.heap 412 ad (cE (lE g T ad) σ) H locs) (hl : lv_has ls 7 [(4, .int (nI i)), (0, .ref b), (1, .ref (ad 0)), (2, .ref (ad 406)), (3, .ref (ad 405))]) (hc : cells + 2 ≤ 601024) (hs : slots + 12 ≤ 7293034) (kk : ∀ (σ' : St) (H : Heap) (locs : List Loc) (ls : Array Slot), LI (τ + 75651) σ' → wo D A s.heap 412 ad (cE (lE g T ad) σ') H locs → lv_has ls 7 [(4, .int (nI i)), (0, .ref b), (1, .ref (ad 0)), (2, .ref (ad 406)), (3, .ref (ad 405))] → W p l e room_1 s m #[.ref b] below meth c H locs (cells + 2) (slots + 12) Qw (F0 m 1589 ls [])) : W p l e room_1 s m #[.ref b] below meth c H locs cells slots Qw (F0 m 596 ls []) := by
  have hx := Z.1.1
  have hb := Z.1.2.1
  refine lv_aload_n hx hb dL_law_596 rfl (lv_at hl 2 rfl) ?_
  refine lv_aload_n hx hb dL_law_597 rfl (lv_at hl 1 rfl) ?_
  refine lv_iload hx hb dL_law_598 (lv_at hl 0 rfl) ?_
  refine lv_iconst (v := 1) hx hb dL_law_600 (by decide +kernel) ?_
  refine lv_iadd hx hb dL_law_601 ?_
  refine sS (k := i + 1) Z hX hbl hbA hw (nI_add (a := i) (b := 1)) (by omega) hL dL_law_602 ?_
  refine lv_aload_n hx hb dL_law_603 rfl (lv_at hl 1 rfl) ?_
  refine lv_iload hx hb dL_law_604 (lv_at hl 0 rfl) ?_
  refine lv_iconst (v := 2) hx hb dL_law_606 (by decide +kernel) ?_
  refine lv_iadd hx hb dL_law_607 ?_
  refine sS (k := i + 2) Z hX hbl hbA hw (nI_add (a := i) (b := 2)) (by omega) hL dL_law_608 ?_
  refine lv_if_eq (tgt := 616) hx hb dL_law_609 (by decide) (fun q0 => ?_) (fun q0 => ?_)
  · refine lv_iconst (v := 0) hx hb dL_law_616 (by decide +kernel) ?_
    refine lv_aload_n hx hb dL_law_617 rfl (lv_at hl 4 rfl) ?_
    have hA := api_law (σ := σ) (a_setLine I.2.2 (xs (i + 1)) 0 rfl)
    refine bs_i prtW (rnW (rest := []) Z (prtW.sub hw) hT hN (k_L_setLine hfl (σ := σ) (p1 := (xs (i + 1))) (p2 := 0) I.1 rfl hA.1) v_L_setLine rfl q_4_47 hl.1 rfl rfl (Nat.le_of_ble_eq_true rfl) ⟨Nat.le_of_ble_eq_true rfl, Nat.le_of_ble_eq_true rfl⟩ ⟨Nat.le_trans (Nat.add_le_add_left (Nat.le_of_ble_eq_true rfl) _) hc, Nat.le_trans (Nat.add_le_add_left (Nat.le_of_ble_eq_true rfl) _) hs⟩ dL_law_618) hw Z (fun r5 u H locs hp hw => ?_)
    obtain ⟨er5, eu, Iu⟩ := hp
    have er5 : (wr w13 σ (f_X8_setLine σ (xs (i + 1)) 0)).1 = r5 := er5
    have eu : (wr w13 σ (f_X8_setLine σ (xs (i + 1)) 0)).2 = u := eu
    rw [er5, eu] at hA
    refine lv_istore (lv' := [(5, .int r5), (4, .int (nI i)), (0, .ref b), (1, .ref (ad 0)), (2, .ref (ad 406)), (3, .ref (ad 405))]) hx hb dL_law_621 hl (by decide) rfl (fun ls hl => ?_)
    refine lv_aload_n hx hb dL_law_623 rfl (lv_at hl 4 rfl) ?_
    refine lv_aload_n hx hb dL_law_624 rfl (lv_at hl 2 rfl) ?_
    refine lv_iload hx hb dL_law_625 (lv_at hl 1 rfl) ?_
    refine lv_iconst (v := 1) hx hb dL_law_627 (by decide +kernel) ?_
    refine lv_iadd hx hb dL_law_628 ?_
    refine sS (k := i + 1) Z hX hbl hbA hw (nI_add (a := i) (b := 1)) (by omega) hL dL_law_629 ?_
    refine lv_aload_n hx hb dL_law_630 rfl (lv_at hl 2 rfl) ?_
    refine lv_iload hx hb dL_law_631 (lv_at hl 1 rfl) ?_
    refine lv_iconst (v := 2) hx hb dL_law_633 (by decide +kernel) ?_
    refine lv_iadd hx hb dL_law_634 ?_
    refine sS (k := i + 2) Z hX hbl hbA hw (nI_add (a := i) (b := 2)) (by omega) hL dL_law_635 ?_
    refine lv_if_eq (tgt := 643) hx hb dL_law_636 (by decide) (fun q1 => ?_) (fun q1 => ?_)
    rotate_left
    · exact absurd q0 q1
    refine lv_iconst (v := 0) hx hb dL_law_643 (by decide +kernel) ?_
    have ID : InvD (sb gmD (mg giW σ u)) := by rw [sbD_W]; exact I.2.1
    refine bs_i prtD (rnV (rest := []) Z (prtD.sub hw) (k_X9_setLine (p1 := (xs (i + 1))) (p2 := 0) ID rfl) v_X9_setLine q_5_113 0 (by decide) rfl rfl rfl rfl hl.1 rfl rfl (Nat.le_of_ble_eq_true rfl) ⟨Nat.le_of_ble_eq_true rfl, Nat.le_of_ble_eq_true rfl⟩ ⟨rc2 hc (Nat.le_of_ble_eq_true rfl), rc2 hs (Nat.le_of_ble_eq_true rfl)⟩ dL_law_644) hw Z (fun r6 u9 H locs hp hw => ?_)
    obtain ⟨er6, eu9, I9⟩ := hp
    rw [sbD_W] at er6 eu9
    rw [er6, eu9] at hA
    refine lv_istore (lv' := [(6, .int r6), (5, .int r5), (4, .int (nI i)), (0, .ref b), (1, .ref (ad 0)), (2, .ref (ad 406)), (3, .ref (ad 405))]) hx hb dL_law_647 hl (by decide) rfl (fun ls hl => ?_)
    refine lv_aload_n hx hb dL_law_649 rfl (lv_at hl 5 rfl) ?_
    refine bs_ip prtD (rnV (rest := []) Z (prtD.sub hw) (k_X9_thrown (I9.lo (fun k hk => sbD_D hk))) v_X9_thrown q_5_9 0 (by decide) rfl rfl rfl rfl hl.1 rfl rfl (Nat.le_of_ble_eq_true rfl) ⟨Nat.le_of_ble_eq_true rfl, Nat.le_of_ble_eq_true rfl⟩ ⟨rc3 hc (Nat.le_of_ble_eq_true rfl), rc3 hs (Nat.le_of_ble_eq_true rfl)⟩ dL_law_650) hw Z (fun r7 er7 H locs hw => ?_)
    have er7 : u9 0 4 = r7 := er7
    refine lv_iload hx hb dL_law_653 (lv_at hl 1 rfl) ?_
    refine lv_icmp_eq (tgt := 660) hx hb dL_law_655 (by decide) (fun q5 => ?_) (fun q5 => ?_)
    rotate_left
    · exact absurd (er7.symm.trans hA.2.1.symm) q5
    refine lv_iload hx hb dL_law_660 (lv_at hl 1 rfl) ?_
    refine lv_if_ne (tgt := 677) hx hb dL_law_662 (by decide) (fun q6 => ?_) (fun q6 => ?_)
    · refine lv_goto (tgt := 1589) hx hb dL_law_677 (by decide) ?_
      exact W.widen (rw3 (k := 2) (Nat.le_of_ble_eq_true rfl)) (rw3 (k := 12) (Nat.le_of_ble_eq_true rfl)) (kk _ H locs ls (LI.mk (u := u9) Iu I9 (hA.2.2.2.mono (by omega)) (fun k hk => mgW hk) rfl) hw (lv_sub hl [2, 3, 4, 5, 6] rfl))
    refine lv_aload_n hx hb dL_law_665 rfl (lv_at hl 6 rfl) ?_
    refine lv_iconst (v := 0) hx hb dL_law_666 (by decide +kernel) ?_
    refine lD Z hw rfl dL_law_667 ?_
    refine lv_iload hx hb dL_law_668 (lv_at hl 0 rfl) ?_
    refine lv_i2l (v := r6.toInt64) hx hb dL_law_670 rfl ?_
    refine lv_lcmp hx hb dL_law_671 ?_
    refine lv_if_eq (tgt := 677) hx hb dL_law_672 (by decide) (fun q7 => ?_) (fun q7 => ?_)
    rotate_left
    · exact absurd (lc_0.mpr (hA.2.2.1 q6)) q7
    refine lv_goto (tgt := 1589) hx hb dL_law_677 (by decide) ?_
    exact W.widen (rw3 (k := 2) (Nat.le_of_ble_eq_true rfl)) (rw3 (k := 12) (Nat.le_of_ble_eq_true rfl)) (kk _ H locs ls (LI.mk (u := u9) Iu I9 (hA.2.2.2.mono (by omega)) (fun k hk => mgW hk) rfl) hw (lv_sub hl [2, 3, 4, 5, 6] rfl))
  · refine lv_iconst (v := 1) hx hb dL_law_612 (by decide +kernel) ?_
    refine lv_goto (tgt := 617) hx hb dL_law_613 (by decide) ?_
    refine lv_aload_n hx hb dL_law_617 rfl (lv_at hl 4 rfl) ?_
    have hA := api_law (σ := σ) (a_setLine I.2.2 (xs (i + 1)) 1 rfl)
    refine bs_i prtW (rnW (rest := []) Z (prtW.sub hw) hT hN (k_L_setLine hfl (σ := σ) (p1 := (xs (i + 1))) (p2 := 1) I.1 rfl hA.1) v_L_setLine rfl q_4_47 hl.1 rfl rfl (Nat.le_of_ble_eq_true rfl) ⟨Nat.le_of_ble_eq_true rfl, Nat.le_of_ble_eq_true rfl⟩ ⟨Nat.le_trans (Nat.add_le_add_left (Nat.le_of_ble_eq_true rfl) _) hc, Nat.le_trans (Nat.add_le_add_left (Nat.le_of_ble_eq_true rfl) _) hs⟩ dL_law_618) hw Z (fun r5 u H locs hp hw => ?_)
    obtain ⟨er5, eu, Iu⟩ := hp
    have er5 : (wr w13 σ (f_X8_setLine σ (xs (i + 1)) 1)).1 = r5 := er5
    have eu : (wr w13 σ (f_X8_setLine σ (xs (i + 1)) 1)).2 = u := eu
    rw [er5, eu] at hA
    refine lv_istore (lv' := [(5, .int r5), (4, .int (nI i)), (0, .ref b), (1, .ref (ad 0)), (2, .ref (ad 406)), (3, .ref (ad 405))]) hx hb dL_law_621 hl (by decide) rfl (fun ls hl => ?_)
    refine lv_aload_n hx hb dL_law_623 rfl (lv_at hl 4 rfl) ?_
    refine lv_aload_n hx hb dL_law_624 rfl (lv_at hl 2 rfl) ?_
    refine lv_iload hx hb dL_law_625 (lv_at hl 1 rfl) ?_
    refine lv_iconst (v := 1) hx hb dL_law_627 (by decide +kernel) ?_
    refine lv_iadd hx hb dL_law_628 ?_
    refine sS (k := i + 1) Z hX hbl hbA hw (nI_add (a := i) (b := 1)) (by omega) hL dL_law_629 ?_
    refine lv_aload_n hx hb dL_law_630 rfl (lv_at hl 2 rfl) ?_
    refine lv_iload hx hb dL_law_631 (lv_at hl 1 rfl) ?_
    refine lv_iconst (v := 2) hx hb dL_law_633 (by decide +kernel) ?_
    refine lv_iadd hx hb dL_law_634 ?_
    refine sS (k := i + 2) Z hX hbl hbA hw (nI_add (a := i) (b := 2)) (by omega) hL dL_law_635 ?_
    refine lv_if_eq (tgt := 643) hx hb dL_law_636 (by decide) (fun q1 => ?_) (fun q1 => ?_)
    · exact absurd q1 q0
    refine lv_iconst (v := 1) hx hb dL_law_639 (by decide +kernel) ?_
    refine lv_goto (tgt := 644) hx hb dL_law_640 (by decide) ?_
    have ID : InvD (sb gmD (mg giW σ u)) := by rw [sbD_W]; exact I.2.1
    refine bs_i prtD (rnV (rest := []) Z (prtD.sub hw) (k_X9_setLine (p1 := (xs (i + 1))) (p2 := 1) ID rfl) v_X9_setLine q_5_113 0 (by decide) rfl rfl rfl rfl hl.1 rfl rfl (Nat.le_of_ble_eq_true rfl) ⟨Nat.le_of_ble_eq_true rfl, Nat.le_of_ble_eq_true rfl⟩ ⟨rc2 hc (Nat.le_of_ble_eq_true rfl), rc2 hs (Nat.le_of_ble_eq_true rfl)⟩ dL_law_644) hw Z (fun r6 u9 H locs hp hw => ?_)
    obtain ⟨er6, eu9, I9⟩ := hp
    rw [sbD_W] at er6 eu9
    rw [er6, eu9] at hA
    refine lv_istore (lv' := [(6, .int r6), (5, .int r5), (4, .int (nI i)), (0, .ref b), (1, .ref (ad 0)), (2, .ref (ad 406)), (3, .ref (ad 405))]) hx hb dL_law_647 hl (by decide) rfl (fun ls hl => ?_)
    refine lv_aload_n hx hb dL_law_649 rfl (lv_at hl 5 rfl) ?_
    refine bs_ip prtD (rnV (rest := []) Z (prtD.sub hw) (k_X9_thrown (I9.lo (fun k hk => sbD_D hk))) v_X9_thrown q_5_9 0 (by decide) rfl rfl rfl rfl hl.1 rfl rfl (Nat.le_of_ble_eq_true rfl) ⟨Nat.le_of_ble_eq_true rfl, Nat.le_of_ble_eq_true rfl⟩ ⟨rc3 hc (Nat.le_of_ble_eq_true rfl), rc3 hs (Nat.le_of_ble_eq_true rfl)⟩ dL_law_650) hw Z (fun r7 er7 H locs hw => ?_)
    have er7 : u9 0 4 = r7 := er7
    refine lv_iload hx hb dL_law_653 (lv_at hl 1 rfl) ?_
    refine lv_icmp_eq (tgt := 660) hx hb dL_law_655 (by decide) (fun q5 => ?_) (fun q5 => ?_)
    rotate_left
    · exact absurd (er7.symm.trans hA.2.1.symm) q5
    refine lv_iload hx hb dL_law_660 (lv_at hl 1 rfl) ?_
    refine lv_if_ne (tgt := 677) hx hb dL_law_662 (by decide) (fun q6 => ?_) (fun q6 => ?_)
    · refine lv_goto (tgt := 1589) hx hb dL_law_677 (by decide) ?_
      exact W.widen (rw3 (k := 2) (Nat.le_of_ble_eq_true rfl)) (rw3 (k := 12) (Nat.le_of_ble_eq_true rfl)) (kk _ H locs ls (LI.mk (u := u9) Iu I9 (hA.2.2.2.mono (by omega)) (fun k hk => mgW hk) rfl) hw (lv_sub hl [2, 3, 4, 5, 6] rfl))
    refine lv_aload_n hx hb dL_law_665 rfl (lv_at hl 6 rfl) ?_
    refine lv_iconst (v := 0) hx hb dL_law_666 (by decide +kernel) ?_
    refine lD Z hw rfl dL_law_667 ?_
    refine lv_iload hx hb dL_law_668 (lv_at hl 0 rfl) ?_
    refine lv_i2l (v := r6.toInt64) hx hb dL_law_670 rfl ?_
    refine lv_lcmp hx hb dL_law_671 ?_
    refine lv_if_eq (tgt := 677) hx hb dL_law_672 (by decide) (fun q7 => ?_) (fun q7 => ?_)
    rotate_left
    · exact absurd (lc_0.mpr (hA.2.2.1 q6)) q7
    refine lv_goto (tgt := 1589) hx hb dL_law_677 (by decide) ?_
    exact W.widen (rw3 (k := 2) (Nat.le_of_ble_eq_true rfl)) (rw3 (k := 12) (Nat.le_of_ble_eq_true rfl)) (kk _ H locs ls (LI.mk (u := u9) Iu I9 (hA.2.2.2.mono (by omega)) (fun k hk => mgW hk) rfl) hw (lv_sub hl [2, 3, 4, 5, 6] rfl))
theorem v_L_set : cvW yL_set cL_set 5 [(0, 10, 13, 13)] 4 := ⟨q_4_55, q_1_0, q_4_56, by decide +kernel, by decide +kernel, by decide +kernel⟩
set_option maxHeartbeats 4000000 in
set_option maxRecDepth 100000 in
theorem B_7 {p : Program} {l : Launch} {e : Env} {s : State} {m : MethodId} {below : List Frame} {meth : Method} {c : Code} {A : Nat → Prop} {H : Heap} {locs : List Loc} {ls : Array Slot} {D : va_G} {T : Nat → ClassId} {g ad : Nat → Nat} {b L i cells slots : Nat} {xs : Nat → Int32} {σ : St} {τ : Int} {Qw : State → Prop} (hfl : l.stackTraces = false) (Z : en p m c cL_law 7 s #[.ref b] "NestedBellsLaw" D T g A) (hT : tW s) (hN : nCs s) (hX : va_X b L xs s s.heap) (hbl : b < s.heap.size) (hbA : ¬ A b) (hL : L ≤ 2560) (hi : i + 5 ≤ L) (h0 : 0 ≤ τ) (ht : τ + 75651 < 2147483000) (I : LI τ σ) (hw : wo D A s.heap 412 ad (cE (lE g T ad) σ) H locs) (hl : lv_has ls 7 [(4, .int (nI i)), (0, .ref b), (1, .ref (ad 0)), (2, .ref (ad 406)), (3, .ref (ad 405))]) (hc : cells + 2 ≤ 601024) (hs : slots + 12 ≤ 7293034) (kk : ∀ (σ' : St) (H : Heap) (locs : List Loc) (ls : Array Slot), LI (τ + 75651) σ' → wo D A s.heap 412 ad (cE (lE g T ad) σ') H locs → lv_has ls 7 [(4, .int (nI i)), (0, .ref b), (1, .ref (ad 0)), (2, .ref (ad 406)), (3, .ref (ad 405))] → W p l e room_1 s m #[.ref b] below meth c H locs (cells + 2) (slots + 12) Qw (F0 m 1589 ls [])) : W p l e room_1 s m #[.ref b] below meth c H locs cells slots Qw (F0 m 680 ls []) := by
  have hx := Z.1.1
  have hb := Z.1.2.1
  refine lv_aload_n hx hb dL_law_680 rfl (lv_at hl 2 rfl) ?_
  refine lv_aload_n hx hb dL_law_681 rfl (lv_at hl 1 rfl) ?_
  refine lv_iload hx hb dL_law_682 (lv_at hl 0 rfl) ?_
  refine lv_iconst (v := 1) hx hb dL_law_684 (by decide +kernel) ?_
  refine lv_iadd hx hb dL_law_685 ?_
  refine sS (k := i + 1) Z hX hbl hbA hw (nI_add (a := i) (b := 1)) (by omega) hL dL_law_686 ?_
  refine lv_aload_n hx hb dL_law_687 rfl (lv_at hl 1 rfl) ?_
  refine lv_iload hx hb dL_law_688 (lv_at hl 0 rfl) ?_
  refine lv_iconst (v := 2) hx hb dL_law_690 (by decide +kernel) ?_
  refine lv_iadd hx hb dL_law_691 ?_
  refine sS (k := i + 2) Z hX hbl hbA hw (nI_add (a := i) (b := 2)) (by omega) hL dL_law_692 ?_
  refine lv_aload_n hx hb dL_law_693 rfl (lv_at hl 4 rfl) ?_
  have hA := api_law (σ := σ) (a_set I.2.2 (xs (i + 1)) (xs (i + 2)))
  refine bs_i prtW (rnW (rest := []) Z (prtW.sub hw) hT hN (k_L_set hfl (σ := σ) (p1 := (xs (i + 1))) (p2 := (xs (i + 2))) I.1 hA.1) v_L_set rfl q_4_54 hl.1 rfl rfl (Nat.le_of_ble_eq_true rfl) ⟨Nat.le_of_ble_eq_true rfl, Nat.le_of_ble_eq_true rfl⟩ ⟨Nat.le_trans (Nat.add_le_add_left (Nat.le_of_ble_eq_true rfl) _) hc, Nat.le_trans (Nat.add_le_add_left (Nat.le_of_ble_eq_true rfl) _) hs⟩ dL_law_694) hw Z (fun r5 u H locs hp hw => ?_)
  obtain ⟨er5, eu, Iu⟩ := hp
  have er5 : (wr w2 σ (f_X8_set σ (xs (i + 1)) (xs (i + 2)))).1 = r5 := er5
  have eu : (wr w2 σ (f_X8_set σ (xs (i + 1)) (xs (i + 2)))).2 = u := eu
  rw [er5, eu] at hA
  refine lv_istore (lv' := [(5, .int r5), (4, .int (nI i)), (0, .ref b), (1, .ref (ad 0)), (2, .ref (ad 406)), (3, .ref (ad 405))]) hx hb dL_law_697 hl (by decide) rfl (fun ls hl => ?_)
  refine lv_aload_n hx hb dL_law_699 rfl (lv_at hl 4 rfl) ?_
  refine lv_aload_n hx hb dL_law_700 rfl (lv_at hl 2 rfl) ?_
  refine lv_iload hx hb dL_law_701 (lv_at hl 1 rfl) ?_
  refine lv_iconst (v := 1) hx hb dL_law_703 (by decide +kernel) ?_
  refine lv_iadd hx hb dL_law_704 ?_
  refine sS (k := i + 1) Z hX hbl hbA hw (nI_add (a := i) (b := 1)) (by omega) hL dL_law_705 ?_
  refine lv_aload_n hx hb dL_law_706 rfl (lv_at hl 2 rfl) ?_
  refine lv_iload hx hb dL_law_707 (lv_at hl 1 rfl) ?_
  refine lv_iconst (v := 2) hx hb dL_law_709 (by decide +kernel) ?_
  refine lv_iadd hx hb dL_law_710 ?_
  refine sS (k := i + 2) Z hX hbl hbA hw (nI_add (a := i) (b := 2)) (by omega) hL dL_law_711 ?_
  have ID : InvD (sb gmD (mg giW σ u)) := by rw [sbD_W]; exact I.2.1
  refine bs_i prtD (rnV (rest := []) Z (prtD.sub hw) (k_X9_set (p1 := (xs (i + 1))) (p2 := (xs (i + 2))) ID) v_X9_set q_5_125 0 (by decide) rfl rfl rfl rfl hl.1 rfl rfl (Nat.le_of_ble_eq_true rfl) ⟨Nat.le_of_ble_eq_true rfl, Nat.le_of_ble_eq_true rfl⟩ ⟨rc2 hc (Nat.le_of_ble_eq_true rfl), rc2 hs (Nat.le_of_ble_eq_true rfl)⟩ dL_law_712) hw Z (fun r6 u9 H locs hp hw => ?_)
  obtain ⟨er6, eu9, I9⟩ := hp
  rw [sbD_W] at er6 eu9
  rw [er6, eu9] at hA
  refine lv_istore (lv' := [(6, .int r6), (5, .int r5), (4, .int (nI i)), (0, .ref b), (1, .ref (ad 0)), (2, .ref (ad 406)), (3, .ref (ad 405))]) hx hb dL_law_715 hl (by decide) rfl (fun ls hl => ?_)
  refine lv_aload_n hx hb dL_law_717 rfl (lv_at hl 5 rfl) ?_
  refine bs_ip prtD (rnV (rest := []) Z (prtD.sub hw) (k_X9_thrown (I9.lo (fun k hk => sbD_D hk))) v_X9_thrown q_5_9 0 (by decide) rfl rfl rfl rfl hl.1 rfl rfl (Nat.le_of_ble_eq_true rfl) ⟨Nat.le_of_ble_eq_true rfl, Nat.le_of_ble_eq_true rfl⟩ ⟨rc3 hc (Nat.le_of_ble_eq_true rfl), rc3 hs (Nat.le_of_ble_eq_true rfl)⟩ dL_law_718) hw Z (fun r7 er7 H locs hw => ?_)
  have er7 : u9 0 4 = r7 := er7
  refine lv_iload hx hb dL_law_721 (lv_at hl 1 rfl) ?_
  refine lv_icmp_eq (tgt := 728) hx hb dL_law_723 (by decide) (fun q5 => ?_) (fun q5 => ?_)
  rotate_left
  · exact absurd (er7.symm.trans hA.2.1.symm) q5
  refine lv_iload hx hb dL_law_728 (lv_at hl 1 rfl) ?_
  refine lv_if_ne (tgt := 745) hx hb dL_law_730 (by decide) (fun q6 => ?_) (fun q6 => ?_)
  · refine lv_goto (tgt := 1589) hx hb dL_law_745 (by decide) ?_
    exact W.widen (rw3 (k := 2) (Nat.le_of_ble_eq_true rfl)) (rw3 (k := 12) (Nat.le_of_ble_eq_true rfl)) (kk _ H locs ls (LI.mk (u := u9) Iu I9 (hA.2.2.2.mono (by omega)) (fun k hk => mgW hk) rfl) hw (lv_sub hl [2, 3, 4, 5, 6] rfl))
  refine lv_aload_n hx hb dL_law_733 rfl (lv_at hl 6 rfl) ?_
  refine lv_iconst (v := 0) hx hb dL_law_734 (by decide +kernel) ?_
  refine lD Z hw rfl dL_law_735 ?_
  refine lv_iload hx hb dL_law_736 (lv_at hl 0 rfl) ?_
  refine lv_i2l (v := r6.toInt64) hx hb dL_law_738 rfl ?_
  refine lv_lcmp hx hb dL_law_739 ?_
  refine lv_if_eq (tgt := 745) hx hb dL_law_740 (by decide) (fun q7 => ?_) (fun q7 => ?_)
  rotate_left
  · exact absurd (lc_0.mpr (hA.2.2.1 q6)) q7
  refine lv_goto (tgt := 1589) hx hb dL_law_745 (by decide) ?_
  exact W.widen (rw3 (k := 2) (Nat.le_of_ble_eq_true rfl)) (rw3 (k := 12) (Nat.le_of_ble_eq_true rfl)) (kk _ H locs ls (LI.mk (u := u9) Iu I9 (hA.2.2.2.mono (by omega)) (fun k hk => mgW hk) rfl) hw (lv_sub hl [2, 3, 4, 5, 6] rfl))
theorem v_L_run : cvW yL_run cL_run 4 [(0, 9, 12, 13)] 3 := ⟨q_4_62, q_1_0, q_4_63, by decide +kernel, by decide +kernel, by decide +kernel⟩
set_option maxHeartbeats 4000000 in
set_option maxRecDepth 100000 in
theorem B_8 {p : Program} {l : Launch} {e : Env} {s : State} {m : MethodId} {below : List Frame} {meth : Method} {c : Code} {A : Nat → Prop} {H : Heap} {locs : List Loc} {ls : Array Slot} {D : va_G} {T : Nat → ClassId} {g ad : Nat → Nat} {b L i cells slots : Nat} {xs : Nat → Int32} {σ : St} {τ : Int} {Qw : State → Prop} (hfl : l.stackTraces = false) (Z : en p m c cL_law 7 s #[.ref b] "NestedBellsLaw" D T g A) (hT : tW s) (hN : nCs s) (hX : va_X b L xs s s.heap) (hbl : b < s.heap.size) (hbA : ¬ A b) (hL : L ≤ 2560) (hi : i + 5 ≤ L) (h0 : 0 ≤ τ) (ht : τ + 75651 < 2147483000) (I : LI τ σ) (hw : wo D A s.heap 412 ad (cE (lE g T ad) σ) H locs) (hl : lv_has ls 7 [(4, .int (nI i)), (0, .ref b), (1, .ref (ad 0)), (2, .ref (ad 406)), (3, .ref (ad 405))]) (hc : cells + 2 ≤ 601024) (hs : slots + 12 ≤ 7293034) (kk : ∀ (σ' : St) (H : Heap) (locs : List Loc) (ls : Array Slot), LI (τ + 75651) σ' → wo D A s.heap 412 ad (cE (lE g T ad) σ') H locs → lv_has ls 7 [(4, .int (nI i)), (0, .ref b), (1, .ref (ad 0)), (2, .ref (ad 406)), (3, .ref (ad 405))] → W p l e room_1 s m #[.ref b] below meth c H locs (cells + 2) (slots + 12) Qw (F0 m 1589 ls [])) : W p l e room_1 s m #[.ref b] below meth c H locs cells slots Qw (F0 m 748 ls []) := by
  have hx := Z.1.1
  have hb := Z.1.2.1
  refine lv_aload_n hx hb dL_law_748 rfl (lv_at hl 2 rfl) ?_
  refine lv_aload_n hx hb dL_law_749 rfl (lv_at hl 1 rfl) ?_
  refine lv_iload hx hb dL_law_750 (lv_at hl 0 rfl) ?_
  refine lv_iconst (v := 1) hx hb dL_law_752 (by decide +kernel) ?_
  refine lv_iadd hx hb dL_law_753 ?_
  refine sS (k := i + 1) Z hX hbl hbA hw (nI_add (a := i) (b := 1)) (by omega) hL dL_law_754 ?_
  refine lv_aload_n hx hb dL_law_755 rfl (lv_at hl 4 rfl) ?_
  have hA := api_law (σ := σ) (a_run I.2.2 (by omega) (xs (i + 1)))
  refine bs_i prtW (rnW (rest := []) Z (prtW.sub hw) hT hN (k_L_run hfl (σ := σ) (p1 := (xs (i + 1))) I.1 hA.1) v_L_run rfl q_4_61 hl.1 rfl rfl (Nat.le_of_ble_eq_true rfl) ⟨Nat.le_of_ble_eq_true rfl, Nat.le_of_ble_eq_true rfl⟩ ⟨Nat.le_trans (Nat.add_le_add_left (Nat.le_of_ble_eq_true rfl) _) hc, Nat.le_trans (Nat.add_le_add_left (Nat.le_of_ble_eq_true rfl) _) hs⟩ dL_law_756) hw Z (fun r5 u H locs hp hw => ?_)
  obtain ⟨er5, eu, Iu⟩ := hp
  have er5 : (wr w2 σ (f_X8_run σ (xs (i + 1)))).1 = r5 := er5
  have eu : (wr w2 σ (f_X8_run σ (xs (i + 1)))).2 = u := eu
  rw [er5, eu] at hA
  refine lv_istore (lv' := [(5, .int r5), (4, .int (nI i)), (0, .ref b), (1, .ref (ad 0)), (2, .ref (ad 406)), (3, .ref (ad 405))]) hx hb dL_law_759 hl (by decide) rfl (fun ls hl => ?_)
  refine lv_aload_n hx hb dL_law_761 rfl (lv_at hl 4 rfl) ?_
  refine lv_aload_n hx hb dL_law_762 rfl (lv_at hl 2 rfl) ?_
  refine lv_iload hx hb dL_law_763 (lv_at hl 1 rfl) ?_
  refine lv_iconst (v := 1) hx hb dL_law_765 (by decide +kernel) ?_
  refine lv_iadd hx hb dL_law_766 ?_
  refine sS (k := i + 1) Z hX hbl hbA hw (nI_add (a := i) (b := 1)) (by omega) hL dL_law_767 ?_
  have ID : InvD (sb gmD (mg giW σ u)) := by rw [sbD_W]; exact I.2.1
  refine bs_i prtD (rnV (rest := []) Z (prtD.sub hw) (k_X9_run (p1 := (xs (i + 1))) ID) v_X9_run q_5_136 0 (by decide) rfl rfl rfl rfl hl.1 rfl rfl (Nat.le_of_ble_eq_true rfl) ⟨Nat.le_of_ble_eq_true rfl, Nat.le_of_ble_eq_true rfl⟩ ⟨rc2 hc (Nat.le_of_ble_eq_true rfl), rc2 hs (Nat.le_of_ble_eq_true rfl)⟩ dL_law_768) hw Z (fun r6 u9 H locs hp hw => ?_)
  obtain ⟨er6, eu9, I9⟩ := hp
  rw [sbD_W] at er6 eu9
  rw [er6, eu9] at hA
  refine lv_istore (lv' := [(6, .int r6), (5, .int r5), (4, .int (nI i)), (0, .ref b), (1, .ref (ad 0)), (2, .ref (ad 406)), (3, .ref (ad 405))]) hx hb dL_law_771 hl (by decide) rfl (fun ls hl => ?_)
  refine lv_aload_n hx hb dL_law_773 rfl (lv_at hl 5 rfl) ?_
  refine bs_ip prtD (rnV (rest := []) Z (prtD.sub hw) (k_X9_thrown (I9.lo (fun k hk => sbD_D hk))) v_X9_thrown q_5_9 0 (by decide) rfl rfl rfl rfl hl.1 rfl rfl (Nat.le_of_ble_eq_true rfl) ⟨Nat.le_of_ble_eq_true rfl, Nat.le_of_ble_eq_true rfl⟩ ⟨rc3 hc (Nat.le_of_ble_eq_true rfl), rc3 hs (Nat.le_of_ble_eq_true rfl)⟩ dL_law_774) hw Z (fun r7 er7 H locs hw => ?_)
  have er7 : u9 0 4 = r7 := er7
  refine lv_iload hx hb dL_law_777 (lv_at hl 1 rfl) ?_
  refine lv_icmp_eq (tgt := 784) hx hb dL_law_779 (by decide) (fun q5 => ?_) (fun q5 => ?_)
  rotate_left
  · exact absurd (er7.symm.trans hA.2.1.symm) q5
  refine lv_iload hx hb dL_law_784 (lv_at hl 1 rfl) ?_
  refine lv_if_ne (tgt := 801) hx hb dL_law_786 (by decide) (fun q6 => ?_) (fun q6 => ?_)
  · refine lv_goto (tgt := 1589) hx hb dL_law_801 (by decide) ?_
    exact W.widen (rw3 (k := 2) (Nat.le_of_ble_eq_true rfl)) (rw3 (k := 12) (Nat.le_of_ble_eq_true rfl)) (kk _ H locs ls (LI.mk (u := u9) Iu I9 (hA.2.2.2.mono (by omega)) (fun k hk => mgW hk) rfl) hw (lv_sub hl [2, 3, 4, 5, 6] rfl))
  refine lv_aload_n hx hb dL_law_789 rfl (lv_at hl 6 rfl) ?_
  refine lv_iconst (v := 0) hx hb dL_law_790 (by decide +kernel) ?_
  refine lD Z hw rfl dL_law_791 ?_
  refine lv_iload hx hb dL_law_792 (lv_at hl 0 rfl) ?_
  refine lv_i2l (v := r6.toInt64) hx hb dL_law_794 rfl ?_
  refine lv_lcmp hx hb dL_law_795 ?_
  refine lv_if_eq (tgt := 801) hx hb dL_law_796 (by decide) (fun q7 => ?_) (fun q7 => ?_)
  rotate_left
  · exact absurd (lc_0.mpr (hA.2.2.1 q6)) q7
  refine lv_goto (tgt := 1589) hx hb dL_law_801 (by decide) ?_
  exact W.widen (rw3 (k := 2) (Nat.le_of_ble_eq_true rfl)) (rw3 (k := 12) (Nat.le_of_ble_eq_true rfl)) (kk _ H locs ls (LI.mk (u := u9) Iu I9 (hA.2.2.2.mono (by omega)) (fun k hk => mgW hk) rfl) hw (lv_sub hl [2, 3, 4, 5, 6] rfl))
theorem v_L_source : cvW yL_source cL_source 5 [(0, 10, 13, 20), (0, 10, 17, 13)] 4 := ⟨q_4_69, q_1_0, q_4_70, by decide +kernel, by decide +kernel, by decide +kernel⟩
set_option maxHeartbeats 4000000 in
set_option maxRecDepth 100000 in
theorem B_9 {p : Program} {l : Launch} {e : Env} {s : State} {m : MethodId} {below : List Frame} {meth : Method} {c : Code} {A : Nat → Prop} {H : Heap} {locs : List Loc} {ls : Array Slot} {D : va_G} {T : Nat → ClassId} {g ad : Nat → Nat} {b L i cells slots : Nat} {xs : Nat → Int32} {σ : St} {τ : Int} {Qw : State → Prop} (hfl : l.stackTraces = false) (Z : en p m c cL_law 7 s #[.ref b] "NestedBellsLaw" D T g A) (hT : tW s) (hN : nCs s) (hX : va_X b L xs s s.heap) (hbl : b < s.heap.size) (hbA : ¬ A b) (hL : L ≤ 2560) (hi : i + 5 ≤ L) (h0 : 0 ≤ τ) (ht : τ + 75651 < 2147483000) (I : LI τ σ) (hw : wo D A s.heap 412 ad (cE (lE g T ad) σ) H locs) (hl : lv_has ls 7 [(4, .int (nI i)), (0, .ref b), (1, .ref (ad 0)), (2, .ref (ad 406)), (3, .ref (ad 405))]) (hc : cells + 2 ≤ 601024) (hs : slots + 12 ≤ 7293034) (kk : ∀ (σ' : St) (H : Heap) (locs : List Loc) (ls : Array Slot), LI (τ + 75651) σ' → wo D A s.heap 412 ad (cE (lE g T ad) σ') H locs → lv_has ls 7 [(4, .int (nI i)), (0, .ref b), (1, .ref (ad 0)), (2, .ref (ad 406)), (3, .ref (ad 405))] → W p l e room_1 s m #[.ref b] below meth c H locs (cells + 2) (slots + 12) Qw (F0 m 1589 ls [])) : W p l e room_1 s m #[.ref b] below meth c H locs cells slots Qw (F0 m 804 ls []) := by
  have hx := Z.1.1
  have hb := Z.1.2.1
  refine lv_aload_n hx hb dL_law_804 rfl (lv_at hl 2 rfl) ?_
  refine lv_aload_n hx hb dL_law_805 rfl (lv_at hl 1 rfl) ?_
  refine lv_iload hx hb dL_law_806 (lv_at hl 0 rfl) ?_
  refine lv_iconst (v := 1) hx hb dL_law_808 (by decide +kernel) ?_
  refine lv_iadd hx hb dL_law_809 ?_
  refine sS (k := i + 1) Z hX hbl hbA hw (nI_add (a := i) (b := 1)) (by omega) hL dL_law_810 ?_
  refine lv_aload_n hx hb dL_law_811 rfl (lv_at hl 1 rfl) ?_
  refine lv_iload hx hb dL_law_812 (lv_at hl 0 rfl) ?_
  refine lv_iconst (v := 2) hx hb dL_law_814 (by decide +kernel) ?_
  refine lv_iadd hx hb dL_law_815 ?_
  refine sS (k := i + 2) Z hX hbl hbA hw (nI_add (a := i) (b := 2)) (by omega) hL dL_law_816 ?_
  refine lv_aload_n hx hb dL_law_817 rfl (lv_at hl 4 rfl) ?_
  have hA := api_law (σ := σ) (a_source I.2.2 (xs (i + 1)) (xs (i + 2)))
  refine bs_i prtW (rnW (rest := []) Z (prtW.sub hw) hT hN (k_L_source hfl (σ := σ) (p1 := (xs (i + 1))) (p2 := (xs (i + 2))) I.1 hA.1) v_L_source rfl q_4_68 hl.1 rfl rfl (Nat.le_of_ble_eq_true rfl) ⟨Nat.le_of_ble_eq_true rfl, Nat.le_of_ble_eq_true rfl⟩ ⟨Nat.le_trans (Nat.add_le_add_left (Nat.le_of_ble_eq_true rfl) _) hc, Nat.le_trans (Nat.add_le_add_left (Nat.le_of_ble_eq_true rfl) _) hs⟩ dL_law_818) hw Z (fun r5 u H locs hp hw => ?_)
  obtain ⟨er5, eu, Iu⟩ := hp
  have er5 : (wr w12 σ (f_X8_source σ (xs (i + 1)) (xs (i + 2)))).1 = r5 := er5
  have eu : (wr w12 σ (f_X8_source σ (xs (i + 1)) (xs (i + 2)))).2 = u := eu
  rw [er5, eu] at hA
  refine lv_istore (lv' := [(5, .int r5), (4, .int (nI i)), (0, .ref b), (1, .ref (ad 0)), (2, .ref (ad 406)), (3, .ref (ad 405))]) hx hb dL_law_821 hl (by decide) rfl (fun ls hl => ?_)
  refine lv_aload_n hx hb dL_law_823 rfl (lv_at hl 4 rfl) ?_
  refine lv_aload_n hx hb dL_law_824 rfl (lv_at hl 2 rfl) ?_
  refine lv_iload hx hb dL_law_825 (lv_at hl 1 rfl) ?_
  refine lv_iconst (v := 1) hx hb dL_law_827 (by decide +kernel) ?_
  refine lv_iadd hx hb dL_law_828 ?_
  refine sS (k := i + 1) Z hX hbl hbA hw (nI_add (a := i) (b := 1)) (by omega) hL dL_law_829 ?_
  refine lv_aload_n hx hb dL_law_830 rfl (lv_at hl 2 rfl) ?_
  refine lv_iload hx hb dL_law_831 (lv_at hl 1 rfl) ?_
  refine lv_iconst (v := 2) hx hb dL_law_833 (by decide +kernel) ?_
  refine lv_iadd hx hb dL_law_834 ?_
  refine sS (k := i + 2) Z hX hbl hbA hw (nI_add (a := i) (b := 2)) (by omega) hL dL_law_835 ?_
  have ID : InvD (sb gmD (mg giW σ u)) := by rw [sbD_W]; exact I.2.1
  refine bs_i prtD (rnV (rest := []) Z (prtD.sub hw) (k_X9_source (p1 := (xs (i + 1))) (p2 := (xs (i + 2))) ID) v_X9_source q_5_198 0 (by decide) rfl rfl rfl rfl hl.1 rfl rfl (Nat.le_of_ble_eq_true rfl) ⟨Nat.le_of_ble_eq_true rfl, Nat.le_of_ble_eq_true rfl⟩ ⟨rc2 hc (Nat.le_of_ble_eq_true rfl), rc2 hs (Nat.le_of_ble_eq_true rfl)⟩ dL_law_836) hw Z (fun r6 u9 H locs hp hw => ?_)
  obtain ⟨er6, eu9, I9⟩ := hp
  rw [sbD_W] at er6 eu9
  rw [er6, eu9] at hA
  refine lv_istore (lv' := [(6, .int r6), (5, .int r5), (4, .int (nI i)), (0, .ref b), (1, .ref (ad 0)), (2, .ref (ad 406)), (3, .ref (ad 405))]) hx hb dL_law_839 hl (by decide) rfl (fun ls hl => ?_)
  refine lv_aload_n hx hb dL_law_841 rfl (lv_at hl 5 rfl) ?_
  refine bs_ip prtD (rnV (rest := []) Z (prtD.sub hw) (k_X9_thrown (I9.lo (fun k hk => sbD_D hk))) v_X9_thrown q_5_9 0 (by decide) rfl rfl rfl rfl hl.1 rfl rfl (Nat.le_of_ble_eq_true rfl) ⟨Nat.le_of_ble_eq_true rfl, Nat.le_of_ble_eq_true rfl⟩ ⟨rc3 hc (Nat.le_of_ble_eq_true rfl), rc3 hs (Nat.le_of_ble_eq_true rfl)⟩ dL_law_842) hw Z (fun r7 er7 H locs hw => ?_)
  have er7 : u9 0 4 = r7 := er7
  refine lv_iload hx hb dL_law_845 (lv_at hl 1 rfl) ?_
  refine lv_icmp_eq (tgt := 852) hx hb dL_law_847 (by decide) (fun q5 => ?_) (fun q5 => ?_)
  rotate_left
  · exact absurd (er7.symm.trans hA.2.1.symm) q5
  refine lv_iload hx hb dL_law_852 (lv_at hl 1 rfl) ?_
  refine lv_if_ne (tgt := 869) hx hb dL_law_854 (by decide) (fun q6 => ?_) (fun q6 => ?_)
  · refine lv_goto (tgt := 1589) hx hb dL_law_869 (by decide) ?_
    exact W.widen (rw3 (k := 2) (Nat.le_of_ble_eq_true rfl)) (rw3 (k := 12) (Nat.le_of_ble_eq_true rfl)) (kk _ H locs ls (LI.mk (u := u9) Iu I9 (hA.2.2.2.mono (by omega)) (fun k hk => mgW hk) rfl) hw (lv_sub hl [2, 3, 4, 5, 6] rfl))
  refine lv_aload_n hx hb dL_law_857 rfl (lv_at hl 6 rfl) ?_
  refine lv_iconst (v := 0) hx hb dL_law_858 (by decide +kernel) ?_
  refine lD Z hw rfl dL_law_859 ?_
  refine lv_iload hx hb dL_law_860 (lv_at hl 0 rfl) ?_
  refine lv_i2l (v := r6.toInt64) hx hb dL_law_862 rfl ?_
  refine lv_lcmp hx hb dL_law_863 ?_
  refine lv_if_eq (tgt := 869) hx hb dL_law_864 (by decide) (fun q7 => ?_) (fun q7 => ?_)
  rotate_left
  · exact absurd (lc_0.mpr (hA.2.2.1 q6)) q7
  refine lv_goto (tgt := 1589) hx hb dL_law_869 (by decide) ?_
  exact W.widen (rw3 (k := 2) (Nat.le_of_ble_eq_true rfl)) (rw3 (k := 12) (Nat.le_of_ble_eq_true rfl)) (kk _ H locs ls (LI.mk (u := u9) Iu I9 (hA.2.2.2.mono (by omega)) (fun k hk => mgW hk) rfl) hw (lv_sub hl [2, 3, 4, 5, 6] rfl))
theorem v_L_section : cvW yL_section cL_section 6 [(0, 12, 15, 20), (0, 12, 19, 13)] 5 := ⟨q_4_85, q_1_0, q_4_86, by decide +kernel, by decide +kernel, by decide +kernel⟩
set_option maxHeartbeats 4000000 in
set_option maxRecDepth 100000 in
theorem B_10 {p : Program} {l : Launch} {e : Env} {s : State} {m : MethodId} {below : List Frame} {meth : Method} {c : Code} {A : Nat → Prop} {H : Heap} {locs : List Loc} {ls : Array Slot} {D : va_G} {T : Nat → ClassId} {g ad : Nat → Nat} {b L i cells slots : Nat} {xs : Nat → Int32} {σ : St} {τ : Int} {Qw : State → Prop} (hfl : l.stackTraces = false) (Z : en p m c cL_law 7 s #[.ref b] "NestedBellsLaw" D T g A) (hT : tW s) (hN : nCs s) (hX : va_X b L xs s s.heap) (hbl : b < s.heap.size) (hbA : ¬ A b) (hL : L ≤ 2560) (hi : i + 5 ≤ L) (h0 : 0 ≤ τ) (ht : τ + 75651 < 2147483000) (I : LI τ σ) (hw : wo D A s.heap 412 ad (cE (lE g T ad) σ) H locs) (hl : lv_has ls 7 [(4, .int (nI i)), (0, .ref b), (1, .ref (ad 0)), (2, .ref (ad 406)), (3, .ref (ad 405))]) (hc : cells + 2 ≤ 601024) (hs : slots + 12 ≤ 7293034) (kk : ∀ (σ' : St) (H : Heap) (locs : List Loc) (ls : Array Slot), LI (τ + 75651) σ' → wo D A s.heap 412 ad (cE (lE g T ad) σ') H locs → lv_has ls 7 [(4, .int (nI i)), (0, .ref b), (1, .ref (ad 0)), (2, .ref (ad 406)), (3, .ref (ad 405))] → W p l e room_1 s m #[.ref b] below meth c H locs (cells + 2) (slots + 12) Qw (F0 m 1589 ls [])) : W p l e room_1 s m #[.ref b] below meth c H locs cells slots Qw (F0 m 872 ls []) := by
  have hx := Z.1.1
  have hb := Z.1.2.1
  refine lv_aload_n hx hb dL_law_872 rfl (lv_at hl 2 rfl) ?_
  refine lv_aload_n hx hb dL_law_873 rfl (lv_at hl 1 rfl) ?_
  refine lv_iload hx hb dL_law_874 (lv_at hl 0 rfl) ?_
  refine lv_iconst (v := 1) hx hb dL_law_876 (by decide +kernel) ?_
  refine lv_iadd hx hb dL_law_877 ?_
  refine sS (k := i + 1) Z hX hbl hbA hw (nI_add (a := i) (b := 1)) (by omega) hL dL_law_878 ?_
  refine lv_aload_n hx hb dL_law_879 rfl (lv_at hl 1 rfl) ?_
  refine lv_iload hx hb dL_law_880 (lv_at hl 0 rfl) ?_
  refine lv_iconst (v := 2) hx hb dL_law_882 (by decide +kernel) ?_
  refine lv_iadd hx hb dL_law_883 ?_
  refine sS (k := i + 2) Z hX hbl hbA hw (nI_add (a := i) (b := 2)) (by omega) hL dL_law_884 ?_
  refine lv_aload_n hx hb dL_law_885 rfl (lv_at hl 1 rfl) ?_
  refine lv_iload hx hb dL_law_886 (lv_at hl 0 rfl) ?_
  refine lv_iconst (v := 3) hx hb dL_law_888 (by decide +kernel) ?_
  refine lv_iadd hx hb dL_law_889 ?_
  refine sS (k := i + 3) Z hX hbl hbA hw (nI_add (a := i) (b := 3)) (by omega) hL dL_law_890 ?_
  refine lv_aload_n hx hb dL_law_891 rfl (lv_at hl 4 rfl) ?_
  have hA := api_law (σ := σ) (a_section I.2.2 (xs (i + 1)) (xs (i + 2)) (xs (i + 3)))
  refine bs_i prtW (rnW (rest := []) Z (prtW.sub hw) hT hN (k_L_section hfl (σ := σ) (p1 := (xs (i + 1))) (p2 := (xs (i + 2))) (p3 := (xs (i + 3))) I.1 hA.1) v_L_section rfl q_4_84 hl.1 rfl rfl (Nat.le_of_ble_eq_true rfl) ⟨Nat.le_of_ble_eq_true rfl, Nat.le_of_ble_eq_true rfl⟩ ⟨Nat.le_trans (Nat.add_le_add_left (Nat.le_of_ble_eq_true rfl) _) hc, Nat.le_trans (Nat.add_le_add_left (Nat.le_of_ble_eq_true rfl) _) hs⟩ dL_law_892) hw Z (fun r5 u H locs hp hw => ?_)
  obtain ⟨er5, eu, Iu⟩ := hp
  have er5 : (wr w12 σ (f_X8_section σ (xs (i + 1)) (xs (i + 2)) (xs (i + 3)))).1 = r5 := er5
  have eu : (wr w12 σ (f_X8_section σ (xs (i + 1)) (xs (i + 2)) (xs (i + 3)))).2 = u := eu
  rw [er5, eu] at hA
  refine lv_istore (lv' := [(5, .int r5), (4, .int (nI i)), (0, .ref b), (1, .ref (ad 0)), (2, .ref (ad 406)), (3, .ref (ad 405))]) hx hb dL_law_895 hl (by decide) rfl (fun ls hl => ?_)
  refine lv_aload_n hx hb dL_law_897 rfl (lv_at hl 4 rfl) ?_
  refine lv_aload_n hx hb dL_law_898 rfl (lv_at hl 2 rfl) ?_
  refine lv_iload hx hb dL_law_899 (lv_at hl 1 rfl) ?_
  refine lv_iconst (v := 1) hx hb dL_law_901 (by decide +kernel) ?_
  refine lv_iadd hx hb dL_law_902 ?_
  refine sS (k := i + 1) Z hX hbl hbA hw (nI_add (a := i) (b := 1)) (by omega) hL dL_law_903 ?_
  refine lv_aload_n hx hb dL_law_904 rfl (lv_at hl 2 rfl) ?_
  refine lv_iload hx hb dL_law_905 (lv_at hl 1 rfl) ?_
  refine lv_iconst (v := 2) hx hb dL_law_907 (by decide +kernel) ?_
  refine lv_iadd hx hb dL_law_908 ?_
  refine sS (k := i + 2) Z hX hbl hbA hw (nI_add (a := i) (b := 2)) (by omega) hL dL_law_909 ?_
  refine lv_aload_n hx hb dL_law_910 rfl (lv_at hl 2 rfl) ?_
  refine lv_iload hx hb dL_law_911 (lv_at hl 1 rfl) ?_
  refine lv_iconst (v := 3) hx hb dL_law_913 (by decide +kernel) ?_
  refine lv_iadd hx hb dL_law_914 ?_
  refine sS (k := i + 3) Z hX hbl hbA hw (nI_add (a := i) (b := 3)) (by omega) hL dL_law_915 ?_
  have ID : InvD (sb gmD (mg giW σ u)) := by rw [sbD_W]; exact I.2.1
  refine bs_i prtD (rnV (rest := []) Z (prtD.sub hw) (k_X9_section (p1 := (xs (i + 1))) (p2 := (xs (i + 2))) (p3 := (xs (i + 3))) ID) v_X9_section q_5_210 0 (by decide) rfl rfl rfl rfl hl.1 rfl rfl (Nat.le_of_ble_eq_true rfl) ⟨Nat.le_of_ble_eq_true rfl, Nat.le_of_ble_eq_true rfl⟩ ⟨rc2 hc (Nat.le_of_ble_eq_true rfl), rc2 hs (Nat.le_of_ble_eq_true rfl)⟩ dL_law_916) hw Z (fun r6 u9 H locs hp hw => ?_)
  obtain ⟨er6, eu9, I9⟩ := hp
  rw [sbD_W] at er6 eu9
  rw [er6, eu9] at hA
  refine lv_istore (lv' := [(6, .int r6), (5, .int r5), (4, .int (nI i)), (0, .ref b), (1, .ref (ad 0)), (2, .ref (ad 406)), (3, .ref (ad 405))]) hx hb dL_law_919 hl (by decide) rfl (fun ls hl => ?_)
  refine lv_aload_n hx hb dL_law_921 rfl (lv_at hl 5 rfl) ?_
  refine bs_ip prtD (rnV (rest := []) Z (prtD.sub hw) (k_X9_thrown (I9.lo (fun k hk => sbD_D hk))) v_X9_thrown q_5_9 0 (by decide) rfl rfl rfl rfl hl.1 rfl rfl (Nat.le_of_ble_eq_true rfl) ⟨Nat.le_of_ble_eq_true rfl, Nat.le_of_ble_eq_true rfl⟩ ⟨rc3 hc (Nat.le_of_ble_eq_true rfl), rc3 hs (Nat.le_of_ble_eq_true rfl)⟩ dL_law_922) hw Z (fun r7 er7 H locs hw => ?_)
  have er7 : u9 0 4 = r7 := er7
  refine lv_iload hx hb dL_law_925 (lv_at hl 1 rfl) ?_
  refine lv_icmp_eq (tgt := 932) hx hb dL_law_927 (by decide) (fun q5 => ?_) (fun q5 => ?_)
  rotate_left
  · exact absurd (er7.symm.trans hA.2.1.symm) q5
  refine lv_iload hx hb dL_law_932 (lv_at hl 1 rfl) ?_
  refine lv_if_ne (tgt := 949) hx hb dL_law_934 (by decide) (fun q6 => ?_) (fun q6 => ?_)
  · refine lv_goto (tgt := 1589) hx hb dL_law_949 (by decide) ?_
    exact W.widen (rw3 (k := 2) (Nat.le_of_ble_eq_true rfl)) (rw3 (k := 12) (Nat.le_of_ble_eq_true rfl)) (kk _ H locs ls (LI.mk (u := u9) Iu I9 (hA.2.2.2.mono (by omega)) (fun k hk => mgW hk) rfl) hw (lv_sub hl [2, 3, 4, 5, 6] rfl))
  refine lv_aload_n hx hb dL_law_937 rfl (lv_at hl 6 rfl) ?_
  refine lv_iconst (v := 0) hx hb dL_law_938 (by decide +kernel) ?_
  refine lD Z hw rfl dL_law_939 ?_
  refine lv_iload hx hb dL_law_940 (lv_at hl 0 rfl) ?_
  refine lv_i2l (v := r6.toInt64) hx hb dL_law_942 rfl ?_
  refine lv_lcmp hx hb dL_law_943 ?_
  refine lv_if_eq (tgt := 949) hx hb dL_law_944 (by decide) (fun q7 => ?_) (fun q7 => ?_)
  rotate_left
  · exact absurd (lc_0.mpr (hA.2.2.1 q6)) q7
  refine lv_goto (tgt := 1589) hx hb dL_law_949 (by decide) ?_
  exact W.widen (rw3 (k := 2) (Nat.le_of_ble_eq_true rfl)) (rw3 (k := 12) (Nat.le_of_ble_eq_true rfl)) (kk _ H locs ls (LI.mk (u := u9) Iu I9 (hA.2.2.2.mono (by omega)) (fun k hk => mgW hk) rfl) hw (lv_sub hl [2, 3, 4, 5, 6] rfl))
theorem v_L_stack : cvW yL_stack cL_stack 4 [(0, 9, 12, 13)] 3 := ⟨q_4_93, q_1_0, q_4_94, by decide +kernel, by decide +kernel, by decide +kernel⟩
set_option maxHeartbeats 4000000 in
set_option maxRecDepth 100000 in
theorem B_11 {p : Program} {l : Launch} {e : Env} {s : State} {m : MethodId} {below : List Frame} {meth : Method} {c : Code} {A : Nat → Prop} {H : Heap} {locs : List Loc} {ls : Array Slot} {D : va_G} {T : Nat → ClassId} {g ad : Nat → Nat} {b L i cells slots : Nat} {xs : Nat → Int32} {σ : St} {τ : Int} {Qw : State → Prop} (hfl : l.stackTraces = false) (Z : en p m c cL_law 7 s #[.ref b] "NestedBellsLaw" D T g A) (hT : tW s) (hN : nCs s) (hX : va_X b L xs s s.heap) (hbl : b < s.heap.size) (hbA : ¬ A b) (hL : L ≤ 2560) (hi : i + 5 ≤ L) (h0 : 0 ≤ τ) (ht : τ + 75651 < 2147483000) (I : LI τ σ) (hw : wo D A s.heap 412 ad (cE (lE g T ad) σ) H locs) (hl : lv_has ls 7 [(4, .int (nI i)), (0, .ref b), (1, .ref (ad 0)), (2, .ref (ad 406)), (3, .ref (ad 405))]) (hc : cells + 2 ≤ 601024) (hs : slots + 12 ≤ 7293034) (kk : ∀ (σ' : St) (H : Heap) (locs : List Loc) (ls : Array Slot), LI (τ + 75651) σ' → wo D A s.heap 412 ad (cE (lE g T ad) σ') H locs → lv_has ls 7 [(4, .int (nI i)), (0, .ref b), (1, .ref (ad 0)), (2, .ref (ad 406)), (3, .ref (ad 405))] → W p l e room_1 s m #[.ref b] below meth c H locs (cells + 2) (slots + 12) Qw (F0 m 1589 ls [])) : W p l e room_1 s m #[.ref b] below meth c H locs cells slots Qw (F0 m 952 ls []) := by
  have hx := Z.1.1
  have hb := Z.1.2.1
  refine lv_aload_n hx hb dL_law_952 rfl (lv_at hl 2 rfl) ?_
  refine lv_aload_n hx hb dL_law_953 rfl (lv_at hl 1 rfl) ?_
  refine lv_iload hx hb dL_law_954 (lv_at hl 0 rfl) ?_
  refine lv_iconst (v := 1) hx hb dL_law_956 (by decide +kernel) ?_
  refine lv_iadd hx hb dL_law_957 ?_
  refine sS (k := i + 1) Z hX hbl hbA hw (nI_add (a := i) (b := 1)) (by omega) hL dL_law_958 ?_
  refine lv_aload_n hx hb dL_law_959 rfl (lv_at hl 4 rfl) ?_
  have hA := api_law (σ := σ) (a_stack I.2.2 (xs (i + 1)))
  refine bs_i prtW (rnW (rest := []) Z (prtW.sub hw) hT hN (k_L_stack hfl (σ := σ) (p1 := (xs (i + 1))) I.1 hA.1) v_L_stack rfl q_4_92 hl.1 rfl rfl (Nat.le_of_ble_eq_true rfl) ⟨Nat.le_of_ble_eq_true rfl, Nat.le_of_ble_eq_true rfl⟩ ⟨Nat.le_trans (Nat.add_le_add_left (Nat.le_of_ble_eq_true rfl) _) hc, Nat.le_trans (Nat.add_le_add_left (Nat.le_of_ble_eq_true rfl) _) hs⟩ dL_law_960) hw Z (fun r5 u H locs hp hw => ?_)
  obtain ⟨er5, eu, Iu⟩ := hp
  have er5 : (wr w2 σ (f_X8_stack σ (xs (i + 1)))).1 = r5 := er5
  have eu : (wr w2 σ (f_X8_stack σ (xs (i + 1)))).2 = u := eu
  rw [er5, eu] at hA
  refine lv_istore (lv' := [(5, .int r5), (4, .int (nI i)), (0, .ref b), (1, .ref (ad 0)), (2, .ref (ad 406)), (3, .ref (ad 405))]) hx hb dL_law_963 hl (by decide) rfl (fun ls hl => ?_)
  refine lv_aload_n hx hb dL_law_965 rfl (lv_at hl 4 rfl) ?_
  refine lv_aload_n hx hb dL_law_966 rfl (lv_at hl 2 rfl) ?_
  refine lv_iload hx hb dL_law_967 (lv_at hl 1 rfl) ?_
  refine lv_iconst (v := 1) hx hb dL_law_969 (by decide +kernel) ?_
  refine lv_iadd hx hb dL_law_970 ?_
  refine sS (k := i + 1) Z hX hbl hbA hw (nI_add (a := i) (b := 1)) (by omega) hL dL_law_971 ?_
  have ID : InvD (sb gmD (mg giW σ u)) := by rw [sbD_W]; exact I.2.1
  refine bs_i prtD (rnV (rest := []) Z (prtD.sub hw) (k_X9_stack (p1 := (xs (i + 1))) ID) v_X9_stack q_5_218 0 (by decide) rfl rfl rfl rfl hl.1 rfl rfl (Nat.le_of_ble_eq_true rfl) ⟨Nat.le_of_ble_eq_true rfl, Nat.le_of_ble_eq_true rfl⟩ ⟨rc2 hc (Nat.le_of_ble_eq_true rfl), rc2 hs (Nat.le_of_ble_eq_true rfl)⟩ dL_law_972) hw Z (fun r6 u9 H locs hp hw => ?_)
  obtain ⟨er6, eu9, I9⟩ := hp
  rw [sbD_W] at er6 eu9
  rw [er6, eu9] at hA
  refine lv_istore (lv' := [(6, .int r6), (5, .int r5), (4, .int (nI i)), (0, .ref b), (1, .ref (ad 0)), (2, .ref (ad 406)), (3, .ref (ad 405))]) hx hb dL_law_975 hl (by decide) rfl (fun ls hl => ?_)
  refine lv_aload_n hx hb dL_law_977 rfl (lv_at hl 5 rfl) ?_
  refine bs_ip prtD (rnV (rest := []) Z (prtD.sub hw) (k_X9_thrown (I9.lo (fun k hk => sbD_D hk))) v_X9_thrown q_5_9 0 (by decide) rfl rfl rfl rfl hl.1 rfl rfl (Nat.le_of_ble_eq_true rfl) ⟨Nat.le_of_ble_eq_true rfl, Nat.le_of_ble_eq_true rfl⟩ ⟨rc3 hc (Nat.le_of_ble_eq_true rfl), rc3 hs (Nat.le_of_ble_eq_true rfl)⟩ dL_law_978) hw Z (fun r7 er7 H locs hw => ?_)
  have er7 : u9 0 4 = r7 := er7
  refine lv_iload hx hb dL_law_981 (lv_at hl 1 rfl) ?_
  refine lv_icmp_eq (tgt := 988) hx hb dL_law_983 (by decide) (fun q5 => ?_) (fun q5 => ?_)
  rotate_left
  · exact absurd (er7.symm.trans hA.2.1.symm) q5
  refine lv_iload hx hb dL_law_988 (lv_at hl 1 rfl) ?_
  refine lv_if_ne (tgt := 1005) hx hb dL_law_990 (by decide) (fun q6 => ?_) (fun q6 => ?_)
  · refine lv_goto (tgt := 1589) hx hb dL_law_1005 (by decide) ?_
    exact W.widen (rw3 (k := 2) (Nat.le_of_ble_eq_true rfl)) (rw3 (k := 12) (Nat.le_of_ble_eq_true rfl)) (kk _ H locs ls (LI.mk (u := u9) Iu I9 (hA.2.2.2.mono (by omega)) (fun k hk => mgW hk) rfl) hw (lv_sub hl [2, 3, 4, 5, 6] rfl))
  refine lv_aload_n hx hb dL_law_993 rfl (lv_at hl 6 rfl) ?_
  refine lv_iconst (v := 0) hx hb dL_law_994 (by decide +kernel) ?_
  refine lD Z hw rfl dL_law_995 ?_
  refine lv_iload hx hb dL_law_996 (lv_at hl 0 rfl) ?_
  refine lv_i2l (v := r6.toInt64) hx hb dL_law_998 rfl ?_
  refine lv_lcmp hx hb dL_law_999 ?_
  refine lv_if_eq (tgt := 1005) hx hb dL_law_1000 (by decide) (fun q7 => ?_) (fun q7 => ?_)
  rotate_left
  · exact absurd (lc_0.mpr (hA.2.2.1 q6)) q7
  refine lv_goto (tgt := 1589) hx hb dL_law_1005 (by decide) ?_
  exact W.widen (rw3 (k := 2) (Nat.le_of_ble_eq_true rfl)) (rw3 (k := 12) (Nat.le_of_ble_eq_true rfl)) (kk _ H locs ls (LI.mk (u := u9) Iu I9 (hA.2.2.2.mono (by omega)) (fun k hk => mgW hk) rfl) hw (lv_sub hl [2, 3, 4, 5, 6] rfl))
theorem v_L_processor : cvW yL_processor cL_processor 4 [(0, 9, 12, 13)] 3 := ⟨q_4_100, q_1_0, q_4_101, by decide +kernel, by decide +kernel, by decide +kernel⟩
set_option maxHeartbeats 4000000 in
set_option maxRecDepth 100000 in
theorem B_12 {p : Program} {l : Launch} {e : Env} {s : State} {m : MethodId} {below : List Frame} {meth : Method} {c : Code} {A : Nat → Prop} {H : Heap} {locs : List Loc} {ls : Array Slot} {D : va_G} {T : Nat → ClassId} {g ad : Nat → Nat} {b L i cells slots : Nat} {xs : Nat → Int32} {σ : St} {τ : Int} {Qw : State → Prop} (hfl : l.stackTraces = false) (Z : en p m c cL_law 7 s #[.ref b] "NestedBellsLaw" D T g A) (hT : tW s) (hN : nCs s) (hX : va_X b L xs s s.heap) (hbl : b < s.heap.size) (hbA : ¬ A b) (hL : L ≤ 2560) (hi : i + 5 ≤ L) (h0 : 0 ≤ τ) (ht : τ + 75651 < 2147483000) (I : LI τ σ) (hw : wo D A s.heap 412 ad (cE (lE g T ad) σ) H locs) (hl : lv_has ls 7 [(4, .int (nI i)), (0, .ref b), (1, .ref (ad 0)), (2, .ref (ad 406)), (3, .ref (ad 405))]) (hc : cells + 2 ≤ 601024) (hs : slots + 12 ≤ 7293034) (kk : ∀ (σ' : St) (H : Heap) (locs : List Loc) (ls : Array Slot), LI (τ + 75651) σ' → wo D A s.heap 412 ad (cE (lE g T ad) σ') H locs → lv_has ls 7 [(4, .int (nI i)), (0, .ref b), (1, .ref (ad 0)), (2, .ref (ad 406)), (3, .ref (ad 405))] → W p l e room_1 s m #[.ref b] below meth c H locs (cells + 2) (slots + 12) Qw (F0 m 1589 ls [])) : W p l e room_1 s m #[.ref b] below meth c H locs cells slots Qw (F0 m 1008 ls []) := by
  have hx := Z.1.1
  have hb := Z.1.2.1
  refine lv_aload_n hx hb dL_law_1008 rfl (lv_at hl 2 rfl) ?_
  refine lv_aload_n hx hb dL_law_1009 rfl (lv_at hl 1 rfl) ?_
  refine lv_iload hx hb dL_law_1010 (lv_at hl 0 rfl) ?_
  refine lv_iconst (v := 1) hx hb dL_law_1012 (by decide +kernel) ?_
  refine lv_iadd hx hb dL_law_1013 ?_
  refine sS (k := i + 1) Z hX hbl hbA hw (nI_add (a := i) (b := 1)) (by omega) hL dL_law_1014 ?_
  refine lv_aload_n hx hb dL_law_1015 rfl (lv_at hl 4 rfl) ?_
  have hA := api_law (σ := σ) (a_processor I.2.2 (xs (i + 1)))
  refine bs_i prtW (rnW (rest := []) Z (prtW.sub hw) hT hN (k_L_processor hfl (σ := σ) (p1 := (xs (i + 1))) I.1 hA.1) v_L_processor rfl q_4_99 hl.1 rfl rfl (Nat.le_of_ble_eq_true rfl) ⟨Nat.le_of_ble_eq_true rfl, Nat.le_of_ble_eq_true rfl⟩ ⟨Nat.le_trans (Nat.add_le_add_left (Nat.le_of_ble_eq_true rfl) _) hc, Nat.le_trans (Nat.add_le_add_left (Nat.le_of_ble_eq_true rfl) _) hs⟩ dL_law_1016) hw Z (fun r5 u H locs hp hw => ?_)
  obtain ⟨er5, eu, Iu⟩ := hp
  have er5 : (wr w2 σ (f_X8_processor σ (xs (i + 1)))).1 = r5 := er5
  have eu : (wr w2 σ (f_X8_processor σ (xs (i + 1)))).2 = u := eu
  rw [er5, eu] at hA
  refine lv_istore (lv' := [(5, .int r5), (4, .int (nI i)), (0, .ref b), (1, .ref (ad 0)), (2, .ref (ad 406)), (3, .ref (ad 405))]) hx hb dL_law_1019 hl (by decide) rfl (fun ls hl => ?_)
  refine lv_aload_n hx hb dL_law_1021 rfl (lv_at hl 4 rfl) ?_
  refine lv_aload_n hx hb dL_law_1022 rfl (lv_at hl 2 rfl) ?_
  refine lv_iload hx hb dL_law_1023 (lv_at hl 1 rfl) ?_
  refine lv_iconst (v := 1) hx hb dL_law_1025 (by decide +kernel) ?_
  refine lv_iadd hx hb dL_law_1026 ?_
  refine sS (k := i + 1) Z hX hbl hbA hw (nI_add (a := i) (b := 1)) (by omega) hL dL_law_1027 ?_
  have ID : InvD (sb gmD (mg giW σ u)) := by rw [sbD_W]; exact I.2.1
  refine bs_i prtD (rnV (rest := []) Z (prtD.sub hw) (k_X9_processor (p1 := (xs (i + 1))) ID) v_X9_processor q_5_222 0 (by decide) rfl rfl rfl rfl hl.1 rfl rfl (Nat.le_of_ble_eq_true rfl) ⟨Nat.le_of_ble_eq_true rfl, Nat.le_of_ble_eq_true rfl⟩ ⟨rc2 hc (Nat.le_of_ble_eq_true rfl), rc2 hs (Nat.le_of_ble_eq_true rfl)⟩ dL_law_1028) hw Z (fun r6 u9 H locs hp hw => ?_)
  obtain ⟨er6, eu9, I9⟩ := hp
  rw [sbD_W] at er6 eu9
  rw [er6, eu9] at hA
  refine lv_istore (lv' := [(6, .int r6), (5, .int r5), (4, .int (nI i)), (0, .ref b), (1, .ref (ad 0)), (2, .ref (ad 406)), (3, .ref (ad 405))]) hx hb dL_law_1031 hl (by decide) rfl (fun ls hl => ?_)
  refine lv_aload_n hx hb dL_law_1033 rfl (lv_at hl 5 rfl) ?_
  refine bs_ip prtD (rnV (rest := []) Z (prtD.sub hw) (k_X9_thrown (I9.lo (fun k hk => sbD_D hk))) v_X9_thrown q_5_9 0 (by decide) rfl rfl rfl rfl hl.1 rfl rfl (Nat.le_of_ble_eq_true rfl) ⟨Nat.le_of_ble_eq_true rfl, Nat.le_of_ble_eq_true rfl⟩ ⟨rc3 hc (Nat.le_of_ble_eq_true rfl), rc3 hs (Nat.le_of_ble_eq_true rfl)⟩ dL_law_1034) hw Z (fun r7 er7 H locs hw => ?_)
  have er7 : u9 0 4 = r7 := er7
  refine lv_iload hx hb dL_law_1037 (lv_at hl 1 rfl) ?_
  refine lv_icmp_eq (tgt := 1044) hx hb dL_law_1039 (by decide) (fun q5 => ?_) (fun q5 => ?_)
  rotate_left
  · exact absurd (er7.symm.trans hA.2.1.symm) q5
  refine lv_iload hx hb dL_law_1044 (lv_at hl 1 rfl) ?_
  refine lv_if_ne (tgt := 1061) hx hb dL_law_1046 (by decide) (fun q6 => ?_) (fun q6 => ?_)
  · refine lv_goto (tgt := 1589) hx hb dL_law_1061 (by decide) ?_
    exact W.widen (rw3 (k := 2) (Nat.le_of_ble_eq_true rfl)) (rw3 (k := 12) (Nat.le_of_ble_eq_true rfl)) (kk _ H locs ls (LI.mk (u := u9) Iu I9 (hA.2.2.2.mono (by omega)) (fun k hk => mgW hk) rfl) hw (lv_sub hl [2, 3, 4, 5, 6] rfl))
  refine lv_aload_n hx hb dL_law_1049 rfl (lv_at hl 6 rfl) ?_
  refine lv_iconst (v := 0) hx hb dL_law_1050 (by decide +kernel) ?_
  refine lD Z hw rfl dL_law_1051 ?_
  refine lv_iload hx hb dL_law_1052 (lv_at hl 0 rfl) ?_
  refine lv_i2l (v := r6.toInt64) hx hb dL_law_1054 rfl ?_
  refine lv_lcmp hx hb dL_law_1055 ?_
  refine lv_if_eq (tgt := 1061) hx hb dL_law_1056 (by decide) (fun q7 => ?_) (fun q7 => ?_)
  rotate_left
  · exact absurd (lc_0.mpr (hA.2.2.1 q6)) q7
  refine lv_goto (tgt := 1589) hx hb dL_law_1061 (by decide) ?_
  exact W.widen (rw3 (k := 2) (Nat.le_of_ble_eq_true rfl)) (rw3 (k := 12) (Nat.le_of_ble_eq_true rfl)) (kk _ H locs ls (LI.mk (u := u9) Iu I9 (hA.2.2.2.mono (by omega)) (fun k hk => mgW hk) rfl) hw (lv_sub hl [2, 3, 4, 5, 6] rfl))
theorem v_L_account : cvW yL_account cL_account 4 [(0, 9, 12, 13)] 3 := ⟨q_4_107, q_1_0, q_4_108, by decide +kernel, by decide +kernel, by decide +kernel⟩
set_option maxHeartbeats 4000000 in
set_option maxRecDepth 100000 in
theorem B_13 {p : Program} {l : Launch} {e : Env} {s : State} {m : MethodId} {below : List Frame} {meth : Method} {c : Code} {A : Nat → Prop} {H : Heap} {locs : List Loc} {ls : Array Slot} {D : va_G} {T : Nat → ClassId} {g ad : Nat → Nat} {b L i cells slots : Nat} {xs : Nat → Int32} {σ : St} {τ : Int} {Qw : State → Prop} (hfl : l.stackTraces = false) (Z : en p m c cL_law 7 s #[.ref b] "NestedBellsLaw" D T g A) (hT : tW s) (hN : nCs s) (hX : va_X b L xs s s.heap) (hbl : b < s.heap.size) (hbA : ¬ A b) (hL : L ≤ 2560) (hi : i + 5 ≤ L) (h0 : 0 ≤ τ) (ht : τ + 75651 < 2147483000) (I : LI τ σ) (hw : wo D A s.heap 412 ad (cE (lE g T ad) σ) H locs) (hl : lv_has ls 7 [(4, .int (nI i)), (0, .ref b), (1, .ref (ad 0)), (2, .ref (ad 406)), (3, .ref (ad 405))]) (hc : cells + 2 ≤ 601024) (hs : slots + 12 ≤ 7293034) (kk : ∀ (σ' : St) (H : Heap) (locs : List Loc) (ls : Array Slot), LI (τ + 75651) σ' → wo D A s.heap 412 ad (cE (lE g T ad) σ') H locs → lv_has ls 7 [(4, .int (nI i)), (0, .ref b), (1, .ref (ad 0)), (2, .ref (ad 406)), (3, .ref (ad 405))] → W p l e room_1 s m #[.ref b] below meth c H locs (cells + 2) (slots + 12) Qw (F0 m 1589 ls [])) : W p l e room_1 s m #[.ref b] below meth c H locs cells slots Qw (F0 m 1064 ls []) := by
  have hx := Z.1.1
  have hb := Z.1.2.1
  refine lv_aload_n hx hb dL_law_1064 rfl (lv_at hl 2 rfl) ?_
  refine lv_aload_n hx hb dL_law_1065 rfl (lv_at hl 1 rfl) ?_
  refine lv_iload hx hb dL_law_1066 (lv_at hl 0 rfl) ?_
  refine lv_iconst (v := 1) hx hb dL_law_1068 (by decide +kernel) ?_
  refine lv_iadd hx hb dL_law_1069 ?_
  refine sS (k := i + 1) Z hX hbl hbA hw (nI_add (a := i) (b := 1)) (by omega) hL dL_law_1070 ?_
  refine lv_aload_n hx hb dL_law_1071 rfl (lv_at hl 4 rfl) ?_
  have hA := api_law (σ := σ) (a_account I.2.2 (xs (i + 1)))
  refine bs_i prtW (rnW (rest := []) Z (prtW.sub hw) hT hN (k_L_account hfl (σ := σ) (p1 := (xs (i + 1))) I.1 hA.1) v_L_account rfl q_4_106 hl.1 rfl rfl (Nat.le_of_ble_eq_true rfl) ⟨Nat.le_of_ble_eq_true rfl, Nat.le_of_ble_eq_true rfl⟩ ⟨Nat.le_trans (Nat.add_le_add_left (Nat.le_of_ble_eq_true rfl) _) hc, Nat.le_trans (Nat.add_le_add_left (Nat.le_of_ble_eq_true rfl) _) hs⟩ dL_law_1072) hw Z (fun r5 u H locs hp hw => ?_)
  obtain ⟨er5, eu, Iu⟩ := hp
  have er5 : (wr w2 σ (f_X8_account σ (xs (i + 1)))).1 = r5 := er5
  have eu : (wr w2 σ (f_X8_account σ (xs (i + 1)))).2 = u := eu
  rw [er5, eu] at hA
  refine lv_istore (lv' := [(5, .int r5), (4, .int (nI i)), (0, .ref b), (1, .ref (ad 0)), (2, .ref (ad 406)), (3, .ref (ad 405))]) hx hb dL_law_1075 hl (by decide) rfl (fun ls hl => ?_)
  refine lv_aload_n hx hb dL_law_1077 rfl (lv_at hl 4 rfl) ?_
  refine lv_aload_n hx hb dL_law_1078 rfl (lv_at hl 2 rfl) ?_
  refine lv_iload hx hb dL_law_1079 (lv_at hl 1 rfl) ?_
  refine lv_iconst (v := 1) hx hb dL_law_1081 (by decide +kernel) ?_
  refine lv_iadd hx hb dL_law_1082 ?_
  refine sS (k := i + 1) Z hX hbl hbA hw (nI_add (a := i) (b := 1)) (by omega) hL dL_law_1083 ?_
  have ID : InvD (sb gmD (mg giW σ u)) := by rw [sbD_W]; exact I.2.1
  refine bs_i prtD (rnV (rest := []) Z (prtD.sub hw) (k_X9_account (p1 := (xs (i + 1))) ID) v_X9_account q_5_230 0 (by decide) rfl rfl rfl rfl hl.1 rfl rfl (Nat.le_of_ble_eq_true rfl) ⟨Nat.le_of_ble_eq_true rfl, Nat.le_of_ble_eq_true rfl⟩ ⟨rc2 hc (Nat.le_of_ble_eq_true rfl), rc2 hs (Nat.le_of_ble_eq_true rfl)⟩ dL_law_1084) hw Z (fun r6 u9 H locs hp hw => ?_)
  obtain ⟨er6, eu9, I9⟩ := hp
  rw [sbD_W] at er6 eu9
  rw [er6, eu9] at hA
  refine lv_istore (lv' := [(6, .int r6), (5, .int r5), (4, .int (nI i)), (0, .ref b), (1, .ref (ad 0)), (2, .ref (ad 406)), (3, .ref (ad 405))]) hx hb dL_law_1087 hl (by decide) rfl (fun ls hl => ?_)
  refine lv_aload_n hx hb dL_law_1089 rfl (lv_at hl 5 rfl) ?_
  refine bs_ip prtD (rnV (rest := []) Z (prtD.sub hw) (k_X9_thrown (I9.lo (fun k hk => sbD_D hk))) v_X9_thrown q_5_9 0 (by decide) rfl rfl rfl rfl hl.1 rfl rfl (Nat.le_of_ble_eq_true rfl) ⟨Nat.le_of_ble_eq_true rfl, Nat.le_of_ble_eq_true rfl⟩ ⟨rc3 hc (Nat.le_of_ble_eq_true rfl), rc3 hs (Nat.le_of_ble_eq_true rfl)⟩ dL_law_1090) hw Z (fun r7 er7 H locs hw => ?_)
  have er7 : u9 0 4 = r7 := er7
  refine lv_iload hx hb dL_law_1093 (lv_at hl 1 rfl) ?_
  refine lv_icmp_eq (tgt := 1100) hx hb dL_law_1095 (by decide) (fun q5 => ?_) (fun q5 => ?_)
  rotate_left
  · exact absurd (er7.symm.trans hA.2.1.symm) q5
  refine lv_iload hx hb dL_law_1100 (lv_at hl 1 rfl) ?_
  refine lv_if_ne (tgt := 1117) hx hb dL_law_1102 (by decide) (fun q6 => ?_) (fun q6 => ?_)
  · refine lv_goto (tgt := 1589) hx hb dL_law_1117 (by decide) ?_
    exact W.widen (rw3 (k := 2) (Nat.le_of_ble_eq_true rfl)) (rw3 (k := 12) (Nat.le_of_ble_eq_true rfl)) (kk _ H locs ls (LI.mk (u := u9) Iu I9 (hA.2.2.2.mono (by omega)) (fun k hk => mgW hk) rfl) hw (lv_sub hl [2, 3, 4, 5, 6] rfl))
  refine lv_aload_n hx hb dL_law_1105 rfl (lv_at hl 6 rfl) ?_
  refine lv_iconst (v := 0) hx hb dL_law_1106 (by decide +kernel) ?_
  refine lD Z hw rfl dL_law_1107 ?_
  refine lv_iload hx hb dL_law_1108 (lv_at hl 0 rfl) ?_
  refine lv_i2l (v := r6.toInt64) hx hb dL_law_1110 rfl ?_
  refine lv_lcmp hx hb dL_law_1111 ?_
  refine lv_if_eq (tgt := 1117) hx hb dL_law_1112 (by decide) (fun q7 => ?_) (fun q7 => ?_)
  rotate_left
  · exact absurd (lc_0.mpr (hA.2.2.1 q6)) q7
  refine lv_goto (tgt := 1589) hx hb dL_law_1117 (by decide) ?_
  exact W.widen (rw3 (k := 2) (Nat.le_of_ble_eq_true rfl)) (rw3 (k := 12) (Nat.le_of_ble_eq_true rfl)) (kk _ H locs ls (LI.mk (u := u9) Iu I9 (hA.2.2.2.mono (by omega)) (fun k hk => mgW hk) rfl) hw (lv_sub hl [2, 3, 4, 5, 6] rfl))
theorem v_L_log : cvW yL_log cL_log 5 [(0, 10, 13, 13)] 4 := ⟨q_4_114, q_1_0, q_4_115, by decide +kernel, by decide +kernel, by decide +kernel⟩
set_option maxHeartbeats 4000000 in
set_option maxRecDepth 100000 in
theorem B_14 {p : Program} {l : Launch} {e : Env} {s : State} {m : MethodId} {below : List Frame} {meth : Method} {c : Code} {A : Nat → Prop} {H : Heap} {locs : List Loc} {ls : Array Slot} {D : va_G} {T : Nat → ClassId} {g ad : Nat → Nat} {b L i cells slots : Nat} {xs : Nat → Int32} {σ : St} {τ : Int} {Qw : State → Prop} (hfl : l.stackTraces = false) (Z : en p m c cL_law 7 s #[.ref b] "NestedBellsLaw" D T g A) (hT : tW s) (hN : nCs s) (hX : va_X b L xs s s.heap) (hbl : b < s.heap.size) (hbA : ¬ A b) (hL : L ≤ 2560) (hi : i + 5 ≤ L) (h0 : 0 ≤ τ) (ht : τ + 75651 < 2147483000) (I : LI τ σ) (hw : wo D A s.heap 412 ad (cE (lE g T ad) σ) H locs) (hl : lv_has ls 7 [(4, .int (nI i)), (0, .ref b), (1, .ref (ad 0)), (2, .ref (ad 406)), (3, .ref (ad 405))]) (hc : cells + 2 ≤ 601024) (hs : slots + 12 ≤ 7293034) (kk : ∀ (σ' : St) (H : Heap) (locs : List Loc) (ls : Array Slot), LI (τ + 75651) σ' → wo D A s.heap 412 ad (cE (lE g T ad) σ') H locs → lv_has ls 7 [(4, .int (nI i)), (0, .ref b), (1, .ref (ad 0)), (2, .ref (ad 406)), (3, .ref (ad 405))] → W p l e room_1 s m #[.ref b] below meth c H locs (cells + 2) (slots + 12) Qw (F0 m 1589 ls [])) : W p l e room_1 s m #[.ref b] below meth c H locs cells slots Qw (F0 m 1120 ls []) := by
  have hx := Z.1.1
  have hb := Z.1.2.1
  refine lv_aload_n hx hb dL_law_1120 rfl (lv_at hl 2 rfl) ?_
  refine lv_aload_n hx hb dL_law_1121 rfl (lv_at hl 1 rfl) ?_
  refine lv_iload hx hb dL_law_1122 (lv_at hl 0 rfl) ?_
  refine lv_iconst (v := 1) hx hb dL_law_1124 (by decide +kernel) ?_
  refine lv_iadd hx hb dL_law_1125 ?_
  refine sS (k := i + 1) Z hX hbl hbA hw (nI_add (a := i) (b := 1)) (by omega) hL dL_law_1126 ?_
  refine lv_aload_n hx hb dL_law_1127 rfl (lv_at hl 1 rfl) ?_
  refine lv_iload hx hb dL_law_1128 (lv_at hl 0 rfl) ?_
  refine lv_iconst (v := 2) hx hb dL_law_1130 (by decide +kernel) ?_
  refine lv_iadd hx hb dL_law_1131 ?_
  refine sS (k := i + 2) Z hX hbl hbA hw (nI_add (a := i) (b := 2)) (by omega) hL dL_law_1132 ?_
  refine lv_aload_n hx hb dL_law_1133 rfl (lv_at hl 4 rfl) ?_
  have hA := api_law (σ := σ) (a_log I.2.2 (xs (i + 1)) (xs (i + 2)))
  refine bs_i prtW (rnW (rest := []) Z (prtW.sub hw) hT hN (k_L_log hfl (σ := σ) (p1 := (xs (i + 1))) (p2 := (xs (i + 2))) I.1 hA.1) v_L_log rfl q_4_113 hl.1 rfl rfl (Nat.le_of_ble_eq_true rfl) ⟨Nat.le_of_ble_eq_true rfl, Nat.le_of_ble_eq_true rfl⟩ ⟨Nat.le_trans (Nat.add_le_add_left (Nat.le_of_ble_eq_true rfl) _) hc, Nat.le_trans (Nat.add_le_add_left (Nat.le_of_ble_eq_true rfl) _) hs⟩ dL_law_1134) hw Z (fun r5 u H locs hp hw => ?_)
  obtain ⟨er5, eu, Iu⟩ := hp
  have er5 : (wr w2 σ (f_X8_log σ (xs (i + 1)) (xs (i + 2)))).1 = r5 := er5
  have eu : (wr w2 σ (f_X8_log σ (xs (i + 1)) (xs (i + 2)))).2 = u := eu
  rw [er5, eu] at hA
  refine lv_istore (lv' := [(5, .int r5), (4, .int (nI i)), (0, .ref b), (1, .ref (ad 0)), (2, .ref (ad 406)), (3, .ref (ad 405))]) hx hb dL_law_1137 hl (by decide) rfl (fun ls hl => ?_)
  refine lv_aload_n hx hb dL_law_1139 rfl (lv_at hl 4 rfl) ?_
  refine lv_aload_n hx hb dL_law_1140 rfl (lv_at hl 2 rfl) ?_
  refine lv_iload hx hb dL_law_1141 (lv_at hl 1 rfl) ?_
  refine lv_iconst (v := 1) hx hb dL_law_1143 (by decide +kernel) ?_
  refine lv_iadd hx hb dL_law_1144 ?_
  refine sS (k := i + 1) Z hX hbl hbA hw (nI_add (a := i) (b := 1)) (by omega) hL dL_law_1145 ?_
  refine lv_aload_n hx hb dL_law_1146 rfl (lv_at hl 2 rfl) ?_
  refine lv_iload hx hb dL_law_1147 (lv_at hl 1 rfl) ?_
  refine lv_iconst (v := 2) hx hb dL_law_1149 (by decide +kernel) ?_
  refine lv_iadd hx hb dL_law_1150 ?_
  refine sS (k := i + 2) Z hX hbl hbA hw (nI_add (a := i) (b := 2)) (by omega) hL dL_law_1151 ?_
  have ID : InvD (sb gmD (mg giW σ u)) := by rw [sbD_W]; exact I.2.1
  refine bs_i prtD (rnV (rest := []) Z (prtD.sub hw) (k_X9_log (p1 := (xs (i + 1))) (p2 := (xs (i + 2))) ID) v_X9_log q_5_234 0 (by decide) rfl rfl rfl rfl hl.1 rfl rfl (Nat.le_of_ble_eq_true rfl) ⟨Nat.le_of_ble_eq_true rfl, Nat.le_of_ble_eq_true rfl⟩ ⟨rc2 hc (Nat.le_of_ble_eq_true rfl), rc2 hs (Nat.le_of_ble_eq_true rfl)⟩ dL_law_1152) hw Z (fun r6 u9 H locs hp hw => ?_)
  obtain ⟨er6, eu9, I9⟩ := hp
  rw [sbD_W] at er6 eu9
  rw [er6, eu9] at hA
  refine lv_istore (lv' := [(6, .int r6), (5, .int r5), (4, .int (nI i)), (0, .ref b), (1, .ref (ad 0)), (2, .ref (ad 406)), (3, .ref (ad 405))]) hx hb dL_law_1155 hl (by decide) rfl (fun ls hl => ?_)
  refine lv_aload_n hx hb dL_law_1157 rfl (lv_at hl 5 rfl) ?_
  refine bs_ip prtD (rnV (rest := []) Z (prtD.sub hw) (k_X9_thrown (I9.lo (fun k hk => sbD_D hk))) v_X9_thrown q_5_9 0 (by decide) rfl rfl rfl rfl hl.1 rfl rfl (Nat.le_of_ble_eq_true rfl) ⟨Nat.le_of_ble_eq_true rfl, Nat.le_of_ble_eq_true rfl⟩ ⟨rc3 hc (Nat.le_of_ble_eq_true rfl), rc3 hs (Nat.le_of_ble_eq_true rfl)⟩ dL_law_1158) hw Z (fun r7 er7 H locs hw => ?_)
  have er7 : u9 0 4 = r7 := er7
  refine lv_iload hx hb dL_law_1161 (lv_at hl 1 rfl) ?_
  refine lv_icmp_eq (tgt := 1168) hx hb dL_law_1163 (by decide) (fun q5 => ?_) (fun q5 => ?_)
  rotate_left
  · exact absurd (er7.symm.trans hA.2.1.symm) q5
  refine lv_iload hx hb dL_law_1168 (lv_at hl 1 rfl) ?_
  refine lv_if_ne (tgt := 1185) hx hb dL_law_1170 (by decide) (fun q6 => ?_) (fun q6 => ?_)
  · refine lv_goto (tgt := 1589) hx hb dL_law_1185 (by decide) ?_
    exact W.widen (rw3 (k := 2) (Nat.le_of_ble_eq_true rfl)) (rw3 (k := 12) (Nat.le_of_ble_eq_true rfl)) (kk _ H locs ls (LI.mk (u := u9) Iu I9 (hA.2.2.2.mono (by omega)) (fun k hk => mgW hk) rfl) hw (lv_sub hl [2, 3, 4, 5, 6] rfl))
  refine lv_aload_n hx hb dL_law_1173 rfl (lv_at hl 6 rfl) ?_
  refine lv_iconst (v := 0) hx hb dL_law_1174 (by decide +kernel) ?_
  refine lD Z hw rfl dL_law_1175 ?_
  refine lv_iload hx hb dL_law_1176 (lv_at hl 0 rfl) ?_
  refine lv_i2l (v := r6.toInt64) hx hb dL_law_1178 rfl ?_
  refine lv_lcmp hx hb dL_law_1179 ?_
  refine lv_if_eq (tgt := 1185) hx hb dL_law_1180 (by decide) (fun q7 => ?_) (fun q7 => ?_)
  rotate_left
  · exact absurd (lc_0.mpr (hA.2.2.1 q6)) q7
  refine lv_goto (tgt := 1589) hx hb dL_law_1185 (by decide) ?_
  exact W.widen (rw3 (k := 2) (Nat.le_of_ble_eq_true rfl)) (rw3 (k := 12) (Nat.le_of_ble_eq_true rfl)) (kk _ H locs ls (LI.mk (u := u9) Iu I9 (hA.2.2.2.mono (by omega)) (fun k hk => mgW hk) rfl) hw (lv_sub hl [2, 3, 4, 5, 6] rfl))
theorem v_L_entersAfter : cvW yL_entersAfter cL_entersAfter 5 [(0, 10, 13, 20), (0, 10, 17, 13)] 4 := ⟨q_4_121, q_1_0, q_4_122, by decide +kernel, by decide +kernel, by decide +kernel⟩
set_option maxHeartbeats 4000000 in
set_option maxRecDepth 100000 in
theorem B_15 {p : Program} {l : Launch} {e : Env} {s : State} {m : MethodId} {below : List Frame} {meth : Method} {c : Code} {A : Nat → Prop} {H : Heap} {locs : List Loc} {ls : Array Slot} {D : va_G} {T : Nat → ClassId} {g ad : Nat → Nat} {b L i cells slots : Nat} {xs : Nat → Int32} {σ : St} {τ : Int} {Qw : State → Prop} (hfl : l.stackTraces = false) (Z : en p m c cL_law 7 s #[.ref b] "NestedBellsLaw" D T g A) (hT : tW s) (hN : nCs s) (hX : va_X b L xs s s.heap) (hbl : b < s.heap.size) (hbA : ¬ A b) (hL : L ≤ 2560) (hi : i + 5 ≤ L) (h0 : 0 ≤ τ) (ht : τ + 75651 < 2147483000) (I : LI τ σ) (hw : wo D A s.heap 412 ad (cE (lE g T ad) σ) H locs) (hl : lv_has ls 7 [(4, .int (nI i)), (0, .ref b), (1, .ref (ad 0)), (2, .ref (ad 406)), (3, .ref (ad 405))]) (hc : cells + 2 ≤ 601024) (hs : slots + 12 ≤ 7293034) (kk : ∀ (σ' : St) (H : Heap) (locs : List Loc) (ls : Array Slot), LI (τ + 75651) σ' → wo D A s.heap 412 ad (cE (lE g T ad) σ') H locs → lv_has ls 7 [(4, .int (nI i)), (0, .ref b), (1, .ref (ad 0)), (2, .ref (ad 406)), (3, .ref (ad 405))] → W p l e room_1 s m #[.ref b] below meth c H locs (cells + 2) (slots + 12) Qw (F0 m 1589 ls [])) : W p l e room_1 s m #[.ref b] below meth c H locs cells slots Qw (F0 m 1188 ls []) := by
  have hx := Z.1.1
  have hb := Z.1.2.1
  refine lv_aload_n hx hb dL_law_1188 rfl (lv_at hl 2 rfl) ?_
  refine lv_aload_n hx hb dL_law_1189 rfl (lv_at hl 1 rfl) ?_
  refine lv_iload hx hb dL_law_1190 (lv_at hl 0 rfl) ?_
  refine lv_iconst (v := 1) hx hb dL_law_1192 (by decide +kernel) ?_
  refine lv_iadd hx hb dL_law_1193 ?_
  refine sS (k := i + 1) Z hX hbl hbA hw (nI_add (a := i) (b := 1)) (by omega) hL dL_law_1194 ?_
  refine lv_aload_n hx hb dL_law_1195 rfl (lv_at hl 1 rfl) ?_
  refine lv_iload hx hb dL_law_1196 (lv_at hl 0 rfl) ?_
  refine lv_iconst (v := 2) hx hb dL_law_1198 (by decide +kernel) ?_
  refine lv_iadd hx hb dL_law_1199 ?_
  refine sS (k := i + 2) Z hX hbl hbA hw (nI_add (a := i) (b := 2)) (by omega) hL dL_law_1200 ?_
  refine lv_aload_n hx hb dL_law_1201 rfl (lv_at hl 4 rfl) ?_
  have hA := api_law (σ := σ) (a_entersAfter I.2.2 (by omega) (xs (i + 1)) (xs (i + 2)))
  refine bs_i prtW (rnW (rest := []) Z (prtW.sub hw) hT hN (k_L_entersAfter hfl (σ := σ) (p1 := (xs (i + 1))) (p2 := (xs (i + 2))) I.1 hA.1) v_L_entersAfter rfl q_4_120 hl.1 rfl rfl (Nat.le_of_ble_eq_true rfl) ⟨Nat.le_of_ble_eq_true rfl, Nat.le_of_ble_eq_true rfl⟩ ⟨Nat.le_trans (Nat.add_le_add_left (Nat.le_of_ble_eq_true rfl) _) hc, Nat.le_trans (Nat.add_le_add_left (Nat.le_of_ble_eq_true rfl) _) hs⟩ dL_law_1202) hw Z (fun r5 u H locs hp hw => ?_)
  obtain ⟨er5, eu, Iu⟩ := hp
  have er5 : (wr w12 σ (f_X8_entersAfter σ (xs (i + 1)) (xs (i + 2)))).1 = r5 := er5
  have eu : (wr w12 σ (f_X8_entersAfter σ (xs (i + 1)) (xs (i + 2)))).2 = u := eu
  rw [er5, eu] at hA
  refine lv_istore (lv' := [(5, .int r5), (4, .int (nI i)), (0, .ref b), (1, .ref (ad 0)), (2, .ref (ad 406)), (3, .ref (ad 405))]) hx hb dL_law_1205 hl (by decide) rfl (fun ls hl => ?_)
  refine lv_aload_n hx hb dL_law_1207 rfl (lv_at hl 4 rfl) ?_
  refine lv_aload_n hx hb dL_law_1208 rfl (lv_at hl 2 rfl) ?_
  refine lv_iload hx hb dL_law_1209 (lv_at hl 1 rfl) ?_
  refine lv_iconst (v := 1) hx hb dL_law_1211 (by decide +kernel) ?_
  refine lv_iadd hx hb dL_law_1212 ?_
  refine sS (k := i + 1) Z hX hbl hbA hw (nI_add (a := i) (b := 1)) (by omega) hL dL_law_1213 ?_
  refine lv_aload_n hx hb dL_law_1214 rfl (lv_at hl 2 rfl) ?_
  refine lv_iload hx hb dL_law_1215 (lv_at hl 1 rfl) ?_
  refine lv_iconst (v := 2) hx hb dL_law_1217 (by decide +kernel) ?_
  refine lv_iadd hx hb dL_law_1218 ?_
  refine sS (k := i + 2) Z hX hbl hbA hw (nI_add (a := i) (b := 2)) (by omega) hL dL_law_1219 ?_
  have ID : InvD (sb gmD (mg giW σ u)) := by rw [sbD_W]; exact I.2.1
  refine bs_i prtD (rnV (rest := []) Z (prtD.sub hw) (k_X9_entersAfter (p1 := (xs (i + 1))) (p2 := (xs (i + 2))) ID) v_X9_entersAfter q_5_238 0 (by decide) rfl rfl rfl rfl hl.1 rfl rfl (Nat.le_of_ble_eq_true rfl) ⟨Nat.le_of_ble_eq_true rfl, Nat.le_of_ble_eq_true rfl⟩ ⟨rc2 hc (Nat.le_of_ble_eq_true rfl), rc2 hs (Nat.le_of_ble_eq_true rfl)⟩ dL_law_1220) hw Z (fun r6 u9 H locs hp hw => ?_)
  obtain ⟨er6, eu9, I9⟩ := hp
  rw [sbD_W] at er6 eu9
  rw [er6, eu9] at hA
  refine lv_istore (lv' := [(6, .int r6), (5, .int r5), (4, .int (nI i)), (0, .ref b), (1, .ref (ad 0)), (2, .ref (ad 406)), (3, .ref (ad 405))]) hx hb dL_law_1223 hl (by decide) rfl (fun ls hl => ?_)
  refine lv_aload_n hx hb dL_law_1225 rfl (lv_at hl 5 rfl) ?_
  refine bs_ip prtD (rnV (rest := []) Z (prtD.sub hw) (k_X9_thrown (I9.lo (fun k hk => sbD_D hk))) v_X9_thrown q_5_9 0 (by decide) rfl rfl rfl rfl hl.1 rfl rfl (Nat.le_of_ble_eq_true rfl) ⟨Nat.le_of_ble_eq_true rfl, Nat.le_of_ble_eq_true rfl⟩ ⟨rc3 hc (Nat.le_of_ble_eq_true rfl), rc3 hs (Nat.le_of_ble_eq_true rfl)⟩ dL_law_1226) hw Z (fun r7 er7 H locs hw => ?_)
  have er7 : u9 0 4 = r7 := er7
  refine lv_iload hx hb dL_law_1229 (lv_at hl 1 rfl) ?_
  refine lv_icmp_eq (tgt := 1236) hx hb dL_law_1231 (by decide) (fun q5 => ?_) (fun q5 => ?_)
  rotate_left
  · exact absurd (er7.symm.trans hA.2.1.symm) q5
  refine lv_iload hx hb dL_law_1236 (lv_at hl 1 rfl) ?_
  refine lv_if_ne (tgt := 1253) hx hb dL_law_1238 (by decide) (fun q6 => ?_) (fun q6 => ?_)
  · refine lv_goto (tgt := 1589) hx hb dL_law_1253 (by decide) ?_
    exact W.widen (rw3 (k := 2) (Nat.le_of_ble_eq_true rfl)) (rw3 (k := 12) (Nat.le_of_ble_eq_true rfl)) (kk _ H locs ls (LI.mk (u := u9) Iu I9 (hA.2.2.2.mono (by omega)) (fun k hk => mgW hk) rfl) hw (lv_sub hl [2, 3, 4, 5, 6] rfl))
  refine lv_aload_n hx hb dL_law_1241 rfl (lv_at hl 6 rfl) ?_
  refine lv_iconst (v := 0) hx hb dL_law_1242 (by decide +kernel) ?_
  refine lD Z hw rfl dL_law_1243 ?_
  refine lv_iload hx hb dL_law_1244 (lv_at hl 0 rfl) ?_
  refine lv_i2l (v := r6.toInt64) hx hb dL_law_1246 rfl ?_
  refine lv_lcmp hx hb dL_law_1247 ?_
  refine lv_if_eq (tgt := 1253) hx hb dL_law_1248 (by decide) (fun q7 => ?_) (fun q7 => ?_)
  rotate_left
  · exact absurd (lc_0.mpr (hA.2.2.1 q6)) q7
  refine lv_goto (tgt := 1589) hx hb dL_law_1253 (by decide) ?_
  exact W.widen (rw3 (k := 2) (Nat.le_of_ble_eq_true rfl)) (rw3 (k := 12) (Nat.le_of_ble_eq_true rfl)) (kk _ H locs ls (LI.mk (u := u9) Iu I9 (hA.2.2.2.mono (by omega)) (fun k hk => mgW hk) rfl) hw (lv_sub hl [2, 3, 4, 5, 6] rfl))
theorem v_L_idleAfter : cvW yL_idleAfter cL_idleAfter 4 [(0, 9, 12, 13)] 3 := ⟨q_4_133, q_1_0, q_4_134, by decide +kernel, by decide +kernel, by decide +kernel⟩
set_option maxHeartbeats 4000000 in
set_option maxRecDepth 100000 in
theorem B_16 {p : Program} {l : Launch} {e : Env} {s : State} {m : MethodId} {below : List Frame} {meth : Method} {c : Code} {A : Nat → Prop} {H : Heap} {locs : List Loc} {ls : Array Slot} {D : va_G} {T : Nat → ClassId} {g ad : Nat → Nat} {b L i cells slots : Nat} {xs : Nat → Int32} {σ : St} {τ : Int} {Qw : State → Prop} (hfl : l.stackTraces = false) (Z : en p m c cL_law 7 s #[.ref b] "NestedBellsLaw" D T g A) (hT : tW s) (hN : nCs s) (hX : va_X b L xs s s.heap) (hbl : b < s.heap.size) (hbA : ¬ A b) (hL : L ≤ 2560) (hi : i + 5 ≤ L) (h0 : 0 ≤ τ) (ht : τ + 75651 < 2147483000) (I : LI τ σ) (hw : wo D A s.heap 412 ad (cE (lE g T ad) σ) H locs) (hl : lv_has ls 7 [(4, .int (nI i)), (0, .ref b), (1, .ref (ad 0)), (2, .ref (ad 406)), (3, .ref (ad 405))]) (hc : cells + 2 ≤ 601024) (hs : slots + 12 ≤ 7293034) (kk : ∀ (σ' : St) (H : Heap) (locs : List Loc) (ls : Array Slot), LI (τ + 75651) σ' → wo D A s.heap 412 ad (cE (lE g T ad) σ') H locs → lv_has ls 7 [(4, .int (nI i)), (0, .ref b), (1, .ref (ad 0)), (2, .ref (ad 406)), (3, .ref (ad 405))] → W p l e room_1 s m #[.ref b] below meth c H locs (cells + 2) (slots + 12) Qw (F0 m 1589 ls [])) : W p l e room_1 s m #[.ref b] below meth c H locs cells slots Qw (F0 m 1256 ls []) := by
  have hx := Z.1.1
  have hb := Z.1.2.1
  refine lv_aload_n hx hb dL_law_1256 rfl (lv_at hl 2 rfl) ?_
  refine lv_aload_n hx hb dL_law_1257 rfl (lv_at hl 1 rfl) ?_
  refine lv_iload hx hb dL_law_1258 (lv_at hl 0 rfl) ?_
  refine lv_iconst (v := 1) hx hb dL_law_1260 (by decide +kernel) ?_
  refine lv_iadd hx hb dL_law_1261 ?_
  refine sS (k := i + 1) Z hX hbl hbA hw (nI_add (a := i) (b := 1)) (by omega) hL dL_law_1262 ?_
  refine lv_aload_n hx hb dL_law_1263 rfl (lv_at hl 4 rfl) ?_
  have hA := api_law (σ := σ) (a_idleAfter I.2.2 (by omega) (xs (i + 1)))
  refine bs_i prtW (rnW (rest := []) Z (prtW.sub hw) hT hN (k_L_idleAfter hfl (σ := σ) (p1 := (xs (i + 1))) I.1 hA.1) v_L_idleAfter rfl q_4_132 hl.1 rfl rfl (Nat.le_of_ble_eq_true rfl) ⟨Nat.le_of_ble_eq_true rfl, Nat.le_of_ble_eq_true rfl⟩ ⟨Nat.le_trans (Nat.add_le_add_left (Nat.le_of_ble_eq_true rfl) _) hc, Nat.le_trans (Nat.add_le_add_left (Nat.le_of_ble_eq_true rfl) _) hs⟩ dL_law_1264) hw Z (fun r5 u H locs hp hw => ?_)
  obtain ⟨er5, eu, Iu⟩ := hp
  have er5 : (wr w2 σ (f_X8_idleAfter σ (xs (i + 1)))).1 = r5 := er5
  have eu : (wr w2 σ (f_X8_idleAfter σ (xs (i + 1)))).2 = u := eu
  rw [er5, eu] at hA
  refine lv_istore (lv' := [(5, .int r5), (4, .int (nI i)), (0, .ref b), (1, .ref (ad 0)), (2, .ref (ad 406)), (3, .ref (ad 405))]) hx hb dL_law_1267 hl (by decide) rfl (fun ls hl => ?_)
  refine lv_aload_n hx hb dL_law_1269 rfl (lv_at hl 4 rfl) ?_
  refine lv_aload_n hx hb dL_law_1270 rfl (lv_at hl 2 rfl) ?_
  refine lv_iload hx hb dL_law_1271 (lv_at hl 1 rfl) ?_
  refine lv_iconst (v := 1) hx hb dL_law_1273 (by decide +kernel) ?_
  refine lv_iadd hx hb dL_law_1274 ?_
  refine sS (k := i + 1) Z hX hbl hbA hw (nI_add (a := i) (b := 1)) (by omega) hL dL_law_1275 ?_
  have ID : InvD (sb gmD (mg giW σ u)) := by rw [sbD_W]; exact I.2.1
  refine bs_i prtD (rnV (rest := []) Z (prtD.sub hw) (k_X9_idleAfter (p1 := (xs (i + 1))) ID) v_X9_idleAfter q_6_17 0 (by decide) rfl rfl rfl rfl hl.1 rfl rfl (Nat.le_of_ble_eq_true rfl) ⟨Nat.le_of_ble_eq_true rfl, Nat.le_of_ble_eq_true rfl⟩ ⟨rc2 hc (Nat.le_of_ble_eq_true rfl), rc2 hs (Nat.le_of_ble_eq_true rfl)⟩ dL_law_1276) hw Z (fun r6 u9 H locs hp hw => ?_)
  obtain ⟨er6, eu9, I9⟩ := hp
  rw [sbD_W] at er6 eu9
  rw [er6, eu9] at hA
  refine lv_istore (lv' := [(6, .int r6), (5, .int r5), (4, .int (nI i)), (0, .ref b), (1, .ref (ad 0)), (2, .ref (ad 406)), (3, .ref (ad 405))]) hx hb dL_law_1279 hl (by decide) rfl (fun ls hl => ?_)
  refine lv_aload_n hx hb dL_law_1281 rfl (lv_at hl 5 rfl) ?_
  refine bs_ip prtD (rnV (rest := []) Z (prtD.sub hw) (k_X9_thrown (I9.lo (fun k hk => sbD_D hk))) v_X9_thrown q_5_9 0 (by decide) rfl rfl rfl rfl hl.1 rfl rfl (Nat.le_of_ble_eq_true rfl) ⟨Nat.le_of_ble_eq_true rfl, Nat.le_of_ble_eq_true rfl⟩ ⟨rc3 hc (Nat.le_of_ble_eq_true rfl), rc3 hs (Nat.le_of_ble_eq_true rfl)⟩ dL_law_1282) hw Z (fun r7 er7 H locs hw => ?_)
  have er7 : u9 0 4 = r7 := er7
  refine lv_iload hx hb dL_law_1285 (lv_at hl 1 rfl) ?_
  refine lv_icmp_eq (tgt := 1292) hx hb dL_law_1287 (by decide) (fun q5 => ?_) (fun q5 => ?_)
  rotate_left
  · exact absurd (er7.symm.trans hA.2.1.symm) q5
  refine lv_iload hx hb dL_law_1292 (lv_at hl 1 rfl) ?_
  refine lv_if_ne (tgt := 1309) hx hb dL_law_1294 (by decide) (fun q6 => ?_) (fun q6 => ?_)
  · refine lv_goto (tgt := 1589) hx hb dL_law_1309 (by decide) ?_
    exact W.widen (rw3 (k := 2) (Nat.le_of_ble_eq_true rfl)) (rw3 (k := 12) (Nat.le_of_ble_eq_true rfl)) (kk _ H locs ls (LI.mk (u := u9) Iu I9 (hA.2.2.2.mono (by omega)) (fun k hk => mgW hk) rfl) hw (lv_sub hl [2, 3, 4, 5, 6] rfl))
  refine lv_aload_n hx hb dL_law_1297 rfl (lv_at hl 6 rfl) ?_
  refine lv_iconst (v := 0) hx hb dL_law_1298 (by decide +kernel) ?_
  refine lD Z hw rfl dL_law_1299 ?_
  refine lv_iload hx hb dL_law_1300 (lv_at hl 0 rfl) ?_
  refine lv_i2l (v := r6.toInt64) hx hb dL_law_1302 rfl ?_
  refine lv_lcmp hx hb dL_law_1303 ?_
  refine lv_if_eq (tgt := 1309) hx hb dL_law_1304 (by decide) (fun q7 => ?_) (fun q7 => ?_)
  rotate_left
  · exact absurd (lc_0.mpr (hA.2.2.1 q6)) q7
  refine lv_goto (tgt := 1589) hx hb dL_law_1309 (by decide) ?_
  exact W.widen (rw3 (k := 2) (Nat.le_of_ble_eq_true rfl)) (rw3 (k := 12) (Nat.le_of_ble_eq_true rfl)) (kk _ H locs ls (LI.mk (u := u9) Iu I9 (hA.2.2.2.mono (by omega)) (fun k hk => mgW hk) rfl) hw (lv_sub hl [2, 3, 4, 5, 6] rfl))
theorem v_L_latencyIf : cvW yL_latencyIf cL_latencyIf 5 [(0, 10, 13, 20), (0, 10, 17, 13)] 4 := ⟨q_4_148, q_1_0, q_4_149, by decide +kernel, by decide +kernel, by decide +kernel⟩
set_option maxHeartbeats 4000000 in
set_option maxRecDepth 100000 in
theorem B_17 {p : Program} {l : Launch} {e : Env} {s : State} {m : MethodId} {below : List Frame} {meth : Method} {c : Code} {A : Nat → Prop} {H : Heap} {locs : List Loc} {ls : Array Slot} {D : va_G} {T : Nat → ClassId} {g ad : Nat → Nat} {b L i cells slots : Nat} {xs : Nat → Int32} {σ : St} {τ : Int} {Qw : State → Prop} (hfl : l.stackTraces = false) (Z : en p m c cL_law 7 s #[.ref b] "NestedBellsLaw" D T g A) (hT : tW s) (hN : nCs s) (hX : va_X b L xs s s.heap) (hbl : b < s.heap.size) (hbA : ¬ A b) (hL : L ≤ 2560) (hi : i + 5 ≤ L) (h0 : 0 ≤ τ) (ht : τ + 75651 < 2147483000) (I : LI τ σ) (hw : wo D A s.heap 412 ad (cE (lE g T ad) σ) H locs) (hl : lv_has ls 7 [(4, .int (nI i)), (0, .ref b), (1, .ref (ad 0)), (2, .ref (ad 406)), (3, .ref (ad 405))]) (hc : cells + 2 ≤ 601024) (hs : slots + 12 ≤ 7293034) (kk : ∀ (σ' : St) (H : Heap) (locs : List Loc) (ls : Array Slot), LI (τ + 75651) σ' → wo D A s.heap 412 ad (cE (lE g T ad) σ') H locs → lv_has ls 7 [(4, .int (nI i)), (0, .ref b), (1, .ref (ad 0)), (2, .ref (ad 406)), (3, .ref (ad 405))] → W p l e room_1 s m #[.ref b] below meth c H locs (cells + 2) (slots + 12) Qw (F0 m 1589 ls [])) : W p l e room_1 s m #[.ref b] below meth c H locs cells slots Qw (F0 m 1312 ls []) := by
  have hx := Z.1.1
  have hb := Z.1.2.1
  refine lv_aload_n hx hb dL_law_1312 rfl (lv_at hl 2 rfl) ?_
  refine lv_aload_n hx hb dL_law_1313 rfl (lv_at hl 1 rfl) ?_
  refine lv_iload hx hb dL_law_1314 (lv_at hl 0 rfl) ?_
  refine lv_iconst (v := 1) hx hb dL_law_1316 (by decide +kernel) ?_
  refine lv_iadd hx hb dL_law_1317 ?_
  refine sS (k := i + 1) Z hX hbl hbA hw (nI_add (a := i) (b := 1)) (by omega) hL dL_law_1318 ?_
  refine lv_aload_n hx hb dL_law_1319 rfl (lv_at hl 1 rfl) ?_
  refine lv_iload hx hb dL_law_1320 (lv_at hl 0 rfl) ?_
  refine lv_iconst (v := 2) hx hb dL_law_1322 (by decide +kernel) ?_
  refine lv_iadd hx hb dL_law_1323 ?_
  refine sS (k := i + 2) Z hX hbl hbA hw (nI_add (a := i) (b := 2)) (by omega) hL dL_law_1324 ?_
  refine lv_aload_n hx hb dL_law_1325 rfl (lv_at hl 4 rfl) ?_
  have hA := api_law (σ := σ) (a_latencyIf I.2.2 (by omega) (xs (i + 1)) (xs (i + 2)))
  refine bs_i prtW (rnW (rest := []) Z (prtW.sub hw) hT hN (k_L_latencyIf hfl (σ := σ) (p1 := (xs (i + 1))) (p2 := (xs (i + 2))) I.1 hA.1) v_L_latencyIf rfl q_4_147 hl.1 rfl rfl (Nat.le_of_ble_eq_true rfl) ⟨Nat.le_of_ble_eq_true rfl, Nat.le_of_ble_eq_true rfl⟩ ⟨Nat.le_trans (Nat.add_le_add_left (Nat.le_of_ble_eq_true rfl) _) hc, Nat.le_trans (Nat.add_le_add_left (Nat.le_of_ble_eq_true rfl) _) hs⟩ dL_law_1326) hw Z (fun r5 u H locs hp hw => ?_)
  obtain ⟨er5, eu, Iu⟩ := hp
  have er5 : (wr w12 σ (f_X8_latencyIf σ (xs (i + 1)) (xs (i + 2)))).1 = r5 := er5
  have eu : (wr w12 σ (f_X8_latencyIf σ (xs (i + 1)) (xs (i + 2)))).2 = u := eu
  rw [er5, eu] at hA
  refine lv_istore (lv' := [(5, .int r5), (4, .int (nI i)), (0, .ref b), (1, .ref (ad 0)), (2, .ref (ad 406)), (3, .ref (ad 405))]) hx hb dL_law_1329 hl (by decide) rfl (fun ls hl => ?_)
  refine lv_aload_n hx hb dL_law_1331 rfl (lv_at hl 4 rfl) ?_
  refine lv_aload_n hx hb dL_law_1332 rfl (lv_at hl 2 rfl) ?_
  refine lv_iload hx hb dL_law_1333 (lv_at hl 1 rfl) ?_
  refine lv_iconst (v := 1) hx hb dL_law_1335 (by decide +kernel) ?_
  refine lv_iadd hx hb dL_law_1336 ?_
  refine sS (k := i + 1) Z hX hbl hbA hw (nI_add (a := i) (b := 1)) (by omega) hL dL_law_1337 ?_
  refine lv_aload_n hx hb dL_law_1338 rfl (lv_at hl 2 rfl) ?_
  refine lv_iload hx hb dL_law_1339 (lv_at hl 1 rfl) ?_
  refine lv_iconst (v := 2) hx hb dL_law_1341 (by decide +kernel) ?_
  refine lv_iadd hx hb dL_law_1342 ?_
  refine sS (k := i + 2) Z hX hbl hbA hw (nI_add (a := i) (b := 2)) (by omega) hL dL_law_1343 ?_
  have ID : InvD (sb gmD (mg giW σ u)) := by rw [sbD_W]; exact I.2.1
  refine bs_i prtD (rnV (rest := []) Z (prtD.sub hw) (k_X9_latencyIf (p1 := (xs (i + 1))) (p2 := (xs (i + 2))) ID) v_X9_latencyIf q_6_21 0 (by decide) rfl rfl rfl rfl hl.1 rfl rfl (Nat.le_of_ble_eq_true rfl) ⟨Nat.le_of_ble_eq_true rfl, Nat.le_of_ble_eq_true rfl⟩ ⟨rc2 hc (Nat.le_of_ble_eq_true rfl), rc2 hs (Nat.le_of_ble_eq_true rfl)⟩ dL_law_1344) hw Z (fun r6 u9 H locs hp hw => ?_)
  obtain ⟨er6, eu9, I9⟩ := hp
  rw [sbD_W] at er6 eu9
  rw [er6, eu9] at hA
  refine lv_istore (lv' := [(6, .int r6), (5, .int r5), (4, .int (nI i)), (0, .ref b), (1, .ref (ad 0)), (2, .ref (ad 406)), (3, .ref (ad 405))]) hx hb dL_law_1347 hl (by decide) rfl (fun ls hl => ?_)
  refine lv_aload_n hx hb dL_law_1349 rfl (lv_at hl 5 rfl) ?_
  refine bs_ip prtD (rnV (rest := []) Z (prtD.sub hw) (k_X9_thrown (I9.lo (fun k hk => sbD_D hk))) v_X9_thrown q_5_9 0 (by decide) rfl rfl rfl rfl hl.1 rfl rfl (Nat.le_of_ble_eq_true rfl) ⟨Nat.le_of_ble_eq_true rfl, Nat.le_of_ble_eq_true rfl⟩ ⟨rc3 hc (Nat.le_of_ble_eq_true rfl), rc3 hs (Nat.le_of_ble_eq_true rfl)⟩ dL_law_1350) hw Z (fun r7 er7 H locs hw => ?_)
  have er7 : u9 0 4 = r7 := er7
  refine lv_iload hx hb dL_law_1353 (lv_at hl 1 rfl) ?_
  refine lv_icmp_eq (tgt := 1360) hx hb dL_law_1355 (by decide) (fun q5 => ?_) (fun q5 => ?_)
  rotate_left
  · exact absurd (er7.symm.trans hA.2.1.symm) q5
  refine lv_iload hx hb dL_law_1360 (lv_at hl 1 rfl) ?_
  refine lv_if_ne (tgt := 1377) hx hb dL_law_1362 (by decide) (fun q6 => ?_) (fun q6 => ?_)
  · refine lv_goto (tgt := 1589) hx hb dL_law_1377 (by decide) ?_
    exact W.widen (rw3 (k := 2) (Nat.le_of_ble_eq_true rfl)) (rw3 (k := 12) (Nat.le_of_ble_eq_true rfl)) (kk _ H locs ls (LI.mk (u := u9) Iu I9 (hA.2.2.2.mono (by omega)) (fun k hk => mgW hk) rfl) hw (lv_sub hl [2, 3, 4, 5, 6] rfl))
  refine lv_aload_n hx hb dL_law_1365 rfl (lv_at hl 6 rfl) ?_
  refine lv_iconst (v := 0) hx hb dL_law_1366 (by decide +kernel) ?_
  refine lD Z hw rfl dL_law_1367 ?_
  refine lv_iload hx hb dL_law_1368 (lv_at hl 0 rfl) ?_
  refine lv_i2l (v := r6.toInt64) hx hb dL_law_1370 rfl ?_
  refine lv_lcmp hx hb dL_law_1371 ?_
  refine lv_if_eq (tgt := 1377) hx hb dL_law_1372 (by decide) (fun q7 => ?_) (fun q7 => ?_)
  rotate_left
  · exact absurd (lc_0.mpr (hA.2.2.1 q6)) q7
  refine lv_goto (tgt := 1589) hx hb dL_law_1377 (by decide) ?_
  exact W.widen (rw3 (k := 2) (Nat.le_of_ble_eq_true rfl)) (rw3 (k := 12) (Nat.le_of_ble_eq_true rfl)) (kk _ H locs ls (LI.mk (u := u9) Iu I9 (hA.2.2.2.mono (by omega)) (fun k hk => mgW hk) rfl) hw (lv_sub hl [2, 3, 4, 5, 6] rfl))
theorem v_L_blocking : cvW yL_blocking cL_blocking 4 [(0, 9, 12, 20)] 3 := ⟨q_4_164, q_1_0, q_4_165, by decide +kernel, by decide +kernel, by decide +kernel⟩
set_option maxHeartbeats 4000000 in
set_option maxRecDepth 100000 in
theorem B_18 {p : Program} {l : Launch} {e : Env} {s : State} {m : MethodId} {below : List Frame} {meth : Method} {c : Code} {A : Nat → Prop} {H : Heap} {locs : List Loc} {ls : Array Slot} {D : va_G} {T : Nat → ClassId} {g ad : Nat → Nat} {b L i cells slots : Nat} {xs : Nat → Int32} {σ : St} {τ : Int} {Qw : State → Prop} (hfl : l.stackTraces = false) (Z : en p m c cL_law 7 s #[.ref b] "NestedBellsLaw" D T g A) (hT : tW s) (hN : nCs s) (hX : va_X b L xs s s.heap) (hbl : b < s.heap.size) (hbA : ¬ A b) (hL : L ≤ 2560) (hi : i + 5 ≤ L) (h0 : 0 ≤ τ) (ht : τ + 75651 < 2147483000) (I : LI τ σ) (hw : wo D A s.heap 412 ad (cE (lE g T ad) σ) H locs) (hl : lv_has ls 7 [(4, .int (nI i)), (0, .ref b), (1, .ref (ad 0)), (2, .ref (ad 406)), (3, .ref (ad 405))]) (hc : cells + 2 ≤ 601024) (hs : slots + 12 ≤ 7293034) (kk : ∀ (σ' : St) (H : Heap) (locs : List Loc) (ls : Array Slot), LI (τ + 75651) σ' → wo D A s.heap 412 ad (cE (lE g T ad) σ') H locs → lv_has ls 7 [(4, .int (nI i)), (0, .ref b), (1, .ref (ad 0)), (2, .ref (ad 406)), (3, .ref (ad 405))] → W p l e room_1 s m #[.ref b] below meth c H locs (cells + 2) (slots + 12) Qw (F0 m 1589 ls [])) : W p l e room_1 s m #[.ref b] below meth c H locs cells slots Qw (F0 m 1380 ls []) := by
  have hx := Z.1.1
  have hb := Z.1.2.1
  refine lv_aload_n hx hb dL_law_1380 rfl (lv_at hl 2 rfl) ?_
  refine lv_aload_n hx hb dL_law_1381 rfl (lv_at hl 1 rfl) ?_
  refine lv_iload hx hb dL_law_1382 (lv_at hl 0 rfl) ?_
  refine lv_iconst (v := 1) hx hb dL_law_1384 (by decide +kernel) ?_
  refine lv_iadd hx hb dL_law_1385 ?_
  refine sS (k := i + 1) Z hX hbl hbA hw (nI_add (a := i) (b := 1)) (by omega) hL dL_law_1386 ?_
  refine lv_aload_n hx hb dL_law_1387 rfl (lv_at hl 4 rfl) ?_
  have hA := api_law (σ := σ) (a_blocking I.2.2 (xs (i + 1)))
  refine bs_i prtW (rnW (rest := []) Z (prtW.sub hw) hT hN (k_L_blocking hfl (σ := σ) (p1 := (xs (i + 1))) I.1 hA.1) v_L_blocking rfl q_4_163 hl.1 rfl rfl (Nat.le_of_ble_eq_true rfl) ⟨Nat.le_of_ble_eq_true rfl, Nat.le_of_ble_eq_true rfl⟩ ⟨Nat.le_trans (Nat.add_le_add_left (Nat.le_of_ble_eq_true rfl) _) hc, Nat.le_trans (Nat.add_le_add_left (Nat.le_of_ble_eq_true rfl) _) hs⟩ dL_law_1388) hw Z (fun r5 u H locs hp hw => ?_)
  obtain ⟨er5, eu, Iu⟩ := hp
  have er5 : (wr w1 σ (f_X8_blocking σ (xs (i + 1)))).1 = r5 := er5
  have eu : (wr w1 σ (f_X8_blocking σ (xs (i + 1)))).2 = u := eu
  rw [er5, eu] at hA
  refine lv_istore (lv' := [(5, .int r5), (4, .int (nI i)), (0, .ref b), (1, .ref (ad 0)), (2, .ref (ad 406)), (3, .ref (ad 405))]) hx hb dL_law_1391 hl (by decide) rfl (fun ls hl => ?_)
  refine lv_aload_n hx hb dL_law_1393 rfl (lv_at hl 4 rfl) ?_
  refine lv_aload_n hx hb dL_law_1394 rfl (lv_at hl 2 rfl) ?_
  refine lv_iload hx hb dL_law_1395 (lv_at hl 1 rfl) ?_
  refine lv_iconst (v := 1) hx hb dL_law_1397 (by decide +kernel) ?_
  refine lv_iadd hx hb dL_law_1398 ?_
  refine sS (k := i + 1) Z hX hbl hbA hw (nI_add (a := i) (b := 1)) (by omega) hL dL_law_1399 ?_
  have ID : InvD (sb gmD (mg giW σ u)) := by rw [sbD_W]; exact I.2.1
  refine bs_i prtD (rnV (rest := []) Z (prtD.sub hw) (k_X9_blocking (p1 := (xs (i + 1))) ID) v_X9_blocking q_6_25 0 (by decide) rfl rfl rfl rfl hl.1 rfl rfl (Nat.le_of_ble_eq_true rfl) ⟨Nat.le_of_ble_eq_true rfl, Nat.le_of_ble_eq_true rfl⟩ ⟨rc2 hc (Nat.le_of_ble_eq_true rfl), rc2 hs (Nat.le_of_ble_eq_true rfl)⟩ dL_law_1400) hw Z (fun r6 u9 H locs hp hw => ?_)
  obtain ⟨er6, eu9, I9⟩ := hp
  rw [sbD_W] at er6 eu9
  rw [er6, eu9] at hA
  refine lv_istore (lv' := [(6, .int r6), (5, .int r5), (4, .int (nI i)), (0, .ref b), (1, .ref (ad 0)), (2, .ref (ad 406)), (3, .ref (ad 405))]) hx hb dL_law_1403 hl (by decide) rfl (fun ls hl => ?_)
  refine lv_aload_n hx hb dL_law_1405 rfl (lv_at hl 5 rfl) ?_
  refine bs_ip prtD (rnV (rest := []) Z (prtD.sub hw) (k_X9_thrown (I9.lo (fun k hk => sbD_D hk))) v_X9_thrown q_5_9 0 (by decide) rfl rfl rfl rfl hl.1 rfl rfl (Nat.le_of_ble_eq_true rfl) ⟨Nat.le_of_ble_eq_true rfl, Nat.le_of_ble_eq_true rfl⟩ ⟨rc3 hc (Nat.le_of_ble_eq_true rfl), rc3 hs (Nat.le_of_ble_eq_true rfl)⟩ dL_law_1406) hw Z (fun r7 er7 H locs hw => ?_)
  have er7 : u9 0 4 = r7 := er7
  refine lv_iload hx hb dL_law_1409 (lv_at hl 1 rfl) ?_
  refine lv_icmp_eq (tgt := 1416) hx hb dL_law_1411 (by decide) (fun q5 => ?_) (fun q5 => ?_)
  rotate_left
  · exact absurd (er7.symm.trans hA.2.1.symm) q5
  refine lv_iload hx hb dL_law_1416 (lv_at hl 1 rfl) ?_
  refine lv_if_ne (tgt := 1433) hx hb dL_law_1418 (by decide) (fun q6 => ?_) (fun q6 => ?_)
  · refine lv_goto (tgt := 1589) hx hb dL_law_1433 (by decide) ?_
    exact W.widen (rw3 (k := 2) (Nat.le_of_ble_eq_true rfl)) (rw3 (k := 12) (Nat.le_of_ble_eq_true rfl)) (kk _ H locs ls (LI.mk (u := u9) Iu I9 (hA.2.2.2.mono (by omega)) (fun k hk => mgW hk) rfl) hw (lv_sub hl [2, 3, 4, 5, 6] rfl))
  refine lv_aload_n hx hb dL_law_1421 rfl (lv_at hl 6 rfl) ?_
  refine lv_iconst (v := 0) hx hb dL_law_1422 (by decide +kernel) ?_
  refine lD Z hw rfl dL_law_1423 ?_
  refine lv_iload hx hb dL_law_1424 (lv_at hl 0 rfl) ?_
  refine lv_i2l (v := r6.toInt64) hx hb dL_law_1426 rfl ?_
  refine lv_lcmp hx hb dL_law_1427 ?_
  refine lv_if_eq (tgt := 1433) hx hb dL_law_1428 (by decide) (fun q7 => ?_) (fun q7 => ?_)
  rotate_left
  · exact absurd (lc_0.mpr (hA.2.2.1 q6)) q7
  refine lv_goto (tgt := 1589) hx hb dL_law_1433 (by decide) ?_
  exact W.widen (rw3 (k := 2) (Nat.le_of_ble_eq_true rfl)) (rw3 (k := 12) (Nat.le_of_ble_eq_true rfl)) (kk _ H locs ls (LI.mk (u := u9) Iu I9 (hA.2.2.2.mono (by omega)) (fun k hk => mgW hk) rfl) hw (lv_sub hl [2, 3, 4, 5, 6] rfl))
theorem v_L_type : cvW yL_type cL_type 4 [(0, 9, 12, 13), (0, 9, 15, 15)] 3 := ⟨q_4_183, q_1_0, q_4_184, by decide +kernel, by decide +kernel, by decide +kernel⟩
set_option maxHeartbeats 4000000 in
set_option maxRecDepth 100000 in
theorem B_19 {p : Program} {l : Launch} {e : Env} {s : State} {m : MethodId} {below : List Frame} {meth : Method} {c : Code} {A : Nat → Prop} {H : Heap} {locs : List Loc} {ls : Array Slot} {D : va_G} {T : Nat → ClassId} {g ad : Nat → Nat} {b L i cells slots : Nat} {xs : Nat → Int32} {σ : St} {τ : Int} {Qw : State → Prop} (hfl : l.stackTraces = false) (Z : en p m c cL_law 7 s #[.ref b] "NestedBellsLaw" D T g A) (hT : tW s) (hN : nCs s) (hX : va_X b L xs s s.heap) (hbl : b < s.heap.size) (hbA : ¬ A b) (hL : L ≤ 2560) (hi : i + 5 ≤ L) (h0 : 0 ≤ τ) (ht : τ + 75651 < 2147483000) (I : LI τ σ) (hw : wo D A s.heap 412 ad (cE (lE g T ad) σ) H locs) (hl : lv_has ls 7 [(4, .int (nI i)), (0, .ref b), (1, .ref (ad 0)), (2, .ref (ad 406)), (3, .ref (ad 405))]) (hc : cells + 2 ≤ 601024) (hs : slots + 12 ≤ 7293034) (kk : ∀ (σ' : St) (H : Heap) (locs : List Loc) (ls : Array Slot), LI (τ + 75651) σ' → wo D A s.heap 412 ad (cE (lE g T ad) σ') H locs → lv_has ls 7 [(4, .int (nI i)), (0, .ref b), (1, .ref (ad 0)), (2, .ref (ad 406)), (3, .ref (ad 405))] → W p l e room_1 s m #[.ref b] below meth c H locs (cells + 2) (slots + 12) Qw (F0 m 1589 ls [])) : W p l e room_1 s m #[.ref b] below meth c H locs cells slots Qw (F0 m 1436 ls []) := by
  have hx := Z.1.1
  have hb := Z.1.2.1
  refine lv_aload_n hx hb dL_law_1436 rfl (lv_at hl 2 rfl) ?_
  refine lv_aload_n hx hb dL_law_1437 rfl (lv_at hl 1 rfl) ?_
  refine lv_iload hx hb dL_law_1438 (lv_at hl 0 rfl) ?_
  refine lv_iconst (v := 1) hx hb dL_law_1440 (by decide +kernel) ?_
  refine lv_iadd hx hb dL_law_1441 ?_
  refine sS (k := i + 1) Z hX hbl hbA hw (nI_add (a := i) (b := 1)) (by omega) hL dL_law_1442 ?_
  refine lv_aload_n hx hb dL_law_1443 rfl (lv_at hl 4 rfl) ?_
  have hA := api_law (σ := σ) (a_type I.2.2 (xs (i + 1)))
  refine bs_i prtW (rnW (rest := []) Z (prtW.sub hw) hT hN (k_L_type hfl (σ := σ) (p1 := (xs (i + 1))) I.1 hA.1) v_L_type rfl q_4_182 hl.1 rfl rfl (Nat.le_of_ble_eq_true rfl) ⟨Nat.le_of_ble_eq_true rfl, Nat.le_of_ble_eq_true rfl⟩ ⟨Nat.le_trans (Nat.add_le_add_left (Nat.le_of_ble_eq_true rfl) _) hc, Nat.le_trans (Nat.add_le_add_left (Nat.le_of_ble_eq_true rfl) _) hs⟩ dL_law_1444) hw Z (fun r5 u H locs hp hw => ?_)
  obtain ⟨er5, eu, Iu⟩ := hp
  have er5 : (wr w23 σ (f_X8_type σ (xs (i + 1)))).1 = r5 := er5
  have eu : (wr w23 σ (f_X8_type σ (xs (i + 1)))).2 = u := eu
  rw [er5, eu] at hA
  refine lv_istore (lv' := [(5, .int r5), (4, .int (nI i)), (0, .ref b), (1, .ref (ad 0)), (2, .ref (ad 406)), (3, .ref (ad 405))]) hx hb dL_law_1447 hl (by decide) rfl (fun ls hl => ?_)
  refine lv_aload_n hx hb dL_law_1449 rfl (lv_at hl 4 rfl) ?_
  refine lv_aload_n hx hb dL_law_1450 rfl (lv_at hl 2 rfl) ?_
  refine lv_iload hx hb dL_law_1451 (lv_at hl 1 rfl) ?_
  refine lv_iconst (v := 1) hx hb dL_law_1453 (by decide +kernel) ?_
  refine lv_iadd hx hb dL_law_1454 ?_
  refine sS (k := i + 1) Z hX hbl hbA hw (nI_add (a := i) (b := 1)) (by omega) hL dL_law_1455 ?_
  have ID : InvD (sb gmD (mg giW σ u)) := by rw [sbD_W]; exact I.2.1
  refine bs_i prtD (rnV (rest := []) Z (prtD.sub hw) (k_X9_type (p1 := (xs (i + 1))) ID) v_X9_type q_6_29 0 (by decide) rfl rfl rfl rfl hl.1 rfl rfl (Nat.le_of_ble_eq_true rfl) ⟨Nat.le_of_ble_eq_true rfl, Nat.le_of_ble_eq_true rfl⟩ ⟨rc2 hc (Nat.le_of_ble_eq_true rfl), rc2 hs (Nat.le_of_ble_eq_true rfl)⟩ dL_law_1456) hw Z (fun r6 u9 H locs hp hw => ?_)
  obtain ⟨er6, eu9, I9⟩ := hp
  rw [sbD_W] at er6 eu9
  rw [er6, eu9] at hA
  refine lv_istore (lv' := [(6, .int r6), (5, .int r5), (4, .int (nI i)), (0, .ref b), (1, .ref (ad 0)), (2, .ref (ad 406)), (3, .ref (ad 405))]) hx hb dL_law_1459 hl (by decide) rfl (fun ls hl => ?_)
  refine lv_aload_n hx hb dL_law_1461 rfl (lv_at hl 5 rfl) ?_
  refine bs_ip prtD (rnV (rest := []) Z (prtD.sub hw) (k_X9_thrown (I9.lo (fun k hk => sbD_D hk))) v_X9_thrown q_5_9 0 (by decide) rfl rfl rfl rfl hl.1 rfl rfl (Nat.le_of_ble_eq_true rfl) ⟨Nat.le_of_ble_eq_true rfl, Nat.le_of_ble_eq_true rfl⟩ ⟨rc3 hc (Nat.le_of_ble_eq_true rfl), rc3 hs (Nat.le_of_ble_eq_true rfl)⟩ dL_law_1462) hw Z (fun r7 er7 H locs hw => ?_)
  have er7 : u9 0 4 = r7 := er7
  refine lv_iload hx hb dL_law_1465 (lv_at hl 1 rfl) ?_
  refine lv_icmp_eq (tgt := 1472) hx hb dL_law_1467 (by decide) (fun q5 => ?_) (fun q5 => ?_)
  rotate_left
  · exact absurd (er7.symm.trans hA.2.1.symm) q5
  refine lv_iload hx hb dL_law_1472 (lv_at hl 1 rfl) ?_
  refine lv_if_ne (tgt := 1489) hx hb dL_law_1474 (by decide) (fun q6 => ?_) (fun q6 => ?_)
  · refine lv_goto (tgt := 1589) hx hb dL_law_1489 (by decide) ?_
    exact W.widen (rw3 (k := 2) (Nat.le_of_ble_eq_true rfl)) (rw3 (k := 12) (Nat.le_of_ble_eq_true rfl)) (kk _ H locs ls (LI.mk (u := u9) Iu I9 (hA.2.2.2.mono (by omega)) (fun k hk => mgW hk) rfl) hw (lv_sub hl [2, 3, 4, 5, 6] rfl))
  refine lv_aload_n hx hb dL_law_1477 rfl (lv_at hl 6 rfl) ?_
  refine lv_iconst (v := 0) hx hb dL_law_1478 (by decide +kernel) ?_
  refine lD Z hw rfl dL_law_1479 ?_
  refine lv_iload hx hb dL_law_1480 (lv_at hl 0 rfl) ?_
  refine lv_i2l (v := r6.toInt64) hx hb dL_law_1482 rfl ?_
  refine lv_lcmp hx hb dL_law_1483 ?_
  refine lv_if_eq (tgt := 1489) hx hb dL_law_1484 (by decide) (fun q7 => ?_) (fun q7 => ?_)
  rotate_left
  · exact absurd (lc_0.mpr (hA.2.2.1 q6)) q7
  refine lv_goto (tgt := 1589) hx hb dL_law_1489 (by decide) ?_
  exact W.widen (rw3 (k := 2) (Nat.le_of_ble_eq_true rfl)) (rw3 (k := 12) (Nat.le_of_ble_eq_true rfl)) (kk _ H locs ls (LI.mk (u := u9) Iu I9 (hA.2.2.2.mono (by omega)) (fun k hk => mgW hk) rfl) hw (lv_sub hl [2, 3, 4, 5, 6] rfl))
theorem v_L_undo : cvW yL_undo cL_undo 3 [(0, 8, 11, 15)] 2 := ⟨q_4_195, q_1_0, q_4_196, by decide +kernel, by decide +kernel, by decide +kernel⟩
set_option maxHeartbeats 4000000 in
set_option maxRecDepth 100000 in
theorem B_23 {p : Program} {l : Launch} {e : Env} {s : State} {m : MethodId} {below : List Frame} {meth : Method} {c : Code} {A : Nat → Prop} {H : Heap} {locs : List Loc} {ls : Array Slot} {D : va_G} {T : Nat → ClassId} {g ad : Nat → Nat} {b L i cells slots : Nat} {xs : Nat → Int32} {σ : St} {τ : Int} {Qw : State → Prop} (hfl : l.stackTraces = false) (Z : en p m c cL_law 7 s #[.ref b] "NestedBellsLaw" D T g A) (hT : tW s) (hN : nCs s) (hX : va_X b L xs s s.heap) (hbl : b < s.heap.size) (hbA : ¬ A b) (hL : L ≤ 2560) (hi : i + 5 ≤ L) (h0 : 0 ≤ τ) (ht : τ + 75651 < 2147483000) (I : LI τ σ) (hw : wo D A s.heap 412 ad (cE (lE g T ad) σ) H locs) (hl : lv_has ls 7 [(4, .int (nI i)), (0, .ref b), (1, .ref (ad 0)), (2, .ref (ad 406)), (3, .ref (ad 405))]) (hc : cells + 2 ≤ 601024) (hs : slots + 12 ≤ 7293034) (kk : ∀ (σ' : St) (H : Heap) (locs : List Loc) (ls : Array Slot), LI (τ + 75651) σ' → wo D A s.heap 412 ad (cE (lE g T ad) σ') H locs → lv_has ls 7 [(4, .int (nI i)), (0, .ref b), (1, .ref (ad 0)), (2, .ref (ad 406)), (3, .ref (ad 405))] → W p l e room_1 s m #[.ref b] below meth c H locs (cells + 2) (slots + 12) Qw (F0 m 1589 ls [])) : W p l e room_1 s m #[.ref b] below meth c H locs cells slots Qw (F0 m 1531 ls []) := by
  have hx := Z.1.1
  have hb := Z.1.2.1
  refine lv_aload_n hx hb dL_law_1531 rfl (lv_at hl 2 rfl) ?_
  refine lv_aload_n hx hb dL_law_1532 rfl (lv_at hl 4 rfl) ?_
  have hA := api_law (σ := σ) (a_undo I.2.2)
  refine bs_i prtW (rnW (rest := []) Z (prtW.sub hw) hT hN (k_L_undo hfl (σ := σ) I.1 hA.1) v_L_undo rfl q_4_194 hl.1 rfl rfl (Nat.le_of_ble_eq_true rfl) ⟨Nat.le_of_ble_eq_true rfl, Nat.le_of_ble_eq_true rfl⟩ ⟨Nat.le_trans (Nat.add_le_add_left (Nat.le_of_ble_eq_true rfl) _) hc, Nat.le_trans (Nat.add_le_add_left (Nat.le_of_ble_eq_true rfl) _) hs⟩ dL_law_1533) hw Z (fun r5 u H locs hp hw => ?_)
  obtain ⟨er5, eu, Iu⟩ := hp
  have er5 : (wr w3 σ (f_X8_undo σ)).1 = r5 := er5
  have eu : (wr w3 σ (f_X8_undo σ)).2 = u := eu
  rw [er5, eu] at hA
  refine lv_istore (lv' := [(5, .int r5), (4, .int (nI i)), (0, .ref b), (1, .ref (ad 0)), (2, .ref (ad 406)), (3, .ref (ad 405))]) hx hb dL_law_1536 hl (by decide) rfl (fun ls hl => ?_)
  refine lv_aload_n hx hb dL_law_1538 rfl (lv_at hl 4 rfl) ?_
  have ID : InvD (sb gmD (mg giW σ u)) := by rw [sbD_W]; exact I.2.1
  refine bs_i prtD (rnV (rest := []) Z (prtD.sub hw) (k_X9_undo ID) v_X9_undo q_5_13 0 (by decide) rfl rfl rfl rfl hl.1 rfl rfl (Nat.le_of_ble_eq_true rfl) ⟨Nat.le_of_ble_eq_true rfl, Nat.le_of_ble_eq_true rfl⟩ ⟨rc2 hc (Nat.le_of_ble_eq_true rfl), rc2 hs (Nat.le_of_ble_eq_true rfl)⟩ dL_law_1539) hw Z (fun r6 u9 H locs hp hw => ?_)
  obtain ⟨er6, eu9, I9⟩ := hp
  rw [sbD_W] at er6 eu9
  rw [er6, eu9] at hA
  refine lv_istore (lv' := [(6, .int r6), (5, .int r5), (4, .int (nI i)), (0, .ref b), (1, .ref (ad 0)), (2, .ref (ad 406)), (3, .ref (ad 405))]) hx hb dL_law_1542 hl (by decide) rfl (fun ls hl => ?_)
  refine lv_aload_n hx hb dL_law_1544 rfl (lv_at hl 5 rfl) ?_
  refine bs_ip prtD (rnV (rest := []) Z (prtD.sub hw) (k_X9_thrown (I9.lo (fun k hk => sbD_D hk))) v_X9_thrown q_5_9 0 (by decide) rfl rfl rfl rfl hl.1 rfl rfl (Nat.le_of_ble_eq_true rfl) ⟨Nat.le_of_ble_eq_true rfl, Nat.le_of_ble_eq_true rfl⟩ ⟨rc3 hc (Nat.le_of_ble_eq_true rfl), rc3 hs (Nat.le_of_ble_eq_true rfl)⟩ dL_law_1545) hw Z (fun r7 er7 H locs hw => ?_)
  have er7 : u9 0 4 = r7 := er7
  refine lv_iload hx hb dL_law_1548 (lv_at hl 1 rfl) ?_
  refine lv_icmp_eq (tgt := 1555) hx hb dL_law_1550 (by decide) (fun q5 => ?_) (fun q5 => ?_)
  rotate_left
  · exact absurd (er7.symm.trans hA.2.1.symm) q5
  refine lv_iload hx hb dL_law_1555 (lv_at hl 1 rfl) ?_
  refine lv_if_ne (tgt := 1572) hx hb dL_law_1557 (by decide) (fun q6 => ?_) (fun q6 => ?_)
  · refine lv_goto (tgt := 1589) hx hb dL_law_1572 (by decide) ?_
    exact W.widen (rw3 (k := 2) (Nat.le_of_ble_eq_true rfl)) (rw3 (k := 12) (Nat.le_of_ble_eq_true rfl)) (kk _ H locs ls (LI.mk (u := u9) Iu I9 (hA.2.2.2.mono (by omega)) (fun k hk => mgW hk) rfl) hw (lv_sub hl [2, 3, 4, 5, 6] rfl))
  refine lv_aload_n hx hb dL_law_1560 rfl (lv_at hl 6 rfl) ?_
  refine lv_iconst (v := 0) hx hb dL_law_1561 (by decide +kernel) ?_
  refine lD Z hw rfl dL_law_1562 ?_
  refine lv_iload hx hb dL_law_1563 (lv_at hl 0 rfl) ?_
  refine lv_i2l (v := r6.toInt64) hx hb dL_law_1565 rfl ?_
  refine lv_lcmp hx hb dL_law_1566 ?_
  refine lv_if_eq (tgt := 1572) hx hb dL_law_1567 (by decide) (fun q7 => ?_) (fun q7 => ?_)
  rotate_left
  · exact absurd (lc_0.mpr (hA.2.2.1 q6)) q7
  refine lv_goto (tgt := 1589) hx hb dL_law_1572 (by decide) ?_
  exact W.widen (rw3 (k := 2) (Nat.le_of_ble_eq_true rfl)) (rw3 (k := 12) (Nat.le_of_ble_eq_true rfl)) (kk _ H locs ls (LI.mk (u := u9) Iu I9 (hA.2.2.2.mono (by omega)) (fun k hk => mgW hk) rfl) hw (lv_sub hl [2, 3, 4, 5, 6] rfl))
