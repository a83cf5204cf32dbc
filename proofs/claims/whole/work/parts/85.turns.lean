/-! the law's turns -/
theorem rc2 {c a b k M : Nat} (h : c + k ≤ M) (e : a + b ≤ k) : c + a + b ≤ M := by omega
theorem rc3 {c a b d k M : Nat} (h : c + k ≤ M) (e : a + b + d ≤ k) : c + a + b + d ≤ M := by omega
theorem rw3 {c a b d k : Nat} (e : a + b + d ≤ k) : c + a + b + d ≤ c + k := by omega
theorem v_L_addSource : cvW yL_addSource cL_addSource 6 [(0, 12, 15, 13), (0, 12, 19, 15)] 5 := ⟨q_3_120, q_1_0, q_3_121, by decide +kernel, by decide +kernel, by decide +kernel⟩
set_option maxHeartbeats 4000000 in
set_option maxRecDepth 100000 in
theorem B_0 {p : Program} {l : Launch} {e : Env} {s : State} {m : MethodId} {below : List Frame} {meth : Method} {c : Code} {A : Nat → Prop} {H : Heap} {locs : List Loc} {ls : Array Slot} {D : va_G} {T : Nat → ClassId} {g ad : Nat → Nat} {b L i cells slots : Nat} {xs : Nat → Int32} {σ : St} {τ : Int} {Qw : State → Prop} (hfl : l.stackTraces = false) (Z : en p m c cL_law 7 s #[.ref b] "NestedBellsLaw" D T g A) (hT : tW s) (hN : nCs s) (hX : va_X b L xs s s.heap) (hbl : b < s.heap.size) (hbA : ¬ A b) (hL : L ≤ 2560) (hi : i + 5 ≤ L) (h0 : 0 ≤ τ) (ht : τ + 75651 < 2147483000) (I : LI τ σ) (hw : wo D A s.heap 412 ad (cE (lE g T ad) σ) H locs) (hl : lv_has ls 7 [(4, .int (nI i)), (0, .ref b), (1, .ref (ad 0)), (2, .ref (ad 406)), (3, .ref (ad 405))]) (hc : cells + 2 ≤ 601024) (hs : slots + 12 ≤ 7293034) (kk : ∀ (σ' : St) (H : Heap) (locs : List Loc) (ls : Array Slot), LI (τ + 75651) σ' → wo D A s.heap 412 ad (cE (lE g T ad) σ') H locs → lv_has ls 7 [(4, .int (nI i)), (0, .ref b), (1, .ref (ad 0)), (2, .ref (ad 406)), (3, .ref (ad 405))] → W p l e room_1 s m #[.ref b] below meth c H locs (cells + 2) (slots + 12) Qw (F0 m 1589 ls [])) : W p l e room_1 s m #[.ref b] below meth c H locs cells slots Qw (F0 m 152 ls []) := by
  have hx := Z.1.1
  have hb := Z.1.2.1
  refine lv_aload_n hx hb dL_law_152 rfl (lv_at hl 2 rfl) ?_
  refine lv_aload_n hx hb dL_law_153 rfl (lv_at hl 1 rfl) ?_
  refine lv_iload hx hb dL_law_154 (lv_at hl 0 rfl) ?_
  refine lv_iconst (v := 1) hx hb dL_law_156 (by decide +kernel) ?_
  refine lv_iadd hx hb dL_law_157 ?_
  refine sS (k := i + 1) Z hX hbl hbA hw (nI_add (a := i) (b := 1)) (by omega) hL dL_law_158 ?_
  refine lv_aload_n hx hb dL_law_159 rfl (lv_at hl 1 rfl) ?_
  refine lv_iload hx hb dL_law_160 (lv_at hl 0 rfl) ?_
  refine lv_iconst (v := 2) hx hb dL_law_162 (by decide +kernel) ?_
  refine lv_iadd hx hb dL_law_163 ?_
  refine sS (k := i + 2) Z hX hbl hbA hw (nI_add (a := i) (b := 2)) (by omega) hL dL_law_164 ?_
  refine lv_aload_n hx hb dL_law_165 rfl (lv_at hl 1 rfl) ?_
  refine lv_iload hx hb dL_law_166 (lv_at hl 0 rfl) ?_
  refine lv_iconst (v := 3) hx hb dL_law_168 (by decide +kernel) ?_
  refine lv_iadd hx hb dL_law_169 ?_
  refine sS (k := i + 3) Z hX hbl hbA hw (nI_add (a := i) (b := 3)) (by omega) hL dL_law_170 ?_
  refine lv_aload_n hx hb dL_law_171 rfl (lv_at hl 4 rfl) ?_
  have hA := api_law (σ := σ) (a_addSource I.2.2 h0 (xs (i + 1)) (xs (i + 2)) (xs (i + 3)))
  refine bs_i prtW (rnW (rest := []) Z (prtW.sub hw) hT hN (k_L_addSource hfl (σ := σ) (p1 := (xs (i + 1))) (p2 := (xs (i + 2))) (p3 := (xs (i + 3))) I.1 hA.1) v_L_addSource rfl q_3_119 hl.1 rfl rfl (Nat.le_of_ble_eq_true rfl) ⟨Nat.le_of_ble_eq_true rfl, Nat.le_of_ble_eq_true rfl⟩ ⟨Nat.le_trans (Nat.add_le_add_left (Nat.le_of_ble_eq_true rfl) _) hc, Nat.le_trans (Nat.add_le_add_left (Nat.le_of_ble_eq_true rfl) _) hs⟩ dL_law_172) hw Z (fun r5 u H locs hp hw => ?_)
  obtain ⟨er5, eu, Iu⟩ := hp
  have er5 : (wr w23 σ (f_X8_addSource σ (xs (i + 1)) (xs (i + 2)) (xs (i + 3)))).1 = r5 := er5
  have eu : (wr w23 σ (f_X8_addSource σ (xs (i + 1)) (xs (i + 2)) (xs (i + 3)))).2 = u := eu
  rw [er5, eu] at hA
  refine lv_istore (lv' := [(5, .int r5), (4, .int (nI i)), (0, .ref b), (1, .ref (ad 0)), (2, .ref (ad 406)), (3, .ref (ad 405))]) hx hb dL_law_175 hl (by decide) rfl (fun ls hl => ?_)
  refine lv_aload_n hx hb dL_law_177 rfl (lv_at hl 4 rfl) ?_
  refine lv_aload_n hx hb dL_law_178 rfl (lv_at hl 2 rfl) ?_
  refine lv_iload hx hb dL_law_179 (lv_at hl 1 rfl) ?_
  refine lv_iconst (v := 1) hx hb dL_law_181 (by decide +kernel) ?_
  refine lv_iadd hx hb dL_law_182 ?_
  refine sS (k := i + 1) Z hX hbl hbA hw (nI_add (a := i) (b := 1)) (by omega) hL dL_law_183 ?_
  refine lv_aload_n hx hb dL_law_184 rfl (lv_at hl 2 rfl) ?_
  refine lv_iload hx hb dL_law_185 (lv_at hl 1 rfl) ?_
  refine lv_iconst (v := 2) hx hb dL_law_187 (by decide +kernel) ?_
  refine lv_iadd hx hb dL_law_188 ?_
  refine sS (k := i + 2) Z hX hbl hbA hw (nI_add (a := i) (b := 2)) (by omega) hL dL_law_189 ?_
  refine lv_aload_n hx hb dL_law_190 rfl (lv_at hl 2 rfl) ?_
  refine lv_iload hx hb dL_law_191 (lv_at hl 1 rfl) ?_
  refine lv_iconst (v := 3) hx hb dL_law_193 (by decide +kernel) ?_
  refine lv_iadd hx hb dL_law_194 ?_
  refine sS (k := i + 3) Z hX hbl hbA hw (nI_add (a := i) (b := 3)) (by omega) hL dL_law_195 ?_
  have ID : InvD (sb gmD (mg giW σ u)) := by rw [sbD_W]; exact I.2.1
  refine bs_i prtD (rnV (rest := []) Z (prtD.sub hw) (k_X9_addSource (p1 := (xs (i + 1))) (p2 := (xs (i + 2))) (p3 := (xs (i + 3))) ID) v_X9_addSource q_5_21 0 (by decide) rfl rfl rfl rfl hl.1 rfl rfl (Nat.le_of_ble_eq_true rfl) ⟨Nat.le_of_ble_eq_true rfl, Nat.le_of_ble_eq_true rfl⟩ ⟨rc2 hc (Nat.le_of_ble_eq_true rfl), rc2 hs (Nat.le_of_ble_eq_true rfl)⟩ dL_law_196) hw Z (fun r6 u9 H locs hp hw => ?_)
  obtain ⟨er6, eu9, I9⟩ := hp
  rw [sbD_W] at er6 eu9
  rw [er6, eu9] at hA
  refine lv_istore (lv' := [(6, .int r6), (5, .int r5), (4, .int (nI i)), (0, .ref b), (1, .ref (ad 0)), (2, .ref (ad 406)), (3, .ref (ad 405))]) hx hb dL_law_199 hl (by decide) rfl (fun ls hl => ?_)
  refine lv_aload_n hx hb dL_law_201 rfl (lv_at hl 5 rfl) ?_
  refine bs_ip prtD (rnV (rest := []) Z (prtD.sub hw) (k_X9_thrown (I9.lo (fun k hk => sbD_D hk))) v_X9_thrown q_5_9 0 (by decide) rfl rfl rfl rfl hl.1 rfl rfl (Nat.le_of_ble_eq_true rfl) ⟨Nat.le_of_ble_eq_true rfl, Nat.le_of_ble_eq_true rfl⟩ ⟨rc3 hc (Nat.le_of_ble_eq_true rfl), rc3 hs (Nat.le_of_ble_eq_true rfl)⟩ dL_law_202) hw Z (fun r7 er7 H locs hw => ?_)
  have er7 : u9 0 4 = r7 := er7
  refine lv_iload hx hb dL_law_205 (lv_at hl 1 rfl) ?_
  refine lv_icmp_eq (tgt := 212) hx hb dL_law_207 (by decide) (fun q5 => ?_) (fun q5 => ?_)
  rotate_left
  · exact absurd (er7.symm.trans hA.2.1.symm) q5
  refine lv_iload hx hb dL_law_212 (lv_at hl 1 rfl) ?_
  refine lv_if_ne (tgt := 229) hx hb dL_law_214 (by decide) (fun q6 => ?_) (fun q6 => ?_)
  · refine lv_goto (tgt := 1589) hx hb dL_law_229 (by decide) ?_
    exact W.widen (rw3 (k := 2) (Nat.le_of_ble_eq_true rfl)) (rw3 (k := 12) (Nat.le_of_ble_eq_true rfl)) (kk _ H locs ls (LI.mk (u := u9) Iu I9 (hA.2.2.2.mono (by omega)) (fun k hk => mgW hk) rfl) hw (lv_sub hl [2, 3, 4, 5, 6] rfl))
  refine lv_aload_n hx hb dL_law_217 rfl (lv_at hl 6 rfl) ?_
  refine lv_iconst (v := 0) hx hb dL_law_218 (by decide +kernel) ?_
  refine lD Z hw rfl dL_law_219 ?_
  refine lv_iload hx hb dL_law_220 (lv_at hl 0 rfl) ?_
  refine lv_i2l (v := r6.toInt64) hx hb dL_law_222 rfl ?_
  refine lv_lcmp hx hb dL_law_223 ?_
  refine lv_if_eq (tgt := 229) hx hb dL_law_224 (by decide) (fun q7 => ?_) (fun q7 => ?_)
  rotate_left
  · exact absurd (lc_0.mpr (hA.2.2.1 q6)) q7
  refine lv_goto (tgt := 1589) hx hb dL_law_229 (by decide) ?_
  exact W.widen (rw3 (k := 2) (Nat.le_of_ble_eq_true rfl)) (rw3 (k := 12) (Nat.le_of_ble_eq_true rfl)) (kk _ H locs ls (LI.mk (u := u9) Iu I9 (hA.2.2.2.mono (by omega)) (fun k hk => mgW hk) rfl) hw (lv_sub hl [2, 3, 4, 5, 6] rfl))
