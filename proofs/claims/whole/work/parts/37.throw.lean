/-- the class of an exception by the number that stands for it here: 1 an index, 2 an argument, 3 a state -/
def exN : Nat → String
  | 1 => "java/lang/IndexOutOfBoundsException"
  | 2 => "java/lang/IllegalArgumentException"
  | _ => "java/lang/IllegalStateException"
def exUp : List String := ["java/lang/RuntimeException", "java/lang/Exception"]
/-- the words of a throw that are carried by themselves -/
def tB : List Cond := [.declares ⟨"java/lang/RuntimeException", "<init>", "(Ljava/lang/String;)V"⟩, .declares ⟨"java/lang/Exception", "<init>", "(Ljava/lang/String;)V"⟩, .declares ⟨"java/lang/Throwable", "<init>", "(Ljava/lang/String;)V"⟩, .castable "java/lang/IndexOutOfBoundsException" "java/lang/IndexOutOfBoundsException", .castable "java/lang/IllegalArgumentException" "java/lang/IllegalArgumentException", .castable "java/lang/IllegalStateException" "java/lang/IllegalStateException"]
def tW (U : State) : Prop := ∀ w ∈ tB, va_Nw w U
theorem tb_at {w : Cond} (i : Nat) (h : tB[i]? = some w) : w ∈ tB := List.mem_of_getElem? h
theorem tW.warm {s U : State} (hW : s.WarmedH U.vm) (h : tW s) : tW U := by
  intro w hw
  have hq := h w hw
  simp only [tB, List.mem_cons, List.not_mem_nil, or_false] at hw
  rcases hw with rfl | rfl | rfl | rfl | rfl | rfl
  · exact va_Nw.warmD hW hq
  · exact va_Nw.warmD hW hq
  · exact va_Nw.warmD hW hq
  · exact va_Nw.warmC hW hq
  · exact va_Nw.warmC hW hq
  · exact va_Nw.warmC hW hq
theorem tB_ot {w : Cond} (hw : w ∈ tB) : w.onTables = true := by
  simp only [tB, List.mem_cons, List.not_mem_nil, or_false] at hw
  rcases hw with rfl | rfl | rfl | rfl | rfl | rfl <;> rfl
def thC (own cls : String) (ik ic : Nat) : Prop := Cond.classLink own ik cls ∈ AW ∧ Cond.initialized cls ∈ AW ∧ ∀ w ∈ vx_atS own ic cls exUp, w ∈ AW ∨ w ∈ tB
theorem vx_nil : ∀ w ∈ ([] : List Cond).filter vx_no, w ∈ AW ∨ w ∈ tB := fun _ h => nomatch h
theorem vx_aq {w : Cond} {L : List Cond} (h : w ∈ AW ∨ w ∈ tB) (t : ∀ w ∈ L.filter vx_no, w ∈ AW ∨ w ∈ tB) : ∀ w' ∈ (w :: L).filter vx_no, w' ∈ AW ∨ w' ∈ tB := fun w' h' => by
  obtain ⟨h1, h2⟩ := List.mem_filter.mp h'
  rcases List.mem_cons.mp h1 with e | e
  · rw [e]; exact h
  · exact t w' (List.mem_filter.mpr ⟨e, h2⟩)
theorem vx_ad {w : Cond} {L : List Cond} (h : w ∈ AW) (t : ∀ w ∈ L.filter vx_no, w ∈ AW ∨ w ∈ tB) : ∀ w' ∈ (w :: L).filter vx_no, w' ∈ AW ∨ w' ∈ tB := vx_aq (Or.inl h) t
theorem vx_tb {w : Cond} {L : List Cond} (h : w ∈ tB) (t : ∀ w ∈ L.filter vx_no, w ∈ AW ∨ w ∈ tB) : ∀ w' ∈ (w :: L).filter vx_no, w' ∈ AW ∨ w' ∈ tB := vx_aq (Or.inr h) t
theorem vx_sk {w : Cond} {L : List Cond} (h : vx_no w = false) (t : ∀ w ∈ L.filter vx_no, w ∈ AW ∨ w ∈ tB) : ∀ w' ∈ (w :: L).filter vx_no, w' ∈ AW ∨ w' ∈ tB := fun w' h' => by
  obtain ⟨h1, h2⟩ := List.mem_filter.mp h'
  rcases List.mem_cons.mp h1 with e | e
  · rw [e, h] at h2; cases h2
  · exact t w' (List.mem_filter.mpr ⟨e, h2⟩)
set_option maxHeartbeats 4000000 in
set_option maxRecDepth 100000 in
theorem thw1 : thC "NestedBells" "java/lang/IndexOutOfBoundsException" 94 98 := ⟨q_3_132, q_1_15, (vx_ad q_1_12 (vx_ad q_3_154 (vx_ad q_3_163 (vx_ad (aw_3 (List.mem_of_getElem? (i := 167) rfl) rfl) (vx_ad q_3_170 (vx_ad q_3_172 (vx_ad q_3_155 (vx_ad q_3_156 (vx_ad q_1_30 (vx_ad q_1_31 (vx_ad q_3_157 (vx_ad q_3_162 (vx_ad q_3_168 (vx_ad q_3_188 (vx_ad q_3_144 (vx_ad q_3_189 (vx_ad q_3_146 (vx_ad q_3_190 (vx_ad q_3_148 (vx_ad q_3_158 (vx_sk (by decide +kernel) (vx_ad q_3_160 (vx_sk (by decide +kernel) (vx_ad q_3_150 (vx_ad q_3_184 (vx_ad q_3_185 (vx_ad q_3_187 (vx_ad q_3_150 (vx_ad q_3_175 (vx_ad q_3_176 (vx_ad q_3_177 (vx_ad q_3_178 (vx_tb (tb_at 0 rfl) (vx_ad q_3_178 (vx_ad q_3_179 (vx_ad q_3_180 (vx_ad q_3_181 (vx_tb (tb_at 1 rfl) (vx_ad q_3_181 (vx_ad q_3_182 (vx_ad q_3_183 (vx_ad q_3_184 (vx_tb (tb_at 2 rfl) (vx_ad q_3_174 (vx_ad q_3_133 (vx_tb (tb_at 3 rfl) (vx_ad q_3_141 (vx_ad q_3_142 (vx_ad q_3_143 (vx_ad q_3_145 (vx_ad q_3_147 (vx_ad q_3_149 (vx_sk (by decide +kernel) (vx_sk (by decide +kernel) (vx_ad q_3_153 (vx_ad q_3_152 (vx_ad q_3_151 vx_nil)))))))))))))))))))))))))))))))))))))))))))))))))))))))))⟩
set_option maxHeartbeats 4000000 in
set_option maxRecDepth 100000 in
theorem thw2 : thC "NestedBells" "java/lang/IllegalArgumentException" 207 211 := ⟨q_3_199, q_1_16, (vx_ad q_1_12 (vx_ad q_3_154 (vx_ad q_3_163 (vx_ad (aw_3 (List.mem_of_getElem? (i := 167) rfl) rfl) (vx_ad q_3_170 (vx_ad q_3_172 (vx_ad q_3_155 (vx_ad q_3_156 (vx_ad q_1_30 (vx_ad q_1_31 (vx_ad q_3_157 (vx_ad q_3_162 (vx_ad q_3_168 (vx_ad q_3_188 (vx_ad q_3_144 (vx_ad q_3_189 (vx_ad q_3_146 (vx_ad q_3_190 (vx_ad q_3_148 (vx_ad q_3_158 (vx_sk (by decide +kernel) (vx_ad q_3_160 (vx_sk (by decide +kernel) (vx_ad q_3_150 (vx_ad q_3_184 (vx_ad q_3_185 (vx_ad q_3_187 (vx_ad q_3_150 (vx_ad q_3_210 (vx_ad q_3_211 (vx_ad q_3_212 (vx_ad q_3_178 (vx_tb (tb_at 0 rfl) (vx_ad q_3_178 (vx_ad q_3_179 (vx_ad q_3_180 (vx_ad q_3_181 (vx_tb (tb_at 1 rfl) (vx_ad q_3_181 (vx_ad q_3_182 (vx_ad q_3_183 (vx_ad q_3_184 (vx_tb (tb_at 2 rfl) (vx_ad q_3_209 (vx_ad q_3_200 (vx_tb (tb_at 4 rfl) (vx_ad q_3_202 (vx_ad q_3_165 (vx_ad q_3_203 (vx_ad q_3_204 (vx_ad q_3_205 (vx_ad q_3_206 (vx_sk (by decide +kernel) (vx_sk (by decide +kernel) (vx_ad q_3_153 (vx_ad q_3_152 (vx_ad q_3_207 vx_nil)))))))))))))))))))))))))))))))))))))))))))))))))))))))))⟩
set_option maxHeartbeats 4000000 in
set_option maxRecDepth 100000 in
theorem thw3 : thC "NestedBells" "java/lang/IllegalStateException" 144 148 := ⟨q_3_215, q_1_17, (vx_ad q_1_12 (vx_ad q_3_154 (vx_ad q_3_163 (vx_ad (aw_3 (List.mem_of_getElem? (i := 167) rfl) rfl) (vx_ad q_3_170 (vx_ad q_3_172 (vx_ad q_3_155 (vx_ad q_3_156 (vx_ad q_1_30 (vx_ad q_1_31 (vx_ad q_3_157 (vx_ad q_3_162 (vx_ad q_3_168 (vx_ad q_3_188 (vx_ad q_3_144 (vx_ad q_3_189 (vx_ad q_3_146 (vx_ad q_3_190 (vx_ad q_3_148 (vx_ad q_3_158 (vx_sk (by decide +kernel) (vx_ad q_3_160 (vx_sk (by decide +kernel) (vx_ad q_3_150 (vx_ad q_3_184 (vx_ad q_3_185 (vx_ad q_3_187 (vx_ad q_3_150 (vx_ad q_3_226 (vx_ad q_3_227 (vx_ad q_3_228 (vx_ad q_3_178 (vx_tb (tb_at 0 rfl) (vx_ad q_3_178 (vx_ad q_3_179 (vx_ad q_3_180 (vx_ad q_3_181 (vx_tb (tb_at 1 rfl) (vx_ad q_3_181 (vx_ad q_3_182 (vx_ad q_3_183 (vx_ad q_3_184 (vx_tb (tb_at 2 rfl) (vx_ad q_3_225 (vx_ad q_3_216 (vx_tb (tb_at 5 rfl) (vx_ad q_3_218 (vx_ad q_3_166 (vx_ad q_3_219 (vx_ad q_3_220 (vx_ad q_3_221 (vx_ad q_3_222 (vx_sk (by decide +kernel) (vx_sk (by decide +kernel) (vx_ad q_3_153 (vx_ad q_3_152 (vx_ad q_3_223 vx_nil)))))))))))))))))))))))))))))))))))))))))))))))))))))))))⟩
/-- what is thrown, and the world behind it -/
def qX (D : va_G) (N : Nat) (ad : Nat → Nat) (E : Nat → (Nat → Int32) → va_E) (P : Nat → St → Prop) (A : Nat → Prop) : String → State → State → Prop := vx_X (S := Nat × St) (fun q => P q.1 q.2) (fun C q t => C = exN q.1 ∧ wB D N ad E q.2 t) A
/-- the start of a method that may throw -/
def wPt (D : va_G) (T : Nat → ClassId) (g : Nat → Nat) (N : Nat) (ad : Nat → Nat) (ct : Nat → va_E) (av : List Value) (sz : Nat) : Array Value → State → Prop := va_Pc av (fun U => tW U ∧ U.heap.size = sz ∧ va_P D vwCl (wl N ad ct) U.heap ∧ va_K D vwCl (tyL T) U ∧ va_D (fun _ => True) (wl N ad ct) ∧ amb g (wA N ad sz) U U.heap)
theorem wPt_blind {D : va_G} {T : Nat → ClassId} {g : Nat → Nat} {N : Nat} {ad : Nat → Nat} {ct : Nat → va_E} {av : List Value} {sz : Nat} : FrameBlind (wPt D T g N ad ct av sz) := fun a U g1 mk q => by
  obtain ⟨q0, qT, q1, qP, qK, qD, qG⟩ := q
  exact ⟨q0, qT.warm (U := U.calling g1 mk a) (State.WarmedH.refl U), q1, qP, va_K.moved (u := U) (U := U.calling g1 mk a) (Vm.Alike.refl U.vm) qK, qD, qG.1.warm (State.WarmedH.refl U), aS.moved (u := U) (U := U.calling g1 mk a) (Vm.Alike.refl U.vm) qG.2⟩
/-- a method that returns or throws -/
def mT (l : Launch) (y : MethodName) (cc : ByteArray) (maxL : Nat) (ret : Option FieldType) (rm : Room) (D : va_G) (T : Nat → ClassId) (g : Nat → Nat) (N : Nat) (ad : Nat → Nat) (ct : Nat → va_E) (av : List Value) (Q : (Nat → Prop) → Array Value → State → Outcome → State → Prop) (X : (Nat → Prop) → String → State → State → Prop) : Prop :=
  ∀ sz, vx_Met l y (.code y cc maxL ret :: AW) rm (wPt D T g N ad ct av sz) (Q (wA N ad sz)) (X (wA N ad sz)) rm.cells rm.slots (wA N ad sz)
theorem mT.of {l : Launch} {y : MethodName} {cc : ByteArray} {maxL : Nat} {ret : Option FieldType} {rm : Room} {D : va_G} {T : Nat → ClassId} {g : Nat → Nat} {N : Nat} {ad : Nat → Nat} {ct : Nat → va_E} {av : List Value} {Q : (Nat → Prop) → Array Value → State → Outcome → State → Prop} {X : (Nat → Prop) → String → State → State → Prop} {own : String} (hy : plainName y.cls = true) (hlen : (lg_sl av).length ≤ maxL) (hown : y.cls = own)
    (body : ∀ (p : Program) (e : Env) (s : State) (m : MethodId) (below : List Frame) (meth : Method) (c : Code) (A : Nat → Prop) (ls : Array Slot) (H : Heap) (locs : List Loc), en p m c cc maxL s av.toArray own D T g A → tW s → meth.sig.returnType = ret → meth.locks = false → (∀ x ∈ c.exceptionTable.toList, False) → wo D A s.heap N ad ct H locs → lv_has ls maxL (lv_args 0 av) →
      W p l e rm s m av.toArray below meth c H locs 0 0 (vx_MQ below (Q A) (X A) av.toArray s rm.cells rm.slots A) (F0 m 0 ls [])) : mT l y cc maxL ret rm D T g N ad ct av Q X := by
  intro sz
  refine vx_ofW (cc := cc) (maxL := maxL) (ret := ret) hy rfl ?_
  intro p e s m args below meth c s₁ B hml ht hv
  obtain ⟨rfl, hT, hsz, hP, hK, hD0, hG⟩ := hv
  subst hsz
  have hts := atoms_spec (ws := .code y cc maxL ret :: AW) B.pre
  have hl := lv_entry av (n := maxL) hlen
  rw [lg_entry_eq]
  exact body p e s m below meth c (wA N ad s.heap.size) _ _ _ ⟨⟨B.exec, B.bytes, hml, by rw [← hown]; exact findClass_of_methodNamed B.named, fun w hw => hts w (List.mem_cons_of_mem _ hw)⟩, hK, fun q h => Or.inr h, hG⟩ hT B.returns B.notSynchronized ht ⟨hP, wl_D hD0 (fun k hk _ => Or.inl ⟨k, hk, rfl⟩), va_S.rf⟩ hl
section ThrowRows
variable {p : Program} {l : Launch} {e : Env} {R : Room} {s : State} {m : MethodId} {args : Array Value} {below : List Frame} {meth : Method} {c : Code} {H : Heap} {locs : List Loc} {cells slots mc ms : Nat} {Qw : State → Prop} {cc : ByteArray} {pc nL : Nat} {ls : Array Slot} {rest st0 : List Value} {own : String} {D : va_G} {T : Nat → ClassId} {g : Nat → Nat} {A : Nat → Prop} {N : Nat} {ad : Nat → Nat} {E : Nat → (Nat → Int32) → va_E} {σ : St} {a : Array Value} {Qc : Array Value → State → Outcome → State → Prop} {MC MS : Nat}
/-- 'throw new E("..")' in the class -/
theorem th_row {k ik is ic sa : Nat} {text : String} {P : Nat → St → Prop} (Z : en p m c cc nL s args "NestedBells" D T g A) (hw : wo D A s.heap N ad (cE E σ) H locs) (hT : tW s) (hfl : l.stackTraces = false) (hk : thC "NestedBells" (exN k) ik ic) (hfit : Bundle.fit (exN k) = true)
    (hstr : vk_R "NestedBells" is text sa s) (hsz : ls.size = nL) (hlk : meth.locks = false) (ht : ∀ x ∈ c.exceptionTable.toList, False)
    (d0 : decode cc pc = .ok (.new ik, 3)) (d3 : decode cc (pc + 3) = .ok (.dup, 1)) (d4 : decode cc (pc + 4) = .ok (.ldc is, 2)) (d6 : decode cc (pc + 6) = .ok (.invokespecial ic, 3)) (d9 : decode cc (pc + 9) = .ok (.athrow, 1))
    (hP : P k σ) (hRf : 5 < R.frames) (hRl : (rest.map fun v => v.category).sum + 82 ≤ R.locals) (hRc : cells + 1 ≤ R.cells) (hRs : slots + 6 ≤ R.slots) (hc : cells + 1 ≤ MC) (hs : slots + 6 ≤ MS) :
    W p l e R s m args below meth c H locs cells slots (vx_MQ below Qc (qX D N ad E P A) args s MC MS A) (F0 m pc ls rest) := by
  have hAW : ∀ w ∈ AW, w.before args s = true := Z.1.2.2.2.2
  have hg : ∀ w ∈ AW, vx_ot w = true := fun w hw => by
    unfold vx_ot
    rw [(List.mem_filter.mp hw).2, Bool.or_true]
  refine vx_throwS (A := A) (names := exUp) (text := text) (sa := sa) Z.1.1 Z.1.2.1 hfl Z.1.2.2.2.1 hfit (by decide +kernel) (hAW _ hk.1) (hAW _ hk.2.1) hstr (fun w hw => (hk.2.2 w hw).elim (hAW w) (fun h => va_Nw.use (tB_ot h) (hT w h))) (fun w hw => ?_) Z.2.2.2.2.1 Z.2.2.2.2.2.1 hw.2.2 (hsz.trans Z.1.2.2.1.symm) d0 d3 d4 d6 d9 (fun x hx => (ht x hx).elim) hRf hRl hRc hRs hlk (fun t hvm hz hk1 => ?_) hw.2.2.2.2 hc hs
  · rcases List.mem_cons.mp hw with h | h
    · rw [h]; exact hg _ hk.1
    · rcases List.mem_cons.mp h with h | h
      · rw [h]; exact hg _ hk.2.1
      · refine (hk.2.2 w h).elim (hg _) (fun h9 => ?_)
        unfold vx_ot
        rw [tB_ot h9, Bool.true_or]
  · refine ⟨(k, σ), hP, ⟨rfl, ?_⟩, ?_⟩
    · intro i q hi
      have h0 := hw.1 i q hi
      exact h0.kept (hk1 _ h0.lt)
    · exact ⟨Nat.le_trans hw.2.2.1 hz, fun q h1 h2 => by rw [hk1 q (Nat.lt_of_lt_of_le h1 hw.2.2.1)]; exact hw.2.2.2.1 q h1 h2⟩
theorem rxV {y : MethodName} {bytes : ByteArray} {maxL n idx b : Nat} {ret : Option FieldType} {rm : Room} {As : List Value} {Q : (Nat → Prop) → Array Value → State → Outcome → State → Prop} {X : (Nat → Prop) → String → State → State → Prop} {C : String} {ct' : Nat → va_E} (Z : en p m c cc nL s args own D T g A) (hw : wo D A s.heap N ad ct' H locs) (hT : tW s) (hM : mT l y bytes maxL ret rm D T g N ad ct' (.ref b :: As) Q X) (V : cvV y C bytes maxL ret n) (hl : Cond.methodLink own idx y ∈ AW) (k0 : Nat) {ci : Nat} {fs : List Value} {qq : vw_C} (hk0 : k0 < N) (hb0 : ad k0 = b) (hc0 : ct' k0 = .inr (ci, fs)) (hcl : vwCl[ci]? = some qq) (hqC : qq.1 = C)
    (hsz : ls.size = nL) (hn : As.length = n) (hst : st0 = As.reverse ++ .ref b :: rest) (hcat : (rest.map fun v => v.category).sum ≤ 8) (hR : rm.frames + 1 ≤ R.frames ∧ 8 + (maxL + 11) + rm.locals ≤ R.locals) (hf : cells + rm.cells ≤ R.cells ∧ slots + rm.slots ≤ R.slots) (d : decode cc pc = .ok (.invokevirtual idx, 3)) :
    vx_Run p l e R s m args below meth c H locs cells slots rm.cells rm.slots (F0 m pc ls st0) rest (Q (wA N ad H.size) (Value.ref b :: As).toArray) (X (wA N ad H.size)) (wA N ad H.size) := by
  subst hst; subst hb0; subst hqC
  obtain ⟨v1, v2, v3, v4, v5, v6, v7, v8⟩ := V
  exact vx_runV (As := As) (rest := rest) (C := qq.1) Z.1 (hM H.size) (cwV n Z.1.2.2.2.2 (AW_app (fun w hw => by
    simp only [List.mem_cons, List.not_mem_nil, or_false] at hw
    rcases hw with rfl | rfl | rfl | rfl
    · exact hl
    · exact v1
    · exact v2
    · exact v3) (AW_cons v4)) rfl rfl rfl ⟨v5, v6, v7, v8⟩ hR) ⟨wPt_blind, va_recv Z.2.1 hw.1 hcl ((wl_at hk0).trans (by rw [hc0])), fun U hU hW => ⟨rfl, hT.warm hW, by rw [hU], by rw [hU]; exact hw.1, va_K.moved hW.alike Z.2.1, wl_D hw.2.1 (fun _ _ _ => trivial), Z.2.2.2.call hw.2.2 hU hW (wA_in hw Z.2.2.1)⟩⟩ rfl hn hsz rfl (lv_room hcat) d hf
theorem rxS {y : MethodName} {bytes : ByteArray} {maxL n idx : Nat} {ret : Option FieldType} {rm : Room} {As : List Value} {Q : (Nat → Prop) → Array Value → State → Outcome → State → Prop} {X : (Nat → Prop) → String → State → State → Prop} {ct' : Nat → va_E} (Z : en p m c cc nL s args own D T g A) (hw : wo D A s.heap N ad ct' H locs) (hT : tW s) (hM : mT l y bytes maxL ret rm D T g N ad ct' As Q X) (V : cvS y bytes maxL ret n) (hyo : y.cls = own) (hl : Cond.methodLink own idx y ∈ AW)
    (hsz : ls.size = nL) (hn : As.length = n) (hst : st0 = As.reverse ++ rest) (hcat : (rest.map fun v => v.category).sum ≤ 8) (hR : rm.frames + 1 ≤ R.frames ∧ 8 + (maxL + 11) + rm.locals ≤ R.locals) (hf : cells + rm.cells ≤ R.cells ∧ slots + rm.slots ≤ R.slots) (d : decode cc pc = .ok (.invokestatic idx, 3)) :
    vx_Run p l e R s m args below meth c H locs cells slots rm.cells rm.slots (F0 m pc ls st0) rest (Q (wA N ad H.size) As.toArray) (X (wA N ad H.size)) (wA N ad H.size) := by
  subst hst; subst hyo
  obtain ⟨v1, v3, v4, v6, v7, v8⟩ := V
  exact vx_runS (As := As) (rest := rest) Z.1 (hM H.size) (cwS n Z.1.2.2.2.2 (AW_app (fun w hw => by
    simp only [List.mem_cons, List.not_mem_nil, or_false] at hw
    rcases hw with rfl | rfl | rfl
    · exact hl
    · exact v1
    · exact v3) (AW_cons v4)) rfl rfl rfl ⟨rfl, v6, v7, v8⟩ hR) ⟨wPt_blind, fun U hU hW => ⟨rfl, hT.warm hW, by rw [hU], by rw [hU]; exact hw.1, va_K.moved hW.alike Z.2.1, wl_D hw.2.1 (fun _ _ _ => trivial), Z.2.2.2.call hw.2.2 hU hW (wA_in hw Z.2.2.1)⟩⟩ rfl hn hsz rfl (lv_room hcat) d hf
/-- what was thrown goes on to the caller -/
theorem th_out {PX P : Nat → St → Prop} {E1 : String} {ce : Cell} {q9 : Addr} {u : Nat × St} {t : State} {H1 : Heap} {locs1 : List Loc} (hlk : meth.locks = false) (ht : ∀ x ∈ c.exceptionTable.toList, False) (hx : ∀ k u, PX k u → P k u) (e1 : t.heap = H1) (hp : PX u.1 u.2) (hB : E1 = exN u.1 ∧ wB D N ad E u.2 t) (hS1 : va_S A s.heap H1 locs1) (hce : H1[q9]? = some ce) (hv : ce.vm = .none) (hcl : s.vm.findClass E1 = some ce.cls) (hc : cells ≤ MC) (hs : slots ≤ MS) :
    vx_W p l e R s m args below meth c H1 locs1 cells slots (vx_MQ below Qc (qX D N ad E P A) args s MC MS A) (F0 m pc ls rest) q9 :=
  vx_out (E := E1) (fun x h => (ht x h).elim) hlk hce hv hcl (fun t1 ht1 _ => ⟨u, hx _ _ hp, ⟨hB.1, by show va_P _ _ _ t1.heap; rw [ht1, ← e1]; exact hB.2⟩, hS1.F ht1⟩) hS1.2.2 hc hs
theorem bx_i {P : Int32 → St → Prop} {PX P' : Nat → St → Prop} (hr : vx_Run p l e R s m args below meth c H locs cells slots mc ms (F0 m pc ls st0) rest (qI D N ad E P (wA N ad H.size) a) (qX D N ad E PX (wA N ad H.size)) (wA N ad H.size)) (hw : wo D A s.heap N ad (cE E σ) H locs) (Z : en p m c cc nL s args own D T g A) (hlk : meth.locks = false) (ht : ∀ x ∈ c.exceptionTable.toList, False) (hx : ∀ k u, PX k u → P' k u) (hc : cells + mc ≤ MC) (hs : slots + ms ≤ MS)
    (kk : ∀ (r : Int32) (u : St) (H1 : Heap) (locs1 : List Loc), P r u → wo D A s.heap N ad (cE E u) H1 locs1 → W p l e R s m args below meth c H1 locs1 (cells + mc) (slots + ms) (vx_MQ below Qc (qX D N ad E P' A) args s MC MS A) (F0 m (pc + 3) ls (.int r :: rest))) : W p l e R s m args below meth c H locs cells slots (vx_MQ below Qc (qX D N ad E P' A) args s MC MS A) (F0 m pc ls st0) :=
  vx_calli hr hw.2.2 (fun q _ h => wA_in hw Z.2.2.1 q h) (wA_in hw Z.2.2.1) (fun q _ h => wA_in hw Z.2.2.1 q h) (fun E1 ce q9 u t H1 locs1 e1 _ hp hB _ _ hS1 hce hv hcl => th_out hlk ht hx e1 hp hB hS1 hce hv hcl hc hs) (fun r u t H1 locs1 ht1 _ hp hB _ _ hS1 => by
    rw [← ht1]; rw [← ht1] at hS1; exact kk r u t.heap locs1 hp ⟨hB, wl_D hw.2.1 (fun _ _ h => h), hS1⟩)
theorem bx_v {P : St → Prop} {PX P' : Nat → St → Prop} (hr : vx_Run p l e R s m args below meth c H locs cells slots mc ms (F0 m pc ls st0) rest (qV D N ad E P (wA N ad H.size) a) (qX D N ad E PX (wA N ad H.size)) (wA N ad H.size)) (hw : wo D A s.heap N ad (cE E σ) H locs) (Z : en p m c cc nL s args own D T g A) (hlk : meth.locks = false) (ht : ∀ x ∈ c.exceptionTable.toList, False) (hx : ∀ k u, PX k u → P' k u) (hc : cells + mc ≤ MC) (hs : slots + ms ≤ MS)
    (kk : ∀ (u : St) (H1 : Heap) (locs1 : List Loc), P u → wo D A s.heap N ad (cE E u) H1 locs1 → W p l e R s m args below meth c H1 locs1 (cells + mc) (slots + ms) (vx_MQ below Qc (qX D N ad E P' A) args s MC MS A) (F0 m (pc + 3) ls rest)) : W p l e R s m args below meth c H locs cells slots (vx_MQ below Qc (qX D N ad E P' A) args s MC MS A) (F0 m pc ls st0) :=
  vx_callv hr hw.2.2 (fun q _ h => wA_in hw Z.2.2.1 q h) (wA_in hw Z.2.2.1) (fun q _ h => wA_in hw Z.2.2.1 q h) (fun E1 ce q9 u t H1 locs1 e1 _ hp hB _ _ hS1 hce hv hcl => th_out hlk ht hx e1 hp hB hS1 hce hv hcl hc hs) (fun u t H1 locs1 ht1 _ hp hB _ _ hS1 => by
    rw [← ht1]; rw [← ht1] at hS1; exact kk u t.heap locs1 hp ⟨hB, wl_D hw.2.1 (fun _ _ h => h), hS1⟩)
end ThrowRows
/-- what a method that may throw answers: 0 and its value, or the number of what it throws -/
def pXI (f : Nat × Int32 × St) (J : St → Prop) : Int32 → St → Prop := fun r u => f = (0, r, u) ∧ J u
def pXX (f : Nat × Int32 × St) (J : St → Prop) : Nat → St → Prop := fun k u => k ≠ 0 ∧ f = (k, 0, u) ∧ J u
/-- one that answers nothing and changes nothing -/
def pXV (f : Nat) (σ : St) : St → Prop := fun u => f = 0 ∧ σ = u
def pXVX (f : Nat) (σ : St) : Nat → St → Prop := fun k u => k ≠ 0 ∧ f = k ∧ σ = u
theorem mg_sb {E : Nat → (Nat → Int32) → va_E} {N N' : Nat} {gm : Nat → Nat} {gi : Nat → Option Nat} {E' : Nat → (Nat → Int32) → va_E} (h : prt E N N' gm gi E') (σ : St) : mg gi σ (sb gm σ) = σ := by
  funext a b
  unfold mg sb
  cases hg : gi a with
  | none => rfl
  | some j => show σ (gm j) b = σ a b; rw [(h.2.2.1 a j hg).2]
section PartRows2
variable {p : Program} {l : Launch} {e : Env} {R : Room} {s : State} {m : MethodId} {args : Array Value} {below : List Frame} {meth : Method} {c : Code} {H : Heap} {locs : List Loc} {cells slots mc ms : Nat} {Qw : State → Prop} {cc : ByteArray} {pc nL : Nat} {ls : Array Slot} {rest st0 : List Value} {own : String} {D : va_G} {T : Nat → ClassId} {g : Nat → Nat} {A : Nat → Prop} {N N' : Nat} {ad : Nat → Nat} {E E' : Nat → (Nat → Int32) → va_E} {gm : Nat → Nat} {gi : Nat → Option Nat} {σ : St} {a : Array Value}
theorem bs_ip {f : Int32} (h : prt E N N' gm gi E') (hr : va_Run p l e R s m args below meth c H locs cells slots mc ms (F0 m pc ls st0) rest (qI D N' (fun k => ad (gm k)) E' (pR f (sb gm σ)) (wA N' (fun k => ad (gm k)) H.size) a) (wA N' (fun k => ad (gm k)) H.size)) (hw : wo D A s.heap N ad (cE E σ) H locs) (Z : en p m c cc nL s args own D T g A)
    (kk : ∀ (r : Int32), f = r → ∀ (H1 : Heap) (locs1 : List Loc), wo D A s.heap N ad (cE E σ) H1 locs1 → W p l e R s m args below meth c H1 locs1 (cells + mc) (slots + ms) Qw (F0 m (pc + 3) ls (.int r :: rest))) : W p l e R s m args below meth c H locs cells slots Qw (F0 m pc ls st0) :=
  bs_i h hr hw Z (fun r u H1 locs1 hp hw1 => by
    obtain ⟨e1, e2⟩ := hp
    rw [← e2, mg_sb h] at hw1
    exact kk r e1 H1 locs1 hw1)
theorem bs_qp {f : Option Nat} (h : prt E N N' gm gi E') (hr : va_Run p l e R s m args below meth c H locs cells slots mc ms (F0 m pc ls st0) rest (qQ D N' (fun k => ad (gm k)) E' (pR f (sb gm σ)) (wA N' (fun k => ad (gm k)) H.size) a) (wA N' (fun k => ad (gm k)) H.size)) (hw : wo D A s.heap N ad (cE E σ) H locs) (Z : en p m c cc nL s args own D T g A)
    (kk : ∀ (r : Option Nat), f = r → ∀ (H1 : Heap) (locs1 : List Loc), wo D A s.heap N ad (cE E σ) H1 locs1 → W p l e R s m args below meth c H1 locs1 (cells + mc) (slots + ms) Qw (F0 m (pc + 3) ls (va_rf r :: rest))) : W p l e R s m args below meth c H locs cells slots Qw (F0 m pc ls st0) :=
  va_callq hr hw.2.2 (fun q _ h1 => wA_in (h.sub hw) Z.2.2.1 q h1) (wA_in (h.sub hw) Z.2.2.1) (fun r u t H1 locs1 ht _ hp hB _ hk hS1 => by
    obtain ⟨e1, e2⟩ := hp
    rw [← ht]; rw [← ht] at hS1 hk
    have hw1 := h.back hw hB hk hS1
    rw [← e2, mg_sb h] at hw1
    exact kk r e1 t.heap locs1 hw1)
end PartRows2
theorem InvB.mach {σ u : St} {q : Nat} (_hq : q < 7) (J : InvC u) (I : InvB σ) : InvB (mg (giM q) σ u) := by
  obtain ⟨a, b, c, d⟩ := I
  have k : ∀ x y, x < 6 → mg (giM q) σ u x y = σ x y := fun x y hx => by
    unfold mg
    rw [giM_n (by omega)]
  refine ⟨by rw [k _ _ (by decide)]; exact a, by rw [k _ _ (by decide)]; exact b, ?_, fun q1 hq1 => ?_⟩
  · unfold InvX sb gmX at c ⊢
    rw [k _ _ (by decide), k _ _ (by decide)]; exact c
  · by_cases e : q1 = q
    · subst e
      have k2 : ∀ x y, x < 57 → sb (gmM q1) (mg (giM q1) σ u) x y = u x y := fun x y hx => by
        unfold sb mg
        rw [giM_s hx]
      exact J.cong (k2 0 4 (by decide)) (k2 0 6 (by decide)) (k2 5 3 (by decide)) (k2 5 4 (by decide)) (fun i hi => k2 (9 + i) 18 (by omega))
    · have k2 : ∀ x y, x < 57 → sb (gmM q1) (mg (giM q) σ u) x y = sb (gmM q1) σ x y := fun x y hx => by
        unfold sb mg gmM
        rw [giM_n (by omega)]
      exact (d q1 hq1).cong (k2 0 4 (by decide)) (k2 0 6 (by decide)) (k2 5 3 (by decide)) (k2 5 4 (by decide)) (fun i hi => k2 (9 + i) 18 (by omega))
theorem giX_n {k : Nat} (h : ¬ (3 ≤ k ∧ k < 6)) : giX k = none := if_neg h
theorem InvB.text {σ u : St} (J : InvX u) (I : InvB σ) : InvB (mg giX σ u) := by
  obtain ⟨a, b, c, d⟩ := I
  have k : ∀ x y, ¬ (3 ≤ x ∧ x < 6) → mg giX σ u x y = σ x y := fun x y hx => by
    unfold mg
    rw [giX_n hx]
  refine ⟨by rw [k _ _ (by omega)]; exact a, by rw [k _ _ (by omega)]; exact b, J, fun q1 hq1 => ?_⟩
  have k2 : ∀ x y, sb (gmM q1) (mg giX σ u) x y = sb (gmM q1) σ x y := fun x y => k _ _ (by unfold gmM; omega)
  exact (d q1 hq1).cong (k2 0 4) (k2 0 6) (k2 5 3) (k2 5 4) (fun i hi => k2 (9 + i) 18)
theorem InvB.why {σ : St} {v : Int32} (I : InvB σ) : InvB (up2 σ 0 4 v) := by
  obtain ⟨a, b, c, d⟩ := I
  have k : ∀ x y, x ≠ 0 → up2 σ 0 4 v x y = σ x y := fun x y hx => up2_k hx
  refine ⟨by rw [k _ _ (by decide)]; exact a, by rw [k _ _ (by decide)]; exact b, ?_, fun q1 hq1 => ?_⟩
  · unfold InvX sb gmX at c ⊢
    rw [k _ _ (by omega), k _ _ (by omega)]; exact c
  · have k2 : ∀ x y, sb (gmM q1) (up2 σ 0 4 v) x y = sb (gmM q1) σ x y := fun x y => k _ _ (by unfold gmM; omega)
    exact (d q1 hq1).cong (k2 0 4) (k2 0 6) (k2 5 3) (k2 5 4) (fun i hi => k2 (9 + i) 18)

