/-! cells that are made: a world that grows -/
def ext {α : Type} (f : Nat → α) (n : Nat) (v : α) : Nat → α := fun k => if k = n then v else f k
theorem ext_s {α : Type} {f : Nat → α} {n : Nat} {v : α} : ext f n v n = v := if_pos rfl
theorem ext_n {α : Type} {f : Nat → α} {n k : Nat} {v : α} (h : k ≠ n) : ext f n v k = f k := if_neg h
theorem wl_len {N : Nat} {ad : Nat → Nat} {ct : Nat → va_E} : (wl N ad ct).length = N := by simp only [wl, List.length_map, List.length_range]
theorem wl_ext {N : Nat} {ad : Nat → Nat} {ct : Nat → va_E} {q : Nat} {e : va_E} : wl N ad ct ++ [(q, e)] = wl (N + 1) (ext ad N q) (ext ct N e) := by
  apply List.ext_getElem?
  intro i
  by_cases h : i < N
  · rw [List.getElem?_append_left (by rw [wl_len]; exact h), wl_at h, wl_at (by omega), ext_n (by omega), ext_n (by omega)]
  · rw [List.getElem?_append_right (by rw [wl_len]; omega), wl_len]
    by_cases h2 : i = N
    · subst h2
      rw [wl_at (by omega), ext_s, ext_s, Nat.sub_self]
      rfl
    · rw [List.getElem?_eq_none (by rw [List.length_singleton]; omega), List.getElem?_eq_none (by rw [wl_len]; omega)]
section Made
variable {p : Program} {l : Launch} {e : Env} {R : Room} {s : State} {m : MethodId} {args : Array Value} {below : List Frame} {meth : Method} {c : Code} {H : Heap} {locs : List Loc} {cells slots : Nat} {Qw : State → Prop} {cc : ByteArray} {pc nL : Nat} {ls : Array Slot} {rest : List Value} {own : String} {D : va_G} {T : Nat → ClassId} {g : Nat → Nat} {A : Nat → Prop} {N : Nat} {ad : Nat → Nat} {ct : Nat → va_E}
/-- a new object -/
theorem nwO {C : String} {TC : u_T} {NF ci idx : Nat} {fs : List Value} {ty0 : Nat → FieldType} (Z : en p m c cc nL s args own D T g A) (hw : wo D A s.heap N ad ct H locs) (hin : ∀ w ∈ u_ws C TC NF, w ∈ AW) (hty : ∀ k, k < NF → parseFieldDescriptor (TC k).2.2.1 = some (ty0 k)) (hcl : Cond.classLink own idx C ∈ AW) (hinst : Cond.instantiable C NF ∈ AW) (hini : Cond.initialized C ∈ AW) (hc : vwCl[ci]? = some (C, TC, NF)) (hfs : ∀ j, j < NF → defaultValue (ty0 j) = vp_V fs j) (hcells : cells + 1 ≤ R.cells) (hslots : slots + NF ≤ R.slots) (d : decode cc pc = .ok (.new idx, 3))
    (kk : ∀ (q : Nat) (H1 : Heap), wo D A s.heap (N + 1) (ext ad N q) (ext ct N (.inr (ci, fs))) H1 locs → W p l e R s m args below meth c H1 locs (cells + 1) (slots + NF) Qw (F0 m (pc + 3) ls (.ref q :: rest))) : W p l e R s m args below meth c H locs cells slots Qw (F0 m pc ls rest) :=
  va_new (D := D) (own := own) (C := C) (T := TC) (N := NF) (ci := ci) Z.1.1 Z.1.2.1 Z.1.2.2.2.2 hin ty0 hty Z.1.2.2.2.1 (Z.1.2.2.2.2 _ hcl) (Z.1.2.2.2.2 _ hinst) (Z.1.2.2.2.2 _ hini) Z.2.1 hw.1 hw.2.1 hw.2.2 Z.2.2.1 hc hfs hcells hslots d (fun q H1 hP hD hS => kk q H1 ⟨by rw [← wl_ext]; exact hP, by rw [← wl_ext]; exact hD, hS⟩)
theorem tyN {s : State} {cA : ClassId} {ty : FieldType} (h : va_K D vwCl (tyL T ++ [(cA, ty)]) s) : va_RA s cA ty := (h.2 6 (cA, ty) rfl).2
/-- a new array of ints -/
theorem nwI {n : Int32} {N' : Nat} (Z : en p m c cc nL s args own D T g A) (hw : wo D A s.heap N ad ct H locs) (harr : Cond.arrayClass .int ∈ AW) (hn : ¬ n < 0) (hN : n.toNatClampNeg = N') (hb : N' * 4 ≤ 536870912) (hcells : cells + 1 ≤ R.cells) (hslots : slots + N' ≤ R.slots) (d : decode cc pc = .ok (.newarray .int, 2))
    (kk : ∀ (q : Nat) (H1 : Heap), wo D A s.heap (N + 1) (ext ad N q) (ext ct N (.inl (T 1, N', .inl (fun _ => 0)))) H1 locs → W p l e R s m args below meth c H1 locs (cells + 1) (slots + N') Qw (F0 m (pc + 2) ls (.ref q :: rest))) : W p l e R s m args below meth c H locs cells slots Qw (F0 m pc ls (.int n :: rest)) :=
  va_newa (D := D) (atype := .int) (ty := .int) (a0 := (N', .inl (fun _ => 0))) Z.1.1 Z.1.2.1 (Z.1.2.2.2.2 _ harr) rfl Z.2.1 hw.1 hw.2.1 hw.2.2 Z.2.2.1 (fun _ => rfl) hn hN hb hcells hslots d (fun q cA H1 hK hP hD hS => by
    have e1 : cA = T 1 := Option.some.inj ((va_nm_int (tyN hK)).symm.trans (va_nm_int (Z.2.1.2 1 (T 1, .int) rfl).2))
    subst e1
    exact kk q H1 ⟨by rw [← wl_ext]; exact hP, by rw [← wl_ext]; exact hD, hS⟩)
/-- a new array of objects -/
theorem nwQ {C nm : String} {n : Int32} {N' idx t0 : Nat} (Z : en p m c cc nL s args own D T g A) (hw : wo D A s.heap N ad ct H locs) (hcl : Cond.classLink own idx C ∈ AW) (hover : va_AO C s) (ht : (tyL T)[t0]? = some (T t0, .object C)) (hnm : "[" ++ (FieldType.object C).toString = nm) (hn : ¬ n < 0) (hN : n.toNatClampNeg = N') (hb : N' * 4 ≤ 536870912) (hcells : cells + 1 ≤ R.cells) (hslots : slots + N' ≤ R.slots) (d : decode cc pc = .ok (.anewarray idx, 3))
    (kk : ∀ (q : Nat) (H1 : Heap), wo D A s.heap (N + 1) (ext ad N q) (ext ct N (.inl (T t0, N', .inr (.inr (.inr (.inr (fun _ => none))))))) H1 locs → W p l e R s m args below meth c H1 locs (cells + 1) (slots + N') Qw (F0 m (pc + 3) ls (.ref q :: rest))) : W p l e R s m args below meth c H locs cells slots Qw (F0 m pc ls (.int n :: rest)) :=
  va_newq (D := D) (own := own) (C := C) Z.1.1 Z.1.2.1 Z.1.2.2.2.1 (Z.1.2.2.2.2 _ hcl) hover Z.2.1 hw.1 hw.2.1 hw.2.2 Z.2.2.1 hn hN hb hcells hslots d (fun q cA H1 hK hP hD hS => by
    have e1 : cA = T t0 := Option.some.inj ((va_nmO (tyN hK) hnm).symm.trans (va_nmO (Z.2.1.2 t0 _ ht).2 hnm))
    subst e1
    exact kk q H1 ⟨by rw [← wl_ext]; exact hP, by rw [← wl_ext]; exact hD, hS⟩)
/-- a final field that its own constructor writes -/
theorem pfF {C : String} {TC : u_T} {NF ci idx j : Nat} {fs : List Value} {v : Value} {a : Nat} {ty0 : Nat → FieldType} {ty : FieldType} {ct' : Nat → va_E} (Z : en p m c cc nL s args own D T g A) (hini : meth.name = "<init>") (hw : wo D A s.heap N ad ct H locs) (k : Nat) (hk : k < N) (ha : ad k = a) (hc : ct k = .inr (ci, fs)) (hcl : vwCl[ci]? = some (C, TC, NF)) (hin : ∀ w ∈ u_ws C TC NF, w ∈ AW) (hty : ∀ k, k < NF → parseFieldDescriptor (TC k).2.2.1 = some (ty0 k)) (hnm : ∀ a, a < NF → ∀ b, b < NF → a ≠ b → (TC a).2.1 ≠ (TC b).2.1) (hj : j < NF) (hq : Cond.fieldLink own idx C (TC j).2.1 (TC j).2.2.1 ∈ AW) (hC : (TC j).1 = C) (hown : own = C) (hfin : (TC j).2.2.2 = true) (hd : ty0 j = ty) (hn : narrow ty v = v) (hfit : fits ty v = true) (hl : j < fs.length) (hct : va_up ct k (.inr (ci, fs.set j v)) = ct') (d : decode cc pc = .ok (.putfield idx, 3))
    (kk : ∀ (H1 : Heap) (locs1 : List Loc), wo D A s.heap N ad ct' H1 locs1 → W p l e R s m args below meth c H1 locs1 cells slots Qw (F0 m (pc + 3) ls rest)) : W p l e R s m args below meth c H locs cells slots Qw (F0 m pc ls (v :: .ref a :: rest)) := by
  subst ha; subst hct
  exact va_putF (D := D) (C := C) (T := TC) (N := NF) (ci := ci) (own := own) (ref := C) (ty := ty) Z.1.1 Z.1.2.1 Z.1.2.2.2.2 hin ty0 hty hnm Z.1.2.2.2.1 Z.2.1 hw.1 hw.2.1 hw.2.2 k ((wl_at hk).trans (by rw [hc])) hcl j hj (Z.1.2.2.2.2 _ hq) (fun x hx => by rw [hC] at hx; exact hx) hfin hini (hC.trans hown.symm) (by rw [hty j hj, hd]) hn hfit hl d (fun H1 l1 hP hD hS => kk H1 l1 ⟨by rw [← wl_set hk]; exact hP, by rw [← wl_set hk]; exact hD, hS⟩)
/-- a cell into an array of objects -/
theorem sq {n t0 ci : Nat} {r : vw_C} {vs : List Value} {f : Nat → Option Nat} {a v : Nat} {i : Int32} {ct' : Nat → va_E} (Z : en p m c cc nL s args own D T g A) (hw : wo D A s.heap N ad ct H locs) (k k2 : Nat) (hk : k < N) (hk2 : k2 < N) (ha : ad k = a) (hv : ad k2 = v) (hc : ct k = .inl (T t0, n, .inr (.inr (.inr (.inr f))))) (hc2 : ct k2 = .inr (ci, vs)) (hcl : vwCl[ci]? = some r) (ht : (tyL T)[t0]? = some (T t0, .object r.1)) (hin : vp_in i n) (hct : va_up ct k (.inl (T t0, n, .inr (.inr (.inr (.inr (va_up f i.toNatClampNeg (some v))))))) = ct') (d : decode cc pc = .ok (.aastore, 1))
    (kk : ∀ (H1 : Heap) (locs1 : List Loc), wo D A s.heap N ad ct' H1 locs1 → W p l e R s m args below meth c H1 locs1 cells slots Qw (F0 m (pc + 1) ls rest)) : W p l e R s m args below meth c H locs cells slots Qw (F0 m pc ls (.ref v :: .int i :: .ref a :: rest)) := by
  subst ha; subst hv; subst hct
  exact va_astq Z.1.1 Z.1.2.1 Z.2.1 hw.1 hw.2.1 hw.2.2 k t0 k2 ci ((wl_at hk).trans (by rw [hc])) ht ((wl_at hk2).trans (by rw [hc2])) hcl hin d (fun H1 l1 hP hD hS => kk H1 l1 ⟨by rw [← wl_set hk]; exact hP, by rw [← wl_set hk]; exact hD, hS⟩)
end Made
/-- what is said of a constructor once -/
def cvI (y : MethodName) (bytes : ByteArray) (maxL : Nat) (n : Nat) : Prop := Cond.instanceMethod y ∈ AW ∧ Cond.initialized y.cls ∈ AW ∧ Cond.code y bytes maxL none ∈ AW ∧ y.name = "<init>" ∧ y.cls ≠ "java/lang/invoke/MethodHandle" ∧ y.cls ≠ "java/lang/invoke/VarHandle" ∧ (parseMethodDescriptor y.desc).map (fun d => d.parameters.length) = some n
/-- a constructor's end: its cell's world of Nc cells, the others fresh -/
def qN (D : va_G) (Nc : Nat) (a0 : Nat) (Ec : (Nat → Nat) → Nat → va_E) (A : Nat → Prop) : Array Value → State → Outcome → State → Prop := va_Qv (S := Nat → Nat) (fun ad' => ad' 0 = a0) (fun ad' t => va_P D vwCl (wl Nc ad' (Ec ad')) t.heap ∧ va_D A (wl Nc ad' (Ec ad'))) A
def glue {α : Type} (N : Nat) (f h : Nat → α) : Nat → α := fun k => if k < N then f k else h (k - N)
theorem glue_l {α : Type} {N k : Nat} {f h : Nat → α} (hk : k < N) : glue N f h k = f k := if_pos hk
theorem glue_r {α : Type} {N k : Nat} {f h : Nat → α} : glue N f h (N + k) = h k := by
  unfold glue
  rw [if_neg (by omega), Nat.add_sub_cancel_left]
/-- classes of arrays of objects that can be made -/
def aO (U : State) : Prop := va_AO "NestedBells$Source" U ∧ va_AO "NestedBells$Section" U ∧ va_AO "NestedBells$Machine" U
theorem aO.moved {u U : State} (hvm : u.vm.Alike U.vm) (h : aO u) : aO U := ⟨h.1.moved hvm, h.2.1.moved hvm, h.2.2.moved hvm⟩
def wPi (D : va_G) (T : Nat → ClassId) (g : Nat → Nat) (N : Nat) (ad : Nat → Nat) (ct : Nat → va_E) (av : List Value) (sz : Nat) : Array Value → State → Prop := va_Pc av (fun U => aO U ∧ U.heap.size = sz ∧ va_P D vwCl (wl N ad ct) U.heap ∧ va_K D vwCl (tyL T) U ∧ va_D (fun _ => True) (wl N ad ct) ∧ amb g (wA N ad sz) U U.heap)
theorem wPi_blind {D : va_G} {T : Nat → ClassId} {g : Nat → Nat} {N : Nat} {ad : Nat → Nat} {ct : Nat → va_E} {av : List Value} {sz : Nat} : FrameBlind (wPi D T g N ad ct av sz) := fun a U g1 mk q => by
  obtain ⟨q0, qT, q1, qP, qK, qD, qG⟩ := q
  exact ⟨q0, aO.moved (u := U) (U := U.calling g1 mk a) (Vm.Alike.refl U.vm) qT, q1, qP, va_K.moved (u := U) (U := U.calling g1 mk a) (Vm.Alike.refl U.vm) qK, qD, qG.1.warm (State.WarmedH.refl U), aS.moved (u := U) (U := U.calling g1 mk a) (Vm.Alike.refl U.vm) qG.2⟩
/-- a constructor -/
def mI (l : Launch) (y : MethodName) (cc : ByteArray) (maxL : Nat) (ret : Option FieldType) (rm : Room) (D : va_G) (T : Nat → ClassId) (g : Nat → Nat) (N : Nat) (ad : Nat → Nat) (ct : Nat → va_E) (av : List Value) (Q : (Nat → Prop) → Array Value → State → Outcome → State → Prop) : Prop :=
  ∀ sz, Met l y (.code y cc maxL ret :: AW) rm (wPi D T g N ad ct av sz) (Q (wA N ad sz)) rm.cells rm.slots (wA N ad sz)
theorem mI.of {l : Launch} {y : MethodName} {cc : ByteArray} {maxL : Nat} {ret : Option FieldType} {rm : Room} {D : va_G} {T : Nat → ClassId} {g : Nat → Nat} {N : Nat} {ad : Nat → Nat} {ct : Nat → va_E} {av : List Value} {Q : (Nat → Prop) → Array Value → State → Outcome → State → Prop} {own : String} (hy : plainName y.cls = true) (hlen : (lg_sl av).length ≤ maxL) (hown : y.cls = own)
    (body : ∀ (p : Program) (e : Env) (s : State) (m : MethodId) (below : List Frame) (meth : Method) (c : Code) (A : Nat → Prop) (ls : Array Slot) (H : Heap) (locs : List Loc), en p m c cc maxL s av.toArray own D T g A → aO s → meth.sig.returnType = ret → meth.locks = false → (y.name = "<init>" → meth.name = "<init>") → wo D A s.heap N ad ct H locs → lv_has ls maxL (lv_args 0 av) →
      W p l e rm s m av.toArray below meth c H locs 0 0 (MQ below (Q A) av.toArray s rm.cells rm.slots A) (F0 m 0 ls [])) : mI l y cc maxL ret rm D T g N ad ct av Q := by
  intro sz
  refine Met.ofW (cc := cc) (maxL := maxL) (ret := ret) hy rfl ?_
  intro p e s m args below meth c s₁ B hml hv
  obtain ⟨rfl, hT, hsz, hP, hK, hD0, hG⟩ := hv
  subst hsz
  have hts := atoms_spec (ws := .code y cc maxL ret :: AW) B.pre
  have hl := lv_entry av (n := maxL) hlen
  rw [lg_entry_eq]
  exact body p e s m below meth c (wA N ad s.heap.size) _ _ _ ⟨⟨B.exec, B.bytes, hml, by rw [← hown]; exact findClass_of_methodNamed B.named, fun w hw => hts w (List.mem_cons_of_mem _ hw)⟩, hK, fun q h => Or.inr h, hG⟩ hT B.returns B.notSynchronized (fun h => by rw [← h]; exact (name_of_methodNamed B.named B.method).1) ⟨hP, wl_D hD0 (fun k hk _ => Or.inl ⟨k, hk, rfl⟩), va_S.rf⟩ hl
section Ctor
variable {p : Program} {l : Launch} {e : Env} {R : Room} {s : State} {m : MethodId} {args : Array Value} {below : List Frame} {meth : Method} {c : Code} {H : Heap} {locs : List Loc} {cells slots : Nat} {Qw : State → Prop} {cc : ByteArray} {pc nL : Nat} {ls : Array Slot} {rest st0 : List Value} {own : String} {D : va_G} {T : Nat → ClassId} {g : Nat → Nat} {A : Nat → Prop} {N N' : Nat} {ad ad' : Nat → Nat} {ct ct' : Nat → va_E} {y : MethodName} {bytes : ByteArray} {maxL n idx : Nat} {rm : Room} {As : List Value} {b : Nat} {Q : (Nat → Prop) → Array Value → State → Outcome → State → Prop}
theorem rnI (Z : en p m c cc nL s args own D T g A) (hO : aO s) (hw : wo D A s.heap N' ad' ct' H locs) (hM : mI l y bytes maxL none rm D T g N' ad' ct' (.ref b :: As) Q) (V : cvI y bytes maxL n) (hl : Cond.methodLink own idx y ∈ AW)
    (hsz : ls.size = nL) (hn : As.length = n) (hst : st0 = As.reverse ++ .ref b :: rest) (hcat : (rest.map fun v => v.category).sum ≤ 8) (hR : rm.frames + 1 ≤ R.frames ∧ 8 + (maxL + 11) + rm.locals ≤ R.locals) (hf : cells + rm.cells ≤ R.cells ∧ slots + rm.slots ≤ R.slots) (d : decode cc pc = .ok (.invokespecial idx, 3)) :
    va_Run p l e R s m args below meth c H locs cells slots rm.cells rm.slots (F0 m pc ls st0) rest (Q (wA N' ad' H.size) (Value.ref b :: As).toArray) (wA N' ad' H.size) := by
  subst hst
  obtain ⟨v1, v3, v4, v5, v6, v7, v8⟩ := V
  exact va_runI (As := As) (rest := rest) Z.1 (hM H.size) ⟨callB_of n Z.1.2.2.2.2 (AW_cons v4) rfl rfl rfl (Z.1.2.2.2.2 _ v3) (Z.1.2.2.2.2 _ hl) ⟨v6, v7, v8⟩ hR, v5, Z.1.2.2.2.2 _ v1⟩ ⟨wPi_blind, fun U hU hW => ⟨rfl, hO.moved hW.alike, by rw [hU], by rw [hU]; exact hw.1, va_K.moved hW.alike Z.2.1, wl_D hw.2.1 (fun _ _ _ => trivial), Z.2.2.2.call hw.2.2 hU hW (wA_in hw Z.2.2.1)⟩⟩ rfl hn hsz rfl (lv_room hcat) d hf
theorem rnIN {host : String} (Z : en p m c cc nL s args own D T g A) (hO : aO s) (hw : wo D A s.heap N' ad' ct' H locs) (hM : mI l y bytes maxL none rm D T g N' ad' ct' (.ref b :: As) Q) (V : cvI y bytes maxL n) (hl : va_Nw (.methodLinkNest own idx y host) s)
    (hsz : ls.size = nL) (hn : As.length = n) (hst : st0 = As.reverse ++ .ref b :: rest) (hcat : (rest.map fun v => v.category).sum ≤ 8) (hR : rm.frames + 1 ≤ R.frames ∧ 8 + (maxL + 11) + rm.locals ≤ R.locals) (hf : cells + rm.cells ≤ R.cells ∧ slots + rm.slots ≤ R.slots) (d : decode cc pc = .ok (.invokespecial idx, 3)) :
    va_Run p l e R s m args below meth c H locs cells slots rm.cells rm.slots (F0 m pc ls st0) rest (Q (wA N' ad' H.size) (Value.ref b :: As).toArray) (wA N' ad' H.size) := by
  subst hst
  obtain ⟨v1, v3, v4, v5, v6, v7, v8⟩ := V
  exact va_runIN (As := As) (rest := rest) Z.1 (hM H.size) ⟨va_cnB n Z.1.2.2.2.2 (AW_cons v4) rfl rfl rfl hl (Z.1.2.2.2.2 _ v3) ⟨v6, v7, v8⟩ hR, v5, Z.1.2.2.2.2 _ v1⟩ ⟨wPi_blind, fun U hU hW => ⟨rfl, hO.moved hW.alike, by rw [hU], by rw [hU]; exact hw.1, va_K.moved hW.alike Z.2.1, wl_D hw.2.1 (fun _ _ _ => trivial), Z.2.2.2.call hw.2.2 hU hW (wA_in hw Z.2.2.1)⟩⟩ rfl hn hsz rfl (lv_room hcat) d hf
/-- behind a constructor: the cell that was made last has become a world of Nc cells -/
theorem bk_n {Nc mc ms : Nat} {Ec : (Nat → Nat) → Nat → va_E} {a : Array Value} (hNc : 0 < Nc) (hr : va_Run p l e R s m args below meth c H locs cells slots mc ms (F0 m pc ls st0) rest (qN D Nc b Ec (wA 1 (fun _ => b) H.size) a) (wA 1 (fun _ => b) H.size)) (hw : wo D A s.heap (N + 1) ad ct H locs) (hb : ad N = b) (Z : en p m c cc nL s args own D T g A)
    (kk : ∀ (ad1 : Nat → Nat) (H1 : Heap) (locs1 : List Loc), ad1 0 = b → wo D A s.heap (N + Nc) (glue N ad ad1) (glue N ct (Ec ad1)) H1 locs1 → W p l e R s m args below meth c H1 locs1 (cells + mc) (slots + ms) Qw (F0 m (pc + 3) ls rest)) : W p l e R s m args below meth c H locs cells slots Qw (F0 m pc ls st0) := by
  have hA1 : ∀ q, wA 1 (fun _ => b) H.size q → A q := by
    intro q hq
    rcases hq with ⟨k, -, rfl⟩ | hq
    · rw [← hb]; exact hw.2.1.2 N _ (wl_at (by omega))
    · exact Z.2.2.1 q (Nat.le_trans hw.2.2.1 hq)
  refine va_callv hr hw.2.2 (fun q _ h => hA1 q h) hA1 (fun ad1 t H1 locs1 ht _ hp hB _ hk hS1 => ?_)
  subst ht
  obtain ⟨hP1, hD1⟩ := hB
  have hp' : ad1 0 = b := hp
  refine kk ad1 t.heap locs1 hp' ⟨fun k q hq => ?_, ⟨fun i j x y hx hy hxy => ?_, fun k q hq => ?_⟩, hS1⟩
  · obtain ⟨hkN, rfl⟩ := wl_inv hq
    by_cases hkk : k < N
    · rw [glue_l hkk, glue_l hkk]
      have h0 := hw.1 k _ (wl_at (show k < N + 1 by omega))
      refine h0.kept (hk _ h0.lt (fun hwA => ?_))
      rcases hwA with ⟨z, -, e1⟩ | hwA
      · have e2 : ad N = ad k := hb.trans e1
        exact absurd (wl_inj hw.2.1 (by omega) (by omega) e2) (by omega)
      · exact absurd h0.lt (Nat.not_lt.mpr hwA)
    · obtain ⟨z, rfl⟩ : ∃ z, k = N + z := ⟨k - N, by omega⟩
      rw [glue_r, glue_r]
      exact hP1 z _ (wl_at (by omega))
  · obtain ⟨hi, rfl⟩ := wl_inv hx
    obtain ⟨hj, rfl⟩ := wl_inv hy
    have hxy' : glue N ad ad1 i = glue N ad ad1 j := hxy
    have old : ∀ i, i < N → ad i < H.size ∧ ad i ≠ b := fun i hi => ⟨(hw.1 i _ (wl_at (show i < N + 1 by omega))).lt, fun e1 => absurd (wl_inj hw.2.1 (show i < N + 1 by omega) (show N < N + 1 by omega) (e1.trans hb.symm)) (by omega)⟩
    have new : ∀ z, z < Nc → ad1 z = b ∨ H.size ≤ ad1 z := fun z hz => by
      rcases hD1.2 z _ (wl_at hz) with ⟨_, -, e1⟩ | h1
      · exact Or.inl e1.symm
      · exact Or.inr h1
    have cross : ∀ i z, i < N → z < Nc → ad i ≠ ad1 z := fun i z hi hz e1 => by
      obtain ⟨o1, o2⟩ := old i hi
      rcases new z hz with h | h
      · exact o2 (e1.trans h)
      · omega
    by_cases hiN : i < N
    · by_cases hjN : j < N
      · rw [glue_l hiN, glue_l hjN] at hxy'
        exact wl_inj hw.2.1 (by omega) (by omega) hxy'
      · obtain ⟨z, rfl⟩ : ∃ z, j = N + z := ⟨j - N, by omega⟩
        rw [glue_l hiN, glue_r] at hxy'
        exact absurd hxy' (cross i z hiN (by omega))
    · obtain ⟨z, rfl⟩ : ∃ z, i = N + z := ⟨i - N, by omega⟩
      by_cases hjN : j < N
      · rw [glue_l hjN, glue_r] at hxy'
        exact absurd hxy'.symm (cross j z hjN (by omega))
      · obtain ⟨z2, rfl⟩ : ∃ z2, j = N + z2 := ⟨j - N, by omega⟩
        rw [glue_r, glue_r] at hxy'
        have := wl_inj hD1 (show z < Nc by omega) (show z2 < Nc by omega) hxy'
        omega
  · obtain ⟨hkN, rfl⟩ := wl_inv hq
    show A (glue N ad ad1 k)
    by_cases hkk : k < N
    · rw [glue_l hkk]; exact hw.2.1.2 k _ (wl_at (show k < N + 1 by omega))
    · obtain ⟨z, rfl⟩ : ∃ z, k = N + z := ⟨k - N, by omega⟩
      rw [glue_r]
      exact hA1 _ (hD1.2 z _ (wl_at (by omega)))
/-- a constructor's return -/
theorem rt_n {Ec : (Nat → Nat) → Nat → va_E} (Z : en p m c cc nL s args own D T g A) (hr : meth.sig.returnType = none) (hlk : meth.locks = false) (hw : wo D A s.heap N ad (Ec ad) H locs) (h0 : ad 0 = b) (d : decode cc pc = .ok (.return_, 1)) : W p l e R s m args below meth c H locs cells slots (MQ below (qN D N b Ec A) args s cells slots A) (F0 m pc ls []) :=
  W.vret Z.1.1 Z.1.2.1 hr (fun t ht _ => ⟨⟨ad, rfl, h0, by show va_P _ _ _ t.heap; rw [ht]; exact hw.1, hw.2.1⟩, hw.2.2.F ht⟩) hw.2.2.2.2 d hlk
end Ctor
theorem va_uu {ct : Nat → va_E} {k : Nat} {x y : va_E} : va_up (va_up ct k x) k y = va_up ct k y := by
  funext j
  unfold va_up
  by_cases h : j = k
  · rw [if_pos h, if_pos h]
  · rw [if_neg h, if_neg h, if_neg h]
theorem va_ud {ct : Nat → va_E} {k i : Nat} {x y : va_E} (h : i ≠ k) : va_up (va_up ct k x) i y = va_up (va_up ct i y) k x := by
  funext j
  unfold va_up
  by_cases h1 : j = k
  · by_cases h2 : j = i
    · exact absurd (h2.symm.trans h1) h
    · rw [if_neg h2, if_pos h1, if_pos h1]
  · by_cases h2 : j = i
    · rw [if_pos h2, if_neg h1, if_pos h2]
    · rw [if_neg h2, if_neg h1, if_neg h1, if_neg h2]
theorem ext_u {ct : Nat → va_E} {N : Nat} {x y : va_E} (h : 0 < N) : ext (va_up ct 0 x) N y = va_up (ext ct N y) 0 x := by
  funext j
  unfold va_up ext
  by_cases h1 : j = N
  · rw [if_pos h1, if_neg (by omega), if_pos h1]
  · rw [if_neg h1, if_neg h1]
section Own
variable {p : Program} {l : Launch} {e : Env} {R : Room} {s : State} {m : MethodId} {args : Array Value} {below : List Frame} {meth : Method} {c : Code} {H : Heap} {locs : List Loc} {cells slots : Nat} {Qw : State → Prop} {cc : ByteArray} {pc nL : Nat} {ls : Array Slot} {rest : List Value} {own : String} {D : va_G} {T : Nat → ClassId} {g : Nat → Nat} {A : Nat → Prop} {N : Nat} {ad : Nat → Nat} {ct : Nat → va_E} {X : va_E}
/-- a field of the object that is made -/
theorem pOo {C : String} {TC : u_T} {NF ci idx j : Nat} {fs fs' : List Value} {v : Value} {a : Nat} {ty0 : Nat → FieldType} {ty : FieldType} (Z : en p m c cc nL s args own D T g A) (hini : meth.name = "<init>") (hw : wo D A s.heap N ad (va_up ct 0 (.inr (ci, fs))) H locs) (hN : 0 < N) (ha : ad 0 = a) (hcl : vwCl[ci]? = some (C, TC, NF)) (hin : ∀ w ∈ u_ws C TC NF, w ∈ AW) (hty : ∀ k, k < NF → parseFieldDescriptor (TC k).2.2.1 = some (ty0 k)) (hnm : ∀ a, a < NF → ∀ b, b < NF → a ≠ b → (TC a).2.1 ≠ (TC b).2.1) (hj : j < NF) (hq : Cond.fieldLink own idx C (TC j).2.1 (TC j).2.2.1 ∈ AW) (hC : (TC j).1 = C) (hown : own = C) (hd : ty0 j = ty) (hn : narrow ty v = v) (hfit : fits ty v = true) (hl : j < fs.length) (hfs : fs.set j v = fs') (d : decode cc pc = .ok (.putfield idx, 3))
    (kk : ∀ (H1 : Heap) (locs1 : List Loc), wo D A s.heap N ad (va_up ct 0 (.inr (ci, fs'))) H1 locs1 → W p l e R s m args below meth c H1 locs1 cells slots Qw (F0 m (pc + 3) ls rest)) : W p l e R s m args below meth c H locs cells slots Qw (F0 m pc ls (v :: .ref a :: rest)) := by
  subst hfs
  cases hf : (TC j).2.2.2 with
  | false => exact pf Z hw 0 hN ha (if_pos rfl) hcl hin hty hnm hj hq hC (Or.inl hf) hd hn hfit hl va_uu d hf kk
  | true => exact pfF Z hini hw 0 hN ha (if_pos rfl) hcl hin hty hnm hj hq hC hown hf hd hn hfit hl va_uu d kk
theorem nI0 {n : Int32} {N' : Nat} (Z : en p m c cc nL s args own D T g A) (hw : wo D A s.heap N ad (va_up ct 0 X) H locs) (h0 : 0 < N) (harr : Cond.arrayClass .int ∈ AW) (hn : ¬ n < 0) (hN : n.toNatClampNeg = N') (hb : N' * 4 ≤ 536870912) (hcells : cells + 1 ≤ R.cells) (hslots : slots + N' ≤ R.slots) (d : decode cc pc = .ok (.newarray .int, 2))
    (kk : ∀ (q : Nat) (H1 : Heap), wo D A s.heap (N + 1) (ext ad N q) (va_up (ext ct N (.inl (T 1, N', .inl (fun _ => 0)))) 0 X) H1 locs → W p l e R s m args below meth c H1 locs (cells + 1) (slots + N') Qw (F0 m (pc + 2) ls (.ref q :: rest))) : W p l e R s m args below meth c H locs cells slots Qw (F0 m pc ls (.int n :: rest)) :=
  nwI Z hw harr hn hN hb hcells hslots d (fun q H1 hw1 => kk q H1 (hw1.eq (ext_u h0)))
theorem nB0 {n : Int32} {N' : Nat} (Z : en p m c cc nL s args own D T g A) (hw : wo D A s.heap N ad (va_up ct 0 X) H locs) (h0 : 0 < N) (harr : Cond.arrayClass .byte ∈ AW) (hn : ¬ n < 0) (hN : n.toNatClampNeg = N') (hb : N' * 1 ≤ 536870912) (hcells : cells + 1 ≤ R.cells) (hslots : slots + N' ≤ R.slots) (d : decode cc pc = .ok (.newarray .byte, 2))
    (kk : ∀ (q : Nat) (H1 : Heap), wo D A s.heap (N + 1) (ext ad N q) (va_up (ext ct N (.inl (T 0, N', .inl (fun _ => 0)))) 0 X) H1 locs → W p l e R s m args below meth c H1 locs (cells + 1) (slots + N') Qw (F0 m (pc + 2) ls (.ref q :: rest))) : W p l e R s m args below meth c H locs cells slots Qw (F0 m pc ls (.int n :: rest)) :=
  va_newa (D := D) (atype := .byte) (ty := .byte) (a0 := (N', .inl (fun _ => 0))) Z.1.1 Z.1.2.1 (Z.1.2.2.2.2 _ harr) rfl Z.2.1 hw.1 hw.2.1 hw.2.2 Z.2.2.1 (fun _ => rfl) hn hN hb hcells hslots d (fun q cA H1 hK hP hD hS => by
    have e1 : cA = T 0 := Option.some.inj ((va_nm_byte (tyN hK)).symm.trans (va_nm_byte (Z.2.1.2 0 (T 0, .byte) rfl).2))
    subst e1
    exact kk q H1 (wo.eq ⟨by rw [← wl_ext]; exact hP, by rw [← wl_ext]; exact hD, hS⟩ (ext_u h0)))
theorem nQ0 {C nm : String} {n : Int32} {N' idx t0 : Nat} (Z : en p m c cc nL s args own D T g A) (hw : wo D A s.heap N ad (va_up ct 0 X) H locs) (h0 : 0 < N) (hcl : Cond.classLink own idx C ∈ AW) (hover : va_AO C s) (ht : (tyL T)[t0]? = some (T t0, .object C)) (hnm : "[" ++ (FieldType.object C).toString = nm) (hn : ¬ n < 0) (hN : n.toNatClampNeg = N') (hb : N' * 4 ≤ 536870912) (hcells : cells + 1 ≤ R.cells) (hslots : slots + N' ≤ R.slots) (d : decode cc pc = .ok (.anewarray idx, 3))
    (kk : ∀ (q : Nat) (H1 : Heap), wo D A s.heap (N + 1) (ext ad N q) (va_up (ext ct N (.inl (T t0, N', .inr (.inr (.inr (.inr (fun _ => none))))))) 0 X) H1 locs → W p l e R s m args below meth c H1 locs (cells + 1) (slots + N') Qw (F0 m (pc + 3) ls (.ref q :: rest))) : W p l e R s m args below meth c H locs cells slots Qw (F0 m pc ls (.int n :: rest)) :=
  nwQ Z hw hcl hover ht hnm hn hN hb hcells hslots d (fun q H1 hw1 => kk q H1 (hw1.eq (ext_u h0)))
theorem oI {a idx : Nat} (Z : en p m c cc nL s args own D T g A) (hl : Cond.methodLink own idx ⟨"java/lang/Object", "<init>", "()V"⟩ ∈ AW) (hsz : ls.size = nL) (hfr : 1 ≤ R.frames) (hlo : 20 ≤ R.locals) (d : decode cc pc = .ok (.invokespecial idx, 3))
    (kk : W p l e R s m args below meth c H locs cells slots Qw (F0 m (pc + 3) ls [])) : W p l e R s m args below meth c H locs cells slots Qw (F0 m pc ls [.ref a]) :=
  W.objInit Z.1.1 Z.1.2.1 Z.1.2.2.2.1 (Z.1.2.2.2.2 _ hl) (Z.1.2.2.2.2 _ q_1_30) (Z.1.2.2.2.2 _ q_1_31) rfl (hsz.trans Z.1.2.2.1.symm) rfl d hfr (Nat.le_trans (Nat.add_le_add_right (lv_room (st := []) (by decide)) 12) hlo) kk
end Own
