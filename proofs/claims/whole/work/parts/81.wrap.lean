/-! the law's wrappers: the object and the array that takes its answer -/
def oE (g : Nat → Nat) (T : Nat → ClassId) (ad : Nat → Nat) (k : Nat) (r : Nat → Int32) : va_E := if k < 405 then bE g T ad k r else .inl (T 2, 1, .inr (.inl (fun j => if j = 0 then mk64 (r 0) (r 1) else 0)))
def giO (k : Nat) : Option Nat := if k < 405 then some k else none
theorem prtO {g : Nat → Nat} {T : Nat → ClassId} {ad : Nat → Nat} : prt (oE g T ad) 406 405 (fun k => k) giO (bE g T ad) := by
  refine ⟨fun k hk => show k < 406 by omega, fun j hj => if_pos hj, fun a j h => ?_, fun k hk r => if_pos hk⟩
  unfold giO at h
  by_cases c : a < 405
  · rw [if_pos c] at h
    have e := Option.some.inj h
    subst e
    exact ⟨c, rfl⟩
  · rw [if_neg c] at h; cases h
/-- what is not castable: a wrapper's later handlers -/
def nCs (U : State) : Prop := va_Nc "java/lang/IllegalArgumentException" "java/lang/IndexOutOfBoundsException" U ∧ va_Nc "java/lang/IllegalStateException" "java/lang/IndexOutOfBoundsException" U ∧ va_Nc "java/lang/IllegalStateException" "java/lang/IllegalArgumentException" U
theorem nCs.moved {u U : State} (hvm : u.vm.Alike U.vm) (h : nCs u) : nCs U := ⟨h.1.moved hvm, h.2.1.moved hvm, h.2.2.moved hvm⟩
def wPw (D : va_G) (T : Nat → ClassId) (g : Nat → Nat) (N : Nat) (ad : Nat → Nat) (ct : Nat → va_E) (av : List Value) (sz : Nat) : Array Value → State → Prop := va_Pc av (fun U => (tW U ∧ nCs U) ∧ U.heap.size = sz ∧ va_P D vwCl (wl N ad ct) U.heap ∧ va_K D vwCl (tyL T) U ∧ va_D (fun _ => True) (wl N ad ct) ∧ amb g (wA N ad sz) U U.heap)
theorem wPw_blind {D : va_G} {T : Nat → ClassId} {g : Nat → Nat} {N : Nat} {ad : Nat → Nat} {ct : Nat → va_E} {av : List Value} {sz : Nat} : FrameBlind (wPw D T g N ad ct av sz) := fun a U g1 mk q => by
  obtain ⟨q0, ⟨qT, qN⟩, q1, qP, qK, qD, qG⟩ := q
  exact ⟨q0, ⟨qT.warm (U := U.calling g1 mk a) (State.WarmedH.refl U), nCs.moved (u := U) (U := U.calling g1 mk a) (Vm.Alike.refl U.vm) qN⟩, q1, qP, va_K.moved (u := U) (U := U.calling g1 mk a) (Vm.Alike.refl U.vm) qK, qD, qG.1.warm (State.WarmedH.refl U), aS.moved (u := U) (U := U.calling g1 mk a) (Vm.Alike.refl U.vm) qG.2⟩
/-- a wrapper: it catches all -/
def mW (l : Launch) (y : MethodName) (cc : ByteArray) (maxL : Nat) (hh : List (Nat × Nat × Nat × Nat)) (rm : Room) (D : va_G) (T : Nat → ClassId) (g : Nat → Nat) (N : Nat) (ad : Nat → Nat) (ct : Nat → va_E) (av : List Value) (Q : (Nat → Prop) → Array Value → State → Outcome → State → Prop) : Prop :=
  ∀ sz, vx_Met l y (.codeWith y cc maxL (some .int) hh :: AW) rm (wPw D T g N ad ct av sz) (Q (wA N ad sz)) (fun _ _ _ => False) rm.cells rm.slots (wA N ad sz)
theorem mW.of {l : Launch} {y : MethodName} {cc : ByteArray} {maxL : Nat} {hh : List (Nat × Nat × Nat × Nat)} {rm : Room} {D : va_G} {T : Nat → ClassId} {g : Nat → Nat} {N : Nat} {ad : Nat → Nat} {ct : Nat → va_E} {av : List Value} {Q : (Nat → Prop) → Array Value → State → Outcome → State → Prop} {own : String} (hy : plainName y.cls = true) (hlen : (lg_sl av).length ≤ maxL) (hown : y.cls = own)
    (body : ∀ (p : Program) (e : Env) (s : State) (m : MethodId) (below : List Frame) (meth : Method) (c : Code) (A : Nat → Prop) (ls : Array Slot) (H : Heap) (locs : List Loc), en p m c cc maxL s av.toArray own D T g A → tW s → nCs s → meth.sig.returnType = some .int → meth.locks = false → c.exceptionTable.toList = tableOf hh → wo D A s.heap N ad ct H locs → lv_has ls maxL (lv_args 0 av) →
      W p l e rm s m av.toArray below meth c H locs 0 0 (vx_MQ below (Q A) (fun _ _ _ => False) av.toArray s rm.cells rm.slots A) (F0 m 0 ls [])) : mW l y cc maxL hh rm D T g N ad ct av Q := by
  intro sz
  refine vx_ofWH (cc := cc) (maxL := maxL) (ret := some .int) (hh := hh) hy rfl ?_
  intro p e s m args below meth c s₁ B hml hv
  obtain ⟨rfl, ⟨hT, hN⟩, hsz, hP, hK, hD0, hG⟩ := hv
  subst hsz
  have hts := atoms_spec (ws := .codeWith y cc maxL (some .int) hh :: AW) B.pre
  have hl := lv_entry av (n := maxL) hlen
  have ht := vx_table (x := y) B (hts _ List.mem_cons_self)
  rw [lg_entry_eq]
  exact body p e s m below meth c (wA N ad s.heap.size) _ _ _ ⟨⟨B.exec, B.bytes, hml, by rw [← hown]; exact findClass_of_methodNamed B.named, fun w hw => hts w (List.mem_cons_of_mem _ hw)⟩, hK, fun q h => Or.inr h, hG⟩ hT hN B.returns B.notSynchronized ht ⟨hP, wl_D hD0 (fun k hk _ => Or.inl ⟨k, hk, rfl⟩), va_S.rf⟩ hl
section Wrap
variable {p : Program} {l : Launch} {e : Env} {R : Room} {s : State} {m : MethodId} {args : Array Value} {below : List Frame} {meth : Method} {c : Code} {H : Heap} {locs : List Loc} {cells slots mc ms : Nat} {Qw : State → Prop} {cc : ByteArray} {pc nL : Nat} {ls : Array Slot} {rest st0 : List Value} {own : String} {D : va_G} {T : Nat → ClassId} {g : Nat → Nat} {A : Nat → Prop} {N N' : Nat} {ad gm : Nat → Nat} {gi : Nat → Option Nat} {E E' : Nat → (Nat → Int32) → va_E} {σ : St} {a : Array Value}
/-- behind a call on a part that may throw, where something catches -/
theorem bo_i {P : Int32 → St → Prop} {PX : Nat → St → Prop} (h : prt E N N' gm gi E') (hr : vx_Run p l e R s m args below meth c H locs cells slots mc ms (F0 m pc ls st0) rest (qI D N' (fun k => ad (gm k)) E' P (wA N' (fun k => ad (gm k)) H.size) a) (qX D N' (fun k => ad (gm k)) E' PX (wA N' (fun k => ad (gm k)) H.size)) (wA N' (fun k => ad (gm k)) H.size)) (hw : wo D A s.heap N ad (cE E σ) H locs) (Z : en p m c cc nL s args own D T g A)
    (kx : ∀ (k : Nat) (u : St) (H1 : Heap) (locs1 : List Loc) (q9 : Addr) (ce : Cell), PX k u → wo D A s.heap N ad (cE E (mg gi σ u)) H1 locs1 → H1[q9]? = some ce → ce.vm = .none → s.vm.findClass (exN k) = some ce.cls → vx_W p l e R s m args below meth c H1 locs1 (cells + mc) (slots + ms) Qw (F0 m pc ls rest) q9)
    (kk : ∀ (r : Int32) (u : St) (H1 : Heap) (locs1 : List Loc), P r u → wo D A s.heap N ad (cE E (mg gi σ u)) H1 locs1 → W p l e R s m args below meth c H1 locs1 (cells + mc) (slots + ms) Qw (F0 m (pc + 3) ls (.int r :: rest))) : W p l e R s m args below meth c H locs cells slots Qw (F0 m pc ls st0) :=
  vx_calli hr hw.2.2 (fun q _ h1 => wA_in (h.sub hw) Z.2.2.1 q h1) (wA_in (h.sub hw) Z.2.2.1) (fun q _ h1 => wA_in (h.sub hw) Z.2.2.1 q h1) (fun E1 ce q9 u t H1 locs1 e1 _ hp hB _ hk hS1 hce hv hcl => by
    obtain ⟨rfl, hB2⟩ := hB
    rw [← e1] at hS1 hk hce ⊢
    exact kx u.1 u.2 t.heap locs1 q9 ce hp (h.back hw hB2 hk hS1) hce hv hcl) (fun r u t H1 locs1 ht1 _ hp hB _ hk hS1 => by
    rw [← ht1]; rw [← ht1] at hS1 hk; exact kk r u t.heap locs1 hp (h.back hw hB hk hS1))
/-- the answer is laid down -/
theorem lO {v : Int64} {b : Nat} (Z : en p m c cc nL s args own D T g A) (hw : wo D A s.heap 406 ad (cE (oE g T ad) σ) H locs) (ha : ad 405 = b) (d : decode cc pc = .ok (.lastore, 1))
    (kk : ∀ (H1 : Heap) (locs1 : List Loc), wo D A s.heap 406 ad (cE (oE g T ad) (up2 (up2 σ 405 0 (lo64 v)) 405 1 (hi64 v))) H1 locs1 → W p l e R s m args below meth c H1 locs1 cells slots Qw (F0 m (pc + 1) ls rest)) : W p l e R s m args below meth c H locs cells slots Qw (F0 m pc ls (.long v :: .int 0 :: .ref b :: rest)) := by
  subst ha
  refine va_last (n := 1) (i := 0) (f := fun j => if j = 0 then mk64 (σ 405 0) (σ 405 1) else 0) Z.1.1 Z.1.2.1 Z.2.1 hw.1 hw.2.1 hw.2.2 405 2 (wl_at (by decide)) rfl (vp_in_nI (n := 0) (by decide) (by decide)) d (fun H1 l1 hP hD hS => kk H1 l1 ?_)
  have e : va_up (cE (oE g T ad) σ) 405 (.inl (T 2, 1, .inr (.inl (vp_updL (fun j => if j = 0 then mk64 (σ 405 0) (σ 405 1) else 0) 0 v)))) = cE (oE g T ad) (up2 (up2 σ 405 0 (lo64 v)) 405 1 (hi64 v)) := by
    funext k
    by_cases hk : k = 405
    · subst hk
      refine (if_pos rfl).trans ?_
      show (Sum.inl (T 2, 1, .inr (.inl (vp_updL (fun j => if j = 0 then mk64 (σ 405 0) (σ 405 1) else 0) 0 v))) : va_E) = .inl (T 2, 1, .inr (.inl (fun j => if j = 0 then mk64 (up2 (up2 σ 405 0 (lo64 v)) 405 1 (hi64 v) 405 0) (up2 (up2 σ 405 0 (lo64 v)) 405 1 (hi64 v) 405 1) else 0)))
      rw [up2_s, up2_j (by decide), up2_s, mk_lh]
      congr 5
      funext j
      unfold vp_updL
      by_cases hj : j = 0
      · rw [if_pos hj, if_pos hj]
      · rw [if_neg hj, if_neg hj]
        exact if_neg hj
    · refine (if_neg hk).trans ?_
      show oE g T ad k (σ k) = oE g T ad k (up2 (up2 σ 405 0 (lo64 v)) 405 1 (hi64 v) k)
      rw [up2_rowk hk, up2_rowk hk]
  rw [← e]
  exact ⟨by rw [← wl_set (by decide)]; exact hP, by rw [← wl_set (by decide)]; exact hD, hS⟩
end Wrap
/-- what a wrapper answers, and what it leaves -/
def oL (σ u : St) (v : Int32) : St := up2 (up2 (mg giO σ u) 405 0 (lo64 v.toInt64)) 405 1 (hi64 v.toInt64)
def wr (W : Nat → Int32) (σ : St) (C : Nat × Int32 × St) : Int32 × St := if C.1 = 0 then (0, oL σ C.2.2 C.2.1) else (W C.1, mg giO σ C.2.2)
theorem mgO {σ u : St} {k : Nat} (h : k < 405) : mg giO σ u k = u k := by
  funext b
  unfold mg giO
  rw [if_pos h]
theorem InvB.lo {σ τ : St} (I : InvB σ) (h : ∀ k, k < 405 → τ k = σ k) : InvB τ := by
  obtain ⟨i1, i2, i3, i4⟩ := I
  refine ⟨by rw [h 1 (by decide)]; exact i1, by rw [h 1 (by decide)]; exact i2, ?_, fun q hq => (i4 q hq).cong ?_ ?_ ?_ ?_ (fun i hi => ?_)⟩
  · have e : sb gmX τ 0 = sb gmX σ 0 := h 3 (by decide)
    unfold InvX at i3 ⊢
    rw [e]
    exact i3
  all_goals
    first
      | exact congrFun (h (gmM q 0) (by unfold gmM; omega)) _
      | exact congrFun (h (gmM q 5) (by unfold gmM; omega)) _
      | exact congrFun (h (gmM q (9 + i)) (by unfold gmM; omega)) _
theorem mgO_inv {σ u : St} (I : InvB u) : InvB (mg giO σ u) := I.lo (fun k hk => mgO hk)
theorem oL_inv {σ u : St} {v : Int32} (I : InvB u) : InvB (oL σ u v) := I.lo (fun k hk => by unfold oL; rw [up2_rowk (by omega), up2_rowk (by omega), mgO hk])
