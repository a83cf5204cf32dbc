/-! the law's world: the object and the long array, and the reference -/
def lE (g : Nat → Nat) (T : Nat → ClassId) (ad : Nat → Nat) (k : Nat) (r : Nat → Int32) : va_E := if k < 406 then oE g T ad k r else dE T (fun x => ad (406 + x)) (k - 406) r
def giW (k : Nat) : Option Nat := if k < 406 then some k else none
def giD (k : Nat) : Option Nat := if 406 ≤ k ∧ k < 412 then some (k - 406) else none
def gmD (k : Nat) : Nat := 406 + k
theorem prtW {g : Nat → Nat} {T : Nat → ClassId} {ad : Nat → Nat} : prt (lE g T ad) 412 406 (fun k => k) giW (oE g T ad) := by
  refine ⟨fun k hk => show k < 412 by omega, fun j hj => if_pos hj, fun a j h => ?_, fun k hk r => if_pos hk⟩
  unfold giW at h
  by_cases c : a < 406
  · rw [if_pos c] at h
    have e := Option.some.inj h
    subst e
    exact ⟨c, rfl⟩
  · rw [if_neg c] at h; cases h
theorem prtD {g : Nat → Nat} {T : Nat → ClassId} {ad : Nat → Nat} : prt (lE g T ad) 412 6 gmD giD (dE T (fun x => ad (gmD x))) := by
  refine ⟨fun k hk => show 406 + k < 412 by omega, fun j hj => ?_, fun a j h => ?_, fun k hk r => ?_⟩
  · unfold giD gmD
    rw [if_pos (by omega), Nat.add_sub_cancel_left]
  · unfold giD at h
    by_cases c : 406 ≤ a ∧ a < 412
    · rw [if_pos c] at h
      have e := Option.some.inj h
      subst e
      exact ⟨by omega, by unfold gmD; omega⟩
    · rw [if_neg c] at h; cases h
  · show lE g T ad (406 + k) r = _
    unfold lE
    rw [if_neg (by omega), show 406 + k - 406 = k by omega]
    rfl
theorem prtB {g : Nat → Nat} {T : Nat → ClassId} {ad : Nat → Nat} : prt (lE g T ad) 412 405 (fun k => k) giO (bE g T ad) := by
  refine ⟨fun k hk => show k < 412 by omega, prtO (g := g) (T := T) (ad := ad).2.1, prtO (g := g) (T := T) (ad := ad).2.2.1, fun k hk r => ?_⟩
  show lE g T ad k r = _
  unfold lE
  rw [if_pos (by omega)]
  exact if_pos hk
/-- the object's relation reads its 405 places alone -/
theorem RBg.lo {τ : Int} {β β' δ : St} (h : RBg τ β δ) (e : ∀ k, k < 405 → β' k = β k) : RBg τ β' δ := by
  obtain ⟨m1, ⟨c, nx, hH⟩, m3, m4⟩ := h
  refine ⟨m1.mcong (fun a b ha => congrFun (e (gmM 0 a) (by unfold gmM; omega)) b), ⟨c, nx, hH.congr (Int.le_refl _) (e 1 (by decide)) (fun q a b _ h7 _ ha => congrFun (e (gmM q a) (by unfold gmM; omega)) b) rfl rfl⟩, m3.congr (by rw [e 3 (by decide)]) (e 4 (by decide)) (e 5 (by decide)) rfl rfl rfl, by rw [e 0 (by decide)]; exact m4⟩
/-- what the law compares behind a wrapper -/
theorem api_law {τ : Int} {σ : St} {C : Nat × Int32 × St} {D : Int32 × St} {W : Nat → Int32} (h : apiR τ C D W) : (C.1 ≠ 0 → W C.1 ≠ 0) ∧ (wr W σ C).1 = D.2 0 4 ∧ ((wr W σ C).1 = 0 → mk64 ((wr W σ C).2 405 0) ((wr W σ C).2 405 1) = D.1.toInt64) ∧ RBg τ (wr W σ C).2 D.2 := by
  obtain ⟨hR, ⟨c0, d0, e⟩ | ⟨c0, w0, d0⟩⟩ := h
  · have ew : wr W σ C = (0, oL σ C.2.2 C.2.1) := if_pos c0
    rw [ew]
    refine ⟨fun q => absurd c0 q, d0.symm, fun _ => ?_, hR.lo (fun k hk => ?_)⟩
    · show mk64 (oL σ C.2.2 C.2.1 405 0) (oL σ C.2.2 C.2.1 405 1) = _
      unfold oL
      rw [up2_s, up2_j (by decide), up2_s, mk_lh, e]
    · show oL σ C.2.2 C.2.1 k = _
      unfold oL
      rw [up2_rowk (by omega), up2_rowk (by omega), mgO hk]
  · have ew : wr W σ C = (W C.1, mg giO σ C.2.2) := if_neg c0
    rw [ew]
    exact ⟨fun _ => w0, d0.symm, fun q => absurd q w0, hR.lo (fun k hk => mgO hk)⟩
/-- what is said of a wrapper once -/
def cvW (y : MethodName) (bytes : ByteArray) (maxL : Nat) (hh : List (Nat × Nat × Nat × Nat)) (n : Nat) : Prop := Cond.static y ∈ AW ∧ Cond.initialized y.cls ∈ AW ∧ Cond.codeWith y bytes maxL (some .int) hh ∈ AW ∧ y.cls ≠ "java/lang/invoke/MethodHandle" ∧ y.cls ≠ "java/lang/invoke/VarHandle" ∧ (parseMethodDescriptor y.desc).map (fun d => d.parameters.length) = some n
section LawRows
variable {p : Program} {l : Launch} {e : Env} {R : Room} {s : State} {m : MethodId} {args : Array Value} {below : List Frame} {meth : Method} {c : Code} {H : Heap} {locs : List Loc} {cells slots : Nat} {Qw : State → Prop} {cc : ByteArray} {pc nL : Nat} {ls : Array Slot} {rest st0 : List Value} {own : String} {D : va_G} {T : Nat → ClassId} {g : Nat → Nat} {A : Nat → Prop} {N : Nat} {ad : Nat → Nat} {ct : Nat → va_E}
theorem rnW {y : MethodName} {bytes : ByteArray} {maxL n idx : Nat} {hh : List (Nat × Nat × Nat × Nat)} {rm : Room} {As : List Value} {Q : (Nat → Prop) → Array Value → State → Outcome → State → Prop} (Z : en p m c cc nL s args own D T g A) (hw : wo D A s.heap N ad ct H locs) (hT : tW s) (hN : nCs s) (hM : mW l y bytes maxL hh rm D T g N ad ct As Q) (V : cvW y bytes maxL hh n) (hyo : y.cls = own) (hl : Cond.methodLink own idx y ∈ AW)
    (hsz : ls.size = nL) (hn : As.length = n) (hst : st0 = As.reverse ++ rest) (hcat : (rest.map fun v => v.category).sum ≤ 8) (hR : rm.frames + 1 ≤ R.frames ∧ 8 + (maxL + 11) + rm.locals ≤ R.locals) (hf : cells + rm.cells ≤ R.cells ∧ slots + rm.slots ≤ R.slots) (d : decode cc pc = .ok (.invokestatic idx, 3)) :
    va_Run p l e R s m args below meth c H locs cells slots rm.cells rm.slots (F0 m pc ls st0) rest (Q (wA N ad H.size) As.toArray) (wA N ad H.size) := by
  subst hst; subst hyo
  obtain ⟨v1, v3, v4, v6, v7, v8⟩ := V
  have hr := vx_runSX (p := p) (e := e) (R := R) (below := below) (meth := meth) (locs := locs) (g := F0 m pc ls (As.reverse ++ rest)) (As := As) (rest := rest) Z.1 (hM H.size) (vx_cwSW n Z.1.2.2.2.2 (AW_app (fun w hw => by
    simp only [List.mem_cons, List.not_mem_nil, or_false] at hw
    rcases hw with rfl | rfl | rfl
    · exact hl
    · exact v1
    · exact v3) (AW_cons v4)) rfl rfl rfl ⟨v6, v7, v8⟩ hR) ⟨wPw_blind, fun U hU hW => ⟨rfl, ⟨hT.warm hW, hN.moved hW.alike⟩, by rw [hU], by rw [hU]; exact hw.1, va_K.moved hW.alike Z.2.1, wl_D hw.2.1 (fun _ _ _ => trivial), Z.2.2.2.call hw.2.2 hU hW (wA_in hw Z.2.2.1)⟩⟩ rfl hn hsz rfl (lv_room hcat) d hf
  intro T0 hT0 X
  rcases hr T0 hT0 X with h | ⟨q, st₀, t, T', L, E, ce, h0, X', hL, e1, e2, hF, -⟩
  · exact h
  · exact hF.elim
end LawRows
