section OrdRow
variable {p : Program} {l : Launch} {e : Env} {R : Room} {s : State} {m : MethodId} {args : Array Value} {below : List Frame} {meth : Method} {c : Code} {H : Heap} {locs : List Loc} {cells slots : Nat} {Qw : State → Prop} {cc : ByteArray} {pc nL : Nat} {ls : Array Slot} {rest st0 : List Value} {own C : String} {D : va_G} {T : Nat → ClassId} {g : Nat → Nat} {A : Nat → Prop} {N N' : Nat} {ad ad' : Nat → Nat} {x y : MethodName} {bytes : ByteArray} {maxL n idx : Nat} {ret : Option FieldType} {rm : Room} {ct ct' : Nat → va_E} {As : List Value} {b : Nat} {Q : (Nat → Prop) → Array Value → State → Outcome → State → Prop}
/-- what is said of an inherited method -/
def cvU (x y : MethodName) (C owner : String) (bytes : ByteArray) (maxL : Nat) (ret : Option FieldType) (n : Nat) : Prop := Cond.selects C x y ∈ AW ∧ Cond.instanceMethod y ∈ AW ∧ Cond.initialized y.cls ∈ AW ∧ Cond.code y bytes maxL ret ∈ AW ∧ y = ⟨owner, x.name, x.desc⟩ ∧ owner ≠ "java/lang/invoke/MethodHandle" ∧ owner ≠ "java/lang/invoke/VarHandle" ∧ (parseMethodDescriptor x.desc).map (fun d => d.parameters.length) = some n
theorem rnU {owner : String} (Z : en p m c cc nL s args own D T g A) (hw : wo D A s.heap N' ad' ct' H locs) (hM : mX l y bytes maxL ret rm D T g N' ad' ct' (.ref b :: As) Q) (V : cvU x y C owner bytes maxL ret n) (hl : Cond.methodLink own idx x ∈ AW) (hsm : Cond.sameMethod x.cls owner x.name x.desc ∈ AW) (hrc : ∃ cell : Cell, H[b]? = some cell ∧ cell.vm.isStatics = false ∧ s.vm.findClass C = some cell.cls)
    (hsz : ls.size = nL) (hn : As.length = n) (hst : st0 = As.reverse ++ .ref b :: rest) (hcat : (rest.map fun v => v.category).sum ≤ 8) (hR : rm.frames + 1 ≤ R.frames ∧ 8 + (maxL + 11) + rm.locals ≤ R.locals) (hf : cells + rm.cells ≤ R.cells ∧ slots + rm.slots ≤ R.slots) (d : decode cc pc = .ok (.invokevirtual idx, 3)) :
    va_Run p l e R s m args below meth c H locs cells slots rm.cells rm.slots (F0 m pc ls st0) rest (Q (wA N' ad' H.size) (Value.ref b :: As).toArray) (wA N' ad' H.size) := by
  subst hst
  obtain ⟨v1, v2, v3, v4, v5, v6, v7, v8⟩ := V
  exact va_runU (As := As) (rest := rest) (C := C) (owner := owner) (x := x) Z.1 (hM H.size) (va_cwU n Z.1.2.2.2.2 (AW_app (fun w hw => by
    simp only [List.mem_cons, List.not_mem_nil, or_false] at hw
    rcases hw with rfl | rfl | rfl | rfl | rfl
    · exact hl
    · exact hsm
    · exact v1
    · exact v2
    · exact v3) (AW_cons v4)) rfl rfl rfl v5 ⟨v6, v7, v8⟩ hR) ⟨wPc_blind, hrc, fun U hU hW => ⟨rfl, by rw [hU], by rw [hU]; exact hw.1, va_K.moved hW.alike Z.2.1, wl_D hw.2.1 (fun _ _ _ => trivial), Z.2.2.2.call hw.2.2 hU hW (wA_in hw Z.2.2.1)⟩⟩ rfl hn hsz rfl (lv_room hcat) d hf
end OrdRow
abbrev rm_ordinal : Room := { frames := 0, cells := 0, slots := 0, locals := 0 }
theorem v_ordinal : cvU ⟨"NestedBells$Command", "ordinal", "()I"⟩ yJx29ce0_ordinal_8abf5 "NestedBells$Command" "java/lang/Enum" cJx29ce0_ordinal_8abf5 1 (some .int) 0 := ⟨q_2_167, q_2_168, q_1_8, q_2_169, rfl, by decide +kernel, by decide +kernel, by decide +kernel⟩
theorem ord_v : ∀ i, i < 9 → ([0, 1, 2, 3, 4, 5, 6, 7, 8] : List Int32).getD i 0 = nI i := by decide +kernel
theorem sm_at {i : Nat} (h : i < 9) : Value.int (enMap ((nI i).toNatClampNeg)) = .int (enMap i) := by rw [nI_clamp (by omega)]
set_option maxHeartbeats 4000000 in
theorem k_ordinal {l : Launch} {D : va_G} {T : Nat → ClassId} {g ad : Nat → Nat} {N : Nat} {E : Nat → (Nat → Int32) → va_E} {σ : St} {i : Nat} (hi : i < 9) : mX l yJx29ce0_ordinal_8abf5 cJx29ce0_ordinal_8abf5 1 (some .int) rm_ordinal D T g N ad (cE E σ) [.ref (g i)] (qI D N ad E (pR (nI i) σ)) := by
  refine mX.of (own := "java/lang/Enum") (by decide +kernel) (Nat.le_of_ble_eq_true rfl) rfl ?_
  intro p e s m below meth c A ls H locs Z hr hlk _ hw hl
  have hx := Z.1.1
  have hb := Z.1.2.1
  have hl : lv_has ls 1 [(0, .ref (g i))] := hl
  refine lv_aload_n hx hb dJx29ce0_ordinal_8abf5_0 rfl (lv_at hl 0 rfl) ?_
  refine vk_getf hx hb (v := .int (nI i)) (by rw [← ord_v i hi]; exact ((Z.2.2.2.2.2.2.1.1 i hi).2.2 ("java/lang/Enum", "ordinal", "I", [0, 1, 2, 3, 4, 5, 6, 7, 8]) (List.mem_cons_of_mem _ List.mem_cons_self))) hw.2.2 Z.1.2.2.2.1 (Z.1.2.2.2.2 _ q_6_108) (fun _ h => h) dJx29ce0_ordinal_8abf5_1 ?_
  exact rt_i Z hr hlk hw dJx29ce0_ordinal_8abf5_4 ⟨rfl, rfl⟩

