/-! what the launch gives: statics, constants, strings -/
theorem tb_4 {w : Cond} (h : w ∈ tables_1_4) : w ∈ lw_tbl := List.mem_append_right _ (show w ∈ tables_1 from List.mem_append_right _ (List.mem_append_right _ (List.mem_append_right _ (List.mem_append_left _ h))))
theorem tb_6 {w : Cond} (h : w ∈ tables_1_6) : w ∈ lw_tbl := List.mem_append_right _ (show w ∈ tables_1 from List.mem_append_right _ (List.mem_append_right _ (List.mem_append_right _ (List.mem_append_right _ (List.mem_append_right _ h)))))
/-- the parts of what is given, laid out from the right: cheap to read -/
def flatA : Jvm.Cond → List Jvm.Cond → List Jvm.Cond
  | .and a b, acc => flatA a (flatA b acc)
  | c, acc => c :: acc
theorem flatA_eq (t : Jvm.Cond) : ∀ acc, flatA t acc = flatC t ++ acc := by
  induction t with
  | and a b iha ihb =>
    intro acc
    show flatA a (flatA b acc) = (flatC a ++ flatC b) ++ acc
    rw [iha, ihb, List.append_assoc]
  | _ => intro acc; rfl
def gvA : List Cond := flatA (Jvm.Cond.and given_1 narrow_1) []
theorem gvA_of {args : Array Value} {s : State} (h : (Jvm.Cond.and given_1 narrow_1).before args s = true) : ∀ w ∈ gvA, w.before args s = true := fun w hw => flat_of_before _ h w (by
  rw [gvA, flatA_eq, List.append_nil] at hw
  exact hw)
theorem gvA_W {args : Array Value} {s : State} (h : (Jvm.Cond.and given_1 narrow_1).before args s = true) : ∀ w ∈ gvW, w.before args s = true := flat_of_before _ h
def tmE (i : Nat) : Term := .static "NestedBells$Command" (enNames.getD i "") "LNestedBells$Command;"
def enStr : List Nat := [59, 65, 68, 71, 74, 77, 80, 83, 86]
def tmS (i : Nat) : Term := .string "NestedBells$Command" (enStr.getD i 0)
def tmV (i : Nat) : Term := .field (tmS i) "java/lang/String" "value" "[B"
def tmC : Term := .static "NestedBells$CommandText" "COMMANDS" "[LNestedBells$Command;"
def tmM : Term := .static "NestedBells$1" "$SwitchMap$NestedBells$Command" "[I"
set_option maxRecDepth 100000 in
theorem gw_X : ∀ i, i < 9 → gvA[([41, 46, 52, 59, 67, 76, 86, 97, 4] : List Nat).getD i 0]? = some (Cond.exactly (tmE i) "NestedBells$Command") := by decide +kernel
set_option maxRecDepth 100000 in
theorem gw_O : ∀ i, i < 9 → gvA[([42, 47, 53, 60, 68, 77, 87, 98, 5] : List Nat).getD i 0]? = some (Cond.eq (.field (tmE i) "java/lang/Enum" "ordinal" "I") (.int (([0, 1, 2, 3, 4, 5, 6, 7, 8] : List Int32).getD i 0))) := by decide +kernel
set_option maxRecDepth 100000 in
theorem gw_N : ∀ i, i < 9 → gvA[([44, 49, 55, 62, 70, 79, 89, 100, 7] : List Nat).getD i 0]? = some (Cond.eq (.field (tmE i) "NestedBells$Command" "numberCount" "I") (.int (([2, 2, 4, 3, 1, 1, 1, 2, 1] : List Int32).getD i 0))) := by decide +kernel
set_option maxRecDepth 100000 in
theorem gw_W : ∀ i, i < 9 → gvA[([43, 48, 54, 61, 69, 78, 88, 99, 6] : List Nat).getD i 0]? = some (Cond.eq (.field (tmE i) "NestedBells$Command" "word" "Ljava/lang/String;") (tmS i)) := by decide +kernel
set_option maxRecDepth 100000 in
theorem gw_S : ∀ i, i < 9 → gvA[([364, 379, 395, 415, 434, 454, 472, 493, 351] : List Nat).getD i 0]? = some (Cond.exactly (tmS i) "java/lang/String") := by decide +kernel
set_option maxRecDepth 100000 in
theorem gw_C : ∀ i, i < 9 → gvA[([365, 380, 396, 416, 435, 455, 473, 494, 352] : List Nat).getD i 0]? = some (Cond.eq (.field (tmS i) "java/lang/String" "coder" "B") (.int 0)) := by decide +kernel
set_option maxRecDepth 100000 in
theorem gw_A : ∀ i, i < 9 → gvA[([366, 381, 397, 417, 436, 456, 474, 495, 353] : List Nat).getD i 0]? = some (Cond.arrayOf (tmV i) .byte) := by decide +kernel
set_option maxRecDepth 100000 in
theorem gw_L : ∀ i, i < 9 → gvA[([367, 382, 398, 418, 437, 457, 475, 496, 354] : List Nat).getD i 0]? = some (Cond.eq (.length (tmV i)) (.int (Int32.ofNat (enLens.getD i 0)))) := by decide +kernel
set_option maxRecDepth 100000 in
theorem gw_B : ∀ i, i < 9 → ∀ j, j < enLens.getD i 0 → gvA[([368, 383, 399, 419, 438, 458, 476, 497, 355] : List Nat).getD i 0 + j]? = some (Cond.eq (.elem (tmV i) (.int (Int32.ofNat j))) (.int ((enBytes.getD i []).getD j 0))) := by decide +kernel
def gq_QE (i j : Nat) : Nat := (([[0, 51, 57, 64, 72, 81, 91, 102, 0], [0, 0, 58, 65, 73, 82, 92, 103, 0], [0, 0, 0, 66, 74, 83, 93, 104, 0], [0, 0, 0, 0, 75, 84, 94, 105, 0], [0, 0, 0, 0, 0, 85, 95, 106, 0], [0, 0, 0, 0, 0, 0, 96, 107, 0], [0, 0, 0, 0, 0, 0, 0, 108, 0], [0, 0, 0, 0, 0, 0, 0, 0, 0], [45, 50, 56, 63, 71, 80, 90, 101, 0]] : List (List Nat)).getD i []).getD j 0
set_option maxRecDepth 100000 in
theorem gw_QE : ∀ i, i < 9 → ∀ j, j < 9 → i ≠ j → gvA[gq_QE i j]? = some (Cond.not (Cond.eq (tmE i) (tmE j))) ∨ gvA[gq_QE j i]? = some (Cond.not (Cond.eq (tmE j) (tmE i))) := by decide +kernel
def gq_QS (i j : Nat) : Nat := (([[0, 394, 413, 431, 450, 467, 487, 507, 0], [0, 0, 414, 432, 451, 468, 488, 508, 0], [0, 0, 0, 433, 452, 469, 489, 509, 0], [0, 0, 0, 0, 453, 470, 490, 510, 0], [0, 0, 0, 0, 0, 471, 491, 511, 0], [0, 0, 0, 0, 0, 0, 492, 512, 0], [0, 0, 0, 0, 0, 0, 0, 513, 0], [0, 0, 0, 0, 0, 0, 0, 0, 0], [378, 393, 412, 430, 449, 466, 486, 506, 0]] : List (List Nat)).getD i []).getD j 0
set_option maxRecDepth 100000 in
theorem gw_QS : ∀ i, i < 9 → ∀ j, j < 9 → i ≠ j → gvA[gq_QS i j]? = some (Cond.not (Cond.eq (tmS i) (tmS j))) ∨ gvA[gq_QS j i]? = some (Cond.not (Cond.eq (tmS j) (tmS i))) := by decide +kernel
set_option maxRecDepth 100000 in
theorem gw_CM : ∀ i, i < 9 → gvA[13 + i]? = some (Cond.eq (.elem tmC (.int (Int32.ofNat i))) (tmE i)) := by decide +kernel
set_option maxRecDepth 100000 in
theorem gw_SM : ∀ i, i < 9 → gvA[30 + i]? = some (Cond.eq (.elem tmM (.int (Int32.ofNat i))) (.int (enMap i))) := by decide +kernel
set_option maxRecDepth 100000 in
theorem gw_CA : Cond.arrayOf tmC (.object "NestedBells$Command") ∈ gvA := List.mem_of_getElem? (i := 10) (by decide +kernel)
set_option maxRecDepth 100000 in
theorem gw_CL : Cond.eq (.length tmC) (.int (Int32.ofNat 9)) ∈ gvA := List.mem_of_getElem? (i := 11) (by decide +kernel)
set_option maxRecDepth 100000 in
theorem gw_MA : Cond.arrayOf tmM .int ∈ gvA := List.mem_of_getElem? (i := 28) (by decide +kernel)
set_option maxRecDepth 100000 in
theorem gw_ML : Cond.eq (.length tmM) (.int (Int32.ofNat 9)) ∈ gvA := List.mem_of_getElem? (i := 29) (by decide +kernel)
set_option maxRecDepth 100000 in
theorem gw_CS : Cond.eq (.static "java/lang/String" "COMPACT_STRINGS" "Z") (.int 1) ∈ gvA := List.mem_of_getElem? (i := 22) (by decide +kernel)
set_option maxRecDepth 100000 in
theorem gw_SI : Cond.isRef (.static "jdk/internal/util/Preconditions" "SIOOBE_FORMATTER" "Ljava/util/function/BiFunction;") ∈ gvA := List.mem_of_getElem? (i := 23) (by decide +kernel)
set_option maxRecDepth 100000 in
theorem gw_TU : Cond.isRef (.static "java/lang/Throwable" "UNASSIGNED_STACK" "[Ljava/lang/StackTraceElement;") ∈ gvA := List.mem_of_getElem? (i := 39) (by decide +kernel)
set_option maxRecDepth 100000 in
theorem gw_TS : Cond.isRef (.static "java/lang/Throwable" "SUPPRESSED_SENTINEL" "Ljava/util/List;") ∈ gvA := List.mem_of_getElem? (i := 40) (by decide +kernel)
set_option maxRecDepth 100000 in
theorem gw_m0 : Cond.exactly (.string "NestedBells" 96) "java/lang/String" ∈ gvA := List.mem_of_getElem? (i := 263) (by decide +kernel)
set_option maxRecDepth 100000 in
theorem gw_m1 : Cond.exactly (.string "NestedBells" 146) "java/lang/String" ∈ gvA := List.mem_of_getElem? (i := 295) (by decide +kernel)
set_option maxRecDepth 100000 in
theorem gw_m2 : Cond.exactly (.string "NestedBells" 185) "java/lang/String" ∈ gvA := List.mem_of_getElem? (i := 327) (by decide +kernel)
set_option maxRecDepth 100000 in
theorem gw_m3 : Cond.exactly (.string "NestedBells" 205) "java/lang/String" ∈ gvA := List.mem_of_getElem? (i := 181) (by decide +kernel)
set_option maxRecDepth 100000 in
theorem gw_m4 : Cond.exactly (.string "NestedBells" 209) "java/lang/String" ∈ gvA := List.mem_of_getElem? (i := 199) (by decide +kernel)
set_option maxRecDepth 100000 in
theorem gw_m5 : Cond.exactly (.string "NestedBells" 212) "java/lang/String" ∈ gvA := List.mem_of_getElem? (i := 231) (by decide +kernel)
section Given2
variable {args : Array Value} {s : State} {A : Nat → Prop}
set_option maxRecDepth 100000 in
theorem gv_ls (hts : ∀ w ∈ lw_tbl, w.before args s = true) : ∀ i, i < enNames.length → (Cond.laysStatic "NestedBells$Command" (enNames.getD i "") "LNestedBells$Command;").before args s = true := fun i hi => by
  match i, hi with
  | 0, _ => exact (hts _ (tb_6 (List.mem_of_getElem? (i := 110) rfl)))
  | 1, _ => exact (hts _ (tb_6 (List.mem_of_getElem? (i := 111) rfl)))
  | 2, _ => exact (hts _ (tb_6 (List.mem_of_getElem? (i := 112) rfl)))
  | 3, _ => exact (hts _ (tb_6 (List.mem_of_getElem? (i := 113) rfl)))
  | 4, _ => exact (hts _ (tb_6 (List.mem_of_getElem? (i := 114) rfl)))
  | 5, _ => exact (hts _ (tb_6 (List.mem_of_getElem? (i := 115) rfl)))
  | 6, _ => exact (hts _ (tb_6 (List.mem_of_getElem? (i := 116) rfl)))
  | 7, _ => exact (hts _ (tb_6 (List.mem_of_getElem? (i := 117) rfl)))
  | 8, _ => exact (hts _ (tb_1 (List.mem_of_getElem? (i := 234) rfl)))
  | n + 9, h => exact absurd h (Nat.not_lt.mpr (Nat.le_add_left 9 n))
theorem gv_E (hts : ∀ w ∈ lw_tbl, w.before args s = true) (hg : ∀ w ∈ gvA, w.before args s = true) (hA : ∀ a : Nat, a < s.heap.size → ¬ A a) : ∃ ad : Nat → Nat, va_Ec "NestedBells$Command" "NestedBells$Command" "LNestedBells$Command;" enNames enInts ad A s s.heap ∧ ∀ i, i < 9 → (tmE i).eval args s none [] s = some (.ref (ad i)) := by
  obtain ⟨ad, h1, h2⟩ := va_Enof2 (E := "NestedBells$Command") (d := "LNestedBells$Command;") (nm := enNames) (F := enInts) (A := A) (gv_ls hts) (gv_AW hts _ q_1_9) (fun i hi => hg _ (List.mem_of_getElem? (gw_X i hi))) (fun q hq i hi => by
    rcases List.mem_cons.mp hq with rfl | hq
    · exact hg _ (List.mem_of_getElem? (gw_N i hi))
    · rcases List.mem_cons.mp hq with rfl | hq
      · exact hg _ (List.mem_of_getElem? (gw_O i hi))
      · cases hq) (fun i j hi hj h => (gw_QE i hi j hj h).imp (fun h => hg _ (List.mem_of_getElem? h)) (fun h => hg _ (List.mem_of_getElem? h))) hA
  exact ⟨ad, h1, h2⟩
theorem gv_S (hg : ∀ w ∈ gvA, w.before args s = true) (hA : ∀ a : Nat, a < s.heap.size → ¬ A a) : ∃ adK adV : Nat → Nat, vk_S 9 enLens enBytes adK adV A s s.heap ∧ ∀ i, i < 9 → (tmS i).eval args s none [] s = some (.ref (adK i)) :=
  vk_Sof (N := 9) (tm := tmS) (len := enLens) (byt := enBytes) (by decide +kernel) (fun i hi => hg _ (List.mem_of_getElem? (gw_S i hi))) (fun i hi => hg _ (List.mem_of_getElem? (gw_C i hi))) (fun i hi => hg _ (List.mem_of_getElem? (gw_A i hi))) (fun i hi => hg _ (List.mem_of_getElem? (gw_L i hi))) (fun i hi j hj => hg _ (List.mem_of_getElem? (gw_B i hi j hj))) (fun i j hi hj h => (gw_QS i hi j hj h).imp (fun h => hg _ (List.mem_of_getElem? h)) (fun h => hg _ (List.mem_of_getElem? h))) hA
theorem gv_str {k : Nat} {own : String} (h : (Cond.exactly (.string own k) "java/lang/String").before args s = true) : ∃ a : Nat, (Term.string own k).eval args s none [] s = some (.ref a) := by
  obtain ⟨a, c, cell, kk, q1, -⟩ := Cond.exactly_spec h
  exact ⟨a, q1⟩
set_option maxRecDepth 100000 in
theorem gv_C (hts : ∀ w ∈ lw_tbl, w.before args s = true) (hg : ∀ w ∈ gvA, w.before args s = true) (hA : ∀ a : Nat, a < s.heap.size → ¬ A a) {ad : Nat → Nat} (hev : ∀ i, i < 9 → (tmE i).eval args s none [] s = some (.ref (ad i))) : ∃ t : Nat, va_Z "NestedBells$CommandText" "COMMANDS" "[LNestedBells$Command;" (.ref t) A s s.heap ∧ va_T (.object "NestedBells$Command") t 9 (fun j => .ref (ad j)) A s s.heap := by
  obtain ⟨t, h1, h2⟩ := va_Tof (tm := tmC) (ty := .object "NestedBells$Command") (N := 9) (f := fun j => .ref (ad j)) (A := A) (by decide) (hg _ gw_CA) (va_eqt (hg _ gw_CL)) (fun j hj => va_eqv (hg _ (List.mem_of_getElem? (gw_CM j hj))) (hev j hj)) hA
  exact ⟨t, va_Zref (hts _ (tb_2 (List.mem_of_getElem? (i := 67) rfl))) (gv_AW hts _ q_1_7) h1 hA, h2⟩
set_option maxRecDepth 100000 in
theorem gv_M (hts : ∀ w ∈ lw_tbl, w.before args s = true) (hg : ∀ w ∈ gvA, w.before args s = true) (hA : ∀ a : Nat, a < s.heap.size → ¬ A a) : ∃ t : Nat, va_Z "NestedBells$1" "$SwitchMap$NestedBells$Command" "[I" (.ref t) A s s.heap ∧ va_T .int t 9 (fun j => .int (enMap j)) A s s.heap := by
  obtain ⟨t, h1, h2⟩ := va_Tof (tm := tmM) (ty := .int) (N := 9) (f := fun j => .int (enMap j)) (A := A) (by decide) (hg _ gw_MA) (va_eqt (hg _ gw_ML)) (fun j hj => va_eqt (hg _ (List.mem_of_getElem? (gw_SM j hj)))) hA
  exact ⟨t, va_Zref (hts _ (tb_2 (List.mem_of_getElem? (i := 163) rfl))) (gv_AW hts _ q_1_23) h1 hA, h2⟩
theorem va_T.cong {ty : FieldType} {t n : Nat} {f f' : Nat → Value} {U : State} {H : Heap} (h : va_T ty t n f A U H) (e : ∀ j, j < n → f j = f' j) : va_T ty t n f' A U H := by
  obtain ⟨cell, h1, h2, h3, h4, h5, h6, h7⟩ := h
  exact ⟨cell, h1, h2, h3, h4, h5, fun j hj => (h6 j hj).trans (congrArg some (e j hj)), h7⟩
/-- the launch's own cells, by their numbers -/
def gvG (e k v : Nat → Nat) (t u : Nat) (w : Nat → Nat) : Nat → Nat := fun i => if i < 9 then e i else if i < 18 then k (i - 9) else if i < 27 then v (i - 18) else if i = 27 then t else if i = 28 then u else w i
set_option maxRecDepth 100000 in
theorem gv_amb (hts : ∀ w ∈ lw_tbl, w.before args s = true) (hg : ∀ w ∈ gvA, w.before args s = true) (hA : ∀ a : Nat, a < s.heap.size → ¬ A a) : ∃ g : Nat → Nat, amb g A s s.heap := by
  obtain ⟨e, hE, hev⟩ := gv_E (A := A) hts hg hA
  obtain ⟨k, v, hS, hks⟩ := gv_S (A := A) hg hA
  obtain ⟨t, hZ, hT⟩ := gv_C (A := A) hts hg hA hev
  obtain ⟨u, hY, hU⟩ := gv_M (A := A) hts hg hA
  obtain ⟨m0, n0⟩ := gv_str (hg _ gw_m0)
  obtain ⟨m1, n1⟩ := gv_str (hg _ gw_m1)
  obtain ⟨m2, n2⟩ := gv_str (hg _ gw_m2)
  obtain ⟨m3, n3⟩ := gv_str (hg _ gw_m3)
  obtain ⟨m4, n4⟩ := gv_str (hg _ gw_m4)
  obtain ⟨m5, n5⟩ := gv_str (hg _ gw_m5)
  obtain ⟨g, hgg⟩ : ∃ g : Nat → Nat, g = gvG e k v t u (fun i => [m0, m1, m2, m3, m4, m5].getD (i - 40) 0) := ⟨_, rfl⟩
  have e1 : ∀ i, i < 9 → g i = e i := fun i hi => by rw [hgg]; exact if_pos hi
  have e2 : ∀ i, i < 9 → g (9 + i) = k i := fun i hi => by
    rw [hgg]
    unfold gvG
    rw [if_neg (by omega), if_pos (by omega), Nat.add_sub_cancel_left]
  have e3 : ∀ i, i < 9 → g (18 + i) = v i := fun i hi => by
    rw [hgg]
    unfold gvG
    rw [if_neg (by omega), if_neg (by omega), if_pos (by omega), Nat.add_sub_cancel_left]
  have e4 : g 27 = t := by rw [hgg]; rfl
  have e5 : g 28 = u := by rw [hgg]; rfl
  refine ⟨g, ⟨gv_nest hts, ?_, ?_, ?_, ?_, ?_, ?_⟩, ?_, ?_, ?_, ?_, ?_, ?_, ?_, ?_, ?_, ?_, ?_⟩
  · rw [show g 40 = m0 by rw [hgg]; rfl]; exact vk_R.of (hts _ (tb_4 (List.mem_of_getElem? (i := 91) rfl))) n0
  · rw [show g 41 = m1 by rw [hgg]; rfl]; exact vk_R.of (hts _ (tb_4 (List.mem_of_getElem? (i := 193) rfl))) n1
  · rw [show g 42 = m2 by rw [hgg]; rfl]; exact vk_R.of (hts _ (tb_4 (List.mem_of_getElem? (i := 205) rfl))) n2
  · rw [show g 43 = m3 by rw [hgg]; rfl]; exact vk_R.of (hts _ (tb_3 (List.mem_of_getElem? (i := 173) rfl))) n3
  · rw [show g 44 = m4 by rw [hgg]; rfl]; exact vk_R.of (hts _ (tb_3 (List.mem_of_getElem? (i := 208) rfl))) n4
  · rw [show g 45 = m5 by rw [hgg]; rfl]; exact vk_R.of (hts _ (tb_3 (List.mem_of_getElem? (i := 224) rfl))) n5
  · exact vx_Zqof (hts _ (tb_3 (List.mem_of_getElem? (i := 159) rfl))) (gv_AW hts _ q_1_12) (hg _ gw_TU) hA
  · exact vx_Zqof (hts _ (tb_3 (List.mem_of_getElem? (i := 161) rfl))) (gv_AW hts _ q_1_12) (hg _ gw_TS) hA
  · exact ⟨fun i hi => by rw [e1 i hi]; exact hE.1 i hi, fun i j hi hj h => hE.2 i j hi hj (by rw [← e1 i hi, ← e1 j hj]; exact h)⟩
  · refine va_Efof (E := "NestedBells$Command") (d0 := "LNestedBells$Command;") (nm := enNames) (tm := tmS) (fun i hi => ?_) (fun i hi => hg _ (List.mem_of_getElem? (gw_W i hi))) (fun i hi => ?_) hA
    · rw [e1 i hi]; exact hev i hi
    · rw [e2 i hi]; exact hks i hi
  · rw [e4]; exact hZ
  · rw [e4]; exact hT.cong (fun j hj => congrArg Value.ref (e1 j hj).symm)
  · rw [e5]; exact hY
  · rw [e5]; exact hU
  · exact ⟨fun i hi => by
      show va_O "java/lang/String" (g (9 + i)) A s s.heap ∧ va_OF "java/lang/String" "coder" "B" (.int 0) (g (9 + i)) A s s.heap ∧ va_OF "java/lang/String" "value" "[B" (.ref (g (18 + i))) (g (9 + i)) A s s.heap ∧ va_T .byte (g (18 + i)) (enLens.getD i 0) (fun j => .int ((enBytes.getD i []).getD j 0)) A s s.heap
      rw [e2 i hi, e3 i hi]; exact hS.1 i hi, fun i j hi hj h => hS.2 i j hi hj (by rw [← e2 i hi, ← e2 j hj]; exact h)⟩
  · exact va_Zof (hts _ (tb_2 (List.mem_of_getElem? (i := 81) rfl))) (gv_AW hts _ q_1_19) (va_eqt (hg _ gw_CS)) hA
  · exact va_Zqof (hts _ (tb_2 (List.mem_of_getElem? (i := 97) rfl))) (gv_AW hts _ q_1_21) (hg _ gw_SI) hA
end Given2
