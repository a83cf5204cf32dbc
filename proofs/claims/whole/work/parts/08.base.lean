/-! worlds by a place function: place k holds the cell ct k at the address ad k -/
def wl (N : Nat) (ad : Nat → Nat) (ct : Nat → va_E) : va_W := (List.range N).map (fun k => (ad k, ct k))
theorem wl_at {N : Nat} {ad : Nat → Nat} {ct : Nat → va_E} {k : Nat} (h : k < N) : (wl N ad ct)[k]? = some (ad k, ct k) := by
  rw [wl, List.getElem?_map, List.getElem?_range h]; rfl
theorem wl_inv {N : Nat} {ad : Nat → Nat} {ct : Nat → va_E} {k : Nat} {q : Nat × va_E} (h : (wl N ad ct)[k]? = some q) : k < N ∧ q = (ad k, ct k) := by
  have hk : k < N := by
    rcases Nat.lt_or_ge k N with h1 | h1
    · exact h1
    · rw [List.getElem?_eq_none (by simp only [wl, List.length_map, List.length_range]; exact h1)] at h; cases h
  rw [wl_at hk] at h
  exact ⟨hk, (Option.some.inj h).symm⟩
theorem wl_set {N : Nat} {ad : Nat → Nat} {ct : Nat → va_E} {k : Nat} {e : va_E} (h : k < N) : (wl N ad ct).set k (ad k, e) = wl N ad (va_up ct k e) := by
  apply List.ext_getElem?
  intro i
  rw [List.getElem?_set]
  by_cases hi : k = i
  · subst hi
    rw [if_pos rfl, if_pos (by simp only [wl, List.length_map, List.length_range]; exact h), wl_at h]
    simp only [va_up, if_true]
  · rw [if_neg hi]
    rcases Nat.lt_or_ge i N with h1 | h1
    · rw [wl_at h1, wl_at h1]; simp only [va_up, if_neg (fun e => hi (Eq.symm e))]
    · rw [List.getElem?_eq_none (by simp only [wl, List.length_map, List.length_range]; exact h1), List.getElem?_eq_none (by simp only [wl, List.length_map, List.length_range]; exact h1)]
def wA (N : Nat) (ad : Nat → Nat) (sz : Nat) : Nat → Prop := fun q => (∃ k, k < N ∧ ad k = q) ∨ sz ≤ q
def tyL (T : Nat → ClassId) : List (ClassId × FieldType) := [(T 0, .byte), (T 1, .int), (T 2, .long), (T 3, .object "NestedBells$Machine"), (T 4, .object "NestedBells$Section"), (T 5, .object "NestedBells$Source")]
/-- the world holds, its cells are apart and the method's own, nothing else was written -/
def wo (D : va_G) (A : Nat → Prop) (H0 : Heap) (N : Nat) (ad : Nat → Nat) (ct : Nat → va_E) (H : Heap) (locs : List Loc) : Prop := va_P D vwCl (wl N ad ct) H ∧ va_D A (wl N ad ct) ∧ va_S A H0 H locs
theorem wo.eq {D : va_G} {A : Nat → Prop} {H0 : Heap} {N : Nat} {ad : Nat → Nat} {ct ct' : Nat → va_E} {H : Heap} {locs : List Loc} (h : wo D A H0 N ad ct H locs) (e : ct = ct') : wo D A H0 N ad ct' H locs := e ▸ h
theorem wl_D {A B : Nat → Prop} {N : Nat} {ad : Nat → Nat} {ct ct' : Nat → va_E} (h : va_D A (wl N ad ct)) (hB : ∀ k, k < N → A (ad k) → B (ad k)) : va_D B (wl N ad ct') := by
  refine ⟨fun i j p q hp hq e => ?_, fun k q hk => ?_⟩
  · obtain ⟨hi, rfl⟩ := wl_inv hp
    obtain ⟨hj, rfl⟩ := wl_inv hq
    exact h.1 i j _ _ (wl_at hi) (wl_at hj) e
  · obtain ⟨hi, rfl⟩ := wl_inv hk
    exact hB k hi (h.2 k _ (wl_at hi))
theorem wl_inj {A : Nat → Prop} {N : Nat} {ad : Nat → Nat} {ct : Nat → va_E} (h : va_D A (wl N ad ct)) {i j : Nat} (hi : i < N) (hj : j < N) (e : ad i = ad j) : i = j := h.1 i j _ _ (wl_at hi) (wl_at hj) e
theorem wl_cong {D : va_G} {N : Nat} {ad : Nat → Nat} {ct ct' : Nat → va_E} {H : Heap} (h : va_P D vwCl (wl N ad ct) H) (e : ∀ k, k < N → ct k = ct' k) : va_P D vwCl (wl N ad ct') H := by
  intro k q hk
  obtain ⟨hi, rfl⟩ := wl_inv hk
  rw [← e k hi]
  exact h k _ (wl_at hi)
theorem wo.cong {D : va_G} {A : Nat → Prop} {H0 : Heap} {N : Nat} {ad : Nat → Nat} {ct ct' : Nat → va_E} {H : Heap} {locs : List Loc} (h : wo D A H0 N ad ct H locs) (e : ∀ k, k < N → ct k = ct' k) : wo D A H0 N ad ct' H locs := ⟨wl_cong h.1 e, wl_D h.2.1 (fun _ _ h => h), h.2.2⟩
/-- a part of a world, by an index map -/
theorem wo_sub {D : va_G} {A : Nat → Prop} {H0 : Heap} {N N' : Nat} {ad : Nat → Nat} {ct ct' : Nat → va_E} {H : Heap} {locs : List Loc} (h : wo D A H0 N ad ct H locs) (g : Nat → Nat) (hg : ∀ k, k < N' → g k < N) (hi : ∀ i j, i < N' → j < N' → g i = g j → i = j) (hc : ∀ k, k < N' → ct (g k) = ct' k) : wo D A H0 N' (fun k => ad (g k)) ct' H locs := by
  refine ⟨fun k q hk => ?_, ⟨fun i j p q hp hq e => ?_, fun k q hk => ?_⟩, h.2.2⟩
  · obtain ⟨hkk, rfl⟩ := wl_inv hk
    rw [← hc k hkk]
    exact h.1 (g k) _ (wl_at (hg k hkk))
  · obtain ⟨h1, rfl⟩ := wl_inv hp
    obtain ⟨h2, rfl⟩ := wl_inv hq
    exact hi i j h1 h2 (wl_inj h.2.1 (hg i h1) (hg j h2) e)
  · obtain ⟨hkk, rfl⟩ := wl_inv hk
    exact h.2.1.2 (g k) (ad (g k), ct (g k)) (wl_at (hg k hkk))
theorem wA_in {D : va_G} {A : Nat → Prop} {H0 : Heap} {N : Nat} {ad : Nat → Nat} {ct : Nat → va_E} {H : Heap} {locs : List Loc} (h : wo D A H0 N ad ct H locs) (hA : ∀ q, H0.size ≤ q → A q) : ∀ q, wA N ad H.size q → A q := by
  intro q hq
  rcases hq with ⟨k, hk, rfl⟩ | hq
  · exact h.2.1.2 k _ (wl_at hk)
  · exact hA q (Nat.le_trans h.2.2.1 hq)
/-- behind a call on a part: the rest is as it was -/
theorem wo_back {D : va_G} {A A1 : Nat → Prop} {H0 : Heap} {N N' : Nat} {ad : Nat → Nat} {ct c1 c2 : Nat → va_E} {H H1 : Heap} {locs locs1 : List Loc} (h : wo D A H0 N ad ct H locs) (g : Nat → Nat) (hin : ∀ k, k < N' → c2 (g k) = c1 k) (hout : ∀ k, k < N → (∀ j, j < N' → g j ≠ k) → c2 k = ct k) (hg : ∀ k, k < N' → g k < N)
    (hP1 : va_P D vwCl (wl N' (fun k => ad (g k)) c1) H1) (hk : ∀ q : Nat, q < H.size → ¬ wA N' (fun k => ad (g k)) H.size q → H1[q]? = H[q]?) (hS1 : va_S A H0 H1 locs1) : wo D A H0 N ad c2 H1 locs1 := by
  refine ⟨fun k q hq => ?_, wl_D h.2.1 (fun _ _ h => h), hS1⟩
  obtain ⟨hkN, rfl⟩ := wl_inv hq
  by_cases hx : ∃ j, j < N' ∧ g j = k
  · obtain ⟨j, hj, rfl⟩ := hx
    rw [hin j hj]
    exact hP1 j _ (wl_at hj)
  · have hne : ∀ j, j < N' → g j ≠ k := fun j hj e => hx ⟨j, hj, e⟩
    rw [hout k hkN hne]
    have h0 := h.1 k _ (wl_at hkN)
    refine h0.kept (hk _ h0.lt (fun hw => ?_))
    rcases hw with ⟨j, hj, e⟩ | hw
    · exact hne j hj (wl_inj h.2.1 (hg j hj) hkN e)
    · exact absurd h0.lt (Nat.not_lt.mpr hw)
theorem wo_same {D : va_G} {A A1 : Nat → Prop} {H0 : Heap} {N : Nat} {ad : Nat → Nat} {ct c1 : Nat → va_E} {H H1 : Heap} {locs locs1 : List Loc} (h : wo D A H0 N ad ct H locs) (hP1 : va_P D vwCl (wl N ad c1) H1) (hS1 : va_S A H0 H1 locs1) : wo D A H0 N ad c1 H1 locs1 := ⟨hP1, wl_D h.2.1 (fun _ _ h => h), hS1⟩
/-- what holds of the launch's statics, constants and resolved links at a state, outside the cells A -/
def nW (g : Nat → Nat) (U : State) : Prop := (va_Nw (.methodLinkNest "NestedBells$Machine" 48 ⟨"NestedBells$EventLog", "<init>", "()V"⟩ "NestedBells") U ∧ va_Nw (.methodLinkNest "NestedBells$Source" 76 ⟨"NestedBells$Section", "<init>", "()V"⟩ "NestedBells") U ∧ va_Nw (.methodLinkNest "NestedBells" 28 ⟨"NestedBells$CommandText", "<init>", "()V"⟩ "NestedBells") U ∧ va_Nw (.methodLinkNest "NestedBells$Machine" 67 ⟨"NestedBells", "isWithin", "(III)Z"⟩ "NestedBells") U) ∧
  vk_R "NestedBells" 96 "no such source or section" (g 40) U ∧ vk_R "NestedBells" 146 "the command text is full" (g 41) U ∧ vk_R "NestedBells" 185 "nothing to undo" (g 42) U ∧ vk_R "NestedBells" 205 "no such source" (g 43) U ∧ vk_R "NestedBells" 209 "an argument is out of range" (g 44) U ∧ vk_R "NestedBells" 212 "not possible in this state" (g 45) U
def enNames : List String := ["ADD_EDGE", "ADD_LINE", "ADD_SECTION", "SET_TIMER", "RAISE", "LINE_UP", "LINE_DOWN", "SET", "RUN"]
def enInts : List (String × String × String × List Int32) := [("NestedBells$Command", "numberCount", "I", [2, 2, 4, 3, 1, 1, 1, 2, 1]), ("java/lang/Enum", "ordinal", "I", [0, 1, 2, 3, 4, 5, 6, 7, 8])]
def enLens : List Nat := [4, 4, 7, 5, 5, 2, 4, 3, 3]
def enBytes : List (List Int32) := [[101, 100, 103, 101], [108, 105, 110, 101], [115, 101, 99, 116, 105, 111, 110], [116, 105, 109, 101, 114], [114, 97, 105, 115, 101], [117, 112], [100, 111, 119, 110], [115, 101, 116], [114, 117, 110]]
def enMap (j : Nat) : Int32 := [1, 2, 3, 4, 5, 6, 7, 8, 0].getD j 0
def aS (g : Nat → Nat) (A : Nat → Prop) (U : State) (H : Heap) : Prop :=
  vx_Zq Bundle.tN "UNASSIGNED_STACK" Bundle.steD A U H ∧ vx_Zq Bundle.tN "SUPPRESSED_SENTINEL" Bundle.listD A U H ∧
  va_Ec "NestedBells$Command" "NestedBells$Command" "LNestedBells$Command;" enNames enInts g A U H ∧
  va_Ef 9 "NestedBells$Command" "word" "Ljava/lang/String;" (fun i => .ref (g (9 + i))) g A U H ∧
  va_Z "NestedBells$CommandText" "COMMANDS" "[LNestedBells$Command;" (.ref (g 27)) A U H ∧ va_T (.object "NestedBells$Command") (g 27) 9 (fun j => .ref (g j)) A U H ∧
  va_Z "NestedBells$1" "$SwitchMap$NestedBells$Command" "[I" (.ref (g 28)) A U H ∧ va_T .int (g 28) 9 (fun j => .int (enMap j)) A U H ∧
  vk_S 9 enLens enBytes (fun i => g (9 + i)) (fun i => g (18 + i)) A U H ∧
  va_Z "java/lang/String" "COMPACT_STRINGS" "Z" (.int 1) A U H ∧ va_Zq "jdk/internal/util/Preconditions" "SIOOBE_FORMATTER" "Ljava/util/function/BiFunction;" A U H
def amb (g : Nat → Nat) (A : Nat → Prop) (U : State) (H : Heap) : Prop := nW g U ∧ aS g A U H
theorem nW.warm {g : Nat → Nat} {s U : State} (hW : s.WarmedH U.vm) (h : nW g s) : nW g U := by
  obtain ⟨⟨a1, a2, a3, a4⟩, b1, b2, b3, b4, b5, b6⟩ := h
  exact ⟨⟨a1.warmM hW, a2.warmM hW, a3.warmM hW, a4.warmM hW⟩, b1.warm hW, b2.warm hW, b3.warm hW, b4.warm hW, b5.warm hW, b6.warm hW⟩
theorem aS.moved {g : Nat → Nat} {A : Nat → Prop} {u U : State} {H : Heap} (hvm : u.vm.Alike U.vm) (h : aS g A u H) : aS g A U H := by
  obtain ⟨a1, a2, a3, a4, a5, a6, a7, a8, a9, a10, a11⟩ := h
  exact ⟨a1.moved hvm, a2.moved hvm, a3.moved hvm, a4.moved hvm, a5.moved hvm, a6.moved hvm, a7.moved hvm, a8.moved hvm, a9.moved hvm, a10.moved hvm, a11.moved hvm⟩
theorem aS.kept {g : Nat → Nat} {A : Nat → Prop} {U : State} {H H1 : Heap} (h : aS g A U H) (hq : ∀ a : Nat, a < H.size → ¬ A a → H1[a]? = H[a]?) : aS g A U H1 := by
  obtain ⟨a1, a2, a3, a4, a5, a6, a7, a8, a9, a10, a11⟩ := h
  exact ⟨a1.kept hq, a2.kept hq, a3.kept hq, a4.kept hq, a5.kept hq, a6.kept hq, a7.kept hq, a8.kept hq, a9.kept hq, a10.kept hq, a11.kept hq⟩
theorem aS.narrow {g : Nat → Nat} {A B : Nat → Prop} {U : State} {H : Heap} (h : aS g A U H) (hAB : ∀ q, B q → A q) : aS g B U H := by
  obtain ⟨a1, a2, a3, a4, a5, a6, a7, a8, a9, a10, a11⟩ := h
  exact ⟨a1.narrow hAB, a2.narrow hAB, a3.narrow hAB, a4.narrow hAB, a5.narrow hAB, a6.narrow hAB, a7.narrow hAB, a8.narrow hAB, a9.narrow hAB, a10.narrow hAB, a11.narrow hAB⟩
theorem amb.call {g : Nat → Nat} {A B : Nat → Prop} {s U : State} {H : Heap} {locs : List Loc} (h : amb g A s s.heap) (hS : va_S A s.heap H locs) (hU : U.heap = H) (hW : s.WarmedH U.vm) (hAB : ∀ q, B q → A q) : amb g B U U.heap :=
  ⟨h.1.warm hW, ((h.2.kept (by rw [hU]; exact hS.2.1)).narrow hAB).moved hW.alike⟩
/-- what a walk stands on: the code, the links, the classes, the statics -/
def en (p : Program) (m : MethodId) (c : Code) (cc : ByteArray) (nL : Nat) (s : State) (args : Array Value) (own : String) (D : va_G) (T : Nat → ClassId) (g : Nat → Nat) (A : Nat → Prop) : Prop := CallFix p m c cc nL s args AW own ∧ va_K D vwCl (tyL T) s ∧ (∀ q, s.heap.size ≤ q → A q) ∧ amb g A s s.heap
-- contracts
def wPc (D : va_G) (T : Nat → ClassId) (g : Nat → Nat) (N : Nat) (ad : Nat → Nat) (ct : Nat → va_E) (av : List Value) (sz : Nat) : Array Value → State → Prop := va_Pc av (fun U => U.heap.size = sz ∧ va_P D vwCl (wl N ad ct) U.heap ∧ va_K D vwCl (tyL T) U ∧ va_D (fun _ => True) (wl N ad ct) ∧ amb g (wA N ad sz) U U.heap)
abbrev St : Type := Nat → Nat → Int32
/-- a world whose cells are read off rows of ints -/
def cE (E : Nat → (Nat → Int32) → va_E) (σ : St) : Nat → va_E := fun k => E k (σ k)
def up2 (σ : St) (k j : Nat) (v : Int32) : St := fun a b => if a = k ∧ b = j then v else σ a b
theorem up2_s {σ : St} {k j : Nat} {v : Int32} : up2 σ k j v k j = v := by simp [up2]
theorem up2_k {σ : St} {k j a b : Nat} {v : Int32} (h : a ≠ k) : up2 σ k j v a b = σ a b := by simp [up2, h]
theorem up2_j {σ : St} {k j a b : Nat} {v : Int32} (h : b ≠ j) : up2 σ k j v a b = σ a b := by simp [up2, h]
theorem up2_row {σ : St} {k j : Nat} {v : Int32} : up2 σ k j v k = upd (σ k) j v := by
  funext b; simp [up2, upd]
theorem up2_rowk {σ : St} {k j a : Nat} {v : Int32} (h : a ≠ k) : up2 σ k j v a = σ a := by
  funext b; simp [up2, h]
theorem cE_up {E : Nat → (Nat → Int32) → va_E} {σ : St} {k j : Nat} {v : Int32} {x : va_E} (h : E k (upd (σ k) j v) = x) : va_up (cE E σ) k x = cE E (up2 σ k j v) := by
  funext a
  by_cases ha : a = k
  · subst ha
    show (if a = a then x else _) = E a (up2 σ a j v a)
    rw [if_pos rfl, up2_row, h]
  · show (if a = k then x else E a (σ a)) = E a (up2 σ k j v a)
    rw [if_neg ha, up2_rowk ha]
def wB (D : va_G) (N : Nat) (ad : Nat → Nat) (E : Nat → (Nat → Int32) → va_E) (u : St) (t : State) : Prop := va_P D vwCl (wl N ad (cE E u)) t.heap
def qI (D : va_G) (N : Nat) (ad : Nat → Nat) (E : Nat → (Nat → Int32) → va_E) (P : Int32 → St → Prop) (A : Nat → Prop) : Array Value → State → Outcome → State → Prop := va_Qi P (wB D N ad E) A
def qL (D : va_G) (N : Nat) (ad : Nat → Nat) (E : Nat → (Nat → Int32) → va_E) (P : Int64 → St → Prop) (A : Nat → Prop) : Array Value → State → Outcome → State → Prop := va_Ql P (wB D N ad E) A
def qV (D : va_G) (N : Nat) (ad : Nat → Nat) (E : Nat → (Nat → Int32) → va_E) (P : St → Prop) (A : Nat → Prop) : Array Value → State → Outcome → State → Prop := va_Qv P (wB D N ad E) A
def qQ (D : va_G) (N : Nat) (ad : Nat → Nat) (E : Nat → (Nat → Int32) → va_E) (P : Option Nat → St → Prop) (A : Nat → Prop) : Array Value → State → Outcome → State → Prop := va_Qq P (wB D N ad E) A
/-- posts: what is answered, what the state is, what it keeps -/
def pI {α : Type} (f : α × St) (J : St → Prop) : α → St → Prop := fun r u => f.1 = r ∧ f.2 = u ∧ J u
def pR {α : Type} (f : α) (σ : St) : α → St → Prop := fun r u => f = r ∧ σ = u
def pV (f : St) (J : St → Prop) : St → Prop := fun u => f = u ∧ J u
theorem pI.mk {α : Type} {f : α × St} {J : St → Prop} {r : α} {u : St} (h : (r, u) = f) (hJ : J u) : pI f J r u := by subst h; exact ⟨rfl, rfl, hJ⟩
/-- leaves of a tree of branches -/
theorem lf_t {α : Sort _} {c : Prop} [Decidable c] {x a b : α} (h : c) (k : x = a) : x = ite c a b := k.trans (if_pos h).symm
theorem lf_f {α : Sort _} {c : Prop} [Decidable c] {x a b : α} (h : ¬ c) (k : x = b) : x = ite c a b := k.trans (if_neg h).symm
def oc {α : Type} {β : Sort _} (o : Option α) (n : β) (k : α → β) : β := match o with
  | none => n
  | some a => k a
theorem lf_n {α : Type} {β : Sort _} {o : Option α} {x n : β} {k : α → β} (h : o = none) (e : x = n) : x = oc o n k := by subst h; exact e
theorem lf_s {α : Type} {β : Sort _} {o : Option α} {x n : β} {k : α → β} {a : α} (h : o = some a) (e : x = k a) : x = oc o n k := by subst h; exact e
/-- a method over a world: what it answers and what it leaves -/
def mX (l : Launch) (y : MethodName) (cc : ByteArray) (maxL : Nat) (ret : Option FieldType) (rm : Room) (D : va_G) (T : Nat → ClassId) (g : Nat → Nat) (N : Nat) (ad : Nat → Nat) (ct : Nat → va_E) (av : List Value) (Q : (Nat → Prop) → Array Value → State → Outcome → State → Prop) : Prop :=
  ∀ sz, Met l y (.code y cc maxL ret :: AW) rm (wPc D T g N ad ct av sz) (Q (wA N ad sz)) rm.cells rm.slots (wA N ad sz)
theorem AW_good : GoodIn AW AW := fun w hw => ⟨hw, good_of_word (List.mem_filter.mp hw).2⟩
theorem AW_cons {c : Cond} (h : c ∈ AW) : GoodIn AW (c :: AW) := fun w hw => by
  rcases List.mem_cons.mp hw with rfl | h1
  · exact AW_good _ h
  · exact AW_good w h1
theorem AW_app {a : List Cond} {b : List Cond} (h : ∀ w ∈ a, w ∈ AW) (hb : GoodIn AW b) : GoodIn AW (a ++ b) := fun w hw => by
  rcases List.mem_append.mp hw with h1 | h1
  · exact AW_good w (h w h1)
  · exact hb w h1
theorem wPc_blind {D : va_G} {T : Nat → ClassId} {g : Nat → Nat} {N : Nat} {ad : Nat → Nat} {ct : Nat → va_E} {av : List Value} {sz : Nat} : FrameBlind (wPc D T g N ad ct av sz) := fun a U g1 mk q => by
  obtain ⟨q0, q1, qP, qK, qD, qG⟩ := q
  exact ⟨q0, q1, qP, va_K.moved (u := U) (U := U.calling g1 mk a) (Vm.Alike.refl U.vm) qK, qD, qG.1.warm (State.WarmedH.refl U), aS.moved (u := U) (U := U.calling g1 mk a) (Vm.Alike.refl U.vm) qG.2⟩
theorem mX.of {l : Launch} {y : MethodName} {cc : ByteArray} {maxL : Nat} {ret : Option FieldType} {rm : Room} {D : va_G} {T : Nat → ClassId} {g : Nat → Nat} {N : Nat} {ad : Nat → Nat} {ct : Nat → va_E} {av : List Value} {Q : (Nat → Prop) → Array Value → State → Outcome → State → Prop} {own : String} (hy : plainName y.cls = true) (hlen : (lg_sl av).length ≤ maxL) (hown : y.cls = own)
    (body : ∀ (p : Program) (e : Env) (s : State) (m : MethodId) (below : List Frame) (meth : Method) (c : Code) (A : Nat → Prop) (ls : Array Slot) (H : Heap) (locs : List Loc), en p m c cc maxL s av.toArray own D T g A → meth.sig.returnType = ret → meth.locks = false → (y.name = "<init>" → meth.name = "<init>") → wo D A s.heap N ad ct H locs → lv_has ls maxL (lv_args 0 av) →
      W p l e rm s m av.toArray below meth c H locs 0 0 (MQ below (Q A) av.toArray s rm.cells rm.slots A) (F0 m 0 ls [])) : mX l y cc maxL ret rm D T g N ad ct av Q := by
  intro sz
  refine Met.ofW (cc := cc) (maxL := maxL) (ret := ret) hy rfl ?_
  intro p e s m args below meth c s₁ B hml hv
  obtain ⟨rfl, hsz, hP, hK, hD0, hG⟩ := hv
  subst hsz
  have hts := atoms_spec (ws := .code y cc maxL ret :: AW) B.pre
  have hl := lv_entry av (n := maxL) hlen
  rw [lg_entry_eq]
  exact body p e s m below meth c (wA N ad s.heap.size) _ _ _ ⟨⟨B.exec, B.bytes, hml, by rw [← hown]; exact findClass_of_methodNamed B.named, fun w hw => hts w (List.mem_cons_of_mem _ hw)⟩, hK, fun q h => Or.inr h, hG⟩ B.returns B.notSynchronized (fun h => by rw [← h]; exact (name_of_methodNamed B.named B.method).1) ⟨hP, wl_D hD0 (fun k hk _ => Or.inl ⟨k, hk, rfl⟩), va_S.rf⟩ hl
section Rows
variable {p : Program} {l : Launch} {e : Env} {R : Room} {s : State} {m : MethodId} {args : Array Value} {below : List Frame} {meth : Method} {c : Code} {H : Heap} {locs : List Loc} {cells slots : Nat} {Qw : State → Prop} {cc : ByteArray} {pc nL : Nat} {ls : Array Slot} {rest : List Value} {own : String} {D : va_G} {T : Nat → ClassId} {g : Nat → Nat} {A : Nat → Prop} {N : Nat} {ad : Nat → Nat}
theorem rt_i {E : Nat → (Nat → Int32) → va_E} {u : St} {P : Int32 → St → Prop} {v : Int32} (Z : en p m c cc nL s args own D T g A) (hr : meth.sig.returnType = some .int) (hlk : meth.locks = false) (hw : wo D A s.heap N ad (cE E u) H locs) (d : decode cc pc = .ok (.ireturn, 1)) (hv : P v u) : W p l e R s m args below meth c H locs cells slots (MQ below (qI D N ad E P A) args s cells slots A) (F0 m pc ls [.int v]) :=
  W.iret Z.1.1 Z.1.2.1 hr (fun t ht _ => ⟨⟨v, u, rfl, hv, by show va_P _ _ _ t.heap; rw [ht]; exact hw.1⟩, hw.2.2.F ht⟩) hw.2.2.2.2 d hlk
theorem rt_z {E : Nat → (Nat → Int32) → va_E} {u : St} {P : Int32 → St → Prop} {v : Int32} {ty : FieldType} (Z : en p m c cc nL s args own D T g A) (hr : meth.sig.returnType = some ty) (hlk : meth.locks = false) (hw : wo D A s.heap N ad (cE E u) H locs) (hn : narrow ty (.int v) = .int v) (d : decode cc pc = .ok (.ireturn, 1)) (hv : P v u) : W p l e R s m args below meth c H locs cells slots (MQ below (qI D N ad E P A) args s cells slots A) (F0 m pc ls [.int v]) :=
  W.zret Z.1.1 Z.1.2.1 hr hn (fun t ht _ => ⟨⟨v, u, rfl, hv, by show va_P _ _ _ t.heap; rw [ht]; exact hw.1⟩, hw.2.2.F ht⟩) hw.2.2.2.2 d hlk
theorem rt_v {E : Nat → (Nat → Int32) → va_E} {u : St} {P : St → Prop} (Z : en p m c cc nL s args own D T g A) (hr : meth.sig.returnType = none) (hlk : meth.locks = false) (hw : wo D A s.heap N ad (cE E u) H locs) (d : decode cc pc = .ok (.return_, 1)) (hv : P u) : W p l e R s m args below meth c H locs cells slots (MQ below (qV D N ad E P A) args s cells slots A) (F0 m pc ls []) :=
  W.vret Z.1.1 Z.1.2.1 hr (fun t ht _ => ⟨⟨u, rfl, hv, by show va_P _ _ _ t.heap; rw [ht]; exact hw.1⟩, hw.2.2.F ht⟩) hw.2.2.2.2 d hlk
theorem rt_l {E : Nat → (Nat → Int32) → va_E} {u : St} {P : Int64 → St → Prop} {v : Int64} (Z : en p m c cc nL s args own D T g A) (hr : meth.sig.returnType = some .long) (hlk : meth.locks = false) (hw : wo D A s.heap N ad (cE E u) H locs) (d : decode cc pc = .ok (.lreturn, 1)) (hv : P v u) : W p l e R s m args below meth c H locs cells slots (MQ below (qL D N ad E P A) args s cells slots A) (F0 m pc ls [.long v]) :=
  W.lret Z.1.1 Z.1.2.1 hr (fun t ht _ => ⟨⟨v, u, rfl, hv, by show va_P _ _ _ t.heap; rw [ht]; exact hw.1⟩, hw.2.2.F ht⟩) hw.2.2.2.2 d hlk
theorem rt_q {E : Nat → (Nat → Int32) → va_E} {u : St} {P : Option Nat → St → Prop} {v : Option Nat} {w : Value} {rt : FieldType} (Z : en p m c cc nL s args own D T g A) (hr : meth.sig.returnType = some rt) (hrt : (∃ n, rt = .object n) ∨ ∃ t, rt = .array t) (hlk : meth.locks = false) (hw : wo D A s.heap N ad (cE E u) H locs) (d : decode cc pc = .ok (.areturn, 1)) (hvw : va_rf v = w) (hv : P v u) : W p l e R s m args below meth c H locs cells slots (MQ below (qQ D N ad E P A) args s cells slots A) (F0 m pc ls [w]) :=
  W.aret Z.1.1 Z.1.2.1 hr hrt (by subst hvw; cases v with | none => exact Or.inl rfl | some a => exact Or.inr ⟨a, rfl⟩) (fun t ht _ => ⟨⟨v, u, by rw [hvw], hv, by show va_P _ _ _ t.heap; rw [ht]; exact hw.1⟩, hw.2.2.F ht⟩) hw.2.2.2.2 d hlk
/-- a field read at a place -/
theorem gf {ct : Nat → va_E} {C : String} {TC : u_T} {NF ci idx j : Nat} {fs : List Value} {v : Value} {a : Nat} (Z : en p m c cc nL s args own D T g A) (hw : wo D A s.heap N ad ct H locs) (k : Nat) (hk : k < N) (ha : ad k = a) (hc : ct k = .inr (ci, fs)) (hcl : vwCl[ci]? = some (C, TC, NF)) (hin : ∀ w ∈ u_ws C TC NF, w ∈ AW) (hj : j < NF) (hq : Cond.fieldLink own idx C (TC j).2.1 (TC j).2.2.1 ∈ AW) (hC : (TC j).1 = C) (hv : fs[j]? = some v) (d : decode cc pc = .ok (.getfield idx, 3))
    (kk : W p l e R s m args below meth c H locs cells slots Qw (F0 m (pc + 3) ls (v :: rest))) : W p l e R s m args below meth c H locs cells slots Qw (F0 m pc ls (.ref a :: rest)) := by
  subst ha
  exact va_get (D := D) (C := C) (T := TC) (N := NF) (ci := ci) (own := own) (ref := C) Z.1.1 Z.1.2.1 Z.1.2.2.2.2 hin Z.1.2.2.2.1 Z.2.1 hw.1 k ((wl_at hk).trans (by rw [hc])) hcl j hj (Z.1.2.2.2.2 _ hq) (fun x hx => by rw [hC] at hx; exact hx) hv d kk
/-- a field written at a place -/
theorem pf {ct : Nat → va_E} {C : String} {TC : u_T} {NF ci idx j : Nat} {fs : List Value} {v : Value} {a : Nat} {ty0 : Nat → FieldType} {ty : FieldType} {ct' : Nat → va_E} (Z : en p m c cc nL s args own D T g A) (hw : wo D A s.heap N ad ct H locs) (k : Nat) (hk : k < N) (ha : ad k = a) (hc : ct k = .inr (ci, fs)) (hcl : vwCl[ci]? = some (C, TC, NF)) (hin : ∀ w ∈ u_ws C TC NF, w ∈ AW) (hty : ∀ k, k < NF → parseFieldDescriptor (TC k).2.2.1 = some (ty0 k)) (hnm : ∀ a, a < NF → ∀ b, b < NF → a ≠ b → (TC a).2.1 ≠ (TC b).2.1) (hj : j < NF) (hq : Cond.fieldLink own idx C (TC j).2.1 (TC j).2.2.1 ∈ AW) (hC : (TC j).1 = C) (hfin : (TC j).2.2.2 = false ∨ (meth.name = "<init>" ∧ own = C)) (hd : ty0 j = ty) (hn : narrow ty v = v) (hfit : fits ty v = true) (hl : j < fs.length) (hct : va_up ct k (.inr (ci, fs.set j v)) = ct') (d : decode cc pc = .ok (.putfield idx, 3))
    (hf0 : (TC j).2.2.2 = false) (kk : ∀ (H1 : Heap) (locs1 : List Loc), wo D A s.heap N ad ct' H1 locs1 → W p l e R s m args below meth c H1 locs1 cells slots Qw (F0 m (pc + 3) ls rest)) : W p l e R s m args below meth c H locs cells slots Qw (F0 m pc ls (v :: .ref a :: rest)) := by
  subst ha; subst hct
  exact va_put (D := D) (C := C) (T := TC) (N := NF) (ci := ci) (own := own) (ref := C) (ty := ty) Z.1.1 Z.1.2.1 Z.1.2.2.2.2 hin ty0 hty hnm Z.1.2.2.2.1 Z.2.1 hw.1 hw.2.1 hw.2.2 k ((wl_at hk).trans (by rw [hc])) hcl j hj (Z.1.2.2.2.2 _ hq) (fun x hx => by rw [hC] at hx; exact hx) hf0 (by rw [hty j hj, hd]) hn hfit hl d (fun H1 l1 hP hD hS => kk H1 l1 ⟨by rw [← wl_set hk]; exact hP, by rw [← wl_set hk]; exact hD, hS⟩)
/-- int arrays -/
theorem al {ct : Nat → va_E} {n : Nat} {f : Nat → Int32} {a : Nat} {i v : Int32} (Z : en p m c cc nL s args own D T g A) (hw : wo D A s.heap N ad ct H locs) (k : Nat) (hk : k < N) (ha : ad k = a) (hc : ct k = .inl (T 1, n, .inl f)) (hin : vp_in i n) (hv : f i.toNatClampNeg = v) (d : decode cc pc = .ok (.iaload, 1))
    (kk : W p l e R s m args below meth c H locs cells slots Qw (F0 m (pc + 1) ls (.int v :: rest))) : W p l e R s m args below meth c H locs cells slots Qw (F0 m pc ls (.int i :: .ref a :: rest)) := by
  subst ha; subst hv
  exact va_iald Z.1.1 Z.1.2.1 Z.2.1 hw.1 k 1 ((wl_at hk).trans (by rw [hc])) rfl hin d kk
theorem as {ct : Nat → va_E} {n : Nat} {f : Nat → Int32} {a : Nat} {i x : Int32} {ct' : Nat → va_E} (Z : en p m c cc nL s args own D T g A) (hw : wo D A s.heap N ad ct H locs) (k : Nat) (hk : k < N) (ha : ad k = a) (hc : ct k = .inl (T 1, n, .inl f)) (hin : vp_in i n) (hct : va_up ct k (.inl (T 1, n, .inl (upd f i.toNatClampNeg x))) = ct') (d : decode cc pc = .ok (.iastore, 1))
    (kk : ∀ (H1 : Heap) (locs1 : List Loc), wo D A s.heap N ad ct' H1 locs1 → W p l e R s m args below meth c H1 locs1 cells slots Qw (F0 m (pc + 1) ls rest)) : W p l e R s m args below meth c H locs cells slots Qw (F0 m pc ls (.int x :: .int i :: .ref a :: rest)) := by
  subst ha; subst hct
  exact va_iast Z.1.1 Z.1.2.1 Z.2.1 hw.1 hw.2.1 hw.2.2 k 1 ((wl_at hk).trans (by rw [hc])) rfl hin d (fun H1 l1 hP hD hS => kk H1 l1 ⟨by rw [← wl_set hk]; exact hP, by rw [← wl_set hk]; exact hD, hS⟩)
/-- arrays of references -/
theorem aq {ct : Nat → va_E} {n t0 : Nat} {cA : ClassId} {C : String} {f : Nat → Option Nat} {a : Nat} {i : Int32} {v : Value} (Z : en p m c cc nL s args own D T g A) (hw : wo D A s.heap N ad ct H locs) (k : Nat) (hk : k < N) (ha : ad k = a) (hc : ct k = .inl (cA, n, .inr (.inr (.inr (.inr f))))) (ht : (tyL T)[t0]? = some (cA, .object C)) (hin : vp_in i n) (hv : va_rf (f i.toNatClampNeg) = v) (d : decode cc pc = .ok (.aaload, 1))
    (kk : W p l e R s m args below meth c H locs cells slots Qw (F0 m (pc + 1) ls (v :: rest))) : W p l e R s m args below meth c H locs cells slots Qw (F0 m pc ls (.int i :: .ref a :: rest)) := by
  subst ha; subst hv
  exact va_aldq Z.1.1 Z.1.2.1 Z.2.1 hw.1 k t0 ((wl_at hk).trans (by rw [hc])) ht hin d kk
/-- the same over rows of ints -/
theorem gE {E : Nat → (Nat → Int32) → va_E} {σ : St} {C : String} {TC : u_T} {NF ci idx j : Nat} {fs : List Value} {v : Value} {a : Nat} (Z : en p m c cc nL s args own D T g A) (hw : wo D A s.heap N ad (cE E σ) H locs) (k : Nat) (hk : k < N) (ha : ad k = a) (hc : E k (σ k) = .inr (ci, fs)) (hcl : vwCl[ci]? = some (C, TC, NF)) (hin : ∀ w ∈ u_ws C TC NF, w ∈ AW) (hj : j < NF) (hq : Cond.fieldLink own idx C (TC j).2.1 (TC j).2.2.1 ∈ AW) (hC : (TC j).1 = C) (hv : fs[j]? = some v) (d : decode cc pc = .ok (.getfield idx, 3))
    (kk : W p l e R s m args below meth c H locs cells slots Qw (F0 m (pc + 3) ls (v :: rest))) : W p l e R s m args below meth c H locs cells slots Qw (F0 m pc ls (.ref a :: rest)) :=
  gf Z hw k hk ha hc hcl hin hj hq hC hv d kk
theorem pE {E : Nat → (Nat → Int32) → va_E} {σ : St} {C : String} {TC : u_T} {NF ci idx j : Nat} {fs : List Value} {v : Value} {x : Int32} {a : Nat} {ty0 : Nat → FieldType} {ty : FieldType} (Z : en p m c cc nL s args own D T g A) (hw : wo D A s.heap N ad (cE E σ) H locs) (k : Nat) (hk : k < N) (ha : ad k = a) (hc : E k (σ k) = .inr (ci, fs)) (hcl : vwCl[ci]? = some (C, TC, NF)) (hin : ∀ w ∈ u_ws C TC NF, w ∈ AW) (hty : ∀ k, k < NF → parseFieldDescriptor (TC k).2.2.1 = some (ty0 k)) (hnm : ∀ a, a < NF → ∀ b, b < NF → a ≠ b → (TC a).2.1 ≠ (TC b).2.1) (hj : j < NF) (hq : Cond.fieldLink own idx C (TC j).2.1 (TC j).2.2.1 ∈ AW) (hC : (TC j).1 = C) (hd : ty0 j = ty) (hn : narrow ty v = v) (hfit : fits ty v = true) (hl : j < fs.length) (hct : E k (upd (σ k) j x) = .inr (ci, fs.set j v)) (d : decode cc pc = .ok (.putfield idx, 3))
    (hf0 : (TC j).2.2.2 = false) (kk : ∀ (H1 : Heap) (locs1 : List Loc), wo D A s.heap N ad (cE E (up2 σ k j x)) H1 locs1 → W p l e R s m args below meth c H1 locs1 cells slots Qw (F0 m (pc + 3) ls rest)) : W p l e R s m args below meth c H locs cells slots Qw (F0 m pc ls (v :: .ref a :: rest)) :=
  pf Z hw k hk ha hc hcl hin hty hnm hj hq hC (Or.inl hf0) hd hn hfit hl (cE_up hct) d hf0 kk
theorem aE {E : Nat → (Nat → Int32) → va_E} {σ : St} {n : Nat} {a : Nat} {i v : Int32} (Z : en p m c cc nL s args own D T g A) (hw : wo D A s.heap N ad (cE E σ) H locs) (k : Nat) (hk : k < N) (ha : ad k = a) (hc : ∀ r, E k r = .inl (T 1, n, .inl r)) (hin : vp_in i n) (hv : σ k i.toNatClampNeg = v) (d : decode cc pc = .ok (.iaload, 1))
    (kk : W p l e R s m args below meth c H locs cells slots Qw (F0 m (pc + 1) ls (.int v :: rest))) : W p l e R s m args below meth c H locs cells slots Qw (F0 m pc ls (.int i :: .ref a :: rest)) :=
  al Z hw k hk ha (hc _) hin hv d kk
theorem sE {E : Nat → (Nat → Int32) → va_E} {σ : St} {n : Nat} {a j : Nat} {i x : Int32} (Z : en p m c cc nL s args own D T g A) (hw : wo D A s.heap N ad (cE E σ) H locs) (k : Nat) (hk : k < N) (ha : ad k = a) (hc : ∀ r, E k r = .inl (T 1, n, .inl r)) (hin : vp_in i n) (hj : i.toNatClampNeg = j) (d : decode cc pc = .ok (.iastore, 1))
    (kk : ∀ (H1 : Heap) (locs1 : List Loc), wo D A s.heap N ad (cE E (up2 σ k j x)) H1 locs1 → W p l e R s m args below meth c H1 locs1 cells slots Qw (F0 m (pc + 1) ls rest)) : W p l e R s m args below meth c H locs cells slots Qw (F0 m pc ls (.int x :: .int i :: .ref a :: rest)) := by
  subst hj
  exact as Z hw k hk ha (hc _) hin (cE_up (hc _)) d kk
/-- arrays of references that never change -/
theorem qE {E : Nat → (Nat → Int32) → va_E} {σ : St} {n t0 : Nat} {cA : ClassId} {C : String} {f : Nat → Option Nat} {a : Nat} {i : Int32} {v : Value} (Z : en p m c cc nL s args own D T g A) (hw : wo D A s.heap N ad (cE E σ) H locs) (k : Nat) (hk : k < N) (ha : ad k = a) (hc : E k (σ k) = .inl (cA, n, .inr (.inr (.inr (.inr f))))) (ht : (tyL T)[t0]? = some (cA, .object C)) (hin : vp_in i n) (hv : va_rf (f i.toNatClampNeg) = v) (d : decode cc pc = .ok (.aaload, 1))
    (kk : W p l e R s m args below meth c H locs cells slots Qw (F0 m (pc + 1) ls (v :: rest))) : W p l e R s m args below meth c H locs cells slots Qw (F0 m pc ls (.int i :: .ref a :: rest)) :=
  aq Z hw k hk ha hc ht hin hv d kk
end Rows
/-- what is said of a callee once: an instance method -/
def cvV (y : MethodName) (C : String) (bytes : ByteArray) (maxL : Nat) (ret : Option FieldType) (n : Nat) : Prop := Cond.instanceMethod y ∈ AW ∧ Cond.selects C y y ∈ AW ∧ Cond.initialized C ∈ AW ∧ Cond.code y bytes maxL ret ∈ AW ∧ y.cls = C ∧ y.cls ≠ "java/lang/invoke/MethodHandle" ∧ y.cls ≠ "java/lang/invoke/VarHandle" ∧ (parseMethodDescriptor y.desc).map (fun d => d.parameters.length) = some n
def cvS (y : MethodName) (bytes : ByteArray) (maxL : Nat) (ret : Option FieldType) (n : Nat) : Prop := Cond.static y ∈ AW ∧ Cond.initialized y.cls ∈ AW ∧ Cond.code y bytes maxL ret ∈ AW ∧ y.cls ≠ "java/lang/invoke/MethodHandle" ∧ y.cls ≠ "java/lang/invoke/VarHandle" ∧ (parseMethodDescriptor y.desc).map (fun d => d.parameters.length) = some n
section Calls
variable {p : Program} {l : Launch} {e : Env} {R : Room} {s : State} {m : MethodId} {args : Array Value} {below : List Frame} {meth : Method} {c : Code} {H : Heap} {locs : List Loc} {cells slots : Nat} {Qw : State → Prop} {cc : ByteArray} {pc nL : Nat} {ls : Array Slot} {rest st0 : List Value} {own C : String} {D : va_G} {T : Nat → ClassId} {g : Nat → Nat} {A : Nat → Prop} {N N' : Nat} {ad ad' : Nat → Nat} {y : MethodName} {bytes : ByteArray} {maxL n idx : Nat} {ret : Option FieldType} {rm : Room} {ct ct' : Nat → va_E} {As : List Value} {b : Nat} {Q : (Nat → Prop) → Array Value → State → Outcome → State → Prop}
theorem rnV (Z : en p m c cc nL s args own D T g A) (hw : wo D A s.heap N' ad' ct' H locs) (hM : mX l y bytes maxL ret rm D T g N' ad' ct' (.ref b :: As) Q) (V : cvV y C bytes maxL ret n) (hl : Cond.methodLink own idx y ∈ AW) (k0 : Nat) {ci : Nat} {fs : List Value} {qq : vw_C} (hk0 : k0 < N') (hb0 : ad' k0 = b) (hc0 : ct' k0 = .inr (ci, fs)) (hcl : vwCl[ci]? = some qq) (hqC : qq.1 = C)
    (hsz : ls.size = nL) (hn : As.length = n) (hst : st0 = As.reverse ++ .ref b :: rest) (hcat : (rest.map fun v => v.category).sum ≤ 8) (hR : rm.frames + 1 ≤ R.frames ∧ 8 + (maxL + 11) + rm.locals ≤ R.locals) (hf : cells + rm.cells ≤ R.cells ∧ slots + rm.slots ≤ R.slots) (d : decode cc pc = .ok (.invokevirtual idx, 3)) :
    va_Run p l e R s m args below meth c H locs cells slots rm.cells rm.slots (F0 m pc ls st0) rest (Q (wA N' ad' H.size) (Value.ref b :: As).toArray) (wA N' ad' H.size) := by
  subst hst; subst hb0; subst hqC
  obtain ⟨v1, v2, v3, v4, v5, v6, v7, v8⟩ := V
  exact va_runV (As := As) (rest := rest) (C := qq.1) Z.1 (hM H.size) (cwV n Z.1.2.2.2.2 (AW_app (fun w hw => by
    simp only [List.mem_cons, List.not_mem_nil, or_false] at hw
    rcases hw with rfl | rfl | rfl | rfl
    · exact hl
    · exact v1
    · exact v2
    · exact v3) (AW_cons v4)) rfl rfl rfl ⟨v5, v6, v7, v8⟩ hR) ⟨wPc_blind, va_recv Z.2.1 hw.1 hcl ((wl_at hk0).trans (by rw [hc0])), fun U hU hW => ⟨rfl, by rw [hU], by rw [hU]; exact hw.1, va_K.moved hW.alike Z.2.1, wl_D hw.2.1 (fun _ _ _ => trivial), Z.2.2.2.call hw.2.2 hU hW (wA_in hw Z.2.2.1)⟩⟩ rfl hn hsz rfl (lv_room hcat) d hf
theorem rnS (Z : en p m c cc nL s args own D T g A) (hw : wo D A s.heap N' ad' ct' H locs) (hM : mX l y bytes maxL ret rm D T g N' ad' ct' As Q) (V : cvS y bytes maxL ret n) (hyo : y.cls = own) (hl : Cond.methodLink own idx y ∈ AW)
    (hsz : ls.size = nL) (hn : As.length = n) (hst : st0 = As.reverse ++ rest) (hcat : (rest.map fun v => v.category).sum ≤ 8) (hR : rm.frames + 1 ≤ R.frames ∧ 8 + (maxL + 11) + rm.locals ≤ R.locals) (hf : cells + rm.cells ≤ R.cells ∧ slots + rm.slots ≤ R.slots) (d : decode cc pc = .ok (.invokestatic idx, 3)) :
    va_Run p l e R s m args below meth c H locs cells slots rm.cells rm.slots (F0 m pc ls st0) rest (Q (wA N' ad' H.size) As.toArray) (wA N' ad' H.size) := by
  subst hst; subst hyo
  obtain ⟨v1, v3, v4, v6, v7, v8⟩ := V
  exact va_runS (As := As) (rest := rest) Z.1 (hM H.size) (cwS n Z.1.2.2.2.2 (AW_app (fun w hw => by
    simp only [List.mem_cons, List.not_mem_nil, or_false] at hw
    rcases hw with rfl | rfl | rfl
    · exact hl
    · exact v1
    · exact v3) (AW_cons v4)) rfl rfl rfl ⟨rfl, v6, v7, v8⟩ hR) ⟨wPc_blind, fun U hU hW => ⟨rfl, by rw [hU], by rw [hU]; exact hw.1, va_K.moved hW.alike Z.2.1, wl_D hw.2.1 (fun _ _ _ => trivial), Z.2.2.2.call hw.2.2 hU hW (wA_in hw Z.2.2.1)⟩⟩ rfl hn hsz rfl (lv_room hcat) d hf
/-- a static method of a nest mate -/
theorem rnSN {host : String} (Z : en p m c cc nL s args own D T g A) (hw : wo D A s.heap N' ad' ct' H locs) (hM : mX l y bytes maxL ret rm D T g N' ad' ct' As Q) (V : cvS y bytes maxL ret n) (hl : va_Nw (.methodLinkNest own idx y host) s)
    (hsz : ls.size = nL) (hn : As.length = n) (hst : st0 = As.reverse ++ rest) (hcat : (rest.map fun v => v.category).sum ≤ 8) (hR : rm.frames + 1 ≤ R.frames ∧ 8 + (maxL + 11) + rm.locals ≤ R.locals) (hf : cells + rm.cells ≤ R.cells ∧ slots + rm.slots ≤ R.slots) (d : decode cc pc = .ok (.invokestatic idx, 3)) :
    va_Run p l e R s m args below meth c H locs cells slots rm.cells rm.slots (F0 m pc ls st0) rest (Q (wA N' ad' H.size) As.toArray) (wA N' ad' H.size) := by
  subst hst
  obtain ⟨v1, v3, v4, v6, v7, v8⟩ := V
  exact va_runSN (As := As) (rest := rest) Z.1 (hM H.size) ⟨va_cnB n Z.1.2.2.2.2 (AW_cons v4) rfl rfl rfl hl (Z.1.2.2.2.2 _ v3) ⟨v6, v7, v8⟩ hR, Z.1.2.2.2.2 _ v1, trivial⟩ ⟨wPc_blind, fun U hU hW => ⟨rfl, by rw [hU], by rw [hU]; exact hw.1, va_K.moved hW.alike Z.2.1, wl_D hw.2.1 (fun _ _ _ => trivial), Z.2.2.2.call hw.2.2 hU hW (wA_in hw Z.2.2.1)⟩⟩ rfl hn hsz rfl (lv_room hcat) d hf
variable {E : Nat → (Nat → Int32) → va_E} {mc ms : Nat} {a : Array Value}
/-- behind a call on the same world -/
theorem bk_i {P : Int32 → St → Prop} (hr : va_Run p l e R s m args below meth c H locs cells slots mc ms (F0 m pc ls st0) rest (qI D N ad E P (wA N ad H.size) a) (wA N ad H.size)) (hw : wo D A s.heap N ad ct H locs) (Z : en p m c cc nL s args own D T g A)
    (kk : ∀ (r : Int32) (u : St) (H1 : Heap) (locs1 : List Loc), P r u → wo D A s.heap N ad (cE E u) H1 locs1 → W p l e R s m args below meth c H1 locs1 (cells + mc) (slots + ms) Qw (F0 m (pc + 3) ls (.int r :: rest))) : W p l e R s m args below meth c H locs cells slots Qw (F0 m pc ls st0) :=
  va_calli hr hw.2.2 (fun q _ h => wA_in hw Z.2.2.1 q h) (wA_in hw Z.2.2.1) (fun r u t H1 locs1 ht _ hp hB _ _ hS1 => by
    rw [← ht]; rw [← ht] at hS1; exact kk r u t.heap locs1 hp ⟨hB, wl_D hw.2.1 (fun _ _ h => h), hS1⟩)
theorem bk_l {P : Int64 → St → Prop} (hr : va_Run p l e R s m args below meth c H locs cells slots mc ms (F0 m pc ls st0) rest (qL D N ad E P (wA N ad H.size) a) (wA N ad H.size)) (hw : wo D A s.heap N ad ct H locs) (Z : en p m c cc nL s args own D T g A)
    (kk : ∀ (r : Int64) (u : St) (H1 : Heap) (locs1 : List Loc), P r u → wo D A s.heap N ad (cE E u) H1 locs1 → W p l e R s m args below meth c H1 locs1 (cells + mc) (slots + ms) Qw (F0 m (pc + 3) ls (.long r :: rest))) : W p l e R s m args below meth c H locs cells slots Qw (F0 m pc ls st0) :=
  va_calll hr hw.2.2 (fun q _ h => wA_in hw Z.2.2.1 q h) (wA_in hw Z.2.2.1) (fun r u t H1 locs1 ht _ hp hB _ _ hS1 => by
    rw [← ht]; rw [← ht] at hS1; exact kk r u t.heap locs1 hp ⟨hB, wl_D hw.2.1 (fun _ _ h => h), hS1⟩)
theorem bk_v {P : St → Prop} (hr : va_Run p l e R s m args below meth c H locs cells slots mc ms (F0 m pc ls st0) rest (qV D N ad E P (wA N ad H.size) a) (wA N ad H.size)) (hw : wo D A s.heap N ad ct H locs) (Z : en p m c cc nL s args own D T g A)
    (kk : ∀ (u : St) (H1 : Heap) (locs1 : List Loc), P u → wo D A s.heap N ad (cE E u) H1 locs1 → W p l e R s m args below meth c H1 locs1 (cells + mc) (slots + ms) Qw (F0 m (pc + 3) ls rest)) : W p l e R s m args below meth c H locs cells slots Qw (F0 m pc ls st0) :=
  va_callv hr hw.2.2 (fun q _ h => wA_in hw Z.2.2.1 q h) (wA_in hw Z.2.2.1) (fun u t H1 locs1 ht _ hp hB _ _ hS1 => by
    rw [← ht]; rw [← ht] at hS1; exact kk u t.heap locs1 hp ⟨hB, wl_D hw.2.1 (fun _ _ h => h), hS1⟩)
theorem bk_q {P : Option Nat → St → Prop} (hr : va_Run p l e R s m args below meth c H locs cells slots mc ms (F0 m pc ls st0) rest (qQ D N ad E P (wA N ad H.size) a) (wA N ad H.size)) (hw : wo D A s.heap N ad ct H locs) (Z : en p m c cc nL s args own D T g A)
    (kk : ∀ (r : Option Nat) (u : St) (H1 : Heap) (locs1 : List Loc), P r u → wo D A s.heap N ad (cE E u) H1 locs1 → W p l e R s m args below meth c H1 locs1 (cells + mc) (slots + ms) Qw (F0 m (pc + 3) ls (va_rf r :: rest))) : W p l e R s m args below meth c H locs cells slots Qw (F0 m pc ls st0) :=
  va_callq hr hw.2.2 (fun q _ h => wA_in hw Z.2.2.1 q h) (wA_in hw Z.2.2.1) (fun r u t H1 locs1 ht _ hp hB _ _ hS1 => by
    rw [← ht]; rw [← ht] at hS1; exact kk r u t.heap locs1 hp ⟨hB, wl_D hw.2.1 (fun _ _ h => h), hS1⟩)
/-- the same where the callee only reads -/
theorem bk_ip {σ : St} {f : Int32} (hr : va_Run p l e R s m args below meth c H locs cells slots mc ms (F0 m pc ls st0) rest (qI D N ad E (pR f σ) (wA N ad H.size) a) (wA N ad H.size)) (hw : wo D A s.heap N ad ct H locs) (Z : en p m c cc nL s args own D T g A)
    (kk : ∀ (r : Int32), f = r → ∀ (H1 : Heap) (locs1 : List Loc), wo D A s.heap N ad (cE E σ) H1 locs1 → W p l e R s m args below meth c H1 locs1 (cells + mc) (slots + ms) Qw (F0 m (pc + 3) ls (.int r :: rest))) : W p l e R s m args below meth c H locs cells slots Qw (F0 m pc ls st0) :=
  bk_i hr hw Z (fun r u H1 locs1 hp hw1 => by obtain ⟨e1, rfl⟩ := hp; exact kk r e1 H1 locs1 hw1)
theorem bk_lp {σ : St} {f : Int64} (hr : va_Run p l e R s m args below meth c H locs cells slots mc ms (F0 m pc ls st0) rest (qL D N ad E (pR f σ) (wA N ad H.size) a) (wA N ad H.size)) (hw : wo D A s.heap N ad ct H locs) (Z : en p m c cc nL s args own D T g A)
    (kk : ∀ (r : Int64), f = r → ∀ (H1 : Heap) (locs1 : List Loc), wo D A s.heap N ad (cE E σ) H1 locs1 → W p l e R s m args below meth c H1 locs1 (cells + mc) (slots + ms) Qw (F0 m (pc + 3) ls (.long r :: rest))) : W p l e R s m args below meth c H locs cells slots Qw (F0 m pc ls st0) :=
  bk_l hr hw Z (fun r u H1 locs1 hp hw1 => by obtain ⟨e1, rfl⟩ := hp; exact kk r e1 H1 locs1 hw1)
theorem bk_qp {σ : St} {f : Option Nat} (hr : va_Run p l e R s m args below meth c H locs cells slots mc ms (F0 m pc ls st0) rest (qQ D N ad E (pR f σ) (wA N ad H.size) a) (wA N ad H.size)) (hw : wo D A s.heap N ad ct H locs) (Z : en p m c cc nL s args own D T g A)
    (kk : ∀ (r : Option Nat), f = r → ∀ (H1 : Heap) (locs1 : List Loc), wo D A s.heap N ad (cE E σ) H1 locs1 → W p l e R s m args below meth c H1 locs1 (cells + mc) (slots + ms) Qw (F0 m (pc + 3) ls (va_rf r :: rest))) : W p l e R s m args below meth c H locs cells slots Qw (F0 m pc ls st0) :=
  bk_q hr hw Z (fun r u H1 locs1 hp hw1 => by obtain ⟨e1, rfl⟩ := hp; exact kk r e1 H1 locs1 hw1)
end Calls
