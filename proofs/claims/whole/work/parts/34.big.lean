/-- the whole object: 0 itself, 1 its History, 2 that one's rows, 3 its text, 4 the bytes, 5 the numbers, 6 + 57 q a Machine: q = 0 now, 1 ahead, 2 to 6 the rows -/
def nbE (ad : Nat → Nat) (r : Nat → Int32) : List Value := [.ref (ad 6), .ref (ad 63), .ref (ad 1), .ref (ad 3), .int (r 4)]
def hisE (ad : Nat → Nat) (r : Nat → Int32) : List Value := [.ref (ad 2), .int (r 1), .int (r 2)]
def bE0 (g : Nat → Nat) (T : Nat → ClassId) (ad : Nat → Nat) (k : Nat) (r : Nat → Int32) : va_E :=
  match k with
  | 0 => .inr (6, nbE ad r)
  | 1 => .inr (2, hisE ad r)
  | 2 => .inl (T 3, 5, .inr (.inr (.inr (.inr (trn 5 (fun i => ad (6 + 57 * (2 + i))))))))
  | 3 => .inr (0, txtE g (fun a => ad (3 + a)) r)
  | 4 => .inl (T 0, 150, .inl r)
  | _ => .inl (T 1, 4, .inl r)
def bE (g : Nat → Nat) (T : Nat → ClassId) (ad : Nat → Nat) (k : Nat) (r : Nat → Int32) : va_E :=
  if k < 6 then bE0 g T ad k r else mE T (fun a => ad (6 + 57 * ((k - 6) / 57) + a)) ((k - 6) % 57) r
theorem b_M {g : Nat → Nat} {T : Nat → ClassId} {ad : Nat → Nat} {q a : Nat} {r : Nat → Int32} (ha : a < 57) : bE g T ad (6 + 57 * q + a) r = mE T (fun x => ad (6 + 57 * q + x)) a r := by
  unfold bE
  have h1 : (6 + 57 * q + a - 6) / 57 = q := by omega
  have h2 : (6 + 57 * q + a - 6) % 57 = a := by omega
  rw [if_neg (by omega), h1, h2]
theorem b_X {g : Nat → Nat} {T : Nat → ClassId} {ad : Nat → Nat} {a : Nat} {r : Nat → Int32} (ha : a < 3) : bE g T ad (3 + a) r = xE g T (fun x => ad (3 + x)) a r := by
  have h : a = 0 ∨ a = 1 ∨ a = 2 := by omega
  rcases h with rfl | rfl | rfl <;> rfl
/-- a part of a world: where its places lie, and the way back -/
def prt (E : Nat → (Nat → Int32) → va_E) (N N' : Nat) (gm : Nat → Nat) (gi : Nat → Option Nat) (E' : Nat → (Nat → Int32) → va_E) : Prop :=
  (∀ k, k < N' → gm k < N) ∧ (∀ j, j < N' → gi (gm j) = some j) ∧ (∀ a j, gi a = some j → j < N' ∧ gm j = a) ∧ ∀ k, k < N' → ∀ r, E (gm k) r = E' k r
def sb (gm : Nat → Nat) (σ : St) : St := fun a b => σ (gm a) b
def mg (gi : Nat → Option Nat) (σ u : St) : St := fun a b => match gi a with
  | some j => u j b
  | none => σ a b
section PartRows
variable {p : Program} {l : Launch} {e : Env} {R : Room} {s : State} {m : MethodId} {args : Array Value} {below : List Frame} {meth : Method} {c : Code} {H : Heap} {locs : List Loc} {cells slots mc ms : Nat} {Qw : State → Prop} {cc : ByteArray} {pc nL : Nat} {ls : Array Slot} {rest st0 : List Value} {own : String} {D : va_G} {T : Nat → ClassId} {g : Nat → Nat} {A : Nat → Prop} {N N' : Nat} {ad : Nat → Nat} {E E' : Nat → (Nat → Int32) → va_E} {gm : Nat → Nat} {gi : Nat → Option Nat} {σ : St} {a : Array Value}
theorem prt.sub {H0 : Heap} (h : prt E N N' gm gi E') (hw : wo D A H0 N ad (cE E σ) H locs) : wo D A H0 N' (fun k => ad (gm k)) (cE E' (sb gm σ)) H locs :=
  wo_sub hw gm h.1 (fun i j hi hj hij => by
    have h1 := h.2.1 i hi
    rw [hij, h.2.1 j hj] at h1
    exact (Option.some.inj h1).symm) (fun k hk => h.2.2.2 k hk _)
theorem prt.back {H0 H1 : Heap} {locs1 : List Loc} {u : St} (h : prt E N N' gm gi E') (hw : wo D A H0 N ad (cE E σ) H locs) (hP1 : va_P D vwCl (wl N' (fun k => ad (gm k)) (cE E' u)) H1) (hk : ∀ q : Nat, q < H.size → ¬ wA N' (fun k => ad (gm k)) H.size q → H1[q]? = H[q]?) (hS1 : va_S A H0 H1 locs1) : wo D A H0 N ad (cE E (mg gi σ u)) H1 locs1 := by
  refine wo_back (A1 := A) (c1 := cE E' u) hw gm (fun k hk2 => ?_) (fun k hk2 hne => ?_) h.1 hP1 hk hS1
  · show E (gm k) (mg gi σ u (gm k)) = E' k (u k)
    rw [h.2.2.2 k hk2]
    congr 1
    funext b
    unfold mg
    rw [h.2.1 k hk2]
  · show E k (mg gi σ u k) = E k (σ k)
    congr 1
    funext b
    unfold mg
    cases hg : gi k with
    | none => rfl
    | some j => exact absurd (h.2.2.1 k j hg).2 (hne j (h.2.2.1 k j hg).1)
theorem bs_i {P : Int32 → St → Prop} (h : prt E N N' gm gi E') (hr : va_Run p l e R s m args below meth c H locs cells slots mc ms (F0 m pc ls st0) rest (qI D N' (fun k => ad (gm k)) E' P (wA N' (fun k => ad (gm k)) H.size) a) (wA N' (fun k => ad (gm k)) H.size)) (hw : wo D A s.heap N ad (cE E σ) H locs) (Z : en p m c cc nL s args own D T g A)
    (kk : ∀ (r : Int32) (u : St) (H1 : Heap) (locs1 : List Loc), P r u → wo D A s.heap N ad (cE E (mg gi σ u)) H1 locs1 → W p l e R s m args below meth c H1 locs1 (cells + mc) (slots + ms) Qw (F0 m (pc + 3) ls (.int r :: rest))) : W p l e R s m args below meth c H locs cells slots Qw (F0 m pc ls st0) :=
  va_calli hr hw.2.2 (fun q _ h1 => wA_in (h.sub hw) Z.2.2.1 q h1) (wA_in (h.sub hw) Z.2.2.1) (fun r u t H1 locs1 ht _ hp hB _ hk hS1 => by
    rw [← ht]; rw [← ht] at hS1 hk; exact kk r u t.heap locs1 hp (h.back hw hB hk hS1))
theorem bs_l {P : Int64 → St → Prop} (h : prt E N N' gm gi E') (hr : va_Run p l e R s m args below meth c H locs cells slots mc ms (F0 m pc ls st0) rest (qL D N' (fun k => ad (gm k)) E' P (wA N' (fun k => ad (gm k)) H.size) a) (wA N' (fun k => ad (gm k)) H.size)) (hw : wo D A s.heap N ad (cE E σ) H locs) (Z : en p m c cc nL s args own D T g A)
    (kk : ∀ (r : Int64) (u : St) (H1 : Heap) (locs1 : List Loc), P r u → wo D A s.heap N ad (cE E (mg gi σ u)) H1 locs1 → W p l e R s m args below meth c H1 locs1 (cells + mc) (slots + ms) Qw (F0 m (pc + 3) ls (.long r :: rest))) : W p l e R s m args below meth c H locs cells slots Qw (F0 m pc ls st0) :=
  va_calll hr hw.2.2 (fun q _ h1 => wA_in (h.sub hw) Z.2.2.1 q h1) (wA_in (h.sub hw) Z.2.2.1) (fun r u t H1 locs1 ht _ hp hB _ hk hS1 => by
    rw [← ht]; rw [← ht] at hS1 hk; exact kk r u t.heap locs1 hp (h.back hw hB hk hS1))
theorem bs_v {P : St → Prop} (h : prt E N N' gm gi E') (hr : va_Run p l e R s m args below meth c H locs cells slots mc ms (F0 m pc ls st0) rest (qV D N' (fun k => ad (gm k)) E' P (wA N' (fun k => ad (gm k)) H.size) a) (wA N' (fun k => ad (gm k)) H.size)) (hw : wo D A s.heap N ad (cE E σ) H locs) (Z : en p m c cc nL s args own D T g A)
    (kk : ∀ (u : St) (H1 : Heap) (locs1 : List Loc), P u → wo D A s.heap N ad (cE E (mg gi σ u)) H1 locs1 → W p l e R s m args below meth c H1 locs1 (cells + mc) (slots + ms) Qw (F0 m (pc + 3) ls rest)) : W p l e R s m args below meth c H locs cells slots Qw (F0 m pc ls st0) :=
  va_callv hr hw.2.2 (fun q _ h1 => wA_in (h.sub hw) Z.2.2.1 q h1) (wA_in (h.sub hw) Z.2.2.1) (fun u t H1 locs1 ht _ hp hB _ hk hS1 => by
    rw [← ht]; rw [← ht] at hS1 hk; exact kk u t.heap locs1 hp (h.back hw hB hk hS1))
end PartRows
/-- a Machine of the object -/
def gmM (q a : Nat) : Nat := 6 + 57 * q + a
def giM (q a : Nat) : Option Nat := if 6 + 57 * q ≤ a ∧ a < 6 + 57 * q + 57 then some (a - (6 + 57 * q)) else none
theorem prtM {g : Nat → Nat} {T : Nat → ClassId} {ad : Nat → Nat} {q : Nat} (hq : q < 7) : prt (bE g T ad) 405 57 (gmM q) (giM q) (mE T (fun x => ad (gmM q x))) := by
  refine ⟨fun k hk => by unfold gmM; omega, fun j hj => ?_, fun a j h => ?_, fun k hk r => b_M hk⟩
  · unfold giM gmM
    rw [if_pos (by omega)]
    congr 1; omega
  · unfold giM at h
    by_cases c : 6 + 57 * q ≤ a ∧ a < 6 + 57 * q + 57
    · rw [if_pos c] at h
      cases h
      unfold gmM
      omega
    · rw [if_neg c] at h; cases h
/-- its text -/
def gmX (a : Nat) : Nat := 3 + a
def giX (a : Nat) : Option Nat := if 3 ≤ a ∧ a < 6 then some (a - 3) else none
theorem prtX {g : Nat → Nat} {T : Nat → ClassId} {ad : Nat → Nat} : prt (bE g T ad) 405 3 gmX giX (xE g T (fun x => ad (gmX x))) := by
  refine ⟨fun k hk => by unfold gmX; omega, fun j hj => ?_, fun a j h => ?_, fun k hk r => b_X hk⟩
  · unfold giX gmX
    rw [if_pos (by omega)]
    congr 1; omega
  · unfold giX at h
    by_cases c : 3 ≤ a ∧ a < 6
    · rw [if_pos c] at h
      cases h
      unfold gmX
      omega
    · rw [if_neg c] at h; cases h
/-- two of its Machines -/
def gmP (q0 q1 a : Nat) : Nat := if a < 57 then gmM q0 a else gmM q1 (a - 57)
def giP (q0 q1 a : Nat) : Option Nat := match giM q0 a with
  | some j => some j
  | none => (giM q1 a).map (57 + ·)
theorem prtP {g : Nat → Nat} {T : Nat → ClassId} {ad : Nat → Nat} {q0 q1 : Nat} (h0 : q0 < 7) (h1 : q1 < 7) (hne : q0 ≠ q1) : prt (bE g T ad) 405 114 (gmP q0 q1) (giP q0 q1) (prE T (fun x => ad (gmP q0 q1 x))) := by
  have m0 := prtM (g := g) (T := T) (ad := ad) h0
  have m1 := prtM (g := g) (T := T) (ad := ad) h1
  refine ⟨fun k hk => ?_, fun j hj => ?_, fun a j h => ?_, fun k hk r => ?_⟩
  · unfold gmP
    by_cases c : k < 57
    · rw [if_pos c]; exact m0.1 k c
    · rw [if_neg c]; exact m1.1 _ (by omega)
  · unfold gmP giP
    by_cases c : j < 57
    · rw [if_pos c, m0.2.1 j c]
    · rw [if_neg c, m1.2.1 (j - 57) (by omega)]
      have e : giM q0 (gmM q1 (j - 57)) = none := by
        unfold giM gmM
        rw [if_neg (by omega)]
      rw [e]
      show some (57 + (j - 57)) = some j
      congr 1; omega
  · unfold giP at h
    cases e : giM q0 a with
    | some j' =>
      rw [e] at h
      cases h
      have h2 := m0.2.2.1 a j e
      refine ⟨by omega, ?_⟩
      unfold gmP
      rw [if_pos h2.1]; exact h2.2
    | none =>
      rw [e] at h
      cases e2 : giM q1 a with
      | none => rw [e2] at h; cases h
      | some j' =>
        rw [e2] at h
        cases h
        have h2 := m1.2.2.1 a j' e2
        show 57 + j' < 114 ∧ gmP q0 q1 (57 + j') = a
        refine ⟨by omega, ?_⟩
        unfold gmP
        rw [if_neg (by omega), show 57 + j' - 57 = j' by omega]; exact h2.2
  · unfold gmP
    by_cases c : k < 57
    · rw [if_pos c, m0.2.2.2 k c, p_A c]
      exact mE_cong c (fun x hx => by rw [if_pos hx])
    · rw [if_neg c, m1.2.2.2 (k - 57) (by omega)]
      unfold prE
      rw [if_neg c]
      exact mE_cong (by omega) (fun x hx => by
        show _ = ad (if 57 + x < 57 then gmM q0 (57 + x) else gmM q1 (57 + x - 57))
        rw [if_neg (by omega), show 57 + x - 57 = x by omega])

