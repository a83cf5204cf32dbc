/-! the text of both: where it is read -/
def TN (L : Nat) (v u : St) : Prop := L ≤ 150 ∧ v 0 1 = nI L ∧ u 0 6 = nI L ∧ (∀ k, k < 150 → v 1 k = u 4 k ∧ 0 ≤ (u 4 k).toInt ∧ (u 4 k).toInt ≤ 127) ∧ ∀ k, k < 4 → v 2 k = u 5 k
def TX (L P : Nat) (v u : St) : Prop := TN L v u ∧ P ≤ L ∧ v 0 2 = nI P ∧ u 0 8 = nI P
/-- of the reference, what reading leaves -/
def fq (u u' : St) : Prop := ∀ x y, x ≠ 5 → ¬ (x = 0 ∧ (y = 8 ∨ y = 9)) → u' x y = u x y
theorem fq.refl {u : St} : fq u u := fun _ _ _ _ => rfl
theorem fq.trans {u u' u'' : St} (a : fq u u') (b : fq u' u'') : fq u u'' := fun x y h1 h2 => (b x y h1 h2).trans (a x y h1 h2)
theorem fq.o8 {u : St} {w : Int32} : fq u (up2 u 0 8 w) := fun x y h1 h2 => if_neg (by omega)
theorem fq.o9 {u : St} {w : Int32} : fq u (up2 u 0 9 w) := fun x y h1 h2 => if_neg (by omega)
theorem fq.o5 {u : St} {j : Nat} {w : Int32} : fq u (up2 u 5 j w) := fun x y h1 h2 => if_neg (by omega)
theorem fq.r4 {u u' : St} (a : fq u u') : u' 4 = u 4 := funext fun y => a 4 y (by decide) (by omega)
/-- of the class, what reading leaves -/
def fv (v v' : St) : Prop := ∀ y, y ≠ 2 → v' 0 y = v 0 y
theorem fv.refl {v : St} : fv v v := fun _ _ => rfl
theorem fv.trans {v v' v'' : St} (a : fv v v') (b : fv v' v'') : fv v v'' := fun y h => (b y h).trans (a y h)
theorem fv.o2 {v : St} {w : Int32} : fv v (up2 v 0 2 w) := fun y h => up2_j h
theorem in_01 (x a b : Int32) : f_X9_in x a b = 0 ∨ f_X9_in x a b = 1 := by
  unfold f_X9_in
  split
  · exact Or.inl rfl
  · split
    · exact Or.inl rfl
    · exact Or.inr rfl
section Tx
variable {L P : Nat} {v u : St}
theorem isAt_eq (h : TX L P v u) (a b : Int32) : f_X9_isAt u a b = if P < L then f_X9_in (v 1 P) a b else 0 := by
  obtain ⟨⟨hL, -, e6, hb, -⟩, hP, -, e8⟩ := h
  unfold f_X9_isAt
  dsimp only
  rw [e6, e8]
  by_cases c : P < L
  · rw [if_pos c, if_neg (by rw [nI_leI (by omega) (by omega)]; omega), nI_clamp (by omega), (hb P (by omega)).1]
    rcases in_01 (u 4 P) a b with e | e <;> rw [e] <;> rfl
  · rw [if_neg c, if_pos (by rw [nI_leI (by omega) (by omega)]; omega)]
theorem end_eq (h : TX L P v u) : (v 0 1 ≤ v 0 2) ↔ ¬ P < L := by
  obtain ⟨⟨hL, e1, -, -, -⟩, hP, e2, -⟩ := h
  rw [e1, e2, nI_leI (by omega) (by omega)]
  omega
theorem end_eq9 (h : TX L P v u) : (u 0 6 ≤ u 0 8) ↔ ¬ P < L := by
  obtain ⟨⟨hL, -, e6, -, -⟩, hP, -, e8⟩ := h
  rw [e6, e8, nI_leI (by omega) (by omega)]
  omega
theorem at_P (h : TX L P v u) : (v 0 2).toNatClampNeg = P := by
  obtain ⟨⟨hL, -, -, -, -⟩, hP, e2, -⟩ := h
  rw [e2, nI_clamp (by omega)]
theorem here_eq (h : TX L P v u) : f_X2_byteHere v = if P < L then v 1 P else -1 := by
  unfold f_X2_byteHere
  rw [at_P h]
  by_cases c : P < L
  · rw [if_pos c, if_neg (by rw [end_eq h]; omega)]
  · rw [if_neg c, if_pos (by rw [end_eq h]; exact c)]
theorem TN.c {v' u' : St} (h : TN L v u) (e1 : v' 0 1 = v 0 1) (r1 : v' 1 = v 1) (r2 : v' 2 = v 2) (e6 : u' 0 6 = u 0 6) (r4 : u' 4 = u 4) (r5 : u' 5 = u 5) : TN L v' u' := by
  unfold TN
  rw [e1, r1, r2, e6, r4, r5]
  exact h
theorem TX.step (h : TX L P v u) (hP : P < L) : TX L (P + 1) (up2 v 0 2 (v 0 2 + 1)) (up2 u 0 8 (u 0 8 + 1)) := by
  obtain ⟨hN, -, e2, e8⟩ := h
  refine ⟨hN.c (up2_j (by decide)) (up2_rowk (by decide)) (up2_rowk (by decide)) (up2_j (by decide)) (up2_rowk (by decide)) (up2_rowk (by decide)), hP, ?_, ?_⟩
  · rw [up2_s, e2, nI_1]
  · rw [up2_s, e8, nI_1]
theorem in_32 (x : Int32) : (f_X9_in x 32 32 = 0) ↔ ¬ x = 32 := by
  rcases in_cases x 32 32 with e | ⟨e, h1, h2⟩
  · rw [e]
    refine ⟨fun _ => ?_, fun _ => rfl⟩
    intro ex
    rw [ex] at e
    exact absurd e (by decide)
  · rw [e]
    have : x = 32 := Int32.toInt_inj.mp (by omega)
    rw [this]
    exact ⟨fun q => absurd q (by decide), fun q => absurd rfl q⟩
theorem in_59 (x : Int32) : (f_X9_in x 59 59 = 0) ↔ ¬ x = 59 := by
  rcases in_cases x 59 59 with e | ⟨e, h1, h2⟩
  · rw [e]
    refine ⟨fun _ => ?_, fun _ => rfl⟩
    intro ex
    rw [ex] at e
    exact absurd e (by decide)
  · rw [e]
    have : x = 59 := Int32.toInt_inj.mp (by omega)
    rw [this]
    exact ⟨fun q => absurd q (by decide), fun q => absurd rfl q⟩
theorem skip_sim : ∀ n P v u, TX L P v u → ∃ P', P ≤ P' ∧ TX L P' (f_X2_skipSpaces_l0 n v) (f_X9_skips_l9 n u) ∧ fv v (f_X2_skipSpaces_l0 n v) ∧ fq u (f_X9_skips_l9 n u) ∧ (0 < n → (f_X9_isAt u 32 32 = 0 → P' = P) ∧ (¬ f_X9_isAt u 32 32 = 0 → P < P'))
  | 0, P, v, u, h => ⟨P, Nat.le_refl _, h, fv.refl, fq.refl, fun q => absurd q (by omega)⟩
  | n + 1, P, v, u, h => by
    by_cases c : P < L
    · by_cases c2 : v 1 P = 32
      · have hi : ¬ f_X9_isAt u 32 32 = 0 := by rw [isAt_eq h, if_pos c, in_32]; exact fun q => q c2
        have e1 : f_X2_skipSpaces_l0 (n + 1) v = f_X2_skipSpaces_l0 n (up2 v 0 2 (v 0 2 + 1)) := (if_neg (by rw [end_eq h]; omega)).trans (if_pos (by rw [at_P h]; exact c2))
        have e2 : f_X9_skips_l9 (n + 1) u = f_X9_skips_l9 n (up2 u 0 8 (u 0 8 + 1)) := if_neg hi
        obtain ⟨P', h1, h2, h3, h4, -⟩ := skip_sim n (P + 1) _ _ (h.step c)
        rw [e1, e2]
        exact ⟨P', by omega, h2, fv.o2.trans h3, fq.o8.trans h4, fun _ => ⟨fun q => absurd q hi, fun _ => by omega⟩⟩
      · have hi : f_X9_isAt u 32 32 = 0 := by rw [isAt_eq h, if_pos c, in_32]; exact c2
        have e1 : f_X2_skipSpaces_l0 (n + 1) v = v := (if_neg (by rw [end_eq h]; omega)).trans (if_neg (by rw [at_P h]; exact c2))
        have e2 : f_X9_skips_l9 (n + 1) u = u := if_pos hi
        rw [e1, e2]
        exact ⟨P, Nat.le_refl _, h, fv.refl, fq.refl, fun _ => ⟨fun _ => rfl, fun q => absurd hi q⟩⟩
    · have hi : f_X9_isAt u 32 32 = 0 := by rw [isAt_eq h, if_neg c]
      have e1 : f_X2_skipSpaces_l0 (n + 1) v = v := if_pos (by rw [end_eq h]; exact c)
      have e2 : f_X9_skips_l9 (n + 1) u = u := if_pos hi
      rw [e1, e2]
      exact ⟨P, Nat.le_refl _, h, fv.refl, fq.refl, fun _ => ⟨fun _ => rfl, fun q => absurd hi q⟩⟩
end Tx
/-! letters in a number -/
def pkN : Nat → (Nat → Nat) → Nat
  | 0, _ => 0
  | n + 1, b => pkN n b * 256 + b n
theorem pkN_lt {b : Nat → Nat} (hb : ∀ j, b j < 256) : ∀ n, pkN n b < 256 ^ n
  | 0 => Nat.one_pos
  | n + 1 => by
    have h1 := pkN_lt hb n
    have h2 := hb n
    show pkN n b * 256 + b n < 256 ^ (n + 1)
    rw [Nat.pow_succ]
    omega
theorem pkN_inj {a b : Nat → Nat} : ∀ n m, (∀ j, j < n → 0 < a j ∧ a j < 256) → (∀ j, j < m → 0 < b j ∧ b j < 256) → pkN n a = pkN m b → n = m ∧ ∀ j, j < n → a j = b j
  | 0, 0, _, _, _ => ⟨rfl, fun j hj => absurd hj (by omega)⟩
  | 0, m + 1, _, hb, e => by
    have h := hb m (by omega)
    have e' : 0 = pkN m b * 256 + b m := e
    omega
  | n + 1, 0, ha, _, e => by
    have h := ha n (by omega)
    have e' : pkN n a * 256 + a n = 0 := e
    omega
  | n + 1, m + 1, ha, hb, e => by
    have h1 := ha n (by omega)
    have h2 := hb m (by omega)
    have e' : pkN n a * 256 + a n = pkN m b * 256 + b m := e
    obtain ⟨h3, h4⟩ := pkN_inj n m (fun j hj => ha j (by omega)) (fun j hj => hb j (by omega)) (by omega)
    subst h3
    refine ⟨rfl, fun j hj => ?_⟩
    by_cases c : j = n
    · subst c; omega
    · exact h4 j (by omega)
theorem pkN_c {a b : Nat → Nat} : ∀ n, (∀ j, j < n → a j = b j) → pkN n a = pkN n b
  | 0, _ => rfl
  | n + 1, h => by
    show pkN n a * 256 + a n = pkN n b * 256 + b n
    rw [pkN_c n (fun j hj => h j (by omega)), h n (by omega)]
theorem L64_eq {a b : Nat} (ha : a < 2 ^ 62) (hb : b < 2 ^ 62) (h : Int64.ofNat a = Int64.ofNat b) : a = b := by
  have h1 : (BitVec.ofNat 64 a).toNat = (BitVec.ofNat 64 b).toNat := congrArg (fun x => x.toBitVec.toNat) h
  rw [BitVec.toNat_ofNat, BitVec.toNat_ofNat, Nat.mod_eq_of_lt (by omega), Nat.mod_eq_of_lt (by omega)] at h1
  exact h1
theorem L64_pack {a b : Nat} (ha : a < 2 ^ 54) (hb : b < 256) : (Int64.ofNat a <<< ((8 : Int32).toInt64 &&& 63)) ||| Int64.ofNat b = Int64.ofNat (a * 256 + b) := by
  have e8 : ((8 : Int32).toInt64 &&& 63) = 8 := by decide
  rw [e8]
  apply Int64.toBitVec_inj.mp
  apply BitVec.eq_of_toNat_eq
  show ((BitVec.ofNat 64 a <<< ((8 : Int64).toBitVec.smod 64)) ||| BitVec.ofNat 64 b).toNat = (BitVec.ofNat 64 (a * 256 + b)).toNat
  rw [show (8 : Int64).toBitVec.smod 64 = 8#64 by decide]
  show ((BitVec.ofNat 64 a <<< (8 : Nat)) ||| BitVec.ofNat 64 b).toNat = (BitVec.ofNat 64 (a * 256 + b)).toNat
  rw [BitVec.toNat_or, BitVec.toNat_shiftLeft, BitVec.toNat_ofNat, BitVec.toNat_ofNat, BitVec.toNat_ofNat, Nat.mod_eq_of_lt (show a < 2 ^ 64 by omega), Nat.mod_eq_of_lt (show b < 2 ^ 64 by omega), Nat.mod_eq_of_lt (show a * 256 + b < 2 ^ 64 by omega)]
  have e1 : a <<< 8 = a * 256 := Nat.shiftLeft_eq a 8
  rw [Nat.mod_eq_of_lt (by rw [e1]; omega), ← Nat.shiftLeft_add_eq_or_of_lt (i := 8) (by omega), e1]
theorem b_64 : ∀ b, b < 128 → (nI b).toInt64 = Int64.ofNat b := by decide +kernel
theorem pkN_lt2 {b : Nat → Nat} : ∀ n, (∀ j, j < n → b j < 256) → pkN n b < 256 ^ n
  | 0, _ => Nat.one_pos
  | n + 1, hb => by
    have h1 := pkN_lt2 n (fun j hj => hb j (by omega))
    have h2 := hb n (by omega)
    show pkN n b * 256 + b n < 256 ^ (n + 1)
    rw [Nat.pow_succ]
    omega
theorem L64_b {b : Nat → Nat} {n : Nat} (hb : ∀ j, j < n → b j < 256) (hn : n ≤ 7) : pkN n b < 2 ^ 62 := by
  have h1 := pkN_lt2 n hb
  have h2 : 256 ^ n ≤ 256 ^ 7 := Nat.pow_le_pow_right (by decide) hn
  have h3 : (256 : Nat) ^ 7 < 2 ^ 62 := by decide
  omega
