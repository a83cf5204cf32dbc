theorem iX2 : ∀ w ∈ u_ws RX2 TX2 6, w ∈ AW := by
  intro w hw
  obtain ⟨k, hk, rfl⟩ := List.mem_map.mp hw
  have hk := List.mem_range.mp hk
  match k, hk with
  | 0, _ => exact q_2_4
  | 1, _ => exact q_2_6
  | 2, _ => exact q_2_8
  | 3, _ => exact q_2_10
  | 4, _ => exact q_2_12
  | 5, _ => exact q_2_14
  | n + 6, h => exact absurd h (by omega)
theorem iX3 : ∀ w ∈ u_ws RX3 TX3 5, w ∈ AW := by
  intro w hw
  obtain ⟨k, hk, rfl⟩ := List.mem_map.mp hw
  have hk := List.mem_range.mp hk
  match k, hk with
  | 0, _ => exact q_1_52
  | 1, _ => exact q_1_54
  | 2, _ => exact q_1_56
  | 3, _ => exact q_1_58
  | 4, _ => exact q_1_60
  | n + 5, h => exact absurd h (by omega)
theorem iX4 : ∀ w ∈ u_ws RX4 TX4 3, w ∈ AW := by
  intro w hw
  obtain ⟨k, hk, rfl⟩ := List.mem_map.mp hw
  have hk := List.mem_range.mp hk
  match k, hk with
  | 0, _ => exact q_1_220
  | 1, _ => exact q_1_222
  | 2, _ => exact q_1_224
  | n + 3, h => exact absurd h (by omega)
theorem iX5 : ∀ w ∈ u_ws RX5 TX5 11, w ∈ AW := by
  intro w hw
  obtain ⟨k, hk, rfl⟩ := List.mem_map.mp hw
  have hk := List.mem_range.mp hk
  match k, hk with
  | 0, _ => exact q_1_184
  | 1, _ => exact q_1_186
  | 2, _ => exact q_1_188
  | 3, _ => exact q_1_190
  | 4, _ => exact q_1_192
  | 5, _ => exact q_1_194
  | 6, _ => exact q_1_196
  | 7, _ => exact q_1_198
  | 8, _ => exact q_1_200
  | 9, _ => exact q_1_202
  | 10, _ => exact q_1_204
  | n + 11, h => exact absurd h (by omega)
theorem iX6 : ∀ w ∈ u_ws RX6 TX6 3, w ∈ AW := by
  intro w hw
  obtain ⟨k, hk, rfl⟩ := List.mem_map.mp hw
  have hk := List.mem_range.mp hk
  match k, hk with
  | 0, _ => exact q_1_82
  | 1, _ => exact q_1_84
  | 2, _ => exact q_1_86
  | n + 3, h => exact absurd h (by omega)
theorem iX7 : ∀ w ∈ u_ws RX7 TX7 20, w ∈ AW := by
  intro w hw
  obtain ⟨k, hk, rfl⟩ := List.mem_map.mp hw
  have hk := List.mem_range.mp hk
  match k, hk with
  | 0, _ => exact q_1_129
  | 1, _ => exact q_1_131
  | 2, _ => exact q_1_133
  | 3, _ => exact q_1_135
  | 4, _ => exact q_1_137
  | 5, _ => exact q_1_139
  | 6, _ => exact q_1_141
  | 7, _ => exact q_1_143
  | 8, _ => exact q_1_145
  | 9, _ => exact q_1_147
  | 10, _ => exact q_1_149
  | 11, _ => exact q_1_151
  | 12, _ => exact q_1_153
  | 13, _ => exact q_1_155
  | 14, _ => exact q_1_157
  | 15, _ => exact q_1_159
  | 16, _ => exact q_1_161
  | 17, _ => exact q_1_163
  | 18, _ => exact q_1_165
  | 19, _ => exact q_1_167
  | n + 20, h => exact absurd h (by omega)
theorem iX8 : ∀ w ∈ u_ws RX8 TX8 5, w ∈ AW := by
  intro w hw
  obtain ⟨k, hk, rfl⟩ := List.mem_map.mp hw
  have hk := List.mem_range.mp hk
  match k, hk with
  | 0, _ => exact q_2_23
  | 1, _ => exact q_2_25
  | 2, _ => exact q_2_27
  | 3, _ => exact q_2_29
  | 4, _ => exact q_2_31
  | n + 5, h => exact absurd h (by omega)
theorem iX9 : ∀ w ∈ u_ws RX9 TX9 12, w ∈ AW := by
  intro w hw
  obtain ⟨k, hk, rfl⟩ := List.mem_map.mp hw
  have hk := List.mem_range.mp hk
  match k, hk with
  | 0, _ => exact q_4_224
  | 1, _ => exact q_4_226
  | 2, _ => exact q_4_228
  | 3, _ => exact q_4_230
  | 4, _ => exact q_4_232
  | 5, _ => exact q_4_234
  | 6, _ => exact q_4_236
  | 7, _ => exact q_4_238
  | 8, _ => exact q_5_0
  | 9, _ => exact q_5_2
  | 10, _ => exact q_5_4
  | 11, _ => exact q_5_6
  | n + 12, h => exact absurd h (by omega)
def zb (x : Int32) : Int32 := x &&& 1
theorem zb_zb (x : Int32) : zb (zb x) = zb x := by
  unfold zb; apply Int32.toBitVec_inj.mp; simp [BitVec.and_assoc]
theorem zb_nar {x : Int32} : narrow .boolean (.int (zb x)) = .int (zb x) := by
  show Value.int _ = _
  exact congrArg Value.int (zb_zb x)
/-- a Machine's places: 0 itself, 1 settings, 2 accounts, 3 sources, 4 stacked, 5 the log, 6 to 8 its rows, 9 + i a source, 21 + i its row of sections, 33 + 2 i + j a section -/
def srcE (ad : Nat → Nat) (i : Nat) (r : Nat → Int32) : List Value := [.int (r 0), .int (r 1), .int (r 2), .int (zb (r 3)), .int (zb (r 4)), .int (zb (r 5)), .int (r 6), .int (r 7), .int (r 8), .int (r 9), .int (r 10), .int (r 11), .int (r 12), .int (r 13), .int (r 14), .int (r 15), .int (r 16), .int (r 17), .int (r 18), .ref (ad (21 + i))]
def macE (ad : Nat → Nat) (r : Nat → Int32) : List Value := [.int (r 0), .ref (ad 1), .ref (ad 2), .ref (ad 3), .int (r 4), .ref (ad 4), .int (r 6), .int (r 7), .int (r 8), .int (r 9), .ref (ad 5)]
def logE (ad : Nat → Nat) (r : Nat → Int32) : List Value := [.ref (ad 6), .ref (ad 7), .ref (ad 8), .int (r 3), .int (r 4)]
def secE (r : Nat → Int32) : List Value := [.int (r 0), .int (r 1), .int (r 2)]
/-- the references of an array of n -/
def trn (n : Nat) (f : Nat → Nat) (i : Nat) : Option Nat := if i < n then some (f i) else none
theorem tr_ok {n : Nat} {f : Nat → Nat} {i j : Nat} (e : i = j) (h : j < n) : va_rf (trn n f i) = .ref (f j) := by
  subst e
  unfold trn
  rw [if_pos h]
  rfl
theorem tr_cong {n : Nat} {f f' : Nat → Nat} (h : ∀ i, i < n → f i = f' i) : trn n f = trn n f' := by
  funext i
  unfold trn
  by_cases hi : i < n
  · rw [if_pos hi, if_pos hi, h i hi]
  · rw [if_neg hi, if_neg hi]
def mE0 (T : Nat → ClassId) (ad : Nat → Nat) (k : Nat) (r : Nat → Int32) : va_E :=
  match k with
  | 0 => .inr (3, macE ad r)
  | 1 => .inl (T 1, 4, .inl r)
  | 2 => .inl (T 1, 10, .inl r)
  | 3 => .inl (T 5, 12, .inr (.inr (.inr (.inr (trn 12 (fun i => ad (9 + i)))))))
  | 4 => .inl (T 1, 12, .inl r)
  | 5 => .inr (1, logE ad r)
  | _ => .inl (T 1, 20, .inl r)
def mE (T : Nat → ClassId) (ad : Nat → Nat) (k : Nat) (r : Nat → Int32) : va_E :=
  if k < 9 then mE0 T ad k r
  else if k < 21 then .inr (5, srcE ad (k - 9) r)
  else if k < 33 then .inl (T 4, 2, .inr (.inr (.inr (.inr (trn 2 (fun j => ad (33 + 2 * (k - 21) + j)))))))
  else .inr (4, secE r)
theorem mE_src {T : Nat → ClassId} {ad : Nat → Nat} {i : Nat} {r : Nat → Int32} (h : i < 12) : mE T ad (9 + i) r = .inr (5, srcE ad i r) := by
  rw [mE, if_neg (by omega), if_pos (by omega), show 9 + i - 9 = i by omega]
theorem mE_sar {T : Nat → ClassId} {ad : Nat → Nat} {i : Nat} {r : Nat → Int32} (h : i < 12) : mE T ad (21 + i) r = .inl (T 4, 2, .inr (.inr (.inr (.inr (trn 2 (fun j => ad (33 + 2 * i + j))))))) := by
  rw [mE, if_neg (by omega), if_neg (by omega), if_pos (by omega), show 21 + i - 21 = i by omega]
theorem mE_cong {T : Nat → ClassId} {ad ad' : Nat → Nat} {k : Nat} {r : Nat → Int32} (hk : k < 57) (h : ∀ x, x < 57 → ad x = ad' x) : mE T ad k r = mE T ad' k r := by
  by_cases h1 : k < 9
  · rw [mE, mE, if_pos h1, if_pos h1]
    have h2 : k = 0 ∨ k = 1 ∨ k = 2 ∨ k = 3 ∨ k = 4 ∨ k = 5 ∨ k = 6 ∨ k = 7 ∨ k = 8 := by omega
    rcases h2 with rfl | rfl | rfl | rfl | rfl | rfl | rfl | rfl | rfl
    · show Sum.inr (3, macE ad r) = Sum.inr (3, macE ad' r)
      unfold macE
      rw [h 1 (by decide), h 2 (by decide), h 3 (by decide), h 4 (by decide), h 5 (by decide)]
    · rfl
    · rfl
    · show (Sum.inl (T 5, 12, .inr (.inr (.inr (.inr (trn 12 (fun i => ad (9 + i))))))) : va_E) = Sum.inl (T 5, 12, .inr (.inr (.inr (.inr (trn 12 (fun i => ad' (9 + i)))))))
      rw [tr_cong (f := fun i => ad (9 + i)) (f' := fun i => ad' (9 + i)) (fun i hi => h _ (by omega))]
    · rfl
    · show Sum.inr (1, logE ad r) = Sum.inr (1, logE ad' r)
      unfold logE
      rw [h 6 (by decide), h 7 (by decide), h 8 (by decide)]
    · rfl
    · rfl
    · rfl
  · by_cases h2 : k < 21
    · rw [mE, mE, if_neg h1, if_neg h1, if_pos h2, if_pos h2]
      unfold srcE
      rw [h _ (by omega)]
    · by_cases h3 : k < 33
      · rw [mE, mE, if_neg h1, if_neg h1, if_neg h2, if_neg h2, if_pos h3, if_pos h3]
        rw [tr_cong (f := fun j => ad (33 + 2 * (k - 21) + j)) (f' := fun j => ad' (33 + 2 * (k - 21) + j)) (fun i hi => h _ (by omega))]
      · rw [mE, mE, if_neg h1, if_neg h1, if_neg h2, if_neg h2, if_neg h3, if_neg h3]
theorem mE_sec {T : Nat → ClassId} {ad : Nat → Nat} {i j : Nat} {r : Nat → Int32} (_h : i < 12) (_h2 : j < 2) : mE T ad (33 + 2 * i + j) r = .inr (4, secE r) := by
  rw [mE, if_neg (by omega), if_neg (by omega), if_neg (by omega)]
/-- the reference's places: 0 itself, 1 now, 2 past, 3 aside, 4 commands, 5 numbers -/
def mk64 (lo hi : Int32) : Int64 := Int64.ofBitVec (BitVec.ofNat 64 (lo.toBitVec.toNat + 4294967296 * hi.toBitVec.toNat))
def lo64 (v : Int64) : Int32 := Int32.ofBitVec (BitVec.ofNat 32 (v.toBitVec.toNat % 4294967296))
def hi64 (v : Int64) : Int32 := Int32.ofBitVec (BitVec.ofNat 32 (v.toBitVec.toNat / 4294967296))
theorem mk_lh (v : Int64) : mk64 (lo64 v) (hi64 v) = v := by
  apply Int64.toBitVec_inj.mp
  apply BitVec.eq_of_toNat_eq
  show ((BitVec.ofNat 32 (v.toBitVec.toNat % 4294967296)).toNat + 4294967296 * (BitVec.ofNat 32 (v.toBitVec.toNat / 4294967296)).toNat) % 2 ^ 64 = _
  rw [BitVec.toNat_ofNat, BitVec.toNat_ofNat]
  have h := v.toBitVec.isLt
  generalize v.toBitVec.toNat = n at h ⊢
  omega
def uph (σ : St) (v : Int64) : St := up2 (up2 σ 0 11 (lo64 v)) 0 12 (hi64 v)
theorem uph_o {σ : St} {v : Int64} {k j : Nat} (h : ¬ (k = 0 ∧ (j = 11 ∨ j = 12))) : uph σ v k j = σ k j := by
  unfold uph up2
  rw [if_neg (by omega), if_neg (by omega)]
theorem uph_s {σ : St} {v : Int64} : mk64 (uph σ v 0 11) (uph σ v 0 12) = v := by
  rw [show uph σ v 0 11 = lo64 v from rfl, show uph σ v 0 12 = hi64 v from rfl, mk_lh]
def modE (ad : Nat → Nat) (r : Nat → Int32) : List Value := [.ref (ad 1), .ref (ad 2), .ref (ad 3), .int (r 3), .int (r 4), .ref (ad 4), .int (r 6), .int (r 7), .int (r 8), .int (r 9), .ref (ad 5), .long (mk64 (r 11) (r 12))]
def dE (T : Nat → ClassId) (ad : Nat → Nat) (k : Nat) (r : Nat → Int32) : va_E :=
  match k with
  | 0 => .inr (7, modE ad r)
  | 1 => .inl (T 1, 381, .inl r)
  | 2 => .inl (T 1, 1524, .inl r)
  | 3 => .inl (T 1, 381, .inl r)
  | 4 => .inl (T 1, 150, .inl r)
  | _ => .inl (T 1, 4, .inl r)

section StateRows
variable {p : Program} {l : Launch} {e : Env} {R : Room} {s : State} {m : MethodId} {args : Array Value} {below : List Frame} {meth : Method} {c : Code} {H : Heap} {locs : List Loc} {cells slots : Nat} {Qw : State → Prop} {cc : ByteArray} {pc nL : Nat} {ls : Array Slot} {rest : List Value} {own : String} {D : va_G} {T : Nat → ClassId} {g : Nat → Nat} {A : Nat → Prop} {ad : Nat → Nat}
theorem gM {σ : St} {idx j : Nat} {v : Value} (Z : en p m c cc nL s args own D T g A) (hw : wo D A s.heap 57 ad (cE (mE T ad) σ) H locs) (hj : j < 11) (hq : Cond.fieldLink own idx "NestedBells$Machine" (TX5 j).2.1 (TX5 j).2.2.1 ∈ AW) (hC : (TX5 j).1 = "NestedBells$Machine") (hv : (macE ad (σ (0)))[j]? = some v) (d : decode cc pc = .ok (.getfield idx, 3))
    (kk : W p l e R s m args below meth c H locs cells slots Qw (F0 m (pc + 3) ls (v :: rest))) : W p l e R s m args below meth c H locs cells slots Qw (F0 m pc ls (.ref (ad (0)) :: rest)) :=
  gE (C := "NestedBells$Machine") (TC := TX5) (NF := 11) (ci := 3) Z hw (0) (by omega) rfl rfl rfl iX5 hj hq hC hv d kk
theorem pM {σ : St} {idx j : Nat} {v : Int32} (Z : en p m c cc nL s args own D T g A) (hw : wo D A s.heap 57 ad (cE (mE T ad) σ) H locs) (hj : j < 11) (hq : Cond.fieldLink own idx "NestedBells$Machine" (TX5 j).2.1 (TX5 j).2.2.1 ∈ AW) (hC : (TX5 j).1 = "NestedBells$Machine") (hd : tyX5 j = .int) (hf : (TX5 j).2.2.2 = false) (he : macE ad (upd (σ (0)) j v) = (macE ad (σ (0))).set j (.int v)) (d : decode cc pc = .ok (.putfield idx, 3))
    (kk : ∀ (H1 : Heap) (locs1 : List Loc), wo D A s.heap 57 ad (cE (mE T ad) (up2 σ (0) j v)) H1 locs1 → W p l e R s m args below meth c H1 locs1 cells slots Qw (F0 m (pc + 3) ls rest)) : W p l e R s m args below meth c H locs cells slots Qw (F0 m pc ls (.int v :: .ref (ad (0)) :: rest)) :=
  pE (C := "NestedBells$Machine") (TC := TX5) (NF := 11) (ci := 3) (ty0 := tyX5) (ty := .int) Z hw (0) (by omega) rfl rfl rfl iX5 tyX5_ok nmX5 hj hq hC hd rfl rfl (by rw [show (macE ad (σ (0))).length = 11 from rfl]; exact hj) ((show mE T ad (0) (upd (σ (0)) j v) = Sum.inr (3, macE ad (upd (σ (0)) j v)) from rfl).trans (congrArg (fun x => (Sum.inr (3, x) : va_E)) he)) d hf kk

theorem gEv {σ : St} {idx j : Nat} {v : Value} (Z : en p m c cc nL s args own D T g A) (hw : wo D A s.heap 57 ad (cE (mE T ad) σ) H locs) (hj : j < 5) (hq : Cond.fieldLink own idx "NestedBells$EventLog" (TX3 j).2.1 (TX3 j).2.2.1 ∈ AW) (hC : (TX3 j).1 = "NestedBells$EventLog") (hv : (logE ad (σ (5)))[j]? = some v) (d : decode cc pc = .ok (.getfield idx, 3))
    (kk : W p l e R s m args below meth c H locs cells slots Qw (F0 m (pc + 3) ls (v :: rest))) : W p l e R s m args below meth c H locs cells slots Qw (F0 m pc ls (.ref (ad (5)) :: rest)) :=
  gE (C := "NestedBells$EventLog") (TC := TX3) (NF := 5) (ci := 1) Z hw (5) (by omega) rfl rfl rfl iX3 hj hq hC hv d kk
theorem pEv {σ : St} {idx j : Nat} {v : Int32} (Z : en p m c cc nL s args own D T g A) (hw : wo D A s.heap 57 ad (cE (mE T ad) σ) H locs) (hj : j < 5) (hq : Cond.fieldLink own idx "NestedBells$EventLog" (TX3 j).2.1 (TX3 j).2.2.1 ∈ AW) (hC : (TX3 j).1 = "NestedBells$EventLog") (hd : tyX3 j = .int) (hf : (TX3 j).2.2.2 = false) (he : logE ad (upd (σ (5)) j v) = (logE ad (σ (5))).set j (.int v)) (d : decode cc pc = .ok (.putfield idx, 3))
    (kk : ∀ (H1 : Heap) (locs1 : List Loc), wo D A s.heap 57 ad (cE (mE T ad) (up2 σ (5) j v)) H1 locs1 → W p l e R s m args below meth c H1 locs1 cells slots Qw (F0 m (pc + 3) ls rest)) : W p l e R s m args below meth c H locs cells slots Qw (F0 m pc ls (.int v :: .ref (ad (5)) :: rest)) :=
  pE (C := "NestedBells$EventLog") (TC := TX3) (NF := 5) (ci := 1) (ty0 := tyX3) (ty := .int) Z hw (5) (by omega) rfl rfl rfl iX3 tyX3_ok nmX3 hj hq hC hd rfl rfl (by rw [show (logE ad (σ (5))).length = 5 from rfl]; exact hj) ((show mE T ad (5) (upd (σ (5)) j v) = Sum.inr (1, logE ad (upd (σ (5)) j v)) from rfl).trans (congrArg (fun x => (Sum.inr (1, x) : va_E)) he)) d hf kk

theorem gU {σ : St} {idx j : Nat} {v : Value} {i : Nat} (Z : en p m c cc nL s args own D T g A) (hw : wo D A s.heap 57 ad (cE (mE T ad) σ) H locs) (hi : i < 12) (hj : j < 20) (hq : Cond.fieldLink own idx "NestedBells$Source" (TX7 j).2.1 (TX7 j).2.2.1 ∈ AW) (hC : (TX7 j).1 = "NestedBells$Source") (hv : (srcE ad i (σ (9 + i)))[j]? = some v) (d : decode cc pc = .ok (.getfield idx, 3))
    (kk : W p l e R s m args below meth c H locs cells slots Qw (F0 m (pc + 3) ls (v :: rest))) : W p l e R s m args below meth c H locs cells slots Qw (F0 m pc ls (.ref (ad (9 + i)) :: rest)) :=
  gE (C := "NestedBells$Source") (TC := TX7) (NF := 20) (ci := 5) Z hw (9 + i) (by omega) rfl (mE_src hi) rfl iX7 hj hq hC hv d kk
theorem pU {σ : St} {idx j : Nat} {v : Int32} {i : Nat} (Z : en p m c cc nL s args own D T g A) (hw : wo D A s.heap 57 ad (cE (mE T ad) σ) H locs) (hi : i < 12) (hj : j < 20) (hq : Cond.fieldLink own idx "NestedBells$Source" (TX7 j).2.1 (TX7 j).2.2.1 ∈ AW) (hC : (TX7 j).1 = "NestedBells$Source") (hd : tyX7 j = .int) (hf : (TX7 j).2.2.2 = false) (he : srcE ad i (upd (σ (9 + i)) j v) = (srcE ad i (σ (9 + i))).set j (.int v)) (d : decode cc pc = .ok (.putfield idx, 3))
    (kk : ∀ (H1 : Heap) (locs1 : List Loc), wo D A s.heap 57 ad (cE (mE T ad) (up2 σ (9 + i) j v)) H1 locs1 → W p l e R s m args below meth c H1 locs1 cells slots Qw (F0 m (pc + 3) ls rest)) : W p l e R s m args below meth c H locs cells slots Qw (F0 m pc ls (.int v :: .ref (ad (9 + i)) :: rest)) :=
  pE (C := "NestedBells$Source") (TC := TX7) (NF := 20) (ci := 5) (ty0 := tyX7) (ty := .int) Z hw (9 + i) (by omega) rfl (mE_src hi) rfl iX7 tyX7_ok nmX7 hj hq hC hd rfl rfl (by rw [show (srcE ad i (σ (9 + i))).length = 20 from rfl]; exact hj) ((mE_src hi).trans (congrArg (fun x => (Sum.inr (5, x) : va_E)) he)) d hf kk

theorem gS {σ : St} {idx j : Nat} {v : Value} {i j1 : Nat} (Z : en p m c cc nL s args own D T g A) (hw : wo D A s.heap 57 ad (cE (mE T ad) σ) H locs) (hi : i < 12) (hj1 : j1 < 2) (hj : j < 3) (hq : Cond.fieldLink own idx "NestedBells$Section" (TX6 j).2.1 (TX6 j).2.2.1 ∈ AW) (hC : (TX6 j).1 = "NestedBells$Section") (hv : (secE (σ (33 + 2 * i + j1)))[j]? = some v) (d : decode cc pc = .ok (.getfield idx, 3))
    (kk : W p l e R s m args below meth c H locs cells slots Qw (F0 m (pc + 3) ls (v :: rest))) : W p l e R s m args below meth c H locs cells slots Qw (F0 m pc ls (.ref (ad (33 + 2 * i + j1)) :: rest)) :=
  gE (C := "NestedBells$Section") (TC := TX6) (NF := 3) (ci := 4) Z hw (33 + 2 * i + j1) (by omega) rfl (mE_sec hi hj1) rfl iX6 hj hq hC hv d kk
theorem pS {σ : St} {idx j : Nat} {v : Int32} {i j1 : Nat} (Z : en p m c cc nL s args own D T g A) (hw : wo D A s.heap 57 ad (cE (mE T ad) σ) H locs) (hi : i < 12) (hj1 : j1 < 2) (hj : j < 3) (hq : Cond.fieldLink own idx "NestedBells$Section" (TX6 j).2.1 (TX6 j).2.2.1 ∈ AW) (hC : (TX6 j).1 = "NestedBells$Section") (hd : tyX6 j = .int) (hf : (TX6 j).2.2.2 = false) (he : secE (upd (σ (33 + 2 * i + j1)) j v) = (secE (σ (33 + 2 * i + j1))).set j (.int v)) (d : decode cc pc = .ok (.putfield idx, 3))
    (kk : ∀ (H1 : Heap) (locs1 : List Loc), wo D A s.heap 57 ad (cE (mE T ad) (up2 σ (33 + 2 * i + j1) j v)) H1 locs1 → W p l e R s m args below meth c H1 locs1 cells slots Qw (F0 m (pc + 3) ls rest)) : W p l e R s m args below meth c H locs cells slots Qw (F0 m pc ls (.int v :: .ref (ad (33 + 2 * i + j1)) :: rest)) :=
  pE (C := "NestedBells$Section") (TC := TX6) (NF := 3) (ci := 4) (ty0 := tyX6) (ty := .int) Z hw (33 + 2 * i + j1) (by omega) rfl (mE_sec hi hj1) rfl iX6 tyX6_ok nmX6 hj hq hC hd rfl rfl (by rw [show (secE (σ (33 + 2 * i + j1))).length = 3 from rfl]; exact hj) ((mE_sec hi hj1).trans (congrArg (fun x => (Sum.inr (4, x) : va_E)) he)) d hf kk

theorem gD {σ : St} {idx j : Nat} {v : Value} (Z : en p m c cc nL s args own D T g A) (hw : wo D A s.heap 6 ad (cE (dE T ad) σ) H locs) (hj : j < 12) (hq : Cond.fieldLink own idx "NestedBellsModel" (TX9 j).2.1 (TX9 j).2.2.1 ∈ AW) (hC : (TX9 j).1 = "NestedBellsModel") (hv : (modE ad (σ (0)))[j]? = some v) (d : decode cc pc = .ok (.getfield idx, 3))
    (kk : W p l e R s m args below meth c H locs cells slots Qw (F0 m (pc + 3) ls (v :: rest))) : W p l e R s m args below meth c H locs cells slots Qw (F0 m pc ls (.ref (ad (0)) :: rest)) :=
  gE (C := "NestedBellsModel") (TC := TX9) (NF := 12) (ci := 7) Z hw (0) (by omega) rfl rfl rfl iX9 hj hq hC hv d kk
theorem pD {σ : St} {idx j : Nat} {v : Int32} (Z : en p m c cc nL s args own D T g A) (hw : wo D A s.heap 6 ad (cE (dE T ad) σ) H locs) (hj : j < 12) (hq : Cond.fieldLink own idx "NestedBellsModel" (TX9 j).2.1 (TX9 j).2.2.1 ∈ AW) (hC : (TX9 j).1 = "NestedBellsModel") (hd : tyX9 j = .int) (hf : (TX9 j).2.2.2 = false) (he : modE ad (upd (σ (0)) j v) = (modE ad (σ (0))).set j (.int v)) (d : decode cc pc = .ok (.putfield idx, 3))
    (kk : ∀ (H1 : Heap) (locs1 : List Loc), wo D A s.heap 6 ad (cE (dE T ad) (up2 σ (0) j v)) H1 locs1 → W p l e R s m args below meth c H1 locs1 cells slots Qw (F0 m (pc + 3) ls rest)) : W p l e R s m args below meth c H locs cells slots Qw (F0 m pc ls (.int v :: .ref (ad (0)) :: rest)) :=
  pE (C := "NestedBellsModel") (TC := TX9) (NF := 12) (ci := 7) (ty0 := tyX9) (ty := .int) Z hw (0) (by omega) rfl rfl rfl iX9 tyX9_ok nmX9 hj hq hC hd rfl rfl (by rw [show (modE ad (σ (0))).length = 12 from rfl]; exact hj) ((show dE T ad (0) (upd (σ (0)) j v) = Sum.inr (7, modE ad (upd (σ (0)) j v)) from rfl).trans (congrArg (fun x => (Sum.inr (7, x) : va_E)) he)) d hf kk

theorem pUb {σ : St} {idx j : Nat} {v : Int32} {i : Nat} (Z : en p m c cc nL s args own D T g A) (hw : wo D A s.heap 57 ad (cE (mE T ad) σ) H locs) (hi : i < 12) (hj : 3 ≤ j ∧ j < 6) (hq : Cond.fieldLink own idx "NestedBells$Source" (TX7 j).2.1 (TX7 j).2.2.1 ∈ AW) (hz : zb v = v) (d : decode cc pc = .ok (.putfield idx, 3))
    (kk : ∀ (H1 : Heap) (locs1 : List Loc), wo D A s.heap 57 ad (cE (mE T ad) (up2 σ (9 + i) j v)) H1 locs1 → W p l e R s m args below meth c H1 locs1 cells slots Qw (F0 m (pc + 3) ls rest)) : W p l e R s m args below meth c H locs cells slots Qw (F0 m pc ls (.int v :: .ref (ad (9 + i)) :: rest)) := by
  have h3 : j = 3 ∨ j = 4 ∨ j = 5 := by omega
  have hn : narrow .boolean (.int v) = .int v := by rw [← hz]; exact zb_nar
  have hfit : fits .boolean (.int v) = true := by
    rw [← hz]
    have : zb v = 0 ∨ zb v = 1 := by
      unfold zb
      have h := Nat.and_one_is_mod v.toBitVec.toNat
      have h2 : (v &&& 1).toBitVec.toNat = v.toBitVec.toNat % 2 := by rw [← h]; rfl
      rcases Nat.mod_two_eq_zero_or_one v.toBitVec.toNat with q | q
      · left; apply Int32.toBitVec_inj.mp; apply BitVec.eq_of_toNat_eq; rw [h2, q]; rfl
      · right; apply Int32.toBitVec_inj.mp; apply BitVec.eq_of_toNat_eq; rw [h2, q]; rfl
    rcases this with q | q <;> rw [q] <;> rfl
  refine pE (C := "NestedBells$Source") (TC := TX7) (NF := 20) (ci := 5) (ty0 := tyX7) (ty := .boolean) Z hw (9 + i) (by omega) rfl (mE_src hi) rfl iX7 tyX7_ok nmX7 (by omega) hq ?_ ?_ hn hfit ?_ ((mE_src hi).trans ?_) d ?_ kk
  · rcases h3 with rfl | rfl | rfl <;> rfl
  · rcases h3 with rfl | rfl | rfl <;> rfl
  · rcases h3 with rfl | rfl | rfl <;> exact Nat.le_of_ble_eq_true rfl
  · rcases h3 with rfl | rfl | rfl <;> simp [srcE, upd, hz]
  · rcases h3 with rfl | rfl | rfl <;> rfl
theorem pDL {σ : St} {idx : Nat} {v : Int64} (Z : en p m c cc nL s args own D T g A) (hw : wo D A s.heap 6 ad (cE (dE T ad) σ) H locs) (hq : Cond.fieldLink own idx "NestedBellsModel" (TX9 11).2.1 (TX9 11).2.2.1 ∈ AW) (d : decode cc pc = .ok (.putfield idx, 3))
    (kk : ∀ (H1 : Heap) (locs1 : List Loc), wo D A s.heap 6 ad (cE (dE T ad) (uph σ v)) H1 locs1 → W p l e R s m args below meth c H1 locs1 cells slots Qw (F0 m (pc + 3) ls rest)) : W p l e R s m args below meth c H locs cells slots Qw (F0 m pc ls (.long v :: .ref (ad 0) :: rest)) := by
  refine pf (C := "NestedBellsModel") (TC := TX9) (NF := 12) (ci := 7) (ty0 := tyX9) (ty := .long) (j := 11) (fs := modE ad (σ 0)) (ct' := cE (dE T ad) (uph σ v)) Z hw 0 (by decide) rfl rfl rfl iX9 tyX9_ok nmX9 (by decide) hq rfl (Or.inl rfl) rfl rfl rfl (by rw [show (modE ad (σ 0)).length = 12 from rfl]; decide) ?_ d rfl kk
  funext a
  by_cases ha : a = 0
  · subst ha
    show Sum.inr (7, (modE ad (σ 0)).set 11 (.long v)) = Sum.inr (7, modE ad (uph σ v 0))
    have e : modE ad (uph σ v 0) = (modE ad (σ 0)).set 11 (.long v) := by
      show [_, _, _, _, _, _, _, _, _, _, _, Value.long (mk64 (uph σ v 0 11) (uph σ v 0 12))] = _
      rw [uph_s]
      rfl
    rw [e]
  · show (if a = 0 then _ else _) = _
    rw [if_neg ha]
    show dE T ad a (σ a) = dE T ad a (uph σ v a)
    rw [show uph σ v a = σ a from by unfold uph; rw [up2_rowk ha, up2_rowk ha]]
end StateRows
/-- how often a loop may turn, by names: a written number would be counted down -/
def fu3 : Nat := 3
def fu4 : Nat := 4
def fu5 : Nat := 5
def fu10 : Nat := 10
def fu13 : Nat := 13
def fu21 : Nat := 21
def fu61 : Nat := 61
def fu151 : Nat := 151
def fu382 : Nat := 382
def fu501 : Nat := 501
def fu1001 : Nat := 1001
def fu1002 : Nat := 1002
def fu1144 : Nat := 1144
/-- what the class keeps of a Machine: numbers that index -/
def InvC (σ : St) : Prop := (0 ≤ (σ 0 4).toInt ∧ (σ 0 4).toInt ≤ 12) ∧ (0 ≤ (σ 0 6).toInt ∧ (σ 0 6).toInt ≤ 12) ∧ (0 ≤ (σ 5 3).toInt ∧ (σ 5 3).toInt < 20) ∧ (0 ≤ (σ 5 4).toInt ∧ (σ 5 4).toInt ≤ 20) ∧ ∀ i, i < 12 → 0 ≤ (σ (9 + i) 18).toInt ∧ (σ (9 + i) 18).toInt ≤ 2
abbrev InvCcr (k j : Nat) : Prop := ¬ ((k = 0 ∧ (j = 4 ∨ j = 6)) ∨ (k = 5 ∧ (j = 3 ∨ j = 4)) ∨ (9 ≤ k ∧ k < 21 ∧ j = 18))
theorem InvC.up {σ : St} {k j : Nat} {v : Int32} (I : InvC σ) (h : InvCcr k j) : InvC (up2 σ k j v) := by
  obtain ⟨a, b, c, d, e⟩ := I
  have q : ∀ x y, InvCcr k j → ¬ InvCcr x y → up2 σ k j v x y = σ x y := by
    intro x y h1 h2
    unfold up2
    rw [if_neg]
    rintro ⟨rfl, rfl⟩
    exact h2 h1
  refine ⟨?_, ?_, ?_, ?_, fun i hi => ?_⟩
  · rw [q 0 4 h (by unfold InvCcr; omega)]; exact a
  · rw [q 0 6 h (by unfold InvCcr; omega)]; exact b
  · rw [q 5 3 h (by unfold InvCcr; omega)]; exact c
  · rw [q 5 4 h (by unfold InvCcr; omega)]; exact d
  · rw [q (9 + i) 18 h (by unfold InvCcr; omega)]; exact e i hi
theorem InvC.up4 {σ : St} {v : Int32} (h : 0 ≤ v.toInt ∧ v.toInt ≤ 12) (I : InvC σ) : InvC (up2 σ 0 4 v) := by
  obtain ⟨a, b, c, d, e⟩ := I
  refine ⟨by rw [up2_s]; exact h, by rw [up2_j (by decide)]; exact b, by rw [up2_k (by decide)]; exact c, by rw [up2_k (by decide)]; exact d, fun i hi => by rw [up2_k (by omega)]; exact e i hi⟩
theorem InvC.up6 {σ : St} {v : Int32} (h : 0 ≤ v.toInt ∧ v.toInt ≤ 12) (I : InvC σ) : InvC (up2 σ 0 6 v) := by
  obtain ⟨a, b, c, d, e⟩ := I
  refine ⟨by rw [up2_j (by decide)]; exact a, by rw [up2_s]; exact h, by rw [up2_k (by decide)]; exact c, by rw [up2_k (by decide)]; exact d, fun i hi => by rw [up2_k (by omega)]; exact e i hi⟩
theorem InvC.up53 {σ : St} {v : Int32} (h : 0 ≤ v.toInt ∧ v.toInt < 20) (I : InvC σ) : InvC (up2 σ 5 3 v) := by
  obtain ⟨a, b, c, d, e⟩ := I
  refine ⟨by rw [up2_k (by decide)]; exact a, by rw [up2_k (by decide)]; exact b, by rw [up2_s]; exact h, by rw [up2_j (by decide)]; exact d, fun i hi => by rw [up2_k (by omega)]; exact e i hi⟩
theorem InvC.up54 {σ : St} {v : Int32} (h : 0 ≤ v.toInt ∧ v.toInt ≤ 20) (I : InvC σ) : InvC (up2 σ 5 4 v) := by
  obtain ⟨a, b, c, d, e⟩ := I
  refine ⟨by rw [up2_k (by decide)]; exact a, by rw [up2_k (by decide)]; exact b, by rw [up2_j (by decide)]; exact c, by rw [up2_s]; exact h, fun i hi => by rw [up2_k (by omega)]; exact e i hi⟩
theorem InvC.up18 {σ : St} {v : Int32} {i : Nat} (h : 0 ≤ v.toInt ∧ v.toInt ≤ 2) (I : InvC σ) : InvC (up2 σ (9 + i) 18 v) := by
  obtain ⟨a, b, c, d, e⟩ := I
  refine ⟨by rw [up2_k (by omega)]; exact a, by rw [up2_k (by omega)]; exact b, by rw [up2_j (by decide)]; exact c, by rw [up2_j (by decide)]; exact d, fun k hk => ?_⟩
  by_cases hx : k = i
  · subst hx; rw [up2_s]; exact h
  · rw [up2_k (by omega)]; exact e k hk
theorem i32_le {x y : Int32} : x ≤ y ↔ x.toInt ≤ y.toInt := Int32.le_iff_toInt_le
theorem i32_lt {x y : Int32} : x < y ↔ x.toInt < y.toInt := Int32.lt_iff_toInt_lt
theorem vp_of {x : Int32} {n : Nat} (h0 : 0 ≤ x.toInt) (h : x.toInt < n) : vp_in x n := vp_in_iff.mpr ⟨h0, h⟩
theorem tnc {x : Int32} (h0 : 0 ≤ x.toInt) : (x.toNatClampNeg : Int) = x.toInt := by
  rw [Int32.toNatClampNeg]; exact Int.toNat_of_nonneg h0
/-- a counter below a bound -/
theorem kb_ge {x : Int32} {k B : Nat} (h : ¬ x ≤ nI k) (hx : x.toInt ≤ B) (hk : k ≤ B) (hB : B < 2 ^ 31) : k < B := by
  rw [i32_le, nI_toInt (by omega)] at h
  omega

