/-! the relation between a Machine of the class and the reference's row -/
def fw (w : Nat) : Nat := [0, 1, 2, 3, 4, 5, 6, 18, 0, 0, 0, 0, 0, 0, 16, 17, 8, 9, 10, 11, 12, 13, 14, 15].getD w 0
def wf (b : Nat) : Nat := [0, 1, 2, 3, 4, 5, 99, 99, 16, 17, 18, 19, 20, 21, 22, 23, 14, 15, 7].getD b 99
/-- where the class keeps what lies at j in the reference's row -/
def cv (j : Nat) : Nat × Nat :=
  if j < 93 then
    if j = 0 then (0, 0) else if j < 5 then (1, j - 1) else if j < 8 then (0, j + 2) else if j = 8 then (0, 4) else if j = 9 then (0, 6) else if j < 22 then (4, j - 10) else if j = 22 then (5, 4) else (2, j - 83)
  else if 8 ≤ (j - 93) % 24 ∧ (j - 93) % 24 < 14 then (33 + 2 * ((j - 93) / 24) + ((j - 93) % 24 - 8) / 3, ((j - 93) % 24 - 8) % 3)
  else (9 + (j - 93) / 24, fw ((j - 93) % 24))
def iv (p : Nat × Nat) : Nat :=
  if p.1 = 0 then (if p.2 = 0 then 0 else if p.2 = 4 then 8 else if p.2 = 6 then 9 else p.2 - 2) else if p.1 = 1 then 1 + p.2 else if p.1 = 2 then 83 + p.2 else if p.1 = 4 then 10 + p.2 else if p.1 = 5 then 22
  else if p.1 < 21 then 93 + 24 * (p.1 - 9) + wf p.2 else 93 + 24 * ((p.1 - 33) / 2) + 8 + 3 * ((p.1 - 33) % 2) + p.2
/-- cells of the class that a row's number stands for -/
def cin (p : Nat × Nat) : Bool :=
  decide ((p.1 = 0 ∧ (p.2 = 0 ∨ p.2 = 4 ∨ (6 ≤ p.2 ∧ p.2 < 10))) ∨ (p.1 = 1 ∧ p.2 < 4) ∨ (p.1 = 2 ∧ p.2 < 10) ∨ (p.1 = 4 ∧ p.2 < 12) ∨ (p.1 = 5 ∧ p.2 = 4) ∨ (9 ≤ p.1 ∧ p.1 < 21 ∧ p.2 < 19 ∧ p.2 ≠ 6 ∧ p.2 ≠ 7) ∨ (33 ≤ p.1 ∧ p.1 < 57 ∧ p.2 < 3))
abbrev cok (j : Nat) : Prop := j < 23 ∨ (83 ≤ j ∧ j < 93) ∨ (93 ≤ j ∧ j < 381 ∧ (j - 93) % 24 ≠ 6)
set_option maxRecDepth 100000 in
theorem cv_ok : ∀ j, j < 381 → cok j → iv (cv j) = j ∧ cin (cv j) = true := by decide +kernel
set_option maxRecDepth 100000 in
theorem cv_s : ∀ i, i < 12 → ∀ w, w < 24 → cv (93 + 24 * i + w) = if 8 ≤ w ∧ w < 14 then (33 + 2 * i + (w - 8) / 3, (w - 8) % 3) else (9 + i, fw w) := by decide +kernel
theorem cok_lt {j : Nat} (h : cok j) : j < 381 := by omega
theorem cv_inj {j j' : Nat} (h : cok j) (h' : cok j') (e : cv j = cv j') : j = j' := by
  have h1 := (cv_ok j (cok_lt h) h).1
  rw [e, (cv_ok j' (cok_lt h') h').1] at h1
  exact h1.symm
/-- of the first N sources, and of all else but the log and the times since: the same numbers -/
def RE (N : Nat) (μ : St) (ρ : Nat → Int32) : Prop := ∀ j, cok j → (93 ≤ j → j < 93 + 24 * N) → ρ j = zz (cv j).1 (cv j).2 (μ (cv j).1 (cv j).2)
theorem RE.up {N : Nat} {μ : St} {ρ : Nat → Int32} {k b j : Nat} {v v' : Int32} (h : RE N μ ρ) (hj : cok j) (hc : cv j = (k, b)) (hv : v' = zz k b v) : RE N (up2 μ k b v) (upd ρ j v') := by
  intro x hx hN
  by_cases e : x = j
  · subst e
    rw [upd_s, hc, up2_s]
    exact hv
  · rw [upd_n e, h x hx hN]
    congr 1
    refine (if_neg ?_).symm
    intro q
    exact e (cv_inj hx hj (by rw [hc]; exact Prod.ext q.1 q.2))
theorem RE.off {N : Nat} {μ : St} {ρ : Nat → Int32} {k b : Nat} {v : Int32} (h : RE N μ ρ) (hc : cin (k, b) = false) : RE N (up2 μ k b v) ρ := by
  intro x hx hN
  rw [h x hx hN]
  congr 1
  refine (if_neg ?_).symm
  intro q
  have h1 := (cv_ok x (cok_lt hx) hx).2
  rw [show cv x = (k, b) from Prod.ext q.1 q.2, hc] at h1
  cases h1
theorem RE.roff {N : Nat} {μ : St} {ρ : Nat → Int32} {j : Nat} {v : Int32} (h : RE N μ ρ) (hj : ¬ cok j) : RE N μ (upd ρ j v) := by
  intro x hx hN
  have hne : x ≠ j := fun e => hj (by rw [← e]; exact hx)
  rw [upd_n hne]
  exact h x hx hN
theorem cok_s {i w : Nat} (hi : i < 12) (hw : w < 24) (h6 : w ≠ 6) : cok (93 + 24 * i + w) := by unfold cok; omega
theorem cv_f {i w b : Nat} (hi : i < 12) (hw : w < 24 ∧ ¬ (8 ≤ w ∧ w < 14)) (hb : fw w = b) : cv (93 + 24 * i + w) = (9 + i, b) := by rw [cv_s i hi w hw.1, if_neg hw.2, hb]
theorem cv_c {i j b : Nat} (hi : i < 12) (hj : j < 2) (hb : b < 3) : cv (93 + 24 * i + (8 + 3 * j + b)) = (33 + 2 * i + j, b) := by
  rw [cv_s i hi _ (by omega), if_pos (by omega)]
  congr 1
  · omega
  · omega
/-- a source's field -/
theorem RE.us {N : Nat} {μ : St} {ρ : Nat → Int32} {i w b : Nat} {v v' : Int32} (h : RE N μ ρ) (hi : i < 12) (hw : w < 24 ∧ ¬ (8 ≤ w ∧ w < 14)) (h6 : w ≠ 6) (hb : fw w = b) (hv : v' = zz (9 + i) b v) : RE N (up2 μ (9 + i) b v) (upd ρ (93 + 24 * i + w) v') :=
  h.up (cok_s hi hw.1 h6) (cv_f hi hw hb) hv
theorem RE.uc {N : Nat} {μ : St} {ρ : Nat → Int32} {i j b : Nat} {v : Int32} (h : RE N μ ρ) (hi : i < 12) (hj : j < 2) (hb : b < 3) : RE N (up2 μ (33 + 2 * i + j) b v) (upd ρ (93 + 24 * i + (8 + 3 * j + b)) v) :=
  h.up (cok_s hi (by omega) (by omega)) (cv_c hi hj hb) (zz_n (by omega))
theorem RE.rs {N : Nat} {μ : St} {ρ : Nat → Int32} {i w b : Nat} (h : RE N μ ρ) (hN : N ≤ 12) (hi : i < N) (hw : w < 24 ∧ ¬ (8 ≤ w ∧ w < 14)) (h6 : w ≠ 6) (hb : fw w = b) : ρ (93 + 24 * i + w) = zz (9 + i) b (μ (9 + i) b) := by
  have e := h (93 + 24 * i + w) (cok_s (by omega) hw.1 h6) (fun _ => by omega)
  rw [cv_f (by omega) hw hb] at e
  exact e
theorem RE.rf {N : Nat} {μ : St} {ρ : Nat → Int32} {i w b : Nat} (h : RE N μ ρ) (hN : N ≤ 12) (hi : i < N) (hw : w < 24 ∧ ¬ (8 ≤ w ∧ w < 14)) (h6 : w ≠ 6) (hb : fw w = b) (hz : ¬ (3 ≤ b ∧ b < 6)) : ρ (93 + 24 * i + w) = μ (9 + i) b :=
  (h.rs hN hi hw h6 hb).trans (zz_n (by omega)).symm
theorem RE.rb {N : Nat} {μ : St} {ρ : Nat → Int32} {i w b : Nat} (h : RE N μ ρ) (hN : N ≤ 12) (hi : i < N) (hw : w < 24 ∧ ¬ (8 ≤ w ∧ w < 14)) (h6 : w ≠ 6) (hb : fw w = b) (hz : 3 ≤ b ∧ b < 6) : ρ (93 + 24 * i + w) = zb (μ (9 + i) b) :=
  (h.rs hN hi hw h6 hb).trans (zz_y (by omega)).symm
theorem RE.rc {N : Nat} {μ : St} {ρ : Nat → Int32} {i j b : Nat} (h : RE N μ ρ) (hN : N ≤ 12) (hi : i < N) (hj : j < 2) (hb : b < 3) : ρ (93 + 24 * i + (8 + 3 * j + b)) = μ (33 + 2 * i + j) b := by
  have e := h (93 + 24 * i + (8 + 3 * j + b)) (cok_s (by omega) (by omega) (by omega)) (fun _ => by omega)
  rw [cv_c (by omega) hj hb] at e
  exact e.trans (zz_n (by omega)).symm
theorem RE.g {N : Nat} {μ : St} {ρ : Nat → Int32} {j k b : Nat} (h : RE N μ ρ) (hj : cok j) (hj2 : j < 93) (hc : cv j = (k, b)) (hk : k < 9) : ρ j = μ k b := by
  have e := h j hj (fun q => absurd q (by omega))
  rw [hc] at e
  exact e.trans (zz_n (by omega)).symm
/-- the log: a ring against a row -/
def RG (q : Nat) (μ : St) (ρ : Nat → Int32) : Prop := (∃ e, e ≤ 20 ∧ ρ 22 = nI e) ∧ ∀ k, k < 20 → ρ (23 + 3 * k) = μ 6 ((q + 19 - k) % 20) ∧ ρ (23 + 3 * k + 1) = μ 7 ((q + 19 - k) % 20) ∧ ρ (23 + 3 * k + 2) = μ 8 ((q + 19 - k) % 20)
/-- since when: but for a line that is down -/
def RS (N : Nat) (μ : St) (ρ : Nat → Int32) : Prop := ∀ i, i < N → (ρ (93 + 24 * i + 1) = 1 ∧ ρ (93 + 24 * i + 5) = 0) ∨ ρ (93 + 24 * i + 6) = μ (9 + i) 6
/-- who stands on the stack, and where -/
def RP (N d : Nat) (μ : St) (ρ : Nat → Int32) : Prop := (∀ k, k < d → ∃ s, s < N ∧ ρ (10 + k) = nI s) ∧ (∀ j k, j < k → k < d → ρ (10 + j) ≠ ρ (10 + k)) ∧ ∀ i, i < N → (∀ k, k < d → ρ (10 + k) = nI i → μ (9 + i) 7 = nI k) ∧ ((∀ k, k < d → ρ (10 + k) ≠ nI i) → μ (9 + i) 7 = -1)
def frv (b : Nat) : Int32 := if b = 3 then 1 else if b = 7 ∨ b = 12 ∨ b = 13 then -1 else 0
/-- the class's rows of sources that aren't there yet -/
def RF (N : Nat) (μ : St) : Prop := ∀ i, N ≤ i → i < 12 → (∀ b, b < 19 → μ (9 + i) b = frv b) ∧ ∀ j b, j < 2 → b < 3 → μ (33 + 2 * i + j) b = 0
/-- ranges of a source's numbers -/
def RV1 (τ : Int) (i : Nat) (ρ : Nat → Int32) : Prop := (ρ (93 + 24 * i + 1) = 0 ∨ ρ (93 + 24 * i + 1) = 1) ∧ (∃ c, c ≤ 2 ∧ ρ (93 + 24 * i + 7) = nI c) ∧ (∀ j, j < 2 → (0 ≤ (ρ (93 + 24 * i + (8 + 3 * j + 0))).toInt ∧ (ρ (93 + 24 * i + (8 + 3 * j + 0))).toInt ≤ 499) ∧ 0 ≤ (ρ (93 + 24 * i + (8 + 3 * j + 1))).toInt ∧ (ρ (93 + 24 * i + (8 + 3 * j + 1))).toInt ≤ 500) ∧ 0 ≤ (ρ (93 + 24 * i + 15)).toInt ∧ 0 ≤ (ρ (93 + 24 * i + 17)).toInt ∧ (ρ (93 + 24 * i + 17)).toInt ≤ τ ∧ 0 ≤ (ρ (93 + 24 * i + 0)).toInt ∧ 0 ≤ (ρ (93 + 24 * i + 2)).toInt
def RV (τ : Int) (N : Nat) (ρ : Nat → Int32) : Prop := (∀ k, k < 4 → 0 ≤ (ρ (1 + k)).toInt) ∧ ∀ i, i < N → RV1 τ i ρ
/-- the change that goes on -/
def RQ (N d : Nat) (ρ : Nat → Int32) : Prop := (ρ 5 = 0 ∨ ρ 5 = 1 ∨ ρ 5 = 2 ∨ ρ 5 = 3) ∧ ((ρ 5 = 1 ∨ ρ 5 = 3) → ∃ s, s < N ∧ ρ 6 = nI s ∧ ∀ k, k < d → ρ (10 + k) ≠ nI s)
def RT (ρ : Nat → Int32) : Prop := ρ 5 ≠ 0 → 1 ≤ (ρ 7).toInt
def RM (τ : Int) (N d q : Nat) (μ : St) (ρ : Nat → Int32) : Prop := (N ≤ 12 ∧ d ≤ 12 ∧ q < 20) ∧ (ρ 8 = nI N ∧ ρ 9 = nI d ∧ μ 5 3 = nI q) ∧ RE N μ ρ ∧ RG q μ ρ ∧ RS N μ ρ ∧ RP N d μ ρ ∧ RF N μ ∧ RV τ N ρ ∧ RQ N d ρ
section Rd
variable {τ : Int} {N d q : Nat} {μ : St} {ρ : Nat → Int32}
theorem RM.N12 (h : RM τ N d q μ ρ) : N ≤ 12 := h.1.1
theorem RM.d12 (h : RM τ N d q μ ρ) : d ≤ 12 := h.1.2.1
theorem RM.re (h : RM τ N d q μ ρ) : RE N μ ρ := h.2.2.1
theorem RM.t (h : RM τ N d q μ ρ) : ρ 0 = μ 0 0 := h.re.g (by decide) (by decide) rfl (by decide)
theorem RM.c5 (h : RM τ N d q μ ρ) : ρ 5 = μ 0 7 := h.re.g (by decide) (by decide) rfl (by decide)
theorem RM.c6 (h : RM τ N d q μ ρ) : ρ 6 = μ 0 8 := h.re.g (by decide) (by decide) rfl (by decide)
theorem RM.c7 (h : RM τ N d q μ ρ) : ρ 7 = μ 0 9 := h.re.g (by decide) (by decide) rfl (by decide)
theorem RM.mN (h : RM τ N d q μ ρ) : μ 0 4 = nI N := (h.re.g (j := 8) (by decide) (by decide) rfl (by decide)).symm.trans h.2.1.1
theorem RM.md (h : RM τ N d q μ ρ) : μ 0 6 = nI d := (h.re.g (j := 9) (by decide) (by decide) rfl (by decide)).symm.trans h.2.1.2.1
theorem RM.set (h : RM τ N d q μ ρ) {k : Nat} (hk : k < 4) : ρ (1 + k) = μ 1 k := by
  have h4 : k = 0 ∨ k = 1 ∨ k = 2 ∨ k = 3 := by omega
  rcases h4 with rfl | rfl | rfl | rfl <;> exact h.re.g (by decide) (by decide) rfl (by decide)
theorem RM.stk (h : RM τ N d q μ ρ) {k : Nat} (hk : k < 12) : ρ (10 + k) = μ 4 k := by
  refine h.re.g (by unfold cok; omega) (by omega) ?_ (by decide)
  unfold cv
  rw [if_pos (by omega), if_neg (by omega), if_neg (by omega), if_neg (by omega), if_neg (by omega), if_neg (by omega), if_pos (by omega), show 10 + k - 10 = k by omega]
theorem RM.acc (h : RM τ N d q μ ρ) {k : Nat} (hk : k < 10) : ρ (83 + k) = μ 2 k := by
  refine h.re.g (by unfold cok; omega) (by omega) ?_ (by decide)
  unfold cv
  rw [if_pos (by omega), if_neg (by omega), if_neg (by omega), if_neg (by omega), if_neg (by omega), if_neg (by omega), if_neg (by omega), if_neg (by omega), show 83 + k - 83 = k by omega]
theorem RM.cnt (h : RM τ N d q μ ρ) : ρ 22 = μ 5 4 := h.re.g (by decide) (by decide) rfl (by decide)
theorem RM.f (h : RM τ N d q μ ρ) {i w b : Nat} (hi : i < N) (hw : w < 24 ∧ ¬ (8 ≤ w ∧ w < 14)) (h6 : w ≠ 6) (hb : fw w = b) (hz : ¬ (3 ≤ b ∧ b < 6)) : ρ (93 + 24 * i + w) = μ (9 + i) b := h.re.rf h.N12 hi hw h6 hb hz
theorem RM.b (h : RM τ N d q μ ρ) {i w b : Nat} (hi : i < N) (hw : w < 24 ∧ ¬ (8 ≤ w ∧ w < 14)) (h6 : w ≠ 6) (hb : fw w = b) (hz : 3 ≤ b ∧ b < 6) : ρ (93 + 24 * i + w) = zb (μ (9 + i) b) := h.re.rb h.N12 hi hw h6 hb hz
theorem RM.c (h : RM τ N d q μ ρ) {i j b : Nat} (hi : i < N) (hj : j < 2) (hb : b < 3) : ρ (93 + 24 * i + (8 + 3 * j + b)) = μ (33 + 2 * i + j) b := h.re.rc h.N12 hi hj hb
theorem RM.rl (h : RM τ N d q μ ρ) : RG q μ ρ := h.2.2.2.1
theorem RM.rs (h : RM τ N d q μ ρ) : RS N μ ρ := h.2.2.2.2.1
theorem RM.rp (h : RM τ N d q μ ρ) : RP N d μ ρ := h.2.2.2.2.2.1
theorem RM.rfr (h : RM τ N d q μ ρ) : RF N μ := h.2.2.2.2.2.2.1
theorem RM.rv (h : RM τ N d q μ ρ) : RV τ N ρ := h.2.2.2.2.2.2.2.1
theorem RM.rq (h : RM τ N d q μ ρ) : RQ N d ρ := h.2.2.2.2.2.2.2.2
end Rd
theorem ix_nI {s : Nat} (h : s < 12) : ix (nI s) = 93 + 24 * s := by unfold ix; rw [nI_clamp (by omega)]
theorem of_nIs {σ : St} {s w : Nat} (hs : s < 12) (hw : w < 24) : f_X9_of σ (nI s) (nI w) = σ 1 (93 + 24 * s + w) := by
  show σ 1 (ix (nI s) + (nI w).toNatClampNeg) = _
  rw [ix_nI hs, nI_clamp (by omega)]
