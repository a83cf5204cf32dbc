theorem zb_two (x : Int32) : zb x = 0 ∨ zb x = 1 := by
  unfold zb
  have h := Nat.and_one_is_mod x.toBitVec.toNat
  have h2 : (x &&& 1).toBitVec.toNat = x.toBitVec.toNat % 2 := by rw [← h]; rfl
  rcases Nat.mod_two_eq_zero_or_one x.toBitVec.toNat with q | q
  · left; apply Int32.toBitVec_inj.mp; apply BitVec.eq_of_toNat_eq; rw [h2, q]; rfl
  · right; apply Int32.toBitVec_inj.mp; apply BitVec.eq_of_toNat_eq; rw [h2, q]; rfl
/-! what keeps the parts of the relation -/
theorem RE.congr {N : Nat} {μ : St} {ρ ρ' : Nat → Int32} (h : RE N μ ρ) (e : ∀ j, cok j → ρ' j = ρ j) : RE N μ ρ' := fun j hj hN => (e j hj).trans (h j hj hN)
theorem RG.congr {q : Nat} {μ μ' : St} {ρ ρ' : Nat → Int32} (h : RG q μ ρ) (e : ∀ j, 22 ≤ j → j < 83 → ρ' j = ρ j) (m : ∀ k b, 6 ≤ k → k < 9 → μ' k b = μ k b) : RG q μ' ρ' := by
  obtain ⟨h1, h2⟩ := h
  refine ⟨by rw [e 22 (by decide) (by decide)]; exact h1, fun k hk => ?_⟩
  rw [e _ (by omega) (by omega), e _ (by omega) (by omega), e _ (by omega) (by omega), m 6 _ (by decide) (by decide), m 7 _ (by decide) (by decide), m 8 _ (by decide) (by decide)]
  exact h2 k hk
theorem RS.congr {N : Nat} {μ μ' : St} {ρ ρ' : Nat → Int32} (h : RS N μ ρ) (e : ∀ i, i < N → ρ' (93 + 24 * i + 1) = ρ (93 + 24 * i + 1) ∧ ρ' (93 + 24 * i + 5) = ρ (93 + 24 * i + 5) ∧ ρ' (93 + 24 * i + 6) = ρ (93 + 24 * i + 6)) (m : ∀ i, i < N → μ' (9 + i) 6 = μ (9 + i) 6) : RS N μ' ρ' := fun i hi => by
  obtain ⟨e1, e2, e3⟩ := e i hi
  rw [e1, e2, e3, m i hi]
  exact h i hi
theorem RP.congr {N d : Nat} {μ μ' : St} {ρ ρ' : Nat → Int32} (h : RP N d μ ρ) (e : ∀ k, k < d → ρ' (10 + k) = ρ (10 + k)) (m : ∀ i, i < N → μ' (9 + i) 7 = μ (9 + i) 7) : RP N d μ' ρ' := by
  obtain ⟨h1, h2, h3⟩ := h
  refine ⟨fun k hk => by rw [e k hk]; exact h1 k hk, fun j k hj hk => by rw [e j (by omega), e k hk]; exact h2 j k hj hk, fun i hi => ⟨fun k hk hq => ?_, fun hq => ?_⟩⟩
  · rw [m i hi]; rw [e k hk] at hq; exact (h3 i hi).1 k hk hq
  · rw [m i hi]; exact (h3 i hi).2 (fun k hk => by rw [← e k hk]; exact hq k hk)
theorem RF.congr {N : Nat} {μ μ' : St} (h : RF N μ) (m : ∀ i, N ≤ i → i < 12 → (∀ b, b < 19 → μ' (9 + i) b = μ (9 + i) b) ∧ ∀ j b, j < 2 → b < 3 → μ' (33 + 2 * i + j) b = μ (33 + 2 * i + j) b) : RF N μ' := fun i hi h12 => ⟨fun b hb => ((m i hi h12).1 b hb).trans ((h i hi h12).1 b hb), fun j b hj hb => ((m i hi h12).2 j b hj hb).trans ((h i hi h12).2 j b hj hb)⟩
theorem RV1.congr {t : Int} {i : Nat} {ρ ρ' : Nat → Int32} (h : RV1 t i ρ) (e : ∀ w, (w = 0 ∨ w = 1 ∨ w = 2 ∨ w = 7 ∨ w = 8 ∨ w = 9 ∨ w = 11 ∨ w = 12 ∨ w = 15 ∨ w = 17) → ρ' (93 + 24 * i + w) = ρ (93 + 24 * i + w)) : RV1 t i ρ' := by
  obtain ⟨h1, h2, h3, h4, h5, h6, h7, h8⟩ := h
  refine ⟨by rw [e 1 (by decide)]; exact h1, by rw [e 7 (by decide)]; exact h2, fun j hj => ?_, by rw [e 15 (by decide)]; exact h4, by rw [e 17 (by decide)]; exact h5, by rw [e 17 (by decide)]; exact h6, by rw [e 0 (by decide)]; exact h7, by rw [e 2 (by decide)]; exact h8⟩
  rw [e (8 + 3 * j + 0) (by omega), e (8 + 3 * j + 1) (by omega)]
  exact h3 j hj
theorem RV.congr {τ : Int} {N : Nat} {ρ ρ' : Nat → Int32} (h : RV τ N ρ) (e : ∀ k, k < 4 → ρ' (1 + k) = ρ (1 + k)) (es : ∀ i, i < N → ∀ w, (w = 0 ∨ w = 1 ∨ w = 2 ∨ w = 7 ∨ w = 8 ∨ w = 9 ∨ w = 11 ∨ w = 12 ∨ w = 15 ∨ w = 17) → ρ' (93 + 24 * i + w) = ρ (93 + 24 * i + w)) : RV τ N ρ' := by
  obtain ⟨h1, h3⟩ := h
  exact ⟨fun k hk => by rw [e k hk]; exact h1 k hk, fun i hi => (h3 i hi).congr (es i hi)⟩
theorem RQ.congr {N d : Nat} {ρ ρ' : Nat → Int32} (h : RQ N d ρ) (e5 : ρ' 5 = ρ 5) (e6 : ρ' 6 = ρ 6) (e : ∀ k, k < d → ρ' (10 + k) = ρ (10 + k)) : RQ N d ρ' := by
  obtain ⟨h1, h2⟩ := h
  refine ⟨by rw [e5]; exact h1, fun h => ?_⟩
  rw [e5] at h
  obtain ⟨s, hs, h6, hk⟩ := h2 h
  exact ⟨s, hs, by rw [e6]; exact h6, fun k h9 => by rw [e k h9]; exact hk k h9⟩
/-- an account -/
theorem RM.uacc {τ : Int} {N d q k : Nat} {μ : St} {ρ : Nat → Int32} {v : Int32} (h : RM τ N d q μ ρ) (hk : k < 10) : RM τ N d q (up2 μ 2 k v) (upd ρ (83 + k) v) := by
  have u : ∀ j, j < 83 ∨ 93 ≤ j → upd ρ (83 + k) v j = ρ j := fun j hj => upd_n (by omega)
  have m : ∀ a b, a ≠ 2 → up2 μ 2 k v a b = μ a b := fun a b hab => up2_k hab
  obtain ⟨h1, ⟨a8, a9, a53⟩, hE, hG, hS, hP, hF, hV, hQ⟩ := h
  have hd := h1.2.1
  refine ⟨h1, ⟨by rw [u 8 (by decide)]; exact a8, by rw [u 9 (by decide)]; exact a9, by rw [m 5 3 (by decide)]; exact a53⟩, ?_, hG.congr (fun j _ hj => u j (by omega)) (fun a b ha _ => m a b (by omega)), hS.congr (fun i hi => ⟨u _ (by omega), u _ (by omega), u _ (by omega)⟩) (fun i hi => m _ _ (by omega)), hP.congr (fun k hk => u _ (by omega)) (fun i hi => m _ _ (by omega)), hF.congr (fun i _ _ => ⟨fun b _ => m _ _ (by omega), fun j b _ _ => m _ _ (by omega)⟩), hV.congr (fun k hk => u _ (by omega)) (fun i hi w hw => u _ (by omega)), hQ.congr (u 5 (by decide)) (u 6 (by decide)) (fun k hk => u _ (by omega))⟩
  refine hE.up (by unfold cok; omega) ?_ (zz_n (by omega))
  unfold cv
  rw [if_pos (by omega), if_neg (by omega), if_neg (by omega), if_neg (by omega), if_neg (by omega), if_neg (by omega), if_neg (by omega), if_neg (by omega), show 83 + k - 83 = k by omega]
theorem fw_ne : ∀ w, w < 24 → w ≠ 6 → fw w ≠ 6 ∧ fw w ≠ 7 := by decide
/-- a field of a source that no other part speaks of -/
theorem RM.usrc {τ : Int} {N d q i w b : Nat} {μ : St} {ρ : Nat → Int32} {v v' : Int32} (h : RM τ N d q μ ρ) (hi : i < N) (hw : w < 24 ∧ ¬ (8 ≤ w ∧ w < 14)) (hf : w ≠ 1 ∧ w ≠ 5 ∧ w ≠ 6 ∧ w ≠ 7 ∧ w ≠ 15 ∧ w ≠ 17 ∧ w ≠ 0 ∧ w ≠ 2) (hb : fw w = b) (hv : v' = zz (9 + i) b v) : RM τ N d q (up2 μ (9 + i) b v) (upd ρ (93 + 24 * i + w) v') := by
  have hN := h.N12
  have hd := h.d12
  have u : ∀ j, j < 93 → upd ρ (93 + 24 * i + w) v' j = ρ j := fun j hj => upd_n (by omega)
  have us : ∀ i' w', w' < 24 → w' ≠ w → upd ρ (93 + 24 * i + w) v' (93 + 24 * i' + w') = ρ (93 + 24 * i' + w') := fun i' w' h1 h2 => upd_n (by omega)
  have m : ∀ x y, x ≠ 9 + i → up2 μ (9 + i) b v x y = μ x y := fun x y hx => up2_k hx
  have hbn := fw_ne w hw.1 hf.2.2.1
  rw [hb] at hbn
  have m6 : ∀ x, up2 μ (9 + i) b v x 6 = μ x 6 := fun x => up2_j (by omega)
  have m7 : ∀ x, up2 μ (9 + i) b v x 7 = μ x 7 := fun x => up2_j (by omega)
  obtain ⟨h1, ⟨a8, a9, a53⟩, hE, hG, hS, hP, hF, hV, hQ⟩ := h
  exact ⟨h1, ⟨by rw [u 8 (by decide)]; exact a8, by rw [u 9 (by decide)]; exact a9, by rw [m 5 3 (by omega)]; exact a53⟩, hE.us (by omega) hw hf.2.2.1 hb hv, hG.congr (fun j _ hj => u j (by omega)) (fun a b ha _ => m a b (by omega)), hS.congr (fun i hi => ⟨us _ _ (by decide) (by omega), us _ _ (by decide) (by omega), us _ _ (by decide) (by omega)⟩) (fun i hi => m6 _), hP.congr (fun k hk => u _ (by omega)) (fun i hi => m7 _), hF.congr (fun i _ _ => ⟨fun b _ => m _ _ (by omega), fun j b _ _ => m _ _ (by omega)⟩), hV.congr (fun k hk => u _ (by omega)) (fun i hi w hw => us _ _ (by omega) (by omega)), hQ.congr (u 5 (by decide)) (u 6 (by decide)) (fun k hk => u _ (by omega))⟩
/-! the log -/
def lgr (ρ : Nat → Int32) (a b c : Int32) : Nat → Int32 := fun j => if j = 22 then ρ 22 + (if 20 ≤ ρ 22 then 0 else 1) else if j = 25 then c else if j = 24 then b else if j = 23 then a else if 26 ≤ j ∧ j < 83 then ρ (j - 3) else ρ j
theorem logs_l : ∀ n k (t : St), 2 ≤ k → k ≤ 59 → k ≤ n + 1 → ∀ j, (f_X9_logs_l4 n k t) 1 j = if 26 ≤ j ∧ j ≤ 23 + k then t 1 (j - 3) else t 1 j
  | 0, k, t, h2, hk, hn, j => absurd hn (by omega)
  | n + 1, k, t, h2, hk, hn, j => by
    by_cases c : nI k ≤ 2
    · have e : f_X9_logs_l4 (n + 1) k t = t := if_pos c
      rw [show (2 : Int32) = nI 2 from rfl, nI_leI (by omega) (by decide)] at c
      rw [e, if_neg (by omega)]
    · have e : f_X9_logs_l4 (n + 1) k t = _ := if_neg c
      rw [show (2 : Int32) = nI 2 from rfl, nI_leI (by omega) (by decide)] at c
      rw [e, logs_l n (k - 1) _ (by omega) (by omega) (by omega)]
      by_cases c1 : 26 ≤ j ∧ j ≤ 23 + (k - 1)
      · rw [if_pos c1, if_pos (by omega), up2_j (by omega)]
      · rw [if_neg c1]
        by_cases c2 : j = 23 + k
        · subst c2
          rw [up2_s, if_pos (by omega), show 23 + k - 3 = 20 + k by omega]
        · rw [up2_j c2, if_neg (by omega)]
theorem logs_row (σ : St) (a b c : Int32) : (f_X9_logs σ a b c) 1 = lgr (σ 1) a b c := by
  funext j
  have h := logs_l fu61 59 σ (by decide) (by decide) (by unfold fu61; decide)
  have h22 := h 22
  rw [if_neg (by decide)] at h22
  show up2 (up2 (up2 (up2 (f_X9_logs_l4 fu61 59 σ) 1 23 a) 1 24 b) 1 25 c) 1 22 (f_X9_logs_l4 fu61 59 σ 1 22 + (if 20 ≤ f_X9_logs_l4 fu61 59 σ 1 22 then 0 else 1)) 1 j = _
  rw [h22]
  unfold lgr
  by_cases c1 : j = 22
  · subst c1; rw [up2_s, if_pos rfl]
  · rw [up2_j c1, if_neg c1]
    by_cases c2 : j = 25
    · subst c2; rw [up2_s, if_pos rfl]
    · rw [up2_j c2, if_neg c2]
      by_cases c3 : j = 24
      · subst c3; rw [up2_s, if_pos rfl]
      · rw [up2_j c3, if_neg c3]
        by_cases c4 : j = 23
        · subst c4; rw [up2_s, if_pos rfl]
        · rw [up2_j c4, if_neg c4, h j]
          by_cases c5 : 26 ≤ j ∧ j < 83
          · rw [if_pos (by omega), if_pos c5]
          · rw [if_neg (by omega), if_neg c5]
theorem lgr_o {ρ : Nat → Int32} {a b c : Int32} {j : Nat} (h : j < 22 ∨ 83 ≤ j) : lgr ρ a b c j = ρ j := by
  unfold lgr
  rw [if_neg (by omega), if_neg (by omega), if_neg (by omega), if_neg (by omega), if_neg (by omega)]
section Add
variable {μ : St} {q : Nat} {a b c : Int32}
theorem add_o {x y : Nat} (h : x ≠ 5 ∧ ¬ (6 ≤ x ∧ x < 9)) : f_X3_add μ a b c x y = μ x y := by
  unfold f_X3_add
  split
  · rw [up2_k (by omega), up2_k (by omega), up2_k (by omega), up2_k (by omega)]
  · rw [up2_k (by omega), up2_k (by omega), up2_k (by omega), up2_k (by omega), up2_k (by omega)]
theorem add_54 : f_X3_add μ a b c 5 4 = μ 5 4 + (if 20 ≤ μ 5 4 then 0 else 1) := by
  unfold f_X3_add
  by_cases h : 20 ≤ μ 5 4
  · rw [if_pos h, if_pos h, up2_j (by decide), up2_k (by decide), up2_k (by decide), up2_k (by decide), Int32.add_zero]
  · rw [if_neg h, if_neg h, up2_s]
theorem add_53 (hq : μ 5 3 = nI q) (h : q < 20) : f_X3_add μ a b c 5 3 = nI ((q + 1) % 20) := by
  have e : (μ 5 3 + 1) - (μ 5 3 + 1) / 20 * 20 = nI ((q + 1) % 20) := by
    rw [hq, nI_1, show (20 : Int32) = nI 20 from rfl, pk_rem (by omega) (by decide) (by decide)]
  unfold f_X3_add
  split
  · rw [up2_s, e]
  · rw [up2_j (by decide), up2_s, e]
theorem add_6 (hq : μ 5 3 = nI q) (h : q < 20) {x : Nat} : f_X3_add μ a b c 6 x = if x = q then a else μ 6 x := by
  have e : (μ 5 3).toNatClampNeg = q := by rw [hq, nI_clamp (by omega)]
  unfold f_X3_add
  rw [e]
  by_cases hx : x = q
  · subst hx
    rw [if_pos rfl]
    split
    · rw [up2_k (by decide), up2_k (by decide), up2_k (by decide), up2_s]
    · rw [up2_k (by decide), up2_k (by decide), up2_k (by decide), up2_k (by decide), up2_s]
  · rw [if_neg hx]
    split
    · rw [up2_k (by decide), up2_k (by decide), up2_k (by decide), up2_j hx]
    · rw [up2_k (by decide), up2_k (by decide), up2_k (by decide), up2_k (by decide), up2_j hx]
theorem add_7 (hq : μ 5 3 = nI q) (h : q < 20) {x : Nat} : f_X3_add μ a b c 7 x = if x = q then b else μ 7 x := by
  have e : (μ 5 3).toNatClampNeg = q := by rw [hq, nI_clamp (by omega)]
  unfold f_X3_add
  rw [e]
  by_cases hx : x = q
  · subst hx
    rw [if_pos rfl]
    split
    · rw [up2_k (by decide), up2_k (by decide), up2_s]
    · rw [up2_k (by decide), up2_k (by decide), up2_k (by decide), up2_s]
  · rw [if_neg hx]
    split
    · rw [up2_k (by decide), up2_k (by decide), up2_j hx, up2_k (by decide)]
    · rw [up2_k (by decide), up2_k (by decide), up2_k (by decide), up2_j hx, up2_k (by decide)]
theorem add_8 (hq : μ 5 3 = nI q) (h : q < 20) {x : Nat} : f_X3_add μ a b c 8 x = if x = q then c else μ 8 x := by
  have e : (μ 5 3).toNatClampNeg = q := by rw [hq, nI_clamp (by omega)]
  unfold f_X3_add
  rw [e]
  by_cases hx : x = q
  · subst hx
    rw [if_pos rfl]
    split
    · rw [up2_k (by decide), up2_s]
    · rw [up2_k (by decide), up2_k (by decide), up2_s]
  · rw [if_neg hx]
    split
    · rw [up2_k (by decide), up2_j hx, up2_k (by decide), up2_k (by decide)]
    · rw [up2_k (by decide), up2_k (by decide), up2_j hx, up2_k (by decide), up2_k (by decide)]
end Add
theorem cv_lt {j : Nat} (h : cok j) : j = 22 ∨ ((cv j).1 ≠ 5 ∧ ¬ (6 ≤ (cv j).1 ∧ (cv j).1 < 9)) := by
  have key : ∀ j, j < 381 → cok j → j = 22 ∨ ((cv j).1 ≠ 5 ∧ ¬ (6 ≤ (cv j).1 ∧ (cv j).1 < 9)) := by decide +kernel
  exact key j (cok_lt h) h
theorem RM.log {τ : Int} {N d q : Nat} {μ : St} {ρ : Nat → Int32} (h : RM τ N d q μ ρ) (a b c : Int32) : RM τ N d ((q + 1) % 20) (f_X3_add μ a b c) (lgr ρ a b c) := by
  have hcnt := h.cnt
  obtain ⟨h1, ⟨a8, a9, a53⟩, hE, ⟨⟨e, he, h22⟩, hG⟩, hS, hP, hF, hV, hQ⟩ := h
  have hd := h1.2.1
  have m : ∀ x y, x ≠ 5 ∧ ¬ (6 ≤ x ∧ x < 9) → f_X3_add μ a b c x y = μ x y := fun x y hx => add_o hx
  have l22 : lgr ρ a b c 22 = ρ 22 + (if 20 ≤ ρ 22 then 0 else 1) := if_pos rfl
  refine ⟨⟨h1.1, hd, Nat.mod_lt _ (by decide)⟩, ⟨by rw [lgr_o (by decide)]; exact a8, by rw [lgr_o (by decide)]; exact a9, add_53 a53 h1.2.2⟩, ?_, ⟨?_, fun k hk => ?_⟩, hS.congr (fun i hi => ⟨lgr_o (by omega), lgr_o (by omega), lgr_o (by omega)⟩) (fun i hi => m _ _ (by omega)), hP.congr (fun k hk => lgr_o (by omega)) (fun i hi => m _ _ (by omega)), hF.congr (fun i _ _ => ⟨fun b _ => m _ _ (by omega), fun j b _ _ => m _ _ (by omega)⟩), hV.congr (fun k hk => lgr_o (by omega)) (fun i hi w hw => lgr_o (by omega)), hQ.congr (lgr_o (by decide)) (lgr_o (by decide)) (fun k hk => lgr_o (by omega))⟩
  · intro x hx hN
    rcases cv_lt hx with rfl | hc
    · rw [l22]
      show _ = zz 5 4 (f_X3_add μ a b c 5 4)
      rw [add_54, hcnt]
      exact zz_n (by omega)
    · have hx22 : x ≠ 22 := fun q9 => hc.1 (by rw [q9]; rfl)
      rw [lgr_o (by omega), m _ _ hc]
      exact hE x hx hN
  · rw [l22, h22]
    by_cases c20 : 20 ≤ nI e
    · rw [if_pos c20, Int32.add_zero]; exact ⟨e, he, rfl⟩
    · rw [if_neg c20, nI_1]
      rw [show (20 : Int32) = nI 20 from rfl, nI_leI (by decide) (by omega)] at c20
      exact ⟨e + 1, by omega, rfl⟩
  · rw [add_6 a53 h1.2.2, add_7 a53 h1.2.2, add_8 a53 h1.2.2]
    have hq := h1.2.2
    by_cases c0 : k = 0
    · subst c0
      have hx : ((q + 1) % 20 + 19 - 0) % 20 = q := by omega
      rw [hx, if_pos rfl, if_pos rfl, if_pos rfl]
      exact ⟨rfl, rfl, rfl⟩
    · have hx : ((q + 1) % 20 + 19 - k) % 20 = (q + 19 - (k - 1)) % 20 := by omega
      have hne : (q + 19 - (k - 1)) % 20 ≠ q := by omega
      obtain ⟨g1, g2, g3⟩ := hG (k - 1) (by omega)
      rw [hx, if_neg hne, if_neg hne, if_neg hne, ← g1, ← g2, ← g3]
      unfold lgr
      refine ⟨?_, ?_, ?_⟩
      · rw [if_neg (by omega), if_neg (by omega), if_neg (by omega), if_neg (by omega), if_pos (by omega)]; congr 1; omega
      · rw [if_neg (by omega), if_neg (by omega), if_neg (by omega), if_neg (by omega), if_pos (by omega)]; congr 1; omega
      · rw [if_neg (by omega), if_neg (by omega), if_neg (by omega), if_neg (by omega), if_pos (by omega)]; congr 1; omega
