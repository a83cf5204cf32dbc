/-! words of both -/
def bN (B : Nat → Int32) (S j : Nat) : Nat := (B (S + j)).toInt.toNat
section Wd
variable {L P S : Nat} {v u : St} {B : Nat → Int32}
theorem in_az (x : Int32) : (f_X9_in x 97 122 = 0 ↔ (x < 97 ∨ 122 < x)) := by
  unfold f_X9_in
  by_cases c1 : x < 97
  · rw [if_pos c1]; exact ⟨fun _ => Or.inl c1, fun _ => rfl⟩
  · rw [if_neg c1]
    by_cases c2 : 122 < x
    · rw [if_pos c2]; exact ⟨fun _ => Or.inr c2, fun _ => rfl⟩
    · rw [if_neg c2]
      exact ⟨fun q => absurd q (by decide), fun q => absurd q (by rintro (q | q); exact c1 q; exact c2 q)⟩
theorem word_sim : ∀ n P k a v u, L < P + n → P = S + k → TX L P v u → u 4 = B → (k ≤ 7 → a = Int64.ofNat (pkN k (bN B S))) → (∀ j, j < k → 97 ≤ bN B S j ∧ bN B S j < 128) → ∃ K, k ≤ K ∧ S + K ≤ L ∧ TX L (S + K) (f_X2_readWord_l5 n v) (f_X9_readsWord_l4 n k a u).2.2 ∧ (f_X9_readsWord_l4 n k a u).1 = K ∧ (K ≤ 7 → (f_X9_readsWord_l4 n k a u).2.1 = Int64.ofNat (pkN K (bN B S))) ∧ (∀ j, j < K → 97 ≤ bN B S j ∧ bN B S j < 128) ∧ fv v (f_X2_readWord_l5 n v) ∧ fq u (f_X9_readsWord_l4 n k a u).2.2
  | 0, P, k, a, v, u, hn, hP, h, hB, ha, hl => absurd hn (by have := h.2.1; omega)
  | n + 1, P, k, a, v, u, hn, hP, h, hB, ha, hl => by
    have hL := h.1.1
    by_cases c : P < L
    · by_cases c2 : f_X9_in (v 1 P) 97 122 = 0
      · have hi : f_X9_isAt u 97 122 = 0 := by rw [isAt_eq h, if_pos c]; exact c2
        have e1 : f_X2_readWord_l5 (n + 1) v = v := by
          have e := show f_X2_readWord_l5 (n + 1) v = _ from if_neg (by rw [end_eq h]; omega)
          rw [e, at_P h]
          rcases (in_az _).mp c2 with c3 | c3
          · rw [if_pos c3]
          · by_cases c4 : v 1 P < 97
            · rw [if_pos c4]
            · rw [if_neg c4, if_pos c3]
        have e2 : f_X9_readsWord_l4 (n + 1) k a u = (k, a, u) := if_pos hi
        rw [e1, e2]
        subst hP
        exact ⟨k, Nat.le_refl _, h.2.1, h, rfl, ha, hl, fv.refl, fq.refl⟩
      · have hi : ¬ f_X9_isAt u 97 122 = 0 := by rw [isAt_eq h, if_pos c]; exact c2
        have c3 : ¬ v 1 P < 97 := fun q => c2 ((in_az _).mpr (Or.inl q))
        have c4 : ¬ 122 < v 1 P := fun q => c2 ((in_az _).mpr (Or.inr q))
        have e1 : f_X2_readWord_l5 (n + 1) v = f_X2_readWord_l5 n (up2 v 0 2 (v 0 2 + 1)) := by
          have e := show f_X2_readWord_l5 (n + 1) v = _ from if_neg (by rw [end_eq h]; omega)
          rw [e, at_P h, if_neg c3, if_neg c4]
        have e2 : f_X9_readsWord_l4 (n + 1) k a u = _ := if_neg hi
        have e8 : (u 0 8).toNatClampNeg = P := by rw [h.2.2.2, nI_clamp (by omega)]
        rw [e1, e2, e8]
        have hb := h.1.2.2.2.1 P (by omega)
        have hbk : bN B S k = (u 4 P).toInt.toNat := by unfold bN; rw [← hP, hB]
        have hl' : ∀ j, j < k + 1 → 97 ≤ bN B S j ∧ bN B S j < 128 := fun j hj => by
          by_cases cj : j = k
          · subst cj
            rw [hbk]
            rw [hb.1, i32_lt] at c3
            have h97 : (97 : Int32).toInt = 97 := rfl
            omega
          · exact hl j (by omega)
        have hpk : k + 1 ≤ 7 → (if 8 ≤ nI k then (0 : Int64) else (a <<< ((8 : Int32).toInt64 &&& 63)) ||| ((u 4 P).toInt64)) = Int64.ofNat (pkN (k + 1) (bN B S)) := fun hk => by
          rw [if_neg (by rw [show (8 : Int32) = nI 8 from rfl, nI_leI (by decide) (by omega)]; omega), ha (by omega)]
          have hpb : (u 4 P).toInt64 = Int64.ofNat (bN B S k) := by
            rw [hbk]
            obtain ⟨b, hb1, hb2⟩ := of_nI (n := 128) (x := u 4 P) ⟨hb.2.1, by omega⟩ (by decide)
            rw [hb2, nI_toInt (by omega)]
            exact b_64 b hb1
          have hlt : pkN k (bN B S) < 2 ^ 54 := by
            have h1 := pkN_lt2 (b := bN B S) k (fun j hj => by have := hl j hj; omega)
            have h2 : 256 ^ k ≤ 256 ^ 6 := Nat.pow_le_pow_right (by decide) (by omega)
            have h3 : (256 : Nat) ^ 6 < 2 ^ 54 := by decide
            omega
          rw [hpb, L64_pack hlt (by have := hl' k (by omega); omega)]
          rfl
        obtain ⟨K, g1, g2, g3, g4, g5, g6, g7, g8⟩ := word_sim n (P + 1) (k + 1) (if 8 ≤ nI k then 0 else (a <<< ((8 : Int32).toInt64 &&& 63)) ||| ((u 4 P).toInt64)) (up2 v 0 2 (v 0 2 + 1)) (up2 u 0 8 (u 0 8 + 1)) (by omega) (by omega) (h.step c) ((up2_rowk (by decide)).trans hB) hpk hl'
        exact ⟨K, by omega, g2, g3, g4, g5, g6, fv.o2.trans g7, fq.o8.trans g8⟩
    · have hi : f_X9_isAt u 97 122 = 0 := by rw [isAt_eq h, if_neg c]
      have e1 : f_X2_readWord_l5 (n + 1) v = v := if_pos (by rw [end_eq h]; exact c)
      have e2 : f_X9_readsWord_l4 (n + 1) k a u = (k, a, u) := if_pos hi
      rw [e1, e2]
      subst hP
      exact ⟨k, Nat.le_refl _, h.2.1, h, rfl, ha, hl, fv.refl, fq.refl⟩
/-- the words, as numbers -/
theorem let_pk : ∀ i, i < 9 → f_X9_letters (nI i) = Int64.ofNat (pkN (wLen i) (fun j => (wByte i j).toInt.toNat)) ∧ wLen i < 8 ∧ ∀ j, j < 8 → j < wLen i → 0 < (wByte i j).toInt.toNat ∧ (wByte i j).toInt.toNat < 256 ∧ 0 ≤ (wByte i j).toInt := by decide +kernel
theorem isw_l {i : Nat} {t : St} (hS : S < 2 ^ 31) : ∀ n k, k ≤ wLen i → wLen i < k + n → wLen i < 16 → (f_X2_isWord_l17 i (nI S) n k t = 0 ↔ ¬ ∀ j, k ≤ j → j < wLen i → t 1 (S + j) = wByte i j)
  | 0, k, hk, hn, _ => absurd hn (by omega)
  | n + 1, k, hk, hn, h16 => by
    by_cases c : wLen i ≤ k
    · have e : f_X2_isWord_l17 i (nI S) (n + 1) k t = 1 := if_pos (by rw [nI_leI (by omega) (by omega)]; exact c)
      rw [e]
      exact ⟨fun q => absurd q (by decide), fun q => absurd (fun j h1 h2 => absurd h2 (by omega)) q⟩
    · by_cases c2 : t 1 (S + k) = wByte i k
      · have e : f_X2_isWord_l17 i (nI S) (n + 1) k t = f_X2_isWord_l17 i (nI S) n (k + 1) t := (if_neg (by rw [nI_leI (by omega) (by omega)]; exact c)).trans (if_pos (by rw [nI_clamp hS]; exact c2))
        rw [e, isw_l hS n (k + 1) (by omega) (by omega) h16]
        constructor
        · intro q q2; exact q (fun j h1 h2 => q2 j (by omega) h2)
        · intro q q2
          refine q (fun j h1 h2 => ?_)
          by_cases cj : j = k
          · subst cj; exact c2
          · exact q2 j (by omega) h2
      · have e : f_X2_isWord_l17 i (nI S) (n + 1) k t = 0 := (if_neg (by rw [nI_leI (by omega) (by omega)]; exact c)).trans (if_neg (by rw [nI_clamp hS]; exact c2))
        rw [e]
        exact ⟨fun _ q => c2 (q k (Nat.le_refl _) (by omega)), fun _ => rfl⟩
theorem isw_eq {K : Nat} {w : Int64} (h : TX L (S + K) v u) (hB : u 4 = B) (hw : K ≤ 7 → w = Int64.ofNat (pkN K (bN B S))) (hl : ∀ j, j < K → 97 ≤ bN B S j ∧ bN B S j < 128) {i : Nat} (hi : i < 9) : f_X2_isWord v i (nI S) = 0 ↔ ¬ (K < 8 ∧ f_X9_letters (nI i) = w) := by
  have hL := h.1.1
  have hP := h.2.1
  obtain ⟨el, e8, eb⟩ := let_pk i hi
  have es : v 0 2 - nI S = nI K := by rw [h.2.2.1, pk_sub (by omega), Nat.add_sub_cancel_left]
  have hbyte : ∀ j, j < K → v 1 (S + j) = B (S + j) ∧ 0 ≤ (B (S + j)).toInt := fun j hj => by
    have h1 := h.1.2.2.2.1 (S + j) (by omega)
    rw [hB] at h1
    exact ⟨h1.1, h1.2.1⟩
  unfold f_X2_isWord
  rw [es]
  by_cases c : wLen i = K
  · subst c
    rw [if_pos rfl, isw_l (by omega) fu17 0 (by omega) (by unfold fu17; omega) (by omega)]
    refine not_congr ?_
    rw [el, hw (by omega)]
    constructor
    · intro q
      refine ⟨e8, ?_⟩
      congr 1
      refine pkN_c _ (fun j hj => ?_)
      show (wByte i j).toInt.toNat = (B (S + j)).toInt.toNat
      rw [← (hbyte j hj).1, q j (by omega) hj]
    · rintro ⟨-, q⟩ j - hj
      have h1 := L64_eq (L64_b (fun j hj => by have := eb j (by omega) hj; omega) (by omega)) (L64_b (fun j hj => by have := hl j hj; omega) (by omega)) q
      obtain ⟨-, h2⟩ := pkN_inj _ _ (fun j hj => by have := eb j (by omega) hj; omega) (fun j hj => by have := hl j hj; omega) h1
      have h3 : (wByte i j).toInt.toNat = (B (S + j)).toInt.toNat := h2 j hj
      rw [(hbyte j hj).1]
      have h4 := (eb j (by omega) hj).2.2
      have h5 := (hbyte j hj).2
      exact Int32.toInt_inj.mp (by omega)
  · rw [if_neg (by rw [nI_eq (by omega) (by omega)]; exact c)]
    refine ⟨fun _ q => c ?_, fun _ => rfl⟩
    obtain ⟨q1, q2⟩ := q
    rw [el, hw (by omega)] at q2
    have h1 := L64_eq (L64_b (fun j hj => by have := eb j (by omega) hj; omega) (by omega)) (L64_b (fun j hj => by have := hl j hj; omega) (by omega)) q2
    exact (pkN_inj _ _ (fun j hj => by have := eb j (by omega) hj; omega) (fun j hj => by have := hl j hj; omega) h1).1
theorem pick_sim {σ t ut : St} {kk : Nat} {w : Int64} (hkk : kk ≤ 150) (hiw : ∀ k, k < 9 → (f_X2_isWord t k (σ 0 2) = 0 ↔ ¬ (kk < 8 ∧ f_X9_letters (nI k) = w))) : ∀ n k, k ≤ 9 → 9 < k + n → (f_X9_readsWord_l60 kk w n k ut = (-1, ut) ∧ f_X2_readWord_l59 σ n k t = (0, up2 t 0 3 (σ 0 2))) ∨ ∃ j, j < 9 ∧ f_X9_readsWord_l60 kk w n k ut = (nI j, ut) ∧ f_X2_readWord_l59 σ n k t = (1, up2 t 0 4 (nI j))
  | 0, k, hk, hn => absurd hn (by omega)
  | n + 1, k, hk, hn => by
    by_cases c : 9 ≤ nI k
    · have e1 : f_X9_readsWord_l60 kk w (n + 1) k ut = (-1, ut) := if_pos c
      have e2 : f_X2_readWord_l59 σ (n + 1) k t = (0, up2 t 0 3 (σ 0 2)) := if_pos c
      rw [e1, e2]
      exact Or.inl ⟨rfl, rfl⟩
    · have hkb := kb_ge c (B := 9) (by decide) hk (by decide)
      have e1 := show f_X9_readsWord_l60 kk w (n + 1) k ut = _ from if_neg c
      have e2 := show f_X2_readWord_l59 σ (n + 1) k t = _ from if_neg c
      have hq := hiw k hkb
      by_cases c8 : 8 ≤ nI kk
      · rw [if_pos c8] at e1
        have c8' : ¬ kk < 8 := by
          rw [show (8 : Int32) = nI 8 from rfl, nI_leI (by decide) (by omega)] at c8
          omega
        have e3 : f_X2_isWord t k (σ 0 2) = 0 := hq.mpr (fun q => c8' q.1)
        rw [if_pos e3] at e2
        rcases pick_sim (ut := ut) hkk hiw n (k + 1) (by omega) (by omega) with ⟨g1, g2⟩ | ⟨j, hj, g1, g2⟩
        · rw [e1, e2]
          exact Or.inl ⟨rfl, g2⟩
        · exfalso
          cases n with
          | zero => omega
          | succ n =>
            by_cases c9 : 9 ≤ nI (k + 1)
            · have e := show f_X9_readsWord_l60 kk w (n + 1) (k + 1) ut = (-1, ut) from if_pos c9
              rw [e] at g1
              have e5 := congrArg Prod.fst g1
              have e6 : (-1 : Int32) = nI j := e5
              have := congrArg Int32.toInt e6
              rw [nI_toInt (by omega)] at this
              have h1 : (-1 : Int32).toInt = -1 := by decide
              omega
            · have e := show f_X9_readsWord_l60 kk w (n + 1) (k + 1) ut = (-1, ut) from (if_neg c9).trans (if_pos c8)
              rw [e] at g1
              have e6 : (-1 : Int32) = nI j := congrArg Prod.fst g1
              have := congrArg Int32.toInt e6
              rw [nI_toInt (by omega)] at this
              have h1 : (-1 : Int32).toInt = -1 := by decide
              omega
      · rw [if_neg c8] at e1
        have c8' : kk < 8 := by
          rw [show (8 : Int32) = nI 8 from rfl, nI_leI (by decide) (by omega)] at c8
          omega
        dsimp only at e1
        by_cases cl : f_X9_letters (nI k) = w
        · have e3 : ¬ f_X2_isWord t k (σ 0 2) = 0 := fun q => hq.mp q ⟨c8', cl⟩
          rw [if_neg e3] at e2
          rw [if_pos (lc_0.mpr cl)] at e1
          exact Or.inr ⟨k, hkb, e1, e2⟩
        · have e3 : f_X2_isWord t k (σ 0 2) = 0 := hq.mpr (fun q => cl q.2)
          rw [if_pos e3] at e2
          rw [if_neg (fun q => cl (lc_0.mp q))] at e1
          rw [e1, e2]
          exact pick_sim hkk hiw n (k + 1) (by omega) (by omega)
end Wd
