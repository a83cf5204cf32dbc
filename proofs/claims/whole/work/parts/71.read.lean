/-! a command of both -/
section Rc
variable {L P S : Nat} {v u : St} {B : Nat → Int32}
theorem TX.keep {v' u' : St} (h : TX L P v u) (e1 : v' 0 1 = v 0 1) (e2 : v' 0 2 = v 0 2) (r1 : v' 1 = v 1) (r2 : v' 2 = v 2) (e6 : u' 0 6 = u 0 6) (e8 : u' 0 8 = u 0 8) (r4 : u' 4 = u 4) (r5 : u' 5 = u 5) : TX L P v' u' := ⟨h.1.c e1 r1 r2 e6 r4 r5, h.2.1, by rw [e2]; exact h.2.2.1, by rw [e8]; exact h.2.2.2⟩
theorem TX.o3 {w : Int32} (h : TX L P v u) : TX L P (up2 v 0 3 w) u := h.keep (up2_j (by decide)) (up2_j (by decide)) (up2_rowk (by decide)) (up2_rowk (by decide)) rfl rfl rfl rfl
theorem TX.o4 {w : Int32} (h : TX L P v u) : TX L P (up2 v 0 4 w) u := h.keep (up2_j (by decide)) (up2_j (by decide)) (up2_rowk (by decide)) (up2_rowk (by decide)) rfl rfl rfl rfl
theorem TX.o9 {w : Int32} (h : TX L P v u) : TX L P v (up2 u 0 9 w) := h.keep rfl rfl rfl rfl (up2_j (by decide)) (up2_j (by decide)) (up2_rowk (by decide)) (up2_rowk (by decide))
theorem word_all (h : TX L P v u) : ∃ P' v' u', P ≤ P' ∧ TX L P' v' u' ∧ fv v v' ∧ fq u u' ∧ ((f_X9_readsWord u = (-1, u') ∧ f_X2_readWord v = (0, up2 v' 0 3 (nI P))) ∨ ∃ j, j < 9 ∧ f_X9_readsWord u = (nI j, u') ∧ f_X2_readWord v = (1, up2 v' 0 4 (nI j))) := by
  have hL := h.1.1
  obtain ⟨K, g1, g2, g3, g4, g5, g6, g7, g8⟩ := word_sim (S := P) (B := u 4) fu151 P 0 0 v u (by unfold fu151; omega) (by omega) h rfl (fun _ => rfl) (fun j hj => absurd hj (by omega))
  have g5' : K ≤ 7 → (f_X9_readsWord_l4 fu151 0 0 u).2.1 = Int64.ofNat (pkN K (bN (u 4) P)) := g5
  refine ⟨P + K, _, _, by omega, g3, g7, g8, ?_⟩
  have hr := pick_sim (σ := v) (t := f_X2_readWord_l5 fu151 v) (ut := (f_X9_readsWord_l4 fu151 0 0 u).2.2) (kk := K) (w := (f_X9_readsWord_l4 fu151 0 0 u).2.1) (by omega) (fun k hk => by rw [h.2.2.1]; exact isw_eq g3 g8.r4 g5' g6 hk) fu10 0 (by omega) (by unfold fu10; omega)
  rw [h.2.2.1, ← g4] at hr
  exact hr
theorem dig_eq (h : TX L P v u) : f_X2_isDigitHere v = f_X9_isAt u 48 57 := by
  rw [isAt_eq h]
  unfold f_X2_isDigitHere f_X9_in
  dsimp only
  rw [here_eq h]
  by_cases c : P < L
  · rw [if_pos c, if_pos c]
  · rw [if_neg c, if_neg c, if_pos (by decide)]
theorem dig_c {t : St} {k : Nat} {a : Int32} : f_X2_isDigitHere (up2 t 2 k a) = f_X2_isDigitHere t := by
  have e : f_X2_byteHere (up2 t 2 k a) = f_X2_byteHere t := by
    unfold f_X2_byteHere
    rw [up2_k (by decide), up2_k (by decide), up2_k (by decide)]
  unfold f_X2_isDigitHere
  dsimp only
  rw [e]
theorem here_c {t : St} {k : Nat} {a : Int32} : f_X2_byteHere (up2 t 2 k a) = f_X2_byteHere t := by
  unfold f_X2_byteHere
  rw [up2_k (by decide), up2_k (by decide), up2_k (by decide)]
theorem TX.num {t ut : St} {k : Nat} {a a' : Int32} (h : TX L P (up2 t 2 k a) ut) (hP : P < L) : TX L (P + 1) (up2 (up2 t 0 2 (t 0 2 + 1)) 2 k a') (up2 (up2 ut 5 k a') 0 8 (ut 0 8 + 1)) := by
  obtain ⟨⟨hL, e1, e6, hb, hn⟩, -, e2, e8⟩ := h
  rw [up2_k (by decide)] at e1 e2
  refine ⟨⟨hL, ?_, ?_, fun j hj => ?_, fun j hj => ?_⟩, hP, ?_, ?_⟩
  · rw [up2_k (by decide), up2_j (by decide)]; exact e1
  · rw [up2_j (by decide), up2_k (by decide)]; exact e6
  · have := hb j hj
    rw [up2_k (by decide)] at this
    rw [up2_k (by decide), up2_k (by decide), up2_k (by decide), up2_k (by decide)]
    exact this
  · have := hn j hj
    rw [up2_k (show (5 : Nat) ≠ 0 by decide)]
    by_cases c : j = k
    · subst c; rw [up2_s, up2_s]
    · rw [up2_j c] at this
      rw [up2_j c, up2_j c, up2_k (by decide)]
      exact this
  · rw [up2_k (by decide), up2_s, e2, nI_1]
  · rw [up2_s, e8, nI_1]
theorem digits_sim {s1 : St} {k : Nat} (hs : s1 0 8 = nI S) (hk : k < 4) : ∀ n j m P a t ut, P = S + j → j ≤ 3 → 3 < j + n → L < P + m → TX L P (up2 t 2 k a) ut → ∃ P', P ≤ P' ∧ TX L P' (up2 (f_X2_readNumber_l44 n j a t).2 2 k (f_X2_readNumber_l44 n j a t).1) (f_X9_readsNumber_l32 (nI k) s1 m ut) ∧ fv t (f_X2_readNumber_l44 n j a t).2 ∧ fq ut (f_X9_readsNumber_l32 (nI k) s1 m ut)
  | 0, j, m, P, a, t, ut, _, hj, hn, _, h => absurd hn (by omega)
  | n + 1, j, 0, P, a, t, ut, _, hj, hn, hm, h => absurd hm (by have := h.2.1; omega)
  | n + 1, j, m + 1, P, a, t, ut, hP, hj, hn, hm, h => by
    have hL := h.1.1
    have ea : ut 5 k = a := by
      have := h.1.2.2.2.2 k hk
      rw [up2_s] at this
      exact this.symm
    have ed : f_X2_isDigitHere t = f_X9_isAt ut 48 57 := by rw [← dig_c (k := k) (a := a)]; exact dig_eq h
    have e8 := h.2.2.2
    by_cases cd : f_X9_isAt ut 48 57 = 0
    · have e2 : f_X9_readsNumber_l32 (nI k) s1 (m + 1) ut = ut := if_pos cd
      have e1 : f_X2_readNumber_l44 (n + 1) j a t = (a, t) := by
        by_cases c3 : 3 ≤ nI j
        · exact if_pos c3
        · exact (if_neg c3).trans (if_pos (ed.trans cd))
      rw [e1, e2]
      exact ⟨P, Nat.le_refl _, h, fv.refl, fq.refl⟩
    · have hPL : P < L := by
        by_cases c : P < L
        · exact c
        · rw [isAt_eq h, if_neg c] at cd; exact absurd rfl cd
      have h3 : s1 0 8 + 3 = nI (S + 3) := by rw [hs, show (3 : Int32) = nI 3 from rfl, nI_add]
      by_cases c3 : 3 ≤ nI j
      · have e1 : f_X2_readNumber_l44 (n + 1) j a t = (a, t) := if_pos c3
        rw [show (3 : Int32) = nI 3 from rfl, nI_leI (by decide) (by omega)] at c3
        have e2 : f_X9_readsNumber_l32 (nI k) s1 (m + 1) ut = ut := (if_neg cd).trans (if_pos (by rw [h3, e8, nI_leI (by omega) (by omega)]; omega))
        rw [e1, e2]
        exact ⟨P, Nat.le_refl _, h, fv.refl, fq.refl⟩
      · have hj3 := kb_ge c3 (B := 3) (by decide) hj (by decide)
        have e1 : f_X2_readNumber_l44 (n + 1) j a t = f_X2_readNumber_l44 n (j + 1) (((10 * a) + f_X2_byteHere t) - 48) (up2 t 0 2 (t 0 2 + 1)) := (if_neg c3).trans (if_neg (by rw [ed]; exact cd))
        have e2 : f_X9_readsNumber_l32 (nI k) s1 (m + 1) ut = f_X9_readsNumber_l32 (nI k) s1 m (up2 (up2 ut 5 (nI k).toNatClampNeg (((10 * (ut 5 (nI k).toNatClampNeg)) + (ut 4 ((ut 0 8).toNatClampNeg))) - 48)) 0 8 (ut 0 8 + 1)) := (if_neg cd).trans (if_neg (by rw [h3, e8, nI_leI (by omega) (by omega)]; omega))
        have eb : f_X2_byteHere t = ut 4 P := by
          rw [← here_c (k := k) (a := a), here_eq h, if_pos hPL]
          exact (h.1.2.2.2.1 P (by omega)).1
        rw [nI_clamp (by omega), ea, e8, nI_clamp (by omega), ← eb, ← e8] at e2
        rw [e1, e2]
        obtain ⟨P', g1, g2, g3, g4⟩ := digits_sim hs hk n (j + 1) m (P + 1) (((10 * a) + f_X2_byteHere t) - 48) _ _ (by omega) (by omega) (by omega) (by omega) (h.num (a' := ((10 * a) + f_X2_byteHere t) - 48) hPL)
        exact ⟨P', by omega, g2, fv.o2.trans g3, (fq.o5.trans fq.o8).trans g4⟩
theorem number_sim {k : Nat} (h : TX L P v u) (hk : k < 4) : ∃ P' v' u', P ≤ P' ∧ TX L P' v' u' ∧ fv v v' ∧ fq u u' ∧ ((f_X9_readsNumber u (nI k) = (0, u') ∧ f_X2_readNumber v (nI k) = (0, up2 v' 0 3 (nI P'))) ∨ (f_X9_readsNumber u (nI k) = (1, u') ∧ f_X2_readNumber v (nI k) = (1, v'))) := by
  have hL := h.1.1
  obtain ⟨P1, g1, g2, g3, g4, g5⟩ := skip_sim fu151 P v u h
  obtain ⟨g6, g7⟩ := g5 (by decide)
  have g2L := g2.2.1
  by_cases c1 : f_X9_isAt u 32 32 = 0
  · have e1 := g6 c1
    refine ⟨P1, _, _, g1, g2, g3, g4, Or.inl ⟨?_, ?_⟩⟩
    · unfold f_X9_readsNumber f_X9_skips
      dsimp only
      rw [if_pos c1]
    · unfold f_X2_readNumber f_X2_skipSpaces
      dsimp only
      rw [if_pos (by rw [g2.2.2.1, h.2.2.1, e1]), g2.2.2.1]
  · have e1 := g7 c1
    have hne : ¬ (f_X2_skipSpaces_l0 fu151 v) 0 2 = v 0 2 := by rw [g2.2.2.1, h.2.2.1, nI_eq (by omega) (by omega)]; omega
    have ed := dig_eq g2
    by_cases c2 : f_X9_isAt (f_X9_skips_l9 fu151 u) 48 57 = 0
    · refine ⟨P1, _, _, g1, g2, g3, g4, Or.inl ⟨?_, ?_⟩⟩
      · unfold f_X9_readsNumber f_X9_skips
        dsimp only
        rw [if_neg c1, if_pos c2]
      · unfold f_X2_readNumber f_X2_skipSpaces
        dsimp only
        rw [if_neg hne, if_pos (by rw [ed]; exact c2), g2.2.2.1]
    · have h4 : nI k < 4 := by rw [show (4 : Int32) = nI 4 from rfl, nI_ltI (by omega) (by decide)]; exact hk
      have h0 : TX L P1 (up2 (f_X2_skipSpaces_l0 fu151 v) 2 k 0) (up2 (f_X9_skips_l9 fu151 u) 5 k 0) := by
        obtain ⟨⟨hL, e1, e6, hb, hn⟩, hP, e2, e8⟩ := g2
        refine ⟨⟨hL, by rw [up2_k (by decide)]; exact e1, by rw [up2_k (by decide)]; exact e6, fun j hj => by rw [up2_k (by decide), up2_k (by decide)]; exact hb j hj, fun j hj => ?_⟩, hP, by rw [up2_k (by decide)]; exact e2, by rw [up2_k (by decide)]; exact e8⟩
        by_cases c : j = k
        · subst c; rw [up2_s, up2_s]
        · rw [up2_j c, up2_j c]; exact hn j hj
      obtain ⟨P', d1, d2, d3, d4⟩ := digits_sim (S := P1) (s1 := f_X9_skips_l9 fu151 u) g2.2.2.2 hk fu4 0 fu151 P1 0 _ _ (by omega) (by omega) (by unfold fu4; omega) (by unfold fu151; omega) h0
      refine ⟨P', _, _, by omega, d2, g3.trans (fun y hy => by rw [up2_k (by decide)]; exact d3 y hy), (g4.trans fq.o5).trans d4, Or.inr ⟨?_, ?_⟩⟩
      · unfold f_X9_readsNumber f_X9_skips
        dsimp only
        rw [if_neg c1, if_neg c2, nI_clamp (by omega)]
      · unfold f_X2_readNumber f_X2_skipSpaces
        dsimp only
        rw [if_neg hne, if_neg (by rw [ed]; exact c2), if_pos h4, nI_clamp (by omega)]
/-- a command that is read by both: wrong at the same place, or the same -/
def CR (L P : Nat) (v u : St) (A B : Int32 × St) : Prop :=
  (∃ F, F ≤ L ∧ A.1 = 0 ∧ B.1 = 0 ∧ A.2 0 3 = nI F ∧ B.2 0 8 = nI F ∧ TN L A.2 B.2 ∧ fq u B.2) ∨ (∃ P', P < P' ∧ A.1 = 1 ∧ B.1 = 1 ∧ TX L P' A.2 B.2 ∧ fq u B.2 ∧ A.2 0 3 = v 0 3 ∧ A.2 0 4 = v 0 4 ∧ B.2 0 9 = u 0 9)
theorem CR.bad {v' u' : St} {F : Nat} (hF : F ≤ L) (e3 : v' 0 3 = nI F) (e8 : u' 0 8 = nI F) (hT : TN L v' u') (hq : fq u u') : CR L P v u (0, v') (0, u') := Or.inl ⟨F, hF, rfl, rfl, e3, e8, hT, hq⟩
theorem CR.good {v' u' : St} {P' : Nat} (hP : P < P') (hT : TX L P' v' u') (hq : fq u u') (e3 : v' 0 3 = v 0 3) (e4 : v' 0 4 = v 0 4) (e9 : u' 0 9 = u 0 9) : CR L P v u (1, v') (1, u') := Or.inr ⟨P', hP, rfl, rfl, hT, hq, e3, e4, e9⟩
theorem cnt_9 : ∀ j, j < 9 → enN j = f_X9_numbersOf (nI j) := by decide +kernel
theorem cmd_sim {j : Nat} (hj : j < 9) : ∀ n k P v u, k ≤ 4 → 4 < k + n → v 0 4 = nI j → u 0 9 = nI j → TX L P v u → CR L P v u (f_X2_readCommand_l26 n k v) (f_X9_reads_l30 n k u)
  | 0, k, P, v, u, hk, hn, _, _, _ => absurd hn (by omega)
  | n + 1, k, P, v, u, hk, hn, h4, h9, h => by
    have hL := h.1.1
    have ec : enN (v 0 4).toNatClampNeg = f_X9_numbersOf (u 0 9) := by rw [h4, h9, nI_clamp (by omega)]; exact cnt_9 j hj
    by_cases c : f_X9_numbersOf (u 0 9) ≤ nI k
    · obtain ⟨P1, g1, g2, g3, g4, -⟩ := skip_sim fu151 P v u h
      have e1 := show f_X2_readCommand_l26 (n + 1) k v = _ from if_pos (by rw [ec]; exact c)
      have e2 := show f_X9_reads_l30 (n + 1) k u = _ from if_pos c
      have eb := here_eq g2
      have ea := isAt_eq g2 59 59
      have e1' : f_X2_readCommand_l26 (n + 1) k v = if f_X2_byteHere (f_X2_skipSpaces_l0 fu151 v) = 59 then (1, up2 (f_X2_skipSpaces_l0 fu151 v) 0 2 ((f_X2_skipSpaces_l0 fu151 v) 0 2 + 1)) else (0, up2 (f_X2_skipSpaces_l0 fu151 v) 0 3 ((f_X2_skipSpaces_l0 fu151 v) 0 2)) := e1
      have e2' : f_X9_reads_l30 (n + 1) k u = (f_X9_isAt (f_X9_skips_l9 fu151 u) 59 59, up2 (f_X9_skips_l9 fu151 u) 0 8 ((f_X9_skips_l9 fu151 u) 0 8 + (if f_X9_isAt (f_X9_skips_l9 fu151 u) 59 59 = 0 then 0 else 1))) := e2
      rw [e1', e2', eb, ea]
      have fail : ∀ (c0 : (if P1 < L then f_X9_in ((f_X2_skipSpaces_l0 fu151 v) 1 P1) 59 59 else 0) = 0) (c1 : ¬ (if P1 < L then (f_X2_skipSpaces_l0 fu151 v) 1 P1 else -1) = 59), CR L P v u (if (if P1 < L then (f_X2_skipSpaces_l0 fu151 v) 1 P1 else -1) = 59 then (1, up2 (f_X2_skipSpaces_l0 fu151 v) 0 2 ((f_X2_skipSpaces_l0 fu151 v) 0 2 + 1)) else (0, up2 (f_X2_skipSpaces_l0 fu151 v) 0 3 ((f_X2_skipSpaces_l0 fu151 v) 0 2))) ((if P1 < L then f_X9_in ((f_X2_skipSpaces_l0 fu151 v) 1 P1) 59 59 else 0), up2 (f_X9_skips_l9 fu151 u) 0 8 ((f_X9_skips_l9 fu151 u) 0 8 + (if (if P1 < L then f_X9_in ((f_X2_skipSpaces_l0 fu151 v) 1 P1) 59 59 else 0) = 0 then 0 else 1))) := fun c0 c1 => by
        rw [if_neg c1, c0, if_pos (show (0 : Int32) = 0 from rfl)]
        refine CR.bad (F := P1) g2.2.1 (up2_s.trans g2.2.2.1) ?_ ?_ (g4.trans fq.o8)
        · rw [up2_s, Int32.add_zero]; exact g2.2.2.2
        · have q : TX L P1 (up2 (f_X2_skipSpaces_l0 fu151 v) 0 3 ((f_X2_skipSpaces_l0 fu151 v) 0 2)) (f_X9_skips_l9 fu151 u) := g2.o3
          exact q.1.c rfl rfl rfl (up2_j (by decide)) (up2_rowk (by decide)) (up2_rowk (by decide))
      by_cases cP : P1 < L
      · by_cases c59 : (f_X2_skipSpaces_l0 fu151 v) 1 P1 = 59
        · have hi : f_X9_in ((f_X2_skipSpaces_l0 fu151 v) 1 P1) 59 59 = 1 := (in_01 _ _ _).resolve_left (fun q => ((in_59 _).mp q) c59)
          rw [if_pos cP, if_pos cP, if_pos c59, hi, if_neg n10]
          refine CR.good (P' := P1 + 1) (by omega) (g2.step cP) (g4.trans fq.o8) ?_ ?_ ?_
          · rw [up2_j (by decide)]; exact g3 3 (by decide)
          · rw [up2_j (by decide)]; exact g3 4 (by decide)
          · rw [up2_j (by decide)]; exact skip_9 _ _
        · exact fail (by rw [if_pos cP]; exact (in_59 _).mpr c59) (by rw [if_pos cP]; exact c59)
      · exact fail (by rw [if_neg cP]) (by rw [if_neg cP]; decide)
    · have hk4 : k < 4 := by
        have := enN_4 j hj
        rw [cnt_9 j hj, ← h9] at this
        exact kb_ge c (B := 4) this hk (by decide)
      obtain ⟨P', v', u', g1, g2, g3, g4, g5⟩ := number_sim h hk4
      have e1 := show f_X2_readCommand_l26 (n + 1) k v = _ from if_neg (by rw [ec]; exact c)
      have e2 := show f_X9_reads_l30 (n + 1) k u = _ from if_neg c
      have e1' : f_X2_readCommand_l26 (n + 1) k v = if (f_X2_readNumber v (nI k)).1 = 0 then (0, (f_X2_readNumber v (nI k)).2) else f_X2_readCommand_l26 n (k + 1) (f_X2_readNumber v (nI k)).2 := e1
      have e2' : f_X9_reads_l30 (n + 1) k u = if (f_X9_readsNumber u (nI k)).1 = 0 then (0, (f_X9_readsNumber u (nI k)).2) else f_X9_reads_l30 n (k + 1) (f_X9_readsNumber u (nI k)).2 := e2
      rcases g5 with ⟨q1, q2⟩ | ⟨q1, q2⟩
      · rw [e1', e2', q1, q2]
        dsimp only
        rw [if_pos (show (0 : Int32) = 0 from rfl), if_pos (show (0 : Int32) = 0 from rfl)]
        exact CR.bad (F := P') g2.2.1 up2_s g2.2.2.2 g2.o3.1 g4
      · have e9 : u' 0 9 = nI j := by
          have := num_9 (t := u) (p := nI k)
          rw [q1] at this
          exact this.trans h9
        have e4 : v' 0 4 = nI j := (g3 4 (by decide)).trans h4
        rw [e1', e2', q1, q2]
        dsimp only
        rw [if_neg n10, if_neg n10]
        rcases cmd_sim hj n (k + 1) P' v' u' (by omega) (by omega) e4 e9 g2 with ⟨F, f1, f2, f3, f4, f5, f6, f7⟩ | ⟨P2, f1, f2, f3, f4, f5, f6, f7, f8⟩
        · exact Or.inl ⟨F, f1, f2, f3, f4, f5, f6, g4.trans f7⟩
        · exact Or.inr ⟨P2, by omega, f2, f3, f4, g4.trans f5, f6.trans (g3 3 (by decide)), f7.trans (g3 4 (by decide)), by rw [f8, e9, h9]⟩
end Rc
