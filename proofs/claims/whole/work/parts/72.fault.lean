/-! the first reading of both -/
theorem skip_5 : ∀ n t, f_X9_skips_l9 n t 5 = t 5
  | 0, _ => rfl
  | n + 1, t => by
    unfold f_X9_skips_l9
    dsimp only
    split
    · rfl
    · rw [skip_5 n]; exact up2_rowk (by decide)
section Ff
variable {L P : Nat} {v u : St}
/-- the class's next command, and the reference's after its spaces -/
theorem read_sim (h : TX L P v u) : ∃ P1, P ≤ P1 ∧ TX L P1 (f_X2_skipSpaces v) (f_X9_skips u).2 ∧ fq u (f_X9_skips u).2 ∧
    ((P1 = L ∧ f_X2_readCommand v = (0, f_X2_skipSpaces v) ∧ (f_X2_skipSpaces v) 0 3 = v 0 3) ∨
     (P1 < L ∧ ((∃ F, F ≤ L ∧ (f_X2_readCommand v).1 = 0 ∧ (f_X9_reads (f_X9_skips u).2).1 = 0 ∧ (f_X2_readCommand v).2 0 3 = nI F ∧ (f_X9_reads (f_X9_skips u).2).2 0 8 = nI F ∧ TN L (f_X2_readCommand v).2 (f_X9_reads (f_X9_skips u).2).2 ∧ fq u (f_X9_reads (f_X9_skips u).2).2) ∨
       ∃ P2 j, P1 < P2 ∧ j < 9 ∧ (f_X2_readCommand v).1 = 1 ∧ (f_X9_reads (f_X9_skips u).2).1 = 1 ∧ TX L P2 (f_X2_readCommand v).2 (f_X9_reads (f_X9_skips u).2).2 ∧ fq u (f_X9_reads (f_X9_skips u).2).2 ∧ (f_X2_readCommand v).2 0 3 = v 0 3 ∧ (f_X2_readCommand v).2 0 4 = nI j ∧ (f_X9_reads (f_X9_skips u).2).2 0 9 = nI j))) := by
  have hL := h.1.1
  obtain ⟨P1, g1, g2, g3, g4, -⟩ := skip_sim fu151 P v u h
  have g2' : TX L P1 (f_X2_skipSpaces v) (f_X9_skips u).2 := g2
  have g4' : fq u (f_X9_skips u).2 := g4
  have g3' : fv v (f_X2_skipSpaces v) := g3
  refine ⟨P1, g1, g2', g4', ?_⟩
  have g2L := g2.2.1
  by_cases c : P1 < L
  · right
    refine ⟨c, ?_⟩
    have e1 : f_X2_readCommand v = if (f_X2_readWord (f_X2_skipSpaces v)).1 = 0 then (0, (f_X2_readWord (f_X2_skipSpaces v)).2) else f_X2_readCommand_l26 fu5 0 (f_X2_readWord (f_X2_skipSpaces v)).2 := if_neg (by rw [end_eq g2']; omega)
    generalize f_X2_skipSpaces v = v1 at *
    generalize (f_X9_skips u).2 = u1 at *
    have e2 : f_X9_reads u1 = if (f_X9_readsWord u1).1 = -1 then (0, up2 (up2 (f_X9_readsWord u1).2 0 9 (f_X9_readsWord u1).1) 0 8 (u1 0 8)) else f_X9_reads_l30 fu5 0 (up2 (f_X9_readsWord u1).2 0 9 (f_X9_readsWord u1).1) := rfl
    obtain ⟨P2, v2, u2, w1, w2, w3, w4, w5⟩ := word_all g2'
    rcases w5 with ⟨q1, q2⟩ | ⟨j, hj, q1, q2⟩
    · left
      rw [e1, e2, q1, q2]
      dsimp only
      rw [if_pos (show (0 : Int32) = 0 from rfl), if_pos (show (-1 : Int32) = -1 from rfl)]
      refine ⟨P1, g2L, rfl, rfl, (show up2 v2 0 3 (nI P1) 0 3 = nI P1 from up2_s), (show up2 (up2 u2 0 9 (-1)) 0 8 (u1 0 8) 0 8 = nI P1 from up2_s.trans g2'.2.2.2), ?_, ((g4'.trans w4).trans fq.o9).trans fq.o8⟩
      show TN L (up2 v2 0 3 (nI P1)) (up2 (up2 u2 0 9 (-1)) 0 8 (u1 0 8))
      exact w2.1.c (up2_j (by decide)) (up2_rowk (by decide)) (up2_rowk (by decide)) (by rw [up2_j (by decide), up2_j (by decide)]) (by rw [up2_rowk (by decide), up2_rowk (by decide)]) (by rw [up2_rowk (by decide), up2_rowk (by decide)])
    · have hne : ¬ nI j = -1 := fun e => by
        have := congrArg Int32.toInt e
        rw [nI_toInt (by omega)] at this
        have h1 : (-1 : Int32).toInt = -1 := by decide
        omega
      rw [e1, e2, q1, q2]
      dsimp only
      rw [if_neg n10, if_neg hne]
      have hk : TX L P2 (up2 v2 0 4 (nI j)) (up2 u2 0 9 (nI j)) := (w2.o4).o9
      rcases cmd_sim hj fu5 0 P2 _ _ (by omega) (by unfold fu5; omega) up2_s up2_s hk with ⟨F, f1, f2, f3, f4, f5, f6, f7⟩ | ⟨P3, f1, f2, f3, f4, f5, f6, f7, f8⟩
      · exact Or.inl ⟨F, f1, f2, f3, f4, f5, f6, ((g4'.trans w4).trans fq.o9).trans f7⟩
      · exact Or.inr ⟨P3, j, by omega, hj, f2, f3, f4, ((g4'.trans w4).trans fq.o9).trans f5, f6.trans ((up2_j (by decide)).trans ((w3 3 (by decide)).trans (g3' 3 (by decide)))), f7.trans up2_s, f8.trans up2_s⟩
  · left
    have eL : P1 = L := by omega
    exact ⟨eL, if_pos (by rw [end_eq g2']; exact c), g3' 3 (by decide)⟩
/-- the second reading of the reference -/
def sec9 (t15 : St) : Int32 × St := (let s50 := f_X9_saves t15; (let s66 := (f_X9_skips (up2 (up2 s50 0 7 0) 0 8 0)).2; (let w70_2 := (f_X9_runCommands_l70 fu151 0 s66).1; let u70 := (f_X9_runCommands_l70 fu151 0 s66).2; (w70_2, u70))))
theorem l15_end {n : Nat} {X : St} (c : X 0 6 ≤ X 0 8) : f_X9_runCommands_l15 (n + 1) X = sec9 X := by
  have e := show f_X9_runCommands_l15 (n + 1) X = _ from if_pos c
  rw [e]
  unfold sec9
  dsimp only
theorem l15_go {n : Nat} {X : St} (c : ¬ X 0 6 ≤ X 0 8) : f_X9_runCommands_l15 (n + 1) X = if (f_X9_reads X).1 = 0 then ((-10) - (f_X9_reads X).2 0 8, (f_X9_reads X).2) else f_X9_runCommands_l15 n (f_X9_skips (f_X9_reads X).2).2 := by
  have e := show f_X9_runCommands_l15 (n + 1) X = _ from if_neg c
  rw [e]
theorem l8_150 {n k : Nat} {t : St} (c : 150 ≤ nI k) : f_X2_findFault_l8 (n + 1) k 1 t = t := (if_neg n10).trans (if_pos c)
theorem l8_go {n k : Nat} {t : St} (c : ¬ 150 ≤ nI k) : f_X2_findFault_l8 (n + 1) k 1 t = f_X2_findFault_l8 n (k + 1) (f_X2_readCommand t).1 (f_X2_readCommand t).2 := (if_neg n10).trans (if_neg c)
theorem l8_0 {n k : Nat} {t : St} : f_X2_findFault_l8 n k 0 t = t := by
  cases n with
  | zero => rfl
  | succ n => exact if_pos rfl
theorem sc_0 {t : St} (c : t 0 6 ≤ t 0 8) : sc 0 t := c
theorem sc_s {m : Nat} {t : St} (h : ¬ (f_X9_reads t).1 = 0) (h2 : sc m (f_X9_skips (f_X9_reads t).2).2) : sc (m + 1) t := Or.inr ⟨h, h2⟩
set_option maxHeartbeats 100000 in
theorem ff_sim : ∀ n k P t ut, k + n = 151 → k ≤ P → TX L P t ut → t 0 3 = -1 →
    (∃ F s', F ≤ L ∧ (f_X2_findFault_l8 n k 1 t) 0 3 = nI F ∧ f_X9_runCommands_l15 n (f_X9_skips ut).2 = ((-10) - nI F, s') ∧ TN L (f_X2_findFault_l8 n k 1 t) s' ∧ fq ut s') ∨
    ((f_X2_findFault_l8 n k 1 t) 0 3 = -1 ∧ (∃ m, sc m (f_X9_skips ut).2) ∧ ∃ s', f_X9_runCommands_l15 n (f_X9_skips ut).2 = sec9 s' ∧ TN L (f_X2_findFault_l8 n k 1 t) s' ∧ fq ut s')
  | 0, k, P, t, ut, hkn, hk, h, _ => absurd h.1.1 (by have := h.2.1; omega)
  | n + 1, k, P, t, ut, hkn, hk, h, h3 => by
    have hL := h.1.1
    obtain ⟨P1, g1, g2, g4, g5⟩ := read_sim h
    have hsec : P1 = L → f_X9_runCommands_l15 (n + 1) (f_X9_skips ut).2 = sec9 (f_X9_skips ut).2 ∧ sc 0 (f_X9_skips ut).2 := fun e => by
      have c : (f_X9_skips ut).2 0 6 ≤ (f_X9_skips ut).2 0 8 := by rw [end_eq9 g2]; omega
      exact ⟨l15_end c, sc_0 c⟩
    by_cases c150 : 150 ≤ nI k
    · have e1 := l8_150 (n := n) (t := t) c150
      rw [show (150 : Int32) = nI 150 from rfl, nI_leI (by decide) (by omega)] at c150
      have hPL := g2.2.1
      obtain ⟨s1, s2⟩ := hsec (by omega)
      have sk5 : (f_X9_skips ut).2 5 = ut 5 := skip_5 _ _
      rw [e1, s1]
      refine Or.inr ⟨h3, ⟨0, s2⟩, _, rfl, ?_, g4⟩
      exact h.1.c rfl rfl rfl (g4 0 6 (by decide) (by omega)) g4.r4 sk5
    · have e1 := l8_go (n := n) (t := t) c150
      rw [e1]
      rcases g5 with ⟨eL, q1, q2⟩ | ⟨cL, q⟩
      · obtain ⟨s1, s2⟩ := hsec eL
        rw [s1, q1]
        dsimp only
        rw [l8_0]
        exact Or.inr ⟨q2.trans h3, ⟨0, s2⟩, _, rfl, g2.1, g4⟩
      · have cne : ¬ (f_X9_skips ut).2 0 6 ≤ (f_X9_skips ut).2 0 8 := by rw [end_eq9 g2]; omega
        have e2 := l15_go (n := n) cne
        rcases q with ⟨F, f1, f2, f3, f4, f5, f6, f7⟩ | ⟨P2, j, f0, hj, f2, f3, f4, f5, f6, f7, f8⟩
        · rw [e2, if_pos f3, f2, l8_0, f5]
          exact Or.inl ⟨F, _, f1, f4, rfl, f6, f7⟩
        · have hne : ¬ (f_X9_reads (f_X9_skips ut).2).1 = 0 := by rw [f3]; decide
          rw [e2, if_neg hne, f2]
          rcases ff_sim n (k + 1) P2 _ _ (by omega) (by omega) f4 (f6.trans h3) with ⟨F, s', i1, i2, i3, i4, i5⟩ | ⟨i1, ⟨m, i2⟩, s', i3, i4, i5⟩
          · exact Or.inl ⟨F, s', i1, i2, i3, i4, f5.trans i5⟩
          · exact Or.inr ⟨i1, ⟨m + 1, sc_s hne i2⟩, s', i3, i4, f5.trans i5⟩
end Ff
