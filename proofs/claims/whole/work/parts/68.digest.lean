/-! the digest of both -/
/-- all but the sum as before, and the sum -/
def dg (δ : St) (a : Int64) (t : St) : Prop := (∀ x y, ¬ (x = 0 ∧ (y = 11 ∨ y = 12)) → t x y = δ x y) ∧ mk64 (t 0 11) (t 0 12) = a
section Dg
variable {τ : Int} {N d q : Nat} {β δ t : St} {a : Int64}
theorem dg.row (h : dg δ a t) {x : Nat} (hx : x ≠ 0) : t x = δ x := funext fun y => h.1 x y (by omega)
theorem dg.mix (h : dg δ a t) (p : Int32) : dg δ (31 * a + p.toInt64) (f_X9_mix t p) := by
  refine ⟨fun x y c => (uph_o c).trans (h.1 x y c), ?_⟩
  show mk64 (uph t _ 0 11) (uph t _ 0 12) = _
  rw [uph_s, h.2]
theorem dg_proc (h : RM τ N d q (sb (gmM 0) β) (δ 1)) : ∀ n k a t, k ≤ 12 → dg δ a t → dg δ (f_X8_digest_l48 n k a β) (f_X9_digest_l38 n k t)
  | 0, _, _, _, _, hd => hd
  | n + 1, k, a, t, hk, hd => by
    have hm : RM τ N d q (sb (gmM 0) β) (t 1) := by rw [hd.row (by decide)]; exact h
    by_cases c : 12 ≤ nI k
    · have e1 : f_X8_digest_l48 (n + 1) k a β = a := if_pos c
      have e2 : f_X9_digest_l38 (n + 1) k t = t := if_pos c
      rw [e1, e2]; exact hd
    · have hkb := kb_ge c (B := 12) (by decide) hk (by decide)
      have e1 : f_X8_digest_l48 (n + 1) k a β = f_X8_digest_l48 n (k + 1) (31 * a + (f_X5_processorValue (sb (gmM 0) β) (nI k)).toInt64) β := if_neg c
      have e2 : f_X9_digest_l38 (n + 1) k t = f_X9_digest_l38 n (k + 1) (f_X9_mix t (f_X9_tellProcessor t (nI k))) := if_neg c
      rw [e1, e2, tell_proc hm hkb]
      exact dg_proc h n (k + 1) _ _ (by omega) (hd.mix _)
theorem dg_acc (h : RM τ N d q (sb (gmM 0) β) (δ 1)) : ∀ n k a t, k ≤ 10 → dg δ a t → dg δ (f_X8_digest_l78 n k a β) (f_X9_digest_l61 n k t)
  | 0, _, _, _, _, hd => hd
  | n + 1, k, a, t, hk, hd => by
    have hm : RM τ N d q (sb (gmM 0) β) (t 1) := by rw [hd.row (by decide)]; exact h
    by_cases c : 10 ≤ nI k
    · have e1 : f_X8_digest_l78 (n + 1) k a β = a := if_pos c
      have e2 : f_X9_digest_l61 (n + 1) k t = t := if_pos c
      rw [e1, e2]; exact hd
    · have hkb := kb_ge c (B := 10) (by decide) hk (by decide)
      have e1 : f_X8_digest_l78 (n + 1) k a β = f_X8_digest_l78 n (k + 1) (31 * a + (f_X5_accountValue (sb (gmM 0) β) (nI k)).toInt64) β := if_neg c
      have e2 : f_X9_digest_l61 (n + 1) k t = f_X9_digest_l61 n (k + 1) (f_X9_mix t (t 1 (83 + k))) := if_neg c
      rw [e1, e2, tell_acc hm hkb]
      exact dg_acc h n (k + 1) _ _ (by omega) (hd.mix _)
theorem dg_src {i : Nat} (h : RM τ N d q (sb (gmM 0) β) (δ 1)) (hi : i < N) : ∀ n k a t, k ≤ 17 → dg δ a t → dg δ (f_X8_addSourceTo_l6 (nI i) n k a β) (f_X9_mixSource_l2 (nI i) n k t)
  | 0, _, _, _, _, hd => hd
  | n + 1, k, a, t, hk, hd => by
    have hm : RM τ N d q (sb (gmM 0) β) (t 1) := by rw [hd.row (by decide)]; exact h
    by_cases c : 17 ≤ nI k
    · have e1 : f_X8_addSourceTo_l6 (nI i) (n + 1) k a β = a := if_pos c
      have e2 : f_X9_mixSource_l2 (nI i) (n + 1) k t = t := if_pos c
      rw [e1, e2]; exact hd
    · have hkb := kb_ge c (B := 17) (by decide) hk (by decide)
      have e1 : f_X8_addSourceTo_l6 (nI i) (n + 1) k a β = f_X8_addSourceTo_l6 (nI i) n (k + 1) (31 * a + (f_X5_sourceValue (sb (gmM 0) β) (nI i) (nI k)).toInt64) β := if_neg c
      have e2 : f_X9_mixSource_l2 (nI i) (n + 1) k t = f_X9_mixSource_l2 (nI i) n (k + 1) (f_X9_mix t (f_X9_tellSource t (nI i) (nI k))) := if_neg c
      rw [e1, e2, tell_src hm hi hkb]
      exact dg_src h hi n (k + 1) _ _ (by omega) (hd.mix _)
theorem four_nI : ∀ c, c < 3 → 4 * nI c = nI (4 * c) := by decide +kernel
theorem three_nI : ∀ c, c < 21 → 3 * nI c = nI (3 * c) := by decide +kernel
theorem quo_nI : ∀ j, j < 2 → ∀ w, w < 4 → nI (4 * j + w) / 4 = nI j ∧ nI (4 * j + w) - nI (4 * j + w) / 4 * 4 = nI w := by decide +kernel
theorem dg_sec4 {i j c : Nat} (h : RM τ N d q (sb (gmM 0) β) (δ 1)) (hi : i < N) (en : sb (gmM 0) β (9 + i) 18 = nI c) (hc : c ≤ 2) (hj : j < c) : ∀ n k a t m, k ≤ 4 → 4 < k + n → dg δ a t → ∃ t', dg δ (f_X8_addSourceTo_l58 (nI i) j n k a β) t' ∧ f_X9_mixSource_l26 (nI i) (m + (4 - k)) (4 * j + k) t = f_X9_mixSource_l26 (nI i) m (4 * j + 4) t'
  | 0, k, _, _, _, hk, hn, _ => absurd hn (by omega)
  | n + 1, k, a, t, m, hk, hn, hd => by
    have hm : RM τ N d q (sb (gmM 0) β) (t 1) := by rw [hd.row (by decide)]; exact h
    by_cases c4 : 4 ≤ nI k
    · have e1 : f_X8_addSourceTo_l58 (nI i) j (n + 1) k a β = a := if_pos c4
      rw [show (4 : Int32) = nI 4 from rfl, nI_leI (by decide) (by omega)] at c4
      have k4 : k = 4 := by omega
      subst k4
      rw [e1]
      exact ⟨t, hd, rfl⟩
    · have e1 : f_X8_addSourceTo_l58 (nI i) j (n + 1) k a β = f_X8_addSourceTo_l58 (nI i) j n (k + 1) (31 * a + (f_X5_sectionValue (sb (gmM 0) β) (nI i) (nI j) (nI k)).toInt64) β := if_neg c4
      have hkb := kb_ge c4 (B := 4) (by decide) hk (by decide)
      obtain ⟨q1, q2⟩ := quo_nI j (by omega) k hkb
      have cc : ¬ 4 * f_X9_of t (nI i) 7 ≤ nI (4 * j + k) := by
        rw [cnt_eq hm hi, en, four_nI c (by omega), nI_leI (by omega) (by omega)]
        omega
      have e2 : f_X9_mixSource_l26 (nI i) (m + (4 - (k + 1)) + 1) (4 * j + k) t = f_X9_mixSource_l26 (nI i) (m + (4 - (k + 1))) (4 * j + k + 1) (f_X9_mix t (f_X9_tellSection t (nI i) (nI (4 * j + k) / 4) (nI (4 * j + k) - nI (4 * j + k) / 4 * 4))) := if_neg cc
      rw [q2, q1, ← tell_sec hm hi en hc hj hkb] at e2
      rw [show m + (4 - k) = m + (4 - (k + 1)) + 1 by omega, e1, e2]
      exact dg_sec4 h hi en hc hj n (k + 1) _ _ m (by omega) (by omega) (hd.mix _)
theorem dg_secs {i c : Nat} (h : RM τ N d q (sb (gmM 0) β) (δ 1)) (hi : i < N) (en : sb (gmM 0) β (9 + i) 18 = nI c) (hc : c ≤ 2) : ∀ n j a t m, j ≤ c → c < j + n → 4 * (c - j) < m → dg δ a t → dg δ (f_X8_addSourceTo_l42 (nI i) n j a β) (f_X9_mixSource_l26 (nI i) m (4 * j) t)
  | 0, j, _, _, _, hj, hn, _, _ => absurd hn (by omega)
  | n + 1, j, a, t, m, hj, hn, hmm, hd => by
    have hm : RM τ N d q (sb (gmM 0) β) (t 1) := by rw [hd.row (by decide)]; exact h
    have es : f_X5_sectionsOf (sb (gmM 0) β) (nI i) = nI c := by
      unfold f_X5_sectionsOf
      rw [find_some h hi]
      exact en
    by_cases cj : j = c
    · subst cj
      have e1 : f_X8_addSourceTo_l42 (nI i) (n + 1) j a β = a := if_pos (by rw [es, nI_leI (by omega) (by omega)]; omega)
      obtain ⟨m', rfl⟩ : ∃ m', m = m' + 1 := ⟨m - 1, by omega⟩
      have e2 : f_X9_mixSource_l26 (nI i) (m' + 1) (4 * j) t = t := if_pos (by rw [cnt_eq hm hi, en, four_nI j (by omega), nI_leI (by omega) (by omega)]; omega)
      rw [e1, e2]
      exact hd
    · have e1 : f_X8_addSourceTo_l42 (nI i) (n + 1) j a β = f_X8_addSourceTo_l42 (nI i) n (j + 1) (f_X8_addSourceTo_l58 (nI i) j fu5 0 a β) β := if_neg (by rw [es, nI_leI (by omega) (by omega)]; omega)
      obtain ⟨m', rfl⟩ : ∃ m', m = m' + 4 := ⟨m - 4, by omega⟩
      obtain ⟨t', h1, h2⟩ := dg_sec4 h hi en hc (j := j) (by omega) fu5 0 a t m' (by omega) (by unfold fu5; omega) hd
      have h2' : f_X9_mixSource_l26 (nI i) (m' + 4) (4 * j) t = f_X9_mixSource_l26 (nI i) m' (4 * (j + 1)) t' := h2
      rw [e1, h2']
      exact dg_secs h hi en hc n (j + 1) _ _ m' (by omega) (by omega) (by omega) h1
theorem dg_srcs (h : RM τ N d q (sb (gmM 0) β) (δ 1)) : ∀ n k a t, k ≤ N → dg δ a t → dg δ (f_X8_digest_l108 n k a β) (f_X9_digest_l88 n k t)
  | 0, _, _, _, _, hd => hd
  | n + 1, k, a, t, hk, hd => by
    have hN := h.N12
    have e4 : β 6 4 = nI N := h.mN
    have e8 : t 1 8 = nI N := by rw [hd.row (by decide)]; exact h.2.1.1
    by_cases c : nI N ≤ nI k
    · have e1 : f_X8_digest_l108 (n + 1) k a β = a := if_pos (by rw [e4]; exact c)
      have e2 : f_X9_digest_l88 (n + 1) k t = t := if_pos (by rw [e8]; exact c)
      rw [e1, e2]; exact hd
    · have e1 : f_X8_digest_l108 (n + 1) k a β = f_X8_digest_l108 n (k + 1) (f_X8_addSourceTo β a (nI k)) β := if_neg (by rw [e4]; exact c)
      have e2 : f_X9_digest_l88 (n + 1) k t = f_X9_digest_l88 n (k + 1) (f_X9_mixSource t (nI k)) := if_neg (by rw [e8]; exact c)
      rw [nI_leI (by omega) (by omega)] at c
      obtain ⟨cn, hcn, en⟩ := cnt_le h (i := k) (by omega)
      rw [e1, e2]
      refine dg_srcs h n (k + 1) _ _ (by omega) ?_
      exact dg_secs h (by omega) en hcn fu3 0 _ _ fu9 (by omega) (by unfold fu3; omega) (by unfold fu9; omega) (dg_src h (by omega) fu18 0 a t (by omega) hd)
theorem dg_stk (h : RM τ N d q (sb (gmM 0) β) (δ 1)) : ∀ n k a t, k ≤ d → dg δ a t → dg δ (f_X8_digest_l134 n k a β) (f_X9_digest_l112 n k t)
  | 0, _, _, _, _, hd => hd
  | n + 1, k, a, t, hk, hd => by
    have hdd := h.d12
    have hm : RM τ N d q (sb (gmM 0) β) (t 1) := by rw [hd.row (by decide)]; exact h
    have e6 : β 6 6 = nI d := h.md
    have e9 : t 1 9 = nI d := by rw [hd.row (by decide)]; exact h.2.1.2.1
    by_cases c : nI d ≤ nI k
    · have e1 : f_X8_digest_l134 (n + 1) k a β = a := if_pos (by rw [e6]; exact c)
      have e2 : f_X9_digest_l112 (n + 1) k t = t := if_pos (by rw [e9]; exact c)
      rw [e1, e2]; exact hd
    · have e1 : f_X8_digest_l134 (n + 1) k a β = f_X8_digest_l134 n (k + 1) (31 * a + (f_X5_stackedAt (sb (gmM 0) β) (nI k)).toInt64) β := if_neg (by rw [e6]; exact c)
      have e2 : f_X9_digest_l112 (n + 1) k t = f_X9_digest_l112 n (k + 1) (f_X9_mix t (t 1 (10 + k))) := if_neg (by rw [e9]; exact c)
      rw [nI_leI (by omega) (by omega)] at c
      rw [e1, e2, stk_at hm (by omega)]
      exact dg_stk h n (k + 1) _ _ (by omega) (hd.mix _)
theorem dg_log3 {j e : Nat} (h : RM τ N d q (sb (gmM 0) β) (δ 1)) (e22 : δ 1 22 = nI e) (he : e ≤ 20) (hj : j < e) : ∀ n k a t m, k ≤ 3 → 3 < k + n → dg δ a t → ∃ t', dg δ (f_X8_digest_l186 j n k a β) t' ∧ f_X9_digest_l144 (m + (3 - k)) (3 * j + k) t = f_X9_digest_l144 m (3 * j + 3) t'
  | 0, k, _, _, _, hk, hn, _ => absurd hn (by omega)
  | n + 1, k, a, t, m, hk, hn, hd => by
    have hm : RM τ N d q (sb (gmM 0) β) (t 1) := by rw [hd.row (by decide)]; exact h
    have et : t 1 22 = nI e := by rw [hd.row (by decide)]; exact e22
    by_cases c3 : 3 ≤ nI k
    · have e1 : f_X8_digest_l186 j (n + 1) k a β = a := if_pos c3
      rw [show (3 : Int32) = nI 3 from rfl, nI_leI (by decide) (by omega)] at c3
      have k3 : k = 3 := by omega
      subst k3
      rw [e1]
      exact ⟨t, hd, rfl⟩
    · have e1 : f_X8_digest_l186 j (n + 1) k a β = f_X8_digest_l186 j n (k + 1) (31 * a + (f_X3_value (sb (gmM 0) β) (nI j) (nI k)).toInt64) β := if_neg c3
      have hkb := kb_ge c3 (B := 3) (by decide) hk (by decide)
      have cc : ¬ 3 * t 1 22 ≤ nI (3 * j + k) := by
        rw [et, three_nI e (by omega), nI_leI (by omega) (by omega)]
        omega
      have e2 : f_X9_digest_l144 (m + (3 - (k + 1)) + 1) (3 * j + k) t = f_X9_digest_l144 (m + (3 - (k + 1))) (3 * j + k + 1) (f_X9_mix t (t 1 (23 + (3 * j + k)))) := if_neg cc
      have ev := tell_log hm (k := j) (w := k) (by omega) hkb
      rw [et, if_pos (by rw [nI_ltI (by omega) (by omega)]; exact hj), show 23 + 3 * j + k = 23 + (3 * j + k) by omega] at ev
      rw [show m + (3 - k) = m + (3 - (k + 1)) + 1 by omega, e1, e2, ev]
      exact dg_log3 h e22 he hj n (k + 1) _ _ m (by omega) (by omega) (hd.mix _)
theorem dg_logs {e : Nat} (h : RM τ N d q (sb (gmM 0) β) (δ 1)) (e22 : δ 1 22 = nI e) (he : e ≤ 20) : ∀ n j a t m, j ≤ e → e < j + n → 3 * (e - j) < m → dg δ a t → dg δ (f_X8_digest_l169 n j a β) (f_X9_digest_l144 m (3 * j) t)
  | 0, j, _, _, _, hj, hn, _, _ => absurd hn (by omega)
  | n + 1, j, a, t, m, hj, hn, hmm, hd => by
    have e4 : β 11 4 = nI e := h.cnt.symm.trans e22
    have et : t 1 22 = nI e := by rw [hd.row (by decide)]; exact e22
    by_cases cj : j = e
    · subst cj
      have e1 : f_X8_digest_l169 (n + 1) j a β = a := if_pos (by rw [e4, nI_leI (by omega) (by omega)]; omega)
      obtain ⟨m', rfl⟩ : ∃ m', m = m' + 1 := ⟨m - 1, by omega⟩
      have e2 : f_X9_digest_l144 (m' + 1) (3 * j) t = t := if_pos (by rw [et, three_nI j (by omega), nI_leI (by omega) (by omega)]; omega)
      rw [e1, e2]
      exact hd
    · have e1 : f_X8_digest_l169 (n + 1) j a β = f_X8_digest_l169 n (j + 1) (f_X8_digest_l186 j fu4 0 a β) β := if_neg (by rw [e4, nI_leI (by omega) (by omega)]; omega)
      obtain ⟨m', rfl⟩ : ∃ m', m = m' + 3 := ⟨m - 3, by omega⟩
      obtain ⟨t', h1, h2⟩ := dg_log3 h e22 he (j := j) (by omega) fu4 0 a t m' (by omega) (by unfold fu4; omega) hd
      have h2' : f_X9_digest_l144 (m' + 3) (3 * j) t = f_X9_digest_l144 m' (3 * (j + 1)) t' := h2
      rw [e1, h2']
      exact dg_logs h e22 he n (j + 1) _ _ m' (by omega) (by omega) (by omega) h1
end Dg
theorem RBg.dg {τ : Int} {β δ t : St} {a : Int64} (h : RBg τ β δ) (hd : dg (up2 δ 0 4 0) a t) : RBg τ β t ∧ t 0 4 = 0 := by
  have h' := h.refs (v := 0)
  obtain ⟨m1, ⟨c, nx, hH⟩, m3, m4⟩ := h'
  refine ⟨⟨?_, ⟨c, nx, hH.congr (Int.le_refl _) rfl (fun _ _ _ _ _ _ _ => rfl) (hd.1 0 3 (by omega)) (hd.row (by decide))⟩, m3.congr rfl rfl rfl (hd.1 0 6 (by omega)) (hd.row (by decide)) (hd.row (by decide)), ?_⟩, ?_⟩
  · rw [hd.row (by decide)]; exact m1
  · rw [hd.1 0 7 (by omega)]; exact m4
  · rw [hd.1 0 4 (by omega), up2_s]
def dgM (t : St) : St := f_X9_mix (f_X9_mix (f_X9_mix t (t 0 3)) ((f_X9_mix t (t 0 3)) 0 6)) ((f_X9_mix (f_X9_mix t (t 0 3)) ((f_X9_mix t (t 0 3)) 0 6)) 0 7)
theorem dg_start {δ t : St} {x y z : Int32} (h0 : dg δ 43211 t) (v1 : t 0 3 = x) (v2 : (f_X9_mix t (t 0 3)) 0 6 = y) (v3 : (f_X9_mix (f_X9_mix t (t 0 3)) ((f_X9_mix t (t 0 3)) 0 6)) 0 7 = z) : dg δ (31 * (31 * (31 * 43211 + x.toInt64) + y.toInt64) + z.toInt64) (dgM t) := by
  subst v1 v2 v3
  exact ((h0.mix _).mix _).mix _
def dgT (s : St) : St := f_X9_digest_l144 fu61 0 (f_X9_digest_l112 fu13 0 (f_X9_digest_l88 fu13 0 (f_X9_digest_l61 fu11 0 (f_X9_digest_l38 fu13 0 s))))
def dgC (β : St) (a : Int64) : Int64 := f_X8_digest_l169 fu21 0 (f_X8_digest_l134 fu13 0 (f_X8_digest_l108 fu13 0 (f_X8_digest_l78 fu11 0 (f_X8_digest_l48 fu13 0 a β) β) β) β) β
theorem dig_9 (δ : St) : f_X9_digest δ = (mk64 (dgT (dgM (uph (up2 δ 0 4 0) 43211)) 0 11) (dgT (dgM (uph (up2 δ 0 4 0) 43211)) 0 12), dgT (dgM (uph (up2 δ 0 4 0) 43211))) := by
  unfold f_X9_digest dgT dgM
  dsimp only
theorem dig_8 (β : St) : f_X8_digest β = dgC β (31 * (31 * (31 * 43211 + (β 1 2).toInt64) + (β 3 1).toInt64) + (β 0 4).toInt64) := by
  unfold f_X8_digest dgC
  dsimp only
theorem dg_T {τ : Int} {N d q e : Nat} {β δ t : St} {a : Int64} (hm : RM τ N d q (sb (gmM 0) β) (δ 1)) (e22 : δ 1 22 = nI e) (he : e ≤ 20) (hd : dg δ a t) : dg δ (dgC β a) (dgT t) :=
  dg_logs hm e22 he fu21 0 _ _ fu61 (by omega) (by unfold fu21; omega) (by unfold fu61; omega) (dg_stk hm fu13 0 _ _ (by omega) (dg_srcs hm fu13 0 _ _ (by omega) (dg_acc hm fu11 0 _ _ (by omega) (dg_proc hm fu13 0 _ _ (by omega) hd))))
theorem dg_fin {τ : Int} {β δ U : St} {a : Int64} (hh : RBg τ β δ) (s3 : dg (up2 δ 0 4 0) a (dgM U)) : RBg τ β (dgT (dgM U)) ∧ dgT (dgM U) 0 4 = 0 ∧ dgC β a = mk64 (dgT (dgM U) 0 11) (dgT (dgM U) 0 12) := by
  obtain ⟨N, d, q, hm, -⟩ := (hh.refs (v := 0)).1
  obtain ⟨⟨e, he, e22⟩, -⟩ := hm.rl
  have s4 := dg_T hm e22 he s3
  generalize dgT (dgM U) = T at s4 ⊢
  obtain ⟨g1, g2⟩ := hh.dg s4
  exact ⟨g1, g2, s4.2.symm⟩
theorem dg_0 {τ : Int} {β δ : St} (h : RBg τ β δ) : dg (up2 δ 0 4 0) (31 * (31 * (31 * 43211 + (β 1 2).toInt64) + (β 3 1).toInt64) + (β 0 4).toInt64) (dgM (uph (up2 δ 0 4 0) 43211)) := by
  have s0 : dg (up2 δ 0 4 0) 43211 (uph (up2 δ 0 4 0) 43211) := ⟨fun x y c => uph_o c, uph_s⟩
  obtain ⟨-, ⟨c, nx, -, -, b12, d03, -, -⟩, ⟨⟨L, -, x1, x2⟩, -, -⟩, w7⟩ := h
  have s1 := s0.mix ((uph (up2 δ 0 4 0) 43211) 0 3)
  have s2 := s1.mix ((f_X9_mix (uph (up2 δ 0 4 0) 43211) ((uph (up2 δ 0 4 0) 43211) 0 3)) 0 6)
  exact dg_start (x := β 1 2) (y := β 3 1) (z := β 0 4) s0 (by rw [s0.1 0 3 (by omega), up2_j (by decide), d03, b12]) (by rw [s1.1 0 6 (by omega), up2_j (by decide), x2, x1]) (by rw [s2.1 0 7 (by omega), up2_j (by decide), w7])
theorem a_digest {τ : Int} {β δ : St} (h : RBg τ β δ) : ∃ T, f_X9_digest δ = (f_X8_digest β, T) ∧ RBg τ β T ∧ T 0 4 = 0 := by
  obtain ⟨g1, g2, g3⟩ := dg_fin h (dg_0 h)
  have e := dig_9 δ
  have e8 := dig_8 β
  generalize dgT (dgM (uph (up2 δ 0 4 0) 43211)) = T at e g1 g2 g3
  refine ⟨T, ?_, g1, g2⟩
  rw [e, e8, g3]
