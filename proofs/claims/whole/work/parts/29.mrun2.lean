theorem saves_o {σ : St} {k j : Nat} (h : k ≠ 2 ∧ ¬ (k = 0 ∧ j = 3)) : f_X9_saves σ k j = σ k j := by
  by_cases hs : σ 0 3 = 4
  · rw [saves_b hs]
    exact (if_neg h.2).trans ((if_neg (by omega)).trans ((if_neg (by omega)).trans (if_neg h.2)))
  · rw [saves_a hs]
    exact (if_neg h.2).trans (if_neg (by omega))
/-- the text from here is commands to its end -/
def sc : Nat → St → Prop
  | 0, t => t 0 6 ≤ t 0 8
  | n + 1, t => t 0 6 ≤ t 0 8 ∨ (¬ (f_X9_reads t).1 = 0 ∧ sc n (f_X9_skips (f_X9_reads t).2).2)
theorem sc_ag : ∀ n t u, ag t u → sc n t → sc n u
  | 0, t, u, h, s => by
    unfold sc at s ⊢
    rw [← h.2.1, ← h.2.2]; exact s
  | n + 1, t, u, h, s => by
    unfold sc at s ⊢
    rw [← h.2.1, ← h.2.2, ← (ag_reads h).1]
    rcases s with s | s
    · exact Or.inl s
    · exact Or.inr ⟨s.1, sc_ag n _ _ (ag_skips (ag_reads h).2).2 s.2⟩
def st0 (u : St) : Prop := ∃ w : St, w 0 8 = 0 ∧ (f_X9_skips w).2 = u ∧ u 4 = w 4 ∧ u 0 6 = w 0 6
theorem st0.mk {w s : St} {v : Int32} (I : InvD (up2 w 0 8 0)) (e : (f_X9_skips (up2 w 0 8 0)).2 = s) : st0 s := ⟨_, up2_s, e, by have h := (nx_skips I).1; rw [e] at h; exact ⟨h.1, h.2.1⟩⟩
/-- a turn of the first reading -/
theorem rd_turn {t s u : St} {r : Int32} (I : InvD t) (c : ¬ t 0 6 ≤ t 0 8) (er : (f_X9_reads t).1 = r) (h : ¬ r = 0) (es : (f_X9_reads t).2 = s) (Is : InvD s) (eu : (f_X9_skips s).2 = u) : (∀ n, ms t (n + 1) → ms u n) ∧ u 4 = t 4 ∧ u 0 6 = t 0 6 ∧ ∀ n, sc n u → sc (n + 1) t := by
  have h1 := nx_reads I (by rw [er]; exact h)
  have h2 := (nx_skips Is).1
  rw [es] at h1
  rw [eu] at h2
  have h3 := h2.2.2
  have h4 := h1.2
  have h5 : u 0 6 = t 0 6 := h2.2.1.trans h1.1.2.1
  rw [i32_le] at c
  refine ⟨fun n hm => ?_, h2.1.trans h1.1.1, h5, fun n hs => Or.inr ⟨by rw [er]; exact h, by rw [es, eu]; exact hs⟩⟩
  unfold ms at hm ⊢
  rw [h5]
  omega
/-- where the second reading begins -/
theorem rd_again {a t s u w : St} (I : InvD a) (hz : st0 a) (hA : t 4 = a 4 ∧ t 0 6 = a 0 6) (hS : ∀ n, sc n t → ∃ m, sc m a) (c : t 0 6 ≤ t 0 8) (es : f_X9_saves t = s) (eu : (f_X9_skips (up2 (up2 s 0 7 0) 0 8 0)).2 = u) : ∃ m, sc m u := by
  obtain ⟨m, hm⟩ := hS 0 c
  obtain ⟨w, h8, ew, h4, h6⟩ := hz
  refine ⟨m, sc_ag m a u ?_ hm⟩
  rw [← ew, ← eu]
  refine (ag_skips ⟨?_, ?_, ?_⟩).2
  · rw [up2_rowk (by decide), up2_rowk (by decide), ← h4, ← hA.1, ← es]
    funext j
    exact (saves_o (by omega)).symm
  · rw [up2_j (by decide), up2_j (by decide), ← es, saves_o (by decide), hA.2, h6]
  · rw [up2_s, h8]
theorem ag_7 {s : St} {v : Int32} : ag s (up2 s 0 7 v) := ⟨by rw [up2_rowk (by decide)], by rw [up2_j (by decide)], by rw [up2_j (by decide)]⟩
theorem ag_does {s : St} {v : Int32} : ag s (f_X9_does (up2 s 0 7 v)).2 := by
  have h := fr_does (σ := up2 s 0 7 v)
  refine ag_7.trans ⟨(h 4 (by decide)).symm, ?_, ?_⟩
  · rw [h 0 (by decide)]
  · rw [h 0 (by decide)]
theorem ag_if {P : Prop} [Decidable P] {s X Y u : St} (e : (if P then X else Y) = u) (hX : ag s X) (hY : ag s Y) : ag s u := by
  subst e
  split
  · exact hX
  · exact hY
theorem cm_turn {t s u w : St} (I : InvD t) (Is : InvD s) (Iu : InvD u) (c : ¬ t 0 6 ≤ t 0 8) (hC : ∃ m, sc m t) (es : (f_X9_reads t).2 = s) (hu : ag s u) (ew : (f_X9_skips u).2 = w) : (∀ n, ms t (n + 1) → ms w n) ∧ ∃ m, sc m w := by
  obtain ⟨m, hm⟩ := hC
  have hm2 : ∃ m', ¬ (f_X9_reads t).1 = 0 ∧ sc m' (f_X9_skips (f_X9_reads t).2).2 := by
    cases m with
    | zero => exact absurd hm c
    | succ m' => exact ⟨m', hm.resolve_left c⟩
  obtain ⟨m', h, hs⟩ := hm2
  rw [es] at hs
  have h1 := rd_turn I c rfl h es Is rfl
  have h2 := (ag_skips hu).2
  rw [ew] at h2
  refine ⟨fun n hn => ?_, m', sc_ag _ _ _ h2 hs⟩
  have h3 := h1.1 n hn
  unfold ms at h3 ⊢
  rw [← h2.2.1, ← h2.2.2]
  exact h3
theorem of_c {σ τ : St} {a b : Int32} (h : σ 1 = τ 1) : f_X9_of σ a b = f_X9_of τ a b := by
  unfold f_X9_of
  dsimp only
  rw [h]
theorem isSource_c {σ τ : St} {a : Int32} (h : σ 1 = τ 1) : f_X9_isSource σ a = f_X9_isSource τ a := by
  unfold f_X9_isSource
  rw [h]
theorem placeOf_l {a : Int32} : ∀ n k (σ τ : St), σ 1 = τ 1 → f_X9_placeOf_l2 a n k σ = f_X9_placeOf_l2 a n k τ
  | 0, _, _, _, _ => rfl
  | n + 1, k, σ, τ, h => by
    unfold f_X9_placeOf_l2
    rw [h, placeOf_l n _ σ τ h]
theorem placeOf_c {σ τ : St} {a : Int32} (h : σ 1 = τ 1) : f_X9_placeOf σ a = f_X9_placeOf τ a := placeOf_l _ _ _ _ h
theorem bc_c {σ τ : St} (h1 : σ 1 = τ 1) (h5 : σ 5 = τ 5) (h9 : σ 0 9 = τ 0 9) : f_X9_badCommand σ = f_X9_badCommand τ := by
  unfold f_X9_badCommand f_X9_badSource f_X9_badSection f_X9_badTimer f_X9_badRaise f_X9_badLine
  dsimp only
  simp only [h1, h5, h9, of_c h1, isSource_c h1, placeOf_c h1]

abbrev rmX9_runCommands : Room := { frames := 10, cells := 0, slots := 0, locals := 223 }
def f_X9_runCommands_l70 : Nat → Int32 → St → Int32 × St
  | 0, a70_2, t70 => (a70_2, t70)
  | n70 + 1, a70_2, t70 => (if (t70 0 6) ≤ (t70 0 8) then (a70_2, t70) else (if (t70 0 7) = 0 then (let r89 := (f_X9_reads t70).1; let s89 := (f_X9_reads t70).2; (let r95 := f_X9_badCommand s89; (let w117_2 : Int32 := (if r95 = 0 then (let r109 := (f_X9_does (up2 s89 0 7 r95)).1; let s109 := (f_X9_does (up2 s89 0 7 r95)).2; a70_2 + 1) else a70_2); let s117 : St := (if r95 = 0 then (let r109 := (f_X9_does (up2 s89 0 7 r95)).1; let s109 := (f_X9_does (up2 s89 0 7 r95)).2; s109) else up2 s89 0 7 r95); (let r118 := (f_X9_skips s117).1; let s118 := (f_X9_skips s117).2; (f_X9_runCommands_l70 n70 w117_2 s118))))) else (a70_2, t70)))
def f_X9_runCommands_l15 : Nat → St → Int32 × St
  | 0, t15 => (0, t15)
  | n15 + 1, t15 => (if (t15 0 6) ≤ (t15 0 8) then (let s50 := f_X9_saves t15; (let r66 := (f_X9_skips (up2 (up2 s50 0 7 0) 0 8 0)).1; let s66 := (f_X9_skips (up2 (up2 s50 0 7 0) 0 8 0)).2; (let w70_2 := (f_X9_runCommands_l70 fu151 0 s66).1; let u70 := (f_X9_runCommands_l70 fu151 0 s66).2; (w70_2, u70)))) else (let r27 := (f_X9_reads t15).1; let s27 := (f_X9_reads t15).2; (if r27 = 0 then ((-10) - (s27 0 8), s27) else (let r42 := (f_X9_skips s27).1; let s42 := (f_X9_skips s27).2; (f_X9_runCommands_l15 n15 s42)))))
def f_X9_runCommands (σ : St) : Int32 × St := (let r11 := (f_X9_skips (up2 (up2 σ 0 4 0) 0 8 0)).1; let s11 := (f_X9_skips (up2 (up2 σ 0 4 0) 0 8 0)).2; (f_X9_runCommands_l15 fu151 s11))
theorem v_X9_runCommands : cvV yX9_runCommands "NestedBellsModel" cX9_runCommands 5 (some (.int)) 0 := ⟨q_6_38, q_6_39, q_1_10, q_6_40, rfl, by decide +kernel, by decide +kernel, by decide +kernel⟩
set_option maxHeartbeats 4000000 in
set_option maxRecDepth 100000 in
theorem L_X9_runCommands_70 {l : Launch} {D : va_G} {T : Nat → ClassId} {g ad : Nat → Nat} {p : Program} {e : Env} {s : State} {m : MethodId} {below : List Frame} {meth : Method} {c : Code} {A : Nat → Prop} {Qw : State → Prop} (Z : en p m c cX9_runCommands 5 s [.ref (ad 0)].toArray "NestedBellsModel" D T g A) : ∀ (n70 : Nat) (a70_2 : Int32) (t70 : St) (H : Heap) (locs : List Loc) (ls : Array Slot), ms t70 n70 → InvD t70 → (∃ q, sc q t70) → wo D A s.heap 6 ad (cE (dE T ad) t70) H locs → lv_has ls 5 [(2, .int a70_2), (0, .ref (ad 0))] → (∀ (w70_2 : Int32) (u70 : St) (H : Heap) (locs : List Loc) (ls : Array Slot), (f_X9_runCommands_l70 n70 a70_2 t70).1 = w70_2 → (f_X9_runCommands_l70 n70 a70_2 t70).2 = u70 → InvD u70 → (∃ q, sc q u70) → wo D A s.heap 6 ad (cE (dE T ad) u70) H locs → lv_has ls 5 [(2, .int w70_2)] → W p l e rmX9_runCommands s m [.ref (ad 0)].toArray below meth c H locs 0 0 Qw (F0 m 125 ls [])) → W p l e rmX9_runCommands s m [.ref (ad 0)].toArray below meth c H locs 0 0 Qw (F0 m 70 ls []) := by
  have hx := Z.1.1
  have hb := Z.1.2.1
  intro n70
  induction n70 with
  | zero =>
    intro a70_2 t70 H locs ls hn70 It70 hC70 hw hl kk
    exact absurd hn70.2 (by omega)
  | succ n70 ih =>
    intro a70_2 t70 H locs ls hn70 It70 hC70 hw hl kk
    refine lv_aload_n hx hb dX9_runCommands_70 rfl (lv_at hl 1 rfl) ?_
    refine gD (j := 8) (v := .int (t70 0 8)) Z hw  (by decide) q_4_220 rfl rfl dX9_runCommands_71 ?_
    refine lv_aload_n hx hb dX9_runCommands_74 rfl (lv_at hl 1 rfl) ?_
    refine gD (j := 6) (v := .int (t70 0 6)) Z hw  (by decide) q_4_218 rfl rfl dX9_runCommands_75 ?_
    refine lv_icmp_ge (tgt := 125) hx hb dX9_runCommands_78 (by decide) (fun c78 => ?_) (fun c78 => ?_)
    · exact kk _ _ H locs ls (Eq.symm (congrArg (fun z : Int32 × St => z.1) (show (a70_2, t70) = _ from (lf_t c78 rfl)))) (Eq.symm (congrArg (fun z : Int32 × St => z.2) (show (a70_2, t70) = _ from (lf_t c78 rfl)))) It70 hC70 hw (lv_sub hl [0] rfl)
    · refine lv_aload_n hx hb dX9_runCommands_81 rfl (lv_at hl 1 rfl) ?_
      refine gD (j := 7) (v := .int (t70 0 7)) Z hw  (by decide) q_4_219 rfl rfl dX9_runCommands_82 ?_
      refine lv_if_ne (tgt := 125) hx hb dX9_runCommands_85 (by decide) (fun c85 => ?_) (fun c85 => ?_)
      · exact kk _ _ H locs ls (Eq.symm (congrArg (fun z : Int32 × St => z.1) (show (a70_2, t70) = _ from (lf_f c78 (lf_f c85 rfl))))) (Eq.symm (congrArg (fun z : Int32 × St => z.2) (show (a70_2, t70) = _ from (lf_f c78 (lf_f c85 rfl))))) It70 hC70 hw (lv_sub hl [0] rfl)
      · refine lv_aload_n hx hb dX9_runCommands_88 rfl (lv_at hl 1 rfl) ?_
        refine bk_i (rnV (rest := []) Z hw (k_X9_reads  It70) v_X9_reads q_6_49 (0) (by decide) rfl rfl rfl rfl hl.1 rfl rfl (Nat.le_of_ble_eq_true rfl) ⟨(Nat.le_of_ble_eq_true rfl), (Nat.le_of_ble_eq_true rfl)⟩ ⟨(Nat.le_of_ble_eq_true rfl), (Nat.le_of_ble_eq_true rfl)⟩ dX9_runCommands_89) hw Z (fun r89 s89 H locs hp hw => ?_)
        obtain ⟨er89, es89, I89⟩ := hp
        refine lv_istore_n (lv' := [(3, .int r89), (2, .int a70_2), (0, .ref (ad 0))]) hx hb dX9_runCommands_92 rfl hl (by decide) rfl (fun ls hl => ?_)
        refine lv_aload_n hx hb dX9_runCommands_93 rfl (lv_at hl 2 rfl) ?_
        refine lv_aload_n hx hb dX9_runCommands_94 rfl (lv_at hl 2 rfl) ?_
        refine bk_ip (rnV (rest := [.ref (ad 0)]) Z hw (k_X9_badCommand  I89) v_X9_badCommand q_6_76 (0) (by decide) rfl rfl rfl rfl hl.1 rfl rfl (Nat.le_of_ble_eq_true rfl) ⟨(Nat.le_of_ble_eq_true rfl), (Nat.le_of_ble_eq_true rfl)⟩ ⟨(Nat.le_of_ble_eq_true rfl), (Nat.le_of_ble_eq_true rfl)⟩ dX9_runCommands_95) hw Z (fun r95 er95 H locs hw => ?_)
        refine pD (j := 7) Z hw  (by decide) q_4_219 rfl rfl rfl rfl dX9_runCommands_98 (fun H locs hw => ?_)
        refine lv_aload_n hx hb dX9_runCommands_101 rfl (lv_at hl 2 rfl) ?_
        refine gD (j := 7) (v := .int r95) Z hw  (by decide) q_4_219 rfl (congrArg (fun x => some (Value.int x)) up2_s) dX9_runCommands_102 ?_
        have hj117 : ∀ (w117_2 : Int32) (s117 : St) (H : Heap) (locs : List Loc) (ls : Array Slot), ((if r95 = 0 then (let r109 := (f_X9_does (up2 s89 0 7 r95)).1; let s109 := (f_X9_does (up2 s89 0 7 r95)).2; a70_2 + 1) else a70_2) : Int32) = w117_2 → ((if r95 = 0 then (let r109 := (f_X9_does (up2 s89 0 7 r95)).1; let s109 := (f_X9_does (up2 s89 0 7 r95)).2; s109) else up2 s89 0 7 r95) : St) = s117 → InvD s117 → wo D A s.heap 6 ad (cE (dE T ad) s117) H locs → lv_has ls 5 [(2, .int w117_2), (0, .ref (ad 0))] → W p l e rmX9_runCommands s m [.ref (ad 0)].toArray below meth c H locs 0 0 Qw (F0 m 117 ls []) := by
          intro w117_2 s117 H locs ls ew117_2 es117 I117 hw hl
          refine lv_aload_n hx hb dX9_runCommands_117 rfl (lv_at hl 1 rfl) ?_
          refine bk_i (rnV (rest := []) Z hw (k_X9_skips  I117) v_X9_skips q_6_41 (0) (by decide) rfl rfl rfl rfl hl.1 rfl rfl (Nat.le_of_ble_eq_true rfl) ⟨(Nat.le_of_ble_eq_true rfl), (Nat.le_of_ble_eq_true rfl)⟩ ⟨(Nat.le_of_ble_eq_true rfl), (Nat.le_of_ble_eq_true rfl)⟩ dX9_runCommands_118) hw Z (fun r118 s118 H locs hp hw => ?_)
          obtain ⟨er118, es118, I118⟩ := hp
          refine lv_istore_n (lv' := [(1, .int r118), (2, .int w117_2), (0, .ref (ad 0))]) hx hb dX9_runCommands_121 rfl hl (by decide) rfl (fun ls hl => ?_)
          refine lv_goto (tgt := 70) hx hb dX9_runCommands_122 (by decide) ?_
          exact ih w117_2 s118 H locs ls ((cm_turn It70 I89 I117 c78 hC70 es89 (ag_if es117 ag_does ag_7) es118).1 _ hn70) I118 (cm_turn It70 I89 I117 c78 hC70 es89 (ag_if es117 ag_does ag_7) es118).2 hw (lv_sub hl [1, 2] rfl) (fun w70_2 u70 H locs ls ew70_2 eu70 I70 hC70y hw hl => kk w70_2 u70 H locs ls (Eq.trans (Eq.symm (congrArg (fun z : Int32 × St => z.1) (show (f_X9_runCommands_l70 n70 w117_2 s118) = _ from (by subst es118 er118 es117 ew117_2 er95 es89 er89; exact (lf_f c78 (lf_t c85 rfl)))))) ew70_2) (Eq.trans (Eq.symm (congrArg (fun z : Int32 × St => z.2) (show (f_X9_runCommands_l70 n70 w117_2 s118) = _ from (by subst es118 er118 es117 ew117_2 er95 es89 er89; exact (lf_f c78 (lf_t c85 rfl)))))) eu70) I70 hC70y hw hl)
        refine lv_if_ne (tgt := 117) hx hb dX9_runCommands_105 (by decide) (fun c105 => ?_) (fun c105 => ?_)
        · exact hj117 _ _ H locs ls (Eq.symm (lf_f c105 rfl)) (Eq.symm (lf_f c105 rfl)) (InvD.up I89 (by decide)) hw (lv_sub hl [1, 2] rfl)
        · refine lv_aload_n hx hb dX9_runCommands_108 rfl (lv_at hl 2 rfl) ?_
          refine bk_i (rnV (rest := []) Z hw (k_X9_does  (InvD.up I89 (by decide)) ((bc_c (by rw [up2_rowk (by decide)]) (by rw [up2_rowk (by decide)]) (by rw [up2_j (by decide)])).trans (er95.trans c105))) v_X9_does q_6_80 (0) (by decide) rfl rfl rfl rfl hl.1 rfl rfl (Nat.le_of_ble_eq_true rfl) ⟨(Nat.le_of_ble_eq_true rfl), (Nat.le_of_ble_eq_true rfl)⟩ ⟨(Nat.le_of_ble_eq_true rfl), (Nat.le_of_ble_eq_true rfl)⟩ dX9_runCommands_109) hw Z (fun r109 s109 H locs hp hw => ?_)
          obtain ⟨er109, es109, I109⟩ := hp
          refine lv_istore (lv' := [(4, .int r109), (3, .int r89), (2, .int a70_2), (0, .ref (ad 0))]) hx hb dX9_runCommands_112 hl (by decide) rfl (fun ls hl => ?_)
          refine lv_iinc (v := a70_2 + 1) (lv' := [(2, .int (a70_2 + 1)), (4, .int r109), (3, .int r89), (0, .ref (ad 0))]) hx hb dX9_runCommands_114 hl (k := 2) rfl rfl (by decide) rfl (fun ls hl => ?_)
          exact hj117 _ _ H locs ls (Eq.symm (by subst es109 er109; exact (lf_t c105 rfl))) (Eq.symm (by subst es109 er109; exact (lf_t c105 rfl))) I109 hw (lv_sub hl [0, 3] rfl)
set_option maxHeartbeats 4000000 in
set_option maxRecDepth 100000 in
theorem L_X9_runCommands_15 {l : Launch} {D : va_G} {T : Nat → ClassId} {g ad : Nat → Nat} {p : Program} {e : Env} {s : State} {m : MethodId} {below : List Frame} {meth : Method} {c : Code} {A : Nat → Prop} {σ : St} {s11 : St} (Z : en p m c cX9_runCommands 5 s [.ref (ad 0)].toArray "NestedBellsModel" D T g A) (hr : meth.sig.returnType = (some (.int))) (hlk : meth.locks = false) (hz : st0 s11) (I11 : InvD s11) : ∀ (n15 : Nat) (t15 : St) (H : Heap) (locs : List Loc) (ls : Array Slot), ms t15 n15 → InvD t15 → (t15 4 = s11 4 ∧ t15 0 6 = s11 0 6) → (∀ n, sc n t15 → ∃ q, sc q s11) → wo D A s.heap 6 ad (cE (dE T ad) t15) H locs → lv_has ls 5 [(0, .ref (ad 0))] → W p l e rmX9_runCommands s m [.ref (ad 0)].toArray below meth c H locs 0 0 (MQ below (qI D 6 ad (dE T ad) (pI (f_X9_runCommands_l15 n15 t15) InvD) A) [.ref (ad 0)].toArray s rmX9_runCommands.cells rmX9_runCommands.slots A) (F0 m 15 ls []) := by
  have hx := Z.1.1
  have hb := Z.1.2.1
  intro n15
  induction n15 with
  | zero =>
    intro t15 H locs ls hn15 It15 hA15 hS15 hw hl
    exact absurd hn15.2 (by omega)
  | succ n15 ih =>
    intro t15 H locs ls hn15 It15 hA15 hS15 hw hl
    refine lv_aload_n hx hb dX9_runCommands_15 rfl (lv_at hl 0 rfl) ?_
    refine gD (j := 8) (v := .int (t15 0 8)) Z hw  (by decide) q_4_220 rfl rfl dX9_runCommands_16 ?_
    refine lv_aload_n hx hb dX9_runCommands_19 rfl (lv_at hl 0 rfl) ?_
    refine gD (j := 6) (v := .int (t15 0 6)) Z hw  (by decide) q_4_218 rfl rfl dX9_runCommands_20 ?_
    refine lv_icmp_ge (tgt := 49) hx hb dX9_runCommands_23 (by decide) (fun c23 => ?_) (fun c23 => ?_)
    · refine lv_aload_n hx hb dX9_runCommands_49 rfl (lv_at hl 0 rfl) ?_
      refine bk_v (rnV (rest := []) Z hw (k_X9_saves  It15) v_X9_saves q_5_32 (0) (by decide) rfl rfl rfl rfl hl.1 rfl rfl (Nat.le_of_ble_eq_true rfl) ⟨(Nat.le_of_ble_eq_true rfl), (Nat.le_of_ble_eq_true rfl)⟩ ⟨(Nat.le_of_ble_eq_true rfl), (Nat.le_of_ble_eq_true rfl)⟩ dX9_runCommands_50) hw Z (fun s50 H locs hp hw => ?_)
      obtain ⟨es50, I50⟩ := hp
      refine lv_aload_n hx hb dX9_runCommands_53 rfl (lv_at hl 0 rfl) ?_
      refine lv_iconst (v := 0) hx hb dX9_runCommands_54 (by decide +kernel) ?_
      refine pD (j := 7) Z hw  (by decide) q_4_219 rfl rfl rfl rfl dX9_runCommands_55 (fun H locs hw => ?_)
      refine lv_aload_n hx hb dX9_runCommands_58 rfl (lv_at hl 0 rfl) ?_
      refine lv_iconst (v := 0) hx hb dX9_runCommands_59 (by decide +kernel) ?_
      refine pD (j := 8) Z hw  (by decide) q_4_220 rfl rfl rfl rfl dX9_runCommands_60 (fun H locs hw => ?_)
      refine lv_iconst (v := 0) hx hb dX9_runCommands_63 (by decide +kernel) ?_
      refine lv_istore_n (lv' := [(2, .int 0), (0, .ref (ad 0))]) hx hb dX9_runCommands_64 rfl hl (by decide) rfl (fun ls hl => ?_)
      refine lv_aload_n hx hb dX9_runCommands_65 rfl (lv_at hl 1 rfl) ?_
      refine bk_i (rnV (rest := []) Z hw (k_X9_skips  (InvD.spot (by decide) (InvD.up I50 (by decide)))) v_X9_skips q_6_41 (0) (by decide) rfl rfl rfl rfl hl.1 rfl rfl (Nat.le_of_ble_eq_true rfl) ⟨(Nat.le_of_ble_eq_true rfl), (Nat.le_of_ble_eq_true rfl)⟩ ⟨(Nat.le_of_ble_eq_true rfl), (Nat.le_of_ble_eq_true rfl)⟩ dX9_runCommands_66) hw Z (fun r66 s66 H locs hp hw => ?_)
      obtain ⟨er66, es66, I66⟩ := hp
      refine lv_istore_n (lv' := [(1, .int r66), (2, .int 0), (0, .ref (ad 0))]) hx hb dX9_runCommands_69 rfl hl (by decide) rfl (fun ls hl => ?_)
      refine L_X9_runCommands_70 Z fu151 0 s66 H locs ls (ms_0 I66) I66 (rd_again (a := s11) (w := σ) I11 hz hA15 hS15 c23 es50 es66) hw (lv_sub hl [1, 2] rfl) (fun w70_2 u70 H locs ls ew70_2 eu70 I70 hC70x hw hl => ?_)
      refine lv_iload_n hx hb dX9_runCommands_125 rfl (lv_at hl 0 rfl) ?_
      exact rt_i Z hr hlk hw dX9_runCommands_126 (pI.mk (by subst eu70 ew70_2 es66 er66 es50; exact (lf_t c23 rfl)) I70)
    · refine lv_aload_n hx hb dX9_runCommands_26 rfl (lv_at hl 0 rfl) ?_
      refine bk_i (rnV (rest := []) Z hw (k_X9_reads  It15) v_X9_reads q_6_49 (0) (by decide) rfl rfl rfl rfl hl.1 rfl rfl (Nat.le_of_ble_eq_true rfl) ⟨(Nat.le_of_ble_eq_true rfl), (Nat.le_of_ble_eq_true rfl)⟩ ⟨(Nat.le_of_ble_eq_true rfl), (Nat.le_of_ble_eq_true rfl)⟩ dX9_runCommands_27) hw Z (fun r27 s27 H locs hp hw => ?_)
      obtain ⟨er27, es27, I27⟩ := hp
      refine lv_if_ne (tgt := 41) hx hb dX9_runCommands_30 (by decide) (fun c30 => ?_) (fun c30 => ?_)
      · refine lv_aload_n hx hb dX9_runCommands_41 rfl (lv_at hl 0 rfl) ?_
        refine bk_i (rnV (rest := []) Z hw (k_X9_skips  I27) v_X9_skips q_6_41 (0) (by decide) rfl rfl rfl rfl hl.1 rfl rfl (Nat.le_of_ble_eq_true rfl) ⟨(Nat.le_of_ble_eq_true rfl), (Nat.le_of_ble_eq_true rfl)⟩ ⟨(Nat.le_of_ble_eq_true rfl), (Nat.le_of_ble_eq_true rfl)⟩ dX9_runCommands_42) hw Z (fun r42 s42 H locs hp hw => ?_)
        obtain ⟨er42, es42, I42⟩ := hp
        refine lv_istore_n (lv' := [(1, .int r42), (0, .ref (ad 0))]) hx hb dX9_runCommands_45 rfl hl (by decide) rfl (fun ls hl => ?_)
        refine lv_goto (tgt := 15) hx hb dX9_runCommands_46 (by decide) ?_
        have q15 : (f_X9_runCommands_l15 n15 s42) = (f_X9_runCommands_l15 (n15 + 1) t15) := (by subst es42 er42 es27 er27; exact (lf_f c23 (lf_f c30 rfl)))
        rw [← q15]
        exact ih s42 H locs ls ((rd_turn It15 c23 er27 c30 es27 I27 es42).1 _ hn15) I42 ⟨(rd_turn It15 c23 er27 c30 es27 I27 es42).2.1.trans (show t15 4 = s11 4 from hA15.1), (rd_turn It15 c23 er27 c30 es27 I27 es42).2.2.1.trans hA15.2⟩ (fun n h => hS15 (n + 1) ((rd_turn It15 c23 er27 c30 es27 I27 es42).2.2.2 n h)) hw (lv_sub hl [1] rfl)
      · refine lv_bipush (v := (-10)) hx hb dX9_runCommands_33 (by decide +kernel) ?_
        refine lv_aload_n hx hb dX9_runCommands_35 rfl (lv_at hl 0 rfl) ?_
        refine gD (j := 8) (v := .int (s27 0 8)) Z hw  (by decide) q_4_220 rfl rfl dX9_runCommands_36 ?_
        refine lv_isub hx hb dX9_runCommands_39 ?_
        exact rt_i Z hr hlk hw dX9_runCommands_40 (pI.mk (by subst es27 er27; exact (lf_f c23 (lf_t c30 rfl))) I27)
set_option maxHeartbeats 4000000 in
set_option maxRecDepth 100000 in
theorem k_X9_runCommands {l : Launch} {D : va_G} {T : Nat → ClassId} {g ad : Nat → Nat} {σ : St} (I0 : InvD σ) : mX l yX9_runCommands cX9_runCommands 5 (some (.int)) rmX9_runCommands D T g 6 ad (cE (dE T ad) σ) [.ref (ad 0)] (qI D 6 ad (dE T ad) (pI (f_X9_runCommands σ) InvD)) := by
  refine mX.of (own := "NestedBellsModel") (by decide +kernel) (Nat.le_of_ble_eq_true rfl) rfl ?_
  intro p e s m below meth c A ls H locs Z hr hlk _ hw hl
  have hx := Z.1.1
  have hb := Z.1.2.1
  have hl : lv_has ls 5 [(0, .ref (ad 0))] := hl
  refine lv_aload_n hx hb dX9_runCommands_0 rfl (lv_at hl 0 rfl) ?_
  refine lv_iconst (v := 0) hx hb dX9_runCommands_1 (by decide +kernel) ?_
  refine pD (j := 4) Z hw  (by decide) q_4_216 rfl rfl rfl rfl dX9_runCommands_2 (fun H locs hw => ?_)
  refine lv_aload_n hx hb dX9_runCommands_5 rfl (lv_at hl 0 rfl) ?_
  refine lv_iconst (v := 0) hx hb dX9_runCommands_6 (by decide +kernel) ?_
  refine pD (j := 8) Z hw  (by decide) q_4_220 rfl rfl rfl rfl dX9_runCommands_7 (fun H locs hw => ?_)
  refine lv_aload_n hx hb dX9_runCommands_10 rfl (lv_at hl 0 rfl) ?_
  refine bk_i (rnV (rest := []) Z hw (k_X9_skips  (InvD.spot (by decide) (InvD.up I0 (by decide)))) v_X9_skips q_6_41 (0) (by decide) rfl rfl rfl rfl hl.1 rfl rfl (Nat.le_of_ble_eq_true rfl) ⟨(Nat.le_of_ble_eq_true rfl), (Nat.le_of_ble_eq_true rfl)⟩ ⟨(Nat.le_of_ble_eq_true rfl), (Nat.le_of_ble_eq_true rfl)⟩ dX9_runCommands_11) hw Z (fun r11 s11 H locs hp hw => ?_)
  obtain ⟨er11, es11, I11⟩ := hp
  refine lv_istore_n (lv' := [(1, .int r11), (0, .ref (ad 0))]) hx hb dX9_runCommands_14 rfl hl (by decide) rfl (fun ls hl => ?_)
  have q15 : (f_X9_runCommands_l15 fu151 s11) = (f_X9_runCommands σ) := (by subst es11 er11; exact rfl)
  rw [← q15]
  exact L_X9_runCommands_15 (σ := σ) (s11 := s11) Z hr hlk (st0.mk (v := 0) (InvD.spot (by decide) (I0.up (by decide))) es11) I11 fu151 s11 H locs ls (ms_0 I11) I11 ⟨rfl, rfl⟩ (fun n h => ⟨n, h⟩) hw (lv_sub hl [1] rfl)
