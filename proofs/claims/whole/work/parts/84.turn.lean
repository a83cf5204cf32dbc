/-! a turn of the law: what holds between two turns -/
theorem RBg.dlo {τ : Int} {β δ δ' : St} (h : RBg τ β δ) (e0 : δ' 0 = δ 0) (e1 : δ' 1 = δ 1) (e2 : δ' 2 = δ 2) (e4 : δ' 4 = δ 4) (e5 : δ' 5 = δ 5) : RBg τ β δ' := by
  obtain ⟨m1, ⟨c, nx, hH⟩, m3, m4⟩ := h
  exact ⟨by rw [e1]; exact m1, ⟨c, nx, hH.congr (Int.le_refl _) rfl (fun _ _ _ _ _ _ _ => rfl) (by rw [e0]) e2⟩, m3.congr rfl rfl rfl (by rw [e0]) e4 e5, by rw [e0]; exact m4⟩
def LI (τ : Int) (σ : St) : Prop := InvB σ ∧ InvD (sb gmD σ) ∧ RBg τ σ (sb gmD σ)
theorem sbD_W {σ u : St} : sb gmD (mg giW σ u) = sb gmD σ := by
  funext a b
  show mg giW σ u (406 + a) b = σ (406 + a) b
  unfold mg giW
  rw [if_neg (by omega)]
theorem mgW {σ u : St} {k : Nat} (h : k < 406) : mg giW σ u k = u k := by
  funext b
  unfold mg giW
  rw [if_pos h]
theorem mgD {σ u : St} {k : Nat} (h : k < 406) : mg giD σ u k = σ k := by
  funext b
  unfold mg giD
  rw [if_neg (by omega)]
theorem sbD_D {σ u : St} {k : Nat} (h : k < 6) : sb gmD (mg giD σ u) k = u k := by
  funext b
  show mg giD σ u (406 + k) b = u k b
  unfold mg giD
  rw [if_pos (by omega), Nat.add_sub_cancel_left]
theorem InvD.lo {u δ : St} (I : InvD u) (h : ∀ k, k < 6 → δ k = u k) : InvD δ := by
  unfold InvD
  rw [h 0 (by decide), h 1 (by decide), h 2 (by decide), h 3 (by decide)]
  exact I
/-- behind both calls of a turn -/
theorem LI.mk {τ : Int} {σ σ1 u : St} {U : St} (hB : InvB U) (hD : InvD u) (hR : RBg τ U u) (h1 : ∀ k, k < 406 → σ1 k = U k) (hσ : σ = mg giD σ1 u) : LI τ σ := by
  subst hσ
  have e : ∀ k, k < 405 → mg giD σ1 u k = U k := fun k hk => (mgD (by omega)).trans (h1 k (by omega))
  exact ⟨hB.lo e, hD.lo (fun k hk => sbD_D hk), (hR.lo e).dlo (sbD_D (by decide)) (sbD_D (by decide)) (sbD_D (by decide)) (sbD_D (by decide)) (sbD_D (by decide))⟩
section TurnRows
variable {p : Program} {l : Launch} {e : Env} {R : Room} {s : State} {m : MethodId} {args : Array Value} {below : List Frame} {meth : Method} {c : Code} {H : Heap} {locs : List Loc} {cells slots : Nat} {Qw : State → Prop} {cc : ByteArray} {pc nL : Nat} {ls : Array Slot} {rest : List Value} {own : String} {D : va_G} {T : Nat → ClassId} {g : Nat → Nat} {A : Nat → Prop} {N : Nat} {ad : Nat → Nat} {ct : Nat → va_E} {σ : St} {b L : Nat} {xs : Nat → Int32}
/-- the script is read -/
theorem sS {k : Nat} {x : Int32} (Z : en p m c cc nL s args own D T g A) (hX : va_X b L xs s s.heap) (hbl : b < s.heap.size) (hbA : ¬ A b) (hw : wo D A s.heap N ad ct H locs) (hx : x = nI k) (hk : k < L) (hL : L ≤ 2560) (d : decode cc pc = .ok (.iaload, 1))
    (kk : W p l e R s m args below meth c H locs cells slots Qw (F0 m (pc + 1) ls (.int (xs k) :: rest))) : W p l e R s m args below meth c H locs cells slots Qw (F0 m pc ls (.int x :: .ref b :: rest)) := by
  subst hx
  refine va_sld Z.1.1 Z.1.2.1 hX hbl hbA hw.2.2 (vp_in_nI hk (by omega)) d ?_
  rw [nI_clamp (by omega)]
  exact kk
/-- the answer is read -/
theorem lD {a : Nat} (Z : en p m c cc nL s args own D T g A) (hw : wo D A s.heap 412 ad (cE (lE g T ad) σ) H locs) (ha : ad 405 = a) (d : decode cc pc = .ok (.laload, 1))
    (kk : W p l e R s m args below meth c H locs cells slots Qw (F0 m (pc + 1) ls (.long (mk64 (σ 405 0) (σ 405 1)) :: rest))) : W p l e R s m args below meth c H locs cells slots Qw (F0 m pc ls (.int 0 :: .ref a :: rest)) := by
  subst ha
  exact va_lald (n := 1) (i := 0) (f := fun j => if j = 0 then mk64 (σ 405 0) (σ 405 1) else 0) Z.1.1 Z.1.2.1 Z.2.1 hw.1 405 2 (wl_at (by decide)) rfl (vp_in_nI (n := 0) (by decide) (by decide)) d kk
end TurnRows
