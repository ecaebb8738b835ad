-- the law: what stands between two calls; a script's cell; how a case ends
def LA (p : Program) (s : State) (m : MethodId) (c : Code) (b L : Nat) (xs : Nat → Int32) (D : va_G) (cI cZ cS cJ : ClassId) (SA : Nat → Nat) (sf : Nat → Option Nat) (A : Nat → Prop) : Prop :=
  p.tables.exec = Jvm.exec ∧ c.code = cL_law ∧ c.maxLocals = 8 ∧ s.vm.findClass RLw = some m.cls ∧ (∀ w ∈ TB, w.before #[Value.ref b] s = true) ∧ va_X b L xs s s.heap ∧ b < s.heap.size ∧ va_K D vwCl (KT cI cZ cS cJ) s ∧ TX A s ∧ NCs s ∧ (∀ n, n < 8 → sf n = some (SA n)) ∧ L ≤ 1538 ∧ A = fun q : Nat => s.heap.size ≤ q
def LSt (s : State) (D : va_G) (cI cZ cS cJ : ClassId) (G SA : Nat → Nat) (sf : Nat → Option Nat) (M : Nat → Nat) (o : Nat) (A : Nat → Prop) (N : Nat) (u : CT) (v : MT) (fo : Nat → Int64) (H : Heap) (locs : List Loc) : Prop :=
  va_P D vwCl ((cWu cI cS G SA sf u ++ [(o, .inl (cJ, 1, .inr (.inl fo)))]) ++ mWu cI cZ M v) H ∧ va_D A ((cWu cI cS G SA sf u ++ [(o, .inl (cJ, 1, .inr (.inl fo)))]) ++ mWu cI cZ M v) ∧ va_S A s.heap H locs ∧ RepM (sgu u) v ∧ CIu u ∧ AI N (sgu u) ∧ thu u = nI (thS (sgu u))
theorem va_A_l {wa wb : va_W} {n q : Nat} (h : va_A wa n q) : va_A (wa ++ wb) n q := h.elim (fun ⟨k, e, h⟩ => Or.inl ⟨k, e, by rw [List.getElem?_append_left (List.getElem?_eq_some_iff.mp h).1]; exact h⟩) Or.inr
theorem pj_ll {A0 : Nat → Prop} {D : va_G} {cl : List vw_C} {wa wo wb w1 : va_W} {H H1 : Heap} (hP : va_P D cl ((wa ++ wo) ++ wb) H) (hD : va_D A0 ((wa ++ wo) ++ wb)) (hk : ∀ q : Nat, q < H.size → ¬ va_A wa H.size q → H1[q]? = H[q]?) (hF : ∀ q, va_A wa H.size q → A0 q) (hP1 : va_P D cl w1 H1) (hD1 : va_D (va_A wa H.size) w1) : va_P D cl ((w1 ++ wo) ++ wb) H1 ∧ va_D A0 ((w1 ++ wo) ++ wb) := by
  have h1 := pj_l (A0 := va_A (wa ++ wo) H.size) (pp_l hP) ⟨(pd_l hD).1, fun k q h => Or.inl ⟨k, q.2, h⟩⟩ hk (fun q h => va_A_l h) hP1 hD1
  exact pj_l (A0 := A0) hP hD (fun q a b => hk q a (fun z => b (va_A_l z))) (fun q h => h.elim (fun ⟨k, e, h⟩ => (pd_l hD).2 k _ h) (fun h => hF q (Or.inr h))) h1.1 h1.2
theorem pr_ll {A0 : Nat → Prop} {D : va_G} {cl : List vw_C} {wa wo wb : va_W} {H H1 : Heap} (hP : va_P D cl ((wa ++ wo) ++ wb) H) (hD : va_D A0 ((wa ++ wo) ++ wb)) (hk : ∀ q : Nat, q < H.size → ¬ va_A wa H.size q → H1[q]? = H[q]?) (hP1 : va_P D cl wa H1) : va_P D cl ((wa ++ wo) ++ wb) H1 :=
  pr_l hP hD (fun q a b => hk q a (fun z => b (va_A_l z))) (pr_l (pp_l hP) (pd_l hD) hk hP1)
section LWs
variable {p : Program} {l : Launch} {e : Env} {R : Room} {s : State} {m : MethodId} {args : Array Value} {below : List Frame} {meth : Method} {c : Code} {H : Heap} {locs : List Loc} {cells slots : Nat} {Q : State → Prop}
variable {D : va_G} {cl : List vw_C} {tys : List (ClassId × FieldType)} {ws : va_W} {A : Nat → Prop} {H0 : Heap} {cc : ByteArray} {pc a : Nat} {ls : Array Slot} {rest : List Value}
theorem ya_lald (hexec : p.tables.exec = Jvm.exec) (hb : c.code = cc) (hK : va_K D cl tys s) (hP : va_P D cl ws H) (q0 t0 : Nat) {cA : ClassId} {n : Nat} {f : Nat → Int64} (ha : ws[q0]? = some (a, .inl (cA, n, .inr (.inl f)))) (ht : tys[t0]? = some (cA, .long)) {i : Int32} (k : Nat) (hi : i = nI k) (hk : k < n) (hn : n < 2 ^ 31) (hdg : decode cc pc = .ok (.laload, 1))
    (kk : W p l e R s m args below meth c H locs cells slots Q (F0 m (pc + 1) ls (.long (f k) :: rest))) : W p l e R s m args below meth c H locs cells slots Q (F0 m pc ls (.int i :: .ref a :: rest)) := by
  subst hi
  refine va_lald hexec hb hK hP q0 t0 ha ht (vp_in_nI hk hn) hdg ?_
  rw [nI_clamp (by omega)]
  exact kk
theorem ya_sld (hexec : p.tables.exec = Jvm.exec) (hb : c.code = cc) {b L : Nat} {xs : Nat → Int32} (hX : va_X b L xs s H0) (hbl : b < H0.size) (hbA : ¬ A b) (hS : va_S A H0 H locs) {i : Int32} (k : Nat) (hi : i = nI k) (hk : k < L) (hL : L < 2 ^ 31) (hdg : decode cc pc = .ok (.iaload, 1))
    (kk : W p l e R s m args below meth c H locs cells slots Q (F0 m (pc + 1) ls (.int (xs k) :: rest))) : W p l e R s m args below meth c H locs cells slots Q (F0 m pc ls (.int i :: .ref b :: rest)) := by
  subst hi
  refine va_sld hexec hb hX hbl hbA hS (vp_in_nI hk hL) hdg ?_
  rw [nI_clamp (by omega)]
  exact kk
end LWs
theorem lgc {x y : Int64} (h : x = y) : lg_cmp x y = 0 := by
  subst h; unfold lg_cmp
  rw [if_neg (fun q => by simp at q), if_pos rfl]
theorem AI.mono {N : Nat} {σ : Sg} (h : AI N σ) : AI (N + 1) σ := by
  obtain ⟨off, left, wr, rc, st, mm, pl, rows, F, Gn, C⟩ := σ
  exact AX.mono (N := N) h (Nat.le_succ N)
theorem th_step2 {a b : Nat} {x : Int32} {c : Prop} [Decidable c] (h : a = b + if c then 0 else 1) (hx : x = nI a) : (if c then x else x - 1) = nI b := by
  subst hx
  by_cases q : c
  · rw [if_pos q] at h ⊢; rw [h, Nat.add_zero]
  · rw [if_neg q] at h ⊢; rw [h, nI_pred]
theorem fin_mut {N : Nat} {σ : Sg} {u u' : CT} {v9 : MT} {k r9 T : Int32} {f' fo : Nat → Int64} {X : Int32 × Int32 × Sg} (hσ : sgu u = σ) (hci : CIu u) (hth : thu u = nI (thS σ))
    (hk : ∀ k r σ', X = (k, r, σ') → AI (N + 1) σ' ∧ (¬ k = 0 → σ' = σ) ∧ (k = 0 → T = nI (thS σ')))
    (w : (k = 0 ∧ ∃ r, X = (0, r, sgu u') ∧ f' 0 = (r : Int32).toInt64 ∧ CIu u' ∧ thu u' = T) ∨ (¬ k = 0 ∧ X.1 = k ∧ u' = u ∧ f' = fo))
    (hr : ∃ σ', X = (v9.1, r9, σ') ∧ RepM σ' v9) :
    v9.1 = k ∧ (k = 0 → f' 0 = (r9 : Int32).toInt64) ∧ RepM (sgu u') v9 ∧ CIu u' ∧ AI (N + 1) (sgu u') ∧ thu u' = nI (thS (sgu u')) := by
  obtain ⟨σ', hX, hR⟩ := hr
  obtain ⟨k1, k2, k3⟩ := hk _ _ _ hX
  rcases w with ⟨h0, r, h1, h2, h3, h4⟩ | ⟨h0, h1, h2, h3⟩
  · have e := hX.symm.trans h1
    have e1 : v9.1 = 0 := congrArg Prod.fst e
    have e2 : r9 = r := congrArg (fun z => z.2.1) e
    have e3 : σ' = sgu u' := congrArg (fun z => z.2.2) e
    subst e2; subst e3
    exact ⟨e1.trans h0.symm, fun _ => h2, hR, h3, k1, h4.trans (k3 e1)⟩
  · have e1 : v9.1 = k := by rw [hX] at h1; exact h1
    have e2 := k2 (by rw [e1]; exact h0)
    subst h2
    rw [e2] at hR k1
    rw [hσ]
    exact ⟨e1, fun q => absurd q h0, hR, hci, k1, hth⟩
theorem fin_fail {N : Nat} {σ : Sg} {u u' : CT} {v9 : MT} {k : Int32} {X : Int32 × Sg} {T : Int32} (hσ : sgu u = σ) (hci : CIu u) (hth : thu u = nI (thS σ))
    (hk : ∀ k σ', X = (k, σ') → AI (N + 1) σ' ∧ (¬ k = 0 → σ' = σ) ∧ (k = 0 → T = nI (thS σ')))
    (w : (k = 0 ∧ X = (0, sgu u') ∧ CIu u' ∧ thu u' = T) ∨ (¬ k = 0 ∧ X.1 = k ∧ u' = u)) (hr : ∃ σ', X = (v9.1, σ') ∧ RepM σ' v9) :
    v9.1 = k ∧ RepM (sgu u') v9 ∧ CIu u' ∧ AI (N + 1) (sgu u') ∧ thu u' = nI (thS (sgu u')) := by
  obtain ⟨σ', hX, hR⟩ := hr
  obtain ⟨k1, k2, k3⟩ := hk _ _ hX
  rcases w with ⟨h0, h1, h3, h4⟩ | ⟨h0, h1, h2⟩
  · have e := hX.symm.trans h1
    have e1 : v9.1 = 0 := congrArg Prod.fst e
    have e3 : σ' = sgu u' := congrArg Prod.snd e
    subst e3
    exact ⟨e1.trans h0.symm, hR, h3, k1, h4.trans (k3 e1)⟩
  · have e1 : v9.1 = k := by rw [hX] at h1; exact h1
    have e2 := k2 (by rw [e1]; exact h0)
    subst h2
    rw [e2] at hR k1
    rw [hσ]
    exact ⟨e1, hR, hci, k1, hth⟩
theorem fin_rd {k : Int32} {f' fo : Nat → Int64} {X : Int32 × Int32} (w : (k = 0 ∧ ∃ r, X = (0, r) ∧ f' 0 = (r : Int32).toInt64) ∨ (¬ k = 0 ∧ X.1 = k ∧ f' = fo)) : X.1 = k ∧ (k = 0 → f' 0 = X.2.toInt64) := by
  rcases w with ⟨h0, r, h1, h2⟩ | ⟨h0, h1, -⟩
  · rw [h1]; exact ⟨h0.symm, fun _ => h2⟩
  · exact ⟨h1, fun q => absurd q h0⟩
theorem fin_rl {k : Int32} {f' fo : Nat → Int64} {X : Int32 × Int64} (w : (k = 0 ∧ ∃ r, X = (0, r) ∧ f' 0 = r) ∨ (¬ k = 0 ∧ X.1 = k ∧ f' = fo)) : X.1 = k ∧ (k = 0 → f' 0 = X.2) := by
  rcases w with ⟨h0, r, h1, h2⟩ | ⟨h0, h1, -⟩
  · rw [h1]; exact ⟨h0.symm, fun _ => h2⟩
  · exact ⟨h1, fun q => absurd q h0⟩
def PCl (b L : Nat) (xs : Nat → Int32) (sz : Nat) (U : State) : Prop := U.heap.size = sz ∧ va_X b L xs U U.heap ∧ b < sz
theorem PCl.blind {b L : Nat} {xs : Nat → Int32} {av : List Value} {sz : Nat} : FrameBlind (va_Pc av (PCl b L xs sz)) := fun a U g mk q => by
  obtain ⟨q0, q1, q2, q3⟩ := q
  exact ⟨q0, q1, va_X.moved (u := U) (U := U.calling g mk a) (Vm.Alike.refl U.vm) q2, q3⟩
theorem PCl.mk {b L : Nat} {xs : Nat → Int32} {av : List Value} {H : Heap} {locs : List Loc} {s U : State} {A : Nat → Prop} (hU : U.heap = H) (hW : s.WarmedH U.vm) (hX : va_X b L xs s s.heap) (hbl : b < s.heap.size) (hbA : ¬ A b) (hS : va_S A s.heap H locs) : va_Pc av (PCl b L xs H.size) av.toArray U :=
  ⟨rfl, by rw [hU], by rw [hU]; exact va_X.moved hW.alike (hX.kept (hS.2.1 b hbl hbA)), Nat.lt_of_lt_of_le hbl hS.1⟩
set_option maxHeartbeats 4000000 in
theorem c_L_cell (l : Launch) (sz b L : Nat) (xs : Nat → Int32) (hL : L < 2 ^ 31) (k : Nat) (hk : k < 2 ^ 31) : Met l yL_cell (Cond.code yL_cell cL_cell 2 (some .int) :: TB) ({ frames := 0, cells := 0, slots := 0, locals := 0 } : Room) (va_Pc [.ref b, .int (nI k)] (PCl b L xs sz)) (va_Qi (fun r (_ : Unit) => r = if k < L then xs k else 0) (fun _ _ => True) (va_A [] sz)) 0 0 (va_A [] sz) := by
  refine Met.ofW (cc := cL_cell) (maxL := 2) (ret := (some .int)) (by decide) rfl ?_
  intro p e s m args below meth c s₁ B hml hv
  obtain ⟨rfl, hsz, hX, hbl⟩ := hv
  have hx := B.exec
  have hb := B.bytes
  have hr := B.returns
  subst hsz
  have hbA : ¬ va_A [] s.heap.size b := fun q => q.elim (fun ⟨k, e, h⟩ => by simp at h) (fun h => absurd h (Nat.not_le.mpr hbl))
  generalize hAe : va_A [] s.heap.size = A at hbA ⊢
  have hS : va_S A s.heap s.heap [] := va_S.rf
  have hl := lv_entry ([.ref b, .int (nI k)]) (n := 2) (Nat.le_of_ble_eq_true rfl)
  rw [lg_entry_eq]
  generalize (lg_sl ([.ref b, .int (nI k)]) ++ List.replicate (2 - (lg_sl ([.ref b, .int (nI k)])).length) Slot.unset).toArray = ls at hl ⊢
  have hl : lv_has ls 2 [(0, .ref b), (1, .int (nI k))] := hl
  refine lv_iload_n hx hb dL_cell_0 rfl (lv_at hl 1 rfl) ?_
  refine lv_aload_n hx hb dL_cell_1 rfl (lv_at hl 0 rfl) ?_
  refine va_slen hx hb hX hbl hbA hS dL_cell_2 ?_
  refine lv_icmp_ge (tgt := 12) hx hb dL_cell_3 (by decide) (fun c3 => ?_) (fun c3 => ?_)
  · have hge : ¬ k < L := fun q => absurd c3 (nI_ge q hL)
    refine lv_iconst (v := 0) hx hb dL_cell_12 (by decide) ?_
    exact W.iret (v := 0) hx hb hr (fun t ht2 hW => ⟨⟨0, (), rfl, (by rw [if_neg hge]), trivial⟩, hS.F ht2⟩) hS.2.2 dL_cell_13
  · have hlt : k < L := by
      rcases Nat.lt_or_ge k L with q | q
      · exact q
      · exact absurd (nI_le q hk) c3
    refine lv_aload_n hx hb dL_cell_6 rfl (lv_at hl 0 rfl) ?_
    refine lv_iload_n hx hb dL_cell_7 rfl (lv_at hl 1 rfl) ?_
    refine ya_sld hx hb hX hbl hbA hS k rfl hlt hL dL_cell_8 ?_
    refine lv_goto (tgt := 13) hx hb dL_cell_9 (by decide) ?_
    exact W.iret (v := xs k) hx hb hr (fun t ht2 hW => ⟨⟨xs k, (), rfl, (by rw [if_pos hlt]), trivial⟩, hS.F ht2⟩) hS.2.2 dL_cell_13
theorem hld_01 {st : Nat → List (Int32 × Int32)} {nd key r : Int32} (h : r = (hldF st nd key).2) : r = 0 ∨ r = 1 := by
  rw [h]; unfold hldF; split
  · exact Or.inl rfl
  · dsimp only; split
    · exact Or.inr rfl
    · exact Or.inl rfl
