-- the class ShardRing: what its cells say; the small methods
theorem wfree {A : Nat → Prop} {ws : va_W} {H0 H : Heap} {locs : List Loc} (hD : va_D A ws) (hS : va_S A H0 H locs) (hA : ∀ q, H0.size ≤ q → A q) : ∀ q, va_A ws H.size q → A q := fun q h => h.elim (fun ⟨k, e, h⟩ => hD.2 k _ h) (fun h => hA q (Nat.le_trans hS.1 h))
theorem wjoinW {A : Nat → Prop} {ws w1 : va_W} {n : Nat} (h : va_D (va_A ws n) w1) (hF : ∀ q, va_A ws n q → A q) : va_D A w1 := ⟨h.1, fun k q hk => hF _ (h.2 k q hk)⟩
def CI (mm : Nat → Nat) (RL : List (Int32 × Int32)) (pts rf rg : Nat → Int32) (rows : List (Int32 × Nat × Nat)) (L : Nat) (p1 p2 p3 : Nat → Int32) (F Gn : Nat) (Z : Nat → ST) : Prop :=
  (RRP mm RL pts rf rg ∧ RG mm RL ∧ (∀ n, n < 8 → mm n ≤ 16) ∧ MM mm) ∧ (PRP rows L p1 p2 p3 ∧ 32 ≤ L ∧ rows.length ≤ 256 ∧ F ≤ 256 ∧ Gn ≤ 256 ∧ Srt (pkl rows) ∧ P8 rows) ∧ ZS Z
abbrev CT : Type := Nat × Nat × (Nat → Int32) × (Nat → Int32) × (Nat → Int32) × List (Int32 × Int32) × Nat × Nat × Nat × Nat × (Nat → Int32) × (Nat → Int32) × (Nat → Int32) × Int32 × Int32 × Int32 × Int32 × Int32 × Int32 × (Nat → ST) × (Nat → Nat) × List (Int32 × Nat × Nat) × Nat × Nat × Bool
abbrev cWu (cI cS : ClassId) (G SA : Nat → Nat) (sf : Nat → Option Nat) (u : CT) : va_W := match u with
  | (pa, no, pts, rf, rg, RL, pk, ps, pt, L, p1, p2, p3, op, off, left, wr, rc, th, Z, _, rows, F, Gn, C) => cW cI cS G SA sf pa no pts rf rg (nI RL.length) pk ps pt L p1 p2 p3 (nI rows.length) op (nI F) (nI Gn) (cB C) off left wr rc th Z
/-- the state that the class's cells hold -/
def sgu (u : CT) : Sg := match u with
  | (_, _, _, _, _, _, _, _, _, _, _, _, _, op, off, left, wr, rc, _, Z, mm, rows, F, Gn, C) => (off, left, wr, rc, stZ Z, mm, op, rows, F, Gn, C)
def CIu (u : CT) : Prop := match u with
  | (_, _, pts, rf, rg, RL, _, _, _, L, p1, p2, p3, _, _, _, _, _, _, Z, mm, rows, F, Gn, _) => CI mm RL pts rf rg rows L p1 p2 p3 F Gn Z
def thu (u : CT) : Int32 := match u with | (_, _, _, _, _, _, _, _, _, _, _, _, _, _, _, _, _, _, th, _) => th
theorem nI_node {nd : Int32} (h : ¬ (nd < 0 ∨ 8 ≤ nd)) : ∃ n, n < 8 ∧ nd = nI n := by
  obtain ⟨k, hk, he⟩ := nI_of (fun q => h (Or.inl q))
  refine ⟨k, ?_, he⟩
  rcases Nat.lt_or_ge k 8 with q | q
  · exact q
  · exact absurd (Or.inr (by rw [he]; exact nI_le (a := 8) q hk)) h
theorem ownK_lt {mm : Nat → Nat} (hM : MM mm) (key : Int32) : ownK mm key < 8 := own_lt hM

set_option maxHeartbeats 4000000 in
set_option maxRecDepth 100000 in
theorem c_X4_needPower (l : Launch) (hl0 : l.stackTraces = false) (D : va_G) (cI cZ cS cJ : ClassId) (sz : Nat) (G : Nat → Nat) (off left wr rc th : Int32) : vx_Met l yX4_needPower (Cond.code yX4_needPower cX4_needPower 1 none :: TB) ({ frames := 6, cells := 1, slots := 6, locals := 90 } : Room) (va_Pc [.ref (G 0)] (PX D (KT cI cZ cS cJ) ([((G 0), .inr (4, [.ref (G 1), .ref (G 3), .ref (G 4), .ref (G 5), .int th])), ((G 5), .inr (1, [.int off, .int left, .int wr, .int rc]))]) sz)) (va_Qv (fun (_ : Unit) => off = 0) (fun (_ : Unit) t => va_P D vwCl ([((G 0), .inr (4, [.ref (G 1), .ref (G 3), .ref (G 4), .ref (G 5), .int th])), ((G 5), .inr (1, [.int off, .int left, .int wr, .int rc]))]) t.heap) (va_A ([((G 0), .inr (4, [.ref (G 1), .ref (G 3), .ref (G 4), .ref (G 5), .int th])), ((G 5), .inr (1, [.int off, .int left, .int wr, .int rc]))]) sz)) (vx_X (fun (_ : Unit) => True) (fun E (_ : Unit) t => (fun E => E = cISE ∧ ¬ off = 0) E ∧ va_P D vwCl ([((G 0), .inr (4, [.ref (G 1), .ref (G 3), .ref (G 4), .ref (G 5), .int th])), ((G 5), .inr (1, [.int off, .int left, .int wr, .int rc]))]) t.heap) (va_A ([((G 0), .inr (4, [.ref (G 1), .ref (G 3), .ref (G 4), .ref (G 5), .int th])), ((G 5), .inr (1, [.int off, .int left, .int wr, .int rc]))]) sz)) 1 6 (va_A ([((G 0), .inr (4, [.ref (G 1), .ref (G 3), .ref (G 4), .ref (G 5), .int th])), ((G 5), .inr (1, [.int off, .int left, .int wr, .int rc]))]) sz) := by
  refine vx_ofW (cc := cX4_needPower) (maxL := 1) (ret := none) (by decide) rfl ?_
  intro p e s m args below meth c s₁ B hml hnt hv
  obtain ⟨rfl, ⟨hsz, hP, hK, hD0⟩, hTX⟩ := hv
  have hx := B.exec
  have hb := B.bytes
  have hr := B.returns
  have hts := atoms_spec (ws := (Cond.code yX4_needPower cX4_needPower 1 none :: TB)) B.pre
  have ht : ∀ w ∈ TB, w.before _ s = true := fun w h => hts w (List.mem_cons_of_mem _ h)
  have hown : s.vm.findClass RX4 = some m.cls := findClass_of_methodNamed B.named
  have hlocks := B.notSynchronized
  subst hsz
  have hD := hD0.self (sz := s.heap.size)
  generalize hAe : va_A ([((G 0), .inr (4, [.ref (G 1), .ref (G 3), .ref (G 4), .ref (G 5), .int th])), ((G 5), .inr (1, [.int off, .int left, .int wr, .int rc]))]) s.heap.size = A at hD hTX ⊢
  have hA : ∀ q : Nat, s.heap.size ≤ q → A q := fun q h => by rw [← hAe]; exact Or.inr h
  have hS : va_S A s.heap s.heap [] := va_S.rf
  have hP : va_P D vwCl ([((G 0), .inr (4, [.ref (G 1), .ref (G 3), .ref (G 4), .ref (G 5), .int th])), ((G 5), .inr (1, [.int off, .int left, .int wr, .int rc]))]) s.heap := hP
  have hl := lv_entry ([.ref (G 0)]) (n := 1) (Nat.le_of_ble_eq_true rfl)
  rw [lg_entry_eq]
  generalize (lg_sl ([.ref (G 0)]) ++ List.replicate (1 - (lg_sl ([.ref (G 0)])).length) Slot.unset).toArray = ls at hl ⊢
  have hl : lv_has ls 1 [(0, .ref (G 0))] := hl
  refine lv_aload_n hx hb dX4_needPower_0 rfl (lv_at hl 0 rfl) ?_
  refine va_get (D := D) (ci := 4) (v := .ref (G 5)) (C := RX4) (T := TX4) (N := 5) hx hb ht inX4 hown hK hP 0 (rfl) rfl 3 (by decide) (ht _ kw1_178) (fun _ h9 => h9) rfl dX4_needPower_1 ?_
  refine va_getN (D := D) (ci := 1) (v := .int off) (C := RX1) (T := TX1) (N := 4) hx hb ht inX1 hown hK hP 1 (rfl) rfl 0 (by decide) (ht _ kw1_103) (fun _ h9 => h9) rfl dX4_needPower_4 ?_
  refine lv_if_eq (tgt := 20) hx hb dX4_needPower_7 (by decide) (fun c7 => ?_) (fun c7 => ?_)
  · refine vx_ret ?_
    refine W.widen (k := 1) (n := 6) (Nat.le_of_ble_eq_true rfl) (Nat.le_of_ble_eq_true rfl) ?_
    exact W.vret hx hb hr (fun t ht2 hW => ⟨⟨(), rfl, c7, by (try dsimp only); rw [ht2]; exact hP⟩, hS.F ht2⟩) hS.2.2 dX4_needPower_20
  · have hxo := fun (t : State) h1 h2 => xout (t := t) hP hS h1 h2
    exact vx_throwS (names := xNames) (is := 195) (text := "the power is off") (A := A) hx hb hl0 hown (by decide +kernel) xf_n (ht _ kw1_219) (ht _ kw1_15) (hTX.2.2 (195, "the power is off") (by decide)).choose_spec (fun w h => ht w (xt_72 w h)) xg_72 hTX.1 hTX.2.1 hS (hl.1.trans hml.symm) dX4_needPower_10 dX4_needPower_13 dX4_needPower_14 dX4_needPower_16 dX4_needPower_19 (fun x hx => (hnt x hx).elim) (Nat.le_of_ble_eq_true rfl) (Nat.le_of_ble_eq_true rfl) (Nat.le_of_ble_eq_true rfl) (Nat.le_of_ble_eq_true rfl) hlocks (fun t hvm h1 h2 => ⟨(), trivial, ⟨⟨rfl, c7⟩, (hxo t h1 h2).1⟩, (hxo t h1 h2).2⟩) hS.2.2 (Nat.le_of_ble_eq_true rfl) (Nat.le_of_ble_eq_true rfl)

set_option maxHeartbeats 4000000 in
set_option maxRecDepth 100000 in
theorem c_X4_needNode (l : Launch) (hl0 : l.stackTraces = false) (D : va_G) (cI cZ cS cJ : ClassId) (sz : Nat) (nd : Int32) : vx_Met l yX4_needNode (Cond.code yX4_needNode cX4_needNode 1 none :: TB) ({ frames := 6, cells := 1, slots := 6, locals := 90 } : Room) (va_Pc [.int nd] (PX D (KT cI cZ cS cJ) ([]) sz)) (va_Qv (fun (_ : Unit) => ¬ (nd < 0 ∨ 8 ≤ nd)) (fun (_ : Unit) t => va_P D vwCl ([]) t.heap) (va_A ([]) sz)) (vx_X (fun (_ : Unit) => True) (fun E (_ : Unit) t => (fun E => E = cIOB ∧ (nd < 0 ∨ 8 ≤ nd)) E ∧ va_P D vwCl ([]) t.heap) (va_A ([]) sz)) 1 6 (va_A ([]) sz) := by
  refine vx_ofW (cc := cX4_needNode) (maxL := 1) (ret := none) (by decide) rfl ?_
  intro p e s m args below meth c s₁ B hml hnt hv
  obtain ⟨rfl, ⟨hsz, hP, hK, hD0⟩, hTX⟩ := hv
  have hx := B.exec
  have hb := B.bytes
  have hr := B.returns
  have hts := atoms_spec (ws := (Cond.code yX4_needNode cX4_needNode 1 none :: TB)) B.pre
  have ht : ∀ w ∈ TB, w.before _ s = true := fun w h => hts w (List.mem_cons_of_mem _ h)
  have hown : s.vm.findClass RX4 = some m.cls := findClass_of_methodNamed B.named
  have hlocks := B.notSynchronized
  subst hsz
  have hD := hD0.self (sz := s.heap.size)
  generalize hAe : va_A ([]) s.heap.size = A at hD hTX ⊢
  have hA : ∀ q : Nat, s.heap.size ≤ q → A q := fun q h => by rw [← hAe]; exact Or.inr h
  have hS : va_S A s.heap s.heap [] := va_S.rf
  have hP : va_P D vwCl ([]) s.heap := hP
  have hl := lv_entry ([.int nd]) (n := 1) (Nat.le_of_ble_eq_true rfl)
  rw [lg_entry_eq]
  generalize (lg_sl ([.int nd]) ++ List.replicate (1 - (lg_sl ([.int nd])).length) Slot.unset).toArray = ls at hl ⊢
  have hl : lv_has ls 1 [(0, .int nd)] := hl
  refine lv_iload_n hx hb dX4_needNode_0 rfl (lv_at hl 0 rfl) ?_
  refine lv_if_lt (tgt := 10) hx hb dX4_needNode_1 (by decide) (fun c1 => ?_) (fun c1 => ?_)
  · have hbad : nd < 0 ∨ 8 ≤ nd := Or.inl c1
    have hxo := fun (t : State) h1 h2 => xout (t := t) hP hS h1 h2
    exact vx_throwS (names := xNames) (is := 197) (text := "there is no such node") (A := A) hx hb hl0 hown (by decide +kernel) xf_n (ht _ kw2_136) (ht _ kw1_17) (hTX.2.2 (197, "there is no such node") (by decide)).choose_spec (fun w h => ht w (xt_179 w h)) xg_179 hTX.1 hTX.2.1 hS (hl.1.trans hml.symm) dX4_needNode_10 dX4_needNode_13 dX4_needNode_14 dX4_needNode_16 dX4_needNode_19 (fun x hx => (hnt x hx).elim) (Nat.le_of_ble_eq_true rfl) (Nat.le_of_ble_eq_true rfl) (Nat.le_of_ble_eq_true rfl) (Nat.le_of_ble_eq_true rfl) hlocks (fun t hvm h1 h2 => ⟨(), trivial, ⟨⟨rfl, hbad⟩, (hxo t h1 h2).1⟩, (hxo t h1 h2).2⟩) hS.2.2 (Nat.le_of_ble_eq_true rfl) (Nat.le_of_ble_eq_true rfl)
  · refine lv_iload_n hx hb dX4_needNode_4 rfl (lv_at hl 0 rfl) ?_
    refine lv_bipush (v := 8) hx hb dX4_needNode_5 (by decide) ?_
    refine lv_icmp_lt (tgt := 20) hx hb dX4_needNode_7 (by decide) (fun c7 => ?_) (fun c7 => ?_)
    · refine vx_ret ?_
      refine W.widen (k := 1) (n := 6) (Nat.le_of_ble_eq_true rfl) (Nat.le_of_ble_eq_true rfl) ?_
      exact W.vret hx hb hr (fun t ht2 hW => ⟨⟨(), rfl, fun q => q.elim c1 (fun z => absurd c7 (Int32.not_lt.mpr z)), by (try dsimp only); rw [ht2]; exact hP⟩, hS.F ht2⟩) hS.2.2 dX4_needNode_20
    · have hbad : nd < 0 ∨ 8 ≤ nd := Or.inr (Int32.not_lt.mp c7)
      have hxo := fun (t : State) h1 h2 => xout (t := t) hP hS h1 h2
      exact vx_throwS (names := xNames) (is := 197) (text := "there is no such node") (A := A) hx hb hl0 hown (by decide +kernel) xf_n (ht _ kw2_136) (ht _ kw1_17) (hTX.2.2 (197, "there is no such node") (by decide)).choose_spec (fun w h => ht w (xt_179 w h)) xg_179 hTX.1 hTX.2.1 hS (hl.1.trans hml.symm) dX4_needNode_10 dX4_needNode_13 dX4_needNode_14 dX4_needNode_16 dX4_needNode_19 (fun x hx => (hnt x hx).elim) (Nat.le_of_ble_eq_true rfl) (Nat.le_of_ble_eq_true rfl) (Nat.le_of_ble_eq_true rfl) (Nat.le_of_ble_eq_true rfl) hlocks (fun t hvm h1 h2 => ⟨(), trivial, ⟨⟨rfl, hbad⟩, (hxo t h1 h2).1⟩, (hxo t h1 h2).2⟩) hS.2.2 (Nat.le_of_ble_eq_true rfl) (Nat.le_of_ble_eq_true rfl)

theorem staAt_eq {rows : List (Int32 × Nat × Nat)} {F Gn : Nat} {C : Bool} (hl : rows.length ≤ 256) (key : Int32) : (if rowI rows key < 0 ∨ nI rows.length ≤ rowI rows key then 0 else sta F Gn C (rowI rows key).toNatClampNeg) = if pin rows key = true then sta F Gn C (prow rows key) else 0 := by
  unfold rowI
  by_cases h : pin rows key = true
  · have h1 := (pin_iff.mp h).1
    rw [if_pos h, if_pos h, if_neg (fun q => q.elim (fun z => nI_pos (by omega) z) (fun z => absurd z (nI_ge h1 (by omega)))), nI_clamp (by omega)]
  · rw [if_neg h, if_neg h, if_pos (Or.inl (by decide))]

set_option maxHeartbeats 4000000 in
set_option maxRecDepth 100000 in
theorem c_X4_homeAt (l : Launch) (D : va_G) (cI cZ cS cJ : ClassId) (sz : Nat) (G SA : Nat → Nat) (sf : Nat → Option Nat) (hsf : ∀ n, n < 8 → sf n = some (SA n)) (pa no : Nat) (pts rf rg : Nat → Int32) (RL : List (Int32 × Int32)) (pk ps pt L : Nat) (p1 p2 p3 : Nat → Int32) (op off left wr rc th : Int32) (Z : Nat → ST) (mm : Nat → Nat) (rows : List (Int32 × Nat × Nat)) (F Gn : Nat) (C : Bool) (hci : CI mm RL pts rf rg rows L p1 p2 p3 F Gn Z) (key : Int32) : Met l yX4_homeAt (Cond.code yX4_homeAt cX4_homeAt 4 (some .int) :: TB) ({ frames := 4, cells := 0, slots := 0, locals := 87 } : Room) (va_Pc [.ref (G 0), .int (rowI rows key), .int key] (PB D (KT cI cZ cS cJ) (cW cI cS G SA sf pa no pts rf rg (nI RL.length) pk ps pt L p1 p2 p3 (nI rows.length) op (nI F) (nI Gn) (cB C) off left wr rc th Z) sz)) (va_Qi (fun r (_ : Unit) => r = nI (homeF mm rows F key)) (fun (_ : Unit) t => va_P D vwCl (cW cI cS G SA sf pa no pts rf rg (nI RL.length) pk ps pt L p1 p2 p3 (nI rows.length) op (nI F) (nI Gn) (cB C) off left wr rc th Z) t.heap) (va_A (cW cI cS G SA sf pa no pts rf rg (nI RL.length) pk ps pt L p1 p2 p3 (nI rows.length) op (nI F) (nI Gn) (cB C) off left wr rc th Z) sz)) 0 0 (va_A (cW cI cS G SA sf pa no pts rf rg (nI RL.length) pk ps pt L p1 p2 p3 (nI rows.length) op (nI F) (nI Gn) (cB C) off left wr rc th Z) sz) := by
  refine Met.ofW (cc := cX4_homeAt) (maxL := 4) (ret := (some .int)) (by decide) rfl ?_
  intro p e s m args below meth c s₁ B hml hv
  obtain ⟨rfl, hsz, hP, hK, hD0⟩ := hv
  have hx := B.exec
  have hb := B.bytes
  have hr := B.returns
  have hts := atoms_spec (ws := (Cond.code yX4_homeAt cX4_homeAt 4 (some .int) :: TB)) B.pre
  have ht : ∀ w ∈ TB, w.before _ s = true := fun w h => hts w (List.mem_cons_of_mem _ h)
  have hown : s.vm.findClass RX4 = some m.cls := findClass_of_methodNamed B.named
  have hlocks := B.notSynchronized
  subst hsz
  have hD := hD0.self (sz := s.heap.size)
  generalize hAe : va_A (cW cI cS G SA sf pa no pts rf rg (nI RL.length) pk ps pt L p1 p2 p3 (nI rows.length) op (nI F) (nI Gn) (cB C) off left wr rc th Z) s.heap.size = A at hD ⊢
  have hA : ∀ q : Nat, s.heap.size ≤ q → A q := fun q h => by rw [← hAe]; exact Or.inr h
  have hS : va_S A s.heap s.heap [] := va_S.rf
  have hP : va_P D vwCl (cW cI cS G SA sf pa no pts rf rg (nI RL.length) pk ps pt L p1 p2 p3 (nI rows.length) op (nI F) (nI Gn) (cB C) off left wr rc th Z) s.heap := hP
  have hl := lv_entry ([.ref (G 0), .int (rowI rows key), .int key]) (n := 4) (Nat.le_of_ble_eq_true rfl)
  rw [lg_entry_eq]
  generalize (lg_sl ([.ref (G 0), .int (rowI rows key), .int key]) ++ List.replicate (4 - (lg_sl ([.ref (G 0), .int (rowI rows key), .int key])).length) Slot.unset).toArray = ls at hl ⊢
  have hl : lv_has ls 4 [(0, .ref (G 0)), (1, .int (rowI rows key)), (2, .int key)] := hl
  obtain ⟨⟨hrr, hrg, h16, hM⟩, ⟨hpr, h32, hrl, hF9, hG9, hsr, hp8⟩, hzs⟩ := id hci
  refine lv_aload_n hx hb dX4_homeAt_0 rfl (lv_at hl 0 rfl) ?_
  refine va_get (D := D) (ci := 4) (v := .ref (G 4)) (C := RX4) (T := TX4) (N := 5) hx hb ht inX4 hown hK hP 0 (rfl) rfl 2 (by decide) (ht _ kw1_177) (fun _ h9 => h9) rfl dX4_homeAt_1 ?_
  refine lv_iload_n hx hb dX4_homeAt_4 rfl (lv_at hl 1 rfl) ?_
  have hPc := hP.sub (ws' := [((G 4), .inr (0, [.ref pk, .ref ps, .ref pt, .int (nI rows.length), .int op, .int (nI F), .int (nI Gn), .int (cB C)])), (pk, .inl (cI, L, .inl p1)), (ps, .inl (cI, L, .inl p2)), (pt, .inl (cI, L, .inl p3))]) [6, 7, 8, 9] rfl
  have hDc := hD.sub (ws' := [((G 4), .inr (0, [.ref pk, .ref ps, .ref pt, .int (nI rows.length), .int op, .int (nI F), .int (nI Gn), .int (cB C)])), (pk, .inl (cI, L, .inl p1)), (ps, .inl (cI, L, .inl p2)), (pt, .inl (cI, L, .inl p3))]) [6, 7, 8, 9] (by decide) rfl
  have hFc := va_free (wc := [((G 4), .inr (0, [.ref pk, .ref ps, .ref pt, .int (nI rows.length), .int op, .int (nI F), .int (nI Gn), .int (cB C)])), (pk, .inl (cI, L, .inl p1)), (ps, .inl (cI, L, .inl p2)), (pt, .inl (cI, L, .inl p3))]) hD hS hA [6, 7, 8, 9] rfl
  refine va_calli (va_runVN (As := [.int (rowI rows key)]) (rest := []) ⟨hx, hb, hml, hown, ht⟩ (c_X0_stateAt l D cI cZ cS cJ s.heap.size (G 4) pk ps pt L p1 p2 p3 op rows F Gn C hpr hrl hF9 hG9 (rowI rows key)) ⟨xwN 1 ht kw2_60 kw2_57 kw1_4 rfl rfl (by decide +kernel) ⟨Nat.le_of_ble_eq_true rfl, Nat.le_of_ble_eq_true rfl⟩, ht _ kw2_59, ht _ kwS_5⟩ ⟨PB.blind, va_recv hK hPc (ci := 0) (q0 := 0) rfl rfl, fun U hU hW => PB.mk hU hW hPc hK hDc⟩ rfl rfl hl.1 rfl (lv_room (Nat.le_of_ble_eq_true rfl)) dX4_homeAt_5 ⟨Nat.le_of_ble_eq_true rfl, Nat.le_of_ble_eq_true rfl⟩) hS (fun q _ h => hFc q h) hFc (fun r5 u5 t5 H1 locs ht1 hvm w5 hB hz1 hk1 hS => ?_)
  try dsimp only at w5 hB
  rw [ht1] at hB
  have hP := wk_ro hP hD [6, 7, 8, 9] rfl hk1 hB
  generalize H1 = H at hP hS ⊢
  rw [staAt_eq hrl] at w5
  refine lv_istore_n (lv' := [(3, .int r5), (0, .ref (G 0)), (1, .int (rowI rows key)), (2, .int key)]) hx hb dX4_homeAt_8 rfl hl (by decide) rfl (fun ls hl => ?_)
  refine lv_iload_n hx hb dX4_homeAt_9 rfl (lv_at hl 0 rfl) ?_
  refine lv_iconst (v := 1) hx hb dX4_homeAt_10 (by decide) ?_
  refine lv_icmp_eq (tgt := 19) hx hb dX4_homeAt_11 (by decide) (fun c11 => ?_) (fun c11 => ?_)
  · have hst : pin rows key = true ∧ F ≤ prow rows key := by
      by_cases q : pin rows key = true
      · rw [w5, if_pos q] at c11; exact ⟨q, sta_12.mp (Or.inl c11)⟩
      · rw [w5, if_neg q] at c11; exact absurd c11 (by decide)
    have hlt := (pin_iff.mp hst.1).1
    refine lv_aload_n hx hb dX4_homeAt_19 rfl (lv_at hl 1 rfl) ?_
    refine va_get (D := D) (ci := 4) (v := .ref (G 4)) (C := RX4) (T := TX4) (N := 5) hx hb ht inX4 hown hK hP 0 (rfl) rfl 2 (by decide) (ht _ kw1_177) (fun _ h9 => h9) rfl dX4_homeAt_20 ?_
    refine va_getN (D := D) (ci := 0) (v := .ref ps) (C := RX0) (T := TX0) (N := 8) hx hb ht inX0 hown hK hP 6 (rfl) rfl 1 (by decide) (ht _ kw1_66) (fun _ h9 => h9) rfl dX4_homeAt_23 ?_
    refine lv_iload_n hx hb dX4_homeAt_26 rfl (lv_at hl 2 rfl) ?_
    refine ya_iald hx hb hK hP 8 0 (rfl) rfl (prow rows key) (by unfold rowI; rw [if_pos hst.1]) (by have := hpr.1; omega) (by have := hpr.2.1; omega) dX4_homeAt_27 ?_
    refine lv_goto (tgt := 39) hx hb dX4_homeAt_28 (by decide) ?_
    refine W.widen (k := 0) (n := 0) (Nat.le_of_ble_eq_true rfl) (Nat.le_of_ble_eq_true rfl) ?_
    exact W.iret (v := p2 (prow rows key)) hx hb hr (fun t ht2 hW => ⟨⟨p2 (prow rows key), (), rfl, by
          (try dsimp only)
          unfold homeF
          first | (rw [if_pos hst]; exact (hpr.2.2 _ hlt).2.1) | (rw [if_neg hst]; exact w36), by (try dsimp only); rw [ht2]; exact hP⟩, hS.F ht2⟩) hS.2.2 dX4_homeAt_39
  · refine lv_iload_n hx hb dX4_homeAt_14 rfl (lv_at hl 0 rfl) ?_
    refine lv_iconst (v := 2) hx hb dX4_homeAt_15 (by decide) ?_
    refine lv_icmp_ne (tgt := 31) hx hb dX4_homeAt_16 (by decide) (fun c16 => ?_) (fun c16 => ?_)
    · have hst : ¬ (pin rows key = true ∧ F ≤ prow rows key) := fun q => by
        rw [w5, if_pos q.1] at c11 c16
        exact (sta_12.mpr q.2).elim c11 c16
      refine lv_aload_n hx hb dX4_homeAt_31 rfl (lv_at hl 1 rfl) ?_
      refine va_get (D := D) (ci := 4) (v := .ref (G 1)) (C := RX4) (T := TX4) (N := 5) hx hb ht inX4 hown hK hP 0 (rfl) rfl 0 (by decide) (ht _ kw1_175) (fun _ h9 => h9) rfl dX4_homeAt_32 ?_
      refine lv_iload_n hx hb dX4_homeAt_35 rfl (lv_at hl 3 rfl) ?_
      have hPc := hP.sub (ws' := [((G 1), .inr (2, [.ref (G 2), .ref pa, .ref no, .int (nI RL.length)])), ((G 2), .inl (cI, 8, .inl pts)), (pa, .inl (cI, 128, .inl rf)), (no, .inl (cI, 128, .inl rg))]) [1, 2, 3, 4] rfl
      have hDc := hD.sub (ws' := [((G 1), .inr (2, [.ref (G 2), .ref pa, .ref no, .int (nI RL.length)])), ((G 2), .inl (cI, 8, .inl pts)), (pa, .inl (cI, 128, .inl rf)), (no, .inl (cI, 128, .inl rg))]) [1, 2, 3, 4] (by decide) rfl
      have hFc := va_free (wc := [((G 1), .inr (2, [.ref (G 2), .ref pa, .ref no, .int (nI RL.length)])), ((G 2), .inl (cI, 8, .inl pts)), (pa, .inl (cI, 128, .inl rf)), (no, .inl (cI, 128, .inl rg))]) hD hS hA [1, 2, 3, 4] rfl
      refine va_calli (va_runVN (As := [.int key]) (rest := []) ⟨hx, hb, hml, hown, ht⟩ (c_X2_ownerOf l D cI cZ cS cJ H.size (G 1) (G 2) pa no pts rf rg mm RL hrr hrg h16 hM key) ⟨xwN 1 ht kw2_64 kw2_61 kw1_3 rfl rfl (by decide +kernel) ⟨Nat.le_of_ble_eq_true rfl, Nat.le_of_ble_eq_true rfl⟩, ht _ kw2_63, ht _ kwS_6⟩ ⟨PB.blind, va_recv hK hPc (ci := 2) (q0 := 0) rfl rfl, fun U hU hW => PB.mk hU hW hPc hK hDc⟩ rfl rfl hl.1 rfl (lv_room (Nat.le_of_ble_eq_true rfl)) dX4_homeAt_36 ⟨Nat.le_of_ble_eq_true rfl, Nat.le_of_ble_eq_true rfl⟩) hS (fun q _ h => hFc q h) hFc (fun r36 u36 t36 H1 locs ht1 hvm w36 hB hz1 hk1 hS => ?_)
      try dsimp only at w36 hB
      rw [ht1] at hB
      have hP := wk_ro hP hD [1, 2, 3, 4] rfl hk1 hB
      generalize H1 = H at hP hS ⊢
      refine W.widen (k := 0) (n := 0) (Nat.le_of_ble_eq_true rfl) (Nat.le_of_ble_eq_true rfl) ?_
      exact W.iret (v := r36) hx hb hr (fun t ht2 hW => ⟨⟨r36, (), rfl, by
            (try dsimp only)
            unfold homeF
            first | (rw [if_pos hst]; exact (hpr.2.2 _ hlt).2.1) | (rw [if_neg hst]; exact w36), by (try dsimp only); rw [ht2]; exact hP⟩, hS.F ht2⟩) hS.2.2 dX4_homeAt_39
    · have hst : pin rows key = true ∧ F ≤ prow rows key := by
        by_cases q : pin rows key = true
        · rw [w5, if_pos q] at c16; exact ⟨q, sta_12.mp (Or.inr c16)⟩
        · rw [w5, if_neg q] at c16; exact absurd c16 (by decide)
      have hlt := (pin_iff.mp hst.1).1
      refine lv_aload_n hx hb dX4_homeAt_19 rfl (lv_at hl 1 rfl) ?_
      refine va_get (D := D) (ci := 4) (v := .ref (G 4)) (C := RX4) (T := TX4) (N := 5) hx hb ht inX4 hown hK hP 0 (rfl) rfl 2 (by decide) (ht _ kw1_177) (fun _ h9 => h9) rfl dX4_homeAt_20 ?_
      refine va_getN (D := D) (ci := 0) (v := .ref ps) (C := RX0) (T := TX0) (N := 8) hx hb ht inX0 hown hK hP 6 (rfl) rfl 1 (by decide) (ht _ kw1_66) (fun _ h9 => h9) rfl dX4_homeAt_23 ?_
      refine lv_iload_n hx hb dX4_homeAt_26 rfl (lv_at hl 2 rfl) ?_
      refine ya_iald hx hb hK hP 8 0 (rfl) rfl (prow rows key) (by unfold rowI; rw [if_pos hst.1]) (by have := hpr.1; omega) (by have := hpr.2.1; omega) dX4_homeAt_27 ?_
      refine lv_goto (tgt := 39) hx hb dX4_homeAt_28 (by decide) ?_
      refine W.widen (k := 0) (n := 0) (Nat.le_of_ble_eq_true rfl) (Nat.le_of_ble_eq_true rfl) ?_
      exact W.iret (v := p2 (prow rows key)) hx hb hr (fun t ht2 hW => ⟨⟨p2 (prow rows key), (), rfl, by
            (try dsimp only)
            unfold homeF
            first | (rw [if_pos hst]; exact (hpr.2.2 _ hlt).2.1) | (rw [if_neg hst]; exact w36), by (try dsimp only); rw [ht2]; exact hP⟩, hS.F ht2⟩) hS.2.2 dX4_homeAt_39
