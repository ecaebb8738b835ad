-- the class ShardRing: join, leave
theorem nI_pts {p : Int32} (h : ¬ (p < 1 ∨ 16 < p)) : ∃ n, 1 ≤ n ∧ n ≤ 16 ∧ p = nI n := by
  have h1 : 1 ≤ p := Int32.not_lt.mp (fun q => h (Or.inl q))
  have h2 : p ≤ 16 := Int32.not_lt.mp (fun q => h (Or.inr q))
  obtain ⟨k, hk, he⟩ := nI_of (x := p) (fun q => absurd (Int32.lt_of_le_of_lt h1 q) (by decide))
  subst he
  exact ⟨k, (nI_leI (a := 1) (by decide) hk).mp h1, (nI_leI (b := 16) hk (by decide)).mp h2, rfl⟩

set_option maxHeartbeats 4000000 in
set_option maxRecDepth 100000 in
theorem c_X4_join (l : Launch) (hl0 : l.stackTraces = false) (D : va_G) (cI cZ cS cJ : ClassId) (sz : Nat) (G SA : Nat → Nat) (sf : Nat → Option Nat) (hsf : ∀ n, n < 8 → sf n = some (SA n)) (pa no : Nat) (pts rf rg : Nat → Int32) (RL : List (Int32 × Int32)) (pk ps pt L : Nat) (p1 p2 p3 : Nat → Int32) (op off left wr rc th : Int32) (Z : Nat → ST) (mm : Nat → Nat) (rows : List (Int32 × Nat × Nat)) (F Gn : Nat) (C : Bool) (hci : CI mm RL pts rf rg rows L p1 p2 p3 F Gn Z) (hpl : op = 0 → rows = [] ∧ F = 0 ∧ Gn = 0 ∧ C = false) (hv : op = 0 → OW (stZ Z) (ownK mm)) (h256 : op = 0 → ∀ mo, (plUp (stZ Z) (ownK mo) 8).length ≤ 256) (nd pn : Int32) : vx_Met l yX4_join (Cond.code yX4_join cX4_join 3 (some .int) :: TB) ({ frames := 7, cells := 70, slots := 3800, locals := 134 } : Room) (va_Pc [.ref (G 0), .int nd, .int pn] (PX D (KT cI cZ cS cJ) (cW cI cS G SA sf pa no pts rf rg (nI RL.length) pk ps pt L p1 p2 p3 (nI rows.length) op (nI F) (nI Gn) (cB C) off left wr rc th Z) sz)) (va_Qi (fun r (u : CT) => joinF off left wr rc (stZ Z) mm op rows F Gn C nd pn = (0, r, sgu u) ∧ CIu u ∧ thu u = th) (fun (u : CT) t => va_P D vwCl (cWu cI cS G SA sf u) t.heap ∧ va_D (va_A (cW cI cS G SA sf pa no pts rf rg (nI RL.length) pk ps pt L p1 p2 p3 (nI rows.length) op (nI F) (nI Gn) (cB C) off left wr rc th Z) sz) (cWu cI cS G SA sf u)) (va_A (cW cI cS G SA sf pa no pts rf rg (nI RL.length) pk ps pt L p1 p2 p3 (nI rows.length) op (nI F) (nI Gn) (cB C) off left wr rc th Z) sz)) (vx_X (fun (_ : Unit) => True) (fun E (_ : Unit) t => (fun E => (E = cIOB ∧ (joinF off left wr rc (stZ Z) mm op rows F Gn C nd pn).1 = 1) ∨ (E = cIAE ∧ (joinF off left wr rc (stZ Z) mm op rows F Gn C nd pn).1 = 2) ∨ (E = cISE ∧ (joinF off left wr rc (stZ Z) mm op rows F Gn C nd pn).1 = 3)) E ∧ va_P D vwCl (cW cI cS G SA sf pa no pts rf rg (nI RL.length) pk ps pt L p1 p2 p3 (nI rows.length) op (nI F) (nI Gn) (cB C) off left wr rc th Z) t.heap) (va_A (cW cI cS G SA sf pa no pts rf rg (nI RL.length) pk ps pt L p1 p2 p3 (nI rows.length) op (nI F) (nI Gn) (cB C) off left wr rc th Z) sz)) 70 3800 (va_A (cW cI cS G SA sf pa no pts rf rg (nI RL.length) pk ps pt L p1 p2 p3 (nI rows.length) op (nI F) (nI Gn) (cB C) off left wr rc th Z) sz) := by
  refine vx_ofW (cc := cX4_join) (maxL := 3) (ret := (some .int)) (by decide) rfl ?_
  intro p e s m args below meth c s₁ B hml hnt hv
  obtain ⟨rfl, ⟨hsz, hP, hK, hD0⟩, hTX⟩ := hv
  have hx := B.exec
  have hb := B.bytes
  have hr := B.returns
  have hts := atoms_spec (ws := (Cond.code yX4_join cX4_join 3 (some .int) :: TB)) B.pre
  have ht : ∀ w ∈ TB, w.before _ s = true := fun w h => hts w (List.mem_cons_of_mem _ h)
  have hown : s.vm.findClass RX4 = some m.cls := findClass_of_methodNamed B.named
  have hlocks := B.notSynchronized
  subst hsz
  have hD := hD0.self (sz := s.heap.size)
  generalize hAe : va_A (cW cI cS G SA sf pa no pts rf rg (nI RL.length) pk ps pt L p1 p2 p3 (nI rows.length) op (nI F) (nI Gn) (cB C) off left wr rc th Z) s.heap.size = A at hD hTX ⊢
  have hA : ∀ q : Nat, s.heap.size ≤ q → A q := fun q h => by rw [← hAe]; exact Or.inr h
  have hS : va_S A s.heap s.heap [] := va_S.rf
  have hP : va_P D vwCl (cW cI cS G SA sf pa no pts rf rg (nI RL.length) pk ps pt L p1 p2 p3 (nI rows.length) op (nI F) (nI Gn) (cB C) off left wr rc th Z) s.heap := hP
  have hl := lv_entry ([.ref (G 0), .int nd, .int pn]) (n := 3) (Nat.le_of_ble_eq_true rfl)
  rw [lg_entry_eq]
  generalize (lg_sl ([.ref (G 0), .int nd, .int pn]) ++ List.replicate (3 - (lg_sl ([.ref (G 0), .int nd, .int pn])).length) Slot.unset).toArray = ls at hl ⊢
  have hl : lv_has ls 3 [(0, .ref (G 0)), (1, .int nd), (2, .int pn)] := hl
  obtain ⟨⟨hrr, hrg, h16, hM⟩, ⟨hpr, h32, hrl, hF9, hG9, hsr, hp8⟩, hzs⟩ := id hci
  refine lv_iload_n hx hb dX4_join_0 rfl (lv_at hl 1 rfl) ?_
  have hPc : va_P D vwCl [] s.heap := va_P.nil
  have hDc : va_D A [] := va_D.nil
  have hFc := va_free (wc := []) hD hS hA [] rfl
  refine vx_callv (vx_runS (As := [.int nd]) (rest := []) ⟨hx, hb, hml, hown, ht⟩ (c_X4_needNode l hl0 D cI cZ cS cJ s.heap.size nd) (xwS 1 ht kw2_135 kw2_133 kw1_1 kw2_134 rfl rfl (by decide +kernel) ⟨Nat.le_of_ble_eq_true rfl, Nat.le_of_ble_eq_true rfl⟩) ⟨PX.blind, fun U hU hW => PX.mk hU hW hPc hK hDc hS hFc hTX⟩ rfl rfl hl.1 rfl (lv_room (Nat.le_of_ble_eq_true rfl)) dX4_join_1 ⟨Nat.le_of_ble_eq_true rfl, Nat.le_of_ble_eq_true rfl⟩) hS (fun q _ h => hFc q h) hFc (fun q _ h => hFc q h) (fun E ce q9 u t9 H1 locs ht1 hvm _ hBX hz1 hk1 hS hce hcv hcl => ?_) (fun u1 t1 H1 locs ht1 hvm w1 hB hz1 hk1 hS => ?_)
  · obtain ⟨hXE, hBX⟩ := hBX
    rw [ht1] at hBX
    have hP := wk_ro (wc := []) hP hD [] rfl hk1 va_P.nil
    exact vx_out (fun x hx => (hnt x hx).elim) hlocks hce hcv hcl (fun t ht9 _ => ⟨(), trivial, ⟨Or.inl ⟨hXE.1, by unfold joinF; rw [if_pos hXE.2]⟩, by rw [ht9]; exact hP⟩, hS.F ht9⟩) hS.2.2 (Nat.le_of_ble_eq_true rfl) (Nat.le_of_ble_eq_true rfl)
  try dsimp only at w1 hB
  rw [ht1] at hB
  have hP := wk_ro (wc := []) hP hD [] rfl hk1 va_P.nil
  generalize H1 = H at hP hS ⊢
  have hnd := w1
  obtain ⟨n9, hn9, e9⟩ := nI_node hnd
  subst e9
  refine lv_iload_n hx hb dX4_join_4 rfl (lv_at hl 2 rfl) ?_
  refine lv_iconst (v := 1) hx hb dX4_join_5 (by decide) ?_
  refine lv_icmp_lt (tgt := 15) hx hb dX4_join_6 (by decide) (fun c6 => ?_) (fun c6 => ?_)
  · have hpb : pn < 1 ∨ 16 < pn := Or.inl c6
    have hxo := fun (t : State) h1 h2 => xout (t := t) hP hS h1 h2
    exact vx_throwS (names := xNames) (is := 106) (text := "points are not 1 .. 16") (A := A) hx hb hl0 hown (by decide +kernel) xf_n (ht _ kw2_152) (ht _ kw1_18) (hTX.2.2 (106, "points are not 1 .. 16") (by decide)).choose_spec (fun w h => ht w (xt_108 w h)) xg_108 hTX.1 hTX.2.1 hS (hl.1.trans hml.symm) dX4_join_15 dX4_join_18 dX4_join_19 dX4_join_21 dX4_join_24 (fun x hx => (hnt x hx).elim) (Nat.le_of_ble_eq_true rfl) (Nat.le_of_ble_eq_true rfl) (Nat.le_of_ble_eq_true rfl) (Nat.le_of_ble_eq_true rfl) hlocks (fun t hvm h1 h2 => ⟨(), trivial, ⟨Or.inr (Or.inl ⟨rfl, by unfold joinF; rw [if_neg hnd, if_pos hpb]⟩), (hxo t h1 h2).1⟩, (hxo t h1 h2).2⟩) hS.2.2 (Nat.le_of_ble_eq_true rfl) (Nat.le_of_ble_eq_true rfl)
  · refine lv_iload_n hx hb dX4_join_9 rfl (lv_at hl 2 rfl) ?_
    refine lv_bipush (v := 16) hx hb dX4_join_10 (by decide) ?_
    refine lv_icmp_le (tgt := 25) hx hb dX4_join_12 (by decide) (fun c12 => ?_) (fun c12 => ?_)
    · have hpp : ¬ (pn < 1 ∨ 16 < pn) := fun q => q.elim c6 (fun z => absurd c12 (Int32.not_le.mpr z))
      obtain ⟨p9, hp1, hp16, e9⟩ := nI_pts hpp
      subst e9
      refine lv_aload_n hx hb dX4_join_25 rfl (lv_at hl 0 rfl) ?_
      have hPc := hP.sub (ws' := [((G 0), .inr (4, [.ref (G 1), .ref (G 3), .ref (G 4), .ref (G 5), .int th])), ((G 5), .inr (1, [.int off, .int left, .int wr, .int rc]))]) [0, 10] rfl
      have hDc := hD.sub (ws' := [((G 0), .inr (4, [.ref (G 1), .ref (G 3), .ref (G 4), .ref (G 5), .int th])), ((G 5), .inr (1, [.int off, .int left, .int wr, .int rc]))]) [0, 10] (by decide) rfl
      have hFc := va_free (wc := [((G 0), .inr (4, [.ref (G 1), .ref (G 3), .ref (G 4), .ref (G 5), .int th])), ((G 5), .inr (1, [.int off, .int left, .int wr, .int rc]))]) hD hS hA [0, 10] rfl
      refine vx_callv (vx_runV (As := []) (rest := []) ⟨hx, hb, hml, hown, ht⟩ (c_X4_needPower l hl0 D cI cZ cS cJ H.size G off left wr rc th) (xwV 0 ht kw1_218 kw1_215 kw1_1 kw1_217 kwS_1 rfl rfl (by decide +kernel) ⟨Nat.le_of_ble_eq_true rfl, Nat.le_of_ble_eq_true rfl⟩) ⟨PX.blind, va_recv hK hPc (ci := 4) (q0 := 0) rfl rfl, fun U hU hW => PX.mk hU hW hPc hK hDc hS hFc hTX⟩ rfl rfl hl.1 rfl (lv_room (Nat.le_of_ble_eq_true rfl)) dX4_join_26 ⟨Nat.le_of_ble_eq_true rfl, Nat.le_of_ble_eq_true rfl⟩) hS (fun q _ h => hFc q h) hFc (fun q _ h => hFc q h) (fun E ce q9 u t9 H1 locs ht1 hvm _ hBX hz1 hk1 hS hce hcv hcl => ?_) (fun u26 t26 H1 locs ht1 hvm w26 hB hz1 hk1 hS => ?_)
      · obtain ⟨hXE, hBX⟩ := hBX
        rw [ht1] at hBX
        have hP := wk_ro hP hD [0, 10] rfl hk1 hBX
        exact vx_out (fun x hx => (hnt x hx).elim) hlocks hce hcv hcl (fun t ht9 _ => ⟨(), trivial, ⟨Or.inr (Or.inr ⟨hXE.1, by unfold joinF; rw [if_neg hnd, if_neg hpp, if_pos (Or.inl hXE.2)]⟩), by rw [ht9]; exact hP⟩, hS.F ht9⟩) hS.2.2 (Nat.le_of_ble_eq_true rfl) (Nat.le_of_ble_eq_true rfl)
      try dsimp only at w26 hB
      rw [ht1] at hB
      have hP := wk_ro hP hD [0, 10] rfl hk1 hB
      generalize H1 = H at hP hS ⊢
      refine lv_aload_n hx hb dX4_join_29 rfl (lv_at hl 0 rfl) ?_
      refine va_get (D := D) (ci := 4) (v := .ref (G 4)) (C := RX4) (T := TX4) (N := 5) hx hb ht inX4 hown hK hP 0 (rfl) rfl 2 (by decide) (ht _ kw1_177) (fun _ h9 => h9) rfl dX4_join_30 ?_
      refine va_getN (D := D) (ci := 0) (v := .int op) (C := RX0) (T := TX0) (N := 8) hx hb ht inX0 hown hK hP 6 (rfl) rfl 4 (by decide) (ht _ kw1_72) (fun _ h9 => h9) rfl dX4_join_33 ?_
      refine lv_if_ne (tgt := 51) hx hb dX4_join_36 (by decide) (fun c36 => ?_) (fun c36 => ?_)
      · have hbad : ¬ off = 0 ∨ ¬ op = 0 ∨ 0 < mm (nI n9).toNatClampNeg := Or.inr (Or.inl c36)
        have hxo := fun (t : State) h1 h2 => xout (t := t) hP hS h1 h2
        exact vx_throwS (names := xNames) (is := 116) (text := "there is a plan, or the node is a member") (A := A) hx hb hl0 hown (by decide +kernel) xf_n (ht _ kw1_219) (ht _ kw1_15) (hTX.2.2 (116, "there is a plan, or the node is a member") (by decide)).choose_spec (fun w h => ht w (xt_72 w h)) xg_72 hTX.1 hTX.2.1 hS (hl.1.trans hml.symm) dX4_join_51 dX4_join_54 dX4_join_55 dX4_join_57 dX4_join_60 (fun x hx => (hnt x hx).elim) (Nat.le_of_ble_eq_true rfl) (Nat.le_of_ble_eq_true rfl) (Nat.le_of_ble_eq_true rfl) (Nat.le_of_ble_eq_true rfl) hlocks (fun t hvm h1 h2 => ⟨(), trivial, ⟨Or.inr (Or.inr ⟨rfl, by unfold joinF; rw [if_neg hnd, if_neg hpp, if_pos (hbad)]⟩), (hxo t h1 h2).1⟩, (hxo t h1 h2).2⟩) hS.2.2 (Nat.le_of_ble_eq_true rfl) (Nat.le_of_ble_eq_true rfl)
      · have hop0 : op = 0 := c36
        refine lv_aload_n hx hb dX4_join_39 rfl (lv_at hl 0 rfl) ?_
        refine va_get (D := D) (ci := 4) (v := .ref (G 1)) (C := RX4) (T := TX4) (N := 5) hx hb ht inX4 hown hK hP 0 (rfl) rfl 0 (by decide) (ht _ kw1_175) (fun _ h9 => h9) rfl dX4_join_40 ?_
        refine va_getN (D := D) (ci := 2) (v := .ref (G 2)) (C := RX2) (T := TX2) (N := 4) hx hb ht inX2 hown hK hP 1 (rfl) rfl 0 (by decide) (ht _ kw1_40) (fun _ h9 => h9) rfl dX4_join_43 ?_
        refine lv_iload_n hx hb dX4_join_46 rfl (lv_at hl 1 rfl) ?_
        refine ya_iald hx hb hK hP 2 0 (rfl) rfl n9 (rfl) (hn9) (by decide) dX4_join_47 ?_
        refine lv_if_le (tgt := 61) hx hb dX4_join_48 (by decide) (fun c48 => ?_) (fun c48 => ?_)
        · have hm0 : mm n9 = 0 := by
            rw [hrr.1 n9 hn9] at c48
            have h16n := h16 n9 hn9
            rcases Nat.eq_zero_or_pos (mm n9) with q | q
            · exact q
            · exact absurd c48 (nI_nle q (by omega))
          have hgood : ¬ (¬ off = 0 ∨ ¬ op = 0 ∨ 0 < mm (nI n9).toNatClampNeg) := fun q => q.elim (fun z => z w26) (fun q => q.elim (fun z => z hop0) (fun z => by rw [nI_clamp (by omega)] at z; omega))
          obtain ⟨h9a, h9b, h9c, h9d⟩ := hpl (hop0)
          subst h9a
          subst h9b
          subst h9c
          subst h9d
          have hP : va_P D vwCl (cW cI cS G SA sf pa no pts rf rg (nI RL.length) pk ps pt L p1 p2 p3 (nI ([] : List (Int32 × Nat × Nat)).length) op (nI 0) (nI 0) (cB false) off left wr rc th Z) H := hP
          have hD : va_D A (cW cI cS G SA sf pa no pts rf rg (nI RL.length) pk ps pt L p1 p2 p3 (nI ([] : List (Int32 × Nat × Nat)).length) op (nI 0) (nI 0) (cB false) off left wr rc th Z) := hD
          refine lv_aload_n hx hb dX4_join_61 rfl (lv_at hl 0 rfl) ?_
          refine va_get (D := D) (ci := 4) (v := .ref (G 5)) (C := RX4) (T := TX4) (N := 5) hx hb ht inX4 hown hK hP 0 (rfl) rfl 3 (by decide) (ht _ kw1_178) (fun _ h9 => h9) rfl dX4_join_62 ?_
          have hPc := hP.sub (ws' := [((G 5), .inr (1, [.int off, .int left, .int wr, .int rc]))]) [10] rfl
          have hDc := hD.sub (ws' := [((G 5), .inr (1, [.int off, .int left, .int wr, .int rc]))]) [10] (by decide) rfl
          have hFc := va_free (wc := [((G 5), .inr (1, [.int off, .int left, .int wr, .int rc]))]) hD hS hA [10] rfl
          refine va_calli (va_runVN (As := []) (rest := []) ⟨hx, hb, hml, hown, ht⟩ (c_X1_lastsForRecord l D cI cZ cS cJ H.size (G 5) off left wr rc) ⟨xwN 0 ht kw2_172 kw2_169 kw1_5 rfl rfl (by decide +kernel) ⟨Nat.le_of_ble_eq_true rfl, Nat.le_of_ble_eq_true rfl⟩, ht _ kw2_171, ht _ kwS_13⟩ ⟨PB.blind, va_recv hK hPc (ci := 1) (q0 := 0) rfl rfl, fun U hU hW => PB.mk hU hW hPc hK hDc⟩ rfl rfl hl.1 rfl (lv_room (Nat.le_of_ble_eq_true rfl)) dX4_join_65 ⟨Nat.le_of_ble_eq_true rfl, Nat.le_of_ble_eq_true rfl⟩) hS (fun q _ h => hFc q h) hFc (fun r65 u65 t65 H1 locs ht1 hvm w65 hB hz1 hk1 hS => ?_)
          try dsimp only at w65 hB
          obtain ⟨hP1, hD1⟩ := hB
          rw [ht1] at hP1
          obtain ⟨hP, hD⟩ := wk_join (w1 := [((G 5), .inr (1, [.int (wOff left off), .int (wLeft left), .int (wInc left wr), .int (wInc left rc)]))]) hP hD [10] rfl (by decide) rfl hk1 hFc hP1 hD1
          generalize H1 = H at hP hS ⊢
          have hP : va_P D vwCl (cW cI cS G SA sf pa no pts rf rg (nI RL.length) pk ps pt L p1 p2 p3 (nI ([] : List (Int32 × Nat × Nat)).length) op (nI 0) (nI 0) (cB false) (wOff left off) (wLeft left) (wInc left wr) (wInc left rc) th Z) H := hP
          have hD : va_D A (cW cI cS G SA sf pa no pts rf rg (nI RL.length) pk ps pt L p1 p2 p3 (nI ([] : List (Int32 × Nat × Nat)).length) op (nI 0) (nI 0) (cB false) (wOff left off) (wLeft left) (wInc left wr) (wInc left rc) th Z) := hD
          refine lv_if_ne (tgt := 74) hx hb dX4_join_68 (by decide) (fun c68 => ?_) (fun c68 => ?_)
          · have hlf : ¬ left = 0 := wOk_y (by rw [← w65]; exact c68)
            rw [show wOff left off = off from if_neg hlf, show wInc left wr = wr + 1 from if_neg hlf, show wInc left rc = rc + 1 from if_neg hlf] at hP hD
            refine lv_aload_n hx hb dX4_join_74 rfl (lv_at hl 0 rfl) ?_
            refine va_get (D := D) (ci := 4) (v := .ref (G 1)) (C := RX4) (T := TX4) (N := 5) hx hb ht inX4 hown hK hP 0 (rfl) rfl 0 (by decide) (ht _ kw1_175) (fun _ h9 => h9) rfl dX4_join_75 ?_
            refine lv_iload_n hx hb dX4_join_78 rfl (lv_at hl 1 rfl) ?_
            refine lv_iload_n hx hb dX4_join_79 rfl (lv_at hl 2 rfl) ?_
            have hPc := hP.sub (ws' := [((G 1), .inr (2, [.ref (G 2), .ref pa, .ref no, .int (nI RL.length)])), ((G 2), .inl (cI, 8, .inl pts)), (pa, .inl (cI, 128, .inl rf)), (no, .inl (cI, 128, .inl rg))]) [1, 2, 3, 4] rfl
            have hDc := hD.sub (ws' := [((G 1), .inr (2, [.ref (G 2), .ref pa, .ref no, .int (nI RL.length)])), ((G 2), .inl (cI, 8, .inl pts)), (pa, .inl (cI, 128, .inl rf)), (no, .inl (cI, 128, .inl rg))]) [1, 2, 3, 4] (by decide) rfl
            have hFc := va_free (wc := [((G 1), .inr (2, [.ref (G 2), .ref pa, .ref no, .int (nI RL.length)])), ((G 2), .inl (cI, 8, .inl pts)), (pa, .inl (cI, 128, .inl rf)), (no, .inl (cI, 128, .inl rg))]) hD hS hA [1, 2, 3, 4] rfl
            refine va_callv (va_runVN (As := [.int (nI n9), .int (nI p9)]) (rest := []) ⟨hx, hb, hml, hown, ht⟩ (c_X2_enrol l D cI cZ cS cJ H.size (G 1) (G 2) pa no pts rf rg mm RL hrr hrg h16 n9 p9 hn9 hp16 hm0) ⟨xwN 2 ht kw1_139 kw1_136 kw1_3 rfl rfl (by decide +kernel) ⟨Nat.le_of_ble_eq_true rfl, Nat.le_of_ble_eq_true rfl⟩, ht _ kw1_138, ht _ kwS_0⟩ ⟨PB.blind, va_recv hK hPc (ci := 2) (q0 := 0) rfl rfl, fun U hU hW => PB.mk hU hW hPc hK hDc⟩ rfl rfl hl.1 rfl (lv_room (Nat.le_of_ble_eq_true rfl)) dX4_join_80 ⟨Nat.le_of_ble_eq_true rfl, Nat.le_of_ble_eq_true rfl⟩) hS (fun q _ h => hFc q h) hFc (fun u80 t80 H1 locs ht1 hvm w80 hB hz1 hk1 hS => ?_)
            try dsimp only at w80 hB
            obtain ⟨RLn, pan, non, ptn, rfn, rgn⟩ := u80
            dsimp only at w80 hB
            obtain ⟨hP1, hD1⟩ := hB
            rw [ht1] at hP1
            obtain ⟨hP, hD⟩ := wk_join (w1 := [((G 1), .inr (2, [.ref (G 2), .ref pan, .ref non, .int (nI RLn.length)])), ((G 2), .inl (cI, 8, .inl ptn)), (pan, .inl (cI, 128, .inl rfn)), (non, .inl (cI, 128, .inl rgn))]) hP hD [1, 2, 3, 4] rfl (by decide) rfl hk1 hFc hP1 hD1
            generalize H1 = H at hP hS ⊢
            have hP : va_P D vwCl (cW cI cS G SA sf pan non ptn rfn rgn (nI RLn.length) pk ps pt L p1 p2 p3 (nI ([] : List (Int32 × Nat × Nat)).length) op (nI 0) (nI 0) (cB false) off (wLeft left) (wr + 1) (rc + 1) th Z) H := hP
            have hD : va_D A (cW cI cS G SA sf pan non ptn rfn rgn (nI RLn.length) pk ps pt L p1 p2 p3 (nI ([] : List (Int32 × Nat × Nat)).length) op (nI 0) (nI 0) (cB false) off (wLeft left) (wr + 1) (rc + 1) th Z) := hD
            obtain ⟨hrgn, hrrn⟩ := w80
            refine lv_aload_n hx hb dX4_join_83 rfl (lv_at hl 0 rfl) ?_
            have hPc := hP
            have hDc := hD
            have hFc := wfree hD hS hA
            refine va_callv (va_runV (As := []) (rest := []) ⟨hx, hb, hml, hown, ht⟩ (c_X4_makePlan l D cI cZ cS cJ H.size G SA sf hsf pan non ptn rfn rgn RLn pk ps pt L p1 p2 p3 op off (wLeft left) (wr + 1) (rc + 1) th Z (fu mm n9 p9) ⟨⟨hrrn, hrgn, (MM_join hM hn9 hp1 hp16).1, (MM_join hM hn9 hp1 hp16)⟩, hci.2.1, hzs⟩ (ownK mm) (hv hop0) (h256 hop0 _)) (xwV 0 ht kw2_177 kw2_174 kw1_1 kw2_176 kwS_14 rfl rfl (by decide +kernel) ⟨Nat.le_of_ble_eq_true rfl, Nat.le_of_ble_eq_true rfl⟩) ⟨PB.blind, va_recv hK hPc (ci := 4) (q0 := 0) rfl rfl, fun U hU hW => PB.mk hU hW hPc hK hDc⟩ rfl rfl hl.1 rfl (lv_room (Nat.le_of_ble_eq_true rfl)) dX4_join_84 ⟨Nat.le_of_ble_eq_true rfl, Nat.le_of_ble_eq_true rfl⟩) hS (fun q _ h => hFc q h) hFc (fun u84 t84 H1 locs ht1 hvm w84 hB hz1 hk1 hS => ?_)
            try dsimp only at w84 hB
            obtain ⟨pk1, ps1, pt1, L1, q1, q2, q3⟩ := u84
            dsimp only at w84 hB
            obtain ⟨hP1, hD1⟩ := hB
            rw [ht1] at hP1
            have hP := hP1
            have hD := wjoinW hD1 hFc
            generalize H1 = H at hP hS ⊢
            have hP : va_P D vwCl (cW cI cS G SA sf pan non ptn rfn rgn (nI RLn.length) pk1 ps1 pt1 L1 q1 q2 q3 (nI (plUp (stZ Z) (ownK (fu mm n9 p9)) 8).length) 1 (nI 0) (nI 0) (cB false) off (wLeft left) (wr + 1) (rc + 1) th Z) H := hP
            have hD : va_D A (cW cI cS G SA sf pan non ptn rfn rgn (nI RLn.length) pk1 ps1 pt1 L1 q1 q2 q3 (nI (plUp (stZ Z) (ownK (fu mm n9 p9)) 8).length) 1 (nI 0) (nI 0) (cB false) off (wLeft left) (wr + 1) (rc + 1) th Z) := hD
            refine lv_aload_n hx hb dX4_join_87 rfl (lv_at hl 0 rfl) ?_
            refine va_get (D := D) (ci := 4) (v := .ref (G 4)) (C := RX4) (T := TX4) (N := 5) hx hb ht inX4 hown hK hP 0 (rfl) rfl 2 (by decide) (ht _ kw1_177) (fun _ h9 => h9) rfl dX4_join_88 ?_
            refine va_getN (D := D) (ci := 0) (v := .int (nI (plUp (stZ Z) (ownK (fu mm n9 p9)) 8).length)) (C := RX0) (T := TX0) (N := 8) hx hb ht inX0 hown hK hP 6 (rfl) rfl 3 (by decide) (ht _ kw1_70) (fun _ h9 => h9) rfl dX4_join_91 ?_
            refine vx_ret ?_
            refine W.widen (k := 70) (n := 3800) (Nat.le_of_ble_eq_true rfl) (Nat.le_of_ble_eq_true rfl) ?_
            exact W.iret (v := nI (plUp (stZ Z) (ownK (fu mm n9 p9)) 8).length) hx hb hr (fun t ht2 hW => ⟨⟨nI (plUp (stZ Z) (ownK (fu mm n9 p9)) 8).length, (pan, non, ptn, rfn, rgn, RLn, pk1, ps1, pt1, L1, q1, q2, q3, 1, off, wLeft left, wr + 1, rc + 1, th, Z, fu mm n9 p9, plUp (stZ Z) (ownK (fu mm n9 p9)) 8, 0, 0, false), rfl, by
                  (try dsimp only)
                  refine ⟨?_, ?_, rfl⟩
                  · unfold joinF
                    rw [if_neg hnd, if_neg hpp, if_neg hgood, nI_clamp (show n9 < 2 ^ 31 by omega), nI_clamp (show p9 < 2 ^ 31 by omega)]
                    unfold changeF
                    first | (rw [if_pos hlf]; rfl) | (rw [if_neg hlf]; rfl)
                  · exact ⟨⟨hrrn, hrgn, (MM_join hM hn9 hp1 hp16).1, MM_join hM hn9 hp1 hp16⟩, ⟨w84.1, w84.2, h256 hop0 _, Nat.zero_le _, Nat.zero_le _, plUp_srt (fun n hn => (hzs n hn).2.1) (hv hop0), plUp_P8 (MM_join hM hn9 hp1 hp16)⟩, hzs⟩, ⟨by (try dsimp only); rw [ht2]; exact hP, by exact hD⟩⟩, hS.F ht2⟩) hS.2.2 dX4_join_94
          · have hlf : left = 0 := wOk_n (by rw [← w65]; exact c68)
            rw [show wOff left off = 1 from if_pos hlf, wLeft_z hlf, show wInc left wr = wr from if_pos hlf, show wInc left rc = rc from if_pos hlf] at hP hD
            refine lv_bipush (v := (-9)) hx hb dX4_join_71 (by decide) ?_
            refine vx_ret ?_
            refine W.widen (k := 70) (n := 3800) (Nat.le_of_ble_eq_true rfl) (Nat.le_of_ble_eq_true rfl) ?_
            exact W.iret (v := (-9)) hx hb hr (fun t ht2 hW => ⟨⟨(-9), (pa, no, pts, rf, rg, RL, pk, ps, pt, L, p1, p2, p3, op, 1, left, wr, rc, th, Z, mm, ([] : List (Int32 × Nat × Nat)), 0, 0, false), rfl, by
                  (try dsimp only)
                  refine ⟨?_, ?_, rfl⟩
                  · unfold joinF
                    rw [if_neg hnd, if_neg hpp, if_neg hgood, nI_clamp (show n9 < 2 ^ 31 by omega), nI_clamp (show p9 < 2 ^ 31 by omega)]
                    unfold changeF
                    first | (rw [if_pos hlf]; rfl) | (rw [if_neg hlf]; rfl)
                  · exact hci, ⟨by (try dsimp only); rw [ht2]; exact hP, by exact hD⟩⟩, hS.F ht2⟩) hS.2.2 dX4_join_73
        · have hbad : ¬ off = 0 ∨ ¬ op = 0 ∨ 0 < mm (nI n9).toNatClampNeg := Or.inr (Or.inr (by
            rw [nI_clamp (by omega)]
            rw [hrr.1 n9 hn9] at c48
            rcases Nat.eq_zero_or_pos (mm n9) with q | q
            · rw [q] at c48; exact absurd (by decide) c48
            · exact q))
          have hxo := fun (t : State) h1 h2 => xout (t := t) hP hS h1 h2
          exact vx_throwS (names := xNames) (is := 116) (text := "there is a plan, or the node is a member") (A := A) hx hb hl0 hown (by decide +kernel) xf_n (ht _ kw1_219) (ht _ kw1_15) (hTX.2.2 (116, "there is a plan, or the node is a member") (by decide)).choose_spec (fun w h => ht w (xt_72 w h)) xg_72 hTX.1 hTX.2.1 hS (hl.1.trans hml.symm) dX4_join_51 dX4_join_54 dX4_join_55 dX4_join_57 dX4_join_60 (fun x hx => (hnt x hx).elim) (Nat.le_of_ble_eq_true rfl) (Nat.le_of_ble_eq_true rfl) (Nat.le_of_ble_eq_true rfl) (Nat.le_of_ble_eq_true rfl) hlocks (fun t hvm h1 h2 => ⟨(), trivial, ⟨Or.inr (Or.inr ⟨rfl, by unfold joinF; rw [if_neg hnd, if_neg hpp, if_pos (hbad)]⟩), (hxo t h1 h2).1⟩, (hxo t h1 h2).2⟩) hS.2.2 (Nat.le_of_ble_eq_true rfl) (Nat.le_of_ble_eq_true rfl)
    · have hpb : pn < 1 ∨ 16 < pn := Or.inr (Int32.not_le.mp c12)
      have hxo := fun (t : State) h1 h2 => xout (t := t) hP hS h1 h2
      exact vx_throwS (names := xNames) (is := 106) (text := "points are not 1 .. 16") (A := A) hx hb hl0 hown (by decide +kernel) xf_n (ht _ kw2_152) (ht _ kw1_18) (hTX.2.2 (106, "points are not 1 .. 16") (by decide)).choose_spec (fun w h => ht w (xt_108 w h)) xg_108 hTX.1 hTX.2.1 hS (hl.1.trans hml.symm) dX4_join_15 dX4_join_18 dX4_join_19 dX4_join_21 dX4_join_24 (fun x hx => (hnt x hx).elim) (Nat.le_of_ble_eq_true rfl) (Nat.le_of_ble_eq_true rfl) (Nat.le_of_ble_eq_true rfl) (Nat.le_of_ble_eq_true rfl) hlocks (fun t hvm h1 h2 => ⟨(), trivial, ⟨Or.inr (Or.inl ⟨rfl, by unfold joinF; rw [if_neg hnd, if_pos hpb]⟩), (hxo t h1 h2).1⟩, (hxo t h1 h2).2⟩) hS.2.2 (Nat.le_of_ble_eq_true rfl) (Nat.le_of_ble_eq_true rfl)

set_option maxHeartbeats 4000000 in
set_option maxRecDepth 100000 in
theorem c_X4_leave (l : Launch) (hl0 : l.stackTraces = false) (D : va_G) (cI cZ cS cJ : ClassId) (sz : Nat) (G SA : Nat → Nat) (sf : Nat → Option Nat) (hsf : ∀ n, n < 8 → sf n = some (SA n)) (pa no : Nat) (pts rf rg : Nat → Int32) (RL : List (Int32 × Int32)) (pk ps pt L : Nat) (p1 p2 p3 : Nat → Int32) (op off left wr rc th : Int32) (Z : Nat → ST) (mm : Nat → Nat) (rows : List (Int32 × Nat × Nat)) (F Gn : Nat) (C : Bool) (hci : CI mm RL pts rf rg rows L p1 p2 p3 F Gn Z) (hpl : op = 0 → rows = [] ∧ F = 0 ∧ Gn = 0 ∧ C = false) (hv : op = 0 → OW (stZ Z) (ownK mm)) (h256 : op = 0 → ∀ mo, (plUp (stZ Z) (ownK mo) 8).length ≤ 256) (nd : Int32) : vx_Met l yX4_leave (Cond.code yX4_leave cX4_leave 2 (some .int) :: TB) ({ frames := 7, cells := 70, slots := 3800, locals := 134 } : Room) (va_Pc [.ref (G 0), .int nd] (PX D (KT cI cZ cS cJ) (cW cI cS G SA sf pa no pts rf rg (nI RL.length) pk ps pt L p1 p2 p3 (nI rows.length) op (nI F) (nI Gn) (cB C) off left wr rc th Z) sz)) (va_Qi (fun r (u : CT) => leaveF off left wr rc (stZ Z) mm op rows F Gn C nd = (0, r, sgu u) ∧ CIu u ∧ thu u = th) (fun (u : CT) t => va_P D vwCl (cWu cI cS G SA sf u) t.heap ∧ va_D (va_A (cW cI cS G SA sf pa no pts rf rg (nI RL.length) pk ps pt L p1 p2 p3 (nI rows.length) op (nI F) (nI Gn) (cB C) off left wr rc th Z) sz) (cWu cI cS G SA sf u)) (va_A (cW cI cS G SA sf pa no pts rf rg (nI RL.length) pk ps pt L p1 p2 p3 (nI rows.length) op (nI F) (nI Gn) (cB C) off left wr rc th Z) sz)) (vx_X (fun (_ : Unit) => True) (fun E (_ : Unit) t => (fun E => (E = cIOB ∧ (leaveF off left wr rc (stZ Z) mm op rows F Gn C nd).1 = 1) ∨ (E = cISE ∧ (leaveF off left wr rc (stZ Z) mm op rows F Gn C nd).1 = 2)) E ∧ va_P D vwCl (cW cI cS G SA sf pa no pts rf rg (nI RL.length) pk ps pt L p1 p2 p3 (nI rows.length) op (nI F) (nI Gn) (cB C) off left wr rc th Z) t.heap) (va_A (cW cI cS G SA sf pa no pts rf rg (nI RL.length) pk ps pt L p1 p2 p3 (nI rows.length) op (nI F) (nI Gn) (cB C) off left wr rc th Z) sz)) 70 3800 (va_A (cW cI cS G SA sf pa no pts rf rg (nI RL.length) pk ps pt L p1 p2 p3 (nI rows.length) op (nI F) (nI Gn) (cB C) off left wr rc th Z) sz) := by
  refine vx_ofW (cc := cX4_leave) (maxL := 2) (ret := (some .int)) (by decide) rfl ?_
  intro p e s m args below meth c s₁ B hml hnt hv
  obtain ⟨rfl, ⟨hsz, hP, hK, hD0⟩, hTX⟩ := hv
  have hx := B.exec
  have hb := B.bytes
  have hr := B.returns
  have hts := atoms_spec (ws := (Cond.code yX4_leave cX4_leave 2 (some .int) :: TB)) B.pre
  have ht : ∀ w ∈ TB, w.before _ s = true := fun w h => hts w (List.mem_cons_of_mem _ h)
  have hown : s.vm.findClass RX4 = some m.cls := findClass_of_methodNamed B.named
  have hlocks := B.notSynchronized
  subst hsz
  have hD := hD0.self (sz := s.heap.size)
  generalize hAe : va_A (cW cI cS G SA sf pa no pts rf rg (nI RL.length) pk ps pt L p1 p2 p3 (nI rows.length) op (nI F) (nI Gn) (cB C) off left wr rc th Z) s.heap.size = A at hD hTX ⊢
  have hA : ∀ q : Nat, s.heap.size ≤ q → A q := fun q h => by rw [← hAe]; exact Or.inr h
  have hS : va_S A s.heap s.heap [] := va_S.rf
  have hP : va_P D vwCl (cW cI cS G SA sf pa no pts rf rg (nI RL.length) pk ps pt L p1 p2 p3 (nI rows.length) op (nI F) (nI Gn) (cB C) off left wr rc th Z) s.heap := hP
  have hl := lv_entry ([.ref (G 0), .int nd]) (n := 2) (Nat.le_of_ble_eq_true rfl)
  rw [lg_entry_eq]
  generalize (lg_sl ([.ref (G 0), .int nd]) ++ List.replicate (2 - (lg_sl ([.ref (G 0), .int nd])).length) Slot.unset).toArray = ls at hl ⊢
  have hl : lv_has ls 2 [(0, .ref (G 0)), (1, .int nd)] := hl
  obtain ⟨⟨hrr, hrg, h16, hM⟩, ⟨hpr, h32, hrl, hF9, hG9, hsr, hp8⟩, hzs⟩ := id hci
  refine lv_iload_n hx hb dX4_leave_0 rfl (lv_at hl 1 rfl) ?_
  have hPc : va_P D vwCl [] s.heap := va_P.nil
  have hDc : va_D A [] := va_D.nil
  have hFc := va_free (wc := []) hD hS hA [] rfl
  refine vx_callv (vx_runS (As := [.int nd]) (rest := []) ⟨hx, hb, hml, hown, ht⟩ (c_X4_needNode l hl0 D cI cZ cS cJ s.heap.size nd) (xwS 1 ht kw2_135 kw2_133 kw1_1 kw2_134 rfl rfl (by decide +kernel) ⟨Nat.le_of_ble_eq_true rfl, Nat.le_of_ble_eq_true rfl⟩) ⟨PX.blind, fun U hU hW => PX.mk hU hW hPc hK hDc hS hFc hTX⟩ rfl rfl hl.1 rfl (lv_room (Nat.le_of_ble_eq_true rfl)) dX4_leave_1 ⟨Nat.le_of_ble_eq_true rfl, Nat.le_of_ble_eq_true rfl⟩) hS (fun q _ h => hFc q h) hFc (fun q _ h => hFc q h) (fun E ce q9 u t9 H1 locs ht1 hvm _ hBX hz1 hk1 hS hce hcv hcl => ?_) (fun u1 t1 H1 locs ht1 hvm w1 hB hz1 hk1 hS => ?_)
  · obtain ⟨hXE, hBX⟩ := hBX
    rw [ht1] at hBX
    have hP := wk_ro (wc := []) hP hD [] rfl hk1 va_P.nil
    exact vx_out (fun x hx => (hnt x hx).elim) hlocks hce hcv hcl (fun t ht9 _ => ⟨(), trivial, ⟨Or.inl ⟨hXE.1, by unfold leaveF; rw [if_pos hXE.2]⟩, by rw [ht9]; exact hP⟩, hS.F ht9⟩) hS.2.2 (Nat.le_of_ble_eq_true rfl) (Nat.le_of_ble_eq_true rfl)
  try dsimp only at w1 hB
  rw [ht1] at hB
  have hP := wk_ro (wc := []) hP hD [] rfl hk1 va_P.nil
  generalize H1 = H at hP hS ⊢
  have hnd := w1
  obtain ⟨n9, hn9, e9⟩ := nI_node hnd
  subst e9
  refine lv_aload_n hx hb dX4_leave_4 rfl (lv_at hl 0 rfl) ?_
  have hPc := hP.sub (ws' := [((G 0), .inr (4, [.ref (G 1), .ref (G 3), .ref (G 4), .ref (G 5), .int th])), ((G 5), .inr (1, [.int off, .int left, .int wr, .int rc]))]) [0, 10] rfl
  have hDc := hD.sub (ws' := [((G 0), .inr (4, [.ref (G 1), .ref (G 3), .ref (G 4), .ref (G 5), .int th])), ((G 5), .inr (1, [.int off, .int left, .int wr, .int rc]))]) [0, 10] (by decide) rfl
  have hFc := va_free (wc := [((G 0), .inr (4, [.ref (G 1), .ref (G 3), .ref (G 4), .ref (G 5), .int th])), ((G 5), .inr (1, [.int off, .int left, .int wr, .int rc]))]) hD hS hA [0, 10] rfl
  refine vx_callv (vx_runV (As := []) (rest := []) ⟨hx, hb, hml, hown, ht⟩ (c_X4_needPower l hl0 D cI cZ cS cJ H.size G off left wr rc th) (xwV 0 ht kw1_218 kw1_215 kw1_1 kw1_217 kwS_1 rfl rfl (by decide +kernel) ⟨Nat.le_of_ble_eq_true rfl, Nat.le_of_ble_eq_true rfl⟩) ⟨PX.blind, va_recv hK hPc (ci := 4) (q0 := 0) rfl rfl, fun U hU hW => PX.mk hU hW hPc hK hDc hS hFc hTX⟩ rfl rfl hl.1 rfl (lv_room (Nat.le_of_ble_eq_true rfl)) dX4_leave_5 ⟨Nat.le_of_ble_eq_true rfl, Nat.le_of_ble_eq_true rfl⟩) hS (fun q _ h => hFc q h) hFc (fun q _ h => hFc q h) (fun E ce q9 u t9 H1 locs ht1 hvm _ hBX hz1 hk1 hS hce hcv hcl => ?_) (fun u5 t5 H1 locs ht1 hvm w5 hB hz1 hk1 hS => ?_)
  · obtain ⟨hXE, hBX⟩ := hBX
    rw [ht1] at hBX
    have hP := wk_ro hP hD [0, 10] rfl hk1 hBX
    exact vx_out (fun x hx => (hnt x hx).elim) hlocks hce hcv hcl (fun t ht9 _ => ⟨(), trivial, ⟨Or.inr ⟨hXE.1, by unfold leaveF; rw [if_neg hnd, if_pos (Or.inl hXE.2)]⟩, by rw [ht9]; exact hP⟩, hS.F ht9⟩) hS.2.2 (Nat.le_of_ble_eq_true rfl) (Nat.le_of_ble_eq_true rfl)
  try dsimp only at w5 hB
  rw [ht1] at hB
  have hP := wk_ro hP hD [0, 10] rfl hk1 hB
  generalize H1 = H at hP hS ⊢
  refine lv_aload_n hx hb dX4_leave_8 rfl (lv_at hl 0 rfl) ?_
  refine va_get (D := D) (ci := 4) (v := .ref (G 4)) (C := RX4) (T := TX4) (N := 5) hx hb ht inX4 hown hK hP 0 (rfl) rfl 2 (by decide) (ht _ kw1_177) (fun _ h9 => h9) rfl dX4_leave_9 ?_
  refine va_getN (D := D) (ci := 0) (v := .int op) (C := RX0) (T := TX0) (N := 8) hx hb ht inX0 hown hK hP 6 (rfl) rfl 4 (by decide) (ht _ kw1_72) (fun _ h9 => h9) rfl dX4_leave_12 ?_
  refine lv_if_ne (tgt := 49) hx hb dX4_leave_15 (by decide) (fun c15 => ?_) (fun c15 => ?_)
  · have hbad : ¬ off = 0 ∨ ¬ op = 0 ∨ mm (nI n9).toNatClampNeg = 0 ∨ memC mm = 1 := Or.inr (Or.inl c15)
    have hxo := fun (t : State) h1 h2 => xout (t := t) hP hS h1 h2
    exact vx_throwS (names := xNames) (is := 128) (text := "there is a plan, or the node is no member or the only one") (A := A) hx hb hl0 hown (by decide +kernel) xf_n (ht _ kw1_219) (ht _ kw1_15) (hTX.2.2 (128, "there is a plan, or the node is no member or the only one") (by decide)).choose_spec (fun w h => ht w (xt_72 w h)) xg_72 hTX.1 hTX.2.1 hS (hl.1.trans hml.symm) dX4_leave_49 dX4_leave_52 dX4_leave_53 dX4_leave_55 dX4_leave_58 (fun x hx => (hnt x hx).elim) (Nat.le_of_ble_eq_true rfl) (Nat.le_of_ble_eq_true rfl) (Nat.le_of_ble_eq_true rfl) (Nat.le_of_ble_eq_true rfl) hlocks (fun t hvm h1 h2 => ⟨(), trivial, ⟨Or.inr ⟨rfl, by unfold leaveF; rw [if_neg hnd, if_pos (hbad)]⟩, (hxo t h1 h2).1⟩, (hxo t h1 h2).2⟩) hS.2.2 (Nat.le_of_ble_eq_true rfl) (Nat.le_of_ble_eq_true rfl)
  · have hop0 : op = 0 := c15
    refine lv_aload_n hx hb dX4_leave_18 rfl (lv_at hl 0 rfl) ?_
    refine va_get (D := D) (ci := 4) (v := .ref (G 1)) (C := RX4) (T := TX4) (N := 5) hx hb ht inX4 hown hK hP 0 (rfl) rfl 0 (by decide) (ht _ kw1_175) (fun _ h9 => h9) rfl dX4_leave_19 ?_
    refine va_getN (D := D) (ci := 2) (v := .ref (G 2)) (C := RX2) (T := TX2) (N := 4) hx hb ht inX2 hown hK hP 1 (rfl) rfl 0 (by decide) (ht _ kw1_40) (fun _ h9 => h9) rfl dX4_leave_22 ?_
    refine lv_iload_n hx hb dX4_leave_25 rfl (lv_at hl 1 rfl) ?_
    refine ya_iald hx hb hK hP 2 0 (rfl) rfl n9 (rfl) (hn9) (by decide) dX4_leave_26 ?_
    refine lv_if_eq (tgt := 49) hx hb dX4_leave_27 (by decide) (fun c27 => ?_) (fun c27 => ?_)
    · have hbad : ¬ off = 0 ∨ ¬ op = 0 ∨ mm (nI n9).toNatClampNeg = 0 ∨ memC mm = 1 := Or.inr (Or.inr (Or.inl (by
        rw [nI_clamp (by omega)]
        rw [hrr.1 n9 hn9] at c27
        have h16n := h16 n9 hn9
        exact (nI_eq (b := 0) (by omega) (by decide)).mp c27)))
      have hxo := fun (t : State) h1 h2 => xout (t := t) hP hS h1 h2
      exact vx_throwS (names := xNames) (is := 128) (text := "there is a plan, or the node is no member or the only one") (A := A) hx hb hl0 hown (by decide +kernel) xf_n (ht _ kw1_219) (ht _ kw1_15) (hTX.2.2 (128, "there is a plan, or the node is no member or the only one") (by decide)).choose_spec (fun w h => ht w (xt_72 w h)) xg_72 hTX.1 hTX.2.1 hS (hl.1.trans hml.symm) dX4_leave_49 dX4_leave_52 dX4_leave_53 dX4_leave_55 dX4_leave_58 (fun x hx => (hnt x hx).elim) (Nat.le_of_ble_eq_true rfl) (Nat.le_of_ble_eq_true rfl) (Nat.le_of_ble_eq_true rfl) (Nat.le_of_ble_eq_true rfl) hlocks (fun t hvm h1 h2 => ⟨(), trivial, ⟨Or.inr ⟨rfl, by unfold leaveF; rw [if_neg hnd, if_pos (hbad)]⟩, (hxo t h1 h2).1⟩, (hxo t h1 h2).2⟩) hS.2.2 (Nat.le_of_ble_eq_true rfl) (Nat.le_of_ble_eq_true rfl)
    · have hm0 : ¬ mm n9 = 0 := fun q => c27 (by rw [hrr.1 n9 hn9, q]; rfl)
      have h16n := h16 n9 hn9
      have hlen9 := hrg.len h16
      have hle9 := hrg.le h16
      refine lv_aload_n hx hb dX4_leave_30 rfl (lv_at hl 0 rfl) ?_
      refine va_get (D := D) (ci := 4) (v := .ref (G 1)) (C := RX4) (T := TX4) (N := 5) hx hb ht inX4 hown hK hP 0 (rfl) rfl 0 (by decide) (ht _ kw1_175) (fun _ h9 => h9) rfl dX4_leave_31 ?_
      refine va_getN (D := D) (ci := 2) (v := .ref (G 2)) (C := RX2) (T := TX2) (N := 4) hx hb ht inX2 hown hK hP 1 (rfl) rfl 0 (by decide) (ht _ kw1_40) (fun _ h9 => h9) rfl dX4_leave_34 ?_
      refine lv_iload_n hx hb dX4_leave_37 rfl (lv_at hl 1 rfl) ?_
      refine ya_iald hx hb hK hP 2 0 (rfl) rfl n9 (rfl) (hn9) (by decide) dX4_leave_38 ?_
      refine lv_aload_n hx hb dX4_leave_39 rfl (lv_at hl 0 rfl) ?_
      refine va_get (D := D) (ci := 4) (v := .ref (G 1)) (C := RX4) (T := TX4) (N := 5) hx hb ht inX4 hown hK hP 0 (rfl) rfl 0 (by decide) (ht _ kw1_175) (fun _ h9 => h9) rfl dX4_leave_40 ?_
      refine va_getN (D := D) (ci := 2) (v := .int (nI RL.length)) (C := RX2) (T := TX2) (N := 4) hx hb ht inX2 hown hK hP 1 (rfl) rfl 3 (by decide) (ht _ kw1_44) (fun _ h9 => h9) rfl dX4_leave_43 ?_
      refine lv_icmp_ne (tgt := 59) hx hb dX4_leave_46 (by decide) (fun c46 => ?_) (fun c46 => ?_)
      · have hme : ¬ memC mm = 1 := fun q => c46 (by rw [hrr.1 n9 hn9, hlen9, ← (memC_1 hn9 (by omega)).mpr q])
        have hgood : ¬ (¬ off = 0 ∨ ¬ op = 0 ∨ mm (nI n9).toNatClampNeg = 0 ∨ memC mm = 1) := fun q => q.elim (fun z => z w5) (fun q => q.elim (fun z => z hop0) (fun q => q.elim (fun z => by rw [nI_clamp (by omega)] at z; exact hm0 z) hme))
        obtain ⟨h9a, h9b, h9c, h9d⟩ := hpl (hop0)
        subst h9a
        subst h9b
        subst h9c
        subst h9d
        have hP : va_P D vwCl (cW cI cS G SA sf pa no pts rf rg (nI RL.length) pk ps pt L p1 p2 p3 (nI ([] : List (Int32 × Nat × Nat)).length) op (nI 0) (nI 0) (cB false) off left wr rc th Z) H := hP
        have hD : va_D A (cW cI cS G SA sf pa no pts rf rg (nI RL.length) pk ps pt L p1 p2 p3 (nI ([] : List (Int32 × Nat × Nat)).length) op (nI 0) (nI 0) (cB false) off left wr rc th Z) := hD
        refine lv_aload_n hx hb dX4_leave_59 rfl (lv_at hl 0 rfl) ?_
        refine va_get (D := D) (ci := 4) (v := .ref (G 5)) (C := RX4) (T := TX4) (N := 5) hx hb ht inX4 hown hK hP 0 (rfl) rfl 3 (by decide) (ht _ kw1_178) (fun _ h9 => h9) rfl dX4_leave_60 ?_
        have hPc := hP.sub (ws' := [((G 5), .inr (1, [.int off, .int left, .int wr, .int rc]))]) [10] rfl
        have hDc := hD.sub (ws' := [((G 5), .inr (1, [.int off, .int left, .int wr, .int rc]))]) [10] (by decide) rfl
        have hFc := va_free (wc := [((G 5), .inr (1, [.int off, .int left, .int wr, .int rc]))]) hD hS hA [10] rfl
        refine va_calli (va_runVN (As := []) (rest := []) ⟨hx, hb, hml, hown, ht⟩ (c_X1_lastsForRecord l D cI cZ cS cJ H.size (G 5) off left wr rc) ⟨xwN 0 ht kw2_172 kw2_169 kw1_5 rfl rfl (by decide +kernel) ⟨Nat.le_of_ble_eq_true rfl, Nat.le_of_ble_eq_true rfl⟩, ht _ kw2_171, ht _ kwS_13⟩ ⟨PB.blind, va_recv hK hPc (ci := 1) (q0 := 0) rfl rfl, fun U hU hW => PB.mk hU hW hPc hK hDc⟩ rfl rfl hl.1 rfl (lv_room (Nat.le_of_ble_eq_true rfl)) dX4_leave_63 ⟨Nat.le_of_ble_eq_true rfl, Nat.le_of_ble_eq_true rfl⟩) hS (fun q _ h => hFc q h) hFc (fun r63 u63 t63 H1 locs ht1 hvm w63 hB hz1 hk1 hS => ?_)
        try dsimp only at w63 hB
        obtain ⟨hP1, hD1⟩ := hB
        rw [ht1] at hP1
        obtain ⟨hP, hD⟩ := wk_join (w1 := [((G 5), .inr (1, [.int (wOff left off), .int (wLeft left), .int (wInc left wr), .int (wInc left rc)]))]) hP hD [10] rfl (by decide) rfl hk1 hFc hP1 hD1
        generalize H1 = H at hP hS ⊢
        have hP : va_P D vwCl (cW cI cS G SA sf pa no pts rf rg (nI RL.length) pk ps pt L p1 p2 p3 (nI ([] : List (Int32 × Nat × Nat)).length) op (nI 0) (nI 0) (cB false) (wOff left off) (wLeft left) (wInc left wr) (wInc left rc) th Z) H := hP
        have hD : va_D A (cW cI cS G SA sf pa no pts rf rg (nI RL.length) pk ps pt L p1 p2 p3 (nI ([] : List (Int32 × Nat × Nat)).length) op (nI 0) (nI 0) (cB false) (wOff left off) (wLeft left) (wInc left wr) (wInc left rc) th Z) := hD
        refine lv_if_ne (tgt := 72) hx hb dX4_leave_66 (by decide) (fun c66 => ?_) (fun c66 => ?_)
        · have hlf : ¬ left = 0 := wOk_y (by rw [← w63]; exact c66)
          rw [show wOff left off = off from if_neg hlf, show wInc left wr = wr + 1 from if_neg hlf, show wInc left rc = rc + 1 from if_neg hlf] at hP hD
          refine lv_aload_n hx hb dX4_leave_72 rfl (lv_at hl 0 rfl) ?_
          refine va_get (D := D) (ci := 4) (v := .ref (G 1)) (C := RX4) (T := TX4) (N := 5) hx hb ht inX4 hown hK hP 0 (rfl) rfl 0 (by decide) (ht _ kw1_175) (fun _ h9 => h9) rfl dX4_leave_73 ?_
          refine lv_iload_n hx hb dX4_leave_76 rfl (lv_at hl 1 rfl) ?_
          have hPc := hP.sub (ws' := [((G 1), .inr (2, [.ref (G 2), .ref pa, .ref no, .int (nI RL.length)])), ((G 2), .inl (cI, 8, .inl pts)), (pa, .inl (cI, 128, .inl rf)), (no, .inl (cI, 128, .inl rg))]) [1, 2, 3, 4] rfl
          have hDc := hD.sub (ws' := [((G 1), .inr (2, [.ref (G 2), .ref pa, .ref no, .int (nI RL.length)])), ((G 2), .inl (cI, 8, .inl pts)), (pa, .inl (cI, 128, .inl rf)), (no, .inl (cI, 128, .inl rg))]) [1, 2, 3, 4] (by decide) rfl
          have hFc := va_free (wc := [((G 1), .inr (2, [.ref (G 2), .ref pa, .ref no, .int (nI RL.length)])), ((G 2), .inl (cI, 8, .inl pts)), (pa, .inl (cI, 128, .inl rf)), (no, .inl (cI, 128, .inl rg))]) hD hS hA [1, 2, 3, 4] rfl
          refine va_callv (va_runVN (As := [.int (nI n9)]) (rest := []) ⟨hx, hb, hml, hown, ht⟩ (c_X2_dismiss l D cI cZ cS cJ H.size (G 1) (G 2) pa no pts rf rg mm RL hrr hrg h16 n9 hn9) ⟨xwN 1 ht kw2_194 kw2_191 kw1_3 rfl rfl (by decide +kernel) ⟨Nat.le_of_ble_eq_true rfl, Nat.le_of_ble_eq_true rfl⟩, ht _ kw2_193, ht _ kwS_16⟩ ⟨PB.blind, va_recv hK hPc (ci := 2) (q0 := 0) rfl rfl, fun U hU hW => PB.mk hU hW hPc hK hDc⟩ rfl rfl hl.1 rfl (lv_room (Nat.le_of_ble_eq_true rfl)) dX4_leave_77 ⟨Nat.le_of_ble_eq_true rfl, Nat.le_of_ble_eq_true rfl⟩) hS (fun q _ h => hFc q h) hFc (fun u77 t77 H1 locs ht1 hvm w77 hB hz1 hk1 hS => ?_)
          try dsimp only at w77 hB
          obtain ⟨RLn, pan, non, ptn, rfn, rgn⟩ := u77
          dsimp only at w77 hB
          obtain ⟨hP1, hD1⟩ := hB
          rw [ht1] at hP1
          obtain ⟨hP, hD⟩ := wk_join (w1 := [((G 1), .inr (2, [.ref (G 2), .ref pan, .ref non, .int (nI RLn.length)])), ((G 2), .inl (cI, 8, .inl ptn)), (pan, .inl (cI, 128, .inl rfn)), (non, .inl (cI, 128, .inl rgn))]) hP hD [1, 2, 3, 4] rfl (by decide) rfl hk1 hFc hP1 hD1
          generalize H1 = H at hP hS ⊢
          have hP : va_P D vwCl (cW cI cS G SA sf pan non ptn rfn rgn (nI RLn.length) pk ps pt L p1 p2 p3 (nI ([] : List (Int32 × Nat × Nat)).length) op (nI 0) (nI 0) (cB false) off (wLeft left) (wr + 1) (rc + 1) th Z) H := hP
          have hD : va_D A (cW cI cS G SA sf pan non ptn rfn rgn (nI RLn.length) pk ps pt L p1 p2 p3 (nI ([] : List (Int32 × Nat × Nat)).length) op (nI 0) (nI 0) (cB false) off (wLeft left) (wr + 1) (rc + 1) th Z) := hD
          obtain ⟨hrgn, hrrn⟩ := w77
          refine lv_aload_n hx hb dX4_leave_80 rfl (lv_at hl 0 rfl) ?_
          have hPc := hP
          have hDc := hD
          have hFc := wfree hD hS hA
          refine va_callv (va_runV (As := []) (rest := []) ⟨hx, hb, hml, hown, ht⟩ (c_X4_makePlan l D cI cZ cS cJ H.size G SA sf hsf pan non ptn rfn rgn RLn pk ps pt L p1 p2 p3 op off (wLeft left) (wr + 1) (rc + 1) th Z (fu mm n9 0) ⟨⟨hrrn, hrgn, (MM_leave hM hn9 hm0 hme).1, (MM_leave hM hn9 hm0 hme)⟩, hci.2.1, hzs⟩ (ownK mm) (hv hop0) (h256 hop0 _)) (xwV 0 ht kw2_177 kw2_174 kw1_1 kw2_176 kwS_14 rfl rfl (by decide +kernel) ⟨Nat.le_of_ble_eq_true rfl, Nat.le_of_ble_eq_true rfl⟩) ⟨PB.blind, va_recv hK hPc (ci := 4) (q0 := 0) rfl rfl, fun U hU hW => PB.mk hU hW hPc hK hDc⟩ rfl rfl hl.1 rfl (lv_room (Nat.le_of_ble_eq_true rfl)) dX4_leave_81 ⟨Nat.le_of_ble_eq_true rfl, Nat.le_of_ble_eq_true rfl⟩) hS (fun q _ h => hFc q h) hFc (fun u81 t81 H1 locs ht1 hvm w81 hB hz1 hk1 hS => ?_)
          try dsimp only at w81 hB
          obtain ⟨pk1, ps1, pt1, L1, q1, q2, q3⟩ := u81
          dsimp only at w81 hB
          obtain ⟨hP1, hD1⟩ := hB
          rw [ht1] at hP1
          have hP := hP1
          have hD := wjoinW hD1 hFc
          generalize H1 = H at hP hS ⊢
          have hP : va_P D vwCl (cW cI cS G SA sf pan non ptn rfn rgn (nI RLn.length) pk1 ps1 pt1 L1 q1 q2 q3 (nI (plUp (stZ Z) (ownK (fu mm n9 0)) 8).length) 1 (nI 0) (nI 0) (cB false) off (wLeft left) (wr + 1) (rc + 1) th Z) H := hP
          have hD : va_D A (cW cI cS G SA sf pan non ptn rfn rgn (nI RLn.length) pk1 ps1 pt1 L1 q1 q2 q3 (nI (plUp (stZ Z) (ownK (fu mm n9 0)) 8).length) 1 (nI 0) (nI 0) (cB false) off (wLeft left) (wr + 1) (rc + 1) th Z) := hD
          refine lv_aload_n hx hb dX4_leave_84 rfl (lv_at hl 0 rfl) ?_
          refine va_get (D := D) (ci := 4) (v := .ref (G 4)) (C := RX4) (T := TX4) (N := 5) hx hb ht inX4 hown hK hP 0 (rfl) rfl 2 (by decide) (ht _ kw1_177) (fun _ h9 => h9) rfl dX4_leave_85 ?_
          refine va_getN (D := D) (ci := 0) (v := .int (nI (plUp (stZ Z) (ownK (fu mm n9 0)) 8).length)) (C := RX0) (T := TX0) (N := 8) hx hb ht inX0 hown hK hP 6 (rfl) rfl 3 (by decide) (ht _ kw1_70) (fun _ h9 => h9) rfl dX4_leave_88 ?_
          refine vx_ret ?_
          refine W.widen (k := 70) (n := 3800) (Nat.le_of_ble_eq_true rfl) (Nat.le_of_ble_eq_true rfl) ?_
          exact W.iret (v := nI (plUp (stZ Z) (ownK (fu mm n9 0)) 8).length) hx hb hr (fun t ht2 hW => ⟨⟨nI (plUp (stZ Z) (ownK (fu mm n9 0)) 8).length, (pan, non, ptn, rfn, rgn, RLn, pk1, ps1, pt1, L1, q1, q2, q3, 1, off, wLeft left, wr + 1, rc + 1, th, Z, fu mm n9 0, plUp (stZ Z) (ownK (fu mm n9 0)) 8, 0, 0, false), rfl, by
                (try dsimp only)
                refine ⟨?_, ?_, rfl⟩
                · unfold leaveF
                  rw [if_neg hnd, if_neg hgood, nI_clamp (show n9 < 2 ^ 31 by omega)]
                  unfold changeF
                  first | (rw [if_pos hlf]; rfl) | (rw [if_neg hlf]; rfl)
                · exact ⟨⟨hrrn, hrgn, (MM_leave hM hn9 hm0 hme).1, MM_leave hM hn9 hm0 hme⟩, ⟨w81.1, w81.2, h256 hop0 _, Nat.zero_le _, Nat.zero_le _, plUp_srt (fun n hn => (hzs n hn).2.1) (hv hop0), plUp_P8 (MM_leave hM hn9 hm0 hme)⟩, hzs⟩, ⟨by (try dsimp only); rw [ht2]; exact hP, by exact hD⟩⟩, hS.F ht2⟩) hS.2.2 dX4_leave_91
        · have hlf : left = 0 := wOk_n (by rw [← w63]; exact c66)
          rw [show wOff left off = 1 from if_pos hlf, wLeft_z hlf, show wInc left wr = wr from if_pos hlf, show wInc left rc = rc from if_pos hlf] at hP hD
          refine lv_bipush (v := (-9)) hx hb dX4_leave_69 (by decide) ?_
          refine vx_ret ?_
          refine W.widen (k := 70) (n := 3800) (Nat.le_of_ble_eq_true rfl) (Nat.le_of_ble_eq_true rfl) ?_
          exact W.iret (v := (-9)) hx hb hr (fun t ht2 hW => ⟨⟨(-9), (pa, no, pts, rf, rg, RL, pk, ps, pt, L, p1, p2, p3, op, 1, left, wr, rc, th, Z, mm, ([] : List (Int32 × Nat × Nat)), 0, 0, false), rfl, by
                (try dsimp only)
                refine ⟨?_, ?_, rfl⟩
                · unfold leaveF
                  rw [if_neg hnd, if_neg hgood, nI_clamp (show n9 < 2 ^ 31 by omega)]
                  unfold changeF
                  first | (rw [if_pos hlf]; rfl) | (rw [if_neg hlf]; rfl)
                · exact hci, ⟨by (try dsimp only); rw [ht2]; exact hP, by exact hD⟩⟩, hS.F ht2⟩) hS.2.2 dX4_leave_71
      · have hbad : ¬ off = 0 ∨ ¬ op = 0 ∨ mm (nI n9).toNatClampNeg = 0 ∨ memC mm = 1 := Or.inr (Or.inr (Or.inr ((memC_1 hn9 (by omega)).mp (by
          rw [hrr.1 n9 hn9] at c46
          rw [← hlen9]
          exact (nI_eq (by omega) (by omega)).mp c46))))
        have hxo := fun (t : State) h1 h2 => xout (t := t) hP hS h1 h2
        exact vx_throwS (names := xNames) (is := 128) (text := "there is a plan, or the node is no member or the only one") (A := A) hx hb hl0 hown (by decide +kernel) xf_n (ht _ kw1_219) (ht _ kw1_15) (hTX.2.2 (128, "there is a plan, or the node is no member or the only one") (by decide)).choose_spec (fun w h => ht w (xt_72 w h)) xg_72 hTX.1 hTX.2.1 hS (hl.1.trans hml.symm) dX4_leave_49 dX4_leave_52 dX4_leave_53 dX4_leave_55 dX4_leave_58 (fun x hx => (hnt x hx).elim) (Nat.le_of_ble_eq_true rfl) (Nat.le_of_ble_eq_true rfl) (Nat.le_of_ble_eq_true rfl) (Nat.le_of_ble_eq_true rfl) hlocks (fun t hvm h1 h2 => ⟨(), trivial, ⟨Or.inr ⟨rfl, by unfold leaveF; rw [if_neg hnd, if_pos (hbad)]⟩, (hxo t h1 h2).1⟩, (hxo t h1 h2).2⟩) hS.2.2 (Nat.le_of_ble_eq_true rfl) (Nat.le_of_ble_eq_true rfl)
