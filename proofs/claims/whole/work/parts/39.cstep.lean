-- the class ShardRing: step and what it does
set_option maxHeartbeats 4000000 in
set_option maxRecDepth 100000 in
theorem c_X4_flip (l : Launch) (D : va_G) (cI cZ cS cJ : ClassId) (sz : Nat) (G SA : Nat → Nat) (sf : Nat → Option Nat) (hsf : ∀ n, n < 8 → sf n = some (SA n)) (pa no : Nat) (pts rf rg : Nat → Int32) (RL : List (Int32 × Int32)) (pk ps pt L : Nat) (p1 p2 p3 : Nat → Int32) (op off left wr rc th : Int32) (Z : Nat → ST) (mm : Nat → Nat) (rows : List (Int32 × Nat × Nat)) (F Gn : Nat) (C : Bool) (hci : CI mm RL pts rf rg rows L p1 p2 p3 F Gn Z) (hoff0 : off = 0) (hop : ¬ op = 0) (hG : Gn ≤ F) (hF : F ≤ rows.length) (hGF : Gn = F) (hFl : F < rows.length) (hC : C = true) : Met l yX4_flip (Cond.code yX4_flip cX4_flip 1 (some .int) :: TB) ({ frames := 2, cells := 6, slots := 8300, locals := 40 } : Room) (va_Pc [.ref (G 0)] (PB D (KT cI cZ cS cJ) (cW cI cS G SA sf pa no pts rf rg (nI RL.length) pk ps pt L p1 p2 p3 (nI rows.length) op (nI F) (nI Gn) (cB C) off left wr rc th Z) sz)) (va_Qi (fun r (u : CT) => stepF off left wr rc (stZ Z) mm op rows F Gn C = (0, r, sgu u) ∧ CIu u ∧ thu u = th) (fun (u : CT) t => va_P D vwCl (cWu cI cS G SA sf u) t.heap ∧ va_D (va_A (cW cI cS G SA sf pa no pts rf rg (nI RL.length) pk ps pt L p1 p2 p3 (nI rows.length) op (nI F) (nI Gn) (cB C) off left wr rc th Z) sz) (cWu cI cS G SA sf u)) (va_A (cW cI cS G SA sf pa no pts rf rg (nI RL.length) pk ps pt L p1 p2 p3 (nI rows.length) op (nI F) (nI Gn) (cB C) off left wr rc th Z) sz)) 6 8300 (va_A (cW cI cS G SA sf pa no pts rf rg (nI RL.length) pk ps pt L p1 p2 p3 (nI rows.length) op (nI F) (nI Gn) (cB C) off left wr rc th Z) sz) := by
  refine Met.ofW (cc := cX4_flip) (maxL := 1) (ret := (some .int)) (by decide) rfl ?_
  intro p e s m args below meth c s₁ B hml hv
  obtain ⟨rfl, hsz, hP, hK, hD0⟩ := hv
  have hx := B.exec
  have hb := B.bytes
  have hr := B.returns
  have hts := atoms_spec (ws := (Cond.code yX4_flip cX4_flip 1 (some .int) :: TB)) B.pre
  have ht : ∀ w ∈ TB, w.before _ s = true := fun w h => hts w (List.mem_cons_of_mem _ h)
  have hown : s.vm.findClass RX4 = some m.cls := findClass_of_methodNamed B.named
  have hlocks := B.notSynchronized
  subst hsz
  have hD := hD0.self (sz := s.heap.size)
  generalize hAe : va_A (cW cI cS G SA sf pa no pts rf rg (nI RL.length) pk ps pt L p1 p2 p3 (nI rows.length) op (nI F) (nI Gn) (cB C) off left wr rc th Z) s.heap.size = A at hD ⊢
  have hA : ∀ q : Nat, s.heap.size ≤ q → A q := fun q h => by rw [← hAe]; exact Or.inr h
  have hS : va_S A s.heap s.heap [] := va_S.rf
  have hP : va_P D vwCl (cW cI cS G SA sf pa no pts rf rg (nI RL.length) pk ps pt L p1 p2 p3 (nI rows.length) op (nI F) (nI Gn) (cB C) off left wr rc th Z) s.heap := hP
  have hl := lv_entry ([.ref (G 0)]) (n := 1) (Nat.le_of_ble_eq_true rfl)
  rw [lg_entry_eq]
  generalize (lg_sl ([.ref (G 0)]) ++ List.replicate (1 - (lg_sl ([.ref (G 0)])).length) Slot.unset).toArray = ls at hl ⊢
  have hl : lv_has ls 1 [(0, .ref (G 0))] := hl
  obtain ⟨⟨hrr, hrg, h16, hM⟩, ⟨hpr, h32, hrl, hF9, hG9, hsr, hp8⟩, hzs⟩ := id hci
  refine lv_aload_n hx hb dX4_flip_0 rfl (lv_at hl 0 rfl) ?_
  refine va_get (D := D) (ci := 4) (v := .ref (G 5)) (C := RX4) (T := TX4) (N := 5) hx hb ht inX4 hown hK hP 0 (rfl) rfl 3 (by decide) (ht _ kw1_178) (fun _ h9 => h9) rfl dX4_flip_1 ?_
  have hPc := hP.sub (ws' := [((G 5), .inr (1, [.int off, .int left, .int wr, .int rc]))]) [10] rfl
  have hDc := hD.sub (ws' := [((G 5), .inr (1, [.int off, .int left, .int wr, .int rc]))]) [10] (by decide) rfl
  have hFc := va_free (wc := [((G 5), .inr (1, [.int off, .int left, .int wr, .int rc]))]) hD hS hA [10] rfl
  refine va_calli (va_runVN (As := []) (rest := []) ⟨hx, hb, hml, hown, ht⟩ (c_X1_lastsForRecord l D cI cZ cS cJ s.heap.size (G 5) off left wr rc) ⟨xwN 0 ht kw2_172 kw2_169 kw1_5 rfl rfl (by decide +kernel) ⟨Nat.le_of_ble_eq_true rfl, Nat.le_of_ble_eq_true rfl⟩, ht _ kw2_171, ht _ kwS_13⟩ ⟨PB.blind, va_recv hK hPc (ci := 1) (q0 := 0) rfl rfl, fun U hU hW => PB.mk hU hW hPc hK hDc⟩ rfl rfl hl.1 rfl (lv_room (Nat.le_of_ble_eq_true rfl)) dX4_flip_4 ⟨Nat.le_of_ble_eq_true rfl, Nat.le_of_ble_eq_true rfl⟩) hS (fun q _ h => hFc q h) hFc (fun r4 u4 t4 H1 locs ht1 hvm w4 hB hz1 hk1 hS => ?_)
  try dsimp only at w4 hB
  obtain ⟨hP1, hD1⟩ := hB
  rw [ht1] at hP1
  obtain ⟨hP, hD⟩ := wk_join (w1 := [((G 5), .inr (1, [.int (wOff left off), .int (wLeft left), .int (wInc left wr), .int (wInc left rc)]))]) hP hD [10] rfl (by decide) rfl hk1 hFc hP1 hD1
  generalize H1 = H at hP hS ⊢
  have hP : va_P D vwCl (cW cI cS G SA sf pa no pts rf rg (nI RL.length) pk ps pt L p1 p2 p3 (nI rows.length) op (nI F) (nI Gn) (cB C) (wOff left off) (wLeft left) (wInc left wr) (wInc left rc) th Z) H := hP
  have hD : va_D A (cW cI cS G SA sf pa no pts rf rg (nI RL.length) pk ps pt L p1 p2 p3 (nI rows.length) op (nI F) (nI Gn) (cB C) (wOff left off) (wLeft left) (wInc left wr) (wInc left rc) th Z) := hD
  refine lv_if_ne (tgt := 13) hx hb dX4_flip_7 (by decide) (fun c7 => ?_) (fun c7 => ?_)
  · have hlf : ¬ left = 0 := wOk_y (by rw [← w4]; exact c7)
    rw [show wOff left off = off from if_neg hlf, show wInc left wr = wr + 1 from if_neg hlf, show wInc left rc = rc + 1 from if_neg hlf] at hP hD
    refine lv_aload_n hx hb dX4_flip_13 rfl (lv_at hl 0 rfl) ?_
    refine va_get (D := D) (ci := 4) (v := .ref (G 4)) (C := RX4) (T := TX4) (N := 5) hx hb ht inX4 hown hK hP 0 (rfl) rfl 2 (by decide) (ht _ kw1_177) (fun _ h9 => h9) rfl dX4_flip_14 ?_
    refine lv_dup hx hb dX4_flip_17 rfl ?_
    refine va_getN (D := D) (ci := 0) (v := .int (nI F)) (C := RX0) (T := TX0) (N := 8) hx hb ht inX0 hown hK hP 6 (rfl) rfl 5 (by decide) (ht _ kw1_74) (fun _ h9 => h9) rfl dX4_flip_18 ?_
    refine lv_iconst (v := 1) hx hb dX4_flip_21 (by decide) ?_
    refine lv_iadd hx hb dX4_flip_22 ?_
    refine va_putN (D := D) (ci := 0) (v := .int ((nI F) + 1)) (ty := .int) (C := RX0) (T := TX0) (N := 8) hx hb ht inX0 tyX0 tyX0_ok nmX0 hown hK hP hD hS 6 rfl rfl 5 (by decide) (ht _ kw1_74) (fun _ h9 => h9) rfl (by decide +kernel) (rfl) rfl (Nat.le_of_ble_eq_true rfl) dX4_flip_23 (fun H locs hP hD hS => ?_)
    have hP : va_P D vwCl (cW cI cS G SA sf pa no pts rf rg (nI RL.length) pk ps pt L p1 p2 p3 (nI rows.length) op ((nI F) + 1) (nI Gn) (cB C) off (wLeft left) (wr + 1) (rc + 1) th Z) H := hP
    have hD : va_D A (cW cI cS G SA sf pa no pts rf rg (nI RL.length) pk ps pt L p1 p2 p3 (nI rows.length) op ((nI F) + 1) (nI Gn) (cB C) off (wLeft left) (wr + 1) (rc + 1) th Z) := hD
    rw [nI_1 F] at hP hD
    have hP : va_P D vwCl (cW cI cS G SA sf pa no pts rf rg (nI RL.length) pk ps pt L p1 p2 p3 (nI rows.length) op (nI (F + 1)) (nI Gn) (cB C) off (wLeft left) (wr + 1) (rc + 1) th Z) H := hP
    have hD : va_D A (cW cI cS G SA sf pa no pts rf rg (nI RL.length) pk ps pt L p1 p2 p3 (nI rows.length) op (nI (F + 1)) (nI Gn) (cB C) off (wLeft left) (wr + 1) (rc + 1) th Z) := hD
    refine lv_aload_n hx hb dX4_flip_26 rfl (lv_at hl 0 rfl) ?_
    refine va_get (D := D) (ci := 4) (v := .ref (G 4)) (C := RX4) (T := TX4) (N := 5) hx hb ht inX4 hown hK hP 0 (rfl) rfl 2 (by decide) (ht _ kw1_177) (fun _ h9 => h9) rfl dX4_flip_27 ?_
    refine lv_iconst (v := 0) hx hb dX4_flip_30 (by decide) ?_
    refine va_putN (D := D) (ci := 0) (v := .int 0) (ty := .boolean) (C := RX0) (T := TX0) (N := 8) hx hb ht inX0 tyX0 tyX0_ok nmX0 hown hK hP hD hS 6 rfl rfl 7 (by decide) (ht _ kw1_78) (fun _ h9 => h9) rfl (by decide +kernel) (by decide +kernel) rfl (Nat.le_of_ble_eq_true rfl) dX4_flip_31 (fun H locs hP hD hS => ?_)
    have hP : va_P D vwCl (cW cI cS G SA sf pa no pts rf rg (nI RL.length) pk ps pt L p1 p2 p3 (nI rows.length) op (nI (F + 1)) (nI Gn) 0 off (wLeft left) (wr + 1) (rc + 1) th Z) H := hP
    have hD : va_D A (cW cI cS G SA sf pa no pts rf rg (nI RL.length) pk ps pt L p1 p2 p3 (nI rows.length) op (nI (F + 1)) (nI Gn) 0 off (wLeft left) (wr + 1) (rc + 1) th Z) := hD
    refine lv_iconst (v := 3) hx hb dX4_flip_34 (by decide) ?_
    refine W.widen (k := 6) (n := 8300) (Nat.le_of_ble_eq_true rfl) (Nat.le_of_ble_eq_true rfl) ?_
    exact W.iret (v := 3) hx hb hr (fun t ht2 hW => ⟨⟨3, (pa, no, pts, rf, rg, RL, pk, ps, pt, L, p1, p2, p3, op, off, wLeft left, wr + 1, rc + 1, th, Z, mm, rows, F + 1, Gn, false), rfl, by
          (try dsimp only)
          refine ⟨?_, ⟨hci.1, ⟨hpr, h32, hrl, by first | exact hF9 | (show F + 1 ≤ 256; omega), hG9, hsr, hp8⟩, hzs⟩, rfl⟩
          unfold stepF
          rw [if_neg (fun q => q.elim (fun z => z hoff0) hop)]
          first | (rw [if_pos hlf]; rfl) | (rw [if_neg hlf]; (rw [if_neg (show ¬ Gn = rows.length by omega), if_neg (show ¬ Gn < F by omega), if_pos hC]; rfl)), ⟨by (try dsimp only); rw [ht2]; exact hP, by exact hD⟩⟩, hS.F ht2⟩) hS.2.2 dX4_flip_35
  · have hlf : left = 0 := wOk_n (by rw [← w4]; exact c7)
    rw [show wOff left off = 1 from if_pos hlf, wLeft_z hlf, show wInc left wr = wr from if_pos hlf, show wInc left rc = rc from if_pos hlf] at hP hD
    refine lv_bipush (v := (-9)) hx hb dX4_flip_10 (by decide) ?_
    refine W.widen (k := 6) (n := 8300) (Nat.le_of_ble_eq_true rfl) (Nat.le_of_ble_eq_true rfl) ?_
    exact W.iret (v := (-9)) hx hb hr (fun t ht2 hW => ⟨⟨(-9), (pa, no, pts, rf, rg, RL, pk, ps, pt, L, p1, p2, p3, op, 1, left, wr, rc, th, Z, mm, rows, F, Gn, C), rfl, by
          (try dsimp only)
          refine ⟨?_, ⟨hci.1, ⟨hpr, h32, hrl, by first | exact hF9 | (show F + 1 ≤ 256; omega), hG9, hsr, hp8⟩, hzs⟩, rfl⟩
          unfold stepF
          rw [if_neg (fun q => q.elim (fun z => z hoff0) hop)]
          first | (rw [if_pos hlf]; rfl) | (rw [if_neg hlf]; (rw [if_neg (show ¬ Gn = rows.length by omega), if_neg (show ¬ Gn < F by omega), if_pos hC]; rfl)), ⟨by (try dsimp only); rw [ht2]; exact hP, by exact hD⟩⟩, hS.F ht2⟩) hS.2.2 dX4_flip_12

set_option maxHeartbeats 4000000 in
set_option maxRecDepth 100000 in
theorem c_X4_takeOffSource (l : Launch) (D : va_G) (cI cZ cS cJ : ClassId) (sz : Nat) (G SA : Nat → Nat) (sf : Nat → Option Nat) (hsf : ∀ n, n < 8 → sf n = some (SA n)) (pa no : Nat) (pts rf rg : Nat → Int32) (RL : List (Int32 × Int32)) (pk ps pt L : Nat) (p1 p2 p3 : Nat → Int32) (op off left wr rc th : Int32) (Z : Nat → ST) (mm : Nat → Nat) (rows : List (Int32 × Nat × Nat)) (F Gn : Nat) (C : Bool) (hci : CI mm RL pts rf rg rows L p1 p2 p3 F Gn Z) (hoff0 : off = 0) (hop : ¬ op = 0) (hG : Gn ≤ F) (hF : F ≤ rows.length) (hGF : Gn < F) : Met l yX4_takeOffSource (Cond.code yX4_takeOffSource cX4_takeOffSource 2 (some .int) :: TB) ({ frames := 4, cells := 6, slots := 8300, locals := 87 } : Room) (va_Pc [.ref (G 0), .int (nI Gn)] (PB D (KT cI cZ cS cJ) (cW cI cS G SA sf pa no pts rf rg (nI RL.length) pk ps pt L p1 p2 p3 (nI rows.length) op (nI F) (nI Gn) (cB C) off left wr rc th Z) sz)) (va_Qi (fun r (u : CT) => stepF off left wr rc (stZ Z) mm op rows F Gn C = (0, r, sgu u) ∧ CIu u ∧ thu u = th) (fun (u : CT) t => va_P D vwCl (cWu cI cS G SA sf u) t.heap ∧ va_D (va_A (cW cI cS G SA sf pa no pts rf rg (nI RL.length) pk ps pt L p1 p2 p3 (nI rows.length) op (nI F) (nI Gn) (cB C) off left wr rc th Z) sz) (cWu cI cS G SA sf u)) (va_A (cW cI cS G SA sf pa no pts rf rg (nI RL.length) pk ps pt L p1 p2 p3 (nI rows.length) op (nI F) (nI Gn) (cB C) off left wr rc th Z) sz)) 6 8300 (va_A (cW cI cS G SA sf pa no pts rf rg (nI RL.length) pk ps pt L p1 p2 p3 (nI rows.length) op (nI F) (nI Gn) (cB C) off left wr rc th Z) sz) := by
  refine Met.ofW (cc := cX4_takeOffSource) (maxL := 2) (ret := (some .int)) (by decide) rfl ?_
  intro p e s m args below meth c s₁ B hml hv
  obtain ⟨rfl, hsz, hP, hK, hD0⟩ := hv
  have hx := B.exec
  have hb := B.bytes
  have hr := B.returns
  have hts := atoms_spec (ws := (Cond.code yX4_takeOffSource cX4_takeOffSource 2 (some .int) :: TB)) B.pre
  have ht : ∀ w ∈ TB, w.before _ s = true := fun w h => hts w (List.mem_cons_of_mem _ h)
  have hown : s.vm.findClass RX4 = some m.cls := findClass_of_methodNamed B.named
  have hlocks := B.notSynchronized
  subst hsz
  have hD := hD0.self (sz := s.heap.size)
  generalize hAe : va_A (cW cI cS G SA sf pa no pts rf rg (nI RL.length) pk ps pt L p1 p2 p3 (nI rows.length) op (nI F) (nI Gn) (cB C) off left wr rc th Z) s.heap.size = A at hD ⊢
  have hA : ∀ q : Nat, s.heap.size ≤ q → A q := fun q h => by rw [← hAe]; exact Or.inr h
  have hS : va_S A s.heap s.heap [] := va_S.rf
  have hP : va_P D vwCl (cW cI cS G SA sf pa no pts rf rg (nI RL.length) pk ps pt L p1 p2 p3 (nI rows.length) op (nI F) (nI Gn) (cB C) off left wr rc th Z) s.heap := hP
  have hl := lv_entry ([.ref (G 0), .int (nI Gn)]) (n := 2) (Nat.le_of_ble_eq_true rfl)
  rw [lg_entry_eq]
  generalize (lg_sl ([.ref (G 0), .int (nI Gn)]) ++ List.replicate (2 - (lg_sl ([.ref (G 0), .int (nI Gn)])).length) Slot.unset).toArray = ls at hl ⊢
  have hl : lv_has ls 2 [(0, .ref (G 0)), (1, .int (nI Gn))] := hl
  obtain ⟨⟨hrr, hrg, h16, hM⟩, ⟨hpr, h32, hrl, hF9, hG9, hsr, hp8⟩, hzs⟩ := id hci
  have hgl : Gn < rows.length := by omega
  have hsg : pS rows Gn < 8 := (hp8 Gn hgl).1
  have htg : pT rows Gn < 8 := (hp8 Gn hgl).2
  refine lv_aload_n hx hb dX4_takeOffSource_0 rfl (lv_at hl 0 rfl) ?_
  refine va_get (D := D) (ci := 4) (v := .ref (G 5)) (C := RX4) (T := TX4) (N := 5) hx hb ht inX4 hown hK hP 0 (rfl) rfl 3 (by decide) (ht _ kw1_178) (fun _ h9 => h9) rfl dX4_takeOffSource_1 ?_
  have hPc := hP.sub (ws' := [((G 5), .inr (1, [.int off, .int left, .int wr, .int rc]))]) [10] rfl
  have hDc := hD.sub (ws' := [((G 5), .inr (1, [.int off, .int left, .int wr, .int rc]))]) [10] (by decide) rfl
  have hFc := va_free (wc := [((G 5), .inr (1, [.int off, .int left, .int wr, .int rc]))]) hD hS hA [10] rfl
  refine va_calli (va_runVN (As := []) (rest := []) ⟨hx, hb, hml, hown, ht⟩ (c_X1_lastsForWrite l D cI cZ cS cJ s.heap.size (G 5) off left wr rc) ⟨xwN 0 ht kw2_78 kw2_75 kw1_5 rfl rfl (by decide +kernel) ⟨Nat.le_of_ble_eq_true rfl, Nat.le_of_ble_eq_true rfl⟩, ht _ kw2_77, ht _ kwS_9⟩ ⟨PB.blind, va_recv hK hPc (ci := 1) (q0 := 0) rfl rfl, fun U hU hW => PB.mk hU hW hPc hK hDc⟩ rfl rfl hl.1 rfl (lv_room (Nat.le_of_ble_eq_true rfl)) dX4_takeOffSource_4 ⟨Nat.le_of_ble_eq_true rfl, Nat.le_of_ble_eq_true rfl⟩) hS (fun q _ h => hFc q h) hFc (fun r4 u4 t4 H1 locs ht1 hvm w4 hB hz1 hk1 hS => ?_)
  try dsimp only at w4 hB
  obtain ⟨hP1, hD1⟩ := hB
  rw [ht1] at hP1
  obtain ⟨hP, hD⟩ := wk_join (w1 := [((G 5), .inr (1, [.int (wOff left off), .int (wLeft left), .int (wInc left wr), .int rc]))]) hP hD [10] rfl (by decide) rfl hk1 hFc hP1 hD1
  generalize H1 = H at hP hS ⊢
  have hP : va_P D vwCl (cW cI cS G SA sf pa no pts rf rg (nI RL.length) pk ps pt L p1 p2 p3 (nI rows.length) op (nI F) (nI Gn) (cB C) (wOff left off) (wLeft left) (wInc left wr) rc th Z) H := hP
  have hD : va_D A (cW cI cS G SA sf pa no pts rf rg (nI RL.length) pk ps pt L p1 p2 p3 (nI rows.length) op (nI F) (nI Gn) (cB C) (wOff left off) (wLeft left) (wInc left wr) rc th Z) := hD
  refine lv_if_ne (tgt := 13) hx hb dX4_takeOffSource_7 (by decide) (fun c7 => ?_) (fun c7 => ?_)
  · have hlf : ¬ left = 0 := wOk_y (by rw [← w4]; exact c7)
    rw [show wOff left off = off from if_neg hlf, show wInc left wr = wr + 1 from if_neg hlf] at hP hD
    refine lv_aload_n hx hb dX4_takeOffSource_13 rfl (lv_at hl 0 rfl) ?_
    refine va_get (D := D) (ci := 4) (v := .ref (G 3)) (C := RX4) (T := TX4) (N := 5) hx hb ht inX4 hown hK hP 0 (rfl) rfl 1 (by decide) (ht _ kw1_176) (fun _ h9 => h9) rfl dX4_takeOffSource_14 ?_
    refine lv_aload_n hx hb dX4_takeOffSource_17 rfl (lv_at hl 0 rfl) ?_
    refine va_get (D := D) (ci := 4) (v := .ref (G 4)) (C := RX4) (T := TX4) (N := 5) hx hb ht inX4 hown hK hP 0 (rfl) rfl 2 (by decide) (ht _ kw1_177) (fun _ h9 => h9) rfl dX4_takeOffSource_18 ?_
    refine va_getN (D := D) (ci := 0) (v := .ref ps) (C := RX0) (T := TX0) (N := 8) hx hb ht inX0 hown hK hP 6 (rfl) rfl 1 (by decide) (ht _ kw1_66) (fun _ h9 => h9) rfl dX4_takeOffSource_21 ?_
    refine lv_iload_n hx hb dX4_takeOffSource_24 rfl (lv_at hl 1 rfl) ?_
    refine ya_iald hx hb hK hP 8 0 (rfl) rfl Gn (rfl) (by have := hpr.1; omega) (by have := hpr.2.1; omega) dX4_takeOffSource_25 ?_
    refine ya_aldq hx hb hK hP 5 2 rfl rfl (pS rows Gn) ((hpr.2.2 _ hgl).2.1) (hsg) (by decide) (v := SA (pS rows Gn)) (hsf _ hsg) dX4_takeOffSource_26 ?_
    refine lv_aload_n hx hb dX4_takeOffSource_27 rfl (lv_at hl 0 rfl) ?_
    refine va_get (D := D) (ci := 4) (v := .ref (G 4)) (C := RX4) (T := TX4) (N := 5) hx hb ht inX4 hown hK hP 0 (rfl) rfl 2 (by decide) (ht _ kw1_177) (fun _ h9 => h9) rfl dX4_takeOffSource_28 ?_
    refine va_getN (D := D) (ci := 0) (v := .ref pk) (C := RX0) (T := TX0) (N := 8) hx hb ht inX0 hown hK hP 6 (rfl) rfl 0 (by decide) (ht _ kw1_64) (fun _ h9 => h9) rfl dX4_takeOffSource_31 ?_
    refine lv_iload_n hx hb dX4_takeOffSource_34 rfl (lv_at hl 1 rfl) ?_
    refine ya_iald hx hb hK hP 7 0 (rfl) rfl Gn (rfl) (by have := hpr.1; omega) (by have := hpr.2.1; omega) dX4_takeOffSource_35 ?_
    rw [(hpr.2.2 _ hgl).1]
    skip
    have hPc := hP.sub (ws' := stE cI (SA (pS rows Gn)) (Z (pS rows Gn))) [11 + 3 * (pS rows Gn), 12 + 3 * (pS rows Gn), 13 + 3 * (pS rows Gn)] (st_fm (hsg))
    have hDc := hD.sub (ws' := stE cI (SA (pS rows Gn)) (Z (pS rows Gn))) [11 + 3 * (pS rows Gn), 12 + 3 * (pS rows Gn), 13 + 3 * (pS rows Gn)] (st_nd _) (st_map (hsg))
    have hFc := va_free (wc := stE cI (SA (pS rows Gn)) (Z (pS rows Gn))) hD hS hA [11 + 3 * (pS rows Gn), 12 + 3 * (pS rows Gn), 13 + 3 * (pS rows Gn)] (st_map (hsg))
    refine va_callv (va_runVN (As := [.int (pK rows Gn)]) (rest := []) ⟨hx, hb, hml, hown, ht⟩ (c_X3_drop l D cI cZ cS cJ H.size (SA (pS rows Gn)) (zK (Z (pS rows Gn))) (zV (Z (pS rows Gn))) (zL1 (Z (pS rows Gn))) (zL2 (Z (pS rows Gn))) (zF (Z (pS rows Gn))) (zG (Z (pS rows Gn))) (zL (Z (pS rows Gn))) (hzs _ (hsg)).1 (hzs _ (hsg)).2.1 (hzs _ (hsg)).2.2 (pK rows Gn)) ⟨xwN 1 ht kw2_94 kw2_91 kw1_6 rfl rfl (by decide +kernel) ⟨Nat.le_of_ble_eq_true rfl, Nat.le_of_ble_eq_true rfl⟩, ht _ kw2_93, ht _ kwS_11⟩ ⟨PB.blind, va_recv hK hPc (ci := 3) (q0 := 0) rfl rfl, fun U hU hW => PB.mk hU hW hPc hK hDc⟩ rfl rfl hl.1 rfl (lv_room (Nat.le_of_ble_eq_true rfl)) dX4_takeOffSource_36 ⟨Nat.le_of_ble_eq_true rfl, Nat.le_of_ble_eq_true rfl⟩) hS (fun q _ h => hFc q h) hFc (fun u36 t36 H1 locs ht1 hvm w36 hB hz1 hk1 hS => ?_)
    try dsimp only at w36 hB
    obtain ⟨fa36, ga36⟩ := u36
    dsimp only at w36 hB
    obtain ⟨hP1, hD1⟩ := hB
    rw [ht1] at hP1
    obtain ⟨hP, hD⟩ := wk_join (w1 := stE cI (SA (pS rows Gn)) (zK (Z (pS rows Gn)), zV (Z (pS rows Gn)), zL1 (Z (pS rows Gn)), zL2 (Z (pS rows Gn)), fa36, ga36, del (zL (Z (pS rows Gn))) (pK rows Gn))) hP hD [11 + 3 * (pS rows Gn), 12 + 3 * (pS rows Gn), 13 + 3 * (pS rows Gn)] (st_map (hsg)) (st_nd _) rfl hk1 hFc hP1 hD1
    rw [st_put (hsg)] at hP hD
    have hzsA36 : ZS (fu Z (pS rows Gn) (zK (Z (pS rows Gn)), zV (Z (pS rows Gn)), zL1 (Z (pS rows Gn)), zL2 (Z (pS rows Gn)), fa36, ga36, del (zL (Z (pS rows Gn))) (pK rows Gn))) := zs_del hzs (hsg) w36
    generalize H1 = H at hP hS ⊢
    have hP : va_P D vwCl (cW cI cS G SA sf pa no pts rf rg (nI RL.length) pk ps pt L p1 p2 p3 (nI rows.length) op (nI F) (nI Gn) (cB C) off (wLeft left) (wr + 1) rc th (fu Z (pS rows Gn) (zK (Z (pS rows Gn)), zV (Z (pS rows Gn)), zL1 (Z (pS rows Gn)), zL2 (Z (pS rows Gn)), fa36, ga36, del (zL (Z (pS rows Gn))) (pK rows Gn)))) H := hP
    have hD : va_D A (cW cI cS G SA sf pa no pts rf rg (nI RL.length) pk ps pt L p1 p2 p3 (nI rows.length) op (nI F) (nI Gn) (cB C) off (wLeft left) (wr + 1) rc th (fu Z (pS rows Gn) (zK (Z (pS rows Gn)), zV (Z (pS rows Gn)), zL1 (Z (pS rows Gn)), zL2 (Z (pS rows Gn)), fa36, ga36, del (zL (Z (pS rows Gn))) (pK rows Gn)))) := hD
    refine lv_aload_n hx hb dX4_takeOffSource_39 rfl (lv_at hl 0 rfl) ?_
    refine va_get (D := D) (ci := 4) (v := .ref (G 4)) (C := RX4) (T := TX4) (N := 5) hx hb ht inX4 hown hK hP 0 (rfl) rfl 2 (by decide) (ht _ kw1_177) (fun _ h9 => h9) rfl dX4_takeOffSource_40 ?_
    refine lv_dup hx hb dX4_takeOffSource_43 rfl ?_
    refine va_getN (D := D) (ci := 0) (v := .int (nI Gn)) (C := RX0) (T := TX0) (N := 8) hx hb ht inX0 hown hK hP 6 (rfl) rfl 6 (by decide) (ht _ kw1_76) (fun _ h9 => h9) rfl dX4_takeOffSource_44 ?_
    refine lv_iconst (v := 1) hx hb dX4_takeOffSource_47 (by decide) ?_
    refine lv_iadd hx hb dX4_takeOffSource_48 ?_
    refine va_putN (D := D) (ci := 0) (v := .int ((nI Gn) + 1)) (ty := .int) (C := RX0) (T := TX0) (N := 8) hx hb ht inX0 tyX0 tyX0_ok nmX0 hown hK hP hD hS 6 rfl rfl 6 (by decide) (ht _ kw1_76) (fun _ h9 => h9) rfl (by decide +kernel) (rfl) rfl (Nat.le_of_ble_eq_true rfl) dX4_takeOffSource_49 (fun H locs hP hD hS => ?_)
    have hP : va_P D vwCl (cW cI cS G SA sf pa no pts rf rg (nI RL.length) pk ps pt L p1 p2 p3 (nI rows.length) op (nI F) ((nI Gn) + 1) (cB C) off (wLeft left) (wr + 1) rc th (fu Z (pS rows Gn) (zK (Z (pS rows Gn)), zV (Z (pS rows Gn)), zL1 (Z (pS rows Gn)), zL2 (Z (pS rows Gn)), fa36, ga36, del (zL (Z (pS rows Gn))) (pK rows Gn)))) H := hP
    have hD : va_D A (cW cI cS G SA sf pa no pts rf rg (nI RL.length) pk ps pt L p1 p2 p3 (nI rows.length) op (nI F) ((nI Gn) + 1) (cB C) off (wLeft left) (wr + 1) rc th (fu Z (pS rows Gn) (zK (Z (pS rows Gn)), zV (Z (pS rows Gn)), zL1 (Z (pS rows Gn)), zL2 (Z (pS rows Gn)), fa36, ga36, del (zL (Z (pS rows Gn))) (pK rows Gn)))) := hD
    rw [nI_1 Gn] at hP hD
    have hP : va_P D vwCl (cW cI cS G SA sf pa no pts rf rg (nI RL.length) pk ps pt L p1 p2 p3 (nI rows.length) op (nI F) (nI (Gn + 1)) (cB C) off (wLeft left) (wr + 1) rc th (fu Z (pS rows Gn) (zK (Z (pS rows Gn)), zV (Z (pS rows Gn)), zL1 (Z (pS rows Gn)), zL2 (Z (pS rows Gn)), fa36, ga36, del (zL (Z (pS rows Gn))) (pK rows Gn)))) H := hP
    have hD : va_D A (cW cI cS G SA sf pa no pts rf rg (nI RL.length) pk ps pt L p1 p2 p3 (nI rows.length) op (nI F) (nI (Gn + 1)) (cB C) off (wLeft left) (wr + 1) rc th (fu Z (pS rows Gn) (zK (Z (pS rows Gn)), zV (Z (pS rows Gn)), zL1 (Z (pS rows Gn)), zL2 (Z (pS rows Gn)), fa36, ga36, del (zL (Z (pS rows Gn))) (pK rows Gn)))) := hD
    refine lv_iconst (v := 4) hx hb dX4_takeOffSource_52 (by decide) ?_
    refine W.widen (k := 6) (n := 8300) (Nat.le_of_ble_eq_true rfl) (Nat.le_of_ble_eq_true rfl) ?_
    exact W.iret (v := 4) hx hb hr (fun t ht2 hW => ⟨⟨4, (pa, no, pts, rf, rg, RL, pk, ps, pt, L, p1, p2, p3, op, off, wLeft left, wr + 1, rc, th, fu Z (pS rows Gn) (zK (Z (pS rows Gn)), zV (Z (pS rows Gn)), zL1 (Z (pS rows Gn)), zL2 (Z (pS rows Gn)), fa36, ga36, del (zL (Z (pS rows Gn))) (pK rows Gn)), mm, rows, F, Gn + 1, C), rfl, by
          (try dsimp only)
          refine ⟨?_, ⟨hci.1, ⟨hpr, h32, hrl, hF9, by first | exact hG9 | (show Gn + 1 ≤ 256; omega), hsr, hp8⟩, by first | exact hzsA36 | exact hzs⟩, rfl⟩
          unfold stepF
          rw [if_neg (fun q => q.elim (fun z => z hoff0) hop)]
          first | (rw [if_pos hlf]; rfl) | (rw [if_neg hlf]; (rw [if_neg (show ¬ Gn = rows.length by omega), if_pos hGF]; simp only [sgu, stZ_fu]; rfl)), ⟨by (try dsimp only); rw [ht2]; exact hP, by exact hD⟩⟩, hS.F ht2⟩) hS.2.2 dX4_takeOffSource_53
  · have hlf : left = 0 := wOk_n (by rw [← w4]; exact c7)
    rw [show wOff left off = 1 from if_pos hlf, wLeft_z hlf, show wInc left wr = wr from if_pos hlf] at hP hD
    refine lv_bipush (v := (-9)) hx hb dX4_takeOffSource_10 (by decide) ?_
    refine W.widen (k := 6) (n := 8300) (Nat.le_of_ble_eq_true rfl) (Nat.le_of_ble_eq_true rfl) ?_
    exact W.iret (v := (-9)) hx hb hr (fun t ht2 hW => ⟨⟨(-9), (pa, no, pts, rf, rg, RL, pk, ps, pt, L, p1, p2, p3, op, 1, left, wr, rc, th, Z, mm, rows, F, Gn, C), rfl, by
          (try dsimp only)
          refine ⟨?_, ⟨hci.1, ⟨hpr, h32, hrl, hF9, by first | exact hG9 | (show Gn + 1 ≤ 256; omega), hsr, hp8⟩, by first | exact hzsA36 | exact hzs⟩, rfl⟩
          unfold stepF
          rw [if_neg (fun q => q.elim (fun z => z hoff0) hop)]
          first | (rw [if_pos hlf]; rfl) | (rw [if_neg hlf]; (rw [if_neg (show ¬ Gn = rows.length by omega), if_pos hGF]; simp only [sgu, stZ_fu]; rfl)), ⟨by (try dsimp only); rw [ht2]; exact hP, by exact hD⟩⟩, hS.F ht2⟩) hS.2.2 dX4_takeOffSource_12

set_option maxHeartbeats 4000000 in
set_option maxRecDepth 100000 in
theorem c_X4_endPlan (l : Launch) (D : va_G) (cI cZ cS cJ : ClassId) (sz : Nat) (G SA : Nat → Nat) (sf : Nat → Option Nat) (hsf : ∀ n, n < 8 → sf n = some (SA n)) (pa no : Nat) (pts rf rg : Nat → Int32) (RL : List (Int32 × Int32)) (pk ps pt L : Nat) (p1 p2 p3 : Nat → Int32) (op off left wr rc th : Int32) (Z : Nat → ST) (mm : Nat → Nat) (rows : List (Int32 × Nat × Nat)) (F Gn : Nat) (C : Bool) (hci : CI mm RL pts rf rg rows L p1 p2 p3 F Gn Z) (hoff0 : off = 0) (hop : ¬ op = 0) (hG : Gn ≤ F) (hF : F ≤ rows.length) (hge : Gn = rows.length) : Met l yX4_endPlan (Cond.code yX4_endPlan cX4_endPlan 1 (some .int) :: TB) ({ frames := 2, cells := 6, slots := 8300, locals := 40 } : Room) (va_Pc [.ref (G 0)] (PB D (KT cI cZ cS cJ) (cW cI cS G SA sf pa no pts rf rg (nI RL.length) pk ps pt L p1 p2 p3 (nI rows.length) op (nI F) (nI Gn) (cB C) off left wr rc th Z) sz)) (va_Qi (fun r (u : CT) => stepF off left wr rc (stZ Z) mm op rows F Gn C = (0, r, sgu u) ∧ CIu u ∧ thu u = th) (fun (u : CT) t => va_P D vwCl (cWu cI cS G SA sf u) t.heap ∧ va_D (va_A (cW cI cS G SA sf pa no pts rf rg (nI RL.length) pk ps pt L p1 p2 p3 (nI rows.length) op (nI F) (nI Gn) (cB C) off left wr rc th Z) sz) (cWu cI cS G SA sf u)) (va_A (cW cI cS G SA sf pa no pts rf rg (nI RL.length) pk ps pt L p1 p2 p3 (nI rows.length) op (nI F) (nI Gn) (cB C) off left wr rc th Z) sz)) 6 8300 (va_A (cW cI cS G SA sf pa no pts rf rg (nI RL.length) pk ps pt L p1 p2 p3 (nI rows.length) op (nI F) (nI Gn) (cB C) off left wr rc th Z) sz) := by
  refine Met.ofW (cc := cX4_endPlan) (maxL := 1) (ret := (some .int)) (by decide) rfl ?_
  intro p e s m args below meth c s₁ B hml hv
  obtain ⟨rfl, hsz, hP, hK, hD0⟩ := hv
  have hx := B.exec
  have hb := B.bytes
  have hr := B.returns
  have hts := atoms_spec (ws := (Cond.code yX4_endPlan cX4_endPlan 1 (some .int) :: TB)) B.pre
  have ht : ∀ w ∈ TB, w.before _ s = true := fun w h => hts w (List.mem_cons_of_mem _ h)
  have hown : s.vm.findClass RX4 = some m.cls := findClass_of_methodNamed B.named
  have hlocks := B.notSynchronized
  subst hsz
  have hD := hD0.self (sz := s.heap.size)
  generalize hAe : va_A (cW cI cS G SA sf pa no pts rf rg (nI RL.length) pk ps pt L p1 p2 p3 (nI rows.length) op (nI F) (nI Gn) (cB C) off left wr rc th Z) s.heap.size = A at hD ⊢
  have hA : ∀ q : Nat, s.heap.size ≤ q → A q := fun q h => by rw [← hAe]; exact Or.inr h
  have hS : va_S A s.heap s.heap [] := va_S.rf
  have hP : va_P D vwCl (cW cI cS G SA sf pa no pts rf rg (nI RL.length) pk ps pt L p1 p2 p3 (nI rows.length) op (nI F) (nI Gn) (cB C) off left wr rc th Z) s.heap := hP
  have hl := lv_entry ([.ref (G 0)]) (n := 1) (Nat.le_of_ble_eq_true rfl)
  rw [lg_entry_eq]
  generalize (lg_sl ([.ref (G 0)]) ++ List.replicate (1 - (lg_sl ([.ref (G 0)])).length) Slot.unset).toArray = ls at hl ⊢
  have hl : lv_has ls 1 [(0, .ref (G 0))] := hl
  obtain ⟨⟨hrr, hrg, h16, hM⟩, ⟨hpr, h32, hrl, hF9, hG9, hsr, hp8⟩, hzs⟩ := id hci
  refine lv_aload_n hx hb dX4_endPlan_0 rfl (lv_at hl 0 rfl) ?_
  refine va_get (D := D) (ci := 4) (v := .ref (G 5)) (C := RX4) (T := TX4) (N := 5) hx hb ht inX4 hown hK hP 0 (rfl) rfl 3 (by decide) (ht _ kw1_178) (fun _ h9 => h9) rfl dX4_endPlan_1 ?_
  have hPc := hP.sub (ws' := [((G 5), .inr (1, [.int off, .int left, .int wr, .int rc]))]) [10] rfl
  have hDc := hD.sub (ws' := [((G 5), .inr (1, [.int off, .int left, .int wr, .int rc]))]) [10] (by decide) rfl
  have hFc := va_free (wc := [((G 5), .inr (1, [.int off, .int left, .int wr, .int rc]))]) hD hS hA [10] rfl
  refine va_calli (va_runVN (As := []) (rest := []) ⟨hx, hb, hml, hown, ht⟩ (c_X1_lastsForRecord l D cI cZ cS cJ s.heap.size (G 5) off left wr rc) ⟨xwN 0 ht kw2_172 kw2_169 kw1_5 rfl rfl (by decide +kernel) ⟨Nat.le_of_ble_eq_true rfl, Nat.le_of_ble_eq_true rfl⟩, ht _ kw2_171, ht _ kwS_13⟩ ⟨PB.blind, va_recv hK hPc (ci := 1) (q0 := 0) rfl rfl, fun U hU hW => PB.mk hU hW hPc hK hDc⟩ rfl rfl hl.1 rfl (lv_room (Nat.le_of_ble_eq_true rfl)) dX4_endPlan_4 ⟨Nat.le_of_ble_eq_true rfl, Nat.le_of_ble_eq_true rfl⟩) hS (fun q _ h => hFc q h) hFc (fun r4 u4 t4 H1 locs ht1 hvm w4 hB hz1 hk1 hS => ?_)
  try dsimp only at w4 hB
  obtain ⟨hP1, hD1⟩ := hB
  rw [ht1] at hP1
  obtain ⟨hP, hD⟩ := wk_join (w1 := [((G 5), .inr (1, [.int (wOff left off), .int (wLeft left), .int (wInc left wr), .int (wInc left rc)]))]) hP hD [10] rfl (by decide) rfl hk1 hFc hP1 hD1
  generalize H1 = H at hP hS ⊢
  have hP : va_P D vwCl (cW cI cS G SA sf pa no pts rf rg (nI RL.length) pk ps pt L p1 p2 p3 (nI rows.length) op (nI F) (nI Gn) (cB C) (wOff left off) (wLeft left) (wInc left wr) (wInc left rc) th Z) H := hP
  have hD : va_D A (cW cI cS G SA sf pa no pts rf rg (nI RL.length) pk ps pt L p1 p2 p3 (nI rows.length) op (nI F) (nI Gn) (cB C) (wOff left off) (wLeft left) (wInc left wr) (wInc left rc) th Z) := hD
  refine lv_if_ne (tgt := 13) hx hb dX4_endPlan_7 (by decide) (fun c7 => ?_) (fun c7 => ?_)
  · have hlf : ¬ left = 0 := wOk_y (by rw [← w4]; exact c7)
    rw [show wOff left off = off from if_neg hlf, show wInc left wr = wr + 1 from if_neg hlf, show wInc left rc = rc + 1 from if_neg hlf] at hP hD
    refine lv_aload_n hx hb dX4_endPlan_13 rfl (lv_at hl 0 rfl) ?_
    refine va_get (D := D) (ci := 4) (v := .ref (G 4)) (C := RX4) (T := TX4) (N := 5) hx hb ht inX4 hown hK hP 0 (rfl) rfl 2 (by decide) (ht _ kw1_177) (fun _ h9 => h9) rfl dX4_endPlan_14 ?_
    have hPc := hP.sub (ws' := [((G 4), .inr (0, [.ref pk, .ref ps, .ref pt, .int (nI rows.length), .int op, .int (nI F), .int (nI Gn), .int (cB C)])), (pk, .inl (cI, L, .inl p1)), (ps, .inl (cI, L, .inl p2)), (pt, .inl (cI, L, .inl p3))]) [6, 7, 8, 9] rfl
    have hDc := hD.sub (ws' := [((G 4), .inr (0, [.ref pk, .ref ps, .ref pt, .int (nI rows.length), .int op, .int (nI F), .int (nI Gn), .int (cB C)])), (pk, .inl (cI, L, .inl p1)), (ps, .inl (cI, L, .inl p2)), (pt, .inl (cI, L, .inl p3))]) [6, 7, 8, 9] (by decide) rfl
    have hFc := va_free (wc := [((G 4), .inr (0, [.ref pk, .ref ps, .ref pt, .int (nI rows.length), .int op, .int (nI F), .int (nI Gn), .int (cB C)])), (pk, .inl (cI, L, .inl p1)), (ps, .inl (cI, L, .inl p2)), (pt, .inl (cI, L, .inl p3))]) hD hS hA [6, 7, 8, 9] rfl
    refine va_callv (va_runVN (As := []) (rest := []) ⟨hx, hb, hml, hown, ht⟩ (c_X0_end l D cI cZ cS cJ H.size (G 4) pk ps pt L p1 p2 p3 op rows F Gn C hpr hrl hF9 hG9) ⟨xwN 0 ht kw2_222 kw2_219 kw1_4 rfl rfl (by decide +kernel) ⟨Nat.le_of_ble_eq_true rfl, Nat.le_of_ble_eq_true rfl⟩, ht _ kw2_221, ht _ kwS_21⟩ ⟨PB.blind, va_recv hK hPc (ci := 0) (q0 := 0) rfl rfl, fun U hU hW => PB.mk hU hW hPc hK hDc⟩ rfl rfl hl.1 rfl (lv_room (Nat.le_of_ble_eq_true rfl)) dX4_endPlan_17 ⟨Nat.le_of_ble_eq_true rfl, Nat.le_of_ble_eq_true rfl⟩) hS (fun q _ h => hFc q h) hFc (fun u17 t17 H1 locs ht1 hvm w17 hB hz1 hk1 hS => ?_)
    try dsimp only at w17 hB
    obtain ⟨hP1, hD1⟩ := hB
    rw [ht1] at hP1
    obtain ⟨hP, hD⟩ := wk_join (w1 := [((G 4), .inr (0, [.ref pk, .ref ps, .ref pt, .int (nI 0), .int 0, .int (nI 0), .int 0, .int 0])), (pk, .inl (cI, L, .inl p1)), (ps, .inl (cI, L, .inl p2)), (pt, .inl (cI, L, .inl p3))]) hP hD [6, 7, 8, 9] rfl (by decide) rfl hk1 hFc hP1 hD1
    generalize H1 = H at hP hS ⊢
    have hP : va_P D vwCl (cW cI cS G SA sf pa no pts rf rg (nI RL.length) pk ps pt L p1 p2 p3 (nI 0) 0 (nI 0) 0 0 off (wLeft left) (wr + 1) (rc + 1) th Z) H := hP
    have hD : va_D A (cW cI cS G SA sf pa no pts rf rg (nI RL.length) pk ps pt L p1 p2 p3 (nI 0) 0 (nI 0) 0 0 off (wLeft left) (wr + 1) (rc + 1) th Z) := hD
    refine lv_iconst (v := 0) hx hb dX4_endPlan_20 (by decide) ?_
    refine W.widen (k := 6) (n := 8300) (Nat.le_of_ble_eq_true rfl) (Nat.le_of_ble_eq_true rfl) ?_
    exact W.iret (v := 0) hx hb hr (fun t ht2 hW => ⟨⟨0, (pa, no, pts, rf, rg, RL, pk, ps, pt, L, p1, p2, p3, 0, off, wLeft left, wr + 1, rc + 1, th, Z, mm, [], 0, 0, false), rfl, by
          (try dsimp only)
          refine ⟨?_, by first | exact hci | exact ⟨hci.1, ⟨⟨Nat.zero_le _, hpr.2.1, fun k hk => absurd hk (Nat.not_lt_zero _)⟩, h32, Nat.zero_le _, Nat.zero_le _, Nat.zero_le _, fun i j _ hj => absurd hj (Nat.not_lt_zero _), fun k hk => absurd hk (Nat.not_lt_zero _)⟩, hzs⟩, rfl⟩
          unfold stepF
          rw [if_neg (fun q => q.elim (fun z => z hoff0) hop)]
          first | (rw [if_pos hlf]; rfl) | (rw [if_neg hlf]; (rw [if_pos hge]; rfl)), ⟨by (try dsimp only); rw [ht2]; exact hP, by exact hD⟩⟩, hS.F ht2⟩) hS.2.2 dX4_endPlan_21
  · have hlf : left = 0 := wOk_n (by rw [← w4]; exact c7)
    rw [show wOff left off = 1 from if_pos hlf, wLeft_z hlf, show wInc left wr = wr from if_pos hlf, show wInc left rc = rc from if_pos hlf] at hP hD
    refine lv_bipush (v := (-9)) hx hb dX4_endPlan_10 (by decide) ?_
    refine W.widen (k := 6) (n := 8300) (Nat.le_of_ble_eq_true rfl) (Nat.le_of_ble_eq_true rfl) ?_
    exact W.iret (v := (-9)) hx hb hr (fun t ht2 hW => ⟨⟨(-9), (pa, no, pts, rf, rg, RL, pk, ps, pt, L, p1, p2, p3, op, 1, left, wr, rc, th, Z, mm, rows, F, Gn, C), rfl, by
          (try dsimp only)
          refine ⟨?_, by first | exact hci | exact ⟨hci.1, ⟨⟨Nat.zero_le _, hpr.2.1, fun k hk => absurd hk (Nat.not_lt_zero _)⟩, h32, Nat.zero_le _, Nat.zero_le _, Nat.zero_le _, fun i j _ hj => absurd hj (Nat.not_lt_zero _), fun k hk => absurd hk (Nat.not_lt_zero _)⟩, hzs⟩, rfl⟩
          unfold stepF
          rw [if_neg (fun q => q.elim (fun z => z hoff0) hop)]
          first | (rw [if_pos hlf]; rfl) | (rw [if_neg hlf]; (rw [if_pos hge]; rfl)), ⟨by (try dsimp only); rw [ht2]; exact hP, by exact hD⟩⟩, hS.F ht2⟩) hS.2.2 dX4_endPlan_12

set_option maxHeartbeats 4000000 in
set_option maxRecDepth 100000 in
theorem c_X4_copyToTarget (l : Launch) (D : va_G) (cI cZ cS cJ : ClassId) (sz : Nat) (G SA : Nat → Nat) (sf : Nat → Option Nat) (hsf : ∀ n, n < 8 → sf n = some (SA n)) (pa no : Nat) (pts rf rg : Nat → Int32) (RL : List (Int32 × Int32)) (pk ps pt L : Nat) (p1 p2 p3 : Nat → Int32) (op off left wr rc th : Int32) (Z : Nat → ST) (mm : Nat → Nat) (rows : List (Int32 × Nat × Nat)) (F Gn : Nat) (C : Bool) (hci : CI mm RL pts rf rg rows L p1 p2 p3 F Gn Z) (hoff0 : off = 0) (hop : ¬ op = 0) (hG : Gn ≤ F) (hF : F ≤ rows.length) (hgl : Gn < rows.length) (hGF : ¬ Gn < F) (hC : ¬ C = true) (hlen : ∀ n, n < 8 → (zL (Z n)).length < 999) : Met l yX4_copyToTarget (Cond.code yX4_copyToTarget cX4_copyToTarget 5 (some .int) :: TB) ({ frames := 4, cells := 6, slots := 8300, locals := 109 } : Room) (va_Pc [.ref (G 0), .int (nI Gn)] (PB D (KT cI cZ cS cJ) (cW cI cS G SA sf pa no pts rf rg (nI RL.length) pk ps pt L p1 p2 p3 (nI rows.length) op (nI F) (nI Gn) (cB C) off left wr rc th Z) sz)) (va_Qi (fun r (u : CT) => stepF off left wr rc (stZ Z) mm op rows F Gn C = (0, r, sgu u) ∧ CIu u ∧ thu u = th) (fun (u : CT) t => va_P D vwCl (cWu cI cS G SA sf u) t.heap ∧ va_D (va_A (cW cI cS G SA sf pa no pts rf rg (nI RL.length) pk ps pt L p1 p2 p3 (nI rows.length) op (nI F) (nI Gn) (cB C) off left wr rc th Z) sz) (cWu cI cS G SA sf u)) (va_A (cW cI cS G SA sf pa no pts rf rg (nI RL.length) pk ps pt L p1 p2 p3 (nI rows.length) op (nI F) (nI Gn) (cB C) off left wr rc th Z) sz)) 6 8300 (va_A (cW cI cS G SA sf pa no pts rf rg (nI RL.length) pk ps pt L p1 p2 p3 (nI rows.length) op (nI F) (nI Gn) (cB C) off left wr rc th Z) sz) := by
  refine Met.ofW (cc := cX4_copyToTarget) (maxL := 5) (ret := (some .int)) (by decide) rfl ?_
  intro p e s m args below meth c s₁ B hml hv
  obtain ⟨rfl, hsz, hP, hK, hD0⟩ := hv
  have hx := B.exec
  have hb := B.bytes
  have hr := B.returns
  have hts := atoms_spec (ws := (Cond.code yX4_copyToTarget cX4_copyToTarget 5 (some .int) :: TB)) B.pre
  have ht : ∀ w ∈ TB, w.before _ s = true := fun w h => hts w (List.mem_cons_of_mem _ h)
  have hown : s.vm.findClass RX4 = some m.cls := findClass_of_methodNamed B.named
  have hlocks := B.notSynchronized
  subst hsz
  have hD := hD0.self (sz := s.heap.size)
  generalize hAe : va_A (cW cI cS G SA sf pa no pts rf rg (nI RL.length) pk ps pt L p1 p2 p3 (nI rows.length) op (nI F) (nI Gn) (cB C) off left wr rc th Z) s.heap.size = A at hD ⊢
  have hA : ∀ q : Nat, s.heap.size ≤ q → A q := fun q h => by rw [← hAe]; exact Or.inr h
  have hS : va_S A s.heap s.heap [] := va_S.rf
  have hP : va_P D vwCl (cW cI cS G SA sf pa no pts rf rg (nI RL.length) pk ps pt L p1 p2 p3 (nI rows.length) op (nI F) (nI Gn) (cB C) off left wr rc th Z) s.heap := hP
  have hl := lv_entry ([.ref (G 0), .int (nI Gn)]) (n := 5) (Nat.le_of_ble_eq_true rfl)
  rw [lg_entry_eq]
  generalize (lg_sl ([.ref (G 0), .int (nI Gn)]) ++ List.replicate (5 - (lg_sl ([.ref (G 0), .int (nI Gn)])).length) Slot.unset).toArray = ls at hl ⊢
  have hl : lv_has ls 5 [(0, .ref (G 0)), (1, .int (nI Gn))] := hl
  obtain ⟨⟨hrr, hrg, h16, hM⟩, ⟨hpr, h32, hrl, hF9, hG9, hsr, hp8⟩, hzs⟩ := id hci
  have hsg : pS rows Gn < 8 := (hp8 Gn hgl).1
  have htg : pT rows Gn < 8 := (hp8 Gn hgl).2
  refine lv_aload_n hx hb dX4_copyToTarget_0 rfl (lv_at hl 0 rfl) ?_
  refine va_get (D := D) (ci := 4) (v := .ref (G 5)) (C := RX4) (T := TX4) (N := 5) hx hb ht inX4 hown hK hP 0 (rfl) rfl 3 (by decide) (ht _ kw1_178) (fun _ h9 => h9) rfl dX4_copyToTarget_1 ?_
  have hPc := hP.sub (ws' := [((G 5), .inr (1, [.int off, .int left, .int wr, .int rc]))]) [10] rfl
  have hDc := hD.sub (ws' := [((G 5), .inr (1, [.int off, .int left, .int wr, .int rc]))]) [10] (by decide) rfl
  have hFc := va_free (wc := [((G 5), .inr (1, [.int off, .int left, .int wr, .int rc]))]) hD hS hA [10] rfl
  refine va_calli (va_runVN (As := []) (rest := []) ⟨hx, hb, hml, hown, ht⟩ (c_X1_lastsForWrite l D cI cZ cS cJ s.heap.size (G 5) off left wr rc) ⟨xwN 0 ht kw2_78 kw2_75 kw1_5 rfl rfl (by decide +kernel) ⟨Nat.le_of_ble_eq_true rfl, Nat.le_of_ble_eq_true rfl⟩, ht _ kw2_77, ht _ kwS_9⟩ ⟨PB.blind, va_recv hK hPc (ci := 1) (q0 := 0) rfl rfl, fun U hU hW => PB.mk hU hW hPc hK hDc⟩ rfl rfl hl.1 rfl (lv_room (Nat.le_of_ble_eq_true rfl)) dX4_copyToTarget_4 ⟨Nat.le_of_ble_eq_true rfl, Nat.le_of_ble_eq_true rfl⟩) hS (fun q _ h => hFc q h) hFc (fun r4 u4 t4 H1 locs ht1 hvm w4 hB hz1 hk1 hS => ?_)
  try dsimp only at w4 hB
  obtain ⟨hP1, hD1⟩ := hB
  rw [ht1] at hP1
  obtain ⟨hP, hD⟩ := wk_join (w1 := [((G 5), .inr (1, [.int (wOff left off), .int (wLeft left), .int (wInc left wr), .int rc]))]) hP hD [10] rfl (by decide) rfl hk1 hFc hP1 hD1
  generalize H1 = H at hP hS ⊢
  have hP : va_P D vwCl (cW cI cS G SA sf pa no pts rf rg (nI RL.length) pk ps pt L p1 p2 p3 (nI rows.length) op (nI F) (nI Gn) (cB C) (wOff left off) (wLeft left) (wInc left wr) rc th Z) H := hP
  have hD : va_D A (cW cI cS G SA sf pa no pts rf rg (nI RL.length) pk ps pt L p1 p2 p3 (nI rows.length) op (nI F) (nI Gn) (cB C) (wOff left off) (wLeft left) (wInc left wr) rc th Z) := hD
  refine lv_if_ne (tgt := 13) hx hb dX4_copyToTarget_7 (by decide) (fun c7 => ?_) (fun c7 => ?_)
  · have hlf : ¬ left = 0 := wOk_y (by rw [← w4]; exact c7)
    rw [show wOff left off = off from if_neg hlf, show wInc left wr = wr + 1 from if_neg hlf] at hP hD
    refine lv_aload_n hx hb dX4_copyToTarget_13 rfl (lv_at hl 0 rfl) ?_
    refine va_get (D := D) (ci := 4) (v := .ref (G 4)) (C := RX4) (T := TX4) (N := 5) hx hb ht inX4 hown hK hP 0 (rfl) rfl 2 (by decide) (ht _ kw1_177) (fun _ h9 => h9) rfl dX4_copyToTarget_14 ?_
    refine va_getN (D := D) (ci := 0) (v := .ref pk) (C := RX0) (T := TX0) (N := 8) hx hb ht inX0 hown hK hP 6 (rfl) rfl 0 (by decide) (ht _ kw1_64) (fun _ h9 => h9) rfl dX4_copyToTarget_17 ?_
    refine lv_iload_n hx hb dX4_copyToTarget_20 rfl (lv_at hl 1 rfl) ?_
    refine ya_iald hx hb hK hP 7 0 (rfl) rfl Gn (rfl) (by have := hpr.1; omega) (by have := hpr.2.1; omega) dX4_copyToTarget_21 ?_
    rw [(hpr.2.2 _ hgl).1]
    refine lv_istore_n (lv' := [(2, .int (pK rows Gn)), (0, .ref (G 0)), (1, .int (nI Gn))]) hx hb dX4_copyToTarget_22 rfl hl (by decide) rfl (fun ls hl => ?_)
    refine lv_aload_n hx hb dX4_copyToTarget_23 rfl (lv_at hl 1 rfl) ?_
    refine va_get (D := D) (ci := 4) (v := .ref (G 3)) (C := RX4) (T := TX4) (N := 5) hx hb ht inX4 hown hK hP 0 (rfl) rfl 1 (by decide) (ht _ kw1_176) (fun _ h9 => h9) rfl dX4_copyToTarget_24 ?_
    refine lv_aload_n hx hb dX4_copyToTarget_27 rfl (lv_at hl 1 rfl) ?_
    refine va_get (D := D) (ci := 4) (v := .ref (G 4)) (C := RX4) (T := TX4) (N := 5) hx hb ht inX4 hown hK hP 0 (rfl) rfl 2 (by decide) (ht _ kw1_177) (fun _ h9 => h9) rfl dX4_copyToTarget_28 ?_
    refine va_getN (D := D) (ci := 0) (v := .ref ps) (C := RX0) (T := TX0) (N := 8) hx hb ht inX0 hown hK hP 6 (rfl) rfl 1 (by decide) (ht _ kw1_66) (fun _ h9 => h9) rfl dX4_copyToTarget_31 ?_
    refine lv_iload_n hx hb dX4_copyToTarget_34 rfl (lv_at hl 2 rfl) ?_
    refine ya_iald hx hb hK hP 8 0 (rfl) rfl Gn (rfl) (by have := hpr.1; omega) (by have := hpr.2.1; omega) dX4_copyToTarget_35 ?_
    refine ya_aldq hx hb hK hP 5 2 rfl rfl (pS rows Gn) ((hpr.2.2 _ hgl).2.1) (hsg) (by decide) (v := SA (pS rows Gn)) (hsf _ hsg) dX4_copyToTarget_36 ?_
    refine lv_astore_n (lv' := [(3, .ref (SA (pS rows Gn))), (2, .int (pK rows Gn)), (0, .ref (G 0)), (1, .int (nI Gn))]) hx hb dX4_copyToTarget_37 rfl hl (by decide) rfl (fun ls hl => ?_)
    refine lv_aload_n hx hb dX4_copyToTarget_38 rfl (lv_at hl 2 rfl) ?_
    refine va_get (D := D) (ci := 4) (v := .ref (G 3)) (C := RX4) (T := TX4) (N := 5) hx hb ht inX4 hown hK hP 0 (rfl) rfl 1 (by decide) (ht _ kw1_176) (fun _ h9 => h9) rfl dX4_copyToTarget_39 ?_
    refine lv_aload_n hx hb dX4_copyToTarget_42 rfl (lv_at hl 2 rfl) ?_
    refine va_get (D := D) (ci := 4) (v := .ref (G 4)) (C := RX4) (T := TX4) (N := 5) hx hb ht inX4 hown hK hP 0 (rfl) rfl 2 (by decide) (ht _ kw1_177) (fun _ h9 => h9) rfl dX4_copyToTarget_43 ?_
    refine va_getN (D := D) (ci := 0) (v := .ref pt) (C := RX0) (T := TX0) (N := 8) hx hb ht inX0 hown hK hP 6 (rfl) rfl 2 (by decide) (ht _ kw1_68) (fun _ h9 => h9) rfl dX4_copyToTarget_46 ?_
    refine lv_iload_n hx hb dX4_copyToTarget_49 rfl (lv_at hl 3 rfl) ?_
    refine ya_iald hx hb hK hP 9 0 (rfl) rfl Gn (rfl) (by have := hpr.1; omega) (by have := hpr.2.1; omega) dX4_copyToTarget_50 ?_
    refine ya_aldq hx hb hK hP 5 2 rfl rfl (pT rows Gn) ((hpr.2.2 _ hgl).2.2) (htg) (by decide) (v := SA (pT rows Gn)) (hsf _ htg) dX4_copyToTarget_51 ?_
    refine lv_astore (lv' := [(4, .ref (SA (pT rows Gn))), (3, .ref (SA (pS rows Gn))), (2, .int (pK rows Gn)), (0, .ref (G 0)), (1, .int (nI Gn))]) hx hb dX4_copyToTarget_52 hl (by decide) rfl (fun ls hl => ?_)
    refine lv_aload_n hx hb dX4_copyToTarget_54 rfl (lv_at hl 1 rfl) ?_
    refine lv_iload_n hx hb dX4_copyToTarget_55 rfl (lv_at hl 2 rfl) ?_
    have hPc := hP.sub (ws' := stE cI (SA (pS rows Gn)) (Z (pS rows Gn))) [11 + 3 * (pS rows Gn), 12 + 3 * (pS rows Gn), 13 + 3 * (pS rows Gn)] (st_fm (hsg))
    have hDc := hD.sub (ws' := stE cI (SA (pS rows Gn)) (Z (pS rows Gn))) [11 + 3 * (pS rows Gn), 12 + 3 * (pS rows Gn), 13 + 3 * (pS rows Gn)] (st_nd _) (st_map (hsg))
    have hFc := va_free (wc := stE cI (SA (pS rows Gn)) (Z (pS rows Gn))) hD hS hA [11 + 3 * (pS rows Gn), 12 + 3 * (pS rows Gn), 13 + 3 * (pS rows Gn)] (st_map (hsg))
    refine va_calli (va_runVN (As := [.int (pK rows Gn)]) (rest := []) ⟨hx, hb, hml, hown, ht⟩ (c_X3_has l D cI cZ cS cJ H.size (SA (pS rows Gn)) (zK (Z (pS rows Gn))) (zV (Z (pS rows Gn))) (zL1 (Z (pS rows Gn))) (zL2 (Z (pS rows Gn))) (zF (Z (pS rows Gn))) (zG (Z (pS rows Gn))) (zL (Z (pS rows Gn))) (hzs _ (hsg)).1 (hzs _ (hsg)).2.1 (hzs _ (hsg)).2.2 (pK rows Gn)) ⟨xwN 1 ht kw2_68 kw2_65 kw1_6 rfl rfl (by decide +kernel) ⟨Nat.le_of_ble_eq_true rfl, Nat.le_of_ble_eq_true rfl⟩, ht _ kw2_67, ht _ kwS_7⟩ ⟨PB.blind, va_recv hK hPc (ci := 3) (q0 := 0) rfl rfl, fun U hU hW => PB.mk hU hW hPc hK hDc⟩ rfl rfl hl.1 rfl (lv_room (Nat.le_of_ble_eq_true rfl)) dX4_copyToTarget_56 ⟨Nat.le_of_ble_eq_true rfl, Nat.le_of_ble_eq_true rfl⟩) hS (fun q _ h => hFc q h) hFc (fun r56 u56 t56 H1 locs ht1 hvm w56 hB hz1 hk1 hS => ?_)
    try dsimp only at w56 hB
    rw [ht1] at hB
    have hP := wk_ro hP hD [11 + 3 * (pS rows Gn), 12 + 3 * (pS rows Gn), 13 + 3 * (pS rows Gn)] (st_map (hsg)) hk1 hB
    generalize H1 = H at hP hS ⊢
    refine lv_if_eq (tgt := 76) hx hb dX4_copyToTarget_59 (by decide) (fun c59 => ?_) (fun c59 => ?_)
    · have hno : ¬ hs (zL (Z (pS rows Gn))) (pK rows Gn) = true := fun q => by rw [w56, if_pos q] at c59; exact absurd c59 (by decide)
      refine lv_aload hx hb dX4_copyToTarget_76 (lv_at hl 0 rfl) ?_
      refine lv_iload_n hx hb dX4_copyToTarget_78 rfl (lv_at hl 2 rfl) ?_
      skip
      have hPc := hP.sub (ws' := stE cI (SA (pT rows Gn)) (Z (pT rows Gn))) [11 + 3 * (pT rows Gn), 12 + 3 * (pT rows Gn), 13 + 3 * (pT rows Gn)] (st_fm (htg))
      have hDc := hD.sub (ws' := stE cI (SA (pT rows Gn)) (Z (pT rows Gn))) [11 + 3 * (pT rows Gn), 12 + 3 * (pT rows Gn), 13 + 3 * (pT rows Gn)] (st_nd _) (st_map (htg))
      have hFc := va_free (wc := stE cI (SA (pT rows Gn)) (Z (pT rows Gn))) hD hS hA [11 + 3 * (pT rows Gn), 12 + 3 * (pT rows Gn), 13 + 3 * (pT rows Gn)] (st_map (htg))
      refine va_callv (va_runVN (As := [.int (pK rows Gn)]) (rest := []) ⟨hx, hb, hml, hown, ht⟩ (c_X3_drop l D cI cZ cS cJ H.size (SA (pT rows Gn)) (zK (Z (pT rows Gn))) (zV (Z (pT rows Gn))) (zL1 (Z (pT rows Gn))) (zL2 (Z (pT rows Gn))) (zF (Z (pT rows Gn))) (zG (Z (pT rows Gn))) (zL (Z (pT rows Gn))) (hzs _ (htg)).1 (hzs _ (htg)).2.1 (hzs _ (htg)).2.2 (pK rows Gn)) ⟨xwN 1 ht kw2_94 kw2_91 kw1_6 rfl rfl (by decide +kernel) ⟨Nat.le_of_ble_eq_true rfl, Nat.le_of_ble_eq_true rfl⟩, ht _ kw2_93, ht _ kwS_11⟩ ⟨PB.blind, va_recv hK hPc (ci := 3) (q0 := 0) rfl rfl, fun U hU hW => PB.mk hU hW hPc hK hDc⟩ rfl rfl hl.1 rfl (lv_room (Nat.le_of_ble_eq_true rfl)) dX4_copyToTarget_79 ⟨Nat.le_of_ble_eq_true rfl, Nat.le_of_ble_eq_true rfl⟩) hS (fun q _ h => hFc q h) hFc (fun u79 t79 H1 locs ht1 hvm w79 hB hz1 hk1 hS => ?_)
      try dsimp only at w79 hB
      obtain ⟨fa79, ga79⟩ := u79
      dsimp only at w79 hB
      obtain ⟨hP1, hD1⟩ := hB
      rw [ht1] at hP1
      obtain ⟨hP, hD⟩ := wk_join (w1 := stE cI (SA (pT rows Gn)) (zK (Z (pT rows Gn)), zV (Z (pT rows Gn)), zL1 (Z (pT rows Gn)), zL2 (Z (pT rows Gn)), fa79, ga79, del (zL (Z (pT rows Gn))) (pK rows Gn))) hP hD [11 + 3 * (pT rows Gn), 12 + 3 * (pT rows Gn), 13 + 3 * (pT rows Gn)] (st_map (htg)) (st_nd _) rfl hk1 hFc hP1 hD1
      rw [st_put (htg)] at hP hD
      have hzsA79 : ZS (fu Z (pT rows Gn) (zK (Z (pT rows Gn)), zV (Z (pT rows Gn)), zL1 (Z (pT rows Gn)), zL2 (Z (pT rows Gn)), fa79, ga79, del (zL (Z (pT rows Gn))) (pK rows Gn))) := zs_del hzs (htg) w79
      generalize H1 = H at hP hS ⊢
      have hP : va_P D vwCl (cW cI cS G SA sf pa no pts rf rg (nI RL.length) pk ps pt L p1 p2 p3 (nI rows.length) op (nI F) (nI Gn) (cB C) off (wLeft left) (wr + 1) rc th (fu Z (pT rows Gn) (zK (Z (pT rows Gn)), zV (Z (pT rows Gn)), zL1 (Z (pT rows Gn)), zL2 (Z (pT rows Gn)), fa79, ga79, del (zL (Z (pT rows Gn))) (pK rows Gn)))) H := hP
      have hD : va_D A (cW cI cS G SA sf pa no pts rf rg (nI RL.length) pk ps pt L p1 p2 p3 (nI rows.length) op (nI F) (nI Gn) (cB C) off (wLeft left) (wr + 1) rc th (fu Z (pT rows Gn) (zK (Z (pT rows Gn)), zV (Z (pT rows Gn)), zL1 (Z (pT rows Gn)), zL2 (Z (pT rows Gn)), fa79, ga79, del (zL (Z (pT rows Gn))) (pK rows Gn)))) := hD
      refine lv_aload_n hx hb dX4_copyToTarget_82 rfl (lv_at hl 3 rfl) ?_
      refine va_get (D := D) (ci := 4) (v := .ref (G 4)) (C := RX4) (T := TX4) (N := 5) hx hb ht inX4 hown hK hP 0 (rfl) rfl 2 (by decide) (ht _ kw1_177) (fun _ h9 => h9) rfl dX4_copyToTarget_83 ?_
      refine lv_iconst (v := 1) hx hb dX4_copyToTarget_86 (by decide) ?_
      refine va_putN (D := D) (ci := 0) (v := .int 1) (ty := .boolean) (C := RX0) (T := TX0) (N := 8) hx hb ht inX0 tyX0 tyX0_ok nmX0 hown hK hP hD hS 6 rfl rfl 7 (by decide) (ht _ kw1_78) (fun _ h9 => h9) rfl (by decide +kernel) (by decide +kernel) rfl (Nat.le_of_ble_eq_true rfl) dX4_copyToTarget_87 (fun H locs hP hD hS => ?_)
      have hP : va_P D vwCl (cW cI cS G SA sf pa no pts rf rg (nI RL.length) pk ps pt L p1 p2 p3 (nI rows.length) op (nI F) (nI Gn) 1 off (wLeft left) (wr + 1) rc th (fu Z (pT rows Gn) (zK (Z (pT rows Gn)), zV (Z (pT rows Gn)), zL1 (Z (pT rows Gn)), zL2 (Z (pT rows Gn)), fa79, ga79, del (zL (Z (pT rows Gn))) (pK rows Gn)))) H := hP
      have hD : va_D A (cW cI cS G SA sf pa no pts rf rg (nI RL.length) pk ps pt L p1 p2 p3 (nI rows.length) op (nI F) (nI Gn) 1 off (wLeft left) (wr + 1) rc th (fu Z (pT rows Gn) (zK (Z (pT rows Gn)), zV (Z (pT rows Gn)), zL1 (Z (pT rows Gn)), zL2 (Z (pT rows Gn)), fa79, ga79, del (zL (Z (pT rows Gn))) (pK rows Gn)))) := hD
      refine lv_iconst (v := 2) hx hb dX4_copyToTarget_90 (by decide) ?_
      refine W.widen (k := 6) (n := 8300) (Nat.le_of_ble_eq_true rfl) (Nat.le_of_ble_eq_true rfl) ?_
      exact W.iret (v := 2) hx hb hr (fun t ht2 hW => ⟨⟨2, (pa, no, pts, rf, rg, RL, pk, ps, pt, L, p1, p2, p3, op, off, wLeft left, wr + 1, rc, th, fu Z (pT rows Gn) (zK (Z (pT rows Gn)), zV (Z (pT rows Gn)), zL1 (Z (pT rows Gn)), zL2 (Z (pT rows Gn)), fa79, ga79, del (zL (Z (pT rows Gn))) (pK rows Gn)), mm, rows, F, Gn, true), rfl, by
            (try dsimp only)
            refine ⟨?_, ⟨hci.1, hci.2.1, by first | exact hzsA70 | exact hzsA79 | exact hzs⟩, rfl⟩
            unfold stepF
            rw [if_neg (fun q => q.elim (fun z => z hoff0) hop)]
            first | (rw [if_pos hlf]; rfl) | (rw [if_neg hlf]; (rw [if_neg (show ¬ Gn = rows.length by omega), if_neg hGF, if_neg hC]; (first | rw [if_pos (show hs (stZ Z (pS rows Gn)) (pK rows Gn) = true from hyes)] | rw [if_neg (show ¬ hs (stZ Z (pS rows Gn)) (pK rows Gn) = true from hno)]); simp only [sgu, stZ_fu]; rfl)), ⟨by (try dsimp only); rw [ht2]; exact hP, by exact hD⟩⟩, hS.F ht2⟩) hS.2.2 dX4_copyToTarget_91
    · have hyes : hs (zL (Z (pS rows Gn))) (pK rows Gn) = true := Decidable.byContradiction (fun q => c59 (by rw [w56, if_neg q]))
      refine lv_aload hx hb dX4_copyToTarget_62 (lv_at hl 0 rfl) ?_
      refine lv_iload_n hx hb dX4_copyToTarget_64 rfl (lv_at hl 2 rfl) ?_
      refine lv_aload_n hx hb dX4_copyToTarget_65 rfl (lv_at hl 1 rfl) ?_
      refine lv_iload_n hx hb dX4_copyToTarget_66 rfl (lv_at hl 2 rfl) ?_
      have hPc := hP.sub (ws' := stE cI (SA (pS rows Gn)) (Z (pS rows Gn))) [11 + 3 * (pS rows Gn), 12 + 3 * (pS rows Gn), 13 + 3 * (pS rows Gn)] (st_fm (hsg))
      have hDc := hD.sub (ws' := stE cI (SA (pS rows Gn)) (Z (pS rows Gn))) [11 + 3 * (pS rows Gn), 12 + 3 * (pS rows Gn), 13 + 3 * (pS rows Gn)] (st_nd _) (st_map (hsg))
      have hFc := va_free (wc := stE cI (SA (pS rows Gn)) (Z (pS rows Gn))) hD hS hA [11 + 3 * (pS rows Gn), 12 + 3 * (pS rows Gn), 13 + 3 * (pS rows Gn)] (st_map (hsg))
      refine va_calli (va_runVN (As := [.int (pK rows Gn)]) (rest := [.int (pK rows Gn), .ref (SA (pT rows Gn))]) ⟨hx, hb, hml, hown, ht⟩ (c_X3_valueOf l D cI cZ cS cJ H.size (SA (pS rows Gn)) (zK (Z (pS rows Gn))) (zV (Z (pS rows Gn))) (zL1 (Z (pS rows Gn))) (zL2 (Z (pS rows Gn))) (zF (Z (pS rows Gn))) (zG (Z (pS rows Gn))) (zL (Z (pS rows Gn))) (hzs _ (hsg)).1 (hzs _ (hsg)).2.1 (hzs _ (hsg)).2.2 (pK rows Gn)) ⟨xwN 1 ht kw2_123 kw2_120 kw1_6 rfl rfl (by decide +kernel) ⟨Nat.le_of_ble_eq_true rfl, Nat.le_of_ble_eq_true rfl⟩, ht _ kw2_122, ht _ kwS_12⟩ ⟨PB.blind, va_recv hK hPc (ci := 3) (q0 := 0) rfl rfl, fun U hU hW => PB.mk hU hW hPc hK hDc⟩ rfl rfl hl.1 rfl (lv_room (Nat.le_of_ble_eq_true rfl)) dX4_copyToTarget_67 ⟨Nat.le_of_ble_eq_true rfl, Nat.le_of_ble_eq_true rfl⟩) hS (fun q _ h => hFc q h) hFc (fun r67 u67 t67 H1 locs ht1 hvm w67 hB hz1 hk1 hS => ?_)
      try dsimp only at w67 hB
      rw [ht1] at hB
      have hP := wk_ro hP hD [11 + 3 * (pS rows Gn), 12 + 3 * (pS rows Gn), 13 + 3 * (pS rows Gn)] (st_map (hsg)) hk1 hB
      generalize H1 = H at hP hS ⊢
      rw [if_pos hyes] at w67
      subst w67
      skip
      have hPc := hP.sub (ws' := stE cI (SA (pT rows Gn)) (Z (pT rows Gn))) [11 + 3 * (pT rows Gn), 12 + 3 * (pT rows Gn), 13 + 3 * (pT rows Gn)] (st_fm (htg))
      have hDc := hD.sub (ws' := stE cI (SA (pT rows Gn)) (Z (pT rows Gn))) [11 + 3 * (pT rows Gn), 12 + 3 * (pT rows Gn), 13 + 3 * (pT rows Gn)] (st_nd _) (st_map (htg))
      have hFc := va_free (wc := stE cI (SA (pT rows Gn)) (Z (pT rows Gn))) hD hS hA [11 + 3 * (pT rows Gn), 12 + 3 * (pT rows Gn), 13 + 3 * (pT rows Gn)] (st_map (htg))
      refine va_callv (va_runVN (As := [.int (pK rows Gn), .int (vx (zL (Z (pS rows Gn))) (rk (zL (Z (pS rows Gn))) (pK rows Gn)))]) (rest := []) ⟨hx, hb, hml, hown, ht⟩ (c_X3_set l D cI cZ cS cJ H.size (SA (pT rows Gn)) (zK (Z (pT rows Gn))) (zV (Z (pT rows Gn))) (zL1 (Z (pT rows Gn))) (zL2 (Z (pT rows Gn))) (zF (Z (pT rows Gn))) (zG (Z (pT rows Gn))) (zL (Z (pT rows Gn))) (hzs _ (htg)).1 (hzs _ (htg)).2.1 (hzs _ (htg)).2.2 (Nat.lt_trans (hlen _ htg) (by decide)) (pK rows Gn) (vx (zL (Z (pS rows Gn))) (rk (zL (Z (pS rows Gn))) (pK rows Gn)))) ⟨xwN 2 ht kw2_82 kw2_79 kw1_6 rfl rfl (by decide +kernel) ⟨Nat.le_of_ble_eq_true rfl, Nat.le_of_ble_eq_true rfl⟩, ht _ kw2_81, ht _ kwS_10⟩ ⟨PB.blind, va_recv hK hPc (ci := 3) (q0 := 0) rfl rfl, fun U hU hW => PB.mk hU hW hPc hK hDc⟩ rfl rfl hl.1 rfl (lv_room (Nat.le_of_ble_eq_true rfl)) dX4_copyToTarget_70 ⟨Nat.le_of_ble_eq_true rfl, Nat.le_of_ble_eq_true rfl⟩) hS (fun q _ h => hFc q h) hFc (fun u70 t70 H1 locs ht1 hvm w70 hB hz1 hk1 hS => ?_)
      try dsimp only at w70 hB
      obtain ⟨ka70, va70, La70, Lb70, fa70, ga70⟩ := u70
      dsimp only at w70 hB
      obtain ⟨hP1, hD1⟩ := hB
      rw [ht1] at hP1
      obtain ⟨hP, hD⟩ := wk_join (w1 := stE cI (SA (pT rows Gn)) (ka70, va70, La70, Lb70, fa70, ga70, ins (zL (Z (pT rows Gn))) (pK rows Gn) (vx (zL (Z (pS rows Gn))) (rk (zL (Z (pS rows Gn))) (pK rows Gn))))) hP hD [11 + 3 * (pT rows Gn), 12 + 3 * (pT rows Gn), 13 + 3 * (pT rows Gn)] (st_map (htg)) (st_nd _) rfl hk1 hFc hP1 hD1
      rw [st_put (htg)] at hP hD
      have hzsA70 : ZS (fu Z (pT rows Gn) (ka70, va70, La70, Lb70, fa70, ga70, ins (zL (Z (pT rows Gn))) (pK rows Gn) (vx (zL (Z (pS rows Gn))) (rk (zL (Z (pS rows Gn))) (pK rows Gn))))) := zs_ins hzs (htg) w70 (Nat.lt_trans (hlen _ htg) (by decide))
      generalize H1 = H at hP hS ⊢
      have hP : va_P D vwCl (cW cI cS G SA sf pa no pts rf rg (nI RL.length) pk ps pt L p1 p2 p3 (nI rows.length) op (nI F) (nI Gn) (cB C) off (wLeft left) (wr + 1) rc th (fu Z (pT rows Gn) (ka70, va70, La70, Lb70, fa70, ga70, ins (zL (Z (pT rows Gn))) (pK rows Gn) (vx (zL (Z (pS rows Gn))) (rk (zL (Z (pS rows Gn))) (pK rows Gn)))))) H := hP
      have hD : va_D A (cW cI cS G SA sf pa no pts rf rg (nI RL.length) pk ps pt L p1 p2 p3 (nI rows.length) op (nI F) (nI Gn) (cB C) off (wLeft left) (wr + 1) rc th (fu Z (pT rows Gn) (ka70, va70, La70, Lb70, fa70, ga70, ins (zL (Z (pT rows Gn))) (pK rows Gn) (vx (zL (Z (pS rows Gn))) (rk (zL (Z (pS rows Gn))) (pK rows Gn)))))) := hD
      refine lv_goto (tgt := 82) hx hb dX4_copyToTarget_73 (by decide) ?_
      refine lv_aload_n hx hb dX4_copyToTarget_82 rfl (lv_at hl 3 rfl) ?_
      refine va_get (D := D) (ci := 4) (v := .ref (G 4)) (C := RX4) (T := TX4) (N := 5) hx hb ht inX4 hown hK hP 0 (rfl) rfl 2 (by decide) (ht _ kw1_177) (fun _ h9 => h9) rfl dX4_copyToTarget_83 ?_
      refine lv_iconst (v := 1) hx hb dX4_copyToTarget_86 (by decide) ?_
      refine va_putN (D := D) (ci := 0) (v := .int 1) (ty := .boolean) (C := RX0) (T := TX0) (N := 8) hx hb ht inX0 tyX0 tyX0_ok nmX0 hown hK hP hD hS 6 rfl rfl 7 (by decide) (ht _ kw1_78) (fun _ h9 => h9) rfl (by decide +kernel) (by decide +kernel) rfl (Nat.le_of_ble_eq_true rfl) dX4_copyToTarget_87 (fun H locs hP hD hS => ?_)
      have hP : va_P D vwCl (cW cI cS G SA sf pa no pts rf rg (nI RL.length) pk ps pt L p1 p2 p3 (nI rows.length) op (nI F) (nI Gn) 1 off (wLeft left) (wr + 1) rc th (fu Z (pT rows Gn) (ka70, va70, La70, Lb70, fa70, ga70, ins (zL (Z (pT rows Gn))) (pK rows Gn) (vx (zL (Z (pS rows Gn))) (rk (zL (Z (pS rows Gn))) (pK rows Gn)))))) H := hP
      have hD : va_D A (cW cI cS G SA sf pa no pts rf rg (nI RL.length) pk ps pt L p1 p2 p3 (nI rows.length) op (nI F) (nI Gn) 1 off (wLeft left) (wr + 1) rc th (fu Z (pT rows Gn) (ka70, va70, La70, Lb70, fa70, ga70, ins (zL (Z (pT rows Gn))) (pK rows Gn) (vx (zL (Z (pS rows Gn))) (rk (zL (Z (pS rows Gn))) (pK rows Gn)))))) := hD
      refine lv_iconst (v := 2) hx hb dX4_copyToTarget_90 (by decide) ?_
      refine W.widen (k := 6) (n := 8300) (Nat.le_of_ble_eq_true rfl) (Nat.le_of_ble_eq_true rfl) ?_
      exact W.iret (v := 2) hx hb hr (fun t ht2 hW => ⟨⟨2, (pa, no, pts, rf, rg, RL, pk, ps, pt, L, p1, p2, p3, op, off, wLeft left, wr + 1, rc, th, fu Z (pT rows Gn) (ka70, va70, La70, Lb70, fa70, ga70, ins (zL (Z (pT rows Gn))) (pK rows Gn) (vx (zL (Z (pS rows Gn))) (rk (zL (Z (pS rows Gn))) (pK rows Gn)))), mm, rows, F, Gn, true), rfl, by
            (try dsimp only)
            refine ⟨?_, ⟨hci.1, hci.2.1, by first | exact hzsA70 | exact hzsA79 | exact hzs⟩, rfl⟩
            unfold stepF
            rw [if_neg (fun q => q.elim (fun z => z hoff0) hop)]
            first | (rw [if_pos hlf]; rfl) | (rw [if_neg hlf]; (rw [if_neg (show ¬ Gn = rows.length by omega), if_neg hGF, if_neg hC]; (first | rw [if_pos (show hs (stZ Z (pS rows Gn)) (pK rows Gn) = true from hyes)] | rw [if_neg (show ¬ hs (stZ Z (pS rows Gn)) (pK rows Gn) = true from hno)]); simp only [sgu, stZ_fu]; rfl)), ⟨by (try dsimp only); rw [ht2]; exact hP, by exact hD⟩⟩, hS.F ht2⟩) hS.2.2 dX4_copyToTarget_91
  · have hlf : left = 0 := wOk_n (by rw [← w4]; exact c7)
    rw [show wOff left off = 1 from if_pos hlf, wLeft_z hlf, show wInc left wr = wr from if_pos hlf] at hP hD
    refine lv_bipush (v := (-9)) hx hb dX4_copyToTarget_10 (by decide) ?_
    refine W.widen (k := 6) (n := 8300) (Nat.le_of_ble_eq_true rfl) (Nat.le_of_ble_eq_true rfl) ?_
    exact W.iret (v := (-9)) hx hb hr (fun t ht2 hW => ⟨⟨(-9), (pa, no, pts, rf, rg, RL, pk, ps, pt, L, p1, p2, p3, op, 1, left, wr, rc, th, Z, mm, rows, F, Gn, C), rfl, by
          (try dsimp only)
          refine ⟨?_, ⟨hci.1, hci.2.1, by first | exact hzsA70 | exact hzsA79 | exact hzs⟩, rfl⟩
          unfold stepF
          rw [if_neg (fun q => q.elim (fun z => z hoff0) hop)]
          first | (rw [if_pos hlf]; rfl) | (rw [if_neg hlf]; (rw [if_neg (show ¬ Gn = rows.length by omega), if_neg hGF, if_neg hC]; (first | rw [if_pos (show hs (stZ Z (pS rows Gn)) (pK rows Gn) = true from hyes)] | rw [if_neg (show ¬ hs (stZ Z (pS rows Gn)) (pK rows Gn) = true from hno)]); simp only [sgu, stZ_fu]; rfl)), ⟨by (try dsimp only); rw [ht2]; exact hP, by exact hD⟩⟩, hS.F ht2⟩) hS.2.2 dX4_copyToTarget_12

set_option maxHeartbeats 4000000 in
set_option maxRecDepth 100000 in
theorem c_X4_step (l : Launch) (hl0 : l.stackTraces = false) (D : va_G) (cI cZ cS cJ : ClassId) (sz : Nat) (G SA : Nat → Nat) (sf : Nat → Option Nat) (hsf : ∀ n, n < 8 → sf n = some (SA n)) (pa no : Nat) (pts rf rg : Nat → Int32) (RL : List (Int32 × Int32)) (pk ps pt L : Nat) (p1 p2 p3 : Nat → Int32) (op off left wr rc th : Int32) (Z : Nat → ST) (mm : Nat → Nat) (rows : List (Int32 × Nat × Nat)) (F Gn : Nat) (C : Bool) (hci : CI mm RL pts rf rg rows L p1 p2 p3 F Gn Z) (hG : Gn ≤ F) (hF : F ≤ rows.length) (hlen : ∀ n, n < 8 → (zL (Z n)).length < 999) : vx_Met l yX4_step (Cond.code yX4_step cX4_step 2 (some .int) :: TB) ({ frames := 7, cells := 8, slots := 8320, locals := 133 } : Room) (va_Pc [.ref (G 0)] (PX D (KT cI cZ cS cJ) (cW cI cS G SA sf pa no pts rf rg (nI RL.length) pk ps pt L p1 p2 p3 (nI rows.length) op (nI F) (nI Gn) (cB C) off left wr rc th Z) sz)) (va_Qi (fun r (u : CT) => stepF off left wr rc (stZ Z) mm op rows F Gn C = (0, r, sgu u) ∧ CIu u ∧ thu u = th) (fun (u : CT) t => va_P D vwCl (cWu cI cS G SA sf u) t.heap ∧ va_D (va_A (cW cI cS G SA sf pa no pts rf rg (nI RL.length) pk ps pt L p1 p2 p3 (nI rows.length) op (nI F) (nI Gn) (cB C) off left wr rc th Z) sz) (cWu cI cS G SA sf u)) (va_A (cW cI cS G SA sf pa no pts rf rg (nI RL.length) pk ps pt L p1 p2 p3 (nI rows.length) op (nI F) (nI Gn) (cB C) off left wr rc th Z) sz)) (vx_X (fun (_ : Unit) => True) (fun E (_ : Unit) t => (fun E => E = cISE ∧ (stepF off left wr rc (stZ Z) mm op rows F Gn C).1 = 1) E ∧ va_P D vwCl (cW cI cS G SA sf pa no pts rf rg (nI RL.length) pk ps pt L p1 p2 p3 (nI rows.length) op (nI F) (nI Gn) (cB C) off left wr rc th Z) t.heap) (va_A (cW cI cS G SA sf pa no pts rf rg (nI RL.length) pk ps pt L p1 p2 p3 (nI rows.length) op (nI F) (nI Gn) (cB C) off left wr rc th Z) sz)) 8 8320 (va_A (cW cI cS G SA sf pa no pts rf rg (nI RL.length) pk ps pt L p1 p2 p3 (nI rows.length) op (nI F) (nI Gn) (cB C) off left wr rc th Z) sz) := by
  refine vx_ofW (cc := cX4_step) (maxL := 2) (ret := (some .int)) (by decide) rfl ?_
  intro p e s m args below meth c s₁ B hml hnt hv
  obtain ⟨rfl, ⟨hsz, hP, hK, hD0⟩, hTX⟩ := hv
  have hx := B.exec
  have hb := B.bytes
  have hr := B.returns
  have hts := atoms_spec (ws := (Cond.code yX4_step cX4_step 2 (some .int) :: TB)) B.pre
  have ht : ∀ w ∈ TB, w.before _ s = true := fun w h => hts w (List.mem_cons_of_mem _ h)
  have hown : s.vm.findClass RX4 = some m.cls := findClass_of_methodNamed B.named
  have hlocks := B.notSynchronized
  subst hsz
  have hD := hD0.self (sz := s.heap.size)
  generalize hAe : va_A (cW cI cS G SA sf pa no pts rf rg (nI RL.length) pk ps pt L p1 p2 p3 (nI rows.length) op (nI F) (nI Gn) (cB C) off left wr rc th Z) s.heap.size = A at hD hTX ⊢
  have hA : ∀ q : Nat, s.heap.size ≤ q → A q := fun q h => by rw [← hAe]; exact Or.inr h
  have hS : va_S A s.heap s.heap [] := va_S.rf
  have hP : va_P D vwCl (cW cI cS G SA sf pa no pts rf rg (nI RL.length) pk ps pt L p1 p2 p3 (nI rows.length) op (nI F) (nI Gn) (cB C) off left wr rc th Z) s.heap := hP
  have hl := lv_entry ([.ref (G 0)]) (n := 2) (Nat.le_of_ble_eq_true rfl)
  rw [lg_entry_eq]
  generalize (lg_sl ([.ref (G 0)]) ++ List.replicate (2 - (lg_sl ([.ref (G 0)])).length) Slot.unset).toArray = ls at hl ⊢
  have hl : lv_has ls 2 [(0, .ref (G 0))] := hl
  obtain ⟨⟨hrr, hrg, h16, hM⟩, ⟨hpr, h32, hrl, hF9, hG9, hsr, hp8⟩, hzs⟩ := id hci
  refine lv_aload_n hx hb dX4_step_0 rfl (lv_at hl 0 rfl) ?_
  have hPc := hP.sub (ws' := [((G 0), .inr (4, [.ref (G 1), .ref (G 3), .ref (G 4), .ref (G 5), .int th])), ((G 5), .inr (1, [.int off, .int left, .int wr, .int rc]))]) [0, 10] rfl
  have hDc := hD.sub (ws' := [((G 0), .inr (4, [.ref (G 1), .ref (G 3), .ref (G 4), .ref (G 5), .int th])), ((G 5), .inr (1, [.int off, .int left, .int wr, .int rc]))]) [0, 10] (by decide) rfl
  have hFc := va_free (wc := [((G 0), .inr (4, [.ref (G 1), .ref (G 3), .ref (G 4), .ref (G 5), .int th])), ((G 5), .inr (1, [.int off, .int left, .int wr, .int rc]))]) hD hS hA [0, 10] rfl
  refine vx_callv (vx_runV (As := []) (rest := []) ⟨hx, hb, hml, hown, ht⟩ (c_X4_needPower l hl0 D cI cZ cS cJ s.heap.size G off left wr rc th) (xwV 0 ht kw1_218 kw1_215 kw1_1 kw1_217 kwS_1 rfl rfl (by decide +kernel) ⟨Nat.le_of_ble_eq_true rfl, Nat.le_of_ble_eq_true rfl⟩) ⟨PX.blind, va_recv hK hPc (ci := 4) (q0 := 0) rfl rfl, fun U hU hW => PX.mk hU hW hPc hK hDc hS hFc hTX⟩ rfl rfl hl.1 rfl (lv_room (Nat.le_of_ble_eq_true rfl)) dX4_step_1 ⟨Nat.le_of_ble_eq_true rfl, Nat.le_of_ble_eq_true rfl⟩) hS (fun q _ h => hFc q h) hFc (fun q _ h => hFc q h) (fun E ce q9 u t9 H1 locs ht1 hvm _ hBX hz1 hk1 hS hce hcv hcl => ?_) (fun u1 t1 H1 locs ht1 hvm w1 hB hz1 hk1 hS => ?_)
  · obtain ⟨hXE, hBX⟩ := hBX
    rw [ht1] at hBX
    have hP := wk_ro hP hD [0, 10] rfl hk1 hBX
    exact vx_out (fun x hx => (hnt x hx).elim) hlocks hce hcv hcl (fun t ht9 _ => ⟨(), trivial, ⟨⟨hXE.1, by unfold stepF; rw [if_pos (Or.inl hXE.2)]⟩, by rw [ht9]; exact hP⟩, hS.F ht9⟩) hS.2.2 (Nat.le_of_ble_eq_true rfl) (Nat.le_of_ble_eq_true rfl)
  try dsimp only at w1 hB
  rw [ht1] at hB
  have hP := wk_ro hP hD [0, 10] rfl hk1 hB
  generalize H1 = H at hP hS ⊢
  refine lv_aload_n hx hb dX4_step_4 rfl (lv_at hl 0 rfl) ?_
  refine va_get (D := D) (ci := 4) (v := .ref (G 4)) (C := RX4) (T := TX4) (N := 5) hx hb ht inX4 hown hK hP 0 (rfl) rfl 2 (by decide) (ht _ kw1_177) (fun _ h9 => h9) rfl dX4_step_5 ?_
  refine va_getN (D := D) (ci := 0) (v := .int op) (C := RX0) (T := TX0) (N := 8) hx hb ht inX0 hown hK hP 6 (rfl) rfl 4 (by decide) (ht _ kw1_72) (fun _ h9 => h9) rfl dX4_step_8 ?_
  refine lv_if_ne (tgt := 24) hx hb dX4_step_11 (by decide) (fun c11 => ?_) (fun c11 => ?_)
  · refine lv_aload_n hx hb dX4_step_24 rfl (lv_at hl 0 rfl) ?_
    refine va_get (D := D) (ci := 4) (v := .ref (G 4)) (C := RX4) (T := TX4) (N := 5) hx hb ht inX4 hown hK hP 0 (rfl) rfl 2 (by decide) (ht _ kw1_177) (fun _ h9 => h9) rfl dX4_step_25 ?_
    refine va_getN (D := D) (ci := 0) (v := .int (nI Gn)) (C := RX0) (T := TX0) (N := 8) hx hb ht inX0 hown hK hP 6 (rfl) rfl 6 (by decide) (ht _ kw1_76) (fun _ h9 => h9) rfl dX4_step_28 ?_
    refine lv_istore_n (lv' := [(1, .int (nI Gn)), (0, .ref (G 0))]) hx hb dX4_step_31 rfl hl (by decide) rfl (fun ls hl => ?_)
    refine lv_aload_n hx hb dX4_step_32 rfl (lv_at hl 1 rfl) ?_
    refine va_get (D := D) (ci := 4) (v := .ref (G 4)) (C := RX4) (T := TX4) (N := 5) hx hb ht inX4 hown hK hP 0 (rfl) rfl 2 (by decide) (ht _ kw1_177) (fun _ h9 => h9) rfl dX4_step_33 ?_
    refine lv_iload_n hx hb dX4_step_36 rfl (lv_at hl 0 rfl) ?_
    have hPc := hP.sub (ws' := [((G 4), .inr (0, [.ref pk, .ref ps, .ref pt, .int (nI rows.length), .int op, .int (nI F), .int (nI Gn), .int (cB C)])), (pk, .inl (cI, L, .inl p1)), (ps, .inl (cI, L, .inl p2)), (pt, .inl (cI, L, .inl p3))]) [6, 7, 8, 9] rfl
    have hDc := hD.sub (ws' := [((G 4), .inr (0, [.ref pk, .ref ps, .ref pt, .int (nI rows.length), .int op, .int (nI F), .int (nI Gn), .int (cB C)])), (pk, .inl (cI, L, .inl p1)), (ps, .inl (cI, L, .inl p2)), (pt, .inl (cI, L, .inl p3))]) [6, 7, 8, 9] (by decide) rfl
    have hFc := va_free (wc := [((G 4), .inr (0, [.ref pk, .ref ps, .ref pt, .int (nI rows.length), .int op, .int (nI F), .int (nI Gn), .int (cB C)])), (pk, .inl (cI, L, .inl p1)), (ps, .inl (cI, L, .inl p2)), (pt, .inl (cI, L, .inl p3))]) hD hS hA [6, 7, 8, 9] rfl
    refine va_calli (va_runVN (As := [.int (nI Gn)]) (rest := []) ⟨hx, hb, hml, hown, ht⟩ (c_X0_stateAt l D cI cZ cS cJ H.size (G 4) pk ps pt L p1 p2 p3 op rows F Gn C hpr hrl hF9 hG9 (nI Gn)) ⟨xwN 1 ht kw2_60 kw2_57 kw1_4 rfl rfl (by decide +kernel) ⟨Nat.le_of_ble_eq_true rfl, Nat.le_of_ble_eq_true rfl⟩, ht _ kw2_59, ht _ kwS_5⟩ ⟨PB.blind, va_recv hK hPc (ci := 0) (q0 := 0) rfl rfl, fun U hU hW => PB.mk hU hW hPc hK hDc⟩ rfl rfl hl.1 rfl (lv_room (Nat.le_of_ble_eq_true rfl)) dX4_step_37 ⟨Nat.le_of_ble_eq_true rfl, Nat.le_of_ble_eq_true rfl⟩) hS (fun q _ h => hFc q h) hFc (fun r37 u37 t37 H1 locs ht1 hvm w37 hB hz1 hk1 hS => ?_)
    try dsimp only at w37 hB
    rw [ht1] at hB
    have hP := wk_ro hP hD [6, 7, 8, 9] rfl hk1 hB
    generalize H1 = H at hP hS ⊢
    rw [nI_clamp (show Gn < 2 ^ 31 by omega)] at w37
    by_cases h1 : Gn = rows.length
    · have e37 : r37 = 0 := by
        rw [w37]
        rw [if_pos (Or.inr (by rw [h1]; exact Int32.le_refl _))]
      subst e37
      refine lv_tableOut (tgt := 85) hx hb dX4_step_40 (by decide) (by decide) ?_
      refine lv_aload_n hx hb dX4_step_85 rfl (lv_at hl 1 rfl) ?_
      have hPc := hP
      have hDc := hD
      have hFc := wfree hD hS hA
      refine va_calli (va_runV (As := []) (rest := []) ⟨hx, hb, hml, hown, ht⟩ (c_X4_endPlan l D cI cZ cS cJ H.size G SA sf hsf pa no pts rf rg RL pk ps pt L p1 p2 p3 op off left wr rc th Z mm rows F Gn C hci w1 c11 hG hF h1) (xwV 0 ht kw2_218 kw2_215 kw1_1 kw2_217 kwS_20 rfl rfl (by decide +kernel) ⟨Nat.le_of_ble_eq_true rfl, Nat.le_of_ble_eq_true rfl⟩) ⟨PB.blind, va_recv hK hPc (ci := 4) (q0 := 0) rfl rfl, fun U hU hW => PB.mk hU hW hPc hK hDc⟩ rfl rfl hl.1 rfl (lv_room (Nat.le_of_ble_eq_true rfl)) dX4_step_86 ⟨Nat.le_of_ble_eq_true rfl, Nat.le_of_ble_eq_true rfl⟩) hS (fun q _ h => hFc q h) hFc (fun r86 u86 t86 H1 locs ht1 hvm w86 hB hz1 hk1 hS => ?_)
      try dsimp only at w86 hB
      obtain ⟨pa9, no9, pts9, rf9, rg9, RL9, pk9, ps9, pt9, L9, p19, p29, p39, op9, off9, left9, wr9, rc9, th9, Z9, mm9, rows9, F9, Gn9, C9⟩ := u86
      obtain ⟨hP1, hD1⟩ := hB
      rw [ht1] at hP1
      have hP := hP1
      have hD := wjoinW hD1 hFc
      generalize H1 = H at hP hS ⊢
      have hP : va_P D vwCl (cW cI cS G SA sf pa9 no9 pts9 rf9 rg9 (nI RL9.length) pk9 ps9 pt9 L9 p19 p29 p39 (nI rows9.length) op9 (nI F9) (nI Gn9) (cB C9) off9 left9 wr9 rc9 th9 Z9) H := hP
      have hD : va_D A (cW cI cS G SA sf pa9 no9 pts9 rf9 rg9 (nI RL9.length) pk9 ps9 pt9 L9 p19 p29 p39 (nI rows9.length) op9 (nI F9) (nI Gn9) (cB C9) off9 left9 wr9 rc9 th9 Z9) := hD
      refine vx_ret ?_
      refine W.widen (k := 8) (n := 8320) (Nat.le_of_ble_eq_true rfl) (Nat.le_of_ble_eq_true rfl) ?_
      exact W.iret (v := r86) hx hb hr (fun t ht2 hW => ⟨⟨r86, (pa9, no9, pts9, rf9, rg9, RL9, pk9, ps9, pt9, L9, p19, p29, p39, op9, off9, left9, wr9, rc9, th9, Z9, mm9, rows9, F9, Gn9, C9), rfl, by first | exact w70 | exact w75 | exact w81 | exact w86, ⟨by (try dsimp only); rw [ht2]; exact hP, by exact hD⟩⟩, hS.F ht2⟩) hS.2.2 dX4_step_89
    have hgl : Gn < rows.length := by omega
    rw [if_neg (fun q => q.elim (fun z => nI_pos (by omega) z) (fun z => absurd z (nI_ge hgl (by omega))))] at w37
    by_cases h2 : Gn < F
    · have e37 : r37 = 3 := by
        rw [w37]
        unfold sta; rw [if_pos h2, if_neg (Nat.lt_irrefl _)]
      subst e37
      refine lv_tableIn (off := 39) (tgt := 79) hx hb dX4_step_40 (by decide) (by decide) (by decide) (by decide) ?_
      refine lv_aload_n hx hb dX4_step_79 rfl (lv_at hl 1 rfl) ?_
      refine lv_iload_n hx hb dX4_step_80 rfl (lv_at hl 0 rfl) ?_
      have hPc := hP
      have hDc := hD
      have hFc := wfree hD hS hA
      refine va_calli (va_runV (As := [.int (nI Gn)]) (rest := []) ⟨hx, hb, hml, hown, ht⟩ (c_X4_takeOffSource l D cI cZ cS cJ H.size G SA sf hsf pa no pts rf rg RL pk ps pt L p1 p2 p3 op off left wr rc th Z mm rows F Gn C hci w1 c11 hG hF h2) (xwV 1 ht kw2_214 kw2_211 kw1_1 kw2_213 kwS_19 rfl rfl (by decide +kernel) ⟨Nat.le_of_ble_eq_true rfl, Nat.le_of_ble_eq_true rfl⟩) ⟨PB.blind, va_recv hK hPc (ci := 4) (q0 := 0) rfl rfl, fun U hU hW => PB.mk hU hW hPc hK hDc⟩ rfl rfl hl.1 rfl (lv_room (Nat.le_of_ble_eq_true rfl)) dX4_step_81 ⟨Nat.le_of_ble_eq_true rfl, Nat.le_of_ble_eq_true rfl⟩) hS (fun q _ h => hFc q h) hFc (fun r81 u81 t81 H1 locs ht1 hvm w81 hB hz1 hk1 hS => ?_)
      try dsimp only at w81 hB
      obtain ⟨pa9, no9, pts9, rf9, rg9, RL9, pk9, ps9, pt9, L9, p19, p29, p39, op9, off9, left9, wr9, rc9, th9, Z9, mm9, rows9, F9, Gn9, C9⟩ := u81
      obtain ⟨hP1, hD1⟩ := hB
      rw [ht1] at hP1
      have hP := hP1
      have hD := wjoinW hD1 hFc
      generalize H1 = H at hP hS ⊢
      have hP : va_P D vwCl (cW cI cS G SA sf pa9 no9 pts9 rf9 rg9 (nI RL9.length) pk9 ps9 pt9 L9 p19 p29 p39 (nI rows9.length) op9 (nI F9) (nI Gn9) (cB C9) off9 left9 wr9 rc9 th9 Z9) H := hP
      have hD : va_D A (cW cI cS G SA sf pa9 no9 pts9 rf9 rg9 (nI RL9.length) pk9 ps9 pt9 L9 p19 p29 p39 (nI rows9.length) op9 (nI F9) (nI Gn9) (cB C9) off9 left9 wr9 rc9 th9 Z9) := hD
      refine vx_ret ?_
      refine W.widen (k := 8) (n := 8320) (Nat.le_of_ble_eq_true rfl) (Nat.le_of_ble_eq_true rfl) ?_
      exact W.iret (v := r81) hx hb hr (fun t ht2 hW => ⟨⟨r81, (pa9, no9, pts9, rf9, rg9, RL9, pk9, ps9, pt9, L9, p19, p29, p39, op9, off9, left9, wr9, rc9, th9, Z9, mm9, rows9, F9, Gn9, C9), rfl, by first | exact w70 | exact w75 | exact w81 | exact w86, ⟨by (try dsimp only); rw [ht2]; exact hP, by exact hD⟩⟩, hS.F ht2⟩) hS.2.2 dX4_step_84
    have h3 : Gn = F := by omega
    by_cases h4 : C = true
    · have e37 : r37 = 2 := by
        rw [w37]
        exact sta_2.mpr ⟨h3, h4⟩
      subst e37
      refine lv_tableIn (off := 34) (tgt := 74) hx hb dX4_step_40 (by decide) (by decide) (by decide) (by decide) ?_
      refine lv_aload_n hx hb dX4_step_74 rfl (lv_at hl 1 rfl) ?_
      have hPc := hP
      have hDc := hD
      have hFc := wfree hD hS hA
      refine va_calli (va_runV (As := []) (rest := []) ⟨hx, hb, hml, hown, ht⟩ (c_X4_flip l D cI cZ cS cJ H.size G SA sf hsf pa no pts rf rg RL pk ps pt L p1 p2 p3 op off left wr rc th Z mm rows F Gn C hci w1 c11 hG hF h3 (by omega) h4) (xwV 0 ht kw2_210 kw2_207 kw1_1 kw2_209 kwS_18 rfl rfl (by decide +kernel) ⟨Nat.le_of_ble_eq_true rfl, Nat.le_of_ble_eq_true rfl⟩) ⟨PB.blind, va_recv hK hPc (ci := 4) (q0 := 0) rfl rfl, fun U hU hW => PB.mk hU hW hPc hK hDc⟩ rfl rfl hl.1 rfl (lv_room (Nat.le_of_ble_eq_true rfl)) dX4_step_75 ⟨Nat.le_of_ble_eq_true rfl, Nat.le_of_ble_eq_true rfl⟩) hS (fun q _ h => hFc q h) hFc (fun r75 u75 t75 H1 locs ht1 hvm w75 hB hz1 hk1 hS => ?_)
      try dsimp only at w75 hB
      obtain ⟨pa9, no9, pts9, rf9, rg9, RL9, pk9, ps9, pt9, L9, p19, p29, p39, op9, off9, left9, wr9, rc9, th9, Z9, mm9, rows9, F9, Gn9, C9⟩ := u75
      obtain ⟨hP1, hD1⟩ := hB
      rw [ht1] at hP1
      have hP := hP1
      have hD := wjoinW hD1 hFc
      generalize H1 = H at hP hS ⊢
      have hP : va_P D vwCl (cW cI cS G SA sf pa9 no9 pts9 rf9 rg9 (nI RL9.length) pk9 ps9 pt9 L9 p19 p29 p39 (nI rows9.length) op9 (nI F9) (nI Gn9) (cB C9) off9 left9 wr9 rc9 th9 Z9) H := hP
      have hD : va_D A (cW cI cS G SA sf pa9 no9 pts9 rf9 rg9 (nI RL9.length) pk9 ps9 pt9 L9 p19 p29 p39 (nI rows9.length) op9 (nI F9) (nI Gn9) (cB C9) off9 left9 wr9 rc9 th9 Z9) := hD
      refine vx_ret ?_
      refine W.widen (k := 8) (n := 8320) (Nat.le_of_ble_eq_true rfl) (Nat.le_of_ble_eq_true rfl) ?_
      exact W.iret (v := r75) hx hb hr (fun t ht2 hW => ⟨⟨r75, (pa9, no9, pts9, rf9, rg9, RL9, pk9, ps9, pt9, L9, p19, p29, p39, op9, off9, left9, wr9, rc9, th9, Z9, mm9, rows9, F9, Gn9, C9), rfl, by first | exact w70 | exact w75 | exact w81 | exact w86, ⟨by (try dsimp only); rw [ht2]; exact hP, by exact hD⟩⟩, hS.F ht2⟩) hS.2.2 dX4_step_78
    · have e37 : r37 = 1 := by
        rw [w37]
        unfold sta; rw [if_neg h2, if_neg (fun q => h4 q.2)]
      subst e37
      refine lv_tableIn (off := 28) (tgt := 68) hx hb dX4_step_40 (by decide) (by decide) (by decide) (by decide) ?_
      refine lv_aload_n hx hb dX4_step_68 rfl (lv_at hl 1 rfl) ?_
      refine lv_iload_n hx hb dX4_step_69 rfl (lv_at hl 0 rfl) ?_
      have hPc := hP
      have hDc := hD
      have hFc := wfree hD hS hA
      refine va_calli (va_runV (As := [.int (nI Gn)]) (rest := []) ⟨hx, hb, hml, hown, ht⟩ (c_X4_copyToTarget l D cI cZ cS cJ H.size G SA sf hsf pa no pts rf rg RL pk ps pt L p1 p2 p3 op off left wr rc th Z mm rows F Gn C hci w1 c11 hG hF hgl h2 h4 hlen) (xwV 1 ht kw2_206 kw2_203 kw1_1 kw2_205 kwS_17 rfl rfl (by decide +kernel) ⟨Nat.le_of_ble_eq_true rfl, Nat.le_of_ble_eq_true rfl⟩) ⟨PB.blind, va_recv hK hPc (ci := 4) (q0 := 0) rfl rfl, fun U hU hW => PB.mk hU hW hPc hK hDc⟩ rfl rfl hl.1 rfl (lv_room (Nat.le_of_ble_eq_true rfl)) dX4_step_70 ⟨Nat.le_of_ble_eq_true rfl, Nat.le_of_ble_eq_true rfl⟩) hS (fun q _ h => hFc q h) hFc (fun r70 u70 t70 H1 locs ht1 hvm w70 hB hz1 hk1 hS => ?_)
      try dsimp only at w70 hB
      obtain ⟨pa9, no9, pts9, rf9, rg9, RL9, pk9, ps9, pt9, L9, p19, p29, p39, op9, off9, left9, wr9, rc9, th9, Z9, mm9, rows9, F9, Gn9, C9⟩ := u70
      obtain ⟨hP1, hD1⟩ := hB
      rw [ht1] at hP1
      have hP := hP1
      have hD := wjoinW hD1 hFc
      generalize H1 = H at hP hS ⊢
      have hP : va_P D vwCl (cW cI cS G SA sf pa9 no9 pts9 rf9 rg9 (nI RL9.length) pk9 ps9 pt9 L9 p19 p29 p39 (nI rows9.length) op9 (nI F9) (nI Gn9) (cB C9) off9 left9 wr9 rc9 th9 Z9) H := hP
      have hD : va_D A (cW cI cS G SA sf pa9 no9 pts9 rf9 rg9 (nI RL9.length) pk9 ps9 pt9 L9 p19 p29 p39 (nI rows9.length) op9 (nI F9) (nI Gn9) (cB C9) off9 left9 wr9 rc9 th9 Z9) := hD
      refine vx_ret ?_
      refine W.widen (k := 8) (n := 8320) (Nat.le_of_ble_eq_true rfl) (Nat.le_of_ble_eq_true rfl) ?_
      exact W.iret (v := r70) hx hb hr (fun t ht2 hW => ⟨⟨r70, (pa9, no9, pts9, rf9, rg9, RL9, pk9, ps9, pt9, L9, p19, p29, p39, op9, off9, left9, wr9, rc9, th9, Z9, mm9, rows9, F9, Gn9, C9), rfl, by first | exact w70 | exact w75 | exact w81 | exact w86, ⟨by (try dsimp only); rw [ht2]; exact hP, by exact hD⟩⟩, hS.F ht2⟩) hS.2.2 dX4_step_73
  · have hxo := fun (t : State) h1 h2 => xout (t := t) hP hS h1 h2
    exact vx_throwS (names := xNames) (is := 133) (text := "there is no plan") (A := A) hx hb hl0 hown (by decide +kernel) xf_n (ht _ kw1_219) (ht _ kw1_15) (hTX.2.2 (133, "there is no plan") (by decide)).choose_spec (fun w h => ht w (xt_72 w h)) xg_72 hTX.1 hTX.2.1 hS (hl.1.trans hml.symm) dX4_step_14 dX4_step_17 dX4_step_18 dX4_step_20 dX4_step_23 (fun x hx => (hnt x hx).elim) (Nat.le_of_ble_eq_true rfl) (Nat.le_of_ble_eq_true rfl) (Nat.le_of_ble_eq_true rfl) (Nat.le_of_ble_eq_true rfl) hlocks (fun t hvm h1 h2 => ⟨(), trivial, ⟨⟨rfl, by unfold stepF; rw [if_pos (Or.inr c11)]⟩, (hxo t h1 h2).1⟩, (hxo t h1 h2).2⟩) hS.2.2 (Nat.le_of_ble_eq_true rfl) (Nat.le_of_ble_eq_true rfl)
