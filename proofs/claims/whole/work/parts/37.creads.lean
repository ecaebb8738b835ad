-- the class ShardRing: what only reads; fail, recover
set_option maxHeartbeats 4000000 in
set_option maxRecDepth 100000 in
theorem c_X4_off (l : Launch) (D : va_G) (cI cZ cS cJ : ClassId) (sz : Nat) (G SA : Nat → Nat) (sf : Nat → Option Nat) (hsf : ∀ n, n < 8 → sf n = some (SA n)) (pa no : Nat) (pts rf rg : Nat → Int32) (RL : List (Int32 × Int32)) (pk ps pt L : Nat) (p1 p2 p3 : Nat → Int32) (op off left wr rc th : Int32) (Z : Nat → ST) (mm : Nat → Nat) (rows : List (Int32 × Nat × Nat)) (F Gn : Nat) (C : Bool) (hci : CI mm RL pts rf rg rows L p1 p2 p3 F Gn Z) (hoff : off = 0 ∨ off = 1) : Met l yX4_off (Cond.code yX4_off cX4_off 1 (some .boolean) :: TB) ({ frames := 0, cells := 0, slots := 0, locals := 0 } : Room) (va_Pc [.ref (G 0)] (PB D (KT cI cZ cS cJ) (cW cI cS G SA sf pa no pts rf rg (nI RL.length) pk ps pt L p1 p2 p3 (nI rows.length) op (nI F) (nI Gn) (cB C) off left wr rc th Z) sz)) (va_Qi (fun r (_ : Unit) => r = off) (fun (_ : Unit) t => va_P D vwCl (cW cI cS G SA sf pa no pts rf rg (nI RL.length) pk ps pt L p1 p2 p3 (nI rows.length) op (nI F) (nI Gn) (cB C) off left wr rc th Z) t.heap) (va_A (cW cI cS G SA sf pa no pts rf rg (nI RL.length) pk ps pt L p1 p2 p3 (nI rows.length) op (nI F) (nI Gn) (cB C) off left wr rc th Z) sz)) 0 0 (va_A (cW cI cS G SA sf pa no pts rf rg (nI RL.length) pk ps pt L p1 p2 p3 (nI rows.length) op (nI F) (nI Gn) (cB C) off left wr rc th Z) sz) := by
  refine Met.ofW (cc := cX4_off) (maxL := 1) (ret := (some .boolean)) (by decide) rfl ?_
  intro p e s m args below meth c s₁ B hml hv
  obtain ⟨rfl, hsz, hP, hK, hD0⟩ := hv
  have hx := B.exec
  have hb := B.bytes
  have hr := B.returns
  have hts := atoms_spec (ws := (Cond.code yX4_off cX4_off 1 (some .boolean) :: TB)) B.pre
  have ht : ∀ w ∈ TB, w.before _ s = true := fun w h => hts w (List.mem_cons_of_mem _ h)
  have hown : s.vm.findClass RX4 = some m.cls := findClass_of_methodNamed B.named
  have hlocks := B.notSynchronized
  subst hsz
  have hD := hD0.self (sz := s.heap.size)
  generalize hAe : va_A (cW cI cS G SA sf pa no pts rf rg (nI RL.length) pk ps pt L p1 p2 p3 (nI rows.length) op (nI F) (nI Gn) (cB C) off left wr rc th Z) s.heap.size = A at hD ⊢
  have hA : ∀ q : Nat, s.heap.size ≤ q → A q := fun q h => by rw [← hAe]; exact Or.inr h
  have hS : va_S A s.heap s.heap [] := va_S.rf
  have hP : va_P D vwCl (cW cI cS G SA sf pa no pts rf rg (nI RL.length) pk ps pt L p1 p2 p3 (nI rows.length) op (nI F) (nI Gn) (cB C) off left wr rc th Z) s.heap := hP
  have hl := lv_entry ([.ref (G 0)]) (n := 1) (Nat.le_of_ble_eq_true rfl)
  rw [lg_entry_eq]
  generalize (lg_sl ([.ref (G 0)]) ++ List.replicate (1 - (lg_sl ([.ref (G 0)])).length) Slot.unset).toArray = ls at hl ⊢
  have hl : lv_has ls 1 [(0, .ref (G 0))] := hl
  obtain ⟨⟨hrr, hrg, h16, hM⟩, ⟨hpr, h32, hrl, hF9, hG9, hsr, hp8⟩, hzs⟩ := id hci
  refine lv_aload_n hx hb dX4_off_0 rfl (lv_at hl 0 rfl) ?_
  refine va_get (D := D) (ci := 4) (v := .ref (G 5)) (C := RX4) (T := TX4) (N := 5) hx hb ht inX4 hown hK hP 0 (rfl) rfl 3 (by decide) (ht _ kw1_178) (fun _ h9 => h9) rfl dX4_off_1 ?_
  refine va_getN (D := D) (ci := 1) (v := .int off) (C := RX1) (T := TX1) (N := 4) hx hb ht inX1 hown hK hP 10 (rfl) rfl 0 (by decide) (ht _ kw1_103) (fun _ h9 => h9) rfl dX4_off_4 ?_
  refine W.widen (k := 0) (n := 0) (Nat.le_of_ble_eq_true rfl) (Nat.le_of_ble_eq_true rfl) ?_
  exact W.zret (v := off) hx hb hr (by rcases hoff with q | q <;> rw [q] <;> decide +kernel) (fun t ht2 hW => ⟨⟨off, (), rfl, rfl, by (try dsimp only); rw [ht2]; exact hP⟩, hS.F ht2⟩) hS.2.2 dX4_off_7

set_option maxHeartbeats 4000000 in
set_option maxRecDepth 100000 in
theorem c_X4_place (l : Launch) (D : va_G) (cI cZ cS cJ : ClassId) (sz : Nat) (G SA : Nat → Nat) (sf : Nat → Option Nat) (hsf : ∀ n, n < 8 → sf n = some (SA n)) (pa no : Nat) (pts rf rg : Nat → Int32) (RL : List (Int32 × Int32)) (pk ps pt L : Nat) (p1 p2 p3 : Nat → Int32) (op off left wr rc th : Int32) (Z : Nat → ST) (mm : Nat → Nat) (rows : List (Int32 × Nat × Nat)) (F Gn : Nat) (C : Bool) (hci : CI mm RL pts rf rg rows L p1 p2 p3 F Gn Z) (x : Int64) : Met l yX4_place (Cond.code yX4_place cX4_place 3 (some .int) :: TB) ({ frames := 1, cells := 0, slots := 0, locals := 21 } : Room) (va_Pc [.ref (G 0), .long x] (PB D (KT cI cZ cS cJ) (cW cI cS G SA sf pa no pts rf rg (nI RL.length) pk ps pt L p1 p2 p3 (nI rows.length) op (nI F) (nI Gn) (cB C) off left wr rc th Z) sz)) (va_Qi (fun r (_ : Unit) => r = plF x) (fun (_ : Unit) t => va_P D vwCl (cW cI cS G SA sf pa no pts rf rg (nI RL.length) pk ps pt L p1 p2 p3 (nI rows.length) op (nI F) (nI Gn) (cB C) off left wr rc th Z) t.heap) (va_A (cW cI cS G SA sf pa no pts rf rg (nI RL.length) pk ps pt L p1 p2 p3 (nI rows.length) op (nI F) (nI Gn) (cB C) off left wr rc th Z) sz)) 0 0 (va_A (cW cI cS G SA sf pa no pts rf rg (nI RL.length) pk ps pt L p1 p2 p3 (nI rows.length) op (nI F) (nI Gn) (cB C) off left wr rc th Z) sz) := by
  refine Met.ofW (cc := cX4_place) (maxL := 3) (ret := (some .int)) (by decide) rfl ?_
  intro p e s m args below meth c s₁ B hml hv
  obtain ⟨rfl, hsz, hP, hK, hD0⟩ := hv
  have hx := B.exec
  have hb := B.bytes
  have hr := B.returns
  have hts := atoms_spec (ws := (Cond.code yX4_place cX4_place 3 (some .int) :: TB)) B.pre
  have ht : ∀ w ∈ TB, w.before _ s = true := fun w h => hts w (List.mem_cons_of_mem _ h)
  have hown : s.vm.findClass RX4 = some m.cls := findClass_of_methodNamed B.named
  have hlocks := B.notSynchronized
  subst hsz
  have hD := hD0.self (sz := s.heap.size)
  generalize hAe : va_A (cW cI cS G SA sf pa no pts rf rg (nI RL.length) pk ps pt L p1 p2 p3 (nI rows.length) op (nI F) (nI Gn) (cB C) off left wr rc th Z) s.heap.size = A at hD ⊢
  have hA : ∀ q : Nat, s.heap.size ≤ q → A q := fun q h => by rw [← hAe]; exact Or.inr h
  have hS : va_S A s.heap s.heap [] := va_S.rf
  have hP : va_P D vwCl (cW cI cS G SA sf pa no pts rf rg (nI RL.length) pk ps pt L p1 p2 p3 (nI rows.length) op (nI F) (nI Gn) (cB C) off left wr rc th Z) s.heap := hP
  have hl := lv_entry ([.ref (G 0), .long x]) (n := 3) (Nat.le_of_ble_eq_true rfl)
  rw [lg_entry_eq]
  generalize (lg_sl ([.ref (G 0), .long x]) ++ List.replicate (3 - (lg_sl ([.ref (G 0), .long x])).length) Slot.unset).toArray = ls at hl ⊢
  have hl : lv_has ls 3 [(0, .ref (G 0)), (1, .long x)] := hl
  obtain ⟨⟨hrr, hrg, h16, hM⟩, ⟨hpr, h32, hrl, hF9, hG9, hsr, hp8⟩, hzs⟩ := id hci
  refine lv_lload_n hx hb dX4_place_0 rfl (lv_at hl 1 rfl) ?_
  have hPc : va_P D vwCl [] s.heap := va_P.nil
  have hDc : va_D A [] := va_D.nil
  have hFc := va_free (wc := []) hD hS hA [] rfl
  refine va_calli (va_runS (As := [.long x]) (rest := []) ⟨hx, hb, hml, hown, ht⟩ (c_X4_placeOf l D cI cZ cS cJ s.heap.size x) (xwS 1 ht kw1_144 kw1_199 kw1_1 kw1_143 rfl rfl (by decide +kernel) ⟨Nat.le_of_ble_eq_true rfl, Nat.le_of_ble_eq_true rfl⟩) ⟨PB.blind, fun U hU hW => PB.mk hU hW hPc hK hDc⟩ rfl rfl hl.1 rfl (lv_room (Nat.le_of_ble_eq_true rfl)) dX4_place_1 ⟨Nat.le_of_ble_eq_true rfl, Nat.le_of_ble_eq_true rfl⟩) hS (fun q _ h => hFc q h) hFc (fun r1 u1 t1 H1 locs ht1 hvm w1 hB hz1 hk1 hS => ?_)
  try dsimp only at w1 hB
  rw [ht1] at hB
  have hP := wk_ro (wc := []) hP hD [] rfl hk1 va_P.nil
  generalize H1 = H at hP hS ⊢
  refine W.widen (k := 0) (n := 0) (Nat.le_of_ble_eq_true rfl) (Nat.le_of_ble_eq_true rfl) ?_
  exact W.iret (v := r1) hx hb hr (fun t ht2 hW => ⟨⟨r1, (), rfl, w1, by (try dsimp only); rw [ht2]; exact hP⟩, hS.F ht2⟩) hS.2.2 dX4_place_4

set_option maxHeartbeats 4000000 in
set_option maxRecDepth 100000 in
theorem c_X4_owner (l : Launch) (hl0 : l.stackTraces = false) (D : va_G) (cI cZ cS cJ : ClassId) (sz : Nat) (G SA : Nat → Nat) (sf : Nat → Option Nat) (hsf : ∀ n, n < 8 → sf n = some (SA n)) (pa no : Nat) (pts rf rg : Nat → Int32) (RL : List (Int32 × Int32)) (pk ps pt L : Nat) (p1 p2 p3 : Nat → Int32) (op off left wr rc th : Int32) (Z : Nat → ST) (mm : Nat → Nat) (rows : List (Int32 × Nat × Nat)) (F Gn : Nat) (C : Bool) (hci : CI mm RL pts rf rg rows L p1 p2 p3 F Gn Z) (key : Int32) : vx_Met l yX4_owner (Cond.code yX4_owner cX4_owner 2 (some .int) :: TB) ({ frames := 7, cells := 3, slots := 18, locals := 110 } : Room) (va_Pc [.ref (G 0), .int key] (PX D (KT cI cZ cS cJ) (cW cI cS G SA sf pa no pts rf rg (nI RL.length) pk ps pt L p1 p2 p3 (nI rows.length) op (nI F) (nI Gn) (cB C) off left wr rc th Z) sz)) (va_Qi (fun r (_ : Unit) => ownF off mm key = (0, r)) (fun (_ : Unit) t => va_P D vwCl (cW cI cS G SA sf pa no pts rf rg (nI RL.length) pk ps pt L p1 p2 p3 (nI rows.length) op (nI F) (nI Gn) (cB C) off left wr rc th Z) t.heap) (va_A (cW cI cS G SA sf pa no pts rf rg (nI RL.length) pk ps pt L p1 p2 p3 (nI rows.length) op (nI F) (nI Gn) (cB C) off left wr rc th Z) sz)) (vx_X (fun (_ : Unit) => True) (fun E (_ : Unit) t => (fun E => E = cISE ∧ ownF off mm key = (1, 0)) E ∧ va_P D vwCl (cW cI cS G SA sf pa no pts rf rg (nI RL.length) pk ps pt L p1 p2 p3 (nI rows.length) op (nI F) (nI Gn) (cB C) off left wr rc th Z) t.heap) (va_A (cW cI cS G SA sf pa no pts rf rg (nI RL.length) pk ps pt L p1 p2 p3 (nI rows.length) op (nI F) (nI Gn) (cB C) off left wr rc th Z) sz)) 3 18 (va_A (cW cI cS G SA sf pa no pts rf rg (nI RL.length) pk ps pt L p1 p2 p3 (nI rows.length) op (nI F) (nI Gn) (cB C) off left wr rc th Z) sz) := by
  refine vx_ofW (cc := cX4_owner) (maxL := 2) (ret := (some .int)) (by decide) rfl ?_
  intro p e s m args below meth c s₁ B hml hnt hv
  obtain ⟨rfl, ⟨hsz, hP, hK, hD0⟩, hTX⟩ := hv
  have hx := B.exec
  have hb := B.bytes
  have hr := B.returns
  have hts := atoms_spec (ws := (Cond.code yX4_owner cX4_owner 2 (some .int) :: TB)) B.pre
  have ht : ∀ w ∈ TB, w.before _ s = true := fun w h => hts w (List.mem_cons_of_mem _ h)
  have hown : s.vm.findClass RX4 = some m.cls := findClass_of_methodNamed B.named
  have hlocks := B.notSynchronized
  subst hsz
  have hD := hD0.self (sz := s.heap.size)
  generalize hAe : va_A (cW cI cS G SA sf pa no pts rf rg (nI RL.length) pk ps pt L p1 p2 p3 (nI rows.length) op (nI F) (nI Gn) (cB C) off left wr rc th Z) s.heap.size = A at hD hTX ⊢
  have hA : ∀ q : Nat, s.heap.size ≤ q → A q := fun q h => by rw [← hAe]; exact Or.inr h
  have hS : va_S A s.heap s.heap [] := va_S.rf
  have hP : va_P D vwCl (cW cI cS G SA sf pa no pts rf rg (nI RL.length) pk ps pt L p1 p2 p3 (nI rows.length) op (nI F) (nI Gn) (cB C) off left wr rc th Z) s.heap := hP
  have hl := lv_entry ([.ref (G 0), .int key]) (n := 2) (Nat.le_of_ble_eq_true rfl)
  rw [lg_entry_eq]
  generalize (lg_sl ([.ref (G 0), .int key]) ++ List.replicate (2 - (lg_sl ([.ref (G 0), .int key])).length) Slot.unset).toArray = ls at hl ⊢
  have hl : lv_has ls 2 [(0, .ref (G 0)), (1, .int key)] := hl
  obtain ⟨⟨hrr, hrg, h16, hM⟩, ⟨hpr, h32, hrl, hF9, hG9, hsr, hp8⟩, hzs⟩ := id hci
  refine lv_aload_n hx hb dX4_owner_0 rfl (lv_at hl 0 rfl) ?_
  have hPc := hP.sub (ws' := [((G 0), .inr (4, [.ref (G 1), .ref (G 3), .ref (G 4), .ref (G 5), .int th])), ((G 5), .inr (1, [.int off, .int left, .int wr, .int rc]))]) [0, 10] rfl
  have hDc := hD.sub (ws' := [((G 0), .inr (4, [.ref (G 1), .ref (G 3), .ref (G 4), .ref (G 5), .int th])), ((G 5), .inr (1, [.int off, .int left, .int wr, .int rc]))]) [0, 10] (by decide) rfl
  have hFc := va_free (wc := [((G 0), .inr (4, [.ref (G 1), .ref (G 3), .ref (G 4), .ref (G 5), .int th])), ((G 5), .inr (1, [.int off, .int left, .int wr, .int rc]))]) hD hS hA [0, 10] rfl
  refine vx_callv (vx_runV (As := []) (rest := []) ⟨hx, hb, hml, hown, ht⟩ (c_X4_needPower l hl0 D cI cZ cS cJ s.heap.size G off left wr rc th) (xwV 0 ht kw1_218 kw1_215 kw1_1 kw1_217 kwS_1 rfl rfl (by decide +kernel) ⟨Nat.le_of_ble_eq_true rfl, Nat.le_of_ble_eq_true rfl⟩) ⟨PX.blind, va_recv hK hPc (ci := 4) (q0 := 0) rfl rfl, fun U hU hW => PX.mk hU hW hPc hK hDc hS hFc hTX⟩ rfl rfl hl.1 rfl (lv_room (Nat.le_of_ble_eq_true rfl)) dX4_owner_1 ⟨Nat.le_of_ble_eq_true rfl, Nat.le_of_ble_eq_true rfl⟩) hS (fun q _ h => hFc q h) hFc (fun q _ h => hFc q h) (fun E ce q9 u t9 H1 locs ht1 hvm _ hBX hz1 hk1 hS hce hcv hcl => ?_) (fun u1 t1 H1 locs ht1 hvm w1 hB hz1 hk1 hS => ?_)
  · obtain ⟨hXE, hBX⟩ := hBX
    rw [ht1] at hBX
    have hP := wk_ro hP hD [0, 10] rfl hk1 hBX
    exact vx_out (fun x hx => (hnt x hx).elim) hlocks hce hcv hcl (fun t ht9 _ => ⟨(), trivial, ⟨⟨hXE.1, if_pos hXE.2⟩, by rw [ht9]; exact hP⟩, hS.F ht9⟩) hS.2.2 (Nat.le_of_ble_eq_true rfl) (Nat.le_of_ble_eq_true rfl)
  try dsimp only at w1 hB
  rw [ht1] at hB
  have hP := wk_ro hP hD [0, 10] rfl hk1 hB
  generalize H1 = H at hP hS ⊢
  refine lv_aload_n hx hb dX4_owner_4 rfl (lv_at hl 0 rfl) ?_
  refine va_get (D := D) (ci := 4) (v := .ref (G 1)) (C := RX4) (T := TX4) (N := 5) hx hb ht inX4 hown hK hP 0 (rfl) rfl 0 (by decide) (ht _ kw1_175) (fun _ h9 => h9) rfl dX4_owner_5 ?_
  refine lv_iload_n hx hb dX4_owner_8 rfl (lv_at hl 1 rfl) ?_
  have hPc := hP.sub (ws' := [((G 1), .inr (2, [.ref (G 2), .ref pa, .ref no, .int (nI RL.length)])), ((G 2), .inl (cI, 8, .inl pts)), (pa, .inl (cI, 128, .inl rf)), (no, .inl (cI, 128, .inl rg))]) [1, 2, 3, 4] rfl
  have hDc := hD.sub (ws' := [((G 1), .inr (2, [.ref (G 2), .ref pa, .ref no, .int (nI RL.length)])), ((G 2), .inl (cI, 8, .inl pts)), (pa, .inl (cI, 128, .inl rf)), (no, .inl (cI, 128, .inl rg))]) [1, 2, 3, 4] (by decide) rfl
  have hFc := va_free (wc := [((G 1), .inr (2, [.ref (G 2), .ref pa, .ref no, .int (nI RL.length)])), ((G 2), .inl (cI, 8, .inl pts)), (pa, .inl (cI, 128, .inl rf)), (no, .inl (cI, 128, .inl rg))]) hD hS hA [1, 2, 3, 4] rfl
  refine va_calli (va_runVN (As := [.int key]) (rest := []) ⟨hx, hb, hml, hown, ht⟩ (c_X2_ownerOf l D cI cZ cS cJ H.size (G 1) (G 2) pa no pts rf rg mm RL hrr hrg h16 hM key) ⟨xwN 1 ht kw2_64 kw2_61 kw1_3 rfl rfl (by decide +kernel) ⟨Nat.le_of_ble_eq_true rfl, Nat.le_of_ble_eq_true rfl⟩, ht _ kw2_63, ht _ kwS_6⟩ ⟨PB.blind, va_recv hK hPc (ci := 2) (q0 := 0) rfl rfl, fun U hU hW => PB.mk hU hW hPc hK hDc⟩ rfl rfl hl.1 rfl (lv_room (Nat.le_of_ble_eq_true rfl)) dX4_owner_9 ⟨Nat.le_of_ble_eq_true rfl, Nat.le_of_ble_eq_true rfl⟩) hS (fun q _ h => hFc q h) hFc (fun r9 u9 t9 H1 locs ht1 hvm w9 hB hz1 hk1 hS => ?_)
  try dsimp only at w9 hB
  rw [ht1] at hB
  have hP := wk_ro hP hD [1, 2, 3, 4] rfl hk1 hB
  generalize H1 = H at hP hS ⊢
  refine vx_ret ?_
  refine W.widen (k := 3) (n := 18) (Nat.le_of_ble_eq_true rfl) (Nat.le_of_ble_eq_true rfl) ?_
  exact W.iret (v := r9) hx hb hr (fun t ht2 hW => ⟨⟨r9, (), rfl, by
        (try dsimp only)
        unfold ownF; rw [if_neg (fun q => q w1), w9], by (try dsimp only); rw [ht2]; exact hP⟩, hS.F ht2⟩) hS.2.2 dX4_owner_12

set_option maxHeartbeats 4000000 in
set_option maxRecDepth 100000 in
theorem c_X4_home (l : Launch) (hl0 : l.stackTraces = false) (D : va_G) (cI cZ cS cJ : ClassId) (sz : Nat) (G SA : Nat → Nat) (sf : Nat → Option Nat) (hsf : ∀ n, n < 8 → sf n = some (SA n)) (pa no : Nat) (pts rf rg : Nat → Int32) (RL : List (Int32 × Int32)) (pk ps pt L : Nat) (p1 p2 p3 : Nat → Int32) (op off left wr rc th : Int32) (Z : Nat → ST) (mm : Nat → Nat) (rows : List (Int32 × Nat × Nat)) (F Gn : Nat) (C : Bool) (hci : CI mm RL pts rf rg rows L p1 p2 p3 F Gn Z) (key : Int32) : vx_Met l yX4_home (Cond.code yX4_home cX4_home 2 (some .int) :: TB) ({ frames := 7, cells := 3, slots := 18, locals := 110 } : Room) (va_Pc [.ref (G 0), .int key] (PX D (KT cI cZ cS cJ) (cW cI cS G SA sf pa no pts rf rg (nI RL.length) pk ps pt L p1 p2 p3 (nI rows.length) op (nI F) (nI Gn) (cB C) off left wr rc th Z) sz)) (va_Qi (fun r (_ : Unit) => homF off mm rows F key = (0, r)) (fun (_ : Unit) t => va_P D vwCl (cW cI cS G SA sf pa no pts rf rg (nI RL.length) pk ps pt L p1 p2 p3 (nI rows.length) op (nI F) (nI Gn) (cB C) off left wr rc th Z) t.heap) (va_A (cW cI cS G SA sf pa no pts rf rg (nI RL.length) pk ps pt L p1 p2 p3 (nI rows.length) op (nI F) (nI Gn) (cB C) off left wr rc th Z) sz)) (vx_X (fun (_ : Unit) => True) (fun E (_ : Unit) t => (fun E => E = cISE ∧ homF off mm rows F key = (1, 0)) E ∧ va_P D vwCl (cW cI cS G SA sf pa no pts rf rg (nI RL.length) pk ps pt L p1 p2 p3 (nI rows.length) op (nI F) (nI Gn) (cB C) off left wr rc th Z) t.heap) (va_A (cW cI cS G SA sf pa no pts rf rg (nI RL.length) pk ps pt L p1 p2 p3 (nI rows.length) op (nI F) (nI Gn) (cB C) off left wr rc th Z) sz)) 3 18 (va_A (cW cI cS G SA sf pa no pts rf rg (nI RL.length) pk ps pt L p1 p2 p3 (nI rows.length) op (nI F) (nI Gn) (cB C) off left wr rc th Z) sz) := by
  refine vx_ofW (cc := cX4_home) (maxL := 2) (ret := (some .int)) (by decide) rfl ?_
  intro p e s m args below meth c s₁ B hml hnt hv
  obtain ⟨rfl, ⟨hsz, hP, hK, hD0⟩, hTX⟩ := hv
  have hx := B.exec
  have hb := B.bytes
  have hr := B.returns
  have hts := atoms_spec (ws := (Cond.code yX4_home cX4_home 2 (some .int) :: TB)) B.pre
  have ht : ∀ w ∈ TB, w.before _ s = true := fun w h => hts w (List.mem_cons_of_mem _ h)
  have hown : s.vm.findClass RX4 = some m.cls := findClass_of_methodNamed B.named
  have hlocks := B.notSynchronized
  subst hsz
  have hD := hD0.self (sz := s.heap.size)
  generalize hAe : va_A (cW cI cS G SA sf pa no pts rf rg (nI RL.length) pk ps pt L p1 p2 p3 (nI rows.length) op (nI F) (nI Gn) (cB C) off left wr rc th Z) s.heap.size = A at hD hTX ⊢
  have hA : ∀ q : Nat, s.heap.size ≤ q → A q := fun q h => by rw [← hAe]; exact Or.inr h
  have hS : va_S A s.heap s.heap [] := va_S.rf
  have hP : va_P D vwCl (cW cI cS G SA sf pa no pts rf rg (nI RL.length) pk ps pt L p1 p2 p3 (nI rows.length) op (nI F) (nI Gn) (cB C) off left wr rc th Z) s.heap := hP
  have hl := lv_entry ([.ref (G 0), .int key]) (n := 2) (Nat.le_of_ble_eq_true rfl)
  rw [lg_entry_eq]
  generalize (lg_sl ([.ref (G 0), .int key]) ++ List.replicate (2 - (lg_sl ([.ref (G 0), .int key])).length) Slot.unset).toArray = ls at hl ⊢
  have hl : lv_has ls 2 [(0, .ref (G 0)), (1, .int key)] := hl
  obtain ⟨⟨hrr, hrg, h16, hM⟩, ⟨hpr, h32, hrl, hF9, hG9, hsr, hp8⟩, hzs⟩ := id hci
  refine lv_aload_n hx hb dX4_home_0 rfl (lv_at hl 0 rfl) ?_
  have hPc := hP.sub (ws' := [((G 0), .inr (4, [.ref (G 1), .ref (G 3), .ref (G 4), .ref (G 5), .int th])), ((G 5), .inr (1, [.int off, .int left, .int wr, .int rc]))]) [0, 10] rfl
  have hDc := hD.sub (ws' := [((G 0), .inr (4, [.ref (G 1), .ref (G 3), .ref (G 4), .ref (G 5), .int th])), ((G 5), .inr (1, [.int off, .int left, .int wr, .int rc]))]) [0, 10] (by decide) rfl
  have hFc := va_free (wc := [((G 0), .inr (4, [.ref (G 1), .ref (G 3), .ref (G 4), .ref (G 5), .int th])), ((G 5), .inr (1, [.int off, .int left, .int wr, .int rc]))]) hD hS hA [0, 10] rfl
  refine vx_callv (vx_runV (As := []) (rest := []) ⟨hx, hb, hml, hown, ht⟩ (c_X4_needPower l hl0 D cI cZ cS cJ s.heap.size G off left wr rc th) (xwV 0 ht kw1_218 kw1_215 kw1_1 kw1_217 kwS_1 rfl rfl (by decide +kernel) ⟨Nat.le_of_ble_eq_true rfl, Nat.le_of_ble_eq_true rfl⟩) ⟨PX.blind, va_recv hK hPc (ci := 4) (q0 := 0) rfl rfl, fun U hU hW => PX.mk hU hW hPc hK hDc hS hFc hTX⟩ rfl rfl hl.1 rfl (lv_room (Nat.le_of_ble_eq_true rfl)) dX4_home_1 ⟨Nat.le_of_ble_eq_true rfl, Nat.le_of_ble_eq_true rfl⟩) hS (fun q _ h => hFc q h) hFc (fun q _ h => hFc q h) (fun E ce q9 u t9 H1 locs ht1 hvm _ hBX hz1 hk1 hS hce hcv hcl => ?_) (fun u1 t1 H1 locs ht1 hvm w1 hB hz1 hk1 hS => ?_)
  · obtain ⟨hXE, hBX⟩ := hBX
    rw [ht1] at hBX
    have hP := wk_ro hP hD [0, 10] rfl hk1 hBX
    exact vx_out (fun x hx => (hnt x hx).elim) hlocks hce hcv hcl (fun t ht9 _ => ⟨(), trivial, ⟨⟨hXE.1, if_pos hXE.2⟩, by rw [ht9]; exact hP⟩, hS.F ht9⟩) hS.2.2 (Nat.le_of_ble_eq_true rfl) (Nat.le_of_ble_eq_true rfl)
  try dsimp only at w1 hB
  rw [ht1] at hB
  have hP := wk_ro hP hD [0, 10] rfl hk1 hB
  generalize H1 = H at hP hS ⊢
  refine lv_aload_n hx hb dX4_home_4 rfl (lv_at hl 0 rfl) ?_
  refine lv_aload_n hx hb dX4_home_5 rfl (lv_at hl 0 rfl) ?_
  refine va_get (D := D) (ci := 4) (v := .ref (G 4)) (C := RX4) (T := TX4) (N := 5) hx hb ht inX4 hown hK hP 0 (rfl) rfl 2 (by decide) (ht _ kw1_177) (fun _ h9 => h9) rfl dX4_home_6 ?_
  refine lv_iload_n hx hb dX4_home_9 rfl (lv_at hl 1 rfl) ?_
  have hPc := hP.sub (ws' := [((G 4), .inr (0, [.ref pk, .ref ps, .ref pt, .int (nI rows.length), .int op, .int (nI F), .int (nI Gn), .int (cB C)])), (pk, .inl (cI, L, .inl p1)), (ps, .inl (cI, L, .inl p2)), (pt, .inl (cI, L, .inl p3))]) [6, 7, 8, 9] rfl
  have hDc := hD.sub (ws' := [((G 4), .inr (0, [.ref pk, .ref ps, .ref pt, .int (nI rows.length), .int op, .int (nI F), .int (nI Gn), .int (cB C)])), (pk, .inl (cI, L, .inl p1)), (ps, .inl (cI, L, .inl p2)), (pt, .inl (cI, L, .inl p3))]) [6, 7, 8, 9] (by decide) rfl
  have hFc := va_free (wc := [((G 4), .inr (0, [.ref pk, .ref ps, .ref pt, .int (nI rows.length), .int op, .int (nI F), .int (nI Gn), .int (cB C)])), (pk, .inl (cI, L, .inl p1)), (ps, .inl (cI, L, .inl p2)), (pt, .inl (cI, L, .inl p3))]) hD hS hA [6, 7, 8, 9] rfl
  refine va_calli (va_runVN (As := [.int key]) (rest := [.ref (G 0)]) ⟨hx, hb, hml, hown, ht⟩ (c_X0_rowOf l D cI cZ cS cJ H.size (G 4) pk ps pt L p1 p2 p3 op rows F Gn C hpr hrl hF9 hG9 hsr key) ⟨xwN 1 ht kw2_51 kw2_48 kw1_4 rfl rfl (by decide +kernel) ⟨Nat.le_of_ble_eq_true rfl, Nat.le_of_ble_eq_true rfl⟩, ht _ kw2_50, ht _ kwS_3⟩ ⟨PB.blind, va_recv hK hPc (ci := 0) (q0 := 0) rfl rfl, fun U hU hW => PB.mk hU hW hPc hK hDc⟩ rfl rfl hl.1 rfl (lv_room (Nat.le_of_ble_eq_true rfl)) dX4_home_10 ⟨Nat.le_of_ble_eq_true rfl, Nat.le_of_ble_eq_true rfl⟩) hS (fun q _ h => hFc q h) hFc (fun r10 u10 t10 H1 locs ht1 hvm w10 hB hz1 hk1 hS => ?_)
  try dsimp only at w10 hB
  rw [ht1] at hB
  have hP := wk_ro hP hD [6, 7, 8, 9] rfl hk1 hB
  generalize H1 = H at hP hS ⊢
  have w10 := w10.symm
  subst w10
  refine lv_iload_n hx hb dX4_home_13 rfl (lv_at hl 1 rfl) ?_
  have hPc := hP
  have hDc := hD
  have hFc := wfree hD hS hA
  refine va_calli (va_runV (As := [.int (rowI rows key), .int key]) (rest := []) ⟨hx, hb, hml, hown, ht⟩ (c_X4_homeAt l D cI cZ cS cJ H.size G SA sf hsf pa no pts rf rg RL pk ps pt L p1 p2 p3 op off left wr rc th Z mm rows F Gn C hci key) (xwV 2 ht kw2_56 kw2_53 kw1_1 kw2_55 kwS_4 rfl rfl (by decide +kernel) ⟨Nat.le_of_ble_eq_true rfl, Nat.le_of_ble_eq_true rfl⟩) ⟨PB.blind, va_recv hK hPc (ci := 4) (q0 := 0) rfl rfl, fun U hU hW => PB.mk hU hW hPc hK hDc⟩ rfl rfl hl.1 rfl (lv_room (Nat.le_of_ble_eq_true rfl)) dX4_home_14 ⟨Nat.le_of_ble_eq_true rfl, Nat.le_of_ble_eq_true rfl⟩) hS (fun q _ h => hFc q h) hFc (fun r14 u14 t14 H1 locs ht1 hvm w14 hB hz1 hk1 hS => ?_)
  try dsimp only at w14 hB
  rw [ht1] at hB
  have hP := hB
  generalize H1 = H at hP hS ⊢
  refine vx_ret ?_
  refine W.widen (k := 3) (n := 18) (Nat.le_of_ble_eq_true rfl) (Nat.le_of_ble_eq_true rfl) ?_
  exact W.iret (v := r14) hx hb hr (fun t ht2 hW => ⟨⟨r14, (), rfl, by
        (try dsimp only)
        unfold homF; rw [if_neg (fun q => q w1), w14], by (try dsimp only); rw [ht2]; exact hP⟩, hS.F ht2⟩) hS.2.2 dX4_home_17

set_option maxHeartbeats 4000000 in
set_option maxRecDepth 100000 in
theorem c_X4_state (l : Launch) (hl0 : l.stackTraces = false) (D : va_G) (cI cZ cS cJ : ClassId) (sz : Nat) (G SA : Nat → Nat) (sf : Nat → Option Nat) (hsf : ∀ n, n < 8 → sf n = some (SA n)) (pa no : Nat) (pts rf rg : Nat → Int32) (RL : List (Int32 × Int32)) (pk ps pt L : Nat) (p1 p2 p3 : Nat → Int32) (op off left wr rc th : Int32) (Z : Nat → ST) (mm : Nat → Nat) (rows : List (Int32 × Nat × Nat)) (F Gn : Nat) (C : Bool) (hci : CI mm RL pts rf rg rows L p1 p2 p3 F Gn Z) (key : Int32) : vx_Met l yX4_state (Cond.code yX4_state cX4_state 2 (some .int) :: TB) ({ frames := 7, cells := 3, slots := 18, locals := 110 } : Room) (va_Pc [.ref (G 0), .int key] (PX D (KT cI cZ cS cJ) (cW cI cS G SA sf pa no pts rf rg (nI RL.length) pk ps pt L p1 p2 p3 (nI rows.length) op (nI F) (nI Gn) (cB C) off left wr rc th Z) sz)) (va_Qi (fun r (_ : Unit) => staF off rows F Gn C key = (0, r)) (fun (_ : Unit) t => va_P D vwCl (cW cI cS G SA sf pa no pts rf rg (nI RL.length) pk ps pt L p1 p2 p3 (nI rows.length) op (nI F) (nI Gn) (cB C) off left wr rc th Z) t.heap) (va_A (cW cI cS G SA sf pa no pts rf rg (nI RL.length) pk ps pt L p1 p2 p3 (nI rows.length) op (nI F) (nI Gn) (cB C) off left wr rc th Z) sz)) (vx_X (fun (_ : Unit) => True) (fun E (_ : Unit) t => (fun E => E = cISE ∧ staF off rows F Gn C key = (1, 0)) E ∧ va_P D vwCl (cW cI cS G SA sf pa no pts rf rg (nI RL.length) pk ps pt L p1 p2 p3 (nI rows.length) op (nI F) (nI Gn) (cB C) off left wr rc th Z) t.heap) (va_A (cW cI cS G SA sf pa no pts rf rg (nI RL.length) pk ps pt L p1 p2 p3 (nI rows.length) op (nI F) (nI Gn) (cB C) off left wr rc th Z) sz)) 3 18 (va_A (cW cI cS G SA sf pa no pts rf rg (nI RL.length) pk ps pt L p1 p2 p3 (nI rows.length) op (nI F) (nI Gn) (cB C) off left wr rc th Z) sz) := by
  refine vx_ofW (cc := cX4_state) (maxL := 2) (ret := (some .int)) (by decide) rfl ?_
  intro p e s m args below meth c s₁ B hml hnt hv
  obtain ⟨rfl, ⟨hsz, hP, hK, hD0⟩, hTX⟩ := hv
  have hx := B.exec
  have hb := B.bytes
  have hr := B.returns
  have hts := atoms_spec (ws := (Cond.code yX4_state cX4_state 2 (some .int) :: TB)) B.pre
  have ht : ∀ w ∈ TB, w.before _ s = true := fun w h => hts w (List.mem_cons_of_mem _ h)
  have hown : s.vm.findClass RX4 = some m.cls := findClass_of_methodNamed B.named
  have hlocks := B.notSynchronized
  subst hsz
  have hD := hD0.self (sz := s.heap.size)
  generalize hAe : va_A (cW cI cS G SA sf pa no pts rf rg (nI RL.length) pk ps pt L p1 p2 p3 (nI rows.length) op (nI F) (nI Gn) (cB C) off left wr rc th Z) s.heap.size = A at hD hTX ⊢
  have hA : ∀ q : Nat, s.heap.size ≤ q → A q := fun q h => by rw [← hAe]; exact Or.inr h
  have hS : va_S A s.heap s.heap [] := va_S.rf
  have hP : va_P D vwCl (cW cI cS G SA sf pa no pts rf rg (nI RL.length) pk ps pt L p1 p2 p3 (nI rows.length) op (nI F) (nI Gn) (cB C) off left wr rc th Z) s.heap := hP
  have hl := lv_entry ([.ref (G 0), .int key]) (n := 2) (Nat.le_of_ble_eq_true rfl)
  rw [lg_entry_eq]
  generalize (lg_sl ([.ref (G 0), .int key]) ++ List.replicate (2 - (lg_sl ([.ref (G 0), .int key])).length) Slot.unset).toArray = ls at hl ⊢
  have hl : lv_has ls 2 [(0, .ref (G 0)), (1, .int key)] := hl
  obtain ⟨⟨hrr, hrg, h16, hM⟩, ⟨hpr, h32, hrl, hF9, hG9, hsr, hp8⟩, hzs⟩ := id hci
  refine lv_aload_n hx hb dX4_state_0 rfl (lv_at hl 0 rfl) ?_
  have hPc := hP.sub (ws' := [((G 0), .inr (4, [.ref (G 1), .ref (G 3), .ref (G 4), .ref (G 5), .int th])), ((G 5), .inr (1, [.int off, .int left, .int wr, .int rc]))]) [0, 10] rfl
  have hDc := hD.sub (ws' := [((G 0), .inr (4, [.ref (G 1), .ref (G 3), .ref (G 4), .ref (G 5), .int th])), ((G 5), .inr (1, [.int off, .int left, .int wr, .int rc]))]) [0, 10] (by decide) rfl
  have hFc := va_free (wc := [((G 0), .inr (4, [.ref (G 1), .ref (G 3), .ref (G 4), .ref (G 5), .int th])), ((G 5), .inr (1, [.int off, .int left, .int wr, .int rc]))]) hD hS hA [0, 10] rfl
  refine vx_callv (vx_runV (As := []) (rest := []) ⟨hx, hb, hml, hown, ht⟩ (c_X4_needPower l hl0 D cI cZ cS cJ s.heap.size G off left wr rc th) (xwV 0 ht kw1_218 kw1_215 kw1_1 kw1_217 kwS_1 rfl rfl (by decide +kernel) ⟨Nat.le_of_ble_eq_true rfl, Nat.le_of_ble_eq_true rfl⟩) ⟨PX.blind, va_recv hK hPc (ci := 4) (q0 := 0) rfl rfl, fun U hU hW => PX.mk hU hW hPc hK hDc hS hFc hTX⟩ rfl rfl hl.1 rfl (lv_room (Nat.le_of_ble_eq_true rfl)) dX4_state_1 ⟨Nat.le_of_ble_eq_true rfl, Nat.le_of_ble_eq_true rfl⟩) hS (fun q _ h => hFc q h) hFc (fun q _ h => hFc q h) (fun E ce q9 u t9 H1 locs ht1 hvm _ hBX hz1 hk1 hS hce hcv hcl => ?_) (fun u1 t1 H1 locs ht1 hvm w1 hB hz1 hk1 hS => ?_)
  · obtain ⟨hXE, hBX⟩ := hBX
    rw [ht1] at hBX
    have hP := wk_ro hP hD [0, 10] rfl hk1 hBX
    exact vx_out (fun x hx => (hnt x hx).elim) hlocks hce hcv hcl (fun t ht9 _ => ⟨(), trivial, ⟨⟨hXE.1, if_pos hXE.2⟩, by rw [ht9]; exact hP⟩, hS.F ht9⟩) hS.2.2 (Nat.le_of_ble_eq_true rfl) (Nat.le_of_ble_eq_true rfl)
  try dsimp only at w1 hB
  rw [ht1] at hB
  have hP := wk_ro hP hD [0, 10] rfl hk1 hB
  generalize H1 = H at hP hS ⊢
  refine lv_aload_n hx hb dX4_state_4 rfl (lv_at hl 0 rfl) ?_
  refine va_get (D := D) (ci := 4) (v := .ref (G 4)) (C := RX4) (T := TX4) (N := 5) hx hb ht inX4 hown hK hP 0 (rfl) rfl 2 (by decide) (ht _ kw1_177) (fun _ h9 => h9) rfl dX4_state_5 ?_
  refine lv_aload_n hx hb dX4_state_8 rfl (lv_at hl 0 rfl) ?_
  refine va_get (D := D) (ci := 4) (v := .ref (G 4)) (C := RX4) (T := TX4) (N := 5) hx hb ht inX4 hown hK hP 0 (rfl) rfl 2 (by decide) (ht _ kw1_177) (fun _ h9 => h9) rfl dX4_state_9 ?_
  refine lv_iload_n hx hb dX4_state_12 rfl (lv_at hl 1 rfl) ?_
  have hPc := hP.sub (ws' := [((G 4), .inr (0, [.ref pk, .ref ps, .ref pt, .int (nI rows.length), .int op, .int (nI F), .int (nI Gn), .int (cB C)])), (pk, .inl (cI, L, .inl p1)), (ps, .inl (cI, L, .inl p2)), (pt, .inl (cI, L, .inl p3))]) [6, 7, 8, 9] rfl
  have hDc := hD.sub (ws' := [((G 4), .inr (0, [.ref pk, .ref ps, .ref pt, .int (nI rows.length), .int op, .int (nI F), .int (nI Gn), .int (cB C)])), (pk, .inl (cI, L, .inl p1)), (ps, .inl (cI, L, .inl p2)), (pt, .inl (cI, L, .inl p3))]) [6, 7, 8, 9] (by decide) rfl
  have hFc := va_free (wc := [((G 4), .inr (0, [.ref pk, .ref ps, .ref pt, .int (nI rows.length), .int op, .int (nI F), .int (nI Gn), .int (cB C)])), (pk, .inl (cI, L, .inl p1)), (ps, .inl (cI, L, .inl p2)), (pt, .inl (cI, L, .inl p3))]) hD hS hA [6, 7, 8, 9] rfl
  refine va_calli (va_runVN (As := [.int key]) (rest := [.ref (G 4)]) ⟨hx, hb, hml, hown, ht⟩ (c_X0_rowOf l D cI cZ cS cJ H.size (G 4) pk ps pt L p1 p2 p3 op rows F Gn C hpr hrl hF9 hG9 hsr key) ⟨xwN 1 ht kw2_51 kw2_48 kw1_4 rfl rfl (by decide +kernel) ⟨Nat.le_of_ble_eq_true rfl, Nat.le_of_ble_eq_true rfl⟩, ht _ kw2_50, ht _ kwS_3⟩ ⟨PB.blind, va_recv hK hPc (ci := 0) (q0 := 0) rfl rfl, fun U hU hW => PB.mk hU hW hPc hK hDc⟩ rfl rfl hl.1 rfl (lv_room (Nat.le_of_ble_eq_true rfl)) dX4_state_13 ⟨Nat.le_of_ble_eq_true rfl, Nat.le_of_ble_eq_true rfl⟩) hS (fun q _ h => hFc q h) hFc (fun r13 u13 t13 H1 locs ht1 hvm w13 hB hz1 hk1 hS => ?_)
  try dsimp only at w13 hB
  rw [ht1] at hB
  have hP := wk_ro hP hD [6, 7, 8, 9] rfl hk1 hB
  generalize H1 = H at hP hS ⊢
  have w13 := w13.symm
  subst w13
  have hPc := hP.sub (ws' := [((G 4), .inr (0, [.ref pk, .ref ps, .ref pt, .int (nI rows.length), .int op, .int (nI F), .int (nI Gn), .int (cB C)])), (pk, .inl (cI, L, .inl p1)), (ps, .inl (cI, L, .inl p2)), (pt, .inl (cI, L, .inl p3))]) [6, 7, 8, 9] rfl
  have hDc := hD.sub (ws' := [((G 4), .inr (0, [.ref pk, .ref ps, .ref pt, .int (nI rows.length), .int op, .int (nI F), .int (nI Gn), .int (cB C)])), (pk, .inl (cI, L, .inl p1)), (ps, .inl (cI, L, .inl p2)), (pt, .inl (cI, L, .inl p3))]) [6, 7, 8, 9] (by decide) rfl
  have hFc := va_free (wc := [((G 4), .inr (0, [.ref pk, .ref ps, .ref pt, .int (nI rows.length), .int op, .int (nI F), .int (nI Gn), .int (cB C)])), (pk, .inl (cI, L, .inl p1)), (ps, .inl (cI, L, .inl p2)), (pt, .inl (cI, L, .inl p3))]) hD hS hA [6, 7, 8, 9] rfl
  refine va_calli (va_runVN (As := [.int (rowI rows key)]) (rest := []) ⟨hx, hb, hml, hown, ht⟩ (c_X0_stateAt l D cI cZ cS cJ H.size (G 4) pk ps pt L p1 p2 p3 op rows F Gn C hpr hrl hF9 hG9 (rowI rows key)) ⟨xwN 1 ht kw2_60 kw2_57 kw1_4 rfl rfl (by decide +kernel) ⟨Nat.le_of_ble_eq_true rfl, Nat.le_of_ble_eq_true rfl⟩, ht _ kw2_59, ht _ kwS_5⟩ ⟨PB.blind, va_recv hK hPc (ci := 0) (q0 := 0) rfl rfl, fun U hU hW => PB.mk hU hW hPc hK hDc⟩ rfl rfl hl.1 rfl (lv_room (Nat.le_of_ble_eq_true rfl)) dX4_state_16 ⟨Nat.le_of_ble_eq_true rfl, Nat.le_of_ble_eq_true rfl⟩) hS (fun q _ h => hFc q h) hFc (fun r16 u16 t16 H1 locs ht1 hvm w16 hB hz1 hk1 hS => ?_)
  try dsimp only at w16 hB
  rw [ht1] at hB
  have hP := wk_ro hP hD [6, 7, 8, 9] rfl hk1 hB
  generalize H1 = H at hP hS ⊢
  rw [staAt_eq hrl] at w16
  refine vx_ret ?_
  refine W.widen (k := 3) (n := 18) (Nat.le_of_ble_eq_true rfl) (Nat.le_of_ble_eq_true rfl) ?_
  exact W.iret (v := r16) hx hb hr (fun t ht2 hW => ⟨⟨r16, (), rfl, by
        (try dsimp only)
        unfold staF; rw [if_neg (fun q => q w1), w16], by (try dsimp only); rw [ht2]; exact hP⟩, hS.F ht2⟩) hS.2.2 dX4_state_19

set_option maxHeartbeats 4000000 in
set_option maxRecDepth 100000 in
theorem c_X4_holds (l : Launch) (hl0 : l.stackTraces = false) (D : va_G) (cI cZ cS cJ : ClassId) (sz : Nat) (G SA : Nat → Nat) (sf : Nat → Option Nat) (hsf : ∀ n, n < 8 → sf n = some (SA n)) (pa no : Nat) (pts rf rg : Nat → Int32) (RL : List (Int32 × Int32)) (pk ps pt L : Nat) (p1 p2 p3 : Nat → Int32) (op off left wr rc th : Int32) (Z : Nat → ST) (mm : Nat → Nat) (rows : List (Int32 × Nat × Nat)) (F Gn : Nat) (C : Bool) (hci : CI mm RL pts rf rg rows L p1 p2 p3 F Gn Z) (nd key : Int32) : vx_Met l yX4_holds (Cond.code yX4_holds cX4_holds 3 (some .boolean) :: TB) ({ frames := 7, cells := 3, slots := 18, locals := 110 } : Room) (va_Pc [.ref (G 0), .int nd, .int key] (PX D (KT cI cZ cS cJ) (cW cI cS G SA sf pa no pts rf rg (nI RL.length) pk ps pt L p1 p2 p3 (nI rows.length) op (nI F) (nI Gn) (cB C) off left wr rc th Z) sz)) (va_Qi (fun r (_ : Unit) => hldF (stZ Z) nd key = (0, r)) (fun (_ : Unit) t => va_P D vwCl (cW cI cS G SA sf pa no pts rf rg (nI RL.length) pk ps pt L p1 p2 p3 (nI rows.length) op (nI F) (nI Gn) (cB C) off left wr rc th Z) t.heap) (va_A (cW cI cS G SA sf pa no pts rf rg (nI RL.length) pk ps pt L p1 p2 p3 (nI rows.length) op (nI F) (nI Gn) (cB C) off left wr rc th Z) sz)) (vx_X (fun (_ : Unit) => True) (fun E (_ : Unit) t => (fun E => E = cIOB ∧ hldF (stZ Z) nd key = (1, 0)) E ∧ va_P D vwCl (cW cI cS G SA sf pa no pts rf rg (nI RL.length) pk ps pt L p1 p2 p3 (nI rows.length) op (nI F) (nI Gn) (cB C) off left wr rc th Z) t.heap) (va_A (cW cI cS G SA sf pa no pts rf rg (nI RL.length) pk ps pt L p1 p2 p3 (nI rows.length) op (nI F) (nI Gn) (cB C) off left wr rc th Z) sz)) 3 18 (va_A (cW cI cS G SA sf pa no pts rf rg (nI RL.length) pk ps pt L p1 p2 p3 (nI rows.length) op (nI F) (nI Gn) (cB C) off left wr rc th Z) sz) := by
  refine vx_ofW (cc := cX4_holds) (maxL := 3) (ret := (some .boolean)) (by decide) rfl ?_
  intro p e s m args below meth c s₁ B hml hnt hv
  obtain ⟨rfl, ⟨hsz, hP, hK, hD0⟩, hTX⟩ := hv
  have hx := B.exec
  have hb := B.bytes
  have hr := B.returns
  have hts := atoms_spec (ws := (Cond.code yX4_holds cX4_holds 3 (some .boolean) :: TB)) B.pre
  have ht : ∀ w ∈ TB, w.before _ s = true := fun w h => hts w (List.mem_cons_of_mem _ h)
  have hown : s.vm.findClass RX4 = some m.cls := findClass_of_methodNamed B.named
  have hlocks := B.notSynchronized
  subst hsz
  have hD := hD0.self (sz := s.heap.size)
  generalize hAe : va_A (cW cI cS G SA sf pa no pts rf rg (nI RL.length) pk ps pt L p1 p2 p3 (nI rows.length) op (nI F) (nI Gn) (cB C) off left wr rc th Z) s.heap.size = A at hD hTX ⊢
  have hA : ∀ q : Nat, s.heap.size ≤ q → A q := fun q h => by rw [← hAe]; exact Or.inr h
  have hS : va_S A s.heap s.heap [] := va_S.rf
  have hP : va_P D vwCl (cW cI cS G SA sf pa no pts rf rg (nI RL.length) pk ps pt L p1 p2 p3 (nI rows.length) op (nI F) (nI Gn) (cB C) off left wr rc th Z) s.heap := hP
  have hl := lv_entry ([.ref (G 0), .int nd, .int key]) (n := 3) (Nat.le_of_ble_eq_true rfl)
  rw [lg_entry_eq]
  generalize (lg_sl ([.ref (G 0), .int nd, .int key]) ++ List.replicate (3 - (lg_sl ([.ref (G 0), .int nd, .int key])).length) Slot.unset).toArray = ls at hl ⊢
  have hl : lv_has ls 3 [(0, .ref (G 0)), (1, .int nd), (2, .int key)] := hl
  obtain ⟨⟨hrr, hrg, h16, hM⟩, ⟨hpr, h32, hrl, hF9, hG9, hsr, hp8⟩, hzs⟩ := id hci
  refine lv_iload_n hx hb dX4_holds_0 rfl (lv_at hl 1 rfl) ?_
  have hPc : va_P D vwCl [] s.heap := va_P.nil
  have hDc : va_D A [] := va_D.nil
  have hFc := va_free (wc := []) hD hS hA [] rfl
  refine vx_callv (vx_runS (As := [.int nd]) (rest := []) ⟨hx, hb, hml, hown, ht⟩ (c_X4_needNode l hl0 D cI cZ cS cJ s.heap.size nd) (xwS 1 ht kw2_135 kw2_133 kw1_1 kw2_134 rfl rfl (by decide +kernel) ⟨Nat.le_of_ble_eq_true rfl, Nat.le_of_ble_eq_true rfl⟩) ⟨PX.blind, fun U hU hW => PX.mk hU hW hPc hK hDc hS hFc hTX⟩ rfl rfl hl.1 rfl (lv_room (Nat.le_of_ble_eq_true rfl)) dX4_holds_1 ⟨Nat.le_of_ble_eq_true rfl, Nat.le_of_ble_eq_true rfl⟩) hS (fun q _ h => hFc q h) hFc (fun q _ h => hFc q h) (fun E ce q9 u t9 H1 locs ht1 hvm _ hBX hz1 hk1 hS hce hcv hcl => ?_) (fun u1 t1 H1 locs ht1 hvm w1 hB hz1 hk1 hS => ?_)
  · obtain ⟨hXE, hBX⟩ := hBX
    rw [ht1] at hBX
    have hP := wk_ro (wc := []) hP hD [] rfl hk1 va_P.nil
    exact vx_out (fun x hx => (hnt x hx).elim) hlocks hce hcv hcl (fun t ht9 _ => ⟨(), trivial, ⟨⟨hXE.1, if_pos hXE.2⟩, by rw [ht9]; exact hP⟩, hS.F ht9⟩) hS.2.2 (Nat.le_of_ble_eq_true rfl) (Nat.le_of_ble_eq_true rfl)
  try dsimp only at w1 hB
  rw [ht1] at hB
  have hP := wk_ro (wc := []) hP hD [] rfl hk1 va_P.nil
  generalize H1 = H at hP hS ⊢
  have hnd := w1
  obtain ⟨n9, hn9, e9⟩ := nI_node hnd
  subst e9
  refine lv_aload_n hx hb dX4_holds_4 rfl (lv_at hl 0 rfl) ?_
  refine va_get (D := D) (ci := 4) (v := .ref (G 3)) (C := RX4) (T := TX4) (N := 5) hx hb ht inX4 hown hK hP 0 (rfl) rfl 1 (by decide) (ht _ kw1_176) (fun _ h9 => h9) rfl dX4_holds_5 ?_
  refine lv_iload_n hx hb dX4_holds_8 rfl (lv_at hl 1 rfl) ?_
  refine ya_aldq hx hb hK hP 5 2 rfl rfl n9 (rfl) (hn9) (by decide) (v := SA n9) (hsf n9 hn9) dX4_holds_9 ?_
  refine lv_iload_n hx hb dX4_holds_10 rfl (lv_at hl 2 rfl) ?_
  have hPc := hP.sub (ws' := stE cI (SA n9) (Z n9)) [11 + 3 * n9, 12 + 3 * n9, 13 + 3 * n9] (st_fm (hn9))
  have hDc := hD.sub (ws' := stE cI (SA n9) (Z n9)) [11 + 3 * n9, 12 + 3 * n9, 13 + 3 * n9] (st_nd _) (st_map (hn9))
  have hFc := va_free (wc := stE cI (SA n9) (Z n9)) hD hS hA [11 + 3 * n9, 12 + 3 * n9, 13 + 3 * n9] (st_map (hn9))
  refine va_calli (va_runVN (As := [.int key]) (rest := []) ⟨hx, hb, hml, hown, ht⟩ (c_X3_has l D cI cZ cS cJ H.size (SA n9) (zK (Z n9)) (zV (Z n9)) (zL1 (Z n9)) (zL2 (Z n9)) (zF (Z n9)) (zG (Z n9)) (zL (Z n9)) (hzs _ (hn9)).1 (hzs _ (hn9)).2.1 (hzs _ (hn9)).2.2 key) ⟨xwN 1 ht kw2_68 kw2_65 kw1_6 rfl rfl (by decide +kernel) ⟨Nat.le_of_ble_eq_true rfl, Nat.le_of_ble_eq_true rfl⟩, ht _ kw2_67, ht _ kwS_7⟩ ⟨PB.blind, va_recv hK hPc (ci := 3) (q0 := 0) rfl rfl, fun U hU hW => PB.mk hU hW hPc hK hDc⟩ rfl rfl hl.1 rfl (lv_room (Nat.le_of_ble_eq_true rfl)) dX4_holds_11 ⟨Nat.le_of_ble_eq_true rfl, Nat.le_of_ble_eq_true rfl⟩) hS (fun q _ h => hFc q h) hFc (fun r11 u11 t11 H1 locs ht1 hvm w11 hB hz1 hk1 hS => ?_)
  try dsimp only at w11 hB
  rw [ht1] at hB
  have hP := wk_ro hP hD [11 + 3 * n9, 12 + 3 * n9, 13 + 3 * n9] (st_map (hn9)) hk1 hB
  generalize H1 = H at hP hS ⊢
  refine vx_ret ?_
  refine W.widen (k := 3) (n := 18) (Nat.le_of_ble_eq_true rfl) (Nat.le_of_ble_eq_true rfl) ?_
  exact W.zret (v := r11) hx hb hr (by rw [w11]; split <;> decide +kernel) (fun t ht2 hW => ⟨⟨r11, (), rfl, by
        (try dsimp only)
        unfold hldF; rw [if_neg hnd, nI_clamp (by omega), w11]; rfl, by (try dsimp only); rw [ht2]; exact hP⟩, hS.F ht2⟩) hS.2.2 dX4_holds_14

set_option maxHeartbeats 4000000 in
set_option maxRecDepth 100000 in
theorem c_X4_size (l : Launch) (hl0 : l.stackTraces = false) (D : va_G) (cI cZ cS cJ : ClassId) (sz : Nat) (G SA : Nat → Nat) (sf : Nat → Option Nat) (hsf : ∀ n, n < 8 → sf n = some (SA n)) (pa no : Nat) (pts rf rg : Nat → Int32) (RL : List (Int32 × Int32)) (pk ps pt L : Nat) (p1 p2 p3 : Nat → Int32) (op off left wr rc th : Int32) (Z : Nat → ST) (mm : Nat → Nat) (rows : List (Int32 × Nat × Nat)) (F Gn : Nat) (C : Bool) (hci : CI mm RL pts rf rg rows L p1 p2 p3 F Gn Z) (nd : Int32) : vx_Met l yX4_size (Cond.code yX4_size cX4_size 2 (some .int) :: TB) ({ frames := 7, cells := 3, slots := 18, locals := 110 } : Room) (va_Pc [.ref (G 0), .int nd] (PX D (KT cI cZ cS cJ) (cW cI cS G SA sf pa no pts rf rg (nI RL.length) pk ps pt L p1 p2 p3 (nI rows.length) op (nI F) (nI Gn) (cB C) off left wr rc th Z) sz)) (va_Qi (fun r (_ : Unit) => sizF (stZ Z) nd = (0, r)) (fun (_ : Unit) t => va_P D vwCl (cW cI cS G SA sf pa no pts rf rg (nI RL.length) pk ps pt L p1 p2 p3 (nI rows.length) op (nI F) (nI Gn) (cB C) off left wr rc th Z) t.heap) (va_A (cW cI cS G SA sf pa no pts rf rg (nI RL.length) pk ps pt L p1 p2 p3 (nI rows.length) op (nI F) (nI Gn) (cB C) off left wr rc th Z) sz)) (vx_X (fun (_ : Unit) => True) (fun E (_ : Unit) t => (fun E => E = cIOB ∧ sizF (stZ Z) nd = (1, 0)) E ∧ va_P D vwCl (cW cI cS G SA sf pa no pts rf rg (nI RL.length) pk ps pt L p1 p2 p3 (nI rows.length) op (nI F) (nI Gn) (cB C) off left wr rc th Z) t.heap) (va_A (cW cI cS G SA sf pa no pts rf rg (nI RL.length) pk ps pt L p1 p2 p3 (nI rows.length) op (nI F) (nI Gn) (cB C) off left wr rc th Z) sz)) 3 18 (va_A (cW cI cS G SA sf pa no pts rf rg (nI RL.length) pk ps pt L p1 p2 p3 (nI rows.length) op (nI F) (nI Gn) (cB C) off left wr rc th Z) sz) := by
  refine vx_ofW (cc := cX4_size) (maxL := 2) (ret := (some .int)) (by decide) rfl ?_
  intro p e s m args below meth c s₁ B hml hnt hv
  obtain ⟨rfl, ⟨hsz, hP, hK, hD0⟩, hTX⟩ := hv
  have hx := B.exec
  have hb := B.bytes
  have hr := B.returns
  have hts := atoms_spec (ws := (Cond.code yX4_size cX4_size 2 (some .int) :: TB)) B.pre
  have ht : ∀ w ∈ TB, w.before _ s = true := fun w h => hts w (List.mem_cons_of_mem _ h)
  have hown : s.vm.findClass RX4 = some m.cls := findClass_of_methodNamed B.named
  have hlocks := B.notSynchronized
  subst hsz
  have hD := hD0.self (sz := s.heap.size)
  generalize hAe : va_A (cW cI cS G SA sf pa no pts rf rg (nI RL.length) pk ps pt L p1 p2 p3 (nI rows.length) op (nI F) (nI Gn) (cB C) off left wr rc th Z) s.heap.size = A at hD hTX ⊢
  have hA : ∀ q : Nat, s.heap.size ≤ q → A q := fun q h => by rw [← hAe]; exact Or.inr h
  have hS : va_S A s.heap s.heap [] := va_S.rf
  have hP : va_P D vwCl (cW cI cS G SA sf pa no pts rf rg (nI RL.length) pk ps pt L p1 p2 p3 (nI rows.length) op (nI F) (nI Gn) (cB C) off left wr rc th Z) s.heap := hP
  have hl := lv_entry ([.ref (G 0), .int nd]) (n := 2) (Nat.le_of_ble_eq_true rfl)
  rw [lg_entry_eq]
  generalize (lg_sl ([.ref (G 0), .int nd]) ++ List.replicate (2 - (lg_sl ([.ref (G 0), .int nd])).length) Slot.unset).toArray = ls at hl ⊢
  have hl : lv_has ls 2 [(0, .ref (G 0)), (1, .int nd)] := hl
  obtain ⟨⟨hrr, hrg, h16, hM⟩, ⟨hpr, h32, hrl, hF9, hG9, hsr, hp8⟩, hzs⟩ := id hci
  refine lv_iload_n hx hb dX4_size_0 rfl (lv_at hl 1 rfl) ?_
  have hPc : va_P D vwCl [] s.heap := va_P.nil
  have hDc : va_D A [] := va_D.nil
  have hFc := va_free (wc := []) hD hS hA [] rfl
  refine vx_callv (vx_runS (As := [.int nd]) (rest := []) ⟨hx, hb, hml, hown, ht⟩ (c_X4_needNode l hl0 D cI cZ cS cJ s.heap.size nd) (xwS 1 ht kw2_135 kw2_133 kw1_1 kw2_134 rfl rfl (by decide +kernel) ⟨Nat.le_of_ble_eq_true rfl, Nat.le_of_ble_eq_true rfl⟩) ⟨PX.blind, fun U hU hW => PX.mk hU hW hPc hK hDc hS hFc hTX⟩ rfl rfl hl.1 rfl (lv_room (Nat.le_of_ble_eq_true rfl)) dX4_size_1 ⟨Nat.le_of_ble_eq_true rfl, Nat.le_of_ble_eq_true rfl⟩) hS (fun q _ h => hFc q h) hFc (fun q _ h => hFc q h) (fun E ce q9 u t9 H1 locs ht1 hvm _ hBX hz1 hk1 hS hce hcv hcl => ?_) (fun u1 t1 H1 locs ht1 hvm w1 hB hz1 hk1 hS => ?_)
  · obtain ⟨hXE, hBX⟩ := hBX
    rw [ht1] at hBX
    have hP := wk_ro (wc := []) hP hD [] rfl hk1 va_P.nil
    exact vx_out (fun x hx => (hnt x hx).elim) hlocks hce hcv hcl (fun t ht9 _ => ⟨(), trivial, ⟨⟨hXE.1, if_pos hXE.2⟩, by rw [ht9]; exact hP⟩, hS.F ht9⟩) hS.2.2 (Nat.le_of_ble_eq_true rfl) (Nat.le_of_ble_eq_true rfl)
  try dsimp only at w1 hB
  rw [ht1] at hB
  have hP := wk_ro (wc := []) hP hD [] rfl hk1 va_P.nil
  generalize H1 = H at hP hS ⊢
  have hnd := w1
  obtain ⟨n9, hn9, e9⟩ := nI_node hnd
  subst e9
  refine lv_aload_n hx hb dX4_size_4 rfl (lv_at hl 0 rfl) ?_
  refine va_get (D := D) (ci := 4) (v := .ref (G 3)) (C := RX4) (T := TX4) (N := 5) hx hb ht inX4 hown hK hP 0 (rfl) rfl 1 (by decide) (ht _ kw1_176) (fun _ h9 => h9) rfl dX4_size_5 ?_
  refine lv_iload_n hx hb dX4_size_8 rfl (lv_at hl 1 rfl) ?_
  refine ya_aldq hx hb hK hP 5 2 rfl rfl n9 (rfl) (hn9) (by decide) (v := SA n9) (hsf n9 hn9) dX4_size_9 ?_
  refine va_getN (D := D) (ci := 3) (v := .int (nI (zL (Z n9)).length)) (C := RX3) (T := TX3) (N := 3) hx hb ht inX3 hown hK hP (11 + 3 * n9) (st_e0 (hn9)) rfl 2 (by decide) (ht _ kw1_128) (fun _ h9 => h9) rfl dX4_size_10 ?_
  refine vx_ret ?_
  refine W.widen (k := 3) (n := 18) (Nat.le_of_ble_eq_true rfl) (Nat.le_of_ble_eq_true rfl) ?_
  exact W.iret (v := nI (zL (Z n9)).length) hx hb hr (fun t ht2 hW => ⟨⟨nI (zL (Z n9)).length, (), rfl, by
        (try dsimp only)
        unfold sizF; rw [if_neg hnd, nI_clamp (by omega)]; rfl, by (try dsimp only); rw [ht2]; exact hP⟩, hS.F ht2⟩) hS.2.2 dX4_size_13

set_option maxHeartbeats 4000000 in
set_option maxRecDepth 100000 in
theorem c_X4_key (l : Launch) (hl0 : l.stackTraces = false) (D : va_G) (cI cZ cS cJ : ClassId) (sz : Nat) (G SA : Nat → Nat) (sf : Nat → Option Nat) (hsf : ∀ n, n < 8 → sf n = some (SA n)) (pa no : Nat) (pts rf rg : Nat → Int32) (RL : List (Int32 × Int32)) (pk ps pt L : Nat) (p1 p2 p3 : Nat → Int32) (op off left wr rc th : Int32) (Z : Nat → ST) (mm : Nat → Nat) (rows : List (Int32 × Nat × Nat)) (F Gn : Nat) (C : Bool) (hci : CI mm RL pts rf rg rows L p1 p2 p3 F Gn Z) (nd i : Int32) : vx_Met l yX4_key (Cond.code yX4_key cX4_key 3 (some .int) :: TB) ({ frames := 7, cells := 3, slots := 18, locals := 110 } : Room) (va_Pc [.ref (G 0), .int nd, .int i] (PX D (KT cI cZ cS cJ) (cW cI cS G SA sf pa no pts rf rg (nI RL.length) pk ps pt L p1 p2 p3 (nI rows.length) op (nI F) (nI Gn) (cB C) off left wr rc th Z) sz)) (va_Qi (fun r (_ : Unit) => keyF (stZ Z) nd i = (0, r)) (fun (_ : Unit) t => va_P D vwCl (cW cI cS G SA sf pa no pts rf rg (nI RL.length) pk ps pt L p1 p2 p3 (nI rows.length) op (nI F) (nI Gn) (cB C) off left wr rc th Z) t.heap) (va_A (cW cI cS G SA sf pa no pts rf rg (nI RL.length) pk ps pt L p1 p2 p3 (nI rows.length) op (nI F) (nI Gn) (cB C) off left wr rc th Z) sz)) (vx_X (fun (_ : Unit) => True) (fun E (_ : Unit) t => (fun E => E = cIOB ∧ keyF (stZ Z) nd i = (1, 0)) E ∧ va_P D vwCl (cW cI cS G SA sf pa no pts rf rg (nI RL.length) pk ps pt L p1 p2 p3 (nI rows.length) op (nI F) (nI Gn) (cB C) off left wr rc th Z) t.heap) (va_A (cW cI cS G SA sf pa no pts rf rg (nI RL.length) pk ps pt L p1 p2 p3 (nI rows.length) op (nI F) (nI Gn) (cB C) off left wr rc th Z) sz)) 3 18 (va_A (cW cI cS G SA sf pa no pts rf rg (nI RL.length) pk ps pt L p1 p2 p3 (nI rows.length) op (nI F) (nI Gn) (cB C) off left wr rc th Z) sz) := by
  refine vx_ofW (cc := cX4_key) (maxL := 3) (ret := (some .int)) (by decide) rfl ?_
  intro p e s m args below meth c s₁ B hml hnt hv
  obtain ⟨rfl, ⟨hsz, hP, hK, hD0⟩, hTX⟩ := hv
  have hx := B.exec
  have hb := B.bytes
  have hr := B.returns
  have hts := atoms_spec (ws := (Cond.code yX4_key cX4_key 3 (some .int) :: TB)) B.pre
  have ht : ∀ w ∈ TB, w.before _ s = true := fun w h => hts w (List.mem_cons_of_mem _ h)
  have hown : s.vm.findClass RX4 = some m.cls := findClass_of_methodNamed B.named
  have hlocks := B.notSynchronized
  subst hsz
  have hD := hD0.self (sz := s.heap.size)
  generalize hAe : va_A (cW cI cS G SA sf pa no pts rf rg (nI RL.length) pk ps pt L p1 p2 p3 (nI rows.length) op (nI F) (nI Gn) (cB C) off left wr rc th Z) s.heap.size = A at hD hTX ⊢
  have hA : ∀ q : Nat, s.heap.size ≤ q → A q := fun q h => by rw [← hAe]; exact Or.inr h
  have hS : va_S A s.heap s.heap [] := va_S.rf
  have hP : va_P D vwCl (cW cI cS G SA sf pa no pts rf rg (nI RL.length) pk ps pt L p1 p2 p3 (nI rows.length) op (nI F) (nI Gn) (cB C) off left wr rc th Z) s.heap := hP
  have hl := lv_entry ([.ref (G 0), .int nd, .int i]) (n := 3) (Nat.le_of_ble_eq_true rfl)
  rw [lg_entry_eq]
  generalize (lg_sl ([.ref (G 0), .int nd, .int i]) ++ List.replicate (3 - (lg_sl ([.ref (G 0), .int nd, .int i])).length) Slot.unset).toArray = ls at hl ⊢
  have hl : lv_has ls 3 [(0, .ref (G 0)), (1, .int nd), (2, .int i)] := hl
  obtain ⟨⟨hrr, hrg, h16, hM⟩, ⟨hpr, h32, hrl, hF9, hG9, hsr, hp8⟩, hzs⟩ := id hci
  refine lv_iload_n hx hb dX4_key_0 rfl (lv_at hl 1 rfl) ?_
  have hPc : va_P D vwCl [] s.heap := va_P.nil
  have hDc : va_D A [] := va_D.nil
  have hFc := va_free (wc := []) hD hS hA [] rfl
  refine vx_callv (vx_runS (As := [.int nd]) (rest := []) ⟨hx, hb, hml, hown, ht⟩ (c_X4_needNode l hl0 D cI cZ cS cJ s.heap.size nd) (xwS 1 ht kw2_135 kw2_133 kw1_1 kw2_134 rfl rfl (by decide +kernel) ⟨Nat.le_of_ble_eq_true rfl, Nat.le_of_ble_eq_true rfl⟩) ⟨PX.blind, fun U hU hW => PX.mk hU hW hPc hK hDc hS hFc hTX⟩ rfl rfl hl.1 rfl (lv_room (Nat.le_of_ble_eq_true rfl)) dX4_key_1 ⟨Nat.le_of_ble_eq_true rfl, Nat.le_of_ble_eq_true rfl⟩) hS (fun q _ h => hFc q h) hFc (fun q _ h => hFc q h) (fun E ce q9 u t9 H1 locs ht1 hvm _ hBX hz1 hk1 hS hce hcv hcl => ?_) (fun u1 t1 H1 locs ht1 hvm w1 hB hz1 hk1 hS => ?_)
  · obtain ⟨hXE, hBX⟩ := hBX
    rw [ht1] at hBX
    have hP := wk_ro (wc := []) hP hD [] rfl hk1 va_P.nil
    exact vx_out (fun x hx => (hnt x hx).elim) hlocks hce hcv hcl (fun t ht9 _ => ⟨(), trivial, ⟨⟨hXE.1, if_pos (hXE.2.elim Or.inl (fun q => Or.inr (Or.inl q)))⟩, by rw [ht9]; exact hP⟩, hS.F ht9⟩) hS.2.2 (Nat.le_of_ble_eq_true rfl) (Nat.le_of_ble_eq_true rfl)
  try dsimp only at w1 hB
  rw [ht1] at hB
  have hP := wk_ro (wc := []) hP hD [] rfl hk1 va_P.nil
  generalize H1 = H at hP hS ⊢
  have hnd := w1
  obtain ⟨n9, hn9, e9⟩ := nI_node hnd
  subst e9
  refine lv_iload_n hx hb dX4_key_4 rfl (lv_at hl 2 rfl) ?_
  refine lv_if_lt (tgt := 21) hx hb dX4_key_5 (by decide) (fun c5 => ?_) (fun c5 => ?_)
  · have hbad : nI n9 < 0 ∨ 8 ≤ nI n9 ∨ i < 0 ∨ nI ((stZ Z) (nI n9).toNatClampNeg).length ≤ i := Or.inr (Or.inr (Or.inl c5))
    have hxo := fun (t : State) h1 h2 => xout (t := t) hP hS h1 h2
    exact vx_throwS (names := xNames) (is := 177) (text := "the node has not so many keys") (A := A) hx hb hl0 hown (by decide +kernel) xf_n (ht _ kw2_136) (ht _ kw1_17) (hTX.2.2 (177, "the node has not so many keys") (by decide)).choose_spec (fun w h => ht w (xt_179 w h)) xg_179 hTX.1 hTX.2.1 hS (hl.1.trans hml.symm) dX4_key_21 dX4_key_24 dX4_key_25 dX4_key_27 dX4_key_30 (fun x hx => (hnt x hx).elim) (Nat.le_of_ble_eq_true rfl) (Nat.le_of_ble_eq_true rfl) (Nat.le_of_ble_eq_true rfl) (Nat.le_of_ble_eq_true rfl) hlocks (fun t hvm h1 h2 => ⟨(), trivial, ⟨⟨rfl, if_pos hbad⟩, (hxo t h1 h2).1⟩, (hxo t h1 h2).2⟩) hS.2.2 (Nat.le_of_ble_eq_true rfl) (Nat.le_of_ble_eq_true rfl)
  · refine lv_iload_n hx hb dX4_key_8 rfl (lv_at hl 2 rfl) ?_
    refine lv_aload_n hx hb dX4_key_9 rfl (lv_at hl 0 rfl) ?_
    refine va_get (D := D) (ci := 4) (v := .ref (G 3)) (C := RX4) (T := TX4) (N := 5) hx hb ht inX4 hown hK hP 0 (rfl) rfl 1 (by decide) (ht _ kw1_176) (fun _ h9 => h9) rfl dX4_key_10 ?_
    refine lv_iload_n hx hb dX4_key_13 rfl (lv_at hl 1 rfl) ?_
    refine ya_aldq hx hb hK hP 5 2 rfl rfl n9 (rfl) (hn9) (by decide) (v := SA n9) (hsf n9 hn9) dX4_key_14 ?_
    refine va_getN (D := D) (ci := 3) (v := .int (nI (zL (Z n9)).length)) (C := RX3) (T := TX3) (N := 3) hx hb ht inX3 hown hK hP (11 + 3 * n9) (st_e0 (hn9)) rfl 2 (by decide) (ht _ kw1_128) (fun _ h9 => h9) rfl dX4_key_15 ?_
    refine lv_icmp_lt (tgt := 31) hx hb dX4_key_18 (by decide) (fun c18 => ?_) (fun c18 => ?_)
    · have hno : ¬ (nI n9 < 0 ∨ 8 ≤ nI n9 ∨ i < 0 ∨ nI ((stZ Z) (nI n9).toNatClampNeg).length ≤ i) := fun q => q.elim (fun z => hnd (Or.inl z)) (fun q => q.elim (fun z => hnd (Or.inr z)) (fun q => q.elim c5 (fun z => by rw [nI_clamp (by omega)] at z; exact absurd c18 (Int32.not_lt.mpr z))))
      obtain ⟨k9, hk9, e9⟩ := nI_of c5
      subst e9
      have hkl : k9 < (zL (Z n9)).length := by
        rcases Nat.lt_or_ge k9 (zL (Z n9)).length with q | q
        · exact q
        · exact absurd c18 (nI_nlt q (by omega))
      refine lv_aload_n hx hb dX4_key_31 rfl (lv_at hl 0 rfl) ?_
      refine va_get (D := D) (ci := 4) (v := .ref (G 3)) (C := RX4) (T := TX4) (N := 5) hx hb ht inX4 hown hK hP 0 (rfl) rfl 1 (by decide) (ht _ kw1_176) (fun _ h9 => h9) rfl dX4_key_32 ?_
      refine lv_iload_n hx hb dX4_key_35 rfl (lv_at hl 1 rfl) ?_
      refine ya_aldq hx hb hK hP 5 2 rfl rfl n9 (rfl) (hn9) (by decide) (v := SA n9) (hsf n9 hn9) dX4_key_36 ?_
      refine va_getN (D := D) (ci := 3) (v := .ref (zK (Z n9))) (C := RX3) (T := TX3) (N := 3) hx hb ht inX3 hown hK hP (11 + 3 * n9) (st_e0 (hn9)) rfl 0 (by decide) (ht _ kw1_125) (fun _ h9 => h9) rfl dX4_key_37 ?_
      refine lv_iload_n hx hb dX4_key_40 rfl (lv_at hl 2 rfl) ?_
      refine ya_iald hx hb hK hP (12 + 3 * n9) 0 (st_e1 (hn9)) rfl k9 (rfl) (by have := (hzs n9 hn9).1.1.1; omega) (by have := (hzs n9 hn9).1.1.2; omega) dX4_key_41 ?_
      refine vx_ret ?_
      refine W.widen (k := 3) (n := 18) (Nat.le_of_ble_eq_true rfl) (Nat.le_of_ble_eq_true rfl) ?_
      exact W.iret (v := (zF (Z n9)) k9) hx hb hr (fun t ht2 hW => ⟨⟨(zF (Z n9)) k9, (), rfl, by
            (try dsimp only)
            unfold keyF; rw [if_neg hno, nI_clamp (by omega), nI_clamp (by omega)]; exact Prod.ext rfl ((hzs n9 hn9).1.2.2 k9 hkl).1.symm, by (try dsimp only); rw [ht2]; exact hP⟩, hS.F ht2⟩) hS.2.2 dX4_key_42
    · have hbad : nI n9 < 0 ∨ 8 ≤ nI n9 ∨ i < 0 ∨ nI ((stZ Z) (nI n9).toNatClampNeg).length ≤ i := Or.inr (Or.inr (Or.inr (by rw [nI_clamp (by omega)]; exact Int32.not_lt.mp c18)))
      have hxo := fun (t : State) h1 h2 => xout (t := t) hP hS h1 h2
      exact vx_throwS (names := xNames) (is := 177) (text := "the node has not so many keys") (A := A) hx hb hl0 hown (by decide +kernel) xf_n (ht _ kw2_136) (ht _ kw1_17) (hTX.2.2 (177, "the node has not so many keys") (by decide)).choose_spec (fun w h => ht w (xt_179 w h)) xg_179 hTX.1 hTX.2.1 hS (hl.1.trans hml.symm) dX4_key_21 dX4_key_24 dX4_key_25 dX4_key_27 dX4_key_30 (fun x hx => (hnt x hx).elim) (Nat.le_of_ble_eq_true rfl) (Nat.le_of_ble_eq_true rfl) (Nat.le_of_ble_eq_true rfl) (Nat.le_of_ble_eq_true rfl) hlocks (fun t hvm h1 h2 => ⟨(), trivial, ⟨⟨rfl, if_pos hbad⟩, (hxo t h1 h2).1⟩, (hxo t h1 h2).2⟩) hS.2.2 (Nat.le_of_ble_eq_true rfl) (Nat.le_of_ble_eq_true rfl)

set_option maxHeartbeats 4000000 in
set_option maxRecDepth 100000 in
theorem c_X4_points (l : Launch) (hl0 : l.stackTraces = false) (D : va_G) (cI cZ cS cJ : ClassId) (sz : Nat) (G SA : Nat → Nat) (sf : Nat → Option Nat) (hsf : ∀ n, n < 8 → sf n = some (SA n)) (pa no : Nat) (pts rf rg : Nat → Int32) (RL : List (Int32 × Int32)) (pk ps pt L : Nat) (p1 p2 p3 : Nat → Int32) (op off left wr rc th : Int32) (Z : Nat → ST) (mm : Nat → Nat) (rows : List (Int32 × Nat × Nat)) (F Gn : Nat) (C : Bool) (hci : CI mm RL pts rf rg rows L p1 p2 p3 F Gn Z) (nd : Int32) : vx_Met l yX4_points (Cond.code yX4_points cX4_points 2 (some .int) :: TB) ({ frames := 7, cells := 3, slots := 18, locals := 110 } : Room) (va_Pc [.ref (G 0), .int nd] (PX D (KT cI cZ cS cJ) (cW cI cS G SA sf pa no pts rf rg (nI RL.length) pk ps pt L p1 p2 p3 (nI rows.length) op (nI F) (nI Gn) (cB C) off left wr rc th Z) sz)) (va_Qi (fun r (_ : Unit) => ptsF off mm nd = (0, r)) (fun (_ : Unit) t => va_P D vwCl (cW cI cS G SA sf pa no pts rf rg (nI RL.length) pk ps pt L p1 p2 p3 (nI rows.length) op (nI F) (nI Gn) (cB C) off left wr rc th Z) t.heap) (va_A (cW cI cS G SA sf pa no pts rf rg (nI RL.length) pk ps pt L p1 p2 p3 (nI rows.length) op (nI F) (nI Gn) (cB C) off left wr rc th Z) sz)) (vx_X (fun (_ : Unit) => True) (fun E (_ : Unit) t => (fun E => (E = cIOB ∧ ptsF off mm nd = (1, 0)) ∨ (E = cISE ∧ ptsF off mm nd = (2, 0))) E ∧ va_P D vwCl (cW cI cS G SA sf pa no pts rf rg (nI RL.length) pk ps pt L p1 p2 p3 (nI rows.length) op (nI F) (nI Gn) (cB C) off left wr rc th Z) t.heap) (va_A (cW cI cS G SA sf pa no pts rf rg (nI RL.length) pk ps pt L p1 p2 p3 (nI rows.length) op (nI F) (nI Gn) (cB C) off left wr rc th Z) sz)) 3 18 (va_A (cW cI cS G SA sf pa no pts rf rg (nI RL.length) pk ps pt L p1 p2 p3 (nI rows.length) op (nI F) (nI Gn) (cB C) off left wr rc th Z) sz) := by
  refine vx_ofW (cc := cX4_points) (maxL := 2) (ret := (some .int)) (by decide) rfl ?_
  intro p e s m args below meth c s₁ B hml hnt hv
  obtain ⟨rfl, ⟨hsz, hP, hK, hD0⟩, hTX⟩ := hv
  have hx := B.exec
  have hb := B.bytes
  have hr := B.returns
  have hts := atoms_spec (ws := (Cond.code yX4_points cX4_points 2 (some .int) :: TB)) B.pre
  have ht : ∀ w ∈ TB, w.before _ s = true := fun w h => hts w (List.mem_cons_of_mem _ h)
  have hown : s.vm.findClass RX4 = some m.cls := findClass_of_methodNamed B.named
  have hlocks := B.notSynchronized
  subst hsz
  have hD := hD0.self (sz := s.heap.size)
  generalize hAe : va_A (cW cI cS G SA sf pa no pts rf rg (nI RL.length) pk ps pt L p1 p2 p3 (nI rows.length) op (nI F) (nI Gn) (cB C) off left wr rc th Z) s.heap.size = A at hD hTX ⊢
  have hA : ∀ q : Nat, s.heap.size ≤ q → A q := fun q h => by rw [← hAe]; exact Or.inr h
  have hS : va_S A s.heap s.heap [] := va_S.rf
  have hP : va_P D vwCl (cW cI cS G SA sf pa no pts rf rg (nI RL.length) pk ps pt L p1 p2 p3 (nI rows.length) op (nI F) (nI Gn) (cB C) off left wr rc th Z) s.heap := hP
  have hl := lv_entry ([.ref (G 0), .int nd]) (n := 2) (Nat.le_of_ble_eq_true rfl)
  rw [lg_entry_eq]
  generalize (lg_sl ([.ref (G 0), .int nd]) ++ List.replicate (2 - (lg_sl ([.ref (G 0), .int nd])).length) Slot.unset).toArray = ls at hl ⊢
  have hl : lv_has ls 2 [(0, .ref (G 0)), (1, .int nd)] := hl
  obtain ⟨⟨hrr, hrg, h16, hM⟩, ⟨hpr, h32, hrl, hF9, hG9, hsr, hp8⟩, hzs⟩ := id hci
  refine lv_iload_n hx hb dX4_points_0 rfl (lv_at hl 1 rfl) ?_
  have hPc : va_P D vwCl [] s.heap := va_P.nil
  have hDc : va_D A [] := va_D.nil
  have hFc := va_free (wc := []) hD hS hA [] rfl
  refine vx_callv (vx_runS (As := [.int nd]) (rest := []) ⟨hx, hb, hml, hown, ht⟩ (c_X4_needNode l hl0 D cI cZ cS cJ s.heap.size nd) (xwS 1 ht kw2_135 kw2_133 kw1_1 kw2_134 rfl rfl (by decide +kernel) ⟨Nat.le_of_ble_eq_true rfl, Nat.le_of_ble_eq_true rfl⟩) ⟨PX.blind, fun U hU hW => PX.mk hU hW hPc hK hDc hS hFc hTX⟩ rfl rfl hl.1 rfl (lv_room (Nat.le_of_ble_eq_true rfl)) dX4_points_1 ⟨Nat.le_of_ble_eq_true rfl, Nat.le_of_ble_eq_true rfl⟩) hS (fun q _ h => hFc q h) hFc (fun q _ h => hFc q h) (fun E ce q9 u t9 H1 locs ht1 hvm _ hBX hz1 hk1 hS hce hcv hcl => ?_) (fun u1 t1 H1 locs ht1 hvm w1 hB hz1 hk1 hS => ?_)
  · obtain ⟨hXE, hBX⟩ := hBX
    rw [ht1] at hBX
    have hP := wk_ro (wc := []) hP hD [] rfl hk1 va_P.nil
    exact vx_out (fun x hx => (hnt x hx).elim) hlocks hce hcv hcl (fun t ht9 _ => ⟨(), trivial, ⟨Or.inl ⟨hXE.1, if_pos hXE.2⟩, by rw [ht9]; exact hP⟩, hS.F ht9⟩) hS.2.2 (Nat.le_of_ble_eq_true rfl) (Nat.le_of_ble_eq_true rfl)
  try dsimp only at w1 hB
  rw [ht1] at hB
  have hP := wk_ro (wc := []) hP hD [] rfl hk1 va_P.nil
  generalize H1 = H at hP hS ⊢
  have hnd := w1
  obtain ⟨n9, hn9, e9⟩ := nI_node hnd
  subst e9
  refine lv_aload_n hx hb dX4_points_4 rfl (lv_at hl 0 rfl) ?_
  have hPc := hP.sub (ws' := [((G 0), .inr (4, [.ref (G 1), .ref (G 3), .ref (G 4), .ref (G 5), .int th])), ((G 5), .inr (1, [.int off, .int left, .int wr, .int rc]))]) [0, 10] rfl
  have hDc := hD.sub (ws' := [((G 0), .inr (4, [.ref (G 1), .ref (G 3), .ref (G 4), .ref (G 5), .int th])), ((G 5), .inr (1, [.int off, .int left, .int wr, .int rc]))]) [0, 10] (by decide) rfl
  have hFc := va_free (wc := [((G 0), .inr (4, [.ref (G 1), .ref (G 3), .ref (G 4), .ref (G 5), .int th])), ((G 5), .inr (1, [.int off, .int left, .int wr, .int rc]))]) hD hS hA [0, 10] rfl
  refine vx_callv (vx_runV (As := []) (rest := []) ⟨hx, hb, hml, hown, ht⟩ (c_X4_needPower l hl0 D cI cZ cS cJ H.size G off left wr rc th) (xwV 0 ht kw1_218 kw1_215 kw1_1 kw1_217 kwS_1 rfl rfl (by decide +kernel) ⟨Nat.le_of_ble_eq_true rfl, Nat.le_of_ble_eq_true rfl⟩) ⟨PX.blind, va_recv hK hPc (ci := 4) (q0 := 0) rfl rfl, fun U hU hW => PX.mk hU hW hPc hK hDc hS hFc hTX⟩ rfl rfl hl.1 rfl (lv_room (Nat.le_of_ble_eq_true rfl)) dX4_points_5 ⟨Nat.le_of_ble_eq_true rfl, Nat.le_of_ble_eq_true rfl⟩) hS (fun q _ h => hFc q h) hFc (fun q _ h => hFc q h) (fun E ce q9 u t9 H1 locs ht1 hvm _ hBX hz1 hk1 hS hce hcv hcl => ?_) (fun u5 t5 H1 locs ht1 hvm w5 hB hz1 hk1 hS => ?_)
  · obtain ⟨hXE, hBX⟩ := hBX
    rw [ht1] at hBX
    have hP := wk_ro hP hD [0, 10] rfl hk1 hBX
    exact vx_out (fun x hx => (hnt x hx).elim) hlocks hce hcv hcl (fun t ht9 _ => ⟨(), trivial, ⟨Or.inr ⟨hXE.1, by unfold ptsF; rw [if_neg hnd, if_pos hXE.2]⟩, by rw [ht9]; exact hP⟩, hS.F ht9⟩) hS.2.2 (Nat.le_of_ble_eq_true rfl) (Nat.le_of_ble_eq_true rfl)
  try dsimp only at w5 hB
  rw [ht1] at hB
  have hP := wk_ro hP hD [0, 10] rfl hk1 hB
  generalize H1 = H at hP hS ⊢
  refine lv_aload_n hx hb dX4_points_8 rfl (lv_at hl 0 rfl) ?_
  refine va_get (D := D) (ci := 4) (v := .ref (G 1)) (C := RX4) (T := TX4) (N := 5) hx hb ht inX4 hown hK hP 0 (rfl) rfl 0 (by decide) (ht _ kw1_175) (fun _ h9 => h9) rfl dX4_points_9 ?_
  refine va_getN (D := D) (ci := 2) (v := .ref (G 2)) (C := RX2) (T := TX2) (N := 4) hx hb ht inX2 hown hK hP 1 (rfl) rfl 0 (by decide) (ht _ kw1_40) (fun _ h9 => h9) rfl dX4_points_12 ?_
  refine lv_iload_n hx hb dX4_points_15 rfl (lv_at hl 1 rfl) ?_
  refine ya_iald hx hb hK hP 2 0 (rfl) rfl n9 (rfl) (hn9) (by decide) dX4_points_16 ?_
  refine vx_ret ?_
  refine W.widen (k := 3) (n := 18) (Nat.le_of_ble_eq_true rfl) (Nat.le_of_ble_eq_true rfl) ?_
  exact W.iret (v := pts n9) hx hb hr (fun t ht2 hW => ⟨⟨pts n9, (), rfl, by
        (try dsimp only)
        unfold ptsF; rw [if_neg hnd, if_neg (fun q => q w5), nI_clamp (by omega)]; exact Prod.ext rfl (hrr.1 n9 hn9).symm, by (try dsimp only); rw [ht2]; exact hP⟩, hS.F ht2⟩) hS.2.2 dX4_points_17

set_option maxHeartbeats 4000000 in
set_option maxRecDepth 100000 in
theorem c_X4_share (l : Launch) (hl0 : l.stackTraces = false) (D : va_G) (cI cZ cS cJ : ClassId) (sz : Nat) (G SA : Nat → Nat) (sf : Nat → Option Nat) (hsf : ∀ n, n < 8 → sf n = some (SA n)) (pa no : Nat) (pts rf rg : Nat → Int32) (RL : List (Int32 × Int32)) (pk ps pt L : Nat) (p1 p2 p3 : Nat → Int32) (op off left wr rc th : Int32) (Z : Nat → ST) (mm : Nat → Nat) (rows : List (Int32 × Nat × Nat)) (F Gn : Nat) (C : Bool) (hci : CI mm RL pts rf rg rows L p1 p2 p3 F Gn Z) (nd : Int32) : vx_Met l yX4_share (Cond.code yX4_share cX4_share 2 (some .long) :: TB) ({ frames := 7, cells := 3, slots := 18, locals := 110 } : Room) (va_Pc [.ref (G 0), .int nd] (PX D (KT cI cZ cS cJ) (cW cI cS G SA sf pa no pts rf rg (nI RL.length) pk ps pt L p1 p2 p3 (nI rows.length) op (nI F) (nI Gn) (cB C) off left wr rc th Z) sz)) (va_Ql (fun r (_ : Unit) => shrF off mm nd = (0, r)) (fun (_ : Unit) t => va_P D vwCl (cW cI cS G SA sf pa no pts rf rg (nI RL.length) pk ps pt L p1 p2 p3 (nI rows.length) op (nI F) (nI Gn) (cB C) off left wr rc th Z) t.heap) (va_A (cW cI cS G SA sf pa no pts rf rg (nI RL.length) pk ps pt L p1 p2 p3 (nI rows.length) op (nI F) (nI Gn) (cB C) off left wr rc th Z) sz)) (vx_X (fun (_ : Unit) => True) (fun E (_ : Unit) t => (fun E => (E = cIOB ∧ shrF off mm nd = (1, 0)) ∨ (E = cISE ∧ shrF off mm nd = (2, 0))) E ∧ va_P D vwCl (cW cI cS G SA sf pa no pts rf rg (nI RL.length) pk ps pt L p1 p2 p3 (nI rows.length) op (nI F) (nI Gn) (cB C) off left wr rc th Z) t.heap) (va_A (cW cI cS G SA sf pa no pts rf rg (nI RL.length) pk ps pt L p1 p2 p3 (nI rows.length) op (nI F) (nI Gn) (cB C) off left wr rc th Z) sz)) 3 18 (va_A (cW cI cS G SA sf pa no pts rf rg (nI RL.length) pk ps pt L p1 p2 p3 (nI rows.length) op (nI F) (nI Gn) (cB C) off left wr rc th Z) sz) := by
  refine vx_ofW (cc := cX4_share) (maxL := 2) (ret := (some .long)) (by decide) rfl ?_
  intro p e s m args below meth c s₁ B hml hnt hv
  obtain ⟨rfl, ⟨hsz, hP, hK, hD0⟩, hTX⟩ := hv
  have hx := B.exec
  have hb := B.bytes
  have hr := B.returns
  have hts := atoms_spec (ws := (Cond.code yX4_share cX4_share 2 (some .long) :: TB)) B.pre
  have ht : ∀ w ∈ TB, w.before _ s = true := fun w h => hts w (List.mem_cons_of_mem _ h)
  have hown : s.vm.findClass RX4 = some m.cls := findClass_of_methodNamed B.named
  have hlocks := B.notSynchronized
  subst hsz
  have hD := hD0.self (sz := s.heap.size)
  generalize hAe : va_A (cW cI cS G SA sf pa no pts rf rg (nI RL.length) pk ps pt L p1 p2 p3 (nI rows.length) op (nI F) (nI Gn) (cB C) off left wr rc th Z) s.heap.size = A at hD hTX ⊢
  have hA : ∀ q : Nat, s.heap.size ≤ q → A q := fun q h => by rw [← hAe]; exact Or.inr h
  have hS : va_S A s.heap s.heap [] := va_S.rf
  have hP : va_P D vwCl (cW cI cS G SA sf pa no pts rf rg (nI RL.length) pk ps pt L p1 p2 p3 (nI rows.length) op (nI F) (nI Gn) (cB C) off left wr rc th Z) s.heap := hP
  have hl := lv_entry ([.ref (G 0), .int nd]) (n := 2) (Nat.le_of_ble_eq_true rfl)
  rw [lg_entry_eq]
  generalize (lg_sl ([.ref (G 0), .int nd]) ++ List.replicate (2 - (lg_sl ([.ref (G 0), .int nd])).length) Slot.unset).toArray = ls at hl ⊢
  have hl : lv_has ls 2 [(0, .ref (G 0)), (1, .int nd)] := hl
  obtain ⟨⟨hrr, hrg, h16, hM⟩, ⟨hpr, h32, hrl, hF9, hG9, hsr, hp8⟩, hzs⟩ := id hci
  refine lv_iload_n hx hb dX4_share_0 rfl (lv_at hl 1 rfl) ?_
  have hPc : va_P D vwCl [] s.heap := va_P.nil
  have hDc : va_D A [] := va_D.nil
  have hFc := va_free (wc := []) hD hS hA [] rfl
  refine vx_callv (vx_runS (As := [.int nd]) (rest := []) ⟨hx, hb, hml, hown, ht⟩ (c_X4_needNode l hl0 D cI cZ cS cJ s.heap.size nd) (xwS 1 ht kw2_135 kw2_133 kw1_1 kw2_134 rfl rfl (by decide +kernel) ⟨Nat.le_of_ble_eq_true rfl, Nat.le_of_ble_eq_true rfl⟩) ⟨PX.blind, fun U hU hW => PX.mk hU hW hPc hK hDc hS hFc hTX⟩ rfl rfl hl.1 rfl (lv_room (Nat.le_of_ble_eq_true rfl)) dX4_share_1 ⟨Nat.le_of_ble_eq_true rfl, Nat.le_of_ble_eq_true rfl⟩) hS (fun q _ h => hFc q h) hFc (fun q _ h => hFc q h) (fun E ce q9 u t9 H1 locs ht1 hvm _ hBX hz1 hk1 hS hce hcv hcl => ?_) (fun u1 t1 H1 locs ht1 hvm w1 hB hz1 hk1 hS => ?_)
  · obtain ⟨hXE, hBX⟩ := hBX
    rw [ht1] at hBX
    have hP := wk_ro (wc := []) hP hD [] rfl hk1 va_P.nil
    exact vx_out (fun x hx => (hnt x hx).elim) hlocks hce hcv hcl (fun t ht9 _ => ⟨(), trivial, ⟨Or.inl ⟨hXE.1, if_pos hXE.2⟩, by rw [ht9]; exact hP⟩, hS.F ht9⟩) hS.2.2 (Nat.le_of_ble_eq_true rfl) (Nat.le_of_ble_eq_true rfl)
  try dsimp only at w1 hB
  rw [ht1] at hB
  have hP := wk_ro (wc := []) hP hD [] rfl hk1 va_P.nil
  generalize H1 = H at hP hS ⊢
  have hnd := w1
  obtain ⟨n9, hn9, e9⟩ := nI_node hnd
  subst e9
  refine lv_aload_n hx hb dX4_share_4 rfl (lv_at hl 0 rfl) ?_
  have hPc := hP.sub (ws' := [((G 0), .inr (4, [.ref (G 1), .ref (G 3), .ref (G 4), .ref (G 5), .int th])), ((G 5), .inr (1, [.int off, .int left, .int wr, .int rc]))]) [0, 10] rfl
  have hDc := hD.sub (ws' := [((G 0), .inr (4, [.ref (G 1), .ref (G 3), .ref (G 4), .ref (G 5), .int th])), ((G 5), .inr (1, [.int off, .int left, .int wr, .int rc]))]) [0, 10] (by decide) rfl
  have hFc := va_free (wc := [((G 0), .inr (4, [.ref (G 1), .ref (G 3), .ref (G 4), .ref (G 5), .int th])), ((G 5), .inr (1, [.int off, .int left, .int wr, .int rc]))]) hD hS hA [0, 10] rfl
  refine vx_callv (vx_runV (As := []) (rest := []) ⟨hx, hb, hml, hown, ht⟩ (c_X4_needPower l hl0 D cI cZ cS cJ H.size G off left wr rc th) (xwV 0 ht kw1_218 kw1_215 kw1_1 kw1_217 kwS_1 rfl rfl (by decide +kernel) ⟨Nat.le_of_ble_eq_true rfl, Nat.le_of_ble_eq_true rfl⟩) ⟨PX.blind, va_recv hK hPc (ci := 4) (q0 := 0) rfl rfl, fun U hU hW => PX.mk hU hW hPc hK hDc hS hFc hTX⟩ rfl rfl hl.1 rfl (lv_room (Nat.le_of_ble_eq_true rfl)) dX4_share_5 ⟨Nat.le_of_ble_eq_true rfl, Nat.le_of_ble_eq_true rfl⟩) hS (fun q _ h => hFc q h) hFc (fun q _ h => hFc q h) (fun E ce q9 u t9 H1 locs ht1 hvm _ hBX hz1 hk1 hS hce hcv hcl => ?_) (fun u5 t5 H1 locs ht1 hvm w5 hB hz1 hk1 hS => ?_)
  · obtain ⟨hXE, hBX⟩ := hBX
    rw [ht1] at hBX
    have hP := wk_ro hP hD [0, 10] rfl hk1 hBX
    exact vx_out (fun x hx => (hnt x hx).elim) hlocks hce hcv hcl (fun t ht9 _ => ⟨(), trivial, ⟨Or.inr ⟨hXE.1, by unfold shrF; rw [if_neg hnd, if_pos hXE.2]⟩, by rw [ht9]; exact hP⟩, hS.F ht9⟩) hS.2.2 (Nat.le_of_ble_eq_true rfl) (Nat.le_of_ble_eq_true rfl)
  try dsimp only at w5 hB
  rw [ht1] at hB
  have hP := wk_ro hP hD [0, 10] rfl hk1 hB
  generalize H1 = H at hP hS ⊢
  refine lv_aload_n hx hb dX4_share_8 rfl (lv_at hl 0 rfl) ?_
  refine va_get (D := D) (ci := 4) (v := .ref (G 1)) (C := RX4) (T := TX4) (N := 5) hx hb ht inX4 hown hK hP 0 (rfl) rfl 0 (by decide) (ht _ kw1_175) (fun _ h9 => h9) rfl dX4_share_9 ?_
  refine lv_iload_n hx hb dX4_share_12 rfl (lv_at hl 1 rfl) ?_
  have hPc := hP.sub (ws' := [((G 1), .inr (2, [.ref (G 2), .ref pa, .ref no, .int (nI RL.length)])), ((G 2), .inl (cI, 8, .inl pts)), (pa, .inl (cI, 128, .inl rf)), (no, .inl (cI, 128, .inl rg))]) [1, 2, 3, 4] rfl
  have hDc := hD.sub (ws' := [((G 1), .inr (2, [.ref (G 2), .ref pa, .ref no, .int (nI RL.length)])), ((G 2), .inl (cI, 8, .inl pts)), (pa, .inl (cI, 128, .inl rf)), (no, .inl (cI, 128, .inl rg))]) [1, 2, 3, 4] (by decide) rfl
  have hFc := va_free (wc := [((G 1), .inr (2, [.ref (G 2), .ref pa, .ref no, .int (nI RL.length)])), ((G 2), .inl (cI, 8, .inl pts)), (pa, .inl (cI, 128, .inl rf)), (no, .inl (cI, 128, .inl rg))]) hD hS hA [1, 2, 3, 4] rfl
  refine va_calll (va_runVN (As := [.int (nI n9)]) (rest := []) ⟨hx, hb, hml, hown, ht⟩ (c_X2_placesOf l D cI cZ cS cJ H.size (G 1) (G 2) pa no pts rf rg mm RL hrr hrg h16 (hrg.pos hM) n9 hn9) ⟨xwN 1 ht kw3_72 kw3_69 kw1_3 rfl rfl (by decide +kernel) ⟨Nat.le_of_ble_eq_true rfl, Nat.le_of_ble_eq_true rfl⟩, ht _ kw3_71, ht _ kwS_23⟩ ⟨PB.blind, va_recv hK hPc (ci := 2) (q0 := 0) rfl rfl, fun U hU hW => PB.mk hU hW hPc hK hDc⟩ rfl rfl hl.1 rfl (lv_room (Nat.le_of_ble_eq_true rfl)) dX4_share_13 ⟨Nat.le_of_ble_eq_true rfl, Nat.le_of_ble_eq_true rfl⟩) hS (fun q _ h => hFc q h) hFc (fun r13 u13 t13 H1 locs ht1 hvm w13 hB hz1 hk1 hS => ?_)
  try dsimp only at w13 hB
  rw [ht1] at hB
  have hP := wk_ro hP hD [1, 2, 3, 4] rfl hk1 hB
  generalize H1 = H at hP hS ⊢
  refine vx_ret ?_
  refine W.widen (k := 3) (n := 18) (Nat.le_of_ble_eq_true rfl) (Nat.le_of_ble_eq_true rfl) ?_
  exact W.lret (v := r13) hx hb hr (fun t ht2 hW => ⟨⟨r13, (), rfl, by
        (try dsimp only)
        unfold shrF; rw [if_neg hnd, if_neg (fun q => q w5), nI_clamp (by omega), w13, plS_shS hrg hM hn9], by (try dsimp only); rw [ht2]; exact hP⟩, hS.F ht2⟩) hS.2.2 dX4_share_16

set_option maxHeartbeats 4000000 in
set_option maxRecDepth 100000 in
theorem c_X4_written (l : Launch) (D : va_G) (cI cZ cS cJ : ClassId) (sz : Nat) (G SA : Nat → Nat) (sf : Nat → Option Nat) (hsf : ∀ n, n < 8 → sf n = some (SA n)) (pa no : Nat) (pts rf rg : Nat → Int32) (RL : List (Int32 × Int32)) (pk ps pt L : Nat) (p1 p2 p3 : Nat → Int32) (op off left wr rc th : Int32) (Z : Nat → ST) (mm : Nat → Nat) (rows : List (Int32 × Nat × Nat)) (F Gn : Nat) (C : Bool) (hci : CI mm RL pts rf rg rows L p1 p2 p3 F Gn Z) (lg : Int32) : Met l yX4_written (Cond.code yX4_written cX4_written 2 (some .int) :: TB) ({ frames := 0, cells := 0, slots := 0, locals := 0 } : Room) (va_Pc [.ref (G 0), .int lg] (PB D (KT cI cZ cS cJ) (cW cI cS G SA sf pa no pts rf rg (nI RL.length) pk ps pt L p1 p2 p3 (nI rows.length) op (nI F) (nI Gn) (cB C) off left wr rc th Z) sz)) (va_Qi (fun r (_ : Unit) => r = if lg = 0 then wr else rc) (fun (_ : Unit) t => va_P D vwCl (cW cI cS G SA sf pa no pts rf rg (nI RL.length) pk ps pt L p1 p2 p3 (nI rows.length) op (nI F) (nI Gn) (cB C) off left wr rc th Z) t.heap) (va_A (cW cI cS G SA sf pa no pts rf rg (nI RL.length) pk ps pt L p1 p2 p3 (nI rows.length) op (nI F) (nI Gn) (cB C) off left wr rc th Z) sz)) 0 0 (va_A (cW cI cS G SA sf pa no pts rf rg (nI RL.length) pk ps pt L p1 p2 p3 (nI rows.length) op (nI F) (nI Gn) (cB C) off left wr rc th Z) sz) := by
  refine Met.ofW (cc := cX4_written) (maxL := 2) (ret := (some .int)) (by decide) rfl ?_
  intro p e s m args below meth c s₁ B hml hv
  obtain ⟨rfl, hsz, hP, hK, hD0⟩ := hv
  have hx := B.exec
  have hb := B.bytes
  have hr := B.returns
  have hts := atoms_spec (ws := (Cond.code yX4_written cX4_written 2 (some .int) :: TB)) B.pre
  have ht : ∀ w ∈ TB, w.before _ s = true := fun w h => hts w (List.mem_cons_of_mem _ h)
  have hown : s.vm.findClass RX4 = some m.cls := findClass_of_methodNamed B.named
  have hlocks := B.notSynchronized
  subst hsz
  have hD := hD0.self (sz := s.heap.size)
  generalize hAe : va_A (cW cI cS G SA sf pa no pts rf rg (nI RL.length) pk ps pt L p1 p2 p3 (nI rows.length) op (nI F) (nI Gn) (cB C) off left wr rc th Z) s.heap.size = A at hD ⊢
  have hA : ∀ q : Nat, s.heap.size ≤ q → A q := fun q h => by rw [← hAe]; exact Or.inr h
  have hS : va_S A s.heap s.heap [] := va_S.rf
  have hP : va_P D vwCl (cW cI cS G SA sf pa no pts rf rg (nI RL.length) pk ps pt L p1 p2 p3 (nI rows.length) op (nI F) (nI Gn) (cB C) off left wr rc th Z) s.heap := hP
  have hl := lv_entry ([.ref (G 0), .int lg]) (n := 2) (Nat.le_of_ble_eq_true rfl)
  rw [lg_entry_eq]
  generalize (lg_sl ([.ref (G 0), .int lg]) ++ List.replicate (2 - (lg_sl ([.ref (G 0), .int lg])).length) Slot.unset).toArray = ls at hl ⊢
  have hl : lv_has ls 2 [(0, .ref (G 0)), (1, .int lg)] := hl
  obtain ⟨⟨hrr, hrg, h16, hM⟩, ⟨hpr, h32, hrl, hF9, hG9, hsr, hp8⟩, hzs⟩ := id hci
  refine lv_iload_n hx hb dX4_written_0 rfl (lv_at hl 1 rfl) ?_
  refine lv_if_eq (tgt := 14) hx hb dX4_written_1 (by decide) (fun c1 => ?_) (fun c1 => ?_)
  · refine lv_aload_n hx hb dX4_written_14 rfl (lv_at hl 0 rfl) ?_
    refine va_get (D := D) (ci := 4) (v := .ref (G 5)) (C := RX4) (T := TX4) (N := 5) hx hb ht inX4 hown hK hP 0 (rfl) rfl 3 (by decide) (ht _ kw1_178) (fun _ h9 => h9) rfl dX4_written_15 ?_
    refine va_getN (D := D) (ci := 1) (v := .int wr) (C := RX1) (T := TX1) (N := 4) hx hb ht inX1 hown hK hP 10 (rfl) rfl 2 (by decide) (ht _ kw1_107) (fun _ h9 => h9) rfl dX4_written_18 ?_
    refine W.widen (k := 0) (n := 0) (Nat.le_of_ble_eq_true rfl) (Nat.le_of_ble_eq_true rfl) ?_
    exact W.iret (v := wr) hx hb hr (fun t ht2 hW => ⟨⟨wr, (), rfl, by first | rw [if_pos c1] | rw [if_neg c1], by (try dsimp only); rw [ht2]; exact hP⟩, hS.F ht2⟩) hS.2.2 dX4_written_21
  · refine lv_aload_n hx hb dX4_written_4 rfl (lv_at hl 0 rfl) ?_
    refine va_get (D := D) (ci := 4) (v := .ref (G 5)) (C := RX4) (T := TX4) (N := 5) hx hb ht inX4 hown hK hP 0 (rfl) rfl 3 (by decide) (ht _ kw1_178) (fun _ h9 => h9) rfl dX4_written_5 ?_
    refine va_getN (D := D) (ci := 1) (v := .int rc) (C := RX1) (T := TX1) (N := 4) hx hb ht inX1 hown hK hP 10 (rfl) rfl 3 (by decide) (ht _ kw1_109) (fun _ h9 => h9) rfl dX4_written_8 ?_
    refine lv_goto (tgt := 21) hx hb dX4_written_11 (by decide) ?_
    refine W.widen (k := 0) (n := 0) (Nat.le_of_ble_eq_true rfl) (Nat.le_of_ble_eq_true rfl) ?_
    exact W.iret (v := rc) hx hb hr (fun t ht2 hW => ⟨⟨rc, (), rfl, by first | rw [if_pos c1] | rw [if_neg c1], by (try dsimp only); rw [ht2]; exact hP⟩, hS.F ht2⟩) hS.2.2 dX4_written_21

set_option maxHeartbeats 4000000 in
set_option maxRecDepth 100000 in
theorem c_X4_count (l : Launch) (hl0 : l.stackTraces = false) (D : va_G) (cI cZ cS cJ : ClassId) (sz : Nat) (G SA : Nat → Nat) (sf : Nat → Option Nat) (hsf : ∀ n, n < 8 → sf n = some (SA n)) (pa no : Nat) (pts rf rg : Nat → Int32) (RL : List (Int32 × Int32)) (pk ps pt L : Nat) (p1 p2 p3 : Nat → Int32) (op off left wr rc th : Int32) (Z : Nat → ST) (mm : Nat → Nat) (rows : List (Int32 × Nat × Nat)) (F Gn : Nat) (C : Bool) (hci : CI mm RL pts rf rg rows L p1 p2 p3 F Gn Z) (hth : th = nI (thF (stZ Z) (homeF mm rows F))) (hG : Gn ≤ F) (hF : F ≤ rows.length) (what : Int32) : vx_Met l yX4_count (Cond.code yX4_count cX4_count 2 (some .int) :: TB) ({ frames := 7, cells := 3, slots := 18, locals := 110 } : Room) (va_Pc [.ref (G 0), .int what] (PX D (KT cI cZ cS cJ) (cW cI cS G SA sf pa no pts rf rg (nI RL.length) pk ps pt L p1 p2 p3 (nI rows.length) op (nI F) (nI Gn) (cB C) off left wr rc th Z) sz)) (va_Qi (fun r (_ : Unit) => cntF off (stZ Z) mm op rows F Gn what = (0, r)) (fun (_ : Unit) t => va_P D vwCl (cW cI cS G SA sf pa no pts rf rg (nI RL.length) pk ps pt L p1 p2 p3 (nI rows.length) op (nI F) (nI Gn) (cB C) off left wr rc th Z) t.heap) (va_A (cW cI cS G SA sf pa no pts rf rg (nI RL.length) pk ps pt L p1 p2 p3 (nI rows.length) op (nI F) (nI Gn) (cB C) off left wr rc th Z) sz)) (vx_X (fun (_ : Unit) => True) (fun E (_ : Unit) t => (fun E => (E = cIAE ∧ cntF off (stZ Z) mm op rows F Gn what = (1, 0)) ∨ (E = cISE ∧ cntF off (stZ Z) mm op rows F Gn what = (2, 0))) E ∧ va_P D vwCl (cW cI cS G SA sf pa no pts rf rg (nI RL.length) pk ps pt L p1 p2 p3 (nI rows.length) op (nI F) (nI Gn) (cB C) off left wr rc th Z) t.heap) (va_A (cW cI cS G SA sf pa no pts rf rg (nI RL.length) pk ps pt L p1 p2 p3 (nI rows.length) op (nI F) (nI Gn) (cB C) off left wr rc th Z) sz)) 3 18 (va_A (cW cI cS G SA sf pa no pts rf rg (nI RL.length) pk ps pt L p1 p2 p3 (nI rows.length) op (nI F) (nI Gn) (cB C) off left wr rc th Z) sz) := by
  refine vx_ofW (cc := cX4_count) (maxL := 2) (ret := (some .int)) (by decide) rfl ?_
  intro p e s m args below meth c s₁ B hml hnt hv
  obtain ⟨rfl, ⟨hsz, hP, hK, hD0⟩, hTX⟩ := hv
  have hx := B.exec
  have hb := B.bytes
  have hr := B.returns
  have hts := atoms_spec (ws := (Cond.code yX4_count cX4_count 2 (some .int) :: TB)) B.pre
  have ht : ∀ w ∈ TB, w.before _ s = true := fun w h => hts w (List.mem_cons_of_mem _ h)
  have hown : s.vm.findClass RX4 = some m.cls := findClass_of_methodNamed B.named
  have hlocks := B.notSynchronized
  subst hsz
  have hD := hD0.self (sz := s.heap.size)
  generalize hAe : va_A (cW cI cS G SA sf pa no pts rf rg (nI RL.length) pk ps pt L p1 p2 p3 (nI rows.length) op (nI F) (nI Gn) (cB C) off left wr rc th Z) s.heap.size = A at hD hTX ⊢
  have hA : ∀ q : Nat, s.heap.size ≤ q → A q := fun q h => by rw [← hAe]; exact Or.inr h
  have hS : va_S A s.heap s.heap [] := va_S.rf
  have hP : va_P D vwCl (cW cI cS G SA sf pa no pts rf rg (nI RL.length) pk ps pt L p1 p2 p3 (nI rows.length) op (nI F) (nI Gn) (cB C) off left wr rc th Z) s.heap := hP
  have hl := lv_entry ([.ref (G 0), .int what]) (n := 2) (Nat.le_of_ble_eq_true rfl)
  rw [lg_entry_eq]
  generalize (lg_sl ([.ref (G 0), .int what]) ++ List.replicate (2 - (lg_sl ([.ref (G 0), .int what])).length) Slot.unset).toArray = ls at hl ⊢
  have hl : lv_has ls 2 [(0, .ref (G 0)), (1, .int what)] := hl
  obtain ⟨⟨hrr, hrg, h16, hM⟩, ⟨hpr, h32, hrl, hF9, hG9, hsr, hp8⟩, hzs⟩ := id hci
  refine lv_iload_n hx hb dX4_count_0 rfl (lv_at hl 1 rfl) ?_
  refine lv_if_lt (tgt := 9) hx hb dX4_count_1 (by decide) (fun c1 => ?_) (fun c1 => ?_)
  · have hbad : what < 0 ∨ 2 < what := Or.inl c1
    have hxo := fun (t : State) h1 h2 => xout (t := t) hP hS h1 h2
    exact vx_throwS (names := xNames) (is := 183) (text := "what is not 0, 1 or 2") (A := A) hx hb hl0 hown (by decide +kernel) xf_n (ht _ kw2_152) (ht _ kw1_18) (hTX.2.2 (183, "what is not 0, 1 or 2") (by decide)).choose_spec (fun w h => ht w (xt_108 w h)) xg_108 hTX.1 hTX.2.1 hS (hl.1.trans hml.symm) dX4_count_9 dX4_count_12 dX4_count_13 dX4_count_15 dX4_count_18 (fun x hx => (hnt x hx).elim) (Nat.le_of_ble_eq_true rfl) (Nat.le_of_ble_eq_true rfl) (Nat.le_of_ble_eq_true rfl) (Nat.le_of_ble_eq_true rfl) hlocks (fun t hvm h1 h2 => ⟨(), trivial, ⟨Or.inl ⟨rfl, if_pos hbad⟩, (hxo t h1 h2).1⟩, (hxo t h1 h2).2⟩) hS.2.2 (Nat.le_of_ble_eq_true rfl) (Nat.le_of_ble_eq_true rfl)
  · refine lv_iload_n hx hb dX4_count_4 rfl (lv_at hl 1 rfl) ?_
    refine lv_iconst (v := 2) hx hb dX4_count_5 (by decide) ?_
    refine lv_icmp_le (tgt := 19) hx hb dX4_count_6 (by decide) (fun c6 => ?_) (fun c6 => ?_)
    · have hok : ¬ (what < 0 ∨ 2 < what) := fun q => q.elim c1 (fun z => absurd c6 (Int32.not_le.mpr z))
      refine lv_aload_n hx hb dX4_count_19 rfl (lv_at hl 0 rfl) ?_
      have hPc := hP.sub (ws' := [((G 0), .inr (4, [.ref (G 1), .ref (G 3), .ref (G 4), .ref (G 5), .int th])), ((G 5), .inr (1, [.int off, .int left, .int wr, .int rc]))]) [0, 10] rfl
      have hDc := hD.sub (ws' := [((G 0), .inr (4, [.ref (G 1), .ref (G 3), .ref (G 4), .ref (G 5), .int th])), ((G 5), .inr (1, [.int off, .int left, .int wr, .int rc]))]) [0, 10] (by decide) rfl
      have hFc := va_free (wc := [((G 0), .inr (4, [.ref (G 1), .ref (G 3), .ref (G 4), .ref (G 5), .int th])), ((G 5), .inr (1, [.int off, .int left, .int wr, .int rc]))]) hD hS hA [0, 10] rfl
      refine vx_callv (vx_runV (As := []) (rest := []) ⟨hx, hb, hml, hown, ht⟩ (c_X4_needPower l hl0 D cI cZ cS cJ s.heap.size G off left wr rc th) (xwV 0 ht kw1_218 kw1_215 kw1_1 kw1_217 kwS_1 rfl rfl (by decide +kernel) ⟨Nat.le_of_ble_eq_true rfl, Nat.le_of_ble_eq_true rfl⟩) ⟨PX.blind, va_recv hK hPc (ci := 4) (q0 := 0) rfl rfl, fun U hU hW => PX.mk hU hW hPc hK hDc hS hFc hTX⟩ rfl rfl hl.1 rfl (lv_room (Nat.le_of_ble_eq_true rfl)) dX4_count_20 ⟨Nat.le_of_ble_eq_true rfl, Nat.le_of_ble_eq_true rfl⟩) hS (fun q _ h => hFc q h) hFc (fun q _ h => hFc q h) (fun E ce q9 u t9 H1 locs ht1 hvm _ hBX hz1 hk1 hS hce hcv hcl => ?_) (fun u20 t20 H1 locs ht1 hvm w20 hB hz1 hk1 hS => ?_)
      · obtain ⟨hXE, hBX⟩ := hBX
        rw [ht1] at hBX
        have hP := wk_ro hP hD [0, 10] rfl hk1 hBX
        exact vx_out (fun x hx => (hnt x hx).elim) hlocks hce hcv hcl (fun t ht9 _ => ⟨(), trivial, ⟨Or.inr ⟨hXE.1, by unfold cntF; rw [if_neg hok, if_pos hXE.2]⟩, by rw [ht9]; exact hP⟩, hS.F ht9⟩) hS.2.2 (Nat.le_of_ble_eq_true rfl) (Nat.le_of_ble_eq_true rfl)
      try dsimp only at w20 hB
      rw [ht1] at hB
      have hP := wk_ro hP hD [0, 10] rfl hk1 hB
      generalize H1 = H at hP hS ⊢
      refine lv_iload_n hx hb dX4_count_23 rfl (lv_at hl 1 rfl) ?_
      refine lv_if_ne (tgt := 32) hx hb dX4_count_24 (by decide) (fun c24 => ?_) (fun c24 => ?_)
      · refine lv_aload_n hx hb dX4_count_32 rfl (lv_at hl 0 rfl) ?_
        refine va_get (D := D) (ci := 4) (v := .ref (G 4)) (C := RX4) (T := TX4) (N := 5) hx hb ht inX4 hown hK hP 0 (rfl) rfl 2 (by decide) (ht _ kw1_177) (fun _ h9 => h9) rfl dX4_count_33 ?_
        refine va_getN (D := D) (ci := 0) (v := .int op) (C := RX0) (T := TX0) (N := 8) hx hb ht inX0 hown hK hP 6 (rfl) rfl 4 (by decide) (ht _ kw1_72) (fun _ h9 => h9) rfl dX4_count_36 ?_
        refine lv_if_ne (tgt := 44) hx hb dX4_count_39 (by decide) (fun c39 => ?_) (fun c39 => ?_)
        · refine lv_iload_n hx hb dX4_count_44 rfl (lv_at hl 1 rfl) ?_
          refine lv_iconst (v := 1) hx hb dX4_count_45 (by decide) ?_
          refine lv_icmp_ne (tgt := 59) hx hb dX4_count_46 (by decide) (fun c46 => ?_) (fun c46 => ?_)
          · refine lv_aload_n hx hb dX4_count_59 rfl (lv_at hl 0 rfl) ?_
            refine va_get (D := D) (ci := 4) (v := .ref (G 4)) (C := RX4) (T := TX4) (N := 5) hx hb ht inX4 hown hK hP 0 (rfl) rfl 2 (by decide) (ht _ kw1_177) (fun _ h9 => h9) rfl dX4_count_60 ?_
            refine va_getN (D := D) (ci := 0) (v := .int (nI F)) (C := RX0) (T := TX0) (N := 8) hx hb ht inX0 hown hK hP 6 (rfl) rfl 5 (by decide) (ht _ kw1_74) (fun _ h9 => h9) rfl dX4_count_63 ?_
            refine lv_aload_n hx hb dX4_count_66 rfl (lv_at hl 0 rfl) ?_
            refine va_get (D := D) (ci := 4) (v := .ref (G 4)) (C := RX4) (T := TX4) (N := 5) hx hb ht inX4 hown hK hP 0 (rfl) rfl 2 (by decide) (ht _ kw1_177) (fun _ h9 => h9) rfl dX4_count_67 ?_
            refine va_getN (D := D) (ci := 0) (v := .int (nI Gn)) (C := RX0) (T := TX0) (N := 8) hx hb ht inX0 hown hK hP 6 (rfl) rfl 6 (by decide) (ht _ kw1_76) (fun _ h9 => h9) rfl dX4_count_70 ?_
            refine lv_isub hx hb dX4_count_73 ?_
            refine vx_ret ?_
            refine W.widen (k := 3) (n := 18) (Nat.le_of_ble_eq_true rfl) (Nat.le_of_ble_eq_true rfl) ?_
            exact W.iret (v := (nI F) - (nI Gn)) hx hb hr (fun t ht2 hW => ⟨⟨(nI F) - (nI Gn), (), rfl, by
                  (try dsimp only)
                  unfold cntF; rw [if_neg hok, if_neg (fun q => q w20)]
                  first | (rw [if_neg c24, if_neg c39, if_neg c46]; exact Prod.ext rfl (pk_sub (by omega)).symm) | (rw [if_neg c24, if_neg c39, if_pos c46]; exact Prod.ext rfl (pk_sub (by omega)).symm) | (rw [if_neg c24, if_pos c39]) | (rw [if_pos c24, hth]), by (try dsimp only); rw [ht2]; exact hP⟩, hS.F ht2⟩) hS.2.2 dX4_count_74
          · refine lv_aload_n hx hb dX4_count_49 rfl (lv_at hl 0 rfl) ?_
            refine va_get (D := D) (ci := 4) (v := .ref (G 4)) (C := RX4) (T := TX4) (N := 5) hx hb ht inX4 hown hK hP 0 (rfl) rfl 2 (by decide) (ht _ kw1_177) (fun _ h9 => h9) rfl dX4_count_50 ?_
            refine va_getN (D := D) (ci := 0) (v := .int (nI rows.length)) (C := RX0) (T := TX0) (N := 8) hx hb ht inX0 hown hK hP 6 (rfl) rfl 3 (by decide) (ht _ kw1_70) (fun _ h9 => h9) rfl dX4_count_53 ?_
            refine lv_goto (tgt := 66) hx hb dX4_count_56 (by decide) ?_
            refine lv_aload_n hx hb dX4_count_66 rfl (lv_at hl 0 rfl) ?_
            refine va_get (D := D) (ci := 4) (v := .ref (G 4)) (C := RX4) (T := TX4) (N := 5) hx hb ht inX4 hown hK hP 0 (rfl) rfl 2 (by decide) (ht _ kw1_177) (fun _ h9 => h9) rfl dX4_count_67 ?_
            refine va_getN (D := D) (ci := 0) (v := .int (nI Gn)) (C := RX0) (T := TX0) (N := 8) hx hb ht inX0 hown hK hP 6 (rfl) rfl 6 (by decide) (ht _ kw1_76) (fun _ h9 => h9) rfl dX4_count_70 ?_
            refine lv_isub hx hb dX4_count_73 ?_
            refine vx_ret ?_
            refine W.widen (k := 3) (n := 18) (Nat.le_of_ble_eq_true rfl) (Nat.le_of_ble_eq_true rfl) ?_
            exact W.iret (v := (nI rows.length) - (nI Gn)) hx hb hr (fun t ht2 hW => ⟨⟨(nI rows.length) - (nI Gn), (), rfl, by
                  (try dsimp only)
                  unfold cntF; rw [if_neg hok, if_neg (fun q => q w20)]
                  first | (rw [if_neg c24, if_neg c39, if_neg c46]; exact Prod.ext rfl (pk_sub (by omega)).symm) | (rw [if_neg c24, if_neg c39, if_pos c46]; exact Prod.ext rfl (pk_sub (by omega)).symm) | (rw [if_neg c24, if_pos c39]) | (rw [if_pos c24, hth]), by (try dsimp only); rw [ht2]; exact hP⟩, hS.F ht2⟩) hS.2.2 dX4_count_74
        · refine lv_iconst (v := (-1)) hx hb dX4_count_42 (by decide) ?_
          refine vx_ret ?_
          refine W.widen (k := 3) (n := 18) (Nat.le_of_ble_eq_true rfl) (Nat.le_of_ble_eq_true rfl) ?_
          exact W.iret (v := (-1)) hx hb hr (fun t ht2 hW => ⟨⟨(-1), (), rfl, by
                (try dsimp only)
                unfold cntF; rw [if_neg hok, if_neg (fun q => q w20)]
                first | (rw [if_neg c24, if_neg c39, if_neg c46]; exact Prod.ext rfl (pk_sub (by omega)).symm) | (rw [if_neg c24, if_neg c39, if_pos c46]; exact Prod.ext rfl (pk_sub (by omega)).symm) | (rw [if_neg c24, if_pos c39]) | (rw [if_pos c24, hth]), by (try dsimp only); rw [ht2]; exact hP⟩, hS.F ht2⟩) hS.2.2 dX4_count_43
      · refine lv_aload_n hx hb dX4_count_27 rfl (lv_at hl 0 rfl) ?_
        refine va_get (D := D) (ci := 4) (v := .int th) (C := RX4) (T := TX4) (N := 5) hx hb ht inX4 hown hK hP 0 (rfl) rfl 4 (by decide) (ht _ kw1_179) (fun _ h9 => h9) rfl dX4_count_28 ?_
        refine vx_ret ?_
        refine W.widen (k := 3) (n := 18) (Nat.le_of_ble_eq_true rfl) (Nat.le_of_ble_eq_true rfl) ?_
        exact W.iret (v := th) hx hb hr (fun t ht2 hW => ⟨⟨th, (), rfl, by
              (try dsimp only)
              unfold cntF; rw [if_neg hok, if_neg (fun q => q w20)]
              first | (rw [if_neg c24, if_neg c39, if_neg c46]; exact Prod.ext rfl (pk_sub (by omega)).symm) | (rw [if_neg c24, if_neg c39, if_pos c46]; exact Prod.ext rfl (pk_sub (by omega)).symm) | (rw [if_neg c24, if_pos c39]) | (rw [if_pos c24, hth]), by (try dsimp only); rw [ht2]; exact hP⟩, hS.F ht2⟩) hS.2.2 dX4_count_31
    · have hbad : what < 0 ∨ 2 < what := Or.inr (Int32.not_le.mp c6)
      have hxo := fun (t : State) h1 h2 => xout (t := t) hP hS h1 h2
      exact vx_throwS (names := xNames) (is := 183) (text := "what is not 0, 1 or 2") (A := A) hx hb hl0 hown (by decide +kernel) xf_n (ht _ kw2_152) (ht _ kw1_18) (hTX.2.2 (183, "what is not 0, 1 or 2") (by decide)).choose_spec (fun w h => ht w (xt_108 w h)) xg_108 hTX.1 hTX.2.1 hS (hl.1.trans hml.symm) dX4_count_9 dX4_count_12 dX4_count_13 dX4_count_15 dX4_count_18 (fun x hx => (hnt x hx).elim) (Nat.le_of_ble_eq_true rfl) (Nat.le_of_ble_eq_true rfl) (Nat.le_of_ble_eq_true rfl) (Nat.le_of_ble_eq_true rfl) hlocks (fun t hvm h1 h2 => ⟨(), trivial, ⟨Or.inl ⟨rfl, if_pos hbad⟩, (hxo t h1 h2).1⟩, (hxo t h1 h2).2⟩) hS.2.2 (Nat.le_of_ble_eq_true rfl) (Nat.le_of_ble_eq_true rfl)

set_option maxHeartbeats 4000000 in
set_option maxRecDepth 100000 in
theorem c_X4_fail (l : Launch) (hl0 : l.stackTraces = false) (D : va_G) (cI cZ cS cJ : ClassId) (sz : Nat) (G SA : Nat → Nat) (sf : Nat → Option Nat) (hsf : ∀ n, n < 8 → sf n = some (SA n)) (pa no : Nat) (pts rf rg : Nat → Int32) (RL : List (Int32 × Int32)) (pk ps pt L : Nat) (p1 p2 p3 : Nat → Int32) (op off left wr rc th : Int32) (Z : Nat → ST) (mm : Nat → Nat) (rows : List (Int32 × Nat × Nat)) (F Gn : Nat) (C : Bool) (hci : CI mm RL pts rf rg rows L p1 p2 p3 F Gn Z) (n : Int32) : vx_Met l yX4_fail (Cond.code yX4_fail cX4_fail 2 none :: TB) ({ frames := 7, cells := 3, slots := 18, locals := 110 } : Room) (va_Pc [.ref (G 0), .int n] (PX D (KT cI cZ cS cJ) (cW cI cS G SA sf pa no pts rf rg (nI RL.length) pk ps pt L p1 p2 p3 (nI rows.length) op (nI F) (nI Gn) (cB C) off left wr rc th Z) sz)) (va_Qv (fun (u : CT) => failF off left wr rc (stZ Z) mm op rows F Gn C n = (0, sgu u) ∧ CIu u ∧ thu u = th) (fun (u : CT) t => va_P D vwCl (cWu cI cS G SA sf u) t.heap ∧ va_D (va_A (cW cI cS G SA sf pa no pts rf rg (nI RL.length) pk ps pt L p1 p2 p3 (nI rows.length) op (nI F) (nI Gn) (cB C) off left wr rc th Z) sz) (cWu cI cS G SA sf u)) (va_A (cW cI cS G SA sf pa no pts rf rg (nI RL.length) pk ps pt L p1 p2 p3 (nI rows.length) op (nI F) (nI Gn) (cB C) off left wr rc th Z) sz)) (vx_X (fun (_ : Unit) => True) (fun E (_ : Unit) t => (fun E => (E = cIAE ∧ (failF off left wr rc (stZ Z) mm op rows F Gn C n).1 = 1) ∨ (E = cISE ∧ (failF off left wr rc (stZ Z) mm op rows F Gn C n).1 = 2)) E ∧ va_P D vwCl (cW cI cS G SA sf pa no pts rf rg (nI RL.length) pk ps pt L p1 p2 p3 (nI rows.length) op (nI F) (nI Gn) (cB C) off left wr rc th Z) t.heap) (va_A (cW cI cS G SA sf pa no pts rf rg (nI RL.length) pk ps pt L p1 p2 p3 (nI rows.length) op (nI F) (nI Gn) (cB C) off left wr rc th Z) sz)) 3 18 (va_A (cW cI cS G SA sf pa no pts rf rg (nI RL.length) pk ps pt L p1 p2 p3 (nI rows.length) op (nI F) (nI Gn) (cB C) off left wr rc th Z) sz) := by
  refine vx_ofW (cc := cX4_fail) (maxL := 2) (ret := none) (by decide) rfl ?_
  intro p e s m args below meth c s₁ B hml hnt hv
  obtain ⟨rfl, ⟨hsz, hP, hK, hD0⟩, hTX⟩ := hv
  have hx := B.exec
  have hb := B.bytes
  have hr := B.returns
  have hts := atoms_spec (ws := (Cond.code yX4_fail cX4_fail 2 none :: TB)) B.pre
  have ht : ∀ w ∈ TB, w.before _ s = true := fun w h => hts w (List.mem_cons_of_mem _ h)
  have hown : s.vm.findClass RX4 = some m.cls := findClass_of_methodNamed B.named
  have hlocks := B.notSynchronized
  subst hsz
  have hD := hD0.self (sz := s.heap.size)
  generalize hAe : va_A (cW cI cS G SA sf pa no pts rf rg (nI RL.length) pk ps pt L p1 p2 p3 (nI rows.length) op (nI F) (nI Gn) (cB C) off left wr rc th Z) s.heap.size = A at hD hTX ⊢
  have hA : ∀ q : Nat, s.heap.size ≤ q → A q := fun q h => by rw [← hAe]; exact Or.inr h
  have hS : va_S A s.heap s.heap [] := va_S.rf
  have hP : va_P D vwCl (cW cI cS G SA sf pa no pts rf rg (nI RL.length) pk ps pt L p1 p2 p3 (nI rows.length) op (nI F) (nI Gn) (cB C) off left wr rc th Z) s.heap := hP
  have hl := lv_entry ([.ref (G 0), .int n]) (n := 2) (Nat.le_of_ble_eq_true rfl)
  rw [lg_entry_eq]
  generalize (lg_sl ([.ref (G 0), .int n]) ++ List.replicate (2 - (lg_sl ([.ref (G 0), .int n])).length) Slot.unset).toArray = ls at hl ⊢
  have hl : lv_has ls 2 [(0, .ref (G 0)), (1, .int n)] := hl
  obtain ⟨⟨hrr, hrg, h16, hM⟩, ⟨hpr, h32, hrl, hF9, hG9, hsr, hp8⟩, hzs⟩ := id hci
  refine lv_iload_n hx hb dX4_fail_0 rfl (lv_at hl 1 rfl) ?_
  refine lv_iconst (v := (-1)) hx hb dX4_fail_1 (by decide) ?_
  refine lv_icmp_ge (tgt := 15) hx hb dX4_fail_2 (by decide) (fun c2 => ?_) (fun c2 => ?_)
  · have hn1 : ¬ n < -1 := Int32.not_lt.mpr c2
    refine lv_aload_n hx hb dX4_fail_15 rfl (lv_at hl 0 rfl) ?_
    have hPc := hP.sub (ws' := [((G 0), .inr (4, [.ref (G 1), .ref (G 3), .ref (G 4), .ref (G 5), .int th])), ((G 5), .inr (1, [.int off, .int left, .int wr, .int rc]))]) [0, 10] rfl
    have hDc := hD.sub (ws' := [((G 0), .inr (4, [.ref (G 1), .ref (G 3), .ref (G 4), .ref (G 5), .int th])), ((G 5), .inr (1, [.int off, .int left, .int wr, .int rc]))]) [0, 10] (by decide) rfl
    have hFc := va_free (wc := [((G 0), .inr (4, [.ref (G 1), .ref (G 3), .ref (G 4), .ref (G 5), .int th])), ((G 5), .inr (1, [.int off, .int left, .int wr, .int rc]))]) hD hS hA [0, 10] rfl
    refine vx_callv (vx_runV (As := []) (rest := []) ⟨hx, hb, hml, hown, ht⟩ (c_X4_needPower l hl0 D cI cZ cS cJ s.heap.size G off left wr rc th) (xwV 0 ht kw1_218 kw1_215 kw1_1 kw1_217 kwS_1 rfl rfl (by decide +kernel) ⟨Nat.le_of_ble_eq_true rfl, Nat.le_of_ble_eq_true rfl⟩) ⟨PX.blind, va_recv hK hPc (ci := 4) (q0 := 0) rfl rfl, fun U hU hW => PX.mk hU hW hPc hK hDc hS hFc hTX⟩ rfl rfl hl.1 rfl (lv_room (Nat.le_of_ble_eq_true rfl)) dX4_fail_16 ⟨Nat.le_of_ble_eq_true rfl, Nat.le_of_ble_eq_true rfl⟩) hS (fun q _ h => hFc q h) hFc (fun q _ h => hFc q h) (fun E ce q9 u t9 H1 locs ht1 hvm _ hBX hz1 hk1 hS hce hcv hcl => ?_) (fun u16 t16 H1 locs ht1 hvm w16 hB hz1 hk1 hS => ?_)
    · obtain ⟨hXE, hBX⟩ := hBX
      rw [ht1] at hBX
      have hP := wk_ro hP hD [0, 10] rfl hk1 hBX
      exact vx_out (fun x hx => (hnt x hx).elim) hlocks hce hcv hcl (fun t ht9 _ => ⟨(), trivial, ⟨Or.inr ⟨hXE.1, by unfold failF; rw [if_neg hn1, if_pos hXE.2]⟩, by rw [ht9]; exact hP⟩, hS.F ht9⟩) hS.2.2 (Nat.le_of_ble_eq_true rfl) (Nat.le_of_ble_eq_true rfl)
    try dsimp only at w16 hB
    rw [ht1] at hB
    have hP := wk_ro hP hD [0, 10] rfl hk1 hB
    generalize H1 = H at hP hS ⊢
    refine lv_aload_n hx hb dX4_fail_19 rfl (lv_at hl 0 rfl) ?_
    refine va_get (D := D) (ci := 4) (v := .ref (G 5)) (C := RX4) (T := TX4) (N := 5) hx hb ht inX4 hown hK hP 0 (rfl) rfl 3 (by decide) (ht _ kw1_178) (fun _ h9 => h9) rfl dX4_fail_20 ?_
    refine lv_iload_n hx hb dX4_fail_23 rfl (lv_at hl 1 rfl) ?_
    refine va_putN (D := D) (ci := 1) (v := .int n) (ty := .int) (C := RX1) (T := TX1) (N := 4) hx hb ht inX1 tyX1 tyX1_ok nmX1 hown hK hP hD hS 10 rfl rfl 1 (by decide) (ht _ kw1_105) (fun _ h9 => h9) rfl (by decide +kernel) (rfl) rfl (Nat.le_of_ble_eq_true rfl) dX4_fail_24 (fun H locs hP hD hS => ?_)
    have hP : va_P D vwCl (cW cI cS G SA sf pa no pts rf rg (nI RL.length) pk ps pt L p1 p2 p3 (nI rows.length) op (nI F) (nI Gn) (cB C) off n wr rc th Z) H := hP
    have hD : va_D A (cW cI cS G SA sf pa no pts rf rg (nI RL.length) pk ps pt L p1 p2 p3 (nI rows.length) op (nI F) (nI Gn) (cB C) off n wr rc th Z) := hD
    refine vx_ret ?_
    refine W.widen (k := 3) (n := 18) (Nat.le_of_ble_eq_true rfl) (Nat.le_of_ble_eq_true rfl) ?_
    exact W.vret hx hb hr (fun t ht2 hW => ⟨⟨(pa, no, pts, rf, rg, RL, pk, ps, pt, L, p1, p2, p3, op, off, n, wr, rc, th, Z, mm, rows, F, Gn, C), rfl, ⟨by unfold failF; rw [if_neg hn1, if_neg (fun q => q w16)]; rfl, hci, rfl⟩, ⟨by (try dsimp only); rw [ht2]; exact hP, by exact hD⟩⟩, hS.F ht2⟩) hS.2.2 dX4_fail_27
  · have hn1 : n < -1 := Int32.not_le.mp c2
    have hxo := fun (t : State) h1 h2 => xout (t := t) hP hS h1 h2
    exact vx_throwS (names := xNames) (is := 151) (text := "n is below -1") (A := A) hx hb hl0 hown (by decide +kernel) xf_n (ht _ kw2_152) (ht _ kw1_18) (hTX.2.2 (151, "n is below -1") (by decide)).choose_spec (fun w h => ht w (xt_108 w h)) xg_108 hTX.1 hTX.2.1 hS (hl.1.trans hml.symm) dX4_fail_5 dX4_fail_8 dX4_fail_9 dX4_fail_11 dX4_fail_14 (fun x hx => (hnt x hx).elim) (Nat.le_of_ble_eq_true rfl) (Nat.le_of_ble_eq_true rfl) (Nat.le_of_ble_eq_true rfl) (Nat.le_of_ble_eq_true rfl) hlocks (fun t hvm h1 h2 => ⟨(), trivial, ⟨Or.inl ⟨rfl, by unfold failF; rw [if_pos hn1]⟩, (hxo t h1 h2).1⟩, (hxo t h1 h2).2⟩) hS.2.2 (Nat.le_of_ble_eq_true rfl) (Nat.le_of_ble_eq_true rfl)

set_option maxHeartbeats 4000000 in
set_option maxRecDepth 100000 in
theorem c_X4_recover (l : Launch) (hl0 : l.stackTraces = false) (D : va_G) (cI cZ cS cJ : ClassId) (sz : Nat) (G SA : Nat → Nat) (sf : Nat → Option Nat) (hsf : ∀ n, n < 8 → sf n = some (SA n)) (pa no : Nat) (pts rf rg : Nat → Int32) (RL : List (Int32 × Int32)) (pk ps pt L : Nat) (p1 p2 p3 : Nat → Int32) (op off left wr rc th : Int32) (Z : Nat → ST) (mm : Nat → Nat) (rows : List (Int32 × Nat × Nat)) (F Gn : Nat) (C : Bool) (hci : CI mm RL pts rf rg rows L p1 p2 p3 F Gn Z) (hF : F ≤ rows.length) : vx_Met l yX4_recover (Cond.code yX4_recover cX4_recover 1 (some .int) :: TB) ({ frames := 6, cells := 3, slots := 18, locals := 90 } : Room) (va_Pc [.ref (G 0)] (PX D (KT cI cZ cS cJ) (cW cI cS G SA sf pa no pts rf rg (nI RL.length) pk ps pt L p1 p2 p3 (nI rows.length) op (nI F) (nI Gn) (cB C) off left wr rc th Z) sz)) (va_Qi (fun r (u : CT) => recF off left wr rc (stZ Z) mm op rows F Gn C = (0, r, sgu u) ∧ CIu u ∧ thu u = th) (fun (u : CT) t => va_P D vwCl (cWu cI cS G SA sf u) t.heap ∧ va_D (va_A (cW cI cS G SA sf pa no pts rf rg (nI RL.length) pk ps pt L p1 p2 p3 (nI rows.length) op (nI F) (nI Gn) (cB C) off left wr rc th Z) sz) (cWu cI cS G SA sf u)) (va_A (cW cI cS G SA sf pa no pts rf rg (nI RL.length) pk ps pt L p1 p2 p3 (nI rows.length) op (nI F) (nI Gn) (cB C) off left wr rc th Z) sz)) (vx_X (fun (_ : Unit) => True) (fun E (_ : Unit) t => (fun E => E = cISE ∧ (recF off left wr rc (stZ Z) mm op rows F Gn C).1 = 1) E ∧ va_P D vwCl (cW cI cS G SA sf pa no pts rf rg (nI RL.length) pk ps pt L p1 p2 p3 (nI rows.length) op (nI F) (nI Gn) (cB C) off left wr rc th Z) t.heap) (va_A (cW cI cS G SA sf pa no pts rf rg (nI RL.length) pk ps pt L p1 p2 p3 (nI rows.length) op (nI F) (nI Gn) (cB C) off left wr rc th Z) sz)) 3 18 (va_A (cW cI cS G SA sf pa no pts rf rg (nI RL.length) pk ps pt L p1 p2 p3 (nI rows.length) op (nI F) (nI Gn) (cB C) off left wr rc th Z) sz) := by
  refine vx_ofW (cc := cX4_recover) (maxL := 1) (ret := (some .int)) (by decide) rfl ?_
  intro p e s m args below meth c s₁ B hml hnt hv
  obtain ⟨rfl, ⟨hsz, hP, hK, hD0⟩, hTX⟩ := hv
  have hx := B.exec
  have hb := B.bytes
  have hr := B.returns
  have hts := atoms_spec (ws := (Cond.code yX4_recover cX4_recover 1 (some .int) :: TB)) B.pre
  have ht : ∀ w ∈ TB, w.before _ s = true := fun w h => hts w (List.mem_cons_of_mem _ h)
  have hown : s.vm.findClass RX4 = some m.cls := findClass_of_methodNamed B.named
  have hlocks := B.notSynchronized
  subst hsz
  have hD := hD0.self (sz := s.heap.size)
  generalize hAe : va_A (cW cI cS G SA sf pa no pts rf rg (nI RL.length) pk ps pt L p1 p2 p3 (nI rows.length) op (nI F) (nI Gn) (cB C) off left wr rc th Z) s.heap.size = A at hD hTX ⊢
  have hA : ∀ q : Nat, s.heap.size ≤ q → A q := fun q h => by rw [← hAe]; exact Or.inr h
  have hS : va_S A s.heap s.heap [] := va_S.rf
  have hP : va_P D vwCl (cW cI cS G SA sf pa no pts rf rg (nI RL.length) pk ps pt L p1 p2 p3 (nI rows.length) op (nI F) (nI Gn) (cB C) off left wr rc th Z) s.heap := hP
  have hl := lv_entry ([.ref (G 0)]) (n := 1) (Nat.le_of_ble_eq_true rfl)
  rw [lg_entry_eq]
  generalize (lg_sl ([.ref (G 0)]) ++ List.replicate (1 - (lg_sl ([.ref (G 0)])).length) Slot.unset).toArray = ls at hl ⊢
  have hl : lv_has ls 1 [(0, .ref (G 0))] := hl
  obtain ⟨⟨hrr, hrg, h16, hM⟩, ⟨hpr, h32, hrl, hF9, hG9, hsr, hp8⟩, hzs⟩ := id hci
  refine lv_aload_n hx hb dX4_recover_0 rfl (lv_at hl 0 rfl) ?_
  refine va_get (D := D) (ci := 4) (v := .ref (G 5)) (C := RX4) (T := TX4) (N := 5) hx hb ht inX4 hown hK hP 0 (rfl) rfl 3 (by decide) (ht _ kw1_178) (fun _ h9 => h9) rfl dX4_recover_1 ?_
  refine va_getN (D := D) (ci := 1) (v := .int off) (C := RX1) (T := TX1) (N := 4) hx hb ht inX1 hown hK hP 10 (rfl) rfl 0 (by decide) (ht _ kw1_103) (fun _ h9 => h9) rfl dX4_recover_4 ?_
  refine lv_if_ne (tgt := 20) hx hb dX4_recover_7 (by decide) (fun c7 => ?_) (fun c7 => ?_)
  · refine lv_aload_n hx hb dX4_recover_20 rfl (lv_at hl 0 rfl) ?_
    refine va_get (D := D) (ci := 4) (v := .ref (G 5)) (C := RX4) (T := TX4) (N := 5) hx hb ht inX4 hown hK hP 0 (rfl) rfl 3 (by decide) (ht _ kw1_178) (fun _ h9 => h9) rfl dX4_recover_21 ?_
    refine lv_iconst (v := 0) hx hb dX4_recover_24 (by decide) ?_
    refine va_putN (D := D) (ci := 1) (v := .int 0) (ty := .boolean) (C := RX1) (T := TX1) (N := 4) hx hb ht inX1 tyX1 tyX1_ok nmX1 hown hK hP hD hS 10 rfl rfl 0 (by decide) (ht _ kw1_103) (fun _ h9 => h9) rfl (by decide +kernel) (by decide +kernel) rfl (Nat.le_of_ble_eq_true rfl) dX4_recover_25 (fun H locs hP hD hS => ?_)
    have hP : va_P D vwCl (cW cI cS G SA sf pa no pts rf rg (nI RL.length) pk ps pt L p1 p2 p3 (nI rows.length) op (nI F) (nI Gn) (cB C) 0 left wr rc th Z) H := hP
    have hD : va_D A (cW cI cS G SA sf pa no pts rf rg (nI RL.length) pk ps pt L p1 p2 p3 (nI rows.length) op (nI F) (nI Gn) (cB C) 0 left wr rc th Z) := hD
    refine lv_aload_n hx hb dX4_recover_28 rfl (lv_at hl 0 rfl) ?_
    refine va_get (D := D) (ci := 4) (v := .ref (G 5)) (C := RX4) (T := TX4) (N := 5) hx hb ht inX4 hown hK hP 0 (rfl) rfl 3 (by decide) (ht _ kw1_178) (fun _ h9 => h9) rfl dX4_recover_29 ?_
    refine lv_iconst (v := (-1)) hx hb dX4_recover_32 (by decide) ?_
    refine va_putN (D := D) (ci := 1) (v := .int (-1)) (ty := .int) (C := RX1) (T := TX1) (N := 4) hx hb ht inX1 tyX1 tyX1_ok nmX1 hown hK hP hD hS 10 rfl rfl 1 (by decide) (ht _ kw1_105) (fun _ h9 => h9) rfl (by decide +kernel) (rfl) rfl (Nat.le_of_ble_eq_true rfl) dX4_recover_33 (fun H locs hP hD hS => ?_)
    have hP : va_P D vwCl (cW cI cS G SA sf pa no pts rf rg (nI RL.length) pk ps pt L p1 p2 p3 (nI rows.length) op (nI F) (nI Gn) (cB C) 0 (-1) wr rc th Z) H := hP
    have hD : va_D A (cW cI cS G SA sf pa no pts rf rg (nI RL.length) pk ps pt L p1 p2 p3 (nI rows.length) op (nI F) (nI Gn) (cB C) 0 (-1) wr rc th Z) := hD
    refine lv_aload_n hx hb dX4_recover_36 rfl (lv_at hl 0 rfl) ?_
    refine va_get (D := D) (ci := 4) (v := .ref (G 4)) (C := RX4) (T := TX4) (N := 5) hx hb ht inX4 hown hK hP 0 (rfl) rfl 2 (by decide) (ht _ kw1_177) (fun _ h9 => h9) rfl dX4_recover_37 ?_
    have hPc := hP.sub (ws' := [((G 4), .inr (0, [.ref pk, .ref ps, .ref pt, .int (nI rows.length), .int op, .int (nI F), .int (nI Gn), .int (cB C)])), (pk, .inl (cI, L, .inl p1)), (ps, .inl (cI, L, .inl p2)), (pt, .inl (cI, L, .inl p3))]) [6, 7, 8, 9] rfl
    have hDc := hD.sub (ws' := [((G 4), .inr (0, [.ref pk, .ref ps, .ref pt, .int (nI rows.length), .int op, .int (nI F), .int (nI Gn), .int (cB C)])), (pk, .inl (cI, L, .inl p1)), (ps, .inl (cI, L, .inl p2)), (pt, .inl (cI, L, .inl p3))]) [6, 7, 8, 9] (by decide) rfl
    have hFc := va_free (wc := [((G 4), .inr (0, [.ref pk, .ref ps, .ref pt, .int (nI rows.length), .int op, .int (nI F), .int (nI Gn), .int (cB C)])), (pk, .inl (cI, L, .inl p1)), (ps, .inl (cI, L, .inl p2)), (pt, .inl (cI, L, .inl p3))]) hD hS hA [6, 7, 8, 9] rfl
    refine va_callv (va_runVN (As := []) (rest := []) ⟨hx, hb, hml, hown, ht⟩ (c_X0_forgetUnwritten l D cI cZ cS cJ H.size (G 4) pk ps pt L p1 p2 p3 op rows F Gn C hpr hrl hF9 hG9) ⟨xwN 0 ht kw2_226 kw3_3 kw1_4 rfl rfl (by decide +kernel) ⟨Nat.le_of_ble_eq_true rfl, Nat.le_of_ble_eq_true rfl⟩, ht _ kw2_225, ht _ kwS_22⟩ ⟨PB.blind, va_recv hK hPc (ci := 0) (q0 := 0) rfl rfl, fun U hU hW => PB.mk hU hW hPc hK hDc⟩ rfl rfl hl.1 rfl (lv_room (Nat.le_of_ble_eq_true rfl)) dX4_recover_40 ⟨Nat.le_of_ble_eq_true rfl, Nat.le_of_ble_eq_true rfl⟩) hS (fun q _ h => hFc q h) hFc (fun u40 t40 H1 locs ht1 hvm w40 hB hz1 hk1 hS => ?_)
    try dsimp only at w40 hB
    obtain ⟨hP1, hD1⟩ := hB
    rw [ht1] at hP1
    obtain ⟨hP, hD⟩ := wk_join (w1 := [((G 4), .inr (0, [.ref pk, .ref ps, .ref pt, .int (nI rows.length), .int op, .int (nI F), .int 0, .int 0])), (pk, .inl (cI, L, .inl p1)), (ps, .inl (cI, L, .inl p2)), (pt, .inl (cI, L, .inl p3))]) hP hD [6, 7, 8, 9] rfl (by decide) rfl hk1 hFc hP1 hD1
    generalize H1 = H at hP hS ⊢
    have hP : va_P D vwCl (cW cI cS G SA sf pa no pts rf rg (nI RL.length) pk ps pt L p1 p2 p3 (nI rows.length) op (nI F) 0 0 0 (-1) wr rc th Z) H := hP
    have hD : va_D A (cW cI cS G SA sf pa no pts rf rg (nI RL.length) pk ps pt L p1 p2 p3 (nI rows.length) op (nI F) 0 0 0 (-1) wr rc th Z) := hD
    refine lv_aload_n hx hb dX4_recover_43 rfl (lv_at hl 0 rfl) ?_
    refine va_get (D := D) (ci := 4) (v := .ref (G 4)) (C := RX4) (T := TX4) (N := 5) hx hb ht inX4 hown hK hP 0 (rfl) rfl 2 (by decide) (ht _ kw1_177) (fun _ h9 => h9) rfl dX4_recover_44 ?_
    refine va_getN (D := D) (ci := 0) (v := .int op) (C := RX0) (T := TX0) (N := 8) hx hb ht inX0 hown hK hP 6 (rfl) rfl 4 (by decide) (ht _ kw1_72) (fun _ h9 => h9) rfl dX4_recover_47 ?_
    refine lv_if_eq (tgt := 71) hx hb dX4_recover_50 (by decide) (fun c50 => ?_) (fun c50 => ?_)
    · refine lv_iconst (v := (-1)) hx hb dX4_recover_71 (by decide) ?_
      refine vx_ret ?_
      refine W.widen (k := 3) (n := 18) (Nat.le_of_ble_eq_true rfl) (Nat.le_of_ble_eq_true rfl) ?_
      exact W.iret (v := (-1)) hx hb hr (fun t ht2 hW => ⟨⟨(-1), (pa, no, pts, rf, rg, RL, pk, ps, pt, L, p1, p2, p3, op, 0, (-1), wr, rc, th, Z, mm, rows, F, 0, false), rfl, by
            (try dsimp only)
            refine ⟨?_, ⟨hci.1, ⟨hpr, h32, hrl, hF9, Nat.zero_le _, hsr, hp8⟩, hzs⟩, rfl⟩
            unfold recF; rw [if_neg c7]
            first | (rw [if_pos c50]; rfl) | (rw [if_neg c50, ← pk_sub hF]; rfl), ⟨by (try dsimp only); rw [ht2]; exact hP, by exact hD⟩⟩, hS.F ht2⟩) hS.2.2 dX4_recover_72
    · refine lv_aload_n hx hb dX4_recover_53 rfl (lv_at hl 0 rfl) ?_
      refine va_get (D := D) (ci := 4) (v := .ref (G 4)) (C := RX4) (T := TX4) (N := 5) hx hb ht inX4 hown hK hP 0 (rfl) rfl 2 (by decide) (ht _ kw1_177) (fun _ h9 => h9) rfl dX4_recover_54 ?_
      refine va_getN (D := D) (ci := 0) (v := .int (nI rows.length)) (C := RX0) (T := TX0) (N := 8) hx hb ht inX0 hown hK hP 6 (rfl) rfl 3 (by decide) (ht _ kw1_70) (fun _ h9 => h9) rfl dX4_recover_57 ?_
      refine lv_aload_n hx hb dX4_recover_60 rfl (lv_at hl 0 rfl) ?_
      refine va_get (D := D) (ci := 4) (v := .ref (G 4)) (C := RX4) (T := TX4) (N := 5) hx hb ht inX4 hown hK hP 0 (rfl) rfl 2 (by decide) (ht _ kw1_177) (fun _ h9 => h9) rfl dX4_recover_61 ?_
      refine va_getN (D := D) (ci := 0) (v := .int (nI F)) (C := RX0) (T := TX0) (N := 8) hx hb ht inX0 hown hK hP 6 (rfl) rfl 5 (by decide) (ht _ kw1_74) (fun _ h9 => h9) rfl dX4_recover_64 ?_
      refine lv_isub hx hb dX4_recover_67 ?_
      refine lv_goto (tgt := 72) hx hb dX4_recover_68 (by decide) ?_
      refine vx_ret ?_
      refine W.widen (k := 3) (n := 18) (Nat.le_of_ble_eq_true rfl) (Nat.le_of_ble_eq_true rfl) ?_
      exact W.iret (v := (nI rows.length) - (nI F)) hx hb hr (fun t ht2 hW => ⟨⟨(nI rows.length) - (nI F), (pa, no, pts, rf, rg, RL, pk, ps, pt, L, p1, p2, p3, op, 0, (-1), wr, rc, th, Z, mm, rows, F, 0, false), rfl, by
            (try dsimp only)
            refine ⟨?_, ⟨hci.1, ⟨hpr, h32, hrl, hF9, Nat.zero_le _, hsr, hp8⟩, hzs⟩, rfl⟩
            unfold recF; rw [if_neg c7]
            first | (rw [if_pos c50]; rfl) | (rw [if_neg c50, ← pk_sub hF]; rfl), ⟨by (try dsimp only); rw [ht2]; exact hP, by exact hD⟩⟩, hS.F ht2⟩) hS.2.2 dX4_recover_72
  · have hxo := fun (t : State) h1 h2 => xout (t := t) hP hS h1 h2
    exact vx_throwS (names := xNames) (is := 159) (text := "the power is on") (A := A) hx hb hl0 hown (by decide +kernel) xf_n (ht _ kw1_219) (ht _ kw1_15) (hTX.2.2 (159, "the power is on") (by decide)).choose_spec (fun w h => ht w (xt_72 w h)) xg_72 hTX.1 hTX.2.1 hS (hl.1.trans hml.symm) dX4_recover_10 dX4_recover_13 dX4_recover_14 dX4_recover_16 dX4_recover_19 (fun x hx => (hnt x hx).elim) (Nat.le_of_ble_eq_true rfl) (Nat.le_of_ble_eq_true rfl) (Nat.le_of_ble_eq_true rfl) (Nat.le_of_ble_eq_true rfl) hlocks (fun t hvm h1 h2 => ⟨(), trivial, ⟨⟨rfl, by unfold recF; rw [if_pos c7]⟩, (hxo t h1 h2).1⟩, (hxo t h1 h2).2⟩) hS.2.2 (Nat.le_of_ble_eq_true rfl) (Nat.le_of_ble_eq_true rfl)
