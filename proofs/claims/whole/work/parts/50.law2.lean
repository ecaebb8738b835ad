-- the law: its cases, second part
set_option maxHeartbeats 4000000 in
set_option maxRecDepth 100000 in
theorem law_off {p : Program} {l : Launch} {e : Env} {s : State} {m : MethodId} {below : List Frame} {meth : Method} {c : Code} {b L : Nat} {xs : Nat → Int32} {D : va_G} {cI cZ cS cJ : ClassId} {G SA M : Nat → Nat} {sf : Nat → Option Nat} {o : Nat} {A : Nat → Prop} (hl0 : l.stackTraces = false) (C9 : LA p s m c b L xs D cI cZ cS cJ SA sf A) {N kc nc i : Nat} {u : CT} {v : MT} {fo : Nat → Int64} {H : Heap} {locs : List Loc} {ls : Array Slot} {Q : State → Prop} (hI : LSt s D cI cZ cS cJ G SA sf M o A N u v fo H locs) (hN : N ≤ 511) (hi : i + 2 < L) (hkc : kc + 80 ≤ 601024) (hnc : nc + 8400 ≤ 7293000) (hl : lv_has ls 8 [(4, .int (nI i)), (3, .ref o), (2, .ref (M 0)), (1, .ref (G 0)), (0, .ref b)]) (K : ∀ (u1 : CT) (v1 : MT) (f1 : Nat → Int64) (H1 : Heap) (locs1 : List Loc) (ls1 : Array Slot), LSt s D cI cZ cS cJ G SA sf M o A (N + 1) u1 v1 f1 H1 locs1 → lv_has ls1 8 [(4, .int (nI i)), (3, .ref o), (2, .ref (M 0)), (1, .ref (G 0)), (0, .ref b)] → W p l e room_1 s m #[Value.ref b] below meth c H1 locs1 (kc + 80) (nc + 8400) Q (F0 m 1225 ls1 [])) : W p l e room_1 s m #[Value.ref b] below meth c H locs kc nc Q (F0 m 580 ls []) := by
  obtain ⟨hx, hb, hml, hown, ht, hX, hbl, hK, hTX, hNC, hsf, hLb, hAe⟩ := id C9
  have hA : ∀ q : Nat, s.heap.size ≤ q → A q := fun q h => by rw [hAe]; exact h
  have hbA : ¬ A b := by rw [hAe]; exact Nat.not_le.mpr hbl
  obtain ⟨hP, hD, hS, hrep, hciu, hai, hthu⟩ := hI
  obtain ⟨pa, no, pts, rf, rg, RL, pk, ps, pt, L9, p1, p2, p3, op, off, left, wr, rc, th, Z, mm, rows, F, Gn, C⟩ := u
  obtain ⟨mc0, moff, mleft, mwr, mrc, mem, oth, ks, vs, sx, mpl, mps, mpk, msr, mtg, mfl, mxs⟩ := v
  obtain ⟨e1, e2, e3, e4, e5, hRS, hmem, hRP⟩ : moff = off ∧ mleft = left ∧ mwr = wr ∧ mrc = rc ∧ mpl = op ∧ RS (stZ Z) ks vs sx ∧ (∀ n, n < 8 → mem n = nI (mm n)) ∧ RP rows F Gn C mps mpk msr mtg mfl mxs := hrep
  have e1 := e1.symm
  subst e1
  have e2 := e2.symm
  subst e2
  have e3 := e3.symm
  subst e3
  have e4 := e4.symm
  subst e4
  have e5 := e5.symm
  subst e5
  have hci : CI mm RL pts rf rg rows L9 p1 p2 p3 F Gn Z := hciu
  have hAX : AX N off (stZ Z) mm op rows F Gn C := hai
  obtain ⟨ho1, hp01, hSL, hM9, ⟨⟨hsr9, hp89, hrl9, hFl9, hGF9⟩, hCF9, hpl09, hrow9⟩, hLOC9, hAGR9, hth9⟩ := id hAX
  have hthv : th = nI (thF (stZ Z) (homeF mm rows F)) := hthu
  have hplr : op = 1 ∨ (op = 0 ∧ rows = []) := hp01.elim (fun q => Or.inr ⟨q, hpl09 q⟩) Or.inl
  have hlen9 : ∀ n, n < 8 → ((stZ Z) n).length < 999 := fun n hn => Nat.lt_of_le_of_lt (hSL n hn).2 (by omega)
  have hlen9k : ∀ n, n < 8 → ((stZ Z) n).length < 1000 := fun n hn => Nat.lt_trans (hlen9 n hn) (by decide)
  have hss9 : ∀ n, n < 8 → Srt ((stZ Z) n) := fun n hn => (hSL n hn).1
  have hpl9 : op = 0 → rows = [] ∧ F = 0 ∧ Gn = 0 ∧ C = false := fun q => by subst q; exact hAX.emp
  have hv9 : op = 0 → OW (stZ Z) (ownK mm) := fun q => by subst q; exact hAX.ow
  have h2569 : op = 0 → ∀ mo, (plUp (stZ Z) (ownK mo) 8).length ≤ 256 := fun q => by subst q; exact hAX.h256
  have hP : va_P D vwCl ((cW cI cS G SA sf pa no pts rf rg (nI RL.length) pk ps pt L9 p1 p2 p3 (nI rows.length) op (nI F) (nI Gn) (cB C) off left wr rc th Z ++ [(o, .inl (cJ, 1, .inr (.inl fo)))]) ++ (mW cI cZ M mc0 off left wr rc mem oth ks vs sx op mps mpk msr mtg mfl mxs)) H := hP
  have hD : va_D A ((cW cI cS G SA sf pa no pts rf rg (nI RL.length) pk ps pt L9 p1 p2 p3 (nI rows.length) op (nI F) (nI Gn) (cB C) off left wr rc th Z ++ [(o, .inl (cJ, 1, .inr (.inl fo)))]) ++ (mW cI cZ M mc0 off left wr rc mem oth ks vs sx op mps mpk msr mtg mfl mxs)) := hD
  refine lv_aload_n hx hb dL_law_580 rfl (lv_at hl 3 rfl) ?_
  have hPc := pp_l (pp_l hP)
  have hDc := pd_l (pd_l hD)
  have hFc := wfree hDc hS hA
  refine va_calli (va_runV (As := []) (rest := []) ⟨hx, hb, hml, hown, ht⟩ (c_X4_off l D cI cZ cS cJ H.size G SA sf hsf pa no pts rf rg RL pk ps pt L9 p1 p2 p3 op off left wr rc th Z mm rows F Gn C hci ho1) (xwV 0 ht kw1_194 kw1_191 kw1_1 kw1_192 kw1_193 rfl rfl (by decide +kernel) ⟨Nat.le_of_ble_eq_true rfl, Nat.le_of_ble_eq_true rfl⟩) ⟨PB.blind, va_recv hK hPc (ci := 4) (q0 := 0) rfl rfl, fun U hU hW => PB.mk hU hW hPc hK hDc⟩ rfl rfl hl.1 rfl (lv_room (Nat.le_of_ble_eq_true rfl)) dL_law_581 ⟨by show kc + _ ≤ 601024; omega, by show nc + _ ≤ 7293000; omega⟩) hS (fun q _ h => hFc q h) hFc (fun r581 u581 t581 H1 locs ht1 hvm w581 hB hz1 hk1 hS => ?_)
  try dsimp only at w581 hB
  rw [ht1] at hB
  have hP := pr_ll hP hD hk1 hB
  generalize H1 = H at hP hS ⊢
  have hP : va_P D vwCl ((cW cI cS G SA sf pa no pts rf rg (nI RL.length) pk ps pt L9 p1 p2 p3 (nI rows.length) op (nI F) (nI Gn) (cB C) off left wr rc th Z ++ [(o, .inl (cJ, 1, .inr (.inl fo)))]) ++ (mW cI cZ M mc0 off left wr rc mem oth ks vs sx op mps mpk msr mtg mfl mxs)) H := hP
  have hD : va_D A ((cW cI cS G SA sf pa no pts rf rg (nI RL.length) pk ps pt L9 p1 p2 p3 (nI rows.length) op (nI F) (nI Gn) (cB C) off left wr rc th Z ++ [(o, .inl (cJ, 1, .inr (.inl fo)))]) ++ (mW cI cZ M mc0 off left wr rc mem oth ks vs sx op mps mpk msr mtg mfl mxs)) := hD
  refine lv_aload_n hx hb dL_law_584 rfl (lv_at hl 2 rfl) ?_
  have hPc := pp_r hP
  have hDc := pd_r hD
  have hFc := wfree hDc hS hA
  refine va_calli (va_runV (As := []) (rest := [.int r581]) ⟨hx, hb, hml, hown, ht⟩ (c_X5_off l D cI cZ cS cJ H.size M mc0 off left wr rc mem oth ks vs sx op mps mpk msr mtg mfl mxs ho1) (xwV 0 ht kw4_28 kw4_25 kw1_11 kw4_26 kw4_27 rfl rfl (by decide +kernel) ⟨Nat.le_of_ble_eq_true rfl, Nat.le_of_ble_eq_true rfl⟩) ⟨PB.blind, va_recv hK hPc (ci := 5) (q0 := 0) rfl rfl, fun U hU hW => PB.mk hU hW hPc hK hDc⟩ rfl rfl hl.1 rfl (lv_room (Nat.le_of_ble_eq_true rfl)) dL_law_585 ⟨by first | exact hkc | (show kc + _ ≤ 601024; omega), by first | exact hnc | (show nc + _ ≤ 7293000; omega)⟩) hS (fun q _ h => hFc q h) hFc (fun r585 u585 t585 H1 locs ht1 hvm w585 hB hz1 hk1 hS => ?_)
  try dsimp only at w585 hB
  obtain ⟨hP1, hD1⟩ := hB
  rw [ht1] at hP1
  obtain ⟨hP, hD⟩ := pj_r hP hD hk1 hFc hP1 hD1
  generalize H1 = H at hP hS ⊢
  have hP : va_P D vwCl ((cW cI cS G SA sf pa no pts rf rg (nI RL.length) pk ps pt L9 p1 p2 p3 (nI rows.length) op (nI F) (nI Gn) (cB C) off left wr rc th Z ++ [(o, .inl (cJ, 1, .inr (.inl fo)))]) ++ (mW cI cZ M 0 off left wr rc mem oth ks vs sx op mps mpk msr mtg mfl mxs)) H := hP
  have hD : va_D A ((cW cI cS G SA sf pa no pts rf rg (nI RL.length) pk ps pt L9 p1 p2 p3 (nI rows.length) op (nI F) (nI Gn) (cB C) off left wr rc th Z ++ [(o, .inl (cJ, 1, .inr (.inl fo)))]) ++ (mW cI cZ M 0 off left wr rc mem oth ks vs sx op mps mpk msr mtg mfl mxs)) := hD
  refine lv_icmp_eq (tgt := 1225) hx hb dL_law_588 (by decide) (fun c588 => ?_) (fun c588 => ?_)
  · refine W.widen (k := kc + 80) (n := nc + 8400) (show kc + _ ≤ _ by omega) (show nc + _ ≤ _ by omega) ?_
    exact K (pa, no, pts, rf, rg, RL, pk, ps, pt, L9, p1, p2, p3, op, off, left, wr, rc, th, Z, mm, rows, F, Gn, C) (0, off, left, wr, rc, mem, oth, ks, vs, sx, op, mps, mpk, msr, mtg, mfl, mxs) fo _ _ ls ⟨by exact hP, by exact hD, hS, ⟨rfl, rfl, rfl, rfl, rfl, hRS, hmem, hRP⟩, hci, AX.mono (N := N) hAX (Nat.le_succ N), hthv⟩ (lv_sub hl [0, 1, 2, 3, 4] rfl)
  · exact absurd (w581.trans w585.symm) c588

set_option maxHeartbeats 4000000 in
set_option maxRecDepth 100000 in
theorem law_place {p : Program} {l : Launch} {e : Env} {s : State} {m : MethodId} {below : List Frame} {meth : Method} {c : Code} {b L : Nat} {xs : Nat → Int32} {D : va_G} {cI cZ cS cJ : ClassId} {G SA M : Nat → Nat} {sf : Nat → Option Nat} {o : Nat} {A : Nat → Prop} (hl0 : l.stackTraces = false) (C9 : LA p s m c b L xs D cI cZ cS cJ SA sf A) {N kc nc i : Nat} {u : CT} {v : MT} {fo : Nat → Int64} {H : Heap} {locs : List Loc} {ls : Array Slot} {Q : State → Prop} (hI : LSt s D cI cZ cS cJ G SA sf M o A N u v fo H locs) (hN : N ≤ 511) (hi : i + 2 < L) (hkc : kc + 80 ≤ 601024) (hnc : nc + 8400 ≤ 7293000) (hl : lv_has ls 8 [(4, .int (nI i)), (3, .ref o), (2, .ref (M 0)), (1, .ref (G 0)), (0, .ref b)]) (K : ∀ (u1 : CT) (v1 : MT) (f1 : Nat → Int64) (H1 : Heap) (locs1 : List Loc) (ls1 : Array Slot), LSt s D cI cZ cS cJ G SA sf M o A (N + 1) u1 v1 f1 H1 locs1 → lv_has ls1 8 [(4, .int (nI i)), (3, .ref o), (2, .ref (M 0)), (1, .ref (G 0)), (0, .ref b)] → W p l e room_1 s m #[Value.ref b] below meth c H1 locs1 (kc + 80) (nc + 8400) Q (F0 m 1225 ls1 [])) : W p l e room_1 s m #[Value.ref b] below meth c H locs kc nc Q (F0 m 593 ls []) := by
  obtain ⟨hx, hb, hml, hown, ht, hX, hbl, hK, hTX, hNC, hsf, hLb, hAe⟩ := id C9
  have hA : ∀ q : Nat, s.heap.size ≤ q → A q := fun q h => by rw [hAe]; exact h
  have hbA : ¬ A b := by rw [hAe]; exact Nat.not_le.mpr hbl
  obtain ⟨hP, hD, hS, hrep, hciu, hai, hthu⟩ := hI
  obtain ⟨pa, no, pts, rf, rg, RL, pk, ps, pt, L9, p1, p2, p3, op, off, left, wr, rc, th, Z, mm, rows, F, Gn, C⟩ := u
  obtain ⟨mc0, moff, mleft, mwr, mrc, mem, oth, ks, vs, sx, mpl, mps, mpk, msr, mtg, mfl, mxs⟩ := v
  obtain ⟨e1, e2, e3, e4, e5, hRS, hmem, hRP⟩ : moff = off ∧ mleft = left ∧ mwr = wr ∧ mrc = rc ∧ mpl = op ∧ RS (stZ Z) ks vs sx ∧ (∀ n, n < 8 → mem n = nI (mm n)) ∧ RP rows F Gn C mps mpk msr mtg mfl mxs := hrep
  have e1 := e1.symm
  subst e1
  have e2 := e2.symm
  subst e2
  have e3 := e3.symm
  subst e3
  have e4 := e4.symm
  subst e4
  have e5 := e5.symm
  subst e5
  have hci : CI mm RL pts rf rg rows L9 p1 p2 p3 F Gn Z := hciu
  have hAX : AX N off (stZ Z) mm op rows F Gn C := hai
  obtain ⟨ho1, hp01, hSL, hM9, ⟨⟨hsr9, hp89, hrl9, hFl9, hGF9⟩, hCF9, hpl09, hrow9⟩, hLOC9, hAGR9, hth9⟩ := id hAX
  have hthv : th = nI (thF (stZ Z) (homeF mm rows F)) := hthu
  have hplr : op = 1 ∨ (op = 0 ∧ rows = []) := hp01.elim (fun q => Or.inr ⟨q, hpl09 q⟩) Or.inl
  have hlen9 : ∀ n, n < 8 → ((stZ Z) n).length < 999 := fun n hn => Nat.lt_of_le_of_lt (hSL n hn).2 (by omega)
  have hlen9k : ∀ n, n < 8 → ((stZ Z) n).length < 1000 := fun n hn => Nat.lt_trans (hlen9 n hn) (by decide)
  have hss9 : ∀ n, n < 8 → Srt ((stZ Z) n) := fun n hn => (hSL n hn).1
  have hpl9 : op = 0 → rows = [] ∧ F = 0 ∧ Gn = 0 ∧ C = false := fun q => by subst q; exact hAX.emp
  have hv9 : op = 0 → OW (stZ Z) (ownK mm) := fun q => by subst q; exact hAX.ow
  have h2569 : op = 0 → ∀ mo, (plUp (stZ Z) (ownK mo) 8).length ≤ 256 := fun q => by subst q; exact hAX.h256
  have hP : va_P D vwCl ((cW cI cS G SA sf pa no pts rf rg (nI RL.length) pk ps pt L9 p1 p2 p3 (nI rows.length) op (nI F) (nI Gn) (cB C) off left wr rc th Z ++ [(o, .inl (cJ, 1, .inr (.inl fo)))]) ++ (mW cI cZ M mc0 off left wr rc mem oth ks vs sx op mps mpk msr mtg mfl mxs)) H := hP
  have hD : va_D A ((cW cI cS G SA sf pa no pts rf rg (nI RL.length) pk ps pt L9 p1 p2 p3 (nI rows.length) op (nI F) (nI Gn) (cB C) off left wr rc th Z ++ [(o, .inl (cJ, 1, .inr (.inl fo)))]) ++ (mW cI cZ M mc0 off left wr rc mem oth ks vs sx op mps mpk msr mtg mfl mxs)) := hD
  refine lv_aload_n hx hb dL_law_593 rfl (lv_at hl 3 rfl) ?_
  refine lv_aload_n hx hb dL_law_594 rfl (lv_at hl 4 rfl) ?_
  refine lv_iload hx hb dL_law_595 (lv_at hl 0 rfl) ?_
  refine lv_iconst (v := 1) hx hb dL_law_597 (by decide) ?_
  refine lv_iadd hx hb dL_law_598 ?_
  refine ya_sld hx hb hX hbl hbA hS (i + 1) (by rw [show (1 : Int32) = nI 1 from rfl, nI_add]) (by omega) (by omega) dL_law_599 ?_
  refine lv_i2l (v := (xs (i + 1) : Int32).toInt64) hx hb dL_law_600 rfl ?_
  refine lv_bipush (v := 32) hx hb dL_law_601 (by decide) ?_
  refine lv_lshl (v := ((xs (i + 1) : Int32).toInt64) <<< ((32 : Int32).toInt64 &&& 63)) hx hb dL_law_603 rfl ?_
  refine lv_aload_n hx hb dL_law_604 rfl (lv_at hl 4 rfl) ?_
  refine lv_iload hx hb dL_law_605 (lv_at hl 0 rfl) ?_
  refine lv_iconst (v := 2) hx hb dL_law_607 (by decide) ?_
  refine lv_iadd hx hb dL_law_608 ?_
  refine ya_sld hx hb hX hbl hbA hS (i + 2) (by rw [show (2 : Int32) = nI 2 from rfl, nI_add]) (by omega) (by omega) dL_law_609 ?_
  refine lv_i2l (v := (xs (i + 2) : Int32).toInt64) hx hb dL_law_610 rfl ?_
  refine lv_ldc2 (v := 4294967295) hx hb hown (ht _ kw4_82) dL_law_611 ?_
  refine lv_land hx hb dL_law_614 ?_
  refine lv_lor hx hb dL_law_615 ?_
  have hPc := pp_l (pp_l hP)
  have hDc := pd_l (pd_l hD)
  have hFc := wfree hDc hS hA
  refine va_calli (va_runV (As := [.long ((((xs (i + 1) : Int32).toInt64) <<< ((32 : Int32).toInt64 &&& 63)) ||| (((xs (i + 2) : Int32).toInt64) &&& 4294967295))]) (rest := []) ⟨hx, hb, hml, hown, ht⟩ (c_X4_place l D cI cZ cS cJ H.size G SA sf hsf pa no pts rf rg RL pk ps pt L9 p1 p2 p3 op off left wr rc th Z mm rows F Gn C hci ((((xs (i + 1) : Int32).toInt64) <<< ((32 : Int32).toInt64 &&& 63)) ||| (((xs (i + 2) : Int32).toInt64) &&& 4294967295))) (xwV 1 ht kw1_198 kw1_195 kw1_1 kw1_196 kw1_197 rfl rfl (by decide +kernel) ⟨Nat.le_of_ble_eq_true rfl, Nat.le_of_ble_eq_true rfl⟩) ⟨PB.blind, va_recv hK hPc (ci := 4) (q0 := 0) rfl rfl, fun U hU hW => PB.mk hU hW hPc hK hDc⟩ rfl rfl hl.1 rfl (lv_room (Nat.le_of_ble_eq_true rfl)) dL_law_616 ⟨by show kc + _ ≤ 601024; omega, by show nc + _ ≤ 7293000; omega⟩) hS (fun q _ h => hFc q h) hFc (fun r616 u616 t616 H1 locs ht1 hvm w616 hB hz1 hk1 hS => ?_)
  try dsimp only at w616 hB
  rw [ht1] at hB
  have hP := pr_ll hP hD hk1 hB
  generalize H1 = H at hP hS ⊢
  have hP : va_P D vwCl ((cW cI cS G SA sf pa no pts rf rg (nI RL.length) pk ps pt L9 p1 p2 p3 (nI rows.length) op (nI F) (nI Gn) (cB C) off left wr rc th Z ++ [(o, .inl (cJ, 1, .inr (.inl fo)))]) ++ (mW cI cZ M mc0 off left wr rc mem oth ks vs sx op mps mpk msr mtg mfl mxs)) H := hP
  have hD : va_D A ((cW cI cS G SA sf pa no pts rf rg (nI RL.length) pk ps pt L9 p1 p2 p3 (nI rows.length) op (nI F) (nI Gn) (cB C) off left wr rc th Z ++ [(o, .inl (cJ, 1, .inr (.inl fo)))]) ++ (mW cI cZ M mc0 off left wr rc mem oth ks vs sx op mps mpk msr mtg mfl mxs)) := hD
  refine lv_aload_n hx hb dL_law_619 rfl (lv_at hl 2 rfl) ?_
  refine lv_aload_n hx hb dL_law_620 rfl (lv_at hl 4 rfl) ?_
  refine lv_iload hx hb dL_law_621 (lv_at hl 0 rfl) ?_
  refine lv_iconst (v := 1) hx hb dL_law_623 (by decide) ?_
  refine lv_iadd hx hb dL_law_624 ?_
  refine ya_sld hx hb hX hbl hbA hS (i + 1) (by rw [show (1 : Int32) = nI 1 from rfl, nI_add]) (by omega) (by omega) dL_law_625 ?_
  refine lv_i2l (v := (xs (i + 1) : Int32).toInt64) hx hb dL_law_626 rfl ?_
  refine lv_bipush (v := 32) hx hb dL_law_627 (by decide) ?_
  refine lv_lshl (v := ((xs (i + 1) : Int32).toInt64) <<< ((32 : Int32).toInt64 &&& 63)) hx hb dL_law_629 rfl ?_
  refine lv_aload_n hx hb dL_law_630 rfl (lv_at hl 4 rfl) ?_
  refine lv_iload hx hb dL_law_631 (lv_at hl 0 rfl) ?_
  refine lv_iconst (v := 2) hx hb dL_law_633 (by decide) ?_
  refine lv_iadd hx hb dL_law_634 ?_
  refine ya_sld hx hb hX hbl hbA hS (i + 2) (by rw [show (2 : Int32) = nI 2 from rfl, nI_add]) (by omega) (by omega) dL_law_635 ?_
  refine lv_i2l (v := (xs (i + 2) : Int32).toInt64) hx hb dL_law_636 rfl ?_
  refine lv_ldc2 (v := 4294967295) hx hb hown (ht _ kw4_82) dL_law_637 ?_
  refine lv_land hx hb dL_law_640 ?_
  refine lv_lor hx hb dL_law_641 ?_
  have hPc := pp_r hP
  have hDc := pd_r hD
  have hFc := wfree hDc hS hA
  refine va_calli (va_runV (As := [.long ((((xs (i + 1) : Int32).toInt64) <<< ((32 : Int32).toInt64 &&& 63)) ||| (((xs (i + 2) : Int32).toInt64) &&& 4294967295))]) (rest := [.int r616]) ⟨hx, hb, hml, hown, ht⟩ (c_X5_place l D cI cZ cS cJ H.size M mc0 off left wr rc mem oth ks vs sx op mps mpk msr mtg mfl mxs ((((xs (i + 1) : Int32).toInt64) <<< ((32 : Int32).toInt64 &&& 63)) ||| (((xs (i + 2) : Int32).toInt64) &&& 4294967295))) (xwV 1 ht kw3_140 kw3_137 kw1_11 kw3_138 kw3_139 rfl rfl (by decide +kernel) ⟨Nat.le_of_ble_eq_true rfl, Nat.le_of_ble_eq_true rfl⟩) ⟨PB.blind, va_recv hK hPc (ci := 5) (q0 := 0) rfl rfl, fun U hU hW => PB.mk hU hW hPc hK hDc⟩ rfl rfl hl.1 rfl (lv_room (Nat.le_of_ble_eq_true rfl)) dL_law_642 ⟨by first | exact hkc | (show kc + _ ≤ 601024; omega), by first | exact hnc | (show nc + _ ≤ 7293000; omega)⟩) hS (fun q _ h => hFc q h) hFc (fun r642 u642 t642 H1 locs ht1 hvm w642 hB hz1 hk1 hS => ?_)
  try dsimp only at w642 hB
  obtain ⟨hP1, hD1⟩ := hB
  rw [ht1] at hP1
  obtain ⟨hP, hD⟩ := pj_r hP hD hk1 hFc hP1 hD1
  generalize H1 = H at hP hS ⊢
  have hP : va_P D vwCl ((cW cI cS G SA sf pa no pts rf rg (nI RL.length) pk ps pt L9 p1 p2 p3 (nI rows.length) op (nI F) (nI Gn) (cB C) off left wr rc th Z ++ [(o, .inl (cJ, 1, .inr (.inl fo)))]) ++ (mW cI cZ M 0 off left wr rc mem oth ks vs sx op mps mpk msr mtg mfl mxs)) H := hP
  have hD : va_D A ((cW cI cS G SA sf pa no pts rf rg (nI RL.length) pk ps pt L9 p1 p2 p3 (nI rows.length) op (nI F) (nI Gn) (cB C) off left wr rc th Z ++ [(o, .inl (cJ, 1, .inr (.inl fo)))]) ++ (mW cI cZ M 0 off left wr rc mem oth ks vs sx op mps mpk msr mtg mfl mxs)) := hD
  refine lv_icmp_eq (tgt := 1225) hx hb dL_law_645 (by decide) (fun c645 => ?_) (fun c645 => ?_)
  · refine W.widen (k := kc + 80) (n := nc + 8400) (show kc + _ ≤ _ by omega) (show nc + _ ≤ _ by omega) ?_
    exact K (pa, no, pts, rf, rg, RL, pk, ps, pt, L9, p1, p2, p3, op, off, left, wr, rc, th, Z, mm, rows, F, Gn, C) (0, off, left, wr, rc, mem, oth, ks, vs, sx, op, mps, mpk, msr, mtg, mfl, mxs) fo _ _ ls ⟨by exact hP, by exact hD, hS, ⟨rfl, rfl, rfl, rfl, rfl, hRS, hmem, hRP⟩, hci, AX.mono (N := N) hAX (Nat.le_succ N), hthv⟩ (lv_sub hl [0, 1, 2, 3, 4] rfl)
  · exact absurd (w616.trans w642.symm) c645

set_option maxHeartbeats 4000000 in
set_option maxRecDepth 100000 in
theorem law_owner {p : Program} {l : Launch} {e : Env} {s : State} {m : MethodId} {below : List Frame} {meth : Method} {c : Code} {b L : Nat} {xs : Nat → Int32} {D : va_G} {cI cZ cS cJ : ClassId} {G SA M : Nat → Nat} {sf : Nat → Option Nat} {o : Nat} {A : Nat → Prop} (hl0 : l.stackTraces = false) (C9 : LA p s m c b L xs D cI cZ cS cJ SA sf A) {N kc nc i : Nat} {u : CT} {v : MT} {fo : Nat → Int64} {H : Heap} {locs : List Loc} {ls : Array Slot} {Q : State → Prop} (hI : LSt s D cI cZ cS cJ G SA sf M o A N u v fo H locs) (hN : N ≤ 511) (hi : i + 2 < L) (hkc : kc + 80 ≤ 601024) (hnc : nc + 8400 ≤ 7293000) (hl : lv_has ls 8 [(4, .int (nI i)), (3, .ref o), (2, .ref (M 0)), (1, .ref (G 0)), (0, .ref b)]) (K : ∀ (u1 : CT) (v1 : MT) (f1 : Nat → Int64) (H1 : Heap) (locs1 : List Loc) (ls1 : Array Slot), LSt s D cI cZ cS cJ G SA sf M o A (N + 1) u1 v1 f1 H1 locs1 → lv_has ls1 8 [(4, .int (nI i)), (3, .ref o), (2, .ref (M 0)), (1, .ref (G 0)), (0, .ref b)] → W p l e room_1 s m #[Value.ref b] below meth c H1 locs1 (kc + 80) (nc + 8400) Q (F0 m 1225 ls1 [])) : W p l e room_1 s m #[Value.ref b] below meth c H locs kc nc Q (F0 m 650 ls []) := by
  obtain ⟨hx, hb, hml, hown, ht, hX, hbl, hK, hTX, hNC, hsf, hLb, hAe⟩ := id C9
  have hA : ∀ q : Nat, s.heap.size ≤ q → A q := fun q h => by rw [hAe]; exact h
  have hbA : ¬ A b := by rw [hAe]; exact Nat.not_le.mpr hbl
  obtain ⟨hP, hD, hS, hrep, hciu, hai, hthu⟩ := hI
  obtain ⟨pa, no, pts, rf, rg, RL, pk, ps, pt, L9, p1, p2, p3, op, off, left, wr, rc, th, Z, mm, rows, F, Gn, C⟩ := u
  obtain ⟨mc0, moff, mleft, mwr, mrc, mem, oth, ks, vs, sx, mpl, mps, mpk, msr, mtg, mfl, mxs⟩ := v
  obtain ⟨e1, e2, e3, e4, e5, hRS, hmem, hRP⟩ : moff = off ∧ mleft = left ∧ mwr = wr ∧ mrc = rc ∧ mpl = op ∧ RS (stZ Z) ks vs sx ∧ (∀ n, n < 8 → mem n = nI (mm n)) ∧ RP rows F Gn C mps mpk msr mtg mfl mxs := hrep
  have e1 := e1.symm
  subst e1
  have e2 := e2.symm
  subst e2
  have e3 := e3.symm
  subst e3
  have e4 := e4.symm
  subst e4
  have e5 := e5.symm
  subst e5
  have hci : CI mm RL pts rf rg rows L9 p1 p2 p3 F Gn Z := hciu
  have hAX : AX N off (stZ Z) mm op rows F Gn C := hai
  obtain ⟨ho1, hp01, hSL, hM9, ⟨⟨hsr9, hp89, hrl9, hFl9, hGF9⟩, hCF9, hpl09, hrow9⟩, hLOC9, hAGR9, hth9⟩ := id hAX
  have hthv : th = nI (thF (stZ Z) (homeF mm rows F)) := hthu
  have hplr : op = 1 ∨ (op = 0 ∧ rows = []) := hp01.elim (fun q => Or.inr ⟨q, hpl09 q⟩) Or.inl
  have hlen9 : ∀ n, n < 8 → ((stZ Z) n).length < 999 := fun n hn => Nat.lt_of_le_of_lt (hSL n hn).2 (by omega)
  have hlen9k : ∀ n, n < 8 → ((stZ Z) n).length < 1000 := fun n hn => Nat.lt_trans (hlen9 n hn) (by decide)
  have hss9 : ∀ n, n < 8 → Srt ((stZ Z) n) := fun n hn => (hSL n hn).1
  have hpl9 : op = 0 → rows = [] ∧ F = 0 ∧ Gn = 0 ∧ C = false := fun q => by subst q; exact hAX.emp
  have hv9 : op = 0 → OW (stZ Z) (ownK mm) := fun q => by subst q; exact hAX.ow
  have h2569 : op = 0 → ∀ mo, (plUp (stZ Z) (ownK mo) 8).length ≤ 256 := fun q => by subst q; exact hAX.h256
  have hP : va_P D vwCl ((cW cI cS G SA sf pa no pts rf rg (nI RL.length) pk ps pt L9 p1 p2 p3 (nI rows.length) op (nI F) (nI Gn) (cB C) off left wr rc th Z ++ [(o, .inl (cJ, 1, .inr (.inl fo)))]) ++ (mW cI cZ M mc0 off left wr rc mem oth ks vs sx op mps mpk msr mtg mfl mxs)) H := hP
  have hD : va_D A ((cW cI cS G SA sf pa no pts rf rg (nI RL.length) pk ps pt L9 p1 p2 p3 (nI rows.length) op (nI F) (nI Gn) (cB C) off left wr rc th Z ++ [(o, .inl (cJ, 1, .inr (.inl fo)))]) ++ (mW cI cZ M mc0 off left wr rc mem oth ks vs sx op mps mpk msr mtg mfl mxs)) := hD
  refine lv_aload_n hx hb dL_law_650 rfl (lv_at hl 3 rfl) ?_
  refine lv_aload_n hx hb dL_law_651 rfl (lv_at hl 4 rfl) ?_
  refine lv_iload hx hb dL_law_652 (lv_at hl 0 rfl) ?_
  refine lv_iconst (v := 1) hx hb dL_law_654 (by decide) ?_
  refine lv_iadd hx hb dL_law_655 ?_
  refine ya_sld hx hb hX hbl hbA hS (i + 1) (by rw [show (1 : Int32) = nI 1 from rfl, nI_add]) (by omega) (by omega) dL_law_656 ?_
  refine lv_aload_n hx hb dL_law_657 rfl (lv_at hl 1 rfl) ?_
  have hPc := pp_l hP
  have hDc := pd_l hD
  have hFc := wfree hDc hS hA
  refine vx_calli (vx_runSX (As := [.ref (G 0), .int (xs (i + 1)), .ref o]) (rest := []) ⟨hx, hb, hml, hown, ht⟩ (c_L_owner l hl0 D cI cZ cS cJ H.size G SA sf hsf pa no pts rf rg RL pk ps pt L9 p1 p2 p3 op off left wr rc th Z mm rows F Gn C hci o fo (xs (i + 1))) (xwSW 3 ht kw3_6 kw3_4 kw1_0 kw3_5 rfl rfl (by decide +kernel) ⟨Nat.le_of_ble_eq_true rfl, Nat.le_of_ble_eq_true rfl⟩) ⟨PZ.blind, fun U hU hW => PZ.mk hU hW hPc hK hDc hS hFc hTX hNC⟩ rfl rfl hl.1 rfl (lv_room (Nat.le_of_ble_eq_true rfl)) dL_law_658 ⟨hkc, hnc⟩) hS (fun q _ h => hFc q h) hFc (fun q _ h => hFc q h) (fun E ce q9 u9 t9 H1 locs ht1 hvm hpx _ _ _ _ _ _ _ => hpx.elim) (fun kx658 u658 t658 H1 locs ht1 hvm w658 hB hz1 hk1 hS => ?_)
  try dsimp only at w658 hB
  obtain ⟨hP1, hD1⟩ := hB
  rw [ht1] at hP1
  obtain ⟨hP, hD⟩ := pj_l hP hD hk1 hFc hP1 hD1
  generalize H1 = H at hP hS ⊢
  have hP : va_P D vwCl ((cW cI cS G SA sf pa no pts rf rg (nI RL.length) pk ps pt L9 p1 p2 p3 (nI rows.length) op (nI F) (nI Gn) (cB C) off left wr rc th Z ++ [(o, .inl (cJ, 1, .inr (.inl u658)))]) ++ (mW cI cZ M mc0 off left wr rc mem oth ks vs sx op mps mpk msr mtg mfl mxs)) H := hP
  have hD : va_D A ((cW cI cS G SA sf pa no pts rf rg (nI RL.length) pk ps pt L9 p1 p2 p3 (nI rows.length) op (nI F) (nI Gn) (cB C) off left wr rc th Z ++ [(o, .inl (cJ, 1, .inr (.inl u658)))]) ++ (mW cI cZ M mc0 off left wr rc mem oth ks vs sx op mps mpk msr mtg mfl mxs)) := hD
  refine lv_istore (lv' := [(5, .int kx658), (4, .int (nI i)), (3, .ref o), (2, .ref (M 0)), (1, .ref (G 0)), (0, .ref b)]) hx hb dL_law_661 hl (by decide) rfl (fun ls hl => ?_)
  refine lv_aload_n hx hb dL_law_663 rfl (lv_at hl 3 rfl) ?_
  refine lv_aload_n hx hb dL_law_664 rfl (lv_at hl 5 rfl) ?_
  refine lv_iload hx hb dL_law_665 (lv_at hl 1 rfl) ?_
  refine lv_iconst (v := 1) hx hb dL_law_667 (by decide) ?_
  refine lv_iadd hx hb dL_law_668 ?_
  refine ya_sld hx hb hX hbl hbA hS (i + 1) (by rw [show (1 : Int32) = nI 1 from rfl, nI_add]) (by omega) (by omega) dL_law_669 ?_
  have hPc := pp_r hP
  have hDc := pd_r hD
  have hFc := wfree hDc hS hA
  refine va_calli (va_runV (As := [.int (xs (i + 1))]) (rest := []) ⟨hx, hb, hml, hown, ht⟩ (c_X5_owner l D cI cZ cS cJ H.size M mc0 off left wr rc mem oth ks vs sx op mps mpk msr mtg mfl mxs (stZ Z) hRS mm hmem hM9 rows F Gn C hRP hsr9 hplr hp89 ho1 (xs (i + 1))) (xwV 1 ht kw4_32 kw4_29 kw1_11 kw4_30 kw4_31 rfl rfl (by decide +kernel) ⟨Nat.le_of_ble_eq_true rfl, Nat.le_of_ble_eq_true rfl⟩) ⟨PB.blind, va_recv hK hPc (ci := 5) (q0 := 0) rfl rfl, fun U hU hW => PB.mk hU hW hPc hK hDc⟩ rfl rfl hl.1 rfl (lv_room (Nat.le_of_ble_eq_true rfl)) dL_law_670 ⟨by first | exact hkc | (show kc + _ ≤ 601024; omega), by first | exact hnc | (show nc + _ ≤ 7293000; omega)⟩) hS (fun q _ h => hFc q h) hFc (fun r670 u670 t670 H1 locs ht1 hvm w670 hB hz1 hk1 hS => ?_)
  try dsimp only at w670 hB
  obtain ⟨hP1, hD1⟩ := hB
  rw [ht1] at hP1
  obtain ⟨hP, hD⟩ := pj_r hP hD hk1 hFc hP1 hD1
  generalize H1 = H at hP hS ⊢
  have hP : va_P D vwCl ((cW cI cS G SA sf pa no pts rf rg (nI RL.length) pk ps pt L9 p1 p2 p3 (nI rows.length) op (nI F) (nI Gn) (cB C) off left wr rc th Z ++ [(o, .inl (cJ, 1, .inr (.inl u658)))]) ++ (mW cI cZ M ((ownF off mm (xs (i + 1))).1) off left wr rc mem oth ks vs sx op mps mpk msr mtg mfl mxs)) H := hP
  have hD : va_D A ((cW cI cS G SA sf pa no pts rf rg (nI RL.length) pk ps pt L9 p1 p2 p3 (nI rows.length) op (nI F) (nI Gn) (cB C) off left wr rc th Z ++ [(o, .inl (cJ, 1, .inr (.inl u658)))]) ++ (mW cI cZ M ((ownF off mm (xs (i + 1))).1) off left wr rc mem oth ks vs sx op mps mpk msr mtg mfl mxs)) := hD
  refine lv_istore (lv' := [(6, .int r670), (5, .int kx658), (4, .int (nI i)), (3, .ref o), (2, .ref (M 0)), (1, .ref (G 0)), (0, .ref b)]) hx hb dL_law_673 hl (by decide) rfl (fun ls hl => ?_)
  refine lv_aload_n hx hb dL_law_675 rfl (lv_at hl 4 rfl) ?_
  have hPc := pp_r hP
  have hDc := pd_r hD
  have hFc := wfree hDc hS hA
  refine va_calli (va_runV (As := []) (rest := []) ⟨hx, hb, hml, hown, ht⟩ (c_X5_thrown l D cI cZ cS cJ H.size M ((ownF off mm (xs (i + 1))).1) off left wr rc mem oth ks vs sx op mps mpk msr mtg mfl mxs ) (xwV 0 ht kw3_136 kw3_133 kw1_11 kw3_134 kw3_135 rfl rfl (by decide +kernel) ⟨Nat.le_of_ble_eq_true rfl, Nat.le_of_ble_eq_true rfl⟩) ⟨PB.blind, va_recv hK hPc (ci := 5) (q0 := 0) rfl rfl, fun U hU hW => PB.mk hU hW hPc hK hDc⟩ rfl rfl hl.1 rfl (lv_room (Nat.le_of_ble_eq_true rfl)) dL_law_676 ⟨by first | exact hkc | (show kc + _ ≤ 601024; omega), by first | exact hnc | (show nc + _ ≤ 7293000; omega)⟩) hS (fun q _ h => hFc q h) hFc (fun r676 u676 t676 H1 locs ht1 hvm w676 hB hz1 hk1 hS => ?_)
  try dsimp only at w676 hB
  rw [ht1] at hB
  have hP := pr_r hP hD hk1 hB
  generalize H1 = H at hP hS ⊢
  have hP : va_P D vwCl ((cW cI cS G SA sf pa no pts rf rg (nI RL.length) pk ps pt L9 p1 p2 p3 (nI rows.length) op (nI F) (nI Gn) (cB C) off left wr rc th Z ++ [(o, .inl (cJ, 1, .inr (.inl u658)))]) ++ (mW cI cZ M ((ownF off mm (xs (i + 1))).1) off left wr rc mem oth ks vs sx op mps mpk msr mtg mfl mxs)) H := hP
  have hD : va_D A ((cW cI cS G SA sf pa no pts rf rg (nI RL.length) pk ps pt L9 p1 p2 p3 (nI rows.length) op (nI F) (nI Gn) (cB C) off left wr rc th Z ++ [(o, .inl (cJ, 1, .inr (.inl u658)))]) ++ (mW cI cZ M ((ownF off mm (xs (i + 1))).1) off left wr rc mem oth ks vs sx op mps mpk msr mtg mfl mxs)) := hD
  have hfin := fin_rd (X := ownF off mm (xs (i + 1))) w658
  refine lv_iload hx hb dL_law_679 (lv_at hl 1 rfl) ?_
  refine lv_icmp_eq (tgt := 686) hx hb dL_law_681 (by decide) (fun c681 => ?_) (fun c681 => ?_)
  · refine lv_iload hx hb dL_law_686 (lv_at hl 1 rfl) ?_
    refine lv_if_ne (tgt := 703) hx hb dL_law_688 (by decide) (fun c688 => ?_) (fun c688 => ?_)
    · refine lv_goto (tgt := 1225) hx hb dL_law_703 (by decide) ?_
      exact K (pa, no, pts, rf, rg, RL, pk, ps, pt, L9, p1, p2, p3, op, off, left, wr, rc, th, Z, mm, rows, F, Gn, C) ((ownF off mm (xs (i + 1))).1, off, left, wr, rc, mem, oth, ks, vs, sx, op, mps, mpk, msr, mtg, mfl, mxs) u658 _ _ ls ⟨by exact hP, by exact hD, hS, ⟨rfl, rfl, rfl, rfl, rfl, hRS, hmem, hRP⟩, hci, AX.mono (N := N) hAX (Nat.le_succ N), hthv⟩ (lv_sub hl [2, 3, 4, 5, 6] rfl)
    · refine lv_aload_n hx hb dL_law_691 rfl (lv_at hl 3 rfl) ?_
      refine lv_iconst (v := 0) hx hb dL_law_692 (by decide) ?_
      refine ya_lald hx hb hK hP 35 3 rfl rfl 0 rfl (by decide) (by decide) dL_law_693 ?_
      refine lv_iload hx hb dL_law_694 (lv_at hl 0 rfl) ?_
      refine lv_i2l (v := (r670 : Int32).toInt64) hx hb dL_law_696 rfl ?_
      refine W.lcmp hx hb dL_law_697 ?_
      refine lv_if_eq (tgt := 703) hx hb dL_law_698 (by decide) (fun c698 => ?_) (fun c698 => ?_)
      · refine lv_goto (tgt := 1225) hx hb dL_law_703 (by decide) ?_
        exact K (pa, no, pts, rf, rg, RL, pk, ps, pt, L9, p1, p2, p3, op, off, left, wr, rc, th, Z, mm, rows, F, Gn, C) ((ownF off mm (xs (i + 1))).1, off, left, wr, rc, mem, oth, ks, vs, sx, op, mps, mpk, msr, mtg, mfl, mxs) u658 _ _ ls ⟨by exact hP, by exact hD, hS, ⟨rfl, rfl, rfl, rfl, rfl, hRS, hmem, hRP⟩, hci, AX.mono (N := N) hAX (Nat.le_succ N), hthv⟩ (lv_sub hl [2, 3, 4, 5, 6] rfl)
      · exact absurd (lgc ((hfin.2 c688).trans (by rw [w670]))) c698
  · exact absurd (w676.trans hfin.1) c681

set_option maxHeartbeats 4000000 in
set_option maxRecDepth 100000 in
theorem law_home {p : Program} {l : Launch} {e : Env} {s : State} {m : MethodId} {below : List Frame} {meth : Method} {c : Code} {b L : Nat} {xs : Nat → Int32} {D : va_G} {cI cZ cS cJ : ClassId} {G SA M : Nat → Nat} {sf : Nat → Option Nat} {o : Nat} {A : Nat → Prop} (hl0 : l.stackTraces = false) (C9 : LA p s m c b L xs D cI cZ cS cJ SA sf A) {N kc nc i : Nat} {u : CT} {v : MT} {fo : Nat → Int64} {H : Heap} {locs : List Loc} {ls : Array Slot} {Q : State → Prop} (hI : LSt s D cI cZ cS cJ G SA sf M o A N u v fo H locs) (hN : N ≤ 511) (hi : i + 2 < L) (hkc : kc + 80 ≤ 601024) (hnc : nc + 8400 ≤ 7293000) (hl : lv_has ls 8 [(4, .int (nI i)), (3, .ref o), (2, .ref (M 0)), (1, .ref (G 0)), (0, .ref b)]) (K : ∀ (u1 : CT) (v1 : MT) (f1 : Nat → Int64) (H1 : Heap) (locs1 : List Loc) (ls1 : Array Slot), LSt s D cI cZ cS cJ G SA sf M o A (N + 1) u1 v1 f1 H1 locs1 → lv_has ls1 8 [(4, .int (nI i)), (3, .ref o), (2, .ref (M 0)), (1, .ref (G 0)), (0, .ref b)] → W p l e room_1 s m #[Value.ref b] below meth c H1 locs1 (kc + 80) (nc + 8400) Q (F0 m 1225 ls1 [])) : W p l e room_1 s m #[Value.ref b] below meth c H locs kc nc Q (F0 m 706 ls []) := by
  obtain ⟨hx, hb, hml, hown, ht, hX, hbl, hK, hTX, hNC, hsf, hLb, hAe⟩ := id C9
  have hA : ∀ q : Nat, s.heap.size ≤ q → A q := fun q h => by rw [hAe]; exact h
  have hbA : ¬ A b := by rw [hAe]; exact Nat.not_le.mpr hbl
  obtain ⟨hP, hD, hS, hrep, hciu, hai, hthu⟩ := hI
  obtain ⟨pa, no, pts, rf, rg, RL, pk, ps, pt, L9, p1, p2, p3, op, off, left, wr, rc, th, Z, mm, rows, F, Gn, C⟩ := u
  obtain ⟨mc0, moff, mleft, mwr, mrc, mem, oth, ks, vs, sx, mpl, mps, mpk, msr, mtg, mfl, mxs⟩ := v
  obtain ⟨e1, e2, e3, e4, e5, hRS, hmem, hRP⟩ : moff = off ∧ mleft = left ∧ mwr = wr ∧ mrc = rc ∧ mpl = op ∧ RS (stZ Z) ks vs sx ∧ (∀ n, n < 8 → mem n = nI (mm n)) ∧ RP rows F Gn C mps mpk msr mtg mfl mxs := hrep
  have e1 := e1.symm
  subst e1
  have e2 := e2.symm
  subst e2
  have e3 := e3.symm
  subst e3
  have e4 := e4.symm
  subst e4
  have e5 := e5.symm
  subst e5
  have hci : CI mm RL pts rf rg rows L9 p1 p2 p3 F Gn Z := hciu
  have hAX : AX N off (stZ Z) mm op rows F Gn C := hai
  obtain ⟨ho1, hp01, hSL, hM9, ⟨⟨hsr9, hp89, hrl9, hFl9, hGF9⟩, hCF9, hpl09, hrow9⟩, hLOC9, hAGR9, hth9⟩ := id hAX
  have hthv : th = nI (thF (stZ Z) (homeF mm rows F)) := hthu
  have hplr : op = 1 ∨ (op = 0 ∧ rows = []) := hp01.elim (fun q => Or.inr ⟨q, hpl09 q⟩) Or.inl
  have hlen9 : ∀ n, n < 8 → ((stZ Z) n).length < 999 := fun n hn => Nat.lt_of_le_of_lt (hSL n hn).2 (by omega)
  have hlen9k : ∀ n, n < 8 → ((stZ Z) n).length < 1000 := fun n hn => Nat.lt_trans (hlen9 n hn) (by decide)
  have hss9 : ∀ n, n < 8 → Srt ((stZ Z) n) := fun n hn => (hSL n hn).1
  have hpl9 : op = 0 → rows = [] ∧ F = 0 ∧ Gn = 0 ∧ C = false := fun q => by subst q; exact hAX.emp
  have hv9 : op = 0 → OW (stZ Z) (ownK mm) := fun q => by subst q; exact hAX.ow
  have h2569 : op = 0 → ∀ mo, (plUp (stZ Z) (ownK mo) 8).length ≤ 256 := fun q => by subst q; exact hAX.h256
  have hP : va_P D vwCl ((cW cI cS G SA sf pa no pts rf rg (nI RL.length) pk ps pt L9 p1 p2 p3 (nI rows.length) op (nI F) (nI Gn) (cB C) off left wr rc th Z ++ [(o, .inl (cJ, 1, .inr (.inl fo)))]) ++ (mW cI cZ M mc0 off left wr rc mem oth ks vs sx op mps mpk msr mtg mfl mxs)) H := hP
  have hD : va_D A ((cW cI cS G SA sf pa no pts rf rg (nI RL.length) pk ps pt L9 p1 p2 p3 (nI rows.length) op (nI F) (nI Gn) (cB C) off left wr rc th Z ++ [(o, .inl (cJ, 1, .inr (.inl fo)))]) ++ (mW cI cZ M mc0 off left wr rc mem oth ks vs sx op mps mpk msr mtg mfl mxs)) := hD
  refine lv_aload_n hx hb dL_law_706 rfl (lv_at hl 3 rfl) ?_
  refine lv_aload_n hx hb dL_law_707 rfl (lv_at hl 4 rfl) ?_
  refine lv_iload hx hb dL_law_708 (lv_at hl 0 rfl) ?_
  refine lv_iconst (v := 1) hx hb dL_law_710 (by decide) ?_
  refine lv_iadd hx hb dL_law_711 ?_
  refine ya_sld hx hb hX hbl hbA hS (i + 1) (by rw [show (1 : Int32) = nI 1 from rfl, nI_add]) (by omega) (by omega) dL_law_712 ?_
  refine lv_aload_n hx hb dL_law_713 rfl (lv_at hl 1 rfl) ?_
  have hPc := pp_l hP
  have hDc := pd_l hD
  have hFc := wfree hDc hS hA
  refine vx_calli (vx_runSX (As := [.ref (G 0), .int (xs (i + 1)), .ref o]) (rest := []) ⟨hx, hb, hml, hown, ht⟩ (c_L_home l hl0 D cI cZ cS cJ H.size G SA sf hsf pa no pts rf rg RL pk ps pt L9 p1 p2 p3 op off left wr rc th Z mm rows F Gn C hci o fo (xs (i + 1))) (xwSW 3 ht kw3_13 kw3_11 kw1_0 kw3_12 rfl rfl (by decide +kernel) ⟨Nat.le_of_ble_eq_true rfl, Nat.le_of_ble_eq_true rfl⟩) ⟨PZ.blind, fun U hU hW => PZ.mk hU hW hPc hK hDc hS hFc hTX hNC⟩ rfl rfl hl.1 rfl (lv_room (Nat.le_of_ble_eq_true rfl)) dL_law_714 ⟨hkc, hnc⟩) hS (fun q _ h => hFc q h) hFc (fun q _ h => hFc q h) (fun E ce q9 u9 t9 H1 locs ht1 hvm hpx _ _ _ _ _ _ _ => hpx.elim) (fun kx714 u714 t714 H1 locs ht1 hvm w714 hB hz1 hk1 hS => ?_)
  try dsimp only at w714 hB
  obtain ⟨hP1, hD1⟩ := hB
  rw [ht1] at hP1
  obtain ⟨hP, hD⟩ := pj_l hP hD hk1 hFc hP1 hD1
  generalize H1 = H at hP hS ⊢
  have hP : va_P D vwCl ((cW cI cS G SA sf pa no pts rf rg (nI RL.length) pk ps pt L9 p1 p2 p3 (nI rows.length) op (nI F) (nI Gn) (cB C) off left wr rc th Z ++ [(o, .inl (cJ, 1, .inr (.inl u714)))]) ++ (mW cI cZ M mc0 off left wr rc mem oth ks vs sx op mps mpk msr mtg mfl mxs)) H := hP
  have hD : va_D A ((cW cI cS G SA sf pa no pts rf rg (nI RL.length) pk ps pt L9 p1 p2 p3 (nI rows.length) op (nI F) (nI Gn) (cB C) off left wr rc th Z ++ [(o, .inl (cJ, 1, .inr (.inl u714)))]) ++ (mW cI cZ M mc0 off left wr rc mem oth ks vs sx op mps mpk msr mtg mfl mxs)) := hD
  refine lv_istore (lv' := [(5, .int kx714), (4, .int (nI i)), (3, .ref o), (2, .ref (M 0)), (1, .ref (G 0)), (0, .ref b)]) hx hb dL_law_717 hl (by decide) rfl (fun ls hl => ?_)
  refine lv_aload_n hx hb dL_law_719 rfl (lv_at hl 3 rfl) ?_
  refine lv_aload_n hx hb dL_law_720 rfl (lv_at hl 5 rfl) ?_
  refine lv_iload hx hb dL_law_721 (lv_at hl 1 rfl) ?_
  refine lv_iconst (v := 1) hx hb dL_law_723 (by decide) ?_
  refine lv_iadd hx hb dL_law_724 ?_
  refine ya_sld hx hb hX hbl hbA hS (i + 1) (by rw [show (1 : Int32) = nI 1 from rfl, nI_add]) (by omega) (by omega) dL_law_725 ?_
  have hPc := pp_r hP
  have hDc := pd_r hD
  have hFc := wfree hDc hS hA
  refine va_calli (va_runV (As := [.int (xs (i + 1))]) (rest := []) ⟨hx, hb, hml, hown, ht⟩ (c_X5_home l D cI cZ cS cJ H.size M mc0 off left wr rc mem oth ks vs sx op mps mpk msr mtg mfl mxs (stZ Z) hRS mm hmem hM9 rows F Gn C hRP hsr9 hplr hp89 ho1 (xs (i + 1))) (xwV 1 ht kw4_36 kw4_33 kw1_11 kw4_34 kw4_35 rfl rfl (by decide +kernel) ⟨Nat.le_of_ble_eq_true rfl, Nat.le_of_ble_eq_true rfl⟩) ⟨PB.blind, va_recv hK hPc (ci := 5) (q0 := 0) rfl rfl, fun U hU hW => PB.mk hU hW hPc hK hDc⟩ rfl rfl hl.1 rfl (lv_room (Nat.le_of_ble_eq_true rfl)) dL_law_726 ⟨by first | exact hkc | (show kc + _ ≤ 601024; omega), by first | exact hnc | (show nc + _ ≤ 7293000; omega)⟩) hS (fun q _ h => hFc q h) hFc (fun r726 u726 t726 H1 locs ht1 hvm w726 hB hz1 hk1 hS => ?_)
  try dsimp only at w726 hB
  obtain ⟨hP1, hD1⟩ := hB
  rw [ht1] at hP1
  obtain ⟨hP, hD⟩ := pj_r hP hD hk1 hFc hP1 hD1
  generalize H1 = H at hP hS ⊢
  have hP : va_P D vwCl ((cW cI cS G SA sf pa no pts rf rg (nI RL.length) pk ps pt L9 p1 p2 p3 (nI rows.length) op (nI F) (nI Gn) (cB C) off left wr rc th Z ++ [(o, .inl (cJ, 1, .inr (.inl u714)))]) ++ (mW cI cZ M ((homF off mm rows F (xs (i + 1))).1) off left wr rc mem oth ks vs sx op mps mpk msr mtg mfl mxs)) H := hP
  have hD : va_D A ((cW cI cS G SA sf pa no pts rf rg (nI RL.length) pk ps pt L9 p1 p2 p3 (nI rows.length) op (nI F) (nI Gn) (cB C) off left wr rc th Z ++ [(o, .inl (cJ, 1, .inr (.inl u714)))]) ++ (mW cI cZ M ((homF off mm rows F (xs (i + 1))).1) off left wr rc mem oth ks vs sx op mps mpk msr mtg mfl mxs)) := hD
  refine lv_istore (lv' := [(6, .int r726), (5, .int kx714), (4, .int (nI i)), (3, .ref o), (2, .ref (M 0)), (1, .ref (G 0)), (0, .ref b)]) hx hb dL_law_729 hl (by decide) rfl (fun ls hl => ?_)
  refine lv_aload_n hx hb dL_law_731 rfl (lv_at hl 4 rfl) ?_
  have hPc := pp_r hP
  have hDc := pd_r hD
  have hFc := wfree hDc hS hA
  refine va_calli (va_runV (As := []) (rest := []) ⟨hx, hb, hml, hown, ht⟩ (c_X5_thrown l D cI cZ cS cJ H.size M ((homF off mm rows F (xs (i + 1))).1) off left wr rc mem oth ks vs sx op mps mpk msr mtg mfl mxs ) (xwV 0 ht kw3_136 kw3_133 kw1_11 kw3_134 kw3_135 rfl rfl (by decide +kernel) ⟨Nat.le_of_ble_eq_true rfl, Nat.le_of_ble_eq_true rfl⟩) ⟨PB.blind, va_recv hK hPc (ci := 5) (q0 := 0) rfl rfl, fun U hU hW => PB.mk hU hW hPc hK hDc⟩ rfl rfl hl.1 rfl (lv_room (Nat.le_of_ble_eq_true rfl)) dL_law_732 ⟨by first | exact hkc | (show kc + _ ≤ 601024; omega), by first | exact hnc | (show nc + _ ≤ 7293000; omega)⟩) hS (fun q _ h => hFc q h) hFc (fun r732 u732 t732 H1 locs ht1 hvm w732 hB hz1 hk1 hS => ?_)
  try dsimp only at w732 hB
  rw [ht1] at hB
  have hP := pr_r hP hD hk1 hB
  generalize H1 = H at hP hS ⊢
  have hP : va_P D vwCl ((cW cI cS G SA sf pa no pts rf rg (nI RL.length) pk ps pt L9 p1 p2 p3 (nI rows.length) op (nI F) (nI Gn) (cB C) off left wr rc th Z ++ [(o, .inl (cJ, 1, .inr (.inl u714)))]) ++ (mW cI cZ M ((homF off mm rows F (xs (i + 1))).1) off left wr rc mem oth ks vs sx op mps mpk msr mtg mfl mxs)) H := hP
  have hD : va_D A ((cW cI cS G SA sf pa no pts rf rg (nI RL.length) pk ps pt L9 p1 p2 p3 (nI rows.length) op (nI F) (nI Gn) (cB C) off left wr rc th Z ++ [(o, .inl (cJ, 1, .inr (.inl u714)))]) ++ (mW cI cZ M ((homF off mm rows F (xs (i + 1))).1) off left wr rc mem oth ks vs sx op mps mpk msr mtg mfl mxs)) := hD
  have hfin := fin_rd (X := homF off mm rows F (xs (i + 1))) w714
  refine lv_iload hx hb dL_law_735 (lv_at hl 1 rfl) ?_
  refine lv_icmp_eq (tgt := 742) hx hb dL_law_737 (by decide) (fun c737 => ?_) (fun c737 => ?_)
  · refine lv_iload hx hb dL_law_742 (lv_at hl 1 rfl) ?_
    refine lv_if_ne (tgt := 759) hx hb dL_law_744 (by decide) (fun c744 => ?_) (fun c744 => ?_)
    · refine lv_goto (tgt := 1225) hx hb dL_law_759 (by decide) ?_
      exact K (pa, no, pts, rf, rg, RL, pk, ps, pt, L9, p1, p2, p3, op, off, left, wr, rc, th, Z, mm, rows, F, Gn, C) ((homF off mm rows F (xs (i + 1))).1, off, left, wr, rc, mem, oth, ks, vs, sx, op, mps, mpk, msr, mtg, mfl, mxs) u714 _ _ ls ⟨by exact hP, by exact hD, hS, ⟨rfl, rfl, rfl, rfl, rfl, hRS, hmem, hRP⟩, hci, AX.mono (N := N) hAX (Nat.le_succ N), hthv⟩ (lv_sub hl [2, 3, 4, 5, 6] rfl)
    · refine lv_aload_n hx hb dL_law_747 rfl (lv_at hl 3 rfl) ?_
      refine lv_iconst (v := 0) hx hb dL_law_748 (by decide) ?_
      refine ya_lald hx hb hK hP 35 3 rfl rfl 0 rfl (by decide) (by decide) dL_law_749 ?_
      refine lv_iload hx hb dL_law_750 (lv_at hl 0 rfl) ?_
      refine lv_i2l (v := (r726 : Int32).toInt64) hx hb dL_law_752 rfl ?_
      refine W.lcmp hx hb dL_law_753 ?_
      refine lv_if_eq (tgt := 759) hx hb dL_law_754 (by decide) (fun c754 => ?_) (fun c754 => ?_)
      · refine lv_goto (tgt := 1225) hx hb dL_law_759 (by decide) ?_
        exact K (pa, no, pts, rf, rg, RL, pk, ps, pt, L9, p1, p2, p3, op, off, left, wr, rc, th, Z, mm, rows, F, Gn, C) ((homF off mm rows F (xs (i + 1))).1, off, left, wr, rc, mem, oth, ks, vs, sx, op, mps, mpk, msr, mtg, mfl, mxs) u714 _ _ ls ⟨by exact hP, by exact hD, hS, ⟨rfl, rfl, rfl, rfl, rfl, hRS, hmem, hRP⟩, hci, AX.mono (N := N) hAX (Nat.le_succ N), hthv⟩ (lv_sub hl [2, 3, 4, 5, 6] rfl)
      · exact absurd (lgc ((hfin.2 c744).trans (by rw [w726]))) c754
  · exact absurd (w732.trans hfin.1) c737

set_option maxHeartbeats 4000000 in
set_option maxRecDepth 100000 in
theorem law_state {p : Program} {l : Launch} {e : Env} {s : State} {m : MethodId} {below : List Frame} {meth : Method} {c : Code} {b L : Nat} {xs : Nat → Int32} {D : va_G} {cI cZ cS cJ : ClassId} {G SA M : Nat → Nat} {sf : Nat → Option Nat} {o : Nat} {A : Nat → Prop} (hl0 : l.stackTraces = false) (C9 : LA p s m c b L xs D cI cZ cS cJ SA sf A) {N kc nc i : Nat} {u : CT} {v : MT} {fo : Nat → Int64} {H : Heap} {locs : List Loc} {ls : Array Slot} {Q : State → Prop} (hI : LSt s D cI cZ cS cJ G SA sf M o A N u v fo H locs) (hN : N ≤ 511) (hi : i + 2 < L) (hkc : kc + 80 ≤ 601024) (hnc : nc + 8400 ≤ 7293000) (hl : lv_has ls 8 [(4, .int (nI i)), (3, .ref o), (2, .ref (M 0)), (1, .ref (G 0)), (0, .ref b)]) (K : ∀ (u1 : CT) (v1 : MT) (f1 : Nat → Int64) (H1 : Heap) (locs1 : List Loc) (ls1 : Array Slot), LSt s D cI cZ cS cJ G SA sf M o A (N + 1) u1 v1 f1 H1 locs1 → lv_has ls1 8 [(4, .int (nI i)), (3, .ref o), (2, .ref (M 0)), (1, .ref (G 0)), (0, .ref b)] → W p l e room_1 s m #[Value.ref b] below meth c H1 locs1 (kc + 80) (nc + 8400) Q (F0 m 1225 ls1 [])) : W p l e room_1 s m #[Value.ref b] below meth c H locs kc nc Q (F0 m 762 ls []) := by
  obtain ⟨hx, hb, hml, hown, ht, hX, hbl, hK, hTX, hNC, hsf, hLb, hAe⟩ := id C9
  have hA : ∀ q : Nat, s.heap.size ≤ q → A q := fun q h => by rw [hAe]; exact h
  have hbA : ¬ A b := by rw [hAe]; exact Nat.not_le.mpr hbl
  obtain ⟨hP, hD, hS, hrep, hciu, hai, hthu⟩ := hI
  obtain ⟨pa, no, pts, rf, rg, RL, pk, ps, pt, L9, p1, p2, p3, op, off, left, wr, rc, th, Z, mm, rows, F, Gn, C⟩ := u
  obtain ⟨mc0, moff, mleft, mwr, mrc, mem, oth, ks, vs, sx, mpl, mps, mpk, msr, mtg, mfl, mxs⟩ := v
  obtain ⟨e1, e2, e3, e4, e5, hRS, hmem, hRP⟩ : moff = off ∧ mleft = left ∧ mwr = wr ∧ mrc = rc ∧ mpl = op ∧ RS (stZ Z) ks vs sx ∧ (∀ n, n < 8 → mem n = nI (mm n)) ∧ RP rows F Gn C mps mpk msr mtg mfl mxs := hrep
  have e1 := e1.symm
  subst e1
  have e2 := e2.symm
  subst e2
  have e3 := e3.symm
  subst e3
  have e4 := e4.symm
  subst e4
  have e5 := e5.symm
  subst e5
  have hci : CI mm RL pts rf rg rows L9 p1 p2 p3 F Gn Z := hciu
  have hAX : AX N off (stZ Z) mm op rows F Gn C := hai
  obtain ⟨ho1, hp01, hSL, hM9, ⟨⟨hsr9, hp89, hrl9, hFl9, hGF9⟩, hCF9, hpl09, hrow9⟩, hLOC9, hAGR9, hth9⟩ := id hAX
  have hthv : th = nI (thF (stZ Z) (homeF mm rows F)) := hthu
  have hplr : op = 1 ∨ (op = 0 ∧ rows = []) := hp01.elim (fun q => Or.inr ⟨q, hpl09 q⟩) Or.inl
  have hlen9 : ∀ n, n < 8 → ((stZ Z) n).length < 999 := fun n hn => Nat.lt_of_le_of_lt (hSL n hn).2 (by omega)
  have hlen9k : ∀ n, n < 8 → ((stZ Z) n).length < 1000 := fun n hn => Nat.lt_trans (hlen9 n hn) (by decide)
  have hss9 : ∀ n, n < 8 → Srt ((stZ Z) n) := fun n hn => (hSL n hn).1
  have hpl9 : op = 0 → rows = [] ∧ F = 0 ∧ Gn = 0 ∧ C = false := fun q => by subst q; exact hAX.emp
  have hv9 : op = 0 → OW (stZ Z) (ownK mm) := fun q => by subst q; exact hAX.ow
  have h2569 : op = 0 → ∀ mo, (plUp (stZ Z) (ownK mo) 8).length ≤ 256 := fun q => by subst q; exact hAX.h256
  have hP : va_P D vwCl ((cW cI cS G SA sf pa no pts rf rg (nI RL.length) pk ps pt L9 p1 p2 p3 (nI rows.length) op (nI F) (nI Gn) (cB C) off left wr rc th Z ++ [(o, .inl (cJ, 1, .inr (.inl fo)))]) ++ (mW cI cZ M mc0 off left wr rc mem oth ks vs sx op mps mpk msr mtg mfl mxs)) H := hP
  have hD : va_D A ((cW cI cS G SA sf pa no pts rf rg (nI RL.length) pk ps pt L9 p1 p2 p3 (nI rows.length) op (nI F) (nI Gn) (cB C) off left wr rc th Z ++ [(o, .inl (cJ, 1, .inr (.inl fo)))]) ++ (mW cI cZ M mc0 off left wr rc mem oth ks vs sx op mps mpk msr mtg mfl mxs)) := hD
  refine lv_aload_n hx hb dL_law_762 rfl (lv_at hl 3 rfl) ?_
  refine lv_aload_n hx hb dL_law_763 rfl (lv_at hl 4 rfl) ?_
  refine lv_iload hx hb dL_law_764 (lv_at hl 0 rfl) ?_
  refine lv_iconst (v := 1) hx hb dL_law_766 (by decide) ?_
  refine lv_iadd hx hb dL_law_767 ?_
  refine ya_sld hx hb hX hbl hbA hS (i + 1) (by rw [show (1 : Int32) = nI 1 from rfl, nI_add]) (by omega) (by omega) dL_law_768 ?_
  refine lv_aload_n hx hb dL_law_769 rfl (lv_at hl 1 rfl) ?_
  have hPc := pp_l hP
  have hDc := pd_l hD
  have hFc := wfree hDc hS hA
  refine vx_calli (vx_runSX (As := [.ref (G 0), .int (xs (i + 1)), .ref o]) (rest := []) ⟨hx, hb, hml, hown, ht⟩ (c_L_state l hl0 D cI cZ cS cJ H.size G SA sf hsf pa no pts rf rg RL pk ps pt L9 p1 p2 p3 op off left wr rc th Z mm rows F Gn C hci o fo (xs (i + 1))) (xwSW 3 ht kw3_20 kw3_18 kw1_0 kw3_19 rfl rfl (by decide +kernel) ⟨Nat.le_of_ble_eq_true rfl, Nat.le_of_ble_eq_true rfl⟩) ⟨PZ.blind, fun U hU hW => PZ.mk hU hW hPc hK hDc hS hFc hTX hNC⟩ rfl rfl hl.1 rfl (lv_room (Nat.le_of_ble_eq_true rfl)) dL_law_770 ⟨hkc, hnc⟩) hS (fun q _ h => hFc q h) hFc (fun q _ h => hFc q h) (fun E ce q9 u9 t9 H1 locs ht1 hvm hpx _ _ _ _ _ _ _ => hpx.elim) (fun kx770 u770 t770 H1 locs ht1 hvm w770 hB hz1 hk1 hS => ?_)
  try dsimp only at w770 hB
  obtain ⟨hP1, hD1⟩ := hB
  rw [ht1] at hP1
  obtain ⟨hP, hD⟩ := pj_l hP hD hk1 hFc hP1 hD1
  generalize H1 = H at hP hS ⊢
  have hP : va_P D vwCl ((cW cI cS G SA sf pa no pts rf rg (nI RL.length) pk ps pt L9 p1 p2 p3 (nI rows.length) op (nI F) (nI Gn) (cB C) off left wr rc th Z ++ [(o, .inl (cJ, 1, .inr (.inl u770)))]) ++ (mW cI cZ M mc0 off left wr rc mem oth ks vs sx op mps mpk msr mtg mfl mxs)) H := hP
  have hD : va_D A ((cW cI cS G SA sf pa no pts rf rg (nI RL.length) pk ps pt L9 p1 p2 p3 (nI rows.length) op (nI F) (nI Gn) (cB C) off left wr rc th Z ++ [(o, .inl (cJ, 1, .inr (.inl u770)))]) ++ (mW cI cZ M mc0 off left wr rc mem oth ks vs sx op mps mpk msr mtg mfl mxs)) := hD
  refine lv_istore (lv' := [(5, .int kx770), (4, .int (nI i)), (3, .ref o), (2, .ref (M 0)), (1, .ref (G 0)), (0, .ref b)]) hx hb dL_law_773 hl (by decide) rfl (fun ls hl => ?_)
  refine lv_aload_n hx hb dL_law_775 rfl (lv_at hl 3 rfl) ?_
  refine lv_aload_n hx hb dL_law_776 rfl (lv_at hl 5 rfl) ?_
  refine lv_iload hx hb dL_law_777 (lv_at hl 1 rfl) ?_
  refine lv_iconst (v := 1) hx hb dL_law_779 (by decide) ?_
  refine lv_iadd hx hb dL_law_780 ?_
  refine ya_sld hx hb hX hbl hbA hS (i + 1) (by rw [show (1 : Int32) = nI 1 from rfl, nI_add]) (by omega) (by omega) dL_law_781 ?_
  have hPc := pp_r hP
  have hDc := pd_r hD
  have hFc := wfree hDc hS hA
  refine va_calli (va_runV (As := [.int (xs (i + 1))]) (rest := []) ⟨hx, hb, hml, hown, ht⟩ (c_X5_state l D cI cZ cS cJ H.size M mc0 off left wr rc mem oth ks vs sx op mps mpk msr mtg mfl mxs (stZ Z) hRS mm hmem hM9 rows F Gn C hRP hsr9 hplr hp89 ho1 (xs (i + 1))) (xwV 1 ht kw4_40 kw4_37 kw1_11 kw4_38 kw4_39 rfl rfl (by decide +kernel) ⟨Nat.le_of_ble_eq_true rfl, Nat.le_of_ble_eq_true rfl⟩) ⟨PB.blind, va_recv hK hPc (ci := 5) (q0 := 0) rfl rfl, fun U hU hW => PB.mk hU hW hPc hK hDc⟩ rfl rfl hl.1 rfl (lv_room (Nat.le_of_ble_eq_true rfl)) dL_law_782 ⟨by first | exact hkc | (show kc + _ ≤ 601024; omega), by first | exact hnc | (show nc + _ ≤ 7293000; omega)⟩) hS (fun q _ h => hFc q h) hFc (fun r782 u782 t782 H1 locs ht1 hvm w782 hB hz1 hk1 hS => ?_)
  try dsimp only at w782 hB
  obtain ⟨hP1, hD1⟩ := hB
  rw [ht1] at hP1
  obtain ⟨hP, hD⟩ := pj_r hP hD hk1 hFc hP1 hD1
  generalize H1 = H at hP hS ⊢
  have hP : va_P D vwCl ((cW cI cS G SA sf pa no pts rf rg (nI RL.length) pk ps pt L9 p1 p2 p3 (nI rows.length) op (nI F) (nI Gn) (cB C) off left wr rc th Z ++ [(o, .inl (cJ, 1, .inr (.inl u770)))]) ++ (mW cI cZ M ((staF off rows F Gn C (xs (i + 1))).1) off left wr rc mem oth ks vs sx op mps mpk msr mtg mfl mxs)) H := hP
  have hD : va_D A ((cW cI cS G SA sf pa no pts rf rg (nI RL.length) pk ps pt L9 p1 p2 p3 (nI rows.length) op (nI F) (nI Gn) (cB C) off left wr rc th Z ++ [(o, .inl (cJ, 1, .inr (.inl u770)))]) ++ (mW cI cZ M ((staF off rows F Gn C (xs (i + 1))).1) off left wr rc mem oth ks vs sx op mps mpk msr mtg mfl mxs)) := hD
  refine lv_istore (lv' := [(6, .int r782), (5, .int kx770), (4, .int (nI i)), (3, .ref o), (2, .ref (M 0)), (1, .ref (G 0)), (0, .ref b)]) hx hb dL_law_785 hl (by decide) rfl (fun ls hl => ?_)
  refine lv_aload_n hx hb dL_law_787 rfl (lv_at hl 4 rfl) ?_
  have hPc := pp_r hP
  have hDc := pd_r hD
  have hFc := wfree hDc hS hA
  refine va_calli (va_runV (As := []) (rest := []) ⟨hx, hb, hml, hown, ht⟩ (c_X5_thrown l D cI cZ cS cJ H.size M ((staF off rows F Gn C (xs (i + 1))).1) off left wr rc mem oth ks vs sx op mps mpk msr mtg mfl mxs ) (xwV 0 ht kw3_136 kw3_133 kw1_11 kw3_134 kw3_135 rfl rfl (by decide +kernel) ⟨Nat.le_of_ble_eq_true rfl, Nat.le_of_ble_eq_true rfl⟩) ⟨PB.blind, va_recv hK hPc (ci := 5) (q0 := 0) rfl rfl, fun U hU hW => PB.mk hU hW hPc hK hDc⟩ rfl rfl hl.1 rfl (lv_room (Nat.le_of_ble_eq_true rfl)) dL_law_788 ⟨by first | exact hkc | (show kc + _ ≤ 601024; omega), by first | exact hnc | (show nc + _ ≤ 7293000; omega)⟩) hS (fun q _ h => hFc q h) hFc (fun r788 u788 t788 H1 locs ht1 hvm w788 hB hz1 hk1 hS => ?_)
  try dsimp only at w788 hB
  rw [ht1] at hB
  have hP := pr_r hP hD hk1 hB
  generalize H1 = H at hP hS ⊢
  have hP : va_P D vwCl ((cW cI cS G SA sf pa no pts rf rg (nI RL.length) pk ps pt L9 p1 p2 p3 (nI rows.length) op (nI F) (nI Gn) (cB C) off left wr rc th Z ++ [(o, .inl (cJ, 1, .inr (.inl u770)))]) ++ (mW cI cZ M ((staF off rows F Gn C (xs (i + 1))).1) off left wr rc mem oth ks vs sx op mps mpk msr mtg mfl mxs)) H := hP
  have hD : va_D A ((cW cI cS G SA sf pa no pts rf rg (nI RL.length) pk ps pt L9 p1 p2 p3 (nI rows.length) op (nI F) (nI Gn) (cB C) off left wr rc th Z ++ [(o, .inl (cJ, 1, .inr (.inl u770)))]) ++ (mW cI cZ M ((staF off rows F Gn C (xs (i + 1))).1) off left wr rc mem oth ks vs sx op mps mpk msr mtg mfl mxs)) := hD
  have hfin := fin_rd (X := staF off rows F Gn C (xs (i + 1))) w770
  refine lv_iload hx hb dL_law_791 (lv_at hl 1 rfl) ?_
  refine lv_icmp_eq (tgt := 798) hx hb dL_law_793 (by decide) (fun c793 => ?_) (fun c793 => ?_)
  · refine lv_iload hx hb dL_law_798 (lv_at hl 1 rfl) ?_
    refine lv_if_ne (tgt := 815) hx hb dL_law_800 (by decide) (fun c800 => ?_) (fun c800 => ?_)
    · refine lv_goto (tgt := 1225) hx hb dL_law_815 (by decide) ?_
      exact K (pa, no, pts, rf, rg, RL, pk, ps, pt, L9, p1, p2, p3, op, off, left, wr, rc, th, Z, mm, rows, F, Gn, C) ((staF off rows F Gn C (xs (i + 1))).1, off, left, wr, rc, mem, oth, ks, vs, sx, op, mps, mpk, msr, mtg, mfl, mxs) u770 _ _ ls ⟨by exact hP, by exact hD, hS, ⟨rfl, rfl, rfl, rfl, rfl, hRS, hmem, hRP⟩, hci, AX.mono (N := N) hAX (Nat.le_succ N), hthv⟩ (lv_sub hl [2, 3, 4, 5, 6] rfl)
    · refine lv_aload_n hx hb dL_law_803 rfl (lv_at hl 3 rfl) ?_
      refine lv_iconst (v := 0) hx hb dL_law_804 (by decide) ?_
      refine ya_lald hx hb hK hP 35 3 rfl rfl 0 rfl (by decide) (by decide) dL_law_805 ?_
      refine lv_iload hx hb dL_law_806 (lv_at hl 0 rfl) ?_
      refine lv_i2l (v := (r782 : Int32).toInt64) hx hb dL_law_808 rfl ?_
      refine W.lcmp hx hb dL_law_809 ?_
      refine lv_if_eq (tgt := 815) hx hb dL_law_810 (by decide) (fun c810 => ?_) (fun c810 => ?_)
      · refine lv_goto (tgt := 1225) hx hb dL_law_815 (by decide) ?_
        exact K (pa, no, pts, rf, rg, RL, pk, ps, pt, L9, p1, p2, p3, op, off, left, wr, rc, th, Z, mm, rows, F, Gn, C) ((staF off rows F Gn C (xs (i + 1))).1, off, left, wr, rc, mem, oth, ks, vs, sx, op, mps, mpk, msr, mtg, mfl, mxs) u770 _ _ ls ⟨by exact hP, by exact hD, hS, ⟨rfl, rfl, rfl, rfl, rfl, hRS, hmem, hRP⟩, hci, AX.mono (N := N) hAX (Nat.le_succ N), hthv⟩ (lv_sub hl [2, 3, 4, 5, 6] rfl)
      · exact absurd (lgc ((hfin.2 c800).trans (by rw [w782]))) c810
  · exact absurd (w788.trans hfin.1) c793

set_option maxHeartbeats 4000000 in
set_option maxRecDepth 100000 in
theorem law_holds {p : Program} {l : Launch} {e : Env} {s : State} {m : MethodId} {below : List Frame} {meth : Method} {c : Code} {b L : Nat} {xs : Nat → Int32} {D : va_G} {cI cZ cS cJ : ClassId} {G SA M : Nat → Nat} {sf : Nat → Option Nat} {o : Nat} {A : Nat → Prop} (hl0 : l.stackTraces = false) (C9 : LA p s m c b L xs D cI cZ cS cJ SA sf A) {N kc nc i : Nat} {u : CT} {v : MT} {fo : Nat → Int64} {H : Heap} {locs : List Loc} {ls : Array Slot} {Q : State → Prop} (hI : LSt s D cI cZ cS cJ G SA sf M o A N u v fo H locs) (hN : N ≤ 511) (hi : i + 2 < L) (hkc : kc + 80 ≤ 601024) (hnc : nc + 8400 ≤ 7293000) (hl : lv_has ls 8 [(4, .int (nI i)), (3, .ref o), (2, .ref (M 0)), (1, .ref (G 0)), (0, .ref b)]) (K : ∀ (u1 : CT) (v1 : MT) (f1 : Nat → Int64) (H1 : Heap) (locs1 : List Loc) (ls1 : Array Slot), LSt s D cI cZ cS cJ G SA sf M o A (N + 1) u1 v1 f1 H1 locs1 → lv_has ls1 8 [(4, .int (nI i)), (3, .ref o), (2, .ref (M 0)), (1, .ref (G 0)), (0, .ref b)] → W p l e room_1 s m #[Value.ref b] below meth c H1 locs1 (kc + 80) (nc + 8400) Q (F0 m 1225 ls1 [])) : W p l e room_1 s m #[Value.ref b] below meth c H locs kc nc Q (F0 m 818 ls []) := by
  obtain ⟨hx, hb, hml, hown, ht, hX, hbl, hK, hTX, hNC, hsf, hLb, hAe⟩ := id C9
  have hA : ∀ q : Nat, s.heap.size ≤ q → A q := fun q h => by rw [hAe]; exact h
  have hbA : ¬ A b := by rw [hAe]; exact Nat.not_le.mpr hbl
  obtain ⟨hP, hD, hS, hrep, hciu, hai, hthu⟩ := hI
  obtain ⟨pa, no, pts, rf, rg, RL, pk, ps, pt, L9, p1, p2, p3, op, off, left, wr, rc, th, Z, mm, rows, F, Gn, C⟩ := u
  obtain ⟨mc0, moff, mleft, mwr, mrc, mem, oth, ks, vs, sx, mpl, mps, mpk, msr, mtg, mfl, mxs⟩ := v
  obtain ⟨e1, e2, e3, e4, e5, hRS, hmem, hRP⟩ : moff = off ∧ mleft = left ∧ mwr = wr ∧ mrc = rc ∧ mpl = op ∧ RS (stZ Z) ks vs sx ∧ (∀ n, n < 8 → mem n = nI (mm n)) ∧ RP rows F Gn C mps mpk msr mtg mfl mxs := hrep
  have e1 := e1.symm
  subst e1
  have e2 := e2.symm
  subst e2
  have e3 := e3.symm
  subst e3
  have e4 := e4.symm
  subst e4
  have e5 := e5.symm
  subst e5
  have hci : CI mm RL pts rf rg rows L9 p1 p2 p3 F Gn Z := hciu
  have hAX : AX N off (stZ Z) mm op rows F Gn C := hai
  obtain ⟨ho1, hp01, hSL, hM9, ⟨⟨hsr9, hp89, hrl9, hFl9, hGF9⟩, hCF9, hpl09, hrow9⟩, hLOC9, hAGR9, hth9⟩ := id hAX
  have hthv : th = nI (thF (stZ Z) (homeF mm rows F)) := hthu
  have hplr : op = 1 ∨ (op = 0 ∧ rows = []) := hp01.elim (fun q => Or.inr ⟨q, hpl09 q⟩) Or.inl
  have hlen9 : ∀ n, n < 8 → ((stZ Z) n).length < 999 := fun n hn => Nat.lt_of_le_of_lt (hSL n hn).2 (by omega)
  have hlen9k : ∀ n, n < 8 → ((stZ Z) n).length < 1000 := fun n hn => Nat.lt_trans (hlen9 n hn) (by decide)
  have hss9 : ∀ n, n < 8 → Srt ((stZ Z) n) := fun n hn => (hSL n hn).1
  have hpl9 : op = 0 → rows = [] ∧ F = 0 ∧ Gn = 0 ∧ C = false := fun q => by subst q; exact hAX.emp
  have hv9 : op = 0 → OW (stZ Z) (ownK mm) := fun q => by subst q; exact hAX.ow
  have h2569 : op = 0 → ∀ mo, (plUp (stZ Z) (ownK mo) 8).length ≤ 256 := fun q => by subst q; exact hAX.h256
  have hP : va_P D vwCl ((cW cI cS G SA sf pa no pts rf rg (nI RL.length) pk ps pt L9 p1 p2 p3 (nI rows.length) op (nI F) (nI Gn) (cB C) off left wr rc th Z ++ [(o, .inl (cJ, 1, .inr (.inl fo)))]) ++ (mW cI cZ M mc0 off left wr rc mem oth ks vs sx op mps mpk msr mtg mfl mxs)) H := hP
  have hD : va_D A ((cW cI cS G SA sf pa no pts rf rg (nI RL.length) pk ps pt L9 p1 p2 p3 (nI rows.length) op (nI F) (nI Gn) (cB C) off left wr rc th Z ++ [(o, .inl (cJ, 1, .inr (.inl fo)))]) ++ (mW cI cZ M mc0 off left wr rc mem oth ks vs sx op mps mpk msr mtg mfl mxs)) := hD
  refine lv_aload_n hx hb dL_law_818 rfl (lv_at hl 3 rfl) ?_
  refine lv_aload_n hx hb dL_law_819 rfl (lv_at hl 4 rfl) ?_
  refine lv_iload hx hb dL_law_820 (lv_at hl 0 rfl) ?_
  refine lv_iconst (v := 1) hx hb dL_law_822 (by decide) ?_
  refine lv_iadd hx hb dL_law_823 ?_
  refine ya_sld hx hb hX hbl hbA hS (i + 1) (by rw [show (1 : Int32) = nI 1 from rfl, nI_add]) (by omega) (by omega) dL_law_824 ?_
  refine lv_aload_n hx hb dL_law_825 rfl (lv_at hl 4 rfl) ?_
  refine lv_iload hx hb dL_law_826 (lv_at hl 0 rfl) ?_
  refine lv_iconst (v := 2) hx hb dL_law_828 (by decide) ?_
  refine lv_iadd hx hb dL_law_829 ?_
  refine ya_sld hx hb hX hbl hbA hS (i + 2) (by rw [show (2 : Int32) = nI 2 from rfl, nI_add]) (by omega) (by omega) dL_law_830 ?_
  refine lv_aload_n hx hb dL_law_831 rfl (lv_at hl 1 rfl) ?_
  have hPc := pp_l hP
  have hDc := pd_l hD
  have hFc := wfree hDc hS hA
  refine vx_calli (vx_runSX (As := [.ref (G 0), .int (xs (i + 1)), .int (xs (i + 2)), .ref o]) (rest := []) ⟨hx, hb, hml, hown, ht⟩ (c_L_holds l hl0 D cI cZ cS cJ H.size G SA sf hsf pa no pts rf rg RL pk ps pt L9 p1 p2 p3 op off left wr rc th Z mm rows F Gn C hci o fo (xs (i + 1)) (xs (i + 2))) (xwSW 4 ht kw3_27 kw3_25 kw1_0 kw3_26 rfl rfl (by decide +kernel) ⟨Nat.le_of_ble_eq_true rfl, Nat.le_of_ble_eq_true rfl⟩) ⟨PZ.blind, fun U hU hW => PZ.mk hU hW hPc hK hDc hS hFc hTX hNC⟩ rfl rfl hl.1 rfl (lv_room (Nat.le_of_ble_eq_true rfl)) dL_law_832 ⟨hkc, hnc⟩) hS (fun q _ h => hFc q h) hFc (fun q _ h => hFc q h) (fun E ce q9 u9 t9 H1 locs ht1 hvm hpx _ _ _ _ _ _ _ => hpx.elim) (fun kx832 u832 t832 H1 locs ht1 hvm w832 hB hz1 hk1 hS => ?_)
  try dsimp only at w832 hB
  obtain ⟨hP1, hD1⟩ := hB
  rw [ht1] at hP1
  obtain ⟨hP, hD⟩ := pj_l hP hD hk1 hFc hP1 hD1
  generalize H1 = H at hP hS ⊢
  have hP : va_P D vwCl ((cW cI cS G SA sf pa no pts rf rg (nI RL.length) pk ps pt L9 p1 p2 p3 (nI rows.length) op (nI F) (nI Gn) (cB C) off left wr rc th Z ++ [(o, .inl (cJ, 1, .inr (.inl u832)))]) ++ (mW cI cZ M mc0 off left wr rc mem oth ks vs sx op mps mpk msr mtg mfl mxs)) H := hP
  have hD : va_D A ((cW cI cS G SA sf pa no pts rf rg (nI RL.length) pk ps pt L9 p1 p2 p3 (nI rows.length) op (nI F) (nI Gn) (cB C) off left wr rc th Z ++ [(o, .inl (cJ, 1, .inr (.inl u832)))]) ++ (mW cI cZ M mc0 off left wr rc mem oth ks vs sx op mps mpk msr mtg mfl mxs)) := hD
  refine lv_istore (lv' := [(5, .int kx832), (4, .int (nI i)), (3, .ref o), (2, .ref (M 0)), (1, .ref (G 0)), (0, .ref b)]) hx hb dL_law_835 hl (by decide) rfl (fun ls hl => ?_)
  refine lv_aload_n hx hb dL_law_837 rfl (lv_at hl 3 rfl) ?_
  refine lv_aload_n hx hb dL_law_838 rfl (lv_at hl 5 rfl) ?_
  refine lv_iload hx hb dL_law_839 (lv_at hl 1 rfl) ?_
  refine lv_iconst (v := 1) hx hb dL_law_841 (by decide) ?_
  refine lv_iadd hx hb dL_law_842 ?_
  refine ya_sld hx hb hX hbl hbA hS (i + 1) (by rw [show (1 : Int32) = nI 1 from rfl, nI_add]) (by omega) (by omega) dL_law_843 ?_
  refine lv_aload_n hx hb dL_law_844 rfl (lv_at hl 5 rfl) ?_
  refine lv_iload hx hb dL_law_845 (lv_at hl 1 rfl) ?_
  refine lv_iconst (v := 2) hx hb dL_law_847 (by decide) ?_
  refine lv_iadd hx hb dL_law_848 ?_
  refine ya_sld hx hb hX hbl hbA hS (i + 2) (by rw [show (2 : Int32) = nI 2 from rfl, nI_add]) (by omega) (by omega) dL_law_849 ?_
  have hPc := pp_r hP
  have hDc := pd_r hD
  have hFc := wfree hDc hS hA
  refine va_calli (va_runV (As := [.int (xs (i + 1)), .int (xs (i + 2))]) (rest := []) ⟨hx, hb, hml, hown, ht⟩ (c_X5_holds l D cI cZ cS cJ H.size M mc0 off left wr rc mem oth ks vs sx op mps mpk msr mtg mfl mxs (stZ Z) hRS (xs (i + 1)) (xs (i + 2))) (xwV 2 ht kw4_44 kw4_41 kw1_11 kw4_42 kw4_43 rfl rfl (by decide +kernel) ⟨Nat.le_of_ble_eq_true rfl, Nat.le_of_ble_eq_true rfl⟩) ⟨PB.blind, va_recv hK hPc (ci := 5) (q0 := 0) rfl rfl, fun U hU hW => PB.mk hU hW hPc hK hDc⟩ rfl rfl hl.1 rfl (lv_room (Nat.le_of_ble_eq_true rfl)) dL_law_850 ⟨by first | exact hkc | (show kc + _ ≤ 601024; omega), by first | exact hnc | (show nc + _ ≤ 7293000; omega)⟩) hS (fun q _ h => hFc q h) hFc (fun r850 u850 t850 H1 locs ht1 hvm w850 hB hz1 hk1 hS => ?_)
  try dsimp only at w850 hB
  obtain ⟨hP1, hD1⟩ := hB
  rw [ht1] at hP1
  obtain ⟨hP, hD⟩ := pj_r hP hD hk1 hFc hP1 hD1
  generalize H1 = H at hP hS ⊢
  have hP : va_P D vwCl ((cW cI cS G SA sf pa no pts rf rg (nI RL.length) pk ps pt L9 p1 p2 p3 (nI rows.length) op (nI F) (nI Gn) (cB C) off left wr rc th Z ++ [(o, .inl (cJ, 1, .inr (.inl u832)))]) ++ (mW cI cZ M ((hldF (stZ Z) (xs (i + 1)) (xs (i + 2))).1) off left wr rc mem oth ks vs sx op mps mpk msr mtg mfl mxs)) H := hP
  have hD : va_D A ((cW cI cS G SA sf pa no pts rf rg (nI RL.length) pk ps pt L9 p1 p2 p3 (nI rows.length) op (nI F) (nI Gn) (cB C) off left wr rc th Z ++ [(o, .inl (cJ, 1, .inr (.inl u832)))]) ++ (mW cI cZ M ((hldF (stZ Z) (xs (i + 1)) (xs (i + 2))).1) off left wr rc mem oth ks vs sx op mps mpk msr mtg mfl mxs)) := hD
  refine lv_istore (lv' := [(6, .int r850), (5, .int kx832), (4, .int (nI i)), (3, .ref o), (2, .ref (M 0)), (1, .ref (G 0)), (0, .ref b)]) hx hb dL_law_853 hl (by decide) rfl (fun ls hl => ?_)
  refine lv_aload_n hx hb dL_law_855 rfl (lv_at hl 4 rfl) ?_
  have hPc := pp_r hP
  have hDc := pd_r hD
  have hFc := wfree hDc hS hA
  refine va_calli (va_runV (As := []) (rest := []) ⟨hx, hb, hml, hown, ht⟩ (c_X5_thrown l D cI cZ cS cJ H.size M ((hldF (stZ Z) (xs (i + 1)) (xs (i + 2))).1) off left wr rc mem oth ks vs sx op mps mpk msr mtg mfl mxs ) (xwV 0 ht kw3_136 kw3_133 kw1_11 kw3_134 kw3_135 rfl rfl (by decide +kernel) ⟨Nat.le_of_ble_eq_true rfl, Nat.le_of_ble_eq_true rfl⟩) ⟨PB.blind, va_recv hK hPc (ci := 5) (q0 := 0) rfl rfl, fun U hU hW => PB.mk hU hW hPc hK hDc⟩ rfl rfl hl.1 rfl (lv_room (Nat.le_of_ble_eq_true rfl)) dL_law_856 ⟨by first | exact hkc | (show kc + _ ≤ 601024; omega), by first | exact hnc | (show nc + _ ≤ 7293000; omega)⟩) hS (fun q _ h => hFc q h) hFc (fun r856 u856 t856 H1 locs ht1 hvm w856 hB hz1 hk1 hS => ?_)
  try dsimp only at w856 hB
  rw [ht1] at hB
  have hP := pr_r hP hD hk1 hB
  generalize H1 = H at hP hS ⊢
  have hP : va_P D vwCl ((cW cI cS G SA sf pa no pts rf rg (nI RL.length) pk ps pt L9 p1 p2 p3 (nI rows.length) op (nI F) (nI Gn) (cB C) off left wr rc th Z ++ [(o, .inl (cJ, 1, .inr (.inl u832)))]) ++ (mW cI cZ M ((hldF (stZ Z) (xs (i + 1)) (xs (i + 2))).1) off left wr rc mem oth ks vs sx op mps mpk msr mtg mfl mxs)) H := hP
  have hD : va_D A ((cW cI cS G SA sf pa no pts rf rg (nI RL.length) pk ps pt L9 p1 p2 p3 (nI rows.length) op (nI F) (nI Gn) (cB C) off left wr rc th Z ++ [(o, .inl (cJ, 1, .inr (.inl u832)))]) ++ (mW cI cZ M ((hldF (stZ Z) (xs (i + 1)) (xs (i + 2))).1) off left wr rc mem oth ks vs sx op mps mpk msr mtg mfl mxs)) := hD
  have hfin := fin_rd (X := hldF (stZ Z) (xs (i + 1)) (xs (i + 2))) w832
  refine lv_iload hx hb dL_law_859 (lv_at hl 1 rfl) ?_
  refine lv_icmp_eq (tgt := 866) hx hb dL_law_861 (by decide) (fun c861 => ?_) (fun c861 => ?_)
  · refine lv_iload hx hb dL_law_866 (lv_at hl 1 rfl) ?_
    refine lv_if_ne (tgt := 890) hx hb dL_law_868 (by decide) (fun c868 => ?_) (fun c868 => ?_)
    · refine lv_goto (tgt := 1225) hx hb dL_law_890 (by decide) ?_
      exact K (pa, no, pts, rf, rg, RL, pk, ps, pt, L9, p1, p2, p3, op, off, left, wr, rc, th, Z, mm, rows, F, Gn, C) ((hldF (stZ Z) (xs (i + 1)) (xs (i + 2))).1, off, left, wr, rc, mem, oth, ks, vs, sx, op, mps, mpk, msr, mtg, mfl, mxs) u832 _ _ ls ⟨by exact hP, by exact hD, hS, ⟨rfl, rfl, rfl, rfl, rfl, hRS, hmem, hRP⟩, hci, AX.mono (N := N) hAX (Nat.le_succ N), hthv⟩ (lv_sub hl [2, 3, 4, 5, 6] rfl)
    · refine lv_aload_n hx hb dL_law_871 rfl (lv_at hl 3 rfl) ?_
      refine lv_iconst (v := 0) hx hb dL_law_872 (by decide) ?_
      refine ya_lald hx hb hK hP 35 3 rfl rfl 0 rfl (by decide) (by decide) dL_law_873 ?_
      refine lv_iload hx hb dL_law_874 (lv_at hl 0 rfl) ?_
      refine lv_if_eq (tgt := 883) hx hb dL_law_876 (by decide) (fun c876 => ?_) (fun c876 => ?_)
      · refine lv_lconst (v := 0) hx hb dL_law_883 (by decide) ?_
        refine W.lcmp hx hb dL_law_884 ?_
        refine lv_if_eq (tgt := 890) hx hb dL_law_885 (by decide) (fun c885 => ?_) (fun c885 => ?_)
        · refine lv_goto (tgt := 1225) hx hb dL_law_890 (by decide) ?_
          exact K (pa, no, pts, rf, rg, RL, pk, ps, pt, L9, p1, p2, p3, op, off, left, wr, rc, th, Z, mm, rows, F, Gn, C) ((hldF (stZ Z) (xs (i + 1)) (xs (i + 2))).1, off, left, wr, rc, mem, oth, ks, vs, sx, op, mps, mpk, msr, mtg, mfl, mxs) u832 _ _ ls ⟨by exact hP, by exact hD, hS, ⟨rfl, rfl, rfl, rfl, rfl, hRS, hmem, hRP⟩, hci, AX.mono (N := N) hAX (Nat.le_succ N), hthv⟩ (lv_sub hl [2, 3, 4, 5, 6] rfl)
        · exact absurd (lgc ((hfin.2 c868).trans (by
            rw [← w850]
            first | (rw [c876]; rfl) | (rw [(hld_01 w850).elim (fun q => absurd q c876) id]; rfl)))) c885
      · refine lv_lconst (v := 1) hx hb dL_law_879 (by decide) ?_
        refine lv_goto (tgt := 884) hx hb dL_law_880 (by decide) ?_
        refine W.lcmp hx hb dL_law_884 ?_
        refine lv_if_eq (tgt := 890) hx hb dL_law_885 (by decide) (fun c885 => ?_) (fun c885 => ?_)
        · refine lv_goto (tgt := 1225) hx hb dL_law_890 (by decide) ?_
          exact K (pa, no, pts, rf, rg, RL, pk, ps, pt, L9, p1, p2, p3, op, off, left, wr, rc, th, Z, mm, rows, F, Gn, C) ((hldF (stZ Z) (xs (i + 1)) (xs (i + 2))).1, off, left, wr, rc, mem, oth, ks, vs, sx, op, mps, mpk, msr, mtg, mfl, mxs) u832 _ _ ls ⟨by exact hP, by exact hD, hS, ⟨rfl, rfl, rfl, rfl, rfl, hRS, hmem, hRP⟩, hci, AX.mono (N := N) hAX (Nat.le_succ N), hthv⟩ (lv_sub hl [2, 3, 4, 5, 6] rfl)
        · exact absurd (lgc ((hfin.2 c868).trans (by
            rw [← w850]
            first | (rw [c876]; rfl) | (rw [(hld_01 w850).elim (fun q => absurd q c876) id]; rfl)))) c885
  · exact absurd (w856.trans hfin.1) c861

set_option maxHeartbeats 4000000 in
set_option maxRecDepth 100000 in
theorem law_size {p : Program} {l : Launch} {e : Env} {s : State} {m : MethodId} {below : List Frame} {meth : Method} {c : Code} {b L : Nat} {xs : Nat → Int32} {D : va_G} {cI cZ cS cJ : ClassId} {G SA M : Nat → Nat} {sf : Nat → Option Nat} {o : Nat} {A : Nat → Prop} (hl0 : l.stackTraces = false) (C9 : LA p s m c b L xs D cI cZ cS cJ SA sf A) {N kc nc i : Nat} {u : CT} {v : MT} {fo : Nat → Int64} {H : Heap} {locs : List Loc} {ls : Array Slot} {Q : State → Prop} (hI : LSt s D cI cZ cS cJ G SA sf M o A N u v fo H locs) (hN : N ≤ 511) (hi : i + 2 < L) (hkc : kc + 80 ≤ 601024) (hnc : nc + 8400 ≤ 7293000) (hl : lv_has ls 8 [(4, .int (nI i)), (3, .ref o), (2, .ref (M 0)), (1, .ref (G 0)), (0, .ref b)]) (K : ∀ (u1 : CT) (v1 : MT) (f1 : Nat → Int64) (H1 : Heap) (locs1 : List Loc) (ls1 : Array Slot), LSt s D cI cZ cS cJ G SA sf M o A (N + 1) u1 v1 f1 H1 locs1 → lv_has ls1 8 [(4, .int (nI i)), (3, .ref o), (2, .ref (M 0)), (1, .ref (G 0)), (0, .ref b)] → W p l e room_1 s m #[Value.ref b] below meth c H1 locs1 (kc + 80) (nc + 8400) Q (F0 m 1225 ls1 [])) : W p l e room_1 s m #[Value.ref b] below meth c H locs kc nc Q (F0 m 893 ls []) := by
  obtain ⟨hx, hb, hml, hown, ht, hX, hbl, hK, hTX, hNC, hsf, hLb, hAe⟩ := id C9
  have hA : ∀ q : Nat, s.heap.size ≤ q → A q := fun q h => by rw [hAe]; exact h
  have hbA : ¬ A b := by rw [hAe]; exact Nat.not_le.mpr hbl
  obtain ⟨hP, hD, hS, hrep, hciu, hai, hthu⟩ := hI
  obtain ⟨pa, no, pts, rf, rg, RL, pk, ps, pt, L9, p1, p2, p3, op, off, left, wr, rc, th, Z, mm, rows, F, Gn, C⟩ := u
  obtain ⟨mc0, moff, mleft, mwr, mrc, mem, oth, ks, vs, sx, mpl, mps, mpk, msr, mtg, mfl, mxs⟩ := v
  obtain ⟨e1, e2, e3, e4, e5, hRS, hmem, hRP⟩ : moff = off ∧ mleft = left ∧ mwr = wr ∧ mrc = rc ∧ mpl = op ∧ RS (stZ Z) ks vs sx ∧ (∀ n, n < 8 → mem n = nI (mm n)) ∧ RP rows F Gn C mps mpk msr mtg mfl mxs := hrep
  have e1 := e1.symm
  subst e1
  have e2 := e2.symm
  subst e2
  have e3 := e3.symm
  subst e3
  have e4 := e4.symm
  subst e4
  have e5 := e5.symm
  subst e5
  have hci : CI mm RL pts rf rg rows L9 p1 p2 p3 F Gn Z := hciu
  have hAX : AX N off (stZ Z) mm op rows F Gn C := hai
  obtain ⟨ho1, hp01, hSL, hM9, ⟨⟨hsr9, hp89, hrl9, hFl9, hGF9⟩, hCF9, hpl09, hrow9⟩, hLOC9, hAGR9, hth9⟩ := id hAX
  have hthv : th = nI (thF (stZ Z) (homeF mm rows F)) := hthu
  have hplr : op = 1 ∨ (op = 0 ∧ rows = []) := hp01.elim (fun q => Or.inr ⟨q, hpl09 q⟩) Or.inl
  have hlen9 : ∀ n, n < 8 → ((stZ Z) n).length < 999 := fun n hn => Nat.lt_of_le_of_lt (hSL n hn).2 (by omega)
  have hlen9k : ∀ n, n < 8 → ((stZ Z) n).length < 1000 := fun n hn => Nat.lt_trans (hlen9 n hn) (by decide)
  have hss9 : ∀ n, n < 8 → Srt ((stZ Z) n) := fun n hn => (hSL n hn).1
  have hpl9 : op = 0 → rows = [] ∧ F = 0 ∧ Gn = 0 ∧ C = false := fun q => by subst q; exact hAX.emp
  have hv9 : op = 0 → OW (stZ Z) (ownK mm) := fun q => by subst q; exact hAX.ow
  have h2569 : op = 0 → ∀ mo, (plUp (stZ Z) (ownK mo) 8).length ≤ 256 := fun q => by subst q; exact hAX.h256
  have hP : va_P D vwCl ((cW cI cS G SA sf pa no pts rf rg (nI RL.length) pk ps pt L9 p1 p2 p3 (nI rows.length) op (nI F) (nI Gn) (cB C) off left wr rc th Z ++ [(o, .inl (cJ, 1, .inr (.inl fo)))]) ++ (mW cI cZ M mc0 off left wr rc mem oth ks vs sx op mps mpk msr mtg mfl mxs)) H := hP
  have hD : va_D A ((cW cI cS G SA sf pa no pts rf rg (nI RL.length) pk ps pt L9 p1 p2 p3 (nI rows.length) op (nI F) (nI Gn) (cB C) off left wr rc th Z ++ [(o, .inl (cJ, 1, .inr (.inl fo)))]) ++ (mW cI cZ M mc0 off left wr rc mem oth ks vs sx op mps mpk msr mtg mfl mxs)) := hD
  refine lv_aload_n hx hb dL_law_893 rfl (lv_at hl 3 rfl) ?_
  refine lv_aload_n hx hb dL_law_894 rfl (lv_at hl 4 rfl) ?_
  refine lv_iload hx hb dL_law_895 (lv_at hl 0 rfl) ?_
  refine lv_iconst (v := 1) hx hb dL_law_897 (by decide) ?_
  refine lv_iadd hx hb dL_law_898 ?_
  refine ya_sld hx hb hX hbl hbA hS (i + 1) (by rw [show (1 : Int32) = nI 1 from rfl, nI_add]) (by omega) (by omega) dL_law_899 ?_
  refine lv_aload_n hx hb dL_law_900 rfl (lv_at hl 1 rfl) ?_
  have hPc := pp_l hP
  have hDc := pd_l hD
  have hFc := wfree hDc hS hA
  refine vx_calli (vx_runSX (As := [.ref (G 0), .int (xs (i + 1)), .ref o]) (rest := []) ⟨hx, hb, hml, hown, ht⟩ (c_L_size l hl0 D cI cZ cS cJ H.size G SA sf hsf pa no pts rf rg RL pk ps pt L9 p1 p2 p3 op off left wr rc th Z mm rows F Gn C hci o fo (xs (i + 1))) (xwSW 3 ht kw3_34 kw3_32 kw1_0 kw3_33 rfl rfl (by decide +kernel) ⟨Nat.le_of_ble_eq_true rfl, Nat.le_of_ble_eq_true rfl⟩) ⟨PZ.blind, fun U hU hW => PZ.mk hU hW hPc hK hDc hS hFc hTX hNC⟩ rfl rfl hl.1 rfl (lv_room (Nat.le_of_ble_eq_true rfl)) dL_law_901 ⟨hkc, hnc⟩) hS (fun q _ h => hFc q h) hFc (fun q _ h => hFc q h) (fun E ce q9 u9 t9 H1 locs ht1 hvm hpx _ _ _ _ _ _ _ => hpx.elim) (fun kx901 u901 t901 H1 locs ht1 hvm w901 hB hz1 hk1 hS => ?_)
  try dsimp only at w901 hB
  obtain ⟨hP1, hD1⟩ := hB
  rw [ht1] at hP1
  obtain ⟨hP, hD⟩ := pj_l hP hD hk1 hFc hP1 hD1
  generalize H1 = H at hP hS ⊢
  have hP : va_P D vwCl ((cW cI cS G SA sf pa no pts rf rg (nI RL.length) pk ps pt L9 p1 p2 p3 (nI rows.length) op (nI F) (nI Gn) (cB C) off left wr rc th Z ++ [(o, .inl (cJ, 1, .inr (.inl u901)))]) ++ (mW cI cZ M mc0 off left wr rc mem oth ks vs sx op mps mpk msr mtg mfl mxs)) H := hP
  have hD : va_D A ((cW cI cS G SA sf pa no pts rf rg (nI RL.length) pk ps pt L9 p1 p2 p3 (nI rows.length) op (nI F) (nI Gn) (cB C) off left wr rc th Z ++ [(o, .inl (cJ, 1, .inr (.inl u901)))]) ++ (mW cI cZ M mc0 off left wr rc mem oth ks vs sx op mps mpk msr mtg mfl mxs)) := hD
  refine lv_istore (lv' := [(5, .int kx901), (4, .int (nI i)), (3, .ref o), (2, .ref (M 0)), (1, .ref (G 0)), (0, .ref b)]) hx hb dL_law_904 hl (by decide) rfl (fun ls hl => ?_)
  refine lv_aload_n hx hb dL_law_906 rfl (lv_at hl 3 rfl) ?_
  refine lv_aload_n hx hb dL_law_907 rfl (lv_at hl 5 rfl) ?_
  refine lv_iload hx hb dL_law_908 (lv_at hl 1 rfl) ?_
  refine lv_iconst (v := 1) hx hb dL_law_910 (by decide) ?_
  refine lv_iadd hx hb dL_law_911 ?_
  refine ya_sld hx hb hX hbl hbA hS (i + 1) (by rw [show (1 : Int32) = nI 1 from rfl, nI_add]) (by omega) (by omega) dL_law_912 ?_
  have hPc := pp_r hP
  have hDc := pd_r hD
  have hFc := wfree hDc hS hA
  refine va_calli (va_runV (As := [.int (xs (i + 1))]) (rest := []) ⟨hx, hb, hml, hown, ht⟩ (c_X5_size l D cI cZ cS cJ H.size M mc0 off left wr rc mem oth ks vs sx op mps mpk msr mtg mfl mxs (stZ Z) hRS (xs (i + 1))) (xwV 1 ht kw4_48 kw4_45 kw1_11 kw4_46 kw4_47 rfl rfl (by decide +kernel) ⟨Nat.le_of_ble_eq_true rfl, Nat.le_of_ble_eq_true rfl⟩) ⟨PB.blind, va_recv hK hPc (ci := 5) (q0 := 0) rfl rfl, fun U hU hW => PB.mk hU hW hPc hK hDc⟩ rfl rfl hl.1 rfl (lv_room (Nat.le_of_ble_eq_true rfl)) dL_law_913 ⟨by first | exact hkc | (show kc + _ ≤ 601024; omega), by first | exact hnc | (show nc + _ ≤ 7293000; omega)⟩) hS (fun q _ h => hFc q h) hFc (fun r913 u913 t913 H1 locs ht1 hvm w913 hB hz1 hk1 hS => ?_)
  try dsimp only at w913 hB
  obtain ⟨hP1, hD1⟩ := hB
  rw [ht1] at hP1
  obtain ⟨hP, hD⟩ := pj_r hP hD hk1 hFc hP1 hD1
  generalize H1 = H at hP hS ⊢
  have hP : va_P D vwCl ((cW cI cS G SA sf pa no pts rf rg (nI RL.length) pk ps pt L9 p1 p2 p3 (nI rows.length) op (nI F) (nI Gn) (cB C) off left wr rc th Z ++ [(o, .inl (cJ, 1, .inr (.inl u901)))]) ++ (mW cI cZ M ((sizF (stZ Z) (xs (i + 1))).1) off left wr rc mem oth ks vs sx op mps mpk msr mtg mfl mxs)) H := hP
  have hD : va_D A ((cW cI cS G SA sf pa no pts rf rg (nI RL.length) pk ps pt L9 p1 p2 p3 (nI rows.length) op (nI F) (nI Gn) (cB C) off left wr rc th Z ++ [(o, .inl (cJ, 1, .inr (.inl u901)))]) ++ (mW cI cZ M ((sizF (stZ Z) (xs (i + 1))).1) off left wr rc mem oth ks vs sx op mps mpk msr mtg mfl mxs)) := hD
  refine lv_istore (lv' := [(6, .int r913), (5, .int kx901), (4, .int (nI i)), (3, .ref o), (2, .ref (M 0)), (1, .ref (G 0)), (0, .ref b)]) hx hb dL_law_916 hl (by decide) rfl (fun ls hl => ?_)
  refine lv_aload_n hx hb dL_law_918 rfl (lv_at hl 4 rfl) ?_
  have hPc := pp_r hP
  have hDc := pd_r hD
  have hFc := wfree hDc hS hA
  refine va_calli (va_runV (As := []) (rest := []) ⟨hx, hb, hml, hown, ht⟩ (c_X5_thrown l D cI cZ cS cJ H.size M ((sizF (stZ Z) (xs (i + 1))).1) off left wr rc mem oth ks vs sx op mps mpk msr mtg mfl mxs ) (xwV 0 ht kw3_136 kw3_133 kw1_11 kw3_134 kw3_135 rfl rfl (by decide +kernel) ⟨Nat.le_of_ble_eq_true rfl, Nat.le_of_ble_eq_true rfl⟩) ⟨PB.blind, va_recv hK hPc (ci := 5) (q0 := 0) rfl rfl, fun U hU hW => PB.mk hU hW hPc hK hDc⟩ rfl rfl hl.1 rfl (lv_room (Nat.le_of_ble_eq_true rfl)) dL_law_919 ⟨by first | exact hkc | (show kc + _ ≤ 601024; omega), by first | exact hnc | (show nc + _ ≤ 7293000; omega)⟩) hS (fun q _ h => hFc q h) hFc (fun r919 u919 t919 H1 locs ht1 hvm w919 hB hz1 hk1 hS => ?_)
  try dsimp only at w919 hB
  rw [ht1] at hB
  have hP := pr_r hP hD hk1 hB
  generalize H1 = H at hP hS ⊢
  have hP : va_P D vwCl ((cW cI cS G SA sf pa no pts rf rg (nI RL.length) pk ps pt L9 p1 p2 p3 (nI rows.length) op (nI F) (nI Gn) (cB C) off left wr rc th Z ++ [(o, .inl (cJ, 1, .inr (.inl u901)))]) ++ (mW cI cZ M ((sizF (stZ Z) (xs (i + 1))).1) off left wr rc mem oth ks vs sx op mps mpk msr mtg mfl mxs)) H := hP
  have hD : va_D A ((cW cI cS G SA sf pa no pts rf rg (nI RL.length) pk ps pt L9 p1 p2 p3 (nI rows.length) op (nI F) (nI Gn) (cB C) off left wr rc th Z ++ [(o, .inl (cJ, 1, .inr (.inl u901)))]) ++ (mW cI cZ M ((sizF (stZ Z) (xs (i + 1))).1) off left wr rc mem oth ks vs sx op mps mpk msr mtg mfl mxs)) := hD
  have hfin := fin_rd (X := sizF (stZ Z) (xs (i + 1))) w901
  refine lv_iload hx hb dL_law_922 (lv_at hl 1 rfl) ?_
  refine lv_icmp_eq (tgt := 929) hx hb dL_law_924 (by decide) (fun c924 => ?_) (fun c924 => ?_)
  · refine lv_iload hx hb dL_law_929 (lv_at hl 1 rfl) ?_
    refine lv_if_ne (tgt := 946) hx hb dL_law_931 (by decide) (fun c931 => ?_) (fun c931 => ?_)
    · refine lv_goto (tgt := 1225) hx hb dL_law_946 (by decide) ?_
      exact K (pa, no, pts, rf, rg, RL, pk, ps, pt, L9, p1, p2, p3, op, off, left, wr, rc, th, Z, mm, rows, F, Gn, C) ((sizF (stZ Z) (xs (i + 1))).1, off, left, wr, rc, mem, oth, ks, vs, sx, op, mps, mpk, msr, mtg, mfl, mxs) u901 _ _ ls ⟨by exact hP, by exact hD, hS, ⟨rfl, rfl, rfl, rfl, rfl, hRS, hmem, hRP⟩, hci, AX.mono (N := N) hAX (Nat.le_succ N), hthv⟩ (lv_sub hl [2, 3, 4, 5, 6] rfl)
    · refine lv_aload_n hx hb dL_law_934 rfl (lv_at hl 3 rfl) ?_
      refine lv_iconst (v := 0) hx hb dL_law_935 (by decide) ?_
      refine ya_lald hx hb hK hP 35 3 rfl rfl 0 rfl (by decide) (by decide) dL_law_936 ?_
      refine lv_iload hx hb dL_law_937 (lv_at hl 0 rfl) ?_
      refine lv_i2l (v := (r913 : Int32).toInt64) hx hb dL_law_939 rfl ?_
      refine W.lcmp hx hb dL_law_940 ?_
      refine lv_if_eq (tgt := 946) hx hb dL_law_941 (by decide) (fun c941 => ?_) (fun c941 => ?_)
      · refine lv_goto (tgt := 1225) hx hb dL_law_946 (by decide) ?_
        exact K (pa, no, pts, rf, rg, RL, pk, ps, pt, L9, p1, p2, p3, op, off, left, wr, rc, th, Z, mm, rows, F, Gn, C) ((sizF (stZ Z) (xs (i + 1))).1, off, left, wr, rc, mem, oth, ks, vs, sx, op, mps, mpk, msr, mtg, mfl, mxs) u901 _ _ ls ⟨by exact hP, by exact hD, hS, ⟨rfl, rfl, rfl, rfl, rfl, hRS, hmem, hRP⟩, hci, AX.mono (N := N) hAX (Nat.le_succ N), hthv⟩ (lv_sub hl [2, 3, 4, 5, 6] rfl)
      · exact absurd (lgc ((hfin.2 c931).trans (by rw [w913]))) c941
  · exact absurd (w919.trans hfin.1) c924

set_option maxHeartbeats 4000000 in
set_option maxRecDepth 100000 in
theorem law_key {p : Program} {l : Launch} {e : Env} {s : State} {m : MethodId} {below : List Frame} {meth : Method} {c : Code} {b L : Nat} {xs : Nat → Int32} {D : va_G} {cI cZ cS cJ : ClassId} {G SA M : Nat → Nat} {sf : Nat → Option Nat} {o : Nat} {A : Nat → Prop} (hl0 : l.stackTraces = false) (C9 : LA p s m c b L xs D cI cZ cS cJ SA sf A) {N kc nc i : Nat} {u : CT} {v : MT} {fo : Nat → Int64} {H : Heap} {locs : List Loc} {ls : Array Slot} {Q : State → Prop} (hI : LSt s D cI cZ cS cJ G SA sf M o A N u v fo H locs) (hN : N ≤ 511) (hi : i + 2 < L) (hkc : kc + 80 ≤ 601024) (hnc : nc + 8400 ≤ 7293000) (hl : lv_has ls 8 [(4, .int (nI i)), (3, .ref o), (2, .ref (M 0)), (1, .ref (G 0)), (0, .ref b)]) (K : ∀ (u1 : CT) (v1 : MT) (f1 : Nat → Int64) (H1 : Heap) (locs1 : List Loc) (ls1 : Array Slot), LSt s D cI cZ cS cJ G SA sf M o A (N + 1) u1 v1 f1 H1 locs1 → lv_has ls1 8 [(4, .int (nI i)), (3, .ref o), (2, .ref (M 0)), (1, .ref (G 0)), (0, .ref b)] → W p l e room_1 s m #[Value.ref b] below meth c H1 locs1 (kc + 80) (nc + 8400) Q (F0 m 1225 ls1 [])) : W p l e room_1 s m #[Value.ref b] below meth c H locs kc nc Q (F0 m 949 ls []) := by
  obtain ⟨hx, hb, hml, hown, ht, hX, hbl, hK, hTX, hNC, hsf, hLb, hAe⟩ := id C9
  have hA : ∀ q : Nat, s.heap.size ≤ q → A q := fun q h => by rw [hAe]; exact h
  have hbA : ¬ A b := by rw [hAe]; exact Nat.not_le.mpr hbl
  obtain ⟨hP, hD, hS, hrep, hciu, hai, hthu⟩ := hI
  obtain ⟨pa, no, pts, rf, rg, RL, pk, ps, pt, L9, p1, p2, p3, op, off, left, wr, rc, th, Z, mm, rows, F, Gn, C⟩ := u
  obtain ⟨mc0, moff, mleft, mwr, mrc, mem, oth, ks, vs, sx, mpl, mps, mpk, msr, mtg, mfl, mxs⟩ := v
  obtain ⟨e1, e2, e3, e4, e5, hRS, hmem, hRP⟩ : moff = off ∧ mleft = left ∧ mwr = wr ∧ mrc = rc ∧ mpl = op ∧ RS (stZ Z) ks vs sx ∧ (∀ n, n < 8 → mem n = nI (mm n)) ∧ RP rows F Gn C mps mpk msr mtg mfl mxs := hrep
  have e1 := e1.symm
  subst e1
  have e2 := e2.symm
  subst e2
  have e3 := e3.symm
  subst e3
  have e4 := e4.symm
  subst e4
  have e5 := e5.symm
  subst e5
  have hci : CI mm RL pts rf rg rows L9 p1 p2 p3 F Gn Z := hciu
  have hAX : AX N off (stZ Z) mm op rows F Gn C := hai
  obtain ⟨ho1, hp01, hSL, hM9, ⟨⟨hsr9, hp89, hrl9, hFl9, hGF9⟩, hCF9, hpl09, hrow9⟩, hLOC9, hAGR9, hth9⟩ := id hAX
  have hthv : th = nI (thF (stZ Z) (homeF mm rows F)) := hthu
  have hplr : op = 1 ∨ (op = 0 ∧ rows = []) := hp01.elim (fun q => Or.inr ⟨q, hpl09 q⟩) Or.inl
  have hlen9 : ∀ n, n < 8 → ((stZ Z) n).length < 999 := fun n hn => Nat.lt_of_le_of_lt (hSL n hn).2 (by omega)
  have hlen9k : ∀ n, n < 8 → ((stZ Z) n).length < 1000 := fun n hn => Nat.lt_trans (hlen9 n hn) (by decide)
  have hss9 : ∀ n, n < 8 → Srt ((stZ Z) n) := fun n hn => (hSL n hn).1
  have hpl9 : op = 0 → rows = [] ∧ F = 0 ∧ Gn = 0 ∧ C = false := fun q => by subst q; exact hAX.emp
  have hv9 : op = 0 → OW (stZ Z) (ownK mm) := fun q => by subst q; exact hAX.ow
  have h2569 : op = 0 → ∀ mo, (plUp (stZ Z) (ownK mo) 8).length ≤ 256 := fun q => by subst q; exact hAX.h256
  have hP : va_P D vwCl ((cW cI cS G SA sf pa no pts rf rg (nI RL.length) pk ps pt L9 p1 p2 p3 (nI rows.length) op (nI F) (nI Gn) (cB C) off left wr rc th Z ++ [(o, .inl (cJ, 1, .inr (.inl fo)))]) ++ (mW cI cZ M mc0 off left wr rc mem oth ks vs sx op mps mpk msr mtg mfl mxs)) H := hP
  have hD : va_D A ((cW cI cS G SA sf pa no pts rf rg (nI RL.length) pk ps pt L9 p1 p2 p3 (nI rows.length) op (nI F) (nI Gn) (cB C) off left wr rc th Z ++ [(o, .inl (cJ, 1, .inr (.inl fo)))]) ++ (mW cI cZ M mc0 off left wr rc mem oth ks vs sx op mps mpk msr mtg mfl mxs)) := hD
  refine lv_aload_n hx hb dL_law_949 rfl (lv_at hl 3 rfl) ?_
  refine lv_aload_n hx hb dL_law_950 rfl (lv_at hl 4 rfl) ?_
  refine lv_iload hx hb dL_law_951 (lv_at hl 0 rfl) ?_
  refine lv_iconst (v := 1) hx hb dL_law_953 (by decide) ?_
  refine lv_iadd hx hb dL_law_954 ?_
  refine ya_sld hx hb hX hbl hbA hS (i + 1) (by rw [show (1 : Int32) = nI 1 from rfl, nI_add]) (by omega) (by omega) dL_law_955 ?_
  refine lv_aload_n hx hb dL_law_956 rfl (lv_at hl 4 rfl) ?_
  refine lv_iload hx hb dL_law_957 (lv_at hl 0 rfl) ?_
  refine lv_iconst (v := 2) hx hb dL_law_959 (by decide) ?_
  refine lv_iadd hx hb dL_law_960 ?_
  refine ya_sld hx hb hX hbl hbA hS (i + 2) (by rw [show (2 : Int32) = nI 2 from rfl, nI_add]) (by omega) (by omega) dL_law_961 ?_
  refine lv_aload_n hx hb dL_law_962 rfl (lv_at hl 1 rfl) ?_
  have hPc := pp_l hP
  have hDc := pd_l hD
  have hFc := wfree hDc hS hA
  refine vx_calli (vx_runSX (As := [.ref (G 0), .int (xs (i + 1)), .int (xs (i + 2)), .ref o]) (rest := []) ⟨hx, hb, hml, hown, ht⟩ (c_L_key l hl0 D cI cZ cS cJ H.size G SA sf hsf pa no pts rf rg RL pk ps pt L9 p1 p2 p3 op off left wr rc th Z mm rows F Gn C hci o fo (xs (i + 1)) (xs (i + 2))) (xwSW 4 ht kw3_41 kw3_39 kw1_0 kw3_40 rfl rfl (by decide +kernel) ⟨Nat.le_of_ble_eq_true rfl, Nat.le_of_ble_eq_true rfl⟩) ⟨PZ.blind, fun U hU hW => PZ.mk hU hW hPc hK hDc hS hFc hTX hNC⟩ rfl rfl hl.1 rfl (lv_room (Nat.le_of_ble_eq_true rfl)) dL_law_963 ⟨hkc, hnc⟩) hS (fun q _ h => hFc q h) hFc (fun q _ h => hFc q h) (fun E ce q9 u9 t9 H1 locs ht1 hvm hpx _ _ _ _ _ _ _ => hpx.elim) (fun kx963 u963 t963 H1 locs ht1 hvm w963 hB hz1 hk1 hS => ?_)
  try dsimp only at w963 hB
  obtain ⟨hP1, hD1⟩ := hB
  rw [ht1] at hP1
  obtain ⟨hP, hD⟩ := pj_l hP hD hk1 hFc hP1 hD1
  generalize H1 = H at hP hS ⊢
  have hP : va_P D vwCl ((cW cI cS G SA sf pa no pts rf rg (nI RL.length) pk ps pt L9 p1 p2 p3 (nI rows.length) op (nI F) (nI Gn) (cB C) off left wr rc th Z ++ [(o, .inl (cJ, 1, .inr (.inl u963)))]) ++ (mW cI cZ M mc0 off left wr rc mem oth ks vs sx op mps mpk msr mtg mfl mxs)) H := hP
  have hD : va_D A ((cW cI cS G SA sf pa no pts rf rg (nI RL.length) pk ps pt L9 p1 p2 p3 (nI rows.length) op (nI F) (nI Gn) (cB C) off left wr rc th Z ++ [(o, .inl (cJ, 1, .inr (.inl u963)))]) ++ (mW cI cZ M mc0 off left wr rc mem oth ks vs sx op mps mpk msr mtg mfl mxs)) := hD
  refine lv_istore (lv' := [(5, .int kx963), (4, .int (nI i)), (3, .ref o), (2, .ref (M 0)), (1, .ref (G 0)), (0, .ref b)]) hx hb dL_law_966 hl (by decide) rfl (fun ls hl => ?_)
  refine lv_aload_n hx hb dL_law_968 rfl (lv_at hl 3 rfl) ?_
  refine lv_aload_n hx hb dL_law_969 rfl (lv_at hl 5 rfl) ?_
  refine lv_iload hx hb dL_law_970 (lv_at hl 1 rfl) ?_
  refine lv_iconst (v := 1) hx hb dL_law_972 (by decide) ?_
  refine lv_iadd hx hb dL_law_973 ?_
  refine ya_sld hx hb hX hbl hbA hS (i + 1) (by rw [show (1 : Int32) = nI 1 from rfl, nI_add]) (by omega) (by omega) dL_law_974 ?_
  refine lv_aload_n hx hb dL_law_975 rfl (lv_at hl 5 rfl) ?_
  refine lv_iload hx hb dL_law_976 (lv_at hl 1 rfl) ?_
  refine lv_iconst (v := 2) hx hb dL_law_978 (by decide) ?_
  refine lv_iadd hx hb dL_law_979 ?_
  refine ya_sld hx hb hX hbl hbA hS (i + 2) (by rw [show (2 : Int32) = nI 2 from rfl, nI_add]) (by omega) (by omega) dL_law_980 ?_
  have hPc := pp_r hP
  have hDc := pd_r hD
  have hFc := wfree hDc hS hA
  refine va_calli (va_runV (As := [.int (xs (i + 1)), .int (xs (i + 2))]) (rest := []) ⟨hx, hb, hml, hown, ht⟩ (c_X5_key l D cI cZ cS cJ H.size M mc0 off left wr rc mem oth ks vs sx op mps mpk msr mtg mfl mxs (stZ Z) hRS (xs (i + 1)) (xs (i + 2))) (xwV 2 ht kw4_52 kw4_49 kw1_11 kw4_50 kw4_51 rfl rfl (by decide +kernel) ⟨Nat.le_of_ble_eq_true rfl, Nat.le_of_ble_eq_true rfl⟩) ⟨PB.blind, va_recv hK hPc (ci := 5) (q0 := 0) rfl rfl, fun U hU hW => PB.mk hU hW hPc hK hDc⟩ rfl rfl hl.1 rfl (lv_room (Nat.le_of_ble_eq_true rfl)) dL_law_981 ⟨by first | exact hkc | (show kc + _ ≤ 601024; omega), by first | exact hnc | (show nc + _ ≤ 7293000; omega)⟩) hS (fun q _ h => hFc q h) hFc (fun r981 u981 t981 H1 locs ht1 hvm w981 hB hz1 hk1 hS => ?_)
  try dsimp only at w981 hB
  obtain ⟨hP1, hD1⟩ := hB
  rw [ht1] at hP1
  obtain ⟨hP, hD⟩ := pj_r hP hD hk1 hFc hP1 hD1
  generalize H1 = H at hP hS ⊢
  have hP : va_P D vwCl ((cW cI cS G SA sf pa no pts rf rg (nI RL.length) pk ps pt L9 p1 p2 p3 (nI rows.length) op (nI F) (nI Gn) (cB C) off left wr rc th Z ++ [(o, .inl (cJ, 1, .inr (.inl u963)))]) ++ (mW cI cZ M ((keyF (stZ Z) (xs (i + 1)) (xs (i + 2))).1) off left wr rc mem oth ks vs sx op mps mpk msr mtg mfl mxs)) H := hP
  have hD : va_D A ((cW cI cS G SA sf pa no pts rf rg (nI RL.length) pk ps pt L9 p1 p2 p3 (nI rows.length) op (nI F) (nI Gn) (cB C) off left wr rc th Z ++ [(o, .inl (cJ, 1, .inr (.inl u963)))]) ++ (mW cI cZ M ((keyF (stZ Z) (xs (i + 1)) (xs (i + 2))).1) off left wr rc mem oth ks vs sx op mps mpk msr mtg mfl mxs)) := hD
  refine lv_istore (lv' := [(6, .int r981), (5, .int kx963), (4, .int (nI i)), (3, .ref o), (2, .ref (M 0)), (1, .ref (G 0)), (0, .ref b)]) hx hb dL_law_984 hl (by decide) rfl (fun ls hl => ?_)
  refine lv_aload_n hx hb dL_law_986 rfl (lv_at hl 4 rfl) ?_
  have hPc := pp_r hP
  have hDc := pd_r hD
  have hFc := wfree hDc hS hA
  refine va_calli (va_runV (As := []) (rest := []) ⟨hx, hb, hml, hown, ht⟩ (c_X5_thrown l D cI cZ cS cJ H.size M ((keyF (stZ Z) (xs (i + 1)) (xs (i + 2))).1) off left wr rc mem oth ks vs sx op mps mpk msr mtg mfl mxs ) (xwV 0 ht kw3_136 kw3_133 kw1_11 kw3_134 kw3_135 rfl rfl (by decide +kernel) ⟨Nat.le_of_ble_eq_true rfl, Nat.le_of_ble_eq_true rfl⟩) ⟨PB.blind, va_recv hK hPc (ci := 5) (q0 := 0) rfl rfl, fun U hU hW => PB.mk hU hW hPc hK hDc⟩ rfl rfl hl.1 rfl (lv_room (Nat.le_of_ble_eq_true rfl)) dL_law_987 ⟨by first | exact hkc | (show kc + _ ≤ 601024; omega), by first | exact hnc | (show nc + _ ≤ 7293000; omega)⟩) hS (fun q _ h => hFc q h) hFc (fun r987 u987 t987 H1 locs ht1 hvm w987 hB hz1 hk1 hS => ?_)
  try dsimp only at w987 hB
  rw [ht1] at hB
  have hP := pr_r hP hD hk1 hB
  generalize H1 = H at hP hS ⊢
  have hP : va_P D vwCl ((cW cI cS G SA sf pa no pts rf rg (nI RL.length) pk ps pt L9 p1 p2 p3 (nI rows.length) op (nI F) (nI Gn) (cB C) off left wr rc th Z ++ [(o, .inl (cJ, 1, .inr (.inl u963)))]) ++ (mW cI cZ M ((keyF (stZ Z) (xs (i + 1)) (xs (i + 2))).1) off left wr rc mem oth ks vs sx op mps mpk msr mtg mfl mxs)) H := hP
  have hD : va_D A ((cW cI cS G SA sf pa no pts rf rg (nI RL.length) pk ps pt L9 p1 p2 p3 (nI rows.length) op (nI F) (nI Gn) (cB C) off left wr rc th Z ++ [(o, .inl (cJ, 1, .inr (.inl u963)))]) ++ (mW cI cZ M ((keyF (stZ Z) (xs (i + 1)) (xs (i + 2))).1) off left wr rc mem oth ks vs sx op mps mpk msr mtg mfl mxs)) := hD
  have hfin := fin_rd (X := keyF (stZ Z) (xs (i + 1)) (xs (i + 2))) w963
  refine lv_iload hx hb dL_law_990 (lv_at hl 1 rfl) ?_
  refine lv_icmp_eq (tgt := 997) hx hb dL_law_992 (by decide) (fun c992 => ?_) (fun c992 => ?_)
  · refine lv_iload hx hb dL_law_997 (lv_at hl 1 rfl) ?_
    refine lv_if_ne (tgt := 1014) hx hb dL_law_999 (by decide) (fun c999 => ?_) (fun c999 => ?_)
    · refine lv_goto (tgt := 1225) hx hb dL_law_1014 (by decide) ?_
      exact K (pa, no, pts, rf, rg, RL, pk, ps, pt, L9, p1, p2, p3, op, off, left, wr, rc, th, Z, mm, rows, F, Gn, C) ((keyF (stZ Z) (xs (i + 1)) (xs (i + 2))).1, off, left, wr, rc, mem, oth, ks, vs, sx, op, mps, mpk, msr, mtg, mfl, mxs) u963 _ _ ls ⟨by exact hP, by exact hD, hS, ⟨rfl, rfl, rfl, rfl, rfl, hRS, hmem, hRP⟩, hci, AX.mono (N := N) hAX (Nat.le_succ N), hthv⟩ (lv_sub hl [2, 3, 4, 5, 6] rfl)
    · refine lv_aload_n hx hb dL_law_1002 rfl (lv_at hl 3 rfl) ?_
      refine lv_iconst (v := 0) hx hb dL_law_1003 (by decide) ?_
      refine ya_lald hx hb hK hP 35 3 rfl rfl 0 rfl (by decide) (by decide) dL_law_1004 ?_
      refine lv_iload hx hb dL_law_1005 (lv_at hl 0 rfl) ?_
      refine lv_i2l (v := (r981 : Int32).toInt64) hx hb dL_law_1007 rfl ?_
      refine W.lcmp hx hb dL_law_1008 ?_
      refine lv_if_eq (tgt := 1014) hx hb dL_law_1009 (by decide) (fun c1009 => ?_) (fun c1009 => ?_)
      · refine lv_goto (tgt := 1225) hx hb dL_law_1014 (by decide) ?_
        exact K (pa, no, pts, rf, rg, RL, pk, ps, pt, L9, p1, p2, p3, op, off, left, wr, rc, th, Z, mm, rows, F, Gn, C) ((keyF (stZ Z) (xs (i + 1)) (xs (i + 2))).1, off, left, wr, rc, mem, oth, ks, vs, sx, op, mps, mpk, msr, mtg, mfl, mxs) u963 _ _ ls ⟨by exact hP, by exact hD, hS, ⟨rfl, rfl, rfl, rfl, rfl, hRS, hmem, hRP⟩, hci, AX.mono (N := N) hAX (Nat.le_succ N), hthv⟩ (lv_sub hl [2, 3, 4, 5, 6] rfl)
      · exact absurd (lgc ((hfin.2 c999).trans (by rw [w981]))) c1009
  · exact absurd (w987.trans hfin.1) c992

set_option maxHeartbeats 4000000 in
set_option maxRecDepth 100000 in
theorem law_points {p : Program} {l : Launch} {e : Env} {s : State} {m : MethodId} {below : List Frame} {meth : Method} {c : Code} {b L : Nat} {xs : Nat → Int32} {D : va_G} {cI cZ cS cJ : ClassId} {G SA M : Nat → Nat} {sf : Nat → Option Nat} {o : Nat} {A : Nat → Prop} (hl0 : l.stackTraces = false) (C9 : LA p s m c b L xs D cI cZ cS cJ SA sf A) {N kc nc i : Nat} {u : CT} {v : MT} {fo : Nat → Int64} {H : Heap} {locs : List Loc} {ls : Array Slot} {Q : State → Prop} (hI : LSt s D cI cZ cS cJ G SA sf M o A N u v fo H locs) (hN : N ≤ 511) (hi : i + 2 < L) (hkc : kc + 80 ≤ 601024) (hnc : nc + 8400 ≤ 7293000) (hl : lv_has ls 8 [(4, .int (nI i)), (3, .ref o), (2, .ref (M 0)), (1, .ref (G 0)), (0, .ref b)]) (K : ∀ (u1 : CT) (v1 : MT) (f1 : Nat → Int64) (H1 : Heap) (locs1 : List Loc) (ls1 : Array Slot), LSt s D cI cZ cS cJ G SA sf M o A (N + 1) u1 v1 f1 H1 locs1 → lv_has ls1 8 [(4, .int (nI i)), (3, .ref o), (2, .ref (M 0)), (1, .ref (G 0)), (0, .ref b)] → W p l e room_1 s m #[Value.ref b] below meth c H1 locs1 (kc + 80) (nc + 8400) Q (F0 m 1225 ls1 [])) : W p l e room_1 s m #[Value.ref b] below meth c H locs kc nc Q (F0 m 1017 ls []) := by
  obtain ⟨hx, hb, hml, hown, ht, hX, hbl, hK, hTX, hNC, hsf, hLb, hAe⟩ := id C9
  have hA : ∀ q : Nat, s.heap.size ≤ q → A q := fun q h => by rw [hAe]; exact h
  have hbA : ¬ A b := by rw [hAe]; exact Nat.not_le.mpr hbl
  obtain ⟨hP, hD, hS, hrep, hciu, hai, hthu⟩ := hI
  obtain ⟨pa, no, pts, rf, rg, RL, pk, ps, pt, L9, p1, p2, p3, op, off, left, wr, rc, th, Z, mm, rows, F, Gn, C⟩ := u
  obtain ⟨mc0, moff, mleft, mwr, mrc, mem, oth, ks, vs, sx, mpl, mps, mpk, msr, mtg, mfl, mxs⟩ := v
  obtain ⟨e1, e2, e3, e4, e5, hRS, hmem, hRP⟩ : moff = off ∧ mleft = left ∧ mwr = wr ∧ mrc = rc ∧ mpl = op ∧ RS (stZ Z) ks vs sx ∧ (∀ n, n < 8 → mem n = nI (mm n)) ∧ RP rows F Gn C mps mpk msr mtg mfl mxs := hrep
  have e1 := e1.symm
  subst e1
  have e2 := e2.symm
  subst e2
  have e3 := e3.symm
  subst e3
  have e4 := e4.symm
  subst e4
  have e5 := e5.symm
  subst e5
  have hci : CI mm RL pts rf rg rows L9 p1 p2 p3 F Gn Z := hciu
  have hAX : AX N off (stZ Z) mm op rows F Gn C := hai
  obtain ⟨ho1, hp01, hSL, hM9, ⟨⟨hsr9, hp89, hrl9, hFl9, hGF9⟩, hCF9, hpl09, hrow9⟩, hLOC9, hAGR9, hth9⟩ := id hAX
  have hthv : th = nI (thF (stZ Z) (homeF mm rows F)) := hthu
  have hplr : op = 1 ∨ (op = 0 ∧ rows = []) := hp01.elim (fun q => Or.inr ⟨q, hpl09 q⟩) Or.inl
  have hlen9 : ∀ n, n < 8 → ((stZ Z) n).length < 999 := fun n hn => Nat.lt_of_le_of_lt (hSL n hn).2 (by omega)
  have hlen9k : ∀ n, n < 8 → ((stZ Z) n).length < 1000 := fun n hn => Nat.lt_trans (hlen9 n hn) (by decide)
  have hss9 : ∀ n, n < 8 → Srt ((stZ Z) n) := fun n hn => (hSL n hn).1
  have hpl9 : op = 0 → rows = [] ∧ F = 0 ∧ Gn = 0 ∧ C = false := fun q => by subst q; exact hAX.emp
  have hv9 : op = 0 → OW (stZ Z) (ownK mm) := fun q => by subst q; exact hAX.ow
  have h2569 : op = 0 → ∀ mo, (plUp (stZ Z) (ownK mo) 8).length ≤ 256 := fun q => by subst q; exact hAX.h256
  have hP : va_P D vwCl ((cW cI cS G SA sf pa no pts rf rg (nI RL.length) pk ps pt L9 p1 p2 p3 (nI rows.length) op (nI F) (nI Gn) (cB C) off left wr rc th Z ++ [(o, .inl (cJ, 1, .inr (.inl fo)))]) ++ (mW cI cZ M mc0 off left wr rc mem oth ks vs sx op mps mpk msr mtg mfl mxs)) H := hP
  have hD : va_D A ((cW cI cS G SA sf pa no pts rf rg (nI RL.length) pk ps pt L9 p1 p2 p3 (nI rows.length) op (nI F) (nI Gn) (cB C) off left wr rc th Z ++ [(o, .inl (cJ, 1, .inr (.inl fo)))]) ++ (mW cI cZ M mc0 off left wr rc mem oth ks vs sx op mps mpk msr mtg mfl mxs)) := hD
  refine lv_aload_n hx hb dL_law_1017 rfl (lv_at hl 3 rfl) ?_
  refine lv_aload_n hx hb dL_law_1018 rfl (lv_at hl 4 rfl) ?_
  refine lv_iload hx hb dL_law_1019 (lv_at hl 0 rfl) ?_
  refine lv_iconst (v := 1) hx hb dL_law_1021 (by decide) ?_
  refine lv_iadd hx hb dL_law_1022 ?_
  refine ya_sld hx hb hX hbl hbA hS (i + 1) (by rw [show (1 : Int32) = nI 1 from rfl, nI_add]) (by omega) (by omega) dL_law_1023 ?_
  refine lv_aload_n hx hb dL_law_1024 rfl (lv_at hl 1 rfl) ?_
  have hPc := pp_l hP
  have hDc := pd_l hD
  have hFc := wfree hDc hS hA
  refine vx_calli (vx_runSX (As := [.ref (G 0), .int (xs (i + 1)), .ref o]) (rest := []) ⟨hx, hb, hml, hown, ht⟩ (c_L_points l hl0 D cI cZ cS cJ H.size G SA sf hsf pa no pts rf rg RL pk ps pt L9 p1 p2 p3 op off left wr rc th Z mm rows F Gn C hci o fo (xs (i + 1))) (xwSW 3 ht kw3_49 kw3_47 kw1_0 kw3_48 rfl rfl (by decide +kernel) ⟨Nat.le_of_ble_eq_true rfl, Nat.le_of_ble_eq_true rfl⟩) ⟨PZ.blind, fun U hU hW => PZ.mk hU hW hPc hK hDc hS hFc hTX hNC⟩ rfl rfl hl.1 rfl (lv_room (Nat.le_of_ble_eq_true rfl)) dL_law_1025 ⟨hkc, hnc⟩) hS (fun q _ h => hFc q h) hFc (fun q _ h => hFc q h) (fun E ce q9 u9 t9 H1 locs ht1 hvm hpx _ _ _ _ _ _ _ => hpx.elim) (fun kx1025 u1025 t1025 H1 locs ht1 hvm w1025 hB hz1 hk1 hS => ?_)
  try dsimp only at w1025 hB
  obtain ⟨hP1, hD1⟩ := hB
  rw [ht1] at hP1
  obtain ⟨hP, hD⟩ := pj_l hP hD hk1 hFc hP1 hD1
  generalize H1 = H at hP hS ⊢
  have hP : va_P D vwCl ((cW cI cS G SA sf pa no pts rf rg (nI RL.length) pk ps pt L9 p1 p2 p3 (nI rows.length) op (nI F) (nI Gn) (cB C) off left wr rc th Z ++ [(o, .inl (cJ, 1, .inr (.inl u1025)))]) ++ (mW cI cZ M mc0 off left wr rc mem oth ks vs sx op mps mpk msr mtg mfl mxs)) H := hP
  have hD : va_D A ((cW cI cS G SA sf pa no pts rf rg (nI RL.length) pk ps pt L9 p1 p2 p3 (nI rows.length) op (nI F) (nI Gn) (cB C) off left wr rc th Z ++ [(o, .inl (cJ, 1, .inr (.inl u1025)))]) ++ (mW cI cZ M mc0 off left wr rc mem oth ks vs sx op mps mpk msr mtg mfl mxs)) := hD
  refine lv_istore (lv' := [(5, .int kx1025), (4, .int (nI i)), (3, .ref o), (2, .ref (M 0)), (1, .ref (G 0)), (0, .ref b)]) hx hb dL_law_1028 hl (by decide) rfl (fun ls hl => ?_)
  refine lv_aload_n hx hb dL_law_1030 rfl (lv_at hl 3 rfl) ?_
  refine lv_aload_n hx hb dL_law_1031 rfl (lv_at hl 5 rfl) ?_
  refine lv_iload hx hb dL_law_1032 (lv_at hl 1 rfl) ?_
  refine lv_iconst (v := 1) hx hb dL_law_1034 (by decide) ?_
  refine lv_iadd hx hb dL_law_1035 ?_
  refine ya_sld hx hb hX hbl hbA hS (i + 1) (by rw [show (1 : Int32) = nI 1 from rfl, nI_add]) (by omega) (by omega) dL_law_1036 ?_
  have hPc := pp_r hP
  have hDc := pd_r hD
  have hFc := wfree hDc hS hA
  refine va_calli (va_runV (As := [.int (xs (i + 1))]) (rest := []) ⟨hx, hb, hml, hown, ht⟩ (c_X5_points l D cI cZ cS cJ H.size M mc0 off left wr rc mem oth ks vs sx op mps mpk msr mtg mfl mxs mm hmem hM9 (xs (i + 1))) (xwV 1 ht kw4_56 kw4_53 kw1_11 kw4_54 kw4_55 rfl rfl (by decide +kernel) ⟨Nat.le_of_ble_eq_true rfl, Nat.le_of_ble_eq_true rfl⟩) ⟨PB.blind, va_recv hK hPc (ci := 5) (q0 := 0) rfl rfl, fun U hU hW => PB.mk hU hW hPc hK hDc⟩ rfl rfl hl.1 rfl (lv_room (Nat.le_of_ble_eq_true rfl)) dL_law_1037 ⟨by first | exact hkc | (show kc + _ ≤ 601024; omega), by first | exact hnc | (show nc + _ ≤ 7293000; omega)⟩) hS (fun q _ h => hFc q h) hFc (fun r1037 u1037 t1037 H1 locs ht1 hvm w1037 hB hz1 hk1 hS => ?_)
  try dsimp only at w1037 hB
  obtain ⟨hP1, hD1⟩ := hB
  rw [ht1] at hP1
  obtain ⟨hP, hD⟩ := pj_r hP hD hk1 hFc hP1 hD1
  generalize H1 = H at hP hS ⊢
  have hP : va_P D vwCl ((cW cI cS G SA sf pa no pts rf rg (nI RL.length) pk ps pt L9 p1 p2 p3 (nI rows.length) op (nI F) (nI Gn) (cB C) off left wr rc th Z ++ [(o, .inl (cJ, 1, .inr (.inl u1025)))]) ++ (mW cI cZ M ((ptsF off mm (xs (i + 1))).1) off left wr rc mem oth ks vs sx op mps mpk msr mtg mfl mxs)) H := hP
  have hD : va_D A ((cW cI cS G SA sf pa no pts rf rg (nI RL.length) pk ps pt L9 p1 p2 p3 (nI rows.length) op (nI F) (nI Gn) (cB C) off left wr rc th Z ++ [(o, .inl (cJ, 1, .inr (.inl u1025)))]) ++ (mW cI cZ M ((ptsF off mm (xs (i + 1))).1) off left wr rc mem oth ks vs sx op mps mpk msr mtg mfl mxs)) := hD
  refine lv_istore (lv' := [(6, .int r1037), (5, .int kx1025), (4, .int (nI i)), (3, .ref o), (2, .ref (M 0)), (1, .ref (G 0)), (0, .ref b)]) hx hb dL_law_1040 hl (by decide) rfl (fun ls hl => ?_)
  refine lv_aload_n hx hb dL_law_1042 rfl (lv_at hl 4 rfl) ?_
  have hPc := pp_r hP
  have hDc := pd_r hD
  have hFc := wfree hDc hS hA
  refine va_calli (va_runV (As := []) (rest := []) ⟨hx, hb, hml, hown, ht⟩ (c_X5_thrown l D cI cZ cS cJ H.size M ((ptsF off mm (xs (i + 1))).1) off left wr rc mem oth ks vs sx op mps mpk msr mtg mfl mxs ) (xwV 0 ht kw3_136 kw3_133 kw1_11 kw3_134 kw3_135 rfl rfl (by decide +kernel) ⟨Nat.le_of_ble_eq_true rfl, Nat.le_of_ble_eq_true rfl⟩) ⟨PB.blind, va_recv hK hPc (ci := 5) (q0 := 0) rfl rfl, fun U hU hW => PB.mk hU hW hPc hK hDc⟩ rfl rfl hl.1 rfl (lv_room (Nat.le_of_ble_eq_true rfl)) dL_law_1043 ⟨by first | exact hkc | (show kc + _ ≤ 601024; omega), by first | exact hnc | (show nc + _ ≤ 7293000; omega)⟩) hS (fun q _ h => hFc q h) hFc (fun r1043 u1043 t1043 H1 locs ht1 hvm w1043 hB hz1 hk1 hS => ?_)
  try dsimp only at w1043 hB
  rw [ht1] at hB
  have hP := pr_r hP hD hk1 hB
  generalize H1 = H at hP hS ⊢
  have hP : va_P D vwCl ((cW cI cS G SA sf pa no pts rf rg (nI RL.length) pk ps pt L9 p1 p2 p3 (nI rows.length) op (nI F) (nI Gn) (cB C) off left wr rc th Z ++ [(o, .inl (cJ, 1, .inr (.inl u1025)))]) ++ (mW cI cZ M ((ptsF off mm (xs (i + 1))).1) off left wr rc mem oth ks vs sx op mps mpk msr mtg mfl mxs)) H := hP
  have hD : va_D A ((cW cI cS G SA sf pa no pts rf rg (nI RL.length) pk ps pt L9 p1 p2 p3 (nI rows.length) op (nI F) (nI Gn) (cB C) off left wr rc th Z ++ [(o, .inl (cJ, 1, .inr (.inl u1025)))]) ++ (mW cI cZ M ((ptsF off mm (xs (i + 1))).1) off left wr rc mem oth ks vs sx op mps mpk msr mtg mfl mxs)) := hD
  have hfin := fin_rd (X := ptsF off mm (xs (i + 1))) w1025
  refine lv_iload hx hb dL_law_1046 (lv_at hl 1 rfl) ?_
  refine lv_icmp_eq (tgt := 1053) hx hb dL_law_1048 (by decide) (fun c1048 => ?_) (fun c1048 => ?_)
  · refine lv_iload hx hb dL_law_1053 (lv_at hl 1 rfl) ?_
    refine lv_if_ne (tgt := 1070) hx hb dL_law_1055 (by decide) (fun c1055 => ?_) (fun c1055 => ?_)
    · refine lv_goto (tgt := 1225) hx hb dL_law_1070 (by decide) ?_
      exact K (pa, no, pts, rf, rg, RL, pk, ps, pt, L9, p1, p2, p3, op, off, left, wr, rc, th, Z, mm, rows, F, Gn, C) ((ptsF off mm (xs (i + 1))).1, off, left, wr, rc, mem, oth, ks, vs, sx, op, mps, mpk, msr, mtg, mfl, mxs) u1025 _ _ ls ⟨by exact hP, by exact hD, hS, ⟨rfl, rfl, rfl, rfl, rfl, hRS, hmem, hRP⟩, hci, AX.mono (N := N) hAX (Nat.le_succ N), hthv⟩ (lv_sub hl [2, 3, 4, 5, 6] rfl)
    · refine lv_aload_n hx hb dL_law_1058 rfl (lv_at hl 3 rfl) ?_
      refine lv_iconst (v := 0) hx hb dL_law_1059 (by decide) ?_
      refine ya_lald hx hb hK hP 35 3 rfl rfl 0 rfl (by decide) (by decide) dL_law_1060 ?_
      refine lv_iload hx hb dL_law_1061 (lv_at hl 0 rfl) ?_
      refine lv_i2l (v := (r1037 : Int32).toInt64) hx hb dL_law_1063 rfl ?_
      refine W.lcmp hx hb dL_law_1064 ?_
      refine lv_if_eq (tgt := 1070) hx hb dL_law_1065 (by decide) (fun c1065 => ?_) (fun c1065 => ?_)
      · refine lv_goto (tgt := 1225) hx hb dL_law_1070 (by decide) ?_
        exact K (pa, no, pts, rf, rg, RL, pk, ps, pt, L9, p1, p2, p3, op, off, left, wr, rc, th, Z, mm, rows, F, Gn, C) ((ptsF off mm (xs (i + 1))).1, off, left, wr, rc, mem, oth, ks, vs, sx, op, mps, mpk, msr, mtg, mfl, mxs) u1025 _ _ ls ⟨by exact hP, by exact hD, hS, ⟨rfl, rfl, rfl, rfl, rfl, hRS, hmem, hRP⟩, hci, AX.mono (N := N) hAX (Nat.le_succ N), hthv⟩ (lv_sub hl [2, 3, 4, 5, 6] rfl)
      · exact absurd (lgc ((hfin.2 c1055).trans (by rw [w1037]))) c1065
  · exact absurd (w1043.trans hfin.1) c1048

set_option maxHeartbeats 4000000 in
set_option maxRecDepth 100000 in
theorem law_count {p : Program} {l : Launch} {e : Env} {s : State} {m : MethodId} {below : List Frame} {meth : Method} {c : Code} {b L : Nat} {xs : Nat → Int32} {D : va_G} {cI cZ cS cJ : ClassId} {G SA M : Nat → Nat} {sf : Nat → Option Nat} {o : Nat} {A : Nat → Prop} (hl0 : l.stackTraces = false) (C9 : LA p s m c b L xs D cI cZ cS cJ SA sf A) {N kc nc i : Nat} {u : CT} {v : MT} {fo : Nat → Int64} {H : Heap} {locs : List Loc} {ls : Array Slot} {Q : State → Prop} (hI : LSt s D cI cZ cS cJ G SA sf M o A N u v fo H locs) (hN : N ≤ 511) (hi : i + 2 < L) (hkc : kc + 80 ≤ 601024) (hnc : nc + 8400 ≤ 7293000) (hl : lv_has ls 8 [(4, .int (nI i)), (3, .ref o), (2, .ref (M 0)), (1, .ref (G 0)), (0, .ref b)]) (K : ∀ (u1 : CT) (v1 : MT) (f1 : Nat → Int64) (H1 : Heap) (locs1 : List Loc) (ls1 : Array Slot), LSt s D cI cZ cS cJ G SA sf M o A (N + 1) u1 v1 f1 H1 locs1 → lv_has ls1 8 [(4, .int (nI i)), (3, .ref o), (2, .ref (M 0)), (1, .ref (G 0)), (0, .ref b)] → W p l e room_1 s m #[Value.ref b] below meth c H1 locs1 (kc + 80) (nc + 8400) Q (F0 m 1225 ls1 [])) : W p l e room_1 s m #[Value.ref b] below meth c H locs kc nc Q (F0 m 1073 ls []) := by
  obtain ⟨hx, hb, hml, hown, ht, hX, hbl, hK, hTX, hNC, hsf, hLb, hAe⟩ := id C9
  have hA : ∀ q : Nat, s.heap.size ≤ q → A q := fun q h => by rw [hAe]; exact h
  have hbA : ¬ A b := by rw [hAe]; exact Nat.not_le.mpr hbl
  obtain ⟨hP, hD, hS, hrep, hciu, hai, hthu⟩ := hI
  obtain ⟨pa, no, pts, rf, rg, RL, pk, ps, pt, L9, p1, p2, p3, op, off, left, wr, rc, th, Z, mm, rows, F, Gn, C⟩ := u
  obtain ⟨mc0, moff, mleft, mwr, mrc, mem, oth, ks, vs, sx, mpl, mps, mpk, msr, mtg, mfl, mxs⟩ := v
  obtain ⟨e1, e2, e3, e4, e5, hRS, hmem, hRP⟩ : moff = off ∧ mleft = left ∧ mwr = wr ∧ mrc = rc ∧ mpl = op ∧ RS (stZ Z) ks vs sx ∧ (∀ n, n < 8 → mem n = nI (mm n)) ∧ RP rows F Gn C mps mpk msr mtg mfl mxs := hrep
  have e1 := e1.symm
  subst e1
  have e2 := e2.symm
  subst e2
  have e3 := e3.symm
  subst e3
  have e4 := e4.symm
  subst e4
  have e5 := e5.symm
  subst e5
  have hci : CI mm RL pts rf rg rows L9 p1 p2 p3 F Gn Z := hciu
  have hAX : AX N off (stZ Z) mm op rows F Gn C := hai
  obtain ⟨ho1, hp01, hSL, hM9, ⟨⟨hsr9, hp89, hrl9, hFl9, hGF9⟩, hCF9, hpl09, hrow9⟩, hLOC9, hAGR9, hth9⟩ := id hAX
  have hthv : th = nI (thF (stZ Z) (homeF mm rows F)) := hthu
  have hplr : op = 1 ∨ (op = 0 ∧ rows = []) := hp01.elim (fun q => Or.inr ⟨q, hpl09 q⟩) Or.inl
  have hlen9 : ∀ n, n < 8 → ((stZ Z) n).length < 999 := fun n hn => Nat.lt_of_le_of_lt (hSL n hn).2 (by omega)
  have hlen9k : ∀ n, n < 8 → ((stZ Z) n).length < 1000 := fun n hn => Nat.lt_trans (hlen9 n hn) (by decide)
  have hss9 : ∀ n, n < 8 → Srt ((stZ Z) n) := fun n hn => (hSL n hn).1
  have hpl9 : op = 0 → rows = [] ∧ F = 0 ∧ Gn = 0 ∧ C = false := fun q => by subst q; exact hAX.emp
  have hv9 : op = 0 → OW (stZ Z) (ownK mm) := fun q => by subst q; exact hAX.ow
  have h2569 : op = 0 → ∀ mo, (plUp (stZ Z) (ownK mo) 8).length ≤ 256 := fun q => by subst q; exact hAX.h256
  have hP : va_P D vwCl ((cW cI cS G SA sf pa no pts rf rg (nI RL.length) pk ps pt L9 p1 p2 p3 (nI rows.length) op (nI F) (nI Gn) (cB C) off left wr rc th Z ++ [(o, .inl (cJ, 1, .inr (.inl fo)))]) ++ (mW cI cZ M mc0 off left wr rc mem oth ks vs sx op mps mpk msr mtg mfl mxs)) H := hP
  have hD : va_D A ((cW cI cS G SA sf pa no pts rf rg (nI RL.length) pk ps pt L9 p1 p2 p3 (nI rows.length) op (nI F) (nI Gn) (cB C) off left wr rc th Z ++ [(o, .inl (cJ, 1, .inr (.inl fo)))]) ++ (mW cI cZ M mc0 off left wr rc mem oth ks vs sx op mps mpk msr mtg mfl mxs)) := hD
  refine lv_aload_n hx hb dL_law_1073 rfl (lv_at hl 3 rfl) ?_
  refine lv_aload_n hx hb dL_law_1074 rfl (lv_at hl 4 rfl) ?_
  refine lv_iload hx hb dL_law_1075 (lv_at hl 0 rfl) ?_
  refine lv_iconst (v := 1) hx hb dL_law_1077 (by decide) ?_
  refine lv_iadd hx hb dL_law_1078 ?_
  refine ya_sld hx hb hX hbl hbA hS (i + 1) (by rw [show (1 : Int32) = nI 1 from rfl, nI_add]) (by omega) (by omega) dL_law_1079 ?_
  refine lv_aload_n hx hb dL_law_1080 rfl (lv_at hl 1 rfl) ?_
  have hPc := pp_l hP
  have hDc := pd_l hD
  have hFc := wfree hDc hS hA
  refine vx_calli (vx_runSX (As := [.ref (G 0), .int (xs (i + 1)), .ref o]) (rest := []) ⟨hx, hb, hml, hown, ht⟩ (c_L_count l hl0 D cI cZ cS cJ H.size G SA sf hsf pa no pts rf rg RL pk ps pt L9 p1 p2 p3 op off left wr rc th Z mm rows F Gn C hci o fo hthv hGF9 hFl9 (xs (i + 1))) (xwSW 3 ht kw3_56 kw3_54 kw1_0 kw3_55 rfl rfl (by decide +kernel) ⟨Nat.le_of_ble_eq_true rfl, Nat.le_of_ble_eq_true rfl⟩) ⟨PZ.blind, fun U hU hW => PZ.mk hU hW hPc hK hDc hS hFc hTX hNC⟩ rfl rfl hl.1 rfl (lv_room (Nat.le_of_ble_eq_true rfl)) dL_law_1081 ⟨hkc, hnc⟩) hS (fun q _ h => hFc q h) hFc (fun q _ h => hFc q h) (fun E ce q9 u9 t9 H1 locs ht1 hvm hpx _ _ _ _ _ _ _ => hpx.elim) (fun kx1081 u1081 t1081 H1 locs ht1 hvm w1081 hB hz1 hk1 hS => ?_)
  try dsimp only at w1081 hB
  obtain ⟨hP1, hD1⟩ := hB
  rw [ht1] at hP1
  obtain ⟨hP, hD⟩ := pj_l hP hD hk1 hFc hP1 hD1
  generalize H1 = H at hP hS ⊢
  have hP : va_P D vwCl ((cW cI cS G SA sf pa no pts rf rg (nI RL.length) pk ps pt L9 p1 p2 p3 (nI rows.length) op (nI F) (nI Gn) (cB C) off left wr rc th Z ++ [(o, .inl (cJ, 1, .inr (.inl u1081)))]) ++ (mW cI cZ M mc0 off left wr rc mem oth ks vs sx op mps mpk msr mtg mfl mxs)) H := hP
  have hD : va_D A ((cW cI cS G SA sf pa no pts rf rg (nI RL.length) pk ps pt L9 p1 p2 p3 (nI rows.length) op (nI F) (nI Gn) (cB C) off left wr rc th Z ++ [(o, .inl (cJ, 1, .inr (.inl u1081)))]) ++ (mW cI cZ M mc0 off left wr rc mem oth ks vs sx op mps mpk msr mtg mfl mxs)) := hD
  refine lv_istore (lv' := [(5, .int kx1081), (4, .int (nI i)), (3, .ref o), (2, .ref (M 0)), (1, .ref (G 0)), (0, .ref b)]) hx hb dL_law_1084 hl (by decide) rfl (fun ls hl => ?_)
  refine lv_aload_n hx hb dL_law_1086 rfl (lv_at hl 3 rfl) ?_
  refine lv_aload_n hx hb dL_law_1087 rfl (lv_at hl 5 rfl) ?_
  refine lv_iload hx hb dL_law_1088 (lv_at hl 1 rfl) ?_
  refine lv_iconst (v := 1) hx hb dL_law_1090 (by decide) ?_
  refine lv_iadd hx hb dL_law_1091 ?_
  refine ya_sld hx hb hX hbl hbA hS (i + 1) (by rw [show (1 : Int32) = nI 1 from rfl, nI_add]) (by omega) (by omega) dL_law_1092 ?_
  have hPc := pp_r hP
  have hDc := pd_r hD
  have hFc := wfree hDc hS hA
  refine va_calli (va_runV (As := [.int (xs (i + 1))]) (rest := []) ⟨hx, hb, hml, hown, ht⟩ (c_X5_count l D cI cZ cS cJ H.size M mc0 off left wr rc mem oth ks vs sx op mps mpk msr mtg mfl mxs (stZ Z) hRS mm hmem hM9 rows F Gn C hRP hsr9 hplr hp89 ho1 hGF9 hFl9 (xs (i + 1))) (xwV 1 ht kw4_60 kw4_57 kw1_11 kw4_58 kw4_59 rfl rfl (by decide +kernel) ⟨Nat.le_of_ble_eq_true rfl, Nat.le_of_ble_eq_true rfl⟩) ⟨PB.blind, va_recv hK hPc (ci := 5) (q0 := 0) rfl rfl, fun U hU hW => PB.mk hU hW hPc hK hDc⟩ rfl rfl hl.1 rfl (lv_room (Nat.le_of_ble_eq_true rfl)) dL_law_1093 ⟨by first | exact hkc | (show kc + _ ≤ 601024; omega), by first | exact hnc | (show nc + _ ≤ 7293000; omega)⟩) hS (fun q _ h => hFc q h) hFc (fun r1093 u1093 t1093 H1 locs ht1 hvm w1093 hB hz1 hk1 hS => ?_)
  try dsimp only at w1093 hB
  obtain ⟨hP1, hD1⟩ := hB
  rw [ht1] at hP1
  obtain ⟨hP, hD⟩ := pj_r hP hD hk1 hFc hP1 hD1
  generalize H1 = H at hP hS ⊢
  have hP : va_P D vwCl ((cW cI cS G SA sf pa no pts rf rg (nI RL.length) pk ps pt L9 p1 p2 p3 (nI rows.length) op (nI F) (nI Gn) (cB C) off left wr rc th Z ++ [(o, .inl (cJ, 1, .inr (.inl u1081)))]) ++ (mW cI cZ M ((cntF off (stZ Z) mm op rows F Gn (xs (i + 1))).1) off left wr rc mem oth ks vs sx op mps mpk msr mtg mfl mxs)) H := hP
  have hD : va_D A ((cW cI cS G SA sf pa no pts rf rg (nI RL.length) pk ps pt L9 p1 p2 p3 (nI rows.length) op (nI F) (nI Gn) (cB C) off left wr rc th Z ++ [(o, .inl (cJ, 1, .inr (.inl u1081)))]) ++ (mW cI cZ M ((cntF off (stZ Z) mm op rows F Gn (xs (i + 1))).1) off left wr rc mem oth ks vs sx op mps mpk msr mtg mfl mxs)) := hD
  refine lv_istore (lv' := [(6, .int r1093), (5, .int kx1081), (4, .int (nI i)), (3, .ref o), (2, .ref (M 0)), (1, .ref (G 0)), (0, .ref b)]) hx hb dL_law_1096 hl (by decide) rfl (fun ls hl => ?_)
  refine lv_aload_n hx hb dL_law_1098 rfl (lv_at hl 4 rfl) ?_
  have hPc := pp_r hP
  have hDc := pd_r hD
  have hFc := wfree hDc hS hA
  refine va_calli (va_runV (As := []) (rest := []) ⟨hx, hb, hml, hown, ht⟩ (c_X5_thrown l D cI cZ cS cJ H.size M ((cntF off (stZ Z) mm op rows F Gn (xs (i + 1))).1) off left wr rc mem oth ks vs sx op mps mpk msr mtg mfl mxs ) (xwV 0 ht kw3_136 kw3_133 kw1_11 kw3_134 kw3_135 rfl rfl (by decide +kernel) ⟨Nat.le_of_ble_eq_true rfl, Nat.le_of_ble_eq_true rfl⟩) ⟨PB.blind, va_recv hK hPc (ci := 5) (q0 := 0) rfl rfl, fun U hU hW => PB.mk hU hW hPc hK hDc⟩ rfl rfl hl.1 rfl (lv_room (Nat.le_of_ble_eq_true rfl)) dL_law_1099 ⟨by first | exact hkc | (show kc + _ ≤ 601024; omega), by first | exact hnc | (show nc + _ ≤ 7293000; omega)⟩) hS (fun q _ h => hFc q h) hFc (fun r1099 u1099 t1099 H1 locs ht1 hvm w1099 hB hz1 hk1 hS => ?_)
  try dsimp only at w1099 hB
  rw [ht1] at hB
  have hP := pr_r hP hD hk1 hB
  generalize H1 = H at hP hS ⊢
  have hP : va_P D vwCl ((cW cI cS G SA sf pa no pts rf rg (nI RL.length) pk ps pt L9 p1 p2 p3 (nI rows.length) op (nI F) (nI Gn) (cB C) off left wr rc th Z ++ [(o, .inl (cJ, 1, .inr (.inl u1081)))]) ++ (mW cI cZ M ((cntF off (stZ Z) mm op rows F Gn (xs (i + 1))).1) off left wr rc mem oth ks vs sx op mps mpk msr mtg mfl mxs)) H := hP
  have hD : va_D A ((cW cI cS G SA sf pa no pts rf rg (nI RL.length) pk ps pt L9 p1 p2 p3 (nI rows.length) op (nI F) (nI Gn) (cB C) off left wr rc th Z ++ [(o, .inl (cJ, 1, .inr (.inl u1081)))]) ++ (mW cI cZ M ((cntF off (stZ Z) mm op rows F Gn (xs (i + 1))).1) off left wr rc mem oth ks vs sx op mps mpk msr mtg mfl mxs)) := hD
  have hfin := fin_rd (X := cntF off (stZ Z) mm op rows F Gn (xs (i + 1))) w1081
  refine lv_iload hx hb dL_law_1102 (lv_at hl 1 rfl) ?_
  refine lv_icmp_eq (tgt := 1109) hx hb dL_law_1104 (by decide) (fun c1104 => ?_) (fun c1104 => ?_)
  · refine lv_iload hx hb dL_law_1109 (lv_at hl 1 rfl) ?_
    refine lv_if_ne (tgt := 1126) hx hb dL_law_1111 (by decide) (fun c1111 => ?_) (fun c1111 => ?_)
    · refine lv_goto (tgt := 1225) hx hb dL_law_1126 (by decide) ?_
      exact K (pa, no, pts, rf, rg, RL, pk, ps, pt, L9, p1, p2, p3, op, off, left, wr, rc, th, Z, mm, rows, F, Gn, C) ((cntF off (stZ Z) mm op rows F Gn (xs (i + 1))).1, off, left, wr, rc, mem, oth, ks, vs, sx, op, mps, mpk, msr, mtg, mfl, mxs) u1081 _ _ ls ⟨by exact hP, by exact hD, hS, ⟨rfl, rfl, rfl, rfl, rfl, hRS, hmem, hRP⟩, hci, AX.mono (N := N) hAX (Nat.le_succ N), hthv⟩ (lv_sub hl [2, 3, 4, 5, 6] rfl)
    · refine lv_aload_n hx hb dL_law_1114 rfl (lv_at hl 3 rfl) ?_
      refine lv_iconst (v := 0) hx hb dL_law_1115 (by decide) ?_
      refine ya_lald hx hb hK hP 35 3 rfl rfl 0 rfl (by decide) (by decide) dL_law_1116 ?_
      refine lv_iload hx hb dL_law_1117 (lv_at hl 0 rfl) ?_
      refine lv_i2l (v := (r1093 : Int32).toInt64) hx hb dL_law_1119 rfl ?_
      refine W.lcmp hx hb dL_law_1120 ?_
      refine lv_if_eq (tgt := 1126) hx hb dL_law_1121 (by decide) (fun c1121 => ?_) (fun c1121 => ?_)
      · refine lv_goto (tgt := 1225) hx hb dL_law_1126 (by decide) ?_
        exact K (pa, no, pts, rf, rg, RL, pk, ps, pt, L9, p1, p2, p3, op, off, left, wr, rc, th, Z, mm, rows, F, Gn, C) ((cntF off (stZ Z) mm op rows F Gn (xs (i + 1))).1, off, left, wr, rc, mem, oth, ks, vs, sx, op, mps, mpk, msr, mtg, mfl, mxs) u1081 _ _ ls ⟨by exact hP, by exact hD, hS, ⟨rfl, rfl, rfl, rfl, rfl, hRS, hmem, hRP⟩, hci, AX.mono (N := N) hAX (Nat.le_succ N), hthv⟩ (lv_sub hl [2, 3, 4, 5, 6] rfl)
      · exact absurd (lgc ((hfin.2 c1111).trans (by rw [w1093]))) c1121
  · exact absurd (w1099.trans hfin.1) c1104

set_option maxHeartbeats 4000000 in
set_option maxRecDepth 100000 in
theorem law_written {p : Program} {l : Launch} {e : Env} {s : State} {m : MethodId} {below : List Frame} {meth : Method} {c : Code} {b L : Nat} {xs : Nat → Int32} {D : va_G} {cI cZ cS cJ : ClassId} {G SA M : Nat → Nat} {sf : Nat → Option Nat} {o : Nat} {A : Nat → Prop} (hl0 : l.stackTraces = false) (C9 : LA p s m c b L xs D cI cZ cS cJ SA sf A) {N kc nc i : Nat} {u : CT} {v : MT} {fo : Nat → Int64} {H : Heap} {locs : List Loc} {ls : Array Slot} {Q : State → Prop} (hI : LSt s D cI cZ cS cJ G SA sf M o A N u v fo H locs) (hN : N ≤ 511) (hi : i + 2 < L) (hkc : kc + 80 ≤ 601024) (hnc : nc + 8400 ≤ 7293000) (hl : lv_has ls 8 [(4, .int (nI i)), (3, .ref o), (2, .ref (M 0)), (1, .ref (G 0)), (0, .ref b)]) (K : ∀ (u1 : CT) (v1 : MT) (f1 : Nat → Int64) (H1 : Heap) (locs1 : List Loc) (ls1 : Array Slot), LSt s D cI cZ cS cJ G SA sf M o A (N + 1) u1 v1 f1 H1 locs1 → lv_has ls1 8 [(4, .int (nI i)), (3, .ref o), (2, .ref (M 0)), (1, .ref (G 0)), (0, .ref b)] → W p l e room_1 s m #[Value.ref b] below meth c H1 locs1 (kc + 80) (nc + 8400) Q (F0 m 1225 ls1 [])) : W p l e room_1 s m #[Value.ref b] below meth c H locs kc nc Q (F0 m 1129 ls []) := by
  obtain ⟨hx, hb, hml, hown, ht, hX, hbl, hK, hTX, hNC, hsf, hLb, hAe⟩ := id C9
  have hA : ∀ q : Nat, s.heap.size ≤ q → A q := fun q h => by rw [hAe]; exact h
  have hbA : ¬ A b := by rw [hAe]; exact Nat.not_le.mpr hbl
  obtain ⟨hP, hD, hS, hrep, hciu, hai, hthu⟩ := hI
  obtain ⟨pa, no, pts, rf, rg, RL, pk, ps, pt, L9, p1, p2, p3, op, off, left, wr, rc, th, Z, mm, rows, F, Gn, C⟩ := u
  obtain ⟨mc0, moff, mleft, mwr, mrc, mem, oth, ks, vs, sx, mpl, mps, mpk, msr, mtg, mfl, mxs⟩ := v
  obtain ⟨e1, e2, e3, e4, e5, hRS, hmem, hRP⟩ : moff = off ∧ mleft = left ∧ mwr = wr ∧ mrc = rc ∧ mpl = op ∧ RS (stZ Z) ks vs sx ∧ (∀ n, n < 8 → mem n = nI (mm n)) ∧ RP rows F Gn C mps mpk msr mtg mfl mxs := hrep
  have e1 := e1.symm
  subst e1
  have e2 := e2.symm
  subst e2
  have e3 := e3.symm
  subst e3
  have e4 := e4.symm
  subst e4
  have e5 := e5.symm
  subst e5
  have hci : CI mm RL pts rf rg rows L9 p1 p2 p3 F Gn Z := hciu
  have hAX : AX N off (stZ Z) mm op rows F Gn C := hai
  obtain ⟨ho1, hp01, hSL, hM9, ⟨⟨hsr9, hp89, hrl9, hFl9, hGF9⟩, hCF9, hpl09, hrow9⟩, hLOC9, hAGR9, hth9⟩ := id hAX
  have hthv : th = nI (thF (stZ Z) (homeF mm rows F)) := hthu
  have hplr : op = 1 ∨ (op = 0 ∧ rows = []) := hp01.elim (fun q => Or.inr ⟨q, hpl09 q⟩) Or.inl
  have hlen9 : ∀ n, n < 8 → ((stZ Z) n).length < 999 := fun n hn => Nat.lt_of_le_of_lt (hSL n hn).2 (by omega)
  have hlen9k : ∀ n, n < 8 → ((stZ Z) n).length < 1000 := fun n hn => Nat.lt_trans (hlen9 n hn) (by decide)
  have hss9 : ∀ n, n < 8 → Srt ((stZ Z) n) := fun n hn => (hSL n hn).1
  have hpl9 : op = 0 → rows = [] ∧ F = 0 ∧ Gn = 0 ∧ C = false := fun q => by subst q; exact hAX.emp
  have hv9 : op = 0 → OW (stZ Z) (ownK mm) := fun q => by subst q; exact hAX.ow
  have h2569 : op = 0 → ∀ mo, (plUp (stZ Z) (ownK mo) 8).length ≤ 256 := fun q => by subst q; exact hAX.h256
  have hP : va_P D vwCl ((cW cI cS G SA sf pa no pts rf rg (nI RL.length) pk ps pt L9 p1 p2 p3 (nI rows.length) op (nI F) (nI Gn) (cB C) off left wr rc th Z ++ [(o, .inl (cJ, 1, .inr (.inl fo)))]) ++ (mW cI cZ M mc0 off left wr rc mem oth ks vs sx op mps mpk msr mtg mfl mxs)) H := hP
  have hD : va_D A ((cW cI cS G SA sf pa no pts rf rg (nI RL.length) pk ps pt L9 p1 p2 p3 (nI rows.length) op (nI F) (nI Gn) (cB C) off left wr rc th Z ++ [(o, .inl (cJ, 1, .inr (.inl fo)))]) ++ (mW cI cZ M mc0 off left wr rc mem oth ks vs sx op mps mpk msr mtg mfl mxs)) := hD
  refine lv_aload_n hx hb dL_law_1129 rfl (lv_at hl 3 rfl) ?_
  refine lv_aload_n hx hb dL_law_1130 rfl (lv_at hl 4 rfl) ?_
  refine lv_iload hx hb dL_law_1131 (lv_at hl 0 rfl) ?_
  refine lv_iconst (v := 1) hx hb dL_law_1133 (by decide) ?_
  refine lv_iadd hx hb dL_law_1134 ?_
  refine ya_sld hx hb hX hbl hbA hS (i + 1) (by rw [show (1 : Int32) = nI 1 from rfl, nI_add]) (by omega) (by omega) dL_law_1135 ?_
  refine lv_if_eq (tgt := 1143) hx hb dL_law_1136 (by decide) (fun c1136 => ?_) (fun c1136 => ?_)
  · refine lv_iconst (v := 0) hx hb dL_law_1143 (by decide) ?_
    have hPc := pp_l (pp_l hP)
    have hDc := pd_l (pd_l hD)
    have hFc := wfree hDc hS hA
    refine va_calli (va_runV (As := [.int 0]) (rest := []) ⟨hx, hb, hml, hown, ht⟩ (c_X4_written l D cI cZ cS cJ H.size G SA sf hsf pa no pts rf rg RL pk ps pt L9 p1 p2 p3 op off left wr rc th Z mm rows F Gn C hci 0) (xwV 1 ht kw1_203 kw1_200 kw1_1 kw1_201 kw1_202 rfl rfl (by decide +kernel) ⟨Nat.le_of_ble_eq_true rfl, Nat.le_of_ble_eq_true rfl⟩) ⟨PB.blind, va_recv hK hPc (ci := 4) (q0 := 0) rfl rfl, fun U hU hW => PB.mk hU hW hPc hK hDc⟩ rfl rfl hl.1 rfl (lv_room (Nat.le_of_ble_eq_true rfl)) dL_law_1144 ⟨by show kc + _ ≤ 601024; omega, by show nc + _ ≤ 7293000; omega⟩) hS (fun q _ h => hFc q h) hFc (fun r1144 u1144 t1144 H1 locs ht1 hvm w1144 hB hz1 hk1 hS => ?_)
    try dsimp only at w1144 hB
    rw [ht1] at hB
    have hP := pr_ll hP hD hk1 hB
    generalize H1 = H at hP hS ⊢
    have hP : va_P D vwCl ((cW cI cS G SA sf pa no pts rf rg (nI RL.length) pk ps pt L9 p1 p2 p3 (nI rows.length) op (nI F) (nI Gn) (cB C) off left wr rc th Z ++ [(o, .inl (cJ, 1, .inr (.inl fo)))]) ++ (mW cI cZ M mc0 off left wr rc mem oth ks vs sx op mps mpk msr mtg mfl mxs)) H := hP
    have hD : va_D A ((cW cI cS G SA sf pa no pts rf rg (nI RL.length) pk ps pt L9 p1 p2 p3 (nI rows.length) op (nI F) (nI Gn) (cB C) off left wr rc th Z ++ [(o, .inl (cJ, 1, .inr (.inl fo)))]) ++ (mW cI cZ M mc0 off left wr rc mem oth ks vs sx op mps mpk msr mtg mfl mxs)) := hD
    refine lv_aload_n hx hb dL_law_1147 rfl (lv_at hl 2 rfl) ?_
    refine lv_aload_n hx hb dL_law_1148 rfl (lv_at hl 4 rfl) ?_
    refine lv_iload hx hb dL_law_1149 (lv_at hl 0 rfl) ?_
    refine lv_iconst (v := 1) hx hb dL_law_1151 (by decide) ?_
    refine lv_iadd hx hb dL_law_1152 ?_
    refine ya_sld hx hb hX hbl hbA hS (i + 1) (by rw [show (1 : Int32) = nI 1 from rfl, nI_add]) (by omega) (by omega) dL_law_1153 ?_
    refine lv_if_eq (tgt := 1161) hx hb dL_law_1154 (by decide) (fun c1154 => ?_) (fun c1154 => ?_)
    · refine lv_iconst (v := 0) hx hb dL_law_1161 (by decide) ?_
      have hPc := pp_r hP
      have hDc := pd_r hD
      have hFc := wfree hDc hS hA
      refine va_calli (va_runV (As := [.int 0]) (rest := [.int r1144]) ⟨hx, hb, hml, hown, ht⟩ (c_X5_written l D cI cZ cS cJ H.size M mc0 off left wr rc mem oth ks vs sx op mps mpk msr mtg mfl mxs 0) (xwV 1 ht kw4_68 kw4_65 kw1_11 kw4_66 kw4_67 rfl rfl (by decide +kernel) ⟨Nat.le_of_ble_eq_true rfl, Nat.le_of_ble_eq_true rfl⟩) ⟨PB.blind, va_recv hK hPc (ci := 5) (q0 := 0) rfl rfl, fun U hU hW => PB.mk hU hW hPc hK hDc⟩ rfl rfl hl.1 rfl (lv_room (Nat.le_of_ble_eq_true rfl)) dL_law_1162 ⟨by first | exact hkc | (show kc + _ ≤ 601024; omega), by first | exact hnc | (show nc + _ ≤ 7293000; omega)⟩) hS (fun q _ h => hFc q h) hFc (fun r1162 u1162 t1162 H1 locs ht1 hvm w1162 hB hz1 hk1 hS => ?_)
      try dsimp only at w1162 hB
      obtain ⟨hP1, hD1⟩ := hB
      rw [ht1] at hP1
      obtain ⟨hP, hD⟩ := pj_r hP hD hk1 hFc hP1 hD1
      generalize H1 = H at hP hS ⊢
      have hP : va_P D vwCl ((cW cI cS G SA sf pa no pts rf rg (nI RL.length) pk ps pt L9 p1 p2 p3 (nI rows.length) op (nI F) (nI Gn) (cB C) off left wr rc th Z ++ [(o, .inl (cJ, 1, .inr (.inl fo)))]) ++ (mW cI cZ M 0 off left wr rc mem oth ks vs sx op mps mpk msr mtg mfl mxs)) H := hP
      have hD : va_D A ((cW cI cS G SA sf pa no pts rf rg (nI RL.length) pk ps pt L9 p1 p2 p3 (nI rows.length) op (nI F) (nI Gn) (cB C) off left wr rc th Z ++ [(o, .inl (cJ, 1, .inr (.inl fo)))]) ++ (mW cI cZ M 0 off left wr rc mem oth ks vs sx op mps mpk msr mtg mfl mxs)) := hD
      refine lv_icmp_eq (tgt := 1225) hx hb dL_law_1165 (by decide) (fun c1165 => ?_) (fun c1165 => ?_)
      · refine W.widen (k := kc + 80) (n := nc + 8400) (show kc + _ ≤ _ by omega) (show nc + _ ≤ _ by omega) ?_
        exact K (pa, no, pts, rf, rg, RL, pk, ps, pt, L9, p1, p2, p3, op, off, left, wr, rc, th, Z, mm, rows, F, Gn, C) (0, off, left, wr, rc, mem, oth, ks, vs, sx, op, mps, mpk, msr, mtg, mfl, mxs) fo _ _ ls ⟨by exact hP, by exact hD, hS, ⟨rfl, rfl, rfl, rfl, rfl, hRS, hmem, hRP⟩, hci, AX.mono (N := N) hAX (Nat.le_succ N), hthv⟩ (lv_sub hl [0, 1, 2, 3, 4] rfl)
      · exact absurd (w1144.trans w1162.symm) c1165
    · exact absurd c1136 c1154
  · refine lv_iconst (v := 1) hx hb dL_law_1139 (by decide) ?_
    refine lv_goto (tgt := 1144) hx hb dL_law_1140 (by decide) ?_
    have hPc := pp_l (pp_l hP)
    have hDc := pd_l (pd_l hD)
    have hFc := wfree hDc hS hA
    refine va_calli (va_runV (As := [.int 1]) (rest := []) ⟨hx, hb, hml, hown, ht⟩ (c_X4_written l D cI cZ cS cJ H.size G SA sf hsf pa no pts rf rg RL pk ps pt L9 p1 p2 p3 op off left wr rc th Z mm rows F Gn C hci 1) (xwV 1 ht kw1_203 kw1_200 kw1_1 kw1_201 kw1_202 rfl rfl (by decide +kernel) ⟨Nat.le_of_ble_eq_true rfl, Nat.le_of_ble_eq_true rfl⟩) ⟨PB.blind, va_recv hK hPc (ci := 4) (q0 := 0) rfl rfl, fun U hU hW => PB.mk hU hW hPc hK hDc⟩ rfl rfl hl.1 rfl (lv_room (Nat.le_of_ble_eq_true rfl)) dL_law_1144 ⟨by show kc + _ ≤ 601024; omega, by show nc + _ ≤ 7293000; omega⟩) hS (fun q _ h => hFc q h) hFc (fun r1144 u1144 t1144 H1 locs ht1 hvm w1144 hB hz1 hk1 hS => ?_)
    try dsimp only at w1144 hB
    rw [ht1] at hB
    have hP := pr_ll hP hD hk1 hB
    generalize H1 = H at hP hS ⊢
    have hP : va_P D vwCl ((cW cI cS G SA sf pa no pts rf rg (nI RL.length) pk ps pt L9 p1 p2 p3 (nI rows.length) op (nI F) (nI Gn) (cB C) off left wr rc th Z ++ [(o, .inl (cJ, 1, .inr (.inl fo)))]) ++ (mW cI cZ M mc0 off left wr rc mem oth ks vs sx op mps mpk msr mtg mfl mxs)) H := hP
    have hD : va_D A ((cW cI cS G SA sf pa no pts rf rg (nI RL.length) pk ps pt L9 p1 p2 p3 (nI rows.length) op (nI F) (nI Gn) (cB C) off left wr rc th Z ++ [(o, .inl (cJ, 1, .inr (.inl fo)))]) ++ (mW cI cZ M mc0 off left wr rc mem oth ks vs sx op mps mpk msr mtg mfl mxs)) := hD
    refine lv_aload_n hx hb dL_law_1147 rfl (lv_at hl 2 rfl) ?_
    refine lv_aload_n hx hb dL_law_1148 rfl (lv_at hl 4 rfl) ?_
    refine lv_iload hx hb dL_law_1149 (lv_at hl 0 rfl) ?_
    refine lv_iconst (v := 1) hx hb dL_law_1151 (by decide) ?_
    refine lv_iadd hx hb dL_law_1152 ?_
    refine ya_sld hx hb hX hbl hbA hS (i + 1) (by rw [show (1 : Int32) = nI 1 from rfl, nI_add]) (by omega) (by omega) dL_law_1153 ?_
    refine lv_if_eq (tgt := 1161) hx hb dL_law_1154 (by decide) (fun c1154 => ?_) (fun c1154 => ?_)
    · exact absurd c1154 c1136
    · refine lv_iconst (v := 1) hx hb dL_law_1157 (by decide) ?_
      refine lv_goto (tgt := 1162) hx hb dL_law_1158 (by decide) ?_
      have hPc := pp_r hP
      have hDc := pd_r hD
      have hFc := wfree hDc hS hA
      refine va_calli (va_runV (As := [.int 1]) (rest := [.int r1144]) ⟨hx, hb, hml, hown, ht⟩ (c_X5_written l D cI cZ cS cJ H.size M mc0 off left wr rc mem oth ks vs sx op mps mpk msr mtg mfl mxs 1) (xwV 1 ht kw4_68 kw4_65 kw1_11 kw4_66 kw4_67 rfl rfl (by decide +kernel) ⟨Nat.le_of_ble_eq_true rfl, Nat.le_of_ble_eq_true rfl⟩) ⟨PB.blind, va_recv hK hPc (ci := 5) (q0 := 0) rfl rfl, fun U hU hW => PB.mk hU hW hPc hK hDc⟩ rfl rfl hl.1 rfl (lv_room (Nat.le_of_ble_eq_true rfl)) dL_law_1162 ⟨by first | exact hkc | (show kc + _ ≤ 601024; omega), by first | exact hnc | (show nc + _ ≤ 7293000; omega)⟩) hS (fun q _ h => hFc q h) hFc (fun r1162 u1162 t1162 H1 locs ht1 hvm w1162 hB hz1 hk1 hS => ?_)
      try dsimp only at w1162 hB
      obtain ⟨hP1, hD1⟩ := hB
      rw [ht1] at hP1
      obtain ⟨hP, hD⟩ := pj_r hP hD hk1 hFc hP1 hD1
      generalize H1 = H at hP hS ⊢
      have hP : va_P D vwCl ((cW cI cS G SA sf pa no pts rf rg (nI RL.length) pk ps pt L9 p1 p2 p3 (nI rows.length) op (nI F) (nI Gn) (cB C) off left wr rc th Z ++ [(o, .inl (cJ, 1, .inr (.inl fo)))]) ++ (mW cI cZ M 0 off left wr rc mem oth ks vs sx op mps mpk msr mtg mfl mxs)) H := hP
      have hD : va_D A ((cW cI cS G SA sf pa no pts rf rg (nI RL.length) pk ps pt L9 p1 p2 p3 (nI rows.length) op (nI F) (nI Gn) (cB C) off left wr rc th Z ++ [(o, .inl (cJ, 1, .inr (.inl fo)))]) ++ (mW cI cZ M 0 off left wr rc mem oth ks vs sx op mps mpk msr mtg mfl mxs)) := hD
      refine lv_icmp_eq (tgt := 1225) hx hb dL_law_1165 (by decide) (fun c1165 => ?_) (fun c1165 => ?_)
      · refine W.widen (k := kc + 80) (n := nc + 8400) (show kc + _ ≤ _ by omega) (show nc + _ ≤ _ by omega) ?_
        exact K (pa, no, pts, rf, rg, RL, pk, ps, pt, L9, p1, p2, p3, op, off, left, wr, rc, th, Z, mm, rows, F, Gn, C) (0, off, left, wr, rc, mem, oth, ks, vs, sx, op, mps, mpk, msr, mtg, mfl, mxs) fo _ _ ls ⟨by exact hP, by exact hD, hS, ⟨rfl, rfl, rfl, rfl, rfl, hRS, hmem, hRP⟩, hci, AX.mono (N := N) hAX (Nat.le_succ N), hthv⟩ (lv_sub hl [0, 1, 2, 3, 4] rfl)
      · exact absurd (w1144.trans w1162.symm) c1165

set_option maxHeartbeats 4000000 in
set_option maxRecDepth 100000 in
theorem law_share {p : Program} {l : Launch} {e : Env} {s : State} {m : MethodId} {below : List Frame} {meth : Method} {c : Code} {b L : Nat} {xs : Nat → Int32} {D : va_G} {cI cZ cS cJ : ClassId} {G SA M : Nat → Nat} {sf : Nat → Option Nat} {o : Nat} {A : Nat → Prop} (hl0 : l.stackTraces = false) (C9 : LA p s m c b L xs D cI cZ cS cJ SA sf A) {N kc nc i : Nat} {u : CT} {v : MT} {fo : Nat → Int64} {H : Heap} {locs : List Loc} {ls : Array Slot} {Q : State → Prop} (hI : LSt s D cI cZ cS cJ G SA sf M o A N u v fo H locs) (hN : N ≤ 511) (hi : i + 2 < L) (hkc : kc + 80 ≤ 601024) (hnc : nc + 8400 ≤ 7293000) (hl : lv_has ls 8 [(4, .int (nI i)), (3, .ref o), (2, .ref (M 0)), (1, .ref (G 0)), (0, .ref b)]) (K : ∀ (u1 : CT) (v1 : MT) (f1 : Nat → Int64) (H1 : Heap) (locs1 : List Loc) (ls1 : Array Slot), LSt s D cI cZ cS cJ G SA sf M o A (N + 1) u1 v1 f1 H1 locs1 → lv_has ls1 8 [(4, .int (nI i)), (3, .ref o), (2, .ref (M 0)), (1, .ref (G 0)), (0, .ref b)] → W p l e room_1 s m #[Value.ref b] below meth c H1 locs1 (kc + 80) (nc + 8400) Q (F0 m 1225 ls1 [])) : W p l e room_1 s m #[Value.ref b] below meth c H locs kc nc Q (F0 m 1170 ls []) := by
  obtain ⟨hx, hb, hml, hown, ht, hX, hbl, hK, hTX, hNC, hsf, hLb, hAe⟩ := id C9
  have hA : ∀ q : Nat, s.heap.size ≤ q → A q := fun q h => by rw [hAe]; exact h
  have hbA : ¬ A b := by rw [hAe]; exact Nat.not_le.mpr hbl
  obtain ⟨hP, hD, hS, hrep, hciu, hai, hthu⟩ := hI
  obtain ⟨pa, no, pts, rf, rg, RL, pk, ps, pt, L9, p1, p2, p3, op, off, left, wr, rc, th, Z, mm, rows, F, Gn, C⟩ := u
  obtain ⟨mc0, moff, mleft, mwr, mrc, mem, oth, ks, vs, sx, mpl, mps, mpk, msr, mtg, mfl, mxs⟩ := v
  obtain ⟨e1, e2, e3, e4, e5, hRS, hmem, hRP⟩ : moff = off ∧ mleft = left ∧ mwr = wr ∧ mrc = rc ∧ mpl = op ∧ RS (stZ Z) ks vs sx ∧ (∀ n, n < 8 → mem n = nI (mm n)) ∧ RP rows F Gn C mps mpk msr mtg mfl mxs := hrep
  have e1 := e1.symm
  subst e1
  have e2 := e2.symm
  subst e2
  have e3 := e3.symm
  subst e3
  have e4 := e4.symm
  subst e4
  have e5 := e5.symm
  subst e5
  have hci : CI mm RL pts rf rg rows L9 p1 p2 p3 F Gn Z := hciu
  have hAX : AX N off (stZ Z) mm op rows F Gn C := hai
  obtain ⟨ho1, hp01, hSL, hM9, ⟨⟨hsr9, hp89, hrl9, hFl9, hGF9⟩, hCF9, hpl09, hrow9⟩, hLOC9, hAGR9, hth9⟩ := id hAX
  have hthv : th = nI (thF (stZ Z) (homeF mm rows F)) := hthu
  have hplr : op = 1 ∨ (op = 0 ∧ rows = []) := hp01.elim (fun q => Or.inr ⟨q, hpl09 q⟩) Or.inl
  have hlen9 : ∀ n, n < 8 → ((stZ Z) n).length < 999 := fun n hn => Nat.lt_of_le_of_lt (hSL n hn).2 (by omega)
  have hlen9k : ∀ n, n < 8 → ((stZ Z) n).length < 1000 := fun n hn => Nat.lt_trans (hlen9 n hn) (by decide)
  have hss9 : ∀ n, n < 8 → Srt ((stZ Z) n) := fun n hn => (hSL n hn).1
  have hpl9 : op = 0 → rows = [] ∧ F = 0 ∧ Gn = 0 ∧ C = false := fun q => by subst q; exact hAX.emp
  have hv9 : op = 0 → OW (stZ Z) (ownK mm) := fun q => by subst q; exact hAX.ow
  have h2569 : op = 0 → ∀ mo, (plUp (stZ Z) (ownK mo) 8).length ≤ 256 := fun q => by subst q; exact hAX.h256
  have hP : va_P D vwCl ((cW cI cS G SA sf pa no pts rf rg (nI RL.length) pk ps pt L9 p1 p2 p3 (nI rows.length) op (nI F) (nI Gn) (cB C) off left wr rc th Z ++ [(o, .inl (cJ, 1, .inr (.inl fo)))]) ++ (mW cI cZ M mc0 off left wr rc mem oth ks vs sx op mps mpk msr mtg mfl mxs)) H := hP
  have hD : va_D A ((cW cI cS G SA sf pa no pts rf rg (nI RL.length) pk ps pt L9 p1 p2 p3 (nI rows.length) op (nI F) (nI Gn) (cB C) off left wr rc th Z ++ [(o, .inl (cJ, 1, .inr (.inl fo)))]) ++ (mW cI cZ M mc0 off left wr rc mem oth ks vs sx op mps mpk msr mtg mfl mxs)) := hD
  refine lv_aload_n hx hb dL_law_1170 rfl (lv_at hl 3 rfl) ?_
  refine lv_aload_n hx hb dL_law_1171 rfl (lv_at hl 4 rfl) ?_
  refine lv_iload hx hb dL_law_1172 (lv_at hl 0 rfl) ?_
  refine lv_iconst (v := 1) hx hb dL_law_1174 (by decide) ?_
  refine lv_iadd hx hb dL_law_1175 ?_
  refine ya_sld hx hb hX hbl hbA hS (i + 1) (by rw [show (1 : Int32) = nI 1 from rfl, nI_add]) (by omega) (by omega) dL_law_1176 ?_
  refine lv_aload_n hx hb dL_law_1177 rfl (lv_at hl 1 rfl) ?_
  have hPc := pp_l hP
  have hDc := pd_l hD
  have hFc := wfree hDc hS hA
  refine vx_calli (vx_runSX (As := [.ref (G 0), .int (xs (i + 1)), .ref o]) (rest := []) ⟨hx, hb, hml, hown, ht⟩ (c_L_share l hl0 D cI cZ cS cJ H.size G SA sf hsf pa no pts rf rg RL pk ps pt L9 p1 p2 p3 op off left wr rc th Z mm rows F Gn C hci o fo (xs (i + 1))) (xwSW 3 ht kw3_64 kw3_62 kw1_0 kw3_63 rfl rfl (by decide +kernel) ⟨Nat.le_of_ble_eq_true rfl, Nat.le_of_ble_eq_true rfl⟩) ⟨PZ.blind, fun U hU hW => PZ.mk hU hW hPc hK hDc hS hFc hTX hNC⟩ rfl rfl hl.1 rfl (lv_room (Nat.le_of_ble_eq_true rfl)) dL_law_1178 ⟨hkc, hnc⟩) hS (fun q _ h => hFc q h) hFc (fun q _ h => hFc q h) (fun E ce q9 u9 t9 H1 locs ht1 hvm hpx _ _ _ _ _ _ _ => hpx.elim) (fun kx1178 u1178 t1178 H1 locs ht1 hvm w1178 hB hz1 hk1 hS => ?_)
  try dsimp only at w1178 hB
  obtain ⟨hP1, hD1⟩ := hB
  rw [ht1] at hP1
  obtain ⟨hP, hD⟩ := pj_l hP hD hk1 hFc hP1 hD1
  generalize H1 = H at hP hS ⊢
  have hP : va_P D vwCl ((cW cI cS G SA sf pa no pts rf rg (nI RL.length) pk ps pt L9 p1 p2 p3 (nI rows.length) op (nI F) (nI Gn) (cB C) off left wr rc th Z ++ [(o, .inl (cJ, 1, .inr (.inl u1178)))]) ++ (mW cI cZ M mc0 off left wr rc mem oth ks vs sx op mps mpk msr mtg mfl mxs)) H := hP
  have hD : va_D A ((cW cI cS G SA sf pa no pts rf rg (nI RL.length) pk ps pt L9 p1 p2 p3 (nI rows.length) op (nI F) (nI Gn) (cB C) off left wr rc th Z ++ [(o, .inl (cJ, 1, .inr (.inl u1178)))]) ++ (mW cI cZ M mc0 off left wr rc mem oth ks vs sx op mps mpk msr mtg mfl mxs)) := hD
  refine lv_istore (lv' := [(5, .int kx1178), (4, .int (nI i)), (3, .ref o), (2, .ref (M 0)), (1, .ref (G 0)), (0, .ref b)]) hx hb dL_law_1181 hl (by decide) rfl (fun ls hl => ?_)
  refine lv_aload_n hx hb dL_law_1183 rfl (lv_at hl 3 rfl) ?_
  refine lv_aload_n hx hb dL_law_1184 rfl (lv_at hl 5 rfl) ?_
  refine lv_iload hx hb dL_law_1185 (lv_at hl 1 rfl) ?_
  refine lv_iconst (v := 1) hx hb dL_law_1187 (by decide) ?_
  refine lv_iadd hx hb dL_law_1188 ?_
  refine ya_sld hx hb hX hbl hbA hS (i + 1) (by rw [show (1 : Int32) = nI 1 from rfl, nI_add]) (by omega) (by omega) dL_law_1189 ?_
  have hPc := pp_r hP
  have hDc := pd_r hD
  have hFc := wfree hDc hS hA
  refine va_calll (va_runV (As := [.int (xs (i + 1))]) (rest := []) ⟨hx, hb, hml, hown, ht⟩ (c_X5_share l D cI cZ cS cJ H.size M mc0 off left wr rc mem oth ks vs sx op mps mpk msr mtg mfl mxs mm hmem hM9 (xs (i + 1))) (xwV 1 ht kw4_72 kw4_69 kw1_11 kw4_70 kw4_71 rfl rfl (by decide +kernel) ⟨Nat.le_of_ble_eq_true rfl, Nat.le_of_ble_eq_true rfl⟩) ⟨PB.blind, va_recv hK hPc (ci := 5) (q0 := 0) rfl rfl, fun U hU hW => PB.mk hU hW hPc hK hDc⟩ rfl rfl hl.1 rfl (lv_room (Nat.le_of_ble_eq_true rfl)) dL_law_1190 ⟨by first | exact hkc | (show kc + _ ≤ 601024; omega), by first | exact hnc | (show nc + _ ≤ 7293000; omega)⟩) hS (fun q _ h => hFc q h) hFc (fun r1190 u1190 t1190 H1 locs ht1 hvm w1190 hB hz1 hk1 hS => ?_)
  try dsimp only at w1190 hB
  obtain ⟨hP1, hD1⟩ := hB
  rw [ht1] at hP1
  obtain ⟨hP, hD⟩ := pj_r hP hD hk1 hFc hP1 hD1
  generalize H1 = H at hP hS ⊢
  have hP : va_P D vwCl ((cW cI cS G SA sf pa no pts rf rg (nI RL.length) pk ps pt L9 p1 p2 p3 (nI rows.length) op (nI F) (nI Gn) (cB C) off left wr rc th Z ++ [(o, .inl (cJ, 1, .inr (.inl u1178)))]) ++ (mW cI cZ M ((shrF off mm (xs (i + 1))).1) off left wr rc mem oth ks vs sx op mps mpk msr mtg mfl mxs)) H := hP
  have hD : va_D A ((cW cI cS G SA sf pa no pts rf rg (nI RL.length) pk ps pt L9 p1 p2 p3 (nI rows.length) op (nI F) (nI Gn) (cB C) off left wr rc th Z ++ [(o, .inl (cJ, 1, .inr (.inl u1178)))]) ++ (mW cI cZ M ((shrF off mm (xs (i + 1))).1) off left wr rc mem oth ks vs sx op mps mpk msr mtg mfl mxs)) := hD
  refine lv_lstore (lv' := [(6, .long r1190), (5, .int kx1178), (4, .int (nI i)), (3, .ref o), (2, .ref (M 0)), (1, .ref (G 0)), (0, .ref b)]) hx hb dL_law_1193 hl (by decide) rfl (fun ls hl => ?_)
  refine lv_aload_n hx hb dL_law_1195 rfl (lv_at hl 4 rfl) ?_
  have hPc := pp_r hP
  have hDc := pd_r hD
  have hFc := wfree hDc hS hA
  refine va_calli (va_runV (As := []) (rest := []) ⟨hx, hb, hml, hown, ht⟩ (c_X5_thrown l D cI cZ cS cJ H.size M ((shrF off mm (xs (i + 1))).1) off left wr rc mem oth ks vs sx op mps mpk msr mtg mfl mxs ) (xwV 0 ht kw3_136 kw3_133 kw1_11 kw3_134 kw3_135 rfl rfl (by decide +kernel) ⟨Nat.le_of_ble_eq_true rfl, Nat.le_of_ble_eq_true rfl⟩) ⟨PB.blind, va_recv hK hPc (ci := 5) (q0 := 0) rfl rfl, fun U hU hW => PB.mk hU hW hPc hK hDc⟩ rfl rfl hl.1 rfl (lv_room (Nat.le_of_ble_eq_true rfl)) dL_law_1196 ⟨by first | exact hkc | (show kc + _ ≤ 601024; omega), by first | exact hnc | (show nc + _ ≤ 7293000; omega)⟩) hS (fun q _ h => hFc q h) hFc (fun r1196 u1196 t1196 H1 locs ht1 hvm w1196 hB hz1 hk1 hS => ?_)
  try dsimp only at w1196 hB
  rw [ht1] at hB
  have hP := pr_r hP hD hk1 hB
  generalize H1 = H at hP hS ⊢
  have hP : va_P D vwCl ((cW cI cS G SA sf pa no pts rf rg (nI RL.length) pk ps pt L9 p1 p2 p3 (nI rows.length) op (nI F) (nI Gn) (cB C) off left wr rc th Z ++ [(o, .inl (cJ, 1, .inr (.inl u1178)))]) ++ (mW cI cZ M ((shrF off mm (xs (i + 1))).1) off left wr rc mem oth ks vs sx op mps mpk msr mtg mfl mxs)) H := hP
  have hD : va_D A ((cW cI cS G SA sf pa no pts rf rg (nI RL.length) pk ps pt L9 p1 p2 p3 (nI rows.length) op (nI F) (nI Gn) (cB C) off left wr rc th Z ++ [(o, .inl (cJ, 1, .inr (.inl u1178)))]) ++ (mW cI cZ M ((shrF off mm (xs (i + 1))).1) off left wr rc mem oth ks vs sx op mps mpk msr mtg mfl mxs)) := hD
  have hfin := fin_rl (X := shrF off mm (xs (i + 1))) w1178
  refine lv_iload hx hb dL_law_1199 (lv_at hl 1 rfl) ?_
  refine lv_icmp_eq (tgt := 1206) hx hb dL_law_1201 (by decide) (fun c1201 => ?_) (fun c1201 => ?_)
  · refine lv_iload hx hb dL_law_1206 (lv_at hl 1 rfl) ?_
    refine lv_if_ne (tgt := 1222) hx hb dL_law_1208 (by decide) (fun c1208 => ?_) (fun c1208 => ?_)
    · refine lv_goto (tgt := 1225) hx hb dL_law_1222 (by decide) ?_
      exact K (pa, no, pts, rf, rg, RL, pk, ps, pt, L9, p1, p2, p3, op, off, left, wr, rc, th, Z, mm, rows, F, Gn, C) ((shrF off mm (xs (i + 1))).1, off, left, wr, rc, mem, oth, ks, vs, sx, op, mps, mpk, msr, mtg, mfl, mxs) u1178 _ _ ls ⟨by exact hP, by exact hD, hS, ⟨rfl, rfl, rfl, rfl, rfl, hRS, hmem, hRP⟩, hci, AX.mono (N := N) hAX (Nat.le_succ N), hthv⟩ (lv_sub hl [2, 3, 4, 5, 6] rfl)
    · refine lv_aload_n hx hb dL_law_1211 rfl (lv_at hl 3 rfl) ?_
      refine lv_iconst (v := 0) hx hb dL_law_1212 (by decide) ?_
      refine ya_lald hx hb hK hP 35 3 rfl rfl 0 rfl (by decide) (by decide) dL_law_1213 ?_
      refine lv_lload hx hb dL_law_1214 (lv_at hl 0 rfl) ?_
      refine W.lcmp hx hb dL_law_1216 ?_
      refine lv_if_eq (tgt := 1222) hx hb dL_law_1217 (by decide) (fun c1217 => ?_) (fun c1217 => ?_)
      · refine lv_goto (tgt := 1225) hx hb dL_law_1222 (by decide) ?_
        exact K (pa, no, pts, rf, rg, RL, pk, ps, pt, L9, p1, p2, p3, op, off, left, wr, rc, th, Z, mm, rows, F, Gn, C) ((shrF off mm (xs (i + 1))).1, off, left, wr, rc, mem, oth, ks, vs, sx, op, mps, mpk, msr, mtg, mfl, mxs) u1178 _ _ ls ⟨by exact hP, by exact hD, hS, ⟨rfl, rfl, rfl, rfl, rfl, hRS, hmem, hRP⟩, hci, AX.mono (N := N) hAX (Nat.le_succ N), hthv⟩ (lv_sub hl [2, 3, 4, 5, 6] rfl)
      · exact absurd (lgc ((hfin.2 c1208).trans (by rw [w1190]))) c1217
  · exact absurd (w1196.trans hfin.1) c1201
