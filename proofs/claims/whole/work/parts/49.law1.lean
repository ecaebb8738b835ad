-- the law: its cases, first part
set_option maxHeartbeats 4000000 in
set_option maxRecDepth 100000 in
theorem law_put {p : Program} {l : Launch} {e : Env} {s : State} {m : MethodId} {below : List Frame} {meth : Method} {c : Code} {b L : Nat} {xs : Nat → Int32} {D : va_G} {cI cZ cS cJ : ClassId} {G SA M : Nat → Nat} {sf : Nat → Option Nat} {o : Nat} {A : Nat → Prop} (hl0 : l.stackTraces = false) (C9 : LA p s m c b L xs D cI cZ cS cJ SA sf A) {N kc nc i : Nat} {u : CT} {v : MT} {fo : Nat → Int64} {H : Heap} {locs : List Loc} {ls : Array Slot} {Q : State → Prop} (hI : LSt s D cI cZ cS cJ G SA sf M o A N u v fo H locs) (hN : N ≤ 511) (hi : i + 2 < L) (hkc : kc + 80 ≤ 601024) (hnc : nc + 8400 ≤ 7293000) (hl : lv_has ls 8 [(4, .int (nI i)), (3, .ref o), (2, .ref (M 0)), (1, .ref (G 0)), (0, .ref b)]) (K : ∀ (u1 : CT) (v1 : MT) (f1 : Nat → Int64) (H1 : Heap) (locs1 : List Loc) (ls1 : Array Slot), LSt s D cI cZ cS cJ G SA sf M o A (N + 1) u1 v1 f1 H1 locs1 → lv_has ls1 8 [(4, .int (nI i)), (3, .ref o), (2, .ref (M 0)), (1, .ref (G 0)), (0, .ref b)] → W p l e room_1 s m #[Value.ref b] below meth c H1 locs1 (kc + 80) (nc + 8400) Q (F0 m 1225 ls1 [])) : W p l e room_1 s m #[Value.ref b] below meth c H locs kc nc Q (F0 m 152 ls []) := by
  obtain ⟨hx, hb, hml, hown, ht, hX, hbl, hK, hTX, hNC, hsf, hLb, hAe⟩ := id C9
  have hA : ∀ q : Nat, s.heap.size ≤ q → A q := fun q h => by rw [hAe]; exact h
  have hbA : ¬ A b := by rw [hAe]; exact Nat.not_le.mpr hbl
  obtain ⟨hP, hD, hS, hrep, hciu, hai, hthu⟩ := hI
  obtain ⟨pa, no, pts, rf, rg, RL, pk, ps, pt, L9, p1, p2, p3, op, off, left, wr, rc, th, Z, mm, rows, F, Gn, C⟩ := u
  obtain ⟨mc0, moff, mleft, mwr, mrc, mem, oth, ks, vs, sx, mpl, mps, mpk, msr, mtg, mfl, mxs⟩ := v
  obtain ⟨e1, e2, e3, e4, e5, hRS, hmem, hRP⟩ : moff = off ∧ mleft = left ∧ mwr = wr ∧ mrc = rc ∧ mpl = op ∧ RS (stZ Z) ks vs sx ∧ (∀ n, n < 8 → mem n = nI (mm n)) ∧ RP rows F Gn C mps mpk msr mtg mfl mxs := hrep
  have e1 := e1.symm
  subst e1
  have e2 := e2.symm
  subst e2
  have e3 := e3.symm
  subst e3
  have e4 := e4.symm
  subst e4
  have e5 := e5.symm
  subst e5
  have hci : CI mm RL pts rf rg rows L9 p1 p2 p3 F Gn Z := hciu
  have hAX : AX N off (stZ Z) mm op rows F Gn C := hai
  obtain ⟨ho1, hp01, hSL, hM9, ⟨⟨hsr9, hp89, hrl9, hFl9, hGF9⟩, hCF9, hpl09, hrow9⟩, hLOC9, hAGR9, hth9⟩ := id hAX
  have hthv : th = nI (thF (stZ Z) (homeF mm rows F)) := hthu
  have hplr : op = 1 ∨ (op = 0 ∧ rows = []) := hp01.elim (fun q => Or.inr ⟨q, hpl09 q⟩) Or.inl
  have hlen9 : ∀ n, n < 8 → ((stZ Z) n).length < 999 := fun n hn => Nat.lt_of_le_of_lt (hSL n hn).2 (by omega)
  have hlen9k : ∀ n, n < 8 → ((stZ Z) n).length < 1000 := fun n hn => Nat.lt_trans (hlen9 n hn) (by decide)
  have hss9 : ∀ n, n < 8 → Srt ((stZ Z) n) := fun n hn => (hSL n hn).1
  have hpl9 : op = 0 → rows = [] ∧ F = 0 ∧ Gn = 0 ∧ C = false := fun q => by subst q; exact hAX.emp
  have hv9 : op = 0 → OW (stZ Z) (ownK mm) := fun q => by subst q; exact hAX.ow
  have h2569 : op = 0 → ∀ mo, (plUp (stZ Z) (ownK mo) 8).length ≤ 256 := fun q => by subst q; exact hAX.h256
  have hP : va_P D vwCl ((cW cI cS G SA sf pa no pts rf rg (nI RL.length) pk ps pt L9 p1 p2 p3 (nI rows.length) op (nI F) (nI Gn) (cB C) off left wr rc th Z ++ [(o, .inl (cJ, 1, .inr (.inl fo)))]) ++ (mW cI cZ M mc0 off left wr rc mem oth ks vs sx op mps mpk msr mtg mfl mxs)) H := hP
  have hD : va_D A ((cW cI cS G SA sf pa no pts rf rg (nI RL.length) pk ps pt L9 p1 p2 p3 (nI rows.length) op (nI F) (nI Gn) (cB C) off left wr rc th Z ++ [(o, .inl (cJ, 1, .inr (.inl fo)))]) ++ (mW cI cZ M mc0 off left wr rc mem oth ks vs sx op mps mpk msr mtg mfl mxs)) := hD
  refine lv_aload_n hx hb dL_law_152 rfl (lv_at hl 3 rfl) ?_
  refine lv_aload_n hx hb dL_law_153 rfl (lv_at hl 4 rfl) ?_
  refine lv_iload hx hb dL_law_154 (lv_at hl 0 rfl) ?_
  refine lv_iconst (v := 1) hx hb dL_law_156 (by decide) ?_
  refine lv_iadd hx hb dL_law_157 ?_
  refine ya_sld hx hb hX hbl hbA hS (i + 1) (by rw [show (1 : Int32) = nI 1 from rfl, nI_add]) (by omega) (by omega) dL_law_158 ?_
  refine lv_aload_n hx hb dL_law_159 rfl (lv_at hl 4 rfl) ?_
  refine lv_iload hx hb dL_law_160 (lv_at hl 0 rfl) ?_
  refine lv_iconst (v := 2) hx hb dL_law_162 (by decide) ?_
  refine lv_iadd hx hb dL_law_163 ?_
  refine ya_sld hx hb hX hbl hbA hS (i + 2) (by rw [show (2 : Int32) = nI 2 from rfl, nI_add]) (by omega) (by omega) dL_law_164 ?_
  refine lv_aload_n hx hb dL_law_165 rfl (lv_at hl 1 rfl) ?_
  have hPc := pp_l hP
  have hDc := pd_l hD
  have hFc := wfree hDc hS hA
  refine vx_calli (vx_runSX (As := [.ref (G 0), .int (xs (i + 1)), .int (xs (i + 2)), .ref o]) (rest := []) ⟨hx, hb, hml, hown, ht⟩ (c_L_put l hl0 D cI cZ cS cJ H.size G SA sf hsf pa no pts rf rg RL pk ps pt L9 p1 p2 p3 op off left wr rc th Z mm rows F Gn C hci o fo hthv hth9 hlen9 (xs (i + 1)) (xs (i + 2))) (xwSW 4 ht kw1_209 kw1_207 kw1_0 kw1_208 rfl rfl (by decide +kernel) ⟨Nat.le_of_ble_eq_true rfl, Nat.le_of_ble_eq_true rfl⟩) ⟨PZ.blind, fun U hU hW => PZ.mk hU hW hPc hK hDc hS hFc hTX hNC⟩ rfl rfl hl.1 rfl (lv_room (Nat.le_of_ble_eq_true rfl)) dL_law_166 ⟨hkc, hnc⟩) hS (fun q _ h => hFc q h) hFc (fun q _ h => hFc q h) (fun E ce q9 u9 t9 H1 locs ht1 hvm hpx _ _ _ _ _ _ _ => hpx.elim) (fun kx166 u166 t166 H1 locs ht1 hvm w166 hB hz1 hk1 hS => ?_)
  try dsimp only at w166 hB
  obtain ⟨hP1, hD1⟩ := hB
  rw [ht1] at hP1
  obtain ⟨hP, hD⟩ := pj_l hP hD hk1 hFc hP1 hD1
  obtain ⟨⟨paw, now, ptsw, rfw, rgw, RLw, pkw, psw, ptw, Lw, p1w, p2w, p3w, opw, offw, leftw, wrw, rcw, thw, Zw, mmw, rowsw, Fw, Gnw, Cw⟩, f9⟩ := u166
  generalize H1 = H at hP hS ⊢
  have hP : va_P D vwCl ((cW cI cS G SA sf paw now ptsw rfw rgw (nI RLw.length) pkw psw ptw Lw p1w p2w p3w (nI rowsw.length) opw (nI Fw) (nI Gnw) (cB Cw) offw leftw wrw rcw thw Zw ++ [(o, .inl (cJ, 1, .inr (.inl f9)))]) ++ (mW cI cZ M mc0 off left wr rc mem oth ks vs sx op mps mpk msr mtg mfl mxs)) H := hP
  have hD : va_D A ((cW cI cS G SA sf paw now ptsw rfw rgw (nI RLw.length) pkw psw ptw Lw p1w p2w p3w (nI rowsw.length) opw (nI Fw) (nI Gnw) (cB Cw) offw leftw wrw rcw thw Zw ++ [(o, .inl (cJ, 1, .inr (.inl f9)))]) ++ (mW cI cZ M mc0 off left wr rc mem oth ks vs sx op mps mpk msr mtg mfl mxs)) := hD
  refine lv_istore (lv' := [(5, .int kx166), (4, .int (nI i)), (3, .ref o), (2, .ref (M 0)), (1, .ref (G 0)), (0, .ref b)]) hx hb dL_law_169 hl (by decide) rfl (fun ls hl => ?_)
  refine lv_aload_n hx hb dL_law_171 rfl (lv_at hl 3 rfl) ?_
  refine lv_aload_n hx hb dL_law_172 rfl (lv_at hl 5 rfl) ?_
  refine lv_iload hx hb dL_law_173 (lv_at hl 1 rfl) ?_
  refine lv_iconst (v := 1) hx hb dL_law_175 (by decide) ?_
  refine lv_iadd hx hb dL_law_176 ?_
  refine ya_sld hx hb hX hbl hbA hS (i + 1) (by rw [show (1 : Int32) = nI 1 from rfl, nI_add]) (by omega) (by omega) dL_law_177 ?_
  refine lv_aload_n hx hb dL_law_178 rfl (lv_at hl 5 rfl) ?_
  refine lv_iload hx hb dL_law_179 (lv_at hl 1 rfl) ?_
  refine lv_iconst (v := 2) hx hb dL_law_181 (by decide) ?_
  refine lv_iadd hx hb dL_law_182 ?_
  refine ya_sld hx hb hX hbl hbA hS (i + 2) (by rw [show (2 : Int32) = nI 2 from rfl, nI_add]) (by omega) (by omega) dL_law_183 ?_
  have hPc := pp_r hP
  have hDc := pd_r hD
  have hFc := wfree hDc hS hA
  refine va_calli (va_runV (As := [.int (xs (i + 1)), .int (xs (i + 2))]) (rest := []) ⟨hx, hb, hml, hown, ht⟩ (c_X5_put l D cI cZ cS cJ H.size M mc0 off left wr rc mem oth ks vs sx op mps mpk msr mtg mfl mxs (stZ Z) hRS mm hmem hM9 rows F Gn C hRP hsr9 hplr hp89 ho1 hlen9 (xs (i + 1)) (xs (i + 2))) (xwV 2 ht kw3_148 kw3_145 kw1_11 kw3_146 kw3_147 rfl rfl (by decide +kernel) ⟨Nat.le_of_ble_eq_true rfl, Nat.le_of_ble_eq_true rfl⟩) ⟨PB.blind, va_recv hK hPc (ci := 5) (q0 := 0) rfl rfl, fun U hU hW => PB.mk hU hW hPc hK hDc⟩ rfl rfl hl.1 rfl (lv_room (Nat.le_of_ble_eq_true rfl)) dL_law_184 ⟨by first | exact hkc | (show kc + _ ≤ 601024; omega), by first | exact hnc | (show nc + _ ≤ 7293000; omega)⟩) hS (fun q _ h => hFc q h) hFc (fun r184 u184 t184 H1 locs ht1 hvm w184 hB hz1 hk1 hS => ?_)
  try dsimp only at w184 hB
  obtain ⟨hP1, hD1⟩ := hB
  rw [ht1] at hP1
  obtain ⟨hP, hD⟩ := pj_r hP hD hk1 hFc hP1 hD1
  generalize H1 = H at hP hS ⊢
  have hP : va_P D vwCl ((cW cI cS G SA sf paw now ptsw rfw rgw (nI RLw.length) pkw psw ptw Lw p1w p2w p3w (nI rowsw.length) opw (nI Fw) (nI Gnw) (cB Cw) offw leftw wrw rcw thw Zw ++ [(o, .inl (cJ, 1, .inr (.inl f9)))]) ++ (mWu cI cZ M u184)) H := hP
  have hD : va_D A ((cW cI cS G SA sf paw now ptsw rfw rgw (nI RLw.length) pkw psw ptw Lw p1w p2w p3w (nI rowsw.length) opw (nI Fw) (nI Gnw) (cB Cw) offw leftw wrw rcw thw Zw ++ [(o, .inl (cJ, 1, .inr (.inl f9)))]) ++ (mWu cI cZ M u184)) := hD
  refine lv_istore (lv' := [(6, .int r184), (5, .int kx166), (4, .int (nI i)), (3, .ref o), (2, .ref (M 0)), (1, .ref (G 0)), (0, .ref b)]) hx hb dL_law_187 hl (by decide) rfl (fun ls hl => ?_)
  refine lv_aload_n hx hb dL_law_189 rfl (lv_at hl 4 rfl) ?_
  have hPc := pp_r hP
  have hDc := pd_r hD
  have hFc := wfree hDc hS hA
  refine va_calli (va_runV (As := []) (rest := []) ⟨hx, hb, hml, hown, ht⟩ (c_X5_thrown l D cI cZ cS cJ H.size M (u184.1) (u184.2.1) (u184.2.2.1) (u184.2.2.2.1) (u184.2.2.2.2.1) (u184.2.2.2.2.2.1) (u184.2.2.2.2.2.2.1) (u184.2.2.2.2.2.2.2.1) (u184.2.2.2.2.2.2.2.2.1) (u184.2.2.2.2.2.2.2.2.2.1) (u184.2.2.2.2.2.2.2.2.2.2.1) (u184.2.2.2.2.2.2.2.2.2.2.2.1) (u184.2.2.2.2.2.2.2.2.2.2.2.2.1) (u184.2.2.2.2.2.2.2.2.2.2.2.2.2.1) (u184.2.2.2.2.2.2.2.2.2.2.2.2.2.2.1) (u184.2.2.2.2.2.2.2.2.2.2.2.2.2.2.2.1) (u184.2.2.2.2.2.2.2.2.2.2.2.2.2.2.2.2) ) (xwV 0 ht kw3_136 kw3_133 kw1_11 kw3_134 kw3_135 rfl rfl (by decide +kernel) ⟨Nat.le_of_ble_eq_true rfl, Nat.le_of_ble_eq_true rfl⟩) ⟨PB.blind, va_recv hK hPc (ci := 5) (q0 := 0) rfl rfl, fun U hU hW => PB.mk hU hW hPc hK hDc⟩ rfl rfl hl.1 rfl (lv_room (Nat.le_of_ble_eq_true rfl)) dL_law_190 ⟨by first | exact hkc | (show kc + _ ≤ 601024; omega), by first | exact hnc | (show nc + _ ≤ 7293000; omega)⟩) hS (fun q _ h => hFc q h) hFc (fun r190 u190 t190 H1 locs ht1 hvm w190 hB hz1 hk1 hS => ?_)
  try dsimp only at w190 hB
  rw [ht1] at hB
  have hP := pr_r hP hD hk1 hB
  generalize H1 = H at hP hS ⊢
  have hP : va_P D vwCl ((cW cI cS G SA sf paw now ptsw rfw rgw (nI RLw.length) pkw psw ptw Lw p1w p2w p3w (nI rowsw.length) opw (nI Fw) (nI Gnw) (cB Cw) offw leftw wrw rcw thw Zw ++ [(o, .inl (cJ, 1, .inr (.inl f9)))]) ++ (mWu cI cZ M u184)) H := hP
  have hD : va_D A ((cW cI cS G SA sf paw now ptsw rfw rgw (nI RLw.length) pkw psw ptw Lw p1w p2w p3w (nI rowsw.length) opw (nI Fw) (nI Gnw) (cB Cw) offw leftw wrw rcw thw Zw ++ [(o, .inl (cJ, 1, .inr (.inl f9)))]) ++ (mWu cI cZ M u184)) := hD
  have hfin := fin_mut (N := N) (u := (pa, no, pts, rf, rg, RL, pk, ps, pt, L9, p1, p2, p3, op, off, left, wr, rc, th, Z, mm, rows, F, Gn, C)) (u' := (paw, now, ptsw, rfw, rgw, RLw, pkw, psw, ptw, Lw, p1w, p2w, p3w, opw, offw, leftw, wrw, rcw, thw, Zw, mmw, rowsw, Fw, Gnw, Cw)) (σ := (off, left, wr, rc, stZ Z, mm, op, rows, F, Gn, C)) (T := (if left = 0 ∨ hs (stZ Z (homeF mm rows F (xs (i + 1)))) (xs (i + 1)) = true then th else th + 1)) (X := putF off left wr rc (stZ Z) mm op rows F Gn C (xs (i + 1)) (xs (i + 2))) (f' := f9) (fo := fo) rfl hci hthv (fun k r σ9 hX9 => have h9 := put_AI hAX _ _ hX9; ⟨h9.1, h9.2.1, fun q => (th_step (h9.2.2 q) hthv).symm⟩) w166 w184
  refine lv_iload hx hb dL_law_193 (lv_at hl 1 rfl) ?_
  refine lv_icmp_eq (tgt := 200) hx hb dL_law_195 (by decide) (fun c195 => ?_) (fun c195 => ?_)
  · refine lv_iload hx hb dL_law_200 (lv_at hl 1 rfl) ?_
    refine lv_if_ne (tgt := 217) hx hb dL_law_202 (by decide) (fun c202 => ?_) (fun c202 => ?_)
    · refine lv_goto (tgt := 1225) hx hb dL_law_217 (by decide) ?_
      exact K (paw, now, ptsw, rfw, rgw, RLw, pkw, psw, ptw, Lw, p1w, p2w, p3w, opw, offw, leftw, wrw, rcw, thw, Zw, mmw, rowsw, Fw, Gnw, Cw) u184 f9 _ _ ls ⟨by exact hP, by exact hD, hS, hfin.2.2.1, hfin.2.2.2.1, hfin.2.2.2.2.1, hfin.2.2.2.2.2⟩ (lv_sub hl [2, 3, 4, 5, 6] rfl)
    · refine lv_aload_n hx hb dL_law_205 rfl (lv_at hl 3 rfl) ?_
      refine lv_iconst (v := 0) hx hb dL_law_206 (by decide) ?_
      refine ya_lald hx hb hK hP 35 3 rfl rfl 0 rfl (by decide) (by decide) dL_law_207 ?_
      refine lv_iload hx hb dL_law_208 (lv_at hl 0 rfl) ?_
      refine lv_i2l (v := (r184 : Int32).toInt64) hx hb dL_law_210 rfl ?_
      refine W.lcmp hx hb dL_law_211 ?_
      refine lv_if_eq (tgt := 217) hx hb dL_law_212 (by decide) (fun c212 => ?_) (fun c212 => ?_)
      · refine lv_goto (tgt := 1225) hx hb dL_law_217 (by decide) ?_
        exact K (paw, now, ptsw, rfw, rgw, RLw, pkw, psw, ptw, Lw, p1w, p2w, p3w, opw, offw, leftw, wrw, rcw, thw, Zw, mmw, rowsw, Fw, Gnw, Cw) u184 f9 _ _ ls ⟨by exact hP, by exact hD, hS, hfin.2.2.1, hfin.2.2.2.1, hfin.2.2.2.2.1, hfin.2.2.2.2.2⟩ (lv_sub hl [2, 3, 4, 5, 6] rfl)
      · exact absurd (lgc (hfin.2.1 c202)) c212
  · exact absurd (w190.trans hfin.1) c195

set_option maxHeartbeats 4000000 in
set_option maxRecDepth 100000 in
theorem law_remove {p : Program} {l : Launch} {e : Env} {s : State} {m : MethodId} {below : List Frame} {meth : Method} {c : Code} {b L : Nat} {xs : Nat → Int32} {D : va_G} {cI cZ cS cJ : ClassId} {G SA M : Nat → Nat} {sf : Nat → Option Nat} {o : Nat} {A : Nat → Prop} (hl0 : l.stackTraces = false) (C9 : LA p s m c b L xs D cI cZ cS cJ SA sf A) {N kc nc i : Nat} {u : CT} {v : MT} {fo : Nat → Int64} {H : Heap} {locs : List Loc} {ls : Array Slot} {Q : State → Prop} (hI : LSt s D cI cZ cS cJ G SA sf M o A N u v fo H locs) (hN : N ≤ 511) (hi : i + 2 < L) (hkc : kc + 80 ≤ 601024) (hnc : nc + 8400 ≤ 7293000) (hl : lv_has ls 8 [(4, .int (nI i)), (3, .ref o), (2, .ref (M 0)), (1, .ref (G 0)), (0, .ref b)]) (K : ∀ (u1 : CT) (v1 : MT) (f1 : Nat → Int64) (H1 : Heap) (locs1 : List Loc) (ls1 : Array Slot), LSt s D cI cZ cS cJ G SA sf M o A (N + 1) u1 v1 f1 H1 locs1 → lv_has ls1 8 [(4, .int (nI i)), (3, .ref o), (2, .ref (M 0)), (1, .ref (G 0)), (0, .ref b)] → W p l e room_1 s m #[Value.ref b] below meth c H1 locs1 (kc + 80) (nc + 8400) Q (F0 m 1225 ls1 [])) : W p l e room_1 s m #[Value.ref b] below meth c H locs kc nc Q (F0 m 220 ls []) := by
  obtain ⟨hx, hb, hml, hown, ht, hX, hbl, hK, hTX, hNC, hsf, hLb, hAe⟩ := id C9
  have hA : ∀ q : Nat, s.heap.size ≤ q → A q := fun q h => by rw [hAe]; exact h
  have hbA : ¬ A b := by rw [hAe]; exact Nat.not_le.mpr hbl
  obtain ⟨hP, hD, hS, hrep, hciu, hai, hthu⟩ := hI
  obtain ⟨pa, no, pts, rf, rg, RL, pk, ps, pt, L9, p1, p2, p3, op, off, left, wr, rc, th, Z, mm, rows, F, Gn, C⟩ := u
  obtain ⟨mc0, moff, mleft, mwr, mrc, mem, oth, ks, vs, sx, mpl, mps, mpk, msr, mtg, mfl, mxs⟩ := v
  obtain ⟨e1, e2, e3, e4, e5, hRS, hmem, hRP⟩ : moff = off ∧ mleft = left ∧ mwr = wr ∧ mrc = rc ∧ mpl = op ∧ RS (stZ Z) ks vs sx ∧ (∀ n, n < 8 → mem n = nI (mm n)) ∧ RP rows F Gn C mps mpk msr mtg mfl mxs := hrep
  have e1 := e1.symm
  subst e1
  have e2 := e2.symm
  subst e2
  have e3 := e3.symm
  subst e3
  have e4 := e4.symm
  subst e4
  have e5 := e5.symm
  subst e5
  have hci : CI mm RL pts rf rg rows L9 p1 p2 p3 F Gn Z := hciu
  have hAX : AX N off (stZ Z) mm op rows F Gn C := hai
  obtain ⟨ho1, hp01, hSL, hM9, ⟨⟨hsr9, hp89, hrl9, hFl9, hGF9⟩, hCF9, hpl09, hrow9⟩, hLOC9, hAGR9, hth9⟩ := id hAX
  have hthv : th = nI (thF (stZ Z) (homeF mm rows F)) := hthu
  have hplr : op = 1 ∨ (op = 0 ∧ rows = []) := hp01.elim (fun q => Or.inr ⟨q, hpl09 q⟩) Or.inl
  have hlen9 : ∀ n, n < 8 → ((stZ Z) n).length < 999 := fun n hn => Nat.lt_of_le_of_lt (hSL n hn).2 (by omega)
  have hlen9k : ∀ n, n < 8 → ((stZ Z) n).length < 1000 := fun n hn => Nat.lt_trans (hlen9 n hn) (by decide)
  have hss9 : ∀ n, n < 8 → Srt ((stZ Z) n) := fun n hn => (hSL n hn).1
  have hpl9 : op = 0 → rows = [] ∧ F = 0 ∧ Gn = 0 ∧ C = false := fun q => by subst q; exact hAX.emp
  have hv9 : op = 0 → OW (stZ Z) (ownK mm) := fun q => by subst q; exact hAX.ow
  have h2569 : op = 0 → ∀ mo, (plUp (stZ Z) (ownK mo) 8).length ≤ 256 := fun q => by subst q; exact hAX.h256
  have hP : va_P D vwCl ((cW cI cS G SA sf pa no pts rf rg (nI RL.length) pk ps pt L9 p1 p2 p3 (nI rows.length) op (nI F) (nI Gn) (cB C) off left wr rc th Z ++ [(o, .inl (cJ, 1, .inr (.inl fo)))]) ++ (mW cI cZ M mc0 off left wr rc mem oth ks vs sx op mps mpk msr mtg mfl mxs)) H := hP
  have hD : va_D A ((cW cI cS G SA sf pa no pts rf rg (nI RL.length) pk ps pt L9 p1 p2 p3 (nI rows.length) op (nI F) (nI Gn) (cB C) off left wr rc th Z ++ [(o, .inl (cJ, 1, .inr (.inl fo)))]) ++ (mW cI cZ M mc0 off left wr rc mem oth ks vs sx op mps mpk msr mtg mfl mxs)) := hD
  refine lv_aload_n hx hb dL_law_220 rfl (lv_at hl 3 rfl) ?_
  refine lv_aload_n hx hb dL_law_221 rfl (lv_at hl 4 rfl) ?_
  refine lv_iload hx hb dL_law_222 (lv_at hl 0 rfl) ?_
  refine lv_iconst (v := 1) hx hb dL_law_224 (by decide) ?_
  refine lv_iadd hx hb dL_law_225 ?_
  refine ya_sld hx hb hX hbl hbA hS (i + 1) (by rw [show (1 : Int32) = nI 1 from rfl, nI_add]) (by omega) (by omega) dL_law_226 ?_
  refine lv_aload_n hx hb dL_law_227 rfl (lv_at hl 1 rfl) ?_
  have hPc := pp_l hP
  have hDc := pd_l hD
  have hFc := wfree hDc hS hA
  refine vx_calli (vx_runSX (As := [.ref (G 0), .int (xs (i + 1)), .ref o]) (rest := []) ⟨hx, hb, hml, hown, ht⟩ (c_L_remove l hl0 D cI cZ cS cJ H.size G SA sf hsf pa no pts rf rg RL pk ps pt L9 p1 p2 p3 op off left wr rc th Z mm rows F Gn C hci o fo (xs (i + 1))) (xwSW 3 ht kw2_86 kw2_84 kw1_0 kw2_85 rfl rfl (by decide +kernel) ⟨Nat.le_of_ble_eq_true rfl, Nat.le_of_ble_eq_true rfl⟩) ⟨PZ.blind, fun U hU hW => PZ.mk hU hW hPc hK hDc hS hFc hTX hNC⟩ rfl rfl hl.1 rfl (lv_room (Nat.le_of_ble_eq_true rfl)) dL_law_228 ⟨hkc, hnc⟩) hS (fun q _ h => hFc q h) hFc (fun q _ h => hFc q h) (fun E ce q9 u9 t9 H1 locs ht1 hvm hpx _ _ _ _ _ _ _ => hpx.elim) (fun kx228 u228 t228 H1 locs ht1 hvm w228 hB hz1 hk1 hS => ?_)
  try dsimp only at w228 hB
  obtain ⟨hP1, hD1⟩ := hB
  rw [ht1] at hP1
  obtain ⟨hP, hD⟩ := pj_l hP hD hk1 hFc hP1 hD1
  obtain ⟨⟨paw, now, ptsw, rfw, rgw, RLw, pkw, psw, ptw, Lw, p1w, p2w, p3w, opw, offw, leftw, wrw, rcw, thw, Zw, mmw, rowsw, Fw, Gnw, Cw⟩, f9⟩ := u228
  generalize H1 = H at hP hS ⊢
  have hP : va_P D vwCl ((cW cI cS G SA sf paw now ptsw rfw rgw (nI RLw.length) pkw psw ptw Lw p1w p2w p3w (nI rowsw.length) opw (nI Fw) (nI Gnw) (cB Cw) offw leftw wrw rcw thw Zw ++ [(o, .inl (cJ, 1, .inr (.inl f9)))]) ++ (mW cI cZ M mc0 off left wr rc mem oth ks vs sx op mps mpk msr mtg mfl mxs)) H := hP
  have hD : va_D A ((cW cI cS G SA sf paw now ptsw rfw rgw (nI RLw.length) pkw psw ptw Lw p1w p2w p3w (nI rowsw.length) opw (nI Fw) (nI Gnw) (cB Cw) offw leftw wrw rcw thw Zw ++ [(o, .inl (cJ, 1, .inr (.inl f9)))]) ++ (mW cI cZ M mc0 off left wr rc mem oth ks vs sx op mps mpk msr mtg mfl mxs)) := hD
  refine lv_istore (lv' := [(5, .int kx228), (4, .int (nI i)), (3, .ref o), (2, .ref (M 0)), (1, .ref (G 0)), (0, .ref b)]) hx hb dL_law_231 hl (by decide) rfl (fun ls hl => ?_)
  refine lv_aload_n hx hb dL_law_233 rfl (lv_at hl 3 rfl) ?_
  refine lv_aload_n hx hb dL_law_234 rfl (lv_at hl 5 rfl) ?_
  refine lv_iload hx hb dL_law_235 (lv_at hl 1 rfl) ?_
  refine lv_iconst (v := 1) hx hb dL_law_237 (by decide) ?_
  refine lv_iadd hx hb dL_law_238 ?_
  refine ya_sld hx hb hX hbl hbA hS (i + 1) (by rw [show (1 : Int32) = nI 1 from rfl, nI_add]) (by omega) (by omega) dL_law_239 ?_
  have hPc := pp_r hP
  have hDc := pd_r hD
  have hFc := wfree hDc hS hA
  refine va_calli (va_runV (As := [.int (xs (i + 1))]) (rest := []) ⟨hx, hb, hml, hown, ht⟩ (c_X5_remove l D cI cZ cS cJ H.size M mc0 off left wr rc mem oth ks vs sx op mps mpk msr mtg mfl mxs (stZ Z) hRS mm hmem hM9 rows F Gn C hRP hsr9 hplr hp89 ho1 (xs (i + 1))) (xwV 1 ht kw3_196 kw3_193 kw1_11 kw3_194 kw3_195 rfl rfl (by decide +kernel) ⟨Nat.le_of_ble_eq_true rfl, Nat.le_of_ble_eq_true rfl⟩) ⟨PB.blind, va_recv hK hPc (ci := 5) (q0 := 0) rfl rfl, fun U hU hW => PB.mk hU hW hPc hK hDc⟩ rfl rfl hl.1 rfl (lv_room (Nat.le_of_ble_eq_true rfl)) dL_law_240 ⟨by first | exact hkc | (show kc + _ ≤ 601024; omega), by first | exact hnc | (show nc + _ ≤ 7293000; omega)⟩) hS (fun q _ h => hFc q h) hFc (fun r240 u240 t240 H1 locs ht1 hvm w240 hB hz1 hk1 hS => ?_)
  try dsimp only at w240 hB
  obtain ⟨hP1, hD1⟩ := hB
  rw [ht1] at hP1
  obtain ⟨hP, hD⟩ := pj_r hP hD hk1 hFc hP1 hD1
  generalize H1 = H at hP hS ⊢
  have hP : va_P D vwCl ((cW cI cS G SA sf paw now ptsw rfw rgw (nI RLw.length) pkw psw ptw Lw p1w p2w p3w (nI rowsw.length) opw (nI Fw) (nI Gnw) (cB Cw) offw leftw wrw rcw thw Zw ++ [(o, .inl (cJ, 1, .inr (.inl f9)))]) ++ (mWu cI cZ M u240)) H := hP
  have hD : va_D A ((cW cI cS G SA sf paw now ptsw rfw rgw (nI RLw.length) pkw psw ptw Lw p1w p2w p3w (nI rowsw.length) opw (nI Fw) (nI Gnw) (cB Cw) offw leftw wrw rcw thw Zw ++ [(o, .inl (cJ, 1, .inr (.inl f9)))]) ++ (mWu cI cZ M u240)) := hD
  refine lv_istore (lv' := [(6, .int r240), (5, .int kx228), (4, .int (nI i)), (3, .ref o), (2, .ref (M 0)), (1, .ref (G 0)), (0, .ref b)]) hx hb dL_law_243 hl (by decide) rfl (fun ls hl => ?_)
  refine lv_aload_n hx hb dL_law_245 rfl (lv_at hl 4 rfl) ?_
  have hPc := pp_r hP
  have hDc := pd_r hD
  have hFc := wfree hDc hS hA
  refine va_calli (va_runV (As := []) (rest := []) ⟨hx, hb, hml, hown, ht⟩ (c_X5_thrown l D cI cZ cS cJ H.size M (u240.1) (u240.2.1) (u240.2.2.1) (u240.2.2.2.1) (u240.2.2.2.2.1) (u240.2.2.2.2.2.1) (u240.2.2.2.2.2.2.1) (u240.2.2.2.2.2.2.2.1) (u240.2.2.2.2.2.2.2.2.1) (u240.2.2.2.2.2.2.2.2.2.1) (u240.2.2.2.2.2.2.2.2.2.2.1) (u240.2.2.2.2.2.2.2.2.2.2.2.1) (u240.2.2.2.2.2.2.2.2.2.2.2.2.1) (u240.2.2.2.2.2.2.2.2.2.2.2.2.2.1) (u240.2.2.2.2.2.2.2.2.2.2.2.2.2.2.1) (u240.2.2.2.2.2.2.2.2.2.2.2.2.2.2.2.1) (u240.2.2.2.2.2.2.2.2.2.2.2.2.2.2.2.2) ) (xwV 0 ht kw3_136 kw3_133 kw1_11 kw3_134 kw3_135 rfl rfl (by decide +kernel) ⟨Nat.le_of_ble_eq_true rfl, Nat.le_of_ble_eq_true rfl⟩) ⟨PB.blind, va_recv hK hPc (ci := 5) (q0 := 0) rfl rfl, fun U hU hW => PB.mk hU hW hPc hK hDc⟩ rfl rfl hl.1 rfl (lv_room (Nat.le_of_ble_eq_true rfl)) dL_law_246 ⟨by first | exact hkc | (show kc + _ ≤ 601024; omega), by first | exact hnc | (show nc + _ ≤ 7293000; omega)⟩) hS (fun q _ h => hFc q h) hFc (fun r246 u246 t246 H1 locs ht1 hvm w246 hB hz1 hk1 hS => ?_)
  try dsimp only at w246 hB
  rw [ht1] at hB
  have hP := pr_r hP hD hk1 hB
  generalize H1 = H at hP hS ⊢
  have hP : va_P D vwCl ((cW cI cS G SA sf paw now ptsw rfw rgw (nI RLw.length) pkw psw ptw Lw p1w p2w p3w (nI rowsw.length) opw (nI Fw) (nI Gnw) (cB Cw) offw leftw wrw rcw thw Zw ++ [(o, .inl (cJ, 1, .inr (.inl f9)))]) ++ (mWu cI cZ M u240)) H := hP
  have hD : va_D A ((cW cI cS G SA sf paw now ptsw rfw rgw (nI RLw.length) pkw psw ptw Lw p1w p2w p3w (nI rowsw.length) opw (nI Fw) (nI Gnw) (cB Cw) offw leftw wrw rcw thw Zw ++ [(o, .inl (cJ, 1, .inr (.inl f9)))]) ++ (mWu cI cZ M u240)) := hD
  have hfin := fin_mut (N := N) (u := (pa, no, pts, rf, rg, RL, pk, ps, pt, L9, p1, p2, p3, op, off, left, wr, rc, th, Z, mm, rows, F, Gn, C)) (u' := (paw, now, ptsw, rfw, rgw, RLw, pkw, psw, ptw, Lw, p1w, p2w, p3w, opw, offw, leftw, wrw, rcw, thw, Zw, mmw, rowsw, Fw, Gnw, Cw)) (σ := (off, left, wr, rc, stZ Z, mm, op, rows, F, Gn, C)) (T := (if left = 0 ∨ ¬ hs (stZ Z (homeF mm rows F (xs (i + 1)))) (xs (i + 1)) = true then th else th - 1)) (X := remF off left wr rc (stZ Z) mm op rows F Gn C (xs (i + 1))) (f' := f9) (fo := fo) rfl hci hthv (fun k r σ9 hX9 => have h9 := rem_AI hAX _ hX9; ⟨AI.mono h9.1, h9.2.1, fun q => th_step2 (h9.2.2 q) hthv⟩) w228 w240
  refine lv_iload hx hb dL_law_249 (lv_at hl 1 rfl) ?_
  refine lv_icmp_eq (tgt := 256) hx hb dL_law_251 (by decide) (fun c251 => ?_) (fun c251 => ?_)
  · refine lv_iload hx hb dL_law_256 (lv_at hl 1 rfl) ?_
    refine lv_if_ne (tgt := 273) hx hb dL_law_258 (by decide) (fun c258 => ?_) (fun c258 => ?_)
    · refine lv_goto (tgt := 1225) hx hb dL_law_273 (by decide) ?_
      exact K (paw, now, ptsw, rfw, rgw, RLw, pkw, psw, ptw, Lw, p1w, p2w, p3w, opw, offw, leftw, wrw, rcw, thw, Zw, mmw, rowsw, Fw, Gnw, Cw) u240 f9 _ _ ls ⟨by exact hP, by exact hD, hS, hfin.2.2.1, hfin.2.2.2.1, hfin.2.2.2.2.1, hfin.2.2.2.2.2⟩ (lv_sub hl [2, 3, 4, 5, 6] rfl)
    · refine lv_aload_n hx hb dL_law_261 rfl (lv_at hl 3 rfl) ?_
      refine lv_iconst (v := 0) hx hb dL_law_262 (by decide) ?_
      refine ya_lald hx hb hK hP 35 3 rfl rfl 0 rfl (by decide) (by decide) dL_law_263 ?_
      refine lv_iload hx hb dL_law_264 (lv_at hl 0 rfl) ?_
      refine lv_i2l (v := (r240 : Int32).toInt64) hx hb dL_law_266 rfl ?_
      refine W.lcmp hx hb dL_law_267 ?_
      refine lv_if_eq (tgt := 273) hx hb dL_law_268 (by decide) (fun c268 => ?_) (fun c268 => ?_)
      · refine lv_goto (tgt := 1225) hx hb dL_law_273 (by decide) ?_
        exact K (paw, now, ptsw, rfw, rgw, RLw, pkw, psw, ptw, Lw, p1w, p2w, p3w, opw, offw, leftw, wrw, rcw, thw, Zw, mmw, rowsw, Fw, Gnw, Cw) u240 f9 _ _ ls ⟨by exact hP, by exact hD, hS, hfin.2.2.1, hfin.2.2.2.1, hfin.2.2.2.2.1, hfin.2.2.2.2.2⟩ (lv_sub hl [2, 3, 4, 5, 6] rfl)
      · exact absurd (lgc (hfin.2.1 c258)) c268
  · exact absurd (w246.trans hfin.1) c251

set_option maxHeartbeats 4000000 in
set_option maxRecDepth 100000 in
theorem law_get {p : Program} {l : Launch} {e : Env} {s : State} {m : MethodId} {below : List Frame} {meth : Method} {c : Code} {b L : Nat} {xs : Nat → Int32} {D : va_G} {cI cZ cS cJ : ClassId} {G SA M : Nat → Nat} {sf : Nat → Option Nat} {o : Nat} {A : Nat → Prop} (hl0 : l.stackTraces = false) (C9 : LA p s m c b L xs D cI cZ cS cJ SA sf A) {N kc nc i : Nat} {u : CT} {v : MT} {fo : Nat → Int64} {H : Heap} {locs : List Loc} {ls : Array Slot} {Q : State → Prop} (hI : LSt s D cI cZ cS cJ G SA sf M o A N u v fo H locs) (hN : N ≤ 511) (hi : i + 2 < L) (hkc : kc + 80 ≤ 601024) (hnc : nc + 8400 ≤ 7293000) (hl : lv_has ls 8 [(4, .int (nI i)), (3, .ref o), (2, .ref (M 0)), (1, .ref (G 0)), (0, .ref b)]) (K : ∀ (u1 : CT) (v1 : MT) (f1 : Nat → Int64) (H1 : Heap) (locs1 : List Loc) (ls1 : Array Slot), LSt s D cI cZ cS cJ G SA sf M o A (N + 1) u1 v1 f1 H1 locs1 → lv_has ls1 8 [(4, .int (nI i)), (3, .ref o), (2, .ref (M 0)), (1, .ref (G 0)), (0, .ref b)] → W p l e room_1 s m #[Value.ref b] below meth c H1 locs1 (kc + 80) (nc + 8400) Q (F0 m 1225 ls1 [])) : W p l e room_1 s m #[Value.ref b] below meth c H locs kc nc Q (F0 m 276 ls []) := by
  obtain ⟨hx, hb, hml, hown, ht, hX, hbl, hK, hTX, hNC, hsf, hLb, hAe⟩ := id C9
  have hA : ∀ q : Nat, s.heap.size ≤ q → A q := fun q h => by rw [hAe]; exact h
  have hbA : ¬ A b := by rw [hAe]; exact Nat.not_le.mpr hbl
  obtain ⟨hP, hD, hS, hrep, hciu, hai, hthu⟩ := hI
  obtain ⟨pa, no, pts, rf, rg, RL, pk, ps, pt, L9, p1, p2, p3, op, off, left, wr, rc, th, Z, mm, rows, F, Gn, C⟩ := u
  obtain ⟨mc0, moff, mleft, mwr, mrc, mem, oth, ks, vs, sx, mpl, mps, mpk, msr, mtg, mfl, mxs⟩ := v
  obtain ⟨e1, e2, e3, e4, e5, hRS, hmem, hRP⟩ : moff = off ∧ mleft = left ∧ mwr = wr ∧ mrc = rc ∧ mpl = op ∧ RS (stZ Z) ks vs sx ∧ (∀ n, n < 8 → mem n = nI (mm n)) ∧ RP rows F Gn C mps mpk msr mtg mfl mxs := hrep
  have e1 := e1.symm
  subst e1
  have e2 := e2.symm
  subst e2
  have e3 := e3.symm
  subst e3
  have e4 := e4.symm
  subst e4
  have e5 := e5.symm
  subst e5
  have hci : CI mm RL pts rf rg rows L9 p1 p2 p3 F Gn Z := hciu
  have hAX : AX N off (stZ Z) mm op rows F Gn C := hai
  obtain ⟨ho1, hp01, hSL, hM9, ⟨⟨hsr9, hp89, hrl9, hFl9, hGF9⟩, hCF9, hpl09, hrow9⟩, hLOC9, hAGR9, hth9⟩ := id hAX
  have hthv : th = nI (thF (stZ Z) (homeF mm rows F)) := hthu
  have hplr : op = 1 ∨ (op = 0 ∧ rows = []) := hp01.elim (fun q => Or.inr ⟨q, hpl09 q⟩) Or.inl
  have hlen9 : ∀ n, n < 8 → ((stZ Z) n).length < 999 := fun n hn => Nat.lt_of_le_of_lt (hSL n hn).2 (by omega)
  have hlen9k : ∀ n, n < 8 → ((stZ Z) n).length < 1000 := fun n hn => Nat.lt_trans (hlen9 n hn) (by decide)
  have hss9 : ∀ n, n < 8 → Srt ((stZ Z) n) := fun n hn => (hSL n hn).1
  have hpl9 : op = 0 → rows = [] ∧ F = 0 ∧ Gn = 0 ∧ C = false := fun q => by subst q; exact hAX.emp
  have hv9 : op = 0 → OW (stZ Z) (ownK mm) := fun q => by subst q; exact hAX.ow
  have h2569 : op = 0 → ∀ mo, (plUp (stZ Z) (ownK mo) 8).length ≤ 256 := fun q => by subst q; exact hAX.h256
  have hP : va_P D vwCl ((cW cI cS G SA sf pa no pts rf rg (nI RL.length) pk ps pt L9 p1 p2 p3 (nI rows.length) op (nI F) (nI Gn) (cB C) off left wr rc th Z ++ [(o, .inl (cJ, 1, .inr (.inl fo)))]) ++ (mW cI cZ M mc0 off left wr rc mem oth ks vs sx op mps mpk msr mtg mfl mxs)) H := hP
  have hD : va_D A ((cW cI cS G SA sf pa no pts rf rg (nI RL.length) pk ps pt L9 p1 p2 p3 (nI rows.length) op (nI F) (nI Gn) (cB C) off left wr rc th Z ++ [(o, .inl (cJ, 1, .inr (.inl fo)))]) ++ (mW cI cZ M mc0 off left wr rc mem oth ks vs sx op mps mpk msr mtg mfl mxs)) := hD
  refine lv_aload_n hx hb dL_law_276 rfl (lv_at hl 3 rfl) ?_
  refine lv_aload_n hx hb dL_law_277 rfl (lv_at hl 4 rfl) ?_
  refine lv_iload hx hb dL_law_278 (lv_at hl 0 rfl) ?_
  refine lv_iconst (v := 1) hx hb dL_law_280 (by decide) ?_
  refine lv_iadd hx hb dL_law_281 ?_
  refine ya_sld hx hb hX hbl hbA hS (i + 1) (by rw [show (1 : Int32) = nI 1 from rfl, nI_add]) (by omega) (by omega) dL_law_282 ?_
  refine lv_aload_n hx hb dL_law_283 rfl (lv_at hl 1 rfl) ?_
  have hPc := pp_l hP
  have hDc := pd_l hD
  have hFc := wfree hDc hS hA
  refine vx_calli (vx_runSX (As := [.ref (G 0), .int (xs (i + 1)), .ref o]) (rest := []) ⟨hx, hb, hml, hown, ht⟩ (c_L_get l hl0 D cI cZ cS cJ H.size G SA sf hsf pa no pts rf rg RL pk ps pt L9 p1 p2 p3 op off left wr rc th Z mm rows F Gn C hci o fo (xs (i + 1))) (xwSW 3 ht kw2_98 kw2_96 kw1_0 kw2_97 rfl rfl (by decide +kernel) ⟨Nat.le_of_ble_eq_true rfl, Nat.le_of_ble_eq_true rfl⟩) ⟨PZ.blind, fun U hU hW => PZ.mk hU hW hPc hK hDc hS hFc hTX hNC⟩ rfl rfl hl.1 rfl (lv_room (Nat.le_of_ble_eq_true rfl)) dL_law_284 ⟨hkc, hnc⟩) hS (fun q _ h => hFc q h) hFc (fun q _ h => hFc q h) (fun E ce q9 u9 t9 H1 locs ht1 hvm hpx _ _ _ _ _ _ _ => hpx.elim) (fun kx284 u284 t284 H1 locs ht1 hvm w284 hB hz1 hk1 hS => ?_)
  try dsimp only at w284 hB
  obtain ⟨hP1, hD1⟩ := hB
  rw [ht1] at hP1
  obtain ⟨hP, hD⟩ := pj_l hP hD hk1 hFc hP1 hD1
  generalize H1 = H at hP hS ⊢
  have hP : va_P D vwCl ((cW cI cS G SA sf pa no pts rf rg (nI RL.length) pk ps pt L9 p1 p2 p3 (nI rows.length) op (nI F) (nI Gn) (cB C) off left wr rc th Z ++ [(o, .inl (cJ, 1, .inr (.inl u284)))]) ++ (mW cI cZ M mc0 off left wr rc mem oth ks vs sx op mps mpk msr mtg mfl mxs)) H := hP
  have hD : va_D A ((cW cI cS G SA sf pa no pts rf rg (nI RL.length) pk ps pt L9 p1 p2 p3 (nI rows.length) op (nI F) (nI Gn) (cB C) off left wr rc th Z ++ [(o, .inl (cJ, 1, .inr (.inl u284)))]) ++ (mW cI cZ M mc0 off left wr rc mem oth ks vs sx op mps mpk msr mtg mfl mxs)) := hD
  refine lv_istore (lv' := [(5, .int kx284), (4, .int (nI i)), (3, .ref o), (2, .ref (M 0)), (1, .ref (G 0)), (0, .ref b)]) hx hb dL_law_287 hl (by decide) rfl (fun ls hl => ?_)
  refine lv_aload_n hx hb dL_law_289 rfl (lv_at hl 3 rfl) ?_
  refine lv_aload_n hx hb dL_law_290 rfl (lv_at hl 5 rfl) ?_
  refine lv_iload hx hb dL_law_291 (lv_at hl 1 rfl) ?_
  refine lv_iconst (v := 1) hx hb dL_law_293 (by decide) ?_
  refine lv_iadd hx hb dL_law_294 ?_
  refine ya_sld hx hb hX hbl hbA hS (i + 1) (by rw [show (1 : Int32) = nI 1 from rfl, nI_add]) (by omega) (by omega) dL_law_295 ?_
  have hPc := pp_r hP
  have hDc := pd_r hD
  have hFc := wfree hDc hS hA
  refine va_calli (va_runV (As := [.int (xs (i + 1))]) (rest := []) ⟨hx, hb, hml, hown, ht⟩ (c_X5_get l D cI cZ cS cJ H.size M mc0 off left wr rc mem oth ks vs sx op mps mpk msr mtg mfl mxs (stZ Z) hRS mm hmem hM9 rows F Gn C hRP hsr9 hplr hp89 ho1 (xs (i + 1))) (xwV 1 ht kw3_204 kw3_201 kw1_11 kw3_202 kw3_203 rfl rfl (by decide +kernel) ⟨Nat.le_of_ble_eq_true rfl, Nat.le_of_ble_eq_true rfl⟩) ⟨PB.blind, va_recv hK hPc (ci := 5) (q0 := 0) rfl rfl, fun U hU hW => PB.mk hU hW hPc hK hDc⟩ rfl rfl hl.1 rfl (lv_room (Nat.le_of_ble_eq_true rfl)) dL_law_296 ⟨by first | exact hkc | (show kc + _ ≤ 601024; omega), by first | exact hnc | (show nc + _ ≤ 7293000; omega)⟩) hS (fun q _ h => hFc q h) hFc (fun r296 u296 t296 H1 locs ht1 hvm w296 hB hz1 hk1 hS => ?_)
  try dsimp only at w296 hB
  obtain ⟨hP1, hD1⟩ := hB
  rw [ht1] at hP1
  obtain ⟨hP, hD⟩ := pj_r hP hD hk1 hFc hP1 hD1
  generalize H1 = H at hP hS ⊢
  have hP : va_P D vwCl ((cW cI cS G SA sf pa no pts rf rg (nI RL.length) pk ps pt L9 p1 p2 p3 (nI rows.length) op (nI F) (nI Gn) (cB C) off left wr rc th Z ++ [(o, .inl (cJ, 1, .inr (.inl u284)))]) ++ (mW cI cZ M ((getF off (stZ Z) mm rows F (xs (i + 1))).1) off left wr rc mem oth ks vs sx op mps mpk msr mtg mfl mxs)) H := hP
  have hD : va_D A ((cW cI cS G SA sf pa no pts rf rg (nI RL.length) pk ps pt L9 p1 p2 p3 (nI rows.length) op (nI F) (nI Gn) (cB C) off left wr rc th Z ++ [(o, .inl (cJ, 1, .inr (.inl u284)))]) ++ (mW cI cZ M ((getF off (stZ Z) mm rows F (xs (i + 1))).1) off left wr rc mem oth ks vs sx op mps mpk msr mtg mfl mxs)) := hD
  refine lv_istore (lv' := [(6, .int r296), (5, .int kx284), (4, .int (nI i)), (3, .ref o), (2, .ref (M 0)), (1, .ref (G 0)), (0, .ref b)]) hx hb dL_law_299 hl (by decide) rfl (fun ls hl => ?_)
  refine lv_aload_n hx hb dL_law_301 rfl (lv_at hl 4 rfl) ?_
  have hPc := pp_r hP
  have hDc := pd_r hD
  have hFc := wfree hDc hS hA
  refine va_calli (va_runV (As := []) (rest := []) ⟨hx, hb, hml, hown, ht⟩ (c_X5_thrown l D cI cZ cS cJ H.size M ((getF off (stZ Z) mm rows F (xs (i + 1))).1) off left wr rc mem oth ks vs sx op mps mpk msr mtg mfl mxs ) (xwV 0 ht kw3_136 kw3_133 kw1_11 kw3_134 kw3_135 rfl rfl (by decide +kernel) ⟨Nat.le_of_ble_eq_true rfl, Nat.le_of_ble_eq_true rfl⟩) ⟨PB.blind, va_recv hK hPc (ci := 5) (q0 := 0) rfl rfl, fun U hU hW => PB.mk hU hW hPc hK hDc⟩ rfl rfl hl.1 rfl (lv_room (Nat.le_of_ble_eq_true rfl)) dL_law_302 ⟨by first | exact hkc | (show kc + _ ≤ 601024; omega), by first | exact hnc | (show nc + _ ≤ 7293000; omega)⟩) hS (fun q _ h => hFc q h) hFc (fun r302 u302 t302 H1 locs ht1 hvm w302 hB hz1 hk1 hS => ?_)
  try dsimp only at w302 hB
  rw [ht1] at hB
  have hP := pr_r hP hD hk1 hB
  generalize H1 = H at hP hS ⊢
  have hP : va_P D vwCl ((cW cI cS G SA sf pa no pts rf rg (nI RL.length) pk ps pt L9 p1 p2 p3 (nI rows.length) op (nI F) (nI Gn) (cB C) off left wr rc th Z ++ [(o, .inl (cJ, 1, .inr (.inl u284)))]) ++ (mW cI cZ M ((getF off (stZ Z) mm rows F (xs (i + 1))).1) off left wr rc mem oth ks vs sx op mps mpk msr mtg mfl mxs)) H := hP
  have hD : va_D A ((cW cI cS G SA sf pa no pts rf rg (nI RL.length) pk ps pt L9 p1 p2 p3 (nI rows.length) op (nI F) (nI Gn) (cB C) off left wr rc th Z ++ [(o, .inl (cJ, 1, .inr (.inl u284)))]) ++ (mW cI cZ M ((getF off (stZ Z) mm rows F (xs (i + 1))).1) off left wr rc mem oth ks vs sx op mps mpk msr mtg mfl mxs)) := hD
  have hfin := fin_rd (X := getF off (stZ Z) mm rows F (xs (i + 1))) w284
  refine lv_iload hx hb dL_law_305 (lv_at hl 1 rfl) ?_
  refine lv_icmp_eq (tgt := 312) hx hb dL_law_307 (by decide) (fun c307 => ?_) (fun c307 => ?_)
  · refine lv_iload hx hb dL_law_312 (lv_at hl 1 rfl) ?_
    refine lv_if_ne (tgt := 329) hx hb dL_law_314 (by decide) (fun c314 => ?_) (fun c314 => ?_)
    · refine lv_goto (tgt := 1225) hx hb dL_law_329 (by decide) ?_
      exact K (pa, no, pts, rf, rg, RL, pk, ps, pt, L9, p1, p2, p3, op, off, left, wr, rc, th, Z, mm, rows, F, Gn, C) ((getF off (stZ Z) mm rows F (xs (i + 1))).1, off, left, wr, rc, mem, oth, ks, vs, sx, op, mps, mpk, msr, mtg, mfl, mxs) u284 _ _ ls ⟨by exact hP, by exact hD, hS, ⟨rfl, rfl, rfl, rfl, rfl, hRS, hmem, hRP⟩, hci, AX.mono (N := N) hAX (Nat.le_succ N), hthv⟩ (lv_sub hl [2, 3, 4, 5, 6] rfl)
    · refine lv_aload_n hx hb dL_law_317 rfl (lv_at hl 3 rfl) ?_
      refine lv_iconst (v := 0) hx hb dL_law_318 (by decide) ?_
      refine ya_lald hx hb hK hP 35 3 rfl rfl 0 rfl (by decide) (by decide) dL_law_319 ?_
      refine lv_iload hx hb dL_law_320 (lv_at hl 0 rfl) ?_
      refine lv_i2l (v := (r296 : Int32).toInt64) hx hb dL_law_322 rfl ?_
      refine W.lcmp hx hb dL_law_323 ?_
      refine lv_if_eq (tgt := 329) hx hb dL_law_324 (by decide) (fun c324 => ?_) (fun c324 => ?_)
      · refine lv_goto (tgt := 1225) hx hb dL_law_329 (by decide) ?_
        exact K (pa, no, pts, rf, rg, RL, pk, ps, pt, L9, p1, p2, p3, op, off, left, wr, rc, th, Z, mm, rows, F, Gn, C) ((getF off (stZ Z) mm rows F (xs (i + 1))).1, off, left, wr, rc, mem, oth, ks, vs, sx, op, mps, mpk, msr, mtg, mfl, mxs) u284 _ _ ls ⟨by exact hP, by exact hD, hS, ⟨rfl, rfl, rfl, rfl, rfl, hRS, hmem, hRP⟩, hci, AX.mono (N := N) hAX (Nat.le_succ N), hthv⟩ (lv_sub hl [2, 3, 4, 5, 6] rfl)
      · exact absurd (lgc ((hfin.2 c314).trans (by rw [w296]))) c324
  · exact absurd (w302.trans hfin.1) c307

set_option maxHeartbeats 4000000 in
set_option maxRecDepth 100000 in
theorem law_join {p : Program} {l : Launch} {e : Env} {s : State} {m : MethodId} {below : List Frame} {meth : Method} {c : Code} {b L : Nat} {xs : Nat → Int32} {D : va_G} {cI cZ cS cJ : ClassId} {G SA M : Nat → Nat} {sf : Nat → Option Nat} {o : Nat} {A : Nat → Prop} (hl0 : l.stackTraces = false) (C9 : LA p s m c b L xs D cI cZ cS cJ SA sf A) {N kc nc i : Nat} {u : CT} {v : MT} {fo : Nat → Int64} {H : Heap} {locs : List Loc} {ls : Array Slot} {Q : State → Prop} (hI : LSt s D cI cZ cS cJ G SA sf M o A N u v fo H locs) (hN : N ≤ 511) (hi : i + 2 < L) (hkc : kc + 80 ≤ 601024) (hnc : nc + 8400 ≤ 7293000) (hl : lv_has ls 8 [(4, .int (nI i)), (3, .ref o), (2, .ref (M 0)), (1, .ref (G 0)), (0, .ref b)]) (K : ∀ (u1 : CT) (v1 : MT) (f1 : Nat → Int64) (H1 : Heap) (locs1 : List Loc) (ls1 : Array Slot), LSt s D cI cZ cS cJ G SA sf M o A (N + 1) u1 v1 f1 H1 locs1 → lv_has ls1 8 [(4, .int (nI i)), (3, .ref o), (2, .ref (M 0)), (1, .ref (G 0)), (0, .ref b)] → W p l e room_1 s m #[Value.ref b] below meth c H1 locs1 (kc + 80) (nc + 8400) Q (F0 m 1225 ls1 [])) : W p l e room_1 s m #[Value.ref b] below meth c H locs kc nc Q (F0 m 332 ls []) := by
  obtain ⟨hx, hb, hml, hown, ht, hX, hbl, hK, hTX, hNC, hsf, hLb, hAe⟩ := id C9
  have hA : ∀ q : Nat, s.heap.size ≤ q → A q := fun q h => by rw [hAe]; exact h
  have hbA : ¬ A b := by rw [hAe]; exact Nat.not_le.mpr hbl
  obtain ⟨hP, hD, hS, hrep, hciu, hai, hthu⟩ := hI
  obtain ⟨pa, no, pts, rf, rg, RL, pk, ps, pt, L9, p1, p2, p3, op, off, left, wr, rc, th, Z, mm, rows, F, Gn, C⟩ := u
  obtain ⟨mc0, moff, mleft, mwr, mrc, mem, oth, ks, vs, sx, mpl, mps, mpk, msr, mtg, mfl, mxs⟩ := v
  obtain ⟨e1, e2, e3, e4, e5, hRS, hmem, hRP⟩ : moff = off ∧ mleft = left ∧ mwr = wr ∧ mrc = rc ∧ mpl = op ∧ RS (stZ Z) ks vs sx ∧ (∀ n, n < 8 → mem n = nI (mm n)) ∧ RP rows F Gn C mps mpk msr mtg mfl mxs := hrep
  have e1 := e1.symm
  subst e1
  have e2 := e2.symm
  subst e2
  have e3 := e3.symm
  subst e3
  have e4 := e4.symm
  subst e4
  have e5 := e5.symm
  subst e5
  have hci : CI mm RL pts rf rg rows L9 p1 p2 p3 F Gn Z := hciu
  have hAX : AX N off (stZ Z) mm op rows F Gn C := hai
  obtain ⟨ho1, hp01, hSL, hM9, ⟨⟨hsr9, hp89, hrl9, hFl9, hGF9⟩, hCF9, hpl09, hrow9⟩, hLOC9, hAGR9, hth9⟩ := id hAX
  have hthv : th = nI (thF (stZ Z) (homeF mm rows F)) := hthu
  have hplr : op = 1 ∨ (op = 0 ∧ rows = []) := hp01.elim (fun q => Or.inr ⟨q, hpl09 q⟩) Or.inl
  have hlen9 : ∀ n, n < 8 → ((stZ Z) n).length < 999 := fun n hn => Nat.lt_of_le_of_lt (hSL n hn).2 (by omega)
  have hlen9k : ∀ n, n < 8 → ((stZ Z) n).length < 1000 := fun n hn => Nat.lt_trans (hlen9 n hn) (by decide)
  have hss9 : ∀ n, n < 8 → Srt ((stZ Z) n) := fun n hn => (hSL n hn).1
  have hpl9 : op = 0 → rows = [] ∧ F = 0 ∧ Gn = 0 ∧ C = false := fun q => by subst q; exact hAX.emp
  have hv9 : op = 0 → OW (stZ Z) (ownK mm) := fun q => by subst q; exact hAX.ow
  have h2569 : op = 0 → ∀ mo, (plUp (stZ Z) (ownK mo) 8).length ≤ 256 := fun q => by subst q; exact hAX.h256
  have hP : va_P D vwCl ((cW cI cS G SA sf pa no pts rf rg (nI RL.length) pk ps pt L9 p1 p2 p3 (nI rows.length) op (nI F) (nI Gn) (cB C) off left wr rc th Z ++ [(o, .inl (cJ, 1, .inr (.inl fo)))]) ++ (mW cI cZ M mc0 off left wr rc mem oth ks vs sx op mps mpk msr mtg mfl mxs)) H := hP
  have hD : va_D A ((cW cI cS G SA sf pa no pts rf rg (nI RL.length) pk ps pt L9 p1 p2 p3 (nI rows.length) op (nI F) (nI Gn) (cB C) off left wr rc th Z ++ [(o, .inl (cJ, 1, .inr (.inl fo)))]) ++ (mW cI cZ M mc0 off left wr rc mem oth ks vs sx op mps mpk msr mtg mfl mxs)) := hD
  refine lv_aload_n hx hb dL_law_332 rfl (lv_at hl 3 rfl) ?_
  refine lv_aload_n hx hb dL_law_333 rfl (lv_at hl 4 rfl) ?_
  refine lv_iload hx hb dL_law_334 (lv_at hl 0 rfl) ?_
  refine lv_iconst (v := 1) hx hb dL_law_336 (by decide) ?_
  refine lv_iadd hx hb dL_law_337 ?_
  refine ya_sld hx hb hX hbl hbA hS (i + 1) (by rw [show (1 : Int32) = nI 1 from rfl, nI_add]) (by omega) (by omega) dL_law_338 ?_
  refine lv_aload_n hx hb dL_law_339 rfl (lv_at hl 4 rfl) ?_
  refine lv_iload hx hb dL_law_340 (lv_at hl 0 rfl) ?_
  refine lv_iconst (v := 2) hx hb dL_law_342 (by decide) ?_
  refine lv_iadd hx hb dL_law_343 ?_
  refine ya_sld hx hb hX hbl hbA hS (i + 2) (by rw [show (2 : Int32) = nI 2 from rfl, nI_add]) (by omega) (by omega) dL_law_344 ?_
  refine lv_aload_n hx hb dL_law_345 rfl (lv_at hl 1 rfl) ?_
  have hPc := pp_l hP
  have hDc := pd_l hD
  have hFc := wfree hDc hS hA
  refine vx_calli (vx_runSX (As := [.ref (G 0), .int (xs (i + 1)), .int (xs (i + 2)), .ref o]) (rest := []) ⟨hx, hb, hml, hown, ht⟩ (c_L_join l hl0 D cI cZ cS cJ H.size G SA sf hsf pa no pts rf rg RL pk ps pt L9 p1 p2 p3 op off left wr rc th Z mm rows F Gn C hci o fo hpl9 hv9 h2569 (xs (i + 1)) (xs (i + 2))) (xwSW 4 ht kw2_126 kw2_124 kw1_0 kw2_125 rfl rfl (by decide +kernel) ⟨Nat.le_of_ble_eq_true rfl, Nat.le_of_ble_eq_true rfl⟩) ⟨PZ.blind, fun U hU hW => PZ.mk hU hW hPc hK hDc hS hFc hTX hNC⟩ rfl rfl hl.1 rfl (lv_room (Nat.le_of_ble_eq_true rfl)) dL_law_346 ⟨hkc, hnc⟩) hS (fun q _ h => hFc q h) hFc (fun q _ h => hFc q h) (fun E ce q9 u9 t9 H1 locs ht1 hvm hpx _ _ _ _ _ _ _ => hpx.elim) (fun kx346 u346 t346 H1 locs ht1 hvm w346 hB hz1 hk1 hS => ?_)
  try dsimp only at w346 hB
  obtain ⟨hP1, hD1⟩ := hB
  rw [ht1] at hP1
  obtain ⟨hP, hD⟩ := pj_l hP hD hk1 hFc hP1 hD1
  obtain ⟨⟨paw, now, ptsw, rfw, rgw, RLw, pkw, psw, ptw, Lw, p1w, p2w, p3w, opw, offw, leftw, wrw, rcw, thw, Zw, mmw, rowsw, Fw, Gnw, Cw⟩, f9⟩ := u346
  generalize H1 = H at hP hS ⊢
  have hP : va_P D vwCl ((cW cI cS G SA sf paw now ptsw rfw rgw (nI RLw.length) pkw psw ptw Lw p1w p2w p3w (nI rowsw.length) opw (nI Fw) (nI Gnw) (cB Cw) offw leftw wrw rcw thw Zw ++ [(o, .inl (cJ, 1, .inr (.inl f9)))]) ++ (mW cI cZ M mc0 off left wr rc mem oth ks vs sx op mps mpk msr mtg mfl mxs)) H := hP
  have hD : va_D A ((cW cI cS G SA sf paw now ptsw rfw rgw (nI RLw.length) pkw psw ptw Lw p1w p2w p3w (nI rowsw.length) opw (nI Fw) (nI Gnw) (cB Cw) offw leftw wrw rcw thw Zw ++ [(o, .inl (cJ, 1, .inr (.inl f9)))]) ++ (mW cI cZ M mc0 off left wr rc mem oth ks vs sx op mps mpk msr mtg mfl mxs)) := hD
  refine lv_istore (lv' := [(5, .int kx346), (4, .int (nI i)), (3, .ref o), (2, .ref (M 0)), (1, .ref (G 0)), (0, .ref b)]) hx hb dL_law_349 hl (by decide) rfl (fun ls hl => ?_)
  refine lv_aload_n hx hb dL_law_351 rfl (lv_at hl 3 rfl) ?_
  refine lv_aload_n hx hb dL_law_352 rfl (lv_at hl 5 rfl) ?_
  refine lv_iload hx hb dL_law_353 (lv_at hl 1 rfl) ?_
  refine lv_iconst (v := 1) hx hb dL_law_355 (by decide) ?_
  refine lv_iadd hx hb dL_law_356 ?_
  refine ya_sld hx hb hX hbl hbA hS (i + 1) (by rw [show (1 : Int32) = nI 1 from rfl, nI_add]) (by omega) (by omega) dL_law_357 ?_
  refine lv_aload_n hx hb dL_law_358 rfl (lv_at hl 5 rfl) ?_
  refine lv_iload hx hb dL_law_359 (lv_at hl 1 rfl) ?_
  refine lv_iconst (v := 2) hx hb dL_law_361 (by decide) ?_
  refine lv_iadd hx hb dL_law_362 ?_
  refine ya_sld hx hb hX hbl hbA hS (i + 2) (by rw [show (2 : Int32) = nI 2 from rfl, nI_add]) (by omega) (by omega) dL_law_363 ?_
  have hPc := pp_r hP
  have hDc := pd_r hD
  have hFc := wfree hDc hS hA
  refine va_calli (va_runV (As := [.int (xs (i + 1)), .int (xs (i + 2))]) (rest := []) ⟨hx, hb, hml, hown, ht⟩ (c_X5_join l D cI cZ cS cJ H.size M mc0 off left wr rc mem oth ks vs sx op mps mpk msr mtg mfl mxs (stZ Z) hRS mm hmem hM9 rows F Gn C hRP hsr9 hplr hp89 ho1 hss9 hv9 h2569 hp01 (xs (i + 1)) (xs (i + 2))) (xwV 2 ht kw3_212 kw3_209 kw1_11 kw3_210 kw3_211 rfl rfl (by decide +kernel) ⟨Nat.le_of_ble_eq_true rfl, Nat.le_of_ble_eq_true rfl⟩) ⟨PB.blind, va_recv hK hPc (ci := 5) (q0 := 0) rfl rfl, fun U hU hW => PB.mk hU hW hPc hK hDc⟩ rfl rfl hl.1 rfl (lv_room (Nat.le_of_ble_eq_true rfl)) dL_law_364 ⟨by first | exact hkc | (show kc + _ ≤ 601024; omega), by first | exact hnc | (show nc + _ ≤ 7293000; omega)⟩) hS (fun q _ h => hFc q h) hFc (fun r364 u364 t364 H1 locs ht1 hvm w364 hB hz1 hk1 hS => ?_)
  try dsimp only at w364 hB
  obtain ⟨hP1, hD1⟩ := hB
  rw [ht1] at hP1
  obtain ⟨hP, hD⟩ := pj_r hP hD hk1 hFc hP1 hD1
  generalize H1 = H at hP hS ⊢
  have hP : va_P D vwCl ((cW cI cS G SA sf paw now ptsw rfw rgw (nI RLw.length) pkw psw ptw Lw p1w p2w p3w (nI rowsw.length) opw (nI Fw) (nI Gnw) (cB Cw) offw leftw wrw rcw thw Zw ++ [(o, .inl (cJ, 1, .inr (.inl f9)))]) ++ (mWu cI cZ M u364)) H := hP
  have hD : va_D A ((cW cI cS G SA sf paw now ptsw rfw rgw (nI RLw.length) pkw psw ptw Lw p1w p2w p3w (nI rowsw.length) opw (nI Fw) (nI Gnw) (cB Cw) offw leftw wrw rcw thw Zw ++ [(o, .inl (cJ, 1, .inr (.inl f9)))]) ++ (mWu cI cZ M u364)) := hD
  refine lv_istore (lv' := [(6, .int r364), (5, .int kx346), (4, .int (nI i)), (3, .ref o), (2, .ref (M 0)), (1, .ref (G 0)), (0, .ref b)]) hx hb dL_law_367 hl (by decide) rfl (fun ls hl => ?_)
  refine lv_aload_n hx hb dL_law_369 rfl (lv_at hl 4 rfl) ?_
  have hPc := pp_r hP
  have hDc := pd_r hD
  have hFc := wfree hDc hS hA
  refine va_calli (va_runV (As := []) (rest := []) ⟨hx, hb, hml, hown, ht⟩ (c_X5_thrown l D cI cZ cS cJ H.size M (u364.1) (u364.2.1) (u364.2.2.1) (u364.2.2.2.1) (u364.2.2.2.2.1) (u364.2.2.2.2.2.1) (u364.2.2.2.2.2.2.1) (u364.2.2.2.2.2.2.2.1) (u364.2.2.2.2.2.2.2.2.1) (u364.2.2.2.2.2.2.2.2.2.1) (u364.2.2.2.2.2.2.2.2.2.2.1) (u364.2.2.2.2.2.2.2.2.2.2.2.1) (u364.2.2.2.2.2.2.2.2.2.2.2.2.1) (u364.2.2.2.2.2.2.2.2.2.2.2.2.2.1) (u364.2.2.2.2.2.2.2.2.2.2.2.2.2.2.1) (u364.2.2.2.2.2.2.2.2.2.2.2.2.2.2.2.1) (u364.2.2.2.2.2.2.2.2.2.2.2.2.2.2.2.2) ) (xwV 0 ht kw3_136 kw3_133 kw1_11 kw3_134 kw3_135 rfl rfl (by decide +kernel) ⟨Nat.le_of_ble_eq_true rfl, Nat.le_of_ble_eq_true rfl⟩) ⟨PB.blind, va_recv hK hPc (ci := 5) (q0 := 0) rfl rfl, fun U hU hW => PB.mk hU hW hPc hK hDc⟩ rfl rfl hl.1 rfl (lv_room (Nat.le_of_ble_eq_true rfl)) dL_law_370 ⟨by first | exact hkc | (show kc + _ ≤ 601024; omega), by first | exact hnc | (show nc + _ ≤ 7293000; omega)⟩) hS (fun q _ h => hFc q h) hFc (fun r370 u370 t370 H1 locs ht1 hvm w370 hB hz1 hk1 hS => ?_)
  try dsimp only at w370 hB
  rw [ht1] at hB
  have hP := pr_r hP hD hk1 hB
  generalize H1 = H at hP hS ⊢
  have hP : va_P D vwCl ((cW cI cS G SA sf paw now ptsw rfw rgw (nI RLw.length) pkw psw ptw Lw p1w p2w p3w (nI rowsw.length) opw (nI Fw) (nI Gnw) (cB Cw) offw leftw wrw rcw thw Zw ++ [(o, .inl (cJ, 1, .inr (.inl f9)))]) ++ (mWu cI cZ M u364)) H := hP
  have hD : va_D A ((cW cI cS G SA sf paw now ptsw rfw rgw (nI RLw.length) pkw psw ptw Lw p1w p2w p3w (nI rowsw.length) opw (nI Fw) (nI Gnw) (cB Cw) offw leftw wrw rcw thw Zw ++ [(o, .inl (cJ, 1, .inr (.inl f9)))]) ++ (mWu cI cZ M u364)) := hD
  have hfin := fin_mut (N := N) (u := (pa, no, pts, rf, rg, RL, pk, ps, pt, L9, p1, p2, p3, op, off, left, wr, rc, th, Z, mm, rows, F, Gn, C)) (u' := (paw, now, ptsw, rfw, rgw, RLw, pkw, psw, ptw, Lw, p1w, p2w, p3w, opw, offw, leftw, wrw, rcw, thw, Zw, mmw, rowsw, Fw, Gnw, Cw)) (σ := (off, left, wr, rc, stZ Z, mm, op, rows, F, Gn, C)) (T := th) (X := joinF off left wr rc (stZ Z) mm op rows F Gn C (xs (i + 1)) (xs (i + 2))) (f' := f9) (fo := fo) rfl hci hthv (fun k r σ9 hX9 => have h9 := join_AI hAX _ _ hX9; ⟨AI.mono h9.1, h9.2.1, fun _ => by rw [h9.2.2]; exact hthv⟩) w346 w364
  refine lv_iload hx hb dL_law_373 (lv_at hl 1 rfl) ?_
  refine lv_icmp_eq (tgt := 380) hx hb dL_law_375 (by decide) (fun c375 => ?_) (fun c375 => ?_)
  · refine lv_iload hx hb dL_law_380 (lv_at hl 1 rfl) ?_
    refine lv_if_ne (tgt := 397) hx hb dL_law_382 (by decide) (fun c382 => ?_) (fun c382 => ?_)
    · refine lv_goto (tgt := 1225) hx hb dL_law_397 (by decide) ?_
      exact K (paw, now, ptsw, rfw, rgw, RLw, pkw, psw, ptw, Lw, p1w, p2w, p3w, opw, offw, leftw, wrw, rcw, thw, Zw, mmw, rowsw, Fw, Gnw, Cw) u364 f9 _ _ ls ⟨by exact hP, by exact hD, hS, hfin.2.2.1, hfin.2.2.2.1, hfin.2.2.2.2.1, hfin.2.2.2.2.2⟩ (lv_sub hl [2, 3, 4, 5, 6] rfl)
    · refine lv_aload_n hx hb dL_law_385 rfl (lv_at hl 3 rfl) ?_
      refine lv_iconst (v := 0) hx hb dL_law_386 (by decide) ?_
      refine ya_lald hx hb hK hP 35 3 rfl rfl 0 rfl (by decide) (by decide) dL_law_387 ?_
      refine lv_iload hx hb dL_law_388 (lv_at hl 0 rfl) ?_
      refine lv_i2l (v := (r364 : Int32).toInt64) hx hb dL_law_390 rfl ?_
      refine W.lcmp hx hb dL_law_391 ?_
      refine lv_if_eq (tgt := 397) hx hb dL_law_392 (by decide) (fun c392 => ?_) (fun c392 => ?_)
      · refine lv_goto (tgt := 1225) hx hb dL_law_397 (by decide) ?_
        exact K (paw, now, ptsw, rfw, rgw, RLw, pkw, psw, ptw, Lw, p1w, p2w, p3w, opw, offw, leftw, wrw, rcw, thw, Zw, mmw, rowsw, Fw, Gnw, Cw) u364 f9 _ _ ls ⟨by exact hP, by exact hD, hS, hfin.2.2.1, hfin.2.2.2.1, hfin.2.2.2.2.1, hfin.2.2.2.2.2⟩ (lv_sub hl [2, 3, 4, 5, 6] rfl)
      · exact absurd (lgc (hfin.2.1 c382)) c392
  · exact absurd (w370.trans hfin.1) c375

set_option maxHeartbeats 4000000 in
set_option maxRecDepth 100000 in
theorem law_leave {p : Program} {l : Launch} {e : Env} {s : State} {m : MethodId} {below : List Frame} {meth : Method} {c : Code} {b L : Nat} {xs : Nat → Int32} {D : va_G} {cI cZ cS cJ : ClassId} {G SA M : Nat → Nat} {sf : Nat → Option Nat} {o : Nat} {A : Nat → Prop} (hl0 : l.stackTraces = false) (C9 : LA p s m c b L xs D cI cZ cS cJ SA sf A) {N kc nc i : Nat} {u : CT} {v : MT} {fo : Nat → Int64} {H : Heap} {locs : List Loc} {ls : Array Slot} {Q : State → Prop} (hI : LSt s D cI cZ cS cJ G SA sf M o A N u v fo H locs) (hN : N ≤ 511) (hi : i + 2 < L) (hkc : kc + 80 ≤ 601024) (hnc : nc + 8400 ≤ 7293000) (hl : lv_has ls 8 [(4, .int (nI i)), (3, .ref o), (2, .ref (M 0)), (1, .ref (G 0)), (0, .ref b)]) (K : ∀ (u1 : CT) (v1 : MT) (f1 : Nat → Int64) (H1 : Heap) (locs1 : List Loc) (ls1 : Array Slot), LSt s D cI cZ cS cJ G SA sf M o A (N + 1) u1 v1 f1 H1 locs1 → lv_has ls1 8 [(4, .int (nI i)), (3, .ref o), (2, .ref (M 0)), (1, .ref (G 0)), (0, .ref b)] → W p l e room_1 s m #[Value.ref b] below meth c H1 locs1 (kc + 80) (nc + 8400) Q (F0 m 1225 ls1 [])) : W p l e room_1 s m #[Value.ref b] below meth c H locs kc nc Q (F0 m 400 ls []) := by
  obtain ⟨hx, hb, hml, hown, ht, hX, hbl, hK, hTX, hNC, hsf, hLb, hAe⟩ := id C9
  have hA : ∀ q : Nat, s.heap.size ≤ q → A q := fun q h => by rw [hAe]; exact h
  have hbA : ¬ A b := by rw [hAe]; exact Nat.not_le.mpr hbl
  obtain ⟨hP, hD, hS, hrep, hciu, hai, hthu⟩ := hI
  obtain ⟨pa, no, pts, rf, rg, RL, pk, ps, pt, L9, p1, p2, p3, op, off, left, wr, rc, th, Z, mm, rows, F, Gn, C⟩ := u
  obtain ⟨mc0, moff, mleft, mwr, mrc, mem, oth, ks, vs, sx, mpl, mps, mpk, msr, mtg, mfl, mxs⟩ := v
  obtain ⟨e1, e2, e3, e4, e5, hRS, hmem, hRP⟩ : moff = off ∧ mleft = left ∧ mwr = wr ∧ mrc = rc ∧ mpl = op ∧ RS (stZ Z) ks vs sx ∧ (∀ n, n < 8 → mem n = nI (mm n)) ∧ RP rows F Gn C mps mpk msr mtg mfl mxs := hrep
  have e1 := e1.symm
  subst e1
  have e2 := e2.symm
  subst e2
  have e3 := e3.symm
  subst e3
  have e4 := e4.symm
  subst e4
  have e5 := e5.symm
  subst e5
  have hci : CI mm RL pts rf rg rows L9 p1 p2 p3 F Gn Z := hciu
  have hAX : AX N off (stZ Z) mm op rows F Gn C := hai
  obtain ⟨ho1, hp01, hSL, hM9, ⟨⟨hsr9, hp89, hrl9, hFl9, hGF9⟩, hCF9, hpl09, hrow9⟩, hLOC9, hAGR9, hth9⟩ := id hAX
  have hthv : th = nI (thF (stZ Z) (homeF mm rows F)) := hthu
  have hplr : op = 1 ∨ (op = 0 ∧ rows = []) := hp01.elim (fun q => Or.inr ⟨q, hpl09 q⟩) Or.inl
  have hlen9 : ∀ n, n < 8 → ((stZ Z) n).length < 999 := fun n hn => Nat.lt_of_le_of_lt (hSL n hn).2 (by omega)
  have hlen9k : ∀ n, n < 8 → ((stZ Z) n).length < 1000 := fun n hn => Nat.lt_trans (hlen9 n hn) (by decide)
  have hss9 : ∀ n, n < 8 → Srt ((stZ Z) n) := fun n hn => (hSL n hn).1
  have hpl9 : op = 0 → rows = [] ∧ F = 0 ∧ Gn = 0 ∧ C = false := fun q => by subst q; exact hAX.emp
  have hv9 : op = 0 → OW (stZ Z) (ownK mm) := fun q => by subst q; exact hAX.ow
  have h2569 : op = 0 → ∀ mo, (plUp (stZ Z) (ownK mo) 8).length ≤ 256 := fun q => by subst q; exact hAX.h256
  have hP : va_P D vwCl ((cW cI cS G SA sf pa no pts rf rg (nI RL.length) pk ps pt L9 p1 p2 p3 (nI rows.length) op (nI F) (nI Gn) (cB C) off left wr rc th Z ++ [(o, .inl (cJ, 1, .inr (.inl fo)))]) ++ (mW cI cZ M mc0 off left wr rc mem oth ks vs sx op mps mpk msr mtg mfl mxs)) H := hP
  have hD : va_D A ((cW cI cS G SA sf pa no pts rf rg (nI RL.length) pk ps pt L9 p1 p2 p3 (nI rows.length) op (nI F) (nI Gn) (cB C) off left wr rc th Z ++ [(o, .inl (cJ, 1, .inr (.inl fo)))]) ++ (mW cI cZ M mc0 off left wr rc mem oth ks vs sx op mps mpk msr mtg mfl mxs)) := hD
  refine lv_aload_n hx hb dL_law_400 rfl (lv_at hl 3 rfl) ?_
  refine lv_aload_n hx hb dL_law_401 rfl (lv_at hl 4 rfl) ?_
  refine lv_iload hx hb dL_law_402 (lv_at hl 0 rfl) ?_
  refine lv_iconst (v := 1) hx hb dL_law_404 (by decide) ?_
  refine lv_iadd hx hb dL_law_405 ?_
  refine ya_sld hx hb hX hbl hbA hS (i + 1) (by rw [show (1 : Int32) = nI 1 from rfl, nI_add]) (by omega) (by omega) dL_law_406 ?_
  refine lv_aload_n hx hb dL_law_407 rfl (lv_at hl 1 rfl) ?_
  have hPc := pp_l hP
  have hDc := pd_l hD
  have hFc := wfree hDc hS hA
  refine vx_calli (vx_runSX (As := [.ref (G 0), .int (xs (i + 1)), .ref o]) (rest := []) ⟨hx, hb, hml, hown, ht⟩ (c_L_leave l hl0 D cI cZ cS cJ H.size G SA sf hsf pa no pts rf rg RL pk ps pt L9 p1 p2 p3 op off left wr rc th Z mm rows F Gn C hci o fo hpl9 hv9 h2569 (xs (i + 1))) (xwSW 3 ht kw2_185 kw2_183 kw1_0 kw2_184 rfl rfl (by decide +kernel) ⟨Nat.le_of_ble_eq_true rfl, Nat.le_of_ble_eq_true rfl⟩) ⟨PZ.blind, fun U hU hW => PZ.mk hU hW hPc hK hDc hS hFc hTX hNC⟩ rfl rfl hl.1 rfl (lv_room (Nat.le_of_ble_eq_true rfl)) dL_law_408 ⟨hkc, hnc⟩) hS (fun q _ h => hFc q h) hFc (fun q _ h => hFc q h) (fun E ce q9 u9 t9 H1 locs ht1 hvm hpx _ _ _ _ _ _ _ => hpx.elim) (fun kx408 u408 t408 H1 locs ht1 hvm w408 hB hz1 hk1 hS => ?_)
  try dsimp only at w408 hB
  obtain ⟨hP1, hD1⟩ := hB
  rw [ht1] at hP1
  obtain ⟨hP, hD⟩ := pj_l hP hD hk1 hFc hP1 hD1
  obtain ⟨⟨paw, now, ptsw, rfw, rgw, RLw, pkw, psw, ptw, Lw, p1w, p2w, p3w, opw, offw, leftw, wrw, rcw, thw, Zw, mmw, rowsw, Fw, Gnw, Cw⟩, f9⟩ := u408
  generalize H1 = H at hP hS ⊢
  have hP : va_P D vwCl ((cW cI cS G SA sf paw now ptsw rfw rgw (nI RLw.length) pkw psw ptw Lw p1w p2w p3w (nI rowsw.length) opw (nI Fw) (nI Gnw) (cB Cw) offw leftw wrw rcw thw Zw ++ [(o, .inl (cJ, 1, .inr (.inl f9)))]) ++ (mW cI cZ M mc0 off left wr rc mem oth ks vs sx op mps mpk msr mtg mfl mxs)) H := hP
  have hD : va_D A ((cW cI cS G SA sf paw now ptsw rfw rgw (nI RLw.length) pkw psw ptw Lw p1w p2w p3w (nI rowsw.length) opw (nI Fw) (nI Gnw) (cB Cw) offw leftw wrw rcw thw Zw ++ [(o, .inl (cJ, 1, .inr (.inl f9)))]) ++ (mW cI cZ M mc0 off left wr rc mem oth ks vs sx op mps mpk msr mtg mfl mxs)) := hD
  refine lv_istore (lv' := [(5, .int kx408), (4, .int (nI i)), (3, .ref o), (2, .ref (M 0)), (1, .ref (G 0)), (0, .ref b)]) hx hb dL_law_411 hl (by decide) rfl (fun ls hl => ?_)
  refine lv_aload_n hx hb dL_law_413 rfl (lv_at hl 3 rfl) ?_
  refine lv_aload_n hx hb dL_law_414 rfl (lv_at hl 5 rfl) ?_
  refine lv_iload hx hb dL_law_415 (lv_at hl 1 rfl) ?_
  refine lv_iconst (v := 1) hx hb dL_law_417 (by decide) ?_
  refine lv_iadd hx hb dL_law_418 ?_
  refine ya_sld hx hb hX hbl hbA hS (i + 1) (by rw [show (1 : Int32) = nI 1 from rfl, nI_add]) (by omega) (by omega) dL_law_419 ?_
  have hPc := pp_r hP
  have hDc := pd_r hD
  have hFc := wfree hDc hS hA
  refine va_calli (va_runV (As := [.int (xs (i + 1))]) (rest := []) ⟨hx, hb, hml, hown, ht⟩ (c_X5_leave l D cI cZ cS cJ H.size M mc0 off left wr rc mem oth ks vs sx op mps mpk msr mtg mfl mxs (stZ Z) hRS mm hmem hM9 rows F Gn C hRP hsr9 hplr hp89 ho1 hss9 hv9 h2569 hp01 (xs (i + 1))) (xwV 1 ht kw3_236 kw3_233 kw1_11 kw3_234 kw3_235 rfl rfl (by decide +kernel) ⟨Nat.le_of_ble_eq_true rfl, Nat.le_of_ble_eq_true rfl⟩) ⟨PB.blind, va_recv hK hPc (ci := 5) (q0 := 0) rfl rfl, fun U hU hW => PB.mk hU hW hPc hK hDc⟩ rfl rfl hl.1 rfl (lv_room (Nat.le_of_ble_eq_true rfl)) dL_law_420 ⟨by first | exact hkc | (show kc + _ ≤ 601024; omega), by first | exact hnc | (show nc + _ ≤ 7293000; omega)⟩) hS (fun q _ h => hFc q h) hFc (fun r420 u420 t420 H1 locs ht1 hvm w420 hB hz1 hk1 hS => ?_)
  try dsimp only at w420 hB
  obtain ⟨hP1, hD1⟩ := hB
  rw [ht1] at hP1
  obtain ⟨hP, hD⟩ := pj_r hP hD hk1 hFc hP1 hD1
  generalize H1 = H at hP hS ⊢
  have hP : va_P D vwCl ((cW cI cS G SA sf paw now ptsw rfw rgw (nI RLw.length) pkw psw ptw Lw p1w p2w p3w (nI rowsw.length) opw (nI Fw) (nI Gnw) (cB Cw) offw leftw wrw rcw thw Zw ++ [(o, .inl (cJ, 1, .inr (.inl f9)))]) ++ (mWu cI cZ M u420)) H := hP
  have hD : va_D A ((cW cI cS G SA sf paw now ptsw rfw rgw (nI RLw.length) pkw psw ptw Lw p1w p2w p3w (nI rowsw.length) opw (nI Fw) (nI Gnw) (cB Cw) offw leftw wrw rcw thw Zw ++ [(o, .inl (cJ, 1, .inr (.inl f9)))]) ++ (mWu cI cZ M u420)) := hD
  refine lv_istore (lv' := [(6, .int r420), (5, .int kx408), (4, .int (nI i)), (3, .ref o), (2, .ref (M 0)), (1, .ref (G 0)), (0, .ref b)]) hx hb dL_law_423 hl (by decide) rfl (fun ls hl => ?_)
  refine lv_aload_n hx hb dL_law_425 rfl (lv_at hl 4 rfl) ?_
  have hPc := pp_r hP
  have hDc := pd_r hD
  have hFc := wfree hDc hS hA
  refine va_calli (va_runV (As := []) (rest := []) ⟨hx, hb, hml, hown, ht⟩ (c_X5_thrown l D cI cZ cS cJ H.size M (u420.1) (u420.2.1) (u420.2.2.1) (u420.2.2.2.1) (u420.2.2.2.2.1) (u420.2.2.2.2.2.1) (u420.2.2.2.2.2.2.1) (u420.2.2.2.2.2.2.2.1) (u420.2.2.2.2.2.2.2.2.1) (u420.2.2.2.2.2.2.2.2.2.1) (u420.2.2.2.2.2.2.2.2.2.2.1) (u420.2.2.2.2.2.2.2.2.2.2.2.1) (u420.2.2.2.2.2.2.2.2.2.2.2.2.1) (u420.2.2.2.2.2.2.2.2.2.2.2.2.2.1) (u420.2.2.2.2.2.2.2.2.2.2.2.2.2.2.1) (u420.2.2.2.2.2.2.2.2.2.2.2.2.2.2.2.1) (u420.2.2.2.2.2.2.2.2.2.2.2.2.2.2.2.2) ) (xwV 0 ht kw3_136 kw3_133 kw1_11 kw3_134 kw3_135 rfl rfl (by decide +kernel) ⟨Nat.le_of_ble_eq_true rfl, Nat.le_of_ble_eq_true rfl⟩) ⟨PB.blind, va_recv hK hPc (ci := 5) (q0 := 0) rfl rfl, fun U hU hW => PB.mk hU hW hPc hK hDc⟩ rfl rfl hl.1 rfl (lv_room (Nat.le_of_ble_eq_true rfl)) dL_law_426 ⟨by first | exact hkc | (show kc + _ ≤ 601024; omega), by first | exact hnc | (show nc + _ ≤ 7293000; omega)⟩) hS (fun q _ h => hFc q h) hFc (fun r426 u426 t426 H1 locs ht1 hvm w426 hB hz1 hk1 hS => ?_)
  try dsimp only at w426 hB
  rw [ht1] at hB
  have hP := pr_r hP hD hk1 hB
  generalize H1 = H at hP hS ⊢
  have hP : va_P D vwCl ((cW cI cS G SA sf paw now ptsw rfw rgw (nI RLw.length) pkw psw ptw Lw p1w p2w p3w (nI rowsw.length) opw (nI Fw) (nI Gnw) (cB Cw) offw leftw wrw rcw thw Zw ++ [(o, .inl (cJ, 1, .inr (.inl f9)))]) ++ (mWu cI cZ M u420)) H := hP
  have hD : va_D A ((cW cI cS G SA sf paw now ptsw rfw rgw (nI RLw.length) pkw psw ptw Lw p1w p2w p3w (nI rowsw.length) opw (nI Fw) (nI Gnw) (cB Cw) offw leftw wrw rcw thw Zw ++ [(o, .inl (cJ, 1, .inr (.inl f9)))]) ++ (mWu cI cZ M u420)) := hD
  have hfin := fin_mut (N := N) (u := (pa, no, pts, rf, rg, RL, pk, ps, pt, L9, p1, p2, p3, op, off, left, wr, rc, th, Z, mm, rows, F, Gn, C)) (u' := (paw, now, ptsw, rfw, rgw, RLw, pkw, psw, ptw, Lw, p1w, p2w, p3w, opw, offw, leftw, wrw, rcw, thw, Zw, mmw, rowsw, Fw, Gnw, Cw)) (σ := (off, left, wr, rc, stZ Z, mm, op, rows, F, Gn, C)) (T := th) (X := leaveF off left wr rc (stZ Z) mm op rows F Gn C (xs (i + 1))) (f' := f9) (fo := fo) rfl hci hthv (fun k r σ9 hX9 => have h9 := leave_AI hAX _ hX9; ⟨AI.mono h9.1, h9.2.1, fun _ => by rw [h9.2.2]; exact hthv⟩) w408 w420
  refine lv_iload hx hb dL_law_429 (lv_at hl 1 rfl) ?_
  refine lv_icmp_eq (tgt := 436) hx hb dL_law_431 (by decide) (fun c431 => ?_) (fun c431 => ?_)
  · refine lv_iload hx hb dL_law_436 (lv_at hl 1 rfl) ?_
    refine lv_if_ne (tgt := 453) hx hb dL_law_438 (by decide) (fun c438 => ?_) (fun c438 => ?_)
    · refine lv_goto (tgt := 1225) hx hb dL_law_453 (by decide) ?_
      exact K (paw, now, ptsw, rfw, rgw, RLw, pkw, psw, ptw, Lw, p1w, p2w, p3w, opw, offw, leftw, wrw, rcw, thw, Zw, mmw, rowsw, Fw, Gnw, Cw) u420 f9 _ _ ls ⟨by exact hP, by exact hD, hS, hfin.2.2.1, hfin.2.2.2.1, hfin.2.2.2.2.1, hfin.2.2.2.2.2⟩ (lv_sub hl [2, 3, 4, 5, 6] rfl)
    · refine lv_aload_n hx hb dL_law_441 rfl (lv_at hl 3 rfl) ?_
      refine lv_iconst (v := 0) hx hb dL_law_442 (by decide) ?_
      refine ya_lald hx hb hK hP 35 3 rfl rfl 0 rfl (by decide) (by decide) dL_law_443 ?_
      refine lv_iload hx hb dL_law_444 (lv_at hl 0 rfl) ?_
      refine lv_i2l (v := (r420 : Int32).toInt64) hx hb dL_law_446 rfl ?_
      refine W.lcmp hx hb dL_law_447 ?_
      refine lv_if_eq (tgt := 453) hx hb dL_law_448 (by decide) (fun c448 => ?_) (fun c448 => ?_)
      · refine lv_goto (tgt := 1225) hx hb dL_law_453 (by decide) ?_
        exact K (paw, now, ptsw, rfw, rgw, RLw, pkw, psw, ptw, Lw, p1w, p2w, p3w, opw, offw, leftw, wrw, rcw, thw, Zw, mmw, rowsw, Fw, Gnw, Cw) u420 f9 _ _ ls ⟨by exact hP, by exact hD, hS, hfin.2.2.1, hfin.2.2.2.1, hfin.2.2.2.2.1, hfin.2.2.2.2.2⟩ (lv_sub hl [2, 3, 4, 5, 6] rfl)
      · exact absurd (lgc (hfin.2.1 c438)) c448
  · exact absurd (w426.trans hfin.1) c431

set_option maxHeartbeats 4000000 in
set_option maxRecDepth 100000 in
theorem law_step {p : Program} {l : Launch} {e : Env} {s : State} {m : MethodId} {below : List Frame} {meth : Method} {c : Code} {b L : Nat} {xs : Nat → Int32} {D : va_G} {cI cZ cS cJ : ClassId} {G SA M : Nat → Nat} {sf : Nat → Option Nat} {o : Nat} {A : Nat → Prop} (hl0 : l.stackTraces = false) (C9 : LA p s m c b L xs D cI cZ cS cJ SA sf A) {N kc nc i : Nat} {u : CT} {v : MT} {fo : Nat → Int64} {H : Heap} {locs : List Loc} {ls : Array Slot} {Q : State → Prop} (hI : LSt s D cI cZ cS cJ G SA sf M o A N u v fo H locs) (hN : N ≤ 511) (hi : i + 2 < L) (hkc : kc + 80 ≤ 601024) (hnc : nc + 8400 ≤ 7293000) (hl : lv_has ls 8 [(4, .int (nI i)), (3, .ref o), (2, .ref (M 0)), (1, .ref (G 0)), (0, .ref b)]) (K : ∀ (u1 : CT) (v1 : MT) (f1 : Nat → Int64) (H1 : Heap) (locs1 : List Loc) (ls1 : Array Slot), LSt s D cI cZ cS cJ G SA sf M o A (N + 1) u1 v1 f1 H1 locs1 → lv_has ls1 8 [(4, .int (nI i)), (3, .ref o), (2, .ref (M 0)), (1, .ref (G 0)), (0, .ref b)] → W p l e room_1 s m #[Value.ref b] below meth c H1 locs1 (kc + 80) (nc + 8400) Q (F0 m 1225 ls1 [])) : W p l e room_1 s m #[Value.ref b] below meth c H locs kc nc Q (F0 m 456 ls []) := by
  obtain ⟨hx, hb, hml, hown, ht, hX, hbl, hK, hTX, hNC, hsf, hLb, hAe⟩ := id C9
  have hA : ∀ q : Nat, s.heap.size ≤ q → A q := fun q h => by rw [hAe]; exact h
  have hbA : ¬ A b := by rw [hAe]; exact Nat.not_le.mpr hbl
  obtain ⟨hP, hD, hS, hrep, hciu, hai, hthu⟩ := hI
  obtain ⟨pa, no, pts, rf, rg, RL, pk, ps, pt, L9, p1, p2, p3, op, off, left, wr, rc, th, Z, mm, rows, F, Gn, C⟩ := u
  obtain ⟨mc0, moff, mleft, mwr, mrc, mem, oth, ks, vs, sx, mpl, mps, mpk, msr, mtg, mfl, mxs⟩ := v
  obtain ⟨e1, e2, e3, e4, e5, hRS, hmem, hRP⟩ : moff = off ∧ mleft = left ∧ mwr = wr ∧ mrc = rc ∧ mpl = op ∧ RS (stZ Z) ks vs sx ∧ (∀ n, n < 8 → mem n = nI (mm n)) ∧ RP rows F Gn C mps mpk msr mtg mfl mxs := hrep
  have e1 := e1.symm
  subst e1
  have e2 := e2.symm
  subst e2
  have e3 := e3.symm
  subst e3
  have e4 := e4.symm
  subst e4
  have e5 := e5.symm
  subst e5
  have hci : CI mm RL pts rf rg rows L9 p1 p2 p3 F Gn Z := hciu
  have hAX : AX N off (stZ Z) mm op rows F Gn C := hai
  obtain ⟨ho1, hp01, hSL, hM9, ⟨⟨hsr9, hp89, hrl9, hFl9, hGF9⟩, hCF9, hpl09, hrow9⟩, hLOC9, hAGR9, hth9⟩ := id hAX
  have hthv : th = nI (thF (stZ Z) (homeF mm rows F)) := hthu
  have hplr : op = 1 ∨ (op = 0 ∧ rows = []) := hp01.elim (fun q => Or.inr ⟨q, hpl09 q⟩) Or.inl
  have hlen9 : ∀ n, n < 8 → ((stZ Z) n).length < 999 := fun n hn => Nat.lt_of_le_of_lt (hSL n hn).2 (by omega)
  have hlen9k : ∀ n, n < 8 → ((stZ Z) n).length < 1000 := fun n hn => Nat.lt_trans (hlen9 n hn) (by decide)
  have hss9 : ∀ n, n < 8 → Srt ((stZ Z) n) := fun n hn => (hSL n hn).1
  have hpl9 : op = 0 → rows = [] ∧ F = 0 ∧ Gn = 0 ∧ C = false := fun q => by subst q; exact hAX.emp
  have hv9 : op = 0 → OW (stZ Z) (ownK mm) := fun q => by subst q; exact hAX.ow
  have h2569 : op = 0 → ∀ mo, (plUp (stZ Z) (ownK mo) 8).length ≤ 256 := fun q => by subst q; exact hAX.h256
  have hP : va_P D vwCl ((cW cI cS G SA sf pa no pts rf rg (nI RL.length) pk ps pt L9 p1 p2 p3 (nI rows.length) op (nI F) (nI Gn) (cB C) off left wr rc th Z ++ [(o, .inl (cJ, 1, .inr (.inl fo)))]) ++ (mW cI cZ M mc0 off left wr rc mem oth ks vs sx op mps mpk msr mtg mfl mxs)) H := hP
  have hD : va_D A ((cW cI cS G SA sf pa no pts rf rg (nI RL.length) pk ps pt L9 p1 p2 p3 (nI rows.length) op (nI F) (nI Gn) (cB C) off left wr rc th Z ++ [(o, .inl (cJ, 1, .inr (.inl fo)))]) ++ (mW cI cZ M mc0 off left wr rc mem oth ks vs sx op mps mpk msr mtg mfl mxs)) := hD
  refine lv_aload_n hx hb dL_law_456 rfl (lv_at hl 3 rfl) ?_
  refine lv_aload_n hx hb dL_law_457 rfl (lv_at hl 1 rfl) ?_
  have hPc := pp_l hP
  have hDc := pd_l hD
  have hFc := wfree hDc hS hA
  refine vx_calli (vx_runSX (As := [.ref (G 0), .ref o]) (rest := []) ⟨hx, hb, hml, hown, ht⟩ (c_L_step l hl0 D cI cZ cS cJ H.size G SA sf hsf pa no pts rf rg RL pk ps pt L9 p1 p2 p3 op off left wr rc th Z mm rows F Gn C hci o fo hGF9 hFl9 hlen9 ) (xwSW 2 ht kw2_197 kw2_195 kw1_0 kw2_196 rfl rfl (by decide +kernel) ⟨Nat.le_of_ble_eq_true rfl, Nat.le_of_ble_eq_true rfl⟩) ⟨PZ.blind, fun U hU hW => PZ.mk hU hW hPc hK hDc hS hFc hTX hNC⟩ rfl rfl hl.1 rfl (lv_room (Nat.le_of_ble_eq_true rfl)) dL_law_458 ⟨hkc, hnc⟩) hS (fun q _ h => hFc q h) hFc (fun q _ h => hFc q h) (fun E ce q9 u9 t9 H1 locs ht1 hvm hpx _ _ _ _ _ _ _ => hpx.elim) (fun kx458 u458 t458 H1 locs ht1 hvm w458 hB hz1 hk1 hS => ?_)
  try dsimp only at w458 hB
  obtain ⟨hP1, hD1⟩ := hB
  rw [ht1] at hP1
  obtain ⟨hP, hD⟩ := pj_l hP hD hk1 hFc hP1 hD1
  obtain ⟨⟨paw, now, ptsw, rfw, rgw, RLw, pkw, psw, ptw, Lw, p1w, p2w, p3w, opw, offw, leftw, wrw, rcw, thw, Zw, mmw, rowsw, Fw, Gnw, Cw⟩, f9⟩ := u458
  generalize H1 = H at hP hS ⊢
  have hP : va_P D vwCl ((cW cI cS G SA sf paw now ptsw rfw rgw (nI RLw.length) pkw psw ptw Lw p1w p2w p3w (nI rowsw.length) opw (nI Fw) (nI Gnw) (cB Cw) offw leftw wrw rcw thw Zw ++ [(o, .inl (cJ, 1, .inr (.inl f9)))]) ++ (mW cI cZ M mc0 off left wr rc mem oth ks vs sx op mps mpk msr mtg mfl mxs)) H := hP
  have hD : va_D A ((cW cI cS G SA sf paw now ptsw rfw rgw (nI RLw.length) pkw psw ptw Lw p1w p2w p3w (nI rowsw.length) opw (nI Fw) (nI Gnw) (cB Cw) offw leftw wrw rcw thw Zw ++ [(o, .inl (cJ, 1, .inr (.inl f9)))]) ++ (mW cI cZ M mc0 off left wr rc mem oth ks vs sx op mps mpk msr mtg mfl mxs)) := hD
  refine lv_istore (lv' := [(5, .int kx458), (4, .int (nI i)), (3, .ref o), (2, .ref (M 0)), (1, .ref (G 0)), (0, .ref b)]) hx hb dL_law_461 hl (by decide) rfl (fun ls hl => ?_)
  refine lv_aload_n hx hb dL_law_463 rfl (lv_at hl 3 rfl) ?_
  have hPc := pp_r hP
  have hDc := pd_r hD
  have hFc := wfree hDc hS hA
  refine va_calli (va_runV (As := []) (rest := []) ⟨hx, hb, hml, hown, ht⟩ (c_X5_step l D cI cZ cS cJ H.size M mc0 off left wr rc mem oth ks vs sx op mps mpk msr mtg mfl mxs (stZ Z) hRS mm hmem hM9 rows F Gn C hRP hsr9 hplr hp89 ho1 hGF9 hFl9 (fun q => (hCF9 q).1) hp01 hlen9k) (xwV 0 ht kw4_4 kw4_1 kw1_11 kw4_2 kw4_3 rfl rfl (by decide +kernel) ⟨Nat.le_of_ble_eq_true rfl, Nat.le_of_ble_eq_true rfl⟩) ⟨PB.blind, va_recv hK hPc (ci := 5) (q0 := 0) rfl rfl, fun U hU hW => PB.mk hU hW hPc hK hDc⟩ rfl rfl hl.1 rfl (lv_room (Nat.le_of_ble_eq_true rfl)) dL_law_464 ⟨by first | exact hkc | (show kc + _ ≤ 601024; omega), by first | exact hnc | (show nc + _ ≤ 7293000; omega)⟩) hS (fun q _ h => hFc q h) hFc (fun r464 u464 t464 H1 locs ht1 hvm w464 hB hz1 hk1 hS => ?_)
  try dsimp only at w464 hB
  obtain ⟨hP1, hD1⟩ := hB
  rw [ht1] at hP1
  obtain ⟨hP, hD⟩ := pj_r hP hD hk1 hFc hP1 hD1
  generalize H1 = H at hP hS ⊢
  have hP : va_P D vwCl ((cW cI cS G SA sf paw now ptsw rfw rgw (nI RLw.length) pkw psw ptw Lw p1w p2w p3w (nI rowsw.length) opw (nI Fw) (nI Gnw) (cB Cw) offw leftw wrw rcw thw Zw ++ [(o, .inl (cJ, 1, .inr (.inl f9)))]) ++ (mWu cI cZ M u464)) H := hP
  have hD : va_D A ((cW cI cS G SA sf paw now ptsw rfw rgw (nI RLw.length) pkw psw ptw Lw p1w p2w p3w (nI rowsw.length) opw (nI Fw) (nI Gnw) (cB Cw) offw leftw wrw rcw thw Zw ++ [(o, .inl (cJ, 1, .inr (.inl f9)))]) ++ (mWu cI cZ M u464)) := hD
  refine lv_istore (lv' := [(6, .int r464), (5, .int kx458), (4, .int (nI i)), (3, .ref o), (2, .ref (M 0)), (1, .ref (G 0)), (0, .ref b)]) hx hb dL_law_467 hl (by decide) rfl (fun ls hl => ?_)
  refine lv_aload_n hx hb dL_law_469 rfl (lv_at hl 4 rfl) ?_
  have hPc := pp_r hP
  have hDc := pd_r hD
  have hFc := wfree hDc hS hA
  refine va_calli (va_runV (As := []) (rest := []) ⟨hx, hb, hml, hown, ht⟩ (c_X5_thrown l D cI cZ cS cJ H.size M (u464.1) (u464.2.1) (u464.2.2.1) (u464.2.2.2.1) (u464.2.2.2.2.1) (u464.2.2.2.2.2.1) (u464.2.2.2.2.2.2.1) (u464.2.2.2.2.2.2.2.1) (u464.2.2.2.2.2.2.2.2.1) (u464.2.2.2.2.2.2.2.2.2.1) (u464.2.2.2.2.2.2.2.2.2.2.1) (u464.2.2.2.2.2.2.2.2.2.2.2.1) (u464.2.2.2.2.2.2.2.2.2.2.2.2.1) (u464.2.2.2.2.2.2.2.2.2.2.2.2.2.1) (u464.2.2.2.2.2.2.2.2.2.2.2.2.2.2.1) (u464.2.2.2.2.2.2.2.2.2.2.2.2.2.2.2.1) (u464.2.2.2.2.2.2.2.2.2.2.2.2.2.2.2.2) ) (xwV 0 ht kw3_136 kw3_133 kw1_11 kw3_134 kw3_135 rfl rfl (by decide +kernel) ⟨Nat.le_of_ble_eq_true rfl, Nat.le_of_ble_eq_true rfl⟩) ⟨PB.blind, va_recv hK hPc (ci := 5) (q0 := 0) rfl rfl, fun U hU hW => PB.mk hU hW hPc hK hDc⟩ rfl rfl hl.1 rfl (lv_room (Nat.le_of_ble_eq_true rfl)) dL_law_470 ⟨by first | exact hkc | (show kc + _ ≤ 601024; omega), by first | exact hnc | (show nc + _ ≤ 7293000; omega)⟩) hS (fun q _ h => hFc q h) hFc (fun r470 u470 t470 H1 locs ht1 hvm w470 hB hz1 hk1 hS => ?_)
  try dsimp only at w470 hB
  rw [ht1] at hB
  have hP := pr_r hP hD hk1 hB
  generalize H1 = H at hP hS ⊢
  have hP : va_P D vwCl ((cW cI cS G SA sf paw now ptsw rfw rgw (nI RLw.length) pkw psw ptw Lw p1w p2w p3w (nI rowsw.length) opw (nI Fw) (nI Gnw) (cB Cw) offw leftw wrw rcw thw Zw ++ [(o, .inl (cJ, 1, .inr (.inl f9)))]) ++ (mWu cI cZ M u464)) H := hP
  have hD : va_D A ((cW cI cS G SA sf paw now ptsw rfw rgw (nI RLw.length) pkw psw ptw Lw p1w p2w p3w (nI rowsw.length) opw (nI Fw) (nI Gnw) (cB Cw) offw leftw wrw rcw thw Zw ++ [(o, .inl (cJ, 1, .inr (.inl f9)))]) ++ (mWu cI cZ M u464)) := hD
  have hfin := fin_mut (N := N) (u := (pa, no, pts, rf, rg, RL, pk, ps, pt, L9, p1, p2, p3, op, off, left, wr, rc, th, Z, mm, rows, F, Gn, C)) (u' := (paw, now, ptsw, rfw, rgw, RLw, pkw, psw, ptw, Lw, p1w, p2w, p3w, opw, offw, leftw, wrw, rcw, thw, Zw, mmw, rowsw, Fw, Gnw, Cw)) (σ := (off, left, wr, rc, stZ Z, mm, op, rows, F, Gn, C)) (T := th) (X := stepF off left wr rc (stZ Z) mm op rows F Gn C) (f' := f9) (fo := fo) rfl hci hthv (fun k r σ9 hX9 => have h9 := step_AI hAX hX9; ⟨h9.1, h9.2.1, fun _ => by rw [h9.2.2]; exact hthv⟩) w458 w464
  refine lv_iload hx hb dL_law_473 (lv_at hl 1 rfl) ?_
  refine lv_icmp_eq (tgt := 480) hx hb dL_law_475 (by decide) (fun c475 => ?_) (fun c475 => ?_)
  · refine lv_iload hx hb dL_law_480 (lv_at hl 1 rfl) ?_
    refine lv_if_ne (tgt := 497) hx hb dL_law_482 (by decide) (fun c482 => ?_) (fun c482 => ?_)
    · refine lv_goto (tgt := 1225) hx hb dL_law_497 (by decide) ?_
      exact K (paw, now, ptsw, rfw, rgw, RLw, pkw, psw, ptw, Lw, p1w, p2w, p3w, opw, offw, leftw, wrw, rcw, thw, Zw, mmw, rowsw, Fw, Gnw, Cw) u464 f9 _ _ ls ⟨by exact hP, by exact hD, hS, hfin.2.2.1, hfin.2.2.2.1, hfin.2.2.2.2.1, hfin.2.2.2.2.2⟩ (lv_sub hl [2, 3, 4, 5, 6] rfl)
    · refine lv_aload_n hx hb dL_law_485 rfl (lv_at hl 3 rfl) ?_
      refine lv_iconst (v := 0) hx hb dL_law_486 (by decide) ?_
      refine ya_lald hx hb hK hP 35 3 rfl rfl 0 rfl (by decide) (by decide) dL_law_487 ?_
      refine lv_iload hx hb dL_law_488 (lv_at hl 0 rfl) ?_
      refine lv_i2l (v := (r464 : Int32).toInt64) hx hb dL_law_490 rfl ?_
      refine W.lcmp hx hb dL_law_491 ?_
      refine lv_if_eq (tgt := 497) hx hb dL_law_492 (by decide) (fun c492 => ?_) (fun c492 => ?_)
      · refine lv_goto (tgt := 1225) hx hb dL_law_497 (by decide) ?_
        exact K (paw, now, ptsw, rfw, rgw, RLw, pkw, psw, ptw, Lw, p1w, p2w, p3w, opw, offw, leftw, wrw, rcw, thw, Zw, mmw, rowsw, Fw, Gnw, Cw) u464 f9 _ _ ls ⟨by exact hP, by exact hD, hS, hfin.2.2.1, hfin.2.2.2.1, hfin.2.2.2.2.1, hfin.2.2.2.2.2⟩ (lv_sub hl [2, 3, 4, 5, 6] rfl)
      · exact absurd (lgc (hfin.2.1 c482)) c492
  · exact absurd (w470.trans hfin.1) c475

set_option maxHeartbeats 4000000 in
set_option maxRecDepth 100000 in
theorem law_fail {p : Program} {l : Launch} {e : Env} {s : State} {m : MethodId} {below : List Frame} {meth : Method} {c : Code} {b L : Nat} {xs : Nat → Int32} {D : va_G} {cI cZ cS cJ : ClassId} {G SA M : Nat → Nat} {sf : Nat → Option Nat} {o : Nat} {A : Nat → Prop} (hl0 : l.stackTraces = false) (C9 : LA p s m c b L xs D cI cZ cS cJ SA sf A) {N kc nc i : Nat} {u : CT} {v : MT} {fo : Nat → Int64} {H : Heap} {locs : List Loc} {ls : Array Slot} {Q : State → Prop} (hI : LSt s D cI cZ cS cJ G SA sf M o A N u v fo H locs) (hN : N ≤ 511) (hi : i + 2 < L) (hkc : kc + 80 ≤ 601024) (hnc : nc + 8400 ≤ 7293000) (hl : lv_has ls 8 [(4, .int (nI i)), (3, .ref o), (2, .ref (M 0)), (1, .ref (G 0)), (0, .ref b)]) (K : ∀ (u1 : CT) (v1 : MT) (f1 : Nat → Int64) (H1 : Heap) (locs1 : List Loc) (ls1 : Array Slot), LSt s D cI cZ cS cJ G SA sf M o A (N + 1) u1 v1 f1 H1 locs1 → lv_has ls1 8 [(4, .int (nI i)), (3, .ref o), (2, .ref (M 0)), (1, .ref (G 0)), (0, .ref b)] → W p l e room_1 s m #[Value.ref b] below meth c H1 locs1 (kc + 80) (nc + 8400) Q (F0 m 1225 ls1 [])) : W p l e room_1 s m #[Value.ref b] below meth c H locs kc nc Q (F0 m 500 ls []) := by
  obtain ⟨hx, hb, hml, hown, ht, hX, hbl, hK, hTX, hNC, hsf, hLb, hAe⟩ := id C9
  have hA : ∀ q : Nat, s.heap.size ≤ q → A q := fun q h => by rw [hAe]; exact h
  have hbA : ¬ A b := by rw [hAe]; exact Nat.not_le.mpr hbl
  obtain ⟨hP, hD, hS, hrep, hciu, hai, hthu⟩ := hI
  obtain ⟨pa, no, pts, rf, rg, RL, pk, ps, pt, L9, p1, p2, p3, op, off, left, wr, rc, th, Z, mm, rows, F, Gn, C⟩ := u
  obtain ⟨mc0, moff, mleft, mwr, mrc, mem, oth, ks, vs, sx, mpl, mps, mpk, msr, mtg, mfl, mxs⟩ := v
  obtain ⟨e1, e2, e3, e4, e5, hRS, hmem, hRP⟩ : moff = off ∧ mleft = left ∧ mwr = wr ∧ mrc = rc ∧ mpl = op ∧ RS (stZ Z) ks vs sx ∧ (∀ n, n < 8 → mem n = nI (mm n)) ∧ RP rows F Gn C mps mpk msr mtg mfl mxs := hrep
  have e1 := e1.symm
  subst e1
  have e2 := e2.symm
  subst e2
  have e3 := e3.symm
  subst e3
  have e4 := e4.symm
  subst e4
  have e5 := e5.symm
  subst e5
  have hci : CI mm RL pts rf rg rows L9 p1 p2 p3 F Gn Z := hciu
  have hAX : AX N off (stZ Z) mm op rows F Gn C := hai
  obtain ⟨ho1, hp01, hSL, hM9, ⟨⟨hsr9, hp89, hrl9, hFl9, hGF9⟩, hCF9, hpl09, hrow9⟩, hLOC9, hAGR9, hth9⟩ := id hAX
  have hthv : th = nI (thF (stZ Z) (homeF mm rows F)) := hthu
  have hplr : op = 1 ∨ (op = 0 ∧ rows = []) := hp01.elim (fun q => Or.inr ⟨q, hpl09 q⟩) Or.inl
  have hlen9 : ∀ n, n < 8 → ((stZ Z) n).length < 999 := fun n hn => Nat.lt_of_le_of_lt (hSL n hn).2 (by omega)
  have hlen9k : ∀ n, n < 8 → ((stZ Z) n).length < 1000 := fun n hn => Nat.lt_trans (hlen9 n hn) (by decide)
  have hss9 : ∀ n, n < 8 → Srt ((stZ Z) n) := fun n hn => (hSL n hn).1
  have hpl9 : op = 0 → rows = [] ∧ F = 0 ∧ Gn = 0 ∧ C = false := fun q => by subst q; exact hAX.emp
  have hv9 : op = 0 → OW (stZ Z) (ownK mm) := fun q => by subst q; exact hAX.ow
  have h2569 : op = 0 → ∀ mo, (plUp (stZ Z) (ownK mo) 8).length ≤ 256 := fun q => by subst q; exact hAX.h256
  have hP : va_P D vwCl ((cW cI cS G SA sf pa no pts rf rg (nI RL.length) pk ps pt L9 p1 p2 p3 (nI rows.length) op (nI F) (nI Gn) (cB C) off left wr rc th Z ++ [(o, .inl (cJ, 1, .inr (.inl fo)))]) ++ (mW cI cZ M mc0 off left wr rc mem oth ks vs sx op mps mpk msr mtg mfl mxs)) H := hP
  have hD : va_D A ((cW cI cS G SA sf pa no pts rf rg (nI RL.length) pk ps pt L9 p1 p2 p3 (nI rows.length) op (nI F) (nI Gn) (cB C) off left wr rc th Z ++ [(o, .inl (cJ, 1, .inr (.inl fo)))]) ++ (mW cI cZ M mc0 off left wr rc mem oth ks vs sx op mps mpk msr mtg mfl mxs)) := hD
  refine lv_aload_n hx hb dL_law_500 rfl (lv_at hl 3 rfl) ?_
  refine lv_aload_n hx hb dL_law_501 rfl (lv_at hl 4 rfl) ?_
  refine lv_iload hx hb dL_law_502 (lv_at hl 0 rfl) ?_
  refine lv_iconst (v := 1) hx hb dL_law_504 (by decide) ?_
  refine lv_iadd hx hb dL_law_505 ?_
  refine ya_sld hx hb hX hbl hbA hS (i + 1) (by rw [show (1 : Int32) = nI 1 from rfl, nI_add]) (by omega) (by omega) dL_law_506 ?_
  have hPc := pp_l (pp_l hP)
  have hDc := pd_l (pd_l hD)
  have hFc := wfree hDc hS hA
  refine vx_calli (vx_runSX (As := [.ref (G 0), .int (xs (i + 1))]) (rest := []) ⟨hx, hb, hml, hown, ht⟩ (c_L_fail l hl0 D cI cZ cS cJ H.size G SA sf hsf pa no pts rf rg RL pk ps pt L9 p1 p2 p3 op off left wr rc th Z mm rows F Gn C hci (xs (i + 1))) (xwSW 2 ht kw2_229 kw2_227 kw1_0 kw2_228 rfl rfl (by decide +kernel) ⟨Nat.le_of_ble_eq_true rfl, Nat.le_of_ble_eq_true rfl⟩) ⟨PZ.blind, fun U hU hW => PZ.mk hU hW hPc hK hDc hS hFc hTX hNC⟩ rfl rfl hl.1 rfl (lv_room (Nat.le_of_ble_eq_true rfl)) dL_law_507 ⟨hkc, hnc⟩) hS (fun q _ h => hFc q h) hFc (fun q _ h => hFc q h) (fun E ce q9 u9 t9 H1 locs ht1 hvm hpx _ _ _ _ _ _ _ => hpx.elim) (fun kx507 u507 t507 H1 locs ht1 hvm w507 hB hz1 hk1 hS => ?_)
  try dsimp only at w507 hB
  obtain ⟨hP1, hD1⟩ := hB
  rw [ht1] at hP1
  obtain ⟨hP, hD⟩ := pj_ll hP hD hk1 hFc hP1 hD1
  generalize H1 = H at hP hS ⊢
  have hP : va_P D vwCl ((cWu cI cS G SA sf u507 ++ [(o, .inl (cJ, 1, .inr (.inl fo)))]) ++ (mW cI cZ M mc0 off left wr rc mem oth ks vs sx op mps mpk msr mtg mfl mxs)) H := hP
  have hD : va_D A ((cWu cI cS G SA sf u507 ++ [(o, .inl (cJ, 1, .inr (.inl fo)))]) ++ (mW cI cZ M mc0 off left wr rc mem oth ks vs sx op mps mpk msr mtg mfl mxs)) := hD
  refine lv_istore (lv' := [(5, .int kx507), (4, .int (nI i)), (3, .ref o), (2, .ref (M 0)), (1, .ref (G 0)), (0, .ref b)]) hx hb dL_law_510 hl (by decide) rfl (fun ls hl => ?_)
  refine lv_aload_n hx hb dL_law_512 rfl (lv_at hl 3 rfl) ?_
  refine lv_aload_n hx hb dL_law_513 rfl (lv_at hl 5 rfl) ?_
  refine lv_iload hx hb dL_law_514 (lv_at hl 1 rfl) ?_
  refine lv_iconst (v := 1) hx hb dL_law_516 (by decide) ?_
  refine lv_iadd hx hb dL_law_517 ?_
  refine ya_sld hx hb hX hbl hbA hS (i + 1) (by rw [show (1 : Int32) = nI 1 from rfl, nI_add]) (by omega) (by omega) dL_law_518 ?_
  have hPc := pp_r hP
  have hDc := pd_r hD
  have hFc := wfree hDc hS hA
  refine va_callv (va_runV (As := [.int (xs (i + 1))]) (rest := []) ⟨hx, hb, hml, hown, ht⟩ (c_X5_fail l D cI cZ cS cJ H.size M mc0 off left wr rc mem oth ks vs sx op mps mpk msr mtg mfl mxs (stZ Z) hRS mm hmem hM9 rows F Gn C hRP hsr9 hplr hp89 ho1 (xs (i + 1))) (xwV 1 ht kw4_20 kw4_17 kw1_11 kw4_18 kw4_19 rfl rfl (by decide +kernel) ⟨Nat.le_of_ble_eq_true rfl, Nat.le_of_ble_eq_true rfl⟩) ⟨PB.blind, va_recv hK hPc (ci := 5) (q0 := 0) rfl rfl, fun U hU hW => PB.mk hU hW hPc hK hDc⟩ rfl rfl hl.1 rfl (lv_room (Nat.le_of_ble_eq_true rfl)) dL_law_519 ⟨by first | exact hkc | (show kc + _ ≤ 601024; omega), by first | exact hnc | (show nc + _ ≤ 7293000; omega)⟩) hS (fun q _ h => hFc q h) hFc (fun u519 t519 H1 locs ht1 hvm w519 hB hz1 hk1 hS => ?_)
  try dsimp only at w519 hB
  obtain ⟨hP1, hD1⟩ := hB
  rw [ht1] at hP1
  obtain ⟨hP, hD⟩ := pj_r hP hD hk1 hFc hP1 hD1
  generalize H1 = H at hP hS ⊢
  have hP : va_P D vwCl ((cWu cI cS G SA sf u507 ++ [(o, .inl (cJ, 1, .inr (.inl fo)))]) ++ (mWu cI cZ M u519)) H := hP
  have hD : va_D A ((cWu cI cS G SA sf u507 ++ [(o, .inl (cJ, 1, .inr (.inl fo)))]) ++ (mWu cI cZ M u519)) := hD
  refine lv_aload_n hx hb dL_law_522 rfl (lv_at hl 3 rfl) ?_
  have hPc := pp_r hP
  have hDc := pd_r hD
  have hFc := wfree hDc hS hA
  refine va_calli (va_runV (As := []) (rest := []) ⟨hx, hb, hml, hown, ht⟩ (c_X5_thrown l D cI cZ cS cJ H.size M (u519.1) (u519.2.1) (u519.2.2.1) (u519.2.2.2.1) (u519.2.2.2.2.1) (u519.2.2.2.2.2.1) (u519.2.2.2.2.2.2.1) (u519.2.2.2.2.2.2.2.1) (u519.2.2.2.2.2.2.2.2.1) (u519.2.2.2.2.2.2.2.2.2.1) (u519.2.2.2.2.2.2.2.2.2.2.1) (u519.2.2.2.2.2.2.2.2.2.2.2.1) (u519.2.2.2.2.2.2.2.2.2.2.2.2.1) (u519.2.2.2.2.2.2.2.2.2.2.2.2.2.1) (u519.2.2.2.2.2.2.2.2.2.2.2.2.2.2.1) (u519.2.2.2.2.2.2.2.2.2.2.2.2.2.2.2.1) (u519.2.2.2.2.2.2.2.2.2.2.2.2.2.2.2.2) ) (xwV 0 ht kw3_136 kw3_133 kw1_11 kw3_134 kw3_135 rfl rfl (by decide +kernel) ⟨Nat.le_of_ble_eq_true rfl, Nat.le_of_ble_eq_true rfl⟩) ⟨PB.blind, va_recv hK hPc (ci := 5) (q0 := 0) rfl rfl, fun U hU hW => PB.mk hU hW hPc hK hDc⟩ rfl rfl hl.1 rfl (lv_room (Nat.le_of_ble_eq_true rfl)) dL_law_523 ⟨by first | exact hkc | (show kc + _ ≤ 601024; omega), by first | exact hnc | (show nc + _ ≤ 7293000; omega)⟩) hS (fun q _ h => hFc q h) hFc (fun r523 u523 t523 H1 locs ht1 hvm w523 hB hz1 hk1 hS => ?_)
  try dsimp only at w523 hB
  rw [ht1] at hB
  have hP := pr_r hP hD hk1 hB
  generalize H1 = H at hP hS ⊢
  have hP : va_P D vwCl ((cWu cI cS G SA sf u507 ++ [(o, .inl (cJ, 1, .inr (.inl fo)))]) ++ (mWu cI cZ M u519)) H := hP
  have hD : va_D A ((cWu cI cS G SA sf u507 ++ [(o, .inl (cJ, 1, .inr (.inl fo)))]) ++ (mWu cI cZ M u519)) := hD
  have hfin := fin_fail (N := N) (u := (pa, no, pts, rf, rg, RL, pk, ps, pt, L9, p1, p2, p3, op, off, left, wr, rc, th, Z, mm, rows, F, Gn, C)) (σ := (off, left, wr, rc, stZ Z, mm, op, rows, F, Gn, C)) (T := th) (X := failF off left wr rc (stZ Z) mm op rows F Gn C (xs (i + 1))) rfl hci hthv (fun k σ9 hX9 => have h9 := fail_AI hAX _ hX9; ⟨AI.mono h9.1, h9.2.1, fun _ => by rw [h9.2.2]; exact hthv⟩) w507 w519
  refine lv_iload hx hb dL_law_526 (lv_at hl 0 rfl) ?_
  refine lv_icmp_eq (tgt := 533) hx hb dL_law_528 (by decide) (fun c528 => ?_) (fun c528 => ?_)
  · refine lv_goto (tgt := 1225) hx hb dL_law_533 (by decide) ?_
    exact K u507 u519 fo _ _ ls ⟨by exact hP, by exact hD, hS, hfin.2.1, hfin.2.2.1, hfin.2.2.2.1, hfin.2.2.2.2⟩ (lv_sub hl [1, 2, 3, 4, 5] rfl)
  · exact absurd (w523.trans hfin.1) c528

set_option maxHeartbeats 4000000 in
set_option maxRecDepth 100000 in
theorem law_recover {p : Program} {l : Launch} {e : Env} {s : State} {m : MethodId} {below : List Frame} {meth : Method} {c : Code} {b L : Nat} {xs : Nat → Int32} {D : va_G} {cI cZ cS cJ : ClassId} {G SA M : Nat → Nat} {sf : Nat → Option Nat} {o : Nat} {A : Nat → Prop} (hl0 : l.stackTraces = false) (C9 : LA p s m c b L xs D cI cZ cS cJ SA sf A) {N kc nc i : Nat} {u : CT} {v : MT} {fo : Nat → Int64} {H : Heap} {locs : List Loc} {ls : Array Slot} {Q : State → Prop} (hI : LSt s D cI cZ cS cJ G SA sf M o A N u v fo H locs) (hN : N ≤ 511) (hi : i + 2 < L) (hkc : kc + 80 ≤ 601024) (hnc : nc + 8400 ≤ 7293000) (hl : lv_has ls 8 [(4, .int (nI i)), (3, .ref o), (2, .ref (M 0)), (1, .ref (G 0)), (0, .ref b)]) (K : ∀ (u1 : CT) (v1 : MT) (f1 : Nat → Int64) (H1 : Heap) (locs1 : List Loc) (ls1 : Array Slot), LSt s D cI cZ cS cJ G SA sf M o A (N + 1) u1 v1 f1 H1 locs1 → lv_has ls1 8 [(4, .int (nI i)), (3, .ref o), (2, .ref (M 0)), (1, .ref (G 0)), (0, .ref b)] → W p l e room_1 s m #[Value.ref b] below meth c H1 locs1 (kc + 80) (nc + 8400) Q (F0 m 1225 ls1 [])) : W p l e room_1 s m #[Value.ref b] below meth c H locs kc nc Q (F0 m 536 ls []) := by
  obtain ⟨hx, hb, hml, hown, ht, hX, hbl, hK, hTX, hNC, hsf, hLb, hAe⟩ := id C9
  have hA : ∀ q : Nat, s.heap.size ≤ q → A q := fun q h => by rw [hAe]; exact h
  have hbA : ¬ A b := by rw [hAe]; exact Nat.not_le.mpr hbl
  obtain ⟨hP, hD, hS, hrep, hciu, hai, hthu⟩ := hI
  obtain ⟨pa, no, pts, rf, rg, RL, pk, ps, pt, L9, p1, p2, p3, op, off, left, wr, rc, th, Z, mm, rows, F, Gn, C⟩ := u
  obtain ⟨mc0, moff, mleft, mwr, mrc, mem, oth, ks, vs, sx, mpl, mps, mpk, msr, mtg, mfl, mxs⟩ := v
  obtain ⟨e1, e2, e3, e4, e5, hRS, hmem, hRP⟩ : moff = off ∧ mleft = left ∧ mwr = wr ∧ mrc = rc ∧ mpl = op ∧ RS (stZ Z) ks vs sx ∧ (∀ n, n < 8 → mem n = nI (mm n)) ∧ RP rows F Gn C mps mpk msr mtg mfl mxs := hrep
  have e1 := e1.symm
  subst e1
  have e2 := e2.symm
  subst e2
  have e3 := e3.symm
  subst e3
  have e4 := e4.symm
  subst e4
  have e5 := e5.symm
  subst e5
  have hci : CI mm RL pts rf rg rows L9 p1 p2 p3 F Gn Z := hciu
  have hAX : AX N off (stZ Z) mm op rows F Gn C := hai
  obtain ⟨ho1, hp01, hSL, hM9, ⟨⟨hsr9, hp89, hrl9, hFl9, hGF9⟩, hCF9, hpl09, hrow9⟩, hLOC9, hAGR9, hth9⟩ := id hAX
  have hthv : th = nI (thF (stZ Z) (homeF mm rows F)) := hthu
  have hplr : op = 1 ∨ (op = 0 ∧ rows = []) := hp01.elim (fun q => Or.inr ⟨q, hpl09 q⟩) Or.inl
  have hlen9 : ∀ n, n < 8 → ((stZ Z) n).length < 999 := fun n hn => Nat.lt_of_le_of_lt (hSL n hn).2 (by omega)
  have hlen9k : ∀ n, n < 8 → ((stZ Z) n).length < 1000 := fun n hn => Nat.lt_trans (hlen9 n hn) (by decide)
  have hss9 : ∀ n, n < 8 → Srt ((stZ Z) n) := fun n hn => (hSL n hn).1
  have hpl9 : op = 0 → rows = [] ∧ F = 0 ∧ Gn = 0 ∧ C = false := fun q => by subst q; exact hAX.emp
  have hv9 : op = 0 → OW (stZ Z) (ownK mm) := fun q => by subst q; exact hAX.ow
  have h2569 : op = 0 → ∀ mo, (plUp (stZ Z) (ownK mo) 8).length ≤ 256 := fun q => by subst q; exact hAX.h256
  have hP : va_P D vwCl ((cW cI cS G SA sf pa no pts rf rg (nI RL.length) pk ps pt L9 p1 p2 p3 (nI rows.length) op (nI F) (nI Gn) (cB C) off left wr rc th Z ++ [(o, .inl (cJ, 1, .inr (.inl fo)))]) ++ (mW cI cZ M mc0 off left wr rc mem oth ks vs sx op mps mpk msr mtg mfl mxs)) H := hP
  have hD : va_D A ((cW cI cS G SA sf pa no pts rf rg (nI RL.length) pk ps pt L9 p1 p2 p3 (nI rows.length) op (nI F) (nI Gn) (cB C) off left wr rc th Z ++ [(o, .inl (cJ, 1, .inr (.inl fo)))]) ++ (mW cI cZ M mc0 off left wr rc mem oth ks vs sx op mps mpk msr mtg mfl mxs)) := hD
  refine lv_aload_n hx hb dL_law_536 rfl (lv_at hl 3 rfl) ?_
  refine lv_aload_n hx hb dL_law_537 rfl (lv_at hl 1 rfl) ?_
  have hPc := pp_l hP
  have hDc := pd_l hD
  have hFc := wfree hDc hS hA
  refine vx_calli (vx_runSX (As := [.ref (G 0), .ref o]) (rest := []) ⟨hx, hb, hml, hown, ht⟩ (c_L_recover l hl0 D cI cZ cS cJ H.size G SA sf hsf pa no pts rf rg RL pk ps pt L9 p1 p2 p3 op off left wr rc th Z mm rows F Gn C hci o fo hFl9 ) (xwSW 2 ht kw2_237 kw2_235 kw1_0 kw2_236 rfl rfl (by decide +kernel) ⟨Nat.le_of_ble_eq_true rfl, Nat.le_of_ble_eq_true rfl⟩) ⟨PZ.blind, fun U hU hW => PZ.mk hU hW hPc hK hDc hS hFc hTX hNC⟩ rfl rfl hl.1 rfl (lv_room (Nat.le_of_ble_eq_true rfl)) dL_law_538 ⟨hkc, hnc⟩) hS (fun q _ h => hFc q h) hFc (fun q _ h => hFc q h) (fun E ce q9 u9 t9 H1 locs ht1 hvm hpx _ _ _ _ _ _ _ => hpx.elim) (fun kx538 u538 t538 H1 locs ht1 hvm w538 hB hz1 hk1 hS => ?_)
  try dsimp only at w538 hB
  obtain ⟨hP1, hD1⟩ := hB
  rw [ht1] at hP1
  obtain ⟨hP, hD⟩ := pj_l hP hD hk1 hFc hP1 hD1
  obtain ⟨⟨paw, now, ptsw, rfw, rgw, RLw, pkw, psw, ptw, Lw, p1w, p2w, p3w, opw, offw, leftw, wrw, rcw, thw, Zw, mmw, rowsw, Fw, Gnw, Cw⟩, f9⟩ := u538
  generalize H1 = H at hP hS ⊢
  have hP : va_P D vwCl ((cW cI cS G SA sf paw now ptsw rfw rgw (nI RLw.length) pkw psw ptw Lw p1w p2w p3w (nI rowsw.length) opw (nI Fw) (nI Gnw) (cB Cw) offw leftw wrw rcw thw Zw ++ [(o, .inl (cJ, 1, .inr (.inl f9)))]) ++ (mW cI cZ M mc0 off left wr rc mem oth ks vs sx op mps mpk msr mtg mfl mxs)) H := hP
  have hD : va_D A ((cW cI cS G SA sf paw now ptsw rfw rgw (nI RLw.length) pkw psw ptw Lw p1w p2w p3w (nI rowsw.length) opw (nI Fw) (nI Gnw) (cB Cw) offw leftw wrw rcw thw Zw ++ [(o, .inl (cJ, 1, .inr (.inl f9)))]) ++ (mW cI cZ M mc0 off left wr rc mem oth ks vs sx op mps mpk msr mtg mfl mxs)) := hD
  refine lv_istore (lv' := [(5, .int kx538), (4, .int (nI i)), (3, .ref o), (2, .ref (M 0)), (1, .ref (G 0)), (0, .ref b)]) hx hb dL_law_541 hl (by decide) rfl (fun ls hl => ?_)
  refine lv_aload_n hx hb dL_law_543 rfl (lv_at hl 3 rfl) ?_
  have hPc := pp_r hP
  have hDc := pd_r hD
  have hFc := wfree hDc hS hA
  refine va_calli (va_runV (As := []) (rest := []) ⟨hx, hb, hml, hown, ht⟩ (c_X5_recover l D cI cZ cS cJ H.size M mc0 off left wr rc mem oth ks vs sx op mps mpk msr mtg mfl mxs (stZ Z) hRS mm hmem hM9 rows F Gn C hRP hsr9 hplr hp89 ho1) (xwV 0 ht kw4_24 kw4_21 kw1_11 kw4_22 kw4_23 rfl rfl (by decide +kernel) ⟨Nat.le_of_ble_eq_true rfl, Nat.le_of_ble_eq_true rfl⟩) ⟨PB.blind, va_recv hK hPc (ci := 5) (q0 := 0) rfl rfl, fun U hU hW => PB.mk hU hW hPc hK hDc⟩ rfl rfl hl.1 rfl (lv_room (Nat.le_of_ble_eq_true rfl)) dL_law_544 ⟨by first | exact hkc | (show kc + _ ≤ 601024; omega), by first | exact hnc | (show nc + _ ≤ 7293000; omega)⟩) hS (fun q _ h => hFc q h) hFc (fun r544 u544 t544 H1 locs ht1 hvm w544 hB hz1 hk1 hS => ?_)
  try dsimp only at w544 hB
  obtain ⟨hP1, hD1⟩ := hB
  rw [ht1] at hP1
  obtain ⟨hP, hD⟩ := pj_r hP hD hk1 hFc hP1 hD1
  generalize H1 = H at hP hS ⊢
  have hP : va_P D vwCl ((cW cI cS G SA sf paw now ptsw rfw rgw (nI RLw.length) pkw psw ptw Lw p1w p2w p3w (nI rowsw.length) opw (nI Fw) (nI Gnw) (cB Cw) offw leftw wrw rcw thw Zw ++ [(o, .inl (cJ, 1, .inr (.inl f9)))]) ++ (mWu cI cZ M u544)) H := hP
  have hD : va_D A ((cW cI cS G SA sf paw now ptsw rfw rgw (nI RLw.length) pkw psw ptw Lw p1w p2w p3w (nI rowsw.length) opw (nI Fw) (nI Gnw) (cB Cw) offw leftw wrw rcw thw Zw ++ [(o, .inl (cJ, 1, .inr (.inl f9)))]) ++ (mWu cI cZ M u544)) := hD
  refine lv_istore (lv' := [(6, .int r544), (5, .int kx538), (4, .int (nI i)), (3, .ref o), (2, .ref (M 0)), (1, .ref (G 0)), (0, .ref b)]) hx hb dL_law_547 hl (by decide) rfl (fun ls hl => ?_)
  refine lv_aload_n hx hb dL_law_549 rfl (lv_at hl 4 rfl) ?_
  have hPc := pp_r hP
  have hDc := pd_r hD
  have hFc := wfree hDc hS hA
  refine va_calli (va_runV (As := []) (rest := []) ⟨hx, hb, hml, hown, ht⟩ (c_X5_thrown l D cI cZ cS cJ H.size M (u544.1) (u544.2.1) (u544.2.2.1) (u544.2.2.2.1) (u544.2.2.2.2.1) (u544.2.2.2.2.2.1) (u544.2.2.2.2.2.2.1) (u544.2.2.2.2.2.2.2.1) (u544.2.2.2.2.2.2.2.2.1) (u544.2.2.2.2.2.2.2.2.2.1) (u544.2.2.2.2.2.2.2.2.2.2.1) (u544.2.2.2.2.2.2.2.2.2.2.2.1) (u544.2.2.2.2.2.2.2.2.2.2.2.2.1) (u544.2.2.2.2.2.2.2.2.2.2.2.2.2.1) (u544.2.2.2.2.2.2.2.2.2.2.2.2.2.2.1) (u544.2.2.2.2.2.2.2.2.2.2.2.2.2.2.2.1) (u544.2.2.2.2.2.2.2.2.2.2.2.2.2.2.2.2) ) (xwV 0 ht kw3_136 kw3_133 kw1_11 kw3_134 kw3_135 rfl rfl (by decide +kernel) ⟨Nat.le_of_ble_eq_true rfl, Nat.le_of_ble_eq_true rfl⟩) ⟨PB.blind, va_recv hK hPc (ci := 5) (q0 := 0) rfl rfl, fun U hU hW => PB.mk hU hW hPc hK hDc⟩ rfl rfl hl.1 rfl (lv_room (Nat.le_of_ble_eq_true rfl)) dL_law_550 ⟨by first | exact hkc | (show kc + _ ≤ 601024; omega), by first | exact hnc | (show nc + _ ≤ 7293000; omega)⟩) hS (fun q _ h => hFc q h) hFc (fun r550 u550 t550 H1 locs ht1 hvm w550 hB hz1 hk1 hS => ?_)
  try dsimp only at w550 hB
  rw [ht1] at hB
  have hP := pr_r hP hD hk1 hB
  generalize H1 = H at hP hS ⊢
  have hP : va_P D vwCl ((cW cI cS G SA sf paw now ptsw rfw rgw (nI RLw.length) pkw psw ptw Lw p1w p2w p3w (nI rowsw.length) opw (nI Fw) (nI Gnw) (cB Cw) offw leftw wrw rcw thw Zw ++ [(o, .inl (cJ, 1, .inr (.inl f9)))]) ++ (mWu cI cZ M u544)) H := hP
  have hD : va_D A ((cW cI cS G SA sf paw now ptsw rfw rgw (nI RLw.length) pkw psw ptw Lw p1w p2w p3w (nI rowsw.length) opw (nI Fw) (nI Gnw) (cB Cw) offw leftw wrw rcw thw Zw ++ [(o, .inl (cJ, 1, .inr (.inl f9)))]) ++ (mWu cI cZ M u544)) := hD
  have hfin := fin_mut (N := N) (u := (pa, no, pts, rf, rg, RL, pk, ps, pt, L9, p1, p2, p3, op, off, left, wr, rc, th, Z, mm, rows, F, Gn, C)) (u' := (paw, now, ptsw, rfw, rgw, RLw, pkw, psw, ptw, Lw, p1w, p2w, p3w, opw, offw, leftw, wrw, rcw, thw, Zw, mmw, rowsw, Fw, Gnw, Cw)) (σ := (off, left, wr, rc, stZ Z, mm, op, rows, F, Gn, C)) (T := th) (X := recF off left wr rc (stZ Z) mm op rows F Gn C) (f' := f9) (fo := fo) rfl hci hthv (fun k r σ9 hX9 => have h9 := rec_AI hAX hX9; ⟨AI.mono h9.1, h9.2.1, fun _ => by rw [h9.2.2]; exact hthv⟩) w538 w544
  refine lv_iload hx hb dL_law_553 (lv_at hl 1 rfl) ?_
  refine lv_icmp_eq (tgt := 560) hx hb dL_law_555 (by decide) (fun c555 => ?_) (fun c555 => ?_)
  · refine lv_iload hx hb dL_law_560 (lv_at hl 1 rfl) ?_
    refine lv_if_ne (tgt := 577) hx hb dL_law_562 (by decide) (fun c562 => ?_) (fun c562 => ?_)
    · refine lv_goto (tgt := 1225) hx hb dL_law_577 (by decide) ?_
      exact K (paw, now, ptsw, rfw, rgw, RLw, pkw, psw, ptw, Lw, p1w, p2w, p3w, opw, offw, leftw, wrw, rcw, thw, Zw, mmw, rowsw, Fw, Gnw, Cw) u544 f9 _ _ ls ⟨by exact hP, by exact hD, hS, hfin.2.2.1, hfin.2.2.2.1, hfin.2.2.2.2.1, hfin.2.2.2.2.2⟩ (lv_sub hl [2, 3, 4, 5, 6] rfl)
    · refine lv_aload_n hx hb dL_law_565 rfl (lv_at hl 3 rfl) ?_
      refine lv_iconst (v := 0) hx hb dL_law_566 (by decide) ?_
      refine ya_lald hx hb hK hP 35 3 rfl rfl 0 rfl (by decide) (by decide) dL_law_567 ?_
      refine lv_iload hx hb dL_law_568 (lv_at hl 0 rfl) ?_
      refine lv_i2l (v := (r544 : Int32).toInt64) hx hb dL_law_570 rfl ?_
      refine W.lcmp hx hb dL_law_571 ?_
      refine lv_if_eq (tgt := 577) hx hb dL_law_572 (by decide) (fun c572 => ?_) (fun c572 => ?_)
      · refine lv_goto (tgt := 1225) hx hb dL_law_577 (by decide) ?_
        exact K (paw, now, ptsw, rfw, rgw, RLw, pkw, psw, ptw, Lw, p1w, p2w, p3w, opw, offw, leftw, wrw, rcw, thw, Zw, mmw, rowsw, Fw, Gnw, Cw) u544 f9 _ _ ls ⟨by exact hP, by exact hD, hS, hfin.2.2.1, hfin.2.2.2.1, hfin.2.2.2.2.1, hfin.2.2.2.2.2⟩ (lv_sub hl [2, 3, 4, 5, 6] rfl)
      · exact absurd (lgc (hfin.2.1 c562)) c572
  · exact absurd (w550.trans hfin.1) c555
