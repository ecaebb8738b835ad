-- the class ShardRing: put, remove
theorem zlen_fu {Z : Nat → ST} {n : Nat} {z : ST} {k b : Nat} (h : (zL (Z k)).length < b) (h2 : (zL z).length < b) : (zL (fu Z n z k)).length < b := by
  by_cases e : k = n
  · subst e; rw [fu_s]; exact h2
  · rw [fu_n _ _ e]; exact h
theorem ins_le (l : List (Int32 × Int32)) (key v : Int32) : (ins l key v).length ≤ l.length + 1 := by rw [ins_len]; split <;> omega
theorem del_le (l : List (Int32 × Int32)) (key : Int32) : (del l key).length ≤ l.length := by rw [del_len]; split <;> omega
theorem zlen_ins {Z : Nat → ST} {n k a b c d : Nat} {f g : Nat → Int32} {key v : Int32} (h : (zL (Z k)).length < 999) (h2 : (zL (Z n)).length < 999) : (zL (fu Z n (a, b, c, d, f, g, ins (zL (Z n)) key v) k)).length < 1000 :=
  zlen_fu (by omega) (show (ins (zL (Z n)) key v).length < 1000 by have := ins_le (zL (Z n)) key v; omega)
theorem zs_ins {Z : Nat → ST} (h : ZS Z) {n : Nat} (hn : n < 8) {a b c d : Nat} {f g : Nat → Int32} {key v : Int32} (w : SRP (ins (zL (Z n)) key v) c d f g) (hl : (zL (Z n)).length < 1000) : ZS (fu Z n (a, b, c, d, f, g, ins (zL (Z n)) key v)) :=
  ZS.fu h ⟨w, Srt_ins (h n hn).2.1 key v, show (ins (zL (Z n)) key v).length ≤ 1000 by have := ins_le (zL (Z n)) key v; omega⟩
theorem zs_del {Z : Nat → ST} (h : ZS Z) {n : Nat} (hn : n < 8) {a b : Nat} {f g : Nat → Int32} {key : Int32} (w : SRP (del (zL (Z n)) key) (zL1 (Z n)) (zL2 (Z n)) f g) : ZS (fu Z n (a, b, zL1 (Z n), zL2 (Z n), f, g, del (zL (Z n)) key)) :=
  ZS.fu h ⟨w, Srt_del (h n hn).2.1 key, Nat.le_trans (del_le _ _) (h n hn).2.2⟩
theorem zL_fu (Z : Nat → ST) (n : Nat) (z : ST) (k : Nat) : zL (fu Z n z k) = fu (stZ Z) n (zL z) k := by
  unfold stZ fu; split <;> rfl
theorem wOk_y {left : Int32} (h : ¬ wOk left = 0) : ¬ left = 0 := fun q => h (if_pos q)
theorem wOk_n {left : Int32} (h : wOk left = 0) : left = 0 := Decidable.byContradiction (fun q => by unfold wOk at h; rw [if_neg q] at h; exact absurd h (by decide))
theorem wLeft_z {left : Int32} (h : left = 0) : wLeft left = left := by rw [h]; decide

set_option maxHeartbeats 4000000 in
set_option maxRecDepth 100000 in
theorem c_X4_put (l : Launch) (hl0 : l.stackTraces = false) (D : va_G) (cI cZ cS cJ : ClassId) (sz : Nat) (G SA : Nat → Nat) (sf : Nat → Option Nat) (hsf : ∀ n, n < 8 → sf n = some (SA n)) (pa no : Nat) (pts rf rg : Nat → Int32) (RL : List (Int32 × Int32)) (pk ps pt L : Nat) (p1 p2 p3 : Nat → Int32) (op off left wr rc th : Int32) (Z : Nat → ST) (mm : Nat → Nat) (rows : List (Int32 × Nat × Nat)) (F Gn : Nat) (C : Bool) (hci : CI mm RL pts rf rg rows L p1 p2 p3 F Gn Z) (hth : th = nI (thF (stZ Z) (homeF mm rows F))) (h256 : thF (stZ Z) (homeF mm rows F) ≤ 256) (hlen : ∀ n, n < 8 → (zL (Z n)).length < 999) (key v : Int32) : vx_Met l yX4_put (Cond.code yX4_put cX4_put 6 (some .int) :: TB) ({ frames := 7, cells := 6, slots := 8300, locals := 110 } : Room) (va_Pc [.ref (G 0), .int key, .int v] (PX D (KT cI cZ cS cJ) (cW cI cS G SA sf pa no pts rf rg (nI RL.length) pk ps pt L p1 p2 p3 (nI rows.length) op (nI F) (nI Gn) (cB C) off left wr rc th Z) sz)) (va_Qi (fun r (u : CT) => putF off left wr rc (stZ Z) mm op rows F Gn C key v = (0, r, sgu u) ∧ CIu u ∧ thu u = if left = 0 ∨ hs (stZ Z (homeF mm rows F key)) key = true then th else th + 1) (fun (u : CT) t => va_P D vwCl (cWu cI cS G SA sf u) t.heap ∧ va_D (va_A (cW cI cS G SA sf pa no pts rf rg (nI RL.length) pk ps pt L p1 p2 p3 (nI rows.length) op (nI F) (nI Gn) (cB C) off left wr rc th Z) sz) (cWu cI cS G SA sf u)) (va_A (cW cI cS G SA sf pa no pts rf rg (nI RL.length) pk ps pt L p1 p2 p3 (nI rows.length) op (nI F) (nI Gn) (cB C) off left wr rc th Z) sz)) (vx_X (fun (_ : Unit) => True) (fun E (_ : Unit) t => (fun E => E = cISE ∧ (putF off left wr rc (stZ Z) mm op rows F Gn C key v).1 = 1) E ∧ va_P D vwCl (cW cI cS G SA sf pa no pts rf rg (nI RL.length) pk ps pt L p1 p2 p3 (nI rows.length) op (nI F) (nI Gn) (cB C) off left wr rc th Z) t.heap) (va_A (cW cI cS G SA sf pa no pts rf rg (nI RL.length) pk ps pt L p1 p2 p3 (nI rows.length) op (nI F) (nI Gn) (cB C) off left wr rc th Z) sz)) 6 8300 (va_A (cW cI cS G SA sf pa no pts rf rg (nI RL.length) pk ps pt L p1 p2 p3 (nI rows.length) op (nI F) (nI Gn) (cB C) off left wr rc th Z) sz) := by
  refine vx_ofW (cc := cX4_put) (maxL := 6) (ret := (some .int)) (by decide) rfl ?_
  intro p e s m args below meth c s₁ B hml hnt hv
  obtain ⟨rfl, ⟨hsz, hP, hK, hD0⟩, hTX⟩ := hv
  have hx := B.exec
  have hb := B.bytes
  have hr := B.returns
  have hts := atoms_spec (ws := (Cond.code yX4_put cX4_put 6 (some .int) :: TB)) B.pre
  have ht : ∀ w ∈ TB, w.before _ s = true := fun w h => hts w (List.mem_cons_of_mem _ h)
  have hown : s.vm.findClass RX4 = some m.cls := findClass_of_methodNamed B.named
  have hlocks := B.notSynchronized
  subst hsz
  have hD := hD0.self (sz := s.heap.size)
  generalize hAe : va_A (cW cI cS G SA sf pa no pts rf rg (nI RL.length) pk ps pt L p1 p2 p3 (nI rows.length) op (nI F) (nI Gn) (cB C) off left wr rc th Z) s.heap.size = A at hD hTX ⊢
  have hA : ∀ q : Nat, s.heap.size ≤ q → A q := fun q h => by rw [← hAe]; exact Or.inr h
  have hS : va_S A s.heap s.heap [] := va_S.rf
  have hP : va_P D vwCl (cW cI cS G SA sf pa no pts rf rg (nI RL.length) pk ps pt L p1 p2 p3 (nI rows.length) op (nI F) (nI Gn) (cB C) off left wr rc th Z) s.heap := hP
  have hl := lv_entry ([.ref (G 0), .int key, .int v]) (n := 6) (Nat.le_of_ble_eq_true rfl)
  rw [lg_entry_eq]
  generalize (lg_sl ([.ref (G 0), .int key, .int v]) ++ List.replicate (6 - (lg_sl ([.ref (G 0), .int key, .int v])).length) Slot.unset).toArray = ls at hl ⊢
  have hl : lv_has ls 6 [(0, .ref (G 0)), (1, .int key), (2, .int v)] := hl
  obtain ⟨⟨hrr, hrg, h16, hM⟩, ⟨hpr, h32, hrl, hF9, hG9, hsr, hp8⟩, hzs⟩ := id hci
  refine lv_aload_n hx hb dX4_put_0 rfl (lv_at hl 0 rfl) ?_
  have hPc := hP.sub (ws' := [((G 0), .inr (4, [.ref (G 1), .ref (G 3), .ref (G 4), .ref (G 5), .int th])), ((G 5), .inr (1, [.int off, .int left, .int wr, .int rc]))]) [0, 10] rfl
  have hDc := hD.sub (ws' := [((G 0), .inr (4, [.ref (G 1), .ref (G 3), .ref (G 4), .ref (G 5), .int th])), ((G 5), .inr (1, [.int off, .int left, .int wr, .int rc]))]) [0, 10] (by decide) rfl
  have hFc := va_free (wc := [((G 0), .inr (4, [.ref (G 1), .ref (G 3), .ref (G 4), .ref (G 5), .int th])), ((G 5), .inr (1, [.int off, .int left, .int wr, .int rc]))]) hD hS hA [0, 10] rfl
  refine vx_callv (vx_runV (As := []) (rest := []) ⟨hx, hb, hml, hown, ht⟩ (c_X4_needPower l hl0 D cI cZ cS cJ s.heap.size G off left wr rc th) (xwV 0 ht kw1_218 kw1_215 kw1_1 kw1_217 kwS_1 rfl rfl (by decide +kernel) ⟨Nat.le_of_ble_eq_true rfl, Nat.le_of_ble_eq_true rfl⟩) ⟨PX.blind, va_recv hK hPc (ci := 4) (q0 := 0) rfl rfl, fun U hU hW => PX.mk hU hW hPc hK hDc hS hFc hTX⟩ rfl rfl hl.1 rfl (lv_room (Nat.le_of_ble_eq_true rfl)) dX4_put_1 ⟨Nat.le_of_ble_eq_true rfl, Nat.le_of_ble_eq_true rfl⟩) hS (fun q _ h => hFc q h) hFc (fun q _ h => hFc q h) (fun E ce q9 u t9 H1 locs ht1 hvm _ hBX hz1 hk1 hS hce hcv hcl => ?_) (fun u1 t1 H1 locs ht1 hvm w1 hB hz1 hk1 hS => ?_)
  · obtain ⟨hXE, hBX⟩ := hBX
    rw [ht1] at hBX
    have hP := wk_ro hP hD [0, 10] rfl hk1 hBX
    exact vx_out (fun x hx => (hnt x hx).elim) hlocks hce hcv hcl (fun t ht9 _ => ⟨(), trivial, ⟨⟨hXE.1, by unfold putF; rw [if_pos hXE.2]⟩, by rw [ht9]; exact hP⟩, hS.F ht9⟩) hS.2.2 (Nat.le_of_ble_eq_true rfl) (Nat.le_of_ble_eq_true rfl)
  try dsimp only at w1 hB
  rw [ht1] at hB
  have hP := wk_ro hP hD [0, 10] rfl hk1 hB
  generalize H1 = H at hP hS ⊢
  refine lv_aload_n hx hb dX4_put_4 rfl (lv_at hl 0 rfl) ?_
  refine va_get (D := D) (ci := 4) (v := .ref (G 4)) (C := RX4) (T := TX4) (N := 5) hx hb ht inX4 hown hK hP 0 (rfl) rfl 2 (by decide) (ht _ kw1_177) (fun _ h9 => h9) rfl dX4_put_5 ?_
  refine lv_iload_n hx hb dX4_put_8 rfl (lv_at hl 1 rfl) ?_
  have hPc := hP.sub (ws' := [((G 4), .inr (0, [.ref pk, .ref ps, .ref pt, .int (nI rows.length), .int op, .int (nI F), .int (nI Gn), .int (cB C)])), (pk, .inl (cI, L, .inl p1)), (ps, .inl (cI, L, .inl p2)), (pt, .inl (cI, L, .inl p3))]) [6, 7, 8, 9] rfl
  have hDc := hD.sub (ws' := [((G 4), .inr (0, [.ref pk, .ref ps, .ref pt, .int (nI rows.length), .int op, .int (nI F), .int (nI Gn), .int (cB C)])), (pk, .inl (cI, L, .inl p1)), (ps, .inl (cI, L, .inl p2)), (pt, .inl (cI, L, .inl p3))]) [6, 7, 8, 9] (by decide) rfl
  have hFc := va_free (wc := [((G 4), .inr (0, [.ref pk, .ref ps, .ref pt, .int (nI rows.length), .int op, .int (nI F), .int (nI Gn), .int (cB C)])), (pk, .inl (cI, L, .inl p1)), (ps, .inl (cI, L, .inl p2)), (pt, .inl (cI, L, .inl p3))]) hD hS hA [6, 7, 8, 9] rfl
  refine va_calli (va_runVN (As := [.int key]) (rest := []) ⟨hx, hb, hml, hown, ht⟩ (c_X0_rowOf l D cI cZ cS cJ H.size (G 4) pk ps pt L p1 p2 p3 op rows F Gn C hpr hrl hF9 hG9 hsr key) ⟨xwN 1 ht kw2_51 kw2_48 kw1_4 rfl rfl (by decide +kernel) ⟨Nat.le_of_ble_eq_true rfl, Nat.le_of_ble_eq_true rfl⟩, ht _ kw2_50, ht _ kwS_3⟩ ⟨PB.blind, va_recv hK hPc (ci := 0) (q0 := 0) rfl rfl, fun U hU hW => PB.mk hU hW hPc hK hDc⟩ rfl rfl hl.1 rfl (lv_room (Nat.le_of_ble_eq_true rfl)) dX4_put_9 ⟨Nat.le_of_ble_eq_true rfl, Nat.le_of_ble_eq_true rfl⟩) hS (fun q _ h => hFc q h) hFc (fun r9 u9 t9 H1 locs ht1 hvm w9 hB hz1 hk1 hS => ?_)
  try dsimp only at w9 hB
  rw [ht1] at hB
  have hP := wk_ro hP hD [6, 7, 8, 9] rfl hk1 hB
  generalize H1 = H at hP hS ⊢
  have w9 := w9.symm
  subst w9
  refine lv_istore_n (lv' := [(3, .int (rowI rows key)), (0, .ref (G 0)), (1, .int key), (2, .int v)]) hx hb dX4_put_12 rfl hl (by decide) rfl (fun ls hl => ?_)
  refine lv_aload_n hx hb dX4_put_13 rfl (lv_at hl 1 rfl) ?_
  refine va_get (D := D) (ci := 4) (v := .ref (G 3)) (C := RX4) (T := TX4) (N := 5) hx hb ht inX4 hown hK hP 0 (rfl) rfl 1 (by decide) (ht _ kw1_176) (fun _ h9 => h9) rfl dX4_put_14 ?_
  refine lv_aload_n hx hb dX4_put_17 rfl (lv_at hl 1 rfl) ?_
  refine lv_iload_n hx hb dX4_put_18 rfl (lv_at hl 0 rfl) ?_
  refine lv_iload_n hx hb dX4_put_19 rfl (lv_at hl 2 rfl) ?_
  obtain ⟨hm9, ehm⟩ : ∃ x, x = homeF mm rows F key := ⟨_, rfl⟩
  have hlt9 : hm9 < 8 := by rw [ehm]; exact homeF_lt hM hp8
  have hPc := hP
  have hDc := hD
  have hFc := wfree hD hS hA
  refine va_calli (va_runV (As := [.int (rowI rows key), .int key]) (rest := [.ref (G 3)]) ⟨hx, hb, hml, hown, ht⟩ (c_X4_homeAt l D cI cZ cS cJ H.size G SA sf hsf pa no pts rf rg RL pk ps pt L p1 p2 p3 op off left wr rc th Z mm rows F Gn C hci key) (xwV 2 ht kw2_56 kw2_53 kw1_1 kw2_55 kwS_4 rfl rfl (by decide +kernel) ⟨Nat.le_of_ble_eq_true rfl, Nat.le_of_ble_eq_true rfl⟩) ⟨PB.blind, va_recv hK hPc (ci := 4) (q0 := 0) rfl rfl, fun U hU hW => PB.mk hU hW hPc hK hDc⟩ rfl rfl hl.1 rfl (lv_room (Nat.le_of_ble_eq_true rfl)) dX4_put_20 ⟨Nat.le_of_ble_eq_true rfl, Nat.le_of_ble_eq_true rfl⟩) hS (fun q _ h => hFc q h) hFc (fun r20 u20 t20 H1 locs ht1 hvm w20 hB hz1 hk1 hS => ?_)
  try dsimp only at w20 hB
  rw [ht1] at hB
  have hP := hB
  generalize H1 = H at hP hS ⊢
  rw [← ehm] at w20
  subst w20
  refine ya_aldq hx hb hK hP 5 2 rfl rfl hm9 (rfl) (hlt9) (by decide) (v := SA hm9) (hsf hm9 hlt9) dX4_put_23 ?_
  refine lv_astore (lv' := [(4, .ref (SA hm9)), (3, .int (rowI rows key)), (0, .ref (G 0)), (1, .int key), (2, .int v)]) hx hb dX4_put_24 hl (by decide) rfl (fun ls hl => ?_)
  refine lv_aload hx hb dX4_put_26 (lv_at hl 0 rfl) ?_
  refine lv_iload_n hx hb dX4_put_28 rfl (lv_at hl 3 rfl) ?_
  have hPc := hP.sub (ws' := stE cI (SA hm9) (Z hm9)) [11 + 3 * hm9, 12 + 3 * hm9, 13 + 3 * hm9] (st_fm (hlt9))
  have hDc := hD.sub (ws' := stE cI (SA hm9) (Z hm9)) [11 + 3 * hm9, 12 + 3 * hm9, 13 + 3 * hm9] (st_nd _) (st_map (hlt9))
  have hFc := va_free (wc := stE cI (SA hm9) (Z hm9)) hD hS hA [11 + 3 * hm9, 12 + 3 * hm9, 13 + 3 * hm9] (st_map (hlt9))
  refine va_calli (va_runVN (As := [.int key]) (rest := []) ⟨hx, hb, hml, hown, ht⟩ (c_X3_has l D cI cZ cS cJ H.size (SA hm9) (zK (Z hm9)) (zV (Z hm9)) (zL1 (Z hm9)) (zL2 (Z hm9)) (zF (Z hm9)) (zG (Z hm9)) (zL (Z hm9)) (hzs _ (hlt9)).1 (hzs _ (hlt9)).2.1 (hzs _ (hlt9)).2.2 key) ⟨xwN 1 ht kw2_68 kw2_65 kw1_6 rfl rfl (by decide +kernel) ⟨Nat.le_of_ble_eq_true rfl, Nat.le_of_ble_eq_true rfl⟩, ht _ kw2_67, ht _ kwS_7⟩ ⟨PB.blind, va_recv hK hPc (ci := 3) (q0 := 0) rfl rfl, fun U hU hW => PB.mk hU hW hPc hK hDc⟩ rfl rfl hl.1 rfl (lv_room (Nat.le_of_ble_eq_true rfl)) dX4_put_29 ⟨Nat.le_of_ble_eq_true rfl, Nat.le_of_ble_eq_true rfl⟩) hS (fun q _ h => hFc q h) hFc (fun r29 u29 t29 H1 locs ht1 hvm w29 hB hz1 hk1 hS => ?_)
  try dsimp only at w29 hB
  rw [ht1] at hB
  have hP := wk_ro hP hD [11 + 3 * hm9, 12 + 3 * hm9, 13 + 3 * hm9] (st_map (hlt9)) hk1 hB
  generalize H1 = H at hP hS ⊢
  refine lv_if_ne (tgt := 39) hx hb dX4_put_32 (by decide) (fun c32 => ?_) (fun c32 => ?_)
  · have hyes : hs (zL (Z hm9)) key = true := Decidable.byContradiction (fun q => c32 (by rw [w29, if_neg q]))
    refine lv_iconst (v := 0) hx hb dX4_put_39 (by decide) ?_
    refine lv_istore (lv' := [(5, .int 0), (4, .ref (SA hm9)), (3, .int (rowI rows key)), (0, .ref (G 0)), (1, .int key), (2, .int v)]) hx hb dX4_put_40 hl (by decide) rfl (fun ls hl => ?_)
    refine lv_iload hx hb dX4_put_42 (lv_at hl 0 rfl) ?_
    refine lv_if_eq (tgt := 67) hx hb dX4_put_44 (by decide) (fun c44 => ?_) (fun c44 => ?_)
    · have hfull : ¬ (¬ hs ((stZ Z) (homeF mm rows F key)) key = true ∧ 256 ≤ thF (stZ Z) (homeF mm rows F)) := by
        rw [← ehm]
        first | exact fun q => q.1 hyes | exact fun q => by have := q.2; omega
      refine lv_aload_n hx hb dX4_put_67 rfl (lv_at hl 3 rfl) ?_
      refine va_get (D := D) (ci := 4) (v := .ref (G 5)) (C := RX4) (T := TX4) (N := 5) hx hb ht inX4 hown hK hP 0 (rfl) rfl 3 (by decide) (ht _ kw1_178) (fun _ h9 => h9) rfl dX4_put_68 ?_
      have hPc := hP.sub (ws' := [((G 5), .inr (1, [.int off, .int left, .int wr, .int rc]))]) [10] rfl
      have hDc := hD.sub (ws' := [((G 5), .inr (1, [.int off, .int left, .int wr, .int rc]))]) [10] (by decide) rfl
      have hFc := va_free (wc := [((G 5), .inr (1, [.int off, .int left, .int wr, .int rc]))]) hD hS hA [10] rfl
      refine va_calli (va_runVN (As := []) (rest := []) ⟨hx, hb, hml, hown, ht⟩ (c_X1_lastsForWrite l D cI cZ cS cJ H.size (G 5) off left wr rc) ⟨xwN 0 ht kw2_78 kw2_75 kw1_5 rfl rfl (by decide +kernel) ⟨Nat.le_of_ble_eq_true rfl, Nat.le_of_ble_eq_true rfl⟩, ht _ kw2_77, ht _ kwS_9⟩ ⟨PB.blind, va_recv hK hPc (ci := 1) (q0 := 0) rfl rfl, fun U hU hW => PB.mk hU hW hPc hK hDc⟩ rfl rfl hl.1 rfl (lv_room (Nat.le_of_ble_eq_true rfl)) dX4_put_71 ⟨Nat.le_of_ble_eq_true rfl, Nat.le_of_ble_eq_true rfl⟩) hS (fun q _ h => hFc q h) hFc (fun r71 u71 t71 H1 locs ht1 hvm w71 hB hz1 hk1 hS => ?_)
      try dsimp only at w71 hB
      obtain ⟨hP1, hD1⟩ := hB
      rw [ht1] at hP1
      obtain ⟨hP, hD⟩ := wk_join (w1 := [((G 5), .inr (1, [.int (wOff left off), .int (wLeft left), .int (wInc left wr), .int rc]))]) hP hD [10] rfl (by decide) rfl hk1 hFc hP1 hD1
      generalize H1 = H at hP hS ⊢
      have hP : va_P D vwCl (cW cI cS G SA sf pa no pts rf rg (nI RL.length) pk ps pt L p1 p2 p3 (nI rows.length) op (nI F) (nI Gn) (cB C) (wOff left off) (wLeft left) (wInc left wr) rc th Z) H := hP
      have hD : va_D A (cW cI cS G SA sf pa no pts rf rg (nI RL.length) pk ps pt L p1 p2 p3 (nI rows.length) op (nI F) (nI Gn) (cB C) (wOff left off) (wLeft left) (wInc left wr) rc th Z) := hD
      refine lv_if_ne (tgt := 80) hx hb dX4_put_74 (by decide) (fun c74 => ?_) (fun c74 => ?_)
      · have hlf : ¬ left = 0 := wOk_y (by rw [← w71]; exact c74)
        rw [show wOff left off = off from if_neg hlf, show wInc left wr = wr + 1 from if_neg hlf] at hP hD
        refine lv_aload hx hb dX4_put_80 (lv_at hl 1 rfl) ?_
        refine lv_iload_n hx hb dX4_put_82 rfl (lv_at hl 4 rfl) ?_
        refine lv_iload_n hx hb dX4_put_83 rfl (lv_at hl 5 rfl) ?_
        skip
        have hPc := hP.sub (ws' := stE cI (SA hm9) (Z hm9)) [11 + 3 * hm9, 12 + 3 * hm9, 13 + 3 * hm9] (st_fm (hlt9))
        have hDc := hD.sub (ws' := stE cI (SA hm9) (Z hm9)) [11 + 3 * hm9, 12 + 3 * hm9, 13 + 3 * hm9] (st_nd _) (st_map (hlt9))
        have hFc := va_free (wc := stE cI (SA hm9) (Z hm9)) hD hS hA [11 + 3 * hm9, 12 + 3 * hm9, 13 + 3 * hm9] (st_map (hlt9))
        refine va_callv (va_runVN (As := [.int key, .int v]) (rest := []) ⟨hx, hb, hml, hown, ht⟩ (c_X3_set l D cI cZ cS cJ H.size (SA hm9) (zK (Z hm9)) (zV (Z hm9)) (zL1 (Z hm9)) (zL2 (Z hm9)) (zF (Z hm9)) (zG (Z hm9)) (zL (Z hm9)) (hzs _ (hlt9)).1 (hzs _ (hlt9)).2.1 (hzs _ (hlt9)).2.2 (Nat.lt_trans (hlen hm9 hlt9) (by decide)) key v) ⟨xwN 2 ht kw2_82 kw2_79 kw1_6 rfl rfl (by decide +kernel) ⟨Nat.le_of_ble_eq_true rfl, Nat.le_of_ble_eq_true rfl⟩, ht _ kw2_81, ht _ kwS_10⟩ ⟨PB.blind, va_recv hK hPc (ci := 3) (q0 := 0) rfl rfl, fun U hU hW => PB.mk hU hW hPc hK hDc⟩ rfl rfl hl.1 rfl (lv_room (Nat.le_of_ble_eq_true rfl)) dX4_put_84 ⟨Nat.le_of_ble_eq_true rfl, Nat.le_of_ble_eq_true rfl⟩) hS (fun q _ h => hFc q h) hFc (fun u84 t84 H1 locs ht1 hvm w84 hB hz1 hk1 hS => ?_)
        try dsimp only at w84 hB
        obtain ⟨ka84, va84, La84, Lb84, fa84, ga84⟩ := u84
        dsimp only at w84 hB
        obtain ⟨hP1, hD1⟩ := hB
        rw [ht1] at hP1
        obtain ⟨hP, hD⟩ := wk_join (w1 := stE cI (SA hm9) (ka84, va84, La84, Lb84, fa84, ga84, ins (zL (Z hm9)) key v)) hP hD [11 + 3 * hm9, 12 + 3 * hm9, 13 + 3 * hm9] (st_map (hlt9)) (st_nd _) rfl hk1 hFc hP1 hD1
        rw [st_put (hlt9)] at hP hD
        have hzsA84 : ZS (fu Z hm9 (ka84, va84, La84, Lb84, fa84, ga84, ins (zL (Z hm9)) key v)) := zs_ins hzs (hlt9) w84 (Nat.lt_trans (hlen hm9 hlt9) (by decide))
        generalize H1 = H at hP hS ⊢
        have hP : va_P D vwCl (cW cI cS G SA sf pa no pts rf rg (nI RL.length) pk ps pt L p1 p2 p3 (nI rows.length) op (nI F) (nI Gn) (cB C) off (wLeft left) (wr + 1) rc th (fu Z hm9 (ka84, va84, La84, Lb84, fa84, ga84, ins (zL (Z hm9)) key v))) H := hP
        have hD : va_D A (cW cI cS G SA sf pa no pts rf rg (nI RL.length) pk ps pt L p1 p2 p3 (nI rows.length) op (nI F) (nI Gn) (cB C) off (wLeft left) (wr + 1) rc th (fu Z hm9 (ka84, va84, La84, Lb84, fa84, ga84, ins (zL (Z hm9)) key v))) := hD
        refine lv_aload_n hx hb dX4_put_87 rfl (lv_at hl 3 rfl) ?_
        refine lv_dup hx hb dX4_put_88 rfl ?_
        refine va_get (D := D) (ci := 4) (v := .int th) (C := RX4) (T := TX4) (N := 5) hx hb ht inX4 hown hK hP 0 (rfl) rfl 4 (by decide) (ht _ kw1_179) (fun _ h9 => h9) rfl dX4_put_89 ?_
        refine lv_iload hx hb dX4_put_92 (lv_at hl 0 rfl) ?_
        refine lv_if_eq (tgt := 101) hx hb dX4_put_94 (by decide) (fun c94 => ?_) (fun c94 => ?_)
        · refine lv_iconst (v := 0) hx hb dX4_put_101 (by decide) ?_
          refine lv_iadd hx hb dX4_put_102 ?_
          refine va_put (D := D) (ci := 4) (v := .int (th + 0)) (ty := .int) (C := RX4) (T := TX4) (N := 5) hx hb ht inX4 tyX4 tyX4_ok nmX4 hown hK hP hD hS 0 rfl rfl 4 (by decide) (ht _ kw1_179) (fun _ h9 => h9) rfl (by decide +kernel) (rfl) rfl (Nat.le_of_ble_eq_true rfl) dX4_put_103 (fun H locs hP hD hS => ?_)
          have hP : va_P D vwCl (cW cI cS G SA sf pa no pts rf rg (nI RL.length) pk ps pt L p1 p2 p3 (nI rows.length) op (nI F) (nI Gn) (cB C) off (wLeft left) (wr + 1) rc (th + 0) (fu Z hm9 (ka84, va84, La84, Lb84, fa84, ga84, ins (zL (Z hm9)) key v))) H := hP
          have hD : va_D A (cW cI cS G SA sf pa no pts rf rg (nI RL.length) pk ps pt L p1 p2 p3 (nI rows.length) op (nI F) (nI Gn) (cB C) off (wLeft left) (wr + 1) rc (th + 0) (fu Z hm9 (ka84, va84, La84, Lb84, fa84, ga84, ins (zL (Z hm9)) key v))) := hD
          refine lv_aload_n hx hb dX4_put_106 rfl (lv_at hl 3 rfl) ?_
          refine va_get (D := D) (ci := 4) (v := .ref (G 4)) (C := RX4) (T := TX4) (N := 5) hx hb ht inX4 hown hK hP 0 (rfl) rfl 2 (by decide) (ht _ kw1_177) (fun _ h9 => h9) rfl dX4_put_107 ?_
          refine lv_iload_n hx hb dX4_put_110 rfl (lv_at hl 2 rfl) ?_
          have hPc := hP.sub (ws' := [((G 4), .inr (0, [.ref pk, .ref ps, .ref pt, .int (nI rows.length), .int op, .int (nI F), .int (nI Gn), .int (cB C)])), (pk, .inl (cI, L, .inl p1)), (ps, .inl (cI, L, .inl p2)), (pt, .inl (cI, L, .inl p3))]) [6, 7, 8, 9] rfl
          have hDc := hD.sub (ws' := [((G 4), .inr (0, [.ref pk, .ref ps, .ref pt, .int (nI rows.length), .int op, .int (nI F), .int (nI Gn), .int (cB C)])), (pk, .inl (cI, L, .inl p1)), (ps, .inl (cI, L, .inl p2)), (pt, .inl (cI, L, .inl p3))]) [6, 7, 8, 9] (by decide) rfl
          have hFc := va_free (wc := [((G 4), .inr (0, [.ref pk, .ref ps, .ref pt, .int (nI rows.length), .int op, .int (nI F), .int (nI Gn), .int (cB C)])), (pk, .inl (cI, L, .inl p1)), (ps, .inl (cI, L, .inl p2)), (pt, .inl (cI, L, .inl p3))]) hD hS hA [6, 7, 8, 9] rfl
          refine va_calli (va_runVN (As := [.int (rowI rows key)]) (rest := []) ⟨hx, hb, hml, hown, ht⟩ (c_X0_stateAt l D cI cZ cS cJ H.size (G 4) pk ps pt L p1 p2 p3 op rows F Gn C hpr hrl hF9 hG9 (rowI rows key)) ⟨xwN 1 ht kw2_60 kw2_57 kw1_4 rfl rfl (by decide +kernel) ⟨Nat.le_of_ble_eq_true rfl, Nat.le_of_ble_eq_true rfl⟩, ht _ kw2_59, ht _ kwS_5⟩ ⟨PB.blind, va_recv hK hPc (ci := 0) (q0 := 0) rfl rfl, fun U hU hW => PB.mk hU hW hPc hK hDc⟩ rfl rfl hl.1 rfl (lv_room (Nat.le_of_ble_eq_true rfl)) dX4_put_111 ⟨Nat.le_of_ble_eq_true rfl, Nat.le_of_ble_eq_true rfl⟩) hS (fun q _ h => hFc q h) hFc (fun r111 u111 t111 H1 locs ht1 hvm w111 hB hz1 hk1 hS => ?_)
          try dsimp only at w111 hB
          rw [ht1] at hB
          have hP := wk_ro hP hD [6, 7, 8, 9] rfl hk1 hB
          generalize H1 = H at hP hS ⊢
          rw [staAt_eq hrl] at w111
          refine lv_iconst (v := 2) hx hb dX4_put_114 (by decide) ?_
          refine lv_icmp_ne (tgt := 150) hx hb dX4_put_115 (by decide) (fun c115 => ?_) (fun c115 => ?_)
          · have hcp : ¬ cpd rows F C key = true := fun q => by
              obtain ⟨q1, q2, q3⟩ := cpd_iff.mp q
              exact c115 (by rw [w111, if_pos q1]; exact sta_2.mpr ⟨q2, q3⟩)
            refine lv_iload hx hb dX4_put_150 (lv_at hl 0 rfl) ?_
            refine lv_if_eq (tgt := 159) hx hb dX4_put_152 (by decide) (fun c152 => ?_) (fun c152 => ?_)
            · refine lv_iconst (v := 0) hx hb dX4_put_159 (by decide) ?_
              refine vx_ret ?_
              refine W.widen (k := 6) (n := 8300) (Nat.le_of_ble_eq_true rfl) (Nat.le_of_ble_eq_true rfl) ?_
              exact W.iret (v := 0) hx hb hr (fun t ht2 hW => ⟨⟨0, (pa, no, pts, rf, rg, RL, pk, ps, pt, L, p1, p2, p3, op, off, wLeft left, wr + 1, rc, th + 0, fu Z hm9 (ka84, va84, La84, Lb84, fa84, ga84, ins (zL (Z hm9)) key v), mm, rows, F, Gn, C), rfl, by
                    (try dsimp only)
                    subst ehm
                    refine ⟨?_, ⟨hci.1, hci.2.1, by first | exact hzsA147 | exact hzsA84 | exact hzs⟩, ?_⟩
                    · unfold putF
                      rw [if_neg (fun q => q w1), if_neg hfull]
                      first | (rw [if_pos hlf]; rfl) | (rw [if_neg hlf]; first | (rw [if_pos hcp]; (first | rw [if_pos (show hs ((stZ Z) (homeF mm rows F key)) key = true from hyes)] | rw [if_neg (show ¬ hs ((stZ Z) (homeF mm rows F key)) key = true from hno)]); simp only [sgu, stZ_fu, zL_fu]; rfl) | (rw [if_neg (fun q => q hcp)]; first | (rw [if_pos hl2]; simp only [sgu, stZ_fu, zL_fu]; rfl) | (rw [if_neg hl2]; (first | rw [if_pos (show hs ((stZ Z) (homeF mm rows F key)) key = true from hyes)] | rw [if_neg (show ¬ hs ((stZ Z) (homeF mm rows F key)) key = true from hno)]); simp only [sgu, stZ_fu, zL_fu]; rfl)))
                    · first | exact (if_pos (Or.inl hlf)).symm | (rw [if_pos (Or.inr (show hs (stZ Z (homeF mm rows F key)) key = true from hyes))]; exact Int32.add_zero th) | (rw [if_neg (fun q => q.elim hlf (show ¬ hs (stZ Z (homeF mm rows F key)) key = true from hno))]; rfl), ⟨by (try dsimp only); rw [ht2]; exact hP, by exact hD⟩⟩, hS.F ht2⟩) hS.2.2 dX4_put_160
            · exact absurd rfl c152
          · have hcp : cpd rows F C key = true := by
              by_cases q : pin rows key = true
              · rw [w111, if_pos q] at c115
                exact cpd_iff.mpr ⟨q, sta_2.mp c115⟩
              · rw [w111, if_neg q] at c115; exact absurd c115 (by decide)
            obtain ⟨hcp1, hcp2, hcp3⟩ := cpd_iff.mp hcp
            have hpl9 := (pin_iff.mp hcp1).1
            have htg : pT rows F < 8 := (hp8 F (by rw [← hcp2]; exact hpl9)).2
            refine lv_aload_n hx hb dX4_put_118 rfl (lv_at hl 3 rfl) ?_
            refine va_get (D := D) (ci := 4) (v := .ref (G 5)) (C := RX4) (T := TX4) (N := 5) hx hb ht inX4 hown hK hP 0 (rfl) rfl 3 (by decide) (ht _ kw1_178) (fun _ h9 => h9) rfl dX4_put_119 ?_
            have hPc := hP.sub (ws' := [((G 5), .inr (1, [.int off, .int (wLeft left), .int (wr + 1), .int rc]))]) [10] rfl
            have hDc := hD.sub (ws' := [((G 5), .inr (1, [.int off, .int (wLeft left), .int (wr + 1), .int rc]))]) [10] (by decide) rfl
            have hFc := va_free (wc := [((G 5), .inr (1, [.int off, .int (wLeft left), .int (wr + 1), .int rc]))]) hD hS hA [10] rfl
            refine va_calli (va_runVN (As := []) (rest := []) ⟨hx, hb, hml, hown, ht⟩ (c_X1_lastsForWrite l D cI cZ cS cJ H.size (G 5) off (wLeft left) (wr + 1) rc) ⟨xwN 0 ht kw2_78 kw2_75 kw1_5 rfl rfl (by decide +kernel) ⟨Nat.le_of_ble_eq_true rfl, Nat.le_of_ble_eq_true rfl⟩, ht _ kw2_77, ht _ kwS_9⟩ ⟨PB.blind, va_recv hK hPc (ci := 1) (q0 := 0) rfl rfl, fun U hU hW => PB.mk hU hW hPc hK hDc⟩ rfl rfl hl.1 rfl (lv_room (Nat.le_of_ble_eq_true rfl)) dX4_put_122 ⟨Nat.le_of_ble_eq_true rfl, Nat.le_of_ble_eq_true rfl⟩) hS (fun q _ h => hFc q h) hFc (fun r122 u122 t122 H1 locs ht1 hvm w122 hB hz1 hk1 hS => ?_)
            try dsimp only at w122 hB
            obtain ⟨hP1, hD1⟩ := hB
            rw [ht1] at hP1
            obtain ⟨hP, hD⟩ := wk_join (w1 := [((G 5), .inr (1, [.int (wOff (wLeft left) off), .int (wLeft (wLeft left)), .int (wInc (wLeft left) (wr + 1)), .int rc]))]) hP hD [10] rfl (by decide) rfl hk1 hFc hP1 hD1
            generalize H1 = H at hP hS ⊢
            have hP : va_P D vwCl (cW cI cS G SA sf pa no pts rf rg (nI RL.length) pk ps pt L p1 p2 p3 (nI rows.length) op (nI F) (nI Gn) (cB C) (wOff (wLeft left) off) (wLeft (wLeft left)) (wInc (wLeft left) (wr + 1)) rc (th + 0) (fu Z hm9 (ka84, va84, La84, Lb84, fa84, ga84, ins (zL (Z hm9)) key v))) H := hP
            have hD : va_D A (cW cI cS G SA sf pa no pts rf rg (nI RL.length) pk ps pt L p1 p2 p3 (nI rows.length) op (nI F) (nI Gn) (cB C) (wOff (wLeft left) off) (wLeft (wLeft left)) (wInc (wLeft left) (wr + 1)) rc (th + 0) (fu Z hm9 (ka84, va84, La84, Lb84, fa84, ga84, ins (zL (Z hm9)) key v))) := hD
            refine lv_if_ne (tgt := 131) hx hb dX4_put_125 (by decide) (fun c125 => ?_) (fun c125 => ?_)
            · have hl2 : ¬ wLeft left = 0 := wOk_y (by rw [← w122]; exact c125)
              rw [show wOff (wLeft left) off = off from if_neg hl2, show wInc (wLeft left) (wr + 1) = (wr + 1) + 1 from if_neg hl2] at hP hD
              refine lv_aload_n hx hb dX4_put_131 rfl (lv_at hl 3 rfl) ?_
              refine va_get (D := D) (ci := 4) (v := .ref (G 3)) (C := RX4) (T := TX4) (N := 5) hx hb ht inX4 hown hK hP 0 (rfl) rfl 1 (by decide) (ht _ kw1_176) (fun _ h9 => h9) rfl dX4_put_132 ?_
              refine lv_aload_n hx hb dX4_put_135 rfl (lv_at hl 3 rfl) ?_
              refine va_get (D := D) (ci := 4) (v := .ref (G 4)) (C := RX4) (T := TX4) (N := 5) hx hb ht inX4 hown hK hP 0 (rfl) rfl 2 (by decide) (ht _ kw1_177) (fun _ h9 => h9) rfl dX4_put_136 ?_
              refine va_getN (D := D) (ci := 0) (v := .ref pt) (C := RX0) (T := TX0) (N := 8) hx hb ht inX0 hown hK hP 6 (rfl) rfl 2 (by decide) (ht _ kw1_68) (fun _ h9 => h9) rfl dX4_put_139 ?_
              refine lv_iload_n hx hb dX4_put_142 rfl (lv_at hl 2 rfl) ?_
              refine ya_iald hx hb hK hP 9 0 (rfl) rfl (prow rows key) (by unfold rowI; rw [if_pos hcp1]) (by have := hpr.1; omega) (by have := hpr.2.1; omega) dX4_put_143 ?_
              refine ya_aldq hx hb hK hP 5 2 rfl rfl (pT rows F) (by rw [(hpr.2.2 _ hpl9).2.2, hcp2]) (htg) (by decide) (v := SA (pT rows F)) (hsf _ htg) dX4_put_144 ?_
              refine lv_iload_n hx hb dX4_put_145 rfl (lv_at hl 4 rfl) ?_
              refine lv_iload_n hx hb dX4_put_146 rfl (lv_at hl 5 rfl) ?_
              skip
              have hPc := hP.sub (ws' := stE cI (SA (pT rows F)) ((fu Z hm9 (ka84, va84, La84, Lb84, fa84, ga84, ins (zL (Z hm9)) key v)) (pT rows F))) [11 + 3 * (pT rows F), 12 + 3 * (pT rows F), 13 + 3 * (pT rows F)] (st_fm (htg))
              have hDc := hD.sub (ws' := stE cI (SA (pT rows F)) ((fu Z hm9 (ka84, va84, La84, Lb84, fa84, ga84, ins (zL (Z hm9)) key v)) (pT rows F))) [11 + 3 * (pT rows F), 12 + 3 * (pT rows F), 13 + 3 * (pT rows F)] (st_nd _) (st_map (htg))
              have hFc := va_free (wc := stE cI (SA (pT rows F)) ((fu Z hm9 (ka84, va84, La84, Lb84, fa84, ga84, ins (zL (Z hm9)) key v)) (pT rows F))) hD hS hA [11 + 3 * (pT rows F), 12 + 3 * (pT rows F), 13 + 3 * (pT rows F)] (st_map (htg))
              refine va_callv (va_runVN (As := [.int key, .int v]) (rest := []) ⟨hx, hb, hml, hown, ht⟩ (c_X3_set l D cI cZ cS cJ H.size (SA (pT rows F)) (zK ((fu Z hm9 (ka84, va84, La84, Lb84, fa84, ga84, ins (zL (Z hm9)) key v)) (pT rows F))) (zV ((fu Z hm9 (ka84, va84, La84, Lb84, fa84, ga84, ins (zL (Z hm9)) key v)) (pT rows F))) (zL1 ((fu Z hm9 (ka84, va84, La84, Lb84, fa84, ga84, ins (zL (Z hm9)) key v)) (pT rows F))) (zL2 ((fu Z hm9 (ka84, va84, La84, Lb84, fa84, ga84, ins (zL (Z hm9)) key v)) (pT rows F))) (zF ((fu Z hm9 (ka84, va84, La84, Lb84, fa84, ga84, ins (zL (Z hm9)) key v)) (pT rows F))) (zG ((fu Z hm9 (ka84, va84, La84, Lb84, fa84, ga84, ins (zL (Z hm9)) key v)) (pT rows F))) (zL ((fu Z hm9 (ka84, va84, La84, Lb84, fa84, ga84, ins (zL (Z hm9)) key v)) (pT rows F))) (hzsA84 _ (htg)).1 (hzsA84 _ (htg)).2.1 (hzsA84 _ (htg)).2.2 (zlen_ins (hlen _ htg) (hlen hm9 hlt9)) key v) ⟨xwN 2 ht kw2_82 kw2_79 kw1_6 rfl rfl (by decide +kernel) ⟨Nat.le_of_ble_eq_true rfl, Nat.le_of_ble_eq_true rfl⟩, ht _ kw2_81, ht _ kwS_10⟩ ⟨PB.blind, va_recv hK hPc (ci := 3) (q0 := 0) rfl rfl, fun U hU hW => PB.mk hU hW hPc hK hDc⟩ rfl rfl hl.1 rfl (lv_room (Nat.le_of_ble_eq_true rfl)) dX4_put_147 ⟨Nat.le_of_ble_eq_true rfl, Nat.le_of_ble_eq_true rfl⟩) hS (fun q _ h => hFc q h) hFc (fun u147 t147 H1 locs ht1 hvm w147 hB hz1 hk1 hS => ?_)
              try dsimp only at w147 hB
              obtain ⟨ka147, va147, La147, Lb147, fa147, ga147⟩ := u147
              dsimp only at w147 hB
              obtain ⟨hP1, hD1⟩ := hB
              rw [ht1] at hP1
              obtain ⟨hP, hD⟩ := wk_join (w1 := stE cI (SA (pT rows F)) (ka147, va147, La147, Lb147, fa147, ga147, ins (zL ((fu Z hm9 (ka84, va84, La84, Lb84, fa84, ga84, ins (zL (Z hm9)) key v)) (pT rows F))) key v)) hP hD [11 + 3 * (pT rows F), 12 + 3 * (pT rows F), 13 + 3 * (pT rows F)] (st_map (htg)) (st_nd _) rfl hk1 hFc hP1 hD1
              rw [st_put (htg)] at hP hD
              have hzsA147 : ZS (fu (fu Z hm9 (ka84, va84, La84, Lb84, fa84, ga84, ins (zL (Z hm9)) key v)) (pT rows F) (ka147, va147, La147, Lb147, fa147, ga147, ins (zL ((fu Z hm9 (ka84, va84, La84, Lb84, fa84, ga84, ins (zL (Z hm9)) key v)) (pT rows F))) key v)) := zs_ins hzsA84 (htg) w147 (zlen_ins (hlen _ htg) (hlen hm9 hlt9))
              generalize H1 = H at hP hS ⊢
              have hP : va_P D vwCl (cW cI cS G SA sf pa no pts rf rg (nI RL.length) pk ps pt L p1 p2 p3 (nI rows.length) op (nI F) (nI Gn) (cB C) off (wLeft (wLeft left)) ((wr + 1) + 1) rc (th + 0) (fu (fu Z hm9 (ka84, va84, La84, Lb84, fa84, ga84, ins (zL (Z hm9)) key v)) (pT rows F) (ka147, va147, La147, Lb147, fa147, ga147, ins (zL ((fu Z hm9 (ka84, va84, La84, Lb84, fa84, ga84, ins (zL (Z hm9)) key v)) (pT rows F))) key v))) H := hP
              have hD : va_D A (cW cI cS G SA sf pa no pts rf rg (nI RL.length) pk ps pt L p1 p2 p3 (nI rows.length) op (nI F) (nI Gn) (cB C) off (wLeft (wLeft left)) ((wr + 1) + 1) rc (th + 0) (fu (fu Z hm9 (ka84, va84, La84, Lb84, fa84, ga84, ins (zL (Z hm9)) key v)) (pT rows F) (ka147, va147, La147, Lb147, fa147, ga147, ins (zL ((fu Z hm9 (ka84, va84, La84, Lb84, fa84, ga84, ins (zL (Z hm9)) key v)) (pT rows F))) key v))) := hD
              refine lv_iload hx hb dX4_put_150 (lv_at hl 0 rfl) ?_
              refine lv_if_eq (tgt := 159) hx hb dX4_put_152 (by decide) (fun c152 => ?_) (fun c152 => ?_)
              · refine lv_iconst (v := 0) hx hb dX4_put_159 (by decide) ?_
                refine vx_ret ?_
                refine W.widen (k := 6) (n := 8300) (Nat.le_of_ble_eq_true rfl) (Nat.le_of_ble_eq_true rfl) ?_
                exact W.iret (v := 0) hx hb hr (fun t ht2 hW => ⟨⟨0, (pa, no, pts, rf, rg, RL, pk, ps, pt, L, p1, p2, p3, op, off, wLeft (wLeft left), (wr + 1) + 1, rc, th + 0, fu (fu Z hm9 (ka84, va84, La84, Lb84, fa84, ga84, ins (zL (Z hm9)) key v)) (pT rows F) (ka147, va147, La147, Lb147, fa147, ga147, ins (zL ((fu Z hm9 (ka84, va84, La84, Lb84, fa84, ga84, ins (zL (Z hm9)) key v)) (pT rows F))) key v), mm, rows, F, Gn, C), rfl, by
                      (try dsimp only)
                      subst ehm
                      refine ⟨?_, ⟨hci.1, hci.2.1, by first | exact hzsA147 | exact hzsA84 | exact hzs⟩, ?_⟩
                      · unfold putF
                        rw [if_neg (fun q => q w1), if_neg hfull]
                        first | (rw [if_pos hlf]; rfl) | (rw [if_neg hlf]; first | (rw [if_pos hcp]; (first | rw [if_pos (show hs ((stZ Z) (homeF mm rows F key)) key = true from hyes)] | rw [if_neg (show ¬ hs ((stZ Z) (homeF mm rows F key)) key = true from hno)]); simp only [sgu, stZ_fu, zL_fu]; rfl) | (rw [if_neg (fun q => q hcp)]; first | (rw [if_pos hl2]; simp only [sgu, stZ_fu, zL_fu]; rfl) | (rw [if_neg hl2]; (first | rw [if_pos (show hs ((stZ Z) (homeF mm rows F key)) key = true from hyes)] | rw [if_neg (show ¬ hs ((stZ Z) (homeF mm rows F key)) key = true from hno)]); simp only [sgu, stZ_fu, zL_fu]; rfl)))
                      · first | exact (if_pos (Or.inl hlf)).symm | (rw [if_pos (Or.inr (show hs (stZ Z (homeF mm rows F key)) key = true from hyes))]; exact Int32.add_zero th) | (rw [if_neg (fun q => q.elim hlf (show ¬ hs (stZ Z (homeF mm rows F key)) key = true from hno))]; rfl), ⟨by (try dsimp only); rw [ht2]; exact hP, by exact hD⟩⟩, hS.F ht2⟩) hS.2.2 dX4_put_160
              · exact absurd rfl c152
            · have hl2 : wLeft left = 0 := wOk_n (by rw [← w122]; exact c125)
              rw [show wOff (wLeft left) off = 1 from if_pos hl2, wLeft_z hl2, show wInc (wLeft left) (wr + 1) = wr + 1 from if_pos hl2] at hP hD
              refine lv_bipush (v := (-9)) hx hb dX4_put_128 (by decide) ?_
              refine vx_ret ?_
              refine W.widen (k := 6) (n := 8300) (Nat.le_of_ble_eq_true rfl) (Nat.le_of_ble_eq_true rfl) ?_
              exact W.iret (v := (-9)) hx hb hr (fun t ht2 hW => ⟨⟨(-9), (pa, no, pts, rf, rg, RL, pk, ps, pt, L, p1, p2, p3, op, 1, wLeft left, wr + 1, rc, th + 0, fu Z hm9 (ka84, va84, La84, Lb84, fa84, ga84, ins (zL (Z hm9)) key v), mm, rows, F, Gn, C), rfl, by
                    (try dsimp only)
                    subst ehm
                    refine ⟨?_, ⟨hci.1, hci.2.1, by first | exact hzsA147 | exact hzsA84 | exact hzs⟩, ?_⟩
                    · unfold putF
                      rw [if_neg (fun q => q w1), if_neg hfull]
                      first | (rw [if_pos hlf]; rfl) | (rw [if_neg hlf]; first | (rw [if_pos hcp]; (first | rw [if_pos (show hs ((stZ Z) (homeF mm rows F key)) key = true from hyes)] | rw [if_neg (show ¬ hs ((stZ Z) (homeF mm rows F key)) key = true from hno)]); simp only [sgu, stZ_fu, zL_fu]; rfl) | (rw [if_neg (fun q => q hcp)]; first | (rw [if_pos hl2]; simp only [sgu, stZ_fu, zL_fu]; rfl) | (rw [if_neg hl2]; (first | rw [if_pos (show hs ((stZ Z) (homeF mm rows F key)) key = true from hyes)] | rw [if_neg (show ¬ hs ((stZ Z) (homeF mm rows F key)) key = true from hno)]); simp only [sgu, stZ_fu, zL_fu]; rfl)))
                    · first | exact (if_pos (Or.inl hlf)).symm | (rw [if_pos (Or.inr (show hs (stZ Z (homeF mm rows F key)) key = true from hyes))]; exact Int32.add_zero th) | (rw [if_neg (fun q => q.elim hlf (show ¬ hs (stZ Z (homeF mm rows F key)) key = true from hno))]; rfl), ⟨by (try dsimp only); rw [ht2]; exact hP, by exact hD⟩⟩, hS.F ht2⟩) hS.2.2 dX4_put_130
        · exact absurd rfl c94
      · have hlf : left = 0 := wOk_n (by rw [← w71]; exact c74)
        rw [show wOff left off = 1 from if_pos hlf, wLeft_z hlf, show wInc left wr = wr from if_pos hlf] at hP hD
        refine lv_bipush (v := (-9)) hx hb dX4_put_77 (by decide) ?_
        refine vx_ret ?_
        refine W.widen (k := 6) (n := 8300) (Nat.le_of_ble_eq_true rfl) (Nat.le_of_ble_eq_true rfl) ?_
        exact W.iret (v := (-9)) hx hb hr (fun t ht2 hW => ⟨⟨(-9), (pa, no, pts, rf, rg, RL, pk, ps, pt, L, p1, p2, p3, op, 1, left, wr, rc, th, Z, mm, rows, F, Gn, C), rfl, by
              (try dsimp only)
              subst ehm
              refine ⟨?_, ⟨hci.1, hci.2.1, by first | exact hzsA147 | exact hzsA84 | exact hzs⟩, ?_⟩
              · unfold putF
                rw [if_neg (fun q => q w1), if_neg hfull]
                first | (rw [if_pos hlf]; rfl) | (rw [if_neg hlf]; first | (rw [if_pos hcp]; (first | rw [if_pos (show hs ((stZ Z) (homeF mm rows F key)) key = true from hyes)] | rw [if_neg (show ¬ hs ((stZ Z) (homeF mm rows F key)) key = true from hno)]); simp only [sgu, stZ_fu, zL_fu]; rfl) | (rw [if_neg (fun q => q hcp)]; first | (rw [if_pos hl2]; simp only [sgu, stZ_fu, zL_fu]; rfl) | (rw [if_neg hl2]; (first | rw [if_pos (show hs ((stZ Z) (homeF mm rows F key)) key = true from hyes)] | rw [if_neg (show ¬ hs ((stZ Z) (homeF mm rows F key)) key = true from hno)]); simp only [sgu, stZ_fu, zL_fu]; rfl)))
              · first | exact (if_pos (Or.inl hlf)).symm | (rw [if_pos (Or.inr (show hs (stZ Z (homeF mm rows F key)) key = true from hyes))]; exact Int32.add_zero th) | (rw [if_neg (fun q => q.elim hlf (show ¬ hs (stZ Z (homeF mm rows F key)) key = true from hno))]; rfl), ⟨by (try dsimp only); rw [ht2]; exact hP, by exact hD⟩⟩, hS.F ht2⟩) hS.2.2 dX4_put_79
    · exact absurd rfl c44
  · have hno : ¬ hs (zL (Z hm9)) key = true := fun q => by rw [w29, if_pos q] at c32; exact absurd c32 (by decide)
    refine lv_iconst (v := 1) hx hb dX4_put_35 (by decide) ?_
    refine lv_goto (tgt := 40) hx hb dX4_put_36 (by decide) ?_
    refine lv_istore (lv' := [(5, .int 1), (4, .ref (SA hm9)), (3, .int (rowI rows key)), (0, .ref (G 0)), (1, .int key), (2, .int v)]) hx hb dX4_put_40 hl (by decide) rfl (fun ls hl => ?_)
    refine lv_iload hx hb dX4_put_42 (lv_at hl 0 rfl) ?_
    refine lv_if_eq (tgt := 67) hx hb dX4_put_44 (by decide) (fun c44 => ?_) (fun c44 => ?_)
    · exact absurd c44 (by decide)
    · refine lv_aload_n hx hb dX4_put_47 rfl (lv_at hl 3 rfl) ?_
      refine va_get (D := D) (ci := 4) (v := .int th) (C := RX4) (T := TX4) (N := 5) hx hb ht inX4 hown hK hP 0 (rfl) rfl 4 (by decide) (ht _ kw1_179) (fun _ h9 => h9) rfl dX4_put_48 ?_
      refine lv_sipush (v := 256) hx hb dX4_put_51 (by decide) ?_
      refine lv_icmp_lt (tgt := 67) hx hb dX4_put_54 (by decide) (fun c54 => ?_) (fun c54 => ?_)
      · have hsm : thF (stZ Z) (homeF mm rows F) < 256 := by
          rcases Nat.lt_or_ge (thF (stZ Z) (homeF mm rows F)) 256 with q | q
          · exact q
          · rw [hth] at c54; exact absurd c54 (nI_nlt q (by omega))
        have hfull : ¬ (¬ hs ((stZ Z) (homeF mm rows F key)) key = true ∧ 256 ≤ thF (stZ Z) (homeF mm rows F)) := by
          rw [← ehm]
          first | exact fun q => q.1 hyes | exact fun q => by have := q.2; omega
        refine lv_aload_n hx hb dX4_put_67 rfl (lv_at hl 3 rfl) ?_
        refine va_get (D := D) (ci := 4) (v := .ref (G 5)) (C := RX4) (T := TX4) (N := 5) hx hb ht inX4 hown hK hP 0 (rfl) rfl 3 (by decide) (ht _ kw1_178) (fun _ h9 => h9) rfl dX4_put_68 ?_
        have hPc := hP.sub (ws' := [((G 5), .inr (1, [.int off, .int left, .int wr, .int rc]))]) [10] rfl
        have hDc := hD.sub (ws' := [((G 5), .inr (1, [.int off, .int left, .int wr, .int rc]))]) [10] (by decide) rfl
        have hFc := va_free (wc := [((G 5), .inr (1, [.int off, .int left, .int wr, .int rc]))]) hD hS hA [10] rfl
        refine va_calli (va_runVN (As := []) (rest := []) ⟨hx, hb, hml, hown, ht⟩ (c_X1_lastsForWrite l D cI cZ cS cJ H.size (G 5) off left wr rc) ⟨xwN 0 ht kw2_78 kw2_75 kw1_5 rfl rfl (by decide +kernel) ⟨Nat.le_of_ble_eq_true rfl, Nat.le_of_ble_eq_true rfl⟩, ht _ kw2_77, ht _ kwS_9⟩ ⟨PB.blind, va_recv hK hPc (ci := 1) (q0 := 0) rfl rfl, fun U hU hW => PB.mk hU hW hPc hK hDc⟩ rfl rfl hl.1 rfl (lv_room (Nat.le_of_ble_eq_true rfl)) dX4_put_71 ⟨Nat.le_of_ble_eq_true rfl, Nat.le_of_ble_eq_true rfl⟩) hS (fun q _ h => hFc q h) hFc (fun r71 u71 t71 H1 locs ht1 hvm w71 hB hz1 hk1 hS => ?_)
        try dsimp only at w71 hB
        obtain ⟨hP1, hD1⟩ := hB
        rw [ht1] at hP1
        obtain ⟨hP, hD⟩ := wk_join (w1 := [((G 5), .inr (1, [.int (wOff left off), .int (wLeft left), .int (wInc left wr), .int rc]))]) hP hD [10] rfl (by decide) rfl hk1 hFc hP1 hD1
        generalize H1 = H at hP hS ⊢
        have hP : va_P D vwCl (cW cI cS G SA sf pa no pts rf rg (nI RL.length) pk ps pt L p1 p2 p3 (nI rows.length) op (nI F) (nI Gn) (cB C) (wOff left off) (wLeft left) (wInc left wr) rc th Z) H := hP
        have hD : va_D A (cW cI cS G SA sf pa no pts rf rg (nI RL.length) pk ps pt L p1 p2 p3 (nI rows.length) op (nI F) (nI Gn) (cB C) (wOff left off) (wLeft left) (wInc left wr) rc th Z) := hD
        refine lv_if_ne (tgt := 80) hx hb dX4_put_74 (by decide) (fun c74 => ?_) (fun c74 => ?_)
        · have hlf : ¬ left = 0 := wOk_y (by rw [← w71]; exact c74)
          rw [show wOff left off = off from if_neg hlf, show wInc left wr = wr + 1 from if_neg hlf] at hP hD
          refine lv_aload hx hb dX4_put_80 (lv_at hl 1 rfl) ?_
          refine lv_iload_n hx hb dX4_put_82 rfl (lv_at hl 4 rfl) ?_
          refine lv_iload_n hx hb dX4_put_83 rfl (lv_at hl 5 rfl) ?_
          skip
          have hPc := hP.sub (ws' := stE cI (SA hm9) (Z hm9)) [11 + 3 * hm9, 12 + 3 * hm9, 13 + 3 * hm9] (st_fm (hlt9))
          have hDc := hD.sub (ws' := stE cI (SA hm9) (Z hm9)) [11 + 3 * hm9, 12 + 3 * hm9, 13 + 3 * hm9] (st_nd _) (st_map (hlt9))
          have hFc := va_free (wc := stE cI (SA hm9) (Z hm9)) hD hS hA [11 + 3 * hm9, 12 + 3 * hm9, 13 + 3 * hm9] (st_map (hlt9))
          refine va_callv (va_runVN (As := [.int key, .int v]) (rest := []) ⟨hx, hb, hml, hown, ht⟩ (c_X3_set l D cI cZ cS cJ H.size (SA hm9) (zK (Z hm9)) (zV (Z hm9)) (zL1 (Z hm9)) (zL2 (Z hm9)) (zF (Z hm9)) (zG (Z hm9)) (zL (Z hm9)) (hzs _ (hlt9)).1 (hzs _ (hlt9)).2.1 (hzs _ (hlt9)).2.2 (Nat.lt_trans (hlen hm9 hlt9) (by decide)) key v) ⟨xwN 2 ht kw2_82 kw2_79 kw1_6 rfl rfl (by decide +kernel) ⟨Nat.le_of_ble_eq_true rfl, Nat.le_of_ble_eq_true rfl⟩, ht _ kw2_81, ht _ kwS_10⟩ ⟨PB.blind, va_recv hK hPc (ci := 3) (q0 := 0) rfl rfl, fun U hU hW => PB.mk hU hW hPc hK hDc⟩ rfl rfl hl.1 rfl (lv_room (Nat.le_of_ble_eq_true rfl)) dX4_put_84 ⟨Nat.le_of_ble_eq_true rfl, Nat.le_of_ble_eq_true rfl⟩) hS (fun q _ h => hFc q h) hFc (fun u84 t84 H1 locs ht1 hvm w84 hB hz1 hk1 hS => ?_)
          try dsimp only at w84 hB
          obtain ⟨ka84, va84, La84, Lb84, fa84, ga84⟩ := u84
          dsimp only at w84 hB
          obtain ⟨hP1, hD1⟩ := hB
          rw [ht1] at hP1
          obtain ⟨hP, hD⟩ := wk_join (w1 := stE cI (SA hm9) (ka84, va84, La84, Lb84, fa84, ga84, ins (zL (Z hm9)) key v)) hP hD [11 + 3 * hm9, 12 + 3 * hm9, 13 + 3 * hm9] (st_map (hlt9)) (st_nd _) rfl hk1 hFc hP1 hD1
          rw [st_put (hlt9)] at hP hD
          have hzsA84 : ZS (fu Z hm9 (ka84, va84, La84, Lb84, fa84, ga84, ins (zL (Z hm9)) key v)) := zs_ins hzs (hlt9) w84 (Nat.lt_trans (hlen hm9 hlt9) (by decide))
          generalize H1 = H at hP hS ⊢
          have hP : va_P D vwCl (cW cI cS G SA sf pa no pts rf rg (nI RL.length) pk ps pt L p1 p2 p3 (nI rows.length) op (nI F) (nI Gn) (cB C) off (wLeft left) (wr + 1) rc th (fu Z hm9 (ka84, va84, La84, Lb84, fa84, ga84, ins (zL (Z hm9)) key v))) H := hP
          have hD : va_D A (cW cI cS G SA sf pa no pts rf rg (nI RL.length) pk ps pt L p1 p2 p3 (nI rows.length) op (nI F) (nI Gn) (cB C) off (wLeft left) (wr + 1) rc th (fu Z hm9 (ka84, va84, La84, Lb84, fa84, ga84, ins (zL (Z hm9)) key v))) := hD
          refine lv_aload_n hx hb dX4_put_87 rfl (lv_at hl 3 rfl) ?_
          refine lv_dup hx hb dX4_put_88 rfl ?_
          refine va_get (D := D) (ci := 4) (v := .int th) (C := RX4) (T := TX4) (N := 5) hx hb ht inX4 hown hK hP 0 (rfl) rfl 4 (by decide) (ht _ kw1_179) (fun _ h9 => h9) rfl dX4_put_89 ?_
          refine lv_iload hx hb dX4_put_92 (lv_at hl 0 rfl) ?_
          refine lv_if_eq (tgt := 101) hx hb dX4_put_94 (by decide) (fun c94 => ?_) (fun c94 => ?_)
          · exact absurd c94 (by decide)
          · refine lv_iconst (v := 1) hx hb dX4_put_97 (by decide) ?_
            refine lv_goto (tgt := 102) hx hb dX4_put_98 (by decide) ?_
            refine lv_iadd hx hb dX4_put_102 ?_
            refine va_put (D := D) (ci := 4) (v := .int (th + 1)) (ty := .int) (C := RX4) (T := TX4) (N := 5) hx hb ht inX4 tyX4 tyX4_ok nmX4 hown hK hP hD hS 0 rfl rfl 4 (by decide) (ht _ kw1_179) (fun _ h9 => h9) rfl (by decide +kernel) (rfl) rfl (Nat.le_of_ble_eq_true rfl) dX4_put_103 (fun H locs hP hD hS => ?_)
            have hP : va_P D vwCl (cW cI cS G SA sf pa no pts rf rg (nI RL.length) pk ps pt L p1 p2 p3 (nI rows.length) op (nI F) (nI Gn) (cB C) off (wLeft left) (wr + 1) rc (th + 1) (fu Z hm9 (ka84, va84, La84, Lb84, fa84, ga84, ins (zL (Z hm9)) key v))) H := hP
            have hD : va_D A (cW cI cS G SA sf pa no pts rf rg (nI RL.length) pk ps pt L p1 p2 p3 (nI rows.length) op (nI F) (nI Gn) (cB C) off (wLeft left) (wr + 1) rc (th + 1) (fu Z hm9 (ka84, va84, La84, Lb84, fa84, ga84, ins (zL (Z hm9)) key v))) := hD
            refine lv_aload_n hx hb dX4_put_106 rfl (lv_at hl 3 rfl) ?_
            refine va_get (D := D) (ci := 4) (v := .ref (G 4)) (C := RX4) (T := TX4) (N := 5) hx hb ht inX4 hown hK hP 0 (rfl) rfl 2 (by decide) (ht _ kw1_177) (fun _ h9 => h9) rfl dX4_put_107 ?_
            refine lv_iload_n hx hb dX4_put_110 rfl (lv_at hl 2 rfl) ?_
            have hPc := hP.sub (ws' := [((G 4), .inr (0, [.ref pk, .ref ps, .ref pt, .int (nI rows.length), .int op, .int (nI F), .int (nI Gn), .int (cB C)])), (pk, .inl (cI, L, .inl p1)), (ps, .inl (cI, L, .inl p2)), (pt, .inl (cI, L, .inl p3))]) [6, 7, 8, 9] rfl
            have hDc := hD.sub (ws' := [((G 4), .inr (0, [.ref pk, .ref ps, .ref pt, .int (nI rows.length), .int op, .int (nI F), .int (nI Gn), .int (cB C)])), (pk, .inl (cI, L, .inl p1)), (ps, .inl (cI, L, .inl p2)), (pt, .inl (cI, L, .inl p3))]) [6, 7, 8, 9] (by decide) rfl
            have hFc := va_free (wc := [((G 4), .inr (0, [.ref pk, .ref ps, .ref pt, .int (nI rows.length), .int op, .int (nI F), .int (nI Gn), .int (cB C)])), (pk, .inl (cI, L, .inl p1)), (ps, .inl (cI, L, .inl p2)), (pt, .inl (cI, L, .inl p3))]) hD hS hA [6, 7, 8, 9] rfl
            refine va_calli (va_runVN (As := [.int (rowI rows key)]) (rest := []) ⟨hx, hb, hml, hown, ht⟩ (c_X0_stateAt l D cI cZ cS cJ H.size (G 4) pk ps pt L p1 p2 p3 op rows F Gn C hpr hrl hF9 hG9 (rowI rows key)) ⟨xwN 1 ht kw2_60 kw2_57 kw1_4 rfl rfl (by decide +kernel) ⟨Nat.le_of_ble_eq_true rfl, Nat.le_of_ble_eq_true rfl⟩, ht _ kw2_59, ht _ kwS_5⟩ ⟨PB.blind, va_recv hK hPc (ci := 0) (q0 := 0) rfl rfl, fun U hU hW => PB.mk hU hW hPc hK hDc⟩ rfl rfl hl.1 rfl (lv_room (Nat.le_of_ble_eq_true rfl)) dX4_put_111 ⟨Nat.le_of_ble_eq_true rfl, Nat.le_of_ble_eq_true rfl⟩) hS (fun q _ h => hFc q h) hFc (fun r111 u111 t111 H1 locs ht1 hvm w111 hB hz1 hk1 hS => ?_)
            try dsimp only at w111 hB
            rw [ht1] at hB
            have hP := wk_ro hP hD [6, 7, 8, 9] rfl hk1 hB
            generalize H1 = H at hP hS ⊢
            rw [staAt_eq hrl] at w111
            refine lv_iconst (v := 2) hx hb dX4_put_114 (by decide) ?_
            refine lv_icmp_ne (tgt := 150) hx hb dX4_put_115 (by decide) (fun c115 => ?_) (fun c115 => ?_)
            · have hcp : ¬ cpd rows F C key = true := fun q => by
                obtain ⟨q1, q2, q3⟩ := cpd_iff.mp q
                exact c115 (by rw [w111, if_pos q1]; exact sta_2.mpr ⟨q2, q3⟩)
              refine lv_iload hx hb dX4_put_150 (lv_at hl 0 rfl) ?_
              refine lv_if_eq (tgt := 159) hx hb dX4_put_152 (by decide) (fun c152 => ?_) (fun c152 => ?_)
              · exact absurd c152 (by decide)
              · refine lv_iconst (v := 1) hx hb dX4_put_155 (by decide) ?_
                refine lv_goto (tgt := 160) hx hb dX4_put_156 (by decide) ?_
                refine vx_ret ?_
                refine W.widen (k := 6) (n := 8300) (Nat.le_of_ble_eq_true rfl) (Nat.le_of_ble_eq_true rfl) ?_
                exact W.iret (v := 1) hx hb hr (fun t ht2 hW => ⟨⟨1, (pa, no, pts, rf, rg, RL, pk, ps, pt, L, p1, p2, p3, op, off, wLeft left, wr + 1, rc, th + 1, fu Z hm9 (ka84, va84, La84, Lb84, fa84, ga84, ins (zL (Z hm9)) key v), mm, rows, F, Gn, C), rfl, by
                      (try dsimp only)
                      subst ehm
                      refine ⟨?_, ⟨hci.1, hci.2.1, by first | exact hzsA147 | exact hzsA84 | exact hzs⟩, ?_⟩
                      · unfold putF
                        rw [if_neg (fun q => q w1), if_neg hfull]
                        first | (rw [if_pos hlf]; rfl) | (rw [if_neg hlf]; first | (rw [if_pos hcp]; (first | rw [if_pos (show hs ((stZ Z) (homeF mm rows F key)) key = true from hyes)] | rw [if_neg (show ¬ hs ((stZ Z) (homeF mm rows F key)) key = true from hno)]); simp only [sgu, stZ_fu, zL_fu]; rfl) | (rw [if_neg (fun q => q hcp)]; first | (rw [if_pos hl2]; simp only [sgu, stZ_fu, zL_fu]; rfl) | (rw [if_neg hl2]; (first | rw [if_pos (show hs ((stZ Z) (homeF mm rows F key)) key = true from hyes)] | rw [if_neg (show ¬ hs ((stZ Z) (homeF mm rows F key)) key = true from hno)]); simp only [sgu, stZ_fu, zL_fu]; rfl)))
                      · first | exact (if_pos (Or.inl hlf)).symm | (rw [if_pos (Or.inr (show hs (stZ Z (homeF mm rows F key)) key = true from hyes))]; exact Int32.add_zero th) | (rw [if_neg (fun q => q.elim hlf (show ¬ hs (stZ Z (homeF mm rows F key)) key = true from hno))]; rfl), ⟨by (try dsimp only); rw [ht2]; exact hP, by exact hD⟩⟩, hS.F ht2⟩) hS.2.2 dX4_put_160
            · have hcp : cpd rows F C key = true := by
                by_cases q : pin rows key = true
                · rw [w111, if_pos q] at c115
                  exact cpd_iff.mpr ⟨q, sta_2.mp c115⟩
                · rw [w111, if_neg q] at c115; exact absurd c115 (by decide)
              obtain ⟨hcp1, hcp2, hcp3⟩ := cpd_iff.mp hcp
              have hpl9 := (pin_iff.mp hcp1).1
              have htg : pT rows F < 8 := (hp8 F (by rw [← hcp2]; exact hpl9)).2
              refine lv_aload_n hx hb dX4_put_118 rfl (lv_at hl 3 rfl) ?_
              refine va_get (D := D) (ci := 4) (v := .ref (G 5)) (C := RX4) (T := TX4) (N := 5) hx hb ht inX4 hown hK hP 0 (rfl) rfl 3 (by decide) (ht _ kw1_178) (fun _ h9 => h9) rfl dX4_put_119 ?_
              have hPc := hP.sub (ws' := [((G 5), .inr (1, [.int off, .int (wLeft left), .int (wr + 1), .int rc]))]) [10] rfl
              have hDc := hD.sub (ws' := [((G 5), .inr (1, [.int off, .int (wLeft left), .int (wr + 1), .int rc]))]) [10] (by decide) rfl
              have hFc := va_free (wc := [((G 5), .inr (1, [.int off, .int (wLeft left), .int (wr + 1), .int rc]))]) hD hS hA [10] rfl
              refine va_calli (va_runVN (As := []) (rest := []) ⟨hx, hb, hml, hown, ht⟩ (c_X1_lastsForWrite l D cI cZ cS cJ H.size (G 5) off (wLeft left) (wr + 1) rc) ⟨xwN 0 ht kw2_78 kw2_75 kw1_5 rfl rfl (by decide +kernel) ⟨Nat.le_of_ble_eq_true rfl, Nat.le_of_ble_eq_true rfl⟩, ht _ kw2_77, ht _ kwS_9⟩ ⟨PB.blind, va_recv hK hPc (ci := 1) (q0 := 0) rfl rfl, fun U hU hW => PB.mk hU hW hPc hK hDc⟩ rfl rfl hl.1 rfl (lv_room (Nat.le_of_ble_eq_true rfl)) dX4_put_122 ⟨Nat.le_of_ble_eq_true rfl, Nat.le_of_ble_eq_true rfl⟩) hS (fun q _ h => hFc q h) hFc (fun r122 u122 t122 H1 locs ht1 hvm w122 hB hz1 hk1 hS => ?_)
              try dsimp only at w122 hB
              obtain ⟨hP1, hD1⟩ := hB
              rw [ht1] at hP1
              obtain ⟨hP, hD⟩ := wk_join (w1 := [((G 5), .inr (1, [.int (wOff (wLeft left) off), .int (wLeft (wLeft left)), .int (wInc (wLeft left) (wr + 1)), .int rc]))]) hP hD [10] rfl (by decide) rfl hk1 hFc hP1 hD1
              generalize H1 = H at hP hS ⊢
              have hP : va_P D vwCl (cW cI cS G SA sf pa no pts rf rg (nI RL.length) pk ps pt L p1 p2 p3 (nI rows.length) op (nI F) (nI Gn) (cB C) (wOff (wLeft left) off) (wLeft (wLeft left)) (wInc (wLeft left) (wr + 1)) rc (th + 1) (fu Z hm9 (ka84, va84, La84, Lb84, fa84, ga84, ins (zL (Z hm9)) key v))) H := hP
              have hD : va_D A (cW cI cS G SA sf pa no pts rf rg (nI RL.length) pk ps pt L p1 p2 p3 (nI rows.length) op (nI F) (nI Gn) (cB C) (wOff (wLeft left) off) (wLeft (wLeft left)) (wInc (wLeft left) (wr + 1)) rc (th + 1) (fu Z hm9 (ka84, va84, La84, Lb84, fa84, ga84, ins (zL (Z hm9)) key v))) := hD
              refine lv_if_ne (tgt := 131) hx hb dX4_put_125 (by decide) (fun c125 => ?_) (fun c125 => ?_)
              · have hl2 : ¬ wLeft left = 0 := wOk_y (by rw [← w122]; exact c125)
                rw [show wOff (wLeft left) off = off from if_neg hl2, show wInc (wLeft left) (wr + 1) = (wr + 1) + 1 from if_neg hl2] at hP hD
                refine lv_aload_n hx hb dX4_put_131 rfl (lv_at hl 3 rfl) ?_
                refine va_get (D := D) (ci := 4) (v := .ref (G 3)) (C := RX4) (T := TX4) (N := 5) hx hb ht inX4 hown hK hP 0 (rfl) rfl 1 (by decide) (ht _ kw1_176) (fun _ h9 => h9) rfl dX4_put_132 ?_
                refine lv_aload_n hx hb dX4_put_135 rfl (lv_at hl 3 rfl) ?_
                refine va_get (D := D) (ci := 4) (v := .ref (G 4)) (C := RX4) (T := TX4) (N := 5) hx hb ht inX4 hown hK hP 0 (rfl) rfl 2 (by decide) (ht _ kw1_177) (fun _ h9 => h9) rfl dX4_put_136 ?_
                refine va_getN (D := D) (ci := 0) (v := .ref pt) (C := RX0) (T := TX0) (N := 8) hx hb ht inX0 hown hK hP 6 (rfl) rfl 2 (by decide) (ht _ kw1_68) (fun _ h9 => h9) rfl dX4_put_139 ?_
                refine lv_iload_n hx hb dX4_put_142 rfl (lv_at hl 2 rfl) ?_
                refine ya_iald hx hb hK hP 9 0 (rfl) rfl (prow rows key) (by unfold rowI; rw [if_pos hcp1]) (by have := hpr.1; omega) (by have := hpr.2.1; omega) dX4_put_143 ?_
                refine ya_aldq hx hb hK hP 5 2 rfl rfl (pT rows F) (by rw [(hpr.2.2 _ hpl9).2.2, hcp2]) (htg) (by decide) (v := SA (pT rows F)) (hsf _ htg) dX4_put_144 ?_
                refine lv_iload_n hx hb dX4_put_145 rfl (lv_at hl 4 rfl) ?_
                refine lv_iload_n hx hb dX4_put_146 rfl (lv_at hl 5 rfl) ?_
                skip
                have hPc := hP.sub (ws' := stE cI (SA (pT rows F)) ((fu Z hm9 (ka84, va84, La84, Lb84, fa84, ga84, ins (zL (Z hm9)) key v)) (pT rows F))) [11 + 3 * (pT rows F), 12 + 3 * (pT rows F), 13 + 3 * (pT rows F)] (st_fm (htg))
                have hDc := hD.sub (ws' := stE cI (SA (pT rows F)) ((fu Z hm9 (ka84, va84, La84, Lb84, fa84, ga84, ins (zL (Z hm9)) key v)) (pT rows F))) [11 + 3 * (pT rows F), 12 + 3 * (pT rows F), 13 + 3 * (pT rows F)] (st_nd _) (st_map (htg))
                have hFc := va_free (wc := stE cI (SA (pT rows F)) ((fu Z hm9 (ka84, va84, La84, Lb84, fa84, ga84, ins (zL (Z hm9)) key v)) (pT rows F))) hD hS hA [11 + 3 * (pT rows F), 12 + 3 * (pT rows F), 13 + 3 * (pT rows F)] (st_map (htg))
                refine va_callv (va_runVN (As := [.int key, .int v]) (rest := []) ⟨hx, hb, hml, hown, ht⟩ (c_X3_set l D cI cZ cS cJ H.size (SA (pT rows F)) (zK ((fu Z hm9 (ka84, va84, La84, Lb84, fa84, ga84, ins (zL (Z hm9)) key v)) (pT rows F))) (zV ((fu Z hm9 (ka84, va84, La84, Lb84, fa84, ga84, ins (zL (Z hm9)) key v)) (pT rows F))) (zL1 ((fu Z hm9 (ka84, va84, La84, Lb84, fa84, ga84, ins (zL (Z hm9)) key v)) (pT rows F))) (zL2 ((fu Z hm9 (ka84, va84, La84, Lb84, fa84, ga84, ins (zL (Z hm9)) key v)) (pT rows F))) (zF ((fu Z hm9 (ka84, va84, La84, Lb84, fa84, ga84, ins (zL (Z hm9)) key v)) (pT rows F))) (zG ((fu Z hm9 (ka84, va84, La84, Lb84, fa84, ga84, ins (zL (Z hm9)) key v)) (pT rows F))) (zL ((fu Z hm9 (ka84, va84, La84, Lb84, fa84, ga84, ins (zL (Z hm9)) key v)) (pT rows F))) (hzsA84 _ (htg)).1 (hzsA84 _ (htg)).2.1 (hzsA84 _ (htg)).2.2 (zlen_ins (hlen _ htg) (hlen hm9 hlt9)) key v) ⟨xwN 2 ht kw2_82 kw2_79 kw1_6 rfl rfl (by decide +kernel) ⟨Nat.le_of_ble_eq_true rfl, Nat.le_of_ble_eq_true rfl⟩, ht _ kw2_81, ht _ kwS_10⟩ ⟨PB.blind, va_recv hK hPc (ci := 3) (q0 := 0) rfl rfl, fun U hU hW => PB.mk hU hW hPc hK hDc⟩ rfl rfl hl.1 rfl (lv_room (Nat.le_of_ble_eq_true rfl)) dX4_put_147 ⟨Nat.le_of_ble_eq_true rfl, Nat.le_of_ble_eq_true rfl⟩) hS (fun q _ h => hFc q h) hFc (fun u147 t147 H1 locs ht1 hvm w147 hB hz1 hk1 hS => ?_)
                try dsimp only at w147 hB
                obtain ⟨ka147, va147, La147, Lb147, fa147, ga147⟩ := u147
                dsimp only at w147 hB
                obtain ⟨hP1, hD1⟩ := hB
                rw [ht1] at hP1
                obtain ⟨hP, hD⟩ := wk_join (w1 := stE cI (SA (pT rows F)) (ka147, va147, La147, Lb147, fa147, ga147, ins (zL ((fu Z hm9 (ka84, va84, La84, Lb84, fa84, ga84, ins (zL (Z hm9)) key v)) (pT rows F))) key v)) hP hD [11 + 3 * (pT rows F), 12 + 3 * (pT rows F), 13 + 3 * (pT rows F)] (st_map (htg)) (st_nd _) rfl hk1 hFc hP1 hD1
                rw [st_put (htg)] at hP hD
                have hzsA147 : ZS (fu (fu Z hm9 (ka84, va84, La84, Lb84, fa84, ga84, ins (zL (Z hm9)) key v)) (pT rows F) (ka147, va147, La147, Lb147, fa147, ga147, ins (zL ((fu Z hm9 (ka84, va84, La84, Lb84, fa84, ga84, ins (zL (Z hm9)) key v)) (pT rows F))) key v)) := zs_ins hzsA84 (htg) w147 (zlen_ins (hlen _ htg) (hlen hm9 hlt9))
                generalize H1 = H at hP hS ⊢
                have hP : va_P D vwCl (cW cI cS G SA sf pa no pts rf rg (nI RL.length) pk ps pt L p1 p2 p3 (nI rows.length) op (nI F) (nI Gn) (cB C) off (wLeft (wLeft left)) ((wr + 1) + 1) rc (th + 1) (fu (fu Z hm9 (ka84, va84, La84, Lb84, fa84, ga84, ins (zL (Z hm9)) key v)) (pT rows F) (ka147, va147, La147, Lb147, fa147, ga147, ins (zL ((fu Z hm9 (ka84, va84, La84, Lb84, fa84, ga84, ins (zL (Z hm9)) key v)) (pT rows F))) key v))) H := hP
                have hD : va_D A (cW cI cS G SA sf pa no pts rf rg (nI RL.length) pk ps pt L p1 p2 p3 (nI rows.length) op (nI F) (nI Gn) (cB C) off (wLeft (wLeft left)) ((wr + 1) + 1) rc (th + 1) (fu (fu Z hm9 (ka84, va84, La84, Lb84, fa84, ga84, ins (zL (Z hm9)) key v)) (pT rows F) (ka147, va147, La147, Lb147, fa147, ga147, ins (zL ((fu Z hm9 (ka84, va84, La84, Lb84, fa84, ga84, ins (zL (Z hm9)) key v)) (pT rows F))) key v))) := hD
                refine lv_iload hx hb dX4_put_150 (lv_at hl 0 rfl) ?_
                refine lv_if_eq (tgt := 159) hx hb dX4_put_152 (by decide) (fun c152 => ?_) (fun c152 => ?_)
                · exact absurd c152 (by decide)
                · refine lv_iconst (v := 1) hx hb dX4_put_155 (by decide) ?_
                  refine lv_goto (tgt := 160) hx hb dX4_put_156 (by decide) ?_
                  refine vx_ret ?_
                  refine W.widen (k := 6) (n := 8300) (Nat.le_of_ble_eq_true rfl) (Nat.le_of_ble_eq_true rfl) ?_
                  exact W.iret (v := 1) hx hb hr (fun t ht2 hW => ⟨⟨1, (pa, no, pts, rf, rg, RL, pk, ps, pt, L, p1, p2, p3, op, off, wLeft (wLeft left), (wr + 1) + 1, rc, th + 1, fu (fu Z hm9 (ka84, va84, La84, Lb84, fa84, ga84, ins (zL (Z hm9)) key v)) (pT rows F) (ka147, va147, La147, Lb147, fa147, ga147, ins (zL ((fu Z hm9 (ka84, va84, La84, Lb84, fa84, ga84, ins (zL (Z hm9)) key v)) (pT rows F))) key v), mm, rows, F, Gn, C), rfl, by
                        (try dsimp only)
                        subst ehm
                        refine ⟨?_, ⟨hci.1, hci.2.1, by first | exact hzsA147 | exact hzsA84 | exact hzs⟩, ?_⟩
                        · unfold putF
                          rw [if_neg (fun q => q w1), if_neg hfull]
                          first | (rw [if_pos hlf]; rfl) | (rw [if_neg hlf]; first | (rw [if_pos hcp]; (first | rw [if_pos (show hs ((stZ Z) (homeF mm rows F key)) key = true from hyes)] | rw [if_neg (show ¬ hs ((stZ Z) (homeF mm rows F key)) key = true from hno)]); simp only [sgu, stZ_fu, zL_fu]; rfl) | (rw [if_neg (fun q => q hcp)]; first | (rw [if_pos hl2]; simp only [sgu, stZ_fu, zL_fu]; rfl) | (rw [if_neg hl2]; (first | rw [if_pos (show hs ((stZ Z) (homeF mm rows F key)) key = true from hyes)] | rw [if_neg (show ¬ hs ((stZ Z) (homeF mm rows F key)) key = true from hno)]); simp only [sgu, stZ_fu, zL_fu]; rfl)))
                        · first | exact (if_pos (Or.inl hlf)).symm | (rw [if_pos (Or.inr (show hs (stZ Z (homeF mm rows F key)) key = true from hyes))]; exact Int32.add_zero th) | (rw [if_neg (fun q => q.elim hlf (show ¬ hs (stZ Z (homeF mm rows F key)) key = true from hno))]; rfl), ⟨by (try dsimp only); rw [ht2]; exact hP, by exact hD⟩⟩, hS.F ht2⟩) hS.2.2 dX4_put_160
              · have hl2 : wLeft left = 0 := wOk_n (by rw [← w122]; exact c125)
                rw [show wOff (wLeft left) off = 1 from if_pos hl2, wLeft_z hl2, show wInc (wLeft left) (wr + 1) = wr + 1 from if_pos hl2] at hP hD
                refine lv_bipush (v := (-9)) hx hb dX4_put_128 (by decide) ?_
                refine vx_ret ?_
                refine W.widen (k := 6) (n := 8300) (Nat.le_of_ble_eq_true rfl) (Nat.le_of_ble_eq_true rfl) ?_
                exact W.iret (v := (-9)) hx hb hr (fun t ht2 hW => ⟨⟨(-9), (pa, no, pts, rf, rg, RL, pk, ps, pt, L, p1, p2, p3, op, 1, wLeft left, wr + 1, rc, th + 1, fu Z hm9 (ka84, va84, La84, Lb84, fa84, ga84, ins (zL (Z hm9)) key v), mm, rows, F, Gn, C), rfl, by
                      (try dsimp only)
                      subst ehm
                      refine ⟨?_, ⟨hci.1, hci.2.1, by first | exact hzsA147 | exact hzsA84 | exact hzs⟩, ?_⟩
                      · unfold putF
                        rw [if_neg (fun q => q w1), if_neg hfull]
                        first | (rw [if_pos hlf]; rfl) | (rw [if_neg hlf]; first | (rw [if_pos hcp]; (first | rw [if_pos (show hs ((stZ Z) (homeF mm rows F key)) key = true from hyes)] | rw [if_neg (show ¬ hs ((stZ Z) (homeF mm rows F key)) key = true from hno)]); simp only [sgu, stZ_fu, zL_fu]; rfl) | (rw [if_neg (fun q => q hcp)]; first | (rw [if_pos hl2]; simp only [sgu, stZ_fu, zL_fu]; rfl) | (rw [if_neg hl2]; (first | rw [if_pos (show hs ((stZ Z) (homeF mm rows F key)) key = true from hyes)] | rw [if_neg (show ¬ hs ((stZ Z) (homeF mm rows F key)) key = true from hno)]); simp only [sgu, stZ_fu, zL_fu]; rfl)))
                      · first | exact (if_pos (Or.inl hlf)).symm | (rw [if_pos (Or.inr (show hs (stZ Z (homeF mm rows F key)) key = true from hyes))]; exact Int32.add_zero th) | (rw [if_neg (fun q => q.elim hlf (show ¬ hs (stZ Z (homeF mm rows F key)) key = true from hno))]; rfl), ⟨by (try dsimp only); rw [ht2]; exact hP, by exact hD⟩⟩, hS.F ht2⟩) hS.2.2 dX4_put_130
        · have hlf : left = 0 := wOk_n (by rw [← w71]; exact c74)
          rw [show wOff left off = 1 from if_pos hlf, wLeft_z hlf, show wInc left wr = wr from if_pos hlf] at hP hD
          refine lv_bipush (v := (-9)) hx hb dX4_put_77 (by decide) ?_
          refine vx_ret ?_
          refine W.widen (k := 6) (n := 8300) (Nat.le_of_ble_eq_true rfl) (Nat.le_of_ble_eq_true rfl) ?_
          exact W.iret (v := (-9)) hx hb hr (fun t ht2 hW => ⟨⟨(-9), (pa, no, pts, rf, rg, RL, pk, ps, pt, L, p1, p2, p3, op, 1, left, wr, rc, th, Z, mm, rows, F, Gn, C), rfl, by
                (try dsimp only)
                subst ehm
                refine ⟨?_, ⟨hci.1, hci.2.1, by first | exact hzsA147 | exact hzsA84 | exact hzs⟩, ?_⟩
                · unfold putF
                  rw [if_neg (fun q => q w1), if_neg hfull]
                  first | (rw [if_pos hlf]; rfl) | (rw [if_neg hlf]; first | (rw [if_pos hcp]; (first | rw [if_pos (show hs ((stZ Z) (homeF mm rows F key)) key = true from hyes)] | rw [if_neg (show ¬ hs ((stZ Z) (homeF mm rows F key)) key = true from hno)]); simp only [sgu, stZ_fu, zL_fu]; rfl) | (rw [if_neg (fun q => q hcp)]; first | (rw [if_pos hl2]; simp only [sgu, stZ_fu, zL_fu]; rfl) | (rw [if_neg hl2]; (first | rw [if_pos (show hs ((stZ Z) (homeF mm rows F key)) key = true from hyes)] | rw [if_neg (show ¬ hs ((stZ Z) (homeF mm rows F key)) key = true from hno)]); simp only [sgu, stZ_fu, zL_fu]; rfl)))
                · first | exact (if_pos (Or.inl hlf)).symm | (rw [if_pos (Or.inr (show hs (stZ Z (homeF mm rows F key)) key = true from hyes))]; exact Int32.add_zero th) | (rw [if_neg (fun q => q.elim hlf (show ¬ hs (stZ Z (homeF mm rows F key)) key = true from hno))]; rfl), ⟨by (try dsimp only); rw [ht2]; exact hP, by exact hD⟩⟩, hS.F ht2⟩) hS.2.2 dX4_put_79
      · have hbg : 256 ≤ thF (stZ Z) (homeF mm rows F) := by
          rcases Nat.lt_or_ge (thF (stZ Z) (homeF mm rows F)) 256 with q | q
          · rw [hth] at c54; exact absurd (nI_lt q (by decide)) c54
          · exact q
        have hxo := fun (t : State) h1 h2 => xout (t := t) hP hS h1 h2
        exact vx_throwS (names := xNames) (is := 70) (text := "256 other keys are there") (A := A) hx hb hl0 hown (by decide +kernel) xf_n (ht _ kw1_219) (ht _ kw1_15) (hTX.2.2 (70, "256 other keys are there") (by decide)).choose_spec (fun w h => ht w (xt_72 w h)) xg_72 hTX.1 hTX.2.1 hS (hl.1.trans hml.symm) dX4_put_57 dX4_put_60 dX4_put_61 dX4_put_63 dX4_put_66 (fun x hx => (hnt x hx).elim) (Nat.le_of_ble_eq_true rfl) (Nat.le_of_ble_eq_true rfl) (Nat.le_of_ble_eq_true rfl) (Nat.le_of_ble_eq_true rfl) hlocks (fun t hvm h1 h2 => ⟨(), trivial, ⟨⟨rfl, by subst ehm; unfold putF; rw [if_neg (fun q => q w1), if_pos ⟨hno, hbg⟩]⟩, (hxo t h1 h2).1⟩, (hxo t h1 h2).2⟩) hS.2.2 (Nat.le_of_ble_eq_true rfl) (Nat.le_of_ble_eq_true rfl)

set_option maxHeartbeats 4000000 in
set_option maxRecDepth 100000 in
theorem c_X4_remove (l : Launch) (hl0 : l.stackTraces = false) (D : va_G) (cI cZ cS cJ : ClassId) (sz : Nat) (G SA : Nat → Nat) (sf : Nat → Option Nat) (hsf : ∀ n, n < 8 → sf n = some (SA n)) (pa no : Nat) (pts rf rg : Nat → Int32) (RL : List (Int32 × Int32)) (pk ps pt L : Nat) (p1 p2 p3 : Nat → Int32) (op off left wr rc th : Int32) (Z : Nat → ST) (mm : Nat → Nat) (rows : List (Int32 × Nat × Nat)) (F Gn : Nat) (C : Bool) (hci : CI mm RL pts rf rg rows L p1 p2 p3 F Gn Z) (key : Int32) : vx_Met l yX4_remove (Cond.code yX4_remove cX4_remove 4 (some .int) :: TB) ({ frames := 7, cells := 6, slots := 8300, locals := 110 } : Room) (va_Pc [.ref (G 0), .int key] (PX D (KT cI cZ cS cJ) (cW cI cS G SA sf pa no pts rf rg (nI RL.length) pk ps pt L p1 p2 p3 (nI rows.length) op (nI F) (nI Gn) (cB C) off left wr rc th Z) sz)) (va_Qi (fun r (u : CT) => remF off left wr rc (stZ Z) mm op rows F Gn C key = (0, r, sgu u) ∧ CIu u ∧ thu u = if left = 0 ∨ ¬ hs (stZ Z (homeF mm rows F key)) key = true then th else th - 1) (fun (u : CT) t => va_P D vwCl (cWu cI cS G SA sf u) t.heap ∧ va_D (va_A (cW cI cS G SA sf pa no pts rf rg (nI RL.length) pk ps pt L p1 p2 p3 (nI rows.length) op (nI F) (nI Gn) (cB C) off left wr rc th Z) sz) (cWu cI cS G SA sf u)) (va_A (cW cI cS G SA sf pa no pts rf rg (nI RL.length) pk ps pt L p1 p2 p3 (nI rows.length) op (nI F) (nI Gn) (cB C) off left wr rc th Z) sz)) (vx_X (fun (_ : Unit) => True) (fun E (_ : Unit) t => (fun E => E = cISE ∧ (remF off left wr rc (stZ Z) mm op rows F Gn C key).1 = 1) E ∧ va_P D vwCl (cW cI cS G SA sf pa no pts rf rg (nI RL.length) pk ps pt L p1 p2 p3 (nI rows.length) op (nI F) (nI Gn) (cB C) off left wr rc th Z) t.heap) (va_A (cW cI cS G SA sf pa no pts rf rg (nI RL.length) pk ps pt L p1 p2 p3 (nI rows.length) op (nI F) (nI Gn) (cB C) off left wr rc th Z) sz)) 6 8300 (va_A (cW cI cS G SA sf pa no pts rf rg (nI RL.length) pk ps pt L p1 p2 p3 (nI rows.length) op (nI F) (nI Gn) (cB C) off left wr rc th Z) sz) := by
  refine vx_ofW (cc := cX4_remove) (maxL := 4) (ret := (some .int)) (by decide) rfl ?_
  intro p e s m args below meth c s₁ B hml hnt hv
  obtain ⟨rfl, ⟨hsz, hP, hK, hD0⟩, hTX⟩ := hv
  have hx := B.exec
  have hb := B.bytes
  have hr := B.returns
  have hts := atoms_spec (ws := (Cond.code yX4_remove cX4_remove 4 (some .int) :: TB)) B.pre
  have ht : ∀ w ∈ TB, w.before _ s = true := fun w h => hts w (List.mem_cons_of_mem _ h)
  have hown : s.vm.findClass RX4 = some m.cls := findClass_of_methodNamed B.named
  have hlocks := B.notSynchronized
  subst hsz
  have hD := hD0.self (sz := s.heap.size)
  generalize hAe : va_A (cW cI cS G SA sf pa no pts rf rg (nI RL.length) pk ps pt L p1 p2 p3 (nI rows.length) op (nI F) (nI Gn) (cB C) off left wr rc th Z) s.heap.size = A at hD hTX ⊢
  have hA : ∀ q : Nat, s.heap.size ≤ q → A q := fun q h => by rw [← hAe]; exact Or.inr h
  have hS : va_S A s.heap s.heap [] := va_S.rf
  have hP : va_P D vwCl (cW cI cS G SA sf pa no pts rf rg (nI RL.length) pk ps pt L p1 p2 p3 (nI rows.length) op (nI F) (nI Gn) (cB C) off left wr rc th Z) s.heap := hP
  have hl := lv_entry ([.ref (G 0), .int key]) (n := 4) (Nat.le_of_ble_eq_true rfl)
  rw [lg_entry_eq]
  generalize (lg_sl ([.ref (G 0), .int key]) ++ List.replicate (4 - (lg_sl ([.ref (G 0), .int key])).length) Slot.unset).toArray = ls at hl ⊢
  have hl : lv_has ls 4 [(0, .ref (G 0)), (1, .int key)] := hl
  obtain ⟨⟨hrr, hrg, h16, hM⟩, ⟨hpr, h32, hrl, hF9, hG9, hsr, hp8⟩, hzs⟩ := id hci
  refine lv_aload_n hx hb dX4_remove_0 rfl (lv_at hl 0 rfl) ?_
  have hPc := hP.sub (ws' := [((G 0), .inr (4, [.ref (G 1), .ref (G 3), .ref (G 4), .ref (G 5), .int th])), ((G 5), .inr (1, [.int off, .int left, .int wr, .int rc]))]) [0, 10] rfl
  have hDc := hD.sub (ws' := [((G 0), .inr (4, [.ref (G 1), .ref (G 3), .ref (G 4), .ref (G 5), .int th])), ((G 5), .inr (1, [.int off, .int left, .int wr, .int rc]))]) [0, 10] (by decide) rfl
  have hFc := va_free (wc := [((G 0), .inr (4, [.ref (G 1), .ref (G 3), .ref (G 4), .ref (G 5), .int th])), ((G 5), .inr (1, [.int off, .int left, .int wr, .int rc]))]) hD hS hA [0, 10] rfl
  refine vx_callv (vx_runV (As := []) (rest := []) ⟨hx, hb, hml, hown, ht⟩ (c_X4_needPower l hl0 D cI cZ cS cJ s.heap.size G off left wr rc th) (xwV 0 ht kw1_218 kw1_215 kw1_1 kw1_217 kwS_1 rfl rfl (by decide +kernel) ⟨Nat.le_of_ble_eq_true rfl, Nat.le_of_ble_eq_true rfl⟩) ⟨PX.blind, va_recv hK hPc (ci := 4) (q0 := 0) rfl rfl, fun U hU hW => PX.mk hU hW hPc hK hDc hS hFc hTX⟩ rfl rfl hl.1 rfl (lv_room (Nat.le_of_ble_eq_true rfl)) dX4_remove_1 ⟨Nat.le_of_ble_eq_true rfl, Nat.le_of_ble_eq_true rfl⟩) hS (fun q _ h => hFc q h) hFc (fun q _ h => hFc q h) (fun E ce q9 u t9 H1 locs ht1 hvm _ hBX hz1 hk1 hS hce hcv hcl => ?_) (fun u1 t1 H1 locs ht1 hvm w1 hB hz1 hk1 hS => ?_)
  · obtain ⟨hXE, hBX⟩ := hBX
    rw [ht1] at hBX
    have hP := wk_ro hP hD [0, 10] rfl hk1 hBX
    exact vx_out (fun x hx => (hnt x hx).elim) hlocks hce hcv hcl (fun t ht9 _ => ⟨(), trivial, ⟨⟨hXE.1, by unfold remF; rw [if_pos hXE.2]⟩, by rw [ht9]; exact hP⟩, hS.F ht9⟩) hS.2.2 (Nat.le_of_ble_eq_true rfl) (Nat.le_of_ble_eq_true rfl)
  try dsimp only at w1 hB
  rw [ht1] at hB
  have hP := wk_ro hP hD [0, 10] rfl hk1 hB
  generalize H1 = H at hP hS ⊢
  refine lv_aload_n hx hb dX4_remove_4 rfl (lv_at hl 0 rfl) ?_
  refine va_get (D := D) (ci := 4) (v := .ref (G 4)) (C := RX4) (T := TX4) (N := 5) hx hb ht inX4 hown hK hP 0 (rfl) rfl 2 (by decide) (ht _ kw1_177) (fun _ h9 => h9) rfl dX4_remove_5 ?_
  refine lv_iload_n hx hb dX4_remove_8 rfl (lv_at hl 1 rfl) ?_
  have hPc := hP.sub (ws' := [((G 4), .inr (0, [.ref pk, .ref ps, .ref pt, .int (nI rows.length), .int op, .int (nI F), .int (nI Gn), .int (cB C)])), (pk, .inl (cI, L, .inl p1)), (ps, .inl (cI, L, .inl p2)), (pt, .inl (cI, L, .inl p3))]) [6, 7, 8, 9] rfl
  have hDc := hD.sub (ws' := [((G 4), .inr (0, [.ref pk, .ref ps, .ref pt, .int (nI rows.length), .int op, .int (nI F), .int (nI Gn), .int (cB C)])), (pk, .inl (cI, L, .inl p1)), (ps, .inl (cI, L, .inl p2)), (pt, .inl (cI, L, .inl p3))]) [6, 7, 8, 9] (by decide) rfl
  have hFc := va_free (wc := [((G 4), .inr (0, [.ref pk, .ref ps, .ref pt, .int (nI rows.length), .int op, .int (nI F), .int (nI Gn), .int (cB C)])), (pk, .inl (cI, L, .inl p1)), (ps, .inl (cI, L, .inl p2)), (pt, .inl (cI, L, .inl p3))]) hD hS hA [6, 7, 8, 9] rfl
  refine va_calli (va_runVN (As := [.int key]) (rest := []) ⟨hx, hb, hml, hown, ht⟩ (c_X0_rowOf l D cI cZ cS cJ H.size (G 4) pk ps pt L p1 p2 p3 op rows F Gn C hpr hrl hF9 hG9 hsr key) ⟨xwN 1 ht kw2_51 kw2_48 kw1_4 rfl rfl (by decide +kernel) ⟨Nat.le_of_ble_eq_true rfl, Nat.le_of_ble_eq_true rfl⟩, ht _ kw2_50, ht _ kwS_3⟩ ⟨PB.blind, va_recv hK hPc (ci := 0) (q0 := 0) rfl rfl, fun U hU hW => PB.mk hU hW hPc hK hDc⟩ rfl rfl hl.1 rfl (lv_room (Nat.le_of_ble_eq_true rfl)) dX4_remove_9 ⟨Nat.le_of_ble_eq_true rfl, Nat.le_of_ble_eq_true rfl⟩) hS (fun q _ h => hFc q h) hFc (fun r9 u9 t9 H1 locs ht1 hvm w9 hB hz1 hk1 hS => ?_)
  try dsimp only at w9 hB
  rw [ht1] at hB
  have hP := wk_ro hP hD [6, 7, 8, 9] rfl hk1 hB
  generalize H1 = H at hP hS ⊢
  have w9 := w9.symm
  subst w9
  refine lv_istore_n (lv' := [(2, .int (rowI rows key)), (0, .ref (G 0)), (1, .int key)]) hx hb dX4_remove_12 rfl hl (by decide) rfl (fun ls hl => ?_)
  refine lv_aload_n hx hb dX4_remove_13 rfl (lv_at hl 1 rfl) ?_
  refine va_get (D := D) (ci := 4) (v := .ref (G 3)) (C := RX4) (T := TX4) (N := 5) hx hb ht inX4 hown hK hP 0 (rfl) rfl 1 (by decide) (ht _ kw1_176) (fun _ h9 => h9) rfl dX4_remove_14 ?_
  refine lv_aload_n hx hb dX4_remove_17 rfl (lv_at hl 1 rfl) ?_
  refine lv_iload_n hx hb dX4_remove_18 rfl (lv_at hl 0 rfl) ?_
  refine lv_iload_n hx hb dX4_remove_19 rfl (lv_at hl 2 rfl) ?_
  obtain ⟨hm9, ehm⟩ : ∃ x, x = homeF mm rows F key := ⟨_, rfl⟩
  have hlt9 : hm9 < 8 := by rw [ehm]; exact homeF_lt hM hp8
  have hPc := hP
  have hDc := hD
  have hFc := wfree hD hS hA
  refine va_calli (va_runV (As := [.int (rowI rows key), .int key]) (rest := [.ref (G 3)]) ⟨hx, hb, hml, hown, ht⟩ (c_X4_homeAt l D cI cZ cS cJ H.size G SA sf hsf pa no pts rf rg RL pk ps pt L p1 p2 p3 op off left wr rc th Z mm rows F Gn C hci key) (xwV 2 ht kw2_56 kw2_53 kw1_1 kw2_55 kwS_4 rfl rfl (by decide +kernel) ⟨Nat.le_of_ble_eq_true rfl, Nat.le_of_ble_eq_true rfl⟩) ⟨PB.blind, va_recv hK hPc (ci := 4) (q0 := 0) rfl rfl, fun U hU hW => PB.mk hU hW hPc hK hDc⟩ rfl rfl hl.1 rfl (lv_room (Nat.le_of_ble_eq_true rfl)) dX4_remove_20 ⟨Nat.le_of_ble_eq_true rfl, Nat.le_of_ble_eq_true rfl⟩) hS (fun q _ h => hFc q h) hFc (fun r20 u20 t20 H1 locs ht1 hvm w20 hB hz1 hk1 hS => ?_)
  try dsimp only at w20 hB
  rw [ht1] at hB
  have hP := hB
  generalize H1 = H at hP hS ⊢
  rw [← ehm] at w20
  subst w20
  refine ya_aldq hx hb hK hP 5 2 rfl rfl hm9 (rfl) (hlt9) (by decide) (v := SA hm9) (hsf hm9 hlt9) dX4_remove_23 ?_
  refine lv_astore_n (lv' := [(3, .ref (SA hm9)), (2, .int (rowI rows key)), (0, .ref (G 0)), (1, .int key)]) hx hb dX4_remove_24 rfl hl (by decide) rfl (fun ls hl => ?_)
  refine lv_aload_n hx hb dX4_remove_25 rfl (lv_at hl 0 rfl) ?_
  refine lv_iload_n hx hb dX4_remove_26 rfl (lv_at hl 3 rfl) ?_
  have hPc := hP.sub (ws' := stE cI (SA hm9) (Z hm9)) [11 + 3 * hm9, 12 + 3 * hm9, 13 + 3 * hm9] (st_fm (hlt9))
  have hDc := hD.sub (ws' := stE cI (SA hm9) (Z hm9)) [11 + 3 * hm9, 12 + 3 * hm9, 13 + 3 * hm9] (st_nd _) (st_map (hlt9))
  have hFc := va_free (wc := stE cI (SA hm9) (Z hm9)) hD hS hA [11 + 3 * hm9, 12 + 3 * hm9, 13 + 3 * hm9] (st_map (hlt9))
  refine va_calli (va_runVN (As := [.int key]) (rest := []) ⟨hx, hb, hml, hown, ht⟩ (c_X3_has l D cI cZ cS cJ H.size (SA hm9) (zK (Z hm9)) (zV (Z hm9)) (zL1 (Z hm9)) (zL2 (Z hm9)) (zF (Z hm9)) (zG (Z hm9)) (zL (Z hm9)) (hzs _ (hlt9)).1 (hzs _ (hlt9)).2.1 (hzs _ (hlt9)).2.2 key) ⟨xwN 1 ht kw2_68 kw2_65 kw1_6 rfl rfl (by decide +kernel) ⟨Nat.le_of_ble_eq_true rfl, Nat.le_of_ble_eq_true rfl⟩, ht _ kw2_67, ht _ kwS_7⟩ ⟨PB.blind, va_recv hK hPc (ci := 3) (q0 := 0) rfl rfl, fun U hU hW => PB.mk hU hW hPc hK hDc⟩ rfl rfl hl.1 rfl (lv_room (Nat.le_of_ble_eq_true rfl)) dX4_remove_27 ⟨Nat.le_of_ble_eq_true rfl, Nat.le_of_ble_eq_true rfl⟩) hS (fun q _ h => hFc q h) hFc (fun r27 u27 t27 H1 locs ht1 hvm w27 hB hz1 hk1 hS => ?_)
  try dsimp only at w27 hB
  rw [ht1] at hB
  have hP := wk_ro hP hD [11 + 3 * hm9, 12 + 3 * hm9, 13 + 3 * hm9] (st_map (hlt9)) hk1 hB
  generalize H1 = H at hP hS ⊢
  refine lv_if_ne (tgt := 35) hx hb dX4_remove_30 (by decide) (fun c30 => ?_) (fun c30 => ?_)
  · have hyes : hs (zL (Z hm9)) key = true := Decidable.byContradiction (fun q => c30 (by rw [w27, if_neg q]))
    refine lv_aload_n hx hb dX4_remove_35 rfl (lv_at hl 2 rfl) ?_
    refine va_get (D := D) (ci := 4) (v := .ref (G 5)) (C := RX4) (T := TX4) (N := 5) hx hb ht inX4 hown hK hP 0 (rfl) rfl 3 (by decide) (ht _ kw1_178) (fun _ h9 => h9) rfl dX4_remove_36 ?_
    have hPc := hP.sub (ws' := [((G 5), .inr (1, [.int off, .int left, .int wr, .int rc]))]) [10] rfl
    have hDc := hD.sub (ws' := [((G 5), .inr (1, [.int off, .int left, .int wr, .int rc]))]) [10] (by decide) rfl
    have hFc := va_free (wc := [((G 5), .inr (1, [.int off, .int left, .int wr, .int rc]))]) hD hS hA [10] rfl
    refine va_calli (va_runVN (As := []) (rest := []) ⟨hx, hb, hml, hown, ht⟩ (c_X1_lastsForWrite l D cI cZ cS cJ H.size (G 5) off left wr rc) ⟨xwN 0 ht kw2_78 kw2_75 kw1_5 rfl rfl (by decide +kernel) ⟨Nat.le_of_ble_eq_true rfl, Nat.le_of_ble_eq_true rfl⟩, ht _ kw2_77, ht _ kwS_9⟩ ⟨PB.blind, va_recv hK hPc (ci := 1) (q0 := 0) rfl rfl, fun U hU hW => PB.mk hU hW hPc hK hDc⟩ rfl rfl hl.1 rfl (lv_room (Nat.le_of_ble_eq_true rfl)) dX4_remove_39 ⟨Nat.le_of_ble_eq_true rfl, Nat.le_of_ble_eq_true rfl⟩) hS (fun q _ h => hFc q h) hFc (fun r39 u39 t39 H1 locs ht1 hvm w39 hB hz1 hk1 hS => ?_)
    try dsimp only at w39 hB
    obtain ⟨hP1, hD1⟩ := hB
    rw [ht1] at hP1
    obtain ⟨hP, hD⟩ := wk_join (w1 := [((G 5), .inr (1, [.int (wOff left off), .int (wLeft left), .int (wInc left wr), .int rc]))]) hP hD [10] rfl (by decide) rfl hk1 hFc hP1 hD1
    generalize H1 = H at hP hS ⊢
    have hP : va_P D vwCl (cW cI cS G SA sf pa no pts rf rg (nI RL.length) pk ps pt L p1 p2 p3 (nI rows.length) op (nI F) (nI Gn) (cB C) (wOff left off) (wLeft left) (wInc left wr) rc th Z) H := hP
    have hD : va_D A (cW cI cS G SA sf pa no pts rf rg (nI RL.length) pk ps pt L p1 p2 p3 (nI rows.length) op (nI F) (nI Gn) (cB C) (wOff left off) (wLeft left) (wInc left wr) rc th Z) := hD
    refine lv_if_ne (tgt := 48) hx hb dX4_remove_42 (by decide) (fun c42 => ?_) (fun c42 => ?_)
    · have hlf : ¬ left = 0 := wOk_y (by rw [← w39]; exact c42)
      rw [show wOff left off = off from if_neg hlf, show wInc left wr = wr + 1 from if_neg hlf] at hP hD
      refine lv_aload_n hx hb dX4_remove_48 rfl (lv_at hl 0 rfl) ?_
      refine lv_iload_n hx hb dX4_remove_49 rfl (lv_at hl 3 rfl) ?_
      skip
      have hPc := hP.sub (ws' := stE cI (SA hm9) (Z hm9)) [11 + 3 * hm9, 12 + 3 * hm9, 13 + 3 * hm9] (st_fm (hlt9))
      have hDc := hD.sub (ws' := stE cI (SA hm9) (Z hm9)) [11 + 3 * hm9, 12 + 3 * hm9, 13 + 3 * hm9] (st_nd _) (st_map (hlt9))
      have hFc := va_free (wc := stE cI (SA hm9) (Z hm9)) hD hS hA [11 + 3 * hm9, 12 + 3 * hm9, 13 + 3 * hm9] (st_map (hlt9))
      refine va_callv (va_runVN (As := [.int key]) (rest := []) ⟨hx, hb, hml, hown, ht⟩ (c_X3_drop l D cI cZ cS cJ H.size (SA hm9) (zK (Z hm9)) (zV (Z hm9)) (zL1 (Z hm9)) (zL2 (Z hm9)) (zF (Z hm9)) (zG (Z hm9)) (zL (Z hm9)) (hzs _ (hlt9)).1 (hzs _ (hlt9)).2.1 (hzs _ (hlt9)).2.2 key) ⟨xwN 1 ht kw2_94 kw2_91 kw1_6 rfl rfl (by decide +kernel) ⟨Nat.le_of_ble_eq_true rfl, Nat.le_of_ble_eq_true rfl⟩, ht _ kw2_93, ht _ kwS_11⟩ ⟨PB.blind, va_recv hK hPc (ci := 3) (q0 := 0) rfl rfl, fun U hU hW => PB.mk hU hW hPc hK hDc⟩ rfl rfl hl.1 rfl (lv_room (Nat.le_of_ble_eq_true rfl)) dX4_remove_50 ⟨Nat.le_of_ble_eq_true rfl, Nat.le_of_ble_eq_true rfl⟩) hS (fun q _ h => hFc q h) hFc (fun u50 t50 H1 locs ht1 hvm w50 hB hz1 hk1 hS => ?_)
      try dsimp only at w50 hB
      obtain ⟨fa50, ga50⟩ := u50
      dsimp only at w50 hB
      obtain ⟨hP1, hD1⟩ := hB
      rw [ht1] at hP1
      obtain ⟨hP, hD⟩ := wk_join (w1 := stE cI (SA hm9) (zK (Z hm9), zV (Z hm9), zL1 (Z hm9), zL2 (Z hm9), fa50, ga50, del (zL (Z hm9)) key)) hP hD [11 + 3 * hm9, 12 + 3 * hm9, 13 + 3 * hm9] (st_map (hlt9)) (st_nd _) rfl hk1 hFc hP1 hD1
      rw [st_put (hlt9)] at hP hD
      have hzsA50 : ZS (fu Z hm9 (zK (Z hm9), zV (Z hm9), zL1 (Z hm9), zL2 (Z hm9), fa50, ga50, del (zL (Z hm9)) key)) := zs_del hzs (hlt9) w50
      generalize H1 = H at hP hS ⊢
      have hP : va_P D vwCl (cW cI cS G SA sf pa no pts rf rg (nI RL.length) pk ps pt L p1 p2 p3 (nI rows.length) op (nI F) (nI Gn) (cB C) off (wLeft left) (wr + 1) rc th (fu Z hm9 (zK (Z hm9), zV (Z hm9), zL1 (Z hm9), zL2 (Z hm9), fa50, ga50, del (zL (Z hm9)) key))) H := hP
      have hD : va_D A (cW cI cS G SA sf pa no pts rf rg (nI RL.length) pk ps pt L p1 p2 p3 (nI rows.length) op (nI F) (nI Gn) (cB C) off (wLeft left) (wr + 1) rc th (fu Z hm9 (zK (Z hm9), zV (Z hm9), zL1 (Z hm9), zL2 (Z hm9), fa50, ga50, del (zL (Z hm9)) key))) := hD
      refine lv_aload_n hx hb dX4_remove_53 rfl (lv_at hl 2 rfl) ?_
      refine lv_dup hx hb dX4_remove_54 rfl ?_
      refine va_get (D := D) (ci := 4) (v := .int th) (C := RX4) (T := TX4) (N := 5) hx hb ht inX4 hown hK hP 0 (rfl) rfl 4 (by decide) (ht _ kw1_179) (fun _ h9 => h9) rfl dX4_remove_55 ?_
      refine lv_iconst (v := 1) hx hb dX4_remove_58 (by decide) ?_
      refine lv_isub hx hb dX4_remove_59 ?_
      refine va_put (D := D) (ci := 4) (v := .int (th - 1)) (ty := .int) (C := RX4) (T := TX4) (N := 5) hx hb ht inX4 tyX4 tyX4_ok nmX4 hown hK hP hD hS 0 rfl rfl 4 (by decide) (ht _ kw1_179) (fun _ h9 => h9) rfl (by decide +kernel) (rfl) rfl (Nat.le_of_ble_eq_true rfl) dX4_remove_60 (fun H locs hP hD hS => ?_)
      have hP : va_P D vwCl (cW cI cS G SA sf pa no pts rf rg (nI RL.length) pk ps pt L p1 p2 p3 (nI rows.length) op (nI F) (nI Gn) (cB C) off (wLeft left) (wr + 1) rc (th - 1) (fu Z hm9 (zK (Z hm9), zV (Z hm9), zL1 (Z hm9), zL2 (Z hm9), fa50, ga50, del (zL (Z hm9)) key))) H := hP
      have hD : va_D A (cW cI cS G SA sf pa no pts rf rg (nI RL.length) pk ps pt L p1 p2 p3 (nI rows.length) op (nI F) (nI Gn) (cB C) off (wLeft left) (wr + 1) rc (th - 1) (fu Z hm9 (zK (Z hm9), zV (Z hm9), zL1 (Z hm9), zL2 (Z hm9), fa50, ga50, del (zL (Z hm9)) key))) := hD
      refine lv_aload_n hx hb dX4_remove_63 rfl (lv_at hl 2 rfl) ?_
      refine va_get (D := D) (ci := 4) (v := .ref (G 4)) (C := RX4) (T := TX4) (N := 5) hx hb ht inX4 hown hK hP 0 (rfl) rfl 2 (by decide) (ht _ kw1_177) (fun _ h9 => h9) rfl dX4_remove_64 ?_
      refine lv_iload_n hx hb dX4_remove_67 rfl (lv_at hl 1 rfl) ?_
      have hPc := hP.sub (ws' := [((G 4), .inr (0, [.ref pk, .ref ps, .ref pt, .int (nI rows.length), .int op, .int (nI F), .int (nI Gn), .int (cB C)])), (pk, .inl (cI, L, .inl p1)), (ps, .inl (cI, L, .inl p2)), (pt, .inl (cI, L, .inl p3))]) [6, 7, 8, 9] rfl
      have hDc := hD.sub (ws' := [((G 4), .inr (0, [.ref pk, .ref ps, .ref pt, .int (nI rows.length), .int op, .int (nI F), .int (nI Gn), .int (cB C)])), (pk, .inl (cI, L, .inl p1)), (ps, .inl (cI, L, .inl p2)), (pt, .inl (cI, L, .inl p3))]) [6, 7, 8, 9] (by decide) rfl
      have hFc := va_free (wc := [((G 4), .inr (0, [.ref pk, .ref ps, .ref pt, .int (nI rows.length), .int op, .int (nI F), .int (nI Gn), .int (cB C)])), (pk, .inl (cI, L, .inl p1)), (ps, .inl (cI, L, .inl p2)), (pt, .inl (cI, L, .inl p3))]) hD hS hA [6, 7, 8, 9] rfl
      refine va_calli (va_runVN (As := [.int (rowI rows key)]) (rest := []) ⟨hx, hb, hml, hown, ht⟩ (c_X0_stateAt l D cI cZ cS cJ H.size (G 4) pk ps pt L p1 p2 p3 op rows F Gn C hpr hrl hF9 hG9 (rowI rows key)) ⟨xwN 1 ht kw2_60 kw2_57 kw1_4 rfl rfl (by decide +kernel) ⟨Nat.le_of_ble_eq_true rfl, Nat.le_of_ble_eq_true rfl⟩, ht _ kw2_59, ht _ kwS_5⟩ ⟨PB.blind, va_recv hK hPc (ci := 0) (q0 := 0) rfl rfl, fun U hU hW => PB.mk hU hW hPc hK hDc⟩ rfl rfl hl.1 rfl (lv_room (Nat.le_of_ble_eq_true rfl)) dX4_remove_68 ⟨Nat.le_of_ble_eq_true rfl, Nat.le_of_ble_eq_true rfl⟩) hS (fun q _ h => hFc q h) hFc (fun r68 u68 t68 H1 locs ht1 hvm w68 hB hz1 hk1 hS => ?_)
      try dsimp only at w68 hB
      rw [ht1] at hB
      have hP := wk_ro hP hD [6, 7, 8, 9] rfl hk1 hB
      generalize H1 = H at hP hS ⊢
      rw [staAt_eq hrl] at w68
      refine lv_iconst (v := 2) hx hb dX4_remove_71 (by decide) ?_
      refine lv_icmp_ne (tgt := 106) hx hb dX4_remove_72 (by decide) (fun c72 => ?_) (fun c72 => ?_)
      · have hcp : ¬ cpd rows F C key = true := fun q => by
          obtain ⟨q1, q2, q3⟩ := cpd_iff.mp q
          exact c72 (by rw [w68, if_pos q1]; exact sta_2.mpr ⟨q2, q3⟩)
        refine lv_iconst (v := 1) hx hb dX4_remove_106 (by decide) ?_
        refine vx_ret ?_
        refine W.widen (k := 6) (n := 8300) (Nat.le_of_ble_eq_true rfl) (Nat.le_of_ble_eq_true rfl) ?_
        exact W.iret (v := 1) hx hb hr (fun t ht2 hW => ⟨⟨1, (pa, no, pts, rf, rg, RL, pk, ps, pt, L, p1, p2, p3, op, off, wLeft left, wr + 1, rc, th - 1, fu Z hm9 (zK (Z hm9), zV (Z hm9), zL1 (Z hm9), zL2 (Z hm9), fa50, ga50, del (zL (Z hm9)) key), mm, rows, F, Gn, C), rfl, by
              (try dsimp only)
              subst ehm
              refine ⟨?_, ⟨hci.1, hci.2.1, by first | exact hzsA103 | exact hzsA50 | exact hzs⟩, ?_⟩
              · unfold remF
                rw [if_neg (fun q => q w1)]
                first | (rw [if_pos (show ¬ hs ((stZ Z) (homeF mm rows F key)) key = true from hno)]; rfl) | (rw [if_neg (fun q => q (show hs ((stZ Z) (homeF mm rows F key)) key = true from hyes))]; first | (rw [if_pos hlf]; rfl) | (rw [if_neg hlf]; first | (rw [if_pos hcp]; simp only [sgu, stZ_fu, zL_fu]; rfl) | (rw [if_neg (fun q => q hcp)]; first | (rw [if_pos hl2]; simp only [sgu, stZ_fu, zL_fu]; rfl) | (rw [if_neg hl2]; simp only [sgu, stZ_fu, zL_fu]; rfl))))
              · first | exact (if_pos (Or.inl hlf)).symm | (rw [if_pos (Or.inr (show ¬ hs (stZ Z (homeF mm rows F key)) key = true from hno))]; rfl) | (rw [if_neg (fun q => q.elim hlf (fun z => z (show hs (stZ Z (homeF mm rows F key)) key = true from hyes)))]; rfl), ⟨by (try dsimp only); rw [ht2]; exact hP, by exact hD⟩⟩, hS.F ht2⟩) hS.2.2 dX4_remove_107
      · have hcp : cpd rows F C key = true := by
          by_cases q : pin rows key = true
          · rw [w68, if_pos q] at c72
            exact cpd_iff.mpr ⟨q, sta_2.mp c72⟩
          · rw [w68, if_neg q] at c72; exact absurd c72 (by decide)
        obtain ⟨hcp1, hcp2, hcp3⟩ := cpd_iff.mp hcp
        have hpl9 := (pin_iff.mp hcp1).1
        have htg : pT rows F < 8 := (hp8 F (by rw [← hcp2]; exact hpl9)).2
        refine lv_aload_n hx hb dX4_remove_75 rfl (lv_at hl 2 rfl) ?_
        refine va_get (D := D) (ci := 4) (v := .ref (G 5)) (C := RX4) (T := TX4) (N := 5) hx hb ht inX4 hown hK hP 0 (rfl) rfl 3 (by decide) (ht _ kw1_178) (fun _ h9 => h9) rfl dX4_remove_76 ?_
        have hPc := hP.sub (ws' := [((G 5), .inr (1, [.int off, .int (wLeft left), .int (wr + 1), .int rc]))]) [10] rfl
        have hDc := hD.sub (ws' := [((G 5), .inr (1, [.int off, .int (wLeft left), .int (wr + 1), .int rc]))]) [10] (by decide) rfl
        have hFc := va_free (wc := [((G 5), .inr (1, [.int off, .int (wLeft left), .int (wr + 1), .int rc]))]) hD hS hA [10] rfl
        refine va_calli (va_runVN (As := []) (rest := []) ⟨hx, hb, hml, hown, ht⟩ (c_X1_lastsForWrite l D cI cZ cS cJ H.size (G 5) off (wLeft left) (wr + 1) rc) ⟨xwN 0 ht kw2_78 kw2_75 kw1_5 rfl rfl (by decide +kernel) ⟨Nat.le_of_ble_eq_true rfl, Nat.le_of_ble_eq_true rfl⟩, ht _ kw2_77, ht _ kwS_9⟩ ⟨PB.blind, va_recv hK hPc (ci := 1) (q0 := 0) rfl rfl, fun U hU hW => PB.mk hU hW hPc hK hDc⟩ rfl rfl hl.1 rfl (lv_room (Nat.le_of_ble_eq_true rfl)) dX4_remove_79 ⟨Nat.le_of_ble_eq_true rfl, Nat.le_of_ble_eq_true rfl⟩) hS (fun q _ h => hFc q h) hFc (fun r79 u79 t79 H1 locs ht1 hvm w79 hB hz1 hk1 hS => ?_)
        try dsimp only at w79 hB
        obtain ⟨hP1, hD1⟩ := hB
        rw [ht1] at hP1
        obtain ⟨hP, hD⟩ := wk_join (w1 := [((G 5), .inr (1, [.int (wOff (wLeft left) off), .int (wLeft (wLeft left)), .int (wInc (wLeft left) (wr + 1)), .int rc]))]) hP hD [10] rfl (by decide) rfl hk1 hFc hP1 hD1
        generalize H1 = H at hP hS ⊢
        have hP : va_P D vwCl (cW cI cS G SA sf pa no pts rf rg (nI RL.length) pk ps pt L p1 p2 p3 (nI rows.length) op (nI F) (nI Gn) (cB C) (wOff (wLeft left) off) (wLeft (wLeft left)) (wInc (wLeft left) (wr + 1)) rc (th - 1) (fu Z hm9 (zK (Z hm9), zV (Z hm9), zL1 (Z hm9), zL2 (Z hm9), fa50, ga50, del (zL (Z hm9)) key))) H := hP
        have hD : va_D A (cW cI cS G SA sf pa no pts rf rg (nI RL.length) pk ps pt L p1 p2 p3 (nI rows.length) op (nI F) (nI Gn) (cB C) (wOff (wLeft left) off) (wLeft (wLeft left)) (wInc (wLeft left) (wr + 1)) rc (th - 1) (fu Z hm9 (zK (Z hm9), zV (Z hm9), zL1 (Z hm9), zL2 (Z hm9), fa50, ga50, del (zL (Z hm9)) key))) := hD
        refine lv_if_ne (tgt := 88) hx hb dX4_remove_82 (by decide) (fun c82 => ?_) (fun c82 => ?_)
        · have hl2 : ¬ wLeft left = 0 := wOk_y (by rw [← w79]; exact c82)
          rw [show wOff (wLeft left) off = off from if_neg hl2, show wInc (wLeft left) (wr + 1) = (wr + 1) + 1 from if_neg hl2] at hP hD
          refine lv_aload_n hx hb dX4_remove_88 rfl (lv_at hl 2 rfl) ?_
          refine va_get (D := D) (ci := 4) (v := .ref (G 3)) (C := RX4) (T := TX4) (N := 5) hx hb ht inX4 hown hK hP 0 (rfl) rfl 1 (by decide) (ht _ kw1_176) (fun _ h9 => h9) rfl dX4_remove_89 ?_
          refine lv_aload_n hx hb dX4_remove_92 rfl (lv_at hl 2 rfl) ?_
          refine va_get (D := D) (ci := 4) (v := .ref (G 4)) (C := RX4) (T := TX4) (N := 5) hx hb ht inX4 hown hK hP 0 (rfl) rfl 2 (by decide) (ht _ kw1_177) (fun _ h9 => h9) rfl dX4_remove_93 ?_
          refine va_getN (D := D) (ci := 0) (v := .ref pt) (C := RX0) (T := TX0) (N := 8) hx hb ht inX0 hown hK hP 6 (rfl) rfl 2 (by decide) (ht _ kw1_68) (fun _ h9 => h9) rfl dX4_remove_96 ?_
          refine lv_iload_n hx hb dX4_remove_99 rfl (lv_at hl 1 rfl) ?_
          refine ya_iald hx hb hK hP 9 0 (rfl) rfl (prow rows key) (by unfold rowI; rw [if_pos hcp1]) (by have := hpr.1; omega) (by have := hpr.2.1; omega) dX4_remove_100 ?_
          refine ya_aldq hx hb hK hP 5 2 rfl rfl (pT rows F) (by rw [(hpr.2.2 _ hpl9).2.2, hcp2]) (htg) (by decide) (v := SA (pT rows F)) (hsf _ htg) dX4_remove_101 ?_
          refine lv_iload_n hx hb dX4_remove_102 rfl (lv_at hl 3 rfl) ?_
          skip
          have hPc := hP.sub (ws' := stE cI (SA (pT rows F)) ((fu Z hm9 (zK (Z hm9), zV (Z hm9), zL1 (Z hm9), zL2 (Z hm9), fa50, ga50, del (zL (Z hm9)) key)) (pT rows F))) [11 + 3 * (pT rows F), 12 + 3 * (pT rows F), 13 + 3 * (pT rows F)] (st_fm (htg))
          have hDc := hD.sub (ws' := stE cI (SA (pT rows F)) ((fu Z hm9 (zK (Z hm9), zV (Z hm9), zL1 (Z hm9), zL2 (Z hm9), fa50, ga50, del (zL (Z hm9)) key)) (pT rows F))) [11 + 3 * (pT rows F), 12 + 3 * (pT rows F), 13 + 3 * (pT rows F)] (st_nd _) (st_map (htg))
          have hFc := va_free (wc := stE cI (SA (pT rows F)) ((fu Z hm9 (zK (Z hm9), zV (Z hm9), zL1 (Z hm9), zL2 (Z hm9), fa50, ga50, del (zL (Z hm9)) key)) (pT rows F))) hD hS hA [11 + 3 * (pT rows F), 12 + 3 * (pT rows F), 13 + 3 * (pT rows F)] (st_map (htg))
          refine va_callv (va_runVN (As := [.int key]) (rest := []) ⟨hx, hb, hml, hown, ht⟩ (c_X3_drop l D cI cZ cS cJ H.size (SA (pT rows F)) (zK ((fu Z hm9 (zK (Z hm9), zV (Z hm9), zL1 (Z hm9), zL2 (Z hm9), fa50, ga50, del (zL (Z hm9)) key)) (pT rows F))) (zV ((fu Z hm9 (zK (Z hm9), zV (Z hm9), zL1 (Z hm9), zL2 (Z hm9), fa50, ga50, del (zL (Z hm9)) key)) (pT rows F))) (zL1 ((fu Z hm9 (zK (Z hm9), zV (Z hm9), zL1 (Z hm9), zL2 (Z hm9), fa50, ga50, del (zL (Z hm9)) key)) (pT rows F))) (zL2 ((fu Z hm9 (zK (Z hm9), zV (Z hm9), zL1 (Z hm9), zL2 (Z hm9), fa50, ga50, del (zL (Z hm9)) key)) (pT rows F))) (zF ((fu Z hm9 (zK (Z hm9), zV (Z hm9), zL1 (Z hm9), zL2 (Z hm9), fa50, ga50, del (zL (Z hm9)) key)) (pT rows F))) (zG ((fu Z hm9 (zK (Z hm9), zV (Z hm9), zL1 (Z hm9), zL2 (Z hm9), fa50, ga50, del (zL (Z hm9)) key)) (pT rows F))) (zL ((fu Z hm9 (zK (Z hm9), zV (Z hm9), zL1 (Z hm9), zL2 (Z hm9), fa50, ga50, del (zL (Z hm9)) key)) (pT rows F))) (hzsA50 _ (htg)).1 (hzsA50 _ (htg)).2.1 (hzsA50 _ (htg)).2.2 key) ⟨xwN 1 ht kw2_94 kw2_91 kw1_6 rfl rfl (by decide +kernel) ⟨Nat.le_of_ble_eq_true rfl, Nat.le_of_ble_eq_true rfl⟩, ht _ kw2_93, ht _ kwS_11⟩ ⟨PB.blind, va_recv hK hPc (ci := 3) (q0 := 0) rfl rfl, fun U hU hW => PB.mk hU hW hPc hK hDc⟩ rfl rfl hl.1 rfl (lv_room (Nat.le_of_ble_eq_true rfl)) dX4_remove_103 ⟨Nat.le_of_ble_eq_true rfl, Nat.le_of_ble_eq_true rfl⟩) hS (fun q _ h => hFc q h) hFc (fun u103 t103 H1 locs ht1 hvm w103 hB hz1 hk1 hS => ?_)
          try dsimp only at w103 hB
          obtain ⟨fa103, ga103⟩ := u103
          dsimp only at w103 hB
          obtain ⟨hP1, hD1⟩ := hB
          rw [ht1] at hP1
          obtain ⟨hP, hD⟩ := wk_join (w1 := stE cI (SA (pT rows F)) (zK ((fu Z hm9 (zK (Z hm9), zV (Z hm9), zL1 (Z hm9), zL2 (Z hm9), fa50, ga50, del (zL (Z hm9)) key)) (pT rows F)), zV ((fu Z hm9 (zK (Z hm9), zV (Z hm9), zL1 (Z hm9), zL2 (Z hm9), fa50, ga50, del (zL (Z hm9)) key)) (pT rows F)), zL1 ((fu Z hm9 (zK (Z hm9), zV (Z hm9), zL1 (Z hm9), zL2 (Z hm9), fa50, ga50, del (zL (Z hm9)) key)) (pT rows F)), zL2 ((fu Z hm9 (zK (Z hm9), zV (Z hm9), zL1 (Z hm9), zL2 (Z hm9), fa50, ga50, del (zL (Z hm9)) key)) (pT rows F)), fa103, ga103, del (zL ((fu Z hm9 (zK (Z hm9), zV (Z hm9), zL1 (Z hm9), zL2 (Z hm9), fa50, ga50, del (zL (Z hm9)) key)) (pT rows F))) key)) hP hD [11 + 3 * (pT rows F), 12 + 3 * (pT rows F), 13 + 3 * (pT rows F)] (st_map (htg)) (st_nd _) rfl hk1 hFc hP1 hD1
          rw [st_put (htg)] at hP hD
          have hzsA103 : ZS (fu (fu Z hm9 (zK (Z hm9), zV (Z hm9), zL1 (Z hm9), zL2 (Z hm9), fa50, ga50, del (zL (Z hm9)) key)) (pT rows F) (zK ((fu Z hm9 (zK (Z hm9), zV (Z hm9), zL1 (Z hm9), zL2 (Z hm9), fa50, ga50, del (zL (Z hm9)) key)) (pT rows F)), zV ((fu Z hm9 (zK (Z hm9), zV (Z hm9), zL1 (Z hm9), zL2 (Z hm9), fa50, ga50, del (zL (Z hm9)) key)) (pT rows F)), zL1 ((fu Z hm9 (zK (Z hm9), zV (Z hm9), zL1 (Z hm9), zL2 (Z hm9), fa50, ga50, del (zL (Z hm9)) key)) (pT rows F)), zL2 ((fu Z hm9 (zK (Z hm9), zV (Z hm9), zL1 (Z hm9), zL2 (Z hm9), fa50, ga50, del (zL (Z hm9)) key)) (pT rows F)), fa103, ga103, del (zL ((fu Z hm9 (zK (Z hm9), zV (Z hm9), zL1 (Z hm9), zL2 (Z hm9), fa50, ga50, del (zL (Z hm9)) key)) (pT rows F))) key)) := zs_del hzsA50 (htg) w103
          generalize H1 = H at hP hS ⊢
          have hP : va_P D vwCl (cW cI cS G SA sf pa no pts rf rg (nI RL.length) pk ps pt L p1 p2 p3 (nI rows.length) op (nI F) (nI Gn) (cB C) off (wLeft (wLeft left)) ((wr + 1) + 1) rc (th - 1) (fu (fu Z hm9 (zK (Z hm9), zV (Z hm9), zL1 (Z hm9), zL2 (Z hm9), fa50, ga50, del (zL (Z hm9)) key)) (pT rows F) (zK ((fu Z hm9 (zK (Z hm9), zV (Z hm9), zL1 (Z hm9), zL2 (Z hm9), fa50, ga50, del (zL (Z hm9)) key)) (pT rows F)), zV ((fu Z hm9 (zK (Z hm9), zV (Z hm9), zL1 (Z hm9), zL2 (Z hm9), fa50, ga50, del (zL (Z hm9)) key)) (pT rows F)), zL1 ((fu Z hm9 (zK (Z hm9), zV (Z hm9), zL1 (Z hm9), zL2 (Z hm9), fa50, ga50, del (zL (Z hm9)) key)) (pT rows F)), zL2 ((fu Z hm9 (zK (Z hm9), zV (Z hm9), zL1 (Z hm9), zL2 (Z hm9), fa50, ga50, del (zL (Z hm9)) key)) (pT rows F)), fa103, ga103, del (zL ((fu Z hm9 (zK (Z hm9), zV (Z hm9), zL1 (Z hm9), zL2 (Z hm9), fa50, ga50, del (zL (Z hm9)) key)) (pT rows F))) key))) H := hP
          have hD : va_D A (cW cI cS G SA sf pa no pts rf rg (nI RL.length) pk ps pt L p1 p2 p3 (nI rows.length) op (nI F) (nI Gn) (cB C) off (wLeft (wLeft left)) ((wr + 1) + 1) rc (th - 1) (fu (fu Z hm9 (zK (Z hm9), zV (Z hm9), zL1 (Z hm9), zL2 (Z hm9), fa50, ga50, del (zL (Z hm9)) key)) (pT rows F) (zK ((fu Z hm9 (zK (Z hm9), zV (Z hm9), zL1 (Z hm9), zL2 (Z hm9), fa50, ga50, del (zL (Z hm9)) key)) (pT rows F)), zV ((fu Z hm9 (zK (Z hm9), zV (Z hm9), zL1 (Z hm9), zL2 (Z hm9), fa50, ga50, del (zL (Z hm9)) key)) (pT rows F)), zL1 ((fu Z hm9 (zK (Z hm9), zV (Z hm9), zL1 (Z hm9), zL2 (Z hm9), fa50, ga50, del (zL (Z hm9)) key)) (pT rows F)), zL2 ((fu Z hm9 (zK (Z hm9), zV (Z hm9), zL1 (Z hm9), zL2 (Z hm9), fa50, ga50, del (zL (Z hm9)) key)) (pT rows F)), fa103, ga103, del (zL ((fu Z hm9 (zK (Z hm9), zV (Z hm9), zL1 (Z hm9), zL2 (Z hm9), fa50, ga50, del (zL (Z hm9)) key)) (pT rows F))) key))) := hD
          refine lv_iconst (v := 1) hx hb dX4_remove_106 (by decide) ?_
          refine vx_ret ?_
          refine W.widen (k := 6) (n := 8300) (Nat.le_of_ble_eq_true rfl) (Nat.le_of_ble_eq_true rfl) ?_
          exact W.iret (v := 1) hx hb hr (fun t ht2 hW => ⟨⟨1, (pa, no, pts, rf, rg, RL, pk, ps, pt, L, p1, p2, p3, op, off, wLeft (wLeft left), (wr + 1) + 1, rc, th - 1, fu (fu Z hm9 (zK (Z hm9), zV (Z hm9), zL1 (Z hm9), zL2 (Z hm9), fa50, ga50, del (zL (Z hm9)) key)) (pT rows F) (zK ((fu Z hm9 (zK (Z hm9), zV (Z hm9), zL1 (Z hm9), zL2 (Z hm9), fa50, ga50, del (zL (Z hm9)) key)) (pT rows F)), zV ((fu Z hm9 (zK (Z hm9), zV (Z hm9), zL1 (Z hm9), zL2 (Z hm9), fa50, ga50, del (zL (Z hm9)) key)) (pT rows F)), zL1 ((fu Z hm9 (zK (Z hm9), zV (Z hm9), zL1 (Z hm9), zL2 (Z hm9), fa50, ga50, del (zL (Z hm9)) key)) (pT rows F)), zL2 ((fu Z hm9 (zK (Z hm9), zV (Z hm9), zL1 (Z hm9), zL2 (Z hm9), fa50, ga50, del (zL (Z hm9)) key)) (pT rows F)), fa103, ga103, del (zL ((fu Z hm9 (zK (Z hm9), zV (Z hm9), zL1 (Z hm9), zL2 (Z hm9), fa50, ga50, del (zL (Z hm9)) key)) (pT rows F))) key), mm, rows, F, Gn, C), rfl, by
                (try dsimp only)
                subst ehm
                refine ⟨?_, ⟨hci.1, hci.2.1, by first | exact hzsA103 | exact hzsA50 | exact hzs⟩, ?_⟩
                · unfold remF
                  rw [if_neg (fun q => q w1)]
                  first | (rw [if_pos (show ¬ hs ((stZ Z) (homeF mm rows F key)) key = true from hno)]; rfl) | (rw [if_neg (fun q => q (show hs ((stZ Z) (homeF mm rows F key)) key = true from hyes))]; first | (rw [if_pos hlf]; rfl) | (rw [if_neg hlf]; first | (rw [if_pos hcp]; simp only [sgu, stZ_fu, zL_fu]; rfl) | (rw [if_neg (fun q => q hcp)]; first | (rw [if_pos hl2]; simp only [sgu, stZ_fu, zL_fu]; rfl) | (rw [if_neg hl2]; simp only [sgu, stZ_fu, zL_fu]; rfl))))
                · first | exact (if_pos (Or.inl hlf)).symm | (rw [if_pos (Or.inr (show ¬ hs (stZ Z (homeF mm rows F key)) key = true from hno))]; rfl) | (rw [if_neg (fun q => q.elim hlf (fun z => z (show hs (stZ Z (homeF mm rows F key)) key = true from hyes)))]; rfl), ⟨by (try dsimp only); rw [ht2]; exact hP, by exact hD⟩⟩, hS.F ht2⟩) hS.2.2 dX4_remove_107
        · have hl2 : wLeft left = 0 := wOk_n (by rw [← w79]; exact c82)
          rw [show wOff (wLeft left) off = 1 from if_pos hl2, wLeft_z hl2, show wInc (wLeft left) (wr + 1) = wr + 1 from if_pos hl2] at hP hD
          refine lv_bipush (v := (-9)) hx hb dX4_remove_85 (by decide) ?_
          refine vx_ret ?_
          refine W.widen (k := 6) (n := 8300) (Nat.le_of_ble_eq_true rfl) (Nat.le_of_ble_eq_true rfl) ?_
          exact W.iret (v := (-9)) hx hb hr (fun t ht2 hW => ⟨⟨(-9), (pa, no, pts, rf, rg, RL, pk, ps, pt, L, p1, p2, p3, op, 1, wLeft left, wr + 1, rc, th - 1, fu Z hm9 (zK (Z hm9), zV (Z hm9), zL1 (Z hm9), zL2 (Z hm9), fa50, ga50, del (zL (Z hm9)) key), mm, rows, F, Gn, C), rfl, by
                (try dsimp only)
                subst ehm
                refine ⟨?_, ⟨hci.1, hci.2.1, by first | exact hzsA103 | exact hzsA50 | exact hzs⟩, ?_⟩
                · unfold remF
                  rw [if_neg (fun q => q w1)]
                  first | (rw [if_pos (show ¬ hs ((stZ Z) (homeF mm rows F key)) key = true from hno)]; rfl) | (rw [if_neg (fun q => q (show hs ((stZ Z) (homeF mm rows F key)) key = true from hyes))]; first | (rw [if_pos hlf]; rfl) | (rw [if_neg hlf]; first | (rw [if_pos hcp]; simp only [sgu, stZ_fu, zL_fu]; rfl) | (rw [if_neg (fun q => q hcp)]; first | (rw [if_pos hl2]; simp only [sgu, stZ_fu, zL_fu]; rfl) | (rw [if_neg hl2]; simp only [sgu, stZ_fu, zL_fu]; rfl))))
                · first | exact (if_pos (Or.inl hlf)).symm | (rw [if_pos (Or.inr (show ¬ hs (stZ Z (homeF mm rows F key)) key = true from hno))]; rfl) | (rw [if_neg (fun q => q.elim hlf (fun z => z (show hs (stZ Z (homeF mm rows F key)) key = true from hyes)))]; rfl), ⟨by (try dsimp only); rw [ht2]; exact hP, by exact hD⟩⟩, hS.F ht2⟩) hS.2.2 dX4_remove_87
    · have hlf : left = 0 := wOk_n (by rw [← w39]; exact c42)
      rw [show wOff left off = 1 from if_pos hlf, wLeft_z hlf, show wInc left wr = wr from if_pos hlf] at hP hD
      refine lv_bipush (v := (-9)) hx hb dX4_remove_45 (by decide) ?_
      refine vx_ret ?_
      refine W.widen (k := 6) (n := 8300) (Nat.le_of_ble_eq_true rfl) (Nat.le_of_ble_eq_true rfl) ?_
      exact W.iret (v := (-9)) hx hb hr (fun t ht2 hW => ⟨⟨(-9), (pa, no, pts, rf, rg, RL, pk, ps, pt, L, p1, p2, p3, op, 1, left, wr, rc, th, Z, mm, rows, F, Gn, C), rfl, by
            (try dsimp only)
            subst ehm
            refine ⟨?_, ⟨hci.1, hci.2.1, by first | exact hzsA103 | exact hzsA50 | exact hzs⟩, ?_⟩
            · unfold remF
              rw [if_neg (fun q => q w1)]
              first | (rw [if_pos (show ¬ hs ((stZ Z) (homeF mm rows F key)) key = true from hno)]; rfl) | (rw [if_neg (fun q => q (show hs ((stZ Z) (homeF mm rows F key)) key = true from hyes))]; first | (rw [if_pos hlf]; rfl) | (rw [if_neg hlf]; first | (rw [if_pos hcp]; simp only [sgu, stZ_fu, zL_fu]; rfl) | (rw [if_neg (fun q => q hcp)]; first | (rw [if_pos hl2]; simp only [sgu, stZ_fu, zL_fu]; rfl) | (rw [if_neg hl2]; simp only [sgu, stZ_fu, zL_fu]; rfl))))
            · first | exact (if_pos (Or.inl hlf)).symm | (rw [if_pos (Or.inr (show ¬ hs (stZ Z (homeF mm rows F key)) key = true from hno))]; rfl) | (rw [if_neg (fun q => q.elim hlf (fun z => z (show hs (stZ Z (homeF mm rows F key)) key = true from hyes)))]; rfl), ⟨by (try dsimp only); rw [ht2]; exact hP, by exact hD⟩⟩, hS.F ht2⟩) hS.2.2 dX4_remove_47
  · have hno : ¬ hs (zL (Z hm9)) key = true := fun q => by rw [w27, if_pos q] at c30; exact absurd c30 (by decide)
    refine lv_iconst (v := 0) hx hb dX4_remove_33 (by decide) ?_
    refine vx_ret ?_
    refine W.widen (k := 6) (n := 8300) (Nat.le_of_ble_eq_true rfl) (Nat.le_of_ble_eq_true rfl) ?_
    exact W.iret (v := 0) hx hb hr (fun t ht2 hW => ⟨⟨0, (pa, no, pts, rf, rg, RL, pk, ps, pt, L, p1, p2, p3, op, off, left, wr, rc, th, Z, mm, rows, F, Gn, C), rfl, by
          (try dsimp only)
          subst ehm
          refine ⟨?_, ⟨hci.1, hci.2.1, by first | exact hzsA103 | exact hzsA50 | exact hzs⟩, ?_⟩
          · unfold remF
            rw [if_neg (fun q => q w1)]
            first | (rw [if_pos (show ¬ hs ((stZ Z) (homeF mm rows F key)) key = true from hno)]; rfl) | (rw [if_neg (fun q => q (show hs ((stZ Z) (homeF mm rows F key)) key = true from hyes))]; first | (rw [if_pos hlf]; rfl) | (rw [if_neg hlf]; first | (rw [if_pos hcp]; simp only [sgu, stZ_fu, zL_fu]; rfl) | (rw [if_neg (fun q => q hcp)]; first | (rw [if_pos hl2]; simp only [sgu, stZ_fu, zL_fu]; rfl) | (rw [if_neg hl2]; simp only [sgu, stZ_fu, zL_fu]; rfl))))
          · first | exact (if_pos (Or.inl hlf)).symm | (rw [if_pos (Or.inr (show ¬ hs (stZ Z (homeF mm rows F key)) key = true from hno))]; rfl) | (rw [if_neg (fun q => q.elim hlf (fun z => z (show hs (stZ Z (homeF mm rows F key)) key = true from hyes)))]; rfl), ⟨by (try dsimp only); rw [ht2]; exact hP, by exact hD⟩⟩, hS.F ht2⟩) hS.2.2 dX4_remove_34
