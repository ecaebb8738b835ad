-- the class ShardRing: get, makePlan, join, leave
theorem sum_zero {f : Nat → Nat} : ∀ k, sumN f k = 0 ↔ ∀ i, i < k → f i = 0
  | 0 => ⟨fun _ i hi => absurd hi (Nat.not_lt_zero _), fun _ => rfl⟩
  | k + 1 => by
    have ih := sum_zero (f := f) k
    show sumN f k + f k = 0 ↔ _
    constructor
    · intro h i hi
      by_cases e : i = k
      · subst e; omega
      · exact ih.mp (by omega) i (by omega)
    · intro h
      have h1 := ih.mpr (fun i hi => h i (by omega))
      have h2 := h k (by omega)
      omega
theorem sum_ge {f : Nat → Nat} {n : Nat} : ∀ k, n < k → f n ≤ sumN f k
  | 0, h => absurd h (Nat.not_lt_zero _)
  | k + 1, h => by
    show f n ≤ sumN f k + f k
    by_cases e : n = k
    · subst e; omega
    · have := sum_ge (f := f) (n := n) k (by omega); omega
theorem sum_one {f : Nat → Nat} {n : Nat} : ∀ k, n < k → (f n = sumN f k ↔ ∀ i, i < k → i ≠ n → f i = 0)
  | 0, h => absurd h (Nat.not_lt_zero _)
  | k + 1, h => by
    show f n = sumN f k + f k ↔ _
    by_cases e : n = k
    · subst e
      have h0 := sum_zero (f := f) n
      constructor
      · intro q i hi hne
        exact h0.mp (by omega) i (by omega)
      · intro q
        have := h0.mpr (fun i hi => q i (by omega) (by omega))
        omega
    · have ih := sum_one (f := f) (n := n) k (by omega)
      have hg := sum_ge (f := f) (n := n) k (by omega)
      constructor
      · intro q i hi hne
        by_cases e2 : i = k
        · subst e2; omega
        · exact ih.mp (by omega) i (by omega) hne
      · intro q
        have h1 := ih.mpr (fun i hi hne => q i (by omega) hne)
        have h2 := q k (by omega) (fun z => e z.symm)
        omega
theorem memC_1 {mm : Nat → Nat} {n : Nat} (hn : n < 8) (hp : 0 < mm n) : mm n = sumN mm 8 ↔ memC mm = 1 := by
  have h2 := sum_one (f := fun i => if 0 < mm i then 1 else 0) (n := n) 8 hn
  have e : (if 0 < mm n then 1 else 0) = 1 := if_pos hp
  have h3 : memC mm = 1 ↔ ∀ i, i < 8 → i ≠ n → mm i = 0 := by
    unfold memC
    rw [show (sumN (fun i => if 0 < mm i then 1 else 0) 8 = 1) ↔ ((if 0 < mm n then 1 else 0) = sumN (fun i => if 0 < mm i then 1 else 0) 8) from ⟨fun q => by rw [e]; exact q.symm, fun q => by rw [← q]; exact e⟩]
    refine h2.trans ⟨fun q i hi hne => ?_, fun q i hi hne => ?_⟩
    · have := q i hi hne
      by_cases z : 0 < mm i
      · simp [z] at this
      · omega
    · have := q i hi hne
      simp [this]
  exact (sum_one 8 hn).trans h3.symm
theorem MMj {mm : Nat → Nat} (hM : MM mm) {n pn : Nat} (hn : n < 8) (h1 : 1 ≤ pn) (h2 : pn ≤ 16) : MM (fu mm n pn) := ⟨fun k hk => by unfold fu; split; exact h2; exact hM.1 k hk, n, hn, by rw [fu_s]; exact h1⟩
theorem MMl {mm : Nat → Nat} (hM : MM mm) {n : Nat} (hn : n < 8) (hp : 0 < mm n) (h : ¬ memC mm = 1) : MM (fu mm n 0) := by
  refine ⟨fun k hk => by unfold fu; split; exact Nat.zero_le _; exact hM.1 k hk, ?_⟩
  rcases Classical.em (∃ i, i < 8 ∧ i ≠ n ∧ 0 < mm i) with ⟨i, h1, h2, h3⟩ | q
  · exact ⟨i, h1, by rw [fu_n _ _ h2]; exact h3⟩
  · exact absurd ((memC_1 hn hp).mp ((sum_one 8 hn).mpr (fun i hi hne => by
      rcases Nat.eq_zero_or_pos (mm i) with z | z
      · exact z
      · exact absurd ⟨i, hi, hne, z⟩ q))) h
theorem plA_nZ (Z : Nat → ST) (w : Int32 → Nat) (n : Nat) : plA (stZ Z) w n (zL (Z n)).length = plUp (stZ Z) w (n + 1) := plA_n (stZ Z) w n
theorem plA_sZ (Z : Nat → ST) (w : Int32 → Nat) (n : Nat) {k : Nat} (hk : k < (zL (Z n)).length) : plA (stZ Z) w n (k + 1) = if w (kx (zL (Z n)) k) = n then plA (stZ Z) w n k else insP (plA (stZ Z) w n k) (kx (zL (Z n)) k, n, w (kx (zL (Z n)) k)) := plA_s (stZ Z) w n hk
theorem plUp_P8 {Z : Nat → ST} {mm : Nat → Nat} (hM : MM mm) : P8 (plUp (stZ Z) (ownK mm) 8) := by
  intro k hk
  have hm : (plUp (stZ Z) (ownK mm) 8).getD k (0, 0, 0) ∈ plUp (stZ Z) (ownK mm) 8 := by
    rw [List.getD_eq_getElem?_getD, List.getElem?_eq_getElem hk]; exact List.getElem_mem hk
  have h := plA_from (st := stZ Z) (w := ownK mm) 7 (stZ Z 7).length (Nat.le_refl _)
  rw [plA_n] at h
  obtain ⟨n', j, h1, h2, h3, h4⟩ := h _ hm
  unfold pS pT
  rw [h3]
  exact ⟨by show n' < 8; omega, ownK_lt hM _⟩

set_option maxHeartbeats 4000000 in
set_option maxRecDepth 100000 in
theorem c_X4_get (l : Launch) (hl0 : l.stackTraces = false) (D : va_G) (cI cZ cS cJ : ClassId) (sz : Nat) (G SA : Nat → Nat) (sf : Nat → Option Nat) (hsf : ∀ n, n < 8 → sf n = some (SA n)) (pa no : Nat) (pts rf rg : Nat → Int32) (RL : List (Int32 × Int32)) (pk ps pt L : Nat) (p1 p2 p3 : Nat → Int32) (op off left wr rc th : Int32) (Z : Nat → ST) (mm : Nat → Nat) (rows : List (Int32 × Nat × Nat)) (F Gn : Nat) (C : Bool) (hci : CI mm RL pts rf rg rows L p1 p2 p3 F Gn Z) (key : Int32) : vx_Met l yX4_get (Cond.code yX4_get cX4_get 3 (some .int) :: TB) ({ frames := 7, cells := 3, slots := 18, locals := 110 } : Room) (va_Pc [.ref (G 0), .int key] (PX D (KT cI cZ cS cJ) (cW cI cS G SA sf pa no pts rf rg (nI RL.length) pk ps pt L p1 p2 p3 (nI rows.length) op (nI F) (nI Gn) (cB C) off left wr rc th Z) sz)) (va_Qi (fun r (_ : Unit) => getF off (stZ Z) mm rows F key = (0, r)) (fun (_ : Unit) t => va_P D vwCl (cW cI cS G SA sf pa no pts rf rg (nI RL.length) pk ps pt L p1 p2 p3 (nI rows.length) op (nI F) (nI Gn) (cB C) off left wr rc th Z) t.heap) (va_A (cW cI cS G SA sf pa no pts rf rg (nI RL.length) pk ps pt L p1 p2 p3 (nI rows.length) op (nI F) (nI Gn) (cB C) off left wr rc th Z) sz)) (vx_X (fun (_ : Unit) => True) (fun E (_ : Unit) t => (fun E => (E = cISE ∧ getF off (stZ Z) mm rows F key = (1, 0)) ∨ (E = cNSE ∧ getF off (stZ Z) mm rows F key = (2, 0))) E ∧ va_P D vwCl (cW cI cS G SA sf pa no pts rf rg (nI RL.length) pk ps pt L p1 p2 p3 (nI rows.length) op (nI F) (nI Gn) (cB C) off left wr rc th Z) t.heap) (va_A (cW cI cS G SA sf pa no pts rf rg (nI RL.length) pk ps pt L p1 p2 p3 (nI rows.length) op (nI F) (nI Gn) (cB C) off left wr rc th Z) sz)) 3 18 (va_A (cW cI cS G SA sf pa no pts rf rg (nI RL.length) pk ps pt L p1 p2 p3 (nI rows.length) op (nI F) (nI Gn) (cB C) off left wr rc th Z) sz) := by
  refine vx_ofW (cc := cX4_get) (maxL := 3) (ret := (some .int)) (by decide) rfl ?_
  intro p e s m args below meth c s₁ B hml hnt hv
  obtain ⟨rfl, ⟨hsz, hP, hK, hD0⟩, hTX⟩ := hv
  have hx := B.exec
  have hb := B.bytes
  have hr := B.returns
  have hts := atoms_spec (ws := (Cond.code yX4_get cX4_get 3 (some .int) :: TB)) B.pre
  have ht : ∀ w ∈ TB, w.before _ s = true := fun w h => hts w (List.mem_cons_of_mem _ h)
  have hown : s.vm.findClass RX4 = some m.cls := findClass_of_methodNamed B.named
  have hlocks := B.notSynchronized
  subst hsz
  have hD := hD0.self (sz := s.heap.size)
  generalize hAe : va_A (cW cI cS G SA sf pa no pts rf rg (nI RL.length) pk ps pt L p1 p2 p3 (nI rows.length) op (nI F) (nI Gn) (cB C) off left wr rc th Z) s.heap.size = A at hD hTX ⊢
  have hA : ∀ q : Nat, s.heap.size ≤ q → A q := fun q h => by rw [← hAe]; exact Or.inr h
  have hS : va_S A s.heap s.heap [] := va_S.rf
  have hP : va_P D vwCl (cW cI cS G SA sf pa no pts rf rg (nI RL.length) pk ps pt L p1 p2 p3 (nI rows.length) op (nI F) (nI Gn) (cB C) off left wr rc th Z) s.heap := hP
  have hl := lv_entry ([.ref (G 0), .int key]) (n := 3) (Nat.le_of_ble_eq_true rfl)
  rw [lg_entry_eq]
  generalize (lg_sl ([.ref (G 0), .int key]) ++ List.replicate (3 - (lg_sl ([.ref (G 0), .int key])).length) Slot.unset).toArray = ls at hl ⊢
  have hl : lv_has ls 3 [(0, .ref (G 0)), (1, .int key)] := hl
  obtain ⟨⟨hrr, hrg, h16, hM⟩, ⟨hpr, h32, hrl, hF9, hG9, hsr, hp8⟩, hzs⟩ := id hci
  refine lv_aload_n hx hb dX4_get_0 rfl (lv_at hl 0 rfl) ?_
  have hPc := hP.sub (ws' := [((G 0), .inr (4, [.ref (G 1), .ref (G 3), .ref (G 4), .ref (G 5), .int th])), ((G 5), .inr (1, [.int off, .int left, .int wr, .int rc]))]) [0, 10] rfl
  have hDc := hD.sub (ws' := [((G 0), .inr (4, [.ref (G 1), .ref (G 3), .ref (G 4), .ref (G 5), .int th])), ((G 5), .inr (1, [.int off, .int left, .int wr, .int rc]))]) [0, 10] (by decide) rfl
  have hFc := va_free (wc := [((G 0), .inr (4, [.ref (G 1), .ref (G 3), .ref (G 4), .ref (G 5), .int th])), ((G 5), .inr (1, [.int off, .int left, .int wr, .int rc]))]) hD hS hA [0, 10] rfl
  refine vx_callv (vx_runV (As := []) (rest := []) ⟨hx, hb, hml, hown, ht⟩ (c_X4_needPower l hl0 D cI cZ cS cJ s.heap.size G off left wr rc th) (xwV 0 ht kw1_218 kw1_215 kw1_1 kw1_217 kwS_1 rfl rfl (by decide +kernel) ⟨Nat.le_of_ble_eq_true rfl, Nat.le_of_ble_eq_true rfl⟩) ⟨PX.blind, va_recv hK hPc (ci := 4) (q0 := 0) rfl rfl, fun U hU hW => PX.mk hU hW hPc hK hDc hS hFc hTX⟩ rfl rfl hl.1 rfl (lv_room (Nat.le_of_ble_eq_true rfl)) dX4_get_1 ⟨Nat.le_of_ble_eq_true rfl, Nat.le_of_ble_eq_true rfl⟩) hS (fun q _ h => hFc q h) hFc (fun q _ h => hFc q h) (fun E ce q9 u t9 H1 locs ht1 hvm _ hBX hz1 hk1 hS hce hcv hcl => ?_) (fun u1 t1 H1 locs ht1 hvm w1 hB hz1 hk1 hS => ?_)
  · obtain ⟨hXE, hBX⟩ := hBX
    rw [ht1] at hBX
    have hP := wk_ro hP hD [0, 10] rfl hk1 hBX
    exact vx_out (fun x hx => (hnt x hx).elim) hlocks hce hcv hcl (fun t ht9 _ => ⟨(), trivial, ⟨Or.inl ⟨hXE.1, if_pos hXE.2⟩, by rw [ht9]; exact hP⟩, hS.F ht9⟩) hS.2.2 (Nat.le_of_ble_eq_true rfl) (Nat.le_of_ble_eq_true rfl)
  try dsimp only at w1 hB
  rw [ht1] at hB
  have hP := wk_ro hP hD [0, 10] rfl hk1 hB
  generalize H1 = H at hP hS ⊢
  refine lv_aload_n hx hb dX4_get_4 rfl (lv_at hl 0 rfl) ?_
  refine va_get (D := D) (ci := 4) (v := .ref (G 3)) (C := RX4) (T := TX4) (N := 5) hx hb ht inX4 hown hK hP 0 (rfl) rfl 1 (by decide) (ht _ kw1_176) (fun _ h9 => h9) rfl dX4_get_5 ?_
  refine lv_aload_n hx hb dX4_get_8 rfl (lv_at hl 0 rfl) ?_
  refine lv_aload_n hx hb dX4_get_9 rfl (lv_at hl 0 rfl) ?_
  refine va_get (D := D) (ci := 4) (v := .ref (G 4)) (C := RX4) (T := TX4) (N := 5) hx hb ht inX4 hown hK hP 0 (rfl) rfl 2 (by decide) (ht _ kw1_177) (fun _ h9 => h9) rfl dX4_get_10 ?_
  refine lv_iload_n hx hb dX4_get_13 rfl (lv_at hl 1 rfl) ?_
  have hPc := hP.sub (ws' := [((G 4), .inr (0, [.ref pk, .ref ps, .ref pt, .int (nI rows.length), .int op, .int (nI F), .int (nI Gn), .int (cB C)])), (pk, .inl (cI, L, .inl p1)), (ps, .inl (cI, L, .inl p2)), (pt, .inl (cI, L, .inl p3))]) [6, 7, 8, 9] rfl
  have hDc := hD.sub (ws' := [((G 4), .inr (0, [.ref pk, .ref ps, .ref pt, .int (nI rows.length), .int op, .int (nI F), .int (nI Gn), .int (cB C)])), (pk, .inl (cI, L, .inl p1)), (ps, .inl (cI, L, .inl p2)), (pt, .inl (cI, L, .inl p3))]) [6, 7, 8, 9] (by decide) rfl
  have hFc := va_free (wc := [((G 4), .inr (0, [.ref pk, .ref ps, .ref pt, .int (nI rows.length), .int op, .int (nI F), .int (nI Gn), .int (cB C)])), (pk, .inl (cI, L, .inl p1)), (ps, .inl (cI, L, .inl p2)), (pt, .inl (cI, L, .inl p3))]) hD hS hA [6, 7, 8, 9] rfl
  refine va_calli (va_runVN (As := [.int key]) (rest := [.ref (G 0), .ref (G 3)]) ⟨hx, hb, hml, hown, ht⟩ (c_X0_rowOf l D cI cZ cS cJ H.size (G 4) pk ps pt L p1 p2 p3 op rows F Gn C hpr hrl hF9 hG9 hsr key) ⟨xwN 1 ht kw2_51 kw2_48 kw1_4 rfl rfl (by decide +kernel) ⟨Nat.le_of_ble_eq_true rfl, Nat.le_of_ble_eq_true rfl⟩, ht _ kw2_50, ht _ kwS_3⟩ ⟨PB.blind, va_recv hK hPc (ci := 0) (q0 := 0) rfl rfl, fun U hU hW => PB.mk hU hW hPc hK hDc⟩ rfl rfl hl.1 rfl (lv_room (Nat.le_of_ble_eq_true rfl)) dX4_get_14 ⟨Nat.le_of_ble_eq_true rfl, Nat.le_of_ble_eq_true rfl⟩) hS (fun q _ h => hFc q h) hFc (fun r14 u14 t14 H1 locs ht1 hvm w14 hB hz1 hk1 hS => ?_)
  try dsimp only at w14 hB
  rw [ht1] at hB
  have hP := wk_ro hP hD [6, 7, 8, 9] rfl hk1 hB
  generalize H1 = H at hP hS ⊢
  have w14 := w14.symm
  subst w14
  refine lv_iload_n hx hb dX4_get_17 rfl (lv_at hl 1 rfl) ?_
  obtain ⟨hm9, ehm⟩ : ∃ x, x = homeF mm rows F key := ⟨_, rfl⟩
  have hlt9 : hm9 < 8 := by rw [ehm]; exact homeF_lt hM hp8
  have hPc := hP
  have hDc := hD
  have hFc := wfree hD hS hA
  refine va_calli (va_runV (As := [.int (rowI rows key), .int key]) (rest := [.ref (G 3)]) ⟨hx, hb, hml, hown, ht⟩ (c_X4_homeAt l D cI cZ cS cJ H.size G SA sf hsf pa no pts rf rg RL pk ps pt L p1 p2 p3 op off left wr rc th Z mm rows F Gn C hci key) (xwV 2 ht kw2_56 kw2_53 kw1_1 kw2_55 kwS_4 rfl rfl (by decide +kernel) ⟨Nat.le_of_ble_eq_true rfl, Nat.le_of_ble_eq_true rfl⟩) ⟨PB.blind, va_recv hK hPc (ci := 4) (q0 := 0) rfl rfl, fun U hU hW => PB.mk hU hW hPc hK hDc⟩ rfl rfl hl.1 rfl (lv_room (Nat.le_of_ble_eq_true rfl)) dX4_get_18 ⟨Nat.le_of_ble_eq_true rfl, Nat.le_of_ble_eq_true rfl⟩) hS (fun q _ h => hFc q h) hFc (fun r18 u18 t18 H1 locs ht1 hvm w18 hB hz1 hk1 hS => ?_)
  try dsimp only at w18 hB
  rw [ht1] at hB
  have hP := hB
  generalize H1 = H at hP hS ⊢
  rw [← ehm] at w18
  subst w18
  refine ya_aldq hx hb hK hP 5 2 rfl rfl hm9 (rfl) (hlt9) (by decide) (v := SA hm9) (hsf hm9 hlt9) dX4_get_21 ?_
  refine lv_astore_n (lv' := [(2, .ref (SA hm9)), (0, .ref (G 0)), (1, .int key)]) hx hb dX4_get_22 rfl hl (by decide) rfl (fun ls hl => ?_)
  refine lv_aload_n hx hb dX4_get_23 rfl (lv_at hl 0 rfl) ?_
  refine lv_iload_n hx hb dX4_get_24 rfl (lv_at hl 2 rfl) ?_
  have hPc := hP.sub (ws' := stE cI (SA hm9) (Z hm9)) [11 + 3 * hm9, 12 + 3 * hm9, 13 + 3 * hm9] (st_fm (hlt9))
  have hDc := hD.sub (ws' := stE cI (SA hm9) (Z hm9)) [11 + 3 * hm9, 12 + 3 * hm9, 13 + 3 * hm9] (st_nd _) (st_map (hlt9))
  have hFc := va_free (wc := stE cI (SA hm9) (Z hm9)) hD hS hA [11 + 3 * hm9, 12 + 3 * hm9, 13 + 3 * hm9] (st_map (hlt9))
  refine va_calli (va_runVN (As := [.int key]) (rest := []) ⟨hx, hb, hml, hown, ht⟩ (c_X3_has l D cI cZ cS cJ H.size (SA hm9) (zK (Z hm9)) (zV (Z hm9)) (zL1 (Z hm9)) (zL2 (Z hm9)) (zF (Z hm9)) (zG (Z hm9)) (zL (Z hm9)) (hzs _ (hlt9)).1 (hzs _ (hlt9)).2.1 (hzs _ (hlt9)).2.2 key) ⟨xwN 1 ht kw2_68 kw2_65 kw1_6 rfl rfl (by decide +kernel) ⟨Nat.le_of_ble_eq_true rfl, Nat.le_of_ble_eq_true rfl⟩, ht _ kw2_67, ht _ kwS_7⟩ ⟨PB.blind, va_recv hK hPc (ci := 3) (q0 := 0) rfl rfl, fun U hU hW => PB.mk hU hW hPc hK hDc⟩ rfl rfl hl.1 rfl (lv_room (Nat.le_of_ble_eq_true rfl)) dX4_get_25 ⟨Nat.le_of_ble_eq_true rfl, Nat.le_of_ble_eq_true rfl⟩) hS (fun q _ h => hFc q h) hFc (fun r25 u25 t25 H1 locs ht1 hvm w25 hB hz1 hk1 hS => ?_)
  try dsimp only at w25 hB
  rw [ht1] at hB
  have hP := wk_ro hP hD [11 + 3 * hm9, 12 + 3 * hm9, 13 + 3 * hm9] (st_map (hlt9)) hk1 hB
  generalize H1 = H at hP hS ⊢
  refine lv_if_ne (tgt := 41) hx hb dX4_get_28 (by decide) (fun c28 => ?_) (fun c28 => ?_)
  · have hyes : hs (zL (Z hm9)) key = true := Decidable.byContradiction (fun q => c28 (by rw [w25, if_neg q]))
    refine lv_aload_n hx hb dX4_get_41 rfl (lv_at hl 0 rfl) ?_
    refine lv_iload_n hx hb dX4_get_42 rfl (lv_at hl 2 rfl) ?_
    have hPc := hP.sub (ws' := stE cI (SA hm9) (Z hm9)) [11 + 3 * hm9, 12 + 3 * hm9, 13 + 3 * hm9] (st_fm (hlt9))
    have hDc := hD.sub (ws' := stE cI (SA hm9) (Z hm9)) [11 + 3 * hm9, 12 + 3 * hm9, 13 + 3 * hm9] (st_nd _) (st_map (hlt9))
    have hFc := va_free (wc := stE cI (SA hm9) (Z hm9)) hD hS hA [11 + 3 * hm9, 12 + 3 * hm9, 13 + 3 * hm9] (st_map (hlt9))
    refine va_calli (va_runVN (As := [.int key]) (rest := []) ⟨hx, hb, hml, hown, ht⟩ (c_X3_valueOf l D cI cZ cS cJ H.size (SA hm9) (zK (Z hm9)) (zV (Z hm9)) (zL1 (Z hm9)) (zL2 (Z hm9)) (zF (Z hm9)) (zG (Z hm9)) (zL (Z hm9)) (hzs _ (hlt9)).1 (hzs _ (hlt9)).2.1 (hzs _ (hlt9)).2.2 key) ⟨xwN 1 ht kw2_123 kw2_120 kw1_6 rfl rfl (by decide +kernel) ⟨Nat.le_of_ble_eq_true rfl, Nat.le_of_ble_eq_true rfl⟩, ht _ kw2_122, ht _ kwS_12⟩ ⟨PB.blind, va_recv hK hPc (ci := 3) (q0 := 0) rfl rfl, fun U hU hW => PB.mk hU hW hPc hK hDc⟩ rfl rfl hl.1 rfl (lv_room (Nat.le_of_ble_eq_true rfl)) dX4_get_43 ⟨Nat.le_of_ble_eq_true rfl, Nat.le_of_ble_eq_true rfl⟩) hS (fun q _ h => hFc q h) hFc (fun r43 u43 t43 H1 locs ht1 hvm w43 hB hz1 hk1 hS => ?_)
    try dsimp only at w43 hB
    rw [ht1] at hB
    have hP := wk_ro hP hD [11 + 3 * hm9, 12 + 3 * hm9, 13 + 3 * hm9] (st_map (hlt9)) hk1 hB
    generalize H1 = H at hP hS ⊢
    refine vx_ret ?_
    refine W.widen (k := 3) (n := 18) (Nat.le_of_ble_eq_true rfl) (Nat.le_of_ble_eq_true rfl) ?_
    exact W.iret (v := r43) hx hb hr (fun t ht2 hW => ⟨⟨r43, (), rfl, by
          (try dsimp only)
          subst ehm; unfold getF; rw [if_neg (fun q => q w1), if_pos (show hs ((stZ Z) (homeF mm rows F key)) key = true from hyes), w43, if_pos hyes]; rfl, by (try dsimp only); rw [ht2]; exact hP⟩, hS.F ht2⟩) hS.2.2 dX4_get_46
  · have hno : ¬ hs (zL (Z hm9)) key = true := fun q => by rw [w25, if_pos q] at c28; exact absurd c28 (by decide)
    have hxo := fun (t : State) h1 h2 => xout (t := t) hP hS h1 h2
    exact vy_throwN (A := A) hx hb hl0 hown (ht _ kw2_104) (ht _ kw1_16) (hTX.2.2 (95, "the key is not there") (by decide)).choose_spec (fun w h => ht w (xt_97 w h)) hTX.1 hTX.2.1 hS (hl.1.trans hml.symm) dX4_get_31 dX4_get_34 dX4_get_35 dX4_get_37 dX4_get_40 (fun x hx => (hnt x hx).elim) (Nat.le_of_ble_eq_true rfl) (Nat.le_of_ble_eq_true rfl) (Nat.le_of_ble_eq_true rfl) (Nat.le_of_ble_eq_true rfl) hlocks (fun t hvm h1 h2 => ⟨(), trivial, ⟨Or.inr ⟨rfl, by subst ehm; unfold getF; rw [if_neg (fun q => q w1), if_neg (show ¬ hs ((stZ Z) (homeF mm rows F key)) key = true from hno)]⟩, (hxo t h1 h2).1⟩, (hxo t h1 h2).2⟩) hS.2.2 (Nat.le_of_ble_eq_true rfl) (Nat.le_of_ble_eq_true rfl)

set_option maxHeartbeats 4000000 in
set_option maxRecDepth 100000 in
theorem c_X4_makePlan (l : Launch) (D : va_G) (cI cZ cS cJ : ClassId) (sz : Nat) (G SA : Nat → Nat) (sf : Nat → Option Nat) (hsf : ∀ n, n < 8 → sf n = some (SA n)) (pa no : Nat) (pts rf rg : Nat → Int32) (RL : List (Int32 × Int32)) (pk ps pt L : Nat) (p1 p2 p3 : Nat → Int32) (op off left wr rc th : Int32) (Z : Nat → ST) (mm : Nat → Nat) (hci : CI mm RL pts rf rg ([] : List (Int32 × Nat × Nat)) L p1 p2 p3 0 0 Z) (v0 : Int32 → Nat) (hv : OW (stZ Z) v0) (h256 : (plUp (stZ Z) (ownK mm) 8).length ≤ 256) : Met l yX4_makePlan (Cond.code yX4_makePlan cX4_makePlan 5 none :: TB) ({ frames := 4, cells := 60, slots := 3700, locals := 110 } : Room) (va_Pc [.ref (G 0)] (PB D (KT cI cZ cS cJ) (cW cI cS G SA sf pa no pts rf rg (nI RL.length) pk ps pt L p1 p2 p3 (nI ([] : List (Int32 × Nat × Nat)).length) op (nI 0) (nI 0) (cB false) off left wr rc th Z) sz)) (va_Qv (fun (u : Nat × Nat × Nat × Nat × (Nat → Int32) × (Nat → Int32) × (Nat → Int32)) => PRP (plUp (stZ Z) (ownK mm) 8) u.2.2.2.1 u.2.2.2.2.1 u.2.2.2.2.2.1 u.2.2.2.2.2.2 ∧ 32 ≤ u.2.2.2.1) (fun (u : Nat × Nat × Nat × Nat × (Nat → Int32) × (Nat → Int32) × (Nat → Int32)) t => va_P D vwCl (cW cI cS G SA sf pa no pts rf rg (nI RL.length) u.1 u.2.1 u.2.2.1 u.2.2.2.1 u.2.2.2.2.1 u.2.2.2.2.2.1 u.2.2.2.2.2.2 (nI (plUp (stZ Z) (ownK mm) 8).length) 1 (nI 0) (nI 0) (cB false) off left wr rc th Z) t.heap ∧ va_D (va_A (cW cI cS G SA sf pa no pts rf rg (nI RL.length) pk ps pt L p1 p2 p3 (nI ([] : List (Int32 × Nat × Nat)).length) op (nI 0) (nI 0) (cB false) off left wr rc th Z) sz) (cW cI cS G SA sf pa no pts rf rg (nI RL.length) u.1 u.2.1 u.2.2.1 u.2.2.2.1 u.2.2.2.2.1 u.2.2.2.2.2.1 u.2.2.2.2.2.2 (nI (plUp (stZ Z) (ownK mm) 8).length) 1 (nI 0) (nI 0) (cB false) off left wr rc th Z)) (va_A (cW cI cS G SA sf pa no pts rf rg (nI RL.length) pk ps pt L p1 p2 p3 (nI ([] : List (Int32 × Nat × Nat)).length) op (nI 0) (nI 0) (cB false) off left wr rc th Z) sz)) 60 3700 (va_A (cW cI cS G SA sf pa no pts rf rg (nI RL.length) pk ps pt L p1 p2 p3 (nI ([] : List (Int32 × Nat × Nat)).length) op (nI 0) (nI 0) (cB false) off left wr rc th Z) sz) := by
  refine Met.ofW (cc := cX4_makePlan) (maxL := 5) (ret := none) (by decide) rfl ?_
  intro p e s m args below meth c s₁ B hml hv
  obtain ⟨rfl, hsz, hP, hK, hD0⟩ := hv
  have hx := B.exec
  have hb := B.bytes
  have hr := B.returns
  have hts := atoms_spec (ws := (Cond.code yX4_makePlan cX4_makePlan 5 none :: TB)) B.pre
  have ht : ∀ w ∈ TB, w.before _ s = true := fun w h => hts w (List.mem_cons_of_mem _ h)
  have hown : s.vm.findClass RX4 = some m.cls := findClass_of_methodNamed B.named
  have hlocks := B.notSynchronized
  subst hsz
  have hD := hD0.self (sz := s.heap.size)
  generalize hAe : va_A (cW cI cS G SA sf pa no pts rf rg (nI RL.length) pk ps pt L p1 p2 p3 (nI ([] : List (Int32 × Nat × Nat)).length) op (nI 0) (nI 0) (cB false) off left wr rc th Z) s.heap.size = A at hD ⊢
  have hA : ∀ q : Nat, s.heap.size ≤ q → A q := fun q h => by rw [← hAe]; exact Or.inr h
  have hS : va_S A s.heap s.heap [] := va_S.rf
  have hP : va_P D vwCl (cW cI cS G SA sf pa no pts rf rg (nI RL.length) pk ps pt L p1 p2 p3 (nI ([] : List (Int32 × Nat × Nat)).length) op (nI 0) (nI 0) (cB false) off left wr rc th Z) s.heap := hP
  have hl := lv_entry ([.ref (G 0)]) (n := 5) (Nat.le_of_ble_eq_true rfl)
  rw [lg_entry_eq]
  generalize (lg_sl ([.ref (G 0)]) ++ List.replicate (5 - (lg_sl ([.ref (G 0)])).length) Slot.unset).toArray = ls at hl ⊢
  have hl : lv_has ls 5 [(0, .ref (G 0))] := hl
  obtain ⟨⟨hrr, hrg, h16, hM⟩, ⟨hpr, h32, hrl, hF9, hG9, hsr, hp8⟩, hzs⟩ := id hci
  have hss : ∀ n, n < 8 → Srt ((stZ Z) n) := fun n hn => (hzs n hn).2.1
  refine lv_aload_n hx hb dX4_makePlan_0 rfl (lv_at hl 0 rfl) ?_
  refine va_get (D := D) (ci := 4) (v := .ref (G 4)) (C := RX4) (T := TX4) (N := 5) hx hb ht inX4 hown hK hP 0 (rfl) rfl 2 (by decide) (ht _ kw1_177) (fun _ h9 => h9) rfl dX4_makePlan_1 ?_
  refine lv_iconst (v := 1) hx hb dX4_makePlan_4 (by decide) ?_
  refine va_putN (D := D) (ci := 0) (v := .int 1) (ty := .boolean) (C := RX0) (T := TX0) (N := 8) hx hb ht inX0 tyX0 tyX0_ok nmX0 hown hK hP hD hS 6 rfl rfl 4 (by decide) (ht _ kw1_72) (fun _ h9 => h9) rfl (by decide +kernel) (by decide +kernel) rfl (Nat.le_of_ble_eq_true rfl) dX4_makePlan_5 (fun H locs hP hD hS => ?_)
  have hP : va_P D vwCl (cW cI cS G SA sf pa no pts rf rg (nI RL.length) pk ps pt L p1 p2 p3 (nI ([] : List (Int32 × Nat × Nat)).length) 1 (nI 0) (nI 0) (cB false) off left wr rc th Z) H := hP
  have hD : va_D A (cW cI cS G SA sf pa no pts rf rg (nI RL.length) pk ps pt L p1 p2 p3 (nI ([] : List (Int32 × Nat × Nat)).length) 1 (nI 0) (nI 0) (cB false) off left wr rc th Z) := hD
  refine lv_iconst (v := 0) hx hb dX4_makePlan_8 (by decide) ?_
  refine lv_istore_n (lv' := [(1, .int 0), (0, .ref (G 0))]) hx hb dX4_makePlan_9 rfl hl (by decide) rfl (fun ls hl => ?_)
  refine lpB (pc := 10) (ι := Nat × Nat × Nat × Nat × Nat × (Nat → Int32) × (Nat → Int32) × (Nat → Int32) × Nat × Nat) (fun z H locs k9 n9 ls => lv_has ls 5 [(1, .int (nI z.1)), (0, .ref (G 0))] ∧ va_P D vwCl (cW cI cS G SA sf pa no pts rf rg (nI RL.length) z.2.1 z.2.2.1 z.2.2.2.1 z.2.2.2.2.1 z.2.2.2.2.2.1 z.2.2.2.2.2.2.1 z.2.2.2.2.2.2.2.1 (nI (plUp (stZ Z) (ownK mm) z.1).length) 1 (nI 0) (nI 0) (cB false) off left wr rc th Z) H ∧ va_D A (cW cI cS G SA sf pa no pts rf rg (nI RL.length) z.2.1 z.2.2.1 z.2.2.2.1 z.2.2.2.2.1 z.2.2.2.2.2.1 z.2.2.2.2.2.2.1 z.2.2.2.2.2.2.2.1 (nI (plUp (stZ Z) (ownK mm) z.1).length) 1 (nI 0) (nI 0) (cB false) off left wr rc th Z) ∧ va_S A s.heap H locs ∧ k9 = z.2.2.2.2.2.2.2.2.1 ∧ n9 = z.2.2.2.2.2.2.2.2.2 ∧ z.1 ≤ 8 ∧ PRP (plUp (stZ Z) (ownK mm) z.1) z.2.2.2.2.1 z.2.2.2.2.2.1 z.2.2.2.2.2.2.1 z.2.2.2.2.2.2.2.1 ∧ L ≤ z.2.2.2.2.1 ∧ 11 * z.2.2.2.2.2.2.2.2.1 + L ≤ z.2.2.2.2.1 ∧ z.2.2.2.2.2.2.2.2.2 + 6 * L ≤ 6 * z.2.2.2.2.1) (fun z => 8 - z.1) (0, pk, ps, pt, L, p1, p2, p3, 0, 0) (⟨lv_sub hl [0, 1] rfl, by exact hP, by exact hD, hS, rfl, rfl, ⟨Nat.zero_le _, hpr, Nat.le_refl _, by dsimp only; omega, by dsimp only; omega⟩⟩) ?_
  intro z H locs k9 n9 ls hI ih10
  obtain ⟨n, pk1, ps1, pt1, L1, q1, q2, q3, kc, nc⟩ := z
  obtain ⟨hl, hP, hD, hS, e9, e8, hinv⟩ := hI
  try dsimp only at e9
  try dsimp only at e8
  have e9 := e9.symm
  have e8 := e8.symm
  subst e9
  subst e8
  have hP : va_P D vwCl (cW cI cS G SA sf pa no pts rf rg (nI RL.length) pk1 ps1 pt1 L1 q1 q2 q3 (nI (plUp (stZ Z) (ownK mm) n).length) 1 (nI 0) (nI 0) (cB false) off left wr rc th Z) H := hP
  have hD : va_D A (cW cI cS G SA sf pa no pts rf rg (nI RL.length) pk1 ps1 pt1 L1 q1 q2 q3 (nI (plUp (stZ Z) (ownK mm) n).length) 1 (nI 0) (nI 0) (cB false) off left wr rc th Z) := hD
  have hl : lv_has ls 5 [(1, .int (nI n)), (0, .ref (G 0))] := hl
  obtain ⟨hn8, hPR, hc1, hc2, hc3⟩ : n ≤ 8 ∧ PRP (plUp (stZ Z) (ownK mm) n) L1 q1 q2 q3 ∧ L ≤ L1 ∧ 11 * kc + L ≤ L1 ∧ nc + 6 * L ≤ 6 * L1 := hinv
  have hL6 := hPR.2.1
  refine lv_iload_n hx hb dX4_makePlan_10 rfl (lv_at hl 0 rfl) ?_
  refine lv_bipush (v := 8) hx hb dX4_makePlan_11 (by decide) ?_
  refine lv_icmp_ge (tgt := 82) hx hb dX4_makePlan_13 (by decide) (fun c13 => ?_) (fun c13 => ?_)
  · have hn9 : n = 8 := by
      rcases Nat.lt_or_ge n 8 with q | q
      · exact absurd c13 (show ¬ nI 8 ≤ nI n from nI_ge q (by decide))
      · omega
    subst hn9
    have hL6 := hPR.2.1
    refine W.widen (k := 60) (n := 3700) (by omega) (by omega) ?_
    exact W.vret hx hb hr (fun t ht2 hW => ⟨⟨(pk1, ps1, pt1, L1, q1, q2, q3), rfl, ⟨hPR, by (show 32 ≤ L1); omega⟩, ⟨by (try dsimp only); rw [ht2]; exact hP, by exact hD⟩⟩, hS.F ht2⟩) hS.2.2 dX4_makePlan_82
  · have hn : n < 8 := by
      rcases Nat.lt_or_ge n 8 with q | q
      · exact q
      · exact absurd (show nI 8 ≤ nI n from nI_le q (by omega)) c13
    refine lv_aload_n hx hb dX4_makePlan_16 rfl (lv_at hl 1 rfl) ?_
    refine va_get (D := D) (ci := 4) (v := .ref (G 3)) (C := RX4) (T := TX4) (N := 5) hx hb ht inX4 hown hK hP 0 (rfl) rfl 1 (by decide) (ht _ kw1_176) (fun _ h9 => h9) rfl dX4_makePlan_17 ?_
    refine lv_iload_n hx hb dX4_makePlan_20 rfl (lv_at hl 0 rfl) ?_
    refine ya_aldq hx hb hK hP 5 2 rfl rfl n (rfl) (hn) (by decide) (v := (SA n)) (hsf n hn) dX4_makePlan_21 ?_
    refine lv_astore_n (lv' := [(2, .ref (SA n)), (1, .int (nI n)), (0, .ref (G 0))]) hx hb dX4_makePlan_22 rfl hl (by decide) rfl (fun ls hl => ?_)
    refine lv_iconst (v := 0) hx hb dX4_makePlan_23 (by decide) ?_
    refine lv_istore_n (lv' := [(3, .int 0), (2, .ref (SA n)), (1, .int (nI n)), (0, .ref (G 0))]) hx hb dX4_makePlan_24 rfl hl (by decide) rfl (fun ls hl => ?_)
    refine lpB (pc := 25) (ι := Nat × Nat × Nat × Nat × Nat × (Nat → Int32) × (Nat → Int32) × (Nat → Int32) × Nat × Nat) (fun z H locs k9 n9 ls => lv_has ls 5 [(3, .int (nI z.1)), (2, .ref (SA n)), (1, .int (nI n)), (0, .ref (G 0))] ∧ va_P D vwCl (cW cI cS G SA sf pa no pts rf rg (nI RL.length) z.2.1 z.2.2.1 z.2.2.2.1 z.2.2.2.2.1 z.2.2.2.2.2.1 z.2.2.2.2.2.2.1 z.2.2.2.2.2.2.2.1 (nI (plA (stZ Z) (ownK mm) n z.1).length) 1 (nI 0) (nI 0) (cB false) off left wr rc th Z) H ∧ va_D A (cW cI cS G SA sf pa no pts rf rg (nI RL.length) z.2.1 z.2.2.1 z.2.2.2.1 z.2.2.2.2.1 z.2.2.2.2.2.1 z.2.2.2.2.2.2.1 z.2.2.2.2.2.2.2.1 (nI (plA (stZ Z) (ownK mm) n z.1).length) 1 (nI 0) (nI 0) (cB false) off left wr rc th Z) ∧ va_S A s.heap H locs ∧ k9 = z.2.2.2.2.2.2.2.2.1 ∧ n9 = z.2.2.2.2.2.2.2.2.2 ∧ z.1 ≤ (zL (Z n)).length ∧ PRP (plA (stZ Z) (ownK mm) n z.1) z.2.2.2.2.1 z.2.2.2.2.2.1 z.2.2.2.2.2.2.1 z.2.2.2.2.2.2.2.1 ∧ L ≤ z.2.2.2.2.1 ∧ 11 * z.2.2.2.2.2.2.2.2.1 + L ≤ z.2.2.2.2.1 ∧ z.2.2.2.2.2.2.2.2.2 + 6 * L ≤ 6 * z.2.2.2.2.1) (fun z => (zL (Z n)).length - z.1) (0, pk1, ps1, pt1, L1, q1, q2, q3, kc, nc) (⟨lv_sub hl [0, 1, 2, 3] rfl, by exact hP, by exact hD, hS, rfl, rfl, ⟨Nat.zero_le _, hPR, hc1, hc2, hc3⟩⟩) ?_
    intro z H locs k9 n9 ls hI ih25
    obtain ⟨k, pk1, ps1, pt1, L1, q1, q2, q3, kc, nc⟩ := z
    obtain ⟨hl, hP, hD, hS, e9, e8, hinv⟩ := hI
    try dsimp only at e9
    try dsimp only at e8
    have e9 := e9.symm
    have e8 := e8.symm
    subst e9
    subst e8
    have hP : va_P D vwCl (cW cI cS G SA sf pa no pts rf rg (nI RL.length) pk1 ps1 pt1 L1 q1 q2 q3 (nI (plA (stZ Z) (ownK mm) n k).length) 1 (nI 0) (nI 0) (cB false) off left wr rc th Z) H := hP
    have hD : va_D A (cW cI cS G SA sf pa no pts rf rg (nI RL.length) pk1 ps1 pt1 L1 q1 q2 q3 (nI (plA (stZ Z) (ownK mm) n k).length) 1 (nI 0) (nI 0) (cB false) off left wr rc th Z) := hD
    have hl : lv_has ls 5 [(3, .int (nI k)), (2, .ref (SA n)), (1, .int (nI n)), (0, .ref (G 0))] := hl
    obtain ⟨hkl, hPR, hc1, hc2, hc3⟩ : k ≤ (zL (Z n)).length ∧ PRP (plA (stZ Z) (ownK mm) n k) L1 q1 q2 q3 ∧ L ≤ L1 ∧ 11 * kc + L ≤ L1 ∧ nc + 6 * L ≤ 6 * L1 := hinv
    have hL6 := hPR.2.1
    refine lv_iload_n hx hb dX4_makePlan_25 rfl (lv_at hl 0 rfl) ?_
    refine lv_aload_n hx hb dX4_makePlan_26 rfl (lv_at hl 1 rfl) ?_
    refine va_getN (D := D) (ci := 3) (v := .int (nI (zL (Z n)).length)) (C := RX3) (T := TX3) (N := 3) hx hb ht inX3 hown hK hP (11 + 3 * n) (st_e0 (hn)) rfl 2 (by decide) (ht _ kw1_128) (fun _ h9 => h9) rfl dX4_makePlan_27 ?_
    refine lv_icmp_ge (tgt := 76) hx hb dX4_makePlan_30 (by decide) (fun c30 => ?_) (fun c30 => ?_)
    · have hke : k = (zL (Z n)).length := by
        rcases Nat.lt_or_ge k (zL (Z n)).length with q | q
        · exact absurd c30 (nI_ge q (by have := (hzs n hn).2.2; omega))
        · omega
      subst hke
      refine lv_iinc (v := nI (n + 1)) (lv' := [(1, .int (nI (n + 1))), (3, .int (nI (zL (Z n)).length)), (2, .ref (SA n)), (0, .ref (G 0))]) hx hb dX4_makePlan_76 hl (k := 2) rfl (by exact nI_1 n) (by decide) rfl (fun ls hl => ?_)
      refine lv_goto (tgt := 10) hx hb dX4_makePlan_79 (by decide) ?_
      rw [plA_nZ] at hP hD hPR
      exact ih10 (n + 1, pk1, ps1, pt1, L1, q1, q2, q3, kc, nc) _ _ _ _ ls (⟨lv_sub hl [0, 3] rfl, by exact hP, by exact hD, hS, rfl, rfl, ⟨by omega, hPR, hc1, hc2, hc3⟩⟩) (by (show 8 - (n + 1) < 8 - n); omega)
    · have hk : k < (zL (Z n)).length := by
        rcases Nat.lt_or_ge k (zL (Z n)).length with q | q
        · exact q
        · exact absurd (nI_le q (by have := (hzs n hn).2.2; omega)) c30
      have hsr1 := plA_srt (w := ownK mm) hss hv n hn k hkl
      have hkz := (hzs n hn).1.1
      refine lv_aload_n hx hb dX4_makePlan_33 rfl (lv_at hl 3 rfl) ?_
      refine va_get (D := D) (ci := 4) (v := .ref (G 1)) (C := RX4) (T := TX4) (N := 5) hx hb ht inX4 hown hK hP 0 (rfl) rfl 0 (by decide) (ht _ kw1_175) (fun _ h9 => h9) rfl dX4_makePlan_34 ?_
      refine lv_aload_n hx hb dX4_makePlan_37 rfl (lv_at hl 1 rfl) ?_
      refine va_getN (D := D) (ci := 3) (v := .ref (zK (Z n))) (C := RX3) (T := TX3) (N := 3) hx hb ht inX3 hown hK hP (11 + 3 * n) (st_e0 (hn)) rfl 0 (by decide) (ht _ kw1_125) (fun _ h9 => h9) rfl dX4_makePlan_38 ?_
      refine lv_iload_n hx hb dX4_makePlan_41 rfl (lv_at hl 0 rfl) ?_
      refine ya_iald hx hb hK hP (12 + 3 * n) 0 (st_e1 (hn)) rfl k (rfl) (by omega) (by omega) dX4_makePlan_42 ?_
      rw [((hzs n hn).1.2.2 k hk).1]
      have hPc := hP.sub (ws' := [((G 1), .inr (2, [.ref (G 2), .ref pa, .ref no, .int (nI RL.length)])), ((G 2), .inl (cI, 8, .inl pts)), (pa, .inl (cI, 128, .inl rf)), (no, .inl (cI, 128, .inl rg))]) [1, 2, 3, 4] rfl
      have hDc := hD.sub (ws' := [((G 1), .inr (2, [.ref (G 2), .ref pa, .ref no, .int (nI RL.length)])), ((G 2), .inl (cI, 8, .inl pts)), (pa, .inl (cI, 128, .inl rf)), (no, .inl (cI, 128, .inl rg))]) [1, 2, 3, 4] (by decide) rfl
      have hFc := va_free (wc := [((G 1), .inr (2, [.ref (G 2), .ref pa, .ref no, .int (nI RL.length)])), ((G 2), .inl (cI, 8, .inl pts)), (pa, .inl (cI, 128, .inl rf)), (no, .inl (cI, 128, .inl rg))]) hD hS hA [1, 2, 3, 4] rfl
      refine va_calli (va_runVN (As := [.int (kx (zL (Z n)) k)]) (rest := []) ⟨hx, hb, hml, hown, ht⟩ (c_X2_ownerOf l D cI cZ cS cJ H.size (G 1) (G 2) pa no pts rf rg mm RL hrr hrg h16 hM (kx (zL (Z n)) k)) ⟨xwN 1 ht kw2_64 kw2_61 kw1_3 rfl rfl (by decide +kernel) ⟨Nat.le_of_ble_eq_true rfl, Nat.le_of_ble_eq_true rfl⟩, ht _ kw2_63, ht _ kwS_6⟩ ⟨PB.blind, va_recv hK hPc (ci := 2) (q0 := 0) rfl rfl, fun U hU hW => PB.mk hU hW hPc hK hDc⟩ rfl rfl hl.1 rfl (lv_room (Nat.le_of_ble_eq_true rfl)) dX4_makePlan_43 ⟨by show kc + 0 ≤ 60; omega, by show nc + 0 ≤ 3700; omega⟩) hS (fun q _ h => hFc q h) hFc (fun r43 u43 t43 H1 locs ht1 hvm w43 hB hz1 hk1 hS => ?_)
      try dsimp only at w43 hB
      rw [ht1] at hB
      have hP := wk_ro hP hD [1, 2, 3, 4] rfl hk1 hB
      generalize H1 = H at hP hS ⊢
      have w43 := w43.symm
      subst w43
      refine lv_istore (lv' := [(4, .int (nI (ownK mm (kx (zL (Z n)) k)))), (3, .int (nI k)), (2, .ref (SA n)), (1, .int (nI n)), (0, .ref (G 0))]) hx hb dX4_makePlan_46 hl (by decide) rfl (fun ls hl => ?_)
      refine lv_iload hx hb dX4_makePlan_48 (lv_at hl 0 rfl) ?_
      refine lv_iload_n hx hb dX4_makePlan_50 rfl (lv_at hl 3 rfl) ?_
      refine lv_icmp_eq (tgt := 70) hx hb dX4_makePlan_51 (by decide) (fun c51 => ?_) (fun c51 => ?_)
      · have epl : plA (stZ Z) (ownK mm) n (k + 1) = plA (stZ Z) (ownK mm) n k := by rw [plA_sZ Z (ownK mm) n hk, if_pos ((nI_eq (by have := ownK_lt hM (kx (zL (Z n)) k); omega) (by omega)).mp c51)]
        refine lv_iinc (v := nI (k + 1)) (lv' := [(3, .int (nI (k + 1))), (4, .int (nI (ownK mm (kx (zL (Z n)) k)))), (2, .ref (SA n)), (1, .int (nI n)), (0, .ref (G 0))]) hx hb dX4_makePlan_70 hl (k := 1) rfl (by exact nI_1 k) (by decide) rfl (fun ls hl => ?_)
        refine lv_goto (tgt := 25) hx hb dX4_makePlan_73 (by decide) ?_
        rw [← epl] at hP hD hPR
        exact ih25 (k + 1, pk1, ps1, pt1, L1, q1, q2, q3, kc, nc) _ _ _ _ ls (⟨lv_sub hl [0, 2, 3, 4] rfl, by exact hP, by exact hD, hS, rfl, rfl, ⟨by (dsimp only); omega, hPR, hc1, hc2, hc3⟩⟩) (by (show (zL (Z n)).length - (k + 1) < (zL (Z n)).length - k); omega)
      · have epl : plA (stZ Z) (ownK mm) n (k + 1) = insP (plA (stZ Z) (ownK mm) n k) (kx (zL (Z n)) k, n, ownK mm (kx (zL (Z n)) k)) := by rw [plA_sZ Z (ownK mm) n hk, if_neg (fun q => c51 (by rw [q]))]
        refine lv_aload_n hx hb dX4_makePlan_54 rfl (lv_at hl 4 rfl) ?_
        refine va_get (D := D) (ci := 4) (v := .ref (G 4)) (C := RX4) (T := TX4) (N := 5) hx hb ht inX4 hown hK hP 0 (rfl) rfl 2 (by decide) (ht _ kw1_177) (fun _ h9 => h9) rfl dX4_makePlan_55 ?_
        refine lv_aload_n hx hb dX4_makePlan_58 rfl (lv_at hl 2 rfl) ?_
        refine va_getN (D := D) (ci := 3) (v := .ref (zK (Z n))) (C := RX3) (T := TX3) (N := 3) hx hb ht inX3 hown hK hP (11 + 3 * n) (st_e0 (hn)) rfl 0 (by decide) (ht _ kw1_125) (fun _ h9 => h9) rfl dX4_makePlan_59 ?_
        refine lv_iload_n hx hb dX4_makePlan_62 rfl (lv_at hl 1 rfl) ?_
        refine ya_iald hx hb hK hP (12 + 3 * n) 0 (st_e1 (hn)) rfl k (rfl) (by omega) (by omega) dX4_makePlan_63 ?_
        rw [((hzs n hn).1.2.2 k hk).1]
        refine lv_iload_n hx hb dX4_makePlan_64 rfl (lv_at hl 3 rfl) ?_
        refine lv_iload hx hb dX4_makePlan_65 (lv_at hl 0 rfl) ?_
        have hlt7 : (insP (plA (stZ Z) (ownK mm) n k) (kx (zL (Z n)) k, n, ownK mm (kx (zL (Z n)) k))).length ≤ 256 := by rw [← epl]; exact Nat.le_trans (plA_le (stZ Z) (ownK mm) n (k + 1) hn) h256
        rw [insP_len] at hlt7
        have hb9 : kc + 3 * (if (plA (stZ Z) (ownK mm) n k).length < L1 then 0 else 1) ≤ 60 ∧ nc + 3 * (if (plA (stZ Z) (ownK mm) n k).length < L1 then 0 else 2 * (plA (stZ Z) (ownK mm) n k).length + 1) ≤ 3700 ∧ L ≤ (if (plA (stZ Z) (ownK mm) n k).length < L1 then L1 else 2 * (plA (stZ Z) (ownK mm) n k).length + 1) ∧ 11 * (kc + 3 * (if (plA (stZ Z) (ownK mm) n k).length < L1 then 0 else 1)) + L ≤ (if (plA (stZ Z) (ownK mm) n k).length < L1 then L1 else 2 * (plA (stZ Z) (ownK mm) n k).length + 1) ∧ nc + 3 * (if (plA (stZ Z) (ownK mm) n k).length < L1 then 0 else 2 * (plA (stZ Z) (ownK mm) n k).length + 1) + 6 * L ≤ 6 * (if (plA (stZ Z) (ownK mm) n k).length < L1 then L1 else 2 * (plA (stZ Z) (ownK mm) n k).length + 1) := by
          have a1 := hPR.1
          have a2 := hPR.2.1
          split <;> omega
        obtain ⟨hb1, hb2, hb3, hb4, hb5⟩ := hb9
        have hPc := hP.sub (ws' := [((G 4), .inr (0, [.ref pk1, .ref ps1, .ref pt1, .int (nI (plA (stZ Z) (ownK mm) n k).length), .int 1, .int (nI 0), .int (nI 0), .int (cB false)])), (pk1, .inl (cI, L1, .inl q1)), (ps1, .inl (cI, L1, .inl q2)), (pt1, .inl (cI, L1, .inl q3))]) [6, 7, 8, 9] rfl
        have hDc := hD.sub (ws' := [((G 4), .inr (0, [.ref pk1, .ref ps1, .ref pt1, .int (nI (plA (stZ Z) (ownK mm) n k).length), .int 1, .int (nI 0), .int (nI 0), .int (cB false)])), (pk1, .inl (cI, L1, .inl q1)), (ps1, .inl (cI, L1, .inl q2)), (pt1, .inl (cI, L1, .inl q3))]) [6, 7, 8, 9] (by decide) rfl
        have hFc := va_free (wc := [((G 4), .inr (0, [.ref pk1, .ref ps1, .ref pt1, .int (nI (plA (stZ Z) (ownK mm) n k).length), .int 1, .int (nI 0), .int (nI 0), .int (cB false)])), (pk1, .inl (cI, L1, .inl q1)), (ps1, .inl (cI, L1, .inl q2)), (pt1, .inl (cI, L1, .inl q3))]) hD hS hA [6, 7, 8, 9] rfl
        refine va_callv (va_runVN (As := [.int (kx (zL (Z n)) k), .int (nI n), .int (nI (ownK mm (kx (zL (Z n)) k)))]) (rest := []) ⟨hx, hb, hml, hown, ht⟩ (c_X0_enter l D cI cZ cS cJ H.size (G 4) pk1 ps1 pt1 L1 q1 q2 q3 1 (plA (stZ Z) (ownK mm) n k) 0 0 false hPR (by omega) (by decide) (by decide) hsr1 (by omega) (kx (zL (Z n)) k) n (ownK mm (kx (zL (Z n)) k))) ⟨xwN 3 ht kw2_181 kw2_178 kw1_4 rfl rfl (by decide +kernel) ⟨Nat.le_of_ble_eq_true rfl, Nat.le_of_ble_eq_true rfl⟩, ht _ kw2_180, ht _ kwS_15⟩ ⟨PB.blind, va_recv hK hPc (ci := 0) (q0 := 0) rfl rfl, fun U hU hW => PB.mk hU hW hPc hK hDc⟩ rfl rfl hl.1 rfl (lv_room (Nat.le_of_ble_eq_true rfl)) dX4_makePlan_67 ⟨hb1, hb2⟩) hS (fun q _ h => hFc q h) hFc (fun u67 t67 H1 locs ht1 hvm w67 hB hz1 hk1 hS => ?_)
        try dsimp only at w67 hB
        obtain ⟨ka67, sa67, ta67, f67, g67, h67⟩ := u67
        dsimp only at w67 hB
        obtain ⟨hP1, hD1⟩ := hB
        rw [ht1] at hP1
        obtain ⟨hP, hD⟩ := wk_join (w1 := [((G 4), .inr (0, [.ref ka67, .ref sa67, .ref ta67, .int (nI (insP (plA (stZ Z) (ownK mm) n k) (kx (zL (Z n)) k, n, ownK mm (kx (zL (Z n)) k))).length), .int 1, .int (nI 0), .int (nI 0), .int (cB false)])), (ka67, .inl (cI, (if (plA (stZ Z) (ownK mm) n k).length < L1 then L1 else 2 * (plA (stZ Z) (ownK mm) n k).length + 1), .inl f67)), (sa67, .inl (cI, (if (plA (stZ Z) (ownK mm) n k).length < L1 then L1 else 2 * (plA (stZ Z) (ownK mm) n k).length + 1), .inl g67)), (ta67, .inl (cI, (if (plA (stZ Z) (ownK mm) n k).length < L1 then L1 else 2 * (plA (stZ Z) (ownK mm) n k).length + 1), .inl h67))]) hP hD [6, 7, 8, 9] rfl (by decide) rfl hk1 hFc hP1 hD1
        generalize H1 = H at hP hS ⊢
        have hP : va_P D vwCl (cW cI cS G SA sf pa no pts rf rg (nI RL.length) ka67 sa67 ta67 (if (plA (stZ Z) (ownK mm) n k).length < L1 then L1 else 2 * (plA (stZ Z) (ownK mm) n k).length + 1) f67 g67 h67 (nI (insP (plA (stZ Z) (ownK mm) n k) (kx (zL (Z n)) k, n, ownK mm (kx (zL (Z n)) k))).length) 1 (nI 0) (nI 0) (cB false) off left wr rc th Z) H := hP
        have hD : va_D A (cW cI cS G SA sf pa no pts rf rg (nI RL.length) ka67 sa67 ta67 (if (plA (stZ Z) (ownK mm) n k).length < L1 then L1 else 2 * (plA (stZ Z) (ownK mm) n k).length + 1) f67 g67 h67 (nI (insP (plA (stZ Z) (ownK mm) n k) (kx (zL (Z n)) k, n, ownK mm (kx (zL (Z n)) k))).length) 1 (nI 0) (nI 0) (cB false) off left wr rc th Z) := hD
        refine lv_iinc (v := nI (k + 1)) (lv' := [(3, .int (nI (k + 1))), (4, .int (nI (ownK mm (kx (zL (Z n)) k)))), (2, .ref (SA n)), (1, .int (nI n)), (0, .ref (G 0))]) hx hb dX4_makePlan_70 hl (k := 1) rfl (by exact nI_1 k) (by decide) rfl (fun ls hl => ?_)
        refine lv_goto (tgt := 25) hx hb dX4_makePlan_73 (by decide) ?_
        rw [← epl] at hP hD w67
        exact ih25 (k + 1, ka67, sa67, ta67, (if (plA (stZ Z) (ownK mm) n k).length < L1 then L1 else 2 * (plA (stZ Z) (ownK mm) n k).length + 1), f67, g67, h67, (kc + 3 * (if (plA (stZ Z) (ownK mm) n k).length < L1 then 0 else 1)), (nc + 3 * (if (plA (stZ Z) (ownK mm) n k).length < L1 then 0 else 2 * (plA (stZ Z) (ownK mm) n k).length + 1))) _ _ _ _ ls (⟨lv_sub hl [0, 2, 3, 4] rfl, by exact hP, by exact hD, hS, rfl, rfl, ⟨by (dsimp only); omega, w67, hb3, hb4, hb5⟩⟩) (by (show (zL (Z n)).length - (k + 1) < (zL (Z n)).length - k); omega)
