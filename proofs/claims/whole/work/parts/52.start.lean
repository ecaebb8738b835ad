-- the law: from its entry to its loop
theorem vA0 {n q : Nat} (h : va_A [] n q) : n ≤ q := h.elim (fun ⟨k, e, h⟩ => by simp at h) id
theorem swp_at {wa wb wc : va_W} {k : Nat} {q : Nat × va_E} (h : ((wa ++ wc) ++ wb)[k]? = some q) : ∃ j, ((wa ++ wb) ++ wc)[j]? = some q ∧ ((k < wa.length ∧ j = k) ∨ (wa.length ≤ k ∧ k < wa.length + wc.length ∧ j = k + wb.length) ∨ (wa.length + wc.length ≤ k ∧ k < wa.length + wc.length + wb.length ∧ j = k - wc.length)) := by
  rcases ap_at h with ⟨h1, h2⟩ | ⟨j, h1, h2⟩
  · rcases ap_at h2 with ⟨h3, h4⟩ | ⟨j, h3, h4⟩
    · refine ⟨k, ?_, Or.inl ⟨h3, rfl⟩⟩
      rw [List.getElem?_append_left (by rw [List.length_append]; omega), List.getElem?_append_left h3]; exact h4
    · have hj := (List.getElem?_eq_some_iff.mp h4).1
      refine ⟨k + wb.length, ?_, Or.inr (Or.inl ⟨by omega, by omega, rfl⟩)⟩
      rw [List.getElem?_append_right (by rw [List.length_append]; omega), List.length_append, show k + wb.length - (wa.length + wb.length) = j by omega]; exact h4
  · have hj := (List.getElem?_eq_some_iff.mp h2).1
    rw [List.length_append] at h1
    refine ⟨k - wc.length, ?_, Or.inr (Or.inr ⟨by omega, by omega, rfl⟩)⟩
    rw [List.getElem?_append_left (by rw [List.length_append]; omega), List.getElem?_append_right (by omega), show k - wc.length - wa.length = j by omega]; exact h2
theorem swp_P {D : va_G} {cl : List vw_C} {wa wb wc : va_W} {H : Heap} (h : va_P D cl ((wa ++ wb) ++ wc) H) : va_P D cl ((wa ++ wc) ++ wb) H := fun k q hk => by
  obtain ⟨j, hj, -⟩ := swp_at hk
  exact h j q hj
theorem swp_D {A : Nat → Prop} {wa wb wc : va_W} (h : va_D A ((wa ++ wb) ++ wc)) : va_D A ((wa ++ wc) ++ wb) := by
  refine ⟨fun i j p q hi hj he => ?_, fun k q hk => ?_⟩
  · obtain ⟨i', hi', ci⟩ := swp_at hi
    obtain ⟨j', hj', cj⟩ := swp_at hj
    have := h.1 i' j' p q hi' hj' he
    omega
  · obtain ⟨j, hj, -⟩ := swp_at hk
    exact h.2 j q hj
theorem AX_0 (a b : Int32) : AX 0 0 (fun _ => []) (mmk (clN 8 a) (clN 16 b)) 0 [] 0 0 false := by
  have h1 := clN_in (hi := 8) (x := a) (by decide) (by decide)
  have h2 := clN_in (hi := 16) (x := b) (by decide) (by decide)
  refine ⟨Or.inl rfl, Or.inl rfl, fun n _ => ⟨fun i j _ q => absurd q (Nat.not_lt_zero _), Nat.le_refl 0⟩, ⟨fun n _ => ?_, 0, by decide, ?_⟩, ⟨⟨fun i j _ q => absurd q (Nat.not_lt_zero _), fun k q => absurd q (Nat.not_lt_zero _), Nat.zero_le _, Nat.le_refl _, Nat.le_refl _⟩, (fun q => by cases q), fun _ => rfl, fun k q => absurd q (Nat.not_lt_zero _)⟩, fun n _ key q => ?_, (fun _ q => by cases q), Nat.zero_le _⟩
  · unfold mmk; split <;> omega
  · unfold mmk; rw [if_pos (by omega)]; omega
  · exact absurd (of_decide_eq_true q).1 (Nat.not_lt_zero _)
theorem RepM_0 (a b : Int32) {mem : Nat → Int32} (h : ∀ n, n < 8 → mem n = nI (if n < clN 8 a then clN 16 b else 0)) : RepM (0, -1, 0, 0, (fun _ => []), mmk (clN 8 a) (clN 16 b), 0, [], 0, 0, false) (0, 0, -1, 0, 0, mem, fun _ => 0, fun _ => 0, fun _ => 0, fun _ => 0, 0, 0, fun _ => 0, fun _ => 0, fun _ => 0, fun _ => 0, fun _ => 0) :=
  ⟨rfl, rfl, rfl, rfl, rfl, fun n _ => ⟨rfl, Nat.zero_le _, fun k q => absurd q (Nat.not_lt_zero _)⟩, fun n q => h n q, rfl, Nat.zero_le _, fun k q => absurd q (Nat.not_lt_zero _)⟩
theorem gv_in : ∀ w ∈ (xStr.map (fun x => Cond.exactly (Term.string RX4 x.1) "java/lang/String")) ++ [Cond.not (.castable cNSE cISE), Cond.not (.castable cIAE cIOB), Cond.not (.castable cISE cIOB), Cond.not (.castable cISE cIAE), Cond.isRef (.static Bundle.tN "UNASSIGNED_STACK" Bundle.steD), Cond.isRef (.static Bundle.tN "SUPPRESSED_SENTINEL" Bundle.listD)], w ∈ flatC (Jvm.Cond.and given_1 narrow_1) := by decide +kernel
theorem tl_in : ∀ w ∈ [Cond.arrayOver (.object "ShardRing$Store"), Cond.laysStatic Bundle.tN "UNASSIGNED_STACK" Bundle.steD, Cond.laysStatic Bundle.tN "SUPPRESSED_SENTINEL" Bundle.listD, Cond.initialized Bundle.tN], w ∈ lw_tbl := by decide +kernel
theorem sr_in : ∀ x ∈ xStr, Cond.stringRef RX4 x.1 x.2 ∈ lw_tbl := by decide +kernel
theorem TX_known {s : State} {args : Array Value} {A : Nat → Prop} (hts : ∀ w ∈ lw_tbl, w.before args s = true) (hgv : (Jvm.Cond.and given_1 narrow_1).before args s = true) (hA : ∀ a : Nat, a < s.heap.size → ¬ A a) : TX A s := by
  have hg := flat_of_before _ hgv
  refine ⟨vx_Zqof (hts _ (tl_in _ (by simp))) (hts (.initialized Bundle.tN) (tl_in _ (by simp))) (hg _ (gv_in _ (List.mem_append_right _ (by simp)))) hA, vx_Zqof (hts _ (tl_in _ (by simp))) (hts (.initialized Bundle.tN) (tl_in _ (by simp))) (hg _ (gv_in _ (List.mem_append_right _ (by simp)))) hA, fun x hx => ?_⟩
  have h := hg _ (gv_in _ (List.mem_append_left _ (List.mem_map.mpr ⟨x, hx, rfl⟩)))
  obtain ⟨a, c, cell, k, h1, -⟩ := Cond.exactly_spec (show Cond.holds args s none s [] (Cond.exactly (Term.string RX4 x.1) "java/lang/String") = true from h)
  exact ⟨a, vk_R.of (hts _ (sr_in x hx)) h1⟩
theorem NCs_known {s : State} {args : Array Value} (hgv : (Jvm.Cond.and given_1 narrow_1).before args s = true) : NCs s := by
  have hg := flat_of_before _ hgv
  exact ⟨va_Nc.of (hg _ (gv_in _ (List.mem_append_right _ (by simp)))), va_Nc.of (hg _ (gv_in _ (List.mem_append_right _ (by simp)))), va_Nc.of (hg _ (gv_in _ (List.mem_append_right _ (by simp)))), va_Nc.of (hg _ (gv_in _ (List.mem_append_right _ (by simp))))⟩
theorem K_known {s : State} {args : Array Value} (ht : ∀ w ∈ TB, w.before args s = true) (hAO : va_AO "ShardRing$Store" s) : ∃ (D : va_G) (cI cZ cS cJ : ClassId), va_K D vwCl (KT cI cZ cS cJ) s := by
  obtain ⟨c0, i0, hK0⟩ := u_known (C := RX0) (T := TX0) (N := 8) (n := 8) ht inX0 (ht _ kw1_58)
  obtain ⟨c1, i1, hK1⟩ := u_known (C := RX1) (T := TX1) (N := 4) (n := 4) ht inX1 (ht _ kw1_97)
  obtain ⟨c2, i2, hK2⟩ := u_known (C := RX2) (T := TX2) (N := 4) (n := 4) ht inX2 (ht _ kw1_34)
  obtain ⟨c3, i3, hK3⟩ := u_known (C := RX3) (T := TX3) (N := 3) (n := 3) ht inX3 (ht _ kw1_119)
  obtain ⟨c4, i4, hK4⟩ := u_known (C := RX4) (T := TX4) (N := 5) (n := 5) ht inX4 (ht _ kw1_20)
  obtain ⟨c5, i5, hK5⟩ := u_known (C := RX5) (T := TX5) (N := 17) (n := 17) ht inX5 (ht _ kw3_75)
  have hK : va_K ((fun k => [c0, c1, c2, c3, c4, c5].getD k c0, fun k => [i0, i1, i2, i3, i4, i5].getD k i0) : va_G) vwCl [] s := by
    refine ⟨fun k q hq => ?_, fun k q h => by simp at h⟩
    match k, hq with
    | 0, hq => cases hq; exact hK0
    | 1, hq => cases hq; exact hK1
    | 2, hq => cases hq; exact hK2
    | 3, hq => cases hq; exact hK3
    | 4, hq => cases hq; exact hK4
    | 5, hq => cases hq; exact hK5
    | k + 6, hq => simp at hq
  exact ⟨_, KT_known hK (ht _ kw1_54) (ht _ kw3_132) (ht _ kw4_83) hAO⟩
set_option maxHeartbeats 4000000 in
set_option maxRecDepth 100000 in
theorem whole_start {p : Program} {e : Env} {s : State} {m : MethodId} {below : List Frame} {meth : Method} {c : Code} (l : Launch) (hl0 : l.stackTraces = false) {b L : Nat} {xs : Nat → Int32} (hL : L ≤ 1538) (C0 : lw_At p s m meth c b L xs) : W p l e room_1 s m #[Value.ref b] below meth c s.heap [] 0 0 (lw_Z below #[Value.ref b] s) (entryFrame m ([Value.ref b] : List Value).toArray 8) := by
  obtain ⟨hx, hb, hr, hml, hown, hts, hX, hbl, hlocks, hgv⟩ := id C0
  have ht : ∀ w ∈ TB, w.before #[Value.ref b] s = true := fun w h => hts w (List.mem_filter.mp h).1
  have hb : c.code = cL_law := hb
  have hown : s.vm.findClass RLw = some m.cls := hown
  obtain ⟨A, hAe⟩ : ∃ A : Nat → Prop, A = fun q : Nat => s.heap.size ≤ q := ⟨_, rfl⟩
  have hA : ∀ q : Nat, s.heap.size ≤ q → A q := fun q h => by rw [hAe]; exact h
  have hbA : ¬ A b := by rw [hAe]; exact Nat.not_le.mpr hbl
  have hnA : ∀ a : Nat, a < s.heap.size → ¬ A a := fun a h => by rw [hAe]; exact Nat.not_le.mpr h
  have hTX : TX A s := TX_known hts hgv hnA
  have hNC : NCs s := NCs_known hgv
  have hAO : va_AO "ShardRing$Store" s := va_AO.of (hts _ (tl_in (.arrayOver (.object "ShardRing$Store")) (by simp)))
  obtain ⟨D, cI, cZ, cS, cJ, hK⟩ := K_known ht hAO
  have hS : va_S A s.heap s.heap [] := va_S.rf
  have hP : va_P D vwCl [] s.heap := fun k q h => by simp at h
  have hD : va_D A [] := ⟨fun i j p q h => by simp at h, fun k q h => by simp at h⟩
  have hl := lv_entry ([.ref b]) (n := 8) (Nat.le_of_ble_eq_true rfl)
  rw [lg_entry_eq]
  generalize (lg_sl ([.ref b]) ++ List.replicate (8 - (lg_sl ([.ref b])).length) Slot.unset).toArray = ls at hl ⊢
  have hl : lv_has ls 8 [(0, .ref b)] := hl
  refine va_new (ci := 4) (fs := [.null, .null, .null, .null, .int 0]) (C := RX4) (T := TX4) (N := 5) hx hb ht inX4 tyX4 tyX4_ok hown (ht _ kw1_19) (ht _ kw1_20) (ht _ kw1_1) hK hP hD hS hA rfl (fun j hj => by rcases (show j = 0 ∨ j = 1 ∨ j = 2 ∨ j = 3 ∨ j = 4 by omega) with rfl | rfl | rfl | rfl | rfl <;> rfl) (Nat.le_of_ble_eq_true rfl) (Nat.le_of_ble_eq_true rfl) dL_law_0 (fun q0 H hP hD hS => ?_)
  have hP : va_P D vwCl [(q0, .inr (4, [.null, .null, .null, .null, .int 0]))] H := hP
  have hD : va_D A [(q0, .inr (4, [.null, .null, .null, .null, .int 0]))] := hD
  refine lv_dup hx hb dL_law_3 rfl ?_
  refine lv_aload_n hx hb dL_law_4 rfl (lv_at hl 0 rfl) ?_
  refine lv_iconst (v := nI 0) hx hb dL_law_5 (by decide) ?_
  refine va_calli (va_runS (As := [.ref b, .int (nI 0)]) (rest := [.ref q0, .ref q0]) ⟨hx, hb, hml, hown, ht⟩ (c_L_cell l H.size b L xs (by omega) 0 (by decide)) (xwS 2 ht kw1_206 kw1_204 kw1_0 kw1_205 rfl rfl (by decide +kernel) ⟨Nat.le_of_ble_eq_true rfl, Nat.le_of_ble_eq_true rfl⟩) ⟨PCl.blind, fun U hU hW => PCl.mk hU hW hX hbl hbA hS⟩ rfl rfl hl.1 rfl (lv_room (Nat.le_of_ble_eq_true rfl)) dL_law_6 ⟨Nat.le_of_ble_eq_true rfl, Nat.le_of_ble_eq_true rfl⟩) hS (fun q hq h => absurd hq (Nat.not_lt.mpr (vA0 h))) (fun q h => hA q (Nat.le_trans hS.1 (vA0 h))) (fun r6 u6 t6 H1 locs ht1 hvm w6 hB hz1 hk1 hS => ?_)
  try dsimp only at w6
  have hP := hP.kept (fun k q hq => hk1 q.1 (hP k q hq).lt (fun z => absurd (hP k q hq).lt (Nat.not_lt.mpr (vA0 z))))
  clear hz1 hk1 hB ht1 hvm
  generalize H1 = H at hP hS ⊢
  refine lv_aload_n hx hb dL_law_9 rfl (lv_at hl 0 rfl) ?_
  refine lv_iconst (v := nI 1) hx hb dL_law_10 (by decide) ?_
  refine va_calli (va_runS (As := [.ref b, .int (nI 1)]) (rest := [.int r6, .ref q0, .ref q0]) ⟨hx, hb, hml, hown, ht⟩ (c_L_cell l H.size b L xs (by omega) 1 (by decide)) (xwS 2 ht kw1_206 kw1_204 kw1_0 kw1_205 rfl rfl (by decide +kernel) ⟨Nat.le_of_ble_eq_true rfl, Nat.le_of_ble_eq_true rfl⟩) ⟨PCl.blind, fun U hU hW => PCl.mk hU hW hX hbl hbA hS⟩ rfl rfl hl.1 rfl (lv_room (Nat.le_of_ble_eq_true rfl)) dL_law_11 ⟨Nat.le_of_ble_eq_true rfl, Nat.le_of_ble_eq_true rfl⟩) hS (fun q hq h => absurd hq (Nat.not_lt.mpr (vA0 h))) (fun q h => hA q (Nat.le_trans hS.1 (vA0 h))) (fun r11 u11 t11 H1 locs ht1 hvm w11 hB hz1 hk1 hS => ?_)
  try dsimp only at w11
  have hP := hP.kept (fun k q hq => hk1 q.1 (hP k q hq).lt (fun z => absurd (hP k q hq).lt (Nat.not_lt.mpr (vA0 z))))
  clear hz1 hk1 hB ht1 hvm
  generalize H1 = H at hP hS ⊢
  have hFc := wfree hD hS hA
  refine va_callv (va_runI (As := [.int r6, .int r11]) (rest := [.ref q0]) ⟨hx, hb, hml, hown, ht⟩ (c_X4_init l D cI cZ cS cJ H.size q0 r6 r11) (xwI 2 ht kw1_23 kw1_21 kw1_1 kw1_22 rfl rfl rfl (by decide +kernel) ⟨Nat.le_of_ble_eq_true rfl, Nat.le_of_ble_eq_true rfl⟩) ⟨PO.blind, fun U hU hW => PO.mk hU hW hP hK hD hAO⟩ rfl rfl hl.1 rfl (lv_room (Nat.le_of_ble_eq_true rfl)) dL_law_14 ⟨Nat.le_of_ble_eq_true rfl, Nat.le_of_ble_eq_true rfl⟩) hS (fun q _ h => hFc q h) hFc (fun u14 t14 H1 locs ht1 hvm w14 hB hz1 hk1 hS => ?_)
  obtain ⟨G, SA, sf, u⟩ := u14
  try dsimp only at w14 hB
  obtain ⟨hG0, hsf, hciu, hthu, hsg⟩ := w14
  obtain ⟨hP1, hD1⟩ := hB
  rw [ht1] at hP1
  have hPn := hP1
  have hDn : va_D A (cWu cI cS G SA sf u) := ⟨hD1.1, fun k q h => hFc _ (hD1.2 k q h)⟩
  clear hz1 hk1 hP1 hD1 hFc ht1 hvm
  generalize H1 = H at hPn hS ⊢
  subst hG0
  have hP := hPn
  have hD := hDn
  clear hPn hDn
  refine lv_astore_n (lv' := [(1, .ref (G 0)), (0, .ref b)]) hx hb dL_law_17 rfl hl (by decide) rfl (fun ls hl => ?_)
  refine va_new (ci := 5) (fs := [.int 0, .int 0, .int 0, .int 0, .int 0, .null, .null, .null, .null, .null, .int 0, .int 0, .null, .null, .null, .null, .null]) (C := RX5) (T := TX5) (N := 17) hx hb ht inX5 tyX5 tyX5_ok hown (ht _ kw3_74) (ht _ kw3_75) (ht _ kw1_11) hK hP hD hS hA rfl (fun j hj => by rcases (show j = 0 ∨ j = 1 ∨ j = 2 ∨ j = 3 ∨ j = 4 ∨ j = 5 ∨ j = 6 ∨ j = 7 ∨ j = 8 ∨ j = 9 ∨ j = 10 ∨ j = 11 ∨ j = 12 ∨ j = 13 ∨ j = 14 ∨ j = 15 ∨ j = 16 by omega) with rfl | rfl | rfl | rfl | rfl | rfl | rfl | rfl | rfl | rfl | rfl | rfl | rfl | rfl | rfl | rfl | rfl <;> rfl) (Nat.le_of_ble_eq_true rfl) (Nat.le_of_ble_eq_true rfl) dL_law_18 (fun q18 H hP hD hS => ?_)
  refine lv_dup hx hb dL_law_21 rfl ?_
  refine lv_aload_n hx hb dL_law_22 rfl (lv_at hl 1 rfl) ?_
  refine lv_iconst (v := nI 0) hx hb dL_law_23 (by decide) ?_
  refine va_calli (va_runS (As := [.ref b, .int (nI 0)]) (rest := [.ref q18, .ref q18]) ⟨hx, hb, hml, hown, ht⟩ (c_L_cell l H.size b L xs (by omega) 0 (by decide)) (xwS 2 ht kw1_206 kw1_204 kw1_0 kw1_205 rfl rfl (by decide +kernel) ⟨Nat.le_of_ble_eq_true rfl, Nat.le_of_ble_eq_true rfl⟩) ⟨PCl.blind, fun U hU hW => PCl.mk hU hW hX hbl hbA hS⟩ rfl rfl hl.1 rfl (lv_room (Nat.le_of_ble_eq_true rfl)) dL_law_24 ⟨Nat.le_of_ble_eq_true rfl, Nat.le_of_ble_eq_true rfl⟩) hS (fun q hq h => absurd hq (Nat.not_lt.mpr (vA0 h))) (fun q h => hA q (Nat.le_trans hS.1 (vA0 h))) (fun r24 u24 t24 H1 locs ht1 hvm w24 hB hz1 hk1 hS => ?_)
  try dsimp only at w24
  have hP := hP.kept (fun k q hq => hk1 q.1 (hP k q hq).lt (fun z => absurd (hP k q hq).lt (Nat.not_lt.mpr (vA0 z))))
  clear hz1 hk1 hB ht1 hvm
  generalize H1 = H at hP hS ⊢
  refine lv_aload_n hx hb dL_law_27 rfl (lv_at hl 1 rfl) ?_
  refine lv_iconst (v := nI 1) hx hb dL_law_28 (by decide) ?_
  refine va_calli (va_runS (As := [.ref b, .int (nI 1)]) (rest := [.int r24, .ref q18, .ref q18]) ⟨hx, hb, hml, hown, ht⟩ (c_L_cell l H.size b L xs (by omega) 1 (by decide)) (xwS 2 ht kw1_206 kw1_204 kw1_0 kw1_205 rfl rfl (by decide +kernel) ⟨Nat.le_of_ble_eq_true rfl, Nat.le_of_ble_eq_true rfl⟩) ⟨PCl.blind, fun U hU hW => PCl.mk hU hW hX hbl hbA hS⟩ rfl rfl hl.1 rfl (lv_room (Nat.le_of_ble_eq_true rfl)) dL_law_29 ⟨Nat.le_of_ble_eq_true rfl, Nat.le_of_ble_eq_true rfl⟩) hS (fun q hq h => absurd hq (Nat.not_lt.mpr (vA0 h))) (fun q h => hA q (Nat.le_trans hS.1 (vA0 h))) (fun r29 u29 t29 H1 locs ht1 hvm w29 hB hz1 hk1 hS => ?_)
  try dsimp only at w29
  have hP := hP.kept (fun k q hq => hk1 q.1 (hP k q hq).lt (fun z => absurd (hP k q hq).lt (Nat.not_lt.mpr (vA0 z))))
  clear hz1 hk1 hB ht1 hvm
  generalize H1 = H at hP hS ⊢
  have hPc := pp_r hP
  have hDc := pd_r hD
  have hFc := wfree hDc hS hA
  refine va_callv (va_runI (As := [.int r24, .int r29]) (rest := [.ref q18]) ⟨hx, hb, hml, hown, ht⟩ (c_X5_init l D cI cZ cS cJ H.size q18 r24 r29) (xwI 2 ht kw3_78 kw3_76 kw1_11 kw3_77 rfl rfl rfl (by decide +kernel) ⟨Nat.le_of_ble_eq_true rfl, Nat.le_of_ble_eq_true rfl⟩) ⟨PB.blind, fun U hU hW => PB.mk hU hW hPc hK hDc⟩ rfl rfl hl.1 rfl (lv_room (Nat.le_of_ble_eq_true rfl)) dL_law_32 ⟨Nat.le_of_ble_eq_true rfl, Nat.le_of_ble_eq_true rfl⟩) hS (fun q _ h => hFc q h) hFc (fun u32 t32 H1 locs ht1 hvm w32 hB hz1 hk1 hS => ?_)
  obtain ⟨M, mem⟩ := u32
  try dsimp only at w32 hB
  obtain ⟨hM0, hmem⟩ := w32
  obtain ⟨hP1, hD1⟩ := hB
  rw [ht1] at hP1
  obtain ⟨hPn, hDn⟩ := pj_r hP hD hk1 hFc hP1 hD1
  clear hz1 hk1 hP1 hD1 hFc hPc hDc ht1 hvm
  generalize H1 = H at hPn hS ⊢
  subst hM0
  have hP := hPn
  have hD := hDn
  clear hPn hDn
  refine lv_astore_n (lv' := [(2, .ref (M 0)), (1, .ref (G 0)), (0, .ref b)]) hx hb dL_law_35 rfl hl (by decide) rfl (fun ls hl => ?_)
  refine lv_iconst (v := 1) hx hb dL_law_36 (by decide) ?_
  refine ya_newa (atype := .long) (ty := .long) hx hb (ht _ kw4_83) rfl (fun C h => by cases h) hK 3 rfl hP hD hS hA (a0 := (1, .inr (.inl (fun _ => 0)))) (fun _ => rfl) (by decide) (by decide +kernel) (by decide +kernel) (Nat.le_of_ble_eq_true rfl) (Nat.le_of_ble_eq_true rfl) dL_law_37 (fun o H hP hD hS => ?_)
  refine lv_astore_n (lv' := [(3, .ref o), (2, .ref (M 0)), (1, .ref (G 0)), (0, .ref b)]) hx hb dL_law_39 rfl hl (by decide) rfl (fun ls hl => ?_)
  refine lv_iconst (v := nI 2) hx hb dL_law_40 (by decide) ?_
  refine lv_istore (lv' := [(4, .int (nI 2)), (3, .ref o), (2, .ref (M 0)), (1, .ref (G 0)), (0, .ref b)]) hx hb dL_law_41 hl (by decide) rfl (fun ls hl => ?_)
  refine W.widen (k := 100) (n := 20000) (Nat.le_of_ble_eq_true rfl) (Nat.le_of_ble_eq_true rfl) ?_
  have e1 : r24 = r6 := w24.trans w6.symm
  have e2 : r29 = r11 := w29.trans w11.symm
  subst e1
  subst e2
  have hI : LSt s D cI cZ cS cJ G SA sf M o A 0 u (0, 0, -1, 0, 0, mem, fun _ => 0, fun _ => 0, fun _ => 0, fun _ => 0, 0, 0, fun _ => 0, fun _ => 0, fun _ => 0, fun _ => 0, fun _ => 0) (fun _ => 0) H locs := by
    refine ⟨swp_P hP, swp_D hD, hS, ?_, hciu, ?_, ?_⟩
    · rw [hsg]; exact RepM_0 _ _ hmem
    · rw [hsg]; exact AX_0 _ _
    · rw [hthu, hsg]; rfl
  exact law_loop hl0 ⟨hx, hb, hml, hown, ht, hX, hbl, hK, hTX, hNC, hsf, hL, hAe⟩ hr hlocks hI hl
