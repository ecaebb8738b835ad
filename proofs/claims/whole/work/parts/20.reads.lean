-- the reference: remove, get and the reads

set_option maxHeartbeats 4000000 in
set_option maxRecDepth 100000 in
theorem c_X5_remove (l : Launch) (D : va_G) (cI cZ cS cJ : ClassId) (sz : Nat) (G : Nat → Nat) (code off left wr rc : Int32) (mem oth ks vs sx : Nat → Int32) (pl ps : Int32) (pk sr tg fl xs : Nat → Int32) (st : Nat → List (Int32 × Int32)) (hst : RS st ks vs sx) (mm : Nat → Nat) (hmm : ∀ n, n < 8 → mem n = nI (mm n)) (hM : MM mm) (rows : List (Int32 × Nat × Nat)) (F Gn : Nat) (C : Bool) (hrp : RP rows F Gn C ps pk sr tg fl xs) (hsr : Srt (pkl rows)) (hpl : pl = 1 ∨ (pl = 0 ∧ rows = [])) (hp8 : P8 rows) (hoff : off = 0 ∨ off = 1) (key : Int32) : Met l yX5_remove (Cond.code yX5_remove cX5_remove 3 (some .int) :: TB) ({ frames := 5, cells := 0, slots := 0, locals := 116 } : Room) (va_Pc [.ref (G 0), .int key] (PB D (KT cI cZ cS cJ) (mW cI cZ G code off left wr rc mem oth ks vs sx pl ps pk sr tg fl xs) sz)) (va_Qi (fun r (u : MT) => ∃ σ, remF off left wr rc st mm pl rows F Gn C key = (u.1, r, σ) ∧ RepM σ u) (fun (u : MT) t => va_P D vwCl (mWu cI cZ G u) t.heap ∧ va_D (va_A (mW cI cZ G code off left wr rc mem oth ks vs sx pl ps pk sr tg fl xs) sz) (mWu cI cZ G u)) (va_A (mW cI cZ G code off left wr rc mem oth ks vs sx pl ps pk sr tg fl xs) sz)) 0 0 (va_A (mW cI cZ G code off left wr rc mem oth ks vs sx pl ps pk sr tg fl xs) sz) := by
  refine Met.ofW (cc := cX5_remove) (maxL := 3) (ret := (some .int)) (by decide) rfl ?_
  intro p e s m args below meth c s₁ B hml hv
  obtain ⟨rfl, hsz, hP, hK, hD0⟩ := hv
  have hx := B.exec
  have hb := B.bytes
  have hr := B.returns
  have hts := atoms_spec (ws := (Cond.code yX5_remove cX5_remove 3 (some .int) :: TB)) B.pre
  have ht : ∀ w ∈ TB, w.before _ s = true := fun w h => hts w (List.mem_cons_of_mem _ h)
  have hown : s.vm.findClass RX5 = some m.cls := findClass_of_methodNamed B.named
  have hlocks := B.notSynchronized
  subst hsz
  have hD := hD0.self (sz := s.heap.size)
  generalize hAe : va_A (mW cI cZ G code off left wr rc mem oth ks vs sx pl ps pk sr tg fl xs) s.heap.size = A at hD ⊢
  have hA : ∀ q : Nat, s.heap.size ≤ q → A q := fun q h => by rw [← hAe]; exact Or.inr h
  have hS : va_S A s.heap s.heap [] := va_S.rf
  have hP : va_P D vwCl (mW cI cZ G code off left wr rc mem oth ks vs sx pl ps pk sr tg fl xs) s.heap := hP
  have hl := lv_entry ([.ref (G 0), .int key]) (n := 3) (Nat.le_of_ble_eq_true rfl)
  rw [lg_entry_eq]
  generalize (lg_sl ([.ref (G 0), .int key]) ++ List.replicate (3 - (lg_sl ([.ref (G 0), .int key])).length) Slot.unset).toArray = ls at hl ⊢
  have hl : lv_has ls 3 [(0, .ref (G 0)), (1, .int key)] := hl
  refine lv_aload_n hx hb dX5_remove_0 rfl (lv_at hl 0 rfl) ?_
  have hPc := hP.sub (ws' := mW cI cZ G code off left wr rc mem oth ks vs sx pl ps pk sr tg fl xs) [0, 1, 2, 3, 4, 5, 6, 7, 8, 9, 10] rfl
  have hDc := hD.sub (ws' := mW cI cZ G code off left wr rc mem oth ks vs sx pl ps pk sr tg fl xs) [0, 1, 2, 3, 4, 5, 6, 7, 8, 9, 10] (by decide) rfl
  have hFc := va_free (wc := mW cI cZ G code off left wr rc mem oth ks vs sx pl ps pk sr tg fl xs) hD hS hA [0, 1, 2, 3, 4, 5, 6, 7, 8, 9, 10] rfl
  refine va_calli (va_runV (As := []) (rest := []) ⟨hx, hb, hml, hown, ht⟩ (c_X5_isOff l D cI cZ cS cJ s.heap.size G code off left wr rc mem oth ks vs sx pl ps pk sr tg fl xs hoff) (xwV 0 ht kw3_152 kw3_149 kw1_11 kw3_151 kwS_24 rfl rfl (by decide +kernel) ⟨Nat.le_of_ble_eq_true rfl, Nat.le_of_ble_eq_true rfl⟩) ⟨PB.blind, va_recv hK hPc (ci := 5) (q0 := 0) rfl rfl, fun U hU hW => PB.mk hU hW hPc hK hDc⟩ rfl rfl hl.1 rfl (lv_room (Nat.le_of_ble_eq_true rfl)) dX5_remove_1 ⟨Nat.le_of_ble_eq_true rfl, Nat.le_of_ble_eq_true rfl⟩) hS (fun q _ h => hFc q h) hFc (fun r1 u1 t1 H1 locs ht1 hvm w1 hB hz1 hk1 hS => ?_)
  try dsimp only at w1 hB
  obtain ⟨hP1, hD1⟩ := hB
  rw [ht1] at hP1
  obtain ⟨hP, hD⟩ := wk_join (w1 := (mW cI cZ G off off left wr rc mem oth ks vs sx pl ps pk sr tg fl xs)) hP hD [0, 1, 2, 3, 4, 5, 6, 7, 8, 9, 10] rfl (by decide) rfl hk1 hFc hP1 hD1
  generalize H1 = H at hP hS ⊢
  have hP : va_P D vwCl (mW cI cZ G off off left wr rc mem oth ks vs sx pl ps pk sr tg fl xs) H := hP
  have hD : va_D A (mW cI cZ G off off left wr rc mem oth ks vs sx pl ps pk sr tg fl xs) := hD
  have w1 := w1.symm
  subst w1
  refine lv_if_ne (tgt := 15) hx hb dX5_remove_4 (by decide) (fun c4 => ?_) (fun c4 => ?_)
  · have ho : ¬ off = 0 := c4
    refine lv_iconst (v := 0) hx hb dX5_remove_15 (by decide) ?_
    exact W.iret (v := 0) hx hb hr (fun t ht2 hW => ⟨⟨0, (off, off, left, wr, rc, mem, oth, ks, vs, sx, pl, ps, pk, sr, tg, fl, xs), rfl, by
          (try dsimp only)
          (try dsimp only)
          refine ⟨(off, left, wr, rc, st, mm, pl, rows, F, Gn, C), ?_, RepM.mk hst hmm hrp⟩
          unfold remF
          rw [if_pos ho]
          try (first | rw [hoff.resolve_left ho] | (have e0 : off = 0 := Decidable.not_not.mp ho; rw [e0])), ⟨by (try dsimp only); rw [ht2]; exact hP, by exact hD⟩⟩, hS.F ht2⟩) hS.2.2 dX5_remove_16
  · have ho : ¬ ¬ off = 0 := fun q => q c4
    refine lv_aload_n hx hb dX5_remove_7 rfl (lv_at hl 0 rfl) ?_
    refine lv_iload_n hx hb dX5_remove_8 rfl (lv_at hl 1 rfl) ?_
    have hPc := hP.sub (ws' := mW cI cZ G off off left wr rc mem oth ks vs sx pl ps pk sr tg fl xs) [0, 1, 2, 3, 4, 5, 6, 7, 8, 9, 10] rfl
    have hDc := hD.sub (ws' := mW cI cZ G off off left wr rc mem oth ks vs sx pl ps pk sr tg fl xs) [0, 1, 2, 3, 4, 5, 6, 7, 8, 9, 10] (by decide) rfl
    have hFc := va_free (wc := mW cI cZ G off off left wr rc mem oth ks vs sx pl ps pk sr tg fl xs) hD hS hA [0, 1, 2, 3, 4, 5, 6, 7, 8, 9, 10] rfl
    refine va_calli (va_runV (As := [.int key]) (rest := []) ⟨hx, hb, hml, hown, ht⟩ (c_X5_isThere l D cI cZ cS cJ H.size G off off left wr rc mem oth ks vs sx pl ps pk sr tg fl xs st hst rows F Gn C hrp hsr hpl mm hmm hM hp8 key) (xwV 1 ht kw3_156 kw3_153 kw1_11 kw3_155 kwS_25 rfl rfl (by decide +kernel) ⟨Nat.le_of_ble_eq_true rfl, Nat.le_of_ble_eq_true rfl⟩) ⟨PB.blind, va_recv hK hPc (ci := 5) (q0 := 0) rfl rfl, fun U hU hW => PB.mk hU hW hPc hK hDc⟩ rfl rfl hl.1 rfl (lv_room (Nat.le_of_ble_eq_true rfl)) dX5_remove_9 ⟨Nat.le_of_ble_eq_true rfl, Nat.le_of_ble_eq_true rfl⟩) hS (fun q _ h => hFc q h) hFc (fun r9 u9 t9 H1 locs ht1 hvm w9 hB hz1 hk1 hS => ?_)
    try dsimp only at w9 hB
    rw [ht1] at hB
    have hP := wk_ro hP hD [0, 1, 2, 3, 4, 5, 6, 7, 8, 9, 10] rfl hk1 hB
    generalize H1 = H at hP hS ⊢
    refine lv_if_ne (tgt := 17) hx hb dX5_remove_12 (by decide) (fun c12 => ?_) (fun c12 => ?_)
    · have hwas : hs (st (homeF mm rows F key)) key = true := by
        rcases Bool.eq_false_or_eq_true (hs (st (homeF mm rows F key)) key) with q | q
        · exact q
        · exact absurd (by rw [w9, q]; rfl) c12
      have hwn : ¬ ¬ hs (st (homeF mm rows F key)) key = true := fun q => q hwas
      refine lv_aload_n hx hb dX5_remove_17 rfl (lv_at hl 0 rfl) ?_
      refine lv_iload_n hx hb dX5_remove_18 rfl (lv_at hl 1 rfl) ?_
      have hPc := hP.sub (ws' := mW cI cZ G off off left wr rc mem oth ks vs sx pl ps pk sr tg fl xs) [0, 1, 2, 3, 4, 5, 6, 7, 8, 9, 10] rfl
      have hDc := hD.sub (ws' := mW cI cZ G off off left wr rc mem oth ks vs sx pl ps pk sr tg fl xs) [0, 1, 2, 3, 4, 5, 6, 7, 8, 9, 10] (by decide) rfl
      have hFc := va_free (wc := mW cI cZ G off off left wr rc mem oth ks vs sx pl ps pk sr tg fl xs) hD hS hA [0, 1, 2, 3, 4, 5, 6, 7, 8, 9, 10] rfl
      refine va_calli (va_runV (As := [.int key]) (rest := []) ⟨hx, hb, hml, hown, ht⟩ (c_X5_planned l D cI cZ cS cJ H.size G off off left wr rc mem oth ks vs sx pl ps pk sr tg fl xs rows F Gn C hrp hsr hpl key) (xwV 1 ht kw3_164 kw3_161 kw1_11 kw3_163 kwS_27 rfl rfl (by decide +kernel) ⟨Nat.le_of_ble_eq_true rfl, Nat.le_of_ble_eq_true rfl⟩) ⟨PB.blind, va_recv hK hPc (ci := 5) (q0 := 0) rfl rfl, fun U hU hW => PB.mk hU hW hPc hK hDc⟩ rfl rfl hl.1 rfl (lv_room (Nat.le_of_ble_eq_true rfl)) dX5_remove_19 ⟨Nat.le_of_ble_eq_true rfl, Nat.le_of_ble_eq_true rfl⟩) hS (fun q _ h => hFc q h) hFc (fun r19 u19 t19 H1 locs ht1 hvm w19 hB hz1 hk1 hS => ?_)
      try dsimp only at w19 hB
      rw [ht1] at hB
      have hP := wk_ro hP hD [0, 1, 2, 3, 4, 5, 6, 7, 8, 9, 10] rfl hk1 hB
      generalize H1 = H at hP hS ⊢
      refine lv_istore_n (lv' := [(2, .int r19), (0, .ref (G 0)), (1, .int key)]) hx hb dX5_remove_22 rfl hl (by decide) rfl (fun ls hl => ?_)
      refine lv_aload_n hx hb dX5_remove_23 rfl (lv_at hl 1 rfl) ?_
      have hPc := hP.sub (ws' := mW cI cZ G off off left wr rc mem oth ks vs sx pl ps pk sr tg fl xs) [0, 1, 2, 3, 4, 5, 6, 7, 8, 9, 10] rfl
      have hDc := hD.sub (ws' := mW cI cZ G off off left wr rc mem oth ks vs sx pl ps pk sr tg fl xs) [0, 1, 2, 3, 4, 5, 6, 7, 8, 9, 10] (by decide) rfl
      have hFc := va_free (wc := mW cI cZ G off off left wr rc mem oth ks vs sx pl ps pk sr tg fl xs) hD hS hA [0, 1, 2, 3, 4, 5, 6, 7, 8, 9, 10] rfl
      refine va_calli (va_runV (As := []) (rest := []) ⟨hx, hb, hml, hown, ht⟩ (c_X5_writes l D cI cZ cS cJ H.size G off off left wr rc mem oth ks vs sx pl ps pk sr tg fl xs ) (xwV 0 ht kw3_188 kw3_185 kw1_11 kw3_187 kwS_31 rfl rfl (by decide +kernel) ⟨Nat.le_of_ble_eq_true rfl, Nat.le_of_ble_eq_true rfl⟩) ⟨PB.blind, va_recv hK hPc (ci := 5) (q0 := 0) rfl rfl, fun U hU hW => PB.mk hU hW hPc hK hDc⟩ rfl rfl hl.1 rfl (lv_room (Nat.le_of_ble_eq_true rfl)) dX5_remove_24 ⟨Nat.le_of_ble_eq_true rfl, Nat.le_of_ble_eq_true rfl⟩) hS (fun q _ h => hFc q h) hFc (fun r24 u24 t24 H1 locs ht1 hvm w24 hB hz1 hk1 hS => ?_)
      try dsimp only at w24 hB
      obtain ⟨hP1, hD1⟩ := hB
      rw [ht1] at hP1
      obtain ⟨hP, hD⟩ := wk_join (w1 := (mW cI cZ G off (wOff left off) (wLeft left) (wInc left wr) rc mem oth ks vs sx pl ps pk sr tg fl xs)) hP hD [0, 1, 2, 3, 4, 5, 6, 7, 8, 9, 10] rfl (by decide) rfl hk1 hFc hP1 hD1
      generalize H1 = H at hP hS ⊢
      have hP : va_P D vwCl (mW cI cZ G off (wOff left off) (wLeft left) (wInc left wr) rc mem oth ks vs sx pl ps pk sr tg fl xs) H := hP
      have hD : va_D A (mW cI cZ G off (wOff left off) (wLeft left) (wInc left wr) rc mem oth ks vs sx pl ps pk sr tg fl xs) := hD
      refine lv_if_ne (tgt := 33) hx hb dX5_remove_27 (by decide) (fun c27 => ?_) (fun c27 => ?_)
      · have hl1 : ¬ left = 0 := wOk_1 (by rw [← w24]; exact c27)
        rw [show wOff left off = off from if_neg hl1, show wInc left wr = wr + 1 from if_neg hl1] at hP hD
        refine lv_aload_n hx hb dX5_remove_33 rfl (lv_at hl 1 rfl) ?_
        refine lv_aload_n hx hb dX5_remove_34 rfl (lv_at hl 1 rfl) ?_
        refine lv_iload_n hx hb dX5_remove_35 rfl (lv_at hl 2 rfl) ?_
        have hPc := hP.sub (ws' := mW cI cZ G off off (wLeft left) (wr + 1) rc mem oth ks vs sx pl ps pk sr tg fl xs) [0, 1, 2, 3, 4, 5, 6, 7, 8, 9, 10] rfl
        have hDc := hD.sub (ws' := mW cI cZ G off off (wLeft left) (wr + 1) rc mem oth ks vs sx pl ps pk sr tg fl xs) [0, 1, 2, 3, 4, 5, 6, 7, 8, 9, 10] (by decide) rfl
        have hFc := va_free (wc := mW cI cZ G off off (wLeft left) (wr + 1) rc mem oth ks vs sx pl ps pk sr tg fl xs) hD hS hA [0, 1, 2, 3, 4, 5, 6, 7, 8, 9, 10] rfl
        refine va_calli (va_runV (As := [.int key]) (rest := [.ref (G 0)]) ⟨hx, hb, hml, hown, ht⟩ (c_X5_homeOf l D cI cZ cS cJ H.size G off off (wLeft left) (wr + 1) rc mem oth ks vs sx pl ps pk sr tg fl xs rows F Gn C hrp hsr hpl mm hmm hM key) (xwV 1 ht kw3_160 kw3_157 kw1_11 kw3_159 kwS_26 rfl rfl (by decide +kernel) ⟨Nat.le_of_ble_eq_true rfl, Nat.le_of_ble_eq_true rfl⟩) ⟨PB.blind, va_recv hK hPc (ci := 5) (q0 := 0) rfl rfl, fun U hU hW => PB.mk hU hW hPc hK hDc⟩ rfl rfl hl.1 rfl (lv_room (Nat.le_of_ble_eq_true rfl)) dX5_remove_36 ⟨Nat.le_of_ble_eq_true rfl, Nat.le_of_ble_eq_true rfl⟩) hS (fun q _ h => hFc q h) hFc (fun r36 u36 t36 H1 locs ht1 hvm w36 hB hz1 hk1 hS => ?_)
        try dsimp only at w36 hB
        rw [ht1] at hB
        have hP := wk_ro hP hD [0, 1, 2, 3, 4, 5, 6, 7, 8, 9, 10] rfl hk1 hB
        generalize H1 = H at hP hS ⊢
        have w36 := w36.symm
        subst w36
        have h8 := homeF_lt (F := F) (key := key) hM hp8
        refine lv_iload_n hx hb dX5_remove_39 rfl (lv_at hl 2 rfl) ?_
        have hPc := hP.sub (ws' := mW cI cZ G off off (wLeft left) (wr + 1) rc mem oth ks vs sx pl ps pk sr tg fl xs) [0, 1, 2, 3, 4, 5, 6, 7, 8, 9, 10] rfl
        have hDc := hD.sub (ws' := mW cI cZ G off off (wLeft left) (wr + 1) rc mem oth ks vs sx pl ps pk sr tg fl xs) [0, 1, 2, 3, 4, 5, 6, 7, 8, 9, 10] (by decide) rfl
        have hFc := va_free (wc := mW cI cZ G off off (wLeft left) (wr + 1) rc mem oth ks vs sx pl ps pk sr tg fl xs) hD hS hA [0, 1, 2, 3, 4, 5, 6, 7, 8, 9, 10] rfl
        refine va_callv (va_runV (As := [.int (nI (homeF mm rows F key)), .int key]) (rest := []) ⟨hx, hb, hml, hown, ht⟩ (c_X5_takeOff l D cI cZ cS cJ H.size G off off (wLeft left) (wr + 1) rc mem oth ks vs sx pl ps pk sr tg fl xs st hst (homeF mm rows F key) h8 key) (xwV 2 ht kw3_200 kw3_197 kw1_11 kw3_199 kwS_33 rfl rfl (by decide +kernel) ⟨Nat.le_of_ble_eq_true rfl, Nat.le_of_ble_eq_true rfl⟩) ⟨PB.blind, va_recv hK hPc (ci := 5) (q0 := 0) rfl rfl, fun U hU hW => PB.mk hU hW hPc hK hDc⟩ rfl rfl hl.1 rfl (lv_room (Nat.le_of_ble_eq_true rfl)) dX5_remove_40 ⟨Nat.le_of_ble_eq_true rfl, Nat.le_of_ble_eq_true rfl⟩) hS (fun q _ h => hFc q h) hFc (fun u40 t40 H1 locs ht1 hvm w40 hB hz1 hk1 hS => ?_)
        try dsimp only at w40 hB
        obtain ⟨hP1, hD1⟩ := hB
        rw [ht1] at hP1
        obtain ⟨hP, hD⟩ := wk_join (w1 := (mW cI cZ G off off (wLeft left) (wr + 1) rc mem oth u40.1 u40.2.1 u40.2.2 pl ps pk sr tg fl xs)) hP hD [0, 1, 2, 3, 4, 5, 6, 7, 8, 9, 10] rfl (by decide) rfl hk1 hFc hP1 hD1
        generalize H1 = H at hP hS ⊢
        have hP : va_P D vwCl (mW cI cZ G off off (wLeft left) (wr + 1) rc mem oth u40.1 u40.2.1 u40.2.2 pl ps pk sr tg fl xs) H := hP
        have hD : va_D A (mW cI cZ G off off (wLeft left) (wr + 1) rc mem oth u40.1 u40.2.1 u40.2.2 pl ps pk sr tg fl xs) := hD
        have hst1 := w40
        refine lv_iload_n hx hb dX5_remove_43 rfl (lv_at hl 0 rfl) ?_
        refine lv_if_lt (tgt := 78) hx hb dX5_remove_44 (by decide) (fun c44 => ?_) (fun c44 => ?_)
        · have hcp : ¬ cpd rows F C key = true := fun q => by rw [w19, rowI, if_pos (cpd_iff.mp q).1] at c44; exact absurd c44 (nI_pos (by have := (pin_iff.mp (cpd_iff.mp q).1).1; have := hrp.le; omega))
          refine lv_iconst (v := 1) hx hb dX5_remove_78 (by decide) ?_
          exact W.iret (v := 1) hx hb hr (fun t ht2 hW => ⟨⟨1, (off, off, wLeft left, wr + 1, rc, mem, oth, u40.1, u40.2.1, u40.2.2, pl, ps, pk, sr, tg, fl, xs), rfl, by
                (try dsimp only)
                (try dsimp only)
                refine ⟨(off, wLeft left, wr + 1, rc, fu st (homeF mm rows F key) (del (st (homeF mm rows F key)) key), mm, pl, rows, F, Gn, C), ?_, RepM.mk hst1 hmm hrp⟩
                unfold remF
                rw [if_neg ho, if_neg hwn, if_neg hl1, if_pos hcp]
                try (first | rw [hoff.resolve_left ho] | (have e0 : off = 0 := Decidable.not_not.mp ho; rw [e0])), ⟨by (try dsimp only); rw [ht2]; exact hP, by exact hD⟩⟩, hS.F ht2⟩) hS.2.2 dX5_remove_79
        · have hpin : pin rows key = true := by
            rcases Bool.eq_false_or_eq_true (pin rows key) with q | q
            · exact q
            · exact absurd (by rw [w19, rowI, if_neg (by rw [q]; decide)]; decide) c44
          have hrI : rowI rows key = nI (prow rows key) := if_pos hpin
          have hk := (pin_iff.mp hpin).1
          have hle := hrp.le
          refine lv_aload_n hx hb dX5_remove_47 rfl (lv_at hl 1 rfl) ?_
          refine va_get (D := D) (ci := 5) (v := .ref (G 10)) (C := RX5) (T := TX5) (N := 17) hx hb ht inX5 hown hK hP 0 rfl rfl 16 (by decide) (ht _ kw3_96) (fun _ h9 => h9) rfl dX5_remove_48 ?_
          refine lv_iload_n hx hb dX5_remove_51 rfl (lv_at hl 0 rfl) ?_
          refine ya_iald hx hb hK hP 10 0 rfl rfl (prow rows key) (by rw [w19, hrI]) (by omega) (by decide) dX5_remove_52 ?_
          refine lv_iconst (v := 2) hx hb dX5_remove_53 (by decide) ?_
          refine lv_icmp_ne (tgt := 78) hx hb dX5_remove_54 (by decide) (fun c54 => ?_) (fun c54 => ?_)
          · have hcp : ¬ cpd rows F C key = true := fun q => c54 (by rw [hrp.x hk]; exact sta_2.mpr (cpd_iff.mp q).2)
            refine lv_iconst (v := 1) hx hb dX5_remove_78 (by decide) ?_
            exact W.iret (v := 1) hx hb hr (fun t ht2 hW => ⟨⟨1, (off, off, wLeft left, wr + 1, rc, mem, oth, u40.1, u40.2.1, u40.2.2, pl, ps, pk, sr, tg, fl, xs), rfl, by
                  (try dsimp only)
                  (try dsimp only)
                  refine ⟨(off, wLeft left, wr + 1, rc, fu st (homeF mm rows F key) (del (st (homeF mm rows F key)) key), mm, pl, rows, F, Gn, C), ?_, RepM.mk hst1 hmm hrp⟩
                  unfold remF
                  rw [if_neg ho, if_neg hwn, if_neg hl1, if_pos hcp]
                  try (first | rw [hoff.resolve_left ho] | (have e0 : off = 0 := Decidable.not_not.mp ho; rw [e0])), ⟨by (try dsimp only); rw [ht2]; exact hP, by exact hD⟩⟩, hS.F ht2⟩) hS.2.2 dX5_remove_79
          · have hcp0 := sta_2.mp (by rw [← hrp.x (C := C) (Gn := Gn) hk]; exact c54)
            have hcp : ¬ ¬ cpd rows F C key = true := fun q => q (cpd_iff.mpr ⟨hpin, hcp0.1, hcp0.2⟩)
            have h8t := (hp8 F (by rw [← hcp0.1]; exact hk)).2
            refine lv_aload_n hx hb dX5_remove_57 rfl (lv_at hl 1 rfl) ?_
            have hPc := hP.sub (ws' := mW cI cZ G off off (wLeft left) (wr + 1) rc mem oth u40.1 u40.2.1 u40.2.2 pl ps pk sr tg fl xs) [0, 1, 2, 3, 4, 5, 6, 7, 8, 9, 10] rfl
            have hDc := hD.sub (ws' := mW cI cZ G off off (wLeft left) (wr + 1) rc mem oth u40.1 u40.2.1 u40.2.2 pl ps pk sr tg fl xs) [0, 1, 2, 3, 4, 5, 6, 7, 8, 9, 10] (by decide) rfl
            have hFc := va_free (wc := mW cI cZ G off off (wLeft left) (wr + 1) rc mem oth u40.1 u40.2.1 u40.2.2 pl ps pk sr tg fl xs) hD hS hA [0, 1, 2, 3, 4, 5, 6, 7, 8, 9, 10] rfl
            refine va_calli (va_runV (As := []) (rest := []) ⟨hx, hb, hml, hown, ht⟩ (c_X5_writes l D cI cZ cS cJ H.size G off off (wLeft left) (wr + 1) rc mem oth u40.1 u40.2.1 u40.2.2 pl ps pk sr tg fl xs ) (xwV 0 ht kw3_188 kw3_185 kw1_11 kw3_187 kwS_31 rfl rfl (by decide +kernel) ⟨Nat.le_of_ble_eq_true rfl, Nat.le_of_ble_eq_true rfl⟩) ⟨PB.blind, va_recv hK hPc (ci := 5) (q0 := 0) rfl rfl, fun U hU hW => PB.mk hU hW hPc hK hDc⟩ rfl rfl hl.1 rfl (lv_room (Nat.le_of_ble_eq_true rfl)) dX5_remove_58 ⟨Nat.le_of_ble_eq_true rfl, Nat.le_of_ble_eq_true rfl⟩) hS (fun q _ h => hFc q h) hFc (fun r58 u58 t58 H1 locs ht1 hvm w58 hB hz1 hk1 hS => ?_)
            try dsimp only at w58 hB
            obtain ⟨hP1, hD1⟩ := hB
            rw [ht1] at hP1
            obtain ⟨hP, hD⟩ := wk_join (w1 := (mW cI cZ G off (wOff (wLeft left) off) (wLeft (wLeft left)) (wInc (wLeft left) (wr + 1)) rc mem oth u40.1 u40.2.1 u40.2.2 pl ps pk sr tg fl xs)) hP hD [0, 1, 2, 3, 4, 5, 6, 7, 8, 9, 10] rfl (by decide) rfl hk1 hFc hP1 hD1
            generalize H1 = H at hP hS ⊢
            have hP : va_P D vwCl (mW cI cZ G off (wOff (wLeft left) off) (wLeft (wLeft left)) (wInc (wLeft left) (wr + 1)) rc mem oth u40.1 u40.2.1 u40.2.2 pl ps pk sr tg fl xs) H := hP
            have hD : va_D A (mW cI cZ G off (wOff (wLeft left) off) (wLeft (wLeft left)) (wInc (wLeft left) (wr + 1)) rc mem oth u40.1 u40.2.1 u40.2.2 pl ps pk sr tg fl xs) := hD
            refine lv_if_ne (tgt := 67) hx hb dX5_remove_61 (by decide) (fun c61 => ?_) (fun c61 => ?_)
            · have hl2z : ¬ (wLeft left) = 0 := wOk_1 (by rw [← w58]; exact c61)
              rw [show wOff (wLeft left) off = off from if_neg hl2z, show wInc (wLeft left) (wr + 1) = wr + 1 + 1 from if_neg hl2z] at hP hD
              refine lv_aload_n hx hb dX5_remove_67 rfl (lv_at hl 1 rfl) ?_
              refine lv_aload_n hx hb dX5_remove_68 rfl (lv_at hl 1 rfl) ?_
              refine va_get (D := D) (ci := 5) (v := .ref (G 8)) (C := RX5) (T := TX5) (N := 17) hx hb ht inX5 hown hK hP 0 rfl rfl 14 (by decide) (ht _ kw3_94) (fun _ h9 => h9) rfl dX5_remove_69 ?_
              refine lv_iload_n hx hb dX5_remove_72 rfl (lv_at hl 0 rfl) ?_
              refine ya_iald hx hb hK hP 8 0 rfl rfl F (by rw [w19, hrI, hcp0.1]) (by have := hcp0.1; omega) (by decide) dX5_remove_73 ?_
              rw [hrp.t (show F < rows.length by rw [← hcp0.1]; exact hk)]
              refine lv_iload_n hx hb dX5_remove_74 rfl (lv_at hl 2 rfl) ?_
              have hPc := hP.sub (ws' := mW cI cZ G off off (wLeft (wLeft left)) (wr + 1 + 1) rc mem oth u40.1 u40.2.1 u40.2.2 pl ps pk sr tg fl xs) [0, 1, 2, 3, 4, 5, 6, 7, 8, 9, 10] rfl
              have hDc := hD.sub (ws' := mW cI cZ G off off (wLeft (wLeft left)) (wr + 1 + 1) rc mem oth u40.1 u40.2.1 u40.2.2 pl ps pk sr tg fl xs) [0, 1, 2, 3, 4, 5, 6, 7, 8, 9, 10] (by decide) rfl
              have hFc := va_free (wc := mW cI cZ G off off (wLeft (wLeft left)) (wr + 1 + 1) rc mem oth u40.1 u40.2.1 u40.2.2 pl ps pk sr tg fl xs) hD hS hA [0, 1, 2, 3, 4, 5, 6, 7, 8, 9, 10] rfl
              refine va_callv (va_runV (As := [.int (nI (pT rows F)), .int key]) (rest := []) ⟨hx, hb, hml, hown, ht⟩ (c_X5_takeOff l D cI cZ cS cJ H.size G off off (wLeft (wLeft left)) (wr + 1 + 1) rc mem oth u40.1 u40.2.1 u40.2.2 pl ps pk sr tg fl xs (fu st (homeF mm rows F key) (del (st (homeF mm rows F key)) key)) hst1 (pT rows F) h8t key) (xwV 2 ht kw3_200 kw3_197 kw1_11 kw3_199 kwS_33 rfl rfl (by decide +kernel) ⟨Nat.le_of_ble_eq_true rfl, Nat.le_of_ble_eq_true rfl⟩) ⟨PB.blind, va_recv hK hPc (ci := 5) (q0 := 0) rfl rfl, fun U hU hW => PB.mk hU hW hPc hK hDc⟩ rfl rfl hl.1 rfl (lv_room (Nat.le_of_ble_eq_true rfl)) dX5_remove_75 ⟨Nat.le_of_ble_eq_true rfl, Nat.le_of_ble_eq_true rfl⟩) hS (fun q _ h => hFc q h) hFc (fun u75 t75 H1 locs ht1 hvm w75 hB hz1 hk1 hS => ?_)
              try dsimp only at w75 hB
              obtain ⟨hP1, hD1⟩ := hB
              rw [ht1] at hP1
              obtain ⟨hP, hD⟩ := wk_join (w1 := (mW cI cZ G off off (wLeft (wLeft left)) (wr + 1 + 1) rc mem oth u75.1 u75.2.1 u75.2.2 pl ps pk sr tg fl xs)) hP hD [0, 1, 2, 3, 4, 5, 6, 7, 8, 9, 10] rfl (by decide) rfl hk1 hFc hP1 hD1
              generalize H1 = H at hP hS ⊢
              have hP : va_P D vwCl (mW cI cZ G off off (wLeft (wLeft left)) (wr + 1 + 1) rc mem oth u75.1 u75.2.1 u75.2.2 pl ps pk sr tg fl xs) H := hP
              have hD : va_D A (mW cI cZ G off off (wLeft (wLeft left)) (wr + 1 + 1) rc mem oth u75.1 u75.2.1 u75.2.2 pl ps pk sr tg fl xs) := hD
              have hst2 := w75
              refine lv_iconst (v := 1) hx hb dX5_remove_78 (by decide) ?_
              exact W.iret (v := 1) hx hb hr (fun t ht2 hW => ⟨⟨1, (off, off, wLeft (wLeft left), wr + 1 + 1, rc, mem, oth, u75.1, u75.2.1, u75.2.2, pl, ps, pk, sr, tg, fl, xs), rfl, by
                    (try dsimp only)
                    (try dsimp only)
                    refine ⟨(off, wLeft (wLeft left), wr + 1 + 1, rc, fu (fu st (homeF mm rows F key) (del (st (homeF mm rows F key)) key)) (pT rows F) (del ((fu st (homeF mm rows F key) (del (st (homeF mm rows F key)) key)) (pT rows F)) key), mm, pl, rows, F, Gn, C), ?_, RepM.mk hst2 hmm hrp⟩
                    unfold remF
                    rw [if_neg ho, if_neg hwn, if_neg hl1, if_neg hcp, if_neg hl2z]
                    try (first | rw [hoff.resolve_left ho] | (have e0 : off = 0 := Decidable.not_not.mp ho; rw [e0])), ⟨by (try dsimp only); rw [ht2]; exact hP, by exact hD⟩⟩, hS.F ht2⟩) hS.2.2 dX5_remove_79
            · have hl2z : wLeft left = 0 := wOk_0 (by rw [← w58]; exact c61)
              rw [show wOff (wLeft left) off = 1 from if_pos hl2z, show wInc (wLeft left) (wr + 1) = wr + 1 from if_pos hl2z, wLeft_0 hl2z] at hP hD
              refine lv_bipush (v := (-9)) hx hb dX5_remove_64 (by decide) ?_
              exact W.iret (v := (-9)) hx hb hr (fun t ht2 hW => ⟨⟨(-9), (off, 1, wLeft left, wr + 1, rc, mem, oth, u40.1, u40.2.1, u40.2.2, pl, ps, pk, sr, tg, fl, xs), rfl, by
                    (try dsimp only)
                    (try dsimp only)
                    refine ⟨(1, wLeft left, wr + 1, rc, fu st (homeF mm rows F key) (del (st (homeF mm rows F key)) key), mm, pl, rows, F, Gn, C), ?_, RepM.mk hst1 hmm hrp⟩
                    unfold remF
                    rw [if_neg ho, if_neg hwn, if_neg hl1, if_neg hcp, if_pos hl2z]
                    try (first | rw [hoff.resolve_left ho] | (have e0 : off = 0 := Decidable.not_not.mp ho; rw [e0])), ⟨by (try dsimp only); rw [ht2]; exact hP, by exact hD⟩⟩, hS.F ht2⟩) hS.2.2 dX5_remove_66
      · have hl1 : left = 0 := wOk_0 (by rw [← w24]; exact c27)
        rw [show wOff left off = 1 from if_pos hl1, show wInc left wr = wr from if_pos hl1, wLeft_0 hl1] at hP hD
        refine lv_bipush (v := (-9)) hx hb dX5_remove_30 (by decide) ?_
        exact W.iret (v := (-9)) hx hb hr (fun t ht2 hW => ⟨⟨(-9), (off, 1, left, wr, rc, mem, oth, ks, vs, sx, pl, ps, pk, sr, tg, fl, xs), rfl, by
              (try dsimp only)
              (try dsimp only)
              refine ⟨(1, left, wr, rc, st, mm, pl, rows, F, Gn, C), ?_, RepM.mk hst hmm hrp⟩
              unfold remF
              rw [if_neg ho, if_neg hwn, if_pos hl1]
              try (first | rw [hoff.resolve_left ho] | (have e0 : off = 0 := Decidable.not_not.mp ho; rw [e0])), ⟨by (try dsimp only); rw [ht2]; exact hP, by exact hD⟩⟩, hS.F ht2⟩) hS.2.2 dX5_remove_32
    · have hwas : ¬ hs (st (homeF mm rows F key)) key = true := fun q => by rw [w9, if_pos q] at c12; exact absurd c12 (by decide)
      refine lv_iconst (v := 0) hx hb dX5_remove_15 (by decide) ?_
      exact W.iret (v := 0) hx hb hr (fun t ht2 hW => ⟨⟨0, (off, off, left, wr, rc, mem, oth, ks, vs, sx, pl, ps, pk, sr, tg, fl, xs), rfl, by
            (try dsimp only)
            (try dsimp only)
            refine ⟨(off, left, wr, rc, st, mm, pl, rows, F, Gn, C), ?_, RepM.mk hst hmm hrp⟩
            unfold remF
            rw [if_neg ho, if_pos hwas]
            try (first | rw [hoff.resolve_left ho] | (have e0 : off = 0 := Decidable.not_not.mp ho; rw [e0])), ⟨by (try dsimp only); rw [ht2]; exact hP, by exact hD⟩⟩, hS.F ht2⟩) hS.2.2 dX5_remove_16

set_option maxHeartbeats 4000000 in
set_option maxRecDepth 100000 in
theorem c_X5_get (l : Launch) (D : va_G) (cI cZ cS cJ : ClassId) (sz : Nat) (G : Nat → Nat) (code off left wr rc : Int32) (mem oth ks vs sx : Nat → Int32) (pl ps : Int32) (pk sr tg fl xs : Nat → Int32) (st : Nat → List (Int32 × Int32)) (hst : RS st ks vs sx) (mm : Nat → Nat) (hmm : ∀ n, n < 8 → mem n = nI (mm n)) (hM : MM mm) (rows : List (Int32 × Nat × Nat)) (F Gn : Nat) (C : Bool) (hrp : RP rows F Gn C ps pk sr tg fl xs) (hsr : Srt (pkl rows)) (hpl : pl = 1 ∨ (pl = 0 ∧ rows = [])) (hp8 : P8 rows) (hoff : off = 0 ∨ off = 1) (key : Int32) : Met l yX5_get (Cond.code yX5_get cX5_get 2 (some .int) :: TB) ({ frames := 5, cells := 0, slots := 0, locals := 116 } : Room) (va_Pc [.ref (G 0), .int key] (PB D (KT cI cZ cS cJ) (mW cI cZ G code off left wr rc mem oth ks vs sx pl ps pk sr tg fl xs) sz)) (va_Qi (fun r (_ : Unit) => r = (getF off st mm rows F key).2) (fun (u : Unit) t => va_P D vwCl (mW cI cZ G ((getF off st mm rows F key).1) off left wr rc mem oth ks vs sx pl ps pk sr tg fl xs) t.heap ∧ va_D (va_A (mW cI cZ G code off left wr rc mem oth ks vs sx pl ps pk sr tg fl xs) sz) (mW cI cZ G ((getF off st mm rows F key).1) off left wr rc mem oth ks vs sx pl ps pk sr tg fl xs)) (va_A (mW cI cZ G code off left wr rc mem oth ks vs sx pl ps pk sr tg fl xs) sz)) 0 0 (va_A (mW cI cZ G code off left wr rc mem oth ks vs sx pl ps pk sr tg fl xs) sz) := by
  refine Met.ofW (cc := cX5_get) (maxL := 2) (ret := (some .int)) (by decide) rfl ?_
  intro p e s m args below meth c s₁ B hml hv
  obtain ⟨rfl, hsz, hP, hK, hD0⟩ := hv
  have hx := B.exec
  have hb := B.bytes
  have hr := B.returns
  have hts := atoms_spec (ws := (Cond.code yX5_get cX5_get 2 (some .int) :: TB)) B.pre
  have ht : ∀ w ∈ TB, w.before _ s = true := fun w h => hts w (List.mem_cons_of_mem _ h)
  have hown : s.vm.findClass RX5 = some m.cls := findClass_of_methodNamed B.named
  have hlocks := B.notSynchronized
  subst hsz
  have hD := hD0.self (sz := s.heap.size)
  generalize hAe : va_A (mW cI cZ G code off left wr rc mem oth ks vs sx pl ps pk sr tg fl xs) s.heap.size = A at hD ⊢
  have hA : ∀ q : Nat, s.heap.size ≤ q → A q := fun q h => by rw [← hAe]; exact Or.inr h
  have hS : va_S A s.heap s.heap [] := va_S.rf
  have hP : va_P D vwCl (mW cI cZ G code off left wr rc mem oth ks vs sx pl ps pk sr tg fl xs) s.heap := hP
  have hl := lv_entry ([.ref (G 0), .int key]) (n := 2) (Nat.le_of_ble_eq_true rfl)
  rw [lg_entry_eq]
  generalize (lg_sl ([.ref (G 0), .int key]) ++ List.replicate (2 - (lg_sl ([.ref (G 0), .int key])).length) Slot.unset).toArray = ls at hl ⊢
  have hl : lv_has ls 2 [(0, .ref (G 0)), (1, .int key)] := hl
  refine lv_aload_n hx hb dX5_get_0 rfl (lv_at hl 0 rfl) ?_
  refine lv_aload_n hx hb dX5_get_1 rfl (lv_at hl 0 rfl) ?_
  refine va_get (D := D) (ci := 5) (v := .int off) (C := RX5) (T := TX5) (N := 17) hx hb ht inX5 hown hK hP 0 rfl rfl 1 (by decide) (ht _ kw3_81) (fun _ h9 => h9) rfl dX5_get_2 ?_
  refine lv_if_eq (tgt := 12) hx hb dX5_get_5 (by decide) (fun c5 => ?_) (fun c5 => ?_)
  · have ho : ¬ ¬ off = 0 := fun q => q c5
    refine lv_aload_n hx hb dX5_get_12 rfl (lv_at hl 0 rfl) ?_
    refine lv_iload_n hx hb dX5_get_13 rfl (lv_at hl 1 rfl) ?_
    have hPc := hP.sub (ws' := mW cI cZ G code off left wr rc mem oth ks vs sx pl ps pk sr tg fl xs) [0, 1, 2, 3, 4, 5, 6, 7, 8, 9, 10] rfl
    have hDc := hD.sub (ws' := mW cI cZ G code off left wr rc mem oth ks vs sx pl ps pk sr tg fl xs) [0, 1, 2, 3, 4, 5, 6, 7, 8, 9, 10] (by decide) rfl
    have hFc := va_free (wc := mW cI cZ G code off left wr rc mem oth ks vs sx pl ps pk sr tg fl xs) hD hS hA [0, 1, 2, 3, 4, 5, 6, 7, 8, 9, 10] rfl
    refine va_calli (va_runV (As := [.int key]) (rest := [.ref (G 0)]) ⟨hx, hb, hml, hown, ht⟩ (c_X5_isThere l D cI cZ cS cJ s.heap.size G code off left wr rc mem oth ks vs sx pl ps pk sr tg fl xs st hst rows F Gn C hrp hsr hpl mm hmm hM hp8 key) (xwV 1 ht kw3_156 kw3_153 kw1_11 kw3_155 kwS_25 rfl rfl (by decide +kernel) ⟨Nat.le_of_ble_eq_true rfl, Nat.le_of_ble_eq_true rfl⟩) ⟨PB.blind, va_recv hK hPc (ci := 5) (q0 := 0) rfl rfl, fun U hU hW => PB.mk hU hW hPc hK hDc⟩ rfl rfl hl.1 rfl (lv_room (Nat.le_of_ble_eq_true rfl)) dX5_get_14 ⟨Nat.le_of_ble_eq_true rfl, Nat.le_of_ble_eq_true rfl⟩) hS (fun q _ h => hFc q h) hFc (fun r14 u14 t14 H1 locs ht1 hvm w14 hB hz1 hk1 hS => ?_)
    try dsimp only at w14 hB
    rw [ht1] at hB
    have hP := wk_ro hP hD [0, 1, 2, 3, 4, 5, 6, 7, 8, 9, 10] rfl hk1 hB
    generalize H1 = H at hP hS ⊢
    refine lv_if_eq (tgt := 24) hx hb dX5_get_17 (by decide) (fun c17 => ?_) (fun c17 => ?_)
    · have hwas : ¬ hs (st (homeF mm rows F key)) key = true := fun q => by rw [w14, if_pos q] at c17; exact absurd c17 (by decide)
      refine lv_iconst (v := 2) hx hb dX5_get_24 (by decide) ?_
      refine va_put (D := D) (ci := 5) (v := .int 2) (ty := .int) (C := RX5) (T := TX5) (N := 17) hx hb ht inX5 tyX5 tyX5_ok nmX5 hown hK hP hD hS 0 rfl rfl 0 (by decide) (ht _ kw3_80) (fun _ h9 => h9) rfl (by decide +kernel) (rfl) rfl (Nat.le_of_ble_eq_true rfl) dX5_get_25 (fun H locs hP hD hS => ?_)
      have hP : va_P D vwCl (mW cI cZ G 2 off left wr rc mem oth ks vs sx pl ps pk sr tg fl xs) H := hP
      have hD : va_D A (mW cI cZ G 2 off left wr rc mem oth ks vs sx pl ps pk sr tg fl xs) := hD
      refine lv_aload_n hx hb dX5_get_28 rfl (lv_at hl 0 rfl) ?_
      refine va_get (D := D) (ci := 5) (v := .int 2) (C := RX5) (T := TX5) (N := 17) hx hb ht inX5 hown hK hP 0 rfl rfl 0 (by decide) (ht _ kw3_80) (fun _ h9 => h9) rfl dX5_get_29 ?_
      refine lv_if_le (tgt := 39) hx hb dX5_get_32 (by decide) (fun c32 => absurd c32 (by decide)) (fun c32 => ?_)
      refine lv_iconst (v := 0) hx hb dX5_get_35 (by decide) ?_
      refine lv_goto (tgt := 49) hx hb dX5_get_36 (by decide) ?_
      exact W.iret (v := 0) hx hb hr (fun t ht2 hW => ⟨⟨0, (), rfl, by
            (try dsimp only)
            (try dsimp only)
            unfold getF
            rw [if_neg ho, if_neg hwas]
            try (first | exact w46 | rfl), by
            (try dsimp only)
            have e9 : (getF off st mm rows F key).1 = 2 := by
              unfold getF
              rw [if_neg ho, if_neg hwas]
              try (rfl)
            rw [e9, ht2]
            exact ⟨hP, hD⟩⟩, hS.F ht2⟩) hS.2.2 dX5_get_49
    · have hwas : hs (st (homeF mm rows F key)) key = true := by
        rcases Bool.eq_false_or_eq_true (hs (st (homeF mm rows F key)) key) with q | q
        · exact q
        · exact absurd (by rw [w14, q]; rfl) c17
      refine lv_iconst (v := 0) hx hb dX5_get_20 (by decide) ?_
      refine lv_goto (tgt := 25) hx hb dX5_get_21 (by decide) ?_
      refine va_put (D := D) (ci := 5) (v := .int 0) (ty := .int) (C := RX5) (T := TX5) (N := 17) hx hb ht inX5 tyX5 tyX5_ok nmX5 hown hK hP hD hS 0 rfl rfl 0 (by decide) (ht _ kw3_80) (fun _ h9 => h9) rfl (by decide +kernel) (rfl) rfl (Nat.le_of_ble_eq_true rfl) dX5_get_25 (fun H locs hP hD hS => ?_)
      have hP : va_P D vwCl (mW cI cZ G 0 off left wr rc mem oth ks vs sx pl ps pk sr tg fl xs) H := hP
      have hD : va_D A (mW cI cZ G 0 off left wr rc mem oth ks vs sx pl ps pk sr tg fl xs) := hD
      refine lv_aload_n hx hb dX5_get_28 rfl (lv_at hl 0 rfl) ?_
      refine va_get (D := D) (ci := 5) (v := .int 0) (C := RX5) (T := TX5) (N := 17) hx hb ht inX5 hown hK hP 0 rfl rfl 0 (by decide) (ht _ kw3_80) (fun _ h9 => h9) rfl dX5_get_29 ?_
      refine lv_if_le (tgt := 39) hx hb dX5_get_32 (by decide) (fun c32 => ?_) (fun c32 => absurd (by decide) c32)
      refine lv_aload_n hx hb dX5_get_39 rfl (lv_at hl 0 rfl) ?_
      refine lv_aload_n hx hb dX5_get_40 rfl (lv_at hl 0 rfl) ?_
      refine lv_iload_n hx hb dX5_get_41 rfl (lv_at hl 1 rfl) ?_
      have hPc := hP.sub (ws' := mW cI cZ G 0 off left wr rc mem oth ks vs sx pl ps pk sr tg fl xs) [0, 1, 2, 3, 4, 5, 6, 7, 8, 9, 10] rfl
      have hDc := hD.sub (ws' := mW cI cZ G 0 off left wr rc mem oth ks vs sx pl ps pk sr tg fl xs) [0, 1, 2, 3, 4, 5, 6, 7, 8, 9, 10] (by decide) rfl
      have hFc := va_free (wc := mW cI cZ G 0 off left wr rc mem oth ks vs sx pl ps pk sr tg fl xs) hD hS hA [0, 1, 2, 3, 4, 5, 6, 7, 8, 9, 10] rfl
      refine va_calli (va_runV (As := [.int key]) (rest := [.ref (G 0)]) ⟨hx, hb, hml, hown, ht⟩ (c_X5_homeOf l D cI cZ cS cJ H.size G 0 off left wr rc mem oth ks vs sx pl ps pk sr tg fl xs rows F Gn C hrp hsr hpl mm hmm hM key) (xwV 1 ht kw3_160 kw3_157 kw1_11 kw3_159 kwS_26 rfl rfl (by decide +kernel) ⟨Nat.le_of_ble_eq_true rfl, Nat.le_of_ble_eq_true rfl⟩) ⟨PB.blind, va_recv hK hPc (ci := 5) (q0 := 0) rfl rfl, fun U hU hW => PB.mk hU hW hPc hK hDc⟩ rfl rfl hl.1 rfl (lv_room (Nat.le_of_ble_eq_true rfl)) dX5_get_42 ⟨Nat.le_of_ble_eq_true rfl, Nat.le_of_ble_eq_true rfl⟩) hS (fun q _ h => hFc q h) hFc (fun r42 u42 t42 H1 locs ht1 hvm w42 hB hz1 hk1 hS => ?_)
      try dsimp only at w42 hB
      rw [ht1] at hB
      have hP := wk_ro hP hD [0, 1, 2, 3, 4, 5, 6, 7, 8, 9, 10] rfl hk1 hB
      generalize H1 = H at hP hS ⊢
      have w42 := w42.symm
      subst w42
      have h8 := homeF_lt (F := F) (key := key) hM hp8
      refine lv_iload_n hx hb dX5_get_45 rfl (lv_at hl 1 rfl) ?_
      have hPc := hP.sub (ws' := mW cI cZ G 0 off left wr rc mem oth ks vs sx pl ps pk sr tg fl xs) [0, 1, 2, 3, 4, 5, 6, 7, 8, 9, 10] rfl
      have hDc := hD.sub (ws' := mW cI cZ G 0 off left wr rc mem oth ks vs sx pl ps pk sr tg fl xs) [0, 1, 2, 3, 4, 5, 6, 7, 8, 9, 10] (by decide) rfl
      have hFc := va_free (wc := mW cI cZ G 0 off left wr rc mem oth ks vs sx pl ps pk sr tg fl xs) hD hS hA [0, 1, 2, 3, 4, 5, 6, 7, 8, 9, 10] rfl
      refine va_calli (va_runV (As := [.int (nI (homeF mm rows F key)), .int key]) (rest := []) ⟨hx, hb, hml, hown, ht⟩ (c_X5_valueIn l D cI cZ cS cJ H.size G 0 off left wr rc mem oth ks vs sx pl ps pk sr tg fl xs st hst (homeF mm rows F key) h8 key hwas) (xwV 2 ht kw3_208 kw3_205 kw1_11 kw3_207 kwS_34 rfl rfl (by decide +kernel) ⟨Nat.le_of_ble_eq_true rfl, Nat.le_of_ble_eq_true rfl⟩) ⟨PB.blind, va_recv hK hPc (ci := 5) (q0 := 0) rfl rfl, fun U hU hW => PB.mk hU hW hPc hK hDc⟩ rfl rfl hl.1 rfl (lv_room (Nat.le_of_ble_eq_true rfl)) dX5_get_46 ⟨Nat.le_of_ble_eq_true rfl, Nat.le_of_ble_eq_true rfl⟩) hS (fun q _ h => hFc q h) hFc (fun r46 u46 t46 H1 locs ht1 hvm w46 hB hz1 hk1 hS => ?_)
      try dsimp only at w46 hB
      rw [ht1] at hB
      have hP := wk_ro hP hD [0, 1, 2, 3, 4, 5, 6, 7, 8, 9, 10] rfl hk1 hB
      generalize H1 = H at hP hS ⊢
      exact W.iret (v := r46) hx hb hr (fun t ht2 hW => ⟨⟨r46, (), rfl, by
            (try dsimp only)
            (try dsimp only)
            unfold getF
            rw [if_neg ho, if_pos hwas]
            try (first | exact w46 | rfl), by
            (try dsimp only)
            have e9 : (getF off st mm rows F key).1 = 0 := by
              unfold getF
              rw [if_neg ho, if_pos hwas]
              try (rfl)
            rw [e9, ht2]
            exact ⟨hP, hD⟩⟩, hS.F ht2⟩) hS.2.2 dX5_get_49
  · have ho : ¬ off = 0 := c5
    refine lv_iconst (v := 1) hx hb dX5_get_8 (by decide) ?_
    refine lv_goto (tgt := 25) hx hb dX5_get_9 (by decide) ?_
    refine va_put (D := D) (ci := 5) (v := .int 1) (ty := .int) (C := RX5) (T := TX5) (N := 17) hx hb ht inX5 tyX5 tyX5_ok nmX5 hown hK hP hD hS 0 rfl rfl 0 (by decide) (ht _ kw3_80) (fun _ h9 => h9) rfl (by decide +kernel) (rfl) rfl (Nat.le_of_ble_eq_true rfl) dX5_get_25 (fun H locs hP hD hS => ?_)
    have hP : va_P D vwCl (mW cI cZ G 1 off left wr rc mem oth ks vs sx pl ps pk sr tg fl xs) H := hP
    have hD : va_D A (mW cI cZ G 1 off left wr rc mem oth ks vs sx pl ps pk sr tg fl xs) := hD
    refine lv_aload_n hx hb dX5_get_28 rfl (lv_at hl 0 rfl) ?_
    refine va_get (D := D) (ci := 5) (v := .int 1) (C := RX5) (T := TX5) (N := 17) hx hb ht inX5 hown hK hP 0 rfl rfl 0 (by decide) (ht _ kw3_80) (fun _ h9 => h9) rfl dX5_get_29 ?_
    refine lv_if_le (tgt := 39) hx hb dX5_get_32 (by decide) (fun c32 => absurd c32 (by decide)) (fun c32 => ?_)
    refine lv_iconst (v := 0) hx hb dX5_get_35 (by decide) ?_
    refine lv_goto (tgt := 49) hx hb dX5_get_36 (by decide) ?_
    exact W.iret (v := 0) hx hb hr (fun t ht2 hW => ⟨⟨0, (), rfl, by
          (try dsimp only)
          (try dsimp only)
          unfold getF
          rw [if_pos ho]
          try (first | exact w46 | rfl), by
          (try dsimp only)
          have e9 : (getF off st mm rows F key).1 = 1 := by
            unfold getF
            rw [if_pos ho]
            try (rfl)
          rw [e9, ht2]
          exact ⟨hP, hD⟩⟩, hS.F ht2⟩) hS.2.2 dX5_get_49

set_option maxHeartbeats 4000000 in
set_option maxRecDepth 100000 in
theorem c_X5_owner (l : Launch) (D : va_G) (cI cZ cS cJ : ClassId) (sz : Nat) (G : Nat → Nat) (code off left wr rc : Int32) (mem oth ks vs sx : Nat → Int32) (pl ps : Int32) (pk sr tg fl xs : Nat → Int32) (st : Nat → List (Int32 × Int32)) (hst : RS st ks vs sx) (mm : Nat → Nat) (hmm : ∀ n, n < 8 → mem n = nI (mm n)) (hM : MM mm) (rows : List (Int32 × Nat × Nat)) (F Gn : Nat) (C : Bool) (hrp : RP rows F Gn C ps pk sr tg fl xs) (hsr : Srt (pkl rows)) (hpl : pl = 1 ∨ (pl = 0 ∧ rows = [])) (hp8 : P8 rows) (hoff : off = 0 ∨ off = 1) (key : Int32) : Met l yX5_owner (Cond.code yX5_owner cX5_owner 2 (some .int) :: TB) ({ frames := 3, cells := 0, slots := 0, locals := 73 } : Room) (va_Pc [.ref (G 0), .int key] (PB D (KT cI cZ cS cJ) (mW cI cZ G code off left wr rc mem oth ks vs sx pl ps pk sr tg fl xs) sz)) (va_Qi (fun r (_ : Unit) => r = (ownF off mm key).2) (fun (u : Unit) t => va_P D vwCl (mW cI cZ G ((ownF off mm key).1) off left wr rc mem oth ks vs sx pl ps pk sr tg fl xs) t.heap ∧ va_D (va_A (mW cI cZ G code off left wr rc mem oth ks vs sx pl ps pk sr tg fl xs) sz) (mW cI cZ G ((ownF off mm key).1) off left wr rc mem oth ks vs sx pl ps pk sr tg fl xs)) (va_A (mW cI cZ G code off left wr rc mem oth ks vs sx pl ps pk sr tg fl xs) sz)) 0 0 (va_A (mW cI cZ G code off left wr rc mem oth ks vs sx pl ps pk sr tg fl xs) sz) := by
  refine Met.ofW (cc := cX5_owner) (maxL := 2) (ret := (some .int)) (by decide) rfl ?_
  intro p e s m args below meth c s₁ B hml hv
  obtain ⟨rfl, hsz, hP, hK, hD0⟩ := hv
  have hx := B.exec
  have hb := B.bytes
  have hr := B.returns
  have hts := atoms_spec (ws := (Cond.code yX5_owner cX5_owner 2 (some .int) :: TB)) B.pre
  have ht : ∀ w ∈ TB, w.before _ s = true := fun w h => hts w (List.mem_cons_of_mem _ h)
  have hown : s.vm.findClass RX5 = some m.cls := findClass_of_methodNamed B.named
  have hlocks := B.notSynchronized
  subst hsz
  have hD := hD0.self (sz := s.heap.size)
  generalize hAe : va_A (mW cI cZ G code off left wr rc mem oth ks vs sx pl ps pk sr tg fl xs) s.heap.size = A at hD ⊢
  have hA : ∀ q : Nat, s.heap.size ≤ q → A q := fun q h => by rw [← hAe]; exact Or.inr h
  have hS : va_S A s.heap s.heap [] := va_S.rf
  have hP : va_P D vwCl (mW cI cZ G code off left wr rc mem oth ks vs sx pl ps pk sr tg fl xs) s.heap := hP
  have hl := lv_entry ([.ref (G 0), .int key]) (n := 2) (Nat.le_of_ble_eq_true rfl)
  rw [lg_entry_eq]
  generalize (lg_sl ([.ref (G 0), .int key]) ++ List.replicate (2 - (lg_sl ([.ref (G 0), .int key])).length) Slot.unset).toArray = ls at hl ⊢
  have hl : lv_has ls 2 [(0, .ref (G 0)), (1, .int key)] := hl
  refine lv_aload_n hx hb dX5_owner_0 rfl (lv_at hl 0 rfl) ?_
  have hPc := hP.sub (ws' := mW cI cZ G code off left wr rc mem oth ks vs sx pl ps pk sr tg fl xs) [0, 1, 2, 3, 4, 5, 6, 7, 8, 9, 10] rfl
  have hDc := hD.sub (ws' := mW cI cZ G code off left wr rc mem oth ks vs sx pl ps pk sr tg fl xs) [0, 1, 2, 3, 4, 5, 6, 7, 8, 9, 10] (by decide) rfl
  have hFc := va_free (wc := mW cI cZ G code off left wr rc mem oth ks vs sx pl ps pk sr tg fl xs) hD hS hA [0, 1, 2, 3, 4, 5, 6, 7, 8, 9, 10] rfl
  refine va_calli (va_runV (As := []) (rest := []) ⟨hx, hb, hml, hown, ht⟩ (c_X5_isOff l D cI cZ cS cJ s.heap.size G code off left wr rc mem oth ks vs sx pl ps pk sr tg fl xs hoff) (xwV 0 ht kw3_152 kw3_149 kw1_11 kw3_151 kwS_24 rfl rfl (by decide +kernel) ⟨Nat.le_of_ble_eq_true rfl, Nat.le_of_ble_eq_true rfl⟩) ⟨PB.blind, va_recv hK hPc (ci := 5) (q0 := 0) rfl rfl, fun U hU hW => PB.mk hU hW hPc hK hDc⟩ rfl rfl hl.1 rfl (lv_room (Nat.le_of_ble_eq_true rfl)) dX5_owner_1 ⟨Nat.le_of_ble_eq_true rfl, Nat.le_of_ble_eq_true rfl⟩) hS (fun q _ h => hFc q h) hFc (fun r1 u1 t1 H1 locs ht1 hvm w1 hB hz1 hk1 hS => ?_)
  try dsimp only at w1 hB
  obtain ⟨hP1, hD1⟩ := hB
  rw [ht1] at hP1
  obtain ⟨hP, hD⟩ := wk_join (w1 := (mW cI cZ G off off left wr rc mem oth ks vs sx pl ps pk sr tg fl xs)) hP hD [0, 1, 2, 3, 4, 5, 6, 7, 8, 9, 10] rfl (by decide) rfl hk1 hFc hP1 hD1
  generalize H1 = H at hP hS ⊢
  have hP : va_P D vwCl (mW cI cZ G off off left wr rc mem oth ks vs sx pl ps pk sr tg fl xs) H := hP
  have hD : va_D A (mW cI cZ G off off left wr rc mem oth ks vs sx pl ps pk sr tg fl xs) := hD
  have w1 := w1.symm
  subst w1
  refine lv_if_eq (tgt := 11) hx hb dX5_owner_4 (by decide) (fun c4 => ?_) (fun c4 => ?_)
  · have ho : ¬ ¬ off = 0 := fun q => q c4
    have ho0 : off = 0 := c4
    refine lv_aload_n hx hb dX5_owner_11 rfl (lv_at hl 0 rfl) ?_
    refine va_get (D := D) (ci := 5) (v := .ref (G 1)) (C := RX5) (T := TX5) (N := 17) hx hb ht inX5 hown hK hP 0 rfl rfl 5 (by decide) (ht _ kw3_85) (fun _ h9 => h9) rfl dX5_owner_12 ?_
    refine lv_iload_n hx hb dX5_owner_15 rfl (lv_at hl 1 rfl) ?_
    have hPc := hP.sub (ws' := [((G 1), .inl (cI, 8, .inl mem))]) [1] rfl
    have hDc := hD.sub (ws' := [((G 1), .inl (cI, 8, .inl mem))]) [1] (by decide) rfl
    have hFc := va_free (wc := [((G 1), .inl (cI, 8, .inl mem))]) hD hS hA [1] rfl
    refine va_calli (va_runS (As := [.ref (G 1), .int key]) (rest := []) ⟨hx, hb, hml, hown, ht⟩ (c_X5_ownerOf l D cI cZ cS cJ H.size (G 1) mem mm hmm hM key) (xwS 2 ht kw3_167 kw3_165 kw1_11 kw3_166 rfl rfl (by decide +kernel) ⟨Nat.le_of_ble_eq_true rfl, Nat.le_of_ble_eq_true rfl⟩) ⟨PB.blind, fun U hU hW => PB.mk hU hW hPc hK hDc⟩ rfl rfl hl.1 rfl (lv_room (Nat.le_of_ble_eq_true rfl)) dX5_owner_16 ⟨Nat.le_of_ble_eq_true rfl, Nat.le_of_ble_eq_true rfl⟩) hS (fun q _ h => hFc q h) hFc (fun r16 u16 t16 H1 locs ht1 hvm w16 hB hz1 hk1 hS => ?_)
    try dsimp only at w16 hB
    rw [ht1] at hB
    have hP := wk_ro hP hD [1] rfl hk1 hB
    generalize H1 = H at hP hS ⊢
    exact W.iret (v := r16) hx hb hr (fun t ht2 hW => ⟨⟨r16, (), rfl, by
          (try dsimp only)
          (try dsimp only)
          unfold ownF
          rw [if_neg ho]
          try (first | exact w16 | rfl), by
          (try dsimp only)
          have e9 : (ownF off mm key).1 = off := by
            unfold ownF
            rw [if_neg ho]
            try (first | exact ho0.symm | rfl | (rw [ho0]; done))
          rw [e9, ht2]
          exact ⟨hP, hD⟩⟩, hS.F ht2⟩) hS.2.2 dX5_owner_19
  · have ho : ¬ off = 0 := c4
    have ho0 : off = 1 := hoff.resolve_left c4
    refine lv_iconst (v := 0) hx hb dX5_owner_7 (by decide) ?_
    refine lv_goto (tgt := 19) hx hb dX5_owner_8 (by decide) ?_
    exact W.iret (v := 0) hx hb hr (fun t ht2 hW => ⟨⟨0, (), rfl, by
          (try dsimp only)
          (try dsimp only)
          unfold ownF
          rw [if_pos ho]
          try (first | exact w16 | rfl), by
          (try dsimp only)
          have e9 : (ownF off mm key).1 = off := by
            unfold ownF
            rw [if_pos ho]
            try (first | exact ho0.symm | rfl | (rw [ho0]; done))
          rw [e9, ht2]
          exact ⟨hP, hD⟩⟩, hS.F ht2⟩) hS.2.2 dX5_owner_19

set_option maxHeartbeats 4000000 in
set_option maxRecDepth 100000 in
theorem c_X5_home (l : Launch) (D : va_G) (cI cZ cS cJ : ClassId) (sz : Nat) (G : Nat → Nat) (code off left wr rc : Int32) (mem oth ks vs sx : Nat → Int32) (pl ps : Int32) (pk sr tg fl xs : Nat → Int32) (st : Nat → List (Int32 × Int32)) (hst : RS st ks vs sx) (mm : Nat → Nat) (hmm : ∀ n, n < 8 → mem n = nI (mm n)) (hM : MM mm) (rows : List (Int32 × Nat × Nat)) (F Gn : Nat) (C : Bool) (hrp : RP rows F Gn C ps pk sr tg fl xs) (hsr : Srt (pkl rows)) (hpl : pl = 1 ∨ (pl = 0 ∧ rows = [])) (hp8 : P8 rows) (hoff : off = 0 ∨ off = 1) (key : Int32) : Met l yX5_home (Cond.code yX5_home cX5_home 2 (some .int) :: TB) ({ frames := 4, cells := 0, slots := 0, locals := 95 } : Room) (va_Pc [.ref (G 0), .int key] (PB D (KT cI cZ cS cJ) (mW cI cZ G code off left wr rc mem oth ks vs sx pl ps pk sr tg fl xs) sz)) (va_Qi (fun r (_ : Unit) => r = (homF off mm rows F key).2) (fun (u : Unit) t => va_P D vwCl (mW cI cZ G ((homF off mm rows F key).1) off left wr rc mem oth ks vs sx pl ps pk sr tg fl xs) t.heap ∧ va_D (va_A (mW cI cZ G code off left wr rc mem oth ks vs sx pl ps pk sr tg fl xs) sz) (mW cI cZ G ((homF off mm rows F key).1) off left wr rc mem oth ks vs sx pl ps pk sr tg fl xs)) (va_A (mW cI cZ G code off left wr rc mem oth ks vs sx pl ps pk sr tg fl xs) sz)) 0 0 (va_A (mW cI cZ G code off left wr rc mem oth ks vs sx pl ps pk sr tg fl xs) sz) := by
  refine Met.ofW (cc := cX5_home) (maxL := 2) (ret := (some .int)) (by decide) rfl ?_
  intro p e s m args below meth c s₁ B hml hv
  obtain ⟨rfl, hsz, hP, hK, hD0⟩ := hv
  have hx := B.exec
  have hb := B.bytes
  have hr := B.returns
  have hts := atoms_spec (ws := (Cond.code yX5_home cX5_home 2 (some .int) :: TB)) B.pre
  have ht : ∀ w ∈ TB, w.before _ s = true := fun w h => hts w (List.mem_cons_of_mem _ h)
  have hown : s.vm.findClass RX5 = some m.cls := findClass_of_methodNamed B.named
  have hlocks := B.notSynchronized
  subst hsz
  have hD := hD0.self (sz := s.heap.size)
  generalize hAe : va_A (mW cI cZ G code off left wr rc mem oth ks vs sx pl ps pk sr tg fl xs) s.heap.size = A at hD ⊢
  have hA : ∀ q : Nat, s.heap.size ≤ q → A q := fun q h => by rw [← hAe]; exact Or.inr h
  have hS : va_S A s.heap s.heap [] := va_S.rf
  have hP : va_P D vwCl (mW cI cZ G code off left wr rc mem oth ks vs sx pl ps pk sr tg fl xs) s.heap := hP
  have hl := lv_entry ([.ref (G 0), .int key]) (n := 2) (Nat.le_of_ble_eq_true rfl)
  rw [lg_entry_eq]
  generalize (lg_sl ([.ref (G 0), .int key]) ++ List.replicate (2 - (lg_sl ([.ref (G 0), .int key])).length) Slot.unset).toArray = ls at hl ⊢
  have hl : lv_has ls 2 [(0, .ref (G 0)), (1, .int key)] := hl
  refine lv_aload_n hx hb dX5_home_0 rfl (lv_at hl 0 rfl) ?_
  have hPc := hP.sub (ws' := mW cI cZ G code off left wr rc mem oth ks vs sx pl ps pk sr tg fl xs) [0, 1, 2, 3, 4, 5, 6, 7, 8, 9, 10] rfl
  have hDc := hD.sub (ws' := mW cI cZ G code off left wr rc mem oth ks vs sx pl ps pk sr tg fl xs) [0, 1, 2, 3, 4, 5, 6, 7, 8, 9, 10] (by decide) rfl
  have hFc := va_free (wc := mW cI cZ G code off left wr rc mem oth ks vs sx pl ps pk sr tg fl xs) hD hS hA [0, 1, 2, 3, 4, 5, 6, 7, 8, 9, 10] rfl
  refine va_calli (va_runV (As := []) (rest := []) ⟨hx, hb, hml, hown, ht⟩ (c_X5_isOff l D cI cZ cS cJ s.heap.size G code off left wr rc mem oth ks vs sx pl ps pk sr tg fl xs hoff) (xwV 0 ht kw3_152 kw3_149 kw1_11 kw3_151 kwS_24 rfl rfl (by decide +kernel) ⟨Nat.le_of_ble_eq_true rfl, Nat.le_of_ble_eq_true rfl⟩) ⟨PB.blind, va_recv hK hPc (ci := 5) (q0 := 0) rfl rfl, fun U hU hW => PB.mk hU hW hPc hK hDc⟩ rfl rfl hl.1 rfl (lv_room (Nat.le_of_ble_eq_true rfl)) dX5_home_1 ⟨Nat.le_of_ble_eq_true rfl, Nat.le_of_ble_eq_true rfl⟩) hS (fun q _ h => hFc q h) hFc (fun r1 u1 t1 H1 locs ht1 hvm w1 hB hz1 hk1 hS => ?_)
  try dsimp only at w1 hB
  obtain ⟨hP1, hD1⟩ := hB
  rw [ht1] at hP1
  obtain ⟨hP, hD⟩ := wk_join (w1 := (mW cI cZ G off off left wr rc mem oth ks vs sx pl ps pk sr tg fl xs)) hP hD [0, 1, 2, 3, 4, 5, 6, 7, 8, 9, 10] rfl (by decide) rfl hk1 hFc hP1 hD1
  generalize H1 = H at hP hS ⊢
  have hP : va_P D vwCl (mW cI cZ G off off left wr rc mem oth ks vs sx pl ps pk sr tg fl xs) H := hP
  have hD : va_D A (mW cI cZ G off off left wr rc mem oth ks vs sx pl ps pk sr tg fl xs) := hD
  have w1 := w1.symm
  subst w1
  refine lv_if_eq (tgt := 11) hx hb dX5_home_4 (by decide) (fun c4 => ?_) (fun c4 => ?_)
  · have ho : ¬ ¬ off = 0 := fun q => q c4
    have ho0 : off = 0 := c4
    refine lv_aload_n hx hb dX5_home_11 rfl (lv_at hl 0 rfl) ?_
    refine lv_iload_n hx hb dX5_home_12 rfl (lv_at hl 1 rfl) ?_
    have hPc := hP.sub (ws' := mW cI cZ G off off left wr rc mem oth ks vs sx pl ps pk sr tg fl xs) [0, 1, 2, 3, 4, 5, 6, 7, 8, 9, 10] rfl
    have hDc := hD.sub (ws' := mW cI cZ G off off left wr rc mem oth ks vs sx pl ps pk sr tg fl xs) [0, 1, 2, 3, 4, 5, 6, 7, 8, 9, 10] (by decide) rfl
    have hFc := va_free (wc := mW cI cZ G off off left wr rc mem oth ks vs sx pl ps pk sr tg fl xs) hD hS hA [0, 1, 2, 3, 4, 5, 6, 7, 8, 9, 10] rfl
    refine va_calli (va_runV (As := [.int key]) (rest := []) ⟨hx, hb, hml, hown, ht⟩ (c_X5_homeOf l D cI cZ cS cJ H.size G off off left wr rc mem oth ks vs sx pl ps pk sr tg fl xs rows F Gn C hrp hsr hpl mm hmm hM key) (xwV 1 ht kw3_160 kw3_157 kw1_11 kw3_159 kwS_26 rfl rfl (by decide +kernel) ⟨Nat.le_of_ble_eq_true rfl, Nat.le_of_ble_eq_true rfl⟩) ⟨PB.blind, va_recv hK hPc (ci := 5) (q0 := 0) rfl rfl, fun U hU hW => PB.mk hU hW hPc hK hDc⟩ rfl rfl hl.1 rfl (lv_room (Nat.le_of_ble_eq_true rfl)) dX5_home_13 ⟨Nat.le_of_ble_eq_true rfl, Nat.le_of_ble_eq_true rfl⟩) hS (fun q _ h => hFc q h) hFc (fun r13 u13 t13 H1 locs ht1 hvm w13 hB hz1 hk1 hS => ?_)
    try dsimp only at w13 hB
    rw [ht1] at hB
    have hP := wk_ro hP hD [0, 1, 2, 3, 4, 5, 6, 7, 8, 9, 10] rfl hk1 hB
    generalize H1 = H at hP hS ⊢
    exact W.iret (v := r13) hx hb hr (fun t ht2 hW => ⟨⟨r13, (), rfl, by
          (try dsimp only)
          (try dsimp only)
          unfold homF
          rw [if_neg ho]
          try (first | exact w13 | rfl), by
          (try dsimp only)
          have e9 : (homF off mm rows F key).1 = off := by
            unfold homF
            rw [if_neg ho]
            try (first | exact ho0.symm | rfl | (rw [ho0]; done))
          rw [e9, ht2]
          exact ⟨hP, hD⟩⟩, hS.F ht2⟩) hS.2.2 dX5_home_16
  · have ho : ¬ off = 0 := c4
    have ho0 : off = 1 := hoff.resolve_left c4
    refine lv_iconst (v := 0) hx hb dX5_home_7 (by decide) ?_
    refine lv_goto (tgt := 16) hx hb dX5_home_8 (by decide) ?_
    exact W.iret (v := 0) hx hb hr (fun t ht2 hW => ⟨⟨0, (), rfl, by
          (try dsimp only)
          (try dsimp only)
          unfold homF
          rw [if_pos ho]
          try (first | exact w13 | rfl), by
          (try dsimp only)
          have e9 : (homF off mm rows F key).1 = off := by
            unfold homF
            rw [if_pos ho]
            try (first | exact ho0.symm | rfl | (rw [ho0]; done))
          rw [e9, ht2]
          exact ⟨hP, hD⟩⟩, hS.F ht2⟩) hS.2.2 dX5_home_16

set_option maxHeartbeats 4000000 in
set_option maxRecDepth 100000 in
theorem c_X5_state (l : Launch) (D : va_G) (cI cZ cS cJ : ClassId) (sz : Nat) (G : Nat → Nat) (code off left wr rc : Int32) (mem oth ks vs sx : Nat → Int32) (pl ps : Int32) (pk sr tg fl xs : Nat → Int32) (st : Nat → List (Int32 × Int32)) (hst : RS st ks vs sx) (mm : Nat → Nat) (hmm : ∀ n, n < 8 → mem n = nI (mm n)) (hM : MM mm) (rows : List (Int32 × Nat × Nat)) (F Gn : Nat) (C : Bool) (hrp : RP rows F Gn C ps pk sr tg fl xs) (hsr : Srt (pkl rows)) (hpl : pl = 1 ∨ (pl = 0 ∧ rows = [])) (hp8 : P8 rows) (hoff : off = 0 ∨ off = 1) (key : Int32) : Met l yX5_state (Cond.code yX5_state cX5_state 3 (some .int) :: TB) ({ frames := 1, cells := 0, slots := 0, locals := 23 } : Room) (va_Pc [.ref (G 0), .int key] (PB D (KT cI cZ cS cJ) (mW cI cZ G code off left wr rc mem oth ks vs sx pl ps pk sr tg fl xs) sz)) (va_Qi (fun r (_ : Unit) => r = (staF off rows F Gn C key).2) (fun (u : Unit) t => va_P D vwCl (mW cI cZ G ((staF off rows F Gn C key).1) off left wr rc mem oth ks vs sx pl ps pk sr tg fl xs) t.heap ∧ va_D (va_A (mW cI cZ G code off left wr rc mem oth ks vs sx pl ps pk sr tg fl xs) sz) (mW cI cZ G ((staF off rows F Gn C key).1) off left wr rc mem oth ks vs sx pl ps pk sr tg fl xs)) (va_A (mW cI cZ G code off left wr rc mem oth ks vs sx pl ps pk sr tg fl xs) sz)) 0 0 (va_A (mW cI cZ G code off left wr rc mem oth ks vs sx pl ps pk sr tg fl xs) sz) := by
  refine Met.ofW (cc := cX5_state) (maxL := 3) (ret := (some .int)) (by decide) rfl ?_
  intro p e s m args below meth c s₁ B hml hv
  obtain ⟨rfl, hsz, hP, hK, hD0⟩ := hv
  have hx := B.exec
  have hb := B.bytes
  have hr := B.returns
  have hts := atoms_spec (ws := (Cond.code yX5_state cX5_state 3 (some .int) :: TB)) B.pre
  have ht : ∀ w ∈ TB, w.before _ s = true := fun w h => hts w (List.mem_cons_of_mem _ h)
  have hown : s.vm.findClass RX5 = some m.cls := findClass_of_methodNamed B.named
  have hlocks := B.notSynchronized
  subst hsz
  have hD := hD0.self (sz := s.heap.size)
  generalize hAe : va_A (mW cI cZ G code off left wr rc mem oth ks vs sx pl ps pk sr tg fl xs) s.heap.size = A at hD ⊢
  have hA : ∀ q : Nat, s.heap.size ≤ q → A q := fun q h => by rw [← hAe]; exact Or.inr h
  have hS : va_S A s.heap s.heap [] := va_S.rf
  have hP : va_P D vwCl (mW cI cZ G code off left wr rc mem oth ks vs sx pl ps pk sr tg fl xs) s.heap := hP
  have hl := lv_entry ([.ref (G 0), .int key]) (n := 3) (Nat.le_of_ble_eq_true rfl)
  rw [lg_entry_eq]
  generalize (lg_sl ([.ref (G 0), .int key]) ++ List.replicate (3 - (lg_sl ([.ref (G 0), .int key])).length) Slot.unset).toArray = ls at hl ⊢
  have hl : lv_has ls 3 [(0, .ref (G 0)), (1, .int key)] := hl
  refine lv_aload_n hx hb dX5_state_0 rfl (lv_at hl 0 rfl) ?_
  have hPc := hP.sub (ws' := mW cI cZ G code off left wr rc mem oth ks vs sx pl ps pk sr tg fl xs) [0, 1, 2, 3, 4, 5, 6, 7, 8, 9, 10] rfl
  have hDc := hD.sub (ws' := mW cI cZ G code off left wr rc mem oth ks vs sx pl ps pk sr tg fl xs) [0, 1, 2, 3, 4, 5, 6, 7, 8, 9, 10] (by decide) rfl
  have hFc := va_free (wc := mW cI cZ G code off left wr rc mem oth ks vs sx pl ps pk sr tg fl xs) hD hS hA [0, 1, 2, 3, 4, 5, 6, 7, 8, 9, 10] rfl
  refine va_calli (va_runV (As := []) (rest := []) ⟨hx, hb, hml, hown, ht⟩ (c_X5_isOff l D cI cZ cS cJ s.heap.size G code off left wr rc mem oth ks vs sx pl ps pk sr tg fl xs hoff) (xwV 0 ht kw3_152 kw3_149 kw1_11 kw3_151 kwS_24 rfl rfl (by decide +kernel) ⟨Nat.le_of_ble_eq_true rfl, Nat.le_of_ble_eq_true rfl⟩) ⟨PB.blind, va_recv hK hPc (ci := 5) (q0 := 0) rfl rfl, fun U hU hW => PB.mk hU hW hPc hK hDc⟩ rfl rfl hl.1 rfl (lv_room (Nat.le_of_ble_eq_true rfl)) dX5_state_1 ⟨Nat.le_of_ble_eq_true rfl, Nat.le_of_ble_eq_true rfl⟩) hS (fun q _ h => hFc q h) hFc (fun r1 u1 t1 H1 locs ht1 hvm w1 hB hz1 hk1 hS => ?_)
  try dsimp only at w1 hB
  obtain ⟨hP1, hD1⟩ := hB
  rw [ht1] at hP1
  obtain ⟨hP, hD⟩ := wk_join (w1 := (mW cI cZ G off off left wr rc mem oth ks vs sx pl ps pk sr tg fl xs)) hP hD [0, 1, 2, 3, 4, 5, 6, 7, 8, 9, 10] rfl (by decide) rfl hk1 hFc hP1 hD1
  generalize H1 = H at hP hS ⊢
  have hP : va_P D vwCl (mW cI cZ G off off left wr rc mem oth ks vs sx pl ps pk sr tg fl xs) H := hP
  have hD : va_D A (mW cI cZ G off off left wr rc mem oth ks vs sx pl ps pk sr tg fl xs) := hD
  have w1 := w1.symm
  subst w1
  refine lv_if_eq (tgt := 9) hx hb dX5_state_4 (by decide) (fun c4 => ?_) (fun c4 => ?_)
  · have ho : ¬ ¬ off = 0 := fun q => q c4
    have ho0 : off = 0 := c4
    refine lv_aload_n hx hb dX5_state_9 rfl (lv_at hl 0 rfl) ?_
    refine lv_iload_n hx hb dX5_state_10 rfl (lv_at hl 1 rfl) ?_
    have hPc := hP.sub (ws' := mW cI cZ G off off left wr rc mem oth ks vs sx pl ps pk sr tg fl xs) [0, 1, 2, 3, 4, 5, 6, 7, 8, 9, 10] rfl
    have hDc := hD.sub (ws' := mW cI cZ G off off left wr rc mem oth ks vs sx pl ps pk sr tg fl xs) [0, 1, 2, 3, 4, 5, 6, 7, 8, 9, 10] (by decide) rfl
    have hFc := va_free (wc := mW cI cZ G off off left wr rc mem oth ks vs sx pl ps pk sr tg fl xs) hD hS hA [0, 1, 2, 3, 4, 5, 6, 7, 8, 9, 10] rfl
    refine va_calli (va_runV (As := [.int key]) (rest := []) ⟨hx, hb, hml, hown, ht⟩ (c_X5_planned l D cI cZ cS cJ H.size G off off left wr rc mem oth ks vs sx pl ps pk sr tg fl xs rows F Gn C hrp hsr hpl key) (xwV 1 ht kw3_164 kw3_161 kw1_11 kw3_163 kwS_27 rfl rfl (by decide +kernel) ⟨Nat.le_of_ble_eq_true rfl, Nat.le_of_ble_eq_true rfl⟩) ⟨PB.blind, va_recv hK hPc (ci := 5) (q0 := 0) rfl rfl, fun U hU hW => PB.mk hU hW hPc hK hDc⟩ rfl rfl hl.1 rfl (lv_room (Nat.le_of_ble_eq_true rfl)) dX5_state_11 ⟨Nat.le_of_ble_eq_true rfl, Nat.le_of_ble_eq_true rfl⟩) hS (fun q _ h => hFc q h) hFc (fun r11 u11 t11 H1 locs ht1 hvm w11 hB hz1 hk1 hS => ?_)
    try dsimp only at w11 hB
    rw [ht1] at hB
    have hP := wk_ro hP hD [0, 1, 2, 3, 4, 5, 6, 7, 8, 9, 10] rfl hk1 hB
    generalize H1 = H at hP hS ⊢
    refine lv_istore_n (lv' := [(2, .int r11), (0, .ref (G 0)), (1, .int key)]) hx hb dX5_state_14 rfl hl (by decide) rfl (fun ls hl => ?_)
    refine lv_iload_n hx hb dX5_state_15 rfl (lv_at hl 0 rfl) ?_
    refine lv_if_ge (tgt := 23) hx hb dX5_state_16 (by decide) (fun c16 => ?_) (fun c16 => ?_)
    · have hpin : pin rows key = true := by
        rcases Bool.eq_false_or_eq_true (pin rows key) with q | q
        · exact q
        · exact absurd (show ¬ (0 : Int32) ≤ r11 by rw [w11, rowI, if_neg (by rw [q]; decide)]; decide) (fun z => z c16)
      have hrI : rowI rows key = nI (prow rows key) := if_pos hpin
      have hk := (pin_iff.mp hpin).1
      have hle := hrp.le
      refine lv_aload_n hx hb dX5_state_23 rfl (lv_at hl 1 rfl) ?_
      refine va_get (D := D) (ci := 5) (v := .ref (G 10)) (C := RX5) (T := TX5) (N := 17) hx hb ht inX5 hown hK hP 0 rfl rfl 16 (by decide) (ht _ kw3_96) (fun _ h9 => h9) rfl dX5_state_24 ?_
      refine lv_iload_n hx hb dX5_state_27 rfl (lv_at hl 0 rfl) ?_
      refine ya_iald hx hb hK hP 10 0 rfl rfl (prow rows key) (by rw [w11, hrI]) (by omega) (by decide) dX5_state_28 ?_
      exact W.iret (v := xs (prow rows key)) hx hb hr (fun t ht2 hW => ⟨⟨xs (prow rows key), (), rfl, by
            (try dsimp only)
            (try dsimp only)
            unfold staF
            rw [if_neg ho]
            try (first | rfl | (show _ = (if _ then _ else _); first | (rw [if_pos hpin, hrp.x hk]; done) | (rw [if_neg hnp]; done))), by
            (try dsimp only)
            have e9 : (staF off rows F Gn C key).1 = off := by
              unfold staF
              rw [if_neg ho]
              try (first | exact ho0.symm | rfl | (rw [ho0]; done))
            rw [e9, ht2]
            exact ⟨hP, hD⟩⟩, hS.F ht2⟩) hS.2.2 dX5_state_29
    · have hnp : ¬ pin rows key = true := fun q => c16 (by rw [w11, rowI, if_pos q]; exact nI_pos' (by have := (pin_iff.mp q).1; have := hrp.le; omega))
      refine lv_iconst (v := 0) hx hb dX5_state_19 (by decide) ?_
      refine lv_goto (tgt := 29) hx hb dX5_state_20 (by decide) ?_
      exact W.iret (v := 0) hx hb hr (fun t ht2 hW => ⟨⟨0, (), rfl, by
            (try dsimp only)
            (try dsimp only)
            unfold staF
            rw [if_neg ho]
            try (first | rfl | (show _ = (if _ then _ else _); first | (rw [if_pos hpin, hrp.x hk]; done) | (rw [if_neg hnp]; done))), by
            (try dsimp only)
            have e9 : (staF off rows F Gn C key).1 = off := by
              unfold staF
              rw [if_neg ho]
              try (first | exact ho0.symm | rfl | (rw [ho0]; done))
            rw [e9, ht2]
            exact ⟨hP, hD⟩⟩, hS.F ht2⟩) hS.2.2 dX5_state_29
  · have ho : ¬ off = 0 := c4
    have ho0 : off = 1 := hoff.resolve_left c4
    refine lv_iconst (v := 0) hx hb dX5_state_7 (by decide) ?_
    exact W.iret (v := 0) hx hb hr (fun t ht2 hW => ⟨⟨0, (), rfl, by
          (try dsimp only)
          (try dsimp only)
          unfold staF
          rw [if_pos ho]
          try (first | rfl | (show _ = (if _ then _ else _); first | (rw [if_pos hpin, hrp.x hk]; done) | (rw [if_neg hnp]; done))), by
          (try dsimp only)
          have e9 : (staF off rows F Gn C key).1 = off := by
            unfold staF
            rw [if_pos ho]
            try (first | exact ho0.symm | rfl | (rw [ho0]; done))
          rw [e9, ht2]
          exact ⟨hP, hD⟩⟩, hS.F ht2⟩) hS.2.2 dX5_state_8

set_option maxHeartbeats 4000000 in
set_option maxRecDepth 100000 in
theorem c_X5_holds (l : Launch) (D : va_G) (cI cZ cS cJ : ClassId) (sz : Nat) (G : Nat → Nat) (code off left wr rc : Int32) (mem oth ks vs sx : Nat → Int32) (pl ps : Int32) (pk sr tg fl xs : Nat → Int32) (st : Nat → List (Int32 × Int32)) (hst : RS st ks vs sx) (node key : Int32) : Met l yX5_holds (Cond.code yX5_holds cX5_holds 3 (some .boolean) :: TB) ({ frames := 2, cells := 0, slots := 0, locals := 46 } : Room) (va_Pc [.ref (G 0), .int node, .int key] (PB D (KT cI cZ cS cJ) (mW cI cZ G code off left wr rc mem oth ks vs sx pl ps pk sr tg fl xs) sz)) (va_Qi (fun r (_ : Unit) => r = (hldF st node key).2) (fun (u : Unit) t => va_P D vwCl (mW cI cZ G ((hldF st node key).1) off left wr rc mem oth ks vs sx pl ps pk sr tg fl xs) t.heap ∧ va_D (va_A (mW cI cZ G code off left wr rc mem oth ks vs sx pl ps pk sr tg fl xs) sz) (mW cI cZ G ((hldF st node key).1) off left wr rc mem oth ks vs sx pl ps pk sr tg fl xs)) (va_A (mW cI cZ G code off left wr rc mem oth ks vs sx pl ps pk sr tg fl xs) sz)) 0 0 (va_A (mW cI cZ G code off left wr rc mem oth ks vs sx pl ps pk sr tg fl xs) sz) := by
  refine Met.ofW (cc := cX5_holds) (maxL := 3) (ret := (some .boolean)) (by decide) rfl ?_
  intro p e s m args below meth c s₁ B hml hv
  obtain ⟨rfl, hsz, hP, hK, hD0⟩ := hv
  have hx := B.exec
  have hb := B.bytes
  have hr := B.returns
  have hts := atoms_spec (ws := (Cond.code yX5_holds cX5_holds 3 (some .boolean) :: TB)) B.pre
  have ht : ∀ w ∈ TB, w.before _ s = true := fun w h => hts w (List.mem_cons_of_mem _ h)
  have hown : s.vm.findClass RX5 = some m.cls := findClass_of_methodNamed B.named
  have hlocks := B.notSynchronized
  subst hsz
  have hD := hD0.self (sz := s.heap.size)
  generalize hAe : va_A (mW cI cZ G code off left wr rc mem oth ks vs sx pl ps pk sr tg fl xs) s.heap.size = A at hD ⊢
  have hA : ∀ q : Nat, s.heap.size ≤ q → A q := fun q h => by rw [← hAe]; exact Or.inr h
  have hS : va_S A s.heap s.heap [] := va_S.rf
  have hP : va_P D vwCl (mW cI cZ G code off left wr rc mem oth ks vs sx pl ps pk sr tg fl xs) s.heap := hP
  have hl := lv_entry ([.ref (G 0), .int node, .int key]) (n := 3) (Nat.le_of_ble_eq_true rfl)
  rw [lg_entry_eq]
  generalize (lg_sl ([.ref (G 0), .int node, .int key]) ++ List.replicate (3 - (lg_sl ([.ref (G 0), .int node, .int key])).length) Slot.unset).toArray = ls at hl ⊢
  have hl : lv_has ls 3 [(0, .ref (G 0)), (1, .int node), (2, .int key)] := hl
  refine lv_aload_n hx hb dX5_holds_0 rfl (lv_at hl 0 rfl) ?_
  refine lv_iload_n hx hb dX5_holds_1 rfl (lv_at hl 1 rfl) ?_
  have hPc := hP.sub (ws' := mW cI cZ G code off left wr rc mem oth ks vs sx pl ps pk sr tg fl xs) [0, 1, 2, 3, 4, 5, 6, 7, 8, 9, 10] rfl
  have hDc := hD.sub (ws' := mW cI cZ G code off left wr rc mem oth ks vs sx pl ps pk sr tg fl xs) [0, 1, 2, 3, 4, 5, 6, 7, 8, 9, 10] (by decide) rfl
  have hFc := va_free (wc := mW cI cZ G code off left wr rc mem oth ks vs sx pl ps pk sr tg fl xs) hD hS hA [0, 1, 2, 3, 4, 5, 6, 7, 8, 9, 10] rfl
  refine va_calli (va_runV (As := [.int node]) (rest := []) ⟨hx, hb, hml, hown, ht⟩ (c_X5_noNode l D cI cZ cS cJ s.heap.size G code off left wr rc mem oth ks vs sx pl ps pk sr tg fl xs node) (xwV 1 ht kw3_216 kw3_213 kw1_11 kw3_215 kwS_35 rfl rfl (by decide +kernel) ⟨Nat.le_of_ble_eq_true rfl, Nat.le_of_ble_eq_true rfl⟩) ⟨PB.blind, va_recv hK hPc (ci := 5) (q0 := 0) rfl rfl, fun U hU hW => PB.mk hU hW hPc hK hDc⟩ rfl rfl hl.1 rfl (lv_room (Nat.le_of_ble_eq_true rfl)) dX5_holds_2 ⟨Nat.le_of_ble_eq_true rfl, Nat.le_of_ble_eq_true rfl⟩) hS (fun q _ h => hFc q h) hFc (fun r2 u2 t2 H1 locs ht1 hvm w2 hB hz1 hk1 hS => ?_)
  try dsimp only at w2 hB
  obtain ⟨hP1, hD1⟩ := hB
  rw [ht1] at hP1
  obtain ⟨hP, hD⟩ := wk_join (w1 := (mW cI cZ G (if node < 0 ∨ 8 ≤ node then 1 else 0) off left wr rc mem oth ks vs sx pl ps pk sr tg fl xs)) hP hD [0, 1, 2, 3, 4, 5, 6, 7, 8, 9, 10] rfl (by decide) rfl hk1 hFc hP1 hD1
  generalize H1 = H at hP hS ⊢
  have hP : va_P D vwCl (mW cI cZ G (if node < 0 ∨ 8 ≤ node then 1 else 0) off left wr rc mem oth ks vs sx pl ps pk sr tg fl xs) H := hP
  have hD : va_D A (mW cI cZ G (if node < 0 ∨ 8 ≤ node then 1 else 0) off left wr rc mem oth ks vs sx pl ps pk sr tg fl xs) := hD
  refine lv_if_ne (tgt := 21) hx hb dX5_holds_5 (by decide) (fun c5 => ?_) (fun c5 => ?_)
  · have hnb : node < 0 ∨ 8 ≤ node := Decidable.byContradiction (fun q => c5 (by rw [w2, if_neg q]))
    refine lv_iconst (v := 0) hx hb dX5_holds_21 (by decide) ?_
    exact W.zret (v := 0) hx hb hr (by decide +kernel) (fun t ht2 hW => ⟨⟨0, (), rfl, by
          (try dsimp only)
          (try dsimp only)
          unfold hldF
          rw [if_pos hnb]
          try (first | rfl | (rw [hnc]; show _ = (if _ then _ else _); first | rw [if_pos hh] | rw [if_neg hh])), by
          (try dsimp only)
          have e9 : (hldF st node key).1 = (if node < 0 ∨ 8 ≤ node then 1 else 0) := by
            unfold hldF
            rw [if_pos hnb]
            try (first | rw [if_neg hnb] | rw [if_pos hnb])
          rw [e9, ht2]
          exact ⟨hP, hD⟩⟩, hS.F ht2⟩) hS.2.2 dX5_holds_22
  · have hnb : ¬ (node < 0 ∨ 8 ≤ node) := fun q => by rw [w2, if_pos q] at c5; exact absurd c5 (by decide)
    obtain ⟨n, hn, hne, hnc⟩ := nb_in hnb
    subst hne
    refine lv_aload_n hx hb dX5_holds_8 rfl (lv_at hl 0 rfl) ?_
    refine lv_iload_n hx hb dX5_holds_9 rfl (lv_at hl 1 rfl) ?_
    refine lv_iload_n hx hb dX5_holds_10 rfl (lv_at hl 2 rfl) ?_
    have hPc := hP.sub (ws' := mW cI cZ G (if nI n < 0 ∨ 8 ≤ nI n then 1 else 0) off left wr rc mem oth ks vs sx pl ps pk sr tg fl xs) [0, 1, 2, 3, 4, 5, 6, 7, 8, 9, 10] rfl
    have hDc := hD.sub (ws' := mW cI cZ G (if nI n < 0 ∨ 8 ≤ nI n then 1 else 0) off left wr rc mem oth ks vs sx pl ps pk sr tg fl xs) [0, 1, 2, 3, 4, 5, 6, 7, 8, 9, 10] (by decide) rfl
    have hFc := va_free (wc := mW cI cZ G (if nI n < 0 ∨ 8 ≤ nI n then 1 else 0) off left wr rc mem oth ks vs sx pl ps pk sr tg fl xs) hD hS hA [0, 1, 2, 3, 4, 5, 6, 7, 8, 9, 10] rfl
    refine va_calli (va_runV (As := [.int (nI n), .int key]) (rest := []) ⟨hx, hb, hml, hown, ht⟩ (c_X5_has l D cI cZ cS cJ H.size G (if nI n < 0 ∨ 8 ≤ nI n then 1 else 0) off left wr rc mem oth ks vs sx pl ps pk sr tg fl xs st hst n hn key) (xwV 2 ht kw3_176 kw3_173 kw1_11 kw3_175 kwS_28 rfl rfl (by decide +kernel) ⟨Nat.le_of_ble_eq_true rfl, Nat.le_of_ble_eq_true rfl⟩) ⟨PB.blind, va_recv hK hPc (ci := 5) (q0 := 0) rfl rfl, fun U hU hW => PB.mk hU hW hPc hK hDc⟩ rfl rfl hl.1 rfl (lv_room (Nat.le_of_ble_eq_true rfl)) dX5_holds_11 ⟨Nat.le_of_ble_eq_true rfl, Nat.le_of_ble_eq_true rfl⟩) hS (fun q _ h => hFc q h) hFc (fun r11 u11 t11 H1 locs ht1 hvm w11 hB hz1 hk1 hS => ?_)
    try dsimp only at w11 hB
    rw [ht1] at hB
    have hP := wk_ro hP hD [0, 1, 2, 3, 4, 5, 6, 7, 8, 9, 10] rfl hk1 hB
    generalize H1 = H at hP hS ⊢
    refine lv_if_eq (tgt := 21) hx hb dX5_holds_14 (by decide) (fun c14 => ?_) (fun c14 => ?_)
    · have hh : ¬ hs (st n) key = true := fun q => by rw [w11, if_pos q] at c14; exact absurd c14 (by decide)
      refine lv_iconst (v := 0) hx hb dX5_holds_21 (by decide) ?_
      exact W.zret (v := 0) hx hb hr (by decide +kernel) (fun t ht2 hW => ⟨⟨0, (), rfl, by
            (try dsimp only)
            (try dsimp only)
            unfold hldF
            rw [if_neg hnb]
            try (first | rfl | (rw [hnc]; show _ = (if _ then _ else _); first | rw [if_pos hh] | rw [if_neg hh])), by
            (try dsimp only)
            have e9 : (hldF st (nI n) key).1 = (if nI n < 0 ∨ 8 ≤ nI n then 1 else 0) := by
              unfold hldF
              rw [if_neg hnb]
              try (first | rw [if_neg hnb] | rw [if_pos hnb])
            rw [e9, ht2]
            exact ⟨hP, hD⟩⟩, hS.F ht2⟩) hS.2.2 dX5_holds_22
    · have hh : hs (st n) key = true := Decidable.byContradiction (fun q => c14 (by rw [w11, if_neg q]))
      refine lv_iconst (v := 1) hx hb dX5_holds_17 (by decide) ?_
      refine lv_goto (tgt := 22) hx hb dX5_holds_18 (by decide) ?_
      exact W.zret (v := 1) hx hb hr (by decide +kernel) (fun t ht2 hW => ⟨⟨1, (), rfl, by
            (try dsimp only)
            (try dsimp only)
            unfold hldF
            rw [if_neg hnb]
            try (first | rfl | (rw [hnc]; show _ = (if _ then _ else _); first | rw [if_pos hh] | rw [if_neg hh])), by
            (try dsimp only)
            have e9 : (hldF st (nI n) key).1 = (if nI n < 0 ∨ 8 ≤ nI n then 1 else 0) := by
              unfold hldF
              rw [if_neg hnb]
              try (first | rw [if_neg hnb] | rw [if_pos hnb])
            rw [e9, ht2]
            exact ⟨hP, hD⟩⟩, hS.F ht2⟩) hS.2.2 dX5_holds_22

set_option maxHeartbeats 4000000 in
set_option maxRecDepth 100000 in
theorem c_X5_size (l : Launch) (D : va_G) (cI cZ cS cJ : ClassId) (sz : Nat) (G : Nat → Nat) (code off left wr rc : Int32) (mem oth ks vs sx : Nat → Int32) (pl ps : Int32) (pk sr tg fl xs : Nat → Int32) (st : Nat → List (Int32 × Int32)) (hst : RS st ks vs sx) (node : Int32) : Met l yX5_size (Cond.code yX5_size cX5_size 2 (some .int) :: TB) ({ frames := 1, cells := 0, slots := 0, locals := 21 } : Room) (va_Pc [.ref (G 0), .int node] (PB D (KT cI cZ cS cJ) (mW cI cZ G code off left wr rc mem oth ks vs sx pl ps pk sr tg fl xs) sz)) (va_Qi (fun r (_ : Unit) => r = (sizF st node).2) (fun (u : Unit) t => va_P D vwCl (mW cI cZ G ((sizF st node).1) off left wr rc mem oth ks vs sx pl ps pk sr tg fl xs) t.heap ∧ va_D (va_A (mW cI cZ G code off left wr rc mem oth ks vs sx pl ps pk sr tg fl xs) sz) (mW cI cZ G ((sizF st node).1) off left wr rc mem oth ks vs sx pl ps pk sr tg fl xs)) (va_A (mW cI cZ G code off left wr rc mem oth ks vs sx pl ps pk sr tg fl xs) sz)) 0 0 (va_A (mW cI cZ G code off left wr rc mem oth ks vs sx pl ps pk sr tg fl xs) sz) := by
  refine Met.ofW (cc := cX5_size) (maxL := 2) (ret := (some .int)) (by decide) rfl ?_
  intro p e s m args below meth c s₁ B hml hv
  obtain ⟨rfl, hsz, hP, hK, hD0⟩ := hv
  have hx := B.exec
  have hb := B.bytes
  have hr := B.returns
  have hts := atoms_spec (ws := (Cond.code yX5_size cX5_size 2 (some .int) :: TB)) B.pre
  have ht : ∀ w ∈ TB, w.before _ s = true := fun w h => hts w (List.mem_cons_of_mem _ h)
  have hown : s.vm.findClass RX5 = some m.cls := findClass_of_methodNamed B.named
  have hlocks := B.notSynchronized
  subst hsz
  have hD := hD0.self (sz := s.heap.size)
  generalize hAe : va_A (mW cI cZ G code off left wr rc mem oth ks vs sx pl ps pk sr tg fl xs) s.heap.size = A at hD ⊢
  have hA : ∀ q : Nat, s.heap.size ≤ q → A q := fun q h => by rw [← hAe]; exact Or.inr h
  have hS : va_S A s.heap s.heap [] := va_S.rf
  have hP : va_P D vwCl (mW cI cZ G code off left wr rc mem oth ks vs sx pl ps pk sr tg fl xs) s.heap := hP
  have hl := lv_entry ([.ref (G 0), .int node]) (n := 2) (Nat.le_of_ble_eq_true rfl)
  rw [lg_entry_eq]
  generalize (lg_sl ([.ref (G 0), .int node]) ++ List.replicate (2 - (lg_sl ([.ref (G 0), .int node])).length) Slot.unset).toArray = ls at hl ⊢
  have hl : lv_has ls 2 [(0, .ref (G 0)), (1, .int node)] := hl
  refine lv_aload_n hx hb dX5_size_0 rfl (lv_at hl 0 rfl) ?_
  refine lv_iload_n hx hb dX5_size_1 rfl (lv_at hl 1 rfl) ?_
  have hPc := hP.sub (ws' := mW cI cZ G code off left wr rc mem oth ks vs sx pl ps pk sr tg fl xs) [0, 1, 2, 3, 4, 5, 6, 7, 8, 9, 10] rfl
  have hDc := hD.sub (ws' := mW cI cZ G code off left wr rc mem oth ks vs sx pl ps pk sr tg fl xs) [0, 1, 2, 3, 4, 5, 6, 7, 8, 9, 10] (by decide) rfl
  have hFc := va_free (wc := mW cI cZ G code off left wr rc mem oth ks vs sx pl ps pk sr tg fl xs) hD hS hA [0, 1, 2, 3, 4, 5, 6, 7, 8, 9, 10] rfl
  refine va_calli (va_runV (As := [.int node]) (rest := []) ⟨hx, hb, hml, hown, ht⟩ (c_X5_noNode l D cI cZ cS cJ s.heap.size G code off left wr rc mem oth ks vs sx pl ps pk sr tg fl xs node) (xwV 1 ht kw3_216 kw3_213 kw1_11 kw3_215 kwS_35 rfl rfl (by decide +kernel) ⟨Nat.le_of_ble_eq_true rfl, Nat.le_of_ble_eq_true rfl⟩) ⟨PB.blind, va_recv hK hPc (ci := 5) (q0 := 0) rfl rfl, fun U hU hW => PB.mk hU hW hPc hK hDc⟩ rfl rfl hl.1 rfl (lv_room (Nat.le_of_ble_eq_true rfl)) dX5_size_2 ⟨Nat.le_of_ble_eq_true rfl, Nat.le_of_ble_eq_true rfl⟩) hS (fun q _ h => hFc q h) hFc (fun r2 u2 t2 H1 locs ht1 hvm w2 hB hz1 hk1 hS => ?_)
  try dsimp only at w2 hB
  obtain ⟨hP1, hD1⟩ := hB
  rw [ht1] at hP1
  obtain ⟨hP, hD⟩ := wk_join (w1 := (mW cI cZ G (if node < 0 ∨ 8 ≤ node then 1 else 0) off left wr rc mem oth ks vs sx pl ps pk sr tg fl xs)) hP hD [0, 1, 2, 3, 4, 5, 6, 7, 8, 9, 10] rfl (by decide) rfl hk1 hFc hP1 hD1
  generalize H1 = H at hP hS ⊢
  have hP : va_P D vwCl (mW cI cZ G (if node < 0 ∨ 8 ≤ node then 1 else 0) off left wr rc mem oth ks vs sx pl ps pk sr tg fl xs) H := hP
  have hD : va_D A (mW cI cZ G (if node < 0 ∨ 8 ≤ node then 1 else 0) off left wr rc mem oth ks vs sx pl ps pk sr tg fl xs) := hD
  refine lv_if_eq (tgt := 12) hx hb dX5_size_5 (by decide) (fun c5 => ?_) (fun c5 => ?_)
  · have hnb : ¬ (node < 0 ∨ 8 ≤ node) := fun q => by rw [w2, if_pos q] at c5; exact absurd c5 (by decide)
    obtain ⟨n, hn, hne, hnc⟩ := nb_in hnb
    subst hne
    refine lv_aload_n hx hb dX5_size_12 rfl (lv_at hl 0 rfl) ?_
    refine va_get (D := D) (ci := 5) (v := .ref (G 5)) (C := RX5) (T := TX5) (N := 17) hx hb ht inX5 hown hK hP 0 rfl rfl 9 (by decide) (ht _ kw3_89) (fun _ h9 => h9) rfl dX5_size_13 ?_
    refine lv_iload_n hx hb dX5_size_16 rfl (lv_at hl 1 rfl) ?_
    refine ya_iald hx hb hK hP 5 0 rfl rfl n (rfl) (hn) (by decide) dX5_size_17 ?_
    exact W.iret (v := sx n) hx hb hr (fun t ht2 hW => ⟨⟨sx n, (), rfl, by
          (try dsimp only)
          (try dsimp only)
          unfold sizF
          rw [if_neg hnb]
          try (first | rfl | (rw [hnc]; exact hst.at hn)), by
          (try dsimp only)
          have e9 : (sizF st (nI n)).1 = (if nI n < 0 ∨ 8 ≤ nI n then 1 else 0) := by
            unfold sizF
            rw [if_neg hnb]
            try (first | rw [if_neg hnb] | rw [if_pos hnb])
          rw [e9, ht2]
          exact ⟨hP, hD⟩⟩, hS.F ht2⟩) hS.2.2 dX5_size_18
  · have hnb : node < 0 ∨ 8 ≤ node := Decidable.byContradiction (fun q => c5 (by rw [w2, if_neg q]))
    refine lv_iconst (v := 0) hx hb dX5_size_8 (by decide) ?_
    refine lv_goto (tgt := 18) hx hb dX5_size_9 (by decide) ?_
    exact W.iret (v := 0) hx hb hr (fun t ht2 hW => ⟨⟨0, (), rfl, by
          (try dsimp only)
          (try dsimp only)
          unfold sizF
          rw [if_pos hnb]
          try (first | rfl | (rw [hnc]; exact hst.at hn)), by
          (try dsimp only)
          have e9 : (sizF st node).1 = (if node < 0 ∨ 8 ≤ node then 1 else 0) := by
            unfold sizF
            rw [if_pos hnb]
            try (first | rw [if_neg hnb] | rw [if_pos hnb])
          rw [e9, ht2]
          exact ⟨hP, hD⟩⟩, hS.F ht2⟩) hS.2.2 dX5_size_18
