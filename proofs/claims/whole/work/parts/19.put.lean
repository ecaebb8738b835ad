-- the reference: put, remove, get and the reads
theorem RepM.mk {code off left wr rc : Int32} {mem oth ks vs sx : Nat → Int32} {pl ps : Int32} {pk sr tg fl xs : Nat → Int32} {st : Nat → List (Int32 × Int32)} {mm : Nat → Nat} {rows : List (Int32 × Nat × Nat)} {F Gn : Nat} {C : Bool} (hst : RS st ks vs sx) (hmm : ∀ n, n < 8 → mem n = nI (mm n)) (hrp : RP rows F Gn C ps pk sr tg fl xs) :
    RepM (off, left, wr, rc, st, mm, pl, rows, F, Gn, C) (code, off, left, wr, rc, mem, oth, ks, vs, sx, pl, ps, pk, sr, tg, fl, xs) := ⟨rfl, rfl, rfl, rfl, rfl, hst, hmm, hrp⟩
theorem wLeft_0 {left : Int32} (h : left = 0) : wLeft left = left := if_neg (by rw [h]; decide)
theorem wOk_0 {left : Int32} (h : wOk left = 0) : left = 0 := by
  unfold wOk at h; split at h
  next q => exact q
  next q => exact absurd h (by decide)
theorem wOk_1 {left : Int32} (h : ¬ wOk left = 0) : ¬ left = 0 := fun q => h (if_pos q)
theorem nb_in {node : Int32} (h : ¬ (node < 0 ∨ 8 ≤ node)) : ∃ n : Nat, n < 8 ∧ node = nI n ∧ node.toNatClampNeg = n := by
  obtain ⟨n, h1, h2⟩ := nI_of (x := node) (fun q => h (Or.inl q))
  have h3 : n < 8 := by
    rcases Nat.lt_or_ge n 8 with q | q
    · exact q
    · exact absurd (Or.inr (by rw [h2]; exact (show nI 8 ≤ nI n from nI_le q h1))) h
  exact ⟨n, h3, h2, by rw [h2, nI_clamp h1]⟩

set_option maxHeartbeats 4000000 in
set_option maxRecDepth 100000 in
theorem c_X5_put (l : Launch) (D : va_G) (cI cZ cS cJ : ClassId) (sz : Nat) (G : Nat → Nat) (code off left wr rc : Int32) (mem oth ks vs sx : Nat → Int32) (pl ps : Int32) (pk sr tg fl xs : Nat → Int32) (st : Nat → List (Int32 × Int32)) (hst : RS st ks vs sx) (mm : Nat → Nat) (hmm : ∀ n, n < 8 → mem n = nI (mm n)) (hM : MM mm) (rows : List (Int32 × Nat × Nat)) (F Gn : Nat) (C : Bool) (hrp : RP rows F Gn C ps pk sr tg fl xs) (hsr : Srt (pkl rows)) (hpl : pl = 1 ∨ (pl = 0 ∧ rows = [])) (hp8 : P8 rows) (hoff : off = 0 ∨ off = 1) (hlen : ∀ n, n < 8 → (st n).length < 999) (key v : Int32) : Met l yX5_put (Cond.code yX5_put cX5_put 5 (some .int) :: TB) ({ frames := 5, cells := 0, slots := 0, locals := 118 } : Room) (va_Pc [.ref (G 0), .int key, .int v] (PB D (KT cI cZ cS cJ) (mW cI cZ G code off left wr rc mem oth ks vs sx pl ps pk sr tg fl xs) sz)) (va_Qi (fun r (u : MT) => ∃ σ, putF off left wr rc st mm pl rows F Gn C key v = (u.1, r, σ) ∧ RepM σ u) (fun (u : MT) t => va_P D vwCl (mWu cI cZ G u) t.heap ∧ va_D (va_A (mW cI cZ G code off left wr rc mem oth ks vs sx pl ps pk sr tg fl xs) sz) (mWu cI cZ G u)) (va_A (mW cI cZ G code off left wr rc mem oth ks vs sx pl ps pk sr tg fl xs) sz)) 0 0 (va_A (mW cI cZ G code off left wr rc mem oth ks vs sx pl ps pk sr tg fl xs) sz) := by
  refine Met.ofW (cc := cX5_put) (maxL := 5) (ret := (some .int)) (by decide) rfl ?_
  intro p e s m args below meth c s₁ B hml hv
  obtain ⟨rfl, hsz, hP, hK, hD0⟩ := hv
  have hx := B.exec
  have hb := B.bytes
  have hr := B.returns
  have hts := atoms_spec (ws := (Cond.code yX5_put cX5_put 5 (some .int) :: TB)) B.pre
  have ht : ∀ w ∈ TB, w.before _ s = true := fun w h => hts w (List.mem_cons_of_mem _ h)
  have hown : s.vm.findClass RX5 = some m.cls := findClass_of_methodNamed B.named
  have hlocks := B.notSynchronized
  subst hsz
  have hD := hD0.self (sz := s.heap.size)
  generalize hAe : va_A (mW cI cZ G code off left wr rc mem oth ks vs sx pl ps pk sr tg fl xs) s.heap.size = A at hD ⊢
  have hA : ∀ q : Nat, s.heap.size ≤ q → A q := fun q h => by rw [← hAe]; exact Or.inr h
  have hS : va_S A s.heap s.heap [] := va_S.rf
  have hP : va_P D vwCl (mW cI cZ G code off left wr rc mem oth ks vs sx pl ps pk sr tg fl xs) s.heap := hP
  have hl := lv_entry ([.ref (G 0), .int key, .int v]) (n := 5) (Nat.le_of_ble_eq_true rfl)
  rw [lg_entry_eq]
  generalize (lg_sl ([.ref (G 0), .int key, .int v]) ++ List.replicate (5 - (lg_sl ([.ref (G 0), .int key, .int v])).length) Slot.unset).toArray = ls at hl ⊢
  have hl : lv_has ls 5 [(0, .ref (G 0)), (1, .int key), (2, .int v)] := hl
  refine lv_aload_n hx hb dX5_put_0 rfl (lv_at hl 0 rfl) ?_
  have hPc := hP.sub (ws' := mW cI cZ G code off left wr rc mem oth ks vs sx pl ps pk sr tg fl xs) [0, 1, 2, 3, 4, 5, 6, 7, 8, 9, 10] rfl
  have hDc := hD.sub (ws' := mW cI cZ G code off left wr rc mem oth ks vs sx pl ps pk sr tg fl xs) [0, 1, 2, 3, 4, 5, 6, 7, 8, 9, 10] (by decide) rfl
  have hFc := va_free (wc := mW cI cZ G code off left wr rc mem oth ks vs sx pl ps pk sr tg fl xs) hD hS hA [0, 1, 2, 3, 4, 5, 6, 7, 8, 9, 10] rfl
  refine va_calli (va_runV (As := []) (rest := []) ⟨hx, hb, hml, hown, ht⟩ (c_X5_isOff l D cI cZ cS cJ s.heap.size G code off left wr rc mem oth ks vs sx pl ps pk sr tg fl xs hoff) (xwV 0 ht kw3_152 kw3_149 kw1_11 kw3_151 kwS_24 rfl rfl (by decide +kernel) ⟨Nat.le_of_ble_eq_true rfl, Nat.le_of_ble_eq_true rfl⟩) ⟨PB.blind, va_recv hK hPc (ci := 5) (q0 := 0) rfl rfl, fun U hU hW => PB.mk hU hW hPc hK hDc⟩ rfl rfl hl.1 rfl (lv_room (Nat.le_of_ble_eq_true rfl)) dX5_put_1 ⟨Nat.le_of_ble_eq_true rfl, Nat.le_of_ble_eq_true rfl⟩) hS (fun q _ h => hFc q h) hFc (fun r1 u1 t1 H1 locs ht1 hvm w1 hB hz1 hk1 hS => ?_)
  try dsimp only at w1 hB
  obtain ⟨hP1, hD1⟩ := hB
  rw [ht1] at hP1
  obtain ⟨hP, hD⟩ := wk_join (w1 := (mW cI cZ G off off left wr rc mem oth ks vs sx pl ps pk sr tg fl xs)) hP hD [0, 1, 2, 3, 4, 5, 6, 7, 8, 9, 10] rfl (by decide) rfl hk1 hFc hP1 hD1
  generalize H1 = H at hP hS ⊢
  have hP : va_P D vwCl (mW cI cZ G off off left wr rc mem oth ks vs sx pl ps pk sr tg fl xs) H := hP
  have hD : va_D A (mW cI cZ G off off left wr rc mem oth ks vs sx pl ps pk sr tg fl xs) := hD
  have w1 := w1.symm
  subst w1
  refine lv_if_eq (tgt := 9) hx hb dX5_put_4 (by decide) (fun c4 => ?_) (fun c4 => ?_)
  · have ho : ¬ ¬ off = 0 := fun q => q c4
    refine lv_aload_n hx hb dX5_put_9 rfl (lv_at hl 0 rfl) ?_
    refine lv_iload_n hx hb dX5_put_10 rfl (lv_at hl 1 rfl) ?_
    have hPc := hP.sub (ws' := mW cI cZ G off off left wr rc mem oth ks vs sx pl ps pk sr tg fl xs) [0, 1, 2, 3, 4, 5, 6, 7, 8, 9, 10] rfl
    have hDc := hD.sub (ws' := mW cI cZ G off off left wr rc mem oth ks vs sx pl ps pk sr tg fl xs) [0, 1, 2, 3, 4, 5, 6, 7, 8, 9, 10] (by decide) rfl
    have hFc := va_free (wc := mW cI cZ G off off left wr rc mem oth ks vs sx pl ps pk sr tg fl xs) hD hS hA [0, 1, 2, 3, 4, 5, 6, 7, 8, 9, 10] rfl
    refine va_calli (va_runV (As := [.int key]) (rest := []) ⟨hx, hb, hml, hown, ht⟩ (c_X5_isThere l D cI cZ cS cJ H.size G off off left wr rc mem oth ks vs sx pl ps pk sr tg fl xs st hst rows F Gn C hrp hsr hpl mm hmm hM hp8 key) (xwV 1 ht kw3_156 kw3_153 kw1_11 kw3_155 kwS_25 rfl rfl (by decide +kernel) ⟨Nat.le_of_ble_eq_true rfl, Nat.le_of_ble_eq_true rfl⟩) ⟨PB.blind, va_recv hK hPc (ci := 5) (q0 := 0) rfl rfl, fun U hU hW => PB.mk hU hW hPc hK hDc⟩ rfl rfl hl.1 rfl (lv_room (Nat.le_of_ble_eq_true rfl)) dX5_put_11 ⟨Nat.le_of_ble_eq_true rfl, Nat.le_of_ble_eq_true rfl⟩) hS (fun q _ h => hFc q h) hFc (fun r11 u11 t11 H1 locs ht1 hvm w11 hB hz1 hk1 hS => ?_)
    try dsimp only at w11 hB
    rw [ht1] at hB
    have hP := wk_ro hP hD [0, 1, 2, 3, 4, 5, 6, 7, 8, 9, 10] rfl hk1 hB
    generalize H1 = H at hP hS ⊢
    refine lv_istore_n (lv' := [(3, .int r11), (0, .ref (G 0)), (1, .int key), (2, .int v)]) hx hb dX5_put_14 rfl hl (by decide) rfl (fun ls hl => ?_)
    refine lv_aload_n hx hb dX5_put_15 rfl (lv_at hl 1 rfl) ?_
    refine lv_iload_n hx hb dX5_put_16 rfl (lv_at hl 0 rfl) ?_
    refine lv_if_ne (tgt := 34) hx hb dX5_put_17 (by decide) (fun c17 => ?_) (fun c17 => ?_)
    · have hwas : hs (st (homeF mm rows F key)) key = true := by
        rcases Bool.eq_false_or_eq_true (hs (st (homeF mm rows F key)) key) with q | q
        · exact q
        · exact absurd (by rw [w11, q]; rfl) c17
      have hfull : ¬ (¬ hs (st (homeF mm rows F key)) key = true ∧ 256 ≤ thF st (homeF mm rows F)) := fun q => q.1 hwas
      refine lv_iconst (v := 0) hx hb dX5_put_34 (by decide) ?_
      refine va_put (D := D) (ci := 5) (v := .int 0) (ty := .int) (C := RX5) (T := TX5) (N := 17) hx hb ht inX5 tyX5 tyX5_ok nmX5 hown hK hP hD hS 0 rfl rfl 0 (by decide) (ht _ kw3_80) (fun _ h9 => h9) rfl (by decide +kernel) (rfl) rfl (Nat.le_of_ble_eq_true rfl) dX5_put_35 (fun H locs hP hD hS => ?_)
      have hP : va_P D vwCl (mW cI cZ G 0 off left wr rc mem oth ks vs sx pl ps pk sr tg fl xs) H := hP
      have hD : va_D A (mW cI cZ G 0 off left wr rc mem oth ks vs sx pl ps pk sr tg fl xs) := hD
      refine lv_aload_n hx hb dX5_put_38 rfl (lv_at hl 1 rfl) ?_
      refine va_get (D := D) (ci := 5) (v := .int 0) (C := RX5) (T := TX5) (N := 17) hx hb ht inX5 hown hK hP 0 rfl rfl 0 (by decide) (ht _ kw3_80) (fun _ h9 => h9) rfl dX5_put_39 ?_
      refine lv_if_le (tgt := 47) hx hb dX5_put_42 (by decide) (fun c42 => ?_) (fun c42 => absurd (by decide) c42)
      refine lv_aload_n hx hb dX5_put_47 rfl (lv_at hl 1 rfl) ?_
      refine lv_iload_n hx hb dX5_put_48 rfl (lv_at hl 2 rfl) ?_
      have hPc := hP.sub (ws' := mW cI cZ G 0 off left wr rc mem oth ks vs sx pl ps pk sr tg fl xs) [0, 1, 2, 3, 4, 5, 6, 7, 8, 9, 10] rfl
      have hDc := hD.sub (ws' := mW cI cZ G 0 off left wr rc mem oth ks vs sx pl ps pk sr tg fl xs) [0, 1, 2, 3, 4, 5, 6, 7, 8, 9, 10] (by decide) rfl
      have hFc := va_free (wc := mW cI cZ G 0 off left wr rc mem oth ks vs sx pl ps pk sr tg fl xs) hD hS hA [0, 1, 2, 3, 4, 5, 6, 7, 8, 9, 10] rfl
      refine va_calli (va_runV (As := [.int key]) (rest := []) ⟨hx, hb, hml, hown, ht⟩ (c_X5_planned l D cI cZ cS cJ H.size G 0 off left wr rc mem oth ks vs sx pl ps pk sr tg fl xs rows F Gn C hrp hsr hpl key) (xwV 1 ht kw3_164 kw3_161 kw1_11 kw3_163 kwS_27 rfl rfl (by decide +kernel) ⟨Nat.le_of_ble_eq_true rfl, Nat.le_of_ble_eq_true rfl⟩) ⟨PB.blind, va_recv hK hPc (ci := 5) (q0 := 0) rfl rfl, fun U hU hW => PB.mk hU hW hPc hK hDc⟩ rfl rfl hl.1 rfl (lv_room (Nat.le_of_ble_eq_true rfl)) dX5_put_49 ⟨Nat.le_of_ble_eq_true rfl, Nat.le_of_ble_eq_true rfl⟩) hS (fun q _ h => hFc q h) hFc (fun r49 u49 t49 H1 locs ht1 hvm w49 hB hz1 hk1 hS => ?_)
      try dsimp only at w49 hB
      rw [ht1] at hB
      have hP := wk_ro hP hD [0, 1, 2, 3, 4, 5, 6, 7, 8, 9, 10] rfl hk1 hB
      generalize H1 = H at hP hS ⊢
      refine lv_istore (lv' := [(4, .int r49), (3, .int r11), (0, .ref (G 0)), (1, .int key), (2, .int v)]) hx hb dX5_put_52 hl (by decide) rfl (fun ls hl => ?_)
      refine lv_aload_n hx hb dX5_put_54 rfl (lv_at hl 2 rfl) ?_
      have hPc := hP.sub (ws' := mW cI cZ G 0 off left wr rc mem oth ks vs sx pl ps pk sr tg fl xs) [0, 1, 2, 3, 4, 5, 6, 7, 8, 9, 10] rfl
      have hDc := hD.sub (ws' := mW cI cZ G 0 off left wr rc mem oth ks vs sx pl ps pk sr tg fl xs) [0, 1, 2, 3, 4, 5, 6, 7, 8, 9, 10] (by decide) rfl
      have hFc := va_free (wc := mW cI cZ G 0 off left wr rc mem oth ks vs sx pl ps pk sr tg fl xs) hD hS hA [0, 1, 2, 3, 4, 5, 6, 7, 8, 9, 10] rfl
      refine va_calli (va_runV (As := []) (rest := []) ⟨hx, hb, hml, hown, ht⟩ (c_X5_writes l D cI cZ cS cJ H.size G 0 off left wr rc mem oth ks vs sx pl ps pk sr tg fl xs ) (xwV 0 ht kw3_188 kw3_185 kw1_11 kw3_187 kwS_31 rfl rfl (by decide +kernel) ⟨Nat.le_of_ble_eq_true rfl, Nat.le_of_ble_eq_true rfl⟩) ⟨PB.blind, va_recv hK hPc (ci := 5) (q0 := 0) rfl rfl, fun U hU hW => PB.mk hU hW hPc hK hDc⟩ rfl rfl hl.1 rfl (lv_room (Nat.le_of_ble_eq_true rfl)) dX5_put_55 ⟨Nat.le_of_ble_eq_true rfl, Nat.le_of_ble_eq_true rfl⟩) hS (fun q _ h => hFc q h) hFc (fun r55 u55 t55 H1 locs ht1 hvm w55 hB hz1 hk1 hS => ?_)
      try dsimp only at w55 hB
      obtain ⟨hP1, hD1⟩ := hB
      rw [ht1] at hP1
      obtain ⟨hP, hD⟩ := wk_join (w1 := (mW cI cZ G 0 (wOff left off) (wLeft left) (wInc left wr) rc mem oth ks vs sx pl ps pk sr tg fl xs)) hP hD [0, 1, 2, 3, 4, 5, 6, 7, 8, 9, 10] rfl (by decide) rfl hk1 hFc hP1 hD1
      generalize H1 = H at hP hS ⊢
      have hP : va_P D vwCl (mW cI cZ G 0 (wOff left off) (wLeft left) (wInc left wr) rc mem oth ks vs sx pl ps pk sr tg fl xs) H := hP
      have hD : va_D A (mW cI cZ G 0 (wOff left off) (wLeft left) (wInc left wr) rc mem oth ks vs sx pl ps pk sr tg fl xs) := hD
      refine lv_if_ne (tgt := 64) hx hb dX5_put_58 (by decide) (fun c58 => ?_) (fun c58 => ?_)
      · have hl1 : ¬ left = 0 := wOk_1 (by rw [← w55]; exact c58)
        rw [show wOff left off = off from if_neg hl1, show wInc left wr = wr + 1 from if_neg hl1] at hP hD
        refine lv_aload_n hx hb dX5_put_64 rfl (lv_at hl 2 rfl) ?_
        refine lv_aload_n hx hb dX5_put_65 rfl (lv_at hl 2 rfl) ?_
        refine lv_iload_n hx hb dX5_put_66 rfl (lv_at hl 3 rfl) ?_
        have hPc := hP.sub (ws' := mW cI cZ G 0 off (wLeft left) (wr + 1) rc mem oth ks vs sx pl ps pk sr tg fl xs) [0, 1, 2, 3, 4, 5, 6, 7, 8, 9, 10] rfl
        have hDc := hD.sub (ws' := mW cI cZ G 0 off (wLeft left) (wr + 1) rc mem oth ks vs sx pl ps pk sr tg fl xs) [0, 1, 2, 3, 4, 5, 6, 7, 8, 9, 10] (by decide) rfl
        have hFc := va_free (wc := mW cI cZ G 0 off (wLeft left) (wr + 1) rc mem oth ks vs sx pl ps pk sr tg fl xs) hD hS hA [0, 1, 2, 3, 4, 5, 6, 7, 8, 9, 10] rfl
        refine va_calli (va_runV (As := [.int key]) (rest := [.ref (G 0)]) ⟨hx, hb, hml, hown, ht⟩ (c_X5_homeOf l D cI cZ cS cJ H.size G 0 off (wLeft left) (wr + 1) rc mem oth ks vs sx pl ps pk sr tg fl xs rows F Gn C hrp hsr hpl mm hmm hM key) (xwV 1 ht kw3_160 kw3_157 kw1_11 kw3_159 kwS_26 rfl rfl (by decide +kernel) ⟨Nat.le_of_ble_eq_true rfl, Nat.le_of_ble_eq_true rfl⟩) ⟨PB.blind, va_recv hK hPc (ci := 5) (q0 := 0) rfl rfl, fun U hU hW => PB.mk hU hW hPc hK hDc⟩ rfl rfl hl.1 rfl (lv_room (Nat.le_of_ble_eq_true rfl)) dX5_put_67 ⟨Nat.le_of_ble_eq_true rfl, Nat.le_of_ble_eq_true rfl⟩) hS (fun q _ h => hFc q h) hFc (fun r67 u67 t67 H1 locs ht1 hvm w67 hB hz1 hk1 hS => ?_)
        try dsimp only at w67 hB
        rw [ht1] at hB
        have hP := wk_ro hP hD [0, 1, 2, 3, 4, 5, 6, 7, 8, 9, 10] rfl hk1 hB
        generalize H1 = H at hP hS ⊢
        have w67 := w67.symm
        subst w67
        have h8 := homeF_lt (F := F) (key := key) hM hp8
        refine lv_iload_n hx hb dX5_put_70 rfl (lv_at hl 3 rfl) ?_
        refine lv_iload_n hx hb dX5_put_71 rfl (lv_at hl 4 rfl) ?_
        have hPc := hP.sub (ws' := mW cI cZ G 0 off (wLeft left) (wr + 1) rc mem oth ks vs sx pl ps pk sr tg fl xs) [0, 1, 2, 3, 4, 5, 6, 7, 8, 9, 10] rfl
        have hDc := hD.sub (ws' := mW cI cZ G 0 off (wLeft left) (wr + 1) rc mem oth ks vs sx pl ps pk sr tg fl xs) [0, 1, 2, 3, 4, 5, 6, 7, 8, 9, 10] (by decide) rfl
        have hFc := va_free (wc := mW cI cZ G 0 off (wLeft left) (wr + 1) rc mem oth ks vs sx pl ps pk sr tg fl xs) hD hS hA [0, 1, 2, 3, 4, 5, 6, 7, 8, 9, 10] rfl
        refine va_callv (va_runV (As := [.int (nI (homeF mm rows F key)), .int key, .int v]) (rest := []) ⟨hx, hb, hml, hown, ht⟩ (c_X5_store l D cI cZ cS cJ H.size G 0 off (wLeft left) (wr + 1) rc mem oth ks vs sx pl ps pk sr tg fl xs st hst (homeF mm rows F key) h8 key v (by have := hlen _ h8; omega)) (xwV 3 ht kw3_192 kw3_189 kw1_11 kw3_191 kwS_32 rfl rfl (by decide +kernel) ⟨Nat.le_of_ble_eq_true rfl, Nat.le_of_ble_eq_true rfl⟩) ⟨PB.blind, va_recv hK hPc (ci := 5) (q0 := 0) rfl rfl, fun U hU hW => PB.mk hU hW hPc hK hDc⟩ rfl rfl hl.1 rfl (lv_room (Nat.le_of_ble_eq_true rfl)) dX5_put_72 ⟨Nat.le_of_ble_eq_true rfl, Nat.le_of_ble_eq_true rfl⟩) hS (fun q _ h => hFc q h) hFc (fun u72 t72 H1 locs ht1 hvm w72 hB hz1 hk1 hS => ?_)
        try dsimp only at w72 hB
        obtain ⟨hP1, hD1⟩ := hB
        rw [ht1] at hP1
        obtain ⟨hP, hD⟩ := wk_join (w1 := (mW cI cZ G 0 off (wLeft left) (wr + 1) rc mem oth u72.1 u72.2.1 u72.2.2 pl ps pk sr tg fl xs)) hP hD [0, 1, 2, 3, 4, 5, 6, 7, 8, 9, 10] rfl (by decide) rfl hk1 hFc hP1 hD1
        generalize H1 = H at hP hS ⊢
        have hP : va_P D vwCl (mW cI cZ G 0 off (wLeft left) (wr + 1) rc mem oth u72.1 u72.2.1 u72.2.2 pl ps pk sr tg fl xs) H := hP
        have hD : va_D A (mW cI cZ G 0 off (wLeft left) (wr + 1) rc mem oth u72.1 u72.2.1 u72.2.2 pl ps pk sr tg fl xs) := hD
        have hst1 := w72
        refine lv_iload hx hb dX5_put_75 (lv_at hl 0 rfl) ?_
        refine lv_if_lt (tgt := 114) hx hb dX5_put_77 (by decide) (fun c77 => ?_) (fun c77 => ?_)
        · have hcp : ¬ cpd rows F C key = true := fun q => by rw [w49, rowI, if_pos (cpd_iff.mp q).1] at c77; exact absurd c77 (nI_pos (by have := (pin_iff.mp (cpd_iff.mp q).1).1; have := hrp.le; omega))
          refine lv_iload_n hx hb dX5_put_114 rfl (lv_at hl 1 rfl) ?_
          refine lv_if_eq (tgt := 122) hx hb dX5_put_115 (by decide) (fun c115 => ?_) (fun c115 => ?_)
          · have hans : ¬ hs (st (homeF mm rows F key)) key = true := fun q => by rw [w11, if_pos q] at c115; exact absurd c115 (by decide)
            refine lv_iconst (v := 1) hx hb dX5_put_122 (by decide) ?_
            exact W.iret (v := 1) hx hb hr (fun t ht2 hW => ⟨⟨1, (0, off, wLeft left, wr + 1, rc, mem, oth, u72.1, u72.2.1, u72.2.2, pl, ps, pk, sr, tg, fl, xs), rfl, by
                  (try dsimp only)
                  (try dsimp only)
                  refine ⟨(off, wLeft left, wr + 1, rc, fu st (homeF mm rows F key) (ins (st (homeF mm rows F key)) key v), mm, pl, rows, F, Gn, C), ?_, RepM.mk hst1 hmm hrp⟩
                  unfold putF
                  rw [if_neg ho, if_neg hfull, if_neg hl1, if_pos hcp]
                  try (first | rw [if_pos hans] | rw [if_neg hans] | rw [hoff.resolve_left ho]), ⟨by (try dsimp only); rw [ht2]; exact hP, by exact hD⟩⟩, hS.F ht2⟩) hS.2.2 dX5_put_123
          · have hans : hs (st (homeF mm rows F key)) key = true := by
              rcases Bool.eq_false_or_eq_true (hs (st (homeF mm rows F key)) key) with q | q
              · exact q
              · exact absurd (by rw [w11, q]; rfl) c115
            refine lv_iconst (v := 0) hx hb dX5_put_118 (by decide) ?_
            refine lv_goto (tgt := 123) hx hb dX5_put_119 (by decide) ?_
            exact W.iret (v := 0) hx hb hr (fun t ht2 hW => ⟨⟨0, (0, off, wLeft left, wr + 1, rc, mem, oth, u72.1, u72.2.1, u72.2.2, pl, ps, pk, sr, tg, fl, xs), rfl, by
                  (try dsimp only)
                  (try dsimp only)
                  refine ⟨(off, wLeft left, wr + 1, rc, fu st (homeF mm rows F key) (ins (st (homeF mm rows F key)) key v), mm, pl, rows, F, Gn, C), ?_, RepM.mk hst1 hmm hrp⟩
                  unfold putF
                  rw [if_neg ho, if_neg hfull, if_neg hl1, if_pos hcp]
                  try (first | rw [if_pos hans] | rw [if_neg hans] | rw [hoff.resolve_left ho]), ⟨by (try dsimp only); rw [ht2]; exact hP, by exact hD⟩⟩, hS.F ht2⟩) hS.2.2 dX5_put_123
        · have hpin : pin rows key = true := by
            rcases Bool.eq_false_or_eq_true (pin rows key) with q | q
            · exact q
            · exact absurd (by rw [w49, rowI, if_neg (by rw [q]; decide)]; decide) c77
          have hrI : rowI rows key = nI (prow rows key) := if_pos hpin
          have hk := (pin_iff.mp hpin).1
          have hle := hrp.le
          refine lv_aload_n hx hb dX5_put_80 rfl (lv_at hl 2 rfl) ?_
          refine va_get (D := D) (ci := 5) (v := .ref (G 10)) (C := RX5) (T := TX5) (N := 17) hx hb ht inX5 hown hK hP 0 rfl rfl 16 (by decide) (ht _ kw3_96) (fun _ h9 => h9) rfl dX5_put_81 ?_
          refine lv_iload hx hb dX5_put_84 (lv_at hl 0 rfl) ?_
          refine ya_iald hx hb hK hP 10 0 rfl rfl (prow rows key) (by rw [w49, hrI]) (by omega) (by decide) dX5_put_86 ?_
          refine lv_iconst (v := 2) hx hb dX5_put_87 (by decide) ?_
          refine lv_icmp_ne (tgt := 114) hx hb dX5_put_88 (by decide) (fun c88 => ?_) (fun c88 => ?_)
          · have hcp : ¬ cpd rows F C key = true := fun q => c88 (by rw [hrp.x hk]; exact sta_2.mpr (cpd_iff.mp q).2)
            refine lv_iload_n hx hb dX5_put_114 rfl (lv_at hl 1 rfl) ?_
            refine lv_if_eq (tgt := 122) hx hb dX5_put_115 (by decide) (fun c115 => ?_) (fun c115 => ?_)
            · have hans : ¬ hs (st (homeF mm rows F key)) key = true := fun q => by rw [w11, if_pos q] at c115; exact absurd c115 (by decide)
              refine lv_iconst (v := 1) hx hb dX5_put_122 (by decide) ?_
              exact W.iret (v := 1) hx hb hr (fun t ht2 hW => ⟨⟨1, (0, off, wLeft left, wr + 1, rc, mem, oth, u72.1, u72.2.1, u72.2.2, pl, ps, pk, sr, tg, fl, xs), rfl, by
                    (try dsimp only)
                    (try dsimp only)
                    refine ⟨(off, wLeft left, wr + 1, rc, fu st (homeF mm rows F key) (ins (st (homeF mm rows F key)) key v), mm, pl, rows, F, Gn, C), ?_, RepM.mk hst1 hmm hrp⟩
                    unfold putF
                    rw [if_neg ho, if_neg hfull, if_neg hl1, if_pos hcp]
                    try (first | rw [if_pos hans] | rw [if_neg hans] | rw [hoff.resolve_left ho]), ⟨by (try dsimp only); rw [ht2]; exact hP, by exact hD⟩⟩, hS.F ht2⟩) hS.2.2 dX5_put_123
            · have hans : hs (st (homeF mm rows F key)) key = true := by
                rcases Bool.eq_false_or_eq_true (hs (st (homeF mm rows F key)) key) with q | q
                · exact q
                · exact absurd (by rw [w11, q]; rfl) c115
              refine lv_iconst (v := 0) hx hb dX5_put_118 (by decide) ?_
              refine lv_goto (tgt := 123) hx hb dX5_put_119 (by decide) ?_
              exact W.iret (v := 0) hx hb hr (fun t ht2 hW => ⟨⟨0, (0, off, wLeft left, wr + 1, rc, mem, oth, u72.1, u72.2.1, u72.2.2, pl, ps, pk, sr, tg, fl, xs), rfl, by
                    (try dsimp only)
                    (try dsimp only)
                    refine ⟨(off, wLeft left, wr + 1, rc, fu st (homeF mm rows F key) (ins (st (homeF mm rows F key)) key v), mm, pl, rows, F, Gn, C), ?_, RepM.mk hst1 hmm hrp⟩
                    unfold putF
                    rw [if_neg ho, if_neg hfull, if_neg hl1, if_pos hcp]
                    try (first | rw [if_pos hans] | rw [if_neg hans] | rw [hoff.resolve_left ho]), ⟨by (try dsimp only); rw [ht2]; exact hP, by exact hD⟩⟩, hS.F ht2⟩) hS.2.2 dX5_put_123
          · have hcp0 := sta_2.mp (by rw [← hrp.x (C := C) (Gn := Gn) hk]; exact c88)
            have hcp : ¬ ¬ cpd rows F C key = true := fun q => q (cpd_iff.mpr ⟨hpin, hcp0.1, hcp0.2⟩)
            have h8t := (hp8 F (by rw [← hcp0.1]; exact hk)).2
            refine lv_aload_n hx hb dX5_put_91 rfl (lv_at hl 2 rfl) ?_
            have hPc := hP.sub (ws' := mW cI cZ G 0 off (wLeft left) (wr + 1) rc mem oth u72.1 u72.2.1 u72.2.2 pl ps pk sr tg fl xs) [0, 1, 2, 3, 4, 5, 6, 7, 8, 9, 10] rfl
            have hDc := hD.sub (ws' := mW cI cZ G 0 off (wLeft left) (wr + 1) rc mem oth u72.1 u72.2.1 u72.2.2 pl ps pk sr tg fl xs) [0, 1, 2, 3, 4, 5, 6, 7, 8, 9, 10] (by decide) rfl
            have hFc := va_free (wc := mW cI cZ G 0 off (wLeft left) (wr + 1) rc mem oth u72.1 u72.2.1 u72.2.2 pl ps pk sr tg fl xs) hD hS hA [0, 1, 2, 3, 4, 5, 6, 7, 8, 9, 10] rfl
            refine va_calli (va_runV (As := []) (rest := []) ⟨hx, hb, hml, hown, ht⟩ (c_X5_writes l D cI cZ cS cJ H.size G 0 off (wLeft left) (wr + 1) rc mem oth u72.1 u72.2.1 u72.2.2 pl ps pk sr tg fl xs ) (xwV 0 ht kw3_188 kw3_185 kw1_11 kw3_187 kwS_31 rfl rfl (by decide +kernel) ⟨Nat.le_of_ble_eq_true rfl, Nat.le_of_ble_eq_true rfl⟩) ⟨PB.blind, va_recv hK hPc (ci := 5) (q0 := 0) rfl rfl, fun U hU hW => PB.mk hU hW hPc hK hDc⟩ rfl rfl hl.1 rfl (lv_room (Nat.le_of_ble_eq_true rfl)) dX5_put_92 ⟨Nat.le_of_ble_eq_true rfl, Nat.le_of_ble_eq_true rfl⟩) hS (fun q _ h => hFc q h) hFc (fun r92 u92 t92 H1 locs ht1 hvm w92 hB hz1 hk1 hS => ?_)
            try dsimp only at w92 hB
            obtain ⟨hP1, hD1⟩ := hB
            rw [ht1] at hP1
            obtain ⟨hP, hD⟩ := wk_join (w1 := (mW cI cZ G 0 (wOff (wLeft left) off) (wLeft (wLeft left)) (wInc (wLeft left) (wr + 1)) rc mem oth u72.1 u72.2.1 u72.2.2 pl ps pk sr tg fl xs)) hP hD [0, 1, 2, 3, 4, 5, 6, 7, 8, 9, 10] rfl (by decide) rfl hk1 hFc hP1 hD1
            generalize H1 = H at hP hS ⊢
            have hP : va_P D vwCl (mW cI cZ G 0 (wOff (wLeft left) off) (wLeft (wLeft left)) (wInc (wLeft left) (wr + 1)) rc mem oth u72.1 u72.2.1 u72.2.2 pl ps pk sr tg fl xs) H := hP
            have hD : va_D A (mW cI cZ G 0 (wOff (wLeft left) off) (wLeft (wLeft left)) (wInc (wLeft left) (wr + 1)) rc mem oth u72.1 u72.2.1 u72.2.2 pl ps pk sr tg fl xs) := hD
            refine lv_if_ne (tgt := 101) hx hb dX5_put_95 (by decide) (fun c95 => ?_) (fun c95 => ?_)
            · have hl2z : ¬ (wLeft left) = 0 := wOk_1 (by rw [← w92]; exact c95)
              rw [show wOff (wLeft left) off = off from if_neg hl2z, show wInc (wLeft left) (wr + 1) = wr + 1 + 1 from if_neg hl2z] at hP hD
              refine lv_aload_n hx hb dX5_put_101 rfl (lv_at hl 2 rfl) ?_
              refine lv_aload_n hx hb dX5_put_102 rfl (lv_at hl 2 rfl) ?_
              refine va_get (D := D) (ci := 5) (v := .ref (G 8)) (C := RX5) (T := TX5) (N := 17) hx hb ht inX5 hown hK hP 0 rfl rfl 14 (by decide) (ht _ kw3_94) (fun _ h9 => h9) rfl dX5_put_103 ?_
              refine lv_iload hx hb dX5_put_106 (lv_at hl 0 rfl) ?_
              refine ya_iald hx hb hK hP 8 0 rfl rfl F (by rw [w49, hrI, hcp0.1]) (by have := hcp0.1; omega) (by decide) dX5_put_108 ?_
              rw [hrp.t (show F < rows.length by rw [← hcp0.1]; exact hk)]
              refine lv_iload_n hx hb dX5_put_109 rfl (lv_at hl 3 rfl) ?_
              refine lv_iload_n hx hb dX5_put_110 rfl (lv_at hl 4 rfl) ?_
              have hl2 : ((fu st (homeF mm rows F key) (ins (st (homeF mm rows F key)) key v)) (pT rows F)).length < 1000 := by
                unfold fu
                split
                · rw [ins_len]; have := hlen _ h8; split <;> omega
                · have := hlen _ h8t; omega
              have hPc := hP.sub (ws' := mW cI cZ G 0 off (wLeft (wLeft left)) (wr + 1 + 1) rc mem oth u72.1 u72.2.1 u72.2.2 pl ps pk sr tg fl xs) [0, 1, 2, 3, 4, 5, 6, 7, 8, 9, 10] rfl
              have hDc := hD.sub (ws' := mW cI cZ G 0 off (wLeft (wLeft left)) (wr + 1 + 1) rc mem oth u72.1 u72.2.1 u72.2.2 pl ps pk sr tg fl xs) [0, 1, 2, 3, 4, 5, 6, 7, 8, 9, 10] (by decide) rfl
              have hFc := va_free (wc := mW cI cZ G 0 off (wLeft (wLeft left)) (wr + 1 + 1) rc mem oth u72.1 u72.2.1 u72.2.2 pl ps pk sr tg fl xs) hD hS hA [0, 1, 2, 3, 4, 5, 6, 7, 8, 9, 10] rfl
              refine va_callv (va_runV (As := [.int (nI (pT rows F)), .int key, .int v]) (rest := []) ⟨hx, hb, hml, hown, ht⟩ (c_X5_store l D cI cZ cS cJ H.size G 0 off (wLeft (wLeft left)) (wr + 1 + 1) rc mem oth u72.1 u72.2.1 u72.2.2 pl ps pk sr tg fl xs (fu st (homeF mm rows F key) (ins (st (homeF mm rows F key)) key v)) hst1 (pT rows F) h8t key v hl2) (xwV 3 ht kw3_192 kw3_189 kw1_11 kw3_191 kwS_32 rfl rfl (by decide +kernel) ⟨Nat.le_of_ble_eq_true rfl, Nat.le_of_ble_eq_true rfl⟩) ⟨PB.blind, va_recv hK hPc (ci := 5) (q0 := 0) rfl rfl, fun U hU hW => PB.mk hU hW hPc hK hDc⟩ rfl rfl hl.1 rfl (lv_room (Nat.le_of_ble_eq_true rfl)) dX5_put_111 ⟨Nat.le_of_ble_eq_true rfl, Nat.le_of_ble_eq_true rfl⟩) hS (fun q _ h => hFc q h) hFc (fun u111 t111 H1 locs ht1 hvm w111 hB hz1 hk1 hS => ?_)
              try dsimp only at w111 hB
              obtain ⟨hP1, hD1⟩ := hB
              rw [ht1] at hP1
              obtain ⟨hP, hD⟩ := wk_join (w1 := (mW cI cZ G 0 off (wLeft (wLeft left)) (wr + 1 + 1) rc mem oth u111.1 u111.2.1 u111.2.2 pl ps pk sr tg fl xs)) hP hD [0, 1, 2, 3, 4, 5, 6, 7, 8, 9, 10] rfl (by decide) rfl hk1 hFc hP1 hD1
              generalize H1 = H at hP hS ⊢
              have hP : va_P D vwCl (mW cI cZ G 0 off (wLeft (wLeft left)) (wr + 1 + 1) rc mem oth u111.1 u111.2.1 u111.2.2 pl ps pk sr tg fl xs) H := hP
              have hD : va_D A (mW cI cZ G 0 off (wLeft (wLeft left)) (wr + 1 + 1) rc mem oth u111.1 u111.2.1 u111.2.2 pl ps pk sr tg fl xs) := hD
              have hst2 := w111
              refine lv_iload_n hx hb dX5_put_114 rfl (lv_at hl 1 rfl) ?_
              refine lv_if_eq (tgt := 122) hx hb dX5_put_115 (by decide) (fun c115 => ?_) (fun c115 => ?_)
              · have hans : ¬ hs (st (homeF mm rows F key)) key = true := fun q => by rw [w11, if_pos q] at c115; exact absurd c115 (by decide)
                refine lv_iconst (v := 1) hx hb dX5_put_122 (by decide) ?_
                exact W.iret (v := 1) hx hb hr (fun t ht2 hW => ⟨⟨1, (0, off, wLeft (wLeft left), wr + 1 + 1, rc, mem, oth, u111.1, u111.2.1, u111.2.2, pl, ps, pk, sr, tg, fl, xs), rfl, by
                      (try dsimp only)
                      (try dsimp only)
                      refine ⟨(off, wLeft (wLeft left), wr + 1 + 1, rc, fu (fu st (homeF mm rows F key) (ins (st (homeF mm rows F key)) key v)) (pT rows F) (ins ((fu st (homeF mm rows F key) (ins (st (homeF mm rows F key)) key v)) (pT rows F)) key v), mm, pl, rows, F, Gn, C), ?_, RepM.mk hst2 hmm hrp⟩
                      unfold putF
                      rw [if_neg ho, if_neg hfull, if_neg hl1, if_neg hcp, if_neg hl2z]
                      try (first | rw [if_pos hans] | rw [if_neg hans] | rw [hoff.resolve_left ho]), ⟨by (try dsimp only); rw [ht2]; exact hP, by exact hD⟩⟩, hS.F ht2⟩) hS.2.2 dX5_put_123
              · have hans : hs (st (homeF mm rows F key)) key = true := by
                  rcases Bool.eq_false_or_eq_true (hs (st (homeF mm rows F key)) key) with q | q
                  · exact q
                  · exact absurd (by rw [w11, q]; rfl) c115
                refine lv_iconst (v := 0) hx hb dX5_put_118 (by decide) ?_
                refine lv_goto (tgt := 123) hx hb dX5_put_119 (by decide) ?_
                exact W.iret (v := 0) hx hb hr (fun t ht2 hW => ⟨⟨0, (0, off, wLeft (wLeft left), wr + 1 + 1, rc, mem, oth, u111.1, u111.2.1, u111.2.2, pl, ps, pk, sr, tg, fl, xs), rfl, by
                      (try dsimp only)
                      (try dsimp only)
                      refine ⟨(off, wLeft (wLeft left), wr + 1 + 1, rc, fu (fu st (homeF mm rows F key) (ins (st (homeF mm rows F key)) key v)) (pT rows F) (ins ((fu st (homeF mm rows F key) (ins (st (homeF mm rows F key)) key v)) (pT rows F)) key v), mm, pl, rows, F, Gn, C), ?_, RepM.mk hst2 hmm hrp⟩
                      unfold putF
                      rw [if_neg ho, if_neg hfull, if_neg hl1, if_neg hcp, if_neg hl2z]
                      try (first | rw [if_pos hans] | rw [if_neg hans] | rw [hoff.resolve_left ho]), ⟨by (try dsimp only); rw [ht2]; exact hP, by exact hD⟩⟩, hS.F ht2⟩) hS.2.2 dX5_put_123
            · have hl2z : wLeft left = 0 := wOk_0 (by rw [← w92]; exact c95)
              rw [show wOff (wLeft left) off = 1 from if_pos hl2z, show wInc (wLeft left) (wr + 1) = wr + 1 from if_pos hl2z, wLeft_0 hl2z] at hP hD
              refine lv_bipush (v := (-9)) hx hb dX5_put_98 (by decide) ?_
              exact W.iret (v := (-9)) hx hb hr (fun t ht2 hW => ⟨⟨(-9), (0, 1, wLeft left, wr + 1, rc, mem, oth, u72.1, u72.2.1, u72.2.2, pl, ps, pk, sr, tg, fl, xs), rfl, by
                    (try dsimp only)
                    (try dsimp only)
                    refine ⟨(1, wLeft left, wr + 1, rc, fu st (homeF mm rows F key) (ins (st (homeF mm rows F key)) key v), mm, pl, rows, F, Gn, C), ?_, RepM.mk hst1 hmm hrp⟩
                    unfold putF
                    rw [if_neg ho, if_neg hfull, if_neg hl1, if_neg hcp, if_pos hl2z]
                    try (first | rw [if_pos hans] | rw [if_neg hans] | rw [hoff.resolve_left ho]), ⟨by (try dsimp only); rw [ht2]; exact hP, by exact hD⟩⟩, hS.F ht2⟩) hS.2.2 dX5_put_100
      · have hl1 : left = 0 := wOk_0 (by rw [← w55]; exact c58)
        rw [show wOff left off = 1 from if_pos hl1, show wInc left wr = wr from if_pos hl1, wLeft_0 hl1] at hP hD
        refine lv_bipush (v := (-9)) hx hb dX5_put_61 (by decide) ?_
        exact W.iret (v := (-9)) hx hb hr (fun t ht2 hW => ⟨⟨(-9), (0, 1, left, wr, rc, mem, oth, ks, vs, sx, pl, ps, pk, sr, tg, fl, xs), rfl, by
              (try dsimp only)
              (try dsimp only)
              refine ⟨(1, left, wr, rc, st, mm, pl, rows, F, Gn, C), ?_, RepM.mk hst hmm hrp⟩
              unfold putF
              rw [if_neg ho, if_neg hfull, if_pos hl1]
              try (first | rw [if_pos hans] | rw [if_neg hans] | rw [hoff.resolve_left ho]), ⟨by (try dsimp only); rw [ht2]; exact hP, by exact hD⟩⟩, hS.F ht2⟩) hS.2.2 dX5_put_63
    · have hwas : ¬ hs (st (homeF mm rows F key)) key = true := fun q => by rw [w11, if_pos q] at c17; exact absurd c17 (by decide)
      have hth : thF st (homeF mm rows F) ≤ 8 * 1000 := sumN_le (fun k hk => Nat.le_trans List.countP_le_length (hst.le hk))
      refine lv_aload_n hx hb dX5_put_20 rfl (lv_at hl 1 rfl) ?_
      have hPc := hP.sub (ws' := mW cI cZ G off off left wr rc mem oth ks vs sx pl ps pk sr tg fl xs) [0, 1, 2, 3, 4, 5, 6, 7, 8, 9, 10] rfl
      have hDc := hD.sub (ws' := mW cI cZ G off off left wr rc mem oth ks vs sx pl ps pk sr tg fl xs) [0, 1, 2, 3, 4, 5, 6, 7, 8, 9, 10] (by decide) rfl
      have hFc := va_free (wc := mW cI cZ G off off left wr rc mem oth ks vs sx pl ps pk sr tg fl xs) hD hS hA [0, 1, 2, 3, 4, 5, 6, 7, 8, 9, 10] rfl
      refine va_calli (va_runV (As := []) (rest := [.ref (G 0)]) ⟨hx, hb, hml, hown, ht⟩ (c_X5_there l D cI cZ cS cJ H.size G off off left wr rc mem oth ks vs sx pl ps pk sr tg fl xs st hst rows F Gn C hrp hsr hpl mm hmm hM hp8) (xwV 0 ht kw3_184 kw3_181 kw1_11 kw3_183 kwS_30 rfl rfl (by decide +kernel) ⟨Nat.le_of_ble_eq_true rfl, Nat.le_of_ble_eq_true rfl⟩) ⟨PB.blind, va_recv hK hPc (ci := 5) (q0 := 0) rfl rfl, fun U hU hW => PB.mk hU hW hPc hK hDc⟩ rfl rfl hl.1 rfl (lv_room (Nat.le_of_ble_eq_true rfl)) dX5_put_21 ⟨Nat.le_of_ble_eq_true rfl, Nat.le_of_ble_eq_true rfl⟩) hS (fun q _ h => hFc q h) hFc (fun r21 u21 t21 H1 locs ht1 hvm w21 hB hz1 hk1 hS => ?_)
      try dsimp only at w21 hB
      rw [ht1] at hB
      have hP := wk_ro hP hD [0, 1, 2, 3, 4, 5, 6, 7, 8, 9, 10] rfl hk1 hB
      generalize H1 = H at hP hS ⊢
      refine lv_sipush (v := 256) hx hb dX5_put_24 (by decide) ?_
      refine lv_icmp_lt (tgt := 34) hx hb dX5_put_27 (by decide) (fun c27 => ?_) (fun c27 => ?_)
      · have hfull : ¬ (¬ hs (st (homeF mm rows F key)) key = true ∧ 256 ≤ thF st (homeF mm rows F)) := fun q => by rw [w21] at c27; exact nI_nlt q.2 (by omega) c27
        refine lv_iconst (v := 0) hx hb dX5_put_34 (by decide) ?_
        refine va_put (D := D) (ci := 5) (v := .int 0) (ty := .int) (C := RX5) (T := TX5) (N := 17) hx hb ht inX5 tyX5 tyX5_ok nmX5 hown hK hP hD hS 0 rfl rfl 0 (by decide) (ht _ kw3_80) (fun _ h9 => h9) rfl (by decide +kernel) (rfl) rfl (Nat.le_of_ble_eq_true rfl) dX5_put_35 (fun H locs hP hD hS => ?_)
        have hP : va_P D vwCl (mW cI cZ G 0 off left wr rc mem oth ks vs sx pl ps pk sr tg fl xs) H := hP
        have hD : va_D A (mW cI cZ G 0 off left wr rc mem oth ks vs sx pl ps pk sr tg fl xs) := hD
        refine lv_aload_n hx hb dX5_put_38 rfl (lv_at hl 1 rfl) ?_
        refine va_get (D := D) (ci := 5) (v := .int 0) (C := RX5) (T := TX5) (N := 17) hx hb ht inX5 hown hK hP 0 rfl rfl 0 (by decide) (ht _ kw3_80) (fun _ h9 => h9) rfl dX5_put_39 ?_
        refine lv_if_le (tgt := 47) hx hb dX5_put_42 (by decide) (fun c42 => ?_) (fun c42 => absurd (by decide) c42)
        refine lv_aload_n hx hb dX5_put_47 rfl (lv_at hl 1 rfl) ?_
        refine lv_iload_n hx hb dX5_put_48 rfl (lv_at hl 2 rfl) ?_
        have hPc := hP.sub (ws' := mW cI cZ G 0 off left wr rc mem oth ks vs sx pl ps pk sr tg fl xs) [0, 1, 2, 3, 4, 5, 6, 7, 8, 9, 10] rfl
        have hDc := hD.sub (ws' := mW cI cZ G 0 off left wr rc mem oth ks vs sx pl ps pk sr tg fl xs) [0, 1, 2, 3, 4, 5, 6, 7, 8, 9, 10] (by decide) rfl
        have hFc := va_free (wc := mW cI cZ G 0 off left wr rc mem oth ks vs sx pl ps pk sr tg fl xs) hD hS hA [0, 1, 2, 3, 4, 5, 6, 7, 8, 9, 10] rfl
        refine va_calli (va_runV (As := [.int key]) (rest := []) ⟨hx, hb, hml, hown, ht⟩ (c_X5_planned l D cI cZ cS cJ H.size G 0 off left wr rc mem oth ks vs sx pl ps pk sr tg fl xs rows F Gn C hrp hsr hpl key) (xwV 1 ht kw3_164 kw3_161 kw1_11 kw3_163 kwS_27 rfl rfl (by decide +kernel) ⟨Nat.le_of_ble_eq_true rfl, Nat.le_of_ble_eq_true rfl⟩) ⟨PB.blind, va_recv hK hPc (ci := 5) (q0 := 0) rfl rfl, fun U hU hW => PB.mk hU hW hPc hK hDc⟩ rfl rfl hl.1 rfl (lv_room (Nat.le_of_ble_eq_true rfl)) dX5_put_49 ⟨Nat.le_of_ble_eq_true rfl, Nat.le_of_ble_eq_true rfl⟩) hS (fun q _ h => hFc q h) hFc (fun r49 u49 t49 H1 locs ht1 hvm w49 hB hz1 hk1 hS => ?_)
        try dsimp only at w49 hB
        rw [ht1] at hB
        have hP := wk_ro hP hD [0, 1, 2, 3, 4, 5, 6, 7, 8, 9, 10] rfl hk1 hB
        generalize H1 = H at hP hS ⊢
        refine lv_istore (lv' := [(4, .int r49), (3, .int r11), (0, .ref (G 0)), (1, .int key), (2, .int v)]) hx hb dX5_put_52 hl (by decide) rfl (fun ls hl => ?_)
        refine lv_aload_n hx hb dX5_put_54 rfl (lv_at hl 2 rfl) ?_
        have hPc := hP.sub (ws' := mW cI cZ G 0 off left wr rc mem oth ks vs sx pl ps pk sr tg fl xs) [0, 1, 2, 3, 4, 5, 6, 7, 8, 9, 10] rfl
        have hDc := hD.sub (ws' := mW cI cZ G 0 off left wr rc mem oth ks vs sx pl ps pk sr tg fl xs) [0, 1, 2, 3, 4, 5, 6, 7, 8, 9, 10] (by decide) rfl
        have hFc := va_free (wc := mW cI cZ G 0 off left wr rc mem oth ks vs sx pl ps pk sr tg fl xs) hD hS hA [0, 1, 2, 3, 4, 5, 6, 7, 8, 9, 10] rfl
        refine va_calli (va_runV (As := []) (rest := []) ⟨hx, hb, hml, hown, ht⟩ (c_X5_writes l D cI cZ cS cJ H.size G 0 off left wr rc mem oth ks vs sx pl ps pk sr tg fl xs ) (xwV 0 ht kw3_188 kw3_185 kw1_11 kw3_187 kwS_31 rfl rfl (by decide +kernel) ⟨Nat.le_of_ble_eq_true rfl, Nat.le_of_ble_eq_true rfl⟩) ⟨PB.blind, va_recv hK hPc (ci := 5) (q0 := 0) rfl rfl, fun U hU hW => PB.mk hU hW hPc hK hDc⟩ rfl rfl hl.1 rfl (lv_room (Nat.le_of_ble_eq_true rfl)) dX5_put_55 ⟨Nat.le_of_ble_eq_true rfl, Nat.le_of_ble_eq_true rfl⟩) hS (fun q _ h => hFc q h) hFc (fun r55 u55 t55 H1 locs ht1 hvm w55 hB hz1 hk1 hS => ?_)
        try dsimp only at w55 hB
        obtain ⟨hP1, hD1⟩ := hB
        rw [ht1] at hP1
        obtain ⟨hP, hD⟩ := wk_join (w1 := (mW cI cZ G 0 (wOff left off) (wLeft left) (wInc left wr) rc mem oth ks vs sx pl ps pk sr tg fl xs)) hP hD [0, 1, 2, 3, 4, 5, 6, 7, 8, 9, 10] rfl (by decide) rfl hk1 hFc hP1 hD1
        generalize H1 = H at hP hS ⊢
        have hP : va_P D vwCl (mW cI cZ G 0 (wOff left off) (wLeft left) (wInc left wr) rc mem oth ks vs sx pl ps pk sr tg fl xs) H := hP
        have hD : va_D A (mW cI cZ G 0 (wOff left off) (wLeft left) (wInc left wr) rc mem oth ks vs sx pl ps pk sr tg fl xs) := hD
        refine lv_if_ne (tgt := 64) hx hb dX5_put_58 (by decide) (fun c58 => ?_) (fun c58 => ?_)
        · have hl1 : ¬ left = 0 := wOk_1 (by rw [← w55]; exact c58)
          rw [show wOff left off = off from if_neg hl1, show wInc left wr = wr + 1 from if_neg hl1] at hP hD
          refine lv_aload_n hx hb dX5_put_64 rfl (lv_at hl 2 rfl) ?_
          refine lv_aload_n hx hb dX5_put_65 rfl (lv_at hl 2 rfl) ?_
          refine lv_iload_n hx hb dX5_put_66 rfl (lv_at hl 3 rfl) ?_
          have hPc := hP.sub (ws' := mW cI cZ G 0 off (wLeft left) (wr + 1) rc mem oth ks vs sx pl ps pk sr tg fl xs) [0, 1, 2, 3, 4, 5, 6, 7, 8, 9, 10] rfl
          have hDc := hD.sub (ws' := mW cI cZ G 0 off (wLeft left) (wr + 1) rc mem oth ks vs sx pl ps pk sr tg fl xs) [0, 1, 2, 3, 4, 5, 6, 7, 8, 9, 10] (by decide) rfl
          have hFc := va_free (wc := mW cI cZ G 0 off (wLeft left) (wr + 1) rc mem oth ks vs sx pl ps pk sr tg fl xs) hD hS hA [0, 1, 2, 3, 4, 5, 6, 7, 8, 9, 10] rfl
          refine va_calli (va_runV (As := [.int key]) (rest := [.ref (G 0)]) ⟨hx, hb, hml, hown, ht⟩ (c_X5_homeOf l D cI cZ cS cJ H.size G 0 off (wLeft left) (wr + 1) rc mem oth ks vs sx pl ps pk sr tg fl xs rows F Gn C hrp hsr hpl mm hmm hM key) (xwV 1 ht kw3_160 kw3_157 kw1_11 kw3_159 kwS_26 rfl rfl (by decide +kernel) ⟨Nat.le_of_ble_eq_true rfl, Nat.le_of_ble_eq_true rfl⟩) ⟨PB.blind, va_recv hK hPc (ci := 5) (q0 := 0) rfl rfl, fun U hU hW => PB.mk hU hW hPc hK hDc⟩ rfl rfl hl.1 rfl (lv_room (Nat.le_of_ble_eq_true rfl)) dX5_put_67 ⟨Nat.le_of_ble_eq_true rfl, Nat.le_of_ble_eq_true rfl⟩) hS (fun q _ h => hFc q h) hFc (fun r67 u67 t67 H1 locs ht1 hvm w67 hB hz1 hk1 hS => ?_)
          try dsimp only at w67 hB
          rw [ht1] at hB
          have hP := wk_ro hP hD [0, 1, 2, 3, 4, 5, 6, 7, 8, 9, 10] rfl hk1 hB
          generalize H1 = H at hP hS ⊢
          have w67 := w67.symm
          subst w67
          have h8 := homeF_lt (F := F) (key := key) hM hp8
          refine lv_iload_n hx hb dX5_put_70 rfl (lv_at hl 3 rfl) ?_
          refine lv_iload_n hx hb dX5_put_71 rfl (lv_at hl 4 rfl) ?_
          have hPc := hP.sub (ws' := mW cI cZ G 0 off (wLeft left) (wr + 1) rc mem oth ks vs sx pl ps pk sr tg fl xs) [0, 1, 2, 3, 4, 5, 6, 7, 8, 9, 10] rfl
          have hDc := hD.sub (ws' := mW cI cZ G 0 off (wLeft left) (wr + 1) rc mem oth ks vs sx pl ps pk sr tg fl xs) [0, 1, 2, 3, 4, 5, 6, 7, 8, 9, 10] (by decide) rfl
          have hFc := va_free (wc := mW cI cZ G 0 off (wLeft left) (wr + 1) rc mem oth ks vs sx pl ps pk sr tg fl xs) hD hS hA [0, 1, 2, 3, 4, 5, 6, 7, 8, 9, 10] rfl
          refine va_callv (va_runV (As := [.int (nI (homeF mm rows F key)), .int key, .int v]) (rest := []) ⟨hx, hb, hml, hown, ht⟩ (c_X5_store l D cI cZ cS cJ H.size G 0 off (wLeft left) (wr + 1) rc mem oth ks vs sx pl ps pk sr tg fl xs st hst (homeF mm rows F key) h8 key v (by have := hlen _ h8; omega)) (xwV 3 ht kw3_192 kw3_189 kw1_11 kw3_191 kwS_32 rfl rfl (by decide +kernel) ⟨Nat.le_of_ble_eq_true rfl, Nat.le_of_ble_eq_true rfl⟩) ⟨PB.blind, va_recv hK hPc (ci := 5) (q0 := 0) rfl rfl, fun U hU hW => PB.mk hU hW hPc hK hDc⟩ rfl rfl hl.1 rfl (lv_room (Nat.le_of_ble_eq_true rfl)) dX5_put_72 ⟨Nat.le_of_ble_eq_true rfl, Nat.le_of_ble_eq_true rfl⟩) hS (fun q _ h => hFc q h) hFc (fun u72 t72 H1 locs ht1 hvm w72 hB hz1 hk1 hS => ?_)
          try dsimp only at w72 hB
          obtain ⟨hP1, hD1⟩ := hB
          rw [ht1] at hP1
          obtain ⟨hP, hD⟩ := wk_join (w1 := (mW cI cZ G 0 off (wLeft left) (wr + 1) rc mem oth u72.1 u72.2.1 u72.2.2 pl ps pk sr tg fl xs)) hP hD [0, 1, 2, 3, 4, 5, 6, 7, 8, 9, 10] rfl (by decide) rfl hk1 hFc hP1 hD1
          generalize H1 = H at hP hS ⊢
          have hP : va_P D vwCl (mW cI cZ G 0 off (wLeft left) (wr + 1) rc mem oth u72.1 u72.2.1 u72.2.2 pl ps pk sr tg fl xs) H := hP
          have hD : va_D A (mW cI cZ G 0 off (wLeft left) (wr + 1) rc mem oth u72.1 u72.2.1 u72.2.2 pl ps pk sr tg fl xs) := hD
          have hst1 := w72
          refine lv_iload hx hb dX5_put_75 (lv_at hl 0 rfl) ?_
          refine lv_if_lt (tgt := 114) hx hb dX5_put_77 (by decide) (fun c77 => ?_) (fun c77 => ?_)
          · have hcp : ¬ cpd rows F C key = true := fun q => by rw [w49, rowI, if_pos (cpd_iff.mp q).1] at c77; exact absurd c77 (nI_pos (by have := (pin_iff.mp (cpd_iff.mp q).1).1; have := hrp.le; omega))
            refine lv_iload_n hx hb dX5_put_114 rfl (lv_at hl 1 rfl) ?_
            refine lv_if_eq (tgt := 122) hx hb dX5_put_115 (by decide) (fun c115 => ?_) (fun c115 => ?_)
            · have hans : ¬ hs (st (homeF mm rows F key)) key = true := fun q => by rw [w11, if_pos q] at c115; exact absurd c115 (by decide)
              refine lv_iconst (v := 1) hx hb dX5_put_122 (by decide) ?_
              exact W.iret (v := 1) hx hb hr (fun t ht2 hW => ⟨⟨1, (0, off, wLeft left, wr + 1, rc, mem, oth, u72.1, u72.2.1, u72.2.2, pl, ps, pk, sr, tg, fl, xs), rfl, by
                    (try dsimp only)
                    (try dsimp only)
                    refine ⟨(off, wLeft left, wr + 1, rc, fu st (homeF mm rows F key) (ins (st (homeF mm rows F key)) key v), mm, pl, rows, F, Gn, C), ?_, RepM.mk hst1 hmm hrp⟩
                    unfold putF
                    rw [if_neg ho, if_neg hfull, if_neg hl1, if_pos hcp]
                    try (first | rw [if_pos hans] | rw [if_neg hans] | rw [hoff.resolve_left ho]), ⟨by (try dsimp only); rw [ht2]; exact hP, by exact hD⟩⟩, hS.F ht2⟩) hS.2.2 dX5_put_123
            · have hans : hs (st (homeF mm rows F key)) key = true := by
                rcases Bool.eq_false_or_eq_true (hs (st (homeF mm rows F key)) key) with q | q
                · exact q
                · exact absurd (by rw [w11, q]; rfl) c115
              refine lv_iconst (v := 0) hx hb dX5_put_118 (by decide) ?_
              refine lv_goto (tgt := 123) hx hb dX5_put_119 (by decide) ?_
              exact W.iret (v := 0) hx hb hr (fun t ht2 hW => ⟨⟨0, (0, off, wLeft left, wr + 1, rc, mem, oth, u72.1, u72.2.1, u72.2.2, pl, ps, pk, sr, tg, fl, xs), rfl, by
                    (try dsimp only)
                    (try dsimp only)
                    refine ⟨(off, wLeft left, wr + 1, rc, fu st (homeF mm rows F key) (ins (st (homeF mm rows F key)) key v), mm, pl, rows, F, Gn, C), ?_, RepM.mk hst1 hmm hrp⟩
                    unfold putF
                    rw [if_neg ho, if_neg hfull, if_neg hl1, if_pos hcp]
                    try (first | rw [if_pos hans] | rw [if_neg hans] | rw [hoff.resolve_left ho]), ⟨by (try dsimp only); rw [ht2]; exact hP, by exact hD⟩⟩, hS.F ht2⟩) hS.2.2 dX5_put_123
          · have hpin : pin rows key = true := by
              rcases Bool.eq_false_or_eq_true (pin rows key) with q | q
              · exact q
              · exact absurd (by rw [w49, rowI, if_neg (by rw [q]; decide)]; decide) c77
            have hrI : rowI rows key = nI (prow rows key) := if_pos hpin
            have hk := (pin_iff.mp hpin).1
            have hle := hrp.le
            refine lv_aload_n hx hb dX5_put_80 rfl (lv_at hl 2 rfl) ?_
            refine va_get (D := D) (ci := 5) (v := .ref (G 10)) (C := RX5) (T := TX5) (N := 17) hx hb ht inX5 hown hK hP 0 rfl rfl 16 (by decide) (ht _ kw3_96) (fun _ h9 => h9) rfl dX5_put_81 ?_
            refine lv_iload hx hb dX5_put_84 (lv_at hl 0 rfl) ?_
            refine ya_iald hx hb hK hP 10 0 rfl rfl (prow rows key) (by rw [w49, hrI]) (by omega) (by decide) dX5_put_86 ?_
            refine lv_iconst (v := 2) hx hb dX5_put_87 (by decide) ?_
            refine lv_icmp_ne (tgt := 114) hx hb dX5_put_88 (by decide) (fun c88 => ?_) (fun c88 => ?_)
            · have hcp : ¬ cpd rows F C key = true := fun q => c88 (by rw [hrp.x hk]; exact sta_2.mpr (cpd_iff.mp q).2)
              refine lv_iload_n hx hb dX5_put_114 rfl (lv_at hl 1 rfl) ?_
              refine lv_if_eq (tgt := 122) hx hb dX5_put_115 (by decide) (fun c115 => ?_) (fun c115 => ?_)
              · have hans : ¬ hs (st (homeF mm rows F key)) key = true := fun q => by rw [w11, if_pos q] at c115; exact absurd c115 (by decide)
                refine lv_iconst (v := 1) hx hb dX5_put_122 (by decide) ?_
                exact W.iret (v := 1) hx hb hr (fun t ht2 hW => ⟨⟨1, (0, off, wLeft left, wr + 1, rc, mem, oth, u72.1, u72.2.1, u72.2.2, pl, ps, pk, sr, tg, fl, xs), rfl, by
                      (try dsimp only)
                      (try dsimp only)
                      refine ⟨(off, wLeft left, wr + 1, rc, fu st (homeF mm rows F key) (ins (st (homeF mm rows F key)) key v), mm, pl, rows, F, Gn, C), ?_, RepM.mk hst1 hmm hrp⟩
                      unfold putF
                      rw [if_neg ho, if_neg hfull, if_neg hl1, if_pos hcp]
                      try (first | rw [if_pos hans] | rw [if_neg hans] | rw [hoff.resolve_left ho]), ⟨by (try dsimp only); rw [ht2]; exact hP, by exact hD⟩⟩, hS.F ht2⟩) hS.2.2 dX5_put_123
              · have hans : hs (st (homeF mm rows F key)) key = true := by
                  rcases Bool.eq_false_or_eq_true (hs (st (homeF mm rows F key)) key) with q | q
                  · exact q
                  · exact absurd (by rw [w11, q]; rfl) c115
                refine lv_iconst (v := 0) hx hb dX5_put_118 (by decide) ?_
                refine lv_goto (tgt := 123) hx hb dX5_put_119 (by decide) ?_
                exact W.iret (v := 0) hx hb hr (fun t ht2 hW => ⟨⟨0, (0, off, wLeft left, wr + 1, rc, mem, oth, u72.1, u72.2.1, u72.2.2, pl, ps, pk, sr, tg, fl, xs), rfl, by
                      (try dsimp only)
                      (try dsimp only)
                      refine ⟨(off, wLeft left, wr + 1, rc, fu st (homeF mm rows F key) (ins (st (homeF mm rows F key)) key v), mm, pl, rows, F, Gn, C), ?_, RepM.mk hst1 hmm hrp⟩
                      unfold putF
                      rw [if_neg ho, if_neg hfull, if_neg hl1, if_pos hcp]
                      try (first | rw [if_pos hans] | rw [if_neg hans] | rw [hoff.resolve_left ho]), ⟨by (try dsimp only); rw [ht2]; exact hP, by exact hD⟩⟩, hS.F ht2⟩) hS.2.2 dX5_put_123
            · have hcp0 := sta_2.mp (by rw [← hrp.x (C := C) (Gn := Gn) hk]; exact c88)
              have hcp : ¬ ¬ cpd rows F C key = true := fun q => q (cpd_iff.mpr ⟨hpin, hcp0.1, hcp0.2⟩)
              have h8t := (hp8 F (by rw [← hcp0.1]; exact hk)).2
              refine lv_aload_n hx hb dX5_put_91 rfl (lv_at hl 2 rfl) ?_
              have hPc := hP.sub (ws' := mW cI cZ G 0 off (wLeft left) (wr + 1) rc mem oth u72.1 u72.2.1 u72.2.2 pl ps pk sr tg fl xs) [0, 1, 2, 3, 4, 5, 6, 7, 8, 9, 10] rfl
              have hDc := hD.sub (ws' := mW cI cZ G 0 off (wLeft left) (wr + 1) rc mem oth u72.1 u72.2.1 u72.2.2 pl ps pk sr tg fl xs) [0, 1, 2, 3, 4, 5, 6, 7, 8, 9, 10] (by decide) rfl
              have hFc := va_free (wc := mW cI cZ G 0 off (wLeft left) (wr + 1) rc mem oth u72.1 u72.2.1 u72.2.2 pl ps pk sr tg fl xs) hD hS hA [0, 1, 2, 3, 4, 5, 6, 7, 8, 9, 10] rfl
              refine va_calli (va_runV (As := []) (rest := []) ⟨hx, hb, hml, hown, ht⟩ (c_X5_writes l D cI cZ cS cJ H.size G 0 off (wLeft left) (wr + 1) rc mem oth u72.1 u72.2.1 u72.2.2 pl ps pk sr tg fl xs ) (xwV 0 ht kw3_188 kw3_185 kw1_11 kw3_187 kwS_31 rfl rfl (by decide +kernel) ⟨Nat.le_of_ble_eq_true rfl, Nat.le_of_ble_eq_true rfl⟩) ⟨PB.blind, va_recv hK hPc (ci := 5) (q0 := 0) rfl rfl, fun U hU hW => PB.mk hU hW hPc hK hDc⟩ rfl rfl hl.1 rfl (lv_room (Nat.le_of_ble_eq_true rfl)) dX5_put_92 ⟨Nat.le_of_ble_eq_true rfl, Nat.le_of_ble_eq_true rfl⟩) hS (fun q _ h => hFc q h) hFc (fun r92 u92 t92 H1 locs ht1 hvm w92 hB hz1 hk1 hS => ?_)
              try dsimp only at w92 hB
              obtain ⟨hP1, hD1⟩ := hB
              rw [ht1] at hP1
              obtain ⟨hP, hD⟩ := wk_join (w1 := (mW cI cZ G 0 (wOff (wLeft left) off) (wLeft (wLeft left)) (wInc (wLeft left) (wr + 1)) rc mem oth u72.1 u72.2.1 u72.2.2 pl ps pk sr tg fl xs)) hP hD [0, 1, 2, 3, 4, 5, 6, 7, 8, 9, 10] rfl (by decide) rfl hk1 hFc hP1 hD1
              generalize H1 = H at hP hS ⊢
              have hP : va_P D vwCl (mW cI cZ G 0 (wOff (wLeft left) off) (wLeft (wLeft left)) (wInc (wLeft left) (wr + 1)) rc mem oth u72.1 u72.2.1 u72.2.2 pl ps pk sr tg fl xs) H := hP
              have hD : va_D A (mW cI cZ G 0 (wOff (wLeft left) off) (wLeft (wLeft left)) (wInc (wLeft left) (wr + 1)) rc mem oth u72.1 u72.2.1 u72.2.2 pl ps pk sr tg fl xs) := hD
              refine lv_if_ne (tgt := 101) hx hb dX5_put_95 (by decide) (fun c95 => ?_) (fun c95 => ?_)
              · have hl2z : ¬ (wLeft left) = 0 := wOk_1 (by rw [← w92]; exact c95)
                rw [show wOff (wLeft left) off = off from if_neg hl2z, show wInc (wLeft left) (wr + 1) = wr + 1 + 1 from if_neg hl2z] at hP hD
                refine lv_aload_n hx hb dX5_put_101 rfl (lv_at hl 2 rfl) ?_
                refine lv_aload_n hx hb dX5_put_102 rfl (lv_at hl 2 rfl) ?_
                refine va_get (D := D) (ci := 5) (v := .ref (G 8)) (C := RX5) (T := TX5) (N := 17) hx hb ht inX5 hown hK hP 0 rfl rfl 14 (by decide) (ht _ kw3_94) (fun _ h9 => h9) rfl dX5_put_103 ?_
                refine lv_iload hx hb dX5_put_106 (lv_at hl 0 rfl) ?_
                refine ya_iald hx hb hK hP 8 0 rfl rfl F (by rw [w49, hrI, hcp0.1]) (by have := hcp0.1; omega) (by decide) dX5_put_108 ?_
                rw [hrp.t (show F < rows.length by rw [← hcp0.1]; exact hk)]
                refine lv_iload_n hx hb dX5_put_109 rfl (lv_at hl 3 rfl) ?_
                refine lv_iload_n hx hb dX5_put_110 rfl (lv_at hl 4 rfl) ?_
                have hl2 : ((fu st (homeF mm rows F key) (ins (st (homeF mm rows F key)) key v)) (pT rows F)).length < 1000 := by
                  unfold fu
                  split
                  · rw [ins_len]; have := hlen _ h8; split <;> omega
                  · have := hlen _ h8t; omega
                have hPc := hP.sub (ws' := mW cI cZ G 0 off (wLeft (wLeft left)) (wr + 1 + 1) rc mem oth u72.1 u72.2.1 u72.2.2 pl ps pk sr tg fl xs) [0, 1, 2, 3, 4, 5, 6, 7, 8, 9, 10] rfl
                have hDc := hD.sub (ws' := mW cI cZ G 0 off (wLeft (wLeft left)) (wr + 1 + 1) rc mem oth u72.1 u72.2.1 u72.2.2 pl ps pk sr tg fl xs) [0, 1, 2, 3, 4, 5, 6, 7, 8, 9, 10] (by decide) rfl
                have hFc := va_free (wc := mW cI cZ G 0 off (wLeft (wLeft left)) (wr + 1 + 1) rc mem oth u72.1 u72.2.1 u72.2.2 pl ps pk sr tg fl xs) hD hS hA [0, 1, 2, 3, 4, 5, 6, 7, 8, 9, 10] rfl
                refine va_callv (va_runV (As := [.int (nI (pT rows F)), .int key, .int v]) (rest := []) ⟨hx, hb, hml, hown, ht⟩ (c_X5_store l D cI cZ cS cJ H.size G 0 off (wLeft (wLeft left)) (wr + 1 + 1) rc mem oth u72.1 u72.2.1 u72.2.2 pl ps pk sr tg fl xs (fu st (homeF mm rows F key) (ins (st (homeF mm rows F key)) key v)) hst1 (pT rows F) h8t key v hl2) (xwV 3 ht kw3_192 kw3_189 kw1_11 kw3_191 kwS_32 rfl rfl (by decide +kernel) ⟨Nat.le_of_ble_eq_true rfl, Nat.le_of_ble_eq_true rfl⟩) ⟨PB.blind, va_recv hK hPc (ci := 5) (q0 := 0) rfl rfl, fun U hU hW => PB.mk hU hW hPc hK hDc⟩ rfl rfl hl.1 rfl (lv_room (Nat.le_of_ble_eq_true rfl)) dX5_put_111 ⟨Nat.le_of_ble_eq_true rfl, Nat.le_of_ble_eq_true rfl⟩) hS (fun q _ h => hFc q h) hFc (fun u111 t111 H1 locs ht1 hvm w111 hB hz1 hk1 hS => ?_)
                try dsimp only at w111 hB
                obtain ⟨hP1, hD1⟩ := hB
                rw [ht1] at hP1
                obtain ⟨hP, hD⟩ := wk_join (w1 := (mW cI cZ G 0 off (wLeft (wLeft left)) (wr + 1 + 1) rc mem oth u111.1 u111.2.1 u111.2.2 pl ps pk sr tg fl xs)) hP hD [0, 1, 2, 3, 4, 5, 6, 7, 8, 9, 10] rfl (by decide) rfl hk1 hFc hP1 hD1
                generalize H1 = H at hP hS ⊢
                have hP : va_P D vwCl (mW cI cZ G 0 off (wLeft (wLeft left)) (wr + 1 + 1) rc mem oth u111.1 u111.2.1 u111.2.2 pl ps pk sr tg fl xs) H := hP
                have hD : va_D A (mW cI cZ G 0 off (wLeft (wLeft left)) (wr + 1 + 1) rc mem oth u111.1 u111.2.1 u111.2.2 pl ps pk sr tg fl xs) := hD
                have hst2 := w111
                refine lv_iload_n hx hb dX5_put_114 rfl (lv_at hl 1 rfl) ?_
                refine lv_if_eq (tgt := 122) hx hb dX5_put_115 (by decide) (fun c115 => ?_) (fun c115 => ?_)
                · have hans : ¬ hs (st (homeF mm rows F key)) key = true := fun q => by rw [w11, if_pos q] at c115; exact absurd c115 (by decide)
                  refine lv_iconst (v := 1) hx hb dX5_put_122 (by decide) ?_
                  exact W.iret (v := 1) hx hb hr (fun t ht2 hW => ⟨⟨1, (0, off, wLeft (wLeft left), wr + 1 + 1, rc, mem, oth, u111.1, u111.2.1, u111.2.2, pl, ps, pk, sr, tg, fl, xs), rfl, by
                        (try dsimp only)
                        (try dsimp only)
                        refine ⟨(off, wLeft (wLeft left), wr + 1 + 1, rc, fu (fu st (homeF mm rows F key) (ins (st (homeF mm rows F key)) key v)) (pT rows F) (ins ((fu st (homeF mm rows F key) (ins (st (homeF mm rows F key)) key v)) (pT rows F)) key v), mm, pl, rows, F, Gn, C), ?_, RepM.mk hst2 hmm hrp⟩
                        unfold putF
                        rw [if_neg ho, if_neg hfull, if_neg hl1, if_neg hcp, if_neg hl2z]
                        try (first | rw [if_pos hans] | rw [if_neg hans] | rw [hoff.resolve_left ho]), ⟨by (try dsimp only); rw [ht2]; exact hP, by exact hD⟩⟩, hS.F ht2⟩) hS.2.2 dX5_put_123
                · have hans : hs (st (homeF mm rows F key)) key = true := by
                    rcases Bool.eq_false_or_eq_true (hs (st (homeF mm rows F key)) key) with q | q
                    · exact q
                    · exact absurd (by rw [w11, q]; rfl) c115
                  refine lv_iconst (v := 0) hx hb dX5_put_118 (by decide) ?_
                  refine lv_goto (tgt := 123) hx hb dX5_put_119 (by decide) ?_
                  exact W.iret (v := 0) hx hb hr (fun t ht2 hW => ⟨⟨0, (0, off, wLeft (wLeft left), wr + 1 + 1, rc, mem, oth, u111.1, u111.2.1, u111.2.2, pl, ps, pk, sr, tg, fl, xs), rfl, by
                        (try dsimp only)
                        (try dsimp only)
                        refine ⟨(off, wLeft (wLeft left), wr + 1 + 1, rc, fu (fu st (homeF mm rows F key) (ins (st (homeF mm rows F key)) key v)) (pT rows F) (ins ((fu st (homeF mm rows F key) (ins (st (homeF mm rows F key)) key v)) (pT rows F)) key v), mm, pl, rows, F, Gn, C), ?_, RepM.mk hst2 hmm hrp⟩
                        unfold putF
                        rw [if_neg ho, if_neg hfull, if_neg hl1, if_neg hcp, if_neg hl2z]
                        try (first | rw [if_pos hans] | rw [if_neg hans] | rw [hoff.resolve_left ho]), ⟨by (try dsimp only); rw [ht2]; exact hP, by exact hD⟩⟩, hS.F ht2⟩) hS.2.2 dX5_put_123
              · have hl2z : wLeft left = 0 := wOk_0 (by rw [← w92]; exact c95)
                rw [show wOff (wLeft left) off = 1 from if_pos hl2z, show wInc (wLeft left) (wr + 1) = wr + 1 from if_pos hl2z, wLeft_0 hl2z] at hP hD
                refine lv_bipush (v := (-9)) hx hb dX5_put_98 (by decide) ?_
                exact W.iret (v := (-9)) hx hb hr (fun t ht2 hW => ⟨⟨(-9), (0, 1, wLeft left, wr + 1, rc, mem, oth, u72.1, u72.2.1, u72.2.2, pl, ps, pk, sr, tg, fl, xs), rfl, by
                      (try dsimp only)
                      (try dsimp only)
                      refine ⟨(1, wLeft left, wr + 1, rc, fu st (homeF mm rows F key) (ins (st (homeF mm rows F key)) key v), mm, pl, rows, F, Gn, C), ?_, RepM.mk hst1 hmm hrp⟩
                      unfold putF
                      rw [if_neg ho, if_neg hfull, if_neg hl1, if_neg hcp, if_pos hl2z]
                      try (first | rw [if_pos hans] | rw [if_neg hans] | rw [hoff.resolve_left ho]), ⟨by (try dsimp only); rw [ht2]; exact hP, by exact hD⟩⟩, hS.F ht2⟩) hS.2.2 dX5_put_100
        · have hl1 : left = 0 := wOk_0 (by rw [← w55]; exact c58)
          rw [show wOff left off = 1 from if_pos hl1, show wInc left wr = wr from if_pos hl1, wLeft_0 hl1] at hP hD
          refine lv_bipush (v := (-9)) hx hb dX5_put_61 (by decide) ?_
          exact W.iret (v := (-9)) hx hb hr (fun t ht2 hW => ⟨⟨(-9), (0, 1, left, wr, rc, mem, oth, ks, vs, sx, pl, ps, pk, sr, tg, fl, xs), rfl, by
                (try dsimp only)
                (try dsimp only)
                refine ⟨(1, left, wr, rc, st, mm, pl, rows, F, Gn, C), ?_, RepM.mk hst hmm hrp⟩
                unfold putF
                rw [if_neg ho, if_neg hfull, if_pos hl1]
                try (first | rw [if_pos hans] | rw [if_neg hans] | rw [hoff.resolve_left ho]), ⟨by (try dsimp only); rw [ht2]; exact hP, by exact hD⟩⟩, hS.F ht2⟩) hS.2.2 dX5_put_63
      · have hfull : ¬ hs (st (homeF mm rows F key)) key = true ∧ 256 ≤ thF st (homeF mm rows F) := ⟨hwas, by
          rcases Nat.lt_or_ge (thF st (homeF mm rows F)) 256 with q | q
          · exact absurd (by rw [w21]; exact (show nI _ < nI 256 from nI_lt q (by decide))) c27
          · exact q⟩
        refine lv_iconst (v := 1) hx hb dX5_put_30 (by decide) ?_
        refine lv_goto (tgt := 35) hx hb dX5_put_31 (by decide) ?_
        refine va_put (D := D) (ci := 5) (v := .int 1) (ty := .int) (C := RX5) (T := TX5) (N := 17) hx hb ht inX5 tyX5 tyX5_ok nmX5 hown hK hP hD hS 0 rfl rfl 0 (by decide) (ht _ kw3_80) (fun _ h9 => h9) rfl (by decide +kernel) (rfl) rfl (Nat.le_of_ble_eq_true rfl) dX5_put_35 (fun H locs hP hD hS => ?_)
        have hP : va_P D vwCl (mW cI cZ G 1 off left wr rc mem oth ks vs sx pl ps pk sr tg fl xs) H := hP
        have hD : va_D A (mW cI cZ G 1 off left wr rc mem oth ks vs sx pl ps pk sr tg fl xs) := hD
        refine lv_aload_n hx hb dX5_put_38 rfl (lv_at hl 1 rfl) ?_
        refine va_get (D := D) (ci := 5) (v := .int 1) (C := RX5) (T := TX5) (N := 17) hx hb ht inX5 hown hK hP 0 rfl rfl 0 (by decide) (ht _ kw3_80) (fun _ h9 => h9) rfl dX5_put_39 ?_
        refine lv_if_le (tgt := 47) hx hb dX5_put_42 (by decide) (fun c42 => absurd c42 (by decide)) (fun c42 => ?_)
        refine lv_iconst (v := 0) hx hb dX5_put_45 (by decide) ?_
        exact W.iret (v := 0) hx hb hr (fun t ht2 hW => ⟨⟨0, (1, off, left, wr, rc, mem, oth, ks, vs, sx, pl, ps, pk, sr, tg, fl, xs), rfl, by
              (try dsimp only)
              (try dsimp only)
              refine ⟨(off, left, wr, rc, st, mm, pl, rows, F, Gn, C), ?_, RepM.mk hst hmm hrp⟩
              unfold putF
              rw [if_neg ho, if_pos hfull]
              try (first | rw [if_pos hans] | rw [if_neg hans] | rw [hoff.resolve_left ho]), ⟨by (try dsimp only); rw [ht2]; exact hP, by exact hD⟩⟩, hS.F ht2⟩) hS.2.2 dX5_put_46
  · have ho : ¬ off = 0 := c4
    refine lv_iconst (v := 0) hx hb dX5_put_7 (by decide) ?_
    exact W.iret (v := 0) hx hb hr (fun t ht2 hW => ⟨⟨0, (off, off, left, wr, rc, mem, oth, ks, vs, sx, pl, ps, pk, sr, tg, fl, xs), rfl, by
          (try dsimp only)
          (try dsimp only)
          refine ⟨(off, left, wr, rc, st, mm, pl, rows, F, Gn, C), ?_, RepM.mk hst hmm hrp⟩
          unfold putF
          rw [if_pos ho]
          try (first | rw [if_pos hans] | rw [if_neg hans] | rw [hoff.resolve_left ho]), ⟨by (try dsimp only); rw [ht2]; exact hP, by exact hD⟩⟩, hS.F ht2⟩) hS.2.2 dX5_put_8
