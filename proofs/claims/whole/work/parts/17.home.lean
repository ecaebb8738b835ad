-- the reference: planned, homeOf, isThere, there, noNode, memberCount, still, thrown

set_option maxHeartbeats 4000000 in
set_option maxRecDepth 100000 in
theorem c_X5_planned (l : Launch) (D : va_G) (cI cZ cS cJ : ClassId) (sz : Nat) (G : Nat → Nat) (code off left wr rc : Int32) (mem oth ks vs sx : Nat → Int32) (pl ps : Int32) (pk sr tg fl xs : Nat → Int32) (rows : List (Int32 × Nat × Nat)) (F Gn : Nat) (C : Bool) (hrp : RP rows F Gn C ps pk sr tg fl xs) (hsr : Srt (pkl rows)) (hpl : pl = 1 ∨ (pl = 0 ∧ rows = [])) (key : Int32) : Met l yX5_planned (Cond.code yX5_planned cX5_planned 4 (some .int) :: TB) ({ frames := 0, cells := 0, slots := 0, locals := 0 } : Room) (va_Pc [.ref (G 0), .int key] (PB D (KT cI cZ cS cJ) (mW cI cZ G code off left wr rc mem oth ks vs sx pl ps pk sr tg fl xs) sz)) (va_Qi (fun r (_ : Unit) => r = rowI rows key) (fun (_ : Unit) t => va_P D vwCl (mW cI cZ G code off left wr rc mem oth ks vs sx pl ps pk sr tg fl xs) t.heap) (va_A (mW cI cZ G code off left wr rc mem oth ks vs sx pl ps pk sr tg fl xs) sz)) 0 0 (va_A (mW cI cZ G code off left wr rc mem oth ks vs sx pl ps pk sr tg fl xs) sz) := by
  refine Met.ofW (cc := cX5_planned) (maxL := 4) (ret := (some .int)) (by decide) rfl ?_
  intro p e s m args below meth c s₁ B hml hv
  obtain ⟨rfl, hsz, hP, hK, hD0⟩ := hv
  have hx := B.exec
  have hb := B.bytes
  have hr := B.returns
  have hts := atoms_spec (ws := (Cond.code yX5_planned cX5_planned 4 (some .int) :: TB)) B.pre
  have ht : ∀ w ∈ TB, w.before _ s = true := fun w h => hts w (List.mem_cons_of_mem _ h)
  have hown : s.vm.findClass RX5 = some m.cls := findClass_of_methodNamed B.named
  have hlocks := B.notSynchronized
  subst hsz
  have hD := hD0.self (sz := s.heap.size)
  generalize hAe : va_A (mW cI cZ G code off left wr rc mem oth ks vs sx pl ps pk sr tg fl xs) s.heap.size = A at hD ⊢
  have hA : ∀ q : Nat, s.heap.size ≤ q → A q := fun q h => by rw [← hAe]; exact Or.inr h
  have hS : va_S A s.heap s.heap [] := va_S.rf
  have hP : va_P D vwCl (mW cI cZ G code off left wr rc mem oth ks vs sx pl ps pk sr tg fl xs) s.heap := hP
  have hl := lv_entry ([.ref (G 0), .int key]) (n := 4) (Nat.le_of_ble_eq_true rfl)
  rw [lg_entry_eq]
  generalize (lg_sl ([.ref (G 0), .int key]) ++ List.replicate (4 - (lg_sl ([.ref (G 0), .int key])).length) Slot.unset).toArray = ls at hl ⊢
  have hl : lv_has ls 4 [(0, .ref (G 0)), (1, .int key)] := hl
  refine lv_iconst (v := (-1)) hx hb dX5_planned_0 (by decide) ?_
  refine lv_istore_n (lv' := [(2, .int (-1)), (0, .ref (G 0)), (1, .int key)]) hx hb dX5_planned_1 rfl hl (by decide) rfl (fun ls hl => ?_)
  refine lv_iconst (v := 0) hx hb dX5_planned_2 (by decide) ?_
  refine lv_istore_n (lv' := [(3, .int 0), (2, .int (-1)), (0, .ref (G 0)), (1, .int key)]) hx hb dX5_planned_3 rfl hl (by decide) rfl (fun ls hl => ?_)
  refine lpA (pc := 4) (ι := Nat × Int32) (fun z ls => lv_has ls 4 [(3, .int (nI z.1)), (2, .int z.2), (0, .ref (G 0)), (1, .int key)] ∧ z.1 ≤ rows.length ∧ z.2 = (if pin rows key = true ∧ prow rows key < z.1 then nI (prow rows key) else -1)) (fun z => rows.length - z.1) (0, (-1)) (⟨lv_sub hl [0, 1, 2, 3] rfl, ⟨Nat.zero_le _, by rw [if_neg (fun z => absurd z.2 (Nat.not_lt_zero _))]⟩⟩) ?_
  intro z ls hI ih4
  obtain ⟨k, f⟩ := z
  obtain ⟨hl, hinv⟩ := hI
  have hl : lv_has ls 4 [(3, .int (nI k)), (2, .int f), (0, .ref (G 0)), (1, .int key)] := hl
  obtain ⟨hkl, hf⟩ : k ≤ rows.length ∧ f = (if pin rows key = true ∧ prow rows key < k then nI (prow rows key) else -1) := hinv
  have hps := hrp.sz
  have hle := hrp.le
  refine lv_iload_n hx hb dX5_planned_4 rfl (lv_at hl 0 rfl) ?_
  refine lv_aload_n hx hb dX5_planned_5 rfl (lv_at hl 2 rfl) ?_
  refine va_get (D := D) (ci := 5) (v := .int ps) (C := RX5) (T := TX5) (N := 17) hx hb ht inX5 hown hK hP 0 rfl rfl 11 (by decide) (ht _ kw3_91) (fun _ h9 => h9) rfl dX5_planned_6 ?_
  refine lv_icmp_ge (tgt := 41) hx hb dX5_planned_9 (by decide) (fun c9 => ?_) (fun c9 => ?_)
  · have hke : k = rows.length := by
      rcases Nat.lt_or_ge k rows.length with q | q
      · rw [hps] at c9; exact absurd c9 (nI_ge q (by omega))
      · omega
    refine lv_iload_n hx hb dX5_planned_41 rfl (lv_at hl 1 rfl) ?_
    exact W.iret (v := f) hx hb hr (fun t ht2 hW => ⟨⟨f, (), rfl, by
          (try dsimp only)
          rw [hf]; unfold rowI
          by_cases q : pin rows key = true
          · rw [if_pos ⟨q, by have := (pin_iff.mp q).1; omega⟩, if_pos q]
          · rw [if_neg (fun z => q z.1), if_neg q], by (try dsimp only); rw [ht2]; exact hP⟩, hS.F ht2⟩) hS.2.2 dX5_planned_42
  · have hk : k < rows.length := by
      rcases Nat.lt_or_ge k rows.length with q | q
      · exact q
      · exact absurd (by rw [hps]; exact nI_le q (by omega)) c9
    refine lv_aload_n hx hb dX5_planned_12 rfl (lv_at hl 2 rfl) ?_
    refine va_get (D := D) (ci := 5) (v := .int pl) (C := RX5) (T := TX5) (N := 17) hx hb ht inX5 hown hK hP 0 rfl rfl 10 (by decide) (ht _ kw3_90) (fun _ h9 => h9) rfl dX5_planned_13 ?_
    refine lv_if_eq (tgt := 41) hx hb dX5_planned_16 (by decide) (fun c16 => ?_) (fun c16 => ?_)
    · refine lv_iload_n hx hb dX5_planned_41 rfl (lv_at hl 1 rfl) ?_
      exact W.iret (v := f) hx hb hr (fun t ht2 hW => ⟨⟨f, (), rfl, by
            (try dsimp only)
            have hr0 : rows = [] := by
              rcases hpl with q | q
              · rw [q] at c16; exact absurd c16 (by decide)
              · exact q.2
            subst hr0
            exact absurd hk (Nat.not_lt_zero _), by (try dsimp only); rw [ht2]; exact hP⟩, hS.F ht2⟩) hS.2.2 dX5_planned_42
    · refine lv_aload_n hx hb dX5_planned_19 rfl (lv_at hl 2 rfl) ?_
      refine va_get (D := D) (ci := 5) (v := .ref (G 6)) (C := RX5) (T := TX5) (N := 17) hx hb ht inX5 hown hK hP 0 rfl rfl 12 (by decide) (ht _ kw3_92) (fun _ h9 => h9) rfl dX5_planned_20 ?_
      refine lv_iload_n hx hb dX5_planned_23 rfl (lv_at hl 0 rfl) ?_
      refine ya_iald hx hb hK hP 6 0 rfl rfl k (rfl) (by omega) (by decide) dX5_planned_24 ?_
      refine lv_iload_n hx hb dX5_planned_25 rfl (lv_at hl 3 rfl) ?_
      refine lv_icmp_ne (tgt := 33) hx hb dX5_planned_26 (by decide) (fun c26 => ?_) (fun c26 => ?_)
      · refine lv_iload_n hx hb dX5_planned_33 rfl (lv_at hl 1 rfl) ?_
        refine lv_istore_n (lv' := [(2, .int f), (3, .int (nI k)), (0, .ref (G 0)), (1, .int key)]) hx hb dX5_planned_34 rfl hl (by decide) rfl (fun ls hl => ?_)
        refine lv_iinc (v := nI (k + 1)) (lv' := [(3, .int (nI (k + 1))), (2, .int f), (0, .ref (G 0)), (1, .int key)]) hx hb dX5_planned_35 hl (k := 1) rfl (by exact nI_1 k) (by decide) rfl (fun ls hl => ?_)
        refine lv_goto (tgt := 4) hx hb dX5_planned_38 (by decide) ?_
        exact ih4 (k + 1, f) ls (⟨lv_sub hl [0, 1, 2, 3] rfl, ⟨by omega, by
              rw [hf]
              by_cases q : pin rows key = true ∧ prow rows key < k
              · rw [if_pos q, if_pos ⟨q.1, by omega⟩]
              · rw [if_neg q, if_neg (fun z => q ⟨z.1, by
                  rcases Nat.lt_or_ge (prow rows key) k with y | y
                  · exact y
                  · exact absurd (by rw [hrp.k hk, ← (show prow rows key = k by omega)]; exact (pin_iff.mp z.1).2) c26⟩)]⟩⟩) (by show _ - (k + 1) < _ - k; omega)
      · refine lv_iload_n hx hb dX5_planned_29 rfl (lv_at hl 0 rfl) ?_
        refine lv_goto (tgt := 34) hx hb dX5_planned_30 (by decide) ?_
        refine lv_istore_n (lv' := [(2, .int (nI k)), (3, .int (nI k)), (0, .ref (G 0)), (1, .int key)]) hx hb dX5_planned_34 rfl hl (by decide) rfl (fun ls hl => ?_)
        refine lv_iinc (v := nI (k + 1)) (lv' := [(3, .int (nI (k + 1))), (2, .int (nI k)), (0, .ref (G 0)), (1, .int key)]) hx hb dX5_planned_35 hl (k := 1) rfl (by exact nI_1 k) (by decide) rfl (fun ls hl => ?_)
        refine lv_goto (tgt := 4) hx hb dX5_planned_38 (by decide) ?_
        exact ih4 (k + 1, nI k) ls (⟨lv_sub hl [0, 1, 2, 3] rfl, ⟨by omega, by
              have q := prow_at (key := key) hsr hk (by rw [← hrp.k hk]; exact c26)
              rw [if_pos ⟨q.1, by omega⟩, q.2]⟩⟩) (by show _ - (k + 1) < _ - k; omega)

set_option maxHeartbeats 4000000 in
set_option maxRecDepth 100000 in
theorem c_X5_homeOf (l : Launch) (D : va_G) (cI cZ cS cJ : ClassId) (sz : Nat) (G : Nat → Nat) (code off left wr rc : Int32) (mem oth ks vs sx : Nat → Int32) (pl ps : Int32) (pk sr tg fl xs : Nat → Int32) (rows : List (Int32 × Nat × Nat)) (F Gn : Nat) (C : Bool) (hrp : RP rows F Gn C ps pk sr tg fl xs) (hsr : Srt (pkl rows)) (hpl : pl = 1 ∨ (pl = 0 ∧ rows = [])) (mm : Nat → Nat) (hmm : ∀ n, n < 8 → mem n = nI (mm n)) (hM : MM mm) (key : Int32) : Met l yX5_homeOf (Cond.code yX5_homeOf cX5_homeOf 3 (some .int) :: TB) ({ frames := 3, cells := 0, slots := 0, locals := 73 } : Room) (va_Pc [.ref (G 0), .int key] (PB D (KT cI cZ cS cJ) (mW cI cZ G code off left wr rc mem oth ks vs sx pl ps pk sr tg fl xs) sz)) (va_Qi (fun r (_ : Unit) => r = nI (homeF mm rows F key)) (fun (_ : Unit) t => va_P D vwCl (mW cI cZ G code off left wr rc mem oth ks vs sx pl ps pk sr tg fl xs) t.heap) (va_A (mW cI cZ G code off left wr rc mem oth ks vs sx pl ps pk sr tg fl xs) sz)) 0 0 (va_A (mW cI cZ G code off left wr rc mem oth ks vs sx pl ps pk sr tg fl xs) sz) := by
  refine Met.ofW (cc := cX5_homeOf) (maxL := 3) (ret := (some .int)) (by decide) rfl ?_
  intro p e s m args below meth c s₁ B hml hv
  obtain ⟨rfl, hsz, hP, hK, hD0⟩ := hv
  have hx := B.exec
  have hb := B.bytes
  have hr := B.returns
  have hts := atoms_spec (ws := (Cond.code yX5_homeOf cX5_homeOf 3 (some .int) :: TB)) B.pre
  have ht : ∀ w ∈ TB, w.before _ s = true := fun w h => hts w (List.mem_cons_of_mem _ h)
  have hown : s.vm.findClass RX5 = some m.cls := findClass_of_methodNamed B.named
  have hlocks := B.notSynchronized
  subst hsz
  have hD := hD0.self (sz := s.heap.size)
  generalize hAe : va_A (mW cI cZ G code off left wr rc mem oth ks vs sx pl ps pk sr tg fl xs) s.heap.size = A at hD ⊢
  have hA : ∀ q : Nat, s.heap.size ≤ q → A q := fun q h => by rw [← hAe]; exact Or.inr h
  have hS : va_S A s.heap s.heap [] := va_S.rf
  have hP : va_P D vwCl (mW cI cZ G code off left wr rc mem oth ks vs sx pl ps pk sr tg fl xs) s.heap := hP
  have hl := lv_entry ([.ref (G 0), .int key]) (n := 3) (Nat.le_of_ble_eq_true rfl)
  rw [lg_entry_eq]
  generalize (lg_sl ([.ref (G 0), .int key]) ++ List.replicate (3 - (lg_sl ([.ref (G 0), .int key])).length) Slot.unset).toArray = ls at hl ⊢
  have hl : lv_has ls 3 [(0, .ref (G 0)), (1, .int key)] := hl
  refine lv_aload_n hx hb dX5_homeOf_0 rfl (lv_at hl 0 rfl) ?_
  refine lv_iload_n hx hb dX5_homeOf_1 rfl (lv_at hl 1 rfl) ?_
  have hPc := hP.sub (ws' := mW cI cZ G code off left wr rc mem oth ks vs sx pl ps pk sr tg fl xs) [0, 1, 2, 3, 4, 5, 6, 7, 8, 9, 10] rfl
  have hDc := hD.sub (ws' := mW cI cZ G code off left wr rc mem oth ks vs sx pl ps pk sr tg fl xs) [0, 1, 2, 3, 4, 5, 6, 7, 8, 9, 10] (by decide) rfl
  have hFc := va_free (wc := mW cI cZ G code off left wr rc mem oth ks vs sx pl ps pk sr tg fl xs) hD hS hA [0, 1, 2, 3, 4, 5, 6, 7, 8, 9, 10] rfl
  refine va_calli (va_runV (As := [.int key]) (rest := []) ⟨hx, hb, hml, hown, ht⟩ (c_X5_planned l D cI cZ cS cJ s.heap.size G code off left wr rc mem oth ks vs sx pl ps pk sr tg fl xs rows F Gn C hrp hsr hpl key) (xwV 1 ht kw3_164 kw3_161 kw1_11 kw3_163 kwS_27 rfl rfl (by decide +kernel) ⟨Nat.le_of_ble_eq_true rfl, Nat.le_of_ble_eq_true rfl⟩) ⟨PB.blind, va_recv hK hPc (ci := 5) (q0 := 0) rfl rfl, fun U hU hW => PB.mk hU hW hPc hK hDc⟩ rfl rfl hl.1 rfl (lv_room (Nat.le_of_ble_eq_true rfl)) dX5_homeOf_2 ⟨Nat.le_of_ble_eq_true rfl, Nat.le_of_ble_eq_true rfl⟩) hS (fun q _ h => hFc q h) hFc (fun r2 u2 t2 H1 locs ht1 hvm w2 hB hz1 hk1 hS => ?_)
  try dsimp only at w2 hB
  rw [ht1] at hB
  have hP := wk_ro hP hD [0, 1, 2, 3, 4, 5, 6, 7, 8, 9, 10] rfl hk1 hB
  generalize H1 = H at hP hS ⊢
  refine lv_istore_n (lv' := [(2, .int r2), (0, .ref (G 0)), (1, .int key)]) hx hb dX5_homeOf_5 rfl hl (by decide) rfl (fun ls hl => ?_)
  refine lv_iload_n hx hb dX5_homeOf_6 rfl (lv_at hl 0 rfl) ?_
  refine lv_if_lt (tgt := 39) hx hb dX5_homeOf_7 (by decide) (fun c7 => ?_) (fun c7 => ?_)
  · refine lv_aload_n hx hb dX5_homeOf_39 rfl (lv_at hl 1 rfl) ?_
    refine va_get (D := D) (ci := 5) (v := .ref (G 1)) (C := RX5) (T := TX5) (N := 17) hx hb ht inX5 hown hK hP 0 rfl rfl 5 (by decide) (ht _ kw3_85) (fun _ h9 => h9) rfl dX5_homeOf_40 ?_
    refine lv_iload_n hx hb dX5_homeOf_43 rfl (lv_at hl 2 rfl) ?_
    have hPc := hP.sub (ws' := [((G 1), .inl (cI, 8, .inl mem))]) [1] rfl
    have hDc := hD.sub (ws' := [((G 1), .inl (cI, 8, .inl mem))]) [1] (by decide) rfl
    have hFc := va_free (wc := [((G 1), .inl (cI, 8, .inl mem))]) hD hS hA [1] rfl
    refine va_calli (va_runS (As := [.ref (G 1), .int key]) (rest := []) ⟨hx, hb, hml, hown, ht⟩ (c_X5_ownerOf l D cI cZ cS cJ H.size (G 1) mem mm hmm hM key) (xwS 2 ht kw3_167 kw3_165 kw1_11 kw3_166 rfl rfl (by decide +kernel) ⟨Nat.le_of_ble_eq_true rfl, Nat.le_of_ble_eq_true rfl⟩) ⟨PB.blind, fun U hU hW => PB.mk hU hW hPc hK hDc⟩ rfl rfl hl.1 rfl (lv_room (Nat.le_of_ble_eq_true rfl)) dX5_homeOf_44 ⟨Nat.le_of_ble_eq_true rfl, Nat.le_of_ble_eq_true rfl⟩) hS (fun q _ h => hFc q h) hFc (fun r44 u44 t44 H1 locs ht1 hvm w44 hB hz1 hk1 hS => ?_)
    try dsimp only at w44 hB
    rw [ht1] at hB
    have hP := wk_ro hP hD [1] rfl hk1 hB
    generalize H1 = H at hP hS ⊢
    exact W.iret (v := r44) hx hb hr (fun t ht2 hW => ⟨⟨r44, (), rfl, by
          (try dsimp only)
          rw [w44]; unfold homeF
          rw [if_neg (fun z => by rw [w2, rowI, if_pos z.1] at c7; exact nI_neg (o := 0) (by decide) (show nI 0 < 0 from absurd c7 (nI_pos (by have := hrp.le; have := (pin_iff.mp z.1).1; omega))))], by (try dsimp only); rw [ht2]; exact hP⟩, hS.F ht2⟩) hS.2.2 dX5_homeOf_47
  · have hpin : pin rows key = true := by
      rcases Bool.eq_false_or_eq_true (pin rows key) with q | q
      · exact q
      · exact absurd (by rw [w2, rowI, if_neg (by rw [q]; decide)]; decide) c7
    have hk := (pin_iff.mp hpin).1
    have hle := hrp.le
    have hrI : rowI rows key = nI (prow rows key) := if_pos hpin
    refine lv_aload_n hx hb dX5_homeOf_10 rfl (lv_at hl 1 rfl) ?_
    refine va_get (D := D) (ci := 5) (v := .ref (G 10)) (C := RX5) (T := TX5) (N := 17) hx hb ht inX5 hown hK hP 0 rfl rfl 16 (by decide) (ht _ kw3_96) (fun _ h9 => h9) rfl dX5_homeOf_11 ?_
    refine lv_iload_n hx hb dX5_homeOf_14 rfl (lv_at hl 0 rfl) ?_
    refine ya_iald hx hb hK hP 10 0 rfl rfl (prow rows key) (by rw [w2, hrI]) (by omega) (by decide) dX5_homeOf_15 ?_
    refine lv_iconst (v := 1) hx hb dX5_homeOf_16 (by decide) ?_
    refine lv_icmp_eq (tgt := 30) hx hb dX5_homeOf_17 (by decide) (fun c17 => ?_) (fun c17 => ?_)
    · refine lv_aload_n hx hb dX5_homeOf_30 rfl (lv_at hl 1 rfl) ?_
      refine va_get (D := D) (ci := 5) (v := .ref (G 7)) (C := RX5) (T := TX5) (N := 17) hx hb ht inX5 hown hK hP 0 rfl rfl 13 (by decide) (ht _ kw3_93) (fun _ h9 => h9) rfl dX5_homeOf_31 ?_
      refine lv_iload_n hx hb dX5_homeOf_34 rfl (lv_at hl 0 rfl) ?_
      refine ya_iald hx hb hK hP 7 0 rfl rfl (prow rows key) (by rw [w2, hrI]) (by omega) (by decide) dX5_homeOf_35 ?_
      refine lv_goto (tgt := 47) hx hb dX5_homeOf_36 (by decide) ?_
      exact W.iret (v := sr (prow rows key)) hx hb hr (fun t ht2 hW => ⟨⟨sr (prow rows key), (), rfl, by
            (try dsimp only)
            have hF : F ≤ prow rows key := sta_12.mp (by rw [← hrp.x (C := C) (Gn := Gn) hk]; first | exact Or.inl c17 | exact Or.inr c27)
            rw [hrp.s hk]; unfold homeF; rw [if_pos ⟨hpin, hF⟩], by (try dsimp only); rw [ht2]; exact hP⟩, hS.F ht2⟩) hS.2.2 dX5_homeOf_47
    · refine lv_aload_n hx hb dX5_homeOf_20 rfl (lv_at hl 1 rfl) ?_
      refine va_get (D := D) (ci := 5) (v := .ref (G 10)) (C := RX5) (T := TX5) (N := 17) hx hb ht inX5 hown hK hP 0 rfl rfl 16 (by decide) (ht _ kw3_96) (fun _ h9 => h9) rfl dX5_homeOf_21 ?_
      refine lv_iload_n hx hb dX5_homeOf_24 rfl (lv_at hl 0 rfl) ?_
      refine ya_iald hx hb hK hP 10 0 rfl rfl (prow rows key) (by rw [w2, hrI]) (by omega) (by decide) dX5_homeOf_25 ?_
      refine lv_iconst (v := 2) hx hb dX5_homeOf_26 (by decide) ?_
      refine lv_icmp_ne (tgt := 39) hx hb dX5_homeOf_27 (by decide) (fun c27 => ?_) (fun c27 => ?_)
      · refine lv_aload_n hx hb dX5_homeOf_39 rfl (lv_at hl 1 rfl) ?_
        refine va_get (D := D) (ci := 5) (v := .ref (G 1)) (C := RX5) (T := TX5) (N := 17) hx hb ht inX5 hown hK hP 0 rfl rfl 5 (by decide) (ht _ kw3_85) (fun _ h9 => h9) rfl dX5_homeOf_40 ?_
        refine lv_iload_n hx hb dX5_homeOf_43 rfl (lv_at hl 2 rfl) ?_
        have hPc := hP.sub (ws' := [((G 1), .inl (cI, 8, .inl mem))]) [1] rfl
        have hDc := hD.sub (ws' := [((G 1), .inl (cI, 8, .inl mem))]) [1] (by decide) rfl
        have hFc := va_free (wc := [((G 1), .inl (cI, 8, .inl mem))]) hD hS hA [1] rfl
        refine va_calli (va_runS (As := [.ref (G 1), .int key]) (rest := []) ⟨hx, hb, hml, hown, ht⟩ (c_X5_ownerOf l D cI cZ cS cJ H.size (G 1) mem mm hmm hM key) (xwS 2 ht kw3_167 kw3_165 kw1_11 kw3_166 rfl rfl (by decide +kernel) ⟨Nat.le_of_ble_eq_true rfl, Nat.le_of_ble_eq_true rfl⟩) ⟨PB.blind, fun U hU hW => PB.mk hU hW hPc hK hDc⟩ rfl rfl hl.1 rfl (lv_room (Nat.le_of_ble_eq_true rfl)) dX5_homeOf_44 ⟨Nat.le_of_ble_eq_true rfl, Nat.le_of_ble_eq_true rfl⟩) hS (fun q _ h => hFc q h) hFc (fun r44 u44 t44 H1 locs ht1 hvm w44 hB hz1 hk1 hS => ?_)
        try dsimp only at w44 hB
        rw [ht1] at hB
        have hP := wk_ro hP hD [1] rfl hk1 hB
        generalize H1 = H at hP hS ⊢
        exact W.iret (v := r44) hx hb hr (fun t ht2 hW => ⟨⟨r44, (), rfl, by
              (try dsimp only)
              rw [w44]; unfold homeF
              rw [if_neg (fun z => (sta_12.mpr z.2).elim (fun q => c17 (by rw [hrp.x hk]; exact q)) (fun q => c27 (by rw [hrp.x hk]; exact q)))], by (try dsimp only); rw [ht2]; exact hP⟩, hS.F ht2⟩) hS.2.2 dX5_homeOf_47
      · refine lv_aload_n hx hb dX5_homeOf_30 rfl (lv_at hl 1 rfl) ?_
        refine va_get (D := D) (ci := 5) (v := .ref (G 7)) (C := RX5) (T := TX5) (N := 17) hx hb ht inX5 hown hK hP 0 rfl rfl 13 (by decide) (ht _ kw3_93) (fun _ h9 => h9) rfl dX5_homeOf_31 ?_
        refine lv_iload_n hx hb dX5_homeOf_34 rfl (lv_at hl 0 rfl) ?_
        refine ya_iald hx hb hK hP 7 0 rfl rfl (prow rows key) (by rw [w2, hrI]) (by omega) (by decide) dX5_homeOf_35 ?_
        refine lv_goto (tgt := 47) hx hb dX5_homeOf_36 (by decide) ?_
        exact W.iret (v := sr (prow rows key)) hx hb hr (fun t ht2 hW => ⟨⟨sr (prow rows key), (), rfl, by
              (try dsimp only)
              have hF : F ≤ prow rows key := sta_12.mp (by rw [← hrp.x (C := C) (Gn := Gn) hk]; first | exact Or.inl c17 | exact Or.inr c27)
              rw [hrp.s hk]; unfold homeF; rw [if_pos ⟨hpin, hF⟩], by (try dsimp only); rw [ht2]; exact hP⟩, hS.F ht2⟩) hS.2.2 dX5_homeOf_47

set_option maxHeartbeats 4000000 in
set_option maxRecDepth 100000 in
theorem c_X5_isThere (l : Launch) (D : va_G) (cI cZ cS cJ : ClassId) (sz : Nat) (G : Nat → Nat) (code off left wr rc : Int32) (mem oth ks vs sx : Nat → Int32) (pl ps : Int32) (pk sr tg fl xs : Nat → Int32) (st : Nat → List (Int32 × Int32)) (hst : RS st ks vs sx) (rows : List (Int32 × Nat × Nat)) (F Gn : Nat) (C : Bool) (hrp : RP rows F Gn C ps pk sr tg fl xs) (hsr : Srt (pkl rows)) (hpl : pl = 1 ∨ (pl = 0 ∧ rows = [])) (mm : Nat → Nat) (hmm : ∀ n, n < 8 → mem n = nI (mm n)) (hM : MM mm) (hp8 : P8 rows) (key : Int32) : Met l yX5_isThere (Cond.code yX5_isThere cX5_isThere 2 (some .boolean) :: TB) ({ frames := 4, cells := 0, slots := 0, locals := 95 } : Room) (va_Pc [.ref (G 0), .int key] (PB D (KT cI cZ cS cJ) (mW cI cZ G code off left wr rc mem oth ks vs sx pl ps pk sr tg fl xs) sz)) (va_Qi (fun r (_ : Unit) => r = if hs (st (homeF mm rows F key)) key then 1 else 0) (fun (_ : Unit) t => va_P D vwCl (mW cI cZ G code off left wr rc mem oth ks vs sx pl ps pk sr tg fl xs) t.heap) (va_A (mW cI cZ G code off left wr rc mem oth ks vs sx pl ps pk sr tg fl xs) sz)) 0 0 (va_A (mW cI cZ G code off left wr rc mem oth ks vs sx pl ps pk sr tg fl xs) sz) := by
  refine Met.ofW (cc := cX5_isThere) (maxL := 2) (ret := (some .boolean)) (by decide) rfl ?_
  intro p e s m args below meth c s₁ B hml hv
  obtain ⟨rfl, hsz, hP, hK, hD0⟩ := hv
  have hx := B.exec
  have hb := B.bytes
  have hr := B.returns
  have hts := atoms_spec (ws := (Cond.code yX5_isThere cX5_isThere 2 (some .boolean) :: TB)) B.pre
  have ht : ∀ w ∈ TB, w.before _ s = true := fun w h => hts w (List.mem_cons_of_mem _ h)
  have hown : s.vm.findClass RX5 = some m.cls := findClass_of_methodNamed B.named
  have hlocks := B.notSynchronized
  subst hsz
  have hD := hD0.self (sz := s.heap.size)
  generalize hAe : va_A (mW cI cZ G code off left wr rc mem oth ks vs sx pl ps pk sr tg fl xs) s.heap.size = A at hD ⊢
  have hA : ∀ q : Nat, s.heap.size ≤ q → A q := fun q h => by rw [← hAe]; exact Or.inr h
  have hS : va_S A s.heap s.heap [] := va_S.rf
  have hP : va_P D vwCl (mW cI cZ G code off left wr rc mem oth ks vs sx pl ps pk sr tg fl xs) s.heap := hP
  have hl := lv_entry ([.ref (G 0), .int key]) (n := 2) (Nat.le_of_ble_eq_true rfl)
  rw [lg_entry_eq]
  generalize (lg_sl ([.ref (G 0), .int key]) ++ List.replicate (2 - (lg_sl ([.ref (G 0), .int key])).length) Slot.unset).toArray = ls at hl ⊢
  have hl : lv_has ls 2 [(0, .ref (G 0)), (1, .int key)] := hl
  refine lv_aload_n hx hb dX5_isThere_0 rfl (lv_at hl 0 rfl) ?_
  refine lv_aload_n hx hb dX5_isThere_1 rfl (lv_at hl 0 rfl) ?_
  refine lv_iload_n hx hb dX5_isThere_2 rfl (lv_at hl 1 rfl) ?_
  have hPc := hP.sub (ws' := mW cI cZ G code off left wr rc mem oth ks vs sx pl ps pk sr tg fl xs) [0, 1, 2, 3, 4, 5, 6, 7, 8, 9, 10] rfl
  have hDc := hD.sub (ws' := mW cI cZ G code off left wr rc mem oth ks vs sx pl ps pk sr tg fl xs) [0, 1, 2, 3, 4, 5, 6, 7, 8, 9, 10] (by decide) rfl
  have hFc := va_free (wc := mW cI cZ G code off left wr rc mem oth ks vs sx pl ps pk sr tg fl xs) hD hS hA [0, 1, 2, 3, 4, 5, 6, 7, 8, 9, 10] rfl
  refine va_calli (va_runV (As := [.int key]) (rest := [.ref (G 0)]) ⟨hx, hb, hml, hown, ht⟩ (c_X5_homeOf l D cI cZ cS cJ s.heap.size G code off left wr rc mem oth ks vs sx pl ps pk sr tg fl xs rows F Gn C hrp hsr hpl mm hmm hM key) (xwV 1 ht kw3_160 kw3_157 kw1_11 kw3_159 kwS_26 rfl rfl (by decide +kernel) ⟨Nat.le_of_ble_eq_true rfl, Nat.le_of_ble_eq_true rfl⟩) ⟨PB.blind, va_recv hK hPc (ci := 5) (q0 := 0) rfl rfl, fun U hU hW => PB.mk hU hW hPc hK hDc⟩ rfl rfl hl.1 rfl (lv_room (Nat.le_of_ble_eq_true rfl)) dX5_isThere_3 ⟨Nat.le_of_ble_eq_true rfl, Nat.le_of_ble_eq_true rfl⟩) hS (fun q _ h => hFc q h) hFc (fun r3 u3 t3 H1 locs ht1 hvm w3 hB hz1 hk1 hS => ?_)
  try dsimp only at w3 hB
  rw [ht1] at hB
  have hP := wk_ro hP hD [0, 1, 2, 3, 4, 5, 6, 7, 8, 9, 10] rfl hk1 hB
  generalize H1 = H at hP hS ⊢
  subst w3
  have h8 := homeF_lt (F := F) (key := key) hM hp8
  refine lv_iload_n hx hb dX5_isThere_6 rfl (lv_at hl 1 rfl) ?_
  have hPc := hP.sub (ws' := mW cI cZ G code off left wr rc mem oth ks vs sx pl ps pk sr tg fl xs) [0, 1, 2, 3, 4, 5, 6, 7, 8, 9, 10] rfl
  have hDc := hD.sub (ws' := mW cI cZ G code off left wr rc mem oth ks vs sx pl ps pk sr tg fl xs) [0, 1, 2, 3, 4, 5, 6, 7, 8, 9, 10] (by decide) rfl
  have hFc := va_free (wc := mW cI cZ G code off left wr rc mem oth ks vs sx pl ps pk sr tg fl xs) hD hS hA [0, 1, 2, 3, 4, 5, 6, 7, 8, 9, 10] rfl
  refine va_calli (va_runV (As := [.int (nI (homeF mm rows F key)), .int key]) (rest := []) ⟨hx, hb, hml, hown, ht⟩ (c_X5_has l D cI cZ cS cJ H.size G code off left wr rc mem oth ks vs sx pl ps pk sr tg fl xs st hst (homeF mm rows F key) h8 key) (xwV 2 ht kw3_176 kw3_173 kw1_11 kw3_175 kwS_28 rfl rfl (by decide +kernel) ⟨Nat.le_of_ble_eq_true rfl, Nat.le_of_ble_eq_true rfl⟩) ⟨PB.blind, va_recv hK hPc (ci := 5) (q0 := 0) rfl rfl, fun U hU hW => PB.mk hU hW hPc hK hDc⟩ rfl rfl hl.1 rfl (lv_room (Nat.le_of_ble_eq_true rfl)) dX5_isThere_7 ⟨Nat.le_of_ble_eq_true rfl, Nat.le_of_ble_eq_true rfl⟩) hS (fun q _ h => hFc q h) hFc (fun r7 u7 t7 H1 locs ht1 hvm w7 hB hz1 hk1 hS => ?_)
  try dsimp only at w7 hB
  rw [ht1] at hB
  have hP := wk_ro hP hD [0, 1, 2, 3, 4, 5, 6, 7, 8, 9, 10] rfl hk1 hB
  generalize H1 = H at hP hS ⊢
  exact W.zret (v := r7) hx hb hr (by rw [w7]; split <;> decide +kernel) (fun t ht2 hW => ⟨⟨r7, (), rfl, w7, by (try dsimp only); rw [ht2]; exact hP⟩, hS.F ht2⟩) hS.2.2 dX5_isThere_10

set_option maxHeartbeats 4000000 in
set_option maxRecDepth 100000 in
theorem c_X5_there (l : Launch) (D : va_G) (cI cZ cS cJ : ClassId) (sz : Nat) (G : Nat → Nat) (code off left wr rc : Int32) (mem oth ks vs sx : Nat → Int32) (pl ps : Int32) (pk sr tg fl xs : Nat → Int32) (st : Nat → List (Int32 × Int32)) (hst : RS st ks vs sx) (rows : List (Int32 × Nat × Nat)) (F Gn : Nat) (C : Bool) (hrp : RP rows F Gn C ps pk sr tg fl xs) (hsr : Srt (pkl rows)) (hpl : pl = 1 ∨ (pl = 0 ∧ rows = [])) (mm : Nat → Nat) (hmm : ∀ n, n < 8 → mem n = nI (mm n)) (hM : MM mm) (hp8 : P8 rows) : Met l yX5_there (Cond.code yX5_there cX5_there 4 (some .int) :: TB) ({ frames := 4, cells := 0, slots := 0, locals := 95 } : Room) (va_Pc [.ref (G 0)] (PB D (KT cI cZ cS cJ) (mW cI cZ G code off left wr rc mem oth ks vs sx pl ps pk sr tg fl xs) sz)) (va_Qi (fun r (_ : Unit) => r = nI (thF st (homeF mm rows F))) (fun (_ : Unit) t => va_P D vwCl (mW cI cZ G code off left wr rc mem oth ks vs sx pl ps pk sr tg fl xs) t.heap) (va_A (mW cI cZ G code off left wr rc mem oth ks vs sx pl ps pk sr tg fl xs) sz)) 0 0 (va_A (mW cI cZ G code off left wr rc mem oth ks vs sx pl ps pk sr tg fl xs) sz) := by
  refine Met.ofW (cc := cX5_there) (maxL := 4) (ret := (some .int)) (by decide) rfl ?_
  intro p e s m args below meth c s₁ B hml hv
  obtain ⟨rfl, hsz, hP, hK, hD0⟩ := hv
  have hx := B.exec
  have hb := B.bytes
  have hr := B.returns
  have hts := atoms_spec (ws := (Cond.code yX5_there cX5_there 4 (some .int) :: TB)) B.pre
  have ht : ∀ w ∈ TB, w.before _ s = true := fun w h => hts w (List.mem_cons_of_mem _ h)
  have hown : s.vm.findClass RX5 = some m.cls := findClass_of_methodNamed B.named
  have hlocks := B.notSynchronized
  subst hsz
  have hD := hD0.self (sz := s.heap.size)
  generalize hAe : va_A (mW cI cZ G code off left wr rc mem oth ks vs sx pl ps pk sr tg fl xs) s.heap.size = A at hD ⊢
  have hA : ∀ q : Nat, s.heap.size ≤ q → A q := fun q h => by rw [← hAe]; exact Or.inr h
  have hS : va_S A s.heap s.heap [] := va_S.rf
  have hP : va_P D vwCl (mW cI cZ G code off left wr rc mem oth ks vs sx pl ps pk sr tg fl xs) s.heap := hP
  have hl := lv_entry ([.ref (G 0)]) (n := 4) (Nat.le_of_ble_eq_true rfl)
  rw [lg_entry_eq]
  generalize (lg_sl ([.ref (G 0)]) ++ List.replicate (4 - (lg_sl ([.ref (G 0)])).length) Slot.unset).toArray = ls at hl ⊢
  have hl : lv_has ls 4 [(0, .ref (G 0))] := hl
  refine lv_iconst (v := 0) hx hb dX5_there_0 (by decide) ?_
  refine lv_istore_n (lv' := [(1, .int 0), (0, .ref (G 0))]) hx hb dX5_there_1 rfl hl (by decide) rfl (fun ls hl => ?_)
  refine lv_iconst (v := 0) hx hb dX5_there_2 (by decide) ?_
  refine lv_istore_n (lv' := [(2, .int 0), (1, .int 0), (0, .ref (G 0))]) hx hb dX5_there_3 rfl hl (by decide) rfl (fun ls hl => ?_)
  refine lpB (pc := 4) (ι := Nat × Int32) (fun z H locs k9 n9 ls => lv_has ls 4 [(2, .int (nI z.1)), (1, .int z.2), (0, .ref (G 0))] ∧ va_P D vwCl (mW cI cZ G code off left wr rc mem oth ks vs sx pl ps pk sr tg fl xs) H ∧ va_D A (mW cI cZ G code off left wr rc mem oth ks vs sx pl ps pk sr tg fl xs) ∧ va_S A s.heap H locs ∧ k9 = 0 ∧ n9 = 0 ∧ z.1 ≤ 8 ∧ z.2 = nI (sumN (thN st (homeF mm rows F)) z.1)) (fun z => 8 - z.1) (0, 0) (⟨lv_sub hl [0, 1, 2] rfl, by exact hP, by exact hD, hS, rfl, rfl, ⟨by omega, rfl⟩⟩) ?_
  intro z H locs k9 n9 ls hI ih4
  obtain ⟨n, acc⟩ := z
  obtain ⟨hl, hP, hD, hS, e9, e8, hinv⟩ := hI
  subst e9
  subst e8
  have hP : va_P D vwCl (mW cI cZ G code off left wr rc mem oth ks vs sx pl ps pk sr tg fl xs) H := hP
  have hD : va_D A (mW cI cZ G code off left wr rc mem oth ks vs sx pl ps pk sr tg fl xs) := hD
  have hl : lv_has ls 4 [(2, .int (nI n)), (1, .int acc), (0, .ref (G 0))] := hl
  obtain ⟨hn8, hacc⟩ : n ≤ 8 ∧ acc = nI (sumN (thN st (homeF mm rows F)) n) := hinv
  refine lv_iload_n hx hb dX5_there_4 rfl (lv_at hl 0 rfl) ?_
  refine lv_bipush (v := 8) hx hb dX5_there_5 (by decide) ?_
  refine lv_icmp_ge (tgt := 62) hx hb dX5_there_7 (by decide) (fun c7 => ?_) (fun c7 => ?_)
  · have hn9 : n = 8 := by
      rcases Nat.lt_or_ge n 8 with q | q
      · exact absurd c7 (show ¬ nI 8 ≤ nI n from nI_ge q (by decide))
      · omega
    subst hn9
    refine lv_iload_n hx hb dX5_there_62 rfl (lv_at hl 1 rfl) ?_
    exact W.iret (v := acc) hx hb hr (fun t ht2 hW => ⟨⟨acc, (), rfl, hacc, by (try dsimp only); rw [ht2]; exact hP⟩, hS.F ht2⟩) hS.2.2 dX5_there_63
  · have hn : n < 8 := by
      rcases Nat.lt_or_ge n 8 with q | q
      · exact q
      · exact absurd (show nI 8 ≤ nI n from nI_le q (by omega)) c7
    refine lv_iconst (v := 0) hx hb dX5_there_10 (by decide) ?_
    refine lv_istore_n (lv' := [(3, .int 0), (2, .int (nI n)), (1, .int acc), (0, .ref (G 0))]) hx hb dX5_there_11 rfl hl (by decide) rfl (fun ls hl => ?_)
    refine lpB (pc := 12) (ι := Nat × Int32) (fun z H locs k9 n9 ls => lv_has ls 4 [(3, .int (nI z.1)), (2, .int (nI n)), (1, .int z.2), (0, .ref (G 0))] ∧ va_P D vwCl (mW cI cZ G code off left wr rc mem oth ks vs sx pl ps pk sr tg fl xs) H ∧ va_D A (mW cI cZ G code off left wr rc mem oth ks vs sx pl ps pk sr tg fl xs) ∧ va_S A s.heap H locs ∧ k9 = 0 ∧ n9 = 0 ∧ z.1 ≤ (st n).length ∧ z.2 = nI (sumN (thN st (homeF mm rows F)) n + ((st n).take z.1).countP (fun e => decide (homeF mm rows F e.1 = n)))) (fun z => (st n).length - z.1) (0, acc) (⟨lv_sub hl [0, 1, 2, 3] rfl, by exact hP, by exact hD, hS, rfl, rfl, ⟨Nat.zero_le _, by rw [List.take_zero, List.countP_nil]; exact hacc⟩⟩) ?_
    intro z H locs k9 n9 ls hI ih12
    obtain ⟨k, acc⟩ := z
    obtain ⟨hl, hP, hD, hS, e9, e8, hinv⟩ := hI
    subst e9
    subst e8
    have hP : va_P D vwCl (mW cI cZ G code off left wr rc mem oth ks vs sx pl ps pk sr tg fl xs) H := hP
    have hD : va_D A (mW cI cZ G code off left wr rc mem oth ks vs sx pl ps pk sr tg fl xs) := hD
    have hl : lv_has ls 4 [(3, .int (nI k)), (2, .int (nI n)), (1, .int acc), (0, .ref (G 0))] := hl
    obtain ⟨hkl, hacc⟩ : k ≤ (st n).length ∧ acc = nI (sumN (thN st (homeF mm rows F)) n + ((st n).take k).countP (fun e => decide (homeF mm rows F e.1 = n))) := hinv
    have hsz := hst.at hn
    have hle := hst.le hn
    refine lv_iload_n hx hb dX5_there_12 rfl (lv_at hl 0 rfl) ?_
    refine lv_aload_n hx hb dX5_there_13 rfl (lv_at hl 3 rfl) ?_
    refine va_get (D := D) (ci := 5) (v := .ref (G 5)) (C := RX5) (T := TX5) (N := 17) hx hb ht inX5 hown hK hP 0 rfl rfl 9 (by decide) (ht _ kw3_89) (fun _ h9 => h9) rfl dX5_there_14 ?_
    refine lv_iload_n hx hb dX5_there_17 rfl (lv_at hl 1 rfl) ?_
    refine ya_iald hx hb hK hP 5 0 rfl rfl n (rfl) (hn) (by decide) dX5_there_18 ?_
    refine lv_icmp_ge (tgt := 56) hx hb dX5_there_19 (by decide) (fun c19 => ?_) (fun c19 => ?_)
    · have hke : k = (st n).length := by
        rcases Nat.lt_or_ge k (st n).length with q | q
        · rw [hsz] at c19; exact absurd c19 (nI_ge q (by omega))
        · omega
      refine lv_iinc (v := nI (n + 1)) (lv' := [(2, .int (nI (n + 1))), (3, .int (nI k)), (1, .int acc), (0, .ref (G 0))]) hx hb dX5_there_56 hl (k := 1) rfl (by exact nI_1 n) (by decide) rfl (fun ls hl => ?_)
      refine lv_goto (tgt := 4) hx hb dX5_there_59 (by decide) ?_
      exact ih4 (n + 1, acc) _ _ _ _ ls (⟨lv_sub hl [0, 2, 3] rfl, by exact hP, by exact hD, hS, rfl, rfl, ⟨by omega, by rw [hacc, hke, List.take_length]; rfl⟩⟩) (by show _ - (n + 1) < _ - n; omega)
    · have hk : k < (st n).length := by
        rcases Nat.lt_or_ge k (st n).length with q | q
        · exact q
        · exact absurd (by rw [hsz]; exact nI_le q (by omega)) c19
      refine lv_aload_n hx hb dX5_there_22 rfl (lv_at hl 3 rfl) ?_
      refine lv_aload_n hx hb dX5_there_23 rfl (lv_at hl 3 rfl) ?_
      refine va_get (D := D) (ci := 5) (v := .ref (G 3)) (C := RX5) (T := TX5) (N := 17) hx hb ht inX5 hown hK hP 0 rfl rfl 7 (by decide) (ht _ kw3_87) (fun _ h9 => h9) rfl dX5_there_24 ?_
      refine lv_sipush (v := 1024) hx hb dX5_there_27 (by decide) ?_
      refine lv_iload_n hx hb dX5_there_30 rfl (lv_at hl 1 rfl) ?_
      refine lv_imul hx hb dX5_there_31 ?_
      refine lv_iload_n hx hb dX5_there_32 rfl (lv_at hl 0 rfl) ?_
      refine lv_iadd hx hb dX5_there_33 ?_
      refine ya_iald hx hb hK hP 3 0 rfl rfl (1024 * n + k) (ixA _ _) (by omega) (by decide) dX5_there_34 ?_
      have hPc := hP.sub (ws' := mW cI cZ G code off left wr rc mem oth ks vs sx pl ps pk sr tg fl xs) [0, 1, 2, 3, 4, 5, 6, 7, 8, 9, 10] rfl
      have hDc := hD.sub (ws' := mW cI cZ G code off left wr rc mem oth ks vs sx pl ps pk sr tg fl xs) [0, 1, 2, 3, 4, 5, 6, 7, 8, 9, 10] (by decide) rfl
      have hFc := va_free (wc := mW cI cZ G code off left wr rc mem oth ks vs sx pl ps pk sr tg fl xs) hD hS hA [0, 1, 2, 3, 4, 5, 6, 7, 8, 9, 10] rfl
      refine va_calli (va_runV (As := [.int (ks (1024 * n + k))]) (rest := []) ⟨hx, hb, hml, hown, ht⟩ (c_X5_homeOf l D cI cZ cS cJ H.size G code off left wr rc mem oth ks vs sx pl ps pk sr tg fl xs rows F Gn C hrp hsr hpl mm hmm hM (ks (1024 * n + k))) (xwV 1 ht kw3_160 kw3_157 kw1_11 kw3_159 kwS_26 rfl rfl (by decide +kernel) ⟨Nat.le_of_ble_eq_true rfl, Nat.le_of_ble_eq_true rfl⟩) ⟨PB.blind, va_recv hK hPc (ci := 5) (q0 := 0) rfl rfl, fun U hU hW => PB.mk hU hW hPc hK hDc⟩ rfl rfl hl.1 rfl (lv_room (Nat.le_of_ble_eq_true rfl)) dX5_there_35 ⟨Nat.le_of_ble_eq_true rfl, Nat.le_of_ble_eq_true rfl⟩) hS (fun q _ h => hFc q h) hFc (fun r35 u35 t35 H1 locs ht1 hvm w35 hB hz1 hk1 hS => ?_)
      try dsimp only at w35 hB
      rw [ht1] at hB
      have hP := wk_ro hP hD [0, 1, 2, 3, 4, 5, 6, 7, 8, 9, 10] rfl hk1 hB
      generalize H1 = H at hP hS ⊢
      have h8 := homeF_lt (F := F) (key := kx (st n) k) hM hp8
      refine lv_iload_n hx hb dX5_there_38 rfl (lv_at hl 1 rfl) ?_
      refine lv_icmp_ne (tgt := 48) hx hb dX5_there_39 (by decide) (fun c39 => ?_) (fun c39 => ?_)
      · refine lv_iload_n hx hb dX5_there_48 rfl (lv_at hl 2 rfl) ?_
        refine lv_istore_n (lv' := [(1, .int acc), (3, .int (nI k)), (2, .int (nI n)), (0, .ref (G 0))]) hx hb dX5_there_49 rfl hl (by decide) rfl (fun ls hl => ?_)
        refine lv_iinc (v := nI (k + 1)) (lv' := [(3, .int (nI (k + 1))), (1, .int acc), (2, .int (nI n)), (0, .ref (G 0))]) hx hb dX5_there_50 hl (k := 1) rfl (by exact nI_1 k) (by decide) rfl (fun ls hl => ?_)
        refine lv_goto (tgt := 12) hx hb dX5_there_53 (by decide) ?_
        exact ih12 (k + 1, acc) _ _ _ _ ls (⟨lv_sub hl [0, 2, 1, 3] rfl, by exact hP, by exact hD, hS, rfl, rfl, ⟨by omega, hacc.trans (congrArg nI (by rw [take_cnt _ _ hk, if_neg (by rw [decide_eq_true_iff]; intro q; exact c39 (by rw [w35, hst.k hn hk]; exact congrArg nI q))]; rfl))⟩⟩) (by show _ - (k + 1) < _ - k; omega)
      · refine lv_iload_n hx hb dX5_there_42 rfl (lv_at hl 2 rfl) ?_
        refine lv_iconst (v := 1) hx hb dX5_there_43 (by decide) ?_
        refine lv_iadd hx hb dX5_there_44 ?_
        refine lv_goto (tgt := 49) hx hb dX5_there_45 (by decide) ?_
        refine lv_istore_n (lv' := [(1, .int (acc + 1)), (3, .int (nI k)), (2, .int (nI n)), (0, .ref (G 0))]) hx hb dX5_there_49 rfl hl (by decide) rfl (fun ls hl => ?_)
        refine lv_iinc (v := nI (k + 1)) (lv' := [(3, .int (nI (k + 1))), (1, .int (acc + 1)), (2, .int (nI n)), (0, .ref (G 0))]) hx hb dX5_there_50 hl (k := 1) rfl (by exact nI_1 k) (by decide) rfl (fun ls hl => ?_)
        refine lv_goto (tgt := 12) hx hb dX5_there_53 (by decide) ?_
        exact ih12 (k + 1, acc + 1) _ _ _ _ ls (⟨lv_sub hl [0, 2, 1, 3] rfl, by exact hP, by exact hD, hS, rfl, rfl, ⟨by omega, (show acc + 1 = _ from by rw [hacc, nI_1]; exact congrArg nI (by rw [take_cnt _ _ hk, if_pos (by rw [decide_eq_true_iff]; rw [w35, hst.k hn hk] at c39; exact (nI_eq (a := homeF mm rows F (kx (st n) k)) (by omega) (by omega)).mp c39)]; rfl))⟩⟩) (by show _ - (k + 1) < _ - k; omega)

set_option maxHeartbeats 4000000 in
set_option maxRecDepth 100000 in
theorem c_X5_noNode (l : Launch) (D : va_G) (cI cZ cS cJ : ClassId) (sz : Nat) (G : Nat → Nat) (code off left wr rc : Int32) (mem oth ks vs sx : Nat → Int32) (pl ps : Int32) (pk sr tg fl xs : Nat → Int32) (node : Int32) : Met l yX5_noNode (Cond.code yX5_noNode cX5_noNode 2 (some .boolean) :: TB) ({ frames := 0, cells := 0, slots := 0, locals := 0 } : Room) (va_Pc [.ref (G 0), .int node] (PB D (KT cI cZ cS cJ) (mW cI cZ G code off left wr rc mem oth ks vs sx pl ps pk sr tg fl xs) sz)) (va_Qi (fun r (_ : Unit) => r = if node < 0 ∨ 8 ≤ node then 1 else 0) (fun (u : Unit) t => va_P D vwCl (mW cI cZ G (if node < 0 ∨ 8 ≤ node then 1 else 0) off left wr rc mem oth ks vs sx pl ps pk sr tg fl xs) t.heap ∧ va_D (va_A (mW cI cZ G code off left wr rc mem oth ks vs sx pl ps pk sr tg fl xs) sz) (mW cI cZ G (if node < 0 ∨ 8 ≤ node then 1 else 0) off left wr rc mem oth ks vs sx pl ps pk sr tg fl xs)) (va_A (mW cI cZ G code off left wr rc mem oth ks vs sx pl ps pk sr tg fl xs) sz)) 0 0 (va_A (mW cI cZ G code off left wr rc mem oth ks vs sx pl ps pk sr tg fl xs) sz) := by
  refine Met.ofW (cc := cX5_noNode) (maxL := 2) (ret := (some .boolean)) (by decide) rfl ?_
  intro p e s m args below meth c s₁ B hml hv
  obtain ⟨rfl, hsz, hP, hK, hD0⟩ := hv
  have hx := B.exec
  have hb := B.bytes
  have hr := B.returns
  have hts := atoms_spec (ws := (Cond.code yX5_noNode cX5_noNode 2 (some .boolean) :: TB)) B.pre
  have ht : ∀ w ∈ TB, w.before _ s = true := fun w h => hts w (List.mem_cons_of_mem _ h)
  have hown : s.vm.findClass RX5 = some m.cls := findClass_of_methodNamed B.named
  have hlocks := B.notSynchronized
  subst hsz
  have hD := hD0.self (sz := s.heap.size)
  generalize hAe : va_A (mW cI cZ G code off left wr rc mem oth ks vs sx pl ps pk sr tg fl xs) s.heap.size = A at hD ⊢
  have hA : ∀ q : Nat, s.heap.size ≤ q → A q := fun q h => by rw [← hAe]; exact Or.inr h
  have hS : va_S A s.heap s.heap [] := va_S.rf
  have hP : va_P D vwCl (mW cI cZ G code off left wr rc mem oth ks vs sx pl ps pk sr tg fl xs) s.heap := hP
  have hl := lv_entry ([.ref (G 0), .int node]) (n := 2) (Nat.le_of_ble_eq_true rfl)
  rw [lg_entry_eq]
  generalize (lg_sl ([.ref (G 0), .int node]) ++ List.replicate (2 - (lg_sl ([.ref (G 0), .int node])).length) Slot.unset).toArray = ls at hl ⊢
  have hl : lv_has ls 2 [(0, .ref (G 0)), (1, .int node)] := hl
  refine lv_aload_n hx hb dX5_noNode_0 rfl (lv_at hl 0 rfl) ?_
  refine lv_iload_n hx hb dX5_noNode_1 rfl (lv_at hl 1 rfl) ?_
  refine lv_if_lt (tgt := 11) hx hb dX5_noNode_2 (by decide) (fun c2 => ?_) (fun c2 => ?_)
  · have e1 : (if node < 0 ∨ 8 ≤ node then (1 : Int32) else 0) = 1 := if_pos (Or.inl c2)
    refine lv_iconst (v := 1) hx hb dX5_noNode_11 (by decide) ?_
    refine lv_goto (tgt := 16) hx hb dX5_noNode_12 (by decide) ?_
    refine va_put (D := D) (ci := 5) (v := .int 1) (ty := .int) (C := RX5) (T := TX5) (N := 17) hx hb ht inX5 tyX5 tyX5_ok nmX5 hown hK hP hD hS 0 rfl rfl 0 (by decide) (ht _ kw3_80) (fun _ h9 => h9) rfl (by decide +kernel) (rfl) rfl (Nat.le_of_ble_eq_true rfl) dX5_noNode_16 (fun H locs hP hD hS => ?_)
    have hP : va_P D vwCl (mW cI cZ G 1 off left wr rc mem oth ks vs sx pl ps pk sr tg fl xs) H := hP
    have hD : va_D A (mW cI cZ G 1 off left wr rc mem oth ks vs sx pl ps pk sr tg fl xs) := hD
    refine lv_aload_n hx hb dX5_noNode_19 rfl (lv_at hl 0 rfl) ?_
    refine va_get (D := D) (ci := 5) (v := .int 1) (C := RX5) (T := TX5) (N := 17) hx hb ht inX5 hown hK hP 0 rfl rfl 0 (by decide) (ht _ kw3_80) (fun _ h9 => h9) rfl dX5_noNode_20 ?_
    refine lv_if_le (tgt := 30) hx hb dX5_noNode_23 (by decide) (fun c23 => ?_) (fun c23 => ?_)
    · refine lv_iconst (v := 0) hx hb dX5_noNode_30 (by decide) ?_
      exact W.zret (v := 0) hx hb hr (by decide +kernel) (fun t ht2 hW => ⟨⟨0, (), rfl, by first | exact e1.symm | exact absurd c23 (by decide), by
            (try dsimp only)
            rw [e1, ht2]
            exact ⟨hP, hD⟩⟩, hS.F ht2⟩) hS.2.2 dX5_noNode_31
    · refine lv_iconst (v := 1) hx hb dX5_noNode_26 (by decide) ?_
      refine lv_goto (tgt := 31) hx hb dX5_noNode_27 (by decide) ?_
      exact W.zret (v := 1) hx hb hr (by decide +kernel) (fun t ht2 hW => ⟨⟨1, (), rfl, by first | exact e1.symm | exact absurd c23 (by decide), by
            (try dsimp only)
            rw [e1, ht2]
            exact ⟨hP, hD⟩⟩, hS.F ht2⟩) hS.2.2 dX5_noNode_31
  · refine lv_iload_n hx hb dX5_noNode_5 rfl (lv_at hl 1 rfl) ?_
    refine lv_bipush (v := 8) hx hb dX5_noNode_6 (by decide) ?_
    refine lv_icmp_lt (tgt := 15) hx hb dX5_noNode_8 (by decide) (fun c8 => ?_) (fun c8 => ?_)
    · have e1 : (if node < 0 ∨ 8 ≤ node then (1 : Int32) else 0) = 0 := if_neg (fun q => q.elim c2 (fun z => absurd c8 (Int32.not_lt.mpr z)))
      refine lv_iconst (v := 0) hx hb dX5_noNode_15 (by decide) ?_
      refine va_put (D := D) (ci := 5) (v := .int 0) (ty := .int) (C := RX5) (T := TX5) (N := 17) hx hb ht inX5 tyX5 tyX5_ok nmX5 hown hK hP hD hS 0 rfl rfl 0 (by decide) (ht _ kw3_80) (fun _ h9 => h9) rfl (by decide +kernel) (rfl) rfl (Nat.le_of_ble_eq_true rfl) dX5_noNode_16 (fun H locs hP hD hS => ?_)
      have hP : va_P D vwCl (mW cI cZ G 0 off left wr rc mem oth ks vs sx pl ps pk sr tg fl xs) H := hP
      have hD : va_D A (mW cI cZ G 0 off left wr rc mem oth ks vs sx pl ps pk sr tg fl xs) := hD
      refine lv_aload_n hx hb dX5_noNode_19 rfl (lv_at hl 0 rfl) ?_
      refine va_get (D := D) (ci := 5) (v := .int 0) (C := RX5) (T := TX5) (N := 17) hx hb ht inX5 hown hK hP 0 rfl rfl 0 (by decide) (ht _ kw3_80) (fun _ h9 => h9) rfl dX5_noNode_20 ?_
      refine lv_if_le (tgt := 30) hx hb dX5_noNode_23 (by decide) (fun c23 => ?_) (fun c23 => ?_)
      · refine lv_iconst (v := 0) hx hb dX5_noNode_30 (by decide) ?_
        exact W.zret (v := 0) hx hb hr (by decide +kernel) (fun t ht2 hW => ⟨⟨0, (), rfl, by first | exact e1.symm | exact absurd c23 (by decide), by
              (try dsimp only)
              rw [e1, ht2]
              exact ⟨hP, hD⟩⟩, hS.F ht2⟩) hS.2.2 dX5_noNode_31
      · refine lv_iconst (v := 1) hx hb dX5_noNode_26 (by decide) ?_
        refine lv_goto (tgt := 31) hx hb dX5_noNode_27 (by decide) ?_
        exact W.zret (v := 1) hx hb hr (by decide +kernel) (fun t ht2 hW => ⟨⟨1, (), rfl, by first | exact e1.symm | exact absurd c23 (by decide), by
              (try dsimp only)
              rw [e1, ht2]
              exact ⟨hP, hD⟩⟩, hS.F ht2⟩) hS.2.2 dX5_noNode_31
    · have e1 : (if node < 0 ∨ 8 ≤ node then (1 : Int32) else 0) = 1 := if_pos (Or.inr (Int32.not_lt.mp c8))
      refine lv_iconst (v := 1) hx hb dX5_noNode_11 (by decide) ?_
      refine lv_goto (tgt := 16) hx hb dX5_noNode_12 (by decide) ?_
      refine va_put (D := D) (ci := 5) (v := .int 1) (ty := .int) (C := RX5) (T := TX5) (N := 17) hx hb ht inX5 tyX5 tyX5_ok nmX5 hown hK hP hD hS 0 rfl rfl 0 (by decide) (ht _ kw3_80) (fun _ h9 => h9) rfl (by decide +kernel) (rfl) rfl (Nat.le_of_ble_eq_true rfl) dX5_noNode_16 (fun H locs hP hD hS => ?_)
      have hP : va_P D vwCl (mW cI cZ G 1 off left wr rc mem oth ks vs sx pl ps pk sr tg fl xs) H := hP
      have hD : va_D A (mW cI cZ G 1 off left wr rc mem oth ks vs sx pl ps pk sr tg fl xs) := hD
      refine lv_aload_n hx hb dX5_noNode_19 rfl (lv_at hl 0 rfl) ?_
      refine va_get (D := D) (ci := 5) (v := .int 1) (C := RX5) (T := TX5) (N := 17) hx hb ht inX5 hown hK hP 0 rfl rfl 0 (by decide) (ht _ kw3_80) (fun _ h9 => h9) rfl dX5_noNode_20 ?_
      refine lv_if_le (tgt := 30) hx hb dX5_noNode_23 (by decide) (fun c23 => ?_) (fun c23 => ?_)
      · refine lv_iconst (v := 0) hx hb dX5_noNode_30 (by decide) ?_
        exact W.zret (v := 0) hx hb hr (by decide +kernel) (fun t ht2 hW => ⟨⟨0, (), rfl, by first | exact e1.symm | exact absurd c23 (by decide), by
              (try dsimp only)
              rw [e1, ht2]
              exact ⟨hP, hD⟩⟩, hS.F ht2⟩) hS.2.2 dX5_noNode_31
      · refine lv_iconst (v := 1) hx hb dX5_noNode_26 (by decide) ?_
        refine lv_goto (tgt := 31) hx hb dX5_noNode_27 (by decide) ?_
        exact W.zret (v := 1) hx hb hr (by decide +kernel) (fun t ht2 hW => ⟨⟨1, (), rfl, by first | exact e1.symm | exact absurd c23 (by decide), by
              (try dsimp only)
              rw [e1, ht2]
              exact ⟨hP, hD⟩⟩, hS.F ht2⟩) hS.2.2 dX5_noNode_31

set_option maxHeartbeats 4000000 in
set_option maxRecDepth 100000 in
theorem c_X5_memberCount (l : Launch) (D : va_G) (cI cZ cS cJ : ClassId) (sz : Nat) (G : Nat → Nat) (code off left wr rc : Int32) (mem oth ks vs sx : Nat → Int32) (pl ps : Int32) (pk sr tg fl xs : Nat → Int32) (mm : Nat → Nat) (hmm : ∀ n, n < 8 → mem n = nI (mm n)) (hM : MM mm) : Met l yX5_memberCount (Cond.code yX5_memberCount cX5_memberCount 3 (some .int) :: TB) ({ frames := 0, cells := 0, slots := 0, locals := 0 } : Room) (va_Pc [.ref (G 0)] (PB D (KT cI cZ cS cJ) (mW cI cZ G code off left wr rc mem oth ks vs sx pl ps pk sr tg fl xs) sz)) (va_Qi (fun r (_ : Unit) => r = nI (sumN (fun i => if 0 < mm i then 1 else 0) 8)) (fun (_ : Unit) t => va_P D vwCl (mW cI cZ G code off left wr rc mem oth ks vs sx pl ps pk sr tg fl xs) t.heap) (va_A (mW cI cZ G code off left wr rc mem oth ks vs sx pl ps pk sr tg fl xs) sz)) 0 0 (va_A (mW cI cZ G code off left wr rc mem oth ks vs sx pl ps pk sr tg fl xs) sz) := by
  refine Met.ofW (cc := cX5_memberCount) (maxL := 3) (ret := (some .int)) (by decide) rfl ?_
  intro p e s m args below meth c s₁ B hml hv
  obtain ⟨rfl, hsz, hP, hK, hD0⟩ := hv
  have hx := B.exec
  have hb := B.bytes
  have hr := B.returns
  have hts := atoms_spec (ws := (Cond.code yX5_memberCount cX5_memberCount 3 (some .int) :: TB)) B.pre
  have ht : ∀ w ∈ TB, w.before _ s = true := fun w h => hts w (List.mem_cons_of_mem _ h)
  have hown : s.vm.findClass RX5 = some m.cls := findClass_of_methodNamed B.named
  have hlocks := B.notSynchronized
  subst hsz
  have hD := hD0.self (sz := s.heap.size)
  generalize hAe : va_A (mW cI cZ G code off left wr rc mem oth ks vs sx pl ps pk sr tg fl xs) s.heap.size = A at hD ⊢
  have hA : ∀ q : Nat, s.heap.size ≤ q → A q := fun q h => by rw [← hAe]; exact Or.inr h
  have hS : va_S A s.heap s.heap [] := va_S.rf
  have hP : va_P D vwCl (mW cI cZ G code off left wr rc mem oth ks vs sx pl ps pk sr tg fl xs) s.heap := hP
  have hl := lv_entry ([.ref (G 0)]) (n := 3) (Nat.le_of_ble_eq_true rfl)
  rw [lg_entry_eq]
  generalize (lg_sl ([.ref (G 0)]) ++ List.replicate (3 - (lg_sl ([.ref (G 0)])).length) Slot.unset).toArray = ls at hl ⊢
  have hl : lv_has ls 3 [(0, .ref (G 0))] := hl
  refine lv_iconst (v := 0) hx hb dX5_memberCount_0 (by decide) ?_
  refine lv_istore_n (lv' := [(1, .int 0), (0, .ref (G 0))]) hx hb dX5_memberCount_1 rfl hl (by decide) rfl (fun ls hl => ?_)
  refine lv_iconst (v := 0) hx hb dX5_memberCount_2 (by decide) ?_
  refine lv_istore_n (lv' := [(2, .int 0), (1, .int 0), (0, .ref (G 0))]) hx hb dX5_memberCount_3 rfl hl (by decide) rfl (fun ls hl => ?_)
  refine lpA (pc := 4) (ι := Nat × Int32) (fun z ls => lv_has ls 3 [(2, .int (nI z.1)), (1, .int z.2), (0, .ref (G 0))] ∧ z.1 ≤ 8 ∧ z.2 = nI (sumN (fun i => if 0 < mm i then 1 else 0) z.1)) (fun z => 8 - z.1) (0, 0) (⟨lv_sub hl [0, 1, 2] rfl, ⟨by omega, rfl⟩⟩) ?_
  intro z ls hI ih4
  obtain ⟨n, acc⟩ := z
  obtain ⟨hl, hinv⟩ := hI
  have hl : lv_has ls 3 [(2, .int (nI n)), (1, .int acc), (0, .ref (G 0))] := hl
  obtain ⟨hn8, hacc⟩ : n ≤ 8 ∧ acc = nI (sumN (fun i => if 0 < mm i then 1 else 0) n) := hinv
  refine lv_iload_n hx hb dX5_memberCount_4 rfl (lv_at hl 0 rfl) ?_
  refine lv_bipush (v := 8) hx hb dX5_memberCount_5 (by decide) ?_
  refine lv_icmp_ge (tgt := 33) hx hb dX5_memberCount_7 (by decide) (fun c7 => ?_) (fun c7 => ?_)
  · have hn9 : n = 8 := by
      rcases Nat.lt_or_ge n 8 with q | q
      · exact absurd c7 (show ¬ nI 8 ≤ nI n from nI_ge q (by decide))
      · omega
    subst hn9
    refine lv_iload_n hx hb dX5_memberCount_33 rfl (lv_at hl 1 rfl) ?_
    exact W.iret (v := acc) hx hb hr (fun t ht2 hW => ⟨⟨acc, (), rfl, hacc, by (try dsimp only); rw [ht2]; exact hP⟩, hS.F ht2⟩) hS.2.2 dX5_memberCount_34
  · have hn : n < 8 := by
      rcases Nat.lt_or_ge n 8 with q | q
      · exact q
      · exact absurd (show nI 8 ≤ nI n from nI_le q (by omega)) c7
    refine lv_aload_n hx hb dX5_memberCount_10 rfl (lv_at hl 2 rfl) ?_
    refine va_get (D := D) (ci := 5) (v := .ref (G 1)) (C := RX5) (T := TX5) (N := 17) hx hb ht inX5 hown hK hP 0 rfl rfl 5 (by decide) (ht _ kw3_85) (fun _ h9 => h9) rfl dX5_memberCount_11 ?_
    refine lv_iload_n hx hb dX5_memberCount_14 rfl (lv_at hl 0 rfl) ?_
    refine ya_iald hx hb hK hP 1 0 rfl rfl n (rfl) (hn) (by decide) dX5_memberCount_15 ?_
    refine lv_if_le (tgt := 25) hx hb dX5_memberCount_16 (by decide) (fun c16 => ?_) (fun c16 => ?_)
    · refine lv_iload_n hx hb dX5_memberCount_25 rfl (lv_at hl 1 rfl) ?_
      refine lv_istore_n (lv' := [(1, .int acc), (2, .int (nI n)), (0, .ref (G 0))]) hx hb dX5_memberCount_26 rfl hl (by decide) rfl (fun ls hl => ?_)
      refine lv_iinc (v := nI (n + 1)) (lv' := [(2, .int (nI (n + 1))), (1, .int acc), (0, .ref (G 0))]) hx hb dX5_memberCount_27 hl (k := 1) rfl (by exact nI_1 n) (by decide) rfl (fun ls hl => ?_)
      refine lv_goto (tgt := 4) hx hb dX5_memberCount_30 (by decide) ?_
      exact ih4 (n + 1, acc) ls (⟨lv_sub hl [0, 1, 2] rfl, ⟨by omega, by rw [hacc]; show _ = nI (sumN _ n + (if 0 < mm n then 1 else 0)); rw [if_neg (fun q => nI_nle q (by have := hM.1 n hn; omega) (by rw [← hmm n hn]; exact c16))]; rfl⟩⟩) (by show _ - (n + 1) < _ - n; omega)
    · refine lv_iload_n hx hb dX5_memberCount_19 rfl (lv_at hl 1 rfl) ?_
      refine lv_iconst (v := 1) hx hb dX5_memberCount_20 (by decide) ?_
      refine lv_iadd hx hb dX5_memberCount_21 ?_
      refine lv_goto (tgt := 26) hx hb dX5_memberCount_22 (by decide) ?_
      refine lv_istore_n (lv' := [(1, .int (acc + 1)), (2, .int (nI n)), (0, .ref (G 0))]) hx hb dX5_memberCount_26 rfl hl (by decide) rfl (fun ls hl => ?_)
      refine lv_iinc (v := nI (n + 1)) (lv' := [(2, .int (nI (n + 1))), (1, .int (acc + 1)), (0, .ref (G 0))]) hx hb dX5_memberCount_27 hl (k := 1) rfl (by exact nI_1 n) (by decide) rfl (fun ls hl => ?_)
      refine lv_goto (tgt := 4) hx hb dX5_memberCount_30 (by decide) ?_
      exact ih4 (n + 1, acc + 1) ls (⟨lv_sub hl [0, 1, 2] rfl, ⟨by omega, by rw [hacc, nI_1]; show _ = nI (sumN _ n + (if 0 < mm n then 1 else 0)); rw [if_pos (Nat.pos_of_ne_zero (fun q => c16 (by rw [hmm n hn, q]; decide)))]⟩⟩) (by show _ - (n + 1) < _ - n; omega)

theorem stc_y {b : Bool} {least acc : Int32} {F Gn k N : Nat} {C : Bool} (hb : least = if b = true then 1 else 3) (hG : Gn ≤ F) (hF : F ≤ N) (hk : k < N) (hx : ¬ sta F Gn C k < least ∧ ¬ sta F Gn C k = 4) (h : acc = nI (stc b F Gn k)) : acc + 1 = nI (stc b F Gn (k + 1)) := by
  have hg : Gn ≤ k := by
    rcases Nat.lt_or_ge k Gn with q | q
    · exact absurd ((sta_4 hG).mpr q) hx.2
    · exact q
  rw [h, nI_1]
  congr 1
  cases b with
  | true => unfold stc; rw [if_pos rfl, if_pos rfl]; omega
  | false =>
    have hf : k < F := by
      rcases Nat.lt_or_ge k F with q | q
      · exact q
      · exfalso
        refine hx.1 ?_
        rw [hb]
        rcases (sta_12 (Gn := Gn) (C := C)).mpr q with y | y <;> rw [y] <;> decide
    unfold stc; rw [if_neg (by decide), if_neg (by decide)]; omega
theorem stc_n {b : Bool} {least acc : Int32} {F Gn k N : Nat} {C : Bool} (hb : least = if b = true then 1 else 3) (hG : Gn ≤ F) (hF : F ≤ N) (hk : k < N) (hx : sta F Gn C k < least ∨ sta F Gn C k = 4) (h : acc = nI (stc b F Gn k)) : acc = nI (stc b F Gn (k + 1)) := by
  rw [h]
  congr 1
  cases b with
  | true =>
    have hg : k < Gn := by
      rcases hx with q | q
      · exfalso
        rw [hb] at q
        unfold sta at q
        split at q
        · split at q <;> exact absurd q (by decide)
        · split at q <;> exact absurd q (by decide)
      · exact (sta_4 hG).mp q
    unfold stc; rw [if_pos rfl, if_pos rfl]; omega
  | false =>
    have hg : k < Gn ∨ F ≤ k := by
      rcases hx with q | q
      · right
        rcases Nat.lt_or_ge k F with y | y
        · exfalso
          rw [hb] at q
          unfold sta at q
          rw [if_pos y] at q
          split at q <;> exact absurd q (by decide)
        · exact y
      · exact Or.inl ((sta_4 hG).mp q)
    unfold stc; rw [if_neg (by decide), if_neg (by decide)]; omega

set_option maxHeartbeats 4000000 in
set_option maxRecDepth 100000 in
theorem c_X5_still (l : Launch) (D : va_G) (cI cZ cS cJ : ClassId) (sz : Nat) (G : Nat → Nat) (code off left wr rc : Int32) (mem oth ks vs sx : Nat → Int32) (pl ps : Int32) (pk sr tg fl xs : Nat → Int32) (rows : List (Int32 × Nat × Nat)) (F Gn : Nat) (C : Bool) (hrp : RP rows F Gn C ps pk sr tg fl xs) (hsr : Srt (pkl rows)) (hpl : pl = 1 ∨ (pl = 0 ∧ rows = [])) (hG : Gn ≤ F) (hF : F ≤ rows.length) (b : Bool) (least : Int32) (hbl : least = if b = true then 1 else 3) : Met l yX5_still (Cond.code yX5_still cX5_still 4 (some .int) :: TB) ({ frames := 0, cells := 0, slots := 0, locals := 0 } : Room) (va_Pc [.ref (G 0), .int least] (PB D (KT cI cZ cS cJ) (mW cI cZ G code off left wr rc mem oth ks vs sx pl ps pk sr tg fl xs) sz)) (va_Qi (fun r (_ : Unit) => r = nI (stc b F Gn rows.length)) (fun (_ : Unit) t => va_P D vwCl (mW cI cZ G code off left wr rc mem oth ks vs sx pl ps pk sr tg fl xs) t.heap) (va_A (mW cI cZ G code off left wr rc mem oth ks vs sx pl ps pk sr tg fl xs) sz)) 0 0 (va_A (mW cI cZ G code off left wr rc mem oth ks vs sx pl ps pk sr tg fl xs) sz) := by
  refine Met.ofW (cc := cX5_still) (maxL := 4) (ret := (some .int)) (by decide) rfl ?_
  intro p e s m args below meth c s₁ B hml hv
  obtain ⟨rfl, hsz, hP, hK, hD0⟩ := hv
  have hx := B.exec
  have hb := B.bytes
  have hr := B.returns
  have hts := atoms_spec (ws := (Cond.code yX5_still cX5_still 4 (some .int) :: TB)) B.pre
  have ht : ∀ w ∈ TB, w.before _ s = true := fun w h => hts w (List.mem_cons_of_mem _ h)
  have hown : s.vm.findClass RX5 = some m.cls := findClass_of_methodNamed B.named
  have hlocks := B.notSynchronized
  subst hsz
  have hD := hD0.self (sz := s.heap.size)
  generalize hAe : va_A (mW cI cZ G code off left wr rc mem oth ks vs sx pl ps pk sr tg fl xs) s.heap.size = A at hD ⊢
  have hA : ∀ q : Nat, s.heap.size ≤ q → A q := fun q h => by rw [← hAe]; exact Or.inr h
  have hS : va_S A s.heap s.heap [] := va_S.rf
  have hP : va_P D vwCl (mW cI cZ G code off left wr rc mem oth ks vs sx pl ps pk sr tg fl xs) s.heap := hP
  have hl := lv_entry ([.ref (G 0), .int least]) (n := 4) (Nat.le_of_ble_eq_true rfl)
  rw [lg_entry_eq]
  generalize (lg_sl ([.ref (G 0), .int least]) ++ List.replicate (4 - (lg_sl ([.ref (G 0), .int least])).length) Slot.unset).toArray = ls at hl ⊢
  have hl : lv_has ls 4 [(0, .ref (G 0)), (1, .int least)] := hl
  refine lv_iconst (v := 0) hx hb dX5_still_0 (by decide) ?_
  refine lv_istore_n (lv' := [(2, .int 0), (0, .ref (G 0)), (1, .int least)]) hx hb dX5_still_1 rfl hl (by decide) rfl (fun ls hl => ?_)
  refine lv_iconst (v := 0) hx hb dX5_still_2 (by decide) ?_
  refine lv_istore_n (lv' := [(3, .int 0), (2, .int 0), (0, .ref (G 0)), (1, .int least)]) hx hb dX5_still_3 rfl hl (by decide) rfl (fun ls hl => ?_)
  refine lpA (pc := 4) (ι := Nat × Int32) (fun z ls => lv_has ls 4 [(3, .int (nI z.1)), (2, .int z.2), (0, .ref (G 0)), (1, .int least)] ∧ z.1 ≤ rows.length ∧ z.2 = nI (stc b F Gn z.1)) (fun z => rows.length - z.1) (0, 0) (⟨lv_sub hl [0, 1, 2, 3] rfl, ⟨Nat.zero_le _, by unfold stc; split <;> simp <;> rfl⟩⟩) ?_
  intro z ls hI ih4
  obtain ⟨k, acc⟩ := z
  obtain ⟨hl, hinv⟩ := hI
  have hl : lv_has ls 4 [(3, .int (nI k)), (2, .int acc), (0, .ref (G 0)), (1, .int least)] := hl
  obtain ⟨hkl, hacc⟩ : k ≤ rows.length ∧ acc = nI (stc b F Gn k) := hinv
  have hps := hrp.sz
  have hle := hrp.le
  refine lv_iload_n hx hb dX5_still_4 rfl (lv_at hl 0 rfl) ?_
  refine lv_aload_n hx hb dX5_still_5 rfl (lv_at hl 2 rfl) ?_
  refine va_get (D := D) (ci := 5) (v := .int ps) (C := RX5) (T := TX5) (N := 17) hx hb ht inX5 hown hK hP 0 rfl rfl 11 (by decide) (ht _ kw3_91) (fun _ h9 => h9) rfl dX5_still_6 ?_
  refine lv_icmp_ge (tgt := 46) hx hb dX5_still_9 (by decide) (fun c9 => ?_) (fun c9 => ?_)
  · have hke : k = rows.length := by
      rcases Nat.lt_or_ge k rows.length with q | q
      · rw [hps] at c9; exact absurd c9 (nI_ge q (by omega))
      · omega
    subst hke
    refine lv_iload_n hx hb dX5_still_46 rfl (lv_at hl 1 rfl) ?_
    exact W.iret (v := acc) hx hb hr (fun t ht2 hW => ⟨⟨acc, (), rfl, hacc, by (try dsimp only); rw [ht2]; exact hP⟩, hS.F ht2⟩) hS.2.2 dX5_still_47
  · have hk : k < rows.length := by
      rcases Nat.lt_or_ge k rows.length with q | q
      · exact q
      · exact absurd (by rw [hps]; exact nI_le q (by omega)) c9
    have hxk := hrp.x hk
    refine lv_aload_n hx hb dX5_still_12 rfl (lv_at hl 2 rfl) ?_
    refine va_get (D := D) (ci := 5) (v := .ref (G 10)) (C := RX5) (T := TX5) (N := 17) hx hb ht inX5 hown hK hP 0 rfl rfl 16 (by decide) (ht _ kw3_96) (fun _ h9 => h9) rfl dX5_still_13 ?_
    refine lv_iload_n hx hb dX5_still_16 rfl (lv_at hl 0 rfl) ?_
    refine ya_iald hx hb hK hP 10 0 rfl rfl k (rfl) (by omega) (by decide) dX5_still_17 ?_
    refine lv_iload_n hx hb dX5_still_18 rfl (lv_at hl 3 rfl) ?_
    refine lv_icmp_lt (tgt := 38) hx hb dX5_still_19 (by decide) (fun c19 => ?_) (fun c19 => ?_)
    · have hkx : sta F Gn C k < least ∨ sta F Gn C k = 4 := Or.inl (by rw [← hxk]; exact c19)
      refine lv_iload_n hx hb dX5_still_38 rfl (lv_at hl 1 rfl) ?_
      refine lv_istore_n (lv' := [(2, .int acc), (3, .int (nI k)), (0, .ref (G 0)), (1, .int least)]) hx hb dX5_still_39 rfl hl (by decide) rfl (fun ls hl => ?_)
      refine lv_iinc (v := nI (k + 1)) (lv' := [(3, .int (nI (k + 1))), (2, .int acc), (0, .ref (G 0)), (1, .int least)]) hx hb dX5_still_40 hl (k := 1) rfl (by exact nI_1 k) (by decide) rfl (fun ls hl => ?_)
      refine lv_goto (tgt := 4) hx hb dX5_still_43 (by decide) ?_
      exact ih4 (k + 1, acc) ls (⟨lv_sub hl [0, 1, 2, 3] rfl, ⟨by omega, by first | exact stc_y hbl hG hF hk hkx hacc | exact stc_n hbl hG hF hk hkx hacc⟩⟩) (by show _ - (k + 1) < _ - k; omega)
    · refine lv_aload_n hx hb dX5_still_22 rfl (lv_at hl 2 rfl) ?_
      refine va_get (D := D) (ci := 5) (v := .ref (G 10)) (C := RX5) (T := TX5) (N := 17) hx hb ht inX5 hown hK hP 0 rfl rfl 16 (by decide) (ht _ kw3_96) (fun _ h9 => h9) rfl dX5_still_23 ?_
      refine lv_iload_n hx hb dX5_still_26 rfl (lv_at hl 0 rfl) ?_
      refine ya_iald hx hb hK hP 10 0 rfl rfl k (rfl) (by omega) (by decide) dX5_still_27 ?_
      refine lv_iconst (v := 4) hx hb dX5_still_28 (by decide) ?_
      refine lv_icmp_eq (tgt := 38) hx hb dX5_still_29 (by decide) (fun c29 => ?_) (fun c29 => ?_)
      · have hkx : sta F Gn C k < least ∨ sta F Gn C k = 4 := Or.inr (by rw [← hxk]; exact c29)
        refine lv_iload_n hx hb dX5_still_38 rfl (lv_at hl 1 rfl) ?_
        refine lv_istore_n (lv' := [(2, .int acc), (3, .int (nI k)), (0, .ref (G 0)), (1, .int least)]) hx hb dX5_still_39 rfl hl (by decide) rfl (fun ls hl => ?_)
        refine lv_iinc (v := nI (k + 1)) (lv' := [(3, .int (nI (k + 1))), (2, .int acc), (0, .ref (G 0)), (1, .int least)]) hx hb dX5_still_40 hl (k := 1) rfl (by exact nI_1 k) (by decide) rfl (fun ls hl => ?_)
        refine lv_goto (tgt := 4) hx hb dX5_still_43 (by decide) ?_
        exact ih4 (k + 1, acc) ls (⟨lv_sub hl [0, 1, 2, 3] rfl, ⟨by omega, by first | exact stc_y hbl hG hF hk hkx hacc | exact stc_n hbl hG hF hk hkx hacc⟩⟩) (by show _ - (k + 1) < _ - k; omega)
      · have hkx : ¬ sta F Gn C k < least ∧ ¬ sta F Gn C k = 4 := ⟨by rw [← hxk]; exact c19, by rw [← hxk]; exact c29⟩
        refine lv_iload_n hx hb dX5_still_32 rfl (lv_at hl 1 rfl) ?_
        refine lv_iconst (v := 1) hx hb dX5_still_33 (by decide) ?_
        refine lv_iadd hx hb dX5_still_34 ?_
        refine lv_goto (tgt := 39) hx hb dX5_still_35 (by decide) ?_
        refine lv_istore_n (lv' := [(2, .int (acc + 1)), (3, .int (nI k)), (0, .ref (G 0)), (1, .int least)]) hx hb dX5_still_39 rfl hl (by decide) rfl (fun ls hl => ?_)
        refine lv_iinc (v := nI (k + 1)) (lv' := [(3, .int (nI (k + 1))), (2, .int (acc + 1)), (0, .ref (G 0)), (1, .int least)]) hx hb dX5_still_40 hl (k := 1) rfl (by exact nI_1 k) (by decide) rfl (fun ls hl => ?_)
        refine lv_goto (tgt := 4) hx hb dX5_still_43 (by decide) ?_
        exact ih4 (k + 1, acc + 1) ls (⟨lv_sub hl [0, 1, 2, 3] rfl, ⟨by omega, by first | exact stc_y hbl hG hF hk hkx hacc | exact stc_n hbl hG hF hk hkx hacc⟩⟩) (by show _ - (k + 1) < _ - k; omega)

set_option maxHeartbeats 4000000 in
set_option maxRecDepth 100000 in
theorem c_X5_thrown (l : Launch) (D : va_G) (cI cZ cS cJ : ClassId) (sz : Nat) (G : Nat → Nat) (code off left wr rc : Int32) (mem oth ks vs sx : Nat → Int32) (pl ps : Int32) (pk sr tg fl xs : Nat → Int32)  : Met l yX5_thrown (Cond.code yX5_thrown cX5_thrown 1 (some .int) :: TB) ({ frames := 0, cells := 0, slots := 0, locals := 0 } : Room) (va_Pc [.ref (G 0)] (PB D (KT cI cZ cS cJ) (mW cI cZ G code off left wr rc mem oth ks vs sx pl ps pk sr tg fl xs) sz)) (va_Qi (fun r (_ : Unit) => r = code) (fun (_ : Unit) t => va_P D vwCl (mW cI cZ G code off left wr rc mem oth ks vs sx pl ps pk sr tg fl xs) t.heap) (va_A (mW cI cZ G code off left wr rc mem oth ks vs sx pl ps pk sr tg fl xs) sz)) 0 0 (va_A (mW cI cZ G code off left wr rc mem oth ks vs sx pl ps pk sr tg fl xs) sz) := by
  refine Met.ofW (cc := cX5_thrown) (maxL := 1) (ret := (some .int)) (by decide) rfl ?_
  intro p e s m args below meth c s₁ B hml hv
  obtain ⟨rfl, hsz, hP, hK, hD0⟩ := hv
  have hx := B.exec
  have hb := B.bytes
  have hr := B.returns
  have hts := atoms_spec (ws := (Cond.code yX5_thrown cX5_thrown 1 (some .int) :: TB)) B.pre
  have ht : ∀ w ∈ TB, w.before _ s = true := fun w h => hts w (List.mem_cons_of_mem _ h)
  have hown : s.vm.findClass RX5 = some m.cls := findClass_of_methodNamed B.named
  have hlocks := B.notSynchronized
  subst hsz
  have hD := hD0.self (sz := s.heap.size)
  generalize hAe : va_A (mW cI cZ G code off left wr rc mem oth ks vs sx pl ps pk sr tg fl xs) s.heap.size = A at hD ⊢
  have hA : ∀ q : Nat, s.heap.size ≤ q → A q := fun q h => by rw [← hAe]; exact Or.inr h
  have hS : va_S A s.heap s.heap [] := va_S.rf
  have hP : va_P D vwCl (mW cI cZ G code off left wr rc mem oth ks vs sx pl ps pk sr tg fl xs) s.heap := hP
  have hl := lv_entry ([.ref (G 0)]) (n := 1) (Nat.le_of_ble_eq_true rfl)
  rw [lg_entry_eq]
  generalize (lg_sl ([.ref (G 0)]) ++ List.replicate (1 - (lg_sl ([.ref (G 0)])).length) Slot.unset).toArray = ls at hl ⊢
  have hl : lv_has ls 1 [(0, .ref (G 0))] := hl
  refine lv_aload_n hx hb dX5_thrown_0 rfl (lv_at hl 0 rfl) ?_
  refine va_get (D := D) (ci := 5) (v := .int code) (C := RX5) (T := TX5) (N := 17) hx hb ht inX5 hown hK hP 0 rfl rfl 0 (by decide) (ht _ kw3_80) (fun _ h9 => h9) rfl dX5_thrown_1 ?_
  exact W.iret (v := code) hx hb hr (fun t ht2 hW => ⟨⟨code, (), rfl, rfl, by (try dsimp only); rw [ht2]; exact hP⟩, hS.F ht2⟩) hS.2.2 dX5_thrown_4
