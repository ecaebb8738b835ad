-- the reference: ownerOf

set_option maxHeartbeats 4000000 in
set_option maxRecDepth 100000 in
theorem c_X5_ownerOf (l : Launch) (D : va_G) (cI cZ cS cJ : ClassId) (sz : Nat) (a : Nat) (mem : Nat → Int32) (mm : Nat → Nat) (hmm : ∀ n, n < 8 → mem n = nI (mm n)) (hM : MM mm) (key : Int32) : Met l yX5_ownerOf (Cond.code yX5_ownerOf cX5_ownerOf 10 (some .int) :: TB) ({ frames := 2, cells := 0, slots := 0, locals := 44 } : Room) (va_Pc [.ref a, .int key] (PB D (KT cI cZ cS cJ) ([(a, .inl (cI, 8, .inl mem))]) sz)) (va_Qi (fun r (_ : Unit) => r = nI (own mm (plF (key : Int32).toInt64))) (fun (_ : Unit) t => va_P D vwCl ([(a, .inl (cI, 8, .inl mem))]) t.heap) (va_A ([(a, .inl (cI, 8, .inl mem))]) sz)) 0 0 (va_A ([(a, .inl (cI, 8, .inl mem))]) sz) := by
  refine Met.ofW (cc := cX5_ownerOf) (maxL := 10) (ret := (some .int)) (by decide) rfl ?_
  intro p e s m args below meth c s₁ B hml hv
  obtain ⟨rfl, hsz, hP, hK, hD0⟩ := hv
  have hx := B.exec
  have hb := B.bytes
  have hr := B.returns
  have hts := atoms_spec (ws := (Cond.code yX5_ownerOf cX5_ownerOf 10 (some .int) :: TB)) B.pre
  have ht : ∀ w ∈ TB, w.before _ s = true := fun w h => hts w (List.mem_cons_of_mem _ h)
  have hown : s.vm.findClass RX5 = some m.cls := findClass_of_methodNamed B.named
  have hlocks := B.notSynchronized
  subst hsz
  have hD := hD0.self (sz := s.heap.size)
  generalize hAe : va_A ([(a, .inl (cI, 8, .inl mem))]) s.heap.size = A at hD ⊢
  have hA : ∀ q : Nat, s.heap.size ≤ q → A q := fun q h => by rw [← hAe]; exact Or.inr h
  have hS : va_S A s.heap s.heap [] := va_S.rf
  have hP : va_P D vwCl ([(a, .inl (cI, 8, .inl mem))]) s.heap := hP
  have hl := lv_entry ([.ref a, .int key]) (n := 10) (Nat.le_of_ble_eq_true rfl)
  rw [lg_entry_eq]
  generalize (lg_sl ([.ref a, .int key]) ++ List.replicate (10 - (lg_sl ([.ref a, .int key])).length) Slot.unset).toArray = ls at hl ⊢
  have hl : lv_has ls 10 [(0, .ref a), (1, .int key)] := hl
  refine lv_iload_n hx hb dX5_ownerOf_0 rfl (lv_at hl 1 rfl) ?_
  refine lv_i2l (v := (key : Int32).toInt64) hx hb dX5_ownerOf_1 rfl ?_
  have hPc : va_P D vwCl [] s.heap := va_P.nil
  have hDc : va_D A [] := va_D.nil
  have hFc := va_free (wc := []) hD hS hA [] rfl
  refine va_calli (va_runS (As := [.long ((key : Int32).toInt64)]) (rest := []) ⟨hx, hb, hml, hown, ht⟩ (c_X5_placeOf l D cI cZ cS cJ s.heap.size ((key : Int32).toInt64)) (xwS 1 ht kw3_143 kw3_141 kw1_11 kw3_142 rfl rfl (by decide +kernel) ⟨Nat.le_of_ble_eq_true rfl, Nat.le_of_ble_eq_true rfl⟩) ⟨PB.blind, fun U hU hW => PB.mk hU hW hPc hK hDc⟩ rfl rfl hl.1 rfl (lv_room (Nat.le_of_ble_eq_true rfl)) dX5_ownerOf_2 ⟨Nat.le_of_ble_eq_true rfl, Nat.le_of_ble_eq_true rfl⟩) hS (fun q _ h => hFc q h) hFc (fun r2 u2 t2 H1 locs ht1 hvm w2 hB hz1 hk1 hS => ?_)
  try dsimp only at w2 hB
  rw [ht1] at hB
  have hP := wk_ro (wc := []) hP hD [] rfl hk1 va_P.nil
  generalize H1 = H at hP hS ⊢
  subst w2
  refine lv_istore_n (lv' := [(2, .int (plF (key : Int32).toInt64)), (0, .ref a), (1, .int key)]) hx hb dX5_ownerOf_5 rfl hl (by decide) rfl (fun ls hl => ?_)
  refine lv_iconst (v := (-1)) hx hb dX5_ownerOf_6 (by decide) ?_
  refine lv_istore_n (lv' := [(3, .int (-1)), (2, .int (plF (key : Int32).toInt64)), (0, .ref a), (1, .int key)]) hx hb dX5_ownerOf_7 rfl hl (by decide) rfl (fun ls hl => ?_)
  refine lv_iconst (v := 0) hx hb dX5_ownerOf_8 (by decide) ?_
  refine lv_istore (lv' := [(4, .int 0), (3, .int (-1)), (2, .int (plF (key : Int32).toInt64)), (0, .ref a), (1, .int key)]) hx hb dX5_ownerOf_9 hl (by decide) rfl (fun ls hl => ?_)
  refine lv_iconst (v := (-1)) hx hb dX5_ownerOf_11 (by decide) ?_
  refine lv_istore (lv' := [(5, .int (-1)), (4, .int 0), (3, .int (-1)), (2, .int (plF (key : Int32).toInt64)), (0, .ref a), (1, .int key)]) hx hb dX5_ownerOf_12 hl (by decide) rfl (fun ls hl => ?_)
  refine lv_iconst (v := 0) hx hb dX5_ownerOf_14 (by decide) ?_
  refine lv_istore (lv' := [(6, .int 0), (5, .int (-1)), (4, .int 0), (3, .int (-1)), (2, .int (plF (key : Int32).toInt64)), (0, .ref a), (1, .int key)]) hx hb dX5_ownerOf_15 hl (by decide) rfl (fun ls hl => ?_)
  refine lv_iconst (v := 0) hx hb dX5_ownerOf_17 (by decide) ?_
  refine lv_istore (lv' := [(7, .int 0), (6, .int 0), (5, .int (-1)), (4, .int 0), (3, .int (-1)), (2, .int (plF (key : Int32).toInt64)), (0, .ref a), (1, .int key)]) hx hb dX5_ownerOf_18 hl (by decide) rfl (fun ls hl => ?_)
  refine lpB (pc := 20) (ι := Nat × Int32 × Int32 × Int32 × Int32) (fun z H locs k9 n9 ls => lv_has ls 10 [(7, .int (nI z.1)), (6, .int z.2.2.2.2), (5, .int z.2.2.2.1), (4, .int z.2.2.1), (3, .int z.2.1), (2, .int (plF (key : Int32).toInt64)), (0, .ref a), (1, .int key)] ∧ va_P D vwCl ([(a, .inl (cI, 8, .inl mem))]) H ∧ va_D A ([(a, .inl (cI, 8, .inl mem))]) ∧ va_S A s.heap H locs ∧ k9 = 0 ∧ n9 = 0 ∧ z.1 ≤ 8 ∧ BI mm (plF (key : Int32).toInt64) z.1 0 z.2.1 z.2.2.1 ∧ LI mm z.1 0 z.2.2.2.1 z.2.2.2.2) (fun z => 8 - z.1) (0, (-1), 0, (-1), 0) (⟨lv_sub hl [0, 1, 2, 3, 4, 5, 6, 7] rfl, by exact hP, by exact hD, hS, rfl, rfl, ⟨by omega, BI.zero, LI.zero⟩⟩) ?_
  intro z H locs k9 n9 ls hI ih20
  obtain ⟨n, b, bp, ll, lp⟩ := z
  obtain ⟨hl, hP, hD, hS, e9, e8, hinv⟩ := hI
  subst e9
  subst e8
  have hP : va_P D vwCl ([(a, .inl (cI, 8, .inl mem))]) H := hP
  have hD : va_D A ([(a, .inl (cI, 8, .inl mem))]) := hD
  have hl : lv_has ls 10 [(7, .int (nI n)), (6, .int lp), (5, .int ll), (4, .int bp), (3, .int b), (2, .int (plF (key : Int32).toInt64)), (0, .ref a), (1, .int key)] := hl
  obtain ⟨hn8, hBI, hLI⟩ : n ≤ 8 ∧ BI mm (plF (key : Int32).toInt64) n 0 b bp ∧ LI mm n 0 ll lp := hinv
  refine lv_iload hx hb dX5_ownerOf_20 (lv_at hl 0 rfl) ?_
  refine lv_bipush (v := 8) hx hb dX5_ownerOf_22 (by decide) ?_
  refine lv_icmp_ge (tgt := 104) hx hb dX5_ownerOf_24 (by decide) (fun c24 => ?_) (fun c24 => ?_)
  · have hn9 : n = 8 := by
      rcases Nat.lt_or_ge n 8 with q | q
      · exact absurd c24 (show ¬ nI 8 ≤ nI n from nI_ge q (by decide))
      · omega
    subst hn9
    refine lv_iload_n hx hb dX5_ownerOf_104 rfl (lv_at hl 4 rfl) ?_
    refine lv_if_ge (tgt := 113) hx hb dX5_ownerOf_105 (by decide) (fun c105 => ?_) (fun c105 => ?_)
    · refine lv_iload_n hx hb dX5_ownerOf_113 rfl (lv_at hl 4 rfl) ?_
      exact W.iret (v := b) hx hb hr (fun t ht2 hW => ⟨⟨b, (), rfl, by first | exact own_best hM hBI c105 | exact own_least hM hBI hLI c105, by (try dsimp only); rw [ht2]; exact hP⟩, hS.F ht2⟩) hS.2.2 dX5_ownerOf_114
    · refine lv_iload hx hb dX5_ownerOf_108 (lv_at hl 2 rfl) ?_
      refine lv_goto (tgt := 114) hx hb dX5_ownerOf_110 (by decide) ?_
      exact W.iret (v := ll) hx hb hr (fun t ht2 hW => ⟨⟨ll, (), rfl, by first | exact own_best hM hBI c105 | exact own_least hM hBI hLI c105, by (try dsimp only); rw [ht2]; exact hP⟩, hS.F ht2⟩) hS.2.2 dX5_ownerOf_114
  · have hn : n < 8 := by
      rcases Nat.lt_or_ge n 8 with q | q
      · exact q
      · exact absurd (show nI 8 ≤ nI n from nI_le q (by omega)) c24
    have hm16 := hM.1 n hn
    refine lv_iconst (v := 0) hx hb dX5_ownerOf_27 (by decide) ?_
    refine lv_istore (lv' := [(8, .int 0), (7, .int (nI n)), (6, .int lp), (5, .int ll), (4, .int bp), (3, .int b), (2, .int (plF (key : Int32).toInt64)), (0, .ref a), (1, .int key)]) hx hb dX5_ownerOf_28 hl (by decide) rfl (fun ls hl => ?_)
    refine lpB (pc := 30) (ι := Nat × Int32 × Int32 × Int32 × Int32) (fun z H locs k9 n9 ls => lv_has ls 10 [(8, .int (nI z.1)), (7, .int (nI n)), (6, .int z.2.2.2.2), (5, .int z.2.2.2.1), (4, .int z.2.2.1), (3, .int z.2.1), (2, .int (plF (key : Int32).toInt64)), (0, .ref a), (1, .int key)] ∧ va_P D vwCl ([(a, .inl (cI, 8, .inl mem))]) H ∧ va_D A ([(a, .inl (cI, 8, .inl mem))]) ∧ va_S A s.heap H locs ∧ k9 = 0 ∧ n9 = 0 ∧ z.1 ≤ mm n ∧ BI mm (plF (key : Int32).toInt64) n z.1 z.2.1 z.2.2.1 ∧ LI mm n z.1 z.2.2.2.1 z.2.2.2.2) (fun z => mm n - z.1) (0, b, bp, ll, lp) (⟨lv_sub hl [0, 1, 2, 3, 4, 5, 6, 7, 8] rfl, by exact hP, by exact hD, hS, rfl, rfl, ⟨Nat.zero_le _, hBI, hLI⟩⟩) ?_
    intro z H locs k9 n9 ls hI ih30
    obtain ⟨v, b, bp, ll, lp⟩ := z
    obtain ⟨hl, hP, hD, hS, e9, e8, hinv⟩ := hI
    subst e9
    subst e8
    have hP : va_P D vwCl ([(a, .inl (cI, 8, .inl mem))]) H := hP
    have hD : va_D A ([(a, .inl (cI, 8, .inl mem))]) := hD
    have hl : lv_has ls 10 [(8, .int (nI v)), (7, .int (nI n)), (6, .int lp), (5, .int ll), (4, .int bp), (3, .int b), (2, .int (plF (key : Int32).toInt64)), (0, .ref a), (1, .int key)] := hl
    obtain ⟨hvm, hBI, hLI⟩ : v ≤ mm n ∧ BI mm (plF (key : Int32).toInt64) n v b bp ∧ LI mm n v ll lp := hinv
    refine lv_iload hx hb dX5_ownerOf_30 (lv_at hl 0 rfl) ?_
    refine lv_aload_n hx hb dX5_ownerOf_32 rfl (lv_at hl 7 rfl) ?_
    refine lv_iload hx hb dX5_ownerOf_33 (lv_at hl 1 rfl) ?_
    refine ya_iald hx hb hK hP 0 0 rfl rfl n (rfl) (hn) (by decide) dX5_ownerOf_35 ?_
    refine lv_icmp_ge (tgt := 98) hx hb dX5_ownerOf_36 (by decide) (fun c36 => ?_) (fun c36 => ?_)
    · have hve : v = mm n := by
        rcases Nat.lt_or_ge v (mm n) with q | q
        · rw [hmm n hn] at c36; exact absurd c36 (nI_ge q (by omega))
        · omega
      refine lv_iinc (v := nI (n + 1)) (lv' := [(7, .int (nI (n + 1))), (8, .int (nI v)), (6, .int lp), (5, .int ll), (4, .int bp), (3, .int b), (2, .int (plF (key : Int32).toInt64)), (0, .ref a), (1, .int key)]) hx hb dX5_ownerOf_98 hl (k := 1) rfl (by exact nI_1 n) (by decide) rfl (fun ls hl => ?_)
      refine lv_goto (tgt := 20) hx hb dX5_ownerOf_101 (by decide) ?_
      exact ih20 (n + 1, b, bp, ll, lp) _ _ _ _ ls (⟨lv_sub hl [0, 2, 3, 4, 5, 6, 7, 8] rfl, by exact hP, by exact hD, hS, rfl, rfl, ⟨by omega, by rw [hve] at hBI; exact hBI.next, by rw [hve] at hLI; exact hLI.next⟩⟩) (by show _ - (n + 1) < _ - n; omega)
    · have hv : v < mm n := by
        rcases Nat.lt_or_ge v (mm n) with q | q
        · exact q
        · exact absurd (by rw [hmm n hn]; exact nI_le q (by omega)) c36
      refine lv_iload hx hb dX5_ownerOf_39 (lv_at hl 1 rfl) ?_
      refine lv_iload hx hb dX5_ownerOf_41 (lv_at hl 0 rfl) ?_
      have hPc : va_P D vwCl [] H := va_P.nil
      have hDc : va_D A [] := va_D.nil
      have hFc := va_free (wc := []) hD hS hA [] rfl
      refine va_calli (va_runS (As := [.int (nI n), .int (nI v)]) (rest := []) ⟨hx, hb, hml, hown, ht⟩ (c_X5_pointOf l D cI cZ cS cJ H.size (nI n) (nI v)) (xwS 2 ht kw3_170 kw3_168 kw1_11 kw3_169 rfl rfl (by decide +kernel) ⟨Nat.le_of_ble_eq_true rfl, Nat.le_of_ble_eq_true rfl⟩) ⟨PB.blind, fun U hU hW => PB.mk hU hW hPc hK hDc⟩ rfl rfl hl.1 rfl (lv_room (Nat.le_of_ble_eq_true rfl)) dX5_ownerOf_43 ⟨Nat.le_of_ble_eq_true rfl, Nat.le_of_ble_eq_true rfl⟩) hS (fun q _ h => hFc q h) hFc (fun r43 u43 t43 H1 locs ht1 hvm w43 hB hz1 hk1 hS => ?_)
      try dsimp only at w43 hB
      rw [ht1] at hB
      have hP := wk_ro (wc := []) hP hD [] rfl hk1 va_P.nil
      generalize H1 = H at hP hS ⊢
      subst w43
      refine lv_istore (lv' := [(9, .int (Pt n v)), (8, .int (nI v)), (7, .int (nI n)), (6, .int lp), (5, .int ll), (4, .int bp), (3, .int b), (2, .int (plF (key : Int32).toInt64)), (0, .ref a), (1, .int key)]) hx hb dX5_ownerOf_46 hl (by decide) rfl (fun ls hl => ?_)
      refine lv_iload hx hb dX5_ownerOf_48 (lv_at hl 0 rfl) ?_
      refine lv_iload_n hx hb dX5_ownerOf_50 rfl (lv_at hl 7 rfl) ?_
      refine lv_icmp_lt (tgt := 72) hx hb dX5_ownerOf_51 (by decide) (fun c51 => ?_) (fun c51 => ?_)
      · refine lv_iload hx hb dX5_ownerOf_72 (lv_at hl 4 rfl) ?_
        refine lv_if_lt (tgt := 84) hx hb dX5_ownerOf_74 (by decide) (fun c74 => ?_) (fun c74 => ?_)
        · refine lv_iload hx hb dX5_ownerOf_84 (lv_at hl 2 rfl) ?_
          refine lv_istore (lv' := [(5, .int (nI n)), (9, .int (Pt n v)), (8, .int (nI v)), (7, .int (nI n)), (6, .int lp), (4, .int bp), (3, .int b), (2, .int (plF (key : Int32).toInt64)), (0, .ref a), (1, .int key)]) hx hb dX5_ownerOf_86 hl (by decide) rfl (fun ls hl => ?_)
          refine lv_iload hx hb dX5_ownerOf_88 (lv_at hl 1 rfl) ?_
          refine lv_istore (lv' := [(6, .int (Pt n v)), (5, .int (nI n)), (9, .int (Pt n v)), (8, .int (nI v)), (7, .int (nI n)), (4, .int bp), (3, .int b), (2, .int (plF (key : Int32).toInt64)), (0, .ref a), (1, .int key)]) hx hb dX5_ownerOf_90 hl (by decide) rfl (fun ls hl => ?_)
          refine lv_iinc (v := nI (v + 1)) (lv' := [(8, .int (nI (v + 1))), (6, .int (Pt n v)), (5, .int (nI n)), (9, .int (Pt n v)), (7, .int (nI n)), (4, .int bp), (3, .int b), (2, .int (plF (key : Int32).toInt64)), (0, .ref a), (1, .int key)]) hx hb dX5_ownerOf_92 hl (k := 3) rfl (by exact nI_1 v) (by decide) rfl (fun ls hl => ?_)
          refine lv_goto (tgt := 30) hx hb dX5_ownerOf_95 (by decide) ?_
          exact ih30 (v + 1, b, bp, nI n, Pt n v) _ _ _ _ ls (⟨lv_sub hl [0, 4, 1, 2, 5, 6, 7, 8, 9] rfl, by exact hP, by exact hD, hS, rfl, rfl, ⟨by omega, by first | exact hBI.skip c51 | exact hBI.set hn hv c51 (Or.inl c55) | exact hBI.set hn hv c51 (Or.inr (Int32.not_le.mp c62)) | exact hBI.keep c55 (Int32.not_lt.mpr c62), by first | exact hLI.set hn hv (Or.inl c74) | exact hLI.set hn hv (Or.inr (Int32.not_le.mp c81)) | exact hLI.keep c74 (Int32.not_lt.mpr c81)⟩⟩) (by show _ - (v + 1) < _ - v; omega)
        · refine lv_iload hx hb dX5_ownerOf_77 (lv_at hl 0 rfl) ?_
          refine lv_iload hx hb dX5_ownerOf_79 (lv_at hl 3 rfl) ?_
          refine lv_icmp_ge (tgt := 92) hx hb dX5_ownerOf_81 (by decide) (fun c81 => ?_) (fun c81 => ?_)
          · refine lv_iinc (v := nI (v + 1)) (lv' := [(8, .int (nI (v + 1))), (9, .int (Pt n v)), (7, .int (nI n)), (6, .int lp), (5, .int ll), (4, .int bp), (3, .int b), (2, .int (plF (key : Int32).toInt64)), (0, .ref a), (1, .int key)]) hx hb dX5_ownerOf_92 hl (k := 1) rfl (by exact nI_1 v) (by decide) rfl (fun ls hl => ?_)
            refine lv_goto (tgt := 30) hx hb dX5_ownerOf_95 (by decide) ?_
            exact ih30 (v + 1, b, bp, ll, lp) _ _ _ _ ls (⟨lv_sub hl [0, 2, 3, 4, 5, 6, 7, 8, 9] rfl, by exact hP, by exact hD, hS, rfl, rfl, ⟨by omega, by first | exact hBI.skip c51 | exact hBI.set hn hv c51 (Or.inl c55) | exact hBI.set hn hv c51 (Or.inr (Int32.not_le.mp c62)) | exact hBI.keep c55 (Int32.not_lt.mpr c62), by first | exact hLI.set hn hv (Or.inl c74) | exact hLI.set hn hv (Or.inr (Int32.not_le.mp c81)) | exact hLI.keep c74 (Int32.not_lt.mpr c81)⟩⟩) (by show _ - (v + 1) < _ - v; omega)
          · refine lv_iload hx hb dX5_ownerOf_84 (lv_at hl 2 rfl) ?_
            refine lv_istore (lv' := [(5, .int (nI n)), (9, .int (Pt n v)), (8, .int (nI v)), (7, .int (nI n)), (6, .int lp), (4, .int bp), (3, .int b), (2, .int (plF (key : Int32).toInt64)), (0, .ref a), (1, .int key)]) hx hb dX5_ownerOf_86 hl (by decide) rfl (fun ls hl => ?_)
            refine lv_iload hx hb dX5_ownerOf_88 (lv_at hl 1 rfl) ?_
            refine lv_istore (lv' := [(6, .int (Pt n v)), (5, .int (nI n)), (9, .int (Pt n v)), (8, .int (nI v)), (7, .int (nI n)), (4, .int bp), (3, .int b), (2, .int (plF (key : Int32).toInt64)), (0, .ref a), (1, .int key)]) hx hb dX5_ownerOf_90 hl (by decide) rfl (fun ls hl => ?_)
            refine lv_iinc (v := nI (v + 1)) (lv' := [(8, .int (nI (v + 1))), (6, .int (Pt n v)), (5, .int (nI n)), (9, .int (Pt n v)), (7, .int (nI n)), (4, .int bp), (3, .int b), (2, .int (plF (key : Int32).toInt64)), (0, .ref a), (1, .int key)]) hx hb dX5_ownerOf_92 hl (k := 3) rfl (by exact nI_1 v) (by decide) rfl (fun ls hl => ?_)
            refine lv_goto (tgt := 30) hx hb dX5_ownerOf_95 (by decide) ?_
            exact ih30 (v + 1, b, bp, nI n, Pt n v) _ _ _ _ ls (⟨lv_sub hl [0, 4, 1, 2, 5, 6, 7, 8, 9] rfl, by exact hP, by exact hD, hS, rfl, rfl, ⟨by omega, by first | exact hBI.skip c51 | exact hBI.set hn hv c51 (Or.inl c55) | exact hBI.set hn hv c51 (Or.inr (Int32.not_le.mp c62)) | exact hBI.keep c55 (Int32.not_lt.mpr c62), by first | exact hLI.set hn hv (Or.inl c74) | exact hLI.set hn hv (Or.inr (Int32.not_le.mp c81)) | exact hLI.keep c74 (Int32.not_lt.mpr c81)⟩⟩) (by show _ - (v + 1) < _ - v; omega)
      · refine lv_iload_n hx hb dX5_ownerOf_54 rfl (lv_at hl 6 rfl) ?_
        refine lv_if_lt (tgt := 65) hx hb dX5_ownerOf_55 (by decide) (fun c55 => ?_) (fun c55 => ?_)
        · refine lv_iload hx hb dX5_ownerOf_65 (lv_at hl 2 rfl) ?_
          refine lv_istore_n (lv' := [(3, .int (nI n)), (9, .int (Pt n v)), (8, .int (nI v)), (7, .int (nI n)), (6, .int lp), (5, .int ll), (4, .int bp), (2, .int (plF (key : Int32).toInt64)), (0, .ref a), (1, .int key)]) hx hb dX5_ownerOf_67 rfl hl (by decide) rfl (fun ls hl => ?_)
          refine lv_iload hx hb dX5_ownerOf_68 (lv_at hl 1 rfl) ?_
          refine lv_istore (lv' := [(4, .int (Pt n v)), (3, .int (nI n)), (9, .int (Pt n v)), (8, .int (nI v)), (7, .int (nI n)), (6, .int lp), (5, .int ll), (2, .int (plF (key : Int32).toInt64)), (0, .ref a), (1, .int key)]) hx hb dX5_ownerOf_70 hl (by decide) rfl (fun ls hl => ?_)
          refine lv_iload hx hb dX5_ownerOf_72 (lv_at hl 6 rfl) ?_
          refine lv_if_lt (tgt := 84) hx hb dX5_ownerOf_74 (by decide) (fun c74 => ?_) (fun c74 => ?_)
          · refine lv_iload hx hb dX5_ownerOf_84 (lv_at hl 4 rfl) ?_
            refine lv_istore (lv' := [(5, .int (nI n)), (4, .int (Pt n v)), (3, .int (nI n)), (9, .int (Pt n v)), (8, .int (nI v)), (7, .int (nI n)), (6, .int lp), (2, .int (plF (key : Int32).toInt64)), (0, .ref a), (1, .int key)]) hx hb dX5_ownerOf_86 hl (by decide) rfl (fun ls hl => ?_)
            refine lv_iload hx hb dX5_ownerOf_88 (lv_at hl 3 rfl) ?_
            refine lv_istore (lv' := [(6, .int (Pt n v)), (5, .int (nI n)), (4, .int (Pt n v)), (3, .int (nI n)), (9, .int (Pt n v)), (8, .int (nI v)), (7, .int (nI n)), (2, .int (plF (key : Int32).toInt64)), (0, .ref a), (1, .int key)]) hx hb dX5_ownerOf_90 hl (by decide) rfl (fun ls hl => ?_)
            refine lv_iinc (v := nI (v + 1)) (lv' := [(8, .int (nI (v + 1))), (6, .int (Pt n v)), (5, .int (nI n)), (4, .int (Pt n v)), (3, .int (nI n)), (9, .int (Pt n v)), (7, .int (nI n)), (2, .int (plF (key : Int32).toInt64)), (0, .ref a), (1, .int key)]) hx hb dX5_ownerOf_92 hl (k := 5) rfl (by exact nI_1 v) (by decide) rfl (fun ls hl => ?_)
            refine lv_goto (tgt := 30) hx hb dX5_ownerOf_95 (by decide) ?_
            exact ih30 (v + 1, nI n, Pt n v, nI n, Pt n v) _ _ _ _ ls (⟨lv_sub hl [0, 6, 1, 2, 3, 4, 7, 8, 9] rfl, by exact hP, by exact hD, hS, rfl, rfl, ⟨by omega, by first | exact hBI.skip c51 | exact hBI.set hn hv c51 (Or.inl c55) | exact hBI.set hn hv c51 (Or.inr (Int32.not_le.mp c62)) | exact hBI.keep c55 (Int32.not_lt.mpr c62), by first | exact hLI.set hn hv (Or.inl c74) | exact hLI.set hn hv (Or.inr (Int32.not_le.mp c81)) | exact hLI.keep c74 (Int32.not_lt.mpr c81)⟩⟩) (by show _ - (v + 1) < _ - v; omega)
          · refine lv_iload hx hb dX5_ownerOf_77 (lv_at hl 2 rfl) ?_
            refine lv_iload hx hb dX5_ownerOf_79 (lv_at hl 5 rfl) ?_
            refine lv_icmp_ge (tgt := 92) hx hb dX5_ownerOf_81 (by decide) (fun c81 => ?_) (fun c81 => ?_)
            · refine lv_iinc (v := nI (v + 1)) (lv' := [(8, .int (nI (v + 1))), (4, .int (Pt n v)), (3, .int (nI n)), (9, .int (Pt n v)), (7, .int (nI n)), (6, .int lp), (5, .int ll), (2, .int (plF (key : Int32).toInt64)), (0, .ref a), (1, .int key)]) hx hb dX5_ownerOf_92 hl (k := 3) rfl (by exact nI_1 v) (by decide) rfl (fun ls hl => ?_)
              refine lv_goto (tgt := 30) hx hb dX5_ownerOf_95 (by decide) ?_
              exact ih30 (v + 1, nI n, Pt n v, ll, lp) _ _ _ _ ls (⟨lv_sub hl [0, 4, 5, 6, 1, 2, 7, 8, 9] rfl, by exact hP, by exact hD, hS, rfl, rfl, ⟨by omega, by first | exact hBI.skip c51 | exact hBI.set hn hv c51 (Or.inl c55) | exact hBI.set hn hv c51 (Or.inr (Int32.not_le.mp c62)) | exact hBI.keep c55 (Int32.not_lt.mpr c62), by first | exact hLI.set hn hv (Or.inl c74) | exact hLI.set hn hv (Or.inr (Int32.not_le.mp c81)) | exact hLI.keep c74 (Int32.not_lt.mpr c81)⟩⟩) (by show _ - (v + 1) < _ - v; omega)
            · refine lv_iload hx hb dX5_ownerOf_84 (lv_at hl 4 rfl) ?_
              refine lv_istore (lv' := [(5, .int (nI n)), (4, .int (Pt n v)), (3, .int (nI n)), (9, .int (Pt n v)), (8, .int (nI v)), (7, .int (nI n)), (6, .int lp), (2, .int (plF (key : Int32).toInt64)), (0, .ref a), (1, .int key)]) hx hb dX5_ownerOf_86 hl (by decide) rfl (fun ls hl => ?_)
              refine lv_iload hx hb dX5_ownerOf_88 (lv_at hl 3 rfl) ?_
              refine lv_istore (lv' := [(6, .int (Pt n v)), (5, .int (nI n)), (4, .int (Pt n v)), (3, .int (nI n)), (9, .int (Pt n v)), (8, .int (nI v)), (7, .int (nI n)), (2, .int (plF (key : Int32).toInt64)), (0, .ref a), (1, .int key)]) hx hb dX5_ownerOf_90 hl (by decide) rfl (fun ls hl => ?_)
              refine lv_iinc (v := nI (v + 1)) (lv' := [(8, .int (nI (v + 1))), (6, .int (Pt n v)), (5, .int (nI n)), (4, .int (Pt n v)), (3, .int (nI n)), (9, .int (Pt n v)), (7, .int (nI n)), (2, .int (plF (key : Int32).toInt64)), (0, .ref a), (1, .int key)]) hx hb dX5_ownerOf_92 hl (k := 5) rfl (by exact nI_1 v) (by decide) rfl (fun ls hl => ?_)
              refine lv_goto (tgt := 30) hx hb dX5_ownerOf_95 (by decide) ?_
              exact ih30 (v + 1, nI n, Pt n v, nI n, Pt n v) _ _ _ _ ls (⟨lv_sub hl [0, 6, 1, 2, 3, 4, 7, 8, 9] rfl, by exact hP, by exact hD, hS, rfl, rfl, ⟨by omega, by first | exact hBI.skip c51 | exact hBI.set hn hv c51 (Or.inl c55) | exact hBI.set hn hv c51 (Or.inr (Int32.not_le.mp c62)) | exact hBI.keep c55 (Int32.not_lt.mpr c62), by first | exact hLI.set hn hv (Or.inl c74) | exact hLI.set hn hv (Or.inr (Int32.not_le.mp c81)) | exact hLI.keep c74 (Int32.not_lt.mpr c81)⟩⟩) (by show _ - (v + 1) < _ - v; omega)
        · refine lv_iload hx hb dX5_ownerOf_58 (lv_at hl 0 rfl) ?_
          refine lv_iload hx hb dX5_ownerOf_60 (lv_at hl 5 rfl) ?_
          refine lv_icmp_ge (tgt := 72) hx hb dX5_ownerOf_62 (by decide) (fun c62 => ?_) (fun c62 => ?_)
          · refine lv_iload hx hb dX5_ownerOf_72 (lv_at hl 4 rfl) ?_
            refine lv_if_lt (tgt := 84) hx hb dX5_ownerOf_74 (by decide) (fun c74 => ?_) (fun c74 => ?_)
            · refine lv_iload hx hb dX5_ownerOf_84 (lv_at hl 2 rfl) ?_
              refine lv_istore (lv' := [(5, .int (nI n)), (9, .int (Pt n v)), (8, .int (nI v)), (7, .int (nI n)), (6, .int lp), (4, .int bp), (3, .int b), (2, .int (plF (key : Int32).toInt64)), (0, .ref a), (1, .int key)]) hx hb dX5_ownerOf_86 hl (by decide) rfl (fun ls hl => ?_)
              refine lv_iload hx hb dX5_ownerOf_88 (lv_at hl 1 rfl) ?_
              refine lv_istore (lv' := [(6, .int (Pt n v)), (5, .int (nI n)), (9, .int (Pt n v)), (8, .int (nI v)), (7, .int (nI n)), (4, .int bp), (3, .int b), (2, .int (plF (key : Int32).toInt64)), (0, .ref a), (1, .int key)]) hx hb dX5_ownerOf_90 hl (by decide) rfl (fun ls hl => ?_)
              refine lv_iinc (v := nI (v + 1)) (lv' := [(8, .int (nI (v + 1))), (6, .int (Pt n v)), (5, .int (nI n)), (9, .int (Pt n v)), (7, .int (nI n)), (4, .int bp), (3, .int b), (2, .int (plF (key : Int32).toInt64)), (0, .ref a), (1, .int key)]) hx hb dX5_ownerOf_92 hl (k := 3) rfl (by exact nI_1 v) (by decide) rfl (fun ls hl => ?_)
              refine lv_goto (tgt := 30) hx hb dX5_ownerOf_95 (by decide) ?_
              exact ih30 (v + 1, b, bp, nI n, Pt n v) _ _ _ _ ls (⟨lv_sub hl [0, 4, 1, 2, 5, 6, 7, 8, 9] rfl, by exact hP, by exact hD, hS, rfl, rfl, ⟨by omega, by first | exact hBI.skip c51 | exact hBI.set hn hv c51 (Or.inl c55) | exact hBI.set hn hv c51 (Or.inr (Int32.not_le.mp c62)) | exact hBI.keep c55 (Int32.not_lt.mpr c62), by first | exact hLI.set hn hv (Or.inl c74) | exact hLI.set hn hv (Or.inr (Int32.not_le.mp c81)) | exact hLI.keep c74 (Int32.not_lt.mpr c81)⟩⟩) (by show _ - (v + 1) < _ - v; omega)
            · refine lv_iload hx hb dX5_ownerOf_77 (lv_at hl 0 rfl) ?_
              refine lv_iload hx hb dX5_ownerOf_79 (lv_at hl 3 rfl) ?_
              refine lv_icmp_ge (tgt := 92) hx hb dX5_ownerOf_81 (by decide) (fun c81 => ?_) (fun c81 => ?_)
              · refine lv_iinc (v := nI (v + 1)) (lv' := [(8, .int (nI (v + 1))), (9, .int (Pt n v)), (7, .int (nI n)), (6, .int lp), (5, .int ll), (4, .int bp), (3, .int b), (2, .int (plF (key : Int32).toInt64)), (0, .ref a), (1, .int key)]) hx hb dX5_ownerOf_92 hl (k := 1) rfl (by exact nI_1 v) (by decide) rfl (fun ls hl => ?_)
                refine lv_goto (tgt := 30) hx hb dX5_ownerOf_95 (by decide) ?_
                exact ih30 (v + 1, b, bp, ll, lp) _ _ _ _ ls (⟨lv_sub hl [0, 2, 3, 4, 5, 6, 7, 8, 9] rfl, by exact hP, by exact hD, hS, rfl, rfl, ⟨by omega, by first | exact hBI.skip c51 | exact hBI.set hn hv c51 (Or.inl c55) | exact hBI.set hn hv c51 (Or.inr (Int32.not_le.mp c62)) | exact hBI.keep c55 (Int32.not_lt.mpr c62), by first | exact hLI.set hn hv (Or.inl c74) | exact hLI.set hn hv (Or.inr (Int32.not_le.mp c81)) | exact hLI.keep c74 (Int32.not_lt.mpr c81)⟩⟩) (by show _ - (v + 1) < _ - v; omega)
              · refine lv_iload hx hb dX5_ownerOf_84 (lv_at hl 2 rfl) ?_
                refine lv_istore (lv' := [(5, .int (nI n)), (9, .int (Pt n v)), (8, .int (nI v)), (7, .int (nI n)), (6, .int lp), (4, .int bp), (3, .int b), (2, .int (plF (key : Int32).toInt64)), (0, .ref a), (1, .int key)]) hx hb dX5_ownerOf_86 hl (by decide) rfl (fun ls hl => ?_)
                refine lv_iload hx hb dX5_ownerOf_88 (lv_at hl 1 rfl) ?_
                refine lv_istore (lv' := [(6, .int (Pt n v)), (5, .int (nI n)), (9, .int (Pt n v)), (8, .int (nI v)), (7, .int (nI n)), (4, .int bp), (3, .int b), (2, .int (plF (key : Int32).toInt64)), (0, .ref a), (1, .int key)]) hx hb dX5_ownerOf_90 hl (by decide) rfl (fun ls hl => ?_)
                refine lv_iinc (v := nI (v + 1)) (lv' := [(8, .int (nI (v + 1))), (6, .int (Pt n v)), (5, .int (nI n)), (9, .int (Pt n v)), (7, .int (nI n)), (4, .int bp), (3, .int b), (2, .int (plF (key : Int32).toInt64)), (0, .ref a), (1, .int key)]) hx hb dX5_ownerOf_92 hl (k := 3) rfl (by exact nI_1 v) (by decide) rfl (fun ls hl => ?_)
                refine lv_goto (tgt := 30) hx hb dX5_ownerOf_95 (by decide) ?_
                exact ih30 (v + 1, b, bp, nI n, Pt n v) _ _ _ _ ls (⟨lv_sub hl [0, 4, 1, 2, 5, 6, 7, 8, 9] rfl, by exact hP, by exact hD, hS, rfl, rfl, ⟨by omega, by first | exact hBI.skip c51 | exact hBI.set hn hv c51 (Or.inl c55) | exact hBI.set hn hv c51 (Or.inr (Int32.not_le.mp c62)) | exact hBI.keep c55 (Int32.not_lt.mpr c62), by first | exact hLI.set hn hv (Or.inl c74) | exact hLI.set hn hv (Or.inr (Int32.not_le.mp c81)) | exact hLI.keep c74 (Int32.not_lt.mpr c81)⟩⟩) (by show _ - (v + 1) < _ - v; omega)
          · refine lv_iload hx hb dX5_ownerOf_65 (lv_at hl 2 rfl) ?_
            refine lv_istore_n (lv' := [(3, .int (nI n)), (9, .int (Pt n v)), (8, .int (nI v)), (7, .int (nI n)), (6, .int lp), (5, .int ll), (4, .int bp), (2, .int (plF (key : Int32).toInt64)), (0, .ref a), (1, .int key)]) hx hb dX5_ownerOf_67 rfl hl (by decide) rfl (fun ls hl => ?_)
            refine lv_iload hx hb dX5_ownerOf_68 (lv_at hl 1 rfl) ?_
            refine lv_istore (lv' := [(4, .int (Pt n v)), (3, .int (nI n)), (9, .int (Pt n v)), (8, .int (nI v)), (7, .int (nI n)), (6, .int lp), (5, .int ll), (2, .int (plF (key : Int32).toInt64)), (0, .ref a), (1, .int key)]) hx hb dX5_ownerOf_70 hl (by decide) rfl (fun ls hl => ?_)
            refine lv_iload hx hb dX5_ownerOf_72 (lv_at hl 6 rfl) ?_
            refine lv_if_lt (tgt := 84) hx hb dX5_ownerOf_74 (by decide) (fun c74 => ?_) (fun c74 => ?_)
            · refine lv_iload hx hb dX5_ownerOf_84 (lv_at hl 4 rfl) ?_
              refine lv_istore (lv' := [(5, .int (nI n)), (4, .int (Pt n v)), (3, .int (nI n)), (9, .int (Pt n v)), (8, .int (nI v)), (7, .int (nI n)), (6, .int lp), (2, .int (plF (key : Int32).toInt64)), (0, .ref a), (1, .int key)]) hx hb dX5_ownerOf_86 hl (by decide) rfl (fun ls hl => ?_)
              refine lv_iload hx hb dX5_ownerOf_88 (lv_at hl 3 rfl) ?_
              refine lv_istore (lv' := [(6, .int (Pt n v)), (5, .int (nI n)), (4, .int (Pt n v)), (3, .int (nI n)), (9, .int (Pt n v)), (8, .int (nI v)), (7, .int (nI n)), (2, .int (plF (key : Int32).toInt64)), (0, .ref a), (1, .int key)]) hx hb dX5_ownerOf_90 hl (by decide) rfl (fun ls hl => ?_)
              refine lv_iinc (v := nI (v + 1)) (lv' := [(8, .int (nI (v + 1))), (6, .int (Pt n v)), (5, .int (nI n)), (4, .int (Pt n v)), (3, .int (nI n)), (9, .int (Pt n v)), (7, .int (nI n)), (2, .int (plF (key : Int32).toInt64)), (0, .ref a), (1, .int key)]) hx hb dX5_ownerOf_92 hl (k := 5) rfl (by exact nI_1 v) (by decide) rfl (fun ls hl => ?_)
              refine lv_goto (tgt := 30) hx hb dX5_ownerOf_95 (by decide) ?_
              exact ih30 (v + 1, nI n, Pt n v, nI n, Pt n v) _ _ _ _ ls (⟨lv_sub hl [0, 6, 1, 2, 3, 4, 7, 8, 9] rfl, by exact hP, by exact hD, hS, rfl, rfl, ⟨by omega, by first | exact hBI.skip c51 | exact hBI.set hn hv c51 (Or.inl c55) | exact hBI.set hn hv c51 (Or.inr (Int32.not_le.mp c62)) | exact hBI.keep c55 (Int32.not_lt.mpr c62), by first | exact hLI.set hn hv (Or.inl c74) | exact hLI.set hn hv (Or.inr (Int32.not_le.mp c81)) | exact hLI.keep c74 (Int32.not_lt.mpr c81)⟩⟩) (by show _ - (v + 1) < _ - v; omega)
            · refine lv_iload hx hb dX5_ownerOf_77 (lv_at hl 2 rfl) ?_
              refine lv_iload hx hb dX5_ownerOf_79 (lv_at hl 5 rfl) ?_
              refine lv_icmp_ge (tgt := 92) hx hb dX5_ownerOf_81 (by decide) (fun c81 => ?_) (fun c81 => ?_)
              · refine lv_iinc (v := nI (v + 1)) (lv' := [(8, .int (nI (v + 1))), (4, .int (Pt n v)), (3, .int (nI n)), (9, .int (Pt n v)), (7, .int (nI n)), (6, .int lp), (5, .int ll), (2, .int (plF (key : Int32).toInt64)), (0, .ref a), (1, .int key)]) hx hb dX5_ownerOf_92 hl (k := 3) rfl (by exact nI_1 v) (by decide) rfl (fun ls hl => ?_)
                refine lv_goto (tgt := 30) hx hb dX5_ownerOf_95 (by decide) ?_
                exact ih30 (v + 1, nI n, Pt n v, ll, lp) _ _ _ _ ls (⟨lv_sub hl [0, 4, 5, 6, 1, 2, 7, 8, 9] rfl, by exact hP, by exact hD, hS, rfl, rfl, ⟨by omega, by first | exact hBI.skip c51 | exact hBI.set hn hv c51 (Or.inl c55) | exact hBI.set hn hv c51 (Or.inr (Int32.not_le.mp c62)) | exact hBI.keep c55 (Int32.not_lt.mpr c62), by first | exact hLI.set hn hv (Or.inl c74) | exact hLI.set hn hv (Or.inr (Int32.not_le.mp c81)) | exact hLI.keep c74 (Int32.not_lt.mpr c81)⟩⟩) (by show _ - (v + 1) < _ - v; omega)
              · refine lv_iload hx hb dX5_ownerOf_84 (lv_at hl 4 rfl) ?_
                refine lv_istore (lv' := [(5, .int (nI n)), (4, .int (Pt n v)), (3, .int (nI n)), (9, .int (Pt n v)), (8, .int (nI v)), (7, .int (nI n)), (6, .int lp), (2, .int (plF (key : Int32).toInt64)), (0, .ref a), (1, .int key)]) hx hb dX5_ownerOf_86 hl (by decide) rfl (fun ls hl => ?_)
                refine lv_iload hx hb dX5_ownerOf_88 (lv_at hl 3 rfl) ?_
                refine lv_istore (lv' := [(6, .int (Pt n v)), (5, .int (nI n)), (4, .int (Pt n v)), (3, .int (nI n)), (9, .int (Pt n v)), (8, .int (nI v)), (7, .int (nI n)), (2, .int (plF (key : Int32).toInt64)), (0, .ref a), (1, .int key)]) hx hb dX5_ownerOf_90 hl (by decide) rfl (fun ls hl => ?_)
                refine lv_iinc (v := nI (v + 1)) (lv' := [(8, .int (nI (v + 1))), (6, .int (Pt n v)), (5, .int (nI n)), (4, .int (Pt n v)), (3, .int (nI n)), (9, .int (Pt n v)), (7, .int (nI n)), (2, .int (plF (key : Int32).toInt64)), (0, .ref a), (1, .int key)]) hx hb dX5_ownerOf_92 hl (k := 5) rfl (by exact nI_1 v) (by decide) rfl (fun ls hl => ?_)
                refine lv_goto (tgt := 30) hx hb dX5_ownerOf_95 (by decide) ?_
                exact ih30 (v + 1, nI n, Pt n v, nI n, Pt n v) _ _ _ _ ls (⟨lv_sub hl [0, 6, 1, 2, 3, 4, 7, 8, 9] rfl, by exact hP, by exact hD, hS, rfl, rfl, ⟨by omega, by first | exact hBI.skip c51 | exact hBI.set hn hv c51 (Or.inl c55) | exact hBI.set hn hv c51 (Or.inr (Int32.not_le.mp c62)) | exact hBI.keep c55 (Int32.not_lt.mpr c62), by first | exact hLI.set hn hv (Or.inl c74) | exact hLI.set hn hv (Or.inr (Int32.not_le.mp c81)) | exact hLI.keep c74 (Int32.not_lt.mpr c81)⟩⟩) (by show _ - (v + 1) < _ - v; omega)
