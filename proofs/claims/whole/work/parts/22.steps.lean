-- the reference: copy, flip, clear, step
section RPu
variable {rows : List (Int32 × Nat × Nat)} {F Gn : Nat} {C : Bool} {ps : Int32} {pk sr tg fl xs : Nat → Int32}
theorem RP.cp (h : RP rows F Gn false ps pk sr tg fl xs) : RP rows F Gn true ps pk sr tg fl (upd xs F 2) := by
  refine ⟨h.1, h.2.1, fun k hk => ⟨h.k hk, h.s hk, h.t hk, h.f hk, ?_⟩⟩
  by_cases e : k = F
  · subst e; rw [pk_us]; exact (sta_2.mpr ⟨rfl, rfl⟩).symm
  · rw [pk_un e, h.x hk]; unfold sta
    split
    · rfl
    · rw [if_neg (fun q => e q.1), if_neg (fun q => e q.1)]
theorem RP.fp (h : RP rows F Gn true ps pk sr tg fl xs) (hG : Gn ≤ F) : RP rows (F + 1) Gn false ps pk sr tg (upd fl F 1) (upd xs F 3) := by
  refine ⟨h.1, h.2.1, fun k hk => ⟨h.k hk, h.s hk, h.t hk, ?_, ?_⟩⟩
  · by_cases e : k = F
    · subst e; rw [pk_us, if_pos (by omega)]
    · rw [pk_un e, h.f hk]
      by_cases c : k < F
      · rw [if_pos c, if_pos (by omega)]
      · rw [if_neg c, if_neg (by omega)]
  · by_cases e : k = F
    · subst e; rw [pk_us]; unfold sta; rw [if_pos (by omega), if_neg (by omega)]
    · rw [pk_un e, h.x hk]; unfold sta
      by_cases c : k < F
      · rw [if_pos c, if_pos (show k < F + 1 by omega)]
      · rw [if_neg c, if_neg (show ¬ k < F + 1 by omega), if_neg (fun q => e q.1), if_neg (fun q => absurd q.2 (by decide))]
theorem RP.cl (h : RP rows F Gn C ps pk sr tg fl xs) (hG : Gn < F) : RP rows F (Gn + 1) C ps pk sr tg fl (upd xs Gn 4) := by
  refine ⟨h.1, h.2.1, fun k hk => ⟨h.k hk, h.s hk, h.t hk, h.f hk, ?_⟩⟩
  by_cases e : k = Gn
  · subst e; rw [pk_us]; unfold sta; rw [if_pos hG, if_pos (by omega)]
  · rw [pk_un e, h.x hk]; unfold sta
    by_cases c : k < F
    · rw [if_pos c, if_pos c]
      by_cases c2 : k < Gn
      · rw [if_pos c2, if_pos (show k < Gn + 1 by omega)]
      · rw [if_neg c2, if_neg (show ¬ k < Gn + 1 by omega)]
    · rw [if_neg c, if_neg c]
end RPu

set_option maxHeartbeats 4000000 in
set_option maxRecDepth 100000 in
theorem c_X5_copy (l : Launch) (D : va_G) (cI cZ cS cJ : ClassId) (sz : Nat) (G : Nat → Nat) (code off left wr rc : Int32) (mem oth ks vs sx : Nat → Int32) (pl ps : Int32) (pk sr tg fl xs : Nat → Int32) (st : Nat → List (Int32 × Int32)) (hst : RS st ks vs sx) (mm : Nat → Nat) (hmm : ∀ n, n < 8 → mem n = nI (mm n)) (hM : MM mm) (rows : List (Int32 × Nat × Nat)) (F Gn : Nat) (C : Bool) (hrp : RP rows F Gn C ps pk sr tg fl xs) (hsr : Srt (pkl rows)) (hpl : pl = 1 ∨ (pl = 0 ∧ rows = [])) (hp8 : P8 rows) (hoff : off = 0 ∨ off = 1) (ho0 : off = 0) (hp0 : ¬ pl = 0) (hk : Gn < rows.length) (hgf : Gn = F) (hC : C = false) (hlen : ∀ n, n < 8 → (st n).length < 1000) : Met l yX5_copy (Cond.code yX5_copy cX5_copy 3 (some .int) :: TB) ({ frames := 3, cells := 0, slots := 0, locals := 71 } : Room) (va_Pc [.ref (G 0), .int (nI Gn)] (PB D (KT cI cZ cS cJ) (mW cI cZ G code off left wr rc mem oth ks vs sx pl ps pk sr tg fl xs) sz)) (va_Qi (fun r (u : MT) => ∃ σ, stepF off left wr rc st mm pl rows F Gn C = (0, r, σ) ∧ RepM σ u ∧ u.1 = code) (fun (u : MT) t => va_P D vwCl (mWu cI cZ G u) t.heap ∧ va_D (va_A (mW cI cZ G code off left wr rc mem oth ks vs sx pl ps pk sr tg fl xs) sz) (mWu cI cZ G u)) (va_A (mW cI cZ G code off left wr rc mem oth ks vs sx pl ps pk sr tg fl xs) sz)) 0 0 (va_A (mW cI cZ G code off left wr rc mem oth ks vs sx pl ps pk sr tg fl xs) sz) := by
  refine Met.ofW (cc := cX5_copy) (maxL := 3) (ret := (some .int)) (by decide) rfl ?_
  intro p e s m args below meth c s₁ B hml hv
  obtain ⟨rfl, hsz, hP, hK, hD0⟩ := hv
  have hx := B.exec
  have hb := B.bytes
  have hr := B.returns
  have hts := atoms_spec (ws := (Cond.code yX5_copy cX5_copy 3 (some .int) :: TB)) B.pre
  have ht : ∀ w ∈ TB, w.before _ s = true := fun w h => hts w (List.mem_cons_of_mem _ h)
  have hown : s.vm.findClass RX5 = some m.cls := findClass_of_methodNamed B.named
  have hlocks := B.notSynchronized
  subst hsz
  have hD := hD0.self (sz := s.heap.size)
  generalize hAe : va_A (mW cI cZ G code off left wr rc mem oth ks vs sx pl ps pk sr tg fl xs) s.heap.size = A at hD ⊢
  have hA : ∀ q : Nat, s.heap.size ≤ q → A q := fun q h => by rw [← hAe]; exact Or.inr h
  have hS : va_S A s.heap s.heap [] := va_S.rf
  have hP : va_P D vwCl (mW cI cZ G code off left wr rc mem oth ks vs sx pl ps pk sr tg fl xs) s.heap := hP
  have hl := lv_entry ([.ref (G 0), .int (nI Gn)]) (n := 3) (Nat.le_of_ble_eq_true rfl)
  rw [lg_entry_eq]
  generalize (lg_sl ([.ref (G 0), .int (nI Gn)]) ++ List.replicate (3 - (lg_sl ([.ref (G 0), .int (nI Gn)])).length) Slot.unset).toArray = ls at hl ⊢
  have hl : lv_has ls 3 [(0, .ref (G 0)), (1, .int (nI Gn))] := hl
  refine lv_aload_n hx hb dX5_copy_0 rfl (lv_at hl 0 rfl) ?_
  have hPc := hP.sub (ws' := mW cI cZ G code off left wr rc mem oth ks vs sx pl ps pk sr tg fl xs) [0, 1, 2, 3, 4, 5, 6, 7, 8, 9, 10] rfl
  have hDc := hD.sub (ws' := mW cI cZ G code off left wr rc mem oth ks vs sx pl ps pk sr tg fl xs) [0, 1, 2, 3, 4, 5, 6, 7, 8, 9, 10] (by decide) rfl
  have hFc := va_free (wc := mW cI cZ G code off left wr rc mem oth ks vs sx pl ps pk sr tg fl xs) hD hS hA [0, 1, 2, 3, 4, 5, 6, 7, 8, 9, 10] rfl
  refine va_calli (va_runV (As := []) (rest := []) ⟨hx, hb, hml, hown, ht⟩ (c_X5_writes l D cI cZ cS cJ s.heap.size G code off left wr rc mem oth ks vs sx pl ps pk sr tg fl xs ) (xwV 0 ht kw3_188 kw3_185 kw1_11 kw3_187 kwS_31 rfl rfl (by decide +kernel) ⟨Nat.le_of_ble_eq_true rfl, Nat.le_of_ble_eq_true rfl⟩) ⟨PB.blind, va_recv hK hPc (ci := 5) (q0 := 0) rfl rfl, fun U hU hW => PB.mk hU hW hPc hK hDc⟩ rfl rfl hl.1 rfl (lv_room (Nat.le_of_ble_eq_true rfl)) dX5_copy_1 ⟨Nat.le_of_ble_eq_true rfl, Nat.le_of_ble_eq_true rfl⟩) hS (fun q _ h => hFc q h) hFc (fun r1 u1 t1 H1 locs ht1 hvm w1 hB hz1 hk1 hS => ?_)
  try dsimp only at w1 hB
  obtain ⟨hP1, hD1⟩ := hB
  rw [ht1] at hP1
  obtain ⟨hP, hD⟩ := wk_join (w1 := (mW cI cZ G code (wOff left off) (wLeft left) (wInc left wr) rc mem oth ks vs sx pl ps pk sr tg fl xs)) hP hD [0, 1, 2, 3, 4, 5, 6, 7, 8, 9, 10] rfl (by decide) rfl hk1 hFc hP1 hD1
  generalize H1 = H at hP hS ⊢
  have hP : va_P D vwCl (mW cI cZ G code (wOff left off) (wLeft left) (wInc left wr) rc mem oth ks vs sx pl ps pk sr tg fl xs) H := hP
  have hD : va_D A (mW cI cZ G code (wOff left off) (wLeft left) (wInc left wr) rc mem oth ks vs sx pl ps pk sr tg fl xs) := hD
  refine lv_if_ne (tgt := 10) hx hb dX5_copy_4 (by decide) (fun c4 => ?_) (fun c4 => ?_)
  · have hl1 : ¬ left = 0 := wOk_1 (by rw [← w1]; exact c4)
    rw [show wOff left off = off from if_neg hl1, show wInc left wr = wr + 1 from if_neg hl1] at hP hD
    refine lv_aload_n hx hb dX5_copy_10 rfl (lv_at hl 0 rfl) ?_
    refine va_get (D := D) (ci := 5) (v := .ref (G 6)) (C := RX5) (T := TX5) (N := 17) hx hb ht inX5 hown hK hP 0 rfl rfl 12 (by decide) (ht _ kw3_92) (fun _ h9 => h9) rfl dX5_copy_11 ?_
    refine lv_iload_n hx hb dX5_copy_14 rfl (lv_at hl 1 rfl) ?_
    refine ya_iald hx hb hK hP 6 0 rfl rfl Gn (rfl) (by have := hrp.le; omega) (by decide) dX5_copy_15 ?_
    rw [hrp.k hk]
    refine lv_istore_n (lv' := [(2, .int (pK rows Gn)), (0, .ref (G 0)), (1, .int (nI Gn))]) hx hb dX5_copy_16 rfl hl (by decide) rfl (fun ls hl => ?_)
    refine lv_aload_n hx hb dX5_copy_17 rfl (lv_at hl 1 rfl) ?_
    refine lv_aload_n hx hb dX5_copy_18 rfl (lv_at hl 1 rfl) ?_
    refine va_get (D := D) (ci := 5) (v := .ref (G 7)) (C := RX5) (T := TX5) (N := 17) hx hb ht inX5 hown hK hP 0 rfl rfl 13 (by decide) (ht _ kw3_93) (fun _ h9 => h9) rfl dX5_copy_19 ?_
    refine lv_iload_n hx hb dX5_copy_22 rfl (lv_at hl 2 rfl) ?_
    refine ya_iald hx hb hK hP 7 0 rfl rfl Gn (rfl) (by have := hrp.le; omega) (by decide) dX5_copy_23 ?_
    rw [hrp.s hk]
    refine lv_iload_n hx hb dX5_copy_24 rfl (lv_at hl 0 rfl) ?_
    have h8s := (hp8 Gn hk).1
    have h8t := (hp8 Gn hk).2
    have hPc := hP.sub (ws' := mW cI cZ G code off (wLeft left) (wr + 1) rc mem oth ks vs sx pl ps pk sr tg fl xs) [0, 1, 2, 3, 4, 5, 6, 7, 8, 9, 10] rfl
    have hDc := hD.sub (ws' := mW cI cZ G code off (wLeft left) (wr + 1) rc mem oth ks vs sx pl ps pk sr tg fl xs) [0, 1, 2, 3, 4, 5, 6, 7, 8, 9, 10] (by decide) rfl
    have hFc := va_free (wc := mW cI cZ G code off (wLeft left) (wr + 1) rc mem oth ks vs sx pl ps pk sr tg fl xs) hD hS hA [0, 1, 2, 3, 4, 5, 6, 7, 8, 9, 10] rfl
    refine va_calli (va_runV (As := [.int (nI (pS rows Gn)), .int (pK rows Gn)]) (rest := []) ⟨hx, hb, hml, hown, ht⟩ (c_X5_has l D cI cZ cS cJ H.size G code off (wLeft left) (wr + 1) rc mem oth ks vs sx pl ps pk sr tg fl xs st hst (pS rows Gn) h8s (pK rows Gn)) (xwV 2 ht kw3_176 kw3_173 kw1_11 kw3_175 kwS_28 rfl rfl (by decide +kernel) ⟨Nat.le_of_ble_eq_true rfl, Nat.le_of_ble_eq_true rfl⟩) ⟨PB.blind, va_recv hK hPc (ci := 5) (q0 := 0) rfl rfl, fun U hU hW => PB.mk hU hW hPc hK hDc⟩ rfl rfl hl.1 rfl (lv_room (Nat.le_of_ble_eq_true rfl)) dX5_copy_25 ⟨Nat.le_of_ble_eq_true rfl, Nat.le_of_ble_eq_true rfl⟩) hS (fun q _ h => hFc q h) hFc (fun r25 u25 t25 H1 locs ht1 hvm w25 hB hz1 hk1 hS => ?_)
    try dsimp only at w25 hB
    rw [ht1] at hB
    have hP := wk_ro hP hD [0, 1, 2, 3, 4, 5, 6, 7, 8, 9, 10] rfl hk1 hB
    generalize H1 = H at hP hS ⊢
    refine lv_if_eq (tgt := 56) hx hb dX5_copy_28 (by decide) (fun c28 => ?_) (fun c28 => ?_)
    · have hh : ¬ hs (st (pS rows Gn)) (pK rows Gn) = true := fun q => by rw [w25, if_pos q] at c28; exact absurd c28 (by decide)
      refine lv_aload_n hx hb dX5_copy_56 rfl (lv_at hl 1 rfl) ?_
      refine lv_aload_n hx hb dX5_copy_57 rfl (lv_at hl 1 rfl) ?_
      refine va_get (D := D) (ci := 5) (v := .ref (G 8)) (C := RX5) (T := TX5) (N := 17) hx hb ht inX5 hown hK hP 0 rfl rfl 14 (by decide) (ht _ kw3_94) (fun _ h9 => h9) rfl dX5_copy_58 ?_
      refine lv_iload_n hx hb dX5_copy_61 rfl (lv_at hl 2 rfl) ?_
      refine ya_iald hx hb hK hP 8 0 rfl rfl Gn (rfl) (by have := hrp.le; omega) (by decide) dX5_copy_62 ?_
      rw [hrp.t hk]
      refine lv_iload_n hx hb dX5_copy_63 rfl (lv_at hl 0 rfl) ?_
      have hPc := hP.sub (ws' := mW cI cZ G code off (wLeft left) (wr + 1) rc mem oth ks vs sx pl ps pk sr tg fl xs) [0, 1, 2, 3, 4, 5, 6, 7, 8, 9, 10] rfl
      have hDc := hD.sub (ws' := mW cI cZ G code off (wLeft left) (wr + 1) rc mem oth ks vs sx pl ps pk sr tg fl xs) [0, 1, 2, 3, 4, 5, 6, 7, 8, 9, 10] (by decide) rfl
      have hFc := va_free (wc := mW cI cZ G code off (wLeft left) (wr + 1) rc mem oth ks vs sx pl ps pk sr tg fl xs) hD hS hA [0, 1, 2, 3, 4, 5, 6, 7, 8, 9, 10] rfl
      refine va_callv (va_runV (As := [.int (nI (pT rows Gn)), .int (pK rows Gn)]) (rest := []) ⟨hx, hb, hml, hown, ht⟩ (c_X5_takeOff l D cI cZ cS cJ H.size G code off (wLeft left) (wr + 1) rc mem oth ks vs sx pl ps pk sr tg fl xs st hst (pT rows Gn) h8t (pK rows Gn)) (xwV 2 ht kw3_200 kw3_197 kw1_11 kw3_199 kwS_33 rfl rfl (by decide +kernel) ⟨Nat.le_of_ble_eq_true rfl, Nat.le_of_ble_eq_true rfl⟩) ⟨PB.blind, va_recv hK hPc (ci := 5) (q0 := 0) rfl rfl, fun U hU hW => PB.mk hU hW hPc hK hDc⟩ rfl rfl hl.1 rfl (lv_room (Nat.le_of_ble_eq_true rfl)) dX5_copy_64 ⟨Nat.le_of_ble_eq_true rfl, Nat.le_of_ble_eq_true rfl⟩) hS (fun q _ h => hFc q h) hFc (fun u64 t64 H1 locs ht1 hvm w64 hB hz1 hk1 hS => ?_)
      try dsimp only at w64 hB
      obtain ⟨hP1, hD1⟩ := hB
      rw [ht1] at hP1
      obtain ⟨hP, hD⟩ := wk_join (w1 := (mW cI cZ G code off (wLeft left) (wr + 1) rc mem oth u64.1 u64.2.1 u64.2.2 pl ps pk sr tg fl xs)) hP hD [0, 1, 2, 3, 4, 5, 6, 7, 8, 9, 10] rfl (by decide) rfl hk1 hFc hP1 hD1
      generalize H1 = H at hP hS ⊢
      have hP : va_P D vwCl (mW cI cZ G code off (wLeft left) (wr + 1) rc mem oth u64.1 u64.2.1 u64.2.2 pl ps pk sr tg fl xs) H := hP
      have hD : va_D A (mW cI cZ G code off (wLeft left) (wr + 1) rc mem oth u64.1 u64.2.1 u64.2.2 pl ps pk sr tg fl xs) := hD
      have hst1 := w64
      refine lv_aload_n hx hb dX5_copy_67 rfl (lv_at hl 1 rfl) ?_
      refine va_get (D := D) (ci := 5) (v := .ref (G 10)) (C := RX5) (T := TX5) (N := 17) hx hb ht inX5 hown hK hP 0 rfl rfl 16 (by decide) (ht _ kw3_96) (fun _ h9 => h9) rfl dX5_copy_68 ?_
      refine lv_iload_n hx hb dX5_copy_71 rfl (lv_at hl 2 rfl) ?_
      refine lv_iconst (v := 2) hx hb dX5_copy_72 (by decide) ?_
      refine ya_iast hx hb hK hP hD hS 10 0 rfl rfl Gn (rfl) (by have := hrp.le; omega) (by decide) dX5_copy_73 (fun H locs hP hD hS => ?_)
      have hP : va_P D vwCl (mW cI cZ G code off (wLeft left) (wr + 1) rc mem oth u64.1 u64.2.1 u64.2.2 pl ps pk sr tg fl (upd xs Gn 2)) H := hP
      have hD : va_D A (mW cI cZ G code off (wLeft left) (wr + 1) rc mem oth u64.1 u64.2.1 u64.2.2 pl ps pk sr tg fl (upd xs Gn 2)) := hD
      refine lv_iconst (v := 2) hx hb dX5_copy_74 (by decide) ?_
      exact W.iret (v := 2) hx hb hr (fun t ht2 hW => ⟨⟨2, (code, off, wLeft left, wr + 1, rc, mem, oth, u64.1, u64.2.1, u64.2.2, pl, ps, pk, sr, tg, fl, upd xs Gn 2), rfl, by
            (try dsimp only)
            (try dsimp only)
            refine ⟨(off, wLeft left, wr + 1, rc, fu st (pT rows Gn) (if hs (st (pS rows Gn)) (pK rows Gn) = true then ins (st (pT rows Gn)) (pK rows Gn) (vx (st (pS rows Gn)) (rk (st (pS rows Gn)) (pK rows Gn))) else del (st (pT rows Gn)) (pK rows Gn)), mm, pl, rows, F, Gn, true), ?_, RepM.mk (by first | (rw [if_pos hh]; exact hst1) | (rw [if_neg hh]; exact hst1)) hmm (by rw [hC] at hrp; rw [show upd xs Gn 2 = upd xs F 2 by rw [hgf]]; exact hrp.cp), rfl⟩
            unfold stepF
            rw [if_neg (fun q => q.elim (fun z => z ho0) hp0), if_neg hl1, if_neg (show ¬ Gn = rows.length by omega), if_neg (show ¬ Gn < F by omega), if_neg (by rw [hC]; decide)], ⟨by (try dsimp only); rw [ht2]; exact hP, by exact hD⟩⟩, hS.F ht2⟩) hS.2.2 dX5_copy_75
    · have hh : hs (st (pS rows Gn)) (pK rows Gn) = true := Decidable.byContradiction (fun q => c28 (by rw [w25, if_neg q]))
      refine lv_aload_n hx hb dX5_copy_31 rfl (lv_at hl 1 rfl) ?_
      refine lv_aload_n hx hb dX5_copy_32 rfl (lv_at hl 1 rfl) ?_
      refine va_get (D := D) (ci := 5) (v := .ref (G 8)) (C := RX5) (T := TX5) (N := 17) hx hb ht inX5 hown hK hP 0 rfl rfl 14 (by decide) (ht _ kw3_94) (fun _ h9 => h9) rfl dX5_copy_33 ?_
      refine lv_iload_n hx hb dX5_copy_36 rfl (lv_at hl 2 rfl) ?_
      refine ya_iald hx hb hK hP 8 0 rfl rfl Gn (rfl) (by have := hrp.le; omega) (by decide) dX5_copy_37 ?_
      rw [hrp.t hk]
      refine lv_iload_n hx hb dX5_copy_38 rfl (lv_at hl 0 rfl) ?_
      refine lv_aload_n hx hb dX5_copy_39 rfl (lv_at hl 1 rfl) ?_
      refine lv_aload_n hx hb dX5_copy_40 rfl (lv_at hl 1 rfl) ?_
      refine va_get (D := D) (ci := 5) (v := .ref (G 7)) (C := RX5) (T := TX5) (N := 17) hx hb ht inX5 hown hK hP 0 rfl rfl 13 (by decide) (ht _ kw3_93) (fun _ h9 => h9) rfl dX5_copy_41 ?_
      refine lv_iload_n hx hb dX5_copy_44 rfl (lv_at hl 2 rfl) ?_
      refine ya_iald hx hb hK hP 7 0 rfl rfl Gn (rfl) (by have := hrp.le; omega) (by decide) dX5_copy_45 ?_
      rw [hrp.s hk]
      refine lv_iload_n hx hb dX5_copy_46 rfl (lv_at hl 0 rfl) ?_
      have hPc := hP.sub (ws' := mW cI cZ G code off (wLeft left) (wr + 1) rc mem oth ks vs sx pl ps pk sr tg fl xs) [0, 1, 2, 3, 4, 5, 6, 7, 8, 9, 10] rfl
      have hDc := hD.sub (ws' := mW cI cZ G code off (wLeft left) (wr + 1) rc mem oth ks vs sx pl ps pk sr tg fl xs) [0, 1, 2, 3, 4, 5, 6, 7, 8, 9, 10] (by decide) rfl
      have hFc := va_free (wc := mW cI cZ G code off (wLeft left) (wr + 1) rc mem oth ks vs sx pl ps pk sr tg fl xs) hD hS hA [0, 1, 2, 3, 4, 5, 6, 7, 8, 9, 10] rfl
      refine va_calli (va_runV (As := [.int (nI (pS rows Gn)), .int (pK rows Gn)]) (rest := [.int (pK rows Gn), .int (nI (pT rows Gn)), .ref (G 0)]) ⟨hx, hb, hml, hown, ht⟩ (c_X5_valueIn l D cI cZ cS cJ H.size G code off (wLeft left) (wr + 1) rc mem oth ks vs sx pl ps pk sr tg fl xs st hst (pS rows Gn) h8s (pK rows Gn) hh) (xwV 2 ht kw3_208 kw3_205 kw1_11 kw3_207 kwS_34 rfl rfl (by decide +kernel) ⟨Nat.le_of_ble_eq_true rfl, Nat.le_of_ble_eq_true rfl⟩) ⟨PB.blind, va_recv hK hPc (ci := 5) (q0 := 0) rfl rfl, fun U hU hW => PB.mk hU hW hPc hK hDc⟩ rfl rfl hl.1 rfl (lv_room (Nat.le_of_ble_eq_true rfl)) dX5_copy_47 ⟨Nat.le_of_ble_eq_true rfl, Nat.le_of_ble_eq_true rfl⟩) hS (fun q _ h => hFc q h) hFc (fun r47 u47 t47 H1 locs ht1 hvm w47 hB hz1 hk1 hS => ?_)
      try dsimp only at w47 hB
      rw [ht1] at hB
      have hP := wk_ro hP hD [0, 1, 2, 3, 4, 5, 6, 7, 8, 9, 10] rfl hk1 hB
      generalize H1 = H at hP hS ⊢
      have w47 := w47.symm
      subst w47
      have hPc := hP.sub (ws' := mW cI cZ G code off (wLeft left) (wr + 1) rc mem oth ks vs sx pl ps pk sr tg fl xs) [0, 1, 2, 3, 4, 5, 6, 7, 8, 9, 10] rfl
      have hDc := hD.sub (ws' := mW cI cZ G code off (wLeft left) (wr + 1) rc mem oth ks vs sx pl ps pk sr tg fl xs) [0, 1, 2, 3, 4, 5, 6, 7, 8, 9, 10] (by decide) rfl
      have hFc := va_free (wc := mW cI cZ G code off (wLeft left) (wr + 1) rc mem oth ks vs sx pl ps pk sr tg fl xs) hD hS hA [0, 1, 2, 3, 4, 5, 6, 7, 8, 9, 10] rfl
      refine va_callv (va_runV (As := [.int (nI (pT rows Gn)), .int (pK rows Gn), .int (vx (st (pS rows Gn)) (rk (st (pS rows Gn)) (pK rows Gn)))]) (rest := []) ⟨hx, hb, hml, hown, ht⟩ (c_X5_store l D cI cZ cS cJ H.size G code off (wLeft left) (wr + 1) rc mem oth ks vs sx pl ps pk sr tg fl xs st hst (pT rows Gn) h8t (pK rows Gn) (vx (st (pS rows Gn)) (rk (st (pS rows Gn)) (pK rows Gn))) (hlen _ h8t)) (xwV 3 ht kw3_192 kw3_189 kw1_11 kw3_191 kwS_32 rfl rfl (by decide +kernel) ⟨Nat.le_of_ble_eq_true rfl, Nat.le_of_ble_eq_true rfl⟩) ⟨PB.blind, va_recv hK hPc (ci := 5) (q0 := 0) rfl rfl, fun U hU hW => PB.mk hU hW hPc hK hDc⟩ rfl rfl hl.1 rfl (lv_room (Nat.le_of_ble_eq_true rfl)) dX5_copy_50 ⟨Nat.le_of_ble_eq_true rfl, Nat.le_of_ble_eq_true rfl⟩) hS (fun q _ h => hFc q h) hFc (fun u50 t50 H1 locs ht1 hvm w50 hB hz1 hk1 hS => ?_)
      try dsimp only at w50 hB
      obtain ⟨hP1, hD1⟩ := hB
      rw [ht1] at hP1
      obtain ⟨hP, hD⟩ := wk_join (w1 := (mW cI cZ G code off (wLeft left) (wr + 1) rc mem oth u50.1 u50.2.1 u50.2.2 pl ps pk sr tg fl xs)) hP hD [0, 1, 2, 3, 4, 5, 6, 7, 8, 9, 10] rfl (by decide) rfl hk1 hFc hP1 hD1
      generalize H1 = H at hP hS ⊢
      have hP : va_P D vwCl (mW cI cZ G code off (wLeft left) (wr + 1) rc mem oth u50.1 u50.2.1 u50.2.2 pl ps pk sr tg fl xs) H := hP
      have hD : va_D A (mW cI cZ G code off (wLeft left) (wr + 1) rc mem oth u50.1 u50.2.1 u50.2.2 pl ps pk sr tg fl xs) := hD
      have hst1 := w50
      refine lv_goto (tgt := 67) hx hb dX5_copy_53 (by decide) ?_
      refine lv_aload_n hx hb dX5_copy_67 rfl (lv_at hl 1 rfl) ?_
      refine va_get (D := D) (ci := 5) (v := .ref (G 10)) (C := RX5) (T := TX5) (N := 17) hx hb ht inX5 hown hK hP 0 rfl rfl 16 (by decide) (ht _ kw3_96) (fun _ h9 => h9) rfl dX5_copy_68 ?_
      refine lv_iload_n hx hb dX5_copy_71 rfl (lv_at hl 2 rfl) ?_
      refine lv_iconst (v := 2) hx hb dX5_copy_72 (by decide) ?_
      refine ya_iast hx hb hK hP hD hS 10 0 rfl rfl Gn (rfl) (by have := hrp.le; omega) (by decide) dX5_copy_73 (fun H locs hP hD hS => ?_)
      have hP : va_P D vwCl (mW cI cZ G code off (wLeft left) (wr + 1) rc mem oth u50.1 u50.2.1 u50.2.2 pl ps pk sr tg fl (upd xs Gn 2)) H := hP
      have hD : va_D A (mW cI cZ G code off (wLeft left) (wr + 1) rc mem oth u50.1 u50.2.1 u50.2.2 pl ps pk sr tg fl (upd xs Gn 2)) := hD
      refine lv_iconst (v := 2) hx hb dX5_copy_74 (by decide) ?_
      exact W.iret (v := 2) hx hb hr (fun t ht2 hW => ⟨⟨2, (code, off, wLeft left, wr + 1, rc, mem, oth, u50.1, u50.2.1, u50.2.2, pl, ps, pk, sr, tg, fl, upd xs Gn 2), rfl, by
            (try dsimp only)
            (try dsimp only)
            refine ⟨(off, wLeft left, wr + 1, rc, fu st (pT rows Gn) (if hs (st (pS rows Gn)) (pK rows Gn) = true then ins (st (pT rows Gn)) (pK rows Gn) (vx (st (pS rows Gn)) (rk (st (pS rows Gn)) (pK rows Gn))) else del (st (pT rows Gn)) (pK rows Gn)), mm, pl, rows, F, Gn, true), ?_, RepM.mk (by first | (rw [if_pos hh]; exact hst1) | (rw [if_neg hh]; exact hst1)) hmm (by rw [hC] at hrp; rw [show upd xs Gn 2 = upd xs F 2 by rw [hgf]]; exact hrp.cp), rfl⟩
            unfold stepF
            rw [if_neg (fun q => q.elim (fun z => z ho0) hp0), if_neg hl1, if_neg (show ¬ Gn = rows.length by omega), if_neg (show ¬ Gn < F by omega), if_neg (by rw [hC]; decide)], ⟨by (try dsimp only); rw [ht2]; exact hP, by exact hD⟩⟩, hS.F ht2⟩) hS.2.2 dX5_copy_75
  · have hl1 : left = 0 := wOk_0 (by rw [← w1]; exact c4)
    rw [show wOff left off = 1 from if_pos hl1, show wInc left wr = wr from if_pos hl1, wLeft_0 hl1] at hP hD
    refine lv_bipush (v := (-9)) hx hb dX5_copy_7 (by decide) ?_
    exact W.iret (v := (-9)) hx hb hr (fun t ht2 hW => ⟨⟨(-9), (code, 1, left, wr, rc, mem, oth, ks, vs, sx, pl, ps, pk, sr, tg, fl, xs), rfl, by
          (try dsimp only)
          (try dsimp only)
          refine ⟨(1, left, wr, rc, st, mm, pl, rows, F, Gn, C), ?_, RepM.mk hst hmm hrp, rfl⟩
          unfold stepF
          rw [if_neg (fun q => q.elim (fun z => z ho0) hp0), if_pos hl1], ⟨by (try dsimp only); rw [ht2]; exact hP, by exact hD⟩⟩, hS.F ht2⟩) hS.2.2 dX5_copy_9

set_option maxHeartbeats 4000000 in
set_option maxRecDepth 100000 in
theorem c_X5_flip (l : Launch) (D : va_G) (cI cZ cS cJ : ClassId) (sz : Nat) (G : Nat → Nat) (code off left wr rc : Int32) (mem oth ks vs sx : Nat → Int32) (pl ps : Int32) (pk sr tg fl xs : Nat → Int32) (st : Nat → List (Int32 × Int32)) (hst : RS st ks vs sx) (mm : Nat → Nat) (hmm : ∀ n, n < 8 → mem n = nI (mm n)) (hM : MM mm) (rows : List (Int32 × Nat × Nat)) (F Gn : Nat) (C : Bool) (hrp : RP rows F Gn C ps pk sr tg fl xs) (hsr : Srt (pkl rows)) (hpl : pl = 1 ∨ (pl = 0 ∧ rows = [])) (hp8 : P8 rows) (hoff : off = 0 ∨ off = 1) (ho0 : off = 0) (hp0 : ¬ pl = 0) (hk : Gn < rows.length) (hgf : Gn = F) (hC : C = true) : Met l yX5_flip (Cond.code yX5_flip cX5_flip 2 (some .int) :: TB) ({ frames := 2, cells := 0, slots := 0, locals := 41 } : Room) (va_Pc [.ref (G 0), .int (nI Gn)] (PB D (KT cI cZ cS cJ) (mW cI cZ G code off left wr rc mem oth ks vs sx pl ps pk sr tg fl xs) sz)) (va_Qi (fun r (u : MT) => ∃ σ, stepF off left wr rc st mm pl rows F Gn C = (0, r, σ) ∧ RepM σ u ∧ u.1 = code) (fun (u : MT) t => va_P D vwCl (mWu cI cZ G u) t.heap ∧ va_D (va_A (mW cI cZ G code off left wr rc mem oth ks vs sx pl ps pk sr tg fl xs) sz) (mWu cI cZ G u)) (va_A (mW cI cZ G code off left wr rc mem oth ks vs sx pl ps pk sr tg fl xs) sz)) 0 0 (va_A (mW cI cZ G code off left wr rc mem oth ks vs sx pl ps pk sr tg fl xs) sz) := by
  refine Met.ofW (cc := cX5_flip) (maxL := 2) (ret := (some .int)) (by decide) rfl ?_
  intro p e s m args below meth c s₁ B hml hv
  obtain ⟨rfl, hsz, hP, hK, hD0⟩ := hv
  have hx := B.exec
  have hb := B.bytes
  have hr := B.returns
  have hts := atoms_spec (ws := (Cond.code yX5_flip cX5_flip 2 (some .int) :: TB)) B.pre
  have ht : ∀ w ∈ TB, w.before _ s = true := fun w h => hts w (List.mem_cons_of_mem _ h)
  have hown : s.vm.findClass RX5 = some m.cls := findClass_of_methodNamed B.named
  have hlocks := B.notSynchronized
  subst hsz
  have hD := hD0.self (sz := s.heap.size)
  generalize hAe : va_A (mW cI cZ G code off left wr rc mem oth ks vs sx pl ps pk sr tg fl xs) s.heap.size = A at hD ⊢
  have hA : ∀ q : Nat, s.heap.size ≤ q → A q := fun q h => by rw [← hAe]; exact Or.inr h
  have hS : va_S A s.heap s.heap [] := va_S.rf
  have hP : va_P D vwCl (mW cI cZ G code off left wr rc mem oth ks vs sx pl ps pk sr tg fl xs) s.heap := hP
  have hl := lv_entry ([.ref (G 0), .int (nI Gn)]) (n := 2) (Nat.le_of_ble_eq_true rfl)
  rw [lg_entry_eq]
  generalize (lg_sl ([.ref (G 0), .int (nI Gn)]) ++ List.replicate (2 - (lg_sl ([.ref (G 0), .int (nI Gn)])).length) Slot.unset).toArray = ls at hl ⊢
  have hl : lv_has ls 2 [(0, .ref (G 0)), (1, .int (nI Gn))] := hl
  refine lv_aload_n hx hb dX5_flip_0 rfl (lv_at hl 0 rfl) ?_
  have hPc := hP.sub (ws' := mW cI cZ G code off left wr rc mem oth ks vs sx pl ps pk sr tg fl xs) [0, 1, 2, 3, 4, 5, 6, 7, 8, 9, 10] rfl
  have hDc := hD.sub (ws' := mW cI cZ G code off left wr rc mem oth ks vs sx pl ps pk sr tg fl xs) [0, 1, 2, 3, 4, 5, 6, 7, 8, 9, 10] (by decide) rfl
  have hFc := va_free (wc := mW cI cZ G code off left wr rc mem oth ks vs sx pl ps pk sr tg fl xs) hD hS hA [0, 1, 2, 3, 4, 5, 6, 7, 8, 9, 10] rfl
  refine va_calli (va_runV (As := []) (rest := []) ⟨hx, hb, hml, hown, ht⟩ (c_X5_record l D cI cZ cS cJ s.heap.size G code off left wr rc mem oth ks vs sx pl ps pk sr tg fl xs ) (xwV 0 ht kw3_224 kw3_221 kw1_11 kw3_223 kwS_37 rfl rfl (by decide +kernel) ⟨Nat.le_of_ble_eq_true rfl, Nat.le_of_ble_eq_true rfl⟩) ⟨PB.blind, va_recv hK hPc (ci := 5) (q0 := 0) rfl rfl, fun U hU hW => PB.mk hU hW hPc hK hDc⟩ rfl rfl hl.1 rfl (lv_room (Nat.le_of_ble_eq_true rfl)) dX5_flip_1 ⟨Nat.le_of_ble_eq_true rfl, Nat.le_of_ble_eq_true rfl⟩) hS (fun q _ h => hFc q h) hFc (fun r1 u1 t1 H1 locs ht1 hvm w1 hB hz1 hk1 hS => ?_)
  try dsimp only at w1 hB
  obtain ⟨hP1, hD1⟩ := hB
  rw [ht1] at hP1
  obtain ⟨hP, hD⟩ := wk_join (w1 := (mW cI cZ G code (wOff left off) (wLeft left) (wInc left wr) (wInc left rc) mem oth ks vs sx pl ps pk sr tg fl xs)) hP hD [0, 1, 2, 3, 4, 5, 6, 7, 8, 9, 10] rfl (by decide) rfl hk1 hFc hP1 hD1
  generalize H1 = H at hP hS ⊢
  have hP : va_P D vwCl (mW cI cZ G code (wOff left off) (wLeft left) (wInc left wr) (wInc left rc) mem oth ks vs sx pl ps pk sr tg fl xs) H := hP
  have hD : va_D A (mW cI cZ G code (wOff left off) (wLeft left) (wInc left wr) (wInc left rc) mem oth ks vs sx pl ps pk sr tg fl xs) := hD
  refine lv_if_ne (tgt := 10) hx hb dX5_flip_4 (by decide) (fun c4 => ?_) (fun c4 => ?_)
  · have hl1 : ¬ left = 0 := wOk_1 (by rw [← w1]; exact c4)
    rw [show wOff left off = off from if_neg hl1, show wInc left wr = wr + 1 from if_neg hl1, show wInc left rc = rc + 1 from if_neg hl1] at hP hD
    refine lv_aload_n hx hb dX5_flip_10 rfl (lv_at hl 0 rfl) ?_
    refine va_get (D := D) (ci := 5) (v := .ref (G 9)) (C := RX5) (T := TX5) (N := 17) hx hb ht inX5 hown hK hP 0 rfl rfl 15 (by decide) (ht _ kw3_95) (fun _ h9 => h9) rfl dX5_flip_11 ?_
    refine lv_iload_n hx hb dX5_flip_14 rfl (lv_at hl 1 rfl) ?_
    refine lv_iconst (v := 1) hx hb dX5_flip_15 (by decide) ?_
    refine ya_zast hx hb hK hP hD hS 9 1 rfl rfl Gn (rfl) (by have := hrp.le; omega) (by decide) (by decide) dX5_flip_16 (fun H locs hP hD hS => ?_)
    have hP : va_P D vwCl (mW cI cZ G code off (wLeft left) (wr + 1) (rc + 1) mem oth ks vs sx pl ps pk sr tg (upd fl Gn 1) xs) H := hP
    have hD : va_D A (mW cI cZ G code off (wLeft left) (wr + 1) (rc + 1) mem oth ks vs sx pl ps pk sr tg (upd fl Gn 1) xs) := hD
    refine lv_aload_n hx hb dX5_flip_17 rfl (lv_at hl 0 rfl) ?_
    refine va_get (D := D) (ci := 5) (v := .ref (G 10)) (C := RX5) (T := TX5) (N := 17) hx hb ht inX5 hown hK hP 0 rfl rfl 16 (by decide) (ht _ kw3_96) (fun _ h9 => h9) rfl dX5_flip_18 ?_
    refine lv_iload_n hx hb dX5_flip_21 rfl (lv_at hl 1 rfl) ?_
    refine lv_iconst (v := 3) hx hb dX5_flip_22 (by decide) ?_
    refine ya_iast hx hb hK hP hD hS 10 0 rfl rfl Gn (rfl) (by have := hrp.le; omega) (by decide) dX5_flip_23 (fun H locs hP hD hS => ?_)
    have hP : va_P D vwCl (mW cI cZ G code off (wLeft left) (wr + 1) (rc + 1) mem oth ks vs sx pl ps pk sr tg (upd fl Gn 1) (upd xs Gn 3)) H := hP
    have hD : va_D A (mW cI cZ G code off (wLeft left) (wr + 1) (rc + 1) mem oth ks vs sx pl ps pk sr tg (upd fl Gn 1) (upd xs Gn 3)) := hD
    refine lv_iconst (v := 3) hx hb dX5_flip_24 (by decide) ?_
    exact W.iret (v := 3) hx hb hr (fun t ht2 hW => ⟨⟨3, (code, off, wLeft left, wr + 1, rc + 1, mem, oth, ks, vs, sx, pl, ps, pk, sr, tg, upd fl Gn 1, upd xs Gn 3), rfl, by
          (try dsimp only)
          (try dsimp only)
          refine ⟨(off, wLeft left, wr + 1, rc + 1, st, mm, pl, rows, F + 1, Gn, false), ?_, RepM.mk hst hmm (by rw [hC] at hrp; rw [show upd xs Gn 3 = upd xs F 3 by rw [hgf], show upd fl Gn 1 = upd fl F 1 by rw [hgf]]; exact hrp.fp (by omega)), rfl⟩
          unfold stepF
          rw [if_neg (fun q => q.elim (fun z => z ho0) hp0), if_neg hl1, if_neg (show ¬ Gn = rows.length by omega), if_neg (show ¬ Gn < F by omega), if_pos hC], ⟨by (try dsimp only); rw [ht2]; exact hP, by exact hD⟩⟩, hS.F ht2⟩) hS.2.2 dX5_flip_25
  · have hl1 : left = 0 := wOk_0 (by rw [← w1]; exact c4)
    rw [show wOff left off = 1 from if_pos hl1, show wInc left wr = wr from if_pos hl1, show wInc left rc = rc from if_pos hl1, wLeft_0 hl1] at hP hD
    refine lv_bipush (v := (-9)) hx hb dX5_flip_7 (by decide) ?_
    exact W.iret (v := (-9)) hx hb hr (fun t ht2 hW => ⟨⟨(-9), (code, 1, left, wr, rc, mem, oth, ks, vs, sx, pl, ps, pk, sr, tg, fl, xs), rfl, by
          (try dsimp only)
          (try dsimp only)
          refine ⟨(1, left, wr, rc, st, mm, pl, rows, F, Gn, C), ?_, RepM.mk hst hmm hrp, rfl⟩
          unfold stepF
          rw [if_neg (fun q => q.elim (fun z => z ho0) hp0), if_pos hl1], ⟨by (try dsimp only); rw [ht2]; exact hP, by exact hD⟩⟩, hS.F ht2⟩) hS.2.2 dX5_flip_9

set_option maxHeartbeats 4000000 in
set_option maxRecDepth 100000 in
theorem c_X5_clear (l : Launch) (D : va_G) (cI cZ cS cJ : ClassId) (sz : Nat) (G : Nat → Nat) (code off left wr rc : Int32) (mem oth ks vs sx : Nat → Int32) (pl ps : Int32) (pk sr tg fl xs : Nat → Int32) (st : Nat → List (Int32 × Int32)) (hst : RS st ks vs sx) (mm : Nat → Nat) (hmm : ∀ n, n < 8 → mem n = nI (mm n)) (hM : MM mm) (rows : List (Int32 × Nat × Nat)) (F Gn : Nat) (C : Bool) (hrp : RP rows F Gn C ps pk sr tg fl xs) (hsr : Srt (pkl rows)) (hpl : pl = 1 ∨ (pl = 0 ∧ rows = [])) (hp8 : P8 rows) (hoff : off = 0 ∨ off = 1) (ho0 : off = 0) (hp0 : ¬ pl = 0) (hk : Gn < rows.length) (hgf : Gn < F) : Met l yX5_clear (Cond.code yX5_clear cX5_clear 2 (some .int) :: TB) ({ frames := 3, cells := 0, slots := 0, locals := 70 } : Room) (va_Pc [.ref (G 0), .int (nI Gn)] (PB D (KT cI cZ cS cJ) (mW cI cZ G code off left wr rc mem oth ks vs sx pl ps pk sr tg fl xs) sz)) (va_Qi (fun r (u : MT) => ∃ σ, stepF off left wr rc st mm pl rows F Gn C = (0, r, σ) ∧ RepM σ u ∧ u.1 = code) (fun (u : MT) t => va_P D vwCl (mWu cI cZ G u) t.heap ∧ va_D (va_A (mW cI cZ G code off left wr rc mem oth ks vs sx pl ps pk sr tg fl xs) sz) (mWu cI cZ G u)) (va_A (mW cI cZ G code off left wr rc mem oth ks vs sx pl ps pk sr tg fl xs) sz)) 0 0 (va_A (mW cI cZ G code off left wr rc mem oth ks vs sx pl ps pk sr tg fl xs) sz) := by
  refine Met.ofW (cc := cX5_clear) (maxL := 2) (ret := (some .int)) (by decide) rfl ?_
  intro p e s m args below meth c s₁ B hml hv
  obtain ⟨rfl, hsz, hP, hK, hD0⟩ := hv
  have hx := B.exec
  have hb := B.bytes
  have hr := B.returns
  have hts := atoms_spec (ws := (Cond.code yX5_clear cX5_clear 2 (some .int) :: TB)) B.pre
  have ht : ∀ w ∈ TB, w.before _ s = true := fun w h => hts w (List.mem_cons_of_mem _ h)
  have hown : s.vm.findClass RX5 = some m.cls := findClass_of_methodNamed B.named
  have hlocks := B.notSynchronized
  subst hsz
  have hD := hD0.self (sz := s.heap.size)
  generalize hAe : va_A (mW cI cZ G code off left wr rc mem oth ks vs sx pl ps pk sr tg fl xs) s.heap.size = A at hD ⊢
  have hA : ∀ q : Nat, s.heap.size ≤ q → A q := fun q h => by rw [← hAe]; exact Or.inr h
  have hS : va_S A s.heap s.heap [] := va_S.rf
  have hP : va_P D vwCl (mW cI cZ G code off left wr rc mem oth ks vs sx pl ps pk sr tg fl xs) s.heap := hP
  have hl := lv_entry ([.ref (G 0), .int (nI Gn)]) (n := 2) (Nat.le_of_ble_eq_true rfl)
  rw [lg_entry_eq]
  generalize (lg_sl ([.ref (G 0), .int (nI Gn)]) ++ List.replicate (2 - (lg_sl ([.ref (G 0), .int (nI Gn)])).length) Slot.unset).toArray = ls at hl ⊢
  have hl : lv_has ls 2 [(0, .ref (G 0)), (1, .int (nI Gn))] := hl
  refine lv_aload_n hx hb dX5_clear_0 rfl (lv_at hl 0 rfl) ?_
  have hPc := hP.sub (ws' := mW cI cZ G code off left wr rc mem oth ks vs sx pl ps pk sr tg fl xs) [0, 1, 2, 3, 4, 5, 6, 7, 8, 9, 10] rfl
  have hDc := hD.sub (ws' := mW cI cZ G code off left wr rc mem oth ks vs sx pl ps pk sr tg fl xs) [0, 1, 2, 3, 4, 5, 6, 7, 8, 9, 10] (by decide) rfl
  have hFc := va_free (wc := mW cI cZ G code off left wr rc mem oth ks vs sx pl ps pk sr tg fl xs) hD hS hA [0, 1, 2, 3, 4, 5, 6, 7, 8, 9, 10] rfl
  refine va_calli (va_runV (As := []) (rest := []) ⟨hx, hb, hml, hown, ht⟩ (c_X5_writes l D cI cZ cS cJ s.heap.size G code off left wr rc mem oth ks vs sx pl ps pk sr tg fl xs ) (xwV 0 ht kw3_188 kw3_185 kw1_11 kw3_187 kwS_31 rfl rfl (by decide +kernel) ⟨Nat.le_of_ble_eq_true rfl, Nat.le_of_ble_eq_true rfl⟩) ⟨PB.blind, va_recv hK hPc (ci := 5) (q0 := 0) rfl rfl, fun U hU hW => PB.mk hU hW hPc hK hDc⟩ rfl rfl hl.1 rfl (lv_room (Nat.le_of_ble_eq_true rfl)) dX5_clear_1 ⟨Nat.le_of_ble_eq_true rfl, Nat.le_of_ble_eq_true rfl⟩) hS (fun q _ h => hFc q h) hFc (fun r1 u1 t1 H1 locs ht1 hvm w1 hB hz1 hk1 hS => ?_)
  try dsimp only at w1 hB
  obtain ⟨hP1, hD1⟩ := hB
  rw [ht1] at hP1
  obtain ⟨hP, hD⟩ := wk_join (w1 := (mW cI cZ G code (wOff left off) (wLeft left) (wInc left wr) rc mem oth ks vs sx pl ps pk sr tg fl xs)) hP hD [0, 1, 2, 3, 4, 5, 6, 7, 8, 9, 10] rfl (by decide) rfl hk1 hFc hP1 hD1
  generalize H1 = H at hP hS ⊢
  have hP : va_P D vwCl (mW cI cZ G code (wOff left off) (wLeft left) (wInc left wr) rc mem oth ks vs sx pl ps pk sr tg fl xs) H := hP
  have hD : va_D A (mW cI cZ G code (wOff left off) (wLeft left) (wInc left wr) rc mem oth ks vs sx pl ps pk sr tg fl xs) := hD
  refine lv_if_ne (tgt := 10) hx hb dX5_clear_4 (by decide) (fun c4 => ?_) (fun c4 => ?_)
  · have hl1 : ¬ left = 0 := wOk_1 (by rw [← w1]; exact c4)
    rw [show wOff left off = off from if_neg hl1, show wInc left wr = wr + 1 from if_neg hl1] at hP hD
    refine lv_aload_n hx hb dX5_clear_10 rfl (lv_at hl 0 rfl) ?_
    refine lv_aload_n hx hb dX5_clear_11 rfl (lv_at hl 0 rfl) ?_
    refine va_get (D := D) (ci := 5) (v := .ref (G 7)) (C := RX5) (T := TX5) (N := 17) hx hb ht inX5 hown hK hP 0 rfl rfl 13 (by decide) (ht _ kw3_93) (fun _ h9 => h9) rfl dX5_clear_12 ?_
    refine lv_iload_n hx hb dX5_clear_15 rfl (lv_at hl 1 rfl) ?_
    refine ya_iald hx hb hK hP 7 0 rfl rfl Gn (rfl) (by have := hrp.le; omega) (by decide) dX5_clear_16 ?_
    rw [hrp.s hk]
    refine lv_aload_n hx hb dX5_clear_17 rfl (lv_at hl 0 rfl) ?_
    refine va_get (D := D) (ci := 5) (v := .ref (G 6)) (C := RX5) (T := TX5) (N := 17) hx hb ht inX5 hown hK hP 0 rfl rfl 12 (by decide) (ht _ kw3_92) (fun _ h9 => h9) rfl dX5_clear_18 ?_
    refine lv_iload_n hx hb dX5_clear_21 rfl (lv_at hl 1 rfl) ?_
    refine ya_iald hx hb hK hP 6 0 rfl rfl Gn (rfl) (by have := hrp.le; omega) (by decide) dX5_clear_22 ?_
    rw [hrp.k hk]
    have hPc := hP.sub (ws' := mW cI cZ G code off (wLeft left) (wr + 1) rc mem oth ks vs sx pl ps pk sr tg fl xs) [0, 1, 2, 3, 4, 5, 6, 7, 8, 9, 10] rfl
    have hDc := hD.sub (ws' := mW cI cZ G code off (wLeft left) (wr + 1) rc mem oth ks vs sx pl ps pk sr tg fl xs) [0, 1, 2, 3, 4, 5, 6, 7, 8, 9, 10] (by decide) rfl
    have hFc := va_free (wc := mW cI cZ G code off (wLeft left) (wr + 1) rc mem oth ks vs sx pl ps pk sr tg fl xs) hD hS hA [0, 1, 2, 3, 4, 5, 6, 7, 8, 9, 10] rfl
    refine va_callv (va_runV (As := [.int (nI (pS rows Gn)), .int (pK rows Gn)]) (rest := []) ⟨hx, hb, hml, hown, ht⟩ (c_X5_takeOff l D cI cZ cS cJ H.size G code off (wLeft left) (wr + 1) rc mem oth ks vs sx pl ps pk sr tg fl xs st hst (pS rows Gn) (hp8 Gn hk).1 (pK rows Gn)) (xwV 2 ht kw3_200 kw3_197 kw1_11 kw3_199 kwS_33 rfl rfl (by decide +kernel) ⟨Nat.le_of_ble_eq_true rfl, Nat.le_of_ble_eq_true rfl⟩) ⟨PB.blind, va_recv hK hPc (ci := 5) (q0 := 0) rfl rfl, fun U hU hW => PB.mk hU hW hPc hK hDc⟩ rfl rfl hl.1 rfl (lv_room (Nat.le_of_ble_eq_true rfl)) dX5_clear_23 ⟨Nat.le_of_ble_eq_true rfl, Nat.le_of_ble_eq_true rfl⟩) hS (fun q _ h => hFc q h) hFc (fun u23 t23 H1 locs ht1 hvm w23 hB hz1 hk1 hS => ?_)
    try dsimp only at w23 hB
    obtain ⟨hP1, hD1⟩ := hB
    rw [ht1] at hP1
    obtain ⟨hP, hD⟩ := wk_join (w1 := (mW cI cZ G code off (wLeft left) (wr + 1) rc mem oth u23.1 u23.2.1 u23.2.2 pl ps pk sr tg fl xs)) hP hD [0, 1, 2, 3, 4, 5, 6, 7, 8, 9, 10] rfl (by decide) rfl hk1 hFc hP1 hD1
    generalize H1 = H at hP hS ⊢
    have hP : va_P D vwCl (mW cI cZ G code off (wLeft left) (wr + 1) rc mem oth u23.1 u23.2.1 u23.2.2 pl ps pk sr tg fl xs) H := hP
    have hD : va_D A (mW cI cZ G code off (wLeft left) (wr + 1) rc mem oth u23.1 u23.2.1 u23.2.2 pl ps pk sr tg fl xs) := hD
    have hst1 := w23
    refine lv_aload_n hx hb dX5_clear_26 rfl (lv_at hl 0 rfl) ?_
    refine va_get (D := D) (ci := 5) (v := .ref (G 10)) (C := RX5) (T := TX5) (N := 17) hx hb ht inX5 hown hK hP 0 rfl rfl 16 (by decide) (ht _ kw3_96) (fun _ h9 => h9) rfl dX5_clear_27 ?_
    refine lv_iload_n hx hb dX5_clear_30 rfl (lv_at hl 1 rfl) ?_
    refine lv_iconst (v := 4) hx hb dX5_clear_31 (by decide) ?_
    refine ya_iast hx hb hK hP hD hS 10 0 rfl rfl Gn (rfl) (by have := hrp.le; omega) (by decide) dX5_clear_32 (fun H locs hP hD hS => ?_)
    have hP : va_P D vwCl (mW cI cZ G code off (wLeft left) (wr + 1) rc mem oth u23.1 u23.2.1 u23.2.2 pl ps pk sr tg fl (upd xs Gn 4)) H := hP
    have hD : va_D A (mW cI cZ G code off (wLeft left) (wr + 1) rc mem oth u23.1 u23.2.1 u23.2.2 pl ps pk sr tg fl (upd xs Gn 4)) := hD
    refine lv_iconst (v := 4) hx hb dX5_clear_33 (by decide) ?_
    exact W.iret (v := 4) hx hb hr (fun t ht2 hW => ⟨⟨4, (code, off, wLeft left, wr + 1, rc, mem, oth, u23.1, u23.2.1, u23.2.2, pl, ps, pk, sr, tg, fl, upd xs Gn 4), rfl, by
          (try dsimp only)
          (try dsimp only)
          refine ⟨(off, wLeft left, wr + 1, rc, fu st (pS rows Gn) (del (st (pS rows Gn)) (pK rows Gn)), mm, pl, rows, F, Gn + 1, C), ?_, RepM.mk hst1 hmm (hrp.cl hgf), rfl⟩
          unfold stepF
          rw [if_neg (fun q => q.elim (fun z => z ho0) hp0), if_neg hl1, if_neg (show ¬ Gn = rows.length by omega), if_pos hgf], ⟨by (try dsimp only); rw [ht2]; exact hP, by exact hD⟩⟩, hS.F ht2⟩) hS.2.2 dX5_clear_34
  · have hl1 : left = 0 := wOk_0 (by rw [← w1]; exact c4)
    rw [show wOff left off = 1 from if_pos hl1, show wInc left wr = wr from if_pos hl1, wLeft_0 hl1] at hP hD
    refine lv_bipush (v := (-9)) hx hb dX5_clear_7 (by decide) ?_
    exact W.iret (v := (-9)) hx hb hr (fun t ht2 hW => ⟨⟨(-9), (code, 1, left, wr, rc, mem, oth, ks, vs, sx, pl, ps, pk, sr, tg, fl, xs), rfl, by
          (try dsimp only)
          (try dsimp only)
          refine ⟨(1, left, wr, rc, st, mm, pl, rows, F, Gn, C), ?_, RepM.mk hst hmm hrp, rfl⟩
          unfold stepF
          rw [if_neg (fun q => q.elim (fun z => z ho0) hp0), if_pos hl1], ⟨by (try dsimp only); rw [ht2]; exact hP, by exact hD⟩⟩, hS.F ht2⟩) hS.2.2 dX5_clear_9

set_option maxHeartbeats 4000000 in
set_option maxRecDepth 100000 in
theorem c_X5_step (l : Launch) (D : va_G) (cI cZ cS cJ : ClassId) (sz : Nat) (G : Nat → Nat) (code off left wr rc : Int32) (mem oth ks vs sx : Nat → Int32) (pl ps : Int32) (pk sr tg fl xs : Nat → Int32) (st : Nat → List (Int32 × Int32)) (hst : RS st ks vs sx) (mm : Nat → Nat) (hmm : ∀ n, n < 8 → mem n = nI (mm n)) (hM : MM mm) (rows : List (Int32 × Nat × Nat)) (F Gn : Nat) (C : Bool) (hrp : RP rows F Gn C ps pk sr tg fl xs) (hsr : Srt (pkl rows)) (hpl : pl = 1 ∨ (pl = 0 ∧ rows = [])) (hp8 : P8 rows) (hoff : off = 0 ∨ off = 1) (hG : Gn ≤ F) (hF : F ≤ rows.length) (hCF : C = true → Gn = F) (hpr : pl = 0 ∨ pl = 1) (hlen : ∀ n, n < 8 → (st n).length < 1000) : Met l yX5_step (Cond.code yX5_step cX5_step 2 (some .int) :: TB) ({ frames := 4, cells := 0, slots := 0, locals := 93 } : Room) (va_Pc [.ref (G 0)] (PB D (KT cI cZ cS cJ) (mW cI cZ G code off left wr rc mem oth ks vs sx pl ps pk sr tg fl xs) sz)) (va_Qi (fun r (u : MT) => ∃ σ, stepF off left wr rc st mm pl rows F Gn C = (u.1, r, σ) ∧ RepM σ u) (fun (u : MT) t => va_P D vwCl (mWu cI cZ G u) t.heap ∧ va_D (va_A (mW cI cZ G code off left wr rc mem oth ks vs sx pl ps pk sr tg fl xs) sz) (mWu cI cZ G u)) (va_A (mW cI cZ G code off left wr rc mem oth ks vs sx pl ps pk sr tg fl xs) sz)) 0 0 (va_A (mW cI cZ G code off left wr rc mem oth ks vs sx pl ps pk sr tg fl xs) sz) := by
  refine Met.ofW (cc := cX5_step) (maxL := 2) (ret := (some .int)) (by decide) rfl ?_
  intro p e s m args below meth c s₁ B hml hv
  obtain ⟨rfl, hsz, hP, hK, hD0⟩ := hv
  have hx := B.exec
  have hb := B.bytes
  have hr := B.returns
  have hts := atoms_spec (ws := (Cond.code yX5_step cX5_step 2 (some .int) :: TB)) B.pre
  have ht : ∀ w ∈ TB, w.before _ s = true := fun w h => hts w (List.mem_cons_of_mem _ h)
  have hown : s.vm.findClass RX5 = some m.cls := findClass_of_methodNamed B.named
  have hlocks := B.notSynchronized
  subst hsz
  have hD := hD0.self (sz := s.heap.size)
  generalize hAe : va_A (mW cI cZ G code off left wr rc mem oth ks vs sx pl ps pk sr tg fl xs) s.heap.size = A at hD ⊢
  have hA : ∀ q : Nat, s.heap.size ≤ q → A q := fun q h => by rw [← hAe]; exact Or.inr h
  have hS : va_S A s.heap s.heap [] := va_S.rf
  have hP : va_P D vwCl (mW cI cZ G code off left wr rc mem oth ks vs sx pl ps pk sr tg fl xs) s.heap := hP
  have hl := lv_entry ([.ref (G 0)]) (n := 2) (Nat.le_of_ble_eq_true rfl)
  rw [lg_entry_eq]
  generalize (lg_sl ([.ref (G 0)]) ++ List.replicate (2 - (lg_sl ([.ref (G 0)])).length) Slot.unset).toArray = ls at hl ⊢
  have hl : lv_has ls 2 [(0, .ref (G 0))] := hl
  refine lv_aload_n hx hb dX5_step_0 rfl (lv_at hl 0 rfl) ?_
  refine lv_aload_n hx hb dX5_step_1 rfl (lv_at hl 0 rfl) ?_
  refine va_get (D := D) (ci := 5) (v := .int off) (C := RX5) (T := TX5) (N := 17) hx hb ht inX5 hown hK hP 0 rfl rfl 1 (by decide) (ht _ kw3_81) (fun _ h9 => h9) rfl dX5_step_2 ?_
  refine lv_if_ne (tgt := 15) hx hb dX5_step_5 (by decide) (fun c5 => ?_) (fun c5 => ?_)
  · have hbad : ¬ off = 0 ∨ pl = 0 := Or.inl c5
    refine lv_iconst (v := 1) hx hb dX5_step_15 (by decide) ?_
    refine lv_goto (tgt := 20) hx hb dX5_step_16 (by decide) ?_
    refine va_put (D := D) (ci := 5) (v := .int 1) (ty := .int) (C := RX5) (T := TX5) (N := 17) hx hb ht inX5 tyX5 tyX5_ok nmX5 hown hK hP hD hS 0 rfl rfl 0 (by decide) (ht _ kw3_80) (fun _ h9 => h9) rfl (by decide +kernel) (rfl) rfl (Nat.le_of_ble_eq_true rfl) dX5_step_20 (fun H locs hP hD hS => ?_)
    have hP : va_P D vwCl (mW cI cZ G 1 off left wr rc mem oth ks vs sx pl ps pk sr tg fl xs) H := hP
    have hD : va_D A (mW cI cZ G 1 off left wr rc mem oth ks vs sx pl ps pk sr tg fl xs) := hD
    refine lv_aload_n hx hb dX5_step_23 rfl (lv_at hl 0 rfl) ?_
    refine va_get (D := D) (ci := 5) (v := .int 1) (C := RX5) (T := TX5) (N := 17) hx hb ht inX5 hown hK hP 0 rfl rfl 0 (by decide) (ht _ kw3_80) (fun _ h9 => h9) rfl dX5_step_24 ?_
    refine lv_if_le (tgt := 32) hx hb dX5_step_27 (by decide) (fun c27 => by first | exact absurd c27 (by decide) | exact absurd (by decide) c27) (fun c27 => ?_)
    refine lv_iconst (v := 0) hx hb dX5_step_30 (by decide) ?_
    exact W.iret (v := 0) hx hb hr (fun t ht2 hW => ⟨⟨0, (1, off, left, wr, rc, mem, oth, ks, vs, sx, pl, ps, pk, sr, tg, fl, xs), rfl, by
          (try dsimp only)
          (try dsimp only)
          refine ⟨(off, left, wr, rc, st, mm, pl, rows, F, Gn, C), ?_, RepM.mk hst hmm hrp⟩
          unfold stepF
          rw [if_pos hbad], ⟨by (try dsimp only); rw [ht2]; exact hP, by exact hD⟩⟩, hS.F ht2⟩) hS.2.2 dX5_step_31
  · refine lv_aload_n hx hb dX5_step_8 rfl (lv_at hl 0 rfl) ?_
    refine va_get (D := D) (ci := 5) (v := .int pl) (C := RX5) (T := TX5) (N := 17) hx hb ht inX5 hown hK hP 0 rfl rfl 10 (by decide) (ht _ kw3_90) (fun _ h9 => h9) rfl dX5_step_9 ?_
    refine lv_if_ne (tgt := 19) hx hb dX5_step_12 (by decide) (fun c12 => ?_) (fun c12 => ?_)
    · have ho0 : off = 0 := c5
      have hp0 : ¬ pl = 0 := c12
      have hbad : ¬ (¬ off = 0 ∨ pl = 0) := fun q => q.elim (fun z => z c5) c12
      refine lv_iconst (v := 0) hx hb dX5_step_19 (by decide) ?_
      refine va_put (D := D) (ci := 5) (v := .int 0) (ty := .int) (C := RX5) (T := TX5) (N := 17) hx hb ht inX5 tyX5 tyX5_ok nmX5 hown hK hP hD hS 0 rfl rfl 0 (by decide) (ht _ kw3_80) (fun _ h9 => h9) rfl (by decide +kernel) (rfl) rfl (Nat.le_of_ble_eq_true rfl) dX5_step_20 (fun H locs hP hD hS => ?_)
      have hP : va_P D vwCl (mW cI cZ G 0 off left wr rc mem oth ks vs sx pl ps pk sr tg fl xs) H := hP
      have hD : va_D A (mW cI cZ G 0 off left wr rc mem oth ks vs sx pl ps pk sr tg fl xs) := hD
      refine lv_aload_n hx hb dX5_step_23 rfl (lv_at hl 0 rfl) ?_
      refine va_get (D := D) (ci := 5) (v := .int 0) (C := RX5) (T := TX5) (N := 17) hx hb ht inX5 hown hK hP 0 rfl rfl 0 (by decide) (ht _ kw3_80) (fun _ h9 => h9) rfl dX5_step_24 ?_
      refine lv_if_le (tgt := 32) hx hb dX5_step_27 (by decide) (fun c27 => ?_) (fun c27 => by first | exact absurd c27 (by decide) | exact absurd (by decide) c27)
      refine lv_iconst (v := 0) hx hb dX5_step_32 (by decide) ?_
      refine lv_istore_n (lv' := [(1, .int 0), (0, .ref (G 0))]) hx hb dX5_step_33 rfl hl (by decide) rfl (fun ls hl => ?_)
      refine lpA (pc := 34) (ι := Nat) (fun z ls => lv_has ls 2 [(1, .int (nI z)), (0, .ref (G 0))] ∧ z ≤ Gn) (fun z => rows.length - z) 0 (⟨lv_sub hl [0, 1] rfl, Nat.zero_le _⟩) ?_
      intro z ls hI ih34
      obtain ⟨k, e34⟩ : ∃ y, y = z := ⟨_, rfl⟩
      subst e34
      obtain ⟨hl, hinv⟩ := hI
      have hl : lv_has ls 2 [(1, .int (nI k)), (0, .ref (G 0))] := hl
      obtain hkG : k ≤ Gn := hinv
      have hps := hrp.sz
      have hle := hrp.le
      refine lv_iload_n hx hb dX5_step_34 rfl (lv_at hl 0 rfl) ?_
      refine lv_aload_n hx hb dX5_step_35 rfl (lv_at hl 1 rfl) ?_
      refine va_get (D := D) (ci := 5) (v := .int ps) (C := RX5) (T := TX5) (N := 17) hx hb ht inX5 hown hK hP 0 rfl rfl 11 (by decide) (ht _ kw3_91) (fun _ h9 => h9) rfl dX5_step_36 ?_
      refine lv_icmp_ge (tgt := 58) hx hb dX5_step_39 (by decide) (fun c39 => ?_) (fun c39 => ?_)
      · have hke0 : k = rows.length := by
          rcases Nat.lt_or_ge k rows.length with q | q
          · rw [hps] at c39; exact absurd c39 (nI_ge q (by omega))
          · omega
        have hke : Gn = rows.length := by omega
        refine lv_iload_n hx hb dX5_step_58 rfl (lv_at hl 0 rfl) ?_
        refine lv_aload_n hx hb dX5_step_59 rfl (lv_at hl 1 rfl) ?_
        refine va_get (D := D) (ci := 5) (v := .int ps) (C := RX5) (T := TX5) (N := 17) hx hb ht inX5 hown hK hP 0 rfl rfl 11 (by decide) (ht _ kw3_91) (fun _ h9 => h9) rfl dX5_step_60 ?_
        refine lv_icmp_ne (tgt := 88) hx hb dX5_step_63 (by decide) (fun c63 => absurd (by rw [hps, hke0]) c63) (fun c63 => ?_)
        refine lv_aload_n hx hb dX5_step_66 rfl (lv_at hl 1 rfl) ?_
        have hPc := hP.sub (ws' := mW cI cZ G 0 off left wr rc mem oth ks vs sx pl ps pk sr tg fl xs) [0, 1, 2, 3, 4, 5, 6, 7, 8, 9, 10] rfl
        have hDc := hD.sub (ws' := mW cI cZ G 0 off left wr rc mem oth ks vs sx pl ps pk sr tg fl xs) [0, 1, 2, 3, 4, 5, 6, 7, 8, 9, 10] (by decide) rfl
        have hFc := va_free (wc := mW cI cZ G 0 off left wr rc mem oth ks vs sx pl ps pk sr tg fl xs) hD hS hA [0, 1, 2, 3, 4, 5, 6, 7, 8, 9, 10] rfl
        refine va_calli (va_runV (As := []) (rest := []) ⟨hx, hb, hml, hown, ht⟩ (c_X5_record l D cI cZ cS cJ H.size G 0 off left wr rc mem oth ks vs sx pl ps pk sr tg fl xs ) (xwV 0 ht kw3_224 kw3_221 kw1_11 kw3_223 kwS_37 rfl rfl (by decide +kernel) ⟨Nat.le_of_ble_eq_true rfl, Nat.le_of_ble_eq_true rfl⟩) ⟨PB.blind, va_recv hK hPc (ci := 5) (q0 := 0) rfl rfl, fun U hU hW => PB.mk hU hW hPc hK hDc⟩ rfl rfl hl.1 rfl (lv_room (Nat.le_of_ble_eq_true rfl)) dX5_step_67 ⟨Nat.le_of_ble_eq_true rfl, Nat.le_of_ble_eq_true rfl⟩) hS (fun q _ h => hFc q h) hFc (fun r67 u67 t67 H1 locs ht1 hvm w67 hB hz1 hk1 hS => ?_)
        try dsimp only at w67 hB
        obtain ⟨hP1, hD1⟩ := hB
        rw [ht1] at hP1
        obtain ⟨hP, hD⟩ := wk_join (w1 := (mW cI cZ G 0 (wOff left off) (wLeft left) (wInc left wr) (wInc left rc) mem oth ks vs sx pl ps pk sr tg fl xs)) hP hD [0, 1, 2, 3, 4, 5, 6, 7, 8, 9, 10] rfl (by decide) rfl hk1 hFc hP1 hD1
        generalize H1 = H at hP hS ⊢
        have hP : va_P D vwCl (mW cI cZ G 0 (wOff left off) (wLeft left) (wInc left wr) (wInc left rc) mem oth ks vs sx pl ps pk sr tg fl xs) H := hP
        have hD : va_D A (mW cI cZ G 0 (wOff left off) (wLeft left) (wInc left wr) (wInc left rc) mem oth ks vs sx pl ps pk sr tg fl xs) := hD
        refine lv_if_ne (tgt := 76) hx hb dX5_step_70 (by decide) (fun c70 => ?_) (fun c70 => ?_)
        · have hl1 : ¬ left = 0 := wOk_1 (by rw [← w67]; exact c70)
          rw [show wOff left off = off from if_neg hl1, show wInc left wr = wr + 1 from if_neg hl1, show wInc left rc = rc + 1 from if_neg hl1] at hP hD
          refine lv_aload_n hx hb dX5_step_76 rfl (lv_at hl 1 rfl) ?_
          refine lv_iconst (v := 0) hx hb dX5_step_77 (by decide) ?_
          refine va_put (D := D) (ci := 5) (v := .int 0) (ty := .boolean) (C := RX5) (T := TX5) (N := 17) hx hb ht inX5 tyX5 tyX5_ok nmX5 hown hK hP hD hS 0 rfl rfl 10 (by decide) (ht _ kw3_90) (fun _ h9 => h9) rfl (by decide +kernel) (by decide +kernel) rfl (Nat.le_of_ble_eq_true rfl) dX5_step_78 (fun H locs hP hD hS => ?_)
          have hP : va_P D vwCl (mW cI cZ G 0 off (wLeft left) (wr + 1) (rc + 1) mem oth ks vs sx 0 ps pk sr tg fl xs) H := hP
          have hD : va_D A (mW cI cZ G 0 off (wLeft left) (wr + 1) (rc + 1) mem oth ks vs sx 0 ps pk sr tg fl xs) := hD
          refine lv_aload_n hx hb dX5_step_81 rfl (lv_at hl 1 rfl) ?_
          refine lv_iconst (v := 0) hx hb dX5_step_82 (by decide) ?_
          refine va_put (D := D) (ci := 5) (v := .int 0) (ty := .int) (C := RX5) (T := TX5) (N := 17) hx hb ht inX5 tyX5 tyX5_ok nmX5 hown hK hP hD hS 0 rfl rfl 11 (by decide) (ht _ kw3_91) (fun _ h9 => h9) rfl (by decide +kernel) (rfl) rfl (Nat.le_of_ble_eq_true rfl) dX5_step_83 (fun H locs hP hD hS => ?_)
          have hP : va_P D vwCl (mW cI cZ G 0 off (wLeft left) (wr + 1) (rc + 1) mem oth ks vs sx 0 0 pk sr tg fl xs) H := hP
          have hD : va_D A (mW cI cZ G 0 off (wLeft left) (wr + 1) (rc + 1) mem oth ks vs sx 0 0 pk sr tg fl xs) := hD
          refine lv_iconst (v := 0) hx hb dX5_step_86 (by decide) ?_
          exact W.iret (v := 0) hx hb hr (fun t ht2 hW => ⟨⟨0, (0, off, wLeft left, wr + 1, rc + 1, mem, oth, ks, vs, sx, 0, 0, pk, sr, tg, fl, xs), rfl, by
                (try dsimp only)
                (try dsimp only)
                refine ⟨(off, wLeft left, wr + 1, rc + 1, st, mm, 0, [], 0, 0, false), ?_, RepM.mk hst hmm ⟨rfl, by decide, fun k hk => absurd hk (Nat.not_lt_zero _)⟩⟩
                unfold stepF
                rw [if_neg hbad, if_neg hl1, if_pos hke], ⟨by (try dsimp only); rw [ht2]; exact hP, by exact hD⟩⟩, hS.F ht2⟩) hS.2.2 dX5_step_87
        · have hl1 : left = 0 := wOk_0 (by rw [← w67]; exact c70)
          rw [show wOff left off = 1 from if_pos hl1, show wInc left wr = wr from if_pos hl1, show wInc left rc = rc from if_pos hl1, wLeft_0 hl1] at hP hD
          refine lv_bipush (v := (-9)) hx hb dX5_step_73 (by decide) ?_
          exact W.iret (v := (-9)) hx hb hr (fun t ht2 hW => ⟨⟨(-9), (0, 1, left, wr, rc, mem, oth, ks, vs, sx, pl, ps, pk, sr, tg, fl, xs), rfl, by
                (try dsimp only)
                (try dsimp only)
                refine ⟨(1, left, wr, rc, st, mm, pl, rows, F, Gn, C), ?_, RepM.mk hst hmm hrp⟩
                unfold stepF
                rw [if_neg hbad, if_pos hl1], ⟨by (try dsimp only); rw [ht2]; exact hP, by exact hD⟩⟩, hS.F ht2⟩) hS.2.2 dX5_step_75
      · have hkr : k < rows.length := by
          rcases Nat.lt_or_ge k rows.length with q | q
          · exact q
          · exact absurd (by rw [hps]; exact nI_le q (by omega)) c39
        refine lv_aload_n hx hb dX5_step_42 rfl (lv_at hl 1 rfl) ?_
        refine va_get (D := D) (ci := 5) (v := .ref (G 10)) (C := RX5) (T := TX5) (N := 17) hx hb ht inX5 hown hK hP 0 rfl rfl 16 (by decide) (ht _ kw3_96) (fun _ h9 => h9) rfl dX5_step_43 ?_
        refine lv_iload_n hx hb dX5_step_46 rfl (lv_at hl 0 rfl) ?_
        refine ya_iald hx hb hK hP 10 0 rfl rfl k (rfl) (by omega) (by decide) dX5_step_47 ?_
        refine lv_iconst (v := 4) hx hb dX5_step_48 (by decide) ?_
        refine lv_icmp_ne (tgt := 58) hx hb dX5_step_49 (by decide) (fun c49 => ?_) (fun c49 => ?_)
        · have hkg : k = Gn := by
            rcases Nat.lt_or_ge k Gn with q | q
            · exact absurd (by rw [hrp.x hkr]; exact (sta_4 hG).mpr q) c49
            · omega
          subst hkg
          have hk : k < rows.length := hkr
          refine lv_iload_n hx hb dX5_step_58 rfl (lv_at hl 0 rfl) ?_
          refine lv_aload_n hx hb dX5_step_59 rfl (lv_at hl 1 rfl) ?_
          refine va_get (D := D) (ci := 5) (v := .int ps) (C := RX5) (T := TX5) (N := 17) hx hb ht inX5 hown hK hP 0 rfl rfl 11 (by decide) (ht _ kw3_91) (fun _ h9 => h9) rfl dX5_step_60 ?_
          refine lv_icmp_ne (tgt := 88) hx hb dX5_step_63 (by decide) (fun c63 => ?_) (fun c63 => absurd (by rw [hps] at c63; exact (nI_eq (by omega) (by omega)).mp c63) (by omega))
          refine lv_aload_n hx hb dX5_step_88 rfl (lv_at hl 1 rfl) ?_
          refine va_get (D := D) (ci := 5) (v := .ref (G 10)) (C := RX5) (T := TX5) (N := 17) hx hb ht inX5 hown hK hP 0 rfl rfl 16 (by decide) (ht _ kw3_96) (fun _ h9 => h9) rfl dX5_step_89 ?_
          refine lv_iload_n hx hb dX5_step_92 rfl (lv_at hl 0 rfl) ?_
          refine ya_iald hx hb hK hP 10 0 rfl rfl k (rfl) (by omega) (by decide) dX5_step_93 ?_
          refine lv_iconst (v := 1) hx hb dX5_step_94 (by decide) ?_
          refine lv_icmp_ne (tgt := 106) hx hb dX5_step_95 (by decide) (fun c95 => ?_) (fun c95 => ?_)
          · refine lv_aload_n hx hb dX5_step_106 rfl (lv_at hl 1 rfl) ?_
            refine va_get (D := D) (ci := 5) (v := .ref (G 10)) (C := RX5) (T := TX5) (N := 17) hx hb ht inX5 hown hK hP 0 rfl rfl 16 (by decide) (ht _ kw3_96) (fun _ h9 => h9) rfl dX5_step_107 ?_
            refine lv_iload_n hx hb dX5_step_110 rfl (lv_at hl 0 rfl) ?_
            refine ya_iald hx hb hK hP 10 0 rfl rfl k (rfl) (by omega) (by decide) dX5_step_111 ?_
            refine lv_iconst (v := 2) hx hb dX5_step_112 (by decide) ?_
            refine lv_icmp_ne (tgt := 124) hx hb dX5_step_113 (by decide) (fun c113 => ?_) (fun c113 => ?_)
            · have hgf : k < F := by
                rcases Nat.lt_or_ge k F with q | q
                · exact q
                · rcases (sta_12 (Gn := k) (C := C)).mpr q with z | z
                  · exact absurd (by rw [hrp.x hk]; exact z) c95
                  · exact absurd (by rw [hrp.x hk]; exact z) c113
              refine lv_aload_n hx hb dX5_step_124 rfl (lv_at hl 1 rfl) ?_
              refine lv_iload_n hx hb dX5_step_125 rfl (lv_at hl 0 rfl) ?_
              have hPc := hP.sub (ws' := mW cI cZ G 0 off left wr rc mem oth ks vs sx pl ps pk sr tg fl xs) [0, 1, 2, 3, 4, 5, 6, 7, 8, 9, 10] rfl
              have hDc := hD.sub (ws' := mW cI cZ G 0 off left wr rc mem oth ks vs sx pl ps pk sr tg fl xs) [0, 1, 2, 3, 4, 5, 6, 7, 8, 9, 10] (by decide) rfl
              have hFc := va_free (wc := mW cI cZ G 0 off left wr rc mem oth ks vs sx pl ps pk sr tg fl xs) hD hS hA [0, 1, 2, 3, 4, 5, 6, 7, 8, 9, 10] rfl
              refine va_calli (va_runV (As := [.int (nI k)]) (rest := []) ⟨hx, hb, hml, hown, ht⟩ (c_X5_clear l D cI cZ cS cJ H.size G 0 off left wr rc mem oth ks vs sx pl ps pk sr tg fl xs st hst mm hmm hM rows F k C hrp hsr hpl hp8 hoff ho0 hp0 hk hgf) (xwV 1 ht kw4_16 kw4_13 kw1_11 kw4_15 kwS_43 rfl rfl (by decide +kernel) ⟨Nat.le_of_ble_eq_true rfl, Nat.le_of_ble_eq_true rfl⟩) ⟨PB.blind, va_recv hK hPc (ci := 5) (q0 := 0) rfl rfl, fun U hU hW => PB.mk hU hW hPc hK hDc⟩ rfl rfl hl.1 rfl (lv_room (Nat.le_of_ble_eq_true rfl)) dX5_step_126 ⟨Nat.le_of_ble_eq_true rfl, Nat.le_of_ble_eq_true rfl⟩) hS (fun q _ h => hFc q h) hFc (fun r126 u126 t126 H1 locs ht1 hvm w126 hB hz1 hk1 hS => ?_)
              try dsimp only at w126 hB
              obtain ⟨hP1, hD1⟩ := hB
              rw [ht1] at hP1
              obtain ⟨hP, hD⟩ := wk_join (w1 := (mW cI cZ G u126.1 u126.2.1 u126.2.2.1 u126.2.2.2.1 u126.2.2.2.2.1 u126.2.2.2.2.2.1 u126.2.2.2.2.2.2.1 u126.2.2.2.2.2.2.2.1 u126.2.2.2.2.2.2.2.2.1 u126.2.2.2.2.2.2.2.2.2.1 u126.2.2.2.2.2.2.2.2.2.2.1 u126.2.2.2.2.2.2.2.2.2.2.2.1 u126.2.2.2.2.2.2.2.2.2.2.2.2.1 u126.2.2.2.2.2.2.2.2.2.2.2.2.2.1 u126.2.2.2.2.2.2.2.2.2.2.2.2.2.2.1 u126.2.2.2.2.2.2.2.2.2.2.2.2.2.2.2.1 u126.2.2.2.2.2.2.2.2.2.2.2.2.2.2.2.2)) hP hD [0, 1, 2, 3, 4, 5, 6, 7, 8, 9, 10] rfl (by decide) rfl hk1 hFc hP1 hD1
              generalize H1 = H at hP hS ⊢
              have hP : va_P D vwCl (mW cI cZ G u126.1 u126.2.1 u126.2.2.1 u126.2.2.2.1 u126.2.2.2.2.1 u126.2.2.2.2.2.1 u126.2.2.2.2.2.2.1 u126.2.2.2.2.2.2.2.1 u126.2.2.2.2.2.2.2.2.1 u126.2.2.2.2.2.2.2.2.2.1 u126.2.2.2.2.2.2.2.2.2.2.1 u126.2.2.2.2.2.2.2.2.2.2.2.1 u126.2.2.2.2.2.2.2.2.2.2.2.2.1 u126.2.2.2.2.2.2.2.2.2.2.2.2.2.1 u126.2.2.2.2.2.2.2.2.2.2.2.2.2.2.1 u126.2.2.2.2.2.2.2.2.2.2.2.2.2.2.2.1 u126.2.2.2.2.2.2.2.2.2.2.2.2.2.2.2.2) H := hP
              have hD : va_D A (mW cI cZ G u126.1 u126.2.1 u126.2.2.1 u126.2.2.2.1 u126.2.2.2.2.1 u126.2.2.2.2.2.1 u126.2.2.2.2.2.2.1 u126.2.2.2.2.2.2.2.1 u126.2.2.2.2.2.2.2.2.1 u126.2.2.2.2.2.2.2.2.2.1 u126.2.2.2.2.2.2.2.2.2.2.1 u126.2.2.2.2.2.2.2.2.2.2.2.1 u126.2.2.2.2.2.2.2.2.2.2.2.2.1 u126.2.2.2.2.2.2.2.2.2.2.2.2.2.1 u126.2.2.2.2.2.2.2.2.2.2.2.2.2.2.1 u126.2.2.2.2.2.2.2.2.2.2.2.2.2.2.2.1 u126.2.2.2.2.2.2.2.2.2.2.2.2.2.2.2.2) := hD
              exact W.iret (v := r126) hx hb hr (fun t ht2 hW => ⟨⟨r126, u126, rfl, by
                    (try dsimp only)
                    obtain ⟨σ, g1, g2, g3⟩ := w126
                    exact ⟨σ, by rw [g1, g3], g2⟩, ⟨by (try dsimp only); rw [ht2]; exact hP, by exact hD⟩⟩, hS.F ht2⟩) hS.2.2 dX5_step_129
            · have hx2 := sta_2.mp (show sta F k C k = 2 by rw [← hrp.x hk]; exact c113)
              have hgf : k = F := hx2.1
              have hC : C = true := hx2.2
              refine lv_aload_n hx hb dX5_step_116 rfl (lv_at hl 1 rfl) ?_
              refine lv_iload_n hx hb dX5_step_117 rfl (lv_at hl 0 rfl) ?_
              have hPc := hP.sub (ws' := mW cI cZ G 0 off left wr rc mem oth ks vs sx pl ps pk sr tg fl xs) [0, 1, 2, 3, 4, 5, 6, 7, 8, 9, 10] rfl
              have hDc := hD.sub (ws' := mW cI cZ G 0 off left wr rc mem oth ks vs sx pl ps pk sr tg fl xs) [0, 1, 2, 3, 4, 5, 6, 7, 8, 9, 10] (by decide) rfl
              have hFc := va_free (wc := mW cI cZ G 0 off left wr rc mem oth ks vs sx pl ps pk sr tg fl xs) hD hS hA [0, 1, 2, 3, 4, 5, 6, 7, 8, 9, 10] rfl
              refine va_calli (va_runV (As := [.int (nI k)]) (rest := []) ⟨hx, hb, hml, hown, ht⟩ (c_X5_flip l D cI cZ cS cJ H.size G 0 off left wr rc mem oth ks vs sx pl ps pk sr tg fl xs st hst mm hmm hM rows F k C hrp hsr hpl hp8 hoff ho0 hp0 hk hgf hC) (xwV 1 ht kw4_12 kw4_9 kw1_11 kw4_11 kwS_42 rfl rfl (by decide +kernel) ⟨Nat.le_of_ble_eq_true rfl, Nat.le_of_ble_eq_true rfl⟩) ⟨PB.blind, va_recv hK hPc (ci := 5) (q0 := 0) rfl rfl, fun U hU hW => PB.mk hU hW hPc hK hDc⟩ rfl rfl hl.1 rfl (lv_room (Nat.le_of_ble_eq_true rfl)) dX5_step_118 ⟨Nat.le_of_ble_eq_true rfl, Nat.le_of_ble_eq_true rfl⟩) hS (fun q _ h => hFc q h) hFc (fun r118 u118 t118 H1 locs ht1 hvm w118 hB hz1 hk1 hS => ?_)
              try dsimp only at w118 hB
              obtain ⟨hP1, hD1⟩ := hB
              rw [ht1] at hP1
              obtain ⟨hP, hD⟩ := wk_join (w1 := (mW cI cZ G u118.1 u118.2.1 u118.2.2.1 u118.2.2.2.1 u118.2.2.2.2.1 u118.2.2.2.2.2.1 u118.2.2.2.2.2.2.1 u118.2.2.2.2.2.2.2.1 u118.2.2.2.2.2.2.2.2.1 u118.2.2.2.2.2.2.2.2.2.1 u118.2.2.2.2.2.2.2.2.2.2.1 u118.2.2.2.2.2.2.2.2.2.2.2.1 u118.2.2.2.2.2.2.2.2.2.2.2.2.1 u118.2.2.2.2.2.2.2.2.2.2.2.2.2.1 u118.2.2.2.2.2.2.2.2.2.2.2.2.2.2.1 u118.2.2.2.2.2.2.2.2.2.2.2.2.2.2.2.1 u118.2.2.2.2.2.2.2.2.2.2.2.2.2.2.2.2)) hP hD [0, 1, 2, 3, 4, 5, 6, 7, 8, 9, 10] rfl (by decide) rfl hk1 hFc hP1 hD1
              generalize H1 = H at hP hS ⊢
              have hP : va_P D vwCl (mW cI cZ G u118.1 u118.2.1 u118.2.2.1 u118.2.2.2.1 u118.2.2.2.2.1 u118.2.2.2.2.2.1 u118.2.2.2.2.2.2.1 u118.2.2.2.2.2.2.2.1 u118.2.2.2.2.2.2.2.2.1 u118.2.2.2.2.2.2.2.2.2.1 u118.2.2.2.2.2.2.2.2.2.2.1 u118.2.2.2.2.2.2.2.2.2.2.2.1 u118.2.2.2.2.2.2.2.2.2.2.2.2.1 u118.2.2.2.2.2.2.2.2.2.2.2.2.2.1 u118.2.2.2.2.2.2.2.2.2.2.2.2.2.2.1 u118.2.2.2.2.2.2.2.2.2.2.2.2.2.2.2.1 u118.2.2.2.2.2.2.2.2.2.2.2.2.2.2.2.2) H := hP
              have hD : va_D A (mW cI cZ G u118.1 u118.2.1 u118.2.2.1 u118.2.2.2.1 u118.2.2.2.2.1 u118.2.2.2.2.2.1 u118.2.2.2.2.2.2.1 u118.2.2.2.2.2.2.2.1 u118.2.2.2.2.2.2.2.2.1 u118.2.2.2.2.2.2.2.2.2.1 u118.2.2.2.2.2.2.2.2.2.2.1 u118.2.2.2.2.2.2.2.2.2.2.2.1 u118.2.2.2.2.2.2.2.2.2.2.2.2.1 u118.2.2.2.2.2.2.2.2.2.2.2.2.2.1 u118.2.2.2.2.2.2.2.2.2.2.2.2.2.2.1 u118.2.2.2.2.2.2.2.2.2.2.2.2.2.2.2.1 u118.2.2.2.2.2.2.2.2.2.2.2.2.2.2.2.2) := hD
              refine lv_goto (tgt := 129) hx hb dX5_step_121 (by decide) ?_
              exact W.iret (v := r118) hx hb hr (fun t ht2 hW => ⟨⟨r118, u118, rfl, by
                    (try dsimp only)
                    obtain ⟨σ, g1, g2, g3⟩ := w118
                    exact ⟨σ, by rw [g1, g3], g2⟩, ⟨by (try dsimp only); rw [ht2]; exact hP, by exact hD⟩⟩, hS.F ht2⟩) hS.2.2 dX5_step_129
          · have hx1 : sta F k C k = 1 := by rw [← hrp.x hk]; exact c95
            have hgf : k = F := by have := sta_12.mp (Or.inl hx1); omega
            have hC : C = false := by
              cases C with
              | false => rfl
              | true => exact absurd (hx1.symm.trans (sta_2.mpr ⟨hgf, rfl⟩)) (by decide)
            refine lv_aload_n hx hb dX5_step_98 rfl (lv_at hl 1 rfl) ?_
            refine lv_iload_n hx hb dX5_step_99 rfl (lv_at hl 0 rfl) ?_
            have hPc := hP.sub (ws' := mW cI cZ G 0 off left wr rc mem oth ks vs sx pl ps pk sr tg fl xs) [0, 1, 2, 3, 4, 5, 6, 7, 8, 9, 10] rfl
            have hDc := hD.sub (ws' := mW cI cZ G 0 off left wr rc mem oth ks vs sx pl ps pk sr tg fl xs) [0, 1, 2, 3, 4, 5, 6, 7, 8, 9, 10] (by decide) rfl
            have hFc := va_free (wc := mW cI cZ G 0 off left wr rc mem oth ks vs sx pl ps pk sr tg fl xs) hD hS hA [0, 1, 2, 3, 4, 5, 6, 7, 8, 9, 10] rfl
            refine va_calli (va_runV (As := [.int (nI k)]) (rest := []) ⟨hx, hb, hml, hown, ht⟩ (c_X5_copy l D cI cZ cS cJ H.size G 0 off left wr rc mem oth ks vs sx pl ps pk sr tg fl xs st hst mm hmm hM rows F k C hrp hsr hpl hp8 hoff ho0 hp0 hk hgf hC hlen) (xwV 1 ht kw4_8 kw4_5 kw1_11 kw4_7 kwS_41 rfl rfl (by decide +kernel) ⟨Nat.le_of_ble_eq_true rfl, Nat.le_of_ble_eq_true rfl⟩) ⟨PB.blind, va_recv hK hPc (ci := 5) (q0 := 0) rfl rfl, fun U hU hW => PB.mk hU hW hPc hK hDc⟩ rfl rfl hl.1 rfl (lv_room (Nat.le_of_ble_eq_true rfl)) dX5_step_100 ⟨Nat.le_of_ble_eq_true rfl, Nat.le_of_ble_eq_true rfl⟩) hS (fun q _ h => hFc q h) hFc (fun r100 u100 t100 H1 locs ht1 hvm w100 hB hz1 hk1 hS => ?_)
            try dsimp only at w100 hB
            obtain ⟨hP1, hD1⟩ := hB
            rw [ht1] at hP1
            obtain ⟨hP, hD⟩ := wk_join (w1 := (mW cI cZ G u100.1 u100.2.1 u100.2.2.1 u100.2.2.2.1 u100.2.2.2.2.1 u100.2.2.2.2.2.1 u100.2.2.2.2.2.2.1 u100.2.2.2.2.2.2.2.1 u100.2.2.2.2.2.2.2.2.1 u100.2.2.2.2.2.2.2.2.2.1 u100.2.2.2.2.2.2.2.2.2.2.1 u100.2.2.2.2.2.2.2.2.2.2.2.1 u100.2.2.2.2.2.2.2.2.2.2.2.2.1 u100.2.2.2.2.2.2.2.2.2.2.2.2.2.1 u100.2.2.2.2.2.2.2.2.2.2.2.2.2.2.1 u100.2.2.2.2.2.2.2.2.2.2.2.2.2.2.2.1 u100.2.2.2.2.2.2.2.2.2.2.2.2.2.2.2.2)) hP hD [0, 1, 2, 3, 4, 5, 6, 7, 8, 9, 10] rfl (by decide) rfl hk1 hFc hP1 hD1
            generalize H1 = H at hP hS ⊢
            have hP : va_P D vwCl (mW cI cZ G u100.1 u100.2.1 u100.2.2.1 u100.2.2.2.1 u100.2.2.2.2.1 u100.2.2.2.2.2.1 u100.2.2.2.2.2.2.1 u100.2.2.2.2.2.2.2.1 u100.2.2.2.2.2.2.2.2.1 u100.2.2.2.2.2.2.2.2.2.1 u100.2.2.2.2.2.2.2.2.2.2.1 u100.2.2.2.2.2.2.2.2.2.2.2.1 u100.2.2.2.2.2.2.2.2.2.2.2.2.1 u100.2.2.2.2.2.2.2.2.2.2.2.2.2.1 u100.2.2.2.2.2.2.2.2.2.2.2.2.2.2.1 u100.2.2.2.2.2.2.2.2.2.2.2.2.2.2.2.1 u100.2.2.2.2.2.2.2.2.2.2.2.2.2.2.2.2) H := hP
            have hD : va_D A (mW cI cZ G u100.1 u100.2.1 u100.2.2.1 u100.2.2.2.1 u100.2.2.2.2.1 u100.2.2.2.2.2.1 u100.2.2.2.2.2.2.1 u100.2.2.2.2.2.2.2.1 u100.2.2.2.2.2.2.2.2.1 u100.2.2.2.2.2.2.2.2.2.1 u100.2.2.2.2.2.2.2.2.2.2.1 u100.2.2.2.2.2.2.2.2.2.2.2.1 u100.2.2.2.2.2.2.2.2.2.2.2.2.1 u100.2.2.2.2.2.2.2.2.2.2.2.2.2.1 u100.2.2.2.2.2.2.2.2.2.2.2.2.2.2.1 u100.2.2.2.2.2.2.2.2.2.2.2.2.2.2.2.1 u100.2.2.2.2.2.2.2.2.2.2.2.2.2.2.2.2) := hD
            refine lv_goto (tgt := 129) hx hb dX5_step_103 (by decide) ?_
            exact W.iret (v := r100) hx hb hr (fun t ht2 hW => ⟨⟨r100, u100, rfl, by
                  (try dsimp only)
                  obtain ⟨σ, g1, g2, g3⟩ := w100
                  exact ⟨σ, by rw [g1, g3], g2⟩, ⟨by (try dsimp only); rw [ht2]; exact hP, by exact hD⟩⟩, hS.F ht2⟩) hS.2.2 dX5_step_129
        · have hkg : k < Gn := (sta_4 (C := C) hG).mp (by rw [← hrp.x hkr]; exact c49)
          refine lv_iinc (v := nI (k + 1)) (lv' := [(1, .int (nI (k + 1))), (0, .ref (G 0))]) hx hb dX5_step_52 hl (k := 0) rfl (by exact nI_1 k) (by decide) rfl (fun ls hl => ?_)
          refine lv_goto (tgt := 34) hx hb dX5_step_55 (by decide) ?_
          exact ih34 (k + 1) ls (⟨lv_sub hl [0, 1] rfl, by omega⟩) (by omega)
    · have hbad : ¬ off = 0 ∨ pl = 0 := Or.inr c12
      refine lv_iconst (v := 1) hx hb dX5_step_15 (by decide) ?_
      refine lv_goto (tgt := 20) hx hb dX5_step_16 (by decide) ?_
      refine va_put (D := D) (ci := 5) (v := .int 1) (ty := .int) (C := RX5) (T := TX5) (N := 17) hx hb ht inX5 tyX5 tyX5_ok nmX5 hown hK hP hD hS 0 rfl rfl 0 (by decide) (ht _ kw3_80) (fun _ h9 => h9) rfl (by decide +kernel) (rfl) rfl (Nat.le_of_ble_eq_true rfl) dX5_step_20 (fun H locs hP hD hS => ?_)
      have hP : va_P D vwCl (mW cI cZ G 1 off left wr rc mem oth ks vs sx pl ps pk sr tg fl xs) H := hP
      have hD : va_D A (mW cI cZ G 1 off left wr rc mem oth ks vs sx pl ps pk sr tg fl xs) := hD
      refine lv_aload_n hx hb dX5_step_23 rfl (lv_at hl 0 rfl) ?_
      refine va_get (D := D) (ci := 5) (v := .int 1) (C := RX5) (T := TX5) (N := 17) hx hb ht inX5 hown hK hP 0 rfl rfl 0 (by decide) (ht _ kw3_80) (fun _ h9 => h9) rfl dX5_step_24 ?_
      refine lv_if_le (tgt := 32) hx hb dX5_step_27 (by decide) (fun c27 => by first | exact absurd c27 (by decide) | exact absurd (by decide) c27) (fun c27 => ?_)
      refine lv_iconst (v := 0) hx hb dX5_step_30 (by decide) ?_
      exact W.iret (v := 0) hx hb hr (fun t ht2 hW => ⟨⟨0, (1, off, left, wr, rc, mem, oth, ks, vs, sx, pl, ps, pk, sr, tg, fl, xs), rfl, by
            (try dsimp only)
            (try dsimp only)
            refine ⟨(off, left, wr, rc, st, mm, pl, rows, F, Gn, C), ?_, RepM.mk hst hmm hrp⟩
            unfold stepF
            rw [if_pos hbad], ⟨by (try dsimp only); rw [ht2]; exact hP, by exact hD⟩⟩, hS.F ht2⟩) hS.2.2 dX5_step_31
