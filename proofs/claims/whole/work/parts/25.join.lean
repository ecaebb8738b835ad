-- the reference: change, join, leave
def ocp (mem oth : Nat → Int32) (nd : Nat) (x : Int32) (k : Nat) : Nat → Int32 := fun j => if j < k then (if j = nd then x else mem j) else oth j
theorem ocp_0 (mem oth : Nat → Int32) (nd : Nat) (x : Int32) : ocp mem oth nd x 0 = oth := by funext j; unfold ocp; rw [if_neg (Nat.not_lt_zero _)]
theorem ocp_s (mem oth : Nat → Int32) (nd : Nat) (x : Int32) (k : Nat) (y : Int32) (h : y = if k = nd then x else mem k) : upd (ocp mem oth nd x k) k y = ocp mem oth nd x (k + 1) := by
  funext j
  by_cases e : j = k
  · subst e; rw [pk_us]; unfold ocp; rw [if_pos (show j < j + 1 by omega), h]
  · rw [pk_un e]; unfold ocp
    by_cases c : j < k
    · rw [if_pos c, if_pos (show j < k + 1 by omega)]
    · rw [if_neg c, if_neg (show ¬ j < k + 1 by omega)]
theorem ocp_8 {mem oth : Nat → Int32} {nd pn : Nat} {mm : Nat → Nat} (hmm : ∀ n, n < 8 → mem n = nI (mm n)) : ∀ n, n < 8 → ocp mem oth nd (nI pn) 8 n = nI (fu mm nd pn n) := by
  intro n hn
  unfold ocp fu
  rw [if_pos hn]
  split
  · rfl
  · exact hmm n hn
theorem upd_mm {mem : Nat → Int32} {nd pn : Nat} {mm : Nat → Nat} (hmm : ∀ n, n < 8 → mem n = nI (mm n)) : ∀ n, n < 8 → upd mem nd (nI pn) n = nI (fu mm nd pn n) := by
  intro n hn
  by_cases e : n = nd
  · subst e; rw [pk_us, fu_s]
  · rw [pk_un e, fu_n _ _ e]; exact hmm n hn
theorem MM_join {mm : Nat → Nat} {n p : Nat} (hM : MM mm) (hn : n < 8) (h1 : 0 < p) (h2 : p ≤ 16) : MM (fu mm n p) := by
  refine ⟨fun k hk => ?_, n, hn, by rw [fu_s]; exact h1⟩
  unfold fu; split
  · exact h2
  · exact hM.1 k hk
theorem sumN_one {f : Nat → Nat} {n : Nat} : ∀ {k : Nat}, (∀ j, j < k → j ≠ n → f j = 0) → sumN f k = if n < k then f n else 0
  | 0, _ => by rw [if_neg (Nat.not_lt_zero _)]; rfl
  | k + 1, h => by
    have ih := sumN_one (f := f) (n := n) (k := k) (fun j hj => h j (by omega))
    show sumN f k + f k = _
    rw [ih]
    by_cases e : n = k
    · subst e; rw [if_neg (by omega), if_pos (by omega)]; omega
    · rw [h k (by omega) (fun q => e q.symm)]
      by_cases c : n < k
      · rw [if_pos c, if_pos (by omega), Nat.add_zero]
      · rw [if_neg c, if_neg (by omega)]
theorem MM_leave {mm : Nat → Nat} {n : Nat} (hM : MM mm) (hn : n < 8) (h1 : ¬ mm n = 0) (h2 : ¬ memC mm = 1) : MM (fu mm n 0) := by
  refine ⟨fun k hk => ?_, ?_⟩
  · unfold fu; split
    · omega
    · exact hM.1 k hk
  · refine Classical.byContradiction (fun hno => h2 ?_)
    have hz : ∀ j, j < 8 → j ≠ n → (fun i => if 0 < mm i then 1 else 0) j = 0 := by
      intro j hj hjn
      refine if_neg (fun q => hno ⟨j, hj, ?_⟩)
      rw [fu_n _ _ hjn]; exact q
    unfold memC
    rw [sumN_one hz, if_pos hn]
    exact if_pos (by omega)

set_option maxHeartbeats 4000000 in
set_option maxRecDepth 100000 in
theorem c_X5_change (l : Launch) (D : va_G) (cI cZ cS cJ : ClassId) (sz : Nat) (G : Nat → Nat) (code off left wr rc : Int32) (mem oth ks vs sx : Nat → Int32) (pl ps : Int32) (pk sr tg fl xs : Nat → Int32) (st : Nat → List (Int32 × Int32)) (hst : RS st ks vs sx) (mm : Nat → Nat) (hmm : ∀ n, n < 8 → mem n = nI (mm n)) (hM : MM mm) (rows : List (Int32 × Nat × Nat)) (F Gn : Nat) (C : Bool) (hrp : RP rows F Gn C ps pk sr tg fl xs) (hsr : Srt (pkl rows)) (hpl : pl = 1 ∨ (pl = 0 ∧ rows = [])) (hp8 : P8 rows) (hoff : off = 0 ∨ off = 1) (hss : ∀ n, n < 8 → Srt (st n)) (hv : pl = 0 → OW st (ownK mm)) (h256 : pl = 0 → ∀ mo, (plUp st (ownK mo) 8).length ≤ 256) (hp0 : pl = 0) (nd pn : Nat) (hnd : nd < 8) (hpn : pn ≤ 16) (hMo : MM (fu mm nd pn)) : Met l yX5_change (Cond.code yX5_change cX5_change 4 (some .int) :: TB) ({ frames := 4, cells := 0, slots := 0, locals := 99 } : Room) (va_Pc [.ref (G 0), .int (nI nd), .int (nI pn)] (PB D (KT cI cZ cS cJ) (mW cI cZ G code off left wr rc mem oth ks vs sx pl ps pk sr tg fl xs) sz)) (va_Qi (fun r (u : MT) => ∃ σ, changeF off left wr rc st mm pl rows F Gn C nd pn = (0, r, σ) ∧ RepM σ u ∧ u.1 = code) (fun (u : MT) t => va_P D vwCl (mWu cI cZ G u) t.heap ∧ va_D (va_A (mW cI cZ G code off left wr rc mem oth ks vs sx pl ps pk sr tg fl xs) sz) (mWu cI cZ G u)) (va_A (mW cI cZ G code off left wr rc mem oth ks vs sx pl ps pk sr tg fl xs) sz)) 0 0 (va_A (mW cI cZ G code off left wr rc mem oth ks vs sx pl ps pk sr tg fl xs) sz) := by
  refine Met.ofW (cc := cX5_change) (maxL := 4) (ret := (some .int)) (by decide) rfl ?_
  intro p e s m args below meth c s₁ B hml hv
  obtain ⟨rfl, hsz, hP, hK, hD0⟩ := hv
  have hx := B.exec
  have hb := B.bytes
  have hr := B.returns
  have hts := atoms_spec (ws := (Cond.code yX5_change cX5_change 4 (some .int) :: TB)) B.pre
  have ht : ∀ w ∈ TB, w.before _ s = true := fun w h => hts w (List.mem_cons_of_mem _ h)
  have hown : s.vm.findClass RX5 = some m.cls := findClass_of_methodNamed B.named
  have hlocks := B.notSynchronized
  subst hsz
  have hD := hD0.self (sz := s.heap.size)
  generalize hAe : va_A (mW cI cZ G code off left wr rc mem oth ks vs sx pl ps pk sr tg fl xs) s.heap.size = A at hD ⊢
  have hA : ∀ q : Nat, s.heap.size ≤ q → A q := fun q h => by rw [← hAe]; exact Or.inr h
  have hS : va_S A s.heap s.heap [] := va_S.rf
  have hP : va_P D vwCl (mW cI cZ G code off left wr rc mem oth ks vs sx pl ps pk sr tg fl xs) s.heap := hP
  have hl := lv_entry ([.ref (G 0), .int (nI nd), .int (nI pn)]) (n := 4) (Nat.le_of_ble_eq_true rfl)
  rw [lg_entry_eq]
  generalize (lg_sl ([.ref (G 0), .int (nI nd), .int (nI pn)]) ++ List.replicate (4 - (lg_sl ([.ref (G 0), .int (nI nd), .int (nI pn)])).length) Slot.unset).toArray = ls at hl ⊢
  have hl : lv_has ls 4 [(0, .ref (G 0)), (1, .int (nI nd)), (2, .int (nI pn))] := hl
  refine lv_aload_n hx hb dX5_change_0 rfl (lv_at hl 0 rfl) ?_
  have hPc := hP.sub (ws' := mW cI cZ G code off left wr rc mem oth ks vs sx pl ps pk sr tg fl xs) [0, 1, 2, 3, 4, 5, 6, 7, 8, 9, 10] rfl
  have hDc := hD.sub (ws' := mW cI cZ G code off left wr rc mem oth ks vs sx pl ps pk sr tg fl xs) [0, 1, 2, 3, 4, 5, 6, 7, 8, 9, 10] (by decide) rfl
  have hFc := va_free (wc := mW cI cZ G code off left wr rc mem oth ks vs sx pl ps pk sr tg fl xs) hD hS hA [0, 1, 2, 3, 4, 5, 6, 7, 8, 9, 10] rfl
  refine va_calli (va_runV (As := []) (rest := []) ⟨hx, hb, hml, hown, ht⟩ (c_X5_record l D cI cZ cS cJ s.heap.size G code off left wr rc mem oth ks vs sx pl ps pk sr tg fl xs ) (xwV 0 ht kw3_224 kw3_221 kw1_11 kw3_223 kwS_37 rfl rfl (by decide +kernel) ⟨Nat.le_of_ble_eq_true rfl, Nat.le_of_ble_eq_true rfl⟩) ⟨PB.blind, va_recv hK hPc (ci := 5) (q0 := 0) rfl rfl, fun U hU hW => PB.mk hU hW hPc hK hDc⟩ rfl rfl hl.1 rfl (lv_room (Nat.le_of_ble_eq_true rfl)) dX5_change_1 ⟨Nat.le_of_ble_eq_true rfl, Nat.le_of_ble_eq_true rfl⟩) hS (fun q _ h => hFc q h) hFc (fun r1 u1 t1 H1 locs ht1 hvm w1 hB hz1 hk1 hS => ?_)
  try dsimp only at w1 hB
  obtain ⟨hP1, hD1⟩ := hB
  rw [ht1] at hP1
  obtain ⟨hP, hD⟩ := wk_join (w1 := (mW cI cZ G code (wOff left off) (wLeft left) (wInc left wr) (wInc left rc) mem oth ks vs sx pl ps pk sr tg fl xs)) hP hD [0, 1, 2, 3, 4, 5, 6, 7, 8, 9, 10] rfl (by decide) rfl hk1 hFc hP1 hD1
  generalize H1 = H at hP hS ⊢
  have hP : va_P D vwCl (mW cI cZ G code (wOff left off) (wLeft left) (wInc left wr) (wInc left rc) mem oth ks vs sx pl ps pk sr tg fl xs) H := hP
  have hD : va_D A (mW cI cZ G code (wOff left off) (wLeft left) (wInc left wr) (wInc left rc) mem oth ks vs sx pl ps pk sr tg fl xs) := hD
  refine lv_if_ne (tgt := 10) hx hb dX5_change_4 (by decide) (fun c4 => ?_) (fun c4 => ?_)
  · have hl1 : ¬ left = 0 := wOk_1 (by rw [← w1]; exact c4)
    rw [show wOff left off = off from if_neg hl1, show wInc left wr = wr + 1 from if_neg hl1, show wInc left rc = rc + 1 from if_neg hl1] at hP hD
    refine lv_iconst (v := 0) hx hb dX5_change_10 (by decide) ?_
    refine lv_istore_n (lv' := [(3, .int 0), (0, .ref (G 0)), (1, .int (nI nd)), (2, .int (nI pn))]) hx hb dX5_change_11 rfl hl (by decide) rfl (fun ls hl => ?_)
    rw [← ocp_0 mem oth nd (nI pn)] at hP hD
    refine lpB (pc := 12) (ι := Nat) (fun z H locs k9 n9 ls => lv_has ls 4 [(3, .int (nI z)), (0, .ref (G 0)), (1, .int (nI nd)), (2, .int (nI pn))] ∧ va_P D vwCl (mW cI cZ G code off (wLeft left) (wr + 1) (rc + 1) mem (ocp mem oth nd (nI pn) z) ks vs sx pl ps pk sr tg fl xs) H ∧ va_D A (mW cI cZ G code off (wLeft left) (wr + 1) (rc + 1) mem (ocp mem oth nd (nI pn) z) ks vs sx pl ps pk sr tg fl xs) ∧ va_S A s.heap H locs ∧ k9 = 0 ∧ n9 = 0 ∧ z ≤ 8) (fun z => 8 - z) 0 (⟨lv_sub hl [0, 1, 2, 3] rfl, by exact hP, by exact hD, hS, rfl, rfl, Nat.zero_le _⟩) ?_
    intro z H locs k9 n9 ls hI ih12
    obtain ⟨n, e12⟩ : ∃ y, y = z := ⟨_, rfl⟩
    subst e12
    obtain ⟨hl, hP, hD, hS, e9, e8, hinv⟩ := hI
    subst e9
    subst e8
    have hP : va_P D vwCl (mW cI cZ G code off (wLeft left) (wr + 1) (rc + 1) mem (ocp mem oth nd (nI pn) n) ks vs sx pl ps pk sr tg fl xs) H := hP
    have hD : va_D A (mW cI cZ G code off (wLeft left) (wr + 1) (rc + 1) mem (ocp mem oth nd (nI pn) n) ks vs sx pl ps pk sr tg fl xs) := hD
    have hl : lv_has ls 4 [(3, .int (nI n)), (0, .ref (G 0)), (1, .int (nI nd)), (2, .int (nI pn))] := hl
    obtain hn8 : n ≤ 8 := hinv
    refine lv_iload_n hx hb dX5_change_12 rfl (lv_at hl 0 rfl) ?_
    refine lv_bipush (v := 8) hx hb dX5_change_13 (by decide) ?_
    refine lv_icmp_ge (tgt := 45) hx hb dX5_change_15 (by decide) (fun c15 => ?_) (fun c15 => ?_)
    · have hn9 : n = 8 := by
        rcases Nat.lt_or_ge n 8 with q | q
        · exact absurd c15 (show ¬ nI 8 ≤ nI n from nI_ge q (by decide))
        · omega
      subst hn9
      refine lv_aload_n hx hb dX5_change_45 rfl (lv_at hl 1 rfl) ?_
      refine lv_aload_n hx hb dX5_change_46 rfl (lv_at hl 1 rfl) ?_
      have hPc := hP.sub (ws' := mW cI cZ G code off (wLeft left) (wr + 1) (rc + 1) mem (ocp mem oth nd (nI pn) 8) ks vs sx pl ps pk sr tg fl xs) [0, 1, 2, 3, 4, 5, 6, 7, 8, 9, 10] rfl
      have hDc := hD.sub (ws' := mW cI cZ G code off (wLeft left) (wr + 1) (rc + 1) mem (ocp mem oth nd (nI pn) 8) ks vs sx pl ps pk sr tg fl xs) [0, 1, 2, 3, 4, 5, 6, 7, 8, 9, 10] (by decide) rfl
      have hFc := va_free (wc := mW cI cZ G code off (wLeft left) (wr + 1) (rc + 1) mem (ocp mem oth nd (nI pn) 8) ks vs sx pl ps pk sr tg fl xs) hD hS hA [0, 1, 2, 3, 4, 5, 6, 7, 8, 9, 10] rfl
      refine va_calli (va_runV (As := []) (rest := [.ref (G 0)]) ⟨hx, hb, hml, hown, ht⟩ (c_X5_begin l D cI cZ cS cJ H.size G code off (wLeft left) (wr + 1) (rc + 1) mem (ocp mem oth nd (nI pn) 8) ks vs sx pl ps pk sr tg fl xs st hst mm hmm hM (fu mm nd pn) (ocp_8 hmm) hMo hss (hv hp0) (h256 hp0 _)) (xwV 0 ht kw3_228 kw3_225 kw1_11 kw3_227 kwS_38 rfl rfl (by decide +kernel) ⟨Nat.le_of_ble_eq_true rfl, Nat.le_of_ble_eq_true rfl⟩) ⟨PB.blind, va_recv hK hPc (ci := 5) (q0 := 0) rfl rfl, fun U hU hW => PB.mk hU hW hPc hK hDc⟩ rfl rfl hl.1 rfl (lv_room (Nat.le_of_ble_eq_true rfl)) dX5_change_47 ⟨Nat.le_of_ble_eq_true rfl, Nat.le_of_ble_eq_true rfl⟩) hS (fun q _ h => hFc q h) hFc (fun r47 u47 t47 H1 locs ht1 hvm w47 hB hz1 hk1 hS => ?_)
      try dsimp only at w47 hB
      obtain ⟨hP1, hD1⟩ := hB
      rw [ht1] at hP1
      obtain ⟨hP, hD⟩ := wk_join (w1 := (mW cI cZ G code off (wLeft left) (wr + 1) (rc + 1) mem (ocp mem oth nd (nI pn) 8) ks vs sx pl ps u47.1 u47.2.1 u47.2.2.1 u47.2.2.2.1 u47.2.2.2.2)) hP hD [0, 1, 2, 3, 4, 5, 6, 7, 8, 9, 10] rfl (by decide) rfl hk1 hFc hP1 hD1
      generalize H1 = H at hP hS ⊢
      have hP : va_P D vwCl (mW cI cZ G code off (wLeft left) (wr + 1) (rc + 1) mem (ocp mem oth nd (nI pn) 8) ks vs sx pl ps u47.1 u47.2.1 u47.2.2.1 u47.2.2.2.1 u47.2.2.2.2) H := hP
      have hD : va_D A (mW cI cZ G code off (wLeft left) (wr + 1) (rc + 1) mem (ocp mem oth nd (nI pn) 8) ks vs sx pl ps u47.1 u47.2.1 u47.2.2.1 u47.2.2.2.1 u47.2.2.2.2) := hD
      obtain ⟨e47, hrp1⟩ := w47
      have e47 := e47.symm
      subst e47
      refine va_put (D := D) (ci := 5) (v := .int (nI (plUp st (ownK (fu mm nd pn)) 8).length)) (ty := .int) (C := RX5) (T := TX5) (N := 17) hx hb ht inX5 tyX5 tyX5_ok nmX5 hown hK hP hD hS 0 rfl rfl 11 (by decide) (ht _ kw3_91) (fun _ h9 => h9) rfl (by decide +kernel) (rfl) rfl (Nat.le_of_ble_eq_true rfl) dX5_change_50 (fun H locs hP hD hS => ?_)
      have hP : va_P D vwCl (mW cI cZ G code off (wLeft left) (wr + 1) (rc + 1) mem (ocp mem oth nd (nI pn) 8) ks vs sx pl (nI (plUp st (ownK (fu mm nd pn)) 8).length) u47.1 u47.2.1 u47.2.2.1 u47.2.2.2.1 u47.2.2.2.2) H := hP
      have hD : va_D A (mW cI cZ G code off (wLeft left) (wr + 1) (rc + 1) mem (ocp mem oth nd (nI pn) 8) ks vs sx pl (nI (plUp st (ownK (fu mm nd pn)) 8).length) u47.1 u47.2.1 u47.2.2.1 u47.2.2.2.1 u47.2.2.2.2) := hD
      refine lv_aload_n hx hb dX5_change_53 rfl (lv_at hl 1 rfl) ?_
      refine lv_iconst (v := 1) hx hb dX5_change_54 (by decide) ?_
      refine va_put (D := D) (ci := 5) (v := .int 1) (ty := .boolean) (C := RX5) (T := TX5) (N := 17) hx hb ht inX5 tyX5 tyX5_ok nmX5 hown hK hP hD hS 0 rfl rfl 10 (by decide) (ht _ kw3_90) (fun _ h9 => h9) rfl (by decide +kernel) (by decide +kernel) rfl (Nat.le_of_ble_eq_true rfl) dX5_change_55 (fun H locs hP hD hS => ?_)
      have hP : va_P D vwCl (mW cI cZ G code off (wLeft left) (wr + 1) (rc + 1) mem (ocp mem oth nd (nI pn) 8) ks vs sx 1 (nI (plUp st (ownK (fu mm nd pn)) 8).length) u47.1 u47.2.1 u47.2.2.1 u47.2.2.2.1 u47.2.2.2.2) H := hP
      have hD : va_D A (mW cI cZ G code off (wLeft left) (wr + 1) (rc + 1) mem (ocp mem oth nd (nI pn) 8) ks vs sx 1 (nI (plUp st (ownK (fu mm nd pn)) 8).length) u47.1 u47.2.1 u47.2.2.1 u47.2.2.2.1 u47.2.2.2.2) := hD
      refine lv_aload_n hx hb dX5_change_58 rfl (lv_at hl 1 rfl) ?_
      refine va_get (D := D) (ci := 5) (v := .ref (G 1)) (C := RX5) (T := TX5) (N := 17) hx hb ht inX5 hown hK hP 0 rfl rfl 5 (by decide) (ht _ kw3_85) (fun _ h9 => h9) rfl dX5_change_59 ?_
      refine lv_iload_n hx hb dX5_change_62 rfl (lv_at hl 2 rfl) ?_
      refine lv_iload_n hx hb dX5_change_63 rfl (lv_at hl 3 rfl) ?_
      refine ya_iast hx hb hK hP hD hS 1 0 rfl rfl nd (rfl) (hnd) (by decide) dX5_change_64 (fun H locs hP hD hS => ?_)
      have hP : va_P D vwCl (mW cI cZ G code off (wLeft left) (wr + 1) (rc + 1) (upd mem nd (nI pn)) (ocp mem oth nd (nI pn) 8) ks vs sx 1 (nI (plUp st (ownK (fu mm nd pn)) 8).length) u47.1 u47.2.1 u47.2.2.1 u47.2.2.2.1 u47.2.2.2.2) H := hP
      have hD : va_D A (mW cI cZ G code off (wLeft left) (wr + 1) (rc + 1) (upd mem nd (nI pn)) (ocp mem oth nd (nI pn) 8) ks vs sx 1 (nI (plUp st (ownK (fu mm nd pn)) 8).length) u47.1 u47.2.1 u47.2.2.1 u47.2.2.2.1 u47.2.2.2.2) := hD
      refine lv_aload_n hx hb dX5_change_65 rfl (lv_at hl 1 rfl) ?_
      refine va_get (D := D) (ci := 5) (v := .int (nI (plUp st (ownK (fu mm nd pn)) 8).length)) (C := RX5) (T := TX5) (N := 17) hx hb ht inX5 hown hK hP 0 rfl rfl 11 (by decide) (ht _ kw3_91) (fun _ h9 => h9) rfl dX5_change_66 ?_
      exact W.iret (v := nI (plUp st (ownK (fu mm nd pn)) 8).length) hx hb hr (fun t ht2 hW => ⟨⟨nI (plUp st (ownK (fu mm nd pn)) 8).length, (code, off, wLeft left, wr + 1, rc + 1, upd mem nd (nI pn), ocp mem oth nd (nI pn) 8, ks, vs, sx, 1, nI (plUp st (ownK (fu mm nd pn)) 8).length, u47.1, u47.2.1, u47.2.2.1, u47.2.2.2.1, u47.2.2.2.2), rfl, by
            (try dsimp only)
            (try dsimp only)
            refine ⟨(off, wLeft left, wr + 1, rc + 1, st, (fu mm nd pn), 1, plUp st (ownK (fu mm nd pn)) 8, 0, 0, false), ?_, RepM.mk hst (upd_mm hmm) hrp1, rfl⟩
            unfold changeF
            rw [if_neg hl1], ⟨by (try dsimp only); rw [ht2]; exact hP, by exact hD⟩⟩, hS.F ht2⟩) hS.2.2 dX5_change_69
    · have hn : n < 8 := by
        rcases Nat.lt_or_ge n 8 with q | q
        · exact q
        · exact absurd (show nI 8 ≤ nI n from nI_le q (by omega)) c15
      refine lv_aload_n hx hb dX5_change_18 rfl (lv_at hl 1 rfl) ?_
      refine va_get (D := D) (ci := 5) (v := .ref (G 2)) (C := RX5) (T := TX5) (N := 17) hx hb ht inX5 hown hK hP 0 rfl rfl 6 (by decide) (ht _ kw3_86) (fun _ h9 => h9) rfl dX5_change_19 ?_
      refine lv_iload_n hx hb dX5_change_22 rfl (lv_at hl 0 rfl) ?_
      refine lv_iload_n hx hb dX5_change_23 rfl (lv_at hl 0 rfl) ?_
      refine lv_iload_n hx hb dX5_change_24 rfl (lv_at hl 2 rfl) ?_
      refine lv_icmp_ne (tgt := 32) hx hb dX5_change_25 (by decide) (fun c25 => ?_) (fun c25 => ?_)
      · have hne : ¬ n = nd := fun q => c25 (by rw [q])
        refine lv_aload_n hx hb dX5_change_32 rfl (lv_at hl 1 rfl) ?_
        refine va_get (D := D) (ci := 5) (v := .ref (G 1)) (C := RX5) (T := TX5) (N := 17) hx hb ht inX5 hown hK hP 0 rfl rfl 5 (by decide) (ht _ kw3_85) (fun _ h9 => h9) rfl dX5_change_33 ?_
        refine lv_iload_n hx hb dX5_change_36 rfl (lv_at hl 0 rfl) ?_
        refine ya_iald hx hb hK hP 1 0 rfl rfl n (rfl) (hn) (by decide) dX5_change_37 ?_
        refine ya_iast hx hb hK hP hD hS 2 0 rfl rfl n (rfl) (hn) (by decide) dX5_change_38 (fun H locs hP hD hS => ?_)
        have hP : va_P D vwCl (mW cI cZ G code off (wLeft left) (wr + 1) (rc + 1) mem (upd (ocp mem oth nd (nI pn) n) n (mem n)) ks vs sx pl ps pk sr tg fl xs) H := hP
        have hD : va_D A (mW cI cZ G code off (wLeft left) (wr + 1) (rc + 1) mem (upd (ocp mem oth nd (nI pn) n) n (mem n)) ks vs sx pl ps pk sr tg fl xs) := hD
        refine lv_iinc (v := nI (n + 1)) (lv' := [(3, .int (nI (n + 1))), (0, .ref (G 0)), (1, .int (nI nd)), (2, .int (nI pn))]) hx hb dX5_change_39 hl (k := 0) rfl (by exact nI_1 n) (by decide) rfl (fun ls hl => ?_)
        refine lv_goto (tgt := 12) hx hb dX5_change_42 (by decide) ?_
        rw [ocp_s mem oth nd (nI pn) n _ (by first | (rw [if_neg hne]; done) | (rw [if_pos hne]; done))] at hP hD
        exact ih12 (n + 1) _ _ _ _ ls (⟨lv_sub hl [0, 1, 2, 3] rfl, by exact hP, by exact hD, hS, rfl, rfl, by omega⟩) (by omega)
      · have hne : n = nd := (nI_eq (by omega) (by omega)).mp c25
        refine lv_iload_n hx hb dX5_change_28 rfl (lv_at hl 3 rfl) ?_
        refine lv_goto (tgt := 38) hx hb dX5_change_29 (by decide) ?_
        refine ya_iast hx hb hK hP hD hS 2 0 rfl rfl n (rfl) (hn) (by decide) dX5_change_38 (fun H locs hP hD hS => ?_)
        have hP : va_P D vwCl (mW cI cZ G code off (wLeft left) (wr + 1) (rc + 1) mem (upd (ocp mem oth nd (nI pn) n) n (nI pn)) ks vs sx pl ps pk sr tg fl xs) H := hP
        have hD : va_D A (mW cI cZ G code off (wLeft left) (wr + 1) (rc + 1) mem (upd (ocp mem oth nd (nI pn) n) n (nI pn)) ks vs sx pl ps pk sr tg fl xs) := hD
        refine lv_iinc (v := nI (n + 1)) (lv' := [(3, .int (nI (n + 1))), (0, .ref (G 0)), (1, .int (nI nd)), (2, .int (nI pn))]) hx hb dX5_change_39 hl (k := 0) rfl (by exact nI_1 n) (by decide) rfl (fun ls hl => ?_)
        refine lv_goto (tgt := 12) hx hb dX5_change_42 (by decide) ?_
        rw [ocp_s mem oth nd (nI pn) n _ (by first | (rw [if_neg hne]; done) | (rw [if_pos hne]; done))] at hP hD
        exact ih12 (n + 1) _ _ _ _ ls (⟨lv_sub hl [0, 1, 2, 3] rfl, by exact hP, by exact hD, hS, rfl, rfl, by omega⟩) (by omega)
  · have hl1 : left = 0 := wOk_0 (by rw [← w1]; exact c4)
    rw [show wOff left off = 1 from if_pos hl1, show wInc left wr = wr from if_pos hl1, show wInc left rc = rc from if_pos hl1, wLeft_0 hl1] at hP hD
    refine lv_bipush (v := (-9)) hx hb dX5_change_7 (by decide) ?_
    exact W.iret (v := (-9)) hx hb hr (fun t ht2 hW => ⟨⟨(-9), (code, 1, left, wr, rc, mem, oth, ks, vs, sx, pl, ps, pk, sr, tg, fl, xs), rfl, by
          (try dsimp only)
          (try dsimp only)
          refine ⟨(1, left, wr, rc, st, mm, pl, rows, F, Gn, C), ?_, RepM.mk hst hmm hrp, rfl⟩
          unfold changeF
          rw [if_pos hl1], ⟨by (try dsimp only); rw [ht2]; exact hP, by exact hD⟩⟩, hS.F ht2⟩) hS.2.2 dX5_change_9

set_option maxHeartbeats 4000000 in
set_option maxRecDepth 100000 in
theorem c_X5_join (l : Launch) (D : va_G) (cI cZ cS cJ : ClassId) (sz : Nat) (G : Nat → Nat) (code off left wr rc : Int32) (mem oth ks vs sx : Nat → Int32) (pl ps : Int32) (pk sr tg fl xs : Nat → Int32) (st : Nat → List (Int32 × Int32)) (hst : RS st ks vs sx) (mm : Nat → Nat) (hmm : ∀ n, n < 8 → mem n = nI (mm n)) (hM : MM mm) (rows : List (Int32 × Nat × Nat)) (F Gn : Nat) (C : Bool) (hrp : RP rows F Gn C ps pk sr tg fl xs) (hsr : Srt (pkl rows)) (hpl : pl = 1 ∨ (pl = 0 ∧ rows = [])) (hp8 : P8 rows) (hoff : off = 0 ∨ off = 1) (hss : ∀ n, n < 8 → Srt (st n)) (hv : pl = 0 → OW st (ownK mm)) (h256 : pl = 0 → ∀ mo, (plUp st (ownK mo) 8).length ≤ 256) (hpr : pl = 0 ∨ pl = 1) (node points : Int32) : Met l yX5_join (Cond.code yX5_join cX5_join 3 (some .int) :: TB) ({ frames := 5, cells := 0, slots := 0, locals := 122 } : Room) (va_Pc [.ref (G 0), .int node, .int points] (PB D (KT cI cZ cS cJ) (mW cI cZ G code off left wr rc mem oth ks vs sx pl ps pk sr tg fl xs) sz)) (va_Qi (fun r (u : MT) => ∃ σ, joinF off left wr rc st mm pl rows F Gn C node points = (u.1, r, σ) ∧ RepM σ u) (fun (u : MT) t => va_P D vwCl (mWu cI cZ G u) t.heap ∧ va_D (va_A (mW cI cZ G code off left wr rc mem oth ks vs sx pl ps pk sr tg fl xs) sz) (mWu cI cZ G u)) (va_A (mW cI cZ G code off left wr rc mem oth ks vs sx pl ps pk sr tg fl xs) sz)) 0 0 (va_A (mW cI cZ G code off left wr rc mem oth ks vs sx pl ps pk sr tg fl xs) sz) := by
  refine Met.ofW (cc := cX5_join) (maxL := 3) (ret := (some .int)) (by decide) rfl ?_
  intro p e s m args below meth c s₁ B hml hv
  obtain ⟨rfl, hsz, hP, hK, hD0⟩ := hv
  have hx := B.exec
  have hb := B.bytes
  have hr := B.returns
  have hts := atoms_spec (ws := (Cond.code yX5_join cX5_join 3 (some .int) :: TB)) B.pre
  have ht : ∀ w ∈ TB, w.before _ s = true := fun w h => hts w (List.mem_cons_of_mem _ h)
  have hown : s.vm.findClass RX5 = some m.cls := findClass_of_methodNamed B.named
  have hlocks := B.notSynchronized
  subst hsz
  have hD := hD0.self (sz := s.heap.size)
  generalize hAe : va_A (mW cI cZ G code off left wr rc mem oth ks vs sx pl ps pk sr tg fl xs) s.heap.size = A at hD ⊢
  have hA : ∀ q : Nat, s.heap.size ≤ q → A q := fun q h => by rw [← hAe]; exact Or.inr h
  have hS : va_S A s.heap s.heap [] := va_S.rf
  have hP : va_P D vwCl (mW cI cZ G code off left wr rc mem oth ks vs sx pl ps pk sr tg fl xs) s.heap := hP
  have hl := lv_entry ([.ref (G 0), .int node, .int points]) (n := 3) (Nat.le_of_ble_eq_true rfl)
  rw [lg_entry_eq]
  generalize (lg_sl ([.ref (G 0), .int node, .int points]) ++ List.replicate (3 - (lg_sl ([.ref (G 0), .int node, .int points])).length) Slot.unset).toArray = ls at hl ⊢
  have hl : lv_has ls 3 [(0, .ref (G 0)), (1, .int node), (2, .int points)] := hl
  refine lv_aload_n hx hb dX5_join_0 rfl (lv_at hl 0 rfl) ?_
  refine lv_iload_n hx hb dX5_join_1 rfl (lv_at hl 1 rfl) ?_
  have hPc := hP.sub (ws' := mW cI cZ G code off left wr rc mem oth ks vs sx pl ps pk sr tg fl xs) [0, 1, 2, 3, 4, 5, 6, 7, 8, 9, 10] rfl
  have hDc := hD.sub (ws' := mW cI cZ G code off left wr rc mem oth ks vs sx pl ps pk sr tg fl xs) [0, 1, 2, 3, 4, 5, 6, 7, 8, 9, 10] (by decide) rfl
  have hFc := va_free (wc := mW cI cZ G code off left wr rc mem oth ks vs sx pl ps pk sr tg fl xs) hD hS hA [0, 1, 2, 3, 4, 5, 6, 7, 8, 9, 10] rfl
  refine va_calli (va_runV (As := [.int node]) (rest := []) ⟨hx, hb, hml, hown, ht⟩ (c_X5_noNode l D cI cZ cS cJ s.heap.size G code off left wr rc mem oth ks vs sx pl ps pk sr tg fl xs node) (xwV 1 ht kw3_216 kw3_213 kw1_11 kw3_215 kwS_35 rfl rfl (by decide +kernel) ⟨Nat.le_of_ble_eq_true rfl, Nat.le_of_ble_eq_true rfl⟩) ⟨PB.blind, va_recv hK hPc (ci := 5) (q0 := 0) rfl rfl, fun U hU hW => PB.mk hU hW hPc hK hDc⟩ rfl rfl hl.1 rfl (lv_room (Nat.le_of_ble_eq_true rfl)) dX5_join_2 ⟨Nat.le_of_ble_eq_true rfl, Nat.le_of_ble_eq_true rfl⟩) hS (fun q _ h => hFc q h) hFc (fun r2 u2 t2 H1 locs ht1 hvm w2 hB hz1 hk1 hS => ?_)
  try dsimp only at w2 hB
  obtain ⟨hP1, hD1⟩ := hB
  rw [ht1] at hP1
  obtain ⟨hP, hD⟩ := wk_join (w1 := (mW cI cZ G (if node < 0 ∨ 8 ≤ node then 1 else 0) off left wr rc mem oth ks vs sx pl ps pk sr tg fl xs)) hP hD [0, 1, 2, 3, 4, 5, 6, 7, 8, 9, 10] rfl (by decide) rfl hk1 hFc hP1 hD1
  generalize H1 = H at hP hS ⊢
  have hP : va_P D vwCl (mW cI cZ G (if node < 0 ∨ 8 ≤ node then 1 else 0) off left wr rc mem oth ks vs sx pl ps pk sr tg fl xs) H := hP
  have hD : va_D A (mW cI cZ G (if node < 0 ∨ 8 ≤ node then 1 else 0) off left wr rc mem oth ks vs sx pl ps pk sr tg fl xs) := hD
  refine lv_if_eq (tgt := 10) hx hb dX5_join_5 (by decide) (fun c5 => ?_) (fun c5 => ?_)
  · have hnb : ¬ (node < 0 ∨ 8 ≤ node) := fun q => by rw [w2, if_pos q] at c5; exact absurd c5 (by decide)
    obtain ⟨n, hn, hne, hnc⟩ := nb_in hnb
    subst hne
    refine lv_aload_n hx hb dX5_join_10 rfl (lv_at hl 0 rfl) ?_
    refine lv_iload_n hx hb dX5_join_11 rfl (lv_at hl 2 rfl) ?_
    refine lv_iconst (v := 1) hx hb dX5_join_12 (by decide) ?_
    refine lv_icmp_lt (tgt := 22) hx hb dX5_join_13 (by decide) (fun c13 => ?_) (fun c13 => ?_)
    · have hpb : points < 1 ∨ 16 < points := Or.inl c13
      refine lv_iconst (v := 2) hx hb dX5_join_22 (by decide) ?_
      refine lv_goto (tgt := 54) hx hb dX5_join_23 (by decide) ?_
      refine va_put (D := D) (ci := 5) (v := .int 2) (ty := .int) (C := RX5) (T := TX5) (N := 17) hx hb ht inX5 tyX5 tyX5_ok nmX5 hown hK hP hD hS 0 rfl rfl 0 (by decide) (ht _ kw3_80) (fun _ h9 => h9) rfl (by decide +kernel) (rfl) rfl (Nat.le_of_ble_eq_true rfl) dX5_join_54 (fun H locs hP hD hS => ?_)
      have hP : va_P D vwCl (mW cI cZ G 2 off left wr rc mem oth ks vs sx pl ps pk sr tg fl xs) H := hP
      have hD : va_D A (mW cI cZ G 2 off left wr rc mem oth ks vs sx pl ps pk sr tg fl xs) := hD
      refine lv_aload_n hx hb dX5_join_57 rfl (lv_at hl 0 rfl) ?_
      refine va_get (D := D) (ci := 5) (v := .int 2) (C := RX5) (T := TX5) (N := 17) hx hb ht inX5 hown hK hP 0 rfl rfl 0 (by decide) (ht _ kw3_80) (fun _ h9 => h9) rfl dX5_join_58 ?_
      refine lv_if_le (tgt := 68) hx hb dX5_join_61 (by decide) (fun c61 => by first | exact absurd c61 (by decide) | exact absurd (by decide) c61) (fun c61 => ?_)
      refine lv_iconst (v := 0) hx hb dX5_join_64 (by decide) ?_
      refine lv_goto (tgt := 74) hx hb dX5_join_65 (by decide) ?_
      exact W.iret (v := 0) hx hb hr (fun t ht2 hW => ⟨⟨0, (2, off, left, wr, rc, mem, oth, ks, vs, sx, pl, ps, pk, sr, tg, fl, xs), rfl, by
            (try dsimp only)
            (try dsimp only)
            refine ⟨(off, left, wr, rc, st, mm, pl, rows, F, Gn, C), ?_, RepM.mk hst hmm hrp⟩
            unfold joinF
            rw [if_neg hnb, if_pos hpb]
            try (first | rw [if_pos hnb] | rw [if_neg hnb]), ⟨by (try dsimp only); rw [ht2]; exact hP, by exact hD⟩⟩, hS.F ht2⟩) hS.2.2 dX5_join_74
    · refine lv_iload_n hx hb dX5_join_16 rfl (lv_at hl 2 rfl) ?_
      refine lv_bipush (v := 16) hx hb dX5_join_17 (by decide) ?_
      refine lv_icmp_le (tgt := 26) hx hb dX5_join_19 (by decide) (fun c19 => ?_) (fun c19 => ?_)
      · have hpb : ¬ (points < 1 ∨ 16 < points) := fun q => q.elim c13 (fun z => absurd c19 (Int32.not_le.mpr z))
        obtain ⟨pn, hpn, hpe⟩ := nI_of2 (x := points) (M := 16) (n := 16) rfl (fun q => c13 (Int32.lt_trans q (by decide))) c19
        have hpn0 : 0 < pn := Nat.pos_of_ne_zero (fun q => c13 (by rw [hpe, q]; decide))
        have hpc : points.toNatClampNeg = pn := by rw [hpe, nI_clamp (by omega)]
        subst hpe
        refine lv_aload_n hx hb dX5_join_26 rfl (lv_at hl 0 rfl) ?_
        refine va_get (D := D) (ci := 5) (v := .int off) (C := RX5) (T := TX5) (N := 17) hx hb ht inX5 hown hK hP 0 rfl rfl 1 (by decide) (ht _ kw3_81) (fun _ h9 => h9) rfl dX5_join_27 ?_
        refine lv_if_ne (tgt := 49) hx hb dX5_join_30 (by decide) (fun c30 => ?_) (fun c30 => ?_)
        · have h3 : ¬ off = 0 ∨ ¬ pl = 0 ∨ 0 < mm (nI n).toNatClampNeg := Or.inl c30
          refine lv_iconst (v := 3) hx hb dX5_join_49 (by decide) ?_
          refine lv_goto (tgt := 54) hx hb dX5_join_50 (by decide) ?_
          refine va_put (D := D) (ci := 5) (v := .int 3) (ty := .int) (C := RX5) (T := TX5) (N := 17) hx hb ht inX5 tyX5 tyX5_ok nmX5 hown hK hP hD hS 0 rfl rfl 0 (by decide) (ht _ kw3_80) (fun _ h9 => h9) rfl (by decide +kernel) (rfl) rfl (Nat.le_of_ble_eq_true rfl) dX5_join_54 (fun H locs hP hD hS => ?_)
          have hP : va_P D vwCl (mW cI cZ G 3 off left wr rc mem oth ks vs sx pl ps pk sr tg fl xs) H := hP
          have hD : va_D A (mW cI cZ G 3 off left wr rc mem oth ks vs sx pl ps pk sr tg fl xs) := hD
          refine lv_aload_n hx hb dX5_join_57 rfl (lv_at hl 0 rfl) ?_
          refine va_get (D := D) (ci := 5) (v := .int 3) (C := RX5) (T := TX5) (N := 17) hx hb ht inX5 hown hK hP 0 rfl rfl 0 (by decide) (ht _ kw3_80) (fun _ h9 => h9) rfl dX5_join_58 ?_
          refine lv_if_le (tgt := 68) hx hb dX5_join_61 (by decide) (fun c61 => by first | exact absurd c61 (by decide) | exact absurd (by decide) c61) (fun c61 => ?_)
          refine lv_iconst (v := 0) hx hb dX5_join_64 (by decide) ?_
          refine lv_goto (tgt := 74) hx hb dX5_join_65 (by decide) ?_
          exact W.iret (v := 0) hx hb hr (fun t ht2 hW => ⟨⟨0, (3, off, left, wr, rc, mem, oth, ks, vs, sx, pl, ps, pk, sr, tg, fl, xs), rfl, by
                (try dsimp only)
                (try dsimp only)
                refine ⟨(off, left, wr, rc, st, mm, pl, rows, F, Gn, C), ?_, RepM.mk hst hmm hrp⟩
                unfold joinF
                rw [if_neg hnb, if_neg hpb, if_pos h3]
                try (first | rw [if_pos hnb] | rw [if_neg hnb]), ⟨by (try dsimp only); rw [ht2]; exact hP, by exact hD⟩⟩, hS.F ht2⟩) hS.2.2 dX5_join_74
        · refine lv_aload_n hx hb dX5_join_33 rfl (lv_at hl 0 rfl) ?_
          refine va_get (D := D) (ci := 5) (v := .int pl) (C := RX5) (T := TX5) (N := 17) hx hb ht inX5 hown hK hP 0 rfl rfl 10 (by decide) (ht _ kw3_90) (fun _ h9 => h9) rfl dX5_join_34 ?_
          refine lv_if_ne (tgt := 49) hx hb dX5_join_37 (by decide) (fun c37 => ?_) (fun c37 => ?_)
          · have h3 : ¬ off = 0 ∨ ¬ pl = 0 ∨ 0 < mm (nI n).toNatClampNeg := Or.inr (Or.inl c37)
            refine lv_iconst (v := 3) hx hb dX5_join_49 (by decide) ?_
            refine lv_goto (tgt := 54) hx hb dX5_join_50 (by decide) ?_
            refine va_put (D := D) (ci := 5) (v := .int 3) (ty := .int) (C := RX5) (T := TX5) (N := 17) hx hb ht inX5 tyX5 tyX5_ok nmX5 hown hK hP hD hS 0 rfl rfl 0 (by decide) (ht _ kw3_80) (fun _ h9 => h9) rfl (by decide +kernel) (rfl) rfl (Nat.le_of_ble_eq_true rfl) dX5_join_54 (fun H locs hP hD hS => ?_)
            have hP : va_P D vwCl (mW cI cZ G 3 off left wr rc mem oth ks vs sx pl ps pk sr tg fl xs) H := hP
            have hD : va_D A (mW cI cZ G 3 off left wr rc mem oth ks vs sx pl ps pk sr tg fl xs) := hD
            refine lv_aload_n hx hb dX5_join_57 rfl (lv_at hl 0 rfl) ?_
            refine va_get (D := D) (ci := 5) (v := .int 3) (C := RX5) (T := TX5) (N := 17) hx hb ht inX5 hown hK hP 0 rfl rfl 0 (by decide) (ht _ kw3_80) (fun _ h9 => h9) rfl dX5_join_58 ?_
            refine lv_if_le (tgt := 68) hx hb dX5_join_61 (by decide) (fun c61 => by first | exact absurd c61 (by decide) | exact absurd (by decide) c61) (fun c61 => ?_)
            refine lv_iconst (v := 0) hx hb dX5_join_64 (by decide) ?_
            refine lv_goto (tgt := 74) hx hb dX5_join_65 (by decide) ?_
            exact W.iret (v := 0) hx hb hr (fun t ht2 hW => ⟨⟨0, (3, off, left, wr, rc, mem, oth, ks, vs, sx, pl, ps, pk, sr, tg, fl, xs), rfl, by
                  (try dsimp only)
                  (try dsimp only)
                  refine ⟨(off, left, wr, rc, st, mm, pl, rows, F, Gn, C), ?_, RepM.mk hst hmm hrp⟩
                  unfold joinF
                  rw [if_neg hnb, if_neg hpb, if_pos h3]
                  try (first | rw [if_pos hnb] | rw [if_neg hnb]), ⟨by (try dsimp only); rw [ht2]; exact hP, by exact hD⟩⟩, hS.F ht2⟩) hS.2.2 dX5_join_74
          · refine lv_aload_n hx hb dX5_join_40 rfl (lv_at hl 0 rfl) ?_
            refine va_get (D := D) (ci := 5) (v := .ref (G 1)) (C := RX5) (T := TX5) (N := 17) hx hb ht inX5 hown hK hP 0 rfl rfl 5 (by decide) (ht _ kw3_85) (fun _ h9 => h9) rfl dX5_join_41 ?_
            refine lv_iload_n hx hb dX5_join_44 rfl (lv_at hl 1 rfl) ?_
            refine ya_iald hx hb hK hP 1 0 rfl rfl n (rfl) (hn) (by decide) dX5_join_45 ?_
            refine lv_if_le (tgt := 53) hx hb dX5_join_46 (by decide) (fun c46 => ?_) (fun c46 => ?_)
            · have hp0 : pl = 0 := c37
              have h3 : ¬ (¬ off = 0 ∨ ¬ pl = 0 ∨ 0 < mm (nI n).toNatClampNeg) := by
                intro q
                rcases q with q | q | q
                · exact q c30
                · exact q c37
                · rw [hnc] at q; exact nI_nle q (by have := hM.1 n hn; omega) (by rw [← hmm n hn]; exact c46)
              refine lv_iconst (v := 0) hx hb dX5_join_53 (by decide) ?_
              refine va_put (D := D) (ci := 5) (v := .int 0) (ty := .int) (C := RX5) (T := TX5) (N := 17) hx hb ht inX5 tyX5 tyX5_ok nmX5 hown hK hP hD hS 0 rfl rfl 0 (by decide) (ht _ kw3_80) (fun _ h9 => h9) rfl (by decide +kernel) (rfl) rfl (Nat.le_of_ble_eq_true rfl) dX5_join_54 (fun H locs hP hD hS => ?_)
              have hP : va_P D vwCl (mW cI cZ G 0 off left wr rc mem oth ks vs sx pl ps pk sr tg fl xs) H := hP
              have hD : va_D A (mW cI cZ G 0 off left wr rc mem oth ks vs sx pl ps pk sr tg fl xs) := hD
              refine lv_aload_n hx hb dX5_join_57 rfl (lv_at hl 0 rfl) ?_
              refine va_get (D := D) (ci := 5) (v := .int 0) (C := RX5) (T := TX5) (N := 17) hx hb ht inX5 hown hK hP 0 rfl rfl 0 (by decide) (ht _ kw3_80) (fun _ h9 => h9) rfl dX5_join_58 ?_
              refine lv_if_le (tgt := 68) hx hb dX5_join_61 (by decide) (fun c61 => ?_) (fun c61 => by first | exact absurd c61 (by decide) | exact absurd (by decide) c61)
              refine lv_aload_n hx hb dX5_join_68 rfl (lv_at hl 0 rfl) ?_
              refine lv_iload_n hx hb dX5_join_69 rfl (lv_at hl 1 rfl) ?_
              refine lv_iload_n hx hb dX5_join_70 rfl (lv_at hl 2 rfl) ?_
              have hPc := hP.sub (ws' := mW cI cZ G 0 off left wr rc mem oth ks vs sx pl ps pk sr tg fl xs) [0, 1, 2, 3, 4, 5, 6, 7, 8, 9, 10] rfl
              have hDc := hD.sub (ws' := mW cI cZ G 0 off left wr rc mem oth ks vs sx pl ps pk sr tg fl xs) [0, 1, 2, 3, 4, 5, 6, 7, 8, 9, 10] (by decide) rfl
              have hFc := va_free (wc := mW cI cZ G 0 off left wr rc mem oth ks vs sx pl ps pk sr tg fl xs) hD hS hA [0, 1, 2, 3, 4, 5, 6, 7, 8, 9, 10] rfl
              refine va_calli (va_runV (As := [.int (nI n), .int (nI pn)]) (rest := []) ⟨hx, hb, hml, hown, ht⟩ (c_X5_change l D cI cZ cS cJ H.size G 0 off left wr rc mem oth ks vs sx pl ps pk sr tg fl xs st hst mm hmm hM rows F Gn C hrp hsr hpl hp8 hoff hss hv h256 hp0 n pn hn hpn (MM_join hM hn hpn0 hpn)) (xwV 2 ht kw3_220 kw3_217 kw1_11 kw3_219 kwS_36 rfl rfl (by decide +kernel) ⟨Nat.le_of_ble_eq_true rfl, Nat.le_of_ble_eq_true rfl⟩) ⟨PB.blind, va_recv hK hPc (ci := 5) (q0 := 0) rfl rfl, fun U hU hW => PB.mk hU hW hPc hK hDc⟩ rfl rfl hl.1 rfl (lv_room (Nat.le_of_ble_eq_true rfl)) dX5_join_71 ⟨Nat.le_of_ble_eq_true rfl, Nat.le_of_ble_eq_true rfl⟩) hS (fun q _ h => hFc q h) hFc (fun r71 u71 t71 H1 locs ht1 hvm w71 hB hz1 hk1 hS => ?_)
              try dsimp only at w71 hB
              obtain ⟨hP1, hD1⟩ := hB
              rw [ht1] at hP1
              obtain ⟨hP, hD⟩ := wk_join (w1 := (mW cI cZ G u71.1 u71.2.1 u71.2.2.1 u71.2.2.2.1 u71.2.2.2.2.1 u71.2.2.2.2.2.1 u71.2.2.2.2.2.2.1 u71.2.2.2.2.2.2.2.1 u71.2.2.2.2.2.2.2.2.1 u71.2.2.2.2.2.2.2.2.2.1 u71.2.2.2.2.2.2.2.2.2.2.1 u71.2.2.2.2.2.2.2.2.2.2.2.1 u71.2.2.2.2.2.2.2.2.2.2.2.2.1 u71.2.2.2.2.2.2.2.2.2.2.2.2.2.1 u71.2.2.2.2.2.2.2.2.2.2.2.2.2.2.1 u71.2.2.2.2.2.2.2.2.2.2.2.2.2.2.2.1 u71.2.2.2.2.2.2.2.2.2.2.2.2.2.2.2.2)) hP hD [0, 1, 2, 3, 4, 5, 6, 7, 8, 9, 10] rfl (by decide) rfl hk1 hFc hP1 hD1
              generalize H1 = H at hP hS ⊢
              have hP : va_P D vwCl (mW cI cZ G u71.1 u71.2.1 u71.2.2.1 u71.2.2.2.1 u71.2.2.2.2.1 u71.2.2.2.2.2.1 u71.2.2.2.2.2.2.1 u71.2.2.2.2.2.2.2.1 u71.2.2.2.2.2.2.2.2.1 u71.2.2.2.2.2.2.2.2.2.1 u71.2.2.2.2.2.2.2.2.2.2.1 u71.2.2.2.2.2.2.2.2.2.2.2.1 u71.2.2.2.2.2.2.2.2.2.2.2.2.1 u71.2.2.2.2.2.2.2.2.2.2.2.2.2.1 u71.2.2.2.2.2.2.2.2.2.2.2.2.2.2.1 u71.2.2.2.2.2.2.2.2.2.2.2.2.2.2.2.1 u71.2.2.2.2.2.2.2.2.2.2.2.2.2.2.2.2) H := hP
              have hD : va_D A (mW cI cZ G u71.1 u71.2.1 u71.2.2.1 u71.2.2.2.1 u71.2.2.2.2.1 u71.2.2.2.2.2.1 u71.2.2.2.2.2.2.1 u71.2.2.2.2.2.2.2.1 u71.2.2.2.2.2.2.2.2.1 u71.2.2.2.2.2.2.2.2.2.1 u71.2.2.2.2.2.2.2.2.2.2.1 u71.2.2.2.2.2.2.2.2.2.2.2.1 u71.2.2.2.2.2.2.2.2.2.2.2.2.1 u71.2.2.2.2.2.2.2.2.2.2.2.2.2.1 u71.2.2.2.2.2.2.2.2.2.2.2.2.2.2.1 u71.2.2.2.2.2.2.2.2.2.2.2.2.2.2.2.1 u71.2.2.2.2.2.2.2.2.2.2.2.2.2.2.2.2) := hD
              exact W.iret (v := r71) hx hb hr (fun t ht2 hW => ⟨⟨r71, u71, rfl, by
                    (try dsimp only)
                    obtain ⟨σ, g1, g2, g3⟩ := w71
                    (try dsimp only)
                    refine ⟨σ, ?_, g2⟩
                    unfold joinF
                    rw [if_neg hnb, if_neg hpb, if_neg h3, hnc, hpc, g1, g3], ⟨by (try dsimp only); rw [ht2]; exact hP, by exact hD⟩⟩, hS.F ht2⟩) hS.2.2 dX5_join_74
            · have h3 : ¬ off = 0 ∨ ¬ pl = 0 ∨ 0 < mm (nI n).toNatClampNeg := Or.inr (Or.inr (by rw [hnc]; exact Nat.pos_of_ne_zero (fun q => c46 (by rw [hmm n hn, q]; decide))))
              refine lv_iconst (v := 3) hx hb dX5_join_49 (by decide) ?_
              refine lv_goto (tgt := 54) hx hb dX5_join_50 (by decide) ?_
              refine va_put (D := D) (ci := 5) (v := .int 3) (ty := .int) (C := RX5) (T := TX5) (N := 17) hx hb ht inX5 tyX5 tyX5_ok nmX5 hown hK hP hD hS 0 rfl rfl 0 (by decide) (ht _ kw3_80) (fun _ h9 => h9) rfl (by decide +kernel) (rfl) rfl (Nat.le_of_ble_eq_true rfl) dX5_join_54 (fun H locs hP hD hS => ?_)
              have hP : va_P D vwCl (mW cI cZ G 3 off left wr rc mem oth ks vs sx pl ps pk sr tg fl xs) H := hP
              have hD : va_D A (mW cI cZ G 3 off left wr rc mem oth ks vs sx pl ps pk sr tg fl xs) := hD
              refine lv_aload_n hx hb dX5_join_57 rfl (lv_at hl 0 rfl) ?_
              refine va_get (D := D) (ci := 5) (v := .int 3) (C := RX5) (T := TX5) (N := 17) hx hb ht inX5 hown hK hP 0 rfl rfl 0 (by decide) (ht _ kw3_80) (fun _ h9 => h9) rfl dX5_join_58 ?_
              refine lv_if_le (tgt := 68) hx hb dX5_join_61 (by decide) (fun c61 => by first | exact absurd c61 (by decide) | exact absurd (by decide) c61) (fun c61 => ?_)
              refine lv_iconst (v := 0) hx hb dX5_join_64 (by decide) ?_
              refine lv_goto (tgt := 74) hx hb dX5_join_65 (by decide) ?_
              exact W.iret (v := 0) hx hb hr (fun t ht2 hW => ⟨⟨0, (3, off, left, wr, rc, mem, oth, ks, vs, sx, pl, ps, pk, sr, tg, fl, xs), rfl, by
                    (try dsimp only)
                    (try dsimp only)
                    refine ⟨(off, left, wr, rc, st, mm, pl, rows, F, Gn, C), ?_, RepM.mk hst hmm hrp⟩
                    unfold joinF
                    rw [if_neg hnb, if_neg hpb, if_pos h3]
                    try (first | rw [if_pos hnb] | rw [if_neg hnb]), ⟨by (try dsimp only); rw [ht2]; exact hP, by exact hD⟩⟩, hS.F ht2⟩) hS.2.2 dX5_join_74
      · have hpb : points < 1 ∨ 16 < points := Or.inr (Int32.not_le.mp c19)
        refine lv_iconst (v := 2) hx hb dX5_join_22 (by decide) ?_
        refine lv_goto (tgt := 54) hx hb dX5_join_23 (by decide) ?_
        refine va_put (D := D) (ci := 5) (v := .int 2) (ty := .int) (C := RX5) (T := TX5) (N := 17) hx hb ht inX5 tyX5 tyX5_ok nmX5 hown hK hP hD hS 0 rfl rfl 0 (by decide) (ht _ kw3_80) (fun _ h9 => h9) rfl (by decide +kernel) (rfl) rfl (Nat.le_of_ble_eq_true rfl) dX5_join_54 (fun H locs hP hD hS => ?_)
        have hP : va_P D vwCl (mW cI cZ G 2 off left wr rc mem oth ks vs sx pl ps pk sr tg fl xs) H := hP
        have hD : va_D A (mW cI cZ G 2 off left wr rc mem oth ks vs sx pl ps pk sr tg fl xs) := hD
        refine lv_aload_n hx hb dX5_join_57 rfl (lv_at hl 0 rfl) ?_
        refine va_get (D := D) (ci := 5) (v := .int 2) (C := RX5) (T := TX5) (N := 17) hx hb ht inX5 hown hK hP 0 rfl rfl 0 (by decide) (ht _ kw3_80) (fun _ h9 => h9) rfl dX5_join_58 ?_
        refine lv_if_le (tgt := 68) hx hb dX5_join_61 (by decide) (fun c61 => by first | exact absurd c61 (by decide) | exact absurd (by decide) c61) (fun c61 => ?_)
        refine lv_iconst (v := 0) hx hb dX5_join_64 (by decide) ?_
        refine lv_goto (tgt := 74) hx hb dX5_join_65 (by decide) ?_
        exact W.iret (v := 0) hx hb hr (fun t ht2 hW => ⟨⟨0, (2, off, left, wr, rc, mem, oth, ks, vs, sx, pl, ps, pk, sr, tg, fl, xs), rfl, by
              (try dsimp only)
              (try dsimp only)
              refine ⟨(off, left, wr, rc, st, mm, pl, rows, F, Gn, C), ?_, RepM.mk hst hmm hrp⟩
              unfold joinF
              rw [if_neg hnb, if_pos hpb]
              try (first | rw [if_pos hnb] | rw [if_neg hnb]), ⟨by (try dsimp only); rw [ht2]; exact hP, by exact hD⟩⟩, hS.F ht2⟩) hS.2.2 dX5_join_74
  · have hnb : node < 0 ∨ 8 ≤ node := Decidable.byContradiction (fun q => c5 (by rw [w2, if_neg q]))
    refine lv_iconst (v := 0) hx hb dX5_join_8 (by decide) ?_
    exact W.iret (v := 0) hx hb hr (fun t ht2 hW => ⟨⟨0, ((if node < 0 ∨ 8 ≤ node then 1 else 0), off, left, wr, rc, mem, oth, ks, vs, sx, pl, ps, pk, sr, tg, fl, xs), rfl, by
          (try dsimp only)
          (try dsimp only)
          refine ⟨(off, left, wr, rc, st, mm, pl, rows, F, Gn, C), ?_, RepM.mk hst hmm hrp⟩
          unfold joinF
          rw [if_pos hnb]
          try (first | rw [if_pos hnb] | rw [if_neg hnb]), ⟨by (try dsimp only); rw [ht2]; exact hP, by exact hD⟩⟩, hS.F ht2⟩) hS.2.2 dX5_join_9

set_option maxHeartbeats 4000000 in
set_option maxRecDepth 100000 in
theorem c_X5_leave (l : Launch) (D : va_G) (cI cZ cS cJ : ClassId) (sz : Nat) (G : Nat → Nat) (code off left wr rc : Int32) (mem oth ks vs sx : Nat → Int32) (pl ps : Int32) (pk sr tg fl xs : Nat → Int32) (st : Nat → List (Int32 × Int32)) (hst : RS st ks vs sx) (mm : Nat → Nat) (hmm : ∀ n, n < 8 → mem n = nI (mm n)) (hM : MM mm) (rows : List (Int32 × Nat × Nat)) (F Gn : Nat) (C : Bool) (hrp : RP rows F Gn C ps pk sr tg fl xs) (hsr : Srt (pkl rows)) (hpl : pl = 1 ∨ (pl = 0 ∧ rows = [])) (hp8 : P8 rows) (hoff : off = 0 ∨ off = 1) (hss : ∀ n, n < 8 → Srt (st n)) (hv : pl = 0 → OW st (ownK mm)) (h256 : pl = 0 → ∀ mo, (plUp st (ownK mo) 8).length ≤ 256) (hpr : pl = 0 ∨ pl = 1) (node : Int32) : Met l yX5_leave (Cond.code yX5_leave cX5_leave 2 (some .int) :: TB) ({ frames := 5, cells := 0, slots := 0, locals := 122 } : Room) (va_Pc [.ref (G 0), .int node] (PB D (KT cI cZ cS cJ) (mW cI cZ G code off left wr rc mem oth ks vs sx pl ps pk sr tg fl xs) sz)) (va_Qi (fun r (u : MT) => ∃ σ, leaveF off left wr rc st mm pl rows F Gn C node = (u.1, r, σ) ∧ RepM σ u) (fun (u : MT) t => va_P D vwCl (mWu cI cZ G u) t.heap ∧ va_D (va_A (mW cI cZ G code off left wr rc mem oth ks vs sx pl ps pk sr tg fl xs) sz) (mWu cI cZ G u)) (va_A (mW cI cZ G code off left wr rc mem oth ks vs sx pl ps pk sr tg fl xs) sz)) 0 0 (va_A (mW cI cZ G code off left wr rc mem oth ks vs sx pl ps pk sr tg fl xs) sz) := by
  refine Met.ofW (cc := cX5_leave) (maxL := 2) (ret := (some .int)) (by decide) rfl ?_
  intro p e s m args below meth c s₁ B hml hv
  obtain ⟨rfl, hsz, hP, hK, hD0⟩ := hv
  have hx := B.exec
  have hb := B.bytes
  have hr := B.returns
  have hts := atoms_spec (ws := (Cond.code yX5_leave cX5_leave 2 (some .int) :: TB)) B.pre
  have ht : ∀ w ∈ TB, w.before _ s = true := fun w h => hts w (List.mem_cons_of_mem _ h)
  have hown : s.vm.findClass RX5 = some m.cls := findClass_of_methodNamed B.named
  have hlocks := B.notSynchronized
  subst hsz
  have hD := hD0.self (sz := s.heap.size)
  generalize hAe : va_A (mW cI cZ G code off left wr rc mem oth ks vs sx pl ps pk sr tg fl xs) s.heap.size = A at hD ⊢
  have hA : ∀ q : Nat, s.heap.size ≤ q → A q := fun q h => by rw [← hAe]; exact Or.inr h
  have hS : va_S A s.heap s.heap [] := va_S.rf
  have hP : va_P D vwCl (mW cI cZ G code off left wr rc mem oth ks vs sx pl ps pk sr tg fl xs) s.heap := hP
  have hl := lv_entry ([.ref (G 0), .int node]) (n := 2) (Nat.le_of_ble_eq_true rfl)
  rw [lg_entry_eq]
  generalize (lg_sl ([.ref (G 0), .int node]) ++ List.replicate (2 - (lg_sl ([.ref (G 0), .int node])).length) Slot.unset).toArray = ls at hl ⊢
  have hl : lv_has ls 2 [(0, .ref (G 0)), (1, .int node)] := hl
  refine lv_aload_n hx hb dX5_leave_0 rfl (lv_at hl 0 rfl) ?_
  refine lv_iload_n hx hb dX5_leave_1 rfl (lv_at hl 1 rfl) ?_
  have hPc := hP.sub (ws' := mW cI cZ G code off left wr rc mem oth ks vs sx pl ps pk sr tg fl xs) [0, 1, 2, 3, 4, 5, 6, 7, 8, 9, 10] rfl
  have hDc := hD.sub (ws' := mW cI cZ G code off left wr rc mem oth ks vs sx pl ps pk sr tg fl xs) [0, 1, 2, 3, 4, 5, 6, 7, 8, 9, 10] (by decide) rfl
  have hFc := va_free (wc := mW cI cZ G code off left wr rc mem oth ks vs sx pl ps pk sr tg fl xs) hD hS hA [0, 1, 2, 3, 4, 5, 6, 7, 8, 9, 10] rfl
  refine va_calli (va_runV (As := [.int node]) (rest := []) ⟨hx, hb, hml, hown, ht⟩ (c_X5_noNode l D cI cZ cS cJ s.heap.size G code off left wr rc mem oth ks vs sx pl ps pk sr tg fl xs node) (xwV 1 ht kw3_216 kw3_213 kw1_11 kw3_215 kwS_35 rfl rfl (by decide +kernel) ⟨Nat.le_of_ble_eq_true rfl, Nat.le_of_ble_eq_true rfl⟩) ⟨PB.blind, va_recv hK hPc (ci := 5) (q0 := 0) rfl rfl, fun U hU hW => PB.mk hU hW hPc hK hDc⟩ rfl rfl hl.1 rfl (lv_room (Nat.le_of_ble_eq_true rfl)) dX5_leave_2 ⟨Nat.le_of_ble_eq_true rfl, Nat.le_of_ble_eq_true rfl⟩) hS (fun q _ h => hFc q h) hFc (fun r2 u2 t2 H1 locs ht1 hvm w2 hB hz1 hk1 hS => ?_)
  try dsimp only at w2 hB
  obtain ⟨hP1, hD1⟩ := hB
  rw [ht1] at hP1
  obtain ⟨hP, hD⟩ := wk_join (w1 := (mW cI cZ G (if node < 0 ∨ 8 ≤ node then 1 else 0) off left wr rc mem oth ks vs sx pl ps pk sr tg fl xs)) hP hD [0, 1, 2, 3, 4, 5, 6, 7, 8, 9, 10] rfl (by decide) rfl hk1 hFc hP1 hD1
  generalize H1 = H at hP hS ⊢
  have hP : va_P D vwCl (mW cI cZ G (if node < 0 ∨ 8 ≤ node then 1 else 0) off left wr rc mem oth ks vs sx pl ps pk sr tg fl xs) H := hP
  have hD : va_D A (mW cI cZ G (if node < 0 ∨ 8 ≤ node then 1 else 0) off left wr rc mem oth ks vs sx pl ps pk sr tg fl xs) := hD
  refine lv_if_eq (tgt := 10) hx hb dX5_leave_5 (by decide) (fun c5 => ?_) (fun c5 => ?_)
  · have hnb : ¬ (node < 0 ∨ 8 ≤ node) := fun q => by rw [w2, if_pos q] at c5; exact absurd c5 (by decide)
    obtain ⟨n, hn, hne, hnc⟩ := nb_in hnb
    subst hne
    refine lv_aload_n hx hb dX5_leave_10 rfl (lv_at hl 0 rfl) ?_
    refine lv_aload_n hx hb dX5_leave_11 rfl (lv_at hl 0 rfl) ?_
    refine va_get (D := D) (ci := 5) (v := .int off) (C := RX5) (T := TX5) (N := 17) hx hb ht inX5 hown hK hP 0 rfl rfl 1 (by decide) (ht _ kw3_81) (fun _ h9 => h9) rfl dX5_leave_12 ?_
    refine lv_if_ne (tgt := 42) hx hb dX5_leave_15 (by decide) (fun c15 => ?_) (fun c15 => ?_)
    · have h3 : ¬ off = 0 ∨ ¬ pl = 0 ∨ mm (nI n).toNatClampNeg = 0 ∨ memC mm = 1 := Or.inl c15
      refine lv_iconst (v := 2) hx hb dX5_leave_42 (by decide) ?_
      refine lv_goto (tgt := 47) hx hb dX5_leave_43 (by decide) ?_
      refine va_put (D := D) (ci := 5) (v := .int 2) (ty := .int) (C := RX5) (T := TX5) (N := 17) hx hb ht inX5 tyX5 tyX5_ok nmX5 hown hK hP hD hS 0 rfl rfl 0 (by decide) (ht _ kw3_80) (fun _ h9 => h9) rfl (by decide +kernel) (rfl) rfl (Nat.le_of_ble_eq_true rfl) dX5_leave_47 (fun H locs hP hD hS => ?_)
      have hP : va_P D vwCl (mW cI cZ G 2 off left wr rc mem oth ks vs sx pl ps pk sr tg fl xs) H := hP
      have hD : va_D A (mW cI cZ G 2 off left wr rc mem oth ks vs sx pl ps pk sr tg fl xs) := hD
      refine lv_aload_n hx hb dX5_leave_50 rfl (lv_at hl 0 rfl) ?_
      refine va_get (D := D) (ci := 5) (v := .int 2) (C := RX5) (T := TX5) (N := 17) hx hb ht inX5 hown hK hP 0 rfl rfl 0 (by decide) (ht _ kw3_80) (fun _ h9 => h9) rfl dX5_leave_51 ?_
      refine lv_if_le (tgt := 61) hx hb dX5_leave_54 (by decide) (fun c54 => by first | exact absurd c54 (by decide) | exact absurd (by decide) c54) (fun c54 => ?_)
      refine lv_iconst (v := 0) hx hb dX5_leave_57 (by decide) ?_
      refine lv_goto (tgt := 67) hx hb dX5_leave_58 (by decide) ?_
      exact W.iret (v := 0) hx hb hr (fun t ht2 hW => ⟨⟨0, (2, off, left, wr, rc, mem, oth, ks, vs, sx, pl, ps, pk, sr, tg, fl, xs), rfl, by
            (try dsimp only)
            (try dsimp only)
            refine ⟨(off, left, wr, rc, st, mm, pl, rows, F, Gn, C), ?_, RepM.mk hst hmm hrp⟩
            unfold leaveF
            rw [if_neg hnb, if_pos h3]
            try (first | rw [if_pos hnb] | rw [if_neg hnb]), ⟨by (try dsimp only); rw [ht2]; exact hP, by exact hD⟩⟩, hS.F ht2⟩) hS.2.2 dX5_leave_67
    · refine lv_aload_n hx hb dX5_leave_18 rfl (lv_at hl 0 rfl) ?_
      refine va_get (D := D) (ci := 5) (v := .int pl) (C := RX5) (T := TX5) (N := 17) hx hb ht inX5 hown hK hP 0 rfl rfl 10 (by decide) (ht _ kw3_90) (fun _ h9 => h9) rfl dX5_leave_19 ?_
      refine lv_if_ne (tgt := 42) hx hb dX5_leave_22 (by decide) (fun c22 => ?_) (fun c22 => ?_)
      · have h3 : ¬ off = 0 ∨ ¬ pl = 0 ∨ mm (nI n).toNatClampNeg = 0 ∨ memC mm = 1 := Or.inr (Or.inl c22)
        refine lv_iconst (v := 2) hx hb dX5_leave_42 (by decide) ?_
        refine lv_goto (tgt := 47) hx hb dX5_leave_43 (by decide) ?_
        refine va_put (D := D) (ci := 5) (v := .int 2) (ty := .int) (C := RX5) (T := TX5) (N := 17) hx hb ht inX5 tyX5 tyX5_ok nmX5 hown hK hP hD hS 0 rfl rfl 0 (by decide) (ht _ kw3_80) (fun _ h9 => h9) rfl (by decide +kernel) (rfl) rfl (Nat.le_of_ble_eq_true rfl) dX5_leave_47 (fun H locs hP hD hS => ?_)
        have hP : va_P D vwCl (mW cI cZ G 2 off left wr rc mem oth ks vs sx pl ps pk sr tg fl xs) H := hP
        have hD : va_D A (mW cI cZ G 2 off left wr rc mem oth ks vs sx pl ps pk sr tg fl xs) := hD
        refine lv_aload_n hx hb dX5_leave_50 rfl (lv_at hl 0 rfl) ?_
        refine va_get (D := D) (ci := 5) (v := .int 2) (C := RX5) (T := TX5) (N := 17) hx hb ht inX5 hown hK hP 0 rfl rfl 0 (by decide) (ht _ kw3_80) (fun _ h9 => h9) rfl dX5_leave_51 ?_
        refine lv_if_le (tgt := 61) hx hb dX5_leave_54 (by decide) (fun c54 => by first | exact absurd c54 (by decide) | exact absurd (by decide) c54) (fun c54 => ?_)
        refine lv_iconst (v := 0) hx hb dX5_leave_57 (by decide) ?_
        refine lv_goto (tgt := 67) hx hb dX5_leave_58 (by decide) ?_
        exact W.iret (v := 0) hx hb hr (fun t ht2 hW => ⟨⟨0, (2, off, left, wr, rc, mem, oth, ks, vs, sx, pl, ps, pk, sr, tg, fl, xs), rfl, by
              (try dsimp only)
              (try dsimp only)
              refine ⟨(off, left, wr, rc, st, mm, pl, rows, F, Gn, C), ?_, RepM.mk hst hmm hrp⟩
              unfold leaveF
              rw [if_neg hnb, if_pos h3]
              try (first | rw [if_pos hnb] | rw [if_neg hnb]), ⟨by (try dsimp only); rw [ht2]; exact hP, by exact hD⟩⟩, hS.F ht2⟩) hS.2.2 dX5_leave_67
      · refine lv_aload_n hx hb dX5_leave_25 rfl (lv_at hl 0 rfl) ?_
        refine va_get (D := D) (ci := 5) (v := .ref (G 1)) (C := RX5) (T := TX5) (N := 17) hx hb ht inX5 hown hK hP 0 rfl rfl 5 (by decide) (ht _ kw3_85) (fun _ h9 => h9) rfl dX5_leave_26 ?_
        refine lv_iload_n hx hb dX5_leave_29 rfl (lv_at hl 1 rfl) ?_
        refine ya_iald hx hb hK hP 1 0 rfl rfl n (rfl) (hn) (by decide) dX5_leave_30 ?_
        refine lv_if_eq (tgt := 42) hx hb dX5_leave_31 (by decide) (fun c31 => ?_) (fun c31 => ?_)
        · have h3 : ¬ off = 0 ∨ ¬ pl = 0 ∨ mm (nI n).toNatClampNeg = 0 ∨ memC mm = 1 := Or.inr (Or.inr (Or.inl (by rw [hnc]; rw [hmm n hn] at c31; exact (nI_eq (by have := hM.1 n hn; omega) (by decide)).mp (show nI (mm n) = nI 0 from c31))))
          refine lv_iconst (v := 2) hx hb dX5_leave_42 (by decide) ?_
          refine lv_goto (tgt := 47) hx hb dX5_leave_43 (by decide) ?_
          refine va_put (D := D) (ci := 5) (v := .int 2) (ty := .int) (C := RX5) (T := TX5) (N := 17) hx hb ht inX5 tyX5 tyX5_ok nmX5 hown hK hP hD hS 0 rfl rfl 0 (by decide) (ht _ kw3_80) (fun _ h9 => h9) rfl (by decide +kernel) (rfl) rfl (Nat.le_of_ble_eq_true rfl) dX5_leave_47 (fun H locs hP hD hS => ?_)
          have hP : va_P D vwCl (mW cI cZ G 2 off left wr rc mem oth ks vs sx pl ps pk sr tg fl xs) H := hP
          have hD : va_D A (mW cI cZ G 2 off left wr rc mem oth ks vs sx pl ps pk sr tg fl xs) := hD
          refine lv_aload_n hx hb dX5_leave_50 rfl (lv_at hl 0 rfl) ?_
          refine va_get (D := D) (ci := 5) (v := .int 2) (C := RX5) (T := TX5) (N := 17) hx hb ht inX5 hown hK hP 0 rfl rfl 0 (by decide) (ht _ kw3_80) (fun _ h9 => h9) rfl dX5_leave_51 ?_
          refine lv_if_le (tgt := 61) hx hb dX5_leave_54 (by decide) (fun c54 => by first | exact absurd c54 (by decide) | exact absurd (by decide) c54) (fun c54 => ?_)
          refine lv_iconst (v := 0) hx hb dX5_leave_57 (by decide) ?_
          refine lv_goto (tgt := 67) hx hb dX5_leave_58 (by decide) ?_
          exact W.iret (v := 0) hx hb hr (fun t ht2 hW => ⟨⟨0, (2, off, left, wr, rc, mem, oth, ks, vs, sx, pl, ps, pk, sr, tg, fl, xs), rfl, by
                (try dsimp only)
                (try dsimp only)
                refine ⟨(off, left, wr, rc, st, mm, pl, rows, F, Gn, C), ?_, RepM.mk hst hmm hrp⟩
                unfold leaveF
                rw [if_neg hnb, if_pos h3]
                try (first | rw [if_pos hnb] | rw [if_neg hnb]), ⟨by (try dsimp only); rw [ht2]; exact hP, by exact hD⟩⟩, hS.F ht2⟩) hS.2.2 dX5_leave_67
        · have hm0 : ¬ mm n = 0 := fun q => c31 (by rw [hmm n hn, q]; rfl)
          have hmcl : memC mm ≤ 8 * 1 := sumN_le (fun k _ => by split <;> omega)
          refine lv_aload_n hx hb dX5_leave_34 rfl (lv_at hl 0 rfl) ?_
          have hPc := hP.sub (ws' := mW cI cZ G (if nI n < 0 ∨ 8 ≤ nI n then 1 else 0) off left wr rc mem oth ks vs sx pl ps pk sr tg fl xs) [0, 1, 2, 3, 4, 5, 6, 7, 8, 9, 10] rfl
          have hDc := hD.sub (ws' := mW cI cZ G (if nI n < 0 ∨ 8 ≤ nI n then 1 else 0) off left wr rc mem oth ks vs sx pl ps pk sr tg fl xs) [0, 1, 2, 3, 4, 5, 6, 7, 8, 9, 10] (by decide) rfl
          have hFc := va_free (wc := mW cI cZ G (if nI n < 0 ∨ 8 ≤ nI n then 1 else 0) off left wr rc mem oth ks vs sx pl ps pk sr tg fl xs) hD hS hA [0, 1, 2, 3, 4, 5, 6, 7, 8, 9, 10] rfl
          refine va_calli (va_runV (As := []) (rest := [.ref (G 0)]) ⟨hx, hb, hml, hown, ht⟩ (c_X5_memberCount l D cI cZ cS cJ H.size G (if nI n < 0 ∨ 8 ≤ nI n then 1 else 0) off left wr rc mem oth ks vs sx pl ps pk sr tg fl xs mm hmm hM) (xwV 0 ht kw4_0 kw3_237 kw1_11 kw3_239 kwS_40 rfl rfl (by decide +kernel) ⟨Nat.le_of_ble_eq_true rfl, Nat.le_of_ble_eq_true rfl⟩) ⟨PB.blind, va_recv hK hPc (ci := 5) (q0 := 0) rfl rfl, fun U hU hW => PB.mk hU hW hPc hK hDc⟩ rfl rfl hl.1 rfl (lv_room (Nat.le_of_ble_eq_true rfl)) dX5_leave_35 ⟨Nat.le_of_ble_eq_true rfl, Nat.le_of_ble_eq_true rfl⟩) hS (fun q _ h => hFc q h) hFc (fun r35 u35 t35 H1 locs ht1 hvm w35 hB hz1 hk1 hS => ?_)
          try dsimp only at w35 hB
          rw [ht1] at hB
          have hP := wk_ro hP hD [0, 1, 2, 3, 4, 5, 6, 7, 8, 9, 10] rfl hk1 hB
          generalize H1 = H at hP hS ⊢
          refine lv_iconst (v := 1) hx hb dX5_leave_38 (by decide) ?_
          refine lv_icmp_ne (tgt := 46) hx hb dX5_leave_39 (by decide) (fun c39 => ?_) (fun c39 => ?_)
          · have hp0 : pl = 0 := c22
            have hmc : ¬ memC mm = 1 := fun q => c39 (by rw [w35]; show nI (memC mm) = 1; rw [q]; rfl)
            have h3 : ¬ (¬ off = 0 ∨ ¬ pl = 0 ∨ mm (nI n).toNatClampNeg = 0 ∨ memC mm = 1) := by
              intro q
              rcases q with q | q | q | q
              · exact q c15
              · exact q c22
              · rw [hnc] at q; exact hm0 q
              · exact hmc q
            refine lv_iconst (v := 0) hx hb dX5_leave_46 (by decide) ?_
            refine va_put (D := D) (ci := 5) (v := .int 0) (ty := .int) (C := RX5) (T := TX5) (N := 17) hx hb ht inX5 tyX5 tyX5_ok nmX5 hown hK hP hD hS 0 rfl rfl 0 (by decide) (ht _ kw3_80) (fun _ h9 => h9) rfl (by decide +kernel) (rfl) rfl (Nat.le_of_ble_eq_true rfl) dX5_leave_47 (fun H locs hP hD hS => ?_)
            have hP : va_P D vwCl (mW cI cZ G 0 off left wr rc mem oth ks vs sx pl ps pk sr tg fl xs) H := hP
            have hD : va_D A (mW cI cZ G 0 off left wr rc mem oth ks vs sx pl ps pk sr tg fl xs) := hD
            refine lv_aload_n hx hb dX5_leave_50 rfl (lv_at hl 0 rfl) ?_
            refine va_get (D := D) (ci := 5) (v := .int 0) (C := RX5) (T := TX5) (N := 17) hx hb ht inX5 hown hK hP 0 rfl rfl 0 (by decide) (ht _ kw3_80) (fun _ h9 => h9) rfl dX5_leave_51 ?_
            refine lv_if_le (tgt := 61) hx hb dX5_leave_54 (by decide) (fun c54 => ?_) (fun c54 => by first | exact absurd c54 (by decide) | exact absurd (by decide) c54)
            refine lv_aload_n hx hb dX5_leave_61 rfl (lv_at hl 0 rfl) ?_
            refine lv_iload_n hx hb dX5_leave_62 rfl (lv_at hl 1 rfl) ?_
            refine lv_iconst (v := 0) hx hb dX5_leave_63 (by decide) ?_
            have hPc := hP.sub (ws' := mW cI cZ G 0 off left wr rc mem oth ks vs sx pl ps pk sr tg fl xs) [0, 1, 2, 3, 4, 5, 6, 7, 8, 9, 10] rfl
            have hDc := hD.sub (ws' := mW cI cZ G 0 off left wr rc mem oth ks vs sx pl ps pk sr tg fl xs) [0, 1, 2, 3, 4, 5, 6, 7, 8, 9, 10] (by decide) rfl
            have hFc := va_free (wc := mW cI cZ G 0 off left wr rc mem oth ks vs sx pl ps pk sr tg fl xs) hD hS hA [0, 1, 2, 3, 4, 5, 6, 7, 8, 9, 10] rfl
            refine va_calli (va_runV (As := [.int (nI n), .int (nI 0)]) (rest := []) ⟨hx, hb, hml, hown, ht⟩ (c_X5_change l D cI cZ cS cJ H.size G 0 off left wr rc mem oth ks vs sx pl ps pk sr tg fl xs st hst mm hmm hM rows F Gn C hrp hsr hpl hp8 hoff hss hv h256 hp0 n 0 hn (by decide) (MM_leave hM hn hm0 hmc)) (xwV 2 ht kw3_220 kw3_217 kw1_11 kw3_219 kwS_36 rfl rfl (by decide +kernel) ⟨Nat.le_of_ble_eq_true rfl, Nat.le_of_ble_eq_true rfl⟩) ⟨PB.blind, va_recv hK hPc (ci := 5) (q0 := 0) rfl rfl, fun U hU hW => PB.mk hU hW hPc hK hDc⟩ rfl rfl hl.1 rfl (lv_room (Nat.le_of_ble_eq_true rfl)) dX5_leave_64 ⟨Nat.le_of_ble_eq_true rfl, Nat.le_of_ble_eq_true rfl⟩) hS (fun q _ h => hFc q h) hFc (fun r64 u64 t64 H1 locs ht1 hvm w64 hB hz1 hk1 hS => ?_)
            try dsimp only at w64 hB
            obtain ⟨hP1, hD1⟩ := hB
            rw [ht1] at hP1
            obtain ⟨hP, hD⟩ := wk_join (w1 := (mW cI cZ G u64.1 u64.2.1 u64.2.2.1 u64.2.2.2.1 u64.2.2.2.2.1 u64.2.2.2.2.2.1 u64.2.2.2.2.2.2.1 u64.2.2.2.2.2.2.2.1 u64.2.2.2.2.2.2.2.2.1 u64.2.2.2.2.2.2.2.2.2.1 u64.2.2.2.2.2.2.2.2.2.2.1 u64.2.2.2.2.2.2.2.2.2.2.2.1 u64.2.2.2.2.2.2.2.2.2.2.2.2.1 u64.2.2.2.2.2.2.2.2.2.2.2.2.2.1 u64.2.2.2.2.2.2.2.2.2.2.2.2.2.2.1 u64.2.2.2.2.2.2.2.2.2.2.2.2.2.2.2.1 u64.2.2.2.2.2.2.2.2.2.2.2.2.2.2.2.2)) hP hD [0, 1, 2, 3, 4, 5, 6, 7, 8, 9, 10] rfl (by decide) rfl hk1 hFc hP1 hD1
            generalize H1 = H at hP hS ⊢
            have hP : va_P D vwCl (mW cI cZ G u64.1 u64.2.1 u64.2.2.1 u64.2.2.2.1 u64.2.2.2.2.1 u64.2.2.2.2.2.1 u64.2.2.2.2.2.2.1 u64.2.2.2.2.2.2.2.1 u64.2.2.2.2.2.2.2.2.1 u64.2.2.2.2.2.2.2.2.2.1 u64.2.2.2.2.2.2.2.2.2.2.1 u64.2.2.2.2.2.2.2.2.2.2.2.1 u64.2.2.2.2.2.2.2.2.2.2.2.2.1 u64.2.2.2.2.2.2.2.2.2.2.2.2.2.1 u64.2.2.2.2.2.2.2.2.2.2.2.2.2.2.1 u64.2.2.2.2.2.2.2.2.2.2.2.2.2.2.2.1 u64.2.2.2.2.2.2.2.2.2.2.2.2.2.2.2.2) H := hP
            have hD : va_D A (mW cI cZ G u64.1 u64.2.1 u64.2.2.1 u64.2.2.2.1 u64.2.2.2.2.1 u64.2.2.2.2.2.1 u64.2.2.2.2.2.2.1 u64.2.2.2.2.2.2.2.1 u64.2.2.2.2.2.2.2.2.1 u64.2.2.2.2.2.2.2.2.2.1 u64.2.2.2.2.2.2.2.2.2.2.1 u64.2.2.2.2.2.2.2.2.2.2.2.1 u64.2.2.2.2.2.2.2.2.2.2.2.2.1 u64.2.2.2.2.2.2.2.2.2.2.2.2.2.1 u64.2.2.2.2.2.2.2.2.2.2.2.2.2.2.1 u64.2.2.2.2.2.2.2.2.2.2.2.2.2.2.2.1 u64.2.2.2.2.2.2.2.2.2.2.2.2.2.2.2.2) := hD
            exact W.iret (v := r64) hx hb hr (fun t ht2 hW => ⟨⟨r64, u64, rfl, by
                  (try dsimp only)
                  obtain ⟨σ, g1, g2, g3⟩ := w64
                  (try dsimp only)
                  refine ⟨σ, ?_, g2⟩
                  unfold leaveF
                  rw [if_neg hnb, if_neg h3, hnc, g1, g3], ⟨by (try dsimp only); rw [ht2]; exact hP, by exact hD⟩⟩, hS.F ht2⟩) hS.2.2 dX5_leave_67
          · have h3 : ¬ off = 0 ∨ ¬ pl = 0 ∨ mm (nI n).toNatClampNeg = 0 ∨ memC mm = 1 := Or.inr (Or.inr (Or.inr ((nI_eq (by omega) (by decide)).mp (show nI (memC mm) = nI 1 by rw [w35] at c39; exact c39))))
            refine lv_iconst (v := 2) hx hb dX5_leave_42 (by decide) ?_
            refine lv_goto (tgt := 47) hx hb dX5_leave_43 (by decide) ?_
            refine va_put (D := D) (ci := 5) (v := .int 2) (ty := .int) (C := RX5) (T := TX5) (N := 17) hx hb ht inX5 tyX5 tyX5_ok nmX5 hown hK hP hD hS 0 rfl rfl 0 (by decide) (ht _ kw3_80) (fun _ h9 => h9) rfl (by decide +kernel) (rfl) rfl (Nat.le_of_ble_eq_true rfl) dX5_leave_47 (fun H locs hP hD hS => ?_)
            have hP : va_P D vwCl (mW cI cZ G 2 off left wr rc mem oth ks vs sx pl ps pk sr tg fl xs) H := hP
            have hD : va_D A (mW cI cZ G 2 off left wr rc mem oth ks vs sx pl ps pk sr tg fl xs) := hD
            refine lv_aload_n hx hb dX5_leave_50 rfl (lv_at hl 0 rfl) ?_
            refine va_get (D := D) (ci := 5) (v := .int 2) (C := RX5) (T := TX5) (N := 17) hx hb ht inX5 hown hK hP 0 rfl rfl 0 (by decide) (ht _ kw3_80) (fun _ h9 => h9) rfl dX5_leave_51 ?_
            refine lv_if_le (tgt := 61) hx hb dX5_leave_54 (by decide) (fun c54 => by first | exact absurd c54 (by decide) | exact absurd (by decide) c54) (fun c54 => ?_)
            refine lv_iconst (v := 0) hx hb dX5_leave_57 (by decide) ?_
            refine lv_goto (tgt := 67) hx hb dX5_leave_58 (by decide) ?_
            exact W.iret (v := 0) hx hb hr (fun t ht2 hW => ⟨⟨0, (2, off, left, wr, rc, mem, oth, ks, vs, sx, pl, ps, pk, sr, tg, fl, xs), rfl, by
                  (try dsimp only)
                  (try dsimp only)
                  refine ⟨(off, left, wr, rc, st, mm, pl, rows, F, Gn, C), ?_, RepM.mk hst hmm hrp⟩
                  unfold leaveF
                  rw [if_neg hnb, if_pos h3]
                  try (first | rw [if_pos hnb] | rw [if_neg hnb]), ⟨by (try dsimp only); rw [ht2]; exact hP, by exact hD⟩⟩, hS.F ht2⟩) hS.2.2 dX5_leave_67
  · have hnb : node < 0 ∨ 8 ≤ node := Decidable.byContradiction (fun q => c5 (by rw [w2, if_neg q]))
    refine lv_iconst (v := 0) hx hb dX5_leave_8 (by decide) ?_
    exact W.iret (v := 0) hx hb hr (fun t ht2 hW => ⟨⟨0, ((if node < 0 ∨ 8 ≤ node then 1 else 0), off, left, wr, rc, mem, oth, ks, vs, sx, pl, ps, pk, sr, tg, fl, xs), rfl, by
          (try dsimp only)
          (try dsimp only)
          refine ⟨(off, left, wr, rc, st, mm, pl, rows, F, Gn, C), ?_, RepM.mk hst hmm hrp⟩
          unfold leaveF
          rw [if_pos hnb]
          try (first | rw [if_pos hnb] | rw [if_neg hnb]), ⟨by (try dsimp only); rw [ht2]; exact hP, by exact hD⟩⟩, hS.F ht2⟩) hS.2.2 dX5_leave_9
