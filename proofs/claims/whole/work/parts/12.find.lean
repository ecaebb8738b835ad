-- the reference: find, has, valueIn, store, takeOff

set_option maxHeartbeats 4000000 in
set_option maxRecDepth 100000 in
theorem c_X5_find (l : Launch) (D : va_G) (cI cZ cS cJ : ClassId) (sz : Nat) (G : Nat → Nat) (code off left wr rc : Int32) (mem oth ks vs sx : Nat → Int32) (pl ps : Int32) (pk sr tg fl xs : Nat → Int32) (st : Nat → List (Int32 × Int32)) (hst : RS st ks vs sx) (n : Nat) (hn : n < 8) (key : Int32) : Met l yX5_find (Cond.code yX5_find cX5_find 4 (some .int) :: TB) ({ frames := 0, cells := 0, slots := 0, locals := 0 } : Room) (va_Pc [.ref (G 0), .int (nI n), .int key] (PB D (KT cI cZ cS cJ) (mW cI cZ G code off left wr rc mem oth ks vs sx pl ps pk sr tg fl xs) sz)) (va_Qi (fun r (_ : Unit) => r = nI (rk (st n) key)) (fun (_ : Unit) t => va_P D vwCl (mW cI cZ G code off left wr rc mem oth ks vs sx pl ps pk sr tg fl xs) t.heap) (va_A (mW cI cZ G code off left wr rc mem oth ks vs sx pl ps pk sr tg fl xs) sz)) 0 0 (va_A (mW cI cZ G code off left wr rc mem oth ks vs sx pl ps pk sr tg fl xs) sz) := by
  refine Met.ofW (cc := cX5_find) (maxL := 4) (ret := (some .int)) (by decide) rfl ?_
  intro p e s m args below meth c s₁ B hml hv
  obtain ⟨rfl, hsz, hP, hK, hD0⟩ := hv
  have hx := B.exec
  have hb := B.bytes
  have hr := B.returns
  have hts := atoms_spec (ws := (Cond.code yX5_find cX5_find 4 (some .int) :: TB)) B.pre
  have ht : ∀ w ∈ TB, w.before _ s = true := fun w h => hts w (List.mem_cons_of_mem _ h)
  have hown : s.vm.findClass RX5 = some m.cls := findClass_of_methodNamed B.named
  have hlocks := B.notSynchronized
  subst hsz
  have hD := hD0.self (sz := s.heap.size)
  generalize hAe : va_A (mW cI cZ G code off left wr rc mem oth ks vs sx pl ps pk sr tg fl xs) s.heap.size = A at hD ⊢
  have hA : ∀ q : Nat, s.heap.size ≤ q → A q := fun q h => by rw [← hAe]; exact Or.inr h
  have hS : va_S A s.heap s.heap [] := va_S.rf
  have hP : va_P D vwCl (mW cI cZ G code off left wr rc mem oth ks vs sx pl ps pk sr tg fl xs) s.heap := hP
  have hl := lv_entry ([.ref (G 0), .int (nI n), .int key]) (n := 4) (Nat.le_of_ble_eq_true rfl)
  rw [lg_entry_eq]
  generalize (lg_sl ([.ref (G 0), .int (nI n), .int key]) ++ List.replicate (4 - (lg_sl ([.ref (G 0), .int (nI n), .int key])).length) Slot.unset).toArray = ls at hl ⊢
  have hl : lv_has ls 4 [(0, .ref (G 0)), (1, .int (nI n)), (2, .int key)] := hl
  refine lv_iconst (v := 0) hx hb dX5_find_0 (by decide) ?_
  refine lv_istore_n (lv' := [(3, .int 0), (0, .ref (G 0)), (1, .int (nI n)), (2, .int key)]) hx hb dX5_find_1 rfl hl (by decide) rfl (fun ls hl => ?_)
  refine lpA (pc := 2) (ι := Nat) (fun k ls => lv_has ls 4 [(3, .int (nI k)), (0, .ref (G 0)), (1, .int (nI n)), (2, .int key)] ∧ k ≤ (st n).length ∧ ∀ j, j < k → kx (st n) j < key) (fun k => (st n).length - k) 0 (⟨lv_sub hl [0, 1, 2, 3] rfl, ⟨Nat.zero_le _, fun j h => absurd h (Nat.not_lt_zero _)⟩⟩) ?_
  intro k ls hI ih
  obtain ⟨hl, hkl, hlo⟩ := hI
  have hsz := hst.at hn
  have hle := hst.le hn
  refine lv_iload_n hx hb dX5_find_2 rfl (lv_at hl 0 rfl) ?_
  refine lv_aload_n hx hb dX5_find_3 rfl (lv_at hl 1 rfl) ?_
  refine va_get (D := D) (ci := 5) (v := .ref (G 5)) (C := RX5) (T := TX5) (N := 17) hx hb ht inX5 hown hK hP 0 rfl rfl 9 (by decide) (ht _ kw3_89) (fun _ h9 => h9) rfl dX5_find_4 ?_
  refine lv_iload_n hx hb dX5_find_7 rfl (lv_at hl 2 rfl) ?_
  refine ya_iald hx hb hK hP 5 0 rfl rfl n (rfl) (hn) (by decide) dX5_find_8 ?_
  refine lv_icmp_ge (tgt := 34) hx hb dX5_find_9 (by decide) (fun c9 => ?_) (fun c9 => ?_)
  · have hkx : ¬ k < (st n).length := fun hh => by rw [hsz] at c9; exact nI_ge hh (by omega) c9
    refine lv_iload_n hx hb dX5_find_34 rfl (lv_at hl 0 rfl) ?_
    exact W.iret (v := nI k) hx hb hr (fun t ht2 hW => ⟨⟨nI k, (), rfl, by rw [← rk_eq (k := k) hkl hlo (fun hh => absurd hh hkx)], by (try dsimp only); rw [ht2]; exact hP⟩, hS.F ht2⟩) hS.2.2 dX5_find_35
  · have hk1 : k + 1 ≤ (st n).length := by
      rcases Nat.lt_or_ge k (st n).length with q | q
      · exact q
      · exact absurd (by rw [hsz]; exact nI_le q (by omega)) c9
    refine lv_aload_n hx hb dX5_find_12 rfl (lv_at hl 1 rfl) ?_
    refine va_get (D := D) (ci := 5) (v := .ref (G 3)) (C := RX5) (T := TX5) (N := 17) hx hb ht inX5 hown hK hP 0 rfl rfl 7 (by decide) (ht _ kw3_87) (fun _ h9 => h9) rfl dX5_find_13 ?_
    refine lv_sipush (v := 1024) hx hb dX5_find_16 (by decide) ?_
    refine lv_iload_n hx hb dX5_find_19 rfl (lv_at hl 2 rfl) ?_
    refine lv_imul hx hb dX5_find_20 ?_
    refine lv_iload_n hx hb dX5_find_21 rfl (lv_at hl 0 rfl) ?_
    refine lv_iadd hx hb dX5_find_22 ?_
    refine ya_iald hx hb hK hP 3 0 rfl rfl (1024 * n + k) (ixA n k) (by omega) (by decide) dX5_find_23 ?_
    refine lv_iload_n hx hb dX5_find_24 rfl (lv_at hl 3 rfl) ?_
    refine lv_icmp_ge (tgt := 34) hx hb dX5_find_25 (by decide) (fun c25 => ?_) (fun c25 => ?_)
    · have hkx : ¬ kx (st n) k < key := by rw [← hst.k hn (by omega)]; exact Int32.not_lt.mpr c25
      refine lv_iload_n hx hb dX5_find_34 rfl (lv_at hl 0 rfl) ?_
      exact W.iret (v := nI k) hx hb hr (fun t ht2 hW => ⟨⟨nI k, (), rfl, by rw [← rk_eq (k := k) hkl hlo (fun _ => hkx)], by (try dsimp only); rw [ht2]; exact hP⟩, hS.F ht2⟩) hS.2.2 dX5_find_35
    · have hkx : kx (st n) k < key := by rw [← hst.k hn (by omega)]; exact Int32.not_le.mp c25
      refine lv_iinc (v := nI (k + 1)) (lv' := [(3, .int (nI (k + 1))), (0, .ref (G 0)), (1, .int (nI n)), (2, .int key)]) hx hb dX5_find_28 hl (k := 0) rfl (by exact nI_1 k) (by decide) rfl (fun ls hl => ?_)
      refine lv_goto (tgt := 2) hx hb dX5_find_31 (by decide) ?_
      exact ih (k + 1) ls (⟨lv_sub hl [0, 1, 2, 3] rfl, ⟨hk1, fun j hj => by rcases Nat.lt_or_ge j k with q | q; exact hlo j q; rw [show j = k by omega]; exact hkx⟩⟩) (by omega)

set_option maxHeartbeats 4000000 in
set_option maxRecDepth 100000 in
theorem c_X5_has (l : Launch) (D : va_G) (cI cZ cS cJ : ClassId) (sz : Nat) (G : Nat → Nat) (code off left wr rc : Int32) (mem oth ks vs sx : Nat → Int32) (pl ps : Int32) (pk sr tg fl xs : Nat → Int32) (st : Nat → List (Int32 × Int32)) (hst : RS st ks vs sx) (n : Nat) (hn : n < 8) (key : Int32) : Met l yX5_has (Cond.code yX5_has cX5_has 4 (some .boolean) :: TB) ({ frames := 1, cells := 0, slots := 0, locals := 23 } : Room) (va_Pc [.ref (G 0), .int (nI n), .int key] (PB D (KT cI cZ cS cJ) (mW cI cZ G code off left wr rc mem oth ks vs sx pl ps pk sr tg fl xs) sz)) (va_Qi (fun r (_ : Unit) => r = if hs (st n) key then 1 else 0) (fun (_ : Unit) t => va_P D vwCl (mW cI cZ G code off left wr rc mem oth ks vs sx pl ps pk sr tg fl xs) t.heap) (va_A (mW cI cZ G code off left wr rc mem oth ks vs sx pl ps pk sr tg fl xs) sz)) 0 0 (va_A (mW cI cZ G code off left wr rc mem oth ks vs sx pl ps pk sr tg fl xs) sz) := by
  refine Met.ofW (cc := cX5_has) (maxL := 4) (ret := (some .boolean)) (by decide) rfl ?_
  intro p e s m args below meth c s₁ B hml hv
  obtain ⟨rfl, hsz, hP, hK, hD0⟩ := hv
  have hx := B.exec
  have hb := B.bytes
  have hr := B.returns
  have hts := atoms_spec (ws := (Cond.code yX5_has cX5_has 4 (some .boolean) :: TB)) B.pre
  have ht : ∀ w ∈ TB, w.before _ s = true := fun w h => hts w (List.mem_cons_of_mem _ h)
  have hown : s.vm.findClass RX5 = some m.cls := findClass_of_methodNamed B.named
  have hlocks := B.notSynchronized
  subst hsz
  have hD := hD0.self (sz := s.heap.size)
  generalize hAe : va_A (mW cI cZ G code off left wr rc mem oth ks vs sx pl ps pk sr tg fl xs) s.heap.size = A at hD ⊢
  have hA : ∀ q : Nat, s.heap.size ≤ q → A q := fun q h => by rw [← hAe]; exact Or.inr h
  have hS : va_S A s.heap s.heap [] := va_S.rf
  have hP : va_P D vwCl (mW cI cZ G code off left wr rc mem oth ks vs sx pl ps pk sr tg fl xs) s.heap := hP
  have hl := lv_entry ([.ref (G 0), .int (nI n), .int key]) (n := 4) (Nat.le_of_ble_eq_true rfl)
  rw [lg_entry_eq]
  generalize (lg_sl ([.ref (G 0), .int (nI n), .int key]) ++ List.replicate (4 - (lg_sl ([.ref (G 0), .int (nI n), .int key])).length) Slot.unset).toArray = ls at hl ⊢
  have hl : lv_has ls 4 [(0, .ref (G 0)), (1, .int (nI n)), (2, .int key)] := hl
  refine lv_aload_n hx hb dX5_has_0 rfl (lv_at hl 0 rfl) ?_
  refine lv_iload_n hx hb dX5_has_1 rfl (lv_at hl 1 rfl) ?_
  refine lv_iload_n hx hb dX5_has_2 rfl (lv_at hl 2 rfl) ?_
  have hPc := hP.sub (ws' := mW cI cZ G code off left wr rc mem oth ks vs sx pl ps pk sr tg fl xs) [0, 1, 2, 3, 4, 5, 6, 7, 8, 9, 10] rfl
  have hDc := hD.sub (ws' := mW cI cZ G code off left wr rc mem oth ks vs sx pl ps pk sr tg fl xs) [0, 1, 2, 3, 4, 5, 6, 7, 8, 9, 10] (by decide) rfl
  have hFc := va_free (wc := mW cI cZ G code off left wr rc mem oth ks vs sx pl ps pk sr tg fl xs) hD hS hA [0, 1, 2, 3, 4, 5, 6, 7, 8, 9, 10] rfl
  refine va_calli (va_runV (As := [.int (nI n), .int key]) (rest := []) ⟨hx, hb, hml, hown, ht⟩ (c_X5_find l D cI cZ cS cJ s.heap.size G code off left wr rc mem oth ks vs sx pl ps pk sr tg fl xs st hst n hn key) (xwV 2 ht kw3_180 kw3_177 kw1_11 kw3_179 kwS_29 rfl rfl (by decide +kernel) ⟨Nat.le_of_ble_eq_true rfl, Nat.le_of_ble_eq_true rfl⟩) ⟨PB.blind, va_recv hK hPc (ci := 5) (q0 := 0) rfl rfl, fun U hU hW => PB.mk hU hW hPc hK hDc⟩ rfl rfl hl.1 rfl (lv_room (Nat.le_of_ble_eq_true rfl)) dX5_has_3 ⟨Nat.le_of_ble_eq_true rfl, Nat.le_of_ble_eq_true rfl⟩) hS (fun q _ h => hFc q h) hFc (fun r3 u3 t3 H1 locs ht1 hvm w3 hB hz1 hk1 hS => ?_)
  try dsimp only at w3 hB
  rw [ht1] at hB
  have hP := wk_ro hP hD [0, 1, 2, 3, 4, 5, 6, 7, 8, 9, 10] rfl hk1 hB
  generalize H1 = H at hP hS ⊢
  have hsz := hst.at hn
  have hle := hst.le hn
  have hrk := rk_le (st n) key
  refine lv_istore_n (lv' := [(3, .int r3), (0, .ref (G 0)), (1, .int (nI n)), (2, .int key)]) hx hb dX5_has_6 rfl hl (by decide) rfl (fun ls hl => ?_)
  refine lv_iload_n hx hb dX5_has_7 rfl (lv_at hl 0 rfl) ?_
  refine lv_aload_n hx hb dX5_has_8 rfl (lv_at hl 1 rfl) ?_
  refine va_get (D := D) (ci := 5) (v := .ref (G 5)) (C := RX5) (T := TX5) (N := 17) hx hb ht inX5 hown hK hP 0 rfl rfl 9 (by decide) (ht _ kw3_89) (fun _ h9 => h9) rfl dX5_has_9 ?_
  refine lv_iload_n hx hb dX5_has_12 rfl (lv_at hl 2 rfl) ?_
  refine ya_iald hx hb hK hP 5 0 rfl rfl n (rfl) (hn) (by decide) dX5_has_13 ?_
  refine lv_icmp_ge (tgt := 37) hx hb dX5_has_14 (by decide) (fun c14 => ?_) (fun c14 => ?_)
  · have hno : ¬ hs (st n) key = true := fun hh => by rw [w3, hsz] at c14; exact nI_ge (hs_iff.mp hh).1 (by omega) c14
    refine lv_iconst (v := 0) hx hb dX5_has_37 (by decide) ?_
    exact W.zret (v := 0) hx hb hr (by decide +kernel) (fun t ht2 hW => ⟨⟨0, (), rfl, by first | rw [if_pos hyes] | rw [if_neg hno], by (try dsimp only); rw [ht2]; exact hP⟩, hS.F ht2⟩) hS.2.2 dX5_has_38
  · have hlt : rk (st n) key < (st n).length := by
      rcases Nat.lt_or_ge (rk (st n) key) (st n).length with q | q
      · exact q
      · exact absurd (by rw [w3, hsz]; exact nI_le q (by omega)) c14
    refine lv_aload_n hx hb dX5_has_17 rfl (lv_at hl 1 rfl) ?_
    refine va_get (D := D) (ci := 5) (v := .ref (G 3)) (C := RX5) (T := TX5) (N := 17) hx hb ht inX5 hown hK hP 0 rfl rfl 7 (by decide) (ht _ kw3_87) (fun _ h9 => h9) rfl dX5_has_18 ?_
    refine lv_sipush (v := 1024) hx hb dX5_has_21 (by decide) ?_
    refine lv_iload_n hx hb dX5_has_24 rfl (lv_at hl 2 rfl) ?_
    refine lv_imul hx hb dX5_has_25 ?_
    refine lv_iload_n hx hb dX5_has_26 rfl (lv_at hl 0 rfl) ?_
    refine lv_iadd hx hb dX5_has_27 ?_
    refine ya_iald hx hb hK hP 3 0 rfl rfl (1024 * n + rk (st n) key) (by rw [w3]; exact ixA _ _) (by omega) (by decide) dX5_has_28 ?_
    refine lv_iload_n hx hb dX5_has_29 rfl (lv_at hl 3 rfl) ?_
    refine lv_icmp_ne (tgt := 37) hx hb dX5_has_30 (by decide) (fun c30 => ?_) (fun c30 => ?_)
    · have hno : ¬ hs (st n) key = true := fun hh => c30 (by rw [hst.k hn hlt]; exact (hs_iff.mp hh).2)
      refine lv_iconst (v := 0) hx hb dX5_has_37 (by decide) ?_
      exact W.zret (v := 0) hx hb hr (by decide +kernel) (fun t ht2 hW => ⟨⟨0, (), rfl, by first | rw [if_pos hyes] | rw [if_neg hno], by (try dsimp only); rw [ht2]; exact hP⟩, hS.F ht2⟩) hS.2.2 dX5_has_38
    · have hyes : hs (st n) key = true := hs_iff.mpr ⟨hlt, by rw [← hst.k hn hlt]; exact c30⟩
      refine lv_iconst (v := 1) hx hb dX5_has_33 (by decide) ?_
      refine lv_goto (tgt := 38) hx hb dX5_has_34 (by decide) ?_
      exact W.zret (v := 1) hx hb hr (by decide +kernel) (fun t ht2 hW => ⟨⟨1, (), rfl, by first | rw [if_pos hyes] | rw [if_neg hno], by (try dsimp only); rw [ht2]; exact hP⟩, hS.F ht2⟩) hS.2.2 dX5_has_38

set_option maxHeartbeats 4000000 in
set_option maxRecDepth 100000 in
theorem c_X5_valueIn (l : Launch) (D : va_G) (cI cZ cS cJ : ClassId) (sz : Nat) (G : Nat → Nat) (code off left wr rc : Int32) (mem oth ks vs sx : Nat → Int32) (pl ps : Int32) (pk sr tg fl xs : Nat → Int32) (st : Nat → List (Int32 × Int32)) (hst : RS st ks vs sx) (n : Nat) (hn : n < 8) (key : Int32) (hh : hs (st n) key = true) : Met l yX5_valueIn (Cond.code yX5_valueIn cX5_valueIn 3 (some .int) :: TB) ({ frames := 1, cells := 0, slots := 0, locals := 23 } : Room) (va_Pc [.ref (G 0), .int (nI n), .int key] (PB D (KT cI cZ cS cJ) (mW cI cZ G code off left wr rc mem oth ks vs sx pl ps pk sr tg fl xs) sz)) (va_Qi (fun r (_ : Unit) => r = vx (st n) (rk (st n) key)) (fun (_ : Unit) t => va_P D vwCl (mW cI cZ G code off left wr rc mem oth ks vs sx pl ps pk sr tg fl xs) t.heap) (va_A (mW cI cZ G code off left wr rc mem oth ks vs sx pl ps pk sr tg fl xs) sz)) 0 0 (va_A (mW cI cZ G code off left wr rc mem oth ks vs sx pl ps pk sr tg fl xs) sz) := by
  refine Met.ofW (cc := cX5_valueIn) (maxL := 3) (ret := (some .int)) (by decide) rfl ?_
  intro p e s m args below meth c s₁ B hml hv
  obtain ⟨rfl, hsz, hP, hK, hD0⟩ := hv
  have hx := B.exec
  have hb := B.bytes
  have hr := B.returns
  have hts := atoms_spec (ws := (Cond.code yX5_valueIn cX5_valueIn 3 (some .int) :: TB)) B.pre
  have ht : ∀ w ∈ TB, w.before _ s = true := fun w h => hts w (List.mem_cons_of_mem _ h)
  have hown : s.vm.findClass RX5 = some m.cls := findClass_of_methodNamed B.named
  have hlocks := B.notSynchronized
  subst hsz
  have hD := hD0.self (sz := s.heap.size)
  generalize hAe : va_A (mW cI cZ G code off left wr rc mem oth ks vs sx pl ps pk sr tg fl xs) s.heap.size = A at hD ⊢
  have hA : ∀ q : Nat, s.heap.size ≤ q → A q := fun q h => by rw [← hAe]; exact Or.inr h
  have hS : va_S A s.heap s.heap [] := va_S.rf
  have hP : va_P D vwCl (mW cI cZ G code off left wr rc mem oth ks vs sx pl ps pk sr tg fl xs) s.heap := hP
  have hl := lv_entry ([.ref (G 0), .int (nI n), .int key]) (n := 3) (Nat.le_of_ble_eq_true rfl)
  rw [lg_entry_eq]
  generalize (lg_sl ([.ref (G 0), .int (nI n), .int key]) ++ List.replicate (3 - (lg_sl ([.ref (G 0), .int (nI n), .int key])).length) Slot.unset).toArray = ls at hl ⊢
  have hl : lv_has ls 3 [(0, .ref (G 0)), (1, .int (nI n)), (2, .int key)] := hl
  refine lv_aload_n hx hb dX5_valueIn_0 rfl (lv_at hl 0 rfl) ?_
  refine va_get (D := D) (ci := 5) (v := .ref (G 4)) (C := RX5) (T := TX5) (N := 17) hx hb ht inX5 hown hK hP 0 rfl rfl 8 (by decide) (ht _ kw3_88) (fun _ h9 => h9) rfl dX5_valueIn_1 ?_
  refine lv_sipush (v := 1024) hx hb dX5_valueIn_4 (by decide) ?_
  refine lv_iload_n hx hb dX5_valueIn_7 rfl (lv_at hl 1 rfl) ?_
  refine lv_imul hx hb dX5_valueIn_8 ?_
  refine lv_aload_n hx hb dX5_valueIn_9 rfl (lv_at hl 0 rfl) ?_
  refine lv_iload_n hx hb dX5_valueIn_10 rfl (lv_at hl 1 rfl) ?_
  refine lv_iload_n hx hb dX5_valueIn_11 rfl (lv_at hl 2 rfl) ?_
  have hPc := hP.sub (ws' := mW cI cZ G code off left wr rc mem oth ks vs sx pl ps pk sr tg fl xs) [0, 1, 2, 3, 4, 5, 6, 7, 8, 9, 10] rfl
  have hDc := hD.sub (ws' := mW cI cZ G code off left wr rc mem oth ks vs sx pl ps pk sr tg fl xs) [0, 1, 2, 3, 4, 5, 6, 7, 8, 9, 10] (by decide) rfl
  have hFc := va_free (wc := mW cI cZ G code off left wr rc mem oth ks vs sx pl ps pk sr tg fl xs) hD hS hA [0, 1, 2, 3, 4, 5, 6, 7, 8, 9, 10] rfl
  refine va_calli (va_runV (As := [.int (nI n), .int key]) (rest := [.int (1024 * (nI n)), .ref (G 4)]) ⟨hx, hb, hml, hown, ht⟩ (c_X5_find l D cI cZ cS cJ s.heap.size G code off left wr rc mem oth ks vs sx pl ps pk sr tg fl xs st hst n hn key) (xwV 2 ht kw3_180 kw3_177 kw1_11 kw3_179 kwS_29 rfl rfl (by decide +kernel) ⟨Nat.le_of_ble_eq_true rfl, Nat.le_of_ble_eq_true rfl⟩) ⟨PB.blind, va_recv hK hPc (ci := 5) (q0 := 0) rfl rfl, fun U hU hW => PB.mk hU hW hPc hK hDc⟩ rfl rfl hl.1 rfl (lv_room (Nat.le_of_ble_eq_true rfl)) dX5_valueIn_12 ⟨Nat.le_of_ble_eq_true rfl, Nat.le_of_ble_eq_true rfl⟩) hS (fun q _ h => hFc q h) hFc (fun r12 u12 t12 H1 locs ht1 hvm w12 hB hz1 hk1 hS => ?_)
  try dsimp only at w12 hB
  rw [ht1] at hB
  have hP := wk_ro hP hD [0, 1, 2, 3, 4, 5, 6, 7, 8, 9, 10] rfl hk1 hB
  generalize H1 = H at hP hS ⊢
  have hle := hst.le hn
  have hlt := (hs_iff.mp hh).1
  refine lv_iadd hx hb dX5_valueIn_15 ?_
  refine ya_iald hx hb hK hP 4 0 rfl rfl (1024 * n + rk (st n) key) (by rw [w12]; exact ixA _ _) (by omega) (by decide) dX5_valueIn_16 ?_
  exact W.iret (v := vs (1024 * n + rk (st n) key)) hx hb hr (fun t ht2 hW => ⟨⟨vs (1024 * n + rk (st n) key), (), rfl, hst.v hn hlt, by (try dsimp only); rw [ht2]; exact hP⟩, hS.F ht2⟩) hS.2.2 dX5_valueIn_17
