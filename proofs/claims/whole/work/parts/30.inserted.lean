-- the class: inserted, Power, Plan, Store
/-- a row with x put in at place i -/
def INS (f : Nat → Int32) (n i : Nat) (x : Int32) (g : Nat → Int32) : Prop := ∀ j, j < n + 1 → g j = if j < i then f j else if j = i then x else f (j - 1)
theorem INS.of {f f0 : Nat → Int32} {n i : Nat} {x : Int32} (hi : i ≤ n) (h : ∀ j, j < n → f j = f0 j) : INS f0 n i x (upd (va_cpy f f i (i + 1) (n - i)) i x) := by
  intro j hj
  by_cases e : j = i
  · subst e; rw [pk_us, if_neg (by omega), if_pos rfl]
  · rw [pk_un e]
    by_cases c : j < i
    · rw [pk_cpy_out (by omega), if_pos c]; exact h j (by omega)
    · rw [pk_cpy_in (by omega) (by omega), if_neg c, if_neg e, ← h (j - 1) (by omega)]; congr 1; omega

set_option maxHeartbeats 4000000 in
set_option maxRecDepth 100000 in
theorem c_X4_inserted (l : Launch) (D : va_G) (cI cZ cS cJ : ClassId) (sz : Nat) (a L : Nat) (f : Nat → Int32) (n i : Nat) (x : Int32) (hL : L < 2 ^ 18) (hn : n ≤ L) (hi : i ≤ n) : Met l yX4_inserted (Cond.code yX4_inserted cX4_inserted 5 (some (.array .int)) :: TB) ({ frames := 2, cells := (if n < L then 0 else 1), slots := (if n < L then 0 else 2 * n + 1), locals := 62 } : Room) (va_Pc [.ref a, .int (nI n), .int (nI i), .int x] (PB D (KT cI cZ cS cJ) ([(a, .inl (cI, L, .inl f))]) sz)) (va_Qr (fun (u : Nat × (Nat → Int32)) => u.1 = (if n < L then L else 2 * n + 1) ∧ INS f n i x u.2) (fun (u : Nat × (Nat → Int32)) ra t => va_P D vwCl [(ra, .inl (cI, u.1, .inl u.2))] t.heap ∧ va_D (va_A [(a, .inl (cI, L, .inl f))] sz) [(ra, .inl (cI, u.1, .inl u.2))]) (va_A ([(a, .inl (cI, L, .inl f))]) sz)) (if n < L then 0 else 1) (if n < L then 0 else 2 * n + 1) (va_A ([(a, .inl (cI, L, .inl f))]) sz) := by
  refine Met.ofW (cc := cX4_inserted) (maxL := 5) (ret := (some (.array .int))) (by decide) rfl ?_
  intro p e s m args below meth c s₁ B hml hv
  obtain ⟨rfl, hsz, hP, hK, hD0⟩ := hv
  have hx := B.exec
  have hb := B.bytes
  have hr := B.returns
  have hts := atoms_spec (ws := (Cond.code yX4_inserted cX4_inserted 5 (some (.array .int)) :: TB)) B.pre
  have ht : ∀ w ∈ TB, w.before _ s = true := fun w h => hts w (List.mem_cons_of_mem _ h)
  have hown : s.vm.findClass RX4 = some m.cls := findClass_of_methodNamed B.named
  have hlocks := B.notSynchronized
  subst hsz
  have hD := hD0.self (sz := s.heap.size)
  generalize hAe : va_A ([(a, .inl (cI, L, .inl f))]) s.heap.size = A at hD ⊢
  have hA : ∀ q : Nat, s.heap.size ≤ q → A q := fun q h => by rw [← hAe]; exact Or.inr h
  have hS : va_S A s.heap s.heap [] := va_S.rf
  have hP : va_P D vwCl ([(a, .inl (cI, L, .inl f))]) s.heap := hP
  have hl := lv_entry ([.ref a, .int (nI n), .int (nI i), .int x]) (n := 5) (Nat.le_of_ble_eq_true rfl)
  rw [lg_entry_eq]
  generalize (lg_sl ([.ref a, .int (nI n), .int (nI i), .int x]) ++ List.replicate (5 - (lg_sl ([.ref a, .int (nI n), .int (nI i), .int x])).length) Slot.unset).toArray = ls at hl ⊢
  have hl : lv_has ls 5 [(0, .ref a), (1, .int (nI n)), (2, .int (nI i)), (3, .int x)] := hl
  refine lv_iload_n hx hb dX4_inserted_0 rfl (lv_at hl 1 rfl) ?_
  refine lv_aload_n hx hb dX4_inserted_1 rfl (lv_at hl 0 rfl) ?_
  refine va_alen hx hb hK hP 0 0 rfl rfl (v := nI L) rfl dX4_inserted_2 ?_
  refine lv_icmp_ge (tgt := 10) hx hb dX4_inserted_3 (by decide) (fun c3 => ?_) (fun c3 => ?_)
  · have hnl : ¬ n < L := fun q => absurd c3 (nI_ge q (by omega))
    have hne : n = L := by omega
    refine lv_aload_n hx hb dX4_inserted_10 rfl (lv_at hl 0 rfl) ?_
    refine lv_iconst (v := 2) hx hb dX4_inserted_11 (by decide) ?_
    refine lv_iload_n hx hb dX4_inserted_12 rfl (lv_at hl 1 rfl) ?_
    refine lv_imul hx hb dX4_inserted_13 ?_
    refine lv_iconst (v := 1) hx hb dX4_inserted_14 (by decide) ?_
    refine lv_iadd hx hb dX4_inserted_15 ?_
    rw [show (2 : Int32) * nI n + 1 = nI (2 * n + 1) by rw [show (2 : Int32) = nI 2 from rfl, pk_mul, nI_1]]
    have hPc := hP.sub (ws' := [(a, .inl (cI, L, .inl f))]) [0] rfl
    have hDc := hD.sub (ws' := [(a, .inl (cI, L, .inl f))]) [0] (by decide) rfl
    have hFc := va_free (wc := [(a, .inl (cI, L, .inl f))]) hD hS hA [0] rfl
    refine va_callr (va_runS (As := [.ref a, .int (nI (2 * n + 1))]) (rest := []) ⟨hx, hb, hml, hown, ht⟩ (c_J7_copyOf_59c91 l D cI cZ cS cJ s.heap.size a L f (2 * n + 1) (by omega) (by omega)) (xwS 2 ht kw1_162 kw1_160 kw1_9 kw1_161 rfl rfl (by decide +kernel) ⟨Nat.le_of_ble_eq_true rfl, Nat.le_of_ble_eq_true rfl⟩) ⟨PB.blind, fun U hU hW => PB.mk hU hW hPc hK hDc⟩ rfl rfl hl.1 rfl (lv_room (Nat.le_of_ble_eq_true rfl)) dX4_inserted_16 ⟨by show 0 + 1 ≤ (if n < L then 0 else 1); rw [if_neg hnl]; exact Nat.le_refl _, by show 0 + (2 * n + 1) ≤ (if n < L then 0 else 2 * n + 1); rw [if_neg hnl]; omega⟩) hS (fun q _ h => hFc q h) hFc (fun u16 ra9 t16 H1 locs ht1 hvm w16 hB hz1 hk1 hS => ?_)
    try dsimp only at w16 hB
    obtain ⟨hP1, hD1⟩ := hB
    rw [ht1] at hP1
    obtain ⟨hP, hD⟩ := wk_join (w1 := [(ra9, .inl (cI, (2 * n + 1), .inl u16))]) hP hD [0] rfl (by decide) rfl hk1 hFc hP1 hD1
    generalize H1 = H at hP hS ⊢
    have hP : va_P D vwCl ([(ra9, .inl (cI, (2 * n + 1), .inl u16))]) H := hP
    have hD : va_D A ([(ra9, .inl (cI, (2 * n + 1), .inl u16))]) := hD
    refine lv_astore (lv' := [(4, .ref ra9), (0, .ref a), (1, .int (nI n)), (2, .int (nI i)), (3, .int x)]) hx hb dX4_inserted_19 hl (by decide) rfl (fun ls hl => ?_)
    refine lv_aload hx hb dX4_inserted_21 (lv_at hl 0 rfl) ?_
    refine lv_iload_n hx hb dX4_inserted_23 rfl (lv_at hl 3 rfl) ?_
    refine lv_aload hx hb dX4_inserted_24 (lv_at hl 0 rfl) ?_
    refine lv_iload_n hx hb dX4_inserted_26 rfl (lv_at hl 3 rfl) ?_
    refine lv_iconst (v := 1) hx hb dX4_inserted_27 (by decide) ?_
    refine lv_iadd hx hb dX4_inserted_28 ?_
    refine lv_iload_n hx hb dX4_inserted_29 rfl (lv_at hl 2 rfl) ?_
    refine lv_iload_n hx hb dX4_inserted_30 rfl (lv_at hl 3 rfl) ?_
    refine lv_isub hx hb dX4_inserted_31 ?_
    refine ya_copyi hx hb (by rw [hml]; exact hl.1.symm) hown (ht _ kw1_174) (ht _ kw1_173) (ht _ kw1_172) (ht _ kw1_10) hK hP hD hS 0 0 0 0 rfl rfl rfl rfl i (i + 1) (n - i) (rfl) (nI_1 i) (pk_sub hi) (by omega) (by omega) (by omega) (by omega) (Nat.le_of_ble_eq_true rfl) (Nat.le_of_ble_eq_true rfl) dX4_inserted_32 (fun H locs hP hD hS => ?_)
    have hP : va_P D vwCl ([(ra9, .inl (cI, (2 * n + 1), .inl (va_cpy u16 u16 i (i + 1) (n - i))))]) H := hP
    have hD : va_D A ([(ra9, .inl (cI, (2 * n + 1), .inl (va_cpy u16 u16 i (i + 1) (n - i))))]) := hD
    refine lv_aload hx hb dX4_inserted_35 (lv_at hl 0 rfl) ?_
    refine lv_iload_n hx hb dX4_inserted_37 rfl (lv_at hl 3 rfl) ?_
    refine lv_iload_n hx hb dX4_inserted_38 rfl (lv_at hl 4 rfl) ?_
    refine ya_iast hx hb hK hP hD hS 0 0 rfl rfl i (rfl) (by omega) (by omega) dX4_inserted_39 (fun H locs hP hD hS => ?_)
    have hP : va_P D vwCl ([(ra9, .inl (cI, (2 * n + 1), .inl (upd (va_cpy u16 u16 i (i + 1) (n - i)) i x)))]) H := hP
    have hD : va_D A ([(ra9, .inl (cI, (2 * n + 1), .inl (upd (va_cpy u16 u16 i (i + 1) (n - i)) i x)))]) := hD
    refine lv_aload hx hb dX4_inserted_40 (lv_at hl 0 rfl) ?_
    refine W.widen (k := (if n < L then 0 else 1)) (n := (if n < L then 0 else 2 * n + 1)) (by first | (rw [if_pos hnl]; exact Nat.le_refl _) | (rw [if_neg hnl]; exact Nat.le_refl _)) (by first | (rw [if_pos hnl]; exact Nat.le_refl _) | (rw [if_neg hnl]; omega)) ?_
    exact W.aret (v := .ref ra9) hx hb hr (Or.inr ⟨_, rfl⟩) (Or.inr ⟨_, rfl⟩) (fun t ht2 hW => ⟨⟨((2 * n + 1), upd (va_cpy u16 u16 i (i + 1) (n - i)) i x), ra9, rfl, ⟨by first | rw [if_pos hnl] | rw [if_neg hnl], INS.of hi (fun j hj => w16 j (by omega))⟩, ⟨by (try dsimp only); rw [ht2]; exact hP, by exact hD⟩⟩, hS.F ht2⟩) hS.2.2 dX4_inserted_42
  · have hnl : n < L := by
      rcases Nat.lt_or_ge n L with q | q
      · exact q
      · exact absurd (nI_le q (by omega)) c3
    refine lv_aload_n hx hb dX4_inserted_6 rfl (lv_at hl 0 rfl) ?_
    refine lv_goto (tgt := 19) hx hb dX4_inserted_7 (by decide) ?_
    refine lv_astore (lv' := [(4, .ref a), (0, .ref a), (1, .int (nI n)), (2, .int (nI i)), (3, .int x)]) hx hb dX4_inserted_19 hl (by decide) rfl (fun ls hl => ?_)
    refine lv_aload hx hb dX4_inserted_21 (lv_at hl 0 rfl) ?_
    refine lv_iload_n hx hb dX4_inserted_23 rfl (lv_at hl 3 rfl) ?_
    refine lv_aload hx hb dX4_inserted_24 (lv_at hl 0 rfl) ?_
    refine lv_iload_n hx hb dX4_inserted_26 rfl (lv_at hl 3 rfl) ?_
    refine lv_iconst (v := 1) hx hb dX4_inserted_27 (by decide) ?_
    refine lv_iadd hx hb dX4_inserted_28 ?_
    refine lv_iload_n hx hb dX4_inserted_29 rfl (lv_at hl 2 rfl) ?_
    refine lv_iload_n hx hb dX4_inserted_30 rfl (lv_at hl 3 rfl) ?_
    refine lv_isub hx hb dX4_inserted_31 ?_
    refine ya_copyi hx hb (by rw [hml]; exact hl.1.symm) hown (ht _ kw1_174) (ht _ kw1_173) (ht _ kw1_172) (ht _ kw1_10) hK hP hD hS 0 0 0 0 rfl rfl rfl rfl i (i + 1) (n - i) (rfl) (nI_1 i) (pk_sub hi) (by omega) (by omega) (by omega) (by omega) (Nat.le_of_ble_eq_true rfl) (Nat.le_of_ble_eq_true rfl) dX4_inserted_32 (fun H locs hP hD hS => ?_)
    have hP : va_P D vwCl ([(a, .inl (cI, L, .inl (va_cpy f f i (i + 1) (n - i))))]) H := hP
    have hD : va_D A ([(a, .inl (cI, L, .inl (va_cpy f f i (i + 1) (n - i))))]) := hD
    refine lv_aload hx hb dX4_inserted_35 (lv_at hl 0 rfl) ?_
    refine lv_iload_n hx hb dX4_inserted_37 rfl (lv_at hl 3 rfl) ?_
    refine lv_iload_n hx hb dX4_inserted_38 rfl (lv_at hl 4 rfl) ?_
    refine ya_iast hx hb hK hP hD hS 0 0 rfl rfl i (rfl) (by omega) (by omega) dX4_inserted_39 (fun H locs hP hD hS => ?_)
    have hP : va_P D vwCl ([(a, .inl (cI, L, .inl (upd (va_cpy f f i (i + 1) (n - i)) i x)))]) H := hP
    have hD : va_D A ([(a, .inl (cI, L, .inl (upd (va_cpy f f i (i + 1) (n - i)) i x)))]) := hD
    refine lv_aload hx hb dX4_inserted_40 (lv_at hl 0 rfl) ?_
    refine W.widen (k := (if n < L then 0 else 1)) (n := (if n < L then 0 else 2 * n + 1)) (by first | (rw [if_pos hnl]; exact Nat.le_refl _) | (rw [if_neg hnl]; exact Nat.le_refl _)) (by first | (rw [if_pos hnl]; exact Nat.le_refl _) | (rw [if_neg hnl]; omega)) ?_
    exact W.aret (v := .ref a) hx hb hr (Or.inr ⟨_, rfl⟩) (Or.inr ⟨_, rfl⟩) (fun t ht2 hW => ⟨⟨(L, upd (va_cpy f f i (i + 1) (n - i)) i x), a, rfl, ⟨by first | rw [if_pos hnl] | rw [if_neg hnl], INS.of hi (fun j hj => rfl)⟩, ⟨by (try dsimp only); rw [ht2]; exact hP, by exact hD⟩⟩, hS.F ht2⟩) hS.2.2 dX4_inserted_42

set_option maxHeartbeats 4000000 in
set_option maxRecDepth 100000 in
theorem c_X1_init (l : Launch) (D : va_G) (cI cZ cS cJ : ClassId) (sz : Nat) (h : Nat) : Met l yX1_init (Cond.code yX1_init cX1_init 1 none :: TB) ({ frames := 1, cells := 0, slots := 0, locals := 16 } : Room) (va_Pc [.ref h] (PB D (KT cI cZ cS cJ) ([(h, .inr (1, [.int 0, .int 0, .int 0, .int 0]))]) sz)) (va_Qv (fun (_ : Unit) => True) (fun (_ : Unit) t => va_P D vwCl [(h, .inr (1, [.int 0, .int (-1), .int 0, .int 0]))] t.heap ∧ va_D (va_A [(h, .inr (1, [.int 0, .int 0, .int 0, .int 0]))] sz) [(h, .inr (1, [.int 0, .int (-1), .int 0, .int 0]))]) (va_A ([(h, .inr (1, [.int 0, .int 0, .int 0, .int 0]))]) sz)) 0 0 (va_A ([(h, .inr (1, [.int 0, .int 0, .int 0, .int 0]))]) sz) := by
  refine Met.ofW (cc := cX1_init) (maxL := 1) (ret := none) (by decide) rfl ?_
  intro p e s m args below meth c s₁ B hml hv
  obtain ⟨rfl, hsz, hP, hK, hD0⟩ := hv
  have hx := B.exec
  have hb := B.bytes
  have hr := B.returns
  have hts := atoms_spec (ws := (Cond.code yX1_init cX1_init 1 none :: TB)) B.pre
  have ht : ∀ w ∈ TB, w.before _ s = true := fun w h => hts w (List.mem_cons_of_mem _ h)
  have hown : s.vm.findClass RX1 = some m.cls := findClass_of_methodNamed B.named
  have hlocks := B.notSynchronized
  have hin : meth.name = "<init>" := (name_of_methodNamed B.named B.method).1
  subst hsz
  have hD := hD0.self (sz := s.heap.size)
  generalize hAe : va_A ([(h, .inr (1, [.int 0, .int 0, .int 0, .int 0]))]) s.heap.size = A at hD ⊢
  have hA : ∀ q : Nat, s.heap.size ≤ q → A q := fun q h => by rw [← hAe]; exact Or.inr h
  have hS : va_S A s.heap s.heap [] := va_S.rf
  have hP : va_P D vwCl ([(h, .inr (1, [.int 0, .int 0, .int 0, .int 0]))]) s.heap := hP
  have hl := lv_entry ([.ref h]) (n := 1) (Nat.le_of_ble_eq_true rfl)
  rw [lg_entry_eq]
  generalize (lg_sl ([.ref h]) ++ List.replicate (1 - (lg_sl ([.ref h])).length) Slot.unset).toArray = ls at hl ⊢
  have hl : lv_has ls 1 [(0, .ref h)] := hl
  refine lv_aload_n hx hb dX1_init_0 rfl (lv_at hl 0 rfl) ?_
  refine W.objInit hx hb hown (ht _ kw1_101) (ht _ kw1_25) (ht _ kw1_26) rfl (by rw [hml]; exact hl.1) rfl dX1_init_1 (Nat.le_of_ble_eq_true rfl) (Nat.le_of_ble_eq_true rfl) ?_
  refine W.eq (g2 := F0 m 4 ls []) rfl ?_
  refine lv_aload_n hx hb dX1_init_4 rfl (lv_at hl 0 rfl) ?_
  refine lv_iconst (v := (-1)) hx hb dX1_init_5 (by decide) ?_
  refine va_put (D := D) (ci := 1) (v := .int (-1)) (ty := .int) (C := RX1) (T := TX1) (N := 4) hx hb ht inX1 tyX1 tyX1_ok nmX1 hown hK hP hD hS 0 rfl rfl 1 (by decide) (ht _ kw1_104) (fun _ h9 => h9) rfl (by decide +kernel) (rfl) rfl (Nat.le_of_ble_eq_true rfl) dX1_init_6 (fun H locs hP hD hS => ?_)
  have hP : va_P D vwCl ([(h, .inr (1, [.int 0, .int (-1), .int 0, .int 0]))]) H := hP
  have hD : va_D A ([(h, .inr (1, [.int 0, .int (-1), .int 0, .int 0]))]) := hD
  exact W.vret hx hb hr (fun t ht2 hW => ⟨⟨(), rfl, trivial, ⟨by (try dsimp only); rw [ht2]; exact hP, by exact hD⟩⟩, hS.F ht2⟩) hS.2.2 dX1_init_9

set_option maxHeartbeats 4000000 in
set_option maxRecDepth 100000 in
theorem c_X1_lastsForWrite (l : Launch) (D : va_G) (cI cZ cS cJ : ClassId) (sz : Nat) (h : Nat) (off left wr rc : Int32)  : Met l yX1_lastsForWrite (Cond.code yX1_lastsForWrite cX1_lastsForWrite 1 (some .boolean) :: TB) ({ frames := 0, cells := 0, slots := 0, locals := 0 } : Room) (va_Pc [.ref h] (PB D (KT cI cZ cS cJ) ([(h, .inr (1, [.int off, .int left, .int wr, .int rc]))]) sz)) (va_Qi (fun r (_ : Unit) => r = wOk left) (fun (_ : Unit) t => va_P D vwCl [(h, .inr (1, [.int (wOff left off), .int (wLeft left), .int (wInc left wr), .int rc]))] t.heap ∧ va_D (va_A [(h, .inr (1, [.int off, .int left, .int wr, .int rc]))] sz) [(h, .inr (1, [.int (wOff left off), .int (wLeft left), .int (wInc left wr), .int rc]))]) (va_A ([(h, .inr (1, [.int off, .int left, .int wr, .int rc]))]) sz)) 0 0 (va_A ([(h, .inr (1, [.int off, .int left, .int wr, .int rc]))]) sz) := by
  refine Met.ofW (cc := cX1_lastsForWrite) (maxL := 1) (ret := (some .boolean)) (by decide) rfl ?_
  intro p e s m args below meth c s₁ B hml hv
  obtain ⟨rfl, hsz, hP, hK, hD0⟩ := hv
  have hx := B.exec
  have hb := B.bytes
  have hr := B.returns
  have hts := atoms_spec (ws := (Cond.code yX1_lastsForWrite cX1_lastsForWrite 1 (some .boolean) :: TB)) B.pre
  have ht : ∀ w ∈ TB, w.before _ s = true := fun w h => hts w (List.mem_cons_of_mem _ h)
  have hown : s.vm.findClass RX1 = some m.cls := findClass_of_methodNamed B.named
  have hlocks := B.notSynchronized
  subst hsz
  have hD := hD0.self (sz := s.heap.size)
  generalize hAe : va_A ([(h, .inr (1, [.int off, .int left, .int wr, .int rc]))]) s.heap.size = A at hD ⊢
  have hA : ∀ q : Nat, s.heap.size ≤ q → A q := fun q h => by rw [← hAe]; exact Or.inr h
  have hS : va_S A s.heap s.heap [] := va_S.rf
  have hP : va_P D vwCl ([(h, .inr (1, [.int off, .int left, .int wr, .int rc]))]) s.heap := hP
  have hl := lv_entry ([.ref h]) (n := 1) (Nat.le_of_ble_eq_true rfl)
  rw [lg_entry_eq]
  generalize (lg_sl ([.ref h]) ++ List.replicate (1 - (lg_sl ([.ref h])).length) Slot.unset).toArray = ls at hl ⊢
  have hl : lv_has ls 1 [(0, .ref h)] := hl
  refine lv_aload_n hx hb dX1_lastsForWrite_0 rfl (lv_at hl 0 rfl) ?_
  refine va_get (D := D) (ci := 1) (v := .int left) (C := RX1) (T := TX1) (N := 4) hx hb ht inX1 hown hK hP 0 rfl rfl 1 (by decide) (ht _ kw1_104) (fun _ h9 => h9) rfl dX1_lastsForWrite_1 ?_
  refine lv_if_ne (tgt := 14) hx hb dX1_lastsForWrite_4 (by decide) (fun c4 => ?_) (fun c4 => ?_)
  · have e1 : wOk left = 1 := if_neg c4
    have e2 : wOff left off = off := if_neg c4
    have e3 : wInc left wr = wr + 1 := if_neg c4
    refine lv_aload_n hx hb dX1_lastsForWrite_14 rfl (lv_at hl 0 rfl) ?_
    refine va_get (D := D) (ci := 1) (v := .int left) (C := RX1) (T := TX1) (N := 4) hx hb ht inX1 hown hK hP 0 rfl rfl 1 (by decide) (ht _ kw1_104) (fun _ h9 => h9) rfl dX1_lastsForWrite_15 ?_
    refine lv_if_le (tgt := 31) hx hb dX1_lastsForWrite_18 (by decide) (fun c18 => ?_) (fun c18 => ?_)
    · have e4 : wLeft left = left := if_neg (Int32.not_lt.mpr c18)
      refine lv_aload_n hx hb dX1_lastsForWrite_31 rfl (lv_at hl 0 rfl) ?_
      refine lv_dup hx hb dX1_lastsForWrite_32 rfl ?_
      refine va_get (D := D) (ci := 1) (v := .int wr) (C := RX1) (T := TX1) (N := 4) hx hb ht inX1 hown hK hP 0 rfl rfl 2 (by decide) (ht _ kw1_106) (fun _ h9 => h9) rfl dX1_lastsForWrite_33 ?_
      refine lv_iconst (v := 1) hx hb dX1_lastsForWrite_36 (by decide) ?_
      refine lv_iadd hx hb dX1_lastsForWrite_37 ?_
      refine va_put (D := D) (ci := 1) (v := .int (wr + 1)) (ty := .int) (C := RX1) (T := TX1) (N := 4) hx hb ht inX1 tyX1 tyX1_ok nmX1 hown hK hP hD hS 0 rfl rfl 2 (by decide) (ht _ kw1_106) (fun _ h9 => h9) rfl (by decide +kernel) (rfl) rfl (Nat.le_of_ble_eq_true rfl) dX1_lastsForWrite_38 (fun H locs hP hD hS => ?_)
      have hP : va_P D vwCl ([(h, .inr (1, [.int off, .int left, .int (wr + 1), .int rc]))]) H := hP
      have hD : va_D A ([(h, .inr (1, [.int off, .int left, .int (wr + 1), .int rc]))]) := hD
      refine lv_iconst (v := 1) hx hb dX1_lastsForWrite_41 (by decide) ?_
      exact W.zret (v := 1) hx hb hr (by decide +kernel) (fun t ht2 hW => ⟨⟨1, (), rfl, e1.symm, by
            (try dsimp only)
            rw [e2, e3, e4, ht2]
            exact ⟨hP, hD⟩⟩, hS.F ht2⟩) hS.2.2 dX1_lastsForWrite_42
    · have e4 : wLeft left = left - 1 := if_pos (Int32.not_le.mp c18)
      refine lv_aload_n hx hb dX1_lastsForWrite_21 rfl (lv_at hl 0 rfl) ?_
      refine lv_dup hx hb dX1_lastsForWrite_22 rfl ?_
      refine va_get (D := D) (ci := 1) (v := .int left) (C := RX1) (T := TX1) (N := 4) hx hb ht inX1 hown hK hP 0 rfl rfl 1 (by decide) (ht _ kw1_104) (fun _ h9 => h9) rfl dX1_lastsForWrite_23 ?_
      refine lv_iconst (v := 1) hx hb dX1_lastsForWrite_26 (by decide) ?_
      refine lv_isub hx hb dX1_lastsForWrite_27 ?_
      refine va_put (D := D) (ci := 1) (v := .int (left - 1)) (ty := .int) (C := RX1) (T := TX1) (N := 4) hx hb ht inX1 tyX1 tyX1_ok nmX1 hown hK hP hD hS 0 rfl rfl 1 (by decide) (ht _ kw1_104) (fun _ h9 => h9) rfl (by decide +kernel) (rfl) rfl (Nat.le_of_ble_eq_true rfl) dX1_lastsForWrite_28 (fun H locs hP hD hS => ?_)
      have hP : va_P D vwCl ([(h, .inr (1, [.int off, .int (left - 1), .int wr, .int rc]))]) H := hP
      have hD : va_D A ([(h, .inr (1, [.int off, .int (left - 1), .int wr, .int rc]))]) := hD
      refine lv_aload_n hx hb dX1_lastsForWrite_31 rfl (lv_at hl 0 rfl) ?_
      refine lv_dup hx hb dX1_lastsForWrite_32 rfl ?_
      refine va_get (D := D) (ci := 1) (v := .int wr) (C := RX1) (T := TX1) (N := 4) hx hb ht inX1 hown hK hP 0 rfl rfl 2 (by decide) (ht _ kw1_106) (fun _ h9 => h9) rfl dX1_lastsForWrite_33 ?_
      refine lv_iconst (v := 1) hx hb dX1_lastsForWrite_36 (by decide) ?_
      refine lv_iadd hx hb dX1_lastsForWrite_37 ?_
      refine va_put (D := D) (ci := 1) (v := .int (wr + 1)) (ty := .int) (C := RX1) (T := TX1) (N := 4) hx hb ht inX1 tyX1 tyX1_ok nmX1 hown hK hP hD hS 0 rfl rfl 2 (by decide) (ht _ kw1_106) (fun _ h9 => h9) rfl (by decide +kernel) (rfl) rfl (Nat.le_of_ble_eq_true rfl) dX1_lastsForWrite_38 (fun H locs hP hD hS => ?_)
      have hP : va_P D vwCl ([(h, .inr (1, [.int off, .int (left - 1), .int (wr + 1), .int rc]))]) H := hP
      have hD : va_D A ([(h, .inr (1, [.int off, .int (left - 1), .int (wr + 1), .int rc]))]) := hD
      refine lv_iconst (v := 1) hx hb dX1_lastsForWrite_41 (by decide) ?_
      exact W.zret (v := 1) hx hb hr (by decide +kernel) (fun t ht2 hW => ⟨⟨1, (), rfl, e1.symm, by
            (try dsimp only)
            rw [e2, e3, e4, ht2]
            exact ⟨hP, hD⟩⟩, hS.F ht2⟩) hS.2.2 dX1_lastsForWrite_42
  · have e1 : wOk left = 0 := if_pos c4
    have e2 : wOff left off = 1 := if_pos c4
    have e3 : wInc left wr = wr := if_pos c4
    have e4 : wLeft left = left := if_neg (by rw [c4]; decide)
    refine lv_aload_n hx hb dX1_lastsForWrite_7 rfl (lv_at hl 0 rfl) ?_
    refine lv_iconst (v := 1) hx hb dX1_lastsForWrite_8 (by decide) ?_
    refine va_put (D := D) (ci := 1) (v := .int 1) (ty := .boolean) (C := RX1) (T := TX1) (N := 4) hx hb ht inX1 tyX1 tyX1_ok nmX1 hown hK hP hD hS 0 rfl rfl 0 (by decide) (ht _ kw1_102) (fun _ h9 => h9) rfl (by decide +kernel) (by decide +kernel) rfl (Nat.le_of_ble_eq_true rfl) dX1_lastsForWrite_9 (fun H locs hP hD hS => ?_)
    have hP : va_P D vwCl ([(h, .inr (1, [.int 1, .int left, .int wr, .int rc]))]) H := hP
    have hD : va_D A ([(h, .inr (1, [.int 1, .int left, .int wr, .int rc]))]) := hD
    refine lv_iconst (v := 0) hx hb dX1_lastsForWrite_12 (by decide) ?_
    exact W.zret (v := 0) hx hb hr (by decide +kernel) (fun t ht2 hW => ⟨⟨0, (), rfl, e1.symm, by
          (try dsimp only)
          rw [e2, e3, e4, ht2]
          exact ⟨hP, hD⟩⟩, hS.F ht2⟩) hS.2.2 dX1_lastsForWrite_13

set_option maxHeartbeats 4000000 in
set_option maxRecDepth 100000 in
theorem c_X1_lastsForRecord (l : Launch) (D : va_G) (cI cZ cS cJ : ClassId) (sz : Nat) (h : Nat) (off left wr rc : Int32)  : Met l yX1_lastsForRecord (Cond.code yX1_lastsForRecord cX1_lastsForRecord 1 (some .boolean) :: TB) ({ frames := 1, cells := 0, slots := 0, locals := 20 } : Room) (va_Pc [.ref h] (PB D (KT cI cZ cS cJ) ([(h, .inr (1, [.int off, .int left, .int wr, .int rc]))]) sz)) (va_Qi (fun r (_ : Unit) => r = wOk left) (fun (_ : Unit) t => va_P D vwCl [(h, .inr (1, [.int (wOff left off), .int (wLeft left), .int (wInc left wr), .int (wInc left rc)]))] t.heap ∧ va_D (va_A [(h, .inr (1, [.int off, .int left, .int wr, .int rc]))] sz) [(h, .inr (1, [.int (wOff left off), .int (wLeft left), .int (wInc left wr), .int (wInc left rc)]))]) (va_A ([(h, .inr (1, [.int off, .int left, .int wr, .int rc]))]) sz)) 0 0 (va_A ([(h, .inr (1, [.int off, .int left, .int wr, .int rc]))]) sz) := by
  refine Met.ofW (cc := cX1_lastsForRecord) (maxL := 1) (ret := (some .boolean)) (by decide) rfl ?_
  intro p e s m args below meth c s₁ B hml hv
  obtain ⟨rfl, hsz, hP, hK, hD0⟩ := hv
  have hx := B.exec
  have hb := B.bytes
  have hr := B.returns
  have hts := atoms_spec (ws := (Cond.code yX1_lastsForRecord cX1_lastsForRecord 1 (some .boolean) :: TB)) B.pre
  have ht : ∀ w ∈ TB, w.before _ s = true := fun w h => hts w (List.mem_cons_of_mem _ h)
  have hown : s.vm.findClass RX1 = some m.cls := findClass_of_methodNamed B.named
  have hlocks := B.notSynchronized
  subst hsz
  have hD := hD0.self (sz := s.heap.size)
  generalize hAe : va_A ([(h, .inr (1, [.int off, .int left, .int wr, .int rc]))]) s.heap.size = A at hD ⊢
  have hA : ∀ q : Nat, s.heap.size ≤ q → A q := fun q h => by rw [← hAe]; exact Or.inr h
  have hS : va_S A s.heap s.heap [] := va_S.rf
  have hP : va_P D vwCl ([(h, .inr (1, [.int off, .int left, .int wr, .int rc]))]) s.heap := hP
  have hl := lv_entry ([.ref h]) (n := 1) (Nat.le_of_ble_eq_true rfl)
  rw [lg_entry_eq]
  generalize (lg_sl ([.ref h]) ++ List.replicate (1 - (lg_sl ([.ref h])).length) Slot.unset).toArray = ls at hl ⊢
  have hl : lv_has ls 1 [(0, .ref h)] := hl
  refine lv_aload_n hx hb dX1_lastsForRecord_0 rfl (lv_at hl 0 rfl) ?_
  have hPc := hP.sub (ws' := [(h, .inr (1, [.int off, .int left, .int wr, .int rc]))]) [0] rfl
  have hDc := hD.sub (ws' := [(h, .inr (1, [.int off, .int left, .int wr, .int rc]))]) [0] (by decide) rfl
  have hFc := va_free (wc := [(h, .inr (1, [.int off, .int left, .int wr, .int rc]))]) hD hS hA [0] rfl
  refine va_calli (va_runV (As := []) (rest := []) ⟨hx, hb, hml, hown, ht⟩ (c_X1_lastsForWrite l D cI cZ cS cJ s.heap.size h off left wr rc) (xwV 0 ht kw2_78 kw2_173 kw1_5 kw2_77 kwS_9 rfl rfl (by decide +kernel) ⟨Nat.le_of_ble_eq_true rfl, Nat.le_of_ble_eq_true rfl⟩) ⟨PB.blind, va_recv hK hPc (ci := 1) (q0 := 0) rfl rfl, fun U hU hW => PB.mk hU hW hPc hK hDc⟩ rfl rfl hl.1 rfl (lv_room (Nat.le_of_ble_eq_true rfl)) dX1_lastsForRecord_1 ⟨Nat.le_of_ble_eq_true rfl, Nat.le_of_ble_eq_true rfl⟩) hS (fun q _ h => hFc q h) hFc (fun r1 u1 t1 H1 locs ht1 hvm w1 hB hz1 hk1 hS => ?_)
  try dsimp only at w1 hB
  obtain ⟨hP1, hD1⟩ := hB
  rw [ht1] at hP1
  obtain ⟨hP, hD⟩ := wk_join (w1 := [(h, .inr (1, [.int (wOff left off), .int (wLeft left), .int (wInc left wr), .int rc]))]) hP hD [0] rfl (by decide) rfl hk1 hFc hP1 hD1
  generalize H1 = H at hP hS ⊢
  have hP : va_P D vwCl ([(h, .inr (1, [.int (wOff left off), .int (wLeft left), .int (wInc left wr), .int rc]))]) H := hP
  have hD : va_D A ([(h, .inr (1, [.int (wOff left off), .int (wLeft left), .int (wInc left wr), .int rc]))]) := hD
  refine lv_if_ne (tgt := 9) hx hb dX1_lastsForRecord_4 (by decide) (fun c4 => ?_) (fun c4 => ?_)
  · have hl0 : ¬ left = 0 := fun q => c4 (by rw [w1]; exact if_pos q)
    have e1 : wInc left rc = rc + 1 := if_neg hl0
    have e0 : wOk left = 1 := if_neg hl0
    refine lv_aload_n hx hb dX1_lastsForRecord_9 rfl (lv_at hl 0 rfl) ?_
    refine lv_dup hx hb dX1_lastsForRecord_10 rfl ?_
    refine va_get (D := D) (ci := 1) (v := .int rc) (C := RX1) (T := TX1) (N := 4) hx hb ht inX1 hown hK hP 0 rfl rfl 3 (by decide) (ht _ kw1_108) (fun _ h9 => h9) rfl dX1_lastsForRecord_11 ?_
    refine lv_iconst (v := 1) hx hb dX1_lastsForRecord_14 (by decide) ?_
    refine lv_iadd hx hb dX1_lastsForRecord_15 ?_
    refine va_put (D := D) (ci := 1) (v := .int (rc + 1)) (ty := .int) (C := RX1) (T := TX1) (N := 4) hx hb ht inX1 tyX1 tyX1_ok nmX1 hown hK hP hD hS 0 rfl rfl 3 (by decide) (ht _ kw1_108) (fun _ h9 => h9) rfl (by decide +kernel) (rfl) rfl (Nat.le_of_ble_eq_true rfl) dX1_lastsForRecord_16 (fun H locs hP hD hS => ?_)
    have hP : va_P D vwCl ([(h, .inr (1, [.int (wOff left off), .int (wLeft left), .int (wInc left wr), .int (rc + 1)]))]) H := hP
    have hD : va_D A ([(h, .inr (1, [.int (wOff left off), .int (wLeft left), .int (wInc left wr), .int (rc + 1)]))]) := hD
    refine lv_iconst (v := 1) hx hb dX1_lastsForRecord_19 (by decide) ?_
    exact W.zret (v := 1) hx hb hr (by decide +kernel) (fun t ht2 hW => ⟨⟨1, (), rfl, e0.symm, by
          (try dsimp only)
          rw [e1, ht2]
          exact ⟨hP, hD⟩⟩, hS.F ht2⟩) hS.2.2 dX1_lastsForRecord_20
  · have hl0 : left = 0 := by
      unfold wOk at w1; split at w1
      next q => exact q
      next q => rw [w1] at c4; exact absurd c4 (by decide)
    have e1 : wInc left rc = rc := if_pos hl0
    have e0 : wOk left = 0 := if_pos hl0
    refine lv_iconst (v := 0) hx hb dX1_lastsForRecord_7 (by decide) ?_
    exact W.zret (v := 0) hx hb hr (by decide +kernel) (fun t ht2 hW => ⟨⟨0, (), rfl, e0.symm, by
          (try dsimp only)
          rw [e1, ht2]
          exact ⟨hP, hD⟩⟩, hS.F ht2⟩) hS.2.2 dX1_lastsForRecord_8
