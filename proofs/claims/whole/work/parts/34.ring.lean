-- the class: Ring
def FL (RL : List (Int32 × Int32)) (nd : Nat) (i : Nat) : List (Int32 × Int32) := (RL.take i).filter (fun e => !decide (e.2 = nI nd))
theorem FL_n {RL : List (Int32 × Int32)} {nd i : Nat} (hi : i < RL.length) (h : vx RL i = nI nd) : FL RL nd (i + 1) = FL RL nd i := by
  unfold FL
  rw [List.take_add_one, List.getElem?_eq_getElem hi, Option.toList_some, List.filter_append]
  have ev : vx RL i = RL[i].2 := by unfold vx; rw [List.getD_eq_getElem?_getD, List.getElem?_eq_getElem hi]; rfl
  rw [List.filter_cons_of_neg (by rw [← ev, h]; simp), List.filter_nil, List.append_nil]
theorem FL_y {RL : List (Int32 × Int32)} {nd i : Nat} (hi : i < RL.length) (h : ¬ vx RL i = nI nd) : FL RL nd (i + 1) = FL RL nd i ++ [RL.getD i (0, 0)] := by
  unfold FL
  rw [List.take_add_one, List.getElem?_eq_getElem hi, Option.toList_some, List.filter_append]
  have ev : RL.getD i (0, 0) = RL[i] := by rw [List.getD_eq_getElem?_getD, List.getElem?_eq_getElem hi]; rfl
  have h2 : vx RL i = RL[i].2 := by unfold vx; rw [ev]
  rw [List.filter_cons_of_pos (by rw [← h2]; simp [h]), List.filter_nil, ev]
theorem FL_le (RL : List (Int32 × Int32)) (nd i : Nat) : (FL RL nd i).length ≤ i := by
  unfold FL
  have h1 := List.length_filter_le (fun e : Int32 × Int32 => !decide (e.2 = nI nd)) (RL.take i)
  rw [List.length_take] at h1
  omega
/-- the arrays when i of them were looked at -/
def DI (RL : List (Int32 × Int32)) (nd i : Nat) (f g : Nat → Int32) : Prop := (∀ k, k < (FL RL nd i).length → f k = kx (FL RL nd i) k ∧ g k = vx (FL RL nd i) k) ∧ ∀ k, i ≤ k → k < RL.length → f k = kx RL k ∧ g k = vx RL k
theorem DI.n {RL : List (Int32 × Int32)} {nd i : Nat} {f g : Nat → Int32} (h : DI RL nd i f g) (hi : i < RL.length) (hv : vx RL i = nI nd) : DI RL nd (i + 1) f g := by
  unfold DI
  rw [FL_n hi hv]
  exact ⟨h.1, fun k hk => h.2 k (by omega)⟩
theorem DI.y {RL : List (Int32 × Int32)} {nd i : Nat} {f g : Nat → Int32} (h : DI RL nd i f g) (hi : i < RL.length) (hv : ¬ vx RL i = nI nd) : DI RL nd (i + 1) (upd f (FL RL nd i).length (f i)) (upd g (FL RL nd i).length (g i)) := by
  have hl := FL_le RL nd i
  unfold DI
  rw [FL_y hi hv]
  refine ⟨fun k hk => ?_, fun k h1 h2 => ?_⟩
  · rw [List.length_append] at hk
    have hk : k < (FL RL nd i).length + 1 := hk
    by_cases c : k = (FL RL nd i).length
    · subst c
      rw [pk_us, pk_us, (h.2 i (Nat.le_refl _) hi).1, (h.2 i (Nat.le_refl _) hi).2]
      unfold kx vx
      rw [List.getD_eq_getElem?_getD (l := _ ++ _), List.getElem?_append_right (Nat.le_refl _), Nat.sub_self]
      exact ⟨rfl, rfl⟩
    · rw [pk_un c, pk_un c, (h.1 k (by omega)).1, (h.1 k (by omega)).2]
      unfold kx vx
      rw [List.getD_eq_getElem?_getD (l := _ ++ _), List.getElem?_append_left (by omega), List.getD_eq_getElem?_getD]
      exact ⟨rfl, rfl⟩
  · rw [pk_un (by omega), pk_un (by omega)]
    exact h.2 k (by omega) h2
def RRP (mm : Nat → Nat) (RL : List (Int32 × Int32)) (pts f g : Nat → Int32) : Prop := (∀ n, n < 8 → pts n = nI (mm n)) ∧ SRP RL 128 128 f g

set_option maxHeartbeats 4000000 in
set_option maxRecDepth 100000 in
theorem c_X2_init (l : Launch) (D : va_G) (cI cZ cS cJ : ClassId) (sz : Nat) (h : Nat) : Met l yX2_init (Cond.code yX2_init cX2_init 1 none :: TB) ({ frames := 1, cells := 3, slots := 264, locals := 16 } : Room) (va_Pc [.ref h] (PB D (KT cI cZ cS cJ) ([(h, .inr (2, [.null, .null, .null, .int 0]))]) sz)) (va_Qv (fun (_ : Nat × Nat × Nat) => True) (fun (u : Nat × Nat × Nat) t => va_P D vwCl [(h, .inr (2, [.ref u.1, .ref u.2.1, .ref u.2.2, .int 0])), (u.1, .inl (cI, 8, .inl (fun _ => 0))), (u.2.1, .inl (cI, 128, .inl (fun _ => 0))), (u.2.2, .inl (cI, 128, .inl (fun _ => 0)))] t.heap ∧ va_D (va_A [(h, .inr (2, [.null, .null, .null, .int 0]))] sz) [(h, .inr (2, [.ref u.1, .ref u.2.1, .ref u.2.2, .int 0])), (u.1, .inl (cI, 8, .inl (fun _ => 0))), (u.2.1, .inl (cI, 128, .inl (fun _ => 0))), (u.2.2, .inl (cI, 128, .inl (fun _ => 0)))]) (va_A ([(h, .inr (2, [.null, .null, .null, .int 0]))]) sz)) 3 264 (va_A ([(h, .inr (2, [.null, .null, .null, .int 0]))]) sz) := by
  refine Met.ofW (cc := cX2_init) (maxL := 1) (ret := none) (by decide) rfl ?_
  intro p e s m args below meth c s₁ B hml hv
  obtain ⟨rfl, hsz, hP, hK, hD0⟩ := hv
  have hx := B.exec
  have hb := B.bytes
  have hr := B.returns
  have hts := atoms_spec (ws := (Cond.code yX2_init cX2_init 1 none :: TB)) B.pre
  have ht : ∀ w ∈ TB, w.before _ s = true := fun w h => hts w (List.mem_cons_of_mem _ h)
  have hown : s.vm.findClass RX2 = some m.cls := findClass_of_methodNamed B.named
  have hlocks := B.notSynchronized
  have hin : meth.name = "<init>" := (name_of_methodNamed B.named B.method).1
  subst hsz
  have hD := hD0.self (sz := s.heap.size)
  generalize hAe : va_A ([(h, .inr (2, [.null, .null, .null, .int 0]))]) s.heap.size = A at hD ⊢
  have hA : ∀ q : Nat, s.heap.size ≤ q → A q := fun q h => by rw [← hAe]; exact Or.inr h
  have hS : va_S A s.heap s.heap [] := va_S.rf
  have hP : va_P D vwCl ([(h, .inr (2, [.null, .null, .null, .int 0]))]) s.heap := hP
  have hl := lv_entry ([.ref h]) (n := 1) (Nat.le_of_ble_eq_true rfl)
  rw [lg_entry_eq]
  generalize (lg_sl ([.ref h]) ++ List.replicate (1 - (lg_sl ([.ref h])).length) Slot.unset).toArray = ls at hl ⊢
  have hl : lv_has ls 1 [(0, .ref h)] := hl
  refine lv_aload_n hx hb dX2_init_0 rfl (lv_at hl 0 rfl) ?_
  refine W.objInit hx hb hown (ht _ kw1_38) (ht _ kw1_25) (ht _ kw1_26) rfl (by rw [hml]; exact hl.1) rfl dX2_init_1 (Nat.le_of_ble_eq_true rfl) (Nat.le_of_ble_eq_true rfl) ?_
  refine W.eq (g2 := F0 m 4 ls []) rfl ?_
  refine lv_aload_n hx hb dX2_init_4 rfl (lv_at hl 0 rfl) ?_
  refine lv_bipush (v := 8) hx hb dX2_init_5 (by decide) ?_
  refine ya_newa (atype := .int) (ty := .int) hx hb (ht _ kw1_54) rfl (fun C h => by cases h) hK 0 rfl hP hD hS hA (a0 := (8, .inl (fun _ => 0))) (fun _ => rfl) (by decide) (by decide +kernel) (by decide +kernel) (Nat.le_of_ble_eq_true rfl) (Nat.le_of_ble_eq_true rfl) dX2_init_7 (fun q7 H hP hD hS => ?_)
  have hP : va_P D vwCl ([(h, .inr (2, [.null, .null, .null, .int 0])), (q7, .inl (cI, 8, .inl (fun _ => 0)))]) H := hP
  have hD : va_D A ([(h, .inr (2, [.null, .null, .null, .int 0])), (q7, .inl (cI, 8, .inl (fun _ => 0)))]) := hD
  refine va_putF (D := D) (ci := 2) (v := .ref q7) (ty := .array .int) (C := RX2) (T := TX2) (N := 4) hx hb ht inX2 tyX2 tyX2_ok nmX2 hown hK hP hD hS 0 rfl rfl 0 (by decide) (ht _ kw1_39) (fun _ h9 => h9) rfl hin rfl (by decide +kernel) (rfl) rfl (Nat.le_of_ble_eq_true rfl) dX2_init_9 (fun H locs hP hD hS => ?_)
  have hP : va_P D vwCl ([(h, .inr (2, [.ref q7, .null, .null, .int 0])), (q7, .inl (cI, 8, .inl (fun _ => 0)))]) H := hP
  have hD : va_D A ([(h, .inr (2, [.ref q7, .null, .null, .int 0])), (q7, .inl (cI, 8, .inl (fun _ => 0)))]) := hD
  refine lv_aload_n hx hb dX2_init_12 rfl (lv_at hl 0 rfl) ?_
  refine lv_sipush (v := 128) hx hb dX2_init_13 (by decide) ?_
  refine ya_newa (atype := .int) (ty := .int) hx hb (ht _ kw1_54) rfl (fun C h => by cases h) hK 0 rfl hP hD hS hA (a0 := (128, .inl (fun _ => 0))) (fun _ => rfl) (by decide) (by decide +kernel) (by decide +kernel) (Nat.le_of_ble_eq_true rfl) (Nat.le_of_ble_eq_true rfl) dX2_init_16 (fun q16 H hP hD hS => ?_)
  have hP : va_P D vwCl ([(h, .inr (2, [.ref q7, .null, .null, .int 0])), (q7, .inl (cI, 8, .inl (fun _ => 0))), (q16, .inl (cI, 128, .inl (fun _ => 0)))]) H := hP
  have hD : va_D A ([(h, .inr (2, [.ref q7, .null, .null, .int 0])), (q7, .inl (cI, 8, .inl (fun _ => 0))), (q16, .inl (cI, 128, .inl (fun _ => 0)))]) := hD
  refine va_put (D := D) (ci := 2) (v := .ref q16) (ty := .array .int) (C := RX2) (T := TX2) (N := 4) hx hb ht inX2 tyX2 tyX2_ok nmX2 hown hK hP hD hS 0 rfl rfl 1 (by decide) (ht _ kw1_41) (fun _ h9 => h9) rfl (by decide +kernel) (rfl) rfl (Nat.le_of_ble_eq_true rfl) dX2_init_18 (fun H locs hP hD hS => ?_)
  have hP : va_P D vwCl ([(h, .inr (2, [.ref q7, .ref q16, .null, .int 0])), (q7, .inl (cI, 8, .inl (fun _ => 0))), (q16, .inl (cI, 128, .inl (fun _ => 0)))]) H := hP
  have hD : va_D A ([(h, .inr (2, [.ref q7, .ref q16, .null, .int 0])), (q7, .inl (cI, 8, .inl (fun _ => 0))), (q16, .inl (cI, 128, .inl (fun _ => 0)))]) := hD
  refine lv_aload_n hx hb dX2_init_21 rfl (lv_at hl 0 rfl) ?_
  refine lv_sipush (v := 128) hx hb dX2_init_22 (by decide) ?_
  refine ya_newa (atype := .int) (ty := .int) hx hb (ht _ kw1_54) rfl (fun C h => by cases h) hK 0 rfl hP hD hS hA (a0 := (128, .inl (fun _ => 0))) (fun _ => rfl) (by decide) (by decide +kernel) (by decide +kernel) (Nat.le_of_ble_eq_true rfl) (Nat.le_of_ble_eq_true rfl) dX2_init_25 (fun q25 H hP hD hS => ?_)
  have hP : va_P D vwCl ([(h, .inr (2, [.ref q7, .ref q16, .null, .int 0])), (q7, .inl (cI, 8, .inl (fun _ => 0))), (q16, .inl (cI, 128, .inl (fun _ => 0))), (q25, .inl (cI, 128, .inl (fun _ => 0)))]) H := hP
  have hD : va_D A ([(h, .inr (2, [.ref q7, .ref q16, .null, .int 0])), (q7, .inl (cI, 8, .inl (fun _ => 0))), (q16, .inl (cI, 128, .inl (fun _ => 0))), (q25, .inl (cI, 128, .inl (fun _ => 0)))]) := hD
  refine va_put (D := D) (ci := 2) (v := .ref q25) (ty := .array .int) (C := RX2) (T := TX2) (N := 4) hx hb ht inX2 tyX2 tyX2_ok nmX2 hown hK hP hD hS 0 rfl rfl 2 (by decide) (ht _ kw1_42) (fun _ h9 => h9) rfl (by decide +kernel) (rfl) rfl (Nat.le_of_ble_eq_true rfl) dX2_init_27 (fun H locs hP hD hS => ?_)
  have hP : va_P D vwCl ([(h, .inr (2, [.ref q7, .ref q16, .ref q25, .int 0])), (q7, .inl (cI, 8, .inl (fun _ => 0))), (q16, .inl (cI, 128, .inl (fun _ => 0))), (q25, .inl (cI, 128, .inl (fun _ => 0)))]) H := hP
  have hD : va_D A ([(h, .inr (2, [.ref q7, .ref q16, .ref q25, .int 0])), (q7, .inl (cI, 8, .inl (fun _ => 0))), (q16, .inl (cI, 128, .inl (fun _ => 0))), (q25, .inl (cI, 128, .inl (fun _ => 0)))]) := hD
  refine W.widen (k := 3) (n := 264) (Nat.le_of_ble_eq_true rfl) (Nat.le_of_ble_eq_true rfl) ?_
  exact W.vret hx hb hr (fun t ht2 hW => ⟨⟨(q7, q16, q25), rfl, trivial, ⟨by (try dsimp only); rw [ht2]; exact hP, by exact hD⟩⟩, hS.F ht2⟩) hS.2.2 dX2_init_30

set_option maxHeartbeats 4000000 in
set_option maxRecDepth 100000 in
theorem c_X2_ownerOf (l : Launch) (D : va_G) (cI cZ cS cJ : ClassId) (sz : Nat) (h po pa no : Nat) (pts f g : Nat → Int32) (mm : Nat → Nat) (RL : List (Int32 × Int32)) (hr9 : RRP mm RL pts f g) (hg9 : RG mm RL) (h16 : ∀ n, n < 8 → mm n ≤ 16) (hM : MM mm) (key : Int32) : Met l yX2_ownerOf (Cond.code yX2_ownerOf cX2_ownerOf 3 (some .int) :: TB) ({ frames := 3, cells := 0, slots := 0, locals := 65 } : Room) (va_Pc [.ref h, .int key] (PB D (KT cI cZ cS cJ) ([(h, .inr (2, [.ref po, .ref pa, .ref no, .int (nI RL.length)])), (po, .inl (cI, 8, .inl pts)), (pa, .inl (cI, 128, .inl f)), (no, .inl (cI, 128, .inl g))]) sz)) (va_Qi (fun r (_ : Unit) => r = nI (ownK mm key)) (fun (_ : Unit) t => va_P D vwCl ([(h, .inr (2, [.ref po, .ref pa, .ref no, .int (nI RL.length)])), (po, .inl (cI, 8, .inl pts)), (pa, .inl (cI, 128, .inl f)), (no, .inl (cI, 128, .inl g))]) t.heap) (va_A ([(h, .inr (2, [.ref po, .ref pa, .ref no, .int (nI RL.length)])), (po, .inl (cI, 8, .inl pts)), (pa, .inl (cI, 128, .inl f)), (no, .inl (cI, 128, .inl g))]) sz)) 0 0 (va_A ([(h, .inr (2, [.ref po, .ref pa, .ref no, .int (nI RL.length)])), (po, .inl (cI, 8, .inl pts)), (pa, .inl (cI, 128, .inl f)), (no, .inl (cI, 128, .inl g))]) sz) := by
  refine Met.ofW (cc := cX2_ownerOf) (maxL := 3) (ret := (some .int)) (by decide) rfl ?_
  intro p e s m args below meth c s₁ B hml hv
  obtain ⟨rfl, hsz, hP, hK, hD0⟩ := hv
  have hx := B.exec
  have hb := B.bytes
  have hr := B.returns
  have hts := atoms_spec (ws := (Cond.code yX2_ownerOf cX2_ownerOf 3 (some .int) :: TB)) B.pre
  have ht : ∀ w ∈ TB, w.before _ s = true := fun w h => hts w (List.mem_cons_of_mem _ h)
  have hown : s.vm.findClass RX2 = some m.cls := findClass_of_methodNamed B.named
  have hlocks := B.notSynchronized
  subst hsz
  have hD := hD0.self (sz := s.heap.size)
  generalize hAe : va_A ([(h, .inr (2, [.ref po, .ref pa, .ref no, .int (nI RL.length)])), (po, .inl (cI, 8, .inl pts)), (pa, .inl (cI, 128, .inl f)), (no, .inl (cI, 128, .inl g))]) s.heap.size = A at hD ⊢
  have hA : ∀ q : Nat, s.heap.size ≤ q → A q := fun q h => by rw [← hAe]; exact Or.inr h
  have hS : va_S A s.heap s.heap [] := va_S.rf
  have hP : va_P D vwCl ([(h, .inr (2, [.ref po, .ref pa, .ref no, .int (nI RL.length)])), (po, .inl (cI, 8, .inl pts)), (pa, .inl (cI, 128, .inl f)), (no, .inl (cI, 128, .inl g))]) s.heap := hP
  have hl := lv_entry ([.ref h, .int key]) (n := 3) (Nat.le_of_ble_eq_true rfl)
  rw [lg_entry_eq]
  generalize (lg_sl ([.ref h, .int key]) ++ List.replicate (3 - (lg_sl ([.ref h, .int key])).length) Slot.unset).toArray = ls at hl ⊢
  have hl : lv_has ls 3 [(0, .ref h), (1, .int key)] := hl
  refine lv_aload_n hx hb dX2_ownerOf_0 rfl (lv_at hl 0 rfl) ?_
  refine va_get (D := D) (ci := 2) (v := .ref pa) (C := RX2) (T := TX2) (N := 4) hx hb ht inX2 hown hK hP 0 rfl rfl 1 (by decide) (ht _ kw1_41) (fun _ h9 => h9) rfl dX2_ownerOf_1 ?_
  refine lv_aload_n hx hb dX2_ownerOf_4 rfl (lv_at hl 0 rfl) ?_
  refine va_get (D := D) (ci := 2) (v := .int (nI RL.length)) (C := RX2) (T := TX2) (N := 4) hx hb ht inX2 hown hK hP 0 rfl rfl 3 (by decide) (ht _ kw1_43) (fun _ h9 => h9) rfl dX2_ownerOf_5 ?_
  refine lv_iload_n hx hb dX2_ownerOf_8 rfl (lv_at hl 1 rfl) ?_
  refine lv_i2l (v := (key : Int32).toInt64) hx hb dX2_ownerOf_9 rfl ?_
  have hPc : va_P D vwCl [] s.heap := va_P.nil
  have hDc : va_D A [] := va_D.nil
  have hFc := va_free (wc := []) hD hS hA [] rfl
  refine va_calli (va_runSN (As := [.long ((key : Int32).toInt64)]) (rest := [.int (nI RL.length), .ref pa]) ⟨hx, hb, hml, hown, ht⟩ (c_X4_placeOf l D cI cZ cS cJ s.heap.size ((key : Int32).toInt64)) ⟨xwN 1 ht kw1_144 kw1_142 kw1_1 rfl rfl (by decide +kernel) ⟨Nat.le_of_ble_eq_true rfl, Nat.le_of_ble_eq_true rfl⟩, ht _ kw1_143, trivial⟩ ⟨PB.blind, fun U hU hW => PB.mk hU hW hPc hK hDc⟩ rfl rfl hl.1 rfl (lv_room (Nat.le_of_ble_eq_true rfl)) dX2_ownerOf_10 ⟨Nat.le_of_ble_eq_true rfl, Nat.le_of_ble_eq_true rfl⟩) hS (fun q _ h => hFc q h) hFc (fun r10 u10 t10 H1 locs ht1 hvm w10 hB hz1 hk1 hS => ?_)
  try dsimp only at w10 hB
  rw [ht1] at hB
  have hP := wk_ro (wc := []) hP hD [] rfl hk1 va_P.nil
  generalize H1 = H at hP hS ⊢
  have w10 := w10.symm
  subst w10
  have hPc := hP.sub (ws' := [(pa, .inl (cI, 128, .inl f))]) [2] rfl
  have hDc := hD.sub (ws' := [(pa, .inl (cI, 128, .inl f))]) [2] (by decide) rfl
  have hFc := va_free (wc := [(pa, .inl (cI, 128, .inl f))]) hD hS hA [2] rfl
  refine va_calli (va_runSN (As := [.ref pa, .int (nI RL.length), .int (plF (key : Int32).toInt64)]) (rest := []) ⟨hx, hb, hml, hown, ht⟩ (c_X4_below l D cI cZ cS cJ H.size pa 128 f RL.length (plF (key : Int32).toInt64) (by decide) hr9.2.1.1 (by have := hr9.2.1.1; omega) (hr9.2.as hg9.1)) ⟨xwN 3 ht kw1_148 kw1_146 kw1_1 rfl rfl (by decide +kernel) ⟨Nat.le_of_ble_eq_true rfl, Nat.le_of_ble_eq_true rfl⟩, ht _ kw1_147, trivial⟩ ⟨PB.blind, fun U hU hW => PB.mk hU hW hPc hK hDc⟩ rfl rfl hl.1 rfl (lv_room (Nat.le_of_ble_eq_true rfl)) dX2_ownerOf_13 ⟨Nat.le_of_ble_eq_true rfl, Nat.le_of_ble_eq_true rfl⟩) hS (fun q _ h => hFc q h) hFc (fun r13 u13 t13 H1 locs ht1 hvm w13 hB hz1 hk1 hS => ?_)
  try dsimp only at w13 hB
  rw [ht1] at hB
  have hP := wk_ro hP hD [2] rfl hk1 hB
  generalize H1 = H at hP hS ⊢
  obtain ⟨k, ek, hbw⟩ := w13
  have ek := ek.symm
  subst ek
  obtain ⟨hb1, hb2, hb3⟩ := hbw
  have hlen := hr9.2.1.1
  have hpos := hg9.pos hM
  refine lv_istore_n (lv' := [(2, .int (nI k)), (0, .ref h), (1, .int key)]) hx hb dX2_ownerOf_16 rfl hl (by decide) rfl (fun ls hl => ?_)
  refine lv_aload_n hx hb dX2_ownerOf_17 rfl (lv_at hl 1 rfl) ?_
  refine va_get (D := D) (ci := 2) (v := .ref no) (C := RX2) (T := TX2) (N := 4) hx hb ht inX2 hown hK hP 0 rfl rfl 2 (by decide) (ht _ kw1_42) (fun _ h9 => h9) rfl dX2_ownerOf_18 ?_
  refine lv_iload_n hx hb dX2_ownerOf_21 rfl (lv_at hl 0 rfl) ?_
  refine lv_aload_n hx hb dX2_ownerOf_22 rfl (lv_at hl 1 rfl) ?_
  refine va_get (D := D) (ci := 2) (v := .int (nI RL.length)) (C := RX2) (T := TX2) (N := 4) hx hb ht inX2 hown hK hP 0 rfl rfl 3 (by decide) (ht _ kw1_43) (fun _ h9 => h9) rfl dX2_ownerOf_23 ?_
  refine lv_icmp_ge (tgt := 33) hx hb dX2_ownerOf_26 (by decide) (fun c26 => ?_) (fun c26 => ?_)
  · have hke : ¬ k < RL.length := fun q => absurd c26 (nI_ge q (by omega))
    refine lv_iconst (v := 0) hx hb dX2_ownerOf_33 (by decide) ?_
    refine ya_iald hx hb hK hP 3 0 rfl rfl 0 (rfl) (by decide) (by decide) dX2_ownerOf_34 ?_
    exact W.iret (v := g 0) hx hb hr (fun t ht2 hW => ⟨⟨g 0, (), rfl, by
          (try dsimp only)
          show g 0 = _
          rw [(hr9.2.2.2 0 hpos).2]; exact hg9.own_out hM (fun j hj => by rw [← (hr9.2.2.2 j hj).1]; exact hb2 j (by omega)), by (try dsimp only); rw [ht2]; exact hP⟩, hS.F ht2⟩) hS.2.2 dX2_ownerOf_35
  · have hk : k < RL.length := by
      rcases Nat.lt_or_ge k RL.length with q | q
      · exact q
      · exact absurd (nI_le q (by omega)) c26
    refine lv_iload_n hx hb dX2_ownerOf_29 rfl (lv_at hl 0 rfl) ?_
    refine lv_goto (tgt := 34) hx hb dX2_ownerOf_30 (by decide) ?_
    refine ya_iald hx hb hK hP 3 0 rfl rfl k (rfl) (by omega) (by decide) dX2_ownerOf_34 ?_
    exact W.iret (v := g k) hx hb hr (fun t ht2 hW => ⟨⟨g k, (), rfl, by
          (try dsimp only)
          show g k = _
          rw [(hr9.2.2.2 k hk).2]; exact hg9.own_in hM hk (fun j hj => by rw [← (hr9.2.2.2 j (by omega)).1]; exact hb2 j hj) (by rw [← (hr9.2.2.2 k hk).1]; exact hb3 k (Nat.le_refl _) hk), by (try dsimp only); rw [ht2]; exact hP⟩, hS.F ht2⟩) hS.2.2 dX2_ownerOf_35

set_option maxHeartbeats 4000000 in
set_option maxRecDepth 100000 in
theorem c_X2_enrol (l : Launch) (D : va_G) (cI cZ cS cJ : ClassId) (sz : Nat) (h po pa no : Nat) (pts f g : Nat → Int32) (mm : Nat → Nat) (RL : List (Int32 × Int32)) (hr9 : RRP mm RL pts f g) (hg9 : RG mm RL) (h16 : ∀ n, n < 8 → mm n ≤ 16) (nd pn : Nat) (hnd : nd < 8) (hpn : pn ≤ 16) (h0 : mm nd = 0) : Met l yX2_enrol (Cond.code yX2_enrol cX2_enrol 6 none :: TB) ({ frames := 3, cells := 0, slots := 0, locals := 86 } : Room) (va_Pc [.ref h, .int (nI nd), .int (nI pn)] (PB D (KT cI cZ cS cJ) ([(h, .inr (2, [.ref po, .ref pa, .ref no, .int (nI RL.length)])), (po, .inl (cI, 8, .inl pts)), (pa, .inl (cI, 128, .inl f)), (no, .inl (cI, 128, .inl g))]) sz)) (va_Qv (fun (u : List (Int32 × Int32) × Nat × Nat × (Nat → Int32) × (Nat → Int32) × (Nat → Int32)) => RG (fu mm nd pn) u.1 ∧ RRP (fu mm nd pn) u.1 u.2.2.2.1 u.2.2.2.2.1 u.2.2.2.2.2) (fun (u : List (Int32 × Int32) × Nat × Nat × (Nat → Int32) × (Nat → Int32) × (Nat → Int32)) t => va_P D vwCl [(h, .inr (2, [.ref po, .ref u.2.1, .ref u.2.2.1, .int (nI u.1.length)])), (po, .inl (cI, 8, .inl u.2.2.2.1)), (u.2.1, .inl (cI, 128, .inl u.2.2.2.2.1)), (u.2.2.1, .inl (cI, 128, .inl u.2.2.2.2.2))] t.heap ∧ va_D (va_A [(h, .inr (2, [.ref po, .ref pa, .ref no, .int (nI RL.length)])), (po, .inl (cI, 8, .inl pts)), (pa, .inl (cI, 128, .inl f)), (no, .inl (cI, 128, .inl g))] sz) [(h, .inr (2, [.ref po, .ref u.2.1, .ref u.2.2.1, .int (nI u.1.length)])), (po, .inl (cI, 8, .inl u.2.2.2.1)), (u.2.1, .inl (cI, 128, .inl u.2.2.2.2.1)), (u.2.2.1, .inl (cI, 128, .inl u.2.2.2.2.2))]) (va_A ([(h, .inr (2, [.ref po, .ref pa, .ref no, .int (nI RL.length)])), (po, .inl (cI, 8, .inl pts)), (pa, .inl (cI, 128, .inl f)), (no, .inl (cI, 128, .inl g))]) sz)) 0 0 (va_A ([(h, .inr (2, [.ref po, .ref pa, .ref no, .int (nI RL.length)])), (po, .inl (cI, 8, .inl pts)), (pa, .inl (cI, 128, .inl f)), (no, .inl (cI, 128, .inl g))]) sz) := by
  refine Met.ofW (cc := cX2_enrol) (maxL := 6) (ret := none) (by decide) rfl ?_
  intro p e s m args below meth c s₁ B hml hv
  obtain ⟨rfl, hsz, hP, hK, hD0⟩ := hv
  have hx := B.exec
  have hb := B.bytes
  have hr := B.returns
  have hts := atoms_spec (ws := (Cond.code yX2_enrol cX2_enrol 6 none :: TB)) B.pre
  have ht : ∀ w ∈ TB, w.before _ s = true := fun w h => hts w (List.mem_cons_of_mem _ h)
  have hown : s.vm.findClass RX2 = some m.cls := findClass_of_methodNamed B.named
  have hlocks := B.notSynchronized
  subst hsz
  have hD := hD0.self (sz := s.heap.size)
  generalize hAe : va_A ([(h, .inr (2, [.ref po, .ref pa, .ref no, .int (nI RL.length)])), (po, .inl (cI, 8, .inl pts)), (pa, .inl (cI, 128, .inl f)), (no, .inl (cI, 128, .inl g))]) s.heap.size = A at hD ⊢
  have hA : ∀ q : Nat, s.heap.size ≤ q → A q := fun q h => by rw [← hAe]; exact Or.inr h
  have hS : va_S A s.heap s.heap [] := va_S.rf
  have hP : va_P D vwCl ([(h, .inr (2, [.ref po, .ref pa, .ref no, .int (nI RL.length)])), (po, .inl (cI, 8, .inl pts)), (pa, .inl (cI, 128, .inl f)), (no, .inl (cI, 128, .inl g))]) s.heap := hP
  have hl := lv_entry ([.ref h, .int (nI nd), .int (nI pn)]) (n := 6) (Nat.le_of_ble_eq_true rfl)
  rw [lg_entry_eq]
  generalize (lg_sl ([.ref h, .int (nI nd), .int (nI pn)]) ++ List.replicate (6 - (lg_sl ([.ref h, .int (nI nd), .int (nI pn)])).length) Slot.unset).toArray = ls at hl ⊢
  have hl : lv_has ls 6 [(0, .ref h), (1, .int (nI nd)), (2, .int (nI pn))] := hl
  refine lv_aload_n hx hb dX2_enrol_0 rfl (lv_at hl 0 rfl) ?_
  refine va_get (D := D) (ci := 2) (v := .ref po) (C := RX2) (T := TX2) (N := 4) hx hb ht inX2 hown hK hP 0 rfl rfl 0 (by decide) (ht _ kw1_39) (fun _ h9 => h9) rfl dX2_enrol_1 ?_
  refine lv_iload_n hx hb dX2_enrol_4 rfl (lv_at hl 1 rfl) ?_
  refine lv_iload_n hx hb dX2_enrol_5 rfl (lv_at hl 2 rfl) ?_
  refine ya_iast hx hb hK hP hD hS 1 0 rfl rfl nd (rfl) (hnd) (by decide) dX2_enrol_6 (fun H locs hP hD hS => ?_)
  have hP : va_P D vwCl ([(h, .inr (2, [.ref po, .ref pa, .ref no, .int (nI RL.length)])), (po, .inl (cI, 8, .inl (upd pts nd (nI pn)))), (pa, .inl (cI, 128, .inl f)), (no, .inl (cI, 128, .inl g))]) H := hP
  have hD : va_D A ([(h, .inr (2, [.ref po, .ref pa, .ref no, .int (nI RL.length)])), (po, .inl (cI, 8, .inl (upd pts nd (nI pn)))), (pa, .inl (cI, 128, .inl f)), (no, .inl (cI, 128, .inl g))]) := hD
  refine lv_iconst (v := 0) hx hb dX2_enrol_7 (by decide) ?_
  refine lv_istore_n (lv' := [(3, .int 0), (0, .ref h), (1, .int (nI nd)), (2, .int (nI pn))]) hx hb dX2_enrol_8 rfl hl (by decide) rfl (fun ls hl => ?_)
  refine lpB (pc := 9) (ι := Nat × (List (Int32 × Int32)) × Nat × Nat × (Nat → Int32) × (Nat → Int32)) (fun z H locs k9 n9 ls => lv_has ls 6 [(3, .int (nI z.1)), (0, .ref h), (1, .int (nI nd)), (2, .int (nI pn))] ∧ va_P D vwCl ([(h, .inr (2, [.ref po, .ref z.2.2.1, .ref z.2.2.2.1, .int (nI z.2.1.length)])), (po, .inl (cI, 8, .inl (upd pts nd (nI pn)))), (z.2.2.1, .inl (cI, 128, .inl z.2.2.2.2.1)), (z.2.2.2.1, .inl (cI, 128, .inl z.2.2.2.2.2))]) H ∧ va_D A ([(h, .inr (2, [.ref po, .ref z.2.2.1, .ref z.2.2.2.1, .int (nI z.2.1.length)])), (po, .inl (cI, 8, .inl (upd pts nd (nI pn)))), (z.2.2.1, .inl (cI, 128, .inl z.2.2.2.2.1)), (z.2.2.2.1, .inl (cI, 128, .inl z.2.2.2.2.2))]) ∧ va_S A s.heap H locs ∧ k9 = 0 ∧ n9 = 0 ∧ z.1 ≤ pn ∧ RG (fu mm nd z.1) z.2.1 ∧ SRP z.2.1 128 128 z.2.2.2.2.1 z.2.2.2.2.2) (fun z => pn - z.1) (0, RL, pa, no, f, g) (⟨lv_sub hl [0, 1, 2, 3] rfl, by exact hP, by exact hD, hS, rfl, rfl, ⟨Nat.zero_le _, by rw [show fu mm nd 0 = mm from by rw [← h0]; exact fu_id mm nd]; exact hg9, hr9.2⟩⟩) ?_
  intro z H locs k9 n9 ls hI ih9
  obtain ⟨v, RL1, pa1, no1, f1, g1⟩ := z
  obtain ⟨hl, hP, hD, hS, e9, e8, hinv⟩ := hI
  subst e9
  subst e8
  have hP : va_P D vwCl ([(h, .inr (2, [.ref po, .ref pa1, .ref no1, .int (nI RL1.length)])), (po, .inl (cI, 8, .inl (upd pts nd (nI pn)))), (pa1, .inl (cI, 128, .inl f1)), (no1, .inl (cI, 128, .inl g1))]) H := hP
  have hD : va_D A ([(h, .inr (2, [.ref po, .ref pa1, .ref no1, .int (nI RL1.length)])), (po, .inl (cI, 8, .inl (upd pts nd (nI pn)))), (pa1, .inl (cI, 128, .inl f1)), (no1, .inl (cI, 128, .inl g1))]) := hD
  have hl : lv_has ls 6 [(3, .int (nI v)), (0, .ref h), (1, .int (nI nd)), (2, .int (nI pn))] := hl
  obtain ⟨hvp, hrg, hsp⟩ : v ≤ pn ∧ RG (fu mm nd v) RL1 ∧ SRP RL1 128 128 f1 g1 := hinv
  refine lv_iload_n hx hb dX2_enrol_9 rfl (lv_at hl 0 rfl) ?_
  refine lv_iload_n hx hb dX2_enrol_10 rfl (lv_at hl 3 rfl) ?_
  refine lv_icmp_ge (tgt := 138) hx hb dX2_enrol_11 (by decide) (fun c11 => ?_) (fun c11 => ?_)
  · have hve : v = pn := by
      rcases Nat.lt_or_ge v pn with q | q
      · exact absurd c11 (nI_ge q (by omega))
      · omega
    subst hve
    exact W.vret hx hb hr (fun t ht2 hW => ⟨⟨(RL1, pa1, no1, upd pts nd (nI v), f1, g1), rfl, ⟨hrg, fun n hn => upd_mm hr9.1 n hn, hsp⟩, ⟨by (try dsimp only); rw [ht2]; exact hP, by exact hD⟩⟩, hS.F ht2⟩) hS.2.2 dX2_enrol_138
  · have hv : v < pn := by
      rcases Nat.lt_or_ge v pn with q | q
      · exact q
      · exact absurd (nI_le q (by omega)) c11
    have hst := hrg.step h16 hnd (show v < 16 by omega)
    have h127 : RL1.length < 128 := by
      have q := hst.2.le (fun n hn => by unfold fu; split; omega; exact h16 n hn)
      rw [ins_len, if_neg hst.1] at q
      omega
    refine lv_ldc2 (v := 1000003) hx hb hown (ht _ kw1_140) dX2_enrol_14 ?_
    refine lv_iload_n hx hb dX2_enrol_17 rfl (lv_at hl 2 rfl) ?_
    refine lv_i2l (v := (nI nd : Int32).toInt64) hx hb dX2_enrol_18 rfl ?_
    refine lv_lmul hx hb dX2_enrol_19 ?_
    refine lv_iload_n hx hb dX2_enrol_20 rfl (lv_at hl 0 rfl) ?_
    refine lv_i2l (v := (nI v : Int32).toInt64) hx hb dX2_enrol_21 rfl ?_
    refine lv_ladd hx hb dX2_enrol_22 ?_
    refine lv_ldc2 (v := 1099511627776) hx hb hown (ht _ kw1_141) dX2_enrol_23 ?_
    refine lv_ladd hx hb dX2_enrol_26 ?_
    have hPc : va_P D vwCl [] H := va_P.nil
    have hDc : va_D A [] := va_D.nil
    have hFc := va_free (wc := []) hD hS hA [] rfl
    refine va_calli (va_runSN (As := [.long (((1000003 * ((nI nd : Int32).toInt64)) + ((nI v : Int32).toInt64)) + 1099511627776)]) (rest := []) ⟨hx, hb, hml, hown, ht⟩ (c_X4_placeOf l D cI cZ cS cJ H.size (((1000003 * ((nI nd : Int32).toInt64)) + ((nI v : Int32).toInt64)) + 1099511627776)) ⟨xwN 1 ht kw1_144 kw1_142 kw1_1 rfl rfl (by decide +kernel) ⟨Nat.le_of_ble_eq_true rfl, Nat.le_of_ble_eq_true rfl⟩, ht _ kw1_143, trivial⟩ ⟨PB.blind, fun U hU hW => PB.mk hU hW hPc hK hDc⟩ rfl rfl hl.1 rfl (lv_room (Nat.le_of_ble_eq_true rfl)) dX2_enrol_27 ⟨Nat.le_of_ble_eq_true rfl, Nat.le_of_ble_eq_true rfl⟩) hS (fun q _ h => hFc q h) hFc (fun r27 u27 t27 H1 locs ht1 hvm w27 hB hz1 hk1 hS => ?_)
    try dsimp only at w27 hB
    rw [ht1] at hB
    have hP := wk_ro (wc := []) hP hD [] rfl hk1 va_P.nil
    generalize H1 = H at hP hS ⊢
    have w27 := w27.symm
    subst w27
    refine lv_istore (lv' := [(4, .int (Pt nd v)), (3, .int (nI v)), (0, .ref h), (1, .int (nI nd)), (2, .int (nI pn))]) hx hb dX2_enrol_30 hl (by decide) rfl (fun ls hl => ?_)
    refine lv_aload_n hx hb dX2_enrol_32 rfl (lv_at hl 2 rfl) ?_
    refine va_get (D := D) (ci := 2) (v := .ref pa1) (C := RX2) (T := TX2) (N := 4) hx hb ht inX2 hown hK hP 0 rfl rfl 1 (by decide) (ht _ kw1_41) (fun _ h9 => h9) rfl dX2_enrol_33 ?_
    refine lv_aload_n hx hb dX2_enrol_36 rfl (lv_at hl 2 rfl) ?_
    refine va_get (D := D) (ci := 2) (v := .int (nI RL1.length)) (C := RX2) (T := TX2) (N := 4) hx hb ht inX2 hown hK hP 0 rfl rfl 3 (by decide) (ht _ kw1_43) (fun _ h9 => h9) rfl dX2_enrol_37 ?_
    refine lv_iload hx hb dX2_enrol_40 (lv_at hl 0 rfl) ?_
    have hPc := hP.sub (ws' := [(pa1, .inl (cI, 128, .inl f1))]) [2] rfl
    have hDc := hD.sub (ws' := [(pa1, .inl (cI, 128, .inl f1))]) [2] (by decide) rfl
    have hFc := va_free (wc := [(pa1, .inl (cI, 128, .inl f1))]) hD hS hA [2] rfl
    refine va_calli (va_runSN (As := [.ref pa1, .int (nI RL1.length), .int (Pt nd v)]) (rest := []) ⟨hx, hb, hml, hown, ht⟩ (c_X4_below l D cI cZ cS cJ H.size pa1 128 f1 RL1.length (Pt nd v) (by decide) hsp.1.1 (by have := hsp.1.1; omega) (hsp.as hrg.1)) ⟨xwN 3 ht kw1_148 kw1_146 kw1_1 rfl rfl (by decide +kernel) ⟨Nat.le_of_ble_eq_true rfl, Nat.le_of_ble_eq_true rfl⟩, ht _ kw1_147, trivial⟩ ⟨PB.blind, fun U hU hW => PB.mk hU hW hPc hK hDc⟩ rfl rfl hl.1 rfl (lv_room (Nat.le_of_ble_eq_true rfl)) dX2_enrol_42 ⟨Nat.le_of_ble_eq_true rfl, Nat.le_of_ble_eq_true rfl⟩) hS (fun q _ h => hFc q h) hFc (fun r42 u42 t42 H1 locs ht1 hvm w42 hB hz1 hk1 hS => ?_)
    try dsimp only at w42 hB
    rw [ht1] at hB
    have hP := wk_ro hP hD [2] rfl hk1 hB
    generalize H1 = H at hP hS ⊢
    obtain ⟨k42, ek, hbw⟩ := w42
    have hke := rk_of_BW (fun j hj => (hsp.2.2 j hj).1) hbw
    subst hke
    have ek := ek.symm
    subst ek
    have hrk := rk_le RL1 (Pt nd v)
    refine lv_istore (lv' := [(5, .int (nI (rk RL1 (Pt nd v)))), (4, .int (Pt nd v)), (3, .int (nI v)), (0, .ref h), (1, .int (nI nd)), (2, .int (nI pn))]) hx hb dX2_enrol_45 hl (by decide) rfl (fun ls hl => ?_)
    refine lv_iload hx hb dX2_enrol_47 (lv_at hl 0 rfl) ?_
    refine lv_aload_n hx hb dX2_enrol_49 rfl (lv_at hl 3 rfl) ?_
    refine va_get (D := D) (ci := 2) (v := .int (nI RL1.length)) (C := RX2) (T := TX2) (N := 4) hx hb ht inX2 hown hK hP 0 rfl rfl 3 (by decide) (ht _ kw1_43) (fun _ h9 => h9) rfl dX2_enrol_50 ?_
    refine lv_icmp_ge (tgt := 85) hx hb dX2_enrol_53 (by decide) (fun c53 => ?_) (fun c53 => ?_)
    · refine lv_aload_n hx hb dX2_enrol_85 rfl (lv_at hl 3 rfl) ?_
      refine lv_aload_n hx hb dX2_enrol_86 rfl (lv_at hl 3 rfl) ?_
      refine va_get (D := D) (ci := 2) (v := .ref pa1) (C := RX2) (T := TX2) (N := 4) hx hb ht inX2 hown hK hP 0 rfl rfl 1 (by decide) (ht _ kw1_41) (fun _ h9 => h9) rfl dX2_enrol_87 ?_
      refine lv_aload_n hx hb dX2_enrol_90 rfl (lv_at hl 3 rfl) ?_
      refine va_get (D := D) (ci := 2) (v := .int (nI RL1.length)) (C := RX2) (T := TX2) (N := 4) hx hb ht inX2 hown hK hP 0 rfl rfl 3 (by decide) (ht _ kw1_43) (fun _ h9 => h9) rfl dX2_enrol_91 ?_
      refine lv_iload hx hb dX2_enrol_94 (lv_at hl 0 rfl) ?_
      refine lv_iload hx hb dX2_enrol_96 (lv_at hl 1 rfl) ?_
      have hPc := hP.sub (ws' := [(pa1, .inl (cI, 128, .inl f1))]) [2] rfl
      have hDc := hD.sub (ws' := [(pa1, .inl (cI, 128, .inl f1))]) [2] (by decide) rfl
      have hFc := va_free (wc := [(pa1, .inl (cI, 128, .inl f1))]) hD hS hA [2] rfl
      refine va_callr (va_runSN (As := [.ref pa1, .int (nI RL1.length), .int (nI (rk RL1 (Pt nd v))), .int (Pt nd v)]) (rest := [.ref h]) ⟨hx, hb, hml, hown, ht⟩ (c_X4_inserted l D cI cZ cS cJ H.size pa1 128 f1 RL1.length (rk RL1 (Pt nd v)) (Pt nd v) (by decide) (by omega) hrk) ⟨xwN 4 ht kw1_159 kw1_157 kw1_1 rfl rfl (by decide +kernel) ⟨Nat.le_of_ble_eq_true rfl, Nat.le_of_ble_eq_true rfl⟩, ht _ kw1_158, trivial⟩ ⟨PB.blind, fun U hU hW => PB.mk hU hW hPc hK hDc⟩ rfl rfl hl.1 rfl (lv_room (Nat.le_of_ble_eq_true rfl)) dX2_enrol_98 ⟨by show 0 + (if RL1.length < 128 then 0 else 1) ≤ 0; rw [if_pos h127]; exact Nat.le_refl _, by show 0 + (if RL1.length < 128 then 0 else 2 * RL1.length + 1) ≤ 0; rw [if_pos h127]; exact Nat.le_refl _⟩) hS (fun q _ h => hFc q h) hFc (fun u98 ra98 t98 H1 locs ht1 hvm w98 hB hz1 hk1 hS => ?_)
      try dsimp only at w98 hB
      obtain ⟨u98a, u98b⟩ := u98
      obtain ⟨w98a, w98b⟩ := w98
      dsimp only at w98a w98b hB
      rw [if_pos h127] at w98a
      subst w98a
      obtain ⟨hP1, hD1⟩ := hB
      rw [ht1] at hP1
      obtain ⟨hP, hD⟩ := wk_join (w1 := [(ra98, .inl (cI, 128, .inl u98b))]) hP hD [2] rfl (by decide) rfl hk1 hFc hP1 hD1
      generalize H1 = H at hP hS ⊢
      have hP : va_P D vwCl ([(h, .inr (2, [.ref po, .ref pa1, .ref no1, .int (nI RL1.length)])), (po, .inl (cI, 8, .inl (upd pts nd (nI pn)))), (ra98, .inl (cI, 128, .inl u98b)), (no1, .inl (cI, 128, .inl g1))]) H := hP
      have hD : va_D A ([(h, .inr (2, [.ref po, .ref pa1, .ref no1, .int (nI RL1.length)])), (po, .inl (cI, 8, .inl (upd pts nd (nI pn)))), (ra98, .inl (cI, 128, .inl u98b)), (no1, .inl (cI, 128, .inl g1))]) := hD
      refine W.widen (k := 0) (n := 0) (by rw [if_pos h127]; exact Nat.le_refl _) (by rw [if_pos h127]; exact Nat.le_refl _) ?_
      refine va_put (D := D) (ci := 2) (v := .ref ra98) (ty := .array .int) (C := RX2) (T := TX2) (N := 4) hx hb ht inX2 tyX2 tyX2_ok nmX2 hown hK hP hD hS 0 rfl rfl 1 (by decide) (ht _ kw1_41) (fun _ h9 => h9) rfl (by decide +kernel) (rfl) rfl (Nat.le_of_ble_eq_true rfl) dX2_enrol_101 (fun H locs hP hD hS => ?_)
      have hP : va_P D vwCl ([(h, .inr (2, [.ref po, .ref ra98, .ref no1, .int (nI RL1.length)])), (po, .inl (cI, 8, .inl (upd pts nd (nI pn)))), (ra98, .inl (cI, 128, .inl u98b)), (no1, .inl (cI, 128, .inl g1))]) H := hP
      have hD : va_D A ([(h, .inr (2, [.ref po, .ref ra98, .ref no1, .int (nI RL1.length)])), (po, .inl (cI, 8, .inl (upd pts nd (nI pn)))), (ra98, .inl (cI, 128, .inl u98b)), (no1, .inl (cI, 128, .inl g1))]) := hD
      refine lv_aload_n hx hb dX2_enrol_104 rfl (lv_at hl 3 rfl) ?_
      refine lv_aload_n hx hb dX2_enrol_105 rfl (lv_at hl 3 rfl) ?_
      refine va_get (D := D) (ci := 2) (v := .ref no1) (C := RX2) (T := TX2) (N := 4) hx hb ht inX2 hown hK hP 0 rfl rfl 2 (by decide) (ht _ kw1_42) (fun _ h9 => h9) rfl dX2_enrol_106 ?_
      refine lv_aload_n hx hb dX2_enrol_109 rfl (lv_at hl 3 rfl) ?_
      refine va_get (D := D) (ci := 2) (v := .int (nI RL1.length)) (C := RX2) (T := TX2) (N := 4) hx hb ht inX2 hown hK hP 0 rfl rfl 3 (by decide) (ht _ kw1_43) (fun _ h9 => h9) rfl dX2_enrol_110 ?_
      refine lv_iload hx hb dX2_enrol_113 (lv_at hl 0 rfl) ?_
      refine lv_iload_n hx hb dX2_enrol_115 rfl (lv_at hl 4 rfl) ?_
      have hPc := hP.sub (ws' := [(no1, .inl (cI, 128, .inl g1))]) [3] rfl
      have hDc := hD.sub (ws' := [(no1, .inl (cI, 128, .inl g1))]) [3] (by decide) rfl
      have hFc := va_free (wc := [(no1, .inl (cI, 128, .inl g1))]) hD hS hA [3] rfl
      refine va_callr (va_runSN (As := [.ref no1, .int (nI RL1.length), .int (nI (rk RL1 (Pt nd v))), .int (nI nd)]) (rest := [.ref h]) ⟨hx, hb, hml, hown, ht⟩ (c_X4_inserted l D cI cZ cS cJ H.size no1 128 g1 RL1.length (rk RL1 (Pt nd v)) (nI nd) (by decide) (by omega) hrk) ⟨xwN 4 ht kw1_159 kw1_157 kw1_1 rfl rfl (by decide +kernel) ⟨Nat.le_of_ble_eq_true rfl, Nat.le_of_ble_eq_true rfl⟩, ht _ kw1_158, trivial⟩ ⟨PB.blind, fun U hU hW => PB.mk hU hW hPc hK hDc⟩ rfl rfl hl.1 rfl (lv_room (Nat.le_of_ble_eq_true rfl)) dX2_enrol_116 ⟨by show 0 + (if RL1.length < 128 then 0 else 1) ≤ 0; rw [if_pos h127]; exact Nat.le_refl _, by show 0 + (if RL1.length < 128 then 0 else 2 * RL1.length + 1) ≤ 0; rw [if_pos h127]; exact Nat.le_refl _⟩) hS (fun q _ h => hFc q h) hFc (fun u116 ra116 t116 H1 locs ht1 hvm w116 hB hz1 hk1 hS => ?_)
      try dsimp only at w116 hB
      obtain ⟨u116a, u116b⟩ := u116
      obtain ⟨w116a, w116b⟩ := w116
      dsimp only at w116a w116b hB
      rw [if_pos h127] at w116a
      subst w116a
      obtain ⟨hP1, hD1⟩ := hB
      rw [ht1] at hP1
      obtain ⟨hP, hD⟩ := wk_join (w1 := [(ra116, .inl (cI, 128, .inl u116b))]) hP hD [3] rfl (by decide) rfl hk1 hFc hP1 hD1
      generalize H1 = H at hP hS ⊢
      have hP : va_P D vwCl ([(h, .inr (2, [.ref po, .ref ra98, .ref no1, .int (nI RL1.length)])), (po, .inl (cI, 8, .inl (upd pts nd (nI pn)))), (ra98, .inl (cI, 128, .inl u98b)), (ra116, .inl (cI, 128, .inl u116b))]) H := hP
      have hD : va_D A ([(h, .inr (2, [.ref po, .ref ra98, .ref no1, .int (nI RL1.length)])), (po, .inl (cI, 8, .inl (upd pts nd (nI pn)))), (ra98, .inl (cI, 128, .inl u98b)), (ra116, .inl (cI, 128, .inl u116b))]) := hD
      refine W.widen (k := 0) (n := 0) (by rw [if_pos h127]; exact Nat.le_refl _) (by rw [if_pos h127]; exact Nat.le_refl _) ?_
      refine va_put (D := D) (ci := 2) (v := .ref ra116) (ty := .array .int) (C := RX2) (T := TX2) (N := 4) hx hb ht inX2 tyX2 tyX2_ok nmX2 hown hK hP hD hS 0 rfl rfl 2 (by decide) (ht _ kw1_42) (fun _ h9 => h9) rfl (by decide +kernel) (rfl) rfl (Nat.le_of_ble_eq_true rfl) dX2_enrol_119 (fun H locs hP hD hS => ?_)
      have hP : va_P D vwCl ([(h, .inr (2, [.ref po, .ref ra98, .ref ra116, .int (nI RL1.length)])), (po, .inl (cI, 8, .inl (upd pts nd (nI pn)))), (ra98, .inl (cI, 128, .inl u98b)), (ra116, .inl (cI, 128, .inl u116b))]) H := hP
      have hD : va_D A ([(h, .inr (2, [.ref po, .ref ra98, .ref ra116, .int (nI RL1.length)])), (po, .inl (cI, 8, .inl (upd pts nd (nI pn)))), (ra98, .inl (cI, 128, .inl u98b)), (ra116, .inl (cI, 128, .inl u116b))]) := hD
      refine lv_aload_n hx hb dX2_enrol_122 rfl (lv_at hl 3 rfl) ?_
      refine lv_dup hx hb dX2_enrol_123 rfl ?_
      refine va_get (D := D) (ci := 2) (v := .int (nI RL1.length)) (C := RX2) (T := TX2) (N := 4) hx hb ht inX2 hown hK hP 0 rfl rfl 3 (by decide) (ht _ kw1_43) (fun _ h9 => h9) rfl dX2_enrol_124 ?_
      refine lv_iconst (v := 1) hx hb dX2_enrol_127 (by decide) ?_
      refine lv_iadd hx hb dX2_enrol_128 ?_
      rw [show nI RL1.length + 1 = nI (ins RL1 (Pt nd v) (nI nd)).length by rw [ins_len, if_neg hst.1, nI_1]]
      refine va_put (D := D) (ci := 2) (v := .int (nI (ins RL1 (Pt nd v) (nI nd)).length)) (ty := .int) (C := RX2) (T := TX2) (N := 4) hx hb ht inX2 tyX2 tyX2_ok nmX2 hown hK hP hD hS 0 rfl rfl 3 (by decide) (ht _ kw1_43) (fun _ h9 => h9) rfl (by decide +kernel) (rfl) rfl (Nat.le_of_ble_eq_true rfl) dX2_enrol_129 (fun H locs hP hD hS => ?_)
      have hP : va_P D vwCl ([(h, .inr (2, [.ref po, .ref ra98, .ref ra116, .int (nI (ins RL1 (Pt nd v) (nI nd)).length)])), (po, .inl (cI, 8, .inl (upd pts nd (nI pn)))), (ra98, .inl (cI, 128, .inl u98b)), (ra116, .inl (cI, 128, .inl u116b))]) H := hP
      have hD : va_D A ([(h, .inr (2, [.ref po, .ref ra98, .ref ra116, .int (nI (ins RL1 (Pt nd v) (nI nd)).length)])), (po, .inl (cI, 8, .inl (upd pts nd (nI pn)))), (ra98, .inl (cI, 128, .inl u98b)), (ra116, .inl (cI, 128, .inl u116b))]) := hD
      refine lv_iinc (v := nI (v + 1)) (lv' := [(3, .int (nI (v + 1))), (5, .int (nI (rk RL1 (Pt nd v)))), (4, .int (Pt nd v)), (0, .ref h), (1, .int (nI nd)), (2, .int (nI pn))]) hx hb dX2_enrol_132 hl (k := 2) rfl (by exact nI_1 v) (by decide) rfl (fun ls hl => ?_)
      refine lv_goto (tgt := 9) hx hb dX2_enrol_135 (by decide) ?_
      exact ih9 (v + 1, ins RL1 (Pt nd v) (nI nd), ra98, ra116, u98b, u116b) _ _ _ _ ls (⟨lv_sub hl [0, 3, 4, 5] rfl, by exact hP, by exact hD, hS, rfl, rfl, ⟨by (dsimp only); omega, hst.2, hsp.ins_n hst.1 (by omega) (by rw [if_pos h127]) (by rw [if_pos h127]) w98b w116b⟩⟩) (by (show pn - (v + 1) < pn - v); omega)
    · have hlt : rk RL1 (Pt nd v) < RL1.length := by
        rcases Nat.lt_or_ge (rk RL1 (Pt nd v)) RL1.length with q | q
        · exact q
        · exact absurd (nI_le q (by omega)) c53
      refine lv_aload_n hx hb dX2_enrol_56 rfl (lv_at hl 3 rfl) ?_
      refine va_get (D := D) (ci := 2) (v := .ref pa1) (C := RX2) (T := TX2) (N := 4) hx hb ht inX2 hown hK hP 0 rfl rfl 1 (by decide) (ht _ kw1_41) (fun _ h9 => h9) rfl dX2_enrol_57 ?_
      refine lv_iload hx hb dX2_enrol_60 (lv_at hl 0 rfl) ?_
      refine ya_iald hx hb hK hP 2 0 rfl rfl (rk RL1 (Pt nd v)) (rfl) (by omega) (by decide) dX2_enrol_62 ?_
      refine lv_iload hx hb dX2_enrol_63 (lv_at hl 1 rfl) ?_
      refine lv_icmp_ne (tgt := 85) hx hb dX2_enrol_65 (by decide) (fun c65 => ?_) (fun c65 => absurd (by rw [← (hsp.2.2 _ hlt).1]; exact c65) (fun q => hst.1 (hs_iff.mpr ⟨hlt, q⟩)))
      refine lv_aload_n hx hb dX2_enrol_85 rfl (lv_at hl 3 rfl) ?_
      refine lv_aload_n hx hb dX2_enrol_86 rfl (lv_at hl 3 rfl) ?_
      refine va_get (D := D) (ci := 2) (v := .ref pa1) (C := RX2) (T := TX2) (N := 4) hx hb ht inX2 hown hK hP 0 rfl rfl 1 (by decide) (ht _ kw1_41) (fun _ h9 => h9) rfl dX2_enrol_87 ?_
      refine lv_aload_n hx hb dX2_enrol_90 rfl (lv_at hl 3 rfl) ?_
      refine va_get (D := D) (ci := 2) (v := .int (nI RL1.length)) (C := RX2) (T := TX2) (N := 4) hx hb ht inX2 hown hK hP 0 rfl rfl 3 (by decide) (ht _ kw1_43) (fun _ h9 => h9) rfl dX2_enrol_91 ?_
      refine lv_iload hx hb dX2_enrol_94 (lv_at hl 0 rfl) ?_
      refine lv_iload hx hb dX2_enrol_96 (lv_at hl 1 rfl) ?_
      have hPc := hP.sub (ws' := [(pa1, .inl (cI, 128, .inl f1))]) [2] rfl
      have hDc := hD.sub (ws' := [(pa1, .inl (cI, 128, .inl f1))]) [2] (by decide) rfl
      have hFc := va_free (wc := [(pa1, .inl (cI, 128, .inl f1))]) hD hS hA [2] rfl
      refine va_callr (va_runSN (As := [.ref pa1, .int (nI RL1.length), .int (nI (rk RL1 (Pt nd v))), .int (Pt nd v)]) (rest := [.ref h]) ⟨hx, hb, hml, hown, ht⟩ (c_X4_inserted l D cI cZ cS cJ H.size pa1 128 f1 RL1.length (rk RL1 (Pt nd v)) (Pt nd v) (by decide) (by omega) hrk) ⟨xwN 4 ht kw1_159 kw1_157 kw1_1 rfl rfl (by decide +kernel) ⟨Nat.le_of_ble_eq_true rfl, Nat.le_of_ble_eq_true rfl⟩, ht _ kw1_158, trivial⟩ ⟨PB.blind, fun U hU hW => PB.mk hU hW hPc hK hDc⟩ rfl rfl hl.1 rfl (lv_room (Nat.le_of_ble_eq_true rfl)) dX2_enrol_98 ⟨by show 0 + (if RL1.length < 128 then 0 else 1) ≤ 0; rw [if_pos h127]; exact Nat.le_refl _, by show 0 + (if RL1.length < 128 then 0 else 2 * RL1.length + 1) ≤ 0; rw [if_pos h127]; exact Nat.le_refl _⟩) hS (fun q _ h => hFc q h) hFc (fun u98 ra98 t98 H1 locs ht1 hvm w98 hB hz1 hk1 hS => ?_)
      try dsimp only at w98 hB
      obtain ⟨u98a, u98b⟩ := u98
      obtain ⟨w98a, w98b⟩ := w98
      dsimp only at w98a w98b hB
      rw [if_pos h127] at w98a
      subst w98a
      obtain ⟨hP1, hD1⟩ := hB
      rw [ht1] at hP1
      obtain ⟨hP, hD⟩ := wk_join (w1 := [(ra98, .inl (cI, 128, .inl u98b))]) hP hD [2] rfl (by decide) rfl hk1 hFc hP1 hD1
      generalize H1 = H at hP hS ⊢
      have hP : va_P D vwCl ([(h, .inr (2, [.ref po, .ref pa1, .ref no1, .int (nI RL1.length)])), (po, .inl (cI, 8, .inl (upd pts nd (nI pn)))), (ra98, .inl (cI, 128, .inl u98b)), (no1, .inl (cI, 128, .inl g1))]) H := hP
      have hD : va_D A ([(h, .inr (2, [.ref po, .ref pa1, .ref no1, .int (nI RL1.length)])), (po, .inl (cI, 8, .inl (upd pts nd (nI pn)))), (ra98, .inl (cI, 128, .inl u98b)), (no1, .inl (cI, 128, .inl g1))]) := hD
      refine W.widen (k := 0) (n := 0) (by rw [if_pos h127]; exact Nat.le_refl _) (by rw [if_pos h127]; exact Nat.le_refl _) ?_
      refine va_put (D := D) (ci := 2) (v := .ref ra98) (ty := .array .int) (C := RX2) (T := TX2) (N := 4) hx hb ht inX2 tyX2 tyX2_ok nmX2 hown hK hP hD hS 0 rfl rfl 1 (by decide) (ht _ kw1_41) (fun _ h9 => h9) rfl (by decide +kernel) (rfl) rfl (Nat.le_of_ble_eq_true rfl) dX2_enrol_101 (fun H locs hP hD hS => ?_)
      have hP : va_P D vwCl ([(h, .inr (2, [.ref po, .ref ra98, .ref no1, .int (nI RL1.length)])), (po, .inl (cI, 8, .inl (upd pts nd (nI pn)))), (ra98, .inl (cI, 128, .inl u98b)), (no1, .inl (cI, 128, .inl g1))]) H := hP
      have hD : va_D A ([(h, .inr (2, [.ref po, .ref ra98, .ref no1, .int (nI RL1.length)])), (po, .inl (cI, 8, .inl (upd pts nd (nI pn)))), (ra98, .inl (cI, 128, .inl u98b)), (no1, .inl (cI, 128, .inl g1))]) := hD
      refine lv_aload_n hx hb dX2_enrol_104 rfl (lv_at hl 3 rfl) ?_
      refine lv_aload_n hx hb dX2_enrol_105 rfl (lv_at hl 3 rfl) ?_
      refine va_get (D := D) (ci := 2) (v := .ref no1) (C := RX2) (T := TX2) (N := 4) hx hb ht inX2 hown hK hP 0 rfl rfl 2 (by decide) (ht _ kw1_42) (fun _ h9 => h9) rfl dX2_enrol_106 ?_
      refine lv_aload_n hx hb dX2_enrol_109 rfl (lv_at hl 3 rfl) ?_
      refine va_get (D := D) (ci := 2) (v := .int (nI RL1.length)) (C := RX2) (T := TX2) (N := 4) hx hb ht inX2 hown hK hP 0 rfl rfl 3 (by decide) (ht _ kw1_43) (fun _ h9 => h9) rfl dX2_enrol_110 ?_
      refine lv_iload hx hb dX2_enrol_113 (lv_at hl 0 rfl) ?_
      refine lv_iload_n hx hb dX2_enrol_115 rfl (lv_at hl 4 rfl) ?_
      have hPc := hP.sub (ws' := [(no1, .inl (cI, 128, .inl g1))]) [3] rfl
      have hDc := hD.sub (ws' := [(no1, .inl (cI, 128, .inl g1))]) [3] (by decide) rfl
      have hFc := va_free (wc := [(no1, .inl (cI, 128, .inl g1))]) hD hS hA [3] rfl
      refine va_callr (va_runSN (As := [.ref no1, .int (nI RL1.length), .int (nI (rk RL1 (Pt nd v))), .int (nI nd)]) (rest := [.ref h]) ⟨hx, hb, hml, hown, ht⟩ (c_X4_inserted l D cI cZ cS cJ H.size no1 128 g1 RL1.length (rk RL1 (Pt nd v)) (nI nd) (by decide) (by omega) hrk) ⟨xwN 4 ht kw1_159 kw1_157 kw1_1 rfl rfl (by decide +kernel) ⟨Nat.le_of_ble_eq_true rfl, Nat.le_of_ble_eq_true rfl⟩, ht _ kw1_158, trivial⟩ ⟨PB.blind, fun U hU hW => PB.mk hU hW hPc hK hDc⟩ rfl rfl hl.1 rfl (lv_room (Nat.le_of_ble_eq_true rfl)) dX2_enrol_116 ⟨by show 0 + (if RL1.length < 128 then 0 else 1) ≤ 0; rw [if_pos h127]; exact Nat.le_refl _, by show 0 + (if RL1.length < 128 then 0 else 2 * RL1.length + 1) ≤ 0; rw [if_pos h127]; exact Nat.le_refl _⟩) hS (fun q _ h => hFc q h) hFc (fun u116 ra116 t116 H1 locs ht1 hvm w116 hB hz1 hk1 hS => ?_)
      try dsimp only at w116 hB
      obtain ⟨u116a, u116b⟩ := u116
      obtain ⟨w116a, w116b⟩ := w116
      dsimp only at w116a w116b hB
      rw [if_pos h127] at w116a
      subst w116a
      obtain ⟨hP1, hD1⟩ := hB
      rw [ht1] at hP1
      obtain ⟨hP, hD⟩ := wk_join (w1 := [(ra116, .inl (cI, 128, .inl u116b))]) hP hD [3] rfl (by decide) rfl hk1 hFc hP1 hD1
      generalize H1 = H at hP hS ⊢
      have hP : va_P D vwCl ([(h, .inr (2, [.ref po, .ref ra98, .ref no1, .int (nI RL1.length)])), (po, .inl (cI, 8, .inl (upd pts nd (nI pn)))), (ra98, .inl (cI, 128, .inl u98b)), (ra116, .inl (cI, 128, .inl u116b))]) H := hP
      have hD : va_D A ([(h, .inr (2, [.ref po, .ref ra98, .ref no1, .int (nI RL1.length)])), (po, .inl (cI, 8, .inl (upd pts nd (nI pn)))), (ra98, .inl (cI, 128, .inl u98b)), (ra116, .inl (cI, 128, .inl u116b))]) := hD
      refine W.widen (k := 0) (n := 0) (by rw [if_pos h127]; exact Nat.le_refl _) (by rw [if_pos h127]; exact Nat.le_refl _) ?_
      refine va_put (D := D) (ci := 2) (v := .ref ra116) (ty := .array .int) (C := RX2) (T := TX2) (N := 4) hx hb ht inX2 tyX2 tyX2_ok nmX2 hown hK hP hD hS 0 rfl rfl 2 (by decide) (ht _ kw1_42) (fun _ h9 => h9) rfl (by decide +kernel) (rfl) rfl (Nat.le_of_ble_eq_true rfl) dX2_enrol_119 (fun H locs hP hD hS => ?_)
      have hP : va_P D vwCl ([(h, .inr (2, [.ref po, .ref ra98, .ref ra116, .int (nI RL1.length)])), (po, .inl (cI, 8, .inl (upd pts nd (nI pn)))), (ra98, .inl (cI, 128, .inl u98b)), (ra116, .inl (cI, 128, .inl u116b))]) H := hP
      have hD : va_D A ([(h, .inr (2, [.ref po, .ref ra98, .ref ra116, .int (nI RL1.length)])), (po, .inl (cI, 8, .inl (upd pts nd (nI pn)))), (ra98, .inl (cI, 128, .inl u98b)), (ra116, .inl (cI, 128, .inl u116b))]) := hD
      refine lv_aload_n hx hb dX2_enrol_122 rfl (lv_at hl 3 rfl) ?_
      refine lv_dup hx hb dX2_enrol_123 rfl ?_
      refine va_get (D := D) (ci := 2) (v := .int (nI RL1.length)) (C := RX2) (T := TX2) (N := 4) hx hb ht inX2 hown hK hP 0 rfl rfl 3 (by decide) (ht _ kw1_43) (fun _ h9 => h9) rfl dX2_enrol_124 ?_
      refine lv_iconst (v := 1) hx hb dX2_enrol_127 (by decide) ?_
      refine lv_iadd hx hb dX2_enrol_128 ?_
      rw [show nI RL1.length + 1 = nI (ins RL1 (Pt nd v) (nI nd)).length by rw [ins_len, if_neg hst.1, nI_1]]
      refine va_put (D := D) (ci := 2) (v := .int (nI (ins RL1 (Pt nd v) (nI nd)).length)) (ty := .int) (C := RX2) (T := TX2) (N := 4) hx hb ht inX2 tyX2 tyX2_ok nmX2 hown hK hP hD hS 0 rfl rfl 3 (by decide) (ht _ kw1_43) (fun _ h9 => h9) rfl (by decide +kernel) (rfl) rfl (Nat.le_of_ble_eq_true rfl) dX2_enrol_129 (fun H locs hP hD hS => ?_)
      have hP : va_P D vwCl ([(h, .inr (2, [.ref po, .ref ra98, .ref ra116, .int (nI (ins RL1 (Pt nd v) (nI nd)).length)])), (po, .inl (cI, 8, .inl (upd pts nd (nI pn)))), (ra98, .inl (cI, 128, .inl u98b)), (ra116, .inl (cI, 128, .inl u116b))]) H := hP
      have hD : va_D A ([(h, .inr (2, [.ref po, .ref ra98, .ref ra116, .int (nI (ins RL1 (Pt nd v) (nI nd)).length)])), (po, .inl (cI, 8, .inl (upd pts nd (nI pn)))), (ra98, .inl (cI, 128, .inl u98b)), (ra116, .inl (cI, 128, .inl u116b))]) := hD
      refine lv_iinc (v := nI (v + 1)) (lv' := [(3, .int (nI (v + 1))), (5, .int (nI (rk RL1 (Pt nd v)))), (4, .int (Pt nd v)), (0, .ref h), (1, .int (nI nd)), (2, .int (nI pn))]) hx hb dX2_enrol_132 hl (k := 2) rfl (by exact nI_1 v) (by decide) rfl (fun ls hl => ?_)
      refine lv_goto (tgt := 9) hx hb dX2_enrol_135 (by decide) ?_
      exact ih9 (v + 1, ins RL1 (Pt nd v) (nI nd), ra98, ra116, u98b, u116b) _ _ _ _ ls (⟨lv_sub hl [0, 3, 4, 5] rfl, by exact hP, by exact hD, hS, rfl, rfl, ⟨by (dsimp only); omega, hst.2, hsp.ins_n hst.1 (by omega) (by rw [if_pos h127]) (by rw [if_pos h127]) w98b w116b⟩⟩) (by (show pn - (v + 1) < pn - v); omega)

set_option maxHeartbeats 4000000 in
set_option maxRecDepth 100000 in
theorem c_X2_dismiss (l : Launch) (D : va_G) (cI cZ cS cJ : ClassId) (sz : Nat) (h po pa no : Nat) (pts f g : Nat → Int32) (mm : Nat → Nat) (RL : List (Int32 × Int32)) (hr9 : RRP mm RL pts f g) (hg9 : RG mm RL) (h16 : ∀ n, n < 8 → mm n ≤ 16) (nd : Nat) (hnd : nd < 8) : Met l yX2_dismiss (Cond.code yX2_dismiss cX2_dismiss 4 none :: TB) ({ frames := 0, cells := 0, slots := 0, locals := 0 } : Room) (va_Pc [.ref h, .int (nI nd)] (PB D (KT cI cZ cS cJ) ([(h, .inr (2, [.ref po, .ref pa, .ref no, .int (nI RL.length)])), (po, .inl (cI, 8, .inl pts)), (pa, .inl (cI, 128, .inl f)), (no, .inl (cI, 128, .inl g))]) sz)) (va_Qv (fun (u : List (Int32 × Int32) × Nat × Nat × (Nat → Int32) × (Nat → Int32) × (Nat → Int32)) => RG (fu mm nd 0) u.1 ∧ RRP (fu mm nd 0) u.1 u.2.2.2.1 u.2.2.2.2.1 u.2.2.2.2.2) (fun (u : List (Int32 × Int32) × Nat × Nat × (Nat → Int32) × (Nat → Int32) × (Nat → Int32)) t => va_P D vwCl [(h, .inr (2, [.ref po, .ref u.2.1, .ref u.2.2.1, .int (nI u.1.length)])), (po, .inl (cI, 8, .inl u.2.2.2.1)), (u.2.1, .inl (cI, 128, .inl u.2.2.2.2.1)), (u.2.2.1, .inl (cI, 128, .inl u.2.2.2.2.2))] t.heap ∧ va_D (va_A [(h, .inr (2, [.ref po, .ref pa, .ref no, .int (nI RL.length)])), (po, .inl (cI, 8, .inl pts)), (pa, .inl (cI, 128, .inl f)), (no, .inl (cI, 128, .inl g))] sz) [(h, .inr (2, [.ref po, .ref u.2.1, .ref u.2.2.1, .int (nI u.1.length)])), (po, .inl (cI, 8, .inl u.2.2.2.1)), (u.2.1, .inl (cI, 128, .inl u.2.2.2.2.1)), (u.2.2.1, .inl (cI, 128, .inl u.2.2.2.2.2))]) (va_A ([(h, .inr (2, [.ref po, .ref pa, .ref no, .int (nI RL.length)])), (po, .inl (cI, 8, .inl pts)), (pa, .inl (cI, 128, .inl f)), (no, .inl (cI, 128, .inl g))]) sz)) 0 0 (va_A ([(h, .inr (2, [.ref po, .ref pa, .ref no, .int (nI RL.length)])), (po, .inl (cI, 8, .inl pts)), (pa, .inl (cI, 128, .inl f)), (no, .inl (cI, 128, .inl g))]) sz) := by
  refine Met.ofW (cc := cX2_dismiss) (maxL := 4) (ret := none) (by decide) rfl ?_
  intro p e s m args below meth c s₁ B hml hv
  obtain ⟨rfl, hsz, hP, hK, hD0⟩ := hv
  have hx := B.exec
  have hb := B.bytes
  have hr := B.returns
  have hts := atoms_spec (ws := (Cond.code yX2_dismiss cX2_dismiss 4 none :: TB)) B.pre
  have ht : ∀ w ∈ TB, w.before _ s = true := fun w h => hts w (List.mem_cons_of_mem _ h)
  have hown : s.vm.findClass RX2 = some m.cls := findClass_of_methodNamed B.named
  have hlocks := B.notSynchronized
  subst hsz
  have hD := hD0.self (sz := s.heap.size)
  generalize hAe : va_A ([(h, .inr (2, [.ref po, .ref pa, .ref no, .int (nI RL.length)])), (po, .inl (cI, 8, .inl pts)), (pa, .inl (cI, 128, .inl f)), (no, .inl (cI, 128, .inl g))]) s.heap.size = A at hD ⊢
  have hA : ∀ q : Nat, s.heap.size ≤ q → A q := fun q h => by rw [← hAe]; exact Or.inr h
  have hS : va_S A s.heap s.heap [] := va_S.rf
  have hP : va_P D vwCl ([(h, .inr (2, [.ref po, .ref pa, .ref no, .int (nI RL.length)])), (po, .inl (cI, 8, .inl pts)), (pa, .inl (cI, 128, .inl f)), (no, .inl (cI, 128, .inl g))]) s.heap := hP
  have hl := lv_entry ([.ref h, .int (nI nd)]) (n := 4) (Nat.le_of_ble_eq_true rfl)
  rw [lg_entry_eq]
  generalize (lg_sl ([.ref h, .int (nI nd)]) ++ List.replicate (4 - (lg_sl ([.ref h, .int (nI nd)])).length) Slot.unset).toArray = ls at hl ⊢
  have hl : lv_has ls 4 [(0, .ref h), (1, .int (nI nd))] := hl
  refine lv_aload_n hx hb dX2_dismiss_0 rfl (lv_at hl 0 rfl) ?_
  refine va_get (D := D) (ci := 2) (v := .ref po) (C := RX2) (T := TX2) (N := 4) hx hb ht inX2 hown hK hP 0 rfl rfl 0 (by decide) (ht _ kw1_39) (fun _ h9 => h9) rfl dX2_dismiss_1 ?_
  refine lv_iload_n hx hb dX2_dismiss_4 rfl (lv_at hl 1 rfl) ?_
  refine lv_iconst (v := 0) hx hb dX2_dismiss_5 (by decide) ?_
  refine ya_iast hx hb hK hP hD hS 1 0 rfl rfl nd (rfl) (hnd) (by decide) dX2_dismiss_6 (fun H locs hP hD hS => ?_)
  have hP : va_P D vwCl ([(h, .inr (2, [.ref po, .ref pa, .ref no, .int (nI RL.length)])), (po, .inl (cI, 8, .inl (upd pts nd 0))), (pa, .inl (cI, 128, .inl f)), (no, .inl (cI, 128, .inl g))]) H := hP
  have hD : va_D A ([(h, .inr (2, [.ref po, .ref pa, .ref no, .int (nI RL.length)])), (po, .inl (cI, 8, .inl (upd pts nd 0))), (pa, .inl (cI, 128, .inl f)), (no, .inl (cI, 128, .inl g))]) := hD
  refine lv_iconst (v := 0) hx hb dX2_dismiss_7 (by decide) ?_
  refine lv_istore_n (lv' := [(2, .int 0), (0, .ref h), (1, .int (nI nd))]) hx hb dX2_dismiss_8 rfl hl (by decide) rfl (fun ls hl => ?_)
  refine lv_iconst (v := 0) hx hb dX2_dismiss_9 (by decide) ?_
  refine lv_istore_n (lv' := [(3, .int 0), (2, .int 0), (0, .ref h), (1, .int (nI nd))]) hx hb dX2_dismiss_10 rfl hl (by decide) rfl (fun ls hl => ?_)
  refine lpB (pc := 11) (ι := Nat × (Nat → Int32) × (Nat → Int32)) (fun z H locs k9 n9 ls => lv_has ls 4 [(3, .int (nI z.1)), (2, .int (nI (FL RL nd z.1).length)), (0, .ref h), (1, .int (nI nd))] ∧ va_P D vwCl ([(h, .inr (2, [.ref po, .ref pa, .ref no, .int (nI RL.length)])), (po, .inl (cI, 8, .inl (upd pts nd 0))), (pa, .inl (cI, 128, .inl z.2.1)), (no, .inl (cI, 128, .inl z.2.2))]) H ∧ va_D A ([(h, .inr (2, [.ref po, .ref pa, .ref no, .int (nI RL.length)])), (po, .inl (cI, 8, .inl (upd pts nd 0))), (pa, .inl (cI, 128, .inl z.2.1)), (no, .inl (cI, 128, .inl z.2.2))]) ∧ va_S A s.heap H locs ∧ k9 = 0 ∧ n9 = 0 ∧ z.1 ≤ RL.length ∧ DI RL nd z.1 z.2.1 z.2.2) (fun z => RL.length - z.1) (0, f, g) (⟨lv_sub hl [0, 1, 2, 3] rfl, by exact hP, by exact hD, hS, rfl, rfl, ⟨Nat.zero_le _, fun k hk => absurd hk (Nat.not_lt_zero _), fun k _ hk => hr9.2.2.2 k hk⟩⟩) ?_
  intro z H locs k9 n9 ls hI ih11
  obtain ⟨i, f1, g1⟩ := z
  obtain ⟨hl, hP, hD, hS, e9, e8, hinv⟩ := hI
  subst e9
  subst e8
  have hP : va_P D vwCl ([(h, .inr (2, [.ref po, .ref pa, .ref no, .int (nI RL.length)])), (po, .inl (cI, 8, .inl (upd pts nd 0))), (pa, .inl (cI, 128, .inl f1)), (no, .inl (cI, 128, .inl g1))]) H := hP
  have hD : va_D A ([(h, .inr (2, [.ref po, .ref pa, .ref no, .int (nI RL.length)])), (po, .inl (cI, 8, .inl (upd pts nd 0))), (pa, .inl (cI, 128, .inl f1)), (no, .inl (cI, 128, .inl g1))]) := hD
  have hl : lv_has ls 4 [(3, .int (nI i)), (2, .int (nI (FL RL nd i).length)), (0, .ref h), (1, .int (nI nd))] := hl
  obtain ⟨hil, hdi⟩ : i ≤ RL.length ∧ DI RL nd i f1 g1 := hinv
  have hlen := hr9.2.1.1
  have hfl := FL_le RL nd i
  refine lv_iload_n hx hb dX2_dismiss_11 rfl (lv_at hl 0 rfl) ?_
  refine lv_aload_n hx hb dX2_dismiss_12 rfl (lv_at hl 2 rfl) ?_
  refine va_get (D := D) (ci := 2) (v := .int (nI RL.length)) (C := RX2) (T := TX2) (N := 4) hx hb ht inX2 hown hK hP 0 rfl rfl 3 (by decide) (ht _ kw1_43) (fun _ h9 => h9) rfl dX2_dismiss_13 ?_
  refine lv_icmp_ge (tgt := 62) hx hb dX2_dismiss_16 (by decide) (fun c16 => ?_) (fun c16 => ?_)
  · have hie : i = RL.length := by
      rcases Nat.lt_or_ge i RL.length with q | q
      · exact absurd c16 (nI_ge q (by omega))
      · omega
    subst hie
    refine lv_aload_n hx hb dX2_dismiss_62 rfl (lv_at hl 2 rfl) ?_
    refine lv_iload_n hx hb dX2_dismiss_63 rfl (lv_at hl 1 rfl) ?_
    refine va_put (D := D) (ci := 2) (v := .int (nI (FL RL nd RL.length).length)) (ty := .int) (C := RX2) (T := TX2) (N := 4) hx hb ht inX2 tyX2 tyX2_ok nmX2 hown hK hP hD hS 0 rfl rfl 3 (by decide) (ht _ kw1_43) (fun _ h9 => h9) rfl (by decide +kernel) (rfl) rfl (Nat.le_of_ble_eq_true rfl) dX2_dismiss_64 (fun H locs hP hD hS => ?_)
    have hP : va_P D vwCl ([(h, .inr (2, [.ref po, .ref pa, .ref no, .int (nI (FL RL nd RL.length).length)])), (po, .inl (cI, 8, .inl (upd pts nd 0))), (pa, .inl (cI, 128, .inl f1)), (no, .inl (cI, 128, .inl g1))]) H := hP
    have hD : va_D A ([(h, .inr (2, [.ref po, .ref pa, .ref no, .int (nI (FL RL nd RL.length).length)])), (po, .inl (cI, 8, .inl (upd pts nd 0))), (pa, .inl (cI, 128, .inl f1)), (no, .inl (cI, 128, .inl g1))]) := hD
    exact W.vret hx hb hr (fun t ht2 hW => ⟨⟨(FL RL nd RL.length, pa, no, upd pts nd 0, f1, g1), rfl, by
          (try dsimp only)
          have e1 : FL RL nd RL.length = RL.filter (fun e => !decide (e.2 = nI nd)) := by unfold FL; rw [List.take_length]
          refine ⟨by rw [e1]; exact hg9.drop hnd, fun n hn => upd_mm (pn := 0) hr9.1 n hn, ⟨by have := FL_le RL nd RL.length; omega, by decide⟩, ⟨by have := FL_le RL nd RL.length; omega, by decide⟩, hdi.1⟩, ⟨by (try dsimp only); rw [ht2]; exact hP, by exact hD⟩⟩, hS.F ht2⟩) hS.2.2 dX2_dismiss_67
  · have hi : i < RL.length := by
      rcases Nat.lt_or_ge i RL.length with q | q
      · exact q
      · exact absurd (nI_le q (by omega)) c16
    have hgi := (hdi.2 i (Nat.le_refl _) hi).2
    refine lv_aload_n hx hb dX2_dismiss_19 rfl (lv_at hl 2 rfl) ?_
    refine va_get (D := D) (ci := 2) (v := .ref no) (C := RX2) (T := TX2) (N := 4) hx hb ht inX2 hown hK hP 0 rfl rfl 2 (by decide) (ht _ kw1_42) (fun _ h9 => h9) rfl dX2_dismiss_20 ?_
    refine lv_iload_n hx hb dX2_dismiss_23 rfl (lv_at hl 0 rfl) ?_
    refine ya_iald hx hb hK hP 3 0 rfl rfl i (rfl) (by omega) (by decide) dX2_dismiss_24 ?_
    refine lv_iload_n hx hb dX2_dismiss_25 rfl (lv_at hl 3 rfl) ?_
    refine lv_icmp_eq (tgt := 56) hx hb dX2_dismiss_26 (by decide) (fun c26 => ?_) (fun c26 => ?_)
    · have hv : vx RL i = nI nd := by rw [← hgi]; exact c26
      refine lv_iinc (v := nI (i + 1)) (lv' := [(3, .int (nI (i + 1))), (2, .int (nI (FL RL nd i).length)), (0, .ref h), (1, .int (nI nd))]) hx hb dX2_dismiss_56 hl (k := 0) rfl (by exact nI_1 i) (by decide) rfl (fun ls hl => ?_)
      refine lv_goto (tgt := 11) hx hb dX2_dismiss_59 (by decide) ?_
      rw [← FL_n hi hv] at hl
      exact ih11 (i + 1, f1, g1) _ _ _ _ ls (⟨lv_sub hl [0, 1, 2, 3] rfl, by exact hP, by exact hD, hS, rfl, rfl, ⟨by (dsimp only); omega, hdi.n hi hv⟩⟩) (by (show RL.length - (i + 1) < RL.length - i); omega)
    · have hv : ¬ vx RL i = nI nd := fun q => c26 (by rw [hgi]; exact q)
      refine lv_aload_n hx hb dX2_dismiss_29 rfl (lv_at hl 2 rfl) ?_
      refine va_get (D := D) (ci := 2) (v := .ref pa) (C := RX2) (T := TX2) (N := 4) hx hb ht inX2 hown hK hP 0 rfl rfl 1 (by decide) (ht _ kw1_41) (fun _ h9 => h9) rfl dX2_dismiss_30 ?_
      refine lv_iload_n hx hb dX2_dismiss_33 rfl (lv_at hl 1 rfl) ?_
      refine lv_aload_n hx hb dX2_dismiss_34 rfl (lv_at hl 2 rfl) ?_
      refine va_get (D := D) (ci := 2) (v := .ref pa) (C := RX2) (T := TX2) (N := 4) hx hb ht inX2 hown hK hP 0 rfl rfl 1 (by decide) (ht _ kw1_41) (fun _ h9 => h9) rfl dX2_dismiss_35 ?_
      refine lv_iload_n hx hb dX2_dismiss_38 rfl (lv_at hl 0 rfl) ?_
      refine ya_iald hx hb hK hP 2 0 rfl rfl i (rfl) (by omega) (by decide) dX2_dismiss_39 ?_
      refine ya_iast hx hb hK hP hD hS 2 0 rfl rfl ((FL RL nd i).length) (rfl) (by omega) (by decide) dX2_dismiss_40 (fun H locs hP hD hS => ?_)
      have hP : va_P D vwCl ([(h, .inr (2, [.ref po, .ref pa, .ref no, .int (nI RL.length)])), (po, .inl (cI, 8, .inl (upd pts nd 0))), (pa, .inl (cI, 128, .inl (upd f1 ((FL RL nd i).length) (f1 i)))), (no, .inl (cI, 128, .inl g1))]) H := hP
      have hD : va_D A ([(h, .inr (2, [.ref po, .ref pa, .ref no, .int (nI RL.length)])), (po, .inl (cI, 8, .inl (upd pts nd 0))), (pa, .inl (cI, 128, .inl (upd f1 ((FL RL nd i).length) (f1 i)))), (no, .inl (cI, 128, .inl g1))]) := hD
      refine lv_aload_n hx hb dX2_dismiss_41 rfl (lv_at hl 2 rfl) ?_
      refine va_get (D := D) (ci := 2) (v := .ref no) (C := RX2) (T := TX2) (N := 4) hx hb ht inX2 hown hK hP 0 rfl rfl 2 (by decide) (ht _ kw1_42) (fun _ h9 => h9) rfl dX2_dismiss_42 ?_
      refine lv_iload_n hx hb dX2_dismiss_45 rfl (lv_at hl 1 rfl) ?_
      refine lv_aload_n hx hb dX2_dismiss_46 rfl (lv_at hl 2 rfl) ?_
      refine va_get (D := D) (ci := 2) (v := .ref no) (C := RX2) (T := TX2) (N := 4) hx hb ht inX2 hown hK hP 0 rfl rfl 2 (by decide) (ht _ kw1_42) (fun _ h9 => h9) rfl dX2_dismiss_47 ?_
      refine lv_iload_n hx hb dX2_dismiss_50 rfl (lv_at hl 0 rfl) ?_
      refine ya_iald hx hb hK hP 3 0 rfl rfl i (rfl) (by omega) (by decide) dX2_dismiss_51 ?_
      refine ya_iast hx hb hK hP hD hS 3 0 rfl rfl ((FL RL nd i).length) (rfl) (by omega) (by decide) dX2_dismiss_52 (fun H locs hP hD hS => ?_)
      have hP : va_P D vwCl ([(h, .inr (2, [.ref po, .ref pa, .ref no, .int (nI RL.length)])), (po, .inl (cI, 8, .inl (upd pts nd 0))), (pa, .inl (cI, 128, .inl (upd f1 ((FL RL nd i).length) (f1 i)))), (no, .inl (cI, 128, .inl (upd g1 ((FL RL nd i).length) (g1 i))))]) H := hP
      have hD : va_D A ([(h, .inr (2, [.ref po, .ref pa, .ref no, .int (nI RL.length)])), (po, .inl (cI, 8, .inl (upd pts nd 0))), (pa, .inl (cI, 128, .inl (upd f1 ((FL RL nd i).length) (f1 i)))), (no, .inl (cI, 128, .inl (upd g1 ((FL RL nd i).length) (g1 i))))]) := hD
      refine lv_iinc (v := nI (FL RL nd (i + 1)).length) (lv' := [(2, .int (nI (FL RL nd (i + 1)).length)), (3, .int (nI i)), (0, .ref h), (1, .int (nI nd))]) hx hb dX2_dismiss_53 hl (k := 1) rfl (by rw [FL_y hi hv, List.length_append]; exact nI_1 _) (by decide) rfl (fun ls hl => ?_)
      refine lv_iinc (v := nI (i + 1)) (lv' := [(3, .int (nI (i + 1))), (2, .int (nI (FL RL nd (i + 1)).length)), (0, .ref h), (1, .int (nI nd))]) hx hb dX2_dismiss_56 hl (k := 1) rfl (by exact nI_1 i) (by decide) rfl (fun ls hl => ?_)
      refine lv_goto (tgt := 11) hx hb dX2_dismiss_59 (by decide) ?_
      exact ih11 (i + 1, upd f1 ((FL RL nd i).length) (f1 i), upd g1 ((FL RL nd i).length) (g1 i)) _ _ _ _ ls (⟨lv_sub hl [0, 1, 2, 3] rfl, by exact hP, by exact hD, hS, rfl, rfl, ⟨by (dsimp only); omega, hdi.y hi hv⟩⟩) (by (show RL.length - (i + 1) < RL.length - i); omega)

set_option maxHeartbeats 4000000 in
set_option maxRecDepth 100000 in
theorem c_X2_placesOf (l : Launch) (D : va_G) (cI cZ cS cJ : ClassId) (sz : Nat) (h po pa no : Nat) (pts f g : Nat → Int32) (mm : Nat → Nat) (RL : List (Int32 × Int32)) (hr9 : RRP mm RL pts f g) (hg9 : RG mm RL) (h16 : ∀ n, n < 8 → mm n ≤ 16) (hpos : 0 < RL.length) (nd : Nat) (hnd : nd < 8) : Met l yX2_placesOf (Cond.code yX2_placesOf cX2_placesOf 7 (some .long) :: TB) ({ frames := 0, cells := 0, slots := 0, locals := 0 } : Room) (va_Pc [.ref h, .int (nI nd)] (PB D (KT cI cZ cS cJ) ([(h, .inr (2, [.ref po, .ref pa, .ref no, .int (nI RL.length)])), (po, .inl (cI, 8, .inl pts)), (pa, .inl (cI, 128, .inl f)), (no, .inl (cI, 128, .inl g))]) sz)) (va_Ql (fun r (_ : Unit) => r = plS RL nd RL.length) (fun (_ : Unit) t => va_P D vwCl ([(h, .inr (2, [.ref po, .ref pa, .ref no, .int (nI RL.length)])), (po, .inl (cI, 8, .inl pts)), (pa, .inl (cI, 128, .inl f)), (no, .inl (cI, 128, .inl g))]) t.heap) (va_A ([(h, .inr (2, [.ref po, .ref pa, .ref no, .int (nI RL.length)])), (po, .inl (cI, 8, .inl pts)), (pa, .inl (cI, 128, .inl f)), (no, .inl (cI, 128, .inl g))]) sz)) 0 0 (va_A ([(h, .inr (2, [.ref po, .ref pa, .ref no, .int (nI RL.length)])), (po, .inl (cI, 8, .inl pts)), (pa, .inl (cI, 128, .inl f)), (no, .inl (cI, 128, .inl g))]) sz) := by
  refine Met.ofW (cc := cX2_placesOf) (maxL := 7) (ret := (some .long)) (by decide) rfl ?_
  intro p e s m args below meth c s₁ B hml hv
  obtain ⟨rfl, hsz, hP, hK, hD0⟩ := hv
  have hx := B.exec
  have hb := B.bytes
  have hr := B.returns
  have hts := atoms_spec (ws := (Cond.code yX2_placesOf cX2_placesOf 7 (some .long) :: TB)) B.pre
  have ht : ∀ w ∈ TB, w.before _ s = true := fun w h => hts w (List.mem_cons_of_mem _ h)
  have hown : s.vm.findClass RX2 = some m.cls := findClass_of_methodNamed B.named
  have hlocks := B.notSynchronized
  subst hsz
  have hD := hD0.self (sz := s.heap.size)
  generalize hAe : va_A ([(h, .inr (2, [.ref po, .ref pa, .ref no, .int (nI RL.length)])), (po, .inl (cI, 8, .inl pts)), (pa, .inl (cI, 128, .inl f)), (no, .inl (cI, 128, .inl g))]) s.heap.size = A at hD ⊢
  have hA : ∀ q : Nat, s.heap.size ≤ q → A q := fun q h => by rw [← hAe]; exact Or.inr h
  have hS : va_S A s.heap s.heap [] := va_S.rf
  have hP : va_P D vwCl ([(h, .inr (2, [.ref po, .ref pa, .ref no, .int (nI RL.length)])), (po, .inl (cI, 8, .inl pts)), (pa, .inl (cI, 128, .inl f)), (no, .inl (cI, 128, .inl g))]) s.heap := hP
  have hl := lv_entry ([.ref h, .int (nI nd)]) (n := 7) (Nat.le_of_ble_eq_true rfl)
  rw [lg_entry_eq]
  generalize (lg_sl ([.ref h, .int (nI nd)]) ++ List.replicate (7 - (lg_sl ([.ref h, .int (nI nd)])).length) Slot.unset).toArray = ls at hl ⊢
  have hl : lv_has ls 7 [(0, .ref h), (1, .int (nI nd))] := hl
  refine lv_lconst (v := 0) hx hb dX2_placesOf_0 (by decide) ?_
  refine lv_lstore_n (lv' := [(2, .long 0), (0, .ref h), (1, .int (nI nd))]) hx hb dX2_placesOf_1 rfl hl (by decide) rfl (fun ls hl => ?_)
  refine lv_aload_n hx hb dX2_placesOf_2 rfl (lv_at hl 1 rfl) ?_
  refine va_get (D := D) (ci := 2) (v := .ref pa) (C := RX2) (T := TX2) (N := 4) hx hb ht inX2 hown hK hP 0 rfl rfl 1 (by decide) (ht _ kw1_41) (fun _ h9 => h9) rfl dX2_placesOf_3 ?_
  refine lv_aload_n hx hb dX2_placesOf_6 rfl (lv_at hl 1 rfl) ?_
  refine va_get (D := D) (ci := 2) (v := .int (nI RL.length)) (C := RX2) (T := TX2) (N := 4) hx hb ht inX2 hown hK hP 0 rfl rfl 3 (by decide) (ht _ kw1_43) (fun _ h9 => h9) rfl dX2_placesOf_7 ?_
  refine lv_if_le (tgt := 22) hx hb dX2_placesOf_10 (by decide) (fun c10 => absurd c10 (nI_nle hpos (by have := hr9.2.1.1; omega))) (fun c10 => ?_)
  refine lv_aload_n hx hb dX2_placesOf_13 rfl (lv_at hl 1 rfl) ?_
  refine va_get (D := D) (ci := 2) (v := .int (nI RL.length)) (C := RX2) (T := TX2) (N := 4) hx hb ht inX2 hown hK hP 0 rfl rfl 3 (by decide) (ht _ kw1_43) (fun _ h9 => h9) rfl dX2_placesOf_14 ?_
  refine lv_iconst (v := 1) hx hb dX2_placesOf_17 (by decide) ?_
  refine lv_isub hx hb dX2_placesOf_18 ?_
  refine lv_goto (tgt := 23) hx hb dX2_placesOf_19 (by decide) ?_
  refine ya_iald hx hb hK hP 2 0 rfl rfl (RL.length - 1) (nI_m1 hpos) (by have := hr9.2.1.1; omega) (by decide) dX2_placesOf_23 ?_
  refine lv_i2l (v := (f (RL.length - 1) : Int32).toInt64) hx hb dX2_placesOf_24 rfl ?_
  refine lv_ldc2 (v := 2147483648) hx hb hown (ht _ kw3_73) dX2_placesOf_25 ?_
  refine lv_lsub hx hb dX2_placesOf_28 ?_
  refine W.eq (g2 := F0 m 29 ls [.long (bef RL 0)]) (by rw [(hr9.2.2.2 _ (by omega)).1]; rfl) ?_
  refine lv_lstore (lv' := [(4, .long (bef RL 0)), (2, .long 0), (0, .ref h), (1, .int (nI nd))]) hx hb dX2_placesOf_29 hl (by decide) rfl (fun ls hl => ?_)
  refine lv_iconst (v := 0) hx hb dX2_placesOf_31 (by decide) ?_
  refine lv_istore (lv' := [(6, .int 0), (4, .long (bef RL 0)), (2, .long 0), (0, .ref h), (1, .int (nI nd))]) hx hb dX2_placesOf_32 hl (by decide) rfl (fun ls hl => ?_)
  refine lpA (pc := 34) (ι := Nat) (fun z ls => lv_has ls 7 [(6, .int (nI z)), (4, .long (bef RL z)), (2, .long (plS RL nd z)), (0, .ref h), (1, .int (nI nd))] ∧ z ≤ RL.length) (fun z => RL.length - z) 0 (⟨lv_sub hl [0, 1, 2, 3, 4] rfl, Nat.zero_le _⟩) ?_
  intro z ls hI ih34
  obtain ⟨i, e34⟩ : ∃ y, y = z := ⟨_, rfl⟩
  subst e34
  obtain ⟨hl, hinv⟩ := hI
  have hl : lv_has ls 7 [(6, .int (nI i)), (4, .long (bef RL i)), (2, .long (plS RL nd i)), (0, .ref h), (1, .int (nI nd))] := hl
  obtain hil : i ≤ RL.length := hinv
  have hlen := hr9.2.1.1
  refine lv_iload hx hb dX2_placesOf_34 (lv_at hl 0 rfl) ?_
  refine lv_aload_n hx hb dX2_placesOf_36 rfl (lv_at hl 3 rfl) ?_
  refine va_get (D := D) (ci := 2) (v := .int (nI RL.length)) (C := RX2) (T := TX2) (N := 4) hx hb ht inX2 hown hK hP 0 rfl rfl 3 (by decide) (ht _ kw1_43) (fun _ h9 => h9) rfl dX2_placesOf_37 ?_
  refine lv_icmp_ge (tgt := 84) hx hb dX2_placesOf_40 (by decide) (fun c40 => ?_) (fun c40 => ?_)
  · have hie : i = RL.length := by
      rcases Nat.lt_or_ge i RL.length with q | q
      · exact absurd c40 (nI_ge q (by omega))
      · omega
    subst hie
    refine lv_lload_n hx hb dX2_placesOf_84 rfl (lv_at hl 2 rfl) ?_
    exact W.lret (v := plS RL nd RL.length) hx hb hr (fun t ht2 hW => ⟨⟨plS RL nd RL.length, (), rfl, rfl, by (try dsimp only); rw [ht2]; exact hP⟩, hS.F ht2⟩) hS.2.2 dX2_placesOf_85
  · have hi : i < RL.length := by
      rcases Nat.lt_or_ge i RL.length with q | q
      · exact q
      · exact absurd (nI_le q (by omega)) c40
    refine lv_aload_n hx hb dX2_placesOf_43 rfl (lv_at hl 3 rfl) ?_
    refine va_get (D := D) (ci := 2) (v := .ref no) (C := RX2) (T := TX2) (N := 4) hx hb ht inX2 hown hK hP 0 rfl rfl 2 (by decide) (ht _ kw1_42) (fun _ h9 => h9) rfl dX2_placesOf_44 ?_
    refine lv_iload hx hb dX2_placesOf_47 (lv_at hl 0 rfl) ?_
    refine ya_iald hx hb hK hP 3 0 rfl rfl i (rfl) (by omega) (by decide) dX2_placesOf_49 ?_
    refine lv_iload_n hx hb dX2_placesOf_50 rfl (lv_at hl 4 rfl) ?_
    refine lv_icmp_ne (tgt := 68) hx hb dX2_placesOf_51 (by decide) (fun c51 => ?_) (fun c51 => ?_)
    · have hes : plS RL nd (i + 1) = plS RL nd i := if_neg (fun q => c51 (by rw [(hr9.2.2.2 i hi).2]; exact q))
      refine lv_aload_n hx hb dX2_placesOf_68 rfl (lv_at hl 3 rfl) ?_
      refine va_get (D := D) (ci := 2) (v := .ref pa) (C := RX2) (T := TX2) (N := 4) hx hb ht inX2 hown hK hP 0 rfl rfl 1 (by decide) (ht _ kw1_41) (fun _ h9 => h9) rfl dX2_placesOf_69 ?_
      refine lv_iload hx hb dX2_placesOf_72 (lv_at hl 0 rfl) ?_
      refine ya_iald hx hb hK hP 2 0 rfl rfl i (rfl) (by omega) (by decide) dX2_placesOf_74 ?_
      refine lv_i2l (v := (f i : Int32).toInt64) hx hb dX2_placesOf_75 rfl ?_
      refine W.eq (g2 := F0 m 76 ls [.long (bef RL (i + 1))]) (by rw [(hr9.2.2.2 i hi).1]; rfl) ?_
      refine lv_lstore (lv' := [(4, .long (bef RL (i + 1))), (6, .int (nI i)), (2, .long (plS RL nd i)), (0, .ref h), (1, .int (nI nd))]) hx hb dX2_placesOf_76 hl (by decide) rfl (fun ls hl => ?_)
      refine lv_iinc (v := nI (i + 1)) (lv' := [(6, .int (nI (i + 1))), (4, .long (bef RL (i + 1))), (2, .long (plS RL nd i)), (0, .ref h), (1, .int (nI nd))]) hx hb dX2_placesOf_78 hl (k := 1) rfl (by exact nI_1 i) (by decide) rfl (fun ls hl => ?_)
      refine lv_goto (tgt := 34) hx hb dX2_placesOf_81 (by decide) ?_
      rw [← hes] at hl
      exact ih34 (i + 1) ls (⟨lv_sub hl [0, 1, 2, 3, 4] rfl, by omega⟩) (by omega)
    · have hes : plS RL nd (i + 1) = plS RL nd i + ((kx RL i).toInt64 - bef RL i) := if_pos (by rw [← (hr9.2.2.2 i hi).2]; exact c51)
      refine lv_lload_n hx hb dX2_placesOf_54 rfl (lv_at hl 2 rfl) ?_
      refine lv_aload_n hx hb dX2_placesOf_55 rfl (lv_at hl 3 rfl) ?_
      refine va_get (D := D) (ci := 2) (v := .ref pa) (C := RX2) (T := TX2) (N := 4) hx hb ht inX2 hown hK hP 0 rfl rfl 1 (by decide) (ht _ kw1_41) (fun _ h9 => h9) rfl dX2_placesOf_56 ?_
      refine lv_iload hx hb dX2_placesOf_59 (lv_at hl 0 rfl) ?_
      refine ya_iald hx hb hK hP 2 0 rfl rfl i (rfl) (by omega) (by decide) dX2_placesOf_61 ?_
      refine lv_i2l (v := (f i : Int32).toInt64) hx hb dX2_placesOf_62 rfl ?_
      refine lv_lload hx hb dX2_placesOf_63 (lv_at hl 1 rfl) ?_
      refine lv_lsub hx hb dX2_placesOf_65 ?_
      refine lv_ladd hx hb dX2_placesOf_66 ?_
      refine W.eq (g2 := F0 m 67 ls [.long (plS RL nd (i + 1))]) (by rw [hes, (hr9.2.2.2 i hi).1]) ?_
      refine lv_lstore_n (lv' := [(2, .long (plS RL nd (i + 1))), (6, .int (nI i)), (4, .long (bef RL i)), (0, .ref h), (1, .int (nI nd))]) hx hb dX2_placesOf_67 rfl hl (by decide) rfl (fun ls hl => ?_)
      refine lv_aload_n hx hb dX2_placesOf_68 rfl (lv_at hl 3 rfl) ?_
      refine va_get (D := D) (ci := 2) (v := .ref pa) (C := RX2) (T := TX2) (N := 4) hx hb ht inX2 hown hK hP 0 rfl rfl 1 (by decide) (ht _ kw1_41) (fun _ h9 => h9) rfl dX2_placesOf_69 ?_
      refine lv_iload hx hb dX2_placesOf_72 (lv_at hl 1 rfl) ?_
      refine ya_iald hx hb hK hP 2 0 rfl rfl i (rfl) (by omega) (by decide) dX2_placesOf_74 ?_
      refine lv_i2l (v := (f i : Int32).toInt64) hx hb dX2_placesOf_75 rfl ?_
      refine W.eq (g2 := F0 m 76 ls [.long (bef RL (i + 1))]) (by rw [(hr9.2.2.2 i hi).1]; rfl) ?_
      refine lv_lstore (lv' := [(4, .long (bef RL (i + 1))), (2, .long (plS RL nd (i + 1))), (6, .int (nI i)), (0, .ref h), (1, .int (nI nd))]) hx hb dX2_placesOf_76 hl (by decide) rfl (fun ls hl => ?_)
      refine lv_iinc (v := nI (i + 1)) (lv' := [(6, .int (nI (i + 1))), (4, .long (bef RL (i + 1))), (2, .long (plS RL nd (i + 1))), (0, .ref h), (1, .int (nI nd))]) hx hb dX2_placesOf_78 hl (k := 2) rfl (by exact nI_1 i) (by decide) rfl (fun ls hl => ?_)
      refine lv_goto (tgt := 34) hx hb dX2_placesOf_81 (by decide) ?_
      exact ih34 (i + 1) ls (⟨lv_sub hl [0, 1, 2, 3, 4] rfl, by omega⟩) (by omega)
