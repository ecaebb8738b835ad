-- the reference: its making

set_option maxHeartbeats 4000000 in
set_option maxRecDepth 100000 in
theorem c_X5_init (l : Launch) (D : va_G) (cI cZ cS cJ : ClassId) (sz : Nat) (h : Nat) (nodes points : Int32) : Met l yX5_init (Cond.code yX5_init cX5_init 6 none :: TB) ({ frames := 1, cells := 10, slots := 17688, locals := 16 } : Room) (va_Pc [.ref h, .int nodes, .int points] (PB D (KT cI cZ cS cJ) ([(h, .inr (5, [.int 0, .int 0, .int 0, .int 0, .int 0, .null, .null, .null, .null, .null, .int 0, .int 0, .null, .null, .null, .null, .null]))]) sz)) (va_Qv (fun (u : (Nat → Nat) × (Nat → Int32)) => u.1 0 = h ∧ ∀ n, n < 8 → u.2 n = nI (if n < clN 8 nodes then clN 16 points else 0)) (fun (u : (Nat → Nat) × (Nat → Int32)) t => va_P D vwCl (mW cI cZ u.1 0 0 (-1) 0 0 u.2 (fun _ => 0) (fun _ => 0) (fun _ => 0) (fun _ => 0) 0 0 (fun _ => 0) (fun _ => 0) (fun _ => 0) (fun _ => 0) (fun _ => 0)) t.heap ∧ va_D (va_A [(h, .inr (5, [.int 0, .int 0, .int 0, .int 0, .int 0, .null, .null, .null, .null, .null, .int 0, .int 0, .null, .null, .null, .null, .null]))] sz) (mW cI cZ u.1 0 0 (-1) 0 0 u.2 (fun _ => 0) (fun _ => 0) (fun _ => 0) (fun _ => 0) 0 0 (fun _ => 0) (fun _ => 0) (fun _ => 0) (fun _ => 0) (fun _ => 0))) (va_A ([(h, .inr (5, [.int 0, .int 0, .int 0, .int 0, .int 0, .null, .null, .null, .null, .null, .int 0, .int 0, .null, .null, .null, .null, .null]))]) sz)) 10 17688 (va_A ([(h, .inr (5, [.int 0, .int 0, .int 0, .int 0, .int 0, .null, .null, .null, .null, .null, .int 0, .int 0, .null, .null, .null, .null, .null]))]) sz) := by
  refine Met.ofW (cc := cX5_init) (maxL := 6) (ret := none) (by decide) rfl ?_
  intro p e s m args below meth c s₁ B hml hv
  obtain ⟨rfl, hsz, hP, hK, hD0⟩ := hv
  have hx := B.exec
  have hb := B.bytes
  have hr := B.returns
  have hts := atoms_spec (ws := (Cond.code yX5_init cX5_init 6 none :: TB)) B.pre
  have ht : ∀ w ∈ TB, w.before _ s = true := fun w h => hts w (List.mem_cons_of_mem _ h)
  have hown : s.vm.findClass RX5 = some m.cls := findClass_of_methodNamed B.named
  have hlocks := B.notSynchronized
  have hin : meth.name = "<init>" := (name_of_methodNamed B.named B.method).1
  subst hsz
  have hD := hD0.self (sz := s.heap.size)
  generalize hAe : va_A ([(h, .inr (5, [.int 0, .int 0, .int 0, .int 0, .int 0, .null, .null, .null, .null, .null, .int 0, .int 0, .null, .null, .null, .null, .null]))]) s.heap.size = A at hD ⊢
  have hA : ∀ q : Nat, s.heap.size ≤ q → A q := fun q h => by rw [← hAe]; exact Or.inr h
  have hS : va_S A s.heap s.heap [] := va_S.rf
  have hP : va_P D vwCl ([(h, .inr (5, [.int 0, .int 0, .int 0, .int 0, .int 0, .null, .null, .null, .null, .null, .int 0, .int 0, .null, .null, .null, .null, .null]))]) s.heap := hP
  have hl := lv_entry ([.ref h, .int nodes, .int points]) (n := 6) (Nat.le_of_ble_eq_true rfl)
  rw [lg_entry_eq]
  generalize (lg_sl ([.ref h, .int nodes, .int points]) ++ List.replicate (6 - (lg_sl ([.ref h, .int nodes, .int points])).length) Slot.unset).toArray = ls at hl ⊢
  have hl : lv_has ls 6 [(0, .ref h), (1, .int nodes), (2, .int points)] := hl
  refine lv_aload_n hx hb dX5_init_0 rfl (lv_at hl 0 rfl) ?_
  refine W.objInit hx hb hown (ht _ kw3_79) (ht _ kw1_25) (ht _ kw1_26) rfl (by rw [hml]; exact hl.1) rfl dX5_init_1 (Nat.le_of_ble_eq_true rfl) (Nat.le_of_ble_eq_true rfl) ?_
  refine W.eq (g2 := F0 m 4 ls []) rfl ?_
  refine lv_aload_n hx hb dX5_init_4 rfl (lv_at hl 0 rfl) ?_
  refine lv_iconst (v := (-1)) hx hb dX5_init_5 (by decide) ?_
  refine va_put (D := D) (ci := 5) (v := .int (-1)) (ty := .int) (C := RX5) (T := TX5) (N := 17) hx hb ht inX5 tyX5 tyX5_ok nmX5 hown hK hP hD hS 0 rfl rfl 2 (by decide) (ht _ kw3_82) (fun _ h9 => h9) rfl (by decide +kernel) (rfl) rfl (Nat.le_of_ble_eq_true rfl) dX5_init_6 (fun H locs hP hD hS => ?_)
  have hP : va_P D vwCl ([(h, .inr (5, [.int 0, .int 0, .int (-1), .int 0, .int 0, .null, .null, .null, .null, .null, .int 0, .int 0, .null, .null, .null, .null, .null]))]) H := hP
  have hD : va_D A ([(h, .inr (5, [.int 0, .int 0, .int (-1), .int 0, .int 0, .null, .null, .null, .null, .null, .int 0, .int 0, .null, .null, .null, .null, .null]))]) := hD
  refine lv_aload_n hx hb dX5_init_9 rfl (lv_at hl 0 rfl) ?_
  refine lv_bipush (v := 8) hx hb dX5_init_10 (by decide) ?_
  refine ya_newa (atype := .int) (ty := .int) hx hb (ht _ kw1_54) rfl (fun C h => by cases h) hK 0 rfl hP hD hS hA (a0 := (8, .inl (fun _ => 0))) (fun _ => rfl) (by decide) (by decide +kernel) (by decide +kernel) (Nat.le_of_ble_eq_true rfl) (Nat.le_of_ble_eq_true rfl) dX5_init_12 (fun q12 H hP hD hS => ?_)
  have hP : va_P D vwCl ([(h, .inr (5, [.int 0, .int 0, .int (-1), .int 0, .int 0, .null, .null, .null, .null, .null, .int 0, .int 0, .null, .null, .null, .null, .null])), (q12, .inl (cI, 8, .inl (fun _ => 0)))]) H := hP
  have hD : va_D A ([(h, .inr (5, [.int 0, .int 0, .int (-1), .int 0, .int 0, .null, .null, .null, .null, .null, .int 0, .int 0, .null, .null, .null, .null, .null])), (q12, .inl (cI, 8, .inl (fun _ => 0)))]) := hD
  refine va_putF (D := D) (ci := 5) (v := .ref q12) (ty := .array .int) (C := RX5) (T := TX5) (N := 17) hx hb ht inX5 tyX5 tyX5_ok nmX5 hown hK hP hD hS 0 rfl rfl 5 (by decide) (ht _ kw3_85) (fun _ h9 => h9) rfl hin rfl (by decide +kernel) (rfl) rfl (Nat.le_of_ble_eq_true rfl) dX5_init_14 (fun H locs hP hD hS => ?_)
  have hP : va_P D vwCl ([(h, .inr (5, [.int 0, .int 0, .int (-1), .int 0, .int 0, .ref q12, .null, .null, .null, .null, .int 0, .int 0, .null, .null, .null, .null, .null])), (q12, .inl (cI, 8, .inl (fun _ => 0)))]) H := hP
  have hD : va_D A ([(h, .inr (5, [.int 0, .int 0, .int (-1), .int 0, .int 0, .ref q12, .null, .null, .null, .null, .int 0, .int 0, .null, .null, .null, .null, .null])), (q12, .inl (cI, 8, .inl (fun _ => 0)))]) := hD
  refine lv_aload_n hx hb dX5_init_17 rfl (lv_at hl 0 rfl) ?_
  refine lv_bipush (v := 8) hx hb dX5_init_18 (by decide) ?_
  refine ya_newa (atype := .int) (ty := .int) hx hb (ht _ kw1_54) rfl (fun C h => by cases h) hK 0 rfl hP hD hS hA (a0 := (8, .inl (fun _ => 0))) (fun _ => rfl) (by decide) (by decide +kernel) (by decide +kernel) (Nat.le_of_ble_eq_true rfl) (Nat.le_of_ble_eq_true rfl) dX5_init_20 (fun q20 H hP hD hS => ?_)
  have hP : va_P D vwCl ([(h, .inr (5, [.int 0, .int 0, .int (-1), .int 0, .int 0, .ref q12, .null, .null, .null, .null, .int 0, .int 0, .null, .null, .null, .null, .null])), (q12, .inl (cI, 8, .inl (fun _ => 0))), (q20, .inl (cI, 8, .inl (fun _ => 0)))]) H := hP
  have hD : va_D A ([(h, .inr (5, [.int 0, .int 0, .int (-1), .int 0, .int 0, .ref q12, .null, .null, .null, .null, .int 0, .int 0, .null, .null, .null, .null, .null])), (q12, .inl (cI, 8, .inl (fun _ => 0))), (q20, .inl (cI, 8, .inl (fun _ => 0)))]) := hD
  refine va_putF (D := D) (ci := 5) (v := .ref q20) (ty := .array .int) (C := RX5) (T := TX5) (N := 17) hx hb ht inX5 tyX5 tyX5_ok nmX5 hown hK hP hD hS 0 rfl rfl 6 (by decide) (ht _ kw3_86) (fun _ h9 => h9) rfl hin rfl (by decide +kernel) (rfl) rfl (Nat.le_of_ble_eq_true rfl) dX5_init_22 (fun H locs hP hD hS => ?_)
  have hP : va_P D vwCl ([(h, .inr (5, [.int 0, .int 0, .int (-1), .int 0, .int 0, .ref q12, .ref q20, .null, .null, .null, .int 0, .int 0, .null, .null, .null, .null, .null])), (q12, .inl (cI, 8, .inl (fun _ => 0))), (q20, .inl (cI, 8, .inl (fun _ => 0)))]) H := hP
  have hD : va_D A ([(h, .inr (5, [.int 0, .int 0, .int (-1), .int 0, .int 0, .ref q12, .ref q20, .null, .null, .null, .int 0, .int 0, .null, .null, .null, .null, .null])), (q12, .inl (cI, 8, .inl (fun _ => 0))), (q20, .inl (cI, 8, .inl (fun _ => 0)))]) := hD
  refine lv_aload_n hx hb dX5_init_25 rfl (lv_at hl 0 rfl) ?_
  refine lv_sipush (v := 8192) hx hb dX5_init_26 (by decide) ?_
  refine ya_newa (atype := .int) (ty := .int) hx hb (ht _ kw1_54) rfl (fun C h => by cases h) hK 0 rfl hP hD hS hA (a0 := (8192, .inl (fun _ => 0))) (fun _ => rfl) (by decide) (by decide +kernel) (by decide +kernel) (Nat.le_of_ble_eq_true rfl) (Nat.le_of_ble_eq_true rfl) dX5_init_29 (fun q29 H hP hD hS => ?_)
  have hP : va_P D vwCl ([(h, .inr (5, [.int 0, .int 0, .int (-1), .int 0, .int 0, .ref q12, .ref q20, .null, .null, .null, .int 0, .int 0, .null, .null, .null, .null, .null])), (q12, .inl (cI, 8, .inl (fun _ => 0))), (q20, .inl (cI, 8, .inl (fun _ => 0))), (q29, .inl (cI, 8192, .inl (fun _ => 0)))]) H := hP
  have hD : va_D A ([(h, .inr (5, [.int 0, .int 0, .int (-1), .int 0, .int 0, .ref q12, .ref q20, .null, .null, .null, .int 0, .int 0, .null, .null, .null, .null, .null])), (q12, .inl (cI, 8, .inl (fun _ => 0))), (q20, .inl (cI, 8, .inl (fun _ => 0))), (q29, .inl (cI, 8192, .inl (fun _ => 0)))]) := hD
  refine va_putF (D := D) (ci := 5) (v := .ref q29) (ty := .array .int) (C := RX5) (T := TX5) (N := 17) hx hb ht inX5 tyX5 tyX5_ok nmX5 hown hK hP hD hS 0 rfl rfl 7 (by decide) (ht _ kw3_87) (fun _ h9 => h9) rfl hin rfl (by decide +kernel) (rfl) rfl (Nat.le_of_ble_eq_true rfl) dX5_init_31 (fun H locs hP hD hS => ?_)
  have hP : va_P D vwCl ([(h, .inr (5, [.int 0, .int 0, .int (-1), .int 0, .int 0, .ref q12, .ref q20, .ref q29, .null, .null, .int 0, .int 0, .null, .null, .null, .null, .null])), (q12, .inl (cI, 8, .inl (fun _ => 0))), (q20, .inl (cI, 8, .inl (fun _ => 0))), (q29, .inl (cI, 8192, .inl (fun _ => 0)))]) H := hP
  have hD : va_D A ([(h, .inr (5, [.int 0, .int 0, .int (-1), .int 0, .int 0, .ref q12, .ref q20, .ref q29, .null, .null, .int 0, .int 0, .null, .null, .null, .null, .null])), (q12, .inl (cI, 8, .inl (fun _ => 0))), (q20, .inl (cI, 8, .inl (fun _ => 0))), (q29, .inl (cI, 8192, .inl (fun _ => 0)))]) := hD
  refine lv_aload_n hx hb dX5_init_34 rfl (lv_at hl 0 rfl) ?_
  refine lv_sipush (v := 8192) hx hb dX5_init_35 (by decide) ?_
  refine ya_newa (atype := .int) (ty := .int) hx hb (ht _ kw1_54) rfl (fun C h => by cases h) hK 0 rfl hP hD hS hA (a0 := (8192, .inl (fun _ => 0))) (fun _ => rfl) (by decide) (by decide +kernel) (by decide +kernel) (Nat.le_of_ble_eq_true rfl) (Nat.le_of_ble_eq_true rfl) dX5_init_38 (fun q38 H hP hD hS => ?_)
  have hP : va_P D vwCl ([(h, .inr (5, [.int 0, .int 0, .int (-1), .int 0, .int 0, .ref q12, .ref q20, .ref q29, .null, .null, .int 0, .int 0, .null, .null, .null, .null, .null])), (q12, .inl (cI, 8, .inl (fun _ => 0))), (q20, .inl (cI, 8, .inl (fun _ => 0))), (q29, .inl (cI, 8192, .inl (fun _ => 0))), (q38, .inl (cI, 8192, .inl (fun _ => 0)))]) H := hP
  have hD : va_D A ([(h, .inr (5, [.int 0, .int 0, .int (-1), .int 0, .int 0, .ref q12, .ref q20, .ref q29, .null, .null, .int 0, .int 0, .null, .null, .null, .null, .null])), (q12, .inl (cI, 8, .inl (fun _ => 0))), (q20, .inl (cI, 8, .inl (fun _ => 0))), (q29, .inl (cI, 8192, .inl (fun _ => 0))), (q38, .inl (cI, 8192, .inl (fun _ => 0)))]) := hD
  refine va_putF (D := D) (ci := 5) (v := .ref q38) (ty := .array .int) (C := RX5) (T := TX5) (N := 17) hx hb ht inX5 tyX5 tyX5_ok nmX5 hown hK hP hD hS 0 rfl rfl 8 (by decide) (ht _ kw3_88) (fun _ h9 => h9) rfl hin rfl (by decide +kernel) (rfl) rfl (Nat.le_of_ble_eq_true rfl) dX5_init_40 (fun H locs hP hD hS => ?_)
  have hP : va_P D vwCl ([(h, .inr (5, [.int 0, .int 0, .int (-1), .int 0, .int 0, .ref q12, .ref q20, .ref q29, .ref q38, .null, .int 0, .int 0, .null, .null, .null, .null, .null])), (q12, .inl (cI, 8, .inl (fun _ => 0))), (q20, .inl (cI, 8, .inl (fun _ => 0))), (q29, .inl (cI, 8192, .inl (fun _ => 0))), (q38, .inl (cI, 8192, .inl (fun _ => 0)))]) H := hP
  have hD : va_D A ([(h, .inr (5, [.int 0, .int 0, .int (-1), .int 0, .int 0, .ref q12, .ref q20, .ref q29, .ref q38, .null, .int 0, .int 0, .null, .null, .null, .null, .null])), (q12, .inl (cI, 8, .inl (fun _ => 0))), (q20, .inl (cI, 8, .inl (fun _ => 0))), (q29, .inl (cI, 8192, .inl (fun _ => 0))), (q38, .inl (cI, 8192, .inl (fun _ => 0)))]) := hD
  refine lv_aload_n hx hb dX5_init_43 rfl (lv_at hl 0 rfl) ?_
  refine lv_bipush (v := 8) hx hb dX5_init_44 (by decide) ?_
  refine ya_newa (atype := .int) (ty := .int) hx hb (ht _ kw1_54) rfl (fun C h => by cases h) hK 0 rfl hP hD hS hA (a0 := (8, .inl (fun _ => 0))) (fun _ => rfl) (by decide) (by decide +kernel) (by decide +kernel) (Nat.le_of_ble_eq_true rfl) (Nat.le_of_ble_eq_true rfl) dX5_init_46 (fun q46 H hP hD hS => ?_)
  have hP : va_P D vwCl ([(h, .inr (5, [.int 0, .int 0, .int (-1), .int 0, .int 0, .ref q12, .ref q20, .ref q29, .ref q38, .null, .int 0, .int 0, .null, .null, .null, .null, .null])), (q12, .inl (cI, 8, .inl (fun _ => 0))), (q20, .inl (cI, 8, .inl (fun _ => 0))), (q29, .inl (cI, 8192, .inl (fun _ => 0))), (q38, .inl (cI, 8192, .inl (fun _ => 0))), (q46, .inl (cI, 8, .inl (fun _ => 0)))]) H := hP
  have hD : va_D A ([(h, .inr (5, [.int 0, .int 0, .int (-1), .int 0, .int 0, .ref q12, .ref q20, .ref q29, .ref q38, .null, .int 0, .int 0, .null, .null, .null, .null, .null])), (q12, .inl (cI, 8, .inl (fun _ => 0))), (q20, .inl (cI, 8, .inl (fun _ => 0))), (q29, .inl (cI, 8192, .inl (fun _ => 0))), (q38, .inl (cI, 8192, .inl (fun _ => 0))), (q46, .inl (cI, 8, .inl (fun _ => 0)))]) := hD
  refine va_putF (D := D) (ci := 5) (v := .ref q46) (ty := .array .int) (C := RX5) (T := TX5) (N := 17) hx hb ht inX5 tyX5 tyX5_ok nmX5 hown hK hP hD hS 0 rfl rfl 9 (by decide) (ht _ kw3_89) (fun _ h9 => h9) rfl hin rfl (by decide +kernel) (rfl) rfl (Nat.le_of_ble_eq_true rfl) dX5_init_48 (fun H locs hP hD hS => ?_)
  have hP : va_P D vwCl ([(h, .inr (5, [.int 0, .int 0, .int (-1), .int 0, .int 0, .ref q12, .ref q20, .ref q29, .ref q38, .ref q46, .int 0, .int 0, .null, .null, .null, .null, .null])), (q12, .inl (cI, 8, .inl (fun _ => 0))), (q20, .inl (cI, 8, .inl (fun _ => 0))), (q29, .inl (cI, 8192, .inl (fun _ => 0))), (q38, .inl (cI, 8192, .inl (fun _ => 0))), (q46, .inl (cI, 8, .inl (fun _ => 0)))]) H := hP
  have hD : va_D A ([(h, .inr (5, [.int 0, .int 0, .int (-1), .int 0, .int 0, .ref q12, .ref q20, .ref q29, .ref q38, .ref q46, .int 0, .int 0, .null, .null, .null, .null, .null])), (q12, .inl (cI, 8, .inl (fun _ => 0))), (q20, .inl (cI, 8, .inl (fun _ => 0))), (q29, .inl (cI, 8192, .inl (fun _ => 0))), (q38, .inl (cI, 8192, .inl (fun _ => 0))), (q46, .inl (cI, 8, .inl (fun _ => 0)))]) := hD
  refine lv_aload_n hx hb dX5_init_51 rfl (lv_at hl 0 rfl) ?_
  refine lv_sipush (v := 256) hx hb dX5_init_52 (by decide) ?_
  refine ya_newa (atype := .int) (ty := .int) hx hb (ht _ kw1_54) rfl (fun C h => by cases h) hK 0 rfl hP hD hS hA (a0 := (256, .inl (fun _ => 0))) (fun _ => rfl) (by decide) (by decide +kernel) (by decide +kernel) (Nat.le_of_ble_eq_true rfl) (Nat.le_of_ble_eq_true rfl) dX5_init_55 (fun q55 H hP hD hS => ?_)
  have hP : va_P D vwCl ([(h, .inr (5, [.int 0, .int 0, .int (-1), .int 0, .int 0, .ref q12, .ref q20, .ref q29, .ref q38, .ref q46, .int 0, .int 0, .null, .null, .null, .null, .null])), (q12, .inl (cI, 8, .inl (fun _ => 0))), (q20, .inl (cI, 8, .inl (fun _ => 0))), (q29, .inl (cI, 8192, .inl (fun _ => 0))), (q38, .inl (cI, 8192, .inl (fun _ => 0))), (q46, .inl (cI, 8, .inl (fun _ => 0))), (q55, .inl (cI, 256, .inl (fun _ => 0)))]) H := hP
  have hD : va_D A ([(h, .inr (5, [.int 0, .int 0, .int (-1), .int 0, .int 0, .ref q12, .ref q20, .ref q29, .ref q38, .ref q46, .int 0, .int 0, .null, .null, .null, .null, .null])), (q12, .inl (cI, 8, .inl (fun _ => 0))), (q20, .inl (cI, 8, .inl (fun _ => 0))), (q29, .inl (cI, 8192, .inl (fun _ => 0))), (q38, .inl (cI, 8192, .inl (fun _ => 0))), (q46, .inl (cI, 8, .inl (fun _ => 0))), (q55, .inl (cI, 256, .inl (fun _ => 0)))]) := hD
  refine va_putF (D := D) (ci := 5) (v := .ref q55) (ty := .array .int) (C := RX5) (T := TX5) (N := 17) hx hb ht inX5 tyX5 tyX5_ok nmX5 hown hK hP hD hS 0 rfl rfl 12 (by decide) (ht _ kw3_92) (fun _ h9 => h9) rfl hin rfl (by decide +kernel) (rfl) rfl (Nat.le_of_ble_eq_true rfl) dX5_init_57 (fun H locs hP hD hS => ?_)
  have hP : va_P D vwCl ([(h, .inr (5, [.int 0, .int 0, .int (-1), .int 0, .int 0, .ref q12, .ref q20, .ref q29, .ref q38, .ref q46, .int 0, .int 0, .ref q55, .null, .null, .null, .null])), (q12, .inl (cI, 8, .inl (fun _ => 0))), (q20, .inl (cI, 8, .inl (fun _ => 0))), (q29, .inl (cI, 8192, .inl (fun _ => 0))), (q38, .inl (cI, 8192, .inl (fun _ => 0))), (q46, .inl (cI, 8, .inl (fun _ => 0))), (q55, .inl (cI, 256, .inl (fun _ => 0)))]) H := hP
  have hD : va_D A ([(h, .inr (5, [.int 0, .int 0, .int (-1), .int 0, .int 0, .ref q12, .ref q20, .ref q29, .ref q38, .ref q46, .int 0, .int 0, .ref q55, .null, .null, .null, .null])), (q12, .inl (cI, 8, .inl (fun _ => 0))), (q20, .inl (cI, 8, .inl (fun _ => 0))), (q29, .inl (cI, 8192, .inl (fun _ => 0))), (q38, .inl (cI, 8192, .inl (fun _ => 0))), (q46, .inl (cI, 8, .inl (fun _ => 0))), (q55, .inl (cI, 256, .inl (fun _ => 0)))]) := hD
  refine lv_aload_n hx hb dX5_init_60 rfl (lv_at hl 0 rfl) ?_
  refine lv_sipush (v := 256) hx hb dX5_init_61 (by decide) ?_
  refine ya_newa (atype := .int) (ty := .int) hx hb (ht _ kw1_54) rfl (fun C h => by cases h) hK 0 rfl hP hD hS hA (a0 := (256, .inl (fun _ => 0))) (fun _ => rfl) (by decide) (by decide +kernel) (by decide +kernel) (Nat.le_of_ble_eq_true rfl) (Nat.le_of_ble_eq_true rfl) dX5_init_64 (fun q64 H hP hD hS => ?_)
  have hP : va_P D vwCl ([(h, .inr (5, [.int 0, .int 0, .int (-1), .int 0, .int 0, .ref q12, .ref q20, .ref q29, .ref q38, .ref q46, .int 0, .int 0, .ref q55, .null, .null, .null, .null])), (q12, .inl (cI, 8, .inl (fun _ => 0))), (q20, .inl (cI, 8, .inl (fun _ => 0))), (q29, .inl (cI, 8192, .inl (fun _ => 0))), (q38, .inl (cI, 8192, .inl (fun _ => 0))), (q46, .inl (cI, 8, .inl (fun _ => 0))), (q55, .inl (cI, 256, .inl (fun _ => 0))), (q64, .inl (cI, 256, .inl (fun _ => 0)))]) H := hP
  have hD : va_D A ([(h, .inr (5, [.int 0, .int 0, .int (-1), .int 0, .int 0, .ref q12, .ref q20, .ref q29, .ref q38, .ref q46, .int 0, .int 0, .ref q55, .null, .null, .null, .null])), (q12, .inl (cI, 8, .inl (fun _ => 0))), (q20, .inl (cI, 8, .inl (fun _ => 0))), (q29, .inl (cI, 8192, .inl (fun _ => 0))), (q38, .inl (cI, 8192, .inl (fun _ => 0))), (q46, .inl (cI, 8, .inl (fun _ => 0))), (q55, .inl (cI, 256, .inl (fun _ => 0))), (q64, .inl (cI, 256, .inl (fun _ => 0)))]) := hD
  refine va_putF (D := D) (ci := 5) (v := .ref q64) (ty := .array .int) (C := RX5) (T := TX5) (N := 17) hx hb ht inX5 tyX5 tyX5_ok nmX5 hown hK hP hD hS 0 rfl rfl 13 (by decide) (ht _ kw3_93) (fun _ h9 => h9) rfl hin rfl (by decide +kernel) (rfl) rfl (Nat.le_of_ble_eq_true rfl) dX5_init_66 (fun H locs hP hD hS => ?_)
  have hP : va_P D vwCl ([(h, .inr (5, [.int 0, .int 0, .int (-1), .int 0, .int 0, .ref q12, .ref q20, .ref q29, .ref q38, .ref q46, .int 0, .int 0, .ref q55, .ref q64, .null, .null, .null])), (q12, .inl (cI, 8, .inl (fun _ => 0))), (q20, .inl (cI, 8, .inl (fun _ => 0))), (q29, .inl (cI, 8192, .inl (fun _ => 0))), (q38, .inl (cI, 8192, .inl (fun _ => 0))), (q46, .inl (cI, 8, .inl (fun _ => 0))), (q55, .inl (cI, 256, .inl (fun _ => 0))), (q64, .inl (cI, 256, .inl (fun _ => 0)))]) H := hP
  have hD : va_D A ([(h, .inr (5, [.int 0, .int 0, .int (-1), .int 0, .int 0, .ref q12, .ref q20, .ref q29, .ref q38, .ref q46, .int 0, .int 0, .ref q55, .ref q64, .null, .null, .null])), (q12, .inl (cI, 8, .inl (fun _ => 0))), (q20, .inl (cI, 8, .inl (fun _ => 0))), (q29, .inl (cI, 8192, .inl (fun _ => 0))), (q38, .inl (cI, 8192, .inl (fun _ => 0))), (q46, .inl (cI, 8, .inl (fun _ => 0))), (q55, .inl (cI, 256, .inl (fun _ => 0))), (q64, .inl (cI, 256, .inl (fun _ => 0)))]) := hD
  refine lv_aload_n hx hb dX5_init_69 rfl (lv_at hl 0 rfl) ?_
  refine lv_sipush (v := 256) hx hb dX5_init_70 (by decide) ?_
  refine ya_newa (atype := .int) (ty := .int) hx hb (ht _ kw1_54) rfl (fun C h => by cases h) hK 0 rfl hP hD hS hA (a0 := (256, .inl (fun _ => 0))) (fun _ => rfl) (by decide) (by decide +kernel) (by decide +kernel) (Nat.le_of_ble_eq_true rfl) (Nat.le_of_ble_eq_true rfl) dX5_init_73 (fun q73 H hP hD hS => ?_)
  have hP : va_P D vwCl ([(h, .inr (5, [.int 0, .int 0, .int (-1), .int 0, .int 0, .ref q12, .ref q20, .ref q29, .ref q38, .ref q46, .int 0, .int 0, .ref q55, .ref q64, .null, .null, .null])), (q12, .inl (cI, 8, .inl (fun _ => 0))), (q20, .inl (cI, 8, .inl (fun _ => 0))), (q29, .inl (cI, 8192, .inl (fun _ => 0))), (q38, .inl (cI, 8192, .inl (fun _ => 0))), (q46, .inl (cI, 8, .inl (fun _ => 0))), (q55, .inl (cI, 256, .inl (fun _ => 0))), (q64, .inl (cI, 256, .inl (fun _ => 0))), (q73, .inl (cI, 256, .inl (fun _ => 0)))]) H := hP
  have hD : va_D A ([(h, .inr (5, [.int 0, .int 0, .int (-1), .int 0, .int 0, .ref q12, .ref q20, .ref q29, .ref q38, .ref q46, .int 0, .int 0, .ref q55, .ref q64, .null, .null, .null])), (q12, .inl (cI, 8, .inl (fun _ => 0))), (q20, .inl (cI, 8, .inl (fun _ => 0))), (q29, .inl (cI, 8192, .inl (fun _ => 0))), (q38, .inl (cI, 8192, .inl (fun _ => 0))), (q46, .inl (cI, 8, .inl (fun _ => 0))), (q55, .inl (cI, 256, .inl (fun _ => 0))), (q64, .inl (cI, 256, .inl (fun _ => 0))), (q73, .inl (cI, 256, .inl (fun _ => 0)))]) := hD
  refine va_putF (D := D) (ci := 5) (v := .ref q73) (ty := .array .int) (C := RX5) (T := TX5) (N := 17) hx hb ht inX5 tyX5 tyX5_ok nmX5 hown hK hP hD hS 0 rfl rfl 14 (by decide) (ht _ kw3_94) (fun _ h9 => h9) rfl hin rfl (by decide +kernel) (rfl) rfl (Nat.le_of_ble_eq_true rfl) dX5_init_75 (fun H locs hP hD hS => ?_)
  have hP : va_P D vwCl ([(h, .inr (5, [.int 0, .int 0, .int (-1), .int 0, .int 0, .ref q12, .ref q20, .ref q29, .ref q38, .ref q46, .int 0, .int 0, .ref q55, .ref q64, .ref q73, .null, .null])), (q12, .inl (cI, 8, .inl (fun _ => 0))), (q20, .inl (cI, 8, .inl (fun _ => 0))), (q29, .inl (cI, 8192, .inl (fun _ => 0))), (q38, .inl (cI, 8192, .inl (fun _ => 0))), (q46, .inl (cI, 8, .inl (fun _ => 0))), (q55, .inl (cI, 256, .inl (fun _ => 0))), (q64, .inl (cI, 256, .inl (fun _ => 0))), (q73, .inl (cI, 256, .inl (fun _ => 0)))]) H := hP
  have hD : va_D A ([(h, .inr (5, [.int 0, .int 0, .int (-1), .int 0, .int 0, .ref q12, .ref q20, .ref q29, .ref q38, .ref q46, .int 0, .int 0, .ref q55, .ref q64, .ref q73, .null, .null])), (q12, .inl (cI, 8, .inl (fun _ => 0))), (q20, .inl (cI, 8, .inl (fun _ => 0))), (q29, .inl (cI, 8192, .inl (fun _ => 0))), (q38, .inl (cI, 8192, .inl (fun _ => 0))), (q46, .inl (cI, 8, .inl (fun _ => 0))), (q55, .inl (cI, 256, .inl (fun _ => 0))), (q64, .inl (cI, 256, .inl (fun _ => 0))), (q73, .inl (cI, 256, .inl (fun _ => 0)))]) := hD
  refine lv_aload_n hx hb dX5_init_78 rfl (lv_at hl 0 rfl) ?_
  refine lv_sipush (v := 256) hx hb dX5_init_79 (by decide) ?_
  refine ya_newa (atype := .boolean) (ty := .boolean) hx hb (ht _ kw3_132) rfl (fun C h => by cases h) hK 1 rfl hP hD hS hA (a0 := (256, .inl (fun _ => 0))) (fun _ => rfl) (by decide) (by decide +kernel) (by decide +kernel) (Nat.le_of_ble_eq_true rfl) (Nat.le_of_ble_eq_true rfl) dX5_init_82 (fun q82 H hP hD hS => ?_)
  have hP : va_P D vwCl ([(h, .inr (5, [.int 0, .int 0, .int (-1), .int 0, .int 0, .ref q12, .ref q20, .ref q29, .ref q38, .ref q46, .int 0, .int 0, .ref q55, .ref q64, .ref q73, .null, .null])), (q12, .inl (cI, 8, .inl (fun _ => 0))), (q20, .inl (cI, 8, .inl (fun _ => 0))), (q29, .inl (cI, 8192, .inl (fun _ => 0))), (q38, .inl (cI, 8192, .inl (fun _ => 0))), (q46, .inl (cI, 8, .inl (fun _ => 0))), (q55, .inl (cI, 256, .inl (fun _ => 0))), (q64, .inl (cI, 256, .inl (fun _ => 0))), (q73, .inl (cI, 256, .inl (fun _ => 0))), (q82, .inl (cZ, 256, .inl (fun _ => 0)))]) H := hP
  have hD : va_D A ([(h, .inr (5, [.int 0, .int 0, .int (-1), .int 0, .int 0, .ref q12, .ref q20, .ref q29, .ref q38, .ref q46, .int 0, .int 0, .ref q55, .ref q64, .ref q73, .null, .null])), (q12, .inl (cI, 8, .inl (fun _ => 0))), (q20, .inl (cI, 8, .inl (fun _ => 0))), (q29, .inl (cI, 8192, .inl (fun _ => 0))), (q38, .inl (cI, 8192, .inl (fun _ => 0))), (q46, .inl (cI, 8, .inl (fun _ => 0))), (q55, .inl (cI, 256, .inl (fun _ => 0))), (q64, .inl (cI, 256, .inl (fun _ => 0))), (q73, .inl (cI, 256, .inl (fun _ => 0))), (q82, .inl (cZ, 256, .inl (fun _ => 0)))]) := hD
  refine va_putF (D := D) (ci := 5) (v := .ref q82) (ty := .array .boolean) (C := RX5) (T := TX5) (N := 17) hx hb ht inX5 tyX5 tyX5_ok nmX5 hown hK hP hD hS 0 rfl rfl 15 (by decide) (ht _ kw3_95) (fun _ h9 => h9) rfl hin rfl (by decide +kernel) (rfl) rfl (Nat.le_of_ble_eq_true rfl) dX5_init_84 (fun H locs hP hD hS => ?_)
  have hP : va_P D vwCl ([(h, .inr (5, [.int 0, .int 0, .int (-1), .int 0, .int 0, .ref q12, .ref q20, .ref q29, .ref q38, .ref q46, .int 0, .int 0, .ref q55, .ref q64, .ref q73, .ref q82, .null])), (q12, .inl (cI, 8, .inl (fun _ => 0))), (q20, .inl (cI, 8, .inl (fun _ => 0))), (q29, .inl (cI, 8192, .inl (fun _ => 0))), (q38, .inl (cI, 8192, .inl (fun _ => 0))), (q46, .inl (cI, 8, .inl (fun _ => 0))), (q55, .inl (cI, 256, .inl (fun _ => 0))), (q64, .inl (cI, 256, .inl (fun _ => 0))), (q73, .inl (cI, 256, .inl (fun _ => 0))), (q82, .inl (cZ, 256, .inl (fun _ => 0)))]) H := hP
  have hD : va_D A ([(h, .inr (5, [.int 0, .int 0, .int (-1), .int 0, .int 0, .ref q12, .ref q20, .ref q29, .ref q38, .ref q46, .int 0, .int 0, .ref q55, .ref q64, .ref q73, .ref q82, .null])), (q12, .inl (cI, 8, .inl (fun _ => 0))), (q20, .inl (cI, 8, .inl (fun _ => 0))), (q29, .inl (cI, 8192, .inl (fun _ => 0))), (q38, .inl (cI, 8192, .inl (fun _ => 0))), (q46, .inl (cI, 8, .inl (fun _ => 0))), (q55, .inl (cI, 256, .inl (fun _ => 0))), (q64, .inl (cI, 256, .inl (fun _ => 0))), (q73, .inl (cI, 256, .inl (fun _ => 0))), (q82, .inl (cZ, 256, .inl (fun _ => 0)))]) := hD
  refine lv_aload_n hx hb dX5_init_87 rfl (lv_at hl 0 rfl) ?_
  refine lv_sipush (v := 256) hx hb dX5_init_88 (by decide) ?_
  refine ya_newa (atype := .int) (ty := .int) hx hb (ht _ kw1_54) rfl (fun C h => by cases h) hK 0 rfl hP hD hS hA (a0 := (256, .inl (fun _ => 0))) (fun _ => rfl) (by decide) (by decide +kernel) (by decide +kernel) (Nat.le_of_ble_eq_true rfl) (Nat.le_of_ble_eq_true rfl) dX5_init_91 (fun q91 H hP hD hS => ?_)
  have hP : va_P D vwCl ([(h, .inr (5, [.int 0, .int 0, .int (-1), .int 0, .int 0, .ref q12, .ref q20, .ref q29, .ref q38, .ref q46, .int 0, .int 0, .ref q55, .ref q64, .ref q73, .ref q82, .null])), (q12, .inl (cI, 8, .inl (fun _ => 0))), (q20, .inl (cI, 8, .inl (fun _ => 0))), (q29, .inl (cI, 8192, .inl (fun _ => 0))), (q38, .inl (cI, 8192, .inl (fun _ => 0))), (q46, .inl (cI, 8, .inl (fun _ => 0))), (q55, .inl (cI, 256, .inl (fun _ => 0))), (q64, .inl (cI, 256, .inl (fun _ => 0))), (q73, .inl (cI, 256, .inl (fun _ => 0))), (q82, .inl (cZ, 256, .inl (fun _ => 0))), (q91, .inl (cI, 256, .inl (fun _ => 0)))]) H := hP
  have hD : va_D A ([(h, .inr (5, [.int 0, .int 0, .int (-1), .int 0, .int 0, .ref q12, .ref q20, .ref q29, .ref q38, .ref q46, .int 0, .int 0, .ref q55, .ref q64, .ref q73, .ref q82, .null])), (q12, .inl (cI, 8, .inl (fun _ => 0))), (q20, .inl (cI, 8, .inl (fun _ => 0))), (q29, .inl (cI, 8192, .inl (fun _ => 0))), (q38, .inl (cI, 8192, .inl (fun _ => 0))), (q46, .inl (cI, 8, .inl (fun _ => 0))), (q55, .inl (cI, 256, .inl (fun _ => 0))), (q64, .inl (cI, 256, .inl (fun _ => 0))), (q73, .inl (cI, 256, .inl (fun _ => 0))), (q82, .inl (cZ, 256, .inl (fun _ => 0))), (q91, .inl (cI, 256, .inl (fun _ => 0)))]) := hD
  refine va_putF (D := D) (ci := 5) (v := .ref q91) (ty := .array .int) (C := RX5) (T := TX5) (N := 17) hx hb ht inX5 tyX5 tyX5_ok nmX5 hown hK hP hD hS 0 rfl rfl 16 (by decide) (ht _ kw3_96) (fun _ h9 => h9) rfl hin rfl (by decide +kernel) (rfl) rfl (Nat.le_of_ble_eq_true rfl) dX5_init_93 (fun H locs hP hD hS => ?_)
  have hP : va_P D vwCl ([(h, .inr (5, [.int 0, .int 0, .int (-1), .int 0, .int 0, .ref q12, .ref q20, .ref q29, .ref q38, .ref q46, .int 0, .int 0, .ref q55, .ref q64, .ref q73, .ref q82, .ref q91])), (q12, .inl (cI, 8, .inl (fun _ => 0))), (q20, .inl (cI, 8, .inl (fun _ => 0))), (q29, .inl (cI, 8192, .inl (fun _ => 0))), (q38, .inl (cI, 8192, .inl (fun _ => 0))), (q46, .inl (cI, 8, .inl (fun _ => 0))), (q55, .inl (cI, 256, .inl (fun _ => 0))), (q64, .inl (cI, 256, .inl (fun _ => 0))), (q73, .inl (cI, 256, .inl (fun _ => 0))), (q82, .inl (cZ, 256, .inl (fun _ => 0))), (q91, .inl (cI, 256, .inl (fun _ => 0)))]) H := hP
  have hD : va_D A ([(h, .inr (5, [.int 0, .int 0, .int (-1), .int 0, .int 0, .ref q12, .ref q20, .ref q29, .ref q38, .ref q46, .int 0, .int 0, .ref q55, .ref q64, .ref q73, .ref q82, .ref q91])), (q12, .inl (cI, 8, .inl (fun _ => 0))), (q20, .inl (cI, 8, .inl (fun _ => 0))), (q29, .inl (cI, 8192, .inl (fun _ => 0))), (q38, .inl (cI, 8192, .inl (fun _ => 0))), (q46, .inl (cI, 8, .inl (fun _ => 0))), (q55, .inl (cI, 256, .inl (fun _ => 0))), (q64, .inl (cI, 256, .inl (fun _ => 0))), (q73, .inl (cI, 256, .inl (fun _ => 0))), (q82, .inl (cZ, 256, .inl (fun _ => 0))), (q91, .inl (cI, 256, .inl (fun _ => 0)))]) := hD
  refine wcut (j := 141) (fun ls => lv_has ls 6 [(4, .int (nI (clN 16 points))), (3, .int (nI (clN 8 nodes))), (0, .ref h), (1, .int nodes), (2, .int points)]) ?_ ?_
  · intro ls hl
    refine lv_iconst (v := 0) hx hb dX5_init_141 (by decide) ?_
    refine lv_istore (lv' := [(5, .int 0), (4, .int (nI (clN 16 points))), (3, .int (nI (clN 8 nodes))), (0, .ref h), (1, .int nodes), (2, .int points)]) hx hb dX5_init_142 hl (by decide) rfl (fun ls hl => ?_)
    have hP : va_P D vwCl ([(h, .inr (5, [.int 0, .int 0, .int (-1), .int 0, .int 0, .ref q12, .ref q20, .ref q29, .ref q38, .ref q46, .int 0, .int 0, .ref q55, .ref q64, .ref q73, .ref q82, .ref q91])), (q12, .inl (cI, 8, .inl (fil (fun _ => 0) (nI (clN 16 points)) 0))), (q20, .inl (cI, 8, .inl (fun _ => 0))), (q29, .inl (cI, 8192, .inl (fun _ => 0))), (q38, .inl (cI, 8192, .inl (fun _ => 0))), (q46, .inl (cI, 8, .inl (fun _ => 0))), (q55, .inl (cI, 256, .inl (fun _ => 0))), (q64, .inl (cI, 256, .inl (fun _ => 0))), (q73, .inl (cI, 256, .inl (fun _ => 0))), (q82, .inl (cZ, 256, .inl (fun _ => 0))), (q91, .inl (cI, 256, .inl (fun _ => 0)))]) H := by rw [fil_0]; exact hP
    have hD : va_D A ([(h, .inr (5, [.int 0, .int 0, .int (-1), .int 0, .int 0, .ref q12, .ref q20, .ref q29, .ref q38, .ref q46, .int 0, .int 0, .ref q55, .ref q64, .ref q73, .ref q82, .ref q91])), (q12, .inl (cI, 8, .inl (fil (fun _ => 0) (nI (clN 16 points)) 0))), (q20, .inl (cI, 8, .inl (fun _ => 0))), (q29, .inl (cI, 8192, .inl (fun _ => 0))), (q38, .inl (cI, 8192, .inl (fun _ => 0))), (q46, .inl (cI, 8, .inl (fun _ => 0))), (q55, .inl (cI, 256, .inl (fun _ => 0))), (q64, .inl (cI, 256, .inl (fun _ => 0))), (q73, .inl (cI, 256, .inl (fun _ => 0))), (q82, .inl (cZ, 256, .inl (fun _ => 0))), (q91, .inl (cI, 256, .inl (fun _ => 0)))]) := by rw [fil_0]; exact hD
    refine W.widen (k := 10) (n := 17688) (Nat.le_of_ble_eq_true rfl) (Nat.le_of_ble_eq_true rfl) ?_
    have hcl := clN_in (hi := 8) (x := nodes) (by decide) (by decide)
    refine lpB (pc := 144) (ι := Nat) (fun z H locs k9 n9 ls => lv_has ls 6 [(5, .int (nI z)), (4, .int (nI (clN 16 points))), (3, .int (nI (clN 8 nodes))), (0, .ref h), (1, .int nodes), (2, .int points)] ∧ va_P D vwCl ([(h, .inr (5, [.int 0, .int 0, .int (-1), .int 0, .int 0, .ref q12, .ref q20, .ref q29, .ref q38, .ref q46, .int 0, .int 0, .ref q55, .ref q64, .ref q73, .ref q82, .ref q91])), (q12, .inl (cI, 8, .inl (fil (fun _ => 0) (nI (clN 16 points)) z))), (q20, .inl (cI, 8, .inl (fun _ => 0))), (q29, .inl (cI, 8192, .inl (fun _ => 0))), (q38, .inl (cI, 8192, .inl (fun _ => 0))), (q46, .inl (cI, 8, .inl (fun _ => 0))), (q55, .inl (cI, 256, .inl (fun _ => 0))), (q64, .inl (cI, 256, .inl (fun _ => 0))), (q73, .inl (cI, 256, .inl (fun _ => 0))), (q82, .inl (cZ, 256, .inl (fun _ => 0))), (q91, .inl (cI, 256, .inl (fun _ => 0)))]) H ∧ va_D A ([(h, .inr (5, [.int 0, .int 0, .int (-1), .int 0, .int 0, .ref q12, .ref q20, .ref q29, .ref q38, .ref q46, .int 0, .int 0, .ref q55, .ref q64, .ref q73, .ref q82, .ref q91])), (q12, .inl (cI, 8, .inl (fil (fun _ => 0) (nI (clN 16 points)) z))), (q20, .inl (cI, 8, .inl (fun _ => 0))), (q29, .inl (cI, 8192, .inl (fun _ => 0))), (q38, .inl (cI, 8192, .inl (fun _ => 0))), (q46, .inl (cI, 8, .inl (fun _ => 0))), (q55, .inl (cI, 256, .inl (fun _ => 0))), (q64, .inl (cI, 256, .inl (fun _ => 0))), (q73, .inl (cI, 256, .inl (fun _ => 0))), (q82, .inl (cZ, 256, .inl (fun _ => 0))), (q91, .inl (cI, 256, .inl (fun _ => 0)))]) ∧ va_S A s.heap H locs ∧ k9 = 10 ∧ n9 = 17688 ∧ z ≤ clN 8 nodes) (fun z => clN 8 nodes - z) 0 (⟨lv_sub hl [0, 1, 2, 3, 4, 5] rfl, by exact hP, by exact hD, hS, rfl, rfl, Nat.zero_le _⟩) ?_
    intro z H locs k9 n9 ls hI ih144
    obtain ⟨k, e144⟩ : ∃ y, y = z := ⟨_, rfl⟩
    subst e144
    obtain ⟨hl, hP, hD, hS, e9, e8, hinv⟩ := hI
    subst e9
    subst e8
    have hP : va_P D vwCl ([(h, .inr (5, [.int 0, .int 0, .int (-1), .int 0, .int 0, .ref q12, .ref q20, .ref q29, .ref q38, .ref q46, .int 0, .int 0, .ref q55, .ref q64, .ref q73, .ref q82, .ref q91])), (q12, .inl (cI, 8, .inl (fil (fun _ => 0) (nI (clN 16 points)) k))), (q20, .inl (cI, 8, .inl (fun _ => 0))), (q29, .inl (cI, 8192, .inl (fun _ => 0))), (q38, .inl (cI, 8192, .inl (fun _ => 0))), (q46, .inl (cI, 8, .inl (fun _ => 0))), (q55, .inl (cI, 256, .inl (fun _ => 0))), (q64, .inl (cI, 256, .inl (fun _ => 0))), (q73, .inl (cI, 256, .inl (fun _ => 0))), (q82, .inl (cZ, 256, .inl (fun _ => 0))), (q91, .inl (cI, 256, .inl (fun _ => 0)))]) H := hP
    have hD : va_D A ([(h, .inr (5, [.int 0, .int 0, .int (-1), .int 0, .int 0, .ref q12, .ref q20, .ref q29, .ref q38, .ref q46, .int 0, .int 0, .ref q55, .ref q64, .ref q73, .ref q82, .ref q91])), (q12, .inl (cI, 8, .inl (fil (fun _ => 0) (nI (clN 16 points)) k))), (q20, .inl (cI, 8, .inl (fun _ => 0))), (q29, .inl (cI, 8192, .inl (fun _ => 0))), (q38, .inl (cI, 8192, .inl (fun _ => 0))), (q46, .inl (cI, 8, .inl (fun _ => 0))), (q55, .inl (cI, 256, .inl (fun _ => 0))), (q64, .inl (cI, 256, .inl (fun _ => 0))), (q73, .inl (cI, 256, .inl (fun _ => 0))), (q82, .inl (cZ, 256, .inl (fun _ => 0))), (q91, .inl (cI, 256, .inl (fun _ => 0)))]) := hD
    have hl : lv_has ls 6 [(5, .int (nI k)), (4, .int (nI (clN 16 points))), (3, .int (nI (clN 8 nodes))), (0, .ref h), (1, .int nodes), (2, .int points)] := hl
    obtain hkl : k ≤ clN 8 nodes := hinv
    refine lv_iload hx hb dX5_init_144 (lv_at hl 0 rfl) ?_
    refine lv_iload_n hx hb dX5_init_146 rfl (lv_at hl 2 rfl) ?_
    refine lv_icmp_ge (tgt := 165) hx hb dX5_init_147 (by decide) (fun c147 => ?_) (fun c147 => ?_)
    · have hke : k = clN 8 nodes := by
        rcases Nat.lt_or_ge k (clN 8 nodes) with q | q
        · exact absurd c147 (nI_ge q (by omega))
        · omega
      subst hke
      exact W.vret hx hb hr (fun t ht2 hW => ⟨⟨((fun k => [h, q12, q20, q29, q38, q46, q55, q64, q73, q82, q91].getD k 0), fil (fun _ => 0) (nI (clN 16 points)) (clN 8 nodes)), rfl, ⟨rfl, fun n hn => by (dsimp only); unfold fil; split <;> rfl⟩, ⟨by (try dsimp only); rw [ht2]; exact hP, by exact hD⟩⟩, hS.F ht2⟩) hS.2.2 dX5_init_165
    · have hk : k < clN 8 nodes := by
        rcases Nat.lt_or_ge k (clN 8 nodes) with q | q
        · exact q
        · exact absurd (nI_le q (by omega)) c147
      refine lv_aload_n hx hb dX5_init_150 rfl (lv_at hl 3 rfl) ?_
      refine va_get (D := D) (ci := 5) (v := .ref q12) (C := RX5) (T := TX5) (N := 17) hx hb ht inX5 hown hK hP 0 rfl rfl 5 (by decide) (ht _ kw3_85) (fun _ h9 => h9) rfl dX5_init_151 ?_
      refine lv_iload hx hb dX5_init_154 (lv_at hl 0 rfl) ?_
      refine lv_iload hx hb dX5_init_156 (lv_at hl 1 rfl) ?_
      refine ya_iast hx hb hK hP hD hS 1 0 rfl rfl k (rfl) (by omega) (by decide) dX5_init_158 (fun H locs hP hD hS => ?_)
      have hP : va_P D vwCl ([(h, .inr (5, [.int 0, .int 0, .int (-1), .int 0, .int 0, .ref q12, .ref q20, .ref q29, .ref q38, .ref q46, .int 0, .int 0, .ref q55, .ref q64, .ref q73, .ref q82, .ref q91])), (q12, .inl (cI, 8, .inl (upd (fil (fun _ => 0) (nI (clN 16 points)) k) k (nI (clN 16 points))))), (q20, .inl (cI, 8, .inl (fun _ => 0))), (q29, .inl (cI, 8192, .inl (fun _ => 0))), (q38, .inl (cI, 8192, .inl (fun _ => 0))), (q46, .inl (cI, 8, .inl (fun _ => 0))), (q55, .inl (cI, 256, .inl (fun _ => 0))), (q64, .inl (cI, 256, .inl (fun _ => 0))), (q73, .inl (cI, 256, .inl (fun _ => 0))), (q82, .inl (cZ, 256, .inl (fun _ => 0))), (q91, .inl (cI, 256, .inl (fun _ => 0)))]) H := hP
      have hD : va_D A ([(h, .inr (5, [.int 0, .int 0, .int (-1), .int 0, .int 0, .ref q12, .ref q20, .ref q29, .ref q38, .ref q46, .int 0, .int 0, .ref q55, .ref q64, .ref q73, .ref q82, .ref q91])), (q12, .inl (cI, 8, .inl (upd (fil (fun _ => 0) (nI (clN 16 points)) k) k (nI (clN 16 points))))), (q20, .inl (cI, 8, .inl (fun _ => 0))), (q29, .inl (cI, 8192, .inl (fun _ => 0))), (q38, .inl (cI, 8192, .inl (fun _ => 0))), (q46, .inl (cI, 8, .inl (fun _ => 0))), (q55, .inl (cI, 256, .inl (fun _ => 0))), (q64, .inl (cI, 256, .inl (fun _ => 0))), (q73, .inl (cI, 256, .inl (fun _ => 0))), (q82, .inl (cZ, 256, .inl (fun _ => 0))), (q91, .inl (cI, 256, .inl (fun _ => 0)))]) := hD
      refine lv_iinc (v := nI (k + 1)) (lv' := [(5, .int (nI (k + 1))), (4, .int (nI (clN 16 points))), (3, .int (nI (clN 8 nodes))), (0, .ref h), (1, .int nodes), (2, .int points)]) hx hb dX5_init_159 hl (k := 0) rfl (by exact nI_1 k) (by decide) rfl (fun ls hl => ?_)
      refine lv_goto (tgt := 144) hx hb dX5_init_162 (by decide) ?_
      rw [fil_s] at hP hD
      exact ih144 (k + 1) _ _ _ _ ls (⟨lv_sub hl [0, 1, 2, 3, 4, 5] rfl, by exact hP, by exact hD, hS, rfl, rfl, by omega⟩) (by omega)
  · intro K141
    refine lv_iload_n hx hb dX5_init_96 rfl (lv_at hl 1 rfl) ?_
    refine lv_iconst (v := 1) hx hb dX5_init_97 (by decide) ?_
    refine lv_icmp_ge (tgt := 105) hx hb dX5_init_98 (by decide) (fun c98 => ?_) (fun c98 => ?_)
    · refine lv_iload_n hx hb dX5_init_105 rfl (lv_at hl 1 rfl) ?_
      refine lv_bipush (v := 8) hx hb dX5_init_106 (by decide) ?_
      refine lv_icmp_le (tgt := 116) hx hb dX5_init_108 (by decide) (fun c108 => ?_) (fun c108 => ?_)
      · refine lv_iload_n hx hb dX5_init_116 rfl (lv_at hl 1 rfl) ?_
        refine W.eq (g2 := F0 m 117 ls [.int (nI (clN 8 nodes))]) (by rw [show nI (clN 8 nodes) = nodes from clN_mid (Int32.not_lt.mpr c98) (Int32.not_lt.mpr c108)]) ?_
        refine lv_istore_n (lv' := [(3, .int (nI (clN 8 nodes))), (0, .ref h), (1, .int nodes), (2, .int points)]) hx hb dX5_init_117 rfl hl (by decide) rfl (fun ls hl => ?_)
        refine lv_iload_n hx hb dX5_init_118 rfl (lv_at hl 3 rfl) ?_
        refine lv_iconst (v := 1) hx hb dX5_init_119 (by decide) ?_
        refine lv_icmp_ge (tgt := 127) hx hb dX5_init_120 (by decide) (fun c120 => ?_) (fun c120 => ?_)
        · refine lv_iload_n hx hb dX5_init_127 rfl (lv_at hl 3 rfl) ?_
          refine lv_bipush (v := 16) hx hb dX5_init_128 (by decide) ?_
          refine lv_icmp_le (tgt := 138) hx hb dX5_init_130 (by decide) (fun c130 => ?_) (fun c130 => ?_)
          · refine lv_iload_n hx hb dX5_init_138 rfl (lv_at hl 3 rfl) ?_
            refine W.eq (g2 := F0 m 139 ls [.int (nI (clN 16 points))]) (by rw [show nI (clN 16 points) = points from clN_mid (Int32.not_lt.mpr c120) (Int32.not_lt.mpr c130)]) ?_
            refine lv_istore (lv' := [(4, .int (nI (clN 16 points))), (3, .int (nI (clN 8 nodes))), (0, .ref h), (1, .int nodes), (2, .int points)]) hx hb dX5_init_139 hl (by decide) rfl (fun ls hl => ?_)
            exact K141 ls (lv_sub hl [0, 1, 2, 3, 4] rfl)
          · refine lv_bipush (v := 16) hx hb dX5_init_133 (by decide) ?_
            refine lv_goto (tgt := 139) hx hb dX5_init_135 (by decide) ?_
            refine W.eq (g2 := F0 m 139 ls [.int (nI (clN 16 points))]) (by rw [show nI (clN 16 points) = 16 from clN_hi (Int32.not_lt.mpr c120) (Int32.not_le.mp c130)]) ?_
            refine lv_istore (lv' := [(4, .int (nI (clN 16 points))), (3, .int (nI (clN 8 nodes))), (0, .ref h), (1, .int nodes), (2, .int points)]) hx hb dX5_init_139 hl (by decide) rfl (fun ls hl => ?_)
            exact K141 ls (lv_sub hl [0, 1, 2, 3, 4] rfl)
        · refine lv_iconst (v := 1) hx hb dX5_init_123 (by decide) ?_
          refine lv_goto (tgt := 139) hx hb dX5_init_124 (by decide) ?_
          refine W.eq (g2 := F0 m 139 ls [.int (nI (clN 16 points))]) (by rw [show nI (clN 16 points) = 1 from clN_lo (Int32.not_le.mp c120)]) ?_
          refine lv_istore (lv' := [(4, .int (nI (clN 16 points))), (3, .int (nI (clN 8 nodes))), (0, .ref h), (1, .int nodes), (2, .int points)]) hx hb dX5_init_139 hl (by decide) rfl (fun ls hl => ?_)
          exact K141 ls (lv_sub hl [0, 1, 2, 3, 4] rfl)
      · refine lv_bipush (v := 8) hx hb dX5_init_111 (by decide) ?_
        refine lv_goto (tgt := 117) hx hb dX5_init_113 (by decide) ?_
        refine W.eq (g2 := F0 m 117 ls [.int (nI (clN 8 nodes))]) (by rw [show nI (clN 8 nodes) = 8 from clN_hi (Int32.not_lt.mpr c98) (Int32.not_le.mp c108)]) ?_
        refine lv_istore_n (lv' := [(3, .int (nI (clN 8 nodes))), (0, .ref h), (1, .int nodes), (2, .int points)]) hx hb dX5_init_117 rfl hl (by decide) rfl (fun ls hl => ?_)
        refine lv_iload_n hx hb dX5_init_118 rfl (lv_at hl 3 rfl) ?_
        refine lv_iconst (v := 1) hx hb dX5_init_119 (by decide) ?_
        refine lv_icmp_ge (tgt := 127) hx hb dX5_init_120 (by decide) (fun c120 => ?_) (fun c120 => ?_)
        · refine lv_iload_n hx hb dX5_init_127 rfl (lv_at hl 3 rfl) ?_
          refine lv_bipush (v := 16) hx hb dX5_init_128 (by decide) ?_
          refine lv_icmp_le (tgt := 138) hx hb dX5_init_130 (by decide) (fun c130 => ?_) (fun c130 => ?_)
          · refine lv_iload_n hx hb dX5_init_138 rfl (lv_at hl 3 rfl) ?_
            refine W.eq (g2 := F0 m 139 ls [.int (nI (clN 16 points))]) (by rw [show nI (clN 16 points) = points from clN_mid (Int32.not_lt.mpr c120) (Int32.not_lt.mpr c130)]) ?_
            refine lv_istore (lv' := [(4, .int (nI (clN 16 points))), (3, .int (nI (clN 8 nodes))), (0, .ref h), (1, .int nodes), (2, .int points)]) hx hb dX5_init_139 hl (by decide) rfl (fun ls hl => ?_)
            exact K141 ls (lv_sub hl [0, 1, 2, 3, 4] rfl)
          · refine lv_bipush (v := 16) hx hb dX5_init_133 (by decide) ?_
            refine lv_goto (tgt := 139) hx hb dX5_init_135 (by decide) ?_
            refine W.eq (g2 := F0 m 139 ls [.int (nI (clN 16 points))]) (by rw [show nI (clN 16 points) = 16 from clN_hi (Int32.not_lt.mpr c120) (Int32.not_le.mp c130)]) ?_
            refine lv_istore (lv' := [(4, .int (nI (clN 16 points))), (3, .int (nI (clN 8 nodes))), (0, .ref h), (1, .int nodes), (2, .int points)]) hx hb dX5_init_139 hl (by decide) rfl (fun ls hl => ?_)
            exact K141 ls (lv_sub hl [0, 1, 2, 3, 4] rfl)
        · refine lv_iconst (v := 1) hx hb dX5_init_123 (by decide) ?_
          refine lv_goto (tgt := 139) hx hb dX5_init_124 (by decide) ?_
          refine W.eq (g2 := F0 m 139 ls [.int (nI (clN 16 points))]) (by rw [show nI (clN 16 points) = 1 from clN_lo (Int32.not_le.mp c120)]) ?_
          refine lv_istore (lv' := [(4, .int (nI (clN 16 points))), (3, .int (nI (clN 8 nodes))), (0, .ref h), (1, .int nodes), (2, .int points)]) hx hb dX5_init_139 hl (by decide) rfl (fun ls hl => ?_)
          exact K141 ls (lv_sub hl [0, 1, 2, 3, 4] rfl)
    · refine lv_iconst (v := 1) hx hb dX5_init_101 (by decide) ?_
      refine lv_goto (tgt := 117) hx hb dX5_init_102 (by decide) ?_
      refine W.eq (g2 := F0 m 117 ls [.int (nI (clN 8 nodes))]) (by rw [show nI (clN 8 nodes) = 1 from clN_lo (Int32.not_le.mp c98)]) ?_
      refine lv_istore_n (lv' := [(3, .int (nI (clN 8 nodes))), (0, .ref h), (1, .int nodes), (2, .int points)]) hx hb dX5_init_117 rfl hl (by decide) rfl (fun ls hl => ?_)
      refine lv_iload_n hx hb dX5_init_118 rfl (lv_at hl 3 rfl) ?_
      refine lv_iconst (v := 1) hx hb dX5_init_119 (by decide) ?_
      refine lv_icmp_ge (tgt := 127) hx hb dX5_init_120 (by decide) (fun c120 => ?_) (fun c120 => ?_)
      · refine lv_iload_n hx hb dX5_init_127 rfl (lv_at hl 3 rfl) ?_
        refine lv_bipush (v := 16) hx hb dX5_init_128 (by decide) ?_
        refine lv_icmp_le (tgt := 138) hx hb dX5_init_130 (by decide) (fun c130 => ?_) (fun c130 => ?_)
        · refine lv_iload_n hx hb dX5_init_138 rfl (lv_at hl 3 rfl) ?_
          refine W.eq (g2 := F0 m 139 ls [.int (nI (clN 16 points))]) (by rw [show nI (clN 16 points) = points from clN_mid (Int32.not_lt.mpr c120) (Int32.not_lt.mpr c130)]) ?_
          refine lv_istore (lv' := [(4, .int (nI (clN 16 points))), (3, .int (nI (clN 8 nodes))), (0, .ref h), (1, .int nodes), (2, .int points)]) hx hb dX5_init_139 hl (by decide) rfl (fun ls hl => ?_)
          exact K141 ls (lv_sub hl [0, 1, 2, 3, 4] rfl)
        · refine lv_bipush (v := 16) hx hb dX5_init_133 (by decide) ?_
          refine lv_goto (tgt := 139) hx hb dX5_init_135 (by decide) ?_
          refine W.eq (g2 := F0 m 139 ls [.int (nI (clN 16 points))]) (by rw [show nI (clN 16 points) = 16 from clN_hi (Int32.not_lt.mpr c120) (Int32.not_le.mp c130)]) ?_
          refine lv_istore (lv' := [(4, .int (nI (clN 16 points))), (3, .int (nI (clN 8 nodes))), (0, .ref h), (1, .int nodes), (2, .int points)]) hx hb dX5_init_139 hl (by decide) rfl (fun ls hl => ?_)
          exact K141 ls (lv_sub hl [0, 1, 2, 3, 4] rfl)
      · refine lv_iconst (v := 1) hx hb dX5_init_123 (by decide) ?_
        refine lv_goto (tgt := 139) hx hb dX5_init_124 (by decide) ?_
        refine W.eq (g2 := F0 m 139 ls [.int (nI (clN 16 points))]) (by rw [show nI (clN 16 points) = 1 from clN_lo (Int32.not_le.mp c120)]) ?_
        refine lv_istore (lv' := [(4, .int (nI (clN 16 points))), (3, .int (nI (clN 8 nodes))), (0, .ref h), (1, .int nodes), (2, .int points)]) hx hb dX5_init_139 hl (by decide) rfl (fun ls hl => ?_)
        exact K141 ls (lv_sub hl [0, 1, 2, 3, 4] rfl)
