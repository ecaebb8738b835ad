-- the class: Plan
def cB (C : Bool) : Int32 := if C = true then 1 else 0
def PRP (rows : List (Int32 × Nat × Nat)) (L : Nat) (f1 f2 f3 : Nat → Int32) : Prop := rows.length ≤ L ∧ L ≤ 600 ∧ ∀ k, k < rows.length → f1 k = pK rows k ∧ f2 k = nI (pS rows k) ∧ f3 k = nI (pT rows k)
theorem PRP.as {rows : List (Int32 × Nat × Nat)} {L : Nat} {f1 f2 f3 : Nat → Int32} (h : PRP rows L f1 f2 f3) (hs' : Srt (pkl rows)) : AS f1 rows.length := fun i j hij hj => by rw [(h.2.2 i (by omega)).1, (h.2.2 j hj).1, ← pkl_kx, ← pkl_kx]; exact hs' i j hij (by rw [pkl_len]; exact hj)
theorem prow_of_BW {rows : List (Int32 × Nat × Nat)} {f : Nat → Int32} {key : Int32} {k : Nat} (h : ∀ j, j < rows.length → f j = pK rows j) (hb : BW f rows.length key k) : k = prow rows key :=
  rk_of_BW (l := pkl rows) (f := f) (fun j hj => by rw [pkl_kx]; rw [pkl_len] at hj; exact h j hj) (by rw [pkl_len]; exact hb)
theorem PRP.ins {rows : List (Int32 × Nat × Nat)} {L L' : Nat} {f1 f2 f3 g1 g2 g3 : Nat → Int32} (h : PRP rows L f1 f2 f3) (e : Int32 × Nat × Nat) (hl : rows.length < 256) (eL : L' = if rows.length < L then L else 2 * rows.length + 1) (h1 : INS f1 rows.length (prow rows e.1) e.1 g1) (h2 : INS f2 rows.length (prow rows e.1) (nI e.2.1) g2) (h3 : INS f3 rows.length (prow rows e.1) (nI e.2.2) g3) : PRP (insP rows e) L' g1 g2 g3 := by
  obtain ⟨a, b, h9⟩ := h
  have hp := prow_le rows e.1
  refine ⟨by rw [insP_len, eL]; split <;> omega, by rw [eL]; split <;> omega, fun k hk => ?_⟩
  rw [insP_len] at hk
  have q := insP_get rows e k
  rw [h1 k hk, h2 k hk, h3 k hk]
  unfold pK pS pT
  rw [q]
  by_cases c1 : k < prow rows e.1
  · rw [if_pos c1, if_pos c1, if_pos c1, if_pos c1]; exact h9 k (by omega)
  · rw [if_neg c1, if_neg c1, if_neg c1, if_neg c1]
    by_cases c2 : k = prow rows e.1
    · rw [if_pos c2, if_pos c2, if_pos c2, if_pos c2]; exact ⟨rfl, rfl, rfl⟩
    · rw [if_neg c2, if_neg c2, if_neg c2, if_neg c2]; exact h9 (k - 1) (by omega)

set_option maxHeartbeats 4000000 in
set_option maxRecDepth 100000 in
theorem c_X0_init (l : Launch) (D : va_G) (cI cZ cS cJ : ClassId) (sz : Nat) (h : Nat) : Met l yX0_init (Cond.code yX0_init cX0_init 1 none :: TB) ({ frames := 1, cells := 3, slots := 96, locals := 16 } : Room) (va_Pc [.ref h] (PB D (KT cI cZ cS cJ) ([(h, .inr (0, [.null, .null, .null, .int 0, .int 0, .int 0, .int 0, .int 0]))]) sz)) (va_Qv (fun (_ : Nat × Nat × Nat) => True) (fun (u : Nat × Nat × Nat) t => va_P D vwCl [(h, .inr (0, [.ref u.1, .ref u.2.1, .ref u.2.2, .int 0, .int 0, .int 0, .int 0, .int 0])), (u.1, .inl (cI, 32, .inl (fun _ => 0))), (u.2.1, .inl (cI, 32, .inl (fun _ => 0))), (u.2.2, .inl (cI, 32, .inl (fun _ => 0)))] t.heap ∧ va_D (va_A [(h, .inr (0, [.null, .null, .null, .int 0, .int 0, .int 0, .int 0, .int 0]))] sz) [(h, .inr (0, [.ref u.1, .ref u.2.1, .ref u.2.2, .int 0, .int 0, .int 0, .int 0, .int 0])), (u.1, .inl (cI, 32, .inl (fun _ => 0))), (u.2.1, .inl (cI, 32, .inl (fun _ => 0))), (u.2.2, .inl (cI, 32, .inl (fun _ => 0)))]) (va_A ([(h, .inr (0, [.null, .null, .null, .int 0, .int 0, .int 0, .int 0, .int 0]))]) sz)) 3 96 (va_A ([(h, .inr (0, [.null, .null, .null, .int 0, .int 0, .int 0, .int 0, .int 0]))]) sz) := by
  refine Met.ofW (cc := cX0_init) (maxL := 1) (ret := none) (by decide) rfl ?_
  intro p e s m args below meth c s₁ B hml hv
  obtain ⟨rfl, hsz, hP, hK, hD0⟩ := hv
  have hx := B.exec
  have hb := B.bytes
  have hr := B.returns
  have hts := atoms_spec (ws := (Cond.code yX0_init cX0_init 1 none :: TB)) B.pre
  have ht : ∀ w ∈ TB, w.before _ s = true := fun w h => hts w (List.mem_cons_of_mem _ h)
  have hown : s.vm.findClass RX0 = some m.cls := findClass_of_methodNamed B.named
  have hlocks := B.notSynchronized
  have hin : meth.name = "<init>" := (name_of_methodNamed B.named B.method).1
  subst hsz
  have hD := hD0.self (sz := s.heap.size)
  generalize hAe : va_A ([(h, .inr (0, [.null, .null, .null, .int 0, .int 0, .int 0, .int 0, .int 0]))]) s.heap.size = A at hD ⊢
  have hA : ∀ q : Nat, s.heap.size ≤ q → A q := fun q h => by rw [← hAe]; exact Or.inr h
  have hS : va_S A s.heap s.heap [] := va_S.rf
  have hP : va_P D vwCl ([(h, .inr (0, [.null, .null, .null, .int 0, .int 0, .int 0, .int 0, .int 0]))]) s.heap := hP
  have hl := lv_entry ([.ref h]) (n := 1) (Nat.le_of_ble_eq_true rfl)
  rw [lg_entry_eq]
  generalize (lg_sl ([.ref h]) ++ List.replicate (1 - (lg_sl ([.ref h])).length) Slot.unset).toArray = ls at hl ⊢
  have hl : lv_has ls 1 [(0, .ref h)] := hl
  refine lv_aload_n hx hb dX0_init_0 rfl (lv_at hl 0 rfl) ?_
  refine W.objInit hx hb hown (ht _ kw1_62) (ht _ kw1_25) (ht _ kw1_26) rfl (by rw [hml]; exact hl.1) rfl dX0_init_1 (Nat.le_of_ble_eq_true rfl) (Nat.le_of_ble_eq_true rfl) ?_
  refine W.eq (g2 := F0 m 4 ls []) rfl ?_
  refine lv_aload_n hx hb dX0_init_4 rfl (lv_at hl 0 rfl) ?_
  refine lv_bipush (v := 32) hx hb dX0_init_5 (by decide) ?_
  refine ya_newa (atype := .int) (ty := .int) hx hb (ht _ kw1_54) rfl (fun C h => by cases h) hK 0 rfl hP hD hS hA (a0 := (32, .inl (fun _ => 0))) (fun _ => rfl) (by decide) (by decide +kernel) (by decide +kernel) (Nat.le_of_ble_eq_true rfl) (Nat.le_of_ble_eq_true rfl) dX0_init_7 (fun q7 H hP hD hS => ?_)
  have hP : va_P D vwCl ([(h, .inr (0, [.null, .null, .null, .int 0, .int 0, .int 0, .int 0, .int 0])), (q7, .inl (cI, 32, .inl (fun _ => 0)))]) H := hP
  have hD : va_D A ([(h, .inr (0, [.null, .null, .null, .int 0, .int 0, .int 0, .int 0, .int 0])), (q7, .inl (cI, 32, .inl (fun _ => 0)))]) := hD
  refine va_put (D := D) (ci := 0) (v := .ref q7) (ty := .array .int) (C := RX0) (T := TX0) (N := 8) hx hb ht inX0 tyX0 tyX0_ok nmX0 hown hK hP hD hS 0 rfl rfl 0 (by decide) (ht _ kw1_63) (fun _ h9 => h9) rfl (by decide +kernel) (rfl) rfl (Nat.le_of_ble_eq_true rfl) dX0_init_9 (fun H locs hP hD hS => ?_)
  have hP : va_P D vwCl ([(h, .inr (0, [.ref q7, .null, .null, .int 0, .int 0, .int 0, .int 0, .int 0])), (q7, .inl (cI, 32, .inl (fun _ => 0)))]) H := hP
  have hD : va_D A ([(h, .inr (0, [.ref q7, .null, .null, .int 0, .int 0, .int 0, .int 0, .int 0])), (q7, .inl (cI, 32, .inl (fun _ => 0)))]) := hD
  refine lv_aload_n hx hb dX0_init_12 rfl (lv_at hl 0 rfl) ?_
  refine lv_bipush (v := 32) hx hb dX0_init_13 (by decide) ?_
  refine ya_newa (atype := .int) (ty := .int) hx hb (ht _ kw1_54) rfl (fun C h => by cases h) hK 0 rfl hP hD hS hA (a0 := (32, .inl (fun _ => 0))) (fun _ => rfl) (by decide) (by decide +kernel) (by decide +kernel) (Nat.le_of_ble_eq_true rfl) (Nat.le_of_ble_eq_true rfl) dX0_init_15 (fun q15 H hP hD hS => ?_)
  have hP : va_P D vwCl ([(h, .inr (0, [.ref q7, .null, .null, .int 0, .int 0, .int 0, .int 0, .int 0])), (q7, .inl (cI, 32, .inl (fun _ => 0))), (q15, .inl (cI, 32, .inl (fun _ => 0)))]) H := hP
  have hD : va_D A ([(h, .inr (0, [.ref q7, .null, .null, .int 0, .int 0, .int 0, .int 0, .int 0])), (q7, .inl (cI, 32, .inl (fun _ => 0))), (q15, .inl (cI, 32, .inl (fun _ => 0)))]) := hD
  refine va_put (D := D) (ci := 0) (v := .ref q15) (ty := .array .int) (C := RX0) (T := TX0) (N := 8) hx hb ht inX0 tyX0 tyX0_ok nmX0 hown hK hP hD hS 0 rfl rfl 1 (by decide) (ht _ kw1_65) (fun _ h9 => h9) rfl (by decide +kernel) (rfl) rfl (Nat.le_of_ble_eq_true rfl) dX0_init_17 (fun H locs hP hD hS => ?_)
  have hP : va_P D vwCl ([(h, .inr (0, [.ref q7, .ref q15, .null, .int 0, .int 0, .int 0, .int 0, .int 0])), (q7, .inl (cI, 32, .inl (fun _ => 0))), (q15, .inl (cI, 32, .inl (fun _ => 0)))]) H := hP
  have hD : va_D A ([(h, .inr (0, [.ref q7, .ref q15, .null, .int 0, .int 0, .int 0, .int 0, .int 0])), (q7, .inl (cI, 32, .inl (fun _ => 0))), (q15, .inl (cI, 32, .inl (fun _ => 0)))]) := hD
  refine lv_aload_n hx hb dX0_init_20 rfl (lv_at hl 0 rfl) ?_
  refine lv_bipush (v := 32) hx hb dX0_init_21 (by decide) ?_
  refine ya_newa (atype := .int) (ty := .int) hx hb (ht _ kw1_54) rfl (fun C h => by cases h) hK 0 rfl hP hD hS hA (a0 := (32, .inl (fun _ => 0))) (fun _ => rfl) (by decide) (by decide +kernel) (by decide +kernel) (Nat.le_of_ble_eq_true rfl) (Nat.le_of_ble_eq_true rfl) dX0_init_23 (fun q23 H hP hD hS => ?_)
  have hP : va_P D vwCl ([(h, .inr (0, [.ref q7, .ref q15, .null, .int 0, .int 0, .int 0, .int 0, .int 0])), (q7, .inl (cI, 32, .inl (fun _ => 0))), (q15, .inl (cI, 32, .inl (fun _ => 0))), (q23, .inl (cI, 32, .inl (fun _ => 0)))]) H := hP
  have hD : va_D A ([(h, .inr (0, [.ref q7, .ref q15, .null, .int 0, .int 0, .int 0, .int 0, .int 0])), (q7, .inl (cI, 32, .inl (fun _ => 0))), (q15, .inl (cI, 32, .inl (fun _ => 0))), (q23, .inl (cI, 32, .inl (fun _ => 0)))]) := hD
  refine va_put (D := D) (ci := 0) (v := .ref q23) (ty := .array .int) (C := RX0) (T := TX0) (N := 8) hx hb ht inX0 tyX0 tyX0_ok nmX0 hown hK hP hD hS 0 rfl rfl 2 (by decide) (ht _ kw1_67) (fun _ h9 => h9) rfl (by decide +kernel) (rfl) rfl (Nat.le_of_ble_eq_true rfl) dX0_init_25 (fun H locs hP hD hS => ?_)
  have hP : va_P D vwCl ([(h, .inr (0, [.ref q7, .ref q15, .ref q23, .int 0, .int 0, .int 0, .int 0, .int 0])), (q7, .inl (cI, 32, .inl (fun _ => 0))), (q15, .inl (cI, 32, .inl (fun _ => 0))), (q23, .inl (cI, 32, .inl (fun _ => 0)))]) H := hP
  have hD : va_D A ([(h, .inr (0, [.ref q7, .ref q15, .ref q23, .int 0, .int 0, .int 0, .int 0, .int 0])), (q7, .inl (cI, 32, .inl (fun _ => 0))), (q15, .inl (cI, 32, .inl (fun _ => 0))), (q23, .inl (cI, 32, .inl (fun _ => 0)))]) := hD
  refine W.widen (k := 3) (n := 96) (Nat.le_of_ble_eq_true rfl) (Nat.le_of_ble_eq_true rfl) ?_
  exact W.vret hx hb hr (fun t ht2 hW => ⟨⟨(q7, q15, q23), rfl, trivial, ⟨by (try dsimp only); rw [ht2]; exact hP, by exact hD⟩⟩, hS.F ht2⟩) hS.2.2 dX0_init_28

set_option maxHeartbeats 4000000 in
set_option maxRecDepth 100000 in
theorem c_X0_forgetUnwritten (l : Launch) (D : va_G) (cI cZ cS cJ : ClassId) (sz : Nat) (h ka sa ta L : Nat) (f1 f2 f3 : Nat → Int32) (op : Int32) (rows : List (Int32 × Nat × Nat)) (F Gn : Nat) (C : Bool) (hr9 : PRP rows L f1 f2 f3) (hl9 : rows.length ≤ 256) (hF : F ≤ 256) (hGn : Gn ≤ 256)  : Met l yX0_forgetUnwritten (Cond.code yX0_forgetUnwritten cX0_forgetUnwritten 1 none :: TB) ({ frames := 0, cells := 0, slots := 0, locals := 0 } : Room) (va_Pc [.ref h] (PB D (KT cI cZ cS cJ) ([(h, .inr (0, [.ref ka, .ref sa, .ref ta, .int (nI rows.length), .int op, .int (nI F), .int (nI Gn), .int (cB C)])), (ka, .inl (cI, L, .inl f1)), (sa, .inl (cI, L, .inl f2)), (ta, .inl (cI, L, .inl f3))]) sz)) (va_Qv (fun (_ : Unit) => True) (fun (_ : Unit) t => va_P D vwCl [(h, .inr (0, [.ref ka, .ref sa, .ref ta, .int (nI rows.length), .int op, .int (nI F), .int 0, .int 0])), (ka, .inl (cI, L, .inl f1)), (sa, .inl (cI, L, .inl f2)), (ta, .inl (cI, L, .inl f3))] t.heap ∧ va_D (va_A [(h, .inr (0, [.ref ka, .ref sa, .ref ta, .int (nI rows.length), .int op, .int (nI F), .int (nI Gn), .int (cB C)])), (ka, .inl (cI, L, .inl f1)), (sa, .inl (cI, L, .inl f2)), (ta, .inl (cI, L, .inl f3))] sz) [(h, .inr (0, [.ref ka, .ref sa, .ref ta, .int (nI rows.length), .int op, .int (nI F), .int 0, .int 0])), (ka, .inl (cI, L, .inl f1)), (sa, .inl (cI, L, .inl f2)), (ta, .inl (cI, L, .inl f3))]) (va_A ([(h, .inr (0, [.ref ka, .ref sa, .ref ta, .int (nI rows.length), .int op, .int (nI F), .int (nI Gn), .int (cB C)])), (ka, .inl (cI, L, .inl f1)), (sa, .inl (cI, L, .inl f2)), (ta, .inl (cI, L, .inl f3))]) sz)) 0 0 (va_A ([(h, .inr (0, [.ref ka, .ref sa, .ref ta, .int (nI rows.length), .int op, .int (nI F), .int (nI Gn), .int (cB C)])), (ka, .inl (cI, L, .inl f1)), (sa, .inl (cI, L, .inl f2)), (ta, .inl (cI, L, .inl f3))]) sz) := by
  refine Met.ofW (cc := cX0_forgetUnwritten) (maxL := 1) (ret := none) (by decide) rfl ?_
  intro p e s m args below meth c s₁ B hml hv
  obtain ⟨rfl, hsz, hP, hK, hD0⟩ := hv
  have hx := B.exec
  have hb := B.bytes
  have hr := B.returns
  have hts := atoms_spec (ws := (Cond.code yX0_forgetUnwritten cX0_forgetUnwritten 1 none :: TB)) B.pre
  have ht : ∀ w ∈ TB, w.before _ s = true := fun w h => hts w (List.mem_cons_of_mem _ h)
  have hown : s.vm.findClass RX0 = some m.cls := findClass_of_methodNamed B.named
  have hlocks := B.notSynchronized
  subst hsz
  have hD := hD0.self (sz := s.heap.size)
  generalize hAe : va_A ([(h, .inr (0, [.ref ka, .ref sa, .ref ta, .int (nI rows.length), .int op, .int (nI F), .int (nI Gn), .int (cB C)])), (ka, .inl (cI, L, .inl f1)), (sa, .inl (cI, L, .inl f2)), (ta, .inl (cI, L, .inl f3))]) s.heap.size = A at hD ⊢
  have hA : ∀ q : Nat, s.heap.size ≤ q → A q := fun q h => by rw [← hAe]; exact Or.inr h
  have hS : va_S A s.heap s.heap [] := va_S.rf
  have hP : va_P D vwCl ([(h, .inr (0, [.ref ka, .ref sa, .ref ta, .int (nI rows.length), .int op, .int (nI F), .int (nI Gn), .int (cB C)])), (ka, .inl (cI, L, .inl f1)), (sa, .inl (cI, L, .inl f2)), (ta, .inl (cI, L, .inl f3))]) s.heap := hP
  have hl := lv_entry ([.ref h]) (n := 1) (Nat.le_of_ble_eq_true rfl)
  rw [lg_entry_eq]
  generalize (lg_sl ([.ref h]) ++ List.replicate (1 - (lg_sl ([.ref h])).length) Slot.unset).toArray = ls at hl ⊢
  have hl : lv_has ls 1 [(0, .ref h)] := hl
  refine lv_aload_n hx hb dX0_forgetUnwritten_0 rfl (lv_at hl 0 rfl) ?_
  refine lv_iconst (v := 0) hx hb dX0_forgetUnwritten_1 (by decide) ?_
  refine va_put (D := D) (ci := 0) (v := .int 0) (ty := .int) (C := RX0) (T := TX0) (N := 8) hx hb ht inX0 tyX0 tyX0_ok nmX0 hown hK hP hD hS 0 rfl rfl 6 (by decide) (ht _ kw1_75) (fun _ h9 => h9) rfl (by decide +kernel) (rfl) rfl (Nat.le_of_ble_eq_true rfl) dX0_forgetUnwritten_2 (fun H locs hP hD hS => ?_)
  have hP : va_P D vwCl ([(h, .inr (0, [.ref ka, .ref sa, .ref ta, .int (nI rows.length), .int op, .int (nI F), .int 0, .int (cB C)])), (ka, .inl (cI, L, .inl f1)), (sa, .inl (cI, L, .inl f2)), (ta, .inl (cI, L, .inl f3))]) H := hP
  have hD : va_D A ([(h, .inr (0, [.ref ka, .ref sa, .ref ta, .int (nI rows.length), .int op, .int (nI F), .int 0, .int (cB C)])), (ka, .inl (cI, L, .inl f1)), (sa, .inl (cI, L, .inl f2)), (ta, .inl (cI, L, .inl f3))]) := hD
  refine lv_aload_n hx hb dX0_forgetUnwritten_5 rfl (lv_at hl 0 rfl) ?_
  refine lv_iconst (v := 0) hx hb dX0_forgetUnwritten_6 (by decide) ?_
  refine va_put (D := D) (ci := 0) (v := .int 0) (ty := .boolean) (C := RX0) (T := TX0) (N := 8) hx hb ht inX0 tyX0 tyX0_ok nmX0 hown hK hP hD hS 0 rfl rfl 7 (by decide) (ht _ kw1_77) (fun _ h9 => h9) rfl (by decide +kernel) (by decide +kernel) rfl (Nat.le_of_ble_eq_true rfl) dX0_forgetUnwritten_7 (fun H locs hP hD hS => ?_)
  have hP : va_P D vwCl ([(h, .inr (0, [.ref ka, .ref sa, .ref ta, .int (nI rows.length), .int op, .int (nI F), .int 0, .int 0])), (ka, .inl (cI, L, .inl f1)), (sa, .inl (cI, L, .inl f2)), (ta, .inl (cI, L, .inl f3))]) H := hP
  have hD : va_D A ([(h, .inr (0, [.ref ka, .ref sa, .ref ta, .int (nI rows.length), .int op, .int (nI F), .int 0, .int 0])), (ka, .inl (cI, L, .inl f1)), (sa, .inl (cI, L, .inl f2)), (ta, .inl (cI, L, .inl f3))]) := hD
  exact W.vret hx hb hr (fun t ht2 hW => ⟨⟨(), rfl, trivial, ⟨by (try dsimp only); rw [ht2]; exact hP, by exact hD⟩⟩, hS.F ht2⟩) hS.2.2 dX0_forgetUnwritten_10

set_option maxHeartbeats 4000000 in
set_option maxRecDepth 100000 in
theorem c_X0_end (l : Launch) (D : va_G) (cI cZ cS cJ : ClassId) (sz : Nat) (h ka sa ta L : Nat) (f1 f2 f3 : Nat → Int32) (op : Int32) (rows : List (Int32 × Nat × Nat)) (F Gn : Nat) (C : Bool) (hr9 : PRP rows L f1 f2 f3) (hl9 : rows.length ≤ 256) (hF : F ≤ 256) (hGn : Gn ≤ 256)  : Met l yX0_end (Cond.code yX0_end cX0_end 1 none :: TB) ({ frames := 1, cells := 0, slots := 0, locals := 20 } : Room) (va_Pc [.ref h] (PB D (KT cI cZ cS cJ) ([(h, .inr (0, [.ref ka, .ref sa, .ref ta, .int (nI rows.length), .int op, .int (nI F), .int (nI Gn), .int (cB C)])), (ka, .inl (cI, L, .inl f1)), (sa, .inl (cI, L, .inl f2)), (ta, .inl (cI, L, .inl f3))]) sz)) (va_Qv (fun (_ : Unit) => True) (fun (_ : Unit) t => va_P D vwCl [(h, .inr (0, [.ref ka, .ref sa, .ref ta, .int (nI 0), .int 0, .int (nI 0), .int 0, .int 0])), (ka, .inl (cI, L, .inl f1)), (sa, .inl (cI, L, .inl f2)), (ta, .inl (cI, L, .inl f3))] t.heap ∧ va_D (va_A [(h, .inr (0, [.ref ka, .ref sa, .ref ta, .int (nI rows.length), .int op, .int (nI F), .int (nI Gn), .int (cB C)])), (ka, .inl (cI, L, .inl f1)), (sa, .inl (cI, L, .inl f2)), (ta, .inl (cI, L, .inl f3))] sz) [(h, .inr (0, [.ref ka, .ref sa, .ref ta, .int (nI 0), .int 0, .int (nI 0), .int 0, .int 0])), (ka, .inl (cI, L, .inl f1)), (sa, .inl (cI, L, .inl f2)), (ta, .inl (cI, L, .inl f3))]) (va_A ([(h, .inr (0, [.ref ka, .ref sa, .ref ta, .int (nI rows.length), .int op, .int (nI F), .int (nI Gn), .int (cB C)])), (ka, .inl (cI, L, .inl f1)), (sa, .inl (cI, L, .inl f2)), (ta, .inl (cI, L, .inl f3))]) sz)) 0 0 (va_A ([(h, .inr (0, [.ref ka, .ref sa, .ref ta, .int (nI rows.length), .int op, .int (nI F), .int (nI Gn), .int (cB C)])), (ka, .inl (cI, L, .inl f1)), (sa, .inl (cI, L, .inl f2)), (ta, .inl (cI, L, .inl f3))]) sz) := by
  refine Met.ofW (cc := cX0_end) (maxL := 1) (ret := none) (by decide) rfl ?_
  intro p e s m args below meth c s₁ B hml hv
  obtain ⟨rfl, hsz, hP, hK, hD0⟩ := hv
  have hx := B.exec
  have hb := B.bytes
  have hr := B.returns
  have hts := atoms_spec (ws := (Cond.code yX0_end cX0_end 1 none :: TB)) B.pre
  have ht : ∀ w ∈ TB, w.before _ s = true := fun w h => hts w (List.mem_cons_of_mem _ h)
  have hown : s.vm.findClass RX0 = some m.cls := findClass_of_methodNamed B.named
  have hlocks := B.notSynchronized
  subst hsz
  have hD := hD0.self (sz := s.heap.size)
  generalize hAe : va_A ([(h, .inr (0, [.ref ka, .ref sa, .ref ta, .int (nI rows.length), .int op, .int (nI F), .int (nI Gn), .int (cB C)])), (ka, .inl (cI, L, .inl f1)), (sa, .inl (cI, L, .inl f2)), (ta, .inl (cI, L, .inl f3))]) s.heap.size = A at hD ⊢
  have hA : ∀ q : Nat, s.heap.size ≤ q → A q := fun q h => by rw [← hAe]; exact Or.inr h
  have hS : va_S A s.heap s.heap [] := va_S.rf
  have hP : va_P D vwCl ([(h, .inr (0, [.ref ka, .ref sa, .ref ta, .int (nI rows.length), .int op, .int (nI F), .int (nI Gn), .int (cB C)])), (ka, .inl (cI, L, .inl f1)), (sa, .inl (cI, L, .inl f2)), (ta, .inl (cI, L, .inl f3))]) s.heap := hP
  have hl := lv_entry ([.ref h]) (n := 1) (Nat.le_of_ble_eq_true rfl)
  rw [lg_entry_eq]
  generalize (lg_sl ([.ref h]) ++ List.replicate (1 - (lg_sl ([.ref h])).length) Slot.unset).toArray = ls at hl ⊢
  have hl : lv_has ls 1 [(0, .ref h)] := hl
  refine lv_aload_n hx hb dX0_end_0 rfl (lv_at hl 0 rfl) ?_
  refine lv_iconst (v := 0) hx hb dX0_end_1 (by decide) ?_
  refine va_put (D := D) (ci := 0) (v := .int 0) (ty := .boolean) (C := RX0) (T := TX0) (N := 8) hx hb ht inX0 tyX0 tyX0_ok nmX0 hown hK hP hD hS 0 rfl rfl 4 (by decide) (ht _ kw1_71) (fun _ h9 => h9) rfl (by decide +kernel) (by decide +kernel) rfl (Nat.le_of_ble_eq_true rfl) dX0_end_2 (fun H locs hP hD hS => ?_)
  have hP : va_P D vwCl ([(h, .inr (0, [.ref ka, .ref sa, .ref ta, .int (nI rows.length), .int 0, .int (nI F), .int (nI Gn), .int (cB C)])), (ka, .inl (cI, L, .inl f1)), (sa, .inl (cI, L, .inl f2)), (ta, .inl (cI, L, .inl f3))]) H := hP
  have hD : va_D A ([(h, .inr (0, [.ref ka, .ref sa, .ref ta, .int (nI rows.length), .int 0, .int (nI F), .int (nI Gn), .int (cB C)])), (ka, .inl (cI, L, .inl f1)), (sa, .inl (cI, L, .inl f2)), (ta, .inl (cI, L, .inl f3))]) := hD
  refine lv_aload_n hx hb dX0_end_5 rfl (lv_at hl 0 rfl) ?_
  refine lv_iconst (v := 0) hx hb dX0_end_6 (by decide) ?_
  refine va_put (D := D) (ci := 0) (v := .int 0) (ty := .int) (C := RX0) (T := TX0) (N := 8) hx hb ht inX0 tyX0 tyX0_ok nmX0 hown hK hP hD hS 0 rfl rfl 3 (by decide) (ht _ kw1_69) (fun _ h9 => h9) rfl (by decide +kernel) (rfl) rfl (Nat.le_of_ble_eq_true rfl) dX0_end_7 (fun H locs hP hD hS => ?_)
  have hP : va_P D vwCl ([(h, .inr (0, [.ref ka, .ref sa, .ref ta, .int 0, .int 0, .int (nI F), .int (nI Gn), .int (cB C)])), (ka, .inl (cI, L, .inl f1)), (sa, .inl (cI, L, .inl f2)), (ta, .inl (cI, L, .inl f3))]) H := hP
  have hD : va_D A ([(h, .inr (0, [.ref ka, .ref sa, .ref ta, .int 0, .int 0, .int (nI F), .int (nI Gn), .int (cB C)])), (ka, .inl (cI, L, .inl f1)), (sa, .inl (cI, L, .inl f2)), (ta, .inl (cI, L, .inl f3))]) := hD
  refine lv_aload_n hx hb dX0_end_10 rfl (lv_at hl 0 rfl) ?_
  refine lv_iconst (v := 0) hx hb dX0_end_11 (by decide) ?_
  refine va_put (D := D) (ci := 0) (v := .int 0) (ty := .int) (C := RX0) (T := TX0) (N := 8) hx hb ht inX0 tyX0 tyX0_ok nmX0 hown hK hP hD hS 0 rfl rfl 5 (by decide) (ht _ kw1_73) (fun _ h9 => h9) rfl (by decide +kernel) (rfl) rfl (Nat.le_of_ble_eq_true rfl) dX0_end_12 (fun H locs hP hD hS => ?_)
  have hP : va_P D vwCl ([(h, .inr (0, [.ref ka, .ref sa, .ref ta, .int 0, .int 0, .int 0, .int (nI Gn), .int (cB C)])), (ka, .inl (cI, L, .inl f1)), (sa, .inl (cI, L, .inl f2)), (ta, .inl (cI, L, .inl f3))]) H := hP
  have hD : va_D A ([(h, .inr (0, [.ref ka, .ref sa, .ref ta, .int 0, .int 0, .int 0, .int (nI Gn), .int (cB C)])), (ka, .inl (cI, L, .inl f1)), (sa, .inl (cI, L, .inl f2)), (ta, .inl (cI, L, .inl f3))]) := hD
  have hP : va_P D vwCl ([(h, .inr (0, [.ref ka, .ref sa, .ref ta, .int (nI 0), .int 0, .int (nI 0), .int (nI Gn), .int (cB C)])), (ka, .inl (cI, L, .inl f1)), (sa, .inl (cI, L, .inl f2)), (ta, .inl (cI, L, .inl f3))]) H := hP
  have hD : va_D A ([(h, .inr (0, [.ref ka, .ref sa, .ref ta, .int (nI 0), .int 0, .int (nI 0), .int (nI Gn), .int (cB C)])), (ka, .inl (cI, L, .inl f1)), (sa, .inl (cI, L, .inl f2)), (ta, .inl (cI, L, .inl f3))]) := hD
  refine lv_aload_n hx hb dX0_end_15 rfl (lv_at hl 0 rfl) ?_
  have hPc := hP.sub (ws' := [(h, .inr (0, [.ref ka, .ref sa, .ref ta, .int (nI 0), .int 0, .int (nI 0), .int (nI Gn), .int (cB C)])), (ka, .inl (cI, L, .inl f1)), (sa, .inl (cI, L, .inl f2)), (ta, .inl (cI, L, .inl f3))]) [0, 1, 2, 3] rfl
  have hDc := hD.sub (ws' := [(h, .inr (0, [.ref ka, .ref sa, .ref ta, .int (nI 0), .int 0, .int (nI 0), .int (nI Gn), .int (cB C)])), (ka, .inl (cI, L, .inl f1)), (sa, .inl (cI, L, .inl f2)), (ta, .inl (cI, L, .inl f3))]) [0, 1, 2, 3] (by decide) rfl
  have hFc := va_free (wc := [(h, .inr (0, [.ref ka, .ref sa, .ref ta, .int (nI 0), .int 0, .int (nI 0), .int (nI Gn), .int (cB C)])), (ka, .inl (cI, L, .inl f1)), (sa, .inl (cI, L, .inl f2)), (ta, .inl (cI, L, .inl f3))]) hD hS hA [0, 1, 2, 3] rfl
  refine va_callv (va_runV (As := []) (rest := []) ⟨hx, hb, hml, hown, ht⟩ (c_X0_forgetUnwritten l D cI cZ cS cJ H.size h ka sa ta L f1 f2 f3 0 [] 0 Gn C ⟨Nat.zero_le _, hr9.2.1, fun k hk => absurd hk (Nat.not_lt_zero _)⟩ (Nat.zero_le _) (Nat.zero_le _) hGn) (xwV 0 ht kw2_226 kw2_223 kw1_4 kw2_225 kwS_22 rfl rfl (by decide +kernel) ⟨Nat.le_of_ble_eq_true rfl, Nat.le_of_ble_eq_true rfl⟩) ⟨PB.blind, va_recv hK hPc (ci := 0) (q0 := 0) rfl rfl, fun U hU hW => PB.mk hU hW hPc hK hDc⟩ rfl rfl hl.1 rfl (lv_room (Nat.le_of_ble_eq_true rfl)) dX0_end_16 ⟨Nat.le_of_ble_eq_true rfl, Nat.le_of_ble_eq_true rfl⟩) hS (fun q _ h => hFc q h) hFc (fun u16 t16 H1 locs ht1 hvm w16 hB hz1 hk1 hS => ?_)
  try dsimp only at w16 hB
  obtain ⟨hP1, hD1⟩ := hB
  rw [ht1] at hP1
  obtain ⟨hP, hD⟩ := wk_join (w1 := [(h, .inr (0, [.ref ka, .ref sa, .ref ta, .int (nI 0), .int 0, .int (nI 0), .int 0, .int 0])), (ka, .inl (cI, L, .inl f1)), (sa, .inl (cI, L, .inl f2)), (ta, .inl (cI, L, .inl f3))]) hP hD [0, 1, 2, 3] rfl (by decide) rfl hk1 hFc hP1 hD1
  generalize H1 = H at hP hS ⊢
  have hP : va_P D vwCl ([(h, .inr (0, [.ref ka, .ref sa, .ref ta, .int (nI 0), .int 0, .int (nI 0), .int 0, .int 0])), (ka, .inl (cI, L, .inl f1)), (sa, .inl (cI, L, .inl f2)), (ta, .inl (cI, L, .inl f3))]) H := hP
  have hD : va_D A ([(h, .inr (0, [.ref ka, .ref sa, .ref ta, .int (nI 0), .int 0, .int (nI 0), .int 0, .int 0])), (ka, .inl (cI, L, .inl f1)), (sa, .inl (cI, L, .inl f2)), (ta, .inl (cI, L, .inl f3))]) := hD
  exact W.vret hx hb hr (fun t ht2 hW => ⟨⟨(), rfl, trivial, ⟨by (try dsimp only); rw [ht2]; exact hP, by exact hD⟩⟩, hS.F ht2⟩) hS.2.2 dX0_end_19

set_option maxHeartbeats 4000000 in
set_option maxRecDepth 100000 in
theorem c_X0_stateAt (l : Launch) (D : va_G) (cI cZ cS cJ : ClassId) (sz : Nat) (h ka sa ta L : Nat) (f1 f2 f3 : Nat → Int32) (op : Int32) (rows : List (Int32 × Nat × Nat)) (F Gn : Nat) (C : Bool) (hr9 : PRP rows L f1 f2 f3) (hl9 : rows.length ≤ 256) (hF : F ≤ 256) (hGn : Gn ≤ 256) (row : Int32) : Met l yX0_stateAt (Cond.code yX0_stateAt cX0_stateAt 2 (some .int) :: TB) ({ frames := 0, cells := 0, slots := 0, locals := 0 } : Room) (va_Pc [.ref h, .int row] (PB D (KT cI cZ cS cJ) ([(h, .inr (0, [.ref ka, .ref sa, .ref ta, .int (nI rows.length), .int op, .int (nI F), .int (nI Gn), .int (cB C)])), (ka, .inl (cI, L, .inl f1)), (sa, .inl (cI, L, .inl f2)), (ta, .inl (cI, L, .inl f3))]) sz)) (va_Qi (fun r (_ : Unit) => r = (if row < 0 ∨ nI rows.length ≤ row then 0 else sta F Gn C row.toNatClampNeg)) (fun (_ : Unit) t => va_P D vwCl ([(h, .inr (0, [.ref ka, .ref sa, .ref ta, .int (nI rows.length), .int op, .int (nI F), .int (nI Gn), .int (cB C)])), (ka, .inl (cI, L, .inl f1)), (sa, .inl (cI, L, .inl f2)), (ta, .inl (cI, L, .inl f3))]) t.heap) (va_A ([(h, .inr (0, [.ref ka, .ref sa, .ref ta, .int (nI rows.length), .int op, .int (nI F), .int (nI Gn), .int (cB C)])), (ka, .inl (cI, L, .inl f1)), (sa, .inl (cI, L, .inl f2)), (ta, .inl (cI, L, .inl f3))]) sz)) 0 0 (va_A ([(h, .inr (0, [.ref ka, .ref sa, .ref ta, .int (nI rows.length), .int op, .int (nI F), .int (nI Gn), .int (cB C)])), (ka, .inl (cI, L, .inl f1)), (sa, .inl (cI, L, .inl f2)), (ta, .inl (cI, L, .inl f3))]) sz) := by
  refine Met.ofW (cc := cX0_stateAt) (maxL := 2) (ret := (some .int)) (by decide) rfl ?_
  intro p e s m args below meth c s₁ B hml hv
  obtain ⟨rfl, hsz, hP, hK, hD0⟩ := hv
  have hx := B.exec
  have hb := B.bytes
  have hr := B.returns
  have hts := atoms_spec (ws := (Cond.code yX0_stateAt cX0_stateAt 2 (some .int) :: TB)) B.pre
  have ht : ∀ w ∈ TB, w.before _ s = true := fun w h => hts w (List.mem_cons_of_mem _ h)
  have hown : s.vm.findClass RX0 = some m.cls := findClass_of_methodNamed B.named
  have hlocks := B.notSynchronized
  subst hsz
  have hD := hD0.self (sz := s.heap.size)
  generalize hAe : va_A ([(h, .inr (0, [.ref ka, .ref sa, .ref ta, .int (nI rows.length), .int op, .int (nI F), .int (nI Gn), .int (cB C)])), (ka, .inl (cI, L, .inl f1)), (sa, .inl (cI, L, .inl f2)), (ta, .inl (cI, L, .inl f3))]) s.heap.size = A at hD ⊢
  have hA : ∀ q : Nat, s.heap.size ≤ q → A q := fun q h => by rw [← hAe]; exact Or.inr h
  have hS : va_S A s.heap s.heap [] := va_S.rf
  have hP : va_P D vwCl ([(h, .inr (0, [.ref ka, .ref sa, .ref ta, .int (nI rows.length), .int op, .int (nI F), .int (nI Gn), .int (cB C)])), (ka, .inl (cI, L, .inl f1)), (sa, .inl (cI, L, .inl f2)), (ta, .inl (cI, L, .inl f3))]) s.heap := hP
  have hl := lv_entry ([.ref h, .int row]) (n := 2) (Nat.le_of_ble_eq_true rfl)
  rw [lg_entry_eq]
  generalize (lg_sl ([.ref h, .int row]) ++ List.replicate (2 - (lg_sl ([.ref h, .int row])).length) Slot.unset).toArray = ls at hl ⊢
  have hl : lv_has ls 2 [(0, .ref h), (1, .int row)] := hl
  refine lv_iload_n hx hb dX0_stateAt_0 rfl (lv_at hl 1 rfl) ?_
  refine lv_if_lt (tgt := 12) hx hb dX0_stateAt_1 (by decide) (fun c1 => ?_) (fun c1 => ?_)
  · have hbad : row < 0 ∨ nI rows.length ≤ row := Or.inl c1
    refine lv_iconst (v := 0) hx hb dX0_stateAt_12 (by decide) ?_
    exact W.iret (v := 0) hx hb hr (fun t ht2 hW => ⟨⟨0, (), rfl, by
          (try dsimp only)
          first | rw [if_pos hbad] | (rw [if_neg hok, hkc]; unfold sta; first | rw [if_pos h1, if_pos h2] | rw [if_pos h1, if_neg h2] | rw [if_neg h1, if_pos h2] | rw [if_neg h1, if_neg h2]), by (try dsimp only); rw [ht2]; exact hP⟩, hS.F ht2⟩) hS.2.2 dX0_stateAt_13
  · refine lv_iload_n hx hb dX0_stateAt_4 rfl (lv_at hl 1 rfl) ?_
    refine lv_aload_n hx hb dX0_stateAt_5 rfl (lv_at hl 0 rfl) ?_
    refine va_get (D := D) (ci := 0) (v := .int (nI rows.length)) (C := RX0) (T := TX0) (N := 8) hx hb ht inX0 hown hK hP 0 rfl rfl 3 (by decide) (ht _ kw1_69) (fun _ h9 => h9) rfl dX0_stateAt_6 ?_
    refine lv_icmp_lt (tgt := 14) hx hb dX0_stateAt_9 (by decide) (fun c9 => ?_) (fun c9 => ?_)
    · have hok : ¬ (row < 0 ∨ nI rows.length ≤ row) := fun q => q.elim c1 (fun z => absurd c9 (Int32.not_lt.mpr z))
      obtain ⟨k, hk, hke⟩ := nI_of c1
      have hkc : row.toNatClampNeg = k := by rw [hke, nI_clamp hk]
      rw [hke] at c9
      have hkl : k < 256 := by
        rcases Nat.lt_or_ge k rows.length with q | q
        · omega
        · exact absurd c9 (nI_nlt q hk)
      refine lv_iload_n hx hb dX0_stateAt_14 rfl (lv_at hl 1 rfl) ?_
      refine lv_aload_n hx hb dX0_stateAt_15 rfl (lv_at hl 0 rfl) ?_
      refine va_get (D := D) (ci := 0) (v := .int (nI F)) (C := RX0) (T := TX0) (N := 8) hx hb ht inX0 hown hK hP 0 rfl rfl 5 (by decide) (ht _ kw1_73) (fun _ h9 => h9) rfl dX0_stateAt_16 ?_
      refine lv_icmp_ge (tgt := 36) hx hb dX0_stateAt_19 (by decide) (fun c19 => ?_) (fun c19 => ?_)
      · have h1 : ¬ k < F := fun q => by rw [hke] at c19; exact absurd c19 (nI_ge q (by omega))
        refine lv_iload_n hx hb dX0_stateAt_36 rfl (lv_at hl 1 rfl) ?_
        refine lv_aload_n hx hb dX0_stateAt_37 rfl (lv_at hl 0 rfl) ?_
        refine va_get (D := D) (ci := 0) (v := .int (nI F)) (C := RX0) (T := TX0) (N := 8) hx hb ht inX0 hown hK hP 0 rfl rfl 5 (by decide) (ht _ kw1_73) (fun _ h9 => h9) rfl dX0_stateAt_38 ?_
        refine lv_icmp_ne (tgt := 55) hx hb dX0_stateAt_41 (by decide) (fun c41 => ?_) (fun c41 => ?_)
        · have h2 : ¬ (k = F ∧ C = true) := fun q => c41 (by rw [hke, q.1])
          refine lv_iconst (v := 1) hx hb dX0_stateAt_55 (by decide) ?_
          exact W.iret (v := 1) hx hb hr (fun t ht2 hW => ⟨⟨1, (), rfl, by
                (try dsimp only)
                first | rw [if_pos hbad] | (rw [if_neg hok, hkc]; unfold sta; first | rw [if_pos h1, if_pos h2] | rw [if_pos h1, if_neg h2] | rw [if_neg h1, if_pos h2] | rw [if_neg h1, if_neg h2]), by (try dsimp only); rw [ht2]; exact hP⟩, hS.F ht2⟩) hS.2.2 dX0_stateAt_56
        · refine lv_aload_n hx hb dX0_stateAt_44 rfl (lv_at hl 0 rfl) ?_
          refine va_get (D := D) (ci := 0) (v := .int (cB C)) (C := RX0) (T := TX0) (N := 8) hx hb ht inX0 hown hK hP 0 rfl rfl 7 (by decide) (ht _ kw1_77) (fun _ h9 => h9) rfl dX0_stateAt_45 ?_
          refine lv_if_eq (tgt := 55) hx hb dX0_stateAt_48 (by decide) (fun c48 => ?_) (fun c48 => ?_)
          · have h2 : ¬ (k = F ∧ C = true) := fun q => by rw [cB, if_pos q.2] at c48; exact absurd c48 (by decide)
            refine lv_iconst (v := 1) hx hb dX0_stateAt_55 (by decide) ?_
            exact W.iret (v := 1) hx hb hr (fun t ht2 hW => ⟨⟨1, (), rfl, by
                  (try dsimp only)
                  first | rw [if_pos hbad] | (rw [if_neg hok, hkc]; unfold sta; first | rw [if_pos h1, if_pos h2] | rw [if_pos h1, if_neg h2] | rw [if_neg h1, if_pos h2] | rw [if_neg h1, if_neg h2]), by (try dsimp only); rw [ht2]; exact hP⟩, hS.F ht2⟩) hS.2.2 dX0_stateAt_56
          · have h2 : k = F ∧ C = true := ⟨(nI_eq (by omega) (by omega)).mp (by rw [hke] at c41; exact c41), Decidable.byContradiction (fun q => c48 (if_neg q))⟩
            refine lv_iconst (v := 2) hx hb dX0_stateAt_51 (by decide) ?_
            refine lv_goto (tgt := 56) hx hb dX0_stateAt_52 (by decide) ?_
            exact W.iret (v := 2) hx hb hr (fun t ht2 hW => ⟨⟨2, (), rfl, by
                  (try dsimp only)
                  first | rw [if_pos hbad] | (rw [if_neg hok, hkc]; unfold sta; first | rw [if_pos h1, if_pos h2] | rw [if_pos h1, if_neg h2] | rw [if_neg h1, if_pos h2] | rw [if_neg h1, if_neg h2]), by (try dsimp only); rw [ht2]; exact hP⟩, hS.F ht2⟩) hS.2.2 dX0_stateAt_56
      · have h1 : k < F := by
          rcases Nat.lt_or_ge k F with q | q
          · exact q
          · exact absurd (by rw [hke]; exact nI_le q (by omega)) c19
        refine lv_iload_n hx hb dX0_stateAt_22 rfl (lv_at hl 1 rfl) ?_
        refine lv_aload_n hx hb dX0_stateAt_23 rfl (lv_at hl 0 rfl) ?_
        refine va_get (D := D) (ci := 0) (v := .int (nI Gn)) (C := RX0) (T := TX0) (N := 8) hx hb ht inX0 hown hK hP 0 rfl rfl 6 (by decide) (ht _ kw1_75) (fun _ h9 => h9) rfl dX0_stateAt_24 ?_
        refine lv_icmp_ge (tgt := 34) hx hb dX0_stateAt_27 (by decide) (fun c27 => ?_) (fun c27 => ?_)
        · have h2 : ¬ k < Gn := fun q => by rw [hke] at c27; exact absurd c27 (nI_ge q (by omega))
          refine lv_iconst (v := 3) hx hb dX0_stateAt_34 (by decide) ?_
          exact W.iret (v := 3) hx hb hr (fun t ht2 hW => ⟨⟨3, (), rfl, by
                (try dsimp only)
                first | rw [if_pos hbad] | (rw [if_neg hok, hkc]; unfold sta; first | rw [if_pos h1, if_pos h2] | rw [if_pos h1, if_neg h2] | rw [if_neg h1, if_pos h2] | rw [if_neg h1, if_neg h2]), by (try dsimp only); rw [ht2]; exact hP⟩, hS.F ht2⟩) hS.2.2 dX0_stateAt_35
        · have h2 : k < Gn := by
            rcases Nat.lt_or_ge k Gn with q | q
            · exact q
            · exact absurd (by rw [hke]; exact nI_le q (by omega)) c27
          refine lv_iconst (v := 4) hx hb dX0_stateAt_30 (by decide) ?_
          refine lv_goto (tgt := 35) hx hb dX0_stateAt_31 (by decide) ?_
          exact W.iret (v := 4) hx hb hr (fun t ht2 hW => ⟨⟨4, (), rfl, by
                (try dsimp only)
                first | rw [if_pos hbad] | (rw [if_neg hok, hkc]; unfold sta; first | rw [if_pos h1, if_pos h2] | rw [if_pos h1, if_neg h2] | rw [if_neg h1, if_pos h2] | rw [if_neg h1, if_neg h2]), by (try dsimp only); rw [ht2]; exact hP⟩, hS.F ht2⟩) hS.2.2 dX0_stateAt_35
    · have hbad : row < 0 ∨ nI rows.length ≤ row := Or.inr (Int32.not_lt.mp c9)
      refine lv_iconst (v := 0) hx hb dX0_stateAt_12 (by decide) ?_
      exact W.iret (v := 0) hx hb hr (fun t ht2 hW => ⟨⟨0, (), rfl, by
            (try dsimp only)
            first | rw [if_pos hbad] | (rw [if_neg hok, hkc]; unfold sta; first | rw [if_pos h1, if_pos h2] | rw [if_pos h1, if_neg h2] | rw [if_neg h1, if_pos h2] | rw [if_neg h1, if_neg h2]), by (try dsimp only); rw [ht2]; exact hP⟩, hS.F ht2⟩) hS.2.2 dX0_stateAt_13

set_option maxHeartbeats 4000000 in
set_option maxRecDepth 100000 in
theorem c_X0_rowOf (l : Launch) (D : va_G) (cI cZ cS cJ : ClassId) (sz : Nat) (h ka sa ta L : Nat) (f1 f2 f3 : Nat → Int32) (op : Int32) (rows : List (Int32 × Nat × Nat)) (F Gn : Nat) (C : Bool) (hr9 : PRP rows L f1 f2 f3) (hl9 : rows.length ≤ 256) (hF : F ≤ 256) (hGn : Gn ≤ 256) (hsr : Srt (pkl rows)) (key : Int32) : Met l yX0_rowOf (Cond.code yX0_rowOf cX0_rowOf 3 (some .int) :: TB) ({ frames := 3, cells := 0, slots := 0, locals := 65 } : Room) (va_Pc [.ref h, .int key] (PB D (KT cI cZ cS cJ) ([(h, .inr (0, [.ref ka, .ref sa, .ref ta, .int (nI rows.length), .int op, .int (nI F), .int (nI Gn), .int (cB C)])), (ka, .inl (cI, L, .inl f1)), (sa, .inl (cI, L, .inl f2)), (ta, .inl (cI, L, .inl f3))]) sz)) (va_Qi (fun r (_ : Unit) => r = rowI rows key) (fun (_ : Unit) t => va_P D vwCl ([(h, .inr (0, [.ref ka, .ref sa, .ref ta, .int (nI rows.length), .int op, .int (nI F), .int (nI Gn), .int (cB C)])), (ka, .inl (cI, L, .inl f1)), (sa, .inl (cI, L, .inl f2)), (ta, .inl (cI, L, .inl f3))]) t.heap) (va_A ([(h, .inr (0, [.ref ka, .ref sa, .ref ta, .int (nI rows.length), .int op, .int (nI F), .int (nI Gn), .int (cB C)])), (ka, .inl (cI, L, .inl f1)), (sa, .inl (cI, L, .inl f2)), (ta, .inl (cI, L, .inl f3))]) sz)) 0 0 (va_A ([(h, .inr (0, [.ref ka, .ref sa, .ref ta, .int (nI rows.length), .int op, .int (nI F), .int (nI Gn), .int (cB C)])), (ka, .inl (cI, L, .inl f1)), (sa, .inl (cI, L, .inl f2)), (ta, .inl (cI, L, .inl f3))]) sz) := by
  refine Met.ofW (cc := cX0_rowOf) (maxL := 3) (ret := (some .int)) (by decide) rfl ?_
  intro p e s m args below meth c s₁ B hml hv
  obtain ⟨rfl, hsz, hP, hK, hD0⟩ := hv
  have hx := B.exec
  have hb := B.bytes
  have hr := B.returns
  have hts := atoms_spec (ws := (Cond.code yX0_rowOf cX0_rowOf 3 (some .int) :: TB)) B.pre
  have ht : ∀ w ∈ TB, w.before _ s = true := fun w h => hts w (List.mem_cons_of_mem _ h)
  have hown : s.vm.findClass RX0 = some m.cls := findClass_of_methodNamed B.named
  have hlocks := B.notSynchronized
  subst hsz
  have hD := hD0.self (sz := s.heap.size)
  generalize hAe : va_A ([(h, .inr (0, [.ref ka, .ref sa, .ref ta, .int (nI rows.length), .int op, .int (nI F), .int (nI Gn), .int (cB C)])), (ka, .inl (cI, L, .inl f1)), (sa, .inl (cI, L, .inl f2)), (ta, .inl (cI, L, .inl f3))]) s.heap.size = A at hD ⊢
  have hA : ∀ q : Nat, s.heap.size ≤ q → A q := fun q h => by rw [← hAe]; exact Or.inr h
  have hS : va_S A s.heap s.heap [] := va_S.rf
  have hP : va_P D vwCl ([(h, .inr (0, [.ref ka, .ref sa, .ref ta, .int (nI rows.length), .int op, .int (nI F), .int (nI Gn), .int (cB C)])), (ka, .inl (cI, L, .inl f1)), (sa, .inl (cI, L, .inl f2)), (ta, .inl (cI, L, .inl f3))]) s.heap := hP
  have hl := lv_entry ([.ref h, .int key]) (n := 3) (Nat.le_of_ble_eq_true rfl)
  rw [lg_entry_eq]
  generalize (lg_sl ([.ref h, .int key]) ++ List.replicate (3 - (lg_sl ([.ref h, .int key])).length) Slot.unset).toArray = ls at hl ⊢
  have hl : lv_has ls 3 [(0, .ref h), (1, .int key)] := hl
  refine lv_aload_n hx hb dX0_rowOf_0 rfl (lv_at hl 0 rfl) ?_
  refine va_get (D := D) (ci := 0) (v := .ref ka) (C := RX0) (T := TX0) (N := 8) hx hb ht inX0 hown hK hP 0 rfl rfl 0 (by decide) (ht _ kw1_63) (fun _ h9 => h9) rfl dX0_rowOf_1 ?_
  refine lv_aload_n hx hb dX0_rowOf_4 rfl (lv_at hl 0 rfl) ?_
  refine va_get (D := D) (ci := 0) (v := .int (nI rows.length)) (C := RX0) (T := TX0) (N := 8) hx hb ht inX0 hown hK hP 0 rfl rfl 3 (by decide) (ht _ kw1_69) (fun _ h9 => h9) rfl dX0_rowOf_5 ?_
  refine lv_iload_n hx hb dX0_rowOf_8 rfl (lv_at hl 1 rfl) ?_
  have hPc := hP.sub (ws' := [(ka, .inl (cI, L, .inl f1))]) [1] rfl
  have hDc := hD.sub (ws' := [(ka, .inl (cI, L, .inl f1))]) [1] (by decide) rfl
  have hFc := va_free (wc := [(ka, .inl (cI, L, .inl f1))]) hD hS hA [1] rfl
  refine va_calli (va_runSN (As := [.ref ka, .int (nI rows.length), .int key]) (rest := []) ⟨hx, hb, hml, hown, ht⟩ (c_X4_below l D cI cZ cS cJ s.heap.size ka L f1 rows.length key (by have := hr9.2.1; omega) hr9.1 (by omega) (hr9.as hsr)) ⟨xwN 3 ht kw1_148 kw2_52 kw1_1 rfl rfl (by decide +kernel) ⟨Nat.le_of_ble_eq_true rfl, Nat.le_of_ble_eq_true rfl⟩, ht _ kw1_147, trivial⟩ ⟨PB.blind, fun U hU hW => PB.mk hU hW hPc hK hDc⟩ rfl rfl hl.1 rfl (lv_room (Nat.le_of_ble_eq_true rfl)) dX0_rowOf_9 ⟨Nat.le_of_ble_eq_true rfl, Nat.le_of_ble_eq_true rfl⟩) hS (fun q _ h => hFc q h) hFc (fun r9 u9 t9 H1 locs ht1 hvm w9 hB hz1 hk1 hS => ?_)
  try dsimp only at w9 hB
  rw [ht1] at hB
  have hP := wk_ro hP hD [1] rfl hk1 hB
  generalize H1 = H at hP hS ⊢
  obtain ⟨k9, ek, hbw⟩ := w9
  have hke := prow_of_BW (fun j hj => (hr9.2.2 j hj).1) hbw
  subst hke
  have ek := ek.symm
  subst ek
  have hrk := prow_le rows key
  refine lv_istore_n (lv' := [(2, .int (nI (prow rows key))), (0, .ref h), (1, .int key)]) hx hb dX0_rowOf_12 rfl hl (by decide) rfl (fun ls hl => ?_)
  refine lv_iload_n hx hb dX0_rowOf_13 rfl (lv_at hl 0 rfl) ?_
  refine lv_aload_n hx hb dX0_rowOf_14 rfl (lv_at hl 1 rfl) ?_
  refine va_get (D := D) (ci := 0) (v := .int (nI rows.length)) (C := RX0) (T := TX0) (N := 8) hx hb ht inX0 hown hK hP 0 rfl rfl 3 (by decide) (ht _ kw1_69) (fun _ h9 => h9) rfl dX0_rowOf_15 ?_
  refine lv_icmp_ge (tgt := 35) hx hb dX0_rowOf_18 (by decide) (fun c18 => ?_) (fun c18 => ?_)
  · have hno : ¬ pin rows key = true := fun q => absurd c18 (nI_ge (pin_iff.mp q).1 (by omega))
    refine lv_iconst (v := (-1)) hx hb dX0_rowOf_35 (by decide) ?_
    exact W.iret (v := (-1)) hx hb hr (fun t ht2 hW => ⟨⟨(-1), (), rfl, by
          (try dsimp only)
          unfold rowI
          first | rw [if_pos hyes] | rw [if_neg hno], by (try dsimp only); rw [ht2]; exact hP⟩, hS.F ht2⟩) hS.2.2 dX0_rowOf_36
  · have hlt : prow rows key < rows.length := by
      rcases Nat.lt_or_ge (prow rows key) rows.length with q | q
      · exact q
      · exact absurd (nI_le q (by omega)) c18
    refine lv_aload_n hx hb dX0_rowOf_21 rfl (lv_at hl 1 rfl) ?_
    refine va_get (D := D) (ci := 0) (v := .ref ka) (C := RX0) (T := TX0) (N := 8) hx hb ht inX0 hown hK hP 0 rfl rfl 0 (by decide) (ht _ kw1_63) (fun _ h9 => h9) rfl dX0_rowOf_22 ?_
    refine lv_iload_n hx hb dX0_rowOf_25 rfl (lv_at hl 0 rfl) ?_
    refine ya_iald hx hb hK hP 1 0 rfl rfl (prow rows key) (rfl) (by have := hr9.1; omega) (by have := hr9.2.1; omega) dX0_rowOf_26 ?_
    refine lv_iload_n hx hb dX0_rowOf_27 rfl (lv_at hl 2 rfl) ?_
    refine lv_icmp_ne (tgt := 35) hx hb dX0_rowOf_28 (by decide) (fun c28 => ?_) (fun c28 => ?_)
    · have hno : ¬ pin rows key = true := fun q => c28 (by rw [(hr9.2.2 _ hlt).1]; exact (pin_iff.mp q).2)
      refine lv_iconst (v := (-1)) hx hb dX0_rowOf_35 (by decide) ?_
      exact W.iret (v := (-1)) hx hb hr (fun t ht2 hW => ⟨⟨(-1), (), rfl, by
            (try dsimp only)
            unfold rowI
            first | rw [if_pos hyes] | rw [if_neg hno], by (try dsimp only); rw [ht2]; exact hP⟩, hS.F ht2⟩) hS.2.2 dX0_rowOf_36
    · have hyes : pin rows key = true := pin_iff.mpr ⟨hlt, by rw [← (hr9.2.2 _ hlt).1]; exact c28⟩
      refine lv_iload_n hx hb dX0_rowOf_31 rfl (lv_at hl 0 rfl) ?_
      refine lv_goto (tgt := 36) hx hb dX0_rowOf_32 (by decide) ?_
      exact W.iret (v := nI (prow rows key)) hx hb hr (fun t ht2 hW => ⟨⟨nI (prow rows key), (), rfl, by
            (try dsimp only)
            unfold rowI
            first | rw [if_pos hyes] | rw [if_neg hno], by (try dsimp only); rw [ht2]; exact hP⟩, hS.F ht2⟩) hS.2.2 dX0_rowOf_36

set_option maxHeartbeats 4000000 in
set_option maxRecDepth 100000 in
theorem c_X0_enter (l : Launch) (D : va_G) (cI cZ cS cJ : ClassId) (sz : Nat) (h ka sa ta L : Nat) (f1 f2 f3 : Nat → Int32) (op : Int32) (rows : List (Int32 × Nat × Nat)) (F Gn : Nat) (C : Bool) (hr9 : PRP rows L f1 f2 f3) (hl9 : rows.length ≤ 256) (hF : F ≤ 256) (hGn : Gn ≤ 256) (hsr : Srt (pkl rows)) (hl8 : rows.length < 256) (key : Int32) (s9 td : Nat) : Met l yX0_enter (Cond.code yX0_enter cX0_enter 5 none :: TB) ({ frames := 3, cells := (3 * (if rows.length < L then 0 else 1)), slots := (3 * (if rows.length < L then 0 else 2 * rows.length + 1)), locals := 86 } : Room) (va_Pc [.ref h, .int key, .int (nI s9), .int (nI td)] (PB D (KT cI cZ cS cJ) ([(h, .inr (0, [.ref ka, .ref sa, .ref ta, .int (nI rows.length), .int op, .int (nI F), .int (nI Gn), .int (cB C)])), (ka, .inl (cI, L, .inl f1)), (sa, .inl (cI, L, .inl f2)), (ta, .inl (cI, L, .inl f3))]) sz)) (va_Qv (fun (u : Nat × Nat × Nat × (Nat → Int32) × (Nat → Int32) × (Nat → Int32)) => PRP (insP rows (key, s9, td)) (if rows.length < L then L else 2 * rows.length + 1) u.2.2.2.1 u.2.2.2.2.1 u.2.2.2.2.2) (fun (u : Nat × Nat × Nat × (Nat → Int32) × (Nat → Int32) × (Nat → Int32)) t => va_P D vwCl [(h, .inr (0, [.ref u.1, .ref u.2.1, .ref u.2.2.1, .int (nI (insP rows (key, s9, td)).length), .int op, .int (nI F), .int (nI Gn), .int (cB C)])), (u.1, .inl (cI, (if rows.length < L then L else 2 * rows.length + 1), .inl u.2.2.2.1)), (u.2.1, .inl (cI, (if rows.length < L then L else 2 * rows.length + 1), .inl u.2.2.2.2.1)), (u.2.2.1, .inl (cI, (if rows.length < L then L else 2 * rows.length + 1), .inl u.2.2.2.2.2))] t.heap ∧ va_D (va_A [(h, .inr (0, [.ref ka, .ref sa, .ref ta, .int (nI rows.length), .int op, .int (nI F), .int (nI Gn), .int (cB C)])), (ka, .inl (cI, L, .inl f1)), (sa, .inl (cI, L, .inl f2)), (ta, .inl (cI, L, .inl f3))] sz) [(h, .inr (0, [.ref u.1, .ref u.2.1, .ref u.2.2.1, .int (nI (insP rows (key, s9, td)).length), .int op, .int (nI F), .int (nI Gn), .int (cB C)])), (u.1, .inl (cI, (if rows.length < L then L else 2 * rows.length + 1), .inl u.2.2.2.1)), (u.2.1, .inl (cI, (if rows.length < L then L else 2 * rows.length + 1), .inl u.2.2.2.2.1)), (u.2.2.1, .inl (cI, (if rows.length < L then L else 2 * rows.length + 1), .inl u.2.2.2.2.2))]) (va_A ([(h, .inr (0, [.ref ka, .ref sa, .ref ta, .int (nI rows.length), .int op, .int (nI F), .int (nI Gn), .int (cB C)])), (ka, .inl (cI, L, .inl f1)), (sa, .inl (cI, L, .inl f2)), (ta, .inl (cI, L, .inl f3))]) sz)) (3 * (if rows.length < L then 0 else 1)) (3 * (if rows.length < L then 0 else 2 * rows.length + 1)) (va_A ([(h, .inr (0, [.ref ka, .ref sa, .ref ta, .int (nI rows.length), .int op, .int (nI F), .int (nI Gn), .int (cB C)])), (ka, .inl (cI, L, .inl f1)), (sa, .inl (cI, L, .inl f2)), (ta, .inl (cI, L, .inl f3))]) sz) := by
  refine Met.ofW (cc := cX0_enter) (maxL := 5) (ret := none) (by decide) rfl ?_
  intro p e s m args below meth c s₁ B hml hv
  obtain ⟨rfl, hsz, hP, hK, hD0⟩ := hv
  have hx := B.exec
  have hb := B.bytes
  have hr := B.returns
  have hts := atoms_spec (ws := (Cond.code yX0_enter cX0_enter 5 none :: TB)) B.pre
  have ht : ∀ w ∈ TB, w.before _ s = true := fun w h => hts w (List.mem_cons_of_mem _ h)
  have hown : s.vm.findClass RX0 = some m.cls := findClass_of_methodNamed B.named
  have hlocks := B.notSynchronized
  subst hsz
  have hD := hD0.self (sz := s.heap.size)
  generalize hAe : va_A ([(h, .inr (0, [.ref ka, .ref sa, .ref ta, .int (nI rows.length), .int op, .int (nI F), .int (nI Gn), .int (cB C)])), (ka, .inl (cI, L, .inl f1)), (sa, .inl (cI, L, .inl f2)), (ta, .inl (cI, L, .inl f3))]) s.heap.size = A at hD ⊢
  have hA : ∀ q : Nat, s.heap.size ≤ q → A q := fun q h => by rw [← hAe]; exact Or.inr h
  have hS : va_S A s.heap s.heap [] := va_S.rf
  have hP : va_P D vwCl ([(h, .inr (0, [.ref ka, .ref sa, .ref ta, .int (nI rows.length), .int op, .int (nI F), .int (nI Gn), .int (cB C)])), (ka, .inl (cI, L, .inl f1)), (sa, .inl (cI, L, .inl f2)), (ta, .inl (cI, L, .inl f3))]) s.heap := hP
  have hl := lv_entry ([.ref h, .int key, .int (nI s9), .int (nI td)]) (n := 5) (Nat.le_of_ble_eq_true rfl)
  rw [lg_entry_eq]
  generalize (lg_sl ([.ref h, .int key, .int (nI s9), .int (nI td)]) ++ List.replicate (5 - (lg_sl ([.ref h, .int key, .int (nI s9), .int (nI td)])).length) Slot.unset).toArray = ls at hl ⊢
  have hl : lv_has ls 5 [(0, .ref h), (1, .int key), (2, .int (nI s9)), (3, .int (nI td))] := hl
  refine lv_aload_n hx hb dX0_enter_0 rfl (lv_at hl 0 rfl) ?_
  refine va_get (D := D) (ci := 0) (v := .ref ka) (C := RX0) (T := TX0) (N := 8) hx hb ht inX0 hown hK hP 0 rfl rfl 0 (by decide) (ht _ kw1_63) (fun _ h9 => h9) rfl dX0_enter_1 ?_
  refine lv_aload_n hx hb dX0_enter_4 rfl (lv_at hl 0 rfl) ?_
  refine va_get (D := D) (ci := 0) (v := .int (nI rows.length)) (C := RX0) (T := TX0) (N := 8) hx hb ht inX0 hown hK hP 0 rfl rfl 3 (by decide) (ht _ kw1_69) (fun _ h9 => h9) rfl dX0_enter_5 ?_
  refine lv_iload_n hx hb dX0_enter_8 rfl (lv_at hl 1 rfl) ?_
  have hPc := hP.sub (ws' := [(ka, .inl (cI, L, .inl f1))]) [1] rfl
  have hDc := hD.sub (ws' := [(ka, .inl (cI, L, .inl f1))]) [1] (by decide) rfl
  have hFc := va_free (wc := [(ka, .inl (cI, L, .inl f1))]) hD hS hA [1] rfl
  refine va_calli (va_runSN (As := [.ref ka, .int (nI rows.length), .int key]) (rest := []) ⟨hx, hb, hml, hown, ht⟩ (c_X4_below l D cI cZ cS cJ s.heap.size ka L f1 rows.length key (by have := hr9.2.1; omega) hr9.1 (by omega) (hr9.as hsr)) ⟨xwN 3 ht kw1_148 kw2_52 kw1_1 rfl rfl (by decide +kernel) ⟨Nat.le_of_ble_eq_true rfl, Nat.le_of_ble_eq_true rfl⟩, ht _ kw1_147, trivial⟩ ⟨PB.blind, fun U hU hW => PB.mk hU hW hPc hK hDc⟩ rfl rfl hl.1 rfl (lv_room (Nat.le_of_ble_eq_true rfl)) dX0_enter_9 ⟨Nat.le_of_ble_eq_true rfl, Nat.le_of_ble_eq_true rfl⟩) hS (fun q _ h => hFc q h) hFc (fun r9 u9 t9 H1 locs ht1 hvm w9 hB hz1 hk1 hS => ?_)
  try dsimp only at w9 hB
  rw [ht1] at hB
  have hP := wk_ro hP hD [1] rfl hk1 hB
  generalize H1 = H at hP hS ⊢
  obtain ⟨k9, ek, hbw⟩ := w9
  have hke := prow_of_BW (fun j hj => (hr9.2.2 j hj).1) hbw
  subst hke
  have ek := ek.symm
  subst ek
  have hrk := prow_le rows key
  refine lv_istore (lv' := [(4, .int (nI (prow rows key))), (0, .ref h), (1, .int key), (2, .int (nI s9)), (3, .int (nI td))]) hx hb dX0_enter_12 hl (by decide) rfl (fun ls hl => ?_)
  refine lv_aload_n hx hb dX0_enter_14 rfl (lv_at hl 1 rfl) ?_
  refine lv_aload_n hx hb dX0_enter_15 rfl (lv_at hl 1 rfl) ?_
  refine va_get (D := D) (ci := 0) (v := .ref ka) (C := RX0) (T := TX0) (N := 8) hx hb ht inX0 hown hK hP 0 rfl rfl 0 (by decide) (ht _ kw1_63) (fun _ h9 => h9) rfl dX0_enter_16 ?_
  refine lv_aload_n hx hb dX0_enter_19 rfl (lv_at hl 1 rfl) ?_
  refine va_get (D := D) (ci := 0) (v := .int (nI rows.length)) (C := RX0) (T := TX0) (N := 8) hx hb ht inX0 hown hK hP 0 rfl rfl 3 (by decide) (ht _ kw1_69) (fun _ h9 => h9) rfl dX0_enter_20 ?_
  refine lv_iload hx hb dX0_enter_23 (lv_at hl 0 rfl) ?_
  refine lv_iload_n hx hb dX0_enter_25 rfl (lv_at hl 2 rfl) ?_
  have hPc := hP.sub (ws' := [(ka, .inl (cI, L, .inl f1))]) [1] rfl
  have hDc := hD.sub (ws' := [(ka, .inl (cI, L, .inl f1))]) [1] (by decide) rfl
  have hFc := va_free (wc := [(ka, .inl (cI, L, .inl f1))]) hD hS hA [1] rfl
  refine va_callr (va_runSN (As := [.ref ka, .int (nI rows.length), .int (nI (prow rows key)), .int key]) (rest := [.ref h]) ⟨hx, hb, hml, hown, ht⟩ (c_X4_inserted l D cI cZ cS cJ H.size ka L f1 rows.length (prow rows key) key (by have := hr9.2.1; omega) hr9.1 hrk) ⟨xwN 4 ht kw1_159 kw2_182 kw1_1 rfl rfl (by decide +kernel) ⟨Nat.le_of_ble_eq_true rfl, Nat.le_of_ble_eq_true rfl⟩, ht _ kw1_158, trivial⟩ ⟨PB.blind, fun U hU hW => PB.mk hU hW hPc hK hDc⟩ rfl rfl hl.1 rfl (lv_room (Nat.le_of_ble_eq_true rfl)) dX0_enter_26 ⟨by show _ ≤ 3 * (if rows.length < L then 0 else 1); omega, by show _ ≤ 3 * (if rows.length < L then 0 else 2 * rows.length + 1); omega⟩) hS (fun q _ h => hFc q h) hFc (fun u26 ra26 t26 H1 locs ht1 hvm w26 hB hz1 hk1 hS => ?_)
  try dsimp only at w26 hB
  obtain ⟨u26a, u26b⟩ := u26
  obtain ⟨w26a, w26b⟩ := w26
  dsimp only at w26a w26b hB
  subst w26a
  obtain ⟨hP1, hD1⟩ := hB
  rw [ht1] at hP1
  obtain ⟨hP, hD⟩ := wk_join (w1 := [(ra26, .inl (cI, (if rows.length < L then L else 2 * rows.length + 1), .inl u26b))]) hP hD [1] rfl (by decide) rfl hk1 hFc hP1 hD1
  generalize H1 = H at hP hS ⊢
  have hP : va_P D vwCl ([(h, .inr (0, [.ref ka, .ref sa, .ref ta, .int (nI rows.length), .int op, .int (nI F), .int (nI Gn), .int (cB C)])), (ra26, .inl (cI, (if rows.length < L then L else 2 * rows.length + 1), .inl u26b)), (sa, .inl (cI, L, .inl f2)), (ta, .inl (cI, L, .inl f3))]) H := hP
  have hD : va_D A ([(h, .inr (0, [.ref ka, .ref sa, .ref ta, .int (nI rows.length), .int op, .int (nI F), .int (nI Gn), .int (cB C)])), (ra26, .inl (cI, (if rows.length < L then L else 2 * rows.length + 1), .inl u26b)), (sa, .inl (cI, L, .inl f2)), (ta, .inl (cI, L, .inl f3))]) := hD
  refine va_put (D := D) (ci := 0) (v := .ref ra26) (ty := .array .int) (C := RX0) (T := TX0) (N := 8) hx hb ht inX0 tyX0 tyX0_ok nmX0 hown hK hP hD hS 0 rfl rfl 0 (by decide) (ht _ kw1_63) (fun _ h9 => h9) rfl (by decide +kernel) (rfl) rfl (Nat.le_of_ble_eq_true rfl) dX0_enter_29 (fun H locs hP hD hS => ?_)
  have hP : va_P D vwCl ([(h, .inr (0, [.ref ra26, .ref sa, .ref ta, .int (nI rows.length), .int op, .int (nI F), .int (nI Gn), .int (cB C)])), (ra26, .inl (cI, (if rows.length < L then L else 2 * rows.length + 1), .inl u26b)), (sa, .inl (cI, L, .inl f2)), (ta, .inl (cI, L, .inl f3))]) H := hP
  have hD : va_D A ([(h, .inr (0, [.ref ra26, .ref sa, .ref ta, .int (nI rows.length), .int op, .int (nI F), .int (nI Gn), .int (cB C)])), (ra26, .inl (cI, (if rows.length < L then L else 2 * rows.length + 1), .inl u26b)), (sa, .inl (cI, L, .inl f2)), (ta, .inl (cI, L, .inl f3))]) := hD
  refine lv_aload_n hx hb dX0_enter_32 rfl (lv_at hl 1 rfl) ?_
  refine lv_aload_n hx hb dX0_enter_33 rfl (lv_at hl 1 rfl) ?_
  refine va_get (D := D) (ci := 0) (v := .ref sa) (C := RX0) (T := TX0) (N := 8) hx hb ht inX0 hown hK hP 0 rfl rfl 1 (by decide) (ht _ kw1_65) (fun _ h9 => h9) rfl dX0_enter_34 ?_
  refine lv_aload_n hx hb dX0_enter_37 rfl (lv_at hl 1 rfl) ?_
  refine va_get (D := D) (ci := 0) (v := .int (nI rows.length)) (C := RX0) (T := TX0) (N := 8) hx hb ht inX0 hown hK hP 0 rfl rfl 3 (by decide) (ht _ kw1_69) (fun _ h9 => h9) rfl dX0_enter_38 ?_
  refine lv_iload hx hb dX0_enter_41 (lv_at hl 0 rfl) ?_
  refine lv_iload_n hx hb dX0_enter_43 rfl (lv_at hl 3 rfl) ?_
  have hPc := hP.sub (ws' := [(sa, .inl (cI, L, .inl f2))]) [2] rfl
  have hDc := hD.sub (ws' := [(sa, .inl (cI, L, .inl f2))]) [2] (by decide) rfl
  have hFc := va_free (wc := [(sa, .inl (cI, L, .inl f2))]) hD hS hA [2] rfl
  refine va_callr (va_runSN (As := [.ref sa, .int (nI rows.length), .int (nI (prow rows key)), .int (nI s9)]) (rest := [.ref h]) ⟨hx, hb, hml, hown, ht⟩ (c_X4_inserted l D cI cZ cS cJ H.size sa L f2 rows.length (prow rows key) (nI s9) (by have := hr9.2.1; omega) hr9.1 hrk) ⟨xwN 4 ht kw1_159 kw2_182 kw1_1 rfl rfl (by decide +kernel) ⟨Nat.le_of_ble_eq_true rfl, Nat.le_of_ble_eq_true rfl⟩, ht _ kw1_158, trivial⟩ ⟨PB.blind, fun U hU hW => PB.mk hU hW hPc hK hDc⟩ rfl rfl hl.1 rfl (lv_room (Nat.le_of_ble_eq_true rfl)) dX0_enter_44 ⟨by show _ ≤ 3 * (if rows.length < L then 0 else 1); omega, by show _ ≤ 3 * (if rows.length < L then 0 else 2 * rows.length + 1); omega⟩) hS (fun q _ h => hFc q h) hFc (fun u44 ra44 t44 H1 locs ht1 hvm w44 hB hz1 hk1 hS => ?_)
  try dsimp only at w44 hB
  obtain ⟨u44a, u44b⟩ := u44
  obtain ⟨w44a, w44b⟩ := w44
  dsimp only at w44a w44b hB
  subst w44a
  obtain ⟨hP1, hD1⟩ := hB
  rw [ht1] at hP1
  obtain ⟨hP, hD⟩ := wk_join (w1 := [(ra44, .inl (cI, (if rows.length < L then L else 2 * rows.length + 1), .inl u44b))]) hP hD [2] rfl (by decide) rfl hk1 hFc hP1 hD1
  generalize H1 = H at hP hS ⊢
  have hP : va_P D vwCl ([(h, .inr (0, [.ref ra26, .ref sa, .ref ta, .int (nI rows.length), .int op, .int (nI F), .int (nI Gn), .int (cB C)])), (ra26, .inl (cI, (if rows.length < L then L else 2 * rows.length + 1), .inl u26b)), (ra44, .inl (cI, (if rows.length < L then L else 2 * rows.length + 1), .inl u44b)), (ta, .inl (cI, L, .inl f3))]) H := hP
  have hD : va_D A ([(h, .inr (0, [.ref ra26, .ref sa, .ref ta, .int (nI rows.length), .int op, .int (nI F), .int (nI Gn), .int (cB C)])), (ra26, .inl (cI, (if rows.length < L then L else 2 * rows.length + 1), .inl u26b)), (ra44, .inl (cI, (if rows.length < L then L else 2 * rows.length + 1), .inl u44b)), (ta, .inl (cI, L, .inl f3))]) := hD
  refine va_put (D := D) (ci := 0) (v := .ref ra44) (ty := .array .int) (C := RX0) (T := TX0) (N := 8) hx hb ht inX0 tyX0 tyX0_ok nmX0 hown hK hP hD hS 0 rfl rfl 1 (by decide) (ht _ kw1_65) (fun _ h9 => h9) rfl (by decide +kernel) (rfl) rfl (Nat.le_of_ble_eq_true rfl) dX0_enter_47 (fun H locs hP hD hS => ?_)
  have hP : va_P D vwCl ([(h, .inr (0, [.ref ra26, .ref ra44, .ref ta, .int (nI rows.length), .int op, .int (nI F), .int (nI Gn), .int (cB C)])), (ra26, .inl (cI, (if rows.length < L then L else 2 * rows.length + 1), .inl u26b)), (ra44, .inl (cI, (if rows.length < L then L else 2 * rows.length + 1), .inl u44b)), (ta, .inl (cI, L, .inl f3))]) H := hP
  have hD : va_D A ([(h, .inr (0, [.ref ra26, .ref ra44, .ref ta, .int (nI rows.length), .int op, .int (nI F), .int (nI Gn), .int (cB C)])), (ra26, .inl (cI, (if rows.length < L then L else 2 * rows.length + 1), .inl u26b)), (ra44, .inl (cI, (if rows.length < L then L else 2 * rows.length + 1), .inl u44b)), (ta, .inl (cI, L, .inl f3))]) := hD
  refine lv_aload_n hx hb dX0_enter_50 rfl (lv_at hl 1 rfl) ?_
  refine lv_aload_n hx hb dX0_enter_51 rfl (lv_at hl 1 rfl) ?_
  refine va_get (D := D) (ci := 0) (v := .ref ta) (C := RX0) (T := TX0) (N := 8) hx hb ht inX0 hown hK hP 0 rfl rfl 2 (by decide) (ht _ kw1_67) (fun _ h9 => h9) rfl dX0_enter_52 ?_
  refine lv_aload_n hx hb dX0_enter_55 rfl (lv_at hl 1 rfl) ?_
  refine va_get (D := D) (ci := 0) (v := .int (nI rows.length)) (C := RX0) (T := TX0) (N := 8) hx hb ht inX0 hown hK hP 0 rfl rfl 3 (by decide) (ht _ kw1_69) (fun _ h9 => h9) rfl dX0_enter_56 ?_
  refine lv_iload hx hb dX0_enter_59 (lv_at hl 0 rfl) ?_
  refine lv_iload_n hx hb dX0_enter_61 rfl (lv_at hl 4 rfl) ?_
  have hPc := hP.sub (ws' := [(ta, .inl (cI, L, .inl f3))]) [3] rfl
  have hDc := hD.sub (ws' := [(ta, .inl (cI, L, .inl f3))]) [3] (by decide) rfl
  have hFc := va_free (wc := [(ta, .inl (cI, L, .inl f3))]) hD hS hA [3] rfl
  refine va_callr (va_runSN (As := [.ref ta, .int (nI rows.length), .int (nI (prow rows key)), .int (nI td)]) (rest := [.ref h]) ⟨hx, hb, hml, hown, ht⟩ (c_X4_inserted l D cI cZ cS cJ H.size ta L f3 rows.length (prow rows key) (nI td) (by have := hr9.2.1; omega) hr9.1 hrk) ⟨xwN 4 ht kw1_159 kw2_182 kw1_1 rfl rfl (by decide +kernel) ⟨Nat.le_of_ble_eq_true rfl, Nat.le_of_ble_eq_true rfl⟩, ht _ kw1_158, trivial⟩ ⟨PB.blind, fun U hU hW => PB.mk hU hW hPc hK hDc⟩ rfl rfl hl.1 rfl (lv_room (Nat.le_of_ble_eq_true rfl)) dX0_enter_62 ⟨by show _ ≤ 3 * (if rows.length < L then 0 else 1); omega, by show _ ≤ 3 * (if rows.length < L then 0 else 2 * rows.length + 1); omega⟩) hS (fun q _ h => hFc q h) hFc (fun u62 ra62 t62 H1 locs ht1 hvm w62 hB hz1 hk1 hS => ?_)
  try dsimp only at w62 hB
  obtain ⟨u62a, u62b⟩ := u62
  obtain ⟨w62a, w62b⟩ := w62
  dsimp only at w62a w62b hB
  subst w62a
  obtain ⟨hP1, hD1⟩ := hB
  rw [ht1] at hP1
  obtain ⟨hP, hD⟩ := wk_join (w1 := [(ra62, .inl (cI, (if rows.length < L then L else 2 * rows.length + 1), .inl u62b))]) hP hD [3] rfl (by decide) rfl hk1 hFc hP1 hD1
  generalize H1 = H at hP hS ⊢
  have hP : va_P D vwCl ([(h, .inr (0, [.ref ra26, .ref ra44, .ref ta, .int (nI rows.length), .int op, .int (nI F), .int (nI Gn), .int (cB C)])), (ra26, .inl (cI, (if rows.length < L then L else 2 * rows.length + 1), .inl u26b)), (ra44, .inl (cI, (if rows.length < L then L else 2 * rows.length + 1), .inl u44b)), (ra62, .inl (cI, (if rows.length < L then L else 2 * rows.length + 1), .inl u62b))]) H := hP
  have hD : va_D A ([(h, .inr (0, [.ref ra26, .ref ra44, .ref ta, .int (nI rows.length), .int op, .int (nI F), .int (nI Gn), .int (cB C)])), (ra26, .inl (cI, (if rows.length < L then L else 2 * rows.length + 1), .inl u26b)), (ra44, .inl (cI, (if rows.length < L then L else 2 * rows.length + 1), .inl u44b)), (ra62, .inl (cI, (if rows.length < L then L else 2 * rows.length + 1), .inl u62b))]) := hD
  refine va_put (D := D) (ci := 0) (v := .ref ra62) (ty := .array .int) (C := RX0) (T := TX0) (N := 8) hx hb ht inX0 tyX0 tyX0_ok nmX0 hown hK hP hD hS 0 rfl rfl 2 (by decide) (ht _ kw1_67) (fun _ h9 => h9) rfl (by decide +kernel) (rfl) rfl (Nat.le_of_ble_eq_true rfl) dX0_enter_65 (fun H locs hP hD hS => ?_)
  have hP : va_P D vwCl ([(h, .inr (0, [.ref ra26, .ref ra44, .ref ra62, .int (nI rows.length), .int op, .int (nI F), .int (nI Gn), .int (cB C)])), (ra26, .inl (cI, (if rows.length < L then L else 2 * rows.length + 1), .inl u26b)), (ra44, .inl (cI, (if rows.length < L then L else 2 * rows.length + 1), .inl u44b)), (ra62, .inl (cI, (if rows.length < L then L else 2 * rows.length + 1), .inl u62b))]) H := hP
  have hD : va_D A ([(h, .inr (0, [.ref ra26, .ref ra44, .ref ra62, .int (nI rows.length), .int op, .int (nI F), .int (nI Gn), .int (cB C)])), (ra26, .inl (cI, (if rows.length < L then L else 2 * rows.length + 1), .inl u26b)), (ra44, .inl (cI, (if rows.length < L then L else 2 * rows.length + 1), .inl u44b)), (ra62, .inl (cI, (if rows.length < L then L else 2 * rows.length + 1), .inl u62b))]) := hD
  refine lv_aload_n hx hb dX0_enter_68 rfl (lv_at hl 1 rfl) ?_
  refine lv_dup hx hb dX0_enter_69 rfl ?_
  refine va_get (D := D) (ci := 0) (v := .int (nI rows.length)) (C := RX0) (T := TX0) (N := 8) hx hb ht inX0 hown hK hP 0 rfl rfl 3 (by decide) (ht _ kw1_69) (fun _ h9 => h9) rfl dX0_enter_70 ?_
  refine lv_iconst (v := 1) hx hb dX0_enter_73 (by decide) ?_
  refine lv_iadd hx hb dX0_enter_74 ?_
  refine va_put (D := D) (ci := 0) (v := .int ((nI rows.length) + 1)) (ty := .int) (C := RX0) (T := TX0) (N := 8) hx hb ht inX0 tyX0 tyX0_ok nmX0 hown hK hP hD hS 0 rfl rfl 3 (by decide) (ht _ kw1_69) (fun _ h9 => h9) rfl (by decide +kernel) (rfl) rfl (Nat.le_of_ble_eq_true rfl) dX0_enter_75 (fun H locs hP hD hS => ?_)
  have hP : va_P D vwCl ([(h, .inr (0, [.ref ra26, .ref ra44, .ref ra62, .int ((nI rows.length) + 1), .int op, .int (nI F), .int (nI Gn), .int (cB C)])), (ra26, .inl (cI, (if rows.length < L then L else 2 * rows.length + 1), .inl u26b)), (ra44, .inl (cI, (if rows.length < L then L else 2 * rows.length + 1), .inl u44b)), (ra62, .inl (cI, (if rows.length < L then L else 2 * rows.length + 1), .inl u62b))]) H := hP
  have hD : va_D A ([(h, .inr (0, [.ref ra26, .ref ra44, .ref ra62, .int ((nI rows.length) + 1), .int op, .int (nI F), .int (nI Gn), .int (cB C)])), (ra26, .inl (cI, (if rows.length < L then L else 2 * rows.length + 1), .inl u26b)), (ra44, .inl (cI, (if rows.length < L then L else 2 * rows.length + 1), .inl u44b)), (ra62, .inl (cI, (if rows.length < L then L else 2 * rows.length + 1), .inl u62b))]) := hD
  refine W.widen (k := (3 * (if rows.length < L then 0 else 1))) (n := (3 * (if rows.length < L then 0 else 2 * rows.length + 1))) (by omega) (by omega) ?_
  exact W.vret hx hb hr (fun t ht2 hW => ⟨⟨(ra26, ra44, ra62, u26b, u44b, u62b), rfl, hr9.ins (key, s9, td) hl8 rfl w26b w44b w62b, by
        (try dsimp only)
        rw [ht2, show nI (insP rows (key, s9, td)).length = nI rows.length + 1 by rw [insP_len, nI_1]]
        exact ⟨hP, hD⟩⟩, hS.F ht2⟩) hS.2.2 dX0_enter_78
