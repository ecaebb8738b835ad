-- the class: Store
def SRP (l : List (Int32 × Int32)) (L1 L2 : Nat) (f g : Nat → Int32) : Prop := (l.length ≤ L1 ∧ L1 ≤ 2100) ∧ (l.length ≤ L2 ∧ L2 ≤ 2100) ∧ ∀ k, k < l.length → f k = kx l k ∧ g k = vx l k
theorem SRP.as {l : List (Int32 × Int32)} {L1 L2 : Nat} {f g : Nat → Int32} (h : SRP l L1 L2 f g) (hs' : Srt l) : AS f l.length := fun i j hij hj => by rw [(h.2.2 i (by omega)).1, (h.2.2 j hj).1]; exact hs' i j hij hj
theorem rk_of_BW {l : List (Int32 × Int32)} {f : Nat → Int32} {key : Int32} {k : Nat} (h : ∀ j, j < l.length → f j = kx l j) (hb : BW f l.length key k) : k = rk l key :=
  rk_eq hb.1 (fun j hj => by rw [← h j (by have := hb.1; omega)]; exact hb.2.1 j hj) (fun hl => by rw [← h k hl]; exact hb.2.2 k (Nat.le_refl _) hl)
theorem SRP.ins_n {l : List (Int32 × Int32)} {L1 L2 L1' L2' : Nat} {f g f' g' : Nat → Int32} {key v : Int32} (h : SRP l L1 L2 f g) (hh : ¬ hs l key = true) (hl : l.length < 1000) (e1 : L1' = if l.length < L1 then L1 else 2 * l.length + 1) (e2 : L2' = if l.length < L2 then L2 else 2 * l.length + 1) (hf : INS f l.length (rk l key) key f') (hg : INS g l.length (rk l key) v g') : SRP (ins l key v) L1' L2' f' g' := by
  obtain ⟨⟨a1, a2⟩, ⟨b1, b2⟩, h3⟩ := h
  have hlen : (ins l key v).length = l.length + 1 := by rw [ins_len, if_neg hh]
  have hr := rk_le l key
  refine ⟨?_, ?_, fun k hk => ?_⟩
  · rw [hlen, e1]; split <;> omega
  · rw [hlen, e2]; split <;> omega
  · rw [hlen] at hk
    have q := ins_get_n (v := v) hh k
    rw [hf k hk, hg k hk]
    unfold kx vx
    rw [q]
    by_cases c1 : k < rk l key
    · rw [if_pos c1, if_pos c1, if_pos c1]; exact h3 k (by omega)
    · rw [if_neg c1, if_neg c1, if_neg c1]
      by_cases c2 : k = rk l key
      · rw [if_pos c2, if_pos c2, if_pos c2]; exact ⟨rfl, rfl⟩
      · rw [if_neg c2, if_neg c2, if_neg c2]; exact h3 (k - 1) (by omega)
theorem SRP.ins_h {l : List (Int32 × Int32)} {L1 L2 : Nat} {f g : Nat → Int32} {key v : Int32} (h : SRP l L1 L2 f g) (hh : hs l key = true) : SRP (ins l key v) L1 L2 f (upd g (rk l key) v) := by
  obtain ⟨a, b, h3⟩ := h
  have hlen : (ins l key v).length = l.length := by rw [ins_len, if_pos hh]
  refine ⟨by rw [hlen]; exact a, by rw [hlen]; exact b, fun k hk => ?_⟩
  rw [hlen] at hk
  have q := ins_get_h (v := v) hh k
  unfold kx vx
  rw [q]
  by_cases c : k = rk l key
  · subst c; rw [pk_us, if_pos rfl, (h3 _ hk).1]; exact ⟨(hs_iff.mp hh).2, rfl⟩
  · rw [pk_un c, if_neg c]; exact h3 k hk
theorem SRP.del_h {l : List (Int32 × Int32)} {L1 L2 : Nat} {f g : Nat → Int32} {key : Int32} (h : SRP l L1 L2 f g) (hh : hs l key = true) : SRP (del l key) L1 L2 (va_cpy f f (rk l key + 1) (rk l key) (l.length - 1 - rk l key)) (va_cpy g g (rk l key + 1) (rk l key) (l.length - 1 - rk l key)) := by
  obtain ⟨a, b, h3⟩ := h
  have hlen : (del l key).length = l.length - 1 := by rw [del_len, if_pos hh]
  have hr := (hs_iff.mp hh).1
  refine ⟨by rw [hlen]; omega, by rw [hlen]; omega, fun k hk => ?_⟩
  rw [hlen] at hk
  have q := del_get hh k
  unfold kx vx
  rw [q]
  by_cases c : k < rk l key
  · rw [pk_cpy_out (by omega), pk_cpy_out (by omega), if_pos c]; exact h3 k (by omega)
  · rw [pk_cpy_in (by omega) (by omega), pk_cpy_in (by omega) (by omega), if_neg c, show rk l key + 1 + (k - rk l key) = k + 1 by omega]; exact h3 (k + 1) (by omega)
theorem SRP.del_n {l : List (Int32 × Int32)} {L1 L2 : Nat} {f g : Nat → Int32} {key : Int32} (h : SRP l L1 L2 f g) (hh : ¬ hs l key = true) : SRP (del l key) L1 L2 f g := by
  have e : del l key = l := by unfold del; rw [if_neg hh]
  rw [e]; exact h

set_option maxHeartbeats 4000000 in
set_option maxRecDepth 100000 in
theorem c_X3_init (l : Launch) (D : va_G) (cI cZ cS cJ : ClassId) (sz : Nat) (h : Nat) : Met l yX3_init (Cond.code yX3_init cX3_init 1 none :: TB) ({ frames := 1, cells := 2, slots := 64, locals := 16 } : Room) (va_Pc [.ref h] (PB D (KT cI cZ cS cJ) ([(h, .inr (3, [.null, .null, .int 0]))]) sz)) (va_Qv (fun (_ : Nat × Nat) => True) (fun (u : Nat × Nat) t => va_P D vwCl [(h, .inr (3, [.ref u.1, .ref u.2, .int 0])), (u.1, .inl (cI, 32, .inl (fun _ => 0))), (u.2, .inl (cI, 32, .inl (fun _ => 0)))] t.heap ∧ va_D (va_A [(h, .inr (3, [.null, .null, .int 0]))] sz) [(h, .inr (3, [.ref u.1, .ref u.2, .int 0])), (u.1, .inl (cI, 32, .inl (fun _ => 0))), (u.2, .inl (cI, 32, .inl (fun _ => 0)))]) (va_A ([(h, .inr (3, [.null, .null, .int 0]))]) sz)) 2 64 (va_A ([(h, .inr (3, [.null, .null, .int 0]))]) sz) := by
  refine Met.ofW (cc := cX3_init) (maxL := 1) (ret := none) (by decide) rfl ?_
  intro p e s m args below meth c s₁ B hml hv
  obtain ⟨rfl, hsz, hP, hK, hD0⟩ := hv
  have hx := B.exec
  have hb := B.bytes
  have hr := B.returns
  have hts := atoms_spec (ws := (Cond.code yX3_init cX3_init 1 none :: TB)) B.pre
  have ht : ∀ w ∈ TB, w.before _ s = true := fun w h => hts w (List.mem_cons_of_mem _ h)
  have hown : s.vm.findClass RX3 = some m.cls := findClass_of_methodNamed B.named
  have hlocks := B.notSynchronized
  have hin : meth.name = "<init>" := (name_of_methodNamed B.named B.method).1
  subst hsz
  have hD := hD0.self (sz := s.heap.size)
  generalize hAe : va_A ([(h, .inr (3, [.null, .null, .int 0]))]) s.heap.size = A at hD ⊢
  have hA : ∀ q : Nat, s.heap.size ≤ q → A q := fun q h => by rw [← hAe]; exact Or.inr h
  have hS : va_S A s.heap s.heap [] := va_S.rf
  have hP : va_P D vwCl ([(h, .inr (3, [.null, .null, .int 0]))]) s.heap := hP
  have hl := lv_entry ([.ref h]) (n := 1) (Nat.le_of_ble_eq_true rfl)
  rw [lg_entry_eq]
  generalize (lg_sl ([.ref h]) ++ List.replicate (1 - (lg_sl ([.ref h])).length) Slot.unset).toArray = ls at hl ⊢
  have hl : lv_has ls 1 [(0, .ref h)] := hl
  refine lv_aload_n hx hb dX3_init_0 rfl (lv_at hl 0 rfl) ?_
  refine W.objInit hx hb hown (ht _ kw1_123) (ht _ kw1_25) (ht _ kw1_26) rfl (by rw [hml]; exact hl.1) rfl dX3_init_1 (Nat.le_of_ble_eq_true rfl) (Nat.le_of_ble_eq_true rfl) ?_
  refine W.eq (g2 := F0 m 4 ls []) rfl ?_
  refine lv_aload_n hx hb dX3_init_4 rfl (lv_at hl 0 rfl) ?_
  refine lv_bipush (v := 32) hx hb dX3_init_5 (by decide) ?_
  refine ya_newa (atype := .int) (ty := .int) hx hb (ht _ kw1_54) rfl (fun C h => by cases h) hK 0 rfl hP hD hS hA (a0 := (32, .inl (fun _ => 0))) (fun _ => rfl) (by decide) (by decide +kernel) (by decide +kernel) (Nat.le_of_ble_eq_true rfl) (Nat.le_of_ble_eq_true rfl) dX3_init_7 (fun q7 H hP hD hS => ?_)
  have hP : va_P D vwCl ([(h, .inr (3, [.null, .null, .int 0])), (q7, .inl (cI, 32, .inl (fun _ => 0)))]) H := hP
  have hD : va_D A ([(h, .inr (3, [.null, .null, .int 0])), (q7, .inl (cI, 32, .inl (fun _ => 0)))]) := hD
  refine va_put (D := D) (ci := 3) (v := .ref q7) (ty := .array .int) (C := RX3) (T := TX3) (N := 3) hx hb ht inX3 tyX3 tyX3_ok nmX3 hown hK hP hD hS 0 rfl rfl 0 (by decide) (ht _ kw1_124) (fun _ h9 => h9) rfl (by decide +kernel) (rfl) rfl (Nat.le_of_ble_eq_true rfl) dX3_init_9 (fun H locs hP hD hS => ?_)
  have hP : va_P D vwCl ([(h, .inr (3, [.ref q7, .null, .int 0])), (q7, .inl (cI, 32, .inl (fun _ => 0)))]) H := hP
  have hD : va_D A ([(h, .inr (3, [.ref q7, .null, .int 0])), (q7, .inl (cI, 32, .inl (fun _ => 0)))]) := hD
  refine lv_aload_n hx hb dX3_init_12 rfl (lv_at hl 0 rfl) ?_
  refine lv_bipush (v := 32) hx hb dX3_init_13 (by decide) ?_
  refine ya_newa (atype := .int) (ty := .int) hx hb (ht _ kw1_54) rfl (fun C h => by cases h) hK 0 rfl hP hD hS hA (a0 := (32, .inl (fun _ => 0))) (fun _ => rfl) (by decide) (by decide +kernel) (by decide +kernel) (Nat.le_of_ble_eq_true rfl) (Nat.le_of_ble_eq_true rfl) dX3_init_15 (fun q15 H hP hD hS => ?_)
  have hP : va_P D vwCl ([(h, .inr (3, [.ref q7, .null, .int 0])), (q7, .inl (cI, 32, .inl (fun _ => 0))), (q15, .inl (cI, 32, .inl (fun _ => 0)))]) H := hP
  have hD : va_D A ([(h, .inr (3, [.ref q7, .null, .int 0])), (q7, .inl (cI, 32, .inl (fun _ => 0))), (q15, .inl (cI, 32, .inl (fun _ => 0)))]) := hD
  refine va_put (D := D) (ci := 3) (v := .ref q15) (ty := .array .int) (C := RX3) (T := TX3) (N := 3) hx hb ht inX3 tyX3 tyX3_ok nmX3 hown hK hP hD hS 0 rfl rfl 1 (by decide) (ht _ kw1_126) (fun _ h9 => h9) rfl (by decide +kernel) (rfl) rfl (Nat.le_of_ble_eq_true rfl) dX3_init_17 (fun H locs hP hD hS => ?_)
  have hP : va_P D vwCl ([(h, .inr (3, [.ref q7, .ref q15, .int 0])), (q7, .inl (cI, 32, .inl (fun _ => 0))), (q15, .inl (cI, 32, .inl (fun _ => 0)))]) H := hP
  have hD : va_D A ([(h, .inr (3, [.ref q7, .ref q15, .int 0])), (q7, .inl (cI, 32, .inl (fun _ => 0))), (q15, .inl (cI, 32, .inl (fun _ => 0)))]) := hD
  refine W.widen (k := 2) (n := 64) (Nat.le_of_ble_eq_true rfl) (Nat.le_of_ble_eq_true rfl) ?_
  exact W.vret hx hb hr (fun t ht2 hW => ⟨⟨(q7, q15), rfl, trivial, ⟨by (try dsimp only); rw [ht2]; exact hP, by exact hD⟩⟩, hS.F ht2⟩) hS.2.2 dX3_init_20

set_option maxHeartbeats 4000000 in
set_option maxRecDepth 100000 in
theorem c_X3_hasAt (l : Launch) (D : va_G) (cI cZ cS cJ : ClassId) (sz : Nat) (h ka va L1 L2 : Nat) (f g : Nat → Int32) (li : List (Int32 × Int32)) (hr9 : SRP li L1 L2 f g) (hso : Srt li) (hl9 : li.length ≤ 1000) (i : Nat) (hi : i ≤ 2100) (key : Int32) : Met l yX3_hasAt (Cond.code yX3_hasAt cX3_hasAt 3 (some .boolean) :: TB) ({ frames := 0, cells := 0, slots := 0, locals := 0 } : Room) (va_Pc [.ref h, .int (nI i), .int key] (PB D (KT cI cZ cS cJ) ([(h, .inr (3, [.ref ka, .ref va, .int (nI li.length)])), (ka, .inl (cI, L1, .inl f)), (va, .inl (cI, L2, .inl g))]) sz)) (va_Qi (fun r (_ : Unit) => r = if i < li.length ∧ kx li i = key then 1 else 0) (fun (_ : Unit) t => va_P D vwCl ([(h, .inr (3, [.ref ka, .ref va, .int (nI li.length)])), (ka, .inl (cI, L1, .inl f)), (va, .inl (cI, L2, .inl g))]) t.heap) (va_A ([(h, .inr (3, [.ref ka, .ref va, .int (nI li.length)])), (ka, .inl (cI, L1, .inl f)), (va, .inl (cI, L2, .inl g))]) sz)) 0 0 (va_A ([(h, .inr (3, [.ref ka, .ref va, .int (nI li.length)])), (ka, .inl (cI, L1, .inl f)), (va, .inl (cI, L2, .inl g))]) sz) := by
  refine Met.ofW (cc := cX3_hasAt) (maxL := 3) (ret := (some .boolean)) (by decide) rfl ?_
  intro p e s m args below meth c s₁ B hml hv
  obtain ⟨rfl, hsz, hP, hK, hD0⟩ := hv
  have hx := B.exec
  have hb := B.bytes
  have hr := B.returns
  have hts := atoms_spec (ws := (Cond.code yX3_hasAt cX3_hasAt 3 (some .boolean) :: TB)) B.pre
  have ht : ∀ w ∈ TB, w.before _ s = true := fun w h => hts w (List.mem_cons_of_mem _ h)
  have hown : s.vm.findClass RX3 = some m.cls := findClass_of_methodNamed B.named
  have hlocks := B.notSynchronized
  subst hsz
  have hD := hD0.self (sz := s.heap.size)
  generalize hAe : va_A ([(h, .inr (3, [.ref ka, .ref va, .int (nI li.length)])), (ka, .inl (cI, L1, .inl f)), (va, .inl (cI, L2, .inl g))]) s.heap.size = A at hD ⊢
  have hA : ∀ q : Nat, s.heap.size ≤ q → A q := fun q h => by rw [← hAe]; exact Or.inr h
  have hS : va_S A s.heap s.heap [] := va_S.rf
  have hP : va_P D vwCl ([(h, .inr (3, [.ref ka, .ref va, .int (nI li.length)])), (ka, .inl (cI, L1, .inl f)), (va, .inl (cI, L2, .inl g))]) s.heap := hP
  have hl := lv_entry ([.ref h, .int (nI i), .int key]) (n := 3) (Nat.le_of_ble_eq_true rfl)
  rw [lg_entry_eq]
  generalize (lg_sl ([.ref h, .int (nI i), .int key]) ++ List.replicate (3 - (lg_sl ([.ref h, .int (nI i), .int key])).length) Slot.unset).toArray = ls at hl ⊢
  have hl : lv_has ls 3 [(0, .ref h), (1, .int (nI i)), (2, .int key)] := hl
  refine lv_iload_n hx hb dX3_hasAt_0 rfl (lv_at hl 1 rfl) ?_
  refine lv_aload_n hx hb dX3_hasAt_1 rfl (lv_at hl 0 rfl) ?_
  refine va_get (D := D) (ci := 3) (v := .int (nI li.length)) (C := RX3) (T := TX3) (N := 3) hx hb ht inX3 hown hK hP 0 rfl rfl 2 (by decide) (ht _ kw1_127) (fun _ h9 => h9) rfl dX3_hasAt_2 ?_
  refine lv_icmp_ge (tgt := 22) hx hb dX3_hasAt_5 (by decide) (fun c5 => ?_) (fun c5 => ?_)
  · have hno : ¬ (i < li.length ∧ kx li i = key) := fun q => absurd c5 (nI_ge q.1 (by omega))
    refine lv_iconst (v := 0) hx hb dX3_hasAt_22 (by decide) ?_
    exact W.zret (v := 0) hx hb hr (by decide +kernel) (fun t ht2 hW => ⟨⟨0, (), rfl, by first | rw [if_pos hyes] | rw [if_neg hno], by (try dsimp only); rw [ht2]; exact hP⟩, hS.F ht2⟩) hS.2.2 dX3_hasAt_23
  · have hil : i < li.length := by
      rcases Nat.lt_or_ge i li.length with q | q
      · exact q
      · exact absurd (nI_le q (by omega)) c5
    obtain ⟨⟨g1, g2⟩, g3, g4⟩ := id hr9
    refine lv_aload_n hx hb dX3_hasAt_8 rfl (lv_at hl 0 rfl) ?_
    refine va_get (D := D) (ci := 3) (v := .ref ka) (C := RX3) (T := TX3) (N := 3) hx hb ht inX3 hown hK hP 0 rfl rfl 0 (by decide) (ht _ kw1_124) (fun _ h9 => h9) rfl dX3_hasAt_9 ?_
    refine lv_iload_n hx hb dX3_hasAt_12 rfl (lv_at hl 1 rfl) ?_
    refine ya_iald hx hb hK hP 1 0 rfl rfl i (rfl) (by omega) (by omega) dX3_hasAt_13 ?_
    refine lv_iload_n hx hb dX3_hasAt_14 rfl (lv_at hl 2 rfl) ?_
    refine lv_icmp_ne (tgt := 22) hx hb dX3_hasAt_15 (by decide) (fun c15 => ?_) (fun c15 => ?_)
    · have hno : ¬ (i < li.length ∧ kx li i = key) := fun q => c15 (by rw [(g4 i hil).1]; exact q.2)
      refine lv_iconst (v := 0) hx hb dX3_hasAt_22 (by decide) ?_
      exact W.zret (v := 0) hx hb hr (by decide +kernel) (fun t ht2 hW => ⟨⟨0, (), rfl, by first | rw [if_pos hyes] | rw [if_neg hno], by (try dsimp only); rw [ht2]; exact hP⟩, hS.F ht2⟩) hS.2.2 dX3_hasAt_23
    · have hyes : i < li.length ∧ kx li i = key := ⟨hil, by rw [← (g4 i hil).1]; exact c15⟩
      refine lv_iconst (v := 1) hx hb dX3_hasAt_18 (by decide) ?_
      refine lv_goto (tgt := 23) hx hb dX3_hasAt_19 (by decide) ?_
      exact W.zret (v := 1) hx hb hr (by decide +kernel) (fun t ht2 hW => ⟨⟨1, (), rfl, by first | rw [if_pos hyes] | rw [if_neg hno], by (try dsimp only); rw [ht2]; exact hP⟩, hS.F ht2⟩) hS.2.2 dX3_hasAt_23

set_option maxHeartbeats 4000000 in
set_option maxRecDepth 100000 in
theorem c_X3_has (l : Launch) (D : va_G) (cI cZ cS cJ : ClassId) (sz : Nat) (h ka va L1 L2 : Nat) (f g : Nat → Int32) (li : List (Int32 × Int32)) (hr9 : SRP li L1 L2 f g) (hso : Srt li) (hl9 : li.length ≤ 1000) (key : Int32) : Met l yX3_has (Cond.code yX3_has cX3_has 2 (some .boolean) :: TB) ({ frames := 3, cells := 0, slots := 0, locals := 65 } : Room) (va_Pc [.ref h, .int key] (PB D (KT cI cZ cS cJ) ([(h, .inr (3, [.ref ka, .ref va, .int (nI li.length)])), (ka, .inl (cI, L1, .inl f)), (va, .inl (cI, L2, .inl g))]) sz)) (va_Qi (fun r (_ : Unit) => r = if hs li key = true then 1 else 0) (fun (_ : Unit) t => va_P D vwCl ([(h, .inr (3, [.ref ka, .ref va, .int (nI li.length)])), (ka, .inl (cI, L1, .inl f)), (va, .inl (cI, L2, .inl g))]) t.heap) (va_A ([(h, .inr (3, [.ref ka, .ref va, .int (nI li.length)])), (ka, .inl (cI, L1, .inl f)), (va, .inl (cI, L2, .inl g))]) sz)) 0 0 (va_A ([(h, .inr (3, [.ref ka, .ref va, .int (nI li.length)])), (ka, .inl (cI, L1, .inl f)), (va, .inl (cI, L2, .inl g))]) sz) := by
  refine Met.ofW (cc := cX3_has) (maxL := 2) (ret := (some .boolean)) (by decide) rfl ?_
  intro p e s m args below meth c s₁ B hml hv
  obtain ⟨rfl, hsz, hP, hK, hD0⟩ := hv
  have hx := B.exec
  have hb := B.bytes
  have hr := B.returns
  have hts := atoms_spec (ws := (Cond.code yX3_has cX3_has 2 (some .boolean) :: TB)) B.pre
  have ht : ∀ w ∈ TB, w.before _ s = true := fun w h => hts w (List.mem_cons_of_mem _ h)
  have hown : s.vm.findClass RX3 = some m.cls := findClass_of_methodNamed B.named
  have hlocks := B.notSynchronized
  subst hsz
  have hD := hD0.self (sz := s.heap.size)
  generalize hAe : va_A ([(h, .inr (3, [.ref ka, .ref va, .int (nI li.length)])), (ka, .inl (cI, L1, .inl f)), (va, .inl (cI, L2, .inl g))]) s.heap.size = A at hD ⊢
  have hA : ∀ q : Nat, s.heap.size ≤ q → A q := fun q h => by rw [← hAe]; exact Or.inr h
  have hS : va_S A s.heap s.heap [] := va_S.rf
  have hP : va_P D vwCl ([(h, .inr (3, [.ref ka, .ref va, .int (nI li.length)])), (ka, .inl (cI, L1, .inl f)), (va, .inl (cI, L2, .inl g))]) s.heap := hP
  have hl := lv_entry ([.ref h, .int key]) (n := 2) (Nat.le_of_ble_eq_true rfl)
  rw [lg_entry_eq]
  generalize (lg_sl ([.ref h, .int key]) ++ List.replicate (2 - (lg_sl ([.ref h, .int key])).length) Slot.unset).toArray = ls at hl ⊢
  have hl : lv_has ls 2 [(0, .ref h), (1, .int key)] := hl
  refine lv_aload_n hx hb dX3_has_0 rfl (lv_at hl 0 rfl) ?_
  refine lv_aload_n hx hb dX3_has_1 rfl (lv_at hl 0 rfl) ?_
  refine va_get (D := D) (ci := 3) (v := .ref ka) (C := RX3) (T := TX3) (N := 3) hx hb ht inX3 hown hK hP 0 rfl rfl 0 (by decide) (ht _ kw1_124) (fun _ h9 => h9) rfl dX3_has_2 ?_
  refine lv_aload_n hx hb dX3_has_5 rfl (lv_at hl 0 rfl) ?_
  refine va_get (D := D) (ci := 3) (v := .int (nI li.length)) (C := RX3) (T := TX3) (N := 3) hx hb ht inX3 hown hK hP 0 rfl rfl 2 (by decide) (ht _ kw1_127) (fun _ h9 => h9) rfl dX3_has_6 ?_
  refine lv_iload_n hx hb dX3_has_9 rfl (lv_at hl 1 rfl) ?_
  have hPc := hP.sub (ws' := [(ka, .inl (cI, L1, .inl f))]) [1] rfl
  have hDc := hD.sub (ws' := [(ka, .inl (cI, L1, .inl f))]) [1] (by decide) rfl
  have hFc := va_free (wc := [(ka, .inl (cI, L1, .inl f))]) hD hS hA [1] rfl
  refine va_calli (va_runSN (As := [.ref ka, .int (nI li.length), .int key]) (rest := [.ref h]) ⟨hx, hb, hml, hown, ht⟩ (c_X4_below l D cI cZ cS cJ s.heap.size ka L1 f li.length key (by have := hr9.1.2; omega) hr9.1.1 (by omega) (hr9.as hso)) ⟨xwN 3 ht kw1_148 kw2_69 kw1_1 rfl rfl (by decide +kernel) ⟨Nat.le_of_ble_eq_true rfl, Nat.le_of_ble_eq_true rfl⟩, ht _ kw1_147, trivial⟩ ⟨PB.blind, fun U hU hW => PB.mk hU hW hPc hK hDc⟩ rfl rfl hl.1 rfl (lv_room (Nat.le_of_ble_eq_true rfl)) dX3_has_10 ⟨Nat.le_of_ble_eq_true rfl, Nat.le_of_ble_eq_true rfl⟩) hS (fun q _ h => hFc q h) hFc (fun r10 u10 t10 H1 locs ht1 hvm w10 hB hz1 hk1 hS => ?_)
  try dsimp only at w10 hB
  rw [ht1] at hB
  have hP := wk_ro hP hD [1] rfl hk1 hB
  generalize H1 = H at hP hS ⊢
  obtain ⟨k10, ek, hbw⟩ := w10
  have hke := rk_of_BW (fun j hj => (hr9.2.2 j hj).1) hbw
  subst hke
  have ek := ek.symm
  subst ek
  have hrk := rk_le li key
  refine lv_iload_n hx hb dX3_has_13 rfl (lv_at hl 1 rfl) ?_
  have hPc := hP.sub (ws' := [(h, .inr (3, [.ref ka, .ref va, .int (nI li.length)])), (ka, .inl (cI, L1, .inl f)), (va, .inl (cI, L2, .inl g))]) [0, 1, 2] rfl
  have hDc := hD.sub (ws' := [(h, .inr (3, [.ref ka, .ref va, .int (nI li.length)])), (ka, .inl (cI, L1, .inl f)), (va, .inl (cI, L2, .inl g))]) [0, 1, 2] (by decide) rfl
  have hFc := va_free (wc := [(h, .inr (3, [.ref ka, .ref va, .int (nI li.length)])), (ka, .inl (cI, L1, .inl f)), (va, .inl (cI, L2, .inl g))]) hD hS hA [0, 1, 2] rfl
  refine va_calli (va_runV (As := [.int (nI (rk li key)), .int key]) (rest := []) ⟨hx, hb, hml, hown, ht⟩ (c_X3_hasAt l D cI cZ cS cJ H.size h ka va L1 L2 f g li hr9 hso hl9 (rk li key) (by omega) key) (xwV 2 ht kw2_73 kw2_70 kw1_6 kw2_72 kwS_8 rfl rfl (by decide +kernel) ⟨Nat.le_of_ble_eq_true rfl, Nat.le_of_ble_eq_true rfl⟩) ⟨PB.blind, va_recv hK hPc (ci := 3) (q0 := 0) rfl rfl, fun U hU hW => PB.mk hU hW hPc hK hDc⟩ rfl rfl hl.1 rfl (lv_room (Nat.le_of_ble_eq_true rfl)) dX3_has_14 ⟨Nat.le_of_ble_eq_true rfl, Nat.le_of_ble_eq_true rfl⟩) hS (fun q _ h => hFc q h) hFc (fun r14 u14 t14 H1 locs ht1 hvm w14 hB hz1 hk1 hS => ?_)
  try dsimp only at w14 hB
  rw [ht1] at hB
  have hP := wk_ro hP hD [0, 1, 2] rfl hk1 hB
  generalize H1 = H at hP hS ⊢
  exact W.zret (v := r14) hx hb hr (by rw [w14]; split <;> decide +kernel) (fun t ht2 hW => ⟨⟨r14, (), rfl, by
        (try dsimp only)
        rw [w14]
        by_cases q : hs li key = true
        · rw [if_pos q, if_pos (hs_iff.mp q)]
        · rw [if_neg q, if_neg (fun z => q (hs_iff.mpr z))], by (try dsimp only); rw [ht2]; exact hP⟩, hS.F ht2⟩) hS.2.2 dX3_has_17

set_option maxHeartbeats 4000000 in
set_option maxRecDepth 100000 in
theorem c_X3_valueOf (l : Launch) (D : va_G) (cI cZ cS cJ : ClassId) (sz : Nat) (h ka va L1 L2 : Nat) (f g : Nat → Int32) (li : List (Int32 × Int32)) (hr9 : SRP li L1 L2 f g) (hso : Srt li) (hl9 : li.length ≤ 1000) (key : Int32) : Met l yX3_valueOf (Cond.code yX3_valueOf cX3_valueOf 3 (some .int) :: TB) ({ frames := 3, cells := 0, slots := 0, locals := 65 } : Room) (va_Pc [.ref h, .int key] (PB D (KT cI cZ cS cJ) ([(h, .inr (3, [.ref ka, .ref va, .int (nI li.length)])), (ka, .inl (cI, L1, .inl f)), (va, .inl (cI, L2, .inl g))]) sz)) (va_Qi (fun r (_ : Unit) => r = if hs li key = true then vx li (rk li key) else 0) (fun (_ : Unit) t => va_P D vwCl ([(h, .inr (3, [.ref ka, .ref va, .int (nI li.length)])), (ka, .inl (cI, L1, .inl f)), (va, .inl (cI, L2, .inl g))]) t.heap) (va_A ([(h, .inr (3, [.ref ka, .ref va, .int (nI li.length)])), (ka, .inl (cI, L1, .inl f)), (va, .inl (cI, L2, .inl g))]) sz)) 0 0 (va_A ([(h, .inr (3, [.ref ka, .ref va, .int (nI li.length)])), (ka, .inl (cI, L1, .inl f)), (va, .inl (cI, L2, .inl g))]) sz) := by
  refine Met.ofW (cc := cX3_valueOf) (maxL := 3) (ret := (some .int)) (by decide) rfl ?_
  intro p e s m args below meth c s₁ B hml hv
  obtain ⟨rfl, hsz, hP, hK, hD0⟩ := hv
  have hx := B.exec
  have hb := B.bytes
  have hr := B.returns
  have hts := atoms_spec (ws := (Cond.code yX3_valueOf cX3_valueOf 3 (some .int) :: TB)) B.pre
  have ht : ∀ w ∈ TB, w.before _ s = true := fun w h => hts w (List.mem_cons_of_mem _ h)
  have hown : s.vm.findClass RX3 = some m.cls := findClass_of_methodNamed B.named
  have hlocks := B.notSynchronized
  subst hsz
  have hD := hD0.self (sz := s.heap.size)
  generalize hAe : va_A ([(h, .inr (3, [.ref ka, .ref va, .int (nI li.length)])), (ka, .inl (cI, L1, .inl f)), (va, .inl (cI, L2, .inl g))]) s.heap.size = A at hD ⊢
  have hA : ∀ q : Nat, s.heap.size ≤ q → A q := fun q h => by rw [← hAe]; exact Or.inr h
  have hS : va_S A s.heap s.heap [] := va_S.rf
  have hP : va_P D vwCl ([(h, .inr (3, [.ref ka, .ref va, .int (nI li.length)])), (ka, .inl (cI, L1, .inl f)), (va, .inl (cI, L2, .inl g))]) s.heap := hP
  have hl := lv_entry ([.ref h, .int key]) (n := 3) (Nat.le_of_ble_eq_true rfl)
  rw [lg_entry_eq]
  generalize (lg_sl ([.ref h, .int key]) ++ List.replicate (3 - (lg_sl ([.ref h, .int key])).length) Slot.unset).toArray = ls at hl ⊢
  have hl : lv_has ls 3 [(0, .ref h), (1, .int key)] := hl
  refine lv_aload_n hx hb dX3_valueOf_0 rfl (lv_at hl 0 rfl) ?_
  refine va_get (D := D) (ci := 3) (v := .ref ka) (C := RX3) (T := TX3) (N := 3) hx hb ht inX3 hown hK hP 0 rfl rfl 0 (by decide) (ht _ kw1_124) (fun _ h9 => h9) rfl dX3_valueOf_1 ?_
  refine lv_aload_n hx hb dX3_valueOf_4 rfl (lv_at hl 0 rfl) ?_
  refine va_get (D := D) (ci := 3) (v := .int (nI li.length)) (C := RX3) (T := TX3) (N := 3) hx hb ht inX3 hown hK hP 0 rfl rfl 2 (by decide) (ht _ kw1_127) (fun _ h9 => h9) rfl dX3_valueOf_5 ?_
  refine lv_iload_n hx hb dX3_valueOf_8 rfl (lv_at hl 1 rfl) ?_
  have hPc := hP.sub (ws' := [(ka, .inl (cI, L1, .inl f))]) [1] rfl
  have hDc := hD.sub (ws' := [(ka, .inl (cI, L1, .inl f))]) [1] (by decide) rfl
  have hFc := va_free (wc := [(ka, .inl (cI, L1, .inl f))]) hD hS hA [1] rfl
  refine va_calli (va_runSN (As := [.ref ka, .int (nI li.length), .int key]) (rest := []) ⟨hx, hb, hml, hown, ht⟩ (c_X4_below l D cI cZ cS cJ s.heap.size ka L1 f li.length key (by have := hr9.1.2; omega) hr9.1.1 (by omega) (hr9.as hso)) ⟨xwN 3 ht kw1_148 kw2_69 kw1_1 rfl rfl (by decide +kernel) ⟨Nat.le_of_ble_eq_true rfl, Nat.le_of_ble_eq_true rfl⟩, ht _ kw1_147, trivial⟩ ⟨PB.blind, fun U hU hW => PB.mk hU hW hPc hK hDc⟩ rfl rfl hl.1 rfl (lv_room (Nat.le_of_ble_eq_true rfl)) dX3_valueOf_9 ⟨Nat.le_of_ble_eq_true rfl, Nat.le_of_ble_eq_true rfl⟩) hS (fun q _ h => hFc q h) hFc (fun r9 u9 t9 H1 locs ht1 hvm w9 hB hz1 hk1 hS => ?_)
  try dsimp only at w9 hB
  rw [ht1] at hB
  have hP := wk_ro hP hD [1] rfl hk1 hB
  generalize H1 = H at hP hS ⊢
  obtain ⟨k9, ek, hbw⟩ := w9
  have hke := rk_of_BW (fun j hj => (hr9.2.2 j hj).1) hbw
  subst hke
  have ek := ek.symm
  subst ek
  have hrk := rk_le li key
  refine lv_istore_n (lv' := [(2, .int (nI (rk li key))), (0, .ref h), (1, .int key)]) hx hb dX3_valueOf_12 rfl hl (by decide) rfl (fun ls hl => ?_)
  refine lv_aload_n hx hb dX3_valueOf_13 rfl (lv_at hl 1 rfl) ?_
  refine lv_iload_n hx hb dX3_valueOf_14 rfl (lv_at hl 0 rfl) ?_
  refine lv_iload_n hx hb dX3_valueOf_15 rfl (lv_at hl 2 rfl) ?_
  have hPc := hP.sub (ws' := [(h, .inr (3, [.ref ka, .ref va, .int (nI li.length)])), (ka, .inl (cI, L1, .inl f)), (va, .inl (cI, L2, .inl g))]) [0, 1, 2] rfl
  have hDc := hD.sub (ws' := [(h, .inr (3, [.ref ka, .ref va, .int (nI li.length)])), (ka, .inl (cI, L1, .inl f)), (va, .inl (cI, L2, .inl g))]) [0, 1, 2] (by decide) rfl
  have hFc := va_free (wc := [(h, .inr (3, [.ref ka, .ref va, .int (nI li.length)])), (ka, .inl (cI, L1, .inl f)), (va, .inl (cI, L2, .inl g))]) hD hS hA [0, 1, 2] rfl
  refine va_calli (va_runV (As := [.int (nI (rk li key)), .int key]) (rest := []) ⟨hx, hb, hml, hown, ht⟩ (c_X3_hasAt l D cI cZ cS cJ H.size h ka va L1 L2 f g li hr9 hso hl9 (rk li key) (by omega) key) (xwV 2 ht kw2_73 kw2_70 kw1_6 kw2_72 kwS_8 rfl rfl (by decide +kernel) ⟨Nat.le_of_ble_eq_true rfl, Nat.le_of_ble_eq_true rfl⟩) ⟨PB.blind, va_recv hK hPc (ci := 3) (q0 := 0) rfl rfl, fun U hU hW => PB.mk hU hW hPc hK hDc⟩ rfl rfl hl.1 rfl (lv_room (Nat.le_of_ble_eq_true rfl)) dX3_valueOf_16 ⟨Nat.le_of_ble_eq_true rfl, Nat.le_of_ble_eq_true rfl⟩) hS (fun q _ h => hFc q h) hFc (fun r16 u16 t16 H1 locs ht1 hvm w16 hB hz1 hk1 hS => ?_)
  try dsimp only at w16 hB
  rw [ht1] at hB
  have hP := wk_ro hP hD [0, 1, 2] rfl hk1 hB
  generalize H1 = H at hP hS ⊢
  refine lv_if_eq (tgt := 31) hx hb dX3_valueOf_19 (by decide) (fun c19 => ?_) (fun c19 => ?_)
  · have hno : ¬ hs li key = true := fun q => by rw [w16, if_pos (hs_iff.mp q)] at c19; exact absurd c19 (by decide)
    refine lv_iconst (v := 0) hx hb dX3_valueOf_31 (by decide) ?_
    exact W.iret (v := 0) hx hb hr (fun t ht2 hW => ⟨⟨0, (), rfl, by first | (rw [if_pos hyes]; exact (hr9.2.2 _ hlt).2) | rw [if_neg hno], by (try dsimp only); rw [ht2]; exact hP⟩, hS.F ht2⟩) hS.2.2 dX3_valueOf_32
  · have hyes : hs li key = true := Decidable.byContradiction (fun q => c19 (by rw [w16, if_neg (fun z => q (hs_iff.mpr z))]))
    have hlt := (hs_iff.mp hyes).1
    refine lv_aload_n hx hb dX3_valueOf_22 rfl (lv_at hl 1 rfl) ?_
    refine va_get (D := D) (ci := 3) (v := .ref va) (C := RX3) (T := TX3) (N := 3) hx hb ht inX3 hown hK hP 0 rfl rfl 1 (by decide) (ht _ kw1_126) (fun _ h9 => h9) rfl dX3_valueOf_23 ?_
    refine lv_iload_n hx hb dX3_valueOf_26 rfl (lv_at hl 0 rfl) ?_
    refine ya_iald hx hb hK hP 2 0 rfl rfl (rk li key) (rfl) (by have := hr9.2.1.1; omega) (by have := hr9.2.1.2; omega) dX3_valueOf_27 ?_
    refine lv_goto (tgt := 32) hx hb dX3_valueOf_28 (by decide) ?_
    exact W.iret (v := g (rk li key)) hx hb hr (fun t ht2 hW => ⟨⟨g (rk li key), (), rfl, by first | (rw [if_pos hyes]; exact (hr9.2.2 _ hlt).2) | rw [if_neg hno], by (try dsimp only); rw [ht2]; exact hP⟩, hS.F ht2⟩) hS.2.2 dX3_valueOf_32

set_option maxHeartbeats 4000000 in
set_option maxRecDepth 100000 in
theorem c_X3_set (l : Launch) (D : va_G) (cI cZ cS cJ : ClassId) (sz : Nat) (h ka va L1 L2 : Nat) (f g : Nat → Int32) (li : List (Int32 × Int32)) (hr9 : SRP li L1 L2 f g) (hso : Srt li) (hl9 : li.length ≤ 1000) (hl8 : li.length < 1000) (key v : Int32) : Met l yX3_set (Cond.code yX3_set cX3_set 4 none :: TB) ({ frames := 3, cells := 2, slots := 4100, locals := 86 } : Room) (va_Pc [.ref h, .int key, .int v] (PB D (KT cI cZ cS cJ) ([(h, .inr (3, [.ref ka, .ref va, .int (nI li.length)])), (ka, .inl (cI, L1, .inl f)), (va, .inl (cI, L2, .inl g))]) sz)) (va_Qv (fun (u : Nat × Nat × Nat × Nat × (Nat → Int32) × (Nat → Int32)) => SRP (ins li key v) u.2.2.1 u.2.2.2.1 u.2.2.2.2.1 u.2.2.2.2.2) (fun (u : Nat × Nat × Nat × Nat × (Nat → Int32) × (Nat → Int32)) t => va_P D vwCl [(h, .inr (3, [.ref u.1, .ref u.2.1, .int (nI (ins li key v).length)])), (u.1, .inl (cI, u.2.2.1, .inl u.2.2.2.2.1)), (u.2.1, .inl (cI, u.2.2.2.1, .inl u.2.2.2.2.2))] t.heap ∧ va_D (va_A [(h, .inr (3, [.ref ka, .ref va, .int (nI li.length)])), (ka, .inl (cI, L1, .inl f)), (va, .inl (cI, L2, .inl g))] sz) [(h, .inr (3, [.ref u.1, .ref u.2.1, .int (nI (ins li key v).length)])), (u.1, .inl (cI, u.2.2.1, .inl u.2.2.2.2.1)), (u.2.1, .inl (cI, u.2.2.2.1, .inl u.2.2.2.2.2))]) (va_A ([(h, .inr (3, [.ref ka, .ref va, .int (nI li.length)])), (ka, .inl (cI, L1, .inl f)), (va, .inl (cI, L2, .inl g))]) sz)) 2 4100 (va_A ([(h, .inr (3, [.ref ka, .ref va, .int (nI li.length)])), (ka, .inl (cI, L1, .inl f)), (va, .inl (cI, L2, .inl g))]) sz) := by
  refine Met.ofW (cc := cX3_set) (maxL := 4) (ret := none) (by decide) rfl ?_
  intro p e s m args below meth c s₁ B hml hv
  obtain ⟨rfl, hsz, hP, hK, hD0⟩ := hv
  have hx := B.exec
  have hb := B.bytes
  have hr := B.returns
  have hts := atoms_spec (ws := (Cond.code yX3_set cX3_set 4 none :: TB)) B.pre
  have ht : ∀ w ∈ TB, w.before _ s = true := fun w h => hts w (List.mem_cons_of_mem _ h)
  have hown : s.vm.findClass RX3 = some m.cls := findClass_of_methodNamed B.named
  have hlocks := B.notSynchronized
  subst hsz
  have hD := hD0.self (sz := s.heap.size)
  generalize hAe : va_A ([(h, .inr (3, [.ref ka, .ref va, .int (nI li.length)])), (ka, .inl (cI, L1, .inl f)), (va, .inl (cI, L2, .inl g))]) s.heap.size = A at hD ⊢
  have hA : ∀ q : Nat, s.heap.size ≤ q → A q := fun q h => by rw [← hAe]; exact Or.inr h
  have hS : va_S A s.heap s.heap [] := va_S.rf
  have hP : va_P D vwCl ([(h, .inr (3, [.ref ka, .ref va, .int (nI li.length)])), (ka, .inl (cI, L1, .inl f)), (va, .inl (cI, L2, .inl g))]) s.heap := hP
  have hl := lv_entry ([.ref h, .int key, .int v]) (n := 4) (Nat.le_of_ble_eq_true rfl)
  rw [lg_entry_eq]
  generalize (lg_sl ([.ref h, .int key, .int v]) ++ List.replicate (4 - (lg_sl ([.ref h, .int key, .int v])).length) Slot.unset).toArray = ls at hl ⊢
  have hl : lv_has ls 4 [(0, .ref h), (1, .int key), (2, .int v)] := hl
  refine lv_aload_n hx hb dX3_set_0 rfl (lv_at hl 0 rfl) ?_
  refine va_get (D := D) (ci := 3) (v := .ref ka) (C := RX3) (T := TX3) (N := 3) hx hb ht inX3 hown hK hP 0 rfl rfl 0 (by decide) (ht _ kw1_124) (fun _ h9 => h9) rfl dX3_set_1 ?_
  refine lv_aload_n hx hb dX3_set_4 rfl (lv_at hl 0 rfl) ?_
  refine va_get (D := D) (ci := 3) (v := .int (nI li.length)) (C := RX3) (T := TX3) (N := 3) hx hb ht inX3 hown hK hP 0 rfl rfl 2 (by decide) (ht _ kw1_127) (fun _ h9 => h9) rfl dX3_set_5 ?_
  refine lv_iload_n hx hb dX3_set_8 rfl (lv_at hl 1 rfl) ?_
  have hPc := hP.sub (ws' := [(ka, .inl (cI, L1, .inl f))]) [1] rfl
  have hDc := hD.sub (ws' := [(ka, .inl (cI, L1, .inl f))]) [1] (by decide) rfl
  have hFc := va_free (wc := [(ka, .inl (cI, L1, .inl f))]) hD hS hA [1] rfl
  refine va_calli (va_runSN (As := [.ref ka, .int (nI li.length), .int key]) (rest := []) ⟨hx, hb, hml, hown, ht⟩ (c_X4_below l D cI cZ cS cJ s.heap.size ka L1 f li.length key (by have := hr9.1.2; omega) hr9.1.1 (by omega) (hr9.as hso)) ⟨xwN 3 ht kw1_148 kw2_69 kw1_1 rfl rfl (by decide +kernel) ⟨Nat.le_of_ble_eq_true rfl, Nat.le_of_ble_eq_true rfl⟩, ht _ kw1_147, trivial⟩ ⟨PB.blind, fun U hU hW => PB.mk hU hW hPc hK hDc⟩ rfl rfl hl.1 rfl (lv_room (Nat.le_of_ble_eq_true rfl)) dX3_set_9 ⟨Nat.le_of_ble_eq_true rfl, Nat.le_of_ble_eq_true rfl⟩) hS (fun q _ h => hFc q h) hFc (fun r9 u9 t9 H1 locs ht1 hvm w9 hB hz1 hk1 hS => ?_)
  try dsimp only at w9 hB
  rw [ht1] at hB
  have hP := wk_ro hP hD [1] rfl hk1 hB
  generalize H1 = H at hP hS ⊢
  obtain ⟨k9, ek, hbw⟩ := w9
  have hke := rk_of_BW (fun j hj => (hr9.2.2 j hj).1) hbw
  subst hke
  have ek := ek.symm
  subst ek
  have hrk := rk_le li key
  refine lv_istore_n (lv' := [(3, .int (nI (rk li key))), (0, .ref h), (1, .int key), (2, .int v)]) hx hb dX3_set_12 rfl hl (by decide) rfl (fun ls hl => ?_)
  refine lv_aload_n hx hb dX3_set_13 rfl (lv_at hl 1 rfl) ?_
  refine lv_iload_n hx hb dX3_set_14 rfl (lv_at hl 0 rfl) ?_
  refine lv_iload_n hx hb dX3_set_15 rfl (lv_at hl 2 rfl) ?_
  have hPc := hP.sub (ws' := [(h, .inr (3, [.ref ka, .ref va, .int (nI li.length)])), (ka, .inl (cI, L1, .inl f)), (va, .inl (cI, L2, .inl g))]) [0, 1, 2] rfl
  have hDc := hD.sub (ws' := [(h, .inr (3, [.ref ka, .ref va, .int (nI li.length)])), (ka, .inl (cI, L1, .inl f)), (va, .inl (cI, L2, .inl g))]) [0, 1, 2] (by decide) rfl
  have hFc := va_free (wc := [(h, .inr (3, [.ref ka, .ref va, .int (nI li.length)])), (ka, .inl (cI, L1, .inl f)), (va, .inl (cI, L2, .inl g))]) hD hS hA [0, 1, 2] rfl
  refine va_calli (va_runV (As := [.int (nI (rk li key)), .int key]) (rest := []) ⟨hx, hb, hml, hown, ht⟩ (c_X3_hasAt l D cI cZ cS cJ H.size h ka va L1 L2 f g li hr9 hso hl9 (rk li key) (by omega) key) (xwV 2 ht kw2_73 kw2_70 kw1_6 kw2_72 kwS_8 rfl rfl (by decide +kernel) ⟨Nat.le_of_ble_eq_true rfl, Nat.le_of_ble_eq_true rfl⟩) ⟨PB.blind, va_recv hK hPc (ci := 3) (q0 := 0) rfl rfl, fun U hU hW => PB.mk hU hW hPc hK hDc⟩ rfl rfl hl.1 rfl (lv_room (Nat.le_of_ble_eq_true rfl)) dX3_set_16 ⟨Nat.le_of_ble_eq_true rfl, Nat.le_of_ble_eq_true rfl⟩) hS (fun q _ h => hFc q h) hFc (fun r16 u16 t16 H1 locs ht1 hvm w16 hB hz1 hk1 hS => ?_)
  try dsimp only at w16 hB
  rw [ht1] at hB
  have hP := wk_ro hP hD [0, 1, 2] rfl hk1 hB
  generalize H1 = H at hP hS ⊢
  refine lv_if_eq (tgt := 30) hx hb dX3_set_19 (by decide) (fun c19 => ?_) (fun c19 => ?_)
  · have hno : ¬ hs li key = true := fun q => by rw [w16, if_pos (hs_iff.mp q)] at c19; exact absurd c19 (by decide)
    refine lv_aload_n hx hb dX3_set_30 rfl (lv_at hl 1 rfl) ?_
    refine lv_aload_n hx hb dX3_set_31 rfl (lv_at hl 1 rfl) ?_
    refine va_get (D := D) (ci := 3) (v := .ref ka) (C := RX3) (T := TX3) (N := 3) hx hb ht inX3 hown hK hP 0 rfl rfl 0 (by decide) (ht _ kw1_124) (fun _ h9 => h9) rfl dX3_set_32 ?_
    refine lv_aload_n hx hb dX3_set_35 rfl (lv_at hl 1 rfl) ?_
    refine va_get (D := D) (ci := 3) (v := .int (nI li.length)) (C := RX3) (T := TX3) (N := 3) hx hb ht inX3 hown hK hP 0 rfl rfl 2 (by decide) (ht _ kw1_127) (fun _ h9 => h9) rfl dX3_set_36 ?_
    refine lv_iload_n hx hb dX3_set_39 rfl (lv_at hl 0 rfl) ?_
    refine lv_iload_n hx hb dX3_set_40 rfl (lv_at hl 2 rfl) ?_
    have hPc := hP.sub (ws' := [(ka, .inl (cI, L1, .inl f))]) [1] rfl
    have hDc := hD.sub (ws' := [(ka, .inl (cI, L1, .inl f))]) [1] (by decide) rfl
    have hFc := va_free (wc := [(ka, .inl (cI, L1, .inl f))]) hD hS hA [1] rfl
    refine va_callr (va_runSN (As := [.ref ka, .int (nI li.length), .int (nI (rk li key)), .int key]) (rest := [.ref h]) ⟨hx, hb, hml, hown, ht⟩ (c_X4_inserted l D cI cZ cS cJ H.size ka L1 f li.length (rk li key) key (by have := hr9.1.2; omega) (by have := hr9.1.1; omega) hrk) ⟨xwN 4 ht kw1_159 kw2_83 kw1_1 rfl rfl (by decide +kernel) ⟨Nat.le_of_ble_eq_true rfl, Nat.le_of_ble_eq_true rfl⟩, ht _ kw1_158, trivial⟩ ⟨PB.blind, fun U hU hW => PB.mk hU hW hPc hK hDc⟩ rfl rfl hl.1 rfl (lv_room (Nat.le_of_ble_eq_true rfl)) dX3_set_41 ⟨by show _ ≤ 2; split <;> omega, by show _ ≤ 4100; split <;> omega⟩) hS (fun q _ h => hFc q h) hFc (fun u41 ra41 t41 H1 locs ht1 hvm w41 hB hz1 hk1 hS => ?_)
    try dsimp only at w41 hB
    obtain ⟨hP1, hD1⟩ := hB
    rw [ht1] at hP1
    obtain ⟨hP, hD⟩ := wk_join (w1 := [(ra41, .inl (cI, u41.1, .inl u41.2))]) hP hD [1] rfl (by decide) rfl hk1 hFc hP1 hD1
    generalize H1 = H at hP hS ⊢
    have hP : va_P D vwCl ([(h, .inr (3, [.ref ka, .ref va, .int (nI li.length)])), (ra41, .inl (cI, u41.1, .inl u41.2)), (va, .inl (cI, L2, .inl g))]) H := hP
    have hD : va_D A ([(h, .inr (3, [.ref ka, .ref va, .int (nI li.length)])), (ra41, .inl (cI, u41.1, .inl u41.2)), (va, .inl (cI, L2, .inl g))]) := hD
    refine va_put (D := D) (ci := 3) (v := .ref ra41) (ty := .array .int) (C := RX3) (T := TX3) (N := 3) hx hb ht inX3 tyX3 tyX3_ok nmX3 hown hK hP hD hS 0 rfl rfl 0 (by decide) (ht _ kw1_124) (fun _ h9 => h9) rfl (by decide +kernel) (rfl) rfl (Nat.le_of_ble_eq_true rfl) dX3_set_44 (fun H locs hP hD hS => ?_)
    have hP : va_P D vwCl ([(h, .inr (3, [.ref ra41, .ref va, .int (nI li.length)])), (ra41, .inl (cI, u41.1, .inl u41.2)), (va, .inl (cI, L2, .inl g))]) H := hP
    have hD : va_D A ([(h, .inr (3, [.ref ra41, .ref va, .int (nI li.length)])), (ra41, .inl (cI, u41.1, .inl u41.2)), (va, .inl (cI, L2, .inl g))]) := hD
    refine lv_aload_n hx hb dX3_set_47 rfl (lv_at hl 1 rfl) ?_
    refine lv_aload_n hx hb dX3_set_48 rfl (lv_at hl 1 rfl) ?_
    refine va_get (D := D) (ci := 3) (v := .ref va) (C := RX3) (T := TX3) (N := 3) hx hb ht inX3 hown hK hP 0 rfl rfl 1 (by decide) (ht _ kw1_126) (fun _ h9 => h9) rfl dX3_set_49 ?_
    refine lv_aload_n hx hb dX3_set_52 rfl (lv_at hl 1 rfl) ?_
    refine va_get (D := D) (ci := 3) (v := .int (nI li.length)) (C := RX3) (T := TX3) (N := 3) hx hb ht inX3 hown hK hP 0 rfl rfl 2 (by decide) (ht _ kw1_127) (fun _ h9 => h9) rfl dX3_set_53 ?_
    refine lv_iload_n hx hb dX3_set_56 rfl (lv_at hl 0 rfl) ?_
    refine lv_iload_n hx hb dX3_set_57 rfl (lv_at hl 3 rfl) ?_
    have hPc := hP.sub (ws' := [(va, .inl (cI, L2, .inl g))]) [2] rfl
    have hDc := hD.sub (ws' := [(va, .inl (cI, L2, .inl g))]) [2] (by decide) rfl
    have hFc := va_free (wc := [(va, .inl (cI, L2, .inl g))]) hD hS hA [2] rfl
    refine va_callr (va_runSN (As := [.ref va, .int (nI li.length), .int (nI (rk li key)), .int v]) (rest := [.ref h]) ⟨hx, hb, hml, hown, ht⟩ (c_X4_inserted l D cI cZ cS cJ H.size va L2 g li.length (rk li key) v (by have := hr9.2.1.2; omega) (by have := hr9.2.1.1; omega) hrk) ⟨xwN 4 ht kw1_159 kw2_83 kw1_1 rfl rfl (by decide +kernel) ⟨Nat.le_of_ble_eq_true rfl, Nat.le_of_ble_eq_true rfl⟩, ht _ kw1_158, trivial⟩ ⟨PB.blind, fun U hU hW => PB.mk hU hW hPc hK hDc⟩ rfl rfl hl.1 rfl (lv_room (Nat.le_of_ble_eq_true rfl)) dX3_set_58 ⟨by show _ ≤ 2; split <;> split <;> omega, by show _ ≤ 4100; split <;> split <;> omega⟩) hS (fun q _ h => hFc q h) hFc (fun u58 ra58 t58 H1 locs ht1 hvm w58 hB hz1 hk1 hS => ?_)
    try dsimp only at w58 hB
    obtain ⟨hP1, hD1⟩ := hB
    rw [ht1] at hP1
    obtain ⟨hP, hD⟩ := wk_join (w1 := [(ra58, .inl (cI, u58.1, .inl u58.2))]) hP hD [2] rfl (by decide) rfl hk1 hFc hP1 hD1
    generalize H1 = H at hP hS ⊢
    have hP : va_P D vwCl ([(h, .inr (3, [.ref ra41, .ref va, .int (nI li.length)])), (ra41, .inl (cI, u41.1, .inl u41.2)), (ra58, .inl (cI, u58.1, .inl u58.2))]) H := hP
    have hD : va_D A ([(h, .inr (3, [.ref ra41, .ref va, .int (nI li.length)])), (ra41, .inl (cI, u41.1, .inl u41.2)), (ra58, .inl (cI, u58.1, .inl u58.2))]) := hD
    refine va_put (D := D) (ci := 3) (v := .ref ra58) (ty := .array .int) (C := RX3) (T := TX3) (N := 3) hx hb ht inX3 tyX3 tyX3_ok nmX3 hown hK hP hD hS 0 rfl rfl 1 (by decide) (ht _ kw1_126) (fun _ h9 => h9) rfl (by decide +kernel) (rfl) rfl (Nat.le_of_ble_eq_true rfl) dX3_set_61 (fun H locs hP hD hS => ?_)
    have hP : va_P D vwCl ([(h, .inr (3, [.ref ra41, .ref ra58, .int (nI li.length)])), (ra41, .inl (cI, u41.1, .inl u41.2)), (ra58, .inl (cI, u58.1, .inl u58.2))]) H := hP
    have hD : va_D A ([(h, .inr (3, [.ref ra41, .ref ra58, .int (nI li.length)])), (ra41, .inl (cI, u41.1, .inl u41.2)), (ra58, .inl (cI, u58.1, .inl u58.2))]) := hD
    refine lv_aload_n hx hb dX3_set_64 rfl (lv_at hl 1 rfl) ?_
    refine lv_dup hx hb dX3_set_65 rfl ?_
    refine va_get (D := D) (ci := 3) (v := .int (nI li.length)) (C := RX3) (T := TX3) (N := 3) hx hb ht inX3 hown hK hP 0 rfl rfl 2 (by decide) (ht _ kw1_127) (fun _ h9 => h9) rfl dX3_set_66 ?_
    refine lv_iconst (v := 1) hx hb dX3_set_69 (by decide) ?_
    refine lv_iadd hx hb dX3_set_70 ?_
    refine va_put (D := D) (ci := 3) (v := .int ((nI li.length) + 1)) (ty := .int) (C := RX3) (T := TX3) (N := 3) hx hb ht inX3 tyX3 tyX3_ok nmX3 hown hK hP hD hS 0 rfl rfl 2 (by decide) (ht _ kw1_127) (fun _ h9 => h9) rfl (by decide +kernel) (rfl) rfl (Nat.le_of_ble_eq_true rfl) dX3_set_71 (fun H locs hP hD hS => ?_)
    have hP : va_P D vwCl ([(h, .inr (3, [.ref ra41, .ref ra58, .int ((nI li.length) + 1)])), (ra41, .inl (cI, u41.1, .inl u41.2)), (ra58, .inl (cI, u58.1, .inl u58.2))]) H := hP
    have hD : va_D A ([(h, .inr (3, [.ref ra41, .ref ra58, .int ((nI li.length) + 1)])), (ra41, .inl (cI, u41.1, .inl u41.2)), (ra58, .inl (cI, u58.1, .inl u58.2))]) := hD
    refine W.widen (k := 2) (n := 4100) (by first | omega | (split <;> split <;> omega)) (by first | omega | (split <;> split <;> omega)) ?_
    exact W.vret hx hb hr (fun t ht2 hW => ⟨⟨(ra41, ra58, u41.1, u58.1, u41.2, u58.2), rfl, by first | exact hr9.ins_h hyes | exact hr9.ins_n hno hl8 w41.1 w58.1 w41.2 w58.2, by
          (try dsimp only)
          rw [ht2, show nI (ins li key v).length = _ from congrArg nI (ins_len li key v)]
          first | (rw [if_pos hyes]; exact ⟨hP, hD⟩) | (rw [if_neg hno, ← nI_1]; exact ⟨hP, hD⟩)⟩, hS.F ht2⟩) hS.2.2 dX3_set_74
  · have hyes : hs li key = true := Decidable.byContradiction (fun q => c19 (by rw [w16, if_neg (fun z => q (hs_iff.mpr z))]))
    have hlt := (hs_iff.mp hyes).1
    refine lv_aload_n hx hb dX3_set_22 rfl (lv_at hl 1 rfl) ?_
    refine va_get (D := D) (ci := 3) (v := .ref va) (C := RX3) (T := TX3) (N := 3) hx hb ht inX3 hown hK hP 0 rfl rfl 1 (by decide) (ht _ kw1_126) (fun _ h9 => h9) rfl dX3_set_23 ?_
    refine lv_iload_n hx hb dX3_set_26 rfl (lv_at hl 0 rfl) ?_
    refine lv_iload_n hx hb dX3_set_27 rfl (lv_at hl 3 rfl) ?_
    refine ya_iast hx hb hK hP hD hS 2 0 rfl rfl (rk li key) (rfl) (by have := hr9.2.1.1; omega) (by have := hr9.2.1.2; omega) dX3_set_28 (fun H locs hP hD hS => ?_)
    have hP : va_P D vwCl ([(h, .inr (3, [.ref ka, .ref va, .int (nI li.length)])), (ka, .inl (cI, L1, .inl f)), (va, .inl (cI, L2, .inl (upd g (rk li key) v)))]) H := hP
    have hD : va_D A ([(h, .inr (3, [.ref ka, .ref va, .int (nI li.length)])), (ka, .inl (cI, L1, .inl f)), (va, .inl (cI, L2, .inl (upd g (rk li key) v)))]) := hD
    refine W.widen (k := 2) (n := 4100) (by first | omega | (split <;> split <;> omega)) (by first | omega | (split <;> split <;> omega)) ?_
    exact W.vret hx hb hr (fun t ht2 hW => ⟨⟨(ka, va, L1, L2, f, upd g (rk li key) v), rfl, by first | exact hr9.ins_h hyes | exact hr9.ins_n hno hl8 w41.1 w58.1 w41.2 w58.2, by
          (try dsimp only)
          rw [ht2, show nI (ins li key v).length = _ from congrArg nI (ins_len li key v)]
          first | (rw [if_pos hyes]; exact ⟨hP, hD⟩) | (rw [if_neg hno, ← nI_1]; exact ⟨hP, hD⟩)⟩, hS.F ht2⟩) hS.2.2 dX3_set_29

set_option maxHeartbeats 4000000 in
set_option maxRecDepth 100000 in
theorem c_X3_drop (l : Launch) (D : va_G) (cI cZ cS cJ : ClassId) (sz : Nat) (h ka va L1 L2 : Nat) (f g : Nat → Int32) (li : List (Int32 × Int32)) (hr9 : SRP li L1 L2 f g) (hso : Srt li) (hl9 : li.length ≤ 1000) (key : Int32) : Met l yX3_drop (Cond.code yX3_drop cX3_drop 3 none :: TB) ({ frames := 3, cells := 0, slots := 0, locals := 65 } : Room) (va_Pc [.ref h, .int key] (PB D (KT cI cZ cS cJ) ([(h, .inr (3, [.ref ka, .ref va, .int (nI li.length)])), (ka, .inl (cI, L1, .inl f)), (va, .inl (cI, L2, .inl g))]) sz)) (va_Qv (fun (u : (Nat → Int32) × (Nat → Int32)) => SRP (del li key) L1 L2 u.1 u.2) (fun (u : (Nat → Int32) × (Nat → Int32)) t => va_P D vwCl [(h, .inr (3, [.ref ka, .ref va, .int (nI (del li key).length)])), (ka, .inl (cI, L1, .inl u.1)), (va, .inl (cI, L2, .inl u.2))] t.heap ∧ va_D (va_A [(h, .inr (3, [.ref ka, .ref va, .int (nI li.length)])), (ka, .inl (cI, L1, .inl f)), (va, .inl (cI, L2, .inl g))] sz) [(h, .inr (3, [.ref ka, .ref va, .int (nI (del li key).length)])), (ka, .inl (cI, L1, .inl u.1)), (va, .inl (cI, L2, .inl u.2))]) (va_A ([(h, .inr (3, [.ref ka, .ref va, .int (nI li.length)])), (ka, .inl (cI, L1, .inl f)), (va, .inl (cI, L2, .inl g))]) sz)) 0 0 (va_A ([(h, .inr (3, [.ref ka, .ref va, .int (nI li.length)])), (ka, .inl (cI, L1, .inl f)), (va, .inl (cI, L2, .inl g))]) sz) := by
  refine Met.ofW (cc := cX3_drop) (maxL := 3) (ret := none) (by decide) rfl ?_
  intro p e s m args below meth c s₁ B hml hv
  obtain ⟨rfl, hsz, hP, hK, hD0⟩ := hv
  have hx := B.exec
  have hb := B.bytes
  have hr := B.returns
  have hts := atoms_spec (ws := (Cond.code yX3_drop cX3_drop 3 none :: TB)) B.pre
  have ht : ∀ w ∈ TB, w.before _ s = true := fun w h => hts w (List.mem_cons_of_mem _ h)
  have hown : s.vm.findClass RX3 = some m.cls := findClass_of_methodNamed B.named
  have hlocks := B.notSynchronized
  subst hsz
  have hD := hD0.self (sz := s.heap.size)
  generalize hAe : va_A ([(h, .inr (3, [.ref ka, .ref va, .int (nI li.length)])), (ka, .inl (cI, L1, .inl f)), (va, .inl (cI, L2, .inl g))]) s.heap.size = A at hD ⊢
  have hA : ∀ q : Nat, s.heap.size ≤ q → A q := fun q h => by rw [← hAe]; exact Or.inr h
  have hS : va_S A s.heap s.heap [] := va_S.rf
  have hP : va_P D vwCl ([(h, .inr (3, [.ref ka, .ref va, .int (nI li.length)])), (ka, .inl (cI, L1, .inl f)), (va, .inl (cI, L2, .inl g))]) s.heap := hP
  have hl := lv_entry ([.ref h, .int key]) (n := 3) (Nat.le_of_ble_eq_true rfl)
  rw [lg_entry_eq]
  generalize (lg_sl ([.ref h, .int key]) ++ List.replicate (3 - (lg_sl ([.ref h, .int key])).length) Slot.unset).toArray = ls at hl ⊢
  have hl : lv_has ls 3 [(0, .ref h), (1, .int key)] := hl
  refine lv_aload_n hx hb dX3_drop_0 rfl (lv_at hl 0 rfl) ?_
  refine va_get (D := D) (ci := 3) (v := .ref ka) (C := RX3) (T := TX3) (N := 3) hx hb ht inX3 hown hK hP 0 rfl rfl 0 (by decide) (ht _ kw1_124) (fun _ h9 => h9) rfl dX3_drop_1 ?_
  refine lv_aload_n hx hb dX3_drop_4 rfl (lv_at hl 0 rfl) ?_
  refine va_get (D := D) (ci := 3) (v := .int (nI li.length)) (C := RX3) (T := TX3) (N := 3) hx hb ht inX3 hown hK hP 0 rfl rfl 2 (by decide) (ht _ kw1_127) (fun _ h9 => h9) rfl dX3_drop_5 ?_
  refine lv_iload_n hx hb dX3_drop_8 rfl (lv_at hl 1 rfl) ?_
  have hPc := hP.sub (ws' := [(ka, .inl (cI, L1, .inl f))]) [1] rfl
  have hDc := hD.sub (ws' := [(ka, .inl (cI, L1, .inl f))]) [1] (by decide) rfl
  have hFc := va_free (wc := [(ka, .inl (cI, L1, .inl f))]) hD hS hA [1] rfl
  refine va_calli (va_runSN (As := [.ref ka, .int (nI li.length), .int key]) (rest := []) ⟨hx, hb, hml, hown, ht⟩ (c_X4_below l D cI cZ cS cJ s.heap.size ka L1 f li.length key (by have := hr9.1.2; omega) hr9.1.1 (by omega) (hr9.as hso)) ⟨xwN 3 ht kw1_148 kw2_69 kw1_1 rfl rfl (by decide +kernel) ⟨Nat.le_of_ble_eq_true rfl, Nat.le_of_ble_eq_true rfl⟩, ht _ kw1_147, trivial⟩ ⟨PB.blind, fun U hU hW => PB.mk hU hW hPc hK hDc⟩ rfl rfl hl.1 rfl (lv_room (Nat.le_of_ble_eq_true rfl)) dX3_drop_9 ⟨Nat.le_of_ble_eq_true rfl, Nat.le_of_ble_eq_true rfl⟩) hS (fun q _ h => hFc q h) hFc (fun r9 u9 t9 H1 locs ht1 hvm w9 hB hz1 hk1 hS => ?_)
  try dsimp only at w9 hB
  rw [ht1] at hB
  have hP := wk_ro hP hD [1] rfl hk1 hB
  generalize H1 = H at hP hS ⊢
  obtain ⟨k9, ek, hbw⟩ := w9
  have hke := rk_of_BW (fun j hj => (hr9.2.2 j hj).1) hbw
  subst hke
  have ek := ek.symm
  subst ek
  have hrk := rk_le li key
  refine lv_istore_n (lv' := [(2, .int (nI (rk li key))), (0, .ref h), (1, .int key)]) hx hb dX3_drop_12 rfl hl (by decide) rfl (fun ls hl => ?_)
  refine lv_aload_n hx hb dX3_drop_13 rfl (lv_at hl 1 rfl) ?_
  refine lv_iload_n hx hb dX3_drop_14 rfl (lv_at hl 0 rfl) ?_
  refine lv_iload_n hx hb dX3_drop_15 rfl (lv_at hl 2 rfl) ?_
  have hPc := hP.sub (ws' := [(h, .inr (3, [.ref ka, .ref va, .int (nI li.length)])), (ka, .inl (cI, L1, .inl f)), (va, .inl (cI, L2, .inl g))]) [0, 1, 2] rfl
  have hDc := hD.sub (ws' := [(h, .inr (3, [.ref ka, .ref va, .int (nI li.length)])), (ka, .inl (cI, L1, .inl f)), (va, .inl (cI, L2, .inl g))]) [0, 1, 2] (by decide) rfl
  have hFc := va_free (wc := [(h, .inr (3, [.ref ka, .ref va, .int (nI li.length)])), (ka, .inl (cI, L1, .inl f)), (va, .inl (cI, L2, .inl g))]) hD hS hA [0, 1, 2] rfl
  refine va_calli (va_runV (As := [.int (nI (rk li key)), .int key]) (rest := []) ⟨hx, hb, hml, hown, ht⟩ (c_X3_hasAt l D cI cZ cS cJ H.size h ka va L1 L2 f g li hr9 hso hl9 (rk li key) (by omega) key) (xwV 2 ht kw2_73 kw2_70 kw1_6 kw2_72 kwS_8 rfl rfl (by decide +kernel) ⟨Nat.le_of_ble_eq_true rfl, Nat.le_of_ble_eq_true rfl⟩) ⟨PB.blind, va_recv hK hPc (ci := 3) (q0 := 0) rfl rfl, fun U hU hW => PB.mk hU hW hPc hK hDc⟩ rfl rfl hl.1 rfl (lv_room (Nat.le_of_ble_eq_true rfl)) dX3_drop_16 ⟨Nat.le_of_ble_eq_true rfl, Nat.le_of_ble_eq_true rfl⟩) hS (fun q _ h => hFc q h) hFc (fun r16 u16 t16 H1 locs ht1 hvm w16 hB hz1 hk1 hS => ?_)
  try dsimp only at w16 hB
  rw [ht1] at hB
  have hP := wk_ro hP hD [0, 1, 2] rfl hk1 hB
  generalize H1 = H at hP hS ⊢
  refine lv_if_eq (tgt := 74) hx hb dX3_drop_19 (by decide) (fun c19 => ?_) (fun c19 => ?_)
  · have hno : ¬ hs li key = true := fun q => by rw [w16, if_pos (hs_iff.mp q)] at c19; exact absurd c19 (by decide)
    exact W.vret hx hb hr (fun t ht2 hW => ⟨⟨(f, g), rfl, by first | exact hr9.del_h hyes | exact hr9.del_n hno, by
          (try dsimp only)
          rw [ht2, show nI (del li key).length = _ from congrArg nI (del_len li key)]
          first | (rw [if_pos hyes, ← nI_m1 (by omega)]; exact ⟨hP, hD⟩) | (rw [if_neg hno]; exact ⟨hP, hD⟩)⟩, hS.F ht2⟩) hS.2.2 dX3_drop_74
  · have hyes : hs li key = true := Decidable.byContradiction (fun q => c19 (by rw [w16, if_neg (fun z => q (hs_iff.mpr z))]))
    have hlt := (hs_iff.mp hyes).1
    refine lv_aload_n hx hb dX3_drop_22 rfl (lv_at hl 1 rfl) ?_
    refine lv_dup hx hb dX3_drop_23 rfl ?_
    refine va_get (D := D) (ci := 3) (v := .int (nI li.length)) (C := RX3) (T := TX3) (N := 3) hx hb ht inX3 hown hK hP 0 rfl rfl 2 (by decide) (ht _ kw1_127) (fun _ h9 => h9) rfl dX3_drop_24 ?_
    refine lv_iconst (v := 1) hx hb dX3_drop_27 (by decide) ?_
    refine lv_isub hx hb dX3_drop_28 ?_
    refine va_put (D := D) (ci := 3) (v := .int ((nI li.length) - 1)) (ty := .int) (C := RX3) (T := TX3) (N := 3) hx hb ht inX3 tyX3 tyX3_ok nmX3 hown hK hP hD hS 0 rfl rfl 2 (by decide) (ht _ kw1_127) (fun _ h9 => h9) rfl (by decide +kernel) (rfl) rfl (Nat.le_of_ble_eq_true rfl) dX3_drop_29 (fun H locs hP hD hS => ?_)
    have hP : va_P D vwCl ([(h, .inr (3, [.ref ka, .ref va, .int ((nI li.length) - 1)])), (ka, .inl (cI, L1, .inl f)), (va, .inl (cI, L2, .inl g))]) H := hP
    have hD : va_D A ([(h, .inr (3, [.ref ka, .ref va, .int ((nI li.length) - 1)])), (ka, .inl (cI, L1, .inl f)), (va, .inl (cI, L2, .inl g))]) := hD
    refine lv_aload_n hx hb dX3_drop_32 rfl (lv_at hl 1 rfl) ?_
    refine va_get (D := D) (ci := 3) (v := .ref ka) (C := RX3) (T := TX3) (N := 3) hx hb ht inX3 hown hK hP 0 rfl rfl 0 (by decide) (ht _ kw1_124) (fun _ h9 => h9) rfl dX3_drop_33 ?_
    refine lv_iload_n hx hb dX3_drop_36 rfl (lv_at hl 0 rfl) ?_
    refine lv_iconst (v := 1) hx hb dX3_drop_37 (by decide) ?_
    refine lv_iadd hx hb dX3_drop_38 ?_
    refine lv_aload_n hx hb dX3_drop_39 rfl (lv_at hl 1 rfl) ?_
    refine va_get (D := D) (ci := 3) (v := .ref ka) (C := RX3) (T := TX3) (N := 3) hx hb ht inX3 hown hK hP 0 rfl rfl 0 (by decide) (ht _ kw1_124) (fun _ h9 => h9) rfl dX3_drop_40 ?_
    refine lv_iload_n hx hb dX3_drop_43 rfl (lv_at hl 0 rfl) ?_
    refine lv_aload_n hx hb dX3_drop_44 rfl (lv_at hl 1 rfl) ?_
    refine va_get (D := D) (ci := 3) (v := .int ((nI li.length) - 1)) (C := RX3) (T := TX3) (N := 3) hx hb ht inX3 hown hK hP 0 rfl rfl 2 (by decide) (ht _ kw1_127) (fun _ h9 => h9) rfl dX3_drop_45 ?_
    refine lv_iload_n hx hb dX3_drop_48 rfl (lv_at hl 0 rfl) ?_
    refine lv_isub hx hb dX3_drop_49 ?_
    refine ya_copyi hx hb (by rw [hml]; exact hl.1.symm) hown (ht _ kw2_95) (ht _ kw1_173) (ht _ kw1_172) (ht _ kw1_10) hK hP hD hS 1 1 0 0 rfl rfl rfl rfl (rk li key + 1) (rk li key) (li.length - 1 - rk li key) (nI_1 _) (rfl) (by rw [show nI li.length - 1 = nI (li.length - 1) from nI_m1 (by omega)]; exact pk_sub (by omega)) (by have := hr9.1.2; omega) (by have := hr9.1.2; omega) (by have := hr9.1.1; omega) (by have := hr9.1.1; omega) (Nat.le_of_ble_eq_true rfl) (Nat.le_of_ble_eq_true rfl) dX3_drop_50 (fun H locs hP hD hS => ?_)
    have hP : va_P D vwCl ([(h, .inr (3, [.ref ka, .ref va, .int ((nI li.length) - 1)])), (ka, .inl (cI, L1, .inl (va_cpy f f (rk li key + 1) (rk li key) (li.length - 1 - rk li key)))), (va, .inl (cI, L2, .inl g))]) H := hP
    have hD : va_D A ([(h, .inr (3, [.ref ka, .ref va, .int ((nI li.length) - 1)])), (ka, .inl (cI, L1, .inl (va_cpy f f (rk li key + 1) (rk li key) (li.length - 1 - rk li key)))), (va, .inl (cI, L2, .inl g))]) := hD
    refine lv_aload_n hx hb dX3_drop_53 rfl (lv_at hl 1 rfl) ?_
    refine va_get (D := D) (ci := 3) (v := .ref va) (C := RX3) (T := TX3) (N := 3) hx hb ht inX3 hown hK hP 0 rfl rfl 1 (by decide) (ht _ kw1_126) (fun _ h9 => h9) rfl dX3_drop_54 ?_
    refine lv_iload_n hx hb dX3_drop_57 rfl (lv_at hl 0 rfl) ?_
    refine lv_iconst (v := 1) hx hb dX3_drop_58 (by decide) ?_
    refine lv_iadd hx hb dX3_drop_59 ?_
    refine lv_aload_n hx hb dX3_drop_60 rfl (lv_at hl 1 rfl) ?_
    refine va_get (D := D) (ci := 3) (v := .ref va) (C := RX3) (T := TX3) (N := 3) hx hb ht inX3 hown hK hP 0 rfl rfl 1 (by decide) (ht _ kw1_126) (fun _ h9 => h9) rfl dX3_drop_61 ?_
    refine lv_iload_n hx hb dX3_drop_64 rfl (lv_at hl 0 rfl) ?_
    refine lv_aload_n hx hb dX3_drop_65 rfl (lv_at hl 1 rfl) ?_
    refine va_get (D := D) (ci := 3) (v := .int ((nI li.length) - 1)) (C := RX3) (T := TX3) (N := 3) hx hb ht inX3 hown hK hP 0 rfl rfl 2 (by decide) (ht _ kw1_127) (fun _ h9 => h9) rfl dX3_drop_66 ?_
    refine lv_iload_n hx hb dX3_drop_69 rfl (lv_at hl 0 rfl) ?_
    refine lv_isub hx hb dX3_drop_70 ?_
    refine ya_copyi hx hb (by rw [hml]; exact hl.1.symm) hown (ht _ kw2_95) (ht _ kw1_173) (ht _ kw1_172) (ht _ kw1_10) hK hP hD hS 2 2 0 0 rfl rfl rfl rfl (rk li key + 1) (rk li key) (li.length - 1 - rk li key) (nI_1 _) (rfl) (by rw [show nI li.length - 1 = nI (li.length - 1) from nI_m1 (by omega)]; exact pk_sub (by omega)) (by have := hr9.2.1.2; omega) (by have := hr9.2.1.2; omega) (by have := hr9.2.1.1; omega) (by have := hr9.2.1.1; omega) (Nat.le_of_ble_eq_true rfl) (Nat.le_of_ble_eq_true rfl) dX3_drop_71 (fun H locs hP hD hS => ?_)
    have hP : va_P D vwCl ([(h, .inr (3, [.ref ka, .ref va, .int ((nI li.length) - 1)])), (ka, .inl (cI, L1, .inl (va_cpy f f (rk li key + 1) (rk li key) (li.length - 1 - rk li key)))), (va, .inl (cI, L2, .inl (va_cpy g g (rk li key + 1) (rk li key) (li.length - 1 - rk li key))))]) H := hP
    have hD : va_D A ([(h, .inr (3, [.ref ka, .ref va, .int ((nI li.length) - 1)])), (ka, .inl (cI, L1, .inl (va_cpy f f (rk li key + 1) (rk li key) (li.length - 1 - rk li key)))), (va, .inl (cI, L2, .inl (va_cpy g g (rk li key + 1) (rk li key) (li.length - 1 - rk li key))))]) := hD
    exact W.vret hx hb hr (fun t ht2 hW => ⟨⟨(va_cpy f f (rk li key + 1) (rk li key) (li.length - 1 - rk li key), va_cpy g g (rk li key + 1) (rk li key) (li.length - 1 - rk li key)), rfl, by first | exact hr9.del_h hyes | exact hr9.del_n hno, by
          (try dsimp only)
          rw [ht2, show nI (del li key).length = _ from congrArg nI (del_len li key)]
          first | (rw [if_pos hyes, ← nI_m1 (by omega)]; exact ⟨hP, hD⟩) | (rw [if_neg hno]; exact ⟨hP, hD⟩)⟩, hS.F ht2⟩) hS.2.2 dX3_drop_74
