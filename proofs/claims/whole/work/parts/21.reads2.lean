-- the reference: key, points, count, written, off, place, fail, recover

set_option maxHeartbeats 4000000 in
set_option maxRecDepth 100000 in
theorem c_X5_key (l : Launch) (D : va_G) (cI cZ cS cJ : ClassId) (sz : Nat) (G : Nat → Nat) (code off left wr rc : Int32) (mem oth ks vs sx : Nat → Int32) (pl ps : Int32) (pk sr tg fl xs : Nat → Int32) (st : Nat → List (Int32 × Int32)) (hst : RS st ks vs sx) (node i : Int32) : Met l yX5_key (Cond.code yX5_key cX5_key 3 (some .int) :: TB) ({ frames := 0, cells := 0, slots := 0, locals := 0 } : Room) (va_Pc [.ref (G 0), .int node, .int i] (PB D (KT cI cZ cS cJ) (mW cI cZ G code off left wr rc mem oth ks vs sx pl ps pk sr tg fl xs) sz)) (va_Qi (fun r (_ : Unit) => r = (keyF st node i).2) (fun (u : Unit) t => va_P D vwCl (mW cI cZ G ((keyF st node i).1) off left wr rc mem oth ks vs sx pl ps pk sr tg fl xs) t.heap ∧ va_D (va_A (mW cI cZ G code off left wr rc mem oth ks vs sx pl ps pk sr tg fl xs) sz) (mW cI cZ G ((keyF st node i).1) off left wr rc mem oth ks vs sx pl ps pk sr tg fl xs)) (va_A (mW cI cZ G code off left wr rc mem oth ks vs sx pl ps pk sr tg fl xs) sz)) 0 0 (va_A (mW cI cZ G code off left wr rc mem oth ks vs sx pl ps pk sr tg fl xs) sz) := by
  refine Met.ofW (cc := cX5_key) (maxL := 3) (ret := (some .int)) (by decide) rfl ?_
  intro p e s m args below meth c s₁ B hml hv
  obtain ⟨rfl, hsz, hP, hK, hD0⟩ := hv
  have hx := B.exec
  have hb := B.bytes
  have hr := B.returns
  have hts := atoms_spec (ws := (Cond.code yX5_key cX5_key 3 (some .int) :: TB)) B.pre
  have ht : ∀ w ∈ TB, w.before _ s = true := fun w h => hts w (List.mem_cons_of_mem _ h)
  have hown : s.vm.findClass RX5 = some m.cls := findClass_of_methodNamed B.named
  have hlocks := B.notSynchronized
  subst hsz
  have hD := hD0.self (sz := s.heap.size)
  generalize hAe : va_A (mW cI cZ G code off left wr rc mem oth ks vs sx pl ps pk sr tg fl xs) s.heap.size = A at hD ⊢
  have hA : ∀ q : Nat, s.heap.size ≤ q → A q := fun q h => by rw [← hAe]; exact Or.inr h
  have hS : va_S A s.heap s.heap [] := va_S.rf
  have hP : va_P D vwCl (mW cI cZ G code off left wr rc mem oth ks vs sx pl ps pk sr tg fl xs) s.heap := hP
  have hl := lv_entry ([.ref (G 0), .int node, .int i]) (n := 3) (Nat.le_of_ble_eq_true rfl)
  rw [lg_entry_eq]
  generalize (lg_sl ([.ref (G 0), .int node, .int i]) ++ List.replicate (3 - (lg_sl ([.ref (G 0), .int node, .int i])).length) Slot.unset).toArray = ls at hl ⊢
  have hl : lv_has ls 3 [(0, .ref (G 0)), (1, .int node), (2, .int i)] := hl
  refine lv_aload_n hx hb dX5_key_0 rfl (lv_at hl 0 rfl) ?_
  refine lv_iload_n hx hb dX5_key_1 rfl (lv_at hl 1 rfl) ?_
  refine lv_if_lt (tgt := 25) hx hb dX5_key_2 (by decide) (fun c2 => ?_) (fun c2 => ?_)
  · have hb1 : node < 0 ∨ 8 ≤ node ∨ i < 0 ∨ nI (st node.toNatClampNeg).length ≤ i := Or.inl c2
    refine lv_iconst (v := 1) hx hb dX5_key_25 (by decide) ?_
    refine lv_goto (tgt := 30) hx hb dX5_key_26 (by decide) ?_
    refine va_put (D := D) (ci := 5) (v := .int 1) (ty := .int) (C := RX5) (T := TX5) (N := 17) hx hb ht inX5 tyX5 tyX5_ok nmX5 hown hK hP hD hS 0 rfl rfl 0 (by decide) (ht _ kw3_80) (fun _ h9 => h9) rfl (by decide +kernel) (rfl) rfl (Nat.le_of_ble_eq_true rfl) dX5_key_30 (fun H locs hP hD hS => ?_)
    have hP : va_P D vwCl (mW cI cZ G 1 off left wr rc mem oth ks vs sx pl ps pk sr tg fl xs) H := hP
    have hD : va_D A (mW cI cZ G 1 off left wr rc mem oth ks vs sx pl ps pk sr tg fl xs) := hD
    refine lv_aload_n hx hb dX5_key_33 rfl (lv_at hl 0 rfl) ?_
    refine va_get (D := D) (ci := 5) (v := .int 1) (C := RX5) (T := TX5) (N := 17) hx hb ht inX5 hown hK hP 0 rfl rfl 0 (by decide) (ht _ kw3_80) (fun _ h9 => h9) rfl dX5_key_34 ?_
    refine lv_if_le (tgt := 44) hx hb dX5_key_37 (by decide) (fun c37 => by first | exact absurd c37 (by decide) | exact absurd (by decide) c37) (fun c37 => ?_)
    refine lv_iconst (v := 0) hx hb dX5_key_40 (by decide) ?_
    refine lv_goto (tgt := 56) hx hb dX5_key_41 (by decide) ?_
    exact W.iret (v := 0) hx hb hr (fun t ht2 hW => ⟨⟨0, (), rfl, by
          (try dsimp only)
          (try dsimp only)
          unfold keyF
          rw [if_pos hb1]
          try (first | rfl | (rw [hnc, hkc]; exact hst.k hn hkl)), by
          (try dsimp only)
          have e9 : (keyF st node i).1 = 1 := by
            unfold keyF
            rw [if_pos hb1]
            try (rfl)
          rw [e9, ht2]
          exact ⟨hP, hD⟩⟩, hS.F ht2⟩) hS.2.2 dX5_key_56
  · refine lv_iload_n hx hb dX5_key_5 rfl (lv_at hl 1 rfl) ?_
    refine lv_bipush (v := 8) hx hb dX5_key_6 (by decide) ?_
    refine lv_icmp_ge (tgt := 25) hx hb dX5_key_8 (by decide) (fun c8 => ?_) (fun c8 => ?_)
    · have hb1 : node < 0 ∨ 8 ≤ node ∨ i < 0 ∨ nI (st node.toNatClampNeg).length ≤ i := Or.inr (Or.inl c8)
      refine lv_iconst (v := 1) hx hb dX5_key_25 (by decide) ?_
      refine lv_goto (tgt := 30) hx hb dX5_key_26 (by decide) ?_
      refine va_put (D := D) (ci := 5) (v := .int 1) (ty := .int) (C := RX5) (T := TX5) (N := 17) hx hb ht inX5 tyX5 tyX5_ok nmX5 hown hK hP hD hS 0 rfl rfl 0 (by decide) (ht _ kw3_80) (fun _ h9 => h9) rfl (by decide +kernel) (rfl) rfl (Nat.le_of_ble_eq_true rfl) dX5_key_30 (fun H locs hP hD hS => ?_)
      have hP : va_P D vwCl (mW cI cZ G 1 off left wr rc mem oth ks vs sx pl ps pk sr tg fl xs) H := hP
      have hD : va_D A (mW cI cZ G 1 off left wr rc mem oth ks vs sx pl ps pk sr tg fl xs) := hD
      refine lv_aload_n hx hb dX5_key_33 rfl (lv_at hl 0 rfl) ?_
      refine va_get (D := D) (ci := 5) (v := .int 1) (C := RX5) (T := TX5) (N := 17) hx hb ht inX5 hown hK hP 0 rfl rfl 0 (by decide) (ht _ kw3_80) (fun _ h9 => h9) rfl dX5_key_34 ?_
      refine lv_if_le (tgt := 44) hx hb dX5_key_37 (by decide) (fun c37 => by first | exact absurd c37 (by decide) | exact absurd (by decide) c37) (fun c37 => ?_)
      refine lv_iconst (v := 0) hx hb dX5_key_40 (by decide) ?_
      refine lv_goto (tgt := 56) hx hb dX5_key_41 (by decide) ?_
      exact W.iret (v := 0) hx hb hr (fun t ht2 hW => ⟨⟨0, (), rfl, by
            (try dsimp only)
            (try dsimp only)
            unfold keyF
            rw [if_pos hb1]
            try (first | rfl | (rw [hnc, hkc]; exact hst.k hn hkl)), by
            (try dsimp only)
            have e9 : (keyF st node i).1 = 1 := by
              unfold keyF
              rw [if_pos hb1]
              try (rfl)
            rw [e9, ht2]
            exact ⟨hP, hD⟩⟩, hS.F ht2⟩) hS.2.2 dX5_key_56
    · have hnb : ¬ (node < 0 ∨ 8 ≤ node) := fun q => q.elim c2 c8
      obtain ⟨n, hn, hne, hnc⟩ := nb_in hnb
      subst hne
      refine lv_iload_n hx hb dX5_key_11 rfl (lv_at hl 2 rfl) ?_
      refine lv_if_lt (tgt := 25) hx hb dX5_key_12 (by decide) (fun c12 => ?_) (fun c12 => ?_)
      · have hb1 : nI n < 0 ∨ 8 ≤ nI n ∨ i < 0 ∨ nI (st (nI n).toNatClampNeg).length ≤ i := Or.inr (Or.inr (Or.inl c12))
        refine lv_iconst (v := 1) hx hb dX5_key_25 (by decide) ?_
        refine lv_goto (tgt := 30) hx hb dX5_key_26 (by decide) ?_
        refine va_put (D := D) (ci := 5) (v := .int 1) (ty := .int) (C := RX5) (T := TX5) (N := 17) hx hb ht inX5 tyX5 tyX5_ok nmX5 hown hK hP hD hS 0 rfl rfl 0 (by decide) (ht _ kw3_80) (fun _ h9 => h9) rfl (by decide +kernel) (rfl) rfl (Nat.le_of_ble_eq_true rfl) dX5_key_30 (fun H locs hP hD hS => ?_)
        have hP : va_P D vwCl (mW cI cZ G 1 off left wr rc mem oth ks vs sx pl ps pk sr tg fl xs) H := hP
        have hD : va_D A (mW cI cZ G 1 off left wr rc mem oth ks vs sx pl ps pk sr tg fl xs) := hD
        refine lv_aload_n hx hb dX5_key_33 rfl (lv_at hl 0 rfl) ?_
        refine va_get (D := D) (ci := 5) (v := .int 1) (C := RX5) (T := TX5) (N := 17) hx hb ht inX5 hown hK hP 0 rfl rfl 0 (by decide) (ht _ kw3_80) (fun _ h9 => h9) rfl dX5_key_34 ?_
        refine lv_if_le (tgt := 44) hx hb dX5_key_37 (by decide) (fun c37 => by first | exact absurd c37 (by decide) | exact absurd (by decide) c37) (fun c37 => ?_)
        refine lv_iconst (v := 0) hx hb dX5_key_40 (by decide) ?_
        refine lv_goto (tgt := 56) hx hb dX5_key_41 (by decide) ?_
        exact W.iret (v := 0) hx hb hr (fun t ht2 hW => ⟨⟨0, (), rfl, by
              (try dsimp only)
              (try dsimp only)
              unfold keyF
              rw [if_pos hb1]
              try (first | rfl | (rw [hnc, hkc]; exact hst.k hn hkl)), by
              (try dsimp only)
              have e9 : (keyF st (nI n) i).1 = 1 := by
                unfold keyF
                rw [if_pos hb1]
                try (rfl)
              rw [e9, ht2]
              exact ⟨hP, hD⟩⟩, hS.F ht2⟩) hS.2.2 dX5_key_56
      · have hsz := hst.at hn
        have hle := hst.le hn
        refine lv_iload_n hx hb dX5_key_15 rfl (lv_at hl 2 rfl) ?_
        refine lv_aload_n hx hb dX5_key_16 rfl (lv_at hl 0 rfl) ?_
        refine va_get (D := D) (ci := 5) (v := .ref (G 5)) (C := RX5) (T := TX5) (N := 17) hx hb ht inX5 hown hK hP 0 rfl rfl 9 (by decide) (ht _ kw3_89) (fun _ h9 => h9) rfl dX5_key_17 ?_
        refine lv_iload_n hx hb dX5_key_20 rfl (lv_at hl 1 rfl) ?_
        refine ya_iald hx hb hK hP 5 0 rfl rfl n (rfl) (hn) (by decide) dX5_key_21 ?_
        refine lv_icmp_lt (tgt := 29) hx hb dX5_key_22 (by decide) (fun c22 => ?_) (fun c22 => ?_)
        · have hb1 : ¬ (nI n < 0 ∨ 8 ≤ nI n ∨ i < 0 ∨ nI (st (nI n).toNatClampNeg).length ≤ i) := by
            intro q
            rcases q with q | q | q | q
            · exact c2 q
            · exact c8 q
            · exact c12 q
            · rw [hnc, ← hsz] at q; exact absurd c22 (Int32.not_lt.mpr q)
          obtain ⟨k, hk, hke⟩ := nI_of c12
          have hkl : k < (st n).length := by
            rcases Nat.lt_or_ge k (st n).length with q | q
            · exact q
            · rw [hke, hsz] at c22; exact absurd c22 (nI_nlt q hk)
          have hkc : i.toNatClampNeg = k := by rw [hke, nI_clamp hk]
          refine lv_iconst (v := 0) hx hb dX5_key_29 (by decide) ?_
          refine va_put (D := D) (ci := 5) (v := .int 0) (ty := .int) (C := RX5) (T := TX5) (N := 17) hx hb ht inX5 tyX5 tyX5_ok nmX5 hown hK hP hD hS 0 rfl rfl 0 (by decide) (ht _ kw3_80) (fun _ h9 => h9) rfl (by decide +kernel) (rfl) rfl (Nat.le_of_ble_eq_true rfl) dX5_key_30 (fun H locs hP hD hS => ?_)
          have hP : va_P D vwCl (mW cI cZ G 0 off left wr rc mem oth ks vs sx pl ps pk sr tg fl xs) H := hP
          have hD : va_D A (mW cI cZ G 0 off left wr rc mem oth ks vs sx pl ps pk sr tg fl xs) := hD
          refine lv_aload_n hx hb dX5_key_33 rfl (lv_at hl 0 rfl) ?_
          refine va_get (D := D) (ci := 5) (v := .int 0) (C := RX5) (T := TX5) (N := 17) hx hb ht inX5 hown hK hP 0 rfl rfl 0 (by decide) (ht _ kw3_80) (fun _ h9 => h9) rfl dX5_key_34 ?_
          refine lv_if_le (tgt := 44) hx hb dX5_key_37 (by decide) (fun c37 => ?_) (fun c37 => by first | exact absurd c37 (by decide) | exact absurd (by decide) c37)
          refine lv_aload_n hx hb dX5_key_44 rfl (lv_at hl 0 rfl) ?_
          refine va_get (D := D) (ci := 5) (v := .ref (G 3)) (C := RX5) (T := TX5) (N := 17) hx hb ht inX5 hown hK hP 0 rfl rfl 7 (by decide) (ht _ kw3_87) (fun _ h9 => h9) rfl dX5_key_45 ?_
          refine lv_sipush (v := 1024) hx hb dX5_key_48 (by decide) ?_
          refine lv_iload_n hx hb dX5_key_51 rfl (lv_at hl 1 rfl) ?_
          refine lv_imul hx hb dX5_key_52 ?_
          refine lv_iload_n hx hb dX5_key_53 rfl (lv_at hl 2 rfl) ?_
          refine lv_iadd hx hb dX5_key_54 ?_
          refine ya_iald hx hb hK hP 3 0 rfl rfl (1024 * n + k) (by rw [hke]; exact ixA _ _) (by omega) (by decide) dX5_key_55 ?_
          exact W.iret (v := ks (1024 * n + k)) hx hb hr (fun t ht2 hW => ⟨⟨ks (1024 * n + k), (), rfl, by
                (try dsimp only)
                (try dsimp only)
                unfold keyF
                rw [if_neg hb1]
                try (first | rfl | (rw [hnc, hkc]; exact hst.k hn hkl)), by
                (try dsimp only)
                have e9 : (keyF st (nI n) i).1 = 0 := by
                  unfold keyF
                  rw [if_neg hb1]
                  try (rfl)
                rw [e9, ht2]
                exact ⟨hP, hD⟩⟩, hS.F ht2⟩) hS.2.2 dX5_key_56
        · have hb1 : nI n < 0 ∨ 8 ≤ nI n ∨ i < 0 ∨ nI (st (nI n).toNatClampNeg).length ≤ i := Or.inr (Or.inr (Or.inr (by rw [hnc, ← hsz]; exact Int32.not_lt.mp c22)))
          refine lv_iconst (v := 1) hx hb dX5_key_25 (by decide) ?_
          refine lv_goto (tgt := 30) hx hb dX5_key_26 (by decide) ?_
          refine va_put (D := D) (ci := 5) (v := .int 1) (ty := .int) (C := RX5) (T := TX5) (N := 17) hx hb ht inX5 tyX5 tyX5_ok nmX5 hown hK hP hD hS 0 rfl rfl 0 (by decide) (ht _ kw3_80) (fun _ h9 => h9) rfl (by decide +kernel) (rfl) rfl (Nat.le_of_ble_eq_true rfl) dX5_key_30 (fun H locs hP hD hS => ?_)
          have hP : va_P D vwCl (mW cI cZ G 1 off left wr rc mem oth ks vs sx pl ps pk sr tg fl xs) H := hP
          have hD : va_D A (mW cI cZ G 1 off left wr rc mem oth ks vs sx pl ps pk sr tg fl xs) := hD
          refine lv_aload_n hx hb dX5_key_33 rfl (lv_at hl 0 rfl) ?_
          refine va_get (D := D) (ci := 5) (v := .int 1) (C := RX5) (T := TX5) (N := 17) hx hb ht inX5 hown hK hP 0 rfl rfl 0 (by decide) (ht _ kw3_80) (fun _ h9 => h9) rfl dX5_key_34 ?_
          refine lv_if_le (tgt := 44) hx hb dX5_key_37 (by decide) (fun c37 => by first | exact absurd c37 (by decide) | exact absurd (by decide) c37) (fun c37 => ?_)
          refine lv_iconst (v := 0) hx hb dX5_key_40 (by decide) ?_
          refine lv_goto (tgt := 56) hx hb dX5_key_41 (by decide) ?_
          exact W.iret (v := 0) hx hb hr (fun t ht2 hW => ⟨⟨0, (), rfl, by
                (try dsimp only)
                (try dsimp only)
                unfold keyF
                rw [if_pos hb1]
                try (first | rfl | (rw [hnc, hkc]; exact hst.k hn hkl)), by
                (try dsimp only)
                have e9 : (keyF st (nI n) i).1 = 1 := by
                  unfold keyF
                  rw [if_pos hb1]
                  try (rfl)
                rw [e9, ht2]
                exact ⟨hP, hD⟩⟩, hS.F ht2⟩) hS.2.2 dX5_key_56

set_option maxHeartbeats 4000000 in
set_option maxRecDepth 100000 in
theorem c_X5_points (l : Launch) (D : va_G) (cI cZ cS cJ : ClassId) (sz : Nat) (G : Nat → Nat) (code off left wr rc : Int32) (mem oth ks vs sx : Nat → Int32) (pl ps : Int32) (pk sr tg fl xs : Nat → Int32) (mm : Nat → Nat) (hmm : ∀ n, n < 8 → mem n = nI (mm n)) (hM : MM mm) (node : Int32) : Met l yX5_points (Cond.code yX5_points cX5_points 2 (some .int) :: TB) ({ frames := 0, cells := 0, slots := 0, locals := 0 } : Room) (va_Pc [.ref (G 0), .int node] (PB D (KT cI cZ cS cJ) (mW cI cZ G code off left wr rc mem oth ks vs sx pl ps pk sr tg fl xs) sz)) (va_Qi (fun r (_ : Unit) => r = (ptsF off mm node).2) (fun (u : Unit) t => va_P D vwCl (mW cI cZ G ((ptsF off mm node).1) off left wr rc mem oth ks vs sx pl ps pk sr tg fl xs) t.heap ∧ va_D (va_A (mW cI cZ G code off left wr rc mem oth ks vs sx pl ps pk sr tg fl xs) sz) (mW cI cZ G ((ptsF off mm node).1) off left wr rc mem oth ks vs sx pl ps pk sr tg fl xs)) (va_A (mW cI cZ G code off left wr rc mem oth ks vs sx pl ps pk sr tg fl xs) sz)) 0 0 (va_A (mW cI cZ G code off left wr rc mem oth ks vs sx pl ps pk sr tg fl xs) sz) := by
  refine Met.ofW (cc := cX5_points) (maxL := 2) (ret := (some .int)) (by decide) rfl ?_
  intro p e s m args below meth c s₁ B hml hv
  obtain ⟨rfl, hsz, hP, hK, hD0⟩ := hv
  have hx := B.exec
  have hb := B.bytes
  have hr := B.returns
  have hts := atoms_spec (ws := (Cond.code yX5_points cX5_points 2 (some .int) :: TB)) B.pre
  have ht : ∀ w ∈ TB, w.before _ s = true := fun w h => hts w (List.mem_cons_of_mem _ h)
  have hown : s.vm.findClass RX5 = some m.cls := findClass_of_methodNamed B.named
  have hlocks := B.notSynchronized
  subst hsz
  have hD := hD0.self (sz := s.heap.size)
  generalize hAe : va_A (mW cI cZ G code off left wr rc mem oth ks vs sx pl ps pk sr tg fl xs) s.heap.size = A at hD ⊢
  have hA : ∀ q : Nat, s.heap.size ≤ q → A q := fun q h => by rw [← hAe]; exact Or.inr h
  have hS : va_S A s.heap s.heap [] := va_S.rf
  have hP : va_P D vwCl (mW cI cZ G code off left wr rc mem oth ks vs sx pl ps pk sr tg fl xs) s.heap := hP
  have hl := lv_entry ([.ref (G 0), .int node]) (n := 2) (Nat.le_of_ble_eq_true rfl)
  rw [lg_entry_eq]
  generalize (lg_sl ([.ref (G 0), .int node]) ++ List.replicate (2 - (lg_sl ([.ref (G 0), .int node])).length) Slot.unset).toArray = ls at hl ⊢
  have hl : lv_has ls 2 [(0, .ref (G 0)), (1, .int node)] := hl
  refine lv_aload_n hx hb dX5_points_0 rfl (lv_at hl 0 rfl) ?_
  refine lv_iload_n hx hb dX5_points_1 rfl (lv_at hl 1 rfl) ?_
  refine lv_if_lt (tgt := 11) hx hb dX5_points_2 (by decide) (fun c2 => ?_) (fun c2 => ?_)
  · have hnb : node < 0 ∨ 8 ≤ node := Or.inl c2
    refine lv_iconst (v := 1) hx hb dX5_points_11 (by decide) ?_
    refine lv_goto (tgt := 27) hx hb dX5_points_12 (by decide) ?_
    refine va_put (D := D) (ci := 5) (v := .int 1) (ty := .int) (C := RX5) (T := TX5) (N := 17) hx hb ht inX5 tyX5 tyX5_ok nmX5 hown hK hP hD hS 0 rfl rfl 0 (by decide) (ht _ kw3_80) (fun _ h9 => h9) rfl (by decide +kernel) (rfl) rfl (Nat.le_of_ble_eq_true rfl) dX5_points_27 (fun H locs hP hD hS => ?_)
    have hP : va_P D vwCl (mW cI cZ G 1 off left wr rc mem oth ks vs sx pl ps pk sr tg fl xs) H := hP
    have hD : va_D A (mW cI cZ G 1 off left wr rc mem oth ks vs sx pl ps pk sr tg fl xs) := hD
    refine lv_aload_n hx hb dX5_points_30 rfl (lv_at hl 0 rfl) ?_
    refine va_get (D := D) (ci := 5) (v := .int 1) (C := RX5) (T := TX5) (N := 17) hx hb ht inX5 hown hK hP 0 rfl rfl 0 (by decide) (ht _ kw3_80) (fun _ h9 => h9) rfl dX5_points_31 ?_
    refine lv_if_le (tgt := 41) hx hb dX5_points_34 (by decide) (fun c34 => by first | exact absurd c34 (by decide) | exact absurd (by decide) c34) (fun c34 => ?_)
    refine lv_iconst (v := 0) hx hb dX5_points_37 (by decide) ?_
    refine lv_goto (tgt := 47) hx hb dX5_points_38 (by decide) ?_
    exact W.iret (v := 0) hx hb hr (fun t ht2 hW => ⟨⟨0, (), rfl, by
          (try dsimp only)
          (try dsimp only)
          unfold ptsF
          rw [if_pos hnb]
          try (first | rfl | (rw [hnc]; exact hmm n hn)), by
          (try dsimp only)
          have e9 : (ptsF off mm node).1 = 1 := by
            unfold ptsF
            rw [if_pos hnb]
            try (rfl)
          rw [e9, ht2]
          exact ⟨hP, hD⟩⟩, hS.F ht2⟩) hS.2.2 dX5_points_47
  · refine lv_iload_n hx hb dX5_points_5 rfl (lv_at hl 1 rfl) ?_
    refine lv_bipush (v := 8) hx hb dX5_points_6 (by decide) ?_
    refine lv_icmp_lt (tgt := 15) hx hb dX5_points_8 (by decide) (fun c8 => ?_) (fun c8 => ?_)
    · have hnb : ¬ (node < 0 ∨ 8 ≤ node) := fun q => q.elim c2 (fun z => absurd c8 (Int32.not_lt.mpr z))
      obtain ⟨n, hn, hne, hnc⟩ := nb_in hnb
      subst hne
      refine lv_aload_n hx hb dX5_points_15 rfl (lv_at hl 0 rfl) ?_
      refine va_get (D := D) (ci := 5) (v := .int off) (C := RX5) (T := TX5) (N := 17) hx hb ht inX5 hown hK hP 0 rfl rfl 1 (by decide) (ht _ kw3_81) (fun _ h9 => h9) rfl dX5_points_16 ?_
      refine lv_if_eq (tgt := 26) hx hb dX5_points_19 (by decide) (fun c19 => ?_) (fun c19 => ?_)
      · have ho : ¬ ¬ off = 0 := fun q => q c19
        refine lv_iconst (v := 0) hx hb dX5_points_26 (by decide) ?_
        refine va_put (D := D) (ci := 5) (v := .int 0) (ty := .int) (C := RX5) (T := TX5) (N := 17) hx hb ht inX5 tyX5 tyX5_ok nmX5 hown hK hP hD hS 0 rfl rfl 0 (by decide) (ht _ kw3_80) (fun _ h9 => h9) rfl (by decide +kernel) (rfl) rfl (Nat.le_of_ble_eq_true rfl) dX5_points_27 (fun H locs hP hD hS => ?_)
        have hP : va_P D vwCl (mW cI cZ G 0 off left wr rc mem oth ks vs sx pl ps pk sr tg fl xs) H := hP
        have hD : va_D A (mW cI cZ G 0 off left wr rc mem oth ks vs sx pl ps pk sr tg fl xs) := hD
        refine lv_aload_n hx hb dX5_points_30 rfl (lv_at hl 0 rfl) ?_
        refine va_get (D := D) (ci := 5) (v := .int 0) (C := RX5) (T := TX5) (N := 17) hx hb ht inX5 hown hK hP 0 rfl rfl 0 (by decide) (ht _ kw3_80) (fun _ h9 => h9) rfl dX5_points_31 ?_
        refine lv_if_le (tgt := 41) hx hb dX5_points_34 (by decide) (fun c34 => ?_) (fun c34 => by first | exact absurd c34 (by decide) | exact absurd (by decide) c34)
        refine lv_aload_n hx hb dX5_points_41 rfl (lv_at hl 0 rfl) ?_
        refine va_get (D := D) (ci := 5) (v := .ref (G 1)) (C := RX5) (T := TX5) (N := 17) hx hb ht inX5 hown hK hP 0 rfl rfl 5 (by decide) (ht _ kw3_85) (fun _ h9 => h9) rfl dX5_points_42 ?_
        refine lv_iload_n hx hb dX5_points_45 rfl (lv_at hl 1 rfl) ?_
        refine ya_iald hx hb hK hP 1 0 rfl rfl n (rfl) (hn) (by decide) dX5_points_46 ?_
        exact W.iret (v := mem n) hx hb hr (fun t ht2 hW => ⟨⟨mem n, (), rfl, by
              (try dsimp only)
              (try dsimp only)
              unfold ptsF
              rw [if_neg hnb, if_neg ho]
              try (first | rfl | (rw [hnc]; exact hmm n hn)), by
              (try dsimp only)
              have e9 : (ptsF off mm (nI n)).1 = 0 := by
                unfold ptsF
                rw [if_neg hnb, if_neg ho]
                try (rfl)
              rw [e9, ht2]
              exact ⟨hP, hD⟩⟩, hS.F ht2⟩) hS.2.2 dX5_points_47
      · have ho : ¬ off = 0 := c19
        refine lv_iconst (v := 2) hx hb dX5_points_22 (by decide) ?_
        refine lv_goto (tgt := 27) hx hb dX5_points_23 (by decide) ?_
        refine va_put (D := D) (ci := 5) (v := .int 2) (ty := .int) (C := RX5) (T := TX5) (N := 17) hx hb ht inX5 tyX5 tyX5_ok nmX5 hown hK hP hD hS 0 rfl rfl 0 (by decide) (ht _ kw3_80) (fun _ h9 => h9) rfl (by decide +kernel) (rfl) rfl (Nat.le_of_ble_eq_true rfl) dX5_points_27 (fun H locs hP hD hS => ?_)
        have hP : va_P D vwCl (mW cI cZ G 2 off left wr rc mem oth ks vs sx pl ps pk sr tg fl xs) H := hP
        have hD : va_D A (mW cI cZ G 2 off left wr rc mem oth ks vs sx pl ps pk sr tg fl xs) := hD
        refine lv_aload_n hx hb dX5_points_30 rfl (lv_at hl 0 rfl) ?_
        refine va_get (D := D) (ci := 5) (v := .int 2) (C := RX5) (T := TX5) (N := 17) hx hb ht inX5 hown hK hP 0 rfl rfl 0 (by decide) (ht _ kw3_80) (fun _ h9 => h9) rfl dX5_points_31 ?_
        refine lv_if_le (tgt := 41) hx hb dX5_points_34 (by decide) (fun c34 => by first | exact absurd c34 (by decide) | exact absurd (by decide) c34) (fun c34 => ?_)
        refine lv_iconst (v := 0) hx hb dX5_points_37 (by decide) ?_
        refine lv_goto (tgt := 47) hx hb dX5_points_38 (by decide) ?_
        exact W.iret (v := 0) hx hb hr (fun t ht2 hW => ⟨⟨0, (), rfl, by
              (try dsimp only)
              (try dsimp only)
              unfold ptsF
              rw [if_neg hnb, if_pos ho]
              try (first | rfl | (rw [hnc]; exact hmm n hn)), by
              (try dsimp only)
              have e9 : (ptsF off mm (nI n)).1 = 2 := by
                unfold ptsF
                rw [if_neg hnb, if_pos ho]
                try (rfl)
              rw [e9, ht2]
              exact ⟨hP, hD⟩⟩, hS.F ht2⟩) hS.2.2 dX5_points_47
    · have hnb : node < 0 ∨ 8 ≤ node := Or.inr (Int32.not_lt.mp c8)
      refine lv_iconst (v := 1) hx hb dX5_points_11 (by decide) ?_
      refine lv_goto (tgt := 27) hx hb dX5_points_12 (by decide) ?_
      refine va_put (D := D) (ci := 5) (v := .int 1) (ty := .int) (C := RX5) (T := TX5) (N := 17) hx hb ht inX5 tyX5 tyX5_ok nmX5 hown hK hP hD hS 0 rfl rfl 0 (by decide) (ht _ kw3_80) (fun _ h9 => h9) rfl (by decide +kernel) (rfl) rfl (Nat.le_of_ble_eq_true rfl) dX5_points_27 (fun H locs hP hD hS => ?_)
      have hP : va_P D vwCl (mW cI cZ G 1 off left wr rc mem oth ks vs sx pl ps pk sr tg fl xs) H := hP
      have hD : va_D A (mW cI cZ G 1 off left wr rc mem oth ks vs sx pl ps pk sr tg fl xs) := hD
      refine lv_aload_n hx hb dX5_points_30 rfl (lv_at hl 0 rfl) ?_
      refine va_get (D := D) (ci := 5) (v := .int 1) (C := RX5) (T := TX5) (N := 17) hx hb ht inX5 hown hK hP 0 rfl rfl 0 (by decide) (ht _ kw3_80) (fun _ h9 => h9) rfl dX5_points_31 ?_
      refine lv_if_le (tgt := 41) hx hb dX5_points_34 (by decide) (fun c34 => by first | exact absurd c34 (by decide) | exact absurd (by decide) c34) (fun c34 => ?_)
      refine lv_iconst (v := 0) hx hb dX5_points_37 (by decide) ?_
      refine lv_goto (tgt := 47) hx hb dX5_points_38 (by decide) ?_
      exact W.iret (v := 0) hx hb hr (fun t ht2 hW => ⟨⟨0, (), rfl, by
            (try dsimp only)
            (try dsimp only)
            unfold ptsF
            rw [if_pos hnb]
            try (first | rfl | (rw [hnc]; exact hmm n hn)), by
            (try dsimp only)
            have e9 : (ptsF off mm node).1 = 1 := by
              unfold ptsF
              rw [if_pos hnb]
              try (rfl)
            rw [e9, ht2]
            exact ⟨hP, hD⟩⟩, hS.F ht2⟩) hS.2.2 dX5_points_47

set_option maxHeartbeats 4000000 in
set_option maxRecDepth 100000 in
theorem c_X5_count (l : Launch) (D : va_G) (cI cZ cS cJ : ClassId) (sz : Nat) (G : Nat → Nat) (code off left wr rc : Int32) (mem oth ks vs sx : Nat → Int32) (pl ps : Int32) (pk sr tg fl xs : Nat → Int32) (st : Nat → List (Int32 × Int32)) (hst : RS st ks vs sx) (mm : Nat → Nat) (hmm : ∀ n, n < 8 → mem n = nI (mm n)) (hM : MM mm) (rows : List (Int32 × Nat × Nat)) (F Gn : Nat) (C : Bool) (hrp : RP rows F Gn C ps pk sr tg fl xs) (hsr : Srt (pkl rows)) (hpl : pl = 1 ∨ (pl = 0 ∧ rows = [])) (hp8 : P8 rows) (hoff : off = 0 ∨ off = 1) (hG : Gn ≤ F) (hF : F ≤ rows.length) (what : Int32) : Met l yX5_count (Cond.code yX5_count cX5_count 2 (some .int) :: TB) ({ frames := 5, cells := 0, slots := 0, locals := 118 } : Room) (va_Pc [.ref (G 0), .int what] (PB D (KT cI cZ cS cJ) (mW cI cZ G code off left wr rc mem oth ks vs sx pl ps pk sr tg fl xs) sz)) (va_Qi (fun r (_ : Unit) => r = (cntF off st mm pl rows F Gn what).2) (fun (u : Unit) t => va_P D vwCl (mW cI cZ G ((cntF off st mm pl rows F Gn what).1) off left wr rc mem oth ks vs sx pl ps pk sr tg fl xs) t.heap ∧ va_D (va_A (mW cI cZ G code off left wr rc mem oth ks vs sx pl ps pk sr tg fl xs) sz) (mW cI cZ G ((cntF off st mm pl rows F Gn what).1) off left wr rc mem oth ks vs sx pl ps pk sr tg fl xs)) (va_A (mW cI cZ G code off left wr rc mem oth ks vs sx pl ps pk sr tg fl xs) sz)) 0 0 (va_A (mW cI cZ G code off left wr rc mem oth ks vs sx pl ps pk sr tg fl xs) sz) := by
  refine Met.ofW (cc := cX5_count) (maxL := 2) (ret := (some .int)) (by decide) rfl ?_
  intro p e s m args below meth c s₁ B hml hv
  obtain ⟨rfl, hsz, hP, hK, hD0⟩ := hv
  have hx := B.exec
  have hb := B.bytes
  have hr := B.returns
  have hts := atoms_spec (ws := (Cond.code yX5_count cX5_count 2 (some .int) :: TB)) B.pre
  have ht : ∀ w ∈ TB, w.before _ s = true := fun w h => hts w (List.mem_cons_of_mem _ h)
  have hown : s.vm.findClass RX5 = some m.cls := findClass_of_methodNamed B.named
  have hlocks := B.notSynchronized
  subst hsz
  have hD := hD0.self (sz := s.heap.size)
  generalize hAe : va_A (mW cI cZ G code off left wr rc mem oth ks vs sx pl ps pk sr tg fl xs) s.heap.size = A at hD ⊢
  have hA : ∀ q : Nat, s.heap.size ≤ q → A q := fun q h => by rw [← hAe]; exact Or.inr h
  have hS : va_S A s.heap s.heap [] := va_S.rf
  have hP : va_P D vwCl (mW cI cZ G code off left wr rc mem oth ks vs sx pl ps pk sr tg fl xs) s.heap := hP
  have hl := lv_entry ([.ref (G 0), .int what]) (n := 2) (Nat.le_of_ble_eq_true rfl)
  rw [lg_entry_eq]
  generalize (lg_sl ([.ref (G 0), .int what]) ++ List.replicate (2 - (lg_sl ([.ref (G 0), .int what])).length) Slot.unset).toArray = ls at hl ⊢
  have hl : lv_has ls 2 [(0, .ref (G 0)), (1, .int what)] := hl
  refine lv_aload_n hx hb dX5_count_0 rfl (lv_at hl 0 rfl) ?_
  refine lv_iload_n hx hb dX5_count_1 rfl (lv_at hl 1 rfl) ?_
  refine lv_if_lt (tgt := 10) hx hb dX5_count_2 (by decide) (fun c2 => ?_) (fun c2 => ?_)
  · have hwb : what < 0 ∨ 2 < what := Or.inl c2
    refine lv_iconst (v := 1) hx hb dX5_count_10 (by decide) ?_
    refine lv_goto (tgt := 26) hx hb dX5_count_11 (by decide) ?_
    refine va_put (D := D) (ci := 5) (v := .int 1) (ty := .int) (C := RX5) (T := TX5) (N := 17) hx hb ht inX5 tyX5 tyX5_ok nmX5 hown hK hP hD hS 0 rfl rfl 0 (by decide) (ht _ kw3_80) (fun _ h9 => h9) rfl (by decide +kernel) (rfl) rfl (Nat.le_of_ble_eq_true rfl) dX5_count_26 (fun H locs hP hD hS => ?_)
    have hP : va_P D vwCl (mW cI cZ G 1 off left wr rc mem oth ks vs sx pl ps pk sr tg fl xs) H := hP
    have hD : va_D A (mW cI cZ G 1 off left wr rc mem oth ks vs sx pl ps pk sr tg fl xs) := hD
    refine lv_aload_n hx hb dX5_count_29 rfl (lv_at hl 0 rfl) ?_
    refine va_get (D := D) (ci := 5) (v := .int 1) (C := RX5) (T := TX5) (N := 17) hx hb ht inX5 hown hK hP 0 rfl rfl 0 (by decide) (ht _ kw3_80) (fun _ h9 => h9) rfl dX5_count_30 ?_
    refine lv_if_le (tgt := 38) hx hb dX5_count_33 (by decide) (fun c33 => by first | exact absurd c33 (by decide) | exact absurd (by decide) c33) (fun c33 => ?_)
    refine lv_iconst (v := 0) hx hb dX5_count_36 (by decide) ?_
    exact W.iret (v := 0) hx hb hr (fun t ht2 hW => ⟨⟨0, (), rfl, by
          (try dsimp only)
          (try dsimp only)
          unfold cntF
          rw [if_pos hwb]
          try (first | rfl | (show _ = (if _ then _ else _); first | (rw [if_pos hw0]; exact w43) | (rw [if_neg hw0, if_pos hp0]; done) | (rw [if_neg hw0, if_neg hp0, if_pos hw1]; exact w67) | (rw [if_neg hw0, if_neg hp0, if_neg hw1]; refine w75.trans (congrArg nI ?_); unfold stc; rw [if_neg (by decide)]; omega))), by
          (try dsimp only)
          have e9 : (cntF off st mm pl rows F Gn what).1 = 1 := by
            unfold cntF
            rw [if_pos hwb]
            try (rfl)
          rw [e9, ht2]
          exact ⟨hP, hD⟩⟩, hS.F ht2⟩) hS.2.2 dX5_count_37
  · refine lv_iload_n hx hb dX5_count_5 rfl (lv_at hl 1 rfl) ?_
    refine lv_iconst (v := 2) hx hb dX5_count_6 (by decide) ?_
    refine lv_icmp_le (tgt := 14) hx hb dX5_count_7 (by decide) (fun c7 => ?_) (fun c7 => ?_)
    · have hwb : ¬ (what < 0 ∨ 2 < what) := fun q => q.elim c2 (fun z => absurd c7 (Int32.not_le.mpr z))
      refine lv_aload_n hx hb dX5_count_14 rfl (lv_at hl 0 rfl) ?_
      refine va_get (D := D) (ci := 5) (v := .int off) (C := RX5) (T := TX5) (N := 17) hx hb ht inX5 hown hK hP 0 rfl rfl 1 (by decide) (ht _ kw3_81) (fun _ h9 => h9) rfl dX5_count_15 ?_
      refine lv_if_eq (tgt := 25) hx hb dX5_count_18 (by decide) (fun c18 => ?_) (fun c18 => ?_)
      · have ho : ¬ ¬ off = 0 := fun q => q c18
        refine lv_iconst (v := 0) hx hb dX5_count_25 (by decide) ?_
        refine va_put (D := D) (ci := 5) (v := .int 0) (ty := .int) (C := RX5) (T := TX5) (N := 17) hx hb ht inX5 tyX5 tyX5_ok nmX5 hown hK hP hD hS 0 rfl rfl 0 (by decide) (ht _ kw3_80) (fun _ h9 => h9) rfl (by decide +kernel) (rfl) rfl (Nat.le_of_ble_eq_true rfl) dX5_count_26 (fun H locs hP hD hS => ?_)
        have hP : va_P D vwCl (mW cI cZ G 0 off left wr rc mem oth ks vs sx pl ps pk sr tg fl xs) H := hP
        have hD : va_D A (mW cI cZ G 0 off left wr rc mem oth ks vs sx pl ps pk sr tg fl xs) := hD
        refine lv_aload_n hx hb dX5_count_29 rfl (lv_at hl 0 rfl) ?_
        refine va_get (D := D) (ci := 5) (v := .int 0) (C := RX5) (T := TX5) (N := 17) hx hb ht inX5 hown hK hP 0 rfl rfl 0 (by decide) (ht _ kw3_80) (fun _ h9 => h9) rfl dX5_count_30 ?_
        refine lv_if_le (tgt := 38) hx hb dX5_count_33 (by decide) (fun c33 => ?_) (fun c33 => by first | exact absurd c33 (by decide) | exact absurd (by decide) c33)
        refine lv_iload_n hx hb dX5_count_38 rfl (lv_at hl 1 rfl) ?_
        refine lv_if_ne (tgt := 49) hx hb dX5_count_39 (by decide) (fun c39 => ?_) (fun c39 => ?_)
        · have hw0 : ¬ what = 0 := c39
          refine lv_aload_n hx hb dX5_count_49 rfl (lv_at hl 0 rfl) ?_
          refine va_get (D := D) (ci := 5) (v := .int pl) (C := RX5) (T := TX5) (N := 17) hx hb ht inX5 hown hK hP 0 rfl rfl 10 (by decide) (ht _ kw3_90) (fun _ h9 => h9) rfl dX5_count_50 ?_
          refine lv_if_ne (tgt := 60) hx hb dX5_count_53 (by decide) (fun c53 => ?_) (fun c53 => ?_)
          · have hp0 : ¬ pl = 0 := c53
            refine lv_iload_n hx hb dX5_count_60 rfl (lv_at hl 1 rfl) ?_
            refine lv_iconst (v := 1) hx hb dX5_count_61 (by decide) ?_
            refine lv_icmp_ne (tgt := 73) hx hb dX5_count_62 (by decide) (fun c62 => ?_) (fun c62 => ?_)
            · have hw1 : ¬ what = 1 := c62
              refine lv_aload_n hx hb dX5_count_73 rfl (lv_at hl 0 rfl) ?_
              refine lv_iconst (v := 3) hx hb dX5_count_74 (by decide) ?_
              have hPc := hP.sub (ws' := mW cI cZ G 0 off left wr rc mem oth ks vs sx pl ps pk sr tg fl xs) [0, 1, 2, 3, 4, 5, 6, 7, 8, 9, 10] rfl
              have hDc := hD.sub (ws' := mW cI cZ G 0 off left wr rc mem oth ks vs sx pl ps pk sr tg fl xs) [0, 1, 2, 3, 4, 5, 6, 7, 8, 9, 10] (by decide) rfl
              have hFc := va_free (wc := mW cI cZ G 0 off left wr rc mem oth ks vs sx pl ps pk sr tg fl xs) hD hS hA [0, 1, 2, 3, 4, 5, 6, 7, 8, 9, 10] rfl
              refine va_calli (va_runV (As := [.int 3]) (rest := []) ⟨hx, hb, hml, hown, ht⟩ (c_X5_still l D cI cZ cS cJ H.size G 0 off left wr rc mem oth ks vs sx pl ps pk sr tg fl xs rows F Gn C hrp hsr hpl hG hF false 3 rfl) (xwV 1 ht kw4_64 kw4_61 kw1_11 kw4_63 kwS_44 rfl rfl (by decide +kernel) ⟨Nat.le_of_ble_eq_true rfl, Nat.le_of_ble_eq_true rfl⟩) ⟨PB.blind, va_recv hK hPc (ci := 5) (q0 := 0) rfl rfl, fun U hU hW => PB.mk hU hW hPc hK hDc⟩ rfl rfl hl.1 rfl (lv_room (Nat.le_of_ble_eq_true rfl)) dX5_count_75 ⟨Nat.le_of_ble_eq_true rfl, Nat.le_of_ble_eq_true rfl⟩) hS (fun q _ h => hFc q h) hFc (fun r75 u75 t75 H1 locs ht1 hvm w75 hB hz1 hk1 hS => ?_)
              try dsimp only at w75 hB
              rw [ht1] at hB
              have hP := wk_ro hP hD [0, 1, 2, 3, 4, 5, 6, 7, 8, 9, 10] rfl hk1 hB
              generalize H1 = H at hP hS ⊢
              exact W.iret (v := r75) hx hb hr (fun t ht2 hW => ⟨⟨r75, (), rfl, by
                    (try dsimp only)
                    (try dsimp only)
                    unfold cntF
                    rw [if_neg hwb, if_neg ho]
                    try (first | rfl | (show _ = (if _ then _ else _); first | (rw [if_pos hw0]; exact w43) | (rw [if_neg hw0, if_pos hp0]; done) | (rw [if_neg hw0, if_neg hp0, if_pos hw1]; exact w67) | (rw [if_neg hw0, if_neg hp0, if_neg hw1]; refine w75.trans (congrArg nI ?_); unfold stc; rw [if_neg (by decide)]; omega))), by
                    (try dsimp only)
                    have e9 : (cntF off st mm pl rows F Gn what).1 = 0 := by
                      unfold cntF
                      rw [if_neg hwb, if_neg ho]
                      try (rfl)
                    rw [e9, ht2]
                    exact ⟨hP, hD⟩⟩, hS.F ht2⟩) hS.2.2 dX5_count_78
            · have hw1 : what = 1 := c62
              refine lv_aload_n hx hb dX5_count_65 rfl (lv_at hl 0 rfl) ?_
              refine lv_iconst (v := 1) hx hb dX5_count_66 (by decide) ?_
              have hPc := hP.sub (ws' := mW cI cZ G 0 off left wr rc mem oth ks vs sx pl ps pk sr tg fl xs) [0, 1, 2, 3, 4, 5, 6, 7, 8, 9, 10] rfl
              have hDc := hD.sub (ws' := mW cI cZ G 0 off left wr rc mem oth ks vs sx pl ps pk sr tg fl xs) [0, 1, 2, 3, 4, 5, 6, 7, 8, 9, 10] (by decide) rfl
              have hFc := va_free (wc := mW cI cZ G 0 off left wr rc mem oth ks vs sx pl ps pk sr tg fl xs) hD hS hA [0, 1, 2, 3, 4, 5, 6, 7, 8, 9, 10] rfl
              refine va_calli (va_runV (As := [.int 1]) (rest := []) ⟨hx, hb, hml, hown, ht⟩ (c_X5_still l D cI cZ cS cJ H.size G 0 off left wr rc mem oth ks vs sx pl ps pk sr tg fl xs rows F Gn C hrp hsr hpl hG hF true 1 rfl) (xwV 1 ht kw4_64 kw4_61 kw1_11 kw4_63 kwS_44 rfl rfl (by decide +kernel) ⟨Nat.le_of_ble_eq_true rfl, Nat.le_of_ble_eq_true rfl⟩) ⟨PB.blind, va_recv hK hPc (ci := 5) (q0 := 0) rfl rfl, fun U hU hW => PB.mk hU hW hPc hK hDc⟩ rfl rfl hl.1 rfl (lv_room (Nat.le_of_ble_eq_true rfl)) dX5_count_67 ⟨Nat.le_of_ble_eq_true rfl, Nat.le_of_ble_eq_true rfl⟩) hS (fun q _ h => hFc q h) hFc (fun r67 u67 t67 H1 locs ht1 hvm w67 hB hz1 hk1 hS => ?_)
              try dsimp only at w67 hB
              rw [ht1] at hB
              have hP := wk_ro hP hD [0, 1, 2, 3, 4, 5, 6, 7, 8, 9, 10] rfl hk1 hB
              generalize H1 = H at hP hS ⊢
              refine lv_goto (tgt := 78) hx hb dX5_count_70 (by decide) ?_
              exact W.iret (v := r67) hx hb hr (fun t ht2 hW => ⟨⟨r67, (), rfl, by
                    (try dsimp only)
                    (try dsimp only)
                    unfold cntF
                    rw [if_neg hwb, if_neg ho]
                    try (first | rfl | (show _ = (if _ then _ else _); first | (rw [if_pos hw0]; exact w43) | (rw [if_neg hw0, if_pos hp0]; done) | (rw [if_neg hw0, if_neg hp0, if_pos hw1]; exact w67) | (rw [if_neg hw0, if_neg hp0, if_neg hw1]; refine w75.trans (congrArg nI ?_); unfold stc; rw [if_neg (by decide)]; omega))), by
                    (try dsimp only)
                    have e9 : (cntF off st mm pl rows F Gn what).1 = 0 := by
                      unfold cntF
                      rw [if_neg hwb, if_neg ho]
                      try (rfl)
                    rw [e9, ht2]
                    exact ⟨hP, hD⟩⟩, hS.F ht2⟩) hS.2.2 dX5_count_78
          · have hp0 : pl = 0 := c53
            refine lv_iconst (v := (-1)) hx hb dX5_count_56 (by decide) ?_
            refine lv_goto (tgt := 78) hx hb dX5_count_57 (by decide) ?_
            exact W.iret (v := (-1)) hx hb hr (fun t ht2 hW => ⟨⟨(-1), (), rfl, by
                  (try dsimp only)
                  (try dsimp only)
                  unfold cntF
                  rw [if_neg hwb, if_neg ho]
                  try (first | rfl | (show _ = (if _ then _ else _); first | (rw [if_pos hw0]; exact w43) | (rw [if_neg hw0, if_pos hp0]; done) | (rw [if_neg hw0, if_neg hp0, if_pos hw1]; exact w67) | (rw [if_neg hw0, if_neg hp0, if_neg hw1]; refine w75.trans (congrArg nI ?_); unfold stc; rw [if_neg (by decide)]; omega))), by
                  (try dsimp only)
                  have e9 : (cntF off st mm pl rows F Gn what).1 = 0 := by
                    unfold cntF
                    rw [if_neg hwb, if_neg ho]
                    try (rfl)
                  rw [e9, ht2]
                  exact ⟨hP, hD⟩⟩, hS.F ht2⟩) hS.2.2 dX5_count_78
        · have hw0 : what = 0 := c39
          refine lv_aload_n hx hb dX5_count_42 rfl (lv_at hl 0 rfl) ?_
          have hPc := hP.sub (ws' := mW cI cZ G 0 off left wr rc mem oth ks vs sx pl ps pk sr tg fl xs) [0, 1, 2, 3, 4, 5, 6, 7, 8, 9, 10] rfl
          have hDc := hD.sub (ws' := mW cI cZ G 0 off left wr rc mem oth ks vs sx pl ps pk sr tg fl xs) [0, 1, 2, 3, 4, 5, 6, 7, 8, 9, 10] (by decide) rfl
          have hFc := va_free (wc := mW cI cZ G 0 off left wr rc mem oth ks vs sx pl ps pk sr tg fl xs) hD hS hA [0, 1, 2, 3, 4, 5, 6, 7, 8, 9, 10] rfl
          refine va_calli (va_runV (As := []) (rest := []) ⟨hx, hb, hml, hown, ht⟩ (c_X5_there l D cI cZ cS cJ H.size G 0 off left wr rc mem oth ks vs sx pl ps pk sr tg fl xs st hst rows F Gn C hrp hsr hpl mm hmm hM hp8) (xwV 0 ht kw3_184 kw3_181 kw1_11 kw3_183 kwS_30 rfl rfl (by decide +kernel) ⟨Nat.le_of_ble_eq_true rfl, Nat.le_of_ble_eq_true rfl⟩) ⟨PB.blind, va_recv hK hPc (ci := 5) (q0 := 0) rfl rfl, fun U hU hW => PB.mk hU hW hPc hK hDc⟩ rfl rfl hl.1 rfl (lv_room (Nat.le_of_ble_eq_true rfl)) dX5_count_43 ⟨Nat.le_of_ble_eq_true rfl, Nat.le_of_ble_eq_true rfl⟩) hS (fun q _ h => hFc q h) hFc (fun r43 u43 t43 H1 locs ht1 hvm w43 hB hz1 hk1 hS => ?_)
          try dsimp only at w43 hB
          rw [ht1] at hB
          have hP := wk_ro hP hD [0, 1, 2, 3, 4, 5, 6, 7, 8, 9, 10] rfl hk1 hB
          generalize H1 = H at hP hS ⊢
          refine lv_goto (tgt := 78) hx hb dX5_count_46 (by decide) ?_
          exact W.iret (v := r43) hx hb hr (fun t ht2 hW => ⟨⟨r43, (), rfl, by
                (try dsimp only)
                (try dsimp only)
                unfold cntF
                rw [if_neg hwb, if_neg ho]
                try (first | rfl | (show _ = (if _ then _ else _); first | (rw [if_pos hw0]; exact w43) | (rw [if_neg hw0, if_pos hp0]; done) | (rw [if_neg hw0, if_neg hp0, if_pos hw1]; exact w67) | (rw [if_neg hw0, if_neg hp0, if_neg hw1]; refine w75.trans (congrArg nI ?_); unfold stc; rw [if_neg (by decide)]; omega))), by
                (try dsimp only)
                have e9 : (cntF off st mm pl rows F Gn what).1 = 0 := by
                  unfold cntF
                  rw [if_neg hwb, if_neg ho]
                  try (rfl)
                rw [e9, ht2]
                exact ⟨hP, hD⟩⟩, hS.F ht2⟩) hS.2.2 dX5_count_78
      · have ho : ¬ off = 0 := c18
        refine lv_iconst (v := 2) hx hb dX5_count_21 (by decide) ?_
        refine lv_goto (tgt := 26) hx hb dX5_count_22 (by decide) ?_
        refine va_put (D := D) (ci := 5) (v := .int 2) (ty := .int) (C := RX5) (T := TX5) (N := 17) hx hb ht inX5 tyX5 tyX5_ok nmX5 hown hK hP hD hS 0 rfl rfl 0 (by decide) (ht _ kw3_80) (fun _ h9 => h9) rfl (by decide +kernel) (rfl) rfl (Nat.le_of_ble_eq_true rfl) dX5_count_26 (fun H locs hP hD hS => ?_)
        have hP : va_P D vwCl (mW cI cZ G 2 off left wr rc mem oth ks vs sx pl ps pk sr tg fl xs) H := hP
        have hD : va_D A (mW cI cZ G 2 off left wr rc mem oth ks vs sx pl ps pk sr tg fl xs) := hD
        refine lv_aload_n hx hb dX5_count_29 rfl (lv_at hl 0 rfl) ?_
        refine va_get (D := D) (ci := 5) (v := .int 2) (C := RX5) (T := TX5) (N := 17) hx hb ht inX5 hown hK hP 0 rfl rfl 0 (by decide) (ht _ kw3_80) (fun _ h9 => h9) rfl dX5_count_30 ?_
        refine lv_if_le (tgt := 38) hx hb dX5_count_33 (by decide) (fun c33 => by first | exact absurd c33 (by decide) | exact absurd (by decide) c33) (fun c33 => ?_)
        refine lv_iconst (v := 0) hx hb dX5_count_36 (by decide) ?_
        exact W.iret (v := 0) hx hb hr (fun t ht2 hW => ⟨⟨0, (), rfl, by
              (try dsimp only)
              (try dsimp only)
              unfold cntF
              rw [if_neg hwb, if_pos ho]
              try (first | rfl | (show _ = (if _ then _ else _); first | (rw [if_pos hw0]; exact w43) | (rw [if_neg hw0, if_pos hp0]; done) | (rw [if_neg hw0, if_neg hp0, if_pos hw1]; exact w67) | (rw [if_neg hw0, if_neg hp0, if_neg hw1]; refine w75.trans (congrArg nI ?_); unfold stc; rw [if_neg (by decide)]; omega))), by
              (try dsimp only)
              have e9 : (cntF off st mm pl rows F Gn what).1 = 2 := by
                unfold cntF
                rw [if_neg hwb, if_pos ho]
                try (rfl)
              rw [e9, ht2]
              exact ⟨hP, hD⟩⟩, hS.F ht2⟩) hS.2.2 dX5_count_37
    · have hwb : what < 0 ∨ 2 < what := Or.inr (Int32.not_le.mp c7)
      refine lv_iconst (v := 1) hx hb dX5_count_10 (by decide) ?_
      refine lv_goto (tgt := 26) hx hb dX5_count_11 (by decide) ?_
      refine va_put (D := D) (ci := 5) (v := .int 1) (ty := .int) (C := RX5) (T := TX5) (N := 17) hx hb ht inX5 tyX5 tyX5_ok nmX5 hown hK hP hD hS 0 rfl rfl 0 (by decide) (ht _ kw3_80) (fun _ h9 => h9) rfl (by decide +kernel) (rfl) rfl (Nat.le_of_ble_eq_true rfl) dX5_count_26 (fun H locs hP hD hS => ?_)
      have hP : va_P D vwCl (mW cI cZ G 1 off left wr rc mem oth ks vs sx pl ps pk sr tg fl xs) H := hP
      have hD : va_D A (mW cI cZ G 1 off left wr rc mem oth ks vs sx pl ps pk sr tg fl xs) := hD
      refine lv_aload_n hx hb dX5_count_29 rfl (lv_at hl 0 rfl) ?_
      refine va_get (D := D) (ci := 5) (v := .int 1) (C := RX5) (T := TX5) (N := 17) hx hb ht inX5 hown hK hP 0 rfl rfl 0 (by decide) (ht _ kw3_80) (fun _ h9 => h9) rfl dX5_count_30 ?_
      refine lv_if_le (tgt := 38) hx hb dX5_count_33 (by decide) (fun c33 => by first | exact absurd c33 (by decide) | exact absurd (by decide) c33) (fun c33 => ?_)
      refine lv_iconst (v := 0) hx hb dX5_count_36 (by decide) ?_
      exact W.iret (v := 0) hx hb hr (fun t ht2 hW => ⟨⟨0, (), rfl, by
            (try dsimp only)
            (try dsimp only)
            unfold cntF
            rw [if_pos hwb]
            try (first | rfl | (show _ = (if _ then _ else _); first | (rw [if_pos hw0]; exact w43) | (rw [if_neg hw0, if_pos hp0]; done) | (rw [if_neg hw0, if_neg hp0, if_pos hw1]; exact w67) | (rw [if_neg hw0, if_neg hp0, if_neg hw1]; refine w75.trans (congrArg nI ?_); unfold stc; rw [if_neg (by decide)]; omega))), by
            (try dsimp only)
            have e9 : (cntF off st mm pl rows F Gn what).1 = 1 := by
              unfold cntF
              rw [if_pos hwb]
              try (rfl)
            rw [e9, ht2]
            exact ⟨hP, hD⟩⟩, hS.F ht2⟩) hS.2.2 dX5_count_37

set_option maxHeartbeats 4000000 in
set_option maxRecDepth 100000 in
theorem c_X5_written (l : Launch) (D : va_G) (cI cZ cS cJ : ClassId) (sz : Nat) (G : Nat → Nat) (code off left wr rc : Int32) (mem oth ks vs sx : Nat → Int32) (pl ps : Int32) (pk sr tg fl xs : Nat → Int32) (lg : Int32) : Met l yX5_written (Cond.code yX5_written cX5_written 2 (some .int) :: TB) ({ frames := 0, cells := 0, slots := 0, locals := 0 } : Room) (va_Pc [.ref (G 0), .int lg] (PB D (KT cI cZ cS cJ) (mW cI cZ G code off left wr rc mem oth ks vs sx pl ps pk sr tg fl xs) sz)) (va_Qi (fun r (_ : Unit) => r = if lg = 0 then wr else rc) (fun (u : Unit) t => va_P D vwCl (mW cI cZ G (0) off left wr rc mem oth ks vs sx pl ps pk sr tg fl xs) t.heap ∧ va_D (va_A (mW cI cZ G code off left wr rc mem oth ks vs sx pl ps pk sr tg fl xs) sz) (mW cI cZ G (0) off left wr rc mem oth ks vs sx pl ps pk sr tg fl xs)) (va_A (mW cI cZ G code off left wr rc mem oth ks vs sx pl ps pk sr tg fl xs) sz)) 0 0 (va_A (mW cI cZ G code off left wr rc mem oth ks vs sx pl ps pk sr tg fl xs) sz) := by
  refine Met.ofW (cc := cX5_written) (maxL := 2) (ret := (some .int)) (by decide) rfl ?_
  intro p e s m args below meth c s₁ B hml hv
  obtain ⟨rfl, hsz, hP, hK, hD0⟩ := hv
  have hx := B.exec
  have hb := B.bytes
  have hr := B.returns
  have hts := atoms_spec (ws := (Cond.code yX5_written cX5_written 2 (some .int) :: TB)) B.pre
  have ht : ∀ w ∈ TB, w.before _ s = true := fun w h => hts w (List.mem_cons_of_mem _ h)
  have hown : s.vm.findClass RX5 = some m.cls := findClass_of_methodNamed B.named
  have hlocks := B.notSynchronized
  subst hsz
  have hD := hD0.self (sz := s.heap.size)
  generalize hAe : va_A (mW cI cZ G code off left wr rc mem oth ks vs sx pl ps pk sr tg fl xs) s.heap.size = A at hD ⊢
  have hA : ∀ q : Nat, s.heap.size ≤ q → A q := fun q h => by rw [← hAe]; exact Or.inr h
  have hS : va_S A s.heap s.heap [] := va_S.rf
  have hP : va_P D vwCl (mW cI cZ G code off left wr rc mem oth ks vs sx pl ps pk sr tg fl xs) s.heap := hP
  have hl := lv_entry ([.ref (G 0), .int lg]) (n := 2) (Nat.le_of_ble_eq_true rfl)
  rw [lg_entry_eq]
  generalize (lg_sl ([.ref (G 0), .int lg]) ++ List.replicate (2 - (lg_sl ([.ref (G 0), .int lg])).length) Slot.unset).toArray = ls at hl ⊢
  have hl : lv_has ls 2 [(0, .ref (G 0)), (1, .int lg)] := hl
  refine lv_aload_n hx hb dX5_written_0 rfl (lv_at hl 0 rfl) ?_
  refine lv_iconst (v := 0) hx hb dX5_written_1 (by decide) ?_
  refine va_put (D := D) (ci := 5) (v := .int 0) (ty := .int) (C := RX5) (T := TX5) (N := 17) hx hb ht inX5 tyX5 tyX5_ok nmX5 hown hK hP hD hS 0 rfl rfl 0 (by decide) (ht _ kw3_80) (fun _ h9 => h9) rfl (by decide +kernel) (rfl) rfl (Nat.le_of_ble_eq_true rfl) dX5_written_2 (fun H locs hP hD hS => ?_)
  have hP : va_P D vwCl (mW cI cZ G 0 off left wr rc mem oth ks vs sx pl ps pk sr tg fl xs) H := hP
  have hD : va_D A (mW cI cZ G 0 off left wr rc mem oth ks vs sx pl ps pk sr tg fl xs) := hD
  refine lv_iload_n hx hb dX5_written_5 rfl (lv_at hl 1 rfl) ?_
  refine lv_if_eq (tgt := 16) hx hb dX5_written_6 (by decide) (fun c6 => ?_) (fun c6 => ?_)
  · refine lv_aload_n hx hb dX5_written_16 rfl (lv_at hl 0 rfl) ?_
    refine va_get (D := D) (ci := 5) (v := .int wr) (C := RX5) (T := TX5) (N := 17) hx hb ht inX5 hown hK hP 0 rfl rfl 3 (by decide) (ht _ kw3_83) (fun _ h9 => h9) rfl dX5_written_17 ?_
    exact W.iret (v := wr) hx hb hr (fun t ht2 hW => ⟨⟨wr, (), rfl, by first | rw [if_pos c6] | rw [if_neg c6], by
          (try dsimp only)
          rw [ht2]
          exact ⟨hP, hD⟩⟩, hS.F ht2⟩) hS.2.2 dX5_written_20
  · refine lv_aload_n hx hb dX5_written_9 rfl (lv_at hl 0 rfl) ?_
    refine va_get (D := D) (ci := 5) (v := .int rc) (C := RX5) (T := TX5) (N := 17) hx hb ht inX5 hown hK hP 0 rfl rfl 4 (by decide) (ht _ kw3_84) (fun _ h9 => h9) rfl dX5_written_10 ?_
    refine lv_goto (tgt := 20) hx hb dX5_written_13 (by decide) ?_
    exact W.iret (v := rc) hx hb hr (fun t ht2 hW => ⟨⟨rc, (), rfl, by first | rw [if_pos c6] | rw [if_neg c6], by
          (try dsimp only)
          rw [ht2]
          exact ⟨hP, hD⟩⟩, hS.F ht2⟩) hS.2.2 dX5_written_20

set_option maxHeartbeats 4000000 in
set_option maxRecDepth 100000 in
theorem c_X5_off (l : Launch) (D : va_G) (cI cZ cS cJ : ClassId) (sz : Nat) (G : Nat → Nat) (code off left wr rc : Int32) (mem oth ks vs sx : Nat → Int32) (pl ps : Int32) (pk sr tg fl xs : Nat → Int32) (hoff : off = 0 ∨ off = 1) : Met l yX5_off (Cond.code yX5_off cX5_off 1 (some .boolean) :: TB) ({ frames := 0, cells := 0, slots := 0, locals := 0 } : Room) (va_Pc [.ref (G 0)] (PB D (KT cI cZ cS cJ) (mW cI cZ G code off left wr rc mem oth ks vs sx pl ps pk sr tg fl xs) sz)) (va_Qi (fun r (_ : Unit) => r = off) (fun (u : Unit) t => va_P D vwCl (mW cI cZ G (0) off left wr rc mem oth ks vs sx pl ps pk sr tg fl xs) t.heap ∧ va_D (va_A (mW cI cZ G code off left wr rc mem oth ks vs sx pl ps pk sr tg fl xs) sz) (mW cI cZ G (0) off left wr rc mem oth ks vs sx pl ps pk sr tg fl xs)) (va_A (mW cI cZ G code off left wr rc mem oth ks vs sx pl ps pk sr tg fl xs) sz)) 0 0 (va_A (mW cI cZ G code off left wr rc mem oth ks vs sx pl ps pk sr tg fl xs) sz) := by
  refine Met.ofW (cc := cX5_off) (maxL := 1) (ret := (some .boolean)) (by decide) rfl ?_
  intro p e s m args below meth c s₁ B hml hv
  obtain ⟨rfl, hsz, hP, hK, hD0⟩ := hv
  have hx := B.exec
  have hb := B.bytes
  have hr := B.returns
  have hts := atoms_spec (ws := (Cond.code yX5_off cX5_off 1 (some .boolean) :: TB)) B.pre
  have ht : ∀ w ∈ TB, w.before _ s = true := fun w h => hts w (List.mem_cons_of_mem _ h)
  have hown : s.vm.findClass RX5 = some m.cls := findClass_of_methodNamed B.named
  have hlocks := B.notSynchronized
  subst hsz
  have hD := hD0.self (sz := s.heap.size)
  generalize hAe : va_A (mW cI cZ G code off left wr rc mem oth ks vs sx pl ps pk sr tg fl xs) s.heap.size = A at hD ⊢
  have hA : ∀ q : Nat, s.heap.size ≤ q → A q := fun q h => by rw [← hAe]; exact Or.inr h
  have hS : va_S A s.heap s.heap [] := va_S.rf
  have hP : va_P D vwCl (mW cI cZ G code off left wr rc mem oth ks vs sx pl ps pk sr tg fl xs) s.heap := hP
  have hl := lv_entry ([.ref (G 0)]) (n := 1) (Nat.le_of_ble_eq_true rfl)
  rw [lg_entry_eq]
  generalize (lg_sl ([.ref (G 0)]) ++ List.replicate (1 - (lg_sl ([.ref (G 0)])).length) Slot.unset).toArray = ls at hl ⊢
  have hl : lv_has ls 1 [(0, .ref (G 0))] := hl
  refine lv_aload_n hx hb dX5_off_0 rfl (lv_at hl 0 rfl) ?_
  refine lv_iconst (v := 0) hx hb dX5_off_1 (by decide) ?_
  refine va_put (D := D) (ci := 5) (v := .int 0) (ty := .int) (C := RX5) (T := TX5) (N := 17) hx hb ht inX5 tyX5 tyX5_ok nmX5 hown hK hP hD hS 0 rfl rfl 0 (by decide) (ht _ kw3_80) (fun _ h9 => h9) rfl (by decide +kernel) (rfl) rfl (Nat.le_of_ble_eq_true rfl) dX5_off_2 (fun H locs hP hD hS => ?_)
  have hP : va_P D vwCl (mW cI cZ G 0 off left wr rc mem oth ks vs sx pl ps pk sr tg fl xs) H := hP
  have hD : va_D A (mW cI cZ G 0 off left wr rc mem oth ks vs sx pl ps pk sr tg fl xs) := hD
  refine lv_aload_n hx hb dX5_off_5 rfl (lv_at hl 0 rfl) ?_
  refine va_get (D := D) (ci := 5) (v := .int off) (C := RX5) (T := TX5) (N := 17) hx hb ht inX5 hown hK hP 0 rfl rfl 1 (by decide) (ht _ kw3_81) (fun _ h9 => h9) rfl dX5_off_6 ?_
  exact W.zret (v := off) hx hb hr (by rcases hoff with h | h <;> rw [h] <;> decide +kernel) (fun t ht2 hW => ⟨⟨off, (), rfl, rfl, by
        (try dsimp only)
        rw [ht2]
        exact ⟨hP, hD⟩⟩, hS.F ht2⟩) hS.2.2 dX5_off_9

set_option maxHeartbeats 4000000 in
set_option maxRecDepth 100000 in
theorem c_X5_place (l : Launch) (D : va_G) (cI cZ cS cJ : ClassId) (sz : Nat) (G : Nat → Nat) (code off left wr rc : Int32) (mem oth ks vs sx : Nat → Int32) (pl ps : Int32) (pk sr tg fl xs : Nat → Int32) (x : Int64) : Met l yX5_place (Cond.code yX5_place cX5_place 3 (some .int) :: TB) ({ frames := 1, cells := 0, slots := 0, locals := 23 } : Room) (va_Pc [.ref (G 0), .long x] (PB D (KT cI cZ cS cJ) (mW cI cZ G code off left wr rc mem oth ks vs sx pl ps pk sr tg fl xs) sz)) (va_Qi (fun r (_ : Unit) => r = plF x) (fun (u : Unit) t => va_P D vwCl (mW cI cZ G (0) off left wr rc mem oth ks vs sx pl ps pk sr tg fl xs) t.heap ∧ va_D (va_A (mW cI cZ G code off left wr rc mem oth ks vs sx pl ps pk sr tg fl xs) sz) (mW cI cZ G (0) off left wr rc mem oth ks vs sx pl ps pk sr tg fl xs)) (va_A (mW cI cZ G code off left wr rc mem oth ks vs sx pl ps pk sr tg fl xs) sz)) 0 0 (va_A (mW cI cZ G code off left wr rc mem oth ks vs sx pl ps pk sr tg fl xs) sz) := by
  refine Met.ofW (cc := cX5_place) (maxL := 3) (ret := (some .int)) (by decide) rfl ?_
  intro p e s m args below meth c s₁ B hml hv
  obtain ⟨rfl, hsz, hP, hK, hD0⟩ := hv
  have hx := B.exec
  have hb := B.bytes
  have hr := B.returns
  have hts := atoms_spec (ws := (Cond.code yX5_place cX5_place 3 (some .int) :: TB)) B.pre
  have ht : ∀ w ∈ TB, w.before _ s = true := fun w h => hts w (List.mem_cons_of_mem _ h)
  have hown : s.vm.findClass RX5 = some m.cls := findClass_of_methodNamed B.named
  have hlocks := B.notSynchronized
  subst hsz
  have hD := hD0.self (sz := s.heap.size)
  generalize hAe : va_A (mW cI cZ G code off left wr rc mem oth ks vs sx pl ps pk sr tg fl xs) s.heap.size = A at hD ⊢
  have hA : ∀ q : Nat, s.heap.size ≤ q → A q := fun q h => by rw [← hAe]; exact Or.inr h
  have hS : va_S A s.heap s.heap [] := va_S.rf
  have hP : va_P D vwCl (mW cI cZ G code off left wr rc mem oth ks vs sx pl ps pk sr tg fl xs) s.heap := hP
  have hl := lv_entry ([.ref (G 0), .long x]) (n := 3) (Nat.le_of_ble_eq_true rfl)
  rw [lg_entry_eq]
  generalize (lg_sl ([.ref (G 0), .long x]) ++ List.replicate (3 - (lg_sl ([.ref (G 0), .long x])).length) Slot.unset).toArray = ls at hl ⊢
  have hl : lv_has ls 3 [(0, .ref (G 0)), (1, .long x)] := hl
  refine lv_aload_n hx hb dX5_place_0 rfl (lv_at hl 0 rfl) ?_
  refine lv_iconst (v := 0) hx hb dX5_place_1 (by decide) ?_
  refine va_put (D := D) (ci := 5) (v := .int 0) (ty := .int) (C := RX5) (T := TX5) (N := 17) hx hb ht inX5 tyX5 tyX5_ok nmX5 hown hK hP hD hS 0 rfl rfl 0 (by decide) (ht _ kw3_80) (fun _ h9 => h9) rfl (by decide +kernel) (rfl) rfl (Nat.le_of_ble_eq_true rfl) dX5_place_2 (fun H locs hP hD hS => ?_)
  have hP : va_P D vwCl (mW cI cZ G 0 off left wr rc mem oth ks vs sx pl ps pk sr tg fl xs) H := hP
  have hD : va_D A (mW cI cZ G 0 off left wr rc mem oth ks vs sx pl ps pk sr tg fl xs) := hD
  refine lv_lload_n hx hb dX5_place_5 rfl (lv_at hl 1 rfl) ?_
  have hPc : va_P D vwCl [] H := va_P.nil
  have hDc : va_D A [] := va_D.nil
  have hFc := va_free (wc := []) hD hS hA [] rfl
  refine va_calli (va_runS (As := [.long x]) (rest := []) ⟨hx, hb, hml, hown, ht⟩ (c_X5_placeOf l D cI cZ cS cJ H.size x) (xwS 1 ht kw3_143 kw3_141 kw1_11 kw3_142 rfl rfl (by decide +kernel) ⟨Nat.le_of_ble_eq_true rfl, Nat.le_of_ble_eq_true rfl⟩) ⟨PB.blind, fun U hU hW => PB.mk hU hW hPc hK hDc⟩ rfl rfl hl.1 rfl (lv_room (Nat.le_of_ble_eq_true rfl)) dX5_place_6 ⟨Nat.le_of_ble_eq_true rfl, Nat.le_of_ble_eq_true rfl⟩) hS (fun q _ h => hFc q h) hFc (fun r6 u6 t6 H1 locs ht1 hvm w6 hB hz1 hk1 hS => ?_)
  try dsimp only at w6 hB
  rw [ht1] at hB
  have hP := wk_ro (wc := []) hP hD [] rfl hk1 va_P.nil
  generalize H1 = H at hP hS ⊢
  exact W.iret (v := r6) hx hb hr (fun t ht2 hW => ⟨⟨r6, (), rfl, w6, by
        (try dsimp only)
        rw [ht2]
        exact ⟨hP, hD⟩⟩, hS.F ht2⟩) hS.2.2 dX5_place_9

set_option maxHeartbeats 4000000 in
set_option maxRecDepth 100000 in
theorem c_X5_fail (l : Launch) (D : va_G) (cI cZ cS cJ : ClassId) (sz : Nat) (G : Nat → Nat) (code off left wr rc : Int32) (mem oth ks vs sx : Nat → Int32) (pl ps : Int32) (pk sr tg fl xs : Nat → Int32) (st : Nat → List (Int32 × Int32)) (hst : RS st ks vs sx) (mm : Nat → Nat) (hmm : ∀ n, n < 8 → mem n = nI (mm n)) (hM : MM mm) (rows : List (Int32 × Nat × Nat)) (F Gn : Nat) (C : Bool) (hrp : RP rows F Gn C ps pk sr tg fl xs) (hsr : Srt (pkl rows)) (hpl : pl = 1 ∨ (pl = 0 ∧ rows = [])) (hp8 : P8 rows) (hoff : off = 0 ∨ off = 1) (n : Int32) : Met l yX5_fail (Cond.code yX5_fail cX5_fail 2 none :: TB) ({ frames := 0, cells := 0, slots := 0, locals := 0 } : Room) (va_Pc [.ref (G 0), .int n] (PB D (KT cI cZ cS cJ) (mW cI cZ G code off left wr rc mem oth ks vs sx pl ps pk sr tg fl xs) sz)) (va_Qv (fun (u : MT) => ∃ σ, failF off left wr rc st mm pl rows F Gn C n = (u.1, σ) ∧ RepM σ u) (fun (u : MT) t => va_P D vwCl (mWu cI cZ G u) t.heap ∧ va_D (va_A (mW cI cZ G code off left wr rc mem oth ks vs sx pl ps pk sr tg fl xs) sz) (mWu cI cZ G u)) (va_A (mW cI cZ G code off left wr rc mem oth ks vs sx pl ps pk sr tg fl xs) sz)) 0 0 (va_A (mW cI cZ G code off left wr rc mem oth ks vs sx pl ps pk sr tg fl xs) sz) := by
  refine Met.ofW (cc := cX5_fail) (maxL := 2) (ret := none) (by decide) rfl ?_
  intro p e s m args below meth c s₁ B hml hv
  obtain ⟨rfl, hsz, hP, hK, hD0⟩ := hv
  have hx := B.exec
  have hb := B.bytes
  have hr := B.returns
  have hts := atoms_spec (ws := (Cond.code yX5_fail cX5_fail 2 none :: TB)) B.pre
  have ht : ∀ w ∈ TB, w.before _ s = true := fun w h => hts w (List.mem_cons_of_mem _ h)
  have hown : s.vm.findClass RX5 = some m.cls := findClass_of_methodNamed B.named
  have hlocks := B.notSynchronized
  subst hsz
  have hD := hD0.self (sz := s.heap.size)
  generalize hAe : va_A (mW cI cZ G code off left wr rc mem oth ks vs sx pl ps pk sr tg fl xs) s.heap.size = A at hD ⊢
  have hA : ∀ q : Nat, s.heap.size ≤ q → A q := fun q h => by rw [← hAe]; exact Or.inr h
  have hS : va_S A s.heap s.heap [] := va_S.rf
  have hP : va_P D vwCl (mW cI cZ G code off left wr rc mem oth ks vs sx pl ps pk sr tg fl xs) s.heap := hP
  have hl := lv_entry ([.ref (G 0), .int n]) (n := 2) (Nat.le_of_ble_eq_true rfl)
  rw [lg_entry_eq]
  generalize (lg_sl ([.ref (G 0), .int n]) ++ List.replicate (2 - (lg_sl ([.ref (G 0), .int n])).length) Slot.unset).toArray = ls at hl ⊢
  have hl : lv_has ls 2 [(0, .ref (G 0)), (1, .int n)] := hl
  refine lv_aload_n hx hb dX5_fail_0 rfl (lv_at hl 0 rfl) ?_
  refine lv_iload_n hx hb dX5_fail_1 rfl (lv_at hl 1 rfl) ?_
  refine lv_iconst (v := (-1)) hx hb dX5_fail_2 (by decide) ?_
  refine lv_icmp_ge (tgt := 10) hx hb dX5_fail_3 (by decide) (fun c3 => ?_) (fun c3 => ?_)
  · have hb1 : ¬ n < -1 := Int32.not_lt.mpr c3
    refine lv_aload_n hx hb dX5_fail_10 rfl (lv_at hl 0 rfl) ?_
    refine va_get (D := D) (ci := 5) (v := .int off) (C := RX5) (T := TX5) (N := 17) hx hb ht inX5 hown hK hP 0 rfl rfl 1 (by decide) (ht _ kw3_81) (fun _ h9 => h9) rfl dX5_fail_11 ?_
    refine lv_if_eq (tgt := 21) hx hb dX5_fail_14 (by decide) (fun c14 => ?_) (fun c14 => ?_)
    · have ho : ¬ ¬ off = 0 := fun q => q c14
      refine lv_iconst (v := 0) hx hb dX5_fail_21 (by decide) ?_
      refine va_put (D := D) (ci := 5) (v := .int 0) (ty := .int) (C := RX5) (T := TX5) (N := 17) hx hb ht inX5 tyX5 tyX5_ok nmX5 hown hK hP hD hS 0 rfl rfl 0 (by decide) (ht _ kw3_80) (fun _ h9 => h9) rfl (by decide +kernel) (rfl) rfl (Nat.le_of_ble_eq_true rfl) dX5_fail_22 (fun H locs hP hD hS => ?_)
      have hP : va_P D vwCl (mW cI cZ G 0 off left wr rc mem oth ks vs sx pl ps pk sr tg fl xs) H := hP
      have hD : va_D A (mW cI cZ G 0 off left wr rc mem oth ks vs sx pl ps pk sr tg fl xs) := hD
      refine lv_aload_n hx hb dX5_fail_25 rfl (lv_at hl 0 rfl) ?_
      refine va_get (D := D) (ci := 5) (v := .int 0) (C := RX5) (T := TX5) (N := 17) hx hb ht inX5 hown hK hP 0 rfl rfl 0 (by decide) (ht _ kw3_80) (fun _ h9 => h9) rfl dX5_fail_26 ?_
      refine lv_if_ne (tgt := 37) hx hb dX5_fail_29 (by decide) (fun c29 => by first | exact absurd c29 (by decide) | exact absurd (by decide) c29) (fun c29 => ?_)
      refine lv_aload_n hx hb dX5_fail_32 rfl (lv_at hl 0 rfl) ?_
      refine lv_iload_n hx hb dX5_fail_33 rfl (lv_at hl 1 rfl) ?_
      refine va_put (D := D) (ci := 5) (v := .int n) (ty := .int) (C := RX5) (T := TX5) (N := 17) hx hb ht inX5 tyX5 tyX5_ok nmX5 hown hK hP hD hS 0 rfl rfl 2 (by decide) (ht _ kw3_82) (fun _ h9 => h9) rfl (by decide +kernel) (rfl) rfl (Nat.le_of_ble_eq_true rfl) dX5_fail_34 (fun H locs hP hD hS => ?_)
      have hP : va_P D vwCl (mW cI cZ G 0 off n wr rc mem oth ks vs sx pl ps pk sr tg fl xs) H := hP
      have hD : va_D A (mW cI cZ G 0 off n wr rc mem oth ks vs sx pl ps pk sr tg fl xs) := hD
      exact W.vret hx hb hr (fun t ht2 hW => ⟨⟨(0, off, n, wr, rc, mem, oth, ks, vs, sx, pl, ps, pk, sr, tg, fl, xs), rfl, by
            (try dsimp only)
            (try dsimp only)
            refine ⟨(off, n, wr, rc, st, mm, pl, rows, F, Gn, C), ?_, RepM.mk hst hmm hrp⟩
            unfold failF
            rw [if_neg hb1, if_neg ho], ⟨by (try dsimp only); rw [ht2]; exact hP, by exact hD⟩⟩, hS.F ht2⟩) hS.2.2 dX5_fail_37
    · have ho : ¬ off = 0 := c14
      refine lv_iconst (v := 2) hx hb dX5_fail_17 (by decide) ?_
      refine lv_goto (tgt := 22) hx hb dX5_fail_18 (by decide) ?_
      refine va_put (D := D) (ci := 5) (v := .int 2) (ty := .int) (C := RX5) (T := TX5) (N := 17) hx hb ht inX5 tyX5 tyX5_ok nmX5 hown hK hP hD hS 0 rfl rfl 0 (by decide) (ht _ kw3_80) (fun _ h9 => h9) rfl (by decide +kernel) (rfl) rfl (Nat.le_of_ble_eq_true rfl) dX5_fail_22 (fun H locs hP hD hS => ?_)
      have hP : va_P D vwCl (mW cI cZ G 2 off left wr rc mem oth ks vs sx pl ps pk sr tg fl xs) H := hP
      have hD : va_D A (mW cI cZ G 2 off left wr rc mem oth ks vs sx pl ps pk sr tg fl xs) := hD
      refine lv_aload_n hx hb dX5_fail_25 rfl (lv_at hl 0 rfl) ?_
      refine va_get (D := D) (ci := 5) (v := .int 2) (C := RX5) (T := TX5) (N := 17) hx hb ht inX5 hown hK hP 0 rfl rfl 0 (by decide) (ht _ kw3_80) (fun _ h9 => h9) rfl dX5_fail_26 ?_
      refine lv_if_ne (tgt := 37) hx hb dX5_fail_29 (by decide) (fun c29 => ?_) (fun c29 => by first | exact absurd c29 (by decide) | exact absurd (by decide) c29)
      exact W.vret hx hb hr (fun t ht2 hW => ⟨⟨(2, off, left, wr, rc, mem, oth, ks, vs, sx, pl, ps, pk, sr, tg, fl, xs), rfl, by
            (try dsimp only)
            (try dsimp only)
            refine ⟨(off, left, wr, rc, st, mm, pl, rows, F, Gn, C), ?_, RepM.mk hst hmm hrp⟩
            unfold failF
            rw [if_neg hb1, if_pos ho], ⟨by (try dsimp only); rw [ht2]; exact hP, by exact hD⟩⟩, hS.F ht2⟩) hS.2.2 dX5_fail_37
  · have hb1 : n < -1 := Int32.not_le.mp c3
    refine lv_iconst (v := 1) hx hb dX5_fail_6 (by decide) ?_
    refine lv_goto (tgt := 22) hx hb dX5_fail_7 (by decide) ?_
    refine va_put (D := D) (ci := 5) (v := .int 1) (ty := .int) (C := RX5) (T := TX5) (N := 17) hx hb ht inX5 tyX5 tyX5_ok nmX5 hown hK hP hD hS 0 rfl rfl 0 (by decide) (ht _ kw3_80) (fun _ h9 => h9) rfl (by decide +kernel) (rfl) rfl (Nat.le_of_ble_eq_true rfl) dX5_fail_22 (fun H locs hP hD hS => ?_)
    have hP : va_P D vwCl (mW cI cZ G 1 off left wr rc mem oth ks vs sx pl ps pk sr tg fl xs) H := hP
    have hD : va_D A (mW cI cZ G 1 off left wr rc mem oth ks vs sx pl ps pk sr tg fl xs) := hD
    refine lv_aload_n hx hb dX5_fail_25 rfl (lv_at hl 0 rfl) ?_
    refine va_get (D := D) (ci := 5) (v := .int 1) (C := RX5) (T := TX5) (N := 17) hx hb ht inX5 hown hK hP 0 rfl rfl 0 (by decide) (ht _ kw3_80) (fun _ h9 => h9) rfl dX5_fail_26 ?_
    refine lv_if_ne (tgt := 37) hx hb dX5_fail_29 (by decide) (fun c29 => ?_) (fun c29 => by first | exact absurd c29 (by decide) | exact absurd (by decide) c29)
    exact W.vret hx hb hr (fun t ht2 hW => ⟨⟨(1, off, left, wr, rc, mem, oth, ks, vs, sx, pl, ps, pk, sr, tg, fl, xs), rfl, by
          (try dsimp only)
          (try dsimp only)
          refine ⟨(off, left, wr, rc, st, mm, pl, rows, F, Gn, C), ?_, RepM.mk hst hmm hrp⟩
          unfold failF
          rw [if_pos hb1], ⟨by (try dsimp only); rw [ht2]; exact hP, by exact hD⟩⟩, hS.F ht2⟩) hS.2.2 dX5_fail_37

/-- the first k states as recovery sets them -/
def rcX (fl xs : Nat → Int32) (k : Nat) : Nat → Int32 := fun j => if j < k then (if fl j = 0 then 1 else 3) else xs j
theorem rcX_0 (fl xs : Nat → Int32) : rcX fl xs 0 = xs := by funext j; unfold rcX; rw [if_neg (Nat.not_lt_zero _)]
theorem rcX_s (fl xs : Nat → Int32) (k : Nat) (x : Int32) (h : x = if fl k = 0 then 1 else 3) : upd (rcX fl xs k) k x = rcX fl xs (k + 1) := by
  funext j
  by_cases e : j = k
  · subst e; rw [pk_us]; unfold rcX; rw [if_pos (show j < j + 1 by omega), h]
  · rw [pk_un e]; unfold rcX
    by_cases c : j < k
    · rw [if_pos c, if_pos (show j < k + 1 by omega)]
    · rw [if_neg c, if_neg (show ¬ j < k + 1 by omega)]
theorem RP.rc {rows : List (Int32 × Nat × Nat)} {F Gn : Nat} {C : Bool} {ps : Int32} {pk sr tg fl xs : Nat → Int32} (h : RP rows F Gn C ps pk sr tg fl xs) : RP rows F 0 false ps pk sr tg fl (rcX fl xs rows.length) := by
  refine ⟨h.1, h.2.1, fun k hk => ⟨h.k hk, h.s hk, h.t hk, h.f hk, ?_⟩⟩
  unfold rcX sta
  rw [if_pos hk, h.f hk]
  by_cases c : k < F
  · rw [if_pos c, if_pos c, if_neg (by decide), if_neg (Nat.not_lt_zero _)]
  · rw [if_neg c, if_neg c, if_pos rfl, if_neg (fun q => absurd q.2 (by decide))]

set_option maxHeartbeats 4000000 in
set_option maxRecDepth 100000 in
theorem c_X5_recover (l : Launch) (D : va_G) (cI cZ cS cJ : ClassId) (sz : Nat) (G : Nat → Nat) (code off left wr rc : Int32) (mem oth ks vs sx : Nat → Int32) (pl ps : Int32) (pk sr tg fl xs : Nat → Int32) (st : Nat → List (Int32 × Int32)) (hst : RS st ks vs sx) (mm : Nat → Nat) (hmm : ∀ n, n < 8 → mem n = nI (mm n)) (hM : MM mm) (rows : List (Int32 × Nat × Nat)) (F Gn : Nat) (C : Bool) (hrp : RP rows F Gn C ps pk sr tg fl xs) (hsr : Srt (pkl rows)) (hpl : pl = 1 ∨ (pl = 0 ∧ rows = [])) (hp8 : P8 rows) (hoff : off = 0 ∨ off = 1) : Met l yX5_recover (Cond.code yX5_recover cX5_recover 3 (some .int) :: TB) ({ frames := 0, cells := 0, slots := 0, locals := 0 } : Room) (va_Pc [.ref (G 0)] (PB D (KT cI cZ cS cJ) (mW cI cZ G code off left wr rc mem oth ks vs sx pl ps pk sr tg fl xs) sz)) (va_Qi (fun r (u : MT) => ∃ σ, recF off left wr rc st mm pl rows F Gn C = (u.1, r, σ) ∧ RepM σ u) (fun (u : MT) t => va_P D vwCl (mWu cI cZ G u) t.heap ∧ va_D (va_A (mW cI cZ G code off left wr rc mem oth ks vs sx pl ps pk sr tg fl xs) sz) (mWu cI cZ G u)) (va_A (mW cI cZ G code off left wr rc mem oth ks vs sx pl ps pk sr tg fl xs) sz)) 0 0 (va_A (mW cI cZ G code off left wr rc mem oth ks vs sx pl ps pk sr tg fl xs) sz) := by
  refine Met.ofW (cc := cX5_recover) (maxL := 3) (ret := (some .int)) (by decide) rfl ?_
  intro p e s m args below meth c s₁ B hml hv
  obtain ⟨rfl, hsz, hP, hK, hD0⟩ := hv
  have hx := B.exec
  have hb := B.bytes
  have hr := B.returns
  have hts := atoms_spec (ws := (Cond.code yX5_recover cX5_recover 3 (some .int) :: TB)) B.pre
  have ht : ∀ w ∈ TB, w.before _ s = true := fun w h => hts w (List.mem_cons_of_mem _ h)
  have hown : s.vm.findClass RX5 = some m.cls := findClass_of_methodNamed B.named
  have hlocks := B.notSynchronized
  subst hsz
  have hD := hD0.self (sz := s.heap.size)
  generalize hAe : va_A (mW cI cZ G code off left wr rc mem oth ks vs sx pl ps pk sr tg fl xs) s.heap.size = A at hD ⊢
  have hA : ∀ q : Nat, s.heap.size ≤ q → A q := fun q h => by rw [← hAe]; exact Or.inr h
  have hS : va_S A s.heap s.heap [] := va_S.rf
  have hP : va_P D vwCl (mW cI cZ G code off left wr rc mem oth ks vs sx pl ps pk sr tg fl xs) s.heap := hP
  have hl := lv_entry ([.ref (G 0)]) (n := 3) (Nat.le_of_ble_eq_true rfl)
  rw [lg_entry_eq]
  generalize (lg_sl ([.ref (G 0)]) ++ List.replicate (3 - (lg_sl ([.ref (G 0)])).length) Slot.unset).toArray = ls at hl ⊢
  have hl : lv_has ls 3 [(0, .ref (G 0))] := hl
  refine lv_aload_n hx hb dX5_recover_0 rfl (lv_at hl 0 rfl) ?_
  refine lv_aload_n hx hb dX5_recover_1 rfl (lv_at hl 0 rfl) ?_
  refine va_get (D := D) (ci := 5) (v := .int off) (C := RX5) (T := TX5) (N := 17) hx hb ht inX5 hown hK hP 0 rfl rfl 1 (by decide) (ht _ kw3_81) (fun _ h9 => h9) rfl dX5_recover_2 ?_
  refine lv_if_eq (tgt := 12) hx hb dX5_recover_5 (by decide) (fun c5 => ?_) (fun c5 => ?_)
  · have ho : off = 0 := c5
    refine lv_iconst (v := 1) hx hb dX5_recover_12 (by decide) ?_
    refine va_put (D := D) (ci := 5) (v := .int 1) (ty := .int) (C := RX5) (T := TX5) (N := 17) hx hb ht inX5 tyX5 tyX5_ok nmX5 hown hK hP hD hS 0 rfl rfl 0 (by decide) (ht _ kw3_80) (fun _ h9 => h9) rfl (by decide +kernel) (rfl) rfl (Nat.le_of_ble_eq_true rfl) dX5_recover_13 (fun H locs hP hD hS => ?_)
    have hP : va_P D vwCl (mW cI cZ G 1 off left wr rc mem oth ks vs sx pl ps pk sr tg fl xs) H := hP
    have hD : va_D A (mW cI cZ G 1 off left wr rc mem oth ks vs sx pl ps pk sr tg fl xs) := hD
    refine lv_aload_n hx hb dX5_recover_16 rfl (lv_at hl 0 rfl) ?_
    refine va_get (D := D) (ci := 5) (v := .int 1) (C := RX5) (T := TX5) (N := 17) hx hb ht inX5 hown hK hP 0 rfl rfl 0 (by decide) (ht _ kw3_80) (fun _ h9 => h9) rfl dX5_recover_17 ?_
    refine lv_if_le (tgt := 25) hx hb dX5_recover_20 (by decide) (fun c20 => by first | exact absurd c20 (by decide) | exact absurd (by decide) c20) (fun c20 => ?_)
    refine lv_iconst (v := 0) hx hb dX5_recover_23 (by decide) ?_
    exact W.iret (v := 0) hx hb hr (fun t ht2 hW => ⟨⟨0, (1, off, left, wr, rc, mem, oth, ks, vs, sx, pl, ps, pk, sr, tg, fl, xs), rfl, by
          (try dsimp only)
          (try dsimp only)
          refine ⟨(off, left, wr, rc, st, mm, pl, rows, F, Gn, C), ?_, RepM.mk hst hmm hrp⟩
          unfold recF
          rw [if_pos ho], ⟨by (try dsimp only); rw [ht2]; exact hP, by exact hD⟩⟩, hS.F ht2⟩) hS.2.2 dX5_recover_24
  · have ho : ¬ off = 0 := c5
    refine lv_iconst (v := 0) hx hb dX5_recover_8 (by decide) ?_
    refine lv_goto (tgt := 13) hx hb dX5_recover_9 (by decide) ?_
    refine va_put (D := D) (ci := 5) (v := .int 0) (ty := .int) (C := RX5) (T := TX5) (N := 17) hx hb ht inX5 tyX5 tyX5_ok nmX5 hown hK hP hD hS 0 rfl rfl 0 (by decide) (ht _ kw3_80) (fun _ h9 => h9) rfl (by decide +kernel) (rfl) rfl (Nat.le_of_ble_eq_true rfl) dX5_recover_13 (fun H locs hP hD hS => ?_)
    have hP : va_P D vwCl (mW cI cZ G 0 off left wr rc mem oth ks vs sx pl ps pk sr tg fl xs) H := hP
    have hD : va_D A (mW cI cZ G 0 off left wr rc mem oth ks vs sx pl ps pk sr tg fl xs) := hD
    refine lv_aload_n hx hb dX5_recover_16 rfl (lv_at hl 0 rfl) ?_
    refine va_get (D := D) (ci := 5) (v := .int 0) (C := RX5) (T := TX5) (N := 17) hx hb ht inX5 hown hK hP 0 rfl rfl 0 (by decide) (ht _ kw3_80) (fun _ h9 => h9) rfl dX5_recover_17 ?_
    refine lv_if_le (tgt := 25) hx hb dX5_recover_20 (by decide) (fun c20 => ?_) (fun c20 => by first | exact absurd c20 (by decide) | exact absurd (by decide) c20)
    refine lv_aload_n hx hb dX5_recover_25 rfl (lv_at hl 0 rfl) ?_
    refine lv_iconst (v := 0) hx hb dX5_recover_26 (by decide) ?_
    refine va_put (D := D) (ci := 5) (v := .int 0) (ty := .boolean) (C := RX5) (T := TX5) (N := 17) hx hb ht inX5 tyX5 tyX5_ok nmX5 hown hK hP hD hS 0 rfl rfl 1 (by decide) (ht _ kw3_81) (fun _ h9 => h9) rfl (by decide +kernel) (by decide +kernel) rfl (Nat.le_of_ble_eq_true rfl) dX5_recover_27 (fun H locs hP hD hS => ?_)
    have hP : va_P D vwCl (mW cI cZ G 0 0 left wr rc mem oth ks vs sx pl ps pk sr tg fl xs) H := hP
    have hD : va_D A (mW cI cZ G 0 0 left wr rc mem oth ks vs sx pl ps pk sr tg fl xs) := hD
    refine lv_aload_n hx hb dX5_recover_30 rfl (lv_at hl 0 rfl) ?_
    refine lv_iconst (v := (-1)) hx hb dX5_recover_31 (by decide) ?_
    refine va_put (D := D) (ci := 5) (v := .int (-1)) (ty := .int) (C := RX5) (T := TX5) (N := 17) hx hb ht inX5 tyX5 tyX5_ok nmX5 hown hK hP hD hS 0 rfl rfl 2 (by decide) (ht _ kw3_82) (fun _ h9 => h9) rfl (by decide +kernel) (rfl) rfl (Nat.le_of_ble_eq_true rfl) dX5_recover_32 (fun H locs hP hD hS => ?_)
    have hP : va_P D vwCl (mW cI cZ G 0 0 (-1) wr rc mem oth ks vs sx pl ps pk sr tg fl xs) H := hP
    have hD : va_D A (mW cI cZ G 0 0 (-1) wr rc mem oth ks vs sx pl ps pk sr tg fl xs) := hD
    refine lv_iconst (v := 0) hx hb dX5_recover_35 (by decide) ?_
    refine lv_istore_n (lv' := [(1, .int 0), (0, .ref (G 0))]) hx hb dX5_recover_36 rfl hl (by decide) rfl (fun ls hl => ?_)
    refine lv_iconst (v := 0) hx hb dX5_recover_37 (by decide) ?_
    refine lv_istore_n (lv' := [(2, .int 0), (1, .int 0), (0, .ref (G 0))]) hx hb dX5_recover_38 rfl hl (by decide) rfl (fun ls hl => ?_)
    rw [← rcX_0 fl xs] at hP hD
    refine lpB (pc := 39) (ι := Nat × Int32) (fun z H locs k9 n9 ls => lv_has ls 3 [(2, .int (nI z.1)), (1, .int z.2), (0, .ref (G 0))] ∧ va_P D vwCl (mW cI cZ G 0 0 (-1) wr rc mem oth ks vs sx pl ps pk sr tg fl (rcX fl xs z.1)) H ∧ va_D A (mW cI cZ G 0 0 (-1) wr rc mem oth ks vs sx pl ps pk sr tg fl (rcX fl xs z.1)) ∧ va_S A s.heap H locs ∧ k9 = 0 ∧ n9 = 0 ∧ z.1 ≤ rows.length ∧ z.2 = nI (z.1 - F)) (fun z => rows.length - z.1) (0, 0) (⟨lv_sub hl [0, 1, 2] rfl, by exact hP, by exact hD, hS, rfl, rfl, ⟨Nat.zero_le _, by rw [Nat.zero_sub]; rfl⟩⟩) ?_
    intro z H locs k9 n9 ls hI ih39
    obtain ⟨k, acc⟩ := z
    obtain ⟨hl, hP, hD, hS, e9, e8, hinv⟩ := hI
    subst e9
    subst e8
    have hP : va_P D vwCl (mW cI cZ G 0 0 (-1) wr rc mem oth ks vs sx pl ps pk sr tg fl (rcX fl xs k)) H := hP
    have hD : va_D A (mW cI cZ G 0 0 (-1) wr rc mem oth ks vs sx pl ps pk sr tg fl (rcX fl xs k)) := hD
    have hl : lv_has ls 3 [(2, .int (nI k)), (1, .int acc), (0, .ref (G 0))] := hl
    obtain ⟨hkl, hacc⟩ : k ≤ rows.length ∧ acc = nI (k - F) := hinv
    have hps := hrp.sz
    have hle := hrp.le
    refine lv_iload_n hx hb dX5_recover_39 rfl (lv_at hl 0 rfl) ?_
    refine lv_aload_n hx hb dX5_recover_40 rfl (lv_at hl 2 rfl) ?_
    refine va_get (D := D) (ci := 5) (v := .int ps) (C := RX5) (T := TX5) (N := 17) hx hb ht inX5 hown hK hP 0 rfl rfl 11 (by decide) (ht _ kw3_91) (fun _ h9 => h9) rfl dX5_recover_41 ?_
    refine lv_icmp_ge (tgt := 90) hx hb dX5_recover_44 (by decide) (fun c44 => ?_) (fun c44 => ?_)
    · have hke : k = rows.length := by
        rcases Nat.lt_or_ge k rows.length with q | q
        · rw [hps] at c44; exact absurd c44 (nI_ge q (by omega))
        · omega
      refine lv_aload_n hx hb dX5_recover_90 rfl (lv_at hl 2 rfl) ?_
      refine va_get (D := D) (ci := 5) (v := .int pl) (C := RX5) (T := TX5) (N := 17) hx hb ht inX5 hown hK hP 0 rfl rfl 10 (by decide) (ht _ kw3_90) (fun _ h9 => h9) rfl dX5_recover_91 ?_
      refine lv_if_eq (tgt := 101) hx hb dX5_recover_94 (by decide) (fun c94 => ?_) (fun c94 => ?_)
      · refine lv_iconst (v := (-1)) hx hb dX5_recover_101 (by decide) ?_
        exact W.iret (v := (-1)) hx hb hr (fun t ht2 hW => ⟨⟨(-1), (0, 0, (-1), wr, rc, mem, oth, ks, vs, sx, pl, ps, pk, sr, tg, fl, rcX fl xs k), rfl, by
              (try dsimp only)
              (try dsimp only)
              refine ⟨(0, -1, wr, rc, st, mm, pl, rows, F, 0, false), ?_, RepM.mk hst hmm (by rw [hke]; exact hrp.rc)⟩
              unfold recF
              rw [if_neg ho]
              first | rw [if_neg c94, hacc, hke] | rw [if_pos c94], ⟨by (try dsimp only); rw [ht2]; exact hP, by exact hD⟩⟩, hS.F ht2⟩) hS.2.2 dX5_recover_102
      · refine lv_iload_n hx hb dX5_recover_97 rfl (lv_at hl 1 rfl) ?_
        refine lv_goto (tgt := 102) hx hb dX5_recover_98 (by decide) ?_
        exact W.iret (v := acc) hx hb hr (fun t ht2 hW => ⟨⟨acc, (0, 0, (-1), wr, rc, mem, oth, ks, vs, sx, pl, ps, pk, sr, tg, fl, rcX fl xs k), rfl, by
              (try dsimp only)
              (try dsimp only)
              refine ⟨(0, -1, wr, rc, st, mm, pl, rows, F, 0, false), ?_, RepM.mk hst hmm (by rw [hke]; exact hrp.rc)⟩
              unfold recF
              rw [if_neg ho]
              first | rw [if_neg c94, hacc, hke] | rw [if_pos c94], ⟨by (try dsimp only); rw [ht2]; exact hP, by exact hD⟩⟩, hS.F ht2⟩) hS.2.2 dX5_recover_102
    · have hk : k < rows.length := by
        rcases Nat.lt_or_ge k rows.length with q | q
        · exact q
        · exact absurd (by rw [hps]; exact nI_le q (by omega)) c44
      refine lv_aload_n hx hb dX5_recover_47 rfl (lv_at hl 2 rfl) ?_
      refine va_get (D := D) (ci := 5) (v := .ref (G 10)) (C := RX5) (T := TX5) (N := 17) hx hb ht inX5 hown hK hP 0 rfl rfl 16 (by decide) (ht _ kw3_96) (fun _ h9 => h9) rfl dX5_recover_48 ?_
      refine lv_iload_n hx hb dX5_recover_51 rfl (lv_at hl 0 rfl) ?_
      refine lv_aload_n hx hb dX5_recover_52 rfl (lv_at hl 2 rfl) ?_
      refine va_get (D := D) (ci := 5) (v := .ref (G 9)) (C := RX5) (T := TX5) (N := 17) hx hb ht inX5 hown hK hP 0 rfl rfl 15 (by decide) (ht _ kw3_95) (fun _ h9 => h9) rfl dX5_recover_53 ?_
      refine lv_iload_n hx hb dX5_recover_56 rfl (lv_at hl 0 rfl) ?_
      refine ya_zald hx hb hK hP 9 1 rfl rfl k (rfl) (by omega) (by decide) dX5_recover_57 ?_
      refine lv_if_eq (tgt := 65) hx hb dX5_recover_58 (by decide) (fun c58 => ?_) (fun c58 => ?_)
      · refine lv_iconst (v := 1) hx hb dX5_recover_65 (by decide) ?_
        refine ya_iast hx hb hK hP hD hS 10 0 rfl rfl k (rfl) (by omega) (by decide) dX5_recover_66 (fun H locs hP hD hS => ?_)
        have hP : va_P D vwCl (mW cI cZ G 0 0 (-1) wr rc mem oth ks vs sx pl ps pk sr tg fl (upd (rcX fl xs k) k 1)) H := hP
        have hD : va_D A (mW cI cZ G 0 0 (-1) wr rc mem oth ks vs sx pl ps pk sr tg fl (upd (rcX fl xs k) k 1)) := hD
        refine lv_aload_n hx hb dX5_recover_67 rfl (lv_at hl 2 rfl) ?_
        refine va_get (D := D) (ci := 5) (v := .ref (G 9)) (C := RX5) (T := TX5) (N := 17) hx hb ht inX5 hown hK hP 0 rfl rfl 15 (by decide) (ht _ kw3_95) (fun _ h9 => h9) rfl dX5_recover_68 ?_
        refine lv_iload_n hx hb dX5_recover_71 rfl (lv_at hl 0 rfl) ?_
        refine ya_zald hx hb hK hP 9 1 rfl rfl k (rfl) (by omega) (by decide) dX5_recover_72 ?_
        refine lv_if_eq (tgt := 80) hx hb dX5_recover_73 (by decide) (fun c73 => ?_) (fun c73 => ?_)
        · refine lv_iload_n hx hb dX5_recover_80 rfl (lv_at hl 1 rfl) ?_
          refine lv_iconst (v := 1) hx hb dX5_recover_81 (by decide) ?_
          refine lv_iadd hx hb dX5_recover_82 ?_
          refine lv_istore_n (lv' := [(1, .int (acc + 1)), (2, .int (nI k)), (0, .ref (G 0))]) hx hb dX5_recover_83 rfl hl (by decide) rfl (fun ls hl => ?_)
          refine lv_iinc (v := nI (k + 1)) (lv' := [(2, .int (nI (k + 1))), (1, .int (acc + 1)), (0, .ref (G 0))]) hx hb dX5_recover_84 hl (k := 1) rfl (by exact nI_1 k) (by decide) rfl (fun ls hl => ?_)
          refine lv_goto (tgt := 39) hx hb dX5_recover_87 (by decide) ?_
          rw [rcX_s fl xs k _ (by first | rw [if_pos c58] | rw [if_neg c58])] at hP hD
          exact ih39 (k + 1, acc + 1) _ _ _ _ ls (⟨lv_sub hl [0, 1, 2] rfl, by exact hP, by exact hD, hS, rfl, rfl, ⟨by omega, by
                (try dsimp only)
                rw [hacc, nI_1]
                congr 1
                have hfk := hrp.f hk
                first | (have hkF : k < F := Decidable.byContradiction (fun q => c73 (by rw [hfk, if_neg q])); omega) | (have hkF : ¬ k < F := (fun q => absurd c73 (by rw [hfk, if_pos q]; decide)); omega)⟩⟩) (by show _ - (k + 1) < _ - k; omega)
        · refine lv_iload_n hx hb dX5_recover_76 rfl (lv_at hl 1 rfl) ?_
          refine lv_goto (tgt := 83) hx hb dX5_recover_77 (by decide) ?_
          refine lv_istore_n (lv' := [(1, .int acc), (2, .int (nI k)), (0, .ref (G 0))]) hx hb dX5_recover_83 rfl hl (by decide) rfl (fun ls hl => ?_)
          refine lv_iinc (v := nI (k + 1)) (lv' := [(2, .int (nI (k + 1))), (1, .int acc), (0, .ref (G 0))]) hx hb dX5_recover_84 hl (k := 1) rfl (by exact nI_1 k) (by decide) rfl (fun ls hl => ?_)
          refine lv_goto (tgt := 39) hx hb dX5_recover_87 (by decide) ?_
          rw [rcX_s fl xs k _ (by first | rw [if_pos c58] | rw [if_neg c58])] at hP hD
          exact ih39 (k + 1, acc) _ _ _ _ ls (⟨lv_sub hl [0, 1, 2] rfl, by exact hP, by exact hD, hS, rfl, rfl, ⟨by omega, by
                (try dsimp only)
                rw [hacc]
                congr 1
                have hfk := hrp.f hk
                first | (have hkF : k < F := Decidable.byContradiction (fun q => c73 (by rw [hfk, if_neg q])); omega) | (have hkF : ¬ k < F := (fun q => absurd c73 (by rw [hfk, if_pos q]; decide)); omega)⟩⟩) (by show _ - (k + 1) < _ - k; omega)
      · refine lv_iconst (v := 3) hx hb dX5_recover_61 (by decide) ?_
        refine lv_goto (tgt := 66) hx hb dX5_recover_62 (by decide) ?_
        refine ya_iast hx hb hK hP hD hS 10 0 rfl rfl k (rfl) (by omega) (by decide) dX5_recover_66 (fun H locs hP hD hS => ?_)
        have hP : va_P D vwCl (mW cI cZ G 0 0 (-1) wr rc mem oth ks vs sx pl ps pk sr tg fl (upd (rcX fl xs k) k 3)) H := hP
        have hD : va_D A (mW cI cZ G 0 0 (-1) wr rc mem oth ks vs sx pl ps pk sr tg fl (upd (rcX fl xs k) k 3)) := hD
        refine lv_aload_n hx hb dX5_recover_67 rfl (lv_at hl 2 rfl) ?_
        refine va_get (D := D) (ci := 5) (v := .ref (G 9)) (C := RX5) (T := TX5) (N := 17) hx hb ht inX5 hown hK hP 0 rfl rfl 15 (by decide) (ht _ kw3_95) (fun _ h9 => h9) rfl dX5_recover_68 ?_
        refine lv_iload_n hx hb dX5_recover_71 rfl (lv_at hl 0 rfl) ?_
        refine ya_zald hx hb hK hP 9 1 rfl rfl k (rfl) (by omega) (by decide) dX5_recover_72 ?_
        refine lv_if_eq (tgt := 80) hx hb dX5_recover_73 (by decide) (fun c73 => ?_) (fun c73 => ?_)
        · refine lv_iload_n hx hb dX5_recover_80 rfl (lv_at hl 1 rfl) ?_
          refine lv_iconst (v := 1) hx hb dX5_recover_81 (by decide) ?_
          refine lv_iadd hx hb dX5_recover_82 ?_
          refine lv_istore_n (lv' := [(1, .int (acc + 1)), (2, .int (nI k)), (0, .ref (G 0))]) hx hb dX5_recover_83 rfl hl (by decide) rfl (fun ls hl => ?_)
          refine lv_iinc (v := nI (k + 1)) (lv' := [(2, .int (nI (k + 1))), (1, .int (acc + 1)), (0, .ref (G 0))]) hx hb dX5_recover_84 hl (k := 1) rfl (by exact nI_1 k) (by decide) rfl (fun ls hl => ?_)
          refine lv_goto (tgt := 39) hx hb dX5_recover_87 (by decide) ?_
          rw [rcX_s fl xs k _ (by first | rw [if_pos c58] | rw [if_neg c58])] at hP hD
          exact ih39 (k + 1, acc + 1) _ _ _ _ ls (⟨lv_sub hl [0, 1, 2] rfl, by exact hP, by exact hD, hS, rfl, rfl, ⟨by omega, by
                (try dsimp only)
                rw [hacc, nI_1]
                congr 1
                have hfk := hrp.f hk
                first | (have hkF : k < F := Decidable.byContradiction (fun q => c73 (by rw [hfk, if_neg q])); omega) | (have hkF : ¬ k < F := (fun q => absurd c73 (by rw [hfk, if_pos q]; decide)); omega)⟩⟩) (by show _ - (k + 1) < _ - k; omega)
        · refine lv_iload_n hx hb dX5_recover_76 rfl (lv_at hl 1 rfl) ?_
          refine lv_goto (tgt := 83) hx hb dX5_recover_77 (by decide) ?_
          refine lv_istore_n (lv' := [(1, .int acc), (2, .int (nI k)), (0, .ref (G 0))]) hx hb dX5_recover_83 rfl hl (by decide) rfl (fun ls hl => ?_)
          refine lv_iinc (v := nI (k + 1)) (lv' := [(2, .int (nI (k + 1))), (1, .int acc), (0, .ref (G 0))]) hx hb dX5_recover_84 hl (k := 1) rfl (by exact nI_1 k) (by decide) rfl (fun ls hl => ?_)
          refine lv_goto (tgt := 39) hx hb dX5_recover_87 (by decide) ?_
          rw [rcX_s fl xs k _ (by first | rw [if_pos c58] | rw [if_neg c58])] at hP hD
          exact ih39 (k + 1, acc) _ _ _ _ ls (⟨lv_sub hl [0, 1, 2] rfl, by exact hP, by exact hD, hS, rfl, rfl, ⟨by omega, by
                (try dsimp only)
                rw [hacc]
                congr 1
                have hfk := hrp.f hk
                first | (have hkF : k < F := Decidable.byContradiction (fun q => c73 (by rw [hfk, if_neg q])); omega) | (have hkF : ¬ k < F := (fun q => absurd c73 (by rw [hfk, if_pos q]; decide)); omega)⟩⟩) (by show _ - (k + 1) < _ - k; omega)
