-- the reference: movePlan, begin, change, join, leave
theorem shP_s (f : Nat → Int32) {i len : Nat} (h : 0 < i) (h2 : i ≤ len) : upd (shR f 0 i len) i (shR f 0 i len (i - 1)) = shR f 0 (i - 1) len := by
  have q := shR_s f (b := 0) h h2
  rw [Nat.zero_add] at q
  exact q
theorem shP_at (f : Nat → Int32) {i len : Nat} (h : 0 < i) : shR f 0 i len (i - 1) = f (i - 1) := by unfold shR; rw [if_neg (by omega)]
theorem nI_m1 {a : Nat} (h : 0 < a) : nI a - 1 = nI (a - 1) := by rw [show (1 : Int32) = nI 1 from rfl, pk_sub (by omega)]
/-- the first k places hold x -/
def fil (f : Nat → Int32) (x : Int32) (k : Nat) : Nat → Int32 := fun j => if j < k then x else f j
theorem fil_0 (f : Nat → Int32) (x : Int32) : fil f x 0 = f := by funext j; unfold fil; rw [if_neg (Nat.not_lt_zero _)]
theorem fil_s (f : Nat → Int32) (x : Int32) (k : Nat) : upd (fil f x k) k x = fil f x (k + 1) := by
  funext j
  by_cases e : j = k
  · subst e; rw [pk_us]; unfold fil; rw [if_pos (by omega)]
  · rw [pk_un e]; unfold fil
    by_cases c : j < k
    · rw [if_pos c, if_pos (show j < k + 1 by omega)]
    · rw [if_neg c, if_neg (show ¬ j < k + 1 by omega)]
/-- the place that the reference finds for a new key is its rank -/
theorem prow_of {rows : List (Int32 × Nat × Nat)} {key : Int32} {a : Nat} (hsr : Srt (pkl rows)) (hno : ¬ pin rows key = true) (h1 : a ≤ rows.length) (h2 : ∀ j, a ≤ j → j < rows.length → key < pK rows j) (h3 : 0 < a → pK rows (a - 1) ≤ key) : a = prow rows key := by
  refine rk_eq (by rw [pkl_len]; exact h1) (fun j hj => ?_) (fun hl => ?_)
  · have hlast : kx (pkl rows) (a - 1) < key := by
      rw [pkl_kx]
      rcases Int32.lt_or_eq_of_le (h3 (by omega)) with q | q
      · exact q
      · exact absurd (prow_at hsr (by omega) q).1 hno
    rcases Nat.lt_or_ge j (a - 1) with q | q
    · exact Int32.lt_trans (hsr j (a - 1) q (by rw [pkl_len]; omega)) hlast
    · rw [show j = a - 1 by omega]; exact hlast
  · rw [pkl_len] at hl
    rw [pkl_kx]
    exact fun q => Int32.lt_irrefl (Int32.lt_trans q (h2 a (Nat.le_refl _) hl))
theorem plUp_RP {rows : List (Int32 × Nat × Nat)} {pk sr tg fl xs : Nat → Int32} (h : RQ rows pk sr tg) (hl : rows.length ≤ 256) : RP rows 0 0 false (nI rows.length) pk sr tg (fil fl 0 rows.length) (fil xs 1 rows.length) := by
  refine ⟨rfl, hl, fun k hk => ⟨(h k hk).1, (h k hk).2.1, (h k hk).2.2, ?_, ?_⟩⟩
  · unfold fil; rw [if_pos hk, if_neg (Nat.not_lt_zero _)]
  · unfold fil sta; rw [if_pos hk, if_neg (Nat.not_lt_zero _), if_neg (fun q => absurd q.2 (by decide))]

set_option maxHeartbeats 4000000 in
set_option maxRecDepth 100000 in
theorem c_X5_movePlan (l : Launch) (D : va_G) (cI cZ cS cJ : ClassId) (sz : Nat) (G : Nat → Nat) (code off left wr rc : Int32) (mem oth ks vs sx : Nat → Int32) (pl ps : Int32) (pk sr tg fl xs : Nat → Int32) (f t9 : Nat) (hf : f < 256) (h256t : t9 < 256) : Met l yX5_movePlan (Cond.code yX5_movePlan cX5_movePlan 3 none :: TB) ({ frames := 0, cells := 0, slots := 0, locals := 0 } : Room) (va_Pc [.ref (G 0), .int (nI f), .int (nI t9)] (PB D (KT cI cZ cS cJ) (mW cI cZ G code off left wr rc mem oth ks vs sx pl ps pk sr tg fl xs) sz)) (va_Qv (fun (_ : Unit) => True) (fun (u : Unit) t => va_P D vwCl (mW cI cZ G code off left wr rc mem oth ks vs sx pl ps (upd pk t9 (pk f)) (upd sr t9 (sr f)) (upd tg t9 (tg f)) fl xs) t.heap ∧ va_D (va_A (mW cI cZ G code off left wr rc mem oth ks vs sx pl ps pk sr tg fl xs) sz) (mW cI cZ G code off left wr rc mem oth ks vs sx pl ps (upd pk t9 (pk f)) (upd sr t9 (sr f)) (upd tg t9 (tg f)) fl xs)) (va_A (mW cI cZ G code off left wr rc mem oth ks vs sx pl ps pk sr tg fl xs) sz)) 0 0 (va_A (mW cI cZ G code off left wr rc mem oth ks vs sx pl ps pk sr tg fl xs) sz) := by
  refine Met.ofW (cc := cX5_movePlan) (maxL := 3) (ret := none) (by decide) rfl ?_
  intro p e s m args below meth c s₁ B hml hv
  obtain ⟨rfl, hsz, hP, hK, hD0⟩ := hv
  have hx := B.exec
  have hb := B.bytes
  have hr := B.returns
  have hts := atoms_spec (ws := (Cond.code yX5_movePlan cX5_movePlan 3 none :: TB)) B.pre
  have ht : ∀ w ∈ TB, w.before _ s = true := fun w h => hts w (List.mem_cons_of_mem _ h)
  have hown : s.vm.findClass RX5 = some m.cls := findClass_of_methodNamed B.named
  have hlocks := B.notSynchronized
  subst hsz
  have hD := hD0.self (sz := s.heap.size)
  generalize hAe : va_A (mW cI cZ G code off left wr rc mem oth ks vs sx pl ps pk sr tg fl xs) s.heap.size = A at hD ⊢
  have hA : ∀ q : Nat, s.heap.size ≤ q → A q := fun q h => by rw [← hAe]; exact Or.inr h
  have hS : va_S A s.heap s.heap [] := va_S.rf
  have hP : va_P D vwCl (mW cI cZ G code off left wr rc mem oth ks vs sx pl ps pk sr tg fl xs) s.heap := hP
  have hl := lv_entry ([.ref (G 0), .int (nI f), .int (nI t9)]) (n := 3) (Nat.le_of_ble_eq_true rfl)
  rw [lg_entry_eq]
  generalize (lg_sl ([.ref (G 0), .int (nI f), .int (nI t9)]) ++ List.replicate (3 - (lg_sl ([.ref (G 0), .int (nI f), .int (nI t9)])).length) Slot.unset).toArray = ls at hl ⊢
  have hl : lv_has ls 3 [(0, .ref (G 0)), (1, .int (nI f)), (2, .int (nI t9))] := hl
  refine lv_aload_n hx hb dX5_movePlan_0 rfl (lv_at hl 0 rfl) ?_
  refine va_get (D := D) (ci := 5) (v := .ref (G 6)) (C := RX5) (T := TX5) (N := 17) hx hb ht inX5 hown hK hP 0 rfl rfl 12 (by decide) (ht _ kw3_92) (fun _ h9 => h9) rfl dX5_movePlan_1 ?_
  refine lv_iload_n hx hb dX5_movePlan_4 rfl (lv_at hl 2 rfl) ?_
  refine lv_aload_n hx hb dX5_movePlan_5 rfl (lv_at hl 0 rfl) ?_
  refine va_get (D := D) (ci := 5) (v := .ref (G 6)) (C := RX5) (T := TX5) (N := 17) hx hb ht inX5 hown hK hP 0 rfl rfl 12 (by decide) (ht _ kw3_92) (fun _ h9 => h9) rfl dX5_movePlan_6 ?_
  refine lv_iload_n hx hb dX5_movePlan_9 rfl (lv_at hl 1 rfl) ?_
  refine ya_iald hx hb hK hP 6 0 rfl rfl f (rfl) (by omega) (by decide) dX5_movePlan_10 ?_
  refine ya_iast hx hb hK hP hD hS 6 0 rfl rfl t9 (rfl) (by omega) (by decide) dX5_movePlan_11 (fun H locs hP hD hS => ?_)
  have hP : va_P D vwCl (mW cI cZ G code off left wr rc mem oth ks vs sx pl ps (upd pk t9 (pk f)) sr tg fl xs) H := hP
  have hD : va_D A (mW cI cZ G code off left wr rc mem oth ks vs sx pl ps (upd pk t9 (pk f)) sr tg fl xs) := hD
  refine lv_aload_n hx hb dX5_movePlan_12 rfl (lv_at hl 0 rfl) ?_
  refine va_get (D := D) (ci := 5) (v := .ref (G 7)) (C := RX5) (T := TX5) (N := 17) hx hb ht inX5 hown hK hP 0 rfl rfl 13 (by decide) (ht _ kw3_93) (fun _ h9 => h9) rfl dX5_movePlan_13 ?_
  refine lv_iload_n hx hb dX5_movePlan_16 rfl (lv_at hl 2 rfl) ?_
  refine lv_aload_n hx hb dX5_movePlan_17 rfl (lv_at hl 0 rfl) ?_
  refine va_get (D := D) (ci := 5) (v := .ref (G 7)) (C := RX5) (T := TX5) (N := 17) hx hb ht inX5 hown hK hP 0 rfl rfl 13 (by decide) (ht _ kw3_93) (fun _ h9 => h9) rfl dX5_movePlan_18 ?_
  refine lv_iload_n hx hb dX5_movePlan_21 rfl (lv_at hl 1 rfl) ?_
  refine ya_iald hx hb hK hP 7 0 rfl rfl f (rfl) (by omega) (by decide) dX5_movePlan_22 ?_
  refine ya_iast hx hb hK hP hD hS 7 0 rfl rfl t9 (rfl) (by omega) (by decide) dX5_movePlan_23 (fun H locs hP hD hS => ?_)
  have hP : va_P D vwCl (mW cI cZ G code off left wr rc mem oth ks vs sx pl ps (upd pk t9 (pk f)) (upd sr t9 (sr f)) tg fl xs) H := hP
  have hD : va_D A (mW cI cZ G code off left wr rc mem oth ks vs sx pl ps (upd pk t9 (pk f)) (upd sr t9 (sr f)) tg fl xs) := hD
  refine lv_aload_n hx hb dX5_movePlan_24 rfl (lv_at hl 0 rfl) ?_
  refine va_get (D := D) (ci := 5) (v := .ref (G 8)) (C := RX5) (T := TX5) (N := 17) hx hb ht inX5 hown hK hP 0 rfl rfl 14 (by decide) (ht _ kw3_94) (fun _ h9 => h9) rfl dX5_movePlan_25 ?_
  refine lv_iload_n hx hb dX5_movePlan_28 rfl (lv_at hl 2 rfl) ?_
  refine lv_aload_n hx hb dX5_movePlan_29 rfl (lv_at hl 0 rfl) ?_
  refine va_get (D := D) (ci := 5) (v := .ref (G 8)) (C := RX5) (T := TX5) (N := 17) hx hb ht inX5 hown hK hP 0 rfl rfl 14 (by decide) (ht _ kw3_94) (fun _ h9 => h9) rfl dX5_movePlan_30 ?_
  refine lv_iload_n hx hb dX5_movePlan_33 rfl (lv_at hl 1 rfl) ?_
  refine ya_iald hx hb hK hP 8 0 rfl rfl f (rfl) (by omega) (by decide) dX5_movePlan_34 ?_
  refine ya_iast hx hb hK hP hD hS 8 0 rfl rfl t9 (rfl) (by omega) (by decide) dX5_movePlan_35 (fun H locs hP hD hS => ?_)
  have hP : va_P D vwCl (mW cI cZ G code off left wr rc mem oth ks vs sx pl ps (upd pk t9 (pk f)) (upd sr t9 (sr f)) (upd tg t9 (tg f)) fl xs) H := hP
  have hD : va_D A (mW cI cZ G code off left wr rc mem oth ks vs sx pl ps (upd pk t9 (pk f)) (upd sr t9 (sr f)) (upd tg t9 (tg f)) fl xs) := hD
  exact W.vret hx hb hr (fun t ht2 hW => ⟨⟨(), rfl, trivial, ⟨by (try dsimp only); rw [ht2]; exact hP, by exact hD⟩⟩, hS.F ht2⟩) hS.2.2 dX5_movePlan_36

set_option maxHeartbeats 4000000 in
set_option maxRecDepth 100000 in
theorem c_X5_begin (l : Launch) (D : va_G) (cI cZ cS cJ : ClassId) (sz : Nat) (G : Nat → Nat) (code off left wr rc : Int32) (mem oth ks vs sx : Nat → Int32) (pl ps : Int32) (pk sr tg fl xs : Nat → Int32) (st : Nat → List (Int32 × Int32)) (hst : RS st ks vs sx) (mm : Nat → Nat) (hmm : ∀ n, n < 8 → mem n = nI (mm n)) (hM : MM mm) (mo : Nat → Nat) (hmo : ∀ n, n < 8 → oth n = nI (mo n)) (hMo : MM mo) (hss : ∀ n, n < 8 → Srt (st n)) (hv : OW st (ownK mm)) (h256 : (plUp st (ownK mo) 8).length ≤ 256) : Met l yX5_begin (Cond.code yX5_begin cX5_begin 7 (some .int) :: TB) ({ frames := 3, cells := 0, slots := 0, locals := 73 } : Room) (va_Pc [.ref (G 0)] (PB D (KT cI cZ cS cJ) (mW cI cZ G code off left wr rc mem oth ks vs sx pl ps pk sr tg fl xs) sz)) (va_Qi (fun r (u : (Nat → Int32) × (Nat → Int32) × (Nat → Int32) × (Nat → Int32) × (Nat → Int32)) => r = nI (plUp st (ownK mo) 8).length ∧ RP (plUp st (ownK mo) 8) 0 0 false (nI (plUp st (ownK mo) 8).length) u.1 u.2.1 u.2.2.1 u.2.2.2.1 u.2.2.2.2) (fun (u : (Nat → Int32) × (Nat → Int32) × (Nat → Int32) × (Nat → Int32) × (Nat → Int32)) t => va_P D vwCl (mW cI cZ G code off left wr rc mem oth ks vs sx pl ps u.1 u.2.1 u.2.2.1 u.2.2.2.1 u.2.2.2.2) t.heap ∧ va_D (va_A (mW cI cZ G code off left wr rc mem oth ks vs sx pl ps pk sr tg fl xs) sz) (mW cI cZ G code off left wr rc mem oth ks vs sx pl ps u.1 u.2.1 u.2.2.1 u.2.2.2.1 u.2.2.2.2)) (va_A (mW cI cZ G code off left wr rc mem oth ks vs sx pl ps pk sr tg fl xs) sz)) 0 0 (va_A (mW cI cZ G code off left wr rc mem oth ks vs sx pl ps pk sr tg fl xs) sz) := by
  refine Met.ofW (cc := cX5_begin) (maxL := 7) (ret := (some .int)) (by decide) rfl ?_
  intro p e s m args below meth c s₁ B hml hv
  obtain ⟨rfl, hsz, hP, hK, hD0⟩ := hv
  have hx := B.exec
  have hb := B.bytes
  have hr := B.returns
  have hts := atoms_spec (ws := (Cond.code yX5_begin cX5_begin 7 (some .int) :: TB)) B.pre
  have ht : ∀ w ∈ TB, w.before _ s = true := fun w h => hts w (List.mem_cons_of_mem _ h)
  have hown : s.vm.findClass RX5 = some m.cls := findClass_of_methodNamed B.named
  have hlocks := B.notSynchronized
  subst hsz
  have hD := hD0.self (sz := s.heap.size)
  generalize hAe : va_A (mW cI cZ G code off left wr rc mem oth ks vs sx pl ps pk sr tg fl xs) s.heap.size = A at hD ⊢
  have hA : ∀ q : Nat, s.heap.size ≤ q → A q := fun q h => by rw [← hAe]; exact Or.inr h
  have hS : va_S A s.heap s.heap [] := va_S.rf
  have hP : va_P D vwCl (mW cI cZ G code off left wr rc mem oth ks vs sx pl ps pk sr tg fl xs) s.heap := hP
  have hl := lv_entry ([.ref (G 0)]) (n := 7) (Nat.le_of_ble_eq_true rfl)
  rw [lg_entry_eq]
  generalize (lg_sl ([.ref (G 0)]) ++ List.replicate (7 - (lg_sl ([.ref (G 0)])).length) Slot.unset).toArray = ls at hl ⊢
  have hl : lv_has ls 7 [(0, .ref (G 0))] := hl
  refine lv_iconst (v := 0) hx hb dX5_begin_0 (by decide) ?_
  refine lv_istore_n (lv' := [(1, .int 0), (0, .ref (G 0))]) hx hb dX5_begin_1 rfl hl (by decide) rfl (fun ls hl => ?_)
  refine lv_iconst (v := 0) hx hb dX5_begin_2 (by decide) ?_
  refine lv_istore_n (lv' := [(2, .int 0), (1, .int 0), (0, .ref (G 0))]) hx hb dX5_begin_3 rfl hl (by decide) rfl (fun ls hl => ?_)
  refine lpB (pc := 4) (ι := Nat × (Nat → Int32) × (Nat → Int32) × (Nat → Int32)) (fun z H locs k9 n9 ls => lv_has ls 7 [(2, .int (nI z.1)), (1, .int (nI (plUp st (ownK mo) z.1).length)), (0, .ref (G 0))] ∧ va_P D vwCl (mW cI cZ G code off left wr rc mem oth ks vs sx pl ps z.2.1 z.2.2.1 z.2.2.2 fl xs) H ∧ va_D A (mW cI cZ G code off left wr rc mem oth ks vs sx pl ps z.2.1 z.2.2.1 z.2.2.2 fl xs) ∧ va_S A s.heap H locs ∧ k9 = 0 ∧ n9 = 0 ∧ z.1 ≤ 8 ∧ RQ (plUp st (ownK mo) z.1) z.2.1 z.2.2.1 z.2.2.2) (fun z => 8 - z.1) (0, pk, sr, tg) (⟨lv_sub hl [0, 1, 2] rfl, by exact hP, by exact hD, hS, rfl, rfl, ⟨by omega, fun k hk => absurd hk (Nat.not_lt_zero _)⟩⟩) ?_
  intro z H locs k9 n9 ls hI ih4
  obtain ⟨n, pk1, sr1, tg1⟩ := z
  obtain ⟨hl, hP, hD, hS, e9, e8, hinv⟩ := hI
  subst e9
  subst e8
  have hP : va_P D vwCl (mW cI cZ G code off left wr rc mem oth ks vs sx pl ps pk1 sr1 tg1 fl xs) H := hP
  have hD : va_D A (mW cI cZ G code off left wr rc mem oth ks vs sx pl ps pk1 sr1 tg1 fl xs) := hD
  have hl : lv_has ls 7 [(2, .int (nI n)), (1, .int (nI (plUp st (ownK mo) n).length)), (0, .ref (G 0))] := hl
  obtain ⟨hn8, hRQ⟩ : n ≤ 8 ∧ RQ (plUp st (ownK mo) n) pk1 sr1 tg1 := hinv
  refine lv_iload_n hx hb dX5_begin_4 rfl (lv_at hl 0 rfl) ?_
  refine lv_bipush (v := 8) hx hb dX5_begin_5 (by decide) ?_
  refine lv_icmp_ge (tgt := 165) hx hb dX5_begin_7 (by decide) (fun c7 => ?_) (fun c7 => ?_)
  · have hn9 : n = 8 := by
      rcases Nat.lt_or_ge n 8 with q | q
      · exact absurd c7 (show ¬ nI 8 ≤ nI n from nI_ge q (by decide))
      · omega
    subst hn9
    refine lv_iconst (v := 0) hx hb dX5_begin_165 (by decide) ?_
    refine lv_istore_n (lv' := [(2, .int 0), (1, .int (nI (plUp st (ownK mo) 8).length)), (0, .ref (G 0))]) hx hb dX5_begin_166 rfl hl (by decide) rfl (fun ls hl => ?_)
    rw [← fil_0 fl 0, ← fil_0 xs 1] at hP hD
    refine lpB (pc := 167) (ι := Nat) (fun z H locs k9 n9 ls => lv_has ls 7 [(2, .int (nI z)), (1, .int (nI (plUp st (ownK mo) 8).length)), (0, .ref (G 0))] ∧ va_P D vwCl (mW cI cZ G code off left wr rc mem oth ks vs sx pl ps pk1 sr1 tg1 (fil fl 0 z) (fil xs 1 z)) H ∧ va_D A (mW cI cZ G code off left wr rc mem oth ks vs sx pl ps pk1 sr1 tg1 (fil fl 0 z) (fil xs 1 z)) ∧ va_S A s.heap H locs ∧ k9 = 0 ∧ n9 = 0 ∧ z ≤ (plUp st (ownK mo) 8).length) (fun z => (plUp st (ownK mo) 8).length - z) 0 (⟨lv_sub hl [0, 1, 2] rfl, by exact hP, by exact hD, hS, rfl, rfl, Nat.zero_le _⟩) ?_
    intro z H locs k9 n9 ls hI ih167
    obtain ⟨k, e167⟩ : ∃ y, y = z := ⟨_, rfl⟩
    subst e167
    obtain ⟨hl, hP, hD, hS, e9, e8, hinv⟩ := hI
    subst e9
    subst e8
    have hP : va_P D vwCl (mW cI cZ G code off left wr rc mem oth ks vs sx pl ps pk1 sr1 tg1 (fil fl 0 k) (fil xs 1 k)) H := hP
    have hD : va_D A (mW cI cZ G code off left wr rc mem oth ks vs sx pl ps pk1 sr1 tg1 (fil fl 0 k) (fil xs 1 k)) := hD
    have hl : lv_has ls 7 [(2, .int (nI k)), (1, .int (nI (plUp st (ownK mo) 8).length)), (0, .ref (G 0))] := hl
    obtain hkl : k ≤ (plUp st (ownK mo) 8).length := hinv
    refine lv_iload_n hx hb dX5_begin_167 rfl (lv_at hl 0 rfl) ?_
    refine lv_iload_n hx hb dX5_begin_168 rfl (lv_at hl 1 rfl) ?_
    refine lv_icmp_ge (tgt := 192) hx hb dX5_begin_169 (by decide) (fun c169 => ?_) (fun c169 => ?_)
    · have hke : k = (plUp st (ownK mo) 8).length := by
        rcases Nat.lt_or_ge k (plUp st (ownK mo) 8).length with q | q
        · exact absurd c169 (nI_ge q (by omega))
        · omega
      subst hke
      refine lv_iload_n hx hb dX5_begin_192 rfl (lv_at hl 1 rfl) ?_
      exact W.iret (v := nI (plUp st (ownK mo) 8).length) hx hb hr (fun t ht2 hW => ⟨⟨nI (plUp st (ownK mo) 8).length, (pk1, sr1, tg1, fil fl 0 (plUp st (ownK mo) 8).length, fil xs 1 (plUp st (ownK mo) 8).length), rfl, ⟨rfl, plUp_RP hRQ h256⟩, ⟨by (try dsimp only); rw [ht2]; exact hP, by exact hD⟩⟩, hS.F ht2⟩) hS.2.2 dX5_begin_193
    · have hk : k < (plUp st (ownK mo) 8).length := by
        rcases Nat.lt_or_ge k (plUp st (ownK mo) 8).length with q | q
        · exact q
        · exact absurd (nI_le q (by omega)) c169
      refine lv_aload_n hx hb dX5_begin_172 rfl (lv_at hl 2 rfl) ?_
      refine va_get (D := D) (ci := 5) (v := .ref (G 9)) (C := RX5) (T := TX5) (N := 17) hx hb ht inX5 hown hK hP 0 rfl rfl 15 (by decide) (ht _ kw3_95) (fun _ h9 => h9) rfl dX5_begin_173 ?_
      refine lv_iload_n hx hb dX5_begin_176 rfl (lv_at hl 0 rfl) ?_
      refine lv_iconst (v := 0) hx hb dX5_begin_177 (by decide) ?_
      refine ya_zast hx hb hK hP hD hS 9 1 rfl rfl k (rfl) (by omega) (by decide) (by decide) dX5_begin_178 (fun H locs hP hD hS => ?_)
      have hP : va_P D vwCl (mW cI cZ G code off left wr rc mem oth ks vs sx pl ps pk1 sr1 tg1 (upd (fil fl 0 k) k 0) (fil xs 1 k)) H := hP
      have hD : va_D A (mW cI cZ G code off left wr rc mem oth ks vs sx pl ps pk1 sr1 tg1 (upd (fil fl 0 k) k 0) (fil xs 1 k)) := hD
      refine lv_aload_n hx hb dX5_begin_179 rfl (lv_at hl 2 rfl) ?_
      refine va_get (D := D) (ci := 5) (v := .ref (G 10)) (C := RX5) (T := TX5) (N := 17) hx hb ht inX5 hown hK hP 0 rfl rfl 16 (by decide) (ht _ kw3_96) (fun _ h9 => h9) rfl dX5_begin_180 ?_
      refine lv_iload_n hx hb dX5_begin_183 rfl (lv_at hl 0 rfl) ?_
      refine lv_iconst (v := 1) hx hb dX5_begin_184 (by decide) ?_
      refine ya_iast hx hb hK hP hD hS 10 0 rfl rfl k (rfl) (by omega) (by decide) dX5_begin_185 (fun H locs hP hD hS => ?_)
      have hP : va_P D vwCl (mW cI cZ G code off left wr rc mem oth ks vs sx pl ps pk1 sr1 tg1 (upd (fil fl 0 k) k 0) (upd (fil xs 1 k) k 1)) H := hP
      have hD : va_D A (mW cI cZ G code off left wr rc mem oth ks vs sx pl ps pk1 sr1 tg1 (upd (fil fl 0 k) k 0) (upd (fil xs 1 k) k 1)) := hD
      refine lv_iinc (v := nI (k + 1)) (lv' := [(2, .int (nI (k + 1))), (1, .int (nI (plUp st (ownK mo) 8).length)), (0, .ref (G 0))]) hx hb dX5_begin_186 hl (k := 0) rfl (by exact nI_1 k) (by decide) rfl (fun ls hl => ?_)
      refine lv_goto (tgt := 167) hx hb dX5_begin_189 (by decide) ?_
      rw [fil_s, fil_s] at hP hD
      exact ih167 (k + 1) _ _ _ _ ls (⟨lv_sub hl [0, 1, 2] rfl, by exact hP, by exact hD, hS, rfl, rfl, by omega⟩) (by omega)
  · have hn : n < 8 := by
      rcases Nat.lt_or_ge n 8 with q | q
      · exact q
      · exact absurd (show nI 8 ≤ nI n from nI_le q (by omega)) c7
    refine lv_iconst (v := 0) hx hb dX5_begin_10 (by decide) ?_
    refine lv_istore_n (lv' := [(3, .int 0), (2, .int (nI n)), (1, .int (nI (plUp st (ownK mo) n).length)), (0, .ref (G 0))]) hx hb dX5_begin_11 rfl hl (by decide) rfl (fun ls hl => ?_)
    rw [← plA_0] at hl
    refine lpB (pc := 12) (ι := Nat × (Nat → Int32) × (Nat → Int32) × (Nat → Int32)) (fun z H locs k9 n9 ls => lv_has ls 7 [(3, .int (nI z.1)), (2, .int (nI n)), (1, .int (nI (plA st (ownK mo) n z.1).length)), (0, .ref (G 0))] ∧ va_P D vwCl (mW cI cZ G code off left wr rc mem oth ks vs sx pl ps z.2.1 z.2.2.1 z.2.2.2 fl xs) H ∧ va_D A (mW cI cZ G code off left wr rc mem oth ks vs sx pl ps z.2.1 z.2.2.1 z.2.2.2 fl xs) ∧ va_S A s.heap H locs ∧ k9 = 0 ∧ n9 = 0 ∧ z.1 ≤ (st n).length ∧ RQ (plA st (ownK mo) n z.1) z.2.1 z.2.2.1 z.2.2.2) (fun z => (st n).length - z.1) (0, pk1, sr1, tg1) (⟨lv_sub hl [0, 1, 2, 3] rfl, by exact hP, by exact hD, hS, rfl, rfl, ⟨Nat.zero_le _, by rw [plA_0]; exact hRQ⟩⟩) ?_
    intro z H locs k9 n9 ls hI ih12
    obtain ⟨k, pk1, sr1, tg1⟩ := z
    obtain ⟨hl, hP, hD, hS, e9, e8, hinv⟩ := hI
    subst e9
    subst e8
    have hP : va_P D vwCl (mW cI cZ G code off left wr rc mem oth ks vs sx pl ps pk1 sr1 tg1 fl xs) H := hP
    have hD : va_D A (mW cI cZ G code off left wr rc mem oth ks vs sx pl ps pk1 sr1 tg1 fl xs) := hD
    have hl : lv_has ls 7 [(3, .int (nI k)), (2, .int (nI n)), (1, .int (nI (plA st (ownK mo) n k).length)), (0, .ref (G 0))] := hl
    obtain ⟨hkl, hRQ⟩ : k ≤ (st n).length ∧ RQ (plA st (ownK mo) n k) pk1 sr1 tg1 := hinv
    have hsz := hst.at hn
    have hle := hst.le hn
    refine lv_iload_n hx hb dX5_begin_12 rfl (lv_at hl 0 rfl) ?_
    refine lv_aload_n hx hb dX5_begin_13 rfl (lv_at hl 3 rfl) ?_
    refine va_get (D := D) (ci := 5) (v := .ref (G 5)) (C := RX5) (T := TX5) (N := 17) hx hb ht inX5 hown hK hP 0 rfl rfl 9 (by decide) (ht _ kw3_89) (fun _ h9 => h9) rfl dX5_begin_14 ?_
    refine lv_iload_n hx hb dX5_begin_17 rfl (lv_at hl 1 rfl) ?_
    refine ya_iald hx hb hK hP 5 0 rfl rfl n (rfl) (hn) (by decide) dX5_begin_18 ?_
    refine lv_icmp_ge (tgt := 159) hx hb dX5_begin_19 (by decide) (fun c19 => ?_) (fun c19 => ?_)
    · have hke : k = (st n).length := by
        rcases Nat.lt_or_ge k (st n).length with q | q
        · rw [hsz] at c19; exact absurd c19 (nI_ge q (by omega))
        · omega
      refine lv_iinc (v := nI (n + 1)) (lv' := [(2, .int (nI (n + 1))), (3, .int (nI k)), (1, .int (nI (plA st (ownK mo) n k).length)), (0, .ref (G 0))]) hx hb dX5_begin_159 hl (k := 1) rfl (by exact nI_1 n) (by decide) rfl (fun ls hl => ?_)
      refine lv_goto (tgt := 4) hx hb dX5_begin_162 (by decide) ?_
      rw [hke, plA_n] at hl hRQ
      exact ih4 (n + 1, pk1, sr1, tg1) _ _ _ _ ls (⟨lv_sub hl [0, 2, 3] rfl, by exact hP, by exact hD, hS, rfl, rfl, ⟨by omega, hRQ⟩⟩) (by show _ - (n + 1) < _ - n; omega)
    · have hk : k < (st n).length := by
        rcases Nat.lt_or_ge k (st n).length with q | q
        · exact q
        · exact absurd (by rw [hsz]; exact nI_le q (by omega)) c19
      have hsra := plA_srt (w := (ownK mo)) hss hv n hn k (by omega)
      have hnew := plA_new (w := (ownK mo)) hss hv hn hk hsra
      have hwl : (ownK mo) (kx (st n) k) < 8 := own_lt hMo
      refine lv_aload_n hx hb dX5_begin_22 rfl (lv_at hl 3 rfl) ?_
      refine va_get (D := D) (ci := 5) (v := .ref (G 3)) (C := RX5) (T := TX5) (N := 17) hx hb ht inX5 hown hK hP 0 rfl rfl 7 (by decide) (ht _ kw3_87) (fun _ h9 => h9) rfl dX5_begin_23 ?_
      refine lv_sipush (v := 1024) hx hb dX5_begin_26 (by decide) ?_
      refine lv_iload_n hx hb dX5_begin_29 rfl (lv_at hl 1 rfl) ?_
      refine lv_imul hx hb dX5_begin_30 ?_
      refine lv_iload_n hx hb dX5_begin_31 rfl (lv_at hl 0 rfl) ?_
      refine lv_iadd hx hb dX5_begin_32 ?_
      refine ya_iald hx hb hK hP 3 0 rfl rfl (1024 * n + k) (ixA _ _) (by omega) (by decide) dX5_begin_33 ?_
      rw [hst.k hn hk]
      refine lv_istore (lv' := [(4, .int (kx (st n) k)), (3, .int (nI k)), (2, .int (nI n)), (1, .int (nI (plA st (ownK mo) n k).length)), (0, .ref (G 0))]) hx hb dX5_begin_34 hl (by decide) rfl (fun ls hl => ?_)
      refine lv_aload_n hx hb dX5_begin_36 rfl (lv_at hl 4 rfl) ?_
      refine va_get (D := D) (ci := 5) (v := .ref (G 1)) (C := RX5) (T := TX5) (N := 17) hx hb ht inX5 hown hK hP 0 rfl rfl 5 (by decide) (ht _ kw3_85) (fun _ h9 => h9) rfl dX5_begin_37 ?_
      refine lv_iload hx hb dX5_begin_40 (lv_at hl 0 rfl) ?_
      have hPc := hP.sub (ws' := [((G 1), .inl (cI, 8, .inl mem))]) [1] rfl
      have hDc := hD.sub (ws' := [((G 1), .inl (cI, 8, .inl mem))]) [1] (by decide) rfl
      have hFc := va_free (wc := [((G 1), .inl (cI, 8, .inl mem))]) hD hS hA [1] rfl
      refine va_calli (va_runS (As := [.ref (G 1), .int (kx (st n) k)]) (rest := []) ⟨hx, hb, hml, hown, ht⟩ (c_X5_ownerOf l D cI cZ cS cJ H.size (G 1) mem mm hmm hM (kx (st n) k)) (xwS 2 ht kw3_167 kw3_165 kw1_11 kw3_166 rfl rfl (by decide +kernel) ⟨Nat.le_of_ble_eq_true rfl, Nat.le_of_ble_eq_true rfl⟩) ⟨PB.blind, fun U hU hW => PB.mk hU hW hPc hK hDc⟩ rfl rfl hl.1 rfl (lv_room (Nat.le_of_ble_eq_true rfl)) dX5_begin_42 ⟨Nat.le_of_ble_eq_true rfl, Nat.le_of_ble_eq_true rfl⟩) hS (fun q _ h => hFc q h) hFc (fun r42 u42 t42 H1 locs ht1 hvm w42 hB hz1 hk1 hS => ?_)
      try dsimp only at w42 hB
      rw [ht1] at hB
      have hP := wk_ro hP hD [1] rfl hk1 hB
      generalize H1 = H at hP hS ⊢
      refine lv_iload_n hx hb dX5_begin_45 rfl (lv_at hl 2 rfl) ?_
      refine lv_icmp_ne (tgt := 66) hx hb dX5_begin_46 (by decide) (fun c46 => absurd c46 (by rw [w42]; exact fun q => q (congrArg nI (hv n hn k hk)))) (fun c46 => ?_)
      refine lv_aload_n hx hb dX5_begin_49 rfl (lv_at hl 4 rfl) ?_
      refine va_get (D := D) (ci := 5) (v := .ref (G 2)) (C := RX5) (T := TX5) (N := 17) hx hb ht inX5 hown hK hP 0 rfl rfl 6 (by decide) (ht _ kw3_86) (fun _ h9 => h9) rfl dX5_begin_50 ?_
      refine lv_iload hx hb dX5_begin_53 (lv_at hl 0 rfl) ?_
      have hPc := hP.sub (ws' := [((G 2), .inl (cI, 8, .inl oth))]) [2] rfl
      have hDc := hD.sub (ws' := [((G 2), .inl (cI, 8, .inl oth))]) [2] (by decide) rfl
      have hFc := va_free (wc := [((G 2), .inl (cI, 8, .inl oth))]) hD hS hA [2] rfl
      refine va_calli (va_runS (As := [.ref (G 2), .int (kx (st n) k)]) (rest := []) ⟨hx, hb, hml, hown, ht⟩ (c_X5_ownerOf l D cI cZ cS cJ H.size (G 2) oth mo hmo hMo (kx (st n) k)) (xwS 2 ht kw3_167 kw3_165 kw1_11 kw3_166 rfl rfl (by decide +kernel) ⟨Nat.le_of_ble_eq_true rfl, Nat.le_of_ble_eq_true rfl⟩) ⟨PB.blind, fun U hU hW => PB.mk hU hW hPc hK hDc⟩ rfl rfl hl.1 rfl (lv_room (Nat.le_of_ble_eq_true rfl)) dX5_begin_55 ⟨Nat.le_of_ble_eq_true rfl, Nat.le_of_ble_eq_true rfl⟩) hS (fun q _ h => hFc q h) hFc (fun r55 u55 t55 H1 locs ht1 hvm w55 hB hz1 hk1 hS => ?_)
      try dsimp only at w55 hB
      rw [ht1] at hB
      have hP := wk_ro hP hD [2] rfl hk1 hB
      generalize H1 = H at hP hS ⊢
      refine lv_iload_n hx hb dX5_begin_58 rfl (lv_at hl 2 rfl) ?_
      refine lv_icmp_eq (tgt := 66) hx hb dX5_begin_59 (by decide) (fun c59 => ?_) (fun c59 => ?_)
      · have hmv : (ownK mo) (kx (st n) k) = n := (nI_eq (by have := hwl; omega) (by omega)).mp (by rw [w55] at c59; exact c59)
        have hsame : plA st (ownK mo) n (k + 1) = plA st (ownK mo) n k := by rw [plA_s st (ownK mo) n hk, if_pos hmv]
        refine lv_iconst (v := 0) hx hb dX5_begin_66 (by decide) ?_
        refine lv_istore (lv' := [(5, .int 0), (4, .int (kx (st n) k)), (3, .int (nI k)), (2, .int (nI n)), (1, .int (nI (plA st (ownK mo) n k).length)), (0, .ref (G 0))]) hx hb dX5_begin_67 hl (by decide) rfl (fun ls hl => ?_)
        refine lv_iload_n hx hb dX5_begin_69 rfl (lv_at hl 4 rfl) ?_
        refine lv_istore (lv' := [(6, .int (nI (plA st (ownK mo) n k).length)), (5, .int 0), (4, .int (kx (st n) k)), (3, .int (nI k)), (2, .int (nI n)), (1, .int (nI (plA st (ownK mo) n k).length)), (0, .ref (G 0))]) hx hb dX5_begin_70 hl (by decide) rfl (fun ls hl => ?_)
        refine lv_iload hx hb dX5_begin_72 (lv_at hl 1 rfl) ?_
        refine lv_if_eq (tgt := 112) hx hb dX5_begin_74 (by decide) (fun c74 => ?_) (fun c74 => by first | exact absurd c74 (by decide) | exact absurd (by decide) c74)
        refine lv_iload hx hb dX5_begin_112 (lv_at hl 1 rfl) ?_
        refine lv_if_eq (tgt := 153) hx hb dX5_begin_114 (by decide) (fun c114 => ?_) (fun c114 => by first | exact absurd c114 (by decide) | exact absurd (by decide) c114)
        refine lv_iinc (v := nI (k + 1)) (lv' := [(3, .int (nI (k + 1))), (6, .int (nI (plA st (ownK mo) n k).length)), (5, .int 0), (4, .int (kx (st n) k)), (2, .int (nI n)), (1, .int (nI (plA st (ownK mo) n k).length)), (0, .ref (G 0))]) hx hb dX5_begin_153 hl (k := 3) rfl (by exact nI_1 k) (by decide) rfl (fun ls hl => ?_)
        refine lv_goto (tgt := 12) hx hb dX5_begin_156 (by decide) ?_
        rw [← hsame] at hl
        exact ih12 (k + 1, pk1, sr1, tg1) _ _ _ _ ls (⟨lv_sub hl [0, 4, 5, 6] rfl, by exact hP, by exact hD, hS, rfl, rfl, ⟨by omega, by rw [hsame]; exact hRQ⟩⟩) (by show _ - (k + 1) < _ - k; omega)
      · have hmv : ¬ (ownK mo) (kx (st n) k) = n := fun q => c59 (by rw [w55]; exact congrArg nI q)
        have hln : (plA st (ownK mo) n k).length + 1 ≤ 256 := by
          have q := plA_le st (ownK mo) n (k + 1) hn
          rw [plA_s st (ownK mo) n hk, if_neg hmv, insP_len] at q
          omega
        refine lv_iconst (v := 1) hx hb dX5_begin_62 (by decide) ?_
        refine lv_goto (tgt := 67) hx hb dX5_begin_63 (by decide) ?_
        refine lv_istore (lv' := [(5, .int 1), (4, .int (kx (st n) k)), (3, .int (nI k)), (2, .int (nI n)), (1, .int (nI (plA st (ownK mo) n k).length)), (0, .ref (G 0))]) hx hb dX5_begin_67 hl (by decide) rfl (fun ls hl => ?_)
        refine lv_iload_n hx hb dX5_begin_69 rfl (lv_at hl 4 rfl) ?_
        refine lv_istore (lv' := [(6, .int (nI (plA st (ownK mo) n k).length)), (5, .int 1), (4, .int (kx (st n) k)), (3, .int (nI k)), (2, .int (nI n)), (1, .int (nI (plA st (ownK mo) n k).length)), (0, .ref (G 0))]) hx hb dX5_begin_70 hl (by decide) rfl (fun ls hl => ?_)
        rw [← shR_0 pk1 0 (plA st (ownK mo) n k).length, ← shR_0 sr1 0 (plA st (ownK mo) n k).length, ← shR_0 tg1 0 (plA st (ownK mo) n k).length] at hP hD
        refine lpB (pc := 72) (ι := Nat) (fun z H locs k9 n9 ls => lv_has ls 7 [(6, .int (nI z)), (5, .int 1), (4, .int (kx (st n) k)), (3, .int (nI k)), (2, .int (nI n)), (1, .int (nI (plA st (ownK mo) n k).length)), (0, .ref (G 0))] ∧ va_P D vwCl (mW cI cZ G code off left wr rc mem oth ks vs sx pl ps (shR pk1 0 z (plA st (ownK mo) n k).length) (shR sr1 0 z (plA st (ownK mo) n k).length) (shR tg1 0 z (plA st (ownK mo) n k).length) fl xs) H ∧ va_D A (mW cI cZ G code off left wr rc mem oth ks vs sx pl ps (shR pk1 0 z (plA st (ownK mo) n k).length) (shR sr1 0 z (plA st (ownK mo) n k).length) (shR tg1 0 z (plA st (ownK mo) n k).length) fl xs) ∧ va_S A s.heap H locs ∧ k9 = 0 ∧ n9 = 0 ∧ z ≤ (plA st (ownK mo) n k).length ∧ ∀ j, z ≤ j → j < (plA st (ownK mo) n k).length → kx (st n) k < pK (plA st (ownK mo) n k) j) (fun z => z) ((plA st (ownK mo) n k).length) (⟨lv_sub hl [0, 1, 2, 3, 4, 5, 6] rfl, by exact hP, by exact hD, hS, rfl, rfl, ⟨Nat.le_refl _, fun j h1 h2 => absurd h2 (by omega)⟩⟩) ?_
        intro z H locs k9 n9 ls hI ih72
        obtain ⟨a, e72⟩ : ∃ y, y = z := ⟨_, rfl⟩
        subst e72
        obtain ⟨hl, hP, hD, hS, e9, e8, hinv⟩ := hI
        subst e9
        subst e8
        have hP : va_P D vwCl (mW cI cZ G code off left wr rc mem oth ks vs sx pl ps (shR pk1 0 a (plA st (ownK mo) n k).length) (shR sr1 0 a (plA st (ownK mo) n k).length) (shR tg1 0 a (plA st (ownK mo) n k).length) fl xs) H := hP
        have hD : va_D A (mW cI cZ G code off left wr rc mem oth ks vs sx pl ps (shR pk1 0 a (plA st (ownK mo) n k).length) (shR sr1 0 a (plA st (ownK mo) n k).length) (shR tg1 0 a (plA st (ownK mo) n k).length) fl xs) := hD
        have hl : lv_has ls 7 [(6, .int (nI a)), (5, .int 1), (4, .int (kx (st n) k)), (3, .int (nI k)), (2, .int (nI n)), (1, .int (nI (plA st (ownK mo) n k).length)), (0, .ref (G 0))] := hl
        obtain ⟨hal, hab⟩ : a ≤ (plA st (ownK mo) n k).length ∧ ∀ j, a ≤ j → j < (plA st (ownK mo) n k).length → kx (st n) k < pK (plA st (ownK mo) n k) j := hinv
        refine lv_iload hx hb dX5_begin_72 (lv_at hl 1 rfl) ?_
        refine lv_if_eq (tgt := 112) hx hb dX5_begin_74 (by decide) (fun c74 => by first | exact absurd c74 (by decide) | exact absurd (by decide) c74) (fun c74 => ?_)
        refine lv_iload hx hb dX5_begin_77 (lv_at hl 0 rfl) ?_
        refine lv_if_le (tgt := 112) hx hb dX5_begin_79 (by decide) (fun c79 => ?_) (fun c79 => ?_)
        · have hap : a = prow (plA st (ownK mo) n k) (kx (st n) k) := prow_of hsra hnew hal hab (fun q => absurd c79 (nI_nle q (by omega)))
          subst hap
          refine lv_iload hx hb dX5_begin_112 (lv_at hl 1 rfl) ?_
          refine lv_if_eq (tgt := 153) hx hb dX5_begin_114 (by decide) (fun c114 => by first | exact absurd c114 (by decide) | exact absurd (by decide) c114) (fun c114 => ?_)
          refine lv_aload_n hx hb dX5_begin_117 rfl (lv_at hl 6 rfl) ?_
          refine va_get (D := D) (ci := 5) (v := .ref (G 6)) (C := RX5) (T := TX5) (N := 17) hx hb ht inX5 hown hK hP 0 rfl rfl 12 (by decide) (ht _ kw3_92) (fun _ h9 => h9) rfl dX5_begin_118 ?_
          refine lv_iload hx hb dX5_begin_121 (lv_at hl 0 rfl) ?_
          refine lv_iload hx hb dX5_begin_123 (lv_at hl 2 rfl) ?_
          refine ya_iast hx hb hK hP hD hS 6 0 rfl rfl (prow (plA st (ownK mo) n k) (kx (st n) k)) (rfl) (by have := prow_le (plA st (ownK mo) n k) (kx (st n) k); omega) (by decide) dX5_begin_125 (fun H locs hP hD hS => ?_)
          have hP : va_P D vwCl (mW cI cZ G code off left wr rc mem oth ks vs sx pl ps (upd (shR pk1 0 (prow (plA st (ownK mo) n k) (kx (st n) k)) (plA st (ownK mo) n k).length) (prow (plA st (ownK mo) n k) (kx (st n) k)) (kx (st n) k)) (shR sr1 0 (prow (plA st (ownK mo) n k) (kx (st n) k)) (plA st (ownK mo) n k).length) (shR tg1 0 (prow (plA st (ownK mo) n k) (kx (st n) k)) (plA st (ownK mo) n k).length) fl xs) H := hP
          have hD : va_D A (mW cI cZ G code off left wr rc mem oth ks vs sx pl ps (upd (shR pk1 0 (prow (plA st (ownK mo) n k) (kx (st n) k)) (plA st (ownK mo) n k).length) (prow (plA st (ownK mo) n k) (kx (st n) k)) (kx (st n) k)) (shR sr1 0 (prow (plA st (ownK mo) n k) (kx (st n) k)) (plA st (ownK mo) n k).length) (shR tg1 0 (prow (plA st (ownK mo) n k) (kx (st n) k)) (plA st (ownK mo) n k).length) fl xs) := hD
          refine lv_aload_n hx hb dX5_begin_126 rfl (lv_at hl 6 rfl) ?_
          refine va_get (D := D) (ci := 5) (v := .ref (G 7)) (C := RX5) (T := TX5) (N := 17) hx hb ht inX5 hown hK hP 0 rfl rfl 13 (by decide) (ht _ kw3_93) (fun _ h9 => h9) rfl dX5_begin_127 ?_
          refine lv_iload hx hb dX5_begin_130 (lv_at hl 0 rfl) ?_
          refine lv_iload_n hx hb dX5_begin_132 rfl (lv_at hl 4 rfl) ?_
          refine ya_iast hx hb hK hP hD hS 7 0 rfl rfl (prow (plA st (ownK mo) n k) (kx (st n) k)) (rfl) (by have := prow_le (plA st (ownK mo) n k) (kx (st n) k); omega) (by decide) dX5_begin_133 (fun H locs hP hD hS => ?_)
          have hP : va_P D vwCl (mW cI cZ G code off left wr rc mem oth ks vs sx pl ps (upd (shR pk1 0 (prow (plA st (ownK mo) n k) (kx (st n) k)) (plA st (ownK mo) n k).length) (prow (plA st (ownK mo) n k) (kx (st n) k)) (kx (st n) k)) (upd (shR sr1 0 (prow (plA st (ownK mo) n k) (kx (st n) k)) (plA st (ownK mo) n k).length) (prow (plA st (ownK mo) n k) (kx (st n) k)) (nI n)) (shR tg1 0 (prow (plA st (ownK mo) n k) (kx (st n) k)) (plA st (ownK mo) n k).length) fl xs) H := hP
          have hD : va_D A (mW cI cZ G code off left wr rc mem oth ks vs sx pl ps (upd (shR pk1 0 (prow (plA st (ownK mo) n k) (kx (st n) k)) (plA st (ownK mo) n k).length) (prow (plA st (ownK mo) n k) (kx (st n) k)) (kx (st n) k)) (upd (shR sr1 0 (prow (plA st (ownK mo) n k) (kx (st n) k)) (plA st (ownK mo) n k).length) (prow (plA st (ownK mo) n k) (kx (st n) k)) (nI n)) (shR tg1 0 (prow (plA st (ownK mo) n k) (kx (st n) k)) (plA st (ownK mo) n k).length) fl xs) := hD
          refine lv_aload_n hx hb dX5_begin_134 rfl (lv_at hl 6 rfl) ?_
          refine va_get (D := D) (ci := 5) (v := .ref (G 8)) (C := RX5) (T := TX5) (N := 17) hx hb ht inX5 hown hK hP 0 rfl rfl 14 (by decide) (ht _ kw3_94) (fun _ h9 => h9) rfl dX5_begin_135 ?_
          refine lv_iload hx hb dX5_begin_138 (lv_at hl 0 rfl) ?_
          refine lv_aload_n hx hb dX5_begin_140 rfl (lv_at hl 6 rfl) ?_
          refine va_get (D := D) (ci := 5) (v := .ref (G 2)) (C := RX5) (T := TX5) (N := 17) hx hb ht inX5 hown hK hP 0 rfl rfl 6 (by decide) (ht _ kw3_86) (fun _ h9 => h9) rfl dX5_begin_141 ?_
          refine lv_iload hx hb dX5_begin_144 (lv_at hl 2 rfl) ?_
          have hPc := hP.sub (ws' := [((G 2), .inl (cI, 8, .inl oth))]) [2] rfl
          have hDc := hD.sub (ws' := [((G 2), .inl (cI, 8, .inl oth))]) [2] (by decide) rfl
          have hFc := va_free (wc := [((G 2), .inl (cI, 8, .inl oth))]) hD hS hA [2] rfl
          refine va_calli (va_runS (As := [.ref (G 2), .int (kx (st n) k)]) (rest := [.int (nI (prow (plA st (ownK mo) n k) (kx (st n) k))), .ref (G 8)]) ⟨hx, hb, hml, hown, ht⟩ (c_X5_ownerOf l D cI cZ cS cJ H.size (G 2) oth mo hmo hMo (kx (st n) k)) (xwS 2 ht kw3_167 kw3_165 kw1_11 kw3_166 rfl rfl (by decide +kernel) ⟨Nat.le_of_ble_eq_true rfl, Nat.le_of_ble_eq_true rfl⟩) ⟨PB.blind, fun U hU hW => PB.mk hU hW hPc hK hDc⟩ rfl rfl hl.1 rfl (lv_room (Nat.le_of_ble_eq_true rfl)) dX5_begin_146 ⟨Nat.le_of_ble_eq_true rfl, Nat.le_of_ble_eq_true rfl⟩) hS (fun q _ h => hFc q h) hFc (fun r146 u146 t146 H1 locs ht1 hvm w146 hB hz1 hk1 hS => ?_)
          try dsimp only at w146 hB
          rw [ht1] at hB
          have hP := wk_ro hP hD [2] rfl hk1 hB
          generalize H1 = H at hP hS ⊢
          rw [show r146 = nI ((ownK mo) (kx (st n) k)) from w146]
          refine ya_iast hx hb hK hP hD hS 8 0 rfl rfl (prow (plA st (ownK mo) n k) (kx (st n) k)) (rfl) (by have := prow_le (plA st (ownK mo) n k) (kx (st n) k); omega) (by decide) dX5_begin_149 (fun H locs hP hD hS => ?_)
          have hP : va_P D vwCl (mW cI cZ G code off left wr rc mem oth ks vs sx pl ps (upd (shR pk1 0 (prow (plA st (ownK mo) n k) (kx (st n) k)) (plA st (ownK mo) n k).length) (prow (plA st (ownK mo) n k) (kx (st n) k)) (kx (st n) k)) (upd (shR sr1 0 (prow (plA st (ownK mo) n k) (kx (st n) k)) (plA st (ownK mo) n k).length) (prow (plA st (ownK mo) n k) (kx (st n) k)) (nI n)) (upd (shR tg1 0 (prow (plA st (ownK mo) n k) (kx (st n) k)) (plA st (ownK mo) n k).length) (prow (plA st (ownK mo) n k) (kx (st n) k)) (nI ((ownK mo) (kx (st n) k)))) fl xs) H := hP
          have hD : va_D A (mW cI cZ G code off left wr rc mem oth ks vs sx pl ps (upd (shR pk1 0 (prow (plA st (ownK mo) n k) (kx (st n) k)) (plA st (ownK mo) n k).length) (prow (plA st (ownK mo) n k) (kx (st n) k)) (kx (st n) k)) (upd (shR sr1 0 (prow (plA st (ownK mo) n k) (kx (st n) k)) (plA st (ownK mo) n k).length) (prow (plA st (ownK mo) n k) (kx (st n) k)) (nI n)) (upd (shR tg1 0 (prow (plA st (ownK mo) n k) (kx (st n) k)) (plA st (ownK mo) n k).length) (prow (plA st (ownK mo) n k) (kx (st n) k)) (nI ((ownK mo) (kx (st n) k)))) fl xs) := hD
          refine lv_iinc (v := nI (plA st (ownK mo) n (k + 1)).length) (lv' := [(1, .int (nI (plA st (ownK mo) n (k + 1)).length)), (6, .int (nI (prow (plA st (ownK mo) n k) (kx (st n) k)))), (5, .int 1), (4, .int (kx (st n) k)), (3, .int (nI k)), (2, .int (nI n)), (0, .ref (G 0))]) hx hb dX5_begin_150 hl (k := 5) rfl (by rw [plA_s st (ownK mo) n hk, if_neg hmv, insP_len]; exact nI_1 _) (by decide) rfl (fun ls hl => ?_)
          refine lv_iinc (v := nI (k + 1)) (lv' := [(3, .int (nI (k + 1))), (1, .int (nI (plA st (ownK mo) n (k + 1)).length)), (6, .int (nI (prow (plA st (ownK mo) n k) (kx (st n) k)))), (5, .int 1), (4, .int (kx (st n) k)), (2, .int (nI n)), (0, .ref (G 0))]) hx hb dX5_begin_153 hl (k := 4) rfl (by exact nI_1 k) (by decide) rfl (fun ls hl => ?_)
          refine lv_goto (tgt := 12) hx hb dX5_begin_156 (by decide) ?_
          exact ih12 (k + 1, upd (shR pk1 0 (prow (plA st (ownK mo) n k) (kx (st n) k)) (plA st (ownK mo) n k).length) (prow (plA st (ownK mo) n k) (kx (st n) k)) (kx (st n) k), upd (shR sr1 0 (prow (plA st (ownK mo) n k) (kx (st n) k)) (plA st (ownK mo) n k).length) (prow (plA st (ownK mo) n k) (kx (st n) k)) (nI n), upd (shR tg1 0 (prow (plA st (ownK mo) n k) (kx (st n) k)) (plA st (ownK mo) n k).length) (prow (plA st (ownK mo) n k) (kx (st n) k)) (nI ((ownK mo) (kx (st n) k)))) _ _ _ _ ls (⟨lv_sub hl [0, 5, 1, 6] rfl, by exact hP, by exact hD, hS, rfl, rfl, ⟨by omega, by rw [plA_s st (ownK mo) n hk, if_neg hmv]; exact hRQ.ins (kx (st n) k, n, (ownK mo) (kx (st n) k)) rfl⟩⟩) (by show _ - (k + 1) < _ - k; omega)
        · have ha0 : 0 < a := Nat.pos_of_ne_zero (fun q => c79 (by rw [q]; decide))
          refine lv_aload_n hx hb dX5_begin_82 rfl (lv_at hl 6 rfl) ?_
          refine va_get (D := D) (ci := 5) (v := .ref (G 6)) (C := RX5) (T := TX5) (N := 17) hx hb ht inX5 hown hK hP 0 rfl rfl 12 (by decide) (ht _ kw3_92) (fun _ h9 => h9) rfl dX5_begin_83 ?_
          refine lv_iload hx hb dX5_begin_86 (lv_at hl 0 rfl) ?_
          refine lv_iconst (v := 1) hx hb dX5_begin_88 (by decide) ?_
          refine lv_isub hx hb dX5_begin_89 ?_
          refine ya_iald hx hb hK hP 6 0 rfl rfl (a - 1) (nI_m1 ha0) (by omega) (by decide) dX5_begin_90 ?_
          refine lv_iload hx hb dX5_begin_91 (lv_at hl 2 rfl) ?_
          refine lv_icmp_le (tgt := 112) hx hb dX5_begin_93 (by decide) (fun c93 => ?_) (fun c93 => ?_)
          · have hap : a = prow (plA st (ownK mo) n k) (kx (st n) k) := prow_of hsra hnew hal hab (fun _ => by rw [← (hRQ (a - 1) (by omega)).1, ← shP_at (len := (plA st (ownK mo) n k).length) pk1 ha0]; exact c93)
            subst hap
            refine lv_iload hx hb dX5_begin_112 (lv_at hl 1 rfl) ?_
            refine lv_if_eq (tgt := 153) hx hb dX5_begin_114 (by decide) (fun c114 => by first | exact absurd c114 (by decide) | exact absurd (by decide) c114) (fun c114 => ?_)
            refine lv_aload_n hx hb dX5_begin_117 rfl (lv_at hl 6 rfl) ?_
            refine va_get (D := D) (ci := 5) (v := .ref (G 6)) (C := RX5) (T := TX5) (N := 17) hx hb ht inX5 hown hK hP 0 rfl rfl 12 (by decide) (ht _ kw3_92) (fun _ h9 => h9) rfl dX5_begin_118 ?_
            refine lv_iload hx hb dX5_begin_121 (lv_at hl 0 rfl) ?_
            refine lv_iload hx hb dX5_begin_123 (lv_at hl 2 rfl) ?_
            refine ya_iast hx hb hK hP hD hS 6 0 rfl rfl (prow (plA st (ownK mo) n k) (kx (st n) k)) (rfl) (by have := prow_le (plA st (ownK mo) n k) (kx (st n) k); omega) (by decide) dX5_begin_125 (fun H locs hP hD hS => ?_)
            have hP : va_P D vwCl (mW cI cZ G code off left wr rc mem oth ks vs sx pl ps (upd (shR pk1 0 (prow (plA st (ownK mo) n k) (kx (st n) k)) (plA st (ownK mo) n k).length) (prow (plA st (ownK mo) n k) (kx (st n) k)) (kx (st n) k)) (shR sr1 0 (prow (plA st (ownK mo) n k) (kx (st n) k)) (plA st (ownK mo) n k).length) (shR tg1 0 (prow (plA st (ownK mo) n k) (kx (st n) k)) (plA st (ownK mo) n k).length) fl xs) H := hP
            have hD : va_D A (mW cI cZ G code off left wr rc mem oth ks vs sx pl ps (upd (shR pk1 0 (prow (plA st (ownK mo) n k) (kx (st n) k)) (plA st (ownK mo) n k).length) (prow (plA st (ownK mo) n k) (kx (st n) k)) (kx (st n) k)) (shR sr1 0 (prow (plA st (ownK mo) n k) (kx (st n) k)) (plA st (ownK mo) n k).length) (shR tg1 0 (prow (plA st (ownK mo) n k) (kx (st n) k)) (plA st (ownK mo) n k).length) fl xs) := hD
            refine lv_aload_n hx hb dX5_begin_126 rfl (lv_at hl 6 rfl) ?_
            refine va_get (D := D) (ci := 5) (v := .ref (G 7)) (C := RX5) (T := TX5) (N := 17) hx hb ht inX5 hown hK hP 0 rfl rfl 13 (by decide) (ht _ kw3_93) (fun _ h9 => h9) rfl dX5_begin_127 ?_
            refine lv_iload hx hb dX5_begin_130 (lv_at hl 0 rfl) ?_
            refine lv_iload_n hx hb dX5_begin_132 rfl (lv_at hl 4 rfl) ?_
            refine ya_iast hx hb hK hP hD hS 7 0 rfl rfl (prow (plA st (ownK mo) n k) (kx (st n) k)) (rfl) (by have := prow_le (plA st (ownK mo) n k) (kx (st n) k); omega) (by decide) dX5_begin_133 (fun H locs hP hD hS => ?_)
            have hP : va_P D vwCl (mW cI cZ G code off left wr rc mem oth ks vs sx pl ps (upd (shR pk1 0 (prow (plA st (ownK mo) n k) (kx (st n) k)) (plA st (ownK mo) n k).length) (prow (plA st (ownK mo) n k) (kx (st n) k)) (kx (st n) k)) (upd (shR sr1 0 (prow (plA st (ownK mo) n k) (kx (st n) k)) (plA st (ownK mo) n k).length) (prow (plA st (ownK mo) n k) (kx (st n) k)) (nI n)) (shR tg1 0 (prow (plA st (ownK mo) n k) (kx (st n) k)) (plA st (ownK mo) n k).length) fl xs) H := hP
            have hD : va_D A (mW cI cZ G code off left wr rc mem oth ks vs sx pl ps (upd (shR pk1 0 (prow (plA st (ownK mo) n k) (kx (st n) k)) (plA st (ownK mo) n k).length) (prow (plA st (ownK mo) n k) (kx (st n) k)) (kx (st n) k)) (upd (shR sr1 0 (prow (plA st (ownK mo) n k) (kx (st n) k)) (plA st (ownK mo) n k).length) (prow (plA st (ownK mo) n k) (kx (st n) k)) (nI n)) (shR tg1 0 (prow (plA st (ownK mo) n k) (kx (st n) k)) (plA st (ownK mo) n k).length) fl xs) := hD
            refine lv_aload_n hx hb dX5_begin_134 rfl (lv_at hl 6 rfl) ?_
            refine va_get (D := D) (ci := 5) (v := .ref (G 8)) (C := RX5) (T := TX5) (N := 17) hx hb ht inX5 hown hK hP 0 rfl rfl 14 (by decide) (ht _ kw3_94) (fun _ h9 => h9) rfl dX5_begin_135 ?_
            refine lv_iload hx hb dX5_begin_138 (lv_at hl 0 rfl) ?_
            refine lv_aload_n hx hb dX5_begin_140 rfl (lv_at hl 6 rfl) ?_
            refine va_get (D := D) (ci := 5) (v := .ref (G 2)) (C := RX5) (T := TX5) (N := 17) hx hb ht inX5 hown hK hP 0 rfl rfl 6 (by decide) (ht _ kw3_86) (fun _ h9 => h9) rfl dX5_begin_141 ?_
            refine lv_iload hx hb dX5_begin_144 (lv_at hl 2 rfl) ?_
            have hPc := hP.sub (ws' := [((G 2), .inl (cI, 8, .inl oth))]) [2] rfl
            have hDc := hD.sub (ws' := [((G 2), .inl (cI, 8, .inl oth))]) [2] (by decide) rfl
            have hFc := va_free (wc := [((G 2), .inl (cI, 8, .inl oth))]) hD hS hA [2] rfl
            refine va_calli (va_runS (As := [.ref (G 2), .int (kx (st n) k)]) (rest := [.int (nI (prow (plA st (ownK mo) n k) (kx (st n) k))), .ref (G 8)]) ⟨hx, hb, hml, hown, ht⟩ (c_X5_ownerOf l D cI cZ cS cJ H.size (G 2) oth mo hmo hMo (kx (st n) k)) (xwS 2 ht kw3_167 kw3_165 kw1_11 kw3_166 rfl rfl (by decide +kernel) ⟨Nat.le_of_ble_eq_true rfl, Nat.le_of_ble_eq_true rfl⟩) ⟨PB.blind, fun U hU hW => PB.mk hU hW hPc hK hDc⟩ rfl rfl hl.1 rfl (lv_room (Nat.le_of_ble_eq_true rfl)) dX5_begin_146 ⟨Nat.le_of_ble_eq_true rfl, Nat.le_of_ble_eq_true rfl⟩) hS (fun q _ h => hFc q h) hFc (fun r146 u146 t146 H1 locs ht1 hvm w146 hB hz1 hk1 hS => ?_)
            try dsimp only at w146 hB
            rw [ht1] at hB
            have hP := wk_ro hP hD [2] rfl hk1 hB
            generalize H1 = H at hP hS ⊢
            rw [show r146 = nI ((ownK mo) (kx (st n) k)) from w146]
            refine ya_iast hx hb hK hP hD hS 8 0 rfl rfl (prow (plA st (ownK mo) n k) (kx (st n) k)) (rfl) (by have := prow_le (plA st (ownK mo) n k) (kx (st n) k); omega) (by decide) dX5_begin_149 (fun H locs hP hD hS => ?_)
            have hP : va_P D vwCl (mW cI cZ G code off left wr rc mem oth ks vs sx pl ps (upd (shR pk1 0 (prow (plA st (ownK mo) n k) (kx (st n) k)) (plA st (ownK mo) n k).length) (prow (plA st (ownK mo) n k) (kx (st n) k)) (kx (st n) k)) (upd (shR sr1 0 (prow (plA st (ownK mo) n k) (kx (st n) k)) (plA st (ownK mo) n k).length) (prow (plA st (ownK mo) n k) (kx (st n) k)) (nI n)) (upd (shR tg1 0 (prow (plA st (ownK mo) n k) (kx (st n) k)) (plA st (ownK mo) n k).length) (prow (plA st (ownK mo) n k) (kx (st n) k)) (nI ((ownK mo) (kx (st n) k)))) fl xs) H := hP
            have hD : va_D A (mW cI cZ G code off left wr rc mem oth ks vs sx pl ps (upd (shR pk1 0 (prow (plA st (ownK mo) n k) (kx (st n) k)) (plA st (ownK mo) n k).length) (prow (plA st (ownK mo) n k) (kx (st n) k)) (kx (st n) k)) (upd (shR sr1 0 (prow (plA st (ownK mo) n k) (kx (st n) k)) (plA st (ownK mo) n k).length) (prow (plA st (ownK mo) n k) (kx (st n) k)) (nI n)) (upd (shR tg1 0 (prow (plA st (ownK mo) n k) (kx (st n) k)) (plA st (ownK mo) n k).length) (prow (plA st (ownK mo) n k) (kx (st n) k)) (nI ((ownK mo) (kx (st n) k)))) fl xs) := hD
            refine lv_iinc (v := nI (plA st (ownK mo) n (k + 1)).length) (lv' := [(1, .int (nI (plA st (ownK mo) n (k + 1)).length)), (6, .int (nI (prow (plA st (ownK mo) n k) (kx (st n) k)))), (5, .int 1), (4, .int (kx (st n) k)), (3, .int (nI k)), (2, .int (nI n)), (0, .ref (G 0))]) hx hb dX5_begin_150 hl (k := 5) rfl (by rw [plA_s st (ownK mo) n hk, if_neg hmv, insP_len]; exact nI_1 _) (by decide) rfl (fun ls hl => ?_)
            refine lv_iinc (v := nI (k + 1)) (lv' := [(3, .int (nI (k + 1))), (1, .int (nI (plA st (ownK mo) n (k + 1)).length)), (6, .int (nI (prow (plA st (ownK mo) n k) (kx (st n) k)))), (5, .int 1), (4, .int (kx (st n) k)), (2, .int (nI n)), (0, .ref (G 0))]) hx hb dX5_begin_153 hl (k := 4) rfl (by exact nI_1 k) (by decide) rfl (fun ls hl => ?_)
            refine lv_goto (tgt := 12) hx hb dX5_begin_156 (by decide) ?_
            exact ih12 (k + 1, upd (shR pk1 0 (prow (plA st (ownK mo) n k) (kx (st n) k)) (plA st (ownK mo) n k).length) (prow (plA st (ownK mo) n k) (kx (st n) k)) (kx (st n) k), upd (shR sr1 0 (prow (plA st (ownK mo) n k) (kx (st n) k)) (plA st (ownK mo) n k).length) (prow (plA st (ownK mo) n k) (kx (st n) k)) (nI n), upd (shR tg1 0 (prow (plA st (ownK mo) n k) (kx (st n) k)) (plA st (ownK mo) n k).length) (prow (plA st (ownK mo) n k) (kx (st n) k)) (nI ((ownK mo) (kx (st n) k)))) _ _ _ _ ls (⟨lv_sub hl [0, 5, 1, 6] rfl, by exact hP, by exact hD, hS, rfl, rfl, ⟨by omega, by rw [plA_s st (ownK mo) n hk, if_neg hmv]; exact hRQ.ins (kx (st n) k, n, (ownK mo) (kx (st n) k)) rfl⟩⟩) (by show _ - (k + 1) < _ - k; omega)
          · have hgt : kx (st n) k < pK (plA st (ownK mo) n k) (a - 1) := by rw [← (hRQ (a - 1) (by omega)).1, ← shP_at (len := (plA st (ownK mo) n k).length) pk1 ha0]; exact Int32.not_le.mp c93
            refine lv_aload_n hx hb dX5_begin_96 rfl (lv_at hl 6 rfl) ?_
            refine lv_iload hx hb dX5_begin_97 (lv_at hl 0 rfl) ?_
            refine lv_iconst (v := 1) hx hb dX5_begin_99 (by decide) ?_
            refine lv_isub hx hb dX5_begin_100 ?_
            rw [nI_m1 ha0]
            refine lv_iload hx hb dX5_begin_101 (lv_at hl 0 rfl) ?_
            have hPc := hP.sub (ws' := mW cI cZ G code off left wr rc mem oth ks vs sx pl ps (shR pk1 0 a (plA st (ownK mo) n k).length) (shR sr1 0 a (plA st (ownK mo) n k).length) (shR tg1 0 a (plA st (ownK mo) n k).length) fl xs) [0, 1, 2, 3, 4, 5, 6, 7, 8, 9, 10] rfl
            have hDc := hD.sub (ws' := mW cI cZ G code off left wr rc mem oth ks vs sx pl ps (shR pk1 0 a (plA st (ownK mo) n k).length) (shR sr1 0 a (plA st (ownK mo) n k).length) (shR tg1 0 a (plA st (ownK mo) n k).length) fl xs) [0, 1, 2, 3, 4, 5, 6, 7, 8, 9, 10] (by decide) rfl
            have hFc := va_free (wc := mW cI cZ G code off left wr rc mem oth ks vs sx pl ps (shR pk1 0 a (plA st (ownK mo) n k).length) (shR sr1 0 a (plA st (ownK mo) n k).length) (shR tg1 0 a (plA st (ownK mo) n k).length) fl xs) hD hS hA [0, 1, 2, 3, 4, 5, 6, 7, 8, 9, 10] rfl
            refine va_callv (va_runV (As := [.int (nI (a - 1)), .int (nI a)]) (rest := []) ⟨hx, hb, hml, hown, ht⟩ (c_X5_movePlan l D cI cZ cS cJ H.size G code off left wr rc mem oth ks vs sx pl ps (shR pk1 0 a (plA st (ownK mo) n k).length) (shR sr1 0 a (plA st (ownK mo) n k).length) (shR tg1 0 a (plA st (ownK mo) n k).length) fl xs (a - 1) a (by omega) (by omega)) (xwV 2 ht kw3_232 kw3_229 kw1_11 kw3_231 kwS_39 rfl rfl (by decide +kernel) ⟨Nat.le_of_ble_eq_true rfl, Nat.le_of_ble_eq_true rfl⟩) ⟨PB.blind, va_recv hK hPc (ci := 5) (q0 := 0) rfl rfl, fun U hU hW => PB.mk hU hW hPc hK hDc⟩ rfl rfl hl.1 rfl (lv_room (Nat.le_of_ble_eq_true rfl)) dX5_begin_103 ⟨Nat.le_of_ble_eq_true rfl, Nat.le_of_ble_eq_true rfl⟩) hS (fun q _ h => hFc q h) hFc (fun u103 t103 H1 locs ht1 hvm w103 hB hz1 hk1 hS => ?_)
            try dsimp only at w103 hB
            obtain ⟨hP1, hD1⟩ := hB
            rw [ht1] at hP1
            obtain ⟨hP, hD⟩ := wk_join (w1 := (mW cI cZ G code off left wr rc mem oth ks vs sx pl ps (upd (shR pk1 0 a (plA st (ownK mo) n k).length) a ((shR pk1 0 a (plA st (ownK mo) n k).length) (a - 1))) (upd (shR sr1 0 a (plA st (ownK mo) n k).length) a ((shR sr1 0 a (plA st (ownK mo) n k).length) (a - 1))) (upd (shR tg1 0 a (plA st (ownK mo) n k).length) a ((shR tg1 0 a (plA st (ownK mo) n k).length) (a - 1))) fl xs)) hP hD [0, 1, 2, 3, 4, 5, 6, 7, 8, 9, 10] rfl (by decide) rfl hk1 hFc hP1 hD1
            generalize H1 = H at hP hS ⊢
            have hP : va_P D vwCl (mW cI cZ G code off left wr rc mem oth ks vs sx pl ps (upd (shR pk1 0 a (plA st (ownK mo) n k).length) a ((shR pk1 0 a (plA st (ownK mo) n k).length) (a - 1))) (upd (shR sr1 0 a (plA st (ownK mo) n k).length) a ((shR sr1 0 a (plA st (ownK mo) n k).length) (a - 1))) (upd (shR tg1 0 a (plA st (ownK mo) n k).length) a ((shR tg1 0 a (plA st (ownK mo) n k).length) (a - 1))) fl xs) H := hP
            have hD : va_D A (mW cI cZ G code off left wr rc mem oth ks vs sx pl ps (upd (shR pk1 0 a (plA st (ownK mo) n k).length) a ((shR pk1 0 a (plA st (ownK mo) n k).length) (a - 1))) (upd (shR sr1 0 a (plA st (ownK mo) n k).length) a ((shR sr1 0 a (plA st (ownK mo) n k).length) (a - 1))) (upd (shR tg1 0 a (plA st (ownK mo) n k).length) a ((shR tg1 0 a (plA st (ownK mo) n k).length) (a - 1))) fl xs) := hD
            refine lv_iinc (v := nI (a - 1)) (lv' := [(6, .int (nI (a - 1))), (5, .int 1), (4, .int (kx (st n) k)), (3, .int (nI k)), (2, .int (nI n)), (1, .int (nI (plA st (ownK mo) n k).length)), (0, .ref (G 0))]) hx hb dX5_begin_106 hl (k := 0) rfl (by exact sb_m1 ha0) (by decide) rfl (fun ls hl => ?_)
            refine lv_goto (tgt := 72) hx hb dX5_begin_109 (by decide) ?_
            rw [shP_s pk1 ha0 hal, shP_s sr1 ha0 hal, shP_s tg1 ha0 hal] at hP hD
            exact ih72 (a - 1) _ _ _ _ ls (⟨lv_sub hl [0, 1, 2, 3, 4, 5, 6] rfl, by exact hP, by exact hD, hS, rfl, rfl, ⟨by omega, fun j h1 h2 => by rcases Nat.lt_or_ge j a with q | q; (rw [show j = a - 1 by omega]; exact hgt); exact hab j q h2⟩⟩) (by omega)
