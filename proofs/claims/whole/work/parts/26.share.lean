-- the reference: behind, isFirst, share
/-- how many places lie behind the point before and up to x -/
def IsBeh (mm : Nat → Nat) (x : Int32) (r : Int64) : Prop := (∃ o u, o < 8 ∧ u < mm o ∧ Pt o u < x ∧ (∀ n' v', n' < 8 → v' < mm n' → Pt n' v' < x → Pt n' v' ≤ Pt o u) ∧ r = (x : Int32).toInt64 - (Pt o u).toInt64) ∨
  ((∀ n' v', n' < 8 → v' < mm n' → ¬ Pt n' v' < x) ∧ ∃ o u, o < 8 ∧ u < mm o ∧ (∀ n' v', n' < 8 → v' < mm n' → Pt n' v' ≤ Pt o u) ∧ r = (x : Int32).toInt64 + 2147483648 - (Pt o u).toInt64)
theorem IsBeh.one {mm : Nat → Nat} {x : Int32} {r r' : Int64} (h : IsBeh mm x r) (h' : IsBeh mm x r') : r = r' := by
  rcases h with ⟨o, u, ho, hu, hx, hb, he⟩ | ⟨hn, o, u, ho, hu, hb, he⟩ <;> rcases h' with ⟨o', u', ho', hu', hx', hb', he'⟩ | ⟨hn', o', u', ho', hu', hb', he'⟩
  · rw [he, he', Int32.le_antisymm (hb' _ _ ho hu hx) (hb _ _ ho' hu' hx')]
  · exact absurd hx (hn' _ _ ho hu)
  · exact absurd hx' (hn _ _ ho' hu')
  · rw [he, he', Int32.le_antisymm (hb' _ _ ho hu) (hb _ _ ho' hu')]
noncomputable def bh (mm : Nat → Nat) (x : Int32) : Int64 := Classical.epsilon (fun r => IsBeh mm x r)
theorem bh_eq {mm : Nat → Nat} {x : Int32} {r : Int64} (h : IsBeh mm x r) : r = bh mm x := IsBeh.one h (Classical.epsilon_spec (p := fun r => IsBeh mm x r) ⟨r, h⟩)
noncomputable def shS (mm : Nat → Nat) (n : Nat) : Nat → Int64
  | 0 => 0
  | v + 1 => shS mm n v + bh mm (Pt n v)
noncomputable def shrF (off : Int32) (mm : Nat → Nat) (node : Int32) : Int32 × Int64 := if node < 0 ∨ 8 ≤ node then (1, 0) else if ¬ off = 0 then (2, 0) else (0, shS mm node.toNatClampNeg (mm node.toNatClampNeg))
def HB (mm : Nat → Nat) (x : Int32) (n v : Nat) (b : Int32) : Prop := (b = -1 ∧ ∀ n' v', dn mm n v n' v' → ¬ Pt n' v' < x) ∨ (∃ o u, dn mm n v o u ∧ b = Pt o u ∧ Pt o u < x ∧ ∀ n' v', dn mm n v n' v' → Pt n' v' < x → Pt n' v' ≤ Pt o u)
def HG (mm : Nat → Nat) (n v : Nat) (g : Int32) : Prop := (g = 0 ∧ ∀ n' v', ¬ dn mm n v n' v') ∨ (∃ o u, dn mm n v o u ∧ g = Pt o u ∧ ∀ n' v', dn mm n v n' v' → Pt n' v' ≤ Pt o u)
section HBs
variable {mm : Nat → Nat} {x : Int32} {n v : Nat} {b g : Int32}
theorem HB.zero : HB mm x 0 0 (-1) := Or.inl ⟨rfl, fun _ _ h => absurd h dn_0⟩
theorem HG.zero : HG mm 0 0 0 := Or.inl ⟨rfl, fun _ _ h => absurd h dn_0⟩
theorem HB.skip (h : HB mm x n v b) (hp : ¬ Pt n v < x) : HB mm x n (v + 1) b := by
  rcases h with ⟨h1, h2⟩ | ⟨o, u, h1, h2, h3, h4⟩
  · refine Or.inl ⟨h1, fun n' v' hd => ?_⟩
    rcases dn_s hd with q | ⟨rfl, rfl⟩
    · exact h2 _ _ q
    · exact hp
  · refine Or.inr ⟨o, u, dn_w h1, h2, h3, fun n' v' hd hx => ?_⟩
    rcases dn_s hd with q | ⟨rfl, rfl⟩
    · exact h4 _ _ q hx
    · exact absurd hx hp
theorem HB.set (h : HB mm x n v b) (hn : n < 8) (hv : v < mm n) (hp : Pt n v < x) (hc : b < Pt n v) : HB mm x n (v + 1) (Pt n v) := by
  refine Or.inr ⟨n, v, dn_x hn hv, rfl, hp, fun n' v' hd hx => ?_⟩
  rcases dn_s hd with q | ⟨rfl, rfl⟩
  · rcases h with ⟨h1, h2⟩ | ⟨o, u, h1, h2, h3, h4⟩
    · exact absurd hx (h2 _ _ q)
    · rw [h2] at hc; exact Int32.le_trans (h4 _ _ q hx) (Int32.le_of_lt hc)
  · exact Int32.le_refl _
theorem HB.keep (h : HB mm x n v b) (hn : n < 8) (hv : v < mm n) (hm : MM mm) (hp : ¬ b < Pt n v) : HB mm x n (v + 1) b := by
  rcases h with ⟨h1, h2⟩ | ⟨o, u, h1, h2, h3, h4⟩
  · have h0 := Pt_0 hn (Nat.lt_of_lt_of_le hv (hm.1 n hn))
    rw [h1] at hp
    exact absurd (Int32.lt_of_lt_of_le (show (-1 : Int32) < 0 by decide) h0) hp
  · refine Or.inr ⟨o, u, dn_w h1, h2, h3, fun n' v' hd hx => ?_⟩
    rcases dn_s hd with q | ⟨rfl, rfl⟩
    · exact h4 _ _ q hx
    · rw [h2] at hp; exact Int32.not_lt.mp hp
theorem HG.set (h : HG mm n v g) (hn : n < 8) (hv : v < mm n) (hc : g < Pt n v) : HG mm n (v + 1) (Pt n v) := by
  refine Or.inr ⟨n, v, dn_x hn hv, rfl, fun n' v' hd => ?_⟩
  rcases dn_s hd with q | ⟨rfl, rfl⟩
  · rcases h with ⟨h1, h2⟩ | ⟨o, u, h1, h2, h4⟩
    · exact absurd q (h2 _ _)
    · rw [h2] at hc; exact Int32.le_trans (h4 _ _ q) (Int32.le_of_lt hc)
  · exact Int32.le_refl _
theorem HG.keep (h : HG mm n v g) (hn : n < 8) (hv : v < mm n) (hm : MM mm) (hp : ¬ g < Pt n v) : HG mm n (v + 1) g := by
  rcases h with ⟨h1, h2⟩ | ⟨o, u, h1, h2, h4⟩
  · have h0 := Pt_0 hn (Nat.lt_of_lt_of_le hv (hm.1 n hn))
    rw [h1] at hp
    refine Or.inr ⟨n, v, dn_x hn hv, by rw [h1]; exact Int32.le_antisymm h0 (Int32.not_lt.mp hp), fun n' v' hd => ?_⟩
    rcases dn_s hd with q | ⟨rfl, rfl⟩
    · exact absurd q (h2 _ _)
    · exact Int32.le_refl _
  · refine Or.inr ⟨o, u, dn_w h1, h2, fun n' v' hd => ?_⟩
    rcases dn_s hd with q | ⟨rfl, rfl⟩
    · exact h4 _ _ q
    · rw [h2] at hp; exact Int32.not_lt.mp hp
theorem HB.next (h : HB mm x n (mm n) b) : HB mm x (n + 1) 0 b := by
  rcases h with ⟨h1, h2⟩ | ⟨o, u, h1, h2, h3, h4⟩
  · exact Or.inl ⟨h1, fun n' v' hd => h2 _ _ (dn_n hd)⟩
  · exact Or.inr ⟨o, u, dn_m h1, h2, h3, fun n' v' hd hx => h4 _ _ (dn_n hd) hx⟩
theorem HG.next (h : HG mm n (mm n) g) : HG mm (n + 1) 0 g := by
  rcases h with ⟨h1, h2⟩ | ⟨o, u, h1, h2, h4⟩
  · exact Or.inl ⟨h1, fun n' v' hd => h2 _ _ (dn_n hd)⟩
  · exact Or.inr ⟨o, u, dn_m h1, h2, fun n' v' hd => h4 _ _ (dn_n hd)⟩
theorem beh_a (h : HB mm x 8 0 b) (hm : MM mm) (hb : ¬ b < 0) : (x : Int32).toInt64 - (b : Int32).toInt64 = bh mm x := by
  rcases h with ⟨h1, h2⟩ | ⟨o, u, h1, h2, h3, h4⟩
  · rw [h1] at hb; exact absurd (by decide) hb
  · exact bh_eq (Or.inl ⟨o, u, h1.1, h1.2.1, h3, fun n' v' a1 a2 a3 => h4 _ _ (dn_8 a1 a2) a3, by rw [h2]⟩)
theorem beh_b (h : HB mm x 8 0 b) (hg : HG mm 8 0 g) (hm : MM mm) (hb : b < 0) : (x : Int32).toInt64 + 2147483648 - (g : Int32).toInt64 = bh mm x := by
  have hno : ∀ n' v', n' < 8 → v' < mm n' → ¬ Pt n' v' < x := by
    rcases h with ⟨h1, h2⟩ | ⟨o, u, h1, h2, h3, h4⟩
    · exact fun n' v' a1 a2 => h2 _ _ (dn_8 a1 a2)
    · rw [h2] at hb
      exact absurd hb (Int32.not_lt.mpr (Pt_0 h1.1 (Nat.lt_of_lt_of_le h1.2.1 (hm.1 _ h1.1))))
  rcases hg with ⟨h1, h2⟩ | ⟨o, u, h1, h2, h4⟩
  · obtain ⟨n, hn, hp⟩ := hm.2
    exact absurd (dn_8 hn hp) (h2 _ _)
  · exact bh_eq (Or.inr ⟨hno, o, u, h1.1, h1.2.1, fun n' v' a1 a2 => h4 _ _ (dn_8 a1 a2), by rw [h2]⟩)
end HBs

set_option maxHeartbeats 4000000 in
set_option maxRecDepth 100000 in
theorem c_X5_behind (l : Launch) (D : va_G) (cI cZ cS cJ : ClassId) (sz : Nat) (G : Nat → Nat) (code off left wr rc : Int32) (mem oth ks vs sx : Nat → Int32) (pl ps : Int32) (pk sr tg fl xs : Nat → Int32) (mm : Nat → Nat) (hmm : ∀ n, n < 8 → mem n = nI (mm n)) (hM : MM mm) (x : Int32) : Met l yX5_behind (Cond.code yX5_behind cX5_behind 7 (some .long) :: TB) ({ frames := 2, cells := 0, slots := 0, locals := 44 } : Room) (va_Pc [.ref (G 0), .int x] (PB D (KT cI cZ cS cJ) (mW cI cZ G code off left wr rc mem oth ks vs sx pl ps pk sr tg fl xs) sz)) (va_Ql (fun r (_ : Unit) => r = bh mm x) (fun (_ : Unit) t => va_P D vwCl (mW cI cZ G code off left wr rc mem oth ks vs sx pl ps pk sr tg fl xs) t.heap) (va_A (mW cI cZ G code off left wr rc mem oth ks vs sx pl ps pk sr tg fl xs) sz)) 0 0 (va_A (mW cI cZ G code off left wr rc mem oth ks vs sx pl ps pk sr tg fl xs) sz) := by
  refine Met.ofW (cc := cX5_behind) (maxL := 7) (ret := (some .long)) (by decide) rfl ?_
  intro p e s m args below meth c s₁ B hml hv
  obtain ⟨rfl, hsz, hP, hK, hD0⟩ := hv
  have hx := B.exec
  have hb := B.bytes
  have hr := B.returns
  have hts := atoms_spec (ws := (Cond.code yX5_behind cX5_behind 7 (some .long) :: TB)) B.pre
  have ht : ∀ w ∈ TB, w.before _ s = true := fun w h => hts w (List.mem_cons_of_mem _ h)
  have hown : s.vm.findClass RX5 = some m.cls := findClass_of_methodNamed B.named
  have hlocks := B.notSynchronized
  subst hsz
  have hD := hD0.self (sz := s.heap.size)
  generalize hAe : va_A (mW cI cZ G code off left wr rc mem oth ks vs sx pl ps pk sr tg fl xs) s.heap.size = A at hD ⊢
  have hA : ∀ q : Nat, s.heap.size ≤ q → A q := fun q h => by rw [← hAe]; exact Or.inr h
  have hS : va_S A s.heap s.heap [] := va_S.rf
  have hP : va_P D vwCl (mW cI cZ G code off left wr rc mem oth ks vs sx pl ps pk sr tg fl xs) s.heap := hP
  have hl := lv_entry ([.ref (G 0), .int x]) (n := 7) (Nat.le_of_ble_eq_true rfl)
  rw [lg_entry_eq]
  generalize (lg_sl ([.ref (G 0), .int x]) ++ List.replicate (7 - (lg_sl ([.ref (G 0), .int x])).length) Slot.unset).toArray = ls at hl ⊢
  have hl : lv_has ls 7 [(0, .ref (G 0)), (1, .int x)] := hl
  refine lv_iconst (v := (-1)) hx hb dX5_behind_0 (by decide) ?_
  refine lv_istore_n (lv' := [(2, .int (-1)), (0, .ref (G 0)), (1, .int x)]) hx hb dX5_behind_1 rfl hl (by decide) rfl (fun ls hl => ?_)
  refine lv_iconst (v := 0) hx hb dX5_behind_2 (by decide) ?_
  refine lv_istore_n (lv' := [(3, .int 0), (2, .int (-1)), (0, .ref (G 0)), (1, .int x)]) hx hb dX5_behind_3 rfl hl (by decide) rfl (fun ls hl => ?_)
  refine lv_iconst (v := 0) hx hb dX5_behind_4 (by decide) ?_
  refine lv_istore (lv' := [(4, .int 0), (3, .int 0), (2, .int (-1)), (0, .ref (G 0)), (1, .int x)]) hx hb dX5_behind_5 hl (by decide) rfl (fun ls hl => ?_)
  refine lpB (pc := 7) (ι := Nat × Int32 × Int32) (fun z H locs k9 n9 ls => lv_has ls 7 [(4, .int (nI z.1)), (3, .int z.2.2), (2, .int z.2.1), (0, .ref (G 0)), (1, .int x)] ∧ va_P D vwCl (mW cI cZ G code off left wr rc mem oth ks vs sx pl ps pk sr tg fl xs) H ∧ va_D A (mW cI cZ G code off left wr rc mem oth ks vs sx pl ps pk sr tg fl xs) ∧ va_S A s.heap H locs ∧ k9 = 0 ∧ n9 = 0 ∧ z.1 ≤ 8 ∧ HB mm x z.1 0 z.2.1 ∧ HG mm z.1 0 z.2.2) (fun z => 8 - z.1) (0, (-1), 0) (⟨lv_sub hl [0, 1, 2, 3, 4] rfl, by exact hP, by exact hD, hS, rfl, rfl, ⟨by omega, HB.zero, HG.zero⟩⟩) ?_
  intro z H locs k9 n9 ls hI ih7
  obtain ⟨n, bf, gr⟩ := z
  obtain ⟨hl, hP, hD, hS, e9, e8, hinv⟩ := hI
  subst e9
  subst e8
  have hP : va_P D vwCl (mW cI cZ G code off left wr rc mem oth ks vs sx pl ps pk sr tg fl xs) H := hP
  have hD : va_D A (mW cI cZ G code off left wr rc mem oth ks vs sx pl ps pk sr tg fl xs) := hD
  have hl : lv_has ls 7 [(4, .int (nI n)), (3, .int gr), (2, .int bf), (0, .ref (G 0)), (1, .int x)] := hl
  obtain ⟨hn8, hHB, hHG⟩ : n ≤ 8 ∧ HB mm x n 0 bf ∧ HG mm n 0 gr := hinv
  refine lv_iload hx hb dX5_behind_7 (lv_at hl 0 rfl) ?_
  refine lv_bipush (v := 8) hx hb dX5_behind_9 (by decide) ?_
  refine lv_icmp_ge (tgt := 82) hx hb dX5_behind_11 (by decide) (fun c11 => ?_) (fun c11 => ?_)
  · have hn9 : n = 8 := by
      rcases Nat.lt_or_ge n 8 with q | q
      · exact absurd c11 (show ¬ nI 8 ≤ nI n from nI_ge q (by decide))
      · omega
    subst hn9
    refine lv_iload_n hx hb dX5_behind_82 rfl (lv_at hl 2 rfl) ?_
    refine lv_if_lt (tgt := 94) hx hb dX5_behind_83 (by decide) (fun c83 => ?_) (fun c83 => ?_)
    · refine lv_iload_n hx hb dX5_behind_94 rfl (lv_at hl 4 rfl) ?_
      refine lv_i2l (v := (x : Int32).toInt64) hx hb dX5_behind_95 rfl ?_
      refine lv_ldc2 (v := 2147483648) hx hb hown (ht _ kw4_81) dX5_behind_96 ?_
      refine lv_ladd hx hb dX5_behind_99 ?_
      refine lv_iload_n hx hb dX5_behind_100 rfl (lv_at hl 1 rfl) ?_
      refine lv_i2l (v := (gr : Int32).toInt64) hx hb dX5_behind_101 rfl ?_
      refine lv_lsub hx hb dX5_behind_102 ?_
      exact W.lret (v := (((x : Int32).toInt64) + 2147483648) - ((gr : Int32).toInt64)) hx hb hr (fun t ht2 hW => ⟨⟨(((x : Int32).toInt64) + 2147483648) - ((gr : Int32).toInt64), (), rfl, beh_b hHB hHG hM c83, by (try dsimp only); rw [ht2]; exact hP⟩, hS.F ht2⟩) hS.2.2 dX5_behind_103
    · refine lv_iload_n hx hb dX5_behind_86 rfl (lv_at hl 4 rfl) ?_
      refine lv_i2l (v := (x : Int32).toInt64) hx hb dX5_behind_87 rfl ?_
      refine lv_iload_n hx hb dX5_behind_88 rfl (lv_at hl 2 rfl) ?_
      refine lv_i2l (v := (bf : Int32).toInt64) hx hb dX5_behind_89 rfl ?_
      refine lv_lsub hx hb dX5_behind_90 ?_
      refine lv_goto (tgt := 103) hx hb dX5_behind_91 (by decide) ?_
      exact W.lret (v := ((x : Int32).toInt64) - ((bf : Int32).toInt64)) hx hb hr (fun t ht2 hW => ⟨⟨((x : Int32).toInt64) - ((bf : Int32).toInt64), (), rfl, beh_a hHB hM c83, by (try dsimp only); rw [ht2]; exact hP⟩, hS.F ht2⟩) hS.2.2 dX5_behind_103
  · have hn : n < 8 := by
      rcases Nat.lt_or_ge n 8 with q | q
      · exact q
      · exact absurd (show nI 8 ≤ nI n from nI_le q (by omega)) c11
    have hm16 := hM.1 n hn
    refine lv_iconst (v := 0) hx hb dX5_behind_14 (by decide) ?_
    refine lv_istore (lv' := [(5, .int 0), (4, .int (nI n)), (3, .int gr), (2, .int bf), (0, .ref (G 0)), (1, .int x)]) hx hb dX5_behind_15 hl (by decide) rfl (fun ls hl => ?_)
    refine lpB (pc := 17) (ι := Nat × Int32 × Int32) (fun z H locs k9 n9 ls => lv_has ls 7 [(5, .int (nI z.1)), (4, .int (nI n)), (3, .int z.2.2), (2, .int z.2.1), (0, .ref (G 0)), (1, .int x)] ∧ va_P D vwCl (mW cI cZ G code off left wr rc mem oth ks vs sx pl ps pk sr tg fl xs) H ∧ va_D A (mW cI cZ G code off left wr rc mem oth ks vs sx pl ps pk sr tg fl xs) ∧ va_S A s.heap H locs ∧ k9 = 0 ∧ n9 = 0 ∧ z.1 ≤ mm n ∧ HB mm x n z.1 z.2.1 ∧ HG mm n z.1 z.2.2) (fun z => mm n - z.1) (0, bf, gr) (⟨lv_sub hl [0, 1, 2, 3, 4, 5] rfl, by exact hP, by exact hD, hS, rfl, rfl, ⟨Nat.zero_le _, hHB, hHG⟩⟩) ?_
    intro z H locs k9 n9 ls hI ih17
    obtain ⟨v, bf, gr⟩ := z
    obtain ⟨hl, hP, hD, hS, e9, e8, hinv⟩ := hI
    subst e9
    subst e8
    have hP : va_P D vwCl (mW cI cZ G code off left wr rc mem oth ks vs sx pl ps pk sr tg fl xs) H := hP
    have hD : va_D A (mW cI cZ G code off left wr rc mem oth ks vs sx pl ps pk sr tg fl xs) := hD
    have hl : lv_has ls 7 [(5, .int (nI v)), (4, .int (nI n)), (3, .int gr), (2, .int bf), (0, .ref (G 0)), (1, .int x)] := hl
    obtain ⟨hvm, hHB, hHG⟩ : v ≤ mm n ∧ HB mm x n v bf ∧ HG mm n v gr := hinv
    refine lv_iload hx hb dX5_behind_17 (lv_at hl 0 rfl) ?_
    refine lv_aload_n hx hb dX5_behind_19 rfl (lv_at hl 4 rfl) ?_
    refine va_get (D := D) (ci := 5) (v := .ref (G 1)) (C := RX5) (T := TX5) (N := 17) hx hb ht inX5 hown hK hP 0 rfl rfl 5 (by decide) (ht _ kw3_85) (fun _ h9 => h9) rfl dX5_behind_20 ?_
    refine lv_iload hx hb dX5_behind_23 (lv_at hl 1 rfl) ?_
    refine ya_iald hx hb hK hP 1 0 rfl rfl n (rfl) (hn) (by decide) dX5_behind_25 ?_
    refine lv_icmp_ge (tgt := 76) hx hb dX5_behind_26 (by decide) (fun c26 => ?_) (fun c26 => ?_)
    · have hve : v = mm n := by
        rcases Nat.lt_or_ge v (mm n) with q | q
        · rw [hmm n hn] at c26; exact absurd c26 (nI_ge q (by omega))
        · omega
      refine lv_iinc (v := nI (n + 1)) (lv' := [(4, .int (nI (n + 1))), (5, .int (nI v)), (3, .int gr), (2, .int bf), (0, .ref (G 0)), (1, .int x)]) hx hb dX5_behind_76 hl (k := 1) rfl (by exact nI_1 n) (by decide) rfl (fun ls hl => ?_)
      refine lv_goto (tgt := 7) hx hb dX5_behind_79 (by decide) ?_
      exact ih7 (n + 1, bf, gr) _ _ _ _ ls (⟨lv_sub hl [0, 2, 3, 4, 5] rfl, by exact hP, by exact hD, hS, rfl, rfl, ⟨by omega, by rw [hve] at hHB; exact hHB.next, by rw [hve] at hHG; exact hHG.next⟩⟩) (by show _ - (n + 1) < _ - n; omega)
    · have hv : v < mm n := by
        rcases Nat.lt_or_ge v (mm n) with q | q
        · exact q
        · exact absurd (by rw [hmm n hn]; exact nI_le q (by omega)) c26
      refine lv_iload hx hb dX5_behind_29 (lv_at hl 1 rfl) ?_
      refine lv_iload hx hb dX5_behind_31 (lv_at hl 0 rfl) ?_
      have hPc : va_P D vwCl [] H := va_P.nil
      have hDc : va_D A [] := va_D.nil
      have hFc := va_free (wc := []) hD hS hA [] rfl
      refine va_calli (va_runS (As := [.int (nI n), .int (nI v)]) (rest := []) ⟨hx, hb, hml, hown, ht⟩ (c_X5_pointOf l D cI cZ cS cJ H.size (nI n) (nI v)) (xwS 2 ht kw3_170 kw3_168 kw1_11 kw3_169 rfl rfl (by decide +kernel) ⟨Nat.le_of_ble_eq_true rfl, Nat.le_of_ble_eq_true rfl⟩) ⟨PB.blind, fun U hU hW => PB.mk hU hW hPc hK hDc⟩ rfl rfl hl.1 rfl (lv_room (Nat.le_of_ble_eq_true rfl)) dX5_behind_33 ⟨Nat.le_of_ble_eq_true rfl, Nat.le_of_ble_eq_true rfl⟩) hS (fun q _ h => hFc q h) hFc (fun r33 u33 t33 H1 locs ht1 hvm w33 hB hz1 hk1 hS => ?_)
      try dsimp only at w33 hB
      rw [ht1] at hB
      have hP := wk_ro (wc := []) hP hD [] rfl hk1 va_P.nil
      generalize H1 = H at hP hS ⊢
      have w33 := w33.symm
      subst w33
      refine lv_istore (lv' := [(6, .int (Pt n v)), (5, .int (nI v)), (4, .int (nI n)), (3, .int gr), (2, .int bf), (0, .ref (G 0)), (1, .int x)]) hx hb dX5_behind_36 hl (by decide) rfl (fun ls hl => ?_)
      refine lv_iload hx hb dX5_behind_38 (lv_at hl 0 rfl) ?_
      refine lv_iload_n hx hb dX5_behind_40 rfl (lv_at hl 6 rfl) ?_
      refine lv_icmp_ge (tgt := 55) hx hb dX5_behind_41 (by decide) (fun c41 => ?_) (fun c41 => ?_)
      · refine lv_iload_n hx hb dX5_behind_55 rfl (lv_at hl 4 rfl) ?_
        refine lv_istore_n (lv' := [(2, .int bf), (6, .int (Pt n v)), (5, .int (nI v)), (4, .int (nI n)), (3, .int gr), (0, .ref (G 0)), (1, .int x)]) hx hb dX5_behind_56 rfl hl (by decide) rfl (fun ls hl => ?_)
        refine lv_iload hx hb dX5_behind_57 (lv_at hl 1 rfl) ?_
        refine lv_iload_n hx hb dX5_behind_59 rfl (lv_at hl 4 rfl) ?_
        refine lv_icmp_le (tgt := 68) hx hb dX5_behind_60 (by decide) (fun c60 => ?_) (fun c60 => ?_)
        · refine lv_iload_n hx hb dX5_behind_68 rfl (lv_at hl 4 rfl) ?_
          refine lv_istore_n (lv' := [(3, .int gr), (2, .int bf), (6, .int (Pt n v)), (5, .int (nI v)), (4, .int (nI n)), (0, .ref (G 0)), (1, .int x)]) hx hb dX5_behind_69 rfl hl (by decide) rfl (fun ls hl => ?_)
          refine lv_iinc (v := nI (v + 1)) (lv' := [(5, .int (nI (v + 1))), (3, .int gr), (2, .int bf), (6, .int (Pt n v)), (4, .int (nI n)), (0, .ref (G 0)), (1, .int x)]) hx hb dX5_behind_70 hl (k := 3) rfl (by exact nI_1 v) (by decide) rfl (fun ls hl => ?_)
          refine lv_goto (tgt := 17) hx hb dX5_behind_73 (by decide) ?_
          exact ih17 (v + 1, bf, gr) _ _ _ _ ls (⟨lv_sub hl [0, 4, 1, 2, 5, 6] rfl, by exact hP, by exact hD, hS, rfl, rfl, ⟨by omega, by first | exact hHB.skip (Int32.not_lt.mpr c41) | exact hHB.set hn hv (Int32.not_le.mp c41) (Int32.not_le.mp c47) | exact hHB.keep hn hv hM (Int32.not_lt.mpr c47), by first | exact hHG.set hn hv (Int32.not_le.mp c60) | exact hHG.keep hn hv hM (Int32.not_lt.mpr c60)⟩⟩) (by show _ - (v + 1) < _ - v; omega)
        · refine lv_iload hx hb dX5_behind_63 (lv_at hl 1 rfl) ?_
          refine lv_goto (tgt := 69) hx hb dX5_behind_65 (by decide) ?_
          refine lv_istore_n (lv' := [(3, .int (Pt n v)), (2, .int bf), (6, .int (Pt n v)), (5, .int (nI v)), (4, .int (nI n)), (0, .ref (G 0)), (1, .int x)]) hx hb dX5_behind_69 rfl hl (by decide) rfl (fun ls hl => ?_)
          refine lv_iinc (v := nI (v + 1)) (lv' := [(5, .int (nI (v + 1))), (3, .int (Pt n v)), (2, .int bf), (6, .int (Pt n v)), (4, .int (nI n)), (0, .ref (G 0)), (1, .int x)]) hx hb dX5_behind_70 hl (k := 3) rfl (by exact nI_1 v) (by decide) rfl (fun ls hl => ?_)
          refine lv_goto (tgt := 17) hx hb dX5_behind_73 (by decide) ?_
          exact ih17 (v + 1, bf, Pt n v) _ _ _ _ ls (⟨lv_sub hl [0, 4, 1, 2, 5, 6] rfl, by exact hP, by exact hD, hS, rfl, rfl, ⟨by omega, by first | exact hHB.skip (Int32.not_lt.mpr c41) | exact hHB.set hn hv (Int32.not_le.mp c41) (Int32.not_le.mp c47) | exact hHB.keep hn hv hM (Int32.not_lt.mpr c47), by first | exact hHG.set hn hv (Int32.not_le.mp c60) | exact hHG.keep hn hv hM (Int32.not_lt.mpr c60)⟩⟩) (by show _ - (v + 1) < _ - v; omega)
      · refine lv_iload hx hb dX5_behind_44 (lv_at hl 0 rfl) ?_
        refine lv_iload_n hx hb dX5_behind_46 rfl (lv_at hl 4 rfl) ?_
        refine lv_icmp_le (tgt := 55) hx hb dX5_behind_47 (by decide) (fun c47 => ?_) (fun c47 => ?_)
        · refine lv_iload_n hx hb dX5_behind_55 rfl (lv_at hl 4 rfl) ?_
          refine lv_istore_n (lv' := [(2, .int bf), (6, .int (Pt n v)), (5, .int (nI v)), (4, .int (nI n)), (3, .int gr), (0, .ref (G 0)), (1, .int x)]) hx hb dX5_behind_56 rfl hl (by decide) rfl (fun ls hl => ?_)
          refine lv_iload hx hb dX5_behind_57 (lv_at hl 1 rfl) ?_
          refine lv_iload_n hx hb dX5_behind_59 rfl (lv_at hl 4 rfl) ?_
          refine lv_icmp_le (tgt := 68) hx hb dX5_behind_60 (by decide) (fun c60 => ?_) (fun c60 => ?_)
          · refine lv_iload_n hx hb dX5_behind_68 rfl (lv_at hl 4 rfl) ?_
            refine lv_istore_n (lv' := [(3, .int gr), (2, .int bf), (6, .int (Pt n v)), (5, .int (nI v)), (4, .int (nI n)), (0, .ref (G 0)), (1, .int x)]) hx hb dX5_behind_69 rfl hl (by decide) rfl (fun ls hl => ?_)
            refine lv_iinc (v := nI (v + 1)) (lv' := [(5, .int (nI (v + 1))), (3, .int gr), (2, .int bf), (6, .int (Pt n v)), (4, .int (nI n)), (0, .ref (G 0)), (1, .int x)]) hx hb dX5_behind_70 hl (k := 3) rfl (by exact nI_1 v) (by decide) rfl (fun ls hl => ?_)
            refine lv_goto (tgt := 17) hx hb dX5_behind_73 (by decide) ?_
            exact ih17 (v + 1, bf, gr) _ _ _ _ ls (⟨lv_sub hl [0, 4, 1, 2, 5, 6] rfl, by exact hP, by exact hD, hS, rfl, rfl, ⟨by omega, by first | exact hHB.skip (Int32.not_lt.mpr c41) | exact hHB.set hn hv (Int32.not_le.mp c41) (Int32.not_le.mp c47) | exact hHB.keep hn hv hM (Int32.not_lt.mpr c47), by first | exact hHG.set hn hv (Int32.not_le.mp c60) | exact hHG.keep hn hv hM (Int32.not_lt.mpr c60)⟩⟩) (by show _ - (v + 1) < _ - v; omega)
          · refine lv_iload hx hb dX5_behind_63 (lv_at hl 1 rfl) ?_
            refine lv_goto (tgt := 69) hx hb dX5_behind_65 (by decide) ?_
            refine lv_istore_n (lv' := [(3, .int (Pt n v)), (2, .int bf), (6, .int (Pt n v)), (5, .int (nI v)), (4, .int (nI n)), (0, .ref (G 0)), (1, .int x)]) hx hb dX5_behind_69 rfl hl (by decide) rfl (fun ls hl => ?_)
            refine lv_iinc (v := nI (v + 1)) (lv' := [(5, .int (nI (v + 1))), (3, .int (Pt n v)), (2, .int bf), (6, .int (Pt n v)), (4, .int (nI n)), (0, .ref (G 0)), (1, .int x)]) hx hb dX5_behind_70 hl (k := 3) rfl (by exact nI_1 v) (by decide) rfl (fun ls hl => ?_)
            refine lv_goto (tgt := 17) hx hb dX5_behind_73 (by decide) ?_
            exact ih17 (v + 1, bf, Pt n v) _ _ _ _ ls (⟨lv_sub hl [0, 4, 1, 2, 5, 6] rfl, by exact hP, by exact hD, hS, rfl, rfl, ⟨by omega, by first | exact hHB.skip (Int32.not_lt.mpr c41) | exact hHB.set hn hv (Int32.not_le.mp c41) (Int32.not_le.mp c47) | exact hHB.keep hn hv hM (Int32.not_lt.mpr c47), by first | exact hHG.set hn hv (Int32.not_le.mp c60) | exact hHG.keep hn hv hM (Int32.not_lt.mpr c60)⟩⟩) (by show _ - (v + 1) < _ - v; omega)
        · refine lv_iload hx hb dX5_behind_50 (lv_at hl 0 rfl) ?_
          refine lv_goto (tgt := 56) hx hb dX5_behind_52 (by decide) ?_
          refine lv_istore_n (lv' := [(2, .int (Pt n v)), (6, .int (Pt n v)), (5, .int (nI v)), (4, .int (nI n)), (3, .int gr), (0, .ref (G 0)), (1, .int x)]) hx hb dX5_behind_56 rfl hl (by decide) rfl (fun ls hl => ?_)
          refine lv_iload hx hb dX5_behind_57 (lv_at hl 1 rfl) ?_
          refine lv_iload_n hx hb dX5_behind_59 rfl (lv_at hl 4 rfl) ?_
          refine lv_icmp_le (tgt := 68) hx hb dX5_behind_60 (by decide) (fun c60 => ?_) (fun c60 => ?_)
          · refine lv_iload_n hx hb dX5_behind_68 rfl (lv_at hl 4 rfl) ?_
            refine lv_istore_n (lv' := [(3, .int gr), (2, .int (Pt n v)), (6, .int (Pt n v)), (5, .int (nI v)), (4, .int (nI n)), (0, .ref (G 0)), (1, .int x)]) hx hb dX5_behind_69 rfl hl (by decide) rfl (fun ls hl => ?_)
            refine lv_iinc (v := nI (v + 1)) (lv' := [(5, .int (nI (v + 1))), (3, .int gr), (2, .int (Pt n v)), (6, .int (Pt n v)), (4, .int (nI n)), (0, .ref (G 0)), (1, .int x)]) hx hb dX5_behind_70 hl (k := 3) rfl (by exact nI_1 v) (by decide) rfl (fun ls hl => ?_)
            refine lv_goto (tgt := 17) hx hb dX5_behind_73 (by decide) ?_
            exact ih17 (v + 1, Pt n v, gr) _ _ _ _ ls (⟨lv_sub hl [0, 4, 1, 2, 5, 6] rfl, by exact hP, by exact hD, hS, rfl, rfl, ⟨by omega, by first | exact hHB.skip (Int32.not_lt.mpr c41) | exact hHB.set hn hv (Int32.not_le.mp c41) (Int32.not_le.mp c47) | exact hHB.keep hn hv hM (Int32.not_lt.mpr c47), by first | exact hHG.set hn hv (Int32.not_le.mp c60) | exact hHG.keep hn hv hM (Int32.not_lt.mpr c60)⟩⟩) (by show _ - (v + 1) < _ - v; omega)
          · refine lv_iload hx hb dX5_behind_63 (lv_at hl 1 rfl) ?_
            refine lv_goto (tgt := 69) hx hb dX5_behind_65 (by decide) ?_
            refine lv_istore_n (lv' := [(3, .int (Pt n v)), (2, .int (Pt n v)), (6, .int (Pt n v)), (5, .int (nI v)), (4, .int (nI n)), (0, .ref (G 0)), (1, .int x)]) hx hb dX5_behind_69 rfl hl (by decide) rfl (fun ls hl => ?_)
            refine lv_iinc (v := nI (v + 1)) (lv' := [(5, .int (nI (v + 1))), (3, .int (Pt n v)), (2, .int (Pt n v)), (6, .int (Pt n v)), (4, .int (nI n)), (0, .ref (G 0)), (1, .int x)]) hx hb dX5_behind_70 hl (k := 3) rfl (by exact nI_1 v) (by decide) rfl (fun ls hl => ?_)
            refine lv_goto (tgt := 17) hx hb dX5_behind_73 (by decide) ?_
            exact ih17 (v + 1, Pt n v, Pt n v) _ _ _ _ ls (⟨lv_sub hl [0, 4, 1, 2, 5, 6] rfl, by exact hP, by exact hD, hS, rfl, rfl, ⟨by omega, by first | exact hHB.skip (Int32.not_lt.mpr c41) | exact hHB.set hn hv (Int32.not_le.mp c41) (Int32.not_le.mp c47) | exact hHB.keep hn hv hM (Int32.not_lt.mpr c47), by first | exact hHG.set hn hv (Int32.not_le.mp c60) | exact hHG.keep hn hv hM (Int32.not_lt.mpr c60)⟩⟩) (by show _ - (v + 1) < _ - v; omega)

set_option maxHeartbeats 4000000 in
set_option maxRecDepth 100000 in
theorem c_X5_isFirst (l : Launch) (D : va_G) (cI cZ cS cJ : ClassId) (sz : Nat) (G : Nat → Nat) (code off left wr rc : Int32) (mem oth ks vs sx : Nat → Int32) (pl ps : Int32) (pk sr tg fl xs : Nat → Int32) (mm : Nat → Nat) (hmm : ∀ n, n < 8 → mem n = nI (mm n)) (hM : MM mm) (nd vd : Nat) (hnd : nd < 8) (hvd : vd < mm nd) : Met l yX5_isFirst (Cond.code yX5_isFirst cX5_isFirst 6 (some .boolean) :: TB) ({ frames := 2, cells := 0, slots := 0, locals := 44 } : Room) (va_Pc [.ref (G 0), .int (nI nd), .int (nI vd)] (PB D (KT cI cZ cS cJ) (mW cI cZ G code off left wr rc mem oth ks vs sx pl ps pk sr tg fl xs) sz)) (va_Qi (fun r (_ : Unit) => r = 1) (fun (_ : Unit) t => va_P D vwCl (mW cI cZ G code off left wr rc mem oth ks vs sx pl ps pk sr tg fl xs) t.heap) (va_A (mW cI cZ G code off left wr rc mem oth ks vs sx pl ps pk sr tg fl xs) sz)) 0 0 (va_A (mW cI cZ G code off left wr rc mem oth ks vs sx pl ps pk sr tg fl xs) sz) := by
  refine Met.ofW (cc := cX5_isFirst) (maxL := 6) (ret := (some .boolean)) (by decide) rfl ?_
  intro p e s m args below meth c s₁ B hml hv
  obtain ⟨rfl, hsz, hP, hK, hD0⟩ := hv
  have hx := B.exec
  have hb := B.bytes
  have hr := B.returns
  have hts := atoms_spec (ws := (Cond.code yX5_isFirst cX5_isFirst 6 (some .boolean) :: TB)) B.pre
  have ht : ∀ w ∈ TB, w.before _ s = true := fun w h => hts w (List.mem_cons_of_mem _ h)
  have hown : s.vm.findClass RX5 = some m.cls := findClass_of_methodNamed B.named
  have hlocks := B.notSynchronized
  subst hsz
  have hD := hD0.self (sz := s.heap.size)
  generalize hAe : va_A (mW cI cZ G code off left wr rc mem oth ks vs sx pl ps pk sr tg fl xs) s.heap.size = A at hD ⊢
  have hA : ∀ q : Nat, s.heap.size ≤ q → A q := fun q h => by rw [← hAe]; exact Or.inr h
  have hS : va_S A s.heap s.heap [] := va_S.rf
  have hP : va_P D vwCl (mW cI cZ G code off left wr rc mem oth ks vs sx pl ps pk sr tg fl xs) s.heap := hP
  have hl := lv_entry ([.ref (G 0), .int (nI nd), .int (nI vd)]) (n := 6) (Nat.le_of_ble_eq_true rfl)
  rw [lg_entry_eq]
  generalize (lg_sl ([.ref (G 0), .int (nI nd), .int (nI vd)]) ++ List.replicate (6 - (lg_sl ([.ref (G 0), .int (nI nd), .int (nI vd)])).length) Slot.unset).toArray = ls at hl ⊢
  have hl : lv_has ls 6 [(0, .ref (G 0)), (1, .int (nI nd)), (2, .int (nI vd))] := hl
  refine lv_iconst (v := 1) hx hb dX5_isFirst_0 (by decide) ?_
  refine lv_istore_n (lv' := [(3, .int 1), (0, .ref (G 0)), (1, .int (nI nd)), (2, .int (nI vd))]) hx hb dX5_isFirst_1 rfl hl (by decide) rfl (fun ls hl => ?_)
  refine lv_iconst (v := 0) hx hb dX5_isFirst_2 (by decide) ?_
  refine lv_istore (lv' := [(4, .int 0), (3, .int 1), (0, .ref (G 0)), (1, .int (nI nd)), (2, .int (nI vd))]) hx hb dX5_isFirst_3 hl (by decide) rfl (fun ls hl => ?_)
  refine lpB (pc := 5) (ι := Nat) (fun z H locs k9 n9 ls => lv_has ls 6 [(4, .int (nI z)), (3, .int 1), (0, .ref (G 0)), (1, .int (nI nd)), (2, .int (nI vd))] ∧ va_P D vwCl (mW cI cZ G code off left wr rc mem oth ks vs sx pl ps pk sr tg fl xs) H ∧ va_D A (mW cI cZ G code off left wr rc mem oth ks vs sx pl ps pk sr tg fl xs) ∧ va_S A s.heap H locs ∧ k9 = 0 ∧ n9 = 0 ∧ z ≤ nd + 1) (fun z => nd + 1 - z) 0 (⟨lv_sub hl [0, 1, 2, 3, 4] rfl, by exact hP, by exact hD, hS, rfl, rfl, Nat.zero_le _⟩) ?_
  intro z H locs k9 n9 ls hI ih5
  obtain ⟨n, e5⟩ : ∃ y, y = z := ⟨_, rfl⟩
  subst e5
  obtain ⟨hl, hP, hD, hS, e9, e8, hinv⟩ := hI
  subst e9
  subst e8
  have hP : va_P D vwCl (mW cI cZ G code off left wr rc mem oth ks vs sx pl ps pk sr tg fl xs) H := hP
  have hD : va_D A (mW cI cZ G code off left wr rc mem oth ks vs sx pl ps pk sr tg fl xs) := hD
  have hl : lv_has ls 6 [(4, .int (nI n)), (3, .int 1), (0, .ref (G 0)), (1, .int (nI nd)), (2, .int (nI vd))] := hl
  obtain hn8 : n ≤ nd + 1 := hinv
  refine lv_iload hx hb dX5_isFirst_5 (lv_at hl 0 rfl) ?_
  refine lv_iload_n hx hb dX5_isFirst_7 rfl (lv_at hl 3 rfl) ?_
  refine lv_icmp_gt (tgt := 75) hx hb dX5_isFirst_8 (by decide) (fun c8 => ?_) (fun c8 => ?_)
  · skip
    refine lv_iload_n hx hb dX5_isFirst_75 rfl (lv_at hl 1 rfl) ?_
    exact W.zret (v := 1) hx hb hr (by decide +kernel) (fun t ht2 hW => ⟨⟨1, (), rfl, rfl, by (try dsimp only); rw [ht2]; exact hP⟩, hS.F ht2⟩) hS.2.2 dX5_isFirst_76
  · have hn : n < 8 := by
      rcases Nat.lt_or_ge n (nd + 1) with q | q
      · omega
      · exact absurd (nI_lt (show nd < n by omega) (by omega)) c8
    have hnn : n ≤ nd := by
      rcases Nat.lt_or_ge nd n with q | q
      · exact absurd (nI_lt q (by omega)) c8
      · exact q
    have hm16 := hM.1 n hn
    have hd16 := hM.1 nd hnd
    refine lv_iconst (v := 0) hx hb dX5_isFirst_11 (by decide) ?_
    refine lv_istore (lv' := [(5, .int 0), (4, .int (nI n)), (3, .int 1), (0, .ref (G 0)), (1, .int (nI nd)), (2, .int (nI vd))]) hx hb dX5_isFirst_12 hl (by decide) rfl (fun ls hl => ?_)
    refine lpB (pc := 14) (ι := Nat) (fun z H locs k9 n9 ls => lv_has ls 6 [(5, .int (nI z)), (4, .int (nI n)), (3, .int 1), (0, .ref (G 0)), (1, .int (nI nd)), (2, .int (nI vd))] ∧ va_P D vwCl (mW cI cZ G code off left wr rc mem oth ks vs sx pl ps pk sr tg fl xs) H ∧ va_D A (mW cI cZ G code off left wr rc mem oth ks vs sx pl ps pk sr tg fl xs) ∧ va_S A s.heap H locs ∧ k9 = 0 ∧ n9 = 0 ∧ z ≤ mm n) (fun z => mm n - z) 0 (⟨lv_sub hl [0, 1, 2, 3, 4, 5] rfl, by exact hP, by exact hD, hS, rfl, rfl, Nat.zero_le _⟩) ?_
    intro z H locs k9 n9 ls hI ih14
    obtain ⟨v, e14⟩ : ∃ y, y = z := ⟨_, rfl⟩
    subst e14
    obtain ⟨hl, hP, hD, hS, e9, e8, hinv⟩ := hI
    subst e9
    subst e8
    have hP : va_P D vwCl (mW cI cZ G code off left wr rc mem oth ks vs sx pl ps pk sr tg fl xs) H := hP
    have hD : va_D A (mW cI cZ G code off left wr rc mem oth ks vs sx pl ps pk sr tg fl xs) := hD
    have hl : lv_has ls 6 [(5, .int (nI v)), (4, .int (nI n)), (3, .int 1), (0, .ref (G 0)), (1, .int (nI nd)), (2, .int (nI vd))] := hl
    obtain hvm : v ≤ mm n := hinv
    refine lv_iload hx hb dX5_isFirst_14 (lv_at hl 0 rfl) ?_
    refine lv_aload_n hx hb dX5_isFirst_16 rfl (lv_at hl 3 rfl) ?_
    refine va_get (D := D) (ci := 5) (v := .ref (G 1)) (C := RX5) (T := TX5) (N := 17) hx hb ht inX5 hown hK hP 0 rfl rfl 5 (by decide) (ht _ kw3_85) (fun _ h9 => h9) rfl dX5_isFirst_17 ?_
    refine lv_iload hx hb dX5_isFirst_20 (lv_at hl 1 rfl) ?_
    refine ya_iald hx hb hK hP 1 0 rfl rfl n (rfl) (hn) (by decide) dX5_isFirst_22 ?_
    refine lv_icmp_ge (tgt := 69) hx hb dX5_isFirst_23 (by decide) (fun c23 => ?_) (fun c23 => ?_)
    · have hve : v = mm n := by
        rcases Nat.lt_or_ge v (mm n) with q | q
        · rw [hmm n hn] at c23; exact absurd c23 (nI_ge q (by omega))
        · omega
      refine lv_iinc (v := nI (n + 1)) (lv' := [(4, .int (nI (n + 1))), (5, .int (nI v)), (3, .int 1), (0, .ref (G 0)), (1, .int (nI nd)), (2, .int (nI vd))]) hx hb dX5_isFirst_69 hl (k := 1) rfl (by exact nI_1 n) (by decide) rfl (fun ls hl => ?_)
      refine lv_goto (tgt := 5) hx hb dX5_isFirst_72 (by decide) ?_
      exact ih5 (n + 1) _ _ _ _ ls (⟨lv_sub hl [0, 2, 3, 4, 5] rfl, by exact hP, by exact hD, hS, rfl, rfl, by omega⟩) (by omega)
    · have hv : v < mm n := by
        rcases Nat.lt_or_ge v (mm n) with q | q
        · exact q
        · exact absurd (by rw [hmm n hn]; exact nI_le q (by omega)) c23
      refine lv_iload hx hb dX5_isFirst_26 (lv_at hl 1 rfl) ?_
      refine lv_iload_n hx hb dX5_isFirst_28 rfl (lv_at hl 4 rfl) ?_
      refine lv_icmp_lt (tgt := 38) hx hb dX5_isFirst_29 (by decide) (fun c29 => ?_) (fun c29 => ?_)
      · have hdf : n < nd ∨ v < vd := Or.inl ((nI_ltI (by omega) (by omega)).mp c29)
        refine lv_iload_n hx hb dX5_isFirst_38 rfl (lv_at hl 2 rfl) ?_
        refine lv_if_eq (tgt := 61) hx hb dX5_isFirst_39 (by decide) (fun c39 => by first | exact absurd c39 (by decide) | exact absurd (by decide) c39) (fun c39 => ?_)
        refine lv_iload hx hb dX5_isFirst_42 (lv_at hl 1 rfl) ?_
        refine lv_iload hx hb dX5_isFirst_44 (lv_at hl 0 rfl) ?_
        have hPc : va_P D vwCl [] H := va_P.nil
        have hDc : va_D A [] := va_D.nil
        have hFc := va_free (wc := []) hD hS hA [] rfl
        refine va_calli (va_runS (As := [.int (nI n), .int (nI v)]) (rest := []) ⟨hx, hb, hml, hown, ht⟩ (c_X5_pointOf l D cI cZ cS cJ H.size (nI n) (nI v)) (xwS 2 ht kw3_170 kw3_168 kw1_11 kw3_169 rfl rfl (by decide +kernel) ⟨Nat.le_of_ble_eq_true rfl, Nat.le_of_ble_eq_true rfl⟩) ⟨PB.blind, fun U hU hW => PB.mk hU hW hPc hK hDc⟩ rfl rfl hl.1 rfl (lv_room (Nat.le_of_ble_eq_true rfl)) dX5_isFirst_46 ⟨Nat.le_of_ble_eq_true rfl, Nat.le_of_ble_eq_true rfl⟩) hS (fun q _ h => hFc q h) hFc (fun r46 u46 t46 H1 locs ht1 hvm w46 hB hz1 hk1 hS => ?_)
        try dsimp only at w46 hB
        rw [ht1] at hB
        have hP := wk_ro (wc := []) hP hD [] rfl hk1 va_P.nil
        generalize H1 = H at hP hS ⊢
        have w46 := w46.symm
        subst w46
        refine lv_iload_n hx hb dX5_isFirst_49 rfl (lv_at hl 4 rfl) ?_
        refine lv_iload_n hx hb dX5_isFirst_50 rfl (lv_at hl 5 rfl) ?_
        have hPc : va_P D vwCl [] H := va_P.nil
        have hDc : va_D A [] := va_D.nil
        have hFc := va_free (wc := []) hD hS hA [] rfl
        refine va_calli (va_runS (As := [.int (nI nd), .int (nI vd)]) (rest := [.int (Pt n v)]) ⟨hx, hb, hml, hown, ht⟩ (c_X5_pointOf l D cI cZ cS cJ H.size (nI nd) (nI vd)) (xwS 2 ht kw3_170 kw3_168 kw1_11 kw3_169 rfl rfl (by decide +kernel) ⟨Nat.le_of_ble_eq_true rfl, Nat.le_of_ble_eq_true rfl⟩) ⟨PB.blind, fun U hU hW => PB.mk hU hW hPc hK hDc⟩ rfl rfl hl.1 rfl (lv_room (Nat.le_of_ble_eq_true rfl)) dX5_isFirst_51 ⟨Nat.le_of_ble_eq_true rfl, Nat.le_of_ble_eq_true rfl⟩) hS (fun q _ h => hFc q h) hFc (fun r51 u51 t51 H1 locs ht1 hvm w51 hB hz1 hk1 hS => ?_)
        try dsimp only at w51 hB
        rw [ht1] at hB
        have hP := wk_ro (wc := []) hP hD [] rfl hk1 va_P.nil
        generalize H1 = H at hP hS ⊢
        have w51 := w51.symm
        subst w51
        refine lv_icmp_eq (tgt := 61) hx hb dX5_isFirst_54 (by decide) (fun c54 => ?_) (fun c54 => ?_)
        · exact absurd (Pt_inj hn (by omega) hnd (by omega) c54) (by omega)
        · refine lv_iconst (v := 1) hx hb dX5_isFirst_57 (by decide) ?_
          refine lv_goto (tgt := 62) hx hb dX5_isFirst_58 (by decide) ?_
          refine lv_istore_n (lv' := [(3, .int 1), (5, .int (nI v)), (4, .int (nI n)), (0, .ref (G 0)), (1, .int (nI nd)), (2, .int (nI vd))]) hx hb dX5_isFirst_62 rfl hl (by decide) rfl (fun ls hl => ?_)
          refine lv_iinc (v := nI (v + 1)) (lv' := [(5, .int (nI (v + 1))), (3, .int 1), (4, .int (nI n)), (0, .ref (G 0)), (1, .int (nI nd)), (2, .int (nI vd))]) hx hb dX5_isFirst_63 hl (k := 1) rfl (by exact nI_1 v) (by decide) rfl (fun ls hl => ?_)
          refine lv_goto (tgt := 14) hx hb dX5_isFirst_66 (by decide) ?_
          exact ih14 (v + 1) _ _ _ _ ls (⟨lv_sub hl [0, 2, 1, 3, 4, 5] rfl, by exact hP, by exact hD, hS, rfl, rfl, by omega⟩) (by omega)
      · refine lv_iload hx hb dX5_isFirst_32 (lv_at hl 0 rfl) ?_
        refine lv_iload_n hx hb dX5_isFirst_34 rfl (lv_at hl 5 rfl) ?_
        refine lv_icmp_ge (tgt := 69) hx hb dX5_isFirst_35 (by decide) (fun c35 => ?_) (fun c35 => ?_)
        · refine lv_iinc (v := nI (n + 1)) (lv' := [(4, .int (nI (n + 1))), (5, .int (nI v)), (3, .int 1), (0, .ref (G 0)), (1, .int (nI nd)), (2, .int (nI vd))]) hx hb dX5_isFirst_69 hl (k := 1) rfl (by exact nI_1 n) (by decide) rfl (fun ls hl => ?_)
          refine lv_goto (tgt := 5) hx hb dX5_isFirst_72 (by decide) ?_
          exact ih5 (n + 1) _ _ _ _ ls (⟨lv_sub hl [0, 2, 3, 4, 5] rfl, by exact hP, by exact hD, hS, rfl, rfl, by omega⟩) (by omega)
        · have hdf : n < nd ∨ v < vd := Or.inr (by
            rcases Nat.lt_or_ge v vd with q | q
            · exact q
            · exact absurd (nI_le q (by omega)) c35)
          refine lv_iload_n hx hb dX5_isFirst_38 rfl (lv_at hl 2 rfl) ?_
          refine lv_if_eq (tgt := 61) hx hb dX5_isFirst_39 (by decide) (fun c39 => by first | exact absurd c39 (by decide) | exact absurd (by decide) c39) (fun c39 => ?_)
          refine lv_iload hx hb dX5_isFirst_42 (lv_at hl 1 rfl) ?_
          refine lv_iload hx hb dX5_isFirst_44 (lv_at hl 0 rfl) ?_
          have hPc : va_P D vwCl [] H := va_P.nil
          have hDc : va_D A [] := va_D.nil
          have hFc := va_free (wc := []) hD hS hA [] rfl
          refine va_calli (va_runS (As := [.int (nI n), .int (nI v)]) (rest := []) ⟨hx, hb, hml, hown, ht⟩ (c_X5_pointOf l D cI cZ cS cJ H.size (nI n) (nI v)) (xwS 2 ht kw3_170 kw3_168 kw1_11 kw3_169 rfl rfl (by decide +kernel) ⟨Nat.le_of_ble_eq_true rfl, Nat.le_of_ble_eq_true rfl⟩) ⟨PB.blind, fun U hU hW => PB.mk hU hW hPc hK hDc⟩ rfl rfl hl.1 rfl (lv_room (Nat.le_of_ble_eq_true rfl)) dX5_isFirst_46 ⟨Nat.le_of_ble_eq_true rfl, Nat.le_of_ble_eq_true rfl⟩) hS (fun q _ h => hFc q h) hFc (fun r46 u46 t46 H1 locs ht1 hvm w46 hB hz1 hk1 hS => ?_)
          try dsimp only at w46 hB
          rw [ht1] at hB
          have hP := wk_ro (wc := []) hP hD [] rfl hk1 va_P.nil
          generalize H1 = H at hP hS ⊢
          have w46 := w46.symm
          subst w46
          refine lv_iload_n hx hb dX5_isFirst_49 rfl (lv_at hl 4 rfl) ?_
          refine lv_iload_n hx hb dX5_isFirst_50 rfl (lv_at hl 5 rfl) ?_
          have hPc : va_P D vwCl [] H := va_P.nil
          have hDc : va_D A [] := va_D.nil
          have hFc := va_free (wc := []) hD hS hA [] rfl
          refine va_calli (va_runS (As := [.int (nI nd), .int (nI vd)]) (rest := [.int (Pt n v)]) ⟨hx, hb, hml, hown, ht⟩ (c_X5_pointOf l D cI cZ cS cJ H.size (nI nd) (nI vd)) (xwS 2 ht kw3_170 kw3_168 kw1_11 kw3_169 rfl rfl (by decide +kernel) ⟨Nat.le_of_ble_eq_true rfl, Nat.le_of_ble_eq_true rfl⟩) ⟨PB.blind, fun U hU hW => PB.mk hU hW hPc hK hDc⟩ rfl rfl hl.1 rfl (lv_room (Nat.le_of_ble_eq_true rfl)) dX5_isFirst_51 ⟨Nat.le_of_ble_eq_true rfl, Nat.le_of_ble_eq_true rfl⟩) hS (fun q _ h => hFc q h) hFc (fun r51 u51 t51 H1 locs ht1 hvm w51 hB hz1 hk1 hS => ?_)
          try dsimp only at w51 hB
          rw [ht1] at hB
          have hP := wk_ro (wc := []) hP hD [] rfl hk1 va_P.nil
          generalize H1 = H at hP hS ⊢
          have w51 := w51.symm
          subst w51
          refine lv_icmp_eq (tgt := 61) hx hb dX5_isFirst_54 (by decide) (fun c54 => ?_) (fun c54 => ?_)
          · exact absurd (Pt_inj hn (by omega) hnd (by omega) c54) (by omega)
          · refine lv_iconst (v := 1) hx hb dX5_isFirst_57 (by decide) ?_
            refine lv_goto (tgt := 62) hx hb dX5_isFirst_58 (by decide) ?_
            refine lv_istore_n (lv' := [(3, .int 1), (5, .int (nI v)), (4, .int (nI n)), (0, .ref (G 0)), (1, .int (nI nd)), (2, .int (nI vd))]) hx hb dX5_isFirst_62 rfl hl (by decide) rfl (fun ls hl => ?_)
            refine lv_iinc (v := nI (v + 1)) (lv' := [(5, .int (nI (v + 1))), (3, .int 1), (4, .int (nI n)), (0, .ref (G 0)), (1, .int (nI nd)), (2, .int (nI vd))]) hx hb dX5_isFirst_63 hl (k := 1) rfl (by exact nI_1 v) (by decide) rfl (fun ls hl => ?_)
            refine lv_goto (tgt := 14) hx hb dX5_isFirst_66 (by decide) ?_
            exact ih14 (v + 1) _ _ _ _ ls (⟨lv_sub hl [0, 2, 1, 3, 4, 5] rfl, by exact hP, by exact hD, hS, rfl, rfl, by omega⟩) (by omega)

set_option maxHeartbeats 4000000 in
set_option maxRecDepth 100000 in
theorem c_X5_share (l : Launch) (D : va_G) (cI cZ cS cJ : ClassId) (sz : Nat) (G : Nat → Nat) (code off left wr rc : Int32) (mem oth ks vs sx : Nat → Int32) (pl ps : Int32) (pk sr tg fl xs : Nat → Int32) (mm : Nat → Nat) (hmm : ∀ n, n < 8 → mem n = nI (mm n)) (hM : MM mm) (node : Int32) : Met l yX5_share (Cond.code yX5_share cX5_share 5 (some .long) :: TB) ({ frames := 3, cells := 0, slots := 0, locals := 70 } : Room) (va_Pc [.ref (G 0), .int node] (PB D (KT cI cZ cS cJ) (mW cI cZ G code off left wr rc mem oth ks vs sx pl ps pk sr tg fl xs) sz)) (va_Ql (fun r (_ : Unit) => r = (shrF off mm node).2) (fun (u : Unit) t => va_P D vwCl (mW cI cZ G ((shrF off mm node).1) off left wr rc mem oth ks vs sx pl ps pk sr tg fl xs) t.heap ∧ va_D (va_A (mW cI cZ G code off left wr rc mem oth ks vs sx pl ps pk sr tg fl xs) sz) (mW cI cZ G ((shrF off mm node).1) off left wr rc mem oth ks vs sx pl ps pk sr tg fl xs)) (va_A (mW cI cZ G code off left wr rc mem oth ks vs sx pl ps pk sr tg fl xs) sz)) 0 0 (va_A (mW cI cZ G code off left wr rc mem oth ks vs sx pl ps pk sr tg fl xs) sz) := by
  refine Met.ofW (cc := cX5_share) (maxL := 5) (ret := (some .long)) (by decide) rfl ?_
  intro p e s m args below meth c s₁ B hml hv
  obtain ⟨rfl, hsz, hP, hK, hD0⟩ := hv
  have hx := B.exec
  have hb := B.bytes
  have hr := B.returns
  have hts := atoms_spec (ws := (Cond.code yX5_share cX5_share 5 (some .long) :: TB)) B.pre
  have ht : ∀ w ∈ TB, w.before _ s = true := fun w h => hts w (List.mem_cons_of_mem _ h)
  have hown : s.vm.findClass RX5 = some m.cls := findClass_of_methodNamed B.named
  have hlocks := B.notSynchronized
  subst hsz
  have hD := hD0.self (sz := s.heap.size)
  generalize hAe : va_A (mW cI cZ G code off left wr rc mem oth ks vs sx pl ps pk sr tg fl xs) s.heap.size = A at hD ⊢
  have hA : ∀ q : Nat, s.heap.size ≤ q → A q := fun q h => by rw [← hAe]; exact Or.inr h
  have hS : va_S A s.heap s.heap [] := va_S.rf
  have hP : va_P D vwCl (mW cI cZ G code off left wr rc mem oth ks vs sx pl ps pk sr tg fl xs) s.heap := hP
  have hl := lv_entry ([.ref (G 0), .int node]) (n := 5) (Nat.le_of_ble_eq_true rfl)
  rw [lg_entry_eq]
  generalize (lg_sl ([.ref (G 0), .int node]) ++ List.replicate (5 - (lg_sl ([.ref (G 0), .int node])).length) Slot.unset).toArray = ls at hl ⊢
  have hl : lv_has ls 5 [(0, .ref (G 0)), (1, .int node)] := hl
  refine lv_aload_n hx hb dX5_share_0 rfl (lv_at hl 0 rfl) ?_
  refine lv_iload_n hx hb dX5_share_1 rfl (lv_at hl 1 rfl) ?_
  refine lv_if_lt (tgt := 11) hx hb dX5_share_2 (by decide) (fun c2 => ?_) (fun c2 => ?_)
  · have hnb : node < 0 ∨ 8 ≤ node := Or.inl c2
    refine lv_iconst (v := 1) hx hb dX5_share_11 (by decide) ?_
    refine lv_goto (tgt := 27) hx hb dX5_share_12 (by decide) ?_
    refine va_put (D := D) (ci := 5) (v := .int 1) (ty := .int) (C := RX5) (T := TX5) (N := 17) hx hb ht inX5 tyX5 tyX5_ok nmX5 hown hK hP hD hS 0 rfl rfl 0 (by decide) (ht _ kw3_80) (fun _ h9 => h9) rfl (by decide +kernel) (rfl) rfl (Nat.le_of_ble_eq_true rfl) dX5_share_27 (fun H locs hP hD hS => ?_)
    have hP : va_P D vwCl (mW cI cZ G 1 off left wr rc mem oth ks vs sx pl ps pk sr tg fl xs) H := hP
    have hD : va_D A (mW cI cZ G 1 off left wr rc mem oth ks vs sx pl ps pk sr tg fl xs) := hD
    refine lv_lconst (v := 0) hx hb dX5_share_30 (by decide) ?_
    refine lv_lstore_n (lv' := [(2, .long 0), (0, .ref (G 0)), (1, .int node)]) hx hb dX5_share_31 rfl hl (by decide) rfl (fun ls hl => ?_)
    refine lv_iconst (v := 0) hx hb dX5_share_32 (by decide) ?_
    refine lv_istore (lv' := [(4, .int 0), (2, .long 0), (0, .ref (G 0)), (1, .int node)]) hx hb dX5_share_33 hl (by decide) rfl (fun ls hl => ?_)
    refine lv_aload_n hx hb dX5_share_35 rfl (lv_at hl 2 rfl) ?_
    refine va_get (D := D) (ci := 5) (v := .int 1) (C := RX5) (T := TX5) (N := 17) hx hb ht inX5 hown hK hP 0 rfl rfl 0 (by decide) (ht _ kw3_80) (fun _ h9 => h9) rfl dX5_share_36 ?_
    refine lv_if_ne (tgt := 86) hx hb dX5_share_39 (by decide) (fun c39 => ?_) (fun c39 => by first | exact absurd c39 (by decide) | exact absurd (by decide) c39)
    refine lv_lload_n hx hb dX5_share_86 rfl (lv_at hl 1 rfl) ?_
    exact W.lret (v := 0) hx hb hr (fun t ht2 hW => ⟨⟨0, (), rfl, by
          (try dsimp only)
          (try dsimp only)
          unfold shrF
          rw [if_pos hnb]
          try (rw [hnc, hve]), by
          (try dsimp only)
          have e9 : (shrF off mm node).1 = 1 := by
            unfold shrF
            rw [if_pos hnb]
          rw [e9, ht2]
          exact ⟨hP, hD⟩⟩, hS.F ht2⟩) hS.2.2 dX5_share_87
  · refine lv_iload_n hx hb dX5_share_5 rfl (lv_at hl 1 rfl) ?_
    refine lv_bipush (v := 8) hx hb dX5_share_6 (by decide) ?_
    refine lv_icmp_lt (tgt := 15) hx hb dX5_share_8 (by decide) (fun c8 => ?_) (fun c8 => ?_)
    · have hnb : ¬ (node < 0 ∨ 8 ≤ node) := fun q => q.elim c2 (fun z => absurd c8 (Int32.not_lt.mpr z))
      obtain ⟨n, hn, hne, hnc⟩ := nb_in hnb
      subst hne
      have hm16 := hM.1 n hn
      refine lv_aload_n hx hb dX5_share_15 rfl (lv_at hl 0 rfl) ?_
      refine va_get (D := D) (ci := 5) (v := .int off) (C := RX5) (T := TX5) (N := 17) hx hb ht inX5 hown hK hP 0 rfl rfl 1 (by decide) (ht _ kw3_81) (fun _ h9 => h9) rfl dX5_share_16 ?_
      refine lv_if_eq (tgt := 26) hx hb dX5_share_19 (by decide) (fun c19 => ?_) (fun c19 => ?_)
      · have ho : ¬ ¬ off = 0 := fun q => q c19
        refine lv_iconst (v := 0) hx hb dX5_share_26 (by decide) ?_
        refine va_put (D := D) (ci := 5) (v := .int 0) (ty := .int) (C := RX5) (T := TX5) (N := 17) hx hb ht inX5 tyX5 tyX5_ok nmX5 hown hK hP hD hS 0 rfl rfl 0 (by decide) (ht _ kw3_80) (fun _ h9 => h9) rfl (by decide +kernel) (rfl) rfl (Nat.le_of_ble_eq_true rfl) dX5_share_27 (fun H locs hP hD hS => ?_)
        have hP : va_P D vwCl (mW cI cZ G 0 off left wr rc mem oth ks vs sx pl ps pk sr tg fl xs) H := hP
        have hD : va_D A (mW cI cZ G 0 off left wr rc mem oth ks vs sx pl ps pk sr tg fl xs) := hD
        refine lv_lconst (v := 0) hx hb dX5_share_30 (by decide) ?_
        refine lv_lstore_n (lv' := [(2, .long 0), (0, .ref (G 0)), (1, .int (nI n))]) hx hb dX5_share_31 rfl hl (by decide) rfl (fun ls hl => ?_)
        refine lv_iconst (v := 0) hx hb dX5_share_32 (by decide) ?_
        refine lv_istore (lv' := [(4, .int 0), (2, .long 0), (0, .ref (G 0)), (1, .int (nI n))]) hx hb dX5_share_33 hl (by decide) rfl (fun ls hl => ?_)
        refine lpB (pc := 35) (ι := Nat) (fun z H locs k9 n9 ls => lv_has ls 5 [(4, .int (nI z)), (2, .long (shS mm n z)), (0, .ref (G 0)), (1, .int (nI n))] ∧ va_P D vwCl (mW cI cZ G 0 off left wr rc mem oth ks vs sx pl ps pk sr tg fl xs) H ∧ va_D A (mW cI cZ G 0 off left wr rc mem oth ks vs sx pl ps pk sr tg fl xs) ∧ va_S A s.heap H locs ∧ k9 = 0 ∧ n9 = 0 ∧ z ≤ mm n) (fun z => mm n - z) 0 (⟨lv_sub hl [0, 1, 2, 3] rfl, by exact hP, by exact hD, hS, rfl, rfl, Nat.zero_le _⟩) ?_
        intro z H locs k9 n9 ls hI ih35
        obtain ⟨v, e35⟩ : ∃ y, y = z := ⟨_, rfl⟩
        subst e35
        obtain ⟨hl, hP, hD, hS, e9, e8, hinv⟩ := hI
        subst e9
        subst e8
        have hP : va_P D vwCl (mW cI cZ G 0 off left wr rc mem oth ks vs sx pl ps pk sr tg fl xs) H := hP
        have hD : va_D A (mW cI cZ G 0 off left wr rc mem oth ks vs sx pl ps pk sr tg fl xs) := hD
        have hl : lv_has ls 5 [(4, .int (nI v)), (2, .long (shS mm n v)), (0, .ref (G 0)), (1, .int (nI n))] := hl
        obtain hvm : v ≤ mm n := hinv
        refine lv_aload_n hx hb dX5_share_35 rfl (lv_at hl 2 rfl) ?_
        refine va_get (D := D) (ci := 5) (v := .int 0) (C := RX5) (T := TX5) (N := 17) hx hb ht inX5 hown hK hP 0 rfl rfl 0 (by decide) (ht _ kw3_80) (fun _ h9 => h9) rfl dX5_share_36 ?_
        refine lv_if_ne (tgt := 86) hx hb dX5_share_39 (by decide) (fun c39 => by first | exact absurd c39 (by decide) | exact absurd (by decide) c39) (fun c39 => ?_)
        refine lv_iload hx hb dX5_share_42 (lv_at hl 0 rfl) ?_
        refine lv_aload_n hx hb dX5_share_44 rfl (lv_at hl 2 rfl) ?_
        refine va_get (D := D) (ci := 5) (v := .ref (G 1)) (C := RX5) (T := TX5) (N := 17) hx hb ht inX5 hown hK hP 0 rfl rfl 5 (by decide) (ht _ kw3_85) (fun _ h9 => h9) rfl dX5_share_45 ?_
        refine lv_iload_n hx hb dX5_share_48 rfl (lv_at hl 3 rfl) ?_
        refine ya_iald hx hb hK hP 1 0 rfl rfl n (rfl) (hn) (by decide) dX5_share_49 ?_
        refine lv_icmp_ge (tgt := 86) hx hb dX5_share_50 (by decide) (fun c50 => ?_) (fun c50 => ?_)
        · have hve : v = mm n := by
            rcases Nat.lt_or_ge v (mm n) with q | q
            · rw [hmm n hn] at c50; exact absurd c50 (nI_ge q (by omega))
            · omega
          refine lv_lload_n hx hb dX5_share_86 rfl (lv_at hl 1 rfl) ?_
          exact W.lret (v := shS mm n v) hx hb hr (fun t ht2 hW => ⟨⟨shS mm n v, (), rfl, by
                (try dsimp only)
                (try dsimp only)
                unfold shrF
                rw [if_neg hnb, if_neg ho]
                try (rw [hnc, hve]), by
                (try dsimp only)
                have e9 : (shrF off mm (nI n)).1 = 0 := by
                  unfold shrF
                  rw [if_neg hnb, if_neg ho]
                rw [e9, ht2]
                exact ⟨hP, hD⟩⟩, hS.F ht2⟩) hS.2.2 dX5_share_87
        · have hv : v < mm n := by
            rcases Nat.lt_or_ge v (mm n) with q | q
            · exact q
            · exact absurd (by rw [hmm n hn]; exact nI_le q (by omega)) c50
          refine lv_aload_n hx hb dX5_share_53 rfl (lv_at hl 2 rfl) ?_
          refine lv_iload_n hx hb dX5_share_54 rfl (lv_at hl 3 rfl) ?_
          refine lv_iload hx hb dX5_share_55 (lv_at hl 0 rfl) ?_
          have hPc := hP.sub (ws' := mW cI cZ G 0 off left wr rc mem oth ks vs sx pl ps pk sr tg fl xs) [0, 1, 2, 3, 4, 5, 6, 7, 8, 9, 10] rfl
          have hDc := hD.sub (ws' := mW cI cZ G 0 off left wr rc mem oth ks vs sx pl ps pk sr tg fl xs) [0, 1, 2, 3, 4, 5, 6, 7, 8, 9, 10] (by decide) rfl
          have hFc := va_free (wc := mW cI cZ G 0 off left wr rc mem oth ks vs sx pl ps pk sr tg fl xs) hD hS hA [0, 1, 2, 3, 4, 5, 6, 7, 8, 9, 10] rfl
          refine va_calli (va_runV (As := [.int (nI n), .int (nI v)]) (rest := []) ⟨hx, hb, hml, hown, ht⟩ (c_X5_isFirst l D cI cZ cS cJ H.size G 0 off left wr rc mem oth ks vs sx pl ps pk sr tg fl xs mm hmm hM n v hn hv) (xwV 2 ht kw4_76 kw4_73 kw1_11 kw4_75 kwS_45 rfl rfl (by decide +kernel) ⟨Nat.le_of_ble_eq_true rfl, Nat.le_of_ble_eq_true rfl⟩) ⟨PB.blind, va_recv hK hPc (ci := 5) (q0 := 0) rfl rfl, fun U hU hW => PB.mk hU hW hPc hK hDc⟩ rfl rfl hl.1 rfl (lv_room (Nat.le_of_ble_eq_true rfl)) dX5_share_57 ⟨Nat.le_of_ble_eq_true rfl, Nat.le_of_ble_eq_true rfl⟩) hS (fun q _ h => hFc q h) hFc (fun r57 u57 t57 H1 locs ht1 hvm w57 hB hz1 hk1 hS => ?_)
          try dsimp only at w57 hB
          rw [ht1] at hB
          have hP := wk_ro hP hD [0, 1, 2, 3, 4, 5, 6, 7, 8, 9, 10] rfl hk1 hB
          generalize H1 = H at hP hS ⊢
          have w57 := w57.symm
          subst w57
          refine lv_if_eq (tgt := 78) hx hb dX5_share_60 (by decide) (fun c60 => by first | exact absurd c60 (by decide) | exact absurd (by decide) c60) (fun c60 => ?_)
          refine lv_lload_n hx hb dX5_share_63 rfl (lv_at hl 1 rfl) ?_
          refine lv_aload_n hx hb dX5_share_64 rfl (lv_at hl 2 rfl) ?_
          refine lv_iload_n hx hb dX5_share_65 rfl (lv_at hl 3 rfl) ?_
          refine lv_iload hx hb dX5_share_66 (lv_at hl 0 rfl) ?_
          have hPc : va_P D vwCl [] H := va_P.nil
          have hDc : va_D A [] := va_D.nil
          have hFc := va_free (wc := []) hD hS hA [] rfl
          refine va_calli (va_runS (As := [.int (nI n), .int (nI v)]) (rest := [.ref (G 0), .long (shS mm n v)]) ⟨hx, hb, hml, hown, ht⟩ (c_X5_pointOf l D cI cZ cS cJ H.size (nI n) (nI v)) (xwS 2 ht kw3_170 kw3_168 kw1_11 kw3_169 rfl rfl (by decide +kernel) ⟨Nat.le_of_ble_eq_true rfl, Nat.le_of_ble_eq_true rfl⟩) ⟨PB.blind, fun U hU hW => PB.mk hU hW hPc hK hDc⟩ rfl rfl hl.1 rfl (lv_room (Nat.le_of_ble_eq_true rfl)) dX5_share_68 ⟨Nat.le_of_ble_eq_true rfl, Nat.le_of_ble_eq_true rfl⟩) hS (fun q _ h => hFc q h) hFc (fun r68 u68 t68 H1 locs ht1 hvm w68 hB hz1 hk1 hS => ?_)
          try dsimp only at w68 hB
          rw [ht1] at hB
          have hP := wk_ro (wc := []) hP hD [] rfl hk1 va_P.nil
          generalize H1 = H at hP hS ⊢
          have w68 := w68.symm
          subst w68
          have hPc := hP.sub (ws' := mW cI cZ G 0 off left wr rc mem oth ks vs sx pl ps pk sr tg fl xs) [0, 1, 2, 3, 4, 5, 6, 7, 8, 9, 10] rfl
          have hDc := hD.sub (ws' := mW cI cZ G 0 off left wr rc mem oth ks vs sx pl ps pk sr tg fl xs) [0, 1, 2, 3, 4, 5, 6, 7, 8, 9, 10] (by decide) rfl
          have hFc := va_free (wc := mW cI cZ G 0 off left wr rc mem oth ks vs sx pl ps pk sr tg fl xs) hD hS hA [0, 1, 2, 3, 4, 5, 6, 7, 8, 9, 10] rfl
          refine va_calll (va_runV (As := [.int (Pt n v)]) (rest := [.long (shS mm n v)]) ⟨hx, hb, hml, hown, ht⟩ (c_X5_behind l D cI cZ cS cJ H.size G 0 off left wr rc mem oth ks vs sx pl ps pk sr tg fl xs mm hmm hM (Pt n v)) (xwV 1 ht kw4_80 kw4_77 kw1_11 kw4_79 kwS_46 rfl rfl (by decide +kernel) ⟨Nat.le_of_ble_eq_true rfl, Nat.le_of_ble_eq_true rfl⟩) ⟨PB.blind, va_recv hK hPc (ci := 5) (q0 := 0) rfl rfl, fun U hU hW => PB.mk hU hW hPc hK hDc⟩ rfl rfl hl.1 rfl (lv_room (Nat.le_of_ble_eq_true rfl)) dX5_share_71 ⟨Nat.le_of_ble_eq_true rfl, Nat.le_of_ble_eq_true rfl⟩) hS (fun q _ h => hFc q h) hFc (fun r71 u71 t71 H1 locs ht1 hvm w71 hB hz1 hk1 hS => ?_)
          try dsimp only at w71 hB
          rw [ht1] at hB
          have hP := wk_ro hP hD [0, 1, 2, 3, 4, 5, 6, 7, 8, 9, 10] rfl hk1 hB
          generalize H1 = H at hP hS ⊢
          have w71 := w71.symm
          subst w71
          refine lv_ladd hx hb dX5_share_74 ?_
          refine lv_goto (tgt := 79) hx hb dX5_share_75 (by decide) ?_
          refine W.eq (g2 := F0 m 79 ls [.long (shS mm n (v + 1))]) rfl ?_
          refine lv_lstore_n (lv' := [(2, .long (shS mm n (v + 1))), (4, .int (nI v)), (0, .ref (G 0)), (1, .int (nI n))]) hx hb dX5_share_79 rfl hl (by decide) rfl (fun ls hl => ?_)
          refine lv_iinc (v := nI (v + 1)) (lv' := [(4, .int (nI (v + 1))), (2, .long (shS mm n (v + 1))), (0, .ref (G 0)), (1, .int (nI n))]) hx hb dX5_share_80 hl (k := 1) rfl (by exact nI_1 v) (by decide) rfl (fun ls hl => ?_)
          refine lv_goto (tgt := 35) hx hb dX5_share_83 (by decide) ?_
          exact ih35 (v + 1) _ _ _ _ ls (⟨lv_sub hl [0, 1, 2, 3] rfl, by exact hP, by exact hD, hS, rfl, rfl, by omega⟩) (by omega)
      · have ho : ¬ off = 0 := c19
        refine lv_iconst (v := 2) hx hb dX5_share_22 (by decide) ?_
        refine lv_goto (tgt := 27) hx hb dX5_share_23 (by decide) ?_
        refine va_put (D := D) (ci := 5) (v := .int 2) (ty := .int) (C := RX5) (T := TX5) (N := 17) hx hb ht inX5 tyX5 tyX5_ok nmX5 hown hK hP hD hS 0 rfl rfl 0 (by decide) (ht _ kw3_80) (fun _ h9 => h9) rfl (by decide +kernel) (rfl) rfl (Nat.le_of_ble_eq_true rfl) dX5_share_27 (fun H locs hP hD hS => ?_)
        have hP : va_P D vwCl (mW cI cZ G 2 off left wr rc mem oth ks vs sx pl ps pk sr tg fl xs) H := hP
        have hD : va_D A (mW cI cZ G 2 off left wr rc mem oth ks vs sx pl ps pk sr tg fl xs) := hD
        refine lv_lconst (v := 0) hx hb dX5_share_30 (by decide) ?_
        refine lv_lstore_n (lv' := [(2, .long 0), (0, .ref (G 0)), (1, .int (nI n))]) hx hb dX5_share_31 rfl hl (by decide) rfl (fun ls hl => ?_)
        refine lv_iconst (v := 0) hx hb dX5_share_32 (by decide) ?_
        refine lv_istore (lv' := [(4, .int 0), (2, .long 0), (0, .ref (G 0)), (1, .int (nI n))]) hx hb dX5_share_33 hl (by decide) rfl (fun ls hl => ?_)
        refine lv_aload_n hx hb dX5_share_35 rfl (lv_at hl 2 rfl) ?_
        refine va_get (D := D) (ci := 5) (v := .int 2) (C := RX5) (T := TX5) (N := 17) hx hb ht inX5 hown hK hP 0 rfl rfl 0 (by decide) (ht _ kw3_80) (fun _ h9 => h9) rfl dX5_share_36 ?_
        refine lv_if_ne (tgt := 86) hx hb dX5_share_39 (by decide) (fun c39 => ?_) (fun c39 => by first | exact absurd c39 (by decide) | exact absurd (by decide) c39)
        refine lv_lload_n hx hb dX5_share_86 rfl (lv_at hl 1 rfl) ?_
        exact W.lret (v := 0) hx hb hr (fun t ht2 hW => ⟨⟨0, (), rfl, by
              (try dsimp only)
              (try dsimp only)
              unfold shrF
              rw [if_neg hnb, if_pos ho]
              try (rw [hnc, hve]), by
              (try dsimp only)
              have e9 : (shrF off mm (nI n)).1 = 2 := by
                unfold shrF
                rw [if_neg hnb, if_pos ho]
              rw [e9, ht2]
              exact ⟨hP, hD⟩⟩, hS.F ht2⟩) hS.2.2 dX5_share_87
    · have hnb : node < 0 ∨ 8 ≤ node := Or.inr (Int32.not_lt.mp c8)
      refine lv_iconst (v := 1) hx hb dX5_share_11 (by decide) ?_
      refine lv_goto (tgt := 27) hx hb dX5_share_12 (by decide) ?_
      refine va_put (D := D) (ci := 5) (v := .int 1) (ty := .int) (C := RX5) (T := TX5) (N := 17) hx hb ht inX5 tyX5 tyX5_ok nmX5 hown hK hP hD hS 0 rfl rfl 0 (by decide) (ht _ kw3_80) (fun _ h9 => h9) rfl (by decide +kernel) (rfl) rfl (Nat.le_of_ble_eq_true rfl) dX5_share_27 (fun H locs hP hD hS => ?_)
      have hP : va_P D vwCl (mW cI cZ G 1 off left wr rc mem oth ks vs sx pl ps pk sr tg fl xs) H := hP
      have hD : va_D A (mW cI cZ G 1 off left wr rc mem oth ks vs sx pl ps pk sr tg fl xs) := hD
      refine lv_lconst (v := 0) hx hb dX5_share_30 (by decide) ?_
      refine lv_lstore_n (lv' := [(2, .long 0), (0, .ref (G 0)), (1, .int node)]) hx hb dX5_share_31 rfl hl (by decide) rfl (fun ls hl => ?_)
      refine lv_iconst (v := 0) hx hb dX5_share_32 (by decide) ?_
      refine lv_istore (lv' := [(4, .int 0), (2, .long 0), (0, .ref (G 0)), (1, .int node)]) hx hb dX5_share_33 hl (by decide) rfl (fun ls hl => ?_)
      refine lv_aload_n hx hb dX5_share_35 rfl (lv_at hl 2 rfl) ?_
      refine va_get (D := D) (ci := 5) (v := .int 1) (C := RX5) (T := TX5) (N := 17) hx hb ht inX5 hown hK hP 0 rfl rfl 0 (by decide) (ht _ kw3_80) (fun _ h9 => h9) rfl dX5_share_36 ?_
      refine lv_if_ne (tgt := 86) hx hb dX5_share_39 (by decide) (fun c39 => ?_) (fun c39 => by first | exact absurd c39 (by decide) | exact absurd (by decide) c39)
      refine lv_lload_n hx hb dX5_share_86 rfl (lv_at hl 1 rfl) ?_
      exact W.lret (v := 0) hx hb hr (fun t ht2 hW => ⟨⟨0, (), rfl, by
            (try dsimp only)
            (try dsimp only)
            unfold shrF
            rw [if_pos hnb]
            try (rw [hnc, hve]), by
            (try dsimp only)
            have e9 : (shrF off mm node).1 = 1 := by
              unfold shrF
              rw [if_pos hnb]
            rw [e9, ht2]
            exact ⟨hP, hD⟩⟩, hS.F ht2⟩) hS.2.2 dX5_share_87
