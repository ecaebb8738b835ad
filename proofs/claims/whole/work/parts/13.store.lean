-- the reference: store, takeOff, writes, record, isOff
theorem fu_id {α : Type} (f : Nat → α) (n : Nat) : fu f n (f n) = f := by
  funext k; unfold fu; split
  next h => rw [h]
  next h => rfl
theorem RS.del_n {st : Nat → List (Int32 × Int32)} {ks vs sz : Nat → Int32} (h : RS st ks vs sz) {n : Nat} {key : Int32} (hh : ¬ hs (st n) key = true) : RS (fu st n (del (st n) key)) ks vs sz := by
  have e : del (st n) key = st n := by unfold del; rw [if_neg hh]
  rw [e, fu_id]; exact h
def wOk (left : Int32) : Int32 := if left = 0 then 0 else 1
def wOff (left off : Int32) : Int32 := if left = 0 then 1 else off
def wLeft (left : Int32) : Int32 := if 0 < left then left - 1 else left
def wInc (left x : Int32) : Int32 := if left = 0 then x else x + 1

set_option maxHeartbeats 4000000 in
set_option maxRecDepth 100000 in
theorem c_X5_store (l : Launch) (D : va_G) (cI cZ cS cJ : ClassId) (sz : Nat) (G : Nat → Nat) (code off left wr rc : Int32) (mem oth ks vs sx : Nat → Int32) (pl ps : Int32) (pk sr tg fl xs : Nat → Int32) (st : Nat → List (Int32 × Int32)) (hst : RS st ks vs sx) (n : Nat) (hn : n < 8) (key v : Int32) (hlen : (st n).length < 1000) : Met l yX5_store (Cond.code yX5_store cX5_store 6 none :: TB) ({ frames := 2, cells := 0, slots := 0, locals := 46 } : Room) (va_Pc [.ref (G 0), .int (nI n), .int key, .int v] (PB D (KT cI cZ cS cJ) (mW cI cZ G code off left wr rc mem oth ks vs sx pl ps pk sr tg fl xs) sz)) (va_Qv (fun (u : (Nat → Int32) × (Nat → Int32) × (Nat → Int32)) => RS (fu st n (ins (st n) key v)) u.1 u.2.1 u.2.2) (fun (u : (Nat → Int32) × (Nat → Int32) × (Nat → Int32)) t => va_P D vwCl (mW cI cZ G code off left wr rc mem oth u.1 u.2.1 u.2.2 pl ps pk sr tg fl xs) t.heap ∧ va_D (va_A (mW cI cZ G code off left wr rc mem oth ks vs sx pl ps pk sr tg fl xs) sz) (mW cI cZ G code off left wr rc mem oth u.1 u.2.1 u.2.2 pl ps pk sr tg fl xs)) (va_A (mW cI cZ G code off left wr rc mem oth ks vs sx pl ps pk sr tg fl xs) sz)) 0 0 (va_A (mW cI cZ G code off left wr rc mem oth ks vs sx pl ps pk sr tg fl xs) sz) := by
  refine Met.ofW (cc := cX5_store) (maxL := 6) (ret := none) (by decide) rfl ?_
  intro p e s m args below meth c s₁ B hml hv
  obtain ⟨rfl, hsz, hP, hK, hD0⟩ := hv
  have hx := B.exec
  have hb := B.bytes
  have hr := B.returns
  have hts := atoms_spec (ws := (Cond.code yX5_store cX5_store 6 none :: TB)) B.pre
  have ht : ∀ w ∈ TB, w.before _ s = true := fun w h => hts w (List.mem_cons_of_mem _ h)
  have hown : s.vm.findClass RX5 = some m.cls := findClass_of_methodNamed B.named
  have hlocks := B.notSynchronized
  subst hsz
  have hD := hD0.self (sz := s.heap.size)
  generalize hAe : va_A (mW cI cZ G code off left wr rc mem oth ks vs sx pl ps pk sr tg fl xs) s.heap.size = A at hD ⊢
  have hA : ∀ q : Nat, s.heap.size ≤ q → A q := fun q h => by rw [← hAe]; exact Or.inr h
  have hS : va_S A s.heap s.heap [] := va_S.rf
  have hP : va_P D vwCl (mW cI cZ G code off left wr rc mem oth ks vs sx pl ps pk sr tg fl xs) s.heap := hP
  have hl := lv_entry ([.ref (G 0), .int (nI n), .int key, .int v]) (n := 6) (Nat.le_of_ble_eq_true rfl)
  rw [lg_entry_eq]
  generalize (lg_sl ([.ref (G 0), .int (nI n), .int key, .int v]) ++ List.replicate (6 - (lg_sl ([.ref (G 0), .int (nI n), .int key, .int v])).length) Slot.unset).toArray = ls at hl ⊢
  have hl : lv_has ls 6 [(0, .ref (G 0)), (1, .int (nI n)), (2, .int key), (3, .int v)] := hl
  refine lv_aload_n hx hb dX5_store_0 rfl (lv_at hl 0 rfl) ?_
  refine lv_iload_n hx hb dX5_store_1 rfl (lv_at hl 1 rfl) ?_
  refine lv_iload_n hx hb dX5_store_2 rfl (lv_at hl 2 rfl) ?_
  have hPc := hP.sub (ws' := mW cI cZ G code off left wr rc mem oth ks vs sx pl ps pk sr tg fl xs) [0, 1, 2, 3, 4, 5, 6, 7, 8, 9, 10] rfl
  have hDc := hD.sub (ws' := mW cI cZ G code off left wr rc mem oth ks vs sx pl ps pk sr tg fl xs) [0, 1, 2, 3, 4, 5, 6, 7, 8, 9, 10] (by decide) rfl
  have hFc := va_free (wc := mW cI cZ G code off left wr rc mem oth ks vs sx pl ps pk sr tg fl xs) hD hS hA [0, 1, 2, 3, 4, 5, 6, 7, 8, 9, 10] rfl
  refine va_calli (va_runV (As := [.int (nI n), .int key]) (rest := []) ⟨hx, hb, hml, hown, ht⟩ (c_X5_find l D cI cZ cS cJ s.heap.size G code off left wr rc mem oth ks vs sx pl ps pk sr tg fl xs st hst n hn key) (xwV 2 ht kw3_180 kw3_177 kw1_11 kw3_179 kwS_29 rfl rfl (by decide +kernel) ⟨Nat.le_of_ble_eq_true rfl, Nat.le_of_ble_eq_true rfl⟩) ⟨PB.blind, va_recv hK hPc (ci := 5) (q0 := 0) rfl rfl, fun U hU hW => PB.mk hU hW hPc hK hDc⟩ rfl rfl hl.1 rfl (lv_room (Nat.le_of_ble_eq_true rfl)) dX5_store_3 ⟨Nat.le_of_ble_eq_true rfl, Nat.le_of_ble_eq_true rfl⟩) hS (fun q _ h => hFc q h) hFc (fun r3 u3 t3 H1 locs ht1 hvm w3 hB hz1 hk1 hS => ?_)
  try dsimp only at w3 hB
  rw [ht1] at hB
  have hP := wk_ro hP hD [0, 1, 2, 3, 4, 5, 6, 7, 8, 9, 10] rfl hk1 hB
  generalize H1 = H at hP hS ⊢
  subst w3
  have hrk := rk_le (st n) key
  refine lv_istore (lv' := [(4, .int (nI (rk (st n) key))), (0, .ref (G 0)), (1, .int (nI n)), (2, .int key), (3, .int v)]) hx hb dX5_store_6 hl (by decide) rfl (fun ls hl => ?_)
  refine lv_aload_n hx hb dX5_store_8 rfl (lv_at hl 1 rfl) ?_
  refine lv_iload_n hx hb dX5_store_9 rfl (lv_at hl 2 rfl) ?_
  refine lv_iload_n hx hb dX5_store_10 rfl (lv_at hl 3 rfl) ?_
  have hPc := hP.sub (ws' := mW cI cZ G code off left wr rc mem oth ks vs sx pl ps pk sr tg fl xs) [0, 1, 2, 3, 4, 5, 6, 7, 8, 9, 10] rfl
  have hDc := hD.sub (ws' := mW cI cZ G code off left wr rc mem oth ks vs sx pl ps pk sr tg fl xs) [0, 1, 2, 3, 4, 5, 6, 7, 8, 9, 10] (by decide) rfl
  have hFc := va_free (wc := mW cI cZ G code off left wr rc mem oth ks vs sx pl ps pk sr tg fl xs) hD hS hA [0, 1, 2, 3, 4, 5, 6, 7, 8, 9, 10] rfl
  refine va_calli (va_runV (As := [.int (nI n), .int key]) (rest := []) ⟨hx, hb, hml, hown, ht⟩ (c_X5_has l D cI cZ cS cJ H.size G code off left wr rc mem oth ks vs sx pl ps pk sr tg fl xs st hst n hn key) (xwV 2 ht kw3_176 kw3_173 kw1_11 kw3_175 kwS_28 rfl rfl (by decide +kernel) ⟨Nat.le_of_ble_eq_true rfl, Nat.le_of_ble_eq_true rfl⟩) ⟨PB.blind, va_recv hK hPc (ci := 5) (q0 := 0) rfl rfl, fun U hU hW => PB.mk hU hW hPc hK hDc⟩ rfl rfl hl.1 rfl (lv_room (Nat.le_of_ble_eq_true rfl)) dX5_store_11 ⟨Nat.le_of_ble_eq_true rfl, Nat.le_of_ble_eq_true rfl⟩) hS (fun q _ h => hFc q h) hFc (fun r11 u11 t11 H1 locs ht1 hvm w11 hB hz1 hk1 hS => ?_)
  try dsimp only at w11 hB
  rw [ht1] at hB
  have hP := wk_ro hP hD [0, 1, 2, 3, 4, 5, 6, 7, 8, 9, 10] rfl hk1 hB
  generalize H1 = H at hP hS ⊢
  refine lv_if_ne (tgt := 104) hx hb dX5_store_14 (by decide) (fun c14 => ?_) (fun c14 => ?_)
  · have hyes : hs (st n) key = true := by
      rcases Bool.eq_false_or_eq_true (hs (st n) key) with q | q
      · exact q
      · exact absurd (by rw [w11, q]; rfl) c14
    refine lv_aload_n hx hb dX5_store_104 rfl (lv_at hl 1 rfl) ?_
    refine va_get (D := D) (ci := 5) (v := .ref (G 3)) (C := RX5) (T := TX5) (N := 17) hx hb ht inX5 hown hK hP 0 rfl rfl 7 (by decide) (ht _ kw3_87) (fun _ h9 => h9) rfl dX5_store_105 ?_
    refine lv_sipush (v := 1024) hx hb dX5_store_108 (by decide) ?_
    refine lv_iload_n hx hb dX5_store_111 rfl (lv_at hl 2 rfl) ?_
    refine lv_imul hx hb dX5_store_112 ?_
    refine lv_iload hx hb dX5_store_113 (lv_at hl 0 rfl) ?_
    refine lv_iadd hx hb dX5_store_115 ?_
    refine lv_iload_n hx hb dX5_store_116 rfl (lv_at hl 3 rfl) ?_
    refine ya_iast hx hb hK hP hD hS 3 0 rfl rfl (1024 * n + rk (st n) key) (ixA _ _) (by omega) (by decide) dX5_store_117 (fun H locs hP hD hS => ?_)
    have hP : va_P D vwCl (mW cI cZ G code off left wr rc mem oth (upd ks (1024 * n + rk (st n) key) key) vs sx pl ps pk sr tg fl xs) H := hP
    have hD : va_D A (mW cI cZ G code off left wr rc mem oth (upd ks (1024 * n + rk (st n) key) key) vs sx pl ps pk sr tg fl xs) := hD
    refine lv_aload_n hx hb dX5_store_118 rfl (lv_at hl 1 rfl) ?_
    refine va_get (D := D) (ci := 5) (v := .ref (G 4)) (C := RX5) (T := TX5) (N := 17) hx hb ht inX5 hown hK hP 0 rfl rfl 8 (by decide) (ht _ kw3_88) (fun _ h9 => h9) rfl dX5_store_119 ?_
    refine lv_sipush (v := 1024) hx hb dX5_store_122 (by decide) ?_
    refine lv_iload_n hx hb dX5_store_125 rfl (lv_at hl 2 rfl) ?_
    refine lv_imul hx hb dX5_store_126 ?_
    refine lv_iload hx hb dX5_store_127 (lv_at hl 0 rfl) ?_
    refine lv_iadd hx hb dX5_store_129 ?_
    refine lv_iload_n hx hb dX5_store_130 rfl (lv_at hl 4 rfl) ?_
    refine ya_iast hx hb hK hP hD hS 4 0 rfl rfl (1024 * n + rk (st n) key) (ixA _ _) (by omega) (by decide) dX5_store_131 (fun H locs hP hD hS => ?_)
    have hP : va_P D vwCl (mW cI cZ G code off left wr rc mem oth (upd ks (1024 * n + rk (st n) key) key) (upd vs (1024 * n + rk (st n) key) v) sx pl ps pk sr tg fl xs) H := hP
    have hD : va_D A (mW cI cZ G code off left wr rc mem oth (upd ks (1024 * n + rk (st n) key) key) (upd vs (1024 * n + rk (st n) key) v) sx pl ps pk sr tg fl xs) := hD
    exact W.vret hx hb hr (fun t ht2 hW => ⟨⟨(upd ks (1024 * n + rk (st n) key) key, upd vs (1024 * n + rk (st n) key) v, sx), rfl, by first | exact hst.ins_h hn hyes | exact hst.ins_n hn hno hlen, ⟨by (try dsimp only); rw [ht2]; exact hP, by exact hD⟩⟩, hS.F ht2⟩) hS.2.2 dX5_store_132
  · have hno : ¬ hs (st n) key = true := fun q => by rw [w11, if_pos q] at c14; exact absurd c14 (by decide)
    have hsz := hst.at hn
    refine lv_aload_n hx hb dX5_store_17 rfl (lv_at hl 1 rfl) ?_
    refine va_get (D := D) (ci := 5) (v := .ref (G 5)) (C := RX5) (T := TX5) (N := 17) hx hb ht inX5 hown hK hP 0 rfl rfl 9 (by decide) (ht _ kw3_89) (fun _ h9 => h9) rfl dX5_store_18 ?_
    refine lv_iload_n hx hb dX5_store_21 rfl (lv_at hl 2 rfl) ?_
    refine ya_iald hx hb hK hP 5 0 rfl rfl n (rfl) (hn) (by decide) dX5_store_22 ?_
    rw [hsz]
    refine lv_istore (lv' := [(5, .int (nI (st n).length)), (4, .int (nI (rk (st n) key))), (0, .ref (G 0)), (1, .int (nI n)), (2, .int key), (3, .int v)]) hx hb dX5_store_23 hl (by decide) rfl (fun ls hl => ?_)
    rw [← shR_0 ks (1024 * n) (st n).length, ← shR_0 vs (1024 * n) (st n).length] at hP hD
    refine lpB (ι := Nat) (fun i H locs k9 n9 ls => lv_has ls 6 [(5, .int (nI i)), (4, .int (nI (rk (st n) key))), (0, .ref (G 0)), (1, .int (nI n)), (2, .int key), (3, .int v)] ∧ va_P D vwCl (mW cI cZ G code off left wr rc mem oth (shR ks (1024 * n) i (st n).length) (shR vs (1024 * n) i (st n).length) sx pl ps pk sr tg fl xs) H ∧ va_D A (mW cI cZ G code off left wr rc mem oth (shR ks (1024 * n) i (st n).length) (shR vs (1024 * n) i (st n).length) sx pl ps pk sr tg fl xs) ∧ va_S A s.heap H locs ∧ k9 = 0 ∧ n9 = 0 ∧ rk (st n) key ≤ i ∧ i ≤ (st n).length) (fun i => i) ((st n).length) (⟨lv_sub hl [0, 1, 2, 3, 4, 5] rfl, by exact hP, by exact hD, hS, rfl, rfl, ⟨hrk, Nat.le_refl _⟩⟩) ?_
    intro i H locs k9 n9 ls hI ih
    obtain ⟨hl, hP, hD, hS, rfl, rfl, hri, hil⟩ := hI
    refine lv_iload hx hb dX5_store_25 (lv_at hl 0 rfl) ?_
    refine lv_iload hx hb dX5_store_27 (lv_at hl 1 rfl) ?_
    refine lv_icmp_le (tgt := 94) hx hb dX5_store_29 (by decide) (fun c29 => ?_) (fun c29 => ?_)
    · have hie : i = rk (st n) key := by
        rcases Nat.lt_or_ge (rk (st n) key) i with q | q
        · exact absurd c29 (nI_ge q (by omega))
        · omega
      subst hie
      refine lv_aload_n hx hb dX5_store_94 rfl (lv_at hl 2 rfl) ?_
      refine va_get (D := D) (ci := 5) (v := .ref (G 5)) (C := RX5) (T := TX5) (N := 17) hx hb ht inX5 hown hK hP 0 rfl rfl 9 (by decide) (ht _ kw3_89) (fun _ h9 => h9) rfl dX5_store_95 ?_
      refine lv_iload_n hx hb dX5_store_98 rfl (lv_at hl 3 rfl) ?_
      refine lv_dup2_11 hx hb dX5_store_99 rfl rfl ?_
      refine ya_iald hx hb hK hP 5 0 rfl rfl n (rfl) (hn) (by decide) dX5_store_100 ?_
      refine lv_iconst (v := 1) hx hb dX5_store_101 (by decide) ?_
      refine lv_iadd hx hb dX5_store_102 ?_
      refine ya_iast hx hb hK hP hD hS 5 0 rfl rfl n (rfl) (hn) (by decide) dX5_store_103 (fun H locs hP hD hS => ?_)
      have hP : va_P D vwCl (mW cI cZ G code off left wr rc mem oth (shR ks (1024 * n) (rk (st n) key) (st n).length) (shR vs (1024 * n) (rk (st n) key) (st n).length) (upd sx n ((sx n) + 1)) pl ps pk sr tg fl xs) H := hP
      have hD : va_D A (mW cI cZ G code off left wr rc mem oth (shR ks (1024 * n) (rk (st n) key) (st n).length) (shR vs (1024 * n) (rk (st n) key) (st n).length) (upd sx n ((sx n) + 1)) pl ps pk sr tg fl xs) := hD
      refine lv_aload_n hx hb dX5_store_104 rfl (lv_at hl 2 rfl) ?_
      refine va_get (D := D) (ci := 5) (v := .ref (G 3)) (C := RX5) (T := TX5) (N := 17) hx hb ht inX5 hown hK hP 0 rfl rfl 7 (by decide) (ht _ kw3_87) (fun _ h9 => h9) rfl dX5_store_105 ?_
      refine lv_sipush (v := 1024) hx hb dX5_store_108 (by decide) ?_
      refine lv_iload_n hx hb dX5_store_111 rfl (lv_at hl 3 rfl) ?_
      refine lv_imul hx hb dX5_store_112 ?_
      refine lv_iload hx hb dX5_store_113 (lv_at hl 1 rfl) ?_
      refine lv_iadd hx hb dX5_store_115 ?_
      refine lv_iload_n hx hb dX5_store_116 rfl (lv_at hl 4 rfl) ?_
      refine ya_iast hx hb hK hP hD hS 3 0 rfl rfl (1024 * n + rk (st n) key) (ixA _ _) (by omega) (by decide) dX5_store_117 (fun H locs hP hD hS => ?_)
      have hP : va_P D vwCl (mW cI cZ G code off left wr rc mem oth (upd (shR ks (1024 * n) (rk (st n) key) (st n).length) (1024 * n + rk (st n) key) key) (shR vs (1024 * n) (rk (st n) key) (st n).length) (upd sx n ((sx n) + 1)) pl ps pk sr tg fl xs) H := hP
      have hD : va_D A (mW cI cZ G code off left wr rc mem oth (upd (shR ks (1024 * n) (rk (st n) key) (st n).length) (1024 * n + rk (st n) key) key) (shR vs (1024 * n) (rk (st n) key) (st n).length) (upd sx n ((sx n) + 1)) pl ps pk sr tg fl xs) := hD
      refine lv_aload_n hx hb dX5_store_118 rfl (lv_at hl 2 rfl) ?_
      refine va_get (D := D) (ci := 5) (v := .ref (G 4)) (C := RX5) (T := TX5) (N := 17) hx hb ht inX5 hown hK hP 0 rfl rfl 8 (by decide) (ht _ kw3_88) (fun _ h9 => h9) rfl dX5_store_119 ?_
      refine lv_sipush (v := 1024) hx hb dX5_store_122 (by decide) ?_
      refine lv_iload_n hx hb dX5_store_125 rfl (lv_at hl 3 rfl) ?_
      refine lv_imul hx hb dX5_store_126 ?_
      refine lv_iload hx hb dX5_store_127 (lv_at hl 1 rfl) ?_
      refine lv_iadd hx hb dX5_store_129 ?_
      refine lv_iload_n hx hb dX5_store_130 rfl (lv_at hl 5 rfl) ?_
      refine ya_iast hx hb hK hP hD hS 4 0 rfl rfl (1024 * n + rk (st n) key) (ixA _ _) (by omega) (by decide) dX5_store_131 (fun H locs hP hD hS => ?_)
      have hP : va_P D vwCl (mW cI cZ G code off left wr rc mem oth (upd (shR ks (1024 * n) (rk (st n) key) (st n).length) (1024 * n + rk (st n) key) key) (upd (shR vs (1024 * n) (rk (st n) key) (st n).length) (1024 * n + rk (st n) key) v) (upd sx n ((sx n) + 1)) pl ps pk sr tg fl xs) H := hP
      have hD : va_D A (mW cI cZ G code off left wr rc mem oth (upd (shR ks (1024 * n) (rk (st n) key) (st n).length) (1024 * n + rk (st n) key) key) (upd (shR vs (1024 * n) (rk (st n) key) (st n).length) (1024 * n + rk (st n) key) v) (upd sx n ((sx n) + 1)) pl ps pk sr tg fl xs) := hD
      exact W.vret hx hb hr (fun t ht2 hW => ⟨⟨(upd (shR ks (1024 * n) (rk (st n) key) (st n).length) (1024 * n + rk (st n) key) key, upd (shR vs (1024 * n) (rk (st n) key) (st n).length) (1024 * n + rk (st n) key) v, upd sx n ((sx n) + 1)), rfl, by first | exact hst.ins_h hn hyes | exact hst.ins_n hn hno hlen, ⟨by (try dsimp only); rw [ht2]; exact hP, by exact hD⟩⟩, hS.F ht2⟩) hS.2.2 dX5_store_132
    · have hi0 : rk (st n) key < i := by
        rcases Nat.lt_or_ge (rk (st n) key) i with q | q
        · exact q
        · exact absurd (nI_le q (by omega)) c29
      have hi0 : 0 < i := by omega
      refine lv_aload_n hx hb dX5_store_32 rfl (lv_at hl 2 rfl) ?_
      refine va_get (D := D) (ci := 5) (v := .ref (G 3)) (C := RX5) (T := TX5) (N := 17) hx hb ht inX5 hown hK hP 0 rfl rfl 7 (by decide) (ht _ kw3_87) (fun _ h9 => h9) rfl dX5_store_33 ?_
      refine lv_sipush (v := 1024) hx hb dX5_store_36 (by decide) ?_
      refine lv_iload_n hx hb dX5_store_39 rfl (lv_at hl 3 rfl) ?_
      refine lv_imul hx hb dX5_store_40 ?_
      refine lv_iload hx hb dX5_store_41 (lv_at hl 0 rfl) ?_
      refine lv_iadd hx hb dX5_store_43 ?_
      refine lv_aload_n hx hb dX5_store_44 rfl (lv_at hl 2 rfl) ?_
      refine va_get (D := D) (ci := 5) (v := .ref (G 3)) (C := RX5) (T := TX5) (N := 17) hx hb ht inX5 hown hK hP 0 rfl rfl 7 (by decide) (ht _ kw3_87) (fun _ h9 => h9) rfl dX5_store_45 ?_
      refine lv_sipush (v := 1024) hx hb dX5_store_48 (by decide) ?_
      refine lv_iload_n hx hb dX5_store_51 rfl (lv_at hl 3 rfl) ?_
      refine lv_imul hx hb dX5_store_52 ?_
      refine lv_iload hx hb dX5_store_53 (lv_at hl 0 rfl) ?_
      refine lv_iadd hx hb dX5_store_55 ?_
      refine lv_iconst (v := 1) hx hb dX5_store_56 (by decide) ?_
      refine lv_isub hx hb dX5_store_57 ?_
      refine ya_iald hx hb hK hP 3 0 rfl rfl (1024 * n + i - 1) (ixB hi0) (by omega) (by decide) dX5_store_58 ?_
      refine ya_iast hx hb hK hP hD hS 3 0 rfl rfl (1024 * n + i) (ixA _ _) (by omega) (by decide) dX5_store_59 (fun H locs hP hD hS => ?_)
      have hP : va_P D vwCl (mW cI cZ G code off left wr rc mem oth (upd (shR ks (1024 * n) i (st n).length) (1024 * n + i) ((shR ks (1024 * n) i (st n).length) (1024 * n + i - 1))) (shR vs (1024 * n) i (st n).length) sx pl ps pk sr tg fl xs) H := hP
      have hD : va_D A (mW cI cZ G code off left wr rc mem oth (upd (shR ks (1024 * n) i (st n).length) (1024 * n + i) ((shR ks (1024 * n) i (st n).length) (1024 * n + i - 1))) (shR vs (1024 * n) i (st n).length) sx pl ps pk sr tg fl xs) := hD
      refine lv_aload_n hx hb dX5_store_60 rfl (lv_at hl 2 rfl) ?_
      refine va_get (D := D) (ci := 5) (v := .ref (G 4)) (C := RX5) (T := TX5) (N := 17) hx hb ht inX5 hown hK hP 0 rfl rfl 8 (by decide) (ht _ kw3_88) (fun _ h9 => h9) rfl dX5_store_61 ?_
      refine lv_sipush (v := 1024) hx hb dX5_store_64 (by decide) ?_
      refine lv_iload_n hx hb dX5_store_67 rfl (lv_at hl 3 rfl) ?_
      refine lv_imul hx hb dX5_store_68 ?_
      refine lv_iload hx hb dX5_store_69 (lv_at hl 0 rfl) ?_
      refine lv_iadd hx hb dX5_store_71 ?_
      refine lv_aload_n hx hb dX5_store_72 rfl (lv_at hl 2 rfl) ?_
      refine va_get (D := D) (ci := 5) (v := .ref (G 4)) (C := RX5) (T := TX5) (N := 17) hx hb ht inX5 hown hK hP 0 rfl rfl 8 (by decide) (ht _ kw3_88) (fun _ h9 => h9) rfl dX5_store_73 ?_
      refine lv_sipush (v := 1024) hx hb dX5_store_76 (by decide) ?_
      refine lv_iload_n hx hb dX5_store_79 rfl (lv_at hl 3 rfl) ?_
      refine lv_imul hx hb dX5_store_80 ?_
      refine lv_iload hx hb dX5_store_81 (lv_at hl 0 rfl) ?_
      refine lv_iadd hx hb dX5_store_83 ?_
      refine lv_iconst (v := 1) hx hb dX5_store_84 (by decide) ?_
      refine lv_isub hx hb dX5_store_85 ?_
      refine ya_iald hx hb hK hP 4 0 rfl rfl (1024 * n + i - 1) (ixB hi0) (by omega) (by decide) dX5_store_86 ?_
      refine ya_iast hx hb hK hP hD hS 4 0 rfl rfl (1024 * n + i) (ixA _ _) (by omega) (by decide) dX5_store_87 (fun H locs hP hD hS => ?_)
      have hP : va_P D vwCl (mW cI cZ G code off left wr rc mem oth (upd (shR ks (1024 * n) i (st n).length) (1024 * n + i) ((shR ks (1024 * n) i (st n).length) (1024 * n + i - 1))) (upd (shR vs (1024 * n) i (st n).length) (1024 * n + i) ((shR vs (1024 * n) i (st n).length) (1024 * n + i - 1))) sx pl ps pk sr tg fl xs) H := hP
      have hD : va_D A (mW cI cZ G code off left wr rc mem oth (upd (shR ks (1024 * n) i (st n).length) (1024 * n + i) ((shR ks (1024 * n) i (st n).length) (1024 * n + i - 1))) (upd (shR vs (1024 * n) i (st n).length) (1024 * n + i) ((shR vs (1024 * n) i (st n).length) (1024 * n + i - 1))) sx pl ps pk sr tg fl xs) := hD
      refine lv_iinc (v := nI (i - 1)) (lv' := [(5, .int (nI (i - 1))), (4, .int (nI (rk (st n) key))), (0, .ref (G 0)), (1, .int (nI n)), (2, .int key), (3, .int v)]) hx hb dX5_store_88 hl (k := 0) rfl (by exact sb_m1 hi0) (by decide) rfl (fun ls hl => ?_)
      refine lv_goto (tgt := 25) hx hb dX5_store_91 (by decide) ?_
      rw [shR_s ks hi0 hil, shR_s vs hi0 hil] at hP hD
      exact ih (i - 1) _ _ _ _ ls (⟨lv_sub hl [0, 1, 2, 3, 4, 5] rfl, by exact hP, by exact hD, hS, rfl, rfl, ⟨by omega, by omega⟩⟩) (by omega)

set_option maxHeartbeats 4000000 in
set_option maxRecDepth 100000 in
theorem c_X5_takeOff (l : Launch) (D : va_G) (cI cZ cS cJ : ClassId) (sz : Nat) (G : Nat → Nat) (code off left wr rc : Int32) (mem oth ks vs sx : Nat → Int32) (pl ps : Int32) (pk sr tg fl xs : Nat → Int32) (st : Nat → List (Int32 × Int32)) (hst : RS st ks vs sx) (n : Nat) (hn : n < 8) (key : Int32) : Met l yX5_takeOff (Cond.code yX5_takeOff cX5_takeOff 5 none :: TB) ({ frames := 2, cells := 0, slots := 0, locals := 46 } : Room) (va_Pc [.ref (G 0), .int (nI n), .int key] (PB D (KT cI cZ cS cJ) (mW cI cZ G code off left wr rc mem oth ks vs sx pl ps pk sr tg fl xs) sz)) (va_Qv (fun (u : (Nat → Int32) × (Nat → Int32) × (Nat → Int32)) => RS (fu st n (del (st n) key)) u.1 u.2.1 u.2.2) (fun (u : (Nat → Int32) × (Nat → Int32) × (Nat → Int32)) t => va_P D vwCl (mW cI cZ G code off left wr rc mem oth u.1 u.2.1 u.2.2 pl ps pk sr tg fl xs) t.heap ∧ va_D (va_A (mW cI cZ G code off left wr rc mem oth ks vs sx pl ps pk sr tg fl xs) sz) (mW cI cZ G code off left wr rc mem oth u.1 u.2.1 u.2.2 pl ps pk sr tg fl xs)) (va_A (mW cI cZ G code off left wr rc mem oth ks vs sx pl ps pk sr tg fl xs) sz)) 0 0 (va_A (mW cI cZ G code off left wr rc mem oth ks vs sx pl ps pk sr tg fl xs) sz) := by
  refine Met.ofW (cc := cX5_takeOff) (maxL := 5) (ret := none) (by decide) rfl ?_
  intro p e s m args below meth c s₁ B hml hv
  obtain ⟨rfl, hsz, hP, hK, hD0⟩ := hv
  have hx := B.exec
  have hb := B.bytes
  have hr := B.returns
  have hts := atoms_spec (ws := (Cond.code yX5_takeOff cX5_takeOff 5 none :: TB)) B.pre
  have ht : ∀ w ∈ TB, w.before _ s = true := fun w h => hts w (List.mem_cons_of_mem _ h)
  have hown : s.vm.findClass RX5 = some m.cls := findClass_of_methodNamed B.named
  have hlocks := B.notSynchronized
  subst hsz
  have hD := hD0.self (sz := s.heap.size)
  generalize hAe : va_A (mW cI cZ G code off left wr rc mem oth ks vs sx pl ps pk sr tg fl xs) s.heap.size = A at hD ⊢
  have hA : ∀ q : Nat, s.heap.size ≤ q → A q := fun q h => by rw [← hAe]; exact Or.inr h
  have hS : va_S A s.heap s.heap [] := va_S.rf
  have hP : va_P D vwCl (mW cI cZ G code off left wr rc mem oth ks vs sx pl ps pk sr tg fl xs) s.heap := hP
  have hl := lv_entry ([.ref (G 0), .int (nI n), .int key]) (n := 5) (Nat.le_of_ble_eq_true rfl)
  rw [lg_entry_eq]
  generalize (lg_sl ([.ref (G 0), .int (nI n), .int key]) ++ List.replicate (5 - (lg_sl ([.ref (G 0), .int (nI n), .int key])).length) Slot.unset).toArray = ls at hl ⊢
  have hl : lv_has ls 5 [(0, .ref (G 0)), (1, .int (nI n)), (2, .int key)] := hl
  refine lv_aload_n hx hb dX5_takeOff_0 rfl (lv_at hl 0 rfl) ?_
  refine lv_iload_n hx hb dX5_takeOff_1 rfl (lv_at hl 1 rfl) ?_
  refine lv_iload_n hx hb dX5_takeOff_2 rfl (lv_at hl 2 rfl) ?_
  have hPc := hP.sub (ws' := mW cI cZ G code off left wr rc mem oth ks vs sx pl ps pk sr tg fl xs) [0, 1, 2, 3, 4, 5, 6, 7, 8, 9, 10] rfl
  have hDc := hD.sub (ws' := mW cI cZ G code off left wr rc mem oth ks vs sx pl ps pk sr tg fl xs) [0, 1, 2, 3, 4, 5, 6, 7, 8, 9, 10] (by decide) rfl
  have hFc := va_free (wc := mW cI cZ G code off left wr rc mem oth ks vs sx pl ps pk sr tg fl xs) hD hS hA [0, 1, 2, 3, 4, 5, 6, 7, 8, 9, 10] rfl
  refine va_calli (va_runV (As := [.int (nI n), .int key]) (rest := []) ⟨hx, hb, hml, hown, ht⟩ (c_X5_has l D cI cZ cS cJ s.heap.size G code off left wr rc mem oth ks vs sx pl ps pk sr tg fl xs st hst n hn key) (xwV 2 ht kw3_176 kw3_173 kw1_11 kw3_175 kwS_28 rfl rfl (by decide +kernel) ⟨Nat.le_of_ble_eq_true rfl, Nat.le_of_ble_eq_true rfl⟩) ⟨PB.blind, va_recv hK hPc (ci := 5) (q0 := 0) rfl rfl, fun U hU hW => PB.mk hU hW hPc hK hDc⟩ rfl rfl hl.1 rfl (lv_room (Nat.le_of_ble_eq_true rfl)) dX5_takeOff_3 ⟨Nat.le_of_ble_eq_true rfl, Nat.le_of_ble_eq_true rfl⟩) hS (fun q _ h => hFc q h) hFc (fun r3 u3 t3 H1 locs ht1 hvm w3 hB hz1 hk1 hS => ?_)
  try dsimp only at w3 hB
  rw [ht1] at hB
  have hP := wk_ro hP hD [0, 1, 2, 3, 4, 5, 6, 7, 8, 9, 10] rfl hk1 hB
  generalize H1 = H at hP hS ⊢
  refine lv_if_ne (tgt := 10) hx hb dX5_takeOff_6 (by decide) (fun c6 => ?_) (fun c6 => ?_)
  · have hyes : hs (st n) key = true := by
      rcases Bool.eq_false_or_eq_true (hs (st n) key) with q | q
      · exact q
      · exact absurd (by rw [w3, q]; rfl) c6
    have hsz := hst.at hn
    have hle := hst.le hn
    have hlt := (hs_iff.mp hyes).1
    refine lv_aload_n hx hb dX5_takeOff_10 rfl (lv_at hl 0 rfl) ?_
    refine lv_iload_n hx hb dX5_takeOff_11 rfl (lv_at hl 1 rfl) ?_
    refine lv_iload_n hx hb dX5_takeOff_12 rfl (lv_at hl 2 rfl) ?_
    have hPc := hP.sub (ws' := mW cI cZ G code off left wr rc mem oth ks vs sx pl ps pk sr tg fl xs) [0, 1, 2, 3, 4, 5, 6, 7, 8, 9, 10] rfl
    have hDc := hD.sub (ws' := mW cI cZ G code off left wr rc mem oth ks vs sx pl ps pk sr tg fl xs) [0, 1, 2, 3, 4, 5, 6, 7, 8, 9, 10] (by decide) rfl
    have hFc := va_free (wc := mW cI cZ G code off left wr rc mem oth ks vs sx pl ps pk sr tg fl xs) hD hS hA [0, 1, 2, 3, 4, 5, 6, 7, 8, 9, 10] rfl
    refine va_calli (va_runV (As := [.int (nI n), .int key]) (rest := []) ⟨hx, hb, hml, hown, ht⟩ (c_X5_find l D cI cZ cS cJ H.size G code off left wr rc mem oth ks vs sx pl ps pk sr tg fl xs st hst n hn key) (xwV 2 ht kw3_180 kw3_177 kw1_11 kw3_179 kwS_29 rfl rfl (by decide +kernel) ⟨Nat.le_of_ble_eq_true rfl, Nat.le_of_ble_eq_true rfl⟩) ⟨PB.blind, va_recv hK hPc (ci := 5) (q0 := 0) rfl rfl, fun U hU hW => PB.mk hU hW hPc hK hDc⟩ rfl rfl hl.1 rfl (lv_room (Nat.le_of_ble_eq_true rfl)) dX5_takeOff_13 ⟨Nat.le_of_ble_eq_true rfl, Nat.le_of_ble_eq_true rfl⟩) hS (fun q _ h => hFc q h) hFc (fun r13 u13 t13 H1 locs ht1 hvm w13 hB hz1 hk1 hS => ?_)
    try dsimp only at w13 hB
    rw [ht1] at hB
    have hP := wk_ro hP hD [0, 1, 2, 3, 4, 5, 6, 7, 8, 9, 10] rfl hk1 hB
    generalize H1 = H at hP hS ⊢
    subst w13
    refine lv_istore_n (lv' := [(3, .int (nI (rk (st n) key))), (0, .ref (G 0)), (1, .int (nI n)), (2, .int key)]) hx hb dX5_takeOff_16 rfl hl (by decide) rfl (fun ls hl => ?_)
    refine lv_aload_n hx hb dX5_takeOff_17 rfl (lv_at hl 1 rfl) ?_
    refine va_get (D := D) (ci := 5) (v := .ref (G 5)) (C := RX5) (T := TX5) (N := 17) hx hb ht inX5 hown hK hP 0 rfl rfl 9 (by decide) (ht _ kw3_89) (fun _ h9 => h9) rfl dX5_takeOff_18 ?_
    refine lv_iload_n hx hb dX5_takeOff_21 rfl (lv_at hl 2 rfl) ?_
    refine lv_dup2_11 hx hb dX5_takeOff_22 rfl rfl ?_
    refine ya_iald hx hb hK hP 5 0 rfl rfl n (rfl) (hn) (by decide) dX5_takeOff_23 ?_
    refine lv_iconst (v := 1) hx hb dX5_takeOff_24 (by decide) ?_
    refine lv_isub hx hb dX5_takeOff_25 ?_
    refine ya_iast hx hb hK hP hD hS 5 0 rfl rfl n (rfl) (hn) (by decide) dX5_takeOff_26 (fun H locs hP hD hS => ?_)
    have hP : va_P D vwCl (mW cI cZ G code off left wr rc mem oth ks vs (upd sx n ((sx n) - 1)) pl ps pk sr tg fl xs) H := hP
    have hD : va_D A (mW cI cZ G code off left wr rc mem oth ks vs (upd sx n ((sx n) - 1)) pl ps pk sr tg fl xs) := hD
    refine lv_iload_n hx hb dX5_takeOff_27 rfl (lv_at hl 0 rfl) ?_
    refine lv_istore (lv' := [(4, .int (nI (rk (st n) key))), (3, .int (nI (rk (st n) key))), (0, .ref (G 0)), (1, .int (nI n)), (2, .int key)]) hx hb dX5_takeOff_28 hl (by decide) rfl (fun ls hl => ?_)
    rw [← shL_0 ks (1024 * n) (rk (st n) key), ← shL_0 vs (1024 * n) (rk (st n) key)] at hP hD
    refine lpB (ι := Nat) (fun i H locs k9 n9 ls => lv_has ls 5 [(4, .int (nI i)), (3, .int (nI (rk (st n) key))), (0, .ref (G 0)), (1, .int (nI n)), (2, .int key)] ∧ va_P D vwCl (mW cI cZ G code off left wr rc mem oth (shL ks (1024 * n) (rk (st n) key) i) (shL vs (1024 * n) (rk (st n) key) i) (upd sx n (sx n - 1)) pl ps pk sr tg fl xs) H ∧ va_D A (mW cI cZ G code off left wr rc mem oth (shL ks (1024 * n) (rk (st n) key) i) (shL vs (1024 * n) (rk (st n) key) i) (upd sx n (sx n - 1)) pl ps pk sr tg fl xs) ∧ va_S A s.heap H locs ∧ k9 = 0 ∧ n9 = 0 ∧ rk (st n) key ≤ i ∧ i ≤ (st n).length - 1) (fun i => (st n).length - i) (rk (st n) key) (⟨lv_sub hl [0, 1, 2, 3, 4] rfl, by exact hP, by exact hD, hS, rfl, rfl, ⟨Nat.le_refl _, by omega⟩⟩) ?_
    intro i H locs k9 n9 ls hI ih
    obtain ⟨hl, hP, hD, hS, rfl, rfl, hri, hil⟩ := hI
    have hsz1 : upd sx n (sx n - 1) n = nI ((st n).length - 1) := by rw [pk_us, hsz, show (1 : Int32) = nI 1 from rfl, pk_sub (by omega)]
    refine lv_iload hx hb dX5_takeOff_30 (lv_at hl 0 rfl) ?_
    refine lv_aload_n hx hb dX5_takeOff_32 rfl (lv_at hl 2 rfl) ?_
    refine va_get (D := D) (ci := 5) (v := .ref (G 5)) (C := RX5) (T := TX5) (N := 17) hx hb ht inX5 hown hK hP 0 rfl rfl 9 (by decide) (ht _ kw3_89) (fun _ h9 => h9) rfl dX5_takeOff_33 ?_
    refine lv_iload_n hx hb dX5_takeOff_36 rfl (lv_at hl 3 rfl) ?_
    refine ya_iald hx hb hK hP 5 0 rfl rfl n (rfl) (hn) (by decide) dX5_takeOff_37 ?_
    refine lv_icmp_ge (tgt := 103) hx hb dX5_takeOff_38 (by decide) (fun c38 => ?_) (fun c38 => ?_)
    · have hie : i = (st n).length - 1 := by
        rcases Nat.lt_or_ge i ((st n).length - 1) with q | q
        · rw [hsz1] at c38; exact absurd c38 (nI_ge q (by omega))
        · omega
      subst hie
      exact W.vret hx hb hr (fun t ht2 hW => ⟨⟨(shL ks (1024 * n) (rk (st n) key) ((st n).length - 1), shL vs (1024 * n) (rk (st n) key) ((st n).length - 1), upd sx n (sx n - 1)), rfl, by first | exact hst.del_h hn hyes | exact hst.del_n hno, ⟨by (try dsimp only); rw [ht2]; exact hP, by exact hD⟩⟩, hS.F ht2⟩) hS.2.2 dX5_takeOff_103
    · have hi1 : i < (st n).length - 1 := by
        rcases Nat.lt_or_ge i ((st n).length - 1) with q | q
        · exact q
        · exact absurd (by rw [hsz1]; exact nI_le q (by omega)) c38
      refine lv_aload_n hx hb dX5_takeOff_41 rfl (lv_at hl 2 rfl) ?_
      refine va_get (D := D) (ci := 5) (v := .ref (G 3)) (C := RX5) (T := TX5) (N := 17) hx hb ht inX5 hown hK hP 0 rfl rfl 7 (by decide) (ht _ kw3_87) (fun _ h9 => h9) rfl dX5_takeOff_42 ?_
      refine lv_sipush (v := 1024) hx hb dX5_takeOff_45 (by decide) ?_
      refine lv_iload_n hx hb dX5_takeOff_48 rfl (lv_at hl 3 rfl) ?_
      refine lv_imul hx hb dX5_takeOff_49 ?_
      refine lv_iload hx hb dX5_takeOff_50 (lv_at hl 0 rfl) ?_
      refine lv_iadd hx hb dX5_takeOff_52 ?_
      refine lv_aload_n hx hb dX5_takeOff_53 rfl (lv_at hl 2 rfl) ?_
      refine va_get (D := D) (ci := 5) (v := .ref (G 3)) (C := RX5) (T := TX5) (N := 17) hx hb ht inX5 hown hK hP 0 rfl rfl 7 (by decide) (ht _ kw3_87) (fun _ h9 => h9) rfl dX5_takeOff_54 ?_
      refine lv_sipush (v := 1024) hx hb dX5_takeOff_57 (by decide) ?_
      refine lv_iload_n hx hb dX5_takeOff_60 rfl (lv_at hl 3 rfl) ?_
      refine lv_imul hx hb dX5_takeOff_61 ?_
      refine lv_iload hx hb dX5_takeOff_62 (lv_at hl 0 rfl) ?_
      refine lv_iadd hx hb dX5_takeOff_64 ?_
      refine lv_iconst (v := 1) hx hb dX5_takeOff_65 (by decide) ?_
      refine lv_iadd hx hb dX5_takeOff_66 ?_
      refine ya_iald hx hb hK hP 3 0 rfl rfl (1024 * n + i + 1) (ixC _ _) (by omega) (by decide) dX5_takeOff_67 ?_
      refine ya_iast hx hb hK hP hD hS 3 0 rfl rfl (1024 * n + i) (ixA _ _) (by omega) (by decide) dX5_takeOff_68 (fun H locs hP hD hS => ?_)
      have hP : va_P D vwCl (mW cI cZ G code off left wr rc mem oth (upd (shL ks (1024 * n) (rk (st n) key) i) (1024 * n + i) ((shL ks (1024 * n) (rk (st n) key) i) (1024 * n + i + 1))) (shL vs (1024 * n) (rk (st n) key) i) (upd sx n (sx n - 1)) pl ps pk sr tg fl xs) H := hP
      have hD : va_D A (mW cI cZ G code off left wr rc mem oth (upd (shL ks (1024 * n) (rk (st n) key) i) (1024 * n + i) ((shL ks (1024 * n) (rk (st n) key) i) (1024 * n + i + 1))) (shL vs (1024 * n) (rk (st n) key) i) (upd sx n (sx n - 1)) pl ps pk sr tg fl xs) := hD
      refine lv_aload_n hx hb dX5_takeOff_69 rfl (lv_at hl 2 rfl) ?_
      refine va_get (D := D) (ci := 5) (v := .ref (G 4)) (C := RX5) (T := TX5) (N := 17) hx hb ht inX5 hown hK hP 0 rfl rfl 8 (by decide) (ht _ kw3_88) (fun _ h9 => h9) rfl dX5_takeOff_70 ?_
      refine lv_sipush (v := 1024) hx hb dX5_takeOff_73 (by decide) ?_
      refine lv_iload_n hx hb dX5_takeOff_76 rfl (lv_at hl 3 rfl) ?_
      refine lv_imul hx hb dX5_takeOff_77 ?_
      refine lv_iload hx hb dX5_takeOff_78 (lv_at hl 0 rfl) ?_
      refine lv_iadd hx hb dX5_takeOff_80 ?_
      refine lv_aload_n hx hb dX5_takeOff_81 rfl (lv_at hl 2 rfl) ?_
      refine va_get (D := D) (ci := 5) (v := .ref (G 4)) (C := RX5) (T := TX5) (N := 17) hx hb ht inX5 hown hK hP 0 rfl rfl 8 (by decide) (ht _ kw3_88) (fun _ h9 => h9) rfl dX5_takeOff_82 ?_
      refine lv_sipush (v := 1024) hx hb dX5_takeOff_85 (by decide) ?_
      refine lv_iload_n hx hb dX5_takeOff_88 rfl (lv_at hl 3 rfl) ?_
      refine lv_imul hx hb dX5_takeOff_89 ?_
      refine lv_iload hx hb dX5_takeOff_90 (lv_at hl 0 rfl) ?_
      refine lv_iadd hx hb dX5_takeOff_92 ?_
      refine lv_iconst (v := 1) hx hb dX5_takeOff_93 (by decide) ?_
      refine lv_iadd hx hb dX5_takeOff_94 ?_
      refine ya_iald hx hb hK hP 4 0 rfl rfl (1024 * n + i + 1) (ixC _ _) (by omega) (by decide) dX5_takeOff_95 ?_
      refine ya_iast hx hb hK hP hD hS 4 0 rfl rfl (1024 * n + i) (ixA _ _) (by omega) (by decide) dX5_takeOff_96 (fun H locs hP hD hS => ?_)
      have hP : va_P D vwCl (mW cI cZ G code off left wr rc mem oth (upd (shL ks (1024 * n) (rk (st n) key) i) (1024 * n + i) ((shL ks (1024 * n) (rk (st n) key) i) (1024 * n + i + 1))) (upd (shL vs (1024 * n) (rk (st n) key) i) (1024 * n + i) ((shL vs (1024 * n) (rk (st n) key) i) (1024 * n + i + 1))) (upd sx n (sx n - 1)) pl ps pk sr tg fl xs) H := hP
      have hD : va_D A (mW cI cZ G code off left wr rc mem oth (upd (shL ks (1024 * n) (rk (st n) key) i) (1024 * n + i) ((shL ks (1024 * n) (rk (st n) key) i) (1024 * n + i + 1))) (upd (shL vs (1024 * n) (rk (st n) key) i) (1024 * n + i) ((shL vs (1024 * n) (rk (st n) key) i) (1024 * n + i + 1))) (upd sx n (sx n - 1)) pl ps pk sr tg fl xs) := hD
      refine lv_iinc (v := nI (i + 1)) (lv' := [(4, .int (nI (i + 1))), (3, .int (nI (rk (st n) key))), (0, .ref (G 0)), (1, .int (nI n)), (2, .int key)]) hx hb dX5_takeOff_97 hl (k := 0) rfl (by exact nI_1 i) (by decide) rfl (fun ls hl => ?_)
      refine lv_goto (tgt := 30) hx hb dX5_takeOff_100 (by decide) ?_
      rw [shL_s ks hri, shL_s vs hri] at hP hD
      exact ih (i + 1) _ _ _ _ ls (⟨lv_sub hl [0, 1, 2, 3, 4] rfl, by exact hP, by exact hD, hS, rfl, rfl, ⟨by omega, by omega⟩⟩) (by omega)
  · have hno : ¬ hs (st n) key = true := fun q => by rw [w3, if_pos q] at c6; exact absurd c6 (by decide)
    exact W.vret hx hb hr (fun t ht2 hW => ⟨⟨(ks, vs, sx), rfl, by first | exact hst.del_h hn hyes | exact hst.del_n hno, ⟨by (try dsimp only); rw [ht2]; exact hP, by exact hD⟩⟩, hS.F ht2⟩) hS.2.2 dX5_takeOff_9

set_option maxHeartbeats 4000000 in
set_option maxRecDepth 100000 in
theorem c_X5_writes (l : Launch) (D : va_G) (cI cZ cS cJ : ClassId) (sz : Nat) (G : Nat → Nat) (code off left wr rc : Int32) (mem oth ks vs sx : Nat → Int32) (pl ps : Int32) (pk sr tg fl xs : Nat → Int32)  : Met l yX5_writes (Cond.code yX5_writes cX5_writes 1 (some .boolean) :: TB) ({ frames := 0, cells := 0, slots := 0, locals := 0 } : Room) (va_Pc [.ref (G 0)] (PB D (KT cI cZ cS cJ) (mW cI cZ G code off left wr rc mem oth ks vs sx pl ps pk sr tg fl xs) sz)) (va_Qi (fun r (_ : Unit) => r = wOk left) (fun (u : Unit) t => va_P D vwCl (mW cI cZ G code (wOff left off) (wLeft left) (wInc left wr) rc mem oth ks vs sx pl ps pk sr tg fl xs) t.heap ∧ va_D (va_A (mW cI cZ G code off left wr rc mem oth ks vs sx pl ps pk sr tg fl xs) sz) (mW cI cZ G code (wOff left off) (wLeft left) (wInc left wr) rc mem oth ks vs sx pl ps pk sr tg fl xs)) (va_A (mW cI cZ G code off left wr rc mem oth ks vs sx pl ps pk sr tg fl xs) sz)) 0 0 (va_A (mW cI cZ G code off left wr rc mem oth ks vs sx pl ps pk sr tg fl xs) sz) := by
  refine Met.ofW (cc := cX5_writes) (maxL := 1) (ret := (some .boolean)) (by decide) rfl ?_
  intro p e s m args below meth c s₁ B hml hv
  obtain ⟨rfl, hsz, hP, hK, hD0⟩ := hv
  have hx := B.exec
  have hb := B.bytes
  have hr := B.returns
  have hts := atoms_spec (ws := (Cond.code yX5_writes cX5_writes 1 (some .boolean) :: TB)) B.pre
  have ht : ∀ w ∈ TB, w.before _ s = true := fun w h => hts w (List.mem_cons_of_mem _ h)
  have hown : s.vm.findClass RX5 = some m.cls := findClass_of_methodNamed B.named
  have hlocks := B.notSynchronized
  subst hsz
  have hD := hD0.self (sz := s.heap.size)
  generalize hAe : va_A (mW cI cZ G code off left wr rc mem oth ks vs sx pl ps pk sr tg fl xs) s.heap.size = A at hD ⊢
  have hA : ∀ q : Nat, s.heap.size ≤ q → A q := fun q h => by rw [← hAe]; exact Or.inr h
  have hS : va_S A s.heap s.heap [] := va_S.rf
  have hP : va_P D vwCl (mW cI cZ G code off left wr rc mem oth ks vs sx pl ps pk sr tg fl xs) s.heap := hP
  have hl := lv_entry ([.ref (G 0)]) (n := 1) (Nat.le_of_ble_eq_true rfl)
  rw [lg_entry_eq]
  generalize (lg_sl ([.ref (G 0)]) ++ List.replicate (1 - (lg_sl ([.ref (G 0)])).length) Slot.unset).toArray = ls at hl ⊢
  have hl : lv_has ls 1 [(0, .ref (G 0))] := hl
  refine lv_aload_n hx hb dX5_writes_0 rfl (lv_at hl 0 rfl) ?_
  refine va_get (D := D) (ci := 5) (v := .int left) (C := RX5) (T := TX5) (N := 17) hx hb ht inX5 hown hK hP 0 rfl rfl 2 (by decide) (ht _ kw3_82) (fun _ h9 => h9) rfl dX5_writes_1 ?_
  refine lv_if_ne (tgt := 14) hx hb dX5_writes_4 (by decide) (fun c4 => ?_) (fun c4 => ?_)
  · have e1 : wOk left = 1 := if_neg c4
    have e2 : wOff left off = off := if_neg c4
    have e3 : wInc left wr = wr + 1 := if_neg c4
    refine lv_aload_n hx hb dX5_writes_14 rfl (lv_at hl 0 rfl) ?_
    refine lv_aload_n hx hb dX5_writes_15 rfl (lv_at hl 0 rfl) ?_
    refine va_get (D := D) (ci := 5) (v := .int left) (C := RX5) (T := TX5) (N := 17) hx hb ht inX5 hown hK hP 0 rfl rfl 2 (by decide) (ht _ kw3_82) (fun _ h9 => h9) rfl dX5_writes_16 ?_
    refine lv_if_le (tgt := 31) hx hb dX5_writes_19 (by decide) (fun c19 => ?_) (fun c19 => ?_)
    · have e4 : wLeft left = left := if_neg (Int32.not_lt.mpr c19)
      refine lv_aload_n hx hb dX5_writes_31 rfl (lv_at hl 0 rfl) ?_
      refine va_get (D := D) (ci := 5) (v := .int left) (C := RX5) (T := TX5) (N := 17) hx hb ht inX5 hown hK hP 0 rfl rfl 2 (by decide) (ht _ kw3_82) (fun _ h9 => h9) rfl dX5_writes_32 ?_
      refine va_put (D := D) (ci := 5) (v := .int left) (ty := .int) (C := RX5) (T := TX5) (N := 17) hx hb ht inX5 tyX5 tyX5_ok nmX5 hown hK hP hD hS 0 rfl rfl 2 (by decide) (ht _ kw3_82) (fun _ h9 => h9) rfl (by decide +kernel) (rfl) rfl (Nat.le_of_ble_eq_true rfl) dX5_writes_35 (fun H locs hP hD hS => ?_)
      have hP : va_P D vwCl (mW cI cZ G code off left wr rc mem oth ks vs sx pl ps pk sr tg fl xs) H := hP
      have hD : va_D A (mW cI cZ G code off left wr rc mem oth ks vs sx pl ps pk sr tg fl xs) := hD
      refine lv_aload_n hx hb dX5_writes_38 rfl (lv_at hl 0 rfl) ?_
      refine lv_dup hx hb dX5_writes_39 rfl ?_
      refine va_get (D := D) (ci := 5) (v := .int wr) (C := RX5) (T := TX5) (N := 17) hx hb ht inX5 hown hK hP 0 rfl rfl 3 (by decide) (ht _ kw3_83) (fun _ h9 => h9) rfl dX5_writes_40 ?_
      refine lv_iconst (v := 1) hx hb dX5_writes_43 (by decide) ?_
      refine lv_iadd hx hb dX5_writes_44 ?_
      refine va_put (D := D) (ci := 5) (v := .int (wr + 1)) (ty := .int) (C := RX5) (T := TX5) (N := 17) hx hb ht inX5 tyX5 tyX5_ok nmX5 hown hK hP hD hS 0 rfl rfl 3 (by decide) (ht _ kw3_83) (fun _ h9 => h9) rfl (by decide +kernel) (rfl) rfl (Nat.le_of_ble_eq_true rfl) dX5_writes_45 (fun H locs hP hD hS => ?_)
      have hP : va_P D vwCl (mW cI cZ G code off left (wr + 1) rc mem oth ks vs sx pl ps pk sr tg fl xs) H := hP
      have hD : va_D A (mW cI cZ G code off left (wr + 1) rc mem oth ks vs sx pl ps pk sr tg fl xs) := hD
      refine lv_iconst (v := 1) hx hb dX5_writes_48 (by decide) ?_
      exact W.zret (v := 1) hx hb hr (by decide +kernel) (fun t ht2 hW => ⟨⟨1, (), rfl, e1.symm, by
            (try dsimp only)
            rw [e2, e3, e4, ht2]
            exact ⟨hP, hD⟩⟩, hS.F ht2⟩) hS.2.2 dX5_writes_49
    · have e4 : wLeft left = left - 1 := if_pos (Int32.not_le.mp c19)
      refine lv_aload_n hx hb dX5_writes_22 rfl (lv_at hl 0 rfl) ?_
      refine va_get (D := D) (ci := 5) (v := .int left) (C := RX5) (T := TX5) (N := 17) hx hb ht inX5 hown hK hP 0 rfl rfl 2 (by decide) (ht _ kw3_82) (fun _ h9 => h9) rfl dX5_writes_23 ?_
      refine lv_iconst (v := 1) hx hb dX5_writes_26 (by decide) ?_
      refine lv_isub hx hb dX5_writes_27 ?_
      refine lv_goto (tgt := 35) hx hb dX5_writes_28 (by decide) ?_
      refine va_put (D := D) (ci := 5) (v := .int (left - 1)) (ty := .int) (C := RX5) (T := TX5) (N := 17) hx hb ht inX5 tyX5 tyX5_ok nmX5 hown hK hP hD hS 0 rfl rfl 2 (by decide) (ht _ kw3_82) (fun _ h9 => h9) rfl (by decide +kernel) (rfl) rfl (Nat.le_of_ble_eq_true rfl) dX5_writes_35 (fun H locs hP hD hS => ?_)
      have hP : va_P D vwCl (mW cI cZ G code off (left - 1) wr rc mem oth ks vs sx pl ps pk sr tg fl xs) H := hP
      have hD : va_D A (mW cI cZ G code off (left - 1) wr rc mem oth ks vs sx pl ps pk sr tg fl xs) := hD
      refine lv_aload_n hx hb dX5_writes_38 rfl (lv_at hl 0 rfl) ?_
      refine lv_dup hx hb dX5_writes_39 rfl ?_
      refine va_get (D := D) (ci := 5) (v := .int wr) (C := RX5) (T := TX5) (N := 17) hx hb ht inX5 hown hK hP 0 rfl rfl 3 (by decide) (ht _ kw3_83) (fun _ h9 => h9) rfl dX5_writes_40 ?_
      refine lv_iconst (v := 1) hx hb dX5_writes_43 (by decide) ?_
      refine lv_iadd hx hb dX5_writes_44 ?_
      refine va_put (D := D) (ci := 5) (v := .int (wr + 1)) (ty := .int) (C := RX5) (T := TX5) (N := 17) hx hb ht inX5 tyX5 tyX5_ok nmX5 hown hK hP hD hS 0 rfl rfl 3 (by decide) (ht _ kw3_83) (fun _ h9 => h9) rfl (by decide +kernel) (rfl) rfl (Nat.le_of_ble_eq_true rfl) dX5_writes_45 (fun H locs hP hD hS => ?_)
      have hP : va_P D vwCl (mW cI cZ G code off (left - 1) (wr + 1) rc mem oth ks vs sx pl ps pk sr tg fl xs) H := hP
      have hD : va_D A (mW cI cZ G code off (left - 1) (wr + 1) rc mem oth ks vs sx pl ps pk sr tg fl xs) := hD
      refine lv_iconst (v := 1) hx hb dX5_writes_48 (by decide) ?_
      exact W.zret (v := 1) hx hb hr (by decide +kernel) (fun t ht2 hW => ⟨⟨1, (), rfl, e1.symm, by
            (try dsimp only)
            rw [e2, e3, e4, ht2]
            exact ⟨hP, hD⟩⟩, hS.F ht2⟩) hS.2.2 dX5_writes_49
  · have e1 : wOk left = 0 := if_pos c4
    have e2 : wOff left off = 1 := if_pos c4
    have e3 : wInc left wr = wr := if_pos c4
    have e4 : wLeft left = left := if_neg (by rw [c4]; decide)
    refine lv_aload_n hx hb dX5_writes_7 rfl (lv_at hl 0 rfl) ?_
    refine lv_iconst (v := 1) hx hb dX5_writes_8 (by decide) ?_
    refine va_put (D := D) (ci := 5) (v := .int 1) (ty := .boolean) (C := RX5) (T := TX5) (N := 17) hx hb ht inX5 tyX5 tyX5_ok nmX5 hown hK hP hD hS 0 rfl rfl 1 (by decide) (ht _ kw3_81) (fun _ h9 => h9) rfl (by decide +kernel) (by decide +kernel) rfl (Nat.le_of_ble_eq_true rfl) dX5_writes_9 (fun H locs hP hD hS => ?_)
    have hP : va_P D vwCl (mW cI cZ G code 1 left wr rc mem oth ks vs sx pl ps pk sr tg fl xs) H := hP
    have hD : va_D A (mW cI cZ G code 1 left wr rc mem oth ks vs sx pl ps pk sr tg fl xs) := hD
    refine lv_iconst (v := 0) hx hb dX5_writes_12 (by decide) ?_
    exact W.zret (v := 0) hx hb hr (by decide +kernel) (fun t ht2 hW => ⟨⟨0, (), rfl, e1.symm, by
          (try dsimp only)
          rw [e2, e3, e4, ht2]
          exact ⟨hP, hD⟩⟩, hS.F ht2⟩) hS.2.2 dX5_writes_13

set_option maxHeartbeats 4000000 in
set_option maxRecDepth 100000 in
theorem c_X5_record (l : Launch) (D : va_G) (cI cZ cS cJ : ClassId) (sz : Nat) (G : Nat → Nat) (code off left wr rc : Int32) (mem oth ks vs sx : Nat → Int32) (pl ps : Int32) (pk sr tg fl xs : Nat → Int32)  : Met l yX5_record (Cond.code yX5_record cX5_record 2 (some .boolean) :: TB) ({ frames := 1, cells := 0, slots := 0, locals := 20 } : Room) (va_Pc [.ref (G 0)] (PB D (KT cI cZ cS cJ) (mW cI cZ G code off left wr rc mem oth ks vs sx pl ps pk sr tg fl xs) sz)) (va_Qi (fun r (_ : Unit) => r = wOk left) (fun (u : Unit) t => va_P D vwCl (mW cI cZ G code (wOff left off) (wLeft left) (wInc left wr) (wInc left rc) mem oth ks vs sx pl ps pk sr tg fl xs) t.heap ∧ va_D (va_A (mW cI cZ G code off left wr rc mem oth ks vs sx pl ps pk sr tg fl xs) sz) (mW cI cZ G code (wOff left off) (wLeft left) (wInc left wr) (wInc left rc) mem oth ks vs sx pl ps pk sr tg fl xs)) (va_A (mW cI cZ G code off left wr rc mem oth ks vs sx pl ps pk sr tg fl xs) sz)) 0 0 (va_A (mW cI cZ G code off left wr rc mem oth ks vs sx pl ps pk sr tg fl xs) sz) := by
  refine Met.ofW (cc := cX5_record) (maxL := 2) (ret := (some .boolean)) (by decide) rfl ?_
  intro p e s m args below meth c s₁ B hml hv
  obtain ⟨rfl, hsz, hP, hK, hD0⟩ := hv
  have hx := B.exec
  have hb := B.bytes
  have hr := B.returns
  have hts := atoms_spec (ws := (Cond.code yX5_record cX5_record 2 (some .boolean) :: TB)) B.pre
  have ht : ∀ w ∈ TB, w.before _ s = true := fun w h => hts w (List.mem_cons_of_mem _ h)
  have hown : s.vm.findClass RX5 = some m.cls := findClass_of_methodNamed B.named
  have hlocks := B.notSynchronized
  subst hsz
  have hD := hD0.self (sz := s.heap.size)
  generalize hAe : va_A (mW cI cZ G code off left wr rc mem oth ks vs sx pl ps pk sr tg fl xs) s.heap.size = A at hD ⊢
  have hA : ∀ q : Nat, s.heap.size ≤ q → A q := fun q h => by rw [← hAe]; exact Or.inr h
  have hS : va_S A s.heap s.heap [] := va_S.rf
  have hP : va_P D vwCl (mW cI cZ G code off left wr rc mem oth ks vs sx pl ps pk sr tg fl xs) s.heap := hP
  have hl := lv_entry ([.ref (G 0)]) (n := 2) (Nat.le_of_ble_eq_true rfl)
  rw [lg_entry_eq]
  generalize (lg_sl ([.ref (G 0)]) ++ List.replicate (2 - (lg_sl ([.ref (G 0)])).length) Slot.unset).toArray = ls at hl ⊢
  have hl : lv_has ls 2 [(0, .ref (G 0))] := hl
  refine lv_aload_n hx hb dX5_record_0 rfl (lv_at hl 0 rfl) ?_
  have hPc := hP.sub (ws' := mW cI cZ G code off left wr rc mem oth ks vs sx pl ps pk sr tg fl xs) [0, 1, 2, 3, 4, 5, 6, 7, 8, 9, 10] rfl
  have hDc := hD.sub (ws' := mW cI cZ G code off left wr rc mem oth ks vs sx pl ps pk sr tg fl xs) [0, 1, 2, 3, 4, 5, 6, 7, 8, 9, 10] (by decide) rfl
  have hFc := va_free (wc := mW cI cZ G code off left wr rc mem oth ks vs sx pl ps pk sr tg fl xs) hD hS hA [0, 1, 2, 3, 4, 5, 6, 7, 8, 9, 10] rfl
  refine va_calli (va_runV (As := []) (rest := []) ⟨hx, hb, hml, hown, ht⟩ (c_X5_writes l D cI cZ cS cJ s.heap.size G code off left wr rc mem oth ks vs sx pl ps pk sr tg fl xs ) (xwV 0 ht kw3_188 kw3_185 kw1_11 kw3_187 kwS_31 rfl rfl (by decide +kernel) ⟨Nat.le_of_ble_eq_true rfl, Nat.le_of_ble_eq_true rfl⟩) ⟨PB.blind, va_recv hK hPc (ci := 5) (q0 := 0) rfl rfl, fun U hU hW => PB.mk hU hW hPc hK hDc⟩ rfl rfl hl.1 rfl (lv_room (Nat.le_of_ble_eq_true rfl)) dX5_record_1 ⟨Nat.le_of_ble_eq_true rfl, Nat.le_of_ble_eq_true rfl⟩) hS (fun q _ h => hFc q h) hFc (fun r1 u1 t1 H1 locs ht1 hvm w1 hB hz1 hk1 hS => ?_)
  try dsimp only at w1 hB
  obtain ⟨hP1, hD1⟩ := hB
  rw [ht1] at hP1
  obtain ⟨hP, hD⟩ := wk_join (w1 := (mW cI cZ G code (wOff left off) (wLeft left) (wInc left wr) rc mem oth ks vs sx pl ps pk sr tg fl xs)) hP hD [0, 1, 2, 3, 4, 5, 6, 7, 8, 9, 10] rfl (by decide) rfl hk1 hFc hP1 hD1
  generalize H1 = H at hP hS ⊢
  have hP : va_P D vwCl (mW cI cZ G code (wOff left off) (wLeft left) (wInc left wr) rc mem oth ks vs sx pl ps pk sr tg fl xs) H := hP
  have hD : va_D A (mW cI cZ G code (wOff left off) (wLeft left) (wInc left wr) rc mem oth ks vs sx pl ps pk sr tg fl xs) := hD
  refine lv_istore_n (lv' := [(1, .int r1), (0, .ref (G 0))]) hx hb dX5_record_4 rfl hl (by decide) rfl (fun ls hl => ?_)
  refine lv_aload_n hx hb dX5_record_5 rfl (lv_at hl 1 rfl) ?_
  refine lv_iload_n hx hb dX5_record_6 rfl (lv_at hl 0 rfl) ?_
  refine lv_if_eq (tgt := 19) hx hb dX5_record_7 (by decide) (fun c7 => ?_) (fun c7 => ?_)
  · have e1 : wInc left rc = rc := by unfold wInc; split; rfl; next h => rw [w1, wOk, if_neg h] at c7; exact absurd c7 (by decide)
    refine lv_aload_n hx hb dX5_record_19 rfl (lv_at hl 1 rfl) ?_
    refine va_get (D := D) (ci := 5) (v := .int rc) (C := RX5) (T := TX5) (N := 17) hx hb ht inX5 hown hK hP 0 rfl rfl 4 (by decide) (ht _ kw3_84) (fun _ h9 => h9) rfl dX5_record_20 ?_
    refine va_put (D := D) (ci := 5) (v := .int rc) (ty := .int) (C := RX5) (T := TX5) (N := 17) hx hb ht inX5 tyX5 tyX5_ok nmX5 hown hK hP hD hS 0 rfl rfl 4 (by decide) (ht _ kw3_84) (fun _ h9 => h9) rfl (by decide +kernel) (rfl) rfl (Nat.le_of_ble_eq_true rfl) dX5_record_23 (fun H locs hP hD hS => ?_)
    have hP : va_P D vwCl (mW cI cZ G code (wOff left off) (wLeft left) (wInc left wr) rc mem oth ks vs sx pl ps pk sr tg fl xs) H := hP
    have hD : va_D A (mW cI cZ G code (wOff left off) (wLeft left) (wInc left wr) rc mem oth ks vs sx pl ps pk sr tg fl xs) := hD
    refine lv_iload_n hx hb dX5_record_26 rfl (lv_at hl 0 rfl) ?_
    exact W.zret (v := r1) hx hb hr (by rw [w1]; unfold wOk; split <;> decide +kernel) (fun t ht2 hW => ⟨⟨r1, (), rfl, w1, by
          (try dsimp only)
          rw [e1, ht2]
          exact ⟨hP, hD⟩⟩, hS.F ht2⟩) hS.2.2 dX5_record_27
  · have e1 : wInc left rc = rc + 1 := if_neg (fun h => by rw [w1, wOk, if_pos h] at c7; exact c7 rfl)
    refine lv_aload_n hx hb dX5_record_10 rfl (lv_at hl 1 rfl) ?_
    refine va_get (D := D) (ci := 5) (v := .int rc) (C := RX5) (T := TX5) (N := 17) hx hb ht inX5 hown hK hP 0 rfl rfl 4 (by decide) (ht _ kw3_84) (fun _ h9 => h9) rfl dX5_record_11 ?_
    refine lv_iconst (v := 1) hx hb dX5_record_14 (by decide) ?_
    refine lv_iadd hx hb dX5_record_15 ?_
    refine lv_goto (tgt := 23) hx hb dX5_record_16 (by decide) ?_
    refine va_put (D := D) (ci := 5) (v := .int (rc + 1)) (ty := .int) (C := RX5) (T := TX5) (N := 17) hx hb ht inX5 tyX5 tyX5_ok nmX5 hown hK hP hD hS 0 rfl rfl 4 (by decide) (ht _ kw3_84) (fun _ h9 => h9) rfl (by decide +kernel) (rfl) rfl (Nat.le_of_ble_eq_true rfl) dX5_record_23 (fun H locs hP hD hS => ?_)
    have hP : va_P D vwCl (mW cI cZ G code (wOff left off) (wLeft left) (wInc left wr) (rc + 1) mem oth ks vs sx pl ps pk sr tg fl xs) H := hP
    have hD : va_D A (mW cI cZ G code (wOff left off) (wLeft left) (wInc left wr) (rc + 1) mem oth ks vs sx pl ps pk sr tg fl xs) := hD
    refine lv_iload_n hx hb dX5_record_26 rfl (lv_at hl 0 rfl) ?_
    exact W.zret (v := r1) hx hb hr (by rw [w1]; unfold wOk; split <;> decide +kernel) (fun t ht2 hW => ⟨⟨r1, (), rfl, w1, by
          (try dsimp only)
          rw [e1, ht2]
          exact ⟨hP, hD⟩⟩, hS.F ht2⟩) hS.2.2 dX5_record_27

set_option maxHeartbeats 4000000 in
set_option maxRecDepth 100000 in
theorem c_X5_isOff (l : Launch) (D : va_G) (cI cZ cS cJ : ClassId) (sz : Nat) (G : Nat → Nat) (code off left wr rc : Int32) (mem oth ks vs sx : Nat → Int32) (pl ps : Int32) (pk sr tg fl xs : Nat → Int32) (hoff : off = 0 ∨ off = 1) : Met l yX5_isOff (Cond.code yX5_isOff cX5_isOff 1 (some .boolean) :: TB) ({ frames := 0, cells := 0, slots := 0, locals := 0 } : Room) (va_Pc [.ref (G 0)] (PB D (KT cI cZ cS cJ) (mW cI cZ G code off left wr rc mem oth ks vs sx pl ps pk sr tg fl xs) sz)) (va_Qi (fun r (_ : Unit) => r = off) (fun (u : Unit) t => va_P D vwCl (mW cI cZ G off off left wr rc mem oth ks vs sx pl ps pk sr tg fl xs) t.heap ∧ va_D (va_A (mW cI cZ G code off left wr rc mem oth ks vs sx pl ps pk sr tg fl xs) sz) (mW cI cZ G off off left wr rc mem oth ks vs sx pl ps pk sr tg fl xs)) (va_A (mW cI cZ G code off left wr rc mem oth ks vs sx pl ps pk sr tg fl xs) sz)) 0 0 (va_A (mW cI cZ G code off left wr rc mem oth ks vs sx pl ps pk sr tg fl xs) sz) := by
  refine Met.ofW (cc := cX5_isOff) (maxL := 1) (ret := (some .boolean)) (by decide) rfl ?_
  intro p e s m args below meth c s₁ B hml hv
  obtain ⟨rfl, hsz, hP, hK, hD0⟩ := hv
  have hx := B.exec
  have hb := B.bytes
  have hr := B.returns
  have hts := atoms_spec (ws := (Cond.code yX5_isOff cX5_isOff 1 (some .boolean) :: TB)) B.pre
  have ht : ∀ w ∈ TB, w.before _ s = true := fun w h => hts w (List.mem_cons_of_mem _ h)
  have hown : s.vm.findClass RX5 = some m.cls := findClass_of_methodNamed B.named
  have hlocks := B.notSynchronized
  subst hsz
  have hD := hD0.self (sz := s.heap.size)
  generalize hAe : va_A (mW cI cZ G code off left wr rc mem oth ks vs sx pl ps pk sr tg fl xs) s.heap.size = A at hD ⊢
  have hA : ∀ q : Nat, s.heap.size ≤ q → A q := fun q h => by rw [← hAe]; exact Or.inr h
  have hS : va_S A s.heap s.heap [] := va_S.rf
  have hP : va_P D vwCl (mW cI cZ G code off left wr rc mem oth ks vs sx pl ps pk sr tg fl xs) s.heap := hP
  have hl := lv_entry ([.ref (G 0)]) (n := 1) (Nat.le_of_ble_eq_true rfl)
  rw [lg_entry_eq]
  generalize (lg_sl ([.ref (G 0)]) ++ List.replicate (1 - (lg_sl ([.ref (G 0)])).length) Slot.unset).toArray = ls at hl ⊢
  have hl : lv_has ls 1 [(0, .ref (G 0))] := hl
  refine lv_aload_n hx hb dX5_isOff_0 rfl (lv_at hl 0 rfl) ?_
  refine lv_aload_n hx hb dX5_isOff_1 rfl (lv_at hl 0 rfl) ?_
  refine va_get (D := D) (ci := 5) (v := .int off) (C := RX5) (T := TX5) (N := 17) hx hb ht inX5 hown hK hP 0 rfl rfl 1 (by decide) (ht _ kw3_81) (fun _ h9 => h9) rfl dX5_isOff_2 ?_
  refine lv_if_eq (tgt := 12) hx hb dX5_isOff_5 (by decide) (fun c5 => ?_) (fun c5 => ?_)
  · have e1 : off = 0 := c5
    refine lv_iconst (v := 0) hx hb dX5_isOff_12 (by decide) ?_
    refine va_put (D := D) (ci := 5) (v := .int 0) (ty := .int) (C := RX5) (T := TX5) (N := 17) hx hb ht inX5 tyX5 tyX5_ok nmX5 hown hK hP hD hS 0 rfl rfl 0 (by decide) (ht _ kw3_80) (fun _ h9 => h9) rfl (by decide +kernel) (rfl) rfl (Nat.le_of_ble_eq_true rfl) dX5_isOff_13 (fun H locs hP hD hS => ?_)
    have hP : va_P D vwCl (mW cI cZ G 0 off left wr rc mem oth ks vs sx pl ps pk sr tg fl xs) H := hP
    have hD : va_D A (mW cI cZ G 0 off left wr rc mem oth ks vs sx pl ps pk sr tg fl xs) := hD
    refine lv_aload_n hx hb dX5_isOff_16 rfl (lv_at hl 0 rfl) ?_
    refine va_get (D := D) (ci := 5) (v := .int off) (C := RX5) (T := TX5) (N := 17) hx hb ht inX5 hown hK hP 0 rfl rfl 1 (by decide) (ht _ kw3_81) (fun _ h9 => h9) rfl dX5_isOff_17 ?_
    exact W.zret (v := off) hx hb hr (by rcases hoff with h | h <;> rw [h] <;> decide +kernel) (fun t ht2 hW => ⟨⟨off, (), rfl, rfl, by
          (try dsimp only)
          rw [ht2]
          refine ⟨?_, ?_⟩
          · first | (rw [e1] at hP ⊢; exact hP) | exact hP
          · first | (rw [e1] at hD ⊢; exact hD) | exact hD⟩, hS.F ht2⟩) hS.2.2 dX5_isOff_20
  · have e1 : off = 1 := hoff.resolve_left c5
    refine lv_iconst (v := 1) hx hb dX5_isOff_8 (by decide) ?_
    refine lv_goto (tgt := 13) hx hb dX5_isOff_9 (by decide) ?_
    refine va_put (D := D) (ci := 5) (v := .int 1) (ty := .int) (C := RX5) (T := TX5) (N := 17) hx hb ht inX5 tyX5 tyX5_ok nmX5 hown hK hP hD hS 0 rfl rfl 0 (by decide) (ht _ kw3_80) (fun _ h9 => h9) rfl (by decide +kernel) (rfl) rfl (Nat.le_of_ble_eq_true rfl) dX5_isOff_13 (fun H locs hP hD hS => ?_)
    have hP : va_P D vwCl (mW cI cZ G 1 off left wr rc mem oth ks vs sx pl ps pk sr tg fl xs) H := hP
    have hD : va_D A (mW cI cZ G 1 off left wr rc mem oth ks vs sx pl ps pk sr tg fl xs) := hD
    refine lv_aload_n hx hb dX5_isOff_16 rfl (lv_at hl 0 rfl) ?_
    refine va_get (D := D) (ci := 5) (v := .int off) (C := RX5) (T := TX5) (N := 17) hx hb ht inX5 hown hK hP 0 rfl rfl 1 (by decide) (ht _ kw3_81) (fun _ h9 => h9) rfl dX5_isOff_17 ?_
    exact W.zret (v := off) hx hb hr (by rcases hoff with h | h <;> rw [h] <;> decide +kernel) (fun t ht2 hW => ⟨⟨off, (), rfl, rfl, by
          (try dsimp only)
          rw [ht2]
          refine ⟨?_, ?_⟩
          · first | (rw [e1] at hP ⊢; exact hP) | exact hP
          · first | (rw [e1] at hD ⊢; exact hD) | exact hD⟩, hS.F ht2⟩) hS.2.2 dX5_isOff_20
