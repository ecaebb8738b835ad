-- the law: its loop
/-! THE CLAIM OUT OF ONE WALK OF THE LAW'S BODY. Your part is whole_start (and what it stands on); all else here is the same for every law, but numbers. -/
def R_law : String := "ShardRingLaw"
def lw_P (b : Addr) (xs : List Int32) (args : Array Value) (s : State) : Prop := args = #[.ref b] ∧ s.IntsAt b xs ∧ xs.length ≤ 1538 ∧ (Jvm.Cond.and given_1 narrow_1).before args s = true
def lw_Q (_ : Array Value) (s : State) (o : Outcome) (t : State) : Prop := o = .returned (some (.int 1)) ∧ Framed s o t [] 601024 7293000
def lw_Z (below : List Frame) (a : Array Value) (s : State) : State → Prop := fun t => ∃ o, t.status = .running ∧ Ended t below o ∧ lw_Q a s o t
/-- the law's own end, with 1 on the stack, nothing written that was there before, its room as the claim has it -/
theorem lw_ret {p : Program} {l : Launch} {e : Env} {s : State} {m : MethodId} {below : List Frame} {meth : Method} {c : Code} {b : Nat} (hx : p.tables.exec = Jvm.exec) (hb : c.code = code) (hr : meth.sig.returnType = ret) (hlocks : meth.locks = false) {pc : Nat} {H : Heap} {ls : Array Slot} (hdg : decode code pc = .ok (.ireturn, 1)) : W p l e room_1 s m #[Value.ref b] below meth c H [] 601024 7293000 (lw_Z below #[Value.ref b] s) (F0 m pc ls [.int 1]) := by
  intro T hT X
  obtain ⟨fs, hret, hrun, hended, hW, hframe⟩ := X.leave (v := some (.int 1)) (hlocks := hlocks) (fun h => by rw [hr] at h; cases h)
  have hmeth' : T.vm.method? m = some meth := X.method'
  refine ⟨T.setFrames fs, ?_, .returned (some (.int 1)), hrun, hended, rfl, ⟨_, rfl⟩, hW, hframe⟩
  jvm_step X.here [X.here.top, hx, hb, hdg, hmeth', hr, ret, narrow_b1]
  (try refine ⟨rfl, ?_⟩); (try refine ⟨rfl, ?_⟩)
  first | (intro acts; rw [hret _ acts rfl rfl rfl]) | rw [hret _ _ rfl rfl rfl]
  exact Steps.refl _
/-- what holds at the law's entry: the machine, the code, the tables' words (any of lw_tbl by 'hts w (by decide +kernel)'), the script of L ints xs at the cell b, what the Statement gives of the start (any of its parts by flat_of_before) -/
def lw_At (p : Program) (s : State) (m : MethodId) (meth : Method) (c : Code) (b L : Nat) (xs : Nat → Int32) : Prop :=
  p.tables.exec = Jvm.exec ∧ c.code = code ∧ meth.sig.returnType = ret ∧ c.maxLocals = 8 ∧ s.vm.findClass R_law = some m.cls ∧ (∀ w ∈ lw_tbl, w.before #[Value.ref b] s = true) ∧ va_X b L xs s s.heap ∧ b < s.heap.size ∧ meth.locks = false ∧ (Jvm.Cond.and given_1 narrow_1).before #[Value.ref b] s = true
theorem lsub {L i : Nat} (hL : L ≤ 1538) (hi : i < 2 ^ 31) (h : ¬ (Int32.ofNat L - 3 < nI i)) : i + 2 < L := by
  rcases Nat.lt_or_ge L 3 with q | q
  · exfalso
    have h3 : Int32.ofNat L - 3 < 0 := by
      rcases (show L = 0 ∨ L = 1 ∨ L = 2 by omega) with rfl | rfl | rfl <;> decide
    exact h (Int32.lt_of_lt_of_le h3 (nI_pos' hi))
  · have e : Int32.ofNat L - 3 = nI (L - 3) := by
      rw [show (3 : Int32) = nI 3 from rfl]; exact pk_sub q
    rw [e, nI_ltI (by omega) hi] at h
    omega
set_option maxHeartbeats 4000000 in
set_option maxRecDepth 100000 in
theorem law_sw {p : Program} {l : Launch} {e : Env} {s : State} {m : MethodId} {below : List Frame} {meth : Method} {c : Code} {b L : Nat} {xs : Nat → Int32} {D : va_G} {cI cZ cS cJ : ClassId} {G SA M : Nat → Nat} {sf : Nat → Option Nat} {o : Nat} {A : Nat → Prop} (hl0 : l.stackTraces = false) (C9 : LA p s m c b L xs D cI cZ cS cJ SA sf A) {N kc nc i : Nat} {u : CT} {v : MT} {fo : Nat → Int64} {H : Heap} {locs : List Loc} {ls : Array Slot} {Q : State → Prop} (hI : LSt s D cI cZ cS cJ G SA sf M o A N u v fo H locs) (hN : N ≤ 511) (hi : i + 2 < L) (hkc : kc + 80 ≤ 601024) (hnc : nc + 8400 ≤ 7293000) (hl : lv_has ls 8 [(4, .int (nI (i))), (3, .ref o), (2, .ref (M 0)), (1, .ref (G 0)), (0, .ref b)]) (K : ∀ (u1 : CT) (v1 : MT) (f1 : Nat → Int64) (H1 : Heap) (locs1 : List Loc) (ls1 : Array Slot), LSt s D cI cZ cS cJ G SA sf M o A (N + 1) u1 v1 f1 H1 locs1 → lv_has ls1 8 [(4, .int (nI (i))), (3, .ref o), (2, .ref (M 0)), (1, .ref (G 0)), (0, .ref b)] → W p l e room_1 s m #[Value.ref b] below meth c H1 locs1 (kc + 80) (nc + 8400) Q (F0 m 1225 ls1 [])) (x : Int32) : W p l e room_1 s m #[Value.ref b] below meth c H locs kc nc Q (F0 m 59 ls [.int x]) := by
  obtain ⟨hx, hb, -⟩ := id C9
  by_cases c1 : x.toInt < 0 ∨ 19 < x.toInt
  · refine lv_tableOut (tgt := 1225) hx hb dL_law_59 c1 (by decide) ?_
    refine W.widen (k := kc + 80) (n := nc + 8400) (Nat.le_add_right _ _) (Nat.le_add_right _ _) ?_
    exact K u v fo H locs ls ⟨hI.1, hI.2.1, hI.2.2.1, hI.2.2.2.1, hI.2.2.2.2.1, AI.mono hI.2.2.2.2.2.1, hI.2.2.2.2.2.2⟩ hl
  · have a1 : ¬ x.toInt < 0 := fun q => c1 (Or.inl q)
    have a2 : ¬ 19 < x.toInt := fun q => c1 (Or.inr q)
    obtain ⟨n, hn, hxn⟩ : ∃ n : Nat, n < 20 ∧ x.toInt = (n : Int) := ⟨x.toInt.toNat, by omega, by omega⟩
    rcases (show n = 0 ∨ n = 1 ∨ n = 2 ∨ n = 3 ∨ n = 4 ∨ n = 5 ∨ n = 6 ∨ n = 7 ∨ n = 8 ∨ n = 9 ∨ n = 10 ∨ n = 11 ∨ n = 12 ∨ n = 13 ∨ n = 14 ∨ n = 15 ∨ n = 16 ∨ n = 17 ∨ n = 18 ∨ n = 19 by omega) with rfl | rfl | rfl | rfl | rfl | rfl | rfl | rfl | rfl | rfl | rfl | rfl | rfl | rfl | rfl | rfl | rfl | rfl | rfl | rfl
    · refine lv_tableIn (off := 93) (tgt := 152) hx hb dL_law_59 a1 a2 (by rw [hxn]; decide) (by decide) ?_
      exact law_put hl0 C9 hI hN hi hkc hnc hl K
    · refine lv_tableIn (off := 161) (tgt := 220) hx hb dL_law_59 a1 a2 (by rw [hxn]; decide) (by decide) ?_
      exact law_remove hl0 C9 hI hN hi hkc hnc hl K
    · refine lv_tableIn (off := 217) (tgt := 276) hx hb dL_law_59 a1 a2 (by rw [hxn]; decide) (by decide) ?_
      exact law_get hl0 C9 hI hN hi hkc hnc hl K
    · refine lv_tableIn (off := 273) (tgt := 332) hx hb dL_law_59 a1 a2 (by rw [hxn]; decide) (by decide) ?_
      exact law_join hl0 C9 hI hN hi hkc hnc hl K
    · refine lv_tableIn (off := 341) (tgt := 400) hx hb dL_law_59 a1 a2 (by rw [hxn]; decide) (by decide) ?_
      exact law_leave hl0 C9 hI hN hi hkc hnc hl K
    · refine lv_tableIn (off := 397) (tgt := 456) hx hb dL_law_59 a1 a2 (by rw [hxn]; decide) (by decide) ?_
      exact law_step hl0 C9 hI hN hi hkc hnc hl K
    · refine lv_tableIn (off := 441) (tgt := 500) hx hb dL_law_59 a1 a2 (by rw [hxn]; decide) (by decide) ?_
      exact law_fail hl0 C9 hI hN hi hkc hnc hl K
    · refine lv_tableIn (off := 477) (tgt := 536) hx hb dL_law_59 a1 a2 (by rw [hxn]; decide) (by decide) ?_
      exact law_recover hl0 C9 hI hN hi hkc hnc hl K
    · refine lv_tableIn (off := 521) (tgt := 580) hx hb dL_law_59 a1 a2 (by rw [hxn]; decide) (by decide) ?_
      exact law_off hl0 C9 hI hN hi hkc hnc hl K
    · refine lv_tableIn (off := 534) (tgt := 593) hx hb dL_law_59 a1 a2 (by rw [hxn]; decide) (by decide) ?_
      exact law_place hl0 C9 hI hN hi hkc hnc hl K
    · refine lv_tableIn (off := 591) (tgt := 650) hx hb dL_law_59 a1 a2 (by rw [hxn]; decide) (by decide) ?_
      exact law_owner hl0 C9 hI hN hi hkc hnc hl K
    · refine lv_tableIn (off := 647) (tgt := 706) hx hb dL_law_59 a1 a2 (by rw [hxn]; decide) (by decide) ?_
      exact law_home hl0 C9 hI hN hi hkc hnc hl K
    · refine lv_tableIn (off := 703) (tgt := 762) hx hb dL_law_59 a1 a2 (by rw [hxn]; decide) (by decide) ?_
      exact law_state hl0 C9 hI hN hi hkc hnc hl K
    · refine lv_tableIn (off := 759) (tgt := 818) hx hb dL_law_59 a1 a2 (by rw [hxn]; decide) (by decide) ?_
      exact law_holds hl0 C9 hI hN hi hkc hnc hl K
    · refine lv_tableIn (off := 834) (tgt := 893) hx hb dL_law_59 a1 a2 (by rw [hxn]; decide) (by decide) ?_
      exact law_size hl0 C9 hI hN hi hkc hnc hl K
    · refine lv_tableIn (off := 890) (tgt := 949) hx hb dL_law_59 a1 a2 (by rw [hxn]; decide) (by decide) ?_
      exact law_key hl0 C9 hI hN hi hkc hnc hl K
    · refine lv_tableIn (off := 958) (tgt := 1017) hx hb dL_law_59 a1 a2 (by rw [hxn]; decide) (by decide) ?_
      exact law_points hl0 C9 hI hN hi hkc hnc hl K
    · refine lv_tableIn (off := 1014) (tgt := 1073) hx hb dL_law_59 a1 a2 (by rw [hxn]; decide) (by decide) ?_
      exact law_count hl0 C9 hI hN hi hkc hnc hl K
    · refine lv_tableIn (off := 1070) (tgt := 1129) hx hb dL_law_59 a1 a2 (by rw [hxn]; decide) (by decide) ?_
      exact law_written hl0 C9 hI hN hi hkc hnc hl K
    · refine lv_tableIn (off := 1111) (tgt := 1170) hx hb dL_law_59 a1 a2 (by rw [hxn]; decide) (by decide) ?_
      exact law_share hl0 C9 hI hN hi hkc hnc hl K
set_option maxHeartbeats 4000000 in
set_option maxRecDepth 100000 in
theorem law_loop {p : Program} {l : Launch} {e : Env} {s : State} {m : MethodId} {below : List Frame} {meth : Method} {c : Code} {b L : Nat} {xs : Nat → Int32} {D : va_G} {cI cZ cS cJ : ClassId} {G SA M : Nat → Nat} {sf : Nat → Option Nat} {o : Nat} {A : Nat → Prop} (hl0 : l.stackTraces = false) (C9 : LA p s m c b L xs D cI cZ cS cJ SA sf A) (hr : meth.sig.returnType = ret) (hlocks : meth.locks = false) {u : CT} {v : MT} {fo : Nat → Int64} {H : Heap} {locs : List Loc} {ls : Array Slot} (hI : LSt s D cI cZ cS cJ G SA sf M o A 0 u v fo H locs) (hl : lv_has ls 8 [(4, .int (nI (2))), (3, .ref o), (2, .ref (M 0)), (1, .ref (G 0)), (0, .ref b)]) : W p l e room_1 s m #[Value.ref b] below meth c H locs 100 20000 (lw_Z below #[Value.ref b] s) (F0 m 43 ls []) := by
  obtain ⟨hx, hb, hml, hown, ht, hX, hbl, hK, hTX, hNC, hsf, hLb, hAe⟩ := id C9
  have hbA : ¬ A b := by rw [hAe]; exact Nat.not_le.mpr hbl
  refine lpB (pc := 43) (ι := Nat × CT × MT × (Nat → Int64)) (fun z H locs k9 n9 ls => lv_has ls 8 [(4, .int (nI (2 + 3 * z.1))), (3, .ref o), (2, .ref (M 0)), (1, .ref (G 0)), (0, .ref b)] ∧ LSt s D cI cZ cS cJ G SA sf M o A z.1 z.2.1 z.2.2.1 z.2.2.2 H locs ∧ k9 = 100 + 80 * z.1 ∧ n9 = 20000 + 8400 * z.1 ∧ z.1 ≤ 512) (fun z => 2000 - z.1) (0, u, v, fo) ⟨hl, hI, rfl, rfl, Nat.zero_le _⟩ (fun z H locs k9 n9 ls hz ih => ?_)
  obtain ⟨k, u, v, fo⟩ := z
  obtain ⟨hl, hI, hk9, hn9, hkb⟩ := hz
  dsimp only at hl hI hk9 hn9 hkb ih
  subst hk9
  subst hn9
  have hS := hI.2.2.1
  refine lv_iload hx hb dL_law_43 (lv_at hl 0 rfl) ?_
  refine lv_aload_n hx hb dL_law_45 rfl (lv_at hl 4 rfl) ?_
  refine va_slen hx hb hX hbl hbA hS dL_law_46 ?_
  refine lv_iconst (v := 3) hx hb dL_law_47 (by decide) ?_
  refine lv_isub hx hb dL_law_48 ?_
  refine lv_icmp_gt (tgt := 1231) hx hb dL_law_49 (by decide) (fun c49 => ?_) (fun c49 => ?_)
  · refine lv_iconst (v := 1) hx hb dL_law_1231 (by decide) ?_
    refine va_forget (fun q hq => by have h := hS.2.2 q hq; rw [hAe] at h; exact h) ?_
    refine W.widen (k := 601024) (n := 7293000) (by omega) (by omega) ?_
    exact lw_ret hx hb hr hlocks dL_law_1232
  · have hi : 2 + 3 * k + 2 < L := lsub hLb (by omega) c49
    have hk : k ≤ 511 := by omega
    refine lv_aload_n hx hb dL_law_52 rfl (lv_at hl 4 rfl) ?_
    refine lv_iload hx hb dL_law_53 (lv_at hl 0 rfl) ?_
    refine ya_sld hx hb hX hbl hbA hS (2 + 3 * k) rfl (by omega) (by omega) dL_law_55 ?_
    refine lv_bipush (v := 31) hx hb dL_law_56 (by decide) ?_
    refine lv_iand hx hb dL_law_58 ?_
    refine law_sw hl0 C9 hI hk hi (by omega) (by omega) hl (fun u1 v1 f1 H1 locs1 ls1 h1 h2 => ?_) _
    refine lv_iinc (v := nI (2 + 3 * (k + 1))) (lv' := [(4, .int (nI (2 + 3 * (k + 1)))), (3, .ref o), (2, .ref (M 0)), (1, .ref (G 0)), (0, .ref b)]) hx hb dL_law_1225 h2 (k := 0) rfl (by exact nI_add (2 + 3 * k) 3) (by decide) rfl (fun ls hl => ?_)
    refine lv_goto (tgt := 43) hx hb dL_law_1228 (by decide) ?_
    exact ih (k + 1, u1, v1, f1) _ _ _ _ ls ⟨hl, h1, by (dsimp only); omega, by (dsimp only); omega, by (dsimp only); omega⟩ (by (show 2000 - (k + 1) < 2000 - k); omega)
