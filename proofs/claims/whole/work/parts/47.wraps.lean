-- the law's own small methods: the parts of a world, the start, the caught calls
abbrev RLw : String := RL
theorem updL0 (f : Nat → Int64) (v : Int64) : vp_updL f 0 v 0 = v := if_pos rfl
theorem pp_l {D : va_G} {cl : List vw_C} {wa wb : va_W} {H : Heap} (h : va_P D cl (wa ++ wb) H) : va_P D cl wa H := fun k q hk => h k q (by rw [List.getElem?_append_left (List.getElem?_eq_some_iff.mp hk).1]; exact hk)
theorem pp_r {D : va_G} {cl : List vw_C} {wa wb : va_W} {H : Heap} (h : va_P D cl (wa ++ wb) H) : va_P D cl wb H := fun k q hk => h (wa.length + k) q (by rw [List.getElem?_append_right (Nat.le_add_right _ _), Nat.add_sub_cancel_left]; exact hk)
theorem pd_l {A : Nat → Prop} {wa wb : va_W} (h : va_D A (wa ++ wb)) : va_D A wa := by
  have key : ∀ (k : Nat) (q : Nat × va_E), wa[k]? = some q → (wa ++ wb)[k]? = some q := fun k q hk => by rw [List.getElem?_append_left (List.getElem?_eq_some_iff.mp hk).1]; exact hk
  exact ⟨fun i j p q hi hj e => h.1 i j p q (key i p hi) (key j q hj) e, fun k q hk => h.2 k q (key k q hk)⟩
theorem pd_r {A : Nat → Prop} {wa wb : va_W} (h : va_D A (wa ++ wb)) : va_D A wb := by
  have key : ∀ (k : Nat) (q : Nat × va_E), wb[k]? = some q → (wa ++ wb)[wa.length + k]? = some q := fun k q hk => by rw [List.getElem?_append_right (Nat.le_add_right _ _), Nat.add_sub_cancel_left]; exact hk
  exact ⟨fun i j p q hi hj e => by have := h.1 _ _ p q (key i p hi) (key j q hj) e; omega, fun k q hk => h.2 _ q (key k q hk)⟩
theorem ap_at {wa wb : va_W} {k : Nat} {q : Nat × va_E} (h : (wa ++ wb)[k]? = some q) : (k < wa.length ∧ wa[k]? = some q) ∨ ∃ j, k = wa.length + j ∧ wb[j]? = some q := by
  rcases Nat.lt_or_ge k wa.length with c | c
  · rw [List.getElem?_append_left c] at h; exact Or.inl ⟨c, h⟩
  · rw [List.getElem?_append_right c] at h; exact Or.inr ⟨k - wa.length, by omega, h⟩
/-- the left part was changed by a callee -/
theorem pj_l {A0 : Nat → Prop} {D : va_G} {cl : List vw_C} {wa wb w1 : va_W} {H H1 : Heap} (hP : va_P D cl (wa ++ wb) H) (hD : va_D A0 (wa ++ wb)) (hk : ∀ q : Nat, q < H.size → ¬ va_A wa H.size q → H1[q]? = H[q]?) (hF : ∀ q, va_A wa H.size q → A0 q) (hP1 : va_P D cl w1 H1) (hD1 : va_D (va_A wa H.size) w1) : va_P D cl (w1 ++ wb) H1 ∧ va_D A0 (w1 ++ wb) := by
  have apart : ∀ (j : Nat) (q : Nat × va_E), wb[j]? = some q → q.1 < H.size ∧ ¬ va_A wa H.size q.1 := by
    intro j q hq
    have hlt := (pp_r hP j q hq).lt
    refine ⟨hlt, fun h => ?_⟩
    rcases h with ⟨k2, e, h⟩ | h
    · have h2 := (List.getElem?_eq_some_iff.mp h).1
      have := hD.1 k2 (wa.length + j) (q.1, e) q (by rw [List.getElem?_append_left h2]; exact h) (by rw [List.getElem?_append_right (Nat.le_add_right _ _), Nat.add_sub_cancel_left]; exact hq) rfl
      omega
    · omega
  refine ⟨fun k q hq => ?_, fun a b y z hy hz hyz => ?_, fun k q hq => ?_⟩
  · rcases ap_at hq with ⟨-, h⟩ | ⟨j, -, h⟩
    · exact hP1 k q h
    · obtain ⟨g1, g2⟩ := apart j q h
      exact (pp_r hP j q h).kept (hk q.1 g1 g2)
  · rcases ap_at hy with ⟨-, h1⟩ | ⟨j, e1, h1⟩ <;> rcases ap_at hz with ⟨-, h2⟩ | ⟨j', e2, h2⟩
    · exact hD1.1 a b y z h1 h2 hyz
    · exact absurd (by rw [← hyz]; exact hD1.2 a y h1) (apart j' z h2).2
    · exact absurd (by rw [hyz]; exact hD1.2 b z h2) (apart j y h1).2
    · have := (pd_r hD).1 j j' y z h1 h2 hyz
      omega
  · rcases ap_at hq with ⟨-, h⟩ | ⟨j, -, h⟩
    · exact hF _ (hD1.2 k q h)
    · exact (pd_r hD).2 j q h
theorem pr_l {A0 : Nat → Prop} {D : va_G} {cl : List vw_C} {wa wb : va_W} {H H1 : Heap} (hP : va_P D cl (wa ++ wb) H) (hD : va_D A0 (wa ++ wb)) (hk : ∀ q : Nat, q < H.size → ¬ va_A wa H.size q → H1[q]? = H[q]?) (hP1 : va_P D cl wa H1) : va_P D cl (wa ++ wb) H1 := by
  have hDa : va_D (va_A wa H.size) wa := ⟨(pd_l hD).1, fun k q hk => Or.inl ⟨k, q.2, hk⟩⟩
  exact (pj_l (A0 := fun q => A0 q ∨ va_A wa H.size q) hP ⟨hD.1, fun k q h => Or.inl (hD.2 k q h)⟩ hk (fun q h => Or.inr h) hP1 hDa).1
/-- the right part was changed by a callee -/
theorem pj_r {A0 : Nat → Prop} {D : va_G} {cl : List vw_C} {wa wb w1 : va_W} {H H1 : Heap} (hP : va_P D cl (wa ++ wb) H) (hD : va_D A0 (wa ++ wb)) (hk : ∀ q : Nat, q < H.size → ¬ va_A wb H.size q → H1[q]? = H[q]?) (hF : ∀ q, va_A wb H.size q → A0 q) (hP1 : va_P D cl w1 H1) (hD1 : va_D (va_A wb H.size) w1) : va_P D cl (wa ++ w1) H1 ∧ va_D A0 (wa ++ w1) := by
  have apart : ∀ (j : Nat) (q : Nat × va_E), wa[j]? = some q → q.1 < H.size ∧ ¬ va_A wb H.size q.1 := by
    intro j q hq
    have hlt := (pp_l hP j q hq).lt
    refine ⟨hlt, fun h => ?_⟩
    have hj := (List.getElem?_eq_some_iff.mp hq).1
    rcases h with ⟨k2, e, h⟩ | h
    · have := hD.1 j (wa.length + k2) q (q.1, e) (by rw [List.getElem?_append_left hj]; exact hq) (by rw [List.getElem?_append_right (Nat.le_add_right _ _), Nat.add_sub_cancel_left]; exact h) rfl
      omega
    · omega
  refine ⟨fun k q hq => ?_, fun a b y z hy hz hyz => ?_, fun k q hq => ?_⟩
  · rcases ap_at hq with ⟨-, h⟩ | ⟨j, -, h⟩
    · obtain ⟨g1, g2⟩ := apart k q h
      exact (pp_l hP k q h).kept (hk q.1 g1 g2)
    · exact hP1 j q h
  · rcases ap_at hy with ⟨-, h1⟩ | ⟨j, e1, h1⟩ <;> rcases ap_at hz with ⟨-, h2⟩ | ⟨j', e2, h2⟩
    · exact (pd_l hD).1 a b y z h1 h2 hyz
    · exact absurd (by rw [hyz]; exact hD1.2 j' z h2) (apart a y h1).2
    · exact absurd (by rw [← hyz]; exact hD1.2 j y h1) (apart b z h2).2
    · have := hD1.1 j j' y z h1 h2 hyz
      omega
  · rcases ap_at hq with ⟨-, h⟩ | ⟨j, -, h⟩
    · exact (pd_l hD).2 k q h
    · exact hF _ (hD1.2 j q h)
theorem pr_r {A0 : Nat → Prop} {D : va_G} {cl : List vw_C} {wa wb : va_W} {H H1 : Heap} (hP : va_P D cl (wa ++ wb) H) (hD : va_D A0 (wa ++ wb)) (hk : ∀ q : Nat, q < H.size → ¬ va_A wb H.size q → H1[q]? = H[q]?) (hP1 : va_P D cl wb H1) : va_P D cl (wa ++ wb) H1 := by
  have hDa : va_D (va_A wb H.size) wb := ⟨(pd_r hD).1, fun k q hk => Or.inl ⟨k, q.2, hk⟩⟩
  exact (pj_r (A0 := fun q => A0 q ∨ va_A wb H.size q) hP ⟨hD.1, fun k q h => Or.inl (hD.2 k q h)⟩ hk (fun q h => Or.inr h) hP1 hDa).1
def NCs (U : State) : Prop := va_Nc cNSE cISE U ∧ va_Nc cIAE cIOB U ∧ va_Nc cISE cIOB U ∧ va_Nc cISE cIAE U
theorem NCs.moved {u U : State} (h : u.vm.Alike U.vm) (q : NCs u) : NCs U := ⟨va_Nc.moved h q.1, va_Nc.moved h q.2.1, va_Nc.moved h q.2.2.1, va_Nc.moved h q.2.2.2⟩
def PZ (D : va_G) (tys : List (ClassId × FieldType)) (wc : va_W) (sz : Nat) (U : State) : Prop := PX D tys wc sz U ∧ NCs U
theorem PZ.blind {D : va_G} {tys : List (ClassId × FieldType)} {av : List Value} {wc : va_W} {sz : Nat} : FrameBlind (va_Pc av (PZ D tys wc sz)) := fun a U g mk q =>
  have h := PX.blind a U g mk ⟨q.1, q.2.1⟩
  ⟨h.1, h.2, NCs.moved (u := U) (U := U.calling g mk a) (Vm.Alike.refl U.vm) q.2.2⟩
theorem PZ.mk {D : va_G} {tys : List (ClassId × FieldType)} {av : List Value} {wc : va_W} {H : Heap} {locs : List Loc} {s U : State} {A : Nat → Prop} (hU : U.heap = H) (hW : s.WarmedH U.vm) (hP : va_P D vwCl wc H) (hK : va_K D vwCl tys s) (hD : va_D A wc) (hS : va_S A s.heap H locs) (hF : ∀ q, va_A wc H.size q → A q) (hT : TX A s) (hN : NCs s) : va_Pc av (PZ D tys wc H.size) av.toArray U :=
  have h := PX.mk (av := av) hU hW hP hK hD hS hF hT
  ⟨h.1, h.2, NCs.moved hW.alike hN⟩
theorem xwSW {R : Room} {s : State} {args : Array Value} {own : String} {index maxL mc ms : Nat} {y : MethodName} {bytes : ByteArray} {ret : Option FieldType} {hh : List (Nat × Nat × Nat × Nat)} {rm : Room} (n : Nat) (ht : ∀ w ∈ TB, w.before args s = true)
    (hc : Cond.codeWith y bytes maxL ret hh ∈ TB) (hl : Cond.methodLink own index y ∈ TB) (hi : Cond.initialized y.cls ∈ TB) (hst : Cond.static y ∈ TB) (hrc : rm.cells = mc) (hrs : rm.slots = ms)
    (hd : y.cls ≠ "java/lang/invoke/MethodHandle" ∧ y.cls ≠ "java/lang/invoke/VarHandle" ∧ (parseMethodDescriptor y.desc).map (fun d => d.parameters.length) = some n) (hR : rm.frames + 1 ≤ R.frames ∧ 8 + (maxL + 11) + rm.locals ≤ R.locals) :
    vx_CSW R s args own index y bytes maxL ret hh (Cond.codeWith y bytes maxL ret hh :: TB) rm mc ms n := by
  refine ⟨⟨hrc, hrs, hR.1, hR.2, tb_pay ht hc, List.mem_cons_self⟩, ht _ hc, ht _ hi, ⟨hd.1, hd.2.1⟩, fun sig h => ?_, ht _ hl, ht _ hst⟩
  have h2 := hd.2.2
  rw [h] at h2
  exact (Option.some.inj h2).symm
theorem hld_r {st : Nat → List (Int32 × Int32)} {nd key r : Int32} (h : hldF st nd key = (0, r)) : r = 0 ∨ r = 1 := by
  unfold hldF at h
  split at h
  · cases h
  · cases h; split
    · exact Or.inr rfl
    · exact Or.inl rfl

set_option maxHeartbeats 4000000 in
set_option maxRecDepth 100000 in
theorem c_L_put (l : Launch) (hl0 : l.stackTraces = false) (D : va_G) (cI cZ cS cJ : ClassId) (sz : Nat) (G SA : Nat → Nat) (sf : Nat → Option Nat) (hsf : ∀ n, n < 8 → sf n = some (SA n)) (pa no : Nat) (pts rf rg : Nat → Int32) (RL : List (Int32 × Int32)) (pk ps pt L : Nat) (p1 p2 p3 : Nat → Int32) (op off left wr rc th : Int32) (Z : Nat → ST) (mm : Nat → Nat) (rows : List (Int32 × Nat × Nat)) (F Gn : Nat) (C : Bool) (hci : CI mm RL pts rf rg rows L p1 p2 p3 F Gn Z) (o : Nat) (fo : Nat → Int64) (hth : th = nI (thF (stZ Z) (homeF mm rows F))) (h256 : thF (stZ Z) (homeF mm rows F) ≤ 256) (hlen : ∀ n, n < 8 → (zL (Z n)).length < 999) (key v : Int32) : vx_Met l yL_put (Cond.codeWith yL_put cL_put 5 (some .int) [(0, 10, 13, 13)] :: TB) ({ frames := 8, cells := 80, slots := 8400, locals := 135 } : Room) (va_Pc [.ref (G 0), .int key, .int v, .ref o] (PZ D (KT cI cZ cS cJ) (cW cI cS G SA sf pa no pts rf rg (nI RL.length) pk ps pt L p1 p2 p3 (nI rows.length) op (nI F) (nI Gn) (cB C) off left wr rc th Z ++ [(o, .inl (cJ, 1, .inr (.inl fo)))]) sz)) (va_Qi (fun k (u : CT × (Nat → Int64)) => (k = 0 ∧ ∃ r, putF off left wr rc (stZ Z) mm op rows F Gn C key v = (0, r, sgu u.1) ∧ u.2 0 = (r : Int32).toInt64 ∧ CIu u.1 ∧ thu u.1 = (if left = 0 ∨ hs (stZ Z (homeF mm rows F key)) key = true then th else th + 1)) ∨ (¬ k = 0 ∧ (putF off left wr rc (stZ Z) mm op rows F Gn C key v).1 = k ∧ u.1 = (pa, no, pts, rf, rg, RL, pk, ps, pt, L, p1, p2, p3, op, off, left, wr, rc, th, Z, mm, rows, F, Gn, C) ∧ u.2 = fo)) (fun (u : CT × (Nat → Int64)) t => va_P D vwCl (cWu cI cS G SA sf u.1 ++ [(o, .inl (cJ, 1, .inr (.inl u.2)))]) t.heap ∧ va_D (va_A (cW cI cS G SA sf pa no pts rf rg (nI RL.length) pk ps pt L p1 p2 p3 (nI rows.length) op (nI F) (nI Gn) (cB C) off left wr rc th Z ++ [(o, .inl (cJ, 1, .inr (.inl fo)))]) sz) (cWu cI cS G SA sf u.1 ++ [(o, .inl (cJ, 1, .inr (.inl u.2)))])) (va_A (cW cI cS G SA sf pa no pts rf rg (nI RL.length) pk ps pt L p1 p2 p3 (nI rows.length) op (nI F) (nI Gn) (cB C) off left wr rc th Z ++ [(o, .inl (cJ, 1, .inr (.inl fo)))]) sz)) (vx_X (fun (_ : Unit) => False) (fun _ _ _ => False) (va_A (cW cI cS G SA sf pa no pts rf rg (nI RL.length) pk ps pt L p1 p2 p3 (nI rows.length) op (nI F) (nI Gn) (cB C) off left wr rc th Z ++ [(o, .inl (cJ, 1, .inr (.inl fo)))]) sz)) 80 8400 (va_A (cW cI cS G SA sf pa no pts rf rg (nI RL.length) pk ps pt L p1 p2 p3 (nI rows.length) op (nI F) (nI Gn) (cB C) off left wr rc th Z ++ [(o, .inl (cJ, 1, .inr (.inl fo)))]) sz) := by
  refine vx_ofWH (cc := cL_put) (maxL := 5) (ret := (some .int)) (hh := [(0, 10, 13, 13)]) (by decide) rfl ?_
  intro p e s m args below meth c s₁ B hml hv
  obtain ⟨rfl, ⟨⟨hsz, hP, hK, hD0⟩, hTX⟩, hNC⟩ := hv
  have hx := B.exec
  have hb := B.bytes
  have hr := B.returns
  have hts := atoms_spec (ws := (Cond.codeWith yL_put cL_put 5 (some .int) [(0, 10, 13, 13)] :: TB)) B.pre
  have ht : ∀ w ∈ TB, w.before _ s = true := fun w h => hts w (List.mem_cons_of_mem _ h)
  have htab := vx_table (x := yL_put) B (hts _ List.mem_cons_self)
  have hown : s.vm.findClass RLw = some m.cls := findClass_of_methodNamed B.named
  have hlocks := B.notSynchronized
  subst hsz
  have hD := hD0.self (sz := s.heap.size)
  generalize hAe : va_A (cW cI cS G SA sf pa no pts rf rg (nI RL.length) pk ps pt L p1 p2 p3 (nI rows.length) op (nI F) (nI Gn) (cB C) off left wr rc th Z ++ [(o, .inl (cJ, 1, .inr (.inl fo)))]) s.heap.size = A at hD hTX ⊢
  have hA : ∀ q : Nat, s.heap.size ≤ q → A q := fun q h => by rw [← hAe]; exact Or.inr h
  have hS : va_S A s.heap s.heap [] := va_S.rf
  have hP : va_P D vwCl (cW cI cS G SA sf pa no pts rf rg (nI RL.length) pk ps pt L p1 p2 p3 (nI rows.length) op (nI F) (nI Gn) (cB C) off left wr rc th Z ++ [(o, .inl (cJ, 1, .inr (.inl fo)))]) s.heap := hP
  have hl := lv_entry ([.ref (G 0), .int key, .int v, .ref o]) (n := 5) (Nat.le_of_ble_eq_true rfl)
  rw [lg_entry_eq]
  generalize (lg_sl ([.ref (G 0), .int key, .int v, .ref o]) ++ List.replicate (5 - (lg_sl ([.ref (G 0), .int key, .int v, .ref o])).length) Slot.unset).toArray = ls at hl ⊢
  have hl : lv_has ls 5 [(0, .ref (G 0)), (1, .int key), (2, .int v), (3, .ref o)] := hl
  refine lv_aload_n hx hb dL_put_0 rfl (lv_at hl 3 rfl) ?_
  refine lv_iconst (v := 0) hx hb dL_put_1 (by decide) ?_
  refine lv_aload_n hx hb dL_put_2 rfl (lv_at hl 0 rfl) ?_
  refine lv_iload_n hx hb dL_put_3 rfl (lv_at hl 1 rfl) ?_
  refine lv_iload_n hx hb dL_put_4 rfl (lv_at hl 2 rfl) ?_
  have hPc := pp_l hP
  have hDc := pd_l hD
  have hFc := wfree hDc hS hA
  refine vx_calli (vx_runV (As := [.int key, .int v]) (rest := [.int 0, .ref o]) ⟨hx, hb, hml, hown, ht⟩ (c_X4_put l hl0 D cI cZ cS cJ s.heap.size G SA sf hsf pa no pts rf rg RL pk ps pt L p1 p2 p3 op off left wr rc th Z mm rows F Gn C hci hth h256 hlen key v) (xwV 2 ht kw1_214 kw1_211 kw1_1 kw1_212 kw1_213 rfl rfl (by decide +kernel) ⟨Nat.le_of_ble_eq_true rfl, Nat.le_of_ble_eq_true rfl⟩) ⟨PX.blind, va_recv hK hPc (ci := 4) (q0 := 0) rfl rfl, fun U hU hW => PX.mk hU hW hPc hK hDc hS hFc hTX⟩ rfl rfl hl.1 rfl (lv_room (Nat.le_of_ble_eq_true rfl)) dL_put_5 ⟨Nat.le_of_ble_eq_true rfl, Nat.le_of_ble_eq_true rfl⟩) hS (fun q _ h => hFc q h) hFc (fun q _ h => hFc q h) (fun E ce q9 u9 t9 H1 locs ht1 hvm _ hBX hz1 hk1 hS hce hcv hcl => ?_) (fun r5 u5 t5 H1 locs ht1 hvm w5 hB hz1 hk1 hS => ?_)
  · obtain ⟨hXE, hBX⟩ := hBX
    rw [ht1] at hBX
    have hP := pr_l hP hD hk1 hBX
    have hP : va_P D vwCl (cW cI cS G SA sf pa no pts rf rg (nI RL.length) pk ps pt L p1 p2 p3 (nI rows.length) op (nI F) (nI Gn) (cB C) off left wr rc th Z ++ [(o, .inl (cJ, 1, .inr (.inl fo)))]) H1 := hP
    obtain ⟨hE, hxc⟩ := hXE
    subst hE
    refine vx_catch (own := RLw) (name := cISE) hown (tableOf []) ⟨0, 10, 13, 13⟩ (tableOf []) (htab.trans rfl) (fun z hz => absurd hz List.not_mem_nil) (by decide) (by decide) (ht _ kw1_210) (ht _ kw1_221) hce hcv hcl ?_
    show W _ _ _ _ _ _ _ _ _ _ _ _ _ _ _ (F0 m 13 ls [.ref q9])
    refine lv_astore (lv' := [(4, .ref q9), (0, .ref (G 0)), (1, .int key), (2, .int v), (3, .ref o)]) hx hb dL_put_13 hl (by decide) rfl (fun ls hl => ?_)
    refine lv_iconst (v := 1) hx hb dL_put_15 (by decide) ?_
    refine vx_ret ?_
    refine W.widen (k := 80) (n := 8400) (Nat.le_of_ble_eq_true rfl) (Nat.le_of_ble_eq_true rfl) ?_
    exact W.iret (v := 1) hx hb hr (fun t ht2 hW => ⟨⟨1, ((pa, no, pts, rf, rg, RL, pk, ps, pt, L, p1, p2, p3, op, off, left, wr, rc, th, Z, mm, rows, F, Gn, C), fo), rfl, Or.inr ⟨by decide, hxc, rfl, rfl⟩, ⟨by (try dsimp only); rw [ht2]; exact hP, by exact hD⟩⟩, hS.F ht2⟩) hS.2.2 dL_put_16
  try dsimp only at w5 hB
  obtain ⟨hP1, hD1⟩ := hB
  rw [ht1] at hP1
  obtain ⟨hP, hD⟩ := pj_l hP hD hk1 hFc hP1 hD1
  obtain ⟨pa9, no9, pts9, rf9, rg9, RL9, pk9, ps9, pt9, L9, p19, p29, p39, op9, off9, left9, wr9, rc9, th9, Z9, mm9, rows9, F9, Gn9, C9⟩ := u5
  generalize H1 = H at hP hS ⊢
  have hP : va_P D vwCl (cW cI cS G SA sf pa9 no9 pts9 rf9 rg9 (nI RL9.length) pk9 ps9 pt9 L9 p19 p29 p39 (nI rows9.length) op9 (nI F9) (nI Gn9) (cB C9) off9 left9 wr9 rc9 th9 Z9 ++ [(o, .inl (cJ, 1, .inr (.inl fo)))]) H := hP
  have hD : va_D A (cW cI cS G SA sf pa9 no9 pts9 rf9 rg9 (nI RL9.length) pk9 ps9 pt9 L9 p19 p29 p39 (nI rows9.length) op9 (nI F9) (nI Gn9) (cB C9) off9 left9 wr9 rc9 th9 Z9 ++ [(o, .inl (cJ, 1, .inr (.inl fo)))]) := hD
  refine lv_i2l (v := (r5 : Int32).toInt64) hx hb dL_put_8 rfl ?_
  refine ya_last hx hb hK hP hD hS 35 3 rfl rfl 0 (rfl) (by decide) (by decide) dL_put_9 (fun H locs hP hD hS => ?_)
  have hP : va_P D vwCl (cW cI cS G SA sf pa9 no9 pts9 rf9 rg9 (nI RL9.length) pk9 ps9 pt9 L9 p19 p29 p39 (nI rows9.length) op9 (nI F9) (nI Gn9) (cB C9) off9 left9 wr9 rc9 th9 Z9 ++ [(o, .inl (cJ, 1, .inr (.inl (vp_updL fo 0 ((r5 : Int32).toInt64)))))]) H := hP
  have hD : va_D A (cW cI cS G SA sf pa9 no9 pts9 rf9 rg9 (nI RL9.length) pk9 ps9 pt9 L9 p19 p29 p39 (nI rows9.length) op9 (nI F9) (nI Gn9) (cB C9) off9 left9 wr9 rc9 th9 Z9 ++ [(o, .inl (cJ, 1, .inr (.inl (vp_updL fo 0 ((r5 : Int32).toInt64)))))]) := hD
  refine lv_goto (tgt := 17) hx hb dL_put_10 (by decide) ?_
  refine lv_iconst (v := 0) hx hb dL_put_17 (by decide) ?_
  refine vx_ret ?_
  refine W.widen (k := 80) (n := 8400) (Nat.le_of_ble_eq_true rfl) (Nat.le_of_ble_eq_true rfl) ?_
  exact W.iret (v := 0) hx hb hr (fun t ht2 hW => ⟨⟨0, ((pa9, no9, pts9, rf9, rg9, RL9, pk9, ps9, pt9, L9, p19, p29, p39, op9, off9, left9, wr9, rc9, th9, Z9, mm9, rows9, F9, Gn9, C9), vp_updL fo 0 ((r5 : Int32).toInt64)), rfl, Or.inl ⟨rfl, r5, w5.1, updL0 fo _, w5.2.1, w5.2.2⟩, ⟨by (try dsimp only); rw [ht2]; exact hP, by exact hD⟩⟩, hS.F ht2⟩) hS.2.2 dL_put_18

set_option maxHeartbeats 4000000 in
set_option maxRecDepth 100000 in
theorem c_L_remove (l : Launch) (hl0 : l.stackTraces = false) (D : va_G) (cI cZ cS cJ : ClassId) (sz : Nat) (G SA : Nat → Nat) (sf : Nat → Option Nat) (hsf : ∀ n, n < 8 → sf n = some (SA n)) (pa no : Nat) (pts rf rg : Nat → Int32) (RL : List (Int32 × Int32)) (pk ps pt L : Nat) (p1 p2 p3 : Nat → Int32) (op off left wr rc th : Int32) (Z : Nat → ST) (mm : Nat → Nat) (rows : List (Int32 × Nat × Nat)) (F Gn : Nat) (C : Bool) (hci : CI mm RL pts rf rg rows L p1 p2 p3 F Gn Z) (o : Nat) (fo : Nat → Int64) (key : Int32) : vx_Met l yL_remove (Cond.codeWith yL_remove cL_remove 4 (some .int) [(0, 9, 12, 13)] :: TB) ({ frames := 8, cells := 80, slots := 8400, locals := 133 } : Room) (va_Pc [.ref (G 0), .int key, .ref o] (PZ D (KT cI cZ cS cJ) (cW cI cS G SA sf pa no pts rf rg (nI RL.length) pk ps pt L p1 p2 p3 (nI rows.length) op (nI F) (nI Gn) (cB C) off left wr rc th Z ++ [(o, .inl (cJ, 1, .inr (.inl fo)))]) sz)) (va_Qi (fun k (u : CT × (Nat → Int64)) => (k = 0 ∧ ∃ r, remF off left wr rc (stZ Z) mm op rows F Gn C key = (0, r, sgu u.1) ∧ u.2 0 = (r : Int32).toInt64 ∧ CIu u.1 ∧ thu u.1 = (if left = 0 ∨ ¬ hs (stZ Z (homeF mm rows F key)) key = true then th else th - 1)) ∨ (¬ k = 0 ∧ (remF off left wr rc (stZ Z) mm op rows F Gn C key).1 = k ∧ u.1 = (pa, no, pts, rf, rg, RL, pk, ps, pt, L, p1, p2, p3, op, off, left, wr, rc, th, Z, mm, rows, F, Gn, C) ∧ u.2 = fo)) (fun (u : CT × (Nat → Int64)) t => va_P D vwCl (cWu cI cS G SA sf u.1 ++ [(o, .inl (cJ, 1, .inr (.inl u.2)))]) t.heap ∧ va_D (va_A (cW cI cS G SA sf pa no pts rf rg (nI RL.length) pk ps pt L p1 p2 p3 (nI rows.length) op (nI F) (nI Gn) (cB C) off left wr rc th Z ++ [(o, .inl (cJ, 1, .inr (.inl fo)))]) sz) (cWu cI cS G SA sf u.1 ++ [(o, .inl (cJ, 1, .inr (.inl u.2)))])) (va_A (cW cI cS G SA sf pa no pts rf rg (nI RL.length) pk ps pt L p1 p2 p3 (nI rows.length) op (nI F) (nI Gn) (cB C) off left wr rc th Z ++ [(o, .inl (cJ, 1, .inr (.inl fo)))]) sz)) (vx_X (fun (_ : Unit) => False) (fun _ _ _ => False) (va_A (cW cI cS G SA sf pa no pts rf rg (nI RL.length) pk ps pt L p1 p2 p3 (nI rows.length) op (nI F) (nI Gn) (cB C) off left wr rc th Z ++ [(o, .inl (cJ, 1, .inr (.inl fo)))]) sz)) 80 8400 (va_A (cW cI cS G SA sf pa no pts rf rg (nI RL.length) pk ps pt L p1 p2 p3 (nI rows.length) op (nI F) (nI Gn) (cB C) off left wr rc th Z ++ [(o, .inl (cJ, 1, .inr (.inl fo)))]) sz) := by
  refine vx_ofWH (cc := cL_remove) (maxL := 4) (ret := (some .int)) (hh := [(0, 9, 12, 13)]) (by decide) rfl ?_
  intro p e s m args below meth c s₁ B hml hv
  obtain ⟨rfl, ⟨⟨hsz, hP, hK, hD0⟩, hTX⟩, hNC⟩ := hv
  have hx := B.exec
  have hb := B.bytes
  have hr := B.returns
  have hts := atoms_spec (ws := (Cond.codeWith yL_remove cL_remove 4 (some .int) [(0, 9, 12, 13)] :: TB)) B.pre
  have ht : ∀ w ∈ TB, w.before _ s = true := fun w h => hts w (List.mem_cons_of_mem _ h)
  have htab := vx_table (x := yL_remove) B (hts _ List.mem_cons_self)
  have hown : s.vm.findClass RLw = some m.cls := findClass_of_methodNamed B.named
  have hlocks := B.notSynchronized
  subst hsz
  have hD := hD0.self (sz := s.heap.size)
  generalize hAe : va_A (cW cI cS G SA sf pa no pts rf rg (nI RL.length) pk ps pt L p1 p2 p3 (nI rows.length) op (nI F) (nI Gn) (cB C) off left wr rc th Z ++ [(o, .inl (cJ, 1, .inr (.inl fo)))]) s.heap.size = A at hD hTX ⊢
  have hA : ∀ q : Nat, s.heap.size ≤ q → A q := fun q h => by rw [← hAe]; exact Or.inr h
  have hS : va_S A s.heap s.heap [] := va_S.rf
  have hP : va_P D vwCl (cW cI cS G SA sf pa no pts rf rg (nI RL.length) pk ps pt L p1 p2 p3 (nI rows.length) op (nI F) (nI Gn) (cB C) off left wr rc th Z ++ [(o, .inl (cJ, 1, .inr (.inl fo)))]) s.heap := hP
  have hl := lv_entry ([.ref (G 0), .int key, .ref o]) (n := 4) (Nat.le_of_ble_eq_true rfl)
  rw [lg_entry_eq]
  generalize (lg_sl ([.ref (G 0), .int key, .ref o]) ++ List.replicate (4 - (lg_sl ([.ref (G 0), .int key, .ref o])).length) Slot.unset).toArray = ls at hl ⊢
  have hl : lv_has ls 4 [(0, .ref (G 0)), (1, .int key), (2, .ref o)] := hl
  refine lv_aload_n hx hb dL_remove_0 rfl (lv_at hl 2 rfl) ?_
  refine lv_iconst (v := 0) hx hb dL_remove_1 (by decide) ?_
  refine lv_aload_n hx hb dL_remove_2 rfl (lv_at hl 0 rfl) ?_
  refine lv_iload_n hx hb dL_remove_3 rfl (lv_at hl 1 rfl) ?_
  have hPc := pp_l hP
  have hDc := pd_l hD
  have hFc := wfree hDc hS hA
  refine vx_calli (vx_runV (As := [.int key]) (rest := [.int 0, .ref o]) ⟨hx, hb, hml, hown, ht⟩ (c_X4_remove l hl0 D cI cZ cS cJ s.heap.size G SA sf hsf pa no pts rf rg RL pk ps pt L p1 p2 p3 op off left wr rc th Z mm rows F Gn C hci key) (xwV 1 ht kw2_90 kw2_87 kw1_1 kw2_88 kw2_89 rfl rfl (by decide +kernel) ⟨Nat.le_of_ble_eq_true rfl, Nat.le_of_ble_eq_true rfl⟩) ⟨PX.blind, va_recv hK hPc (ci := 4) (q0 := 0) rfl rfl, fun U hU hW => PX.mk hU hW hPc hK hDc hS hFc hTX⟩ rfl rfl hl.1 rfl (lv_room (Nat.le_of_ble_eq_true rfl)) dL_remove_4 ⟨Nat.le_of_ble_eq_true rfl, Nat.le_of_ble_eq_true rfl⟩) hS (fun q _ h => hFc q h) hFc (fun q _ h => hFc q h) (fun E ce q9 u9 t9 H1 locs ht1 hvm _ hBX hz1 hk1 hS hce hcv hcl => ?_) (fun r4 u4 t4 H1 locs ht1 hvm w4 hB hz1 hk1 hS => ?_)
  · obtain ⟨hXE, hBX⟩ := hBX
    rw [ht1] at hBX
    have hP := pr_l hP hD hk1 hBX
    have hP : va_P D vwCl (cW cI cS G SA sf pa no pts rf rg (nI RL.length) pk ps pt L p1 p2 p3 (nI rows.length) op (nI F) (nI Gn) (cB C) off left wr rc th Z ++ [(o, .inl (cJ, 1, .inr (.inl fo)))]) H1 := hP
    obtain ⟨hE, hxc⟩ := hXE
    subst hE
    refine vx_catch (own := RLw) (name := cISE) hown (tableOf []) ⟨0, 9, 12, 13⟩ (tableOf []) (htab.trans rfl) (fun z hz => absurd hz List.not_mem_nil) (by decide) (by decide) (ht _ kw1_210) (ht _ kw1_221) hce hcv hcl ?_
    show W _ _ _ _ _ _ _ _ _ _ _ _ _ _ _ (F0 m 12 ls [.ref q9])
    refine lv_astore_n (lv' := [(3, .ref q9), (0, .ref (G 0)), (1, .int key), (2, .ref o)]) hx hb dL_remove_12 rfl hl (by decide) rfl (fun ls hl => ?_)
    refine lv_iconst (v := 1) hx hb dL_remove_13 (by decide) ?_
    refine vx_ret ?_
    refine W.widen (k := 80) (n := 8400) (Nat.le_of_ble_eq_true rfl) (Nat.le_of_ble_eq_true rfl) ?_
    exact W.iret (v := 1) hx hb hr (fun t ht2 hW => ⟨⟨1, ((pa, no, pts, rf, rg, RL, pk, ps, pt, L, p1, p2, p3, op, off, left, wr, rc, th, Z, mm, rows, F, Gn, C), fo), rfl, Or.inr ⟨by decide, hxc, rfl, rfl⟩, ⟨by (try dsimp only); rw [ht2]; exact hP, by exact hD⟩⟩, hS.F ht2⟩) hS.2.2 dL_remove_14
  try dsimp only at w4 hB
  obtain ⟨hP1, hD1⟩ := hB
  rw [ht1] at hP1
  obtain ⟨hP, hD⟩ := pj_l hP hD hk1 hFc hP1 hD1
  obtain ⟨pa9, no9, pts9, rf9, rg9, RL9, pk9, ps9, pt9, L9, p19, p29, p39, op9, off9, left9, wr9, rc9, th9, Z9, mm9, rows9, F9, Gn9, C9⟩ := u4
  generalize H1 = H at hP hS ⊢
  have hP : va_P D vwCl (cW cI cS G SA sf pa9 no9 pts9 rf9 rg9 (nI RL9.length) pk9 ps9 pt9 L9 p19 p29 p39 (nI rows9.length) op9 (nI F9) (nI Gn9) (cB C9) off9 left9 wr9 rc9 th9 Z9 ++ [(o, .inl (cJ, 1, .inr (.inl fo)))]) H := hP
  have hD : va_D A (cW cI cS G SA sf pa9 no9 pts9 rf9 rg9 (nI RL9.length) pk9 ps9 pt9 L9 p19 p29 p39 (nI rows9.length) op9 (nI F9) (nI Gn9) (cB C9) off9 left9 wr9 rc9 th9 Z9 ++ [(o, .inl (cJ, 1, .inr (.inl fo)))]) := hD
  refine lv_i2l (v := (r4 : Int32).toInt64) hx hb dL_remove_7 rfl ?_
  refine ya_last hx hb hK hP hD hS 35 3 rfl rfl 0 (rfl) (by decide) (by decide) dL_remove_8 (fun H locs hP hD hS => ?_)
  have hP : va_P D vwCl (cW cI cS G SA sf pa9 no9 pts9 rf9 rg9 (nI RL9.length) pk9 ps9 pt9 L9 p19 p29 p39 (nI rows9.length) op9 (nI F9) (nI Gn9) (cB C9) off9 left9 wr9 rc9 th9 Z9 ++ [(o, .inl (cJ, 1, .inr (.inl (vp_updL fo 0 ((r4 : Int32).toInt64)))))]) H := hP
  have hD : va_D A (cW cI cS G SA sf pa9 no9 pts9 rf9 rg9 (nI RL9.length) pk9 ps9 pt9 L9 p19 p29 p39 (nI rows9.length) op9 (nI F9) (nI Gn9) (cB C9) off9 left9 wr9 rc9 th9 Z9 ++ [(o, .inl (cJ, 1, .inr (.inl (vp_updL fo 0 ((r4 : Int32).toInt64)))))]) := hD
  refine lv_goto (tgt := 15) hx hb dL_remove_9 (by decide) ?_
  refine lv_iconst (v := 0) hx hb dL_remove_15 (by decide) ?_
  refine vx_ret ?_
  refine W.widen (k := 80) (n := 8400) (Nat.le_of_ble_eq_true rfl) (Nat.le_of_ble_eq_true rfl) ?_
  exact W.iret (v := 0) hx hb hr (fun t ht2 hW => ⟨⟨0, ((pa9, no9, pts9, rf9, rg9, RL9, pk9, ps9, pt9, L9, p19, p29, p39, op9, off9, left9, wr9, rc9, th9, Z9, mm9, rows9, F9, Gn9, C9), vp_updL fo 0 ((r4 : Int32).toInt64)), rfl, Or.inl ⟨rfl, r4, w4.1, updL0 fo _, w4.2.1, w4.2.2⟩, ⟨by (try dsimp only); rw [ht2]; exact hP, by exact hD⟩⟩, hS.F ht2⟩) hS.2.2 dL_remove_16

set_option maxHeartbeats 4000000 in
set_option maxRecDepth 100000 in
theorem c_L_get (l : Launch) (hl0 : l.stackTraces = false) (D : va_G) (cI cZ cS cJ : ClassId) (sz : Nat) (G SA : Nat → Nat) (sf : Nat → Option Nat) (hsf : ∀ n, n < 8 → sf n = some (SA n)) (pa no : Nat) (pts rf rg : Nat → Int32) (RL : List (Int32 × Int32)) (pk ps pt L : Nat) (p1 p2 p3 : Nat → Int32) (op off left wr rc th : Int32) (Z : Nat → ST) (mm : Nat → Nat) (rows : List (Int32 × Nat × Nat)) (F Gn : Nat) (C : Bool) (hci : CI mm RL pts rf rg rows L p1 p2 p3 F Gn Z) (o : Nat) (fo : Nat → Int64) (key : Int32) : vx_Met l yL_get (Cond.codeWith yL_get cL_get 4 (some .int) [(0, 9, 12, 13), (0, 9, 15, 22)] :: TB) ({ frames := 8, cells := 80, slots := 8400, locals := 132 } : Room) (va_Pc [.ref (G 0), .int key, .ref o] (PZ D (KT cI cZ cS cJ) (cW cI cS G SA sf pa no pts rf rg (nI RL.length) pk ps pt L p1 p2 p3 (nI rows.length) op (nI F) (nI Gn) (cB C) off left wr rc th Z ++ [(o, .inl (cJ, 1, .inr (.inl fo)))]) sz)) (va_Qi (fun k (u : Nat → Int64) => (k = 0 ∧ ∃ r, getF off (stZ Z) mm rows F key = (0, r) ∧ u 0 = (r : Int32).toInt64) ∨ (¬ k = 0 ∧ (getF off (stZ Z) mm rows F key).1 = k ∧ u = fo)) (fun (u : Nat → Int64) t => va_P D vwCl (cW cI cS G SA sf pa no pts rf rg (nI RL.length) pk ps pt L p1 p2 p3 (nI rows.length) op (nI F) (nI Gn) (cB C) off left wr rc th Z ++ [(o, .inl (cJ, 1, .inr (.inl u)))]) t.heap ∧ va_D (va_A (cW cI cS G SA sf pa no pts rf rg (nI RL.length) pk ps pt L p1 p2 p3 (nI rows.length) op (nI F) (nI Gn) (cB C) off left wr rc th Z ++ [(o, .inl (cJ, 1, .inr (.inl fo)))]) sz) (cW cI cS G SA sf pa no pts rf rg (nI RL.length) pk ps pt L p1 p2 p3 (nI rows.length) op (nI F) (nI Gn) (cB C) off left wr rc th Z ++ [(o, .inl (cJ, 1, .inr (.inl u)))])) (va_A (cW cI cS G SA sf pa no pts rf rg (nI RL.length) pk ps pt L p1 p2 p3 (nI rows.length) op (nI F) (nI Gn) (cB C) off left wr rc th Z ++ [(o, .inl (cJ, 1, .inr (.inl fo)))]) sz)) (vx_X (fun (_ : Unit) => False) (fun _ _ _ => False) (va_A (cW cI cS G SA sf pa no pts rf rg (nI RL.length) pk ps pt L p1 p2 p3 (nI rows.length) op (nI F) (nI Gn) (cB C) off left wr rc th Z ++ [(o, .inl (cJ, 1, .inr (.inl fo)))]) sz)) 80 8400 (va_A (cW cI cS G SA sf pa no pts rf rg (nI RL.length) pk ps pt L p1 p2 p3 (nI rows.length) op (nI F) (nI Gn) (cB C) off left wr rc th Z ++ [(o, .inl (cJ, 1, .inr (.inl fo)))]) sz) := by
  refine vx_ofWH (cc := cL_get) (maxL := 4) (ret := (some .int)) (hh := [(0, 9, 12, 13), (0, 9, 15, 22)]) (by decide) rfl ?_
  intro p e s m args below meth c s₁ B hml hv
  obtain ⟨rfl, ⟨⟨hsz, hP, hK, hD0⟩, hTX⟩, hNC⟩ := hv
  have hx := B.exec
  have hb := B.bytes
  have hr := B.returns
  have hts := atoms_spec (ws := (Cond.codeWith yL_get cL_get 4 (some .int) [(0, 9, 12, 13), (0, 9, 15, 22)] :: TB)) B.pre
  have ht : ∀ w ∈ TB, w.before _ s = true := fun w h => hts w (List.mem_cons_of_mem _ h)
  have htab := vx_table (x := yL_get) B (hts _ List.mem_cons_self)
  have hown : s.vm.findClass RLw = some m.cls := findClass_of_methodNamed B.named
  have hlocks := B.notSynchronized
  subst hsz
  have hD := hD0.self (sz := s.heap.size)
  generalize hAe : va_A (cW cI cS G SA sf pa no pts rf rg (nI RL.length) pk ps pt L p1 p2 p3 (nI rows.length) op (nI F) (nI Gn) (cB C) off left wr rc th Z ++ [(o, .inl (cJ, 1, .inr (.inl fo)))]) s.heap.size = A at hD hTX ⊢
  have hA : ∀ q : Nat, s.heap.size ≤ q → A q := fun q h => by rw [← hAe]; exact Or.inr h
  have hS : va_S A s.heap s.heap [] := va_S.rf
  have hP : va_P D vwCl (cW cI cS G SA sf pa no pts rf rg (nI RL.length) pk ps pt L p1 p2 p3 (nI rows.length) op (nI F) (nI Gn) (cB C) off left wr rc th Z ++ [(o, .inl (cJ, 1, .inr (.inl fo)))]) s.heap := hP
  have hl := lv_entry ([.ref (G 0), .int key, .ref o]) (n := 4) (Nat.le_of_ble_eq_true rfl)
  rw [lg_entry_eq]
  generalize (lg_sl ([.ref (G 0), .int key, .ref o]) ++ List.replicate (4 - (lg_sl ([.ref (G 0), .int key, .ref o])).length) Slot.unset).toArray = ls at hl ⊢
  have hl : lv_has ls 4 [(0, .ref (G 0)), (1, .int key), (2, .ref o)] := hl
  refine lv_aload_n hx hb dL_get_0 rfl (lv_at hl 2 rfl) ?_
  refine lv_iconst (v := 0) hx hb dL_get_1 (by decide) ?_
  refine lv_aload_n hx hb dL_get_2 rfl (lv_at hl 0 rfl) ?_
  refine lv_iload_n hx hb dL_get_3 rfl (lv_at hl 1 rfl) ?_
  have hPc := pp_l hP
  have hDc := pd_l hD
  have hFc := wfree hDc hS hA
  refine vx_calli (vx_runV (As := [.int key]) (rest := [.int 0, .ref o]) ⟨hx, hb, hml, hown, ht⟩ (c_X4_get l hl0 D cI cZ cS cJ s.heap.size G SA sf hsf pa no pts rf rg RL pk ps pt L p1 p2 p3 op off left wr rc th Z mm rows F Gn C hci key) (xwV 1 ht kw2_103 kw2_100 kw1_1 kw2_101 kw2_102 rfl rfl (by decide +kernel) ⟨Nat.le_of_ble_eq_true rfl, Nat.le_of_ble_eq_true rfl⟩) ⟨PX.blind, va_recv hK hPc (ci := 4) (q0 := 0) rfl rfl, fun U hU hW => PX.mk hU hW hPc hK hDc hS hFc hTX⟩ rfl rfl hl.1 rfl (lv_room (Nat.le_of_ble_eq_true rfl)) dL_get_4 ⟨Nat.le_of_ble_eq_true rfl, Nat.le_of_ble_eq_true rfl⟩) hS (fun q _ h => hFc q h) hFc (fun q _ h => hFc q h) (fun E ce q9 u9 t9 H1 locs ht1 hvm _ hBX hz1 hk1 hS hce hcv hcl => ?_) (fun r4 u4 t4 H1 locs ht1 hvm w4 hB hz1 hk1 hS => ?_)
  · obtain ⟨hXE, hBX⟩ := hBX
    rw [ht1] at hBX
    have hP := pr_l hP hD hk1 hBX
    have hP : va_P D vwCl (cW cI cS G SA sf pa no pts rf rg (nI RL.length) pk ps pt L p1 p2 p3 (nI rows.length) op (nI F) (nI Gn) (cB C) off left wr rc th Z ++ [(o, .inl (cJ, 1, .inr (.inl fo)))]) H1 := hP
    rcases hXE with ⟨hE, hxc⟩ | ⟨hE, hxc⟩
    · subst hE
      refine vx_catch (own := RLw) (name := cISE) hown (tableOf []) ⟨0, 9, 12, 13⟩ (tableOf [(0, 9, 15, 22)]) (htab.trans rfl) (fun z hz => absurd hz List.not_mem_nil) (by decide) (by decide) (ht _ kw1_210) (ht _ kw1_221) hce hcv hcl ?_
      show W _ _ _ _ _ _ _ _ _ _ _ _ _ _ _ (F0 m 12 ls [.ref q9])
      refine lv_astore_n (lv' := [(3, .ref q9), (0, .ref (G 0)), (1, .int key), (2, .ref o)]) hx hb dL_get_12 rfl hl (by decide) rfl (fun ls hl => ?_)
      refine lv_iconst (v := 1) hx hb dL_get_13 (by decide) ?_
      refine vx_ret ?_
      refine W.widen (k := 80) (n := 8400) (Nat.le_of_ble_eq_true rfl) (Nat.le_of_ble_eq_true rfl) ?_
      exact W.iret (v := 1) hx hb hr (fun t ht2 hW => ⟨⟨1, fo, rfl, Or.inr ⟨by decide, by rw [hxc], rfl⟩, ⟨by (try dsimp only); rw [ht2]; exact hP, by exact hD⟩⟩, hS.F ht2⟩) hS.2.2 dL_get_14
    · subst hE
      refine vx_catch (own := RLw) (name := cNSE) hown (tableOf [(0, 9, 12, 13)]) ⟨0, 9, 15, 22⟩ (tableOf []) (htab.trans rfl) (by
          intro z hz
          simp only [tableOf, List.map_cons, List.map_nil, List.mem_cons, List.not_mem_nil, or_false] at hz
          subst hz
          exact Or.inr ⟨by decide, _, ht _ kw1_210, hNC.1⟩) (by decide) (by decide) (ht _ kw2_99) (ht _ kw2_106) hce hcv hcl ?_
      show W _ _ _ _ _ _ _ _ _ _ _ _ _ _ _ (F0 m 15 ls [.ref q9])
      refine lv_astore_n (lv' := [(3, .ref q9), (0, .ref (G 0)), (1, .int key), (2, .ref o)]) hx hb dL_get_15 rfl hl (by decide) rfl (fun ls hl => ?_)
      refine lv_iconst (v := 2) hx hb dL_get_16 (by decide) ?_
      refine vx_ret ?_
      refine W.widen (k := 80) (n := 8400) (Nat.le_of_ble_eq_true rfl) (Nat.le_of_ble_eq_true rfl) ?_
      exact W.iret (v := 2) hx hb hr (fun t ht2 hW => ⟨⟨2, fo, rfl, Or.inr ⟨by decide, by rw [hxc], rfl⟩, ⟨by (try dsimp only); rw [ht2]; exact hP, by exact hD⟩⟩, hS.F ht2⟩) hS.2.2 dL_get_17
  try dsimp only at w4 hB
  rw [ht1] at hB
  have hP := pr_l hP hD hk1 hB
  generalize H1 = H at hP hS ⊢
  have hP : va_P D vwCl (cW cI cS G SA sf pa no pts rf rg (nI RL.length) pk ps pt L p1 p2 p3 (nI rows.length) op (nI F) (nI Gn) (cB C) off left wr rc th Z ++ [(o, .inl (cJ, 1, .inr (.inl fo)))]) H := hP
  have hD : va_D A (cW cI cS G SA sf pa no pts rf rg (nI RL.length) pk ps pt L p1 p2 p3 (nI rows.length) op (nI F) (nI Gn) (cB C) off left wr rc th Z ++ [(o, .inl (cJ, 1, .inr (.inl fo)))]) := hD
  refine lv_i2l (v := (r4 : Int32).toInt64) hx hb dL_get_7 rfl ?_
  refine ya_last hx hb hK hP hD hS 35 3 rfl rfl 0 (rfl) (by decide) (by decide) dL_get_8 (fun H locs hP hD hS => ?_)
  have hP : va_P D vwCl (cW cI cS G SA sf pa no pts rf rg (nI RL.length) pk ps pt L p1 p2 p3 (nI rows.length) op (nI F) (nI Gn) (cB C) off left wr rc th Z ++ [(o, .inl (cJ, 1, .inr (.inl (vp_updL fo 0 ((r4 : Int32).toInt64)))))]) H := hP
  have hD : va_D A (cW cI cS G SA sf pa no pts rf rg (nI RL.length) pk ps pt L p1 p2 p3 (nI rows.length) op (nI F) (nI Gn) (cB C) off left wr rc th Z ++ [(o, .inl (cJ, 1, .inr (.inl (vp_updL fo 0 ((r4 : Int32).toInt64)))))]) := hD
  refine lv_goto (tgt := 18) hx hb dL_get_9 (by decide) ?_
  refine lv_iconst (v := 0) hx hb dL_get_18 (by decide) ?_
  refine vx_ret ?_
  refine W.widen (k := 80) (n := 8400) (Nat.le_of_ble_eq_true rfl) (Nat.le_of_ble_eq_true rfl) ?_
  exact W.iret (v := 0) hx hb hr (fun t ht2 hW => ⟨⟨0, vp_updL fo 0 ((r4 : Int32).toInt64), rfl, Or.inl ⟨rfl, r4, w4, if_pos rfl⟩, ⟨by (try dsimp only); rw [ht2]; exact hP, by exact hD⟩⟩, hS.F ht2⟩) hS.2.2 dL_get_19

set_option maxHeartbeats 4000000 in
set_option maxRecDepth 100000 in
theorem c_L_join (l : Launch) (hl0 : l.stackTraces = false) (D : va_G) (cI cZ cS cJ : ClassId) (sz : Nat) (G SA : Nat → Nat) (sf : Nat → Option Nat) (hsf : ∀ n, n < 8 → sf n = some (SA n)) (pa no : Nat) (pts rf rg : Nat → Int32) (RL : List (Int32 × Int32)) (pk ps pt L : Nat) (p1 p2 p3 : Nat → Int32) (op off left wr rc th : Int32) (Z : Nat → ST) (mm : Nat → Nat) (rows : List (Int32 × Nat × Nat)) (F Gn : Nat) (C : Bool) (hci : CI mm RL pts rf rg rows L p1 p2 p3 F Gn Z) (o : Nat) (fo : Nat → Int64) (hpl : op = 0 → rows = [] ∧ F = 0 ∧ Gn = 0 ∧ C = false) (hv : op = 0 → OW (stZ Z) (ownK mm)) (h256 : op = 0 → ∀ mo, (plUp (stZ Z) (ownK mo) 8).length ≤ 256) (nd pn : Int32) : vx_Met l yL_join (Cond.codeWith yL_join cL_join 5 (some .int) [(0, 10, 13, 27), (0, 10, 17, 29), (0, 10, 21, 13)] :: TB) ({ frames := 8, cells := 80, slots := 8400, locals := 156 } : Room) (va_Pc [.ref (G 0), .int nd, .int pn, .ref o] (PZ D (KT cI cZ cS cJ) (cW cI cS G SA sf pa no pts rf rg (nI RL.length) pk ps pt L p1 p2 p3 (nI rows.length) op (nI F) (nI Gn) (cB C) off left wr rc th Z ++ [(o, .inl (cJ, 1, .inr (.inl fo)))]) sz)) (va_Qi (fun k (u : CT × (Nat → Int64)) => (k = 0 ∧ ∃ r, joinF off left wr rc (stZ Z) mm op rows F Gn C nd pn = (0, r, sgu u.1) ∧ u.2 0 = (r : Int32).toInt64 ∧ CIu u.1 ∧ thu u.1 = th) ∨ (¬ k = 0 ∧ (joinF off left wr rc (stZ Z) mm op rows F Gn C nd pn).1 = k ∧ u.1 = (pa, no, pts, rf, rg, RL, pk, ps, pt, L, p1, p2, p3, op, off, left, wr, rc, th, Z, mm, rows, F, Gn, C) ∧ u.2 = fo)) (fun (u : CT × (Nat → Int64)) t => va_P D vwCl (cWu cI cS G SA sf u.1 ++ [(o, .inl (cJ, 1, .inr (.inl u.2)))]) t.heap ∧ va_D (va_A (cW cI cS G SA sf pa no pts rf rg (nI RL.length) pk ps pt L p1 p2 p3 (nI rows.length) op (nI F) (nI Gn) (cB C) off left wr rc th Z ++ [(o, .inl (cJ, 1, .inr (.inl fo)))]) sz) (cWu cI cS G SA sf u.1 ++ [(o, .inl (cJ, 1, .inr (.inl u.2)))])) (va_A (cW cI cS G SA sf pa no pts rf rg (nI RL.length) pk ps pt L p1 p2 p3 (nI rows.length) op (nI F) (nI Gn) (cB C) off left wr rc th Z ++ [(o, .inl (cJ, 1, .inr (.inl fo)))]) sz)) (vx_X (fun (_ : Unit) => False) (fun _ _ _ => False) (va_A (cW cI cS G SA sf pa no pts rf rg (nI RL.length) pk ps pt L p1 p2 p3 (nI rows.length) op (nI F) (nI Gn) (cB C) off left wr rc th Z ++ [(o, .inl (cJ, 1, .inr (.inl fo)))]) sz)) 80 8400 (va_A (cW cI cS G SA sf pa no pts rf rg (nI RL.length) pk ps pt L p1 p2 p3 (nI rows.length) op (nI F) (nI Gn) (cB C) off left wr rc th Z ++ [(o, .inl (cJ, 1, .inr (.inl fo)))]) sz) := by
  refine vx_ofWH (cc := cL_join) (maxL := 5) (ret := (some .int)) (hh := [(0, 10, 13, 27), (0, 10, 17, 29), (0, 10, 21, 13)]) (by decide) rfl ?_
  intro p e s m args below meth c s₁ B hml hv
  obtain ⟨rfl, ⟨⟨hsz, hP, hK, hD0⟩, hTX⟩, hNC⟩ := hv
  have hx := B.exec
  have hb := B.bytes
  have hr := B.returns
  have hts := atoms_spec (ws := (Cond.codeWith yL_join cL_join 5 (some .int) [(0, 10, 13, 27), (0, 10, 17, 29), (0, 10, 21, 13)] :: TB)) B.pre
  have ht : ∀ w ∈ TB, w.before _ s = true := fun w h => hts w (List.mem_cons_of_mem _ h)
  have htab := vx_table (x := yL_join) B (hts _ List.mem_cons_self)
  have hown : s.vm.findClass RLw = some m.cls := findClass_of_methodNamed B.named
  have hlocks := B.notSynchronized
  subst hsz
  have hD := hD0.self (sz := s.heap.size)
  generalize hAe : va_A (cW cI cS G SA sf pa no pts rf rg (nI RL.length) pk ps pt L p1 p2 p3 (nI rows.length) op (nI F) (nI Gn) (cB C) off left wr rc th Z ++ [(o, .inl (cJ, 1, .inr (.inl fo)))]) s.heap.size = A at hD hTX ⊢
  have hA : ∀ q : Nat, s.heap.size ≤ q → A q := fun q h => by rw [← hAe]; exact Or.inr h
  have hS : va_S A s.heap s.heap [] := va_S.rf
  have hP : va_P D vwCl (cW cI cS G SA sf pa no pts rf rg (nI RL.length) pk ps pt L p1 p2 p3 (nI rows.length) op (nI F) (nI Gn) (cB C) off left wr rc th Z ++ [(o, .inl (cJ, 1, .inr (.inl fo)))]) s.heap := hP
  have hl := lv_entry ([.ref (G 0), .int nd, .int pn, .ref o]) (n := 5) (Nat.le_of_ble_eq_true rfl)
  rw [lg_entry_eq]
  generalize (lg_sl ([.ref (G 0), .int nd, .int pn, .ref o]) ++ List.replicate (5 - (lg_sl ([.ref (G 0), .int nd, .int pn, .ref o])).length) Slot.unset).toArray = ls at hl ⊢
  have hl : lv_has ls 5 [(0, .ref (G 0)), (1, .int nd), (2, .int pn), (3, .ref o)] := hl
  refine lv_aload_n hx hb dL_join_0 rfl (lv_at hl 3 rfl) ?_
  refine lv_iconst (v := 0) hx hb dL_join_1 (by decide) ?_
  refine lv_aload_n hx hb dL_join_2 rfl (lv_at hl 0 rfl) ?_
  refine lv_iload_n hx hb dL_join_3 rfl (lv_at hl 1 rfl) ?_
  refine lv_iload_n hx hb dL_join_4 rfl (lv_at hl 2 rfl) ?_
  have hPc := pp_l hP
  have hDc := pd_l hD
  have hFc := wfree hDc hS hA
  refine vx_calli (vx_runV (As := [.int nd, .int pn]) (rest := [.int 0, .ref o]) ⟨hx, hb, hml, hown, ht⟩ (c_X4_join l hl0 D cI cZ cS cJ s.heap.size G SA sf hsf pa no pts rf rg RL pk ps pt L p1 p2 p3 op off left wr rc th Z mm rows F Gn C hci hpl hv h256 nd pn) (xwV 2 ht kw2_132 kw2_129 kw1_1 kw2_130 kw2_131 rfl rfl (by decide +kernel) ⟨Nat.le_of_ble_eq_true rfl, Nat.le_of_ble_eq_true rfl⟩) ⟨PX.blind, va_recv hK hPc (ci := 4) (q0 := 0) rfl rfl, fun U hU hW => PX.mk hU hW hPc hK hDc hS hFc hTX⟩ rfl rfl hl.1 rfl (lv_room (Nat.le_of_ble_eq_true rfl)) dL_join_5 ⟨Nat.le_of_ble_eq_true rfl, Nat.le_of_ble_eq_true rfl⟩) hS (fun q _ h => hFc q h) hFc (fun q _ h => hFc q h) (fun E ce q9 u9 t9 H1 locs ht1 hvm _ hBX hz1 hk1 hS hce hcv hcl => ?_) (fun r5 u5 t5 H1 locs ht1 hvm w5 hB hz1 hk1 hS => ?_)
  · obtain ⟨hXE, hBX⟩ := hBX
    rw [ht1] at hBX
    have hP := pr_l hP hD hk1 hBX
    have hP : va_P D vwCl (cW cI cS G SA sf pa no pts rf rg (nI RL.length) pk ps pt L p1 p2 p3 (nI rows.length) op (nI F) (nI Gn) (cB C) off left wr rc th Z ++ [(o, .inl (cJ, 1, .inr (.inl fo)))]) H1 := hP
    rcases hXE with ⟨hE, hxc⟩ | ⟨hE, hxc⟩ | ⟨hE, hxc⟩
    · subst hE
      refine vx_catch (own := RLw) (name := cIOB) hown (tableOf []) ⟨0, 10, 13, 27⟩ (tableOf [(0, 10, 17, 29), (0, 10, 21, 13)]) (htab.trans rfl) (fun z hz => absurd hz List.not_mem_nil) (by decide) (by decide) (ht _ kw2_127) (ht _ kw2_138) hce hcv hcl ?_
      show W _ _ _ _ _ _ _ _ _ _ _ _ _ _ _ (F0 m 13 ls [.ref q9])
      refine lv_astore (lv' := [(4, .ref q9), (0, .ref (G 0)), (1, .int nd), (2, .int pn), (3, .ref o)]) hx hb dL_join_13 hl (by decide) rfl (fun ls hl => ?_)
      refine lv_iconst (v := 1) hx hb dL_join_15 (by decide) ?_
      refine vx_ret ?_
      refine W.widen (k := 80) (n := 8400) (Nat.le_of_ble_eq_true rfl) (Nat.le_of_ble_eq_true rfl) ?_
      exact W.iret (v := 1) hx hb hr (fun t ht2 hW => ⟨⟨1, ((pa, no, pts, rf, rg, RL, pk, ps, pt, L, p1, p2, p3, op, off, left, wr, rc, th, Z, mm, rows, F, Gn, C), fo), rfl, Or.inr ⟨by decide, hxc, rfl, rfl⟩, ⟨by (try dsimp only); rw [ht2]; exact hP, by exact hD⟩⟩, hS.F ht2⟩) hS.2.2 dL_join_16
    · subst hE
      refine vx_catch (own := RLw) (name := cIAE) hown (tableOf [(0, 10, 13, 27)]) ⟨0, 10, 17, 29⟩ (tableOf [(0, 10, 21, 13)]) (htab.trans rfl) (by
          intro z hz
          simp only [tableOf, List.map_cons, List.map_nil, List.mem_cons, List.not_mem_nil, or_false] at hz
          subst hz
          exact Or.inr ⟨by decide, _, ht _ kw2_127, hNC.2.1⟩) (by decide) (by decide) (ht _ kw2_128) (ht _ kw2_154) hce hcv hcl ?_
      show W _ _ _ _ _ _ _ _ _ _ _ _ _ _ _ (F0 m 17 ls [.ref q9])
      refine lv_astore (lv' := [(4, .ref q9), (0, .ref (G 0)), (1, .int nd), (2, .int pn), (3, .ref o)]) hx hb dL_join_17 hl (by decide) rfl (fun ls hl => ?_)
      refine lv_iconst (v := 2) hx hb dL_join_19 (by decide) ?_
      refine vx_ret ?_
      refine W.widen (k := 80) (n := 8400) (Nat.le_of_ble_eq_true rfl) (Nat.le_of_ble_eq_true rfl) ?_
      exact W.iret (v := 2) hx hb hr (fun t ht2 hW => ⟨⟨2, ((pa, no, pts, rf, rg, RL, pk, ps, pt, L, p1, p2, p3, op, off, left, wr, rc, th, Z, mm, rows, F, Gn, C), fo), rfl, Or.inr ⟨by decide, hxc, rfl, rfl⟩, ⟨by (try dsimp only); rw [ht2]; exact hP, by exact hD⟩⟩, hS.F ht2⟩) hS.2.2 dL_join_20
    · subst hE
      refine vx_catch (own := RLw) (name := cISE) hown (tableOf [(0, 10, 13, 27), (0, 10, 17, 29)]) ⟨0, 10, 21, 13⟩ (tableOf []) (htab.trans rfl) (by
          intro z hz
          simp only [tableOf, List.map_cons, List.map_nil, List.mem_cons, List.not_mem_nil, or_false] at hz
          rcases hz with e9 | e9
          · subst e9; exact Or.inr ⟨by decide, _, ht _ kw2_127, hNC.2.2.1⟩
          · subst e9; exact Or.inr ⟨by decide, _, ht _ kw2_128, hNC.2.2.2⟩) (by decide) (by decide) (ht _ kw1_210) (ht _ kw1_221) hce hcv hcl ?_
      show W _ _ _ _ _ _ _ _ _ _ _ _ _ _ _ (F0 m 21 ls [.ref q9])
      refine lv_astore (lv' := [(4, .ref q9), (0, .ref (G 0)), (1, .int nd), (2, .int pn), (3, .ref o)]) hx hb dL_join_21 hl (by decide) rfl (fun ls hl => ?_)
      refine lv_iconst (v := 3) hx hb dL_join_23 (by decide) ?_
      refine vx_ret ?_
      refine W.widen (k := 80) (n := 8400) (Nat.le_of_ble_eq_true rfl) (Nat.le_of_ble_eq_true rfl) ?_
      exact W.iret (v := 3) hx hb hr (fun t ht2 hW => ⟨⟨3, ((pa, no, pts, rf, rg, RL, pk, ps, pt, L, p1, p2, p3, op, off, left, wr, rc, th, Z, mm, rows, F, Gn, C), fo), rfl, Or.inr ⟨by decide, hxc, rfl, rfl⟩, ⟨by (try dsimp only); rw [ht2]; exact hP, by exact hD⟩⟩, hS.F ht2⟩) hS.2.2 dL_join_24
  try dsimp only at w5 hB
  obtain ⟨hP1, hD1⟩ := hB
  rw [ht1] at hP1
  obtain ⟨hP, hD⟩ := pj_l hP hD hk1 hFc hP1 hD1
  obtain ⟨pa9, no9, pts9, rf9, rg9, RL9, pk9, ps9, pt9, L9, p19, p29, p39, op9, off9, left9, wr9, rc9, th9, Z9, mm9, rows9, F9, Gn9, C9⟩ := u5
  generalize H1 = H at hP hS ⊢
  have hP : va_P D vwCl (cW cI cS G SA sf pa9 no9 pts9 rf9 rg9 (nI RL9.length) pk9 ps9 pt9 L9 p19 p29 p39 (nI rows9.length) op9 (nI F9) (nI Gn9) (cB C9) off9 left9 wr9 rc9 th9 Z9 ++ [(o, .inl (cJ, 1, .inr (.inl fo)))]) H := hP
  have hD : va_D A (cW cI cS G SA sf pa9 no9 pts9 rf9 rg9 (nI RL9.length) pk9 ps9 pt9 L9 p19 p29 p39 (nI rows9.length) op9 (nI F9) (nI Gn9) (cB C9) off9 left9 wr9 rc9 th9 Z9 ++ [(o, .inl (cJ, 1, .inr (.inl fo)))]) := hD
  refine lv_i2l (v := (r5 : Int32).toInt64) hx hb dL_join_8 rfl ?_
  refine ya_last hx hb hK hP hD hS 35 3 rfl rfl 0 (rfl) (by decide) (by decide) dL_join_9 (fun H locs hP hD hS => ?_)
  have hP : va_P D vwCl (cW cI cS G SA sf pa9 no9 pts9 rf9 rg9 (nI RL9.length) pk9 ps9 pt9 L9 p19 p29 p39 (nI rows9.length) op9 (nI F9) (nI Gn9) (cB C9) off9 left9 wr9 rc9 th9 Z9 ++ [(o, .inl (cJ, 1, .inr (.inl (vp_updL fo 0 ((r5 : Int32).toInt64)))))]) H := hP
  have hD : va_D A (cW cI cS G SA sf pa9 no9 pts9 rf9 rg9 (nI RL9.length) pk9 ps9 pt9 L9 p19 p29 p39 (nI rows9.length) op9 (nI F9) (nI Gn9) (cB C9) off9 left9 wr9 rc9 th9 Z9 ++ [(o, .inl (cJ, 1, .inr (.inl (vp_updL fo 0 ((r5 : Int32).toInt64)))))]) := hD
  refine lv_goto (tgt := 25) hx hb dL_join_10 (by decide) ?_
  refine lv_iconst (v := 0) hx hb dL_join_25 (by decide) ?_
  refine vx_ret ?_
  refine W.widen (k := 80) (n := 8400) (Nat.le_of_ble_eq_true rfl) (Nat.le_of_ble_eq_true rfl) ?_
  exact W.iret (v := 0) hx hb hr (fun t ht2 hW => ⟨⟨0, ((pa9, no9, pts9, rf9, rg9, RL9, pk9, ps9, pt9, L9, p19, p29, p39, op9, off9, left9, wr9, rc9, th9, Z9, mm9, rows9, F9, Gn9, C9), vp_updL fo 0 ((r5 : Int32).toInt64)), rfl, Or.inl ⟨rfl, r5, w5.1, updL0 fo _, w5.2.1, w5.2.2⟩, ⟨by (try dsimp only); rw [ht2]; exact hP, by exact hD⟩⟩, hS.F ht2⟩) hS.2.2 dL_join_26

set_option maxHeartbeats 4000000 in
set_option maxRecDepth 100000 in
theorem c_L_leave (l : Launch) (hl0 : l.stackTraces = false) (D : va_G) (cI cZ cS cJ : ClassId) (sz : Nat) (G SA : Nat → Nat) (sf : Nat → Option Nat) (hsf : ∀ n, n < 8 → sf n = some (SA n)) (pa no : Nat) (pts rf rg : Nat → Int32) (RL : List (Int32 × Int32)) (pk ps pt L : Nat) (p1 p2 p3 : Nat → Int32) (op off left wr rc th : Int32) (Z : Nat → ST) (mm : Nat → Nat) (rows : List (Int32 × Nat × Nat)) (F Gn : Nat) (C : Bool) (hci : CI mm RL pts rf rg rows L p1 p2 p3 F Gn Z) (o : Nat) (fo : Nat → Int64) (hpl : op = 0 → rows = [] ∧ F = 0 ∧ Gn = 0 ∧ C = false) (hv : op = 0 → OW (stZ Z) (ownK mm)) (h256 : op = 0 → ∀ mo, (plUp (stZ Z) (ownK mo) 8).length ≤ 256) (nd : Int32) : vx_Met l yL_leave (Cond.codeWith yL_leave cL_leave 4 (some .int) [(0, 9, 12, 27), (0, 9, 15, 13)] :: TB) ({ frames := 8, cells := 80, slots := 8400, locals := 155 } : Room) (va_Pc [.ref (G 0), .int nd, .ref o] (PZ D (KT cI cZ cS cJ) (cW cI cS G SA sf pa no pts rf rg (nI RL.length) pk ps pt L p1 p2 p3 (nI rows.length) op (nI F) (nI Gn) (cB C) off left wr rc th Z ++ [(o, .inl (cJ, 1, .inr (.inl fo)))]) sz)) (va_Qi (fun k (u : CT × (Nat → Int64)) => (k = 0 ∧ ∃ r, leaveF off left wr rc (stZ Z) mm op rows F Gn C nd = (0, r, sgu u.1) ∧ u.2 0 = (r : Int32).toInt64 ∧ CIu u.1 ∧ thu u.1 = th) ∨ (¬ k = 0 ∧ (leaveF off left wr rc (stZ Z) mm op rows F Gn C nd).1 = k ∧ u.1 = (pa, no, pts, rf, rg, RL, pk, ps, pt, L, p1, p2, p3, op, off, left, wr, rc, th, Z, mm, rows, F, Gn, C) ∧ u.2 = fo)) (fun (u : CT × (Nat → Int64)) t => va_P D vwCl (cWu cI cS G SA sf u.1 ++ [(o, .inl (cJ, 1, .inr (.inl u.2)))]) t.heap ∧ va_D (va_A (cW cI cS G SA sf pa no pts rf rg (nI RL.length) pk ps pt L p1 p2 p3 (nI rows.length) op (nI F) (nI Gn) (cB C) off left wr rc th Z ++ [(o, .inl (cJ, 1, .inr (.inl fo)))]) sz) (cWu cI cS G SA sf u.1 ++ [(o, .inl (cJ, 1, .inr (.inl u.2)))])) (va_A (cW cI cS G SA sf pa no pts rf rg (nI RL.length) pk ps pt L p1 p2 p3 (nI rows.length) op (nI F) (nI Gn) (cB C) off left wr rc th Z ++ [(o, .inl (cJ, 1, .inr (.inl fo)))]) sz)) (vx_X (fun (_ : Unit) => False) (fun _ _ _ => False) (va_A (cW cI cS G SA sf pa no pts rf rg (nI RL.length) pk ps pt L p1 p2 p3 (nI rows.length) op (nI F) (nI Gn) (cB C) off left wr rc th Z ++ [(o, .inl (cJ, 1, .inr (.inl fo)))]) sz)) 80 8400 (va_A (cW cI cS G SA sf pa no pts rf rg (nI RL.length) pk ps pt L p1 p2 p3 (nI rows.length) op (nI F) (nI Gn) (cB C) off left wr rc th Z ++ [(o, .inl (cJ, 1, .inr (.inl fo)))]) sz) := by
  refine vx_ofWH (cc := cL_leave) (maxL := 4) (ret := (some .int)) (hh := [(0, 9, 12, 27), (0, 9, 15, 13)]) (by decide) rfl ?_
  intro p e s m args below meth c s₁ B hml hv
  obtain ⟨rfl, ⟨⟨hsz, hP, hK, hD0⟩, hTX⟩, hNC⟩ := hv
  have hx := B.exec
  have hb := B.bytes
  have hr := B.returns
  have hts := atoms_spec (ws := (Cond.codeWith yL_leave cL_leave 4 (some .int) [(0, 9, 12, 27), (0, 9, 15, 13)] :: TB)) B.pre
  have ht : ∀ w ∈ TB, w.before _ s = true := fun w h => hts w (List.mem_cons_of_mem _ h)
  have htab := vx_table (x := yL_leave) B (hts _ List.mem_cons_self)
  have hown : s.vm.findClass RLw = some m.cls := findClass_of_methodNamed B.named
  have hlocks := B.notSynchronized
  subst hsz
  have hD := hD0.self (sz := s.heap.size)
  generalize hAe : va_A (cW cI cS G SA sf pa no pts rf rg (nI RL.length) pk ps pt L p1 p2 p3 (nI rows.length) op (nI F) (nI Gn) (cB C) off left wr rc th Z ++ [(o, .inl (cJ, 1, .inr (.inl fo)))]) s.heap.size = A at hD hTX ⊢
  have hA : ∀ q : Nat, s.heap.size ≤ q → A q := fun q h => by rw [← hAe]; exact Or.inr h
  have hS : va_S A s.heap s.heap [] := va_S.rf
  have hP : va_P D vwCl (cW cI cS G SA sf pa no pts rf rg (nI RL.length) pk ps pt L p1 p2 p3 (nI rows.length) op (nI F) (nI Gn) (cB C) off left wr rc th Z ++ [(o, .inl (cJ, 1, .inr (.inl fo)))]) s.heap := hP
  have hl := lv_entry ([.ref (G 0), .int nd, .ref o]) (n := 4) (Nat.le_of_ble_eq_true rfl)
  rw [lg_entry_eq]
  generalize (lg_sl ([.ref (G 0), .int nd, .ref o]) ++ List.replicate (4 - (lg_sl ([.ref (G 0), .int nd, .ref o])).length) Slot.unset).toArray = ls at hl ⊢
  have hl : lv_has ls 4 [(0, .ref (G 0)), (1, .int nd), (2, .ref o)] := hl
  refine lv_aload_n hx hb dL_leave_0 rfl (lv_at hl 2 rfl) ?_
  refine lv_iconst (v := 0) hx hb dL_leave_1 (by decide) ?_
  refine lv_aload_n hx hb dL_leave_2 rfl (lv_at hl 0 rfl) ?_
  refine lv_iload_n hx hb dL_leave_3 rfl (lv_at hl 1 rfl) ?_
  have hPc := pp_l hP
  have hDc := pd_l hD
  have hFc := wfree hDc hS hA
  refine vx_calli (vx_runV (As := [.int nd]) (rest := [.int 0, .ref o]) ⟨hx, hb, hml, hown, ht⟩ (c_X4_leave l hl0 D cI cZ cS cJ s.heap.size G SA sf hsf pa no pts rf rg RL pk ps pt L p1 p2 p3 op off left wr rc th Z mm rows F Gn C hci hpl hv h256 nd) (xwV 1 ht kw2_189 kw2_186 kw1_1 kw2_187 kw2_188 rfl rfl (by decide +kernel) ⟨Nat.le_of_ble_eq_true rfl, Nat.le_of_ble_eq_true rfl⟩) ⟨PX.blind, va_recv hK hPc (ci := 4) (q0 := 0) rfl rfl, fun U hU hW => PX.mk hU hW hPc hK hDc hS hFc hTX⟩ rfl rfl hl.1 rfl (lv_room (Nat.le_of_ble_eq_true rfl)) dL_leave_4 ⟨Nat.le_of_ble_eq_true rfl, Nat.le_of_ble_eq_true rfl⟩) hS (fun q _ h => hFc q h) hFc (fun q _ h => hFc q h) (fun E ce q9 u9 t9 H1 locs ht1 hvm _ hBX hz1 hk1 hS hce hcv hcl => ?_) (fun r4 u4 t4 H1 locs ht1 hvm w4 hB hz1 hk1 hS => ?_)
  · obtain ⟨hXE, hBX⟩ := hBX
    rw [ht1] at hBX
    have hP := pr_l hP hD hk1 hBX
    have hP : va_P D vwCl (cW cI cS G SA sf pa no pts rf rg (nI RL.length) pk ps pt L p1 p2 p3 (nI rows.length) op (nI F) (nI Gn) (cB C) off left wr rc th Z ++ [(o, .inl (cJ, 1, .inr (.inl fo)))]) H1 := hP
    rcases hXE with ⟨hE, hxc⟩ | ⟨hE, hxc⟩
    · subst hE
      refine vx_catch (own := RLw) (name := cIOB) hown (tableOf []) ⟨0, 9, 12, 27⟩ (tableOf [(0, 9, 15, 13)]) (htab.trans rfl) (fun z hz => absurd hz List.not_mem_nil) (by decide) (by decide) (ht _ kw2_127) (ht _ kw2_138) hce hcv hcl ?_
      show W _ _ _ _ _ _ _ _ _ _ _ _ _ _ _ (F0 m 12 ls [.ref q9])
      refine lv_astore_n (lv' := [(3, .ref q9), (0, .ref (G 0)), (1, .int nd), (2, .ref o)]) hx hb dL_leave_12 rfl hl (by decide) rfl (fun ls hl => ?_)
      refine lv_iconst (v := 1) hx hb dL_leave_13 (by decide) ?_
      refine vx_ret ?_
      refine W.widen (k := 80) (n := 8400) (Nat.le_of_ble_eq_true rfl) (Nat.le_of_ble_eq_true rfl) ?_
      exact W.iret (v := 1) hx hb hr (fun t ht2 hW => ⟨⟨1, ((pa, no, pts, rf, rg, RL, pk, ps, pt, L, p1, p2, p3, op, off, left, wr, rc, th, Z, mm, rows, F, Gn, C), fo), rfl, Or.inr ⟨by decide, hxc, rfl, rfl⟩, ⟨by (try dsimp only); rw [ht2]; exact hP, by exact hD⟩⟩, hS.F ht2⟩) hS.2.2 dL_leave_14
    · subst hE
      refine vx_catch (own := RLw) (name := cISE) hown (tableOf [(0, 9, 12, 27)]) ⟨0, 9, 15, 13⟩ (tableOf []) (htab.trans rfl) (by
          intro z hz
          simp only [tableOf, List.map_cons, List.map_nil, List.mem_cons, List.not_mem_nil, or_false] at hz
          subst hz
          exact Or.inr ⟨by decide, _, ht _ kw2_127, hNC.2.2.1⟩) (by decide) (by decide) (ht _ kw1_210) (ht _ kw1_221) hce hcv hcl ?_
      show W _ _ _ _ _ _ _ _ _ _ _ _ _ _ _ (F0 m 15 ls [.ref q9])
      refine lv_astore_n (lv' := [(3, .ref q9), (0, .ref (G 0)), (1, .int nd), (2, .ref o)]) hx hb dL_leave_15 rfl hl (by decide) rfl (fun ls hl => ?_)
      refine lv_iconst (v := 2) hx hb dL_leave_16 (by decide) ?_
      refine vx_ret ?_
      refine W.widen (k := 80) (n := 8400) (Nat.le_of_ble_eq_true rfl) (Nat.le_of_ble_eq_true rfl) ?_
      exact W.iret (v := 2) hx hb hr (fun t ht2 hW => ⟨⟨2, ((pa, no, pts, rf, rg, RL, pk, ps, pt, L, p1, p2, p3, op, off, left, wr, rc, th, Z, mm, rows, F, Gn, C), fo), rfl, Or.inr ⟨by decide, hxc, rfl, rfl⟩, ⟨by (try dsimp only); rw [ht2]; exact hP, by exact hD⟩⟩, hS.F ht2⟩) hS.2.2 dL_leave_17
  try dsimp only at w4 hB
  obtain ⟨hP1, hD1⟩ := hB
  rw [ht1] at hP1
  obtain ⟨hP, hD⟩ := pj_l hP hD hk1 hFc hP1 hD1
  obtain ⟨pa9, no9, pts9, rf9, rg9, RL9, pk9, ps9, pt9, L9, p19, p29, p39, op9, off9, left9, wr9, rc9, th9, Z9, mm9, rows9, F9, Gn9, C9⟩ := u4
  generalize H1 = H at hP hS ⊢
  have hP : va_P D vwCl (cW cI cS G SA sf pa9 no9 pts9 rf9 rg9 (nI RL9.length) pk9 ps9 pt9 L9 p19 p29 p39 (nI rows9.length) op9 (nI F9) (nI Gn9) (cB C9) off9 left9 wr9 rc9 th9 Z9 ++ [(o, .inl (cJ, 1, .inr (.inl fo)))]) H := hP
  have hD : va_D A (cW cI cS G SA sf pa9 no9 pts9 rf9 rg9 (nI RL9.length) pk9 ps9 pt9 L9 p19 p29 p39 (nI rows9.length) op9 (nI F9) (nI Gn9) (cB C9) off9 left9 wr9 rc9 th9 Z9 ++ [(o, .inl (cJ, 1, .inr (.inl fo)))]) := hD
  refine lv_i2l (v := (r4 : Int32).toInt64) hx hb dL_leave_7 rfl ?_
  refine ya_last hx hb hK hP hD hS 35 3 rfl rfl 0 (rfl) (by decide) (by decide) dL_leave_8 (fun H locs hP hD hS => ?_)
  have hP : va_P D vwCl (cW cI cS G SA sf pa9 no9 pts9 rf9 rg9 (nI RL9.length) pk9 ps9 pt9 L9 p19 p29 p39 (nI rows9.length) op9 (nI F9) (nI Gn9) (cB C9) off9 left9 wr9 rc9 th9 Z9 ++ [(o, .inl (cJ, 1, .inr (.inl (vp_updL fo 0 ((r4 : Int32).toInt64)))))]) H := hP
  have hD : va_D A (cW cI cS G SA sf pa9 no9 pts9 rf9 rg9 (nI RL9.length) pk9 ps9 pt9 L9 p19 p29 p39 (nI rows9.length) op9 (nI F9) (nI Gn9) (cB C9) off9 left9 wr9 rc9 th9 Z9 ++ [(o, .inl (cJ, 1, .inr (.inl (vp_updL fo 0 ((r4 : Int32).toInt64)))))]) := hD
  refine lv_goto (tgt := 18) hx hb dL_leave_9 (by decide) ?_
  refine lv_iconst (v := 0) hx hb dL_leave_18 (by decide) ?_
  refine vx_ret ?_
  refine W.widen (k := 80) (n := 8400) (Nat.le_of_ble_eq_true rfl) (Nat.le_of_ble_eq_true rfl) ?_
  exact W.iret (v := 0) hx hb hr (fun t ht2 hW => ⟨⟨0, ((pa9, no9, pts9, rf9, rg9, RL9, pk9, ps9, pt9, L9, p19, p29, p39, op9, off9, left9, wr9, rc9, th9, Z9, mm9, rows9, F9, Gn9, C9), vp_updL fo 0 ((r4 : Int32).toInt64)), rfl, Or.inl ⟨rfl, r4, w4.1, updL0 fo _, w4.2.1, w4.2.2⟩, ⟨by (try dsimp only); rw [ht2]; exact hP, by exact hD⟩⟩, hS.F ht2⟩) hS.2.2 dL_leave_19

set_option maxHeartbeats 4000000 in
set_option maxRecDepth 100000 in
theorem c_L_step (l : Launch) (hl0 : l.stackTraces = false) (D : va_G) (cI cZ cS cJ : ClassId) (sz : Nat) (G SA : Nat → Nat) (sf : Nat → Option Nat) (hsf : ∀ n, n < 8 → sf n = some (SA n)) (pa no : Nat) (pts rf rg : Nat → Int32) (RL : List (Int32 × Int32)) (pk ps pt L : Nat) (p1 p2 p3 : Nat → Int32) (op off left wr rc th : Int32) (Z : Nat → ST) (mm : Nat → Nat) (rows : List (Int32 × Nat × Nat)) (F Gn : Nat) (C : Bool) (hci : CI mm RL pts rf rg rows L p1 p2 p3 F Gn Z) (o : Nat) (fo : Nat → Int64) (hG : Gn ≤ F) (hF : F ≤ rows.length) (hlen : ∀ n, n < 8 → (zL (Z n)).length < 999)  : vx_Met l yL_step (Cond.codeWith yL_step cL_step 3 (some .int) [(0, 8, 11, 13)] :: TB) ({ frames := 8, cells := 80, slots := 8400, locals := 154 } : Room) (va_Pc [.ref (G 0), .ref o] (PZ D (KT cI cZ cS cJ) (cW cI cS G SA sf pa no pts rf rg (nI RL.length) pk ps pt L p1 p2 p3 (nI rows.length) op (nI F) (nI Gn) (cB C) off left wr rc th Z ++ [(o, .inl (cJ, 1, .inr (.inl fo)))]) sz)) (va_Qi (fun k (u : CT × (Nat → Int64)) => (k = 0 ∧ ∃ r, stepF off left wr rc (stZ Z) mm op rows F Gn C = (0, r, sgu u.1) ∧ u.2 0 = (r : Int32).toInt64 ∧ CIu u.1 ∧ thu u.1 = th) ∨ (¬ k = 0 ∧ (stepF off left wr rc (stZ Z) mm op rows F Gn C).1 = k ∧ u.1 = (pa, no, pts, rf, rg, RL, pk, ps, pt, L, p1, p2, p3, op, off, left, wr, rc, th, Z, mm, rows, F, Gn, C) ∧ u.2 = fo)) (fun (u : CT × (Nat → Int64)) t => va_P D vwCl (cWu cI cS G SA sf u.1 ++ [(o, .inl (cJ, 1, .inr (.inl u.2)))]) t.heap ∧ va_D (va_A (cW cI cS G SA sf pa no pts rf rg (nI RL.length) pk ps pt L p1 p2 p3 (nI rows.length) op (nI F) (nI Gn) (cB C) off left wr rc th Z ++ [(o, .inl (cJ, 1, .inr (.inl fo)))]) sz) (cWu cI cS G SA sf u.1 ++ [(o, .inl (cJ, 1, .inr (.inl u.2)))])) (va_A (cW cI cS G SA sf pa no pts rf rg (nI RL.length) pk ps pt L p1 p2 p3 (nI rows.length) op (nI F) (nI Gn) (cB C) off left wr rc th Z ++ [(o, .inl (cJ, 1, .inr (.inl fo)))]) sz)) (vx_X (fun (_ : Unit) => False) (fun _ _ _ => False) (va_A (cW cI cS G SA sf pa no pts rf rg (nI RL.length) pk ps pt L p1 p2 p3 (nI rows.length) op (nI F) (nI Gn) (cB C) off left wr rc th Z ++ [(o, .inl (cJ, 1, .inr (.inl fo)))]) sz)) 80 8400 (va_A (cW cI cS G SA sf pa no pts rf rg (nI RL.length) pk ps pt L p1 p2 p3 (nI rows.length) op (nI F) (nI Gn) (cB C) off left wr rc th Z ++ [(o, .inl (cJ, 1, .inr (.inl fo)))]) sz) := by
  refine vx_ofWH (cc := cL_step) (maxL := 3) (ret := (some .int)) (hh := [(0, 8, 11, 13)]) (by decide) rfl ?_
  intro p e s m args below meth c s₁ B hml hv
  obtain ⟨rfl, ⟨⟨hsz, hP, hK, hD0⟩, hTX⟩, hNC⟩ := hv
  have hx := B.exec
  have hb := B.bytes
  have hr := B.returns
  have hts := atoms_spec (ws := (Cond.codeWith yL_step cL_step 3 (some .int) [(0, 8, 11, 13)] :: TB)) B.pre
  have ht : ∀ w ∈ TB, w.before _ s = true := fun w h => hts w (List.mem_cons_of_mem _ h)
  have htab := vx_table (x := yL_step) B (hts _ List.mem_cons_self)
  have hown : s.vm.findClass RLw = some m.cls := findClass_of_methodNamed B.named
  have hlocks := B.notSynchronized
  subst hsz
  have hD := hD0.self (sz := s.heap.size)
  generalize hAe : va_A (cW cI cS G SA sf pa no pts rf rg (nI RL.length) pk ps pt L p1 p2 p3 (nI rows.length) op (nI F) (nI Gn) (cB C) off left wr rc th Z ++ [(o, .inl (cJ, 1, .inr (.inl fo)))]) s.heap.size = A at hD hTX ⊢
  have hA : ∀ q : Nat, s.heap.size ≤ q → A q := fun q h => by rw [← hAe]; exact Or.inr h
  have hS : va_S A s.heap s.heap [] := va_S.rf
  have hP : va_P D vwCl (cW cI cS G SA sf pa no pts rf rg (nI RL.length) pk ps pt L p1 p2 p3 (nI rows.length) op (nI F) (nI Gn) (cB C) off left wr rc th Z ++ [(o, .inl (cJ, 1, .inr (.inl fo)))]) s.heap := hP
  have hl := lv_entry ([.ref (G 0), .ref o]) (n := 3) (Nat.le_of_ble_eq_true rfl)
  rw [lg_entry_eq]
  generalize (lg_sl ([.ref (G 0), .ref o]) ++ List.replicate (3 - (lg_sl ([.ref (G 0), .ref o])).length) Slot.unset).toArray = ls at hl ⊢
  have hl : lv_has ls 3 [(0, .ref (G 0)), (1, .ref o)] := hl
  refine lv_aload_n hx hb dL_step_0 rfl (lv_at hl 1 rfl) ?_
  refine lv_iconst (v := 0) hx hb dL_step_1 (by decide) ?_
  refine lv_aload_n hx hb dL_step_2 rfl (lv_at hl 0 rfl) ?_
  have hPc := pp_l hP
  have hDc := pd_l hD
  have hFc := wfree hDc hS hA
  refine vx_calli (vx_runV (As := []) (rest := [.int 0, .ref o]) ⟨hx, hb, hml, hown, ht⟩ (c_X4_step l hl0 D cI cZ cS cJ s.heap.size G SA sf hsf pa no pts rf rg RL pk ps pt L p1 p2 p3 op off left wr rc th Z mm rows F Gn C hci hG hF hlen ) (xwV 0 ht kw2_201 kw2_198 kw1_1 kw2_199 kw2_200 rfl rfl (by decide +kernel) ⟨Nat.le_of_ble_eq_true rfl, Nat.le_of_ble_eq_true rfl⟩) ⟨PX.blind, va_recv hK hPc (ci := 4) (q0 := 0) rfl rfl, fun U hU hW => PX.mk hU hW hPc hK hDc hS hFc hTX⟩ rfl rfl hl.1 rfl (lv_room (Nat.le_of_ble_eq_true rfl)) dL_step_3 ⟨Nat.le_of_ble_eq_true rfl, Nat.le_of_ble_eq_true rfl⟩) hS (fun q _ h => hFc q h) hFc (fun q _ h => hFc q h) (fun E ce q9 u9 t9 H1 locs ht1 hvm _ hBX hz1 hk1 hS hce hcv hcl => ?_) (fun r3 u3 t3 H1 locs ht1 hvm w3 hB hz1 hk1 hS => ?_)
  · obtain ⟨hXE, hBX⟩ := hBX
    rw [ht1] at hBX
    have hP := pr_l hP hD hk1 hBX
    have hP : va_P D vwCl (cW cI cS G SA sf pa no pts rf rg (nI RL.length) pk ps pt L p1 p2 p3 (nI rows.length) op (nI F) (nI Gn) (cB C) off left wr rc th Z ++ [(o, .inl (cJ, 1, .inr (.inl fo)))]) H1 := hP
    obtain ⟨hE, hxc⟩ := hXE
    subst hE
    refine vx_catch (own := RLw) (name := cISE) hown (tableOf []) ⟨0, 8, 11, 13⟩ (tableOf []) (htab.trans rfl) (fun z hz => absurd hz List.not_mem_nil) (by decide) (by decide) (ht _ kw1_210) (ht _ kw1_221) hce hcv hcl ?_
    show W _ _ _ _ _ _ _ _ _ _ _ _ _ _ _ (F0 m 11 ls [.ref q9])
    refine lv_astore_n (lv' := [(2, .ref q9), (0, .ref (G 0)), (1, .ref o)]) hx hb dL_step_11 rfl hl (by decide) rfl (fun ls hl => ?_)
    refine lv_iconst (v := 1) hx hb dL_step_12 (by decide) ?_
    refine vx_ret ?_
    refine W.widen (k := 80) (n := 8400) (Nat.le_of_ble_eq_true rfl) (Nat.le_of_ble_eq_true rfl) ?_
    exact W.iret (v := 1) hx hb hr (fun t ht2 hW => ⟨⟨1, ((pa, no, pts, rf, rg, RL, pk, ps, pt, L, p1, p2, p3, op, off, left, wr, rc, th, Z, mm, rows, F, Gn, C), fo), rfl, Or.inr ⟨by decide, hxc, rfl, rfl⟩, ⟨by (try dsimp only); rw [ht2]; exact hP, by exact hD⟩⟩, hS.F ht2⟩) hS.2.2 dL_step_13
  try dsimp only at w3 hB
  obtain ⟨hP1, hD1⟩ := hB
  rw [ht1] at hP1
  obtain ⟨hP, hD⟩ := pj_l hP hD hk1 hFc hP1 hD1
  obtain ⟨pa9, no9, pts9, rf9, rg9, RL9, pk9, ps9, pt9, L9, p19, p29, p39, op9, off9, left9, wr9, rc9, th9, Z9, mm9, rows9, F9, Gn9, C9⟩ := u3
  generalize H1 = H at hP hS ⊢
  have hP : va_P D vwCl (cW cI cS G SA sf pa9 no9 pts9 rf9 rg9 (nI RL9.length) pk9 ps9 pt9 L9 p19 p29 p39 (nI rows9.length) op9 (nI F9) (nI Gn9) (cB C9) off9 left9 wr9 rc9 th9 Z9 ++ [(o, .inl (cJ, 1, .inr (.inl fo)))]) H := hP
  have hD : va_D A (cW cI cS G SA sf pa9 no9 pts9 rf9 rg9 (nI RL9.length) pk9 ps9 pt9 L9 p19 p29 p39 (nI rows9.length) op9 (nI F9) (nI Gn9) (cB C9) off9 left9 wr9 rc9 th9 Z9 ++ [(o, .inl (cJ, 1, .inr (.inl fo)))]) := hD
  refine lv_i2l (v := (r3 : Int32).toInt64) hx hb dL_step_6 rfl ?_
  refine ya_last hx hb hK hP hD hS 35 3 rfl rfl 0 (rfl) (by decide) (by decide) dL_step_7 (fun H locs hP hD hS => ?_)
  have hP : va_P D vwCl (cW cI cS G SA sf pa9 no9 pts9 rf9 rg9 (nI RL9.length) pk9 ps9 pt9 L9 p19 p29 p39 (nI rows9.length) op9 (nI F9) (nI Gn9) (cB C9) off9 left9 wr9 rc9 th9 Z9 ++ [(o, .inl (cJ, 1, .inr (.inl (vp_updL fo 0 ((r3 : Int32).toInt64)))))]) H := hP
  have hD : va_D A (cW cI cS G SA sf pa9 no9 pts9 rf9 rg9 (nI RL9.length) pk9 ps9 pt9 L9 p19 p29 p39 (nI rows9.length) op9 (nI F9) (nI Gn9) (cB C9) off9 left9 wr9 rc9 th9 Z9 ++ [(o, .inl (cJ, 1, .inr (.inl (vp_updL fo 0 ((r3 : Int32).toInt64)))))]) := hD
  refine lv_goto (tgt := 14) hx hb dL_step_8 (by decide) ?_
  refine lv_iconst (v := 0) hx hb dL_step_14 (by decide) ?_
  refine vx_ret ?_
  refine W.widen (k := 80) (n := 8400) (Nat.le_of_ble_eq_true rfl) (Nat.le_of_ble_eq_true rfl) ?_
  exact W.iret (v := 0) hx hb hr (fun t ht2 hW => ⟨⟨0, ((pa9, no9, pts9, rf9, rg9, RL9, pk9, ps9, pt9, L9, p19, p29, p39, op9, off9, left9, wr9, rc9, th9, Z9, mm9, rows9, F9, Gn9, C9), vp_updL fo 0 ((r3 : Int32).toInt64)), rfl, Or.inl ⟨rfl, r3, w3.1, updL0 fo _, w3.2.1, w3.2.2⟩, ⟨by (try dsimp only); rw [ht2]; exact hP, by exact hD⟩⟩, hS.F ht2⟩) hS.2.2 dL_step_15

set_option maxHeartbeats 4000000 in
set_option maxRecDepth 100000 in
theorem c_L_fail (l : Launch) (hl0 : l.stackTraces = false) (D : va_G) (cI cZ cS cJ : ClassId) (sz : Nat) (G SA : Nat → Nat) (sf : Nat → Option Nat) (hsf : ∀ n, n < 8 → sf n = some (SA n)) (pa no : Nat) (pts rf rg : Nat → Int32) (RL : List (Int32 × Int32)) (pk ps pt L : Nat) (p1 p2 p3 : Nat → Int32) (op off left wr rc th : Int32) (Z : Nat → ST) (mm : Nat → Nat) (rows : List (Int32 × Nat × Nat)) (F Gn : Nat) (C : Bool) (hci : CI mm RL pts rf rg rows L p1 p2 p3 F Gn Z) (n : Int32) : vx_Met l yL_fail (Cond.codeWith yL_fail cL_fail 3 (some .int) [(0, 5, 8, 29), (0, 5, 11, 13)] :: TB) ({ frames := 8, cells := 80, slots := 8400, locals := 131 } : Room) (va_Pc [.ref (G 0), .int n] (PZ D (KT cI cZ cS cJ) (cW cI cS G SA sf pa no pts rf rg (nI RL.length) pk ps pt L p1 p2 p3 (nI rows.length) op (nI F) (nI Gn) (cB C) off left wr rc th Z) sz)) (va_Qi (fun k (u : CT) => (k = 0 ∧ failF off left wr rc (stZ Z) mm op rows F Gn C n = (0, sgu u) ∧ CIu u ∧ thu u = th) ∨ (¬ k = 0 ∧ (failF off left wr rc (stZ Z) mm op rows F Gn C n).1 = k ∧ u = (pa, no, pts, rf, rg, RL, pk, ps, pt, L, p1, p2, p3, op, off, left, wr, rc, th, Z, mm, rows, F, Gn, C))) (fun (u : CT) t => va_P D vwCl (cWu cI cS G SA sf u) t.heap ∧ va_D (va_A (cW cI cS G SA sf pa no pts rf rg (nI RL.length) pk ps pt L p1 p2 p3 (nI rows.length) op (nI F) (nI Gn) (cB C) off left wr rc th Z) sz) (cWu cI cS G SA sf u)) (va_A (cW cI cS G SA sf pa no pts rf rg (nI RL.length) pk ps pt L p1 p2 p3 (nI rows.length) op (nI F) (nI Gn) (cB C) off left wr rc th Z) sz)) (vx_X (fun (_ : Unit) => False) (fun _ _ _ => False) (va_A (cW cI cS G SA sf pa no pts rf rg (nI RL.length) pk ps pt L p1 p2 p3 (nI rows.length) op (nI F) (nI Gn) (cB C) off left wr rc th Z) sz)) 80 8400 (va_A (cW cI cS G SA sf pa no pts rf rg (nI RL.length) pk ps pt L p1 p2 p3 (nI rows.length) op (nI F) (nI Gn) (cB C) off left wr rc th Z) sz) := by
  refine vx_ofWH (cc := cL_fail) (maxL := 3) (ret := (some .int)) (hh := [(0, 5, 8, 29), (0, 5, 11, 13)]) (by decide) rfl ?_
  intro p e s m args below meth c s₁ B hml hv
  obtain ⟨rfl, ⟨⟨hsz, hP, hK, hD0⟩, hTX⟩, hNC⟩ := hv
  have hx := B.exec
  have hb := B.bytes
  have hr := B.returns
  have hts := atoms_spec (ws := (Cond.codeWith yL_fail cL_fail 3 (some .int) [(0, 5, 8, 29), (0, 5, 11, 13)] :: TB)) B.pre
  have ht : ∀ w ∈ TB, w.before _ s = true := fun w h => hts w (List.mem_cons_of_mem _ h)
  have htab := vx_table (x := yL_fail) B (hts _ List.mem_cons_self)
  have hown : s.vm.findClass RLw = some m.cls := findClass_of_methodNamed B.named
  have hlocks := B.notSynchronized
  subst hsz
  have hD := hD0.self (sz := s.heap.size)
  generalize hAe : va_A (cW cI cS G SA sf pa no pts rf rg (nI RL.length) pk ps pt L p1 p2 p3 (nI rows.length) op (nI F) (nI Gn) (cB C) off left wr rc th Z) s.heap.size = A at hD hTX ⊢
  have hA : ∀ q : Nat, s.heap.size ≤ q → A q := fun q h => by rw [← hAe]; exact Or.inr h
  have hS : va_S A s.heap s.heap [] := va_S.rf
  have hP : va_P D vwCl (cW cI cS G SA sf pa no pts rf rg (nI RL.length) pk ps pt L p1 p2 p3 (nI rows.length) op (nI F) (nI Gn) (cB C) off left wr rc th Z) s.heap := hP
  have hl := lv_entry ([.ref (G 0), .int n]) (n := 3) (Nat.le_of_ble_eq_true rfl)
  rw [lg_entry_eq]
  generalize (lg_sl ([.ref (G 0), .int n]) ++ List.replicate (3 - (lg_sl ([.ref (G 0), .int n])).length) Slot.unset).toArray = ls at hl ⊢
  have hl : lv_has ls 3 [(0, .ref (G 0)), (1, .int n)] := hl
  refine lv_aload_n hx hb dL_fail_0 rfl (lv_at hl 0 rfl) ?_
  refine lv_iload_n hx hb dL_fail_1 rfl (lv_at hl 1 rfl) ?_
  have hPc := hP
  have hDc := hD
  have hFc := wfree hD hS hA
  refine vx_callv (vx_runV (As := [.int n]) (rest := []) ⟨hx, hb, hml, hown, ht⟩ (c_X4_fail l hl0 D cI cZ cS cJ s.heap.size G SA sf hsf pa no pts rf rg RL pk ps pt L p1 p2 p3 op off left wr rc th Z mm rows F Gn C hci n) (xwV 1 ht kw2_233 kw2_230 kw1_1 kw2_231 kw2_232 rfl rfl (by decide +kernel) ⟨Nat.le_of_ble_eq_true rfl, Nat.le_of_ble_eq_true rfl⟩) ⟨PX.blind, va_recv hK hPc (ci := 4) (q0 := 0) rfl rfl, fun U hU hW => PX.mk hU hW hPc hK hDc hS hFc hTX⟩ rfl rfl hl.1 rfl (lv_room (Nat.le_of_ble_eq_true rfl)) dL_fail_2 ⟨Nat.le_of_ble_eq_true rfl, Nat.le_of_ble_eq_true rfl⟩) hS (fun q _ h => hFc q h) hFc (fun q _ h => hFc q h) (fun E ce q9 u9 t9 H1 locs ht1 hvm _ hBX hz1 hk1 hS hce hcv hcl => ?_) (fun u2 t2 H1 locs ht1 hvm w2 hB hz1 hk1 hS => ?_)
  · obtain ⟨hXE, hBX⟩ := hBX
    rw [ht1] at hBX
    have hP := hBX
    have hP : va_P D vwCl (cW cI cS G SA sf pa no pts rf rg (nI RL.length) pk ps pt L p1 p2 p3 (nI rows.length) op (nI F) (nI Gn) (cB C) off left wr rc th Z) H1 := hP
    rcases hXE with ⟨hE, hxc⟩ | ⟨hE, hxc⟩
    · subst hE
      refine vx_catch (own := RLw) (name := cIAE) hown (tableOf []) ⟨0, 5, 8, 29⟩ (tableOf [(0, 5, 11, 13)]) (htab.trans rfl) (fun z hz => absurd hz List.not_mem_nil) (by decide) (by decide) (ht _ kw2_128) (ht _ kw2_154) hce hcv hcl ?_
      show W _ _ _ _ _ _ _ _ _ _ _ _ _ _ _ (F0 m 8 ls [.ref q9])
      refine lv_astore_n (lv' := [(2, .ref q9), (0, .ref (G 0)), (1, .int n)]) hx hb dL_fail_8 rfl hl (by decide) rfl (fun ls hl => ?_)
      refine lv_iconst (v := 1) hx hb dL_fail_9 (by decide) ?_
      refine vx_ret ?_
      refine W.widen (k := 80) (n := 8400) (Nat.le_of_ble_eq_true rfl) (Nat.le_of_ble_eq_true rfl) ?_
      exact W.iret (v := 1) hx hb hr (fun t ht2 hW => ⟨⟨1, (pa, no, pts, rf, rg, RL, pk, ps, pt, L, p1, p2, p3, op, off, left, wr, rc, th, Z, mm, rows, F, Gn, C), rfl, Or.inr ⟨by decide, hxc, rfl⟩, ⟨by (try dsimp only); rw [ht2]; exact hP, by exact hD⟩⟩, hS.F ht2⟩) hS.2.2 dL_fail_10
    · subst hE
      refine vx_catch (own := RLw) (name := cISE) hown (tableOf [(0, 5, 8, 29)]) ⟨0, 5, 11, 13⟩ (tableOf []) (htab.trans rfl) (by
          intro z hz
          simp only [tableOf, List.map_cons, List.map_nil, List.mem_cons, List.not_mem_nil, or_false] at hz
          subst hz
          exact Or.inr ⟨by decide, _, ht _ kw2_128, hNC.2.2.2⟩) (by decide) (by decide) (ht _ kw1_210) (ht _ kw1_221) hce hcv hcl ?_
      show W _ _ _ _ _ _ _ _ _ _ _ _ _ _ _ (F0 m 11 ls [.ref q9])
      refine lv_astore_n (lv' := [(2, .ref q9), (0, .ref (G 0)), (1, .int n)]) hx hb dL_fail_11 rfl hl (by decide) rfl (fun ls hl => ?_)
      refine lv_iconst (v := 2) hx hb dL_fail_12 (by decide) ?_
      refine vx_ret ?_
      refine W.widen (k := 80) (n := 8400) (Nat.le_of_ble_eq_true rfl) (Nat.le_of_ble_eq_true rfl) ?_
      exact W.iret (v := 2) hx hb hr (fun t ht2 hW => ⟨⟨2, (pa, no, pts, rf, rg, RL, pk, ps, pt, L, p1, p2, p3, op, off, left, wr, rc, th, Z, mm, rows, F, Gn, C), rfl, Or.inr ⟨by decide, hxc, rfl⟩, ⟨by (try dsimp only); rw [ht2]; exact hP, by exact hD⟩⟩, hS.F ht2⟩) hS.2.2 dL_fail_13
  try dsimp only at w2 hB
  obtain ⟨hP1, hD1⟩ := hB
  rw [ht1] at hP1
  have hP := hP1
  have hD := wjoinW hD1 hFc
  obtain ⟨pa9, no9, pts9, rf9, rg9, RL9, pk9, ps9, pt9, L9, p19, p29, p39, op9, off9, left9, wr9, rc9, th9, Z9, mm9, rows9, F9, Gn9, C9⟩ := u2
  generalize H1 = H at hP hS ⊢
  have hP : va_P D vwCl (cW cI cS G SA sf pa9 no9 pts9 rf9 rg9 (nI RL9.length) pk9 ps9 pt9 L9 p19 p29 p39 (nI rows9.length) op9 (nI F9) (nI Gn9) (cB C9) off9 left9 wr9 rc9 th9 Z9) H := hP
  have hD : va_D A (cW cI cS G SA sf pa9 no9 pts9 rf9 rg9 (nI RL9.length) pk9 ps9 pt9 L9 p19 p29 p39 (nI rows9.length) op9 (nI F9) (nI Gn9) (cB C9) off9 left9 wr9 rc9 th9 Z9) := hD
  refine lv_goto (tgt := 14) hx hb dL_fail_5 (by decide) ?_
  refine lv_iconst (v := 0) hx hb dL_fail_14 (by decide) ?_
  refine vx_ret ?_
  refine W.widen (k := 80) (n := 8400) (Nat.le_of_ble_eq_true rfl) (Nat.le_of_ble_eq_true rfl) ?_
  exact W.iret (v := 0) hx hb hr (fun t ht2 hW => ⟨⟨0, (pa9, no9, pts9, rf9, rg9, RL9, pk9, ps9, pt9, L9, p19, p29, p39, op9, off9, left9, wr9, rc9, th9, Z9, mm9, rows9, F9, Gn9, C9), rfl, Or.inl ⟨rfl, w2⟩, ⟨by (try dsimp only); rw [ht2]; exact hP, by exact hD⟩⟩, hS.F ht2⟩) hS.2.2 dL_fail_15

set_option maxHeartbeats 4000000 in
set_option maxRecDepth 100000 in
theorem c_L_recover (l : Launch) (hl0 : l.stackTraces = false) (D : va_G) (cI cZ cS cJ : ClassId) (sz : Nat) (G SA : Nat → Nat) (sf : Nat → Option Nat) (hsf : ∀ n, n < 8 → sf n = some (SA n)) (pa no : Nat) (pts rf rg : Nat → Int32) (RL : List (Int32 × Int32)) (pk ps pt L : Nat) (p1 p2 p3 : Nat → Int32) (op off left wr rc th : Int32) (Z : Nat → ST) (mm : Nat → Nat) (rows : List (Int32 × Nat × Nat)) (F Gn : Nat) (C : Bool) (hci : CI mm RL pts rf rg rows L p1 p2 p3 F Gn Z) (o : Nat) (fo : Nat → Int64) (hF : F ≤ rows.length)  : vx_Met l yL_recover (Cond.codeWith yL_recover cL_recover 3 (some .int) [(0, 8, 11, 13)] :: TB) ({ frames := 7, cells := 80, slots := 8400, locals := 110 } : Room) (va_Pc [.ref (G 0), .ref o] (PZ D (KT cI cZ cS cJ) (cW cI cS G SA sf pa no pts rf rg (nI RL.length) pk ps pt L p1 p2 p3 (nI rows.length) op (nI F) (nI Gn) (cB C) off left wr rc th Z ++ [(o, .inl (cJ, 1, .inr (.inl fo)))]) sz)) (va_Qi (fun k (u : CT × (Nat → Int64)) => (k = 0 ∧ ∃ r, recF off left wr rc (stZ Z) mm op rows F Gn C = (0, r, sgu u.1) ∧ u.2 0 = (r : Int32).toInt64 ∧ CIu u.1 ∧ thu u.1 = th) ∨ (¬ k = 0 ∧ (recF off left wr rc (stZ Z) mm op rows F Gn C).1 = k ∧ u.1 = (pa, no, pts, rf, rg, RL, pk, ps, pt, L, p1, p2, p3, op, off, left, wr, rc, th, Z, mm, rows, F, Gn, C) ∧ u.2 = fo)) (fun (u : CT × (Nat → Int64)) t => va_P D vwCl (cWu cI cS G SA sf u.1 ++ [(o, .inl (cJ, 1, .inr (.inl u.2)))]) t.heap ∧ va_D (va_A (cW cI cS G SA sf pa no pts rf rg (nI RL.length) pk ps pt L p1 p2 p3 (nI rows.length) op (nI F) (nI Gn) (cB C) off left wr rc th Z ++ [(o, .inl (cJ, 1, .inr (.inl fo)))]) sz) (cWu cI cS G SA sf u.1 ++ [(o, .inl (cJ, 1, .inr (.inl u.2)))])) (va_A (cW cI cS G SA sf pa no pts rf rg (nI RL.length) pk ps pt L p1 p2 p3 (nI rows.length) op (nI F) (nI Gn) (cB C) off left wr rc th Z ++ [(o, .inl (cJ, 1, .inr (.inl fo)))]) sz)) (vx_X (fun (_ : Unit) => False) (fun _ _ _ => False) (va_A (cW cI cS G SA sf pa no pts rf rg (nI RL.length) pk ps pt L p1 p2 p3 (nI rows.length) op (nI F) (nI Gn) (cB C) off left wr rc th Z ++ [(o, .inl (cJ, 1, .inr (.inl fo)))]) sz)) 80 8400 (va_A (cW cI cS G SA sf pa no pts rf rg (nI RL.length) pk ps pt L p1 p2 p3 (nI rows.length) op (nI F) (nI Gn) (cB C) off left wr rc th Z ++ [(o, .inl (cJ, 1, .inr (.inl fo)))]) sz) := by
  refine vx_ofWH (cc := cL_recover) (maxL := 3) (ret := (some .int)) (hh := [(0, 8, 11, 13)]) (by decide) rfl ?_
  intro p e s m args below meth c s₁ B hml hv
  obtain ⟨rfl, ⟨⟨hsz, hP, hK, hD0⟩, hTX⟩, hNC⟩ := hv
  have hx := B.exec
  have hb := B.bytes
  have hr := B.returns
  have hts := atoms_spec (ws := (Cond.codeWith yL_recover cL_recover 3 (some .int) [(0, 8, 11, 13)] :: TB)) B.pre
  have ht : ∀ w ∈ TB, w.before _ s = true := fun w h => hts w (List.mem_cons_of_mem _ h)
  have htab := vx_table (x := yL_recover) B (hts _ List.mem_cons_self)
  have hown : s.vm.findClass RLw = some m.cls := findClass_of_methodNamed B.named
  have hlocks := B.notSynchronized
  subst hsz
  have hD := hD0.self (sz := s.heap.size)
  generalize hAe : va_A (cW cI cS G SA sf pa no pts rf rg (nI RL.length) pk ps pt L p1 p2 p3 (nI rows.length) op (nI F) (nI Gn) (cB C) off left wr rc th Z ++ [(o, .inl (cJ, 1, .inr (.inl fo)))]) s.heap.size = A at hD hTX ⊢
  have hA : ∀ q : Nat, s.heap.size ≤ q → A q := fun q h => by rw [← hAe]; exact Or.inr h
  have hS : va_S A s.heap s.heap [] := va_S.rf
  have hP : va_P D vwCl (cW cI cS G SA sf pa no pts rf rg (nI RL.length) pk ps pt L p1 p2 p3 (nI rows.length) op (nI F) (nI Gn) (cB C) off left wr rc th Z ++ [(o, .inl (cJ, 1, .inr (.inl fo)))]) s.heap := hP
  have hl := lv_entry ([.ref (G 0), .ref o]) (n := 3) (Nat.le_of_ble_eq_true rfl)
  rw [lg_entry_eq]
  generalize (lg_sl ([.ref (G 0), .ref o]) ++ List.replicate (3 - (lg_sl ([.ref (G 0), .ref o])).length) Slot.unset).toArray = ls at hl ⊢
  have hl : lv_has ls 3 [(0, .ref (G 0)), (1, .ref o)] := hl
  refine lv_aload_n hx hb dL_recover_0 rfl (lv_at hl 1 rfl) ?_
  refine lv_iconst (v := 0) hx hb dL_recover_1 (by decide) ?_
  refine lv_aload_n hx hb dL_recover_2 rfl (lv_at hl 0 rfl) ?_
  have hPc := pp_l hP
  have hDc := pd_l hD
  have hFc := wfree hDc hS hA
  refine vx_calli (vx_runV (As := []) (rest := [.int 0, .ref o]) ⟨hx, hb, hml, hown, ht⟩ (c_X4_recover l hl0 D cI cZ cS cJ s.heap.size G SA sf hsf pa no pts rf rg RL pk ps pt L p1 p2 p3 op off left wr rc th Z mm rows F Gn C hci hF ) (xwV 0 ht kw3_1 kw2_238 kw1_1 kw2_239 kw3_0 rfl rfl (by decide +kernel) ⟨Nat.le_of_ble_eq_true rfl, Nat.le_of_ble_eq_true rfl⟩) ⟨PX.blind, va_recv hK hPc (ci := 4) (q0 := 0) rfl rfl, fun U hU hW => PX.mk hU hW hPc hK hDc hS hFc hTX⟩ rfl rfl hl.1 rfl (lv_room (Nat.le_of_ble_eq_true rfl)) dL_recover_3 ⟨Nat.le_of_ble_eq_true rfl, Nat.le_of_ble_eq_true rfl⟩) hS (fun q _ h => hFc q h) hFc (fun q _ h => hFc q h) (fun E ce q9 u9 t9 H1 locs ht1 hvm _ hBX hz1 hk1 hS hce hcv hcl => ?_) (fun r3 u3 t3 H1 locs ht1 hvm w3 hB hz1 hk1 hS => ?_)
  · obtain ⟨hXE, hBX⟩ := hBX
    rw [ht1] at hBX
    have hP := pr_l hP hD hk1 hBX
    have hP : va_P D vwCl (cW cI cS G SA sf pa no pts rf rg (nI RL.length) pk ps pt L p1 p2 p3 (nI rows.length) op (nI F) (nI Gn) (cB C) off left wr rc th Z ++ [(o, .inl (cJ, 1, .inr (.inl fo)))]) H1 := hP
    obtain ⟨hE, hxc⟩ := hXE
    subst hE
    refine vx_catch (own := RLw) (name := cISE) hown (tableOf []) ⟨0, 8, 11, 13⟩ (tableOf []) (htab.trans rfl) (fun z hz => absurd hz List.not_mem_nil) (by decide) (by decide) (ht _ kw1_210) (ht _ kw1_221) hce hcv hcl ?_
    show W _ _ _ _ _ _ _ _ _ _ _ _ _ _ _ (F0 m 11 ls [.ref q9])
    refine lv_astore_n (lv' := [(2, .ref q9), (0, .ref (G 0)), (1, .ref o)]) hx hb dL_recover_11 rfl hl (by decide) rfl (fun ls hl => ?_)
    refine lv_iconst (v := 1) hx hb dL_recover_12 (by decide) ?_
    refine vx_ret ?_
    refine W.widen (k := 80) (n := 8400) (Nat.le_of_ble_eq_true rfl) (Nat.le_of_ble_eq_true rfl) ?_
    exact W.iret (v := 1) hx hb hr (fun t ht2 hW => ⟨⟨1, ((pa, no, pts, rf, rg, RL, pk, ps, pt, L, p1, p2, p3, op, off, left, wr, rc, th, Z, mm, rows, F, Gn, C), fo), rfl, Or.inr ⟨by decide, hxc, rfl, rfl⟩, ⟨by (try dsimp only); rw [ht2]; exact hP, by exact hD⟩⟩, hS.F ht2⟩) hS.2.2 dL_recover_13
  try dsimp only at w3 hB
  obtain ⟨hP1, hD1⟩ := hB
  rw [ht1] at hP1
  obtain ⟨hP, hD⟩ := pj_l hP hD hk1 hFc hP1 hD1
  obtain ⟨pa9, no9, pts9, rf9, rg9, RL9, pk9, ps9, pt9, L9, p19, p29, p39, op9, off9, left9, wr9, rc9, th9, Z9, mm9, rows9, F9, Gn9, C9⟩ := u3
  generalize H1 = H at hP hS ⊢
  have hP : va_P D vwCl (cW cI cS G SA sf pa9 no9 pts9 rf9 rg9 (nI RL9.length) pk9 ps9 pt9 L9 p19 p29 p39 (nI rows9.length) op9 (nI F9) (nI Gn9) (cB C9) off9 left9 wr9 rc9 th9 Z9 ++ [(o, .inl (cJ, 1, .inr (.inl fo)))]) H := hP
  have hD : va_D A (cW cI cS G SA sf pa9 no9 pts9 rf9 rg9 (nI RL9.length) pk9 ps9 pt9 L9 p19 p29 p39 (nI rows9.length) op9 (nI F9) (nI Gn9) (cB C9) off9 left9 wr9 rc9 th9 Z9 ++ [(o, .inl (cJ, 1, .inr (.inl fo)))]) := hD
  refine lv_i2l (v := (r3 : Int32).toInt64) hx hb dL_recover_6 rfl ?_
  refine ya_last hx hb hK hP hD hS 35 3 rfl rfl 0 (rfl) (by decide) (by decide) dL_recover_7 (fun H locs hP hD hS => ?_)
  have hP : va_P D vwCl (cW cI cS G SA sf pa9 no9 pts9 rf9 rg9 (nI RL9.length) pk9 ps9 pt9 L9 p19 p29 p39 (nI rows9.length) op9 (nI F9) (nI Gn9) (cB C9) off9 left9 wr9 rc9 th9 Z9 ++ [(o, .inl (cJ, 1, .inr (.inl (vp_updL fo 0 ((r3 : Int32).toInt64)))))]) H := hP
  have hD : va_D A (cW cI cS G SA sf pa9 no9 pts9 rf9 rg9 (nI RL9.length) pk9 ps9 pt9 L9 p19 p29 p39 (nI rows9.length) op9 (nI F9) (nI Gn9) (cB C9) off9 left9 wr9 rc9 th9 Z9 ++ [(o, .inl (cJ, 1, .inr (.inl (vp_updL fo 0 ((r3 : Int32).toInt64)))))]) := hD
  refine lv_goto (tgt := 14) hx hb dL_recover_8 (by decide) ?_
  refine lv_iconst (v := 0) hx hb dL_recover_14 (by decide) ?_
  refine vx_ret ?_
  refine W.widen (k := 80) (n := 8400) (Nat.le_of_ble_eq_true rfl) (Nat.le_of_ble_eq_true rfl) ?_
  exact W.iret (v := 0) hx hb hr (fun t ht2 hW => ⟨⟨0, ((pa9, no9, pts9, rf9, rg9, RL9, pk9, ps9, pt9, L9, p19, p29, p39, op9, off9, left9, wr9, rc9, th9, Z9, mm9, rows9, F9, Gn9, C9), vp_updL fo 0 ((r3 : Int32).toInt64)), rfl, Or.inl ⟨rfl, r3, w3.1, updL0 fo _, w3.2.1, w3.2.2⟩, ⟨by (try dsimp only); rw [ht2]; exact hP, by exact hD⟩⟩, hS.F ht2⟩) hS.2.2 dL_recover_15

set_option maxHeartbeats 4000000 in
set_option maxRecDepth 100000 in
theorem c_L_owner (l : Launch) (hl0 : l.stackTraces = false) (D : va_G) (cI cZ cS cJ : ClassId) (sz : Nat) (G SA : Nat → Nat) (sf : Nat → Option Nat) (hsf : ∀ n, n < 8 → sf n = some (SA n)) (pa no : Nat) (pts rf rg : Nat → Int32) (RL : List (Int32 × Int32)) (pk ps pt L : Nat) (p1 p2 p3 : Nat → Int32) (op off left wr rc th : Int32) (Z : Nat → ST) (mm : Nat → Nat) (rows : List (Int32 × Nat × Nat)) (F Gn : Nat) (C : Bool) (hci : CI mm RL pts rf rg rows L p1 p2 p3 F Gn Z) (o : Nat) (fo : Nat → Int64) (key : Int32) : vx_Met l yL_owner (Cond.codeWith yL_owner cL_owner 4 (some .int) [(0, 9, 12, 13)] :: TB) ({ frames := 8, cells := 80, slots := 8400, locals := 131 } : Room) (va_Pc [.ref (G 0), .int key, .ref o] (PZ D (KT cI cZ cS cJ) (cW cI cS G SA sf pa no pts rf rg (nI RL.length) pk ps pt L p1 p2 p3 (nI rows.length) op (nI F) (nI Gn) (cB C) off left wr rc th Z ++ [(o, .inl (cJ, 1, .inr (.inl fo)))]) sz)) (va_Qi (fun k (u : Nat → Int64) => (k = 0 ∧ ∃ r, ownF off mm key = (0, r) ∧ u 0 = (r : Int32).toInt64) ∨ (¬ k = 0 ∧ (ownF off mm key).1 = k ∧ u = fo)) (fun (u : Nat → Int64) t => va_P D vwCl (cW cI cS G SA sf pa no pts rf rg (nI RL.length) pk ps pt L p1 p2 p3 (nI rows.length) op (nI F) (nI Gn) (cB C) off left wr rc th Z ++ [(o, .inl (cJ, 1, .inr (.inl u)))]) t.heap ∧ va_D (va_A (cW cI cS G SA sf pa no pts rf rg (nI RL.length) pk ps pt L p1 p2 p3 (nI rows.length) op (nI F) (nI Gn) (cB C) off left wr rc th Z ++ [(o, .inl (cJ, 1, .inr (.inl fo)))]) sz) (cW cI cS G SA sf pa no pts rf rg (nI RL.length) pk ps pt L p1 p2 p3 (nI rows.length) op (nI F) (nI Gn) (cB C) off left wr rc th Z ++ [(o, .inl (cJ, 1, .inr (.inl u)))])) (va_A (cW cI cS G SA sf pa no pts rf rg (nI RL.length) pk ps pt L p1 p2 p3 (nI rows.length) op (nI F) (nI Gn) (cB C) off left wr rc th Z ++ [(o, .inl (cJ, 1, .inr (.inl fo)))]) sz)) (vx_X (fun (_ : Unit) => False) (fun _ _ _ => False) (va_A (cW cI cS G SA sf pa no pts rf rg (nI RL.length) pk ps pt L p1 p2 p3 (nI rows.length) op (nI F) (nI Gn) (cB C) off left wr rc th Z ++ [(o, .inl (cJ, 1, .inr (.inl fo)))]) sz)) 80 8400 (va_A (cW cI cS G SA sf pa no pts rf rg (nI RL.length) pk ps pt L p1 p2 p3 (nI rows.length) op (nI F) (nI Gn) (cB C) off left wr rc th Z ++ [(o, .inl (cJ, 1, .inr (.inl fo)))]) sz) := by
  refine vx_ofWH (cc := cL_owner) (maxL := 4) (ret := (some .int)) (hh := [(0, 9, 12, 13)]) (by decide) rfl ?_
  intro p e s m args below meth c s₁ B hml hv
  obtain ⟨rfl, ⟨⟨hsz, hP, hK, hD0⟩, hTX⟩, hNC⟩ := hv
  have hx := B.exec
  have hb := B.bytes
  have hr := B.returns
  have hts := atoms_spec (ws := (Cond.codeWith yL_owner cL_owner 4 (some .int) [(0, 9, 12, 13)] :: TB)) B.pre
  have ht : ∀ w ∈ TB, w.before _ s = true := fun w h => hts w (List.mem_cons_of_mem _ h)
  have htab := vx_table (x := yL_owner) B (hts _ List.mem_cons_self)
  have hown : s.vm.findClass RLw = some m.cls := findClass_of_methodNamed B.named
  have hlocks := B.notSynchronized
  subst hsz
  have hD := hD0.self (sz := s.heap.size)
  generalize hAe : va_A (cW cI cS G SA sf pa no pts rf rg (nI RL.length) pk ps pt L p1 p2 p3 (nI rows.length) op (nI F) (nI Gn) (cB C) off left wr rc th Z ++ [(o, .inl (cJ, 1, .inr (.inl fo)))]) s.heap.size = A at hD hTX ⊢
  have hA : ∀ q : Nat, s.heap.size ≤ q → A q := fun q h => by rw [← hAe]; exact Or.inr h
  have hS : va_S A s.heap s.heap [] := va_S.rf
  have hP : va_P D vwCl (cW cI cS G SA sf pa no pts rf rg (nI RL.length) pk ps pt L p1 p2 p3 (nI rows.length) op (nI F) (nI Gn) (cB C) off left wr rc th Z ++ [(o, .inl (cJ, 1, .inr (.inl fo)))]) s.heap := hP
  have hl := lv_entry ([.ref (G 0), .int key, .ref o]) (n := 4) (Nat.le_of_ble_eq_true rfl)
  rw [lg_entry_eq]
  generalize (lg_sl ([.ref (G 0), .int key, .ref o]) ++ List.replicate (4 - (lg_sl ([.ref (G 0), .int key, .ref o])).length) Slot.unset).toArray = ls at hl ⊢
  have hl : lv_has ls 4 [(0, .ref (G 0)), (1, .int key), (2, .ref o)] := hl
  refine lv_aload_n hx hb dL_owner_0 rfl (lv_at hl 2 rfl) ?_
  refine lv_iconst (v := 0) hx hb dL_owner_1 (by decide) ?_
  refine lv_aload_n hx hb dL_owner_2 rfl (lv_at hl 0 rfl) ?_
  refine lv_iload_n hx hb dL_owner_3 rfl (lv_at hl 1 rfl) ?_
  have hPc := pp_l hP
  have hDc := pd_l hD
  have hFc := wfree hDc hS hA
  refine vx_calli (vx_runV (As := [.int key]) (rest := [.int 0, .ref o]) ⟨hx, hb, hml, hown, ht⟩ (c_X4_owner l hl0 D cI cZ cS cJ s.heap.size G SA sf hsf pa no pts rf rg RL pk ps pt L p1 p2 p3 op off left wr rc th Z mm rows F Gn C hci key) (xwV 1 ht kw3_10 kw3_7 kw1_1 kw3_8 kw3_9 rfl rfl (by decide +kernel) ⟨Nat.le_of_ble_eq_true rfl, Nat.le_of_ble_eq_true rfl⟩) ⟨PX.blind, va_recv hK hPc (ci := 4) (q0 := 0) rfl rfl, fun U hU hW => PX.mk hU hW hPc hK hDc hS hFc hTX⟩ rfl rfl hl.1 rfl (lv_room (Nat.le_of_ble_eq_true rfl)) dL_owner_4 ⟨Nat.le_of_ble_eq_true rfl, Nat.le_of_ble_eq_true rfl⟩) hS (fun q _ h => hFc q h) hFc (fun q _ h => hFc q h) (fun E ce q9 u9 t9 H1 locs ht1 hvm _ hBX hz1 hk1 hS hce hcv hcl => ?_) (fun r4 u4 t4 H1 locs ht1 hvm w4 hB hz1 hk1 hS => ?_)
  · obtain ⟨hXE, hBX⟩ := hBX
    rw [ht1] at hBX
    have hP := pr_l hP hD hk1 hBX
    have hP : va_P D vwCl (cW cI cS G SA sf pa no pts rf rg (nI RL.length) pk ps pt L p1 p2 p3 (nI rows.length) op (nI F) (nI Gn) (cB C) off left wr rc th Z ++ [(o, .inl (cJ, 1, .inr (.inl fo)))]) H1 := hP
    obtain ⟨hE, hxc⟩ := hXE
    subst hE
    refine vx_catch (own := RLw) (name := cISE) hown (tableOf []) ⟨0, 9, 12, 13⟩ (tableOf []) (htab.trans rfl) (fun z hz => absurd hz List.not_mem_nil) (by decide) (by decide) (ht _ kw1_210) (ht _ kw1_221) hce hcv hcl ?_
    show W _ _ _ _ _ _ _ _ _ _ _ _ _ _ _ (F0 m 12 ls [.ref q9])
    refine lv_astore_n (lv' := [(3, .ref q9), (0, .ref (G 0)), (1, .int key), (2, .ref o)]) hx hb dL_owner_12 rfl hl (by decide) rfl (fun ls hl => ?_)
    refine lv_iconst (v := 1) hx hb dL_owner_13 (by decide) ?_
    refine vx_ret ?_
    refine W.widen (k := 80) (n := 8400) (Nat.le_of_ble_eq_true rfl) (Nat.le_of_ble_eq_true rfl) ?_
    exact W.iret (v := 1) hx hb hr (fun t ht2 hW => ⟨⟨1, fo, rfl, Or.inr ⟨by decide, by rw [hxc], rfl⟩, ⟨by (try dsimp only); rw [ht2]; exact hP, by exact hD⟩⟩, hS.F ht2⟩) hS.2.2 dL_owner_14
  try dsimp only at w4 hB
  rw [ht1] at hB
  have hP := pr_l hP hD hk1 hB
  generalize H1 = H at hP hS ⊢
  have hP : va_P D vwCl (cW cI cS G SA sf pa no pts rf rg (nI RL.length) pk ps pt L p1 p2 p3 (nI rows.length) op (nI F) (nI Gn) (cB C) off left wr rc th Z ++ [(o, .inl (cJ, 1, .inr (.inl fo)))]) H := hP
  have hD : va_D A (cW cI cS G SA sf pa no pts rf rg (nI RL.length) pk ps pt L p1 p2 p3 (nI rows.length) op (nI F) (nI Gn) (cB C) off left wr rc th Z ++ [(o, .inl (cJ, 1, .inr (.inl fo)))]) := hD
  refine lv_i2l (v := (r4 : Int32).toInt64) hx hb dL_owner_7 rfl ?_
  refine ya_last hx hb hK hP hD hS 35 3 rfl rfl 0 (rfl) (by decide) (by decide) dL_owner_8 (fun H locs hP hD hS => ?_)
  have hP : va_P D vwCl (cW cI cS G SA sf pa no pts rf rg (nI RL.length) pk ps pt L p1 p2 p3 (nI rows.length) op (nI F) (nI Gn) (cB C) off left wr rc th Z ++ [(o, .inl (cJ, 1, .inr (.inl (vp_updL fo 0 ((r4 : Int32).toInt64)))))]) H := hP
  have hD : va_D A (cW cI cS G SA sf pa no pts rf rg (nI RL.length) pk ps pt L p1 p2 p3 (nI rows.length) op (nI F) (nI Gn) (cB C) off left wr rc th Z ++ [(o, .inl (cJ, 1, .inr (.inl (vp_updL fo 0 ((r4 : Int32).toInt64)))))]) := hD
  refine lv_goto (tgt := 15) hx hb dL_owner_9 (by decide) ?_
  refine lv_iconst (v := 0) hx hb dL_owner_15 (by decide) ?_
  refine vx_ret ?_
  refine W.widen (k := 80) (n := 8400) (Nat.le_of_ble_eq_true rfl) (Nat.le_of_ble_eq_true rfl) ?_
  exact W.iret (v := 0) hx hb hr (fun t ht2 hW => ⟨⟨0, vp_updL fo 0 ((r4 : Int32).toInt64), rfl, Or.inl ⟨rfl, r4, w4, if_pos rfl⟩, ⟨by (try dsimp only); rw [ht2]; exact hP, by exact hD⟩⟩, hS.F ht2⟩) hS.2.2 dL_owner_16

set_option maxHeartbeats 4000000 in
set_option maxRecDepth 100000 in
theorem c_L_home (l : Launch) (hl0 : l.stackTraces = false) (D : va_G) (cI cZ cS cJ : ClassId) (sz : Nat) (G SA : Nat → Nat) (sf : Nat → Option Nat) (hsf : ∀ n, n < 8 → sf n = some (SA n)) (pa no : Nat) (pts rf rg : Nat → Int32) (RL : List (Int32 × Int32)) (pk ps pt L : Nat) (p1 p2 p3 : Nat → Int32) (op off left wr rc th : Int32) (Z : Nat → ST) (mm : Nat → Nat) (rows : List (Int32 × Nat × Nat)) (F Gn : Nat) (C : Bool) (hci : CI mm RL pts rf rg rows L p1 p2 p3 F Gn Z) (o : Nat) (fo : Nat → Int64) (key : Int32) : vx_Met l yL_home (Cond.codeWith yL_home cL_home 4 (some .int) [(0, 9, 12, 13)] :: TB) ({ frames := 8, cells := 80, slots := 8400, locals := 131 } : Room) (va_Pc [.ref (G 0), .int key, .ref o] (PZ D (KT cI cZ cS cJ) (cW cI cS G SA sf pa no pts rf rg (nI RL.length) pk ps pt L p1 p2 p3 (nI rows.length) op (nI F) (nI Gn) (cB C) off left wr rc th Z ++ [(o, .inl (cJ, 1, .inr (.inl fo)))]) sz)) (va_Qi (fun k (u : Nat → Int64) => (k = 0 ∧ ∃ r, homF off mm rows F key = (0, r) ∧ u 0 = (r : Int32).toInt64) ∨ (¬ k = 0 ∧ (homF off mm rows F key).1 = k ∧ u = fo)) (fun (u : Nat → Int64) t => va_P D vwCl (cW cI cS G SA sf pa no pts rf rg (nI RL.length) pk ps pt L p1 p2 p3 (nI rows.length) op (nI F) (nI Gn) (cB C) off left wr rc th Z ++ [(o, .inl (cJ, 1, .inr (.inl u)))]) t.heap ∧ va_D (va_A (cW cI cS G SA sf pa no pts rf rg (nI RL.length) pk ps pt L p1 p2 p3 (nI rows.length) op (nI F) (nI Gn) (cB C) off left wr rc th Z ++ [(o, .inl (cJ, 1, .inr (.inl fo)))]) sz) (cW cI cS G SA sf pa no pts rf rg (nI RL.length) pk ps pt L p1 p2 p3 (nI rows.length) op (nI F) (nI Gn) (cB C) off left wr rc th Z ++ [(o, .inl (cJ, 1, .inr (.inl u)))])) (va_A (cW cI cS G SA sf pa no pts rf rg (nI RL.length) pk ps pt L p1 p2 p3 (nI rows.length) op (nI F) (nI Gn) (cB C) off left wr rc th Z ++ [(o, .inl (cJ, 1, .inr (.inl fo)))]) sz)) (vx_X (fun (_ : Unit) => False) (fun _ _ _ => False) (va_A (cW cI cS G SA sf pa no pts rf rg (nI RL.length) pk ps pt L p1 p2 p3 (nI rows.length) op (nI F) (nI Gn) (cB C) off left wr rc th Z ++ [(o, .inl (cJ, 1, .inr (.inl fo)))]) sz)) 80 8400 (va_A (cW cI cS G SA sf pa no pts rf rg (nI RL.length) pk ps pt L p1 p2 p3 (nI rows.length) op (nI F) (nI Gn) (cB C) off left wr rc th Z ++ [(o, .inl (cJ, 1, .inr (.inl fo)))]) sz) := by
  refine vx_ofWH (cc := cL_home) (maxL := 4) (ret := (some .int)) (hh := [(0, 9, 12, 13)]) (by decide) rfl ?_
  intro p e s m args below meth c s₁ B hml hv
  obtain ⟨rfl, ⟨⟨hsz, hP, hK, hD0⟩, hTX⟩, hNC⟩ := hv
  have hx := B.exec
  have hb := B.bytes
  have hr := B.returns
  have hts := atoms_spec (ws := (Cond.codeWith yL_home cL_home 4 (some .int) [(0, 9, 12, 13)] :: TB)) B.pre
  have ht : ∀ w ∈ TB, w.before _ s = true := fun w h => hts w (List.mem_cons_of_mem _ h)
  have htab := vx_table (x := yL_home) B (hts _ List.mem_cons_self)
  have hown : s.vm.findClass RLw = some m.cls := findClass_of_methodNamed B.named
  have hlocks := B.notSynchronized
  subst hsz
  have hD := hD0.self (sz := s.heap.size)
  generalize hAe : va_A (cW cI cS G SA sf pa no pts rf rg (nI RL.length) pk ps pt L p1 p2 p3 (nI rows.length) op (nI F) (nI Gn) (cB C) off left wr rc th Z ++ [(o, .inl (cJ, 1, .inr (.inl fo)))]) s.heap.size = A at hD hTX ⊢
  have hA : ∀ q : Nat, s.heap.size ≤ q → A q := fun q h => by rw [← hAe]; exact Or.inr h
  have hS : va_S A s.heap s.heap [] := va_S.rf
  have hP : va_P D vwCl (cW cI cS G SA sf pa no pts rf rg (nI RL.length) pk ps pt L p1 p2 p3 (nI rows.length) op (nI F) (nI Gn) (cB C) off left wr rc th Z ++ [(o, .inl (cJ, 1, .inr (.inl fo)))]) s.heap := hP
  have hl := lv_entry ([.ref (G 0), .int key, .ref o]) (n := 4) (Nat.le_of_ble_eq_true rfl)
  rw [lg_entry_eq]
  generalize (lg_sl ([.ref (G 0), .int key, .ref o]) ++ List.replicate (4 - (lg_sl ([.ref (G 0), .int key, .ref o])).length) Slot.unset).toArray = ls at hl ⊢
  have hl : lv_has ls 4 [(0, .ref (G 0)), (1, .int key), (2, .ref o)] := hl
  refine lv_aload_n hx hb dL_home_0 rfl (lv_at hl 2 rfl) ?_
  refine lv_iconst (v := 0) hx hb dL_home_1 (by decide) ?_
  refine lv_aload_n hx hb dL_home_2 rfl (lv_at hl 0 rfl) ?_
  refine lv_iload_n hx hb dL_home_3 rfl (lv_at hl 1 rfl) ?_
  have hPc := pp_l hP
  have hDc := pd_l hD
  have hFc := wfree hDc hS hA
  refine vx_calli (vx_runV (As := [.int key]) (rest := [.int 0, .ref o]) ⟨hx, hb, hml, hown, ht⟩ (c_X4_home l hl0 D cI cZ cS cJ s.heap.size G SA sf hsf pa no pts rf rg RL pk ps pt L p1 p2 p3 op off left wr rc th Z mm rows F Gn C hci key) (xwV 1 ht kw3_17 kw3_14 kw1_1 kw3_15 kw3_16 rfl rfl (by decide +kernel) ⟨Nat.le_of_ble_eq_true rfl, Nat.le_of_ble_eq_true rfl⟩) ⟨PX.blind, va_recv hK hPc (ci := 4) (q0 := 0) rfl rfl, fun U hU hW => PX.mk hU hW hPc hK hDc hS hFc hTX⟩ rfl rfl hl.1 rfl (lv_room (Nat.le_of_ble_eq_true rfl)) dL_home_4 ⟨Nat.le_of_ble_eq_true rfl, Nat.le_of_ble_eq_true rfl⟩) hS (fun q _ h => hFc q h) hFc (fun q _ h => hFc q h) (fun E ce q9 u9 t9 H1 locs ht1 hvm _ hBX hz1 hk1 hS hce hcv hcl => ?_) (fun r4 u4 t4 H1 locs ht1 hvm w4 hB hz1 hk1 hS => ?_)
  · obtain ⟨hXE, hBX⟩ := hBX
    rw [ht1] at hBX
    have hP := pr_l hP hD hk1 hBX
    have hP : va_P D vwCl (cW cI cS G SA sf pa no pts rf rg (nI RL.length) pk ps pt L p1 p2 p3 (nI rows.length) op (nI F) (nI Gn) (cB C) off left wr rc th Z ++ [(o, .inl (cJ, 1, .inr (.inl fo)))]) H1 := hP
    obtain ⟨hE, hxc⟩ := hXE
    subst hE
    refine vx_catch (own := RLw) (name := cISE) hown (tableOf []) ⟨0, 9, 12, 13⟩ (tableOf []) (htab.trans rfl) (fun z hz => absurd hz List.not_mem_nil) (by decide) (by decide) (ht _ kw1_210) (ht _ kw1_221) hce hcv hcl ?_
    show W _ _ _ _ _ _ _ _ _ _ _ _ _ _ _ (F0 m 12 ls [.ref q9])
    refine lv_astore_n (lv' := [(3, .ref q9), (0, .ref (G 0)), (1, .int key), (2, .ref o)]) hx hb dL_home_12 rfl hl (by decide) rfl (fun ls hl => ?_)
    refine lv_iconst (v := 1) hx hb dL_home_13 (by decide) ?_
    refine vx_ret ?_
    refine W.widen (k := 80) (n := 8400) (Nat.le_of_ble_eq_true rfl) (Nat.le_of_ble_eq_true rfl) ?_
    exact W.iret (v := 1) hx hb hr (fun t ht2 hW => ⟨⟨1, fo, rfl, Or.inr ⟨by decide, by rw [hxc], rfl⟩, ⟨by (try dsimp only); rw [ht2]; exact hP, by exact hD⟩⟩, hS.F ht2⟩) hS.2.2 dL_home_14
  try dsimp only at w4 hB
  rw [ht1] at hB
  have hP := pr_l hP hD hk1 hB
  generalize H1 = H at hP hS ⊢
  have hP : va_P D vwCl (cW cI cS G SA sf pa no pts rf rg (nI RL.length) pk ps pt L p1 p2 p3 (nI rows.length) op (nI F) (nI Gn) (cB C) off left wr rc th Z ++ [(o, .inl (cJ, 1, .inr (.inl fo)))]) H := hP
  have hD : va_D A (cW cI cS G SA sf pa no pts rf rg (nI RL.length) pk ps pt L p1 p2 p3 (nI rows.length) op (nI F) (nI Gn) (cB C) off left wr rc th Z ++ [(o, .inl (cJ, 1, .inr (.inl fo)))]) := hD
  refine lv_i2l (v := (r4 : Int32).toInt64) hx hb dL_home_7 rfl ?_
  refine ya_last hx hb hK hP hD hS 35 3 rfl rfl 0 (rfl) (by decide) (by decide) dL_home_8 (fun H locs hP hD hS => ?_)
  have hP : va_P D vwCl (cW cI cS G SA sf pa no pts rf rg (nI RL.length) pk ps pt L p1 p2 p3 (nI rows.length) op (nI F) (nI Gn) (cB C) off left wr rc th Z ++ [(o, .inl (cJ, 1, .inr (.inl (vp_updL fo 0 ((r4 : Int32).toInt64)))))]) H := hP
  have hD : va_D A (cW cI cS G SA sf pa no pts rf rg (nI RL.length) pk ps pt L p1 p2 p3 (nI rows.length) op (nI F) (nI Gn) (cB C) off left wr rc th Z ++ [(o, .inl (cJ, 1, .inr (.inl (vp_updL fo 0 ((r4 : Int32).toInt64)))))]) := hD
  refine lv_goto (tgt := 15) hx hb dL_home_9 (by decide) ?_
  refine lv_iconst (v := 0) hx hb dL_home_15 (by decide) ?_
  refine vx_ret ?_
  refine W.widen (k := 80) (n := 8400) (Nat.le_of_ble_eq_true rfl) (Nat.le_of_ble_eq_true rfl) ?_
  exact W.iret (v := 0) hx hb hr (fun t ht2 hW => ⟨⟨0, vp_updL fo 0 ((r4 : Int32).toInt64), rfl, Or.inl ⟨rfl, r4, w4, if_pos rfl⟩, ⟨by (try dsimp only); rw [ht2]; exact hP, by exact hD⟩⟩, hS.F ht2⟩) hS.2.2 dL_home_16

set_option maxHeartbeats 4000000 in
set_option maxRecDepth 100000 in
theorem c_L_state (l : Launch) (hl0 : l.stackTraces = false) (D : va_G) (cI cZ cS cJ : ClassId) (sz : Nat) (G SA : Nat → Nat) (sf : Nat → Option Nat) (hsf : ∀ n, n < 8 → sf n = some (SA n)) (pa no : Nat) (pts rf rg : Nat → Int32) (RL : List (Int32 × Int32)) (pk ps pt L : Nat) (p1 p2 p3 : Nat → Int32) (op off left wr rc th : Int32) (Z : Nat → ST) (mm : Nat → Nat) (rows : List (Int32 × Nat × Nat)) (F Gn : Nat) (C : Bool) (hci : CI mm RL pts rf rg rows L p1 p2 p3 F Gn Z) (o : Nat) (fo : Nat → Int64) (key : Int32) : vx_Met l yL_state (Cond.codeWith yL_state cL_state 4 (some .int) [(0, 9, 12, 13)] :: TB) ({ frames := 8, cells := 80, slots := 8400, locals := 131 } : Room) (va_Pc [.ref (G 0), .int key, .ref o] (PZ D (KT cI cZ cS cJ) (cW cI cS G SA sf pa no pts rf rg (nI RL.length) pk ps pt L p1 p2 p3 (nI rows.length) op (nI F) (nI Gn) (cB C) off left wr rc th Z ++ [(o, .inl (cJ, 1, .inr (.inl fo)))]) sz)) (va_Qi (fun k (u : Nat → Int64) => (k = 0 ∧ ∃ r, staF off rows F Gn C key = (0, r) ∧ u 0 = (r : Int32).toInt64) ∨ (¬ k = 0 ∧ (staF off rows F Gn C key).1 = k ∧ u = fo)) (fun (u : Nat → Int64) t => va_P D vwCl (cW cI cS G SA sf pa no pts rf rg (nI RL.length) pk ps pt L p1 p2 p3 (nI rows.length) op (nI F) (nI Gn) (cB C) off left wr rc th Z ++ [(o, .inl (cJ, 1, .inr (.inl u)))]) t.heap ∧ va_D (va_A (cW cI cS G SA sf pa no pts rf rg (nI RL.length) pk ps pt L p1 p2 p3 (nI rows.length) op (nI F) (nI Gn) (cB C) off left wr rc th Z ++ [(o, .inl (cJ, 1, .inr (.inl fo)))]) sz) (cW cI cS G SA sf pa no pts rf rg (nI RL.length) pk ps pt L p1 p2 p3 (nI rows.length) op (nI F) (nI Gn) (cB C) off left wr rc th Z ++ [(o, .inl (cJ, 1, .inr (.inl u)))])) (va_A (cW cI cS G SA sf pa no pts rf rg (nI RL.length) pk ps pt L p1 p2 p3 (nI rows.length) op (nI F) (nI Gn) (cB C) off left wr rc th Z ++ [(o, .inl (cJ, 1, .inr (.inl fo)))]) sz)) (vx_X (fun (_ : Unit) => False) (fun _ _ _ => False) (va_A (cW cI cS G SA sf pa no pts rf rg (nI RL.length) pk ps pt L p1 p2 p3 (nI rows.length) op (nI F) (nI Gn) (cB C) off left wr rc th Z ++ [(o, .inl (cJ, 1, .inr (.inl fo)))]) sz)) 80 8400 (va_A (cW cI cS G SA sf pa no pts rf rg (nI RL.length) pk ps pt L p1 p2 p3 (nI rows.length) op (nI F) (nI Gn) (cB C) off left wr rc th Z ++ [(o, .inl (cJ, 1, .inr (.inl fo)))]) sz) := by
  refine vx_ofWH (cc := cL_state) (maxL := 4) (ret := (some .int)) (hh := [(0, 9, 12, 13)]) (by decide) rfl ?_
  intro p e s m args below meth c s₁ B hml hv
  obtain ⟨rfl, ⟨⟨hsz, hP, hK, hD0⟩, hTX⟩, hNC⟩ := hv
  have hx := B.exec
  have hb := B.bytes
  have hr := B.returns
  have hts := atoms_spec (ws := (Cond.codeWith yL_state cL_state 4 (some .int) [(0, 9, 12, 13)] :: TB)) B.pre
  have ht : ∀ w ∈ TB, w.before _ s = true := fun w h => hts w (List.mem_cons_of_mem _ h)
  have htab := vx_table (x := yL_state) B (hts _ List.mem_cons_self)
  have hown : s.vm.findClass RLw = some m.cls := findClass_of_methodNamed B.named
  have hlocks := B.notSynchronized
  subst hsz
  have hD := hD0.self (sz := s.heap.size)
  generalize hAe : va_A (cW cI cS G SA sf pa no pts rf rg (nI RL.length) pk ps pt L p1 p2 p3 (nI rows.length) op (nI F) (nI Gn) (cB C) off left wr rc th Z ++ [(o, .inl (cJ, 1, .inr (.inl fo)))]) s.heap.size = A at hD hTX ⊢
  have hA : ∀ q : Nat, s.heap.size ≤ q → A q := fun q h => by rw [← hAe]; exact Or.inr h
  have hS : va_S A s.heap s.heap [] := va_S.rf
  have hP : va_P D vwCl (cW cI cS G SA sf pa no pts rf rg (nI RL.length) pk ps pt L p1 p2 p3 (nI rows.length) op (nI F) (nI Gn) (cB C) off left wr rc th Z ++ [(o, .inl (cJ, 1, .inr (.inl fo)))]) s.heap := hP
  have hl := lv_entry ([.ref (G 0), .int key, .ref o]) (n := 4) (Nat.le_of_ble_eq_true rfl)
  rw [lg_entry_eq]
  generalize (lg_sl ([.ref (G 0), .int key, .ref o]) ++ List.replicate (4 - (lg_sl ([.ref (G 0), .int key, .ref o])).length) Slot.unset).toArray = ls at hl ⊢
  have hl : lv_has ls 4 [(0, .ref (G 0)), (1, .int key), (2, .ref o)] := hl
  refine lv_aload_n hx hb dL_state_0 rfl (lv_at hl 2 rfl) ?_
  refine lv_iconst (v := 0) hx hb dL_state_1 (by decide) ?_
  refine lv_aload_n hx hb dL_state_2 rfl (lv_at hl 0 rfl) ?_
  refine lv_iload_n hx hb dL_state_3 rfl (lv_at hl 1 rfl) ?_
  have hPc := pp_l hP
  have hDc := pd_l hD
  have hFc := wfree hDc hS hA
  refine vx_calli (vx_runV (As := [.int key]) (rest := [.int 0, .ref o]) ⟨hx, hb, hml, hown, ht⟩ (c_X4_state l hl0 D cI cZ cS cJ s.heap.size G SA sf hsf pa no pts rf rg RL pk ps pt L p1 p2 p3 op off left wr rc th Z mm rows F Gn C hci key) (xwV 1 ht kw3_24 kw3_21 kw1_1 kw3_22 kw3_23 rfl rfl (by decide +kernel) ⟨Nat.le_of_ble_eq_true rfl, Nat.le_of_ble_eq_true rfl⟩) ⟨PX.blind, va_recv hK hPc (ci := 4) (q0 := 0) rfl rfl, fun U hU hW => PX.mk hU hW hPc hK hDc hS hFc hTX⟩ rfl rfl hl.1 rfl (lv_room (Nat.le_of_ble_eq_true rfl)) dL_state_4 ⟨Nat.le_of_ble_eq_true rfl, Nat.le_of_ble_eq_true rfl⟩) hS (fun q _ h => hFc q h) hFc (fun q _ h => hFc q h) (fun E ce q9 u9 t9 H1 locs ht1 hvm _ hBX hz1 hk1 hS hce hcv hcl => ?_) (fun r4 u4 t4 H1 locs ht1 hvm w4 hB hz1 hk1 hS => ?_)
  · obtain ⟨hXE, hBX⟩ := hBX
    rw [ht1] at hBX
    have hP := pr_l hP hD hk1 hBX
    have hP : va_P D vwCl (cW cI cS G SA sf pa no pts rf rg (nI RL.length) pk ps pt L p1 p2 p3 (nI rows.length) op (nI F) (nI Gn) (cB C) off left wr rc th Z ++ [(o, .inl (cJ, 1, .inr (.inl fo)))]) H1 := hP
    obtain ⟨hE, hxc⟩ := hXE
    subst hE
    refine vx_catch (own := RLw) (name := cISE) hown (tableOf []) ⟨0, 9, 12, 13⟩ (tableOf []) (htab.trans rfl) (fun z hz => absurd hz List.not_mem_nil) (by decide) (by decide) (ht _ kw1_210) (ht _ kw1_221) hce hcv hcl ?_
    show W _ _ _ _ _ _ _ _ _ _ _ _ _ _ _ (F0 m 12 ls [.ref q9])
    refine lv_astore_n (lv' := [(3, .ref q9), (0, .ref (G 0)), (1, .int key), (2, .ref o)]) hx hb dL_state_12 rfl hl (by decide) rfl (fun ls hl => ?_)
    refine lv_iconst (v := 1) hx hb dL_state_13 (by decide) ?_
    refine vx_ret ?_
    refine W.widen (k := 80) (n := 8400) (Nat.le_of_ble_eq_true rfl) (Nat.le_of_ble_eq_true rfl) ?_
    exact W.iret (v := 1) hx hb hr (fun t ht2 hW => ⟨⟨1, fo, rfl, Or.inr ⟨by decide, by rw [hxc], rfl⟩, ⟨by (try dsimp only); rw [ht2]; exact hP, by exact hD⟩⟩, hS.F ht2⟩) hS.2.2 dL_state_14
  try dsimp only at w4 hB
  rw [ht1] at hB
  have hP := pr_l hP hD hk1 hB
  generalize H1 = H at hP hS ⊢
  have hP : va_P D vwCl (cW cI cS G SA sf pa no pts rf rg (nI RL.length) pk ps pt L p1 p2 p3 (nI rows.length) op (nI F) (nI Gn) (cB C) off left wr rc th Z ++ [(o, .inl (cJ, 1, .inr (.inl fo)))]) H := hP
  have hD : va_D A (cW cI cS G SA sf pa no pts rf rg (nI RL.length) pk ps pt L p1 p2 p3 (nI rows.length) op (nI F) (nI Gn) (cB C) off left wr rc th Z ++ [(o, .inl (cJ, 1, .inr (.inl fo)))]) := hD
  refine lv_i2l (v := (r4 : Int32).toInt64) hx hb dL_state_7 rfl ?_
  refine ya_last hx hb hK hP hD hS 35 3 rfl rfl 0 (rfl) (by decide) (by decide) dL_state_8 (fun H locs hP hD hS => ?_)
  have hP : va_P D vwCl (cW cI cS G SA sf pa no pts rf rg (nI RL.length) pk ps pt L p1 p2 p3 (nI rows.length) op (nI F) (nI Gn) (cB C) off left wr rc th Z ++ [(o, .inl (cJ, 1, .inr (.inl (vp_updL fo 0 ((r4 : Int32).toInt64)))))]) H := hP
  have hD : va_D A (cW cI cS G SA sf pa no pts rf rg (nI RL.length) pk ps pt L p1 p2 p3 (nI rows.length) op (nI F) (nI Gn) (cB C) off left wr rc th Z ++ [(o, .inl (cJ, 1, .inr (.inl (vp_updL fo 0 ((r4 : Int32).toInt64)))))]) := hD
  refine lv_goto (tgt := 15) hx hb dL_state_9 (by decide) ?_
  refine lv_iconst (v := 0) hx hb dL_state_15 (by decide) ?_
  refine vx_ret ?_
  refine W.widen (k := 80) (n := 8400) (Nat.le_of_ble_eq_true rfl) (Nat.le_of_ble_eq_true rfl) ?_
  exact W.iret (v := 0) hx hb hr (fun t ht2 hW => ⟨⟨0, vp_updL fo 0 ((r4 : Int32).toInt64), rfl, Or.inl ⟨rfl, r4, w4, if_pos rfl⟩, ⟨by (try dsimp only); rw [ht2]; exact hP, by exact hD⟩⟩, hS.F ht2⟩) hS.2.2 dL_state_16

set_option maxHeartbeats 4000000 in
set_option maxRecDepth 100000 in
theorem c_L_holds (l : Launch) (hl0 : l.stackTraces = false) (D : va_G) (cI cZ cS cJ : ClassId) (sz : Nat) (G SA : Nat → Nat) (sf : Nat → Option Nat) (hsf : ∀ n, n < 8 → sf n = some (SA n)) (pa no : Nat) (pts rf rg : Nat → Int32) (RL : List (Int32 × Int32)) (pk ps pt L : Nat) (p1 p2 p3 : Nat → Int32) (op off left wr rc th : Int32) (Z : Nat → ST) (mm : Nat → Nat) (rows : List (Int32 × Nat × Nat)) (F Gn : Nat) (C : Bool) (hci : CI mm RL pts rf rg rows L p1 p2 p3 F Gn Z) (o : Nat) (fo : Nat → Int64) (nd key : Int32) : vx_Met l yL_holds (Cond.codeWith yL_holds cL_holds 5 (some .int) [(0, 17, 20, 27)] :: TB) ({ frames := 8, cells := 80, slots := 8400, locals := 132 } : Room) (va_Pc [.ref (G 0), .int nd, .int key, .ref o] (PZ D (KT cI cZ cS cJ) (cW cI cS G SA sf pa no pts rf rg (nI RL.length) pk ps pt L p1 p2 p3 (nI rows.length) op (nI F) (nI Gn) (cB C) off left wr rc th Z ++ [(o, .inl (cJ, 1, .inr (.inl fo)))]) sz)) (va_Qi (fun k (u : Nat → Int64) => (k = 0 ∧ ∃ r, hldF (stZ Z) nd key = (0, r) ∧ u 0 = (r : Int32).toInt64) ∨ (¬ k = 0 ∧ (hldF (stZ Z) nd key).1 = k ∧ u = fo)) (fun (u : Nat → Int64) t => va_P D vwCl (cW cI cS G SA sf pa no pts rf rg (nI RL.length) pk ps pt L p1 p2 p3 (nI rows.length) op (nI F) (nI Gn) (cB C) off left wr rc th Z ++ [(o, .inl (cJ, 1, .inr (.inl u)))]) t.heap ∧ va_D (va_A (cW cI cS G SA sf pa no pts rf rg (nI RL.length) pk ps pt L p1 p2 p3 (nI rows.length) op (nI F) (nI Gn) (cB C) off left wr rc th Z ++ [(o, .inl (cJ, 1, .inr (.inl fo)))]) sz) (cW cI cS G SA sf pa no pts rf rg (nI RL.length) pk ps pt L p1 p2 p3 (nI rows.length) op (nI F) (nI Gn) (cB C) off left wr rc th Z ++ [(o, .inl (cJ, 1, .inr (.inl u)))])) (va_A (cW cI cS G SA sf pa no pts rf rg (nI RL.length) pk ps pt L p1 p2 p3 (nI rows.length) op (nI F) (nI Gn) (cB C) off left wr rc th Z ++ [(o, .inl (cJ, 1, .inr (.inl fo)))]) sz)) (vx_X (fun (_ : Unit) => False) (fun _ _ _ => False) (va_A (cW cI cS G SA sf pa no pts rf rg (nI RL.length) pk ps pt L p1 p2 p3 (nI rows.length) op (nI F) (nI Gn) (cB C) off left wr rc th Z ++ [(o, .inl (cJ, 1, .inr (.inl fo)))]) sz)) 80 8400 (va_A (cW cI cS G SA sf pa no pts rf rg (nI RL.length) pk ps pt L p1 p2 p3 (nI rows.length) op (nI F) (nI Gn) (cB C) off left wr rc th Z ++ [(o, .inl (cJ, 1, .inr (.inl fo)))]) sz) := by
  refine vx_ofWH (cc := cL_holds) (maxL := 5) (ret := (some .int)) (hh := [(0, 17, 20, 27)]) (by decide) rfl ?_
  intro p e s m args below meth c s₁ B hml hv
  obtain ⟨rfl, ⟨⟨hsz, hP, hK, hD0⟩, hTX⟩, hNC⟩ := hv
  have hx := B.exec
  have hb := B.bytes
  have hr := B.returns
  have hts := atoms_spec (ws := (Cond.codeWith yL_holds cL_holds 5 (some .int) [(0, 17, 20, 27)] :: TB)) B.pre
  have ht : ∀ w ∈ TB, w.before _ s = true := fun w h => hts w (List.mem_cons_of_mem _ h)
  have htab := vx_table (x := yL_holds) B (hts _ List.mem_cons_self)
  have hown : s.vm.findClass RLw = some m.cls := findClass_of_methodNamed B.named
  have hlocks := B.notSynchronized
  subst hsz
  have hD := hD0.self (sz := s.heap.size)
  generalize hAe : va_A (cW cI cS G SA sf pa no pts rf rg (nI RL.length) pk ps pt L p1 p2 p3 (nI rows.length) op (nI F) (nI Gn) (cB C) off left wr rc th Z ++ [(o, .inl (cJ, 1, .inr (.inl fo)))]) s.heap.size = A at hD hTX ⊢
  have hA : ∀ q : Nat, s.heap.size ≤ q → A q := fun q h => by rw [← hAe]; exact Or.inr h
  have hS : va_S A s.heap s.heap [] := va_S.rf
  have hP : va_P D vwCl (cW cI cS G SA sf pa no pts rf rg (nI RL.length) pk ps pt L p1 p2 p3 (nI rows.length) op (nI F) (nI Gn) (cB C) off left wr rc th Z ++ [(o, .inl (cJ, 1, .inr (.inl fo)))]) s.heap := hP
  have hl := lv_entry ([.ref (G 0), .int nd, .int key, .ref o]) (n := 5) (Nat.le_of_ble_eq_true rfl)
  rw [lg_entry_eq]
  generalize (lg_sl ([.ref (G 0), .int nd, .int key, .ref o]) ++ List.replicate (5 - (lg_sl ([.ref (G 0), .int nd, .int key, .ref o])).length) Slot.unset).toArray = ls at hl ⊢
  have hl : lv_has ls 5 [(0, .ref (G 0)), (1, .int nd), (2, .int key), (3, .ref o)] := hl
  refine lv_aload_n hx hb dL_holds_0 rfl (lv_at hl 3 rfl) ?_
  refine lv_iconst (v := 0) hx hb dL_holds_1 (by decide) ?_
  refine lv_aload_n hx hb dL_holds_2 rfl (lv_at hl 0 rfl) ?_
  refine lv_iload_n hx hb dL_holds_3 rfl (lv_at hl 1 rfl) ?_
  refine lv_iload_n hx hb dL_holds_4 rfl (lv_at hl 2 rfl) ?_
  have hPc := pp_l hP
  have hDc := pd_l hD
  have hFc := wfree hDc hS hA
  refine vx_calli (vx_runV (As := [.int nd, .int key]) (rest := [.int 0, .ref o]) ⟨hx, hb, hml, hown, ht⟩ (c_X4_holds l hl0 D cI cZ cS cJ s.heap.size G SA sf hsf pa no pts rf rg RL pk ps pt L p1 p2 p3 op off left wr rc th Z mm rows F Gn C hci nd key) (xwV 2 ht kw3_31 kw3_28 kw1_1 kw3_29 kw3_30 rfl rfl (by decide +kernel) ⟨Nat.le_of_ble_eq_true rfl, Nat.le_of_ble_eq_true rfl⟩) ⟨PX.blind, va_recv hK hPc (ci := 4) (q0 := 0) rfl rfl, fun U hU hW => PX.mk hU hW hPc hK hDc hS hFc hTX⟩ rfl rfl hl.1 rfl (lv_room (Nat.le_of_ble_eq_true rfl)) dL_holds_5 ⟨Nat.le_of_ble_eq_true rfl, Nat.le_of_ble_eq_true rfl⟩) hS (fun q _ h => hFc q h) hFc (fun q _ h => hFc q h) (fun E ce q9 u9 t9 H1 locs ht1 hvm _ hBX hz1 hk1 hS hce hcv hcl => ?_) (fun r5 u5 t5 H1 locs ht1 hvm w5 hB hz1 hk1 hS => ?_)
  · obtain ⟨hXE, hBX⟩ := hBX
    rw [ht1] at hBX
    have hP := pr_l hP hD hk1 hBX
    have hP : va_P D vwCl (cW cI cS G SA sf pa no pts rf rg (nI RL.length) pk ps pt L p1 p2 p3 (nI rows.length) op (nI F) (nI Gn) (cB C) off left wr rc th Z ++ [(o, .inl (cJ, 1, .inr (.inl fo)))]) H1 := hP
    obtain ⟨hE, hxc⟩ := hXE
    subst hE
    refine vx_catch (own := RLw) (name := cIOB) hown (tableOf []) ⟨0, 17, 20, 27⟩ (tableOf []) (htab.trans rfl) (fun z hz => absurd hz List.not_mem_nil) (by decide) (by decide) (ht _ kw2_127) (ht _ kw2_138) hce hcv hcl ?_
    show W _ _ _ _ _ _ _ _ _ _ _ _ _ _ _ (F0 m 20 ls [.ref q9])
    refine lv_astore (lv' := [(4, .ref q9), (0, .ref (G 0)), (1, .int nd), (2, .int key), (3, .ref o)]) hx hb dL_holds_20 hl (by decide) rfl (fun ls hl => ?_)
    refine lv_iconst (v := 1) hx hb dL_holds_22 (by decide) ?_
    refine vx_ret ?_
    refine W.widen (k := 80) (n := 8400) (Nat.le_of_ble_eq_true rfl) (Nat.le_of_ble_eq_true rfl) ?_
    exact W.iret (v := 1) hx hb hr (fun t ht2 hW => ⟨⟨1, fo, rfl, Or.inr ⟨by decide, by rw [hxc], rfl⟩, ⟨by (try dsimp only); rw [ht2]; exact hP, by exact hD⟩⟩, hS.F ht2⟩) hS.2.2 dL_holds_23
  try dsimp only at w5 hB
  rw [ht1] at hB
  have hP := pr_l hP hD hk1 hB
  generalize H1 = H at hP hS ⊢
  have hP : va_P D vwCl (cW cI cS G SA sf pa no pts rf rg (nI RL.length) pk ps pt L p1 p2 p3 (nI rows.length) op (nI F) (nI Gn) (cB C) off left wr rc th Z ++ [(o, .inl (cJ, 1, .inr (.inl fo)))]) H := hP
  have hD : va_D A (cW cI cS G SA sf pa no pts rf rg (nI RL.length) pk ps pt L p1 p2 p3 (nI rows.length) op (nI F) (nI Gn) (cB C) off left wr rc th Z ++ [(o, .inl (cJ, 1, .inr (.inl fo)))]) := hD
  refine lv_if_eq (tgt := 15) hx hb dL_holds_8 (by decide) (fun c8 => ?_) (fun c8 => ?_)
  · refine lv_lconst (v := 0) hx hb dL_holds_15 (by decide) ?_
    refine ya_last hx hb hK hP hD hS 35 3 rfl rfl 0 (rfl) (by decide) (by decide) dL_holds_16 (fun H locs hP hD hS => ?_)
    have hP : va_P D vwCl (cW cI cS G SA sf pa no pts rf rg (nI RL.length) pk ps pt L p1 p2 p3 (nI rows.length) op (nI F) (nI Gn) (cB C) off left wr rc th Z ++ [(o, .inl (cJ, 1, .inr (.inl (vp_updL fo 0 0))))]) H := hP
    have hD : va_D A (cW cI cS G SA sf pa no pts rf rg (nI RL.length) pk ps pt L p1 p2 p3 (nI rows.length) op (nI F) (nI Gn) (cB C) off left wr rc th Z ++ [(o, .inl (cJ, 1, .inr (.inl (vp_updL fo 0 0))))]) := hD
    refine lv_goto (tgt := 24) hx hb dL_holds_17 (by decide) ?_
    refine lv_iconst (v := 0) hx hb dL_holds_24 (by decide) ?_
    refine vx_ret ?_
    refine W.widen (k := 80) (n := 8400) (Nat.le_of_ble_eq_true rfl) (Nat.le_of_ble_eq_true rfl) ?_
    exact W.iret (v := 0) hx hb hr (fun t ht2 hW => ⟨⟨0, vp_updL fo 0 0, rfl, Or.inl ⟨rfl, r5, w5, by
            (try dsimp only)
            first | (rw [c8]; rfl) | (rw [(hld_r w5).elim (fun q => absurd q c8) id]; rfl)⟩, ⟨by (try dsimp only); rw [ht2]; exact hP, by exact hD⟩⟩, hS.F ht2⟩) hS.2.2 dL_holds_25
  · refine lv_lconst (v := 1) hx hb dL_holds_11 (by decide) ?_
    refine lv_goto (tgt := 16) hx hb dL_holds_12 (by decide) ?_
    refine ya_last hx hb hK hP hD hS 35 3 rfl rfl 0 (rfl) (by decide) (by decide) dL_holds_16 (fun H locs hP hD hS => ?_)
    have hP : va_P D vwCl (cW cI cS G SA sf pa no pts rf rg (nI RL.length) pk ps pt L p1 p2 p3 (nI rows.length) op (nI F) (nI Gn) (cB C) off left wr rc th Z ++ [(o, .inl (cJ, 1, .inr (.inl (vp_updL fo 0 1))))]) H := hP
    have hD : va_D A (cW cI cS G SA sf pa no pts rf rg (nI RL.length) pk ps pt L p1 p2 p3 (nI rows.length) op (nI F) (nI Gn) (cB C) off left wr rc th Z ++ [(o, .inl (cJ, 1, .inr (.inl (vp_updL fo 0 1))))]) := hD
    refine lv_goto (tgt := 24) hx hb dL_holds_17 (by decide) ?_
    refine lv_iconst (v := 0) hx hb dL_holds_24 (by decide) ?_
    refine vx_ret ?_
    refine W.widen (k := 80) (n := 8400) (Nat.le_of_ble_eq_true rfl) (Nat.le_of_ble_eq_true rfl) ?_
    exact W.iret (v := 0) hx hb hr (fun t ht2 hW => ⟨⟨0, vp_updL fo 0 1, rfl, Or.inl ⟨rfl, r5, w5, by
            (try dsimp only)
            first | (rw [c8]; rfl) | (rw [(hld_r w5).elim (fun q => absurd q c8) id]; rfl)⟩, ⟨by (try dsimp only); rw [ht2]; exact hP, by exact hD⟩⟩, hS.F ht2⟩) hS.2.2 dL_holds_25

set_option maxHeartbeats 4000000 in
set_option maxRecDepth 100000 in
theorem c_L_size (l : Launch) (hl0 : l.stackTraces = false) (D : va_G) (cI cZ cS cJ : ClassId) (sz : Nat) (G SA : Nat → Nat) (sf : Nat → Option Nat) (hsf : ∀ n, n < 8 → sf n = some (SA n)) (pa no : Nat) (pts rf rg : Nat → Int32) (RL : List (Int32 × Int32)) (pk ps pt L : Nat) (p1 p2 p3 : Nat → Int32) (op off left wr rc th : Int32) (Z : Nat → ST) (mm : Nat → Nat) (rows : List (Int32 × Nat × Nat)) (F Gn : Nat) (C : Bool) (hci : CI mm RL pts rf rg rows L p1 p2 p3 F Gn Z) (o : Nat) (fo : Nat → Int64) (nd : Int32) : vx_Met l yL_size (Cond.codeWith yL_size cL_size 4 (some .int) [(0, 9, 12, 27)] :: TB) ({ frames := 8, cells := 80, slots := 8400, locals := 131 } : Room) (va_Pc [.ref (G 0), .int nd, .ref o] (PZ D (KT cI cZ cS cJ) (cW cI cS G SA sf pa no pts rf rg (nI RL.length) pk ps pt L p1 p2 p3 (nI rows.length) op (nI F) (nI Gn) (cB C) off left wr rc th Z ++ [(o, .inl (cJ, 1, .inr (.inl fo)))]) sz)) (va_Qi (fun k (u : Nat → Int64) => (k = 0 ∧ ∃ r, sizF (stZ Z) nd = (0, r) ∧ u 0 = (r : Int32).toInt64) ∨ (¬ k = 0 ∧ (sizF (stZ Z) nd).1 = k ∧ u = fo)) (fun (u : Nat → Int64) t => va_P D vwCl (cW cI cS G SA sf pa no pts rf rg (nI RL.length) pk ps pt L p1 p2 p3 (nI rows.length) op (nI F) (nI Gn) (cB C) off left wr rc th Z ++ [(o, .inl (cJ, 1, .inr (.inl u)))]) t.heap ∧ va_D (va_A (cW cI cS G SA sf pa no pts rf rg (nI RL.length) pk ps pt L p1 p2 p3 (nI rows.length) op (nI F) (nI Gn) (cB C) off left wr rc th Z ++ [(o, .inl (cJ, 1, .inr (.inl fo)))]) sz) (cW cI cS G SA sf pa no pts rf rg (nI RL.length) pk ps pt L p1 p2 p3 (nI rows.length) op (nI F) (nI Gn) (cB C) off left wr rc th Z ++ [(o, .inl (cJ, 1, .inr (.inl u)))])) (va_A (cW cI cS G SA sf pa no pts rf rg (nI RL.length) pk ps pt L p1 p2 p3 (nI rows.length) op (nI F) (nI Gn) (cB C) off left wr rc th Z ++ [(o, .inl (cJ, 1, .inr (.inl fo)))]) sz)) (vx_X (fun (_ : Unit) => False) (fun _ _ _ => False) (va_A (cW cI cS G SA sf pa no pts rf rg (nI RL.length) pk ps pt L p1 p2 p3 (nI rows.length) op (nI F) (nI Gn) (cB C) off left wr rc th Z ++ [(o, .inl (cJ, 1, .inr (.inl fo)))]) sz)) 80 8400 (va_A (cW cI cS G SA sf pa no pts rf rg (nI RL.length) pk ps pt L p1 p2 p3 (nI rows.length) op (nI F) (nI Gn) (cB C) off left wr rc th Z ++ [(o, .inl (cJ, 1, .inr (.inl fo)))]) sz) := by
  refine vx_ofWH (cc := cL_size) (maxL := 4) (ret := (some .int)) (hh := [(0, 9, 12, 27)]) (by decide) rfl ?_
  intro p e s m args below meth c s₁ B hml hv
  obtain ⟨rfl, ⟨⟨hsz, hP, hK, hD0⟩, hTX⟩, hNC⟩ := hv
  have hx := B.exec
  have hb := B.bytes
  have hr := B.returns
  have hts := atoms_spec (ws := (Cond.codeWith yL_size cL_size 4 (some .int) [(0, 9, 12, 27)] :: TB)) B.pre
  have ht : ∀ w ∈ TB, w.before _ s = true := fun w h => hts w (List.mem_cons_of_mem _ h)
  have htab := vx_table (x := yL_size) B (hts _ List.mem_cons_self)
  have hown : s.vm.findClass RLw = some m.cls := findClass_of_methodNamed B.named
  have hlocks := B.notSynchronized
  subst hsz
  have hD := hD0.self (sz := s.heap.size)
  generalize hAe : va_A (cW cI cS G SA sf pa no pts rf rg (nI RL.length) pk ps pt L p1 p2 p3 (nI rows.length) op (nI F) (nI Gn) (cB C) off left wr rc th Z ++ [(o, .inl (cJ, 1, .inr (.inl fo)))]) s.heap.size = A at hD hTX ⊢
  have hA : ∀ q : Nat, s.heap.size ≤ q → A q := fun q h => by rw [← hAe]; exact Or.inr h
  have hS : va_S A s.heap s.heap [] := va_S.rf
  have hP : va_P D vwCl (cW cI cS G SA sf pa no pts rf rg (nI RL.length) pk ps pt L p1 p2 p3 (nI rows.length) op (nI F) (nI Gn) (cB C) off left wr rc th Z ++ [(o, .inl (cJ, 1, .inr (.inl fo)))]) s.heap := hP
  have hl := lv_entry ([.ref (G 0), .int nd, .ref o]) (n := 4) (Nat.le_of_ble_eq_true rfl)
  rw [lg_entry_eq]
  generalize (lg_sl ([.ref (G 0), .int nd, .ref o]) ++ List.replicate (4 - (lg_sl ([.ref (G 0), .int nd, .ref o])).length) Slot.unset).toArray = ls at hl ⊢
  have hl : lv_has ls 4 [(0, .ref (G 0)), (1, .int nd), (2, .ref o)] := hl
  refine lv_aload_n hx hb dL_size_0 rfl (lv_at hl 2 rfl) ?_
  refine lv_iconst (v := 0) hx hb dL_size_1 (by decide) ?_
  refine lv_aload_n hx hb dL_size_2 rfl (lv_at hl 0 rfl) ?_
  refine lv_iload_n hx hb dL_size_3 rfl (lv_at hl 1 rfl) ?_
  have hPc := pp_l hP
  have hDc := pd_l hD
  have hFc := wfree hDc hS hA
  refine vx_calli (vx_runV (As := [.int nd]) (rest := [.int 0, .ref o]) ⟨hx, hb, hml, hown, ht⟩ (c_X4_size l hl0 D cI cZ cS cJ s.heap.size G SA sf hsf pa no pts rf rg RL pk ps pt L p1 p2 p3 op off left wr rc th Z mm rows F Gn C hci nd) (xwV 1 ht kw3_38 kw3_35 kw1_1 kw3_36 kw3_37 rfl rfl (by decide +kernel) ⟨Nat.le_of_ble_eq_true rfl, Nat.le_of_ble_eq_true rfl⟩) ⟨PX.blind, va_recv hK hPc (ci := 4) (q0 := 0) rfl rfl, fun U hU hW => PX.mk hU hW hPc hK hDc hS hFc hTX⟩ rfl rfl hl.1 rfl (lv_room (Nat.le_of_ble_eq_true rfl)) dL_size_4 ⟨Nat.le_of_ble_eq_true rfl, Nat.le_of_ble_eq_true rfl⟩) hS (fun q _ h => hFc q h) hFc (fun q _ h => hFc q h) (fun E ce q9 u9 t9 H1 locs ht1 hvm _ hBX hz1 hk1 hS hce hcv hcl => ?_) (fun r4 u4 t4 H1 locs ht1 hvm w4 hB hz1 hk1 hS => ?_)
  · obtain ⟨hXE, hBX⟩ := hBX
    rw [ht1] at hBX
    have hP := pr_l hP hD hk1 hBX
    have hP : va_P D vwCl (cW cI cS G SA sf pa no pts rf rg (nI RL.length) pk ps pt L p1 p2 p3 (nI rows.length) op (nI F) (nI Gn) (cB C) off left wr rc th Z ++ [(o, .inl (cJ, 1, .inr (.inl fo)))]) H1 := hP
    obtain ⟨hE, hxc⟩ := hXE
    subst hE
    refine vx_catch (own := RLw) (name := cIOB) hown (tableOf []) ⟨0, 9, 12, 27⟩ (tableOf []) (htab.trans rfl) (fun z hz => absurd hz List.not_mem_nil) (by decide) (by decide) (ht _ kw2_127) (ht _ kw2_138) hce hcv hcl ?_
    show W _ _ _ _ _ _ _ _ _ _ _ _ _ _ _ (F0 m 12 ls [.ref q9])
    refine lv_astore_n (lv' := [(3, .ref q9), (0, .ref (G 0)), (1, .int nd), (2, .ref o)]) hx hb dL_size_12 rfl hl (by decide) rfl (fun ls hl => ?_)
    refine lv_iconst (v := 1) hx hb dL_size_13 (by decide) ?_
    refine vx_ret ?_
    refine W.widen (k := 80) (n := 8400) (Nat.le_of_ble_eq_true rfl) (Nat.le_of_ble_eq_true rfl) ?_
    exact W.iret (v := 1) hx hb hr (fun t ht2 hW => ⟨⟨1, fo, rfl, Or.inr ⟨by decide, by rw [hxc], rfl⟩, ⟨by (try dsimp only); rw [ht2]; exact hP, by exact hD⟩⟩, hS.F ht2⟩) hS.2.2 dL_size_14
  try dsimp only at w4 hB
  rw [ht1] at hB
  have hP := pr_l hP hD hk1 hB
  generalize H1 = H at hP hS ⊢
  have hP : va_P D vwCl (cW cI cS G SA sf pa no pts rf rg (nI RL.length) pk ps pt L p1 p2 p3 (nI rows.length) op (nI F) (nI Gn) (cB C) off left wr rc th Z ++ [(o, .inl (cJ, 1, .inr (.inl fo)))]) H := hP
  have hD : va_D A (cW cI cS G SA sf pa no pts rf rg (nI RL.length) pk ps pt L p1 p2 p3 (nI rows.length) op (nI F) (nI Gn) (cB C) off left wr rc th Z ++ [(o, .inl (cJ, 1, .inr (.inl fo)))]) := hD
  refine lv_i2l (v := (r4 : Int32).toInt64) hx hb dL_size_7 rfl ?_
  refine ya_last hx hb hK hP hD hS 35 3 rfl rfl 0 (rfl) (by decide) (by decide) dL_size_8 (fun H locs hP hD hS => ?_)
  have hP : va_P D vwCl (cW cI cS G SA sf pa no pts rf rg (nI RL.length) pk ps pt L p1 p2 p3 (nI rows.length) op (nI F) (nI Gn) (cB C) off left wr rc th Z ++ [(o, .inl (cJ, 1, .inr (.inl (vp_updL fo 0 ((r4 : Int32).toInt64)))))]) H := hP
  have hD : va_D A (cW cI cS G SA sf pa no pts rf rg (nI RL.length) pk ps pt L p1 p2 p3 (nI rows.length) op (nI F) (nI Gn) (cB C) off left wr rc th Z ++ [(o, .inl (cJ, 1, .inr (.inl (vp_updL fo 0 ((r4 : Int32).toInt64)))))]) := hD
  refine lv_goto (tgt := 15) hx hb dL_size_9 (by decide) ?_
  refine lv_iconst (v := 0) hx hb dL_size_15 (by decide) ?_
  refine vx_ret ?_
  refine W.widen (k := 80) (n := 8400) (Nat.le_of_ble_eq_true rfl) (Nat.le_of_ble_eq_true rfl) ?_
  exact W.iret (v := 0) hx hb hr (fun t ht2 hW => ⟨⟨0, vp_updL fo 0 ((r4 : Int32).toInt64), rfl, Or.inl ⟨rfl, r4, w4, if_pos rfl⟩, ⟨by (try dsimp only); rw [ht2]; exact hP, by exact hD⟩⟩, hS.F ht2⟩) hS.2.2 dL_size_16

set_option maxHeartbeats 4000000 in
set_option maxRecDepth 100000 in
theorem c_L_key (l : Launch) (hl0 : l.stackTraces = false) (D : va_G) (cI cZ cS cJ : ClassId) (sz : Nat) (G SA : Nat → Nat) (sf : Nat → Option Nat) (hsf : ∀ n, n < 8 → sf n = some (SA n)) (pa no : Nat) (pts rf rg : Nat → Int32) (RL : List (Int32 × Int32)) (pk ps pt L : Nat) (p1 p2 p3 : Nat → Int32) (op off left wr rc th : Int32) (Z : Nat → ST) (mm : Nat → Nat) (rows : List (Int32 × Nat × Nat)) (F Gn : Nat) (C : Bool) (hci : CI mm RL pts rf rg rows L p1 p2 p3 F Gn Z) (o : Nat) (fo : Nat → Int64) (nd i : Int32) : vx_Met l yL_key (Cond.codeWith yL_key cL_key 5 (some .int) [(0, 10, 13, 27)] :: TB) ({ frames := 8, cells := 80, slots := 8400, locals := 132 } : Room) (va_Pc [.ref (G 0), .int nd, .int i, .ref o] (PZ D (KT cI cZ cS cJ) (cW cI cS G SA sf pa no pts rf rg (nI RL.length) pk ps pt L p1 p2 p3 (nI rows.length) op (nI F) (nI Gn) (cB C) off left wr rc th Z ++ [(o, .inl (cJ, 1, .inr (.inl fo)))]) sz)) (va_Qi (fun k (u : Nat → Int64) => (k = 0 ∧ ∃ r, keyF (stZ Z) nd i = (0, r) ∧ u 0 = (r : Int32).toInt64) ∨ (¬ k = 0 ∧ (keyF (stZ Z) nd i).1 = k ∧ u = fo)) (fun (u : Nat → Int64) t => va_P D vwCl (cW cI cS G SA sf pa no pts rf rg (nI RL.length) pk ps pt L p1 p2 p3 (nI rows.length) op (nI F) (nI Gn) (cB C) off left wr rc th Z ++ [(o, .inl (cJ, 1, .inr (.inl u)))]) t.heap ∧ va_D (va_A (cW cI cS G SA sf pa no pts rf rg (nI RL.length) pk ps pt L p1 p2 p3 (nI rows.length) op (nI F) (nI Gn) (cB C) off left wr rc th Z ++ [(o, .inl (cJ, 1, .inr (.inl fo)))]) sz) (cW cI cS G SA sf pa no pts rf rg (nI RL.length) pk ps pt L p1 p2 p3 (nI rows.length) op (nI F) (nI Gn) (cB C) off left wr rc th Z ++ [(o, .inl (cJ, 1, .inr (.inl u)))])) (va_A (cW cI cS G SA sf pa no pts rf rg (nI RL.length) pk ps pt L p1 p2 p3 (nI rows.length) op (nI F) (nI Gn) (cB C) off left wr rc th Z ++ [(o, .inl (cJ, 1, .inr (.inl fo)))]) sz)) (vx_X (fun (_ : Unit) => False) (fun _ _ _ => False) (va_A (cW cI cS G SA sf pa no pts rf rg (nI RL.length) pk ps pt L p1 p2 p3 (nI rows.length) op (nI F) (nI Gn) (cB C) off left wr rc th Z ++ [(o, .inl (cJ, 1, .inr (.inl fo)))]) sz)) 80 8400 (va_A (cW cI cS G SA sf pa no pts rf rg (nI RL.length) pk ps pt L p1 p2 p3 (nI rows.length) op (nI F) (nI Gn) (cB C) off left wr rc th Z ++ [(o, .inl (cJ, 1, .inr (.inl fo)))]) sz) := by
  refine vx_ofWH (cc := cL_key) (maxL := 5) (ret := (some .int)) (hh := [(0, 10, 13, 27)]) (by decide) rfl ?_
  intro p e s m args below meth c s₁ B hml hv
  obtain ⟨rfl, ⟨⟨hsz, hP, hK, hD0⟩, hTX⟩, hNC⟩ := hv
  have hx := B.exec
  have hb := B.bytes
  have hr := B.returns
  have hts := atoms_spec (ws := (Cond.codeWith yL_key cL_key 5 (some .int) [(0, 10, 13, 27)] :: TB)) B.pre
  have ht : ∀ w ∈ TB, w.before _ s = true := fun w h => hts w (List.mem_cons_of_mem _ h)
  have htab := vx_table (x := yL_key) B (hts _ List.mem_cons_self)
  have hown : s.vm.findClass RLw = some m.cls := findClass_of_methodNamed B.named
  have hlocks := B.notSynchronized
  subst hsz
  have hD := hD0.self (sz := s.heap.size)
  generalize hAe : va_A (cW cI cS G SA sf pa no pts rf rg (nI RL.length) pk ps pt L p1 p2 p3 (nI rows.length) op (nI F) (nI Gn) (cB C) off left wr rc th Z ++ [(o, .inl (cJ, 1, .inr (.inl fo)))]) s.heap.size = A at hD hTX ⊢
  have hA : ∀ q : Nat, s.heap.size ≤ q → A q := fun q h => by rw [← hAe]; exact Or.inr h
  have hS : va_S A s.heap s.heap [] := va_S.rf
  have hP : va_P D vwCl (cW cI cS G SA sf pa no pts rf rg (nI RL.length) pk ps pt L p1 p2 p3 (nI rows.length) op (nI F) (nI Gn) (cB C) off left wr rc th Z ++ [(o, .inl (cJ, 1, .inr (.inl fo)))]) s.heap := hP
  have hl := lv_entry ([.ref (G 0), .int nd, .int i, .ref o]) (n := 5) (Nat.le_of_ble_eq_true rfl)
  rw [lg_entry_eq]
  generalize (lg_sl ([.ref (G 0), .int nd, .int i, .ref o]) ++ List.replicate (5 - (lg_sl ([.ref (G 0), .int nd, .int i, .ref o])).length) Slot.unset).toArray = ls at hl ⊢
  have hl : lv_has ls 5 [(0, .ref (G 0)), (1, .int nd), (2, .int i), (3, .ref o)] := hl
  refine lv_aload_n hx hb dL_key_0 rfl (lv_at hl 3 rfl) ?_
  refine lv_iconst (v := 0) hx hb dL_key_1 (by decide) ?_
  refine lv_aload_n hx hb dL_key_2 rfl (lv_at hl 0 rfl) ?_
  refine lv_iload_n hx hb dL_key_3 rfl (lv_at hl 1 rfl) ?_
  refine lv_iload_n hx hb dL_key_4 rfl (lv_at hl 2 rfl) ?_
  have hPc := pp_l hP
  have hDc := pd_l hD
  have hFc := wfree hDc hS hA
  refine vx_calli (vx_runV (As := [.int nd, .int i]) (rest := [.int 0, .ref o]) ⟨hx, hb, hml, hown, ht⟩ (c_X4_key l hl0 D cI cZ cS cJ s.heap.size G SA sf hsf pa no pts rf rg RL pk ps pt L p1 p2 p3 op off left wr rc th Z mm rows F Gn C hci nd i) (xwV 2 ht kw3_45 kw3_42 kw1_1 kw3_43 kw3_44 rfl rfl (by decide +kernel) ⟨Nat.le_of_ble_eq_true rfl, Nat.le_of_ble_eq_true rfl⟩) ⟨PX.blind, va_recv hK hPc (ci := 4) (q0 := 0) rfl rfl, fun U hU hW => PX.mk hU hW hPc hK hDc hS hFc hTX⟩ rfl rfl hl.1 rfl (lv_room (Nat.le_of_ble_eq_true rfl)) dL_key_5 ⟨Nat.le_of_ble_eq_true rfl, Nat.le_of_ble_eq_true rfl⟩) hS (fun q _ h => hFc q h) hFc (fun q _ h => hFc q h) (fun E ce q9 u9 t9 H1 locs ht1 hvm _ hBX hz1 hk1 hS hce hcv hcl => ?_) (fun r5 u5 t5 H1 locs ht1 hvm w5 hB hz1 hk1 hS => ?_)
  · obtain ⟨hXE, hBX⟩ := hBX
    rw [ht1] at hBX
    have hP := pr_l hP hD hk1 hBX
    have hP : va_P D vwCl (cW cI cS G SA sf pa no pts rf rg (nI RL.length) pk ps pt L p1 p2 p3 (nI rows.length) op (nI F) (nI Gn) (cB C) off left wr rc th Z ++ [(o, .inl (cJ, 1, .inr (.inl fo)))]) H1 := hP
    obtain ⟨hE, hxc⟩ := hXE
    subst hE
    refine vx_catch (own := RLw) (name := cIOB) hown (tableOf []) ⟨0, 10, 13, 27⟩ (tableOf []) (htab.trans rfl) (fun z hz => absurd hz List.not_mem_nil) (by decide) (by decide) (ht _ kw2_127) (ht _ kw2_138) hce hcv hcl ?_
    show W _ _ _ _ _ _ _ _ _ _ _ _ _ _ _ (F0 m 13 ls [.ref q9])
    refine lv_astore (lv' := [(4, .ref q9), (0, .ref (G 0)), (1, .int nd), (2, .int i), (3, .ref o)]) hx hb dL_key_13 hl (by decide) rfl (fun ls hl => ?_)
    refine lv_iconst (v := 1) hx hb dL_key_15 (by decide) ?_
    refine vx_ret ?_
    refine W.widen (k := 80) (n := 8400) (Nat.le_of_ble_eq_true rfl) (Nat.le_of_ble_eq_true rfl) ?_
    exact W.iret (v := 1) hx hb hr (fun t ht2 hW => ⟨⟨1, fo, rfl, Or.inr ⟨by decide, by rw [hxc], rfl⟩, ⟨by (try dsimp only); rw [ht2]; exact hP, by exact hD⟩⟩, hS.F ht2⟩) hS.2.2 dL_key_16
  try dsimp only at w5 hB
  rw [ht1] at hB
  have hP := pr_l hP hD hk1 hB
  generalize H1 = H at hP hS ⊢
  have hP : va_P D vwCl (cW cI cS G SA sf pa no pts rf rg (nI RL.length) pk ps pt L p1 p2 p3 (nI rows.length) op (nI F) (nI Gn) (cB C) off left wr rc th Z ++ [(o, .inl (cJ, 1, .inr (.inl fo)))]) H := hP
  have hD : va_D A (cW cI cS G SA sf pa no pts rf rg (nI RL.length) pk ps pt L p1 p2 p3 (nI rows.length) op (nI F) (nI Gn) (cB C) off left wr rc th Z ++ [(o, .inl (cJ, 1, .inr (.inl fo)))]) := hD
  refine lv_i2l (v := (r5 : Int32).toInt64) hx hb dL_key_8 rfl ?_
  refine ya_last hx hb hK hP hD hS 35 3 rfl rfl 0 (rfl) (by decide) (by decide) dL_key_9 (fun H locs hP hD hS => ?_)
  have hP : va_P D vwCl (cW cI cS G SA sf pa no pts rf rg (nI RL.length) pk ps pt L p1 p2 p3 (nI rows.length) op (nI F) (nI Gn) (cB C) off left wr rc th Z ++ [(o, .inl (cJ, 1, .inr (.inl (vp_updL fo 0 ((r5 : Int32).toInt64)))))]) H := hP
  have hD : va_D A (cW cI cS G SA sf pa no pts rf rg (nI RL.length) pk ps pt L p1 p2 p3 (nI rows.length) op (nI F) (nI Gn) (cB C) off left wr rc th Z ++ [(o, .inl (cJ, 1, .inr (.inl (vp_updL fo 0 ((r5 : Int32).toInt64)))))]) := hD
  refine lv_goto (tgt := 17) hx hb dL_key_10 (by decide) ?_
  refine lv_iconst (v := 0) hx hb dL_key_17 (by decide) ?_
  refine vx_ret ?_
  refine W.widen (k := 80) (n := 8400) (Nat.le_of_ble_eq_true rfl) (Nat.le_of_ble_eq_true rfl) ?_
  exact W.iret (v := 0) hx hb hr (fun t ht2 hW => ⟨⟨0, vp_updL fo 0 ((r5 : Int32).toInt64), rfl, Or.inl ⟨rfl, r5, w5, if_pos rfl⟩, ⟨by (try dsimp only); rw [ht2]; exact hP, by exact hD⟩⟩, hS.F ht2⟩) hS.2.2 dL_key_18

set_option maxHeartbeats 4000000 in
set_option maxRecDepth 100000 in
theorem c_L_points (l : Launch) (hl0 : l.stackTraces = false) (D : va_G) (cI cZ cS cJ : ClassId) (sz : Nat) (G SA : Nat → Nat) (sf : Nat → Option Nat) (hsf : ∀ n, n < 8 → sf n = some (SA n)) (pa no : Nat) (pts rf rg : Nat → Int32) (RL : List (Int32 × Int32)) (pk ps pt L : Nat) (p1 p2 p3 : Nat → Int32) (op off left wr rc th : Int32) (Z : Nat → ST) (mm : Nat → Nat) (rows : List (Int32 × Nat × Nat)) (F Gn : Nat) (C : Bool) (hci : CI mm RL pts rf rg rows L p1 p2 p3 F Gn Z) (o : Nat) (fo : Nat → Int64) (nd : Int32) : vx_Met l yL_points (Cond.codeWith yL_points cL_points 4 (some .int) [(0, 9, 12, 27), (0, 9, 15, 13)] :: TB) ({ frames := 8, cells := 80, slots := 8400, locals := 131 } : Room) (va_Pc [.ref (G 0), .int nd, .ref o] (PZ D (KT cI cZ cS cJ) (cW cI cS G SA sf pa no pts rf rg (nI RL.length) pk ps pt L p1 p2 p3 (nI rows.length) op (nI F) (nI Gn) (cB C) off left wr rc th Z ++ [(o, .inl (cJ, 1, .inr (.inl fo)))]) sz)) (va_Qi (fun k (u : Nat → Int64) => (k = 0 ∧ ∃ r, ptsF off mm nd = (0, r) ∧ u 0 = (r : Int32).toInt64) ∨ (¬ k = 0 ∧ (ptsF off mm nd).1 = k ∧ u = fo)) (fun (u : Nat → Int64) t => va_P D vwCl (cW cI cS G SA sf pa no pts rf rg (nI RL.length) pk ps pt L p1 p2 p3 (nI rows.length) op (nI F) (nI Gn) (cB C) off left wr rc th Z ++ [(o, .inl (cJ, 1, .inr (.inl u)))]) t.heap ∧ va_D (va_A (cW cI cS G SA sf pa no pts rf rg (nI RL.length) pk ps pt L p1 p2 p3 (nI rows.length) op (nI F) (nI Gn) (cB C) off left wr rc th Z ++ [(o, .inl (cJ, 1, .inr (.inl fo)))]) sz) (cW cI cS G SA sf pa no pts rf rg (nI RL.length) pk ps pt L p1 p2 p3 (nI rows.length) op (nI F) (nI Gn) (cB C) off left wr rc th Z ++ [(o, .inl (cJ, 1, .inr (.inl u)))])) (va_A (cW cI cS G SA sf pa no pts rf rg (nI RL.length) pk ps pt L p1 p2 p3 (nI rows.length) op (nI F) (nI Gn) (cB C) off left wr rc th Z ++ [(o, .inl (cJ, 1, .inr (.inl fo)))]) sz)) (vx_X (fun (_ : Unit) => False) (fun _ _ _ => False) (va_A (cW cI cS G SA sf pa no pts rf rg (nI RL.length) pk ps pt L p1 p2 p3 (nI rows.length) op (nI F) (nI Gn) (cB C) off left wr rc th Z ++ [(o, .inl (cJ, 1, .inr (.inl fo)))]) sz)) 80 8400 (va_A (cW cI cS G SA sf pa no pts rf rg (nI RL.length) pk ps pt L p1 p2 p3 (nI rows.length) op (nI F) (nI Gn) (cB C) off left wr rc th Z ++ [(o, .inl (cJ, 1, .inr (.inl fo)))]) sz) := by
  refine vx_ofWH (cc := cL_points) (maxL := 4) (ret := (some .int)) (hh := [(0, 9, 12, 27), (0, 9, 15, 13)]) (by decide) rfl ?_
  intro p e s m args below meth c s₁ B hml hv
  obtain ⟨rfl, ⟨⟨hsz, hP, hK, hD0⟩, hTX⟩, hNC⟩ := hv
  have hx := B.exec
  have hb := B.bytes
  have hr := B.returns
  have hts := atoms_spec (ws := (Cond.codeWith yL_points cL_points 4 (some .int) [(0, 9, 12, 27), (0, 9, 15, 13)] :: TB)) B.pre
  have ht : ∀ w ∈ TB, w.before _ s = true := fun w h => hts w (List.mem_cons_of_mem _ h)
  have htab := vx_table (x := yL_points) B (hts _ List.mem_cons_self)
  have hown : s.vm.findClass RLw = some m.cls := findClass_of_methodNamed B.named
  have hlocks := B.notSynchronized
  subst hsz
  have hD := hD0.self (sz := s.heap.size)
  generalize hAe : va_A (cW cI cS G SA sf pa no pts rf rg (nI RL.length) pk ps pt L p1 p2 p3 (nI rows.length) op (nI F) (nI Gn) (cB C) off left wr rc th Z ++ [(o, .inl (cJ, 1, .inr (.inl fo)))]) s.heap.size = A at hD hTX ⊢
  have hA : ∀ q : Nat, s.heap.size ≤ q → A q := fun q h => by rw [← hAe]; exact Or.inr h
  have hS : va_S A s.heap s.heap [] := va_S.rf
  have hP : va_P D vwCl (cW cI cS G SA sf pa no pts rf rg (nI RL.length) pk ps pt L p1 p2 p3 (nI rows.length) op (nI F) (nI Gn) (cB C) off left wr rc th Z ++ [(o, .inl (cJ, 1, .inr (.inl fo)))]) s.heap := hP
  have hl := lv_entry ([.ref (G 0), .int nd, .ref o]) (n := 4) (Nat.le_of_ble_eq_true rfl)
  rw [lg_entry_eq]
  generalize (lg_sl ([.ref (G 0), .int nd, .ref o]) ++ List.replicate (4 - (lg_sl ([.ref (G 0), .int nd, .ref o])).length) Slot.unset).toArray = ls at hl ⊢
  have hl : lv_has ls 4 [(0, .ref (G 0)), (1, .int nd), (2, .ref o)] := hl
  refine lv_aload_n hx hb dL_points_0 rfl (lv_at hl 2 rfl) ?_
  refine lv_iconst (v := 0) hx hb dL_points_1 (by decide) ?_
  refine lv_aload_n hx hb dL_points_2 rfl (lv_at hl 0 rfl) ?_
  refine lv_iload_n hx hb dL_points_3 rfl (lv_at hl 1 rfl) ?_
  have hPc := pp_l hP
  have hDc := pd_l hD
  have hFc := wfree hDc hS hA
  refine vx_calli (vx_runV (As := [.int nd]) (rest := [.int 0, .ref o]) ⟨hx, hb, hml, hown, ht⟩ (c_X4_points l hl0 D cI cZ cS cJ s.heap.size G SA sf hsf pa no pts rf rg RL pk ps pt L p1 p2 p3 op off left wr rc th Z mm rows F Gn C hci nd) (xwV 1 ht kw3_53 kw3_50 kw1_1 kw3_51 kw3_52 rfl rfl (by decide +kernel) ⟨Nat.le_of_ble_eq_true rfl, Nat.le_of_ble_eq_true rfl⟩) ⟨PX.blind, va_recv hK hPc (ci := 4) (q0 := 0) rfl rfl, fun U hU hW => PX.mk hU hW hPc hK hDc hS hFc hTX⟩ rfl rfl hl.1 rfl (lv_room (Nat.le_of_ble_eq_true rfl)) dL_points_4 ⟨Nat.le_of_ble_eq_true rfl, Nat.le_of_ble_eq_true rfl⟩) hS (fun q _ h => hFc q h) hFc (fun q _ h => hFc q h) (fun E ce q9 u9 t9 H1 locs ht1 hvm _ hBX hz1 hk1 hS hce hcv hcl => ?_) (fun r4 u4 t4 H1 locs ht1 hvm w4 hB hz1 hk1 hS => ?_)
  · obtain ⟨hXE, hBX⟩ := hBX
    rw [ht1] at hBX
    have hP := pr_l hP hD hk1 hBX
    have hP : va_P D vwCl (cW cI cS G SA sf pa no pts rf rg (nI RL.length) pk ps pt L p1 p2 p3 (nI rows.length) op (nI F) (nI Gn) (cB C) off left wr rc th Z ++ [(o, .inl (cJ, 1, .inr (.inl fo)))]) H1 := hP
    rcases hXE with ⟨hE, hxc⟩ | ⟨hE, hxc⟩
    · subst hE
      refine vx_catch (own := RLw) (name := cIOB) hown (tableOf []) ⟨0, 9, 12, 27⟩ (tableOf [(0, 9, 15, 13)]) (htab.trans rfl) (fun z hz => absurd hz List.not_mem_nil) (by decide) (by decide) (ht _ kw2_127) (ht _ kw2_138) hce hcv hcl ?_
      show W _ _ _ _ _ _ _ _ _ _ _ _ _ _ _ (F0 m 12 ls [.ref q9])
      refine lv_astore_n (lv' := [(3, .ref q9), (0, .ref (G 0)), (1, .int nd), (2, .ref o)]) hx hb dL_points_12 rfl hl (by decide) rfl (fun ls hl => ?_)
      refine lv_iconst (v := 1) hx hb dL_points_13 (by decide) ?_
      refine vx_ret ?_
      refine W.widen (k := 80) (n := 8400) (Nat.le_of_ble_eq_true rfl) (Nat.le_of_ble_eq_true rfl) ?_
      exact W.iret (v := 1) hx hb hr (fun t ht2 hW => ⟨⟨1, fo, rfl, Or.inr ⟨by decide, by rw [hxc], rfl⟩, ⟨by (try dsimp only); rw [ht2]; exact hP, by exact hD⟩⟩, hS.F ht2⟩) hS.2.2 dL_points_14
    · subst hE
      refine vx_catch (own := RLw) (name := cISE) hown (tableOf [(0, 9, 12, 27)]) ⟨0, 9, 15, 13⟩ (tableOf []) (htab.trans rfl) (by
          intro z hz
          simp only [tableOf, List.map_cons, List.map_nil, List.mem_cons, List.not_mem_nil, or_false] at hz
          subst hz
          exact Or.inr ⟨by decide, _, ht _ kw2_127, hNC.2.2.1⟩) (by decide) (by decide) (ht _ kw1_210) (ht _ kw1_221) hce hcv hcl ?_
      show W _ _ _ _ _ _ _ _ _ _ _ _ _ _ _ (F0 m 15 ls [.ref q9])
      refine lv_astore_n (lv' := [(3, .ref q9), (0, .ref (G 0)), (1, .int nd), (2, .ref o)]) hx hb dL_points_15 rfl hl (by decide) rfl (fun ls hl => ?_)
      refine lv_iconst (v := 2) hx hb dL_points_16 (by decide) ?_
      refine vx_ret ?_
      refine W.widen (k := 80) (n := 8400) (Nat.le_of_ble_eq_true rfl) (Nat.le_of_ble_eq_true rfl) ?_
      exact W.iret (v := 2) hx hb hr (fun t ht2 hW => ⟨⟨2, fo, rfl, Or.inr ⟨by decide, by rw [hxc], rfl⟩, ⟨by (try dsimp only); rw [ht2]; exact hP, by exact hD⟩⟩, hS.F ht2⟩) hS.2.2 dL_points_17
  try dsimp only at w4 hB
  rw [ht1] at hB
  have hP := pr_l hP hD hk1 hB
  generalize H1 = H at hP hS ⊢
  have hP : va_P D vwCl (cW cI cS G SA sf pa no pts rf rg (nI RL.length) pk ps pt L p1 p2 p3 (nI rows.length) op (nI F) (nI Gn) (cB C) off left wr rc th Z ++ [(o, .inl (cJ, 1, .inr (.inl fo)))]) H := hP
  have hD : va_D A (cW cI cS G SA sf pa no pts rf rg (nI RL.length) pk ps pt L p1 p2 p3 (nI rows.length) op (nI F) (nI Gn) (cB C) off left wr rc th Z ++ [(o, .inl (cJ, 1, .inr (.inl fo)))]) := hD
  refine lv_i2l (v := (r4 : Int32).toInt64) hx hb dL_points_7 rfl ?_
  refine ya_last hx hb hK hP hD hS 35 3 rfl rfl 0 (rfl) (by decide) (by decide) dL_points_8 (fun H locs hP hD hS => ?_)
  have hP : va_P D vwCl (cW cI cS G SA sf pa no pts rf rg (nI RL.length) pk ps pt L p1 p2 p3 (nI rows.length) op (nI F) (nI Gn) (cB C) off left wr rc th Z ++ [(o, .inl (cJ, 1, .inr (.inl (vp_updL fo 0 ((r4 : Int32).toInt64)))))]) H := hP
  have hD : va_D A (cW cI cS G SA sf pa no pts rf rg (nI RL.length) pk ps pt L p1 p2 p3 (nI rows.length) op (nI F) (nI Gn) (cB C) off left wr rc th Z ++ [(o, .inl (cJ, 1, .inr (.inl (vp_updL fo 0 ((r4 : Int32).toInt64)))))]) := hD
  refine lv_goto (tgt := 18) hx hb dL_points_9 (by decide) ?_
  refine lv_iconst (v := 0) hx hb dL_points_18 (by decide) ?_
  refine vx_ret ?_
  refine W.widen (k := 80) (n := 8400) (Nat.le_of_ble_eq_true rfl) (Nat.le_of_ble_eq_true rfl) ?_
  exact W.iret (v := 0) hx hb hr (fun t ht2 hW => ⟨⟨0, vp_updL fo 0 ((r4 : Int32).toInt64), rfl, Or.inl ⟨rfl, r4, w4, if_pos rfl⟩, ⟨by (try dsimp only); rw [ht2]; exact hP, by exact hD⟩⟩, hS.F ht2⟩) hS.2.2 dL_points_19

set_option maxHeartbeats 4000000 in
set_option maxRecDepth 100000 in
theorem c_L_count (l : Launch) (hl0 : l.stackTraces = false) (D : va_G) (cI cZ cS cJ : ClassId) (sz : Nat) (G SA : Nat → Nat) (sf : Nat → Option Nat) (hsf : ∀ n, n < 8 → sf n = some (SA n)) (pa no : Nat) (pts rf rg : Nat → Int32) (RL : List (Int32 × Int32)) (pk ps pt L : Nat) (p1 p2 p3 : Nat → Int32) (op off left wr rc th : Int32) (Z : Nat → ST) (mm : Nat → Nat) (rows : List (Int32 × Nat × Nat)) (F Gn : Nat) (C : Bool) (hci : CI mm RL pts rf rg rows L p1 p2 p3 F Gn Z) (o : Nat) (fo : Nat → Int64) (hth : th = nI (thF (stZ Z) (homeF mm rows F))) (hG : Gn ≤ F) (hF : F ≤ rows.length) (what : Int32) : vx_Met l yL_count (Cond.codeWith yL_count cL_count 4 (some .int) [(0, 9, 12, 29), (0, 9, 15, 13)] :: TB) ({ frames := 8, cells := 80, slots := 8400, locals := 131 } : Room) (va_Pc [.ref (G 0), .int what, .ref o] (PZ D (KT cI cZ cS cJ) (cW cI cS G SA sf pa no pts rf rg (nI RL.length) pk ps pt L p1 p2 p3 (nI rows.length) op (nI F) (nI Gn) (cB C) off left wr rc th Z ++ [(o, .inl (cJ, 1, .inr (.inl fo)))]) sz)) (va_Qi (fun k (u : Nat → Int64) => (k = 0 ∧ ∃ r, cntF off (stZ Z) mm op rows F Gn what = (0, r) ∧ u 0 = (r : Int32).toInt64) ∨ (¬ k = 0 ∧ (cntF off (stZ Z) mm op rows F Gn what).1 = k ∧ u = fo)) (fun (u : Nat → Int64) t => va_P D vwCl (cW cI cS G SA sf pa no pts rf rg (nI RL.length) pk ps pt L p1 p2 p3 (nI rows.length) op (nI F) (nI Gn) (cB C) off left wr rc th Z ++ [(o, .inl (cJ, 1, .inr (.inl u)))]) t.heap ∧ va_D (va_A (cW cI cS G SA sf pa no pts rf rg (nI RL.length) pk ps pt L p1 p2 p3 (nI rows.length) op (nI F) (nI Gn) (cB C) off left wr rc th Z ++ [(o, .inl (cJ, 1, .inr (.inl fo)))]) sz) (cW cI cS G SA sf pa no pts rf rg (nI RL.length) pk ps pt L p1 p2 p3 (nI rows.length) op (nI F) (nI Gn) (cB C) off left wr rc th Z ++ [(o, .inl (cJ, 1, .inr (.inl u)))])) (va_A (cW cI cS G SA sf pa no pts rf rg (nI RL.length) pk ps pt L p1 p2 p3 (nI rows.length) op (nI F) (nI Gn) (cB C) off left wr rc th Z ++ [(o, .inl (cJ, 1, .inr (.inl fo)))]) sz)) (vx_X (fun (_ : Unit) => False) (fun _ _ _ => False) (va_A (cW cI cS G SA sf pa no pts rf rg (nI RL.length) pk ps pt L p1 p2 p3 (nI rows.length) op (nI F) (nI Gn) (cB C) off left wr rc th Z ++ [(o, .inl (cJ, 1, .inr (.inl fo)))]) sz)) 80 8400 (va_A (cW cI cS G SA sf pa no pts rf rg (nI RL.length) pk ps pt L p1 p2 p3 (nI rows.length) op (nI F) (nI Gn) (cB C) off left wr rc th Z ++ [(o, .inl (cJ, 1, .inr (.inl fo)))]) sz) := by
  refine vx_ofWH (cc := cL_count) (maxL := 4) (ret := (some .int)) (hh := [(0, 9, 12, 29), (0, 9, 15, 13)]) (by decide) rfl ?_
  intro p e s m args below meth c s₁ B hml hv
  obtain ⟨rfl, ⟨⟨hsz, hP, hK, hD0⟩, hTX⟩, hNC⟩ := hv
  have hx := B.exec
  have hb := B.bytes
  have hr := B.returns
  have hts := atoms_spec (ws := (Cond.codeWith yL_count cL_count 4 (some .int) [(0, 9, 12, 29), (0, 9, 15, 13)] :: TB)) B.pre
  have ht : ∀ w ∈ TB, w.before _ s = true := fun w h => hts w (List.mem_cons_of_mem _ h)
  have htab := vx_table (x := yL_count) B (hts _ List.mem_cons_self)
  have hown : s.vm.findClass RLw = some m.cls := findClass_of_methodNamed B.named
  have hlocks := B.notSynchronized
  subst hsz
  have hD := hD0.self (sz := s.heap.size)
  generalize hAe : va_A (cW cI cS G SA sf pa no pts rf rg (nI RL.length) pk ps pt L p1 p2 p3 (nI rows.length) op (nI F) (nI Gn) (cB C) off left wr rc th Z ++ [(o, .inl (cJ, 1, .inr (.inl fo)))]) s.heap.size = A at hD hTX ⊢
  have hA : ∀ q : Nat, s.heap.size ≤ q → A q := fun q h => by rw [← hAe]; exact Or.inr h
  have hS : va_S A s.heap s.heap [] := va_S.rf
  have hP : va_P D vwCl (cW cI cS G SA sf pa no pts rf rg (nI RL.length) pk ps pt L p1 p2 p3 (nI rows.length) op (nI F) (nI Gn) (cB C) off left wr rc th Z ++ [(o, .inl (cJ, 1, .inr (.inl fo)))]) s.heap := hP
  have hl := lv_entry ([.ref (G 0), .int what, .ref o]) (n := 4) (Nat.le_of_ble_eq_true rfl)
  rw [lg_entry_eq]
  generalize (lg_sl ([.ref (G 0), .int what, .ref o]) ++ List.replicate (4 - (lg_sl ([.ref (G 0), .int what, .ref o])).length) Slot.unset).toArray = ls at hl ⊢
  have hl : lv_has ls 4 [(0, .ref (G 0)), (1, .int what), (2, .ref o)] := hl
  refine lv_aload_n hx hb dL_count_0 rfl (lv_at hl 2 rfl) ?_
  refine lv_iconst (v := 0) hx hb dL_count_1 (by decide) ?_
  refine lv_aload_n hx hb dL_count_2 rfl (lv_at hl 0 rfl) ?_
  refine lv_iload_n hx hb dL_count_3 rfl (lv_at hl 1 rfl) ?_
  have hPc := pp_l hP
  have hDc := pd_l hD
  have hFc := wfree hDc hS hA
  refine vx_calli (vx_runV (As := [.int what]) (rest := [.int 0, .ref o]) ⟨hx, hb, hml, hown, ht⟩ (c_X4_count l hl0 D cI cZ cS cJ s.heap.size G SA sf hsf pa no pts rf rg RL pk ps pt L p1 p2 p3 op off left wr rc th Z mm rows F Gn C hci hth hG hF what) (xwV 1 ht kw3_60 kw3_57 kw1_1 kw3_58 kw3_59 rfl rfl (by decide +kernel) ⟨Nat.le_of_ble_eq_true rfl, Nat.le_of_ble_eq_true rfl⟩) ⟨PX.blind, va_recv hK hPc (ci := 4) (q0 := 0) rfl rfl, fun U hU hW => PX.mk hU hW hPc hK hDc hS hFc hTX⟩ rfl rfl hl.1 rfl (lv_room (Nat.le_of_ble_eq_true rfl)) dL_count_4 ⟨Nat.le_of_ble_eq_true rfl, Nat.le_of_ble_eq_true rfl⟩) hS (fun q _ h => hFc q h) hFc (fun q _ h => hFc q h) (fun E ce q9 u9 t9 H1 locs ht1 hvm _ hBX hz1 hk1 hS hce hcv hcl => ?_) (fun r4 u4 t4 H1 locs ht1 hvm w4 hB hz1 hk1 hS => ?_)
  · obtain ⟨hXE, hBX⟩ := hBX
    rw [ht1] at hBX
    have hP := pr_l hP hD hk1 hBX
    have hP : va_P D vwCl (cW cI cS G SA sf pa no pts rf rg (nI RL.length) pk ps pt L p1 p2 p3 (nI rows.length) op (nI F) (nI Gn) (cB C) off left wr rc th Z ++ [(o, .inl (cJ, 1, .inr (.inl fo)))]) H1 := hP
    rcases hXE with ⟨hE, hxc⟩ | ⟨hE, hxc⟩
    · subst hE
      refine vx_catch (own := RLw) (name := cIAE) hown (tableOf []) ⟨0, 9, 12, 29⟩ (tableOf [(0, 9, 15, 13)]) (htab.trans rfl) (fun z hz => absurd hz List.not_mem_nil) (by decide) (by decide) (ht _ kw2_128) (ht _ kw2_154) hce hcv hcl ?_
      show W _ _ _ _ _ _ _ _ _ _ _ _ _ _ _ (F0 m 12 ls [.ref q9])
      refine lv_astore_n (lv' := [(3, .ref q9), (0, .ref (G 0)), (1, .int what), (2, .ref o)]) hx hb dL_count_12 rfl hl (by decide) rfl (fun ls hl => ?_)
      refine lv_iconst (v := 1) hx hb dL_count_13 (by decide) ?_
      refine vx_ret ?_
      refine W.widen (k := 80) (n := 8400) (Nat.le_of_ble_eq_true rfl) (Nat.le_of_ble_eq_true rfl) ?_
      exact W.iret (v := 1) hx hb hr (fun t ht2 hW => ⟨⟨1, fo, rfl, Or.inr ⟨by decide, by rw [hxc], rfl⟩, ⟨by (try dsimp only); rw [ht2]; exact hP, by exact hD⟩⟩, hS.F ht2⟩) hS.2.2 dL_count_14
    · subst hE
      refine vx_catch (own := RLw) (name := cISE) hown (tableOf [(0, 9, 12, 29)]) ⟨0, 9, 15, 13⟩ (tableOf []) (htab.trans rfl) (by
          intro z hz
          simp only [tableOf, List.map_cons, List.map_nil, List.mem_cons, List.not_mem_nil, or_false] at hz
          subst hz
          exact Or.inr ⟨by decide, _, ht _ kw2_128, hNC.2.2.2⟩) (by decide) (by decide) (ht _ kw1_210) (ht _ kw1_221) hce hcv hcl ?_
      show W _ _ _ _ _ _ _ _ _ _ _ _ _ _ _ (F0 m 15 ls [.ref q9])
      refine lv_astore_n (lv' := [(3, .ref q9), (0, .ref (G 0)), (1, .int what), (2, .ref o)]) hx hb dL_count_15 rfl hl (by decide) rfl (fun ls hl => ?_)
      refine lv_iconst (v := 2) hx hb dL_count_16 (by decide) ?_
      refine vx_ret ?_
      refine W.widen (k := 80) (n := 8400) (Nat.le_of_ble_eq_true rfl) (Nat.le_of_ble_eq_true rfl) ?_
      exact W.iret (v := 2) hx hb hr (fun t ht2 hW => ⟨⟨2, fo, rfl, Or.inr ⟨by decide, by rw [hxc], rfl⟩, ⟨by (try dsimp only); rw [ht2]; exact hP, by exact hD⟩⟩, hS.F ht2⟩) hS.2.2 dL_count_17
  try dsimp only at w4 hB
  rw [ht1] at hB
  have hP := pr_l hP hD hk1 hB
  generalize H1 = H at hP hS ⊢
  have hP : va_P D vwCl (cW cI cS G SA sf pa no pts rf rg (nI RL.length) pk ps pt L p1 p2 p3 (nI rows.length) op (nI F) (nI Gn) (cB C) off left wr rc th Z ++ [(o, .inl (cJ, 1, .inr (.inl fo)))]) H := hP
  have hD : va_D A (cW cI cS G SA sf pa no pts rf rg (nI RL.length) pk ps pt L p1 p2 p3 (nI rows.length) op (nI F) (nI Gn) (cB C) off left wr rc th Z ++ [(o, .inl (cJ, 1, .inr (.inl fo)))]) := hD
  refine lv_i2l (v := (r4 : Int32).toInt64) hx hb dL_count_7 rfl ?_
  refine ya_last hx hb hK hP hD hS 35 3 rfl rfl 0 (rfl) (by decide) (by decide) dL_count_8 (fun H locs hP hD hS => ?_)
  have hP : va_P D vwCl (cW cI cS G SA sf pa no pts rf rg (nI RL.length) pk ps pt L p1 p2 p3 (nI rows.length) op (nI F) (nI Gn) (cB C) off left wr rc th Z ++ [(o, .inl (cJ, 1, .inr (.inl (vp_updL fo 0 ((r4 : Int32).toInt64)))))]) H := hP
  have hD : va_D A (cW cI cS G SA sf pa no pts rf rg (nI RL.length) pk ps pt L p1 p2 p3 (nI rows.length) op (nI F) (nI Gn) (cB C) off left wr rc th Z ++ [(o, .inl (cJ, 1, .inr (.inl (vp_updL fo 0 ((r4 : Int32).toInt64)))))]) := hD
  refine lv_goto (tgt := 18) hx hb dL_count_9 (by decide) ?_
  refine lv_iconst (v := 0) hx hb dL_count_18 (by decide) ?_
  refine vx_ret ?_
  refine W.widen (k := 80) (n := 8400) (Nat.le_of_ble_eq_true rfl) (Nat.le_of_ble_eq_true rfl) ?_
  exact W.iret (v := 0) hx hb hr (fun t ht2 hW => ⟨⟨0, vp_updL fo 0 ((r4 : Int32).toInt64), rfl, Or.inl ⟨rfl, r4, w4, if_pos rfl⟩, ⟨by (try dsimp only); rw [ht2]; exact hP, by exact hD⟩⟩, hS.F ht2⟩) hS.2.2 dL_count_19

set_option maxHeartbeats 4000000 in
set_option maxRecDepth 100000 in
theorem c_L_share (l : Launch) (hl0 : l.stackTraces = false) (D : va_G) (cI cZ cS cJ : ClassId) (sz : Nat) (G SA : Nat → Nat) (sf : Nat → Option Nat) (hsf : ∀ n, n < 8 → sf n = some (SA n)) (pa no : Nat) (pts rf rg : Nat → Int32) (RL : List (Int32 × Int32)) (pk ps pt L : Nat) (p1 p2 p3 : Nat → Int32) (op off left wr rc th : Int32) (Z : Nat → ST) (mm : Nat → Nat) (rows : List (Int32 × Nat × Nat)) (F Gn : Nat) (C : Bool) (hci : CI mm RL pts rf rg rows L p1 p2 p3 F Gn Z) (o : Nat) (fo : Nat → Int64) (nd : Int32) : vx_Met l yL_share (Cond.codeWith yL_share cL_share 4 (some .int) [(0, 8, 11, 27), (0, 8, 14, 13)] :: TB) ({ frames := 8, cells := 80, slots := 8400, locals := 131 } : Room) (va_Pc [.ref (G 0), .int nd, .ref o] (PZ D (KT cI cZ cS cJ) (cW cI cS G SA sf pa no pts rf rg (nI RL.length) pk ps pt L p1 p2 p3 (nI rows.length) op (nI F) (nI Gn) (cB C) off left wr rc th Z ++ [(o, .inl (cJ, 1, .inr (.inl fo)))]) sz)) (va_Qi (fun k (u : Nat → Int64) => (k = 0 ∧ ∃ r, shrF off mm nd = (0, r) ∧ u 0 = r) ∨ (¬ k = 0 ∧ (shrF off mm nd).1 = k ∧ u = fo)) (fun (u : Nat → Int64) t => va_P D vwCl (cW cI cS G SA sf pa no pts rf rg (nI RL.length) pk ps pt L p1 p2 p3 (nI rows.length) op (nI F) (nI Gn) (cB C) off left wr rc th Z ++ [(o, .inl (cJ, 1, .inr (.inl u)))]) t.heap ∧ va_D (va_A (cW cI cS G SA sf pa no pts rf rg (nI RL.length) pk ps pt L p1 p2 p3 (nI rows.length) op (nI F) (nI Gn) (cB C) off left wr rc th Z ++ [(o, .inl (cJ, 1, .inr (.inl fo)))]) sz) (cW cI cS G SA sf pa no pts rf rg (nI RL.length) pk ps pt L p1 p2 p3 (nI rows.length) op (nI F) (nI Gn) (cB C) off left wr rc th Z ++ [(o, .inl (cJ, 1, .inr (.inl u)))])) (va_A (cW cI cS G SA sf pa no pts rf rg (nI RL.length) pk ps pt L p1 p2 p3 (nI rows.length) op (nI F) (nI Gn) (cB C) off left wr rc th Z ++ [(o, .inl (cJ, 1, .inr (.inl fo)))]) sz)) (vx_X (fun (_ : Unit) => False) (fun _ _ _ => False) (va_A (cW cI cS G SA sf pa no pts rf rg (nI RL.length) pk ps pt L p1 p2 p3 (nI rows.length) op (nI F) (nI Gn) (cB C) off left wr rc th Z ++ [(o, .inl (cJ, 1, .inr (.inl fo)))]) sz)) 80 8400 (va_A (cW cI cS G SA sf pa no pts rf rg (nI RL.length) pk ps pt L p1 p2 p3 (nI rows.length) op (nI F) (nI Gn) (cB C) off left wr rc th Z ++ [(o, .inl (cJ, 1, .inr (.inl fo)))]) sz) := by
  refine vx_ofWH (cc := cL_share) (maxL := 4) (ret := (some .int)) (hh := [(0, 8, 11, 27), (0, 8, 14, 13)]) (by decide) rfl ?_
  intro p e s m args below meth c s₁ B hml hv
  obtain ⟨rfl, ⟨⟨hsz, hP, hK, hD0⟩, hTX⟩, hNC⟩ := hv
  have hx := B.exec
  have hb := B.bytes
  have hr := B.returns
  have hts := atoms_spec (ws := (Cond.codeWith yL_share cL_share 4 (some .int) [(0, 8, 11, 27), (0, 8, 14, 13)] :: TB)) B.pre
  have ht : ∀ w ∈ TB, w.before _ s = true := fun w h => hts w (List.mem_cons_of_mem _ h)
  have htab := vx_table (x := yL_share) B (hts _ List.mem_cons_self)
  have hown : s.vm.findClass RLw = some m.cls := findClass_of_methodNamed B.named
  have hlocks := B.notSynchronized
  subst hsz
  have hD := hD0.self (sz := s.heap.size)
  generalize hAe : va_A (cW cI cS G SA sf pa no pts rf rg (nI RL.length) pk ps pt L p1 p2 p3 (nI rows.length) op (nI F) (nI Gn) (cB C) off left wr rc th Z ++ [(o, .inl (cJ, 1, .inr (.inl fo)))]) s.heap.size = A at hD hTX ⊢
  have hA : ∀ q : Nat, s.heap.size ≤ q → A q := fun q h => by rw [← hAe]; exact Or.inr h
  have hS : va_S A s.heap s.heap [] := va_S.rf
  have hP : va_P D vwCl (cW cI cS G SA sf pa no pts rf rg (nI RL.length) pk ps pt L p1 p2 p3 (nI rows.length) op (nI F) (nI Gn) (cB C) off left wr rc th Z ++ [(o, .inl (cJ, 1, .inr (.inl fo)))]) s.heap := hP
  have hl := lv_entry ([.ref (G 0), .int nd, .ref o]) (n := 4) (Nat.le_of_ble_eq_true rfl)
  rw [lg_entry_eq]
  generalize (lg_sl ([.ref (G 0), .int nd, .ref o]) ++ List.replicate (4 - (lg_sl ([.ref (G 0), .int nd, .ref o])).length) Slot.unset).toArray = ls at hl ⊢
  have hl : lv_has ls 4 [(0, .ref (G 0)), (1, .int nd), (2, .ref o)] := hl
  refine lv_aload_n hx hb dL_share_0 rfl (lv_at hl 2 rfl) ?_
  refine lv_iconst (v := 0) hx hb dL_share_1 (by decide) ?_
  refine lv_aload_n hx hb dL_share_2 rfl (lv_at hl 0 rfl) ?_
  refine lv_iload_n hx hb dL_share_3 rfl (lv_at hl 1 rfl) ?_
  have hPc := pp_l hP
  have hDc := pd_l hD
  have hFc := wfree hDc hS hA
  refine vx_calll (vx_runV (As := [.int nd]) (rest := [.int 0, .ref o]) ⟨hx, hb, hml, hown, ht⟩ (c_X4_share l hl0 D cI cZ cS cJ s.heap.size G SA sf hsf pa no pts rf rg RL pk ps pt L p1 p2 p3 op off left wr rc th Z mm rows F Gn C hci nd) (xwV 1 ht kw3_68 kw3_65 kw1_1 kw3_66 kw3_67 rfl rfl (by decide +kernel) ⟨Nat.le_of_ble_eq_true rfl, Nat.le_of_ble_eq_true rfl⟩) ⟨PX.blind, va_recv hK hPc (ci := 4) (q0 := 0) rfl rfl, fun U hU hW => PX.mk hU hW hPc hK hDc hS hFc hTX⟩ rfl rfl hl.1 rfl (lv_room (Nat.le_of_ble_eq_true rfl)) dL_share_4 ⟨Nat.le_of_ble_eq_true rfl, Nat.le_of_ble_eq_true rfl⟩) hS (fun q _ h => hFc q h) hFc (fun q _ h => hFc q h) (fun E ce q9 u9 t9 H1 locs ht1 hvm _ hBX hz1 hk1 hS hce hcv hcl => ?_) (fun r4 u4 t4 H1 locs ht1 hvm w4 hB hz1 hk1 hS => ?_)
  · obtain ⟨hXE, hBX⟩ := hBX
    rw [ht1] at hBX
    have hP := pr_l hP hD hk1 hBX
    have hP : va_P D vwCl (cW cI cS G SA sf pa no pts rf rg (nI RL.length) pk ps pt L p1 p2 p3 (nI rows.length) op (nI F) (nI Gn) (cB C) off left wr rc th Z ++ [(o, .inl (cJ, 1, .inr (.inl fo)))]) H1 := hP
    rcases hXE with ⟨hE, hxc⟩ | ⟨hE, hxc⟩
    · subst hE
      refine vx_catch (own := RLw) (name := cIOB) hown (tableOf []) ⟨0, 8, 11, 27⟩ (tableOf [(0, 8, 14, 13)]) (htab.trans rfl) (fun z hz => absurd hz List.not_mem_nil) (by decide) (by decide) (ht _ kw2_127) (ht _ kw2_138) hce hcv hcl ?_
      show W _ _ _ _ _ _ _ _ _ _ _ _ _ _ _ (F0 m 11 ls [.ref q9])
      refine lv_astore_n (lv' := [(3, .ref q9), (0, .ref (G 0)), (1, .int nd), (2, .ref o)]) hx hb dL_share_11 rfl hl (by decide) rfl (fun ls hl => ?_)
      refine lv_iconst (v := 1) hx hb dL_share_12 (by decide) ?_
      refine vx_ret ?_
      refine W.widen (k := 80) (n := 8400) (Nat.le_of_ble_eq_true rfl) (Nat.le_of_ble_eq_true rfl) ?_
      exact W.iret (v := 1) hx hb hr (fun t ht2 hW => ⟨⟨1, fo, rfl, Or.inr ⟨by decide, by rw [hxc], rfl⟩, ⟨by (try dsimp only); rw [ht2]; exact hP, by exact hD⟩⟩, hS.F ht2⟩) hS.2.2 dL_share_13
    · subst hE
      refine vx_catch (own := RLw) (name := cISE) hown (tableOf [(0, 8, 11, 27)]) ⟨0, 8, 14, 13⟩ (tableOf []) (htab.trans rfl) (by
          intro z hz
          simp only [tableOf, List.map_cons, List.map_nil, List.mem_cons, List.not_mem_nil, or_false] at hz
          subst hz
          exact Or.inr ⟨by decide, _, ht _ kw2_127, hNC.2.2.1⟩) (by decide) (by decide) (ht _ kw1_210) (ht _ kw1_221) hce hcv hcl ?_
      show W _ _ _ _ _ _ _ _ _ _ _ _ _ _ _ (F0 m 14 ls [.ref q9])
      refine lv_astore_n (lv' := [(3, .ref q9), (0, .ref (G 0)), (1, .int nd), (2, .ref o)]) hx hb dL_share_14 rfl hl (by decide) rfl (fun ls hl => ?_)
      refine lv_iconst (v := 2) hx hb dL_share_15 (by decide) ?_
      refine vx_ret ?_
      refine W.widen (k := 80) (n := 8400) (Nat.le_of_ble_eq_true rfl) (Nat.le_of_ble_eq_true rfl) ?_
      exact W.iret (v := 2) hx hb hr (fun t ht2 hW => ⟨⟨2, fo, rfl, Or.inr ⟨by decide, by rw [hxc], rfl⟩, ⟨by (try dsimp only); rw [ht2]; exact hP, by exact hD⟩⟩, hS.F ht2⟩) hS.2.2 dL_share_16
  try dsimp only at w4 hB
  rw [ht1] at hB
  have hP := pr_l hP hD hk1 hB
  generalize H1 = H at hP hS ⊢
  have hP : va_P D vwCl (cW cI cS G SA sf pa no pts rf rg (nI RL.length) pk ps pt L p1 p2 p3 (nI rows.length) op (nI F) (nI Gn) (cB C) off left wr rc th Z ++ [(o, .inl (cJ, 1, .inr (.inl fo)))]) H := hP
  have hD : va_D A (cW cI cS G SA sf pa no pts rf rg (nI RL.length) pk ps pt L p1 p2 p3 (nI rows.length) op (nI F) (nI Gn) (cB C) off left wr rc th Z ++ [(o, .inl (cJ, 1, .inr (.inl fo)))]) := hD
  refine ya_last hx hb hK hP hD hS 35 3 rfl rfl 0 (rfl) (by decide) (by decide) dL_share_7 (fun H locs hP hD hS => ?_)
  have hP : va_P D vwCl (cW cI cS G SA sf pa no pts rf rg (nI RL.length) pk ps pt L p1 p2 p3 (nI rows.length) op (nI F) (nI Gn) (cB C) off left wr rc th Z ++ [(o, .inl (cJ, 1, .inr (.inl (vp_updL fo 0 r4))))]) H := hP
  have hD : va_D A (cW cI cS G SA sf pa no pts rf rg (nI RL.length) pk ps pt L p1 p2 p3 (nI rows.length) op (nI F) (nI Gn) (cB C) off left wr rc th Z ++ [(o, .inl (cJ, 1, .inr (.inl (vp_updL fo 0 r4))))]) := hD
  refine lv_goto (tgt := 17) hx hb dL_share_8 (by decide) ?_
  refine lv_iconst (v := 0) hx hb dL_share_17 (by decide) ?_
  refine vx_ret ?_
  refine W.widen (k := 80) (n := 8400) (Nat.le_of_ble_eq_true rfl) (Nat.le_of_ble_eq_true rfl) ?_
  exact W.iret (v := 0) hx hb hr (fun t ht2 hW => ⟨⟨0, vp_updL fo 0 r4, rfl, Or.inl ⟨rfl, r4, w4, if_pos rfl⟩, ⟨by (try dsimp only); rw [ht2]; exact hP, by exact hD⟩⟩, hS.F ht2⟩) hS.2.2 dL_share_18
