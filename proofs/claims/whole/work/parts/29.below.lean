-- the class: below, inserted, copyOf
section CP
variable {p : Program} {l : Launch} {e : Env} {R : Room} {s : State} {m : MethodId} {args : Array Value} {below : List Frame} {meth : Method} {c : Code} {H : Heap} {locs : List Loc} {cells slots : Nat} {Q : State → Prop}
variable {D : va_G} {cl : List vw_C} {tys : List (ClassId × FieldType)} {ws : va_W} {A : Nat → Prop} {H0 : Heap} {cc : ByteArray} {pc a : Nat} {ls : Array Slot} {rest : List Value}
theorem ya_copyi (hexec : p.tables.exec = Jvm.exec) (hb : c.code = cc) (hml : c.maxLocals = ls.size) {own : String} {index : Nat} (hown : s.vm.findClass own = some m.cls) (hlink : (Cond.methodLink own index arraycopyName).before args s = true) (hnat : (Cond.native arraycopyName).before args s = true) (hstat : (Cond.static arraycopyName).before args s = true) (hini : (Cond.initialized "java/lang/System").before args s = true)
    (hK : va_K D cl tys s) (hP : va_P D cl ws H) (hD : va_D A ws) (hS : va_S A H0 H locs) (q0 q1 t0 t1 : Nat) {a0 : Nat} {c0 c1 : ClassId} {n0 n1 : Nat} {f g : Nat → Int32} (ha0 : ws[q0]? = some (a0, .inl (c0, n0, .inl f))) (ha1 : ws[q1]? = some (a, .inl (c1, n1, .inl g))) (ht0 : tys[t0]? = some (c0, .int)) (ht1 : tys[t1]? = some (c1, .int))
    {sp dp n : Int32} (i j k : Nat) (hi : sp = nI i) (hj : dp = nI j) (hk : n = nI k) (h0 : n0 < 2 ^ 31) (h1 : n1 < 2 ^ 31) (h4 : i + k ≤ n0) (h5 : j + k ≤ n1)
    (hframes : 1 ≤ R.frames) (hlocals : (rest.map fun v => v.category).sum + (nativeFrameWords "java/lang/System" "arraycopy" 5 + 11) ≤ R.locals) (hdg : decode cc pc = .ok (.invokestatic index, 3))
    (kk : ∀ (H1 : Heap) (locs1 : List Loc), va_P D cl (ws.set q1 (a, .inl (c1, n1, .inl (va_cpy f g i j k)))) H1 → va_D A (ws.set q1 (a, .inl (c1, n1, .inl (va_cpy f g i j k)))) → va_S A H0 H1 locs1 → W p l e R s m args below meth c H1 locs1 cells slots Q (F0 m (pc + 3) ls rest)) : W p l e R s m args below meth c H locs cells slots Q (F0 m pc ls (.int n :: .int dp :: .ref a :: .int sp :: .ref a0 :: rest)) := by
  subst hi; subst hj; subst hk
  have ci := nI_clamp (show i < 2 ^ 31 by omega)
  have cj := nI_clamp (show j < 2 ^ 31 by omega)
  have ck := nI_clamp (show k < 2 ^ 31 by omega)
  refine va_copyi hexec hb hml hown hlink hnat hstat hini hK hP hD hS q0 q1 t0 t1 ha0 ha1 ht0 ht1 rfl (nI_pos (by omega)) (nI_pos (by omega)) (nI_pos (by omega)) (by rw [ci, ck]; exact h4) (by rw [cj, ck]; exact h5) (fun _ _ => rfl) hframes hlocals hdg ?_
  rw [ci, cj, ck]
  exact kk
end CP
/-- k is how many of the first n of an ascending row are below x -/
def BW (f : Nat → Int32) (n : Nat) (x : Int32) (k : Nat) : Prop := k ≤ n ∧ (∀ j, j < k → f j < x) ∧ ∀ j, k ≤ j → j < n → ¬ f j < x
def AS (f : Nat → Int32) (n : Nat) : Prop := ∀ i j, i < j → j < n → f i < f j
theorem BW.ex {f : Nat → Int32} {x : Int32} : ∀ {n : Nat}, AS f n → ∃ k, BW f n x k
  | 0, _ => ⟨0, Nat.le_refl _, fun j h => absurd h (Nat.not_lt_zero _), fun j _ h => absurd h (Nat.not_lt_zero _)⟩
  | n + 1, h => by
    obtain ⟨k, h1, h2, h3⟩ := BW.ex (f := f) (x := x) (n := n) (fun i j hij hj => h i j hij (by omega))
    by_cases c : f n < x
    · refine ⟨n + 1, Nat.le_refl _, fun j hj => ?_, fun j a b => absurd b (by omega)⟩
      rcases Nat.lt_or_ge j n with q | q
      · exact Int32.lt_trans (h j n q (by omega)) c
      · rw [show j = n by omega]; exact c
    · refine ⟨k, by omega, h2, fun j a b => ?_⟩
      rcases Nat.lt_or_ge j n with q | q
      · exact h3 j a q
      · rw [show j = n by omega]; exact c
def pw : Nat → Nat
  | 0 => 0
  | e + 1 => 2 ^ e
def e0 (n : Nat) : Nat := if n = 0 then 0 else n.log2 + 1
theorem hob_pw : ∀ n, n < 1025 → hobF (nI n) = nI (pw (e0 n)) ∧ n < max 1 (2 * pw (e0 n)) ∧ e0 n ≤ 11 := by
  have h : ∀ n ∈ List.range 1025, hobF (nI n) = nI (pw (e0 n)) ∧ n < max 1 (2 * pw (e0 n)) ∧ e0 n ≤ 11 := by decide +kernel
  exact fun n hn => h n (List.mem_range.mpr hn)
theorem pw_le : ∀ e, e ≤ 11 → pw e ≤ 1024 := by
  have h : ∀ e ∈ List.range 12, pw e ≤ 1024 := by decide +kernel
  exact fun e he => h e (List.mem_range.mpr (by omega))
theorem pw_half (e : Nat) : pw (e + 1) / 2 = pw e := by
  cases e with
  | zero => rfl
  | succ e => show 2 ^ (e + 1) / 2 = 2 ^ e; rw [Nat.pow_succ]; omega
theorem pw_pos (e : Nat) : 0 < pw (e + 1) := Nat.two_pow_pos e
theorem pw_even (e : Nat) : pw (e + 1) = 1 ∨ pw (e + 1) = 2 * pw e := by
  cases e with
  | zero => exact Or.inl rfl
  | succ e => right; show 2 ^ (e + 1) = 2 * 2 ^ e; rw [Nat.pow_succ]; omega
theorem pw_even2 (e : Nat) : pw (e + 1) = max 1 (2 * pw e) := by
  rcases pw_even e with h | h
  · cases e with
    | zero => rfl
    | succ e => have := pw_pos e; have h2 : pw (e + 1 + 1) = 2 * pw (e + 1) := (show 2 ^ (e + 1) = 2 * 2 ^ e by rw [Nat.pow_succ]; omega); omega
  · have := pw_pos e; omega
theorem shr1 {n : Nat} (h : n < 2 ^ 31) : nI n >>> ((1 : Int32) &&& 31) = nI (n / 2) := pk_shrN h _ 1 (by decide)

set_option maxHeartbeats 4000000 in
set_option maxRecDepth 100000 in
theorem c_X4_below (l : Launch) (D : va_G) (cI cZ cS cJ : ClassId) (sz : Nat) (a L : Nat) (f : Nat → Int32) (n : Nat) (x : Int32) (hL : L < 2 ^ 30) (hn : n ≤ L) (hn2 : n ≤ 1024) (has : AS f n) : Met l yX4_below (Cond.code yX4_below cX4_below 5 (some .int) :: TB) ({ frames := 2, cells := 0, slots := 0, locals := 41 } : Room) (va_Pc [.ref a, .int (nI n), .int x] (PB D (KT cI cZ cS cJ) ([(a, .inl (cI, L, .inl f))]) sz)) (va_Qi (fun r (_ : Unit) => ∃ k, r = nI k ∧ BW f n x k) (fun (_ : Unit) t => va_P D vwCl ([(a, .inl (cI, L, .inl f))]) t.heap) (va_A ([(a, .inl (cI, L, .inl f))]) sz)) 0 0 (va_A ([(a, .inl (cI, L, .inl f))]) sz) := by
  refine Met.ofW (cc := cX4_below) (maxL := 5) (ret := (some .int)) (by decide) rfl ?_
  intro p e s m args below meth c s₁ B hml hv
  obtain ⟨rfl, hsz, hP, hK, hD0⟩ := hv
  have hx := B.exec
  have hb := B.bytes
  have hr := B.returns
  have hts := atoms_spec (ws := (Cond.code yX4_below cX4_below 5 (some .int) :: TB)) B.pre
  have ht : ∀ w ∈ TB, w.before _ s = true := fun w h => hts w (List.mem_cons_of_mem _ h)
  have hown : s.vm.findClass RX4 = some m.cls := findClass_of_methodNamed B.named
  have hlocks := B.notSynchronized
  subst hsz
  have hD := hD0.self (sz := s.heap.size)
  generalize hAe : va_A ([(a, .inl (cI, L, .inl f))]) s.heap.size = A at hD ⊢
  have hA : ∀ q : Nat, s.heap.size ≤ q → A q := fun q h => by rw [← hAe]; exact Or.inr h
  have hS : va_S A s.heap s.heap [] := va_S.rf
  have hP : va_P D vwCl ([(a, .inl (cI, L, .inl f))]) s.heap := hP
  have hl := lv_entry ([.ref a, .int (nI n), .int x]) (n := 5) (Nat.le_of_ble_eq_true rfl)
  rw [lg_entry_eq]
  generalize (lg_sl ([.ref a, .int (nI n), .int x]) ++ List.replicate (5 - (lg_sl ([.ref a, .int (nI n), .int x])).length) Slot.unset).toArray = ls at hl ⊢
  have hl : lv_has ls 5 [(0, .ref a), (1, .int (nI n)), (2, .int x)] := hl
  refine lv_iconst (v := 0) hx hb dX4_below_0 (by decide) ?_
  refine lv_istore_n (lv' := [(3, .int 0), (0, .ref a), (1, .int (nI n)), (2, .int x)]) hx hb dX4_below_1 rfl hl (by decide) rfl (fun ls hl => ?_)
  refine lv_iload_n hx hb dX4_below_2 rfl (lv_at hl 2 rfl) ?_
  have hPc : va_P D vwCl [] s.heap := va_P.nil
  have hDc : va_D A [] := va_D.nil
  have hFc := va_free (wc := []) hD hS hA [] rfl
  refine va_calli (va_runS (As := [.int (nI n)]) (rest := []) ⟨hx, hb, hml, hown, ht⟩ (c_J6_highestOneBit_0f7a4 l D cI cZ cS cJ s.heap.size (nI n)) (xwS 1 ht kw1_151 kw1_149 kw1_8 kw1_150 rfl rfl (by decide +kernel) ⟨Nat.le_of_ble_eq_true rfl, Nat.le_of_ble_eq_true rfl⟩) ⟨PB.blind, fun U hU hW => PB.mk hU hW hPc hK hDc⟩ rfl rfl hl.1 rfl (lv_room (Nat.le_of_ble_eq_true rfl)) dX4_below_3 ⟨Nat.le_of_ble_eq_true rfl, Nat.le_of_ble_eq_true rfl⟩) hS (fun q _ h => hFc q h) hFc (fun r3 u3 t3 H1 locs ht1 hvm w3 hB hz1 hk1 hS => ?_)
  try dsimp only at w3 hB
  rw [ht1] at hB
  have hP := wk_ro (wc := []) hP hD [] rfl hk1 va_P.nil
  generalize H1 = H at hP hS ⊢
  obtain ⟨hh1, hh2, hh3⟩ := hob_pw n (by omega)
  rw [hh1] at w3
  have w3 := w3.symm
  subst w3
  obtain ⟨k, hk⟩ := BW.ex (x := x) has
  obtain ⟨hk1, hk2, hk3⟩ := id hk
  refine lv_istore (lv' := [(4, .int (nI (pw (e0 n)))), (3, .int 0), (0, .ref a), (1, .int (nI n)), (2, .int x)]) hx hb dX4_below_6 hl (by decide) rfl (fun ls hl => ?_)
  refine lpA (pc := 8) (ι := Nat × Nat) (fun z ls => lv_has ls 5 [(4, .int (nI (pw z.2))), (3, .int (nI z.1)), (0, .ref a), (1, .int (nI n)), (2, .int x)] ∧ z.1 ≤ k ∧ k < z.1 + max 1 (2 * pw z.2) ∧ z.2 ≤ 11) (fun z => z.2) (0, e0 n) (⟨lv_sub hl [0, 1, 2, 3, 4] rfl, ⟨Nat.zero_le _, by (dsimp only); omega, hh3⟩⟩) ?_
  intro z ls hI ih8
  obtain ⟨fo, e9⟩ := z
  obtain ⟨hl, hinv⟩ := hI
  have hl : lv_has ls 5 [(4, .int (nI (pw e9))), (3, .int (nI fo)), (0, .ref a), (1, .int (nI n)), (2, .int x)] := hl
  obtain ⟨hfo, hke, he9⟩ : fo ≤ k ∧ k < fo + max 1 (2 * pw e9) ∧ e9 ≤ 11 := hinv
  have hp9 := pw_le e9 he9
  refine lv_iload hx hb dX4_below_8 (lv_at hl 0 rfl) ?_
  refine lv_if_le (tgt := 47) hx hb dX4_below_10 (by decide) (fun c10 => ?_) (fun c10 => ?_)
  · have hz : pw e9 = 0 := by
      rcases Nat.eq_zero_or_pos (pw e9) with q | q
      · exact q
      · exact absurd c10 (nI_nle q (by omega))
    have hfk : fo = k := by omega
    refine lv_iload_n hx hb dX4_below_47 rfl (lv_at hl 1 rfl) ?_
    exact W.iret (v := nI fo) hx hb hr (fun t ht2 hW => ⟨⟨nI fo, (), rfl, ⟨fo, rfl, by rw [hfk]; exact hk⟩, by (try dsimp only); rw [ht2]; exact hP⟩, hS.F ht2⟩) hS.2.2 dX4_below_48
  · obtain ⟨e, hee⟩ : ∃ e, e9 = e + 1 := by
      cases e9 with
      | zero => exact absurd (show nI 0 ≤ 0 by decide) c10
      | succ e => exact ⟨e, rfl⟩
    subst hee
    have hps := pw_pos e
    have hev := pw_even2 e
    have hpl := pw_le e (by omega)
    refine lv_iload_n hx hb dX4_below_13 rfl (lv_at hl 1 rfl) ?_
    refine lv_iload hx hb dX4_below_14 (lv_at hl 0 rfl) ?_
    refine lv_iadd hx hb dX4_below_16 ?_
    refine lv_iload_n hx hb dX4_below_17 rfl (lv_at hl 3 rfl) ?_
    refine lv_icmp_gt (tgt := 38) hx hb dX4_below_18 (by decide) (fun c18 => ?_) (fun c18 => ?_)
    · have hgo : ¬ fo + pw (e + 1) ≤ n := fun q => by rw [nI_add] at c18; exact absurd c18 (nI_nlt q (by omega))
      have hnk : k < fo + pw (e + 1) := by omega
      refine lv_iload hx hb dX4_below_38 (lv_at hl 0 rfl) ?_
      refine lv_iconst (v := 1) hx hb dX4_below_40 (by decide) ?_
      refine lv_ishr hx hb dX4_below_41 ?_
      rw [shr1 (by omega), pw_half]
      refine lv_istore (lv' := [(4, .int (nI (pw e))), (3, .int (nI fo)), (0, .ref a), (1, .int (nI n)), (2, .int x)]) hx hb dX4_below_42 hl (by decide) rfl (fun ls hl => ?_)
      refine lv_goto (tgt := 8) hx hb dX4_below_44 (by decide) ?_
      exact ih8 (fo, e) ls (⟨lv_sub hl [0, 1, 2, 3, 4] rfl, ⟨by (dsimp only); omega, by (dsimp only); omega, by (dsimp only); omega⟩⟩) (by show e < e + 1; omega)
    · have hgo : fo + pw (e + 1) ≤ n := by
        rcases Nat.lt_or_ge n (fo + pw (e + 1)) with q | q
        · exact absurd (by rw [nI_add]; exact nI_lt q (by omega)) c18
        · exact q
      refine lv_aload_n hx hb dX4_below_21 rfl (lv_at hl 2 rfl) ?_
      refine lv_iload_n hx hb dX4_below_22 rfl (lv_at hl 1 rfl) ?_
      refine lv_iload hx hb dX4_below_23 (lv_at hl 0 rfl) ?_
      refine lv_iadd hx hb dX4_below_25 ?_
      refine lv_iconst (v := 1) hx hb dX4_below_26 (by decide) ?_
      refine lv_isub hx hb dX4_below_27 ?_
      refine ya_iald hx hb hK hP 0 0 rfl rfl (fo + pw (e + 1) - 1) (by rw [nI_add, show (1 : Int32) = nI 1 from rfl, pk_sub (by omega)]) (by omega) (by omega) dX4_below_28 ?_
      refine lv_iload_n hx hb dX4_below_29 rfl (lv_at hl 4 rfl) ?_
      refine lv_icmp_ge (tgt := 38) hx hb dX4_below_30 (by decide) (fun c30 => ?_) (fun c30 => ?_)
      · have hnk : k < fo + pw (e + 1) := by
          rcases Nat.lt_or_ge (fo + pw (e + 1) - 1) k with q | q
          · exact absurd (hk2 _ q) (Int32.not_lt.mpr c30)
          · omega
        refine lv_iload hx hb dX4_below_38 (lv_at hl 0 rfl) ?_
        refine lv_iconst (v := 1) hx hb dX4_below_40 (by decide) ?_
        refine lv_ishr hx hb dX4_below_41 ?_
        rw [shr1 (by omega), pw_half]
        refine lv_istore (lv' := [(4, .int (nI (pw e))), (3, .int (nI fo)), (0, .ref a), (1, .int (nI n)), (2, .int x)]) hx hb dX4_below_42 hl (by decide) rfl (fun ls hl => ?_)
        refine lv_goto (tgt := 8) hx hb dX4_below_44 (by decide) ?_
        exact ih8 (fo, e) ls (⟨lv_sub hl [0, 1, 2, 3, 4] rfl, ⟨by (dsimp only); omega, by (dsimp only); omega, by (dsimp only); omega⟩⟩) (by show e < e + 1; omega)
      · have hnk : fo + pw (e + 1) ≤ k := by
          rcases Nat.lt_or_ge (fo + pw (e + 1) - 1) k with q | q
          · omega
          · exact absurd (Int32.not_le.mp c30) (hk3 _ q (by omega))
        refine lv_iload_n hx hb dX4_below_33 rfl (lv_at hl 1 rfl) ?_
        refine lv_iload hx hb dX4_below_34 (lv_at hl 0 rfl) ?_
        refine lv_iadd hx hb dX4_below_36 ?_
        rw [nI_add]
        refine lv_istore_n (lv' := [(3, .int (nI (fo + pw (e + 1)))), (4, .int (nI (pw (e + 1)))), (0, .ref a), (1, .int (nI n)), (2, .int x)]) hx hb dX4_below_37 rfl hl (by decide) rfl (fun ls hl => ?_)
        refine lv_iload hx hb dX4_below_38 (lv_at hl 1 rfl) ?_
        refine lv_iconst (v := 1) hx hb dX4_below_40 (by decide) ?_
        refine lv_ishr hx hb dX4_below_41 ?_
        rw [shr1 (by omega), pw_half]
        refine lv_istore (lv' := [(4, .int (nI (pw e))), (3, .int (nI (fo + pw (e + 1)))), (0, .ref a), (1, .int (nI n)), (2, .int x)]) hx hb dX4_below_42 hl (by decide) rfl (fun ls hl => ?_)
        refine lv_goto (tgt := 8) hx hb dX4_below_44 (by decide) ?_
        exact ih8 (fo + pw (e + 1), e) ls (⟨lv_sub hl [0, 1, 2, 3, 4] rfl, ⟨by (dsimp only); omega, by (dsimp only); omega, by (dsimp only); omega⟩⟩) (by show e < e + 1; omega)

set_option maxHeartbeats 4000000 in
set_option maxRecDepth 100000 in
theorem c_J7_copyOf_59c91 (l : Launch) (D : va_G) (cI cZ cS cJ : ClassId) (sz : Nat) (a L : Nat) (f : Nat → Int32) (N : Nat) (hLN : L < N) (hN : N < 2 ^ 20) : Met l yJ7_copyOf_59c91 (Cond.code yJ7_copyOf_59c91 cJ7_copyOf_59c91 3 (some (.array .int)) :: TB) ({ frames := 1, cells := 1, slots := N, locals := 40 } : Room) (va_Pc [.ref a, .int (nI N)] (PB D (KT cI cZ cS cJ) ([(a, .inl (cI, L, .inl f))]) sz)) (va_Qr (fun (u : Nat → Int32) => ∀ j, j < L → u j = f j) (fun (u : Nat → Int32) ra t => va_P D vwCl [(ra, .inl (cI, N, .inl u))] t.heap ∧ va_D (va_A [(a, .inl (cI, L, .inl f))] sz) [(ra, .inl (cI, N, .inl u))]) (va_A ([(a, .inl (cI, L, .inl f))]) sz)) 1 N (va_A ([(a, .inl (cI, L, .inl f))]) sz) := by
  refine Met.ofW (cc := cJ7_copyOf_59c91) (maxL := 3) (ret := (some (.array .int))) (by decide) rfl ?_
  intro p e s m args below meth c s₁ B hml hv
  obtain ⟨rfl, hsz, hP, hK, hD0⟩ := hv
  have hx := B.exec
  have hb := B.bytes
  have hr := B.returns
  have hts := atoms_spec (ws := (Cond.code yJ7_copyOf_59c91 cJ7_copyOf_59c91 3 (some (.array .int)) :: TB)) B.pre
  have ht : ∀ w ∈ TB, w.before _ s = true := fun w h => hts w (List.mem_cons_of_mem _ h)
  have hown : s.vm.findClass RJ7 = some m.cls := findClass_of_methodNamed B.named
  have hlocks := B.notSynchronized
  subst hsz
  have hD := hD0.self (sz := s.heap.size)
  generalize hAe : va_A ([(a, .inl (cI, L, .inl f))]) s.heap.size = A at hD ⊢
  have hA : ∀ q : Nat, s.heap.size ≤ q → A q := fun q h => by rw [← hAe]; exact Or.inr h
  have hS : va_S A s.heap s.heap [] := va_S.rf
  have hP : va_P D vwCl ([(a, .inl (cI, L, .inl f))]) s.heap := hP
  have hl := lv_entry ([.ref a, .int (nI N)]) (n := 3) (Nat.le_of_ble_eq_true rfl)
  rw [lg_entry_eq]
  generalize (lg_sl ([.ref a, .int (nI N)]) ++ List.replicate (3 - (lg_sl ([.ref a, .int (nI N)])).length) Slot.unset).toArray = ls at hl ⊢
  have hl : lv_has ls 3 [(0, .ref a), (1, .int (nI N))] := hl
  refine lv_iload_n hx hb dJ7_copyOf_59c91_0 rfl (lv_at hl 1 rfl) ?_
  refine lv_aload_n hx hb dJ7_copyOf_59c91_1 rfl (lv_at hl 0 rfl) ?_
  refine va_alen hx hb hK hP 0 0 rfl rfl (v := nI L) rfl dJ7_copyOf_59c91_2 ?_
  refine lv_icmp_ne (tgt := 14) hx hb dJ7_copyOf_59c91_3 (by decide) (fun c3 => ?_) (fun c3 => absurd ((nI_eq (by omega) (by omega)).mp c3) (by omega))
  refine lv_iload_n hx hb dJ7_copyOf_59c91_14 rfl (lv_at hl 1 rfl) ?_
  refine ya_newa (atype := .int) (ty := .int) hx hb (ht _ kw1_54) rfl (fun C h => by cases h) hK 0 rfl hP hD hS hA (a0 := (N, .inl (fun _ => 0))) (fun _ => rfl) (nI_pos (by omega)) (nI_clamp (by omega)) (by show N * 4 ≤ _; omega) (Nat.le_refl _) (by show 0 + N ≤ N; omega) dJ7_copyOf_59c91_15 (fun q15 H hP hD hS => ?_)
  have hP : va_P D vwCl ([(a, .inl (cI, L, .inl f)), (q15, .inl (cI, N, .inl (fun _ => 0)))]) H := hP
  have hD : va_D A ([(a, .inl (cI, L, .inl f)), (q15, .inl (cI, N, .inl (fun _ => 0)))]) := hD
  refine lv_astore_n (lv' := [(2, .ref q15), (0, .ref a), (1, .int (nI N))]) hx hb dJ7_copyOf_59c91_17 rfl hl (by decide) rfl (fun ls hl => ?_)
  refine lv_aload_n hx hb dJ7_copyOf_59c91_18 rfl (lv_at hl 1 rfl) ?_
  refine lv_iconst (v := 0) hx hb dJ7_copyOf_59c91_19 (by decide) ?_
  refine lv_aload_n hx hb dJ7_copyOf_59c91_20 rfl (lv_at hl 0 rfl) ?_
  refine lv_iconst (v := 0) hx hb dJ7_copyOf_59c91_21 (by decide) ?_
  refine lv_aload_n hx hb dJ7_copyOf_59c91_22 rfl (lv_at hl 1 rfl) ?_
  refine va_alen hx hb hK hP 0 0 rfl rfl (v := nI L) rfl dJ7_copyOf_59c91_23 ?_
  refine lv_iload_n hx hb dJ7_copyOf_59c91_24 rfl (lv_at hl 2 rfl) ?_
  refine va_mmin hx hb (by rw [hml]; exact hl.1.symm) hown (ht _ kw1_170) (ht _ kw1_28) (ht _ kw1_2) (ht _ kw1_29) (Nat.le_of_ble_eq_true rfl) (Nat.le_of_ble_eq_true rfl) (Nat.le_refl _) (by show 0 + N ≤ N; omega) dJ7_copyOf_59c91_25 ?_
  refine ya_copyi hx hb (by rw [hml]; exact hl.1.symm) hown (ht _ kw1_171) (ht _ kw1_173) (ht _ kw1_172) (ht _ kw1_10) hK hP hD hS 0 1 0 0 rfl rfl rfl rfl 0 0 L (rfl) (rfl) (by rw [if_neg (nI_nlt (Nat.le_of_lt hLN) (by omega))]) (by omega) (by omega) (by omega) (by omega) (Nat.le_of_ble_eq_true rfl) (Nat.le_of_ble_eq_true rfl) dJ7_copyOf_59c91_28 (fun H locs hP hD hS => ?_)
  have hP : va_P D vwCl ([(a, .inl (cI, L, .inl f)), (q15, .inl (cI, N, .inl (va_cpy f (fun _ => 0) 0 0 L)))]) H := hP
  have hD : va_D A ([(a, .inl (cI, L, .inl f)), (q15, .inl (cI, N, .inl (va_cpy f (fun _ => 0) 0 0 L)))]) := hD
  refine lv_aload_n hx hb dJ7_copyOf_59c91_31 rfl (lv_at hl 0 rfl) ?_
  refine W.widen (k := 1) (n := N) (Nat.le_refl _) (by omega) ?_
  exact W.aret (v := .ref q15) hx hb hr (Or.inr ⟨_, rfl⟩) (Or.inr ⟨_, rfl⟩) (fun t ht2 hW => ⟨⟨va_cpy f (fun _ => 0) 0 0 L, q15, rfl, fun j hj => by (try dsimp only); rw [pk_cpy_in (by omega) (by omega)]; congr 1; omega, ⟨by (try dsimp only); rw [ht2]; exact hP.sub [1] rfl, by exact hD.sub [1] (by decide) rfl⟩⟩, hS.F ht2⟩) hS.2.2 dJ7_copyOf_59c91_32
