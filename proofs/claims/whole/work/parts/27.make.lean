-- making arrays of known classes; joins
section MK
variable {p : Program} {l : Launch} {e : Env} {R : Room} {s : State} {m : MethodId} {args : Array Value} {below : List Frame} {meth : Method} {c : Code} {H : Heap} {locs : List Loc} {cells slots : Nat} {Q : State → Prop}
/-- several roads to one place: the rest is walked once -/
theorem wcut {j : Nat} {g : JFrame} (K : Array Slot → Prop) (h1 : ∀ ls, K ls → W p l e R s m args below meth c H locs cells slots Q (F0 m j ls [])) (h2 : (∀ ls, K ls → W p l e R s m args below meth c H locs cells slots Q (F0 m j ls [])) → W p l e R s m args below meth c H locs cells slots Q g) : W p l e R s m args below meth c H locs cells slots Q g := h2 h1
variable {D : va_G} {cl : List vw_C} {tys : List (ClassId × FieldType)} {ws : va_W} {A : Nat → Prop} {H0 : Heap} {cc : ByteArray} {pc a : Nat} {ls : Array Slot} {rest : List Value}
theorem ya_newa (hexec : p.tables.exec = Jvm.exec) (hb : c.code = cc) {atype : ArrayType} (harr : (Cond.arrayClass (newarray.typeOf atype)).before args s = true) {ty : FieldType} (hty : newarray.typeOf atype = ty) (hprim : ∀ C, ty ≠ .object C) (hK : va_K D cl tys s) (t0 : Nat) {cI : ClassId} (ht0 : tys[t0]? = some (cI, ty)) (hP : va_P D cl ws H) (hD : va_D A ws) (hS : va_S A H0 H locs) (hA : ∀ q, H0.size ≤ q → A q)
    {n : Int32} {N' : Nat} {a0 : vp_A} (ha : ∀ cA : ClassId, vp_cell cA a0 = arrV cA N' (fun _ => defaultValue ty)) (hn : ¬ n < 0) (hN : n.toNatClampNeg = N') (hbytes : N' * componentBytes ty ≤ 536870912) (hcells : cells + 1 ≤ R.cells) (hslots : slots + N' ≤ R.slots) (hdg : decode cc pc = .ok (.newarray atype, 2))
    (kk : ∀ (q : Nat) (H1 : Heap), va_P D cl (ws ++ [(q, .inl (cI, a0))]) H1 → va_D A (ws ++ [(q, .inl (cI, a0))]) → va_S A H0 H1 locs →
      W p l e R s m args below meth c H1 locs (cells + 1) (slots + N') Q (F0 m (pc + 2) ls (.ref q :: rest))) : W p l e R s m args below meth c H locs cells slots Q (F0 m pc ls (.int n :: rest)) := by
  refine va_newa hexec hb harr hty hK hP hD hS hA ha hn hN hbytes hcells hslots hdg (fun q cA H1 hK1 hP1 hD1 hS1 => ?_)
  have e1 : s.vm.findClass ("[" ++ ty.toString) = some cA := by
    have h := (hK1.2 tys.length (cA, ty) (by simp)).2
    cases ty with
    | object C => exact absurd rfl (hprim C)
    | _ => exact h
  have e2 : s.vm.findClass ("[" ++ ty.toString) = some cI := by
    have h := (hK.2 t0 (cI, ty) ht0).2
    cases ty with
    | object C => exact absurd rfl (hprim C)
    | _ => exact h
  have e3 : cA = cI := Option.some.inj (e1.symm.trans e2)
  subst e3
  exact kk q H1 hP1 hD1 hS1
theorem ya_newq (hexec : p.tables.exec = Jvm.exec) (hb : c.code = cc) {own C : String} {index : Nat} (hown : s.vm.findClass own = some m.cls) (hclink : (Cond.classLink own index C).before args s = true) (hover : va_AO C s) (hK : va_K D cl tys s) (t0 : Nat) {cS : ClassId} (ht0 : tys[t0]? = some (cS, .object C)) (hP : va_P D cl ws H) (hD : va_D A ws) (hS : va_S A H0 H locs) (hA : ∀ q, H0.size ≤ q → A q)
    {n : Int32} {N' : Nat} (hn : ¬ n < 0) (hN : n.toNatClampNeg = N') (hbytes : N' * 4 ≤ 536870912) (hcells : cells + 1 ≤ R.cells) (hslots : slots + N' ≤ R.slots) (hdg : decode cc pc = .ok (.anewarray index, 3))
    (kk : ∀ (q : Nat) (H1 : Heap), va_P D cl (ws ++ [(q, .inl (cS, N', .inr (.inr (.inr (.inr (fun _ => none))))))]) H1 → va_D A (ws ++ [(q, .inl (cS, N', .inr (.inr (.inr (.inr (fun _ => none))))))]) → va_S A H0 H1 locs →
      W p l e R s m args below meth c H1 locs (cells + 1) (slots + N') Q (F0 m (pc + 3) ls (.ref q :: rest))) : W p l e R s m args below meth c H locs cells slots Q (F0 m pc ls (.int n :: rest)) := by
  refine va_newq hexec hb hown hclink hover hK hP hD hS hA hn hN hbytes hcells hslots hdg (fun q cA H1 hK1 hP1 hD1 hS1 => ?_)
  obtain ⟨-, kA, comp, -, -, -, e1⟩ := hK1.2 tys.length (cA, .object C) (by simp)
  obtain ⟨-, kA2, comp2, -, -, -, e2⟩ := hK.2 t0 (cS, .object C) ht0
  have e3 : cA = cS := Option.some.inj (e1.symm.trans e2)
  subst e3
  exact kk q H1 hP1 hD1 hS1
end MK
/-- the array classes, as the tables have them -/
theorem KT_known {args : Array Value} {s : State} {D : va_G} (hK : va_K D vwCl [] s) (h1 : (Cond.arrayClass .int).before args s = true) (h2 : (Cond.arrayClass .boolean).before args s = true) (h3 : (Cond.arrayClass .long).before args s = true) (h4 : va_AO "ShardRing$Store" s) : ∃ cI cZ cS cJ, va_K D vwCl (KT cI cZ cS cJ) s := by
  obtain ⟨cI, kI, pI, a1, a2, a3⟩ := Cond.arrayClass_spec h1
  obtain ⟨cZ, kZ, pZ, b1, b2, b3⟩ := Cond.arrayClass_spec h2
  obtain ⟨cJ, kJ, pJ, d1, d2, d3⟩ := Cond.arrayClass_spec h3
  obtain ⟨comp, cS, k, f1, -, f3, f4, f5⟩ := Cond.arrayOver_spec h4
  refine ⟨cI, cZ, cS, cJ, hK.1, fun i q hq => ?_⟩
  match i, hq with
  | 0, hq => cases hq; exact ⟨fun n z => ⟨fun k h => (by cases h), kI, a2, pI, a3⟩, a1⟩
  | 1, hq => cases hq; exact ⟨fun n z => ⟨fun k h => (by cases h), kZ, b2, pZ, b3⟩, b1⟩
  | 2, hq => cases hq; exact ⟨fun n z => ⟨fun k h => (by cases h), k, f3, comp, f4⟩, k, comp, f3, f4, f1, f5⟩
  | 3, hq => cases hq; exact ⟨fun n z => ⟨fun k h => (by cases h), kJ, d2, pJ, d3⟩, d1⟩
  | i + 4, hq => simp at hq
/-- the nearest of 1 .. hi -/
def clN (hi : Nat) (x : Int32) : Nat := if x < 1 then 1 else if nI hi < x then hi else x.toNatClampNeg
theorem clN_in {hi : Nat} {x : Int32} (h : 0 < hi) (h2 : hi < 2 ^ 31) : 1 ≤ clN hi x ∧ clN hi x ≤ hi := by
  unfold clN
  split
  · exact ⟨Nat.le_refl _, h⟩
  next c1 =>
    split
    · exact ⟨h, Nat.le_refl _⟩
    next c2 =>
      obtain ⟨j, hj, e⟩ := nI_of (x := x) (fun q => c1 (Int32.lt_trans q (by decide)))
      rw [e, nI_clamp hj]
      constructor
      · refine Nat.pos_of_ne_zero (fun q => c1 ?_)
        rw [e, q]; decide
      · rcases Nat.lt_or_ge hi j with q | q
        · exact absurd (by rw [e]; exact nI_lt q hj) c2
        · exact q
theorem clN_lo {hi : Nat} {x : Int32} (h : x < 1) : nI (clN hi x) = 1 := by unfold clN; rw [if_pos h]; rfl
theorem clN_hi {hi : Nat} {x : Int32} (h : ¬ x < 1) (h2 : nI hi < x) : nI (clN hi x) = nI hi := by unfold clN; rw [if_neg h, if_pos h2]
theorem clN_mid {hi : Nat} {x : Int32} (h : ¬ x < 1) (h2 : ¬ nI hi < x) : nI (clN hi x) = x := by
  unfold clN; rw [if_neg h, if_neg h2]
  obtain ⟨j, hj, e⟩ := nI_of (x := x) (fun q => h (Int32.lt_trans q (by decide)))
  rw [e, nI_clamp hj]
