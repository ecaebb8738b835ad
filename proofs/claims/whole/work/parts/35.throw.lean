-- what a throw needs: the statics of Throwable, the texts, the words
def xNames : List String := ["java/lang/RuntimeException", "java/lang/Exception"]
def xStr : List (Nat × String) := [(106, "points are not 1 .. 16"), (116, "there is a plan, or the node is a member"), (128, "there is a plan, or the node is no member or the only one"), (133, "there is no plan"), (151, "n is below -1"), (159, "the power is on"), (177, "the node has not so many keys"), (183, "what is not 0, 1 or 2"), (195, "the power is off"), (197, "there is no such node"), (70, "256 other keys are there"), (95, "the key is not there")]
def TX (A : Nat → Prop) (U : State) : Prop := vx_Zq Bundle.tN "UNASSIGNED_STACK" Bundle.steD A U U.heap ∧ vx_Zq Bundle.tN "SUPPRESSED_SENTINEL" Bundle.listD A U U.heap ∧ ∀ x ∈ xStr, ∃ sa, vk_R RX4 x.1 x.2 sa U
def PX (D : va_G) (tys : List (ClassId × FieldType)) (wc : va_W) (sz : Nat) (U : State) : Prop := PB D tys wc sz U ∧ TX (va_A wc sz) U
theorem PX.blind {D : va_G} {tys : List (ClassId × FieldType)} {av : List Value} {wc : va_W} {sz : Nat} : FrameBlind (va_Pc av (PX D tys wc sz)) := fun a U g mk q => by
  obtain ⟨q0, ⟨q1, qP, qK, qD⟩, h1, h2, h3⟩ := q
  refine ⟨q0, ⟨q1, qP, va_K.moved (u := U) (U := U.calling g mk a) (Vm.Alike.refl U.vm) qK, qD⟩, vx_Zq.moved (U := U.calling g mk a) (Vm.Alike.refl U.vm) h1, vx_Zq.moved (U := U.calling g mk a) (Vm.Alike.refl U.vm) h2, fun x hx => ?_⟩
  obtain ⟨sa, h⟩ := h3 x hx
  exact ⟨sa, vk_R.same (u := U) rfl h⟩
theorem PX.mk {D : va_G} {tys : List (ClassId × FieldType)} {av : List Value} {wc : va_W} {H : Heap} {locs : List Loc} {s U : State} {A : Nat → Prop} (hU : U.heap = H) (hW : s.WarmedH U.vm) (hP : va_P D vwCl wc H) (hK : va_K D vwCl tys s) (hD : va_D A wc) (hS : va_S A s.heap H locs) (hF : ∀ q, va_A wc H.size q → A q) (hT : TX A s) : va_Pc av (PX D tys wc H.size) av.toArray U := by
  obtain ⟨h1, h2, h3⟩ := hT
  refine ⟨rfl, (PB.mk (av := av) hU hW hP hK hD).2, ?_, ?_, fun x hx => ?_⟩
  · rw [hU]; exact vx_Zq.moved hW.alike ((h1.kept hS.2.1).narrow hF)
  · rw [hU]; exact vx_Zq.moved hW.alike ((h2.kept hS.2.1).narrow hF)
  · obtain ⟨sa, h⟩ := h3 x hx
    exact ⟨sa, vk_R.warm hW h⟩
theorem xout {D : va_G} {cl : List vw_C} {ws : va_W} {A : Nat → Prop} {H : Heap} {locs : List Loc} {s t : State} (hP : va_P D cl ws H) (hS : va_S A s.heap H locs) (h1 : H.size ≤ t.heap.size) (h2 : ∀ q : Nat, q < H.size → t.heap[q]? = H[q]?) : va_P D cl ws t.heap ∧ va_F A s t :=
  ⟨hP.kept (fun k q hk => h2 q.1 (hP k q hk).lt), Nat.le_trans hS.1 h1, fun q a b => (h2 q (Nat.lt_of_lt_of_le a hS.1)).trans (hS.2.1 q a b)⟩
abbrev cISE : String := "java/lang/IllegalStateException"
abbrev cNSE : String := "java/util/NoSuchElementException"
abbrev cIAE : String := "java/lang/IllegalArgumentException"
abbrev cIOB : String := "java/lang/IndexOutOfBoundsException"
theorem xa_72 : ∀ w ∈ vx_atS RX4 72 cISE xNames, w ∈ lw_tbl := by decide +kernel
theorem xa_108 : ∀ w ∈ vx_atS RX4 108 cIAE xNames, w ∈ lw_tbl := by decide +kernel
theorem xa_179 : ∀ w ∈ vx_atS RX4 179 cIOB xNames, w ∈ lw_tbl := by decide +kernel
theorem xt_72 : ∀ w ∈ vx_atS RX4 72 cISE xNames, w ∈ TB := fun w h => List.mem_filter.mpr ⟨xa_72 w h, (show ∀ w ∈ vx_atS RX4 72 cISE xNames, okW w = true by decide +kernel) w h⟩
theorem xt_108 : ∀ w ∈ vx_atS RX4 108 cIAE xNames, w ∈ TB := fun w h => List.mem_filter.mpr ⟨xa_108 w h, (show ∀ w ∈ vx_atS RX4 108 cIAE xNames, okW w = true by decide +kernel) w h⟩
theorem xt_179 : ∀ w ∈ vx_atS RX4 179 cIOB xNames, w ∈ TB := fun w h => List.mem_filter.mpr ⟨xa_179 w h, (show ∀ w ∈ vx_atS RX4 179 cIOB xNames, okW w = true by decide +kernel) w h⟩
theorem xg_72 : ∀ w ∈ Cond.classLink RX4 68 cISE :: Cond.initialized cISE :: vx_atS RX4 72 cISE xNames, vx_ot w = true := by decide +kernel
theorem xg_108 : ∀ w ∈ Cond.classLink RX4 104 cIAE :: Cond.initialized cIAE :: vx_atS RX4 108 cIAE xNames, vx_ot w = true := by decide +kernel
theorem xg_179 : ∀ w ∈ Cond.classLink RX4 175 cIOB :: Cond.initialized cIOB :: vx_atS RX4 179 cIOB xNames, vx_ot w = true := by decide +kernel
theorem xf_n : ∀ n ∈ xNames, Bundle.fit n = true := by decide +kernel
/-- stores: addresses of keys and values, their lengths, what they hold, the list -/
abbrev ST : Type := Nat × Nat × Nat × Nat × (Nat → Int32) × (Nat → Int32) × List (Int32 × Int32)
abbrev zK (z : ST) : Nat := z.1
abbrev zV (z : ST) : Nat := z.2.1
abbrev zL1 (z : ST) : Nat := z.2.2.1
abbrev zL2 (z : ST) : Nat := z.2.2.2.1
abbrev zF (z : ST) : Nat → Int32 := z.2.2.2.2.1
abbrev zG (z : ST) : Nat → Int32 := z.2.2.2.2.2.1
abbrev zL (z : ST) : List (Int32 × Int32) := z.2.2.2.2.2.2
abbrev stE (cI : ClassId) (a : Nat) (z : ST) : va_W := [(a, .inr (3, [.ref (zK z), .ref (zV z), .int (nI (zL z).length)])), (zK z, .inl (cI, zL1 z, .inl (zF z))), (zV z, .inl (cI, zL2 z, .inl (zG z)))]
abbrev stW (cI : ClassId) (SA : Nat → Nat) (Z : Nat → ST) : va_W := stE cI (SA 0) (Z 0) ++ (stE cI (SA 1) (Z 1) ++ (stE cI (SA 2) (Z 2) ++ (stE cI (SA 3) (Z 3) ++ (stE cI (SA 4) (Z 4) ++ (stE cI (SA 5) (Z 5) ++ (stE cI (SA 6) (Z 6) ++ stE cI (SA 7) (Z 7)))))))
abbrev cW (cI cS : ClassId) (G SA : Nat → Nat) (sf : Nat → Option Nat) (pa no : Nat) (pts rf rg : Nat → Int32) (rs : Int32) (pk ps pt L : Nat) (p1 p2 p3 : Nat → Int32) (sz op fl go cp off left wr rc th : Int32) (Z : Nat → ST) : va_W :=
  [(G 0, .inr (4, [.ref (G 1), .ref (G 3), .ref (G 4), .ref (G 5), .int th])), (G 1, .inr (2, [.ref (G 2), .ref pa, .ref no, .int rs])), (G 2, .inl (cI, 8, .inl pts)), (pa, .inl (cI, 128, .inl rf)), (no, .inl (cI, 128, .inl rg)), (G 3, .inl (cS, 8, .inr (.inr (.inr (.inr sf))))),
   (G 4, .inr (0, [.ref pk, .ref ps, .ref pt, .int sz, .int op, .int fl, .int go, .int cp])), (pk, .inl (cI, L, .inl p1)), (ps, .inl (cI, L, .inl p2)), (pt, .inl (cI, L, .inl p3)), (G 5, .inr (1, [.int off, .int left, .int wr, .int rc]))] ++ stW cI SA Z
section StW
variable {cI : ClassId} {SA : Nat → Nat} {Z : Nat → ST} {b0 b1 b2 b3 b4 b5 b6 b7 b8 b9 b10 : Nat × va_E} {n : Nat}
theorem st_8 {P : Nat → Prop} (hn : n < 8) (h0 : P 0) (h1 : P 1) (h2 : P 2) (h3 : P 3) (h4 : P 4) (h5 : P 5) (h6 : P 6) (h7 : P 7) : P n := by
  match n, hn with
  | 0, _ => exact h0
  | 1, _ => exact h1
  | 2, _ => exact h2
  | 3, _ => exact h3
  | 4, _ => exact h4
  | 5, _ => exact h5
  | 6, _ => exact h6
  | 7, _ => exact h7
theorem st_e0 (hn : n < 8) : ([b0, b1, b2, b3, b4, b5, b6, b7, b8, b9, b10] ++ stW cI SA Z)[11 + 3 * n]? = some (SA n, .inr (3, [.ref (zK (Z n)), .ref (zV (Z n)), .int (nI (zL (Z n)).length)])) := st_8 (P := fun n => ([b0, b1, b2, b3, b4, b5, b6, b7, b8, b9, b10] ++ stW cI SA Z)[11 + 3 * n]? = some (SA n, .inr (3, [.ref (zK (Z n)), .ref (zV (Z n)), .int (nI (zL (Z n)).length)]))) hn rfl rfl rfl rfl rfl rfl rfl rfl
theorem st_e1 (hn : n < 8) : ([b0, b1, b2, b3, b4, b5, b6, b7, b8, b9, b10] ++ stW cI SA Z)[12 + 3 * n]? = some (zK (Z n), .inl (cI, zL1 (Z n), .inl (zF (Z n)))) := st_8 (P := fun n => ([b0, b1, b2, b3, b4, b5, b6, b7, b8, b9, b10] ++ stW cI SA Z)[12 + 3 * n]? = some (zK (Z n), .inl (cI, zL1 (Z n), .inl (zF (Z n))))) hn rfl rfl rfl rfl rfl rfl rfl rfl
theorem st_e2 (hn : n < 8) : ([b0, b1, b2, b3, b4, b5, b6, b7, b8, b9, b10] ++ stW cI SA Z)[13 + 3 * n]? = some (zV (Z n), .inl (cI, zL2 (Z n), .inl (zG (Z n)))) := st_8 (P := fun n => ([b0, b1, b2, b3, b4, b5, b6, b7, b8, b9, b10] ++ stW cI SA Z)[13 + 3 * n]? = some (zV (Z n), .inl (cI, zL2 (Z n), .inl (zG (Z n))))) hn rfl rfl rfl rfl rfl rfl rfl rfl
theorem st_map (hn : n < 8) : [11 + 3 * n, 12 + 3 * n, 13 + 3 * n].map (fun i => ([b0, b1, b2, b3, b4, b5, b6, b7, b8, b9, b10] ++ stW cI SA Z)[i]?) = (stE cI (SA n) (Z n)).map some := by
  simp only [List.map_cons, List.map_nil]
  rw [st_e0 hn, st_e1 hn, st_e2 hn]
theorem st_fm (hn : n < 8) : [11 + 3 * n, 12 + 3 * n, 13 + 3 * n].filterMap (fun i => ([b0, b1, b2, b3, b4, b5, b6, b7, b8, b9, b10] ++ stW cI SA Z)[i]?) = stE cI (SA n) (Z n) := by
  rw [List.filterMap_cons_some (st_e0 hn), List.filterMap_cons_some (st_e1 hn), List.filterMap_cons_some (st_e2 hn)]
  rfl
theorem st_nd (n : Nat) : va_nd [11 + 3 * n, 12 + 3 * n, 13 + 3 * n] = true := by
  simp only [va_nd, Bool.and_eq_true, decide_eq_true_eq, List.mem_cons, List.not_mem_nil, or_false, not_or, and_true]
  refine ⟨⟨by omega, by omega⟩, ⟨by omega, fun h => h⟩⟩
theorem st_put (hn : n < 8) (z' : ST) : wk_put ([b0, b1, b2, b3, b4, b5, b6, b7, b8, b9, b10] ++ stW cI SA Z) [11 + 3 * n, 12 + 3 * n, 13 + 3 * n] (stE cI (SA n) z') = [b0, b1, b2, b3, b4, b5, b6, b7, b8, b9, b10] ++ stW cI SA (fu Z n z') :=
  st_8 (P := fun n => wk_put ([b0, b1, b2, b3, b4, b5, b6, b7, b8, b9, b10] ++ stW cI SA Z) [11 + 3 * n, 12 + 3 * n, 13 + 3 * n] (stE cI (SA n) z') = [b0, b1, b2, b3, b4, b5, b6, b7, b8, b9, b10] ++ stW cI SA (fu Z n z')) hn rfl rfl rfl rfl rfl rfl rfl rfl
end StW
/-- the lists of all stores -/
def stZ (Z : Nat → ST) : Nat → List (Int32 × Int32) := fun n => zL (Z n)
theorem stZ_fu (Z : Nat → ST) (n : Nat) (z : ST) : stZ (fu Z n z) = fu (stZ Z) n (zL z) := by
  funext k; unfold stZ fu; split <;> rfl
def ZS (Z : Nat → ST) : Prop := ∀ n, n < 8 → SRP (zL (Z n)) (zL1 (Z n)) (zL2 (Z n)) (zF (Z n)) (zG (Z n)) ∧ Srt (zL (Z n)) ∧ (zL (Z n)).length ≤ 1000
theorem ZS.fu {Z : Nat → ST} (h : ZS Z) {n : Nat} {z : ST} (h2 : SRP (zL z) (zL1 z) (zL2 z) (zF z) (zG z) ∧ Srt (zL z) ∧ (zL z).length ≤ 1000) : ZS (fu Z n z) := by
  intro k hk
  by_cases e : k = n
  · subst e; rw [fu_s]; exact h2
  · rw [fu_n _ _ e]; exact h k hk
