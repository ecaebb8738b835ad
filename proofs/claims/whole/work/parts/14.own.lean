-- points, owners
def Pt (n v : Nat) : Int32 := ptF (nI n) (nI v)
theorem Pt_nd : ((List.range 128).map (fun i => ptF (nI (i / 16)) (nI (i % 16)))).Nodup := by decide +kernel
theorem Pt_nn : ∀ i : Nat, i < 128 → 0 ≤ ptF (nI (i / 16)) (nI (i % 16)) := by
  have h : ∀ i ∈ List.range 128, 0 ≤ ptF (nI (i / 16)) (nI (i % 16)) := by decide +kernel
  intro i hi
  exact h i (List.mem_range.mpr hi)
theorem Pt_0 {n v : Nat} (hn : n < 8) (hv : v < 16) : 0 ≤ Pt n v := by
  have h := Pt_nn (16 * n + v) (by omega)
  rw [show (16 * n + v) / 16 = n by omega, show (16 * n + v) % 16 = v by omega] at h
  exact h
theorem Pt_inj {n v n' v' : Nat} (hn : n < 8) (hv : v < 16) (hn' : n' < 8) (hv' : v' < 16) (h : Pt n v = Pt n' v') : n = n' ∧ v = v' := by
  have hl : ((List.range 128).map (fun i => ptF (nI (i / 16)) (nI (i % 16)))).length = 128 := by simp
  have g : ∀ n v : Nat, n < 8 → v < 16 → ((List.range 128).map (fun i => ptF (nI (i / 16)) (nI (i % 16))))[16 * n + v]? = some (Pt n v) := by
    intro n v hn hv
    rw [List.getElem?_map, List.getElem?_range (by omega)]
    show some (ptF (nI ((16 * n + v) / 16)) (nI ((16 * n + v) % 16))) = _
    rw [show (16 * n + v) / 16 = n by omega, show (16 * n + v) % 16 = v by omega]
    rfl
  have e1 := g n v hn hv
  have e2 := g n' v' hn' hv'
  rw [h] at e1
  have e := (List.getElem?_inj (by rw [hl]; omega) Pt_nd).mp (e1.trans e2.symm)
  omega
/-- a node owns a place -/
def IsOwn (mm : Nat → Nat) (x : Int32) (o : Nat) : Prop := o < 8 ∧ ((∃ v, v < mm o ∧ x ≤ Pt o v ∧ ∀ n' v', n' < 8 → v' < mm n' → x ≤ Pt n' v' → Pt o v ≤ Pt n' v') ∨ ((∀ n' v', n' < 8 → v' < mm n' → Pt n' v' < x) ∧ ∃ v, v < mm o ∧ ∀ n' v', n' < 8 → v' < mm n' → Pt o v ≤ Pt n' v'))
def MM (mm : Nat → Nat) : Prop := (∀ n, n < 8 → mm n ≤ 16) ∧ ∃ n, n < 8 ∧ 0 < mm n
theorem IsOwn.one {mm : Nat → Nat} {x : Int32} {o o' : Nat} (hm : MM mm) (h : IsOwn mm x o) (h' : IsOwn mm x o') : o = o' := by
  obtain ⟨ho, h⟩ := h
  obtain ⟨ho', h'⟩ := h'
  rcases h with ⟨v, hv, hx, hb⟩ | ⟨hn, v, hv, hb⟩ <;> rcases h' with ⟨v', hv', hx', hb'⟩ | ⟨hn', v', hv', hb'⟩
  · have e := Int32.le_antisymm (hb _ _ ho' hv' hx') (hb' _ _ ho hv hx)
    exact (Pt_inj ho (Nat.lt_of_lt_of_le hv (hm.1 _ ho)) ho' (Nat.lt_of_lt_of_le hv' (hm.1 _ ho')) e).1
  · exact absurd (hn' _ _ ho hv) (Int32.not_lt.mpr hx)
  · exact absurd (hn _ _ ho' hv') (Int32.not_lt.mpr hx')
  · have e := Int32.le_antisymm (hb _ _ ho' hv') (hb' _ _ ho hv)
    exact (Pt_inj ho (Nat.lt_of_lt_of_le hv (hm.1 _ ho)) ho' (Nat.lt_of_lt_of_le hv' (hm.1 _ ho')) e).1
noncomputable def own (mm : Nat → Nat) (x : Int32) : Nat := Classical.epsilon (fun o => IsOwn mm x o)
theorem own_eq {mm : Nat → Nat} {x : Int32} {o : Nat} (hm : MM mm) (h : IsOwn mm x o) : own mm x = o := IsOwn.one hm (Classical.epsilon_spec (p := fun o => IsOwn mm x o) ⟨o, h⟩) h
/-- the points that were looked at before point v of node n -/
def dn (mm : Nat → Nat) (n v n' v' : Nat) : Prop := n' < 8 ∧ v' < mm n' ∧ (n' < n ∨ (n' = n ∧ v' < v))
theorem dn_s {mm : Nat → Nat} {n v n' v' : Nat} (h : dn mm n (v + 1) n' v') : dn mm n v n' v' ∨ (n' = n ∧ v' = v) := by
  obtain ⟨h1, h2, h3⟩ := h
  rcases h3 with h3 | ⟨h3, h4⟩
  · exact Or.inl ⟨h1, h2, Or.inl h3⟩
  · rcases Nat.lt_or_ge v' v with q | q
    · exact Or.inl ⟨h1, h2, Or.inr ⟨h3, q⟩⟩
    · exact Or.inr ⟨h3, by omega⟩
theorem dn_w {mm : Nat → Nat} {n v n' v' : Nat} (h : dn mm n v n' v') : dn mm n (v + 1) n' v' := ⟨h.1, h.2.1, h.2.2.imp id (fun z => ⟨z.1, by omega⟩)⟩
theorem dn_x {mm : Nat → Nat} {n v : Nat} (hn : n < 8) (hv : v < mm n) : dn mm n (v + 1) n v := ⟨hn, hv, Or.inr ⟨rfl, by omega⟩⟩
theorem dn_n {mm : Nat → Nat} {n n' v' : Nat} (h : dn mm (n + 1) 0 n' v') : dn mm n (mm n) n' v' := by
  obtain ⟨h1, h2, h3⟩ := h
  rcases h3 with h3 | ⟨h3, h4⟩
  · rcases Nat.lt_or_ge n' n with q | q
    · exact ⟨h1, h2, Or.inl q⟩
    · have e : n' = n := by omega
      exact ⟨h1, h2, Or.inr ⟨e, by rw [← e]; exact h2⟩⟩
  · omega
theorem dn_m {mm : Nat → Nat} {n v n' v' : Nat} (h : dn mm n v n' v') : dn mm (n + 1) 0 n' v' := ⟨h.1, h.2.1, Or.inl (by rcases h.2.2 with h | h <;> omega)⟩
theorem dn_0 {mm : Nat → Nat} {n' v' : Nat} : ¬ dn mm 0 0 n' v' := fun h => by rcases h.2.2 with h | h <;> omega
theorem dn_8 {mm : Nat → Nat} {n' v' : Nat} (h1 : n' < 8) (h2 : v' < mm n') : dn mm 8 0 n' v' := ⟨h1, h2, Or.inl h1⟩
def BI (mm : Nat → Nat) (x : Int32) (n v : Nat) (b bp : Int32) : Prop := (b = -1 ∧ ∀ n' v', dn mm n v n' v' → Pt n' v' < x) ∨ (∃ o u, dn mm n v o u ∧ b = nI o ∧ bp = Pt o u ∧ x ≤ Pt o u ∧ ∀ n' v', dn mm n v n' v' → x ≤ Pt n' v' → Pt o u ≤ Pt n' v')
def LI (mm : Nat → Nat) (n v : Nat) (b bp : Int32) : Prop := (b = -1 ∧ ∀ n' v', ¬ dn mm n v n' v') ∨ (∃ o u, dn mm n v o u ∧ b = nI o ∧ bp = Pt o u ∧ ∀ n' v', dn mm n v n' v' → Pt o u ≤ Pt n' v')
section BIs
variable {mm : Nat → Nat} {x : Int32} {n v : Nat} {b bp : Int32}
theorem BI.zero : BI mm x 0 0 (-1) bp := Or.inl ⟨rfl, fun _ _ h => absurd h dn_0⟩
theorem LI.zero : LI mm 0 0 (-1) bp := Or.inl ⟨rfl, fun _ _ h => absurd h dn_0⟩
theorem BI.skip (h : BI mm x n v b bp) (hp : Pt n v < x) : BI mm x n (v + 1) b bp := by
  rcases h with ⟨h1, h2⟩ | ⟨o, u, h1, h2, h3, h4, h5⟩
  · refine Or.inl ⟨h1, fun n' v' hd => ?_⟩
    rcases dn_s hd with q | ⟨rfl, rfl⟩
    · exact h2 _ _ q
    · exact hp
  · refine Or.inr ⟨o, u, dn_w h1, h2, h3, h4, fun n' v' hd hx => ?_⟩
    rcases dn_s hd with q | ⟨rfl, rfl⟩
    · exact h5 _ _ q hx
    · exact absurd hp (Int32.not_lt.mpr hx)
theorem nI_neg {o : Nat} (h : o < 8) : ¬ nI o < 0 := nI_pos (by omega)
theorem BI.set (h : BI mm x n v b bp) (hn : n < 8) (hv : v < mm n) (hp : ¬ Pt n v < x) (hc : b < 0 ∨ Pt n v < bp) : BI mm x n (v + 1) (nI n) (Pt n v) := by
  refine Or.inr ⟨n, v, dn_x hn hv, rfl, rfl, Int32.not_lt.mp hp, fun n' v' hd hx => ?_⟩
  rcases dn_s hd with q | ⟨rfl, rfl⟩
  · rcases h with ⟨h1, h2⟩ | ⟨o, u, h1, h2, h3, h4, h5⟩
    · exact absurd (h2 _ _ q) (Int32.not_lt.mpr hx)
    · rcases hc with hc | hc
      · rw [h2] at hc; exact absurd hc (nI_neg h1.1)
      · rw [h3] at hc; exact Int32.le_trans (Int32.le_of_lt hc) (h5 _ _ q hx)
  · exact Int32.le_refl _
theorem BI.keep (h : BI mm x n v b bp) (hc : ¬ b < 0) (hp : ¬ Pt n v < bp) : BI mm x n (v + 1) b bp := by
  rcases h with ⟨h1, h2⟩ | ⟨o, u, h1, h2, h3, h4, h5⟩
  · rw [h1] at hc; exact absurd (by decide) hc
  · refine Or.inr ⟨o, u, dn_w h1, h2, h3, h4, fun n' v' hd hx => ?_⟩
    rcases dn_s hd with q | ⟨rfl, rfl⟩
    · exact h5 _ _ q hx
    · rw [h3] at hp; exact Int32.not_lt.mp hp
theorem LI.set (h : LI mm n v b bp) (hn : n < 8) (hv : v < mm n) (hc : b < 0 ∨ Pt n v < bp) : LI mm n (v + 1) (nI n) (Pt n v) := by
  refine Or.inr ⟨n, v, dn_x hn hv, rfl, rfl, fun n' v' hd => ?_⟩
  rcases dn_s hd with q | ⟨rfl, rfl⟩
  · rcases h with ⟨h1, h2⟩ | ⟨o, u, h1, h2, h3, h5⟩
    · exact absurd q (h2 _ _)
    · rcases hc with hc | hc
      · rw [h2] at hc; exact absurd hc (nI_neg h1.1)
      · rw [h3] at hc; exact Int32.le_trans (Int32.le_of_lt hc) (h5 _ _ q)
  · exact Int32.le_refl _
theorem LI.keep (h : LI mm n v b bp) (hc : ¬ b < 0) (hp : ¬ Pt n v < bp) : LI mm n (v + 1) b bp := by
  rcases h with ⟨h1, h2⟩ | ⟨o, u, h1, h2, h3, h5⟩
  · rw [h1] at hc; exact absurd (by decide) hc
  · refine Or.inr ⟨o, u, dn_w h1, h2, h3, fun n' v' hd => ?_⟩
    rcases dn_s hd with q | ⟨rfl, rfl⟩
    · exact h5 _ _ q
    · rw [h3] at hp; exact Int32.not_lt.mp hp
theorem BI.next (h : BI mm x n (mm n) b bp) : BI mm x (n + 1) 0 b bp := by
  rcases h with ⟨h1, h2⟩ | ⟨o, u, h1, h2, h3, h4, h5⟩
  · exact Or.inl ⟨h1, fun n' v' hd => h2 _ _ (dn_n hd)⟩
  · exact Or.inr ⟨o, u, dn_m h1, h2, h3, h4, fun n' v' hd hx => h5 _ _ (dn_n hd) hx⟩
theorem LI.next (h : LI mm n (mm n) b bp) : LI mm (n + 1) 0 b bp := by
  rcases h with ⟨h1, h2⟩ | ⟨o, u, h1, h2, h3, h5⟩
  · exact Or.inl ⟨h1, fun n' v' hd => h2 _ _ (dn_n hd)⟩
  · exact Or.inr ⟨o, u, dn_m h1, h2, h3, fun n' v' hd => h5 _ _ (dn_n hd)⟩
theorem own_best (hm : MM mm) (h : BI mm x 8 0 b bp) (hb : 0 ≤ b) : b = nI (own mm x) := by
  rcases h with ⟨h1, h2⟩ | ⟨o, u, h1, h2, h3, h4, h5⟩
  · rw [h1] at hb; exact absurd hb (by decide)
  · rw [h2, own_eq hm ⟨h1.1, Or.inl ⟨u, h1.2.1, h4, fun n' v' a1 a2 a3 => h5 _ _ (dn_8 a1 a2) a3⟩⟩]
theorem own_least {l lp : Int32} (hm : MM mm) (h : BI mm x 8 0 b bp) (hl : LI mm 8 0 l lp) (hb : ¬ 0 ≤ b) : l = nI (own mm x) := by
  have hno : ∀ n' v', n' < 8 → v' < mm n' → Pt n' v' < x := by
    rcases h with ⟨h1, h2⟩ | ⟨o, u, h1, h2, h3, h4, h5⟩
    · exact fun n' v' a1 a2 => h2 _ _ (dn_8 a1 a2)
    · rw [h2] at hb; exact absurd (nI_pos' (by have := h1.1; omega)) hb
  rcases hl with ⟨h1, h2⟩ | ⟨o, u, h1, h2, h3, h5⟩
  · obtain ⟨n, hn, hp⟩ := hm.2
    exact absurd (dn_8 hn hp) (h2 _ _)
  · rw [h2, own_eq hm ⟨h1.1, Or.inr ⟨hno, u, h1.2.1, fun n' v' a1 a2 => h5 _ _ (dn_8 a1 a2)⟩⟩]
end BIs
