-- how many keys are there, when a store or the homes change
abbrev ky (l : List (Int32 × Int32)) : List Int32 := l.map Prod.fst
theorem ky_ins_h {l : List (Int32 × Int32)} {key v : Int32} (h : hs l key = true) : ky (ins l key v) = ky l := by
  unfold ins
  rw [if_pos h]
  obtain ⟨h1, h2⟩ := hs_iff.mp h
  have h3 : l[rk l key].1 = key := by
    have h4 : kx l (rk l key) = l[rk l key].1 := by unfold kx; rw [List.getD_eq_getElem?_getD, List.getElem?_eq_getElem h1]; rfl
    exact h4.symm.trans h2
  show (l.set (rk l key) (key, v)).map Prod.fst = l.map Prod.fst
  rw [List.map_set]
  apply List.ext_getElem?
  intro i
  by_cases e : i = rk l key
  · subst e
    rw [List.getElem?_set_self (by rw [List.length_map]; exact h1), List.getElem?_map, List.getElem?_eq_getElem h1]
    exact congrArg some h3.symm
  · rw [List.getElem?_set_ne (Ne.symm e)]
theorem ky_ins_n {l : List (Int32 × Int32)} {key v : Int32} (h : ¬ hs l key = true) : ky (ins l key v) = (ky l).take (rk l key) ++ key :: (ky l).drop (rk l key) := by
  unfold ins
  rw [if_neg h]
  show (l.take (rk l key) ++ (key, v) :: l.drop (rk l key)).map Prod.fst = _
  rw [List.map_append, List.map_cons, List.map_take, List.map_drop]
theorem ky_split {l : List (Int32 × Int32)} {key : Int32} (h : hs l key = true) : ky l = (ky l).take (rk l key) ++ key :: (ky l).drop (rk l key + 1) := by
  obtain ⟨h1, h2⟩ := hs_iff.mp h
  have h4 : rk l key < (ky l).length := by rw [List.length_map]; exact h1
  have h3 : (ky l)[rk l key] = key := by
    have h5 : (ky l)[rk l key]? = some key := by
      rw [List.getElem?_map, List.getElem?_eq_getElem h1]
      have : kx l (rk l key) = l[rk l key].1 := by unfold kx; rw [List.getD_eq_getElem?_getD, List.getElem?_eq_getElem h1]; rfl
      rw [h2] at this
      exact congrArg some this.symm
    exact (List.getElem?_eq_some_iff.mp h5).2
  conv => lhs; rw [← List.take_append_drop (rk l key) (ky l)]
  rw [List.drop_eq_getElem_cons h4, h3]
theorem ky_del {l : List (Int32 × Int32)} {key : Int32} (h : hs l key = true) : ky (del l key) = (ky l).take (rk l key) ++ (ky l).drop (rk l key + 1) := by
  unfold del
  rw [if_pos h, List.eraseIdx_eq_take_drop_succ]
  show (l.take (rk l key) ++ l.drop (rk l key + 1)).map Prod.fst = _
  rw [List.map_append, List.map_take, List.map_drop]
theorem cp_ins (q : Int32 → Bool) (l : List (Int32 × Int32)) (key v : Int32) : (ky (ins l key v)).countP q = (ky l).countP q + if hs l key = true then 0 else if q key = true then 1 else 0 := by
  by_cases h : hs l key = true
  · rw [ky_ins_h h, if_pos h]; rfl
  · rw [ky_ins_n h, if_neg h, List.countP_append, List.countP_cons]
    have h9 := congrArg (List.countP q) (List.take_append_drop (rk l key) (ky l))
    rw [List.countP_append] at h9
    omega
theorem cp_del (q : Int32 → Bool) (l : List (Int32 × Int32)) (key : Int32) : (ky l).countP q = (ky (del l key)).countP q + if hs l key = true then (if q key = true then 1 else 0) else 0 := by
  by_cases h : hs l key = true
  · rw [if_pos h, ky_del h, List.countP_append]
    have h9 := congrArg (List.countP q) (ky_split h)
    rw [List.countP_append, List.countP_cons] at h9
    omega
  · rw [if_neg h]; unfold del; rw [if_neg h]; rfl
theorem hs_mem {l : List (Int32 × Int32)} (hs' : Srt l) {key : Int32} : hs l key = true ↔ key ∈ ky l := by
  rw [mem_kx]
  constructor
  · intro h; exact ⟨_, (hs_iff.mp h).1, (hs_iff.mp h).2⟩
  · rintro ⟨j, h1, h2⟩; exact hs_of hs' h1 h2
theorem hs_ins {l : List (Int32 × Int32)} (hs' : Srt l) (key v k : Int32) : hs (ins l key v) k = true ↔ k = key ∨ hs l k = true := by
  rw [hs_mem (Srt_ins hs' key v), hs_mem hs']
  by_cases h : hs l key = true
  · rw [ky_ins_h h]
    exact ⟨Or.inr, fun q => q.elim (fun e => by rw [e]; exact (hs_mem hs').mp h) id⟩
  · rw [ky_ins_n h]
    conv => rhs; rw [← List.take_append_drop (rk l key) (ky l)]
    simp only [List.mem_append, List.mem_cons]
    constructor
    · rintro (a | b | c)
      · exact Or.inr (Or.inl a)
      · exact Or.inl b
      · exact Or.inr (Or.inr c)
    · rintro (a | b | c)
      · exact Or.inr (Or.inl a)
      · exact Or.inl b
      · exact Or.inr (Or.inr c)
theorem hs_del {l : List (Int32 × Int32)} (hs' : Srt l) (key k : Int32) : hs (del l key) k = true ↔ k ≠ key ∧ hs l k = true := by
  by_cases h : hs l key = true
  · rw [hs_mem (Srt_del hs' key), hs_mem hs', ky_del h]
    have hn := Srt_nd hs'
    have hsp := ky_split h
    change (ky l).Nodup at hn
    rw [hsp] at hn
    have hn2 := List.nodup_append.mp hn
    conv => rhs; rw [hsp]
    simp only [List.mem_append, List.mem_cons]
    constructor
    · rintro (a | b)
      · exact ⟨fun e => hn2.2.2 k a key List.mem_cons_self e, Or.inl a⟩
      · exact ⟨fun e => by rw [e] at b; exact (List.nodup_cons.mp hn2.2.1).1 b, Or.inr (Or.inr b)⟩
    · rintro ⟨a, b | b | b⟩
      · exact Or.inl b
      · exact absurd b a
      · exact Or.inr b
  · unfold del; rw [if_neg h]
    exact ⟨fun q => ⟨fun e => h (by rw [← e]; exact q), q⟩, fun q => q.2⟩
theorem hs_ins_o {l : List (Int32 × Int32)} (hs' : Srt l) {key v k : Int32} (h : k ≠ key) : hs (ins l key v) k = hs l k := by
  rw [Bool.eq_iff_iff, hs_ins hs']; exact ⟨fun q => q.elim (fun e => absurd e h) id, Or.inr⟩
theorem hs_del_o {l : List (Int32 × Int32)} (hs' : Srt l) {key k : Int32} (h : k ≠ key) : hs (del l key) k = hs l k := by
  rw [Bool.eq_iff_iff, hs_del hs']; exact ⟨fun q => q.2, fun q => ⟨h, q⟩⟩
theorem cp_flip {key : Int32} {q q' : Int32 → Bool} (h1 : q key = true) (h2 : q' key = false) (h3 : ∀ k, k ≠ key → q k = q' k) : ∀ {l : List Int32}, l.Nodup → l.countP q = l.countP q' + if key ∈ l then 1 else 0
  | [], _ => rfl
  | a :: l, hn => by
    obtain ⟨ha, hl⟩ := List.nodup_cons.mp hn
    have ih := cp_flip h1 h2 h3 hl
    rw [List.countP_cons, List.countP_cons, ih]
    by_cases e : a = key
    · subst e
      rw [h1, h2, if_neg ha, if_pos List.mem_cons_self]
      simp
    · rw [h3 a e]
      by_cases c : key ∈ l
      · rw [if_pos c, if_pos (List.mem_cons_of_mem _ c)]; omega
      · rw [if_neg c, if_neg (fun q => (List.mem_cons.mp q).elim (fun z => e z.symm) c)]; omega
theorem sumN_same {g g' : Nat → Nat} : ∀ k, (∀ n, n < k → g' n = g n) → sumN g' k = sumN g k
  | 0, _ => rfl
  | k + 1, h => by
    show sumN g' k + g' k = sumN g k + g k
    rw [sumN_same k (fun n hn => h n (by omega)), h k (by omega)]
theorem sumN_upd {g g' : Nat → Nat} {a : Nat} : ∀ k, a < k → (∀ n, n < k → n ≠ a → g' n = g n) → sumN g' k + g a = sumN g k + g' a
  | 0, h, _ => absurd h (Nat.not_lt_zero _)
  | k + 1, h, h2 => by
    show sumN g' k + g' k + g a = sumN g k + g k + g' a
    by_cases e : a = k
    · subst e
      rw [sumN_same a (fun n hn => h2 n (by omega) (by omega))]; omega
    · have := sumN_upd (g := g) (g' := g') (a := a) k (by omega) (fun n hn => h2 n (by omega))
      rw [h2 k (by omega) (fun q => e q.symm)]; omega
theorem thN_ky (st : Nat → List (Int32 × Int32)) (hm : Int32 → Nat) (n : Nat) : thN st hm n = (ky (st n)).countP (fun k => decide (hm k = n)) := by
  unfold thN; rw [List.countP_map]; rfl
section TH
variable {st : Nat → List (Int32 × Int32)} {hm : Int32 → Nat}
theorem th_fu {n : Nat} (hn : n < 8) (l : List (Int32 × Int32)) : thF (fu st n l) hm + (ky (st n)).countP (fun k => decide (hm k = n)) = thF st hm + (ky l).countP (fun k => decide (hm k = n)) := by
  unfold thF
  have h := sumN_upd (g := thN st hm) (g' := thN (fu st n l) hm) (a := n) 8 hn (fun k _ hk => by rw [thN_ky, thN_ky, fu_n _ _ hk])
  rw [thN_ky, thN_ky, fu_s] at h
  exact h
theorem th_ins {n : Nat} (hn : n < 8) (key v : Int32) : thF (fu st n (ins (st n) key v)) hm = thF st hm + if hs (st n) key = true then 0 else if hm key = n then 1 else 0 := by
  have h := th_fu (st := st) (hm := hm) hn (ins (st n) key v)
  rw [cp_ins] at h
  by_cases c : hs (st n) key = true
  · rw [if_pos c] at h ⊢; omega
  · rw [if_neg c] at h ⊢
    by_cases c2 : hm key = n
    · rw [if_pos (decide_eq_true c2)] at h; rw [if_pos c2]; omega
    · rw [if_neg (fun q => c2 (of_decide_eq_true q))] at h; rw [if_neg c2]; omega
theorem th_del {n : Nat} (hn : n < 8) (key : Int32) : thF st hm = thF (fu st n (del (st n) key)) hm + if hs (st n) key = true then (if hm key = n then 1 else 0) else 0 := by
  have h := th_fu (st := st) (hm := hm) hn (del (st n) key)
  have h2 := cp_del (fun k => decide (hm k = n)) (st n) key
  by_cases c : hs (st n) key = true
  · rw [if_pos c] at h2 ⊢
    by_cases c2 : hm key = n
    · rw [if_pos (decide_eq_true c2)] at h2; rw [if_pos c2]; omega
    · rw [if_neg (fun q => c2 (of_decide_eq_true q))] at h2; rw [if_neg c2]; omega
  · rw [if_neg c] at h2 ⊢; omega
theorem th_cong {hm' : Int32 → Nat} (h : ∀ k, hm' k = hm k) : thF st hm' = thF st hm := by rw [show hm' = hm from funext h]
/-- one key's home becomes another, and both stores agree on it -/
theorem th_flip {hm' : Int32 → Nat} {key : Int32} {a b : Nat} (ha : a < 8) (hb : b < 8) (hab : a ≠ b) (hss : ∀ n, n < 8 → Srt (st n)) (h1 : hm key = a) (h2 : hm' key = b) (h3 : ∀ k, k ≠ key → hm' k = hm k) (h4 : hs (st a) key = hs (st b) key) : thF st hm' = thF st hm := by
  have n1 : ∀ n, n < 8 → (ky (st n)).Nodup := fun n hn => Srt_nd (hss n hn)
  have ea := cp_flip (q := fun k => decide (hm k = a)) (q' := fun k => decide (hm' k = a)) (key := key) (decide_eq_true h1) (decide_eq_false (fun q => hab (q.symm.trans h2))) (fun k hk => by rw [h3 k hk]) (n1 a ha)
  have eb := cp_flip (q := fun k => decide (hm' k = b)) (q' := fun k => decide (hm k = b)) (key := key) (decide_eq_true h2) (decide_eq_false (fun q => hab (h1.symm.trans q))) (fun k hk => by rw [h3 k hk]) (n1 b hb)
  rw [← thN_ky, ← thN_ky] at ea eb
  have hmem : (key ∈ ky (st a)) ↔ (key ∈ ky (st b)) := by rw [← hs_mem (hss a ha), ← hs_mem (hss b hb), h4]
  have s1 := sumN_upd (g := thN st hm) (g' := fu (thN st hm) a (thN st hm' a)) (a := a) 8 ha (fun n _ hn => fu_n _ _ hn)
  have s2 := sumN_upd (g := fu (thN st hm) a (thN st hm' a)) (g' := thN st hm') (a := b) 8 hb (fun n _ hn => by
    by_cases e : n = a
    · rw [e, fu_s]
    · rw [fu_n _ _ e, thN_ky, thN_ky]
      exact List.countP_congr (fun k _ => by
        by_cases ek : k = key
        · rw [ek, h1, h2]; simp [Ne.symm e, Ne.symm hn]
        · rw [h3 k ek]))
  rw [fu_s] at s1
  rw [fu_n _ _ (Ne.symm hab)] at s2
  show sumN (thN st hm') 8 = sumN (thN st hm) 8
  by_cases c : key ∈ ky (st a)
  · rw [if_pos c] at ea; rw [if_pos (hmem.mp c)] at eb; omega
  · rw [if_neg c] at ea; rw [if_neg (fun q => c (hmem.mpr q))] at eb; omega
theorem th_all (h : OW st hm) : thF st hm = sumN (fun n => (st n).length) 8 := by
  unfold thF
  refine sumN_same 8 (fun n hn => ?_)
  unfold thN
  rw [List.countP_eq_length]
  intro e he
  obtain ⟨j, hj, hk, -⟩ := mem_at.mp he
  rw [← hk]
  exact decide_eq_true (h n hn j hj)
end TH
