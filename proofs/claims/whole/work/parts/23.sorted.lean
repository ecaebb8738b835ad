-- sorted rows stay sorted; how a plan is made
theorem insAt_get {α : Type} (l : List α) (d e : α) {r : Nat} (hr : r ≤ l.length) (j : Nat) : (l.take r ++ e :: l.drop r).getD j d = if j < r then l.getD j d else if j = r then e else l.getD (j - 1) d := by
  simp only [List.getD_eq_getElem?_getD]
  have hl : (l.take r).length = r := by rw [List.length_take]; omega
  split
  next c => rw [List.getElem?_append_left (by omega), List.getElem?_take_of_lt c]
  next c =>
    rw [List.getElem?_append_right (by omega), hl]
    split
    next e => subst e; simp
    next e =>
      obtain ⟨z, hz⟩ : ∃ z, j - r = z + 1 := ⟨j - r - 1, by omega⟩
      rw [hz, List.getElem?_cons_succ, List.getElem?_drop]
      congr 2; omega
theorem i32_lt_of {a b : Int32} (h : ¬ a < b) (h2 : a ≠ b) : b < a := by
  rcases Int32.lt_or_eq_of_le (Int32.not_lt.mp h) with q | q
  · exact q
  · exact absurd q.symm h2
/-- behind its rank all of a sorted row is not below -/
theorem rk_ge {l : List (Int32 × Int32)} {key : Int32} (h : Srt l) {j : Nat} (h1 : rk l key ≤ j) (h2 : j < l.length) : ¬ kx l j < key := by
  have h0 := rk_stop l key (by omega)
  rcases Nat.lt_or_ge (rk l key) j with q | q
  · intro z; exact h0 (Int32.lt_trans (h _ _ q h2) z)
  · rw [show j = rk l key by omega]; exact h0
theorem hs_of {l : List (Int32 × Int32)} {key : Int32} (h : Srt l) {j : Nat} (h2 : j < l.length) (e : kx l j = key) : hs l key = true := (srt_at h h2 e).1
theorem rk_gt {l : List (Int32 × Int32)} {key : Int32} (h : Srt l) (hh : ¬ hs l key = true) {j : Nat} (h1 : rk l key ≤ j) (h2 : j < l.length) : key < kx l j := i32_lt_of (rk_ge h h1 h2) (fun e => hh (hs_of h h2 e))
theorem Srt_ins {l : List (Int32 × Int32)} (h : Srt l) (key v : Int32) : Srt (ins l key v) := by
  intro i j hij hj
  by_cases hh : hs l key = true
  · have hl : (ins l key v).length = l.length := by rw [ins_len, if_pos hh]
    have g : ∀ k, kx (ins l key v) k = kx l k := by
      intro k
      unfold kx
      rw [ins_get_h hh]
      split
      next e => rw [e]; exact (hs_iff.mp hh).2.symm
      next e => rfl
    rw [g, g]; exact h i j hij (by omega)
  · have hl : (ins l key v).length = l.length + 1 := by rw [ins_len, if_neg hh]
    have hr := rk_le l key
    have g : ∀ k, kx (ins l key v) k = if k < rk l key then kx l k else if k = rk l key then key else kx l (k - 1) := by
      intro k
      unfold kx
      rw [ins_get_n hh]
      split
      · rfl
      · split <;> rfl
    rw [g, g]
    by_cases ci : i < rk l key
    · rw [if_pos ci]
      by_cases cj : j < rk l key
      · rw [if_pos cj]; exact h i j hij (by omega)
      · rw [if_neg cj]
        by_cases cj2 : j = rk l key
        · rw [if_pos cj2]; exact rk_lt l key i ci
        · rw [if_neg cj2]; exact h i (j - 1) (by omega) (by omega)
    · rw [if_neg ci, if_neg (show ¬ j < rk l key by omega), if_neg (show ¬ j = rk l key by omega)]
      by_cases ci2 : i = rk l key
      · rw [if_pos ci2]; exact rk_gt h hh (by omega) (by omega)
      · rw [if_neg ci2]; exact h (i - 1) (j - 1) (by omega) (by omega)
theorem Srt_del {l : List (Int32 × Int32)} (h : Srt l) (key : Int32) : Srt (del l key) := by
  by_cases hh : hs l key = true
  · intro i j hij hj
    have hl : (del l key).length = l.length - 1 := by rw [del_len, if_pos hh]
    have g : ∀ k, kx (del l key) k = if k < rk l key then kx l k else kx l (k + 1) := by
      intro k
      unfold kx
      rw [del_get hh]
      split <;> rfl
    rw [g, g]
    split
    · split
      · exact h i j hij (by omega)
      · exact h i (j + 1) (by omega) (by omega)
    · rw [if_neg (show ¬ j < rk l key by omega)]; exact h (i + 1) (j + 1) (by omega) (by omega)
  · have e : del l key = l := by unfold del; rw [if_neg hh]
    rw [e]; exact h
theorem Srt_nil : Srt [] := fun i j _ h => absurd h (Nat.not_lt_zero _)
-- plans
theorem insP_len (rows : List (Int32 × Nat × Nat)) (e : Int32 × Nat × Nat) : (insP rows e).length = rows.length + 1 := by
  have h : prow rows e.1 ≤ rows.length := by have := rk_le (pkl rows) e.1; rw [pkl_len] at this; exact this
  unfold insP
  simp [List.length_append, List.length_take, List.length_drop]; omega
theorem prow_le (rows : List (Int32 × Nat × Nat)) (key : Int32) : prow rows key ≤ rows.length := by have := rk_le (pkl rows) key; rw [pkl_len] at this; exact this
theorem insP_get (rows : List (Int32 × Nat × Nat)) (e : Int32 × Nat × Nat) (j : Nat) : (insP rows e).getD j (0, 0, 0) = if j < prow rows e.1 then rows.getD j (0, 0, 0) else if j = prow rows e.1 then e else rows.getD (j - 1) (0, 0, 0) := insAt_get rows _ e (prow_le rows e.1) j
theorem insP_pkl {rows : List (Int32 × Nat × Nat)} {e : Int32 × Nat × Nat} (h : ¬ pin rows e.1 = true) : pkl (insP rows e) = ins (pkl rows) e.1 0 := by
  unfold ins
  rw [if_neg (show ¬ hs (pkl rows) e.1 = true from h)]
  unfold insP pkl prow pkl
  rw [List.map_append, List.map_cons, List.map_take, List.map_drop]
theorem insP_srt {rows : List (Int32 × Nat × Nat)} {e : Int32 × Nat × Nat} (hs' : Srt (pkl rows)) (h : ¬ pin rows e.1 = true) : Srt (pkl (insP rows e)) := by
  rw [insP_pkl h]; exact Srt_ins hs' _ _
theorem insP_mem {rows : List (Int32 × Nat × Nat)} {e x : Int32 × Nat × Nat} : x ∈ insP rows e ↔ x = e ∨ x ∈ rows := by
  unfold insP
  rw [List.mem_append, List.mem_cons]
  constructor
  · rintro (h | h | h)
    · exact Or.inr (List.mem_of_mem_take h)
    · exact Or.inl h
    · exact Or.inr (List.mem_of_mem_drop h)
  · rintro (h | h)
    · exact Or.inr (Or.inl h)
    · rw [← List.take_append_drop (prow rows e.1) rows] at h
      rcases List.mem_append.mp h with q | q
      · exact Or.inl q
      · exact Or.inr (Or.inr q)
section Plans
variable (st : Nat → List (Int32 × Int32)) (w : Int32 → Nat)
/-- the plan as it stands when k keys of node n were looked at -/
def plA (n k : Nat) : List (Int32 × Nat × Nat) := ((st n).take k).foldl (mvS w n) (plUp st w n)
theorem plA_0 (n : Nat) : plA st w n 0 = plUp st w n := by unfold plA; rw [List.take_zero]; rfl
theorem plA_s (n : Nat) {k : Nat} (hk : k < (st n).length) : plA st w n (k + 1) = if w (kx (st n) k) = n then plA st w n k else insP (plA st w n k) (kx (st n) k, n, w (kx (st n) k)) := by
  unfold plA
  rw [List.take_add_one, List.getElem?_eq_getElem hk, Option.toList_some, List.foldl_append]
  have e : kx (st n) k = (st n)[k].1 := by unfold kx; rw [List.getD_eq_getElem?_getD, List.getElem?_eq_getElem hk]; rfl
  rw [e]
  rfl
theorem plA_n (n : Nat) : plA st w n (st n).length = plUp st w (n + 1) := by unfold plA; rw [List.take_length]; rfl
theorem mv_len (n : Nat) : ∀ (l : List (Int32 × Int32)) (acc : List (Int32 × Nat × Nat)), acc.length ≤ (l.foldl (mvS w n) acc).length
  | [], acc => Nat.le_refl _
  | e :: l, acc => by
    have h := mv_len n l (mvS w n acc e)
    have h2 : acc.length ≤ (mvS w n acc e).length := by
      unfold mvS; split
      · exact Nat.le_refl _
      · rw [insP_len]; omega
    exact Nat.le_trans h2 h
theorem plUp_mono (n : Nat) : ∀ d, (plUp st w n).length ≤ (plUp st w (n + d)).length
  | 0 => Nat.le_refl _
  | d + 1 => Nat.le_trans (plUp_mono n d) (mv_len w (n + d) (st (n + d)) _)
theorem plA_le (n k : Nat) (hn : n < 8) : (plA st w n k).length ≤ (plUp st w 8).length := by
  have h1 : (plA st w n k).length ≤ (plUp st w (n + 1)).length := by
    show ((((st n).take k).foldl (mvS w n) (plUp st w n))).length ≤ (((st n)).foldl (mvS w n) (plUp st w n)).length
    conv => rhs; rw [← List.take_append_drop k (st n), List.foldl_append]
    exact mv_len w n _ _
  have h2 := plUp_mono st w (n + 1) (7 - n)
  rw [show n + 1 + (7 - n) = 8 by omega] at h2
  omega
/-- each row of the plan comes of a store's key that was looked at, and has another owner -/
def PlF (n k : Nat) (rows : List (Int32 × Nat × Nat)) : Prop := ∀ x ∈ rows, ∃ n' j, (n' < n ∨ (n' = n ∧ j < k)) ∧ j < (st n').length ∧ x = (kx (st n') j, n', w (kx (st n') j)) ∧ w (kx (st n') j) ≠ n'
theorem plA_from : ∀ n, (∀ k, k ≤ (st n).length → PlF st w n k (plA st w n k)) := by
  intro n
  induction n with
  | zero =>
    intro k
    induction k with
    | zero => intro _ x hx; rw [plA_0] at hx; exact absurd hx List.not_mem_nil
    | succ k ih =>
      intro hk x hx
      rw [plA_s st w 0 (by omega)] at hx
      split at hx
      next c => obtain ⟨a, b, h1, h2⟩ := ih (by omega) x hx; exact ⟨a, b, by omega, h2⟩
      next c =>
        rcases insP_mem.mp hx with e | e
        · exact ⟨0, k, Or.inr ⟨rfl, by omega⟩, by omega, e, c⟩
        · obtain ⟨a, b, h1, h2⟩ := ih (by omega) x e; exact ⟨a, b, by omega, h2⟩
  | succ n ihn =>
    intro k
    induction k with
    | zero =>
      intro _ x hx
      rw [plA_0, ← plA_n] at hx
      obtain ⟨a, b, h1, h2⟩ := ihn _ (Nat.le_refl _) x hx
      exact ⟨a, b, by omega, h2⟩
    | succ k ih =>
      intro hk x hx
      rw [plA_s st w (n + 1) (by omega)] at hx
      split at hx
      next c => obtain ⟨a, b, h1, h2⟩ := ih (by omega) x hx; exact ⟨a, b, by omega, h2⟩
      next c =>
        rcases insP_mem.mp hx with e | e
        · exact ⟨n + 1, k, Or.inr ⟨rfl, by omega⟩, by omega, e, c⟩
        · obtain ⟨a, b, h1, h2⟩ := ih (by omega) x e; exact ⟨a, b, by omega, h2⟩
/-- no key is in two stores: each is in the store of v's node alone -/
def OW (v : Int32 → Nat) : Prop := ∀ n, n < 8 → ∀ j, j < (st n).length → v (kx (st n) j) = n
variable {st w}
theorem plA_new {v : Int32 → Nat} (hs' : ∀ n, n < 8 → Srt (st n)) (hv : OW st v) {n k : Nat} (hn : n < 8) (hk : k < (st n).length) (hsr : Srt (pkl (plA st w n k))) : ¬ pin (plA st w n k) (kx (st n) k) = true := by
  intro h
  obtain ⟨h1, h2⟩ := pin_iff.mp h
  have hm : (plA st w n k).getD (prow (plA st w n k) (kx (st n) k)) (0, 0, 0) ∈ plA st w n k := by
    rw [List.getD_eq_getElem?_getD, List.getElem?_eq_getElem h1]; exact List.getElem_mem h1
  obtain ⟨n', j, hlt, hj, he, -⟩ := plA_from st w n k (by omega) _ hm
  have hK : kx (st n') j = kx (st n) k := by rw [← h2]; unfold pK; rw [he]
  have hn' : n' < 8 := by omega
  have e1 := hv n' hn' j hj
  have e2 := hv n hn k hk
  rw [hK, e2] at e1
  subst e1
  have hjk : j < k := by omega
  exact absurd (hs' n hn j k hjk hk) (by rw [hK]; exact fun q => Int32.lt_irrefl q)
theorem plA_srt {v : Int32 → Nat} (hs' : ∀ n, n < 8 → Srt (st n)) (hv : OW st v) : ∀ n, n < 8 → ∀ k, k ≤ (st n).length → Srt (pkl (plA st w n k)) := by
  intro n
  induction n with
  | zero =>
    intro hn k
    induction k with
    | zero => intro _; rw [plA_0]; exact Srt_nil
    | succ k ih =>
      intro hk
      have h := ih (by omega)
      rw [plA_s st w 0 (by omega)]
      split
      · exact h
      · exact insP_srt h (plA_new hs' hv hn (by omega) h)
  | succ n ihn =>
    intro hn k
    induction k with
    | zero => intro _; rw [plA_0, ← plA_n]; exact ihn (by omega) _ (Nat.le_refl _)
    | succ k ih =>
      intro hk
      have h := ih (by omega)
      rw [plA_s st w (n + 1) (by omega)]
      split
      · exact h
      · exact insP_srt h (plA_new hs' hv hn (by omega) h)
theorem plUp_srt {v : Int32 → Nat} (hs' : ∀ n, n < 8 → Srt (st n)) (hv : OW st v) : Srt (pkl (plUp st w 8)) := by
  rw [show (8 : Nat) = 7 + 1 from rfl, ← plA_n]; exact plA_srt hs' hv 7 (by omega) _ (Nat.le_refl _)
end Plans
/-- the arrays of a plan that is being made -/
def RQ (rows : List (Int32 × Nat × Nat)) (pk sr tg : Nat → Int32) : Prop := ∀ k, k < rows.length → pk k = pK rows k ∧ sr k = nI (pS rows k) ∧ tg k = nI (pT rows k)
theorem RQ.ins {rows : List (Int32 × Nat × Nat)} {pk sr tg : Nat → Int32} (h : RQ rows pk sr tg) (e : Int32 × Nat × Nat) {r : Nat} (hr : r = prow rows e.1) : RQ (insP rows e) (upd (shR pk 0 r rows.length) r e.1) (upd (shR sr 0 r rows.length) r (nI e.2.1)) (upd (shR tg 0 r rows.length) r (nI e.2.2)) := by
  subst hr
  have hp := prow_le rows e.1
  intro k hk
  rw [insP_len] at hk
  have hg := insP_get rows e k
  rcases Nat.lt_trichotomy k (prow rows e.1) with c | c | c
  · rw [pk_un (by omega), pk_un (by omega), pk_un (by omega)]
    unfold shR
    rw [if_neg (by omega), if_neg (by omega), if_neg (by omega)]
    unfold pK pS pT
    rw [hg, if_pos c]
    exact h k (by omega)
  · subst c
    rw [pk_us, pk_us, pk_us]
    unfold pK pS pT
    rw [hg, if_neg (by omega), if_pos rfl]
    exact ⟨rfl, rfl, rfl⟩
  · rw [pk_un (by omega), pk_un (by omega), pk_un (by omega)]
    unfold shR
    rw [if_pos (by omega), if_pos (by omega), if_pos (by omega)]
    unfold pK pS pT
    rw [hg, if_neg (by omega), if_neg (by omega)]
    exact h (k - 1) (by omega)
