-- plans, homes, counts
def pK (rows : List (Int32 × Nat × Nat)) (j : Nat) : Int32 := (rows.getD j (0, 0, 0)).1
def pS (rows : List (Int32 × Nat × Nat)) (j : Nat) : Nat := (rows.getD j (0, 0, 0)).2.1
def pT (rows : List (Int32 × Nat × Nat)) (j : Nat) : Nat := (rows.getD j (0, 0, 0)).2.2
def pkl (rows : List (Int32 × Nat × Nat)) : List (Int32 × Int32) := rows.map (fun e => (e.1, 0))
theorem pkl_len (rows : List (Int32 × Nat × Nat)) : (pkl rows).length = rows.length := by unfold pkl; simp
theorem pkl_kx (rows : List (Int32 × Nat × Nat)) (j : Nat) : kx (pkl rows) j = pK rows j := by
  unfold kx pkl pK
  rw [List.getD_eq_getElem?_getD, List.getD_eq_getElem?_getD, List.getElem?_map]
  cases rows[j]? <;> rfl
def prow (rows : List (Int32 × Nat × Nat)) (key : Int32) : Nat := rk (pkl rows) key
def pin (rows : List (Int32 × Nat × Nat)) (key : Int32) : Bool := hs (pkl rows) key
def rowI (rows : List (Int32 × Nat × Nat)) (key : Int32) : Int32 := if pin rows key = true then nI (prow rows key) else -1
/-- what the key of a row is -/
def sta (F Gn : Nat) (C : Bool) (k : Nat) : Int32 := if k < F then (if k < Gn then 4 else 3) else if k = F ∧ C = true then 2 else 1
def Srt (l : List (Int32 × Int32)) : Prop := ∀ i j, i < j → j < l.length → kx l i < kx l j
theorem srt_at {l : List (Int32 × Int32)} {key : Int32} {k : Nat} (h : Srt l) (hk : k < l.length) (e : kx l k = key) : hs l key = true ∧ rk l key = k := by
  have h1 : k = rk l key := rk_eq (Nat.le_of_lt hk) (fun j hj => by rw [← e]; exact h j k hj hk) (fun _ => by rw [e]; exact fun q => Int32.lt_irrefl q)
  exact ⟨hs_iff.mpr ⟨by rw [← h1]; exact hk, by rw [← h1]; exact e⟩, h1.symm⟩
theorem pin_iff {rows : List (Int32 × Nat × Nat)} {key : Int32} : pin rows key = true ↔ prow rows key < rows.length ∧ pK rows (prow rows key) = key := by
  unfold pin prow
  rw [hs_iff, pkl_len, pkl_kx]
theorem prow_at {rows : List (Int32 × Nat × Nat)} {key : Int32} {k : Nat} (h : Srt (pkl rows)) (hk : k < rows.length) (e : pK rows k = key) : pin rows key = true ∧ prow rows key = k := srt_at h (by rw [pkl_len]; exact hk) (by rw [pkl_kx]; exact e)
def RP (rows : List (Int32 × Nat × Nat)) (F Gn : Nat) (C : Bool) (ps : Int32) (pk sr tg fl xs : Nat → Int32) : Prop := ps = nI rows.length ∧ rows.length ≤ 256 ∧ ∀ k, k < rows.length → pk k = pK rows k ∧ sr k = nI (pS rows k) ∧ tg k = nI (pT rows k) ∧ fl k = (if k < F then 1 else 0) ∧ xs k = sta F Gn C k
section RPs
variable {rows : List (Int32 × Nat × Nat)} {F Gn : Nat} {C : Bool} {ps : Int32} {pk sr tg fl xs : Nat → Int32}
theorem RP.sz (h : RP rows F Gn C ps pk sr tg fl xs) : ps = nI rows.length := h.1
theorem RP.le (h : RP rows F Gn C ps pk sr tg fl xs) : rows.length ≤ 256 := h.2.1
theorem RP.k (h : RP rows F Gn C ps pk sr tg fl xs) {k : Nat} (hk : k < rows.length) : pk k = pK rows k := (h.2.2 k hk).1
theorem RP.s (h : RP rows F Gn C ps pk sr tg fl xs) {k : Nat} (hk : k < rows.length) : sr k = nI (pS rows k) := (h.2.2 k hk).2.1
theorem RP.t (h : RP rows F Gn C ps pk sr tg fl xs) {k : Nat} (hk : k < rows.length) : tg k = nI (pT rows k) := (h.2.2 k hk).2.2.1
theorem RP.f (h : RP rows F Gn C ps pk sr tg fl xs) {k : Nat} (hk : k < rows.length) : fl k = (if k < F then 1 else 0) := (h.2.2 k hk).2.2.2.1
theorem RP.x (h : RP rows F Gn C ps pk sr tg fl xs) {k : Nat} (hk : k < rows.length) : xs k = sta F Gn C k := (h.2.2 k hk).2.2.2.2
end RPs
theorem sta_12 {F Gn k : Nat} {C : Bool} : (sta F Gn C k = 1 ∨ sta F Gn C k = 2) ↔ F ≤ k := by
  unfold sta
  by_cases h : k < F
  · rw [if_pos h]
    constructor
    · intro q; split at q <;> rcases q with q | q <;> exact absurd q (by decide)
    · intro q; omega
  · rw [if_neg h]
    constructor
    · intro _; omega
    · intro _; split
      · exact Or.inr rfl
      · exact Or.inl rfl
theorem sta_4 {F Gn k : Nat} {C : Bool} (hg : Gn ≤ F) : sta F Gn C k = 4 ↔ k < Gn := by
  unfold sta
  by_cases h : k < F
  · rw [if_pos h]
    by_cases h2 : k < Gn
    · rw [if_pos h2]; exact ⟨fun _ => h2, fun _ => rfl⟩
    · rw [if_neg h2]; exact ⟨fun q => absurd q (by decide), fun q => absurd q h2⟩
  · rw [if_neg h]
    constructor
    · intro q; split at q <;> exact absurd q (by decide)
    · intro q; omega
noncomputable def homeF (mm : Nat → Nat) (rows : List (Int32 × Nat × Nat)) (F : Nat) (key : Int32) : Nat := if pin rows key = true ∧ F ≤ prow rows key then pS rows (prow rows key) else own mm (plF (key : Int32).toInt64)
def P8 (rows : List (Int32 × Nat × Nat)) : Prop := ∀ k, k < rows.length → pS rows k < 8 ∧ pT rows k < 8
theorem BI.ex {mm : Nat → Nat} {x : Int32} : ∀ n, n ≤ 8 → ∃ b bp, BI mm x n 0 b bp
  | 0, _ => ⟨_, 0, BI.zero⟩
  | n + 1, h => by
    obtain ⟨b, bp, h0⟩ := BI.ex n (by omega)
    have key : ∀ v, v ≤ mm n → ∃ b bp, BI mm x n v b bp := by
      intro v
      induction v with
      | zero => intro _; exact ⟨b, bp, h0⟩
      | succ v ih =>
        intro hv
        obtain ⟨b, bp, h1⟩ := ih (by omega)
        by_cases c1 : Pt n v < x
        · exact ⟨_, _, h1.skip c1⟩
        · by_cases c2 : b < 0 ∨ Pt n v < bp
          · exact ⟨_, _, h1.set (by omega) (by omega) c1 c2⟩
          · exact ⟨_, _, h1.keep (fun q => c2 (Or.inl q)) (fun q => c2 (Or.inr q))⟩
    obtain ⟨b, bp, h1⟩ := key (mm n) (Nat.le_refl _)
    exact ⟨b, bp, h1.next⟩
theorem LI.ex {mm : Nat → Nat} : ∀ n, n ≤ 8 → ∃ b bp, LI mm n 0 b bp
  | 0, _ => ⟨_, 0, LI.zero⟩
  | n + 1, h => by
    obtain ⟨b, bp, h0⟩ := LI.ex (mm := mm) n (by omega)
    have key : ∀ v, v ≤ mm n → ∃ b bp, LI mm n v b bp := by
      intro v
      induction v with
      | zero => intro _; exact ⟨b, bp, h0⟩
      | succ v ih =>
        intro hv
        obtain ⟨b, bp, h1⟩ := ih (by omega)
        by_cases c2 : b < 0 ∨ Pt n v < bp
        · exact ⟨_, _, h1.set (by omega) (by omega) c2⟩
        · exact ⟨_, _, h1.keep (fun q => c2 (Or.inl q)) (fun q => c2 (Or.inr q))⟩
    obtain ⟨b, bp, h1⟩ := key (mm n) (Nat.le_refl _)
    exact ⟨b, bp, h1.next⟩
theorem own_is {mm : Nat → Nat} {x : Int32} (hm : MM mm) : IsOwn mm x (own mm x) := by
  have hex : ∃ o, IsOwn mm x o := by
    obtain ⟨b, bp, hb⟩ := BI.ex (mm := mm) (x := x) 8 (Nat.le_refl _)
    obtain ⟨l, lp, hl⟩ := LI.ex (mm := mm) 8 (Nat.le_refl _)
    rcases hb with ⟨h1, h2⟩ | ⟨o, u, h1, h2, h3, h4, h5⟩
    · rcases hl with ⟨g1, g2⟩ | ⟨o, u, g1, g2, g3, g5⟩
      · obtain ⟨n, hn, hp⟩ := hm.2
        exact absurd (dn_8 hn hp) (g2 _ _)
      · exact ⟨o, g1.1, Or.inr ⟨fun n' v' a1 a2 => h2 _ _ (dn_8 a1 a2), u, g1.2.1, fun n' v' a1 a2 => g5 _ _ (dn_8 a1 a2)⟩⟩
    · exact ⟨o, h1.1, Or.inl ⟨u, h1.2.1, h4, fun n' v' a1 a2 a3 => h5 _ _ (dn_8 a1 a2) a3⟩⟩
  exact Classical.epsilon_spec (p := fun o => IsOwn mm x o) hex
theorem own_lt {mm : Nat → Nat} {x : Int32} (hm : MM mm) : own mm x < 8 := (own_is hm).1
theorem homeF_lt {mm : Nat → Nat} {rows : List (Int32 × Nat × Nat)} {F : Nat} {key : Int32} (hm : MM mm) (h8 : P8 rows) : homeF mm rows F key < 8 := by
  unfold homeF
  split
  next h => exact (h8 _ (pin_iff.mp h.1).1).1
  next h => exact own_lt hm
def sumN (f : Nat → Nat) : Nat → Nat
  | 0 => 0
  | n + 1 => sumN f n + f n
def thN (st : Nat → List (Int32 × Int32)) (hm : Int32 → Nat) (n : Nat) : Nat := (st n).countP (fun e => decide (hm e.1 = n))
def thF (st : Nat → List (Int32 × Int32)) (hm : Int32 → Nat) : Nat := sumN (thN st hm) 8
theorem sumN_le {f : Nat → Nat} {b : Nat} : ∀ {n : Nat}, (∀ k, k < n → f k ≤ b) → sumN f n ≤ n * b
  | 0, _ => Nat.zero_le _
  | n + 1, h => by
    have h1 := sumN_le (f := f) (b := b) (n := n) (fun k hk => h k (by omega))
    have h2 := h n (by omega)
    show sumN f n + f n ≤ _
    rw [Nat.succ_mul]; omega
theorem take_cnt (l : List (Int32 × Int32)) (p : Int32 × Int32 → Bool) {k : Nat} (hk : k < l.length) : (l.take (k + 1)).countP p = (l.take k).countP p + if p (l.getD k (0, 0)) = true then 1 else 0 := by
  rw [List.take_add_one, List.getElem?_eq_getElem hk, Option.toList_some, List.countP_append, List.countP_singleton, List.getD_eq_getElem?_getD, List.getElem?_eq_getElem hk]
  rfl
/-- how many rows ahead of k are counted by 'still' -/
def stc (b : Bool) (F Gn k : Nat) : Nat := if b = true then k - Gn else min k F - Gn
