-- what each call answers and does, in words of the state alone
/-- off, left, writes, records, stores, members, planned, the plan's rows, how many are flipped, how many are gone, whether the first other one is copied -/
abbrev Sg : Type := Int32 × Int32 × Int32 × Int32 × (Nat → List (Int32 × Int32)) × (Nat → Nat) × Int32 × List (Int32 × Nat × Nat) × Nat × Nat × Bool
abbrev MT : Type := Int32 × Int32 × Int32 × Int32 × Int32 × (Nat → Int32) × (Nat → Int32) × (Nat → Int32) × (Nat → Int32) × (Nat → Int32) × Int32 × Int32 × (Nat → Int32) × (Nat → Int32) × (Nat → Int32) × (Nat → Int32) × (Nat → Int32)
abbrev mWu (cI cZ : ClassId) (G : Nat → Nat) (u : MT) : va_W := mW cI cZ G u.1 u.2.1 u.2.2.1 u.2.2.2.1 u.2.2.2.2.1 u.2.2.2.2.2.1 u.2.2.2.2.2.2.1 u.2.2.2.2.2.2.2.1 u.2.2.2.2.2.2.2.2.1 u.2.2.2.2.2.2.2.2.2.1 u.2.2.2.2.2.2.2.2.2.2.1 u.2.2.2.2.2.2.2.2.2.2.2.1 u.2.2.2.2.2.2.2.2.2.2.2.2.1 u.2.2.2.2.2.2.2.2.2.2.2.2.2.1 u.2.2.2.2.2.2.2.2.2.2.2.2.2.2.1 u.2.2.2.2.2.2.2.2.2.2.2.2.2.2.2.1 u.2.2.2.2.2.2.2.2.2.2.2.2.2.2.2.2
/-- the reference's cells hold the state -/
def RepM (σ : Sg) (u : MT) : Prop := match σ, u with
  | (off, left, wr, rc, st, mm, pl, rows, F, Gn, C), (_, off', left', wr', rc', mem, _, ks, vs, sx, pl', ps, pk, sr, tg, fl, xs) =>
    off' = off ∧ left' = left ∧ wr' = wr ∧ rc' = rc ∧ pl' = pl ∧ RS st ks vs sx ∧ (∀ n, n < 8 → mem n = nI (mm n)) ∧ RP rows F Gn C ps pk sr tg fl xs
/-- the key is COPIED -/
def cpd (rows : List (Int32 × Nat × Nat)) (F : Nat) (C : Bool) (key : Int32) : Bool := pin rows key && decide (prow rows key = F) && C
theorem cpd_iff {rows : List (Int32 × Nat × Nat)} {F : Nat} {C : Bool} {key : Int32} : cpd rows F C key = true ↔ pin rows key = true ∧ prow rows key = F ∧ C = true := by
  unfold cpd; simp only [Bool.and_eq_true, decide_eq_true_eq, and_assoc]
theorem sta_2 {F Gn k : Nat} {C : Bool} : sta F Gn C k = 2 ↔ k = F ∧ C = true := by
  unfold sta
  by_cases h : k < F
  · rw [if_pos h]
    constructor
    · intro q; split at q <;> exact absurd q (by decide)
    · intro q; omega
  · rw [if_neg h]
    by_cases h2 : k = F ∧ C = true
    · rw [if_pos h2]; exact ⟨fun _ => h2, fun _ => rfl⟩
    · rw [if_neg h2]; exact ⟨fun q => absurd q (by decide), fun q => absurd q h2⟩
section Ops
variable (off left wr rc : Int32) (st : Nat → List (Int32 × Int32)) (mm : Nat → Nat) (pl : Int32) (rows : List (Int32 × Nat × Nat)) (F Gn : Nat) (C : Bool)
noncomputable def putF (key v : Int32) : Int32 × Int32 × Sg :=
  if ¬ off = 0 then (1, 0, (off, left, wr, rc, st, mm, pl, rows, F, Gn, C)) else
  if ¬ hs (st (homeF mm rows F key)) key = true ∧ 256 ≤ thF st (homeF mm rows F) then (1, 0, (off, left, wr, rc, st, mm, pl, rows, F, Gn, C)) else
  if left = 0 then (0, -9, (1, left, wr, rc, st, mm, pl, rows, F, Gn, C)) else
  if ¬ cpd rows F C key = true then (0, if hs (st (homeF mm rows F key)) key = true then 0 else 1, (off, wLeft left, wr + 1, rc, fu st (homeF mm rows F key) (ins (st (homeF mm rows F key)) key v), mm, pl, rows, F, Gn, C)) else
  if wLeft left = 0 then (0, -9, (1, wLeft left, wr + 1, rc, fu st (homeF mm rows F key) (ins (st (homeF mm rows F key)) key v), mm, pl, rows, F, Gn, C)) else
  (0, if hs (st (homeF mm rows F key)) key = true then 0 else 1, (off, wLeft (wLeft left), wr + 1 + 1, rc, fu (fu st (homeF mm rows F key) (ins (st (homeF mm rows F key)) key v)) (pT rows F) (ins ((fu st (homeF mm rows F key) (ins (st (homeF mm rows F key)) key v)) (pT rows F)) key v), mm, pl, rows, F, Gn, C))
noncomputable def remF (key : Int32) : Int32 × Int32 × Sg :=
  if ¬ off = 0 then (1, 0, (off, left, wr, rc, st, mm, pl, rows, F, Gn, C)) else
  if ¬ hs (st (homeF mm rows F key)) key = true then (0, 0, (off, left, wr, rc, st, mm, pl, rows, F, Gn, C)) else
  if left = 0 then (0, -9, (1, left, wr, rc, st, mm, pl, rows, F, Gn, C)) else
  if ¬ cpd rows F C key = true then (0, 1, (off, wLeft left, wr + 1, rc, fu st (homeF mm rows F key) (del (st (homeF mm rows F key)) key), mm, pl, rows, F, Gn, C)) else
  if wLeft left = 0 then (0, -9, (1, wLeft left, wr + 1, rc, fu st (homeF mm rows F key) (del (st (homeF mm rows F key)) key), mm, pl, rows, F, Gn, C)) else
  (0, 1, (off, wLeft (wLeft left), wr + 1 + 1, rc, fu (fu st (homeF mm rows F key) (del (st (homeF mm rows F key)) key)) (pT rows F) (del ((fu st (homeF mm rows F key) (del (st (homeF mm rows F key)) key)) (pT rows F)) key), mm, pl, rows, F, Gn, C))
noncomputable def getF (key : Int32) : Int32 × Int32 := if ¬ off = 0 then (1, 0) else if hs (st (homeF mm rows F key)) key = true then (0, vx (st (homeF mm rows F key)) (rk (st (homeF mm rows F key)) key)) else (2, 0)
/-- one row more among a plan's -/
def insP (rows : List (Int32 × Nat × Nat)) (e : Int32 × Nat × Nat) : List (Int32 × Nat × Nat) := rows.take (prow rows e.1) ++ e :: rows.drop (prow rows e.1)
/-- a key of node n's store: it moves if its owner by w is another node -/
def mvS (w : Int32 → Nat) (n : Nat) (acc : List (Int32 × Nat × Nat)) (e : Int32 × Int32) : List (Int32 × Nat × Nat) := if w e.1 = n then acc else insP acc (e.1, n, w e.1)
def plUp (w : Int32 → Nat) : Nat → List (Int32 × Nat × Nat)
  | 0 => []
  | n + 1 => (st n).foldl (mvS w n) (plUp w n)
noncomputable def ownK (key : Int32) : Nat := own mm (plF (key : Int32).toInt64)
noncomputable def changeF (node pts : Nat) : Int32 × Int32 × Sg :=
  if left = 0 then (0, -9, (1, left, wr, rc, st, mm, pl, rows, F, Gn, C)) else
  (0, nI (plUp st (ownK (fu mm node pts)) 8).length, (off, wLeft left, wr + 1, rc + 1, st, fu mm node pts, 1, plUp st (ownK (fu mm node pts)) 8, 0, 0, false))
def memC : Nat := sumN (fun i => if 0 < mm i then 1 else 0) 8
noncomputable def joinF (node points : Int32) : Int32 × Int32 × Sg :=
  if node < 0 ∨ 8 ≤ node then (1, 0, (off, left, wr, rc, st, mm, pl, rows, F, Gn, C)) else
  if points < 1 ∨ 16 < points then (2, 0, (off, left, wr, rc, st, mm, pl, rows, F, Gn, C)) else
  if ¬ off = 0 ∨ ¬ pl = 0 ∨ 0 < mm node.toNatClampNeg then (3, 0, (off, left, wr, rc, st, mm, pl, rows, F, Gn, C)) else
  changeF off left wr rc st mm pl rows F Gn C node.toNatClampNeg points.toNatClampNeg
noncomputable def leaveF (node : Int32) : Int32 × Int32 × Sg :=
  if node < 0 ∨ 8 ≤ node then (1, 0, (off, left, wr, rc, st, mm, pl, rows, F, Gn, C)) else
  if ¬ off = 0 ∨ ¬ pl = 0 ∨ mm node.toNatClampNeg = 0 ∨ memC mm = 1 then (2, 0, (off, left, wr, rc, st, mm, pl, rows, F, Gn, C)) else
  changeF off left wr rc st mm pl rows F Gn C node.toNatClampNeg 0
def stepF : Int32 × Int32 × Sg :=
  if ¬ off = 0 ∨ pl = 0 then (1, 0, (off, left, wr, rc, st, mm, pl, rows, F, Gn, C)) else
  if left = 0 then (0, -9, (1, left, wr, rc, st, mm, pl, rows, F, Gn, C)) else
  if Gn = rows.length then (0, 0, (off, wLeft left, wr + 1, rc + 1, st, mm, 0, [], 0, 0, false)) else
  if Gn < F then (0, 4, (off, wLeft left, wr + 1, rc, fu st (pS rows Gn) (del (st (pS rows Gn)) (pK rows Gn)), mm, pl, rows, F, Gn + 1, C)) else
  if C = true then (0, 3, (off, wLeft left, wr + 1, rc + 1, st, mm, pl, rows, F + 1, Gn, false)) else
  (0, 2, (off, wLeft left, wr + 1, rc, fu st (pT rows Gn) (if hs (st (pS rows Gn)) (pK rows Gn) = true then ins (st (pT rows Gn)) (pK rows Gn) (vx (st (pS rows Gn)) (rk (st (pS rows Gn)) (pK rows Gn))) else del (st (pT rows Gn)) (pK rows Gn)), mm, pl, rows, F, Gn, true))
def failF (n : Int32) : Int32 × Sg := if n < -1 then (1, (off, left, wr, rc, st, mm, pl, rows, F, Gn, C)) else if ¬ off = 0 then (2, (off, left, wr, rc, st, mm, pl, rows, F, Gn, C)) else (0, (off, n, wr, rc, st, mm, pl, rows, F, Gn, C))
def recF : Int32 × Int32 × Sg := if off = 0 then (1, 0, (off, left, wr, rc, st, mm, pl, rows, F, Gn, C)) else (0, if pl = 0 then -1 else nI (rows.length - F), (0, -1, wr, rc, st, mm, pl, rows, F, 0, false))
noncomputable def ownF (key : Int32) : Int32 × Int32 := if ¬ off = 0 then (1, 0) else (0, nI (ownK mm key))
noncomputable def homF (key : Int32) : Int32 × Int32 := if ¬ off = 0 then (1, 0) else (0, nI (homeF mm rows F key))
def staF (key : Int32) : Int32 × Int32 := if ¬ off = 0 then (1, 0) else (0, if pin rows key = true then sta F Gn C (prow rows key) else 0)
def hldF (node key : Int32) : Int32 × Int32 := if node < 0 ∨ 8 ≤ node then (1, 0) else (0, if hs (st node.toNatClampNeg) key = true then 1 else 0)
def sizF (node : Int32) : Int32 × Int32 := if node < 0 ∨ 8 ≤ node then (1, 0) else (0, nI (st node.toNatClampNeg).length)
def keyF (node i : Int32) : Int32 × Int32 := if node < 0 ∨ 8 ≤ node ∨ i < 0 ∨ nI (st node.toNatClampNeg).length ≤ i then (1, 0) else (0, kx (st node.toNatClampNeg) i.toNatClampNeg)
def ptsF (node : Int32) : Int32 × Int32 := if node < 0 ∨ 8 ≤ node then (1, 0) else if ¬ off = 0 then (2, 0) else (0, nI (mm node.toNatClampNeg))
noncomputable def cntF (what : Int32) : Int32 × Int32 := if what < 0 ∨ 2 < what then (1, 0) else if ¬ off = 0 then (2, 0) else
  (0, if what = 0 then nI (thF st (homeF mm rows F)) else if pl = 0 then -1 else if what = 1 then nI (rows.length - Gn) else nI (F - Gn))
end Ops
