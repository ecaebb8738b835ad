-- what holds of the state between calls, and that every call keeps it
def SL (N : Nat) (st : Nat → List (Int32 × Int32)) : Prop := ∀ n, n < 8 → Srt (st n) ∧ (st n).length ≤ N
def LOC (st : Nat → List (Int32 × Int32)) (mm : Nat → Nat) (rows : List (Int32 × Nat × Nat)) (Gn : Nat) : Prop := ∀ n, n < 8 → ∀ key, hs (st n) key = true → ownK mm key = n ∨ ∃ k, Gn ≤ k ∧ k < rows.length ∧ pK rows k = key ∧ pS rows k = n
def AGR (off : Int32) (C : Bool) (st : Nat → List (Int32 × Int32)) (rows : List (Int32 × Nat × Nat)) (F : Nat) : Prop := off = 0 → C = true → hs (st (pS rows F)) (pK rows F) = hs (st (pT rows F)) (pK rows F)
def RWS (mm : Nat → Nat) (pl : Int32) (rows : List (Int32 × Nat × Nat)) (F Gn : Nat) (C : Bool) : Prop :=
  (Srt (pkl rows) ∧ P8 rows ∧ rows.length ≤ 256 ∧ F ≤ rows.length ∧ Gn ≤ F) ∧ (C = true → Gn = F ∧ F < rows.length) ∧ (pl = 0 → rows = []) ∧ ∀ k, k < rows.length → pT rows k = ownK mm (pK rows k) ∧ pS rows k ≠ pT rows k
def AX (N : Nat) (off : Int32) (st : Nat → List (Int32 × Int32)) (mm : Nat → Nat) (pl : Int32) (rows : List (Int32 × Nat × Nat)) (F Gn : Nat) (C : Bool) : Prop :=
  (off = 0 ∨ off = 1) ∧ (pl = 0 ∨ pl = 1) ∧ SL N st ∧ MM mm ∧ RWS mm pl rows F Gn C ∧ LOC st mm rows Gn ∧ AGR off C st rows F ∧ thF st (homeF mm rows F) ≤ 256
def AI (N : Nat) (σ : Sg) : Prop := match σ with
  | (off, _, _, _, st, mm, pl, rows, F, Gn, C) => AX N off st mm pl rows F Gn C
noncomputable def thS (σ : Sg) : Nat := match σ with
  | (_, _, _, _, st, mm, _, rows, F, _, _) => thF st (homeF mm rows F)
theorem SL.mono {N N' : Nat} {st : Nat → List (Int32 × Int32)} (h : SL N st) (hn : N ≤ N') : SL N' st := fun n q => ⟨(h n q).1, Nat.le_trans (h n q).2 hn⟩
theorem SL.ins {N n : Nat} {st : Nat → List (Int32 × Int32)} (h : SL N st) (hn : n < 8) (key v : Int32) : SL (N + 1) (fu st n (CShardRingLaw_law_r1699_bd5f04.ins (st n) key v)) := by
  intro k hk
  by_cases e : k = n
  · subst e; rw [fu_s]; exact ⟨Srt_ins (h k hk).1 key v, Nat.le_trans (ins_le _ _ _) (Nat.succ_le_succ (h k hk).2)⟩
  · rw [fu_n _ _ e]; exact ⟨(h k hk).1, Nat.le_succ_of_le (h k hk).2⟩
theorem SL.ins2 {N n t : Nat} {st : Nat → List (Int32 × Int32)} (h : SL N st) (hn : n < 8) (ht : t < 8) (hne : n ≠ t) (key v key' v' : Int32) : SL (N + 1) (fu (fu st n (CShardRingLaw_law_r1699_bd5f04.ins (st n) key v)) t (CShardRingLaw_law_r1699_bd5f04.ins ((fu st n (CShardRingLaw_law_r1699_bd5f04.ins (st n) key v)) t) key' v')) := by
  intro k hk
  by_cases e : k = t
  · subst e; rw [fu_s, fu_n _ _ (Ne.symm hne)]; exact ⟨Srt_ins (h k hk).1 key' v', Nat.le_trans (ins_le _ _ _) (Nat.succ_le_succ (h k hk).2)⟩
  · rw [fu_n _ _ e]; exact (h.ins hn key v) k hk
theorem SL.del {N n : Nat} {st : Nat → List (Int32 × Int32)} (h : SL N st) (hn : n < 8) (key : Int32) : SL N (fu st n (CShardRingLaw_law_r1699_bd5f04.del (st n) key)) := by
  intro k hk
  by_cases e : k = n
  · subst e; rw [fu_s]; exact ⟨Srt_del (h k hk).1 key, Nat.le_trans (del_le _ _) (h k hk).2⟩
  · rw [fu_n _ _ e]; exact h k hk
section LOCs
variable {st : Nat → List (Int32 × Int32)} {mm : Nat → Nat} {rows : List (Int32 × Nat × Nat)} {Gn n : Nat} {key v : Int32}
theorem hs_fi (h : Srt (st n)) {k : Int32} (hk : k ≠ key) (x : Nat) : hs (fu st n (ins (st n) key v) x) k = hs (st x) k := by
  by_cases e : x = n
  · subst e; rw [fu_s]; exact hs_ins_o h hk
  · rw [fu_n _ _ e]
theorem hs_fd (h : Srt (st n)) {k : Int32} (hk : k ≠ key) (x : Nat) : hs (fu st n (del (st n) key) x) k = hs (st x) k := by
  by_cases e : x = n
  · subst e; rw [fu_s]; exact hs_del_o h hk
  · rw [fu_n _ _ e]
theorem LOC.ins (h : LOC st mm rows Gn) (hs' : Srt (st n)) (hl : ownK mm key = n ∨ ∃ k, Gn ≤ k ∧ k < rows.length ∧ pK rows k = key ∧ pS rows k = n) : LOC (fu st n (CShardRingLaw_law_r1699_bd5f04.ins (st n) key v)) mm rows Gn := by
  intro x hx k hk
  by_cases e : x = n
  · subst e
    rw [fu_s] at hk
    rcases (hs_ins hs' key v k).mp hk with q | q
    · rw [q]; exact hl
    · exact h x hx k q
  · rw [fu_n _ _ e] at hk; exact h x hx k hk
theorem LOC.del (h : LOC st mm rows Gn) (hs' : Srt (st n)) : LOC (fu st n (CShardRingLaw_law_r1699_bd5f04.del (st n) key)) mm rows Gn := by
  intro x hx k hk
  by_cases e : x = n
  · subst e
    rw [fu_s] at hk
    exact h x hx k ((hs_del hs' key k).mp hk).2
  · rw [fu_n _ _ e] at hk; exact h x hx k hk
theorem LOC.le (h : LOC st mm rows Gn) {G' : Nat} (hg : G' ≤ Gn) : LOC st mm rows G' := fun x hx k hk => (h x hx k hk).elim Or.inl (fun ⟨j, h1, h2⟩ => Or.inr ⟨j, Nat.le_trans hg h1, h2⟩)
end LOCs
section HM
variable {mm : Nat → Nat} {rows : List (Int32 × Nat × Nat)} {F Gn : Nat}
theorem home_row (hsr : Srt (pkl rows)) {k : Nat} (hk : k < rows.length) : homeF mm rows F (pK rows k) = if F ≤ k then pS rows k else ownK mm (pK rows k) := by
  obtain ⟨h1, h2⟩ := prow_at hsr hk rfl
  unfold homeF
  by_cases c : F ≤ k
  · rw [if_pos ⟨h1, by rw [h2]; exact c⟩, if_pos c, h2]
  · rw [if_neg (fun q => c (by have := q.2; rw [h2] at this; exact this)), if_neg c]; rfl
theorem home_loc (hg : Gn ≤ F) (key : Int32) : ownK mm key = homeF mm rows F key ∨ ∃ k, Gn ≤ k ∧ k < rows.length ∧ pK rows k = key ∧ pS rows k = homeF mm rows F key := by
  unfold homeF
  by_cases c : pin rows key = true ∧ F ≤ prow rows key
  · rw [if_pos c]
    obtain ⟨h1, h2⟩ := pin_iff.mp c.1
    exact Or.inr ⟨_, Nat.le_trans hg c.2, h1, h2, rfl⟩
  · rw [if_neg c]; exact Or.inl rfl
theorem home_nil (mm : Nat → Nat) (F : Nat) (key : Int32) : homeF mm [] F key = ownK mm key := by
  unfold homeF
  rw [if_neg (fun q => absurd (pin_iff.mp q.1).1 (Nat.not_lt_zero _))]; rfl
end HM
section OPS
variable {N : Nat} {off left wr rc : Int32} {st : Nat → List (Int32 × Int32)} {mm : Nat → Nat} {pl : Int32} {rows : List (Int32 × Nat × Nat)} {F Gn : Nat} {C : Bool}
theorem AX.off1 (h : AX N off st mm pl rows F Gn C) {N' : Nat} (hn : N ≤ N') : AX N' 1 st mm pl rows F Gn C := by
  obtain ⟨-, h2, h3, h4, h5, h6, -, h8⟩ := h
  exact ⟨Or.inr rfl, h2, h3.mono hn, h4, h5, h6, fun q => absurd q (by decide), h8⟩
theorem AX.mono (h : AX N off st mm pl rows F Gn C) {N' : Nat} (hn : N ≤ N') : AX N' off st mm pl rows F Gn C := by
  obtain ⟨h1, h2, h3, h4, h5, h6, h7, h8⟩ := h
  exact ⟨h1, h2, h3.mono hn, h4, h5, h6, h7, h8⟩
theorem AX.ow (h : AX N off st mm 0 rows F Gn C) : OW st (ownK mm) := by
  obtain ⟨-, -, h3, -, h5, h6, -, -⟩ := h
  have hr := h5.2.2.1 rfl
  subst hr
  intro n hn j hj
  rcases h6 n hn _ (hs_of (h3 n hn).1 hj rfl) with q | ⟨k, -, q, -⟩
  · exact q
  · exact absurd q (Nat.not_lt_zero _)
theorem AX.emp (h : AX N off st mm 0 rows F Gn C) : rows = [] ∧ F = 0 ∧ Gn = 0 ∧ C = false := by
  obtain ⟨-, -, -, -, ⟨⟨-, -, -, a4, a5⟩, a6, a7, -⟩, -⟩ := h
  have hr := a7 rfl
  subst hr
  have hF : F = 0 := Nat.le_zero.mp a4
  subst hF
  refine ⟨rfl, rfl, Nat.le_zero.mp a5, ?_⟩
  cases C with
  | false => rfl
  | true => exact absurd (a6 rfl).2 (Nat.not_lt_zero _)
theorem AX.tot (h : AX N off st mm 0 rows F Gn C) : sumN (fun n => (st n).length) 8 ≤ 256 := by
  have h0 := h.ow
  obtain ⟨hr, hF, -, -⟩ := h.emp
  subst hr; subst hF
  have h8 := h.2.2.2.2.2.2.2
  rw [th_cong (hm := ownK mm) (fun k => home_nil mm 0 k), th_all h0] at h8
  exact h8
theorem mv_le (w : Int32 → Nat) (n : Nat) : ∀ (l : List (Int32 × Int32)) (acc : List (Int32 × Nat × Nat)), (l.foldl (mvS w n) acc).length ≤ acc.length + l.length
  | [], acc => Nat.le_refl _
  | a :: l, acc => by
    rw [List.foldl_cons]
    have h1 := mv_le w n l (mvS w n acc a)
    have h2 : (mvS w n acc a).length ≤ acc.length + 1 := by
      unfold mvS; split
      · omega
      · rw [insP_len]; exact Nat.le_refl _
    rw [List.length_cons]; omega
theorem plUp_le (st : Nat → List (Int32 × Int32)) (w : Int32 → Nat) : ∀ n, (plUp st w n).length ≤ sumN (fun i => (st i).length) n
  | 0 => Nat.le_refl _
  | n + 1 => by
    have h1 := plUp_le st w n
    have h2 := mv_le w n (st n) (plUp st w n)
    show ((st n).foldl (mvS w n) (plUp st w n)).length ≤ sumN (fun i => (st i).length) n + (st n).length
    omega
theorem AX.h256 (h : AX N off st mm 0 rows F Gn C) (mo : Nat → Nat) : (plUp st (ownK mo) 8).length ≤ 256 := Nat.le_trans (plUp_le st _ 8) h.tot
theorem mv_mem {w : Int32 → Nat} {n : Nat} : ∀ {l : List (Int32 × Int32)} {acc : List (Int32 × Nat × Nat)} {x : Int32 × Nat × Nat}, (x ∈ acc ∨ ∃ e ∈ l, w e.1 ≠ n ∧ x = (e.1, n, w e.1)) → x ∈ l.foldl (mvS w n) acc
  | [], acc, x, h => h.elim id (fun ⟨e, he, _⟩ => absurd he List.not_mem_nil)
  | a :: l, acc, x, h => by
    rw [List.foldl_cons]
    refine mv_mem ?_
    rcases h with h | ⟨e, he, h1, h2⟩
    · left; unfold mvS; split
      · exact h
      · exact insP_mem.mpr (Or.inr h)
    · rcases List.mem_cons.mp he with q | q
      · left; subst q; unfold mvS; rw [if_neg h1]; exact insP_mem.mpr (Or.inl h2)
      · exact Or.inr ⟨e, q, h1, h2⟩
theorem plUp_mem {w : Int32 → Nat} {x : Int32 × Nat × Nat} : ∀ {m n : Nat}, n < m → (∃ e ∈ st n, w e.1 ≠ n ∧ x = (e.1, n, w e.1)) → x ∈ plUp st w m
  | 0, n, h, _ => absurd h (Nat.not_lt_zero _)
  | m + 1, n, h, hx => by
    show x ∈ (st m).foldl (mvS w m) (plUp st w m)
    by_cases e : n = m
    · subst e; exact mv_mem (Or.inr hx)
    · exact mv_mem (Or.inl (plUp_mem (by omega) hx))
theorem pg {rows : List (Int32 × Nat × Nat)} {k : Nat} (hk : k < rows.length) : (pK rows k, pS rows k, pT rows k) ∈ rows := by
  have : rows.getD k (0, 0, 0) ∈ rows := by rw [List.getD_eq_getElem?_getD, List.getElem?_eq_getElem hk]; exact List.getElem_mem hk
  exact this
theorem pg_of {rows : List (Int32 × Nat × Nat)} {x : Int32 × Nat × Nat} (h : x ∈ rows) : ∃ k, k < rows.length ∧ pK rows k = x.1 ∧ pS rows k = x.2.1 ∧ pT rows k = x.2.2 := by
  obtain ⟨k, hk, e⟩ := List.getElem_of_mem h
  refine ⟨k, hk, ?_⟩
  unfold pK pS pT
  rw [List.getD_eq_getElem?_getD, List.getElem?_eq_getElem hk, ← e]
  exact ⟨rfl, rfl, rfl⟩
theorem plUp_from {w : Int32 → Nat} {k : Nat} (hk : k < (plUp st w 8).length) : ∃ n j, n < 8 ∧ j < (st n).length ∧ pK (plUp st w 8) k = kx (st n) j ∧ pS (plUp st w 8) k = n ∧ pT (plUp st w 8) k = w (kx (st n) j) ∧ w (kx (st n) j) ≠ n := by
  have h := plA_from (st := st) (w := w) 7 (st 7).length (Nat.le_refl _)
  rw [plA_n] at h
  obtain ⟨n, j, h1, h2, h3, h4⟩ := h _ (pg hk)
  refine ⟨n, j, by omega, h2, ?_, ?_, ?_, h4⟩
  · exact congrArg Prod.fst h3
  · exact congrArg (fun z => z.2.1) h3
  · exact congrArg (fun z => z.2.2) h3
theorem AX.change (h : AX N off st mm 0 rows F Gn C) {mo : Nat → Nat} (hm : MM mo) : AX N off st mo 1 (plUp st (ownK mo) 8) 0 0 false ∧ thF st (homeF mo (plUp st (ownK mo) 8) 0) = thF st (homeF mm rows F) := by
  have h0 := h.ow
  have ht := h.tot
  have h9 := h.h256 mo
  obtain ⟨hr, hF, -, -⟩ := h.emp
  subst hr; subst hF
  obtain ⟨h1, -, h3, -, -, -, -, -⟩ := id h
  have hsr : Srt (pkl (plUp st (ownK mo) 8)) := plUp_srt (w := ownK mo) (fun n hn => (h3 n hn).1) h0
  have hloc : ∀ n, n < 8 → ∀ j, j < (st n).length → ownK mo (kx (st n) j) ≠ n → ∃ k, k < (plUp st (ownK mo) 8).length ∧ pK (plUp st (ownK mo) 8) k = kx (st n) j ∧ pS (plUp st (ownK mo) 8) k = n := by
    intro n hn j hj hne
    obtain ⟨k, a1, a2, a3, -⟩ := pg_of (plUp_mem (st := st) (w := ownK mo) (x := (kx (st n) j, n, ownK mo (kx (st n) j))) hn ⟨(kx (st n) j, vx (st n) j), mem_at.mpr ⟨j, hj, rfl, rfl⟩, hne, rfl⟩)
    exact ⟨k, a1, a2, a3⟩
  have how : OW st (homeF mo (plUp st (ownK mo) 8) 0) := by
    intro n hn j hj
    by_cases c : ownK mo (kx (st n) j) = n
    · unfold homeF
      rw [if_neg (fun q => ?_)]
      · exact c
      · obtain ⟨q1, q2⟩ := pin_iff.mp q.1
        obtain ⟨n', j', b1, b2, b3, -, -, b6⟩ := plUp_from q1
        have b7 : kx (st n') j' = kx (st n) j := b3.symm.trans q2
        have b8 := h0 n' b1 j' b2
        have b9 := h0 n hn j hj
        rw [b7, b9] at b8
        rw [b7, ← b8] at b6
        exact b6 c
    · obtain ⟨k, a1, a2, a3⟩ := hloc n hn j hj c
      rw [← a2, home_row hsr a1, if_pos (Nat.zero_le _)]; exact a3
  have e1 : thF st (homeF mo (plUp st (ownK mo) 8) 0) = sumN (fun n => (st n).length) 8 := th_all how
  have e2 : thF st (homeF mm [] 0) = sumN (fun n => (st n).length) 8 := by rw [th_cong (hm := ownK mm) (fun k => home_nil mm 0 k)]; exact th_all h0
  refine ⟨⟨h1, Or.inr rfl, h3, hm, ⟨⟨hsr, ?_, h9, Nat.zero_le _, Nat.le_refl _⟩, fun q => absurd q (by decide), fun q => absurd q (by decide), ?_⟩, ?_, fun _ q => absurd q (by decide), by rw [e1]; exact ht⟩, e1.trans e2.symm⟩
  · intro k hk
    obtain ⟨n, j, b1, b2, b3, b4, b5, b6⟩ := plUp_from hk
    exact ⟨by rw [b4]; exact b1, by rw [b5]; exact ownK_lt hm _⟩
  · intro k hk
    obtain ⟨n, j, b1, b2, b3, b4, b5, b6⟩ := plUp_from hk
    exact ⟨by rw [b5, b3], by rw [b4, b5]; exact Ne.symm b6⟩
  · intro n hn key hk
    obtain ⟨j, a1, a2⟩ := mem_kx.mp ((hs_mem (h3 n hn).1).mp hk)
    by_cases c : ownK mo key = n
    · exact Or.inl c
    · rw [← a2] at c ⊢
      obtain ⟨k, b1, b2, b3⟩ := hloc n hn j a1 c
      exact Or.inr ⟨k, Nat.zero_le _, b1, b2, b3⟩
end OPS
