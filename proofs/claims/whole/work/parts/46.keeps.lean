-- every call keeps what holds
section KP
variable {N : Nat} {off left wr rc : Int32} {st : Nat → List (Int32 × Int32)} {mm : Nat → Nat} {pl : Int32} {rows : List (Int32 × Nat × Nat)} {F Gn : Nat} {C : Bool}
theorem th_step {a b : Nat} {x : Int32} {c : Prop} [Decidable c] (h : b = a + if c then 0 else 1) (hx : x = nI a) : nI b = if c then x else x + 1 := by
  subst hx
  by_cases q : c
  · rw [if_pos q] at h ⊢; rw [h, Nat.add_zero]
  · rw [if_neg q] at h ⊢; rw [h, nI_1]
theorem cpd_at (hsr : Srt (pkl rows)) (hC : C = true) (hF : F < rows.length) : cpd rows F C (pK rows F) = true := by
  obtain ⟨h1, h2⟩ := prow_at hsr hF rfl
  exact cpd_iff.mpr ⟨h1, h2, hC⟩
theorem AX.put1 (h : AX N off st mm pl rows F Gn C) (key v : Int32) (hf : ¬ (¬ hs (st (homeF mm rows F key)) key = true ∧ 256 ≤ thF st (homeF mm rows F))) :
    SL (N + 1) (fu st (homeF mm rows F key) (ins (st (homeF mm rows F key)) key v)) ∧ LOC (fu st (homeF mm rows F key) (ins (st (homeF mm rows F key)) key v)) mm rows Gn ∧
    thF (fu st (homeF mm rows F key) (ins (st (homeF mm rows F key)) key v)) (homeF mm rows F) = thF st (homeF mm rows F) + (if hs (st (homeF mm rows F key)) key = true then 0 else 1) ∧
    thF (fu st (homeF mm rows F key) (ins (st (homeF mm rows F key)) key v)) (homeF mm rows F) ≤ 256 := by
  obtain ⟨h1, h2, h3, h4, h5, h6, h7, h8⟩ := h
  have hl := homeF_lt (F := F) (key := key) h4 h5.1.2.1
  have ht := th_ins (st := st) (hm := homeF mm rows F) hl key v
  rw [if_pos rfl] at ht
  refine ⟨h3.ins hl key v, h6.ins (h3 _ hl).1 (home_loc h5.1.2.2.2.2 key), ht, ?_⟩
  rw [ht]
  by_cases c : hs (st (homeF mm rows F key)) key = true
  · rw [if_pos c]; exact h8
  · rw [if_neg c]
    have : ¬ 256 ≤ thF st (homeF mm rows F) := fun q => hf ⟨c, q⟩
    omega
theorem put_AI (h : AX N off st mm pl rows F Gn C) (key v : Int32) {k r : Int32} {σ' : Sg} (he : putF off left wr rc st mm pl rows F Gn C key v = (k, r, σ')) :
    AI (N + 1) σ' ∧ (¬ k = 0 → σ' = (off, left, wr, rc, st, mm, pl, rows, F, Gn, C)) ∧ (k = 0 → thS σ' = thF st (homeF mm rows F) + if left = 0 ∨ hs (st (homeF mm rows F key)) key = true then 0 else 1) := by
  unfold putF at he
  by_cases c1 : off = 0
  · rw [if_neg (fun q => q c1)] at he
    by_cases c2 : ¬ hs (st (homeF mm rows F key)) key = true ∧ 256 ≤ thF st (homeF mm rows F)
    · rw [if_pos c2] at he; cases he
      exact ⟨h.mono (Nat.le_succ _), fun _ => rfl, fun q => absurd q (by decide)⟩
    · rw [if_neg c2] at he
      obtain ⟨p1, p2, p3, p4⟩ := h.put1 key v c2
      by_cases c3 : left = 0
      · rw [if_pos c3] at he; cases he
        exact ⟨h.off1 (Nat.le_succ _), fun q => absurd rfl q, fun _ => by rw [if_pos (Or.inl c3)]; rfl⟩
      · rw [if_neg c3] at he
        have e9 : (if left = 0 ∨ hs (st (homeF mm rows F key)) key = true then 0 else 1) = if hs (st (homeF mm rows F key)) key = true then 0 else 1 := by
          by_cases q : hs (st (homeF mm rows F key)) key = true
          · rw [if_pos q, if_pos (Or.inr q)]
          · rw [if_neg q, if_neg (fun z => z.elim c3 q)]
        obtain ⟨h1, h2, h3, h4, h5, h6, h7, h8⟩ := id h
        have hl := homeF_lt (F := F) (key := key) h4 h5.1.2.1
        by_cases c4 : cpd rows F C key = true
        · rw [if_neg (fun q => q c4)] at he
          obtain ⟨d1, d2, d3⟩ := cpd_iff.mp c4
          obtain ⟨d4, d5⟩ := pin_iff.mp d1
          rw [d2] at d4 d5
          have hT := (h5.1.2.1 F d4).2
          have hS8 := (h5.1.2.1 F d4).1
          have hh : homeF mm rows F key = pS rows F := by rw [← d5, home_row h5.1.1 d4, if_pos (Nat.le_refl _)]
          have hne := (h5.2.2.2 F d4).2
          by_cases c5 : wLeft left = 0
          · rw [if_pos c5] at he; cases he
            exact ⟨⟨Or.inr rfl, h2, p1, h4, h5, p2, fun q => absurd q (by decide), p4⟩, fun q => absurd rfl q, fun _ => by rw [e9]; exact p3⟩
          · rw [if_neg c5] at he; cases he
            have hne' : homeF mm rows F key ≠ pT rows F := by rw [hh]; exact hne
            have ht := th_ins (st := fu st (homeF mm rows F key) (ins (st (homeF mm rows F key)) key v)) (hm := homeF mm rows F) hT key v
            rw [if_neg hne', ite_self, Nat.add_zero] at ht
            have p5 : SL (N + 1) _ := h3.ins2 hl hT hne' key v key v
            refine ⟨⟨h1, h2, p5, h4, h5, p2.ins (p1 _ hT).1 (Or.inl ?_), ?_, by rw [ht]; exact p4⟩, fun q => absurd rfl q, fun _ => ?_⟩
            · rw [(h5.2.2.2 F d4).1, d5]
            · intro _ _
              have g1 : ∀ x, x < 8 → (x = homeF mm rows F key ∨ x = pT rows F) → hs (fu (fu st (homeF mm rows F key) (ins (st (homeF mm rows F key)) key v)) (pT rows F) (ins ((fu st (homeF mm rows F key) (ins (st (homeF mm rows F key)) key v)) (pT rows F)) key v) x) (pK rows F) = true := by
                intro x hx hq
                rcases hq with q | q
                · rw [q, fu_n _ _ hne', fu_s, d5]; exact (hs_ins (h3 _ hl).1 key v key).mpr (Or.inl rfl)
                · rw [q, fu_s, d5]; exact (hs_ins (p1 _ hT).1 key v key).mpr (Or.inl rfl)
              rw [g1 _ hS8 (Or.inl hh.symm), g1 _ hT (Or.inr rfl)]
            · show thF _ (homeF mm rows F) = _
              rw [ht, p3, e9]
        · rw [if_pos c4] at he; cases he
          refine ⟨⟨h1, h2, p1, h4, h5, p2, ?_, p4⟩, fun q => absurd rfl q, fun _ => by rw [e9]; exact p3⟩
          intro q1 q2
          have hFl := (h5.2.1 q2).2
          have hk : pK rows F ≠ key := fun e => c4 (by rw [← e]; exact cpd_at h5.1.1 q2 hFl)
          rw [hs_fi (h3 _ hl).1 hk, hs_fi (h3 _ hl).1 hk]
          exact h7 q1 q2
  · rw [if_pos c1] at he; cases he
    exact ⟨h.mono (Nat.le_succ _), fun _ => rfl, fun q => absurd q (by decide)⟩
theorem rem_AI (h : AX N off st mm pl rows F Gn C) (key : Int32) {k r : Int32} {σ' : Sg} (he : remF off left wr rc st mm pl rows F Gn C key = (k, r, σ')) :
    AI N σ' ∧ (¬ k = 0 → σ' = (off, left, wr, rc, st, mm, pl, rows, F, Gn, C)) ∧ (k = 0 → thF st (homeF mm rows F) = thS σ' + if left = 0 ∨ ¬ hs (st (homeF mm rows F key)) key = true then 0 else 1) := by
  unfold remF at he
  by_cases c1 : off = 0
  · rw [if_neg (fun q => q c1)] at he
    by_cases c2 : hs (st (homeF mm rows F key)) key = true
    · rw [if_neg (fun q => q c2)] at he
      by_cases c3 : left = 0
      · rw [if_pos c3] at he; cases he
        exact ⟨h.off1 (Nat.le_refl _), fun q => absurd rfl q, fun _ => by rw [if_pos (Or.inl c3)]; rfl⟩
      · rw [if_neg c3] at he
        rw [if_neg (show ¬ (left = 0 ∨ ¬ hs (st (homeF mm rows F key)) key = true) from fun q => q.elim c3 (fun z => z c2))]
        obtain ⟨h1, h2, h3, h4, h5, h6, h7, h8⟩ := id h
        have hl := homeF_lt (F := F) (key := key) h4 h5.1.2.1
        have ht := th_del (st := st) (hm := homeF mm rows F) hl key
        rw [if_pos c2, if_pos rfl] at ht
        have p1 : SL N _ := h3.del hl key
        have p2 : LOC (fu st (homeF mm rows F key) (del (st (homeF mm rows F key)) key)) mm rows Gn := h6.del (h3 _ hl).1
        by_cases c4 : cpd rows F C key = true
        · rw [if_neg (fun q => q c4)] at he
          obtain ⟨d1, d2, d3⟩ := cpd_iff.mp c4
          obtain ⟨d4, d5⟩ := pin_iff.mp d1
          rw [d2] at d4 d5
          have hT := (h5.1.2.1 F d4).2
          have hh : homeF mm rows F key = pS rows F := by rw [← d5, home_row h5.1.1 d4, if_pos (Nat.le_refl _)]
          have hne := (h5.2.2.2 F d4).2
          by_cases c5 : wLeft left = 0
          · rw [if_pos c5] at he; cases he
            exact ⟨⟨Or.inr rfl, h2, p1, h4, h5, p2, fun q => absurd q (by decide), by omega⟩, fun q => absurd rfl q, fun _ => ht⟩
          · rw [if_neg c5] at he; cases he
            have hne' : homeF mm rows F key ≠ pT rows F := by rw [hh]; exact hne
            have ht2 := th_del (st := fu st (homeF mm rows F key) (del (st (homeF mm rows F key)) key)) (hm := homeF mm rows F) hT key
            rw [if_neg hne', ite_self, Nat.add_zero] at ht2
            refine ⟨⟨h1, h2, p1.del hT key, h4, h5, p2.del (p1 _ hT).1, ?_, by omega⟩, fun q => absurd rfl q, fun _ => ?_⟩
            · intro _ _
              have g1 : ∀ x, (x = homeF mm rows F key ∨ x = pT rows F) → hs (fu (fu st (homeF mm rows F key) (del (st (homeF mm rows F key)) key)) (pT rows F) (del ((fu st (homeF mm rows F key) (del (st (homeF mm rows F key)) key)) (pT rows F)) key) x) (pK rows F) = false := by
                intro x hq
                rw [Bool.eq_false_iff]
                intro z
                rcases hq with q | q
                · rw [q, fu_n _ _ hne', fu_s, d5] at z; exact ((hs_del (h3 _ hl).1 key key).mp z).1 rfl
                · rw [q, fu_s, d5] at z; exact ((hs_del (p1 _ hT).1 key key).mp z).1 rfl
              rw [g1 _ (Or.inl hh.symm), g1 _ (Or.inr rfl)]
            · show _ = thF _ (homeF mm rows F) + 1
              rw [← ht2]; exact ht
        · rw [if_pos c4] at he; cases he
          refine ⟨⟨h1, h2, p1, h4, h5, p2, ?_, by omega⟩, fun q => absurd rfl q, fun _ => ht⟩
          intro q1 q2
          have hFl := (h5.2.1 q2).2
          have hk : pK rows F ≠ key := fun e => c4 (by rw [← e]; exact cpd_at h5.1.1 q2 hFl)
          rw [hs_fd (h3 _ hl).1 hk, hs_fd (h3 _ hl).1 hk]
          exact h7 q1 q2
    · rw [if_pos c2] at he; cases he
      exact ⟨h, fun q => absurd rfl q, fun _ => by rw [if_pos (Or.inr c2)]; rfl⟩
  · rw [if_pos c1] at he; cases he
    exact ⟨h, fun _ => rfl, fun q => absurd q (by decide)⟩
theorem step_AI (h : AX N off st mm pl rows F Gn C) {k r : Int32} {σ' : Sg} (he : stepF off left wr rc st mm pl rows F Gn C = (k, r, σ')) :
    AI (N + 1) σ' ∧ (¬ k = 0 → σ' = (off, left, wr, rc, st, mm, pl, rows, F, Gn, C)) ∧ thS σ' = thF st (homeF mm rows F) := by
  unfold stepF at he
  by_cases c1 : ¬ off = 0 ∨ pl = 0
  · rw [if_pos c1] at he; cases he
    exact ⟨h.mono (Nat.le_succ _), fun _ => rfl, rfl⟩
  · rw [if_neg c1] at he
    have hoff : off = 0 := Decidable.byContradiction (fun q => c1 (Or.inl q))
    have hpl : ¬ pl = 0 := fun q => c1 (Or.inr q)
    by_cases c2 : left = 0
    · rw [if_pos c2] at he; cases he
      exact ⟨h.off1 (Nat.le_succ _), fun q => absurd rfl q, rfl⟩
    · rw [if_neg c2] at he
      obtain ⟨h1, h2, h3, h4, h5, h6, h7, h8⟩ := id h
      obtain ⟨⟨a1, a2, a3, a4, a5⟩, a6, a7, a8⟩ := id h5
      by_cases c3 : Gn = rows.length
      · rw [if_pos c3] at he; cases he
        have hF : F = rows.length := by omega
        have hh : ∀ key, homeF mm [] 0 key = homeF mm rows F key := fun key => by
          rw [home_nil]; unfold homeF
          rw [if_neg (fun q => by have := (pin_iff.mp q.1).1; have := q.2; omega)]; rfl
        have hth : thF st (homeF mm [] 0) = thF st (homeF mm rows F) := th_cong hh
        refine ⟨⟨h1, Or.inl rfl, h3.mono (Nat.le_succ _), h4, ⟨⟨Srt_nil, fun k hk => absurd hk (Nat.not_lt_zero _), Nat.zero_le _, Nat.zero_le _, Nat.le_refl _⟩, fun q => absurd q (by decide), fun _ => rfl, fun k hk => absurd hk (Nat.not_lt_zero _)⟩, ?_, fun _ q => absurd q (by decide), by rw [hth]; exact h8⟩, fun q => absurd rfl q, hth⟩
        intro n hn key hk
        rcases h6 n hn key hk with q | ⟨k, b1, b2, -⟩
        · exact Or.inl q
        · omega
      · rw [if_neg c3] at he
        have hgl : Gn < rows.length := by omega
        have hS8 := (a2 Gn hgl).1
        have hT8 := (a2 Gn hgl).2
        obtain ⟨t1, t2⟩ := a8 Gn hgl
        by_cases c4 : Gn < F
        · rw [if_pos c4] at he; cases he
          have hm : homeF mm rows F (pK rows Gn) = pT rows Gn := by rw [home_row a1 hgl, if_neg (by omega), ← t1]
          have ht := th_del (st := st) (hm := homeF mm rows F) hS8 (pK rows Gn)
          rw [hm, if_neg (Ne.symm t2), ite_self, Nat.add_zero] at ht
          refine ⟨⟨h1, h2, (h3.del hS8 _).mono (Nat.le_succ _), h4, ⟨⟨a1, a2, a3, a4, by omega⟩, fun q => by have := (a6 q).1; omega, a7, a8⟩, ?_, fun _ q => by have := (a6 q).1; omega, by rw [← ht]; exact h8⟩, fun q => absurd rfl q, ht.symm⟩
          intro n hn key hk
          have hk0 : hs (st n) key = true := by
            by_cases e : n = pS rows Gn
            · subst e; rw [fu_s] at hk; exact ((hs_del (h3 _ hS8).1 _ key).mp hk).2
            · rw [fu_n _ _ e] at hk; exact hk
          rcases h6 n hn key hk0 with q | ⟨k, b1, b2, b3, b4⟩
          · exact Or.inl q
          · refine Or.inr ⟨k, ?_, b2, b3, b4⟩
            by_cases e : k = Gn
            · subst e
              rw [b4.symm, fu_s, ← b3] at hk
              exact absurd rfl ((hs_del (h3 _ hS8).1 _ _).mp hk).1
            · omega
        · rw [if_neg c4] at he
          have hGF : Gn = F := by omega
          subst hGF
          by_cases c5 : C = true
          · rw [if_pos c5] at he; cases he
            have hth : thF st (homeF mm rows (Gn + 1)) = thF st (homeF mm rows Gn) := by
              refine th_flip (key := pK rows Gn) hS8 hT8 t2 (fun n hn => (h3 n hn).1) (by rw [home_row a1 hgl, if_pos (Nat.le_refl _)]) (by rw [home_row a1 hgl, if_neg (by omega), ← t1]) (fun key hk => ?_) (h7 hoff c5)
              unfold homeF
              by_cases q : pin rows key = true ∧ Gn ≤ prow rows key
              · have q2 : prow rows key ≠ Gn := fun e => hk (by rw [← e]; exact (pin_iff.mp q.1).2.symm)
                rw [if_pos q, if_pos ⟨q.1, by have := q.2; omega⟩]
              · rw [if_neg q, if_neg (fun z => q ⟨z.1, by have := z.2; omega⟩)]
            refine ⟨⟨h1, h2, h3.mono (Nat.le_succ _), h4, ⟨⟨a1, a2, a3, by omega, by omega⟩, fun q => absurd q (by decide), a7, a8⟩, h6, fun _ q => absurd q (by decide), by rw [hth]; exact h8⟩, fun q => absurd rfl q, hth⟩
          · rw [if_neg c5] at he; cases he
            have hm : homeF mm rows Gn (pK rows Gn) = pS rows Gn := by rw [home_row a1 hgl, if_pos (Nat.le_refl _)]
            have rws : RWS mm pl rows Gn Gn true := ⟨⟨a1, a2, a3, a4, a5⟩, fun _ => ⟨rfl, hgl⟩, a7, a8⟩
            by_cases c6 : hs (st (pS rows Gn)) (pK rows Gn) = true
            · have ht := th_ins (st := st) (hm := homeF mm rows Gn) hT8 (pK rows Gn) (vx (st (pS rows Gn)) (rk (st (pS rows Gn)) (pK rows Gn)))
              rw [hm, if_neg t2, ite_self, Nat.add_zero] at ht
              simp only [if_pos c6]
              refine ⟨⟨h1, h2, h3.ins hT8 _ _, h4, rws, h6.ins (h3 _ hT8).1 (Or.inl t1.symm), fun _ _ => ?_, by rw [ht]; exact h8⟩, fun q => absurd trivial q, ht⟩
              rw [fu_n _ _ t2, fu_s, c6, (hs_ins (h3 _ hT8).1 _ _ _).mpr (Or.inl rfl)]
            · have ht := th_del (st := st) (hm := homeF mm rows Gn) hT8 (pK rows Gn)
              rw [hm, if_neg t2, ite_self, Nat.add_zero] at ht
              simp only [if_neg c6]
              refine ⟨⟨h1, h2, (h3.del hT8 _).mono (Nat.le_succ _), h4, rws, h6.del (h3 _ hT8).1, fun _ _ => ?_, by rw [← ht]; exact h8⟩, fun q => absurd trivial q, ht.symm⟩
              rw [fu_n _ _ t2, fu_s, Bool.eq_false_iff.mpr c6]
              exact (Bool.eq_false_iff.mpr (fun z => ((hs_del (h3 _ hT8).1 _ _).mp z).1 rfl)).symm
theorem change_AI (h : AX N off st mm pl rows F Gn C) (hp : pl = 0) {node pts : Nat} (hm : MM (fu mm node pts)) {k r : Int32} {σ' : Sg} (he : changeF off left wr rc st mm pl rows F Gn C node pts = (k, r, σ')) :
    AI N σ' ∧ k = 0 ∧ thS σ' = thF st (homeF mm rows F) := by
  subst hp
  unfold changeF at he
  by_cases c : left = 0
  · rw [if_pos c] at he; cases he
    exact ⟨h.off1 (Nat.le_refl _), rfl, rfl⟩
  · rw [if_neg c] at he; cases he
    exact ⟨(h.change hm).1, rfl, (h.change hm).2⟩
theorem join_AI (h : AX N off st mm pl rows F Gn C) (node pn : Int32) {k r : Int32} {σ' : Sg} (he : joinF off left wr rc st mm pl rows F Gn C node pn = (k, r, σ')) :
    AI N σ' ∧ (¬ k = 0 → σ' = (off, left, wr, rc, st, mm, pl, rows, F, Gn, C)) ∧ thS σ' = thF st (homeF mm rows F) := by
  unfold joinF at he
  by_cases c1 : node < 0 ∨ 8 ≤ node
  · rw [if_pos c1] at he; cases he; exact ⟨h, fun _ => rfl, rfl⟩
  · rw [if_neg c1] at he
    by_cases c2 : pn < 1 ∨ 16 < pn
    · rw [if_pos c2] at he; cases he; exact ⟨h, fun _ => rfl, rfl⟩
    · rw [if_neg c2] at he
      by_cases c3 : ¬ off = 0 ∨ ¬ pl = 0 ∨ 0 < mm node.toNatClampNeg
      · rw [if_pos c3] at he; cases he; exact ⟨h, fun _ => rfl, rfl⟩
      · rw [if_neg c3] at he
        obtain ⟨n, hn, e1⟩ := nI_node c1
        obtain ⟨p, hp1, hp2, e2⟩ := nI_pts c2
        subst e1; subst e2
        rw [nI_clamp (show n < 2 ^ 31 by omega), nI_clamp (show p < 2 ^ 31 by omega)] at he
        obtain ⟨q1, q2, q3⟩ := change_AI h (Decidable.byContradiction (fun q => c3 (Or.inr (Or.inl q)))) (MM_join h.2.2.2.1 hn hp1 hp2) he
        exact ⟨q1, fun q => absurd q2 q, q3⟩
theorem leave_AI (h : AX N off st mm pl rows F Gn C) (node : Int32) {k r : Int32} {σ' : Sg} (he : leaveF off left wr rc st mm pl rows F Gn C node = (k, r, σ')) :
    AI N σ' ∧ (¬ k = 0 → σ' = (off, left, wr, rc, st, mm, pl, rows, F, Gn, C)) ∧ thS σ' = thF st (homeF mm rows F) := by
  unfold leaveF at he
  by_cases c1 : node < 0 ∨ 8 ≤ node
  · rw [if_pos c1] at he; cases he; exact ⟨h, fun _ => rfl, rfl⟩
  · rw [if_neg c1] at he
    by_cases c3 : ¬ off = 0 ∨ ¬ pl = 0 ∨ mm node.toNatClampNeg = 0 ∨ memC mm = 1
    · rw [if_pos c3] at he; cases he; exact ⟨h, fun _ => rfl, rfl⟩
    · rw [if_neg c3] at he
      obtain ⟨n, hn, e1⟩ := nI_node c1
      subst e1
      rw [nI_clamp (show n < 2 ^ 31 by omega)] at he c3
      obtain ⟨q1, q2, q3⟩ := change_AI h (Decidable.byContradiction (fun q => c3 (Or.inr (Or.inl q)))) (MM_leave h.2.2.2.1 hn (fun q => c3 (Or.inr (Or.inr (Or.inl q)))) (fun q => c3 (Or.inr (Or.inr (Or.inr q))))) he
      exact ⟨q1, fun q => absurd q2 q, q3⟩
theorem fail_AI (h : AX N off st mm pl rows F Gn C) (n : Int32) {k : Int32} {σ' : Sg} (he : failF off left wr rc st mm pl rows F Gn C n = (k, σ')) :
    AI N σ' ∧ (¬ k = 0 → σ' = (off, left, wr, rc, st, mm, pl, rows, F, Gn, C)) ∧ thS σ' = thF st (homeF mm rows F) := by
  unfold failF at he
  by_cases c1 : n < -1
  · rw [if_pos c1] at he; cases he; exact ⟨h, fun _ => rfl, rfl⟩
  · rw [if_neg c1] at he
    by_cases c2 : ¬ off = 0
    · rw [if_pos c2] at he; cases he; exact ⟨h, fun _ => rfl, rfl⟩
    · rw [if_neg c2] at he; cases he; exact ⟨h, fun q => absurd rfl q, rfl⟩
theorem rec_AI (h : AX N off st mm pl rows F Gn C) {k r : Int32} {σ' : Sg} (he : recF off left wr rc st mm pl rows F Gn C = (k, r, σ')) :
    AI N σ' ∧ (¬ k = 0 → σ' = (off, left, wr, rc, st, mm, pl, rows, F, Gn, C)) ∧ thS σ' = thF st (homeF mm rows F) := by
  unfold recF at he
  by_cases c1 : off = 0
  · rw [if_pos c1] at he; cases he; exact ⟨h, fun _ => rfl, rfl⟩
  · rw [if_neg c1] at he; cases he
    obtain ⟨h1, h2, h3, h4, ⟨⟨a1, a2, a3, a4, a5⟩, a6, a7, a8⟩, h6, h7, h8⟩ := h
    exact ⟨⟨Or.inl rfl, h2, h3, h4, ⟨⟨a1, a2, a3, a4, Nat.zero_le _⟩, fun q => absurd q (by decide), a7, a8⟩, h6.le (Nat.zero_le _), fun _ q => absurd q (by decide), h8⟩, fun q => absurd rfl q, rfl⟩
end KP
