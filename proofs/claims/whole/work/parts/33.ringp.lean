-- rings: all points of the members, ascending by place
theorem Srt_pw {l : List (Int32 × Int32)} : Srt l ↔ l.Pairwise (fun a b => a.1 < b.1) := by
  rw [List.pairwise_iff_getElem]
  have g : ∀ k (h : k < l.length), kx l k = l[k].1 := fun k h => by unfold kx; rw [List.getD_eq_getElem?_getD, List.getElem?_eq_getElem h]; rfl
  constructor
  · intro h i j hi hj hij; rw [← g i hi, ← g j hj]; exact h i j hij hj
  · intro h i j hij hj; rw [g i (by omega), g j hj]; exact h i j (by omega) hj hij
def RG (mm : Nat → Nat) (RL : List (Int32 × Int32)) : Prop := Srt RL ∧ (∀ j, j < RL.length → ∃ n v, n < 8 ∧ v < mm n ∧ kx RL j = Pt n v ∧ vx RL j = nI n) ∧ (∀ n v, n < 8 → v < mm n → ∃ j, j < RL.length ∧ kx RL j = Pt n v ∧ vx RL j = nI n)
/-- all points, node by node -/
def PL (mm : Nat → Nat) : Nat → List Int32
  | 0 => []
  | n + 1 => PL mm n ++ (List.range (mm n)).map (fun v => Pt n v)
theorem PL_len (mm : Nat → Nat) : ∀ n, (PL mm n).length = sumN mm n
  | 0 => rfl
  | n + 1 => by
    show (PL mm n ++ _).length = sumN mm n + mm n
    rw [List.length_append, PL_len mm n, List.length_map, List.length_range]
theorem PL_mem {mm : Nat → Nat} {x : Int32} : ∀ {n}, x ∈ PL mm n ↔ ∃ k v, k < n ∧ v < mm k ∧ x = Pt k v
  | 0 => ⟨fun h => absurd h List.not_mem_nil, fun ⟨k, v, h, _⟩ => absurd h (Nat.not_lt_zero _)⟩
  | n + 1 => by
    show x ∈ PL mm n ++ _ ↔ _
    rw [List.mem_append, PL_mem (n := n), List.mem_map]
    constructor
    · rintro (⟨k, v, h1, h2, h3⟩ | ⟨v, h1, h2⟩)
      · exact ⟨k, v, by omega, h2, h3⟩
      · exact ⟨n, v, by omega, List.mem_range.mp h1, h2.symm⟩
    · rintro ⟨k, v, h1, h2, h3⟩
      rcases Nat.lt_or_ge k n with q | q
      · exact Or.inl ⟨k, v, q, h2, h3⟩
      · have e : k = n := by omega
        subst e
        exact Or.inr ⟨v, List.mem_range.mpr h2, h3.symm⟩
theorem map_nd {f : Nat → Int32} {m : Nat} (h : ∀ i j, i < m → j < m → f i = f j → i = j) : ((List.range m).map f).Nodup := by
  rw [List.nodup_iff_pairwise_ne, List.pairwise_map]
  refine List.Pairwise.imp_of_mem ?_ (List.nodup_iff_pairwise_ne.mp List.nodup_range)
  intro a b ha hb hab e
  exact hab (h a b (List.mem_range.mp ha) (List.mem_range.mp hb) e)
theorem PL_nd {mm : Nat → Nat} (hm : ∀ n, n < 8 → mm n ≤ 16) : ∀ n, n ≤ 8 → (PL mm n).Nodup
  | 0, _ => List.nodup_nil
  | n + 1, h => by
    show (PL mm n ++ _).Nodup
    rw [List.nodup_append]
    have h16 := hm n (by omega)
    refine ⟨PL_nd hm n (by omega), map_nd (fun i j hi hj e => (Pt_inj (by omega) (by omega) (by omega) (by omega) e).2), ?_⟩
    intro a ha b hb e
    obtain ⟨k, v, h1, h2, h3⟩ := PL_mem.mp ha
    obtain ⟨w, h4, h5⟩ := List.mem_map.mp hb
    have h6 := hm k (by omega)
    have h7 := List.mem_range.mp h4
    have h8 := Pt_inj (n := k) (v := v) (n' := n) (v' := w) (by omega) (by omega) (by omega) (by omega) (by rw [← h3, e, h5])
    omega
theorem mem_kx {l : List (Int32 × Int32)} {x : Int32} : x ∈ l.map Prod.fst ↔ ∃ j, j < l.length ∧ kx l j = x := by
  rw [List.mem_map]
  constructor
  · rintro ⟨a, ha, e⟩
    obtain ⟨j, hj, e2⟩ := List.getElem_of_mem ha
    refine ⟨j, hj, ?_⟩
    unfold kx; rw [List.getD_eq_getElem?_getD, List.getElem?_eq_getElem hj, e2]; exact e
  · rintro ⟨j, hj, e⟩
    refine ⟨l[j], List.getElem_mem hj, ?_⟩
    rw [← e]; unfold kx; rw [List.getD_eq_getElem?_getD, List.getElem?_eq_getElem hj]; rfl
theorem Srt_nd {l : List (Int32 × Int32)} (h : Srt l) : (l.map Prod.fst).Nodup := by
  rw [List.nodup_iff_pairwise_ne, List.pairwise_map]
  refine (Srt_pw.mp h).imp ?_
  intro a b q e
  rw [e] at q
  exact Int32.lt_irrefl q
theorem RG.perm {mm : Nat → Nat} {RL : List (Int32 × Int32)} (h : RG mm RL) (hm : ∀ n, n < 8 → mm n ≤ 16) : (RL.map Prod.fst).Perm (PL mm 8) := by
  rw [List.perm_ext_iff_of_nodup (Srt_nd h.1) (PL_nd hm 8 (Nat.le_refl _))]
  intro x
  rw [mem_kx, PL_mem]
  constructor
  · rintro ⟨j, hj, e⟩
    obtain ⟨n, v, h1, h2, h3, -⟩ := h.2.1 j hj
    exact ⟨n, v, h1, h2, by rw [← e, h3]⟩
  · rintro ⟨n, v, h1, h2, h3⟩
    obtain ⟨j, hj, e, -⟩ := h.2.2 n v h1 h2
    exact ⟨j, hj, by rw [e, h3]⟩
theorem RG.len {mm : Nat → Nat} {RL : List (Int32 × Int32)} (h : RG mm RL) (hm : ∀ n, n < 8 → mm n ≤ 16) : RL.length = sumN mm 8 := by
  have q := (h.perm hm).length_eq
  rw [List.length_map, PL_len] at q
  exact q
theorem RG.le {mm : Nat → Nat} {RL : List (Int32 × Int32)} (h : RG mm RL) (hm : ∀ n, n < 8 → mm n ≤ 16) : RL.length ≤ 128 := by
  rw [h.len hm]; exact sumN_le (n := 8) hm
theorem RG.pos {mm : Nat → Nat} {RL : List (Int32 × Int32)} (h : RG mm RL) (hm : MM mm) : 0 < RL.length := by
  obtain ⟨n, hn, hp⟩ := hm.2
  obtain ⟨j, hj, -⟩ := h.2.2 n 0 hn hp
  omega
theorem RG.nil {mm : Nat → Nat} (h : ∀ n, n < 8 → mm n = 0) : RG mm [] := ⟨Srt_nil, fun j hj => absurd hj (Nat.not_lt_zero _), fun n v hn hv => by rw [h n hn] at hv; omega⟩
/-- one point more -/
theorem RG.step {mm : Nat → Nat} {RL : List (Int32 × Int32)} {nd v : Nat} (h : RG (fu mm nd v) RL) (hm : ∀ n, n < 8 → mm n ≤ 16) (hnd : nd < 8) (hv : v < 16) : ¬ hs RL (Pt nd v) = true ∧ RG (fu mm nd (v + 1)) (ins RL (Pt nd v) (nI nd)) := by
  have hno : ¬ hs RL (Pt nd v) = true := by
    intro q
    obtain ⟨h1, h2⟩ := hs_iff.mp q
    obtain ⟨n, w, a1, a2, a3, -⟩ := h.2.1 _ h1
    have hw : w < 16 := by
      unfold fu at a2; split at a2
      · omega
      · have := hm n a1; omega
    have e := Pt_inj a1 hw hnd hv (by rw [← a3, h2])
    rw [e.1, fu_s] at a2
    omega
  refine ⟨hno, Srt_ins h.1 _ _, ?_, ?_⟩
  · intro j hj
    rw [ins_len, if_neg hno] at hj
    have g := ins_get_n (v := nI nd) hno j
    have hr := rk_le RL (Pt nd v)
    have old : ∀ i, i < RL.length → ∃ n w, n < 8 ∧ w < fu mm nd (v + 1) n ∧ kx RL i = Pt n w ∧ vx RL i = nI n := by
      intro i hi
      obtain ⟨n, w, a1, a2, a3, a4⟩ := h.2.1 i hi
      refine ⟨n, w, a1, ?_, a3, a4⟩
      unfold fu at a2 ⊢; split at a2
      next e => rw [if_pos e]; omega
      next e => rw [if_neg e]; exact a2
    unfold kx vx
    rw [g]
    by_cases c1 : j < rk RL (Pt nd v)
    · rw [if_pos c1]; exact old j (by omega)
    · rw [if_neg c1]
      by_cases c2 : j = rk RL (Pt nd v)
      · rw [if_pos c2]; exact ⟨nd, v, hnd, by rw [fu_s]; omega, rfl, rfl⟩
      · rw [if_neg c2]; exact old (j - 1) (by omega)
  · intro n w hn hw
    have hr := rk_le RL (Pt nd v)
    have hl : (ins RL (Pt nd v) (nI nd)).length = RL.length + 1 := by rw [ins_len, if_neg hno]
    have put : ∀ i, i < RL.length → ∃ j, j < (ins RL (Pt nd v) (nI nd)).length ∧ (ins RL (Pt nd v) (nI nd)).getD j (0, 0) = RL.getD i (0, 0) := by
      intro i hi
      by_cases c : i < rk RL (Pt nd v)
      · exact ⟨i, by omega, by rw [ins_get_n hno, if_pos c]⟩
      · exact ⟨i + 1, by omega, by rw [ins_get_n hno, if_neg (by omega), if_neg (by omega)]; rfl⟩
    by_cases e : n = nd ∧ w = v
    · refine ⟨rk RL (Pt nd v), by omega, ?_⟩
      unfold kx vx
      rw [ins_get_n hno, if_neg (by omega), if_pos rfl, e.1, e.2]
      exact ⟨rfl, rfl⟩
    · have hw2 : w < fu mm nd v n := by
        unfold fu at hw ⊢; split at hw
        next q => rw [if_pos q]; omega
        next q => rw [if_neg q]; exact hw
      obtain ⟨i, hi, b1, b2⟩ := h.2.2 n w hn hw2
      obtain ⟨j, hj, b3⟩ := put i hi
      refine ⟨j, hj, ?_⟩
      unfold kx at b1
      unfold vx at b2
      unfold kx vx
      rw [b3]; exact ⟨b1, b2⟩
theorem mem_at {l : List (Int32 × Int32)} {a : Int32 × Int32} : a ∈ l ↔ ∃ j, j < l.length ∧ kx l j = a.1 ∧ vx l j = a.2 := by
  constructor
  · intro ha
    obtain ⟨j, hj, e⟩ := List.getElem_of_mem ha
    refine ⟨j, hj, ?_⟩
    unfold kx vx; rw [List.getD_eq_getElem?_getD, List.getElem?_eq_getElem hj, e]; exact ⟨rfl, rfl⟩
  · rintro ⟨j, hj, e1, e2⟩
    unfold kx at e1; unfold vx at e2
    rw [List.getD_eq_getElem?_getD, List.getElem?_eq_getElem hj] at e1 e2
    have : l[j] = a := Prod.ext e1 e2
    rw [← this]; exact List.getElem_mem hj
/-- the points of a node go -/
theorem RG.drop {mm : Nat → Nat} {RL : List (Int32 × Int32)} {nd : Nat} (h : RG mm RL) (hnd : nd < 8) : RG (fu mm nd 0) (RL.filter (fun e => !decide (e.2 = nI nd))) := by
  refine ⟨Srt_pw.mpr ((Srt_pw.mp h.1).filter _), ?_, ?_⟩
  · intro j hj
    have hm : (RL.filter (fun e => !decide (e.2 = nI nd)))[j] ∈ RL.filter (fun e => !decide (e.2 = nI nd)) := List.getElem_mem hj
    obtain ⟨hm1, hm2⟩ := List.mem_filter.mp hm
    obtain ⟨i, hi, e1, e2⟩ := mem_at.mp hm1
    obtain ⟨n, v, a1, a2, a3, a4⟩ := h.2.1 i hi
    have hne : n ≠ nd := by
      intro q
      rw [← e2, a4, q] at hm2
      simp at hm2
    refine ⟨n, v, a1, by rw [fu_n _ _ hne]; exact a2, ?_, ?_⟩
    · rw [← a3, e1]; unfold kx; rw [List.getD_eq_getElem?_getD, List.getElem?_eq_getElem hj]; rfl
    · rw [← a4, e2]; unfold vx; rw [List.getD_eq_getElem?_getD, List.getElem?_eq_getElem hj]; rfl
  · intro n v hn hv
    have hne : n ≠ nd := by
      intro q; rw [q, fu_s] at hv; omega
    rw [fu_n _ _ hne] at hv
    obtain ⟨i, hi, b1, b2⟩ := h.2.2 n v hn hv
    have hm : ((Pt n v, nI n) : Int32 × Int32) ∈ RL.filter (fun e => !decide (e.2 = nI nd)) := by
      refine List.mem_filter.mpr ⟨mem_at.mpr ⟨i, hi, b1, b2⟩, ?_⟩
      have : ¬ nI n = nI nd := fun q => hne ((nI_eq (by omega) (by omega)).mp q)
      simp [this]
    obtain ⟨j, hj, c1, c2⟩ := mem_at.mp hm
    exact ⟨j, hj, c1, c2⟩
theorem RG.own_in {mm : Nat → Nat} {RL : List (Int32 × Int32)} (h : RG mm RL) (hm : MM mm) {x : Int32} {k : Nat} (h1 : k < RL.length) (h2 : ∀ j, j < k → kx RL j < x) (h3 : ¬ kx RL k < x) : vx RL k = nI (own mm x) := by
  obtain ⟨n, v, a1, a2, a3, a4⟩ := h.2.1 k h1
  rw [a4]
  refine congrArg nI (own_eq hm ⟨a1, Or.inl ⟨v, a2, by rw [← a3]; exact Int32.not_lt.mp h3, fun n' v' b1 b2 b3 => ?_⟩⟩).symm
  obtain ⟨j, hj, c1, -⟩ := h.2.2 n' v' b1 b2
  rw [← c1, ← a3]
  rcases Nat.lt_trichotomy j k with q | q | q
  · exact absurd (h2 j q) (by rw [c1]; exact Int32.not_lt.mpr b3)
  · rw [q]; exact Int32.le_refl _
  · exact Int32.le_of_lt (h.1 k j q hj)
theorem RG.own_out {mm : Nat → Nat} {RL : List (Int32 × Int32)} (h : RG mm RL) (hm : MM mm) {x : Int32} (h2 : ∀ j, j < RL.length → kx RL j < x) : vx RL 0 = nI (own mm x) := by
  have hp := h.pos hm
  obtain ⟨n, v, a1, a2, a3, a4⟩ := h.2.1 0 hp
  rw [a4]
  refine congrArg nI (own_eq hm ⟨a1, Or.inr ⟨fun n' v' b1 b2 => ?_, v, a2, fun n' v' b1 b2 => ?_⟩⟩).symm
  · obtain ⟨j, hj, c1, -⟩ := h.2.2 n' v' b1 b2
    rw [← c1]; exact h2 j hj
  · obtain ⟨j, hj, c1, -⟩ := h.2.2 n' v' b1 b2
    rw [← c1, ← a3]
    rcases Nat.eq_zero_or_pos j with q | q
    · rw [q]; exact Int32.le_refl _
    · exact Int32.le_of_lt (h.1 0 j q hj)
-- shares
def bef (RL : List (Int32 × Int32)) : Nat → Int64
  | 0 => (kx RL (RL.length - 1)).toInt64 - 2147483648
  | i + 1 => (kx RL i).toInt64
def plS (RL : List (Int32 × Int32)) (nd : Nat) : Nat → Int64
  | 0 => 0
  | i + 1 => if vx RL i = nI nd then plS RL nd i + ((kx RL i).toInt64 - bef RL i) else plS RL nd i
theorem i64_a (x g c : Int64) : x - (g - c) = x + c - g := by grind
theorem RG.bh {mm : Nat → Nat} {RL : List (Int32 × Int32)} (h : RG mm RL) (hm : MM mm) {i : Nat} (hi : i < RL.length) : (kx RL i).toInt64 - bef RL i = bh mm (kx RL i) := by
  cases i with
  | zero =>
    obtain ⟨n, v, a1, a2, a3, a4⟩ := h.2.1 (RL.length - 1) (by omega)
    refine bh_eq (Or.inr ⟨fun n' v' b1 b2 => ?_, n, v, a1, a2, fun n' v' b1 b2 => ?_, ?_⟩)
    · obtain ⟨j, hj, c1, -⟩ := h.2.2 n' v' b1 b2
      rw [← c1]
      rcases Nat.eq_zero_or_pos j with q | q
      · rw [q]; exact fun z => Int32.lt_irrefl z
      · exact fun z => Int32.lt_irrefl (Int32.lt_trans z (h.1 0 j q hj))
    · obtain ⟨j, hj, c1, -⟩ := h.2.2 n' v' b1 b2
      rw [← c1, ← a3]
      rcases Nat.lt_or_ge j (RL.length - 1) with q | q
      · exact Int32.le_of_lt (h.1 j _ q (by omega))
      · rw [show j = RL.length - 1 by omega]; exact Int32.le_refl _
    · unfold bef; rw [a3]; exact i64_a _ _ _
  | succ i =>
    obtain ⟨n, v, a1, a2, a3, a4⟩ := h.2.1 i (by omega)
    refine bh_eq (Or.inl ⟨n, v, a1, a2, ?_, fun n' v' b1 b2 b3 => ?_, by (show (kx RL (i + 1)).toInt64 - (kx RL i).toInt64 = _); rw [a3]⟩)
    · rw [← a3]; exact h.1 i (i + 1) (by omega) hi
    · obtain ⟨j, hj, c1, -⟩ := h.2.2 n' v' b1 b2
      rw [← c1] at b3 ⊢
      rw [← a3]
      rcases Nat.lt_trichotomy j i with q | q | q
      · exact Int32.le_of_lt (h.1 j i q (by omega))
      · rw [q]; exact Int32.le_refl _
      · rcases Nat.lt_or_ge j (i + 2) with q2 | q2
        · rw [show j = i + 1 by omega] at b3; exact absurd b3 (fun z => Int32.lt_irrefl z)
        · exact absurd (Int32.lt_trans b3 (h.1 (i + 1) j (by omega) hj)) (fun z => Int32.lt_irrefl z)
def s64 : List Int64 → Int64
  | [] => 0
  | a :: l => a + s64 l
theorem s64_perm {a b : List Int64} (h : a.Perm b) : s64 a = s64 b := by
  induction h with
  | nil => rfl
  | cons x _ ih => show x + _ = x + _; rw [ih]
  | swap x y l => show y + (x + s64 l) = x + (y + s64 l); grind
  | trans _ _ ih1 ih2 => exact ih1.trans ih2
theorem s64_app (a b : List Int64) : s64 (a ++ b) = s64 a + s64 b := by
  induction a with
  | nil => show s64 b = 0 + s64 b; grind
  | cons x l ih => show x + s64 (l ++ b) = x + s64 l + s64 b; rw [ih]; grind
theorem shS_s64 (mm : Nat → Nat) (n : Nat) : ∀ v, shS mm n v = s64 (((List.range v).map (fun v => Pt n v)).map (bh mm))
  | 0 => rfl
  | v + 1 => by
    rw [List.range_succ, List.map_append, List.map_append, s64_app, ← shS_s64 mm n v]
    show shS mm n v + bh mm (Pt n v) = shS mm n v + (bh mm (Pt n v) + 0)
    grind
theorem plS_s64 {mm : Nat → Nat} {RL : List (Int32 × Int32)} (h : RG mm RL) (hm : MM mm) (nd : Nat) : ∀ i, i ≤ RL.length → plS RL nd i = s64 ((((RL.take i).filter (fun e => decide (e.2 = nI nd))).map Prod.fst).map (bh mm))
  | 0, _ => by rw [List.take_zero]; rfl
  | i + 1, hi => by
    have ih := plS_s64 h hm nd i (by omega)
    have hil : i < RL.length := by omega
    rw [List.take_add_one, List.getElem?_eq_getElem hil, Option.toList_some, List.filter_append, List.map_append, List.map_append, s64_app, ← ih]
    have ek : kx RL i = RL[i].1 := by unfold kx; rw [List.getD_eq_getElem?_getD, List.getElem?_eq_getElem hil]; rfl
    have ev : vx RL i = RL[i].2 := by unfold vx; rw [List.getD_eq_getElem?_getD, List.getElem?_eq_getElem hil]; rfl
    show (if vx RL i = nI nd then plS RL nd i + ((kx RL i).toInt64 - bef RL i) else plS RL nd i) = _
    by_cases c : vx RL i = nI nd
    · rw [if_pos c, h.bh hm hil, List.filter_cons_of_pos (by rw [← ev]; simp [c]), ek]
      show _ = _ + (bh mm RL[i].1 + 0)
      grind
    · rw [if_neg c, List.filter_cons_of_neg (by rw [← ev]; simp [c])]
      show _ = _ + 0
      grind
theorem plS_shS {mm : Nat → Nat} {RL : List (Int32 × Int32)} (h : RG mm RL) (hm : MM mm) {nd : Nat} (hnd : nd < 8) : plS RL nd RL.length = shS mm nd (mm nd) := by
  rw [plS_s64 h hm nd _ (Nat.le_refl _), List.take_length, shS_s64]
  refine s64_perm (List.Perm.map _ ?_)
  have h16 := hm.1 nd hnd
  rw [List.perm_ext_iff_of_nodup]
  · intro x
    rw [List.mem_map, List.mem_map]
    constructor
    · rintro ⟨a, ha, e⟩
      obtain ⟨h1, h2⟩ := List.mem_filter.mp ha
      obtain ⟨i, hi, e1, e2⟩ := mem_at.mp h1
      obtain ⟨n, v, a1, a2, a3, a4⟩ := h.2.1 i hi
      have hn : n = nd := (nI_eq (by omega) (by omega)).mp (by rw [← a4, e2]; exact decide_eq_true_iff.mp h2)
      subst hn
      exact ⟨v, List.mem_range.mpr a2, by rw [← e, ← e1, a3]⟩
    · rintro ⟨v, hv, e⟩
      obtain ⟨j, hj, c1, c2⟩ := h.2.2 nd v hnd (List.mem_range.mp hv)
      exact ⟨(Pt nd v, nI nd), List.mem_filter.mpr ⟨mem_at.mpr ⟨j, hj, c1, c2⟩, by simp⟩, e⟩
  · exact Srt_nd (Srt_pw.mpr ((Srt_pw.mp h.1).filter _))
  · exact map_nd (fun i j hi hj e => (Pt_inj hnd (by omega) hnd (by omega) e).2)
