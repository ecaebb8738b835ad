-- rows of a store: ascending lists of (key, value); ranks by the first element that isn't below
def kx (l : List (Int32 × Int32)) (j : Nat) : Int32 := (l.getD j (0, 0)).1
def vx (l : List (Int32 × Int32)) (j : Nat) : Int32 := (l.getD j (0, 0)).2
def rk (l : List (Int32 × Int32)) (key : Int32) : Nat := (l.takeWhile (fun e => decide (e.1 < key))).length
def hs (l : List (Int32 × Int32)) (key : Int32) : Bool := decide (rk l key < l.length ∧ kx l (rk l key) = key)
def ins (l : List (Int32 × Int32)) (key v : Int32) : List (Int32 × Int32) := if hs l key then l.set (rk l key) (key, v) else l.take (rk l key) ++ (key, v) :: l.drop (rk l key)
def del (l : List (Int32 × Int32)) (key : Int32) : List (Int32 × Int32) := if hs l key then l.eraseIdx (rk l key) else l
def fu {α : Type} (f : Nat → α) (n : Nat) (x : α) : Nat → α := fun k => if k = n then x else f k
theorem fu_s {α : Type} (f : Nat → α) (n : Nat) (x : α) : fu f n x n = x := if_pos rfl
theorem fu_n {α : Type} (f : Nat → α) {n k : Nat} (x : α) (h : k ≠ n) : fu f n x k = f k := if_neg h
theorem rk_le (l : List (Int32 × Int32)) (key : Int32) : rk l key ≤ l.length := (List.takeWhile_prefix _).length_le
theorem rk_cons (a : Int32 × Int32) (l : List (Int32 × Int32)) (key : Int32) : rk (a :: l) key = if a.1 < key then rk l key + 1 else 0 := by
  unfold rk
  rw [List.takeWhile_cons]
  by_cases h : a.1 < key
  · simp [h]
  · simp [h]
theorem kx_0 (a : Int32 × Int32) (l : List (Int32 × Int32)) : kx (a :: l) 0 = a.1 := rfl
theorem kx_s (a : Int32 × Int32) (l : List (Int32 × Int32)) (j : Nat) : kx (a :: l) (j + 1) = kx l j := rfl
theorem rk_lt : ∀ (l : List (Int32 × Int32)) (key : Int32) (j : Nat), j < rk l key → kx l j < key
  | [], key, j, h => absurd h (Nat.not_lt_zero _)
  | a :: l, key, j, h => by
    rw [rk_cons] at h
    split at h
    next h1 =>
      cases j with
      | zero => exact h1
      | succ j => rw [kx_s]; exact rk_lt l key j (by omega)
    next h1 => omega
theorem rk_stop : ∀ (l : List (Int32 × Int32)) (key : Int32), rk l key < l.length → ¬ kx l (rk l key) < key
  | [], key, h => absurd h (Nat.not_lt_zero _)
  | a :: l, key, h => by
    rw [rk_cons] at h ⊢
    split
    next h1 =>
      rw [if_pos h1] at h
      rw [kx_s]
      exact rk_stop l key (by simpa using h)
    next h1 => rw [kx_0]; exact h1
theorem rk_eq {l : List (Int32 × Int32)} {key : Int32} {k : Nat} (h1 : k ≤ l.length) (h2 : ∀ j, j < k → kx l j < key) (h3 : k < l.length → ¬ kx l k < key) : k = rk l key := by
  rcases Nat.lt_trichotomy k (rk l key) with h | h | h
  · exact absurd (rk_lt l key k h) (h3 (Nat.lt_of_lt_of_le h (rk_le l key)))
  · exact h
  · exact absurd (h2 _ h) (rk_stop l key (by omega))
theorem hs_iff {l : List (Int32 × Int32)} {key : Int32} : hs l key = true ↔ rk l key < l.length ∧ kx l (rk l key) = key := by
  unfold hs; exact decide_eq_true_iff
theorem ins_len (l : List (Int32 × Int32)) (key v : Int32) : (ins l key v).length = if hs l key then l.length else l.length + 1 := by
  unfold ins
  split
  · simp
  · have := rk_le l key
    simp [List.length_append, List.length_take, List.length_drop]; omega
theorem del_len (l : List (Int32 × Int32)) (key : Int32) : (del l key).length = if hs l key then l.length - 1 else l.length := by
  unfold del
  split
  next h => rw [List.length_eraseIdx_of_lt (hs_iff.mp h).1]
  next h => rfl
theorem ins_get_h {l : List (Int32 × Int32)} {key v : Int32} (h : hs l key = true) (j : Nat) : (ins l key v).getD j (0, 0) = if j = rk l key then (key, v) else l.getD j (0, 0) := by
  unfold ins
  rw [if_pos h]
  have h1 := (hs_iff.mp h).1
  by_cases e : j = rk l key
  · rw [if_pos e, e]; simp [List.getD_eq_getElem?_getD, List.getElem?_set_self h1]
  · rw [if_neg e]; simp [List.getD_eq_getElem?_getD, List.getElem?_set_ne (Ne.symm e)]
theorem ins_get_n {l : List (Int32 × Int32)} {key v : Int32} (h : ¬ hs l key = true) (j : Nat) : (ins l key v).getD j (0, 0) = if j < rk l key then l.getD j (0, 0) else if j = rk l key then (key, v) else l.getD (j - 1) (0, 0) := by
  unfold ins
  rw [if_neg h]
  have h1 := rk_le l key
  simp only [List.getD_eq_getElem?_getD]
  have hl : (l.take (rk l key)).length = rk l key := by rw [List.length_take]; omega
  split
  next c => rw [List.getElem?_append_left (by omega), List.getElem?_take_of_lt c]
  next c =>
    rw [List.getElem?_append_right (by omega), hl]
    split
    next e => subst e; simp
    next e =>
      obtain ⟨z, hz⟩ : ∃ z, j - rk l key = z + 1 := ⟨j - rk l key - 1, by omega⟩
      rw [hz, List.getElem?_cons_succ, List.getElem?_drop]
      congr 2; omega
theorem del_get {l : List (Int32 × Int32)} {key : Int32} (h : hs l key = true) (j : Nat) : (del l key).getD j (0, 0) = if j < rk l key then l.getD j (0, 0) else l.getD (j + 1) (0, 0) := by
  unfold del
  rw [if_pos h]
  simp only [List.getD_eq_getElem?_getD, List.getElem?_eraseIdx]
  split <;> rfl
-- the reference's stores: rows of 1024 places in two arrays
def RS (st : Nat → List (Int32 × Int32)) (ks vs sz : Nat → Int32) : Prop := ∀ n, n < 8 → sz n = nI (st n).length ∧ (st n).length ≤ 1000 ∧ ∀ k, k < (st n).length → ks (1024 * n + k) = kx (st n) k ∧ vs (1024 * n + k) = vx (st n) k
theorem ixA (n k : Nat) : (1024 : Int32) * nI n + nI k = nI (1024 * n + k) := by
  rw [show (1024 : Int32) = nI 1024 from rfl, pk_mul, nI_add]
theorem ixB {n k : Nat} (h : 0 < k) : (1024 : Int32) * nI n + nI k - 1 = nI (1024 * n + k - 1) := by
  rw [ixA, show (1 : Int32) = nI 1 from rfl, pk_sub (by omega)]
theorem ixC (n k : Nat) : (1024 : Int32) * nI n + nI k + 1 = nI (1024 * n + k + 1) := by
  rw [ixA, nI_1]
/-- places b + i + 1 .. b + len hold what stood one place lower -/
def shR (f : Nat → Int32) (b i len : Nat) : Nat → Int32 := fun a => if b + i < a ∧ a ≤ b + len then f (a - 1) else f a
theorem shR_0 (f : Nat → Int32) (b len : Nat) : shR f b len len = f := by
  funext a; unfold shR; rw [if_neg (by omega)]
theorem shR_s (f : Nat → Int32) {b i len : Nat} (h : 0 < i) (h2 : i ≤ len) : upd (shR f b i len) (b + i) (shR f b i len (b + i - 1)) = shR f b (i - 1) len := by
  funext a
  by_cases e : a = b + i
  · subst e
    rw [pk_us]
    unfold shR
    rw [if_neg (by omega), if_pos (by omega)]
  · rw [pk_un e]
    unfold shR
    by_cases c : b + i < a ∧ a ≤ b + len
    · rw [if_pos c, if_pos (by omega)]
    · rw [if_neg c, if_neg (by omega)]
/-- places b + k .. b + i - 1 hold what stood one place higher -/
def shL (f : Nat → Int32) (b k i : Nat) : Nat → Int32 := fun a => if b + k ≤ a ∧ a < b + i then f (a + 1) else f a
theorem shL_0 (f : Nat → Int32) (b k : Nat) : shL f b k k = f := by
  funext a; unfold shL; rw [if_neg (by omega)]
theorem shL_s (f : Nat → Int32) {b k i : Nat} (h : k ≤ i) : upd (shL f b k i) (b + i) (shL f b k i (b + i + 1)) = shL f b k (i + 1) := by
  funext a
  by_cases e : a = b + i
  · subst e
    rw [pk_us]
    unfold shL
    rw [if_neg (by omega), if_pos (by omega)]
  · rw [pk_un e]
    unfold shL
    by_cases c : b + k ≤ a ∧ a < b + i
    · rw [if_pos c, if_pos (by omega)]
    · rw [if_neg c, if_neg (by omega)]
theorem RS.at {st : Nat → List (Int32 × Int32)} {ks vs sz : Nat → Int32} (h : RS st ks vs sz) {n : Nat} (hn : n < 8) : sz n = nI (st n).length := (h n hn).1
theorem RS.le {st : Nat → List (Int32 × Int32)} {ks vs sz : Nat → Int32} (h : RS st ks vs sz) {n : Nat} (hn : n < 8) : (st n).length ≤ 1000 := (h n hn).2.1
theorem RS.k {st : Nat → List (Int32 × Int32)} {ks vs sz : Nat → Int32} (h : RS st ks vs sz) {n : Nat} (hn : n < 8) {k : Nat} (hk : k < (st n).length) : ks (1024 * n + k) = kx (st n) k := ((h n hn).2.2 k hk).1
theorem RS.v {st : Nat → List (Int32 × Int32)} {ks vs sz : Nat → Int32} (h : RS st ks vs sz) {n : Nat} (hn : n < 8) {k : Nat} (hk : k < (st n).length) : vs (1024 * n + k) = vx (st n) k := ((h n hn).2.2 k hk).2
/-- a key that is there gets another value -/
theorem RS.ins_h {st : Nat → List (Int32 × Int32)} {ks vs sz : Nat → Int32} (h : RS st ks vs sz) {n : Nat} (hn : n < 8) {key v : Int32} (hh : hs (st n) key = true) :
    RS (fu st n (ins (st n) key v)) (upd ks (1024 * n + rk (st n) key) key) (upd vs (1024 * n + rk (st n) key) v) sz := by
  have h1 := (hs_iff.mp hh).1
  have h2 := h.le hn
  intro n' hn'
  by_cases e : n' = n
  · subst e
    rw [fu_s]
    have hl : (ins (st n') key v).length = (st n').length := by rw [ins_len, if_pos hh]
    rw [hl]
    refine ⟨h.at hn, h2, fun k hk => ?_⟩
    have hg := ins_get_h (v := v) hh k
    by_cases c : k = rk (st n') key
    · subst c
      rw [pk_us, pk_us]
      unfold kx vx
      rw [hg, if_pos rfl]; exact ⟨rfl, rfl⟩
    · rw [pk_un (by omega), pk_un (by omega), h.k hn hk, h.v hn hk]
      unfold kx vx
      rw [hg, if_neg c]; exact ⟨rfl, rfl⟩
  · rw [fu_n _ _ e]
    refine ⟨h.at hn', h.le hn', fun k hk => ?_⟩
    have h3 := h.le hn'
    have h4 := rk_le (st n) key
    rw [pk_un (by omega), pk_un (by omega)]
    exact (h n' hn').2.2 k hk
/-- a new key stands among the others -/
theorem RS.ins_n {st : Nat → List (Int32 × Int32)} {ks vs sz : Nat → Int32} (h : RS st ks vs sz) {n : Nat} (hn : n < 8) {key v : Int32} (hh : ¬ hs (st n) key = true) (hb : (st n).length < 1000) :
    RS (fu st n (ins (st n) key v)) (upd (shR ks (1024 * n) (rk (st n) key) (st n).length) (1024 * n + rk (st n) key) key) (upd (shR vs (1024 * n) (rk (st n) key) (st n).length) (1024 * n + rk (st n) key) v) (upd sz n (sz n + 1)) := by
  have h1 := rk_le (st n) key
  have h2 := h.le hn
  intro n' hn'
  by_cases e : n' = n
  · subst e
    rw [fu_s, pk_us]
    have hl : (ins (st n') key v).length = (st n').length + 1 := by rw [ins_len, if_neg hh]
    rw [hl]
    refine ⟨by rw [h.at hn, nI_1], by omega, fun k hk => ?_⟩
    have hg := ins_get_n (v := v) hh k
    rcases Nat.lt_trichotomy k (rk (st n') key) with c | c | c
    · rw [pk_un (by omega), pk_un (by omega)]
      unfold shR
      rw [if_neg (by omega), if_neg (by omega), h.k hn (by omega), h.v hn (by omega)]
      unfold kx vx
      rw [hg, if_pos c]; exact ⟨rfl, rfl⟩
    · subst c
      rw [pk_us, pk_us]
      unfold kx vx
      rw [hg, if_neg (by omega), if_pos rfl]; exact ⟨rfl, rfl⟩
    · rw [pk_un (by omega), pk_un (by omega)]
      unfold shR
      rw [if_pos (by omega), if_pos (by omega), show 1024 * n' + k - 1 = 1024 * n' + (k - 1) by omega, h.k hn (by omega), h.v hn (by omega)]
      unfold kx vx
      rw [hg, if_neg (by omega), if_neg (by omega)]; exact ⟨rfl, rfl⟩
  · rw [fu_n _ _ e, pk_un e]
    refine ⟨h.at hn', h.le hn', fun k hk => ?_⟩
    have h3 := h.le hn'
    rw [pk_un (by omega), pk_un (by omega)]
    unfold shR
    rw [if_neg (by omega), if_neg (by omega)]
    exact (h n' hn').2.2 k hk
/-- a key goes -/
theorem RS.del_h {st : Nat → List (Int32 × Int32)} {ks vs sz : Nat → Int32} (h : RS st ks vs sz) {n : Nat} (hn : n < 8) {key : Int32} (hh : hs (st n) key = true) :
    RS (fu st n (del (st n) key)) (shL ks (1024 * n) (rk (st n) key) ((st n).length - 1)) (shL vs (1024 * n) (rk (st n) key) ((st n).length - 1)) (upd sz n (sz n - 1)) := by
  have h1 := (hs_iff.mp hh).1
  have h2 := h.le hn
  intro n' hn'
  by_cases e : n' = n
  · subst e
    rw [fu_s, pk_us]
    have hl : (del (st n') key).length = (st n').length - 1 := by rw [del_len, if_pos hh]
    rw [hl]
    refine ⟨by rw [h.at hn, show (1 : Int32) = nI 1 from rfl, pk_sub (by omega)], by omega, fun k hk => ?_⟩
    have hg := del_get hh k
    unfold shL
    by_cases c : k < rk (st n') key
    · rw [if_neg (by omega), if_neg (by omega), h.k hn (by omega), h.v hn (by omega)]
      unfold kx vx
      rw [hg, if_pos c]; exact ⟨rfl, rfl⟩
    · rw [if_pos (by omega), if_pos (by omega), show 1024 * n' + k + 1 = 1024 * n' + (k + 1) by omega, h.k hn (by omega), h.v hn (by omega)]
      unfold kx vx
      rw [hg, if_neg c]; exact ⟨rfl, rfl⟩
  · rw [fu_n _ _ e, pk_un e]
    refine ⟨h.at hn', h.le hn', fun k hk => ?_⟩
    have h3 := h.le hn'
    unfold shL
    rw [if_neg (by omega), if_neg (by omega)]
    exact (h n' hn').2.2 k hk
/-- the reference's cells -/
abbrev mW (cI cZ : ClassId) (G : Nat → Nat) (code off left wr rc : Int32) (mem oth ks vs sx : Nat → Int32) (pl ps : Int32) (pk sr tg fl xs : Nat → Int32) : va_W :=
  [(G 0, .inr (5, [.int code, .int off, .int left, .int wr, .int rc, .ref (G 1), .ref (G 2), .ref (G 3), .ref (G 4), .ref (G 5), .int pl, .int ps, .ref (G 6), .ref (G 7), .ref (G 8), .ref (G 9), .ref (G 10)])), (G 1, .inl (cI, 8, .inl mem)), (G 2, .inl (cI, 8, .inl oth)), (G 3, .inl (cI, 8192, .inl ks)), (G 4, .inl (cI, 8192, .inl vs)), (G 5, .inl (cI, 8, .inl sx)), (G 6, .inl (cI, 256, .inl pk)), (G 7, .inl (cI, 256, .inl sr)), (G 8, .inl (cI, 256, .inl tg)), (G 9, .inl (cZ, 256, .inl fl)), (G 10, .inl (cI, 256, .inl xs))]
