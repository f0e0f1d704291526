/-! tables by rows and columns: what each method of Table does to them -/
abbrev Tb : Type := Nat × (Nat → Nat → Int32)
def tz (rows : Nat) (T : Tb) : Nat := min T.1 rows
theorem tz_le (rows : Nat) (T : Tb) : tz rows T ≤ rows := Nat.min_le_right _ _
def tflat (w : Nat) (f : Nat → Nat → Int32) : Nat → Int32 := fun j => f (j / w) (j % w)
def tv (w rows : Nat) (T : Tb) : TV := (nI (tz rows T), tflat w T.2)
def wB (cI : ClassId) (tA tC w rows : Nat) (T : Tb) : va_W := wT cI tA tC (nI w) (rows * w) (tv w rows T)
def tget (w rows : Nat) (T : Tb) (r c : Int32) : Int32 := if okI r (tz rows T) ∧ okI c w then T.2 r.toNatClampNeg c.toNatClampNeg else -9
def fup (f : Nat → Nat → Int32) (i j : Nat) (v : Int32) : Nat → Nat → Int32 := fun a b => if a = i ∧ b = j then v else f a b
def tput (w rows : Nat) (T : Tb) (r c v : Int32) : Tb := if okI r (tz rows T) ∧ okI c w then (T.1, fup T.2 r.toNatClampNeg c.toNatClampNeg v) else T
def tadd (w rows : Nat) (T : Tb) (r c v : Int32) : Tb := tput w rows T r c (tget w rows T r c + v)
def firstF (g : Nat → Bool) : Nat → Nat → Int32
  | 0, _ => -9
  | n + 1, i => if g i then nI i else firstF g n (i + 1)
def tfind (w rows : Nat) (T : Tb) (c v : Int32) : Int32 := firstF (fun i => decide (tget w rows T (nI i) c = v)) (tz rows T) 0
def sumF (g : Nat → Int32) : Nat → Int32
  | 0 => 0
  | n + 1 => sumF g n + g n
def trows (w rows : Nat) (T : Tb) (c v : Int32) : Int32 := sumF (fun i => if tget w rows T (nI i) c = v then 1 else 0) (tz rows T)
def tsum (w rows : Nat) (T : Tb) (c : Int32) : Int32 := sumF (fun i => tget w rows T (nI i) c) (tz rows T)
def tappend (rows : Nat) (T : Tb) : Int32 × Tb := if T.1 < rows then (nI T.1, (T.1 + 1, fun i j => if i = T.1 then 0 else T.2 i j)) else (-9, T)
def tdrop (rows : Nat) (T : Tb) (r : Int32) : Tb := if okI r (tz rows T) then (tz rows T - 1, fun i j => if r.toNatClampNeg ≤ i ∧ i + 1 < tz rows T then T.2 (i + 1) j else T.2 i j) else T
theorem okI_nI {i n : Nat} (h : i < n) (hn : n < 2 ^ 31) : okI (nI i) n := vp_in_nI h hn
theorem okI_of {x : Int32} {n : Nat} (h : okI x n) (hn : n < 2 ^ 31) : ∃ j : Nat, j < n ∧ x = nI j := vp_in_of h hn
theorem okI_neg {x : Int32} {n : Nat} (h : x < 0) : ¬ okI x n := fun q => q (Or.inl h)
theorem okI_ge {x : Int32} {n : Nat} (hn : n < 2 ^ 31) (h : nI n ≤ x) : ¬ okI x n := fun q => by
  obtain ⟨j, hj, rfl⟩ := okI_of q hn
  exact nI_ge hj hn h
theorem okI_iff {i n : Nat} (hi : i < 2 ^ 31) : okI (nI i) n ↔ i < n := by
  constructor
  · intro h
    have := h
    rw [okI, nI_clamp hi] at this
    omega
  · intro h
    rw [okI, nI_clamp hi]
    have := nI_pos hi
    intro q
    rcases q with q | q
    · exact this q
    · omega
theorem flat_ix {w : Nat} (f : Nat → Nat → Int32) {i j : Nat} (hj : j < w) : tflat w f (i * w + j) = f i j := by
  have hw : 0 < w := by omega
  unfold tflat
  rw [Nat.mul_comm i w, Nat.mul_add_div hw, Nat.div_eq_of_lt hj, Nat.mul_add_mod, Nat.mod_eq_of_lt hj, Nat.add_zero]
theorem flat_up {w : Nat} (f : Nat → Nat → Int32) {i j : Nat} (hj : j < w) (v : Int32) : upd (tflat w f) (i * w + j) v = tflat w (fup f i j v) := by
  have hw : 0 < w := by omega
  funext k
  unfold upd tflat fup
  by_cases h : k = i * w + j
  · subst h
    rw [if_pos rfl, if_pos]
    rw [Nat.mul_comm i w, Nat.mul_add_div hw, Nat.div_eq_of_lt hj, Nat.mul_add_mod, Nat.mod_eq_of_lt hj, Nat.add_zero]
    exact ⟨rfl, rfl⟩
  · rw [if_neg h, if_neg]
    rintro ⟨h1, h2⟩
    apply h
    have := Nat.div_add_mod k w
    rw [← this, h1, h2, Nat.mul_comm]
theorem cell_lt {w rows i j : Nat} (hi : i < rows) (hj : j < w) : i * w + j < rows * w := by
  have : (i + 1) * w ≤ rows * w := Nat.mul_le_mul_right w hi
  rw [Nat.succ_mul] at this
  omega
section TL
variable {w rows : Nat} (hw : 0 < w) (hw2 : w ≤ 14) (hr : rows ≤ 64)
theorem small_n (hw2 : w ≤ 14) (hr : rows ≤ 64) : rows * w ≤ 896 := by
  have := Nat.mul_le_mul hr hw2
  omega
theorem get_eq (hw2 : w ≤ 14) (hr : rows ≤ 64) (T : Tb) (r c : Int32) : fX3_get (nI w) (rows * w) r c (tv w rows T) = some (tget w rows T r c) := by
  have hn := small_n hw2 hr
  have hz := tz_le rows T
  unfold fX3_get bfX3_get_24 bfX3_get_58 bfX3_get_60 tget
  rcases pk_ix r (n := tz rows T) (by omega) with h | h | ⟨i, hi, rfl⟩
  · rw [if_pos h, if_neg (fun q => okI_neg h q.1)]
  · by_cases h0 : r < 0
    · rw [if_pos h0, if_neg (fun q => okI_neg h0 q.1)]
    · rw [if_neg h0, if_pos (show (tv w rows T).1 ≤ r from h), if_neg (fun q => okI_ge (by omega) h q.1)]
  · rw [if_neg (nI_pos (by omega)), if_neg (show ¬ (tv w rows T).1 ≤ nI i from nI_ge hi (by omega))]
    rcases pk_ix c (n := w) (by omega) with h | h | ⟨j, hj, rfl⟩
    · rw [if_pos h, if_neg (fun q => okI_neg h q.2)]
    · by_cases h0 : c < 0
      · rw [if_pos h0, if_neg (fun q => okI_neg h0 q.2)]
      · rw [if_neg h0, if_neg (Int32.not_lt.mpr h), if_neg (fun q => okI_ge (by omega) h q.2)]
    · have hc := cell_lt (show i < rows by omega) hj
      rw [if_neg (nI_pos (by omega)), if_pos (nI_lt hj (by omega)), nm, pk_mul, nI_add, if_neg (nI_pos (by omega)), if_neg (show ¬ nI (rows * w) ≤ nI (i * w + j) from nI_ge hc (by omega)), if_pos (okI_nI hc (by omega)), if_pos ⟨okI_nI hi (by omega), okI_nI hj (by omega)⟩, nI_clamp (by omega), nI_clamp (by omega), nI_clamp (by omega)]
      exact congrArg some (flat_ix T.2 hj)
theorem put_eq (hw2 : w ≤ 14) (hr : rows ≤ 64) (T : Tb) (r c v : Int32) : fX3_put (nI w) (rows * w) r c v (tv w rows T) = some (tv w rows (tput w rows T r c v)) := by
  have hn := small_n hw2 hr
  have hz := tz_le rows T
  unfold fX3_put bfX3_put_24 bfX3_put_58 tput
  rcases pk_ix r (n := tz rows T) (by omega) with h | h | ⟨i, hi, rfl⟩
  · rw [if_pos h, if_neg (fun q => okI_neg h q.1)]
  · by_cases h0 : r < 0
    · rw [if_pos h0, if_neg (fun q => okI_neg h0 q.1)]
    · rw [if_neg h0, if_pos (show (tv w rows T).1 ≤ r from h), if_neg (fun q => okI_ge (by omega) h q.1)]
  · rw [if_neg (nI_pos (by omega)), if_neg (show ¬ (tv w rows T).1 ≤ nI i from nI_ge hi (by omega))]
    rcases pk_ix c (n := w) (by omega) with h | h | ⟨j, hj, rfl⟩
    · rw [if_pos h, if_neg (fun q => okI_neg h q.2)]
    · by_cases h0 : c < 0
      · rw [if_pos h0, if_neg (fun q => okI_neg h0 q.2)]
      · rw [if_neg h0, if_neg (Int32.not_lt.mpr h), if_neg (fun q => okI_ge (by omega) h q.2)]
    · have hc := cell_lt (show i < rows by omega) hj
      rw [if_neg (nI_pos (by omega)), if_pos (nI_lt hj (by omega)), nm, pk_mul, nI_add, if_neg (nI_pos (by omega)), if_neg (show ¬ nI (rows * w) ≤ nI (i * w + j) from nI_ge hc (by omega)), if_pos (okI_nI hc (by omega)), if_pos ⟨okI_nI hi (by omega), okI_nI hj (by omega)⟩, nI_clamp (by omega), nI_clamp (by omega), nI_clamp (by omega), nm]
      show some ((tv w rows T).1, upd (tflat w T.2) (i * w + j) v) = _
      rw [flat_up T.2 hj]
      rfl
theorem add_eq (hw2 : w ≤ 14) (hr : rows ≤ 64) (T : Tb) (r c v : Int32) : fX3_add (nI w) (rows * w) r c v (tv w rows T) = some (tv w rows (tadd w rows T r c v)) := by
  unfold fX3_add
  rw [get_eq hw2 hr, ob_eq, put_eq hw2 hr, ob_eq]
  rfl
theorem find_go (hw2 : w ≤ 14) (hr : rows ≤ 64) (T : Tb) (c v : Int32) : ∀ (k i m : Nat), i + k = tz rows T → k < m → iter (bfX3_find_2 (nI w) (rows * w) c v (tv w rows T)) m (nI i) = some (firstF (fun i => decide (tget w rows T (nI i) c = v)) k i) := by
  have hz := tz_le rows T
  intro k
  induction k with
  | zero =>
    intro i m hi hm
    obtain ⟨m, rfl⟩ : ∃ m', m = m' + 1 := ⟨m - 1, by omega⟩
    show bfX3_find_2 _ _ _ _ _ _ _ = _
    rw [bfX3_find_2]
    rw [if_pos (show (tv w rows T).1 ≤ nI i from nI_le (by omega) (by omega))]
    rfl
  | succ k ih =>
    intro i m hi hm
    obtain ⟨m, rfl⟩ : ∃ m', m = m' + 1 := ⟨m - 1, by omega⟩
    show bfX3_find_2 _ _ _ _ _ _ _ = _
    rw [bfX3_find_2]
    rw [if_neg (show ¬ (tv w rows T).1 ≤ nI i from nI_ge (by omega) (by omega)), get_eq hw2 hr, ob_eq]
    unfold firstF
    by_cases h : tget w rows T (nI i) c = v
    · rw [if_pos h, if_pos (decide_eq_true h)]
    · rw [if_neg h, if_neg (by simpa using h), nI_1, ih (i + 1) m (by omega) (by omega)]
theorem find_eq (hw2 : w ≤ 14) (hr : rows ≤ 64) (T : Tb) (c v : Int32) : fX3_find (nI w) (rows * w) c v (tv w rows T) = some (tfind w rows T c v) := by
  have hz := tz_le rows T
  exact find_go hw2 hr T c v (tz rows T) 0 FU (by omega) (by unfold FU; omega)
theorem rows_go (hw2 : w ≤ 14) (hr : rows ≤ 64) (T : Tb) (c v : Int32) : ∀ (k i m : Nat), i + k = tz rows T → k < m → iter (bfX3_rowsWith_5 (nI w) (rows * w) c v (tv w rows T)) m (sumF (fun i => if tget w rows T (nI i) c = v then 1 else 0) i, nI i) = some (trows w rows T c v) := by
  have hz := tz_le rows T
  intro k
  induction k with
  | zero =>
    intro i m hi hm
    obtain ⟨m, rfl⟩ : ∃ m', m = m' + 1 := ⟨m - 1, by omega⟩
    show bfX3_rowsWith_5 _ _ _ _ _ _ _ = _
    rw [bfX3_rowsWith_5]
    rw [if_pos (show (tv w rows T).1 ≤ nI i from nI_le (by omega) (by omega))]
    unfold trows
    rw [← hi]
    rfl
  | succ k ih =>
    intro i m hi hm
    obtain ⟨m, rfl⟩ : ∃ m', m = m' + 1 := ⟨m - 1, by omega⟩
    show bfX3_rowsWith_5 _ _ _ _ _ _ _ = _
    rw [bfX3_rowsWith_5]
    unfold bfX3_rowsWith_31
    rw [if_neg (show ¬ (tv w rows T).1 ≤ nI i from nI_ge (by omega) (by omega)), get_eq hw2 hr, ob_eq]
    have hs := ih (i + 1) m (by omega) (by omega)
    by_cases h : tget w rows T (nI i) c = v
    · rw [if_pos h, nm, nI_1]
      rw [show sumF (fun i => if tget w rows T (nI i) c = v then (1 : Int32) else 0) (i + 1) = sumF (fun i => if tget w rows T (nI i) c = v then 1 else 0) i + 1 from by rw [sumF, if_pos h]] at hs
      exact hs
    · rw [if_neg h, nm, nI_1]
      rw [show sumF (fun i => if tget w rows T (nI i) c = v then (1 : Int32) else 0) (i + 1) = sumF (fun i => if tget w rows T (nI i) c = v then 1 else 0) i + 0 from by rw [sumF, if_neg h]] at hs
      exact hs
theorem rows_eq (hw2 : w ≤ 14) (hr : rows ≤ 64) (T : Tb) (c v : Int32) : fX3_rowsWith (nI w) (rows * w) c v (tv w rows T) = some (trows w rows T c v) := by
  have hz := tz_le rows T
  exact rows_go hw2 hr T c v (tz rows T) 0 FU (by omega) (by unfold FU; omega)
theorem sum_go (hw2 : w ≤ 14) (hr : rows ≤ 64) (T : Tb) (c : Int32) : ∀ (k i m : Nat), i + k = tz rows T → k < m → iter (bfX3_sumOf_4 (nI w) (rows * w) c (tv w rows T)) m (sumF (fun i => tget w rows T (nI i) c) i, nI i) = some (tsum w rows T c) := by
  have hz := tz_le rows T
  intro k
  induction k with
  | zero =>
    intro i m hi hm
    obtain ⟨m, rfl⟩ : ∃ m', m = m' + 1 := ⟨m - 1, by omega⟩
    show bfX3_sumOf_4 _ _ _ _ _ _ = _
    rw [bfX3_sumOf_4]
    rw [if_pos (show (tv w rows T).1 ≤ nI i from nI_le (by omega) (by omega))]
    unfold tsum
    rw [← hi]
    rfl
  | succ k ih =>
    intro i m hi hm
    obtain ⟨m, rfl⟩ : ∃ m', m = m' + 1 := ⟨m - 1, by omega⟩
    show bfX3_sumOf_4 _ _ _ _ _ _ = _
    rw [bfX3_sumOf_4]
    rw [if_neg (show ¬ (tv w rows T).1 ≤ nI i from nI_ge (by omega) (by omega)), get_eq hw2 hr, ob_eq, nm, nI_1]
    exact ih (i + 1) m (by omega) (by omega)
theorem sum_eq (hw2 : w ≤ 14) (hr : rows ≤ 64) (T : Tb) (c : Int32) : fX3_sumOf (nI w) (rows * w) c (tv w rows T) = some (tsum w rows T c) := by
  have hz := tz_le rows T
  exact sum_go hw2 hr T c (tz rows T) 0 FU (by omega) (by unfold FU; omega)
theorem fill_go {n : Nat} (hn : n < 2 ^ 31) (v : Int32) : ∀ (k a b m : Nat) (f : Nat → Int32), a + k = b → b ≤ n → k < m → iter (bfJ7_fill_fda19_10 n (nI a) (nI b) v) m (nI a, f) = some (fun j => if a ≤ j ∧ j < b then v else f j) ∧ ∀ a0, iter (bfJ7_fill_fda19_10 n a0 (nI b) v) m (nI a, f) = some (fun j => if a ≤ j ∧ j < b then v else f j) := by
  intro k
  induction k with
  | zero =>
    intro a b m f h1 h2 h3
    obtain ⟨m, rfl⟩ : ∃ m', m = m' + 1 := ⟨m - 1, by omega⟩
    have key : ∀ a0, iter (bfJ7_fill_fda19_10 n a0 (nI b) v) (m + 1) (nI a, f) = some (fun j => if a ≤ j ∧ j < b then v else f j) := by
      intro a0
      show bfJ7_fill_fda19_10 _ _ _ _ _ _ = _
      rw [bfJ7_fill_fda19_10]
      rw [if_pos (nI_le (by omega) (by omega))]
      refine congrArg some (funext fun j => ?_)
      rw [if_neg (by omega)]
    exact ⟨key _, key⟩
  | succ k ih =>
    intro a b m f h1 h2 h3
    obtain ⟨m, rfl⟩ : ∃ m', m = m' + 1 := ⟨m - 1, by omega⟩
    have key : ∀ a0, iter (bfJ7_fill_fda19_10 n a0 (nI b) v) (m + 1) (nI a, f) = some (fun j => if a ≤ j ∧ j < b then v else f j) := by
      intro a0
      show bfJ7_fill_fda19_10 _ _ _ _ _ _ = _
      rw [bfJ7_fill_fda19_10]
      rw [if_neg (nI_ge (by omega) (by omega)), if_pos (okI_nI (by omega) hn), nm, nI_1, nI_clamp (by omega), (ih (a + 1) b m (upd f a v) (by omega) h2 (by omega)).2 a0]
      refine congrArg some (funext fun j => ?_)
      unfold upd
      by_cases hj : j = a
      · subst hj
        rw [if_neg (by omega), if_pos rfl, if_pos (by omega)]
      · rw [if_neg hj]
        by_cases h : a + 1 ≤ j ∧ j < b
        · rw [if_pos h, if_pos (by omega)]
        · rw [if_neg h, if_neg (by omega)]
    exact ⟨key _, key⟩
theorem fill_eq {n a b : Nat} (hn : n < 1000) (hab : a ≤ b) (hb : b ≤ n) (v : Int32) (S : TV) : fillT n (nI a) (nI b) v S = some (S.1, fun j => if a ≤ j ∧ j < b then v else S.2 j) := by
  unfold fillT fJ7_fill_fda19 fJ7_rangeCheck_23922
  rw [if_pos (nI_le hab (by omega)), if_pos (nI_pos' (by omega)), if_pos (show nI b ≤ nI n from nI_le hb (by omega)), ob_eq, (fill_go (n := n) (by omega) v (b - a) a b FU S.2 (by omega) hb (by unfold FU; omega)).1]
  rfl
theorem append_eq (hw : 0 < w) (hw2 : w ≤ 14) (hr : rows ≤ 64) (T : Tb) : fX3_append (nI w) (rows * w) (tv w rows T) = some ((tappend rows T).1, tv w rows (tappend rows T).2) := by
  have hn := small_n hw2 hr
  have hz := tz_le rows T
  have hm : tz rows T * w ≤ rows * w := Nat.mul_le_mul_right w hz
  unfold fX3_append bfX3_append_35 tappend
  rw [nm, nm, show (tv w rows T).1 * nI w = nI (tz rows T * w) from pk_mul _ _, nI_add, if_neg (nI_pos (by omega)), if_neg (nI_nlt (by omega) (by omega))]
  by_cases h : T.1 < rows
  · have e : tz rows T = T.1 := Nat.min_eq_left (by omega)
    have hc : (T.1 + 1) * w ≤ rows * w := Nat.mul_le_mul_right w h
    rw [Nat.succ_mul] at hc
    rw [if_pos h, e, if_pos (show nI (T.1 * w + w) ≤ nI (rows * w) from nI_le hc (by omega)), fill_eq (by omega) (by omega) hc, ob_eq, nm]
    have e2 : tz rows (T.1 + 1, fun i j => if i = T.1 then (0 : Int32) else T.2 i j) = T.1 + 1 := Nat.min_eq_left (by omega)
    have e3 : (tv w rows T).1 + 1 = nI (T.1 + 1) := by
      show nI (tz rows T) + 1 = _
      rw [e, nI_1]
    refine congrArg some (Prod.ext ?_ (Prod.ext ?_ ?_))
    · show (tv w rows T).1 + 1 - 1 = nI T.1
      rw [e3]
      exact nI_pred T.1
    · show (tv w rows T).1 + 1 = nI (tz rows _)
      rw [e2, e3]
    · refine funext fun j => ?_
      show (if T.1 * w ≤ j ∧ j < T.1 * w + w then (0 : Int32) else tflat w T.2 j) = tflat w (fun i j => if i = T.1 then 0 else T.2 i j) j
      unfold tflat
      have hd : j / w = T.1 ↔ T.1 * w ≤ j ∧ j < T.1 * w + w := by
        constructor
        · intro q
          have h1 := Nat.div_add_mod j w
          have h2 := Nat.mod_lt j hw
          rw [q, Nat.mul_comm] at h1
          omega
        · rintro ⟨q1, q2⟩
          have h1 : T.1 ≤ j / w := (Nat.le_div_iff_mul_le hw).mpr q1
          have h2 : j / w < T.1 + 1 := (Nat.div_lt_iff_lt_mul hw).mpr (by rw [Nat.succ_mul]; exact q2)
          omega
      dsimp only
      by_cases q : j / w = T.1
      · rw [if_pos (hd.mp q), if_pos q]
      · rw [if_neg (fun z => q (hd.mpr z)), if_neg q]
  · have e : tz rows T = rows := Nat.min_eq_right (by omega)
    rw [if_neg h, if_neg (show ¬ nI (tz rows T * w + w) ≤ nI (rows * w) from nI_ge (by rw [e]; omega) (by rw [e]; omega))]
theorem drop_eq (hw : 0 < w) (hw2 : w ≤ 14) (hr : rows ≤ 64) (T : Tb) (r : Int32) : fX3_drop (nI w) (rows * w) r (tv w rows T) = some (tv w rows (tdrop rows T r)) := by
  have hn := small_n hw2 hr
  have hz := tz_le rows T
  unfold fX3_drop bfX3_drop_12 bfX3_drop_76 tdrop
  rcases pk_ix r (n := tz rows T) (by omega) with h | h | ⟨i, hi, rfl⟩
  · rw [if_pos h, if_neg (fun q => okI_neg h q)]
  · by_cases h0 : r < 0
    · rw [if_pos h0, if_neg (fun q => okI_neg h0 q)]
    · rw [if_neg h0, if_neg (show ¬ r < (tv w rows T).1 from Int32.not_lt.mpr h), if_neg (fun q => okI_ge (by omega) h q)]
  · have hm : tz rows T * w ≤ rows * w := Nat.mul_le_mul_right w hz
    have hi2 : (i + 1) * w ≤ tz rows T * w := Nat.mul_le_mul_right w hi
    rw [Nat.succ_mul] at hi2
    rw [if_neg (nI_pos (by omega)), if_pos (show nI i < (tv w rows T).1 from nI_lt hi (by omega)), if_pos (okI_nI hi (by omega)), nm, nm, nm, pk_mul, nI_add, show (tv w rows T).1 * nI w = nI (tz rows T * w) from pk_mul _ _, pk_sub hi2, if_neg (nI_pos (by omega)), if_neg (nI_pos (by omega)), nI_add, if_neg (show ¬ nI (rows * w) < nI (i * w + w + (tz rows T * w - (i * w + w))) from nI_nlt (by omega) (by omega))]
    rw [if_pos (by
      refine ⟨nI_pos (by omega), nI_pos (by omega), nI_pos (by omega), ?_, ?_⟩
      · rw [nI_clamp (by omega), nI_clamp (by omega)]; omega
      · rw [nI_clamp (by omega), nI_clamp (by omega)]; omega), nm, nm]
    have e2 : tz rows (tz rows T - 1, fun a j => if (nI i).toNatClampNeg ≤ a ∧ a + 1 < tz rows T then T.2 (a + 1) j else T.2 a j) = tz rows T - 1 := Nat.min_eq_left (by omega)
    refine congrArg some (Prod.ext ?_ ?_)
    · show (tv w rows T).1 - 1 = nI (tz rows _)
      rw [e2]
      show nI (tz rows T) - 1 = _
      obtain ⟨k, hk⟩ : ∃ k, tz rows T = k + 1 := ⟨tz rows T - 1, by omega⟩
      rw [hk]
      exact nI_pred k
    · refine funext fun j => ?_
      show va_cpy (tflat w T.2) (tflat w T.2) (nI (i * w + w)).toNatClampNeg (nI (i * w)).toNatClampNeg (nI (tz rows T * w - (i * w + w))).toNatClampNeg j = tflat w (fun a j => if (nI i).toNatClampNeg ≤ a ∧ a + 1 < tz rows T then T.2 (a + 1) j else T.2 a j) j
      rw [nI_clamp (by omega), nI_clamp (by omega), nI_clamp (by omega), nI_clamp (show i < 2 ^ 31 by omega)]
      unfold va_cpy tflat
      have hd : (i ≤ j / w ∧ j / w + 1 < tz rows T) ↔ (i * w ≤ j ∧ j < i * w + (tz rows T * w - (i * w + w))) := by
        have h1 : i ≤ j / w ↔ i * w ≤ j := Nat.le_div_iff_mul_le hw
        have h2 : j / w < tz rows T - 1 ↔ j < (tz rows T - 1) * w := Nat.div_lt_iff_lt_mul hw
        have h3 : (tz rows T - 1) * w = tz rows T * w - w := by rw [Nat.sub_mul, Nat.one_mul]
        rw [h3] at h2
        omega
      dsimp only
      by_cases q : i ≤ j / w ∧ j / w + 1 < tz rows T
      · rw [if_pos (hd.mp q), if_pos q]
        have e : i * w + w + (j - i * w) = j + w := by have := (hd.mp q).1; omega
        rw [e, Nat.add_div_right j hw, Nat.add_mod_right]
      · rw [if_neg (fun z => q (hd.mpr z)), if_neg q]
/-- one row, of another table with as many columns -/
def crow (w rows2 : Nat) (T2 : Tb) (r2 : Int32) (k : Nat) (rows : Nat) (T : Tb) (r : Int32) : Tb := if okI r (tz rows T) then (T.1, fun i j => if i = r.toNatClampNeg ∧ j < k then tget w rows2 T2 r2 (nI j) else T.2 i j) else T
def tcopyRow (w rows rows2 : Nat) (T T2 : Tb) (r r2 : Int32) : Tb := crow w rows2 T2 r2 w rows T r
theorem crow_step {rows2 : Nat} (hw2 : w ≤ 14) (hr : rows ≤ 64) (T T2 : Tb) (r r2 : Int32) {k : Nat} (hk : k < w) : tput w rows (crow w rows2 T2 r2 k rows T r) r (nI k) (tget w rows2 T2 r2 (nI k)) = crow w rows2 T2 r2 (k + 1) rows T r := by
  unfold crow tput
  by_cases h : okI r (tz rows T)
  · rw [if_pos h, if_pos h]
    have h2 : okI r (tz rows (T.1, fun i j => if i = r.toNatClampNeg ∧ j < k then tget w rows2 T2 r2 (nI j) else T.2 i j)) := h
    rw [if_pos ⟨h2, okI_nI hk (by omega)⟩, nI_clamp (by omega)]
    refine Prod.ext rfl (funext fun i => funext fun j => ?_)
    show fup _ _ _ _ i j = _
    unfold fup
    dsimp only
    by_cases h3 : i = r.toNatClampNeg ∧ j = k
    · rw [if_pos h3, if_pos ⟨h3.1, by omega⟩, h3.2]
    · rw [if_neg h3]
      by_cases h4 : i = r.toNatClampNeg ∧ j < k
      · rw [if_pos h4, if_pos ⟨h4.1, by omega⟩]
      · rw [if_neg h4, if_neg (fun q => h3 ⟨q.1, by have := fun z => h4 ⟨q.1, z⟩; omega⟩)]
  · rw [if_neg h, if_neg h, if_neg (fun q => h q.1)]
theorem copyRow_go {rows2 : Nat} (hw2 : w ≤ 14) (hr : rows ≤ 64) (hr2 : rows2 ≤ 64) (T T2 : Tb) (r r2 : Int32) : ∀ (n k m : Nat), k + n = w → n < m → iter (bfX3_copyRow_3 (nI w) (rows * w) (nI w) (rows2 * w) r r2) m (nI k, tv w rows (crow w rows2 T2 r2 k rows T r), tv w rows2 T2) = some (tv w rows (tcopyRow w rows rows2 T T2 r r2), tv w rows2 T2) := by
  intro n
  induction n with
  | zero =>
    intro k m hk hm
    obtain ⟨m, rfl⟩ : ∃ m', m = m' + 1 := ⟨m - 1, by omega⟩
    have hk2 : k = w := by omega
    subst hk2
    show bfX3_copyRow_3 _ _ _ _ _ _ _ _ = _
    rw [bfX3_copyRow_3]
    rw [if_pos (nI_le (by omega) (by omega))]
    rfl
  | succ n ih =>
    intro k m hk hm
    obtain ⟨m, rfl⟩ : ∃ m', m = m' + 1 := ⟨m - 1, by omega⟩
    show bfX3_copyRow_3 _ _ _ _ _ _ _ _ = _
    rw [bfX3_copyRow_3]
    rw [if_neg (nI_ge (by omega) (by omega)), get_eq hw2 hr2, ob_eq, putTT, put_eq hw2 hr, Option.map_some, ob_eq, crow_step hw2 hr T T2 r r2 (by omega)]
    rw [show ∀ x : Int32, x = nI k → x + 1 = nI (k + 1) from fun x hx => by rw [hx, nI_1]]
    · exact ih (k + 1) m (by omega) (by omega)
    · rfl
theorem copyRow_eq {rows2 : Nat} (hw2 : w ≤ 14) (hr : rows ≤ 64) (hr2 : rows2 ≤ 64) (T T2 : Tb) (r r2 : Int32) : fX3_copyRow (nI w) (rows * w) (nI w) (rows2 * w) r r2 (tv w rows T, tv w rows2 T2) = some (tv w rows (tcopyRow w rows rows2 T T2 r r2), tv w rows2 T2) := by
  have h := copyRow_go (rows2 := rows2) hw2 hr hr2 T T2 r r2 w 0 FU (by omega) (by unfold FU; omega)
  have e : crow w rows2 T2 r2 0 rows T r = T := by
    unfold crow
    split
    · exact Prod.ext rfl (funext fun i => funext fun j => by dsimp only; rw [if_neg (by omega)])
    · rfl
  rw [e] at h
  exact h
/-- a copy of a table of the same shape -/
theorem copyFrom_eq (hw2 : w ≤ 14) (hr : rows ≤ 64) (T T2 : Tb) : fX3_copyFrom (nI w) (rows * w) (nI w) (rows * w) (tv w rows T, tv w rows T2) = some ((nI (tz rows T2), fun j => if j < rows * w then tflat w T2.2 j else tflat w T.2 j), tv w rows T2) := by
  have hn := small_n hw2 hr
  unfold fX3_copyFrom
  have e : (if nI (rows * w) < nI (rows * w) then nI (rows * w) else nI (rows * w)) = nI (rows * w) := by split <;> rfl
  rw [e, if_pos (by
    refine ⟨by decide, by decide, nI_pos (by omega), ?_, ?_⟩
    · rw [nI_clamp (by omega)]; show 0 + _ ≤ _; omega
    · rw [nI_clamp (by omega)]; show 0 + _ ≤ _; omega), nm, nm]
  refine congrArg some (Prod.ext (Prod.ext rfl (funext fun j => ?_)) rfl)
  show va_cpy (tflat w T2.2) (tflat w T.2) 0 0 (nI (rows * w)).toNatClampNeg j = _
  rw [nI_clamp (by omega)]
  unfold va_cpy
  dsimp only
  by_cases h : j < rows * w
  · rw [if_pos (by omega), if_pos h, show 0 + (j - 0) = j from by omega]
  · rw [if_neg (by omega), if_neg h]
/-- all rows of a column -/
def tputAll (w rows : Nat) (T : Tb) (c v : Int32) : Nat → Tb
  | 0 => T
  | n + 1 => tput w rows (tputAll w rows T c v n) (nI n) c v
theorem tput_1 (T : Tb) (r c v : Int32) : (tput w rows T r c v).1 = T.1 := by unfold tput; split <;> rfl
theorem tputAll_1 (T : Tb) (c v : Int32) : ∀ n, (tputAll w rows T c v n).1 = T.1
  | 0 => rfl
  | n + 1 => (tput_1 _ _ _ _).trans (tputAll_1 T c v n)
theorem putAll_go (hw2 : w ≤ 14) (hr : rows ≤ 64) (T : Tb) (c v : Int32) : ∀ (n k m : Nat), k + n = tz rows T → n < m → iter (bfX3_putInAll_2 (nI w) (rows * w) c v) m (nI k, tv w rows (tputAll w rows T c v k)) = some (tv w rows (tputAll w rows T c v (tz rows T))) := by
  have hz := tz_le rows T
  have e : ∀ k, (tv w rows (tputAll w rows T c v k)).1 = nI (tz rows T) := fun k => by show nI (min _ _) = _; rw [tputAll_1]; rfl
  intro n
  induction n with
  | zero =>
    intro k m hk hm
    obtain ⟨m, rfl⟩ : ∃ m', m = m' + 1 := ⟨m - 1, by omega⟩
    show bfX3_putInAll_2 _ _ _ _ _ _ = _
    rw [bfX3_putInAll_2]
    rw [e, if_pos (nI_le (by omega) (by omega)), show k = tz rows T from by omega]
  | succ n ih =>
    intro k m hk hm
    obtain ⟨m, rfl⟩ : ∃ m', m = m' + 1 := ⟨m - 1, by omega⟩
    show bfX3_putInAll_2 _ _ _ _ _ _ = _
    rw [bfX3_putInAll_2]
    rw [e, if_neg (nI_ge (by omega) (by omega)), put_eq hw2 hr, ob_eq, nI_1]
    exact ih (k + 1) m (by omega) (by omega)
theorem putAll_eq (hw2 : w ≤ 14) (hr : rows ≤ 64) (T : Tb) (c v : Int32) : fX3_putInAll (nI w) (rows * w) c v (tv w rows T) = some (tv w rows (tputAll w rows T c v (tz rows T))) := by
  have hz := tz_le rows T
  exact putAll_go hw2 hr T c v (tz rows T) 0 FU (by omega) (by unfold FU; omega)
end TL
