/-! an attempt is taken away: the reference's loops -/
theorem it_s {α β : Type} {F : (α → Option β) → α → Option β} {m : Nat} {x : α} : iter F (m + 1) x = F (iter F m) x := rfl
def pcw (p : Pg) (a w : Nat) : Pg := fun x => if (591 ≤ x ∧ x < 591 + w ∨ 595 ≤ x ∧ x < 595 + w) ∧ p x = nI a then -9 else p x
theorem pcw_0 {p : Pg} {a : Nat} : pcw p a 0 = p := by
  funext x
  unfold pcw
  rw [if_neg (by omega)]
theorem pcw_s {p : Pg} {a w : Nat} (hw : w < 4) : upd (upd (pcw p a w) (591 + w) (if p (591 + w) = nI a then -9 else p (591 + w))) (595 + w) (if p (595 + w) = nI a then -9 else p (595 + w)) = pcw p a (w + 1) := by
  funext x
  by_cases e5 : x = 595 + w
  · rw [up_s e5]
    unfold pcw
    subst e5
    by_cases z : p (595 + w) = nI a
    · rw [if_pos z, if_pos ⟨by omega, z⟩]
    · rw [if_neg z, if_neg (fun y => z y.2)]
  · rw [up_n e5]
    by_cases e1 : x = 591 + w
    · rw [up_s e1]
      unfold pcw
      subst e1
      by_cases z : p (591 + w) = nI a
      · rw [if_pos z, if_pos ⟨by omega, z⟩]
      · rw [if_neg z, if_neg (fun y => z y.2)]
    · rw [up_n e1]
      unfold pcw
      by_cases z : (591 ≤ x ∧ x < 591 + w ∨ 595 ≤ x ∧ x < 595 + w) ∧ p x = nI a
      · rw [if_pos z, if_pos ⟨by omega, z.2⟩]
      · rw [if_neg z, if_neg (fun y => z ⟨by omega, y.2⟩)]
theorem cn96_step {X : MS} {a w : Nat} (hw : w < 4) (K : Int32 × MS → Option MS) : bfX6_cancels_96 (nI a) K (nI w, X) = K (nI (w + 1), (upd (upd X.1 (591 + w) (if X.1 (591 + w) = nI a then -9 else X.1 (591 + w))) (595 + w) (if X.1 (595 + w) = nI a then -9 else X.1 (595 + w)), X.2)) := by
  have key : ∀ Y : MS, (if okI ((595 : Int32) + nI w) 5130 then (if (Y.1 (((595 : Int32) + nI w)).toNatClampNeg) = nI a then bfX6_cancels_178 (nI a) K (nI w) (((595 : Int32) + nI w)) ((-9 : Int32)) Y else (if okI ((595 : Int32) + nI w) 5130 then bfX6_cancels_178 (nI a) K (nI w) (((595 : Int32) + nI w)) ((Y.1 (((595 : Int32) + nI w)).toNatClampNeg)) Y else none)) else none) = K (nI (w + 1), (upd Y.1 (595 + w) (if Y.1 (595 + w) = nI a then -9 else Y.1 (595 + w)), Y.2)) := by
    intro Y
    have hc : ((595 : Int32) + nI w).toNatClampNeg = 595 + w := by rw [nB_595]; exact nI_clamp (by omega)
    have ho : okI ((595 : Int32) + nI w) 5130 ↔ True := by rw [nB_595]; exact okT (by omega) (by decide)
    unfold bfX6_cancels_178
    simp only [hc, ho, if_true, nA_1]
    by_cases z5 : Y.1 (595 + w) = nI a
    · rw [if_pos z5, if_pos z5]
      rfl
    · rw [if_neg z5, if_neg z5]
      rfl
  have f139 : ∀ z : Int32, bfX6_cancels_139 (nI a) K (nI w) (nI (591 + w)) z X = K (nI (w + 1), (upd (upd X.1 (591 + w) z) (595 + w) (if X.1 (595 + w) = nI a then -9 else X.1 (595 + w)), X.2)) := by
    intro z
    unfold bfX6_cancels_139
    rw [if_pos (okI_nI (by omega) (by decide)), nI_clamp (by omega)]
    refine (key (upd X.1 (591 + w) z, X.2)).trans ?_
    have eu : upd X.1 (591 + w) z (595 + w) = X.1 (595 + w) := up_n (by omega)
    simp only [eu]
  have hc : ((591 : Int32) + nI w).toNatClampNeg = 591 + w := by rw [nB_591]; exact nI_clamp (by omega)
  have ho : okI ((591 : Int32) + nI w) 5130 ↔ True := by rw [nB_591]; exact okT (by omega) (by decide)
  rw [bfX6_cancels_96, if_neg (fun z => by have := (len_4 (by omega)).mp z; omega)]
  simp only [hc, ho, if_true]
  rw [nB_591, f139, f139]
  by_cases z : X.1 (591 + w) = nI a
  · rw [if_pos z, if_pos z]
  · rw [if_neg z, if_neg z]
theorem cn96 {M : MS} {a : Nat} (ha : a < 24) : ∀ (k w m : Nat), w + k = 4 → k < m → iter (bfX6_cancels_96 (nI a)) m (nI w, (pcw M.1 a w, M.2)) = some (lv0 (pcw M.1 a 4, M.2) a) := by
  intro k
  induction k with
  | zero =>
    intro w m hw hm
    obtain ⟨m, rfl⟩ : ∃ k, m = k + 1 := ⟨m - 1, by omega⟩
    obtain rfl : w = 4 := by omega
    rw [it_s, bfX6_cancels_96, if_pos (by decide), leaves_lv0 ha, ob_eq]
  | succ k ih =>
    intro w m hw hm
    obtain ⟨m, rfl⟩ : ∃ k, m = k + 1 := ⟨m - 1, by omega⟩
    have e1 : pcw M.1 a w (591 + w) = M.1 (591 + w) := by
      unfold pcw
      rw [if_neg (by omega)]
    have e5 : pcw M.1 a w (595 + w) = M.1 (595 + w) := by
      unfold pcw
      rw [if_neg (by omega)]
    rw [it_s]
    refine (cn96_step (by omega) _).trans ?_
    simp only [e1, e5]
    rw [pcw_s (by omega)]
    exact ih (w + 1) m (by omega) (by omega)
def cW (a : Nat) (M : MS) : Option MS := some (lv0 (pcw M.1 a 4, M.2) a)
theorem cW_eq {M : MS} {a : Nat} (ha : a < 24) : iter (bfX6_cancels_96 (nI a)) FU ((0 : Int32), M) = cW a M := by
  have := cn96 (M := M) ha 4 0 FU (by omega) (by unfold FU; omega)
  rw [pcw_0] at this
  exact this
/-- the reference's loop over the back queue: nothing is found -/
theorem cn58_no {M : MS} {a n : Nat} (ha : a < 24) (hn : n ≤ 16) : ∀ (j m : Nat), j ≤ n → (∀ k, k < j → ∃ x, x < 24 ∧ x ≠ a ∧ M.1 (575 + k) = nI x) → j < m → iter (bfX6_cancels_58 (nI a)) m (nI j + (-1 : Int32), M) = cW a M := by
  intro j
  induction j with
  | zero =>
    intro m hj hq hm
    obtain ⟨m, rfl⟩ : ∃ k, m = k + 1 := ⟨m - 1, by omega⟩
    rw [it_s, bfX6_cancels_58, if_pos (by decide), cW_eq ha]
  | succ j ih =>
    intro m hj hq hm
    obtain ⟨m, rfl⟩ : ∃ k, m = k + 1 := ⟨m - 1, by omega⟩
    obtain ⟨x, x1, x2, x3⟩ := hq j (by omega)
    rw [it_s, bfX6_cancels_58]
    unfold bfX6_cancels_88
    have hc : ((575 : Int32) + nI j).toNatClampNeg = 575 + j := by rw [nB_575]; exact nI_clamp (by omega)
    have ho : okI ((575 : Int32) + nI j) 5130 ↔ True := by rw [nB_575]; exact okT (by omega) (by decide)
    rw [pk_m1, if_neg (nI_pos (by omega))]
    simp only [hc, ho, if_true]
    rw [if_neg (fun z => x2 ((nI_eq (by omega) (by omega)).mp (x3.symm.trans z)))]
    exact ih m (by omega) (fun k hk => hq k (by omega)) (by omega)
theorem cn58_yes {M : MS} {a n k0 : Nat} (ha : a < 24) (hn : n ≤ 16) (hk0 : k0 < n) (h0 : M.1 (575 + k0) = nI a) (hm0 : M.1 574 = nI n) (hq : ∀ k, k < n → k ≠ k0 → ∃ x, x < 24 ∧ x ≠ a ∧ M.1 (575 + k) = nI x) : ∀ (i j m : Nat), j = k0 + 1 + i → j ≤ n → j < m → iter (bfX6_cancels_58 (nI a)) m (nI j + (-1 : Int32), M) = (fun M : MS => cW a M) (upd (ppull M.1 575 n k0) 574 (nI (n - 1)), M.2) := by
  intro i
  induction i with
  | zero =>
    intro j m e hj hm
    obtain ⟨m, rfl⟩ : ∃ k, m = k + 1 := ⟨m - 1, by omega⟩
    obtain rfl : j = k0 + 1 := by omega
    rw [it_s, bfX6_cancels_58]
    unfold bfX6_cancels_88
    have hc : ((575 : Int32) + nI k0).toNatClampNeg = 575 + k0 := by rw [nB_575]; exact nI_clamp (by omega)
    have ho : okI ((575 : Int32) + nI k0) 5130 ↔ True := by rw [nB_575]; exact okT (by omega) (by decide)
    rw [pk_m1, if_neg (nI_pos (by omega))]
    simp only [hc, ho, if_true]
    rw [if_pos h0, show fX6_pulls (574 : Int32) (575 : Int32) (nI k0) M = some (M.1 (575 + k0), upd (ppull M.1 575 n k0) 574 (nI (n - 1)), M.2) from pulls_eq (m0 := 574) (q := 575) (by omega) (by omega) hk0 (by omega) hm0, ob_eq]
    refine cn58_no ha hn k0 m (by omega) (fun k hk => ?_) (by omega)
    obtain ⟨x, x1, x2, x3⟩ := hq k (by omega) (by omega)
    refine ⟨x, x1, x2, ?_⟩
    show upd (ppull M.1 575 n k0) 574 (nI (n - 1)) (575 + k) = _
    rw [up_n (by omega)]
    unfold ppull
    rw [if_neg (by omega)]
    exact x3
  | succ i ih =>
    intro j m e hj hm
    obtain ⟨m, rfl⟩ : ∃ k, m = k + 1 := ⟨m - 1, by omega⟩
    obtain ⟨j, rfl⟩ : ∃ k, j = k + 1 := ⟨j - 1, by omega⟩
    obtain ⟨x, x1, x2, x3⟩ := hq j (by omega) (by omega)
    rw [it_s, bfX6_cancels_58]
    unfold bfX6_cancels_88
    have hc : ((575 : Int32) + nI j).toNatClampNeg = 575 + j := by rw [nB_575]; exact nI_clamp (by omega)
    have ho : okI ((575 : Int32) + nI j) 5130 ↔ True := by rw [nB_575]; exact okT (by omega) (by decide)
    rw [pk_m1, if_neg (nI_pos (by omega))]
    simp only [hc, ho, if_true]
    rw [if_neg (fun z => x2 ((nI_eq (by omega) (by omega)).mp (x3.symm.trans z)))]
    exact ih j m (by omega) (by omega) (by omega)
def cB (a : Nat) (M : MS) : Option MS := iter (bfX6_cancels_58 (nI a)) FU (M.1 574 + (-1 : Int32), M)
/-- the reference's loop over the front queue: nothing is found -/
theorem cn11_no {M : MS} {a n : Nat} (ha : a < 24) (hn : n ≤ 16) : ∀ (j m : Nat), j ≤ n → (∀ k, k < j → ∃ x, x < 24 ∧ x ≠ a ∧ M.1 (558 + k) = nI x) → j < m → iter (bfX6_cancels_11 (nI a)) m (nI j + (-1 : Int32), M) = cB a M := by
  intro j
  induction j with
  | zero =>
    intro m hj hq hm
    obtain ⟨m, rfl⟩ : ∃ k, m = k + 1 := ⟨m - 1, by omega⟩
    rw [it_s, bfX6_cancels_11, if_pos (by decide), nm, cl_574, Int32.sub_eq_add_neg]
    unfold cB
    rfl
  | succ j ih =>
    intro m hj hq hm
    obtain ⟨m, rfl⟩ : ∃ k, m = k + 1 := ⟨m - 1, by omega⟩
    obtain ⟨x, x1, x2, x3⟩ := hq j (by omega)
    rw [it_s, bfX6_cancels_11]
    unfold bfX6_cancels_41
    have hc : ((558 : Int32) + nI j).toNatClampNeg = 558 + j := by rw [nB_558]; exact nI_clamp (by omega)
    have ho : okI ((558 : Int32) + nI j) 5130 ↔ True := by rw [nB_558]; exact okT (by omega) (by decide)
    rw [pk_m1, if_neg (nI_pos (by omega))]
    simp only [hc, ho, if_true]
    rw [if_neg (fun z => x2 ((nI_eq (by omega) (by omega)).mp (x3.symm.trans z)))]
    exact ih m (by omega) (fun k hk => hq k (by omega)) (by omega)
theorem cn11_yes {M : MS} {a n k0 : Nat} (ha : a < 24) (hn : n ≤ 16) (hk0 : k0 < n) (h0 : M.1 (558 + k0) = nI a) (hm0 : M.1 557 = nI n) (hq : ∀ k, k < n → k ≠ k0 → ∃ x, x < 24 ∧ x ≠ a ∧ M.1 (558 + k) = nI x) : ∀ (i j m : Nat), j = k0 + 1 + i → j ≤ n → j < m → iter (bfX6_cancels_11 (nI a)) m (nI j + (-1 : Int32), M) = (fun M : MS => cB a M) (upd (ppull M.1 558 n k0) 557 (nI (n - 1)), M.2) := by
  intro i
  induction i with
  | zero =>
    intro j m e hj hm
    obtain ⟨m, rfl⟩ : ∃ k, m = k + 1 := ⟨m - 1, by omega⟩
    obtain rfl : j = k0 + 1 := by omega
    rw [it_s, bfX6_cancels_11]
    unfold bfX6_cancels_41
    have hc : ((558 : Int32) + nI k0).toNatClampNeg = 558 + k0 := by rw [nB_558]; exact nI_clamp (by omega)
    have ho : okI ((558 : Int32) + nI k0) 5130 ↔ True := by rw [nB_558]; exact okT (by omega) (by decide)
    rw [pk_m1, if_neg (nI_pos (by omega))]
    simp only [hc, ho, if_true]
    rw [if_pos h0, show fX6_pulls (557 : Int32) (558 : Int32) (nI k0) M = some (M.1 (558 + k0), upd (ppull M.1 558 n k0) 557 (nI (n - 1)), M.2) from pulls_eq (m0 := 557) (q := 558) (by omega) (by omega) hk0 (by omega) hm0, ob_eq]
    refine cn11_no ha hn k0 m (by omega) (fun k hk => ?_) (by omega)
    obtain ⟨x, x1, x2, x3⟩ := hq k (by omega) (by omega)
    refine ⟨x, x1, x2, ?_⟩
    show upd (ppull M.1 558 n k0) 557 (nI (n - 1)) (558 + k) = _
    rw [up_n (by omega)]
    unfold ppull
    rw [if_neg (by omega)]
    exact x3
  | succ i ih =>
    intro j m e hj hm
    obtain ⟨m, rfl⟩ : ∃ k, m = k + 1 := ⟨m - 1, by omega⟩
    obtain ⟨j, rfl⟩ : ∃ k, j = k + 1 := ⟨j - 1, by omega⟩
    obtain ⟨x, x1, x2, x3⟩ := hq j (by omega) (by omega)
    rw [it_s, bfX6_cancels_11]
    unfold bfX6_cancels_41
    have hc : ((558 : Int32) + nI j).toNatClampNeg = 558 + j := by rw [nB_558]; exact nI_clamp (by omega)
    have ho : okI ((558 : Int32) + nI j) 5130 ↔ True := by rw [nB_558]; exact okT (by omega) (by decide)
    rw [pk_m1, if_neg (nI_pos (by omega))]
    simp only [hc, ho, if_true]
    rw [if_neg (fun z => x2 ((nI_eq (by omega) (by omega)).mp (x3.symm.trans z)))]
    exact ih j m (by omega) (by omega) (by omega)
theorem cancels_open {M : MS} {a n : Nat} (h : M.1 557 = nI n) : fX6_cancels (nI a) M = iter (bfX6_cancels_11 (nI a)) FU (nI n + (-1 : Int32), M) := by
  unfold fX6_cancels
  rw [nm, cl_557, h, Int32.sub_eq_add_neg]
