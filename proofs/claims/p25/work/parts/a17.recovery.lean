/-! recovery, amplification, in both -/
section RC
variable {g0 t K : Nat} {cl sg : N2} {sv sw : N1} {S : StS} {M : MS}
theorem RZ.sur (h : RZ g0 t K cl sg sv sw S M.1) {c j : Nat} (hc : c < 6) (hj : j < 3) : sget 2 S (nI c) (nI j) = nI (sg c j) ∧ M.1 (72 + 3 * c + j) = nI (sg c j) ∧ sg c 0 ≤ 4 ∧ sg c 2 ≤ t + 200 := by
  obtain ⟨nr, r, N, nq, nb, qs, ws, fb, gb, at_, ow, ⟨hC, hS, hV, hW, hH⟩, hT, hD, hR, hY, hL⟩ := h
  obtain ⟨b0, b1, b2, b3, b4⟩ := hS.2 c hc
  exact ⟨sg2 hS hc hj, (b0 j hj).2, b1, b3⟩
theorem rec_go {X : RS} (h : RZ g0 t K cl sg sv sw (X.2.1 0) M.1) (ht : t < 2 ^ 28) {c : Nat} (hc : c < 6) (l : Int32) (hf : sg c 0 ≠ 0) : ∀ (k x m m' : Nat), x + k = t → k < m → k < m' → ∃ q, iter (bfX6_recovery_48 (nI c) l M) m (nI (sg c 2), nI x) = some q ∧ iter (bfX5_recovery_74 (nI c) l X) m' (nI (sg c 2), nI (max (sg c 2) x)) = some q := by
  obtain ⟨-, f1, f2, f3⟩ := h.sur hc (j := 0) (by omega)
  intro k
  induction k with
  | zero =>
    intro x m m' hx hm hm'
    obtain ⟨m, rfl⟩ : ∃ k, m = k + 1 := ⟨m - 1, by omega⟩
    obtain ⟨m', rfl⟩ : ∃ k, m' = k + 1 := ⟨m' - 1, by omega⟩
    refine ⟨-9, ?_, ?_⟩
    · rw [it_s, bfX6_recovery_48, cl_182, h.clk.2, if_pos (nI_le (by omega) (by omega))]
      rfl
    · rw [it_s, bfX5_recovery_74, h.clk.1, if_pos (nI_le (by omega) (by omega))]
  | succ k ih =>
    intro x m m' hx hm hm'
    obtain ⟨m, rfl⟩ : ∃ k, m = k + 1 := ⟨m - 1, by omega⟩
    have hc0 : ((72 : Int32) + ((3 : Int32) * nI c)).toNatClampNeg = 72 + 3 * c := by rw [nM_3, nB_72]; exact nI_clamp (by omega)
    have ho : okI ((72 : Int32) + ((3 : Int32) * nI c)) 5130 ↔ True := by rw [nM_3, nB_72]; exact okT (by omega) (by decide)
    have e0 : M.1 (72 + 3 * c) = nI (sg c 0) := f1
    have nz : ¬ nI (sg c 0) ≤ 0 := fun z => by have := (eln_0 (by omega)).mp z; omega
    have eM : iter (bfX6_recovery_48 (nI c) l M) (m + 1) (nI (sg c 2), nI x) = if nI x < nI (sg c 2) then iter (bfX6_recovery_48 (nI c) l M) m (nI (sg c 2), nI (x + 1)) else (if l < hv M.1 0 x then iter (bfX6_recovery_48 (nI c) l M) m (nI (sg c 2), nI (x + 1)) else some (nI x - nI (sg c 2))) := by
      rw [it_s, bfX6_recovery_48, cl_182, h.clk.2, if_neg (nI_ge (by omega) (by omega))]
      unfold bfX6_recovery_97
      simp only [hc0, ho, if_true, e0]
      rw [if_neg nz, show fX6_past (nI x) (0 : Int32) M = _ from past_M (j := 0) (by omega) (by omega), ob_eq, nA_1]
    rw [eM]
    by_cases c1 : x < sg c 2
    · obtain ⟨q, q1, q2⟩ := ih (x + 1) m m' (by omega) (by omega) (by omega)
      refine ⟨q, (if_pos (nI_lt c1 (by omega))).trans q1, ?_⟩
      rw [show max (sg c 2) x = max (sg c 2) (x + 1) by omega]
      exact q2
    · obtain ⟨m', rfl⟩ : ∃ k, m' = k + 1 := ⟨m' - 1, by omega⟩
      obtain ⟨q, q1, q2⟩ := ih (x + 1) m m' (by omega) (by omega) (by omega)
      rw [show max (sg c 2) (x + 1) = x + 1 by omega] at q2
      have eX : iter (bfX5_recovery_74 (nI c) l X) (m' + 1) (nI (sg c 2), nI (max (sg c 2) x)) = if l < hv M.1 0 x then iter (bfX5_recovery_74 (nI c) l X) m' (nI (sg c 2), nI (x + 1)) else some (nI x - nI (sg c 2)) := by
        rw [show max (sg c 2) x = x by omega, it_s, bfX5_recovery_74, h.clk.1, if_neg (nI_ge (by omega) (by omega)), show fX2_ofTick (nI x) (0 : Int32) (X.2.1 0) = _ from ofTick_X h (j := 0) (by omega) (by omega), ob_eq, nA_1]
      rw [eX, if_neg (nI_nlt (by omega) (by omega))]
      by_cases c2 : l < hv M.1 0 x
      · exact ⟨q, (if_pos c2).trans q1, (if_pos c2).trans q2⟩
      · exact ⟨_, if_neg c2, if_neg c2⟩
end RC
theorem recovery_rel : St_recovery Rel := by
  intro n X M hn h a b
  obtain ⟨t, K, cl, sg, sv, sw, t1, t2, hz⟩ := h.cur
  have ht : t < 2 ^ 28 := by omega
  rcases cli a with ⟨e1, e2⟩ | ⟨c, hc, rfl, e1, e2⟩
  · refine ⟨-1, ?_, ?_⟩
    · unfold fX5_recovery bfX5_recovery_17
      rw [e1, ob_eq, if_pos rfl]
    · unfold fX6_recovery bfX6_recovery_17
      rw [e2, ob_eq, if_pos rfl]
  rcases rng b 0 16 (by omega) (by omega) with d | ⟨d0, d⟩ | ⟨j, j1, j2, rfl⟩
  · refine ⟨-1, ?_, ?_⟩
    · unfold fX5_recovery bfX5_recovery_17
      rw [e1, ob_eq, if_neg (by decide), if_pos (show b < 0 from d)]
    · unfold fX6_recovery bfX6_recovery_17
      rw [e2, ob_eq, if_neg (by decide), show fX6_in b (0 : Int32) (16 : Int32) = some 0 from in_lo d, ob_eq, if_pos rfl]
  · refine ⟨-1, ?_, ?_⟩
    · unfold fX5_recovery bfX5_recovery_17
      rw [e1, ob_eq, if_neg (by decide), if_neg (show ¬ b < 0 from d0), if_neg (show ¬ b ≤ (16 : Int32) from fun z => Int32.not_lt.mpr z d)]
    · unfold fX6_recovery bfX6_recovery_17
      rw [e2, ob_eq, if_neg (by decide), show fX6_in b (0 : Int32) (16 : Int32) = some 0 from in_hi d0 d, ob_eq, if_pos rfl]
  obtain ⟨s0, p0, f2, f3⟩ := hz.sur hc (j := 0) (by omega)
  obtain ⟨s2, p2, -, -⟩ := hz.sur hc (j := 2) (by omega)
  have b3 : fX6_in (nI j) (0 : Int32) (16 : Int32) = some 1 := in_ok (lo := 0) (hi := 16) j1 j2 (by omega)
  have eM : fX6_recovery (nI c) (nI j) M = iter (bfX6_recovery_48 (nI c) (nI j) M) FU (nI (sg c 2), nI (t - 64)) := by
    unfold fX6_recovery
    rw [e2, ob_eq, if_neg (by decide), b3, ob_eq, if_neg (by decide), nM_3, nB_72, nA_2, if_pos (okI_nI (by omega) (by decide)), nm, nI_clamp (by omega), p2, known_M hz ht, ob_eq, cl_182, hz.clk.2, pk_sub (by omega), nm, show t - min t 64 = t - 64 by omega]
  have eX : fX5_recovery (nI c) (nI j) X = if nI (sg c 0) = 0 then some (-9) else iter (bfX5_recovery_74 (nI c) (nI j) X) FU (nI (sg c 2), nI (max (sg c 2) (t - 64))) := by
    have em : (if nI (sg c 2) < nI (t - 64) then nI (t - 64) else nI (sg c 2)) = nI (max (sg c 2) (t - 64)) := by
      by_cases q : sg c 2 < t - 64
      · rw [if_pos (nI_lt q (by omega)), Nat.max_eq_right (by omega)]
      · rw [if_neg (nI_nlt (by omega) (by omega)), Nat.max_eq_left (by omega)]
    unfold fX5_recovery
    rw [e1, ob_eq, if_neg (by decide), if_neg (nI_pos (by omega)), if_pos (show nI j ≤ (16 : Int32) from nI_le (b := 16) j2 (by omega)), show sget 2 (X.2.1 0) (nI c) (0 : Int32) = nI (sg c 0) from s0, show sget 2 (X.2.1 0) (nI c) (2 : Int32) = nI (sg c 2) from s2, nm, hz.clk.1, show (64 : Int32) = nI 64 from rfl, max0 (by omega) (by omega), nm, em, nm]
  by_cases c0 : sg c 0 = 0
  · refine ⟨-9, ?_, ?_⟩
    · rw [eX, if_pos ((eqn_0 (by omega)).mpr c0)]
    · have hc0 : ((72 : Int32) + ((3 : Int32) * nI c)).toNatClampNeg = 72 + 3 * c := by rw [nM_3, nB_72]; exact nI_clamp (by omega)
      have ho : okI ((72 : Int32) + ((3 : Int32) * nI c)) 5130 ↔ True := by rw [nM_3, nB_72]; exact okT (by omega) (by decide)
      have e0 : M.1 (72 + 3 * c) = nI (sg c 0) := p0
      rw [eM, show FU = 999 + 1 from rfl, it_s, bfX6_recovery_48, cl_182, hz.clk.2]
      unfold bfX6_recovery_103
      by_cases q : nI t ≤ nI (t - 64)
      · rw [if_pos q]
      · rw [if_neg q]
        simp only [hc0, ho, if_true, e0]
        rw [if_pos ((eln_0 (by omega)).mpr (by omega))]
  · obtain ⟨q, q1, q2⟩ := rec_go hz ht hc (nI j) c0 (min t 64) (t - 64) FU FU (by omega) (by unfold FU; omega) (by unfold FU; omega)
    exact ⟨q, by rw [eX, if_neg (fun z => c0 ((eqn_0 (by omega)).mp z))]; exact q2, eM.trans q1⟩
theorem sumF6 {f : Nat → Int32} {x : Nat → Nat} (h : ∀ i, i < 6 → f i = nI (x i)) : sumF f 6 = nI (sN x 6) := by
  rw [sumF_cg 6 h, sumF_nI]
theorem amp_go {M : MS} {x y : Nat → Nat} (hx : ∀ i, i < 6 → x i < 2 ^ 27 ∧ M.1 (90 + 8 * i + 0) = nI (x i)) (hy : ∀ i, i < 6 → y i < 2 ^ 27 ∧ M.1 (90 + 8 * i + 1) = nI (y i)) : ∀ (k i m : Nat), i + k = 6 → k < m → iter (bfX6_amplification_7 M) m (lN (sN y i), lN (sN x i), nI i) = bfX6_amplification_7 M (fun _ => none) (lN (sN y 6), lN (sN x 6), nI 6) := by
  intro k
  induction k with
  | zero =>
    intro i m hi hm
    obtain ⟨m, rfl⟩ : ∃ k, m = k + 1 := ⟨m - 1, by omega⟩
    obtain rfl : i = 6 := by omega
    rw [it_s, bfX6_amplification_7, bfX6_amplification_7, if_pos (show (6 : Int32) ≤ nI 6 by decide), if_pos (show (6 : Int32) ≤ nI 6 by decide)]
  | succ k ih =>
    intro i m hi hm
    obtain ⟨m, rfl⟩ : ∃ k, m = k + 1 := ⟨m - 1, by omega⟩
    obtain ⟨x1, x2⟩ := hx i (by omega)
    obtain ⟨y1, y2⟩ := hy i (by omega)
    rw [it_s, bfX6_amplification_7, if_neg (fun z => by have := (len_6 (by omega)).mp z; omega), nM_8, nB_90, nA_1, nA_0, if_pos (okI_nI (by omega) (by decide)), nm, if_pos (okI_nI (by omega) (by decide)), nm, nI_clamp (by omega), nI_clamp (by omega), y2, nI_l (by omega), lN_add, x2, nI_l (by omega), lN_add, nA_1]
    exact ih (i + 1) m (by omega) (by omega)
theorem sN_le {f : Nat → Nat} {b : Nat} : ∀ n, (∀ i, i < n → f i ≤ b) → sN f n ≤ n * b
  | 0, _ => Nat.zero_le _
  | n + 1, h => by
    show sN f n + f n ≤ (n + 1) * b
    have h1 := sN_le n (fun i hi => h i (by omega))
    have h2 := h n (by omega)
    rw [Nat.succ_mul]
    omega
theorem amplification_rel : St_amplification Rel := by
  intro n X M hn h
  obtain ⟨t, K, cl, sg, sv, sw, t1, t2, hz⟩ := h.cur
  have hK : K < 2 ^ 24 := by omega
  obtain ⟨nr, r, N, nq, nb, qs, ws, fb, gb, at_, ow, hX, hT, hD, hR, hY, hL⟩ := hz
  have hex : ∀ i, ∃ x y, i < 6 → ((X.2.1 0).1 1).2 i 0 = nI x ∧ ((X.2.1 0).1 1).2 i 1 = nI y ∧ x ≤ K ∧ y ≤ K := fun i => by
    by_cases hi : i < 6
    · obtain ⟨x, y, h1⟩ := (hT.2 i hi).2.2
      exact ⟨x, y, fun _ => h1⟩
    · exact ⟨0, 0, fun z => absurd z hi⟩
  have hx : ∃ x : Nat → Nat, ∀ i, ∃ y, i < 6 → ((X.2.1 0).1 1).2 i 0 = nI (x i) ∧ ((X.2.1 0).1 1).2 i 1 = nI y ∧ x i ≤ K ∧ y ≤ K := ⟨fun i => Classical.choose (hex i), fun i => Classical.choose_spec (hex i)⟩
  obtain ⟨x, hx⟩ := hx
  have hy : ∃ y : Nat → Nat, ∀ i, i < 6 → ((X.2.1 0).1 1).2 i 0 = nI (x i) ∧ ((X.2.1 0).1 1).2 i 1 = nI (y i) ∧ x i ≤ K ∧ y i ≤ K := ⟨fun i => Classical.choose (hx i), fun i => Classical.choose_spec (hx i)⟩
  obtain ⟨y, hy⟩ := hy
  have s0 : ssum 1 (X.2.1 0) (0 : Int32) = nI (sN x 6) := (ssum_eq (c := 0) hT.1 (by omega)).trans (sumF6 (fun i hi => (hy i hi).1))
  have s1 : ssum 1 (X.2.1 0) (1 : Int32) = nI (sN y 6) := (ssum_eq (c := 1) hT.1 (by omega)).trans (sumF6 (fun i hi => (hy i hi).2.1))
  have l0 := sN_le (f := x) (b := K) 6 (fun i hi => (hy i hi).2.2.1)
  have l1 := sN_le (f := y) (b := K) 6 (fun i hi => (hy i hi).2.2.2)
  have eM : fX6_amplification M = bfX6_amplification_7 M (fun _ => none) (lN (sN y 6), lN (sN x 6), nI 6) := amp_go (fun i hi => ⟨by have := (hy i hi).2.2.1; omega, ((hT.2 i hi).1 0 (by omega)).symm.trans (hy i hi).1⟩) (fun i hi => ⟨by have := (hy i hi).2.2.2; omega, ((hT.2 i hi).1 1 (by omega)).symm.trans (hy i hi).2.1⟩) 6 0 FU (by omega) (by unfold FU; omega)
  have eX : fX5_amplification X = if nI (sN x 6) ≤ 0 then some 0 else (if lN (sN x 6) = 0 then none else some ((((100 : Int64) * lN (sN y 6)) / lN (sN x 6)).toInt32)) := by
    unfold fX5_amplification bfX5_amplification_34
    rw [show fX2_total (0 : Int32) (X.2.1 0) = some (ssum 1 (X.2.1 0) 0) from rfl, s0, ob_eq, show fX2_total (1 : Int32) (X.2.1 0) = some (ssum 1 (X.2.1 0) 1) from rfl, s1, ob_eq, nI_l (by omega), nI_l (by omega)]
  rw [eX, eM, bfX6_amplification_7, if_pos (show (6 : Int32) ≤ nI 6 by decide)]
  unfold bfX6_amplification_76
  by_cases c : sN x 6 = 0
  · rw [if_pos ((eln_0 (by omega)).mpr (by omega)), if_pos ((lg_cmp_eq _ _).mpr (by rw [c]; rfl))]
    exact ⟨_, rfl, rfl⟩
  · have hne : ¬ lN (sN x 6) = 0 := fun z => c ((lN_eq (b := 0) (by omega) (by omega)).mp z)
    rw [if_neg (fun z => by have := (eln_0 (by omega)).mp z; omega), if_neg hne, if_neg (fun z => hne ((lg_cmp_eq _ _).mp z))]
    exact ⟨_, rfl, rfl⟩
