/-! runs, in both -/
theorem rng (a : Int32) (lo hi : Nat) (h1 : lo ≤ hi) (h2 : hi < 2 ^ 30) : a < nI lo ∨ (¬ a < nI lo ∧ nI hi < a) ∨ ∃ k, lo ≤ k ∧ k ≤ hi ∧ a = nI k := by
  by_cases c1 : a < nI lo
  · exact Or.inl c1
  · refine Or.inr ?_
    rcases pk_ix a (n := hi + 1) (by omega) with z | z | ⟨j, j1, j2⟩
    · exact absurd (Int32.lt_of_lt_of_le z (nI_pos' (by omega))) c1
    · exact Or.inl ⟨c1, Int32.lt_of_lt_of_le (nI_lt (Nat.lt_succ_self hi) (by omega)) z⟩
    · refine Or.inr ⟨j, ?_, by omega, j2⟩
      by_cases c : lo ≤ j
      · exact c
      · exact absurd (by rw [j2]; exact nI_lt (by omega) (by omega)) c1
theorem in_lo {a : Int32} {lo hi : Nat} (h : a < nI lo) : fX6_in a (nI lo) (nI hi) = some 0 := by rw [in_eq, if_pos h]
theorem in_hi {a : Int32} {lo hi : Nat} (h1 : ¬ a < nI lo) (h : nI hi < a) : fX6_in a (nI lo) (nI hi) = some 0 := by rw [in_eq, if_neg h1, if_pos h]
theorem in_ok {k lo hi : Nat} (h1 : lo ≤ k) (h2 : k ≤ hi) (h3 : hi < 2 ^ 30) : fX6_in (nI k) (nI lo) (nI hi) = some 1 := by rw [in_eq, if_neg (nI_nlt h1 (by omega)), if_neg (nI_nlt h2 (by omega))]
theorem rs_s {X : RS} {i : Nat} {S : StS} : (rset X i S).2.1 i = S := va_up_self X.2.1 i S
theorem rs_n {X : RS} {i j : Nat} {S : StS} (h : j ≠ i) : (rset X i S).2.1 j = X.2.1 j := va_up_ne X.2.1 S h
section RU
variable {g0 : Nat} {cl sg : N2} {sv sw : N1}
theorem runs_rel {n : Nat} (hn : n ≤ 60) : ∀ (k j : Nat) {t K : Nat} {S : StS} {M : MS}, j + k = n → t + k < 2 ^ 28 → K + 300 * k < 2 ^ 27 → RZ g0 t K cl sg sv sw S M.1 → ∃ S' M' s, (∀ (m : Nat) (b0 : Int32) (X : RS), k < m → X.2.1 0 = S → ∃ X', iter (bfX5_run_28 (nI n)) m (b0, nI j, X) = some (ssum 1 S' 2 - b0, X') ∧ X'.2.1 0 = S' ∧ (∀ i, i ≠ 0 → X'.2.1 i = X.2.1 i) ∧ X'.2.2 = X.2.2) ∧ (∀ (m : Nat) (d : Int32) (X : RS), k < m → X.2.1 1 = S → ∃ X', iter (bfX5_goodWorkWith_21 (nI n) d) m (nI j, X) = some (S'.2 15 - (X.2.1 0).2 15, X') ∧ (∀ i, i ≠ 1 → X'.2.1 i = X.2.1 i) ∧ X'.2.2 = X.2.2) ∧ (∀ (m : Nat) (x : Int32), k < m → iter (bfX6_runs_4 (nI n)) m (x, nI j, M) = some (x + s, M')) ∧ RZ g0 (t + k) (K + 300 * k) cl sg sv sw S' M'.1 ∧ M'.2.2 1 = M.2.2 1 ∧ (∀ x, 855 ≤ x → M'.1 x = M.1 x) ∧ ssum 1 S' 2 = ssum 1 S 2 + s := by
  intro k
  induction k with
  | zero =>
    intro j t K S M hj ht hK h
    refine ⟨S, M, 0, fun m b0 X hm hX => ⟨X, ?_, hX, fun _ _ => rfl, rfl⟩, fun m d X hm hX => ⟨X, ?_, fun _ _ => rfl, rfl⟩, fun m x hm => ?_, h, rfl, fun _ _ => rfl, (Int32.add_zero _).symm⟩
    · obtain ⟨m, rfl⟩ : ∃ k, m = k + 1 := ⟨m - 1, by omega⟩
      rw [it_s, bfX5_run_28, if_pos (nI_le (by omega) (by omega)), show fX2_total (2 : Int32) (X.2.1 0) = some (ssum 1 (X.2.1 0) 2) from rfl, ob_eq, hX]
    · obtain ⟨m, rfl⟩ : ∃ k, m = k + 1 := ⟨m - 1, by omega⟩
      rw [it_s, bfX5_goodWorkWith_21, if_pos (nI_le (by omega) (by omega)), hX]
    · obtain ⟨m, rfl⟩ : ∃ k, m = k + 1 := ⟨m - 1, by omega⟩
      rw [it_s, bfX6_runs_4, if_pos (nI_le (by omega) (by omega)), Int32.add_zero]
  | succ k ih =>
    intro j t K S M hj ht hK h
    obtain ⟨S1, M1, x1, y1, r1, e1, e2, e3, -⟩ := tick_rel h (by omega) (by omega)
    obtain ⟨S', M', s, q1, q2, q3, q4, q5, q6, q7⟩ := ih (j + 1) (by omega) (by omega) (by omega) r1
    refine ⟨S', M', M1.2.2 6 + s, fun m b0 X hm hX => ?_, fun m d X hm hX => ?_, fun m x hm => ?_, ?_, q5.trans e1, fun x hx => (q6 x hx).trans (e2 x hx), ?_⟩
    · obtain ⟨m, rfl⟩ : ∃ k, m = k + 1 := ⟨m - 1, by omega⟩
      obtain ⟨X', z1, z2, z3, z4⟩ := q1 m b0 (rset X 0 S1) (by omega) rs_s
      refine ⟨X', ?_, z2, fun i hi => (z3 i hi).trans (rs_n hi), z4⟩
      rw [it_s, bfX5_run_28, if_neg (nI_ge (by omega) (by omega)), hX, x1, ob_eq, nm, nA_1]
      exact z1
    · obtain ⟨m, rfl⟩ : ∃ k, m = k + 1 := ⟨m - 1, by omega⟩
      obtain ⟨X', z1, z3, z4⟩ := q2 m d (rset X 1 S1) (by omega) rs_s
      refine ⟨X', ?_, fun i hi => (z3 i hi).trans (rs_n hi), z4⟩
      rw [it_s, bfX5_goodWorkWith_21, if_neg (nI_ge (by omega) (by omega)), hX, x1, ob_eq, nm, nA_1]
      refine z1.trans ?_
      rw [show (rset X 1 S1).2.1 0 = X.2.1 0 from rs_n (by omega)]
    · obtain ⟨m, rfl⟩ : ∃ k, m = k + 1 := ⟨m - 1, by omega⟩
      rw [it_s, bfX6_runs_4, if_neg (nI_ge (by omega) (by omega)), y1, ob_eq, nm, nA_1, q3 m _ (by omega), Int32.add_assoc]
    · rw [show t + (k + 1) = t + 1 + k by omega, show K + 300 * (k + 1) = K + 300 + 300 * k by omega]
      exact q4
    · rw [q7, e3, Int32.add_assoc]
end RU
theorem run_rel : St_run Rel := by
  intro n X M hn h a
  rcases rng a 1 60 (by omega) (by omega) with c | ⟨c0, c⟩ | ⟨k, k1, k2, rfl⟩
  · refine ⟨(-1, X), (-1, M), ?_, ?_, rfl, h.mono⟩
    · unfold fX5_run bfX5_run_11
      rw [if_pos (show a < (1 : Int32) from c)]
    · unfold fX6_run
      rw [show fX6_in a (1 : Int32) (60 : Int32) = some 0 from in_lo c, ob_eq, if_pos rfl]
  · refine ⟨(-1, X), (-1, M), ?_, ?_, rfl, h.mono⟩
    · unfold fX5_run bfX5_run_11
      rw [if_neg (show ¬ a < (1 : Int32) from c0), if_neg (show ¬ a ≤ (60 : Int32) from fun z => Int32.not_lt.mpr z c)]
    · unfold fX6_run
      rw [show fX6_in a (1 : Int32) (60 : Int32) = some 0 from in_hi c0 c, ob_eq, if_pos rfl]
  · obtain ⟨X1, M1, x1, y1, h1, e1, e2⟩ := keep_rel h
    obtain ⟨m, m1, m2, m3, ⟨t, K, cl, sg, sv, sw, t1, t2, hz⟩, m5⟩ := h1
    obtain ⟨S', M', s, q1, q2, q3, q4, q5, q6, q7⟩ := runs_rel k2 k 0 (by omega) (by omega) (by omega) hz
    obtain ⟨X', z1, z2, z3, z4⟩ := q1 FU (ssum 1 (X1.2.1 0) 2) X1 (by unfold FU; omega) rfl
    refine ⟨(ssum 1 S' 2 - ssum 1 (X1.2.1 0) 2, X'), (0 + s, M'), ?_, ?_, ?_, ?_⟩
    · unfold fX5_run
      rw [if_neg (show ¬ nI k < (1 : Int32) from nI_nlt (b := 1) k1 (by omega)), if_pos (show nI k ≤ (60 : Int32) from nI_le (b := 60) k2 (by omega)), x1, ob_eq, show fX2_total (2 : Int32) (X1.2.1 0) = some (ssum 1 (X1.2.1 0) 2) from rfl, ob_eq]
      exact z1
    · unfold fX6_run
      rw [show fX6_in (nI k) (1 : Int32) (60 : Int32) = some 1 from in_ok (lo := 1) (hi := 60) k1 k2 (by omega), ob_eq, if_neg (by decide), y1, ob_eq, show fX6_runs (nI k) M1 = some (0 + s, M') from q3 FU 0 (by unfold FU; omega), ob_eq]
    · show ssum 1 S' 2 - ssum 1 (X1.2.1 0) 2 = 0 + s
      rw [Int32.zero_add]
      exact i32_sub q7
    · refine Rel.put (n := n) (X1 := X1) (M1 := M1) ⟨m, m1, m2, m3, ⟨t, K, cl, sg, sv, sw, t1, t2, hz⟩, m5⟩ (by omega) z4 (fun i hi => z3 i (by omega)) q5 (fun x hx _ => q6 x hx) ?_
      show Cur (n + 1) (X'.2.1 0) M'.1
      rw [z2]
      exact ⟨t + k, K + 300 * k, cl, sg, sv, sw, by omega, by omega, q4⟩
