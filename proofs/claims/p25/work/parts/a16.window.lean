/-! window, quiet, in both -/
def hv (p : Pg) (j x : Nat) : Int32 := p (599 + 4 * (x % 64) + j)
theorem sumF_head {f : Nat → Int32} : ∀ n, sumF f (n + 1) = f 0 + sumF (fun i => f (i + 1)) n
  | 0 => by
    show 0 + f 0 = f 0 + 0
    rw [Int32.zero_add, Int32.add_zero]
  | n + 1 => by
    show sumF f (n + 1) + f (n + 1) = f 0 + (sumF (fun i => f (i + 1)) n + f (n + 1))
    rw [sumF_head n, Int32.add_assoc]
theorem sumF_rev : ∀ (n : Nat) (f : Nat → Int32), sumF f n = sumF (fun i => f (n - 1 - i)) n
  | 0, _ => rfl
  | n + 1, f => by
    rw [sumF_head n, sumF_rev n (fun i => f (i + 1))]
    show _ = sumF (fun i => f (n + 1 - 1 - i)) n + f (n + 1 - 1 - n)
    rw [show n + 1 - 1 - n = 0 by omega, Int32.add_comm]
    refine congrArg (· + f 0) (sumF_cg n (fun i hi => ?_))
    show f (n - 1 - i + 1) = f (n + 1 - 1 - i)
    rw [show n - 1 - i + 1 = n + 1 - 1 - i by omega]
section PA
variable {g0 t K : Nat} {cl sg : N2} {sv sw : N1} {S : StS} {M : MS}
theorem ofTick_X (h : RZ g0 t K cl sg sv sw S M.1) {x j : Nat} (hx : x < 2 ^ 29) (hj : j < 4) : fX2_ofTick (nI x) (nI j) S = some (hv M.1 j x) := by
  obtain ⟨nr, r, N, nq, nb, qs, ws, fb, gb, at_, ow, ⟨hC, hS, hV, hW, hH⟩, hT, hD, hR, hY, hL⟩ := h
  have hm : x % 64 < 64 := Nat.mod_lt _ (by decide)
  unfold fX2_ofTick
  rw [fm64 hx, ob_eq, show sget 10 S (nI (x % 64)) (nI j) = (S.1 10).2 (x % 64) j from tg (w := 4) (rows := 64) (by rw [hH.1]; exact hm) hm hj (by omega) (by omega), hH.2 _ _ hm hj]
  rfl
theorem past_M {x j : Nat} (hx : x < 2 ^ 29) (hj : j < 4) : fX6_past (nI x) (nI j) M = some (hv M.1 j x) := by
  have hm : x % 64 < 64 := Nat.mod_lt _ (by decide)
  have e : ((599 : Int32) + ((4 : Int32) * (nI x - nI x / (64 : Int32) * (64 : Int32)))) + nI j = nI (599 + 4 * (x % 64) + j) := by
    rw [show (64 : Int32) = nI 64 from rfl, rem_nI (by omega) (by omega) (by omega), nM_4, nB_599, nI_add]
  unfold fX6_past
  rw [e, if_pos (okI_nI (by omega) (by decide)), nI_clamp (by omega)]
  rfl
theorem RZ.clk (h : RZ g0 t K cl sg sv sw S M.1) : S.2 12 = nI t ∧ M.1 182 = nI t := by
  obtain ⟨nr, r, N, nq, nb, qs, ws, fb, gb, at_, ow, hX, hT, ⟨hd0, q1, q2, hD⟩, hR, hY, hL⟩ := h
  exact ⟨q1, q2⟩
theorem window_X {X : RS} (h : RZ g0 t K cl sg sv sw (X.2.1 0) M.1) (ht : t < 2 ^ 28) {j k : Nat} (hj : j < 4) (hk : k ≤ t) (hk64 : k ≤ 64) : ∀ (i b m : Nat), b + i = k → i < m → iter (bfX5_window_41 (nI j) (nI k) X) m (sumF (fun b => hv M.1 j (t - 1 - b)) b, nI (b + 1)) = some (sumF (fun b => hv M.1 j (t - 1 - b)) k) := by
  intro i
  induction i with
  | zero =>
    intro b m hb hm
    obtain ⟨m, rfl⟩ : ∃ k, m = k + 1 := ⟨m - 1, by omega⟩
    obtain rfl : b = k := by omega
    rw [it_s, bfX5_window_41, if_pos (nI_lt (by omega) (by omega))]
  | succ i ih =>
    intro b m hb hm
    obtain ⟨m, rfl⟩ : ∃ k, m = k + 1 := ⟨m - 1, by omega⟩
    rw [it_s, bfX5_window_41, if_neg (nI_nlt (by omega) (by omega)), h.clk.1, pk_sub (by omega), ofTick_X h (by omega) hj, ob_eq, nm, nA_1, show t - (b + 1) = t - 1 - b by omega]
    exact ih (b + 1) m (by omega) (by omega)
theorem window_M (h : RZ g0 t K cl sg sv sw S M.1) (ht : t < 2 ^ 28) {j k : Nat} (hj : j < 4) (hk : k ≤ t) (q : Int32) : ∀ (i b m : Nat), b + i = k → i < m → iter (bfX6_window_50 (nI j) q M) m (sumF (fun b => hv M.1 j (t - k + b)) b, nI (t - k + b)) = some (sumF (fun b => hv M.1 j (t - k + b)) k) := by
  intro i
  induction i with
  | zero =>
    intro b m hb hm
    obtain ⟨m, rfl⟩ : ∃ k, m = k + 1 := ⟨m - 1, by omega⟩
    obtain rfl : b = k := by omega
    rw [it_s, bfX6_window_50, cl_182, h.clk.2, if_pos (nI_le (by omega) (by omega))]
  | succ i ih =>
    intro b m hb hm
    obtain ⟨m, rfl⟩ : ∃ k, m = k + 1 := ⟨m - 1, by omega⟩
    rw [it_s, bfX6_window_50, cl_182, h.clk.2, if_neg (nI_ge (by omega) (by omega)), past_M (by omega) hj, ob_eq, nm, nA_1]
    exact ih (b + 1) m (by omega) (by omega)
theorem known_M (h : RZ g0 t K cl sg sv sw S M.1) (ht : t < 2 ^ 28) : fX6_known M = some (nI (min t 64)) := by
  unfold fX6_known
  rw [cl_182, h.clk.2, show (64 : Int32) = nI 64 from rfl, least_eq, least_nI (by omega) (by omega), ob_eq]
theorem quiet_go {X : RS} (h : RZ g0 t K cl sg sv sw (X.2.1 0) M.1) (ht : t < 2 ^ 28) (l : Int32) : ∀ (i j m m' : Nat), j + i = min t 64 → i < m → i < m' → ∃ q, iter (bfX5_quiet_27 l X) m (nI (min t 64), nI j) = some q ∧ iter (bfX6_quiet_14 l M) m' (nI j) = some q := by
  intro i
  induction i with
  | zero =>
    intro j m m' hj hm hm'
    obtain ⟨m, rfl⟩ : ∃ k, m = k + 1 := ⟨m - 1, by omega⟩
    obtain ⟨m', rfl⟩ : ∃ k, m' = k + 1 := ⟨m' - 1, by omega⟩
    refine ⟨nI j, ?_, ?_⟩
    · rw [it_s, bfX5_quiet_27, if_pos (nI_le (by omega) (by omega))]
      rfl
    · rw [it_s, bfX6_quiet_14, known_M h ht, ob_eq, if_pos (nI_le (by omega) (by omega))]
      rfl
  | succ i ih =>
    intro j m m' hj hm hm'
    obtain ⟨m, rfl⟩ : ∃ k, m = k + 1 := ⟨m - 1, by omega⟩
    obtain ⟨m', rfl⟩ : ∃ k, m' = k + 1 := ⟨m' - 1, by omega⟩
    have e1 : nI t - (1 : Int32) - nI j = nI (t - 1 - j) := by
      rw [show nI t - (1 : Int32) = nI (t - 1) from pk_sub (b := 1) (by omega), pk_sub (by omega)]
    obtain ⟨q, q1, q2⟩ := ih (j + 1) m m' (by omega) (by omega) (by omega)
    have eX : iter (bfX5_quiet_27 l X) (m + 1) (nI (min t 64), nI j) = if l < hv M.1 0 (t - 1 - j) then some (nI j) else iter (bfX5_quiet_27 l X) m (nI (min t 64), nI (j + 1)) := by
      rw [it_s, bfX5_quiet_27, if_neg (nI_ge (by omega) (by omega)), h.clk.1, e1, show fX2_ofTick (nI (t - 1 - j)) (0 : Int32) (X.2.1 0) = _ from ofTick_X h (j := 0) (by omega) (by omega), ob_eq, nA_1]
      rfl
    have eM : iter (bfX6_quiet_14 l M) (m' + 1) (nI j) = if l < hv M.1 0 (t - 1 - j) then some (nI j) else iter (bfX6_quiet_14 l M) m' (nI (j + 1)) := by
      rw [it_s, bfX6_quiet_14, known_M h ht, ob_eq, if_neg (nI_ge (by omega) (by omega)), cl_182, h.clk.2, e1, show fX6_past (nI (t - 1 - j)) (0 : Int32) M = _ from past_M (j := 0) (by omega) (by omega), ob_eq, nA_1]
      rfl
    rw [eX, eM]
    by_cases c : l < hv M.1 0 (t - 1 - j)
    · exact ⟨nI j, if_pos c, if_pos c⟩
    · exact ⟨q, (if_neg c).trans q1, (if_neg c).trans q2⟩
end PA
theorem window_rel : St_window Rel := by
  intro n X M hn h a b
  obtain ⟨t, K, cl, sg, sv, sw, t1, t2, hz⟩ := h.cur
  have ht : t < 2 ^ 28 := by omega
  rcases rng a 0 3 (by omega) (by omega) with d | ⟨d0, d⟩ | ⟨j, j1, j2, rfl⟩
  · refine ⟨-1, ?_, ?_⟩
    · unfold fX5_window bfX5_window_20
      rw [if_pos (show a < 0 from d)]
    · unfold fX6_window bfX6_window_19
      rw [show fX6_in a (0 : Int32) (3 : Int32) = some 0 from in_lo d, ob_eq, if_pos rfl]
  · refine ⟨-1, ?_, ?_⟩
    · unfold fX5_window bfX5_window_20
      rw [if_neg (show ¬ a < 0 from d0), if_pos (show (4 : Int32) ≤ a from gt_ge (hi := 3) (by omega) d)]
    · unfold fX6_window bfX6_window_19
      rw [show fX6_in a (0 : Int32) (3 : Int32) = some 0 from in_hi d0 d, ob_eq, if_pos rfl]
  have a1 : ¬ nI j < 0 := nI_pos (by omega)
  have a2 : ¬ (4 : Int32) ≤ nI j := nI_ge (b := 4) (by omega) (by omega)
  have a3 : fX6_in (nI j) (0 : Int32) (3 : Int32) = some 1 := in_ok (lo := 0) (hi := 3) j1 j2 (by omega)
  rcases rng b 1 64 (by omega) (by omega) with d | ⟨d0, d⟩ | ⟨k, k1, k2, rfl⟩
  · refine ⟨-1, ?_, ?_⟩
    · unfold fX5_window bfX5_window_20
      rw [if_neg a1, if_neg a2, if_pos (show b < (1 : Int32) from d)]
    · unfold fX6_window bfX6_window_19
      rw [a3, ob_eq, if_neg (by decide), show fX6_in b (1 : Int32) (64 : Int32) = some 0 from in_lo d, ob_eq, if_pos rfl]
  · refine ⟨-1, ?_, ?_⟩
    · unfold fX5_window bfX5_window_20
      rw [if_neg a1, if_neg a2, if_neg (show ¬ b < (1 : Int32) from d0), if_neg (show ¬ b ≤ (64 : Int32) from fun z => Int32.not_lt.mpr z d)]
    · unfold fX6_window bfX6_window_19
      rw [a3, ob_eq, if_neg (by decide), show fX6_in b (1 : Int32) (64 : Int32) = some 0 from in_hi d0 d, ob_eq, if_pos rfl]
  have b1 : ¬ nI k < (1 : Int32) := nI_nlt (b := 1) k1 (by omega)
  have b2 : nI k ≤ (64 : Int32) := nI_le (b := 64) k2 (by omega)
  have b3 : fX6_in (nI k) (1 : Int32) (64 : Int32) = some 1 := in_ok (lo := 1) (hi := 64) k1 k2 (by omega)
  by_cases c : k ≤ t
  · refine ⟨sumF (fun b => hv M.1 j (t - 1 - b)) k, ?_, ?_⟩
    · unfold fX5_window
      rw [if_neg a1, if_neg a2, if_neg b1, if_pos b2, hz.clk.1, if_pos (nI_le c (by omega))]
      exact window_X hz ht (by omega) c k2 k 0 FU (by omega) (by unfold FU; omega)
    · have e : sumF (fun b => hv M.1 j (t - k + b)) k = sumF (fun b => hv M.1 j (t - 1 - b)) k := by
        rw [sumF_rev k (fun b => hv M.1 j (t - 1 - b))]
        refine sumF_cg k (fun i hi => ?_)
        show hv M.1 j (t - k + i) = hv M.1 j (t - 1 - (k - 1 - i))
        rw [show t - 1 - (k - 1 - i) = t - k + i by omega]
      unfold fX6_window
      rw [a3, ob_eq, if_neg (by decide), b3, ob_eq, if_neg (by decide), cl_182, hz.clk.2, if_pos (nI_le c (by omega)), pk_sub c, nm, ← e]
      exact window_M hz ht (by omega) c (nI k) k 0 FU (by omega) (by unfold FU; omega)
  · refine ⟨-2, ?_, ?_⟩
    · unfold fX5_window
      rw [if_neg a1, if_neg a2, if_neg b1, if_pos b2, hz.clk.1, if_neg (fun z => c ((nI_leI (by omega) (by omega)).mp z))]
    · unfold fX6_window
      rw [a3, ob_eq, if_neg (by decide), b3, ob_eq, if_neg (by decide), cl_182, hz.clk.2, if_neg (fun z => c ((nI_leI (by omega) (by omega)).mp z))]
theorem quiet_rel : St_quiet Rel := by
  intro n X M hn h a
  obtain ⟨t, K, cl, sg, sv, sw, t1, t2, hz⟩ := h.cur
  have ht : t < 2 ^ 28 := by omega
  rcases rng a 0 16 (by omega) (by omega) with d | ⟨d0, d⟩ | ⟨j, j1, j2, rfl⟩
  · refine ⟨-1, ?_, ?_⟩
    · unfold fX5_quiet bfX5_quiet_10
      rw [if_pos (show a < 0 from d)]
    · unfold fX6_quiet
      rw [show fX6_in a (0 : Int32) (16 : Int32) = some 0 from in_lo d, ob_eq, if_pos rfl]
  · refine ⟨-1, ?_, ?_⟩
    · unfold fX5_quiet bfX5_quiet_10
      rw [if_neg (show ¬ a < 0 from d0), if_neg (show ¬ a ≤ (16 : Int32) from fun z => Int32.not_lt.mpr z d)]
    · unfold fX6_quiet
      rw [show fX6_in a (0 : Int32) (16 : Int32) = some 0 from in_hi d0 d, ob_eq, if_pos rfl]
  · obtain ⟨q, q1, q2⟩ := quiet_go hz ht (nI j) (min t 64) 0 FU FU (by omega) (by unfold FU; omega) (by unfold FU; omega)
    refine ⟨q, ?_, ?_⟩
    · have em : (if nI t < (64 : Int32) then nI t else (64 : Int32)) = nI (min t 64) := by
        by_cases c : t < 64
        · rw [if_pos (show nI t < (64 : Int32) from nI_lt (b := 64) c (by omega)), Nat.min_eq_left (by omega)]
        · rw [if_neg (show ¬ nI t < (64 : Int32) from nI_nlt (b := 64) (by omega) (by omega)), Nat.min_eq_right (by omega)]
          rfl
      unfold fX5_quiet
      rw [if_neg (nI_pos (by omega)), if_pos (show nI j ≤ (16 : Int32) from nI_le (b := 16) j2 (by omega)), hz.clk.1, em, nm]
      exact q1
    · unfold fX6_quiet
      rw [show fX6_in (nI j) (0 : Int32) (16 : Int32) = some 1 from in_ok (lo := 0) (hi := 16) j1 j2 (by omega), ob_eq, if_neg (by decide)]
      exact q2
