/-! step 2: the waiting requests whose tick has come are sent, in both -/
section SWL
variable {F : Fx} {Zf Zb : Nat → Prop} {t lo : Nat} {cl sg : N2} {sv sw : N1} {ws fb gb : N1} {nb : Nat}
def gx (g : N1) : Nat → Int32
  | 0 => -9
  | j + 1 => nI (g j)
theorem gx_lt {g : N1} {n j : Nat} (hg : ∀ k k', k < k' → k' < n → g k < g k') (hj : j < n) (hb : ∀ k, k < n → g k < 2 ^ 30) : ¬ nI (g j) ≤ gx g j := by
  have hjb := hb j hj
  match j, hj with
  | 0, hj =>
    intro e
    have : nI (g 0) < 0 := by
      have e9 : gx g 0 < 0 := by show (-9 : Int32) < 0; decide
      exact Int32.lt_of_le_of_lt e e9
    exact nI_pos (by omega) this
  | j + 1, hj => exact nI_ge (hg j (j + 1) (by omega) hj) (by omega)
theorem sendW_loop {n : Nat} {g : N1} (hn : n ≤ 16) (hg : ∀ k k', k < k' → k' < n → g k < g k') (ht : t < 2 ^ 29) (hlo : lo ≤ t + 1) : ∀ (k j : Nat) {K nr : Nat} {r : N2} {N nq : Nat} {qs : N1} {at_ : N2} {ow : N1} {S : StS} {M : MS}, j + k = n → K + k < 2 ^ 29 → RG F (fun _ => False) Zf Zb t K lo t cl sg sv sw nr r N nq nb qs ws fb gb at_ ow S M → (∀ q, q < n → M.2.1 q = nI (g q)) → (∀ y, Due nr r 1 t y ↔ ∃ q, j ≤ q ∧ q < n ∧ g q = y) → ∀ m m', k < m → k < m' → ∃ S' M', iter bfX0_sendWaiting_5 m (gx g j, nI j, S) = some S' ∧ iter bfX6_ticks_79 m' (nI n, nI j, M) = iter bfX6_ticks_106 FU (nI 0, M') ∧ RE F Zf Zb t (K + k) lo (t + 1) cl sg sv sw S' M' ∧ Kp sv S S' := by
  intro k
  induction k with
  | zero =>
    intro j K nr r N nq qs at_ ow S M hj hK h hs hd m m' hm hm'
    obtain ⟨m, rfl⟩ : ∃ k, m = k + 1 := ⟨m - 1, by omega⟩
    obtain ⟨m', rfl⟩ : ∃ k, m' = k + 1 := ⟨m' - 1, by omega⟩
    obtain rfl : j = n := by omega
    have hno : ∀ y, ¬ Due nr r 1 t y := fun y z => by
      obtain ⟨q, q1, q2, -⟩ := (hd y).mp z
      omega
    have hw : ∀ i, i < nr → r i 4 = 1 → t ≤ r i 5 := fun i hi e => ((h.2.2.2.1.2.2.2.2.2 i hi).2.2.2.2.2.2.2.1 e).2.1
    refine ⟨S, M, ?_, ?_, ⟨_, _, _, _, _, _, _, _, _, _, _, h.wl_up (fun i hi e => ?_)⟩, Kp.rf sv S⟩
    · show bfX0_sendWaiting_5 _ _ = _
      rw [bfX0_sendWaiting_5]
      by_cases e : (16 : Int32) ≤ nI j
      · rw [if_pos e]
      · rw [if_neg e, show fX2_nextDue (gx g j) (1 : Int32) S = some (-9) from next_none h ht (w := 1) (by omega) _ hw hno, ob_eq, if_pos rfl]
    · show bfX6_ticks_79 _ _ = _
      rw [bfX6_ticks_79, if_pos (nI_le (Nat.le_refl _) (by omega))]
      rfl
    · have h1 := hw i hi e
      have h2 : r i 5 ≠ t := fun z => hno _ ⟨i, hi, rfl, e, z⟩
      omega
  | succ k ih =>
    intro j K nr r N nq qs at_ ow S M hj hK h hs hd m m' hm hm'
    obtain ⟨m, rfl⟩ : ∃ k, m = k + 1 := ⟨m - 1, by omega⟩
    obtain ⟨m', rfl⟩ : ∃ k, m' = k + 1 := ⟨m' - 1, by omega⟩
    have hNK : N ≤ K := h.2.2.1.2.2.2.2.2.2.1
    have hb : ∀ q, j ≤ q → q < n → g q < 2 ^ 30 := fun q q1 q2 => by
      obtain ⟨i, i1, i2, -⟩ := (hd (g q)).mpr ⟨q, q1, q2, rfl⟩
      have := (h.2.2.2.1.2.2.2.2.2 i i1).1
      omega
    have hb2 : ∀ q, q < n → g q < 2 ^ 30 := fun q q2 => by
      by_cases c : j ≤ q
      · exact hb q c q2
      · have := hg q j (by omega) (by omega)
        have := hb j (Nat.le_refl _) (by omega)
        omega
    have hw : ∀ i, i < nr → r i 4 = 1 → t ≤ r i 5 := fun i hi e => ((h.2.2.2.1.2.2.2.2.2 i hi).2.2.2.2.2.2.2.1 e).2.1
    have hdj : Due nr r 1 t (g j) := (hd (g j)).mpr ⟨j, Nat.le_refl _, by omega, rfl⟩
    have e1 : fX2_nextDue (gx g j) (1 : Int32) S = some (nI (g j)) := next_some h ht (w := 1) (by omega) hw hdj (gx_lt hg (by omega) hb2) (fun z hz => by
      obtain ⟨q, q1, q2, q3⟩ := (hd z).mp hz
      by_cases c : q = j
      · rw [← q3, c]; exact Nat.le_refl _
      · have := hg j q (by omega) q2
        omega)
    obtain ⟨i, i1, i2, i3, i4⟩ := hdj
    have hplace := gR.place h.2.2.2.1 (by omega) i1
    obtain ⟨x, S1, S2, M2, nr', r', nq', qs', at', ow', z1, z2, z3, z4, z5, z6⟩ := send_rel h (by omega) ht (by omega) hlo i1 i3 i4
    rw [i2] at hplace z1
    have hd2 : ∀ y, Due nr' r' 1 t y ↔ ∃ q, j + 1 ≤ q ∧ q < n ∧ g q = y := by
      intro y
      refine (z5 y).trans ⟨?_, ?_⟩
      · rintro ⟨hy, hne⟩
        obtain ⟨q, q1, q2, q3⟩ := (hd y).mp hy
        have : q ≠ j := fun e => hne (by rw [← q3, e, i2])
        exact ⟨q, by omega, q2, q3⟩
      · rintro ⟨q, q1, q2, q3⟩
        refine ⟨(hd y).mpr ⟨q, by omega, q2, q3⟩, ?_⟩
        have := hg j q (by omega) q2
        omega
    have kst : Kp sv S S2 := sent_kp h (by omega) (by omega) i1 (by rw [i3]; rfl) (fun _ _ => rfl) (by rw [i2]; exact z1) z2
    obtain ⟨S', M', p1, p2, p3, p4⟩ := ih (j + 1) (K := K + 1) (by omega) (by omega) z4 (fun q hq => by rw [z6]; exact hs q hq) hd2 m m' (by omega) (by omega)
    refine ⟨S', M', ?_, ?_, by rw [show K + (k + 1) = K + 1 + k by omega]; exact p3, kst.tr p4⟩
    · show bfX0_sendWaiting_5 (iter _ m) _ = _
      rw [bfX0_sendWaiting_5, if_neg (fun z => by have := (len_16 (by omega)).mp z; omega), e1, ob_eq, if_neg (nI_neg (by have := hb2 j (by omega); omega) (by decide)), z1, ob_eq]
      dsimp only
      rw [z2, ob_eq, nA_1]
      exact p1
    · show bfX6_ticks_79 (iter _ m') _ = _
      rw [bfX6_ticks_79, if_neg (nI_ge (by omega) (by omega)), if_pos (okI_nI (by omega) (by decide)), nI_clamp (by omega), hs j (by omega), hplace, ob_eq, z3, ob_eq, nA_1]
      exact p2
/-- step 2, from its list on -/
theorem sendW (ht : t < 2 ^ 29) (hlo : lo ≤ t + 1) {K : Nat} (hK : K < 2 ^ 28) {S : StS} {M : MS} (h : RE F Zf Zb t K lo t cl sg sv sw S M) : ∃ S' M', fX0_sendWaiting S = some S' ∧ (ob (fX6_gathers (1 : Int32) M) fun u46 => iter (bfX6_ticks_79) FU (u46.1, (0 : Int32), u46.2)) = iter bfX6_ticks_106 FU (nI 0, M') ∧ RE F Zf Zb t (K + 16) lo (t + 1) cl sg sv sw S' M' ∧ Kp sv S S' := by
  obtain ⟨nr, r, N, nq, nb, qs, ws, fb, gb, at_, ow, h⟩ := h
  obtain ⟨n, g, s, q1, q2, q3, q4, q5⟩ := gathers_eq h ht (w := 1) (by omega)
  obtain ⟨S', M', p1, p2, p3, p4⟩ := sendW_loop q2 q4 ht hlo n 0 (by omega) (by omega) (h.sm s) q3 (fun y => (q5 y).trans ⟨fun ⟨k, k1, k2⟩ => ⟨k, by omega, k1, k2⟩, fun ⟨k, _, k1, k2⟩ => ⟨k, k1, k2⟩⟩) FU FU (by unfold FU; omega) (by unfold FU; omega)
  refine ⟨S', M', p1, ?_, p3.kle (by omega), p4⟩
  rw [show fX6_gathers (1 : Int32) M = _ from q1, ob_eq]
  exact p2
end SWL
