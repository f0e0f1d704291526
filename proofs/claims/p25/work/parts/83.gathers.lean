/-! the requests that are due: the reference's list, and the class's way through them -/
def GL (r : N2) (w t i n : Nat) (g : N1) : Prop := n ≤ i ∧ (∀ k, k < n → ∃ j, j < i ∧ r j 0 = g k ∧ r j 4 = w ∧ r j 5 = t) ∧ (∀ k k', k < k' → k' < n → g k < g k') ∧ ∀ j, j < i → r j 4 = w → r j 5 = t → ∃ k, k < n ∧ g k = r j 0
theorem GL.skip {r : N2} {w t i n : Nat} {g : N1} (h : GL r w t i n g) (hn : ¬ (r i 4 = w ∧ r i 5 = t)) : GL r w t (i + 1) n g := by
  obtain ⟨h1, h2, h3, h4⟩ := h
  refine ⟨by omega, fun k hk => ?_, h3, fun j hj e4 e5 => ?_⟩
  · obtain ⟨j, j1, j2⟩ := h2 k hk
    exact ⟨j, by omega, j2⟩
  · by_cases e : j = i
    · subst e
      exact absurd ⟨e4, e5⟩ hn
    · exact h4 j (by omega) e4 e5
theorem GL.take {r : N2} {w t i n : Nat} {g : N1} (hs : ∀ j, j < i → r j 0 < r i 0) (h : GL r w t i n g) (e4 : r i 4 = w) (e5 : r i 5 = t) : GL r w t (i + 1) (n + 1) (fun k => if k = n then r i 0 else g k) := by
  obtain ⟨h1, h2, h3, h4⟩ := h
  refine ⟨by omega, fun k hk => ?_, fun k k' hk hk' => ?_, fun j hj f4 f5 => ?_⟩
  · by_cases e : k = n
    · exact ⟨i, by omega, (if_pos e).symm, e4, e5⟩
    · obtain ⟨j, j1, j2, j3⟩ := h2 k (by omega)
      exact ⟨j, by omega, j2.trans (if_neg e).symm, j3⟩
  · have e : k ≠ n := by omega
    show (if k = n then r i 0 else g k) < (if k' = n then r i 0 else g k')
    rw [if_neg e]
    by_cases e' : k' = n
    · rw [if_pos e']
      obtain ⟨j, j1, j2, j3⟩ := h2 k (by omega)
      rw [← j2]
      exact hs j j1
    · rw [if_neg e']
      exact h3 k k' hk (by omega)
  · by_cases e : j = i
    · subst e
      exact ⟨n, by omega, if_pos rfl⟩
    · obtain ⟨k, k1, k2⟩ := h4 j (by omega) f4 f5
      exact ⟨k, by omega, (if_neg (by omega)).trans k2⟩
section GT
variable {F : Fx} {E Zf Zb : Nat → Prop} {t K lo wl : Nat} {cl sg : N2} {sv sw : N1} {nr : Nat} {r : N2} {N nq nb : Nat} {qs ws fb gb : N1} {at_ : N2} {ow : N1} {S S' : StS} {M M' : MS}
theorem gathers_go (h : RG F E Zf Zb t K lo wl cl sg sv sw nr r N nq nb qs ws fb gb at_ ow S M) (ht : t < 2 ^ 29) {w : Nat} (hw : w ≤ 1) : ∀ (k i n : Nat) (g : N1) (s : Pg) (m : Nat), i + k = nr → GL r w t i n g → (∀ q, q < n → s q = nI (g q)) → k < m → ∃ n' g' s', iter (bfX6_gathers_4 (nI w)) m (nI n, nI i, (M.1, s, M.2.2)) = some (nI n', (M.1, s', M.2.2)) ∧ GL r w t nr n' g' ∧ ∀ q, q < n' → s' q = nI (g' q) := by
  have hR := h.2.2.2.1
  have i16 := hR.2.1
  have h188 : M.1 188 = nI nr := hR.2.2.1
  have e5 : M.2.2 5 = nI t := h.2.2.2.2.2.2.1
  intro k
  induction k with
  | zero =>
    intro i n g s m hi hg hs hm
    obtain ⟨m, rfl⟩ : ∃ k, m = k + 1 := ⟨m - 1, by omega⟩
    obtain rfl : i = nr := by omega
    refine ⟨n, g, s, ?_, hg, hs⟩
    show bfX6_gathers_4 _ _ _ = _
    rw [bfX6_gathers_4]
    dsimp only
    rw [cl_188, h188, if_pos (nI_le (Nat.le_refl _) (by omega))]
  | succ k ih =>
    intro i n g s m hi hg hs hm
    obtain ⟨m, rfl⟩ : ∃ k, m = k + 1 := ⟨m - 1, by omega⟩
    obtain ⟨b1, b2, b3, b4, b5, b6, -⟩ := hR.2.2.2.2.2 i (by omega)
    have p0 : M.1 (189 + 8 * i + 0) = nI (r i 0) := (hR.2.2.2.1 i 0 (by omega) (by omega)).2
    have p4 : M.1 (189 + 8 * i + 4) = nI (r i 4) := (hR.2.2.2.1 i 4 (by omega) (by omega)).2
    have p5 : M.1 (189 + 8 * i + 5) = nI (r i 5) := (hR.2.2.2.1 i 5 (by omega) (by omega)).2
    have hn := hg.1
    have e : iter (bfX6_gathers_4 (nI w)) (m + 1) (nI n, nI i, (M.1, s, M.2.2)) = if nI (r i 4) = nI w then (if nI (r i 5) = nI t then iter (bfX6_gathers_4 (nI w)) m (nI (n + 1), nI (i + 1), (M.1, upd s n (nI (r i 0)), M.2.2)) else iter (bfX6_gathers_4 (nI w)) m (nI n, nI (i + 1), (M.1, s, M.2.2))) else iter (bfX6_gathers_4 (nI w)) m (nI n, nI (i + 1), (M.1, s, M.2.2)) := by
      show bfX6_gathers_4 _ _ _ = _
      rw [bfX6_gathers_4]
      dsimp only
      unfold bfX6_gathers_72
      simp only [row_eq, ob_eq]
      rw [cl_188, h188, if_neg (nI_ge (by omega) (by omega)), nA_4, nA_5, nA_0, if_pos (okI_nI (by omega) (by decide)), nI_clamp (by omega), p4, if_pos (okI_nI (by omega) (by decide)), nI_clamp (by omega), p5, e5, if_pos (okI_nI (by omega) (by decide)), if_pos (okI_nI (by omega) (by decide)), nm, nI_clamp (by omega), nI_clamp (by omega), p0, nA_1, nA_1]
    rw [e]
    by_cases c4 : r i 4 = w
    · rw [if_pos (by rw [c4])]
      by_cases c5 : r i 5 = t
      · rw [if_pos (by rw [c5])]
        refine ih (i + 1) (n + 1) _ _ m (by omega) (hg.take (fun j hj => hR.2.2.2.2.1 j i hj (by omega)) c4 c5) (fun q hq => ?_) (by omega)
        by_cases z : q = n
        · rw [up_s z, if_pos z]
        · rw [up_n z, if_neg z]
          exact hs q (by omega)
      · rw [if_neg (fun z => c5 ((nI_eq (by omega) (by omega)).mp z))]
        exact ih (i + 1) n g s m (by omega) (hg.skip (fun z => c5 z.2)) hs (by omega)
    · rw [if_neg (fun z => c4 ((nI_eq (by omega) (by omega)).mp z))]
      exact ih (i + 1) n g s m (by omega) (hg.skip (fun z => c4 z.1)) hs (by omega)
theorem RG.sm (h : RG F E Zf Zb t K lo wl cl sg sv sw nr r N nq nb qs ws fb gb at_ ow S M) (s : Pg) : RG F E Zf Zb t K lo wl cl sg sv sw nr r N nq nb qs ws fb gb at_ ow S (M.1, s, M.2.2) := h
theorem gathers_eq (h : RG F E Zf Zb t K lo wl cl sg sv sw nr r N nq nb qs ws fb gb at_ ow S M) (ht : t < 2 ^ 29) {w : Nat} (hw : w ≤ 1) : ∃ (n : Nat) (g : N1) (s : Pg), fX6_gathers (nI w) M = some (nI n, (M.1, s, M.2.2)) ∧ n ≤ 16 ∧ (∀ q, q < n → s q = nI (g q)) ∧ (∀ k k', k < k' → k' < n → g k < g k') ∧ ∀ y, Due nr r w t y ↔ ∃ k, k < n ∧ g k = y := by
  have i16 := h.2.2.2.1.2.1
  obtain ⟨n, g, s, q1, q2, q3⟩ := gathers_go h ht hw nr 0 0 (fun _ => 0) M.2.1 FU (by omega) ⟨Nat.le_refl _, fun k hk => absurd hk (by omega), fun k k' _ hk => absurd hk (by omega), fun j hj => absurd hj (by omega)⟩ (fun q hq => absurd hq (by omega)) (by unfold FU; omega)
  obtain ⟨g1, g2, g3, g4⟩ := q2
  refine ⟨n, g, s, q1, by omega, q3, g3, fun y => ⟨?_, ?_⟩⟩
  · rintro ⟨i, i1, i2, i3, i4⟩
    obtain ⟨k, k1, k2⟩ := g4 i i1 i3 i4
    exact ⟨k, k1, by omega⟩
  · rintro ⟨k, k1, k2⟩
    obtain ⟨j, j1, j2, j3, j4⟩ := g2 k k1
    exact ⟨j, j1, by omega, j3, j4⟩
/-- the class finds the least one, beyond x -/
theorem next_some (h : RG F E Zf Zb t K lo wl cl sg sv sw nr r N nq nb qs ws fb gb at_ ow S M) (ht : t < 2 ^ 29) {w : Nat} (hw : w ≤ 1) {x : Int32} (hd : ∀ i, i < nr → r i 4 = w → t ≤ r i 5) {y : Nat} (hy : Due nr r w t y) (hx : ¬ nI y ≤ x) (hl : ∀ z, Due nr r w t z → y ≤ z) : fX2_nextDue x (nI w) S = some (nI y) := by
  obtain ⟨i, i1, i2, i3, i4⟩ := hy
  have i16 := h.2.2.2.1.2.1
  subst i2
  refine nd_some h ht hw x i1 ⟨hx, i3, by omega⟩ (fun j hj hc => ?_) i 0 FU (by omega) (by unfold FU; omega)
  have h1 := hd j (by omega) hc.2.1
  have h2 := hl _ ⟨j, by omega, rfl, hc.2.1, by have := hc.2.2; omega⟩
  have h3 := h.2.2.2.1.2.2.2.2.1 j i hj i1
  omega
theorem next_none (h : RG F E Zf Zb t K lo wl cl sg sv sw nr r N nq nb qs ws fb gb at_ ow S M) (ht : t < 2 ^ 29) {w : Nat} (hw : w ≤ 1) (x : Int32) (hd : ∀ i, i < nr → r i 4 = w → t ≤ r i 5) (hn : ∀ y, ¬ Due nr r w t y) : fX2_nextDue x (nI w) S = some (-9) := by
  have i16 := h.2.2.2.1.2.1
  refine nd_none h ht hw x (fun j hj hc => ?_) nr 0 FU (by omega) (by unfold FU; omega)
  have h1 := hd j hj hc.2.1
  exact hn _ ⟨j, hj, rfl, hc.2.1, by have := hc.2.2; omega⟩
theorem RG.kle {K' : Nat} (h : RG F E Zf Zb t K lo wl cl sg sv sw nr r N nq nb qs ws fb gb at_ ow S M) (hK : K ≤ K') : RG F E Zf Zb t K' lo wl cl sg sv sw nr r N nq nb qs ws fb gb at_ ow S M := by
  obtain ⟨hX, hT, hD, hR, hY, hL, hN⟩ := h
  exact ⟨hX, hT.cg hK (fun _ _ _ => rfl), hD.cg hK (fun _ _ _ => rfl) (fun _ _ => rfl), hR, hY, hL, hN⟩
theorem RE.kle {K' : Nat} (h : RE F Zf Zb t K lo wl cl sg sv sw S M) (hK : K ≤ K') : RE F Zf Zb t K' lo wl cl sg sv sw S M := by
  obtain ⟨nr, r, N, nq, nb, qs, ws, fb, gb, at_, ow, h⟩ := h
  exact ⟨_, _, _, _, _, _, _, _, _, _, _, h.kle hK⟩
theorem RG.wl_up {wl' : Nat} (h : RG F E Zf Zb t K lo wl cl sg sv sw nr r N nq nb qs ws fb gb at_ ow S M) (e : ∀ i, i < nr → r i 4 = 1 → wl' ≤ r i 5) : RG F E Zf Zb t K lo wl' cl sg sv sw nr r N nq nb qs ws fb gb at_ ow S M := by
  obtain ⟨hX, hT, hD, ⟨h1, h2, h3, h4, h5, h6⟩, hY, hL, hN⟩ := h
  refine ⟨hX, hT, hD, ⟨h1, h2, h3, h4, h5, fun i hi => ?_⟩, hY, hL, hN⟩
  obtain ⟨a, b, c, d, f, g, k, l, m, n⟩ := h6 i hi
  exact ⟨a, b, c, d, f, g, k, fun q => ⟨(l q).1, e i hi q, (l q).2.2⟩, m, n⟩
theorem RG.lo_up {lo' : Nat} (h : RG F E Zf Zb t K lo wl cl sg sv sw nr r N nq nb qs ws fb gb at_ ow S M) (e : ∀ i, i < nr → r i 4 = 0 → ¬ E (r i 0) → lo' ≤ r i 5) : RG F E Zf Zb t K lo' wl cl sg sv sw nr r N nq nb qs ws fb gb at_ ow S M := by
  obtain ⟨hX, hT, hD, ⟨h1, h2, h3, h4, h5, h6⟩, hY, hL, hN⟩ := h
  refine ⟨hX, hT, hD, ⟨h1, h2, h3, h4, h5, fun i hi => ?_⟩, hY, hL, hN⟩
  obtain ⟨a, b, c, d, f, g, k, l, m, n⟩ := h6 i hi
  exact ⟨a, b, c, d, f, g, k, l, m, e i hi⟩
end GT
