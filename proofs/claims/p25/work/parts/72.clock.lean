/-! the front's loop of step 5; the clock -/
section NL
variable {F : Fx} {E Zf Zb : Nat → Prop} {t K lo wl : Nat} {cl sg : N2} {sv sw : N1} {nr : Nat} {r : N2} {N nq nb : Nat} {qs ws fb gb : N1} {at_ : N2} {ow : N1} {S S' : StS} {M M' : MS}
theorem endF (ht : t < 2 ^ 29) (hwl : wl ≤ t + 1) : ∀ (k v : Nat) {K : Nat} {S : StS} {M : MS}, v + k = 4 → K < 2 ^ 28 + 24 * v → RE F (fun w => v ≤ w) Zb t K lo wl cl sg sv sw S M → ∀ m m', k < m → k < m' → ∃ S' M' K', iter bfX1_endFrontWork_2 m (nI v, S) = some S' ∧ iter bfX6_ticks_200 m' (nI v, M) = bfX6_ticks_200 (fun _ => none) (nI 4, M') ∧ K' ≤ K + 24 * k ∧ RE F (fun _ => False) Zb t K' lo wl cl sg sv sw S' M' ∧ Kp sv S S' := by
  intro k
  induction k with
  | zero =>
    intro v K S M hv hK ⟨nr, r, N, nq, nb, qs, ws, fb, gb, at_, ow, h⟩ m m' hm hm'
    obtain ⟨m, rfl⟩ : ∃ k, m = k + 1 := ⟨m - 1, by omega⟩
    obtain ⟨m', rfl⟩ : ∃ k, m' = k + 1 := ⟨m' - 1, by omega⟩
    obtain rfl : v = 4 := by omega
    refine ⟨S, M, K, ?_, ?_, by omega, ⟨_, _, _, _, _, _, _, _, _, _, _, h.zf (fun w a hw _ _ z => absurd z (by omega))⟩, Kp.rf sv S⟩
    · show bfX1_endFrontWork_2 _ _ = _
      rw [bfX1_endFrontWork_2, if_pos (by decide)]
    · show bfX6_ticks_200 _ _ = _
      rw [bfX6_ticks_200, bfX6_ticks_200, if_pos (by decide), if_pos (by decide)]
  | succ k ih =>
    intro v K S M hv hK ⟨nr, r, N, nq, nb, qs, ws, fb, gb, at_, ow, h⟩ m m' hm hm'
    obtain ⟨m, rfl⟩ : ∃ k, m = k + 1 := ⟨m - 1, by omega⟩
    obtain ⟨m', rfl⟩ : ∃ k, m' = k + 1 := ⟨m' - 1, by omega⟩
    obtain ⟨S1, M1, K1, q1, q2, q3, q4⟩ := finF h (by omega) ht hwl (by omega)
    have hNK : N ≤ K := h.2.2.1.2.2.2.2.2.2.1
    have kst : Kp sv S S1 := efw_ko h (by omega) (by omega) (q1 (fun p => some p.2))
    obtain ⟨S', M', K', p1, p2, p3, p4, p5⟩ := ih (v + 1) (by omega) (by omega) q4 m m' (by omega) (by omega)
    refine ⟨S', M', K', ?_, ?_, by omega, p4, kst.tr p5⟩
    · show bfX1_endFrontWork_2 (iter _ m) _ = _
      rw [q1]
      exact p1
    · show bfX6_ticks_200 (iter _ m') _ = _
      rw [bfX6_ticks_200, if_neg (fun z => by have := (len_4 (by omega)).mp z; omega), q2, ob_eq, nA_1]
      exact p2
theorem RG.clock (h : RG F E Zf Zb t K lo wl cl sg sv sw nr r N nq nb qs ws fb gb at_ ow S M) : RG F E Zf Zb (t + 1) K lo wl cl sg sv sw nr r N nq nb qs ws fb gb at_ ow (S.1, upd S.2 12 (S.2 12 + 1)) (upd M.1 182 (M.1 182 + 1), M.2.1, upd M.2.2 5 (M.2.2 5 + 1)) := by
  have q := h.nqb
  obtain ⟨hX, hT, hD, hR, hY, hL, hN⟩ := h
  have hp : ∀ x, x ≠ 182 → upd M.1 182 (M.1 182 + 1) x = M.1 x := fun x hx => up_n hx
  have hs : ∀ x, x ≠ 12 → upd S.2 12 (S.2 12 + 1) x = S.2 x := fun x hx => up_n hx
  have hg : ∀ x, x ≠ 5 → upd M.2.2 5 (M.2.2 5 + 1) x = M.2.2 x := fun x hx => up_n hx
  refine ⟨hX.cg (by omega) q.1 q.2.1 (fun k hk => rfl) (fun x hx => hp x (by omega)), hT.cg (Nat.le_refl _) (fun x _ _ => hp x (by omega)), ?_, ?_, hY.cg (fun k h1 h2 => rfl) (fun x _ _ => hp x (by omega)), ?_, ?_⟩
  · obtain ⟨⟨d0, a1, a2, a3⟩, b, c, d, f, g, k, ⟨g0, l1, l2, l3⟩, m, n⟩ := hD
    refine ⟨⟨d0, (hs 11 (by omega)).trans a1, (hp 178 (by omega)).trans a2, a3⟩, ?_, ?_, ((hs 13 (by omega)).trans d).trans (hp 184 (by omega)).symm, (hs 14 (by omega)).trans f, (hp 183 (by omega)).trans g, k, ⟨g0, (hs 15 (by omega)).trans l1, (hp 185 (by omega)).trans l2, l3⟩, ((hs 16 (by omega)).trans m).trans (hp 186 (by omega)).symm, ((hs 17 (by omega)).trans n).trans (hp 187 (by omega)).symm⟩
    · show upd S.2 12 (S.2 12 + 1) 12 = _
      rw [up_s rfl, b, nI_1]
    · show upd M.1 182 (M.1 182 + 1) 182 = _
      rw [up_s rfl, c, nI_1]
  · obtain ⟨h1, h2, h3, h4, h5, h6⟩ := hR.cg (Nat.le_refl _) (Nat.le_refl _) (Nat.le_refl _) (p' := upd M.1 182 (M.1 182 + 1)) (fun x _ _ => hp x (by omega))
    refine ⟨h1, h2, h3, h4, h5, fun i hi => ?_⟩
    obtain ⟨a, b, c, d, f, g, k, l, m, n⟩ := h6 i hi
    exact ⟨a, b, by omega, d, f, by omega, k, l, m, n⟩
  · obtain ⟨h1, h2⟩ := hL.cg q.2.2 (p' := upd M.1 182 (M.1 182 + 1)) (fun x _ _ => hp x (by omega))
    refine ⟨h1, fun a ha hu => ?_⟩
    obtain ⟨c1, c2⟩ := h2 a ha hu
    exact ⟨by omega, c2.imp (fun z => ⟨z.1, by omega⟩) id⟩
  · obtain ⟨n1, n2, n3, n4, n5, n6⟩ := hN
    refine ⟨?_, ?_, ?_, ?_, (hg 1 (by omega)).trans n5, fun x hx => (hp x (by omega)).trans (n6 x hx)⟩
    · show upd M.2.2 5 (M.2.2 5 + 1) 5 = _
      rw [up_s rfl, n1, nI_1]
    · show ssum 1 S 2 = F.2.1.1 + upd M.2.2 5 (M.2.2 5 + 1) 6
      rw [hg 6 (by omega)]
      exact n2
    · show ssum 1 S 1 = F.2.1.2.1 + upd M.2.2 5 (M.2.2 5 + 1) 7
      rw [hg 7 (by omega)]
      exact n3
    · show upd S.2 12 (S.2 12 + 1) 16 = F.2.1.2.2.1 + upd M.2.2 5 (M.2.2 5 + 1) 8
      rw [hs 16 (by omega), hg 8 (by omega)]
      exact n4
end NL
