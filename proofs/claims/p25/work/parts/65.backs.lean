/-! the back workers' loops -/
section BL
variable {F : Fx} {Zf Zb : Nat → Prop} {t K lo wl : Nat} {cl sg : N2} {sv sw : N1}
theorem back_loop (hK : K < 2 ^ 29) (ht : t < 2 ^ 29) (hlo : t ≤ lo) (hwl : wl ≤ t + 1) {v : Nat} (hv : v < 4) (hsv : v < sv 2) : ∀ (nb : Nat) {nr : Nat} {r : N2} {N nq : Nat} {qs ws fb gb : N1} {at_ : N2} {ow : N1} {S : StS} {M : MS}, RG F (fun _ => False) Zf Zb t K lo wl cl sg sv sw nr r N nq nb qs ws fb gb at_ ow S M → ∀ m m', nb < m → nb < m' → ∃ S' M', (∀ K12 x1, iter (bfX1_fillBackWorkers_25 K12) m (x1, nI v, nI nb, S) = K12 (x1, nI v + 1, S')) ∧ iter (bfX6_takesBack_0 (nI v)) m' M = some M' ∧ RE F Zf Zb t K lo wl cl sg sv sw S' M' ∧ Kp sv S S' := by
  intro nb
  induction nb with
  | zero =>
    intro nr r N nq qs ws fb gb at_ ow S M h m m' hm hm'
    obtain ⟨m, rfl⟩ : ∃ k, m = k + 1 := ⟨m - 1, by omega⟩
    obtain ⟨m', rfl⟩ : ∃ k, m' = k + 1 := ⟨m' - 1, by omega⟩
    obtain ⟨hA, hQ, hF, ⟨b1, b2, b3, b4, b5⟩, hG, hU⟩ := h.2.2.2.2.1
    refine ⟨S, M, fun K12 x1 => ?_, ?_, ⟨_, _, _, _, _, _, _, _, _, _, _, h⟩, Kp.rf sv S⟩
    · show bfX1_fillBackWorkers_25 K12 _ _ = _
      rw [bfX1_fillBackWorkers_25]
      rw [if_pos ((eln_0 (by omega)).mpr (Nat.le_refl 0))]
      rfl
    · show bfX6_takesBack_0 _ _ _ = _
      unfold bfX6_takesBack_0 bfX6_takesBack_128
      rw [nB_595, if_pos (okI_nI (by omega) (by decide)), cl_574, b3, if_pos ((eln_0 (by omega)).mpr (Nat.le_refl 0))]
      by_cases e : M.1 (nI (595 + v)).toNatClampNeg = -9
      · rw [if_pos e]
      · rw [if_neg e]
  | succ n ih =>
    intro nr r N nq qs ws fb gb at_ ow S M h m m' hm hm'
    obtain ⟨m, rfl⟩ : ∃ k, m = k + 1 := ⟨m - 1, by omega⟩
    obtain ⟨m', rfl⟩ : ∃ k, m' = k + 1 := ⟨m' - 1, by omega⟩
    obtain ⟨hA, hQ, hF, ⟨b1, b2, b3, b4, b5⟩, hG, hU⟩ := h.2.2.2.2.1
    have hn0 : ¬ nI (n + 1) ≤ (0 : Int32) := fun z => by have := (eln_0 (by omega)).mp z; omega
    by_cases hg : gb v = 0
    · obtain ⟨x, S1, S2, M2, nr', r', ws', gb', at', q1, q2, q3, q4⟩ := back_step h hK ht hlo hwl hv hg (by omega)
      obtain ⟨S', M', p1, p2, p3, p4⟩ := ih q4 m m' (by omega) (by omega)
      have kst : Kp sv S S2 := by
        obtain ⟨c1, c2, a, c3, c4, c5⟩ := b4 0 (by omega)
        obtain ⟨d1, d2, d3, ⟨d4, -⟩, -⟩ := (hF.2 (fb 0) c1).2.2 a c3
        have hNK : N ≤ K := h.2.2.1.2.2.2.2.2.2.1
        have ho := (h.owner d1 d2).1
        obtain ⟨k1, k2, k3, k4⟩ := tab_ko (o := o0) hF.1 hG.1 hv hsv c1 ((sg8 (S := S) (k := 0) (by omega) (by omega)).trans c2) (by rw [d4]; exact owI_9 (by omega)) q1
        have n16 := h.n16
        refine k1.tr (fail_ko (y := 6) (by rw [k2]; exact n16.1) (by rw [k3]; exact n16.2) ?_ (by omega) (by omega) q2)
        rw [k2]
        rcases k4 with z | z
        · rw [z]; exact h.fw0 (by decide) (by omega)
        · rw [z, d4]; exact h.fwo (by omega) d1 d2
      refine ⟨S', M', fun K12 x1 => ?_, ?_, p3, kst.tr p4⟩
      · show bfX1_fillBackWorkers_25 K12 (iter _ m) _ = _
        rw [bfX1_fillBackWorkers_25]
        rw [if_neg hn0, show sget 9 S (nI v) (0 : Int32) = -9 from (sg9 hG.1 hv).trans (by rw [(hG.2.1 v hv).1, hg]; rfl), if_pos rfl, q1, ob_eq, q2, ob_eq, show nI (n + 1) + (-1 : Int32) = nI n from pk_m1 n]
        exact p1 K12 x1
      · show bfX6_takesBack_0 (nI v) (iter _ m') M = _
        rw [q3]
        exact p2
    · obtain ⟨f, e⟩ : ∃ f, gb v = f + 1 := ⟨gb v - 1, by omega⟩
      obtain ⟨g1, a, g2, g3, g4, g5⟩ := (hG.2.1 v hv).2.2 f e
      have ha := ((hF.2 f g1).2.2 a g2).1
      refine ⟨S, M, fun K12 x1 => ?_, ?_, ⟨_, _, _, _, _, _, _, _, _, _, _, h⟩, Kp.rf sv S⟩
      · show bfX1_fillBackWorkers_25 K12 _ _ = _
        rw [bfX1_fillBackWorkers_25]
        rw [if_neg hn0, show sget 9 S (nI v) (0 : Int32) = nI f from (sg9 hG.1 hv).trans (by rw [(hG.2.1 v hv).1, e]; rfl), if_neg (nI_neg (by omega) (by decide))]
        rfl
      · show bfX6_takesBack_0 _ _ _ = _
        unfold bfX6_takesBack_0 bfX6_takesBack_128
        have e9 : ¬ M.1 (nI (595 + v)).toNatClampNeg = -9 := by
          rw [nI_clamp (by omega), g3]
          exact nI_neg (by omega) (by decide)
        rw [nB_595, if_pos (okI_nI (by omega) (by decide)), if_neg e9]
theorem srv {S : StS} {M : MS} {nq nb i : Nat} (h : gV (S.1 3) M.1 sv nq nb) (hi : i < 4) : sget 3 S (nI i) (0 : Int32) = nI (sv i) ∧ M.1 (174 + i) = nI (sv i) ∧ 1 ≤ sv i ∧ sv i ≤ mxS i := ⟨(tg (w := 1) (rows := 4) (j := 0) (by rw [h.1]; exact hi) hi (by omega) (by omega) (by omega)).trans (h.2.1 i hi).1, (h.2.1 i hi).2⟩
/-- step 3, at the back; behind it the reference goes on with the front -/
theorem fillB (hK : K < 2 ^ 29) (ht : t < 2 ^ 29) (hlo : t ≤ lo) (hwl : wl ≤ t + 1) : ∀ (k v : Nat) {S : StS} {M : MS}, v + k = sv 2 → RE F Zf Zb t K lo wl cl sg sv sw S M → ∀ m m', k < m → k < m' → ∃ S' M', iter bfX1_fillBackWorkers_12 m (nI (sv 2), nI v, S) = some S' ∧ iter bfX6_ticks_106 m' (nI v, M) = iter bfX6_ticks_131 FU (nI 0, M') ∧ RE F Zf Zb t K lo wl cl sg sv sw S' M' ∧ Kp sv S S' := by
  intro k
  induction k with
  | zero =>
    intro v S M hv ⟨nr, r, N, nq, nb, qs, ws, fb, gb, at_, ow, h⟩ m m' hm hm'
    obtain ⟨m, rfl⟩ : ∃ k, m = k + 1 := ⟨m - 1, by omega⟩
    obtain ⟨m', rfl⟩ : ∃ k, m' = k + 1 := ⟨m' - 1, by omega⟩
    obtain ⟨-, s2, s3, s4⟩ := srv h.1.2.2.1 (i := 2) (by omega)
    rw [show mxS 2 = 4 from rfl] at s4
    refine ⟨S, M, ?_, ?_, ⟨_, _, _, _, _, _, _, _, _, _, _, h⟩, Kp.rf sv S⟩
    · show bfX1_fillBackWorkers_12 _ _ = _
      rw [bfX1_fillBackWorkers_12]
      rw [if_pos (nI_le (by omega) (by omega))]
    · show bfX6_ticks_106 _ _ = _
      rw [bfX6_ticks_106]
      rw [cl_176, show M.1 176 = nI (sv 2) from s2, if_pos (nI_le (by omega) (by omega))]
      rfl
  | succ k ih =>
    intro v S M hv ⟨nr, r, N, nq, nb, qs, ws, fb, gb, at_, ow, h⟩ m m' hm hm'
    obtain ⟨m, rfl⟩ : ∃ k, m = k + 1 := ⟨m - 1, by omega⟩
    obtain ⟨m', rfl⟩ : ∃ k, m' = k + 1 := ⟨m' - 1, by omega⟩
    obtain ⟨-, s2, s3, s4⟩ := srv h.1.2.2.1 (i := 2) (by omega)
    rw [show mxS 2 = 4 from rfl] at s4
    have hB := h.2.2.2.2.1.2.2.2.1
    obtain ⟨S1, M1, q1, q2, q3, q4⟩ := back_loop hK ht hlo hwl (v := v) (by omega) (by omega) nb h FU FU (by have := hB.2.1; unfold FU; omega) (by have := hB.2.1; unfold FU; omega)
    obtain ⟨S', M', p1, p2, p3, p4⟩ := ih (v + 1) (by omega) q3 m m' (by omega) (by omega)
    refine ⟨S', M', ?_, ?_, p3, q4.tr p4⟩
    · show bfX1_fillBackWorkers_12 (iter _ m) _ = _
      rw [bfX1_fillBackWorkers_12]
      rw [if_neg (nI_ge (by omega) (by omega)), nm, show ssize 8 S = nI nb from congrArg nI ((tz_n (by rw [hB.1]; exact hB.2.1)).trans hB.1), q1, nA_1]
      exact p1
    · show bfX6_ticks_106 (iter _ m') _ = _
      rw [bfX6_ticks_106]
      rw [cl_176, show M.1 176 = nI (sv 2) from s2, if_neg (nI_ge (by omega) (by omega)), show fX6_takesBack (nI v) M = some M1 from q2, ob_eq, nA_1]
      exact p2
end BL
