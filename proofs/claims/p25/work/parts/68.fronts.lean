/-! the front workers' loops -/
section FL
variable {F : Fx} {Zf Zb : Nat → Prop} {t K lo wl : Nat} {cl sg : N2} {sv sw : N1}
theorem front_loop (hK : K < 2 ^ 29) (ht : t < 2 ^ 29) (hlo : t ≤ lo) (hwl : wl ≤ t + 1) {v : Nat} (hv : v < 4) (hsv : v < sv 0) : ∀ (nq : Nat) {nr : Nat} {r : N2} {N nb : Nat} {qs ws fb gb : N1} {at_ : N2} {ow : N1} {S : StS} {M : MS}, RG F (fun _ => False) Zf Zb t K lo wl cl sg sv sw nr r N nq nb qs ws fb gb at_ ow S M → ∀ m m', nq < m → nq < m' → ∃ S' M', (∀ K12 x1, iter (bfX1_fillFrontWorkers_25 K12) m (x1, nI v, nI nq, S) = K12 (x1, nI v + 1, S')) ∧ iter (bfX6_takesFront_0 (nI v)) m' M = some M' ∧ RE F Zf Zb t K lo wl cl sg sv sw S' M' ∧ Kp sv S S' := by
  intro nq
  induction nq with
  | zero =>
    intro nr r N nb qs ws fb gb at_ ow S M h m m' hm hm'
    obtain ⟨m, rfl⟩ : ∃ k, m = k + 1 := ⟨m - 1, by omega⟩
    obtain ⟨m', rfl⟩ : ∃ k, m' = k + 1 := ⟨m' - 1, by omega⟩
    obtain ⟨hA, hQ, hF, hB, hG, hU⟩ := h.2.2.2.2.1
    refine ⟨S, M, fun K12 x1 => ?_, ?_, ⟨_, _, _, _, _, _, _, _, _, _, _, h⟩, Kp.rf sv S⟩
    · show bfX1_fillFrontWorkers_25 K12 _ _ = _
      rw [bfX1_fillFrontWorkers_25]
      rw [if_pos ((eln_0 (by omega)).mpr (Nat.le_refl 0))]
      rfl
    · show bfX6_takesFront_0 _ _ _ = _
      unfold bfX6_takesFront_0 bfX6_takesFront_134
      rw [nB_591, if_pos (okI_nI (by omega) (by decide)), cl_557, hQ.2.2.1, if_pos ((eln_0 (by omega)).mpr (Nat.le_refl 0))]
      by_cases e : M.1 (nI (591 + v)).toNatClampNeg = -9
      · rw [if_pos e]
      · rw [if_neg e]
  | succ n ih =>
    intro nr r N nb qs ws fb gb at_ ow S M h m m' hm hm'
    obtain ⟨m, rfl⟩ : ∃ k, m = k + 1 := ⟨m - 1, by omega⟩
    obtain ⟨m', rfl⟩ : ∃ k, m' = k + 1 := ⟨m' - 1, by omega⟩
    obtain ⟨hA, hQ, hF, hB, hG, hU⟩ := h.2.2.2.2.1
    have q16 := hQ.2.1
    have hn0 : ¬ nI (n + 1) ≤ (0 : Int32) := fun z => by have := (eln_0 (by omega)).mp z; omega
    obtain ⟨f1, f2, f3⟩ := hF.2 v hv
    by_cases hg : ws v = 0
    · obtain ⟨k, x, S1, S2, M2, nr', r', ws', qs', at', q0, qn, q1, q2, q3, q4⟩ := front_step h hK ht hlo hwl hv hg (by omega)
      obtain ⟨S', M', p1, p2, p3, p4⟩ := ih q4 m m' (by omega) (by omega)
      have kst : Kp sv S S2 := by
        obtain ⟨e1, e2, e3, ⟨e4, e5, e6, e7, e8⟩, -⟩ := hQ.2.2.2 k q0
        have hNK : N ≤ K := h.2.2.1.2.2.2.2.2.2.1
        obtain ⟨k1, k2, k3, k4⟩ := taf_ko (o := o0) hF.1 hv hsv (f2 hg) (by rw [hQ.1]; exact q0) (by rw [hQ.1]; exact q16) e8 q1
        have n16 := h.n16
        refine k1.tr (fail_ko (y := 6) (by rw [k2]; exact n16.1) (by rw [k3]; exact n16.2) ?_ (by omega) (by omega) q2)
        rw [k2]
        rcases k4 with z | z
        · rw [z]; exact h.fw0 (by decide) (by omega)
        · rw [z, e4]; exact h.fwo (by omega) e2 e3
      refine ⟨S', M', fun K12 x1 => ?_, ?_, p3, kst.tr p4⟩
      · show bfX1_fillFrontWorkers_25 K12 (iter _ m) _ = _
        rw [bfX1_fillFrontWorkers_25]
        rw [if_neg hn0, show sget 7 S (nI v) (0 : Int32) = -9 from (sg7 hF.1 hv (c := 0) (by omega)).trans (f2 hg), if_pos rfl, qn, ob_eq, q1, ob_eq, q2, ob_eq, show nI (n + 1) + (-1 : Int32) = nI n from pk_m1 n]
        exact p1 K12 x1
      · show bfX6_takesFront_0 (nI v) (iter _ m') M = _
        rw [q3]
        exact p2
    · obtain ⟨a, e⟩ : ∃ f, ws v = f + 1 := ⟨ws v - 1, by omega⟩
      obtain ⟨d1, d2, d3, ⟨d4, _⟩, _⟩ := f3 a e
      have ho := (h.owner d1 d2).1
      have hNK : N ≤ K := h.2.2.1.2.2.2.2.2.2.1
      refine ⟨S, M, fun K12 x1 => ?_, ?_, ⟨_, _, _, _, _, _, _, _, _, _, _, h⟩, Kp.rf sv S⟩
      · show bfX1_fillFrontWorkers_25 K12 _ _ = _
        rw [bfX1_fillFrontWorkers_25]
        rw [if_neg hn0, show sget 7 S (nI v) (0 : Int32) = owI (ow a) from (sg7 hF.1 hv (c := 0) (by omega)).trans d4, if_neg (owI_9 (by omega))]
        rfl
      · show bfX6_takesFront_0 _ _ _ = _
        unfold bfX6_takesFront_0 bfX6_takesFront_134
        have e9 : ¬ M.1 (nI (591 + v)).toNatClampNeg = -9 := by
          rw [nI_clamp (by omega), f1, e]
          exact nI_neg (by omega) (by decide)
        rw [nB_591, if_pos (okI_nI (by omega) (by decide)), if_neg e9]
/-- step 3, at the front; behind it the reference goes on with the work -/
theorem fillF (hK : K < 2 ^ 29) (ht : t < 2 ^ 29) (hlo : t ≤ lo) (hwl : wl ≤ t + 1) : ∀ (k v : Nat) {S : StS} {M : MS}, v + k = sv 0 → RE F Zf Zb t K lo wl cl sg sv sw S M → ∀ m m', k < m → k < m' → ∃ S' M', iter bfX1_fillFrontWorkers_12 m (nI (sv 0), nI v, S) = some S' ∧ iter bfX6_ticks_131 m' (nI v, M) = bfX6_ticks_131 (fun _ => none) (nI (sv 0), M') ∧ RE F Zf Zb t K lo wl cl sg sv sw S' M' ∧ Kp sv S S' := by
  intro k
  induction k with
  | zero =>
    intro v S M hv ⟨nr, r, N, nq, nb, qs, ws, fb, gb, at_, ow, h⟩ m m' hm hm'
    obtain ⟨m, rfl⟩ : ∃ k, m = k + 1 := ⟨m - 1, by omega⟩
    obtain ⟨m', rfl⟩ : ∃ k, m' = k + 1 := ⟨m' - 1, by omega⟩
    obtain ⟨-, s2, s3, s4⟩ := srv h.1.2.2.1 (i := 0) (by omega)
    rw [show mxS 0 = 4 from rfl] at s4
    refine ⟨S, M, ?_, ?_, ⟨_, _, _, _, _, _, _, _, _, _, _, h⟩, Kp.rf sv S⟩
    · show bfX1_fillFrontWorkers_12 _ _ = _
      rw [bfX1_fillFrontWorkers_12]
      rw [if_pos (nI_le (by omega) (by omega))]
    · show bfX6_ticks_131 _ _ = _
      rw [bfX6_ticks_131, bfX6_ticks_131]
      rw [cl_174, show M.1 174 = nI (sv 0) from s2, if_pos (nI_le (by omega) (by omega)), if_pos (nI_le (by omega) (by omega))]
  | succ k ih =>
    intro v S M hv ⟨nr, r, N, nq, nb, qs, ws, fb, gb, at_, ow, h⟩ m m' hm hm'
    obtain ⟨m, rfl⟩ : ∃ k, m = k + 1 := ⟨m - 1, by omega⟩
    obtain ⟨m', rfl⟩ : ∃ k, m' = k + 1 := ⟨m' - 1, by omega⟩
    obtain ⟨-, s2, s3, s4⟩ := srv h.1.2.2.1 (i := 0) (by omega)
    rw [show mxS 0 = 4 from rfl] at s4
    have hQ := h.2.2.2.2.1.2.1
    obtain ⟨S1, M1, q1, q2, q3, q4⟩ := front_loop hK ht hlo hwl (v := v) (by omega) (by omega) nq h FU FU (by have := hQ.2.1; unfold FU; omega) (by have := hQ.2.1; unfold FU; omega)
    obtain ⟨S', M', p1, p2, p3, p4⟩ := ih (v + 1) (by omega) q3 m m' (by omega) (by omega)
    refine ⟨S', M', ?_, ?_, p3, q4.tr p4⟩
    · show bfX1_fillFrontWorkers_12 (iter _ m) _ = _
      rw [bfX1_fillFrontWorkers_12]
      rw [if_neg (nI_ge (by omega) (by omega)), nm, sz6 rfl hQ, q1, nA_1]
      exact p1
    · show bfX6_ticks_131 (iter _ m') _ = _
      rw [bfX6_ticks_131]
      rw [cl_174, show M.1 174 = nI (sv 0) from s2, if_neg (nI_ge (by omega) (by omega)), show fX6_takesFront (nI v) M = some M1 from q2, ob_eq, nA_1]
      exact p2
end FL
