/-! which attempt a front worker takes -/
section CL
variable {F : Fx} {E Zf Zb : Nat → Prop} {t K lo wl : Nat} {cl sg : N2} {sv sw : N1} {nr : Nat} {r : N2} {N nq nb : Nat} {qs ws fb gb : N1} {at_ : N2} {ow : N1} {S S' : StS} {M M' : MS}
theorem sz6 {T : Tb} {p : Pg} (hS : S.1 6 = T) (h : gQ T p nq qs at_ ow) : ssize 6 S = nI nq := by
  show nI (tz 16 (S.1 6)) = _
  rw [hS, tz_n (by rw [h.1]; exact h.2.1), h.1]
theorem first_loop (h : RG F E Zf Zb t K lo wl cl sg sv sw nr r N nq nb qs ws fb gb at_ ow S M) (ht : t < 2 ^ 29) (h3 : M.1 178 = nI 3) : ∀ n k b m m', k + n = nq → 1 ≤ k → b < nq → n < m → n < m' → ∃ c, c < nq ∧ iter (bfX1_firstToExpire_6_4 S) m (nI b, nI k) = some (nI c) ∧ iter (bfX6_chosen_62 M) m' (nI (nq - 1), nI b, nI k) = some (nI c) := by
  have hQ := h.2.2.2.2.1.2.1
  have hA := h.2.2.2.2.1.1
  have q16 := hQ.2.1
  have ex : ∀ k, k < nq → sget 6 S (nI k) (1 : Int32) = nI (at_ (qs k) 1) ∧ at_ (qs k) 1 ≤ t + 64 ∧ M.1 (317 + 10 * qs k + 1) = nI (at_ (qs k) 1) ∧ qs k < 24 ∧ M.1 (558 + k) = nI (qs k) := fun k hk => by
    obtain ⟨d1, d2, d3, ⟨d4, d5, _⟩, _⟩ := hQ.2.2.2 k hk
    exact ⟨(sg6 (S := S) (c := 1) (by rw [hQ.1]; exact hk) (by omega) (by omega)).trans d5, (h.owner d2 d3).2.2.2, ((hA _ d2).2.2 d3).2 1 (by omega) (by omega), d2, d1⟩
  intro n
  induction n with
  | zero =>
    intro k b m m' hk h1 hb hm hm'
    obtain ⟨m, rfl⟩ : ∃ k, m = k + 1 := ⟨m - 1, by omega⟩
    obtain ⟨m', rfl⟩ : ∃ k, m' = k + 1 := ⟨m' - 1, by omega⟩
    refine ⟨b, hb, ?_, ?_⟩
    · show bfX1_firstToExpire_6_4 S _ _ = _
      rw [bfX1_firstToExpire_6_4, sz6 rfl hQ, if_pos (nI_le (by omega) (by omega))]
    · show bfX6_chosen_62 M _ _ = _
      rw [bfX6_chosen_62, if_pos (nI_lt (by omega) (by omega))]
      rfl
  | succ n ih =>
    intro k b m m' hk h1 hb hm hm'
    obtain ⟨m, rfl⟩ : ∃ k, m = k + 1 := ⟨m - 1, by omega⟩
    obtain ⟨m', rfl⟩ : ∃ k, m' = k + 1 := ⟨m' - 1, by omega⟩
    obtain ⟨b1, b2, b3, b4, b5⟩ := ex b hb
    obtain ⟨k1, k2, k3, k4, k5⟩ := ex k (by omega)
    have eX : iter (bfX1_firstToExpire_6_4 S) (m + 1) (nI b, nI k) = if nI (at_ (qs b) 1) ≤ nI (at_ (qs k) 1) then iter (bfX1_firstToExpire_6_4 S) m (nI b, nI (k + 1)) else iter (bfX1_firstToExpire_6_4 S) m (nI k, nI (k + 1)) := by
      show bfX1_firstToExpire_6_4 S _ _ = _
      rw [bfX1_firstToExpire_6_4, sz6 rfl hQ, if_neg (nI_ge (by omega) (by omega)), b1, k1]
      unfold bfX1_firstToExpire_6_29
      rw [nA_1]
    have eM : iter (bfX6_chosen_62 M) (m' + 1) (nI (nq - 1), nI b, nI k) = if nI (at_ (qs b) 1) ≤ nI (at_ (qs k) 1) then iter (bfX6_chosen_62 M) m' (nI (nq - 1), nI b, nI (k + 1)) else iter (bfX6_chosen_62 M) m' (nI (nq - 1), nI k, nI (k + 1)) := by
      show bfX6_chosen_62 M _ _ = _
      rw [bfX6_chosen_62, if_neg (nI_nlt (by omega) (by omega)), cl_178, h3, if_pos (show nI 3 = (3 : Int32) from rfl), nB_558, nB_558, if_pos (okI_nI (by omega) (by decide)), nI_clamp (by omega), k5, slot_eq, ob_eq, nA_1, if_pos (okI_nI (by omega) (by decide)), if_pos (okI_nI (by omega) (by decide)), nI_clamp (by omega), nI_clamp (by omega), b5, slot_eq, ob_eq, nA_1, if_pos (okI_nI (by omega) (by decide)), nI_clamp (by omega), b3, k3]
      unfold bfX6_chosen_129
      rw [nA_1]
    rw [eX, eM]
    by_cases e : at_ (qs b) 1 ≤ at_ (qs k) 1
    · rw [if_pos (nI_le e (by omega)), if_pos (nI_le e (by omega))]
      exact ih (k + 1) b m m' (by omega) (by omega) hb (by omega) (by omega)
    · rw [if_neg (nI_ge (by omega) (by omega)), if_neg (nI_ge (by omega) (by omega))]
      exact ih (k + 1) k m m' (by omega) (by omega) (by omega) (by omega) (by omega)
theorem chosen_eq (h : RG F E Zf Zb t K lo wl cl sg sv sw nr r N nq nb qs ws fb gb at_ ow S M) (ht : t < 2 ^ 29) (hq : 0 < nq) : ∃ k, k < nq ∧ fX1_nextInQueue S = some (nI k) ∧ fX6_chosen M = some (nI k) := by
  have hQ := h.2.2.2.2.1.2.1
  have q16 := hQ.2.1
  obtain ⟨d, d1, d2, d3⟩ := h.2.2.1.1
  obtain ⟨c1, c2, c3, c4⟩ := srv h.1.2.2.1 (i := 1) (by omega)
  rw [show mxS 1 = 16 from rfl] at c4
  have em : nI nq - (1 : Int32) = nI (nq - 1) := pk_sub (b := 1) (by omega)
  have e0 : d ≠ 3 → iter (bfX6_chosen_62 M) FU (nI (nq - 1), (0 : Int32), (1 : Int32)) = some (nI 0) := fun hd => by
    show bfX6_chosen_62 M _ _ = _
    rw [bfX6_chosen_62, cl_178, d2]
    by_cases e : nI (nq - 1) < (1 : Int32)
    · rw [if_pos e]
      rfl
    · rw [if_neg e, if_neg (fun z => hd ((eqn_3 (by omega)).mp z))]
      rfl
  have eX : fX1_nextInQueue S = if d = 1 then some (nI (nq - 1)) else if d = 2 then (if 2 * nq ≤ sv 1 then some (nI 0) else some (nI (nq - 1))) else if d = 3 then ob (fX1_firstToExpire_6 S) fun u4 => some u4 else some (nI 0) := by
    unfold fX1_nextInQueue bfX1_nextInQueue_66
    rw [sz6 rfl hQ, nm, d1, em, show sget 3 S (1 : Int32) (0 : Int32) = nI (sv 1) from c1, nM_2]
    simp only [eqn_1 (show d < 2 ^ 31 by omega), eqn_2 (show d < 2 ^ 31 by omega), eqn_3 (show d < 2 ^ 31 by omega), nI_leI (show 2 * nq < 2 ^ 31 by omega) (show sv 1 < 2 ^ 31 by omega)]
    rfl
  have eM : fX6_chosen M = if d = 1 then some (nI (nq - 1)) else if d = 2 then (if 2 * nq ≤ sv 1 then iter (bfX6_chosen_62 M) FU (nI (nq - 1), (0 : Int32), (1 : Int32)) else some (nI (nq - 1))) else iter (bfX6_chosen_62 M) FU (nI (nq - 1), (0 : Int32), (1 : Int32)) := by
    unfold fX6_chosen bfX6_chosen_58 bfX6_chosen_56
    rw [cl_557, hQ.2.2.1, nm, cl_178, d2, em, cl_175, show M.1 175 = nI (sv 1) from c2, nM_2]
    simp only [eqn_1 (show d < 2 ^ 31 by omega), eqn_2 (show d < 2 ^ 31 by omega), nI_leI (show 2 * nq < 2 ^ 31 by omega) (show sv 1 < 2 ^ 31 by omega)]
  rw [eX, eM]
  by_cases e1 : d = 1
  · exact ⟨nq - 1, by omega, by rw [if_pos e1], by rw [if_pos e1]⟩
  · rw [if_neg e1, if_neg e1]
    by_cases e2 : d = 2
    · rw [if_pos e2, if_pos e2]
      by_cases e3 : 2 * nq ≤ sv 1
      · rw [if_pos e3, if_pos e3]
        exact ⟨0, hq, rfl, e0 (by omega)⟩
      · rw [if_neg e3, if_neg e3]
        exact ⟨nq - 1, by omega, rfl, rfl⟩
    · rw [if_neg e2, if_neg e2]
      by_cases e3 : d = 3
      · rw [if_pos e3]
        obtain ⟨c, q1, q2, q3⟩ := first_loop h ht (by rw [d2, e3]) (nq - 1) 1 0 FU FU (by omega) (by omega) hq (by unfold FU; omega) (by unfold FU; omega)
        refine ⟨c, q1, ?_, q3⟩
        rw [show fX1_firstToExpire_6 S = some (nI c) from q2, ob_eq]
      · rw [if_neg e3]
        exact ⟨0, hq, rfl, e0 e3⟩
theorem hope6 (h : RG F E Zf Zb t K lo wl cl sg sv sw nr r N nq nb qs ws fb gb at_ ow S M) (ht : t < 2 ^ 29) {k : Nat} (hk : k < nq) : fX1_isHopeless_6 (nI k) S = some (if sw 1 = 1 ∧ at_ (qs k) 1 - t < at_ (qs k) 3 + at_ (qs k) 5 then 1 else 0) := by
  have hQ := h.2.2.2.2.1.2.1
  have q16 := hQ.2.1
  obtain ⟨d1, d2, d3, ⟨d4, d5, d6, d7, d8⟩, d9, d10, d11, d12, d13, d14, d15⟩ := hQ.2.2.2 k hk
  have ho := (h.owner d2 d3).2.2.2
  have e12 : S.2 12 = nI t := h.2.2.1.2.1
  have hW := h.1.2.2.2.1
  have ew : sget 4 S (1 : Int32) (0 : Int32) = nI (sw 1) := (tg (w := 1) (rows := 3) (T := S.1 4) (i := 1) (j := 0) (by rw [hW.1]; decide) (by omega) (by omega) (by omega) (by omega)).trans (hW.2 1 (by omega)).1
  have w1 := (hW.2 1 (by omega)).2.2
  have hkT : k < (S.1 6).1 := by rw [hQ.1]; exact hk
  unfold fX1_isHopeless_6
  rw [show sget 6 S (nI k) (1 : Int32) = nI (at_ (qs k) 1) from (sg6 hkT (by omega) (c := 1) (by omega)).trans d5, show sget 6 S (nI k) (2 : Int32) = nI (at_ (qs k) 3) from (sg6 hkT (by omega) (c := 2) (by omega)).trans d6, show sget 6 S (nI k) (3 : Int32) = nI (at_ (qs k) 5) from (sg6 hkT (by omega) (c := 3) (by omega)).trans d7, e12, show (if (0 : Int32) < nI (at_ (qs k) 1) - nI t then nI (at_ (qs k) 1) - nI t else (0 : Int32)) = nI (at_ (qs k) 1 - t) from max0 (by omega) (by omega), nm, nm, ew, nI_add]
  by_cases e : sw 1 = 1
  · rw [if_pos ((eqn_1 (by omega)).mpr e)]
    by_cases e2 : at_ (qs k) 3 + at_ (qs k) 5 ≤ at_ (qs k) 1 - t
    · rw [if_pos (nI_le e2 (by omega)), if_neg (by omega)]
      rfl
    · rw [if_neg (nI_ge (by omega) (by omega)), if_pos ⟨e, by omega⟩]
      rfl
  · rw [if_neg (fun z => e ((eqn_1 (by omega)).mp z)), if_neg (fun z => e z.1)]
    rfl
end CL
