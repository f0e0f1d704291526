/-! a front worker takes an attempt from the queue -/
section TL
variable {F : Fx} {E Zf Zb : Nat → Prop} {t K lo wl : Nat} {cl sg : N2} {sv sw : N1} {nr : Nat} {r : N2} {N nq nb : Nat} {qs ws fb gb : N1} {at_ : N2} {ow : N1} {S S' : StS} {M M' : MS}
theorem RG.takeQ (h : RG F E Zf Zb t K lo wl cl sg sv sw nr r N nq nb qs ws fb gb at_ ow S M) {k w : Nat} (hk : k < nq) (hw : w < 4) (h0 : ws w = 0)
    (s6 : (S'.1 6).1 = nq - 1 ∧ ∀ j c, j < nq - 1 → (S'.1 6).2 j c = (S.1 6).2 (if k ≤ j then j + 1 else j) c) (s7 : (S'.1 7).1 = 4 ∧ (∀ c, c < 5 → (S'.1 7).2 w c = (S.1 6).2 k c) ∧ (S'.1 7).2 w 5 = nI 2 ∧ ∀ v c, v ≠ w → (S'.1 7).2 v c = (S.1 7).2 v c) (sk : ∀ k, k ≠ 6 → k ≠ 7 → S'.1 k = S.1 k) (s2 : S'.2 = S.2)
    (hp : ∀ x, x < 557 ∨ 574 ≤ x → x ≠ 591 + w → x ≠ 317 + 10 * qs k + 7 → x ≠ 317 + 10 * qs k + 8 → M'.1 x = M.1 x) (h557 : M'.1 557 = nI (nq - 1)) (hq : ∀ j, j < nq - 1 → M'.1 (558 + j) = M.1 (558 + if k ≤ j then j + 1 else j)) (h591 : M'.1 (591 + w) = nI (qs k)) (hp7 : M'.1 (317 + 10 * qs k + 7) = nI 2) (hp8 : M'.1 (317 + 10 * qs k + 8) = nI w) (hr : M'.2.2 = M.2.2) : RG F E Zf Zb t K lo wl cl sg sv sw nr r N (nq - 1) nb (qdn qs k) (w1 ws w (qs k + 1)) fb gb (a7s at_ (qs k) 2) ow S' M' := by
  have q := h.nqb
  obtain ⟨hX, hT, hD, hR, ⟨hA, hQ, hF, hB, hG, hU⟩, hL, hN⟩ := h
  obtain ⟨u1, u2, u3, u4⟩ := hU
  have hqk := hQ.2.2.2 k hk
  generalize hqa : qs k = a at *
  have ha24 := hqk.2.1
  have ao : ∀ b c, b ≠ a → a7s at_ a 2 b c = at_ b c := fun b c e => if_neg (fun z => e z.1)
  have ac : ∀ b c, c ≠ 7 → a7s at_ a 2 b c = at_ b c := fun b c e => if_neg (fun z => e z.2)
  have a7 : a7s at_ a 2 a 7 = 2 := if_pos ⟨rfl, rfl⟩
  have hw0 : ∀ v b, v < 4 → ws v = b + 1 → b ≠ a := fun v b hv hb e => u3 k v hk hv (by rw [hb, hqa, e])
  have wo : ∀ v, v ≠ w → w1 ws w (a + 1) v = ws v := fun v e => if_neg e
  have ww : w1 ws w (a + 1) w = a + 1 := if_pos rfl
  have qd : ∀ j, j < nq - 1 → ∃ j', j' < nq ∧ j' ≠ k ∧ qdn qs k j = qs j' ∧ (if k ≤ j then j + 1 else j) = j' := fun j hj => by
    unfold qdn
    by_cases c : k ≤ j
    · exact ⟨j + 1, by omega, by omega, by rw [if_pos c], by rw [if_pos c]⟩
    · exact ⟨j, by omega, by omega, by rw [if_neg c], by rw [if_neg c]⟩
  have hqa2 : ∀ j, j < nq → j ≠ k → qs j ≠ a := fun j hj hne e => hne (u1 j k hj hk (by rw [e, hqa]))
  have hp0 : ∀ x, x < 317 ∨ 574 ≤ x ∧ x < 591 ∨ 595 ≤ x → M'.1 x = M.1 x := fun x h1 => hp x (by omega) (by omega) (by omega) (by omega)
  unfold RG gY
  rw [sk 1 (by omega) (by omega), sk 5 (by omega) (by omega), sk 8 (by omega) (by omega), sk 9 (by omega) (by omega), s2]
  refine ⟨hX.cg (Nat.le_refl _) (by omega) q.2.1 (fun k hk => sk k (by omega) (by omega)) (fun x hx => hp0 x (by omega)), hT.cg (Nat.le_refl _) (fun x _ _ => hp0 x (by omega)), hD.cg (Nat.le_refl _) (fun _ _ _ => rfl) (fun x hx => hp0 x (by omega)), hR.cg (Nat.le_refl _) (Nat.le_refl _) (Nat.le_refl _) (fun x _ _ => hp0 x (by omega)), ⟨hA.a7 hqk.2.2.1 (fun x h1 h2 h3 h4 => hp x (by omega) (by omega) h3 h4) hp7, ?_, ?_, ?_, ?_, ?_⟩, (hL.cg q.2.2 (fun x _ _ => hp0 x (by omega))).a7 a 2, hN.same hT.1 (sk 1 (by omega) (by omega)) (by rw [s2]) hr (fun x hx => hp0 x (by omega))⟩
  · obtain ⟨k1, k2, k3, k4⟩ := hQ
    refine ⟨s6.1, by omega, h557, fun j hj => ?_⟩
    obtain ⟨j', j1, j2, j3, j4⟩ := qd j hj
    have e2 := hqa2 j' j1 j2
    rw [hq j hj, j3, s6.2 j 0 hj, s6.2 j 1 hj, s6.2 j 2 hj, s6.2 j 3 hj, s6.2 j 4 hj, j4]
    simp only [ao _ _ e2]
    exact k4 j' j1
  · refine ⟨s7.1, fun v hv => ?_⟩
    by_cases e : v = w
    · subst e
      rw [ww]
      refine ⟨h591, fun z => absurd z (by omega), fun b hb => ?_⟩
      obtain rfl : a = b := by omega
      obtain ⟨d1, d2, d3, ⟨d4, d5, d6, d7, d8⟩, d9, d10, d11, d12, d13, d14, d15⟩ := hqk
      rw [a7, ac _ 9 (by decide), ac _ 1 (by decide), ac _ 3 (by decide), ac _ 4 (by decide), ac _ 5 (by decide), ac _ 6 (by decide), s7.2.1 0 (by decide), s7.2.1 1 (by decide), s7.2.1 2 (by decide), s7.2.1 3 (by decide), s7.2.1 4 (by decide), d14]
      exact ⟨d2, d3, hp8, ⟨d4, d5, d6, d7, d8, s7.2.2.1⟩, by omega, by omega, by omega, fun _ => ⟨d10, Or.inr d11⟩, fun z => absurd z (by decide), fun z => absurd z (by decide)⟩
    · obtain ⟨c1, c2, c3⟩ := hF.2 v hv
      rw [wo v e]
      refine ⟨(hp _ (by omega) (by omega) (by omega) (by omega)).trans c1, fun z => (s7.2.2.2 v 0 e).trans (c2 z), fun b hb => ?_⟩
      have e3 := hw0 v b hv hb
      have h4 := c3 b hb
      have := h4.1
      rw [s7.2.2.2 v 0 e, s7.2.2.2 v 1 e, s7.2.2.2 v 2 e, s7.2.2.2 v 3 e, s7.2.2.2 v 4 e, s7.2.2.2 v 5 e, hp (317 + 10 * b + 8) (by omega) (by omega) (by omega) (by omega)]
      simp only [ao _ _ e3]
      exact h4
  · obtain ⟨b1, b2, b3, b4, b5⟩ := hB
    refine ⟨b1, b2, (hp0 _ (by omega)).trans b3, fun j hj => ?_, b5⟩
    obtain ⟨c1, c2, b, c3, c4, c5⟩ := b4 j hj
    have ef : fb j ≠ w := fun z => by rw [z, h0] at c3; omega
    exact ⟨c1, c2, b, by rw [wo _ ef]; exact c3, (hp0 _ (by omega)).trans c4, (ao b 7 (hw0 _ b c1 c3)).trans c5⟩
  · obtain ⟨g1, g2, g3, g4⟩ := hG
    refine ⟨g1, fun v hv => ?_, g3, fun f b hf hb z => ?_⟩
    · obtain ⟨c1, c2, c3⟩ := g2 v hv
      refine ⟨c1, fun z => (hp0 _ (by omega)).trans (c2 z), fun f z => ?_⟩
      obtain ⟨d1, b, d2, d3, d4, d5⟩ := c3 f z
      have ef : f ≠ w := fun z => by rw [z, h0] at d2; omega
      have eb := hw0 f b d1 d2
      exact ⟨d1, b, by rw [wo _ ef]; exact d2, (hp0 _ (by omega)).trans d3, (ao b 7 eb).trans d4, by rw [ao b 5 eb]; exact d5⟩
    · by_cases e : f = w
      · rw [e, ww] at hb
        obtain rfl : a = b := by omega
        rw [a7] at z
        exact absurd z (by decide)
      · rw [wo f e] at hb
        rw [ao b 7 (hw0 f b hf hb)] at z
        exact g4 f b hf hb z
  · refine ⟨fun j j2 hj hj2 ee => ?_, fun v v' hv hv' hne he => ?_, fun j v hj hv => ?_, fun b hb hub => ?_⟩
    · obtain ⟨m, m1, m2, m3, m4⟩ := qd j hj
      obtain ⟨n, n1, n2, n3, n4⟩ := qd j2 hj2
      rw [m3, n3] at ee
      have := u1 m n m1 n1 ee
      by_cases c1 : k ≤ j
      · rw [if_pos c1] at m4
        by_cases c2 : k ≤ j2
        · rw [if_pos c2] at n4; omega
        · rw [if_neg c2] at n4; omega
      · rw [if_neg c1] at m4
        by_cases c2 : k ≤ j2
        · rw [if_pos c2] at n4; omega
        · rw [if_neg c2] at n4; omega
    · by_cases e1 : v = w
      · by_cases e2 : v' = w
        · omega
        · rw [e1, ww, wo v' e2] at he
          exact absurd rfl (hw0 v' a hv' he.symm)
      · by_cases e2 : v' = w
        · rw [e2, ww, wo v e1] at he
          exact absurd rfl (hw0 v a hv he)
        · rw [wo v e1] at hne he
          rw [wo v' e2] at he
          exact u2 v v' hv hv' hne he
    · obtain ⟨m, m1, m2, m3, m4⟩ := qd j hj
      rw [m3]
      by_cases e1 : v = w
      · rw [e1, ww]
        have := hqa2 m m1 m2
        omega
      · rw [wo v e1]
        exact u3 m v m1 hv
    · rw [ac b 9 (by decide)] at hub
      rcases u4 b hb hub with ⟨m, hm, e2⟩ | ⟨v, hv, e2⟩
      · by_cases c0 : m = k
        · exact Or.inr ⟨w, hw, by rw [ww, ← hqa, ← c0, e2]⟩
        · by_cases c : m < k
          · exact Or.inl ⟨m, by omega, by unfold qdn; rw [if_neg (by omega)]; exact e2⟩
          · exact Or.inl ⟨m - 1, by omega, by unfold qdn; rw [if_pos (by omega), show m - 1 + 1 = m by omega]; exact e2⟩
      · have e : v ≠ w := fun z => by rw [z, h0] at e2; omega
        exact Or.inr ⟨v, hv, by rw [wo v e]; exact e2⟩
end TL
