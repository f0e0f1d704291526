/-! attempts move -/
def a7s (at_ : N2) (a v : Nat) : N2 := fun b c => if b = a ∧ c = 7 then v else at_ b c
def w1 (g : N1) (w x : Nat) : N1 := fun j => if j = w then x else g j
section VL
variable {F : Fx} {E Zf Zb : Nat → Prop} {t K lo wl : Nat} {cl sg : N2} {sv sw : N1} {nr : Nat} {r : N2} {N nq nb : Nat} {qs ws fb gb : N1} {at_ : N2} {ow : N1} {S S' : StS} {M M' : MS}
theorem gA.a7 {p p' : Pg} (h : gA p at_ ow) {a v : Nat} (hu : at_ a 9 = 1) (e : ∀ x, 317 ≤ x → x < 557 → x ≠ 317 + 10 * a + 7 → x ≠ 317 + 10 * a + 8 → p' x = p x) (e7 : p' (317 + 10 * a + 7) = nI v) : gA p' (a7s at_ a v) ow := by
  intro b hb
  obtain ⟨h1, h2, h3⟩ := h b hb
  have a9 : a7s at_ a v b 9 = at_ b 9 := if_neg (fun z => absurd z.2 (by decide))
  rw [a9]
  refine ⟨(e _ (by omega) (by omega) (by omega) (by omega)).trans h1, h2, fun z => ⟨(e _ (by omega) (by omega) (by omega) (by omega)).trans (h3 z).1, fun c c1 c2 => ?_⟩⟩
  by_cases q : b = a ∧ c = 7
  · rw [show a7s at_ a v b c = v from if_pos q, q.1, q.2]
    exact e7
  · rw [show a7s at_ a v b c = at_ b c from if_neg q]
    exact (e _ (by omega) (by omega) (by omega) (by omega)).trans ((h3 z).2 c c1 c2)
theorem gL.a7 {p : Pg} (h : gL p nr r at_ ow t E) (a v : Nat) : gL p nr r (a7s at_ a v) ow t E := by
  have h9 : ∀ b, a7s at_ a v b 9 = at_ b 9 := fun b => if_neg (fun z => absurd z.2 (by decide))
  have h1 : ∀ b, a7s at_ a v b 1 = at_ b 1 := fun b => if_neg (fun z => absurd z.2 (by decide))
  unfold gL
  simp only [h9, h1]
  exact h
theorem gU.a7 (h : gU nq qs ws at_) (a v : Nat) : gU nq qs ws (a7s at_ a v) := by
  have h9 : ∀ b, a7s at_ a v b 9 = at_ b 9 := fun b => if_neg (fun z => absurd z.2 (by decide))
  unfold gU
  simp only [h9]
  exact h
/-- the back queue's place k falls away -/
theorem RG.popB (h : RG F E Zf Zb t K lo wl cl sg sv sw nr r N nq nb qs ws fb gb at_ ow S M) {k : Nat} (hk : k < nb) (hp : ∀ x, x < 574 ∨ 591 ≤ x → M'.1 x = M.1 x) (h574 : M'.1 574 = nI (nb - 1)) (hq : ∀ j, j < nb - 1 → M'.1 (575 + j) = M.1 (575 + if k ≤ j then j + 1 else j)) (hr : M'.2.2 = M.2.2) : RG F E Zf Zb t K lo wl cl sg sv sw nr r N nq (nb - 1) qs ws (qdn fb k) gb at_ ow (sdrop 8 S (nI k)) M' := by
  have q := h.nqb
  obtain ⟨hX, hT, hD, hR, ⟨hA, hQ, hF, hB, hG, hU⟩, hL, hN⟩ := h
  obtain ⟨b1, b2, b3, b4, b5⟩ := hB
  have e : sdrop 8 S (nI k) = sset S 8 ((S.1 8).1 - 1, fun a j => if k ≤ a ∧ a + 1 < (S.1 8).1 then (S.1 8).2 (a + 1) j else (S.1 8).2 a j) := by
    show sset S 8 (tdrop 16 (S.1 8) (nI k)) = _
    rw [td (by rw [b1]; exact hk) (by omega) (by omega)]
  have qd : ∀ j, j < nb - 1 → ∃ j', j' < nb ∧ j' ≠ k ∧ qdn fb k j = fb j' ∧ (if k ≤ j then j + 1 else j) = j' := fun j hj => by
    unfold qdn
    by_cases c : k ≤ j
    · exact ⟨j + 1, by omega, by omega, by rw [if_pos c], by rw [if_pos c]⟩
    · exact ⟨j, by omega, by omega, by rw [if_neg c], by rw [if_neg c]⟩
  rw [e]
  refine ⟨hX.cg (Nat.le_refl _) q.1 (by omega) (fun k hk => ss_n (by omega)) (fun x hx => hp x (by omega)), ?_, hD.cg (Nat.le_refl _) (fun _ _ _ => rfl) (fun x hx => hp x (by omega)), ?_, ⟨hA.cg (fun x _ _ => hp x (by omega)), ?_, ?_, ?_, ?_, hU⟩, hL.cg q.2.2 (fun x _ _ => hp x (by omega)), hN.same hT.1 (ss_n (by omega)) rfl hr (fun x hx => hp x (by omega))⟩
  · rw [ss_n (by omega)]
    exact hT.cg (Nat.le_refl _) (fun x _ _ => hp x (by omega))
  · rw [ss_n (by omega)]
    exact hR.cg (Nat.le_refl _) (Nat.le_refl _) (Nat.le_refl _) (fun x _ _ => hp x (by omega))
  · rw [ss_n (by omega)]
    exact hQ.cg (fun x _ _ => hp x (by omega)) (fun _ _ _ => rfl) (fun _ _ => rfl)
  · rw [ss_n (by omega)]
    exact hF.cg (fun x _ _ => hp x (by omega)) (fun w a hw ha => by
      have := ((hF.2 w hw).2.2 a ha).1
      exact hp _ (by omega)) (fun _ _ _ _ _ => rfl) (fun _ _ _ _ => rfl) (fun _ _ z => z)
  · rw [ss_s]
    refine ⟨by show (S.1 8).1 - 1 = _; omega, by omega, h574, fun j hj => ?_, fun j j2 hj hj2 ee => ?_⟩
    · obtain ⟨j', j1, j2, j3, j4⟩ := qd j hj
      have et : (if k ≤ j ∧ j + 1 < (S.1 8).1 then (S.1 8).2 (j + 1) 0 else (S.1 8).2 j 0) = (S.1 8).2 j' 0 := by
        by_cases z : k ≤ j
        · rw [if_pos z] at j4
          rw [if_pos ⟨z, by omega⟩, j4]
        · rw [if_neg z] at j4
          rw [if_neg (fun y => z y.1), j4]
      rw [hq j hj, j3, j4]
      dsimp only
      rw [et]
      exact b4 j' j1
    · obtain ⟨m, m1, m2, m3, m4⟩ := qd j hj
      obtain ⟨n, n1, n2, n3, n4⟩ := qd j2 hj2
      rw [m3, n3] at ee
      have := b5 m n m1 n1 ee
      by_cases c1 : k ≤ j
      · rw [if_pos c1] at m4
        by_cases c2 : k ≤ j2
        · rw [if_pos c2] at n4; omega
        · rw [if_neg c2] at n4; omega
      · rw [if_neg c1] at m4
        by_cases c2 : k ≤ j2
        · rw [if_pos c2] at n4; omega
        · rw [if_neg c2] at n4; omega
  · rw [ss_n (by omega)]
    exact hG.cg (fun x _ _ => hp x (by omega)) (fun _ _ _ _ _ => rfl) (fun _ _ z => z)
/-- a front worker's attempt calls the back server -/
theorem RG.callB (h : RG F E Zf Zb t K lo wl cl sg sv sw nr r N nq nb qs ws fb gb at_ ow S M) {w a : Nat} (hw : w < 4) (ha : ws w = a + 1) (h7 : at_ a 7 = 2) (h3 : at_ a 3 = 0) (h5 : 1 ≤ at_ a 5) (hb : nb < sv 3)
    (s7 : (S'.1 7).1 = 4 ∧ (S'.1 7).2 w 5 = nI 3 ∧ ∀ v j, v ≠ w ∨ j ≠ 5 → (S'.1 7).2 v j = (S.1 7).2 v j) (s8 : (S'.1 8).1 = nb + 1 ∧ (S'.1 8).2 nb 0 = nI w ∧ ∀ j, j < nb → (S'.1 8).2 j 0 = (S.1 8).2 j 0) (sk : ∀ k, k ≠ 7 → k ≠ 8 → S'.1 k = S.1 k) (s2 : S'.2 = S.2)
    (hp : ∀ x, x ≠ 574 → x ≠ 575 + nb → x ≠ 317 + 10 * a + 7 → M'.1 x = M.1 x) (hp7 : M'.1 (317 + 10 * a + 7) = nI 3) (h574 : M'.1 574 = nI (nb + 1)) (h575 : M'.1 (575 + nb) = nI a) (hr : M'.2.2 = M.2.2) : RG F E Zf Zb t K lo wl cl sg sv sw nr r N nq (nb + 1) qs ws (w1 fb nb w) gb (a7s at_ a 3) ow S' M' := by
  have q := h.nqb
  obtain ⟨hX, hT, hD, hR, ⟨hA, hQ, hF, hB, hG, hU⟩, hL, hN⟩ := h
  have hsv := (hX.2.2.1.2.1 3 (by omega)).2.2.2
  rw [show mxS 3 = 16 from rfl] at hsv
  have hwa := (hF.2 w hw).2.2 a ha
  have ha24 := hwa.1
  have ao : ∀ b c, b ≠ a → a7s at_ a 3 b c = at_ b c := fun b c e => if_neg (fun z => e z.1)
  have ac : ∀ b c, c ≠ 7 → a7s at_ a 3 b c = at_ b c := fun b c e => if_neg (fun z => e z.2)
  have a7 : a7s at_ a 3 a 7 = 3 := if_pos ⟨rfl, rfl⟩
  have hw0 : ∀ v b, v < 4 → v ≠ w → ws v = b + 1 → b ≠ a := fun v b hv hne hb e => hne (hU.2.1 v w hv hw (by omega) (by rw [hb, ha, e]))
  have hq0 : ∀ k, k < nq → qs k ≠ a := fun k hk e => hU.2.2.1 k w hk hw (by rw [ha, e])
  have hfb : ∀ k, k < nb → fb k ≠ w := fun k hk e => by
    obtain ⟨-, -, b, c3, -, c5⟩ := hB.2.2.2.1 k hk
    rw [e, ha] at c3
    obtain rfl : a = b := by omega
    omega
  have fo : ∀ k, k < nb → w1 fb nb w k = fb k := fun k hk => if_neg (by omega)
  have hp0 : ∀ x, x < 574 ∨ 591 ≤ x → x ≠ 317 + 10 * a + 7 → M'.1 x = M.1 x := fun x h1 h2 => hp x (by omega) (by omega) h2
  unfold RG gY
  rw [sk 1 (by omega) (by omega), sk 5 (by omega) (by omega), sk 6 (by omega) (by omega), sk 9 (by omega) (by omega), s2]
  refine ⟨hX.cg (Nat.le_refl _) q.1 (by omega) (fun k hk => sk k (by omega) (by omega)) (fun x hx => hp0 x (by omega) (by omega)), hT.cg (Nat.le_refl _) (fun x _ _ => hp0 x (by omega) (by omega)), hD.cg (Nat.le_refl _) (fun _ _ _ => rfl) (fun x hx => hp0 x (by omega) (by omega)), hR.cg (Nat.le_refl _) (Nat.le_refl _) (Nat.le_refl _) (fun x _ _ => hp0 x (by omega) (by omega)), ⟨hA.a7 hwa.2.1 (fun x h1 h2 h3 _ => hp0 x (by omega) h3) hp7, ?_, ?_, ?_, ?_, hU.a7 a 3⟩, (hL.cg q.2.2 (fun x _ _ => hp0 x (by omega) (by omega))).a7 a 3, hN.same hT.1 (sk 1 (by omega) (by omega)) (by rw [s2]) hr (fun x hx => hp0 x (by omega) (by omega))⟩
  · exact hQ.cg (fun x _ _ => hp0 x (by omega) (by omega)) (fun k c hk => ao _ _ (hq0 k hk)) (fun _ _ => rfl)
  · refine ⟨s7.1, fun v hv => ?_⟩
    obtain ⟨c1, c2, c3⟩ := hF.2 v hv
    refine ⟨(hp0 _ (by omega) (by omega)).trans c1, fun z => (s7.2.2 v 0 (Or.inr (by decide))).trans (c2 z), fun b hb2 => ?_⟩
    obtain ⟨d1, d2, d3, ⟨d4, d5, d6, d7, d8, d9⟩, d10, d11, d12, d13, d14, d15⟩ := c3 b hb2
    by_cases e : v = w
    · subst e
      obtain rfl : a = b := by omega
      rw [a7, ac _ 9 (by decide), ac _ 1 (by decide), ac _ 3 (by decide), ac _ 4 (by decide), ac _ 5 (by decide), ac _ 6 (by decide), s7.2.2 v 0 (Or.inr (by decide)), s7.2.2 v 1 (Or.inr (by decide)), s7.2.2 v 2 (Or.inr (by decide)), s7.2.2 v 3 (Or.inr (by decide)), s7.2.2 v 4 (Or.inr (by decide)), hp0 (317 + 10 * a + 8) (by omega) (by omega)]
      exact ⟨d1, d2, d3, ⟨d4, d5, d6, d7, d8, s7.2.1⟩, d10, by omega, by omega, fun z => absurd z (by decide), fun _ => ⟨(d13 h7).1, h3, h5⟩, fun z => absurd z (by decide)⟩
    · have e3 := hw0 v b hv e hb2
      rw [s7.2.2 v 0 (Or.inl e), s7.2.2 v 1 (Or.inl e), s7.2.2 v 2 (Or.inl e), s7.2.2 v 3 (Or.inl e), s7.2.2 v 4 (Or.inl e), s7.2.2 v 5 (Or.inl e), hp0 (317 + 10 * b + 8) (by omega) (by omega)]
      simp only [ao _ _ e3]
      exact ⟨d1, d2, d3, ⟨d4, d5, d6, d7, d8, d9⟩, d10, d11, d12, d13, d14, d15⟩
  · obtain ⟨b1, b2, b3, b4, b5⟩ := hB
    refine ⟨s8.1, by omega, h574, fun k hk => ?_, fun k k2 hk hk2 ee => ?_⟩
    · by_cases e : k = nb
      · subst e
        rw [show w1 fb k w k = w from if_pos rfl]
        exact ⟨hw, s8.2.1, a, ha, h575, a7⟩
      · obtain ⟨c1, c2, b, c3, c4, c5⟩ := b4 k (by omega)
        rw [fo k (by omega)]
        have eb : b ≠ a := hw0 (fb k) b c1 (hfb k (by omega)) c3
        exact ⟨c1, (s8.2.2 k (by omega)).trans c2, b, c3, (hp _ (by omega) (by omega) (by omega)).trans c4, (ao b 7 eb).trans c5⟩
    · by_cases e : k = nb
      · by_cases e2 : k2 = nb
        · omega
        · rw [fo k2 (by omega), show w1 fb nb w k = w from if_pos e] at ee
          exact absurd ee.symm (hfb k2 (by omega))
      · by_cases e2 : k2 = nb
        · rw [fo k (by omega), show w1 fb nb w k2 = w from if_pos e2] at ee
          exact absurd ee (hfb k (by omega))
        · rw [fo k (by omega), fo k2 (by omega)] at ee
          exact b5 k k2 (by omega) (by omega) ee
  · obtain ⟨g1, g2, g3, g4⟩ := hG
    refine ⟨g1, fun v hv => ?_, g3, fun f b hf hb2 z => ?_⟩
    · obtain ⟨c1, c2, c3⟩ := g2 v hv
      refine ⟨c1, fun z => (hp0 _ (by omega) (by omega)).trans (c2 z), fun f z => ?_⟩
      obtain ⟨d1, b, d2, d3, d4, d5⟩ := c3 f z
      have eb : b ≠ a := fun y => by rw [y] at d4; omega
      exact ⟨d1, b, d2, (hp0 _ (by omega) (by omega)).trans d3, (ao b 7 eb).trans d4, by rw [ao b 5 eb]; exact d5⟩
    · have eb : b ≠ a := fun y => by rw [y, a7] at z; omega
      rw [ao b 7 eb] at z
      exact g4 f b hf hb2 z
/-- the attempt at a front worker that has left the back queue comes to a back worker -/
theorem RG.toB (h : RG F E Zf Zb t K lo wl cl sg sv sw nr r N nq nb qs ws fb gb at_ ow S M) {f v a : Nat} (hf : f < 4) (hv : v < 4) (ha : ws f = a + 1) (h7 : at_ a 7 = 3) (hb : ∀ k, k < nb → fb k ≠ f) (hg : gb v = 0)
    (s7 : (S'.1 7).1 = 4 ∧ (S'.1 7).2 f 5 = nI 4 ∧ ∀ w j, w ≠ f ∨ j ≠ 5 → (S'.1 7).2 w j = (S.1 7).2 w j) (s9 : (S'.1 9).1 = 4 ∧ (S'.1 9).2 v 0 = nI f ∧ ∀ w, w < 4 → w ≠ v → (S'.1 9).2 w 0 = (S.1 9).2 w 0) (sk : ∀ k, k ≠ 7 → k ≠ 9 → S'.1 k = S.1 k) (s2 : S'.2 = S.2)
    (hp : ∀ x, x ≠ 595 + v → x ≠ 317 + 10 * a + 7 → M'.1 x = M.1 x) (hp7 : M'.1 (317 + 10 * a + 7) = nI 4) (h595 : M'.1 (595 + v) = nI a) (hr : M'.2.2 = M.2.2) : RG F E Zf Zb t K lo wl cl sg sv sw nr r N nq nb qs ws fb (w1 gb v (f + 1)) (a7s at_ a 4) ow S' M' := by
  have q := h.nqb
  obtain ⟨hX, hT, hD, hR, ⟨hA, hQ, hF, hB, hG, hU⟩, hL, hN⟩ := h
  have hwa := (hF.2 f hf).2.2 a ha
  have ha24 := hwa.1
  have ao : ∀ b c, b ≠ a → a7s at_ a 4 b c = at_ b c := fun b c e => if_neg (fun z => e z.1)
  have ac : ∀ b c, c ≠ 7 → a7s at_ a 4 b c = at_ b c := fun b c e => if_neg (fun z => e z.2)
  have a7 : a7s at_ a 4 a 7 = 4 := if_pos ⟨rfl, rfl⟩
  have hw0 : ∀ w b, w < 4 → w ≠ f → ws w = b + 1 → b ≠ a := fun w b hv hne hb e => hne (hU.2.1 w f hv hf (by omega) (by rw [hb, ha, e]))
  have hq0 : ∀ k, k < nq → qs k ≠ a := fun k hk e => hU.2.2.1 k f hk hf (by rw [ha, e])
  have hgf : ∀ w, w < 4 → gb w ≠ f + 1 := fun w hw e => by
    obtain ⟨-, b, d2, -, d4, -⟩ := (hG.2.1 w hw).2.2 f e
    obtain rfl : a = b := by omega
    omega
  have go : ∀ w, w ≠ v → w1 gb v (f + 1) w = gb w := fun w e => if_neg e
  have gv : w1 gb v (f + 1) v = f + 1 := if_pos rfl
  have hp0 : ∀ x, x < 595 ∨ 599 ≤ x → x ≠ 317 + 10 * a + 7 → M'.1 x = M.1 x := fun x h1 h2 => hp x (by omega) h2
  unfold RG gY
  rw [sk 1 (by omega) (by omega), sk 5 (by omega) (by omega), sk 6 (by omega) (by omega), sk 8 (by omega) (by omega), s2]
  refine ⟨hX.cg (Nat.le_refl _) q.1 q.2.1 (fun k hk => sk k (by omega) (by omega)) (fun x hx => hp0 x (by omega) (by omega)), hT.cg (Nat.le_refl _) (fun x _ _ => hp0 x (by omega) (by omega)), hD.cg (Nat.le_refl _) (fun _ _ _ => rfl) (fun x hx => hp0 x (by omega) (by omega)), hR.cg (Nat.le_refl _) (Nat.le_refl _) (Nat.le_refl _) (fun x _ _ => hp0 x (by omega) (by omega)), ⟨hA.a7 hwa.2.1 (fun x h1 h2 h3 _ => hp0 x (by omega) h3) hp7, ?_, ?_, ?_, ?_, hU.a7 a 4⟩, (hL.cg q.2.2 (fun x _ _ => hp0 x (by omega) (by omega))).a7 a 4, hN.same hT.1 (sk 1 (by omega) (by omega)) (by rw [s2]) hr (fun x hx => hp0 x (by omega) (by omega))⟩
  · exact hQ.cg (fun x _ _ => hp0 x (by omega) (by omega)) (fun k c hk => ao _ _ (hq0 k hk)) (fun _ _ => rfl)
  · refine ⟨s7.1, fun w hw => ?_⟩
    obtain ⟨c1, c2, c3⟩ := hF.2 w hw
    refine ⟨(hp0 _ (by omega) (by omega)).trans c1, fun z => (s7.2.2 w 0 (Or.inr (by decide))).trans (c2 z), fun b hb2 => ?_⟩
    obtain ⟨d1, d2, d3, ⟨d4, d5, d6, d7, d8, d9⟩, d10, d11, d12, d13, d14, d15⟩ := c3 b hb2
    by_cases e : w = f
    · subst e
      obtain rfl : a = b := by omega
      rw [a7, ac _ 9 (by decide), ac _ 1 (by decide), ac _ 3 (by decide), ac _ 4 (by decide), ac _ 5 (by decide), ac _ 6 (by decide), s7.2.2 w 0 (Or.inr (by decide)), s7.2.2 w 1 (Or.inr (by decide)), s7.2.2 w 2 (Or.inr (by decide)), s7.2.2 w 3 (Or.inr (by decide)), s7.2.2 w 4 (Or.inr (by decide)), hp0 (317 + 10 * a + 8) (by omega) (by omega)]
      exact ⟨d1, d2, d3, ⟨d4, d5, d6, d7, d8, s7.2.1⟩, d10, by omega, by omega, fun z => absurd z (by decide), fun z => absurd z (by decide), fun _ => (d14 h7).2.1⟩
    · have e3 := hw0 w b hw e hb2
      rw [s7.2.2 w 0 (Or.inl e), s7.2.2 w 1 (Or.inl e), s7.2.2 w 2 (Or.inl e), s7.2.2 w 3 (Or.inl e), s7.2.2 w 4 (Or.inl e), s7.2.2 w 5 (Or.inl e), hp0 (317 + 10 * b + 8) (by omega) (by omega)]
      simp only [ao _ _ e3]
      exact ⟨d1, d2, d3, ⟨d4, d5, d6, d7, d8, d9⟩, d10, d11, d12, d13, d14, d15⟩
  · obtain ⟨b1, b2, b3, b4, b5⟩ := hB
    refine ⟨b1, b2, (hp0 _ (by omega) (by omega)).trans b3, fun k hk => ?_, b5⟩
    obtain ⟨c1, c2, b, c3, c4, c5⟩ := b4 k hk
    have eb : b ≠ a := hw0 (fb k) b c1 (hb k hk) c3
    exact ⟨c1, c2, b, c3, (hp0 _ (by omega) (by omega)).trans c4, (ao b 7 eb).trans c5⟩
  · obtain ⟨g1, g2, g3, g4⟩ := hG
    refine ⟨s9.1, fun w hw => ?_, fun w w' hw hw' hne he => ?_, fun f' b hf' hb2 z => ?_⟩
    · by_cases e : w = v
      · subst e
        rw [gv]
        refine ⟨s9.2.1, fun z => absurd z (by omega), fun f' z => ?_⟩
        obtain rfl : f = f' := by omega
        refine ⟨hf, a, ha, h595, a7, Or.inr ?_⟩
        rw [ac _ 5 (by decide)]
        exact (hwa.2.2.2.2.2.2.2.2.1 h7).2.2
      · obtain ⟨c1, c2, c3⟩ := g2 w hw
        rw [go w e]
        refine ⟨(s9.2.2 w hw e).trans c1, fun z => (hp _ (by omega) (by omega)).trans (c2 z), fun f' z => ?_⟩
        obtain ⟨d1, b, d2, d3, d4, d5⟩ := c3 f' z
        have eb : b ≠ a := fun y => by rw [y] at d4; omega
        exact ⟨d1, b, d2, (hp _ (by omega) (by omega)).trans d3, (ao b 7 eb).trans d4, by rw [ao b 5 eb]; exact d5⟩
    · by_cases e1 : w = v
      · by_cases e2 : w' = v
        · omega
        · rw [e1, gv, go w' e2] at he
          exact absurd he.symm (hgf w' hw')
      · by_cases e2 : w' = v
        · rw [e2, gv, go w e1] at he
          exact absurd he (hgf w hw)
        · rw [go w e1] at hne he
          rw [go w' e2] at he
          exact g3 w w' hw hw' hne he
    · by_cases e : b = a
      · subst e
        have : f' = f := hU.2.1 f' f hf' hf (by omega) (by rw [hb2, ha])
        exact ⟨v, hv, by rw [gv, this]⟩
      · rw [ao b 7 e] at z
        obtain ⟨w, hw, e2⟩ := g4 f' b hf' hb2 z
        have ew : w ≠ v := fun y => by rw [y] at e2; omega
        exact ⟨w, hw, by rw [go w ew]; exact e2⟩
end VL
