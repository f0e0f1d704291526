/-! an attempt leaves the queue, or a worker -/
def uoff (at_ : N2) (a : Nat) : N2 := fun b c => if b = a ∧ c = 9 then 0 else at_ b c
def qdn (qs : N1) (k : Nat) : N1 := fun j => if k ≤ j then qs (j + 1) else qs j
section OL
variable {F : Fx} {E Zf Zb : Nat → Prop} {t K lo wl : Nat} {cl sg : N2} {sv sw : N1} {nr : Nat} {r : N2} {N nq nb : Nat} {qs ws fb gb : N1} {at_ : N2} {ow : N1} {S S' : StS} {M M' : MS}
theorem gL.off {T : Tb} {p p' : Pg} (hR : gR T p nr r t N lo wl E) (h : gL p nr r at_ ow t E) {a : Nat} (ha : a < 24) (hu : at_ a 9 = 1) (e : ∀ x, 189 ≤ x → x < 317 → p' x = p x) : gL p' nr r (uoff at_ a) ow t (fun x => E x ∨ x + 1 = ow a) := by
  have ao : ∀ b c, b ≠ a → uoff at_ a b c = at_ b c := fun b c e => if_neg (fun z => e z.1)
  refine ⟨fun i hi h0 hne => ?_, fun b hb hub => ?_⟩
  · obtain ⟨d1, d2, d3, d4, d5⟩ := h.1 i hi h0 (fun z => hne (Or.inl z))
    have e7 : r i 7 ≠ a := fun z => hne (Or.inr (by rw [← z]; exact d3.symm))
    rw [ao _ _ e7, ao _ _ e7]
    have := hR.2.1
    exact ⟨d1, d2, d3, (e _ (by omega) (by omega)).trans d4, d5⟩
  · have eb : b ≠ a := fun z => by
      rw [z, show uoff at_ a a 9 = 0 from if_pos ⟨rfl, rfl⟩] at hub
      omega
    rw [ao _ _ eb] at hub ⊢
    obtain ⟨c1, c2⟩ := h.2 b hb hub
    refine ⟨c1, c2.imp id ?_⟩
    rintro ⟨k, z1, z2, z3, z4, z5⟩
    refine ⟨k, z1, z2, z3, z4, ?_⟩
    rintro (he | he)
    · exact z5 he
    · rcases (h.2 a ha hu).2 with ⟨w, -⟩ | ⟨k2, y1, y2, y3, y4, y5⟩
      · omega
      · have := hR.ne z1 y1 (by omega)
        subst this
        exact eb (z4.symm.trans y4)
theorem gA.off {p p' : Pg} (h : gA p at_ ow) {a : Nat} (e : ∀ x, 317 ≤ x → x < 557 → x ≠ 317 + 10 * a + 9 → p' x = p x) (e9 : p' (317 + 10 * a + 9) = nI 0) : gA p' (uoff at_ a) ow := by
  intro b hb
  by_cases q : b = a
  · subst q
    rw [show uoff at_ b b 9 = 0 from if_pos ⟨rfl, rfl⟩]
    exact ⟨e9, by omega, fun z => absurd z (by decide)⟩
  · obtain ⟨h1, h2, h3⟩ := h b hb
    have ao : ∀ c, uoff at_ a b c = at_ b c := fun c => if_neg (fun z => q z.1)
    rw [ao]
    refine ⟨(e _ (by omega) (by omega) (by omega)).trans h1, h2, fun z => ⟨(e _ (by omega) (by omega) (by omega)).trans (h3 z).1, fun c c1 c2 => ?_⟩⟩
    rw [ao]
    exact (e _ (by omega) (by omega) (by omega)).trans ((h3 z).2 c c1 c2)
/-- the attempt at place k of the front queue is lost -/
theorem RG.lostQ (h : RG F E Zf Zb t K lo wl cl sg sv sw nr r N nq nb qs ws fb gb at_ ow S M) {k : Nat} (hk : k < nq) (hp : ∀ x, x < 557 ∨ 574 ≤ x → x ≠ 317 + 10 * qs k + 9 → M'.1 x = M.1 x) (h9 : M'.1 (317 + 10 * qs k + 9) = nI 0) (h557 : M'.1 557 = nI (nq - 1)) (hq : ∀ j, j < nq - 1 → M'.1 (558 + j) = M.1 (558 + if k ≤ j then j + 1 else j)) (hr : M'.2.2 = M.2.2) : RG F (fun x => E x ∨ x + 1 = ow (qs k)) Zf Zb t K lo wl cl sg sv sw nr r N (nq - 1) nb (qdn qs k) ws fb gb (uoff at_ (qs k)) ow (sdrop 6 S (nI k)) M' := by
  have q := h.nqb
  obtain ⟨hX, hT, hD, hR, ⟨hA, hQ, hF, hB, hG, hU⟩, hL, hN⟩ := h
  have ha := (hQ.2.2.2 k hk).2.1
  have hu := (hQ.2.2.2 k hk).2.2.1
  obtain ⟨u1, u2, u3, u4⟩ := hU
  have ao : ∀ b c, b ≠ qs k → uoff at_ (qs k) b c = at_ b c := fun b c e => if_neg (fun z => e z.1)
  have hw0 : ∀ w a, w < 4 → ws w = a + 1 → a ≠ qs k := fun w a hw ha e => u3 k w hk hw (by rw [ha, e])
  have e : sdrop 6 S (nI k) = sset S 6 ((S.1 6).1 - 1, fun a j => if k ≤ a ∧ a + 1 < (S.1 6).1 then (S.1 6).2 (a + 1) j else (S.1 6).2 a j) := by
    show sset S 6 (tdrop 16 (S.1 6) (nI k)) = _
    rw [td (by rw [hQ.1]; exact hk) (by rw [hQ.1]; exact hQ.2.1) (by omega)]
  have qd : ∀ j, j < nq - 1 → ∃ j', j' < nq ∧ j' ≠ k ∧ qdn qs k j = qs j' ∧ (if k ≤ j then j + 1 else j) = j' := fun j hj => by
    unfold qdn
    by_cases c : k ≤ j
    · exact ⟨j + 1, by omega, by omega, by rw [if_pos c], by rw [if_pos c]⟩
    · exact ⟨j, by omega, by omega, by rw [if_neg c], by rw [if_neg c]⟩
  rw [e]
  refine ⟨hX.cg (Nat.le_refl _) (by omega) q.2.1 (fun k hk => ss_n (by omega)) (fun x hx => hp x (by omega) (by omega)), ?_, hD.cg (Nat.le_refl _) (fun _ _ _ => rfl) (fun x hx => hp x (by omega) (by omega)), ?_, ⟨hA.off (fun x h1 h2 h3 => hp x (by omega) h3) h9, ?_, ?_, ?_, ?_, ?_⟩, hL.off hR ha hu (fun x _ _ => hp x (by omega) (by omega)), hN.cg hT.1 ?_ ?_ ?_ rfl hr (fun x hx => hp x (by omega) (by omega))⟩
  · rw [ss_n (by omega)]
    exact hT.cg (Nat.le_refl _) (fun x _ _ => hp x (by omega) (by omega))
  · rw [ss_n (by omega)]
    exact (hR.cg (Nat.le_refl _) (Nat.le_refl _) (Nat.le_refl _) (fun x _ _ => hp x (by omega) (by omega))).ex (fun i hi hne he => hne (Or.inl he))
  · rw [ss_s]
    obtain ⟨k1, k2, k3, k4⟩ := hQ
    refine ⟨by show (S.1 6).1 - 1 = _; omega, by omega, h557, fun j hj => ?_⟩
    obtain ⟨j', j1, j2, j3, j4⟩ := qd j hj
    have e2 : qs j' ≠ qs k := fun z => j2 (u1 j' k j1 hk z)
    have et : ∀ c, (if k ≤ j ∧ j + 1 < (S.1 6).1 then (S.1 6).2 (j + 1) c else (S.1 6).2 j c) = (S.1 6).2 j' c := fun c => by
      by_cases z : k ≤ j
      · rw [if_pos z] at j4
        rw [if_pos ⟨z, by omega⟩, j4]
      · rw [if_neg z] at j4
        rw [if_neg (fun y => z y.1), j4]
    rw [hq j hj, j3, j4]
    simp only [ao _ _ e2, et]
    exact k4 j' j1
  · rw [ss_n (by omega)]
    exact hF.cg (fun x _ _ => hp x (by omega) (by omega)) (fun w a hw ha2 => by
      have := ((hF.2 w hw).2.2 a ha2).1
      exact hp _ (by omega) (by omega)) (fun w a c hw ha => ao a c (hw0 w a hw ha)) (fun _ _ _ _ => rfl) (fun _ _ z => z)
  · rw [ss_n (by omega)]
    exact hB.cg (fun x _ _ => hp x (by omega) (by omega)) (fun w a hw ha => ao a 7 (hw0 w a hw ha))
  · rw [ss_n (by omega)]
    exact hG.cg (fun x _ _ => hp x (by omega) (by omega)) (fun w a c hw ha => ao a c (hw0 w a hw ha)) (fun _ _ z => z)
  · refine ⟨fun j j2 hj hj2 ee => ?_, u2, fun j w hj hw => ?_, fun a ha hua => ?_⟩
    · obtain ⟨m, m1, m2, m3, m4⟩ := qd j hj
      obtain ⟨n, n1, n2, n3, n4⟩ := qd j2 hj2
      rw [m3, n3] at ee
      have := u1 m n m1 n1 ee
      by_cases c1 : k ≤ j
      · rw [if_pos c1] at m4
        by_cases c2 : k ≤ j2
        · rw [if_pos c2] at n4; omega
        · rw [if_neg c2] at n4; omega
      · rw [if_neg c1] at m4
        by_cases c2 : k ≤ j2
        · rw [if_pos c2] at n4; omega
        · rw [if_neg c2] at n4; omega
    · obtain ⟨m, m1, m2, m3, m4⟩ := qd j hj
      rw [m3]
      exact u3 m w m1 hw
    · have ea : a ≠ qs k := fun z => by
        rw [z, show uoff at_ (qs k) (qs k) 9 = 0 from if_pos ⟨rfl, rfl⟩] at hua
        omega
      rw [ao _ _ ea] at hua
      rcases u4 a ha hua with ⟨m, hm, e2⟩ | z
      · have hmk : m ≠ k := fun z => ea (by rw [← e2, z])
        by_cases c : m < k
        · exact Or.inl ⟨m, by omega, by unfold qdn; rw [if_neg (by omega)]; exact e2⟩
        · exact Or.inl ⟨m - 1, by omega, by unfold qdn; rw [if_pos (by omega), show m - 1 + 1 = m by omega]; exact e2⟩
      · exact Or.inr z
  · rw [ss_n (by omega)]; exact hT.1
  · intro i hi
    rw [ss_n (by omega)]
  · intro i hi
    rw [ss_n (by omega)]
def z1 (g : N1) (f : Nat) : N1 := fun w => if w = f then 0 else g w
/-- the attempt at front worker f leaves it, and back worker v (none, if it is 4) -/
theorem RG.freeW (h : RG F E Zf Zb t K lo wl cl sg sv sw nr r N nq nb qs ws fb gb at_ ow S M) {f v a : Nat} (hf : f < 4) (ha : ws f = a + 1) (hv : v < 4 → gb v = f + 1) (hv2 : ∀ w, w < 4 → gb w = f + 1 → w = v) (hb : ∀ k, k < nb → fb k ≠ f)
    (s7 : (S'.1 7).1 = 4 ∧ (S'.1 7).2 f 0 = -9 ∧ ∀ w j, w ≠ f → (S'.1 7).2 w j = (S.1 7).2 w j) (s9 : (S'.1 9).1 = 4 ∧ (v < 4 → (S'.1 9).2 v 0 = -9) ∧ ∀ w, w < 4 → w ≠ v → (S'.1 9).2 w 0 = (S.1 9).2 w 0) (sk : ∀ k, k ≠ 7 → k ≠ 9 → S'.1 k = S.1 k) (s2 : S'.2 = S.2)
    (hp : ∀ x, x ≠ 591 + f → (x ≠ 595 + v ∨ 4 ≤ v) → x ≠ 317 + 10 * a + 9 → M'.1 x = M.1 x) (h9 : M'.1 (317 + 10 * a + 9) = nI 0) (hf9 : M'.1 (591 + f) = -9) (hv9 : v < 4 → M'.1 (595 + v) = -9) (hr : M'.2.2 = M.2.2) : RG F (fun x => E x ∨ x + 1 = ow a) Zf Zb t K lo wl cl sg sv sw nr r N nq nb qs (z1 ws f) fb (z1 gb v) (uoff at_ a) ow S' M' := by
  have q := h.nqb
  obtain ⟨hX, hT, hD, hR, ⟨hA, hQ, hF, hB, hG, hU⟩, hL, hN⟩ := h
  obtain ⟨u1, u2, u3, u4⟩ := hU
  have ha24 := ((hF.2 f hf).2.2 a ha).1
  have hu := ((hF.2 f hf).2.2 a ha).2.1
  have ao : ∀ b c, b ≠ a → uoff at_ a b c = at_ b c := fun b c e => if_neg (fun z => e z.1)
  have a7 : ∀ b c, c ≠ 9 → uoff at_ a b c = at_ b c := fun b c e => if_neg (fun z => e z.2)
  have wo : ∀ w, w ≠ f → z1 ws f w = ws w := fun w e => if_neg e
  have wf : z1 ws f f = 0 := if_pos rfl
  have go : ∀ w, w ≠ v → z1 gb v w = gb w := fun w e => if_neg e
  have gv : z1 gb v v = 0 := if_pos rfl
  have hw0 : ∀ w b, w < 4 → w ≠ f → ws w = b + 1 → b ≠ a := fun w b hw hne hb e => hne (u2 w f hw hf (by omega) (by rw [hb, ha, e]))
  have hq0 : ∀ k, k < nq → qs k ≠ a := fun k hk e => u3 k f hk hf (by rw [ha, e])
  have hp0 : ∀ x, x < 591 ∨ 599 ≤ x → x ≠ 317 + 10 * a + 9 → M'.1 x = M.1 x := fun x h1 h2 => hp x (by omega) (by omega) h2
  unfold RG gY
  rw [sk 1 (by omega) (by omega), sk 5 (by omega) (by omega), sk 6 (by omega) (by omega), sk 8 (by omega) (by omega), s2]
  refine ⟨hX.cg (Nat.le_refl _) q.1 q.2.1 (fun k hk => sk k (by omega) (by omega)) (fun x hx => hp0 x (by omega) (by omega)), hT.cg (Nat.le_refl _) (fun x _ _ => hp0 x (by omega) (by omega)), hD.cg (Nat.le_refl _) (fun _ _ _ => rfl) (fun x hx => hp0 x (by omega) (by omega)), (hR.cg (Nat.le_refl _) (Nat.le_refl _) (Nat.le_refl _) (fun x _ _ => hp0 x (by omega) (by omega))).ex (fun i hi hne he => hne (Or.inl he)), ⟨hA.off (fun x h1 h2 h3 => hp0 x (by omega) h3) h9, ?_, ?_, ?_, ?_, ?_⟩, hL.off hR ha24 hu (fun x _ _ => hp0 x (by omega) (by omega)), hN.cg hT.1 (by rw [sk 1 (by omega) (by omega)]; exact hT.1) (fun i hi => by rw [sk 1 (by omega) (by omega)]) (fun i hi => by rw [sk 1 (by omega) (by omega)]) (by rw [s2]) hr (fun x hx => hp0 x (by omega) (by omega))⟩
  · exact hQ.cg (fun x _ _ => hp0 x (by omega) (by omega)) (fun k c hk => ao _ _ (hq0 k hk)) (fun _ _ => rfl)
  · refine ⟨s7.1, fun w hw => ?_⟩
    by_cases e : w = f
    · subst e
      rw [wf]
      exact ⟨hf9, fun _ => s7.2.1, fun b hb => absurd hb (by omega)⟩
    · obtain ⟨h1, h2, h3⟩ := hF.2 w hw
      rw [wo w e]
      refine ⟨(hp _ (by omega) (by omega) (by omega)).trans h1, fun z => (s7.2.2 w 0 e).trans (h2 z), fun b hb2 => ?_⟩
      have e3 := hw0 w b hw e hb2
      have h4 := h3 b hb2
      have := h4.1
      rw [s7.2.2 w 0 e, s7.2.2 w 1 e, s7.2.2 w 2 e, s7.2.2 w 3 e, s7.2.2 w 4 e, s7.2.2 w 5 e, hp0 (317 + 10 * b + 8) (by omega) (by omega)]
      simp only [ao _ _ e3]
      exact h4
  · obtain ⟨b1, b2, b3, b4, b5⟩ := hB
    refine ⟨b1, b2, (hp0 _ (by omega) (by omega)).trans b3, fun k hk => ?_, b5⟩
    obtain ⟨c1, c2, b, c3, c4, c5⟩ := b4 k hk
    exact ⟨c1, c2, b, by rw [wo _ (hb k hk)]; exact c3, (hp0 _ (by omega) (by omega)).trans c4, by rw [a7 _ _ (by decide)]; exact c5⟩
  · obtain ⟨g1, g2, g3, g4⟩ := hG
    refine ⟨s9.1, fun w hw => ?_, fun w w' hw hw' hne he => ?_, fun f' b hf' hb' h7 => ?_⟩
    · by_cases e : w = v
      · subst e
        rw [gv]
        exact ⟨s9.2.1 hw, fun _ => hv9 hw, fun f' z => absurd z (by omega)⟩
      · obtain ⟨c1, c2, c3⟩ := g2 w hw
        rw [go w e]
        refine ⟨(s9.2.2 w hw e).trans c1, fun z => (hp _ (by omega) (by omega) (by omega)).trans (c2 z), fun f' z => ?_⟩
        obtain ⟨d1, b, d2, d3, d4, d5⟩ := c3 f' z
        have ef : f' ≠ f := fun y => e (hv2 w hw (by rw [z, y]))
        have e3 := hw0 f' b d1 ef d2
        refine ⟨d1, b, by rw [wo _ ef]; exact d2, (hp _ (by omega) (by omega) (by omega)).trans d3, ?_⟩
        simp only [ao _ _ e3]
        exact ⟨d4, d5⟩
    · by_cases e1 : w = v
      · rw [e1, gv] at hne
        exact absurd rfl hne
      · by_cases e2 : w' = v
        · rw [e2, gv] at he
          exact absurd he hne
        · rw [go w e1] at hne he
          rw [go w' e2] at he
          exact g3 w w' hw hw' hne he
    · have ef : f' ≠ f := fun z => by
        rw [z, wf] at hb'
        omega
      rw [wo _ ef] at hb'
      rw [a7 _ _ (by decide)] at h7
      obtain ⟨w, hw, e⟩ := g4 f' b hf' hb' h7
      have ew : w ≠ v := fun z => by
        have h1 : v < 4 := by omega
        have := hv h1
        rw [z] at e
        omega
      exact ⟨w, hw, by rw [go w ew]; exact e⟩
  · refine ⟨u1, fun w w' hw hw' hne he => ?_, fun k w hk hw => ?_, fun b hb' hub => ?_⟩
    · by_cases e1 : w = f
      · rw [e1, wf] at hne
        exact absurd rfl hne
      · by_cases e2 : w' = f
        · rw [e2, wf] at he
          exact absurd he hne
        · rw [wo w e1] at hne he
          rw [wo w' e2] at he
          exact u2 w w' hw hw' hne he
    · by_cases e1 : w = f
      · rw [e1, wf]
        omega
      · rw [wo w e1]
        exact u3 k w hk hw
    · have eb : b ≠ a := fun z => by
        rw [z, show uoff at_ a a 9 = 0 from if_pos ⟨rfl, rfl⟩] at hub
        omega
      rw [ao _ _ eb] at hub
      rcases u4 b hb' hub with z | ⟨w, hw, e⟩
      · exact Or.inl z
      · exact Or.inr ⟨w, hw, by rw [wo w (fun z => eb (by rw [z, ha] at e; omega))]; exact e⟩
end OL
