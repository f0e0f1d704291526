/-! an attempt is abandoned: where it is, and what stays -/
section AB
variable {F : Fx} {E Zf Zb : Nat → Prop} {t K lo wl : Nat} {cl sg : N2} {sv sw : N1} {nr : Nat} {r : N2} {N nq nb : Nat} {qs ws fb gb : N1} {at_ : N2} {ow : N1} {S S' : StS} {M M' : MS}
theorem owI_nI {o x : Nat} (ho : o < 2 ^ 31) (hx : x < 2 ^ 31) (e : owI o = nI x) : o = x + 1 := by
  match o, e with
  | 0, e => exact absurd e.symm (nI_neg hx (by decide))
  | k + 1, e =>
    have := (nI_eq (a := k) (b := x) (by omega) hx).mp e
    omega
theorem wsI_nI {o x : Nat} (ho : o < 2 ^ 31) (hx : x < 2 ^ 31) (e : wsI o = nI x) : o = x + 1 := by
  match o, e with
  | 0, e => exact absurd e.symm (nI_neg hx (by decide))
  | k + 1, e =>
    have := (nI_eq (a := k) (b := x) (by omega) hx).mp e
    omega
theorem own_uniq (h : RG F E Zf Zb t K lo wl cl sg sv sw nr r N nq nb qs ws fb gb at_ ow S M) {i b : Nat} (hi : i < nr) (hb : b < 24) (hu : at_ b 9 = 1) (ho : ow b = r i 0 + 1) : b = r i 7 := by
  obtain ⟨hX, hT, hD, hR, hY, hL, hN⟩ := h
  rcases (hL.2 b hb hu).2 with ⟨z, -⟩ | ⟨k, k1, k2, k3, k4, k5⟩
  · omega
  · have := hR.ne k1 hi (by omega)
    rw [← this]
    exact k4.symm
theorem own_ne (h : RG F E Zf Zb t K lo wl cl sg sv sw nr r N nq nb qs ws fb gb at_ ow S M) (hNb : N < 2 ^ 30) {i b : Nat} (hi : i < nr) (hb : b < 24) (hu : at_ b 9 = 1) (hne : b ≠ r i 7) : owI (ow b) ≠ nI (r i 0) := fun e => by
  have h1 := (h.owner hb hu).1
  have h2 := (h.2.2.2.1.2.2.2.2.2 i hi).1
  exact hne (own_uniq h hi hb hu (owI_nI (by omega) (by omega) e))
theorem find6_some (h : RG F E Zf Zb t K lo wl cl sg sv sw nr r N nq nb qs ws fb gb at_ ow S M) (hNb : N < 2 ^ 30) {i k : Nat} (hi : i < nr) (h4 : r i 4 = 0) (hE : ¬ E (r i 0)) (hk : k < nq) (hq : qs k = r i 7) : sfind 6 S (0 : Int32) (nI (r i 0)) = nI k := by
  obtain ⟨q1, q2, q3, q4⟩ := h.2.2.2.2.1.2.1
  have ho := (h.2.2.2.2.2.1.1 i hi h4 hE).2.2.1
  refine tf_some (w := 6) (rows := 16) (j := 0) (by omega) (by omega) (by omega) (by omega) (by omega) ?_ (fun k' hk' => ?_)
  · rw [(q4 k hk).2.2.2.1.1, hq, ho]
    rfl
  · obtain ⟨-, z1, z2, ⟨z3, -⟩, -⟩ := q4 k' (by omega)
    rw [z3]
    refine own_ne h hNb hi z1 z2 (fun e => ?_)
    have := h.2.2.2.2.1.2.2.2.2.2.1 k' k (by omega) hk (by rw [e, hq])
    omega
theorem find6_none (h : RG F E Zf Zb t K lo wl cl sg sv sw nr r N nq nb qs ws fb gb at_ ow S M) (hNb : N < 2 ^ 30) {i : Nat} (hi : i < nr) (hq : ∀ k, k < nq → qs k ≠ r i 7) : sfind 6 S (0 : Int32) (nI (r i 0)) = -9 := by
  obtain ⟨q1, q2, q3, q4⟩ := h.2.2.2.2.1.2.1
  refine tf_none (w := 6) (rows := 16) (j := 0) (by omega) (by omega) (by omega) (by omega) (fun k hk => ?_)
  obtain ⟨-, z1, z2, ⟨z3, -⟩, -⟩ := q4 k (by omega)
  rw [z3]
  exact own_ne h hNb hi z1 z2 (hq k (by omega))
theorem find7_some (h : RG F E Zf Zb t K lo wl cl sg sv sw nr r N nq nb qs ws fb gb at_ ow S M) (hNb : N < 2 ^ 30) {i w : Nat} (hi : i < nr) (h4 : r i 4 = 0) (hE : ¬ E (r i 0)) (hw : w < 4) (hq : ws w = r i 7 + 1) : sfind 7 S (0 : Int32) (nI (r i 0)) = nI w := by
  obtain ⟨q1, q2⟩ := h.2.2.2.2.1.2.2.1
  have ho := (h.2.2.2.2.2.1.1 i hi h4 hE).2.2.1
  have hN := (h.2.2.2.1.2.2.2.2.2 i hi).1
  refine tf_some (w := 6) (rows := 4) (j := 0) (by omega) (by omega) (by omega) (by omega) (by omega) ?_ (fun v hv => ?_)
  · rw [((q2 w hw).2.2 _ hq).2.2.2.1.1, ho]
    rfl
  · obtain ⟨-, z1, z2⟩ := q2 v (by omega)
    by_cases e : ws v = 0
    · rw [z1 e]
      exact fun y => nI_neg (by omega) (by decide) y.symm
    · obtain ⟨b, eb⟩ : ∃ b, ws v = b + 1 := ⟨ws v - 1, by omega⟩
      obtain ⟨y1, y2, -, ⟨y3, -⟩, -⟩ := z2 b eb
      rw [y3]
      refine own_ne h hNb hi y1 y2 (fun e2 => ?_)
      have := h.2.2.2.2.1.2.2.2.2.2.2.1 v w (by omega) hw e (by rw [eb, hq, e2])
      omega
theorem find7_none (h : RG F E Zf Zb t K lo wl cl sg sv sw nr r N nq nb qs ws fb gb at_ ow S M) (hNb : N < 2 ^ 30) {i : Nat} (hi : i < nr) (hq : ∀ w, w < 4 → ws w ≠ r i 7 + 1) : sfind 7 S (0 : Int32) (nI (r i 0)) = -9 := by
  obtain ⟨q1, q2⟩ := h.2.2.2.2.1.2.2.1
  have hN := (h.2.2.2.1.2.2.2.2.2 i hi).1
  refine tf_none (w := 6) (rows := 4) (j := 0) (by omega) (by omega) (by omega) (by omega) (fun v hv => ?_)
  obtain ⟨-, z1, z2⟩ := q2 v (by omega)
  by_cases e : ws v = 0
  · rw [z1 e]
    exact fun y => nI_neg (by omega) (by decide) y.symm
  · obtain ⟨b, eb⟩ : ∃ b, ws v = b + 1 := ⟨ws v - 1, by omega⟩
    obtain ⟨y1, y2, -, ⟨y3, -⟩, -⟩ := z2 b eb
    rw [y3]
    exact own_ne h hNb hi y1 y2 (fun e2 => hq v (by omega) (by rw [eb, e2]))
/-- a slot that is not in use may hold anything -/
theorem RG.dead (h : RG F E Zf Zb t K lo wl cl sg sv sw nr r N nq nb qs ws fb gb at_ ow S M) {a : Nat} (ha : a < 24) (hu : at_ a 9 = 0) (hp : ∀ x, x < 317 + 10 * a ∨ 317 + 10 * a + 9 ≤ x → M'.1 x = M.1 x) (hr : M'.2.2 = M.2.2) : RG F E Zf Zb t K lo wl cl sg sv sw nr r N nq nb qs ws fb gb at_ ow S M' := by
  have q := h.nqb
  obtain ⟨hX, hT, hD, hR, ⟨hA, hQ, hF, hB, hG, hU⟩, hL, hN⟩ := h
  refine ⟨hX.cg (Nat.le_refl _) q.1 q.2.1 (fun _ _ => rfl) (fun x hx => hp x (by omega)), hT.cg (Nat.le_refl _) (fun x _ _ => hp x (by omega)), hD.cg (Nat.le_refl _) (fun _ _ _ => rfl) (fun x hx => hp x (by omega)), hR.cg (Nat.le_refl _) (Nat.le_refl _) (Nat.le_refl _) (fun x _ _ => hp x (by omega)), ⟨fun b hb => ?_, hQ.cg (fun x _ _ => hp x (by omega)) (fun _ _ _ => rfl) (fun _ _ => rfl), hF.cg (fun x _ _ => hp x (by omega)) (fun w b hw hb => ?_) (fun _ _ _ _ _ => rfl) (fun _ _ _ _ => rfl) (fun _ _ z => z), hB.cg (fun x _ _ => hp x (by omega)) (fun _ _ _ _ => rfl), hG.cg (fun x _ _ => hp x (by omega)) (fun _ _ _ _ _ => rfl) (fun _ _ z => z), hU⟩, hL.cg q.2.2 (fun x _ _ => hp x (by omega)), hN.same hT.1 rfl rfl hr (fun x hx => hp x (by omega))⟩
  · obtain ⟨h1, h2, h3⟩ := hA b hb
    by_cases e : b = a
    · subst e
      exact ⟨(hp _ (by omega)).trans h1, h2, fun z => absurd z (by omega)⟩
    · exact ⟨(hp _ (by omega)).trans h1, h2, fun z => ⟨(hp _ (by omega)).trans (h3 z).1, fun c c1 c2 => (hp _ (by omega)).trans ((h3 z).2 c c1 c2)⟩⟩
  · obtain ⟨b1, b2, -⟩ := (hF.2 w hw).2.2 b hb
    have : b ≠ a := fun e => by rw [e] at b2; omega
    exact hp _ (by omega)
/-- the attempt stays, without an owner -/
theorem RG.aban (h : RG F E Zf Zb t K lo wl cl sg sv sw nr r N nq nb qs ws fb gb at_ ow S M) {i a : Nat} (hi : i < nr) (h4 : r i 4 = 0) (hE : ¬ E (r i 0)) (h5 : r i 5 ≤ t) (h7 : r i 7 = a)
    (s6 : (S'.1 6).1 = (S.1 6).1 ∧ (∀ k j, j ≠ 0 → (S'.1 6).2 k j = (S.1 6).2 k j) ∧ ∀ k, k < nq → (qs k = a → (S'.1 6).2 k 0 = -8) ∧ (qs k ≠ a → (S'.1 6).2 k 0 = (S.1 6).2 k 0))
    (s7 : (S'.1 7).1 = (S.1 7).1 ∧ (∀ k j, j ≠ 0 → (S'.1 7).2 k j = (S.1 7).2 k j) ∧ ∀ w, w < 4 → (ws w = a + 1 → (S'.1 7).2 w 0 = -8) ∧ (ws w ≠ a + 1 → (S'.1 7).2 w 0 = (S.1 7).2 w 0)) (sk : ∀ k, k ≠ 6 → k ≠ 7 → S'.1 k = S.1 k) (s2 : S'.2 = S.2)
    (hp : ∀ x, x ≠ 317 + 10 * a → M'.1 x = M.1 x) (h0 : M'.1 (317 + 10 * a) = -8) (hr : M'.2.2 = M.2.2) : RG F (fun x => E x ∨ x = r i 0) Zf Zb t K lo wl cl sg sv sw nr r N nq nb qs ws fb gb at_ (o1 ow a 0) S' M' := by
  have q := h.nqb
  have hu' := fun b hb hu ho => own_uniq h (b := b) hi hb hu ho
  obtain ⟨hX, hT, hD, hR, ⟨hA, hQ, hF, hB, hG, hU⟩, hL, hN⟩ := h
  obtain ⟨a1, a2, a3, a4, a5⟩ := hL.1 i hi h4 hE
  rw [h7] at a1 a2 a3 a4 a5
  have oo : ∀ b, b ≠ a → o1 ow a 0 b = ow b := fun b e => if_neg e
  have oa : o1 ow a 0 a = 0 := if_pos rfl
  have hpo : ∀ x, x < 317 ∨ 557 ≤ x → M'.1 x = M.1 x := fun x hx => hp x (by omega)
  unfold RG gY
  rw [sk 1 (by omega) (by omega), sk 5 (by omega) (by omega), sk 8 (by omega) (by omega), sk 9 (by omega) (by omega), s2]
  refine ⟨hX.cg (Nat.le_refl _) q.1 q.2.1 (fun k hk => sk k (by omega) (by omega)) (fun x hx => hpo x (by omega)), hT.cg (Nat.le_refl _) (fun x _ _ => hpo x (by omega)), hD.cg (Nat.le_refl _) (fun _ _ _ => rfl) (fun x hx => hpo x (by omega)), (hR.cg (Nat.le_refl _) (Nat.le_refl _) (Nat.le_refl _) (fun x _ _ => hpo x (by omega))).ex (fun k hk hne he => hne (Or.inl he)), ⟨fun b hb => ?_, ?_, ?_, hB.cg (fun x _ _ => hpo x (by omega)) (fun _ _ _ _ => rfl), hG.cg (fun x _ _ => hpo x (by omega)) (fun _ _ _ _ _ => rfl) (fun _ _ z => z), hU⟩, ?_, hN.same hT.1 (sk 1 (by omega) (by omega)) (by rw [s2]) hr (fun x hx => hpo x (by omega))⟩
  · obtain ⟨z1, z2, z3⟩ := hA b hb
    by_cases e : b = a
    · subst e
      rw [oa]
      exact ⟨(hp _ (by omega)).trans z1, z2, fun z => ⟨h0, fun c c1 c2 => (hp _ (by omega)).trans ((z3 z).2 c c1 c2)⟩⟩
    · rw [oo b e]
      exact ⟨(hp _ (by omega)).trans z1, z2, fun z => ⟨(hp _ (by omega)).trans (z3 z).1, fun c c1 c2 => (hp _ (by omega)).trans ((z3 z).2 c c1 c2)⟩⟩
  · obtain ⟨k1, k2, k3, k4⟩ := hQ
    refine ⟨s6.1.trans k1, k2, (hpo _ (by omega)).trans k3, fun k hk => ?_⟩
    obtain ⟨b1, b2, b3, ⟨b4, b5⟩, b6⟩ := k4 k hk
    rw [hpo _ (by omega), s6.2.1 k 1 (by decide), s6.2.1 k 2 (by decide), s6.2.1 k 3 (by decide), s6.2.1 k 4 (by decide)]
    refine ⟨b1, b2, b3, ⟨?_, b5⟩, b6⟩
    by_cases e : qs k = a
    · rw [e, oa]
      exact (s6.2.2 k hk).1 e
    · rw [oo _ e]
      exact ((s6.2.2 k hk).2 e).trans b4
  · refine ⟨s7.1.trans hF.1, fun w hw => ?_⟩
    obtain ⟨c1, c2, c3⟩ := hF.2 w hw
    refine ⟨(hpo _ (by omega)).trans c1, fun z => ((s7.2.2 w hw).2 (by omega)).trans (c2 z), fun b hb => ?_⟩
    obtain ⟨b1, b2, b3, ⟨b4, b5⟩, b6⟩ := c3 b hb
    rw [hp (317 + 10 * b + 8) (by omega), s7.2.1 w 1 (by decide), s7.2.1 w 2 (by decide), s7.2.1 w 3 (by decide), s7.2.1 w 4 (by decide), s7.2.1 w 5 (by decide)]
    refine ⟨b1, b2, b3, ⟨?_, b5⟩, b6⟩
    by_cases e : b = a
    · rw [e, oa]
      exact (s7.2.2 w hw).1 (by rw [hb, e])
    · rw [oo _ e]
      exact ((s7.2.2 w hw).2 (by omega)).trans b4
  · refine ⟨fun k hk h0 hne => ?_, fun b hb hu => ?_⟩
    · obtain ⟨d1, d2, d3, d4, d5⟩ := hL.1 k hk h0 (fun z => hne (Or.inl z))
      have e7 : r k 7 ≠ a := fun z => hne (Or.inr (by rw [z] at d3; omega))
      rw [oo _ e7]
      have := q.2.2
      exact ⟨d1, d2, d3, (hpo _ (by omega)).trans d4, d5⟩
    · obtain ⟨c1, c2⟩ := hL.2 b hb hu
      refine ⟨c1, ?_⟩
      by_cases e : b = a
      · rw [e, oa]
        exact Or.inl ⟨rfl, by omega⟩
      · rw [oo b e]
        refine c2.imp id ?_
        rintro ⟨k, z1, z2, z3, z4, z5⟩
        refine ⟨k, z1, z2, z3, z4, ?_⟩
        rintro (y | y)
        · exact z5 y
        · exact e ((hu' b hb hu (by omega)).trans h7)
end AB
