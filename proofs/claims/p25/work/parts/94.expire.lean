/-! step 6: the requests whose attempt expires abandon it, in both -/
section AR
variable {F : Fx} {E Zf Zb : Nat → Prop} {t K lo wl : Nat} {cl sg : N2} {sv sw : N1} {nr : Nat} {r : N2} {N nq nb : Nat} {qs ws fb gb : N1} {at_ : N2} {ow : N1} {S S' : StS} {M M' : MS}
theorem abandon_rel (h : RG F (fun _ => False) Zf Zb t K lo wl cl sg sv sw nr r N nq nb qs ws fb gb at_ ow S M) (hNb : N < 2 ^ 30) (ht : t < 2 ^ 29) (hwl : wl ≤ t + 1) {i : Nat} (hi : i < nr) (h4 : r i 4 = 0) (h5 : r i 5 = t) : ∃ S1 S' M' nr' r' nq' nb' qs' ws' fb' gb' at' ow', fX1_abandon (nI (r i 0)) S = some S1 ∧ fX0_fail (nI (r i 0)) (5 : Int32) S1 = some S' ∧ fX6_abandons (nI (r i 0)) M = some M' ∧ RG F (fun _ => False) Zf Zb t K lo wl cl sg sv sw nr' r' N nq' nb' qs' ws' fb' gb' at' ow' S' M' ∧ (∀ y, Due nr' r' 0 t y ↔ Due nr r 0 t y ∧ y ≠ r i 0) ∧ M'.2.1 = M.2.1 := by
  have hR := h.2.2.2.1
  have i16 := hR.2.1
  obtain ⟨a1, a2, a3, a4, a5⟩ := h.2.2.2.2.2.1.1 i hi h4 (fun z => z)
  have h3 := (hR.2.2.2.2.2 i hi).2.2.2.2.2.2.2.2.1 (fun z => z)
  have hU := h.2.2.2.2.1.2.2.2.2.2
  have hW := h.1.2.2.2.1
  have hmid : ∃ S1 M1 nq' nb' qs' ws' fb' gb' at' ow', fX1_abandon (nI (r i 0)) S = some S1 ∧ (sw 2 = 0 → M1 = (upd M.1 (317 + 10 * r i 7) (-8), M.2)) ∧ (sw 2 ≠ 0 → fX6_cancels (nI (r i 7)) (upd M.1 (317 + 10 * r i 7) (-8), M.2) = some M1) ∧ RG F (fun x => x = r i 0) Zf Zb t K lo wl cl sg sv sw nr r N nq' nb' qs' ws' fb' gb' at' ow' S1 M1 ∧ M1.2.1 = M.2.1 := by
    by_cases hs : sw 2 = 0
    · obtain ⟨S1, ow', z1, z2⟩ := aban_keep h hNb hi h4 (by omega) hs
      exact ⟨S1, _, _, _, _, _, _, _, _, _, z1, fun _ => rfl, fun z => absurd hs z, z2, rfl⟩
    · have hs1 : sw 2 = 1 := by have := (hW.2 2 (by omega)).2.2; omega
      rcases hU.2.2.2 _ a1 a2 with ⟨k, hk, e⟩ | ⟨w, hw, e⟩
      · obtain ⟨S1, M1, nq', nb', qs', ws', fb', gb', at', ow', z1, z2, z3, z4⟩ := aban_queue h hNb hi h4 hs1 hk e
        exact ⟨S1, M1, _, _, _, _, _, _, _, _, z1, fun z => absurd z hs, fun _ => z2, z3, z4⟩
      · obtain ⟨S1, M1, nq', nb', qs', ws', fb', gb', at', ow', z1, z2, z3, z4⟩ := aban_worker h hNb hi h4 hs1 hw e
        exact ⟨S1, M1, _, _, _, _, _, _, _, _, z1, fun z => absurd z hs, fun _ => z2, z3, z4⟩
  obtain ⟨S1, M1, nq', nb', qs', ws', fb', gb', at', ow', y1, y2, y3, y4, y5⟩ := hmid
  obtain ⟨S', M', nr', r', z1, z2, z3, z4, z5⟩ := fail_rel y4 hNb (by omega) hwl hi rfl h3 (y := 5) (by omega) (by omega)
  refine ⟨S1, S', M', nr', r', _, _, _, _, _, _, _, _, y1, z1, ?_, z3.eE (fun x => ⟨fun z => absurd z.1 z.2, fun z => z.elim⟩), fun y => z4.1 0 y, z5.trans y5⟩
  have e181 : upd M.1 (317 + 10 * r i 7) (-8) 181 = nI (sw 2) := (up_n (by omega)).trans (hW.2 2 (by omega)).2.1
  have eon : fX6_isOn (2 : Int32) (upd M.1 (317 + 10 * r i 7) (-8), M.2) = some (if upd M.1 (317 + 10 * r i 7) (-8) 181 = 1 then 1 else 0) := isOn_n (k := 2) (by omega) _
  unfold fX6_abandons bfX6_abandons_47
  rw [gR.place hR (by omega) hi, ob_eq, row_eq, ob_eq, nA_7, if_pos (okI_nI (by omega) (by decide)), nm, nI_clamp (by omega), a4, slot_eq, ob_eq, nA_0, Nat.add_zero, if_pos (okI_nI (by omega) (by decide)), nm, nI_clamp (by omega), eon, ob_eq, e181]
  have hs1 := (hW.2 2 (by omega)).2.2
  by_cases hs : sw 2 = 0
  · rw [if_neg (show ¬ nI (sw 2) = 1 from fun z => by have := (eqn_1 (by omega)).mp z; omega), if_pos rfl, ← y2 hs, show (5 : Int32) = nI 5 from rfl, z2, ob_eq]
  · rw [if_pos (show nI (sw 2) = 1 from (eqn_1 (by omega)).mpr (by omega)), if_neg (show ¬ (1 : Int32) = 0 by decide), y3 hs, ob_eq, show (5 : Int32) = nI 5 from rfl, z2, ob_eq]
end AR
section AL
variable {F : Fx} {Zf Zb : Nat → Prop} {t wl : Nat} {cl sg : N2} {sv sw : N1}
theorem aban_loop {n : Nat} {g : N1} (hn : n ≤ 16) (hg : ∀ k k', k < k' → k' < n → g k < g k') (ht : t < 2 ^ 29) (hwl : wl ≤ t + 1) {K : Nat} (hK : K < 2 ^ 29) : ∀ (k j : Nat) {nr : Nat} {r : N2} {N nq nb : Nat} {qs ws fb gb : N1} {at_ : N2} {ow : N1} {S : StS} {M : MS}, j + k = n → RG F (fun _ => False) Zf Zb t K t wl cl sg sv sw nr r N nq nb qs ws fb gb at_ ow S M → (∀ q, q < n → M.2.1 q = nI (g q)) → (∀ y, Due nr r 0 t y ↔ ∃ q, j ≤ q ∧ q < n ∧ g q = y) → ∀ m m', k < m → k < m' → ∃ S' M', iter bfX0_abandonExpired_5 m (gx g j, nI j, S) = some S' ∧ iter bfX6_ticks_224 m' (nI n, nI j, M) = bfX6_ticks_224 (fun _ => none) (nI n, nI n, M') ∧ RE F Zf Zb t K (t + 1) wl cl sg sv sw S' M' ∧ Kp sv S S' := by
  intro k
  induction k with
  | zero =>
    intro j nr r N nq nb qs ws fb gb at_ ow S M hj h hs hd m m' hm hm'
    obtain ⟨m, rfl⟩ : ∃ k, m = k + 1 := ⟨m - 1, by omega⟩
    obtain ⟨m', rfl⟩ : ∃ k, m' = k + 1 := ⟨m' - 1, by omega⟩
    obtain rfl : j = n := by omega
    have hno : ∀ y, ¬ Due nr r 0 t y := fun y z => by
      obtain ⟨q, q1, q2, -⟩ := (hd y).mp z
      omega
    have hw : ∀ i, i < nr → r i 4 = 0 → t ≤ r i 5 := fun i hi e => (h.2.2.2.1.2.2.2.2.2 i hi).2.2.2.2.2.2.2.2.2 e (fun z => z)
    refine ⟨S, M, ?_, ?_, ⟨_, _, _, _, _, _, _, _, _, _, _, h.lo_up (fun i hi e _ => ?_)⟩, Kp.rf sv S⟩
    · rw [it_s, bfX0_abandonExpired_5]
      by_cases e : (16 : Int32) ≤ nI j
      · rw [if_pos e]
      · rw [if_neg e, show fX2_nextDue (gx g j) (0 : Int32) S = some (-9) from next_none h ht (w := 0) (by omega) _ hw hno, ob_eq, if_pos rfl]
    · rw [it_s, bfX6_ticks_224, bfX6_ticks_224, if_pos (nI_le (Nat.le_refl _) (by omega)), if_pos (nI_le (Nat.le_refl _) (by omega))]
    · have h1 := hw i hi e
      have h2 : r i 5 ≠ t := fun z => hno _ ⟨i, hi, rfl, e, z⟩
      omega
  | succ k ih =>
    intro j nr r N nq nb qs ws fb gb at_ ow S M hj h hs hd m m' hm hm'
    obtain ⟨m, rfl⟩ : ∃ k, m = k + 1 := ⟨m - 1, by omega⟩
    obtain ⟨m', rfl⟩ : ∃ k, m' = k + 1 := ⟨m' - 1, by omega⟩
    have hNK : N ≤ K := h.2.2.1.2.2.2.2.2.2.1
    have hb : ∀ q, j ≤ q → q < n → g q < 2 ^ 30 := fun q q1 q2 => by
      obtain ⟨i, i1, i2, -⟩ := (hd (g q)).mpr ⟨q, q1, q2, rfl⟩
      have := (h.2.2.2.1.2.2.2.2.2 i i1).1
      omega
    have hb2 : ∀ q, q < n → g q < 2 ^ 30 := fun q q2 => by
      by_cases c : j ≤ q
      · exact hb q c q2
      · have := hg q j (by omega) (by omega)
        have := hb j (Nat.le_refl _) (by omega)
        omega
    have hw : ∀ i, i < nr → r i 4 = 0 → t ≤ r i 5 := fun i hi e => (h.2.2.2.1.2.2.2.2.2 i hi).2.2.2.2.2.2.2.2.2 e (fun z => z)
    have hdj : Due nr r 0 t (g j) := (hd (g j)).mpr ⟨j, Nat.le_refl _, by omega, rfl⟩
    have e1 : fX2_nextDue (gx g j) (0 : Int32) S = some (nI (g j)) := next_some h ht (w := 0) (by omega) hw hdj (gx_lt hg (by omega) hb2) (fun z hz => by
      obtain ⟨q, q1, q2, q3⟩ := (hd z).mp hz
      by_cases c : q = j
      · rw [← q3, c]; exact Nat.le_refl _
      · have := hg j q (by omega) q2
        omega)
    obtain ⟨i, i1, i2, i3, i4⟩ := hdj
    obtain ⟨S1, S2, M2, nr', r', nq', nb', qs', ws', fb', gb', at', ow', z1, z2, z3, z4, z5, z6⟩ := abandon_rel h (by omega) ht hwl i1 i3 i4
    rw [i2] at z1 z2 z3
    have hd2 : ∀ y, Due nr' r' 0 t y ↔ ∃ q, j + 1 ≤ q ∧ q < n ∧ g q = y := by
      intro y
      refine (z5 y).trans ⟨?_, ?_⟩
      · rintro ⟨hy, hne⟩
        obtain ⟨q, q1, q2, q3⟩ := (hd y).mp hy
        have : q ≠ j := fun e => hne (by rw [← q3, e, i2])
        exact ⟨q, by omega, q2, q3⟩
      · rintro ⟨q, q1, q2, q3⟩
        refine ⟨(hd y).mpr ⟨q, by omega, q2, q3⟩, ?_⟩
        have := hg j q (by omega) q2
        omega
    have kst : Kp sv S S2 := by
      obtain ⟨k1, k2, k3⟩ := aban_ko (sv := sv) (o := o0) h.2.2.2.2.1.2.2.1.1 (nI_neg (by have := hb2 j (by omega); omega) (by decide)) z1
      have n16 := h.n16
      refine k1.tr (fail_ko (y := 5) (by rw [k2]; exact n16.1) (by rw [k3]; exact n16.2) ?_ (by omega) (by omega) z2)
      rw [k2, ← i2]
      exact h.fwi (by omega) i1 i3
    obtain ⟨S', M', p1, p2, p3, p4⟩ := ih (j + 1) (by omega) z4 (fun q hq => by rw [z6]; exact hs q hq) hd2 m m' (by omega) (by omega)
    refine ⟨S', M', ?_, ?_, p3, kst.tr p4⟩
    · rw [it_s, bfX0_abandonExpired_5, if_neg (fun z => by have := (len_16 (by omega)).mp z; omega), e1, ob_eq, if_neg (nI_neg (by have := hb2 j (by omega); omega) (by decide)), z1, ob_eq, z2, ob_eq, nA_1]
      exact p1
    · rw [it_s, bfX6_ticks_224, if_neg (nI_ge (by omega) (by omega)), if_pos (okI_nI (by omega) (by decide)), nI_clamp (by omega), hs j (by omega), z3, ob_eq, nA_1]
      exact p2
/-- step 6, from its list on -/
theorem abanS (ht : t < 2 ^ 29) (hwl : wl ≤ t + 1) {K : Nat} (hK : K < 2 ^ 29) {S : StS} {M : MS} (h : RE F Zf Zb t K t wl cl sg sv sw S M) : ∃ n S' M', fX0_abandonExpired S = some S' ∧ n ≤ 16 ∧ (ob (fX6_gathers (0 : Int32) M) fun u33 => iter (bfX6_ticks_224) FU (u33.1, (0 : Int32), u33.2)) = bfX6_ticks_224 (fun _ => none) (nI n, nI n, M') ∧ RE F Zf Zb t K (t + 1) wl cl sg sv sw S' M' ∧ Kp sv S S' := by
  obtain ⟨nr, r, N, nq, nb, qs, ws, fb, gb, at_, ow, h⟩ := h
  obtain ⟨n, g, s, q1, q2, q3, q4, q5⟩ := gathers_eq h ht (w := 0) (by omega)
  obtain ⟨S', M', p1, p2, p3, p4⟩ := aban_loop q2 q4 ht hwl hK n 0 (by omega) (h.sm s) q3 (fun y => (q5 y).trans ⟨fun ⟨k, k1, k2⟩ => ⟨k, by omega, k1, k2⟩, fun ⟨k, _, k1, k2⟩ => ⟨k, k1, k2⟩⟩) FU FU (by unfold FU; omega) (by unfold FU; omega)
  refine ⟨n, S', M', p1, q2, ?_, p3, p4⟩
  rw [show fX6_gathers (0 : Int32) M = _ from q1, ob_eq]
  exact p2
end AL
