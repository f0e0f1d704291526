/-! step 5, at the back -/
section NL
variable {F : Fx} {E Zf Zb : Nat → Prop} {t K lo wl : Nat} {cl sg : N2} {sv sw : N1} {nr : Nat} {r : N2} {N nq nb : Nat} {qs ws fb gb : N1} {at_ : N2} {ow : N1} {S S' : StS} {M M' : MS}
theorem RG.zb {Zb' : Nat → Prop} (h : RG F E Zf Zb t K lo wl cl sg sv sw nr r N nq nb qs ws fb gb at_ ow S M) (e : ∀ w f a, w < 4 → gb w = f + 1 → ws f = a + 1 → Zb w → Zb' w ∨ 1 ≤ at_ a 5) : RG F E Zf Zb' t K lo wl cl sg sv sw nr r N nq nb qs ws fb gb at_ ow S M := by
  obtain ⟨hX, hT, hD, hR, ⟨hA, hQ, hF, hB, ⟨g1, g2, g3, g4⟩, hU⟩, hL, hN⟩ := h
  refine ⟨hX, hT, hD, hR, ⟨hA, hQ, hF, hB, ⟨g1, fun w hw => ?_, g3, g4⟩, hU⟩, hL, hN⟩
  obtain ⟨c1, c2, c3⟩ := g2 w hw
  refine ⟨c1, c2, fun f hf => ?_⟩
  obtain ⟨d1, a, d2, d3, d4, d5⟩ := c3 f hf
  exact ⟨d1, a, d2, d3, d4, d5.elim (fun z => e w f a hw hf d2 z) Or.inr⟩
theorem RG.zf {Zf' : Nat → Prop} (h : RG F E Zf Zb t K lo wl cl sg sv sw nr r N nq nb qs ws fb gb at_ ow S M) (e : ∀ w a, w < 4 → ws w = a + 1 → at_ a 7 = 2 → Zf w → Zf' w ∨ 1 ≤ at_ a 3) : RG F E Zf' Zb t K lo wl cl sg sv sw nr r N nq nb qs ws fb gb at_ ow S M := by
  obtain ⟨hX, hT, hD, hR, ⟨hA, hQ, hF, hB, hG, hU⟩, hL, hN⟩ := h
  refine ⟨hX, hT, hD, hR, ⟨hA, hQ, ⟨hF.1, fun w hw => ?_⟩, hB, hG, hU⟩, hL, hN⟩
  obtain ⟨c1, c2, c3⟩ := hF.2 w hw
  refine ⟨c1, c2, fun a ha => ?_⟩
  obtain ⟨a1, a2, a3, a4, a5, a6, a7, a8, a9, a10⟩ := c3 a ha
  exact ⟨a1, a2, a3, a4, a5, a6, a7, fun q => ⟨(a8 q).1, (a8 q).2.elim (fun z => e w a hw ha q z) Or.inr⟩, a9, a10⟩
theorem finB {v : Nat} (h : RG F (fun _ => False) Zf (fun w => v ≤ w) t K lo wl cl sg sv sw nr r N nq nb qs ws fb gb at_ ow S M) (hK : K < 2 ^ 29) (ht : t < 2 ^ 29) (hv : v < 4) : ∃ S' M' K', (∀ K2, bfX1_endBackWork_2 K2 (nI v, S) = K2 (nI (v + 1), S')) ∧ fX6_finishesBack (nI v) M = some M' ∧ K' ≤ K + 24 ∧ RE F Zf (fun w => v + 1 ≤ w) t K' lo wl cl sg sv sw S' M' := by
  obtain ⟨hA, hQ, hF, hB, hG, hU⟩ := h.2.2.2.2.1
  obtain ⟨c1, c2, c3⟩ := hG.2.1 v hv
  have hc : (nI (595 + v)).toNatClampNeg = 595 + v := nI_clamp (by omega)
  have ho : okI (nI (595 + v)) 5130 ↔ True := okT (by omega) (by decide)
  have h4 : ¬ (4 : Int32) ≤ nI v := fun z => by have := (len_4 (by omega)).mp z; omega
  by_cases hg : gb v = 0
  · refine ⟨S, M, K, fun K2 => ?_, ?_, by omega, ⟨_, _, _, _, _, _, _, _, _, _, _, h.zb (fun w f a hw e1 e2 z => Or.inl ?_)⟩⟩
    · rw [bfX1_endBackWork_2, if_neg h4, nm, show sget 9 S (nI v) (0 : Int32) = -9 from (sg9 hG.1 hv).trans (by rw [c1, hg]; rfl), if_pos rfl]
      unfold bfX1_endBackWork_51
      rw [nA_1]
    · unfold fX6_finishesBack bfX6_finishesBack_73
      rw [nB_595]
      simp only [ho, hc, if_true]
      rw [nm, c2 hg, if_pos rfl]
    · have : w ≠ v := fun y => by rw [y] at e1; omega
      omega
  · obtain ⟨f, ef⟩ : ∃ f, gb v = f + 1 := ⟨gb v - 1, by omega⟩
    obtain ⟨g1, a, g2, g3, g4, g5⟩ := c3 f ef
    obtain ⟨d1, d2, d3, ⟨d4, d5, d6, d7, d8, d9⟩, d10, -⟩ := (hF.2 f g1).2.2 a g2
    have e5 := ((hA a d1).2.2 d2).2 5 (by omega) (by omega)
    have eX : ∀ K2, bfX1_endBackWork_2 K2 (nI v, S) = if nI (at_ a 5) = 0 then ob (fX1_answer (nI f) (sput 9 S (nI v) (0 : Int32) (-9 : Int32))) fun u6 => K2 (nI (v + 1), u6) else K2 (nI (v + 1), S) := by
      intro K2
      rw [bfX1_endBackWork_2, if_neg h4, nm, show sget 9 S (nI v) (0 : Int32) = nI f from (sg9 hG.1 hv).trans (by rw [c1, ef]; rfl), if_neg (nI_neg (by omega) (by decide)), show sget 7 S (nI f) (3 : Int32) = nI (at_ a 5) from (sg7 hF.1 g1 (c := 3) (by omega)).trans d7]
      unfold bfX1_endBackWork_51
      rw [nA_1]
      rfl
    by_cases h0 : at_ a 5 = 0
    · have hgu : ∀ w, w < 4 → gb w = f + 1 → w = v := fun w hw e => hG.2.2.1 w v hw hv (by omega) (by rw [e, ef])
      have hfb : ∀ k, k < nb → fb k ≠ f := fun k hk e => by
        obtain ⟨-, -, b, c3, -, c5⟩ := hB.2.2.2.1 k hk
        rw [e, g2] at c3
        obtain rfl : a = b := by omega
        omega
      obtain ⟨S', M', nr', r', K', q1, q2, q3, q4⟩ := answer_rel h hK ht (v := v) g1 g2 (fun _ => ef) hgu hfb (Sv := sput 9 S (nI v) (0 : Int32) (-9 : Int32)) (Mv := (upd (upd M.1 (595 + v) (-9)) (591 + f) (-9), M.2))
        (by
          rw [sp9 hG.1 hv, ss_s]
          exact ⟨rfl, fun _ => fup_s rfl rfl, fun w _ hne => fup_r hne⟩) (fun k hk => sput_n hk) rfl (fun x x1 x2 => by
          show upd (upd M.1 (595 + v) (-9)) (591 + f) (-9) x = _
          rw [up_n x1, up_n (by omega)]) (by dsimp only; exact up_s rfl) (fun _ => by
          show upd (upd M.1 (595 + v) (-9)) (591 + f) (-9) (595 + v) = _
          rw [up_n (by omega), up_s rfl]) rfl
      refine ⟨S', M', K', fun K2 => ?_, ?_, q3, ⟨_, _, _, _, _, _, _, _, _, _, _, q4.zb (fun w f' b hw e1 e2 z => Or.inl ?_)⟩⟩
      · rw [eX, if_pos ((eqn_0 (by omega)).mpr h0), q1, ob_eq]
      · unfold fX6_finishesBack bfX6_finishesBack_73
        rw [nB_595]
        simp only [ho, hc, if_true]
        rw [nm, g3, if_neg (nI_neg (by omega) (by decide)), slot_eq, ob_eq, nA_5, if_pos (okI_nI (by omega) (by decide)), nI_clamp (by omega), e5, if_pos ((eqn_0 (by omega)).mpr h0), nm, slot_eq, ob_eq, nA_8, if_pos (okI_nI (by omega) (by decide)), nI_clamp (by omega)]
        have e8 : ((upd M.1 (595 + v) (-9), M.2) : MS).1 (317 + 10 * a + 8) = nI f := (up_n (by omega)).trans d3
        rw [e8, nB_591, if_pos (okI_nI (by omega) (by decide)), nm, nI_clamp (by omega)]
        exact (congrArg (fun o => ob o fun u12 => some u12) q2).trans rfl
      · have : w ≠ v := fun y => by
          rw [y, show z1 gb v v = 0 from if_pos rfl] at e1
          omega
        omega
    · refine ⟨S, M, K, fun K2 => ?_, ?_, by omega, ⟨_, _, _, _, _, _, _, _, _, _, _, h.zb (fun w f' b hw e1 e2 z => ?_)⟩⟩
      · rw [eX, if_neg (fun z => h0 ((eqn_0 (by omega)).mp z))]
      · unfold fX6_finishesBack bfX6_finishesBack_73
        rw [nB_595]
        simp only [ho, hc, if_true]
        rw [nm, g3, if_neg (nI_neg (by omega) (by decide)), slot_eq, ob_eq, nA_5, if_pos (okI_nI (by omega) (by decide)), nI_clamp (by omega), e5, if_neg (fun z => h0 ((eqn_0 (by omega)).mp z))]
      · by_cases y : w = v
        · rw [y, ef] at e1
          obtain rfl : f = f' := by omega
          rw [g2] at e2
          obtain rfl : a = b := by omega
          exact Or.inr (by omega)
        · exact Or.inl (by omega)
theorem endB (ht : t < 2 ^ 29) : ∀ (k v : Nat) {K : Nat} {S : StS} {M : MS}, v + k = 4 → K < 2 ^ 28 + 24 * v → RE F Zf (fun w => v ≤ w) t K lo wl cl sg sv sw S M → ∀ m m', k < m → k < m' → ∃ S' M' K', iter bfX1_endBackWork_2 m (nI v, S) = some S' ∧ iter bfX6_ticks_182 m' (nI v, M) = iter bfX6_ticks_200 FU (nI 0, M') ∧ K' ≤ K + 24 * k ∧ RE F Zf (fun _ => False) t K' lo wl cl sg sv sw S' M' ∧ Kp sv S S' := by
  intro k
  induction k with
  | zero =>
    intro v K S M hv hK ⟨nr, r, N, nq, nb, qs, ws, fb, gb, at_, ow, h⟩ m m' hm hm'
    obtain ⟨m, rfl⟩ : ∃ k, m = k + 1 := ⟨m - 1, by omega⟩
    obtain ⟨m', rfl⟩ : ∃ k, m' = k + 1 := ⟨m' - 1, by omega⟩
    obtain rfl : v = 4 := by omega
    refine ⟨S, M, K, ?_, ?_, by omega, ⟨_, _, _, _, _, _, _, _, _, _, _, h.zb (fun w f a hw _ _ z => absurd z (by omega))⟩, Kp.rf sv S⟩
    · show bfX1_endBackWork_2 _ _ = _
      rw [bfX1_endBackWork_2, if_pos (by decide)]
    · show bfX6_ticks_182 _ _ = _
      rw [bfX6_ticks_182, if_pos (by decide)]
      rfl
  | succ k ih =>
    intro v K S M hv hK ⟨nr, r, N, nq, nb, qs, ws, fb, gb, at_, ow, h⟩ m m' hm hm'
    obtain ⟨m, rfl⟩ : ∃ k, m = k + 1 := ⟨m - 1, by omega⟩
    obtain ⟨m', rfl⟩ : ∃ k, m' = k + 1 := ⟨m' - 1, by omega⟩
    obtain ⟨S1, M1, K1, q1, q2, q3, q4⟩ := finB h (by omega) ht (by omega)
    have hNK : N ≤ K := h.2.2.1.2.2.2.2.2.2.1
    have kst : Kp sv S S1 := ebw_ko h (by omega) (by omega) (q1 (fun p => some p.2))
    obtain ⟨S', M', K', p1, p2, p3, p4, p5⟩ := ih (v + 1) (by omega) (by omega) q4 m m' (by omega) (by omega)
    refine ⟨S', M', K', ?_, ?_, by omega, p4, kst.tr p5⟩
    · show bfX1_endBackWork_2 (iter _ m) _ = _
      rw [q1]
      exact p1
    · show bfX6_ticks_182 (iter _ m') _ = _
      rw [bfX6_ticks_182, if_neg (fun z => by have := (len_4 (by omega)).mp z; omega), q2, ob_eq, nA_1]
      exact p2
end NL
