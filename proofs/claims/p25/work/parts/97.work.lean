/-! step 4, in both -/
section WR
variable {F : Fx} {E Zf Zb : Nat → Prop} {t K lo wl : Nat} {cl sg : N2} {sv sw : N1} {nr : Nat} {r : N2} {N nq nb : Nat} {qs ws fb gb : N1} {at_ : N2} {ow : N1} {S S' : StS} {M M' : MS}
theorem nI_dec {x : Nat} (h : 1 ≤ x) : nI x + (-1 : Int32) = nI (x - 1) := by
  obtain ⟨y, rfl⟩ : ∃ y, x = y + 1 := ⟨x - 1, by omega⟩
  exact pk_m1 y
theorem work_rel (h : RG F (fun _ => False) (fun _ => False) (fun _ => False) t K lo wl cl sg sv sw nr r N nq nb qs ws fb gb at_ ow S M) (hNb : N < 2 ^ 30) : ∃ S' M', fX1_work S = some S' ∧ fX6_works M = some M' ∧ RE F (fun _ => True) (fun _ => True) t K lo wl cl sg sv sw S' M' := by
  have q := h.nqb
  obtain ⟨S', eX, s7, sU, sk, s2⟩ := workX h hNb
  have at0 : atD at_ (fun _ => 0) = at_ := funext fun a => funext fun c => atD_0 rfl
  obtain ⟨p, D, eM, i1, i8, i2, i3, i4⟩ := works_go h (fun _ z => z) (fun _ z => z) 4 0 FU M.1 (fun _ => 0) (by omega) (by unfold FU; omega) ⟨fun _ _ => rfl, fun _ _ => rfl, by rw [at0]; exact h.2.2.2.2.1.1, fun w a _ _ => ⟨fun _ => ⟨fun z => absurd z (by omega), fun _ => rfl⟩, fun _ => rfl, fun u _ _ => ⟨fun z => absurd z (by omega), fun _ => rfl⟩⟩, fun _ _ => rfl⟩
  refine ⟨S', (p, M.2), eX, eM, nr, r, N, nq, nb, qs, ws, fb, gb, atD at_ D, ow, ?_⟩
  obtain ⟨hX, hT, hD, hR, ⟨hA, hQ, hF, hB, hG, hU⟩, hL, hN⟩ := h
  have a9 : ∀ a c, (c = 9 ∨ c = 1 ∨ c = 2 ∨ c = 4 ∨ c = 7) → atD at_ D a c = at_ a c := fun a c hc => atD_9 hc
  unfold RG gY
  rw [sk 1 (by omega), sk 5 (by omega), sk 6 (by omega), sk 8 (by omega), sk 9 (by omega), s2]
  refine ⟨hX.cg (Nat.le_refl _) q.1 q.2.1 (fun k hk => sk k (by omega)) (fun x hx => i1 x (by omega)), hT.cg (Nat.le_refl _) (fun x _ _ => i1 x (by omega)), hD.cg (Nat.le_refl _) (fun _ _ _ => rfl) (fun x hx => i1 x (by omega)), hR.cg (Nat.le_refl _) (Nat.le_refl _) (Nat.le_refl _) (fun x _ _ => i1 x (by omega)), ⟨i2, ?_, ?_, ?_, ?_, ?_⟩, ?_, hN.same hT.1 (sk 1 (by omega)) (by rw [s2]) rfl (fun x hx => i1 x (by omega))⟩
  · exact hQ.cg (fun x _ _ => i1 x (by omega)) (fun k c hk => atD_0 (i4 k hk)) (fun _ _ => rfl)
  · refine ⟨s7, fun w hw => ?_⟩
    obtain ⟨c1, c2, c3⟩ := hF.2 w hw
    refine ⟨(i1 _ (by omega)).trans c1, fun z => ?_, fun a ha => ?_⟩
    · rw [sU w 0 hw]
      unfold wU
      rw [if_pos z]
      exact c2 z
    · obtain ⟨b1, b2, b3, ⟨d0, d1, d2, d3, d4, d5⟩, b5, b6, b7, b8, b9, b10⟩ := c3 a ha
      obtain ⟨j2, j3, j4⟩ := i3 w a hw ha
      rw [a9 a 9 (by omega), a9 a 1 (by omega), a9 a 7 (by omega), a9 a 4 (by omega)]
      have e0 : ws w ≠ 0 := by omega
      have e1 : ws w - 1 = a := by omega
      rw [sU w 0 hw, sU w 1 hw, sU w 2 hw, sU w 3 hw, sU w 4 hw, sU w 5 hw]
      unfold wU
      rw [if_neg e0, if_neg e0, if_neg e0, if_neg e0, if_neg e0, if_neg e0, e1]
      refine ⟨b1, b2, (i8 a b1).trans b3, ?_⟩
      have a7 : at_ a 7 = 2 ∨ at_ a 7 = 3 ∨ at_ a 7 = 4 := by omega
      rcases a7 with e7 | e7 | e7
      · have Da := (j2 e7).1 (by omega)
        have h3 : 1 ≤ at_ a 3 := (b8 e7).2.resolve_left (fun z => z)
        have x3 : atD at_ D a 3 = at_ a 3 - 1 := (atD_1 Da).trans (if_pos rfl)
        have x5 : atD at_ D a 5 = at_ a 5 := (atD_1 Da).trans ((if_neg (by decide)).trans (if_neg (by decide)))
        have x6 : atD at_ D a 6 = at_ a 6 + 1 := (atD_1 Da).trans ((if_neg (by decide)).trans (if_pos rfl))
        rw [x3, x5, x6, e7]
        refine ⟨⟨d0, d1, ?_, d3, ?_, ?_⟩, by omega, by omega, by omega, fun _ => ⟨(b8 e7).1, Or.inl trivial⟩, fun z => absurd z (by decide), fun z => absurd z (by decide)⟩
        · show (S.1 7).2 w 2 + (-1) = _
          rw [d2, nI_dec h3]
        · show (S.1 7).2 w 4 + 1 = _
          rw [d4, nI_1]
        · show (S.1 7).2 w 5 = _
          rw [d5, e7]
      · have Da := j3 e7
        rw [atD_0 Da, atD_0 Da, atD_0 Da, e7]
        refine ⟨⟨d0, d1, d2, d3, d4, ?_⟩, b5, by omega, by omega, fun z => absurd z (by decide), fun _ => b9 e7, fun z => absurd z (by decide)⟩
        show (S.1 7).2 w 5 = _
        rw [d5, e7]
      · obtain ⟨u, hu, eu⟩ := hG.2.2.2 w a hw ha e7
        have Da := ((j4 u hu eu).1 (by omega))
        obtain ⟨-, a', a1, -, -, a4⟩ := (hG.2.1 u hu).2.2 w eu
        rw [ha] at a1
        obtain rfl : a = a' := by omega
        have h5 : 1 ≤ at_ a 5 := a4.resolve_left (fun z => z)
        have x3 : atD at_ D a 3 = at_ a 3 := (atD_2 Da).trans ((if_neg (by decide)).trans (if_neg (by decide)))
        have x5 : atD at_ D a 5 = at_ a 5 - 1 := (atD_2 Da).trans (if_pos rfl)
        have x6 : atD at_ D a 6 = at_ a 6 + 1 := (atD_2 Da).trans ((if_neg (by decide)).trans (if_pos rfl))
        rw [x3, x5, x6, e7]
        refine ⟨⟨d0, d1, d2, ?_, ?_, ?_⟩, by omega, by omega, by omega, fun z => absurd z (by decide), fun z => absurd z (by decide), fun _ => b10 e7⟩
        · show (S.1 7).2 w 3 + (-1) = _
          rw [d3, nI_dec h5]
        · show (S.1 7).2 w 4 + 1 = _
          rw [d4, nI_1]
        · show (S.1 7).2 w 5 = _
          rw [d5, e7]
  · exact hB.cg (fun x _ _ => i1 x (by omega)) (fun w a hw ha => a9 a 7 (by omega))
  · obtain ⟨g1, g2, g3, g4⟩ := hG
    refine ⟨g1, fun w hw => ?_, g3, fun f a hf ha z => g4 f a hf ha ((a9 a 7 (by omega)).symm.trans z)⟩
    obtain ⟨c1, c2, c3⟩ := g2 w hw
    refine ⟨c1, fun z => (i1 _ (by omega)).trans (c2 z), fun f z => ?_⟩
    obtain ⟨d1, a, d2, d3, d4, d5⟩ := c3 f z
    exact ⟨d1, a, d2, (i1 _ (by omega)).trans d3, (a9 a 7 (by omega)).trans d4, Or.inl trivial⟩
  · unfold gU
    simp only [a9 _ 9 (Or.inl rfl)]
    exact hU
  · have hL2 := hL.cg q.2.2 (p' := p) (fun x _ _ => i1 x (by omega))
    unfold gL
    simp only [a9 _ 9 (Or.inl rfl), a9 _ 1 (Or.inr (Or.inl rfl))]
    exact hL2
end WR
