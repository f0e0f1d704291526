/-! setServer, in both -/
section SV
variable {g0 t K : Nat} {cl sg : N2} {sv sw : N1} {S : StS} {p : Pg}
theorem RZ.setsv (h : RZ g0 t K cl sg sv sw S p) {i v : Nat} (hi : i < 4) (h1 : 1 ≤ v) (h2 : v ≤ mxS i) (h6 : i = 1 → ∀ n, n ≤ 16 → p 557 = nI n → n ≤ v) (h8 : i = 3 → ∀ n, n ≤ 16 → p 574 = nI n → n ≤ v) : sget 3 S (nI i) (0 : Int32) = p (174 + i) ∧ RZ g0 t K cl sg (fun j => if j = i then v else sv j) sw (sput 3 S (nI i) (0 : Int32) (nI v)) (upd p (174 + i) (nI v)) := by
  obtain ⟨nr, r, N, nq, nb, qs, ws, fb, gb, at_, ow, ⟨hC, hS, hV, hW, hH⟩, hT, hD, hR, hY, hL⟩ := h
  have e : ∀ x, x ≠ 174 + i → upd p (174 + i) (nI v) x = p x := fun x hx => up_n hx
  have es : sput 3 S (nI i) (0 : Int32) (nI v) = sset S 3 ((S.1 3).1, fup (S.1 3).2 i 0 (nI v)) := by
    show sset S 3 (tput 1 4 (S.1 3) (nI i) (nI 0) (nI v)) = _
    rw [tp (by rw [hV.1]; exact hi) hi (by omega) (by omega) (by omega)]
  have hq6 := hY.2.1.2.2.1
  have hq6' := hY.2.1.2.1
  have hb8 := hY.2.2.2.1.2.2.1
  have hb8' := hY.2.2.2.1.2.1
  refine ⟨(tg (w := 1) (rows := 4) (T := S.1 3) (j := 0) (by rw [hV.1]; exact hi) hi (by omega) (by omega) (by omega)).trans ((hV.2.1 i hi).1.trans (hV.2.1 i hi).2.1.symm), ?_⟩
  rw [es]
  unfold RZ gX
  rw [ss_n (show 2 ≠ 3 by omega), ss_n (show 4 ≠ 3 by omega), ss_n (show 0 ≠ 3 by omega), ss_n (show 10 ≠ 3 by omega), ss_n (show 1 ≠ 3 by omega), ss_n (show 5 ≠ 3 by omega), ss_s]
  refine ⟨nr, r, N, nq, nb, qs, ws, fb, gb, at_, ow, ⟨hC.cg (fun x _ => e x (by omega)), hS.cg (Nat.le_refl _) (fun x _ _ => e x (by omega)), ⟨hV.1, fun j hj => ?_, ?_, ?_⟩, hW.cg (fun x _ _ => e x (by omega)), hH.cg (fun x _ _ => e x (by omega))⟩, hT.cg (Nat.le_refl _) (fun x _ _ => e x (by omega)), hD.cg (Nat.le_refl _) (fun _ _ _ => rfl) (fun x hx => e x (by omega)), hR.cg (Nat.le_refl _) (Nat.le_refl _) (Nat.le_refl _) (fun x _ _ => e x (by omega)), hY.cg (fun k _ _ => ss_n (by omega)) (fun x _ _ => e x (by omega)), hL.cg hR.2.1 (fun x _ _ => e x (by omega))⟩
  · show fup (S.1 3).2 i 0 (nI v) j 0 = nI (if j = i then v else sv j) ∧ upd p (174 + i) (nI v) (174 + j) = nI (if j = i then v else sv j) ∧ 1 ≤ (if j = i then v else sv j) ∧ (if j = i then v else sv j) ≤ mxS j
    by_cases q : j = i
    · rw [if_pos q, fup_s q rfl, up_s (by rw [q]), q]
      exact ⟨rfl, rfl, h1, h2⟩
    · rw [if_neg q, fup_r q, e _ (by omega)]
      exact hV.2.1 j hj
  · show nq ≤ if 1 = i then v else sv 1
    by_cases q : 1 = i
    · rw [if_pos q]
      exact h6 q.symm nq hq6' hq6
    · rw [if_neg q]
      exact hV.2.2.1
  · show nb ≤ if 3 = i then v else sv 3
    by_cases q : 3 = i
    · rw [if_pos q]
      exact h8 q.symm nb hb8' hb8
    · rw [if_neg q]
      exact hV.2.2.2
/-- what both see of the workers -/
theorem RZ.workers (h : RZ g0 t K cl sg sv sw S p) (hK : K < 2 ^ 29) : ∃ (nq nb : Nat) (ws gb : N1), ssize 6 S = nI nq ∧ p 557 = nI nq ∧ nq ≤ 16 ∧ ssize 8 S = nI nb ∧ p 574 = nI nb ∧ nb ≤ 16 ∧ (∀ w, w < 4 → (ws w = 0 → sget 7 S (nI w) (0 : Int32) = -9 ∧ p (591 + w) = -9) ∧ (ws w ≠ 0 → sget 7 S (nI w) (0 : Int32) ≠ -9 ∧ p (591 + w) ≠ -9)) ∧ ∀ w, w < 4 → (gb w = 0 → sget 9 S (nI w) (0 : Int32) = -9 ∧ p (595 + w) = -9) ∧ (gb w ≠ 0 → sget 9 S (nI w) (0 : Int32) ≠ -9 ∧ p (595 + w) ≠ -9) := by
  obtain ⟨nr, r, N, nq, nb, qs, ws, fb, gb, at_, ow, hX, hT, hD, hR, ⟨hA, hQ, hF, hB, hG, hU⟩, hL⟩ := h
  have hN : N ≤ K := hD.2.2.2.2.2.2.1
  refine ⟨nq, nb, ws, gb, sz6 rfl hQ, hQ.2.2.1, hQ.2.1, sz8 hB.1 hB.2.1, hB.2.2.1, hB.2.1, fun w hw => ?_, fun w hw => ?_⟩
  · obtain ⟨c1, c2, c3⟩ := hF.2 w hw
    rw [show sget 7 S (nI w) (0 : Int32) = (S.1 7).2 w 0 from sg7 hF.1 hw (c := 0) (by omega), c1]
    refine ⟨fun e => ⟨c2 e, by rw [e]; rfl⟩, fun e => ?_⟩
    obtain ⟨a, ea⟩ : ∃ a, ws w = a + 1 := ⟨ws w - 1, by omega⟩
    obtain ⟨d1, d2, d3, ⟨d4, -⟩, -⟩ := c3 a ea
    rw [d4, ea]
    refine ⟨owI_9 ?_, nI_neg (by omega) (by decide)⟩
    rcases (hL.2 a d1 d2).2 with ⟨z, -⟩ | ⟨k, k1, k2, -⟩
    · omega
    · have := (hR.2.2.2.2.2 k k1).1
      omega
  · obtain ⟨c1, c2, c3⟩ := hG.2.1 w hw
    rw [sg9 hG.1 hw, c1]
    refine ⟨fun e => ⟨by rw [e]; rfl, c2 e⟩, fun e => ?_⟩
    obtain ⟨f, ef⟩ : ∃ f, gb w = f + 1 := ⟨gb w - 1, by omega⟩
    obtain ⟨f4, a, a1, a2, -⟩ := c3 f ef
    have ha := ((hF.2 f f4).2.2 a a1).1
    rw [ef, a2]
    exact ⟨nI_neg (a := f) (by omega) (by decide), nI_neg (by omega) (by decide)⟩
end SV
def frk (tk : N1) : Nat → Nat → Nat
  | 0, _ => 1
  | k + 1, w => if tk w = 0 then frk tk k (w + 1) else 0
theorem frk_p {tk : N1} {k w : Nat} (h : tk w = 0) : frk tk (k + 1) w = frk tk k (w + 1) := if_pos h
theorem frk_n {tk : N1} {k w : Nat} (h : ¬ tk w = 0) : frk tk (k + 1) w = 0 := if_neg h
theorem any7 {X : RS} {tk : N1} (h : ∀ w, w < 4 → (tk w = 0 → sget 7 (X.2.1 0) (nI w) (0 : Int32) = -9) ∧ (tk w ≠ 0 → sget 7 (X.2.1 0) (nI w) (0 : Int32) ≠ -9)) (p2 : Int32) : ∀ (k w m : Nat), w + k = 4 → k < m → iter (bfX5_isAnyTakenFrom_7_2 p2 X) m (nI w) = some (if frk tk k w = 1 then 0 else 1) := by
  intro k
  induction k with
  | zero =>
    intro w m hw hm
    obtain ⟨m, rfl⟩ : ∃ k, m = k + 1 := ⟨m - 1, by omega⟩
    obtain rfl : w = 4 := by omega
    rw [it_s, bfX5_isAnyTakenFrom_7_2, if_pos (by decide), if_pos (show frk tk 0 4 = 1 from rfl)]
  | succ k ih =>
    intro w m hw hm
    obtain ⟨m, rfl⟩ : ∃ k, m = k + 1 := ⟨m - 1, by omega⟩
    have e4 : ¬ (4 : Int32) ≤ nI w := fun z => by have := (len_4 (by omega)).mp z; omega
    by_cases e : tk w = 0
    · rw [it_s, bfX5_isAnyTakenFrom_7_2, if_neg e4, if_pos ((h w (by omega)).1 e), nA_1, ih (w + 1) m (by omega) (by omega), frk_p e]
    · rw [it_s, bfX5_isAnyTakenFrom_7_2, if_neg e4, if_neg ((h w (by omega)).2 e), frk_n e, if_neg (show ¬ (0 : Nat) = 1 by decide)]
theorem any9 {X : RS} {tk : N1} (h : ∀ w, w < 4 → (tk w = 0 → sget 9 (X.2.1 0) (nI w) (0 : Int32) = -9) ∧ (tk w ≠ 0 → sget 9 (X.2.1 0) (nI w) (0 : Int32) ≠ -9)) (p2 : Int32) : ∀ (k w m : Nat), w + k = 4 → k < m → iter (bfX5_isAnyTakenFrom_9_2 p2 X) m (nI w) = some (if frk tk k w = 1 then 0 else 1) := by
  intro k
  induction k with
  | zero =>
    intro w m hw hm
    obtain ⟨m, rfl⟩ : ∃ k, m = k + 1 := ⟨m - 1, by omega⟩
    obtain rfl : w = 4 := by omega
    rw [it_s, bfX5_isAnyTakenFrom_9_2, if_pos (by decide), if_pos (show frk tk 0 4 = 1 from rfl)]
  | succ k ih =>
    intro w m hw hm
    obtain ⟨m, rfl⟩ : ∃ k, m = k + 1 := ⟨m - 1, by omega⟩
    have e4 : ¬ (4 : Int32) ≤ nI w := fun z => by have := (len_4 (by omega)).mp z; omega
    by_cases e : tk w = 0
    · rw [it_s, bfX5_isAnyTakenFrom_9_2, if_neg e4, if_pos ((h w (by omega)).1 e), nA_1, ih (w + 1) m (by omega) (by omega), frk_p e]
    · rw [it_s, bfX5_isAnyTakenFrom_9_2, if_neg e4, if_neg ((h w (by omega)).2 e), frk_n e, if_neg (show ¬ (0 : Nat) = 1 by decide)]
theorem fits591 {M : MS} {tk : N1} (p2 : Int32) (h : ∀ w, w < 4 → (tk w = 0 → M.1 (591 + w) = -9) ∧ (tk w ≠ 0 → M.1 (591 + w) ≠ -9)) : ∀ (k w m : Nat) (x3 : Int32), w + k = 4 → k < m → (x3 = 0 ∨ x3 = 1) → iter (bfX6_setServer_82 (nI 0) p2) m (x3, nI w, M) = bfX6_setServer_136 (nI 0) p2 (if x3 = 1 ∧ frk tk k w = 1 then 1 else 0) M := by
  intro k
  induction k with
  | zero =>
    intro w m x3 hw hm hx
    obtain ⟨m, rfl⟩ : ∃ k, m = k + 1 := ⟨m - 1, by omega⟩
    obtain rfl : w = 4 := by omega
    rw [it_s, bfX6_setServer_82, if_pos (by decide)]
    rcases hx with e | e
    · rw [if_neg (fun z => absurd (e.symm.trans z.1) (by decide)), e]
    · rw [if_pos ⟨e, rfl⟩, e]
  | succ k ih =>
    intro w m x3 hw hm hx
    obtain ⟨m, rfl⟩ : ∃ k, m = k + 1 := ⟨m - 1, by omega⟩
    have e4 : ¬ (4 : Int32) ≤ nI w := fun z => by have := (len_4 (by omega)).mp z; omega
    have hc : ((591 : Int32) + nI w).toNatClampNeg = 591 + w := by rw [nB_591]; exact nI_clamp (by omega)
    have ho : okI ((591 : Int32) + nI w) 5130 ↔ True := by rw [nB_591]; exact okT (by omega) (by decide)
    have hz := ih (w + 1) m 0 (by omega) (by omega) (Or.inl rfl)
    rw [if_neg (fun z => absurd z.1 (by decide))] at hz
    rw [it_s, bfX6_setServer_82, if_neg e4, if_pos (by decide)]
    unfold bfX6_setServer_128 bfX6_setServer_115 bfX6_setServer_128 bfX6_setServer_129
    simp only [hc, ho, if_true, nA_1]
    rcases hx with e | e
    · rw [if_pos e, hz, if_neg (fun z => absurd (e.symm.trans z.1) (by decide))]
    · rw [if_neg (show ¬ x3 = 0 by rw [e]; decide), if_pos (show nI 0 = (0 : Int32) from rfl)]
      by_cases c : tk w = 0
      · rw [if_pos ((h w (by omega)).1 c), ih (w + 1) m 1 (by omega) (by omega) (Or.inr rfl), frk_p c, e]
      · rw [if_neg ((h w (by omega)).2 c), hz, frk_n c, if_neg (fun z => absurd z.2 (by decide))]
theorem fits595 {M : MS} {tk : N1} (p2 : Int32) (h : ∀ w, w < 4 → (tk w = 0 → M.1 (595 + w) = -9) ∧ (tk w ≠ 0 → M.1 (595 + w) ≠ -9)) : ∀ (k w m : Nat) (x3 : Int32), w + k = 4 → k < m → (x3 = 0 ∨ x3 = 1) → iter (bfX6_setServer_82 (nI 2) p2) m (x3, nI w, M) = bfX6_setServer_136 (nI 2) p2 (if x3 = 1 ∧ frk tk k w = 1 then 1 else 0) M := by
  intro k
  induction k with
  | zero =>
    intro w m x3 hw hm hx
    obtain ⟨m, rfl⟩ : ∃ k, m = k + 1 := ⟨m - 1, by omega⟩
    obtain rfl : w = 4 := by omega
    rw [it_s, bfX6_setServer_82, if_pos (by decide)]
    rcases hx with e | e
    · rw [if_neg (fun z => absurd (e.symm.trans z.1) (by decide)), e]
    · rw [if_pos ⟨e, rfl⟩, e]
  | succ k ih =>
    intro w m x3 hw hm hx
    obtain ⟨m, rfl⟩ : ∃ k, m = k + 1 := ⟨m - 1, by omega⟩
    have e4 : ¬ (4 : Int32) ≤ nI w := fun z => by have := (len_4 (by omega)).mp z; omega
    have hc : ((595 : Int32) + nI w).toNatClampNeg = 595 + w := by rw [nB_595]; exact nI_clamp (by omega)
    have ho : okI ((595 : Int32) + nI w) 5130 ↔ True := by rw [nB_595]; exact okT (by omega) (by decide)
    have hz := ih (w + 1) m 0 (by omega) (by omega) (Or.inl rfl)
    rw [if_neg (fun z => absurd z.1 (by decide))] at hz
    rw [it_s, bfX6_setServer_82, if_neg e4, if_pos (by decide)]
    unfold bfX6_setServer_128 bfX6_setServer_115 bfX6_setServer_128 bfX6_setServer_129
    simp only [hc, ho, if_true, nA_1]
    rcases hx with e | e
    · rw [if_pos e, hz, if_neg (fun z => absurd (e.symm.trans z.1) (by decide))]
    · rw [if_neg (show ¬ x3 = 0 by rw [e]; decide), if_neg (show ¬ nI 2 = (0 : Int32) by decide)]
      by_cases c : tk w = 0
      · rw [if_pos ((h w (by omega)).1 c), ih (w + 1) m 1 (by omega) (by omega) (Or.inr rfl), frk_p c, e]
      · rw [if_neg ((h w (by omega)).2 c), hz, frk_n c, if_neg (fun z => absurd z.2 (by decide))]
