/-! the next request that is due, as the class finds it -/
section ND
variable {F : Fx} {E Zf Zb : Nat → Prop} {t K lo wl : Nat} {cl sg : N2} {sv sw : N1} {nr : Nat} {r : N2} {N nq nb : Nat} {qs ws fb gb : N1} {at_ : N2} {ow : N1} {S S' : StS} {M M' : MS}
def cnd (x : Int32) (w t : Nat) (r : N2) (j : Nat) : Prop := ¬ nI (r j 0) ≤ x ∧ r j 4 = w ∧ r j 5 ≤ t
theorem nd_step (h : RG F E Zf Zb t K lo wl cl sg sv sw nr r N nq nb qs ws fb gb at_ ow S M) (ht : t < 2 ^ 29) {w : Nat} (hw : w ≤ 1) (x : Int32) {j : Nat} (hj : j < nr) (Q : Int32 → Option Int32) : (cnd x w t r j → bfX2_nextDue_2 x (nI w) S Q (nI j) = some (nI (r j 0))) ∧ (¬ cnd x w t r j → bfX2_nextDue_2 x (nI w) S Q (nI j) = Q (nI (j + 1))) := by
  have hR := h.2.2.2.1
  obtain ⟨b1, b2, b3, b4, b5, b6, -⟩ := hR.2.2.2.2.2 j hj
  have i16 := hR.2.1
  have g0 : sget 5 S (nI j) (0 : Int32) = nI (r j 0) := gR.get rfl hR hj (j := 0) (by omega)
  have g4 : sget 5 S (nI j) (4 : Int32) = nI (r j 4) := gR.get rfl hR hj (j := 4) (by omega)
  have g5 : sget 5 S (nI j) (5 : Int32) = nI (r j 5) := gR.get rfl hR hj (j := 5) (by omega)
  have e12 : S.2 12 = nI t := h.2.2.1.2.1
  have sz : ssize 5 S = nI nr := by
    show nI (tz 16 (S.1 5)) = _
    rw [tz_n (by rw [hR.1]; exact i16), hR.1]
  have h10 : ¬ (1 : Int32) = 0 := by decide
  have e : bfX2_nextDue_2 x (nI w) S Q (nI j) = if nI (r j 0) ≤ x then Q (nI (j + 1)) else (if nI (r j 4) = nI w then (if nI t < nI (r j 5) then Q (nI (j + 1)) else some (nI (r j 0))) else Q (nI (j + 1))) := by
    unfold bfX2_nextDue_2 bfX2_nextDue_31 bfX2_nextDue_56 bfX2_nextDue_85
    rw [sz, if_neg (nI_ge hj (by omega)), g0, g4, g5, e12, nA_1, if_pos rfl, if_neg h10]
    have hww : w = 0 ∨ w = 1 := by omega
    rcases hww with e | e
    · subst e
      rw [if_pos (show nI 0 = (0 : Int32) from rfl)]
      rfl
    · subst e
      rw [if_neg (show ¬ nI 1 = 0 by decide)]
      rfl
  rw [e]
  refine ⟨fun ⟨c1, c2, c3⟩ => ?_, fun hc => ?_⟩
  · rw [if_neg c1, if_pos (by rw [c2]), if_neg (nI_nlt c3 (by omega))]
  · by_cases c1 : nI (r j 0) ≤ x
    · rw [if_pos c1]
    · rw [if_neg c1]
      by_cases c2 : r j 4 = w
      · rw [if_pos (by rw [c2])]
        by_cases c3 : r j 5 ≤ t
        · exact absurd ⟨c1, c2, c3⟩ hc
        · rw [if_pos (nI_lt (by omega) (by omega))]
      · rw [if_neg (fun z => c2 ((nI_eq (by omega) (by omega)).mp z))]
end ND
