/-! step 5: the sums are kept -/
section EK
variable {F : Fx} {Zf Zb : Nat → Prop} {t K lo wl : Nat} {cl sg : N2} {sv sw : N1} {nr : Nat} {r : N2} {N nq nb : Nat} {qs ws fb gb : N1} {at_ : N2} {ow : N1} {S S' : StS} {M : MS}
theorem RG.hm (h : RG F (fun _ => False) Zf Zb t K lo wl cl sg sv sw nr r N nq nb qs ws fb gb at_ ow S M) : ∀ i, i < (S.1 5).1 → (S.1 5).2 i 4 = 0 → ∃ m : Nat, (S.1 5).2 i 3 = nI m ∧ 1 ≤ m ∧ m ≤ 6 := by
  intro i hi _
  obtain ⟨k1, k2, k3, k4, k5, k6⟩ := h.2.2.2.1
  obtain ⟨a1, a2, a3, a4, a5, a6, a7, a8, a9, a10⟩ := k6 i (by omega)
  exact ⟨r i 3, (k4 i 3 (by omega) (by omega)).1, a9 (fun z => z), a4⟩
theorem ebw_ko (h : RG F (fun _ => False) Zf Zb t K lo wl cl sg sv sw nr r N nq nb qs ws fb gb at_ ow S M) (hN : N < 2 ^ 30) {v : Nat} (hv : v < 4) (hh : bfX1_endBackWork_2 (fun p => some p.2) (nI v, S) = some S') : Kp sv S S' := by
  obtain ⟨hA, hQ, hF, hB, hG, hU⟩ := h.2.2.2.2.1
  obtain ⟨c1, c2, c3⟩ := hG.2.1 v hv
  have n16 := h.n16
  have h4 : ¬ (4 : Int32) ≤ nI v := fun z => by have := (len_4 (by omega)).mp z; omega
  rw [bfX1_endBackWork_2, if_neg h4, nm, show sget 9 S (nI v) (0 : Int32) = wsI (gb v) from (sg9 hG.1 hv).trans c1] at hh
  by_cases hg : gb v = 0
  · rw [hg, if_pos (show wsI 0 = (-9 : Int32) from rfl)] at hh
    rw [← Option.some.inj (show some S = some S' from hh)]
    exact Kp.rf sv S
  · obtain ⟨f, ef⟩ : ∃ f, gb v = f + 1 := ⟨gb v - 1, by omega⟩
    obtain ⟨g1, a, g2, g3, g4, g5⟩ := c3 f ef
    obtain ⟨d1, d2, d3, ⟨d4, -⟩, -⟩ := (hF.2 f g1).2.2 a g2
    have ho := (h.owner d1 d2).1
    rw [ef, show wsI (f + 1) = nI f from rfl, if_neg (nI_neg (by omega) (by decide))] at hh
    rcases if_or hh with ⟨-, hh⟩ | ⟨-, hh⟩
    · rw [nm] at hh
      obtain ⟨u, u1, u2⟩ := ob_some hh
      rw [← Option.some.inj (show some u = some S' from u2)]
      have t9 : ∀ k, k ≠ 9 → (sput 9 S (nI v) (0 : Int32) (-9 : Int32)).1 k = S.1 k := fun k hk => ss_n (k := 9) hk
      have k9 : Kp sv S (sput 9 S (nI v) (0 : Int32) (-9 : Int32)) := put9_ko rfl
      refine k9.tr (ans_ko (S := sput 9 S (nI v) (0 : Int32) (-9 : Int32)) (by rw [t9 5 (by omega)]; exact n16.1) (by rw [t9 1 (by omega)]; exact n16.2) (by rw [t9 7 (by omega)]; exact hF.1) g1 ?_ ?_ ?_ u1)
      · rw [t9 7 (by omega), d4]
        exact owI_9 (by omega)
      · rw [t9 7 (by omega), t9 5 (by omega), d4]
        exact h.fwo hN d1 d2
      · rw [t9 5 (by omega)]
        exact h.hm
    · rw [← Option.some.inj (show some S = some S' from hh)]
      exact Kp.rf sv S
theorem efw_ko (h : RG F (fun _ => False) Zf Zb t K lo wl cl sg sv sw nr r N nq nb qs ws fb gb at_ ow S M) (hN : N < 2 ^ 30) {v : Nat} (hv : v < 4) (hh : bfX1_endFrontWork_2 (fun p => some p.2) (nI v, S) = some S') : Kp sv S S' := by
  obtain ⟨hA, hQ, hF, hB, hG, hU⟩ := h.2.2.2.2.1
  obtain ⟨c1, c2, c3⟩ := hF.2 v hv
  have n16 := h.n16
  have h4 : ¬ (4 : Int32) ≤ nI v := fun z => by have := (len_4 (by omega)).mp z; omega
  have hno : some S = some S' → Kp sv S S' := fun z => by
    rw [← Option.some.inj z]
    exact Kp.rf sv S
  have h38 : bfX1_endFrontWork_38 (fun p => some p.2) (nI v) S = some S' → Kp sv S S' := fun z => by
    unfold bfX1_endFrontWork_38 bfX1_endFrontWork_39 at z
    rw [if_pos rfl] at z
    exact hno z
  rw [bfX1_endFrontWork_2, if_neg h4, show sget 7 S (nI v) (0 : Int32) = (S.1 7).2 v 0 from sg7 hF.1 hv (c := 0) (by omega)] at hh
  rcases if_or hh with ⟨-, hh⟩ | ⟨hne, hh⟩
  · exact h38 hh
  · have hwz : ws v ≠ 0 := fun z => hne (c2 z)
    obtain ⟨a, ha⟩ : ∃ f, ws v = f + 1 := ⟨ws v - 1, by omega⟩
    obtain ⟨d1, d2, d3, ⟨d4, -⟩, -⟩ := c3 a ha
    rcases if_or hh with ⟨-, hh⟩ | ⟨-, hh⟩
    · unfold bfX1_endFrontWork_39 at hh
      rw [if_neg (show ¬ (1 : Int32) = 0 by decide)] at hh
      rcases if_or hh with ⟨-, hh⟩ | ⟨-, hh⟩
      · rcases if_or hh with ⟨-, hh⟩ | ⟨-, hh⟩
        · obtain ⟨u, u1, u2⟩ := ob_some hh
          rw [← Option.some.inj (show some u = some S' from u2)]
          exact ans_ko n16.1 n16.2 hF.1 hv hne (by rw [d4]; exact h.fwo hN d1 d2) h.hm u1
        · obtain ⟨u, u1, u2⟩ := ob_some hh
          obtain ⟨u', u3, u4⟩ := ob_some u2
          rw [← Option.some.inj (show some u' = some S' from u4)]
          obtain ⟨x, S1⟩ := u
          obtain ⟨k1, k2, k3, k4⟩ := cab_ko (o := o0) (sv := sv) hF.1 hv hne u1
          dsimp only at u3
          refine k1.tr (fail_ko (y := 4) (by rw [k2]; exact n16.1) (by rw [k3]; exact n16.2) ?_ (by omega) (by omega) u3)
          rw [k2]
          rcases k4 with z | z
          · rw [z]; exact h.fw0 (by decide) hN
          · rw [z, d4]; exact h.fwo hN d1 d2
      · exact hno hh
    · exact h38 hh
end EK
