/-! a sending, by the relation: the sums are kept -/
section QK
variable {F : Fx} {E Zf Zb : Nat → Prop} {t K lo wl : Nat} {cl sg : N2} {sv sw : N1} {nr : Nat} {r : N2} {N nq nb : Nat} {qs ws fb gb : N1} {at_ : N2} {ow : N1} {S S' S1 : StS} {M : MS}
theorem RG.fwq (h : RG F E Zf Zb t K lo wl cl sg sv sw nr r N nq nb qs ws fb gb at_ ow S M) (hN : N < 2 ^ 30) : FW (S.1 5) (sget 6 S (0 : Int32) (0 : Int32)) := by
  have hQ := h.2.2.2.2.1.2.1
  by_cases e : nq = 0
  · rw [show sget 6 S (0 : Int32) (0 : Int32) = -9 from tg_far (w := 6) (rows := 16) (i := 0) (by rw [hQ.1]; omega) (by omega) (by omega)]
    exact h.fw0 (by decide) hN
  · obtain ⟨e1, e2, e3, ⟨e4, -⟩, -⟩ := hQ.2.2.2 0 (by omega)
    rw [show sget 6 S (0 : Int32) (0 : Int32) = owI (ow (qs 0)) from (sg6 (S := S) (k := 0) (c := 0) (by rw [hQ.1]; omega) (by omega) (by omega)).trans e4]
    exact h.fwo hN e2 e3
theorem sent_kp {o o' : N1} {x : Int32} (h : RG F E Zf Zb t K lo wl cl sg sv sw nr r N nq nb qs ws fb gb at_ ow S M) (hN : N < 2 ^ 30) (hK : K < 2 ^ 29) {i : Nat} (hi : i < nr) (hoc : o (r i 1) = o' (r i 1) + (if r i 4 = 0 then 1 else 0)) (hod : ∀ d, d ≠ r i 1 → o' d = o d) (h1 : fX0_send (nI (r i 0)) S = some (x, S1)) (h2 : fX0_fail x (4 : Int32) S1 = some S') : Ko sv o o' S S' := by
  have hR := h.2.2.2.1
  have n16 := h.n16
  obtain ⟨b1, hc, b3, b4, b5, -⟩ := hR.2.2.2.2.2 i hi
  obtain ⟨t1, t2, y1, y0, t3, t4, t5, t6⟩ := h.2.1.2 (r i 1) hc
  obtain ⟨k1, k2, k3, k4⟩ := send_ko (sv := sv) (o := o) (o' := o') n16.1 n16.2 (by rw [hR.1]; exact hi) (gR.find (S := S) rfl hR (by omega) hi) (hR.2.2.2.1 i 1 hi (by omega)).1 hc t4 (by omega) (by
    rw [(hR.2.2.2.1 i 4 hi (by omega)).1]
    by_cases e : r i 4 = 0
    · rw [if_pos e] at hoc
      rw [b2_t ((eqn_0 (by omega)).mpr e)]
      exact hoc
    · rw [if_neg e] at hoc
      rw [b2_f (fun z => e ((eqn_0 (by omega)).mp z))]
      exact hoc) hod (h.fwq hN) (h.fw0 (by decide) hN) h1
  exact k1.tr (fail_ko (y := 4) k3 k4 k2 (by omega) (by omega) h2)
end QK
