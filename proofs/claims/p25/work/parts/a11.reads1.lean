/-! what is told of clients and requests, in both -/
section RD
variable {g0 t K : Nat} {cl sg : N2} {sv sw : N1} {S : StS} {p : Pg} {X : RS} {M : MS}
theorem RZ.prop (h : RZ g0 t K cl sg sv sw S p) {c w : Nat} (hc : c < 6) (hw : w < 12) : sget 0 S (nI c) (nI w) = p (12 * c + w) := by
  obtain ⟨nr, r, N, nq, nb, qs, ws, fb, gb, at_, ow, ⟨hC, hS, hV, hW, hH⟩, hT, hD, hR, hY, hL⟩ := h
  exact (gC.get rfl hC hc hw).trans (hC.2 c w hc hw).2.1.symm
theorem RZ.cnt (h : RZ g0 t K cl sg sv sw S p) {c w : Nat} (hc : c < 6) (hw : w < 8) : sget 1 S (nI c) (nI w) = p (90 + 8 * c + w) := by
  obtain ⟨nr, r, N, nq, nb, qs, ws, fb, gb, at_, ow, hX, hT, hD, hR, hY, hL⟩ := h
  exact (sget_tal hT.1 hc (by omega)).trans ((hT.2 c hc).1 w hw)
theorem RZ.suc (h : RZ g0 t K cl sg sv sw S p) {c w : Nat} (hc : c < 6) (hw : w < 6) : sget 1 S (nI c) (nI (8 + w)) = p (138 + 6 * c + w) := by
  obtain ⟨nr, r, N, nq, nb, qs, ws, fb, gb, at_, ow, hX, hT, hD, hR, hY, hL⟩ := h
  exact (sget_tal hT.1 hc (by omega)).trans ((hT.2 c hc).2.1 w hw)
end RD
theorem isC (c : Nat) (hc : c < 6) : fX5_isClient (nI c) = some 1 ∧ fX6_isClient (nI c) = some 1 := by
  rcases cli (nI c) with ⟨e1, e2⟩ | ⟨c', hc', e, e1, e2⟩
  · unfold fX5_isClient bfX5_isClient_15 at e1
    rw [if_neg (nI_pos (by omega)), if_neg (show ¬ (6 : Int32) ≤ nI c from nI_ge (b := 6) hc (by omega)), if_pos (Or.inr rfl)] at e1
    exact absurd e1 (by decide)
  · exact ⟨e1, e2⟩
theorem property_X {X : RS} {p : Pg} {g0 t K : Nat} {cl sg : N2} {sv sw : N1} (h : RZ g0 t K cl sg sv sw (X.2.1 0) p) {c w : Nat} (hc : c < 6) (hw : w < 12) : fX5_property (nI c) (nI w) X = some (p (12 * c + w)) := by
  unfold fX5_property bfX5_property_33
  rw [(isC c hc).1, ob_eq, if_neg (by decide), if_neg (nI_pos (by omega)), if_neg (show ¬ (12 : Int32) ≤ nI w from nI_ge (b := 12) hw (by omega)), h.prop hc hw]
theorem count_X {X : RS} {p : Pg} {g0 t K : Nat} {cl sg : N2} {sv sw : N1} (h : RZ g0 t K cl sg sv sw (X.2.1 0) p) {c w : Nat} (hc : c < 6) (hw : w < 8) : fX5_count (nI c) (nI w) X = some (p (90 + 8 * c + w)) := by
  unfold fX5_count bfX5_count_33
  rw [(isC c hc).1, ob_eq, if_neg (by decide), if_neg (nI_pos (by omega)), if_neg (show ¬ (7 : Int32) < nI w from nI_nlt (a := 7) (by omega) (by omega)), h.cnt hc hw]
theorem mostA : tabI mostL ((3 : Int32)).toNatClampNeg = (6 : Int32) := by decide
theorem succ_X {X : RS} {p : Pg} {g0 t K : Nat} {cl sg : N2} {sv sw : N1} (h : RZ g0 t K cl sg sv sw (X.2.1 0) p) {c w : Nat} (hc : c < 6) (hw : w < 6) : fX5_succeededAt (nI c) (nI (w + 1)) X = some (p (138 + 6 * c + w)) := by
  unfold fX5_succeededAt
  rw [(isC c hc).1, ob_eq, if_neg (by decide), if_neg (show ¬ nI (w + 1) < (1 : Int32) from nI_nlt (b := 1) (by omega) (by omega)), mostA, if_pos (show nI (w + 1) ≤ (6 : Int32) from nI_le (b := 6) (by omega) (by omega)), nB_7, show 7 + (w + 1) = 8 + w by omega, h.suc hc hw]
theorem property_rel : St_property Rel := by
  intro n X M hn h a b
  obtain ⟨t, K, cl, sg, sv, sw, t1, t2, hz⟩ := h.cur
  rcases cli a with ⟨e1, e2⟩ | ⟨c, hc, rfl, e1, e2⟩
  · refine ⟨-1, ?_, ?_⟩
    · unfold fX5_property bfX5_property_32 bfX5_property_33
      rw [e1, ob_eq, if_pos rfl]
    · unfold fX6_property bfX6_property_26 bfX6_property_27
      rw [e2, ob_eq, if_pos rfl]
  · rcases rng b 0 11 (by omega) (by omega) with d | ⟨d0, d⟩ | ⟨w, w1, w2, rfl⟩
    · refine ⟨-1, ?_, ?_⟩
      · unfold fX5_property bfX5_property_32 bfX5_property_33
        rw [e1, ob_eq, if_neg (by decide), if_pos (show b < 0 from d)]
      · unfold fX6_property bfX6_property_26 bfX6_property_27
        rw [e2, ob_eq, if_neg (by decide), show fX6_in b (0 : Int32) (11 : Int32) = some 0 from in_lo d, ob_eq, if_pos rfl]
    · refine ⟨-1, ?_, ?_⟩
      · unfold fX5_property bfX5_property_32 bfX5_property_33
        rw [e1, ob_eq, if_neg (by decide), if_neg (show ¬ b < 0 from d0), if_pos (show (12 : Int32) ≤ b from gt_ge (hi := 11) (by omega) d)]
      · unfold fX6_property bfX6_property_26 bfX6_property_27
        rw [e2, ob_eq, if_neg (by decide), show fX6_in b (0 : Int32) (11 : Int32) = some 0 from in_hi d0 d, ob_eq, if_pos rfl]
    · refine ⟨_, property_X hz hc (by omega), ?_⟩
      unfold fX6_property bfX6_property_27
      rw [e2, ob_eq, if_neg (by decide), show fX6_in (nI w) (0 : Int32) (11 : Int32) = some 1 from in_ok (lo := 0) (hi := 11) w1 w2 (by omega), ob_eq, if_neg (by decide), of_n hc (by omega), ob_eq]
theorem count_rel : St_count Rel := by
  intro n X M hn h a b
  obtain ⟨t, K, cl, sg, sv, sw, t1, t2, hz⟩ := h.cur
  rcases cli a with ⟨e1, e2⟩ | ⟨c, hc, rfl, e1, e2⟩
  · refine ⟨-1, ?_, ?_⟩
    · unfold fX5_count bfX5_count_32 bfX5_count_33
      rw [e1, ob_eq, if_pos rfl]
    · unfold fX6_count bfX6_count_34 bfX6_count_35
      rw [e2, ob_eq, if_pos rfl]
  · rcases rng b 0 7 (by omega) (by omega) with d | ⟨d0, d⟩ | ⟨w, w1, w2, rfl⟩
    · refine ⟨-1, ?_, ?_⟩
      · unfold fX5_count bfX5_count_32 bfX5_count_33
        rw [e1, ob_eq, if_neg (by decide), if_pos (show b < 0 from d)]
      · unfold fX6_count bfX6_count_34 bfX6_count_35
        rw [e2, ob_eq, if_neg (by decide), show fX6_in b (0 : Int32) (7 : Int32) = some 0 from in_lo d, ob_eq, if_pos rfl]
    · refine ⟨-1, ?_, ?_⟩
      · unfold fX5_count bfX5_count_32 bfX5_count_33
        rw [e1, ob_eq, if_neg (by decide), if_neg (show ¬ b < 0 from d0), if_pos (show (7 : Int32) < b from d)]
      · unfold fX6_count bfX6_count_34 bfX6_count_35
        rw [e2, ob_eq, if_neg (by decide), show fX6_in b (0 : Int32) (7 : Int32) = some 0 from in_hi d0 d, ob_eq, if_pos rfl]
    · refine ⟨_, count_X hz hc (by omega), ?_⟩
      unfold fX6_count bfX6_count_35
      rw [e2, ob_eq, if_neg (by decide), show fX6_in (nI w) (0 : Int32) (7 : Int32) = some 1 from in_ok (lo := 0) (hi := 7) w1 w2 (by omega), ob_eq, if_neg (by decide), nM_8, nB_90, nI_add, if_pos (okI_nI (by omega) (by decide)), nI_clamp (by omega)]
theorem succeededAt_rel : St_succeededAt Rel := by
  intro n X M hn h a b
  obtain ⟨t, K, cl, sg, sv, sw, t1, t2, hz⟩ := h.cur
  rcases cli a with ⟨e1, e2⟩ | ⟨c, hc, rfl, e1, e2⟩
  · refine ⟨-1, ?_, ?_⟩
    · unfold fX5_succeededAt bfX5_succeededAt_21
      rw [e1, ob_eq, if_pos rfl]
    · unfold fX6_succeededAt bfX6_succeededAt_37 bfX6_succeededAt_38
      rw [e2, ob_eq, if_pos rfl]
  · rcases rng b 1 6 (by omega) (by omega) with d | ⟨d0, d⟩ | ⟨w, w1, w2, rfl⟩
    · refine ⟨-1, ?_, ?_⟩
      · unfold fX5_succeededAt bfX5_succeededAt_21
        rw [e1, ob_eq, if_neg (by decide), if_pos (show b < (1 : Int32) from d)]
      · unfold fX6_succeededAt bfX6_succeededAt_37 bfX6_succeededAt_38
        rw [e2, ob_eq, if_neg (by decide), show fX6_in b (1 : Int32) (6 : Int32) = some 0 from in_lo d, ob_eq, if_pos rfl]
    · refine ⟨-1, ?_, ?_⟩
      · unfold fX5_succeededAt bfX5_succeededAt_21
        rw [e1, ob_eq, if_neg (by decide), if_neg (show ¬ b < (1 : Int32) from d0), mostA, if_neg (show ¬ b ≤ (6 : Int32) from fun z => Int32.not_lt.mpr z d)]
      · unfold fX6_succeededAt bfX6_succeededAt_37 bfX6_succeededAt_38
        rw [e2, ob_eq, if_neg (by decide), show fX6_in b (1 : Int32) (6 : Int32) = some 0 from in_hi d0 d, ob_eq, if_pos rfl]
    · obtain ⟨k, rfl⟩ : ∃ k, w = k + 1 := ⟨w - 1, by omega⟩
      refine ⟨_, succ_X hz hc (by omega), ?_⟩
      unfold fX6_succeededAt bfX6_succeededAt_38
      rw [e2, ob_eq, if_neg (by decide), show fX6_in (nI (k + 1)) (1 : Int32) (6 : Int32) = some 1 from in_ok (lo := 1) (hi := 6) w1 w2 (by omega), ob_eq, if_neg (by decide), nM_6, nB_138, nI_add, show nI (138 + 6 * c + (k + 1)) - (1 : Int32) = nI (138 + 6 * c + k) from pk_sub (b := 1) (by omega), if_pos (okI_nI (by omega) (by decide)), nI_clamp (by omega)]
