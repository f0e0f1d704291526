/-! told, in both: all of it -/
theorem srows_free {S : StS} {k : Nat} {T : Tb} {w : Nat} (hk : tw k = w) (hr : tr k = 4) (hT : S.1 k = T) (hw : w ≤ 14) (h1 : 0 < w) (h4 : T.1 = 4) {tk : N1} (h : ∀ i, i < 4 → (tk i = 0 → T.2 i 0 = -9) ∧ (tk i ≠ 0 → T.2 i 0 ≠ -9)) : srows k S (0 : Int32) (-9 : Int32) = sumF (fun i => if tk i = 0 then 1 else 0) 4 := by
  show sumF (fun i => if tget (tw k) (tr k) (S.1 k) (nI i) (nI 0) = -9 then 1 else 0) (tz (tr k) (S.1 k)) = _
  rw [hr, hT, tz_n (by omega), h4]
  refine sumF_cg 4 (fun i hi => ?_)
  rw [hk, tg (by omega) hi h1 hw (by omega)]
  by_cases e : tk i = 0
  · rw [if_pos ((h i hi).1 e), if_pos e]
  · rw [if_neg ((h i hi).2 e), if_neg e]
theorem told_rel : St_told Rel := by
  intro n X M hn h a
  have h12 := h
  obtain ⟨m, m1, m2, m3, -, -⟩ := h12
  obtain ⟨F, t, K, cl, sg, sv, sw, nr, r, N, nq, nb, qs, ws, fb, gb, at_, ow, hg, hK, ht, hN⟩ := h.rg hn
  have hR := hg.2.2.2.1
  obtain ⟨⟨d0, a1, a2, a3⟩, b, c, d, f, g, k, ⟨g0, l1, l2, l3⟩, mm, nn⟩ := hg.2.2.1
  obtain ⟨hA, hQ, hF, hB, hG, hU⟩ := hg.2.2.2.2.1
  have own9 : ∀ a, a < 24 → at_ a 9 = 1 → owI (ow a) ≠ -9 := fun a h1 h2 => owI_9 (by have := (hg.owner h1 h2).1; omega)
  unfold fX5_told fX6_told
  by_cases c0 : a = (0 : Int32)
  · exact ⟨_, if_pos c0, (if_pos c0).trans (congrArg some (by rw [cl_182]; exact c.trans b.symm))⟩
  rw [if_neg c0, if_neg c0]
  by_cases c1 : a = (1 : Int32)
  · refine ⟨_, if_pos c1, (if_pos c1).trans (congrArg some ?_)⟩
    rw [cl_188]
    show M.1 188 = nI (tz 16 ((X.2.1 0).1 5))
    rw [tz_n (by rw [hR.1]; exact hR.2.1), hR.1]
    exact hR.2.2.1
  rw [if_neg c1, if_neg c1]
  by_cases c2 : a = (2 : Int32)
  · refine ⟨_, if_pos c2, (if_pos c2).trans ?_⟩
    rw [waiting_X hg]
    have := waiting_go (M := M) hg rfl nr 0 FU (by omega) (by have := hR.2.1; unfold FU; omega)
    rw [show fX6_waiting M = some (sumF (fun i => nI (r i 4)) nr) from this, ob_eq]
  rw [if_neg c2, if_neg c2]
  by_cases c3 : a = (3 : Int32)
  · refine ⟨_, if_pos c3, (if_pos c3).trans (congrArg some ?_)⟩
    rw [cl_557, sz6 rfl hQ]
    exact hQ.2.2.1
  rw [if_neg c3, if_neg c3]
  by_cases c4 : a = (4 : Int32)
  · refine ⟨_, if_pos c4, (if_pos c4).trans (congrArg some ?_)⟩
    rw [cl_574, sz8 hB.1 hB.2.1]
    exact hB.2.2.1
  rw [if_neg c4, if_neg c4]
  by_cases c5 : a = (5 : Int32)
  · refine ⟨_, if_pos c5, (if_pos c5).trans ?_⟩
    rw [srows_free (w := 6) (tk := ws) rfl rfl rfl (by omega) (by omega) hF.1 (fun i hi => ⟨(hF.2 i hi).2.1, fun e => ?_⟩), busy4]
    · have := busy_go (M := M) (base := 591) (tk := ws) (by omega) (fun w hw => ⟨fun e => ?_, fun e => ?_⟩) 4 0 FU (by omega) (by unfold FU; omega)
      · rw [show fX6_busy (591 : Int32) M = _ from this, ob_eq]
      · show (regs0 M).1 (591 + w) = _
        rw [(hF.2 w hw).1, e]
        rfl
      · show (regs0 M).1 (591 + w) ≠ _
        obtain ⟨a, ea⟩ : ∃ a, ws w = a + 1 := ⟨ws w - 1, by omega⟩
        have := ((hF.2 w hw).2.2 a ea).1
        rw [(hF.2 w hw).1, ea]
        exact nI_neg (a := a) (by omega) (by decide)
    · obtain ⟨a, ea⟩ : ∃ a, ws i = a + 1 := ⟨ws i - 1, by omega⟩
      obtain ⟨d1, d2, d3, ⟨d4, -⟩, -⟩ := (hF.2 i hi).2.2 a ea
      rw [d4]
      exact own9 a d1 d2
  rw [if_neg c5, if_neg c5]
  by_cases c6 : a = (6 : Int32)
  · refine ⟨_, if_pos c6, (if_pos c6).trans ?_⟩
    rw [srows_free (w := 1) (tk := gb) rfl rfl rfl (by omega) (by omega) hG.1 (fun i hi => ⟨fun e => ?_, fun e => ?_⟩), busy4]
    · have := busy_go (M := M) (base := 595) (tk := gb) (by omega) (fun w hw => ⟨fun e => ?_, fun e => ?_⟩) 4 0 FU (by omega) (by unfold FU; omega)
      · rw [show fX6_busy (595 : Int32) M = _ from this, ob_eq]
      · exact (hG.2.1 w hw).2.1 e
      · show (regs0 M).1 (595 + w) ≠ _
        obtain ⟨f', ef⟩ : ∃ f, gb w = f + 1 := ⟨gb w - 1, by omega⟩
        obtain ⟨f4, a, b1, b2, -⟩ := (hG.2.1 w hw).2.2 f' ef
        have := ((hF.2 _ f4).2.2 a b1).1
        rw [b2]
        exact nI_neg (by omega) (by decide)
    · rw [(hG.2.1 i hi).1, e]
      rfl
    · obtain ⟨f', ef⟩ : ∃ f, gb i = f + 1 := ⟨gb i - 1, by omega⟩
      have f4 := ((hG.2.1 i hi).2.2 f' ef).1
      rw [(hG.2.1 i hi).1, ef]
      exact nI_neg (a := f') (by omega) (by decide)
  rw [if_neg c6, if_neg c6]
  by_cases c7 : a = (7 : Int32)
  · exact ⟨_, if_pos c7, (if_pos c7).trans (congrArg some (by rw [cl_185]; exact l2.trans l1.symm))⟩
  rw [if_neg c7, if_neg c7]
  by_cases c8 : a = (8 : Int32)
  · exact ⟨_, if_pos c8, (if_pos c8).trans (congrArg some (by rw [cl_186]; exact mm.symm))⟩
  rw [if_neg c8, if_neg c8]
  by_cases c9 : a = (9 : Int32)
  · refine ⟨nI (sN (gw ws at_) 4), (if_pos c9).trans ?_, (if_pos c9).trans ?_⟩
    · have := pending_X hg hN 4 0 FU (by omega) (by unfold FU; omega)
      rw [show fX2_pendingWork (X.2.1 0) = _ from this, ob_eq]
    · have := pending_M (M := M) hg rfl 24 0 FU (by omega) (by unfold FU; omega)
      rw [show fX6_pending M = _ from this, ob_eq, work_sums hg]
  rw [if_neg c9, if_neg c9]
  by_cases c10 : a = (10 : Int32)
  · exact ⟨_, if_pos c10, (if_pos c10).trans (congrArg some (by rw [cl_187]; exact nn.symm))⟩
  rw [if_neg c10, if_neg c10]
  by_cases c11 : a = (11 : Int32)
  · exact ⟨_, if_pos c11, (if_pos c11).trans (congrArg some (by rw [cl_178]; exact a2.trans a1.symm))⟩
  rw [if_neg c11, if_neg c11]
  by_cases c12 : a = (12 : Int32)
  · exact ⟨_, if_pos c12, (if_pos c12).trans (congrArg some (m3.trans m2.symm))⟩
  rw [if_neg c12, if_neg c12]
  exact ⟨_, rfl, rfl⟩
