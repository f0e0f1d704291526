/-! live, request, queued, atWorker, in both -/
theorem prop_regs (a b : Int32) (M : MS) : fX6_propertyOf a b (regs0 M) = fX6_propertyOf a b M := rfl
theorem owner_regs (a : Int32) (M : MS) : fX6_ownerOf a (regs0 M) = fX6_ownerOf a M := rfl
theorem Rel.rg {n : Nat} {X : RS} {M : MS} (hn : n < 512) (h : Rel n X M) : ∃ (F : Fx) (t K : Nat) (cl sg : N2) (sv sw : N1) (nr : Nat) (r : N2) (N nq nb : Nat) (qs ws fb gb : N1) (at_ : N2) (ow : N1), RG F (fun _ => False) (fun _ => False) (fun _ => False) t K (t + 1) t cl sg sv sw nr r N nq nb qs ws fb gb at_ ow (X.2.1 0) (regs0 M) ∧ K < 2 ^ 27 ∧ t < 2 ^ 28 ∧ N < 2 ^ 30 := by
  obtain ⟨t, K, cl, sg, sv, sw, t1, t2, hz⟩ := h.cur
  obtain ⟨nr, r, N, nq, nb, qs, ws, fb, gb, at_, ow, hg⟩ := hz.toRG
  have hN : N ≤ K := hg.2.2.1.2.2.2.2.2.2.1
  exact ⟨_, t, K, cl, sg, sv, sw, nr, r, N, nq, nb, qs, ws, fb, gb, at_, ow, hg, by omega, by omega, by omega⟩
theorem live_rel : St_live Rel := by
  intro n X M hn h a
  obtain ⟨F, t, K, cl, sg, sv, sw, nr, r, N, nq, nb, qs, ws, fb, gb, at_, ow, hg, hK, ht, hN⟩ := h.rg hn
  have hR := hg.2.2.2.1
  have i16 := hR.2.1
  have e188 : M.1 188 = nI nr := hR.2.2.1
  rcases pk_ix a (n := nr) (by omega) with c | c | ⟨i, hi, rfl⟩
  · refine ⟨-1, ?_, ?_⟩
    · unfold fX5_live bfX5_live_20
      rw [if_neg (Int32.not_le.mpr c)]
    · unfold fX6_live bfX6_live_37
      rw [if_neg (Int32.not_le.mpr c)]
  · have c0 : 0 ≤ a := Int32.le_trans (nI_pos' (n := nr) (by omega)) c
    refine ⟨-9, ?_, ?_⟩
    · unfold fX5_live bfX5_live_20
      rw [if_pos c0, show sget 5 (X.2.1 0) a (0 : Int32) = -9 from tg_ge (w := 7) (rows := 16) (by rw [hR.1]; exact i16) (by omega) (by rw [hR.1]; exact c)]
    · unfold fX6_live bfX6_live_37
      rw [if_pos c0, cl_188, e188, if_pos c]
  · refine ⟨nI (r i 0), live_X hg hi, ?_⟩
    have p0 : M.1 (189 + 8 * i + 0) = nI (r i 0) := (hR.2.2.2.1 i 0 hi (by omega)).2
    unfold fX6_live bfX6_live_37
    rw [if_pos (nI_pos' (by omega)), cl_188, e188, if_neg (nI_ge hi (by omega)), row_eq, ob_eq, nA_0, if_pos (okI_nI (by omega) (by decide)), nI_clamp (by omega), p0]
theorem request_rel : St_request Rel := by
  intro n X M hn h a b
  obtain ⟨F, t, K, cl, sg, sv, sw, nr, r, N, nq, nb, qs, ws, fb, gb, at_, ow, hg, hK, ht, hN⟩ := h.rg hn
  have hR := hg.2.2.2.1
  rcases rng b 0 4 (by omega) (by omega) with d | ⟨d0, d⟩ | ⟨k, k1, k2, rfl⟩
  · refine ⟨-1, ?_, ?_⟩
    · unfold fX5_request bfX5_request_9
      rw [if_pos (show b < 0 from d)]
    · unfold fX6_request
      rw [show fX6_in b (0 : Int32) (4 : Int32) = some 0 from in_lo d, ob_eq, if_pos rfl]
  · refine ⟨-1, ?_, ?_⟩
    · unfold fX5_request bfX5_request_9
      rw [if_neg (show ¬ b < 0 from d0), if_neg (show ¬ b ≤ (4 : Int32) from fun z => Int32.not_lt.mpr z d)]
    · unfold fX6_request
      rw [show fX6_in b (0 : Int32) (4 : Int32) = some 0 from in_hi d0 d, ob_eq, if_pos rfl]
  · have ek : fX6_in (nI k) (0 : Int32) (4 : Int32) = some 1 := in_ok (lo := 0) (hi := 4) k1 k2 (by omega)
    by_cases hex : ∃ i, i < nr ∧ nI (r i 0) = a
    · obtain ⟨i, hi, rfl⟩ := hex
      obtain ⟨v, v1, v2⟩ := request_eq hg hN hi (k := k) (by omega)
      refine ⟨v, v1, ?_⟩
      have i16 := hR.2.1
      unfold fX6_request bfX6_request_34
      rw [ek, ob_eq, if_neg (by decide), show fX6_placeOf (nI (r i 0)) M = some (nI i) from gR.place (M := M) hR (by omega) hi, ob_eq, if_neg (nI_neg (by omega) (by decide)), ← prop_regs, v2, ob_eq]
    · have hno : ∀ i, i < nr → nI (r i 0) ≠ a := fun i hi e => hex ⟨i, hi, e⟩
      refine ⟨-9, ?_, ?_⟩
      · unfold fX5_request
        rw [if_neg (nI_pos (by omega)), if_pos (show nI k ≤ (4 : Int32) from nI_le (b := 4) (by omega) (by omega)), gR.find_none (S := X.2.1 0) rfl hR hno, nm, if_pos rfl]
      · unfold fX6_request bfX6_request_34
        rw [ek, ob_eq, if_neg (by decide), show fX6_placeOf a M = some (-9) from gR.place_none (M := M) hR hno, ob_eq, if_pos rfl]
theorem queued_rel : St_queued Rel := by
  intro n X M hn h a b ha
  obtain ⟨F, t, K, cl, sg, sv, sw, nr, r, N, nq, nb, qs, ws, fb, gb, at_, ow, hg, hK, ht, hN⟩ := h.rg hn
  obtain ⟨hA, hQ, hF, hB, hG, hU⟩ := hg.2.2.2.2.1
  have q16 := hQ.2.1
  have b16 := hB.2.1
  have e557 : M.1 557 = nI nq := hQ.2.2.1
  have e574 : M.1 574 = nI nb := hB.2.2.1
  by_cases hb : b < 0
  · refine ⟨-1, ?_, ?_⟩
    · unfold fX5_queued
      rw [if_neg (Int32.not_le.mpr hb)]
    · unfold fX6_queued
      rw [if_neg (Int32.not_le.mpr hb)]
  have hb0 : 0 ≤ b := Int32.not_lt.mp hb
  rcases ha with e | e
  · subst e
    rcases pk_ix b (n := nq) (by omega) with c | c | ⟨k, hk, rfl⟩
    · exact absurd c hb
    · refine ⟨-9, ?_, ?_⟩
      · unfold fX5_queued bfX5_queued_48
        rw [if_pos hb0, if_pos rfl, show sget 6 (X.2.1 0) b (0 : Int32) = -9 from tg_ge (w := 6) (rows := 16) (by rw [hQ.1]; exact q16) (by omega) (by rw [hQ.1]; exact c)]
      · unfold fX6_queued bfX6_queued_24
        rw [if_pos hb0, if_pos rfl, if_pos (ok_557.mpr trivial), cl_557, e557, if_neg (Int32.not_lt.mpr c)]
    · obtain ⟨v, v1, v2⟩ := queued0_eq hg hk
      refine ⟨v, v1, ?_⟩
      have hc : ((558 : Int32) + nI k).toNatClampNeg = 558 + k := by rw [nB_558]; exact nI_clamp (by omega)
      have ho : okI ((558 : Int32) + nI k) 5130 ↔ True := by rw [nB_558]; exact okT (by omega) (by decide)
      unfold fX6_queued bfX6_queued_24 bfX6_queued_49
      rw [if_pos hb0, if_pos rfl, if_pos (ok_557.mpr trivial), cl_557, e557, if_pos (nI_lt hk (by omega)), if_pos rfl]
      simp only [hc, ho, if_true]
      rw [← owner_regs, show fX6_ownerOf (M.1 (558 + k)) (regs0 M) = some v from v2, ob_eq]
  · subst e
    rcases pk_ix b (n := nb) (by omega) with c | c | ⟨k, hk, rfl⟩
    · exact absurd c hb
    · refine ⟨-9, ?_, ?_⟩
      · unfold fX5_queued bfX5_queued_48
        rw [if_pos hb0, if_neg (by decide), show sget 8 (X.2.1 0) b (0 : Int32) = -9 from tg_ge (w := 1) (rows := 16) (by rw [hB.1]; exact b16) (by omega) (by rw [hB.1]; exact c), show sget 7 (X.2.1 0) (-9 : Int32) (0 : Int32) = -9 from tg_out (by decide)]
      · unfold fX6_queued bfX6_queued_24
        rw [if_pos hb0, if_neg (by decide), if_pos (ok_574.mpr trivial), cl_574, e574, if_neg (Int32.not_lt.mpr c)]
    · obtain ⟨v, v1, v2⟩ := queued1_eq hg hk
      refine ⟨v, v1, ?_⟩
      have hc : ((575 : Int32) + nI k).toNatClampNeg = 575 + k := by rw [nB_575]; exact nI_clamp (by omega)
      have ho : okI ((575 : Int32) + nI k) 5130 ↔ True := by rw [nB_575]; exact okT (by omega) (by decide)
      unfold fX6_queued bfX6_queued_24 bfX6_queued_49
      rw [if_pos hb0, if_neg (by decide), if_pos (ok_574.mpr trivial), cl_574, e574, if_pos (nI_lt hk (by omega)), if_neg (by decide)]
      simp only [hc, ho, if_true]
      rw [← owner_regs, show fX6_ownerOf (M.1 (575 + k)) (regs0 M) = some v from v2, ob_eq]
theorem atWorker_rel : St_atWorker Rel := by
  intro n X M hn h a b ha
  obtain ⟨F, t, K, cl, sg, sv, sw, nr, r, N, nq, nb, qs, ws, fb, gb, at_, ow, hg, hK, ht, hN⟩ := h.rg hn
  rcases rng b 0 3 (by omega) (by omega) with d | ⟨d0, d⟩ | ⟨w, w1, w2, rfl⟩
  · refine ⟨-1, ?_, ?_⟩
    · unfold fX5_atWorker bfX5_atWorker_9
      rw [if_pos (show b < 0 from d)]
    · unfold fX6_atWorker bfX6_atWorker_37
      rw [show fX6_in b (0 : Int32) (3 : Int32) = some 0 from in_lo d, ob_eq, if_pos rfl]
  · refine ⟨-1, ?_, ?_⟩
    · unfold fX5_atWorker bfX5_atWorker_9
      rw [if_neg (show ¬ b < 0 from d0), if_neg (show ¬ b < (4 : Int32) from fun z => Int32.not_le.mpr z (gt_ge (hi := 3) (by omega) d))]
    · unfold fX6_atWorker bfX6_atWorker_37
      rw [show fX6_in b (0 : Int32) (3 : Int32) = some 0 from in_hi d0 d, ob_eq, if_pos rfl]
  · have ek : fX6_in (nI w) (0 : Int32) (3 : Int32) = some 1 := in_ok (lo := 0) (hi := 3) w1 w2 (by omega)
    rcases ha with e | e
    · subst e
      obtain ⟨v, v1, v2⟩ := worker0_eq hg (w := w) (by omega)
      refine ⟨v, v1, ?_⟩
      have hc : ((591 : Int32) + nI w).toNatClampNeg = 591 + w := by rw [nB_591]; exact nI_clamp (by omega)
      have ho : okI ((591 : Int32) + nI w) 5130 ↔ True := by rw [nB_591]; exact okT (by omega) (by decide)
      unfold fX6_atWorker bfX6_atWorker_27 bfX6_atWorker_37
      rw [ek, ob_eq, if_neg (by decide), if_pos rfl]
      simp only [hc, ho, if_true]
      rw [← owner_regs, show fX6_ownerOf (M.1 (591 + w)) (regs0 M) = some v from v2, ob_eq]
    · subst e
      obtain ⟨v, v1, v2⟩ := worker1_eq hg (w := w) (by omega)
      refine ⟨v, v1, ?_⟩
      have hc : ((595 : Int32) + nI w).toNatClampNeg = 595 + w := by rw [nB_595]; exact nI_clamp (by omega)
      have ho : okI ((595 : Int32) + nI w) 5130 ↔ True := by rw [nB_595]; exact okT (by omega) (by decide)
      unfold fX6_atWorker bfX6_atWorker_27 bfX6_atWorker_37
      rw [ek, ob_eq, if_neg (by decide), if_neg (by decide)]
      simp only [hc, ho, if_true]
      rw [← owner_regs, show fX6_ownerOf (M.1 (595 + w)) (regs0 M) = some v from v2, ob_eq]
