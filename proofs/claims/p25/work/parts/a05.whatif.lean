/-! what another discipline would bring, in both -/
section DI
variable {g0 t K : Nat} {cl sg : N2} {sv sw : N1} {S : StS} {p : Pg}
theorem RZ.disc (h : RZ g0 t K cl sg sv sw S p) {d : Nat} (hd : d ≤ 3) : RZ g0 t K cl sg sv sw (S.1, upd S.2 11 (nI d)) (upd p 178 (nI d)) := by
  obtain ⟨nr, r, N, nq, nb, qs, ws, fb, gb, at_, ow, hX, hT, hD, hR, hY, hL⟩ := h
  have hq := hX.2.2.1.2.2
  have e : ∀ x, x ≠ 178 → upd p 178 (nI d) x = p x := fun x hx => up_n hx
  have es : ∀ x, x ≠ 11 → upd S.2 11 (nI d) x = S.2 x := fun x hx => up_n hx
  refine ⟨nr, r, N, nq, nb, qs, ws, fb, gb, at_, ow, hX.cg (Nat.le_refl _) hq.1 hq.2 (fun _ _ => rfl) (fun x hx => e x (by omega)), hT.cg (Nat.le_refl _) (fun x _ _ => e x (by omega)), ?_, hR.cg (Nat.le_refl _) (Nat.le_refl _) (Nat.le_refl _) (fun x _ _ => e x (by omega)), hY.cg (fun _ _ _ => rfl) (fun x _ _ => e x (by omega)), hL.cg hR.2.1 (fun x _ _ => e x (by omega))⟩
  obtain ⟨a, b, c, d', f, g, k, ⟨g0, l1, l2, l3⟩, m, n⟩ := hD
  exact ⟨⟨d, show upd S.2 11 (nI d) 11 = _ from up_s rfl, up_s rfl, hd⟩, (es 12 (by omega)).trans b, (e 182 (by omega)).trans c, ((es 13 (by omega)).trans d').trans (e 184 (by omega)).symm, (es 14 (by omega)).trans f, (e 183 (by omega)).trans g, k, ⟨g0, (es 15 (by omega)).trans l1, (e 185 (by omega)).trans l2, l3⟩, ((es 16 (by omega)).trans m).trans (e 186 (by omega)).symm, ((es 17 (by omega)).trans n).trans (e 187 (by omega)).symm⟩
theorem RZ.good (h : RZ g0 t K cl sg sv sw S p) : ∃ g, S.2 15 = nI g ∧ p 185 = nI g ∧ g0 ≤ g ∧ g ≤ K ∧ RZ g t K cl sg sv sw S p := by
  obtain ⟨nr, r, N, nq, nb, qs, ws, fb, gb, at_, ow, hX, hT, hD, hR, hY, hL⟩ := h
  obtain ⟨a, b, c, d', f, g, k, ⟨g', l1, l2, l3, l4⟩, m, n⟩ := hD
  exact ⟨g', l1, l2, l3, l4, nr, r, N, nq, nb, qs, ws, fb, gb, at_, ow, hX, hT, ⟨a, b, c, d', f, g, k, ⟨g', l1, l2, Nat.le_refl _, l4⟩, m, n⟩, hR, hY, hL⟩
end DI
theorem tries_rel {n : Nat} {X : RS} {M : MS} (hn : n < 512) (h : Rel n X M) {k d : Nat} (k1 : 1 ≤ k) (k2 : k ≤ 60) (hd : d ≤ 3) : ∃ v X' M', v < 2 ^ 28 ∧ fX5_goodWorkWith (nI k) (nI d) X = some (nI v, X') ∧ fX6_tries (nI k) (nI d) M = some (nI v, M') ∧ Rel n X' M' := by
  have h0 := h
  obtain ⟨m, m1, m2, m3, ⟨t, K, cl, sg, sv, sw, t1, t2, hz⟩, m5⟩ := h
  obtain ⟨g, g1, g2, g3, g4, hg⟩ := hz.good
  have hz5 : RZ g t K cl sg sv sw (X.2.1 0) (pcp M.1 0 5) := hg.cgp (fun x hx => pcp_off (by omega))
  have hz6 := hz5.disc hd
  obtain ⟨S', M', s, q1, q2, q3, q4, q5, q6, q7⟩ := runs_rel (M := (upd (pcp M.1 0 5) 178 (nI d), M.2)) k2 k 0 (by omega) (by omega) (by omega) hz6
  obtain ⟨X', z1, z2, z3⟩ := q2 FU (nI d) (rset (rset X 1 (X.2.1 0)) 1 ((X.2.1 0).1, upd (X.2.1 0).2 11 (nI d))) (by unfold FU; omega) rs_s
  obtain ⟨g', y1, y2, y3, y4, -⟩ := q4.good
  refine ⟨g' - g, X', (pcp M'.1 5 0, M'.2), by omega, ?_, ?_, ?_⟩
  · unfold fX5_goodWorkWith
    rw [nm, nm]
    rw [show (rset X 1 (X.2.1 0)).2.1 1 = X.2.1 0 from rs_s]
    refine z1.trans ?_
    rw [show (rset (rset X 1 (X.2.1 0)) 1 ((X.2.1 0).1, upd (X.2.1 0).2 11 (nI d))).2.1 0 = X.2.1 0 from (rs_n (by omega)).trans (rs_n (by omega)), y1, g1, pk_sub y3]
  · unfold fX6_tries
    rw [show fX6_copies (0 : Int32) (5 : Int32) M = some (pcp M.1 0 5, M.2) from copies_eq (a := 0) (b := 5) (by omega) (by omega) (by omega), ob_eq, cl_178, nm, cl_185, nm]
    rw [show fX6_runs (nI k) (upd (pcp M.1 0 5) 178 (nI d), M.2) = some (0 + s, M') from q3 FU 0 (by unfold FU; omega), ob_eq, nm]
    rw [show fX6_copies (5 : Int32) (0 : Int32) (0 + s, M').2 = some (pcp M'.1 5 0, M'.2) from copies_eq (a := 5) (b := 0) (by omega) (by omega) (by omega), ob_eq]
    dsimp only
    rw [up_n (show 185 ≠ 178 by decide), show pcp M.1 0 5 185 = M.1 185 from pcp_off (by omega), y2, g2, pk_sub y3]
  · refine Rel.put (n := n) h0 (Nat.le_refl _) z3 (fun i hi => ?_) q5 (fun x x1 x2 => ?_) ?_
    · exact (z2 i (by omega)).trans ((rs_n (by omega)).trans (rs_n (by omega)))
    · show pcp M'.1 5 0 x = M.1 x
      rw [pcp_off (by omega), q6 x x1]
      show upd (pcp M.1 0 5) 178 (nI d) x = _
      rw [up_n (by omega), pcp_off (by omega)]
    · have e0 : X'.2.1 0 = X.2.1 0 := (z2 0 (by omega)).trans ((rs_n (by omega)).trans (rs_n (by omega)))
      show Cur n (X'.2.1 0) (pcp M'.1 5 0)
      rw [e0]
      refine ⟨t, K, cl, sg, sv, sw, t1, t2, hz.cgp (fun x hx => ?_)⟩
      have e1 : pcp M'.1 5 0 (855 * 0 + x) = M'.1 (855 * 5 + x) := pcp_to hx
      rw [show 855 * 0 + x = x by omega] at e1
      rw [e1, q6 _ (by omega)]
      show upd (pcp M.1 0 5) 178 (nI d) (855 * 5 + x) = _
      rw [up_n (by omega), pcp_to hx, show 855 * 0 + x = x by omega]
theorem ifRun_rel : St_ifRun Rel := by
  intro n X M hn h a b
  rcases rng a 1 60 (by omega) (by omega) with c | ⟨c0, c⟩ | ⟨k, k1, k2, rfl⟩
  · refine ⟨(-1, X), (-1, M), ?_, ?_, rfl, h.mono⟩
    · unfold fX5_ifRun bfX5_ifRun_20
      rw [if_pos (show a < (1 : Int32) from c)]
    · unfold fX6_ifRun bfX6_ifRun_28 bfX6_ifRun_29
      rw [show fX6_in a (1 : Int32) (60 : Int32) = some 0 from in_lo c, ob_eq, if_pos rfl]
  · refine ⟨(-1, X), (-1, M), ?_, ?_, rfl, h.mono⟩
    · unfold fX5_ifRun bfX5_ifRun_20
      rw [if_neg (show ¬ a < (1 : Int32) from c0), if_pos (show (60 : Int32) < a from c)]
    · unfold fX6_ifRun bfX6_ifRun_28 bfX6_ifRun_29
      rw [show fX6_in a (1 : Int32) (60 : Int32) = some 0 from in_hi c0 c, ob_eq, if_pos rfl]
  · have l1 : ¬ nI k < (1 : Int32) := nI_nlt (b := 1) k1 (by omega)
    have l2 : ¬ (60 : Int32) < nI k := nI_nlt (a := 60) k2 (by omega)
    have ek : fX6_in (nI k) (1 : Int32) (60 : Int32) = some 1 := in_ok (lo := 1) (hi := 60) k1 k2 (by omega)
    rcases rng b 0 3 (by omega) (by omega) with c | ⟨c0, c⟩ | ⟨d, d1, d2, rfl⟩
    · refine ⟨(-1, X), (-1, M), ?_, ?_, rfl, h.mono⟩
      · unfold fX5_ifRun bfX5_ifRun_20
        rw [if_neg l1, if_neg l2, if_pos (show b < 0 from c)]
      · unfold fX6_ifRun bfX6_ifRun_28 bfX6_ifRun_29
        rw [ek, ob_eq, if_neg (by decide), show fX6_in b (0 : Int32) (3 : Int32) = some 0 from in_lo c, ob_eq, if_pos rfl]
    · refine ⟨(-1, X), (-1, M), ?_, ?_, rfl, h.mono⟩
      · unfold fX5_ifRun bfX5_ifRun_20
        have c4 : ¬ b < (4 : Int32) := fun z => by
          rcases pk_ix b (n := 4) (by omega) with y | y | ⟨j, j1, rfl⟩
          · exact c0 y
          · exact Int32.not_le.mpr z y
          · exact nI_nlt (a := 3) (b := j) (by omega) (by omega) c
        rw [if_neg l1, if_neg l2, if_neg (show ¬ b < 0 from c0), if_neg c4]
      · unfold fX6_ifRun bfX6_ifRun_28 bfX6_ifRun_29
        rw [ek, ob_eq, if_neg (by decide), show fX6_in b (0 : Int32) (3 : Int32) = some 0 from in_hi c0 c, ob_eq, if_pos rfl]
    · obtain ⟨v, X', M', v1, x1, y1, h1⟩ := tries_rel hn h k1 k2 d2
      refine ⟨(nI v, X'), (nI v, M'), ?_, ?_, rfl, h1.mono⟩
      · unfold fX5_ifRun
        rw [if_neg l1, if_neg l2, if_neg (nI_pos (by omega)), if_pos (show nI d < (4 : Int32) from nI_lt (b := 4) (by omega) (by omega)), x1, ob_eq]
      · unfold fX6_ifRun bfX6_ifRun_29
        rw [ek, ob_eq, if_neg (by decide), show fX6_in (nI d) (0 : Int32) (3 : Int32) = some 1 from in_ok (lo := 0) (hi := 3) d1 d2 (by omega), ob_eq, if_neg (by decide), y1, ob_eq]
theorem best_loop {n k : Nat} (hn : n < 512) (k1 : 1 ≤ k) (k2 : k ≤ 60) : ∀ (i j : Nat) {X : RS} {M : MS} (b most : Int32) (m m' : Nat), j + i = 4 → i < m → i < m' → Rel n X M → ∃ q X' M', iter (bfX5_bestDiscipline_20 (nI k)) m (b, most, nI j, X) = some (q, X') ∧ iter (bfX6_bestDiscipline_24 (nI k)) m' (b, most, nI j, M) = some (q, M') ∧ Rel n X' M' := by
  intro i
  induction i with
  | zero =>
    intro j X M b most m m' hj hm hm' h
    obtain ⟨m, rfl⟩ : ∃ k, m = k + 1 := ⟨m - 1, by omega⟩
    obtain ⟨m', rfl⟩ : ∃ k, m' = k + 1 := ⟨m' - 1, by omega⟩
    obtain rfl : j = 4 := by omega
    refine ⟨b, X, M, ?_, ?_, h⟩
    · rw [it_s, bfX5_bestDiscipline_20, if_pos (by decide)]
    · rw [it_s, bfX6_bestDiscipline_24, if_pos (by decide)]
  | succ i ih =>
    intro j X M b most m m' hj hm hm' h
    obtain ⟨m, rfl⟩ : ∃ k, m = k + 1 := ⟨m - 1, by omega⟩
    obtain ⟨m', rfl⟩ : ∃ k, m' = k + 1 := ⟨m' - 1, by omega⟩
    obtain ⟨v, X1, M1, v1, x1, y1, h1⟩ := tries_rel hn h k1 k2 (d := j) (by omega)
    have e4 : ¬ (4 : Int32) ≤ nI j := fun z => by have := (len_4 (by omega)).mp z; omega
    have e3 : ¬ (3 : Int32) < nI j := nI_nlt (a := 3) (by omega) (by omega)
    by_cases c : nI v ≤ most
    · obtain ⟨q, X', M', z1, z2, z3⟩ := ih (j + 1) b most m m' (by omega) (by omega) (by omega) h1
      refine ⟨q, X', M', ?_, ?_, z3⟩
      · rw [it_s, bfX5_bestDiscipline_20, if_neg e4, x1, ob_eq, if_pos c]
        unfold bfX5_bestDiscipline_47
        rw [nA_1]
        exact z1
      · rw [it_s, bfX6_bestDiscipline_24, if_neg e3, y1, ob_eq, if_pos c]
        unfold bfX6_bestDiscipline_51 bfX6_bestDiscipline_64
        rw [if_pos c, nA_1]
        exact z2
    · obtain ⟨q, X', M', z1, z2, z3⟩ := ih (j + 1) (nI j) (nI v) m m' (by omega) (by omega) (by omega) h1
      refine ⟨q, X', M', ?_, ?_, z3⟩
      · rw [it_s, bfX5_bestDiscipline_20, if_neg e4, x1, ob_eq, if_neg c]
        unfold bfX5_bestDiscipline_47
        rw [nA_1]
        exact z1
      · rw [it_s, bfX6_bestDiscipline_24, if_neg e3, y1, ob_eq, if_neg c]
        unfold bfX6_bestDiscipline_51 bfX6_bestDiscipline_64
        rw [if_neg c, nA_1]
        exact z2
theorem best_rel : St_bestDiscipline Rel := by
  intro n X M hn h a
  rcases rng a 1 15 (by omega) (by omega) with c | ⟨c0, c⟩ | ⟨k, k1, k2, rfl⟩
  · refine ⟨(-1, X), (-1, M), ?_, ?_, rfl, h.mono⟩
    · unfold fX5_bestDiscipline bfX5_bestDiscipline_11
      rw [if_pos (show a < (1 : Int32) from c)]
    · unfold fX6_bestDiscipline
      rw [show fX6_in a (1 : Int32) (15 : Int32) = some 0 from in_lo c, ob_eq, if_pos rfl]
  · refine ⟨(-1, X), (-1, M), ?_, ?_, rfl, h.mono⟩
    · unfold fX5_bestDiscipline bfX5_bestDiscipline_11
      rw [if_neg (show ¬ a < (1 : Int32) from c0), if_neg (show ¬ a ≤ (15 : Int32) from fun z => Int32.not_lt.mpr z c)]
    · unfold fX6_bestDiscipline
      rw [show fX6_in a (1 : Int32) (15 : Int32) = some 0 from in_hi c0 c, ob_eq, if_pos rfl]
  · obtain ⟨v, X1, M1, v1, x1, y1, h1⟩ := tries_rel hn h k1 (by omega) (d := 0) (by omega)
    obtain ⟨q, X', M', z1, z2, z3⟩ := best_loop hn k1 (by omega) 3 1 (nI 0) (nI v) 999 FU (by omega) (by omega) (by unfold FU; omega) h1
    refine ⟨(q, X'), (q, M'), ?_, ?_, rfl, z3.mono⟩
    · unfold fX5_bestDiscipline
      rw [if_neg (show ¬ nI k < (1 : Int32) from nI_nlt (b := 1) k1 (by omega)), if_pos (show nI k ≤ (15 : Int32) from nI_le (b := 15) k2 (by omega)), show FU = 999 + 1 from rfl, it_s, bfX5_bestDiscipline_20, if_neg (by decide), show fX5_goodWorkWith (nI k) (0 : Int32) X = some (nI v, X1) from x1, ob_eq]
      rw [if_neg (show ¬ (nI v, X1).1 ≤ (-1 : Int32) from fun z => nI_pos (n := v) (by omega) (Int32.lt_of_le_of_lt z (by decide)))]
      exact z1
    · unfold fX6_bestDiscipline
      rw [show fX6_in (nI k) (1 : Int32) (15 : Int32) = some 1 from in_ok (lo := 1) (hi := 15) k1 k2 (by omega), ob_eq, if_neg (by decide), show fX6_tries (nI k) (0 : Int32) M = some (nI v, M1) from y1, ob_eq]
      exact z2
