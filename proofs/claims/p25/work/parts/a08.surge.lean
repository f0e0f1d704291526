/-! surge, setServer, in both -/
theorem surge_rel : St_surge Rel := by
  intro n X M hn h a b f l
  have key : ∀ {c : Nat}, c < 6 → a = nI c → fX5_isClient a = some 1 → fX6_isClient a = some 1 → ∃ q r, fX5_surge a b f l X = some q ∧ fX6_surge a b f l M = some r ∧ q.1 = r.1 ∧ Rel (n + 1) q.2 r.2 := by
    intro c hc ha e1 e2
    subst ha
    have pX : ∀ Q : Prop, (fX5_surge (nI c) b f l X = some (-1, X)) → (fX6_surge (nI c) b f l M = some (-1, M)) → ∃ q r, fX5_surge (nI c) b f l X = some q ∧ fX6_surge (nI c) b f l M = some r ∧ q.1 = r.1 ∧ Rel (n + 1) q.2 r.2 := fun _ x y => ⟨_, _, x, y, rfl, h.mono⟩
    rcases rng b 1 4 (by omega) (by omega) with d | ⟨d0, d⟩ | ⟨x, x1, x2, rfl⟩
    · refine pX True ?_ ?_
      · unfold fX5_surge bfX5_surge_40
        rw [e1, ob_eq, if_neg (by decide), if_pos (show b < (1 : Int32) from d)]
      · unfold fX6_surge bfX6_surge_37
        rw [e2, ob_eq, if_neg (by decide), show fX6_in b (1 : Int32) (4 : Int32) = some 0 from in_lo d, ob_eq, if_pos rfl]
    · refine pX True ?_ ?_
      · unfold fX5_surge bfX5_surge_40
        rw [e1, ob_eq, if_neg (by decide), if_neg (show ¬ b < (1 : Int32) from d0), if_pos (show (4 : Int32) < b from d)]
      · unfold fX6_surge bfX6_surge_37
        rw [e2, ob_eq, if_neg (by decide), show fX6_in b (1 : Int32) (4 : Int32) = some 0 from in_hi d0 d, ob_eq, if_pos rfl]
    have b1 : ¬ nI x < (1 : Int32) := nI_nlt (b := 1) x1 (by omega)
    have b2 : ¬ (4 : Int32) < nI x := nI_nlt (a := 4) x2 (by omega)
    have b3 : fX6_in (nI x) (1 : Int32) (4 : Int32) = some 1 := in_ok (lo := 1) (hi := 4) x1 x2 (by omega)
    rcases rng f 0 100 (by omega) (by omega) with d | ⟨d0, d⟩ | ⟨y, y1, y2, rfl⟩
    · refine pX True ?_ ?_
      · unfold fX5_surge bfX5_surge_40
        rw [e1, ob_eq, if_neg (by decide), if_neg b1, if_neg b2, if_pos (show f < 0 from d)]
      · unfold fX6_surge bfX6_surge_37
        rw [e2, ob_eq, if_neg (by decide), b3, ob_eq, if_neg (by decide), show fX6_in f (0 : Int32) (100 : Int32) = some 0 from in_lo d, ob_eq, if_pos rfl]
    · refine pX True ?_ ?_
      · unfold fX5_surge bfX5_surge_40
        rw [e1, ob_eq, if_neg (by decide), if_neg b1, if_neg b2, if_neg (show ¬ f < 0 from d0), if_pos (show (100 : Int32) < f from d)]
      · unfold fX6_surge bfX6_surge_37
        rw [e2, ob_eq, if_neg (by decide), b3, ob_eq, if_neg (by decide), show fX6_in f (0 : Int32) (100 : Int32) = some 0 from in_hi d0 d, ob_eq, if_pos rfl]
    have f1 : ¬ nI y < (0 : Int32) := nI_pos (by omega)
    have f2 : ¬ (100 : Int32) < nI y := nI_nlt (a := 100) y2 (by omega)
    have f3 : fX6_in (nI y) (0 : Int32) (100 : Int32) = some 1 := in_ok (lo := 0) (hi := 100) y1 y2 (by omega)
    rcases rng l 1 100 (by omega) (by omega) with d | ⟨d0, d⟩ | ⟨z, z1, z2, rfl⟩
    · refine pX True ?_ ?_
      · unfold fX5_surge bfX5_surge_40
        rw [e1, ob_eq, if_neg (by decide), if_neg b1, if_neg b2, if_neg f1, if_neg f2, if_pos (show l < (1 : Int32) from d)]
      · unfold fX6_surge bfX6_surge_37
        rw [e2, ob_eq, if_neg (by decide), b3, ob_eq, if_neg (by decide), f3, ob_eq, if_neg (by decide), show fX6_in l (1 : Int32) (100 : Int32) = some 0 from in_lo d, ob_eq, if_pos rfl]
    · refine pX True ?_ ?_
      · unfold fX5_surge bfX5_surge_40
        rw [e1, ob_eq, if_neg (by decide), if_neg b1, if_neg b2, if_neg f1, if_neg f2, if_neg (show ¬ l < (1 : Int32) from d0), if_neg (show ¬ l ≤ (100 : Int32) from fun z => Int32.not_lt.mpr z d)]
      · unfold fX6_surge bfX6_surge_37
        rw [e2, ob_eq, if_neg (by decide), b3, ob_eq, if_neg (by decide), f3, ob_eq, if_neg (by decide), show fX6_in l (1 : Int32) (100 : Int32) = some 0 from in_hi d0 d, ob_eq, if_pos rfl]
    have l1 : ¬ nI z < (1 : Int32) := nI_nlt (b := 1) z1 (by omega)
    have l2 : nI z ≤ (100 : Int32) := nI_le (b := 100) z2 (by omega)
    have l3 : fX6_in (nI z) (1 : Int32) (100 : Int32) = some 1 := in_ok (lo := 1) (hi := 100) z1 z2 (by omega)
    obtain ⟨X1, M1, k1, k2, h1, k3, k4⟩ := keep_rel h
    obtain ⟨t, K, cl, sg, sv, sw, t1, t2, hz⟩ := h1.cur
    have e12 : (X1.2.1 0).2 12 = nI t ∧ M1.1 182 = nI t := by
      obtain ⟨nr, r, N, nq, nb, qs, ws, fb, gb, at_, ow, hX, hT, ⟨hd0, q1, q2, hD⟩, hR, hY, hL⟩ := hz
      exact ⟨q1, q2⟩
    have g := hz.surge hc (f := x) (a := t + y) (b := t + y + z) x1 x2 (by omega) (by omega)
    refine ⟨(nI (t + y + z), rset X1 0 (sput 2 (sput 2 (sput 2 (X1.2.1 0) (nI c) (0 : Int32) (nI x)) (nI c) (1 : Int32) (nI (t + y))) (nI c) (2 : Int32) (nI (t + y + z)))), (nI (t + y + z), (upd (upd (upd M1.1 (72 + 3 * c) (nI x)) (72 + 3 * c + 1) (nI (t + y))) (72 + 3 * c + 2) (nI (t + y + z)), M1.2)), ?_, ?_, rfl, h1.set0 (by omega) ⟨t, K, cl, _, sv, sw, by omega, by omega, g⟩ (fun q hq => ?_)⟩
    · unfold fX5_surge
      rw [e1, ob_eq, if_neg (by decide), if_neg b1, if_neg b2, if_neg f1, if_neg f2, if_neg l1, if_pos l2, k1, ob_eq, e12.1, nI_add, nm, nm, rs_s, rs_2, nm, rs_s, rs_2, nI_add, nm]
    · have st : ∀ (q : Nat) (c' : Int32) (Y : MS) (w : Int32) (Q : MS → Option (Int32 × MS)), q < 5130 → c' = nI q → (if okI c' 5130 then nm (upd Y.1 c'.toNatClampNeg w, Y.2) Q else none) = Q (upd Y.1 q w, Y.2) := fun q c' Y w Q hq e => by
        subst e
        rw [if_pos (okI_nI hq (by decide)), nm, nI_clamp (by omega)]
      unfold fX6_surge
      rw [e2, ob_eq, if_neg (by decide), b3, ob_eq, if_neg (by decide), f3, ob_eq, if_neg (by decide), l3, ob_eq, if_neg (by decide), k2, ob_eq, nM_3, nB_72, nA_1, nA_2]
      refine (st (72 + 3 * c) _ _ _ _ (by omega) rfl).trans ?_
      refine (st (72 + 3 * c + 1) _ _ _ _ (by omega) rfl).trans ?_
      refine (st (72 + 3 * c + 2) _ _ _ _ (by omega) rfl).trans ?_
      rw [if_pos (okI_nI (by omega) (by decide)), nI_clamp (by omega), cl_182]
      dsimp only
      rw [up_n (show 182 ≠ 72 + 3 * c + 1 by omega), up_n (show 182 ≠ 72 + 3 * c by omega), e12.2, nI_add, nI_add, up_s rfl]
    · rw [up_n (by omega), up_n (by omega), up_n (by omega)]
  rcases cli a with ⟨e1, e2⟩ | ⟨c, hc, ha, e1, e2⟩
  · refine ⟨(-1, X), (-1, M), ?_, ?_, rfl, h.mono⟩
    · unfold fX5_surge bfX5_surge_40
      rw [e1, ob_eq, if_pos rfl]
    · unfold fX6_surge bfX6_surge_37
      rw [e2, ob_eq, if_pos rfl]
  · exact key hc ha e1 e2
