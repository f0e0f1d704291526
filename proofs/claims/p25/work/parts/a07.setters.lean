/-! set, setDiscipline, setSwitch, surge, undo, in both -/
theorem Rel.set0 {n n' : Nat} {X1 : RS} {M1 : MS} {S' : StS} {p' : Pg} (h : Rel n X1 M1) (hn : n ≤ n') (hc : Cur n' S' p') (hp : ∀ x, 855 ≤ x → p' x = M1.1 x) : Rel n' (rset X1 0 S') (p', M1.2) :=
  Rel.put h hn rfl (fun k hk => rs_n (by omega)) rfl (fun x hx _ => hp x hx) (by rw [rs_s]; exact hc)
theorem Rel.cur {n : Nat} {X : RS} {M : MS} (h : Rel n X M) : Cur n (X.2.1 0) M.1 := by
  obtain ⟨m, h1, h2, h3, h4, h5⟩ := h
  exact h4
theorem tabI_lo : ∀ w, w < 12 → tabI leastL w = nI (loL w) := by decide
theorem tabI_hi : ∀ w, w < 12 → tabI mostL w = nI (hiL w) := by decide
theorem lohi : ∀ w, w < 12 → loL w ≤ hiL w ∧ hiL w ≤ 64 := by decide
theorem rs_2 {X : RS} {i : Nat} {S T : StS} : rset (rset X i S) i T = rset X i T := by
  refine Prod.ext rfl (Prod.ext (funext fun j => ?_) rfl)
  by_cases e : j = i
  · subst e
    exact rs_s.trans rs_s.symm
  · exact (rs_n e).trans ((rs_n e).trans (rs_n e).symm)
theorem set_rel : St_set Rel := by
  intro n X M hn h a b v
  rcases cli a with ⟨e1, e2⟩ | ⟨c, hc, rfl, e1, e2⟩
  · refine ⟨(-1, X), (-1, M), ?_, ?_, rfl, h.mono⟩
    · unfold fX5_set bfX5_set_35
      rw [e1, ob_eq, if_pos rfl]
    · unfold fX6_set bfX6_set_36
      rw [e2, ob_eq, if_pos rfl]
  · have hbad : (b < 0 ∨ (¬ b < 0 ∧ (12 : Int32) ≤ b)) → fX6_in b (0 : Int32) (11 : Int32) = some 0 → ∃ q r, fX5_set (nI c) b v X = some q ∧ fX6_set (nI c) b v M = some r ∧ q.1 = r.1 ∧ Rel (n + 1) q.2 r.2 := fun z z2 => by
      refine ⟨(-1, X), (-1, M), ?_, ?_, rfl, h.mono⟩
      · unfold fX5_set bfX5_set_35
        rw [e1, ob_eq, if_neg (by decide)]
        rcases z with z | ⟨z0, z⟩
        · rw [if_pos z]
        · rw [if_neg z0, if_pos z]
      · unfold fX6_set bfX6_set_36
        rw [e2, ob_eq, if_neg (by decide), z2, ob_eq, if_pos rfl]
    rcases rng b 0 11 (by omega) (by omega) with d | ⟨d0, d⟩ | ⟨w, w1, w2, rfl⟩
    · exact hbad (Or.inl d) (in_lo d)
    · exact hbad (Or.inr ⟨d0, gt_ge (by omega) d⟩) (in_hi d0 d)
    · have hw : w < 12 := by omega
      obtain ⟨l1, l2⟩ := lohi w hw
      have lb : ¬ nI w < 0 := nI_pos (by omega)
      have lb2 : ¬ (12 : Int32) ≤ nI w := nI_ge (b := 12) (by omega) (by omega)
      have eb : fX6_in (nI w) (0 : Int32) (11 : Int32) = some 1 := in_ok (lo := 0) (hi := 11) (by omega) w2 (by omega)
      have ho : okI (nI w) 12 := okI_nI hw (by omega)
      have hcl : (nI w).toNatClampNeg = w := nI_clamp (by omega)
      have tlo : tabI leastL (nI w).toNatClampNeg = nI (loL w) := by rw [hcl]; exact tabI_lo w hw
      have thi : tabI mostL (nI w).toNatClampNeg = nI (hiL w) := by rw [hcl]; exact tabI_hi w hw
      have L : ∀ v : Int32, v < tabI leastL (nI w).toNatClampNeg ↔ v < nI (loL w) := fun v => by rw [tlo]
      have G : ∀ v : Int32, v ≤ tabI mostL (nI w).toNatClampNeg ↔ v ≤ nI (hiL w) := fun v => by rw [thi]
      rcases rng v (loL w) (hiL w) l1 (by omega) with d | ⟨d0, d⟩ | ⟨x, x1, x2, rfl⟩
      · refine ⟨(-1, X), (-1, M), ?_, ?_, rfl, h.mono⟩
        · unfold fX5_set bfX5_set_35
          rw [e1, ob_eq, if_neg (by decide), if_neg lb, if_neg lb2, if_pos ho, if_pos ((L _).mpr d)]
        · unfold fX6_set bfX6_set_36
          rw [e2, ob_eq, if_neg (by decide), eb, ob_eq, if_neg (by decide), if_pos ho, if_pos ho, tlo, thi, in_lo d, ob_eq, if_pos rfl]
      · refine ⟨(-1, X), (-1, M), ?_, ?_, rfl, h.mono⟩
        · unfold fX5_set bfX5_set_35
          rw [e1, ob_eq, if_neg (by decide), if_neg lb, if_neg lb2, if_pos ho, if_neg (fun z => d0 ((L _).mp z)), if_pos ho, if_neg (fun z => Int32.not_lt.mpr ((G _).mp z) d)]
        · unfold fX6_set bfX6_set_36
          rw [e2, ob_eq, if_neg (by decide), eb, ob_eq, if_neg (by decide), if_pos ho, if_pos ho, tlo, thi, in_hi d0 d, ob_eq, if_pos rfl]
      · obtain ⟨X1, M1, k1, k2, h1, k3, k4⟩ := keep_rel h
        obtain ⟨t, K, cl, sg, sv, sw, t1, t2, hz⟩ := h1.cur
        obtain ⟨g1, g2⟩ := hz.setc hc hw x1 x2
        have eX : fX5_set (nI c) (nI w) (nI x) X = if nI w = (10 : Int32) then some (M1.1 (12 * c + w), rset X1 0 (sput 1 (sput 0 (X1.2.1 0) (nI c) (nI w) (nI x)) (nI c) (7 : Int32) (nI (10 * x)))) else some (M1.1 (12 * c + w), rset X1 0 (sput 0 (X1.2.1 0) (nI c) (nI w) (nI x))) := by
          unfold fX5_set bfX5_set_91
          rw [e1, ob_eq, if_neg (by decide), if_neg lb, if_neg lb2, if_pos ho, if_neg (fun z => nI_nlt x1 (by omega) ((L _).mp z)), if_pos ho, if_pos ((G _).mpr (nI_le x2 (by omega))), k1, ob_eq, nm, nm, g1, rs_s, nm, rs_2, nM_10]
        have eM : fX6_set (nI c) (nI w) (nI x) M = if nI w = (10 : Int32) then some (M1.1 (12 * c + w), (upd (upd M1.1 (12 * c + w) (nI x)) (90 + 8 * c + 7) (nI (10 * x)), M1.2)) else some (M1.1 (12 * c + w), (upd M1.1 (12 * c + w) (nI x), M1.2)) := by
          unfold fX6_set bfX6_set_89
          rw [e2, ob_eq, if_neg (by decide), eb, ob_eq, if_neg (by decide), if_pos ho, if_pos ho, tlo, thi, in_ok x1 x2 (by omega), ob_eq, if_neg (by decide), k2, ob_eq, of_n hc hw, ob_eq, nM_12, nB_0, nI_add, if_pos (okI_nI (by omega) (by decide)), nm, nI_clamp (by omega), nM_8, nB_90, nA_7, if_pos (okI_nI (by omega) (by decide)), nm, nI_clamp (by omega), nM_10, show 0 + 12 * c + w = 12 * c + w by omega]
        by_cases e10 : nI w = (10 : Int32)
        · rw [if_pos e10] at eX eM
          refine ⟨_, _, eX, eM, rfl, ?_⟩
          refine h1.set0 (by omega) ⟨t, K, _, sg, sv, sw, by omega, by omega, g2.tal7 hc _⟩ (fun y hy => ?_)
          rw [up_n (by omega), up_n (by omega)]
        · rw [if_neg e10] at eX eM
          refine ⟨_, _, eX, eM, rfl, ?_⟩
          refine h1.set0 (by omega) ⟨t, K, _, sg, sv, sw, by omega, by omega, g2⟩ (fun y hy => ?_)
          rw [up_n (by omega)]
theorem setDiscipline_rel : St_setDiscipline Rel := by
  intro n X M hn h a
  rcases rng a 0 3 (by omega) (by omega) with c | ⟨c0, c⟩ | ⟨d, d1, d2, rfl⟩
  · refine ⟨(-1, X), (-1, M), ?_, ?_, rfl, h.mono⟩
    · unfold fX5_setDiscipline bfX5_setDiscipline_9
      rw [if_pos (show a < 0 from c)]
    · unfold fX6_setDiscipline
      rw [show fX6_in a (0 : Int32) (3 : Int32) = some 0 from in_lo c, ob_eq, if_pos rfl]
  · refine ⟨(-1, X), (-1, M), ?_, ?_, rfl, h.mono⟩
    · unfold fX5_setDiscipline bfX5_setDiscipline_9
      rw [if_neg (show ¬ a < 0 from c0), if_neg (show ¬ a < (4 : Int32) from fun z => Int32.not_le.mpr z (gt_ge (hi := 3) (by omega) c))]
    · unfold fX6_setDiscipline
      rw [show fX6_in a (0 : Int32) (3 : Int32) = some 0 from in_hi c0 c, ob_eq, if_pos rfl]
  · obtain ⟨X1, M1, k1, k2, h1, k3, k4⟩ := keep_rel h
    obtain ⟨t, K, cl, sg, sv, sw, t1, t2, hz⟩ := h1.cur
    have e11 : (X1.2.1 0).2 11 = M1.1 178 := by
      obtain ⟨nr, r, N, nq, nb, qs, ws, fb, gb, at_, ow, hX, hT, ⟨⟨d', q1, q2, q3⟩, hD⟩, hR, hY, hL⟩ := hz
      exact q1.trans q2.symm
    refine ⟨((X1.2.1 0).2 11, _), (M1.1 178, _), ?_, ?_, e11, h1.set0 (by omega) ⟨t, K, cl, sg, sv, sw, by omega, by omega, hz.disc d2⟩ (fun y hy => up_n (by omega))⟩
    · unfold fX5_setDiscipline
      rw [if_neg (nI_pos (by omega)), if_pos (show nI d < (4 : Int32) from nI_lt (b := 4) (by omega) (by omega)), k1, ob_eq, nm]
      rfl
    · unfold fX6_setDiscipline
      rw [show fX6_in (nI d) (0 : Int32) (3 : Int32) = some 1 from in_ok (lo := 0) (hi := 3) d1 d2 (by omega), ob_eq, if_neg (by decide), k2, ob_eq, cl_178, nm, nm]
theorem setSwitch_rel : St_setSwitch Rel := by
  intro n X M hn h a b hb
  rcases rng a 0 2 (by omega) (by omega) with c | ⟨c0, c⟩ | ⟨d, d1, d2, rfl⟩
  · refine ⟨(-1, X), (-1, M), ?_, ?_, rfl, h.mono⟩
    · unfold fX5_setSwitch bfX5_setSwitch_9
      rw [if_pos (show a < 0 from c)]
    · unfold fX6_setSwitch
      rw [show fX6_in a (0 : Int32) (2 : Int32) = some 0 from in_lo c, ob_eq, if_pos rfl]
  · refine ⟨(-1, X), (-1, M), ?_, ?_, rfl, h.mono⟩
    · unfold fX5_setSwitch bfX5_setSwitch_9
      rw [if_neg (show ¬ a < 0 from c0), if_neg (show ¬ a < (3 : Int32) from fun z => Int32.not_le.mpr z (gt_ge (hi := 2) (by omega) c))]
    · unfold fX6_setSwitch
      rw [show fX6_in a (0 : Int32) (2 : Int32) = some 0 from in_hi c0 c, ob_eq, if_pos rfl]
  · obtain ⟨X1, M1, k1, k2, h1, k3, k4⟩ := keep_rel h
    obtain ⟨t, K, cl, sg, sv, sw, t1, t2, hz⟩ := h1.cur
    obtain ⟨v, v1, vb⟩ : ∃ v, v ≤ 1 ∧ (if b = 0 then (0 : Int32) else 1) = nI v := by
      rcases hb with e | e
      · exact ⟨0, by omega, by rw [if_pos e]; rfl⟩
      · exact ⟨1, by omega, by rw [if_neg (by rw [e]; decide)]; rfl⟩
    obtain ⟨g1, g2⟩ := hz.setsw (i := d) (v := v) (by omega) v1
    refine ⟨(M1.1 (179 + d), rset X1 0 (sput 4 (X1.2.1 0) (nI d) (0 : Int32) (nI v))), (M1.1 (179 + d), (upd M1.1 (179 + d) (nI v), M1.2)), ?_, ?_, rfl, h1.set0 (by omega) ⟨t, K, cl, sg, sv, _, by omega, by omega, g2⟩ (fun y hy => up_n (by omega))⟩
    · unfold fX5_setSwitch bfX5_setSwitch_46
      rw [if_neg (nI_pos (by omega)), if_pos (show nI d < (3 : Int32) from nI_lt (b := 3) (by omega) (by omega)), k1, ob_eq, nm, g1, ← vb]
      rcases hb with e | e
      · rw [if_pos e, if_pos e, nm]
      · rw [if_neg (show ¬ b = 0 by rw [e]; decide), if_neg (show ¬ b = 0 by rw [e]; decide), nm]
    · unfold fX6_setSwitch bfX6_setSwitch_44
      have hc : ((179 : Int32) + nI d).toNatClampNeg = 179 + d := by rw [nB_179]; exact nI_clamp (by omega)
      have ho : okI ((179 : Int32) + nI d) 5130 ↔ True := by rw [nB_179]; exact okT (by omega) (by decide)
      rw [show fX6_in (nI d) (0 : Int32) (2 : Int32) = some 1 from in_ok (lo := 0) (hi := 2) d1 d2 (by omega), ob_eq, if_neg (by decide), k2, ob_eq]
      simp only [hc, ho, if_true]
      rw [nm, ← vb]
      rcases hb with e | e
      · rw [if_pos e, if_pos e, nm]
      · rw [if_neg (show ¬ b = 0 by rw [e]; decide), if_neg (show ¬ b = 0 by rw [e]; decide), nm]
theorem undo_rel : St_undo Rel := by
  intro n X M hn h
  obtain ⟨m, h1, h2, h3, h4, h5⟩ := h
  by_cases e : m = 0
  · subst e
    refine ⟨(-2, X), (-2, M), ?_, ?_, rfl, ⟨0, h1, h2, h3, h4.cg (by omega) (fun _ _ => rfl), fun i hi => absurd hi (by omega)⟩⟩
    · unfold fX5_undo bfX5_undo_20
      rw [h2, if_pos (by decide)]
    · unfold fX6_undo
      rw [h3, if_pos (show nI 0 = (0 : Int32) from rfl)]
  · obtain ⟨k, rfl⟩ : ∃ k, m = k + 1 := ⟨m - 1, by omega⟩
    have es : nI (k + 1) - (1 : Int32) = nI k := pk_sub (b := 1) (by omega)
    refine ⟨(nI k, rset (X.1, X.2.1, nI k) 0 (X.2.1 (k + 2))), (nI k, (pcp M.1 (k + 1) 0, M.2.1, upd M.2.2 1 (nI k))), ?_, ?_, rfl, ⟨k, by omega, rfl, ?_, ?_, fun i hi => ?_⟩⟩
    · unfold fX5_undo
      rw [h2, if_neg (show ¬ nI (k + 1) < (1 : Int32) from nI_nlt (b := 1) (by omega) (by omega)), if_pos (show nI (k + 1) ≤ (4 : Int32) from nI_le (b := 4) (by omega) (by omega)), es, nm]
      dsimp only
      rw [if_pos (okI_nI (by omega) (by decide)), nm, nI_clamp (by omega)]
      rfl
    · unfold fX6_undo
      rw [h3, if_neg (nI_ne0 (by omega) (by omega)), show fX6_copies (nI (k + 1)) (0 : Int32) M = some (pcp M.1 (k + 1) 0, M.2) from copies_eq (b := 0) (by omega) (by omega) (by omega), ob_eq, nm]
      dsimp only
      rw [h3, es, up_s rfl]
    · show upd M.2.2 1 (nI k) 1 = _
      exact up_s rfl
    · refine Cur.cg (n := n) (p := blk M.1 (k + 1)) ?_ (by omega) (fun x hx => ?_)
      · show Cur n ((rset (X.1, X.2.1, nI k) 0 (X.2.1 (k + 2))).2.1 0) _
        rw [rs_s, show k + 2 = 2 + k by omega]
        exact h5 k (by omega)
      · show pcp M.1 (k + 1) 0 x = M.1 (855 * (k + 1) + x)
        have := pcp_to (p := M.1) (a := k + 1) (b := 0) hx
        rw [show 855 * 0 + x = x by omega] at this
        exact this
    · refine Cur.cg (n := n) (p := blk M.1 (i + 1)) ?_ (by omega) (fun x hx => ?_)
      · show Cur n ((rset (X.1, X.2.1, nI k) 0 (X.2.1 (k + 2))).2.1 (2 + i)) _
        rw [rs_n (by omega)]
        exact h5 i (by omega)
      · show pcp M.1 (k + 1) 0 (855 * (i + 1) + x) = M.1 (855 * (i + 1) + x)
        exact pcp_off (by omega)
