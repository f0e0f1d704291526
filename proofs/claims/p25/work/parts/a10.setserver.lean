/-! setServer, in both: all of it -/
theorem sv_core {n : Nat} {X : RS} {M : MS} (hn : n < 512) (h : Rel n X M) {i v : Nat} (hi : i < 4) (v1 : 1 ≤ v) (v2 : v ≤ mxS i) (fit : Nat) (hX : fX5_isInUseBeyond (nI i) (nI v) X = some (if fit = 1 then 0 else 1)) (hM : fX6_setServer (nI i) (nI v) M = bfX6_setServer_136 (nI i) (nI v) (if fit = 1 then 1 else 0) M) (hm : fX5_mostOfServer (nI i) = some (nI (mxS i))) (hs : mxS i ≤ 16) (h6 : fit = 1 → i = 1 → ∀ n, n ≤ 16 → M.1 557 = nI n → n ≤ v) (h8 : fit = 1 → i = 3 → ∀ n, n ≤ 16 → M.1 574 = nI n → n ≤ v) : ∃ q r, fX5_setServer (nI i) (nI v) X = some q ∧ fX6_setServer (nI i) (nI v) M = some r ∧ q.1 = r.1 ∧ Rel (n + 1) q.2 r.2 := by
  have eX : fX5_setServer (nI i) (nI v) X = ob (fX5_isInUseBeyond (nI i) (nI v) X) fun u7 => (if u7 = 0 then ob (fX5_keepState X) fun u8 => nm ((sget 3 (u8.2.1 0) (nI i) (0 : Int32))) fun v9 => nm (rset u8 0 (sput 3 (u8.2.1 0) (nI i) (0 : Int32) (nI v))) fun S10 => some (v9, S10) else some ((-2 : Int32), X)) := by
    unfold fX5_setServer
    rw [if_neg (nI_pos (by omega)), if_neg (show ¬ (4 : Int32) ≤ nI i from nI_ge (b := 4) hi (by omega)), if_neg (show ¬ nI v < (1 : Int32) from nI_nlt (b := 1) v1 (by omega)), hm, ob_eq, if_pos (nI_le v2 (by omega))]
  rw [eX, hX, ob_eq, hM]
  unfold bfX6_setServer_136
  by_cases f : fit = 1
  · rw [if_pos f, if_pos f, if_pos rfl, if_neg (show ¬ (1 : Int32) = 0 by decide)]
    obtain ⟨X1, M1, k1, k2, h1, k3, k4⟩ := keep_rel h
    obtain ⟨t, K, cl, sg, sv, sw, t1, t2, hz⟩ := h1.cur
    obtain ⟨g1, g2⟩ := hz.setsv hi v1 v2 (fun e n hn hp => h6 f e n hn ((k4 557 (by omega)).symm.trans hp)) (fun e n hn hp => h8 f e n hn ((k4 574 (by omega)).symm.trans hp))
    refine ⟨(M1.1 (174 + i), rset X1 0 (sput 3 (X1.2.1 0) (nI i) (0 : Int32) (nI v))), (M1.1 (174 + i), (upd M1.1 (174 + i) (nI v), M1.2)), ?_, ?_, rfl, h1.set0 (by omega) ⟨t, K, cl, sg, _, sw, by omega, by omega, g2⟩ (fun y hy => up_n (by omega))⟩
    · rw [k1, ob_eq, nm, g1, nm]
    · have hc : ((174 : Int32) + nI i).toNatClampNeg = 174 + i := by rw [nB_174]; exact nI_clamp (by omega)
      have ho : okI ((174 : Int32) + nI i) 5130 ↔ True := by rw [nB_174]; exact okT (by omega) (by decide)
      rw [k2, ob_eq]
      simp only [hc, ho, if_true]
      rw [nm, nm]
  · rw [if_neg f, if_neg f, if_neg (show ¬ (1 : Int32) = 0 by decide), if_pos rfl]
    exact ⟨(-2, X), (-2, M), rfl, rfl, rfl, h.mono⟩
theorem setServer_rel : St_setServer Rel := by
  intro n X M hn h a b
  have bad : fX5_setServer a b X = some (-1, X) → fX6_setServer a b M = some (-1, M) → ∃ q r, fX5_setServer a b X = some q ∧ fX6_setServer a b M = some r ∧ q.1 = r.1 ∧ Rel (n + 1) q.2 r.2 := fun x y => ⟨_, _, x, y, rfl, h.mono⟩
  rcases rng a 0 3 (by omega) (by omega) with c | ⟨c0, c⟩ | ⟨i, i1, i2, rfl⟩
  · refine bad ?_ ?_
    · unfold fX5_setServer bfX5_setServer_22
      rw [if_pos (show a < 0 from c)]
    · unfold fX6_setServer bfX6_setServer_29
      rw [show fX6_in a (0 : Int32) (3 : Int32) = some 0 from in_lo c, ob_eq, if_pos rfl]
  · refine bad ?_ ?_
    · unfold fX5_setServer bfX5_setServer_22
      rw [if_neg (show ¬ a < 0 from c0), if_pos (show (4 : Int32) ≤ a from gt_ge (hi := 3) (by omega) c)]
    · unfold fX6_setServer bfX6_setServer_29
      rw [show fX6_in a (0 : Int32) (3 : Int32) = some 0 from in_hi c0 c, ob_eq, if_pos rfl]
  have hi : i < 4 := by omega
  have hs : mxS i ≤ 16 := by
    rcases (show i = 0 ∨ i = 1 ∨ i = 2 ∨ i = 3 by omega) with e | e | e | e <;> (rw [e]; decide)
  have hs1 : 1 ≤ mxS i := by
    rcases (show i = 0 ∨ i = 1 ∨ i = 2 ∨ i = 3 by omega) with e | e | e | e <;> (rw [e]; decide)
  have hm : fX5_mostOfServer (nI i) = some (nI (mxS i)) := by
    unfold fX5_mostOfServer bfX5_mostOfServer_9 bfX5_mostOfServer_15
    rcases (show i = 0 ∨ i = 1 ∨ i = 2 ∨ i = 3 by omega) with e | e | e | e
    · subst e; rw [if_pos (by decide)]; rfl
    · subst e; rw [if_neg (by decide), if_neg (by decide)]; rfl
    · subst e; rw [if_neg (by decide), if_pos (by decide)]; rfl
    · subst e; rw [if_neg (by decide), if_neg (by decide)]; rfl
  have e23 : fX6_setServer (nI i) b M = bfX6_setServer_23 (nI i) b b (1 : Int32) (nI (mxS i)) M := by
    unfold fX6_setServer
    rw [show fX6_in (nI i) (0 : Int32) (3 : Int32) = some 1 from in_ok (lo := 0) (hi := 3) i1 i2 (by omega), ob_eq, if_neg (by decide)]
    rcases (show i = 0 ∨ i = 1 ∨ i = 2 ∨ i = 3 by omega) with e | e | e | e
    · subst e; rw [if_pos (by decide)]; rfl
    · subst e; rw [if_neg (by decide)]; rfl
    · subst e; rw [if_pos (by decide)]; rfl
    · subst e; rw [if_neg (by decide)]; rfl
  have a1 : ¬ nI i < 0 := nI_pos (by omega)
  have a2 : ¬ (4 : Int32) ≤ nI i := nI_ge (b := 4) hi (by omega)
  rcases rng b 1 (mxS i) hs1 (by omega) with c | ⟨c0, c⟩ | ⟨v, v1, v2, rfl⟩
  · refine bad ?_ ?_
    · unfold fX5_setServer bfX5_setServer_22
      rw [if_neg a1, if_neg a2, if_pos (show b < (1 : Int32) from c)]
    · rw [e23]
      unfold bfX6_setServer_23 bfX6_setServer_29
      rw [show fX6_in b (1 : Int32) (nI (mxS i)) = some 0 from in_lo c, ob_eq, if_pos rfl]
  · refine bad ?_ ?_
    · unfold fX5_setServer bfX5_setServer_22
      rw [if_neg a1, if_neg a2, if_neg (show ¬ b < (1 : Int32) from c0), hm, ob_eq, if_neg (fun z => Int32.not_lt.mpr z c)]
    · rw [e23]
      unfold bfX6_setServer_23 bfX6_setServer_29
      rw [show fX6_in b (1 : Int32) (nI (mxS i)) = some 0 from in_hi c0 c, ob_eq, if_pos rfl]
  clear bad
  have ein : fX6_in (nI v) (1 : Int32) (nI (mxS i)) = some 1 := in_ok (lo := 1) v1 v2 (by omega)
  obtain ⟨t, K, cl, sg, sv, sw, t1, t2, hz⟩ := h.cur
  obtain ⟨nq, nb, ws, gb, z1, z2, z3, z4, z5, z6, z7, z8⟩ := hz.workers (by omega)
  have e1 : ∀ f : Nat, (if (1 : Int32) = 1 ∧ f = 1 then (1 : Int32) else 0) = if f = 1 then 1 else 0 := fun f => by
    by_cases c : f = 1
    · rw [if_pos ⟨rfl, c⟩, if_pos c]
    · rw [if_neg (fun z => c z.2), if_neg c]
  have h01 : ∀ f : Nat, ((if f = 1 then (0 : Int32) else 1) = 0 ∨ (if f = 1 then (0 : Int32) else 1) = 1) := fun f => by
    by_cases c : f = 1
    · rw [if_pos c]; exact Or.inl rfl
    · rw [if_neg c]; exact Or.inr rfl
  -- a queue's capacity
  have odd : ∀ (x3 : Int32), (i = 1 ∨ i = 3) → iter (bfX6_setServer_82 (nI i) (nI v)) FU (x3, nI v, M) = bfX6_setServer_136 (nI i) (nI v) x3 M := fun x3 ho => by
    rw [show FU = 999 + 1 from rfl, it_s, bfX6_setServer_82]
    by_cases c : (4 : Int32) ≤ nI v
    · rw [if_pos c]
    · rw [if_neg c]
      rcases ho with e | e
      · subst e; rw [if_neg (by decide)]
      · subst e; rw [if_neg (by decide)]
  rcases (show i = 0 ∨ i = 1 ∨ i = 2 ∨ i = 3 by omega) with e | e | e | e
  · subst e
    have v4 : v ≤ 4 := v2
    refine sv_core hn h hi v1 v2 (frk ws (4 - v) v) ?_ ?_ hm hs (fun _ z => absurd z (by decide)) (fun _ z => absurd z (by decide))
    · unfold fX5_isInUseBeyond fX5_isAnyTakenFrom_7
      rw [if_pos (by decide), any7 (tk := ws) (fun w hw => ⟨fun y => ((z7 w hw).1 y).1, fun y => ((z7 w hw).2 y).1⟩) (nI v) (4 - v) v FU (by omega) (by unfold FU; omega), ob_eq, if_pos (h01 _)]
    · rw [e23]
      unfold bfX6_setServer_23 bfX6_setServer_73 bfX6_setServer_78
      rw [ein, ob_eq, if_neg (by decide), if_neg (show ¬ nI 0 = (1 : Int32) by decide), if_neg (show ¬ nI 0 = (3 : Int32) by decide), fits591 (tk := ws) (nI v) (fun w hw => ⟨fun y => ((z7 w hw).1 y).2, fun y => ((z7 w hw).2 y).2⟩) (4 - v) v FU 1 (by omega) (by unfold FU; omega) (Or.inr rfl), e1]
  · subst e
    have v4 : v ≤ 16 := v2
    refine sv_core hn h hi v1 v2 (if nq ≤ v then 1 else 0) ?_ ?_ hm hs (fun f _ n hn hp => ?_) (fun _ z => absurd z (by decide))
    · unfold fX5_isInUseBeyond bfX5_isInUseBeyond_59
      rw [if_neg (by decide), if_pos (by decide), z1]
      by_cases c : nq ≤ v
      · rw [if_pos (nI_le c (by omega)), if_pos (Or.inl rfl), if_pos c, if_pos rfl]
      · rw [if_neg (fun z => c ((nI_leI (by omega) (by omega)).mp z)), if_pos (Or.inr rfl), if_neg c, if_neg (by decide)]
    · rw [e23]
      unfold bfX6_setServer_23 bfX6_setServer_78
      rw [ein, ob_eq, if_neg (by decide), if_pos (show nI 1 = (1 : Int32) from rfl), cl_557, z2, odd _ (Or.inl rfl), odd _ (Or.inl rfl)]
      by_cases c : nq ≤ v
      · rw [if_neg (nI_nlt c (by omega)), if_pos c, if_pos rfl]
      · rw [if_pos (nI_lt (by omega) (by omega)), if_neg c, if_neg (by decide)]
    · by_cases c : nq ≤ v
      · have := (nI_eq (a := nq) (b := n) (by omega) (by omega)).mp (z2.symm.trans hp)
        omega
      · rw [if_neg c] at f
        exact absurd f (by decide)
  · subst e
    have v4 : v ≤ 4 := v2
    refine sv_core hn h hi v1 v2 (frk gb (4 - v) v) ?_ ?_ hm hs (fun _ z => absurd z (by decide)) (fun _ z => absurd z (by decide))
    · unfold fX5_isInUseBeyond fX5_isAnyTakenFrom_9
      rw [if_neg (by decide), if_neg (by decide), if_pos (by decide), any9 (tk := gb) (fun w hw => ⟨fun y => ((z8 w hw).1 y).1, fun y => ((z8 w hw).2 y).1⟩) (nI v) (4 - v) v FU (by omega) (by unfold FU; omega), ob_eq, if_pos (h01 _)]
    · rw [e23]
      unfold bfX6_setServer_23 bfX6_setServer_73 bfX6_setServer_78
      rw [ein, ob_eq, if_neg (by decide), if_neg (show ¬ nI 2 = (1 : Int32) by decide), if_neg (show ¬ nI 2 = (3 : Int32) by decide), fits595 (tk := gb) (nI v) (fun w hw => ⟨fun y => ((z8 w hw).1 y).2, fun y => ((z8 w hw).2 y).2⟩) (4 - v) v FU 1 (by omega) (by unfold FU; omega) (Or.inr rfl), e1]
  · subst e
    have v4 : v ≤ 16 := v2
    refine sv_core hn h hi v1 v2 (if nb ≤ v then 1 else 0) ?_ ?_ hm hs (fun _ z => absurd z (by decide)) (fun f _ n hn hp => ?_)
    · unfold fX5_isInUseBeyond bfX5_isInUseBeyond_91
      rw [if_neg (by decide), if_neg (by decide), if_neg (by decide), z4]
      by_cases c : nb ≤ v
      · rw [if_pos (nI_le c (by omega)), if_pos (Or.inl rfl), if_pos c, if_pos rfl]
      · rw [if_neg (fun z => c ((nI_leI (by omega) (by omega)).mp z)), if_pos (Or.inr rfl), if_neg c, if_neg (by decide)]
    · rw [e23]
      unfold bfX6_setServer_23 bfX6_setServer_73 bfX6_setServer_78
      rw [ein, ob_eq, if_neg (by decide), if_neg (show ¬ nI 3 = (1 : Int32) by decide), if_pos (show nI 3 = (3 : Int32) from rfl), cl_574, z5, odd _ (Or.inr rfl), odd _ (Or.inr rfl)]
      by_cases c : nb ≤ v
      · rw [if_neg (nI_nlt c (by omega)), if_pos c, if_pos rfl]
      · rw [if_pos (nI_lt (by omega) (by omega)), if_neg c, if_neg (by decide)]
    · by_cases c : nb ≤ v
      · have := (nI_eq (a := nb) (b := n) (by omega) (by omega)).mp (z5.symm.trans hp)
        omega
      · rw [if_neg c] at f
        exact absurd f (by decide)
