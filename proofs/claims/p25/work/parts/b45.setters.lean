/-! the law's numbers; what sets leaves -/
theorem cell_ok {L : Nat} (hL : L < 2 ^ 31) (xs : Nat → Int32) {k : Nat} (hk : k < 2 ^ 31) : ∃ m, fL_cell L xs (nI k) = some (nI m) ∧ m < 2 ^ 31 := by
  have key : ∀ x : Int32, ∃ m, (bfL_cell_20 L xs (nI k) x) = some (nI m) ∧ m < 2 ^ 31 := fun x => by
    obtain ⟨j, j1, j2⟩ := pk_andE x (m := (2147483647 : Int32)) 31 (by decide)
    refine ⟨j, ?_, j1⟩
    unfold bfL_cell_20
    rw [j2]
  unfold fL_cell
  by_cases c : nI L ≤ nI k
  · rw [if_pos c]
    exact key _
  · have hlt : k < L := by
      apply Classical.byContradiction
      intro z
      exact c (nI_le (by omega) hk)
    rw [if_neg c, if_pos (okI_nI hlt hL)]
    exact key _
theorem rm {m d : Nat} (hm : m < 2 ^ 31) (h0 : 0 < d) (hd : d < 2 ^ 31) : nI m - nI m / nI d * nI d = nI (m % d) := rem_nI hm h0 hd
theorem value_ok {m : Nat} (hm : m < 2 ^ 31) : ∀ w : Nat, w < 12 → ∃ v, fL_value (nI w) (nI m) = some (nI v) ∧ loL w ≤ v ∧ v ≤ hiL w
  | 0, _ => by
    refine ⟨1 + m % 6, ?_, Nat.le_trans (show loL 0 ≤ 1 by decide) (by omega), Nat.le_trans (show 1 + m % 6 ≤ 6 by omega) (by decide)⟩
    unfold fL_value
    rw [if_pos (by decide), show nI m - nI m / (6 : Int32) * (6 : Int32) = nI (m % 6) from rm (d := 6) hm (by omega) (by omega), show (1 : Int32) + nI (m % 6) = nI (1 + m % 6) from nI_add 1 _]
  | 1, _ => by
    refine ⟨m % 8, ?_, Nat.le_trans (show loL 1 ≤ 0 by decide) (by omega), Nat.le_trans (show m % 8 ≤ 7 by omega) (by decide)⟩
    unfold fL_value
    rw [if_neg (by decide), if_pos (by decide), show nI m - nI m / (8 : Int32) * (8 : Int32) = nI (m % 8) from rm (d := 8) hm (by omega) (by omega)]
  | 2, _ => by
    refine ⟨3 + m % 25, ?_, Nat.le_trans (show loL 2 ≤ 3 by decide) (by omega), Nat.le_trans (show 3 + m % 25 ≤ 27 by omega) (by decide)⟩
    unfold fL_value
    rw [if_neg (by decide), if_neg (by decide), if_pos (by decide), show nI m - nI m / (25 : Int32) * (25 : Int32) = nI (m % 25) from rm (d := 25) hm (by omega) (by omega), show (3 : Int32) + nI (m % 25) = nI (3 + m % 25) from nI_add 3 _]
  | 3, _ => by
    refine ⟨1 + m % 6, ?_, Nat.le_trans (show loL 3 ≤ 1 by decide) (by omega), Nat.le_trans (show 1 + m % 6 ≤ 6 by omega) (by decide)⟩
    unfold fL_value
    rw [if_neg (by decide), if_neg (by decide), if_neg (by decide), if_pos (by decide), show nI m - nI m / (6 : Int32) * (6 : Int32) = nI (m % 6) from rm (d := 6) hm (by omega) (by omega), show (1 : Int32) + nI (m % 6) = nI (1 + m % 6) from nI_add 1 _]
  | 4, _ => by
    refine ⟨2 + m % 12, ?_, Nat.le_trans (show loL 4 ≤ 2 by decide) (by omega), Nat.le_trans (show 2 + m % 12 ≤ 13 by omega) (by decide)⟩
    unfold fL_value
    rw [if_neg (by decide), if_neg (by decide), if_neg (by decide), if_neg (by decide), if_pos (by decide), show nI m - nI m / (12 : Int32) * (12 : Int32) = nI (m % 12) from rm (d := 12) hm (by omega) (by omega), show (2 : Int32) + nI (m % 12) = nI (2 + m % 12) from nI_add 2 _]
  | 5, _ => by
    refine ⟨1 + m % 5, ?_, Nat.le_trans (show loL 5 ≤ 1 by decide) (by omega), Nat.le_trans (show 1 + m % 5 ≤ 5 by omega) (by decide)⟩
    unfold fL_value
    rw [if_neg (by decide), if_neg (by decide), if_neg (by decide), if_neg (by decide), if_neg (by decide), if_pos (by decide), show nI m - nI m / (5 : Int32) * (5 : Int32) = nI (m % 5) from rm (d := 5) hm (by omega) (by omega), show (1 : Int32) + nI (m % 5) = nI (1 + m % 5) from nI_add 1 _]
  | 6, _ => by
    refine ⟨1 + m % 20, ?_, Nat.le_trans (show loL 6 ≤ 1 by decide) (by omega), Nat.le_trans (show 1 + m % 20 ≤ 20 by omega) (by decide)⟩
    unfold fL_value
    rw [if_neg (by decide), if_neg (by decide), if_neg (by decide), if_neg (by decide), if_neg (by decide), if_neg (by decide), if_pos (by decide), show nI m - nI m / (20 : Int32) * (20 : Int32) = nI (m % 20) from rm (d := 20) hm (by omega) (by omega), show (1 : Int32) + nI (m % 20) = nI (1 + m % 20) from nI_add 1 _]
  | 7, _ => by
    refine ⟨m % 4, ?_, Nat.le_trans (show loL 7 ≤ 0 by decide) (by omega), Nat.le_trans (show m % 4 ≤ 3 by omega) (by decide)⟩
    unfold fL_value
    rw [if_neg (by decide), if_neg (by decide), if_neg (by decide), if_neg (by decide), if_neg (by decide), if_neg (by decide), if_neg (by decide), if_pos (by decide), show nI m - nI m / (4 : Int32) * (4 : Int32) = nI (m % 4) from rm (d := 4) hm (by omega) (by omega)]
  | 8, _ => by
    refine ⟨1 + m % 6, ?_, Nat.le_trans (show loL 8 ≤ 1 by decide) (by omega), Nat.le_trans (show 1 + m % 6 ≤ 6 by omega) (by decide)⟩
    unfold fL_value
    rw [if_neg (by decide), if_neg (by decide), if_neg (by decide), if_neg (by decide), if_neg (by decide), if_neg (by decide), if_neg (by decide), if_neg (by decide), if_pos (by decide), show nI m - nI m / (6 : Int32) * (6 : Int32) = nI (m % 6) from rm (d := 6) hm (by omega) (by omega), show (1 : Int32) + nI (m % 6) = nI (1 + m % 6) from nI_add 1 _]
  | 9, _ => by
    by_cases c : nI m - nI m / (3 : Int32) * (3 : Int32) = 0
    · refine ⟨1 + m % 5, ?_, Nat.le_trans (show loL 9 ≤ 0 by decide) (by omega), Nat.le_trans (show 1 + m % 5 ≤ 5 by omega) (by decide)⟩
      unfold fL_value bfL_value_132
      rw [if_neg (by decide), if_neg (by decide), if_neg (by decide), if_neg (by decide), if_neg (by decide), if_neg (by decide), if_neg (by decide), if_neg (by decide), if_neg (by decide), if_pos (by decide), if_pos c, show nI m - nI m / (5 : Int32) * (5 : Int32) = nI (m % 5) from rm (d := 5) hm (by omega) (by omega), nB_1]
    · refine ⟨0, ?_, Nat.le_trans (show loL 9 ≤ 0 by decide) (by omega), Nat.le_trans (show 0 ≤ 5 by omega) (by decide)⟩
      unfold fL_value bfL_value_132
      rw [if_neg (by decide), if_neg (by decide), if_neg (by decide), if_neg (by decide), if_neg (by decide), if_neg (by decide), if_neg (by decide), if_neg (by decide), if_neg (by decide), if_pos (by decide), if_neg c]
      rfl
  | 10, _ => by
    refine ⟨m % 21, ?_, Nat.le_trans (show loL 10 ≤ 0 by decide) (by omega), Nat.le_trans (show m % 21 ≤ 20 by omega) (by decide)⟩
    unfold fL_value
    rw [if_neg (by decide), if_neg (by decide), if_neg (by decide), if_neg (by decide), if_neg (by decide), if_neg (by decide), if_neg (by decide), if_neg (by decide), if_neg (by decide), if_neg (by decide), if_pos (by decide), show nI m - nI m / (21 : Int32) * (21 : Int32) = nI (m % 21) from rm (d := 21) hm (by omega) (by omega)]
  | 11, _ => by
    refine ⟨m % 11, ?_, Nat.le_trans (show loL 11 ≤ 0 by decide) (by omega), Nat.le_trans (show m % 11 ≤ 10 by omega) (by decide)⟩
    unfold fL_value
    rw [if_neg (by decide), if_neg (by decide), if_neg (by decide), if_neg (by decide), if_neg (by decide), if_neg (by decide), if_neg (by decide), if_neg (by decide), if_neg (by decide), if_neg (by decide), if_neg (by decide), show nI m - nI m / (11 : Int32) * (11 : Int32) = nI (m % 11) from rm (d := 11) hm (by omega) (by omega)]
  | w + 12, h => absurd h (by omega)
def setS (S : StS) (c w x : Nat) : StS := if nI w = (10 : Int32) then sput 1 (sput 0 S (nI c) (nI w) (nI x)) (nI c) (7 : Int32) (nI (10 * x)) else sput 0 S (nI c) (nI w) (nI x)
theorem set_val {X : RS} {m c w x : Nat} (hm : m ≤ 4) (h : X.2.2 = nI m) (hc : c < 6) (hw : w < 12) (x1 : loL w ≤ x) (x2 : x ≤ hiL w) : ∃ X', fX5_set (nI c) (nI w) (nI x) X = some (sget 0 (X.2.1 0) (nI c) (nI w), X') ∧ X'.2.1 0 = setS (X.2.1 0) c w x := by
  obtain ⟨X1, m1, a1, a2, -⟩ := keep_form hm h
  obtain ⟨l1, l2⟩ := lohi w hw
  have ho : okI (nI w) 12 := okI_nI hw (by omega)
  have hcl : (nI w).toNatClampNeg = w := nI_clamp (by omega)
  have tlo : tabI leastL (nI w).toNatClampNeg = nI (loL w) := by rw [hcl]; exact tabI_lo w hw
  have thi : tabI mostL (nI w).toNatClampNeg = nI (hiL w) := by rw [hcl]; exact tabI_hi w hw
  have L : ¬ nI x < tabI leastL (nI w).toNatClampNeg := by rw [tlo]; exact nI_nlt x1 (by omega)
  have G : nI x ≤ tabI mostL (nI w).toNatClampNeg := by rw [thi]; exact nI_le x2 (by omega)
  have eX : fX5_set (nI c) (nI w) (nI x) X = if nI w = (10 : Int32) then some (sget 0 (X.2.1 0) (nI c) (nI w), rset X1 0 (sput 1 (sput 0 (X.2.1 0) (nI c) (nI w) (nI x)) (nI c) (7 : Int32) (nI (10 * x)))) else some (sget 0 (X.2.1 0) (nI c) (nI w), rset X1 0 (sput 0 (X.2.1 0) (nI c) (nI w) (nI x))) := by
    unfold fX5_set bfX5_set_91
    rw [(isC c hc).1, ob_eq, if_neg (by decide), if_neg (nI_pos (by omega)), if_neg (show ¬ (12 : Int32) ≤ nI w from nI_ge (b := 12) hw (by omega)), if_pos ho, if_neg L, if_pos ho, if_pos G, a1, ob_eq, nm, nm, rs_s, nm, rs_2, nM_10, a2]
  unfold setS
  by_cases e : nI w = (10 : Int32)
  · rw [if_pos e] at eX
    rw [if_pos e]
    exact ⟨_, eX, rs_s⟩
  · rw [if_neg e] at eX
    rw [if_neg e]
    exact ⟨_, eX, rs_s⟩
theorem Iv.sizes {n : Nat} {sv : N1} {X : RS} (hn : n < 512) (h : Iv n sv X) : ((X.2.1 0).1 0).1 = 6 ∧ ((X.2.1 0).1 1).1 = 6 ∧ ((X.2.1 0).1 2).1 = 6 ∧ ((X.2.1 0).1 3).1 = 4 ∧ ((X.2.1 0).1 4).1 = 3 ∧ ((X.2.1 0).1 7).1 = 4 ∧ ((X.2.1 0).1 9).1 = 4 := by
  obtain ⟨⟨M, hr⟩, hv, w0, hx⟩ := h
  obtain ⟨F, t0, K, cl, sg, sv', sw, nr, r, N, nq, nb, qs, ws, fb, gb, at_, ow, hg, hK, ht, hN⟩ := hr.rg hn
  obtain ⟨hC, hS, hV, hW, hH⟩ := hg.1
  obtain ⟨hA, hQ, hF, hB, hG, hU⟩ := hg.2.2.2.2.1
  exact ⟨hC.1, hx.1.2.1, hS.1, hV.1, hW.1, hF.1, hG.1⟩
/-- the same tables but the first five, the same values but the discipline -/
def Sm (S S' : StS) : Prop := (∀ k, 5 ≤ k → S'.1 k = S.1 k) ∧ ∀ k, k ≠ 11 → S'.2 k = S.2 k
/-- before any tick -/
def J (n : Nat) (sv sw : N1) (d : Nat) (X : RS) : Prop := Iv n sv X ∧ (X.2.1 0).2 11 = nI d ∧ (∀ i, i < 3 → ((X.2.1 0).1 4).2 i 0 = nI (sw i)) ∧ (X.2.1 0).2 12 = 0 ∧ (∀ w, w < 4 → ((X.2.1 0).1 7).2 w 0 = -9 ∧ ((X.2.1 0).1 9).2 w 0 = -9) ∧ ((X.2.1 0).1 6).1 = 0 ∧ ((X.2.1 0).1 8).1 = 0
theorem J.rec {n : Nat} {sv sw : N1} {d : Nat} {X : RS} (h : J n sv sw d X) : ∃ m, m ≤ 4 ∧ X.2.2 = nI m := h.1.rec
theorem Sm.fr {S S' : StS} (e : Sm S S') (h : S.2 12 = 0 ∧ (∀ w, w < 4 → (S.1 7).2 w 0 = -9 ∧ (S.1 9).2 w 0 = -9) ∧ (S.1 6).1 = 0 ∧ (S.1 8).1 = 0) : S'.2 12 = 0 ∧ (∀ w, w < 4 → (S'.1 7).2 w 0 = -9 ∧ (S'.1 9).2 w 0 = -9) ∧ (S'.1 6).1 = 0 ∧ (S'.1 8).1 = 0 := by
  rw [e.2 12 (by omega), e.1 7 (by omega), e.1 9 (by omega), e.1 6 (by omega), e.1 8 (by omega)]
  exact h
theorem Sm.ex {sv sv' : N1} {w0 : Int32} {S S' : StS} (e : Sm S S') (h : EX sv o0 o0 w0 S) (fr : ∀ w, w < 4 → (S.1 7).2 w 0 = -9 ∧ (S.1 9).2 w 0 = -9) (h1 : (S'.1 1).1 = 6) (hE : ∀ c, c < 6 → EC (S.1 0) (S.1 5) (S.1 1) 0 0 c → EC (S'.1 0) (S.1 5) (S'.1 1) 0 0 c) : EX sv' o0 o0 w0 S' := by
  obtain ⟨⟨a1, a2, a3, a4⟩, a5, a6, a7⟩ := h
  have e5 := e.1 5 (by omega)
  refine ⟨⟨by rw [e5]; exact a1, h1, fun c hc => ?_, by rw [e5]; exact a4⟩, ?_, fun w hw _ => ?_, fun w hw _ => ?_⟩
  · rw [e5]
    exact hE c hc (a3 c hc)
  · rw [e.2 15 (by omega), e.2 16 (by omega), e.1 7 (by omega)]
    exact a5
  · rw [e.1 7 (by omega)]
    exact (fr w hw).1
  · rw [e.1 9 (by omega)]
    exact (fr w hw).2
theorem setS_sm {S : StS} {c w x : Nat} (h0 : (S.1 0).1 = 6) (h1 : (S.1 1).1 = 6) (hc : c < 6) (hw : w < 12) : Sm S (setS S c w x) ∧ (∀ k, 2 ≤ k → (setS S c w x).1 k = S.1 k) ∧ (setS S c w x).2 = S.2 ∧ (setS S c w x).1 0 = (6, fup (S.1 0).2 c w (nI x)) ∧ (setS S c w x).1 1 = if w = 10 then (6, fup (S.1 1).2 c 7 (nI (10 * x))) else S.1 1 := by
  have p0 : sput 0 S (nI c) (nI w) (nI x) = sset S 0 (6, fup (S.1 0).2 c w (nI x)) := by
    show sset S 0 (tput 12 6 (S.1 0) (nI c) (nI w) (nI x)) = _
    rw [tp (by omega) hc hw (by omega) (by omega), h0]
  have main : (∀ k, 2 ≤ k → (setS S c w x).1 k = S.1 k) ∧ (setS S c w x).2 = S.2 ∧ (setS S c w x).1 0 = (6, fup (S.1 0).2 c w (nI x)) ∧ (setS S c w x).1 1 = if w = 10 then (6, fup (S.1 1).2 c 7 (nI (10 * x))) else S.1 1 := by
    unfold setS
    by_cases e : w = 10
    · subst e
      have p1 : sput 1 (sput 0 S (nI c) (nI 10) (nI x)) (nI c) (7 : Int32) (nI (10 * x)) = sset (sset S 0 (6, fup (S.1 0).2 c 10 (nI x))) 1 (6, fup (S.1 1).2 c 7 (nI (10 * x))) := by
        rw [p0]
        show sset (sset S 0 (6, fup (S.1 0).2 c 10 (nI x))) 1 (tput 14 6 ((sset S 0 (6, fup (S.1 0).2 c 10 (nI x))).1 1) (nI c) (nI 7) (nI (10 * x))) = _
        rw [ss_n (show 1 ≠ 0 by omega), tp (by omega) hc (by omega) (by omega) (by omega), h1]
      rw [if_pos (show nI 10 = (10 : Int32) from rfl), p1, if_pos rfl]
      exact ⟨fun k hk => (ss_n (by omega)).trans (ss_n (by omega)), rfl, (ss_n (by omega)).trans ss_s, ss_s⟩
    · rw [if_neg (show ¬ nI w = (10 : Int32) from fun z => e ((nI_eq (a := w) (b := 10) (by omega) (by omega)).mp z)), p0, if_neg e]
      exact ⟨fun k hk => ss_n (by omega), rfl, ss_s, ss_n (by omega)⟩
  exact ⟨⟨fun k hk => main.1 k (by omega), fun k _ => by rw [main.2.1]⟩, main⟩
theorem J.set {n : Nat} {sv sw : N1} {d : Nat} {X : RS} (hn : n < 512) (h : J n sv sw d X) {c w x : Nat} (hc : c < 6) (hw : w < 12) (x1 : loL w ≤ x) (x2 : x ≤ hiL w) : ∃ X', fX5_set (nI c) (nI w) (nI x) X = some (sget 0 (X.2.1 0) (nI c) (nI w), X') ∧ X'.2.1 0 = setS (X.2.1 0) c w x ∧ J (n + 1) sv sw d X' ∧ sget 0 (X'.2.1 0) (nI c) (nI w) = nI x := by
  obtain ⟨m, m1, m2⟩ := h.rec
  obtain ⟨X', y1, y2⟩ := set_val m1 m2 hc hw x1 x2
  obtain ⟨hI, h11, h4, hfr⟩ := h
  obtain ⟨z0, z1, z2, z3, z4, z7, z9⟩ := hI.sizes hn
  obtain ⟨s1, s2, s3, s4, s5⟩ := setS_sm (x := x) z0 z1 hc hw
  obtain ⟨⟨M, hr⟩, hv, w0, hx⟩ := hI
  obtain ⟨q, r, q1, q2, q3, q4⟩ := set_rel n X M hn hr (nI c) (nI w) (nI x)
  obtain rfl : q = (sget 0 (X.2.1 0) (nI c) (nI w), X') := Option.some.inj (q1.symm.trans y1)
  refine ⟨X', y1, y2, ⟨⟨⟨_, q4⟩, ?_, w0, ?_⟩, ?_⟩, ?_⟩
  · rw [y2, s2 3 (by omega)]
    exact hv
  · rw [y2]
    refine s1.ex hx hfr.2.1 ?_ (fun c' hc' hE => ?_)
    · rw [s5]
      by_cases e : w = 10
      · rw [if_pos e]
      · rw [if_neg e]
        exact z1
    · obtain ⟨t, t1, t2, t3, t4, t5, b, b1, b2, b3⟩ := hE
      rw [s4, s5]
      by_cases e : w = 10
      · subst e
        rw [if_pos rfl]
        by_cases e2 : c' = c
        · subst e2
          refine ⟨fun j => if j = 7 then 10 * x else t j, fun j hj => ?_, t2, t3, t4, t5, x, fup_s rfl rfl, x2, Nat.le_of_eq (if_pos rfl)⟩
          show fup ((X.2.1 0).1 1).2 c' 7 (nI (10 * x)) c' j = nI (if j = 7 then 10 * x else t j)
          by_cases e3 : j = 7
          · rw [if_pos e3, fup_s rfl e3]
          · rw [if_neg e3, fup_c e3]
            exact t1 j hj
        · refine ⟨t, fun j hj => ?_, t2, t3, t4, t5, b, (fup_r e2).trans b1, b2, b3⟩
          show fup ((X.2.1 0).1 1).2 c 7 (nI (10 * x)) c' j = _
          rw [fup_r e2]
          exact t1 j hj
      · rw [if_neg e]
        exact ⟨t, t1, t2, t3, t4, t5, b, (fup_c (fun z => e z.symm)).trans b1, b2, b3⟩
  · rw [y2, s2 4 (by omega), s3]
    refine ⟨h11, h4, ?_⟩
    have := s1.fr hfr
    rw [s3] at this
    exact this
  · rw [y2]
    show tget 12 6 ((setS (X.2.1 0) c w x).1 0) (nI c) (nI w) = _
    rw [s4, tg (by show c < 6; omega) hc hw (by omega) (by omega)]
    exact fup_s rfl rfl
theorem frk_z : ∀ k w, frk (fun _ => 0) k w = 1
  | 0, _ => rfl
  | k + 1, w => (frk_p rfl).trans (frk_z k (w + 1))
theorem J.free {n : Nat} {sv sw : N1} {d : Nat} {X : RS} (hn : n < 512) (h : J n sv sw d X) {i v : Nat} (hi : i < 4) (v2 : v ≤ mxS i) : fX5_isInUseBeyond (nI i) (nI v) X = some 0 := by
  obtain ⟨hI, h11, h4, h12, hf, h6, h8⟩ := h
  obtain ⟨z0, z1, z2, z3, z4, z7, z9⟩ := hI.sizes hn
  have g7 : ∀ w, w < 4 → sget 7 (X.2.1 0) (nI w) (0 : Int32) = -9 := fun w hw => (sg7 z7 hw (c := 0) (by omega)).trans (hf w hw).1
  have g9 : ∀ w, w < 4 → sget 9 (X.2.1 0) (nI w) (0 : Int32) = -9 := fun w hw => (sg9 z9 hw).trans (hf w hw).2
  have zs : ∀ {T : Tb} {r : Nat}, T.1 = 0 → nI (tz r T) = 0 := fun {T r} hT => by
    unfold tz
    rw [hT, Nat.zero_min]
    rfl
  unfold fX5_isInUseBeyond
  match i, hi, v2 with
  | 0, _, v2 =>
    have v4 : v ≤ 4 := v2
    rw [if_pos (by decide), show fX5_isAnyTakenFrom_7 (nI v) X = _ from any7 (tk := fun _ => 0) (fun w hw => ⟨fun _ => g7 w hw, fun y => absurd rfl y⟩) (nI v) (4 - v) v FU (by omega) (by unfold FU; omega), frk_z, ob_eq, if_pos rfl, if_pos (Or.inl rfl)]
  | 1, _, v2 =>
    have v4 : v ≤ 16 := v2
    unfold bfX5_isInUseBeyond_59
    rw [if_neg (by decide), if_pos (by decide), show ssize 6 (X.2.1 0) = 0 from zs h6, if_pos (show (0 : Int32) ≤ nI v from nI_le (a := 0) (by omega) (by omega)), if_pos (Or.inl rfl)]
  | 2, _, v2 =>
    have v4 : v ≤ 4 := v2
    rw [if_neg (by decide), if_neg (by decide), if_pos (by decide), show fX5_isAnyTakenFrom_9 (nI v) X = _ from any9 (tk := fun _ => 0) (fun w hw => ⟨fun _ => g9 w hw, fun y => absurd rfl y⟩) (nI v) (4 - v) v FU (by omega) (by unfold FU; omega), frk_z, ob_eq, if_pos rfl, if_pos (Or.inl rfl)]
  | 3, _, v2 =>
    have v4 : v ≤ 16 := v2
    unfold bfX5_isInUseBeyond_91
    rw [if_neg (by decide), if_neg (by decide), if_neg (by decide), show ssize 8 (X.2.1 0) = 0 from zs h8, if_pos (show (0 : Int32) ≤ nI v from nI_le (a := 0) (by omega) (by omega)), if_pos (Or.inl rfl)]
  | i + 4, hi, _ => exact absurd hi (by omega)
theorem mxS_16 : ∀ i, i < 4 → mxS i ≤ 16 := by decide
theorem most_ok : ∀ i, i < 4 → fX5_mostOfServer (nI i) = some (nI (mxS i))
  | 0, _ => by unfold fX5_mostOfServer bfX5_mostOfServer_9 bfX5_mostOfServer_15; rw [if_pos (by decide)]; rfl
  | 1, _ => by unfold fX5_mostOfServer bfX5_mostOfServer_9 bfX5_mostOfServer_15; rw [if_neg (by decide), if_neg (by decide)]; rfl
  | 2, _ => by unfold fX5_mostOfServer bfX5_mostOfServer_9 bfX5_mostOfServer_15; rw [if_neg (by decide), if_pos (by decide)]; rfl
  | 3, _ => by unfold fX5_mostOfServer bfX5_mostOfServer_9 bfX5_mostOfServer_15; rw [if_neg (by decide), if_neg (by decide)]; rfl
  | i + 4, h => absurd h (by omega)
theorem J.server {n : Nat} {sv sw : N1} {d : Nat} {X : RS} (hn : n < 512) (h : J n sv sw d X) {i v : Nat} (hi : i < 4) (v1 : 1 ≤ v) (v2 : v ≤ mxS i) : ∃ X', fX5_setServer (nI i) (nI v) X = some (nI (sv i), X') ∧ X'.2.1 0 = sput 3 (X.2.1 0) (nI i) (0 : Int32) (nI v) ∧ J (n + 1) (fun j => if j = i then v else sv j) sw d X' := by
  have hfree := h.free hn hi v2
  have hmx := mxS_16 i hi
  obtain ⟨m, m1, m2⟩ := h.rec
  obtain ⟨X1, n1, a1, a2, a3, -⟩ := keep_form m1 m2
  obtain ⟨hI, h11, h4, hfr⟩ := h
  obtain ⟨z0, z1, z2, z3, z4, z7, z9⟩ := hI.sizes hn
  obtain ⟨⟨M, hr⟩, hv, w0, hx⟩ := hI
  have eg : sget 3 (X.2.1 0) (nI i) (0 : Int32) = nI (sv i) := (tg (w := 1) (rows := 4) (T := (X.2.1 0).1 3) (j := 0) (by omega) hi (by omega) (by omega) (by omega)).trans (hv i hi).1
  have ep : sput 3 (X.2.1 0) (nI i) (0 : Int32) (nI v) = sset (X.2.1 0) 3 (4, fup ((X.2.1 0).1 3).2 i 0 (nI v)) := by
    show sset (X.2.1 0) 3 (tput 1 4 ((X.2.1 0).1 3) (nI i) (nI 0) (nI v)) = _
    rw [tp (by omega) hi (by omega) (by omega) (by omega), z3]
  have y1 : fX5_setServer (nI i) (nI v) X = some (nI (sv i), rset X1 0 (sput 3 (X.2.1 0) (nI i) (0 : Int32) (nI v))) := by
    unfold fX5_setServer
    rw [if_neg (nI_pos (by omega)), if_neg (show ¬ (4 : Int32) ≤ nI i from nI_ge (b := 4) hi (by omega)), if_neg (show ¬ nI v < (1 : Int32) from nI_nlt (b := 1) v1 (by omega)), most_ok i hi, ob_eq, if_pos (nI_le v2 (by omega)), hfree, ob_eq, if_pos rfl, a1, ob_eq, nm, a2, eg, nm]
  obtain ⟨q, r, q1, q2, q3, q4⟩ := setServer_rel n X M hn hr (nI i) (nI v)
  obtain rfl := Option.some.inj (q1.symm.trans y1)
  have y2 : (rset X1 0 (sput 3 (X.2.1 0) (nI i) (0 : Int32) (nI v))).2.1 0 = _ := rs_s
  have s1 : Sm (X.2.1 0) (sset (X.2.1 0) 3 (4, fup ((X.2.1 0).1 3).2 i 0 (nI v))) := ⟨fun k hk => ss_n (by omega), fun _ _ => rfl⟩
  refine ⟨_, y1, y2, ⟨⟨_, q4⟩, fun j hj => ?_, w0, ?_⟩, ?_⟩
  · rw [y2, ep, ss_s]
    show fup ((X.2.1 0).1 3).2 i 0 (nI v) j 0 = nI (if j = i then v else sv j) ∧ (if j = i then v else sv j) ≤ 16
    by_cases e : j = i
    · rw [if_pos e, fup_s e rfl]
      exact ⟨rfl, by omega⟩
    · rw [if_neg e, fup_r e]
      exact hv j hj
  · rw [y2, ep]
    refine s1.ex hx hfr.2.1 ?_ (fun c' hc' hE => ?_)
    · rw [ss_n (by omega)]
      exact z1
    · rw [ss_n (by omega), ss_n (by omega)]
      exact hE
  · rw [y2, ep, ss_n (show 4 ≠ 3 by omega)]
    exact ⟨h11, h4, s1.fr hfr⟩
theorem J.disc {n : Nat} {sv sw : N1} {d : Nat} {X : RS} (hn : n < 512) (h : J n sv sw d X) {v : Nat} (v2 : v ≤ 3) : ∃ X', fX5_setDiscipline (nI v) X = some (nI d, X') ∧ X'.2.1 0 = ((X.2.1 0).1, upd (X.2.1 0).2 11 (nI v)) ∧ J (n + 1) sv sw v X' := by
  obtain ⟨hI, h11, h4, hfr⟩ := h
  obtain ⟨X', m1, y1, y2, -, -, -, -, hI'⟩ := hI.disc hn v2
  rw [h11] at y1
  have s1 : Sm (X.2.1 0) ((X.2.1 0).1, upd (X.2.1 0).2 11 (nI v)) := ⟨fun _ _ => rfl, fun k hk => up_n hk⟩
  refine ⟨X', y1, y2, hI', ?_⟩
  rw [y2]
  exact ⟨show upd (X.2.1 0).2 11 (nI v) 11 = nI v from up_s rfl, h4, s1.fr hfr⟩
theorem J.switch {n : Nat} {sv sw : N1} {d : Nat} {X : RS} (hn : n < 512) (h : J n sv sw d X) {i v : Nat} (hi : i < 3) (v1 : v ≤ 1) : ∃ X', fX5_setSwitch (nI i) (nI v) X = some (nI (sw i), X') ∧ X'.2.1 0 = sput 4 (X.2.1 0) (nI i) (0 : Int32) (nI v) ∧ J (n + 1) sv (fun j => if j = i then v else sw j) d X' := by
  obtain ⟨m, m1, m2⟩ := h.rec
  obtain ⟨X1, n1, a1, a2, a3, -⟩ := keep_form m1 m2
  obtain ⟨hI, h11, h4, hfr⟩ := h
  obtain ⟨z0, z1, z2, z3, z4, z7, z9⟩ := hI.sizes hn
  obtain ⟨⟨M, hr⟩, hv, w0, hx⟩ := hI
  have eg : sget 4 (X.2.1 0) (nI i) (0 : Int32) = nI (sw i) := (tg (w := 1) (rows := 3) (T := (X.2.1 0).1 4) (j := 0) (by omega) hi (by omega) (by omega) (by omega)).trans (h4 i hi)
  have ep : sput 4 (X.2.1 0) (nI i) (0 : Int32) (nI v) = sset (X.2.1 0) 4 (3, fup ((X.2.1 0).1 4).2 i 0 (nI v)) := by
    show sset (X.2.1 0) 4 (tput 1 3 ((X.2.1 0).1 4) (nI i) (nI 0) (nI v)) = _
    rw [tp (by omega) hi (by omega) (by omega) (by omega), z4]
  have y1 : fX5_setSwitch (nI i) (nI v) X = some (nI (sw i), rset X1 0 (sput 4 (X.2.1 0) (nI i) (0 : Int32) (nI v))) := by
    unfold fX5_setSwitch bfX5_setSwitch_46
    rw [if_neg (nI_pos (by omega)), if_pos (show nI i < (3 : Int32) from nI_lt (b := 3) hi (by omega)), a1, ob_eq, nm, a2, eg]
    by_cases e : v = 0
    · subst e
      rw [if_pos (show nI 0 = (0 : Int32) from rfl), nm]
      rfl
    · obtain rfl : v = 1 := by omega
      rw [if_neg (show ¬ nI 1 = (0 : Int32) by decide), nm]
      rfl
  obtain ⟨q, r, q1, q2, q3, q4⟩ := setSwitch_rel n X M hn hr (nI i) (nI v) (by
    by_cases e : v = 0
    · subst e
      exact Or.inl rfl
    · obtain rfl : v = 1 := by omega
      exact Or.inr rfl)
  obtain rfl := Option.some.inj (q1.symm.trans y1)
  have y2 : (rset X1 0 (sput 4 (X.2.1 0) (nI i) (0 : Int32) (nI v))).2.1 0 = _ := rs_s
  have s1 : Sm (X.2.1 0) (sset (X.2.1 0) 4 (3, fup ((X.2.1 0).1 4).2 i 0 (nI v))) := ⟨fun k hk => ss_n (by omega), fun _ _ => rfl⟩
  refine ⟨_, y1, y2, ⟨⟨_, q4⟩, ?_, w0, ?_⟩, ?_⟩
  · rw [y2, ep, ss_n (show 3 ≠ 4 by omega)]
    exact hv
  · rw [y2, ep]
    refine s1.ex hx hfr.2.1 ?_ (fun c' hc' hE => ?_)
    · rw [ss_n (by omega)]
      exact z1
    · rw [ss_n (by omega), ss_n (by omega)]
      exact hE
  · rw [y2, ep]
    refine ⟨h11, fun j hj => ?_, s1.fr hfr⟩
    rw [ss_s]
    show fup ((X.2.1 0).1 4).2 i 0 (nI v) j 0 = nI (if j = i then v else sw j)
    by_cases e : j = i
    · rw [if_pos e, fup_s e rfl]
    · rw [if_neg e, fup_r e]
      exact h4 j hj
theorem J.surge {n : Nat} {sv sw : N1} {d : Nat} {X : RS} (hn : n < 512) (h : J n sv sw d X) {c x y : Nat} (hc : c < 6) (x1 : 1 ≤ x) (x2 : x ≤ 4) (y2 : y ≤ 100) : ∃ X', fX5_surge (nI c) (nI x) (nI y) (6 : Int32) X = some (nI y + (6 : Int32), X') ∧ X'.2.1 0 = sput 2 (sput 2 (sput 2 (X.2.1 0) (nI c) (0 : Int32) (nI x)) (nI c) (1 : Int32) (nI y)) (nI c) (2 : Int32) (nI y + (6 : Int32)) ∧ Iv (n + 1) sv X' := by
  obtain ⟨m, m1, m2⟩ := h.rec
  obtain ⟨X1, n1, a1, a2, a3, -⟩ := keep_form m1 m2
  obtain ⟨hI, h11, h4, hfr⟩ := h
  obtain ⟨z0, z1, z2, z3, z4, z7, z9⟩ := hI.sizes hn
  obtain ⟨⟨M, hr⟩, hv, w0, hx⟩ := hI
  have y1 : fX5_surge (nI c) (nI x) (nI y) (6 : Int32) X = some (nI y + (6 : Int32), rset X1 0 (sput 2 (sput 2 (sput 2 (X.2.1 0) (nI c) (0 : Int32) (nI x)) (nI c) (1 : Int32) (nI y)) (nI c) (2 : Int32) (nI y + (6 : Int32)))) := by
    unfold fX5_surge
    rw [(isC c hc).1, ob_eq, if_neg (by decide), if_neg (show ¬ nI x < (1 : Int32) from nI_nlt (b := 1) x1 (by omega)), if_neg (show ¬ (4 : Int32) < nI x from nI_nlt (a := 4) x2 (by omega)), if_neg (nI_pos (by omega)), if_neg (show ¬ (100 : Int32) < nI y from nI_nlt (a := 100) y2 (by omega)), if_neg (by decide), if_pos (by decide), a1, ob_eq, a2, hfr.1, Int32.zero_add, nm, nm, rs_s, rs_2, nm, rs_s, rs_2, nm]
  obtain ⟨q, r, q1, q2, q3, q4⟩ := surge_rel n X M hn hr (nI c) (nI x) (nI y) (6 : Int32)
  obtain rfl := Option.some.inj (q1.symm.trans y1)
  have e2 : (rset X1 0 (sput 2 (sput 2 (sput 2 (X.2.1 0) (nI c) (0 : Int32) (nI x)) (nI c) (1 : Int32) (nI y)) (nI c) (2 : Int32) (nI y + (6 : Int32)))).2.1 0 = _ := rs_s
  have kk : ∀ (S : StS) (a b v : Int32) (k : Nat), k ≠ 2 → (sput 2 S a b v).1 k = S.1 k := fun S a b v k hk => ss_n hk
  have s1 : Sm (X.2.1 0) (sput 2 (sput 2 (sput 2 (X.2.1 0) (nI c) (0 : Int32) (nI x)) (nI c) (1 : Int32) (nI y)) (nI c) (2 : Int32) (nI y + (6 : Int32))) := ⟨fun k hk => by rw [kk _ _ _ _ _ (by omega), kk _ _ _ _ _ (by omega), kk _ _ _ _ _ (by omega)], fun _ _ => rfl⟩
  refine ⟨_, y1, e2, ⟨_, q4⟩, ?_, w0, ?_⟩
  · rw [e2, kk _ _ _ _ _ (by omega), kk _ _ _ _ _ (by omega), kk _ _ _ _ _ (by omega)]
    exact hv
  · rw [e2]
    refine s1.ex hx hfr.2.1 ?_ (fun c' hc' hE => ?_)
    · rw [kk _ _ _ _ _ (by omega), kk _ _ _ _ _ (by omega), kk _ _ _ _ _ (by omega)]
      exact z1
    · rw [kk _ _ _ _ _ (by omega), kk _ _ _ _ _ (by omega), kk _ _ _ _ _ (by omega), kk _ _ _ _ _ (by omega), kk _ _ _ _ _ (by omega), kk _ _ _ _ _ (by omega)]
      exact hE
