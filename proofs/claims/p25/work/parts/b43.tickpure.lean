/-! ticks: it answers 1 -/
theorem i32_n (a b : Int32) : 0 - a + b = b - a := by rw [Int32.zero_sub, Int32.add_comm, Int32.add_neg_eq_sub]
section TP
variable {X X' : RS} {S S' : StS} {p2 p3 x3 x6 x7 x8 : Int32}
theorem tk45 (h1 : ((X.2.1 0).1 1).1 = 6) : ∀ (k c m : Nat), c + k = 6 → k < m → iter (bfL_ticks_45 p2 p3) m (x3, 0 - sumF (fun i => ((X.2.1 0).1 1).2 i 2) c, 0 - sumF (fun i => ((X.2.1 0).1 1).2 i 1) c, x6, x7, nI c, X) = ob (fX5_run (1 : Int32) X) fun u => iter (bfL_ticks_92 p2 p3) FU (x3, 0 - sumF (fun i => ((X.2.1 0).1 1).2 i 2) 6, 0 - sumF (fun i => ((X.2.1 0).1 1).2 i 1) 6, x6, x7, u.1, (0 : Int32), u.2) := by
  intro k
  induction k with
  | zero =>
    intro c m hc hm
    obtain ⟨m, rfl⟩ : ∃ k, m = k + 1 := ⟨m - 1, by omega⟩
    obtain rfl : c = 6 := by omega
    rw [it_s, bfL_ticks_45, if_pos (by decide)]
  | succ k ih =>
    intro c m hc hm
    obtain ⟨m, rfl⟩ : ∃ k, m = k + 1 := ⟨m - 1, by omega⟩
    rw [it_s]
    refine Eq.trans ?_ (ih (c + 1) m (by omega) (by omega))
    rw [bfL_ticks_45, if_neg (fun z => by have := (len_6 (by omega)).mp z; omega), show fX5_count (nI c) (2 : Int32) X = _ from cnt_X (w := 2) h1 (by omega) (by omega), ob_eq, nm, show fX5_count (nI c) (1 : Int32) X = _ from cnt_X (w := 1) h1 (by omega) (by omega), ob_eq, nm, nA_1, Int32.sub_sub, Int32.sub_sub]
    rfl
theorem tk92 (h1 : ((X.2.1 0).1 1).1 = 6) {a b : Int32} : ∀ (k c m : Nat), c + k = 6 → k < m → iter (bfL_ticks_92 p2 p3) m (x3, a + sumF (fun i => ((X.2.1 0).1 1).2 i 2) c, b + sumF (fun i => ((X.2.1 0).1 1).2 i 1) c, x6, x7, x8, nI c, X) = bfL_ticks_92 p2 p3 (fun _ => none) (x3, a + sumF (fun i => ((X.2.1 0).1 1).2 i 2) 6, b + sumF (fun i => ((X.2.1 0).1 1).2 i 1) 6, x6, x7, x8, nI 6, X) := by
  intro k
  induction k with
  | zero =>
    intro c m hc hm
    obtain ⟨m, rfl⟩ : ∃ k, m = k + 1 := ⟨m - 1, by omega⟩
    obtain rfl : c = 6 := by omega
    rw [it_s, bfL_ticks_92, bfL_ticks_92, if_pos (by decide), if_pos (by decide)]
  | succ k ih =>
    intro c m hc hm
    obtain ⟨m, rfl⟩ : ∃ k, m = k + 1 := ⟨m - 1, by omega⟩
    rw [it_s]
    refine Eq.trans ?_ (ih (c + 1) m (by omega) (by omega))
    rw [bfL_ticks_92, if_neg (fun z => by have := (len_6 (by omega)).mp z; omega), show fX5_count (nI c) (2 : Int32) X = _ from cnt_X (w := 2) h1 (by omega) (by omega), ob_eq, nm, show fX5_count (nI c) (1 : Int32) X = _ from cnt_X (w := 1) h1 (by omega) (by omega), ob_eq, nm, nA_1, Int32.add_assoc, Int32.add_assoc]
    rfl
/-- the window of the latest tick -/
theorem win_1 {t j : Nat} {T : Tb} (h10 : (X.2.1 0).1 10 = T) (hT : T.1 = 64) (h12 : (X.2.1 0).2 12 = nI (t + 1)) (ht : t < 2 ^ 28) (hj : j < 4) : fX5_window (nI j) (1 : Int32) X = some (T.2 (t % 64) j) := by
  have hm : t % 64 < 64 := Nat.mod_lt _ (by decide)
  have ho : fX2_ofTick (nI t) (nI j) (X.2.1 0) = some (T.2 (t % 64) j) := by
    unfold fX2_ofTick
    rw [fm64 (by omega), ob_eq, show sget 10 (X.2.1 0) (nI (t % 64)) (nI j) = ((X.2.1 0).1 10).2 (t % 64) j from tg (w := 4) (rows := 64) (by rw [h10, hT]; exact hm) hm hj (by omega) (by omega), h10]
  unfold fX5_window
  rw [if_neg (nI_pos (by omega)), if_neg (fun z => by have := (len_4 (by omega)).mp z; omega), if_neg (by decide), if_pos (by decide), h12, if_pos (show (1 : Int32) ≤ nI (t + 1) from nI_le (a := 1) (by omega) (by omega)), show FU = 998 + 1 + 1 from rfl, it_s, bfX5_window_41, if_neg (by decide), h12, show nI (t + 1) - (1 : Int32) = nI t from pk_sub (b := 1) (by omega), ho, ob_eq, nm, it_s, bfX5_window_41, if_pos (by decide), Int32.zero_add]
theorem ticks_1 {n : Nat} {sv : N1} (hn : n < 511) (h : Iv n sv X) : ∃ X', fL_ticks (nI (sv 0)) (nI (sv 2)) X = some (1, X') ∧ fX4_pass (X.2.1 0) = some (X'.2.1 0) ∧ Iv (n + 1) sv X' ∧ fX5_window (1 : Int32) (1 : Int32) X' = some (ssum 1 (X'.2.1 0) 2 - ssum 1 (X.2.1 0) 2) := by
  obtain ⟨X', y1, y2, ⟨g1, t, S9, g2, g3, g4, g5, g6⟩, hI⟩ := h.run1 (by omega)
  obtain ⟨⟨M, hr⟩, hv, w0, hx⟩ := h
  obtain ⟨⟨M', hr'⟩, hv', w0', hx'⟩ := hI
  refine ⟨X', ?_, y2, ⟨⟨M', hr'⟩, hv', w0', hx'⟩, ?_⟩
  rotate_left
  · have := win_1 (X := X') (j := 1) (by rw [g3]; exact (ss_s (S := S9))) (by exact g4) (by rw [g3]; show upd S9.2 17 _ 12 = _; rw [up_n (by omega)]; exact g5) g6 (by omega)
    rw [show fX5_window (1 : Int32) (1 : Int32) X' = _ from this]
    refine congrArg some ?_
    show fup (fup (fup (fup (S9.1 10).2 (t % 64) 0 _) (t % 64) 1 _) (t % 64) 2 _) (t % 64) 3 _ (t % 64) 1 = _
    rw [fup_c (by decide), fup_c (by decide), fup_s rfl rfl]
    have : ssum 1 (X'.2.1 0) 2 = ssum 1 S9 2 := by
      rw [g3]
      exact ssum_10 (S := S9) (c := 2)
    rw [this]
  obtain ⟨F, t0, K, cl, sg, svr, sw, nr, r, N, nq, nb, qs, ws, fb, gb, at_, ow, hg, hK, ht, hN⟩ := hr.rg (by omega)
  obtain ⟨F', t0', K', cl', sg', svr', sw', nr', r', N', nq', nb', qs', ws', fb', gb', at', ow', hg', hK', ht', hN'⟩ := hr'.rg (by omega)
  have n6 := hg.n16.2
  have n6' := hg'.n16.2
  have h7 := hg.2.2.2.2.1.2.2.1.1
  have h7' := hg'.2.2.2.2.1.2.2.1.1
  obtain ⟨j, j1, j2⟩ := g1 w0 o0 hx
  have hsv0 := (hv 0 (by omega)).2
  have hsv2 := (hv 2 (by omega)).2
  obtain ⟨c1, c2, c3, c4⟩ := oc_sv (sv' := sv) hg' hN' hx'.2.2.1 hx'.2.2.2
  have cle := oc_le hg'
  have eq6 : ssize 6 (X'.2.1 0) = ssize 6 S9 := by
    rw [g3]
    exact ssize_10 (S := S9)
  have es : ∀ c, ssum 1 (X'.2.1 0) c = ssum 1 S9 c := fun c => by
    rw [g3]
    exact ssum_10 (S := S9)
  have e17 : (X'.2.1 0).2 17 = if S9.2 17 < ssize 6 S9 then ssize 6 S9 else S9.2 17 := by
    rw [g3]
    exact up_s rfl
  have e16 : (X'.2.1 0).2 16 = S9.2 16 := by
    rw [g3]
    exact up_n (by omega)
  have e12 : (X'.2.1 0).2 12 = nI (t + 1) := by
    rw [g3]
    exact (up_n (by omega)).trans g5
  have e10 : (X'.2.1 0).1 10 = thist (S9.1 10) (t % 64) (ssize 6 S9) (ssum 1 S9 2 - ssum 1 (X.2.1 0) 2) (ssum 1 S9 1 - ssum 1 (X.2.1 0) 1) (S9.2 16 - (X.2.1 0).2 16) := by
    rw [g3]
    exact ss_s (S := S9)
  have ew : ∀ i, i < 4 → fX5_window (nI i) (1 : Int32) X' = some ((thist (S9.1 10) (t % 64) (ssize 6 S9) (ssum 1 S9 2 - ssum 1 (X.2.1 0) 2) (ssum 1 S9 1 - ssum 1 (X.2.1 0) 1) (S9.2 16 - (X.2.1 0).2 16)).2 (t % 64) i) := fun i hi => win_1 (X := X') (j := i) e10 g4 e12 g6 hi
  have ew0 : fX5_window (0 : Int32) (1 : Int32) X' = some (ssize 6 S9) := (ew 0 (by omega)).trans (congrArg some (by
    show fup (fup (fup (fup (S9.1 10).2 (t % 64) 0 _) (t % 64) 1 _) (t % 64) 2 _) (t % 64) 3 _ (t % 64) 0 = _
    rw [fup_c (by decide), fup_c (by decide), fup_c (by decide), fup_s rfl rfl]))
  have ew1 : fX5_window (1 : Int32) (1 : Int32) X' = some (ssum 1 S9 2 - ssum 1 (X.2.1 0) 2) := (ew 1 (by omega)).trans (congrArg some (by
    show fup (fup (fup (fup (S9.1 10).2 (t % 64) 0 _) (t % 64) 1 _) (t % 64) 2 _) (t % 64) 3 _ (t % 64) 1 = _
    rw [fup_c (by decide), fup_c (by decide), fup_s rfl rfl]))
  have ew2 : fX5_window (2 : Int32) (1 : Int32) X' = some (ssum 1 S9 1 - ssum 1 (X.2.1 0) 1) := (ew 2 (by omega)).trans (congrArg some (by
    show fup (fup (fup (fup (S9.1 10).2 (t % 64) 0 _) (t % 64) 1 _) (t % 64) 2 _) (t % 64) 3 _ (t % 64) 2 = _
    rw [fup_c (by decide), fup_s rfl rfl]))
  have ew3 : fX5_window (3 : Int32) (1 : Int32) X' = some (S9.2 16 - (X.2.1 0).2 16) := (ew 3 (by omega)).trans (congrArg some (by
    show fup (fup (fup (fup (S9.1 10).2 (t % 64) 0 _) (t % 64) 1 _) (t % 64) 2 _) (t % 64) 3 _ (t % 64) 3 = _
    rw [fup_s rfl rfl]))
  have a2 : ssum 1 (X.2.1 0) 2 = sumF (fun i => ((X.2.1 0).1 1).2 i 2) 6 := ssum_eq (c := 2) n6 (by omega)
  have a1 : ssum 1 (X.2.1 0) 1 = sumF (fun i => ((X.2.1 0).1 1).2 i 1) 6 := ssum_eq (c := 1) n6 (by omega)
  have b2' : ssum 1 (X'.2.1 0) 2 = sumF (fun i => ((X'.2.1 0).1 1).2 i 2) 6 := ssum_eq (c := 2) n6' (by omega)
  have b1' : ssum 1 (X'.2.1 0) 1 = sumF (fun i => ((X'.2.1 0).1 1).2 i 1) 6 := ssum_eq (c := 1) n6' (by omega)
  have hl : ¬ (X'.2.1 0).2 17 < ssize 6 S9 := by
    rw [e17]
    by_cases c : S9.2 17 < ssize 6 S9
    · rw [if_pos c]
      exact Int32.lt_irrefl
    · rw [if_neg c]
      exact c
  have hfin : iter (bfL_ticks_92 (nI (sv 0)) (nI (sv 2))) FU ((X.2.1 0).2 15 + (X.2.1 0).2 16 + pnd ((X.2.1 0).1 7), 0 - sumF (fun i => ((X.2.1 0).1 1).2 i 2) 6, 0 - sumF (fun i => ((X.2.1 0).1 1).2 i 1) 6, (X.2.1 0).2 16, (X.2.1 0).2 12, ssum 1 (X'.2.1 0) 2 - ssum 1 (X.2.1 0) 2, (0 : Int32), X') = some (1, X') := by
    have := tk92 (X := X') (p2 := nI (sv 0)) (p3 := nI (sv 2)) (x3 := (X.2.1 0).2 15 + (X.2.1 0).2 16 + pnd ((X.2.1 0).1 7)) (x6 := (X.2.1 0).2 16) (x7 := (X.2.1 0).2 12) (x8 := ssum 1 (X'.2.1 0) 2 - ssum 1 (X.2.1 0) 2) n6' (a := 0 - sumF (fun i => ((X.2.1 0).1 1).2 i 2) 6) (b := 0 - sumF (fun i => ((X.2.1 0).1 1).2 i 1) 6) 6 0 FU (by omega) (by unfold FU; omega)
    rw [show ∀ (f : Nat → Int32) (a : Int32), a + sumF f 0 = a from fun f a => Int32.add_zero a, show ∀ (f : Nat → Int32) (a : Int32), a + sumF f 0 = a from fun f a => Int32.add_zero a] at this
    refine Eq.trans this ?_
    rw [i32_n, i32_n, ← a2, ← a1, ← b2', ← b1', bfL_ticks_92, if_pos (by decide), told_7, ob_eq, told_8, ob_eq, told_9 h7', ob_eq, nm]
    have ev : (X'.2.1 0).2 15 + (X'.2.1 0).2 16 + pnd ((X'.2.1 0).1 7) - ((X.2.1 0).2 15 + (X.2.1 0).2 16 + pnd ((X.2.1 0).1 7)) = nI j := i32_sub (by rw [hx.2.1]; exact j2.2.1)
    rw [ev, if_pos rfl, if_neg (nI_pos (by omega)), nI_add, if_neg (nI_nlt (by omega) (by omega)), told_0, ob_eq, e12, g2, nA_1, if_pos rfl, told_5w hg' hN', ob_eq, if_neg (nI_nlt c1 (by omega)), told_6w hg', ob_eq, if_neg (nI_nlt c2 (by omega)), ob_eq, ob_eq, if_neg (nI_nlt cle (by omega)), told_10, ob_eq, told_3, ob_eq, eq6, if_neg hl]
    unfold bfL_ticks_237 bfL_ticks_303
    rw [if_neg (by decide), ew0, ob_eq, told_3, ob_eq, eq6, if_pos rfl, ew1, ob_eq, es, if_pos rfl, ew2, ob_eq, es, if_pos rfl, ew3, ob_eq, ob_eq, e16, if_pos rfl, if_pos (Or.inr rfl)]
  unfold fL_ticks
  rw [told_7, ob_eq, told_8, ob_eq, told_9 h7, ob_eq, nm, ob_eq, told_0, ob_eq]
  have := tk45 (X := X) (p2 := nI (sv 0)) (p3 := nI (sv 2)) (x3 := (X.2.1 0).2 15 + (X.2.1 0).2 16 + pnd ((X.2.1 0).1 7)) (x6 := (X.2.1 0).2 16) (x7 := (X.2.1 0).2 12) n6 6 0 FU (by omega) (by unfold FU; omega)
  refine Eq.trans this ?_
  rw [y1, ob_eq]
  exact hfin
end TP
