/-! ticks: it answers 1 -/
theorem i32_n (a b : Int32) : 0 - a + b = b - a := by rw [Int32.zero_sub, Int32.add_comm, Int32.add_neg_eq_sub]
section TP
variable {X X' : RS} {S S' : StS} {p2 p3 x3 x6 x7 x8 : Int32}
theorem tk45 (h1 : ((X.2.1 0).1 1).1 = 6) : ∀ (k c m : Nat), c + k = 6 → k < m → iter (bfL_ticks_45 p2 p3) m (x3, 0 - sumF (fun i => ((X.2.1 0).1 1).2 i 2) c, 0 - sumF (fun i => ((X.2.1 0).1 1).2 i 1) c, x6, x7, nI c, X) = ob (fX5_run (1 : Int32) X) fun u => iter (bfL_ticks_92 p2 p3) FU (x3, 0 - sumF (fun i => ((X.2.1 0).1 1).2 i 2) 6, 0 - sumF (fun i => ((X.2.1 0).1 1).2 i 1) 6, x6, x7, u.1, (0 : Int32), u.2) := by
  intro k
  induction k with
  | zero =>
    intro c m hc hm
    obtain ⟨m, rfl⟩ : ∃ k, m = k + 1 := ⟨m - 1, by omega⟩
    obtain rfl : c = 6 := by omega
    rw [it_s, bfL_ticks_45, if_pos (by decide)]
  | succ k ih =>
    intro c m hc hm
    obtain ⟨m, rfl⟩ : ∃ k, m = k + 1 := ⟨m - 1, by omega⟩
    rw [it_s]
    refine Eq.trans ?_ (ih (c + 1) m (by omega) (by omega))
    rw [bfL_ticks_45, if_neg (fun z => by have := (len_6 (by omega)).mp z; omega), show fX5_count (nI c) (2 : Int32) X = _ from cnt_X (w := 2) h1 (by omega) (by omega), ob_eq, nm, show fX5_count (nI c) (1 : Int32) X = _ from cnt_X (w := 1) h1 (by omega) (by omega), ob_eq, nm, nA_1, Int32.sub_sub, Int32.sub_sub]
    rfl
theorem tk92 (h1 : ((X.2.1 0).1 1).1 = 6) {a b : Int32} : ∀ (k c m : Nat), c + k = 6 → k < m → iter (bfL_ticks_92 p2 p3) m (x3, a + sumF (fun i => ((X.2.1 0).1 1).2 i 2) c, b + sumF (fun i => ((X.2.1 0).1 1).2 i 1) c, x6, x7, x8, nI c, X) = bfL_ticks_92 p2 p3 (fun _ => none) (x3, a + sumF (fun i => ((X.2.1 0).1 1).2 i 2) 6, b + sumF (fun i => ((X.2.1 0).1 1).2 i 1) 6, x6, x7, x8, nI 6, X) := by
  intro k
  induction k with
  | zero =>
    intro c m hc hm
    obtain ⟨m, rfl⟩ : ∃ k, m = k + 1 := ⟨m - 1, by omega⟩
    obtain rfl : c = 6 := by omega
    rw [it_s, bfL_ticks_92, bfL_ticks_92, if_pos (by decide), if_pos (by decide)]
  | succ k ih =>
    intro c m hc hm
    obtain ⟨m, rfl⟩ : ∃ k, m = k + 1 := ⟨m - 1, by omega⟩
    rw [it_s]
    refine Eq.trans ?_ (ih (c + 1) m (by omega) (by omega))
    rw [bfL_ticks_92, if_neg (fun z => by have := (len_6 (by omega)).mp z; omega), show fX5_count (nI c) (2 : Int32) X = _ from cnt_X (w := 2) h1 (by omega) (by omega), ob_eq, nm, show fX5_count (nI c) (1 : Int32) X = _ from cnt_X (w := 1) h1 (by omega) (by omega), ob_eq, nm, nA_1, Int32.add_assoc, Int32.add_assoc]
    rfl
/-- the window of the latest tick -/
theorem win_1 {t j : Nat} {T : Tb} (h10 : (X.2.1 0).1 10 = T) (hT : T.1 = 64) (h12 : (X.2.1 0).2 12 = nI (t + 1)) (ht : t < 2 ^ 28) (hj : j < 4) : fX5_window (nI j) (1 : Int32) X = some (T.2 (t % 64) j) := by
  have hm : t % 64 < 64 := Nat.mod_lt _ (by decide)
  have ho : fX2_ofTick (nI t) (nI j) (X.2.1 0) = some (T.2 (t % 64) j) := by
    unfold fX2_ofTick
    rw [fm64 (by omega), ob_eq, show sget 10 (X.2.1 0) (nI (t % 64)) (nI j) = ((X.2.1 0).1 10).2 (t % 64) j from tg (w := 4) (rows := 64) (by rw [h10, hT]; exact hm) hm hj (by omega) (by omega), h10]
  unfold fX5_window
  rw [if_neg (nI_pos (by omega)), if_neg (fun z => by have := (len_4 (by omega)).mp z; omega), if_neg (by decide), if_pos (by decide), h12, if_pos (show (1 : Int32) ≤ nI (t + 1) from nI_le (a := 1) (by omega) (by omega)), show FU = 998 + 1 + 1 from rfl, it_s, bfX5_window_41, if_neg (by decide), h12, show nI (t + 1) - (1 : Int32) = nI t from pk_sub (b := 1) (by omega), ho, ob_eq, nm, it_s, bfX5_window_41, if_pos (by decide), Int32.zero_add]
theorem TickX.facts {sv : N1} (h : TickX sv S S') : ∃ t : Nat, S.2 12 = nI t ∧ t < 2 ^ 28 ∧ S'.2 12 = nI (t + 1) ∧ (S'.1 10).1 = 64 ∧ (S'.1 10).2 (t % 64) 0 = ssize 6 S' ∧ (S'.1 10).2 (t % 64) 1 = ssum 1 S' 2 - ssum 1 S 2 ∧ (S'.1 10).2 (t % 64) 2 = ssum 1 S' 1 - ssum 1 S 1 ∧ (S'.1 10).2 (t % 64) 3 = S'.2 16 - S.2 16 ∧ ¬ S'.2 17 < ssize 6 S' := by
  obtain ⟨-, t, S9, g2, g3, g4, g5, g6⟩ := h
  have f1 : ∀ k, k ≠ 10 → S'.1 k = S9.1 k := fun k hk => by
    rw [g3]
    exact t10 hk
  have f10 : S'.1 10 = thist (S9.1 10) (t % 64) (ssize 6 S9) (ssum 1 S9 2 - ssum 1 S 2) (ssum 1 S9 1 - ssum 1 S 1) (S9.2 16 - S.2 16) := by
    rw [g3]
    show (sset S9 10 _).1 10 = _
    exact ss_s
  have f17 : S'.2 17 = if S9.2 17 < ssize 6 S9 then ssize 6 S9 else S9.2 17 := by
    rw [g3]
    show upd S9.2 17 (if S9.2 17 < ssize 6 S9 then ssize 6 S9 else S9.2 17) 17 = _
    exact up_s rfl
  have f2 : ∀ k, k ≠ 17 → S'.2 k = S9.2 k := fun k hk => by
    rw [g3]
    show upd S9.2 17 (if S9.2 17 < ssize 6 S9 then ssize 6 S9 else S9.2 17) k = _
    exact up_n hk
  clear g3
  have e6 : ssize 6 S' = ssize 6 S9 := by
    show nI (tz 16 (S'.1 6)) = nI (tz 16 (S9.1 6))
    rw [f1 6 (by omega)]
  have es : ∀ c, ssum 1 S' c = ssum 1 S9 c := fun c => by
    show tsum 14 6 (S'.1 1) c = tsum 14 6 (S9.1 1) c
    rw [f1 1 (by omega)]
  rw [e6, es, es, f10, f17, f2 12 (by omega), f2 16 (by omega)]
  unfold thist
  refine ⟨t, g2, g6, g5, g4, ?_, ?_, ?_, ?_, ?_⟩
  · dsimp only
    rw [fup_c (by decide), fup_c (by decide), fup_c (by decide), fup_s rfl rfl]
  · dsimp only
    rw [fup_c (by decide), fup_c (by decide), fup_s rfl rfl]
  · dsimp only
    rw [fup_c (by decide), fup_s rfl rfl]
  · dsimp only
    rw [fup_s rfl rfl]
  · by_cases c : S9.2 17 < ssize 6 S9
    · rw [if_pos c]
      exact Int32.lt_irrefl
    · rw [if_neg c]
      exact c
theorem ticks_fin {n : Nat} {sv : N1} {w0 : Int32} {t : Nat} (hn : n < 511) {M' : MS} (hr' : Rel n X' M') (hx : EX sv o0 o0 w0 (X.2.1 0)) {j : Nat} (j1 : j ≤ sv 0) (j2 : EX sv o0 o0 (w0 + nI j) (X'.2.1 0)) (hs0 : sv 0 ≤ 16) (hs2 : sv 2 ≤ 16) (n6 : ((X.2.1 0).1 1).1 = 6) (g2 : (X.2.1 0).2 12 = nI t) (g6 : t < 2 ^ 28) (e12 : (X'.2.1 0).2 12 = nI (t + 1)) (q64 : ((X'.2.1 0).1 10).1 = 64) (q0 : ((X'.2.1 0).1 10).2 (t % 64) 0 = ssize 6 (X'.2.1 0)) (q1 : ((X'.2.1 0).1 10).2 (t % 64) 1 = ssum 1 (X'.2.1 0) 2 - ssum 1 (X.2.1 0) 2) (q2 : ((X'.2.1 0).1 10).2 (t % 64) 2 = ssum 1 (X'.2.1 0) 1 - ssum 1 (X.2.1 0) 1) (q3 : ((X'.2.1 0).1 10).2 (t % 64) 3 = (X'.2.1 0).2 16 - (X.2.1 0).2 16) (hl : ¬ (X'.2.1 0).2 17 < ssize 6 (X'.2.1 0)) : bfL_ticks_92 (nI (sv 0)) (nI (sv 2)) (fun _ => none) ((X.2.1 0).2 15 + (X.2.1 0).2 16 + pnd ((X.2.1 0).1 7), ssum 1 (X'.2.1 0) 2 - ssum 1 (X.2.1 0) 2, ssum 1 (X'.2.1 0) 1 - ssum 1 (X.2.1 0) 1, (X.2.1 0).2 16, (X.2.1 0).2 12, ssum 1 (X'.2.1 0) 2 - ssum 1 (X.2.1 0) 2, nI 6, X') = some (1, X') := by
  obtain ⟨F', t0', K', cl', sg', svr', sw', nr', r', N', nq', nb', qs', ws', fb', gb', at', ow', hg', hK', ht', hN'⟩ := hr'.rg (by omega)
  have h7' := hg'.2.2.2.2.1.2.2.1.1
  obtain ⟨c1, c2, c3, c4⟩ := oc_sv (sv' := sv) hg' hN' j2.2.2.1 j2.2.2.2
  have cle := oc_le hg'
  have ev : (X'.2.1 0).2 15 + (X'.2.1 0).2 16 + pnd ((X'.2.1 0).1 7) - ((X.2.1 0).2 15 + (X.2.1 0).2 16 + pnd ((X.2.1 0).1 7)) = nI j := i32_sub (by rw [hx.2.1]; exact j2.2.1)
  have w0' : fX5_window (0 : Int32) (1 : Int32) X' = some (ssize 6 (X'.2.1 0)) := (win_1 (X := X') (j := 0) rfl q64 e12 g6 (by omega)).trans (congrArg some q0)
  have w1' : fX5_window (1 : Int32) (1 : Int32) X' = some (ssum 1 (X'.2.1 0) 2 - ssum 1 (X.2.1 0) 2) := (win_1 (X := X') (j := 1) rfl q64 e12 g6 (by omega)).trans (congrArg some q1)
  have w2' : fX5_window (2 : Int32) (1 : Int32) X' = some (ssum 1 (X'.2.1 0) 1 - ssum 1 (X.2.1 0) 1) := (win_1 (X := X') (j := 2) rfl q64 e12 g6 (by omega)).trans (congrArg some q2)
  have w3' : fX5_window (3 : Int32) (1 : Int32) X' = some ((X'.2.1 0).2 16 - (X.2.1 0).2 16) := (win_1 (X := X') (j := 3) rfl q64 e12 g6 (by omega)).trans (congrArg some q3)
  have t7 : fX5_told (7 : Int32) X' = _ := told_7
  have t8 : fX5_told (8 : Int32) X' = _ := told_8
  have t9 : fX5_told (9 : Int32) X' = _ := told_9 h7'
  have t0 : fX5_told (0 : Int32) X' = _ := told_0
  have t5 : fX5_told (5 : Int32) X' = _ := told_5w hg' hN'
  have t6 : fX5_told (6 : Int32) X' = _ := told_6w hg'
  have t10' : fX5_told (10 : Int32) X' = _ := told_10
  have t3 : fX5_told (3 : Int32) X' = _ := told_3
  rw [bfL_ticks_92, if_pos (by decide), t7, ob_eq, t8, ob_eq, t9, ob_eq, nm, ev, if_pos rfl, if_neg (nI_pos (by omega)), nI_add, if_neg (nI_nlt (by omega) (by omega)), t0, ob_eq, e12, g2, nA_1, if_pos rfl, t5, ob_eq, if_neg (nI_nlt c1 (by omega)), t6, ob_eq, if_neg (nI_nlt c2 (by omega)), ob_eq, ob_eq, if_neg (nI_nlt cle (by omega)), t10', ob_eq, t3, ob_eq, if_neg hl]
  unfold bfL_ticks_237 bfL_ticks_303
  rw [if_neg (by decide), w0', ob_eq, t3, ob_eq, if_pos rfl, w1', ob_eq, if_pos rfl, w2', ob_eq, if_pos rfl, w3', ob_eq, t8, ob_eq, if_pos rfl, if_pos (Or.inr rfl)]
theorem ticks_1 {n : Nat} {sv : N1} (hn : n < 510) (h : Iv n sv X) : ∃ X', fL_ticks (nI (sv 0)) (nI (sv 2)) X = some (1, X') ∧ fX4_pass (X.2.1 0) = some (X'.2.1 0) ∧ Iv (n + 1) sv X' ∧ fX5_window (1 : Int32) (1 : Int32) X' = some (ssum 1 (X'.2.1 0) 2 - ssum 1 (X.2.1 0) 2) := by
  obtain ⟨X', y1, y2, gT, hI⟩ := h.run1 (by omega)
  obtain ⟨t, g2, g6, e12, q64, q0, q1, q2, q3, hl⟩ := gT.facts
  obtain ⟨⟨M, hr⟩, hv, w0, hx⟩ := h
  refine ⟨X', ?_, y2, hI, (win_1 (X := X') (j := 1) rfl q64 e12 g6 (by omega)).trans (congrArg some q1)⟩
  obtain ⟨⟨M', hr'⟩, hv', w0', hx'⟩ := hI
  obtain ⟨F, t0, K, cl, sg, svr, sw, nr, r, N, nq, nb, qs, ws, fb, gb, at_, ow, hg, hK, ht, hN⟩ := hr.rg (by omega)
  have n6 := hg.n16.2
  have n6' := hx'.1.2.1
  have h7 := hg.2.2.2.2.1.2.2.1.1
  obtain ⟨j, j1, j2⟩ := gT.1 w0 o0 hx
  have hF := ticks_fin (n := n + 1) (t := t) (by omega) hr' hx j1 j2 (hv 0 (by omega)).2 (hv 2 (by omega)).2 n6 g2 g6 e12 q64 q0 q1 q2 q3 hl
  have a2 : ssum 1 (X.2.1 0) 2 = sumF (fun i => ((X.2.1 0).1 1).2 i 2) 6 := ssum_eq (c := 2) n6 (by omega)
  have a1 : ssum 1 (X.2.1 0) 1 = sumF (fun i => ((X.2.1 0).1 1).2 i 1) 6 := ssum_eq (c := 1) n6 (by omega)
  have c2 : ssum 1 (X'.2.1 0) 2 = sumF (fun i => ((X'.2.1 0).1 1).2 i 2) 6 := ssum_eq (c := 2) n6' (by omega)
  have c1 : ssum 1 (X'.2.1 0) 1 = sumF (fun i => ((X'.2.1 0).1 1).2 i 1) 6 := ssum_eq (c := 1) n6' (by omega)
  have h92 := tk92 (X := X') (p2 := nI (sv 0)) (p3 := nI (sv 2)) (x3 := (X.2.1 0).2 15 + (X.2.1 0).2 16 + pnd ((X.2.1 0).1 7)) (x6 := (X.2.1 0).2 16) (x7 := (X.2.1 0).2 12) (x8 := ssum 1 (X'.2.1 0) 2 - ssum 1 (X.2.1 0) 2) n6' (a := 0 - sumF (fun i => ((X.2.1 0).1 1).2 i 2) 6) (b := 0 - sumF (fun i => ((X.2.1 0).1 1).2 i 1) 6) 6 0 FU (by omega) (by unfold FU; omega)
  have z0 : ∀ (f : Nat → Int32) (a : Int32), a + sumF f 0 = a := fun f a => Int32.add_zero a
  rw [z0, z0, i32_n, i32_n, ← a2, ← a1, ← c2, ← c1, hF] at h92
  have h45 := tk45 (X := X) (p2 := nI (sv 0)) (p3 := nI (sv 2)) (x3 := (X.2.1 0).2 15 + (X.2.1 0).2 16 + pnd ((X.2.1 0).1 7)) (x6 := (X.2.1 0).2 16) (x7 := (X.2.1 0).2 12) n6 6 0 FU (by omega) (by unfold FU; omega)
  have z1 : ∀ f : Nat → Int32, (0 : Int32) - sumF f 0 = 0 := fun f => by
    show (0 : Int32) - 0 = 0
    decide
  have n0 : nI 0 = 0 := rfl
  rw [z1, z1, n0, y1, ob_eq, ← a2, ← a1] at h45
  rw [n0] at h92
  dsimp only at h45
  have t7 : fX5_told (7 : Int32) X = _ := told_7
  have t8 : fX5_told (8 : Int32) X = _ := told_8
  have t9 : fX5_told (9 : Int32) X = _ := told_9 h7
  have t0' : fX5_told (0 : Int32) X = _ := told_0
  unfold fL_ticks
  rw [t7, ob_eq, t8, ob_eq, t9, ob_eq, nm, ob_eq, t0', ob_eq]
  rw [h45, h92]
end TP
