/-! the what-if methods: what they bring, and that they leave the state alone -/
theorem EX.up11 {sv o lb : N1} {w0 : Int32} {S : StS} {v : Int32} (h : EX sv o lb w0 S) : EX sv o lb w0 (S.1, upd S.2 11 v) := by
  obtain ⟨h1, h2, h3, h4⟩ := h
  refine ⟨h1, ?_, h3, h4⟩
  show upd S.2 11 v 15 + upd S.2 11 v 16 + pnd (S.1 7) = w0
  rw [up_n (by omega), up_n (by omega)]
  exact h2
theorem EX.lbs {sv lb lb' : N1} {w0 : Int32} {S : StS} (h : EX sv o0 lb w0 S) (e : ∀ (c : Nat) (t : Nat), c < 6 → (S.1 1).2 c 2 = nI t → t < 2 ^ 30 → lb' c ≤ t) : EX sv o0 lb' w0 S := by
  obtain ⟨⟨h1, h2, h3, h4⟩, h5⟩ := h
  refine ⟨⟨h1, h2, fun c hc => ?_, h4⟩, h5⟩
  obtain ⟨t, t1, t2, t3, t4, ⟨t5, t6⟩, t7⟩ := h3 c hc
  have e3 : t 1 + 0 = t 2 + t 4 + t 5 + t 6 + und (S.1 5) c := t3
  exact ⟨t, t1, t2, t3, t4, ⟨t5, e c (t 2) hc (t1 2 (by omega)) (by omega)⟩, t7⟩
/-- the successes, as numbers -/
def sx (S : StS) (c : Nat) : Nat := ((S.1 1).2 c 2).toNatClampNeg
theorem Iv.tal {n : Nat} {sv lb : N1} {w : Int32} {X : RS} (hn : n < 512) (h : Iv n sv X) (hx : EX sv o0 lb w (X.2.1 0)) : ((X.2.1 0).1 1).1 = 6 ∧ ∀ c, c < 6 → ((X.2.1 0).1 1).2 c 2 = nI (sx (X.2.1 0) c) ∧ sx (X.2.1 0) c < 2 ^ 27 ∧ lb c ≤ sx (X.2.1 0) c := by
  obtain ⟨⟨M, hr⟩, hv, w0, hx0⟩ := h
  obtain ⟨F, t0, K, cl, sg, sv', sw, nr, r, N, nq, nb, qs, ws, fb, gb, at_, ow, hg, hK, ht, hN⟩ := hr.rg hn
  obtain ⟨-, hT⟩ := hg.2.1
  refine ⟨hx.1.2.1, fun c hc => ?_⟩
  obtain ⟨-, -, x, y, -, y1, -, y2⟩ := hT c hc
  obtain ⟨t, t1, t2, t3, t4, ⟨t5, t6⟩, t7⟩ := hx.1.2.2.1 c hc
  have e1 : t 1 = y := (nI_eq (by omega) (by omega)).mp ((t1 1 (by omega)).symm.trans y1)
  have e3 : t 1 + 0 = t 2 + t 4 + t 5 + t 6 + und ((X.2.1 0).1 5) c := t3
  have e2 : sx (X.2.1 0) c = t 2 := by
    unfold sx
    rw [t1 2 (by omega), nI_clamp (by omega)]
  rw [e2]
  exact ⟨t1 2 (by omega), by omega, t6⟩
theorem sN_lt {f : Nat → Nat} {m : Nat} : ∀ n, (∀ i, i < n → f i ≤ m) → sN f n ≤ n * m
  | 0, _ => Nat.zero_le _
  | n + 1, h => by
    show sN f n + f n ≤ (n + 1) * m
    have := sN_lt (f := f) (m := m) n (fun i hi => h i (by omega))
    have := h n (by omega)
    rw [Nat.succ_mul]
    omega
theorem Iv.sum {n : Nat} {sv : N1} {X : RS} (hn : n < 512) (h : Iv n sv X) : ssum 1 (X.2.1 0) (2 : Int32) = nI (sN (sx (X.2.1 0)) 6) ∧ sN (sx (X.2.1 0)) 6 < 2 ^ 30 := by
  have h' := h
  obtain ⟨-, -, w0, hx0⟩ := h'
  obtain ⟨h6, ht⟩ := h.tal hn hx0
  refine ⟨?_, ?_⟩
  · rw [show ssum 1 (X.2.1 0) (2 : Int32) = _ from ssum_eq (c := 2) h6 (by omega), ← sumF_nI 6]
    exact sumF_cg 6 (fun i hi => (ht i hi).1)
  · have := sN_lt (f := sx (X.2.1 0)) (m := 2 ^ 27 - 1) 6 (fun i hi => by have := (ht i hi).2.1; omega)
    omega
/-- so many ticks from it -/
theorem Iv.runs {sv : N1} : ∀ (k : Nat) {n : Nat} {X : RS}, n + k < 512 → Iv n sv X → ∃ X', pS k (X.2.1 0) (X'.2.1 0) ∧ Iv (n + k) sv X' ∧ ∀ lb w0, EX sv o0 lb w0 (X.2.1 0) → ∃ w1, EX sv o0 lb w1 (X'.2.1 0)
  | 0, n, X, _, h => ⟨X, rfl, h, fun _ w0 q => ⟨w0, q⟩⟩
  | k + 1, n, X, hn, h => by
    obtain ⟨X1, -, y2, g, h1⟩ := h.run1 (by omega)
    obtain ⟨X2, z1, z2, z3⟩ := Iv.runs k (n := n + 1) (by omega) h1
    rw [show n + 1 + k = n + (k + 1) by omega] at z2
    refine ⟨X2, ⟨_, y2, z1⟩, z2, fun lb w0 q => ?_⟩
    obtain ⟨j, -, j2⟩ := g.1 w0 lb q
    exact z3 lb _ j2
/-- the successes never fall -/
theorem Iv.grow {n k : Nat} {sv : N1} {X : RS} {S' : StS} (hn : n + k < 512) (h : Iv n sv X) (hp : pS k (X.2.1 0) S') : ∃ r, ssum 1 S' (2 : Int32) - ssum 1 (X.2.1 0) (2 : Int32) = nI r ∧ r < 2 ^ 30 := by
  obtain ⟨X', z1, z2, z3⟩ := h.runs k hn
  obtain rfl := z1.det k hp
  have h' := h
  obtain ⟨-, -, w0, hx0⟩ := h'
  obtain ⟨a1, a2⟩ := h.sum (by omega)
  obtain ⟨b1, b2⟩ := z2.sum (by omega)
  obtain ⟨w1, hx1⟩ := z3 (sx (X.2.1 0)) w0 (hx0.lbs (fun c t hc e ht => by
    unfold sx
    rw [e, nI_clamp (by omega)]
    exact Nat.le_refl _))
  obtain ⟨-, ht⟩ := z2.tal (by omega) hx1
  have := sN_mono (f := sx (X.2.1 0)) (g := sx (X'.2.1 0)) 6 (fun i hi => (ht i hi).2.2)
  exact ⟨sN (sx (X'.2.1 0)) 6 - sN (sx (X.2.1 0)) 6, by rw [a1, b1, pk_sub this], by omega⟩
theorem disc_val {X : RS} {m d : Nat} (hm : m ≤ 4) (h : X.2.2 = nI m) (hd : d ≤ 3) : ∃ X' m1, fX5_setDiscipline (nI d) X = some ((X.2.1 0).2 11, X') ∧ X'.2.1 0 = ((X.2.1 0).1, upd (X.2.1 0).2 11 (nI d)) ∧ X'.2.2 = nI m1 ∧ 1 ≤ m1 ∧ m1 ≤ 4 ∧ X'.2.1 (m1 + 1) = X.2.1 0 := by
  obtain ⟨X1, m1, a1, a2, a3, a4, a5, a6, -⟩ := keep_form hm h
  refine ⟨rset X1 0 ((X1.2.1 0).1, upd (X1.2.1 0).2 11 (nI d)), m1, ?_, ?_, a3, a4, a5, (rs_n (by omega)).trans a6⟩
  · unfold fX5_setDiscipline
    rw [if_neg (nI_pos (by omega)), if_pos (show nI d < (4 : Int32) from nI_lt (b := 4) (by omega) (by omega)), a1, ob_eq, nm, a2]
  · rw [rs_s, a2]
theorem Iv.disc {n d : Nat} {sv : N1} {X : RS} (hn : n < 512) (h : Iv n sv X) (hd : d ≤ 3) : ∃ X' m1, fX5_setDiscipline (nI d) X = some ((X.2.1 0).2 11, X') ∧ X'.2.1 0 = ((X.2.1 0).1, upd (X.2.1 0).2 11 (nI d)) ∧ X'.2.2 = nI m1 ∧ 1 ≤ m1 ∧ m1 ≤ 4 ∧ X'.2.1 (m1 + 1) = X.2.1 0 ∧ Iv (n + 1) sv X' := by
  obtain ⟨m, m1, m2⟩ := h.rec
  obtain ⟨X', m', y1, y2, y3, y4, y5, y6⟩ := disc_val m1 m2 hd
  obtain ⟨⟨M, hr⟩, hv, w0, hx⟩ := h
  obtain ⟨q, r, z1, z2, z3, z4⟩ := setDiscipline_rel n X M hn hr (nI d)
  obtain rfl : q = ((X.2.1 0).2 11, X') := Option.some.inj (z1.symm.trans y1)
  refine ⟨X', m', y1, y2, y3, y4, y5, y6, ⟨_, z4⟩, fun i hi => ?_, w0, ?_⟩
  · rw [y2]
    exact hv i hi
  · rw [y2]
    exact hx.up11
theorem undo_val {X : RS} {m : Nat} (h1 : 1 ≤ m) (h4 : m ≤ 4) (h : X.2.2 = nI m) : ∃ X', fX5_undo X = some (nI (m - 1), X') ∧ X'.2.1 0 = X.2.1 (m + 1) ∧ X'.2.2 = nI (m - 1) ∧ ∀ i, i ≠ 0 → X'.2.1 i = X.2.1 i := by
  obtain ⟨k, rfl⟩ : ∃ k, m = k + 1 := ⟨m - 1, by omega⟩
  have es : nI (k + 1) - (1 : Int32) = nI k := pk_sub (b := 1) (by omega)
  refine ⟨rset (X.1, X.2.1, nI k) 0 (X.2.1 (k + 2)), ?_, rs_s, rfl, fun i hi => rs_n hi⟩
  unfold fX5_undo
  rw [h, if_neg (show ¬ nI (k + 1) < (1 : Int32) from nI_nlt (b := 1) (by omega) (by omega)), if_pos (show nI (k + 1) ≤ (4 : Int32) from nI_le (b := 4) (by omega) (by omega)), es, nm]
  dsimp only
  rw [if_pos (okI_nI (by omega) (by decide)), nm, nI_clamp (by omega)]
  rfl
/-- what is read of an object: its state, its records -/
def Lk (X X' : RS) : Prop := (∀ i, i ≠ 1 → X'.2.1 i = X.2.1 i) ∧ X'.2.2 = X.2.2
theorem Lk.rf (X : RS) : Lk X X := ⟨fun _ _ => rfl, rfl⟩
theorem Lk.tr {X Y Z : RS} (h : Lk X Y) (g : Lk Y Z) : Lk X Z := ⟨fun i hi => (g.1 i hi).trans (h.1 i hi), g.2.trans h.2⟩
theorem Lk.rel {n : Nat} {X X' : RS} {M : MS} (h : Lk X X') (hr : Rel n X M) : Rel n X' M := by
  obtain ⟨m, m1, m2, m3, m4, m5⟩ := hr
  refine ⟨m, m1, h.2.trans m2, m3, ?_, fun i hi => ?_⟩
  · rw [h.1 0 (by omega)]
    exact m4
  · rw [h.1 (2 + i) (by omega)]
    exact m5 i hi
theorem Lk.iv {n : Nat} {sv : N1} {X X' : RS} (h : Lk X X') (hi : Iv n sv X) : Iv n sv X' := by
  obtain ⟨⟨M, hr⟩, hv, w0, hx⟩ := hi
  have e := h.1 0 (by omega)
  exact ⟨⟨M, h.rel hr⟩, by rw [e]; exact hv, w0, by rw [e]; exact hx⟩
/-- what a discipline would bring -/
def Br (k : Nat) (S : StS) (d v : Nat) : Prop := v < 2 ^ 28 ∧ ∃ S', pS k (S.1, upd S.2 11 (nI d)) S' ∧ S'.2 15 - S.2 15 = nI v
theorem Br.det {k d v v' : Nat} {S : StS} (h : Br k S d v) (g : Br k S d v') : v = v' := by
  obtain ⟨h1, S1, h2, h3⟩ := h
  obtain ⟨g1, S2, g2, g3⟩ := g
  obtain rfl := h2.det k g2
  exact (nI_eq (by omega) (by omega)).mp (h3.symm.trans g3)
theorem Iv.good {n k d : Nat} {sv : N1} {X : RS} (hn : n + k + 1 < 512) (h : Iv n sv X) (k1 : 1 ≤ k) (k2 : k ≤ 60) (hd : d ≤ 3) : ∃ v X', Br k (X.2.1 0) d v ∧ fX5_goodWorkWith (nI k) (nI d) X = some (nI v, X') ∧ Lk X X' := by
  obtain ⟨Z, mZ, z1, z2, z3, z4, z5, z6, hZ⟩ := h.disc (by omega) hd
  obtain ⟨Z', w1, -, -⟩ := hZ.runs k (by omega)
  rw [z2] at w1
  obtain ⟨X', g1, g2, g3⟩ := good_go (n := k) k2 k 0 (by omega) w1 FU (nI d) (rset (rset X 1 (X.2.1 0)) 1 ((X.2.1 0).1, upd (X.2.1 0).2 11 (nI d))) (by unfold FU; omega) rs_s
  obtain ⟨⟨M, hr⟩, -, -⟩ := h
  obtain ⟨v, X2, M2, v1, x1, -, -⟩ := tries_rel (n := n) (by omega) hr k1 k2 hd
  have eg : fX5_goodWorkWith (nI k) (nI d) X = some ((Z'.2.1 0).2 15 - (X.2.1 0).2 15, X') := by
    unfold fX5_goodWorkWith
    rw [nm, nm, show (rset X 1 (X.2.1 0)).2.1 1 = X.2.1 0 from rs_s]
    refine g1.trans ?_
    rw [show (rset (rset X 1 (X.2.1 0)) 1 ((X.2.1 0).1, upd (X.2.1 0).2 11 (nI d))).2.1 0 = X.2.1 0 from (rs_n (by omega)).trans (rs_n (by omega))]
  have ep := Option.some.inj (eg.symm.trans x1)
  have e1 : (Z'.2.1 0).2 15 - (X.2.1 0).2 15 = nI v := congrArg Prod.fst ep
  refine ⟨v, X', ⟨v1, Z'.2.1 0, w1, e1⟩, by rw [eg, e1], fun i hi => (g2 i hi).trans ((rs_n hi).trans (rs_n hi)), g3⟩
theorem Iv.ifr {n k d : Nat} {sv : N1} {X : RS} (hn : n + k + 1 < 512) (h : Iv n sv X) (k1 : 1 ≤ k) (k2 : k ≤ 60) (hd : d ≤ 3) : ∃ v X', Br k (X.2.1 0) d v ∧ fX5_ifRun (nI k) (nI d) X = some (nI v, X') ∧ Lk X X' := by
  obtain ⟨v, X', a, b, c⟩ := h.good hn k1 k2 hd
  refine ⟨v, X', a, ?_, c⟩
  unfold fX5_ifRun
  rw [if_neg (show ¬ nI k < (1 : Int32) from nI_nlt (b := 1) k1 (by omega)), if_neg (show ¬ (60 : Int32) < nI k from nI_nlt (a := 60) k2 (by omega)), if_neg (nI_pos (by omega)), if_pos (show nI d < (4 : Int32) from nI_lt (b := 4) (by omega) (by omega)), b, ob_eq]
theorem Iv.best_go {n k : Nat} {sv : N1} (hn : n + k + 1 < 512) (k1 : 1 ≤ k) (k2 : k ≤ 60) : ∀ (i j : Nat) {X : RS} (b vb m : Nat), j + i = 4 → i < m → Iv n sv X → b ≤ 3 → Br k (X.2.1 0) b vb → (∀ d v, d < j → Br k (X.2.1 0) d v → v ≤ vb) → ∃ b' vb' X', iter (bfX5_bestDiscipline_20 (nI k)) m (nI b, nI vb, nI j, X) = some (nI b', X') ∧ Lk X X' ∧ b' ≤ 3 ∧ Br k (X.2.1 0) b' vb' ∧ ∀ d v, d ≤ 3 → Br k (X.2.1 0) d v → v ≤ vb' := by
  intro i
  induction i with
  | zero =>
    intro j X b vb m hj hm h hb hB hle
    obtain ⟨m, rfl⟩ : ∃ k, m = k + 1 := ⟨m - 1, by omega⟩
    obtain rfl : j = 4 := by omega
    refine ⟨b, vb, X, ?_, Lk.rf X, hb, hB, fun d v hd => hle d v (by omega)⟩
    rw [it_s, bfX5_bestDiscipline_20, if_pos (by decide)]
  | succ i ih =>
    intro j X b vb m hj hm h hb hB hle
    obtain ⟨m, rfl⟩ : ∃ k, m = k + 1 := ⟨m - 1, by omega⟩
    obtain ⟨v, X1, x0, x1, x2⟩ := h.good hn k1 k2 (d := j) (by omega)
    have e0 := x2.1 0 (by omega)
    have e4 : ¬ (4 : Int32) ≤ nI j := fun z => by have := (len_4 (by omega)).mp z; omega
    have v1 := x0.1
    have v2 := hB.1
    by_cases c : v ≤ vb
    · obtain ⟨b', vb', X', z1, z2, z3, z4, z5⟩ := ih (j + 1) (X := X1) b vb m (by omega) (by omega) (x2.iv h) hb (by rw [e0]; exact hB) (fun d u hd hu => by
        rw [e0] at hu
        by_cases e : d = j
        · subst e
          rw [hu.det x0]
          exact c
        · exact hle d u (by omega) hu)
      rw [e0] at z4 z5
      refine ⟨b', vb', X', ?_, x2.tr z2, z3, z4, z5⟩
      rw [it_s, bfX5_bestDiscipline_20, if_neg e4, x1, ob_eq, if_pos (show nI v ≤ nI vb from nI_le c (by omega))]
      unfold bfX5_bestDiscipline_47
      rw [nA_1]
      exact z1
    · obtain ⟨b', vb', X', z1, z2, z3, z4, z5⟩ := ih (j + 1) (X := X1) j v m (by omega) (by omega) (x2.iv h) (by omega) (by rw [e0]; exact x0) (fun d u hd hu => by
        rw [e0] at hu
        by_cases e : d = j
        · subst e
          rw [hu.det x0]
          exact Nat.le_refl _
        · have := hle d u (by omega) hu
          omega)
      rw [e0] at z4 z5
      refine ⟨b', vb', X', ?_, x2.tr z2, z3, z4, z5⟩
      rw [it_s, bfX5_bestDiscipline_20, if_neg e4, x1, ob_eq, if_neg (show ¬ nI v ≤ nI vb from nI_ge (by omega) (by omega))]
      unfold bfX5_bestDiscipline_47
      rw [nA_1]
      exact z1
theorem Iv.best {n k : Nat} {sv : N1} {X : RS} (hn : n + k + 1 < 512) (h : Iv n sv X) (k1 : 1 ≤ k) (k2 : k ≤ 15) : ∃ b vb X', fX5_bestDiscipline (nI k) X = some (nI b, X') ∧ Lk X X' ∧ b ≤ 3 ∧ Br k (X.2.1 0) b vb ∧ ∀ d v, d ≤ 3 → Br k (X.2.1 0) d v → v ≤ vb := by
  obtain ⟨v, X1, x0, x1, x2⟩ := h.good hn k1 (by omega) (d := 0) (by omega)
  have e0 := x2.1 0 (by omega)
  obtain ⟨b', vb', X', z1, z2, z3, z4, z5⟩ := Iv.best_go hn k1 (by omega) 3 1 (X := X1) 0 v 999 (by omega) (by omega) (x2.iv h) (by omega) (by rw [e0]; exact x0) (fun d u hd hu => by
    rw [e0] at hu
    obtain rfl : d = 0 := by omega
    rw [hu.det x0]
    exact Nat.le_refl _)
  rw [e0] at z4 z5
  refine ⟨b', vb', X', ?_, x2.tr z2, z3, z4, z5⟩
  have v1 := x0.1
  unfold fX5_bestDiscipline
  rw [if_neg (show ¬ nI k < (1 : Int32) from nI_nlt (b := 1) k1 (by omega)), if_pos (show nI k ≤ (15 : Int32) from nI_le (b := 15) k2 (by omega)), show FU = 999 + 1 from rfl, it_s, bfX5_bestDiscipline_20, if_neg (by decide), show fX5_goodWorkWith (nI k) (0 : Int32) X = some (nI v, X1) from x1, ob_eq]
  rw [if_neg (show ¬ (nI v, X1).1 ≤ (-1 : Int32) from fun z => nI_pos (n := v) (by omega) (Int32.lt_of_le_of_lt z (by decide)))]
  exact z1
theorem wouldBe_1 {n k d : Nat} {sv : N1} {X : RS} (hn : n + k + 2 < 512) (h : Iv n sv X) (k1 : 1 ≤ k) (k2 : k ≤ 15) (hd : d ≤ 3) : ∃ X', fL_wouldBe (nI k) (nI d) X = some (1, X') := by
  obtain ⟨v, X1, a1, a2, a3⟩ := h.ifr (by omega) k1 (by omega) hd
  have h1 := a3.iv h
  have s1 := a3.1 0 (by omega)
  obtain ⟨b, vb, X2, b1, b2, b3, b4, b5⟩ := h1.best (by omega) k1 k2
  have h2 := b2.iv h1
  have s2 := (b2.1 0 (by omega)).trans s1
  rw [s1] at b4 b5
  obtain ⟨vc, X3, c1, c2, c3⟩ := h2.ifr (by omega) k1 (by omega) b3
  have h3 := c3.iv h2
  have s3 := (c3.1 0 (by omega)).trans s2
  rw [s2] at c1
  obtain rfl := c1.det b4
  have hle := b5 d v hd a1
  have v1 := a1.1
  have v2 := c1.1
  obtain ⟨⟨M, hr2⟩, -, -⟩ := h2
  obtain ⟨D, d1, d2⟩ := digest_rel n X2 M (by omega) hr2
  obtain ⟨D', d3, d4⟩ := digest_rel n X3 M (by omega) (c3.rel hr2)
  obtain rfl : D' = D := Option.some.inj (d4.symm.trans d2)
  obtain ⟨X4, m1, e1, e2, e3, e4, e5, e6, h4⟩ := h3.disc (by omega) hd
  rw [s3] at e1 e2 e6
  obtain ⟨-, S', p1, p2⟩ := a1
  rw [← e2] at p1
  obtain ⟨r, r1, r2⟩ := h4.grow (k := k) (by omega) p1
  obtain ⟨X5, m2, f1, f2, f3, f4, f5, f6, f7⟩ := run_val e5 e3 k1 (by omega) p1
  obtain ⟨f8, f9⟩ := f7 e4
  rw [r1] at f1
  obtain ⟨X6, g1, g2, g3, g4⟩ := undo_val f4 f5 f3
  obtain ⟨X7, i1, i2, i3, i4⟩ := undo_val (m := m2 - 1) (by omega) (by omega) g3
  have s7 : X7.2.1 0 = X.2.1 0 := by
    rw [i2, show m2 - 1 + 1 = m2 by omega, g4 m2 (by omega), f9, e6]
  refine ⟨X7, ?_⟩
  unfold fL_wouldBe
  rw [a2, ob_eq, b1, ob_eq, show fX5_told (11 : Int32) X2 = _ from told_11, ob_eq, d1, ob_eq, show fX5_told (7 : Int32) X2 = _ from told_7, ob_eq, s2]
  rw [if_neg (nI_pos (by omega)), if_neg (show ¬ (3 : Int32) < nI b from nI_nlt (a := 3) b3 (by omega)), c2, ob_eq, if_neg (nI_nlt hle (by omega)), d3, ob_eq, if_pos (show lg_cmp D' D' = 0 by unfold lg_cmp; rw [if_neg (Int64.lt_irrefl), if_pos rfl]), e1, ob_eq, if_pos rfl, f1, ob_eq, if_neg (nI_pos (by omega)), show fX5_told (7 : Int32) X5 = _ from told_7, ob_eq, f2, p2, if_pos rfl, g1, ob_eq, if_neg (nI_pos (by omega)), i1, ob_eq, if_neg (nI_pos (by omega)), show fX5_told (7 : Int32) X7 = _ from told_7, ob_eq, s7, if_pos rfl, show fX5_told (11 : Int32) X7 = _ from told_11, ob_eq, s7, if_pos rfl]
  rfl
