/-! ticks one by one: what a run is; the law's invariant -/
/-- S' comes of S in so many ticks -/
def pS : Nat → StS → StS → Prop
  | 0, S, S' => S' = S
  | k + 1, S, S' => ∃ S1, fX4_pass S = some S1 ∧ pS k S1 S'
theorem pS.snoc : ∀ (k : Nat) {S S1 S' : StS}, pS k S S1 → fX4_pass S1 = some S' → pS (k + 1) S S'
  | 0, _, _, S', h, g => by
    obtain rfl := h
    exact ⟨S', g, rfl⟩
  | k + 1, _, _, _, ⟨X, h1, h2⟩, g => ⟨X, h1, pS.snoc k h2 g⟩
theorem pS.det : ∀ (k : Nat) {S S1 S2 : StS}, pS k S S1 → pS k S S2 → S1 = S2
  | 0, _, _, _, h, g => h.trans g.symm
  | k + 1, _, _, _, ⟨X, h1, h2⟩, ⟨Y, g1, g2⟩ => by
    obtain rfl : X = Y := Option.some.inj (h1.symm.trans g1)
    exact pS.det k h2 g2
theorem run_go {n : Nat} (hn : n ≤ 60) : ∀ (k j : Nat) {S S' : StS}, j + k = n → pS k S S' → ∀ (m : Nat) (b0 : Int32) (X : RS), k < m → X.2.1 0 = S → ∃ X', iter (bfX5_run_28 (nI n)) m (b0, nI j, X) = some (ssum 1 S' 2 - b0, X') ∧ X'.2.1 0 = S' ∧ (∀ i, i ≠ 0 → X'.2.1 i = X.2.1 i) ∧ X'.2.2 = X.2.2 := by
  intro k
  induction k with
  | zero =>
    intro j S S' hj hp m b0 X hm hX
    obtain rfl := hp
    obtain ⟨m, rfl⟩ : ∃ k, m = k + 1 := ⟨m - 1, by omega⟩
    refine ⟨X, ?_, hX, fun _ _ => rfl, rfl⟩
    rw [it_s, bfX5_run_28, if_pos (nI_le (by omega) (by omega)), show fX2_total (2 : Int32) (X.2.1 0) = some (ssum 1 (X.2.1 0) 2) from rfl, ob_eq, hX]
  | succ k ih =>
    intro j S S' hj hp m b0 X hm hX
    obtain ⟨S1, x1, hp⟩ := hp
    obtain ⟨m, rfl⟩ : ∃ k, m = k + 1 := ⟨m - 1, by omega⟩
    obtain ⟨X', z1, z2, z3, z4⟩ := ih (j + 1) (by omega) hp m b0 (rset X 0 S1) (by omega) rs_s
    refine ⟨X', ?_, z2, fun i hi => (z3 i hi).trans (rs_n hi), z4⟩
    rw [it_s, bfX5_run_28, if_neg (nI_ge (by omega) (by omega)), hX, x1, ob_eq, nm, nA_1]
    exact z1
theorem good_go {n : Nat} (hn : n ≤ 60) : ∀ (k j : Nat) {S S' : StS}, j + k = n → pS k S S' → ∀ (m : Nat) (d : Int32) (X : RS), k < m → X.2.1 1 = S → ∃ X', iter (bfX5_goodWorkWith_21 (nI n) d) m (nI j, X) = some (S'.2 15 - (X.2.1 0).2 15, X') ∧ (∀ i, i ≠ 1 → X'.2.1 i = X.2.1 i) ∧ X'.2.2 = X.2.2 := by
  intro k
  induction k with
  | zero =>
    intro j S S' hj hp m d X hm hX
    obtain rfl := hp
    obtain ⟨m, rfl⟩ : ∃ k, m = k + 1 := ⟨m - 1, by omega⟩
    refine ⟨X, ?_, fun _ _ => rfl, rfl⟩
    rw [it_s, bfX5_goodWorkWith_21, if_pos (nI_le (by omega) (by omega)), hX]
  | succ k ih =>
    intro j S S' hj hp m d X hm hX
    obtain ⟨S1, x1, hp⟩ := hp
    obtain ⟨m, rfl⟩ : ∃ k, m = k + 1 := ⟨m - 1, by omega⟩
    obtain ⟨X', z1, z3, z4⟩ := ih (j + 1) (by omega) hp m d (rset X 1 S1) (by omega) rs_s
    refine ⟨X', ?_, fun i hi => (z3 i hi).trans (rs_n hi), z4⟩
    rw [it_s, bfX5_goodWorkWith_21, if_neg (nI_ge (by omega) (by omega)), hX, x1, ob_eq, nm, nA_1]
    refine z1.trans ?_
    rw [show (rset X 1 S1).2.1 0 = X.2.1 0 from rs_n (by omega)]
/-- what is kept of the state: the latest record, and the one before -/
theorem keep_form {X : RS} {m : Nat} (hm : m ≤ 4) (h : X.2.2 = nI m) : ∃ X1 m1, fX5_keepState X = some X1 ∧ X1.2.1 0 = X.2.1 0 ∧ X1.2.2 = nI m1 ∧ 1 ≤ m1 ∧ m1 ≤ 4 ∧ X1.2.1 (m1 + 1) = X.2.1 0 ∧ (1 ≤ m → 2 ≤ m1 ∧ X1.2.1 m1 = X.2.1 (m + 1)) := by
  have k12 : ∀ (X : RS) (m : Nat), m < 4 → X.2.2 = nI m → bfX5_keepState_12 X = some ((rset X (m + 2) (X.2.1 0)).1, (rset X (m + 2) (X.2.1 0)).2.1, nI (m + 1)) := fun X m hm h2 => by
    unfold bfX5_keepState_12 bfX5_keepState_63
    rw [h2, if_neg (nI_pos (by omega)), if_neg (fun z => by have := (len_4 (by omega)).mp z; omega), if_pos (okI_nI (by omega) (by decide)), nI_clamp (by omega), nm, nm]
    show some ((rset X (m + 2) (X.2.1 0)).1, (rset X (m + 2) (X.2.1 0)).2.1, X.2.2 + 1) = _
    rw [h2, nA_1]
  by_cases c : m = 4
  · subst c
    have eX : fX5_keepState X = bfX5_keepState_12 (rdrop X) := by
      unfold fX5_keepState
      rw [if_pos (show X.2.2 = (4 : Int32) from h), nm]
    have e3 : (rdrop X).2.2 = nI 3 := by
      show X.2.2 - 1 = _
      rw [h]
      rfl
    rw [k12 _ 3 (by omega) e3] at eX
    refine ⟨_, 4, eX, ?_, rfl, by omega, by omega, ?_, fun _ => ⟨by omega, ?_⟩⟩
    · show va_up (rdrop X).2.1 5 ((rdrop X).2.1 0) 0 = _
      rw [va_up_ne _ _ (by omega)]
      rfl
    · show va_up (rdrop X).2.1 5 ((rdrop X).2.1 0) 5 = _
      rw [va_up_self]
      rfl
    · show va_up (rdrop X).2.1 5 ((rdrop X).2.1 0) 4 = _
      rw [va_up_ne _ _ (by omega)]
      rfl
  · have eX : fX5_keepState X = bfX5_keepState_12 X := by
      unfold fX5_keepState
      rw [if_neg (fun z => c ((eqn_4 (by omega)).mp (h.symm.trans z)))]
    rw [k12 _ m (by omega) h] at eX
    refine ⟨_, m + 1, eX, ?_, rfl, by omega, by omega, ?_, fun h1 => ⟨by omega, ?_⟩⟩
    · show va_up X.2.1 (m + 2) (X.2.1 0) 0 = _
      rw [va_up_ne _ _ (by omega)]
    · show va_up X.2.1 (m + 2) (X.2.1 0) (m + 1 + 1) = _
      rw [show m + 1 + 1 = m + 2 by omega, va_up_self]
    · show va_up X.2.1 (m + 2) (X.2.1 0) (m + 1) = _
      rw [va_up_ne _ _ (by omega)]
/-- a run, out of its ticks -/
theorem run_val {X : RS} {m k : Nat} {S' : StS} (hm : m ≤ 4) (h : X.2.2 = nI m) (k1 : 1 ≤ k) (k2 : k ≤ 60) (hp : pS k (X.2.1 0) S') : ∃ X' m1, fX5_run (nI k) X = some (ssum 1 S' 2 - ssum 1 (X.2.1 0) 2, X') ∧ X'.2.1 0 = S' ∧ X'.2.2 = nI m1 ∧ 1 ≤ m1 ∧ m1 ≤ 4 ∧ X'.2.1 (m1 + 1) = X.2.1 0 ∧ (1 ≤ m → 2 ≤ m1 ∧ X'.2.1 m1 = X.2.1 (m + 1)) := by
  obtain ⟨X1, m1, a1, a2, a3, a4, a5, a6, a7⟩ := keep_form hm h
  obtain ⟨X', z1, z2, z3, z4⟩ := run_go k2 k 0 (by omega) hp FU (ssum 1 (X1.2.1 0) 2) X1 (by unfold FU; omega) a2
  refine ⟨X', m1, ?_, z2, z4.trans a3, a4, a5, (z3 _ (by omega)).trans a6, fun q => ⟨(a7 q).1, (z3 _ (by omega)).trans (a7 q).2⟩⟩
  unfold fX5_run
  rw [if_neg (show ¬ nI k < (1 : Int32) from nI_nlt (b := 1) k1 (by omega)), if_pos (show nI k ≤ (60 : Int32) from nI_le (b := 60) k2 (by omega)), a1, ob_eq, show fX2_total (2 : Int32) (X1.2.1 0) = some (ssum 1 (X1.2.1 0) 2) from rfl, ob_eq]
  refine Eq.trans z1 ?_
  rw [a2]
/-- the invariant of the law: the relation with some page, the servers' workers, the sums -/
def Iv (n : Nat) (sv : N1) (X : RS) : Prop := (∃ M, Rel n X M) ∧ (∀ i, i < 4 → ((X.2.1 0).1 3).2 i 0 = nI (sv i) ∧ sv i ≤ 16) ∧ ∃ w0, EX sv o0 o0 w0 (X.2.1 0)
theorem EX.sv {sv sv' o lb : N1} {w0 : Int32} {S : StS} (h : EX sv o lb w0 S) (h0 : sv 0 ≤ sv' 0) (h2 : sv 2 ≤ sv' 2) : EX sv' o lb w0 S := ⟨h.1, h.2.1, fun w hw hs => h.2.2.1 w hw (by omega), fun w hw hs => h.2.2.2 w hw (by omega)⟩
theorem Iv.rec {n : Nat} {sv : N1} {X : RS} (h : Iv n sv X) : ∃ m, m ≤ 4 ∧ X.2.2 = nI m := by
  obtain ⟨⟨M, m, h1, h2, -⟩, -, -⟩ := h
  exact ⟨m, h1, h2⟩
/-- a tick from it -/
theorem Iv.tick {n : Nat} {sv : N1} {X : RS} (hn : n < 512) (h : Iv n sv X) : ∃ S', fX4_pass (X.2.1 0) = some S' ∧ TickX sv (X.2.1 0) S' ∧ ∀ i, i < 4 → (S'.1 3).2 i 0 = nI (sv i) := by
  obtain ⟨⟨M, hr⟩, hv, w0, hx⟩ := h
  obtain ⟨t, K, cl, sg, sv', sw, t1, t2, hz⟩ := hr.cur
  obtain ⟨S', M', x1, -, z1, -, -, -, g1, g2⟩ := tick_rel (M := M) hz (by omega) (by omega)
  have hsv : ∀ i, i < 4 → sv' i = sv i := fun i hi => by
    obtain ⟨nr, r, N, nq, nb, qs, ws, fb, gb, at_, ow, hX, -⟩ := hz
    obtain ⟨a1, a2, a3, a4⟩ := hX.2.2.1.2.1 i hi
    have hm : mxS i ≤ 16 := by
      match i, hi with
      | 0, _ => decide
      | 1, _ => decide
      | 2, _ => decide
      | 3, _ => decide
      | i + 4, hi => exact absurd hi (by omega)
    have := (hv i hi).2
    exact (nI_eq (by omega) (by omega)).mp (a1.symm.trans (hv i hi).1)
  refine ⟨S', x1, ⟨fun w lb q => ?_, g2⟩, fun i hi => ?_⟩
  · obtain ⟨m, m1, m2⟩ := g1 w lb (q.sv (sv' := sv') (by rw [hsv 0 (by omega)]; exact Nat.le_refl _) (by rw [hsv 2 (by omega)]; exact Nat.le_refl _))
    exact ⟨m, by rw [← hsv 0 (by omega)]; exact m1, m2.sv (by rw [hsv 0 (by omega)]; exact Nat.le_refl _) (by rw [hsv 2 (by omega)]; exact Nat.le_refl _)⟩
  · obtain ⟨nr, r, N, nq, nb, qs, ws, fb, gb, at_, ow, hX, -⟩ := z1
    rw [(hX.2.2.1.2.1 i hi).1, hsv i hi]
/-- run(1) from it -/
theorem Iv.run1 {n : Nat} {sv : N1} {X : RS} (hn : n < 512) (h : Iv n sv X) : ∃ X', fX5_run (1 : Int32) X = some (ssum 1 (X'.2.1 0) 2 - ssum 1 (X.2.1 0) 2, X') ∧ fX4_pass (X.2.1 0) = some (X'.2.1 0) ∧ TickX sv (X.2.1 0) (X'.2.1 0) ∧ Iv (n + 1) sv X' := by
  obtain ⟨S', x1, g, hv'⟩ := h.tick hn
  obtain ⟨m, m1, m2⟩ := h.rec
  obtain ⟨X', m', y1, y2, -⟩ := run_val (k := 1) m1 m2 (by omega) (by omega) ⟨S', x1, rfl⟩
  obtain ⟨⟨M, hr⟩, hv, w0, hx⟩ := h
  obtain ⟨q, r, z1, z2, z3, z4⟩ := run_rel n X M hn hr (nI 1)
  obtain rfl : q = (ssum 1 S' 2 - ssum 1 (X.2.1 0) 2, X') := Option.some.inj (z1.symm.trans y1)
  obtain ⟨j, j1, j2⟩ := g.1 w0 o0 hx
  refine ⟨X', by rw [y2]; exact y1, by rw [y2]; exact x1, by rw [y2]; exact g, ⟨_, z4⟩, fun i hi => ⟨?_, (hv i hi).2⟩, w0 + nI j, ?_⟩
  · show ((X'.2.1 0).1 3).2 i 0 = _
    rw [y2]
    exact hv' i hi
  · show EX sv o0 o0 _ (X'.2.1 0)
    rw [y2]
    exact j2
