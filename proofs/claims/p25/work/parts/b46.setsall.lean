/-! sets answers 1, and what it leaves -/
section ST
variable {L : Nat} {xs : Nat → Int32}
theorem sets12 (hL : L < 2 ^ 31) {c : Nat} (hc : c < 3) (K4 : Int32 × Int32 × (RS) → Option (Int32 × (RS))) : ∀ (k w m : Nat), w + k = 12 → k < m → ∀ S : StS, ∃ S', ∀ (n : Nat) (sv sw : N1) (d : Nat) (X : RS), n + k < 512 → J n sv sw d X → X.2.1 0 = S → ∃ X', iter (bfL_sets_12 L xs K4) m (1, nI c, nI w, X) = K4 (1, nI (c + 1), X') ∧ X'.2.1 0 = S' ∧ J (n + k) sv sw d X' := by
  intro k
  induction k with
  | zero =>
    intro w m hw hm S
    refine ⟨S, fun n sv sw d X _ h hX => ⟨X, ?_, hX, h⟩⟩
    obtain ⟨m, rfl⟩ : ∃ k, m = k + 1 := ⟨m - 1, by omega⟩
    obtain rfl : w = 12 := by omega
    rw [it_s, bfL_sets_12, if_pos (by decide), nA_1]
  | succ k ih =>
    intro w m hw hm S
    obtain ⟨m, rfl⟩ : ∃ k, m = k + 1 := ⟨m - 1, by omega⟩
    have hw' : w < 12 := by omega
    obtain ⟨a, ha, a1⟩ := cell_ok hL xs (k := 12 * c + w) (by omega)
    obtain ⟨v, hv, v1, v2⟩ := value_ok a1 w hw'
    obtain ⟨S', hS'⟩ := ih (w + 1) m (by omega) (by omega) (setS S c w v)
    refine ⟨S', fun n sv sw d X hn h hX => ?_⟩
    obtain ⟨X1, y1, y2, y3, y4⟩ := h.set (by omega) (c := c) (by omega) hw' v1 v2
    rw [hX] at y2
    obtain ⟨X', z1, z2, z3⟩ := hS' (n + 1) sv sw d X1 (by omega) y3 y2
    rw [show n + 1 + k = n + (k + 1) by omega] at z3
    refine ⟨X', ?_, z2, z3⟩
    rw [it_s, bfL_sets_12, if_neg (show ¬ (12 : Int32) ≤ nI w from nI_ge (b := 12) hw' (by omega)), nM_12, nI_add, ha, ob_eq, hv, ob_eq, show fX5_property (nI c) (nI w) X = _ from prop_X (by omega) hw', ob_eq, if_neg (by decide), y1, ob_eq, if_pos rfl, show fX5_property (nI c) (nI w) X1 = _ from prop_X (by omega) hw', y4, ob_eq, if_pos rfl]
    unfold bfL_sets_81
    rw [nA_1]
    exact z1
/-- what the law asks of cell 36 -/
def Sv (u : Int32) (sv : N1) : Prop := ((1 : Int32) + (u - u / (4 : Int32) * (4 : Int32)) = nI (sv 0) ∧ (1 : Int32) + ((u >>> ((3 : Int32) &&& 31)) - (u >>> ((3 : Int32) &&& 31)) / (6 : Int32) * (6 : Int32)) = nI (sv 1) ∧ (1 : Int32) + ((u >>> ((7 : Int32) &&& 31)) - (u >>> ((7 : Int32) &&& 31)) / (3 : Int32) * (3 : Int32)) = nI (sv 2) ∧ (1 : Int32) + ((u >>> ((10 : Int32) &&& 31)) - (u >>> ((10 : Int32) &&& 31)) / (4 : Int32) * (4 : Int32)) = nI (sv 3)) ∧ ∀ i, i < 4 → 1 ≤ sv i ∧ sv i ≤ mxS i
theorem sh_ok {a d : Nat} (ha : a < 2 ^ 31) (s : Int32) (k : Nat) (hs : (s.toBitVec.smod 32).toNat = k) (h0 : 0 < d) (hd : d < 2 ^ 31) : (nI a >>> s) - (nI a >>> s) / nI d * nI d = nI (a / 2 ^ k % d) := by
  rw [pk_shrN ha s k hs, rem_nI (Nat.lt_of_le_of_lt (Nat.div_le_self _ _) ha) h0 hd]
theorem switches (u : Int32) : ∀ (k i m : Nat), i + k = 3 → k < m → ∀ S : StS, ∃ S', ∀ (n : Nat) (sv sw : N1) (d : Nat) (X : RS), n + k < 512 → J n sv sw d X → (∀ j, i ≤ j → sw j = 0) → X.2.1 0 = S → ∃ X' sw', iter (bfL_sets_193 L xs) m (1, u, nI i, X) = bfL_sets_193 L xs (fun _ => none) (1, u, nI 3, X') ∧ X'.2.1 0 = S' ∧ J (n + k) sv sw' d X' := by
  intro k
  induction k with
  | zero =>
    intro i m hi hm S
    refine ⟨S, fun n sv sw d X _ h _ hX => ⟨X, sw, ?_, hX, h⟩⟩
    obtain ⟨m, rfl⟩ : ∃ k, m = k + 1 := ⟨m - 1, by omega⟩
    obtain rfl : i = 3 := by omega
    have e : (3 : Int32) ≤ nI 3 := by decide
    rw [it_s, bfL_sets_193, bfL_sets_193, if_pos e, if_pos e]
  | succ k ih =>
    intro i m hi hm S
    obtain ⟨m, rfl⟩ : ∃ k, m = k + 1 := ⟨m - 1, by omega⟩
    have one : ∀ v : Nat, v ≤ 1 → (∀ (n : Nat) (sv sw : N1) (d : Nat) (X : RS), iter (bfL_sets_193 L xs) (m + 1) (1, u, nI i, X) = bfL_sets_224 L xs (iter (bfL_sets_193 L xs) m) u (nI i) (nI i) (nI v) X) → ∃ S', ∀ (n : Nat) (sv sw : N1) (d : Nat) (X : RS), n + (k + 1) < 512 → J n sv sw d X → (∀ j, i ≤ j → sw j = 0) → X.2.1 0 = S → ∃ X' sw', iter (bfL_sets_193 L xs) (m + 1) (1, u, nI i, X) = bfL_sets_193 L xs (fun _ => none) (1, u, nI 3, X') ∧ X'.2.1 0 = S' ∧ J (n + (k + 1)) sv sw' d X' := fun v hv he => by
      obtain ⟨S', hS'⟩ := ih (i + 1) m (by omega) (by omega) (sput 4 S (nI i) (0 : Int32) (nI v))
      refine ⟨S', fun n sv sw d X hn h h0 hX => ?_⟩
      obtain ⟨X1, y1, y2, y3⟩ := h.switch (by omega) (i := i) (by omega) hv
      rw [hX] at y2
      rw [h0 i (Nat.le_refl _)] at y1
      obtain ⟨X', sw', z1, z2, z3⟩ := hS' (n + 1) sv _ d X1 (by omega) y3 (fun j hj => (if_neg (by omega)).trans (h0 j (by omega))) y2
      rw [show n + 1 + k = n + (k + 1) by omega] at z3
      refine ⟨X', sw', ?_, z2, z3⟩
      rw [he n sv sw d X]
      unfold bfL_sets_224 bfL_sets_235
      rw [y1, ob_eq, if_pos (show nI 0 = (0 : Int32) from rfl), nA_1]
      exact z1
    have e3 : ¬ (3 : Int32) ≤ nI i := nI_ge (b := 3) (by omega) (by omega)
    by_cases c : ((u >>> (((16 : Int32) + nI i) &&& 31)) &&& (1 : Int32)) = (1 : Int32)
    · refine one 1 (by omega) (fun n sv sw d X => ?_)
      rw [it_s, bfL_sets_193, if_neg e3, if_neg (by decide), if_pos c]
      rfl
    · refine one 0 (by omega) (fun n sv sw d X => ?_)
      rw [it_s, bfL_sets_193, if_neg e3, if_neg (by decide), if_neg c]
      rfl
theorem sets4 (hL : L < 2 ^ 31) : ∀ (k c m : Nat), c + k = 3 → k < m → ∀ S : StS, ∃ S', ∀ (n : Nat) (sv sw : N1) (d : Nat) (X : RS), n + 12 * k < 512 → J n sv sw d X → X.2.1 0 = S → ∃ X', iter (bfL_sets_4 L xs) m (1, nI c, X) = bfL_sets_4 L xs (fun _ => none) (1, nI 3, X') ∧ X'.2.1 0 = S' ∧ J (n + 12 * k) sv sw d X' := by
  intro k
  induction k with
  | zero =>
    intro c m hc hm S
    refine ⟨S, fun n sv sw d X _ h hX => ⟨X, ?_, hX, h⟩⟩
    obtain ⟨m, rfl⟩ : ∃ k, m = k + 1 := ⟨m - 1, by omega⟩
    obtain rfl : c = 3 := by omega
    rw [it_s, bfL_sets_4, bfL_sets_4, if_pos (by decide), if_pos (by decide)]
  | succ k ih =>
    intro c m hc hm S
    obtain ⟨m, rfl⟩ : ∃ k, m = k + 1 := ⟨m - 1, by omega⟩
    obtain ⟨S1, hS1⟩ := sets12 (xs := xs) hL (c := c) (by omega) (iter (bfL_sets_4 L xs) m) 12 0 FU (by omega) (by unfold FU; omega) S
    obtain ⟨S', hS'⟩ := ih (c + 1) m (by omega) (by omega) S1
    refine ⟨S', fun n sv sw d X hn h hX => ?_⟩
    obtain ⟨X1, y1, y2, y3⟩ := hS1 n sv sw d X (by omega) h hX
    obtain ⟨X', z1, z2, z3⟩ := hS' (n + 12) sv sw d X1 (by omega) y3 y2
    rw [show n + 12 + 12 * k = n + 12 * (k + 1) by omega] at z3
    refine ⟨X', ?_, z2, z3⟩
    rw [it_s, bfL_sets_4, if_neg (show ¬ (3 : Int32) ≤ nI c from nI_ge (b := 3) (by omega) (by omega))]
    exact y1.trans z1
theorem sets_1 (hL : L < 2 ^ 31) (S : StS) : ∃ (S' : StS) (sv : N1) (a : Nat), fL_cell L xs (36 : Int32) = some (nI a) ∧ a < 2 ^ 31 ∧ Sv (nI a) sv ∧ ∀ (X : RS), J 0 svF o0 0 X → X.2.1 0 = S → ∃ X', fL_sets L xs X = some (1, X') ∧ X'.2.1 0 = S' ∧ Iv 45 sv X' := by
  obtain ⟨a, ha, a1⟩ := cell_ok hL xs (k := 36) (by omega)
  have n0 := rm (m := a) (d := 4) a1 (by omega) (by omega)
  have n1 := sh_ok (a := a) (d := 6) a1 ((3 : Int32) &&& 31) 3 (by decide) (by omega) (by omega)
  have n2 := sh_ok (a := a) (d := 3) a1 ((7 : Int32) &&& 31) 7 (by decide) (by omega) (by omega)
  have n3 := sh_ok (a := a) (d := 4) a1 ((10 : Int32) &&& 31) 10 (by decide) (by omega) (by omega)
  have n4 := sh_ok (a := a) (d := 4) a1 ((13 : Int32) &&& 31) 13 (by decide) (by omega) (by omega)
  have n5 := sh_ok (a := a) (d := 3) a1 ((20 : Int32) &&& 31) 20 (by decide) (by omega) (by omega)
  have n6 := sh_ok (a := a) (d := 4) a1 ((22 : Int32) &&& 31) 22 (by decide) (by omega) (by omega)
  have n7 := sh_ok (a := a) (d := 5) a1 ((24 : Int32) &&& 31) 24 (by decide) (by omega) (by omega)
  rw [show nI 4 = (4 : Int32) from rfl] at n0 n3 n4 n6
  rw [show nI 6 = (6 : Int32) from rfl] at n1
  rw [show nI 3 = (3 : Int32) from rfl] at n2 n5
  rw [show nI 5 = (5 : Int32) from rfl] at n7
  have b0 : a % 4 < 4 := Nat.mod_lt _ (by omega)
  have b1 : a / 2 ^ 3 % 6 < 6 := Nat.mod_lt _ (by omega)
  have b2 : a / 2 ^ 7 % 3 < 3 := Nat.mod_lt _ (by omega)
  have b3 : a / 2 ^ 10 % 4 < 4 := Nat.mod_lt _ (by omega)
  have b4 : a / 2 ^ 13 % 4 < 4 := Nat.mod_lt _ (by omega)
  have b5 : a / 2 ^ 20 % 3 < 3 := Nat.mod_lt _ (by omega)
  have b6 : a / 2 ^ 22 % 4 < 4 := Nat.mod_lt _ (by omega)
  have b7 : a / 2 ^ 24 % 5 < 5 := Nat.mod_lt _ (by omega)
  generalize a % 4 = v0 at n0 b0
  generalize a / 2 ^ 3 % 6 = v1 at n1 b1
  generalize a / 2 ^ 7 % 3 = v2 at n2 b2
  generalize a / 2 ^ 10 % 4 = v3 at n3 b3
  generalize a / 2 ^ 13 % 4 = v4 at n4 b4
  generalize a / 2 ^ 20 % 3 = v5 at n5 b5
  generalize a / 2 ^ 22 % 4 = v6 at n6 b6
  generalize a / 2 ^ 24 % 5 = v7 at n7 b7
  obtain ⟨S1, hS1⟩ := sets4 (xs := xs) hL 3 0 FU (by omega) (by unfold FU; omega) S
  obtain ⟨S2, hS2⟩ := switches (L := L) (xs := xs) (nI a) 3 0 FU (by omega) (by unfold FU; omega) ((sput 3 (sput 3 (sput 3 (sput 3 S1 (nI 0) (0 : Int32) (nI (1 + v0))) (nI 1) (0 : Int32) (nI (1 + v1))) (nI 2) (0 : Int32) (nI (1 + v2))) (nI 3) (0 : Int32) (nI (1 + v3))).1, upd (sput 3 (sput 3 (sput 3 (sput 3 S1 (nI 0) (0 : Int32) (nI (1 + v0))) (nI 1) (0 : Int32) (nI (1 + v1))) (nI 2) (0 : Int32) (nI (1 + v2))) (nI 3) (0 : Int32) (nI (1 + v3))).2 11 (nI v4))
  refine ⟨sput 2 (sput 2 (sput 2 S2 (nI v5) (0 : Int32) (nI (1 + v6))) (nI v5) (1 : Int32) (nI v7)) (nI v5) (2 : Int32) (nI v7 + (6 : Int32)), fun j => if j = 3 then 1 + v3 else if j = 2 then 1 + v2 else if j = 1 then 1 + v1 else if j = 0 then 1 + v0 else svF j, a, ha, a1, ⟨⟨?_, ?_, ?_, ?_⟩, fun i hi => ?_⟩, fun X h hX => ?_⟩
  · rw [n0, nB_1]
    rfl
  · rw [n1, nB_1]
    rfl
  · rw [n2, nB_1]
    rfl
  · rw [n3, nB_1]
    rfl
  · match i, hi with
    | 0, _ => exact ⟨show 1 ≤ 1 + v0 by omega, show 1 + v0 ≤ 4 by omega⟩
    | 1, _ => exact ⟨show 1 ≤ 1 + v1 by omega, show 1 + v1 ≤ 16 by omega⟩
    | 2, _ => exact ⟨show 1 ≤ 1 + v2 by omega, show 1 + v2 ≤ 4 by omega⟩
    | 3, _ => exact ⟨show 1 ≤ 1 + v3 by omega, show 1 + v3 ≤ 16 by omega⟩
    | i + 4, hi => exact absurd hi (by omega)
  · obtain ⟨X1, x1, x2, x3⟩ := hS1 0 svF o0 0 X (by omega) h hX
    obtain ⟨X2, c1, c2, c3⟩ := x3.server (by omega) (i := 0) (v := 1 + v0) (by omega) (by omega) (show 1 + v0 ≤ 4 by omega)
    obtain ⟨X3, d1, d2, d3⟩ := c3.server (by omega) (i := 1) (v := 1 + v1) (by omega) (by omega) (show 1 + v1 ≤ 16 by omega)
    obtain ⟨X4, e1, e2, e3⟩ := d3.server (by omega) (i := 2) (v := 1 + v2) (by omega) (by omega) (show 1 + v2 ≤ 4 by omega)
    obtain ⟨X5, f1, f2, f3⟩ := e3.server (by omega) (i := 3) (v := 1 + v3) (by omega) (by omega) (show 1 + v3 ≤ 16 by omega)
    obtain ⟨X6, g1, g2, g3⟩ := f3.disc (by omega) (v := v4) (by omega)
    rw [x2] at c2
    rw [c2] at d2
    rw [d2] at e2
    rw [e2] at f2
    rw [f2] at g2
    obtain ⟨X7, sw', h1, h2, h3⟩ := hS2 _ _ _ _ X6 (by omega) g3 (fun _ _ => rfl) g2
    obtain ⟨X8, i1, i2, i3⟩ := h3.surge (by omega) (c := v5) (x := 1 + v6) (y := v7) (by omega) (by omega) (by omega) (by omega)
    rw [h2] at i2
    refine ⟨X8, ?_, i2, ?_⟩
    · unfold fL_sets
      refine x1.trans ?_
      rw [bfL_sets_4, if_pos (by decide), show fL_cell L xs (36 : Int32) = some (nI a) from ha, ob_eq, if_neg (by decide), n0, nB_1, show fX5_setServer (0 : Int32) (nI (1 + v0)) X1 = _ from c1, ob_eq, if_pos (show nI (svF 0) = (2 : Int32) from rfl), n1, nB_1, show fX5_setServer (1 : Int32) (nI (1 + v1)) X2 = _ from d1, ob_eq, if_pos (show nI (if 1 = 0 then 1 + v0 else svF 1) = (8 : Int32) from rfl), n2, nB_1, show fX5_setServer (2 : Int32) (nI (1 + v2)) X3 = _ from e1, ob_eq, if_pos (show nI (if 2 = 1 then 1 + v1 else if 2 = 0 then 1 + v0 else svF 2) = (1 : Int32) from rfl), n3, nB_1, show fX5_setServer (3 : Int32) (nI (1 + v3)) X4 = _ from f1, ob_eq, if_pos (show nI (if 3 = 2 then 1 + v2 else if 3 = 1 then 1 + v1 else if 3 = 0 then 1 + v0 else svF 3) = (4 : Int32) from rfl), n4, g1, ob_eq, if_pos (show nI 0 = (0 : Int32) from rfl)]
      unfold bfL_sets_189
      refine h1.trans ?_
      rw [bfL_sets_193, if_pos (by decide), if_neg (by decide), n5, n6, n7, nB_1, i1, ob_eq, if_pos rfl]
      unfold bfL_sets_289
      rw [if_pos (Or.inr rfl)]
    · exact i3
end ST
