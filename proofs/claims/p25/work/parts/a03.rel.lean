/-! the remembered states, in both; the relation of object and reference -/
def blk (p : Pg) (k : Nat) : Pg := fun x => p (855 * k + x)
def pcp (p : Pg) (a b : Nat) : Pg := fun x => if 855 * b ≤ x ∧ x < 855 * b + 855 then p (855 * a + (x - 855 * b)) else p x
theorem pcp_to {p : Pg} {a b x : Nat} (h : x < 855) : pcp p a b (855 * b + x) = p (855 * a + x) := by
  unfold pcp
  rw [if_pos (by omega), show 855 * b + x - 855 * b = x by omega]
theorem pcp_off {p : Pg} {a b x : Nat} (h : x < 855 * b ∨ 855 * b + 855 ≤ x) : pcp p a b x = p x := if_neg (by omega)
theorem copies_go {M : MS} {a b : Nat} (ha : a ≤ 5) (hb : b ≤ 5) (hne : a ≠ b) : ∀ (k j m : Nat) (p : Pg), j + k = 855 → k < m → (∀ x, p x = if 855 * b ≤ x ∧ x < 855 * b + j then M.1 (855 * a + (x - 855 * b)) else M.1 x) → iter (bfX6_copies_2 (nI a) (nI b)) m (nI j, (p, M.2)) = some (pcp M.1 a b, M.2) := by
  intro k
  induction k with
  | zero =>
    intro j m p hj hm hp
    obtain ⟨m, rfl⟩ : ∃ k, m = k + 1 := ⟨m - 1, by omega⟩
    obtain rfl : j = 855 := by omega
    rw [it_s, bfX6_copies_2, if_pos (by decide)]
    exact congrArg (fun q => some (q, M.2)) (funext hp)
  | succ k ih =>
    intro j m p hj hm hp
    obtain ⟨m, rfl⟩ : ∃ k, m = k + 1 := ⟨m - 1, by omega⟩
    rw [it_s, bfX6_copies_2, if_neg (fun z => by have := (len_855 (by omega)).mp z; omega), nM_855, nM_855, nI_add, nI_add, if_pos (okI_nI (by omega) (by decide)), if_pos (okI_nI (by omega) (by decide)), nm, nI_clamp (by omega), nI_clamp (by omega), nA_1]
    refine ih (j + 1) m _ (by omega) (by omega) (fun x => ?_)
    show upd p (855 * b + j) (p (855 * a + j)) x = _
    by_cases e : x = 855 * b + j
    · rw [up_s e, hp, if_neg (by omega), if_pos (by omega), e, show 855 * b + j - 855 * b = j by omega]
    · rw [up_n e, hp]
      by_cases c : 855 * b ≤ x ∧ x < 855 * b + j
      · rw [if_pos c, if_pos (by omega)]
      · rw [if_neg c, if_neg (by omega)]
theorem copies_eq {M : MS} {a b : Nat} (ha : a ≤ 5) (hb : b ≤ 5) (hne : a ≠ b) : fX6_copies (nI a) (nI b) M = some (pcp M.1 a b, M.2) :=
  copies_go ha hb hne 855 0 FU M.1 (by omega) (by unfold FU; omega) (fun x => by rw [if_neg (by omega)])
section RL
variable {t K g0 : Nat} {cl sg : N2} {sv sw : N1} {S : StS} {p p' : Pg}
theorem RZ.cgp (h : RZ g0 t K cl sg sv sw S p) (e : ∀ x, x < 855 → p' x = p x) : RZ g0 t K cl sg sv sw S p' := by
  obtain ⟨nr, r, N, nq, nb, qs, ws, fb, gb, at_, ow, hX, hT, hD, hR, hY, hL⟩ := h
  have hq := hX.2.2.1.2.2
  exact ⟨nr, r, N, nq, nb, qs, ws, fb, gb, at_, ow, hX.cg (Nat.le_refl _) hq.1 hq.2 (fun _ _ => rfl) (fun x hx => e x (by omega)), hT.cg (Nat.le_refl _) (fun x _ _ => e x (by omega)), hD.cg (Nat.le_refl _) (fun _ _ _ => rfl) (fun x hx => e x (by omega)), hR.cg (Nat.le_refl _) (Nat.le_refl _) (Nat.le_refl _) (fun x _ _ => e x (by omega)), hY.cg (fun _ _ _ => rfl) (fun x _ _ => e x (by omega)), hL.cg hR.2.1 (fun x _ _ => e x (by omega))⟩
end RL
def Cur (n : Nat) (S : StS) (p : Pg) : Prop := ∃ (t K : Nat) (cl sg : N2) (sv sw : N1), t ≤ 60 * n ∧ K ≤ 18000 * n ∧ RZ 0 t K cl sg sv sw S p
def Rel (n : Nat) (X : RS) (M : MS) : Prop := ∃ m, m ≤ 4 ∧ X.2.2 = nI m ∧ M.2.2 1 = nI m ∧ Cur n (X.2.1 0) M.1 ∧ ∀ i, i < m → Cur n (X.2.1 (2 + i)) (blk M.1 (i + 1))
theorem Cur.cg {n n' : Nat} {S : StS} {p p' : Pg} (h : Cur n S p) (hn : n ≤ n') (e : ∀ x, x < 855 → p' x = p x) : Cur n' S p' := by
  obtain ⟨t, K, cl, sg, sv, sw, h1, h2, h3⟩ := h
  exact ⟨t, K, cl, sg, sv, sw, by omega, by omega, h3.cgp e⟩
theorem Rel.mono {n : Nat} {X : RS} {M : MS} (h : Rel n X M) : Rel (n + 1) X M := by
  obtain ⟨m, h1, h2, h3, h4, h5⟩ := h
  exact ⟨m, h1, h2, h3, h4.cg (by omega) (fun _ _ => rfl), fun i hi => (h5 i hi).cg (by omega) (fun _ _ => rfl)⟩
theorem keep_rel {n : Nat} {X : RS} {M : MS} (h : Rel n X M) : ∃ X1 M1, fX5_keepState X = some X1 ∧ fX6_begins M = some M1 ∧ Rel n X1 M1 ∧ X1.2.1 0 = X.2.1 0 ∧ ∀ x, x < 855 → M1.1 x = M.1 x := by
  obtain ⟨m, h1, h2, h3, h4, h5⟩ := h
  have b39 : ∀ (M : MS) (m : Nat), m < 4 → M.2.2 1 = nI m → bfX6_begins_39 M = some (pcp M.1 0 (m + 1), M.2.1, upd M.2.2 1 (nI (m + 1))) := fun M m hm h3 => by
    unfold bfX6_begins_39
    rw [h3, nA_1, nm]
    dsimp only
    rw [up_s rfl, show fX6_copies (0 : Int32) (nI (m + 1)) (M.1, M.2.1, upd M.2.2 1 (nI (m + 1))) = some (pcp M.1 0 (m + 1), M.2.1, upd M.2.2 1 (nI (m + 1))) from copies_eq (a := 0) (by omega) (by omega) (by omega), ob_eq]
  have k12 : ∀ (X : RS) (m : Nat), m < 4 → X.2.2 = nI m → bfX5_keepState_12 X = some ((rset X (m + 2) (X.2.1 0)).1, (rset X (m + 2) (X.2.1 0)).2.1, nI (m + 1)) := fun X m hm h2 => by
    unfold bfX5_keepState_12 bfX5_keepState_63
    rw [h2, if_neg (nI_pos (by omega)), if_neg (fun z => by have := (len_4 (by omega)).mp z; omega), if_pos (okI_nI (by omega) (by decide)), nI_clamp (by omega), nm, nm]
    show some ((rset X (m + 2) (X.2.1 0)).1, (rset X (m + 2) (X.2.1 0)).2.1, X.2.2 + 1) = _
    rw [h2, nA_1]
  by_cases c : m = 4
  · subst c
    have eX : fX5_keepState X = bfX5_keepState_12 (rdrop X) := by
      unfold fX5_keepState
      rw [if_pos (show X.2.2 = (4 : Int32) from h2), nm]
    have e3 : (rdrop X).2.2 = nI 3 := by
      show X.2.2 - 1 = _
      rw [h2]
      rfl
    rw [k12 _ 3 (by omega) e3] at eX
    have eM : fX6_begins M = some (pcp (pcp (pcp (pcp M.1 2 1) 3 2) 4 3) 0 4, M.2.1, upd (upd M.2.2 1 (nI 3)) 1 (nI 4)) := by
      unfold fX6_begins
      rw [if_pos (show M.2.2 1 = (4 : Int32) from h3), show FU = 996 + 1 + 1 + 1 + 1 from rfl]
      rw [it_s, bfX6_begins_10, if_neg (by decide), show fX6_copies ((1 : Int32) + 1) (1 : Int32) M = some (pcp M.1 2 1, M.2) from copies_eq (a := 2) (b := 1) (by omega) (by omega) (by omega), ob_eq]
      rw [it_s, bfX6_begins_10, if_neg (by decide), show fX6_copies ((1 : Int32) + 1 + 1) ((1 : Int32) + 1) (pcp M.1 2 1, M.2) = some (pcp (pcp M.1 2 1) 3 2, M.2) from copies_eq (a := 3) (b := 2) (by omega) (by omega) (by omega), ob_eq]
      rw [it_s, bfX6_begins_10, if_neg (by decide), show fX6_copies ((1 : Int32) + 1 + 1 + 1) ((1 : Int32) + 1 + 1) (pcp (pcp M.1 2 1) 3 2, M.2) = some (pcp (pcp (pcp M.1 2 1) 3 2) 4 3, M.2) from copies_eq (a := 4) (b := 3) (by omega) (by omega) (by omega), ob_eq]
      rw [it_s, bfX6_begins_10, if_pos (by decide), nm]
      dsimp only
      rw [h3, show nI 4 - (1 : Int32) = nI 3 from rfl]
      exact b39 (pcp (pcp (pcp M.1 2 1) 3 2) 4 3, M.2.1, upd M.2.2 1 (nI 3)) 3 (by omega) (by dsimp only; exact up_s rfl)
    refine ⟨_, _, eX, eM, ⟨4, by omega, rfl, by dsimp only; exact up_s rfl, ?_, fun i hi => ?_⟩, ?_, fun x hx => ?_⟩
    · refine Cur.cg (n := n) (p := M.1) ?_ (Nat.le_refl _) (fun x hx => ?_)
      · show Cur n (va_up (rdrop X).2.1 5 ((rdrop X).2.1 0) 0) M.1
        rw [va_up_ne _ _ (by omega)]
        exact h4
      · show pcp (pcp (pcp (pcp M.1 2 1) 3 2) 4 3) 0 4 x = M.1 x
        rw [pcp_off (by omega), pcp_off (by omega), pcp_off (by omega), pcp_off (by omega)]
    · match i, hi with
      | 0, _ =>
        refine Cur.cg (n := n) (p := blk M.1 2) ?_ (Nat.le_refl _) (fun x hx => ?_)
        · show Cur n (va_up (rdrop X).2.1 5 ((rdrop X).2.1 0) 2) _
          rw [va_up_ne _ _ (by omega)]
          exact h5 1 (by omega)
        · show pcp (pcp (pcp (pcp M.1 2 1) 3 2) 4 3) 0 4 (855 * 1 + x) = M.1 (855 * 2 + x)
          rw [pcp_off (by omega), pcp_off (by omega), pcp_off (by omega), pcp_to hx]
      | 1, _ =>
        refine Cur.cg (n := n) (p := blk M.1 3) ?_ (Nat.le_refl _) (fun x hx => ?_)
        · show Cur n (va_up (rdrop X).2.1 5 ((rdrop X).2.1 0) 3) _
          rw [va_up_ne _ _ (by omega)]
          exact h5 2 (by omega)
        · show pcp (pcp (pcp (pcp M.1 2 1) 3 2) 4 3) 0 4 (855 * 2 + x) = M.1 (855 * 3 + x)
          rw [pcp_off (by omega), pcp_off (by omega), pcp_to hx, pcp_off (by omega)]
      | 2, _ =>
        refine Cur.cg (n := n) (p := blk M.1 4) ?_ (Nat.le_refl _) (fun x hx => ?_)
        · show Cur n (va_up (rdrop X).2.1 5 ((rdrop X).2.1 0) 4) _
          rw [va_up_ne _ _ (by omega)]
          exact h5 3 (by omega)
        · show pcp (pcp (pcp (pcp M.1 2 1) 3 2) 4 3) 0 4 (855 * 3 + x) = M.1 (855 * 4 + x)
          rw [pcp_off (by omega), pcp_to hx, pcp_off (by omega), pcp_off (by omega)]
      | 3, _ =>
        refine Cur.cg (n := n) (p := M.1) ?_ (Nat.le_refl _) (fun x hx => ?_)
        · show Cur n (va_up (rdrop X).2.1 5 ((rdrop X).2.1 0) 5) _
          rw [va_up_self]
          exact h4
        · show pcp (pcp (pcp (pcp M.1 2 1) 3 2) 4 3) 0 4 (855 * 4 + x) = M.1 x
          rw [pcp_to hx, pcp_off (by omega), pcp_off (by omega), pcp_off (by omega), show 855 * 0 + x = x by omega]
      | i + 4, hi => exact absurd hi (by omega)
    · show va_up (rdrop X).2.1 5 ((rdrop X).2.1 0) 0 = _
      rw [va_up_ne _ _ (by omega)]
      rfl
    · show pcp (pcp (pcp (pcp M.1 2 1) 3 2) 4 3) 0 4 x = M.1 x
      rw [pcp_off (by omega), pcp_off (by omega), pcp_off (by omega), pcp_off (by omega)]
  · have eX : fX5_keepState X = bfX5_keepState_12 X := by
      unfold fX5_keepState
      rw [if_neg (fun z => c ((eqn_4 (by omega)).mp (h2.symm.trans z)))]
    have eM : fX6_begins M = bfX6_begins_39 M := by
      unfold fX6_begins
      rw [if_neg (fun z => c ((eqn_4 (by omega)).mp (h3.symm.trans z)))]
    rw [k12 _ m (by omega) h2] at eX
    rw [b39 _ m (by omega) h3] at eM
    refine ⟨_, _, eX, eM, ⟨m + 1, by omega, rfl, by dsimp only; exact up_s rfl, ?_, fun i hi => ?_⟩, ?_, fun x hx => pcp_off (by omega)⟩
    · refine Cur.cg (n := n) (p := M.1) ?_ (Nat.le_refl _) (fun x hx => pcp_off (by omega))
      show Cur n (va_up X.2.1 (m + 2) (X.2.1 0) 0) M.1
      rw [va_up_ne _ _ (by omega)]
      exact h4
    · by_cases e : i = m
      · subst e
        refine Cur.cg (n := n) (p := M.1) ?_ (Nat.le_refl _) (fun x hx => ?_)
        · show Cur n (va_up X.2.1 (i + 2) (X.2.1 0) (2 + i)) _
          rw [show 2 + i = i + 2 by omega, va_up_self]
          exact h4
        · show pcp M.1 0 (i + 1) (855 * (i + 1) + x) = M.1 x
          rw [pcp_to hx, show 855 * 0 + x = x by omega]
      · refine Cur.cg (n := n) (p := blk M.1 (i + 1)) ?_ (Nat.le_refl _) (fun x hx => ?_)
        · show Cur n (va_up X.2.1 (m + 2) (X.2.1 0) (2 + i)) _
          rw [va_up_ne _ _ (by omega)]
          exact h5 i (by omega)
        · show pcp M.1 0 (m + 1) (855 * (i + 1) + x) = M.1 (855 * (i + 1) + x)
          exact pcp_off (by omega)
    · show va_up X.2.1 (m + 2) (X.2.1 0) 0 = _
      rw [va_up_ne _ _ (by omega)]
/-- the relation after a change of the current state alone -/
theorem Rel.put {n n' : Nat} {X1 X2 : RS} {M1 M2 : MS} (h : Rel n X1 M1) (hn : n ≤ n') (e1 : X2.2.2 = X1.2.2) (e2 : ∀ k, 2 ≤ k → X2.2.1 k = X1.2.1 k) (e3 : M2.2.2 1 = M1.2.2 1) (e4 : ∀ x, 855 ≤ x → x < 4275 → M2.1 x = M1.1 x) (hc : Cur n' (X2.2.1 0) M2.1) : Rel n' X2 M2 := by
  obtain ⟨m, h1, h2, h3, h4, h5⟩ := h
  refine ⟨m, h1, e1.trans h2, e3.trans h3, hc, fun i hi => ?_⟩
  rw [e2 _ (by omega)]
  refine (h5 i hi).cg hn (fun x hx => ?_)
  exact e4 _ (by omega) (by omega)
