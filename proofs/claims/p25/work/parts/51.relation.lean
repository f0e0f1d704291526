/-! the relation of a State with a page: both are codes of the same numbers -/
def owI : Nat → Int32
  | 0 => -8
  | k + 1 => nI k
def wsI : Nat → Int32
  | 0 => -9
  | k + 1 => nI k
def loL (j : Nat) : Nat := [0, 0, 1, 1, 1, 1, 1, 0, 1, 0, 0, 0].getD j 0
def hiL (j : Nat) : Nat := [50, 50, 60, 6, 40, 16, 64, 3, 12, 12, 20, 10].getD j 0
def mxS (i : Nat) : Nat := [4, 16, 4, 16].getD i 0
abbrev Pg : Type := Nat → Int32
abbrev N2 : Type := Nat → Nat → Nat
abbrev N1 : Type := Nat → Nat
/-- what stays through a tick: the page's other blocks; sums at the tick's start; the remembered states; the good work at some time before -/
abbrev Fx : Type := Pg × (Int32 × Int32 × Int32 × Int32) × Nat
/-- clients -/
def gC (T : Tb) (p : Pg) (cl : N2) : Prop := T.1 = 6 ∧ ∀ i j, i < 6 → j < 12 → T.2 i j = nI (cl i j) ∧ p (12 * i + j) = nI (cl i j) ∧ loL j ≤ cl i j ∧ cl i j ≤ hiL j
/-- surges -/
def gS (T : Tb) (p : Pg) (sg : N2) (t : Nat) : Prop := T.1 = 6 ∧ ∀ i, i < 6 → (∀ j, j < 3 → T.2 i j = nI (sg i j) ∧ p (72 + 3 * i + j) = nI (sg i j)) ∧ sg i 0 ≤ 4 ∧ sg i 1 ≤ sg i 2 ∧ sg i 2 ≤ t + 200 ∧ (sg i 0 = 0 → sg i 2 = 0)
/-- tallies -/
def gT (T : Tb) (p : Pg) (K : Nat) : Prop := T.1 = 6 ∧ ∀ i, i < 6 → (∀ j, j < 8 → T.2 i j = p (90 + 8 * i + j)) ∧ (∀ j, j < 6 → T.2 i (8 + j) = p (138 + 6 * i + j)) ∧ ∃ x y, T.2 i 0 = nI x ∧ T.2 i 1 = nI y ∧ x ≤ K ∧ y ≤ K
/-- servers -/
def gV (T : Tb) (p : Pg) (sv : N1) (nq nb : Nat) : Prop := T.1 = 4 ∧ (∀ i, i < 4 → T.2 i 0 = nI (sv i) ∧ p (174 + i) = nI (sv i) ∧ 1 ≤ sv i ∧ sv i ≤ mxS i) ∧ nq ≤ sv 1 ∧ nb ≤ sv 3
/-- switches -/
def gW (T : Tb) (p : Pg) (sw : N1) : Prop := T.1 = 3 ∧ ∀ i, i < 3 → T.2 i 0 = nI (sw i) ∧ p (179 + i) = nI (sw i) ∧ sw i ≤ 1
/-- the history -/
def gH (T : Tb) (p : Pg) : Prop := T.1 = 64 ∧ ∀ i j, i < 64 → j < 4 → T.2 i j = p (599 + 4 * i + j)
/-- numbers: discipline, clock, seed, next request, good, wasted, longest -/
def gD (R : Pg) (p : Pg) (t N K g0 : Nat) : Prop := (∃ d, R 11 = nI d ∧ p 178 = nI d ∧ d ≤ 3) ∧ R 12 = nI t ∧ p 182 = nI t ∧ R 13 = p 184 ∧ R 14 = nI N ∧ p 183 = nI N ∧ N ≤ K ∧ (∃ g, R 15 = nI g ∧ p 185 = nI g ∧ g0 ≤ g ∧ g ≤ K) ∧ R 16 = p 186 ∧ R 17 = p 187
/-- live requests: number, client, deadline, tries, waits, when, delay -/
def gR (T : Tb) (p : Pg) (nr : Nat) (r : N2) (t N lo wl : Nat) (E : Nat → Prop) : Prop := T.1 = nr ∧ nr ≤ 16 ∧ p 188 = nI nr ∧ (∀ i j, i < nr → j < 7 → T.2 i j = nI (r i j) ∧ p (189 + 8 * i + j) = nI (r i j)) ∧ (∀ i j, i < j → j < nr → r i 0 < r j 0) ∧ ∀ i, i < nr → r i 0 < N ∧ r i 1 < 6 ∧ r i 2 ≤ t + 60 ∧ r i 3 ≤ 6 ∧ r i 4 ≤ 1 ∧ r i 5 ≤ t + 64 ∧ r i 6 ≤ 64 ∧ (r i 4 = 1 → r i 3 ≤ 5 ∧ wl ≤ r i 5 ∧ r i 5 < r i 2) ∧ (¬ E (r i 0) → 1 ≤ r i 3) ∧ (r i 4 = 0 → ¬ E (r i 0) → lo ≤ r i 5)
/-- the attempts' slots -/
def gA (p : Pg) (at_ : N2) (ow : N1) : Prop := ∀ a, a < 24 → p (317 + 10 * a + 9) = nI (at_ a 9) ∧ at_ a 9 ≤ 1 ∧ (at_ a 9 = 1 → p (317 + 10 * a) = owI (ow a) ∧ ∀ c, 1 ≤ c → c < 8 → p (317 + 10 * a + c) = nI (at_ a c))
/-- the front queue -/
def gQ (T : Tb) (p : Pg) (nq : Nat) (qs : N1) (at_ : N2) (ow : N1) : Prop := T.1 = nq ∧ nq ≤ 16 ∧ p 557 = nI nq ∧ ∀ k, k < nq → p (558 + k) = nI (qs k) ∧ qs k < 24 ∧ at_ (qs k) 9 = 1 ∧ (T.2 k 0 = owI (ow (qs k)) ∧ T.2 k 1 = nI (at_ (qs k) 1) ∧ T.2 k 2 = nI (at_ (qs k) 3) ∧ T.2 k 3 = nI (at_ (qs k) 5) ∧ T.2 k 4 = 0) ∧ at_ (qs k) 2 = at_ (qs k) 3 ∧ at_ (qs k) 4 = at_ (qs k) 5 ∧ 1 ≤ at_ (qs k) 3 ∧ at_ (qs k) 3 ≤ 12 ∧ at_ (qs k) 5 ≤ 12 ∧ at_ (qs k) 6 = 0 ∧ at_ (qs k) 7 = 1
/-- the front workers -/
def gF (T : Tb) (p : Pg) (ws : N1) (at_ : N2) (ow : N1) (Zf : Nat → Prop) : Prop := T.1 = 4 ∧ ∀ w, w < 4 → p (591 + w) = wsI (ws w) ∧ (ws w = 0 → T.2 w 0 = -9) ∧ ∀ a, ws w = a + 1 → a < 24 ∧ at_ a 9 = 1 ∧ p (317 + 10 * a + 8) = nI w ∧ (T.2 w 0 = owI (ow a) ∧ T.2 w 1 = nI (at_ a 1) ∧ T.2 w 2 = nI (at_ a 3) ∧ T.2 w 3 = nI (at_ a 5) ∧ T.2 w 4 = nI (at_ a 6) ∧ T.2 w 5 = nI (at_ a 7)) ∧ at_ a 3 + at_ a 5 + at_ a 6 ≤ 24 ∧ 2 ≤ at_ a 7 ∧ at_ a 7 ≤ 4 ∧ (at_ a 7 = 2 → at_ a 4 = at_ a 5 ∧ (Zf w ∨ 1 ≤ at_ a 3)) ∧ (at_ a 7 = 3 → at_ a 4 = at_ a 5 ∧ at_ a 3 = 0 ∧ 1 ≤ at_ a 5) ∧ (at_ a 7 = 4 → at_ a 3 = 0)
/-- the back queue -/
def gB (T : Tb) (p : Pg) (nb : Nat) (fb ws : N1) (at_ : N2) : Prop := T.1 = nb ∧ nb ≤ 16 ∧ p 574 = nI nb ∧ (∀ k, k < nb → fb k < 4 ∧ T.2 k 0 = nI (fb k) ∧ ∃ a, ws (fb k) = a + 1 ∧ p (575 + k) = nI a ∧ at_ a 7 = 3) ∧ ∀ k k', k < nb → k' < nb → fb k = fb k' → k = k'
/-- the back workers -/
def gG (T : Tb) (p : Pg) (gb ws : N1) (at_ : N2) (Zb : Nat → Prop) : Prop := T.1 = 4 ∧ (∀ w, w < 4 → T.2 w 0 = wsI (gb w) ∧ (gb w = 0 → p (595 + w) = -9) ∧ ∀ f, gb w = f + 1 → f < 4 ∧ ∃ a, ws f = a + 1 ∧ p (595 + w) = nI a ∧ at_ a 7 = 4 ∧ (Zb w ∨ 1 ≤ at_ a 5)) ∧ (∀ w w', w < 4 → w' < 4 → gb w ≠ 0 → gb w = gb w' → w = w') ∧ ∀ f a, f < 4 → ws f = a + 1 → at_ a 7 = 4 → ∃ w, w < 4 ∧ gb w = f + 1
/-- no two of them have one slot, and each slot in use is of one -/
def gU (nq : Nat) (qs ws : N1) (at_ : N2) : Prop := (∀ k k', k < nq → k' < nq → qs k = qs k' → k = k') ∧ (∀ w w', w < 4 → w' < 4 → ws w ≠ 0 → ws w = ws w' → w = w') ∧ (∀ k w, k < nq → w < 4 → ws w ≠ qs k + 1) ∧ ∀ a, a < 24 → at_ a 9 = 1 → (∃ k, k < nq ∧ qs k = a) ∨ ∃ w, w < 4 ∧ ws w = a + 1
/-- requests and their attempts; E: those that have none for the moment -/
def gL (p : Pg) (nr : Nat) (r : N2) (at_ : N2) (ow : N1) (t : Nat) (E : Nat → Prop) : Prop := (∀ i, i < nr → r i 4 = 0 → ¬ E (r i 0) → r i 7 < 24 ∧ at_ (r i 7) 9 = 1 ∧ ow (r i 7) = r i 0 + 1 ∧ p (189 + 8 * i + 7) = nI (r i 7) ∧ r i 5 = at_ (r i 7) 1) ∧ ∀ a, a < 24 → at_ a 9 = 1 → at_ a 1 ≤ t + 64 ∧ (ow a = 0 ∧ at_ a 1 ≤ t ∨ ∃ i, i < nr ∧ r i 0 + 1 = ow a ∧ r i 4 = 0 ∧ r i 7 = a ∧ ¬ E (r i 0))
/-- the reference's own numbers in a tick, and what no tick touches -/
def gN (F : Fx) (t : Nat) (S : StS) (M : MS) : Prop := M.2.2 5 = nI t ∧ ssum 1 S 2 = F.2.1.1 + M.2.2 6 ∧ ssum 1 S 1 = F.2.1.2.1 + M.2.2 7 ∧ S.2 16 = F.2.1.2.2.1 + M.2.2 8 ∧ M.2.2 1 = F.2.1.2.2.2 ∧ ∀ x, 855 ≤ x → M.1 x = F.1 x
/-- the part that no step of a tick changes but its last -/
def gX (S : StS) (p : Pg) (cl sg : N2) (sv sw : N1) (t nq nb : Nat) : Prop := gC (S.1 0) p cl ∧ gS (S.1 2) p sg t ∧ gV (S.1 3) p sv nq nb ∧ gW (S.1 4) p sw ∧ gH (S.1 10) p
/-- the queues and workers -/
def gY (S : StS) (p : Pg) (nq nb : Nat) (qs ws fb gb : N1) (at_ : N2) (ow : N1) (Zf Zb : Nat → Prop) : Prop := gA p at_ ow ∧ gQ (S.1 6) p nq qs at_ ow ∧ gF (S.1 7) p ws at_ ow Zf ∧ gB (S.1 8) p nb fb ws at_ ∧ gG (S.1 9) p gb ws at_ Zb ∧ gU nq qs ws at_
/-- all, with the numbers that they code -/
def RG (F : Fx) (E Zf Zb : Nat → Prop) (t K lo wl : Nat) (cl sg : N2) (sv sw : N1) (nr : Nat) (r : N2) (N nq nb : Nat) (qs ws fb gb : N1) (at_ : N2) (ow : N1) (S : StS) (M : MS) : Prop :=
  gX S M.1 cl sg sv sw t nq nb ∧ gT (S.1 1) M.1 K ∧ gD S.2 M.1 t N K F.2.2 ∧ gR (S.1 5) M.1 nr r t N lo wl E ∧ gY S M.1 nq nb qs ws fb gb at_ ow Zf Zb ∧ gL M.1 nr r at_ ow t E ∧ gN F t S M
theorem gC.cg {T : Tb} {p p' : Pg} {cl : N2} (h : gC T p cl) (e : ∀ x, x < 72 → p' x = p x) : gC T p' cl := ⟨h.1, fun i j hi hj => by
  have := h.2 i j hi hj
  rw [e _ (by omega)]
  exact this⟩
theorem gS.cg {T : Tb} {p p' : Pg} {sg : N2} {t t' : Nat} (h : gS T p sg t) (ht : t ≤ t') (e : ∀ x, 72 ≤ x → x < 90 → p' x = p x) : gS T p' sg t' := ⟨h.1, fun i hi => by
  obtain ⟨h1, h2, h3, h4, h5⟩ := h.2 i hi
  refine ⟨fun j hj => ?_, h2, h3, by omega, h5⟩
  rw [e _ (by omega) (by omega)]
  exact h1 j hj⟩
theorem gT.cg {T : Tb} {p p' : Pg} {K K' : Nat} (h : gT T p K) (hK : K ≤ K') (e : ∀ x, 90 ≤ x → x < 174 → p' x = p x) : gT T p' K' := ⟨h.1, fun i hi => by
  obtain ⟨h1, h2, x, y, h3, h4, h5, h6⟩ := h.2 i hi
  refine ⟨fun j hj => ?_, fun j hj => ?_, x, y, h3, h4, by omega, by omega⟩
  · rw [e _ (by omega) (by omega)]
    exact h1 j hj
  · rw [e _ (by omega) (by omega)]
    exact h2 j hj⟩
theorem gV.cg {T : Tb} {p p' : Pg} {sv : N1} {nq nb nq' nb' : Nat} (h : gV T p sv nq nb) (h1 : nq' ≤ sv 1) (h2 : nb' ≤ sv 3) (e : ∀ x, 174 ≤ x → x < 178 → p' x = p x) : gV T p' sv nq' nb' := ⟨h.1, fun i hi => by
  rw [e _ (by omega) (by omega)]
  exact h.2.1 i hi, h1, h2⟩
theorem gW.cg {T : Tb} {p p' : Pg} {sw : N1} (h : gW T p sw) (e : ∀ x, 179 ≤ x → x < 182 → p' x = p x) : gW T p' sw := ⟨h.1, fun i hi => by
  rw [e _ (by omega) (by omega)]
  exact h.2 i hi⟩
theorem gH.cg {T : Tb} {p p' : Pg} (h : gH T p) (e : ∀ x, 599 ≤ x → x < 855 → p' x = p x) : gH T p' := ⟨h.1, fun i j hi hj => by
  rw [e _ (by omega) (by omega)]
  exact h.2 i j hi hj⟩
theorem gX.cg {S S' : StS} {p p' : Pg} {cl sg : N2} {sv sw : N1} {t t' nq nb nq' nb' : Nat} (h : gX S p cl sg sv sw t nq nb) (ht : t ≤ t') (h1 : nq' ≤ sv 1) (h2 : nb' ≤ sv 3) (eS : ∀ k, k = 0 ∨ k = 2 ∨ k = 3 ∨ k = 4 ∨ k = 10 → S'.1 k = S.1 k) (e : ∀ x, x < 90 ∨ 174 ≤ x ∧ x < 178 ∨ 179 ≤ x ∧ x < 182 ∨ 599 ≤ x ∧ x < 855 → p' x = p x) : gX S' p' cl sg sv sw t' nq' nb' := by
  obtain ⟨a, b, c, d, f⟩ := h
  unfold gX
  rw [eS 0 (by omega), eS 2 (by omega), eS 3 (by omega), eS 4 (by omega), eS 10 (by omega)]
  exact ⟨a.cg fun x _ => e x (by omega), b.cg ht fun x _ _ => e x (by omega), c.cg h1 h2 fun x _ _ => e x (by omega), d.cg fun x _ _ => e x (by omega), f.cg fun x _ _ => e x (by omega)⟩
theorem gR.cg {T : Tb} {p p' : Pg} {nr : Nat} {r : N2} {t N N' lo wl lo' wl' : Nat} {E : Nat → Prop} (h : gR T p nr r t N lo wl E) (hN : N ≤ N') (hlo : lo' ≤ lo) (hwl : wl' ≤ wl) (e : ∀ x, 188 ≤ x → x < 317 → p' x = p x) : gR T p' nr r t N' lo' wl' E := by
  obtain ⟨h1, h2, h3, h4, h5, h6⟩ := h
  refine ⟨h1, h2, (e _ (by omega) (by omega)).trans h3, fun i j hi hj => ?_, h5, fun i hi => ?_⟩
  · rw [e _ (by omega) (by omega)]
    exact h4 i j hi hj
  · obtain ⟨a, b, c, d, f, g, k, l, m, n⟩ := h6 i hi
    exact ⟨by omega, b, c, d, f, g, k, fun q => by have := l q; omega, m, fun q q2 => by have := n q q2; omega⟩
theorem gA.cg {p p' : Pg} {at_ : N2} {ow : N1} (h : gA p at_ ow) (e : ∀ x, 317 ≤ x → x < 557 → p' x = p x) : gA p' at_ ow := fun a ha => by
  obtain ⟨h1, h2, h3⟩ := h a ha
  refine ⟨(e _ (by omega) (by omega)).trans h1, h2, fun q => ⟨(e _ (by omega) (by omega)).trans (h3 q).1, fun c c1 c2 => ?_⟩⟩
  rw [e _ (by omega) (by omega)]
  exact (h3 q).2 c c1 c2
theorem gQ.cg {T : Tb} {p p' : Pg} {nq : Nat} {qs : N1} {at_ at' : N2} {ow ow' : N1} (h : gQ T p nq qs at_ ow) (e : ∀ x, 557 ≤ x → x < 574 → p' x = p x) (ea : ∀ k c, k < nq → at' (qs k) c = at_ (qs k) c) (eo : ∀ k, k < nq → ow' (qs k) = ow (qs k)) : gQ T p' nq qs at' ow' := by
  obtain ⟨h1, h2, h3, h4⟩ := h
  refine ⟨h1, h2, (e _ (by omega) (by omega)).trans h3, fun k hk => ?_⟩
  rw [e _ (by omega) (by omega), eo k hk, ea k 9 hk, ea k 1 hk, ea k 2 hk, ea k 3 hk, ea k 4 hk, ea k 5 hk, ea k 6 hk, ea k 7 hk]
  exact h4 k hk
theorem gF.cg {T : Tb} {p p' : Pg} {ws : N1} {at_ at' : N2} {ow ow' : N1} {Zf Zf' : Nat → Prop} (h : gF T p ws at_ ow Zf) (e : ∀ x, 591 ≤ x → x < 595 → p' x = p x) (e8 : ∀ w a, w < 4 → ws w = a + 1 → p' (317 + 10 * a + 8) = p (317 + 10 * a + 8)) (ea : ∀ w a c, w < 4 → ws w = a + 1 → at' a c = at_ a c) (eo : ∀ w a, w < 4 → ws w = a + 1 → ow' a = ow a) (ez : ∀ w, w < 4 → Zf w → Zf' w) : gF T p' ws at' ow' Zf' := by
  refine ⟨h.1, fun w hw => ?_⟩
  obtain ⟨h1, h2, h3⟩ := h.2 w hw
  refine ⟨(e _ (by omega) (by omega)).trans h1, h2, fun a ha => ?_⟩
  obtain ⟨a1, a2, a3, a4, a5, a6, a7, a8, a9, a10⟩ := h3 a ha
  rw [e8 w a hw ha, eo w a hw ha, ea w a 9 hw ha, ea w a 1 hw ha, ea w a 3 hw ha, ea w a 4 hw ha, ea w a 5 hw ha, ea w a 6 hw ha, ea w a 7 hw ha]
  exact ⟨a1, a2, a3, a4, a5, a6, a7, fun q => ⟨(a8 q).1, (a8 q).2.imp (ez w hw) id⟩, a9, a10⟩
theorem gB.cg {T : Tb} {p p' : Pg} {nb : Nat} {fb ws : N1} {at_ at' : N2} (h : gB T p nb fb ws at_) (e : ∀ x, 574 ≤ x → x < 591 → p' x = p x) (ea : ∀ w a, w < 4 → ws w = a + 1 → at' a 7 = at_ a 7) : gB T p' nb fb ws at' := by
  obtain ⟨h1, h2, h3, h4, h5⟩ := h
  refine ⟨h1, h2, (e _ (by omega) (by omega)).trans h3, fun k hk => ?_, h5⟩
  obtain ⟨q1, q2, a, q3, q4, q5⟩ := h4 k hk
  exact ⟨q1, q2, a, q3, (e _ (by omega) (by omega)).trans q4, (ea _ a q1 q3).trans q5⟩
theorem gG.cg {T : Tb} {p p' : Pg} {gb ws : N1} {at_ at' : N2} {Zb Zb' : Nat → Prop} (h : gG T p gb ws at_ Zb) (e : ∀ x, 595 ≤ x → x < 599 → p' x = p x) (ea : ∀ w a c, w < 4 → ws w = a + 1 → at' a c = at_ a c) (ez : ∀ w, w < 4 → Zb w → Zb' w) : gG T p' gb ws at' Zb' := by
  obtain ⟨h1, h2, h3, h4⟩ := h
  refine ⟨h1, fun w hw => ?_, h3, fun f a hf ha q => h4 f a hf ha ((ea f a 7 hf ha).symm.trans q)⟩
  obtain ⟨q1, q2, q3⟩ := h2 w hw
  refine ⟨q1, fun q => (e _ (by omega) (by omega)).trans (q2 q), fun f hf => ?_⟩
  obtain ⟨q4, a, q5, q6, q7, q8⟩ := q3 f hf
  exact ⟨q4, a, q5, (e _ (by omega) (by omega)).trans q6, (ea f a 7 q4 q5).trans q7, q8.imp (ez w hw) (fun z => by rw [ea f a 5 q4 q5]; exact z)⟩
theorem gY.cg {S S' : StS} {p p' : Pg} {nq nb : Nat} {qs ws fb gb : N1} {at_ : N2} {ow : N1} {Zf Zb : Nat → Prop} (h : gY S p nq nb qs ws fb gb at_ ow Zf Zb) (eS : ∀ k, 6 ≤ k → k < 10 → S'.1 k = S.1 k) (e : ∀ x, 317 ≤ x → x < 599 → p' x = p x) : gY S' p' nq nb qs ws fb gb at_ ow Zf Zb := by
  obtain ⟨a, b, c, d, f, u⟩ := h
  unfold gY
  rw [eS 6 (by omega) (by omega), eS 7 (by omega) (by omega), eS 8 (by omega) (by omega), eS 9 (by omega) (by omega)]
  exact ⟨a.cg fun x _ _ => e x (by omega) (by omega), b.cg (fun x _ _ => e x (by omega) (by omega)) (fun _ _ _ => rfl) (fun _ _ => rfl), c.cg (fun x _ _ => e x (by omega) (by omega)) (fun w a hw ha => e _ (by omega) (by have := ((c.2 w hw).2.2 a ha).1; omega)) (fun _ _ _ _ _ => rfl) (fun _ _ _ _ => rfl) (fun _ _ z => z), d.cg (fun x _ _ => e x (by omega) (by omega)) (fun _ _ _ _ => rfl), f.cg (fun x _ _ => e x (by omega) (by omega)) (fun _ _ _ _ _ => rfl) (fun _ _ z => z), u⟩
