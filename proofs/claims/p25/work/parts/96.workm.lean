/-! step 4: the reference's work -/
def atD (at_ : N2) (D : N1) : N2 := fun a c => if D a = 1 then (if c = 3 then at_ a 3 - 1 else if c = 6 then at_ a 6 + 1 else at_ a c) else if D a = 2 then (if c = 5 then at_ a 5 - 1 else if c = 6 then at_ a 6 + 1 else at_ a c) else at_ a c
def dset (D : N1) (a k : Nat) : N1 := fun b => if b = a then k else D b
section WM
variable {F : Fx} {E Zf Zb : Nat → Prop} {t K lo wl : Nat} {cl sg : N2} {sv sw : N1} {nr : Nat} {r : N2} {N nq nb : Nat} {qs ws fb gb : N1} {at_ : N2} {ow : N1} {S S' : StS} {M M' : MS}
theorem atD_0 {D : N1} {a c : Nat} (h : D a = 0) : atD at_ D a c = at_ a c := by
  unfold atD
  rw [if_neg (by omega), if_neg (by omega)]
theorem atD_1 {D : N1} {a c : Nat} (h : D a = 1) : atD at_ D a c = if c = 3 then at_ a 3 - 1 else if c = 6 then at_ a 6 + 1 else at_ a c := by
  unfold atD
  rw [if_pos h]
theorem atD_2 {D : N1} {a c : Nat} (h : D a = 2) : atD at_ D a c = if c = 5 then at_ a 5 - 1 else if c = 6 then at_ a 6 + 1 else at_ a c := by
  unfold atD
  rw [if_neg (by omega), if_pos h]
theorem atD_9 {D : N1} {a c : Nat} (h : c = 9 ∨ c = 1 ∨ c = 2 ∨ c = 4 ∨ c = 7) : atD at_ D a c = at_ a c := by
  unfold atD
  by_cases e1 : D a = 1
  · rw [if_pos e1, if_neg (show ¬ c = 3 by omega), if_neg (show ¬ c = 6 by omega)]
  · rw [if_neg e1]
    by_cases e2 : D a = 2
    · rw [if_pos e2, if_neg (show ¬ c = 5 by omega), if_neg (show ¬ c = 6 by omega)]
    · rw [if_neg e2]
theorem gA.wk {p : Pg} {D : N1} {a k : Nat} (h : gA p (atD at_ D) ow) (ha : a < 24) (hD : D a = 0) (hk : k = 1 ∨ k = 2) : gA (upd (upd p (317 + 10 * a + if k = 1 then 3 else 5) (nI (if k = 1 then at_ a 3 - 1 else at_ a 5 - 1))) (317 + 10 * a + 6) (nI (at_ a 6 + 1))) (atD at_ (dset D a k)) ow := by
  intro b hb
  obtain ⟨h1, h2, h3⟩ := h b hb
  have hc : (if k = 1 then 3 else 5) = 3 ∨ (if k = 1 then 3 else 5) = 5 := by
    by_cases e : k = 1
    · rw [if_pos e]; exact Or.inl rfl
    · rw [if_neg e]; exact Or.inr rfl
  by_cases e : b = a
  · subst e
    have eD : dset D b k b = k := if_pos rfl
    rw [atD_9 (Or.inl rfl)] at h1 h2 h3 ⊢
    rw [up_n (by omega), up_n (by omega), up_n (by omega), up_n (by omega)]
    refine ⟨h1, h2, fun z => ⟨(h3 z).1, fun c c1 c2 => ?_⟩⟩
    have h4 := (h3 z).2 c c1 c2
    rw [atD_0 hD] at h4
    rcases hk with rfl | rfl
    · rw [atD_1 eD, if_pos rfl, if_pos rfl]
      by_cases c6 : c = 6
      · rw [up_s (by omega), if_neg (by omega), if_pos c6]
      · rw [up_n (by omega)]
        by_cases c3 : c = 3
        · rw [up_s (by omega), if_pos c3]
        · rw [up_n (by omega), if_neg c3, if_neg c6]
          exact h4
    · rw [atD_2 eD, if_neg (show ¬ 2 = 1 by decide), if_neg (show ¬ 2 = 1 by decide)]
      by_cases c6 : c = 6
      · rw [up_s (by omega), if_neg (by omega), if_pos c6]
      · rw [up_n (by omega)]
        by_cases c3 : c = 5
        · rw [up_s (by omega), if_pos c3]
        · rw [up_n (by omega), if_neg c3, if_neg c6]
          exact h4
  · have eD : dset D a k b = D b := if_neg e
    have eA : ∀ c, atD at_ (dset D a k) b c = atD at_ D b c := fun c => by
      unfold atD
      rw [eD]
    rw [eA]
    rw [up_n (by omega), up_n (by omega), up_n (by omega), up_n (by omega)]
    refine ⟨h1, h2, fun z => ⟨(h3 z).1, fun c c1 c2 => ?_⟩⟩
    rw [eA, up_n (by omega), up_n (by omega)]
    exact (h3 z).2 c c1 c2
/-- so far: back workers below vb and front workers below vf have worked -/
def IW (M : MS) (nq : Nat) (qs ws gb : N1) (at_ : N2) (ow : N1) (vb vf : Nat) (p : Pg) (D : N1) : Prop := (∀ x, x < 317 ∨ 557 ≤ x → p x = M.1 x) ∧ (∀ a, a < 24 → p (317 + 10 * a + 8) = M.1 (317 + 10 * a + 8)) ∧ gA p (atD at_ D) ow ∧ (∀ w a, w < 4 → ws w = a + 1 → (at_ a 7 = 2 → (w < vf → D a = 1) ∧ (vf ≤ w → D a = 0)) ∧ (at_ a 7 = 3 → D a = 0) ∧ ∀ u, u < 4 → gb u = w + 1 → (u < vb → D a = 2) ∧ (vb ≤ u → D a = 0)) ∧ ∀ k, k < nq → D (qs k) = 0
theorem IW.back (h : RG F E Zf Zb t K lo wl cl sg sv sw nr r N nq nb qs ws fb gb at_ ow S M) (hz : ∀ w, ¬ Zb w) {v vf : Nat} (hv : v < 4) {p : Pg} {D : N1} (hi : IW M nq qs ws gb at_ ow v vf p D) : ∃ p' D', (∀ K, bfX6_works_2 K (nI v, (p, M.2)) = bfX6_works_57 K (nI v) (p', M.2)) ∧ IW M nq qs ws gb at_ ow (v + 1) vf p' D' := by
  obtain ⟨hA, hQ, hF, hB, hG, hU⟩ := h.2.2.2.2.1
  obtain ⟨i1, i8, i2, i3, i4⟩ := hi
  obtain ⟨c1, c2, c3⟩ := hG.2.1 v hv
  have hc : ((595 : Int32) + nI v).toNatClampNeg = 595 + v := by rw [nB_595]; exact nI_clamp (by omega)
  have ho : okI ((595 : Int32) + nI v) 5130 ↔ True := by rw [nB_595]; exact okT (by omega) (by decide)
  have e595 := i1 (595 + v) (by omega)
  by_cases g0 : gb v = 0
  · refine ⟨p, D, fun K => ?_, i1, i8, i2, fun w a hw ha => ⟨(i3 w a hw ha).1, (i3 w a hw ha).2.1, fun u hu eu => ?_⟩, i4⟩
    · rw [bfX6_works_2, if_neg (fun z => by have := (len_4 (by omega)).mp z; omega)]
      simp only [hc, ho, if_true]
      rw [nm, e595, c2 g0, if_pos rfl]
    · have hne : u ≠ v := fun z => by rw [z] at eu; omega
      have := (i3 w a hw ha).2.2 u hu eu
      exact ⟨fun z => this.1 (by omega), fun z => this.2 (by omega)⟩
  · obtain ⟨f, ef⟩ : ∃ f, gb v = f + 1 := ⟨gb v - 1, by omega⟩
    obtain ⟨f4, a, b1, b2, b3, b4⟩ := c3 f ef
    have b5 : 1 ≤ at_ a 5 := b4.resolve_left (hz v)
    obtain ⟨d1, d2, d3, -⟩ := (hF.2 f f4).2.2 a b1
    have D0 : D a = 0 := ((i3 f a f4 b1).2.2 v hv ef).2 (Nat.le_refl _)
    have hs := (i2 a d1).2.2 (by rw [atD_9 (Or.inl rfl)]; exact d2)
    have p5 : p (317 + 10 * a + 5) = nI (at_ a 5) := (hs.2 5 (by omega) (by omega)).trans (by rw [atD_0 D0])
    have p6 : p (317 + 10 * a + 6) = nI (at_ a 6) := (hs.2 6 (by omega) (by omega)).trans (by rw [atD_0 D0])
    have hw := i2.wk (k := 2) d1 D0 (Or.inr rfl)
    rw [if_neg (show ¬ 2 = 1 by decide), if_neg (show ¬ 2 = 1 by decide)] at hw
    have hp : ∀ x, x ≠ 317 + 10 * a + 5 → x ≠ 317 + 10 * a + 6 → upd (upd p (317 + 10 * a + 5) (nI (at_ a 5 - 1))) (317 + 10 * a + 6) (nI (at_ a 6 + 1)) x = p x := fun x h5 h6 => by rw [up_n h6, up_n h5]
    refine ⟨upd (upd p (317 + 10 * a + 5) (nI (at_ a 5 - 1))) (317 + 10 * a + 6) (nI (at_ a 6 + 1)), dset D a 2, fun K => ?_, fun x hx => (hp x (by omega) (by omega)).trans (i1 x hx), fun b hb => (hp _ (by omega) (by omega)).trans (i8 b hb), hw, fun w b hw2 hb => ?_, fun k hk => ?_⟩
    · rw [bfX6_works_2, if_neg (fun z => by have := (len_4 (by omega)).mp z; omega)]
      simp only [hc, ho, if_true]
      rw [nm, e595, b2, if_neg (nI_neg (by omega) (by decide)), slot_eq, ob_eq, nA_5, if_pos (okI_nI (by omega) (by decide)), if_pos (okI_nI (by omega) (by decide)), nm, nI_clamp (by omega), p5, slot_eq, ob_eq, nA_6, if_pos (okI_nI (by omega) (by decide)), if_pos (okI_nI (by omega) (by decide)), nm, nI_clamp (by omega), show nI (at_ a 5) - (1 : Int32) = nI (at_ a 5 - 1) from pk_sub (b := 1) b5]
      dsimp only
      rw [up_n (by omega), p6, nA_1]
    · by_cases e : b = a
      · subst e
        have ew : w = f := hU.2.1 w f hw2 f4 (by omega) (by rw [hb, b1])
        subst ew
        refine ⟨fun z => absurd z (by omega), fun z => absurd z (by omega), fun u hu eu => ?_⟩
        have eu2 : u = v := hG.2.2.1 u v hu hv (by omega) (by rw [eu, ef])
        exact ⟨fun _ => if_pos rfl, fun z => absurd z (by omega)⟩
      · have eD : dset D a 2 b = D b := if_neg e
        rw [eD]
        refine ⟨(i3 w b hw2 hb).1, (i3 w b hw2 hb).2.1, fun u hu eu => ?_⟩
        have hne : u ≠ v := fun z => by
          rw [z, ef] at eu
          have : w = f := by omega
          rw [this, b1] at hb
          omega
        have := (i3 w b hw2 hb).2.2 u hu eu
        exact ⟨fun z => this.1 (by omega), fun z => this.2 (by omega)⟩
    · have e : qs k ≠ a := fun z => hU.2.2.1 k f hk f4 (by rw [b1, z])
      exact (if_neg e).trans (i4 k hk)
theorem IW.front (h : RG F E Zf Zb t K lo wl cl sg sv sw nr r N nq nb qs ws fb gb at_ ow S M) (hz : ∀ w, ¬ Zf w) {v vb : Nat} (hv : v < 4) {p : Pg} {D : N1} (hi : IW M nq qs ws gb at_ ow vb v p D) : ∃ p' D', (∀ K, bfX6_works_57 K (nI v) (p, M.2) = K (nI (v + 1), (p', M.2))) ∧ IW M nq qs ws gb at_ ow vb (v + 1) p' D' := by
  obtain ⟨hA, hQ, hF, hB, hG, hU⟩ := h.2.2.2.2.1
  obtain ⟨i1, i8, i2, i3, i4⟩ := hi
  obtain ⟨c1, c2, c3⟩ := hF.2 v hv
  have hc : ((591 : Int32) + nI v).toNatClampNeg = 591 + v := by rw [nB_591]; exact nI_clamp (by omega)
  have ho : okI ((591 : Int32) + nI v) 5130 ↔ True := by rw [nB_591]; exact okT (by omega) (by decide)
  have e591 := i1 (591 + v) (by omega)
  have skip : (∀ a, ws v = a + 1 → at_ a 7 ≠ 2) → IW M nq qs ws gb at_ ow vb (v + 1) p D := fun hn => by
    refine ⟨i1, i8, i2, fun w a hw ha => ⟨fun e7 => ?_, (i3 w a hw ha).2.1, (i3 w a hw ha).2.2⟩, i4⟩
    have hne : w ≠ v := fun z => hn a (by rw [← z]; exact ha) e7
    have := (i3 w a hw ha).1 e7
    exact ⟨fun z => this.1 (by omega), fun z => this.2 (by omega)⟩
  by_cases g0 : ws v = 0
  · refine ⟨p, D, fun K => ?_, skip (fun a ha => absurd ha (by omega))⟩
    unfold bfX6_works_57 bfX6_works_124
    simp only [hc, ho, if_true]
    rw [nm, e591, c1, g0, if_pos (show wsI 0 = -9 from rfl), nA_1]
  · obtain ⟨a, ea⟩ : ∃ a, ws v = a + 1 := ⟨ws v - 1, by omega⟩
    obtain ⟨d1, d2, d3, d4, d5, d6, d7, d8, d9, d10⟩ := c3 a ea
    have hs := (i2 a d1).2.2 (by rw [atD_9 (Or.inl rfl)]; exact d2)
    have p7 : p (317 + 10 * a + 7) = nI (at_ a 7) := (hs.2 7 (by omega) (by omega)).trans (by rw [atD_9 (by omega)])
    have ecell : wsI (a + 1) = nI a := rfl
    by_cases e7 : at_ a 7 = 2
    · have b3 : 1 ≤ at_ a 3 := (d8 e7).2.resolve_left (hz v)
      have D0 : D a = 0 := ((i3 v a hv ea).1 e7).2 (Nat.le_refl _)
      have p3 : p (317 + 10 * a + 3) = nI (at_ a 3) := (hs.2 3 (by omega) (by omega)).trans (by rw [atD_0 D0])
      have p6 : p (317 + 10 * a + 6) = nI (at_ a 6) := (hs.2 6 (by omega) (by omega)).trans (by rw [atD_0 D0])
      have hw := i2.wk (k := 1) d1 D0 (Or.inl rfl)
      rw [if_pos rfl, if_pos rfl] at hw
      have hp : ∀ x, x ≠ 317 + 10 * a + 3 → x ≠ 317 + 10 * a + 6 → upd (upd p (317 + 10 * a + 3) (nI (at_ a 3 - 1))) (317 + 10 * a + 6) (nI (at_ a 6 + 1)) x = p x := fun x h5 h6 => by rw [up_n h6, up_n h5]
      refine ⟨upd (upd p (317 + 10 * a + 3) (nI (at_ a 3 - 1))) (317 + 10 * a + 6) (nI (at_ a 6 + 1)), dset D a 1, fun K => ?_, fun x hx => (hp x (by omega) (by omega)).trans (i1 x hx), fun b hb => (hp _ (by omega) (by omega)).trans (i8 b hb), hw, fun w b hw2 hb => ?_, fun k hk => ?_⟩
      · unfold bfX6_works_57 bfX6_works_124
        simp only [hc, ho, if_true]
        rw [nm, e591, c1, ea, ecell, if_neg (nI_neg (by omega) (by decide)), slot_eq, ob_eq, nA_7, if_pos (okI_nI (by omega) (by decide))]
        rw [if_pos (show p (nI (317 + 10 * a + 7)).toNatClampNeg = (2 : Int32) by rw [nI_clamp (by omega), p7, e7]; rfl)]
        rw [ob_eq, nA_3, if_pos (okI_nI (by omega) (by decide)), if_pos (okI_nI (by omega) (by decide)), nm, nI_clamp (by omega), p3, slot_eq, ob_eq, nA_6, if_pos (okI_nI (by omega) (by decide)), if_pos (okI_nI (by omega) (by decide)), nm, nI_clamp (by omega), show nI (at_ a 3) - (1 : Int32) = nI (at_ a 3 - 1) from pk_sub (b := 1) b3, nA_1]
        dsimp only
        rw [up_n (by omega), p6, nA_1]
      · by_cases e : b = a
        · subst e
          have ew : w = v := hU.2.1 w v hw2 hv (by omega) (by rw [hb, ea])
          subst ew
          refine ⟨fun _ => ⟨fun _ => if_pos rfl, fun z => absurd z (by omega)⟩, fun z => absurd z (by omega), fun u hu eu => ?_⟩
          obtain ⟨-, b', b1, -, b7, -⟩ := (hG.2.1 u hu).2.2 w eu
          rw [hb] at b1
          obtain rfl : b = b' := by omega
          omega
        · have eD : dset D a 1 b = D b := if_neg e
          rw [eD]
          refine ⟨fun z7 => ?_, (i3 w b hw2 hb).2.1, (i3 w b hw2 hb).2.2⟩
          have hne : w ≠ v := fun z => by
            rw [z, ea] at hb
            omega
          have := (i3 w b hw2 hb).1 z7
          exact ⟨fun z => this.1 (by omega), fun z => this.2 (by omega)⟩
      · have e : qs k ≠ a := fun z => hU.2.2.1 k v hk hv (by rw [ea, z])
        exact (if_neg e).trans (i4 k hk)
    · refine ⟨p, D, fun K => ?_, skip (fun b hb => (show a = b by omega) ▸ e7)⟩
      unfold bfX6_works_57 bfX6_works_124
      simp only [hc, ho, if_true]
      rw [nm, e591, c1, ea, ecell, if_neg (nI_neg (by omega) (by decide)), slot_eq, ob_eq, nA_7, if_pos (okI_nI (by omega) (by decide))]
      rw [if_neg (show ¬ p (nI (317 + 10 * a + 7)).toNatClampNeg = (2 : Int32) by
        rw [nI_clamp (by omega), p7]
        exact fun z => e7 ((eqn_2 (by omega)).mp z)), nA_1]
theorem works_go (h : RG F E Zf Zb t K lo wl cl sg sv sw nr r N nq nb qs ws fb gb at_ ow S M) (hzf : ∀ w, ¬ Zf w) (hzb : ∀ w, ¬ Zb w) : ∀ (k v m : Nat) (p : Pg) (D : N1), v + k = 4 → k < m → IW M nq qs ws gb at_ ow v v p D → ∃ p' D', iter bfX6_works_2 m (nI v, (p, M.2)) = some (p', M.2) ∧ IW M nq qs ws gb at_ ow 4 4 p' D' := by
  intro k
  induction k with
  | zero =>
    intro v m p D hv hm hi
    obtain ⟨m, rfl⟩ : ∃ k, m = k + 1 := ⟨m - 1, by omega⟩
    obtain rfl : v = 4 := by omega
    refine ⟨p, D, ?_, hi⟩
    rw [it_s, bfX6_works_2, if_pos (by decide)]
  | succ k ih =>
    intro v m p D hv hm hi
    obtain ⟨m, rfl⟩ : ∃ k, m = k + 1 := ⟨m - 1, by omega⟩
    obtain ⟨p1, D1, q1, q2⟩ := IW.back h hzb (by omega) hi
    obtain ⟨p2, D2, q3, q4⟩ := IW.front h hzf (by omega) q2
    obtain ⟨p', D', q5, q6⟩ := ih (v + 1) m p2 D2 (by omega) (by omega) q4
    refine ⟨p', D', ?_, q6⟩
    rw [it_s, q1, q3]
    exact q5
end WM
