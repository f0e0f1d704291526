/-! small steps that keep the relation -/
theorem gL.cg {p p' : Pg} {nr : Nat} {r at_ : N2} {ow : N1} {t : Nat} {E : Nat → Prop} (h : gL p nr r at_ ow t E) (hn : nr ≤ 16) (e : ∀ x, 189 ≤ x → x < 317 → p' x = p x) : gL p' nr r at_ ow t E := ⟨fun i hi h0 hE => by
  obtain ⟨a, b, c, d, f⟩ := h.1 i hi h0 hE
  exact ⟨a, b, c, (e _ (by omega) (by omega)).trans d, f⟩, h.2⟩
theorem gD.cg {R R' p p' : Pg} {t N K K' g0 : Nat} (h : gD R p t N K g0) (hK : K ≤ K') (eR : ∀ k, 11 ≤ k → k < 18 → R' k = R k) (e : ∀ x, x = 178 ∨ 182 ≤ x ∧ x < 188 → p' x = p x) : gD R' p' t N K' g0 := by
  obtain ⟨a, b, c, d, f, g, k, ⟨g', l1, l2, l3, l4⟩, m, n⟩ := h
  unfold gD
  rw [eR 11 (by omega) (by omega), eR 12 (by omega) (by omega), eR 13 (by omega) (by omega), eR 14 (by omega) (by omega), eR 15 (by omega) (by omega), eR 16 (by omega) (by omega), eR 17 (by omega) (by omega), e 178 (by omega), e 182 (by omega), e 183 (by omega), e 184 (by omega), e 185 (by omega), e 186 (by omega), e 187 (by omega)]
  exact ⟨a, b, c, d, f, g, by omega, ⟨g', l1, l2, l3, by omega⟩, m, n⟩
theorem sumF_cg {f g : Nat → Int32} : ∀ n, (∀ i, i < n → f i = g i) → sumF f n = sumF g n
  | 0, _ => rfl
  | n + 1, h => by
    show sumF f n + f n = sumF g n + g n
    rw [sumF_cg n (fun i hi => h i (by omega)), h n (by omega)]
theorem ssum_eq {S : StS} (h : (S.1 1).1 = 6) {c : Nat} (hc : c < 14) : ssum 1 S (nI c) = sumF (fun i => (S.1 1).2 i c) 6 := by
  show sumF (fun i => tget 14 6 (S.1 1) (nI i) (nI c)) (tz 6 (S.1 1)) = _
  rw [tz_n (by omega), h]
  exact sumF_cg 6 (fun i hi => tg (by omega) hi hc (by omega) (by omega))
theorem gN.cg {F : Fx} {t : Nat} {S S' : StS} {M M' : MS} (h : gN F t S M) (hT : (S.1 1).1 = 6) (hT' : (S'.1 1).1 = 6) (e1 : ∀ i, i < 6 → (S'.1 1).2 i 1 = (S.1 1).2 i 1) (e2 : ∀ i, i < 6 → (S'.1 1).2 i 2 = (S.1 1).2 i 2) (e16 : S'.2 16 = S.2 16) (er : M'.2.2 = M.2.2) (ep : ∀ x, 855 ≤ x → M'.1 x = M.1 x) : gN F t S' M' := by
  obtain ⟨a, b, c, d, f, g⟩ := h
  refine ⟨by rw [er]; exact a, ?_, ?_, by rw [e16, er]; exact d, by rw [er]; exact f, fun x hx => (ep x hx).trans (g x hx)⟩
  · rw [show (2 : Int32) = nI 2 from rfl, ssum_eq hT' (by omega), sumF_cg 6 e2, ← ssum_eq hT (by omega), er]
    exact b
  · rw [show (1 : Int32) = nI 1 from rfl, ssum_eq hT' (by omega), sumF_cg 6 e1, ← ssum_eq hT (by omega), er]
    exact c
/-- one tally -/
theorem gT.up {T : Tb} {p : Pg} {K K' c y : Nat} {z : Int32} (h : gT T p K) (hc : c < 6) (hy : y < 8) (hK : K ≤ K') (hz : y < 2 → ∃ x, z = nI x ∧ x ≤ K') : gT (T.1, fup T.2 c y z) (upd p (90 + 8 * c + y) z) K' := by
  refine ⟨h.1, fun i hi => ?_⟩
  obtain ⟨h1, h2, x0, x1, h3, h4, h5, h6⟩ := h.2 i hi
  refine ⟨fun j hj => ?_, fun j hj => ?_, ?_⟩
  · show fup T.2 c y z i j = _
    by_cases e : i = c
    · by_cases e2 : j = y
      · rw [fup_s e e2, up_s (by omega)]
      · rw [fup_c e2, up_n (by omega)]
        exact h1 j hj
    · rw [fup_r e, up_n (by omega)]
      exact h1 j hj
  · show fup T.2 c y z i (8 + j) = _
    rw [fup_c (by omega), up_n (by omega)]
    exact h2 j hj
  · show ∃ x y', fup T.2 c y z i 0 = nI x ∧ fup T.2 c y z i 1 = nI y' ∧ x ≤ K' ∧ y' ≤ K'
    by_cases e : i = c
    · by_cases e0 : y = 0
      · obtain ⟨q, q1, q2⟩ := hz (by omega)
        exact ⟨q, x1, by rw [fup_s e e0.symm]; exact q1, by rw [fup_c (by omega)]; exact h4, q2, by omega⟩
      · by_cases e1 : y = 1
        · obtain ⟨q, q1, q2⟩ := hz (by omega)
          exact ⟨x0, q, by rw [fup_c (by omega)]; exact h3, by rw [fup_s e e1.symm]; exact q1, by omega, q2⟩
        · exact ⟨x0, x1, by rw [fup_c (by omega)]; exact h3, by rw [fup_c (by omega)]; exact h4, by omega, by omega⟩
    · exact ⟨x0, x1, by rw [fup_r e]; exact h3, by rw [fup_r e]; exact h4, by omega, by omega⟩
section RL
variable {F : Fx} {E Zf Zb : Nat → Prop} {t K lo wl : Nat} {cl sg : N2} {sv sw : N1} {nr : Nat} {r : N2} {N nq nb : Nat} {qs ws fb gb : N1} {at_ : N2} {ow : N1} {S : StS} {M : MS}
theorem RG.nqb (h : RG F E Zf Zb t K lo wl cl sg sv sw nr r N nq nb qs ws fb gb at_ ow S M) : nq ≤ sv 1 ∧ nb ≤ sv 3 ∧ nr ≤ 16 := ⟨h.1.2.2.1.2.2.1, h.1.2.2.1.2.2.2, h.2.2.2.1.2.1⟩
theorem sput_tal (hT : (S.1 1).1 = 6) {c y : Nat} {z : Int32} (hc : c < 6) (hy : y < 14) : sput 1 S (nI c) (nI y) z = sset S 1 ((S.1 1).1, fup (S.1 1).2 c y z) := by
  show sset S 1 (tput 14 6 (S.1 1) (nI c) (nI y) z) = _
  rw [tp (by omega) hc hy (by omega) (by omega)]
theorem sadd_tal (hT : (S.1 1).1 = 6) {c y : Nat} {z : Int32} (hc : c < 6) (hy : y < 14) : sadd 1 S (nI c) (nI y) z = sset S 1 ((S.1 1).1, fup (S.1 1).2 c y ((S.1 1).2 c y + z)) := by
  show sset S 1 (tadd 14 6 (S.1 1) (nI c) (nI y) z) = _
  rw [ta (by omega) hc hy (by omega) (by omega)]
theorem sget_tal (hT : (S.1 1).1 = 6) {c y : Nat} (hc : c < 6) (hy : y < 14) : sget 1 S (nI c) (nI y) = (S.1 1).2 c y := by
  show tget 14 6 (S.1 1) (nI c) (nI y) = _
  rw [tg (by omega) hc hy (by omega) (by omega)]
/-- a tally that is neither created nor sent nor succeeded is set -/
theorem RG.tal (h : RG F E Zf Zb t K lo wl cl sg sv sw nr r N nq nb qs ws fb gb at_ ow S M) {c y : Nat} (z : Int32) (hc : c < 6) (hy : y < 8) (hy2 : 3 ≤ y) : RG F E Zf Zb t K lo wl cl sg sv sw nr r N nq nb qs ws fb gb at_ ow (sput 1 S (nI c) (nI y) z) (upd M.1 (90 + 8 * c + y) z, M.2) := by
  have q := h.nqb
  obtain ⟨hX, hT, hD, hR, hY, hL, hN⟩ := h
  have hp : ∀ x, x ≠ 90 + 8 * c + y → upd M.1 (90 + 8 * c + y) z x = M.1 x := fun x hx => up_n hx
  rw [sput_tal hT.1 hc (by omega)]
  refine ⟨hX.cg (Nat.le_refl _) q.1 q.2.1 (fun k hk => ss_n (by omega)) (fun x hx => hp x (by omega)), ?_, hD.cg (Nat.le_refl _) (fun _ _ _ => rfl) (fun x hx => hp x (by omega)), ?_, hY.cg (fun k h1 h2 => ss_n (by omega)) (fun x _ _ => hp x (by omega)), hL.cg q.2.2 (fun x _ _ => hp x (by omega)), hN.cg hT.1 ?_ ?_ ?_ rfl rfl (fun x hx => hp x (by omega))⟩
  · rw [ss_s]
    exact hT.up hc hy (Nat.le_refl _) (fun q => absurd q (by omega))
  · rw [ss_n (by omega)]
    exact hR.cg (Nat.le_refl _) (Nat.le_refl _) (Nat.le_refl _) (fun x _ _ => hp x (by omega))
  · rw [ss_s]
    exact hT.1
  · intro i hi
    rw [ss_s]
    exact fup_c (by omega)
  · intro i hi
    rw [ss_s]
    exact fup_c (by omega)
theorem RG.talC (h : RG F E Zf Zb t K lo wl cl sg sv sw nr r N nq nb qs ws fb gb at_ ow S M) {c y : Nat} (v : Int32) (hc : c < 6) (hy : y < 8) (hy2 : 3 ≤ y) : RG F E Zf Zb t K lo wl cl sg sv sw nr r N nq nb qs ws fb gb at_ ow (sadd 1 S (nI c) (nI y) v) (upd M.1 (90 + 8 * c + y) (M.1 (90 + 8 * c + y) + v), M.2) := by
  have e := (h.2.1.2 c hc).1 y hy
  rw [← e, sadd_tal h.2.1.1 hc (by omega), ← sput_tal h.2.1.1 hc (by omega)]
  exact h.tal _ hc hy hy2
/-- the seed -/
theorem RG.seed (h : RG F E Zf Zb t K lo wl cl sg sv sw nr r N nq nb qs ws fb gb at_ ow S M) (z : Int32) : RG F E Zf Zb t K lo wl cl sg sv sw nr r N nq nb qs ws fb gb at_ ow (S.1, upd S.2 13 z) (upd M.1 184 z, M.2) := by
  have q := h.nqb
  obtain ⟨hX, hT, hD, hR, hY, hL, hN⟩ := h
  have hp : ∀ x, x ≠ 184 → upd M.1 184 z x = M.1 x := fun x hx => up_n hx
  have hq : ∀ x, x ≠ 13 → upd S.2 13 z x = S.2 x := fun x hx => up_n hx
  refine ⟨hX.cg (Nat.le_refl _) q.1 q.2.1 (fun k hk => rfl) (fun x hx => hp x (by omega)), hT.cg (Nat.le_refl _) (fun x _ _ => hp x (by omega)), ?_, hR.cg (Nat.le_refl _) (Nat.le_refl _) (Nat.le_refl _) (fun x _ _ => hp x (by omega)), hY.cg (fun k h1 h2 => rfl) (fun x _ _ => hp x (by omega)), hL.cg q.2.2 (fun x _ _ => hp x (by omega)), hN.cg hT.1 hT.1 (fun _ _ => rfl) (fun _ _ => rfl) (hq 16 (by omega)) rfl (fun x hx => hp x (by omega))⟩
  obtain ⟨⟨d0, a1, a2, a3⟩, b, c, d, f, g, k, ⟨g0, l1, l2, l3⟩, m, n⟩ := hD
  exact ⟨⟨d0, (hq 11 (by omega)).trans a1, (hp 178 (by omega)).trans a2, a3⟩, (hq 12 (by omega)).trans b, (hp 182 (by omega)).trans c, show upd S.2 13 z 13 = upd M.1 184 z 184 from by rw [up_s rfl, up_s rfl], (hq 14 (by omega)).trans f, (hp 183 (by omega)).trans g, k, ⟨g0, (hq 15 (by omega)).trans l1, (hp 185 (by omega)).trans l2, l3⟩, ((hq 16 (by omega)).trans m).trans (hp 186 (by omega)).symm, ((hq 17 (by omega)).trans n).trans (hp 187 (by omega)).symm⟩
/-- a request that has no attempt dies -/
def dn (r : N2) (i : Nat) : N2 := fun a c => if i ≤ a then r (a + 1) c else r a c
theorem gR.die {T : Tb} {p : Pg} (h : gR T p nr r t N lo wl E) {i : Nat} (hi : i < nr) : gR (T.1 - 1, fun a j => if i ≤ a ∧ a + 1 < T.1 then T.2 (a + 1) j else T.2 a j) (upd (pdie p nr i) 188 (nI (nr - 1))) (nr - 1) (dn r i) t N lo wl E := by
  obtain ⟨h1, h2, h3, h4, h5, h6⟩ := h
  refine ⟨by show T.1 - 1 = _; omega, by omega, up_s rfl, fun a j ha hj => ?_, fun a b hab hb => ?_, fun a ha => ?_⟩
  · rw [up_n (by omega)]
    show (if i ≤ a ∧ a + 1 < T.1 then T.2 (a + 1) j else T.2 a j) = _ ∧ pdie p nr i (189 + 8 * a + j) = _
    unfold pdie dn
    by_cases e : i ≤ a
    · rw [if_pos ⟨e, by omega⟩, if_pos e, if_pos (by omega), show 189 + 8 * a + j + 8 = 189 + 8 * (a + 1) + j by omega]
      exact h4 (a + 1) j (by omega) hj
    · rw [if_neg (fun q => e q.1), if_neg e, if_neg (by omega)]
      exact h4 a j (by omega) hj
  · unfold dn
    by_cases e : i ≤ a
    · rw [if_pos e, if_pos (by omega)]
      exact h5 _ _ (by omega) (by omega)
    · rw [if_neg e]
      by_cases e2 : i ≤ b
      · rw [if_pos e2]
        exact h5 _ _ (by omega) (by omega)
      · rw [if_neg e2]
        exact h5 _ _ hab (by omega)
  · unfold dn
    by_cases e : i ≤ a
    · simp only [if_pos e]
      exact h6 (a + 1) (by omega)
    · simp only [if_neg e]
      exact h6 a (by omega)
theorem gR.ne {T : Tb} {p : Pg} (h : gR T p nr r t N lo wl E) {i k : Nat} (hi : i < nr) (hk : k < nr) (e : r i 0 = r k 0) : i = k := by
  have h5 := h.2.2.2.2.1
  rcases Nat.lt_trichotomy i k with q | q | q
  · have := h5 i k q hk; omega
  · exact q
  · have := h5 k i q hi; omega
/-- of every other request there is a row with the same numbers -/
theorem dn_other {i : Nat} (hn : ∀ k, k < nr → r k 0 = r i 0 → k = i) (hi : i < nr) : (∀ a, a < nr - 1 → ∃ k, k < nr ∧ k ≠ i ∧ ∀ c, dn r i a c = r k c) ∧ ∀ k, k < nr → k ≠ i → ∃ a, a < nr - 1 ∧ ∀ c, dn r i a c = r k c := by
  refine ⟨fun a ha => ?_, fun k hk hne => ?_⟩
  · by_cases e : i ≤ a
    · exact ⟨a + 1, by omega, by omega, fun c => if_pos e⟩
    · exact ⟨a, by omega, by omega, fun c => if_neg e⟩
  · by_cases e : k < i
    · exact ⟨k, by omega, fun c => if_neg (by omega)⟩
    · exact ⟨k - 1, by omega, fun c => by
        show (if i ≤ k - 1 then r (k - 1 + 1) c else _) = _
        rw [if_pos (by omega), show k - 1 + 1 = k by omega]⟩
theorem gL.die {T : Tb} {p p' : Pg} (hr : gR T p nr r t N lo wl E) (h : gL p nr r at_ ow t E) {i : Nat} (hi : i < nr) (hE : E (r i 0)) (e7 : ∀ a, a < nr - 1 → p' (189 + 8 * a + 7) = p (189 + 8 * (if i ≤ a then a + 1 else a) + 7)) : gL p' (nr - 1) (dn r i) at_ ow t E := by
  refine ⟨fun a ha h0 hne => ?_, fun a ha hu => ?_⟩
  · have e := e7 a ha
    unfold dn at h0 hne ⊢
    by_cases q : i ≤ a
    · rw [if_pos q] at e
      simp only [if_pos q] at h0 hne ⊢
      obtain ⟨b1, b2, b3, b4, b5⟩ := h.1 (a + 1) (by omega) h0 hne
      exact ⟨b1, b2, b3, e.trans b4, b5⟩
    · rw [if_neg q] at e
      simp only [if_neg q] at h0 hne ⊢
      obtain ⟨b1, b2, b3, b4, b5⟩ := h.1 a (by omega) h0 hne
      exact ⟨b1, b2, b3, e.trans b4, b5⟩
  · obtain ⟨c1, c2⟩ := h.2 a ha hu
    refine ⟨c1, c2.imp id ?_⟩
    rintro ⟨k, k1, k2, k3, k4, k5⟩
    have hne : k ≠ i := fun q => k5 (by rw [q]; exact hE)
    obtain ⟨b, b1, b2⟩ := (dn_other (i := i) (fun k hk e => hr.ne hk hi e) hi).2 k k1 hne
    exact ⟨b, b1, by rw [b2]; exact k2, by rw [b2]; exact k3, by rw [b2]; exact k4, by rw [b2]; exact k5⟩
theorem gR.ex {T : Tb} {p : Pg} {E' : Nat → Prop} (h : gR T p nr r t N lo wl E) (he : ∀ i, i < nr → ¬ E' (r i 0) → ¬ E (r i 0)) : gR T p nr r t N lo wl E' := by
  obtain ⟨h1, h2, h3, h4, h5, h6⟩ := h
  refine ⟨h1, h2, h3, h4, h5, fun i hi => ?_⟩
  obtain ⟨a, b, c, d, f, g, k, l, m, n⟩ := h6 i hi
  exact ⟨a, b, c, d, f, g, k, l, fun q => m (he i hi q), fun q q2 => n q (he i hi q2)⟩
theorem gL.ex {p : Pg} {E' : Nat → Prop} (h : gL p nr r at_ ow t E) (he : ∀ i, i < nr → (E' (r i 0) ↔ E (r i 0))) : gL p nr r at_ ow t E' := by
  refine ⟨fun i hi h0 hne => h.1 i hi h0 (fun q => hne ((he i hi).mpr q)), fun a ha hu => ?_⟩
  obtain ⟨c1, c2⟩ := h.2 a ha hu
  refine ⟨c1, c2.imp id ?_⟩
  rintro ⟨k, k1, k2, k3, k4, k5⟩
  exact ⟨k, k1, k2, k3, k4, fun q => k5 ((he k k1).mp q)⟩
theorem RG.die (h : RG F E Zf Zb t K lo wl cl sg sv sw nr r N nq nb qs ws fb gb at_ ow S M) {i : Nat} (hi : i < nr) (hE : E (r i 0)) : RG F (fun x => E x ∧ x ≠ r i 0) Zf Zb t K lo wl cl sg sv sw (nr - 1) (dn r i) N nq nb qs ws fb gb at_ ow (sdrop 5 S (nI i)) (upd (pdie M.1 nr i) 188 (nI (nr - 1)), M.2) := by
  have q := h.nqb
  obtain ⟨hX, hT, hD, hR, hY, hL, hN⟩ := h
  have e : sdrop 5 S (nI i) = sset S 5 ((S.1 5).1 - 1, fun a j => if i ≤ a ∧ a + 1 < (S.1 5).1 then (S.1 5).2 (a + 1) j else (S.1 5).2 a j) := by
    show sset S 5 (tdrop 16 (S.1 5) (nI i)) = _
    rw [td (by rw [hR.1]; exact hi) (by rw [hR.1]; exact hR.2.1) (by omega)]
  have hp : ∀ x, x < 188 ∨ 317 ≤ x → upd (pdie M.1 nr i) 188 (nI (nr - 1)) x = M.1 x := fun x hx => by
    rw [up_n (by omega)]
    unfold pdie
    rw [if_neg (by omega)]
  have hn : ∀ k, k < nr → r k 0 = r i 0 → k = i := fun k hk e => hR.ne hk hi e
  have hE2 : ∀ a, a < nr - 1 → ((E (dn r i a 0) ∧ dn r i a 0 ≠ r i 0) ↔ E (dn r i a 0)) := fun a ha => by
    obtain ⟨k, k1, k2, k3⟩ := (dn_other hn hi).1 a ha
    rw [k3]
    exact ⟨fun q => q.1, fun q => ⟨q, fun e => k2 (hn k k1 e)⟩⟩
  rw [e]
  refine ⟨hX.cg (Nat.le_refl _) q.1 q.2.1 (fun k hk => ss_n (by omega)) (fun x hx => hp x (by omega)), ?_, hD.cg (Nat.le_refl _) (fun _ _ _ => rfl) (fun x hx => hp x (by omega)), ?_, hY.cg (fun k h1 h2 => ss_n (by omega)) (fun x _ _ => hp x (by omega)), ?_, hN.cg hT.1 ?_ ?_ ?_ rfl rfl (fun x hx => hp x (by omega))⟩
  · rw [ss_n (by omega)]
    exact hT.cg (Nat.le_refl _) (fun x _ _ => hp x (by omega))
  · rw [ss_s]
    exact (hR.die hi).ex (fun a ha hne he => hne ((hE2 a ha).mpr he))
  · refine gL.ex (gL.die hR hL hi hE (fun a ha => ?_)) (fun a ha => hE2 a ha)
    show upd (pdie M.1 nr i) 188 (nI (nr - 1)) (189 + 8 * a + 7) = _
    rw [up_n (by omega)]
    unfold pdie
    by_cases e : i ≤ a
    · rw [if_pos (by omega), if_pos e, show 189 + 8 * a + 7 + 8 = 189 + 8 * (a + 1) + 7 by omega]
    · rw [if_neg (by omega), if_neg e]
  · rw [ss_n (by omega)]; exact hT.1
  · intro i hi
    rw [ss_n (by omega)]
  · intro i hi
    rw [ss_n (by omega)]
end RL
