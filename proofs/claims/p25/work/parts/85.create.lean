/-! a request is created -/
def nrow (N c d : Nat) : Nat → Nat := fun j => if j = 0 then N else if j = 1 then c else if j = 2 then d else 0
def rnew (r : N2) (nr N c d : Nat) : N2 := fun a j => if a = nr then nrow N c d j else r a j
section CR
variable {F : Fx} {E Zf Zb : Nat → Prop} {t K lo wl : Nat} {cl sg : N2} {sv sw : N1} {nr : Nat} {r : N2} {N nq nb : Nat} {qs ws fb gb : N1} {at_ : N2} {ow : N1} {S S' : StS} {M M' : MS}
/-- one more is created, by the count -/
theorem RG.creC (h : RG F E Zf Zb t K lo wl cl sg sv sw nr r N nq nb qs ws fb gb at_ ow S M) {c : Nat} (hc : c < 6) : RG F E Zf Zb t (K + 1) lo wl cl sg sv sw nr r N nq nb qs ws fb gb at_ ow (sadd 1 S (nI c) (0 : Int32) (1 : Int32)) (upd M.1 (90 + 8 * c + 0) (M.1 (90 + 8 * c + 0) + 1), M.2) := by
  have q := h.nqb
  obtain ⟨hX, hT, hD, hR, hY, hL, hN⟩ := h
  have hp : ∀ x, x ≠ 90 + 8 * c + 0 → upd M.1 (90 + 8 * c + 0) (M.1 (90 + 8 * c + 0) + 1) x = M.1 x := fun x hx => up_n hx
  have e : sadd 1 S (nI c) (0 : Int32) (1 : Int32) = sset S 1 ((S.1 1).1, fup (S.1 1).2 c 0 ((S.1 1).2 c 0 + 1)) := sadd_tal hT.1 hc (y := 0) (by omega)
  have ev : (S.1 1).2 c 0 = M.1 (90 + 8 * c + 0) := (hT.2 c hc).1 0 (by omega)
  obtain ⟨x0, x1, v1, v2, v3, v4⟩ := (hT.2 c hc).2.2
  rw [e]
  refine ⟨hX.cg (Nat.le_refl _) q.1 q.2.1 (fun k hk => ss_n (by omega)) (fun x hx => hp x (by omega)), ?_, hD.cg (by omega) (fun _ _ _ => rfl) (fun x hx => hp x (by omega)), ?_, hY.cg (fun k h1 h2 => ss_n (by omega)) (fun x _ _ => hp x (by omega)), hL.cg q.2.2 (fun x _ _ => hp x (by omega)), hN.cg hT.1 ?_ ?_ ?_ rfl rfl (fun x hx => hp x (by omega))⟩
  · rw [ss_s]
    show gT _ (upd M.1 (90 + 8 * c + 0) (M.1 (90 + 8 * c + 0) + 1)) _
    rw [← ev]
    exact hT.up hc (by omega) (by omega) (fun _ => ⟨x0 + 1, by rw [v1, nI_1], by omega⟩)
  · rw [ss_n (by omega)]
    exact hR.cg (Nat.le_refl _) (Nat.le_refl _) (Nat.le_refl _) (fun x _ _ => hp x (by omega))
  · rw [ss_s]
    exact hT.1
  · intro i hi
    rw [ss_s]
    exact fup_c (by omega)
  · intro i hi
    rw [ss_s]
    exact fup_c (by omega)
theorem nrow_0 {N c d : Nat} : nrow N c d 0 = N := if_pos rfl
theorem nrow_1 {N c d : Nat} : nrow N c d 1 = c := by unfold nrow; rw [if_neg (by decide), if_pos rfl]
theorem nrow_2 {N c d : Nat} : nrow N c d 2 = d := by unfold nrow; rw [if_neg (by decide), if_neg (by decide), if_pos rfl]
theorem nrow_n {N c d j : Nat} (h : 3 ≤ j) : nrow N c d j = 0 := by unfold nrow; rw [if_neg (by omega), if_neg (by omega), if_neg (by omega)]
/-- its row -/
theorem RG.new (h : RG F (fun _ => False) Zf Zb t K lo wl cl sg sv sw nr r N nq nb qs ws fb gb at_ ow S M) (hn : nr < 16) {c d : Nat} (hc : c < 6) (hd : d ≤ t + 60)
    (s5 : (S'.1 5).1 = nr + 1 ∧ (∀ i j, i < nr → (S'.1 5).2 i j = (S.1 5).2 i j) ∧ ∀ j, j < 7 → (S'.1 5).2 nr j = nI (nrow N c d j)) (sk : ∀ k, k ≠ 5 → S'.1 k = S.1 k) (s14 : S'.2 14 = nI (N + 1)) (s2 : ∀ k, k ≠ 14 → S'.2 k = S.2 k)
    (hp : ∀ x, x ≠ 183 → x ≠ 188 → (x < 189 + 8 * nr ∨ 189 + 8 * nr + 7 ≤ x) → M'.1 x = M.1 x) (h183 : M'.1 183 = nI (N + 1)) (h188 : M'.1 188 = nI (nr + 1)) (hrow : ∀ j, j < 7 → M'.1 (189 + 8 * nr + j) = nI (nrow N c d j)) (hr : M'.2.2 = M.2.2) : RG F (fun x => x = N) Zf Zb t (K + 1) lo wl cl sg sv sw (nr + 1) (rnew r nr N c d) (N + 1) nq nb qs ws fb gb at_ ow S' M' := by
  have q := h.nqb
  obtain ⟨hX, hT, hD, hR, hY, hL, hN⟩ := h
  obtain ⟨k1, k2, k3, k4, k5, k6⟩ := hR
  have hp0 : ∀ x, x < 183 ∨ 317 ≤ x → M'.1 x = M.1 x := fun x hx => hp x (by omega) (by omega) (by omega)
  have ro : ∀ a j, a < nr → rnew r nr N c d a j = r a j := fun a j ha => if_neg (by omega)
  have rn : ∀ j, rnew r nr N c d nr j = nrow N c d j := fun j => if_pos rfl
  unfold RG
  rw [sk 1 (by omega)]
  refine ⟨hX.cg (Nat.le_refl _) q.1 q.2.1 (fun k hk => sk k (by omega)) (fun x hx => hp0 x (by omega)), hT.cg (by omega) (fun x _ _ => hp0 x (by omega)), ?_, ?_, hY.cg (fun k h1 h2 => sk k (by omega)) (fun x _ _ => hp0 x (by omega)), ?_, hN.same hT.1 (sk 1 (by omega)) (s2 16 (by omega)) hr (fun x hx => hp0 x (by omega))⟩
  · obtain ⟨⟨d0, a1, a2, a3⟩, b, c, d, f, g, k, ⟨g0, l1, l2, l3, l4⟩, m, n⟩ := hD
    exact ⟨⟨d0, (s2 11 (by omega)).trans a1, (hp0 178 (by omega)).trans a2, a3⟩, (s2 12 (by omega)).trans b, (hp0 182 (by omega)).trans c, ((s2 13 (by omega)).trans d).trans (hp 184 (by omega) (by omega) (by omega)).symm, s14, h183, by omega, ⟨g0, (s2 15 (by omega)).trans l1, (hp 185 (by omega) (by omega) (by omega)).trans l2, l3, by omega⟩, ((s2 16 (by omega)).trans m).trans (hp 186 (by omega) (by omega) (by omega)).symm, ((s2 17 (by omega)).trans n).trans (hp 187 (by omega) (by omega) (by omega)).symm⟩
  · refine ⟨s5.1, by omega, h188, fun i j hi hj => ?_, fun i j hij hj => ?_, fun i hi => ?_⟩
    · by_cases e : i = nr
      · subst e
        rw [rn]
        exact ⟨s5.2.2 j hj, hrow j hj⟩
      · rw [ro i j (by omega), s5.2.1 i j (by omega), hp _ (by omega) (by omega) (by omega)]
        exact k4 i j (by omega) hj
    · rw [ro i 0 (by omega)]
      by_cases e : j = nr
      · subst e
        rw [rn, nrow_0]
        exact (k6 i (by omega)).1
      · rw [ro j 0 (by omega)]
        exact k5 i j hij (by omega)
    · by_cases e : i = nr
      · subst e
        simp only [rn, nrow_0, nrow_1, nrow_2, nrow_n (Nat.le_refl 3), nrow_n (show 3 ≤ 4 by decide), nrow_n (show 3 ≤ 5 by decide), nrow_n (show 3 ≤ 6 by decide)]
        exact ⟨by omega, hc, hd, by omega, by omega, by omega, by omega, fun z => absurd z (by decide), fun z => absurd trivial z, fun _ z => absurd trivial z⟩
      · simp only [ro i _ (show i < nr by omega)]
        obtain ⟨a1, a2, a3, a4, a5, a6, a7, a8, a9, a10⟩ := k6 i (by omega)
        exact ⟨by omega, a2, a3, a4, a5, a6, a7, a8, fun _ => a9 (fun z => z), fun z _ => a10 z (fun z => z)⟩
  · refine ⟨fun i hi h0 hne => ?_, fun a ha hu => ?_⟩
    · have e : i ≠ nr := fun e => hne (by rw [e, rn, nrow_0])
      rw [ro i 4 (by omega)] at h0
      rw [ro i 7 (by omega), ro i 0 (by omega), ro i 5 (by omega)]
      obtain ⟨b1, b2, b3, b4, b5⟩ := hL.1 i (by omega) h0 (fun z => z)
      exact ⟨b1, b2, b3, (hp _ (by omega) (by omega) (by omega)).trans b4, b5⟩
    · obtain ⟨c1, c2⟩ := hL.2 a ha hu
      refine ⟨c1, c2.imp id ?_⟩
      rintro ⟨i, z1, z2, z3, z4, z5⟩
      have := (k6 i z1).1
      exact ⟨i, by omega, by rw [ro i 0 z1]; exact z2, by rw [ro i 4 z1]; exact z3, by rw [ro i 7 z1]; exact z4, by rw [ro i 0 z1]; omega⟩
end CR
