/-! work is wasted or good; a request succeeds; attempts move -/
section ML
variable {F : Fx} {E Zf Zb : Nat → Prop} {t K lo wl : Nat} {cl sg : N2} {sv sw : N1} {nr : Nat} {r : N2} {N nq nb : Nat} {qs ws fb gb : N1} {at_ : N2} {ow : N1} {S S' : StS} {M M' : MS}
theorem gN.same {F : Fx} {t : Nat} (h : gN F t S M) (hT : (S.1 1).1 = 6) (hS : S'.1 1 = S.1 1) (e16 : S'.2 16 = S.2 16) (er : M'.2.2 = M.2.2) (ep : ∀ x, 855 ≤ x → M'.1 x = M.1 x) : gN F t S' M' := h.cg hT (by rw [hS]; exact hT) (fun i _ => by rw [hS]) (fun i _ => by rw [hS]) e16 er ep
theorem RG.waste (h : RG F E Zf Zb t K lo wl cl sg sv sw nr r N nq nb qs ws fb gb at_ ow S M) (v : Int32) : RG F E Zf Zb t K lo wl cl sg sv sw nr r N nq nb qs ws fb gb at_ ow (S.1, upd S.2 16 (S.2 16 + v)) (upd M.1 186 (M.1 186 + v), M.2.1, upd M.2.2 8 (M.2.2 8 + v)) := by
  have q := h.nqb
  obtain ⟨hX, hT, hD, hR, hY, hL, hN⟩ := h
  have hp : ∀ x, x ≠ 186 → upd M.1 186 (M.1 186 + v) x = M.1 x := fun x hx => up_n hx
  have hs : ∀ x, x ≠ 16 → upd S.2 16 (S.2 16 + v) x = S.2 x := fun x hx => up_n hx
  have hg : ∀ x, x ≠ 8 → upd M.2.2 8 (M.2.2 8 + v) x = M.2.2 x := fun x hx => up_n hx
  refine ⟨hX.cg (Nat.le_refl _) q.1 q.2.1 (fun k hk => rfl) (fun x hx => hp x (by omega)), hT.cg (Nat.le_refl _) (fun x _ _ => hp x (by omega)), ?_, hR.cg (Nat.le_refl _) (Nat.le_refl _) (Nat.le_refl _) (fun x _ _ => hp x (by omega)), hY.cg (fun k h1 h2 => rfl) (fun x _ _ => hp x (by omega)), hL.cg q.2.2 (fun x _ _ => hp x (by omega)), ?_⟩
  · obtain ⟨⟨d0, a1, a2, a3⟩, b, c, d, f, g, k, ⟨g0, l1, l2, l3⟩, m, n⟩ := hD
    refine ⟨⟨d0, (hs 11 (by omega)).trans a1, (hp 178 (by omega)).trans a2, a3⟩, (hs 12 (by omega)).trans b, (hp 182 (by omega)).trans c, ((hs 13 (by omega)).trans d).trans (hp 184 (by omega)).symm, (hs 14 (by omega)).trans f, (hp 183 (by omega)).trans g, k, ⟨g0, (hs 15 (by omega)).trans l1, (hp 185 (by omega)).trans l2, l3⟩, ?_, ((hs 17 (by omega)).trans n).trans (hp 187 (by omega)).symm⟩
    show upd S.2 16 (S.2 16 + v) 16 = upd M.1 186 (M.1 186 + v) 186
    rw [up_s rfl, up_s rfl, m]
  · obtain ⟨n1, n2, n3, n4, n5, n6⟩ := hN
    refine ⟨(hg 5 (by omega)).trans n1, ?_, ?_, ?_, (hg 1 (by omega)).trans n5, fun x hx => (hp x (by omega)).trans (n6 x hx)⟩
    · show ssum 1 S 2 = F.2.1.1 + upd M.2.2 8 (M.2.2 8 + v) 6
      rw [hg 6 (by omega)]
      exact n2
    · show ssum 1 S 1 = F.2.1.2.1 + upd M.2.2 8 (M.2.2 8 + v) 7
      rw [hg 7 (by omega)]
      exact n3
    · show upd S.2 16 (S.2 16 + v) 16 = F.2.1.2.2.1 + upd M.2.2 8 (M.2.2 8 + v) 8
      rw [up_s rfl, up_s rfl, n4, Int32.add_assoc]
theorem RG.goodW (h : RG F E Zf Zb t K lo wl cl sg sv sw nr r N nq nb qs ws fb gb at_ ow S M) (m : Nat) : RG F E Zf Zb t (K + m) lo wl cl sg sv sw nr r N nq nb qs ws fb gb at_ ow (S.1, upd S.2 15 (S.2 15 + nI m)) (upd M.1 185 (M.1 185 + nI m), M.2) := by
  have q := h.nqb
  obtain ⟨hX, hT, hD, hR, hY, hL, hN⟩ := h
  have hp : ∀ x, x ≠ 185 → upd M.1 185 (M.1 185 + nI m) x = M.1 x := fun x hx => up_n hx
  have hs : ∀ x, x ≠ 15 → upd S.2 15 (S.2 15 + nI m) x = S.2 x := fun x hx => up_n hx
  refine ⟨hX.cg (Nat.le_refl _) q.1 q.2.1 (fun k hk => rfl) (fun x hx => hp x (by omega)), hT.cg (by omega) (fun x _ _ => hp x (by omega)), ?_, hR.cg (Nat.le_refl _) (Nat.le_refl _) (Nat.le_refl _) (fun x _ _ => hp x (by omega)), hY.cg (fun k h1 h2 => rfl) (fun x _ _ => hp x (by omega)), hL.cg q.2.2 (fun x _ _ => hp x (by omega)), hN.same hT.1 rfl (hs 16 (by omega)) rfl (fun x hx => hp x (by omega))⟩
  obtain ⟨⟨d0, a1, a2, a3⟩, b, c, d, f, g, k, ⟨g0, l1, l2, l3, l4⟩, m2, n⟩ := hD
  refine ⟨⟨d0, (hs 11 (by omega)).trans a1, (hp 178 (by omega)).trans a2, a3⟩, (hs 12 (by omega)).trans b, (hp 182 (by omega)).trans c, ((hs 13 (by omega)).trans d).trans (hp 184 (by omega)).symm, (hs 14 (by omega)).trans f, (hp 183 (by omega)).trans g, by omega, ⟨g0 + m, ?_, ?_, by omega, by omega⟩, ((hs 16 (by omega)).trans m2).trans (hp 186 (by omega)).symm, ((hs 17 (by omega)).trans n).trans (hp 187 (by omega)).symm⟩
  · show upd S.2 15 (S.2 15 + nI m) 15 = _
    rw [up_s rfl, l1, nI_add]
  · show upd M.1 185 (M.1 185 + nI m) 185 = _
    rw [up_s rfl, l2, nI_add]
/-- a request succeeds, by the count -/
theorem RG.succC (h : RG F E Zf Zb t K lo wl cl sg sv sw nr r N nq nb qs ws fb gb at_ ow S M) {c : Nat} (hc : c < 6) : RG F E Zf Zb t K lo wl cl sg sv sw nr r N nq nb qs ws fb gb at_ ow (sadd 1 S (nI c) (2 : Int32) (1 : Int32)) (upd M.1 (90 + 8 * c + 2) (M.1 (90 + 8 * c + 2) + 1), M.2.1, upd M.2.2 6 (M.2.2 6 + 1)) := by
  have q := h.nqb
  obtain ⟨hX, hT, hD, hR, hY, hL, hN⟩ := h
  have hp : ∀ x, x ≠ 90 + 8 * c + 2 → upd M.1 (90 + 8 * c + 2) (M.1 (90 + 8 * c + 2) + 1) x = M.1 x := fun x hx => up_n hx
  have hq : ∀ x, x ≠ 6 → upd M.2.2 6 (M.2.2 6 + 1) x = M.2.2 x := fun x hx => up_n hx
  have e : sadd 1 S (nI c) (2 : Int32) (1 : Int32) = sset S 1 ((S.1 1).1, fup (S.1 1).2 c 2 ((S.1 1).2 c 2 + 1)) := sadd_tal hT.1 hc (y := 2) (by omega)
  have ev : (S.1 1).2 c 2 = M.1 (90 + 8 * c + 2) := (hT.2 c hc).1 2 (by omega)
  rw [e]
  refine ⟨hX.cg (Nat.le_refl _) q.1 q.2.1 (fun k hk => ss_n (by omega)) (fun x hx => hp x (by omega)), ?_, hD.cg (by omega) (fun _ _ _ => rfl) (fun x hx => hp x (by omega)), ?_, hY.cg (fun k h1 h2 => ss_n (by omega)) (fun x _ _ => hp x (by omega)), hL.cg q.2.2 (fun x _ _ => hp x (by omega)), ?_⟩
  · rw [ss_s]
    show gT _ (upd M.1 (90 + 8 * c + 2) (M.1 (90 + 8 * c + 2) + 1)) _
    rw [← ev]
    exact hT.up hc (by omega) (by omega) (fun z => absurd z (by decide))
  · rw [ss_n (by omega)]
    exact hR.cg (Nat.le_refl _) (Nat.le_refl _) (Nat.le_refl _) (fun x _ _ => hp x (by omega))
  · obtain ⟨n1, n2, n3, n4, n5, n6⟩ := hN
    refine ⟨(hq 5 (by omega)).trans n1, ?_, ?_, ?_, (hq 1 (by omega)).trans n5, fun x hx => (hp x (by omega)).trans (n6 x hx)⟩
    · rw [show ssum 1 _ (2 : Int32) = ssum 1 _ (nI 2) from rfl, ssum_up hT.1 hc (by omega)]
      show ssum 1 S (nI 2) + 1 = F.2.1.1 + upd M.2.2 6 (M.2.2 6 + 1) 6
      rw [up_s rfl, ← Int32.add_assoc]
      exact congrArg (· + 1) n2
    · rw [show (1 : Int32) = nI 1 from rfl, ssum_other hT.1 (by omega) (by omega)]
      show ssum 1 S (nI 1) = F.2.1.2.1 + upd M.2.2 6 (M.2.2 6 + 1) 7
      rw [hq 7 (by omega)]
      exact n3
    · show S.2 16 = F.2.1.2.2.1 + upd M.2.2 6 (M.2.2 6 + 1) 8
      rw [hq 8 (by omega)]
      exact n4
/-- and by its attempt -/
theorem RG.succA (h : RG F E Zf Zb t K lo wl cl sg sv sw nr r N nq nb qs ws fb gb at_ ow S M) {c m : Nat} (hc : c < 6) (hm : m < 6) : RG F E Zf Zb t K lo wl cl sg sv sw nr r N nq nb qs ws fb gb at_ ow (sadd 1 S (nI c) (nI (8 + m)) (1 : Int32)) (upd M.1 (138 + 6 * c + m) (M.1 (138 + 6 * c + m) + 1), M.2) := by
  have q := h.nqb
  obtain ⟨hX, hT, hD, hR, hY, hL, hN⟩ := h
  have hp : ∀ x, x ≠ 138 + 6 * c + m → upd M.1 (138 + 6 * c + m) (M.1 (138 + 6 * c + m) + 1) x = M.1 x := fun x hx => up_n hx
  rw [sadd_tal hT.1 hc (by omega)]
  have ev : (S.1 1).2 c (8 + m) = M.1 (138 + 6 * c + m) := (hT.2 c hc).2.1 m hm
  refine ⟨hX.cg (Nat.le_refl _) q.1 q.2.1 (fun k hk => ss_n (by omega)) (fun x hx => hp x (by omega)), ?_, hD.cg (by omega) (fun _ _ _ => rfl) (fun x hx => hp x (by omega)), ?_, hY.cg (fun k h1 h2 => ss_n (by omega)) (fun x _ _ => hp x (by omega)), hL.cg q.2.2 (fun x _ _ => hp x (by omega)), hN.cg hT.1 ?_ ?_ ?_ rfl rfl (fun x hx => hp x (by omega))⟩
  · rw [ss_s]
    refine ⟨hT.1, fun i hi => ?_⟩
    obtain ⟨h1, h2, x0, x1, h3, h4, h5, h6⟩ := hT.2 i hi
    refine ⟨fun j hj => ?_, fun j hj => ?_, x0, x1, (fup_c (by omega)).trans h3, (fup_c (by omega)).trans h4, h5, h6⟩
    · exact (fup_c (by omega)).trans ((h1 j hj).trans (hp _ (by omega)).symm)
    · show fup (S.1 1).2 c (8 + m) ((S.1 1).2 c (8 + m) + 1) i (8 + j) = upd M.1 (138 + 6 * c + m) (M.1 (138 + 6 * c + m) + 1) (138 + 6 * i + j)
      by_cases e : i = c
      · by_cases e2 : j = m
        · rw [fup_s e (by omega), up_s (by omega), ev]
        · rw [fup_c (by omega), hp _ (by omega)]
          exact h2 j hj
      · rw [fup_r e, hp _ (by omega)]
        exact h2 j hj
  · rw [ss_n (by omega)]
    exact hR.cg (Nat.le_refl _) (Nat.le_refl _) (Nat.le_refl _) (fun x _ _ => hp x (by omega))
  · rw [ss_s]; exact hT.1
  · intro i hi
    rw [ss_s]
    exact fup_c (by omega)
  · intro i hi
    rw [ss_s]
    exact fup_c (by omega)
end ML
