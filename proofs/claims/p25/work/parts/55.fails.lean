/-! an attempt fails, in both -/
/-- of every request but x there is a row as before, and none else is due at t -/
def Oth (nr : Nat) (r : N2) (nr' : Nat) (r' : N2) (x t : Nat) : Prop := (∀ w y, Due nr' r' w t y ↔ Due nr r w t y ∧ y ≠ x) ∧ ∀ k, k < nr → r k 0 ≠ x → ∃ k', k' < nr' ∧ ∀ c, r' k' c = r k c
section FL
variable {F : Fx} {E Zf Zb : Nat → Prop} {t K lo wl : Nat} {cl sg : N2} {sv sw : N1} {nr : Nat} {r : N2} {N nq nb : Nat} {qs ws fb gb : N1} {at_ : N2} {ow : N1} {S : StS} {M : MS}
theorem oth_dn {T : Tb} {p : Pg} (h : gR T p nr r t N lo wl E) {i : Nat} (hi : i < nr) : Oth nr r (nr - 1) (dn r i) (r i 0) t := by
  have hn : ∀ k, k < nr → r k 0 = r i 0 → k = i := fun k hk e => h.ne hk hi e
  obtain ⟨q1, q2⟩ := dn_other (i := i) hn hi
  refine ⟨fun w y => ⟨?_, ?_⟩, fun k hk hne => q2 k hk (fun e => hne (by rw [e]))⟩
  · rintro ⟨a, a1, a2, a3, a4⟩
    obtain ⟨k, k1, k2, k3⟩ := q1 a a1
    rw [k3] at a2 a3 a4
    exact ⟨⟨k, k1, a2, a3, a4⟩, fun e => k2 (hn k k1 (a2.trans e))⟩
  · rintro ⟨⟨k, k1, a2, a3, a4⟩, hne⟩
    obtain ⟨a, a1, b⟩ := q2 k k1 (fun e => hne (by rw [← a2, e]))
    exact ⟨a, a1, by rw [b]; exact a2, by rw [b]; exact a3, by rw [b]; exact a4⟩
theorem oth_wt {T : Tb} {p : Pg} (h : gR T p nr r t N lo wl E) {i d : Nat} (hi : i < nr) (hd : 1 ≤ d) : Oth nr r nr (rwt r i (t + d) d) (r i 0) t := by
  have hn : ∀ k, k < nr → r k 0 = r i 0 → k = i := fun k hk e => h.ne hk hi e
  have ro : ∀ a c, a ≠ i → rwt r i (t + d) d a c = r a c := fun a c e => if_neg e
  have r5 : rwt r i (t + d) d i 5 = t + d := by unfold rwt; rw [if_pos rfl, if_neg (by decide), if_pos rfl]
  refine ⟨fun w y => ⟨?_, ?_⟩, fun k hk hne => ⟨k, hk, fun c => ro k c (fun e => hne (by rw [e]))⟩⟩
  · rintro ⟨a, a1, a2, a3, a4⟩
    have ha : a ≠ i := fun e => by rw [e, r5] at a4; omega
    rw [ro a _ ha] at a2 a3 a4
    exact ⟨⟨a, a1, a2, a3, a4⟩, fun e => ha (hn a a1 (a2.trans e))⟩
  · rintro ⟨⟨k, k1, a2, a3, a4⟩, hne⟩
    have ha : k ≠ i := fun e => hne (by rw [← a2, e])
    exact ⟨k, k1, by rw [ro k _ ha]; exact a2, by rw [ro k _ ha]; exact a3, by rw [ro k _ ha]; exact a4⟩
theorem drop_end (h : RG F E Zf Zb t K lo wl cl sg sv sw nr r N nq nb qs ws fb gb at_ ow S M) {i c : Nat} (hi : i < nr) (hE : E (r i 0)) (hc : c < 6) (p2 y x : Int32) : ∃ S' M', bfX0_fail_130 p2 y (nI i) (nI c) S = some S' ∧ bfX6_fails_111 (nI i) x (nI c) M = some M' ∧ RG F (fun x => E x ∧ x ≠ r i 0) Zf Zb t K lo wl cl sg sv sw (nr - 1) (dn r i) N nq nb qs ws fb gb at_ ow S' M' ∧ M'.2.1 = M.2.1 := by
  have h2 := h.talC (1 : Int32) hc (y := 3) (by omega) (by omega)
  have h3 := h2.die hi hE
  refine ⟨_, _, rfl, ?_, h3, rfl⟩
  unfold bfX6_fails_111
  rw [show fX6_counts (nI c) (3 : Int32) (1 : Int32) M = _ from counts_n (k := 3) hc (by omega) 1 M, ob_eq, dies_eq h2.2.2.2.1.2.1 hi h2.2.2.2.1.2.2.1, ob_eq]
theorem wait_end (h : RG F E Zf Zb t K lo wl cl sg sv sw nr r N nq nb qs ws fb gb at_ ow S M) (ht : t < 2 ^ 30) {i c d : Nat} (hi : i < nr) (hE : E (r i 0)) (hc : c < 6) (h1 : 1 ≤ r i 3) (h5 : r i 3 ≤ 5) (d1 : 1 ≤ d) (d2 : d ≤ 64) (hwl : wl ≤ t + 1) (p2 y x : Int32) : ∃ S' M' nr' r', bfX0_fail_100 p2 y (nI i) (nI c) (1 : Int32) (nI d) S = some S' ∧ bfX6_fails_82 (nI i) x (nI c) (1 : Int32) (nI d) M = some M' ∧ RG F (fun x => E x ∧ x ≠ r i 0) Zf Zb t K lo wl cl sg sv sw nr' r' N nq nb qs ws fb gb at_ ow S' M' ∧ Oth nr r nr' r' (r i 0) t ∧ M'.2.1 = M.2.1 := by
  have hb := (h.2.2.2.1.2.2.2.2.2 i hi).2.2.1
  have i16 : i < 16 := by have := h.nqb.2.2; omega
  have g2 : sget 5 S (nI i) (2 : Int32) = nI (r i 2) := gR.get rfl h.2.2.2.1 hi (j := 2) (by omega)
  have e12 : S.2 12 = nI t := h.2.2.1.2.1
  have e5 : M.2.2 5 = nI t := h.2.2.2.2.2.2.1
  have p2' : M.1 (189 + 8 * i + 2) = nI (r i 2) := (h.2.2.2.1.2.2.2.1 i 2 hi (by omega)).2
  unfold bfX0_fail_100 bfX6_fails_82
  have h10 : ¬ (1 : Int32) = 0 := by decide
  rw [nm, e12, nI_add, if_neg h10, if_neg h10, g2, row_eq, ob_eq, nA_2, if_pos (okI_nI (by omega) (by decide)), nI_clamp (by omega), e5, nI_add, p2']
  by_cases hlt : t + d < r i 2
  · rw [if_pos (nI_lt hlt (by omega)), if_pos (nI_lt hlt (by omega))]
    have h2 := h.talC (-10 : Int32) hc (y := 7) (by omega) (by omega)
    have h3 := h2.wait hi hE h1 h5 d1 d2 hlt hwl
    refine ⟨_, _, _, _, rfl, ?_, h3, oth_wt h.2.2.2.1 hi d1, rfl⟩
    rw [show fX6_counts (nI c) (7 : Int32) (-10 : Int32) M = _ from counts_n (k := 7) hc (by omega) (-10) M]
    simp only [ob_eq, row_eq, nA_4, nA_5, nA_6, nA_7, nm]
    rw [if_pos (okI_nI (by omega) (by decide)), if_pos (okI_nI (by omega) (by decide)), if_pos (okI_nI (by omega) (by decide)), if_pos (okI_nI (by omega) (by decide)), nI_clamp (by omega), nI_clamp (by omega), nI_clamp (by omega), nI_clamp (by omega), e5, nI_add]
    rfl
  · rw [if_neg (nI_nlt (by omega) (by omega)), if_neg (nI_nlt (by omega) (by omega))]
    obtain ⟨S', M', q1, q2, q3, q4⟩ := drop_end h hi hE hc p2 y x
    exact ⟨S', M', _, _, q1, q2, q3, oth_dn h.2.2.2.1 hi, q4⟩
theorem fail_rel (h : RG F E Zf Zb t K lo wl cl sg sv sw nr r N nq nb qs ws fb gb at_ ow S M) (hNb : N < 2 ^ 30) (ht : t < 2 ^ 30) (hwl : wl ≤ t + 1) {i y : Nat} (hi : i < nr) (hE : E (r i 0)) (h1 : 1 ≤ r i 3) (hy : 4 ≤ y) (hy2 : y ≤ 6) : ∃ S' M' nr' r', fX0_fail (nI (r i 0)) (nI y) S = some S' ∧ fX6_fails (nI i) (nI y) M = some M' ∧ RG F (fun x => E x ∧ x ≠ r i 0) Zf Zb t K lo wl cl sg sv sw nr' r' N nq nb qs ws fb gb at_ ow S' M' ∧ Oth nr r nr' r' (r i 0) t ∧ M'.2.1 = M.2.1 := by
  have i16 : i < 16 := by have := h.nqb.2.2; omega
  obtain ⟨b1, hc, b3, b4, b5, b6, b7, b8, b9, b10⟩ := h.2.2.2.1.2.2.2.2.2 i hi
  have g1 : sget 5 S (nI i) (1 : Int32) = nI (r i 1) := gR.get rfl h.2.2.2.1 hi (j := 1) (by omega)
  have p1 : M.1 (189 + 8 * i + 1) = nI (r i 1) := (h.2.2.2.1.2.2.2.1 i 1 hi (by omega)).2
  have hf := gR.find (S := S) rfl h.2.2.2.1 (by omega) hi
  have h2 := h.talC (1 : Int32) hc (y := y) (by omega) (by omega)
  -- both have counted
  have hcnt : fX6_counts (nI (r i 1)) (nI y) (1 : Int32) M = some (upd M.1 (90 + 8 * r i 1 + y) (M.1 (90 + 8 * r i 1 + y) + 1), M.2) := counts_n hc (by omega) 1 M
  unfold fX0_fail fX6_fails
  rw [hf, nm, if_neg (show ¬ nI i = (-9 : Int32) from nI_neg (by omega) (by decide)), g1, nm, nm, row_eq, ob_eq, nA_1, if_pos (okI_nI (by omega) (by decide)), nm, nI_clamp (by omega), p1, hcnt, ob_eq]
  generalize hS2 : sadd 1 S (nI (r i 1)) (nI y) (1 : Int32) = S2 at h2 ⊢
  generalize hM2 : (upd M.1 (90 + 8 * r i 1 + y) (M.1 (90 + 8 * r i 1 + y) + 1), M.2) = M2 at h2 ⊢
  have hM21 : M2.2.1 = M.2.1 := by rw [← hM2]
  rw [← hM21]
  clear hM21 hM2 hS2 hcnt hf p1 g1
  have g3 : sget 5 S2 (nI i) (3 : Int32) = nI (r i 3) := gR.get rfl h2.2.2.2.1 hi (j := 3) (by omega)
  have g6 : sget 5 S2 (nI i) (6 : Int32) = nI (r i 6) := gR.get rfl h2.2.2.2.1 hi (j := 6) (by omega)
  have a3 : sget 0 S2 (nI (r i 1)) (3 : Int32) = nI (cl (r i 1) 3) := gC.get rfl h2.1.1 hc (j := 3) (by omega)
  have a5 : sget 0 S2 (nI (r i 1)) (5 : Int32) = nI (cl (r i 1) 5) := gC.get rfl h2.1.1 hc (j := 5) (by omega)
  have a6 : sget 0 S2 (nI (r i 1)) (6 : Int32) = nI (cl (r i 1) 6) := gC.get rfl h2.1.1 hc (j := 6) (by omega)
  have a7 : sget 0 S2 (nI (r i 1)) (7 : Int32) = nI (cl (r i 1) 7) := gC.get rfl h2.1.1 hc (j := 7) (by omega)
  have hC := h2.1.1.2
  have t3 := (hC (r i 1) 3 hc (by omega)).2.2
  have t5 := (hC (r i 1) 5 hc (by omega)).2.2
  have t6 := (hC (r i 1) 6 hc (by omega)).2.2
  have t7 := (hC (r i 1) 7 hc (by omega)).2.2
  have o3 : fX6_of (nI (r i 1)) (3 : Int32) M2 = some (nI (cl (r i 1) 3)) := (of_n (k := 3) hc (by omega) M2).trans (congrArg some (hC (r i 1) 3 hc (by omega)).2.1)
  have c1 : M2.1 (189 + 8 * i + 1) = nI (r i 1) := (h2.2.2.2.1.2.2.2.1 i 1 hi (by omega)).2
  have c3 : M2.1 (189 + 8 * i + 3) = nI (r i 3) := (h2.2.2.2.1.2.2.2.1 i 3 hi (by omega)).2
  have c6 : M2.1 (189 + 8 * i + 6) = nI (r i 6) := (h2.2.2.2.1.2.2.2.1 i 6 hi (by omega)).2
  have u7 : sget 1 S2 (nI (r i 1)) (7 : Int32) = M2.1 (90 + 8 * r i 1 + 7) := (sget_tal h2.2.1.1 hc (y := 7) (by omega)).trans ((h2.2.1.2 _ hc).1 7 (by omega))
  have l3 : hiL 3 = 6 := rfl
  have l5 : loL 5 = 1 ∧ hiL 5 = 16 := ⟨rfl, rfl⟩
  have l6 : loL 6 = 1 ∧ hiL 6 = 64 := ⟨rfl, rfl⟩
  have l7 : hiL 7 = 3 := rfl
  rw [l3] at t3
  rw [l5.1, l5.2] at t5
  rw [l6.1, l6.2] at t6
  rw [l7] at t7
  rw [a3, g3, u7, row_eq, ob_eq, nA_3, if_pos (okI_nI (by omega) (by decide)), o3, ob_eq, nI_clamp (by omega), c3]
  have hno : ∃ S' M' nr' r', bfX0_fail_81 (nI (r i 0)) (nI y) (nI i) (nI (r i 1)) S2 = some S' ∧ bfX6_fails_65 (nI i) (nI y) (nI (r i 1)) M2 = some M' ∧ RG F (fun x => E x ∧ x ≠ r i 0) Zf Zb t K lo wl cl sg sv sw nr' r' N nq nb qs ws fb gb at_ ow S' M' ∧ Oth nr r nr' r' (r i 0) t ∧ M'.2.1 = M2.2.1 := by
    obtain ⟨S', M', q1, q2, q3, q4⟩ := drop_end h2 hi hE hc (nI (r i 0)) (nI y) (nI y)
    refine ⟨S', M', _, _, ?_, ?_, q3, oth_dn h2.2.2.2.1 hi, q4⟩
    · unfold bfX0_fail_81 bfX0_fail_82 bfX0_fail_100
      rw [if_pos rfl, nm, if_pos rfl]
      exact q1
    · unfold bfX6_fails_65 bfX6_fails_66 bfX6_fails_82
      rw [if_pos rfl, if_pos rfl]
      exact q2
  by_cases hA : cl (r i 1) 3 ≤ r i 3
  · rw [if_pos (nI_le hA (by omega)), if_pos (nI_le hA (by omega))]
    exact hno
  · rw [if_neg (nI_ge (by omega) (by omega)), if_neg (nI_ge (by omega) (by omega)), nM_8, nB_90, nA_7, if_pos (okI_nI (by omega) (by decide)), nI_clamp (by omega)]
    by_cases hB : M2.1 (90 + 8 * r i 1 + 7) < 10
    · rw [if_pos hB, if_pos hB]
      exact hno
    · rw [if_neg hB, if_neg hB]
      unfold bfX0_fail_82 bfX6_fails_66
      have h10 : ¬ (1 : Int32) = 0 := by decide
      rw [if_neg h10, if_neg h10, delay_X a5 a6 a7 g3 g6 (by omega) (by omega) (by omega) (by omega) (by omega) h1 (by omega) (by omega), delay_M i16 hc c1 (hC _ 5 hc (by omega)).2.1 (hC _ 6 hc (by omega)).2.1 (hC _ 7 hc (by omega)).2.1 c3 c6 (by omega) (by omega) (by omega) (by omega) (by omega) h1 (by omega) (by omega), ob_eq, ob_eq]
      have e13 : S2.2 13 = M2.1 184 := h2.2.2.1.2.2.2.1
      rw [e13]
      have h3 := h2.seed (sdn (cl (r i 1) 7) (M2.1 184))
      have hd := dly_le (b := cl (r i 1) 5) (k := cl (r i 1) 6) (j := cl (r i 1) 7) (m := r i 3) (d := r i 6) (M2.1 184) (by omega) (by omega)
      exact wait_end h3 ht hi hE hc h1 (by omega) hd.1 (by omega) hwl _ _ _
end FL
