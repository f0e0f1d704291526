/-! .. and the reference's -/
section SM
variable {F : Fx} {E Zf Zb : Nat → Prop} {t K lo wl : Nat} {cl sg : N2} {sv sw : N1} {nr : Nat} {r : N2} {N nq nb : Nat} {qs ws fb gb : N1} {at_ : N2} {ow : N1} {S S' : StS} {M M' : MS}
theorem send_M (h : RG F E Zf Zb t K lo wl cl sg sv sw nr r N nq nb qs ws fb gb at_ ow S M) (hNb : N < 2 ^ 30) (ht : t < 2 ^ 29) {i : Nat} (hi : i < nr) : fX6_sends (nI i) M = qM (nI i) (nI (r i 0)) (nI (r i 1)) (nI (min (t + cl (r i 1) 4) (r i 2))) (psd (upd M.1 (90 + 8 * r i 1 + 1) (M.1 (90 + 8 * r i 1 + 1) + 1)) i (r i 3 + 1) (min (t + cl (r i 1) 4) (r i 2)), M.2.1, upd M.2.2 7 (M.2.2 7 + 1)) := by
  have hR := h.2.2.2.1
  obtain ⟨b1, hc, b3, -⟩ := hR.2.2.2.2.2 i hi
  have hC := h.1.1
  have t4 := (hC.2 (r i 1) 4 hc (by omega)).2.2.2
  rw [show hiL 4 = 40 from rfl] at t4
  have i16 := hR.2.1
  have e5 : M.2.2 5 = nI t := h.2.2.2.2.2.2.1
  have p0 : M.1 (189 + 8 * i + 0) = nI (r i 0) := (hR.2.2.2.1 i 0 hi (by omega)).2
  have p1 : M.1 (189 + 8 * i + 1) = nI (r i 1) := (hR.2.2.2.1 i 1 hi (by omega)).2
  have p2 := (hR.2.2.2.1 i 2 hi (by omega)).2
  have p3 := (hR.2.2.2.1 i 3 hi (by omega)).2
  have c4 := (hC.2 (r i 1) 4 hc (by omega)).2.1
  have st : ∀ (X : MS) (c : Nat) (c' z : Int32) (Q : MS → Option MS), c' = nI c → c < 8 → (ob (fX6_row (nI i) X) fun u => if okI (u + c') 5130 then nm (upd X.1 ((u + c')).toNatClampNeg z, X.2) Q else none) = Q (upd X.1 (189 + 8 * i + c) z, X.2) := by
    intro X c c' z Q e hc
    subst e
    rw [row_eq, ob_eq, nI_add, if_pos (okI_nI (by omega) (by decide)), nm, nI_clamp (by omega)]
  have s3 : ∀ (X : MS) (Q : MS → Option MS), X.1 (189 + 8 * i + 3) = nI (r i 3) → (ob (fX6_row (nI i) X) fun u => if okI (u + (3 : Int32)) 5130 then (if okI (u + (3 : Int32)) 5130 then nm (upd X.1 ((u + (3 : Int32))).toNatClampNeg ((X.1 ((u + (3 : Int32))).toNatClampNeg) + (1 : Int32)), X.2) Q else none) else none) = Q (upd X.1 (189 + 8 * i + 3) (nI (r i 3 + 1)), X.2) := by
    intro X Q hx
    rw [row_eq, ob_eq, nA_3, if_pos (okI_nI (by omega) (by decide)), if_pos (okI_nI (by omega) (by decide)), nm, nI_clamp (by omega), hx, nA_1]
  have s5 : ∀ (X : MS) (Q : MS → Option MS), X.1 (12 * r i 1 + 4) = nI (cl (r i 1) 4) → X.1 (189 + 8 * i + 2) = nI (r i 2) → X.2.2 5 = nI t → (ob (fX6_row (nI i) X) fun u92 => ob (fX6_of (nI (r i 1)) (4 : Int32) X) fun u93 => ob (fX6_row (nI i) X) fun u94 => (if okI (u94 + (2 : Int32)) 5130 then ob (fX6_least (((X.2.2 5) + u93)) ((X.1 ((u94 + (2 : Int32))).toNatClampNeg))) fun u95 => (if okI (u92 + (5 : Int32)) 5130 then nm (upd X.1 ((u92 + (5 : Int32))).toNatClampNeg u95, X.2) Q else none) else none)) = Q (upd X.1 (189 + 8 * i + 5) (nI (min (t + cl (r i 1) 4) (r i 2))), X.2) := by
    intro X Q h1 h2 h3
    rw [row_eq, ob_eq, show fX6_of (nI (r i 1)) (4 : Int32) X = some (nI (cl (r i 1) 4)) from (of_n (k := 4) hc (by omega) X).trans (congrArg some h1), ob_eq, ob_eq, nA_2, if_pos (okI_nI (by omega) (by decide)), nI_clamp (by omega), h2, h3, nI_add, least_eq, least_nI (by omega) (by omega), ob_eq, nA_5, if_pos (okI_nI (by omega) (by decide)), nm, nI_clamp (by omega)]
  unfold fX6_sends
  rw [row_eq, ob_eq, nA_0, if_pos (okI_nI (by omega) (by decide)), nm, nI_clamp (by omega), p0, ob_eq, nA_1, if_pos (okI_nI (by omega) (by decide)), nm, nI_clamp (by omega), p1, show fX6_counts (nI (r i 1)) (1 : Int32) (1 : Int32) M = _ from counts_n (k := 1) hc (by omega) 1 M, ob_eq, nm]
  refine (s3 _ _ (by dsimp only; rw [up_n (by omega)]; exact p3)).trans ?_
  refine (st _ 4 _ _ _ rfl (by omega)).trans ?_
  refine (s5 _ _ (by dsimp only; rw [up_n (by omega), up_n (by omega), up_n (by omega)]; exact c4) (by dsimp only; rw [up_n (by omega), up_n (by omega), up_n (by omega)]; exact p2) (by dsimp only; rw [up_n (by omega)]; exact e5)).trans ?_
  refine (st _ 7 _ _ _ rfl (by omega)).trans ?_
  rw [row_eq, ob_eq, nA_5, if_pos (okI_nI (by omega) (by decide)), nm, nI_clamp (by omega), cl_557, cl_175]
  dsimp only
  rw [up_n (show 189 + 8 * i + 5 ≠ 189 + 8 * i + 7 by omega), up_s rfl]
  rfl
end SM
