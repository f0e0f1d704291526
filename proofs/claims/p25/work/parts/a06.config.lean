/-! changes of the configuration, in both -/
theorem gt_ge {a : Int32} {hi : Nat} (h2 : hi < 2 ^ 30) (h : nI hi < a) : nI (hi + 1) ≤ a := by
  rcases pk_ix a (n := hi + 1) (by omega) with y | y | ⟨j, j1, rfl⟩
  · exact absurd (Int32.lt_trans h y) (nI_pos (by omega))
  · exact y
  · exact absurd h (nI_nlt (by omega) (by omega))
theorem cli (a : Int32) : (fX5_isClient a = some 0 ∧ fX6_isClient a = some 0) ∨ ∃ c, c < 6 ∧ a = nI c ∧ fX5_isClient a = some 1 ∧ fX6_isClient a = some 1 := by
  unfold fX5_isClient bfX5_isClient_14 bfX5_isClient_15 fX6_isClient
  rw [if_pos (Or.inl rfl), if_pos (Or.inr rfl)]
  rcases rng a 0 5 (by omega) (by omega) with c | ⟨c0, c⟩ | ⟨k, k1, k2, rfl⟩
  · refine Or.inl ⟨?_, ?_⟩
    · rw [if_pos (show a < 0 from c)]
    · rw [show fX6_in a (0 : Int32) (5 : Int32) = some 0 from in_lo c, ob_eq, if_pos (Or.inl rfl)]
  · refine Or.inl ⟨?_, ?_⟩
    · rw [if_neg (show ¬ a < 0 from c0), if_pos (show (6 : Int32) ≤ a from gt_ge (hi := 5) (by omega) c)]
    · rw [show fX6_in a (0 : Int32) (5 : Int32) = some 0 from in_hi c0 c, ob_eq, if_pos (Or.inl rfl)]
  · refine Or.inr ⟨k, by omega, rfl, ?_, ?_⟩
    · rw [if_neg (nI_pos (by omega)), if_neg (show ¬ (6 : Int32) ≤ nI k from nI_ge (b := 6) (by omega) (by omega))]
    · rw [show fX6_in (nI k) (0 : Int32) (5 : Int32) = some 1 from in_ok (lo := 0) (hi := 5) k1 k2 (by omega), ob_eq, if_pos (Or.inr rfl)]
section SE
variable {g0 t K : Nat} {cl sg : N2} {sv sw : N1} {S : StS} {p : Pg}
def cl1 (cl : N2) (c w v : Nat) : N2 := fun i j => if i = c ∧ j = w then v else cl i j
theorem RZ.setc (h : RZ g0 t K cl sg sv sw S p) {c w v : Nat} (hc : c < 6) (hw : w < 12) (h1 : loL w ≤ v) (h2 : v ≤ hiL w) : sget 0 S (nI c) (nI w) = p (12 * c + w) ∧ RZ g0 t K (cl1 cl c w v) sg sv sw (sput 0 S (nI c) (nI w) (nI v)) (upd p (12 * c + w) (nI v)) := by
  obtain ⟨nr, r, N, nq, nb, qs, ws, fb, gb, at_, ow, ⟨hC, hS, hV, hW, hH⟩, hT, hD, hR, hY, hL⟩ := h
  have hq := hV.2.2
  have e : ∀ x, x ≠ 12 * c + w → upd p (12 * c + w) (nI v) x = p x := fun x hx => up_n hx
  have es : sput 0 S (nI c) (nI w) (nI v) = sset S 0 ((S.1 0).1, fup (S.1 0).2 c w (nI v)) := by
    show sset S 0 (tput 12 6 (S.1 0) (nI c) (nI w) (nI v)) = _
    rw [tp (by rw [hC.1]; exact hc) hc hw (by omega) (by omega)]
  refine ⟨(gC.get rfl hC hc hw).trans (hC.2 c w hc hw).2.1.symm, ?_⟩
  rw [es]
  unfold RZ gX
  rw [ss_n (show 2 ≠ 0 by omega), ss_n (show 3 ≠ 0 by omega), ss_n (show 4 ≠ 0 by omega), ss_n (show 10 ≠ 0 by omega), ss_n (show 1 ≠ 0 by omega), ss_n (show 5 ≠ 0 by omega), ss_s]
  refine ⟨nr, r, N, nq, nb, qs, ws, fb, gb, at_, ow, ⟨⟨hC.1, fun i j hi hj => ?_⟩, hS.cg (Nat.le_refl _) (fun x _ _ => e x (by omega)), hV.cg hq.1 hq.2 (fun x _ _ => e x (by omega)), hW.cg (fun x _ _ => e x (by omega)), hH.cg (fun x _ _ => e x (by omega))⟩, hT.cg (Nat.le_refl _) (fun x _ _ => e x (by omega)), hD.cg (Nat.le_refl _) (fun _ _ _ => rfl) (fun x hx => e x (by omega)), hR.cg (Nat.le_refl _) (Nat.le_refl _) (Nat.le_refl _) (fun x _ _ => e x (by omega)), hY.cg (fun k _ _ => ss_n (by omega)) (fun x _ _ => e x (by omega)), hL.cg hR.2.1 (fun x _ _ => e x (by omega))⟩
  show fup (S.1 0).2 c w (nI v) i j = nI (cl1 cl c w v i j) ∧ upd p (12 * c + w) (nI v) (12 * i + j) = nI (cl1 cl c w v i j) ∧ loL j ≤ cl1 cl c w v i j ∧ cl1 cl c w v i j ≤ hiL j
  by_cases q : i = c ∧ j = w
  · rw [show cl1 cl c w v i j = v from if_pos q, fup_s q.1 q.2, up_s (by rw [q.1, q.2]), q.2]
    exact ⟨rfl, rfl, h1, h2⟩
  · rw [show cl1 cl c w v i j = cl i j from if_neg q, e _ (by omega), show fup (S.1 0).2 c w (nI v) i j = (S.1 0).2 i j from if_neg q]
    exact hC.2 i j hi hj
theorem RZ.tal7 (h : RZ g0 t K cl sg sv sw S p) {c : Nat} (hc : c < 6) (z : Int32) : RZ g0 t K cl sg sv sw (sput 1 S (nI c) (7 : Int32) z) (upd p (90 + 8 * c + 7) z) := by
  obtain ⟨nr, r, N, nq, nb, qs, ws, fb, gb, at_, ow, hX, hT, hD, hR, hY, hL⟩ := h
  have hq := hX.2.2.1.2.2
  have e : ∀ x, x ≠ 90 + 8 * c + 7 → upd p (90 + 8 * c + 7) z x = p x := fun x hx => up_n hx
  rw [show (7 : Int32) = nI 7 from rfl, sput_tal hT.1 hc (by omega)]
  refine ⟨nr, r, N, nq, nb, qs, ws, fb, gb, at_, ow, hX.cg (Nat.le_refl _) hq.1 hq.2 (fun k hk => ss_n (by omega)) (fun x hx => e x (by omega)), ?_, hD.cg (Nat.le_refl _) (fun _ _ _ => rfl) (fun x hx => e x (by omega)), ?_, hY.cg (fun k _ _ => ss_n (by omega)) (fun x _ _ => e x (by omega)), hL.cg hR.2.1 (fun x _ _ => e x (by omega))⟩
  · rw [ss_s]
    exact hT.up hc (by omega) (Nat.le_refl _) (fun q => absurd q (by omega))
  · rw [ss_n (by omega)]
    exact hR.cg (Nat.le_refl _) (Nat.le_refl _) (Nat.le_refl _) (fun x _ _ => e x (by omega))
theorem RZ.setsw (h : RZ g0 t K cl sg sv sw S p) {i v : Nat} (hi : i < 3) (hv : v ≤ 1) : sget 4 S (nI i) (0 : Int32) = p (179 + i) ∧ RZ g0 t K cl sg sv (fun j => if j = i then v else sw j) (sput 4 S (nI i) (0 : Int32) (nI v)) (upd p (179 + i) (nI v)) := by
  obtain ⟨nr, r, N, nq, nb, qs, ws, fb, gb, at_, ow, ⟨hC, hS, hV, hW, hH⟩, hT, hD, hR, hY, hL⟩ := h
  have hq := hV.2.2
  have e : ∀ x, x ≠ 179 + i → upd p (179 + i) (nI v) x = p x := fun x hx => up_n hx
  have es : sput 4 S (nI i) (0 : Int32) (nI v) = sset S 4 ((S.1 4).1, fup (S.1 4).2 i 0 (nI v)) := by
    show sset S 4 (tput 1 3 (S.1 4) (nI i) (nI 0) (nI v)) = _
    rw [tp (by rw [hW.1]; exact hi) hi (by omega) (by omega) (by omega)]
  refine ⟨(tg (w := 1) (rows := 3) (T := S.1 4) (j := 0) (by rw [hW.1]; exact hi) hi (by omega) (by omega) (by omega)).trans ((hW.2 i hi).1.trans (hW.2 i hi).2.1.symm), ?_⟩
  rw [es]
  unfold RZ gX
  rw [ss_n (show 2 ≠ 4 by omega), ss_n (show 3 ≠ 4 by omega), ss_n (show 0 ≠ 4 by omega), ss_n (show 10 ≠ 4 by omega), ss_n (show 1 ≠ 4 by omega), ss_n (show 5 ≠ 4 by omega), ss_s]
  refine ⟨nr, r, N, nq, nb, qs, ws, fb, gb, at_, ow, ⟨hC.cg (fun x _ => e x (by omega)), hS.cg (Nat.le_refl _) (fun x _ _ => e x (by omega)), hV.cg hq.1 hq.2 (fun x _ _ => e x (by omega)), ⟨hW.1, fun j hj => ?_⟩, hH.cg (fun x _ _ => e x (by omega))⟩, hT.cg (Nat.le_refl _) (fun x _ _ => e x (by omega)), hD.cg (Nat.le_refl _) (fun _ _ _ => rfl) (fun x hx => e x (by omega)), hR.cg (Nat.le_refl _) (Nat.le_refl _) (Nat.le_refl _) (fun x _ _ => e x (by omega)), hY.cg (fun k _ _ => ss_n (by omega)) (fun x _ _ => e x (by omega)), hL.cg hR.2.1 (fun x _ _ => e x (by omega))⟩
  show fup (S.1 4).2 i 0 (nI v) j 0 = nI (if j = i then v else sw j) ∧ upd p (179 + i) (nI v) (179 + j) = nI (if j = i then v else sw j) ∧ (if j = i then v else sw j) ≤ 1
  by_cases q : j = i
  · rw [if_pos q, fup_s q rfl, up_s (by rw [q])]
    exact ⟨rfl, rfl, hv⟩
  · rw [if_neg q, fup_r q, e _ (by omega)]
    exact hW.2 j hj
theorem RZ.surge (h : RZ g0 t K cl sg sv sw S p) {c f a b : Nat} (hc : c < 6) (f1 : 1 ≤ f) (f2 : f ≤ 4) (h1 : a ≤ b) (h2 : b ≤ t + 200) : RZ g0 t K cl (cl1 (cl1 (cl1 sg c 0 f) c 1 a) c 2 b) sv sw (sput 2 (sput 2 (sput 2 S (nI c) (0 : Int32) (nI f)) (nI c) (1 : Int32) (nI a)) (nI c) (2 : Int32) (nI b)) (upd (upd (upd p (72 + 3 * c) (nI f)) (72 + 3 * c + 1) (nI a)) (72 + 3 * c + 2) (nI b)) := by
  obtain ⟨nr, r, N, nq, nb, qs, ws, fb, gb, at_, ow, ⟨hC, hS, hV, hW, hH⟩, hT, hD, hR, hY, hL⟩ := h
  have hq := hV.2.2
  have e : ∀ x, x < 72 + 3 * c ∨ 72 + 3 * c + 3 ≤ x → upd (upd (upd p (72 + 3 * c) (nI f)) (72 + 3 * c + 1) (nI a)) (72 + 3 * c + 2) (nI b) x = p x := fun x hx => by rw [up_n (by omega), up_n (by omega), up_n (by omega)]
  have sp : ∀ (S : StS) (j : Nat) (z : Int32), (S.1 2).1 = 6 → j < 3 → sput 2 S (nI c) (nI j) z = sset S 2 ((S.1 2).1, fup (S.1 2).2 c j z) := fun S j z hS hj => by
    show sset S 2 (tput 3 6 (S.1 2) (nI c) (nI j) z) = _
    rw [tp (by rw [hS]; exact hc) hc hj (by omega) (by omega)]
  have es : sput 2 (sput 2 (sput 2 S (nI c) (0 : Int32) (nI f)) (nI c) (1 : Int32) (nI a)) (nI c) (2 : Int32) (nI b) = sset S 2 ((S.1 2).1, fup (fup (fup (S.1 2).2 c 0 (nI f)) c 1 (nI a)) c 2 (nI b)) := by
    rw [show (0 : Int32) = nI 0 from rfl, show (1 : Int32) = nI 1 from rfl, show (2 : Int32) = nI 2 from rfl, sp S 0 _ hS.1 (by omega), sp _ 1 _ (by rw [ss_s]; exact hS.1) (by omega), ss_s, sset2, sp _ 2 _ (by rw [ss_s]; exact hS.1) (by omega), ss_s, sset2]
  rw [es]
  unfold RZ gX
  rw [ss_n (show 4 ≠ 2 by omega), ss_n (show 3 ≠ 2 by omega), ss_n (show 0 ≠ 2 by omega), ss_n (show 10 ≠ 2 by omega), ss_n (show 1 ≠ 2 by omega), ss_n (show 5 ≠ 2 by omega), ss_s]
  refine ⟨nr, r, N, nq, nb, qs, ws, fb, gb, at_, ow, ⟨hC.cg (fun x _ => e x (by omega)), ⟨hS.1, fun i hi => ?_⟩, hV.cg hq.1 hq.2 (fun x _ _ => e x (by omega)), hW.cg (fun x _ _ => e x (by omega)), hH.cg (fun x _ _ => e x (by omega))⟩, hT.cg (Nat.le_refl _) (fun x _ _ => e x (by omega)), hD.cg (Nat.le_refl _) (fun _ _ _ => rfl) (fun x hx => e x (by omega)), hR.cg (Nat.le_refl _) (Nat.le_refl _) (Nat.le_refl _) (fun x _ _ => e x (by omega)), hY.cg (fun k _ _ => ss_n (by omega)) (fun x _ _ => e x (by omega)), hL.cg hR.2.1 (fun x _ _ => e x (by omega))⟩
  obtain ⟨b0, b1, b2, b3, b4⟩ := hS.2 i hi
  by_cases q : i = c
  · subst q
    have v0 : cl1 (cl1 (cl1 sg i 0 f) i 1 a) i 2 b i 0 = f := by unfold cl1; rw [if_neg (by omega), if_neg (by omega), if_pos ⟨rfl, rfl⟩]
    have v1 : cl1 (cl1 (cl1 sg i 0 f) i 1 a) i 2 b i 1 = a := by unfold cl1; rw [if_neg (by omega), if_pos ⟨rfl, rfl⟩]
    have v2 : cl1 (cl1 (cl1 sg i 0 f) i 1 a) i 2 b i 2 = b := by unfold cl1; rw [if_pos ⟨rfl, rfl⟩]
    refine ⟨fun j hj => ?_, by rw [v0]; exact f2, by rw [v1, v2]; exact h1, by rw [v2]; exact h2, fun z => by rw [v0] at z; omega⟩
    show fup (fup (fup (S.1 2).2 i 0 (nI f)) i 1 (nI a)) i 2 (nI b) i j = _ ∧ _
    match j, hj with
    | 0, _ => rw [v0, fup_c (by decide), fup_c (by decide), fup_s rfl rfl, up_n (by omega), up_n (by omega), up_s (by omega)]; exact ⟨rfl, rfl⟩
    | 1, _ => rw [v1, fup_c (by decide), fup_s rfl rfl, up_n (by omega), up_s (by omega)]; exact ⟨rfl, rfl⟩
    | 2, _ => rw [v2, fup_s rfl rfl, up_s (by omega)]; exact ⟨rfl, rfl⟩
    | j + 3, hj => exact absurd hj (by omega)
  · have vo : ∀ j, cl1 (cl1 (cl1 sg c 0 f) c 1 a) c 2 b i j = sg i j := fun j => by
      unfold cl1
      rw [if_neg (fun z => q z.1), if_neg (fun z => q z.1), if_neg (fun z => q z.1)]
    rw [vo 0, vo 1, vo 2]
    refine ⟨fun j hj => ?_, b1, b2, b3, b4⟩
    show fup (fup (fup (S.1 2).2 c 0 (nI f)) c 1 (nI a)) c 2 (nI b) i j = _ ∧ _
    rw [vo, fup_r q, fup_r q, fup_r q, e _ (by omega)]
    exact b0 j hj
end SE
