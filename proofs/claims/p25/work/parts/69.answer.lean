/-! an attempt is answered, in both -/
section AL
variable {F : Fx} {E Zf Zb : Nat → Prop} {t K lo wl : Nat} {cl sg : N2} {sv sw : N1} {nr : Nat} {r : N2} {N nq nb : Nat} {qs ws fb gb : N1} {at_ : N2} {ow : N1} {S S' : StS} {M M' : MS}
theorem RG.cgS (h : RG F E Zf Zb t K lo wl cl sg sv sw nr r N nq nb qs ws fb gb at_ ow S M) (e1 : ∀ k, S'.1 k = S.1 k) (e2 : S'.2 = S.2) : RG F E Zf Zb t K lo wl cl sg sv sw nr r N nq nb qs ws fb gb at_ ow S' M := by
  have : S' = S := Prod.ext (funext e1) e2
  rw [this]
  exact h
theorem sset_comm {k j : Nat} {T T' : Tb} (h : k ≠ j) : sset (sset S k T) j T' = sset (sset S j T') k T := by
  refine Prod.ext (funext fun i => ?_) rfl
  show va_up (va_up S.1 k T) j T' i = va_up (va_up S.1 j T') k T i
  by_cases e1 : i = j
  · rw [e1, va_up_self, va_up_ne _ _ (fun z => h z.symm), va_up_self]
  · by_cases e2 : i = k
    · rw [e2, va_up_ne _ _ h, va_up_self, va_up_self]
    · rw [va_up_ne _ _ e1, va_up_ne _ _ e2, va_up_ne _ _ e2, va_up_ne _ _ e1]
theorem sdrop_1 {k : Nat} {r : Int32} : (sdrop k S r).1 k = tdrop (tr k) (S.1 k) r := ss_s
theorem sdrop_n {k j : Nat} {r : Int32} (h : j ≠ k) : (sdrop k S r).1 j = S.1 j := ss_n h
theorem sadd_1 {k : Nat} {r c v : Int32} : (sadd k S r c v).1 k = tadd (tw k) (tr k) (S.1 k) r c v := ss_s
theorem sadd_n {k j : Nat} {r c v : Int32} (h : j ≠ k) : (sadd k S r c v).1 j = S.1 j := ss_n h
theorem sput_1 {k : Nat} {r c v : Int32} : (sput k S r c v).1 k = tput (tw k) (tr k) (S.1 k) r c v := ss_s
theorem sput_n {k j : Nat} {r c v : Int32} (h : j ≠ k) : (sput k S r c v).1 j = S.1 j := ss_n h
/-- the answer at front worker f, after the workers' cells are cleared; Sv, Mv: what class and reference have then -/
theorem answer_rel (h : RG F (fun _ => False) Zf Zb t K lo wl cl sg sv sw nr r N nq nb qs ws fb gb at_ ow S M) (hK : K < 2 ^ 29) (ht : t < 2 ^ 29) {f v a : Nat} (hf : f < 4) (ha : ws f = a + 1) (hv : v < 4 → gb v = f + 1) (hv2 : ∀ w, w < 4 → gb w = f + 1 → w = v) (hb : ∀ k, k < nb → fb k ≠ f) {Sv : StS} {Mv : MS}
    (s9 : (Sv.1 9).1 = 4 ∧ (v < 4 → (Sv.1 9).2 v 0 = -9) ∧ ∀ w, w < 4 → w ≠ v → (Sv.1 9).2 w 0 = (S.1 9).2 w 0) (sk : ∀ k, k ≠ 9 → Sv.1 k = S.1 k) (s2 : Sv.2 = S.2)
    (hp : ∀ x, x ≠ 591 + f → (x ≠ 595 + v ∨ 4 ≤ v) → Mv.1 x = M.1 x) (hf9 : Mv.1 (591 + f) = -9) (hv9 : v < 4 → Mv.1 (595 + v) = -9) (hr : Mv.2 = M.2) : ∃ S' M' nr' r' K', fX1_answer (nI f) Sv = some S' ∧ fX6_answers (nI a) Mv = some M' ∧ K' ≤ K + 24 ∧ RG F (fun _ => False) Zf Zb t K' lo wl cl sg sv sw nr' r' N nq nb qs (z1 ws f) fb (z1 gb v) (uoff at_ a) ow S' M' := by
  have hNK : N ≤ K := h.2.2.1.2.2.2.2.2.2.1
  obtain ⟨hA, hQ, hF, hB, hG, hU⟩ := h.2.2.2.2.1
  obtain ⟨d1, d2, d3, ⟨d4, d5, d6, d7, d8, d9⟩, d10, -⟩ := (hF.2 f hf).2.2 a ha
  obtain ⟨o1, o2, o3, o4⟩ := h.owner d1 d2
  have hv7 : Sv.1 7 = S.1 7 := sk 7 (by omega)
  have h74 : (Sv.1 7).1 = 4 := by rw [hv7]; exact hF.1
  have e0 : sget 7 Sv (nI f) (0 : Int32) = owI (ow a) := (sg7 h74 hf (c := 0) (by omega)).trans (by rw [hv7]; exact d4)
  have p0 : Mv.1 (317 + 10 * a) = owI (ow a) := (hp _ (by omega) (by omega)).trans ((hA a d1).2.2 d2).1
  have p6 : Mv.1 (317 + 10 * a + 6) = nI (at_ a 6) := (hp _ (by omega) (by omega)).trans (((hA a d1).2.2 d2).2 6 (by omega) (by omega))
  have eAns : fX6_answers (nI a) Mv = if owI (ow a) = (-8 : Int32) then bfX6_answers_26 (nI a) (owI (ow a)) (nI a) ((0 : Int32)) Mv else bfX6_answers_26 (nI a) (owI (ow a)) (nI a) ((1 : Int32)) Mv := by
    unfold fX6_answers
    rw [slot_eq, ob_eq, nA_0, if_pos (okI_nI (by omega) (by decide)), nI_clamp (by omega), nm, Nat.add_zero, p0]
  rcases o2 with z | ⟨i, i1, i2, i3, i4, i5, i6, i7⟩
  · -- nobody waits for it
    have ew := waste_eval (S := Sv) h74 hf
    have hW := RG.wasteW h (v := v) (a := a) (S' := sset (Sv.1, upd Sv.2 16 (Sv.2 16 + (Sv.1 7).2 f 4)) 7 (4, fup (Sv.1 7).2 f 0 (-9))) (M' := lv0 Mv a) hf ha hv hv2 hb
      ⟨by rw [ss_s], by rw [ss_s]; exact fup_s rfl rfl, fun w j hw => by rw [ss_s, hv7]; exact fup_r hw⟩ ⟨by rw [ss_n (by omega)]; exact s9.1, fun z => by rw [ss_n (by omega)]; exact s9.2.1 z, fun w hw z => by rw [ss_n (by omega)]; exact s9.2.2 w hw z⟩ (fun k k1 k2 => (ss_n k1).trans (sk k k2)) (by
        show upd Sv.2 16 _ = _
        rw [hv7, d8, s2]) (fun x x1 x2 x3 x4 => by
        show upd (upd Mv.1 186 _) _ _ x = _
        rw [up_n x4, up_n x1, hp x x2 x3]) (by
        show upd (upd Mv.1 186 _) _ _ 186 = _
        rw [up_n (by omega), up_s rfl, p6, hp 186 (by omega) (by omega)]) (by unfold lv0; dsimp only; exact up_s rfl) (by
        show upd (upd Mv.1 186 _) _ _ (591 + f) = _
        rw [up_n (by omega), up_n (by omega), hf9]) (fun z => by
        show upd (upd Mv.1 186 _) _ _ (595 + v) = _
        rw [up_n (by omega), up_n (by omega), hv9 z]) (by
        show upd Mv.2.2 8 (Mv.2.2 8 + Mv.1 (317 + 10 * a + 6)) = _
        rw [p6, hr])
    refine ⟨_, _, nr, r, K, ?_, ?_, by omega, hW.eE (fun x => ⟨fun y => y.resolve_left id |> fun y => by omega, fun y => y.elim⟩)⟩
    · unfold fX1_answer
      rw [e0, gR.find_none (S := Sv) (sk 5 (by omega)) h.2.2.2.1 (x := owI (ow a)) (fun i hi => by
        rw [z]
        exact nI_neg (by have := (h.2.2.2.1.2.2.2.2.2 i hi).1; omega) (by decide)), nm, if_pos rfl, ew, ob_eq]
    · rw [eAns, if_pos ((owI_8 (by omega)).mpr z)]
      unfold bfX6_answers_26 bfX6_answers_111
      rw [leaves_lv0 d1, ob_eq, if_pos ((owI_8 (by omega)).mpr z)]
  · -- its request succeeds
    have hne8 : ¬ owI (ow a) = (-8 : Int32) := fun y => by have := (owI_8 (by omega)).mp y; omega
    have eo : owI (ow a) = nI (r i 0) := by rw [← i2]; rfl
    have hG1 := RG.goodF h (v := v) (a := a) (S' := sset (Sv.1, upd Sv.2 15 (Sv.2 15 + (Sv.1 7).2 f 4)) 7 (4, fup (Sv.1 7).2 f 0 (-9))) (M' := lv1 Mv a) hf ha hv hv2 hb
      ⟨by rw [ss_s], by rw [ss_s]; exact fup_s rfl rfl, fun w j hw => by rw [ss_s, hv7]; exact fup_r hw⟩ ⟨by rw [ss_n (by omega)]; exact s9.1, fun z => by rw [ss_n (by omega)]; exact s9.2.1 z, fun w hw z => by rw [ss_n (by omega)]; exact s9.2.2 w hw z⟩ (fun k k1 k2 => (ss_n k1).trans (sk k k2)) (by
        show upd Sv.2 15 _ = _
        rw [hv7, d8, s2]) (fun x x1 x2 x3 x4 => by
        show upd (upd Mv.1 185 _) _ _ x = _
        rw [up_n x4, up_n x1, hp x x2 x3]) (by
        show upd (upd Mv.1 185 _) _ _ 185 = _
        rw [up_n (by omega), up_s rfl, p6, hp 185 (by omega) (by omega)]) (by unfold lv1; dsimp only; exact up_s rfl) (by
        show upd (upd Mv.1 185 _) _ _ (591 + f) = _
        rw [up_n (by omega), up_n (by omega), hf9]) (fun z => by
        show upd (upd Mv.1 185 _) _ _ (595 + v) = _
        rw [up_n (by omega), up_n (by omega), hv9 z]) (by
        show Mv.2.2 = _
        rw [hr])
    obtain ⟨b1, hc, b3, b4, b5, b6, b7, b8, b9, b10⟩ := hG1.2.2.2.1.2.2.2.2.2 i i1
    have hG2 := hG1.succC hc
    have hG3 := hG2.succA hc (m := r i 3 - 1) (by omega)
    have hG4 := hG3.die i1 (Or.inr i2)
    have g1 : sget 5 Sv (nI i) (1 : Int32) = nI (r i 1) := gR.get (sk 5 (by omega)) h.2.2.2.1 i1 (j := 1) (by omega)
    generalize hS0 : ((Sv.1, upd Sv.2 15 (Sv.2 15 + (Sv.1 7).2 f 4)) : StS) = S0 at *
    have hS05 : S0.1 = Sv.1 := by rw [← hS0]
    have g3 : ∀ z, sget 5 (sadd 1 S0 (nI (r i 1)) (2 : Int32) z) (nI i) (3 : Int32) = nI (r i 3) := fun z => gR.get ((show (sadd 1 S0 (nI (r i 1)) (2 : Int32) z).1 5 = S0.1 5 from ss_n (by omega)).trans (by rw [hS05]; exact sk 5 (by omega))) h.2.2.2.1 i1 (j := 3) (by omega)
    have e7 : (7 : Int32) + nI (r i 3) = nI (8 + (r i 3 - 1)) := by rw [nB_7, show 7 + r i 3 = 8 + (r i 3 - 1) by omega]
    refine ⟨_, _, nr - 1, dn r i, K + at_ a 6, ?_, ?_, by omega, (hG4.cgS (S' := sput 7 (sdrop 5 (sadd 1 (sadd 1 S0 (nI (r i 1)) (2 : Int32) (1 : Int32)) (nI (r i 1)) (nI (8 + (r i 3 - 1))) (1 : Int32)) (nI i)) (nI f) (0 : Int32) (-9 : Int32)) ?_ ?_).eE (fun x => ⟨fun y => by
        obtain ⟨y1 | y1, y2⟩ := y
        · exact y1
        · omega, fun y => y.elim⟩)⟩
    · unfold fX1_answer
      rw [e0, eo, gR.find (S := Sv) (sk 5 (by omega)) h.2.2.2.1 (by omega) i1, nm, if_neg (nI_neg (by have := h.2.2.2.1.2.1; omega) (by decide)), g1, nm, show sget 7 Sv (nI f) (4 : Int32) = (Sv.1 7).2 f 4 from sg7 h74 hf (c := 4) (by omega), hS0, nm, nm, g3, e7, nm, nm, nm]
    · rw [eAns, if_neg hne8]
      unfold bfX6_answers_26 bfX6_answers_111
      have hpl : fX6_placeOf (owI (ow a)) (lv1 Mv a) = some (nI i) := by
        rw [eo]
        exact hG1.2.2.2.1.place (by omega) i1
      have c1 : (lv1 Mv a).1 (189 + 8 * i + 1) = nI (r i 1) := (hG1.2.2.2.1.2.2.2.1 i 1 i1 (by omega)).2
      have c3 : ((upd (lv1 Mv a).1 (90 + 8 * r i 1 + 2) ((lv1 Mv a).1 (90 + 8 * r i 1 + 2) + 1), (lv1 Mv a).2) : MS).1 (189 + 8 * i + 3) = nI (r i 3) := (hG2.2.2.2.1.2.2.2.1 i 3 i1 (by omega)).2
      have i16 := hG1.2.2.2.1.2.1
      rw [leaves_lv1 d1, ob_eq, if_neg hne8, hpl, ob_eq, row_eq, ob_eq, nA_1, if_pos (okI_nI (by omega) (by decide)), nm, nI_clamp (by omega), c1, show fX6_counts (nI (r i 1)) (2 : Int32) (1 : Int32) (lv1 Mv a) = _ from counts_n (k := 2) hc (by omega) 1 _, ob_eq, row_eq, ob_eq, nA_3, if_pos (okI_nI (by omega) (by decide)), nI_clamp (by omega)]
      rw [c3, nM_6, nB_138, nI_add, show nI (138 + 6 * r i 1 + r i 3) - (1 : Int32) = nI (138 + 6 * r i 1 + (r i 3 - 1)) from (pk_sub (b := 1) (by omega)).trans (by rw [show 138 + 6 * r i 1 + r i 3 - 1 = 138 + 6 * r i 1 + (r i 3 - 1) by omega]), if_pos (okI_nI (by omega) (by decide)), if_pos (okI_nI (by omega) (by decide)), nm, nm, nI_clamp (by omega)]
      have hd := dies_eq (M := (upd (upd (lv1 Mv a).1 (90 + 8 * r i 1 + 2) ((lv1 Mv a).1 (90 + 8 * r i 1 + 2) + 1)) (138 + 6 * r i 1 + (r i 3 - 1)) (upd (lv1 Mv a).1 (90 + 8 * r i 1 + 2) ((lv1 Mv a).1 (90 + 8 * r i 1 + 2) + 1) (138 + 6 * r i 1 + (r i 3 - 1)) + 1), (lv1 Mv a).2.1, upd (lv1 Mv a).2.2 6 ((lv1 Mv a).2.2 6 + 1))) i16 i1 hG3.2.2.2.1.2.2.1
      exact congrArg (fun o => ob o fun u20 => some u20) hd
    · intro k
      have e57 : (sdrop 5 (sadd 1 (sadd 1 S0 (nI (r i 1)) (2 : Int32) (1 : Int32)) (nI (r i 1)) (nI (8 + (r i 3 - 1))) (1 : Int32)) (nI i)).1 7 = S0.1 7 := by
        show (sset (sset (sset S0 1 _) 1 _) 5 _).1 7 = _
        rw [ss_n (by omega), ss_n (by omega), ss_n (by omega)]
      rw [show sput 7 (sdrop 5 (sadd 1 (sadd 1 S0 (nI (r i 1)) (2 : Int32) (1 : Int32)) (nI (r i 1)) (nI (8 + (r i 3 - 1))) (1 : Int32)) (nI i)) (nI f) (0 : Int32) (-9 : Int32) = _ from sp7 (c := 0) (by rw [e57, hS05]; exact h74) hf (by omega), e57]
      by_cases k7 : k = 7
      · subst k7
        rw [ss_s, sdrop_n (by omega), sadd_n (by omega), sadd_n (by omega), ss_s, hS05]
      · rw [ss_n k7]
        by_cases k5 : k = 5
        · subst k5
          rw [sdrop_1, sadd_n (by omega), sadd_n (by omega), sdrop_1, sadd_n (by omega), sadd_n (by omega), ss_n (by omega)]
        · by_cases k1 : k = 1
          · subst k1
            rw [sdrop_n (by omega), sadd_1, sadd_1, sdrop_n (by omega), sadd_1, sadd_1, ss_n (by omega)]
          · rw [sdrop_n k5, sadd_n k1, sadd_n k1, sdrop_n k5, sadd_n k1, sadd_n k1, ss_n k7]
    · rfl
end AL
