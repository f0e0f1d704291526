/-! step 5, at the front -/
section ML
variable {F : Fx} {E Zf Zb : Nat → Prop} {t K lo wl : Nat} {cl sg : N2} {sv sw : N1} {nr : Nat} {r : N2} {N nq nb : Nat} {qs ws fb gb : N1} {at_ : N2} {ow : N1} {S S' : StS} {M M' : MS}
theorem sz8 (h : (S.1 8).1 = nb) (h2 : nb ≤ 16) : ssize 8 S = nI nb := by
  show nI (tz 16 (S.1 8)) = _
  rw [tz_n (by omega), h]
theorem callB_eval (h8 : (S.1 8).1 = nb) (h16 : nb ≤ 16) (h7 : (S.1 7).1 = 4) {v c : Nat} (hv : v < 4) (hc : sget 3 S (3 : Int32) (0 : Int32) = nI c) (hcb : c ≤ 16) : fX1_callBack (nI v) S = if nb < c then some (-9, sset (sset S 8 (nb + 1, fup (fun i j => if i = nb then (0 : Int32) else (S.1 8).2 i j) nb 0 (nI v))) 7 (4, fup (S.1 7).2 v 5 (nI 3))) else ob (fX1_waste (nI v) S) fun u10 => some (u10.1, u10.2) := by
  unfold fX1_callBack
  rw [sz8 h8 (by omega), hc]
  by_cases e : nb < c
  · have ea : sappend 8 S = (nI nb, sset S 8 (nb + 1, fun i j => if i = nb then (0 : Int32) else (S.1 8).2 i j)) := by
      unfold sappend
      rw [show tappend (tr 8) (S.1 8) = _ from tap (rows := 16) (by omega), h8]
    have ep : sput 8 (sset S 8 (nb + 1, fun i j => if i = nb then (0 : Int32) else (S.1 8).2 i j)) (nI nb) (0 : Int32) (nI v) = sset S 8 (nb + 1, fup (fun i j => if i = nb then (0 : Int32) else (S.1 8).2 i j) nb 0 (nI v)) := by
      show sset _ 8 (tput 1 16 ((sset S 8 _).1 8) (nI nb) (nI 0) (nI v)) = _
      rw [ss_s, tp (by show nb < nb + 1; omega) (by omega) (by omega) (by omega) (by omega), sset2]
    have ep2 : sput 7 (sset S 8 (nb + 1, fup (fun i j => if i = nb then (0 : Int32) else (S.1 8).2 i j) nb 0 (nI v))) (nI v) (5 : Int32) (3 : Int32) = sset (sset S 8 (nb + 1, fup (fun i j => if i = nb then (0 : Int32) else (S.1 8).2 i j) nb 0 (nI v))) 7 (4, fup (S.1 7).2 v 5 (nI 3)) := by
      rw [show sput 7 (sset S 8 (nb + 1, fup (fun i j => if i = nb then (0 : Int32) else (S.1 8).2 i j) nb 0 (nI v))) (nI v) (5 : Int32) (3 : Int32) = _ from sp7 (c := 5) (by rw [ss_n (by omega)]; exact h7) hv (by omega), ss_n (by omega)]
      rfl
    rw [if_pos (nI_lt e (by omega)), if_pos e, ea, nm, nm, nm]
    dsimp only
    rw [ep, nm, ep2]
  · rw [if_neg (nI_nlt (by omega) (by omega)), if_neg e]
theorem finF {v : Nat} (h : RG F (fun _ => False) (fun w => v ≤ w) Zb t K lo wl cl sg sv sw nr r N nq nb qs ws fb gb at_ ow S M) (hK : K < 2 ^ 29) (ht : t < 2 ^ 29) (hwl : wl ≤ t + 1) (hv : v < 4) : ∃ S' M' K', (∀ K2, bfX1_endFrontWork_2 K2 (nI v, S) = K2 (nI (v + 1), S')) ∧ fX6_finishesFront (nI v) M = some M' ∧ K' ≤ K + 24 ∧ RE F (fun w => v + 1 ≤ w) Zb t K' lo wl cl sg sv sw S' M' := by
  have hNK : N ≤ K := h.2.2.1.2.2.2.2.2.2.1
  obtain ⟨hA, hQ, hF, hB, hG, hU⟩ := h.2.2.2.2.1
  have hq := h.nqb
  obtain ⟨c1, c2, c3⟩ := hF.2 v hv
  have hc : (nI (591 + v)).toNatClampNeg = 591 + v := nI_clamp (by omega)
  have ho : okI (nI (591 + v)) 5130 ↔ True := okT (by omega) (by decide)
  have h4 : ¬ (4 : Int32) ≤ nI v := fun z => by have := (len_4 (by omega)).mp z; omega
  by_cases hg : ws v = 0
  · refine ⟨S, M, K, fun K2 => ?_, ?_, by omega, ⟨_, _, _, _, _, _, _, _, _, _, _, h.zf (fun w a hw e1 _ z => Or.inl ?_)⟩⟩
    · rw [bfX1_endFrontWork_2, if_neg h4, show sget 7 S (nI v) (0 : Int32) = -9 from (sg7 hF.1 hv (c := 0) (by omega)).trans (c2 hg), if_pos rfl]
      unfold bfX1_endFrontWork_38 bfX1_endFrontWork_39 bfX1_endFrontWork_86
      rw [if_pos rfl, nA_1]
    · unfold fX6_finishesFront bfX6_finishesFront_49
      rw [nB_591]
      simp only [ho, hc, if_true]
      rw [nm, c1, hg, if_pos (show wsI 0 = (-9 : Int32) from rfl)]
    · have : w ≠ v := fun y => by rw [y] at e1; omega
      omega
  · obtain ⟨a, ha⟩ : ∃ f, ws v = f + 1 := ⟨ws v - 1, by omega⟩
    obtain ⟨d1, d2, d3, ⟨d4, d5, d6, d7, d8, d9⟩, d10, d11, d12, d13, d14, d15⟩ := c3 a ha
    obtain ⟨o1, o2, o3, o4⟩ := h.owner d1 d2
    have hsl := ((hA a d1).2.2 d2).2
    have eX : ∀ K2, bfX1_endFrontWork_2 K2 (nI v, S) = if at_ a 7 = 2 then (if at_ a 3 = 0 then (if at_ a 5 = 0 then ob (fX1_answer (nI v) S) fun u6 => K2 (nI (v + 1), u6) else ob (fX1_callBack (nI v) S) fun u4 => ob (fX0_fail u4.1 (4 : Int32) u4.2) fun u5 => K2 (nI (v + 1), u5)) else K2 (nI (v + 1), S)) else K2 (nI (v + 1), S) := by
      intro K2
      rw [bfX1_endFrontWork_2, if_neg h4, show sget 7 S (nI v) (0 : Int32) = owI (ow a) from (sg7 hF.1 hv (c := 0) (by omega)).trans d4, if_neg (owI_9 (by omega)), show sget 7 S (nI v) (5 : Int32) = nI (at_ a 7) from (sg7 hF.1 hv (c := 5) (by omega)).trans d9]
      unfold bfX1_endFrontWork_38 bfX1_endFrontWork_39 bfX1_endFrontWork_86
      have h10 : ¬ (1 : Int32) = 0 := by decide
      rw [if_pos rfl, if_neg h10, show sget 7 S (nI v) (2 : Int32) = nI (at_ a 3) from (sg7 hF.1 hv (c := 2) (by omega)).trans d6, show sget 7 S (nI v) (3 : Int32) = nI (at_ a 5) from (sg7 hF.1 hv (c := 3) (by omega)).trans d7]
      simp only [eqn_2 (show at_ a 7 < 2 ^ 31 by omega), eqn_0 (show at_ a 3 < 2 ^ 31 by omega), eqn_0 (show at_ a 5 < 2 ^ 31 by omega), nA_1]
    obtain ⟨-, v2, v3, v4⟩ := srv h.1.2.2.1 (i := 3) (by omega)
    have v1 : sget 3 S (3 : Int32) (0 : Int32) = nI (sv 3) := (srv h.1.2.2.1 (i := 3) (by omega)).1
    rw [show mxS 3 = 16 from rfl] at v4
    have eM : fX6_finishesFront (nI v) M = if at_ a 7 = 2 then (if at_ a 3 = 0 then (if at_ a 4 = 0 then ob (fX6_answers (nI a) (upd M.1 (591 + v) (-9), M.2)) fun u22 => some u22 else (if nb = sv 3 then ob (fX6_loses (nI a) (4 : Int32) (upd M.1 (591 + v) (-9), M.2)) fun u20 => some u20 else ob (fX6_joins (574 : Int32) (575 : Int32) (nI a) (upd M.1 (317 + 10 * a + 7) (3 : Int32), M.2)) fun u18 => some u18)) else some M) else some M := by
      unfold fX6_finishesFront bfX6_finishesFront_49 bfX6_finishesFront_150
      rw [nB_591]
      simp only [ho, hc, if_true]
      rw [nm, c1, ha, show wsI (a + 1) = nI a from rfl, if_neg (nI_neg (by omega) (by decide))]
      have o7 : okI (nI (317 + 10 * a + 7)) 5130 ↔ True := okT (by omega) (by decide)
      have l7 : (nI (317 + 10 * a + 7)).toNatClampNeg = 317 + 10 * a + 7 := nI_clamp (by omega)
      have o3' : okI (nI (317 + 10 * a + 3)) 5130 ↔ True := okT (by omega) (by decide)
      have l3 : (nI (317 + 10 * a + 3)).toNatClampNeg = 317 + 10 * a + 3 := nI_clamp (by omega)
      have o4' : okI (nI (317 + 10 * a + 4)) 5130 ↔ True := okT (by omega) (by decide)
      have l4 : (nI (317 + 10 * a + 4)).toNatClampNeg = 317 + 10 * a + 4 := nI_clamp (by omega)
      have e574 : M.1 574 = nI nb := hB.2.2.1
      have e177 : M.1 177 = nI (sv 3) := v2
      simp only [slot_eq, ob_eq, nA_7, nA_3, nA_4, o7, l7, o3', l3, o4', l4, if_true, hsl 7 (by omega) (by omega), hsl 3 (by omega) (by omega), hsl 4 (by omega) (by omega), cl_574, cl_177, e574, e177, nm, eqn_2 (show at_ a 7 < 2 ^ 31 by omega), eln_0 (show at_ a 3 < 2 ^ 31 by omega), nI_eq (show nb < 2 ^ 31 by omega) (show sv 3 < 2 ^ 31 by omega), Nat.le_zero]
      by_cases e7 : at_ a 7 = 2
      · have b4 : at_ a 4 < 2 ^ 31 := by
          have := (d13 e7).1
          omega
        simp only [eqn_0 b4]
      · rw [if_neg e7, if_neg e7]
    have skip : (at_ a 7 = 2 → ¬ at_ a 3 = 0) → ∃ S' M' K', (∀ K2, bfX1_endFrontWork_2 K2 (nI v, S) = K2 (nI (v + 1), S')) ∧ fX6_finishesFront (nI v) M = some M' ∧ K' ≤ K + 24 ∧ RE F (fun w => v + 1 ≤ w) Zb t K' lo wl cl sg sv sw S' M' := by
      intro hs
      refine ⟨S, M, K, fun K2 => ?_, ?_, by omega, ⟨_, _, _, _, _, _, _, _, _, _, _, h.zf (fun w b hw e1 e7 z => ?_)⟩⟩
      · rw [eX]
        by_cases e : at_ a 7 = 2
        · rw [if_pos e, if_neg (hs e)]
        · rw [if_neg e]
      · rw [eM]
        by_cases e : at_ a 7 = 2
        · rw [if_pos e, if_neg (hs e)]
        · rw [if_neg e]
      · by_cases y : w = v
        · subst y
          obtain rfl : a = b := by omega
          have := hs e7
          exact Or.inr (by omega)
        · exact Or.inl (by omega)
    by_cases e7 : at_ a 7 = 2
    · by_cases e3 : at_ a 3 = 0
      · have e45 := (d13 e7).1
        have hgf : ∀ w, w < 4 → gb w ≠ v + 1 := fun w hw e => by
          obtain ⟨-, b, z2, -, z4, -⟩ := (hG.2.1 w hw).2.2 v e
          obtain rfl : a = b := by omega
          omega
        have hfb : ∀ k, k < nb → fb k ≠ v := fun k hk e => by
          obtain ⟨-, -, b, z3, -, z5⟩ := hB.2.2.2.1 k hk
          rw [e, ha] at z3
          obtain rfl : a = b := by omega
          omega
        by_cases e5 : at_ a 5 = 0
        · -- it is answered
          obtain ⟨S', M', nr', r', K', q1, q2, q3, q4⟩ := answer_rel h hK ht (v := 4) hv ha (fun z => absurd z (by omega)) (fun w hw e => absurd e (hgf w hw)) hfb (Sv := S) (Mv := (upd M.1 (591 + v) (-9), M.2)) ⟨hG.1, fun z => absurd z (by omega), fun _ _ _ => rfl⟩ (fun _ _ => rfl) rfl (fun x x1 x2 => up_n x1) (by dsimp only; exact up_s rfl) (fun z => absurd z (by omega)) rfl
          refine ⟨S', M', K', fun K2 => ?_, ?_, q3, ⟨_, _, _, _, _, _, _, _, _, _, _, q4.zf (fun w b hw e1 _ z => Or.inl ?_)⟩⟩
          · rw [eX, if_pos e7, if_pos e3, if_pos e5, q1, ob_eq]
          · rw [eM, if_pos e7, if_pos e3, if_pos (by omega), q2, ob_eq]
          · have : w ≠ v := fun y => by
              rw [y, show z1 ws v v = 0 from if_pos rfl] at e1
              omega
            omega
        · have ecall := callB_eval (S := S) (nb := nb) hB.1 (by omega) hF.1 hv v1 (by omega)
          by_cases hb2 : nb < sv 3
          · -- it joins the back queue
            rw [if_pos hb2] at ecall
            have hC := h.callB (w := v) (a := a) (S' := sset (sset S 8 (nb + 1, fup (fun i j => if i = nb then (0 : Int32) else (S.1 8).2 i j) nb 0 (nI v))) 7 (4, fup (S.1 7).2 v 5 (nI 3))) (M' := (upd (upd (upd M.1 (317 + 10 * a + 7) (3 : Int32)) (575 + nb) (nI a)) 574 (nI (nb + 1)), M.2)) hv ha e7 e3 (by omega) hb2
              ⟨by rw [ss_s], by rw [ss_s]; exact fup_s rfl rfl, fun w j hw => by
                rw [ss_s]
                rcases hw with z | z
                · exact fup_r z
                · exact fup_c z⟩ ⟨by rw [ss_n (by omega), ss_s], by rw [ss_n (by omega), ss_s]; dsimp only; exact fup_s rfl rfl, fun j hj => by
                rw [ss_n (by omega), ss_s]
                dsimp only
                rw [fup_r (by omega), if_neg (by omega)]⟩ (fun k k1 k2 => by rw [ss_n k1, ss_n k2]) rfl (fun x x1 x2 x3 => by
                show upd (upd (upd M.1 (317 + 10 * a + 7) (3 : Int32)) (575 + nb) (nI a)) 574 (nI (nb + 1)) x = _
                rw [up_n x1, up_n x2, up_n x3]) (by
                show upd (upd (upd M.1 (317 + 10 * a + 7) (3 : Int32)) (575 + nb) (nI a)) 574 (nI (nb + 1)) (317 + 10 * a + 7) = _
                rw [up_n (by omega), up_n (by omega), up_s rfl]
                rfl) (by dsimp only; exact up_s rfl) (by
                show upd (upd (upd M.1 (317 + 10 * a + 7) (3 : Int32)) (575 + nb) (nI a)) 574 (nI (nb + 1)) (575 + nb) = _
                rw [up_n (by omega), up_s rfl]) rfl
            refine ⟨_, _, K, fun K2 => ?_, ?_, by omega, ⟨_, _, _, _, _, _, _, _, _, _, _, hC.zf (fun w b hw e1 e72 z => Or.inl ?_)⟩⟩
            · rw [eX, if_pos e7, if_pos e3, if_neg e5, ecall, ob_eq, fail_none hC (by omega), ob_eq]
            · rw [eM, if_pos e7, if_pos e3, if_neg (by omega), if_neg (by omega), show fX6_joins (574 : Int32) (575 : Int32) (nI a) (upd M.1 (317 + 10 * a + 7) (3 : Int32), M.2) = _ from joins_eq (m0 := 574) (q := 575) (n := nb) (by omega) (by omega) ((up_n (by omega)).trans hB.2.2.1) (nI a), ob_eq]
            · have : w ≠ v := fun y => by
                rw [y, ha] at e1
                obtain rfl : a = b := by omega
                rw [show a7s at_ a 3 a 7 = 3 from if_pos ⟨rfl, rfl⟩] at e72
                omega
              omega
          · -- the back server rejects it
            rw [if_neg hb2, waste_eval hF.1 hv, ob_eq] at ecall
            have p6 := hsl 6 (by omega) (by omega)
            have hM0 : ((upd M.1 (591 + v) (-9), M.2) : MS).1 (317 + 10 * a) = owI (ow a) := (up_n (by omega)).trans ((hA a d1).2.2 d2).1
            have hW := RG.wasteW h (v := 4) (a := a) (S' := sset (S.1, upd S.2 16 (S.2 16 + (S.1 7).2 v 4)) 7 (4, fup (S.1 7).2 v 0 (-9))) (M' := lv0 (upd M.1 (591 + v) (-9), M.2) a) hv ha (fun z => absurd z (by omega)) (fun w hw e => absurd e (hgf w hw)) hfb
              ⟨by rw [ss_s], by rw [ss_s]; exact fup_s rfl rfl, fun w j hw => by rw [ss_s]; exact fup_r hw⟩ ⟨by rw [ss_n (by omega)]; exact hG.1, fun z => absurd z (by omega), fun w hw _ => by rw [ss_n (by omega)]⟩ (fun k k1 k2 => ss_n k1) (by
                show upd S.2 16 _ = _
                rw [d8]) (fun x x1 x2 x3 x4 => by
                show upd (upd (upd M.1 (591 + v) (-9)) 186 _) _ _ x = _
                rw [up_n x4, up_n x1, up_n x2]) (by
                show upd (upd (upd M.1 (591 + v) (-9)) 186 _) _ _ 186 = _
                rw [up_n (by omega), up_s rfl]
                dsimp only
                rw [up_n (by omega), up_n (by omega), p6]) (by unfold lv0; dsimp only; exact up_s rfl) (by
                show upd (upd (upd M.1 (591 + v) (-9)) 186 _) _ _ (591 + v) = _
                rw [up_n (by omega), up_n (by omega), up_s rfl]) (fun z => absurd z (by omega)) (by
                show upd M.2.2 8 (M.2.2 8 + upd M.1 (591 + v) (-9) (317 + 10 * a + 6)) = _
                rw [up_n (by omega), p6])
            obtain ⟨S', M', nr', r', q1, q2, q3, q4, q5⟩ := failO (y := 4) hW (by omega) (by omega) hwl (o2.imp id (fun ⟨i, i1, i2, i3, i4, _⟩ => ⟨i, i1, i2, i3, i4⟩)) (by omega) (by omega)
            refine ⟨S', M', K, fun K2 => ?_, ?_, by omega, ⟨_, _, _, _, _, _, _, _, _, _, _, q3.zf (fun w b hw e1 _ z => Or.inl ?_)⟩⟩
            · rw [eX, if_pos e7, if_pos e3, if_neg e5, ecall, ob_eq]
              dsimp only
              rw [d4, show (4 : Int32) = nI 4 from rfl, q1, ob_eq]
            · rw [eM, if_pos e7, if_pos e3, if_neg (by omega), if_pos (by omega), show (4 : Int32) = nI 4 from rfl, loses_eval d1 (by omega) hM0, q2, ob_eq]
            · have : w ≠ v := fun y => by
                rw [y, show z1 ws v v = 0 from if_pos rfl] at e1
                omega
              omega
      · exact skip (fun _ => e3)
    · exact skip (fun z => absurd z e7)
end ML
