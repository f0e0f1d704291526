/-! the back workers take, in both -/
section BL
variable {F : Fx} {Zf Zb : Nat → Prop} {t K lo wl : Nat} {cl sg : N2} {sv sw : N1} {nr : Nat} {r : N2} {N nq nb : Nat} {qs ws fb gb : N1} {at_ : N2} {ow : N1} {S S' : StS} {M M' : MS}
theorem back_step (h : RG F (fun _ => False) Zf Zb t K lo wl cl sg sv sw nr r N nq nb qs ws fb gb at_ ow S M) (hK : K < 2 ^ 29) (ht : t < 2 ^ 29) (hlo : t ≤ lo) (hwl : wl ≤ t + 1) {v : Nat} (hv : v < 4) (hg : gb v = 0) (hnb : 0 < nb) : ∃ x S1 S' M' nr' r' ws' gb' at' , fX1_takeAtBack (nI v) S = some (x, S1) ∧ fX0_fail x (6 : Int32) S1 = some S' ∧ (∀ K0, bfX6_takesBack_0 (nI v) K0 M = K0 M') ∧ RG F (fun _ => False) Zf Zb t K lo wl cl sg sv sw nr' r' N nq (nb - 1) qs ws' (qdn fb 0) gb' at' ow S' M' := by
  have hNK : N ≤ K := h.2.2.1.2.2.2.2.2.2.1
  obtain ⟨hA, hQ, hF, ⟨b1, b2, b3, b4, b5⟩, hG, hU⟩ := h.2.2.2.2.1
  obtain ⟨c1, c2, a, c3, c4, c5⟩ := b4 0 hnb
  generalize hf : fb 0 = f at *
  have hwa := (hF.2 f c1).2.2 a c3
  have ha24 := hwa.1
  have hu := hwa.2.1
  have e14 := hwa.2.2.2.2.2.2.2.2.1 c5
  obtain ⟨o1, o2, o3, o4⟩ := h.owner ha24 hu
  -- the head of the queue is taken off
  have hP := h.popB (k := 0) (M' := (upd (ppull M.1 575 nb 0) 574 (nI (nb - 1)), M.2)) hnb (fun x hx => by
      show upd (ppull M.1 575 nb 0) 574 (nI (nb - 1)) x = _
      rw [up_n (by omega)]
      unfold ppull
      rw [if_neg (by omega)]) (by dsimp only; exact up_s rfl) (fun j hj => by
      show upd (ppull M.1 575 nb 0) 574 (nI (nb - 1)) (575 + j) = _
      rw [up_n (by omega)]
      unfold ppull
      rw [if_pos (by omega), if_pos (by omega)]
      rfl) rfl
  have epull : fX6_pulls (574 : Int32) (575 : Int32) (0 : Int32) M = some (nI a, (upd (ppull M.1 575 nb 0) 574 (nI (nb - 1)), M.2)) := (pulls_eq (m0 := 574) (q := 575) (r := 0) (by omega) (by omega) hnb (by omega) b3).trans (by rw [show M.1 (575 + 0) = nI a from c4])
  generalize hMp : (upd (ppull M.1 575 nb 0) 574 (nI (nb - 1)), M.2) = Mp at hP epull
  generalize hSp : sdrop 8 S (nI 0) = Sp at hP
  have hFp := hP.2.2.2.2.1.2.2.1
  have hAp := hP.2.2.2.2.1.1
  have hGp := hP.2.2.2.2.1.2.2.2.2.1
  have hwap := (hFp.2 f c1).2.2 a c3
  have hfb : ∀ k, k < nb - 1 → qdn fb 0 k ≠ f := fun k hk e => by
    rw [show qdn fb 0 k = fb (k + 1) from if_pos (by omega)] at e
    have := b5 (k + 1) 0 (by omega) hnb (by rw [e, hf])
    omega
  have hgf : ∀ w, w < 4 → gb w ≠ f + 1 := fun w hw e => by
    obtain ⟨-, b, d2, -, d4, -⟩ := (hG.2.1 w hw).2.2 f e
    obtain rfl : a = b := by omega
    omega
  have ehope := hope7 hP ht c1 c3
  have eon : fX6_isOn (1 : Int32) Mp = some (if sw 1 = 1 then 1 else 0) := isOn_k hP (k := 1) (by omega)
  have eleft := left_eval hP hlo (by omega) ha24 hu
  have ebq : sget 8 S (0 : Int32) (0 : Int32) = nI f := (sg8 (S := S) (k := 0) (by omega) (by omega)).trans c2
  have eTake : fX1_takeAtBack (nI v) S = ob (fX1_isHopeless_7 (nI f) Sp) fun u9 => (if u9 = 0 then nm (sput 9 Sp (nI v) (0 : Int32) (nI f)) fun S10 => nm (sput 7 S10 (nI f) (5 : Int32) (4 : Int32)) fun S11 => some ((-9 : Int32), S11) else ob (fX1_waste (nI f) Sp) fun u12 => some (u12.1, u12.2)) := by
    rw [← hSp]
    unfold fX1_takeAtBack
    rw [ebq]
    rfl
  have eRef : ∀ K0, bfX6_takesBack_0 (nI v) K0 M = if (if sw 1 = 1 then (1 : Int32) else 0) = 0 then bfX6_takesBack_100 (nI v) K0 (nI a) Mp else (if nI (at_ a 4) ≤ nI (at_ a 1 - t) then bfX6_takesBack_100 (nI v) K0 (nI a) Mp else ob (fX6_loses (nI a) (6 : Int32) (upd Mp.1 (591 + f) (-9), Mp.2)) fun u20 => bfX6_takesBack_125 (nI v) K0 u20) := by
    intro K0
    unfold bfX6_takesBack_0
    rw [nB_595, if_pos (okI_nI (by omega) (by decide)), nI_clamp (by omega), if_pos ((hG.2.1 v hv).2.1 hg), cl_574, b3, if_neg (fun z => by have := (eln_0 (by omega)).mp z; omega), epull, ob_eq]
    show ob (fX6_isOn (1 : Int32) Mp) _ = _
    rw [eon, ob_eq]
    dsimp only
    rw [eleft, ob_eq, slot_eq, ob_eq, nA_4, if_pos (okI_nI (by omega) (by decide)), nI_clamp (by omega), ((hAp a ha24).2.2 hu).2 4 (by omega) (by omega), ob_eq, nA_8, if_pos (okI_nI (by omega) (by decide)), nI_clamp (by omega), hwap.2.2.1, nB_591, if_pos (okI_nI (by omega) (by decide)), nm, nI_clamp (by omega)]
  have ac : at_ a 4 = at_ a 5 := e14.1
  by_cases hH : sw 1 = 1 ∧ at_ a 1 - t < at_ a 5
  · -- hopeless
    have h10 : ¬ (1 : Int32) = 0 := by decide
    rw [if_pos ⟨hH.1, by omega⟩] at ehope
    have ew := waste_eval (S := Sp) hFp.1 c1
    have hM19 : (upd Mp.1 (591 + f) (-9), Mp.2).1 (317 + 10 * a) = owI (ow a) := (up_n (by omega)).trans ((hAp a ha24).2.2 hu).1
    have h66 : Mp.1 (317 + 10 * a + 6) = nI (at_ a 6) := ((hAp a ha24).2.2 hu).2 6 (by omega) (by omega)
    have hW := RG.wasteW hP (v := 4) (a := a) (S' := sset (Sp.1, upd Sp.2 16 (Sp.2 16 + (Sp.1 7).2 f 4)) 7 (4, fup (Sp.1 7).2 f 0 (-9))) (M' := lv0 (upd Mp.1 (591 + f) (-9), Mp.2) a) c1 c3 (fun z => absurd z (by omega)) (fun w hw e => absurd e (hgf w hw)) hfb
      ⟨by rw [ss_s], by rw [ss_s]; exact fup_s rfl rfl, fun w j hw => by rw [ss_s]; exact fup_r hw⟩ ⟨by rw [ss_n (by omega)]; exact hGp.1, fun z => absurd z (by omega), fun w hw _ => by rw [ss_n (by omega)]⟩ (fun k k1 k2 => ss_n k1) (by
        show upd Sp.2 16 _ = _
        rw [hwap.2.2.2.1.2.2.2.2.1]) (fun x x1 x2 x3 x4 => by
        show upd (upd (upd Mp.1 (591 + f) (-9)) 186 _) _ _ x = _
        rw [up_n x4, up_n x1, up_n x2]) (by
        show upd (upd (upd Mp.1 (591 + f) (-9)) 186 _) _ _ 186 = _
        rw [up_n (by omega), up_s rfl]
        dsimp only
        rw [up_n (by omega), up_n (by omega), h66]) (by unfold lv0; dsimp only; exact up_s rfl) (by
        show upd (upd (upd Mp.1 (591 + f) (-9)) 186 _) _ _ (591 + f) = _
        rw [up_n (by omega), up_n (by omega), up_s rfl]) (fun z => absurd z (by omega)) (by
        show upd Mp.2.2 8 (Mp.2.2 8 + upd Mp.1 (591 + f) (-9) (317 + 10 * a + 6)) = _
        rw [up_n (by omega), h66])
    obtain ⟨S', M', nr', r', q1, q2, q3, q4, q5⟩ := failO (y := 6) hW (by omega) (by omega) hwl (o2.imp id (fun ⟨i, i1, i2, i3, i4, _⟩ => ⟨i, i1, i2, i3, i4⟩)) (by omega) (by omega)
    refine ⟨owI (ow a), _, S', M', nr', r', _, _, _, ?_, q1, fun K0 => ?_, q3⟩
    · rw [eTake, ehope, ob_eq, if_neg h10, ew, ob_eq]
      dsimp only
      rw [hwap.2.2.2.1.1]
    · rw [eRef, if_pos hH.1, if_neg h10, if_neg (nI_ge (by omega) (by omega)), show (6 : Int32) = nI 6 from rfl, loses_eval ha24 (by omega) hM19, q2, ob_eq]
      rfl
  · -- it comes to the worker
    rw [if_neg (by omega)] at ehope
    have hB := hP.toB (f := f) (v := v) (a := a) (S' := sset (sset Sp 9 (4, fup (Sp.1 9).2 v 0 (nI f))) 7 (4, fup (Sp.1 7).2 f 5 (4 : Int32))) (M' := (upd (upd Mp.1 (595 + v) (nI a)) (317 + 10 * a + 7) (4 : Int32), Mp.2)) c1 hv c3 c5 hfb hg
      ⟨by rw [ss_s], by rw [ss_s]; exact fup_s rfl rfl, fun w j hw => by
        rw [ss_s]
        rcases hw with z | z
        · exact fup_r z
        · exact fup_c z⟩ ⟨by rw [ss_n (by omega), ss_s], by rw [ss_n (by omega), ss_s]; exact fup_s rfl rfl, fun w hw hne => by rw [ss_n (by omega), ss_s]; exact fup_r hne⟩ (fun k k1 k2 => by rw [ss_n k1, ss_n k2]) rfl (fun x x1 x2 => by
        show upd (upd Mp.1 (595 + v) (nI a)) (317 + 10 * a + 7) (4 : Int32) x = _
        rw [up_n x2, up_n x1]) (by dsimp only; exact up_s rfl) (by
        show upd (upd Mp.1 (595 + v) (nI a)) (317 + 10 * a + 7) (4 : Int32) (595 + v) = _
        rw [up_n (by omega), up_s rfl]) rfl
    refine ⟨-9, _, _, _, nr, r, ws, _, _, ?_, fail_none hB (by omega) _, fun K0 => ?_, hB⟩
    · rw [eTake, ehope, ob_eq, if_pos rfl, sp9 hGp.1 hv, nm, show sput 7 (sset Sp 9 (4, fup (Sp.1 9).2 v 0 (nI f))) (nI f) (5 : Int32) (4 : Int32) = sset (sset Sp 9 (4, fup (Sp.1 9).2 v 0 (nI f))) 7 (4, fup ((sset Sp 9 (4, fup (Sp.1 9).2 v 0 (nI f))).1 7).2 f 5 (4 : Int32)) from sp7 (c := 5) (by rw [ss_n (by omega)]; exact hFp.1) c1 (by omega), nm, ss_n (by omega)]
    · have e100 : bfX6_takesBack_100 (nI v) K0 (nI a) Mp = K0 (upd (upd Mp.1 (595 + v) (nI a)) (317 + 10 * a + 7) (4 : Int32), Mp.2) := by
        unfold bfX6_takesBack_100 bfX6_takesBack_125
        rw [nB_595, if_pos (okI_nI (by omega) (by decide)), nm, slot_eq, ob_eq, nA_7, if_pos (okI_nI (by omega) (by decide)), nm, nI_clamp (by omega), nI_clamp (by omega)]
      rw [eRef, e100]
      by_cases e : sw 1 = 1
      · rw [if_pos e, if_neg (show ¬ (1 : Int32) = 0 by decide), if_pos (nI_le (by omega) (by omega))]
      · rw [if_neg e, if_pos rfl]
end BL
