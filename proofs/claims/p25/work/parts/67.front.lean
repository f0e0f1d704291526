/-! a front worker takes, in both -/
section FL
variable {F : Fx} {Zf Zb : Nat → Prop} {t K lo wl : Nat} {cl sg : N2} {sv sw : N1} {nr : Nat} {r : N2} {N nq nb : Nat} {qs ws fb gb : N1} {at_ : N2} {ow : N1} {S S' : StS} {M M' : MS}
theorem scopy (h : (S.1 7).1 = 4) {w k : Nat} (hw : w < 4) (hk : k < (S.1 6).1) (hk2 : k < 16) : scopyRow S (nI w) (nI k) = sset S 7 (4, fun i j => if i = w ∧ j < 6 then (S.1 6).2 k j else (S.1 7).2 i j) := by
  unfold scopyRow tcopyRow crow
  have e4 : tz 4 (S.1 7) = 4 := by rw [tz_n (by omega), h]
  rw [e4, if_pos (okI_nI hw (by omega)), nI_clamp (by omega), h]
  congr 2
  funext i j
  by_cases e : i = w ∧ j < 6
  · rw [if_pos e, if_pos e]
    exact tg hk hk2 e.2 (by omega) (by omega)
  · rw [if_neg e, if_neg e]
theorem front_step (h : RG F (fun _ => False) Zf Zb t K lo wl cl sg sv sw nr r N nq nb qs ws fb gb at_ ow S M) (hK : K < 2 ^ 29) (ht : t < 2 ^ 29) (hlo : t ≤ lo) (hwl : wl ≤ t + 1) {w : Nat} (hw : w < 4) (hg : ws w = 0) (hnq : 0 < nq) : ∃ k x S1 S' M' nr' r' ws' qs' at' , k < nq ∧ fX1_nextInQueue S = some (nI k) ∧ fX1_takeAtFront (nI w) (nI k) S = some (x, S1) ∧ fX0_fail x (6 : Int32) S1 = some S' ∧ (∀ K0, bfX6_takesFront_0 (nI w) K0 M = K0 M') ∧ RG F (fun _ => False) Zf Zb t K lo wl cl sg sv sw nr' r' N (nq - 1) nb qs' ws' fb gb at' ow S' M' := by
  have hNK : N ≤ K := h.2.2.1.2.2.2.2.2.2.1
  obtain ⟨k, hk, n1, n2⟩ := chosen_eq h ht hnq
  obtain ⟨hA, hQ, hF, hB, hG, hU⟩ := h.2.2.2.2.1
  have q16 := hQ.2.1
  have ehope := hope6 h ht hk
  have hqk := hQ.2.2.2 k hk
  have hF4 := hF.1
  have hkT : k < (S.1 6).1 := by rw [hQ.1]; exact hk
  have hw9 := (hF.2 w hw).1
  rw [hg] at hw9
  generalize ha : qs k = a at *
  obtain ⟨d1, d2, d3, ⟨d4, d5, d6, d7, d8⟩, d9, d10, d11, d12, d13, d14, d15⟩ := hqk
  obtain ⟨o1, o2, o3, o4⟩ := h.owner d2 d3
  have epull : fX6_pulls (557 : Int32) (558 : Int32) (nI k) M = some (nI a, (upd (ppull M.1 558 nq k) 557 (nI (nq - 1)), M.2)) := (pulls_eq (m0 := 557) (q := 558) (r := k) (by omega) (by omega) hk (by omega) hQ.2.2.1).trans (by rw [d1])
  have hpx : ∀ x, x < 557 ∨ 574 ≤ x → ((upd (ppull M.1 558 nq k) 557 (nI (nq - 1)), M.2) : MS).1 x = M.1 x := fun x hx => by
    show upd (ppull M.1 558 nq k) 557 (nI (nq - 1)) x = _
    rw [up_n (by omega)]
    unfold ppull
    rw [if_neg (by omega)]
  have hpq : ∀ j, j < nq - 1 → ((upd (ppull M.1 558 nq k) 557 (nI (nq - 1)), M.2) : MS).1 (558 + j) = M.1 (558 + if k ≤ j then j + 1 else j) := fun j hj => by
    show upd (ppull M.1 558 nq k) 557 (nI (nq - 1)) (558 + j) = _
    rw [up_n (by omega)]
    unfold ppull
    by_cases e : k ≤ j
    · rw [if_pos (by omega), if_pos e]
      rfl
    · rw [if_neg (by omega), if_neg e]
  have hp5 : ((upd (ppull M.1 558 nq k) 557 (nI (nq - 1)), M.2) : MS).1 557 = nI (nq - 1) := by
    show upd (ppull M.1 558 nq k) 557 (nI (nq - 1)) 557 = _
    rw [up_s rfl]
  have hp2 : ((upd (ppull M.1 558 nq k) 557 (nI (nq - 1)), M.2) : MS).2 = M.2 := rfl
  generalize hMp : ((upd (ppull M.1 558 nq k) 557 (nI (nq - 1)), M.2) : MS) = Mp at *
  have hsl : ∀ c, 1 ≤ c → c < 8 → Mp.1 (317 + 10 * a + c) = nI (at_ a c) := fun c c1 c2 => (hpx _ (by omega)).trans (((hA a d2).2.2 d3).2 c c1 c2)
  have hs0 : Mp.1 (317 + 10 * a) = owI (ow a) := (hpx _ (by omega)).trans ((hA a d2).2.2 d3).1
  have eleft : fX6_left (nI a) Mp = some (nI (at_ a 1 - t)) := by
    have e5 : Mp.2.2 5 = nI t := by rw [hp2]; exact h.2.2.2.2.2.2.1
    unfold fX6_left bfX6_left_38
    rw [slot_eq, ob_eq, nA_0, if_pos (okI_nI (by omega) (by decide)), nI_clamp (by omega), Nat.add_zero, hs0]
    rcases o2 with z | ⟨i, i1, i2, i3, i4, i5, i6, i7⟩
    · rw [if_pos ((owI_8 (by omega)).mpr z)]
      have := o3 z
      rw [show at_ a 1 - t = 0 by omega]
      rfl
    · rw [if_neg (fun z => by have := (owI_8 (by omega)).mp z; omega), ob_eq, nA_1, if_pos (okI_nI (by omega) (by decide)), nI_clamp (by omega), hsl 1 (by omega) (by omega), e5, pk_sub (by omega)]
  have eon : fX6_isOn (1 : Int32) Mp = some (if sw 1 = 1 then 1 else 0) := by
    have hW := h.1.2.2.2.1
    have w1 := (hW.2 1 (by omega)).2.2
    rw [show fX6_isOn (1 : Int32) Mp = _ from isOn_n (k := 1) (by omega) Mp, hpx _ (by omega), (hW.2 1 (by omega)).2.1]
    by_cases e : sw 1 = 1
    · rw [if_pos ((eqn_1 (by omega)).mpr e), if_pos e]
    · rw [if_neg (fun z => e ((eqn_1 (by omega)).mp z)), if_neg e]
  have eRef : ∀ K0, bfX6_takesFront_0 (nI w) K0 M = if (if sw 1 = 1 then (1 : Int32) else 0) = 0 then bfX6_takesFront_92 (nI w) K0 (nI a) Mp else (if nI (at_ a 2 + at_ a 4) ≤ nI (at_ a 1 - t) then bfX6_takesFront_92 (nI w) K0 (nI a) Mp else ob (fX6_loses (nI a) (6 : Int32) Mp) fun u24 => bfX6_takesFront_131 (nI w) K0 u24) := by
    intro K0
    unfold bfX6_takesFront_0
    rw [nB_591, if_pos (okI_nI (by omega) (by decide)), nI_clamp (by omega), if_pos (show M.1 (591 + w) = -9 from hw9), cl_557, hQ.2.2.1, if_neg (fun z => by have := (eln_0 (by omega)).mp z; omega), n2, ob_eq, epull, ob_eq]
    show ob (fX6_isOn (1 : Int32) Mp) _ = _
    rw [eon, ob_eq]
    dsimp only
    rw [eleft, ob_eq, slot_eq, ob_eq, nA_2, if_pos (okI_nI (by omega) (by decide)), ob_eq, nA_4, if_pos (okI_nI (by omega) (by decide)), nI_clamp (by omega), nI_clamp (by omega), hsl 2 (by omega) (by omega), hsl 4 (by omega) (by omega), nI_add]
  have eTake : fX1_takeAtFront (nI w) (nI k) S = ob (some (if sw 1 = 1 ∧ at_ a 1 - t < at_ a 3 + at_ a 5 then (1 : Int32) else 0)) fun u9 => (if u9 = 0 then bfX1_takeAtFront_26 (nI w) (nI k) ((-9 : Int32)) S else bfX1_takeAtFront_26 (nI w) (nI k) (owI (ow a)) S) := by
    unfold fX1_takeAtFront
    rw [ehope, show sget 6 S (nI k) (0 : Int32) = owI (ow a) from (sg6 hkT (by omega) (c := 0) (by omega)).trans d4]
  by_cases hH : sw 1 = 1 ∧ at_ a 1 - t < at_ a 3 + at_ a 5
  · have h10 : ¬ (1 : Int32) = 0 := by decide
    rw [if_pos hH] at eTake
    have h66 : Mp.1 (317 + 10 * a + 6) = 0 := by rw [hsl 6 (by omega) (by omega), d14]; rfl
    have hL := h.lostQ (k := k) (M' := lv0 Mp a) hk (fun x x1 x2 => by
        rw [ha] at x2
        show upd (upd Mp.1 186 (Mp.1 186 + Mp.1 (317 + 10 * a + 6))) (317 + 10 * a + 9) 0 x = _
        rw [up_n x2, h66, Int32.add_zero, upd_self, hpx x x1]) (by
        rw [ha]
        show upd (upd Mp.1 186 (Mp.1 186 + Mp.1 (317 + 10 * a + 6))) (317 + 10 * a + 9) 0 (317 + 10 * a + 9) = _
        rw [up_s rfl]
        rfl) (by
        show upd (upd Mp.1 186 (Mp.1 186 + Mp.1 (317 + 10 * a + 6))) (317 + 10 * a + 9) 0 557 = _
        rw [up_n (by omega), up_n (by omega), hp5]) (fun j hj => by
        show upd (upd Mp.1 186 (Mp.1 186 + Mp.1 (317 + 10 * a + 6))) (317 + 10 * a + 9) 0 (558 + j) = _
        rw [up_n (by omega), up_n (by omega), hpq j hj]) (by
        show upd Mp.2.2 8 (Mp.2.2 8 + Mp.1 (317 + 10 * a + 6)) = _
        rw [h66, Int32.add_zero, upd_self, hp2])
    rw [ha] at hL
    obtain ⟨S', M', nr', r', q1, q2, q3, q4, q5⟩ := failO (y := 6) hL (by omega) (by omega) hwl (o2.imp id (fun ⟨i, i1, i2, i3, i4, _⟩ => ⟨i, i1, i2, i3, i4⟩)) (by omega) (by omega)
    refine ⟨k, owI (ow a), sdrop 6 S (nI k), S', M', nr', r', _, _, _, hk, n1, ?_, q1, fun K0 => ?_, q3⟩
    · rw [eTake, ob_eq, if_neg h10]
      unfold bfX1_takeAtFront_26 bfX1_takeAtFront_56
      rw [if_neg (owI_9 (by omega)), nm]
    · rw [eRef, if_pos hH.1, if_neg h10, if_neg (nI_ge (by omega) (by omega)), show (6 : Int32) = nI 6 from rfl, loses_eval d2 (by omega) hs0, q2, ob_eq]
      rfl
  · rw [if_neg hH] at eTake
    have e1 : sdrop 6 (sput 7 (scopyRow S (nI w) (nI k)) (nI w) (5 : Int32) (2 : Int32)) (nI k) = sset (sset S 7 (4, fup (fun i j => if i = w ∧ j < 6 then (S.1 6).2 k j else (S.1 7).2 i j) w 5 (2 : Int32))) 6 ((S.1 6).1 - 1, fun a j => if k ≤ a ∧ a + 1 < (S.1 6).1 then (S.1 6).2 (a + 1) j else (S.1 6).2 a j) := by
      rw [scopy hF4 hw hkT (by omega), show sput 7 (sset S 7 (4, fun i j => if i = w ∧ j < 6 then (S.1 6).2 k j else (S.1 7).2 i j)) (nI w) (5 : Int32) (2 : Int32) = _ from sp7 (c := 5) (by rw [ss_s]) hw (by omega), ss_s, sset2]
      show sset _ 6 (tdrop 16 ((sset S 7 _).1 6) (nI k)) = _
      rw [ss_n (by omega), td hkT (by rw [hQ.1]; exact q16) (by omega)]
    have hT := h.takeQ (k := k) (w := w) (S' := sdrop 6 (sput 7 (scopyRow S (nI w) (nI k)) (nI w) (5 : Int32) (2 : Int32)) (nI k)) (M' := (upd (upd (upd Mp.1 (591 + w) (nI a)) (317 + 10 * a + 7) (2 : Int32)) (317 + 10 * a + 8) (nI w), Mp.2)) hk hw hg
      (by
        rw [e1, ss_s]
        refine ⟨by show (S.1 6).1 - 1 = _; rw [hQ.1], fun j c hj => ?_⟩
        show (if k ≤ j ∧ j + 1 < (S.1 6).1 then (S.1 6).2 (j + 1) c else (S.1 6).2 j c) = _
        by_cases e : k ≤ j
        · rw [if_pos ⟨e, by rw [hQ.1]; omega⟩, if_pos e]
        · rw [if_neg (fun z => e z.1), if_neg e]) (by
        rw [e1, ss_n (by omega), ss_s]
        refine ⟨rfl, fun c hc => ?_, ?_, fun v c hv => ?_⟩
        · dsimp only
          rw [fup_c (by omega), if_pos ⟨rfl, by omega⟩]
        · dsimp only
          exact fup_s rfl rfl
        · dsimp only
          rw [fup_r hv, if_neg (fun z => hv z.1)]) (fun j j1 j2 => by rw [e1, ss_n j1, ss_n j2]) (by rw [e1]; rfl) (fun x x1 x2 x3 x4 => by
        rw [ha] at x3 x4
        show upd (upd (upd Mp.1 (591 + w) (nI a)) (317 + 10 * a + 7) (2 : Int32)) (317 + 10 * a + 8) (nI w) x = _
        rw [up_n x4, up_n x3, up_n x2, hpx x x1]) (by
        show upd (upd (upd Mp.1 (591 + w) (nI a)) (317 + 10 * a + 7) (2 : Int32)) (317 + 10 * a + 8) (nI w) 557 = _
        rw [up_n (by omega), up_n (by omega), up_n (by omega), hp5]) (fun j hj => by
        show upd (upd (upd Mp.1 (591 + w) (nI a)) (317 + 10 * a + 7) (2 : Int32)) (317 + 10 * a + 8) (nI w) (558 + j) = _
        rw [up_n (by omega), up_n (by omega), up_n (by omega), hpq j hj]) (by
        rw [ha]
        show upd (upd (upd Mp.1 (591 + w) (nI a)) (317 + 10 * a + 7) (2 : Int32)) (317 + 10 * a + 8) (nI w) (591 + w) = _
        rw [up_n (by omega), up_n (by omega), up_s rfl]) (by
        rw [ha]
        show upd (upd (upd Mp.1 (591 + w) (nI a)) (317 + 10 * a + 7) (2 : Int32)) (317 + 10 * a + 8) (nI w) (317 + 10 * a + 7) = _
        rw [up_n (by omega), up_s rfl]
        rfl) (by
        rw [ha]
        show upd (upd (upd Mp.1 (591 + w) (nI a)) (317 + 10 * a + 7) (2 : Int32)) (317 + 10 * a + 8) (nI w) (317 + 10 * a + 8) = _
        rw [up_s rfl]) (by rw [← hp2])
    refine ⟨k, -9, _, _, _, nr, r, _, _, _, hk, n1, ?_, fail_none hT (by omega) _, fun K0 => ?_, hT⟩
    · rw [eTake, ob_eq, if_pos rfl]
      unfold bfX1_takeAtFront_26 bfX1_takeAtFront_56
      rw [if_pos rfl, nm, nm, nm]
    · have e100 : bfX6_takesFront_92 (nI w) K0 (nI a) Mp = K0 (upd (upd (upd Mp.1 (591 + w) (nI a)) (317 + 10 * a + 7) (2 : Int32)) (317 + 10 * a + 8) (nI w), Mp.2) := by
        unfold bfX6_takesFront_92 bfX6_takesFront_131
        rw [nB_591, if_pos (okI_nI (by omega) (by decide)), nm, slot_eq, ob_eq, nA_7, if_pos (okI_nI (by omega) (by decide)), nm, nI_clamp (by omega), nI_clamp (by omega), slot_eq, ob_eq, nA_8, if_pos (okI_nI (by omega) (by decide)), nm, nI_clamp (by omega)]
      rw [eRef, e100]
      by_cases e : sw 1 = 1
      · rw [if_pos e, if_neg (show ¬ (1 : Int32) = 0 by decide), if_pos (nI_le (by omega) (by omega))]
      · rw [if_neg e, if_pos rfl]
end FL
