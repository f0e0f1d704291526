/-! with cancelling: away from its workers -/
section AW
variable {F : Fx} {E Zf Zb : Nat → Prop} {t K lo wl : Nat} {cl sg : N2} {sv sw : N1} {nr : Nat} {r : N2} {N nq nb : Nat} {qs ws fb gb : N1} {at_ : N2} {ow : N1} {S S' : StS} {M M' : MS}
/-- first out of the back queue, if it is there -/
theorem aban_backq (h : RG F E Zf Zb t K lo wl cl sg sv sw nr r N nq nb qs ws fb gb at_ ow S M) {a w : Nat} (ha : a < 24) (hw : w < 4) (e : ws w = a + 1) (p0 : Pg) (hM0 : ∀ x, x ≠ 317 + 10 * a → p0 x = M.1 x) : ∃ S12 Q nb' fb', sdrop 8 S (sfind 8 S (0 : Int32) (nI w)) = S12 ∧ cB a (p0, M.2) = cW a (Q, M.2) ∧ RG F E Zf Zb t K lo wl cl sg sv sw nr r N nq nb' qs ws fb' gb at_ ow S12 (upd Q (317 + 10 * a) (M.1 (317 + 10 * a)), M.2) ∧ ∀ k, k < nb' → fb' k ≠ w := by
  obtain ⟨hA, hQ, hF, hB, hG, hU⟩ := h.2.2.2.2.1
  have b16 := hB.2.1
  have hback : upd p0 (317 + 10 * a) (M.1 (317 + 10 * a)) = M.1 := by
    funext x
    by_cases c : x = 317 + 10 * a
    · rw [up_s c, c]
    · rw [up_n c, hM0 x c]
  have hent : ∀ j, j < nb → fb j ≠ w → ∃ x, x < 24 ∧ x ≠ a ∧ p0 (575 + j) = nI x := fun j hj hne => by
    obtain ⟨c1, c2, b, c3, c4, c5⟩ := hB.2.2.2.1 j hj
    refine ⟨b, ((hF.2 _ c1).2.2 b c3).1, fun z => hne (hU.2.1 _ _ c1 hw (by omega) (by rw [c3, e, z])), ?_⟩
    rw [hM0 _ (by omega)]
    exact c4
  have e574 : p0 574 = nI nb := (hM0 _ (by omega)).trans hB.2.2.1
  by_cases hex : ∃ j, j < nb ∧ fb j = w
  · obtain ⟨j, hj, ej⟩ := hex
    have hj575 : p0 (575 + j) = nI a := by
      obtain ⟨c1, c2, b, c3, c4, c5⟩ := hB.2.2.2.1 j hj
      rw [ej, e] at c3
      rw [hM0 _ (by omega), c4, show b = a by omega]
    have hne : ∀ k, k < nb → k ≠ j → fb k ≠ w := fun k hk hkj z => hkj (hB.2.2.2.2 k j hk hj (by rw [z, ej]))
    have e58 := cn58_yes (M := (p0, M.2)) (a := a) (n := nb) (k0 := j) ha b16 hj hj575 e574 (fun k hk hkj => hent k hk (hne k hk hkj)) (nb - j - 1) nb FU (by omega) (Nat.le_refl _) (by unfold FU; omega)
    dsimp only at e58
    refine ⟨_, upd (ppull p0 575 nb j) 574 (nI (nb - 1)), nb - 1, qdn fb j, rfl, ?_, ?_, fun k hk z => ?_⟩
    · unfold cB
      dsimp only
      rw [e574]
      exact e58
    · rw [find8_some h hw hj ej]
      refine h.popB hj (fun x hx => ?_) ?_ (fun k hk => ?_) rfl
      · show upd (upd (ppull p0 575 nb j) 574 (nI (nb - 1))) (317 + 10 * a) (M.1 (317 + 10 * a)) x = _
        by_cases c : x = 317 + 10 * a
        · rw [up_s c, c]
        · rw [up_n c, up_n (by omega)]
          unfold ppull
          rw [if_neg (by omega), hM0 x c]
      · show upd (upd (ppull p0 575 nb j) 574 (nI (nb - 1))) (317 + 10 * a) (M.1 (317 + 10 * a)) 574 = _
        rw [up_n (by omega), up_s rfl]
      · show upd (upd (ppull p0 575 nb j) 574 (nI (nb - 1))) (317 + 10 * a) (M.1 (317 + 10 * a)) (575 + k) = _
        rw [up_n (by omega), up_n (by omega)]
        unfold ppull
        by_cases c : j ≤ k
        · rw [if_pos (by omega), if_pos c]
          exact hM0 _ (by omega)
        · rw [if_neg (by omega), if_neg c]
          exact hM0 _ (by omega)
    · unfold qdn at z
      by_cases c : j ≤ k
      · rw [if_pos c] at z
        exact hne (k + 1) (by omega) (by omega) z
      · rw [if_neg c] at z
        exact hne k (by omega) (by omega) z
  · have hno : ∀ j, j < nb → fb j ≠ w := fun j hj z => hex ⟨j, hj, z⟩
    have e58 := cn58_no (M := (p0, M.2)) (a := a) (n := nb) ha b16 nb FU (Nat.le_refl _) (fun j hj => hent j hj (hno j hj)) (by unfold FU; omega)
    refine ⟨S, p0, nb, fb, ?_, ?_, ?_, hno⟩
    · rw [find8_none h hw hno, sdrop_out (by decide)]
    · unfold cB
      dsimp only
      rw [e574]
      exact e58
    · rw [hback]
      exact h
theorem aban_worker (h : RG F (fun _ => False) Zf Zb t K lo wl cl sg sv sw nr r N nq nb qs ws fb gb at_ ow S M) (hNb : N < 2 ^ 30) {i w : Nat} (hi : i < nr) (h4 : r i 4 = 0) (hs : sw 2 = 1) (hw : w < 4) (e : ws w = r i 7 + 1) : ∃ S1 M1 nq' nb' qs' ws' fb' gb' at' ow', fX1_abandon (nI (r i 0)) S = some S1 ∧ fX6_cancels (nI (r i 7)) (upd M.1 (317 + 10 * r i 7) (-8), M.2) = some M1 ∧ RG F (fun x => x = r i 0) Zf Zb t K lo wl cl sg sv sw nr r N nq' nb' qs' ws' fb' gb' at' ow' S1 M1 ∧ M1.2.1 = M.2.1 := by
  obtain ⟨hA, hQ, hF, hB, hG, hU⟩ := h.2.2.2.2.1
  obtain ⟨a1, a2, a3, a4, a5⟩ := h.2.2.2.2.2.1.1 i hi h4 (fun z => z)
  have hW := h.1.2.2.2.1
  have ew : sget 4 S (2 : Int32) (0 : Int32) = nI (sw 2) := (tg (w := 1) (rows := 3) (T := S.1 4) (i := 2) (j := 0) (by rw [hW.1]; decide) (by omega) (by omega) (by omega) (by omega)).trans (hW.2 2 (by omega)).1
  obtain ⟨S12, Q, nb', fb', y1, y2, y3, y4⟩ := aban_backq h a1 hw e (upd M.1 (317 + 10 * r i 7) (-8)) (fun x hx => up_n hx)
  have hX : fX1_abandon (nI (r i 0)) S = ob (fX1_waste (nI w) (sput 9 S12 (sfind 9 S12 (0 : Int32) (nI w)) (0 : Int32) (-9 : Int32))) fun u14 => some u14.2 := by
    unfold fX1_abandon bfX1_abandon_110
    rw [find6_none h hNb hi (fun k hk z => hU.2.2.1 k w hk hw (by rw [e, z])), nm, find7_some h hNb hi h4 (fun z => z) hw e, nm, ew, hs, if_neg (show ¬ nI 1 = (0 : Int32) by decide), sdrop_out (by decide), nm, if_neg (nI_neg (by omega) (by decide)), y1, nm, nm]
  have q16 := hQ.2.1
  have e11 := cn11_no (M := (upd M.1 (317 + 10 * r i 7) (-8), M.2)) (a := r i 7) (n := nq) a1 q16 nq FU (Nat.le_refl _) (fun k hk => ⟨qs k, (hQ.2.2.2 k hk).2.1, fun z => hU.2.2.1 k w hk hw (by rw [e, z]), (up_n (by have := (hQ.2.2.2 k hk).2.1; omega)).trans (hQ.2.2.2 k hk).1⟩) (by unfold FU; omega)
  have ecan : fX6_cancels (nI (r i 7)) (upd M.1 (317 + 10 * r i 7) (-8), M.2) = cW (r i 7) (Q, M.2) := (cancels_open (M := (upd M.1 (317 + 10 * r i 7) (-8), M.2)) ((up_n (by omega)).trans hQ.2.2.1)).trans (e11.trans y2)
  generalize ha : r i 7 = a at *
  obtain ⟨hA', hQ', hF', hB', hG', hU'⟩ := y3.2.2.2.2.1
  have hQc : ∀ x, x ≠ 317 + 10 * a → upd Q (317 + 10 * a) (M.1 (317 + 10 * a)) x = Q x := fun x hx => up_n hx
  have hwa := (hF'.2 w hw).2.2 a e
  have h66 : Q (317 + 10 * a + 6) = nI (at_ a 6) := (hQc _ (by omega)).symm.trans (((hA' a a1).2.2 a2).2 6 (by omega) (by omega))
  have hQw : Q (591 + w) = nI a := ((hQc _ (by omega)).symm.trans (hF'.2 w hw).1).trans (by rw [e]; rfl)
  have hcell : ∀ x, 591 ≤ x → x < 599 → Q x = nI a → x = 591 + w ∨ ∃ v, v < 4 ∧ x = 595 + v ∧ gb v = w + 1 := fun x x1 x2 z => by
    obtain ⟨w', w1, w2, w3⟩ := wcell y3 (x := x) a1 x1 x2 ((hQc x (by omega)).trans z)
    have : w' = w := hU.2.1 w' w w1 hw (by omega) (by rw [w2, e])
    rw [this] at w3
    exact w3
  -- the back worker that has it, or none
  obtain ⟨v, hv, hv2, hv3, s9, s9k⟩ : ∃ v, (v < 4 → gb v = w + 1) ∧ (∀ u, u < 4 → gb u = w + 1 → u = v) ∧ (v < 4 → Q (595 + v) = nI a) ∧ (((sput 9 S12 (sfind 9 S12 (0 : Int32) (nI w)) (0 : Int32) (-9 : Int32)).1 9).1 = 4 ∧ (v < 4 → ((sput 9 S12 (sfind 9 S12 (0 : Int32) (nI w)) (0 : Int32) (-9 : Int32)).1 9).2 v 0 = -9) ∧ ∀ u, u < 4 → u ≠ v → ((sput 9 S12 (sfind 9 S12 (0 : Int32) (nI w)) (0 : Int32) (-9 : Int32)).1 9).2 u 0 = (S12.1 9).2 u 0) ∧ ∀ k, k ≠ 9 → (sput 9 S12 (sfind 9 S12 (0 : Int32) (nI w)) (0 : Int32) (-9 : Int32)).1 k = S12.1 k := by
    by_cases hex : ∃ v, v < 4 ∧ gb v = w + 1
    · obtain ⟨v, v4, ev⟩ := hex
      refine ⟨v, fun _ => ev, fun u hu eu => hG.2.2.1 u v hu v4 (by omega) (by rw [eu, ev]), fun _ => ?_, ?_, fun k hk => sput_n hk⟩
      · obtain ⟨f4, b, b1, b2, -⟩ := (hG'.2.1 v v4).2.2 w ev
        rw [e] at b1
        rw [← hQc _ (by omega)]
        rw [show a = b by omega]
        rw [show a = b by omega] at b2
        exact b2
      · rw [find9_some y3 hw v4 ev, sp9 hG'.1 v4, ss_s]
        exact ⟨rfl, fun _ => fup_s rfl rfl, fun u _ hne => fup_r hne⟩
    · have hno : ∀ v, v < 4 → gb v ≠ w + 1 := fun v hv z => hex ⟨v, hv, z⟩
      refine ⟨4, fun z => absurd z (by omega), fun u hu eu => absurd eu (hno u hu), fun z => absurd z (by omega), ?_, fun k hk => sput_n hk⟩
      rw [find9_none y3 hw hno, sput_out (by decide)]
      exact ⟨hG'.1, fun z => absurd z (by omega), fun _ _ _ => rfl⟩
  have s92 : (sput 9 S12 (sfind 9 S12 (0 : Int32) (nI w)) (0 : Int32) (-9 : Int32)).2 = S12.2 := rfl
  generalize sput 9 S12 (sfind 9 S12 (0 : Int32) (nI w)) (0 : Int32) (-9 : Int32) = S13 at s9 s9k s92 hX
  have h13 : (S13.1 7).1 = 4 := by rw [s9k 7 (by omega)]; exact hF'.1
  have eX := hX.trans (by rw [waste_eval h13 hw, ob_eq])
  have hpw : pcw Q a 4 (591 + w) = -9 := pcw_hit (by omega) (by omega) hQw
  have hp6 : pcw Q a 4 (317 + 10 * a + 6) = nI (at_ a 6) := (pcw_out (by omega)).trans h66
  have hpx : ∀ x, x ≠ 591 + w → (x ≠ 595 + v ∨ 4 ≤ v) → pcw Q a 4 x = Q x := fun x x1 x2 => by
    by_cases c : 591 ≤ x ∧ x < 599
    · refine pcw_miss (fun z => ?_)
      rcases hcell x c.1 c.2 z with z | ⟨u, u4, u5, u6⟩
      · exact x1 z
      · have := hv2 u u4 u6
        omega
    · exact pcw_out (by omega)
  have hl : ∀ x, x ≠ 186 → x ≠ 317 + 10 * a + 9 → (lv0 (pcw Q a 4, M.2) a).1 x = pcw Q a 4 x := fun x h1 h2 => by
    show upd (upd (pcw Q a 4) 186 _) (317 + 10 * a + 9) 0 x = _
    rw [up_n h2, up_n h1]
  have hl9 : (lv0 (pcw Q a 4, M.2) a).1 (317 + 10 * a + 9) = nI 0 := by
    show upd (upd (pcw Q a 4) 186 _) (317 + 10 * a + 9) 0 (317 + 10 * a + 9) = _
    rw [up_s rfl]
    rfl
  have hl186 : (lv0 (pcw Q a 4, M.2) a).1 186 = Q 186 + nI (at_ a 6) := by
    show upd (upd (pcw Q a 4) 186 (pcw Q a 4 186 + pcw Q a 4 (317 + 10 * a + 6))) (317 + 10 * a + 9) 0 186 = _
    rw [up_n (by omega), up_s rfl, hp6, pcw_out (by omega)]
  have hlr : (lv0 (pcw Q a 4, M.2) a).2.2 = upd M.2.2 8 (M.2.2 8 + nI (at_ a 6)) := by
    show upd M.2.2 8 (M.2.2 8 + pcw Q a 4 (317 + 10 * a + 6)) = _
    rw [hp6]
  have hl1 : (lv0 (pcw Q a 4, M.2) a).2.1 = M.2.1 := rfl
  have ecan2 : fX6_cancels (nI a) (upd M.1 (317 + 10 * a) (-8), M.2) = some (lv0 (pcw Q a 4, M.2) a) := ecan
  generalize lv0 (pcw Q a 4, M.2) a = L at hl hl9 hl186 hlr hl1 ecan2
  have hWW := RG.wasteW (v := v) (S' := sset (S13.1, upd S13.2 16 (S13.2 16 + (S13.1 7).2 w 4)) 7 (4, fup (S13.1 7).2 w 0 (-9))) (M' := (upd L.1 (317 + 10 * a) (M.1 (317 + 10 * a)), L.2)) y3 hw e hv hv2 y4
    ⟨by rw [ss_s], by rw [ss_s]; exact fup_s rfl rfl, fun u j hu => by
      rw [ss_s]
      show fup (S13.1 7).2 w 0 (-9) u j = _
      rw [fup_r hu, s9k 7 (by omega)]⟩ (by
      rw [ss_n (by omega)]
      exact s9) (fun k h7 h9 => by
      rw [ss_n h7]
      exact s9k k h9) (by
      show upd S13.2 16 (S13.2 16 + (S13.1 7).2 w 4) = _
      rw [s92, s9k 7 (by omega), hwa.2.2.2.1.2.2.2.2.1])
    (fun x x1 x2 x3 x4 => by
      show upd L.1 (317 + 10 * a) (M.1 (317 + 10 * a)) x = upd Q (317 + 10 * a) (M.1 (317 + 10 * a)) x
      by_cases c : x = 317 + 10 * a
      · rw [up_s c, up_s c]
      · rw [up_n c, up_n c, hl x x1 x4, hpx x x2 x3]) (by
      show upd L.1 (317 + 10 * a) (M.1 (317 + 10 * a)) 186 = upd Q (317 + 10 * a) (M.1 (317 + 10 * a)) 186 + _
      rw [up_n (by omega), up_n (by omega)]
      exact hl186) (by
      show upd L.1 (317 + 10 * a) (M.1 (317 + 10 * a)) (317 + 10 * a + 9) = _
      rw [up_n (by omega)]
      exact hl9) (by
      show upd L.1 (317 + 10 * a) (M.1 (317 + 10 * a)) (591 + w) = _
      rw [up_n (by omega), hl _ (by omega) (by omega)]
      exact hpw) (fun z => by
      show upd L.1 (317 + 10 * a) (M.1 (317 + 10 * a)) (595 + v) = _
      rw [up_n (by omega), hl _ (by omega) (by omega)]
      exact pcw_hit (by omega) (by omega) (hv3 z)) hlr
  have hD := RG.dead (M' := L) hWW a1 (if_pos ⟨rfl, rfl⟩) (fun x hx => by
    show L.1 x = upd L.1 (317 + 10 * a) (M.1 (317 + 10 * a)) x
    rw [up_n (by omega)]) rfl
  refine ⟨_, L, _, _, _, _, _, _, _, _, eX, ecan2, hD.eE (fun x => ⟨fun z => ?_, fun z => Or.inr ?_⟩), hl1⟩
  · have := z.resolve_left (fun y => y)
    omega
  · omega
end AW
