/-! with cancelling: out of the front queue -/
section AQ
variable {F : Fx} {E Zf Zb : Nat → Prop} {t K lo wl : Nat} {cl sg : N2} {sv sw : N1} {nr : Nat} {r : N2} {N nq nb : Nat} {qs ws fb gb : N1} {at_ : N2} {ow : N1} {S S' : StS} {M M' : MS}
theorem aban_queue (h : RG F (fun _ => False) Zf Zb t K lo wl cl sg sv sw nr r N nq nb qs ws fb gb at_ ow S M) (hNb : N < 2 ^ 30) {i k : Nat} (hi : i < nr) (h4 : r i 4 = 0) (hs : sw 2 = 1) (hk : k < nq) (e : qs k = r i 7) : ∃ S1 M1 nq' nb' qs' ws' fb' gb' at' ow', fX1_abandon (nI (r i 0)) S = some S1 ∧ fX6_cancels (nI (r i 7)) (upd M.1 (317 + 10 * r i 7) (-8), M.2) = some M1 ∧ RG F (fun x => x = r i 0) Zf Zb t K lo wl cl sg sv sw nr r N nq' nb' qs' ws' fb' gb' at' ow' S1 M1 ∧ M1.2.1 = M.2.1 := by
  obtain ⟨hA, hQ, hF, hB, hG, hU⟩ := h.2.2.2.2.1
  obtain ⟨a1, a2, a3, a4, a5⟩ := h.2.2.2.2.2.1.1 i hi h4 (fun z => z)
  have hW := h.1.2.2.2.1
  have ew : sget 4 S (2 : Int32) (0 : Int32) = nI (sw 2) := (tg (w := 1) (rows := 3) (T := S.1 4) (i := 2) (j := 0) (by rw [hW.1]; decide) (by omega) (by omega) (by omega) (by omega)).trans (hW.2 2 (by omega)).1
  have hX : fX1_abandon (nI (r i 0)) S = some (sdrop 6 S (nI k)) := by
    unfold fX1_abandon bfX1_abandon_110
    rw [find6_some h hNb hi h4 (fun z => z) hk e, nm, find7_none h hNb hi (fun w hw z => hU.2.2.1 k w hk hw (by rw [z, e])), nm, ew, hs, if_neg (show ¬ nI 1 = (0 : Int32) by decide), nm, if_pos rfl]
  have q16 := hQ.2.1
  have b16 := hB.2.1
  have hno : ∀ x, 591 ≤ x → x < 599 → M.1 x ≠ nI (r i 7) := fun x x1 x2 z => by
    obtain ⟨w, w1, w2, -⟩ := wcell h a1 x1 x2 z
    exact hU.2.2.1 k w hk w1 (by rw [w2, e])
  have hw6 : at_ (r i 7) 6 = 0 := by rw [← e]; exact (hQ.2.2.2 k hk).2.2.2.2.2.2.2.2.2.1
  have h66 := ((hA _ a1).2.2 a2).2 6 (by omega) (by omega)
  rw [hw6] at h66
  have hqk := (hQ.2.2.2 k hk).1
  have hu1 := fun k' (hk' : k' < nq) (hne : k' ≠ k) => (show qs k' ≠ r i 7 from fun z => hne (hU.1 k' k hk' hk (by rw [z, e])))
  rw [e] at hqk
  generalize ha : r i 7 = a at *
  -- the page without the place in the queue
  have hM0 : ∀ x, x ≠ 317 + 10 * a → upd M.1 (317 + 10 * a) (-8) x = M.1 x := fun x hx => up_n hx
  have hM0a : upd M.1 (317 + 10 * a) (-8) (317 + 10 * a) = -8 := up_s rfl
  generalize upd M.1 (317 + 10 * a) (-8) = p0 at hM0 hM0a ⊢
  have hP : ∀ x, x < 557 ∨ 574 ≤ x → upd (ppull p0 558 nq k) 557 (nI (nq - 1)) x = p0 x := fun x hx => by
    rw [up_n (by omega)]
    unfold ppull
    rw [if_neg (by omega)]
  have hPq : ∀ j, j < nq - 1 → upd (ppull p0 558 nq k) 557 (nI (nq - 1)) (558 + j) = M.1 (558 + if k ≤ j then j + 1 else j) := fun j hj => by
    rw [up_n (by omega)]
    unfold ppull
    by_cases c : k ≤ j
    · rw [if_pos (by omega), if_pos c]
      exact hM0 _ (by omega)
    · rw [if_neg (by omega), if_neg c]
      exact hM0 _ (by omega)
  have hP7 : upd (ppull p0 558 nq k) 557 (nI (nq - 1)) 557 = nI (nq - 1) := up_s rfl
  have e11 := cn11_yes (M := (p0, M.2)) (a := a) (n := nq) (k0 := k) a1 q16 hk ((hM0 _ (by omega)).trans hqk) ((hM0 _ (by omega)).trans hQ.2.2.1) (fun k' hk' hne => ⟨qs k', (hQ.2.2.2 k' hk').2.1, hu1 k' hk' hne, (hM0 _ (by omega)).trans (hQ.2.2.2 k' hk').1⟩) (nq - k - 1) nq FU (by omega) (Nat.le_refl _) (by unfold FU; omega)
  dsimp only at e11
  generalize upd (ppull p0 558 nq k) 557 (nI (nq - 1)) = P at hP hPq hP7 e11
  have e58 : cB a (P, M.2) = some (lv0 (P, M.2) a) := by
    have := cn58_no (M := (P, M.2)) (a := a) (n := nb) a1 b16 nb FU (Nat.le_refl _) (fun j hj => by
      obtain ⟨c1, c2, b, c3, c4, c5⟩ := hB.2.2.2.1 j hj
      refine ⟨b, ((hF.2 _ c1).2.2 b c3).1, fun z => hU.2.2.1 k (fb j) hk c1 (by rw [c3, e, z]), ?_⟩
      show P (575 + j) = _
      rw [hP _ (by omega), hM0 _ (by omega)]
      exact c4) (by unfold FU; omega)
    unfold cB
    dsimp only
    rw [hP 574 (by omega), hM0 574 (by omega), hB.2.2.1, this]
    unfold cW
    rw [pcw_id (fun x x1 x2 => by
      show P x ≠ _
      rw [hP _ (by omega), hM0 _ (by omega)]
      exact hno x x1 x2)]
  have hP6 : P (317 + 10 * a + 6) = 0 := by rw [hP _ (by omega), hM0 _ (by omega), h66]; rfl
  have hP1 : upd P 186 (P 186 + P (317 + 10 * a + 6)) = P := by rw [hP6, Int32.add_zero, upd_self]
  have hl : ∀ x, x ≠ 317 + 10 * a + 9 → (lv0 (P, M.2) a).1 x = P x := fun x hx => by
    show upd (upd P 186 (P 186 + P (317 + 10 * a + 6))) (317 + 10 * a + 9) 0 x = _
    rw [up_n hx, hP1]
  have hl9 : (lv0 (P, M.2) a).1 (317 + 10 * a + 9) = nI 0 := by
    show upd (upd P 186 (P 186 + P (317 + 10 * a + 6))) (317 + 10 * a + 9) 0 (317 + 10 * a + 9) = _
    rw [up_s rfl]
    rfl
  have hlr : (lv0 (P, M.2) a).2.2 = M.2.2 := by
    show upd M.2.2 8 (M.2.2 8 + P (317 + 10 * a + 6)) = _
    rw [hP6, Int32.add_zero, upd_self]
  have hl1 : (lv0 (P, M.2) a).2.1 = M.2.1 := rfl
  generalize lv0 (P, M.2) a = L at hl hl9 hlr hl1 e58
  have hLQ := h.lostQ (k := k) (M' := (upd L.1 (317 + 10 * a) (M.1 (317 + 10 * a)), L.2)) hk (fun x x1 x2 => by
      rw [e] at x2
      show upd L.1 (317 + 10 * a) (M.1 (317 + 10 * a)) x = _
      by_cases c : x = 317 + 10 * a
      · rw [up_s c, c]
      · rw [up_n c, hl x x2, hP x x1, hM0 x c]) (by
      rw [e]
      show upd L.1 (317 + 10 * a) (M.1 (317 + 10 * a)) (317 + 10 * a + 9) = _
      rw [up_n (by omega)]
      exact hl9) (by
      show upd L.1 (317 + 10 * a) (M.1 (317 + 10 * a)) 557 = _
      rw [up_n (by omega), hl _ (by omega)]
      exact hP7) (fun j hj => by
      show upd L.1 (317 + 10 * a) (M.1 (317 + 10 * a)) (558 + j) = _
      rw [up_n (by omega), hl _ (by omega)]
      exact hPq j hj) hlr
  rw [e] at hLQ
  have hD := RG.dead (M' := L) hLQ a1 (if_pos ⟨rfl, rfl⟩) (fun x hx => by
    show L.1 x = upd L.1 (317 + 10 * a) (M.1 (317 + 10 * a)) x
    rw [up_n (by omega)]) rfl
  refine ⟨_, L, _, _, _, _, _, _, _, _, hX, ?_, hD.eE (fun x => ⟨fun z => ?_, fun z => Or.inr ?_⟩), hl1⟩
  · exact (cancels_open (M := (p0, M.2)) ((hM0 _ (by omega)).trans hQ.2.2.1)).trans (e11.trans e58)
  · have := z.resolve_left (fun y => y)
    omega
  · omega
end AQ
