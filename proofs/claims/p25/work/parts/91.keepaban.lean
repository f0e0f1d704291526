/-! an attempt is abandoned, and taken away where that is switched on, in both -/
section AM
variable {F : Fx} {E Zf Zb : Nat → Prop} {t K lo wl : Nat} {cl sg : N2} {sv sw : N1} {nr : Nat} {r : N2} {N nq nb : Nat} {qs ws fb gb : N1} {at_ : N2} {ow : N1} {S S' : StS} {M M' : MS}
theorem find8_some (h : RG F E Zf Zb t K lo wl cl sg sv sw nr r N nq nb qs ws fb gb at_ ow S M) {j w : Nat} (hw : w < 4) (hj : j < nb) (e : fb j = w) : sfind 8 S (0 : Int32) (nI w) = nI j := by
  obtain ⟨b1, b2, b3, b4, b5⟩ := h.2.2.2.2.1.2.2.2.1
  refine tf_some (w := 1) (rows := 16) (j := 0) (by omega) (by omega) (by omega) (by omega) (by omega) ?_ (fun k hk => ?_)
  · rw [(b4 j hj).2.1, e]
  · rw [(b4 k (by omega)).2.1]
    intro z
    have := (nI_eq (by have := (b4 k (by omega)).1; omega) (by omega)).mp z
    have := b5 k j (by omega) hj (by omega)
    omega
theorem find8_none (h : RG F E Zf Zb t K lo wl cl sg sv sw nr r N nq nb qs ws fb gb at_ ow S M) {w : Nat} (hw : w < 4) (e : ∀ j, j < nb → fb j ≠ w) : sfind 8 S (0 : Int32) (nI w) = -9 := by
  obtain ⟨b1, b2, b3, b4, b5⟩ := h.2.2.2.2.1.2.2.2.1
  refine tf_none (w := 1) (rows := 16) (j := 0) (by omega) (by omega) (by omega) (by omega) (fun k hk => ?_)
  rw [(b4 k (by omega)).2.1]
  intro z
  exact e k (by omega) ((nI_eq (by have := (b4 k (by omega)).1; omega) (by omega)).mp z)
theorem gb_le (h : RG F E Zf Zb t K lo wl cl sg sv sw nr r N nq nb qs ws fb gb at_ ow S M) {v : Nat} (hv : v < 4) : gb v ≤ 4 := by
  obtain ⟨g1, g2, g3, g4⟩ := h.2.2.2.2.1.2.2.2.2.1
  by_cases e : gb v = 0
  · omega
  · have := ((g2 v hv).2.2 (gb v - 1) (by omega)).1
    omega
theorem find9_some (h : RG F E Zf Zb t K lo wl cl sg sv sw nr r N nq nb qs ws fb gb at_ ow S M) {v w : Nat} (hw : w < 4) (hv : v < 4) (e : gb v = w + 1) : sfind 9 S (0 : Int32) (nI w) = nI v := by
  obtain ⟨g1, g2, g3, g4⟩ := h.2.2.2.2.1.2.2.2.2.1
  refine tf_some (w := 1) (rows := 4) (j := 0) (by omega) (by omega) (by omega) (by omega) (by omega) ?_ (fun k hk => ?_)
  · rw [(g2 v hv).1, e]
    rfl
  · rw [(g2 k (by omega)).1]
    intro z
    have h1 := gb_le h (v := k) (by omega)
    have h2 := wsI_nI (by omega) (by omega) z
    have := g3 k v (by omega) hv (by omega) (by omega)
    omega
theorem find9_none (h : RG F E Zf Zb t K lo wl cl sg sv sw nr r N nq nb qs ws fb gb at_ ow S M) {w : Nat} (hw : w < 4) (e : ∀ v, v < 4 → gb v ≠ w + 1) : sfind 9 S (0 : Int32) (nI w) = -9 := by
  obtain ⟨g1, g2, g3, g4⟩ := h.2.2.2.2.1.2.2.2.2.1
  refine tf_none (w := 1) (rows := 4) (j := 0) (by omega) (by omega) (by omega) (by omega) (fun k hk => ?_)
  rw [(g2 k (by omega)).1]
  intro z
  have h1 := gb_le h (v := k) (by omega)
  exact e k (by omega) (wsI_nI (by omega) (by omega) z)
theorem sdrop_out {k : Nat} {x : Int32} (h : x < 0) : sdrop k S x = S := by
  unfold sdrop
  rw [td_out h, ss_id]
theorem sput_out {k : Nat} {x c v : Int32} (h : x < 0) : sput k S x c v = S := by
  unfold sput
  rw [tp_out h, ss_id]
theorem sp6 {k c : Nat} {z : Int32} (h : k < (S.1 6).1) (hk : k < 16) (hc : c < 6) : sput 6 S (nI k) (nI c) z = sset S 6 ((S.1 6).1, fup (S.1 6).2 k c z) := by
  show sset S 6 (tput 6 16 (S.1 6) (nI k) (nI c) z) = _
  rw [tp h hk hc (by omega) (by omega)]
/-- no worker has it -/
theorem pcw_id {p : Pg} {a : Nat} (h : ∀ x, 591 ≤ x → x < 599 → p x ≠ nI a) : pcw p a 4 = p := by
  funext x
  unfold pcw
  rw [if_neg (fun z => h x (by omega) (by omega) z.2)]
theorem pcw_out {p : Pg} {a x : Nat} (h : x < 591 ∨ 599 ≤ x) : pcw p a 4 x = p x := by
  unfold pcw
  rw [if_neg (by omega)]
theorem pcw_hit {p : Pg} {a x : Nat} (h1 : 591 ≤ x) (h2 : x < 599) (h : p x = nI a) : pcw p a 4 x = -9 := by
  unfold pcw
  rw [if_pos ⟨by omega, h⟩]
theorem pcw_miss {p : Pg} {a x : Nat} (h : p x ≠ nI a) : pcw p a 4 x = p x := by
  unfold pcw
  rw [if_neg (fun z => h z.2)]
/-- which cells of the workers hold a -/
theorem wcell (h : RG F E Zf Zb t K lo wl cl sg sv sw nr r N nq nb qs ws fb gb at_ ow S M) {a x : Nat} (ha : a < 24) (h1 : 591 ≤ x) (h2 : x < 599) (e : M.1 x = nI a) : ∃ w, w < 4 ∧ ws w = a + 1 ∧ (x = 591 + w ∨ ∃ v, v < 4 ∧ x = 595 + v ∧ gb v = w + 1) := by
  obtain ⟨hA, hQ, hF, hB, hG, hU⟩ := h.2.2.2.2.1
  by_cases c : x < 595
  · obtain ⟨w, rfl⟩ : ∃ w, x = 591 + w := ⟨x - 591, by omega⟩
    obtain ⟨c1, c2, c3⟩ := hF.2 w (by omega)
    rw [c1] at e
    have hb : ws w ≤ 24 := by
      by_cases z : ws w = 0
      · omega
      · have := (c3 (ws w - 1) (by omega)).1
        omega
    exact ⟨w, by omega, wsI_nI (by omega) (by omega) e, Or.inl rfl⟩
  · obtain ⟨v, rfl⟩ : ∃ v, x = 595 + v := ⟨x - 595, by omega⟩
    obtain ⟨c1, c2, c3⟩ := hG.2.1 v (by omega)
    by_cases z : gb v = 0
    · rw [c2 z] at e
      exact absurd e.symm (nI_neg (by omega) (by decide))
    · obtain ⟨f, ef⟩ : ∃ f, gb v = f + 1 := ⟨gb v - 1, by omega⟩
      obtain ⟨f4, b, b1, b2, -⟩ := c3 f ef
      rw [b2] at e
      have hb24 := ((hF.2 f f4).2.2 b b1).1
      have := (nI_eq (by omega) (by omega)).mp e
      exact ⟨f, f4, by omega, Or.inr ⟨v, by omega, rfl, ef⟩⟩
theorem upd_back {p : Pg} {c : Nat} {z : Int32} : upd (upd p c z) c (p c) = p := by
  funext x
  by_cases e : x = c
  · rw [up_s e, e]
  · rw [up_n e, up_n e]
theorem aban_keep (h : RG F (fun _ => False) Zf Zb t K lo wl cl sg sv sw nr r N nq nb qs ws fb gb at_ ow S M) (hNb : N < 2 ^ 30) {i : Nat} (hi : i < nr) (h4 : r i 4 = 0) (h5 : r i 5 ≤ t) (hs : sw 2 = 0) : ∃ S1 ow', fX1_abandon (nI (r i 0)) S = some S1 ∧ RG F (fun x => x = r i 0) Zf Zb t K lo wl cl sg sv sw nr r N nq nb qs ws fb gb at_ ow' S1 (upd M.1 (317 + 10 * r i 7) (-8), M.2) := by
  obtain ⟨hA, hQ, hF, hB, hG, hU⟩ := h.2.2.2.2.1
  have hL := h.2.2.2.2.2.1.1 i hi h4 (fun z => z)
  have hW := h.1.2.2.2.1
  have ew : sget 4 S (2 : Int32) (0 : Int32) = nI (sw 2) := (tg (w := 1) (rows := 3) (T := S.1 4) (i := 2) (j := 0) (by rw [hW.1]; decide) (by omega) (by omega) (by omega) (by omega)).trans (hW.2 2 (by omega)).1
  have hab : ∀ S1 : StS, (S1.1 6).1 = (S.1 6).1 ∧ (∀ k j, j ≠ 0 → (S1.1 6).2 k j = (S.1 6).2 k j) ∧ (∀ k, k < nq → (qs k = r i 7 → (S1.1 6).2 k 0 = -8) ∧ (qs k ≠ r i 7 → (S1.1 6).2 k 0 = (S.1 6).2 k 0)) → (S1.1 7).1 = (S.1 7).1 ∧ (∀ k j, j ≠ 0 → (S1.1 7).2 k j = (S.1 7).2 k j) ∧ (∀ w, w < 4 → (ws w = r i 7 + 1 → (S1.1 7).2 w 0 = -8) ∧ (ws w ≠ r i 7 + 1 → (S1.1 7).2 w 0 = (S.1 7).2 w 0)) → (∀ k, k ≠ 6 → k ≠ 7 → S1.1 k = S.1 k) → S1.2 = S.2 → RG F (fun x => x = r i 0) Zf Zb t K lo wl cl sg sv sw nr r N nq nb qs ws fb gb at_ (o1 ow (r i 7) 0) S1 (upd M.1 (317 + 10 * r i 7) (-8), M.2) := fun S1 s6 s7 sk s2 => (RG.aban (M' := (upd M.1 (317 + 10 * r i 7) (-8), M.2)) h hi h4 (fun z => z) h5 rfl s6 s7 sk s2 (fun x hx => up_n hx) (by dsimp only; exact up_s rfl) rfl).eE (fun x => ⟨fun z => z.resolve_left (fun y => y), Or.inr⟩)
  unfold fX1_abandon
  rcases hU.2.2.2 _ hL.1 hL.2.1 with ⟨k, hk, e⟩ | ⟨w, hw, e⟩
  · rw [find6_some h hNb hi h4 (fun z => z) hk e, nm, find7_none h hNb hi (fun w hw z => hU.2.2.1 k w hk hw (by rw [z, e])), nm, ew, hs, if_pos (show nI 0 = (0 : Int32) from rfl), nm, nm]
    refine ⟨_, o1 ow (r i 7) 0, rfl, ?_⟩
    have e6 : (sput 6 S (nI k) (0 : Int32) (-8 : Int32)).1 6 = ((S.1 6).1, fup (S.1 6).2 k 0 (-8)) := by
      rw [show sput 6 S (nI k) (0 : Int32) (-8 : Int32) = _ from sp6 (c := 0) (by rw [hQ.1]; exact hk) (by have := hQ.2.1; omega) (by omega), ss_s]
    rw [sput_out (by decide)]
    refine hab _ ⟨by rw [e6], fun k' j hj => by rw [e6]; exact fup_c hj, fun k' hk' => ⟨fun z => ?_, fun z => ?_⟩⟩ ⟨by rw [sput_n (by omega)], fun _ _ _ => by rw [sput_n (by omega)], fun w hw => ⟨fun z => ?_, fun _ => by rw [sput_n (by omega)]⟩⟩ (fun k' h6 _ => sput_n h6) rfl
    · rw [e6]
      exact fup_s (hU.1 k' k hk' hk (by rw [z, e])) rfl
    · rw [e6]
      exact fup_r (fun y => z (by rw [y, e]))
    · exact absurd (by rw [z, e]) (hU.2.2.1 k w hk hw)
  · rw [find6_none h hNb hi (fun k hk z => hU.2.2.1 k w hk hw (by rw [e, z])), nm, find7_some h hNb hi h4 (fun z => z) hw e, nm, ew, hs, if_pos (show nI 0 = (0 : Int32) from rfl), sput_out (by decide), nm, nm]
    refine ⟨_, o1 ow (r i 7) 0, rfl, ?_⟩
    have e7 : (sput 7 S (nI w) (0 : Int32) (-8 : Int32)).1 7 = (4, fup (S.1 7).2 w 0 (-8)) := by
      rw [show sput 7 S (nI w) (0 : Int32) (-8 : Int32) = _ from sp7 (c := 0) hF.1 hw (by omega), ss_s]
    refine hab _ ⟨by rw [sput_n (by omega)], fun _ _ _ => by rw [sput_n (by omega)], fun k hk => ⟨fun z => ?_, fun _ => by rw [sput_n (by omega)]⟩⟩ ⟨by rw [e7, hF.1], fun k' j hj => by rw [e7]; exact fup_c hj, fun v hv => ⟨fun z => ?_, fun z => ?_⟩⟩ (fun k' _ h7 => sput_n h7) rfl
    · exact absurd (by rw [e, z]) (hU.2.2.1 k w hk hw)
    · rw [e7]
      exact fup_s (hU.2.1 v w hv hw (by omega) (by rw [z, e])) rfl
    · rw [e7]
      exact fup_r (fun y => z (by rw [y, e]))
end AM
