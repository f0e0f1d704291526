/-! what is told of requests, queues and workers, in both -/
theorem tg_ge {w rows : Nat} {T : Tb} {a c : Int32} (h1 : T.1 ≤ rows) (hr : rows ≤ 64) (h : nI T.1 ≤ a) : tget w rows T a c = -9 := by
  unfold tget
  rw [tz_n h1, if_neg (fun q => okI_ge (by omega) h q.1)]
section RQ
variable {F : Fx} {t K lo wl : Nat} {cl sg : N2} {sv sw : N1} {nr : Nat} {r : N2} {N nq nb : Nat} {qs ws fb gb : N1} {at_ : N2} {ow : N1} {S : StS} {M M0 : MS} {Zf Zb : Nat → Prop}
theorem live_X {X : RS} (h : RG F (fun _ => False) Zf Zb t K lo wl cl sg sv sw nr r N nq nb qs ws fb gb at_ ow (X.2.1 0) M0) {i : Nat} (hi : i < nr) : fX5_live (nI i) X = some (nI (r i 0)) := by
  have i16 := h.2.2.2.1.2.1
  unfold fX5_live bfX5_live_20
  rw [if_pos (nI_pos' (by omega)), show sget 5 (X.2.1 0) (nI i) (0 : Int32) = nI (r i 0) from gR.get rfl h.2.2.2.1 hi (j := 0) (by omega)]
theorem place_X (h : RG F (fun _ => False) Zf Zb t K lo wl cl sg sv sw nr r N nq nb qs ws fb gb at_ ow S M0) (hNb : N < 2 ^ 30) {i : Nat} (hi : i < nr) : fX2_placeOf (nI (r i 0)) S = some (if r i 4 = 1 then 0 else nI (at_ (r i 7) 7)) := by
  obtain ⟨hA, hQ, hF, hB, hG, hU⟩ := h.2.2.2.2.1
  have h41 := (h.2.2.2.1.2.2.2.2.2 i hi).2.2.2.2.1
  unfold fX2_placeOf bfX2_placeOf_45
  by_cases c : r i 4 = 1
  · have hno : ∀ b, b < 24 → at_ b 9 = 1 → ow b ≠ r i 0 + 1 := fun b hb hu e => by
      rcases (h.2.2.2.2.2.1.2 b hb hu).2 with ⟨z, -⟩ | ⟨k, k1, k2, k3, -⟩
      · omega
      · have := h.2.2.2.1.ne k1 hi (by omega)
        rw [this] at k3
        omega
    have hne : ∀ b, b < 24 → at_ b 9 = 1 → owI (ow b) ≠ nI (r i 0) := fun b hb hu e => by
      have h1 := (h.owner hb hu).1
      have h2 := (h.2.2.2.1.2.2.2.2.2 i hi).1
      exact hno b hb hu (owI_nI (by omega) (by omega) e)
    have e6 : sfind 6 S (0 : Int32) (nI (r i 0)) = -9 := by
      refine tf_none (w := 6) (rows := 16) (j := 0) (by have := hQ.1; have := hQ.2.1; omega) (by omega) (by omega) (by omega) (fun k hk => ?_)
      obtain ⟨-, z1, z2, ⟨z3, -⟩, -⟩ := hQ.2.2.2 k (by have := hQ.1; omega)
      rw [z3]
      exact hne _ z1 z2
    have e7 : sfind 7 S (0 : Int32) (nI (r i 0)) = -9 := by
      have h2 := (h.2.2.2.1.2.2.2.2.2 i hi).1
      refine tf_none (w := 6) (rows := 4) (j := 0) (by have := hF.1; omega) (by omega) (by omega) (by omega) (fun v hv => ?_)
      obtain ⟨-, z1, z2⟩ := hF.2 v (by have := hF.1; omega)
      by_cases e : ws v = 0
      · rw [z1 e]
        exact fun y => nI_neg (by omega) (by decide) y.symm
      · obtain ⟨b, eb⟩ : ∃ b, ws v = b + 1 := ⟨ws v - 1, by omega⟩
        obtain ⟨y1, y2, -, ⟨y3, -⟩, -⟩ := z2 b eb
        rw [y3]
        exact hne _ y1 y2
    rw [e6, if_pos rfl, e7, nm, if_pos rfl, if_pos c]
  · have h4 : r i 4 = 0 := by omega
    rw [if_neg c]
    obtain ⟨a1, a2, a3, a4, a5⟩ := h.2.2.2.2.2.1.1 i hi h4 (fun z => z)
    rcases hU.2.2.2 _ a1 a2 with ⟨k, hk, e⟩ | ⟨w, hw, e⟩
    · have q16 := hQ.2.1
      rw [find6_some h hNb hi h4 (fun z => z) hk e, if_neg (nI_neg (by omega) (by decide))]
      have := (hQ.2.2.2 k hk).2.2.2.2.2.2.2.2.2.2
      rw [e] at this
      rw [this]
      rfl
    · rw [find6_none h hNb hi (fun k hk z => hU.2.2.1 k w hk hw (by rw [e, z])), if_pos rfl, find7_some h hNb hi h4 (fun z => z) hw e, nm, if_neg (nI_neg (by omega) (by decide))]
      rw [show sget 7 S (nI w) (5 : Int32) = (S.1 7).2 w 5 from sg7 hF.1 hw (c := 5) (by omega), ((hF.2 w hw).2.2 _ e).2.2.2.1.2.2.2.2.2]
theorem request_eq {X : RS} (h : RG F (fun _ => False) Zf Zb t K lo wl cl sg sv sw nr r N nq nb qs ws fb gb at_ ow (X.2.1 0) M) (hNb : N < 2 ^ 30) {i k : Nat} (hi : i < nr) (hk : k < 5) : ∃ v, fX5_request (nI (r i 0)) (nI k) X = some v ∧ fX6_propertyOf (nI i) (nI k) M = some v := by
  have hR := h.2.2.2.1
  have i16 := hR.2.1
  have e : fX5_request (nI (r i 0)) (nI k) X = (if nI k = (0 : Int32) then some (nI (r i 1)) else (if nI k = (1 : Int32) then some (nI (r i 2)) else (if nI k = (2 : Int32) then some (nI (r i 3)) else (if nI k = (3 : Int32) then ob (fX2_placeOf (nI (r i 0)) (X.2.1 0)) fun u4 => some u4 else some (nI (r i 5)))))) := by
    unfold fX5_request
    rw [if_neg (nI_pos (by omega)), if_pos (show nI k ≤ (4 : Int32) from nI_le (b := 4) (by omega) (by omega)), gR.find (S := X.2.1 0) rfl hR (by omega) hi, nm, if_neg (nI_neg (by omega) (by decide)), show sget 5 (X.2.1 0) (nI i) (1 : Int32) = nI (r i 1) from gR.get rfl hR hi (j := 1) (by omega), show sget 5 (X.2.1 0) (nI i) (2 : Int32) = nI (r i 2) from gR.get rfl hR hi (j := 2) (by omega), show sget 5 (X.2.1 0) (nI i) (3 : Int32) = nI (r i 3) from gR.get rfl hR hi (j := 3) (by omega), show sget 5 (X.2.1 0) (nI i) (5 : Int32) = nI (r i 5) from gR.get rfl hR hi (j := 5) (by omega)]
  have pj : ∀ j, j < 7 → M.1 (189 + 8 * i + j) = nI (r i j) := fun j hj => (hR.2.2.2.1 i j hi hj).2
  rw [e]
  unfold fX6_propertyOf bfX6_propertyOf_116
  match k, hk with
  | 0, _ =>
    refine ⟨nI (r i 1), by rw [if_pos (by decide)], ?_⟩
    rw [if_pos (by decide), row_eq, ob_eq, nA_1, if_pos (okI_nI (by omega) (by decide)), nI_clamp (by omega), pj 1 (by omega)]
  | 1, _ =>
    refine ⟨nI (r i 2), by rw [if_neg (by decide), if_pos (by decide)], ?_⟩
    rw [if_neg (by decide), if_pos (by decide), row_eq, ob_eq, nA_2, if_pos (okI_nI (by omega) (by decide)), nI_clamp (by omega), pj 2 (by omega)]
  | 2, _ =>
    refine ⟨nI (r i 3), by rw [if_neg (by decide), if_neg (by decide), if_pos (by decide)], ?_⟩
    rw [if_neg (by decide), if_neg (by decide), if_pos (by decide), row_eq, ob_eq, nA_3, if_pos (okI_nI (by omega) (by decide)), nI_clamp (by omega), pj 3 (by omega)]
  | 3, _ =>
    refine ⟨if r i 4 = 1 then 0 else nI (at_ (r i 7) 7), ?_, ?_⟩
    · rw [if_neg (by decide), if_neg (by decide), if_neg (by decide), if_pos (by decide), place_X h hNb hi, ob_eq]
    · have h41 := (hR.2.2.2.2.2 i hi).2.2.2.2.1
      rw [if_neg (by decide), if_neg (by decide), if_neg (by decide), if_pos (by decide), row_eq, ob_eq, nA_4, if_pos (okI_nI (by omega) (by decide)), nI_clamp (by omega)]
      by_cases c : r i 4 = 1
      · rw [if_pos (show M.1 (189 + 8 * i + 4) = 1 by rw [pj 4 (by omega), c]; rfl), if_pos c]
      · have h4 : r i 4 = 0 := by omega
        obtain ⟨a1, a2, a3, a4, a5⟩ := h.2.2.2.2.2.1.1 i hi h4 (fun z => z)
        rw [if_neg (show ¬ M.1 (189 + 8 * i + 4) = 1 by rw [pj 4 (by omega), h4]; decide), if_neg c, ob_eq, nA_7, if_pos (okI_nI (by omega) (by decide)), nI_clamp (by omega), a4, slot_eq, ob_eq, nA_7, if_pos (okI_nI (by omega) (by decide)), nI_clamp (by omega), ((h.2.2.2.2.1.1 _ a1).2.2 a2).2 7 (by omega) (by omega)]
  | 4, _ =>
    refine ⟨nI (r i 5), by rw [if_neg (by decide), if_neg (by decide), if_neg (by decide), if_neg (by decide)], ?_⟩
    rw [if_neg (by decide), if_neg (by decide), if_neg (by decide), if_neg (by decide), row_eq, ob_eq, nA_5, if_pos (okI_nI (by omega) (by decide)), nI_clamp (by omega), pj 5 (by omega)]
  | k + 5, hk => exact absurd hk (by omega)
theorem owner_M {a : Nat} (h : RG F (fun _ => False) Zf Zb t K lo wl cl sg sv sw nr r N nq nb qs ws fb gb at_ ow S M) (ha : a < 24) (hu : at_ a 9 = 1) : fX6_ownerOf (nI a) M = some (owI (ow a)) := by
  unfold fX6_ownerOf bfX6_ownerOf_23
  rw [if_neg (nI_neg (by omega) (by decide)), slot_eq, ob_eq, nA_0, Nat.add_zero, if_pos (okI_nI (by omega) (by decide)), nI_clamp (by omega), ((h.2.2.2.2.1.1 a ha).2.2 hu).1]
theorem owner_none (M : MS) : fX6_ownerOf (-9 : Int32) M = some (-9) := by
  unfold fX6_ownerOf bfX6_ownerOf_23
  rw [if_pos rfl]
theorem queued0_eq {X : RS} (h : RG F (fun _ => False) Zf Zb t K lo wl cl sg sv sw nr r N nq nb qs ws fb gb at_ ow (X.2.1 0) M) {k : Nat} (hk : k < nq) : ∃ v, fX5_queued (0 : Int32) (nI k) X = some v ∧ fX6_ownerOf (M.1 (558 + k)) M = some v := by
  obtain ⟨hA, hQ, hF, hB, hG, hU⟩ := h.2.2.2.2.1
  have q16 := hQ.2.1
  obtain ⟨d1, d2, d3, ⟨d4, -⟩, -⟩ := hQ.2.2.2 k hk
  refine ⟨owI (ow (qs k)), ?_, by rw [d1]; exact owner_M h d2 d3⟩
  unfold fX5_queued bfX5_queued_48
  rw [if_pos (nI_pos' (by omega)), if_pos rfl, show sget 6 (X.2.1 0) (nI k) (0 : Int32) = _ from sg6 (c := 0) (by rw [hQ.1]; exact hk) (by omega) (by omega), d4]
theorem queued1_eq {X : RS} (h : RG F (fun _ => False) Zf Zb t K lo wl cl sg sv sw nr r N nq nb qs ws fb gb at_ ow (X.2.1 0) M) {k : Nat} (hk : k < nb) : ∃ v, fX5_queued (1 : Int32) (nI k) X = some v ∧ fX6_ownerOf (M.1 (575 + k)) M = some v := by
  obtain ⟨hA, hQ, hF, hB, hG, hU⟩ := h.2.2.2.2.1
  have b16 := hB.2.1
  obtain ⟨c1, c2, a, c3, c4, c5⟩ := hB.2.2.2.1 k hk
  obtain ⟨d1, d2, d3, ⟨d4, -⟩, -⟩ := (hF.2 _ c1).2.2 a c3
  refine ⟨owI (ow a), ?_, by rw [c4]; exact owner_M h d1 d2⟩
  unfold fX5_queued bfX5_queued_48
  rw [if_pos (nI_pos' (by omega)), if_neg (by decide), sg8 (by rw [hB.1]; exact hk) (by omega), c2, show sget 7 (X.2.1 0) (nI (fb k)) (0 : Int32) = _ from sg7 hF.1 c1 (c := 0) (by omega), d4]
theorem worker0_eq {X : RS} (h : RG F (fun _ => False) Zf Zb t K lo wl cl sg sv sw nr r N nq nb qs ws fb gb at_ ow (X.2.1 0) M) {w : Nat} (hw : w < 4) : ∃ v, fX5_atWorker (0 : Int32) (nI w) X = some v ∧ fX6_ownerOf (M.1 (591 + w)) M = some v := by
  obtain ⟨hA, hQ, hF, hB, hG, hU⟩ := h.2.2.2.2.1
  obtain ⟨c1, c2, c3⟩ := hF.2 w hw
  unfold fX5_atWorker bfX5_atWorker_38
  rw [if_neg (nI_pos (by omega)), if_pos (show nI w < (4 : Int32) from nI_lt (b := 4) hw (by omega)), if_pos rfl, show sget 7 (X.2.1 0) (nI w) (0 : Int32) = _ from sg7 hF.1 hw (c := 0) (by omega), c1]
  refine ⟨_, rfl, ?_⟩
  by_cases e : ws w = 0
  · rw [c2 e, e]
    exact owner_none M
  · obtain ⟨a, ea⟩ : ∃ a, ws w = a + 1 := ⟨ws w - 1, by omega⟩
    obtain ⟨d1, d2, d3, ⟨d4, -⟩, -⟩ := c3 a ea
    rw [d4, ea]
    exact owner_M h d1 d2
theorem worker1_eq {X : RS} (h : RG F (fun _ => False) Zf Zb t K lo wl cl sg sv sw nr r N nq nb qs ws fb gb at_ ow (X.2.1 0) M) {w : Nat} (hw : w < 4) : ∃ v, fX5_atWorker (1 : Int32) (nI w) X = some v ∧ fX6_ownerOf (M.1 (595 + w)) M = some v := by
  obtain ⟨hA, hQ, hF, hB, hG, hU⟩ := h.2.2.2.2.1
  obtain ⟨c1, c2, c3⟩ := hG.2.1 w hw
  unfold fX5_atWorker bfX5_atWorker_38
  rw [if_neg (nI_pos (by omega)), if_pos (show nI w < (4 : Int32) from nI_lt (b := 4) hw (by omega)), if_neg (by decide), sg9 hG.1 hw, c1]
  refine ⟨_, rfl, ?_⟩
  by_cases e : gb w = 0
  · rw [c2 e, e, show sget 7 (X.2.1 0) (wsI 0) (0 : Int32) = -9 from tg_out (by decide)]
    exact owner_none M
  · obtain ⟨f, ef⟩ : ∃ f, gb w = f + 1 := ⟨gb w - 1, by omega⟩
    obtain ⟨f4, a, a1, a2, -⟩ := c3 f ef
    obtain ⟨d1, d2, d3, ⟨d4, -⟩, -⟩ := (hF.2 f f4).2.2 a a1
    rw [ef, a2, show sget 7 (X.2.1 0) (wsI (f + 1)) (0 : Int32) = _ from sg7 hF.1 f4 (c := 0) (by omega), d4]
    exact owner_M h d1 d2
end RQ
