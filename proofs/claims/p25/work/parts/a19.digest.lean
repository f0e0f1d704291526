/-! digest, in both -/
theorem pick {P : Nat → Int32 → Prop} (h : ∀ k, ∃ v, P k v) : ∃ v : Nat → Int32, ∀ k, P k (v k) := ⟨fun k => Classical.choose (h k), fun k => Classical.choose_spec (h k)⟩
theorem pickB {n : Nat} {P : Nat → Int32 → Prop} (h : ∀ k, k < n → ∃ v, P k v) : ∃ v : Nat → Int32, ∀ k, k < n → P k (v k) := by
  refine pick (P := fun k v => k < n → P k v) (fun k => ?_)
  by_cases c : k < n
  · obtain ⟨v, hv⟩ := h k c
    exact ⟨v, fun _ => hv⟩
  · exact ⟨0, fun z => absurd z c⟩
theorem digest_rel : St_digest Rel := by
  intro n X M hn h
  obtain ⟨t0, K0, cl0, sg0, sv0, sw0, t1, t2, hz⟩ := h.cur
  obtain ⟨F, t, K, cl, sg, sv, sw, nr, r, N, nq, nb, qs, ws, fb, gb, at_, ow, hg, hK, ht, hN⟩ := h.rg hn
  have hR := hg.2.2.2.1
  obtain ⟨hA, hQ, hF, hB, hG, hU⟩ := hg.2.2.2.2.1
  have i16 := hR.2.1
  have q16 := hQ.2.1
  have b16 := hB.2.1
  obtain ⟨vt, hvt⟩ := pick (P := fun k v => fX5_told (nI k) X = some v ∧ fX6_told (nI k) M = some v) (fun k => told_rel n X M hn h (nI k))
  obtain ⟨vq, hvq⟩ := pickB (n := nq) (P := fun k v => fX5_queued (0 : Int32) (nI k) X = some v ∧ fX6_ownerOf (M.1 (558 + k)) M = some v) (fun k hk => queued0_eq hg hk)
  obtain ⟨vb, hvb⟩ := pickB (n := nb) (P := fun k v => fX5_queued (1 : Int32) (nI k) X = some v ∧ fX6_ownerOf (M.1 (575 + k)) M = some v) (fun k hk => queued1_eq hg hk)
  obtain ⟨vf, hvf⟩ := pickB (n := 4) (P := fun k v => fX5_atWorker (0 : Int32) (nI k) X = some v ∧ fX6_ownerOf (M.1 (591 + k)) M = some v) (fun k hk => worker0_eq hg hk)
  obtain ⟨vg, hvg⟩ := pickB (n := 4) (P := fun k v => fX5_atWorker (1 : Int32) (nI k) X = some v ∧ fX6_ownerOf (M.1 (595 + k)) M = some v) (fun k hk => worker1_eq hg hk)
  have hvr0 : ∀ i, ∃ v : Nat → Int32, i < nr → ∀ k, k < 5 → fX5_request (nI (r i 0)) (nI k) X = some (v k) ∧ fX6_propertyOf (nI i) (nI k) M = some (v k) := fun i => by
    by_cases c : i < nr
    · obtain ⟨v, hv⟩ := pickB (n := 5) (P := fun k v => fX5_request (nI (r i 0)) (nI k) X = some v ∧ fX6_propertyOf (nI i) (nI k) M = some v) (fun k hk => request_eq hg hN c hk)
      exact ⟨v, fun _ => hv⟩
    · exact ⟨fun _ => 0, fun z => absurd z c⟩
  have hvr1 : ∃ vr : Nat → Nat → Int32, ∀ i, i < nr → ∀ k, k < 5 → fX5_request (nI (r i 0)) (nI k) X = some (vr i k) ∧ fX6_propertyOf (nI i) (nI k) M = some (vr i k) := ⟨fun i => Classical.choose (hvr0 i), fun i => Classical.choose_spec (hvr0 i)⟩
  obtain ⟨vr, hvr⟩ := hvr1
  obtain ⟨am, am1, am2⟩ := amplification_rel n X M hn h
  have s5 : ssize 5 (X.2.1 0) = nI nr := by
    show nI (tz 16 ((X.2.1 0).1 5)) = _
    rw [tz_n (by rw [hR.1]; exact i16), hR.1]
  have s6 : ssize 6 (X.2.1 0) = nI nq := sz6 rfl hQ
  have s8 : ssize 8 (X.2.1 0) = nI nb := sz8 hB.1 hB.2.1
  -- the class
  have eS : ∀ H : Int64, fX5_hashOfServer H (nI nq) (nI nb) X = some (hf vg (hf vf (hf vb (hf vq H nq) nb) 4) 4) := fun H => by
    have a1 := hs6 (X := X) (v := vq) (h := H) (p1 := H) (p3 := nI nb) q16 (fun k hk => (hvq k hk).1) nq 0 FU (by omega) (by unfold FU; omega)
    have a2 := hs38 (X := X) (v := vb) (h := hf vq H nq) (p1 := H) (p2 := nI nq) b16 (fun k hk => (hvb k hk).1) nb 0 FU (by omega) (by unfold FU; omega)
    have a3 := hs71 (X := X) (v := vf) (h := hf vb (hf vq H nq) nb) (p1 := H) (p2 := nI nq) (p3 := nI nb) (fun k hk => (hvf k hk).1) 4 0 FU (by omega) (by unfold FU; omega)
    have a4 := hs103 (X := X) (v := vg) (h := hf vf (hf vb (hf vq H nq) nb) 4) (p1 := H) (p2 := nI nq) (p3 := nI nb) (fun k hk => (hvg k hk).1) 4 0 FU (by omega) (by unfold FU; omega)
    exact a1.trans (a2.trans (a3.trans a4))
  have eX : fX5_digest X = some ((31 : Int64) * hf vg (hf vf (hf vb (hf vq (hrq (fun i => nI (r i 0)) vr (hcl M.1 (hf vt 18520 13) 6) nr) nq) nb) 4) 4 + am.toInt64) := by
    have a1 := dg6_X (X := X) (v := vt) (h := (18520 : Int64)) (fun k _ => (hvt k).1) 13 0 FU (by omega) (by unfold FU; omega)
    have a2 := hc5 (X := X) (p := M.1) (h := hf vt 18520 13) (p1 := hf vt 18520 13) (fun c w hc hw => property_X hz hc hw) (fun c w hc hw => count_X hz hc hw) (fun c w hc hw => succ_X hz hc hw) 6 0 FU (by omega) (by unfold FU; omega)
    have a3 := dg39 (X := X) (vr := vr) (nu := fun i => nI (r i 0)) (h := hcl M.1 (hf vt 18520 13) 6) i16 s5 (fun i hi => live_X hg hi) (fun i k hi hk => (hvr i hi k hk).1) nr 0 FU (by omega) (by unfold FU; omega)
    refine a1.trans ?_
    rw [show fX5_hashOfClients (hf vt 18520 13) X = some (hcl M.1 (hf vt 18520 13) 6) from a2, ob_eq]
    refine a3.trans ?_
    rw [s6, s8, eS, ob_eq, am1, ob_eq]
  -- the reference
  have eM : fX6_digest M = some ((31 : Int64) * hf vg (hf vf (hf vb (hf vq (hrq (fun i => nI (r i 0)) vr (hcl M.1 (hf vt 18520 13) 6) nr) nq) nb) 4) 4 + am.toInt64) := by
    have a1 := dg6_M (M := M) (v := vt) (h := (18520 : Int64)) (fun k _ => (hvt k).2) 13 0 FU (by omega) (by unfold FU; omega)
    have a2 := dg33 (M := M) (h := hf vt 18520 13) 6 0 FU (by omega) (by unfold FU; omega)
    have a3 := dg54 (M := M) (vr := vr) (nu := fun i => nI (r i 0)) (h := hcl M.1 (hf vt 18520 13) 6) i16 hR.2.2.1 (fun i hi => (hR.2.2.2.1 i 0 hi (by omega)).2) (fun i k hi hk => (hvr i hi k hk).2) nr 0 FU (by omega) (by unfold FU; omega)
    have a4 := dg124 (M := M) (v := vq) (h := hrq (fun i => nI (r i 0)) vr (hcl M.1 (hf vt 18520 13) 6) nr) q16 hQ.2.2.1 (fun k hk => (hvq k hk).2) nq 0 FU (by omega) (by unfold FU; omega)
    have a5 := dg166 (M := M) (v := vb) (h := hf vq (hrq (fun i => nI (r i 0)) vr (hcl M.1 (hf vt 18520 13) 6) nr) nq) b16 hB.2.2.1 (fun k hk => (hvb k hk).2) nb 0 FU (by omega) (by unfold FU; omega)
    have a6 := dg208 (M := M) (v := vf) (h := hf vb (hf vq (hrq (fun i => nI (r i 0)) vr (hcl M.1 (hf vt 18520 13) 6) nr) nq) nb) (fun k hk => (hvf k hk).2) 4 0 FU (by omega) (by unfold FU; omega)
    have a7 := dg243 (M := M) (v := vg) (h := hf vf (hf vb (hf vq (hrq (fun i => nI (r i 0)) vr (hcl M.1 (hf vt 18520 13) 6) nr) nq) nb) 4) (fun k hk => (hvg k hk).2) 4 0 FU (by omega) (by unfold FU; omega)
    refine a1.trans (a2.trans (a3.trans (a4.trans (a5.trans (a6.trans (a7.trans ?_))))))
    rw [am2, ob_eq]
  exact ⟨_, eX, eM⟩
