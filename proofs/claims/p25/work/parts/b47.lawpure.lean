/-! what the law asks, of its two objects -/
set_option maxRecDepth 100000 in
theorem i0_E : ∀ c, c < 6 → ∀ j, j < 14 → (initS.1 1).2 c j = nI (if j = 7 then 200 else 0) := by decide +kernel
theorem J.init (B : Nat → Nat → Nat) : J 0 svF o0 0 (B, fun _ => initS, 0) := by
  obtain ⟨d1, d2, d3, d4, d5, d6, d7, d8, d9, d10, d11, d12⟩ := i0_D
  obtain ⟨r1, r2, r3, r4, r5, r6, r7, r8⟩ := i0_R
  have f16 : ∀ i, i < 4 → svF i ≤ 16 := by decide
  refine ⟨⟨⟨initM, rel_0 B⟩, fun i hi => ⟨(i0_V.1.2 i hi).1, f16 i hi⟩, initS.2 15 + initS.2 16 + pnd (initS.1 7), ⟨?_, i0_T.1, fun c hc => ?_, fun i hi => ?_⟩, rfl, fun w hw _ => (i0_W w hw).2.1, fun w hw _ => (i0_W w hw).2.2.2⟩, d1, fun i hi => (i0_V.2.2 i hi).1, d3, fun w hw => ⟨(i0_W w hw).2.1, (i0_W w hw).2.2.2⟩, r3, r5⟩
  · show (initS.1 5).1 ≤ 16
    omega
  · have ea : alv (initS.1 5) c = 0 := by
      unfold alv
      rw [r1]
      rfl
    have eu : und (initS.1 5) c = 0 := by
      unfold und
      rw [r1]
      rfl
    refine ⟨fun j => if j = 7 then 200 else 0, i0_E c hc, ?_, ?_, rfl, ⟨by decide, Nat.zero_le _⟩, 20, (i0_C.2 c hc 10 (by omega)).1, by omega, by decide⟩
    · show 0 = 0 + 0 + alv (initS.1 5) c
      rw [ea]
    · show 0 + 0 = 0 + 0 + 0 + 0 + und (initS.1 5) c
      rw [eu]
  · exact absurd (show i < (initS.1 5).1 from hi) (by omega)
theorem Iv.req {n : Nat} {sv : N1} {X : RS} (hn : n < 512) (h : Iv n sv X) : fL_requests X = some 1 := by
  obtain ⟨⟨M, hr⟩, hv, w0, hx⟩ := h
  obtain ⟨F, t0, K, cl, sg, sv', sw, nr, r, N, nq, nb, qs, ws, fb, gb, at_, ow, hg, hK, ht, hN⟩ := hr.rg hn
  exact requests_1 hg hN ht hx.1
theorem Iv.bounds {n : Nat} {sv : N1} {X : RS} (hn : n < 512) (h : Iv n sv X) : (∃ a, fX5_told (3 : Int32) X = some (nI a) ∧ a ≤ sv 1) ∧ ∃ a, fX5_told (4 : Int32) X = some (nI a) ∧ a ≤ sv 3 := by
  obtain ⟨⟨M, hr⟩, hv, w0, hx⟩ := h
  obtain ⟨F, t0, K, cl, sg, sv', sw, nr, r, N, nq, nb, qs, ws, fb, gb, at_, ow, hg, hK, ht, hN⟩ := hr.rg hn
  obtain ⟨hC, hS, hV, hW, hH⟩ := hg.1
  obtain ⟨hA, hQ, hF, hB, hG, hU⟩ := hg.2.2.2.2.1
  have e1 : sv' 1 = sv 1 := by
    have hm := mxS_16 1 (by omega)
    have := hV.2.1 1 (by omega)
    have h1 := hv 1 (by omega)
    exact (nI_eq (by omega) (by omega)).mp (this.1.symm.trans h1.1)
  have e3 : sv' 3 = sv 3 := by
    have hm := mxS_16 3 (by omega)
    have := hV.2.1 3 (by omega)
    have h1 := hv 3 (by omega)
    exact (nI_eq (by omega) (by omega)).mp (this.1.symm.trans h1.1)
  refine ⟨⟨nq, ?_, by rw [← e1]; exact hV.2.2.1⟩, nb, ?_, by rw [← e3]; exact hV.2.2.2⟩
  · rw [told_3, sz6 rfl hQ]
  · rw [told_4, sz8 hB.1 hB.2.1]
theorem Rel.up {n : Nat} {X : RS} {M : MS} (h : Rel n X M) : ∀ k, Rel (n + k) X M
  | 0 => h
  | k + 1 => (Rel.up h k).mono
theorem i32_tel (a b c : Int32) : a - b + (c - a) = c - b := by
  rw [Int32.sub_eq_add_neg, Int32.sub_eq_add_neg, Int32.sub_eq_add_neg, Int32.add_comm a (-b), Int32.add_assoc, ← Int32.add_assoc a, Int32.add_comm a c, Int32.add_assoc c, Int32.add_right_neg, Int32.add_zero, Int32.add_comm]
/-- a run of so many ticks from it -/
theorem Iv.run {n k : Nat} {sv : N1} {Y : RS} {S' : StS} (hn : n + k < 512) (h : Iv n sv Y) (k1 : 1 ≤ k) (k2 : k ≤ 60) (hp : pS k (Y.2.1 0) S') : ∃ Y', fX5_run (nI k) Y = some (ssum 1 S' 2 - ssum 1 (Y.2.1 0) 2, Y') ∧ Y'.2.1 0 = S' ∧ Iv (n + k) sv Y' := by
  obtain ⟨m, m1, m2⟩ := h.rec
  obtain ⟨Y', m', y1, y2, -⟩ := run_val m1 m2 k1 k2 hp
  obtain ⟨X', z1, z2, -⟩ := h.runs k hn
  obtain rfl := z1.det k hp
  obtain ⟨⟨M, hr⟩, -, -⟩ := h
  obtain ⟨q, r, q1, q2, q3, q4⟩ := run_rel n Y M (by omega) hr (nI k)
  obtain rfl := Option.some.inj (q1.symm.trans y1)
  obtain ⟨-, hv, w0, hx⟩ := z2
  refine ⟨Y', y1, y2, ⟨r.2, ?_⟩, by rw [y2]; exact hv, w0, by rw [y2]; exact hx⟩
  have := q4.up (k - 1)
  rw [show n + 1 + (k - 1) = n + k by omega] at this
  exact this
theorem amp_eq {X Y : RS} (e : Y.2.1 0 = X.2.1 0) : fX5_amplification Y = fX5_amplification X := by
  unfold fX5_amplification bfX5_amplification_34
  rw [e]
theorem Iv.amp {n : Nat} {sv : N1} {X : RS} (hn : n < 512) (h : Iv n sv X) : ∃ v, fX5_amplification X = some v := by
  obtain ⟨⟨M, hr⟩, -, -⟩ := h
  obtain ⟨q, q1, -⟩ := amplification_rel n X M hn hr
  exact ⟨q, q1⟩
theorem run_0 {X : RS} : fX5_run (0 : Int32) X = some (-1, X) := by
  unfold fX5_run bfX5_run_11
  rw [if_pos (by decide)]
theorem run_101 {X : RS} : fX5_run (101 : Int32) X = some (-1, X) := by
  unfold fX5_run bfX5_run_11
  rw [if_neg (by decide), if_neg (by decide)]
