/-! requests: it answers 1 -/
section RQ
variable {F : Fx} {t K : Nat} {cl sg : N2} {sv sw : N1} {nr : Nat} {r : N2} {N nq nb : Nat} {qs ws fb gb : N1} {at_ : N2} {ow : N1} {X : RS} {M0 : MS} {Zf Zb : Nat → Prop} {lo wl : Nat}
def plc (r at_ : N2) (i : Nat) : Nat := if r i 4 = 1 then 0 else at_ (r i 7) 7
theorem req_X (h : RG F (fun _ => False) Zf Zb t K lo wl cl sg sv sw nr r N nq nb qs ws fb gb at_ ow (X.2.1 0) M0) (hNb : N < 2 ^ 30) {i : Nat} (hi : i < nr) : fX5_request (nI (r i 0)) (0 : Int32) X = some (nI (r i 1)) ∧ fX5_request (nI (r i 0)) (1 : Int32) X = some (nI (r i 2)) ∧ fX5_request (nI (r i 0)) (2 : Int32) X = some (nI (r i 3)) ∧ fX5_request (nI (r i 0)) (3 : Int32) X = some (nI (plc r at_ i)) ∧ fX5_request (nI (r i 0)) (4 : Int32) X = some (nI (r i 5)) := by
  have hR := h.2.2.2.1
  have i16 := hR.2.1
  have e : ∀ k, k < 5 → fX5_request (nI (r i 0)) (nI k) X = (if nI k = (0 : Int32) then some (nI (r i 1)) else (if nI k = (1 : Int32) then some (nI (r i 2)) else (if nI k = (2 : Int32) then some (nI (r i 3)) else (if nI k = (3 : Int32) then ob (fX2_placeOf (nI (r i 0)) (X.2.1 0)) fun u4 => some u4 else some (nI (r i 5)))))) := by
    intro k hk
    unfold fX5_request
    rw [if_neg (nI_pos (by omega)), if_pos (show nI k ≤ (4 : Int32) from nI_le (b := 4) (by omega) (by omega)), gR.find (S := X.2.1 0) rfl hR (by omega) hi, nm, if_neg (nI_neg (by omega) (by decide)), show sget 5 (X.2.1 0) (nI i) (1 : Int32) = nI (r i 1) from gR.get rfl hR hi (j := 1) (by omega), show sget 5 (X.2.1 0) (nI i) (2 : Int32) = nI (r i 2) from gR.get rfl hR hi (j := 2) (by omega), show sget 5 (X.2.1 0) (nI i) (3 : Int32) = nI (r i 3) from gR.get rfl hR hi (j := 3) (by omega), show sget 5 (X.2.1 0) (nI i) (5 : Int32) = nI (r i 5) from gR.get rfl hR hi (j := 5) (by omega)]
  refine ⟨(e 0 (by omega)).trans (if_pos (by decide)), (e 1 (by omega)).trans ((if_neg (by decide)).trans (if_pos (by decide))), (e 2 (by omega)).trans ((if_neg (by decide)).trans ((if_neg (by decide)).trans (if_pos (by decide)))), ?_, (e 4 (by omega)).trans ((if_neg (by decide)).trans ((if_neg (by decide)).trans ((if_neg (by decide)).trans (if_neg (by decide)))))⟩
  refine (e 3 (by omega)).trans ((if_neg (by decide)).trans ((if_neg (by decide)).trans ((if_neg (by decide)).trans ((if_pos (by decide)).trans ?_))))
  rw [place_X h hNb hi, ob_eq]
  unfold plc
  by_cases c : r i 4 = 1
  · rw [if_pos c, if_pos c]; rfl
  · rw [if_neg c, if_neg c]
theorem plc_le (h : RG F (fun _ => False) Zf Zb t K lo wl cl sg sv sw nr r N nq nb qs ws fb gb at_ ow (X.2.1 0) M0) {i : Nat} (hi : i < nr) : plc r at_ i ≤ 4 ∧ (r i 4 = 1 → plc r at_ i = 0) ∧ (r i 4 = 0 → plc r at_ i ≠ 0) := by
  obtain ⟨hA, hQ, hF, hB, hG, hU⟩ := h.2.2.2.2.1
  have h41 := (h.2.2.2.1.2.2.2.2.2 i hi).2.2.2.2.1
  unfold plc
  by_cases c : r i 4 = 1
  · rw [if_pos c]
    exact ⟨by omega, fun _ => rfl, fun z => by omega⟩
  · rw [if_neg c]
    have h4 : r i 4 = 0 := by omega
    obtain ⟨a1, a2, a3, a4, a5⟩ := h.2.2.2.2.2.1.1 i hi h4 (fun z => z)
    rcases hU.2.2.2 _ a1 a2 with ⟨k, hk, e⟩ | ⟨w, hw, e⟩
    · have := (hQ.2.2.2 k hk).2.2.2.2.2.2.2.2.2.2
      rw [e] at this
      exact ⟨by omega, fun z => absurd z c, fun _ => by omega⟩
    · obtain ⟨-, -, -, -, -, b6, b7, -⟩ := (hF.2 w hw).2.2 _ e
      exact ⟨by omega, fun z => absurd z c, fun _ => by omega⟩
def lst (r : N2) : Nat → Int32
  | 0 => -1
  | j + 1 => nI (r j 0)
def alF (r : N2) (f : Nat → Int32) (i : Nat) : Prop := ∀ c, c < 6 → f c = nI (cN (fun j => decide (r j 1 = c)) i)
theorem req_rows (h : RG F (fun _ => False) Zf Zb t K (t + 1) t cl sg sv sw nr r N nq nb qs ws fb gb at_ ow (X.2.1 0) M0) (hNb : N < 2 ^ 30) (ht : t < 2 ^ 28) (hED : ED ((X.2.1 0).1 5)) : ∀ (k i m : Nat) (f : Nat → Int32), i + k = nr → k < m → alF r f i → ∃ f', alF r f' nr ∧ iter (bfL_requests_12 X) m (sumF (fun j => nI (r j 4)) i, lst r i, nI i, f) = iter (bfL_requests_190 X) FU (sumF (fun j => nI (r j 4)) nr, (0 : Int32), f') := by
  have hR := h.2.2.2.1
  have i16 := hR.2.1
  have e1 : fX5_told (1 : Int32) X = some (nI nr) := by
    rw [told_1]
    show some (nI (tz 16 ((X.2.1 0).1 5))) = _
    rw [tz_n (by rw [hR.1]; exact hR.2.1), hR.1]
  have e0 : fX5_told (0 : Int32) X = some (nI t) := by rw [told_0, h.2.2.1.2.1]
  intro k
  induction k with
  | zero =>
    intro i m f hi hm hf
    obtain ⟨m, rfl⟩ : ∃ k, m = k + 1 := ⟨m - 1, by omega⟩
    obtain rfl : i = nr := by omega
    refine ⟨f, hf, ?_⟩
    rw [it_s, bfL_requests_12, e1, ob_eq, if_pos (nI_le (Nat.le_refl _) (by omega))]
  | succ k ih =>
    intro i m f hi hm hf
    obtain ⟨m, rfl⟩ : ∃ k, m = k + 1 := ⟨m - 1, by omega⟩
    have hin : i < nr := by omega
    obtain ⟨q0, q1, q2, q3, q4⟩ := req_X h hNb hin
    obtain ⟨l1, l2, l3⟩ := plc_le h hin
    obtain ⟨b1, b2', b3, b4, b5, b6, b7, b8, b9, b10⟩ := hR.2.2.2.2.2 i hin
    have r3 := b9 (fun z => z)
    have hcell := hR.2.2.2.1 i
    -- the next state
    have hf' : alF r (upd f (r i 1) (f (r i 1) + 1)) (i + 1) := fun c hc => by
      show _ = nI (cN _ i + b2 (decide (r i 1 = c)))
      by_cases e : c = r i 1
      · rw [up_s e, hf _ b2', nA_1, b2_t e.symm, ← e]
      · rw [up_n e, hf c hc, b2_f (fun z => e z.symm), Nat.add_zero]
    obtain ⟨f', g1, g2⟩ := ih (i + 1) m _ (by omega) (by omega) hf'
    refine ⟨f', g1, ?_⟩
    have e168 : ∀ d : Int32, d = nI (r i 4) → bfL_requests_168 X (iter (bfL_requests_12 X) m) (nI i) (nI (r i 0)) (nI (r i 1)) (sumF (fun j => nI (r j 4)) i) d f = iter (bfL_requests_190 X) FU (sumF (fun j => nI (r j 4)) nr, (0 : Int32), f') := by
      intro d hd
      unfold bfL_requests_168
      rw [nm, if_pos (okI_nI b2' (by omega)), if_pos (okI_nI b2' (by omega)), nm, nI_clamp (by omega), nA_1, hd]
      exact g2
    have e157 : bfL_requests_157 X (iter (bfL_requests_12 X) m) (sumF (fun j => nI (r j 4)) i) (nI i) (nI (r i 0)) (nI (r i 1)) (nI (plc r at_ i)) f = iter (bfL_requests_190 X) FU (sumF (fun j => nI (r j 4)) nr, (0 : Int32), f') := by
      unfold bfL_requests_157
      by_cases c : r i 4 = 1
      · rw [if_pos ((eqn_0 (by omega)).mpr (l2 c))]
        exact e168 _ (by rw [c]; rfl)
      · rw [if_neg (fun z => l3 (by omega) ((eqn_0 (by omega)).mp z))]
        exact e168 _ (by rw [show r i 4 = 0 by omega]; rfl)
    have hlast : ¬ nI (r i 0) ≤ lst r i := by
      match i, hin with
      | 0, _ => exact fun z => nI_pos (n := r 0 0) (by omega) (Int32.lt_of_le_of_lt z (by show (-1 : Int32) < 0; decide))
      | j + 1, hj =>
        have := hR.2.2.2.2.1 j (j + 1) (by omega) hj
        exact nI_ge this (by omega)
    rw [it_s, bfL_requests_12, e1, ob_eq, if_neg (nI_ge hin (by omega)), live_X h hin, ob_eq, q0, ob_eq, q3, ob_eq, q4, ob_eq, q2, ob_eq, if_neg hlast, if_neg (nI_pos (by omega)), if_neg (nI_pos (by omega)), if_neg (show ¬ (4 : Int32) < nI (plc r at_ i) from nI_nlt (a := 4) (by omega) (by omega)), if_neg (show ¬ nI (r i 3) < (1 : Int32) from nI_nlt (b := 1) (by omega) (by omega)), if_pos (show nI (r i 3) ≤ (6 : Int32) from nI_le (b := 6) (by omega) (by omega))]
    by_cases c : r i 4 = 1
    · obtain ⟨c1, c2, c3⟩ := b8 c
      rw [if_pos ((eqn_0 (by omega)).mpr (l2 c)), e0, ob_eq, if_neg (nI_nlt c2 (by omega)), q1, ob_eq, if_pos (nI_lt c3 (by omega))]
      exact e157
    · have h4 : r i 4 = 0 := by omega
      have hle : nI (r i 5) ≤ nI (r i 2) := by
        have := hED i (by rw [hR.1]; exact hin) (by rw [(hcell 4 hin (by omega)).1, h4]; rfl)
        rw [(hcell 5 hin (by omega)).1, (hcell 2 hin (by omega)).1] at this
        exact this
      have c2 := b10 h4 (fun z => z)
      rw [if_neg (fun z => l3 h4 ((eqn_0 (by omega)).mp z)), e0, ob_eq, if_neg (nI_ge (by omega) (by omega)), q1, ob_eq, if_pos hle]
      exact e157
theorem req_succ (h1 : ((X.2.1 0).1 1).1 = 6) {c : Nat} (hc : c < 6) {K190 : Int32 × Int32 × (Nat → Int32) → Option Int32} {x2 : Int32} {f : Nat → Int32} : ∀ (k i m : Nat), i + k = 6 → k < m → iter (bfL_requests_268 X K190) m (x2, nI c, sumF (fun w => ((X.2.1 0).1 1).2 c (8 + w)) i, nI (i + 1), f) = bfL_requests_268 X K190 (fun _ => none) (x2, nI c, sumF (fun w => ((X.2.1 0).1 1).2 c (8 + w)) 6, nI 7, f) := by
  intro k
  induction k with
  | zero =>
    intro i m hi hm
    obtain ⟨m, rfl⟩ : ∃ k, m = k + 1 := ⟨m - 1, by omega⟩
    obtain rfl : i = 6 := by omega
    rw [it_s, bfL_requests_268, bfL_requests_268, if_pos (by decide), if_pos (by decide)]
  | succ k ih =>
    intro i m hi hm
    obtain ⟨m, rfl⟩ : ∃ k, m = k + 1 := ⟨m - 1, by omega⟩
    rw [it_s]
    refine Eq.trans ?_ (ih (i + 1) m (by omega) (by omega))
    rw [bfL_requests_268, if_neg (show ¬ (7 : Int32) ≤ nI (i + 1) from nI_ge (b := 7) (by omega) (by omega)), suc_X h1 hc (w := i) (by omega), ob_eq, nm, nA_1]
    rfl
theorem req_cl (h : RG F (fun _ => False) Zf Zb t K lo wl cl sg sv sw nr r N nq nb qs ws fb gb at_ ow (X.2.1 0) M0) {lb : N1} (hA : EA o0 lb (X.2.1 0)) {f : Nat → Int32} (hf : alF r f nr) : ∀ (k c m : Nat), c + k = 6 → k < m → iter (bfL_requests_190 X) m (sumF (fun j => nI (r j 4)) nr, nI c, f) = some 1 := by
  have hR := h.2.2.2.1
  have i16 := hR.2.1
  obtain ⟨n16, n6, hC, -⟩ := hA
  have e1 : fX5_told (1 : Int32) X = some (nI nr) := by
    rw [told_1]
    show some (nI (tz 16 ((X.2.1 0).1 5))) = _
    rw [tz_n (by rw [hR.1]; exact hR.2.1), hR.1]
  intro k
  induction k with
  | zero =>
    intro c m hc hm
    obtain ⟨m, rfl⟩ : ∃ k, m = k + 1 := ⟨m - 1, by omega⟩
    obtain rfl : c = 6 := by omega
    have el : fX5_live (nI nr) X = some (-9) := by
      unfold fX5_live bfX5_live_20
      rw [if_pos (nI_pos' (by omega)), show sget 5 (X.2.1 0) (nI nr) (0 : Int32) = -9 from tg_ge (w := 7) (rows := 16) (by rw [hR.1]; exact i16) (by omega) (by rw [hR.1]; exact Int32.le_refl _)]
    rw [it_s, bfL_requests_190, if_pos (by decide), e1, ob_eq, el, ob_eq, if_pos rfl, told_2, waiting_X h, ob_eq, if_pos rfl, ob_eq, if_neg (show ¬ (16 : Int32) < nI nr from nI_nlt (a := 16) (by omega) (by omega))]
    unfold bfL_requests_377
    rw [if_pos (Or.inr rfl)]
  | succ k ih =>
    intro c m hc hm
    obtain ⟨m, rfl⟩ : ∃ k, m = k + 1 := ⟨m - 1, by omega⟩
    have hc6 : c < 6 := by omega
    obtain ⟨tt, t1, t2, t3, t4, ⟨t5, -⟩, b, t6, t7, t8⟩ := hC c hc6
    have ealv : alv ((X.2.1 0).1 5) c = cN (fun j => decide (r j 1 = c)) nr := by
      unfold alv
      rw [hR.1]
      refine cN_cg nr (fun i hi => ?_)
      rw [(hR.2.2.2.1 i 1 hi (by omega)).1]
      have := (hR.2.2.2.2.2 i hi).2.1
      exact decide_eq_decide.mpr (nI_eq (by omega) (by omega))
    have cx : ∀ w, w < 8 → fX5_count (nI c) (nI w) X = some (nI (tt w)) := fun w hw => by rw [cnt_X n6 hc6 hw, t1 w (by omega)]
    have e10 : fX5_property (nI c) (10 : Int32) X = some (nI b) := by
      rw [show fX5_property (nI c) (10 : Int32) X = _ from prop_X (w := 10) hc6 (by omega)]
      have hC0 := h.1.1
      rw [show sget 0 (X.2.1 0) (nI c) (nI 10) = ((X.2.1 0).1 0).2 c 10 from tg (w := 12) (rows := 6) (by rw [hC0.1]; exact hc6) hc6 (by omega) (by omega) (by omega), t6]
    have e268 : iter (bfL_requests_268 X (iter (bfL_requests_190 X) m)) FU (sumF (fun j => nI (r j 4)) nr, nI c, (0 : Int32), (1 : Int32), f) = iter (bfL_requests_190 X) m (sumF (fun j => nI (r j 4)) nr, nI (c + 1), f) := by
      refine (req_succ n6 hc6 6 0 FU (by omega) (by unfold FU; omega)).trans ?_
      have es : sumF (fun w => ((X.2.1 0).1 1).2 c (8 + w)) 6 = nI (tt 2) := by
        rw [sumF_cg 6 (g := fun w => nI (tt (8 + w))) (fun w hw => t1 (8 + w) (by omega)), sumF_nI]
        refine congrArg nI ?_
        show 0 + tt 8 + tt 9 + tt 10 + tt 11 + tt 12 + tt 13 = tt 2
        omega
      rw [bfL_requests_268, if_pos (by decide), show fX5_count (nI c) (2 : Int32) X = _ from cx 2 (by omega), ob_eq, es, if_pos rfl, show fX5_count (nI c) (1 : Int32) X = _ from cx 1 (by omega), ob_eq, ob_eq, show fX5_count (nI c) (4 : Int32) X = _ from cx 4 (by omega), ob_eq, nI_add, if_pos (nI_le (by have : o0 c = 0 := rfl; omega) (by omega)), nA_1]
    rw [it_s, bfL_requests_190, if_neg (fun z => by have := (len_6 (by omega)).mp z; omega), show fX5_count (nI c) (0 : Int32) X = _ from cx 0 (by omega), ob_eq, show fX5_count (nI c) (2 : Int32) X = _ from cx 2 (by omega), ob_eq, show fX5_count (nI c) (3 : Int32) X = _ from cx 3 (by omega), ob_eq, if_pos (okI_nI hc6 (by omega)), nI_clamp (by omega), hf c hc6, nI_add, nI_add, if_pos (by rw [t2, ealv]), show fX5_count (nI c) (7 : Int32) X = _ from cx 7 (by omega), ob_eq, if_neg (nI_pos (by omega)), ob_eq, e10, ob_eq, nM_10, if_pos (nI_le t8 (by omega)), e268]
    exact ih (c + 1) m (by omega) (by omega)
theorem requests_1 (h : RG F (fun _ => False) Zf Zb t K (t + 1) t cl sg sv sw nr r N nq nb qs ws fb gb at_ ow (X.2.1 0) M0) (hNb : N < 2 ^ 30) (ht : t < 2 ^ 28) {lb : N1} (hA : EA o0 lb (X.2.1 0)) : fL_requests X = some 1 := by
  obtain ⟨f', g1, g2⟩ := req_rows h hNb ht hA.2.2.2 nr 0 FU (fun _ => 0) (by omega) (by have := h.2.2.2.1.2.1; unfold FU; omega) (fun c _ => rfl)
  unfold fL_requests
  exact g2.trans (req_cl h hA g1 6 0 FU (by omega) (by unfold FU; omega))
end RQ
