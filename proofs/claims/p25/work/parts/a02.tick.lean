/-! a tick, in both: all steps -/
section TL
variable {F : Fx} {E Zf Zb : Nat → Prop} {t K lo wl g0 : Nat} {cl sg : N2} {sv sw : N1} {S S' : StS} {M M' : MS}
def regs0 (M : MS) : MS := (M.1, M.2.1, upd (upd (upd (upd M.2.2 5 (M.1 182)) 6 0) 7 0) 8 0)
theorem ticks_open (M : MS) : fX6_ticks M = iter bfX6_ticks_29 FU (nI 0, regs0 M) := by
  unfold fX6_ticks
  rw [nm, nm, nm, nm, cl_182]
  rfl
theorem pass_open (S : StS) : fX4_pass S = ob (fX0_createRequests S) fun u22 => ob (fX0_sendWaiting u22) fun u23 => ob (fX1_fillBackWorkers u23) fun u24 => ob (fX1_fillFrontWorkers u24) fun u25 => ob (fX1_work u25) fun u26 => nm (u26.1, upd u26.2 12 ((u26.2 12) + (1 : Int32))) fun S27 => ob (fX1_endBackWork S27) fun u28 => ob (fX1_endFrontWork u28) fun u29 => ob (fX0_abandonExpired u29) fun u30 => passE (ssum 1 S 2) (ssum 1 S 1) (S.2 16) u30 := by
  unfold fX4_pass passE
  rw [show fX2_total (2 : Int32) S = some (ssum 1 S 2) from rfl, show fX2_total (1 : Int32) S = some (ssum 1 S 1) from rfl, ob_eq, ob_eq]
theorem RZ.toRG (h : RZ g0 t K cl sg sv sw S M.1) : RE (M.1, (ssum 1 S 2, ssum 1 S 1, S.2 16, M.2.2 1), g0) (fun _ => False) (fun _ => False) t K (t + 1) t cl sg sv sw S (regs0 M) := by
  obtain ⟨nr, r, N, nq, nb, qs, ws, fb, gb, at_, ow, hX, hT, hD, hR, hY, hL⟩ := h
  refine ⟨nr, r, N, nq, nb, qs, ws, fb, gb, at_, ow, hX, hT, hD, hR, hY, hL, ?_, ?_, ?_, ?_, ?_, fun _ _ => rfl⟩
  · show upd (upd (upd (upd M.2.2 5 (M.1 182)) 6 0) 7 0) 8 0 5 = _
    rw [up_n (by omega), up_n (by omega), up_n (by omega), up_s rfl]
    exact hD.2.2.1
  · show ssum 1 S 2 = ssum 1 S 2 + upd (upd (upd (upd M.2.2 5 (M.1 182)) 6 0) 7 0) 8 0 6
    rw [up_n (by omega), up_n (by omega), up_s rfl, Int32.add_zero]
  · show ssum 1 S 1 = ssum 1 S 1 + upd (upd (upd (upd M.2.2 5 (M.1 182)) 6 0) 7 0) 8 0 7
    rw [up_n (by omega), up_s rfl, Int32.add_zero]
  · show S.2 16 = S.2 16 + upd (upd (upd (upd M.2.2 5 (M.1 182)) 6 0) 7 0) 8 0 8
    rw [up_s rfl, Int32.add_zero]
  · show upd (upd (upd (upd M.2.2 5 (M.1 182)) 6 0) 7 0) 8 0 1 = M.2.2 1
    rw [up_n (by omega), up_n (by omega), up_n (by omega), up_n (by omega)]
theorem t10 {X : StS} {T : Tb} {g : Nat → Int32} {k : Nat} (hk : k ≠ 10) : (((sset X 10 T).1, g) : StS).1 k = X.1 k := ss_n hk
/-- what a tick does beside the relation: the sums are kept, the work grows by the front workers at most; its own row of the history -/
def TickX (sv : N1) (S S' : StS) : Prop := (∀ w0 lb, EX sv o0 lb w0 S → ∃ n : Nat, n ≤ sv 0 ∧ EX sv o0 lb (w0 + nI n) S') ∧ ∃ (t : Nat) (S9 : StS), S.2 12 = nI t ∧ S' = ((sset S9 10 (thist (S9.1 10) (t % 64) (ssize 6 S9) (ssum 1 S9 2 - ssum 1 S 2) (ssum 1 S9 1 - ssum 1 S 1) (S9.2 16 - S.2 16))).1, upd S9.2 17 (if S9.2 17 < ssize 6 S9 then ssize 6 S9 else S9.2 17)) ∧ (S9.1 10).1 = 64 ∧ S9.2 12 = nI (t + 1) ∧ t < 2 ^ 28
theorem tick_rel (h : RZ g0 t K cl sg sv sw S M.1) (ht : t < 2 ^ 28) (hK : K < 2 ^ 27) : ∃ S' M', fX4_pass S = some S' ∧ fX6_ticks M = some M' ∧ RZ g0 (t + 1) (K + 300) cl sg sv sw S' M'.1 ∧ M'.2.2 1 = M.2.2 1 ∧ (∀ x, 855 ≤ x → M'.1 x = M.1 x) ∧ ssum 1 S' 2 = ssum 1 S 2 + M'.2.2 6 ∧ TickX sv S S' := by
  have r0 := h.toRG
  obtain ⟨S1, M1, x1, y1, r1, g1⟩ := clients_loop (by omega) (by omega) (by omega) 6 0 (by omega) (by omega) r0 FU FU (by unfold FU; omega) (by unfold FU; omega)
  obtain ⟨S2, M2, x2, y2, r2, g2'⟩ := sendW (by omega) (by omega) (by omega) r1
  have hsv : sv 2 ≤ 4 ∧ sv 0 ≤ 4 := by
    obtain ⟨nr, r, N, nq, nb, qs, ws, fb, gb, at_, ow, h2⟩ := r2
    exact ⟨(srv h2.1.2.2.1 (i := 2) (by omega)).2.2.2, (srv h2.1.2.2.1 (i := 0) (by omega)).2.2.2⟩
  have g2 : sget 3 S2 (2 : Int32) (0 : Int32) = nI (sv 2) := by
    obtain ⟨nr, r, N, nq, nb, qs, ws, fb, gb, at_, ow, h2⟩ := r2
    exact (srv h2.1.2.2.1 (i := 2) (by omega)).1
  obtain ⟨S3, M3, x3, y3, r3, g3'⟩ := fillB (by omega) (by omega) (by omega) (by omega) (sv 2) 0 (by omega) r2 FU FU (by unfold FU; omega) (by unfold FU; omega)
  have g3 : sget 3 S3 (0 : Int32) (0 : Int32) = nI (sv 0) := by
    obtain ⟨nr, r, N, nq, nb, qs, ws, fb, gb, at_, ow, h2⟩ := r3
    exact (srv h2.1.2.2.1 (i := 0) (by omega)).1
  obtain ⟨S4, M4, x4, y4, r4, g4⟩ := fillF (by omega) (by omega) (by omega) (by omega) (sv 0) 0 (by omega) r3 FU FU (by unfold FU; omega) (by unfold FU; omega)
  have e174 : M4.1 174 = nI (sv 0) := by
    obtain ⟨nr, r, N, nq, nb, qs, ws, fb, gb, at_, ow, h2⟩ := r4
    exact (srv h2.1.2.2.1 (i := 0) (by omega)).2.1
  have g5 : ∀ {X : StS} {w0 : Int32} {lb : N1}, fX1_work S4 = some X → EX sv o0 lb w0 S4 → ∃ n : Nat, n ≤ sv 0 ∧ EX sv o0 lb (w0 + nI n) X := by
    intro X w0 lb e hx
    obtain ⟨nr, r, N, nq, nb, qs, ws, fb, gb, at_, ow, h2⟩ := r4
    exact work_kx h2 (by have : N ≤ _ := h2.2.2.1.2.2.2.2.2.2.1; omega) e hx
  obtain ⟨S5, M5, x5, y5, r5⟩ : ∃ S' M', fX1_work S4 = some S' ∧ fX6_works M4 = some M' ∧ RE _ (fun _ => True) (fun _ => True) t (K + 12 * 6 + 16) (t + 1) (t + 1) cl sg sv sw S' M' := by
    obtain ⟨nr, r, N, nq, nb, qs, ws, fb, gb, at_, ow, h2⟩ := r4
    exact work_rel h2 (by have : N ≤ _ := h2.2.2.1.2.2.2.2.2.2.1; omega)
  have r6 : RE (M.1, (ssum 1 S 2, ssum 1 S 1, S.2 16, M.2.2 1), g0) (fun _ => True) (fun w => 0 ≤ w) (t + 1) (K + 12 * 6 + 16) (t + 1) (t + 1) cl sg sv sw (S5.1, upd S5.2 12 (S5.2 12 + 1)) (upd M5.1 182 (M5.1 182 + 1), M5.2.1, upd M5.2.2 5 (M5.2.2 5 + 1)) := by
    obtain ⟨nr, r, N, nq, nb, qs, ws, fb, gb, at_, ow, h2⟩ := r5
    exact ⟨nr, r, N, nq, nb, qs, ws, fb, gb, at_, ow, h2.clock.zb (fun w f a _ _ _ _ => Or.inl (Nat.zero_le w))⟩
  obtain ⟨S7, M7, K7, x7, y7, k7, r7, g7⟩ := endB (by omega) 4 0 (by omega) (by omega) r6 FU FU (by unfold FU; omega) (by unfold FU; omega)
  have r7' : RE (M.1, (ssum 1 S 2, ssum 1 S 1, S.2 16, M.2.2 1), g0) (fun w => 0 ≤ w) (fun _ => False) (t + 1) K7 (t + 1) (t + 1) cl sg sv sw S7 M7 := by
    obtain ⟨nr, r, N, nq, nb, qs, ws, fb, gb, at_, ow, h2⟩ := r7
    exact ⟨nr, r, N, nq, nb, qs, ws, fb, gb, at_, ow, h2.zf (fun w a _ _ _ _ => Or.inl (Nat.zero_le w))⟩
  obtain ⟨S8, M8, K8, x8, y8, k8, r8, g8⟩ := endF (by omega) (by omega) 4 0 (by omega) (by omega) r7' FU FU (by unfold FU; omega) (by unfold FU; omega)
  obtain ⟨n, S9, M9, x9, n16, y9, r9, g9⟩ := abanS (by omega) (by omega) (by omega) r8
  obtain ⟨nr, r, N, nq, nb, qs, ws, fb, gb, at_, ow, h9⟩ := r9
  have e10 : (S9.1 10).1 = 64 := h9.1.2.2.2.2.1
  have e12 : S9.2 12 = nI (t + 1) := h9.2.2.1.2.1
  obtain ⟨n1, n2, n3, n4, n5, n6⟩ := h9.2.2.2.2.2.2
  have hX := last_X (S := S9) (t := t) (i := t % 64) (by omega) rfl e10 e12 (ssum 1 S 2) (ssum 1 S 1) (S.2 16)
  have hM := last_M (M := M9) (t := t) (n := n) (i := t % 64) (by omega) (by omega) rfl n1
  have hQ := h9.2.2.2.2.1.2.1
  have e557 : M9.1 557 = nI nq := hQ.2.2.1
  have e187 : S9.2 17 = M9.1 187 := h9.2.2.1.2.2.2.2.2.2.2.2.2
  have gk : TickX sv S ((sset S9 10 (thist (S9.1 10) (t % 64) (ssize 6 S9) (ssum 1 S9 2 - ssum 1 S 2) (ssum 1 S9 1 - ssum 1 S 1) (S9.2 16 - S.2 16))).1, upd S9.2 17 (if S9.2 17 < ssize 6 S9 then ssize 6 S9 else S9.2 17)) := by
    refine ⟨fun w0 lb hx => ?_, t, S9, ?_, rfl, e10, e12, ht⟩
    · obtain ⟨m, m1, m2⟩ := g5 x5 (g4 _ _ (g3' _ _ (g2' _ _ (g1 _ _ hx))))
      have m3 : EX sv o0 lb (w0 + nI m) (S5.1, upd S5.2 12 (S5.2 12 + 1)) := by
        obtain ⟨a, b, c, d⟩ := m2
        refine ⟨a, ?_, c, d⟩
        show upd S5.2 12 (S5.2 12 + 1) 15 + upd S5.2 12 (S5.2 12 + 1) 16 + _ = _
        rw [up_n (by omega), up_n (by omega)]
        exact b
      obtain ⟨a, b, c, d⟩ := g9 _ _ (g8 _ _ (g7 _ _ m3))
      refine ⟨m, m1, a.cg (t10 (by decide)) (t10 (by decide)) (t10 (by decide)), ?_, fun w hw hs => ?_, fun w hw hs => ?_⟩
      · rw [t10 (by decide)]
        dsimp only
        rw [up_n (by omega), up_n (by omega)]
        exact b
      · rw [t10 (by decide)]
        exact c w hw hs
      · rw [t10 (by decide)]
        exact d w hw hs
    · obtain ⟨nr', r', N', nq', nb', qs', ws', fb', gb', at', ow', hh⟩ := h
      exact hh.2.2.1.2.1
  rw [sz6 rfl hQ, i32_sub n2, i32_sub n3, i32_sub n4, e187] at hX gk
  rw [e557] at hM
  have eg : (if M9.1 187 < nI nq then nI nq else M9.1 187) = (if nI nq ≤ M9.1 187 then M9.1 187 else nI nq) := by
    by_cases e : nI nq ≤ M9.1 187
    · rw [if_pos e, if_neg (Int32.not_lt.mpr e)]
    · rw [if_neg e, if_pos (Int32.not_le.mp e)]
  rw [eg] at hX gk
  have hZ := h9.hist (i := t % 64) (Nat.mod_lt _ (by decide)) (nI nq) (M9.2.2 6) (M9.2.2 7) (M9.2.2 8) (if nI nq ≤ M9.1 187 then M9.1 187 else nI nq)
  refine ⟨_, (phist M9.1 (t % 64) (nI nq) (M9.2.2 6) (M9.2.2 7) (M9.2.2 8) (if nI nq ≤ M9.1 187 then M9.1 187 else nI nq), M9.2), ?_, ?_, hZ.kle (by omega), n5, fun x hx => ?_, ?_, gk⟩
  · rw [pass_open, show fX0_createRequests S = some S1 from x1, ob_eq, x2, ob_eq]
    rw [show fX1_fillBackWorkers S2 = some S3 by unfold fX1_fillBackWorkers; rw [g2, nm]; exact x3, ob_eq]
    rw [show fX1_fillFrontWorkers S3 = some S4 by unfold fX1_fillFrontWorkers; rw [g3, nm]; exact x4, ob_eq, x5, ob_eq, nm]
    rw [show fX1_endBackWork (S5.1, upd S5.2 12 (S5.2 12 + 1)) = some S7 from x7, ob_eq, show fX1_endFrontWork S7 = some S8 from x8, ob_eq, x9, ob_eq]
    exact hX
  · rw [ticks_open, y1, y2, y3, y4, bfX6_ticks_131]
    rw [show (174 : Int32).toNatClampNeg = 174 from cl_174, e174, if_pos (nI_le (Nat.le_refl _) (by omega)), y5, ob_eq, nm, cl_182, nm]
    refine Eq.trans (?_ : _ = iter bfX6_ticks_182 FU (nI 0, (upd M5.1 182 (M5.1 182 + 1), M5.2.1, upd M5.2.2 5 (M5.2.2 5 + 1)))) ?_
    · rfl
    · rw [y7, y8, bfX6_ticks_200, if_pos (by decide), y9]
      exact hM
  · show phist M9.1 (t % 64) _ _ _ _ _ x = _
    have : t % 64 < 64 := Nat.mod_lt _ (by decide)
    unfold phist
    rw [up_n (by omega), up_n (by omega), up_n (by omega), up_n (by omega), up_n (by omega)]
    exact n6 x hx
  · refine Eq.trans ?_ n2
    exact ssum_10 (S := S9) (T := thist (S9.1 10) (t % 64) (nI nq) (M9.2.2 6) (M9.2.2 7) (M9.2.2 8)) (c := 2)
end TL
