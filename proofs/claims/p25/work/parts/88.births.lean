/-! step 1: which clients create, and their loops -/
def due1 (cl : N2) (t c : Nat) : Prop := 1 ≤ cl c 0 ∧ cl c 1 ≤ t ∧ (t - cl c 1) % cl c 0 = 0
def fac (sg : N2) (t c : Nat) : Nat := if sg c 0 ≠ 0 ∧ sg c 1 ≤ t ∧ t < sg c 2 then sg c 0 else 1
section BR
variable {F : Fx} {E Zf Zb : Nat → Prop} {t K lo wl : Nat} {cl sg : N2} {sv sw : N1} {nr : Nat} {r : N2} {N nq nb : Nat} {qs ws fb gb : N1} {at_ : N2} {ow : N1} {S S' : StS} {M M' : MS}
theorem sg2 {p : Pg} (h : gS (S.1 2) p sg t) {c j : Nat} (hc : c < 6) (hj : j < 3) : sget 2 S (nI c) (nI j) = nI (sg c j) := (tg (w := 3) (rows := 6) (by rw [h.1]; exact hc) hc hj (by omega) (by omega)).trans ((h.2 c hc).1 j hj).1
theorem fac_le {p : Pg} (h : gS (S.1 2) p sg t) {c : Nat} (hc : c < 6) : fac sg t c ≤ 4 := by
  have := (h.2 c hc).2.1
  unfold fac
  by_cases e : sg c 0 ≠ 0 ∧ sg c 1 ≤ t ∧ t < sg c 2
  · rw [if_pos e]; exact this
  · rw [if_neg e]; omega
theorem births_X (h : RG F E Zf Zb t K lo wl cl sg sv sw nr r N nq nb qs ws fb gb at_ ow S M) (ht : t < 2 ^ 29) {c : Nat} (hc : c < 6) : (due1 cl t c → fX0_births (nI c) S = some (nI (fac sg t c))) ∧ (¬ due1 cl t c → fX0_births (nI c) S = some (nI 0)) := by
  have hC := h.1.1
  have hS := h.1.2.1
  have l0 := (hC.2 c 0 hc (by omega)).2.2.2
  have l1 := (hC.2 c 1 hc (by omega)).2.2.2
  rw [show hiL 0 = 50 from rfl] at l0
  rw [show hiL 1 = 50 from rfl] at l1
  have g0 : sget 0 S (nI c) (0 : Int32) = nI (cl c 0) := gC.get rfl hC hc (j := 0) (by omega)
  have g1 : sget 0 S (nI c) (1 : Int32) = nI (cl c 1) := gC.get rfl hC hc (j := 1) (by omega)
  have s0 : sget 2 S (nI c) (0 : Int32) = nI (sg c 0) := sg2 hS hc (j := 0) (by omega)
  have s1 : sget 2 S (nI c) (1 : Int32) = nI (sg c 1) := sg2 hS hc (j := 1) (by omega)
  have s2 : sget 2 S (nI c) (2 : Int32) = nI (sg c 2) := sg2 hS hc (j := 2) (by omega)
  obtain ⟨-, b1, b2, b3, b4⟩ := hS.2 c hc
  have e12 : S.2 12 = nI t := h.2.2.1.2.1
  unfold fX0_births bfX0_births_40
  rw [nm, nm, g0, g1, e12]
  by_cases c0 : 1 ≤ cl c 0
  · rw [if_neg (fun z => by have := (tln_1 (by omega)).mp z; omega)]
    by_cases c1 : cl c 1 ≤ t
    · rw [pk_sub c1, if_neg (nI_pos (by omega)), if_neg (nI_ne0 c0 (by omega)), rem_nI (by omega) c0 (by omega)]
      have hm : (t - cl c 1) % cl c 0 < cl c 0 := Nat.mod_lt _ c0
      by_cases c2 : (t - cl c 1) % cl c 0 = 0
      · refine ⟨fun _ => ?_, fun hn => absurd ⟨c0, c1, c2⟩ hn⟩
        rw [if_pos ((eqn_0 (by omega)).mpr c2), s1, s2]
        unfold bfX0_births_78 bfX0_births_79 bfX0_births_99 fac
        by_cases c3 : sg c 1 ≤ t
        · rw [if_neg (nI_nlt c3 (by omega))]
          by_cases c4 : t < sg c 2
          · have c5 : sg c 0 ≠ 0 := fun z => by have := b4 z; omega
            rw [if_neg (nI_ge c4 (by omega)), if_neg (by decide), s0, if_pos ⟨c5, c3, c4⟩]
          · rw [if_pos (nI_le (by omega) (by omega)), if_pos rfl, if_neg (fun z => c4 z.2.2)]
            rfl
        · rw [if_pos (nI_lt (by omega) (by omega)), if_pos rfl, if_neg (fun z => c3 z.2.1)]
          rfl
      · refine ⟨fun hd => absurd hd.2.2 c2, fun _ => ?_⟩
        rw [if_neg (fun z => c2 ((eqn_0 (by omega)).mp z))]
        rfl
    · refine ⟨fun hd => absurd hd.2.1 c1, fun _ => ?_⟩
      rw [if_pos (pk_sneg (by omega) (by omega))]
      rfl
  · refine ⟨fun hd => absurd hd.1 c0, fun _ => ?_⟩
    rw [if_pos ((tln_1 (by omega)).mpr (by omega))]
    rfl
theorem isDue_M (h : RG F E Zf Zb t K lo wl cl sg sv sw nr r N nq nb qs ws fb gb at_ ow S M) (ht : t < 2 ^ 29) {c : Nat} (hc : c < 6) : (due1 cl t c → fX6_isDue (nI c) M = some 1) ∧ (¬ due1 cl t c → fX6_isDue (nI c) M = some 0) := by
  have hC := h.1.1
  have l0 := (hC.2 c 0 hc (by omega)).2.2.2
  have l1 := (hC.2 c 1 hc (by omega)).2.2.2
  rw [show hiL 0 = 50 from rfl] at l0
  rw [show hiL 1 = 50 from rfl] at l1
  have o0 : fX6_of (nI c) (0 : Int32) M = some (nI (cl c 0)) := (of_n (k := 0) hc (by omega) M).trans (congrArg some (hC.2 c 0 hc (by omega)).2.1)
  have o1 : fX6_of (nI c) (1 : Int32) M = some (nI (cl c 1)) := (of_n (k := 1) hc (by omega) M).trans (congrArg some (hC.2 c 1 hc (by omega)).2.1)
  have e5 : M.2.2 5 = nI t := h.2.2.2.2.2.2.1
  unfold fX6_isDue bfX6_isDue_44 bfX6_isDue_45
  rw [o0, ob_eq, o1, ob_eq, ob_eq, e5, if_pos (Or.inl rfl), if_pos (Or.inr rfl)]
  by_cases c0 : 1 ≤ cl c 0
  · rw [if_neg (fun z => by have := (eln_0 (by omega)).mp z; omega)]
    by_cases c1 : cl c 1 ≤ t
    · rw [if_neg (nI_nlt c1 (by omega)), if_neg (nI_ne0 c0 (by omega)), pk_sub c1, rem_nI (by omega) c0 (by omega)]
      have hm : (t - cl c 1) % cl c 0 < cl c 0 := Nat.mod_lt _ c0
      by_cases c2 : (t - cl c 1) % cl c 0 = 0
      · refine ⟨fun _ => ?_, fun hn => absurd ⟨c0, c1, c2⟩ hn⟩
        rw [if_pos ((eqn_0 (by omega)).mpr c2)]
      · refine ⟨fun hd => absurd hd.2.2 c2, fun _ => ?_⟩
        rw [if_neg (fun z => c2 ((eqn_0 (by omega)).mp z))]
    · refine ⟨fun hd => absurd hd.2.1 c1, fun _ => ?_⟩
      rw [if_pos (nI_lt (by omega) (by omega))]
  · refine ⟨fun hd => absurd hd.1 c0, fun _ => ?_⟩
    rw [if_pos ((eln_0 (by omega)).mpr (by omega))]
theorem factor_M (h : RG F E Zf Zb t K lo wl cl sg sv sw nr r N nq nb qs ws fb gb at_ ow S M) (ht : t < 2 ^ 29) {c : Nat} (hc : c < 6) : fX6_factorOf (nI c) M = some (nI (fac sg t c)) := by
  have hS := h.1.2.1
  obtain ⟨b0, b1, b2, b3, b4⟩ := hS.2 c hc
  have p0 : M.1 (72 + 3 * c) = nI (sg c 0) := (b0 0 (by omega)).2
  have p1 : M.1 (72 + 3 * c + 1) = nI (sg c 1) := (b0 1 (by omega)).2
  have p2 : M.1 (72 + 3 * c + 2) = nI (sg c 2) := (b0 2 (by omega)).2
  have e5 : M.2.2 5 = nI t := h.2.2.2.2.2.2.1
  have f00 : bfX6_factorOf_57 (nI c) M (0 : Int32) = some (nI 1) := by
    unfold bfX6_factorOf_57 bfX6_factorOf_77
    rw [if_pos rfl]
    rfl
  have f01 : bfX6_factorOf_57 (nI c) M (1 : Int32) = some (nI (sg c 0)) := by
    unfold bfX6_factorOf_57 bfX6_factorOf_77
    rw [if_neg (by decide), nM_3, nB_72, if_pos (okI_nI (by omega) (by decide)), nI_clamp (by omega), p0]
  unfold fX6_factorOf bfX6_factorOf_56
  rw [f00, f01, nM_3, nB_72, nA_1, nA_2, if_pos (okI_nI (by omega) (by decide)), nI_clamp (by omega), p0, if_pos (okI_nI (by omega) (by decide)), if_pos (okI_nI (by omega) (by decide)), nI_clamp (by omega), nI_clamp (by omega), p1, p2, e5, in_eq, ob_eq]
  unfold fac
  by_cases c0 : sg c 0 = 0
  · rw [if_pos ((eln_0 (by omega)).mpr (by omega)), if_neg (fun z => z.1 c0)]
  · rw [if_neg (fun z => by have := (eln_0 (by omega)).mp z; omega)]
    by_cases c1 : sg c 1 ≤ t
    · rw [if_neg (nI_nlt c1 (by omega))]
      by_cases c2 : t < sg c 2
      · rw [show nI (sg c 2) - (1 : Int32) = nI (sg c 2 - 1) from pk_sub (b := 1) (by omega), if_neg (nI_nlt (by omega) (by omega)), if_neg (by decide), if_pos ⟨c0, c1, c2⟩]
      · have hlt : nI (sg c 2) - (1 : Int32) < nI t := by
          by_cases z : sg c 2 = 0
          · rw [z]
            exact Int32.lt_of_lt_of_le (show nI 0 - (1 : Int32) < 0 by decide) (nI_pos' (by omega))
          · rw [show nI (sg c 2) - (1 : Int32) = nI (sg c 2 - 1) from pk_sub (b := 1) (by omega)]
            exact nI_lt (by omega) (by omega)
        rw [if_pos hlt, if_pos rfl, if_neg (fun z => c2 z.2.2)]
    · rw [if_pos (nI_lt (by omega) (by omega)), if_pos rfl, if_neg (fun z => c1 z.2.1)]
theorem t37_on (h : RG F E Zf Zb t K lo wl cl sg sv sw nr r N nq nb qs ws fb gb at_ ow S M) (ht : t < 2 ^ 29) {c j : Nat} (hc : c < 6) (hd : due1 cl t c) (hj : j < fac sg t c) (K29 : Int32 × MS → Option MS) (K37 : Int32 × Int32 × MS → Option MS) : bfX6_ticks_37 K29 K37 (nI c, nI j, M) = ob (fX6_creates (nI c) M) fun u => K37 (nI c, nI (j + 1), u) := by
  have := fac_le h.1.2.1 hc
  rw [bfX6_ticks_37, (isDue_M h ht hc).1 hd, ob_eq, if_neg (by decide), factor_M h ht hc, ob_eq, if_neg (nI_ge hj (by omega)), nA_1]
theorem t37_off (h : RG F E Zf Zb t K lo wl cl sg sv sw nr r N nq nb qs ws fb gb at_ ow S M) (ht : t < 2 ^ 29) {c j : Nat} (hc : c < 6) (hd : due1 cl t c → j = fac sg t c) (K29 : Int32 × MS → Option MS) (K37 : Int32 × Int32 × MS → Option MS) : bfX6_ticks_37 K29 K37 (nI c, nI j, M) = K29 (nI (c + 1), M) := by
  have := fac_le h.1.2.1 hc
  rw [bfX6_ticks_37]
  unfold bfX6_ticks_65
  rw [nA_1]
  by_cases e : due1 cl t c
  · rw [(isDue_M h ht hc).1 e, ob_eq, if_neg (by decide), factor_M h ht hc, ob_eq, hd e, if_pos (nI_le (Nat.le_refl _) (by omega))]
  · rw [(isDue_M h ht hc).2 e, ob_eq, if_pos rfl]
end BR
section BS
variable {F : Fx} {Zf Zb : Nat → Prop} {t lo wl : Nat} {cl sg : N2} {sv sw : N1}
theorem born_loop (ht : t < 2 ^ 29) (hwl : wl ≤ t + 1) (hlo : lo ≤ t + 1) {c b : Nat} (hc : c < 6) (hb1 : due1 cl t c → b = fac sg t c) (hb2 : ¬ due1 cl t c → b = 0) (hb : b ≤ 4) : ∀ (k j : Nat) {K : Nat} {S : StS} {M : MS}, j + k = b → K + 3 * k < 2 ^ 29 → RE F Zf Zb t K lo wl cl sg sv sw S M → ∀ m m', k < m → k < m' → ∃ S' M', (∀ K2, iter (bfX0_createRequests_16 K2) m (nI c, nI b, nI j, S) = K2 (nI (c + 1), S')) ∧ (∀ K29, iter (bfX6_ticks_37 K29) m' (nI c, nI j, M) = K29 (nI (c + 1), M')) ∧ RE F Zf Zb t (K + 3 * k) lo wl cl sg sv sw S' M' ∧ Kp sv S S' := by
  intro k
  induction k with
  | zero =>
    intro j K S M hj hK h m m' hm hm'
    obtain ⟨m, rfl⟩ : ∃ k, m = k + 1 := ⟨m - 1, by omega⟩
    obtain ⟨m', rfl⟩ : ∃ k, m' = k + 1 := ⟨m' - 1, by omega⟩
    obtain ⟨nr, r, N, nq, nb, qs, ws, fb, gb, at_, ow, h⟩ := h
    refine ⟨S, M, fun K2 => ?_, fun K29 => ?_, ⟨_, _, _, _, _, _, _, _, _, _, _, h⟩, Kp.rf sv S⟩
    · show bfX0_createRequests_16 _ _ _ = _
      rw [bfX0_createRequests_16, if_pos (nI_le (by omega) (by omega)), nA_1]
    · show bfX6_ticks_37 _ _ _ = _
      exact t37_off h ht hc (fun z => by have := hb1 z; omega) _ _
  | succ k ih =>
    intro j K S M hj hK h m m' hm hm'
    obtain ⟨m, rfl⟩ : ∃ k, m = k + 1 := ⟨m - 1, by omega⟩
    obtain ⟨m', rfl⟩ : ∃ k, m' = k + 1 := ⟨m' - 1, by omega⟩
    have hd : due1 cl t c := Classical.byContradiction (fun z => by have := hb2 z; omega)
    have hf := hb1 hd
    obtain ⟨nr, r, N, nq, nb, qs, ws, fb, gb, at_, ow, h⟩ := h
    obtain ⟨x1, S1, x, S2, S3, M3, q1, q2, q3, q4, q5, q6⟩ := create_rel h (by omega) ht hwl hlo hc
    obtain ⟨S', M', p1, p2, p3, p4⟩ := ih (j + 1) (by omega) (by omega) q5 m m' (by omega) (by omega)
    refine ⟨S', M', fun K2 => ?_, fun K29 => ?_, by rw [show K + 3 * (k + 1) = K + 3 + 3 * k by omega]; exact p3, q6.tr p4⟩
    · show bfX0_createRequests_16 _ (iter _ m) _ = _
      rw [bfX0_createRequests_16, if_neg (nI_ge (by omega) (by omega)), q1, ob_eq]
      dsimp only
      rw [q2, ob_eq]
      dsimp only
      rw [q3, ob_eq, nA_1]
      exact p1 K2
    · show bfX6_ticks_37 _ (iter _ m') _ = _
      rw [t37_on h ht hc hd (by omega), q4, ob_eq]
      exact p2 K29
theorem clients_loop (ht : t < 2 ^ 29) (hwl : wl ≤ t + 1) (hlo : lo ≤ t + 1) : ∀ (k c : Nat) {K : Nat} {S : StS} {M : MS}, c + k = 6 → K + 12 * k < 2 ^ 29 → RE F Zf Zb t K lo wl cl sg sv sw S M → ∀ m m', k < m → k < m' → ∃ S' M', iter bfX0_createRequests_2 m (nI c, S) = some S' ∧ iter bfX6_ticks_29 m' (nI c, M) = (ob (fX6_gathers (1 : Int32) M') fun u46 => iter (bfX6_ticks_79) FU (u46.1, (0 : Int32), u46.2)) ∧ RE F Zf Zb t (K + 12 * k) lo wl cl sg sv sw S' M' ∧ Kp sv S S' := by
  intro k
  induction k with
  | zero =>
    intro c K S M hj hK h m m' hm hm'
    obtain ⟨m, rfl⟩ : ∃ k, m = k + 1 := ⟨m - 1, by omega⟩
    obtain ⟨m', rfl⟩ : ∃ k, m' = k + 1 := ⟨m' - 1, by omega⟩
    obtain rfl : c = 6 := by omega
    refine ⟨S, M, ?_, ?_, h, Kp.rf sv S⟩
    · show bfX0_createRequests_2 _ _ = _
      rw [bfX0_createRequests_2, if_pos (by decide)]
    · show bfX6_ticks_29 _ _ = _
      rw [bfX6_ticks_29, if_pos (by decide)]
  | succ k ih =>
    intro c K S M hj hK h m m' hm hm'
    obtain ⟨m, rfl⟩ : ∃ k, m = k + 1 := ⟨m - 1, by omega⟩
    obtain ⟨m', rfl⟩ : ∃ k, m' = k + 1 := ⟨m' - 1, by omega⟩
    have hc : c < 6 := by omega
    obtain ⟨nr, r, N, nq, nb, qs, ws, fb, gb, at_, ow, h⟩ := h
    have hb : ∃ b, b ≤ 4 ∧ (due1 cl t c → b = fac sg t c) ∧ (¬ due1 cl t c → b = 0) ∧ fX0_births (nI c) S = some (nI b) := by
      by_cases e : due1 cl t c
      · exact ⟨fac sg t c, fac_le h.1.2.1 hc, fun _ => rfl, fun z => absurd e z, (births_X h ht hc).1 e⟩
      · exact ⟨0, by omega, fun z => absurd z e, fun _ => rfl, (births_X h ht hc).2 e⟩
    obtain ⟨b, b1, b2, b3, b4⟩ := hb
    obtain ⟨S1, M1, q1, q2, q3, q4⟩ := born_loop ht hwl hlo hc b2 b3 b1 b 0 (by omega) (by omega) ⟨_, _, _, _, _, _, _, _, _, _, _, h⟩ FU FU (by unfold FU; omega) (by unfold FU; omega)
    obtain ⟨S', M', p1, p2, p3, p4⟩ := ih (c + 1) (by omega) (by omega) (q3.kle (K' := K + 12) (by omega)) m m' (by omega) (by omega)
    refine ⟨S', M', ?_, ?_, by rw [show K + 12 * (k + 1) = K + 12 + 12 * k by omega]; exact p3, q4.tr p4⟩
    · show bfX0_createRequests_2 (iter _ m) _ = _
      rw [bfX0_createRequests_2, if_neg (fun z => by have := (len_6 (by omega)).mp z; omega), b4, ob_eq]
      exact (q1 _).trans p1
    · show bfX6_ticks_29 (iter _ m') _ = _
      rw [bfX6_ticks_29, if_neg (fun z => by have := (len_6 (by omega)).mp z; omega)]
      exact (q2 _).trans p2
end BS
