/-! step 4: the work is counted -/
section WK
variable {F : Fx} {E Zf Zb : Nat → Prop} {t K lo wl : Nat} {cl sg : N2} {sv sw : N1} {nr : Nat} {r : N2} {N nq nb : Nat} {qs ws fb gb : N1} {at_ : N2} {ow : N1} {S S' : StS} {M : MS}
theorem sumF_b2 {f g : Nat → Int32} {p : Nat → Bool} : ∀ n, (∀ i, i < n → g i = f i + nI (b2 (p i))) → sumF g n = sumF f n + nI (cN p n)
  | 0, _ => by
    show (0 : Int32) = 0 + nI 0
    rfl
  | n + 1, h => by
    show sumF g n + g n = sumF f n + f n + nI (cN p n + b2 (p n))
    rw [sumF_b2 n (fun i hi => h i (by omega)), h n (by omega), ← nI_add, Int32.add_assoc (sumF f n), Int32.add_assoc (sumF f n), ← Int32.add_assoc (nI (cN p n)), Int32.add_comm (nI (cN p n)) (f n), Int32.add_assoc (f n)]
theorem cN_le {p : Nat → Bool} {m : Nat} : ∀ n, (∀ i, i < n → m ≤ i → p i = false) → cN p n ≤ m ∧ cN p n ≤ n
  | 0, _ => ⟨Nat.zero_le _, Nat.le_refl _⟩
  | n + 1, h => by
    have ih := cN_le (p := p) (m := m) n (fun i hi => h i (by omega))
    show cN p n + b2 (p n) ≤ m ∧ cN p n + b2 (p n) ≤ n + 1
    have hb : b2 (p n) ≤ 1 := by
      cases p n with
      | false => exact Nat.zero_le _
      | true => exact Nat.le_refl _
    by_cases e : m ≤ n
    · rw [h n (by omega) e]
      show cN p n + 0 ≤ m ∧ cN p n + 0 ≤ n + 1
      omega
    · omega
theorem work_kx (h : RG F E Zf Zb t K lo wl cl sg sv sw nr r N nq nb qs ws fb gb at_ ow S M) (hN : N < 2 ^ 30) (hh : fX1_work S = some S') {w0 : Int32} {lb : N1} (hx : EX sv o0 lb w0 S) : ∃ n : Nat, n ≤ sv 0 ∧ EX sv o0 lb (w0 + nI n) S' := by
  obtain ⟨X, e1, e2, e3, e4, e5⟩ := workX h hN
  obtain rfl : X = S' := Option.some.inj (e1.symm.trans hh)
  obtain ⟨hA, hW, h7, h9⟩ := hx
  have hF := h.2.2.2.2.1.2.2.1
  have r0 : ∀ w, w < 4 → (X.1 7).2 w 0 = (S.1 7).2 w 0 := fun w hw => by
    rw [e3 w 0 hw]
    unfold wU
    by_cases a : ws w = 0
    · rw [if_pos a]
    · rw [if_neg a]
      by_cases b : at_ (ws w - 1) 7 = 2
      · rw [if_pos b, if_neg (by decide), if_neg (by decide)]
      · rw [if_neg b]
        by_cases c : at_ (ws w - 1) 7 = 4
        · rw [if_pos c, if_neg (by decide), if_neg (by decide)]
        · rw [if_neg c]
  have r4 : ∀ w, w < 4 → (X.1 7).2 w 4 = (S.1 7).2 w 4 + nI (b2 (decide (ws w ≠ 0 ∧ (at_ (ws w - 1) 7 = 2 ∨ at_ (ws w - 1) 7 = 4)))) := fun w hw => by
    rw [e3 w 4 hw]
    unfold wU
    by_cases a : ws w = 0
    · rw [if_pos a, b2_f (fun z => z.1 a)]
      exact (Int32.add_zero _).symm
    · rw [if_neg a]
      by_cases b : at_ (ws w - 1) 7 = 2
      · rw [if_pos b, if_neg (by decide), if_pos rfl, b2_t ⟨a, Or.inl b⟩]
        rfl
      · rw [if_neg b]
        by_cases c : at_ (ws w - 1) 7 = 4
        · rw [if_pos c, if_neg (by decide), if_pos rfl, b2_t ⟨a, Or.inr c⟩]
          rfl
        · rw [if_neg c, b2_f (fun z => z.2.elim b c)]
          exact (Int32.add_zero _).symm
  have hz : ∀ w, w < 4 → (S.1 7).2 w 0 = -9 → ws w = 0 := fun w hw e => by
    apply Classical.byContradiction
    intro z
    obtain ⟨a, ha⟩ : ∃ a, ws w = a + 1 := ⟨ws w - 1, by omega⟩
    obtain ⟨d1, d2, d3, ⟨d4, -⟩, -⟩ := (hF.2 w hw).2.2 a ha
    have ho := (h.owner d1 d2).1
    exact owI_9 (o := ow a) (by omega) (d4.symm.trans e)
  have hs := sumF_b2 (f := ctr (S.1 7)) (g := ctr (X.1 7)) (p := fun w => decide (ws w ≠ 0 ∧ (at_ (ws w - 1) 7 = 2 ∨ at_ (ws w - 1) 7 = 4))) 4 (fun w hw => by
    by_cases e : (S.1 7).2 w 0 = -9
    · rw [ctr_z e, ctr_z ((r0 w hw).trans e), b2_f (fun z => z.1 (hz w hw e))]
      rfl
    · rw [ctr_n e, ctr_n (by rw [r0 w hw]; exact e)]
      exact r4 w hw)
  have hc := cN_le (p := fun w => decide (ws w ≠ 0 ∧ (at_ (ws w - 1) 7 = 2 ∨ at_ (ws w - 1) 7 = 4))) (m := sv 0) 4 (fun w hw hs => decide_eq_false (fun z => z.1 (hz w hw (h7 w hw hs))))
  refine ⟨_, hc.1, hA.cg (e4 0 (by omega)) (e4 1 (by omega)) (e4 5 (by omega)), ?_, fun w hw hs => (r0 w hw).trans (h7 w hw hs), fun w hw hs => by rw [e4 9 (by omega)]; exact h9 w hw hs⟩
  rw [e5]
  show S.2 15 + S.2 16 + sumF (ctr (X.1 7)) 4 = _
  rw [hs, ← hW, ← Int32.add_assoc]
  rfl
end WK
