/-! .. and all of it -/
section NE
variable {F : Fx} {E Zf Zb : Nat → Prop} {t K lo wl : Nat} {cl sg : N2} {sv sw : N1} {nr : Nat} {r : N2} {N nq nb : Nat} {qs ws fb gb : N1} {at_ : N2} {ow : N1} {S S' : StS} {M M' : MS}
theorem nd_end (h : RG F E Zf Zb t K lo wl cl sg sv sw nr r N nq nb qs ws fb gb at_ ow S M) (x y : Int32) (Q : Int32 → Option Int32) : bfX2_nextDue_2 x y S Q (nI nr) = some (-9) := by
  have hR := h.2.2.2.1
  have i16 := hR.2.1
  have sz : ssize 5 S = nI nr := by
    show nI (tz 16 (S.1 5)) = _
    rw [tz_n (by rw [hR.1]; exact i16), hR.1]
  unfold bfX2_nextDue_2
  rw [sz, if_pos (nI_le (Nat.le_refl _) (by omega))]
theorem nd_some (h : RG F E Zf Zb t K lo wl cl sg sv sw nr r N nq nb qs ws fb gb at_ ow S M) (ht : t < 2 ^ 29) {w : Nat} (hw : w ≤ 1) (x : Int32) {k : Nat} (hk : k < nr) (hc : cnd x w t r k) (hn : ∀ j, j < k → ¬ cnd x w t r j) : ∀ n j m, j + n = k → n < m → iter (bfX2_nextDue_2 x (nI w) S) m (nI j) = some (nI (r k 0)) := by
  intro n
  induction n with
  | zero =>
    intro j m hj hm
    obtain ⟨m, rfl⟩ : ∃ k, m = k + 1 := ⟨m - 1, by omega⟩
    obtain rfl : j = k := by omega
    exact (nd_step h ht hw x hk _).1 hc
  | succ n ih =>
    intro j m hj hm
    obtain ⟨m, rfl⟩ : ∃ k, m = k + 1 := ⟨m - 1, by omega⟩
    exact ((nd_step h ht hw x (by omega) _).2 (hn j (by omega))).trans (ih (j + 1) m (by omega) (by omega))
theorem nd_none (h : RG F E Zf Zb t K lo wl cl sg sv sw nr r N nq nb qs ws fb gb at_ ow S M) (ht : t < 2 ^ 29) {w : Nat} (hw : w ≤ 1) (x : Int32) (hn : ∀ j, j < nr → ¬ cnd x w t r j) : ∀ n j m, j + n = nr → n < m → iter (bfX2_nextDue_2 x (nI w) S) m (nI j) = some (-9) := by
  intro n
  induction n with
  | zero =>
    intro j m hj hm
    obtain ⟨m, rfl⟩ : ∃ k, m = k + 1 := ⟨m - 1, by omega⟩
    obtain rfl : j = nr := by omega
    exact nd_end h x (nI w) _
  | succ n ih =>
    intro j m hj hm
    obtain ⟨m, rfl⟩ : ∃ k, m = k + 1 := ⟨m - 1, by omega⟩
    exact ((nd_step h ht hw x (by omega) _).2 (hn j (by omega))).trans (ih (j + 1) m (by omega) (by omega))
end NE
