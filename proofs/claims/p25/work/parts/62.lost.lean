/-! an attempt has left: its request, if it has one, fails -/
def OthO (nr : Nat) (r : N2) (nr' : Nat) (r' : N2) (o t : Nat) : Prop := (∀ w y, Due nr' r' w t y ↔ Due nr r w t y ∧ y + 1 ≠ o) ∧ ∀ k, k < nr → r k 0 + 1 ≠ o → ∃ k', k' < nr' ∧ ∀ c, r' k' c = r k c
theorem Oth.o {nr nr' x t : Nat} {r r' : N2} (h : Oth nr r nr' r' x t) : OthO nr r nr' r' (x + 1) t := ⟨fun w y => (h.1 w y).trans ⟨fun z => ⟨z.1, by have := z.2; omega⟩, fun z => ⟨z.1, by have := z.2; omega⟩⟩, fun k hk hne => h.2 k hk (by omega)⟩
theorem OthO.rf (nr : Nat) (r : N2) (t : Nat) : OthO nr r nr r 0 t := ⟨fun w y => ⟨fun z => ⟨z, by omega⟩, fun z => z.1⟩, fun k hk _ => ⟨k, hk, fun _ => rfl⟩⟩
def lv0 (M : MS) (a : Nat) : MS := (upd (upd M.1 186 (M.1 186 + M.1 (317 + 10 * a + 6))) (317 + 10 * a + 9) 0, M.2.1, upd M.2.2 8 (M.2.2 8 + M.1 (317 + 10 * a + 6)))
def lv1 (M : MS) (a : Nat) : MS := (upd (upd M.1 185 (M.1 185 + M.1 (317 + 10 * a + 6))) (317 + 10 * a + 9) 0, M.2)
theorem leaves_lv0 {a : Nat} (ha : a < 24) (M : MS) : fX6_leaves (nI a) 0 M = some (lv0 M a) := by
  rw [leaves_0 ha M, Int32.add_zero, upd_self]
  rfl
theorem leaves_lv1 {a : Nat} (ha : a < 24) (M : MS) : fX6_leaves (nI a) 1 M = some (lv1 M a) := by
  rw [leaves_1 ha M, Int32.add_zero, Int32.add_zero, upd_self, show upd (upd M.1 185 (M.1 185 + M.1 (317 + 10 * a + 6))) 186 (M.1 186) = upd M.1 185 (M.1 185 + M.1 (317 + 10 * a + 6)) from by
    have := upd_self (upd M.1 185 (M.1 185 + M.1 (317 + 10 * a + 6))) 186
    rw [up_n (show (186 : Nat) ≠ 185 by decide)] at this
    exact this]
  rfl
theorem owI_8 {o : Nat} (h : o < 2 ^ 31) : owI o = -8 ↔ o = 0 := by
  cases o with
  | zero => exact ⟨fun _ => rfl, fun _ => rfl⟩
  | succ k => exact ⟨fun z => absurd z (nI_neg (by omega) (by decide)), fun z => absurd z (by omega)⟩
theorem owI_9 {o : Nat} (h : o < 2 ^ 31) : owI o ≠ -9 := by
  cases o with
  | zero => decide
  | succ k => exact nI_neg (by omega) (by decide)
/-- what the reference does with a lost attempt -/
def rlose (o y : Nat) (M : MS) : Option MS := if o = 0 then some M else ob (fX6_placeOf (owI o) M) fun u => fX6_fails u (nI y) M
theorem loses_eval {a o y : Nat} {M : MS} (ha : a < 24) (ho : o < 2 ^ 31) (h : M.1 (317 + 10 * a) = owI o) : fX6_loses (nI a) (nI y) M = rlose o y (lv0 M a) := by
  unfold fX6_loses bfX6_loses_35 rlose
  rw [slot_eq, ob_eq, nA_0, if_pos (okI_nI (by omega) (by decide)), nI_clamp (by omega), nm, leaves_lv0 ha, ob_eq, Nat.add_zero, h]
  by_cases e : o = 0
  · rw [if_pos ((owI_8 ho).mpr e), if_pos e]
  · rw [if_neg (fun z => e ((owI_8 ho).mp z)), if_neg e]
    congr 1
    funext u
    cases fX6_fails u (nI y) (lv0 M a) <;> rfl
section GL
variable {F : Fx} {E Zf Zb : Nat → Prop} {t K lo wl : Nat} {cl sg : N2} {sv sw : N1} {nr : Nat} {r : N2} {N nq nb : Nat} {qs ws fb gb : N1} {at_ : N2} {ow : N1} {S S' : StS} {M M' : MS}
theorem RG.eE {E' : Nat → Prop} (h : RG F E Zf Zb t K lo wl cl sg sv sw nr r N nq nb qs ws fb gb at_ ow S M) (e : ∀ x, E x ↔ E' x) : RG F E' Zf Zb t K lo wl cl sg sv sw nr r N nq nb qs ws fb gb at_ ow S M := by
  have : E = E' := funext fun x => propext (e x)
  rw [← this]
  exact h
/-- the owner of a slot in use -/
theorem RG.owner (h : RG F E Zf Zb t K lo wl cl sg sv sw nr r N nq nb qs ws fb gb at_ ow S M) {a : Nat} (ha : a < 24) (hu : at_ a 9 = 1) : ow a ≤ N ∧ (ow a = 0 ∨ ∃ i, i < nr ∧ r i 0 + 1 = ow a ∧ ¬ E (r i 0) ∧ 1 ≤ r i 3 ∧ r i 4 = 0 ∧ r i 5 = at_ a 1 ∧ lo ≤ at_ a 1) ∧ (ow a = 0 → at_ a 1 ≤ t) ∧ at_ a 1 ≤ t + 64 := by
  obtain ⟨hX, hT, hD, hR, hY, hL, hN⟩ := h
  obtain ⟨c1, c2⟩ := hL.2 a ha hu
  rcases c2 with ⟨z, z2⟩ | ⟨i, i1, i2, i3, i4, i5⟩
  · exact ⟨by omega, Or.inl z, fun _ => z2, c1⟩
  · obtain ⟨b1, b2, b3, b4, b5, b6, b7, b8, b9, b10⟩ := hR.2.2.2.2.2 i i1
    have d5 := (hL.1 i i1 i3 i5).2.2.2.2
    rw [i4] at d5
    exact ⟨by omega, Or.inr ⟨i, i1, i2, i5, b9 i5, i3, d5, by rw [← d5]; exact b10 i3 i5⟩, fun z => by omega, c1⟩
theorem failO {o y : Nat} (h : RG F (fun x => E x ∨ x + 1 = o) Zf Zb t K lo wl cl sg sv sw nr r N nq nb qs ws fb gb at_ ow S M) (hNb : N < 2 ^ 30) (ht : t < 2 ^ 30) (hwl : wl ≤ t + 1) (ho : o = 0 ∨ ∃ i, i < nr ∧ r i 0 + 1 = o ∧ ¬ E (r i 0) ∧ 1 ≤ r i 3) (hy : 4 ≤ y) (hy2 : y ≤ 6) : ∃ S' M' nr' r', fX0_fail (owI o) (nI y) S = some S' ∧ rlose o y M = some M' ∧ RG F E Zf Zb t K lo wl cl sg sv sw nr' r' N nq nb qs ws fb gb at_ ow S' M' ∧ OthO nr r nr' r' o t ∧ M'.2.1 = M.2.1 := by
  rcases ho with e | ⟨i, i1, i2, i3, i4⟩
  · subst e
    refine ⟨S, M, nr, r, ?_, if_pos rfl, h.eE (fun x => ⟨fun z => z.resolve_right (by omega), Or.inl⟩), OthO.rf _ _ _, rfl⟩
    unfold fX0_fail
    rw [show owI 0 = (-8 : Int32) from rfl, gR.find_none rfl h.2.2.2.1 (x := -8) (fun i hi => nI_neg (by have := (h.2.2.2.1.2.2.2.2.2 i hi).1; omega) (by decide)), nm, if_pos rfl]
  · have e : owI o = nI (r i 0) := by rw [← i2]; rfl
    obtain ⟨S', M', nr', r', q1, q2, q3, q4, q5⟩ := fail_rel h hNb ht hwl i1 (Or.inr i2) i4 hy hy2
    refine ⟨S', M', nr', r', by rw [e]; exact q1, ?_, q3.eE (fun x => ⟨?_, fun z => ⟨Or.inl z, fun e2 => i3 (by rw [← e2]; exact z)⟩⟩), by rw [← i2]; exact q4.o, q5⟩
    · unfold rlose
      rw [if_neg (by omega), e, h.2.2.2.1.place (by omega) i1, ob_eq]
      exact q2
    · rintro ⟨z | z, z2⟩
      · exact z
      · omega
/-- an attempt at a worker leaves it, and its work is wasted -/
theorem RG.wasteW (h : RG F E Zf Zb t K lo wl cl sg sv sw nr r N nq nb qs ws fb gb at_ ow S M) {f v a : Nat} (hf : f < 4) (ha : ws f = a + 1) (hv : v < 4 → gb v = f + 1) (hv2 : ∀ w, w < 4 → gb w = f + 1 → w = v) (hb : ∀ k, k < nb → fb k ≠ f)
    (s7 : (S'.1 7).1 = 4 ∧ (S'.1 7).2 f 0 = -9 ∧ ∀ w j, w ≠ f → (S'.1 7).2 w j = (S.1 7).2 w j) (s9 : (S'.1 9).1 = 4 ∧ (v < 4 → (S'.1 9).2 v 0 = -9) ∧ ∀ w, w < 4 → w ≠ v → (S'.1 9).2 w 0 = (S.1 9).2 w 0) (sk : ∀ k, k ≠ 7 → k ≠ 9 → S'.1 k = S.1 k) (s2 : S'.2 = upd S.2 16 (S.2 16 + nI (at_ a 6)))
    (hp : ∀ x, x ≠ 186 → x ≠ 591 + f → (x ≠ 595 + v ∨ 4 ≤ v) → x ≠ 317 + 10 * a + 9 → M'.1 x = M.1 x) (h186 : M'.1 186 = M.1 186 + nI (at_ a 6)) (h9 : M'.1 (317 + 10 * a + 9) = nI 0) (hf9 : M'.1 (591 + f) = -9) (hv9 : v < 4 → M'.1 (595 + v) = -9) (hr : M'.2.2 = upd M.2.2 8 (M.2.2 8 + nI (at_ a 6))) : RG F (fun x => E x ∨ x + 1 = ow a) Zf Zb t K lo wl cl sg sv sw nr r N nq nb qs (z1 ws f) fb (z1 gb v) (uoff at_ a) ow S' M' := by
  refine (h.waste (nI (at_ a 6))).freeW hf ha hv hv2 hb s7 s9 sk s2 (fun x x1 x2 x3 => ?_) h9 hf9 hv9 hr
  show M'.1 x = upd M.1 186 (M.1 186 + nI (at_ a 6)) x
  by_cases e : x = 186
  · rw [up_s e, e, h186]
  · rw [up_n e]
    exact hp x e x1 x2 x3
/-- .. or good -/
theorem RG.goodF (h : RG F E Zf Zb t K lo wl cl sg sv sw nr r N nq nb qs ws fb gb at_ ow S M) {f v a : Nat} (hf : f < 4) (ha : ws f = a + 1) (hv : v < 4 → gb v = f + 1) (hv2 : ∀ w, w < 4 → gb w = f + 1 → w = v) (hb : ∀ k, k < nb → fb k ≠ f)
    (s7 : (S'.1 7).1 = 4 ∧ (S'.1 7).2 f 0 = -9 ∧ ∀ w j, w ≠ f → (S'.1 7).2 w j = (S.1 7).2 w j) (s9 : (S'.1 9).1 = 4 ∧ (v < 4 → (S'.1 9).2 v 0 = -9) ∧ ∀ w, w < 4 → w ≠ v → (S'.1 9).2 w 0 = (S.1 9).2 w 0) (sk : ∀ k, k ≠ 7 → k ≠ 9 → S'.1 k = S.1 k) (s2 : S'.2 = upd S.2 15 (S.2 15 + nI (at_ a 6)))
    (hp : ∀ x, x ≠ 185 → x ≠ 591 + f → (x ≠ 595 + v ∨ 4 ≤ v) → x ≠ 317 + 10 * a + 9 → M'.1 x = M.1 x) (h185 : M'.1 185 = M.1 185 + nI (at_ a 6)) (h9 : M'.1 (317 + 10 * a + 9) = nI 0) (hf9 : M'.1 (591 + f) = -9) (hv9 : v < 4 → M'.1 (595 + v) = -9) (hr : M'.2.2 = M.2.2) : RG F (fun x => E x ∨ x + 1 = ow a) Zf Zb t (K + at_ a 6) lo wl cl sg sv sw nr r N nq nb qs (z1 ws f) fb (z1 gb v) (uoff at_ a) ow S' M' := by
  refine (h.goodW (at_ a 6)).freeW hf ha hv hv2 hb s7 s9 sk s2 (fun x x1 x2 x3 => ?_) h9 hf9 hv9 hr
  show M'.1 x = upd M.1 185 (M.1 185 + nI (at_ a 6)) x
  by_cases e : x = 185
  · rw [up_s e, e, h185]
  · rw [up_n e]
    exact hp x e x1 x2 x3
end GL
