/-! a back worker takes -/
def RE (F : Fx) (Zf Zb : Nat → Prop) (t K lo wl : Nat) (cl sg : N2) (sv sw : N1) (S : StS) (M : MS) : Prop := ∃ (nr : Nat) (r : N2) (N nq nb : Nat) (qs ws fb gb : N1) (at_ : N2) (ow : N1), RG F (fun _ => False) Zf Zb t K lo wl cl sg sv sw nr r N nq nb qs ws fb gb at_ ow S M
theorem max0 {a b : Nat} (ha : a < 2 ^ 30) (hb : b < 2 ^ 30) : (if (0 : Int32) < nI a - nI b then nI a - nI b else 0) = nI (a - b) := by
  by_cases h : b < a
  · rw [pk_sub (by omega), if_pos ((ltn_0 (by omega)).mpr (by omega))]
  · by_cases e : a = b
    · subst e
      rw [pk_sub (Nat.le_refl _), Nat.sub_self]
      rfl
    · rw [if_neg (fun z => Int32.lt_irrefl (a := 0) (Int32.lt_trans z (pk_sneg hb (by omega)))), show a - b = 0 by omega]
      rfl
section KL
variable {F : Fx} {E Zf Zb : Nat → Prop} {t K lo wl : Nat} {cl sg : N2} {sv sw : N1} {nr : Nat} {r : N2} {N nq nb : Nat} {qs ws fb gb : N1} {at_ : N2} {ow : N1} {S S' : StS} {M M' : MS}
theorem sg7 (h : (S.1 7).1 = 4) {w c : Nat} (hw : w < 4) (hc : c < 6) : sget 7 S (nI w) (nI c) = (S.1 7).2 w c := tg (w := 6) (rows := 4) (by omega) hw hc (by omega) (by omega)
theorem sp7 (h : (S.1 7).1 = 4) {w c : Nat} {z : Int32} (hw : w < 4) (hc : c < 6) : sput 7 S (nI w) (nI c) z = sset S 7 (4, fup (S.1 7).2 w c z) := by
  show sset S 7 (tput 6 4 (S.1 7) (nI w) (nI c) z) = _
  rw [tp (by omega) hw hc (by omega) (by omega), h]
theorem sg9 (h : (S.1 9).1 = 4) {w : Nat} (hw : w < 4) : sget 9 S (nI w) (0 : Int32) = (S.1 9).2 w 0 := tg (w := 1) (rows := 4) (j := 0) (by omega) hw (by omega) (by omega) (by omega)
theorem sp9 (h : (S.1 9).1 = 4) {w : Nat} {z : Int32} (hw : w < 4) : sput 9 S (nI w) (0 : Int32) z = sset S 9 (4, fup (S.1 9).2 w 0 z) := by
  show sset S 9 (tput 1 4 (S.1 9) (nI w) (nI 0) z) = _
  rw [tp (by omega) hw (by omega) (by omega) (by omega), h]
theorem sg8 {k : Nat} (h : k < (S.1 8).1) (hk : k < 16) : sget 8 S (nI k) (0 : Int32) = (S.1 8).2 k 0 := tg (w := 1) (rows := 16) (j := 0) h hk (by omega) (by omega) (by omega)
theorem sg6 {k c : Nat} (h : k < (S.1 6).1) (hk : k < 16) (hc : c < 6) : sget 6 S (nI k) (nI c) = (S.1 6).2 k c := tg (w := 6) (rows := 16) h hk hc (by omega) (by omega)
theorem waste_eval (h : (S.1 7).1 = 4) {f : Nat} (hf : f < 4) : fX1_waste (nI f) S = some ((S.1 7).2 f 0, sset (S.1, upd S.2 16 (S.2 16 + (S.1 7).2 f 4)) 7 (4, fup (S.1 7).2 f 0 (-9))) := by
  unfold fX1_waste
  rw [nm, nm, nm, show sget 7 S (nI f) (0 : Int32) = (S.1 7).2 f 0 from sg7 h hf (c := 0) (by omega), show sget 7 S (nI f) (4 : Int32) = (S.1 7).2 f 4 from sg7 h hf (c := 4) (by omega), show (0 : Int32) = nI 0 from rfl, sp7 (S := (S.1, upd S.2 16 (S.2 16 + (S.1 7).2 f 4))) h hf (by omega)]
/-- whether an attempt is hopeless, by the numbers -/
theorem hope7 (h : RG F E Zf Zb t K lo wl cl sg sv sw nr r N nq nb qs ws fb gb at_ ow S M) (ht : t < 2 ^ 29) {f a : Nat} (hf : f < 4) (ha : ws f = a + 1) : fX1_isHopeless_7 (nI f) S = some (if sw 1 = 1 ∧ at_ a 1 - t < at_ a 3 + at_ a 5 then 1 else 0) := by
  have hF := h.2.2.2.2.1.2.2.1
  obtain ⟨d1, d2, d3, ⟨d4, d5, d6, d7, d8, d9⟩, d10, d11, d12, d13, d14, d15⟩ := (hF.2 f hf).2.2 a ha
  have ho := (h.owner d1 d2).2.2.2
  have e12 : S.2 12 = nI t := h.2.2.1.2.1
  have hW := h.1.2.2.2.1
  have ew : sget 4 S (1 : Int32) (0 : Int32) = nI (sw 1) := (tg (w := 1) (rows := 3) (T := S.1 4) (i := 1) (j := 0) (by rw [hW.1]; decide) (by omega) (by omega) (by omega) (by omega)).trans (hW.2 1 (by omega)).1
  have w1 := (hW.2 1 (by omega)).2.2
  unfold fX1_isHopeless_7
  rw [show sget 7 S (nI f) (1 : Int32) = nI (at_ a 1) from (sg7 hF.1 hf (c := 1) (by omega)).trans d5, show sget 7 S (nI f) (2 : Int32) = nI (at_ a 3) from (sg7 hF.1 hf (c := 2) (by omega)).trans d6, show sget 7 S (nI f) (3 : Int32) = nI (at_ a 5) from (sg7 hF.1 hf (c := 3) (by omega)).trans d7, e12, show (if (0 : Int32) < nI (at_ a 1) - nI t then nI (at_ a 1) - nI t else (0 : Int32)) = nI (at_ a 1 - t) from max0 (by omega) (by omega), nm, nm, ew, nI_add]
  by_cases e : sw 1 = 1
  · rw [if_pos ((eqn_1 (by omega)).mpr e)]
    by_cases e2 : at_ a 3 + at_ a 5 ≤ at_ a 1 - t
    · rw [if_pos (nI_le e2 (by omega)), if_neg (by omega)]
      rfl
    · rw [if_neg (nI_ge (by omega) (by omega)), if_pos ⟨e, by omega⟩]
      rfl
  · rw [if_neg (fun z => e ((eqn_1 (by omega)).mp z)), if_neg (fun z => e z.1)]
    rfl
theorem isOn_k (h : RG F E Zf Zb t K lo wl cl sg sv sw nr r N nq nb qs ws fb gb at_ ow S M) {k : Nat} (hk : k < 3) : fX6_isOn (nI k) M = some (if sw k = 1 then 1 else 0) := by
  have hW := h.1.2.2.2.1
  have w1 := (hW.2 k hk).2.2
  rw [isOn_n hk, (hW.2 k hk).2.1]
  by_cases e : sw k = 1
  · rw [if_pos ((eqn_1 (by omega)).mpr e), if_pos e]
  · rw [if_neg (fun z => e ((eqn_1 (by omega)).mp z)), if_neg e]
theorem left_eval (h : RG F E Zf Zb t K lo wl cl sg sv sw nr r N nq nb qs ws fb gb at_ ow S M) (hlo : t ≤ lo) (hN : N < 2 ^ 30) {a : Nat} (ha : a < 24) (hu : at_ a 9 = 1) : fX6_left (nI a) M = some (nI (at_ a 1 - t)) := by
  obtain ⟨o1, o2, o3, o4⟩ := h.owner ha hu
  have hA := (h.2.2.2.2.1.1 a ha).2.2 hu
  have e5 : M.2.2 5 = nI t := h.2.2.2.2.2.2.1
  unfold fX6_left bfX6_left_38
  rw [slot_eq, ob_eq, nA_0, if_pos (okI_nI (by omega) (by decide)), nI_clamp (by omega), Nat.add_zero, hA.1]
  rcases o2 with z | ⟨i, i1, i2, i3, i4, i5, i6, i7⟩
  · rw [if_pos ((owI_8 (by omega)).mpr z)]
    have := o3 z
    rw [show at_ a 1 - t = 0 by omega]
    rfl
  · rw [if_neg (fun z => by have := (owI_8 (by omega)).mp z; omega), ob_eq, nA_1, if_pos (okI_nI (by omega) (by decide)), nI_clamp (by omega), hA.2 1 (by omega) (by omega), e5, pk_sub (by omega)]
theorem fail_none (h : RG F E Zf Zb t K lo wl cl sg sv sw nr r N nq nb qs ws fb gb at_ ow S M) (hN : N < 2 ^ 30) (y : Int32) : fX0_fail (-9 : Int32) y S = some S := by
  unfold fX0_fail
  rw [gR.find_none rfl h.2.2.2.1 (x := -9) (fun i hi => nI_neg (by have := (h.2.2.2.1.2.2.2.2.2 i hi).1; omega) (by decide)), nm, if_pos rfl]
end KL
