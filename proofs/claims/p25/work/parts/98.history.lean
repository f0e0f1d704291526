/-! the end of a tick: its history -/
theorem nx_xor (a b : Nat) : nI a ^^^ nI b = nI (a ^^^ b) := by
  apply Int32.toBitVec_inj.1
  show BitVec.ofNat 32 a ^^^ BitVec.ofNat 32 b = BitVec.ofNat 32 (a ^^^ b)
  apply BitVec.eq_of_getLsbD_eq
  intro i hi
  simp [hi]
theorem fm64 {t : Nat} (ht : t < 2 ^ 29) : fJ9_floorMod_7cf53 (nI t) (64 : Int32) = some (nI (t % 64)) := by
  have hx : (0 : Int32) ≤ nI t ^^^ (64 : Int32) := by
    rw [show (64 : Int32) = nI 64 from rfl, nx_xor]
    have := Nat.xor_lt_two_pow (x := t) (y := 64) (n := 29) ht (by decide)
    exact nI_pos' (by omega)
  unfold fJ9_floorMod_7cf53 bfJ9_floorMod_7cf53_18
  rw [if_neg (by decide), nm, if_pos hx, show (64 : Int32) = nI 64 from rfl, rem_nI (by omega) (by omega) (by omega)]
section HI
variable {F : Fx} {E Zf Zb : Nat → Prop} {t K lo wl : Nat} {cl sg : N2} {sv sw : N1} {nr : Nat} {r : N2} {N nq nb : Nat} {qs ws fb gb : N1} {at_ : N2} {ow : N1} {S S' : StS} {M M' : MS}
/-- the relation at rest: without the reference's own numbers -/
def RZ (g0 t K : Nat) (cl sg : N2) (sv sw : N1) (S : StS) (p : Pg) : Prop := ∃ (nr : Nat) (r : N2) (N nq nb : Nat) (qs ws fb gb : N1) (at_ : N2) (ow : N1), gX S p cl sg sv sw t nq nb ∧ gT (S.1 1) p K ∧ gD S.2 p t N K g0 ∧ gR (S.1 5) p nr r t N (t + 1) t (fun _ => False) ∧ gY S p nq nb qs ws fb gb at_ ow (fun _ => False) (fun _ => False) ∧ gL p nr r at_ ow t (fun _ => False)
def phist (p : Pg) (i : Nat) (a b c d g : Int32) : Pg := upd (upd (upd (upd (upd p (599 + 4 * i) a) (599 + 4 * i + 1) b) (599 + 4 * i + 2) c) (599 + 4 * i + 3) d) 187 g
def thist (T : Tb) (i : Nat) (a b c d : Int32) : Tb := (T.1, fup (fup (fup (fup T.2 i 0 a) i 1 b) i 2 c) i 3 d)
theorem RG.hist (h : RG F (fun _ => False) (fun _ => False) (fun _ => False) t K (t + 1) t cl sg sv sw nr r N nq nb qs ws fb gb at_ ow S M) {i : Nat} (hi : i < 64) (a b c d g : Int32) : RZ F.2.2 t K cl sg sv sw ((sset S 10 (thist (S.1 10) i a b c d)).1, upd S.2 17 g) (phist M.1 i a b c d g) := by
  have q := h.nqb
  obtain ⟨hX, hT, hD, hR, hY, hL, hN⟩ := h
  have hp : ∀ x, x ≠ 187 → (x < 599 ∨ 855 ≤ x) → phist M.1 i a b c d g x = M.1 x := fun x h1 h2 => by
    unfold phist
    rw [up_n h1, up_n (by omega), up_n (by omega), up_n (by omega), up_n (by omega)]
  have hs : ∀ k, k ≠ 10 → ((sset S 10 (thist (S.1 10) i a b c d)).1, upd S.2 17 g).1 k = S.1 k := fun k hk => show (sset S 10 _).1 k = _ from ss_n hk
  refine ⟨nr, r, N, nq, nb, qs, ws, fb, gb, at_, ow, ?_, ?_, ?_, ?_, ?_, ?_⟩
  · obtain ⟨a1, a2, a3, a4, a5⟩ := hX
    unfold gX
    rw [hs 0 (by omega), hs 2 (by omega), hs 3 (by omega), hs 4 (by omega)]
    refine ⟨a1.cg fun x _ => hp x (by omega) (by omega), a2.cg (Nat.le_refl _) fun x _ _ => hp x (by omega) (by omega), a3.cg q.1 q.2.1 fun x _ _ => hp x (by omega) (by omega), a4.cg fun x _ _ => hp x (by omega) (by omega), ?_⟩
    show gH ((sset S 10 (thist (S.1 10) i a b c d)).1 10) _
    rw [ss_s]
    refine ⟨a5.1, fun k j hk hj => ?_⟩
    show fup (fup (fup (fup (S.1 10).2 i 0 a) i 1 b) i 2 c) i 3 d k j = phist M.1 i a b c d g (599 + 4 * k + j)
    unfold phist
    rw [up_n (by omega)]
    by_cases e : k = i
    · subst e
      match j, hj with
      | 0, _ => rw [fup_c (by decide), fup_c (by decide), fup_c (by decide), fup_s rfl rfl, up_n (by omega), up_n (by omega), up_n (by omega), up_s (by omega)]
      | 1, _ => rw [fup_c (by decide), fup_c (by decide), fup_s rfl rfl, up_n (by omega), up_n (by omega), up_s (by omega)]
      | 2, _ => rw [fup_c (by decide), fup_s rfl rfl, up_n (by omega), up_s (by omega)]
      | 3, _ => rw [fup_s rfl rfl, up_s (by omega)]
      | j + 4, hj => exact absurd hj (by omega)
    · rw [fup_r e, fup_r e, fup_r e, fup_r e, up_n (by omega), up_n (by omega), up_n (by omega), up_n (by omega)]
      exact a5.2 k j hk hj
  · rw [hs 1 (by omega)]
    exact hT.cg (Nat.le_refl _) (fun x _ _ => hp x (by omega) (by omega))
  · obtain ⟨⟨d0, a1, a2, a3⟩, b', c', d', f, g', k, ⟨g0, l1, l2, l3⟩, m, n⟩ := hD
    have hu : ∀ k, k ≠ 17 → upd S.2 17 g k = S.2 k := fun k hk => up_n hk
    refine ⟨⟨d0, (hu 11 (by omega)).trans a1, (hp 178 (by omega) (by omega)).trans a2, a3⟩, (hu 12 (by omega)).trans b', (hp 182 (by omega) (by omega)).trans c', ((hu 13 (by omega)).trans d').trans (hp 184 (by omega) (by omega)).symm, (hu 14 (by omega)).trans f, (hp 183 (by omega) (by omega)).trans g', k, ⟨g0, (hu 15 (by omega)).trans l1, (hp 185 (by omega) (by omega)).trans l2, l3⟩, ((hu 16 (by omega)).trans m).trans (hp 186 (by omega) (by omega)).symm, ?_⟩
    show upd S.2 17 g 17 = phist M.1 i a b c d g 187
    unfold phist
    rw [up_s rfl, up_s rfl]
  · rw [hs 5 (by omega)]
    exact hR.cg (Nat.le_refl _) (Nat.le_refl _) (Nat.le_refl _) (fun x _ _ => hp x (by omega) (by omega))
  · exact hY.cg (fun k h1 h2 => hs k (by omega)) (fun x _ _ => hp x (by omega) (by omega))
  · exact hL.cg q.2.2 (fun x _ _ => hp x (by omega) (by omega))
theorem sp10 {T : Tb} {g : Nat → Int32} (h : T.1 = 64) {i j : Nat} {z : Int32} (hi : i < 64) (hj : j < 4) : sput 10 ((sset S 10 T).1, g) (nI i) (nI j) z = ((sset S 10 (T.1, fup T.2 i j z)).1, g) := by
  show sset ((sset S 10 T).1, g) 10 (tput 4 64 ((sset S 10 T).1 10) (nI i) (nI j) z) = _
  rw [ss_s, tp (by rw [h]; exact hi) hi hj (by omega) (by omega)]
  exact Prod.ext (show (sset (sset S 10 T) 10 (T.1, fup T.2 i j z)).1 = (sset S 10 (T.1, fup T.2 i j z)).1 from congrArg Prod.fst sset2) rfl
end HI
