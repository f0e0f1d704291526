/-! a tick, in both -/
section TK
variable {F : Fx} {E Zf Zb : Nat → Prop} {t K lo wl g0 : Nat} {cl sg : N2} {sv sw : N1} {nr : Nat} {r : N2} {N nq nb : Nat} {qs ws fb gb : N1} {at_ : N2} {ow : N1} {S S' : StS} {M M' : MS}
theorem RZ.kle {K' : Nat} {p : Pg} (h : RZ g0 t K cl sg sv sw S p) (hK : K ≤ K') : RZ g0 t K' cl sg sv sw S p := by
  obtain ⟨nr, r, N, nq, nb, qs, ws, fb, gb, at_, ow, hX, hT, hD, hR, hY, hL⟩ := h
  exact ⟨nr, r, N, nq, nb, qs, ws, fb, gb, at_, ow, hX, hT.cg hK (fun _ _ _ => rfl), hD.cg hK (fun _ _ _ => rfl) (fun _ _ => rfl), hR, hY, hL⟩
theorem sp10s {T : Tb} (h : T.1 = 64) {i j : Nat} {z : Int32} (hi : i < 64) (hj : j < 4) : sput 10 (sset S 10 T) (nI i) (nI j) z = sset S 10 (T.1, fup T.2 i j z) := by
  show sset (sset S 10 T) 10 (tput 4 64 ((sset S 10 T).1 10) (nI i) (nI j) z) = _
  rw [ss_s, tp (by rw [h]; exact hi) hi hj (by omega) (by omega), sset2]
theorem ssum_10 {T : Tb} {c : Int32} : ssum 1 (sset S 10 T) c = ssum 1 S c := by
  show tsum 14 6 ((sset S 10 T).1 1) c = tsum 14 6 (S.1 1) c
  rw [ss_n (by omega)]
theorem ssize_10 {T : Tb} : ssize 6 (sset S 10 T) = ssize 6 S := by
  show nI (tz 16 ((sset S 10 T).1 6)) = nI (tz 16 (S.1 6))
  rw [ss_n (by omega)]
theorem i32_sub {x y z : Int32} (h : x = y + z) : x - y = z := by rw [h, Int32.add_comm, Int32.add_sub_cancel]
/-- the last part of a tick, in the reference -/
theorem last_M {n i : Nat} (hn : n < 2 ^ 30) (ht : t < 2 ^ 29) (hi : i = t % 64) (e5 : M.2.2 5 = nI (t + 1)) : bfX6_ticks_224 (fun _ => none) (nI n, nI n, M) = some (phist M.1 i (M.1 557) (M.2.2 6) (M.2.2 7) (M.2.2 8) (if M.1 557 ≤ M.1 187 then M.1 187 else M.1 557), M.2) := by
  have hl : i < 64 := by rw [hi]; exact Nat.mod_lt _ (by decide)
  have e27 : ((599 : Int32) + ((4 : Int32) * (((M.2.2 5) - (1 : Int32)) - ((M.2.2 5) - (1 : Int32)) / (64 : Int32) * (64 : Int32)))) = nI (599 + 4 * i) := by
    rw [e5, show nI (t + 1) - (1 : Int32) = nI t from pk_sub (b := 1) (by omega), show (64 : Int32) = nI 64 from rfl, rem_nI (by omega) (by omega) (by omega), ← hi, nM_4, nB_599]
  rw [bfX6_ticks_224, if_pos (nI_le (Nat.le_refl _) (by omega)), e27, nm, nA_1, nA_2, nA_3, if_pos (okI_nI (by omega) (by decide)), nm, if_pos (okI_nI (by omega) (by decide)), nm, if_pos (okI_nI (by omega) (by decide)), nm, if_pos (okI_nI (by omega) (by decide)), nm, nI_clamp (by omega), nI_clamp (by omega), nI_clamp (by omega), nI_clamp (by omega), cl_557, cl_187]
  unfold bfX6_ticks_356
  rw [if_pos (ok_187.mpr trivial), if_pos (ok_187.mpr trivial), nm, nm, cl_187]
  dsimp only
  have e1 : upd (upd (upd (upd M.1 (599 + 4 * i) (M.1 557)) (599 + 4 * i + 1) (M.2.2 6)) (599 + 4 * i + 2) (M.2.2 7)) (599 + 4 * i + 3) (M.2.2 8) 557 = M.1 557 := by rw [up_n (by omega), up_n (by omega), up_n (by omega), up_n (by omega)]
  have e2 : upd (upd (upd (upd M.1 (599 + 4 * i) (M.1 557)) (599 + 4 * i + 1) (M.2.2 6)) (599 + 4 * i + 2) (M.2.2 7)) (599 + 4 * i + 3) (M.2.2 8) 187 = M.1 187 := by rw [up_n (by omega), up_n (by omega), up_n (by omega), up_n (by omega)]
  simp only [e1, e2]
  unfold phist
  by_cases c : M.1 557 ≤ M.1 187
  · rw [if_pos c, if_pos c]
  · rw [if_neg c, if_neg c]
/-- .. and in the class -/
def passE (A B : Int32) (W : Int32) (u30 : StS) : Option StS := ob (fJ9_floorMod_7cf53 (((u30.2 12) - (1 : Int32))) (64 : Int32)) fun u31 => nm (sput 10 u30 u31 (0 : Int32) ((ssize 6 u30))) fun S32 => ob (fX2_total (2 : Int32) S32) fun u33 => nm (sput 10 S32 u31 (1 : Int32) ((u33 - A))) fun S34 => ob (fX2_total (1 : Int32) S34) fun u35 => nm (sput 10 S34 u31 (2 : Int32) ((u35 - B))) fun S36 => nm (sput 10 S36 u31 (3 : Int32) (((S36.2 16) - W))) fun S37 => nm (S37.1, upd S37.2 17 (if (S37.2 17) < (ssize 6 S37) then (ssize 6 S37) else (S37.2 17))) fun S38 => some S38
theorem last_X {i : Nat} (ht : t < 2 ^ 29) (hi : i = t % 64) (h10 : (S.1 10).1 = 64) (e12 : S.2 12 = nI (t + 1)) (A B W : Int32) : passE A B W S = some ((sset S 10 (thist (S.1 10) i (ssize 6 S) (ssum 1 S 2 - A) (ssum 1 S 1 - B) (S.2 16 - W))).1, upd S.2 17 (if S.2 17 < ssize 6 S then ssize 6 S else S.2 17)) := by
  have hl : i < 64 := by rw [hi]; exact Nat.mod_lt _ (by decide)
  have e0 : sput 10 S (nI i) (nI 0) (ssize 6 S) = sset S 10 ((S.1 10).1, fup (S.1 10).2 i 0 (ssize 6 S)) := by
    have := sp10s (S := S) (T := S.1 10) (j := 0) (z := ssize 6 S) h10 hl (by omega)
    rw [ss_id] at this
    exact this
  have sq : ∀ (f : Nat → Nat → Int32) (j : Nat) (z : Int32), j < 4 → sput 10 (sset S 10 ((S.1 10).1, f)) (nI i) (nI j) z = sset S 10 ((S.1 10).1, fup f i j z) := fun f j z hj => sp10s (T := ((S.1 10).1, f)) h10 hl hj
  unfold passE fX2_total
  rw [e12, show nI (t + 1) - (1 : Int32) = nI t from pk_sub (b := 1) (by omega), fm64 ht, ob_eq, ← hi, show (0 : Int32) = nI 0 from rfl, show (1 : Int32) = nI 1 from rfl, show (2 : Int32) = nI 2 from rfl, show (3 : Int32) = nI 3 from rfl, e0, nm, ob_eq, ssum_10, sq _ _ _ (by omega), nm, ob_eq, ssum_10, sq _ _ _ (by omega), nm]
  rw [show (sset S 10 ((S.1 10).1, fup (fup (fup (S.1 10).2 i 0 (ssize 6 S)) i 1 (ssum 1 S (nI 2) - A)) i 2 (ssum 1 S (nI 1) - B))).2 16 = S.2 16 from rfl, sq _ _ _ (by omega), nm, ssize_10, nm]
  rfl
end TK
