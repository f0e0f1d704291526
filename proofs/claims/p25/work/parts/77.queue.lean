/-! a request's row is sent: what comes behind its count and its row, in both -/
section PH
variable {F : Fx} {E Zf Zb : Nat → Prop} {t K lo wl : Nat} {cl sg : N2} {sv sw : N1} {nr : Nat} {r : N2} {N nq nb : Nat} {qs ws fb gb : N1} {at_ : N2} {ow : N1} {S S' : StS} {M M' : MS}
def qX (num : Int32) (i : Int32) (S : StS) : Option (Int32 × StS) := if (ssize 6 S) < (sget 3 S (1 : Int32) (0 : Int32)) then bfX0_send_154 num i ((-9 : Int32)) S else (if (sget 4 S (0 : Int32) (0 : Int32)) = 0 then some (num, S) else nm ((sget 6 S (0 : Int32) (0 : Int32))) fun v19 => nm (sdrop 6 S (0 : Int32)) fun S20 => bfX0_send_154 num i v19 S20)
def qM (i num c v : Int32) (M : MS) : Option MS := if (M.1 557) = (M.1 175) then ob (fX6_isOn (0 : Int32) M) fun u101 => (if u101 = 0 then ob (fX6_fails i (4 : Int32) M) fun u104 => some u104 else ob (fX6_pulls (557 : Int32) (558 : Int32) (0 : Int32) M) fun u102 => ob (fX6_loses u102.1 (4 : Int32) u102.2) fun u103 => bfX6_sends_189 i num c v u103) else bfX6_sends_189 i num c v M
theorem queue_rel (h : RG F E Zf Zb t K lo wl cl sg sv sw nr r N nq nb qs ws fb gb at_ ow S M) (hNb : N < 2 ^ 30) (ht : t < 2 ^ 29) (hwl : wl ≤ t + 1) {i : Nat} (hi : i < nr) (hE : E (r i 0)) (h4 : r i 4 = 0) (h3 : 1 ≤ r i 3) (hlo : lo ≤ r i 5) : ∃ x S1 S' M' nr' r' nq' qs' at' ow', qX (nI (r i 0)) (nI i) S = some (x, S1) ∧ fX0_fail x (4 : Int32) S1 = some S' ∧ qM (nI i) (nI (r i 0)) (nI (r i 1)) (nI (r i 5)) M = some M' ∧ RG F (fun x => E x ∧ x ≠ r i 0) Zf Zb t K lo wl cl sg sv sw nr' r' N nq' nb qs' ws fb gb at' ow' S' M' ∧ (∀ y, Due nr' r' 1 t y ↔ Due nr r 1 t y) ∧ M'.2.1 = M.2.1 := by
  have hQ := h.2.2.2.2.1.2.1
  obtain ⟨s1, s2, s3, s4⟩ := srv h.1.2.2.1 (i := 1) (by omega)
  rw [show mxS 1 = 16 from rfl] at s4
  have hq := h.nqb.1
  have hW := h.1.2.2.2.1
  have ew : sget 4 S (0 : Int32) (0 : Int32) = nI (sw 0) := (tg (w := 1) (rows := 3) (T := S.1 4) (i := 0) (j := 0) (by rw [hW.1]; decide) (by omega) (by omega) (by omega) (by omega)).trans (hW.2 0 (by omega)).1
  have w1 := (hW.2 0 (by omega)).2.2
  have eon : fX6_isOn (0 : Int32) M = some (if sw 0 = 1 then 1 else 0) := isOn_k h (k := 0) (by omega)
  have e557 := hQ.2.2.1
  have e175 : M.1 175 = nI (sv 1) := s2
  have hnd : ∀ y, Due nr r 1 t y → y ≠ r i 0 := fun y ⟨j, j1, j2, j3, _⟩ e => by
    have := h.2.2.2.1.ne j1 hi (by omega)
    rw [this] at j3
    omega
  unfold qX qM
  rw [sz6 rfl hQ, show sget 3 S (1 : Int32) (0 : Int32) = nI (sv 1) from s1, ew, eon, e557, e175]
  by_cases c1 : nq < sv 1
  · obtain ⟨a0, x1, M', at', ow', qs', x2, x3, x4⟩ := room_rel h hNb hi hE h4 h3 hlo c1 (nI i)
    rw [if_pos (nI_lt c1 (by omega)), if_neg (fun z => by have := (nI_eq (by omega) (by omega)).mp z; omega)]
    refine ⟨-9, _, _, M', nr, r7 r i a0, _, _, _, _, ?_, fail_none x3 hNb _, x2, x3, fun y => due_r7 1 t y, x4⟩
    unfold bfX0_send_154
    rw [x1, ob_eq]
  · rw [if_neg (nI_nlt (by omega) (by omega)), if_pos ((nI_eq (by omega) (by omega)).mpr (by omega)), ob_eq]
    by_cases c2 : sw 0 = 1
    · obtain ⟨a, o, S1, S', Mp, M1, M', nr', r', nr2, r2, nq', qs', at', ow', y1, y2, y3, y4, y5, y6, y7, y8, y9, y10, y11⟩ := displ_rel h hNb ht hwl hi hE h4 h3 hlo (by omega) (nI i)
      rw [if_neg (fun z => by have := (eqn_0 (by omega)).mp z; omega), if_pos c2, if_neg (show ¬ (1 : Int32) = 0 by decide), nm, nm, y4, ob_eq, y5, ob_eq, y1]
      refine ⟨owI o, S1, S', M', nr', r', _, _, _, _, ?_, y3, y6, y7, fun y => (y9 1 t y).trans ((y8.1 1 y).trans ⟨fun z => z.1, fun z => ⟨z, y10 y z⟩⟩), y11⟩
      unfold bfX0_send_154
      rw [y2, ob_eq]
    · rw [if_pos ((eqn_0 (by omega)).mpr (by omega)), if_neg c2, if_pos rfl]
      obtain ⟨S', M', nr', r', z1, z2, z3, z4, z5⟩ := fail_rel h hNb (by omega) hwl hi hE h3 (y := 4) (by omega) (by omega)
      refine ⟨_, S, S', M', nr', r', _, _, _, _, rfl, z1, ?_, z3, fun y => (z4.1 1 y).trans ⟨fun q => q.1, fun q => ⟨q, hnd y q⟩⟩, z5⟩
      rw [show (4 : Int32) = nI 4 from rfl, z2, ob_eq]
end PH
