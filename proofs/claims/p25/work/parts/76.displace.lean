/-! a full queue that displaces -/
section DL
variable {F : Fx} {E Zf Zb : Nat → Prop} {t K lo wl : Nat} {cl sg : N2} {sv sw : N1} {nr : Nat} {r : N2} {N nq nb : Nat} {qs ws fb gb : N1} {at_ : N2} {ow : N1} {S S' : StS} {M M' : MS}
theorem fail_6 {p2 p3 : Int32} {T : Tb} (h : fX0_fail p2 p3 S = some S') : S'.1 6 = S.1 6 := by
  have h2 := fail6_some (T := S.1 6) h
  have e : sset S 6 (S.1 6) = S := Prod.ext (funext fun j => by
    by_cases q : j = 6
    · rw [q, ss_s]
    · rw [ss_n q]) rfl
  rw [e, h] at h2
  have h3 := Option.some.inj h2
  rw [h3, ss_s]
theorem displ_rel (h : RG F E Zf Zb t K lo wl cl sg sv sw nr r N nq nb qs ws fb gb at_ ow S M) (hNb : N < 2 ^ 30) (ht : t < 2 ^ 29) (hwl : wl ≤ t + 1) {i : Nat} (hi : i < nr) (hE : E (r i 0)) (h4 : r i 4 = 0) (h3 : 1 ≤ r i 3) (hlo : lo ≤ r i 5) (hq : nq = sv 1) (p1 : Int32) : ∃ a o S1 S' Mp M1 M' nr' r' nr2 r2 nq' qs' at' ow', sget 6 S (0 : Int32) (0 : Int32) = owI o ∧ fX1_enqueue (nI i) (sdrop 6 S (0 : Int32)) = some S1 ∧ fX0_fail (owI o) (4 : Int32) S1 = some S' ∧ fX6_pulls (557 : Int32) (558 : Int32) (0 : Int32) M = some (nI a, Mp) ∧ fX6_loses (nI a) (4 : Int32) Mp = some M1 ∧ bfX6_sends_189 p1 (nI (r i 0)) (nI (r i 1)) (nI (r i 5)) M1 = some M' ∧ RG F (fun x => E x ∧ x ≠ r i 0) Zf Zb t K lo wl cl sg sv sw nr' r' N nq' nb qs' ws fb gb at' ow' S' M' ∧ OthO nr r nr2 r2 o t ∧ (∀ w u y, Due nr' r' w u y ↔ Due nr2 r2 w u y) ∧ (∀ y, Due nr r 1 t y → y + 1 ≠ o) ∧ M'.2.1 = M.2.1 := by
  obtain ⟨hA, hQ, hF, hB, hG, hU⟩ := h.2.2.2.2.1
  obtain ⟨-, -, s3, s4⟩ := srv h.1.2.2.1 (i := 1) (by omega)
  rw [show mxS 1 = 16 from rfl] at s4
  have hnq : 0 < nq := by omega
  obtain ⟨d1, d2, d3, ⟨d4, d5, d6, d7, d8⟩, d9, d10, d11, d12, d13, d14, d15⟩ := hQ.2.2.2 0 hnq
  obtain ⟨o1, o2, o3, o4⟩ := h.owner d2 d3
  generalize ha : qs 0 = a at *
  have epull : fX6_pulls (557 : Int32) (558 : Int32) (0 : Int32) M = some (nI a, (upd (ppull M.1 558 nq 0) 557 (nI (nq - 1)), M.2)) := (pulls_eq (m0 := 557) (q := 558) (r := 0) (by omega) (by omega) hnq (by omega) hQ.2.2.1).trans (by rw [show M.1 (558 + 0) = nI a from d1])
  have hpx : ∀ x, x < 557 ∨ 574 ≤ x → upd (ppull M.1 558 nq 0) 557 (nI (nq - 1)) x = M.1 x := fun x hx => by
    rw [up_n (by omega)]
    unfold ppull
    rw [if_neg (by omega)]
  have hpq : ∀ j, j < nq - 1 → upd (ppull M.1 558 nq 0) 557 (nI (nq - 1)) (558 + j) = M.1 (558 + if 0 ≤ j then j + 1 else j) := fun j hj => by
    rw [up_n (by omega)]
    unfold ppull
    rw [if_pos (by omega), if_pos (by omega)]
    rfl
  have hp5 : upd (ppull M.1 558 nq 0) 557 (nI (nq - 1)) 557 = nI (nq - 1) := up_s rfl
  generalize hMp : upd (ppull M.1 558 nq 0) 557 (nI (nq - 1)) = p at *
  have h66 : p (317 + 10 * a + 6) = 0 := by rw [hpx _ (by omega), ((hA a d2).2.2 d3).2 6 (by omega) (by omega), d14]; rfl
  have hs0 : ((p, M.2) : MS).1 (317 + 10 * a) = owI (ow a) := (hpx _ (by omega)).trans ((hA a d2).2.2 d3).1
  have hL := h.lostQ (k := 0) (M' := lv0 (p, M.2) a) hnq (fun x x1 x2 => by
      rw [ha] at x2
      show upd (upd p 186 (p 186 + p (317 + 10 * a + 6))) (317 + 10 * a + 9) 0 x = _
      rw [up_n x2, h66, Int32.add_zero, upd_self, hpx x x1]) (by
      rw [ha]
      show upd (upd p 186 (p 186 + p (317 + 10 * a + 6))) (317 + 10 * a + 9) 0 (317 + 10 * a + 9) = _
      rw [up_s rfl]
      rfl) (by
      show upd (upd p 186 (p 186 + p (317 + 10 * a + 6))) (317 + 10 * a + 9) 0 557 = _
      rw [up_n (by omega), up_n (by omega), hp5]) (fun j hj => by
      show upd (upd p 186 (p 186 + p (317 + 10 * a + 6))) (317 + 10 * a + 9) 0 (558 + j) = _
      rw [up_n (by omega), up_n (by omega), hpq j hj]) (by
      show upd M.2.2 8 (M.2.2 8 + p (317 + 10 * a + 6)) = _
      rw [h66, Int32.add_zero, upd_self])
  rw [ha] at hL
  have hne : r i 0 + 1 ≠ ow a := fun e => by
    rcases o2 with z | ⟨k, k1, k2, k3, _⟩
    · omega
    · exact k3 (by rw [show r k 0 = r i 0 by omega]; exact hE)
  obtain ⟨S2, M1, nr2, r2, q1, q2, q3, q4, q5⟩ := failO (y := 4) hL hNb (by omega) hwl (o2.imp id (fun ⟨i, i1, i2, i3, i4, _⟩ => ⟨i, i1, i2, i3, i4⟩)) (by omega) (by omega)
  obtain ⟨k, k1, k2⟩ := q4.2 i hi hne
  have eX := enq_X hL (by omega) hi
  obtain ⟨a0, -, M', at', ow', qs', p2, p3, p4⟩ := room_rel q3 hNb k1 (by rw [k2]; exact hE) (by rw [k2]; exact h4) (by rw [k2]; exact h3) (by rw [k2]; exact hlo) (by omega) p1
  rw [k2 0, k2 1, k2 5] at p2
  rw [k2 0, k2 1, k2 5, fail_6 (T := S.1 6) q1] at p3
  refine ⟨a, ow a, _, _, (p, M.2), M1, M', nr2, r7 r2 k a0, nr2, r2, nq - 1 + 1, qs', at', ow', ?_, eX, fail6_some q1, epull, ?_, p2, p3, q4, fun w u y => due_r7 w u y, fun y hy e => ?_, p4.trans q5⟩
  · exact (sg6 (S := S) (k := 0) (c := 0) (by rw [hQ.1]; exact hnq) (by omega) (by omega)).trans d4
  · rw [show (4 : Int32) = nI 4 from rfl, loses_eval d2 (by omega) hs0]
    exact q2
  · obtain ⟨j, j1, j2, j3, j4⟩ := hy
    rcases o2 with z | ⟨k', z1, z2, z3, z4, z5, _⟩
    · omega
    · have := h.2.2.2.1.ne j1 z1 (by omega)
      rw [this] at j3
      omega
end DL
