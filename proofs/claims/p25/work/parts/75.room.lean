/-! a request that is sent comes to the front queue, in both -/
section PL
variable {F : Fx} {E Zf Zb : Nat → Prop} {t K lo wl : Nat} {cl sg : N2} {sv sw : N1} {nr : Nat} {r : N2} {N nq nb : Nat} {qs ws fb gb : N1} {at_ : N2} {ow : N1} {S S' : StS} {M M' : MS}
/-- where the queue has room -/
theorem room_rel (h : RG F E Zf Zb t K lo wl cl sg sv sw nr r N nq nb qs ws fb gb at_ ow S M) (hNb : N < 2 ^ 30) {i : Nat} (hi : i < nr) (hE : E (r i 0)) (h4 : r i 4 = 0) (h3 : 1 ≤ r i 3) (hlo : lo ≤ r i 5) (hq : nq < sv 1) (p1 : Int32) : ∃ a0, fX1_enqueue (nI i) S = some (sset S 6 (tenq (S.1 6) nq (nI (r i 0)) (r i 5) (cl (r i 1) 8) (cl (r i 1) 9))) ∧ ∃ M' at' ow' qs', bfX6_sends_189 p1 (nI (r i 0)) (nI (r i 1)) (nI (r i 5)) M = some M' ∧ RG F (fun x => E x ∧ x ≠ r i 0) Zf Zb t K lo wl cl sg sv sw nr (r7 r i a0) N (nq + 1) nb qs' ws fb gb at' ow' (sset S 6 (tenq (S.1 6) nq (nI (r i 0)) (r i 5) (cl (r i 1) 8) (cl (r i 1) 9))) M' ∧ M'.2.1 = M.2.1 := by
  obtain ⟨-, -, -, s4⟩ := srv h.1.2.2.1 (i := 1) (by omega)
  rw [show mxS 1 = 16 from rfl] at s4
  obtain ⟨a0, a1, a2, a3⟩ := h.free (by omega)
  exact ⟨a0, enq_X h (by omega) hi, _, _, _, _, enq_M h hNb (by omega) hi a1 a3 p1, h.enq hi hE h4 h3 hlo a1 a2 hq, rfl⟩
theorem due_r7 {i a0 : Nat} (w u y : Nat) : Due nr (r7 r i a0) w u y ↔ Due nr r w u y := by
  have e : ∀ a c, c ≠ 7 → r7 r i a0 a c = r a c := fun a c hc => if_neg (fun z => hc z.2)
  unfold Due
  simp only [e _ 0 (by decide), e _ 4 (by decide), e _ 5 (by decide)]
end PL
