/-! a waiting request is sent, in both -/
section SW
variable {F : Fx} {E Zf Zb : Nat → Prop} {t K lo wl : Nat} {cl sg : N2} {sv sw : N1} {nr : Nat} {r : N2} {N nq nb : Nat} {qs ws fb gb : N1} {at_ : N2} {ow : N1} {S S' : StS} {M M' : MS}
theorem send_rel (h : RG F (fun _ => False) Zf Zb t K lo wl cl sg sv sw nr r N nq nb qs ws fb gb at_ ow S M) (hNb : N < 2 ^ 30) (ht : t < 2 ^ 29) (hwl : wl ≤ t + 1) (hlo : lo ≤ t + 1) {i : Nat} (hi : i < nr) (hw : r i 4 = 1) (hd : r i 5 = t) : ∃ x S1 S' M' nr' r' nq' qs' at' ow', fX0_send (nI (r i 0)) S = some (x, S1) ∧ fX0_fail x (4 : Int32) S1 = some S' ∧ fX6_sends (nI i) M = some M' ∧ RG F (fun _ => False) Zf Zb t (K + 1) lo wl cl sg sv sw nr' r' N nq' nb qs' ws fb gb at' ow' S' M' ∧ (∀ y, Due nr' r' 1 t y ↔ Due nr r 1 t y ∧ y ≠ r i 0) ∧ M'.2.1 = M.2.1 := by
  obtain ⟨b1, hc, b3, b4, b5, b6, b7, b8, b9, b10⟩ := h.2.2.2.1.2.2.2.2.2 i hi
  have hC := h.1.1
  have t4 := (hC.2 (r i 1) 4 hc (by omega)).2.2
  rw [show hiL 4 = 40 from rfl, show loL 4 = 1 from rfl] at t4
  have b8' := b8 hw
  have h1 := (h.exw hi hw).sentC hc
  have h2 := h1.sentR (v := min (t + cl (r i 1) 4) (r i 2)) hi (Or.inr rfl) b8'.1 (by omega)
  have r0 : rsd r i (min (t + cl (r i 1) 4) (r i 2)) i 0 = r i 0 := by unfold rsd; rw [if_pos rfl, if_neg (by decide), if_neg (by decide), if_neg (by decide)]
  have r1 : rsd r i (min (t + cl (r i 1) 4) (r i 2)) i 1 = r i 1 := by unfold rsd; rw [if_pos rfl, if_neg (by decide), if_neg (by decide), if_neg (by decide)]
  have r3 : rsd r i (min (t + cl (r i 1) 4) (r i 2)) i 3 = r i 3 + 1 := by unfold rsd; rw [if_pos rfl, if_pos rfl]
  have r4 : rsd r i (min (t + cl (r i 1) 4) (r i 2)) i 4 = 0 := by unfold rsd; rw [if_pos rfl, if_neg (by decide), if_pos rfl]
  have r5 : rsd r i (min (t + cl (r i 1) 4) (r i 2)) i 5 = min (t + cl (r i 1) 4) (r i 2) := by unfold rsd; rw [if_pos rfl, if_neg (by decide), if_neg (by decide), if_pos rfl]
  obtain ⟨x, S1, S', M', nr', r', nq', qs', at', ow', q1, q2, q3, q4, q5, q6⟩ := queue_rel h2 hNb ht hwl hi (Or.inr r0) r4 (by omega) (by omega)
  rw [r0] at q1 q3 q4
  rw [r1, r5] at q3
  refine ⟨x, S1, S', M', nr', r', nq', qs', at', ow', (send_X h hNb ht hi).trans q1, q2, (send_M h hNb ht hi).trans q3, q4.eE (fun y => ⟨fun z => z.1.resolve_right z.2, fun z => z.elim⟩), fun y => (q5 y).trans ⟨?_, ?_⟩, q6⟩
  · rintro ⟨k, k1, k2, k3, k4⟩
    have hk : k ≠ i := fun e => by rw [e, r4] at k3; omega
    have ro : ∀ c, rsd r i (min (t + cl (r i 1) 4) (r i 2)) k c = r k c := fun c => if_neg hk
    rw [ro] at k2 k3 k4
    exact ⟨⟨k, k1, k2, k3, k4⟩, fun e => hk (h.2.2.2.1.ne k1 hi (by omega))⟩
  · rintro ⟨⟨k, k1, k2, k3, k4⟩, hne⟩
    have hk : k ≠ i := fun e => hne (by rw [← k2, e])
    have ro : ∀ c, rsd r i (min (t + cl (r i 1) 4) (r i 2)) k c = r k c := fun c => if_neg hk
    exact ⟨k, k1, by rw [ro]; exact k2, by rw [ro]; exact k3, by rw [ro]; exact k4⟩
end SW
