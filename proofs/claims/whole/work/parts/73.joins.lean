/-! an attempt joins the front queue: what class and reference do -/
section QL
variable {F : Fx} {E Zf Zb : Nat → Prop} {t K lo wl : Nat} {cl sg : N2} {sv sw : N1} {nr : Nat} {r : N2} {N nq nb : Nat} {qs ws fb gb : N1} {at_ : N2} {ow : N1} {S S' : StS} {M M' : MS}
theorem enq_X (h : RG F E Zf Zb t K lo wl cl sg sv sw nr r N nq nb qs ws fb gb at_ ow S M) (hq : nq < 16) {i : Nat} (hi : i < nr) : fX1_enqueue (nI i) S = some (sset S 6 (tenq (S.1 6) nq (nI (r i 0)) (r i 5) (cl (r i 1) 8) (cl (r i 1) 9))) := by
  have hR := h.2.2.2.1
  have hQ := h.2.2.2.2.1.2.1
  have hC := h.1.1
  have hc := (hR.2.2.2.2.2 i hi).2.1
  have h5 : ∀ T : Tb, (sset S 6 T).1 5 = S.1 5 := fun T => ss_n (by omega)
  have h0 : ∀ T : Tb, (sset S 6 T).1 0 = S.1 0 := fun T => ss_n (by omega)
  have ea : sappend 6 S = (nI nq, sset S 6 (nq + 1, fun i j => if i = nq then (0 : Int32) else (S.1 6).2 i j)) := by
    unfold sappend
    rw [show tappend (tr 6) (S.1 6) = _ from tap (rows := 16) (by rw [hQ.1]; exact hq), hQ.1]
  have ep : ∀ (f : Nat → Nat → Int32) (j : Nat) (z : Int32), j < 6 → sput 6 (sset S 6 (nq + 1, f)) (nI nq) (nI j) z = sset S 6 (nq + 1, fup f nq j z) := fun f j z hj => by
    show sset _ 6 (tput 6 16 ((sset S 6 _).1 6) (nI nq) (nI j) z) = _
    rw [ss_s, tp (by show nq < nq + 1; omega) (by omega) hj (by omega) (by omega), sset2]
  have g5 : ∀ (f : Nat → Nat → Int32) (j : Nat), j < 7 → sget 5 (sset S 6 (nq + 1, f)) (nI i) (nI j) = nI (r i j) := fun f j hj => gR.get (h5 _) hR hi hj
  have g0 : ∀ (f : Nat → Nat → Int32) (j : Nat), j < 12 → sget 0 (sset S 6 (nq + 1, f)) (nI (r i 1)) (nI j) = nI (cl (r i 1) j) := fun f j hj => gC.get (h0 _) hC hc hj
  have e1 : sget 5 S (nI i) (nI 1) = nI (r i 1) := gR.get rfl hR hi (by omega)
  unfold fX1_enqueue
  rw [show (0 : Int32) = nI 0 from rfl, show (1 : Int32) = nI 1 from rfl, show (2 : Int32) = nI 2 from rfl, show (3 : Int32) = nI 3 from rfl, show (5 : Int32) = nI 5 from rfl, show (8 : Int32) = nI 8 from rfl, show (9 : Int32) = nI 9 from rfl]
  rw [e1, ea, nm, nm, nm]
  dsimp only
  rw [nm, g5 _ 0 (by omega), ep _ 0 _ (by omega), nm, g5 _ 5 (by omega), ep _ 1 _ (by omega), nm, g0 _ 8 (by omega), ep _ 2 _ (by omega), nm, g0 _ 9 (by omega), ep _ 3 _ (by omega)]
  rfl
end QL
