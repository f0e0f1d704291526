/-! an attempt joins the front queue: what class and reference do -/
section QL
variable {F : Fx} {E Zf Zb : Nat → Prop} {t K lo wl : Nat} {cl sg : N2} {sv sw : N1} {nr : Nat} {r : N2} {N nq nb : Nat} {qs ws fb gb : N1} {at_ : N2} {ow : N1} {S S' : StS} {M M' : MS}
theorem enq_X (h : RG F E Zf Zb t K lo wl cl sg sv sw nr r N nq nb qs ws fb gb at_ ow S M) (hq : nq < 16) {i : Nat} (hi : i < nr) : fX1_enqueue (nI i) S = some (sset S 6 (tenq (S.1 6) nq (nI (r i 0)) (r i 5) (cl (r i 1) 8) (cl (r i 1) 9))) := by
  have hR := h.2.2.2.1
  have hQ := h.2.2.2.2.1.2.1
  have hC := h.1.1
  have hc := (hR.2.2.2.2.2 i hi).2.1
  have h5 : ∀ T : Tb, (sset S 6 T).1 5 = S.1 5 := fun T => ss_n (by omega)
  have h0 : ∀ T : Tb, (sset S 6 T).1 0 = S.1 0 := fun T => ss_n (by omega)
  have ea : sappend 6 S = (nI nq, sset S 6 (nq + 1, fun i j => if i = nq then (0 : Int32) else (S.1 6).2 i j)) := by
    unfold sappend
    rw [show tappend (tr 6) (S.1 6) = _ from tap (rows := 16) (by rw [hQ.1]; exact hq), hQ.1]
  have ep : ∀ (f : Nat → Nat → Int32) (j : Nat) (z : Int32), j < 6 → sput 6 (sset S 6 (nq + 1, f)) (nI nq) (nI j) z = sset S 6 (nq + 1, fup f nq j z) := fun f j z hj => by
    show sset _ 6 (tput 6 16 ((sset S 6 _).1 6) (nI nq) (nI j) z) = _
    rw [ss_s, tp (by show nq < nq + 1; omega) (by omega) hj (by omega) (by omega), sset2]
  have g5 : ∀ (f : Nat → Nat → Int32) (j : Nat), j < 7 → sget 5 (sset S 6 (nq + 1, f)) (nI i) (nI j) = nI (r i j) := fun f j hj => gR.get (h5 _) hR hi hj
  have g0 : ∀ (f : Nat → Nat → Int32) (j : Nat), j < 12 → sget 0 (sset S 6 (nq + 1, f)) (nI (r i 1)) (nI j) = nI (cl (r i 1) j) := fun f j hj => gC.get (h0 _) hC hc hj
  have e1 : sget 5 S (nI i) (nI 1) = nI (r i 1) := gR.get rfl hR hi (by omega)
  unfold fX1_enqueue
  rw [show (0 : Int32) = nI 0 from rfl, show (1 : Int32) = nI 1 from rfl, show (2 : Int32) = nI 2 from rfl, show (3 : Int32) = nI 3 from rfl, show (5 : Int32) = nI 5 from rfl, show (8 : Int32) = nI 8 from rfl, show (9 : Int32) = nI 9 from rfl]
  rw [e1, ea, nm, nm, nm]
  dsimp only
  rw [nm, g5 _ 0 (by omega), ep _ 0 _ (by omega), nm, g5 _ 5 (by omega), ep _ 1 _ (by omega), nm, g0 _ 8 (by omega), ep _ 2 _ (by omega), nm, g0 _ 9 (by omega), ep _ 3 _ (by omega)]
  rfl
theorem enq_M (h : RG F E Zf Zb t K lo wl cl sg sv sw nr r N nq nb qs ws fb gb at_ ow S M) (hNb : N < 2 ^ 30) (hq : nq < 16) {i a0 : Nat} (hi : i < nr) (ha0 : a0 < 24) (hfree : fX6_freeSlot M = some (nI a0)) {v : Nat} (p1 : Int32) : bfX6_sends_189 p1 (nI (r i 0)) (nI (r i 1)) (nI v) M = some (penq M.1 i nq a0 (nI (r i 0)) v (cl (r i 1) 8) (cl (r i 1) 9), M.2) := by
  have hR := h.2.2.2.1
  have hQ := h.2.2.2.2.1.2.1
  have hC := h.1.1
  have hc := (hR.2.2.2.2.2 i hi).2.1
  have i16 := hR.2.1
  have c8 := (hC.2 (r i 1) 8 hc (by omega)).2.1
  have c9 := (hC.2 (r i 1) 9 hc (by omega)).2.1
  have hpl : fX6_placeOf (nI (r i 0)) (pslot M.1 a0 (nI (r i 0)) v (cl (r i 1) 8) (cl (r i 1) 9), M.2) = some (nI i) := gR.place (M := (pslot M.1 a0 (nI (r i 0)) v (cl (r i 1) 8) (cl (r i 1) 9), M.2)) (hR.cg (Nat.le_refl _) (Nat.le_refl _) (Nat.le_refl _) (fun x _ h2 => pslot_out (by omega))) (by omega) hi
  have hj : fX6_joins (557 : Int32) (558 : Int32) (nI a0) (upd (pslot M.1 a0 (nI (r i 0)) v (cl (r i 1) 8) (cl (r i 1) 9)) (189 + 8 * i + 7) (nI a0), M.2) = some (penq M.1 i nq a0 (nI (r i 0)) v (cl (r i 1) 8) (cl (r i 1) 9), M.2) := joins_eq (m0 := 557) (q := 558) (n := nq) (M := (upd (pslot M.1 a0 (nI (r i 0)) v (cl (r i 1) 8) (cl (r i 1) 9)) (189 + 8 * i + 7) (nI a0), M.2)) (by omega) (by omega) ((up_n (by omega)).trans ((pslot_out (by omega)).trans hQ.2.2.1)) (nI a0)
  have st : ∀ (X : MS) (c : Nat) (c' z : Int32) (Q : MS → Option MS), c' = nI c → c < 10 → (ob (fX6_slot (nI a0) X) fun u => if okI (u + c') 5130 then nm (upd X.1 ((u + c')).toNatClampNeg z, X.2) Q else none) = Q (upd X.1 (317 + 10 * a0 + c) z, X.2) := by
    intro X c c' z Q e hc
    subst e
    rw [slot_eq, ob_eq, nI_add, if_pos (okI_nI (by omega) (by decide)), nm, nI_clamp (by omega)]
  have st0 : ∀ (X : MS) (z : Int32) (Q : MS → Option MS), (ob (fX6_slot (nI a0) X) fun u => if okI (u + (0 : Int32)) 5130 then nm (upd X.1 ((u + (0 : Int32))).toNatClampNeg z, X.2) Q else none) = Q (upd X.1 (317 + 10 * a0) z, X.2) := by
    intro X z Q
    rw [slot_eq, ob_eq, nA_0, Nat.add_zero, if_pos (okI_nI (by omega) (by decide)), nm, nI_clamp (by omega)]
  have so : ∀ (X : MS) (c k x : Nat) (c' k' : Int32) (Q : MS → Option MS), c' = nI c → c < 10 → k' = nI k → k < 12 → X.1 (12 * r i 1 + k) = nI x → (ob (fX6_slot (nI a0) X) fun u => ob (fX6_of (nI (r i 1)) k' X) fun w => if okI (u + c') 5130 then nm (upd X.1 ((u + c')).toNatClampNeg w, X.2) Q else none) = Q (upd X.1 (317 + 10 * a0 + c) (nI x), X.2) := by
    intro X c k x c' k' Q e hc2 e2 hk hx
    subst e
    subst e2
    rw [slot_eq, ob_eq, of_n hc hk, ob_eq, nI_add, if_pos (okI_nI (by omega) (by decide)), nm, nI_clamp (by omega), hx]
  unfold bfX6_sends_189
  rw [hfree, ob_eq]
  refine (st _ 9 _ _ _ rfl (by omega)).trans ?_
  refine (st0 _ _ _).trans ?_
  refine (st _ 1 _ _ _ rfl (by omega)).trans ?_
  refine (so _ 2 8 _ _ _ _ rfl (by omega) rfl (by omega) (by dsimp only; rw [up_n (by omega), up_n (by omega), up_n (by omega)]; exact c8)).trans ?_
  refine (so _ 3 8 _ _ _ _ rfl (by omega) rfl (by omega) (by dsimp only; rw [up_n (by omega), up_n (by omega), up_n (by omega), up_n (by omega)]; exact c8)).trans ?_
  refine (so _ 4 9 _ _ _ _ rfl (by omega) rfl (by omega) (by dsimp only; rw [up_n (by omega), up_n (by omega), up_n (by omega), up_n (by omega), up_n (by omega)]; exact c9)).trans ?_
  refine (so _ 5 9 _ _ _ _ rfl (by omega) rfl (by omega) (by dsimp only; rw [up_n (by omega), up_n (by omega), up_n (by omega), up_n (by omega), up_n (by omega), up_n (by omega)]; exact c9)).trans ?_
  refine (st _ 6 _ _ _ rfl (by omega)).trans ?_
  refine (st _ 7 _ _ _ rfl (by omega)).trans ?_
  refine (st _ 8 _ _ _ rfl (by omega)).trans ?_
  dsimp only
  unfold pslot at hpl hj
  rw [hpl, ob_eq, row_eq, ob_eq, nA_7, if_pos (okI_nI (by omega) (by decide)), nm, nI_clamp (by omega)]
  rw [hj, ob_eq]
end QL
