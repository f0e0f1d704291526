/-! a waiting request is sent, in both -/
section SD
variable {F : Fx} {E Zf Zb : Nat → Prop} {t K lo wl : Nat} {cl sg : N2} {sv sw : N1} {nr : Nat} {r : N2} {N nq nb : Nat} {qs ws fb gb : N1} {at_ : N2} {ow : N1} {S S' : StS} {M M' : MS}
theorem send_X (h : RG F E Zf Zb t K lo wl cl sg sv sw nr r N nq nb qs ws fb gb at_ ow S M) (hNb : N < 2 ^ 30) (ht : t < 2 ^ 29) {i : Nat} (hi : i < nr) : fX0_send (nI (r i 0)) S = qX (nI (r i 0)) (nI i) (sput 5 (sput 5 (sadd 5 (sadd 1 S (nI (r i 1)) (1 : Int32) (1 : Int32)) (nI i) (3 : Int32) (1 : Int32)) (nI i) (4 : Int32) (0 : Int32)) (nI i) (5 : Int32) (nI (min (t + cl (r i 1) 4) (r i 2)))) := by
  have hR := h.2.2.2.1
  obtain ⟨b1, hc, b3, -⟩ := hR.2.2.2.2.2 i hi
  have hC := h.1.1
  have t4 := (hC.2 (r i 1) 4 hc (by omega)).2.2.2
  rw [show hiL 4 = 40 from rfl] at t4
  have i16 := hR.2.1
  have g1 : sget 5 S (nI i) (1 : Int32) = nI (r i 1) := gR.get rfl hR hi (j := 1) (by omega)
  have g4 : sget 0 S (nI (r i 1)) (4 : Int32) = nI (cl (r i 1) 4) := gC.get rfl hC hc (j := 4) (by omega)
  have e12 : S.2 12 = nI t := h.2.2.1.2.1
  have v3 := (hR.2.2.2.1 i 3 hi (by omega)).1
  have hrow : sput 5 (sadd 5 (sadd 1 S (nI (r i 1)) (1 : Int32) (1 : Int32)) (nI i) (3 : Int32) (1 : Int32)) (nI i) (4 : Int32) (0 : Int32) = sset (sadd 1 S (nI (r i 1)) (1 : Int32) (1 : Int32)) 5 ((S.1 5).1, fup (fup (S.1 5).2 i 3 ((S.1 5).2 i 3 + 1)) i 4 (0 : Int32)) := by
    rw [show (3 : Int32) = nI 3 from rfl, show (4 : Int32) = nI 4 from rfl]
    rw [sadd_req (S := sadd 1 S (nI (r i 1)) (1 : Int32) (1 : Int32)) (T := S.1 5) (sadd_n (by omega)) (by rw [hR.1]; exact hi) (by omega) (by omega), sput_req ss_s (by show i < (S.1 5).1; rw [hR.1]; exact hi) (by omega) (by omega), sset2]
  have g2 : sget 5 (sput 5 (sadd 5 (sadd 1 S (nI (r i 1)) (1 : Int32) (1 : Int32)) (nI i) (3 : Int32) (1 : Int32)) (nI i) (4 : Int32) (0 : Int32)) (nI i) (2 : Int32) = nI (r i 2) := by
    rw [hrow]
    show tget 7 16 ((sset _ 5 _).1 5) (nI i) (nI 2) = _
    rw [ss_s, tg (by show i < (S.1 5).1; rw [hR.1]; exact hi) (by omega) (by omega) (by omega) (by omega)]
    dsimp only
    rw [fup_c (by decide), fup_c (by decide)]
    exact (hR.2.2.2.1 i 2 hi (by omega)).1
  have e17 : (sput 5 (sadd 5 (sadd 1 S (nI (r i 1)) (1 : Int32) (1 : Int32)) (nI i) (3 : Int32) (1 : Int32)) (nI i) (4 : Int32) (0 : Int32)).2 12 = nI t := e12
  unfold fX0_send
  rw [gR.find (S := S) rfl hR (by omega) hi, nm, if_neg (nI_neg (by omega) (by decide)), g1, nm, g4, nm, nm, nm, nm, g2, e17, nI_add, min_nI (by omega) (by omega), nm]
  rfl
end SD
