/-! a client creates a request and sends it, in both -/
section CS
variable {F : Fx} {E Zf Zb : Nat → Prop} {t K lo wl : Nat} {cl sg : N2} {sv sw : N1} {nr : Nat} {r : N2} {N nq nb : Nat} {qs ws fb gb : N1} {at_ : N2} {ow : N1} {S S' : StS} {M M' : MS}
theorem ss_id {k : Nat} : sset S k (S.1 k) = S := Prod.ext (funext fun j => by
  by_cases q : j = k
  · rw [q, ss_s]
  · rw [ss_n q]) rfl
theorem psd_stale {p : Pg} {i m v k : Nat} {z : Int32} (hk : k < 189) : psd (upd (upd (upd p (189 + 8 * i + 4) (0 : Int32)) (189 + 8 * i + 5) (0 : Int32)) k (upd (upd p (189 + 8 * i + 4) (0 : Int32)) (189 + 8 * i + 5) (0 : Int32) k + z)) i m v = psd (upd p k (p k + z)) i m v := by
  rw [up_n (show k ≠ 189 + 8 * i + 5 by omega), up_n (show k ≠ 189 + 8 * i + 4 by omega)]
  funext x
  unfold psd
  by_cases e7 : x = 189 + 8 * i + 7
  · rw [up_s e7, up_s e7]
  rw [up_n e7, up_n e7]
  by_cases e5 : x = 189 + 8 * i + 5
  · rw [up_s e5, up_s e5]
  rw [up_n e5, up_n e5]
  by_cases e4 : x = 189 + 8 * i + 4
  · rw [up_s e4, up_s e4]
  rw [up_n e4, up_n e4]
  by_cases e3 : x = 189 + 8 * i + 3
  · rw [up_s e3, up_s e3]
  rw [up_n e3, up_n e3]
  by_cases ek : x = k
  · rw [up_s ek, up_s ek]
  rw [up_n ek, up_n ek, up_n e5, up_n e4]
theorem send_none (h : RG F E Zf Zb t K lo wl cl sg sv sw nr r N nq nb qs ws fb gb at_ ow S M) (hN : N < 2 ^ 30) : fX0_send (-9 : Int32) S = some (-9, S) := by
  unfold fX0_send
  rw [gR.find_none (S := S) rfl h.2.2.2.1 (fun i hi => nI_neg (by have := (h.2.2.2.1.2.2.2.2.2 i hi).1; omega) (by decide)), nm, if_pos rfl]
theorem create_X (h : RG F (fun _ => False) Zf Zb t K lo wl cl sg sv sw nr r N nq nb qs ws fb gb at_ ow S M) {c : Nat} (hc : c < 6) : ∃ S13, RG F (fun _ => False) Zf Zb t (K + 1) lo wl cl sg sv sw nr r N nq nb qs ws fb gb at_ ow S13 (pcre M.1 c (nI (cl c 11)) (nI (10 * cl c 10)), M.2) ∧ fX0_create (nI c) S = if nr = 16 then some (-9, sadd 1 S13 (nI c) (3 : Int32) (1 : Int32)) else some (nI N, (sset (S13.1, upd S13.2 14 (nI (N + 1))) 5 (nr + 1, fup (fup (fup (fun i j => if i = nr then (0 : Int32) else (S13.1 5).2 i j) nr 0 (nI N)) nr 1 (nI c)) nr 2 (nI (t + cl c 2))))) := by
  have h1 := h.creC hc
  have g7 : sget 1 (sadd 1 S (nI c) (0 : Int32) (1 : Int32)) (nI c) (7 : Int32) = M.1 (90 + 8 * c + 7) := (sget_tal h1.2.1.1 hc (y := 7) (by omega)).trans (((h1.2.1.2 c hc).1 7 (by omega)).trans (up_n (by omega)))
  have g11 : sget 0 (sadd 1 S (nI c) (0 : Int32) (1 : Int32)) (nI c) (11 : Int32) = nI (cl c 11) := gC.get rfl h1.1.1 hc (j := 11) (by omega)
  have g10 : sget 0 (sadd 1 S (nI c) (0 : Int32) (1 : Int32)) (nI c) (10 : Int32) = nI (cl c 10) := gC.get rfl h1.1.1 hc (j := 10) (by omega)
  have hz : (if nI (10 * cl c 10) < M.1 (90 + 8 * c + 7) + nI (cl c 11) then nI (10 * cl c 10) else M.1 (90 + 8 * c + 7) + nI (cl c 11)) = (if M.1 (90 + 8 * c + 7) + nI (cl c 11) ≤ nI (10 * cl c 10) then M.1 (90 + 8 * c + 7) + nI (cl c 11) else nI (10 * cl c 10)) := by
    by_cases e : M.1 (90 + 8 * c + 7) + nI (cl c 11) ≤ nI (10 * cl c 10)
    · rw [if_pos e, if_neg (Int32.not_lt.mpr e)]
    · rw [if_neg e, if_pos (Int32.not_le.mp e)]
  have h2 := h1.tal (if M.1 (90 + 8 * c + 7) + nI (cl c 11) ≤ nI (10 * cl c 10) then M.1 (90 + 8 * c + 7) + nI (cl c 11) else nI (10 * cl c 10)) hc (y := 7) (by omega) (by omega)
  refine ⟨_, h2, ?_⟩
  unfold fX0_create
  rw [nm, g7, g11, nm, g10, nM_10, hz, nm, show (7 : Int32) = nI 7 from rfl]
  generalize sput 1 (sadd 1 S (nI c) (0 : Int32) (1 : Int32)) (nI c) (nI 7) (if M.1 (90 + 8 * c + 7) + nI (cl c 11) ≤ nI (10 * cl c 10) then M.1 (90 + 8 * c + 7) + nI (cl c 11) else nI (10 * cl c 10)) = S13 at h2 ⊢
  have hR := h2.2.2.2.1
  have i16 := hR.2.1
  by_cases e : nr = 16
  · rw [if_pos e]
    have ea : sappend 5 S13 = ((-9 : Int32), S13) := by
      unfold sappend
      rw [show tappend (tr 5) (S13.1 5) = _ from tap_full (rows := 16) (by rw [hR.1]; omega)]
      exact Prod.ext rfl ss_id
    rw [ea]
    dsimp only
    rw [nm, nm, if_pos rfl, nm]
  · rw [if_neg e]
    have ea : sappend 5 S13 = (nI nr, sset S13 5 (nr + 1, fun i j => if i = nr then (0 : Int32) else (S13.1 5).2 i j)) := by
      unfold sappend
      rw [show tappend (tr 5) (S13.1 5) = _ from tap (rows := 16) (by rw [hR.1]; omega), hR.1]
    have e14 : (sset S13 5 (nr + 1, fun i j => if i = nr then (0 : Int32) else (S13.1 5).2 i j)).2 14 = nI N := h2.2.2.1.2.2.2.2.1
    rw [ea]
    dsimp only
    rw [nm, nm, if_neg (nI_neg (by omega) (by decide)), e14, nA_1, nm]
    have ep : ∀ (f : Nat → Nat → Int32) (g : Nat → Int32) (j : Nat) (z : Int32), j < 7 → sput 5 ((sset S13 5 (nr + 1, f)).1, g) (nI nr) (nI j) z = ((sset S13 5 (nr + 1, fup f nr j z)).1, g) := fun f g j z hj => by
      rw [sput_req (S := ((sset S13 5 (nr + 1, f)).1, g)) (T := (nr + 1, f)) (show (sset S13 5 (nr + 1, f)).1 5 = _ from ss_s) (by show nr < nr + 1; omega) (by omega) hj]
      exact Prod.ext (show (sset (sset S13 5 (nr + 1, f)) 5 (nr + 1, fup f nr j z)).1 = (sset S13 5 (nr + 1, fup f nr j z)).1 from congrArg Prod.fst sset2) rfl
    have g2 : ∀ (f : Nat → Nat → Int32) (g : Nat → Int32), sget 0 ((sset S13 5 (nr + 1, f)).1, g) (nI c) (2 : Int32) = nI (cl c 2) := fun f g => gC.get (S := ((sset S13 5 (nr + 1, f)).1, g)) (show (sset S13 5 (nr + 1, f)).1 0 = S13.1 0 from ss_n (by omega)) h2.1.1 hc (j := 2) (by omega)
    have e12 : upd S13.2 14 (nI (N + 1)) 12 = nI t := (up_n (by omega)).trans h2.2.2.1.2.1
    rw [show (0 : Int32) = nI 0 from rfl, show (1 : Int32) = nI 1 from rfl, ss_2, ep _ _ 0 _ (by omega), nm, ep _ _ 1 _ (by omega), nm, g2]
    dsimp only
    rw [e12, nI_add, show (2 : Int32) = nI 2 from rfl, ep _ _ 2 _ (by omega), nm]
    rfl
theorem create_rel (h : RG F (fun _ => False) Zf Zb t K lo wl cl sg sv sw nr r N nq nb qs ws fb gb at_ ow S M) (hK : K + 2 < 2 ^ 29) (ht : t < 2 ^ 29) (hwl : wl ≤ t + 1) (hlo : lo ≤ t + 1) {c : Nat} (hc : c < 6) : ∃ x1 S1 x S2 S' M', fX0_create (nI c) S = some (x1, S1) ∧ fX0_send x1 S1 = some (x, S2) ∧ fX0_fail x (4 : Int32) S2 = some S' ∧ fX6_creates (nI c) M = some M' ∧ RE F Zf Zb t (K + 3) lo wl cl sg sv sw S' M' ∧ Kp sv S S' := by
  have hNK : N ≤ K := h.2.2.1.2.2.2.2.2.2.1
  have hC := h.1.1
  have l2 := (hC.2 c 2 hc (by omega)).2.2
  have l4 := (hC.2 c 4 hc (by omega)).2.2
  rw [show loL 2 = 1 from rfl, show hiL 2 = 60 from rfl] at l2
  rw [show loL 4 = 1 from rfl, show hiL 4 = 40 from rfl] at l4
  have i16 := h.2.2.2.1.2.1
  obtain ⟨S13, h2, eX⟩ := create_X h hc
  have c10 := (hC.2 c 10 hc (by omega)).2.2.2
  have c11 := (hC.2 c 11 hc (by omega)).2.2.2
  rw [show hiL 10 = 20 from rfl] at c10
  rw [show hiL 11 = 10 from rfl] at c11
  have enr : (S.1 5).1 = nr := h.2.2.2.1.1
  have kc : ∀ {x1 : Int32} {S1 : StS}, fX0_create (nI c) S = some (x1, S1) → (if nr = 16 then Kp sv S S1 else Ko sv o0 (oC c) S S1) := fun {x1 S1} e => by
    have := create_ko (sv := sv) h.n16.1 h.n16.2 hc (gC.get rfl hC hc (j := 10) (by omega)) c10 (gC.get rfl hC hc (j := 11) (by omega)) c11 (hC.2 c 10 hc (by omega)).1 (by rw [show S.2 12 = nI t from h.2.2.1.2.1, show sget 0 S (nI c) (2 : Int32) = nI (cl c 2) from gC.get rfl hC hc (j := 2) (by omega), nI_add]; exact nI_pos' (by omega)) e
    rw [enr] at this
    exact this
  have eM := creates_M (M := M) (nr := nr) (N := N) (t := t) hc (hC.2 c 10 hc (by omega)).2.1 (hC.2 c 11 hc (by omega)).2.1 (hC.2 c 2 hc (by omega)).2.1 h.2.2.2.2.2.2.1 h.2.2.2.1.2.2.1 h.2.2.1.2.2.2.2.2.1 i16
  have hC2 := h2.1.1
  generalize pcre M.1 c (nI (cl c 11)) (nI (10 * cl c 10)) = P at h2 eM hC2
  by_cases e : nr = 16
  · rw [if_pos e] at eX eM
    have kst := kc eX
    rw [if_pos e] at kst
    have h3 := h2.talC (1 : Int32) hc (y := 3) (by omega) (by omega)
    exact ⟨_, _, _, _, _, _, eX, send_none h3 (by omega), fail_none h3 (by omega) _, eM, ⟨_, _, _, _, _, _, _, _, _, _, _, h3.kle (by omega)⟩, kst⟩
  · rw [if_neg e] at eX eM
    have kc1 := kc eX
    rw [if_neg e] at kc1
    have hR := h2.2.2.2.1
    have hP : ∀ x, x ≠ 183 → x ≠ 188 → (x < 189 + 8 * nr ∨ 189 + 8 * nr + 7 ≤ x) → upd (upd (pnew P nr N c (t + cl c 2)) (189 + 8 * nr + 4) (0 : Int32)) (189 + 8 * nr + 5) (0 : Int32) x = P x := fun x x1 x2 x3 => by
      unfold pnew
      rw [up_n (by omega), up_n (by omega), up_n (by omega), up_n (by omega), up_n (by omega), up_n (by omega), up_n x1, up_n (by omega), up_n x2]
    have h3 := RG.new (c := c) (d := t + cl c 2) (S' := (sset (S13.1, upd S13.2 14 (nI (N + 1))) 5 (nr + 1, fup (fup (fup (fun i j => if i = nr then (0 : Int32) else (S13.1 5).2 i j) nr 0 (nI N)) nr 1 (nI c)) nr 2 (nI (t + cl c 2))))) (M' := (upd (upd (pnew P nr N c (t + cl c 2)) (189 + 8 * nr + 4) (0 : Int32)) (189 + 8 * nr + 5) (0 : Int32), M.2)) h2 (by omega) hc (by omega)
      ⟨by rw [ss_s], fun i j hi => by
        rw [ss_s]
        show fup (fup (fup _ nr 0 _) nr 1 _) nr 2 _ i j = _
        rw [fup_r (by omega), fup_r (by omega), fup_r (by omega), if_neg (by omega)], fun j hj => by
        rw [ss_s]
        show fup (fup (fup _ nr 0 _) nr 1 _) nr 2 _ nr j = _
        match j, hj with
        | 0, _ => rw [fup_c (by decide), fup_c (by decide), fup_s rfl rfl, nrow_0]
        | 1, _ => rw [fup_c (by decide), fup_s rfl rfl, nrow_1]
        | 2, _ => rw [fup_s rfl rfl, nrow_2]
        | j + 3, _ => rw [fup_c (by omega), fup_c (by omega), fup_c (by omega), if_pos rfl, nrow_n (by omega)]; rfl⟩
      (fun k hk => ss_n hk) (show upd S13.2 14 (nI (N + 1)) 14 = _ from up_s rfl) (fun k hk => show upd S13.2 14 (nI (N + 1)) k = _ from up_n hk) hP (by
        show upd (upd (pnew P nr N c (t + cl c 2)) (189 + 8 * nr + 4) (0 : Int32)) (189 + 8 * nr + 5) (0 : Int32) 183 = _
        unfold pnew
        rw [up_n (by omega), up_n (by omega), up_n (by omega), up_n (by omega), up_n (by omega), up_n (by omega), up_s rfl]) (by
        show upd (upd (pnew P nr N c (t + cl c 2)) (189 + 8 * nr + 4) (0 : Int32)) (189 + 8 * nr + 5) (0 : Int32) 188 = _
        unfold pnew
        rw [up_n (by omega), up_n (by omega), up_n (by omega), up_n (by omega), up_n (by omega), up_n (by omega), up_n (by omega), up_n (by omega), up_s rfl]) (fun j hj => by
        show upd (upd (pnew P nr N c (t + cl c 2)) (189 + 8 * nr + 4) (0 : Int32)) (189 + 8 * nr + 5) (0 : Int32) (189 + 8 * nr + j) = _
        unfold pnew
        match j, hj with
        | 0, _ => rw [up_n (by omega), up_n (by omega), up_n (by omega), up_n (by omega), up_n (by omega), up_n (by omega), up_n (by omega), up_s rfl, nrow_0]
        | 1, _ => rw [up_n (by omega), up_n (by omega), up_n (by omega), up_n (by omega), up_n (by omega), up_s rfl, nrow_1]
        | 2, _ => rw [up_n (by omega), up_n (by omega), up_n (by omega), up_n (by omega), up_s rfl, nrow_2]
        | 3, _ => rw [up_n (by omega), up_n (by omega), up_n (by omega), up_s rfl, nrow_n (by omega)]; rfl
        | 4, _ => rw [up_n (by omega), up_s rfl, nrow_n (by omega)]; rfl
        | 5, _ => rw [up_s rfl, nrow_n (by omega)]; rfl
        | 6, _ => rw [up_n (by omega), up_n (by omega), up_s rfl, nrow_n (by omega)]; rfl
        | j + 7, hj => exact absurd hj (by omega)) rfl
    have n0 : rnew r nr N c (t + cl c 2) nr 0 = N := (if_pos rfl).trans nrow_0
    have n1 : rnew r nr N c (t + cl c 2) nr 1 = c := (if_pos rfl).trans nrow_1
    have n2 : rnew r nr N c (t + cl c 2) nr 2 = t + cl c 2 := (if_pos rfl).trans nrow_2
    have n3 : rnew r nr N c (t + cl c 2) nr 3 = 0 := (if_pos rfl).trans (nrow_n (by omega))
    generalize (sset (S13.1, upd S13.2 14 (nI (N + 1))) 5 (nr + 1, fup (fup (fup (fun i j => if i = nr then (0 : Int32) else (S13.1 5).2 i j) nr 0 (nI N)) nr 1 (nI c)) nr 2 (nI (t + cl c 2)))) = S19 at h3 eX kc1
    have hsX := send_X h3 (by omega) ht (i := nr) (by omega)
    rw [n0, n1, n2] at hsX
    have h4 := (h3.sentC hc).sentR (i := nr) (v := min (t + cl c 4) (t + cl c 2)) (by omega) n0 (by omega) (by omega)
    rw [n3] at h4
    have eP : psd (upd (upd (upd (pnew P nr N c (t + cl c 2)) (189 + 8 * nr + 4) (0 : Int32)) (189 + 8 * nr + 5) (0 : Int32)) (90 + 8 * c + 1) (upd (upd (pnew P nr N c (t + cl c 2)) (189 + 8 * nr + 4) (0 : Int32)) (189 + 8 * nr + 5) (0 : Int32) (90 + 8 * c + 1) + 1)) nr (0 + 1) (min (t + cl c 4) (t + cl c 2)) = psd (upd (pnew P nr N c (t + cl c 2)) (90 + 8 * c + 1) (pnew P nr N c (t + cl c 2) (90 + 8 * c + 1) + 1)) nr (0 + 1) (min (t + cl c 4) (t + cl c 2)) := psd_stale (by omega)
    have hPn : ∀ x, x ≠ 183 → x ≠ 188 → (x < 189 + 8 * nr ∨ 189 + 8 * nr + 7 ≤ x) → pnew P nr N c (t + cl c 2) x = P x := fun x x1 x2 x3 => by
      unfold pnew
      rw [up_n (by omega), up_n (by omega), up_n (by omega), up_n (by omega), up_n x1, up_n (by omega), up_n x2]
    have hsM := sends_M0 (M := (pnew P nr N c (t + cl c 2), M.2)) (i := nr) (c := c) (x0 := N) (x2 := t + cl c 2) (x3 := 0) (to := cl c 4) (t := t) (by omega) hc ht (by omega) (by omega) h.2.2.2.2.2.2.1 (by
        show pnew P nr N c (t + cl c 2) _ = _
        unfold pnew
        rw [up_n (by omega), up_n (by omega), up_n (by omega), up_n (by omega), up_n (by omega), up_s rfl]) (by
        show pnew P nr N c (t + cl c 2) _ = _
        unfold pnew
        rw [up_n (by omega), up_n (by omega), up_n (by omega), up_s rfl]) (by
        show pnew P nr N c (t + cl c 2) _ = _
        unfold pnew
        rw [up_n (by omega), up_n (by omega), up_s rfl]) (by
        show pnew P nr N c (t + cl c 2) _ = _
        unfold pnew
        rw [up_n (by omega), up_s rfl]
        rfl) ((hPn _ (by omega) (by omega) (by omega)).trans (hC2.2 c 4 hc (by omega)).2.1)
    dsimp only at h4 hsM
    rw [eP] at h4
    have r0 : rsd (rnew r nr N c (t + cl c 2)) nr (min (t + cl c 4) (t + cl c 2)) nr 0 = N := by unfold rsd; rw [if_pos rfl, if_neg (by decide), if_neg (by decide), if_neg (by decide), n0]
    have r1 : rsd (rnew r nr N c (t + cl c 2)) nr (min (t + cl c 4) (t + cl c 2)) nr 1 = c := by unfold rsd; rw [if_pos rfl, if_neg (by decide), if_neg (by decide), if_neg (by decide), n1]
    have r3 : rsd (rnew r nr N c (t + cl c 2)) nr (min (t + cl c 4) (t + cl c 2)) nr 3 = 1 := by unfold rsd; rw [if_pos rfl, if_pos rfl, n3]
    have r4 : rsd (rnew r nr N c (t + cl c 2)) nr (min (t + cl c 4) (t + cl c 2)) nr 4 = 0 := by unfold rsd; rw [if_pos rfl, if_neg (by decide), if_pos rfl]
    have r5 : rsd (rnew r nr N c (t + cl c 2)) nr (min (t + cl c 4) (t + cl c 2)) nr 5 = min (t + cl c 4) (t + cl c 2) := by unfold rsd; rw [if_pos rfl, if_neg (by decide), if_neg (by decide), if_pos rfl]
    obtain ⟨x, S2, S', M', nr', r', nq', qs', at', ow', q1, q2, q3, q4, q5, q6⟩ := queue_rel h4 (by omega) ht hwl (i := nr) (by omega) r0 r4 (by omega) (by omega)
    rw [r0] at q1 q3 q4
    rw [r1, r5] at q3
    have n4 : rnew r nr N c (t + cl c 2) nr 4 = 0 := (if_pos rfl).trans (nrow_n (by omega))
    have ks : Ko sv (oC c) o0 S19 S' := sent_kp h3 (show N + 1 < 2 ^ 30 by omega) (show K + 1 + 1 < 2 ^ 29 by omega) (i := nr) (show nr < nr + 1 by omega) (by rw [n1, n4]; show (if c = c then 1 else 0) = _; rw [if_pos rfl, if_pos rfl]; rfl) (fun d hd => by rw [n1] at hd; exact (if_neg hd).symm) (by rw [n0]; exact hsX.trans q1) q2
    have kst : Kp sv S S' := kc1.tr ks
    refine ⟨_, S19, x, S2, S', M', eX, hsX.trans q1, q2, ?_, ⟨_, _, _, _, _, _, _, _, _, _, _, (q4.eE (fun y => ⟨fun z => absurd z.1 z.2, fun z => z.elim⟩)).kle (by omega)⟩, kst⟩
    rw [eM, hsM, q3, ob_eq]
end CS
