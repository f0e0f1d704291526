/-! .. and what class and reference do -/
section CM
variable {F : Fx} {E Zf Zb : Nat → Prop} {t K lo wl : Nat} {cl sg : N2} {sv sw : N1} {nr : Nat} {r : N2} {N nq nb : Nat} {qs ws fb gb : N1} {at_ : N2} {ow : N1} {S S' : StS} {M M' : MS}
theorem sends_M0 {M : MS} {i c x0 x2 x3 to : Nat} (i16 : i < 16) (hc : c < 6) (ht : t < 2 ^ 29) (b2 : x2 < 2 ^ 30) (b4 : to ≤ 40) (e5 : M.2.2 5 = nI t) (p0 : M.1 (189 + 8 * i + 0) = nI x0) (p1 : M.1 (189 + 8 * i + 1) = nI c) (p2 : M.1 (189 + 8 * i + 2) = nI x2) (p3 : M.1 (189 + 8 * i + 3) = nI x3) (c4 : M.1 (12 * c + 4) = nI to) : fX6_sends (nI i) M = qM (nI i) (nI x0) (nI c) (nI (min (t + to) x2)) (psd (upd M.1 (90 + 8 * c + 1) (M.1 (90 + 8 * c + 1) + 1)) i (x3 + 1) (min (t + to) x2), M.2.1, upd M.2.2 7 (M.2.2 7 + 1)) := by
  have st : ∀ (X : MS) (c : Nat) (c' z : Int32) (Q : MS → Option MS), c' = nI c → c < 8 → (ob (fX6_row (nI i) X) fun u => if okI (u + c') 5130 then nm (upd X.1 ((u + c')).toNatClampNeg z, X.2) Q else none) = Q (upd X.1 (189 + 8 * i + c) z, X.2) := by
    intro X c c' z Q e hc
    subst e
    rw [row_eq, ob_eq, nI_add, if_pos (okI_nI (by omega) (by decide)), nm, nI_clamp (by omega)]
  have s3 : ∀ (X : MS) (Q : MS → Option MS), X.1 (189 + 8 * i + 3) = nI x3 → (ob (fX6_row (nI i) X) fun u => if okI (u + (3 : Int32)) 5130 then (if okI (u + (3 : Int32)) 5130 then nm (upd X.1 ((u + (3 : Int32))).toNatClampNeg ((X.1 ((u + (3 : Int32))).toNatClampNeg) + (1 : Int32)), X.2) Q else none) else none) = Q (upd X.1 (189 + 8 * i + 3) (nI (x3 + 1)), X.2) := by
    intro X Q hx
    rw [row_eq, ob_eq, nA_3, if_pos (okI_nI (by omega) (by decide)), if_pos (okI_nI (by omega) (by decide)), nm, nI_clamp (by omega), hx, nA_1]
  have s5 : ∀ (X : MS) (Q : MS → Option MS), X.1 (12 * c + 4) = nI to → X.1 (189 + 8 * i + 2) = nI x2 → X.2.2 5 = nI t → (ob (fX6_row (nI i) X) fun u92 => ob (fX6_of (nI c) (4 : Int32) X) fun u93 => ob (fX6_row (nI i) X) fun u94 => (if okI (u94 + (2 : Int32)) 5130 then ob (fX6_least (((X.2.2 5) + u93)) ((X.1 ((u94 + (2 : Int32))).toNatClampNeg))) fun u95 => (if okI (u92 + (5 : Int32)) 5130 then nm (upd X.1 ((u92 + (5 : Int32))).toNatClampNeg u95, X.2) Q else none) else none)) = Q (upd X.1 (189 + 8 * i + 5) (nI (min (t + to) x2)), X.2) := by
    intro X Q h1 h2 h3
    rw [row_eq, ob_eq, show fX6_of (nI c) (4 : Int32) X = some (nI to) from (of_n (k := 4) hc (by omega) X).trans (congrArg some h1), ob_eq, ob_eq, nA_2, if_pos (okI_nI (by omega) (by decide)), nI_clamp (by omega), h2, h3, nI_add, least_eq, least_nI (by omega) (by omega), ob_eq, nA_5, if_pos (okI_nI (by omega) (by decide)), nm, nI_clamp (by omega)]
  unfold fX6_sends
  rw [row_eq, ob_eq, nA_0, if_pos (okI_nI (by omega) (by decide)), nm, nI_clamp (by omega), p0, ob_eq, nA_1, if_pos (okI_nI (by omega) (by decide)), nm, nI_clamp (by omega), p1, show fX6_counts (nI c) (1 : Int32) (1 : Int32) M = _ from counts_n (k := 1) hc (by omega) 1 M, ob_eq, nm]
  refine (s3 _ _ (by dsimp only; rw [up_n (by omega)]; exact p3)).trans ?_
  refine (st _ 4 _ _ _ rfl (by omega)).trans ?_
  refine (s5 _ _ (by dsimp only; rw [up_n (by omega), up_n (by omega), up_n (by omega)]; exact c4) (by dsimp only; rw [up_n (by omega), up_n (by omega), up_n (by omega)]; exact p2) (by dsimp only; rw [up_n (by omega)]; exact e5)).trans ?_
  refine (st _ 7 _ _ _ rfl (by omega)).trans ?_
  rw [row_eq, ob_eq, nA_5, if_pos (okI_nI (by omega) (by decide)), nm, nI_clamp (by omega), cl_557, cl_175]
  dsimp only
  rw [up_n (show 189 + 8 * i + 5 ≠ 189 + 8 * i + 7 by omega), up_s rfl]
  rfl
def pcre (p : Pg) (c : Nat) (rf mx : Int32) : Pg := upd (upd p (90 + 8 * c + 0) (p (90 + 8 * c + 0) + 1)) (90 + 8 * c + 7) (if p (90 + 8 * c + 7) + rf ≤ mx then p (90 + 8 * c + 7) + rf else mx)
theorem pcre_out {p : Pg} {c : Nat} {rf mx : Int32} {x : Nat} (h : x < 90 + 8 * c ∨ 90 + 8 * c + 8 ≤ x) : pcre p c rf mx x = p x := by
  unfold pcre
  rw [up_n (by omega), up_n (by omega)]
def pnew (p : Pg) (nr N c d : Nat) : Pg := upd (upd (upd (upd (upd (upd (upd p 188 (nI (nr + 1))) (189 + 8 * nr + 0) (nI N)) 183 (nI (N + 1))) (189 + 8 * nr + 1) (nI c)) (189 + 8 * nr + 2) (nI d)) (189 + 8 * nr + 3) (0 : Int32)) (189 + 8 * nr + 6) (0 : Int32)
theorem creates_M {M : MS} {c bud rf pat : Nat} (hc : c < 6) (hb : M.1 (12 * c + 10) = nI bud) (hf : M.1 (12 * c + 11) = nI rf) (ha : M.1 (12 * c + 2) = nI pat) (e5 : M.2.2 5 = nI t) (h188 : M.1 188 = nI nr) (h183 : M.1 183 = nI N) (hn : nr ≤ 16) : fX6_creates (nI c) M = if nr = 16 then some (upd (pcre M.1 c (nI rf) (nI (10 * bud))) (90 + 8 * c + 3) (pcre M.1 c (nI rf) (nI (10 * bud)) (90 + 8 * c + 3) + 1), M.2) else ob (fX6_sends (nI nr) (pnew (pcre M.1 c (nI rf) (nI (10 * bud))) nr N c (t + pat), M.2)) fun u => some u := by
  have st : nr < 16 → ∀ (X : MS) (c : Nat) (c' z : Int32) (Q : MS → Option MS), c' = nI c → c < 8 → (ob (fX6_row (nI nr) X) fun u => if okI (u + c') 5130 then nm (upd X.1 ((u + c')).toNatClampNeg z, X.2) Q else none) = Q (upd X.1 (189 + 8 * nr + c) z, X.2) := by
    intro hl X c c' z Q e hc
    subst e
    rw [row_eq, ob_eq, nI_add, if_pos (okI_nI (by omega) (by decide)), nm, nI_clamp (by omega)]
  have s2 : nr < 16 → ∀ (X : MS) (Q : MS → Option MS), X.1 (12 * c + 2) = nI pat → X.2.2 5 = nI t → (ob (fX6_row (nI nr) X) fun u38 => ob (fX6_of (nI c) (2 : Int32) X) fun u39 => (if okI (u38 + (2 : Int32)) 5130 then nm (upd X.1 ((u38 + (2 : Int32))).toNatClampNeg ((X.2.2 5) + u39), X.2) Q else none)) = Q (upd X.1 (189 + 8 * nr + 2) (nI (t + pat)), X.2) := by
    intro hl X Q h1 h2
    rw [row_eq, ob_eq, show fX6_of (nI c) (2 : Int32) X = some (nI pat) from (of_n (k := 2) hc (by omega) X).trans (congrArg some h1), ob_eq, nA_2, if_pos (okI_nI (by omega) (by decide)), nm, nI_clamp (by omega), h2, nI_add]
  have hcnt : fX6_counts (nI c) (0 : Int32) (1 : Int32) M = some (upd M.1 (90 + 8 * c + 0) (M.1 (90 + 8 * c + 0) + 1), M.2) := counts_n (k := 0) hc (by omega) 1 M
  have hA : ∀ x, x ≠ 90 + 8 * c + 0 → upd M.1 (90 + 8 * c + 0) (M.1 (90 + 8 * c + 0) + 1) x = M.1 x := fun x hx => up_n hx
  unfold pcre
  generalize upd M.1 (90 + 8 * c + 0) (M.1 (90 + 8 * c + 0) + 1) = A at hcnt hA ⊢
  have o10 : fX6_of (nI c) (10 : Int32) (A, M.2) = some (nI bud) := (of_n (k := 10) hc (by omega) _).trans (congrArg some ((hA _ (by omega)).trans hb))
  have o11 : fX6_of (nI c) (11 : Int32) (A, M.2) = some (nI rf) := (of_n (k := 11) hc (by omega) _).trans (congrArg some ((hA _ (by omega)).trans hf))
  unfold fX6_creates
  rw [hcnt, ob_eq, nM_8, nB_90, nA_7, nm, o10, ob_eq, nM_10, nm, if_pos (okI_nI (by omega) (by decide)), o11, ob_eq, least_eq, ob_eq, if_pos (okI_nI (by omega) (by decide)), nm, nI_clamp (by omega)]
  dsimp only
  simp only [hA (90 + 8 * c + 7) (by omega)]
  generalize (if M.1 (90 + 8 * c + 7) + nI rf ≤ nI (10 * bud) then M.1 (90 + 8 * c + 7) + nI rf else nI (10 * bud)) = z
  have hB : ∀ x, x ≠ 90 + 8 * c + 0 → x ≠ 90 + 8 * c + 7 → upd A (90 + 8 * c + 7) z x = M.1 x := fun x h1 h2 => (up_n h2).trans (hA x h1)
  have hB3 : upd A (90 + 8 * c + 7) z (90 + 8 * c + 3) = upd A (90 + 8 * c + 7) z (90 + 8 * c + 3) := rfl
  generalize upd A (90 + 8 * c + 7) z = B at hB ⊢
  rw [cl_188, cl_183, hB 188 (by omega) (by omega), h188]
  by_cases e : nr = 16
  · rw [if_pos e, if_pos (show nI nr = (16 : Int32) by rw [e]; rfl), show fX6_counts (nI c) (3 : Int32) (1 : Int32) (B, M.2) = _ from counts_n (k := 3) hc (by omega) 1 _, ob_eq]
  · rw [if_neg e, if_neg (fun y => e ((eqn_16 (by omega)).mp y)), nm, nA_1, nm]
    refine (st (by omega) _ 0 _ _ _ rfl (by omega)).trans ?_
    rw [nm]
    refine (st (by omega) _ 1 _ _ _ rfl (by omega)).trans ?_
    refine (s2 (by omega) _ _ (by dsimp only; rw [up_n (by omega), up_n (by omega), up_n (by omega), up_n (by omega), hB _ (by omega) (by omega)]; exact ha) (by exact e5)).trans ?_
    refine (st (by omega) _ 3 _ _ _ rfl (by omega)).trans ?_
    refine (st (by omega) _ 6 _ _ _ rfl (by omega)).trans ?_
    dsimp only
    unfold pnew
    rw [up_n (show 183 ≠ 188 by decide), hB 183 (by omega) (by omega), h183, up_n (show 183 ≠ 189 + 8 * nr + 0 by omega), up_n (show 183 ≠ 188 by decide), hB 183 (by omega) (by omega), h183, nA_1]
end CM
