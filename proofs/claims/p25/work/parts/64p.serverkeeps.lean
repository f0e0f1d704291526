/-! the servers' steps keep them, too -/
theorem i32_a (a b x p : Int32) : a + (b + x) + p = a + b + (p + x) := by rw [← Int32.add_assoc a b x, Int32.add_assoc (a + b) x p, Int32.add_comm x p]
theorem i32_b (a b x p : Int32) : a + x + b + p = a + b + (p + x) := by rw [i32_rc a x b, Int32.add_assoc (a + b) x p, Int32.add_comm x p]
theorem ctr_z {T : Tb} {w : Nat} (h : T.2 w 0 = -9) : ctr T w = 0 := if_pos h
theorem ctr_n {T : Tb} {w : Nat} (h : T.2 w 0 ≠ -9) : ctr T w = T.2 w 4 := if_neg h
theorem ctr_cg {T T' : Tb} {w : Nat} (h : T'.2 w 0 = T.2 w 0) (h4 : T'.2 w 4 = T.2 w 4) : ctr T' w = ctr T w := by
  unfold ctr
  rw [h, h4]
theorem tput_or {w rows : Nat} {T : Tb} {r c v : Int32} {a b : Nat} : (tput w rows T r c v).2 a b = T.2 a b ∨ (tput w rows T r c v).2 a b = v := by
  unfold tput
  by_cases h : okI r (tz rows T) ∧ okI c w
  · rw [if_pos h]
    show fup T.2 _ _ v a b = _ ∨ fup T.2 _ _ v a b = v
    unfold fup
    by_cases e : a = r.toNatClampNeg ∧ b = c.toNatClampNeg
    · exact Or.inr (if_pos e)
    · exact Or.inl (if_neg e)
  · rw [if_neg h]
    exact Or.inl rfl
theorem ff_or {g : Nat → Bool} : ∀ (n i : Nat), firstF g n i = -9 ∨ ∃ m, i ≤ m ∧ m < i + n ∧ firstF g n i = nI m ∧ g m = true
  | 0, _ => Or.inl rfl
  | n + 1, i => by
    show (if g i then nI i else firstF g n (i + 1)) = -9 ∨ ∃ m, i ≤ m ∧ m < i + (n + 1) ∧ (if g i then nI i else firstF g n (i + 1)) = nI m ∧ g m = true
    by_cases e : g i = true
    · rw [if_pos e]
      exact Or.inr ⟨i, Nat.le_refl _, by omega, rfl, e⟩
    · rw [if_neg e]
      rcases ff_or (g := g) n (i + 1) with z | ⟨m, m1, m2, m3, m4⟩
      · exact Or.inl z
      · exact Or.inr ⟨m, by omega, by omega, m3, m4⟩
theorem tf_or {w rows : Nat} {T : Tb} {j : Nat} {v : Int32} (h2 : T.1 ≤ rows) (h3 : j < w) (hw : w ≤ 14) (hr : rows ≤ 64) : tfind w rows T (nI j) v = -9 ∨ ∃ m, m < T.1 ∧ tfind w rows T (nI j) v = nI m ∧ T.2 m j = v := by
  unfold tfind
  rw [tz_n h2]
  rcases ff_or (g := fun i => decide (tget w rows T (nI i) (nI j) = v)) T.1 0 with z | ⟨m, -, m2, m3, m4⟩
  · exact Or.inl z
  · refine Or.inr ⟨m, by omega, m3, ?_⟩
    have := of_decide_eq_true m4
    rw [tg (by omega) (by omega) h3 hw hr] at this
    exact this
section SK
variable {S S' S1 : StS} {sv o lb : N1}
theorem waste_ko {f : Nat} (h7 : (S.1 7).1 = 4) (hf : f < 4) (hne : (S.1 7).2 f 0 ≠ -9) : Ko sv o o S (sset (S.1, upd S.2 16 (S.2 16 + (S.1 7).2 f 4)) 7 (4, fup (S.1 7).2 f 0 (-9))) := by
  refine Ko.of (ss_n (by omega)) (ss_n (by omega)) (ss_n (by omega)) ?_ (fun w hw _ e => ?_) (fun w _ _ e => by rw [ss_n (by omega)]; exact e)
  · rw [ss_s]
    show upd S.2 16 (S.2 16 + (S.1 7).2 f 4) 15 + upd S.2 16 (S.2 16 + (S.1 7).2 f 4) 16 + pnd _ = _
    rw [up_n (by omega), up_s rfl]
    have h := pnd_one (T := S.1 7) (T' := (4, fup (S.1 7).2 f 0 (-9))) hf (fun w hw hne => ctr_cg (fup_r hne) (fup_r hne))
    rw [show ctr (4, fup (S.1 7).2 f 0 (-9)) f = 0 from ctr_z (fup_s rfl rfl), ctr_n hne, Int32.add_zero] at h
    rw [← h]
    exact i32_a _ _ _ _
  · rw [ss_s]
    dsimp only
    by_cases e2 : w = f
    · exact fup_s e2 rfl
    · rw [fup_r e2]
      exact e
/-- a worker's cells beside owner and work are written -/
theorem put7_ko {T : Tb} (h : ∀ w, w < 4 → T.2 w 0 = (S.1 7).2 w 0 ∧ T.2 w 4 = (S.1 7).2 w 4) : Ko sv o o S (sset S 7 T) := by
  refine Ko.of (ss_n (by omega)) (ss_n (by omega)) (ss_n (by omega)) ?_ (fun w hw _ e => ?_) (fun w _ _ e => by rw [ss_n (by omega)]; exact e)
  · rw [ss_s]
    show S.2 15 + S.2 16 + pnd T = _
    rw [pnd_cg h]
  · rw [ss_s, (h w hw).1]
    exact e
theorem put9_ko {r v : Int32} (h : v = -9) : Ko sv o o S (sput 9 S r (0 : Int32) v) := by
  refine Ko.of (ss_n (k := 9) (by omega)) (ss_n (k := 9) (by omega)) (ss_n (k := 9) (by omega)) ?_ (fun w _ _ e => ?_) (fun w _ _ e => ?_)
  · rw [show (sput 9 S r (0 : Int32) v).1 7 = S.1 7 from ss_n (k := 9) (by omega)]
    rfl
  · rw [show (sput 9 S r (0 : Int32) v).1 7 = S.1 7 from ss_n (k := 9) (by omega)]
    exact e
  · show ((sset S 9 (tput 1 4 (S.1 9) r 0 v)).1 9).2 w 0 = -9
    rw [ss_s]
    rcases tput_or (w := 1) (rows := 4) (T := S.1 9) (r := r) (c := 0) (v := v) (a := w) (b := 0) with z | z
    · rw [z]; exact e
    · rw [z]; exact h
/-- tables of no concern -/
theorem oth_ko {k : Nat} {T : Tb} (hk : k = 6 ∨ k = 8) : Ko sv o o S (sset S k T) := by
  refine Ko.of (ss_n (by omega)) (ss_n (by omega)) (ss_n (by omega)) ?_ (fun w _ _ e => by rw [ss_n (by omega)]; exact e) (fun w _ _ e => by rw [ss_n (by omega)]; exact e)
  rw [ss_n (by omega)]
  rfl
theorem Ko.tr {o1 o2 : N1} (h : Ko sv o o1 S S1) (g : Ko sv o1 o2 S1 S') : Ko sv o o2 S S' := fun w lb z => g w lb (h w lb z)
/-- a back worker takes -/
theorem tab_ko {v f : Nat} {x : Int32} (h7 : (S.1 7).1 = 4) (h9 : (S.1 9).1 = 4) (hv : v < 4) (hsv : v < sv 2) (hf : f < 4) (eb : sget 8 S (0 : Int32) (0 : Int32) = nI f) (hne : (S.1 7).2 f 0 ≠ -9) (h : fX1_takeAtBack (nI v) S = some (x, S1)) : Ko sv o o S S1 ∧ S1.1 5 = S.1 5 ∧ S1.1 1 = S.1 1 ∧ (x = -9 ∨ x = (S.1 7).2 f 0) := by
  have t : ∀ k, k ≠ 8 → (sdrop 8 S (0 : Int32)).1 k = S.1 k := fun k hk => ss_n (k := 8) hk
  unfold fX1_takeAtBack at h
  rw [eb, nm, nm] at h
  obtain ⟨u, -, h⟩ := ob_some h
  rcases if_or h with ⟨-, h⟩ | ⟨-, h⟩
  · rw [sp9 (by rw [t 9 (by omega)]; exact h9) hv, nm, show sput 7 (sset (sdrop 8 S (0 : Int32)) 9 (4, fup ((sdrop 8 S (0 : Int32)).1 9).2 v 0 (nI f))) (nI f) (5 : Int32) (4 : Int32) = _ from sp7 (c := 5) (by rw [ss_n (by omega), t 7 (by omega)]; exact h7) hf (by omega), nm, ss_n (by omega), t 7 (by omega), t 9 (by omega)] at h
    have e1 : (-9 : Int32) = x := congrArg Prod.fst (Option.some.inj h)
    have e2 := congrArg Prod.snd (Option.some.inj h)
    dsimp only at e2
    rw [← e1, ← e2]
    refine ⟨?_, by rw [ss_n (by omega), ss_n (by omega), t 5 (by omega)], by rw [ss_n (by omega), ss_n (by omega), t 1 (by omega)], Or.inl rfl⟩
    refine Ko.of (by rw [ss_n (by omega), ss_n (by omega), t 0 (by omega)]) (by rw [ss_n (by omega), ss_n (by omega), t 1 (by omega)]) (by rw [ss_n (by omega), ss_n (by omega), t 5 (by omega)]) ?_ (fun w hw _ e => ?_) (fun w hw hs e => ?_)
    · rw [ss_s]
      show S.2 15 + S.2 16 + pnd _ = _
      rw [pnd_cg (T := S.1 7) (T' := (4, fup (S.1 7).2 f 5 (4 : Int32))) (fun w hw => ⟨fup_c (by omega), fup_c (by omega)⟩)]
    · rw [ss_s]
      dsimp only
      rw [fup_c (by omega)]
      exact e
    · rw [ss_n (by omega), ss_s]
      dsimp only
      rw [fup_r (by omega)]
      exact e
  · obtain ⟨u2, u3, h⟩ := ob_some h
    rw [waste_eval (S := sdrop 8 S (0 : Int32)) (by rw [t 7 (by omega)]; exact h7) hf] at u3
    rw [← Option.some.inj u3] at h
    have e1 := congrArg Prod.fst (Option.some.inj h)
    have e2 := congrArg Prod.snd (Option.some.inj h)
    dsimp only at e1 e2
    rw [t 7 (by omega)] at e1
    refine ⟨?_, by rw [← e2, ss_n (by omega)]; exact t 5 (by omega), by rw [← e2, ss_n (by omega)]; exact t 1 (by omega), Or.inr e1.symm⟩
    rw [← e2]
    have k8 : Ko sv o o S (sdrop 8 S (0 : Int32)) := oth_ko (k := 8) (Or.inr rfl)
    exact k8.tr (waste_ko (S := sdrop 8 S (0 : Int32)) (by rw [t 7 (by omega)]; exact h7) hf (by rw [t 7 (by omega)]; exact hne))
theorem bmp_813 {t : N1} {y : Nat} (h : 8 ≤ y) (h2 : y ≤ 13) : bmp t y 8 + bmp t y 9 + bmp t y 10 + bmp t y 11 + bmp t y 12 + bmp t y 13 = t 8 + t 9 + t 10 + t 11 + t 12 + t 13 + 1 := by
  have e : ∀ j, bmp t y j = if j = y then t j + 1 else t j := fun _ => rfl
  rcases (show y = 8 ∨ y = 9 ∨ y = 10 ∨ y = 11 ∨ y = 12 ∨ y = 13 by omega) with rfl | rfl | rfl | rfl | rfl | rfl
  · rw [bmp_s rfl, bmp_n (by omega), bmp_n (by omega), bmp_n (by omega), bmp_n (by omega), bmp_n (by omega)]; omega
  · rw [bmp_s rfl, bmp_n (by omega), bmp_n (by omega), bmp_n (by omega), bmp_n (by omega), bmp_n (by omega)]; omega
  · rw [bmp_s rfl, bmp_n (by omega), bmp_n (by omega), bmp_n (by omega), bmp_n (by omega), bmp_n (by omega)]; omega
  · rw [bmp_s rfl, bmp_n (by omega), bmp_n (by omega), bmp_n (by omega), bmp_n (by omega), bmp_n (by omega)]; omega
  · rw [bmp_s rfl, bmp_n (by omega), bmp_n (by omega), bmp_n (by omega), bmp_n (by omega), bmp_n (by omega)]; omega
  · rw [bmp_s rfl, bmp_n (by omega), bmp_n (by omega), bmp_n (by omega), bmp_n (by omega), bmp_n (by omega)]; omega
theorem EA.fsucc (h : EA o lb S) {i c y : Nat} (hi : i < (S.1 5).1) (hc : c < 6) (r1 : (S.1 5).2 i 1 = nI c) (r4 : (S.1 5).2 i 4 = 0) (hy : 8 ≤ y) (hy2 : y ≤ 13) (h0 : S'.1 0 = S.1 0) (h5 : S'.1 5 = dT (S.1 5) i) (h1 : S'.1 1 = (6, fup (fup (S.1 1).2 c 2 ((S.1 1).2 c 2 + 1)) c y ((S.1 1).2 c y + 1))) : EA o lb S' := by
  obtain ⟨d1, d2, d3⟩ := dT_cl hi hc r1 r4
  refine h.one (c := c) (by rw [h5]; show (S.1 5).1 - 1 ≤ 16; have := h.1; omega) (by rw [h1]) h0 (fun d j hd hne hj => ?_) (fun d hd hne => by rw [h5]; exact ⟨(d1 d hd hne).1, (d1 d hd hne).2, rfl⟩) (fun z => by rw [h5]; exact z.drop) ?_
  · rw [h1]
    dsimp only
    rw [fup_r hne, fup_r hne]
  · rintro ⟨t, t1, t2, t3, t4, t5, b, t6, t7, t8⟩
    have e3 : (S.1 1).2 c y = fup (S.1 1).2 c 2 ((S.1 1).2 c 2 + 1) c y := (fup_c (by omega)).symm
    refine ⟨bmp (bmp t 2) y, ?_, ?_, ?_, ?_, ?_, b, t6, t7, ?_⟩
    · rw [h1]
      dsimp only
      rw [e3]
      exact bmp_all (bmp_all t1 (by omega)) (by omega)
    · rw [h5, bmp_n (j := 0) (by omega), bmp_n (j := 2) (by omega), bmp_n (j := 3) (by omega), bmp_n (j := 0) (by omega), bmp_s (j := 2) (by omega), bmp_n (j := 3) (by omega)]
      omega
    · rw [h5, bmp_n (j := 1) (by omega), bmp_n (j := 2) (by omega), bmp_n (j := 4) (by omega), bmp_n (j := 5) (by omega), bmp_n (j := 6) (by omega), bmp_n (j := 1) (by omega), bmp_s (j := 2) (by omega), bmp_n (j := 4) (by omega), bmp_n (j := 5) (by omega), bmp_n (j := 6) (by omega)]
      omega
    · rw [bmp_813 hy hy2, bmp_n (j := 8) (by omega), bmp_n (j := 9) (by omega), bmp_n (j := 10) (by omega), bmp_n (j := 11) (by omega), bmp_n (j := 12) (by omega), bmp_n (j := 13) (by omega), bmp_n (j := 2) (by omega), bmp_s (j := 2) (by omega)]
      omega
    · rw [bmp_n (j := 1) (by omega), bmp_n (j := 1) (by omega), bmp_n (j := 2) (by omega), bmp_s (j := 2) (by omega)]
      exact ⟨t5.1, by omega⟩
    · rw [bmp_n (j := 7) (by omega), bmp_n (j := 7) (by omega)]
      exact t8
/-- an answer -/
theorem ans_ko {f : Nat} (h5 : (S.1 5).1 ≤ 16) (h1 : (S.1 1).1 = 6) (h7 : (S.1 7).1 = 4) (hf : f < 4) (hne : (S.1 7).2 f 0 ≠ -9) (hF : FW (S.1 5) ((S.1 7).2 f 0)) (hm : ∀ i, i < (S.1 5).1 → (S.1 5).2 i 4 = 0 → ∃ m : Nat, (S.1 5).2 i 3 = nI m ∧ 1 ≤ m ∧ m ≤ 6) (h : fX1_answer (nI f) S = some S') : Ko sv o o S S' := by
  unfold fX1_answer at h
  rw [show sget 7 S (nI f) (0 : Int32) = (S.1 7).2 f 0 from sg7 h7 hf (c := 0) (by omega)] at h
  rcases hF with e | ⟨i, c, hi, e, r1, hc, r4⟩
  · rw [show sfind 5 S (0 : Int32) ((S.1 7).2 f 0) = -9 from e, nm, if_pos rfl, waste_eval h7 hf, ob_eq] at h
    rw [← Option.some.inj h]
    exact waste_ko h7 hf hne
  · obtain ⟨m, m1, m2, m3⟩ := hm i hi r4
    rw [show sfind 5 S (0 : Int32) ((S.1 7).2 f 0) = nI i from e, nm, if_neg (nI_neg (by omega) (by decide)), show sget 5 S (nI i) (1 : Int32) = nI c from (tg (w := 7) (rows := 16) (j := 1) hi (by omega) (by omega) (by omega) (by omega)).trans r1, nm, nm, show sget 7 S (nI f) (4 : Int32) = (S.1 7).2 f 4 from sg7 h7 hf (c := 4) (by omega)] at h
    generalize hS0 : ((S.1, upd S.2 15 (S.2 15 + (S.1 7).2 f 4)) : StS) = S0 at h
    have s01 : S0.1 = S.1 := by rw [← hS0]
    rw [show sadd 1 S0 (nI c) (2 : Int32) (1 : Int32) = _ from sadd_tal (y := 2) (z := 1) (by rw [s01]; exact h1) hc (by omega), nm, s01, h1] at h
    have g3 : sget 5 (sset S0 1 (6, fup (S.1 1).2 c 2 ((S.1 1).2 c 2 + 1))) (nI i) (3 : Int32) = nI m := by
      show tget 7 16 ((sset S0 1 _).1 5) (nI i) (nI 3) = _
      rw [ss_n (by omega), s01, tg hi (by omega) (by omega) (by omega) (by omega)]
      exact m1
    rw [g3, nB_7, sadd_tal (by rw [ss_s]) hc (by omega), nm, ss_s] at h
    dsimp only at h
    have e3 : fup (S.1 1).2 c 2 ((S.1 1).2 c 2 + 1) c (7 + m) = (S.1 1).2 c (7 + m) := fup_c (by omega)
    rw [e3, sset2, nm, nm] at h
    generalize hS2 : sset S0 1 (6, fup (fup (S.1 1).2 c 2 ((S.1 1).2 c 2 + 1)) c (7 + m) ((S.1 1).2 c (7 + m) + 1)) = S2 at h
    have s2k : ∀ k, k ≠ 1 → S2.1 k = S.1 k := fun k hk => by rw [← hS2, ss_n hk, s01]
    have s21 : S2.1 1 = (6, fup (fup (S.1 1).2 c 2 ((S.1 1).2 c 2 + 1)) c (7 + m) ((S.1 1).2 c (7 + m) + 1)) := by rw [← hS2]; exact ss_s
    have s22 : S2.2 = upd S.2 15 (S.2 15 + (S.1 7).2 f 4) := by rw [← hS2, ← hS0]; rfl
    have ed : sdrop 5 S2 (nI i) = sset S2 5 (dT (S.1 5) i) := by
      show sset S2 5 (tdrop 16 (S2.1 5) (nI i)) = _
      rw [s2k 5 (by omega), td hi h5 (by omega)]
      rfl
    rw [ed, show sput 7 (sset S2 5 (dT (S.1 5) i)) (nI f) (0 : Int32) (-9 : Int32) = _ from sp7 (c := 0) (by rw [ss_n (by omega), s2k 7 (by omega)]; exact h7) hf (by omega), ss_n (by omega), s2k 7 (by omega)] at h
    rw [← Option.some.inj h]
    rintro w0 lb ⟨a, b, c7, c9⟩
    refine ⟨a.fsucc hi hc r1 r4 (y := 7 + m) (by omega) (by omega) ?_ ?_ ?_, ?_, fun w hw hs => ?_, fun w hw hs => ?_⟩
    · rw [ss_n (by omega), ss_n (by omega), s2k 0 (by omega)]
    · rw [ss_n (by omega), ss_s]
    · rw [ss_n (by omega), ss_n (by omega), s21]
    · rw [ss_s]
      show S2.2 15 + S2.2 16 + pnd _ = _
      rw [s22, up_s rfl, up_n (by omega), ← b]
      have h := pnd_one (T := S.1 7) (T' := (4, fup (S.1 7).2 f 0 (-9))) hf (fun w hw hne => ctr_cg (fup_r hne) (fup_r hne))
      rw [show ctr (4, fup (S.1 7).2 f 0 (-9)) f = 0 from ctr_z (fup_s rfl rfl), ctr_n hne, Int32.add_zero] at h
      rw [← h]
      exact i32_b _ _ _ _
    · rw [ss_s]
      dsimp only
      by_cases e2 : w = f
      · exact fup_s e2 rfl
      · rw [fup_r e2]
        exact c7 w hw hs
    · rw [ss_n (by omega), ss_n (by omega), s2k 9 (by omega)]
      exact c9 w hw hs
/-- a call of the back server -/
theorem cab_ko {v : Nat} {x : Int32} (h7 : (S.1 7).1 = 4) (hv : v < 4) (hne : (S.1 7).2 v 0 ≠ -9) (h : fX1_callBack (nI v) S = some (x, S1)) : Ko sv o o S S1 ∧ S1.1 5 = S.1 5 ∧ S1.1 1 = S.1 1 ∧ (x = -9 ∨ x = (S.1 7).2 v 0) := by
  unfold fX1_callBack at h
  rcases if_or h with ⟨-, h⟩ | ⟨-, h⟩
  · rw [nm, nm, nm] at h
    generalize hS8 : sput 8 (sappend 8 S).2 (sappend 8 S).1 (0 : Int32) (nI v) = S8 at h
    have e8 : ∃ T, S8 = sset S 8 T := by
      rw [← hS8]
      refine ⟨tput (tw 8) (tr 8) (((sappend 8 S).2).1 8) (sappend 8 S).1 0 (nI v), ?_⟩
      show sset (sset S 8 _) 8 _ = _
      exact sset2
    obtain ⟨T, e8⟩ := e8
    rw [nm, e8, show sput 7 (sset S 8 T) (nI v) (5 : Int32) (3 : Int32) = _ from sp7 (c := 5) (by rw [ss_n (by omega)]; exact h7) hv (by omega), ss_n (by omega)] at h
    have e1 : (-9 : Int32) = x := congrArg Prod.fst (Option.some.inj h)
    have e2 := congrArg Prod.snd (Option.some.inj h)
    dsimp only at e2
    rw [← e1, ← e2]
    refine ⟨(oth_ko (T := T) (Or.inr rfl)).tr (put7_ko (fun w hw => ?_)), by rw [ss_n (by omega), ss_n (by omega)], by rw [ss_n (by omega), ss_n (by omega)], Or.inl rfl⟩
    rw [ss_n (by omega)]
    exact ⟨fup_c (by omega), fup_c (by omega)⟩
  · rw [waste_eval h7 hv, ob_eq] at h
    have e1 := congrArg Prod.fst (Option.some.inj h)
    have e2 := congrArg Prod.snd (Option.some.inj h)
    dsimp only at e1 e2
    rw [← e2]
    exact ⟨waste_ko h7 hv hne, ss_n (by omega), ss_n (by omega), Or.inr e1.symm⟩
/-- an attempt is abandoned -/
theorem aban_ko {x : Int32} (h7 : (S.1 7).1 = 4) (hx : x ≠ -9) (h : fX1_abandon x S = some S1) : Ko sv o o S S1 ∧ S1.1 5 = S.1 5 ∧ S1.1 1 = S.1 1 := by
  unfold fX1_abandon at h
  rw [nm, nm] at h
  have hf := tf_or (w := 6) (rows := 4) (T := S.1 7) (j := 0) (v := x) (by omega) (by omega) (by omega) (by omega)
  generalize hr6 : sfind 6 S (0 : Int32) x = r6 at h
  rw [show sfind 7 S (0 : Int32) x = tfind 6 4 (S.1 7) (nI 0) x from rfl] at h
  generalize tfind 6 4 (S.1 7) (nI 0) x = r7 at h hf
  have eout : ∀ {k : Nat} {X : StS} {c v : Int32}, sput k X (-9 : Int32) c v = X := fun {k X c v} => by
    show sset X k (tput (tw k) (tr k) (X.1 k) (-9) c v) = X
    rw [tp_out (by decide)]
    exact Prod.ext (funext fun j => by
      by_cases e : j = k
      · rw [e, ss_s]
      · rw [ss_n e]) rfl
  rcases if_or h with ⟨-, h⟩ | ⟨-, h⟩
  · rw [nm, nm] at h
    rw [← Option.some.inj h]
    have k6 : Ko sv o o S (sput 6 S r6 (0 : Int32) (-8 : Int32)) := oth_ko (k := 6) (Or.inl rfl)
    have t6 : ∀ k, k ≠ 6 → (sput 6 S r6 (0 : Int32) (-8 : Int32)).1 k = S.1 k := fun k hk => ss_n (k := 6) hk
    rcases hf with z | ⟨m, m1, m2, m3⟩
    · rw [z, eout]
      exact ⟨k6, t6 5 (by omega), t6 1 (by omega)⟩
    · rw [m2, show sput 7 (sput 6 S r6 (0 : Int32) (-8 : Int32)) (nI m) (0 : Int32) (-8 : Int32) = _ from sp7 (c := 0) (by rw [t6 7 (by omega)]; exact h7) (by omega) (by omega), t6 7 (by omega)]
      refine ⟨k6.tr ?_, by rw [ss_n (by omega), t6 5 (by omega)], by rw [ss_n (by omega), t6 1 (by omega)]⟩
      refine Ko.of (ss_n (by omega)) (ss_n (by omega)) (ss_n (by omega)) ?_ (fun w hw _ e => ?_) (fun w _ _ e => by rw [ss_n (by omega)]; exact e)
      · rw [ss_s, t6 7 (by omega)]
        show S.2 15 + S.2 16 + pnd _ = S.2 15 + S.2 16 + pnd _
        refine congrArg _ (sumF_cg 4 (fun w hw => ?_))
        by_cases e : w = m
        · have e1 : ((4, fup (S.1 7).2 m 0 (-8)) : Tb).2 w 0 = -8 := fup_s e rfl
          rw [ctr_n (T := (4, fup (S.1 7).2 m 0 (-8))) (by rw [e1]; decide), ctr_n (T := S.1 7) (by rw [e, m3]; exact hx)]
          exact fup_c (by omega)
        · exact ctr_cg (fup_r e) (fup_r e)
      · rw [ss_s]
        dsimp only
        rw [t6 7 (by omega)] at e
        by_cases e2 : w = m
        · rw [e2, m3] at e
          exact absurd e hx
        · rw [fup_r e2]
          exact e
  · rw [nm] at h
    have k6 : Ko sv o o S (sdrop 6 S r6) := oth_ko (k := 6) (Or.inl rfl)
    have t6 : ∀ k, k ≠ 6 → (sdrop 6 S r6).1 k = S.1 k := fun k hk => ss_n (k := 6) hk
    rcases if_or h with ⟨-, h⟩ | ⟨hne, h⟩
    · unfold bfX1_abandon_110 at h
      rw [← Option.some.inj h]
      exact ⟨k6, t6 5 (by omega), t6 1 (by omega)⟩
    · obtain ⟨m, m1, m2, m3⟩ := hf.resolve_left hne
      rw [nm, nm, m2] at h
      generalize hS12 : sdrop 8 (sdrop 6 S r6) (sfind 8 (sdrop 6 S r6) (0 : Int32) (nI m)) = S12 at h
      have k8 : Ko sv o o (sdrop 6 S r6) S12 := by
        rw [← hS12]
        exact oth_ko (k := 8) (Or.inr rfl)
      have t8 : ∀ k, k ≠ 6 → k ≠ 8 → S12.1 k = S.1 k := fun k h1 h2 => by
        rw [← hS12]
        exact (ss_n (k := 8) h2).trans (t6 k h1)
      generalize sfind 9 S12 (0 : Int32) (nI m) = r9 at h
      have t9 : ∀ k, k ≠ 6 → k ≠ 8 → k ≠ 9 → (sput 9 S12 r9 (0 : Int32) (-9 : Int32)).1 k = S.1 k := fun k h1 h2 h3 => (ss_n (k := 9) h3).trans (t8 k h1 h2)
      rw [waste_eval (by rw [t9 7 (by omega) (by omega) (by omega)]; exact h7) (by omega), ob_eq] at h
      unfold bfX1_abandon_110 at h
      rw [← Option.some.inj h]
      dsimp only
      refine ⟨k6.tr (k8.tr ((put9_ko rfl).tr (waste_ko ?_ (by omega) ?_))), by rw [ss_n (by omega)]; exact t9 5 (by omega) (by omega) (by omega), by rw [ss_n (by omega)]; exact t9 1 (by omega) (by omega) (by omega)⟩
      · rw [t9 7 (by omega) (by omega) (by omega)]
        exact h7
      · rw [t9 7 (by omega) (by omega) (by omega), m3]
        exact hx
end SK
