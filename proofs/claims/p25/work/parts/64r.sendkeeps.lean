/-! a request is created and sent: they are kept -/
theorem ff_cg {g g' : Nat → Bool} : ∀ (n i : Nat), (∀ m, i ≤ m → m < i + n → g m = g' m) → firstF g n i = firstF g' n i
  | 0, _, _ => rfl
  | n + 1, i, h => by
    show (if g i then nI i else firstF g n (i + 1)) = if g' i then nI i else firstF g' n (i + 1)
    rw [h i (Nat.le_refl _) (by omega), ff_cg n (i + 1) (fun m m1 m2 => h m (by omega) (by omega))]
theorem tf_cg {w rows : Nat} {T T' : Tb} {j : Nat} {v : Int32} (h2 : T.1 ≤ rows) (h3 : j < w) (hw : w ≤ 14) (hr : rows ≤ 64) (e1 : T'.1 = T.1) (e : ∀ a, a < T.1 → T'.2 a j = T.2 a j) : tfind w rows T' (nI j) v = tfind w rows T (nI j) v := by
  unfold tfind
  rw [tz_n h2, tz_n (T := T') (by omega), e1]
  refine ff_cg _ _ (fun m _ hm => ?_)
  rw [tg (T := T') (by omega) (by omega) h3 hw hr, tg (T := T) (by omega) (by omega) h3 hw hr, e m (by omega)]
section SE
variable {S S' S1 : StS} {sv o o' lb : N1}
theorem enq_tabs {x : Int32} (h : fX1_enqueue x S = some S1) : S1.2 = S.2 ∧ ∀ k, k ≠ 6 → S1.1 k = S.1 k := by
  unfold fX1_enqueue at h
  rw [nm, nm, nm, nm, nm, nm, nm] at h
  rw [← Option.some.inj h]
  exact ⟨rfl, fun k hk => (ss_n (k := 6) hk).trans ((ss_n (k := 6) hk).trans ((ss_n (k := 6) hk).trans ((ss_n (k := 6) hk).trans (ss_n (k := 6) hk))))⟩
theorem send_form {x y : Int32} {i c : Nat} (h5 : (S.1 5).1 ≤ 16) (h1 : (S.1 1).1 = 6) (hi : i < (S.1 5).1) (hf : sfind 5 S (0 : Int32) x = nI i) (r1 : (S.1 5).2 i 1 = nI c) (hc : c < 6) (h : fX0_send x S = some (y, S1)) : S1.2 = S.2 ∧ (∀ k, k ≠ 1 → k ≠ 5 → k ≠ 6 → S1.1 k = S.1 k) ∧ S1.1 1 = (6, fup (S.1 1).2 c 1 ((S.1 1).2 c 1 + 1)) ∧ (S1.1 5).1 = (S.1 5).1 ∧ (∀ a, a ≠ i → ∀ j, (S1.1 5).2 a j = (S.1 5).2 a j) ∧ (∀ j, j < 3 → (S1.1 5).2 i j = (S.1 5).2 i j) ∧ ((S1.1 5).2 i 4 = 0 ∧ (S1.1 5).2 i 5 ≤ (S.1 5).2 i 2) ∧ (y = -9 ∨ y = x ∨ y = sget 6 S (0 : Int32) (0 : Int32)) := by
  unfold fX0_send at h
  rw [hf, nm, if_neg (nI_neg (by omega) (by decide)), show sget 5 S (nI i) (1 : Int32) = nI c from (tg (w := 7) (rows := 16) (j := 1) hi (by omega) (by omega) (by omega) (by omega)).trans r1, nm, nm, show sadd 1 S (nI c) (1 : Int32) (1 : Int32) = _ from sadd_tal (y := 1) (z := 1) h1 hc (by omega), h1, nm, show sadd 5 (sset S 1 (6, fup (S.1 1).2 c 1 ((S.1 1).2 c 1 + 1))) (nI i) (3 : Int32) (1 : Int32) = _ from sadd_req (j := 3) (T := S.1 5) (ss_n (by omega)) hi (by omega) (by omega), nm, show ∀ f, sput 5 (sset (sset S 1 (6, fup (S.1 1).2 c 1 ((S.1 1).2 c 1 + 1))) 5 ((S.1 5).1, f)) (nI i) (4 : Int32) (0 : Int32) = _ from fun f => sput_req (j := 4) ss_s hi (by omega) (by omega), sset2, nm] at h
  generalize hz0 : (if sget 5 (sset (sset S 1 (6, fup (S.1 1).2 c 1 ((S.1 1).2 c 1 + 1))) 5 ((S.1 5).1, fup (fup (S.1 5).2 i 3 ((S.1 5).2 i 3 + 1)) i 4 0)) (nI i) (2 : Int32) < (sset (sset S 1 (6, fup (S.1 1).2 c 1 ((S.1 1).2 c 1 + 1))) 5 ((S.1 5).1, fup (fup (S.1 5).2 i 3 ((S.1 5).2 i 3 + 1)) i 4 0)).2 12 + sget 0 S (nI c) (4 : Int32) then sget 5 (sset (sset S 1 (6, fup (S.1 1).2 c 1 ((S.1 1).2 c 1 + 1))) 5 ((S.1 5).1, fup (fup (S.1 5).2 i 3 ((S.1 5).2 i 3 + 1)) i 4 0)) (nI i) (2 : Int32) else (sset (sset S 1 (6, fup (S.1 1).2 c 1 ((S.1 1).2 c 1 + 1))) 5 ((S.1 5).1, fup (fup (S.1 5).2 i 3 ((S.1 5).2 i 3 + 1)) i 4 0)).2 12 + sget 0 S (nI c) (4 : Int32)) = z at h
  have hz : z ≤ (S.1 5).2 i 2 := by
    have g2 : sget 5 (sset (sset S 1 (6, fup (S.1 1).2 c 1 ((S.1 1).2 c 1 + 1))) 5 ((S.1 5).1, fup (fup (S.1 5).2 i 3 ((S.1 5).2 i 3 + 1)) i 4 0)) (nI i) (2 : Int32) = (S.1 5).2 i 2 := by
      show tget 7 16 ((sset _ 5 _).1 5) (nI i) (nI 2) = _
      rw [ss_s, tg (by exact hi) (by omega) (by omega) (by omega) (by omega)]
      dsimp only
      rw [fup_c (by omega), fup_c (by omega)]
    rw [g2] at hz0
    rw [← hz0]
    by_cases e : (S.1 5).2 i 2 < (sset (sset S 1 (6, fup (S.1 1).2 c 1 ((S.1 1).2 c 1 + 1))) 5 ((S.1 5).1, fup (fup (S.1 5).2 i 3 ((S.1 5).2 i 3 + 1)) i 4 0)).2 12 + sget 0 S (nI c) (4 : Int32)
    · rw [if_pos e]
      exact Int32.le_refl _
    · rw [if_neg e]
      exact Int32.not_lt.mp e
  rw [show ∀ f, sput 5 (sset (sset S 1 (6, fup (S.1 1).2 c 1 ((S.1 1).2 c 1 + 1))) 5 ((S.1 5).1, f)) (nI i) (5 : Int32) z = _ from fun f => sput_req (j := 5) ss_s hi (by omega) (by omega), sset2, nm] at h
  generalize hS18 : sset (sset S 1 (6, fup (S.1 1).2 c 1 ((S.1 1).2 c 1 + 1))) 5 ((S.1 5).1, fup (fup (fup (S.1 5).2 i 3 ((S.1 5).2 i 3 + 1)) i 4 0) i 5 z) = S18 at h
  have hk : ∀ k, k ≠ 1 → k ≠ 5 → S18.1 k = S.1 k := fun k k1 k5 => by rw [← hS18, ss_n k5, ss_n k1]
  have a1 : S18.1 1 = (6, fup (S.1 1).2 c 1 ((S.1 1).2 c 1 + 1)) := by rw [← hS18, ss_n (by omega), ss_s]
  have a5 : S18.1 5 = ((S.1 5).1, fup (fup (fup (S.1 5).2 i 3 ((S.1 5).2 i 3 + 1)) i 4 0) i 5 z) := by rw [← hS18, ss_s]
  have a2 : S18.2 = S.2 := by rw [← hS18]; rfl
  have a6 : sget 6 S18 (0 : Int32) (0 : Int32) = sget 6 S (0 : Int32) (0 : Int32) := by
    show tget _ _ (S18.1 6) 0 0 = tget _ _ (S.1 6) 0 0
    rw [hk 6 (by omega) (by omega)]
  have fin : ∀ {X : StS}, X.2 = S18.2 → (∀ k, k ≠ 6 → X.1 k = S18.1 k) → (y = -9 ∨ y = x ∨ y = sget 6 S (0 : Int32) (0 : Int32)) → X = S1 → S1.2 = S.2 ∧ (∀ k, k ≠ 1 → k ≠ 5 → k ≠ 6 → S1.1 k = S.1 k) ∧ S1.1 1 = (6, fup (S.1 1).2 c 1 ((S.1 1).2 c 1 + 1)) ∧ (S1.1 5).1 = (S.1 5).1 ∧ (∀ a, a ≠ i → ∀ j, (S1.1 5).2 a j = (S.1 5).2 a j) ∧ (∀ j, j < 3 → (S1.1 5).2 i j = (S.1 5).2 i j) ∧ ((S1.1 5).2 i 4 = 0 ∧ (S1.1 5).2 i 5 ≤ (S.1 5).2 i 2) ∧ (y = -9 ∨ y = x ∨ y = sget 6 S (0 : Int32) (0 : Int32)) := by
    intro X x1 x2 x3 e
    subst e
    rw [x2 5 (by omega), a5, x2 1 (by omega), a1, x1, a2]
    dsimp only
    refine ⟨rfl, fun k k1 k5 k6 => (x2 k k6).trans (hk k k1 k5), rfl, rfl, fun a ha j => by rw [fup_r ha, fup_r ha, fup_r ha], fun j hj => by rw [fup_c (by omega), fup_c (by omega), fup_c (by omega)], ⟨by rw [fup_c (by omega), fup_s rfl rfl], by rw [fup_s rfl rfl]; exact hz⟩, x3⟩
  rcases if_or h with ⟨-, h⟩ | ⟨-, h⟩
  · unfold bfX0_send_154 at h
    obtain ⟨u, u1, u2⟩ := ob_some h
    obtain ⟨e1, e2⟩ := enq_tabs u1
    have v1 : (-9 : Int32) = y := congrArg Prod.fst (Option.some.inj u2)
    have v2 : u = S1 := congrArg Prod.snd (Option.some.inj u2)
    exact fin e1 e2 (Or.inl v1.symm) v2
  · rcases if_or h with ⟨-, h⟩ | ⟨-, h⟩
    · have v1 : x = y := congrArg Prod.fst (Option.some.inj h)
      have v2 : S18 = S1 := congrArg Prod.snd (Option.some.inj h)
      exact fin rfl (fun _ _ => rfl) (Or.inr (Or.inl v1.symm)) v2
    · rw [nm, nm] at h
      unfold bfX0_send_154 at h
      obtain ⟨u, u1, u2⟩ := ob_some h
      obtain ⟨e1, e2⟩ := enq_tabs u1
      have v1 : sget 6 S18 (0 : Int32) (0 : Int32) = y := congrArg Prod.fst (Option.some.inj u2)
      have v2 : u = S1 := congrArg Prod.snd (Option.some.inj u2)
      exact fin (e1.trans rfl) (fun k hk => (e2 k hk).trans (ss_n (k := 6) hk)) (Or.inr (Or.inr (by rw [← v1, a6]))) v2
theorem EA.sent (h : EA o lb S) {i c y0 : Nat} (hi : i < (S.1 5).1) (hc : c < 6) (r1 : (S.1 5).2 i 1 = nI c) (hy : (S.1 1).2 c 1 = nI y0) (hy2 : y0 < 2 ^ 29) (hoc : o c = o' c + b2 (decide ((S.1 5).2 i 4 = 0))) (hod : ∀ d, d ≠ c → o' d = o d) (h0 : S1.1 0 = S.1 0) (h1 : S1.1 1 = (6, fup (S.1 1).2 c 1 ((S.1 1).2 c 1 + 1))) (e1 : (S1.1 5).1 = (S.1 5).1) (e2 : ∀ a, a ≠ i → ∀ j, (S1.1 5).2 a j = (S.1 5).2 a j) (e3 : ∀ j, j < 3 → (S1.1 5).2 i j = (S.1 5).2 i j) (e4 : (S1.1 5).2 i 4 = 0) (e5 : (S1.1 5).2 i 5 ≤ (S.1 5).2 i 2) : EA o' lb S1 := by
  obtain ⟨d1, d2, d3⟩ := row_cl hi hc r1 e1 (fun a ha => ⟨e2 a ha 1, e2 a ha 4⟩) ((e3 1 (by omega)).trans r1)
  rw [b2_t e4] at d3
  refine h.one (c := c) (by rw [e1]; exact h.1) (by rw [h1]) h0 (fun d j hd hne hj => ?_) (fun d hd hne => ⟨(d1 d hd hne).1, (d1 d hd hne).2, hod d hne⟩) (fun z a ha => ?_) ?_
  · rw [h1]
    dsimp only
    rw [fup_r hne]
  · by_cases e : a = i
    · rw [e, e3 2 (by omega)]
      exact fun _ => e5
    · rw [e2 a e, e2 a e, e2 a e]
      exact z a (by omega)
  · rintro ⟨t, t1, t2, t3, t4, t5, b, t6, t7, t8⟩
    have ht : t 1 = y0 := (nI_eq (by omega) (by omega)).mp ((t1 1 (by omega)).symm.trans hy)
    refine ⟨bmp t 1, ?_, ?_, ?_, ?_, ?_, b, t6, t7, ?_⟩
    · rw [h1]
      exact bmp_all t1 (by omega)
    · rw [d2, bmp_n (by omega), bmp_n (by omega), bmp_n (by omega)]
      exact t2
    · rw [bmp_s (j := 1) rfl, bmp_n (j := 2) (by omega), bmp_n (j := 4) (by omega), bmp_n (j := 5) (by omega), bmp_n (j := 6) (by omega)]
      omega
    · rw [bmp_n (by omega), bmp_n (by omega), bmp_n (by omega), bmp_n (by omega), bmp_n (by omega), bmp_n (by omega), bmp_n (by omega)]
      exact t4
    · rw [bmp_s rfl, bmp_n (j := 2) (by omega)]
      omega
    · rw [bmp_n (by omega)]
      exact t8
/-- a sending; what it leaves to fX0_fail -/
theorem send_ko {x y : Int32} {i c y0 : Nat} (h5 : (S.1 5).1 ≤ 16) (h1 : (S.1 1).1 = 6) (hi : i < (S.1 5).1) (hf : tfind 7 16 (S.1 5) 0 x = nI i) (r1 : (S.1 5).2 i 1 = nI c) (hc : c < 6) (hy : (S.1 1).2 c 1 = nI y0) (hy2 : y0 < 2 ^ 29) (hoc : o c = o' c + b2 (decide ((S.1 5).2 i 4 = 0))) (hod : ∀ d, d ≠ c → o' d = o d) (hq : FW (S.1 5) (sget 6 S (0 : Int32) (0 : Int32))) (h9 : FW (S.1 5) (-9)) (h : fX0_send x S = some (y, S1)) : Ko sv o o' S S1 ∧ FW (S1.1 5) y ∧ (S1.1 5).1 ≤ 16 ∧ (S1.1 1).1 = 6 := by
  obtain ⟨z1, z2, z3, z4, z5, z6, ⟨z7, z7d⟩, z8⟩ := send_form h5 h1 hi hf r1 hc h
  have hfs : ∀ v, tfind 7 16 (S1.1 5) 0 v = tfind 7 16 (S.1 5) 0 v := fun v => tf_cg (j := 0) h5 (by omega) (by omega) (by omega) z4 (fun a _ => by
    by_cases e : a = i
    · rw [e]; exact z6 0 (by omega)
    · exact z5 a e 0)
  have hw : ∀ v, FW (S.1 5) v → FW (S1.1 5) v := fun v q => by
    rcases q with e | ⟨i', c', hi', e, r1', hc', r4'⟩
    · exact Or.inl ((hfs v).trans e)
    · refine Or.inr ⟨i', c', by omega, (hfs v).trans e, ?_, hc', ?_⟩
      · by_cases e2 : i' = i
        · rw [e2, z6 1 (by omega), ← e2]; exact r1'
        · rw [z5 i' e2 1]; exact r1'
      · by_cases e2 : i' = i
        · rw [e2]; exact z7
        · rw [z5 i' e2 4]; exact r4'
  refine ⟨Ko.ea (fun _ hA => hA.sent hi hc r1 hy hy2 hoc hod (z2 0 (by omega) (by omega) (by omega)) z3 z4 z5 z6 z7 z7d) (z2 7 (by omega) (by omega) (by omega)) (z2 9 (by omega) (by omega) (by omega)) (by rw [z1]) (by rw [z1]), ?_, by omega, by rw [z3]⟩
  rcases z8 with z | z | z
  · rw [z]; exact hw _ h9
  · rw [z]
    exact Or.inr ⟨i, c, by omega, (hfs x).trans hf, (z6 1 (by omega)).trans r1, hc, z7⟩
  · rw [z]; exact hw _ hq
def oC (c : Nat) : N1 := fun d => if d = c then 1 else 0
theorem cN_ap {p q : Nat → Bool} {n : Nat} (h : ∀ i, i < n → q i = p i) : cN q (n + 1) = cN p n + b2 (q n) := by
  show cN q n + b2 (q n) = _
  rw [cN_cg n h]
/-- a request is created, or lost -/
theorem create_ko {x1 : Int32} {c b rf : Nat} (h5 : (S.1 5).1 ≤ 16) (h1 : (S.1 1).1 = 6) (hc : c < 6) (hb : sget 0 S (nI c) (10 : Int32) = nI b) (hb2 : b ≤ 20) (hrf : sget 0 S (nI c) (11 : Int32) = nI rf) (hrf2 : rf ≤ 10) (hcb : (S.1 0).2 c 10 = nI b) (hdl : 0 ≤ S.2 12 + sget 0 S (nI c) (2 : Int32)) (h : fX0_create (nI c) S = some (x1, S1)) : (if (S.1 5).1 = 16 then Ko sv o0 o0 S S1 else Ko sv o0 (oC c) S S1) := by
  unfold fX0_create at h
  rw [show sadd 1 S (nI c) (0 : Int32) (1 : Int32) = _ from sadd_tal (y := 0) (z := 1) h1 hc (by omega), h1, nm] at h
  have g7 : sget 1 (sset S 1 (6, fup (S.1 1).2 c 0 ((S.1 1).2 c 0 + 1))) (nI c) (7 : Int32) = (S.1 1).2 c 7 := (sget_tal (y := 7) (by rw [ss_s]) hc (by omega)).trans (by rw [ss_s]; exact fup_c (by omega))
  have g0 : ∀ j, sget 0 (sset S 1 (6, fup (S.1 1).2 c 0 ((S.1 1).2 c 0 + 1))) (nI c) j = sget 0 S (nI c) j := fun j => by
    show tget _ _ ((sset S 1 _).1 0) _ _ = tget _ _ (S.1 0) _ _
    rw [ss_n (by omega)]
  rw [g7, g0, g0, hb, hrf, nM_10, nm, show ∀ z, sput 1 (sset S 1 (6, fup (S.1 1).2 c 0 ((S.1 1).2 c 0 + 1))) (nI c) (7 : Int32) z = _ from fun z => sput_tal (y := 7) (by rw [ss_s]) hc (by omega), nm, ss_s, sset2] at h
  dsimp only at h
  generalize hu : (if nI (10 * b) < (S.1 1).2 c 7 + nI rf then nI (10 * b) else (S.1 1).2 c 7 + nI rf) = u at h
  generalize hS13 : sset S 1 (6, fup (fup (S.1 1).2 c 0 ((S.1 1).2 c 0 + 1)) c 7 u) = S13 at h
  have k13 : ∀ k, k ≠ 1 → S13.1 k = S.1 k := fun k hk => by rw [← hS13, ss_n hk]
  have t13 : S13.1 1 = (6, fup (fup (S.1 1).2 c 0 ((S.1 1).2 c 0 + 1)) c 7 u) := by rw [← hS13, ss_s]
  have n13 : S13.2 = S.2 := by rw [← hS13]; rfl
  have hT : ∀ {t : N1}, (∀ j, j < 14 → (S.1 1).2 c j = nI (t j)) → t 7 ≤ 10 * b → ∃ t' : N1, (∀ j, j < 14 → fup (fup (S.1 1).2 c 0 ((S.1 1).2 c 0 + 1)) c 7 u c j = nI (t' j)) ∧ t' 0 = t 0 + 1 ∧ (∀ j, j ≠ 0 → j ≠ 7 → t' j = t j) ∧ t' 7 ≤ 10 * b := by
    intro t t1 t7
    refine ⟨fun j => if j = 7 then min (t 7 + rf) (10 * b) else bmp t 0 j, fun j hj => ?_, ?_, fun j j0 j7 => ?_, ?_⟩
    · dsimp only
      by_cases e : j = 7
      · rw [fup_s rfl e, if_pos e, ← hu, t1 7 (by omega), nI_add, min_nI (by omega) (by omega)]
      · rw [fup_c e, if_neg e]
        exact bmp_all t1 (by omega) j hj
    · exact (if_neg (by decide)).trans (bmp_s rfl)
    · exact (if_neg j7).trans (bmp_n j0)
    · dsimp only
      rw [if_pos rfl]
      exact Nat.min_le_right _ _
  by_cases e16 : (S.1 5).1 = 16
  · rw [if_pos e16]
    have ea : sappend 5 S13 = (-9, sset S13 5 (S13.1 5)) := by
      unfold sappend
      rw [show tappend (tr 5) (S13.1 5) = _ from tap_full (rows := 16) (by rw [k13 5 (by omega)]; omega)]
    rw [ea, nm, nm, if_pos rfl, nm] at h
    have v2 := congrArg Prod.snd (Option.some.inj h)
    dsimp only at v2
    have ess : sset S13 5 (S13.1 5) = S13 := Prod.ext (funext fun j => by
      by_cases e : j = 5
      · rw [e, ss_s]
      · rw [ss_n e]) rfl
    rw [ess, show sadd 1 S13 (nI c) (3 : Int32) (1 : Int32) = _ from sadd_tal (y := 3) (z := 1) (by rw [t13]) hc (by omega), t13] at v2
    dsimp only at v2
    rw [← v2]
    refine Ko.ea (fun _ hA => ?_) (by rw [ss_n (by omega)]; exact k13 7 (by omega)) (by rw [ss_n (by omega)]; exact k13 9 (by omega)) (by rw [ss_2, n13]) (by rw [ss_2, n13])
    refine hA.one (c := c) (by rw [ss_n (by omega), k13 5 (by omega)]; exact h5) (by rw [ss_s]) (by rw [ss_n (by omega), k13 0 (by omega)]) (fun d j hd hne hj => ?_) (fun d hd hne => by rw [ss_n (by omega), k13 5 (by omega)]; exact ⟨rfl, rfl, rfl⟩) (fun z => by rw [ss_n (by omega), k13 5 (by omega)]; exact z) ?_
    · rw [ss_s]
      dsimp only
      rw [fup_r hne, fup_r hne, fup_r hne]
    · rintro ⟨t, t1, t2, t3, t4, t5, b', t6, t7, t8⟩
      obtain rfl : b = b' := (nI_eq (by omega) (by omega)).mp (hcb.symm.trans t6)
      obtain ⟨t', u1, u2, u3, u4⟩ := hT t1 t8
      rw [ss_n (by omega), k13 5 (by omega), ss_s]
      refine ⟨bmp t' 3, bmp_all u1 (by omega), ?_, ?_, ?_, ?_, b, t6, t7, ?_⟩
      · rw [bmp_n (j := 0) (by omega), bmp_n (j := 2) (by omega), bmp_s (j := 3) rfl, u2, u3 2 (by omega) (by omega), u3 3 (by omega) (by omega)]
        omega
      · rw [bmp_n (j := 1) (by omega), bmp_n (j := 2) (by omega), bmp_n (j := 4) (by omega), bmp_n (j := 5) (by omega), bmp_n (j := 6) (by omega), u3 1 (by omega) (by omega), u3 2 (by omega) (by omega), u3 4 (by omega) (by omega), u3 5 (by omega) (by omega), u3 6 (by omega) (by omega)]
        exact t3
      · rw [bmp_n (j := 8) (by omega), bmp_n (j := 9) (by omega), bmp_n (j := 10) (by omega), bmp_n (j := 11) (by omega), bmp_n (j := 12) (by omega), bmp_n (j := 13) (by omega), bmp_n (j := 2) (by omega), u3 8 (by omega) (by omega), u3 9 (by omega) (by omega), u3 10 (by omega) (by omega), u3 11 (by omega) (by omega), u3 12 (by omega) (by omega), u3 13 (by omega) (by omega), u3 2 (by omega) (by omega)]
        exact t4
      · rw [bmp_n (j := 1) (by omega), u3 1 (by omega) (by omega), bmp_n (j := 2) (by omega), u3 2 (by omega) (by omega)]
        exact t5
      · rw [bmp_n (j := 7) (by omega)]
        exact u4
  · rw [if_neg e16]
    have ea : sappend 5 S13 = (nI (S.1 5).1, sset S13 5 ((S.1 5).1 + 1, fun i j => if i = (S.1 5).1 then 0 else (S.1 5).2 i j)) := by
      unfold sappend
      rw [show tappend (tr 5) (S13.1 5) = _ from tap (rows := 16) (by rw [k13 5 (by omega)]; omega), k13 5 (by omega)]
    rw [ea, nm, nm] at h
    dsimp only at h
    rw [if_neg (nI_neg (by omega) (by decide)), nm, nm, nm, nm] at h
    have v2 := congrArg Prod.snd (Option.some.inj h)
    dsimp only at v2
    generalize hX : ((sset S13 5 ((S.1 5).1 + 1, fun i j => if i = (S.1 5).1 then 0 else (S.1 5).2 i j)).1, upd (sset S13 5 ((S.1 5).1 + 1, fun i j => if i = (S.1 5).1 then 0 else (S.1 5).2 i j)).2 14 ((sset S13 5 ((S.1 5).1 + 1, fun i j => if i = (S.1 5).1 then 0 else (S.1 5).2 i j)).2 14 + 1)) = X at v2
    have x1 : ∀ k, k ≠ 5 → X.1 k = S13.1 k := fun k hk => by rw [← hX]; exact ss_n hk
    have x5 : X.1 5 = ((S.1 5).1 + 1, fun i j => if i = (S.1 5).1 then 0 else (S.1 5).2 i j) := by
      rw [← hX]
      show (sset S13 5 _).1 5 = _
      exact ss_s
    have x2 : X.2 15 = S.2 15 ∧ X.2 16 = S.2 16 := by
      rw [← hX]
      constructor
      · show upd S13.2 14 (S13.2 14 + 1) 15 = _
        rw [up_n (by omega), n13]
      · show upd S13.2 14 (S13.2 14 + 1) 16 = _
        rw [up_n (by omega), n13]
    generalize (sset S13 5 ((S.1 5).1 + 1, fun i j => if i = (S.1 5).1 then 0 else (S.1 5).2 i j)).2 14 = z0 at v2
    rw [show ∀ z, sput 5 X (nI (S.1 5).1) (0 : Int32) z = _ from fun z => sput_req (j := 0) x5 (Nat.lt_succ_self _) (by omega) (by omega)] at v2
    rw [show ∀ f z, sput 5 (sset X 5 ((S.1 5).1 + 1, f)) (nI (S.1 5).1) (1 : Int32) z = _ from fun f z => sput_req (j := 1) ss_s (Nat.lt_succ_self _) (by omega) (by omega), sset2] at v2
    generalize hz2 : sget 0 (sset X 5 ((S.1 5).1 + 1, fup (fup (fun i j => if i = (S.1 5).1 then 0 else (S.1 5).2 i j) (S.1 5).1 0 z0) (S.1 5).1 1 (nI c))) (nI c) (2 : Int32) = z2 at v2
    generalize hz3 : (sset X 5 ((S.1 5).1 + 1, fup (fup (fun i j => if i = (S.1 5).1 then 0 else (S.1 5).2 i j) (S.1 5).1 0 z0) (S.1 5).1 1 (nI c))).2 12 = z3 at v2
    rw [show ∀ f z, sput 5 (sset X 5 ((S.1 5).1 + 1, f)) (nI (S.1 5).1) (2 : Int32) z = _ from fun f z => sput_req (j := 2) ss_s (Nat.lt_succ_self _) (by omega) (by omega), sset2] at v2
    have y1 : ∀ k, k ≠ 5 → S1.1 k = S13.1 k := fun k hk => by rw [← v2, ss_n hk, x1 k hk]
    have y5 : S1.1 5 = ((S.1 5).1 + 1, fup (fup (fup (fun i j => if i = (S.1 5).1 then 0 else (S.1 5).2 i j) (S.1 5).1 0 z0) (S.1 5).1 1 (nI c)) (S.1 5).1 2 (z3 + z2)) := by rw [← v2, ss_s]
    have y2 : S1.2 = X.2 := by rw [← v2]; rfl
    generalize hf : fup (fup (fup (fun i j => if i = (S.1 5).1 then 0 else (S.1 5).2 i j) (S.1 5).1 0 z0) (S.1 5).1 1 (nI c)) (S.1 5).1 2 (z3 + z2) = f at y5
    have f1 : ∀ a j, a < (S.1 5).1 → f a j = (S.1 5).2 a j := fun a j ha => by
      rw [← hf, fup_r (by omega), fup_r (by omega), fup_r (by omega), if_neg (by omega)]
    have f2 : f (S.1 5).1 1 = nI c := by rw [← hf, fup_c (by omega), fup_s rfl rfl]
    have f3 : f (S.1 5).1 4 = 0 := by rw [← hf, fup_c (by omega), fup_c (by omega), fup_c (by omega), if_pos rfl]
    have f5 : f (S.1 5).1 5 = 0 := by rw [← hf, fup_c (by omega), fup_c (by omega), fup_c (by omega), if_pos rfl]
    have f6 : f (S.1 5).1 2 = z3 + z2 := by rw [← hf, fup_s rfl rfl]
    have hz23 : 0 ≤ z3 + z2 := by
      have a1 : z3 = S.2 12 := by
        rw [← hz3, ss_2, ← hX]
        show upd S13.2 14 (S13.2 14 + 1) 12 = _
        rw [up_n (by omega), n13]
      have a2 : z2 = sget 0 S (nI c) (2 : Int32) := by
        rw [← hz2]
        show tget _ _ ((sset X 5 _).1 0) _ _ = tget _ _ (S.1 0) _ _
        rw [ss_n (by omega), x1 0 (by omega), k13 0 (by omega)]
      rw [a1, a2]
      exact hdl
    have fa : ∀ d, alv ((S.1 5).1 + 1, f) d = alv (S.1 5) d + b2 (decide (f (S.1 5).1 1 = nI d)) := fun d => cN_ap (fun a ha => congrArg (fun z => decide (z = nI d)) (f1 a 1 ha))
    have fu : ∀ d, und ((S.1 5).1 + 1, f) d = und (S.1 5) d + b2 (decide (f (S.1 5).1 1 = nI d ∧ f (S.1 5).1 4 = 0)) := fun d => cN_ap (fun a ha => (congrArg (fun z => decide (z = nI d ∧ f a 4 = 0)) (f1 a 1 ha)).trans (congrArg (fun z => decide ((S.1 5).2 a 1 = nI d ∧ z = 0)) (f1 a 4 ha)))
    refine Ko.ea (fun _ hA => ?_) ((y1 7 (by omega)).trans (k13 7 (by omega))) ((y1 9 (by omega)).trans (k13 9 (by omega))) (by rw [y2]; exact x2.1) (by rw [y2]; exact x2.2)
    refine hA.one (c := c) (by rw [y5]; show (S.1 5).1 + 1 ≤ 16; omega) (by rw [y1 1 (by omega), t13]) ((y1 0 (by omega)).trans (k13 0 (by omega))) (fun d j hd hne hj => ?_) (fun d hd hne => ?_) (fun z a ha => ?_) ?_
    · rw [y1 1 (by omega), t13]
      dsimp only
      rw [fup_r hne, fup_r hne]
    · rw [y5, fa d, fu d, f2, b2_f (ne_cl hc hd hne), b2_f (fun z => ne_cl hc hd hne z.1)]
      exact ⟨rfl, rfl, if_neg hne⟩
    · rw [y5] at ha ⊢
      dsimp only at ha ⊢
      by_cases e : a = (S.1 5).1
      · rw [e, f5, f6]
        exact fun _ => hz23
      · rw [f1 a 4 (by omega), f1 a 5 (by omega), f1 a 2 (by omega)]
        exact z a (by omega)
    · rintro ⟨t, t1, t2, t3, t4, t5, b', t6, t7, t8⟩
      obtain rfl : b = b' := (nI_eq (by omega) (by omega)).mp (hcb.symm.trans t6)
      obtain ⟨t', u1, u2, u3, u4⟩ := hT t1 t8
      rw [y5, y1 1 (by omega), t13]
      refine ⟨t', u1, ?_, ?_, ?_, ?_, b, t6, t7, u4⟩
      · rw [fa c, f2, b2_t rfl, u2, u3 2 (by omega) (by omega), u3 3 (by omega) (by omega)]
        omega
      · rw [fu c, f2, f3, b2_t ⟨rfl, rfl⟩, show oC c c = 1 from if_pos rfl, u3 1 (by omega) (by omega), u3 2 (by omega) (by omega), u3 4 (by omega) (by omega), u3 5 (by omega) (by omega), u3 6 (by omega) (by omega)]
        have : o0 c = 0 := rfl
        omega
      · rw [u3 8 (by omega) (by omega), u3 9 (by omega) (by omega), u3 10 (by omega) (by omega), u3 11 (by omega) (by omega), u3 12 (by omega) (by omega), u3 13 (by omega) (by omega), u3 2 (by omega) (by omega)]
        exact t4
      · rw [u3 1 (by omega) (by omega), u3 2 (by omega) (by omega)]
        exact t5
end SE
