/-! what a tick keeps beside the relation: tallies and requests add up, no work is lost, no worker too many -/
def b2 (b : Bool) : Nat := if b then 1 else 0
def cN (p : Nat → Bool) : Nat → Nat
  | 0 => 0
  | n + 1 => cN p n + b2 (p n)
theorem b2_t {P : Prop} [Decidable P] (h : P) : b2 (decide P) = 1 := by rw [decide_eq_true h]; rfl
theorem b2_f {P : Prop} [Decidable P] (h : ¬ P) : b2 (decide P) = 0 := by rw [decide_eq_false h]; rfl
theorem cN_cg {p q : Nat → Bool} : ∀ n, (∀ i, i < n → p i = q i) → cN p n = cN q n
  | 0, _ => rfl
  | n + 1, h => by
    show cN p n + b2 (p n) = cN q n + b2 (q n)
    rw [cN_cg n (fun i hi => h i (by omega)), h n (by omega)]
theorem cN_one {p q : Nat → Bool} {k : Nat} : ∀ n, k < n → (∀ i, i < n → i ≠ k → p i = q i) → cN p n + b2 (q k) = cN q n + b2 (p k)
  | 0, hk, _ => absurd hk (by omega)
  | n + 1, hk, h => by
    show cN p n + b2 (p n) + b2 (q k) = cN q n + b2 (q n) + b2 (p k)
    by_cases e : k = n
    · subst e
      rw [cN_cg (p := p) (q := q) k (fun i hi => h i (by omega) (by omega))]
      omega
    · have := cN_one (p := p) (q := q) (k := k) n (by omega) (fun i hi hne => h i (by omega) hne)
      rw [h n (by omega) (fun z => e z.symm)]
      omega
theorem cN_drop {p : Nat → Bool} {k : Nat} : ∀ n, k < n → cN (fun i => if k ≤ i then p (i + 1) else p i) (n - 1) + b2 (p k) = cN p n
  | 0, hk => absurd hk (by omega)
  | 1, hk => by
    obtain rfl : k = 0 := by omega
    show 0 + b2 (p 0) = 0 + b2 (p 0)
    rfl
  | m + 2, hk => by
    by_cases e : k = m + 1
    · subst e
      show cN _ (m + 1) + b2 (p (m + 1)) = cN p (m + 1) + b2 (p (m + 1))
      rw [cN_cg (q := p) (m + 1) (fun i hi => if_neg (by omega))]
    · have ih := cN_drop (p := p) (k := k) (m + 1) (by omega)
      rw [show m + 1 - 1 = m by omega] at ih
      show cN _ m + b2 (if k ≤ m then p (m + 1) else p m) + b2 (p k) = cN p (m + 1) + b2 (p (m + 1))
      rw [if_pos (show k ≤ m by omega)]
      omega
def dT (T : Tb) (i : Nat) : Tb := (T.1 - 1, fun a j => if i ≤ a ∧ a + 1 < T.1 then T.2 (a + 1) j else T.2 a j)
theorem dT_row {T : Tb} {i a j : Nat} (ha : a < T.1 - 1) : (dT T i).2 a j = if i ≤ a then T.2 (a + 1) j else T.2 a j := by
  show (if i ≤ a ∧ a + 1 < T.1 then T.2 (a + 1) j else T.2 a j) = _
  by_cases e : i ≤ a
  · rw [if_pos ⟨e, by omega⟩, if_pos e]
  · rw [if_neg (fun z => e z.1), if_neg e]
/-- the live requests of a client, and those of them under way -/
def alv (T : Tb) (c : Nat) : Nat := cN (fun i => decide (T.2 i 1 = nI c)) T.1
def und (T : Tb) (c : Nat) : Nat := cN (fun i => decide (T.2 i 1 = nI c ∧ T.2 i 4 = 0)) T.1
theorem alv_drop {T : Tb} {i c : Nat} (hi : i < T.1) : alv (dT T i) c + b2 (decide (T.2 i 1 = nI c)) = alv T c := by
  unfold alv
  rw [← cN_drop (p := fun i => decide (T.2 i 1 = nI c)) T.1 hi]
  refine congrArg (· + b2 (decide (T.2 i 1 = nI c))) (cN_cg (T.1 - 1) (fun a ha => ?_))
  rw [dT_row ha]
  by_cases e : i ≤ a
  · rw [if_pos e, if_pos e]
  · rw [if_neg e, if_neg e]
theorem und_drop {T : Tb} {i c : Nat} (hi : i < T.1) : und (dT T i) c + b2 (decide (T.2 i 1 = nI c ∧ T.2 i 4 = 0)) = und T c := by
  unfold und
  rw [← cN_drop (p := fun i => decide (T.2 i 1 = nI c ∧ T.2 i 4 = 0)) T.1 hi]
  refine congrArg (· + b2 (decide (T.2 i 1 = nI c ∧ T.2 i 4 = 0))) (cN_cg (T.1 - 1) (fun a ha => ?_))
  rw [dT_row ha, dT_row ha]
  by_cases e : i ≤ a
  · rw [if_pos e, if_pos e, if_pos e]
  · rw [if_neg e, if_neg e, if_neg e]
theorem ne_cl {c d : Nat} (hc : c < 6) (hd : d < 6) (h : d ≠ c) : nI c ≠ nI d := fun e => h ((nI_eq (by omega) (by omega)).mp e).symm
/-- a client's tallies: created = succeeded + failed + live; sent (but for o of them) = ended somehow + under way; by attempts; units -/
def EC (C R T : Tb) (o lb c : Nat) : Prop := ∃ t : N1, (∀ j, j < 14 → T.2 c j = nI (t j)) ∧ t 0 = t 2 + t 3 + alv R c ∧ t 1 + o = t 2 + t 4 + t 5 + t 6 + und R c ∧ t 8 + t 9 + t 10 + t 11 + t 12 + t 13 = t 2 ∧ (t 1 < 2 ^ 30 ∧ lb ≤ t 2) ∧ ∃ b, C.2 c 10 = nI b ∧ b ≤ 20 ∧ t 7 ≤ 10 * b
/-- no attempt expires behind its request's deadline -/
def ED (T : Tb) : Prop := ∀ i, i < T.1 → T.2 i 4 = 0 → T.2 i 5 ≤ T.2 i 2
def EA (o lb : N1) (S : StS) : Prop := (S.1 5).1 ≤ 16 ∧ (S.1 1).1 = 6 ∧ (∀ c, c < 6 → EC (S.1 0) (S.1 5) (S.1 1) (o c) (lb c) c) ∧ ED (S.1 5)
/-- the work at a worker, and at all -/
def ctr (T : Tb) (w : Nat) : Int32 := if T.2 w 0 = -9 then 0 else T.2 w 4
def pnd (T : Tb) : Int32 := sumF (ctr T) 4
def EX (sv o lb : N1) (w0 : Int32) (S : StS) : Prop := EA o lb S ∧ S.2 15 + S.2 16 + pnd (S.1 7) = w0 ∧ (∀ w, w < 4 → sv 0 ≤ w → (S.1 7).2 w 0 = -9) ∧ ∀ w, w < 4 → sv 2 ≤ w → (S.1 9).2 w 0 = -9
def o0 : N1 := fun _ => 0
def Ko (sv o o' : N1) (S S' : StS) : Prop := ∀ w0 lb, EX sv o lb w0 S → EX sv o' lb w0 S'
def Kp (sv : N1) (S S' : StS) : Prop := Ko sv o0 o0 S S'
theorem Kp.rf (sv : N1) (S : StS) : Kp sv S S := fun _ _ h => h
theorem Kp.tr {sv : N1} {S S1 S2 : StS} (h : Kp sv S S1) (g : Kp sv S1 S2) : Kp sv S S2 := fun w lb z => g w lb (h w lb z)
theorem i32_rc (a b c : Int32) : a + b + c = a + c + b := by rw [Int32.add_assoc, Int32.add_comm b c, ← Int32.add_assoc]
theorem sumF_one {f g : Nat → Int32} {k : Nat} : ∀ n, k < n → (∀ i, i < n → i ≠ k → f i = g i) → sumF f n + g k = sumF g n + f k
  | 0, hk, _ => absurd hk (by omega)
  | n + 1, hk, h => by
    show sumF f n + f n + g k = sumF g n + g n + f k
    by_cases e : k = n
    · subst e
      rw [sumF_cg (f := f) (g := g) k (fun i hi => h i (by omega) (by omega)), i32_rc]
    · rw [i32_rc, sumF_one (f := f) (g := g) (k := k) n (by omega) (fun i hi hne => h i (by omega) hne), h n (by omega) (fun z => e z.symm), i32_rc]
theorem pnd_one {T T' : Tb} {f : Nat} (hf : f < 4) (h : ∀ w, w < 4 → w ≠ f → ctr T' w = ctr T w) : pnd T' + ctr T f = pnd T + ctr T' f := sumF_one (f := ctr T') (g := ctr T) 4 hf h
theorem pnd_cg {T T' : Tb} (h : ∀ w, w < 4 → T'.2 w 0 = T.2 w 0 ∧ T'.2 w 4 = T.2 w 4) : pnd T' = pnd T := sumF_cg 4 (fun w hw => by
  unfold ctr
  rw [(h w hw).1, (h w hw).2])
theorem EA.cg {o lb : N1} {S S' : StS} (h : EA o lb S) (h0 : S'.1 0 = S.1 0) (h1 : S'.1 1 = S.1 1) (h5 : S'.1 5 = S.1 5) : EA o lb S' := by
  unfold EA
  rw [h0, h1, h5]
  exact h
theorem Ko.of {sv o : N1} {S S' : StS} (h0 : S'.1 0 = S.1 0) (h1 : S'.1 1 = S.1 1) (h5 : S'.1 5 = S.1 5) (e : S'.2 15 + S'.2 16 + pnd (S'.1 7) = S.2 15 + S.2 16 + pnd (S.1 7)) (b7 : ∀ w, w < 4 → sv 0 ≤ w → (S.1 7).2 w 0 = -9 → (S'.1 7).2 w 0 = -9) (b9 : ∀ w, w < 4 → sv 2 ≤ w → (S.1 9).2 w 0 = -9 → (S'.1 9).2 w 0 = -9) : Ko sv o o S S' := fun _ _ ⟨a, b, c, d⟩ => ⟨a.cg h0 h1 h5, e.trans b, fun w hw hs => b7 w hw hs (c w hw hs), fun w hw hs => b9 w hw hs (d w hw hs)⟩
/-- tallies and requests alone are changed -/
theorem Ko.ea {sv o o' : N1} {S S' : StS} (hA : ∀ lb, EA o lb S → EA o' lb S') (h7 : S'.1 7 = S.1 7) (h9 : S'.1 9 = S.1 9) (h15 : S'.2 15 = S.2 15) (h16 : S'.2 16 = S.2 16) : Ko sv o o' S S' := fun _ lb ⟨a, b, c, d⟩ => ⟨hA lb a, by rw [h15, h16, h7]; exact b, by rw [h7]; exact c, by rw [h9]; exact d⟩
theorem EA.one {o o' lb : N1} {S S' : StS} (h : EA o lb S) {c : Nat} (h5 : (S'.1 5).1 ≤ 16) (h1 : (S'.1 1).1 = 6) (h0 : S'.1 0 = S.1 0) (hT : ∀ d j, d < 6 → d ≠ c → j < 14 → (S'.1 1).2 d j = (S.1 1).2 d j) (ha : ∀ d, d < 6 → d ≠ c → alv (S'.1 5) d = alv (S.1 5) d ∧ und (S'.1 5) d = und (S.1 5) d ∧ o' d = o d) (hD : ED (S.1 5) → ED (S'.1 5)) (hE : EC (S.1 0) (S.1 5) (S.1 1) (o c) (lb c) c → EC (S.1 0) (S'.1 5) (S'.1 1) (o' c) (lb c) c) : EA o' lb S' := by
  refine ⟨h5, h1, fun d hd => ?_, hD h.2.2.2⟩
  rw [h0]
  by_cases e : d = c
  · subst e
    exact hE (h.2.2.1 d hd)
  · obtain ⟨t, t1, t2, t3, t4⟩ := h.2.2.1 d hd
    obtain ⟨a1, a2, a3⟩ := ha d hd e
    exact ⟨t, fun j hj => (hT d j hd e hj).trans (t1 j hj), by rw [a1]; exact t2, by rw [a2, a3]; exact t3, t4⟩
theorem ED.drop {T : Tb} {i : Nat} (h : ED T) : ED (dT T i) := fun a ha => by
  have ha : a < T.1 - 1 := ha
  rw [dT_row ha, dT_row ha, dT_row ha]
  by_cases e : i ≤ a
  · rw [if_pos e, if_pos e, if_pos e]
    exact h (a + 1) (by omega)
  · rw [if_neg e, if_neg e, if_neg e]
    exact h a (by omega)
def bmp (t : N1) (y : Nat) : N1 := fun j => if j = y then t j + 1 else t j
theorem bmp_s {t : N1} {y j : Nat} (h : j = y) : bmp t y j = t j + 1 := if_pos h
theorem bmp_n {t : N1} {y j : Nat} (h : j ≠ y) : bmp t y j = t j := if_neg h
theorem bmp_all {f : Nat → Nat → Int32} {t : N1} {c y : Nat} (h : ∀ j, j < 14 → f c j = nI (t j)) (hy : y < 14) : ∀ j, j < 14 → fup f c y (f c y + 1) c j = nI (bmp t y j) := fun j hj => by
  by_cases e : j = y
  · rw [fup_s rfl e, bmp_s e, h y hy, nA_1, e]
  · rw [fup_c e, bmp_n e, h j hj]
theorem bmp_456 {t : N1} {y : Nat} (h : 4 ≤ y) (h2 : y ≤ 6) : bmp t y 4 + bmp t y 5 + bmp t y 6 = t 4 + t 5 + t 6 + 1 := by
  rcases (show y = 4 ∨ y = 5 ∨ y = 6 by omega) with rfl | rfl | rfl
  · rw [bmp_s rfl, bmp_n (by omega), bmp_n (by omega)]; omega
  · rw [bmp_s rfl, bmp_n (by omega), bmp_n (by omega)]; omega
  · rw [bmp_s rfl, bmp_n (by omega), bmp_n (by omega)]; omega
/-- a request dies: what it means for a client's numbers -/
theorem dT_cl {T : Tb} {i c : Nat} (hi : i < T.1) (hc : c < 6) (r1 : T.2 i 1 = nI c) (r4 : T.2 i 4 = 0) : (∀ d, d < 6 → d ≠ c → alv (dT T i) d = alv T d ∧ und (dT T i) d = und T d) ∧ alv (dT T i) c + 1 = alv T c ∧ und (dT T i) c + 1 = und T c := by
  refine ⟨fun d hd hne => ?_, ?_, ?_⟩
  · have h1 := alv_drop (c := d) hi
    have h2 := und_drop (c := d) hi
    rw [b2_f (by rw [r1]; exact ne_cl hc hd hne)] at h1
    rw [b2_f (by rw [r1]; exact fun z => ne_cl hc hd hne z.1)] at h2
    exact ⟨by omega, by omega⟩
  · have h1 := alv_drop (c := c) hi
    rw [b2_t r1] at h1
    exact h1
  · have h1 := und_drop (c := c) hi
    rw [b2_t ⟨r1, r4⟩] at h1
    exact h1
theorem EA.fdrop {o lb : N1} {S S' : StS} (h : EA o lb S) {i c y : Nat} (hi : i < (S.1 5).1) (hc : c < 6) (r1 : (S.1 5).2 i 1 = nI c) (r4 : (S.1 5).2 i 4 = 0) (hy : 4 ≤ y) (hy2 : y ≤ 6) (h0 : S'.1 0 = S.1 0) (h5 : S'.1 5 = dT (S.1 5) i) (h1 : S'.1 1 = (6, fup (fup (S.1 1).2 c y ((S.1 1).2 c y + 1)) c 3 ((S.1 1).2 c 3 + 1))) : EA o lb S' := by
  obtain ⟨d1, d2, d3⟩ := dT_cl hi hc r1 r4
  refine h.one (c := c) (by rw [h5]; show (S.1 5).1 - 1 ≤ 16; have := h.1; omega) (by rw [h1]) h0 (fun d j hd hne hj => ?_) (fun d hd hne => by rw [h5]; exact ⟨(d1 d hd hne).1, (d1 d hd hne).2, rfl⟩) (fun z => by rw [h5]; exact z.drop) ?_
  · rw [h1]
    dsimp only
    rw [fup_r hne, fup_r hne]
  · rintro ⟨t, t1, t2, t3, t4, t5, b, t6, t7, t8⟩
    have e3 : (S.1 1).2 c 3 = fup (S.1 1).2 c y ((S.1 1).2 c y + 1) c 3 := (fup_c (by omega)).symm
    refine ⟨bmp (bmp t y) 3, ?_, ?_, ?_, ?_, ?_, b, t6, t7, ?_⟩
    · rw [h1]
      dsimp only
      rw [e3]
      exact bmp_all (bmp_all t1 (by omega)) (by omega)
    · rw [h5, bmp_s (j := 3) rfl, bmp_n (j := 0) (by omega), bmp_n (j := 2) (by omega), bmp_n (j := 0) (by omega), bmp_n (j := 2) (by omega), bmp_n (j := 3) (by omega)]
      omega
    · have := bmp_456 (t := t) hy hy2
      rw [h5, bmp_n (j := 1) (by omega), bmp_n (j := 2) (by omega), bmp_n (j := 4) (by omega), bmp_n (j := 5) (by omega), bmp_n (j := 6) (by omega), bmp_n (j := 1) (by omega), bmp_n (j := 2) (by omega)]
      omega
    · rw [bmp_n (j := 8) (by omega), bmp_n (j := 9) (by omega), bmp_n (j := 10) (by omega), bmp_n (j := 11) (by omega), bmp_n (j := 12) (by omega), bmp_n (j := 13) (by omega), bmp_n (j := 2) (by omega), bmp_n (j := 8) (by omega), bmp_n (j := 9) (by omega), bmp_n (j := 10) (by omega), bmp_n (j := 11) (by omega), bmp_n (j := 12) (by omega), bmp_n (j := 13) (by omega), bmp_n (j := 2) (by omega)]
      exact t4
    · rw [bmp_n (j := 1) (by omega), bmp_n (j := 1) (by omega), bmp_n (j := 2) (by omega), bmp_n (j := 2) (by omega)]
      exact t5
    · rw [bmp_n (j := 7) (by omega), bmp_n (j := 7) (by omega)]
      exact t8
/-- one row of the requests is written: its client and whether it waits -/
theorem row_cl {T T' : Tb} {i c : Nat} (hi : i < T.1) (hc : c < 6) (r1 : T.2 i 1 = nI c) (e1 : T'.1 = T.1) (e2 : ∀ a, a ≠ i → T'.2 a 1 = T.2 a 1 ∧ T'.2 a 4 = T.2 a 4) (e3 : T'.2 i 1 = nI c) : (∀ d, d < 6 → d ≠ c → alv T' d = alv T d ∧ und T' d = und T d) ∧ alv T' c = alv T c ∧ und T' c + b2 (decide (T.2 i 4 = 0)) = und T c + b2 (decide (T'.2 i 4 = 0)) := by
  have ea : ∀ d, alv T' d = alv T d := fun d => by
    unfold alv
    rw [e1]
    refine cN_cg _ (fun a _ => ?_)
    by_cases e : a = i
    · rw [e, e3, r1]
    · rw [(e2 a e).1]
  have eu : ∀ d, und T' d + b2 (decide (T.2 i 1 = nI d ∧ T.2 i 4 = 0)) = und T d + b2 (decide (T'.2 i 1 = nI d ∧ T'.2 i 4 = 0)) := fun d => by
    unfold und
    rw [e1]
    exact cN_one (p := fun i => decide (T'.2 i 1 = nI d ∧ T'.2 i 4 = 0)) (q := fun i => decide (T.2 i 1 = nI d ∧ T.2 i 4 = 0)) T.1 hi (fun a _ hne => by rw [(e2 a hne).1, (e2 a hne).2])
  refine ⟨fun d hd hne => ⟨ea d, ?_⟩, ea c, ?_⟩
  · have h := eu d
    rw [b2_f (by rw [r1]; exact fun z => ne_cl hc hd hne z.1), b2_f (by rw [e3]; exact fun z => ne_cl hc hd hne z.1)] at h
    exact h
  · have h := eu c
    simp only [r1, e3, true_and] at h
    exact h
theorem nI_m10 {u : Nat} (h : 10 ≤ u) : nI u + (-10 : Int32) = nI (u - 10) := by
  rw [← Int32.sub_eq_add_neg]
  exact pk_sub (b := 10) h
theorem EA.fwait {o lb : N1} {S S' : StS} (h : EA o lb S) {i c y : Nat} (hi : i < (S.1 5).1) (hc : c < 6) (r1 : (S.1 5).2 i 1 = nI c) (r4 : (S.1 5).2 i 4 = 0) (hy : 4 ≤ y) (hy2 : y ≤ 6) (hu : ¬ (S.1 1).2 c 7 < 10) (h0 : S'.1 0 = S.1 0) (e1 : (S'.1 5).1 = (S.1 5).1) (e2 : ∀ a, a ≠ i → ∀ j, (S'.1 5).2 a j = (S.1 5).2 a j) (e3 : (S'.1 5).2 i 1 = (S.1 5).2 i 1) (e4 : (S'.1 5).2 i 4 = 1) (h1 : S'.1 1 = (6, fup (fup (S.1 1).2 c y ((S.1 1).2 c y + 1)) c 7 ((S.1 1).2 c 7 + -10))) : EA o lb S' := by
  obtain ⟨d1, d2, d3⟩ := row_cl hi hc r1 e1 (fun a ha => ⟨e2 a ha 1, e2 a ha 4⟩) (e3.trans r1)
  rw [b2_t r4, e4, b2_f (show ¬ (1 : Int32) = 0 by decide)] at d3
  refine h.one (c := c) (by rw [e1]; exact h.1) (by rw [h1]) h0 (fun d j hd hne hj => ?_) (fun d hd hne => ⟨(d1 d hd hne).1, (d1 d hd hne).2, rfl⟩) (fun z a ha => ?_) ?_
  · rw [h1]
    dsimp only
    rw [fup_r hne, fup_r hne]
  · by_cases e : a = i
    · rw [e, e4]
      exact fun y => absurd y (by decide)
    · rw [e2 a e, e2 a e, e2 a e]
      exact z a (by omega)
  · rintro ⟨t, t1, t2, t3, t4, t5, b, t6, t7, t8⟩
    have hu10 : 10 ≤ t 7 := by
      rw [t1 7 (by omega)] at hu
      apply Classical.byContradiction
      intro z
      exact hu ((tln_10 (by omega)).mpr (by omega))
    refine ⟨fun j => if j = 7 then t 7 - 10 else bmp t y j, fun j hj => ?_, ?_, ?_, ?_, ?_, b, t6, t7, ?_⟩
    · rw [h1]
      dsimp only
      by_cases e : j = 7
      · rw [fup_s rfl e, if_pos e, t1 7 (by omega), nI_m10 hu10]
      · rw [fup_c e, if_neg e]
        exact bmp_all t1 (by omega) j hj
    · dsimp only
      rw [if_neg (by decide), if_neg (by decide), if_neg (by decide), bmp_n (by omega), bmp_n (by omega), bmp_n (by omega), d2]
      exact t2
    · have := bmp_456 (t := t) hy hy2
      dsimp only
      rw [if_neg (by decide), if_neg (by decide), if_neg (by decide), if_neg (by decide), if_neg (by decide), bmp_n (j := 1) (by omega), bmp_n (j := 2) (by omega)]
      omega
    · dsimp only
      rw [if_neg (by decide), if_neg (by decide), if_neg (by decide), if_neg (by decide), if_neg (by decide), if_neg (by decide), if_neg (by decide), bmp_n (by omega), bmp_n (by omega), bmp_n (by omega), bmp_n (by omega), bmp_n (by omega), bmp_n (by omega), bmp_n (by omega)]
      exact t4
    · dsimp only
      rw [if_neg (by decide), if_neg (by decide), bmp_n (by omega), bmp_n (by omega)]
      exact t5
    · dsimp only
      rw [if_pos rfl]
      omega
