/-! a failed attempt keeps them -/
theorem if_no {α : Type} {X : Option α} {q : α} {c : Prop} [Decidable c] (h : (if c then none else X) = some q) : X = some q := by
  by_cases e : c
  · rw [if_pos e] at h; cases h
  · rw [if_neg e] at h; exact h
theorem if_or {α : Type} {X Y : Option α} {q : α} {c : Prop} [Decidable c] (h : (if c then X else Y) = some q) : (c ∧ X = some q) ∨ (¬ c ∧ Y = some q) := by
  by_cases e : c
  · rw [if_pos e] at h; exact Or.inl ⟨e, h⟩
  · rw [if_neg e] at h; exact Or.inr ⟨e, h⟩
section FK
variable {S S' : StS} {i c : Nat}
theorem f130 {a b : Int32} (h5 : (S.1 5).1 ≤ 16) (h1 : (S.1 1).1 = 6) (hi : i < (S.1 5).1) (hc : c < 6) (h : bfX0_fail_130 a b (nI i) (nI c) S = some S') : S' = sset (sset S 1 (6, fup (S.1 1).2 c 3 ((S.1 1).2 c 3 + 1))) 5 (dT (S.1 5) i) := by
  unfold bfX0_fail_130 at h
  rw [nm, nm, show sadd 1 S (nI c) (3 : Int32) (1 : Int32) = _ from sadd_tal (y := 3) (z := 1) h1 hc (by omega), h1] at h
  rw [← Option.some.inj h]
  show sset _ 5 (tdrop 16 ((sset S 1 _).1 5) (nI i)) = _
  rw [ss_n (by omega), td hi h5 (by omega)]
  rfl
theorem f100 {a b x5 s0 : Int32} (h5 : (S.1 5).1 ≤ 16) (h1 : (S.1 1).1 = 6) (hi : i < (S.1 5).1) (hc : c < 6) (h : bfX0_fail_100 a b (nI i) (nI c) x5 s0 S = some S') : S' = sset (sset S 1 (6, fup (S.1 1).2 c 3 ((S.1 1).2 c 3 + 1))) 5 (dT (S.1 5) i) ∨ (x5 ≠ 0 ∧ ∃ v d, S' = sset (sset S 1 (6, fup (S.1 1).2 c 7 ((S.1 1).2 c 7 + -10))) 5 ((S.1 5).1, fup (fup (fup (S.1 5).2 i 4 1) i 5 v) i 6 d)) := by
  unfold bfX0_fail_100 at h
  rw [nm] at h
  by_cases e : x5 = 0
  · rw [if_pos e] at h
    exact Or.inl (f130 h5 h1 hi hc h)
  · rw [if_neg e] at h
    by_cases e2 : S.2 12 + s0 < sget 5 S (nI i) (2 : Int32)
    · rw [if_pos e2, nm, nm, nm, nm, show sadd 1 S (nI c) (7 : Int32) (-10 : Int32) = _ from sadd_tal (y := 7) (z := -10) h1 hc (by omega), h1] at h
      refine Or.inr ⟨e, S.2 12 + s0, s0, ?_⟩
      rw [← Option.some.inj h, show (4 : Int32) = nI 4 from rfl, show (5 : Int32) = nI 5 from rfl, show (6 : Int32) = nI 6 from rfl]
      rw [sput_req (T := S.1 5) (ss_n (by omega)) hi (by omega) (by omega), sput_req (ss_s) (by exact hi) (by omega) (by omega), sset2, sput_req (ss_s) (by exact hi) (by omega) (by omega), sset2]
    · rw [if_neg e2] at h
      exact Or.inl (f130 h5 h1 hi hc h)
theorem delay_only {a b : Int32} {u : Int32 × StS} (h : fX0_delay a b S = some u) : u.2.1 = S.1 ∧ ∀ k, k ≠ 13 → u.2.2 k = S.2 k := by
  have key : ∀ {d : Int32} {S1 : StS}, (S1 = S ∨ S1 = (S.1, upd S.2 13 (S.2 13 * 1103515245 + 12345))) → some (d, S1) = some u → u.2.1 = S.1 ∧ ∀ k, k ≠ 13 → u.2.2 k = S.2 k := by
    intro d S1 hS e
    rw [← Option.some.inj e]
    rcases hS with z | z
    · rw [z]; exact ⟨rfl, fun _ _ => rfl⟩
    · rw [z]; exact ⟨rfl, fun k hk => up_n hk⟩
  unfold fX0_delay at h
  rw [nm, nm, nm] at h
  generalize (if (1 : Int32) < (if sget 0 S b (6 : Int32) < (sget 0 S b (5 : Int32) <<< (((sget 5 S a (3 : Int32)) - (1 : Int32)) &&& 31)) then sget 0 S b (6 : Int32) else (sget 0 S b (5 : Int32) <<< (((sget 5 S a (3 : Int32)) - (1 : Int32)) &&& 31))) then (if sget 0 S b (6 : Int32) < (sget 0 S b (5 : Int32) <<< (((sget 5 S a (3 : Int32)) - (1 : Int32)) &&& 31)) then sget 0 S b (6 : Int32) else (sget 0 S b (5 : Int32) <<< (((sget 5 S a (3 : Int32)) - (1 : Int32)) &&& 31))) else (1 : Int32)) = raw at h
  have k138 : ∀ {x3 x4 s0 s1 : Int32}, bfX0_delay_138 a b x3 x4 s0 s1 S = some u → u.2.1 = S.1 ∧ ∀ k, k ≠ 13 → u.2.2 k = S.2 k := by
    intro x3 x4 s0 s1 h
    unfold bfX0_delay_138 at h
    rw [nm, draw_X, ob_eq] at h
    exact key (Or.inr rfl) (if_no h)
  rcases if_or h with ⟨-, h⟩ | ⟨-, h⟩
  · rw [draw_X, ob_eq] at h
    exact key (Or.inr rfl) (if_no h)
  · rcases if_or h with ⟨-, h⟩ | ⟨-, h⟩
    · rw [draw_X, ob_eq] at h
      exact key (Or.inr rfl) (if_no h)
    · rcases if_or h with ⟨-, h⟩ | ⟨-, h⟩
      · rw [nm] at h
        rcases if_or h with ⟨-, h⟩ | ⟨-, h⟩
        · exact k138 h
        · exact k138 h
      · exact key (Or.inl rfl) h
/-- what fX0_fail finds: no request, or a live one that doesn't wait -/
def FW (T : Tb) (x : Int32) : Prop := tfind 7 16 T 0 x = -9 ∨ ∃ i c : Nat, i < T.1 ∧ tfind 7 16 T 0 x = nI i ∧ T.2 i 1 = nI c ∧ c < 6 ∧ T.2 i 4 = 0
theorem fail_form {x : Int32} {y : Nat} (h5 : (S.1 5).1 ≤ 16) (h1 : (S.1 1).1 = 6) (hi : i < (S.1 5).1) (hf : sfind 5 S (0 : Int32) x = nI i) (r1 : (S.1 5).2 i 1 = nI c) (hc : c < 6) (hy : 4 ≤ y) (hy2 : y ≤ 6) (h : fX0_fail x (nI y) S = some S') : (∀ k, k ≠ 13 → S'.2 k = S.2 k) ∧ (∀ k, k ≠ 1 → k ≠ 5 → S'.1 k = S.1 k) ∧ ((S'.1 5 = dT (S.1 5) i ∧ S'.1 1 = (6, fup (fup (S.1 1).2 c y ((S.1 1).2 c y + 1)) c 3 ((S.1 1).2 c 3 + 1))) ∨ (¬ (S.1 1).2 c 7 < 10 ∧ S'.1 1 = (6, fup (fup (S.1 1).2 c y ((S.1 1).2 c y + 1)) c 7 ((S.1 1).2 c 7 + -10)) ∧ (S'.1 5).1 = (S.1 5).1 ∧ (∀ a, a ≠ i → ∀ j, (S'.1 5).2 a j = (S.1 5).2 a j) ∧ (S'.1 5).2 i 1 = (S.1 5).2 i 1 ∧ (S'.1 5).2 i 4 = 1)) := by
  unfold fX0_fail at h
  rw [hf, nm, if_neg (nI_neg (by omega) (by decide)), show sget 5 S (nI i) (1 : Int32) = nI c from (tg (w := 7) (rows := 16) (j := 1) hi (by omega) (by omega) (by omega) (by omega)).trans r1, nm, nm, sadd_tal h1 hc (by omega), h1] at h
  generalize hS2 : sset S 1 (6, fup (S.1 1).2 c y ((S.1 1).2 c y + 1)) = S2 at h
  have t5 : S2.1 5 = S.1 5 := by rw [← hS2]; exact ss_n (by omega)
  have t1 : S2.1 1 = (6, fup (S.1 1).2 c y ((S.1 1).2 c y + 1)) := by rw [← hS2]; exact ss_s
  have tk : ∀ k, k ≠ 1 → S2.1 k = S.1 k := fun k hk => by rw [← hS2]; exact ss_n hk
  have t2 : S2.2 = S.2 := by rw [← hS2]; rfl
  have e3 : fup (S.1 1).2 c y ((S.1 1).2 c y + 1) c 3 = (S.1 1).2 c 3 := fup_c (by omega)
  have e7 : fup (S.1 1).2 c y ((S.1 1).2 c y + 1) c 7 = (S.1 1).2 c 7 := fup_c (by omega)
  have g7 : sget 1 S2 (nI c) (7 : Int32) = (S.1 1).2 c 7 := (sget_tal (y := 7) (by rw [t1]) hc (by omega)).trans (by rw [t1]; exact e7)
  rw [g7] at h
  have dr : ∀ S3 : StS, S3.1 = S2.1 → (∀ k, k ≠ 13 → S3.2 k = S2.2 k) → S' = sset (sset S3 1 (6, fup (S3.1 1).2 c 3 ((S3.1 1).2 c 3 + 1))) 5 (dT (S3.1 5) i) → (∀ k, k ≠ 13 → S'.2 k = S.2 k) ∧ (∀ k, k ≠ 1 → k ≠ 5 → S'.1 k = S.1 k) ∧ S'.1 5 = dT (S.1 5) i ∧ S'.1 1 = (6, fup (fup (S.1 1).2 c y ((S.1 1).2 c y + 1)) c 3 ((S.1 1).2 c 3 + 1)) := by
    intro S3 a1 a2 e
    rw [a1, t1, t5] at e
    dsimp only at e
    rw [e3] at e
    rw [e]
    refine ⟨fun k hk => (a2 k hk).trans (by rw [t2]), fun k k1 k5 => ?_, ss_s, ?_⟩
    · rw [ss_n k5, ss_n k1, a1]
      exact tk k k1
    · rw [ss_n (by omega), ss_s]
  have f100' : ∀ {S3 : StS} {x5 s0 : Int32}, S3.1 = S2.1 → (∀ k, k ≠ 13 → S3.2 k = S2.2 k) → (x5 ≠ 0 → ¬ (S.1 1).2 c 7 < 10) → bfX0_fail_100 x (nI y) (nI i) (nI c) x5 s0 S3 = some S' → (∀ k, k ≠ 13 → S'.2 k = S.2 k) ∧ (∀ k, k ≠ 1 → k ≠ 5 → S'.1 k = S.1 k) ∧ ((S'.1 5 = dT (S.1 5) i ∧ S'.1 1 = (6, fup (fup (S.1 1).2 c y ((S.1 1).2 c y + 1)) c 3 ((S.1 1).2 c 3 + 1))) ∨ (¬ (S.1 1).2 c 7 < 10 ∧ S'.1 1 = (6, fup (fup (S.1 1).2 c y ((S.1 1).2 c y + 1)) c 7 ((S.1 1).2 c 7 + -10)) ∧ (S'.1 5).1 = (S.1 5).1 ∧ (∀ a, a ≠ i → ∀ j, (S'.1 5).2 a j = (S.1 5).2 a j) ∧ (S'.1 5).2 i 1 = (S.1 5).2 i 1 ∧ (S'.1 5).2 i 4 = 1)) := by
    intro S3 x5 s0 a1 a2 hx h
    rcases f100 (by rw [a1, t5]; exact h5) (by rw [a1, t1]) (by rw [a1, t5]; exact hi) hc h with e | ⟨e5, v, d, e⟩
    · obtain ⟨z1, z2, z3, z4⟩ := dr S3 a1 a2 e
      exact ⟨z1, z2, Or.inl ⟨z3, z4⟩⟩
    · rw [a1, t1, t5] at e
      dsimp only at e
      rw [e7] at e
      rw [e]
      refine ⟨fun k hk => (a2 k hk).trans (by rw [t2]), fun k k1 k5 => ?_, Or.inr ⟨hx e5, ?_, ?_, fun a ha j => ?_, ?_, ?_⟩⟩
      · rw [ss_n k5, ss_n k1, a1]
        exact tk k k1
      · rw [ss_n (by omega), ss_s]
      · rw [ss_s]
      · rw [ss_s]
        dsimp only
        rw [fup_r ha, fup_r ha, fup_r ha]
      · rw [ss_s]
        dsimp only
        rw [fup_c (by omega), fup_c (by omega), fup_c (by omega)]
      · rw [ss_s]
        dsimp only
        rw [fup_c (by omega), fup_c (by omega), fup_s rfl rfl]
  have no81 : bfX0_fail_81 x (nI y) (nI i) (nI c) S2 = some S' → _ := fun h => by
    unfold bfX0_fail_81 bfX0_fail_82 at h
    rw [if_pos rfl] at h
    exact f100' rfl (fun _ _ => rfl) (fun z => absurd rfl z) h
  rcases if_or h with ⟨-, h⟩ | ⟨-, h⟩
  · exact no81 h
  · rcases if_or h with ⟨-, h⟩ | ⟨hu, h⟩
    · exact no81 h
    · unfold bfX0_fail_82 at h
      rw [if_neg (show ¬ (1 : Int32) = 0 by decide)] at h
      obtain ⟨u, u1, u2⟩ := ob_some h
      obtain ⟨z1, z2⟩ := delay_only u1
      exact f100' z1 z2 (fun _ => hu) u2
theorem fail_tabs {x : Int32} {y : Nat} (h5 : (S.1 5).1 ≤ 16) (h1 : (S.1 1).1 = 6) (hF : FW (S.1 5) x) (hy : 4 ≤ y) (hy2 : y ≤ 6) (h : fX0_fail x (nI y) S = some S') {o : N1} : (∀ lb, EA o lb S → EA o lb S') ∧ (∀ k, k ≠ 13 → S'.2 k = S.2 k) ∧ ∀ k, k ≠ 1 → k ≠ 5 → S'.1 k = S.1 k := by
  rcases hF with e | ⟨i, c, hi, e, r1, hc, r4⟩
  · unfold fX0_fail at h
    rw [show sfind 5 S (0 : Int32) x = -9 from e, nm, if_pos rfl] at h
    rw [← Option.some.inj h]
    exact ⟨fun _ z => z, fun _ _ => rfl, fun _ _ _ => rfl⟩
  · obtain ⟨z1, z2, z3⟩ := fail_form h5 h1 hi e r1 hc hy hy2 h
    refine ⟨fun _ hA => ?_, z1, z2⟩
    rcases z3 with ⟨a, b⟩ | ⟨a, b, c1, c2, c3, c4⟩
    · exact hA.fdrop hi hc r1 r4 hy hy2 (z2 0 (by omega) (by omega)) a b
    · exact hA.fwait hi hc r1 r4 hy hy2 a (z2 0 (by omega) (by omega)) c1 c2 c3 c4 b
theorem fail_ko {sv o : N1} {x : Int32} {y : Nat} (h5 : (S.1 5).1 ≤ 16) (h1 : (S.1 1).1 = 6) (hF : FW (S.1 5) x) (hy : 4 ≤ y) (hy2 : y ≤ 6) (h : fX0_fail x (nI y) S = some S') : Ko sv o o S S' := by
  obtain ⟨a, b, c⟩ := fail_tabs (o := o) h5 h1 hF hy hy2 h
  exact Ko.ea a (c 7 (by omega) (by omega)) (c 9 (by omega) (by omega)) (b 15 (by omega)) (b 16 (by omega))
end FK
section FR
variable {F : Fx} {E Zf Zb : Nat → Prop} {t K lo wl : Nat} {cl sg : N2} {sv sw : N1} {nr : Nat} {r : N2} {N nq nb : Nat} {qs ws fb gb : N1} {at_ : N2} {ow : N1} {S S' : StS} {M M' : MS}
theorem RG.fw0 (h : RG F E Zf Zb t K lo wl cl sg sv sw nr r N nq nb qs ws fb gb at_ ow S M) {x : Int32} (hx : x < 0) (hN : N < 2 ^ 30) : FW (S.1 5) x := Or.inl (gR.find_none (S := S) rfl h.2.2.2.1 (fun i hi e => nI_pos (n := r i 0) (by have := (h.2.2.2.1.2.2.2.2.2 i hi).1; omega) (by rw [e]; exact hx)))
theorem RG.fwi (h : RG F E Zf Zb t K lo wl cl sg sv sw nr r N nq nb qs ws fb gb at_ ow S M) (hN : N < 2 ^ 30) {i : Nat} (hi : i < nr) (h4 : r i 4 = 0) : FW (S.1 5) (nI (r i 0)) := by
  have hR := h.2.2.2.1
  exact Or.inr ⟨i, r i 1, by rw [hR.1]; exact hi, gR.find (S := S) rfl hR (by omega) hi, (hR.2.2.2.1 i 1 hi (by omega)).1, (hR.2.2.2.2.2 i hi).2.1, by rw [(hR.2.2.2.1 i 4 hi (by omega)).1, h4]; rfl⟩
theorem RG.fwo (h : RG F E Zf Zb t K lo wl cl sg sv sw nr r N nq nb qs ws fb gb at_ ow S M) (hN : N < 2 ^ 30) {a : Nat} (ha : a < 24) (hu : at_ a 9 = 1) : FW (S.1 5) (owI (ow a)) := by
  obtain ⟨o1, o2, -⟩ := h.owner ha hu
  rcases o2 with z | ⟨i, i1, i2, i3, i4, i5, -⟩
  · rw [z]
    exact h.fw0 (by decide) hN
  · rw [← i2]
    exact h.fwi hN i1 i5
theorem RG.n16 (h : RG F E Zf Zb t K lo wl cl sg sv sw nr r N nq nb qs ws fb gb at_ ow S M) : (S.1 5).1 ≤ 16 ∧ (S.1 1).1 = 6 := ⟨by rw [h.2.2.2.1.1]; exact h.2.2.2.1.2.1, h.2.1.1⟩
end FR
