/-! an attempt joins the front queue -/
theorem pigeon : ∀ (m n : Nat) (f : Nat → Nat), (∀ a, a < n → ∃ k, k < m ∧ f k = a) → n ≤ m
  | 0, n, f, h => by
    rcases Nat.eq_zero_or_pos n with e | e
    · omega
    · obtain ⟨k, hk, -⟩ := h 0 e
      omega
  | m + 1, n, f, h => by
    by_cases hb : f m < n
    · have := pigeon m (n - 1) (fun k => if f m < f k then f k - 1 else f k) (fun a ha => by
        by_cases e : a < f m
        · obtain ⟨k, hk, e2⟩ := h a (by omega)
          have hkm : k ≠ m := fun q => by rw [q] at e2; omega
          exact ⟨k, by omega, by rw [if_neg (by omega)]; exact e2⟩
        · obtain ⟨k, hk, e2⟩ := h (a + 1) (by omega)
          have hkm : k ≠ m := fun q => by rw [q] at e2; omega
          exact ⟨k, by omega, by rw [if_pos (by omega), e2]; omega⟩)
      omega
    · have := pigeon m n f (fun a ha => by
        obtain ⟨k, hk, e2⟩ := h a ha
        have hkm : k ≠ m := fun q => by rw [q] at e2; omega
        exact ⟨k, by omega, e2⟩)
      omega
def newat (v fa ba c : Nat) : Nat := if c = 1 then v else if c = 2 then fa else if c = 3 then fa else if c = 4 then ba else if c = 5 then ba else if c = 6 then 0 else 1
def atn (at_ : N2) (a0 v fa ba : Nat) : N2 := fun a c => if a = a0 then newat v fa ba c else at_ a c
def r7 (r : N2) (i a0 : Nat) : N2 := fun a c => if a = i ∧ c = 7 then a0 else r a c
def pslot (p : Pg) (a : Nat) (num : Int32) (v fa ba : Nat) : Pg := upd (upd (upd (upd (upd (upd (upd (upd (upd (upd p (317 + 10 * a + 9) (1 : Int32)) (317 + 10 * a) num) (317 + 10 * a + 1) (nI v)) (317 + 10 * a + 2) (nI fa)) (317 + 10 * a + 3) (nI fa)) (317 + 10 * a + 4) (nI ba)) (317 + 10 * a + 5) (nI ba)) (317 + 10 * a + 6) (0 : Int32)) (317 + 10 * a + 7) (1 : Int32)) (317 + 10 * a + 8) (-9 : Int32)
theorem pslot_out {p : Pg} {a : Nat} {num : Int32} {v fa ba x : Nat} (h : x < 317 + 10 * a ∨ 317 + 10 * a + 10 ≤ x) : pslot p a num v fa ba x = p x := by
  unfold pslot
  rw [up_n (by omega), up_n (by omega), up_n (by omega), up_n (by omega), up_n (by omega), up_n (by omega), up_n (by omega), up_n (by omega), up_n (by omega), up_n (by omega)]
theorem pslot_9 {p : Pg} {a : Nat} {num : Int32} {v fa ba : Nat} : pslot p a num v fa ba (317 + 10 * a + 9) = nI 1 := by
  unfold pslot
  rw [up_n (by omega), up_n (by omega), up_n (by omega), up_n (by omega), up_n (by omega), up_n (by omega), up_n (by omega), up_n (by omega), up_n (by omega), up_s rfl]
  rfl
theorem pslot_0 {p : Pg} {a : Nat} {num : Int32} {v fa ba : Nat} : pslot p a num v fa ba (317 + 10 * a) = num := by
  unfold pslot
  rw [up_n (by omega), up_n (by omega), up_n (by omega), up_n (by omega), up_n (by omega), up_n (by omega), up_n (by omega), up_n (by omega), up_s rfl]
theorem pslot_c {p : Pg} {a : Nat} {num : Int32} {v fa ba c : Nat} (h1 : 1 ≤ c) (h2 : c < 8) : pslot p a num v fa ba (317 + 10 * a + c) = nI (newat v fa ba c) := by
  unfold pslot
  match c, h1, h2 with
  | 1, _, _ => rw [up_n (by omega), up_n (by omega), up_n (by omega), up_n (by omega), up_n (by omega), up_n (by omega), up_n (by omega), up_s rfl]; rfl
  | 2, _, _ => rw [up_n (by omega), up_n (by omega), up_n (by omega), up_n (by omega), up_n (by omega), up_n (by omega), up_s rfl]; rfl
  | 3, _, _ => rw [up_n (by omega), up_n (by omega), up_n (by omega), up_n (by omega), up_n (by omega), up_s rfl]; rfl
  | 4, _, _ => rw [up_n (by omega), up_n (by omega), up_n (by omega), up_n (by omega), up_s rfl]; rfl
  | 5, _, _ => rw [up_n (by omega), up_n (by omega), up_n (by omega), up_s rfl]; rfl
  | 6, _, _ => rw [up_n (by omega), up_n (by omega), up_s rfl]; rfl
  | 7, _, _ => rw [up_n (by omega), up_s rfl]; rfl
def penq (p : Pg) (i nq a : Nat) (num : Int32) (v fa ba : Nat) : Pg := upd (upd (upd (pslot p a num v fa ba) (189 + 8 * i + 7) (nI a)) (558 + nq) (nI a)) 557 (nI (nq + 1))
section EL
variable {F : Fx} {E Zf Zb : Nat → Prop} {t K lo wl : Nat} {cl sg : N2} {sv sw : N1} {nr : Nat} {r : N2} {N nq nb : Nat} {qs ws fb gb : N1} {at_ : N2} {ow : N1} {S : StS} {M : MS}
theorem gR.cols {T : Tb} {p : Pg} {r' : N2} (h : gR T p nr r t N lo wl E) (e : ∀ a c, c < 7 → r' a c = r a c) : gR T p nr r' t N lo wl E := by
  obtain ⟨k1, k2, k3, k4, k5, k6⟩ := h
  refine ⟨k1, k2, k3, fun a j ha hj => by rw [e a j hj]; exact k4 a j ha hj, fun a b hab hb => by rw [e a 0 (by omega), e b 0 (by omega)]; exact k5 a b hab hb, fun a ha => ?_⟩
  rw [e a 0 (by omega), e a 1 (by omega), e a 2 (by omega), e a 3 (by omega), e a 4 (by omega), e a 5 (by omega), e a 6 (by omega)]
  exact k6 a ha
def q1 (qs : N1) (nq a0 : Nat) : N1 := fun k => if k = nq then a0 else qs k
def o1 (ow : N1) (a0 x : Nat) : N1 := fun a => if a = a0 then x else ow a
def tenq (T : Tb) (nq : Nat) (num : Int32) (v fa ba : Nat) : Tb := (nq + 1, fup (fup (fup (fup (fun i j => if i = nq then (0 : Int32) else T.2 i j) nq 0 num) nq 1 (nI v)) nq 2 (nI fa)) nq 3 (nI ba))
theorem RG.enq (h : RG F E Zf Zb t K lo wl cl sg sv sw nr r N nq nb qs ws fb gb at_ ow S M) {i a0 : Nat} (hi : i < nr) (hE : E (r i 0)) (h4 : r i 4 = 0) (h3 : 1 ≤ r i 3) (hlo : lo ≤ r i 5) (ha0 : a0 < 24) (hu : at_ a0 9 = 0) (hq : nq < sv 1) : RG F (fun x => E x ∧ x ≠ r i 0) Zf Zb t K lo wl cl sg sv sw nr (r7 r i a0) N (nq + 1) nb (q1 qs nq a0) ws fb gb (atn at_ a0 (r i 5) (cl (r i 1) 8) (cl (r i 1) 9)) (o1 ow a0 (r i 0 + 1)) (sset S 6 (tenq (S.1 6) nq (nI (r i 0)) (r i 5) (cl (r i 1) 8) (cl (r i 1) 9))) (penq M.1 i nq a0 (nI (r i 0)) (r i 5) (cl (r i 1) 8) (cl (r i 1) 9), M.2) := by
  have q := h.nqb
  obtain ⟨hX, hT, hD, hR, ⟨hA, hQ, hF, hB, hG, hU⟩, hL, hN⟩ := h
  have hne := fun k (hk : k < nr) (e : r k 0 = r i 0) => hR.ne hk hi e
  have hsv := (hX.2.2.1.2.1 1 (by omega)).2.2.2
  have hm1 : mxS 1 = 16 := rfl
  rw [hm1] at hsv
  obtain ⟨b1, b2, b3, b4, b5, b6, b7, b8, b9, b10⟩ := hR.2.2.2.2.2 i hi
  have f8 := (hX.1.2 (r i 1) 8 b2 (by omega)).2.2
  have f9 := (hX.1.2 (r i 1) 9 b2 (by omega)).2.2
  rw [show loL 8 = 1 from rfl, show hiL 8 = 12 from rfl] at f8
  rw [show hiL 9 = 12 from rfl] at f9
  generalize hfa : cl (r i 1) 8 = fa at f8 ⊢
  generalize hba : cl (r i 1) 9 = ba at f9 ⊢
  generalize hv : r i 5 = v at *
  have a9 : ∀ c, atn at_ a0 v fa ba a0 c = newat v fa ba c := fun c => if_pos rfl
  have ao : ∀ a c, a ≠ a0 → atn at_ a0 v fa ba a c = at_ a c := fun a c e => if_neg e
  have oo : ∀ a, a ≠ a0 → o1 ow a0 (r i 0 + 1) a = ow a := fun a e => if_neg e
  have qo : ∀ k, k < nq → q1 qs nq a0 k = qs k := fun k hk => if_neg (by omega)
  have hq0 : ∀ k, k < nq → qs k ≠ a0 := fun k hk e => by
    have := (hQ.2.2.2 k hk).2.2.1
    rw [e] at this
    omega
  have hw0 : ∀ w a, w < 4 → ws w = a + 1 → a ≠ a0 := fun w a hw ha e => by
    have := ((hF.2 w hw).2.2 a ha).2.1
    rw [e] at this
    omega
  have hp : ∀ x, x < 189 ∨ 574 ≤ x → penq M.1 i nq a0 (nI (r i 0)) v fa ba x = M.1 x := fun x hx => by
    unfold penq
    rw [up_n (by omega), up_n (by omega), up_n (by omega), pslot_out (by omega)]
  have hpr : ∀ x, x < 317 → x ≠ 189 + 8 * i + 7 → penq M.1 i nq a0 (nI (r i 0)) v fa ba x = M.1 x := fun x hx hx2 => by
    unfold penq
    rw [up_n (by omega), up_n (by omega), up_n (by omega), pslot_out (by omega)]
  have hps : ∀ x, 317 ≤ x → x < 557 → penq M.1 i nq a0 (nI (r i 0)) v fa ba x = pslot M.1 a0 (nI (r i 0)) v fa ba x := fun x h1 h2 => by
    unfold penq
    rw [up_n (by omega), up_n (by omega), up_n (by omega)]
  unfold RG
  dsimp only
  refine ⟨hX.cg (Nat.le_refl _) (by omega) q.2.1 (fun k hk => ss_n (by omega)) (fun x hx => hp x (by omega)), ?_, hD.cg (Nat.le_refl _) (fun _ _ _ => rfl) (fun x hx => hp x (by omega)), ?_, ⟨?_, ?_, ?_, ?_, ?_, ?_⟩, ?_, hN.cg hT.1 ?_ ?_ ?_ rfl rfl (fun x hx => hp x (by omega))⟩
  · rw [ss_n (by omega)]
    exact hT.cg (Nat.le_refl _) (fun x _ _ => hp x (by omega))
  · rw [ss_n (by omega)]
    refine gR.cols (r := r) ?_ (fun a c hc => if_neg (by omega))
    obtain ⟨k1, k2, k3, k4, k5, k6⟩ := hR
    refine ⟨k1, k2, (hp 188 (by omega)).trans k3, fun a j ha hj => ⟨(k4 a j ha hj).1, (hpr _ (by omega) (by omega)).trans (k4 a j ha hj).2⟩, k5, fun a ha => ?_⟩
    obtain ⟨c1, c2, c3, c4, c5, c6, c7, c8, c9, c10⟩ := k6 a ha
    refine ⟨c1, c2, c3, c4, c5, c6, c7, c8, fun z => ?_, fun z z2 => ?_⟩
    · by_cases e : r a 0 = r i 0
      · rw [hne a ha e]; exact h3
      · exact c9 (fun he => z ⟨he, e⟩)
    · by_cases e : r a 0 = r i 0
      · rw [hne a ha e, hv]; exact hlo
      · exact c10 z (fun he => z2 ⟨he, e⟩)
  · intro a ha
    by_cases e : a = a0
    · subst e
      refine ⟨?_, ?_, fun _ => ⟨?_, fun c h1 h2 => ?_⟩⟩
      · rw [hps _ (by omega) (by omega), pslot_9, a9]
        rfl
      · rw [a9]
        exact (by decide : (1 : Nat) ≤ 1)
      · rw [hps _ (by omega) (by omega), pslot_0]
        show _ = owI (o1 ow a (r i 0 + 1) a)
        rw [show o1 ow a (r i 0 + 1) a = r i 0 + 1 from if_pos rfl]
        rfl
      · rw [hps _ (by omega) (by omega), pslot_c h1 h2, a9]
    · obtain ⟨h1, h2, h3⟩ := hA a ha
      rw [ao a 9 e, oo a e]
      refine ⟨?_, h2, fun z => ⟨?_, fun c c1 c2 => ?_⟩⟩
      · rw [hps _ (by omega) (by omega), pslot_out (by omega)]
        exact h1
      · rw [hps _ (by omega) (by omega), pslot_out (by omega)]
        exact (h3 z).1
      · rw [hps _ (by omega) (by omega), pslot_out (by omega), ao a c e]
        exact (h3 z).2 c c1 c2
  · rw [ss_s]
    obtain ⟨k1, k2, k3, k4⟩ := hQ
    refine ⟨rfl, by omega, ?_, fun k hk => ?_⟩
    · show penq M.1 i nq a0 (nI (r i 0)) v fa ba 557 = _
      unfold penq
      rw [up_s rfl]
    · show penq M.1 i nq a0 (nI (r i 0)) v fa ba (558 + k) = _ ∧ _
      by_cases e : k = nq
      · subst e
        rw [show q1 qs k a0 k = a0 from if_pos rfl, show o1 ow a0 (r i 0 + 1) a0 = r i 0 + 1 from if_pos rfl]
        simp only [a9]
        refine ⟨?_, ha0, rfl, ⟨?_, ?_, ?_, ?_, ?_⟩, rfl, rfl, f8.1, f8.2, f9.2, rfl, rfl⟩
        · unfold penq
          rw [up_n (by omega), up_s rfl]
        · show fup (fup (fup (fup _ k 0 _) k 1 _) k 2 _) k 3 _ k 0 = _
          rw [fup_c (by decide), fup_c (by decide), fup_c (by decide), fup_s rfl rfl]
          rfl
        · show fup (fup (fup (fup _ k 0 _) k 1 _) k 2 _) k 3 _ k 1 = _
          rw [fup_c (by decide), fup_c (by decide), fup_s rfl rfl]
          rfl
        · show fup (fup (fup (fup _ k 0 _) k 1 _) k 2 _) k 3 _ k 2 = _
          rw [fup_c (by decide), fup_s rfl rfl]
          rfl
        · show fup (fup (fup (fup _ k 0 _) k 1 _) k 2 _) k 3 _ k 3 = _
          rw [fup_s rfl rfl]
          rfl
        · show fup (fup (fup (fup _ k 0 _) k 1 _) k 2 _) k 3 _ k 4 = _
          rw [fup_c (by decide), fup_c (by decide), fup_c (by decide), fup_c (by decide), if_pos rfl]
      · have hk2 : k < nq := by omega
        have e1 := hq0 k hk2
        have et : ∀ j, (tenq (S.1 6) nq (nI (r i 0)) v fa ba).2 k j = (S.1 6).2 k j := fun j => by
          show fup (fup (fup (fup _ nq 0 _) nq 1 _) nq 2 _) nq 3 _ k j = _
          rw [fup_r e, fup_r e, fup_r e, fup_r e, if_neg e]
        rw [qo k hk2, et, et, et, et, et, oo _ e1, ao _ _ e1, ao _ _ e1, ao _ _ e1, ao _ _ e1, ao _ _ e1, ao _ _ e1, ao _ _ e1, ao _ _ e1]
        have ep : penq M.1 i nq a0 (nI (r i 0)) v fa ba (558 + k) = M.1 (558 + k) := by
          unfold penq
          rw [up_n (by omega), up_n (by omega), up_n (by omega), pslot_out (by omega)]
        rw [ep]
        exact k4 k hk2
  · rw [ss_n (by omega)]
    refine hF.cg (fun x _ _ => hp x (by omega)) (fun w a hw ha => ?_) (fun w a c hw ha => ao a c (hw0 w a hw ha)) (fun w a hw ha => oo a (hw0 w a hw ha)) (fun _ _ z => z)
    have := ((hF.2 w hw).2.2 a ha).1
    have := hw0 w a hw ha
    show penq M.1 i nq a0 (nI (r i 0)) v fa ba _ = _
    rw [hps _ (by omega) (by omega), pslot_out (by omega)]
  · rw [ss_n (by omega)]
    exact hB.cg (fun x _ _ => hp x (by omega)) (fun w a hw ha => ao a 7 (hw0 w a hw ha))
  · rw [ss_n (by omega)]
    exact hG.cg (fun x _ _ => hp x (by omega)) (fun w a c hw ha => ao a c (hw0 w a hw ha)) (fun _ _ z => z)
  · obtain ⟨u1, u2, u3, u4⟩ := hU
    refine ⟨fun k k' hk hk' e => ?_, u2, fun k w hk hw => ?_, fun a ha hua => ?_⟩
    · by_cases e1 : k = nq
      · by_cases e2 : k' = nq
        · omega
        · rw [qo k' (by omega), show q1 qs nq a0 k = a0 from if_pos e1] at e
          exact absurd e.symm (hq0 k' (by omega))
      · by_cases e2 : k' = nq
        · rw [qo k (by omega), show q1 qs nq a0 k' = a0 from if_pos e2] at e
          exact absurd e (hq0 k (by omega))
        · rw [qo k (by omega), qo k' (by omega)] at e
          exact u1 k k' (by omega) (by omega) e
    · by_cases e1 : k = nq
      · rw [show q1 qs nq a0 k = a0 from if_pos e1]
        exact fun e => hw0 w a0 hw e rfl
      · rw [qo k (by omega)]
        exact u3 k w (by omega) hw
    · by_cases e : a = a0
      · exact Or.inl ⟨nq, by omega, by rw [e]; exact if_pos rfl⟩
      · rw [ao a 9 e] at hua
        rcases u4 a ha hua with ⟨k, hk, e2⟩ | z
        · exact Or.inl ⟨k, by omega, by rw [qo k hk]; exact e2⟩
        · exact Or.inr z
  · have r70 : ∀ a c, c ≠ 7 → r7 r i a0 a c = r a c := fun a c hc => if_neg (fun z => hc z.2)
    have r7o : ∀ a c, a ≠ i → r7 r i a0 a c = r a c := fun a c hc => if_neg (fun z => hc z.1)
    have r7i : r7 r i a0 i 7 = a0 := if_pos ⟨rfl, rfl⟩
    refine ⟨fun a ha h0 hn2 => ?_, fun a ha hua => ?_⟩
    · rw [r70 a 0 (by decide)] at hn2 ⊢
      rw [r70 a 4 (by decide)] at h0
      rw [r70 a 5 (by decide)]
      by_cases e : a = i
      · subst e
        rw [r7i, a9, a9, hv]
        refine ⟨ha0, rfl, if_pos rfl, ?_, rfl⟩
        show penq M.1 a nq a0 (nI (r a 0)) v fa ba _ = _
        unfold penq
        rw [up_n (by omega), up_n (by omega), up_s rfl]
      · rw [r7o a 7 e]
        obtain ⟨d1, d2, d3, d4, d5⟩ := hL.1 a ha h0 (fun z => hn2 ⟨z, fun z2 => e (hne a ha z2)⟩)
        have e7 : r a 7 ≠ a0 := fun z => by rw [z] at d2; omega
        rw [ao _ _ e7, ao _ _ e7, oo _ e7]
        exact ⟨d1, d2, d3, (hpr _ (by omega) (by omega)).trans d4, d5⟩
    · by_cases e : a = a0
      · subst e
        rw [a9]
        refine ⟨?_, Or.inr ⟨i, hi, ?_, ?_, r7i, fun z => z.2 (r70 i 0 (by decide))⟩⟩
        · show v ≤ t + 64
          omega
        · rw [r70 i 0 (by decide)]
          exact (if_pos rfl : o1 ow a (r i 0 + 1) a = r i 0 + 1).symm
        · rw [r70 i 4 (by decide)]
          exact h4
      · rw [ao a 9 e] at hua
        rw [ao a 1 e, oo a e]
        obtain ⟨c1, c2⟩ := hL.2 a ha hua
        refine ⟨c1, c2.imp id ?_⟩
        rintro ⟨k, z1, z2, z3, z4, z5⟩
        have ek : k ≠ i := fun z => z5 (by rw [z]; exact hE)
        exact ⟨k, z1, by rw [r70 k 0 (by decide)]; exact z2, by rw [r70 k 4 (by decide)]; exact z3, by rw [r7o k 7 ek]; exact z4, by rw [r70 k 0 (by decide)]; exact fun z => z5 z.1⟩
  · rw [ss_n (by omega)]; exact hT.1
  · intro i hi
    rw [ss_n (by omega)]
  · intro i hi
    rw [ss_n (by omega)]
/-- a slot is free, and the reference finds the first -/
theorem RG.free (h : RG F E Zf Zb t K lo wl cl sg sv sw nr r N nq nb qs ws fb gb at_ ow S M) (hq : nq < 16) : ∃ a0, a0 < 24 ∧ at_ a0 9 = 0 ∧ fX6_freeSlot M = some (nI a0) := by
  obtain ⟨hX, hT, hD, hR, ⟨hA, hQ, hF, hB, hG, hU⟩, hL, hN⟩ := h
  have hex : ∃ a, a < 24 ∧ at_ a 9 ≠ 1 := by
    apply Classical.byContradiction
    intro hno
    have := pigeon (nq + 4) 24 (fun k => if k < nq then qs k else ws (k - nq) - 1) (fun a ha => by
      have hu : at_ a 9 = 1 := Classical.byContradiction (fun z => hno ⟨a, ha, z⟩)
      rcases hU.2.2.2 a ha hu with ⟨k, hk, e⟩ | ⟨w, hw, e⟩
      · exact ⟨k, by omega, by rw [if_pos hk]; exact e⟩
      · exact ⟨nq + w, by omega, by rw [if_neg (by omega), show nq + w - nq = w by omega, e]; rfl⟩)
    omega
  obtain ⟨a0, ⟨h1, h2⟩, h3⟩ := pk_least (fun a => a < 24 ∧ at_ a 9 ≠ 1) hex
  have hz := (hA a0 h1).2.1
  refine ⟨a0, h1, by omega, free_eq h1 ?_ (fun b hb => ?_)⟩
  · rw [(hA a0 h1).1]
    intro e
    have := (eqn_1 (by omega)).mp e
    omega
  · have hb1 : at_ b 9 = 1 := Classical.byContradiction (fun z => h3 b hb ⟨by omega, z⟩)
    rw [(hA b (by omega)).1, hb1]
    rfl
end EL
