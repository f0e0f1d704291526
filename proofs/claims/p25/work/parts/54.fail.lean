/-! an attempt fails -/
def rwt (r : N2) (i v d : Nat) : N2 := fun a c => if a = i then (if c = 4 then 1 else if c = 5 then v else if c = 6 then d else r i c) else r a c
/-- which requests are due at u, of those that wait, or do not -/
def Due (nr : Nat) (r : N2) (w u x : Nat) : Prop := ∃ i, i < nr ∧ r i 0 = x ∧ r i 4 = w ∧ r i 5 = u
section FL
variable {F : Fx} {E Zf Zb : Nat → Prop} {t K lo wl : Nat} {cl sg : N2} {sv sw : N1} {nr : Nat} {r : N2} {N nq nb : Nat} {qs ws fb gb : N1} {at_ : N2} {ow : N1} {S : StS} {M : MS}
theorem sput_req {T : Tb} (hT : S.1 5 = T) {i j : Nat} {z : Int32} (h1 : i < T.1) (h2 : i < 16) (hj : j < 7) : sput 5 S (nI i) (nI j) z = sset S 5 (T.1, fup T.2 i j z) := by
  show sset S 5 (tput 7 16 (S.1 5) (nI i) (nI j) z) = _
  rw [hT, tp h1 h2 hj (by omega) (by omega)]
theorem sset2 {k : Nat} {T T' : Tb} : sset (sset S k T) k T' = sset S k T' := by
  refine Prod.ext (funext fun j => ?_) rfl
  show va_up (va_up S.1 k T) k T' j = va_up S.1 k T' j
  by_cases h : j = k
  · rw [h, va_up_self, va_up_self]
  · rw [va_up_ne _ _ h, va_up_ne _ _ h, va_up_ne _ _ h]
def pwt (p : Pg) (i v d : Nat) : Pg := upd (upd (upd (upd p (189 + 8 * i + 4) (1 : Int32)) (189 + 8 * i + 5) (nI v)) (189 + 8 * i + 6) (nI d)) (189 + 8 * i + 7) (-9 : Int32)
theorem pwt_out {p : Pg} {i v d x : Nat} (h : x < 189 + 8 * i + 4 ∨ 189 + 8 * i + 8 ≤ x) : pwt p i v d x = p x := by
  unfold pwt
  rw [up_n (by omega), up_n (by omega), up_n (by omega), up_n (by omega)]
theorem RG.wait (h : RG F E Zf Zb t K lo wl cl sg sv sw nr r N nq nb qs ws fb gb at_ ow S M) {i d : Nat} (hi : i < nr) (hE : E (r i 0)) (h1 : 1 ≤ r i 3) (h5 : r i 3 ≤ 5) (d1 : 1 ≤ d) (d2 : d ≤ 64) (hd : t + d < r i 2) (hwl : wl ≤ t + 1) : RG F (fun x => E x ∧ x ≠ r i 0) Zf Zb t K lo wl cl sg sv sw nr (rwt r i (t + d) d) N nq nb qs ws fb gb at_ ow (sput 5 (sput 5 (sput 5 S (nI i) (4 : Int32) (1 : Int32)) (nI i) (5 : Int32) (nI (t + d))) (nI i) (6 : Int32) (nI d)) (pwt M.1 i (t + d) d, M.2) := by
  have q := h.nqb
  obtain ⟨hX, hT, hD, hR, hY, hL, hN⟩ := h
  obtain ⟨k1, k2, k3, k4, k5, k6⟩ := hR
  have e : sput 5 (sput 5 (sput 5 S (nI i) (4 : Int32) (1 : Int32)) (nI i) (5 : Int32) (nI (t + d))) (nI i) (6 : Int32) (nI d) = sset S 5 ((S.1 5).1, fup (fup (fup (S.1 5).2 i 4 (1 : Int32)) i 5 (nI (t + d))) i 6 (nI d)) := by
    rw [show (4 : Int32) = nI 4 from rfl, show (5 : Int32) = nI 5 from rfl, show (6 : Int32) = nI 6 from rfl]
    rw [sput_req (S := S) (T := S.1 5) rfl (by omega) (by omega) (by omega), sput_req ss_s (by show i < (S.1 5).1; omega) (by omega) (by omega), sput_req ss_s (by show i < (S.1 5).1; omega) (by omega) (by omega), sset2, sset2]
  have hn : ∀ k, k < nr → r k 0 = r i 0 → k = i := fun k hk e => by
    rcases Nat.lt_trichotomy i k with z | z | z
    · have := k5 i k z hk; omega
    · exact z.symm
    · have := k5 k i z hi; omega
  have hp : ∀ x, x < 189 ∨ 317 ≤ x → pwt M.1 i (t + d) d x = M.1 x := fun x hx => pwt_out (by omega)
  have r0 : ∀ a, rwt r i (t + d) d a 0 = r a 0 := fun a => by
    unfold rwt
    by_cases e : a = i
    · rw [if_pos e, if_neg (by decide), if_neg (by decide), if_neg (by decide), e]
    · rw [if_neg e]
  have ro : ∀ a c, a ≠ i → rwt r i (t + d) d a c = r a c := fun a c e => if_neg e
  have ri : ∀ c, c < 4 → rwt r i (t + d) d i c = r i c := fun c hc => by
    unfold rwt
    rw [if_pos rfl, if_neg (by omega), if_neg (by omega), if_neg (by omega)]
  have r4 : rwt r i (t + d) d i 4 = 1 := by unfold rwt; rw [if_pos rfl, if_pos rfl]
  have r5 : rwt r i (t + d) d i 5 = t + d := by unfold rwt; rw [if_pos rfl, if_neg (by decide), if_pos rfl]
  have r6 : rwt r i (t + d) d i 6 = d := by unfold rwt; rw [if_pos rfl, if_neg (by decide), if_neg (by decide), if_pos rfl]
  rw [e]
  refine ⟨hX.cg (Nat.le_refl _) q.1 q.2.1 (fun k hk => ss_n (by omega)) (fun x hx => hp x (by omega)), ?_, hD.cg (Nat.le_refl _) (fun _ _ _ => rfl) (fun x hx => hp x (by omega)), ?_, hY.cg (fun k h1 h2 => ss_n (by omega)) (fun x _ _ => hp x (by omega)), ?_, hN.cg hT.1 ?_ ?_ ?_ rfl rfl (fun x hx => hp x (by omega))⟩
  · rw [ss_n (by omega)]
    exact hT.cg (Nat.le_refl _) (fun x _ _ => hp x (by omega))
  · rw [ss_s]
    refine ⟨k1, k2, (hp 188 (by omega)).trans k3, fun a j ha hj => ?_, fun a b hab hb => by rw [r0, r0]; exact k5 a b hab hb, fun a ha => ?_⟩
    · show fup (fup (fup (S.1 5).2 i 4 (1 : Int32)) i 5 (nI (t + d))) i 6 (nI d) a j = _ ∧ pwt M.1 i (t + d) d (189 + 8 * a + j) = _
      by_cases ea : a = i
      · subst ea
        by_cases e4 : j = 4
        · subst e4
          rw [fup_c (by decide), fup_c (by decide), fup_s rfl rfl, r4]
          unfold pwt
          rw [up_n (by omega), up_n (by omega), up_n (by omega), up_s rfl]
          exact ⟨rfl, rfl⟩
        · by_cases e5 : j = 5
          · subst e5
            rw [fup_c (by decide), fup_s rfl rfl, r5]
            unfold pwt
            rw [up_n (by omega), up_n (by omega), up_s rfl]
            exact ⟨rfl, rfl⟩
          · by_cases e6 : j = 6
            · subst e6
              rw [fup_s rfl rfl, r6]
              unfold pwt
              rw [up_n (by omega), up_s rfl]
              exact ⟨rfl, rfl⟩
            · rw [fup_c e6, fup_c e5, fup_c e4, ri j (by omega), pwt_out (by omega)]
              exact k4 a j ha hj
      · rw [fup_r ea, fup_r ea, fup_r ea, ro a j ea, pwt_out (by omega)]
        exact k4 a j ha hj
    · obtain ⟨a1, a2, a3, a4, a5, a6, a7, a8, a9, a10⟩ := k6 a ha
      by_cases ea : a = i
      · subst ea
        rw [ri 0 (by omega), ri 1 (by omega), ri 2 (by omega), ri 3 (by omega), r4, r5, r6]
        exact ⟨a1, a2, a3, a4, by omega, by omega, d2, fun _ => ⟨h5, by omega, hd⟩, fun _ => h1, fun q => absurd q (by omega)⟩
      · rw [ro a 0 ea, ro a 1 ea, ro a 2 ea, ro a 3 ea, ro a 4 ea, ro a 5 ea, ro a 6 ea]
        have hne : r a 0 ≠ r i 0 := fun e => ea (hn a ha e)
        exact ⟨a1, a2, a3, a4, a5, a6, a7, a8, fun z => a9 (fun z2 => z ⟨z2, hne⟩), fun z z2 => a10 z (fun z3 => z2 ⟨z3, hne⟩)⟩
  · refine ⟨fun a ha h0 hne => ?_, fun a ha hu => ?_⟩
    · by_cases ea : a = i
      · subst ea
        rw [r4] at h0
        exact absurd h0 (by decide)
      · rw [ro a 4 ea] at h0
        rw [r0] at hne ⊢
        have hne2 : r a 0 ≠ r i 0 := fun e => ea (hn a ha e)
        rw [ro a 7 ea, ro a 5 ea]
        obtain ⟨b1, b2, b3, b4, b5⟩ := hL.1 a ha h0 (fun z => hne ⟨z, hne2⟩)
        exact ⟨b1, b2, b3, (pwt_out (by omega)).trans b4, b5⟩
    · obtain ⟨c1, c2⟩ := hL.2 a ha hu
      refine ⟨c1, c2.imp id ?_⟩
      rintro ⟨k, z1, z2, z3, z4, z5⟩
      have hne : k ≠ i := fun q => z5 (by rw [q]; exact hE)
      exact ⟨k, z1, by rw [r0]; exact z2, by rw [ro k 4 hne]; exact z3, by rw [ro k 7 hne]; exact z4, fun z => z5 (by rw [r0] at z; exact z.1)⟩
  · rw [ss_n (by omega)]; exact hT.1
  · intro i hi
    rw [ss_n (by omega)]
  · intro i hi
    rw [ss_n (by omega)]
theorem gR.find {T : Tb} {p : Pg} (hS : S.1 5 = T) (h : gR T p nr r t N lo wl E) (hN : N < 2 ^ 31) {i : Nat} (hi : i < nr) : sfind 5 S (0 : Int32) (nI (r i 0)) = nI i := by
  have hn : ∀ k, k < nr → r k 0 = r i 0 → k = i := fun k hk e => h.ne hk hi e
  obtain ⟨k1, k2, k3, k4, k5, k6⟩ := h
  show tfind 7 16 (S.1 5) (nI 0) _ = _
  rw [hS]
  refine tf_some (by omega) (by omega) (by omega) (by omega) (by omega) (k4 i 0 hi (by omega)).1 (fun k hk => ?_)
  rw [(k4 k 0 (by omega) (by omega)).1]
  intro e
  have a1 := (k6 k (by omega)).1
  have a2 := (k6 i hi).1
  have := hn k (by omega) ((nI_eq (by omega) (by omega)).mp e)
  omega
theorem gR.find_none {T : Tb} {p : Pg} (hS : S.1 5 = T) (h : gR T p nr r t N lo wl E) {x : Int32} (hx : ∀ i, i < nr → nI (r i 0) ≠ x) : sfind 5 S (0 : Int32) x = -9 := by
  obtain ⟨k1, k2, k3, k4, k5, k6⟩ := h
  show tfind 7 16 (S.1 5) (nI 0) _ = _
  rw [hS]
  refine tf_none (by omega) (by omega) (by omega) (by omega) (fun k hk => ?_)
  rw [(k4 k 0 (by omega) (by omega)).1]
  exact hx k (by omega)
theorem gR.place {T : Tb} (h : gR T M.1 nr r t N lo wl E) (hN : N < 2 ^ 31) {i : Nat} (hi : i < nr) : fX6_placeOf (nI (r i 0)) M = some (nI i) := by
  have hn : ∀ k, k < nr → r k 0 = r i 0 → k = i := fun k hk e => h.ne hk hi e
  obtain ⟨k1, k2, k3, k4, k5, k6⟩ := h
  rw [place_eq k2 k3]
  refine congrArg some (ff_some (m := i) ?_ _ _ (by omega) (by omega) (fun k _ hk => ?_))
  · exact decide_eq_true (k4 i 0 hi (by omega)).2
  · refine decide_eq_false ?_
    rw [show 189 + 8 * k = 189 + 8 * k + 0 from rfl, (k4 k 0 (by omega) (by omega)).2]
    intro e
    have a1 := (k6 k (by omega)).1
    have a2 := (k6 i hi).1
    have := hn k (by omega) ((nI_eq (by omega) (by omega)).mp e)
    omega
theorem gR.place_none {T : Tb} (h : gR T M.1 nr r t N lo wl E) {x : Int32} (hx : ∀ i, i < nr → nI (r i 0) ≠ x) : fX6_placeOf x M = some (-9) := by
  obtain ⟨k1, k2, k3, k4, k5, k6⟩ := h
  rw [place_eq k2 k3]
  refine congrArg some (ff_none _ _ (fun k _ hk => decide_eq_false ?_))
  rw [show 189 + 8 * k = 189 + 8 * k + 0 from rfl, (k4 k 0 (by omega) (by omega)).2]
  exact hx k (by omega)
theorem gR.get {T : Tb} {p : Pg} (hS : S.1 5 = T) (h : gR T p nr r t N lo wl E) {i j : Nat} (hi : i < nr) (hj : j < 7) : sget 5 S (nI i) (nI j) = nI (r i j) := by
  obtain ⟨k1, k2, k3, k4, k5, k6⟩ := h
  show tget 7 16 (S.1 5) (nI i) (nI j) = _
  rw [hS, tg (by omega) (by omega) hj (by omega) (by omega)]
  exact (k4 i j hi hj).1
theorem gC.get {T : Tb} {p : Pg} (hS : S.1 0 = T) (h : gC T p cl) {i j : Nat} (hi : i < 6) (hj : j < 12) : sget 0 S (nI i) (nI j) = nI (cl i j) := by
  show tget 12 6 (S.1 0) (nI i) (nI j) = _
  rw [hS, tg (by rw [h.1]; exact hi) hi hj (by omega) (by omega)]
  exact (h.2 i j hi hj).1
end FL
