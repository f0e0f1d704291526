/-! a request is sent: what comes ahead of the queue -/
def rsd (r : N2) (i v : Nat) : N2 := fun a c => if a = i then (if c = 3 then r i 3 + 1 else if c = 4 then 0 else if c = 5 then v else r i c) else r a c
def psd (p : Pg) (i m v : Nat) : Pg := upd (upd (upd (upd p (189 + 8 * i + 3) (nI m)) (189 + 8 * i + 4) (0 : Int32)) (189 + 8 * i + 5) (nI v)) (189 + 8 * i + 7) (-9 : Int32)
theorem psd_out {p : Pg} {i m v x : Nat} (h : x < 189 + 8 * i + 3 ∨ x = 189 + 8 * i + 6 ∨ 189 + 8 * i + 8 ≤ x) : psd p i m v x = p x := by
  unfold psd
  rw [up_n (by omega), up_n (by omega), up_n (by omega), up_n (by omega)]
theorem sumF_up {f : Nat → Int32} {c : Nat} {v : Int32} : ∀ n, c < n → sumF (fun i => if i = c then f i + v else f i) n = sumF f n + v
  | 0, h => absurd h (by omega)
  | n + 1, h => by
    show sumF _ n + (if n = c then f n + v else f n) = sumF f n + f n + v
    by_cases e : n = c
    · rw [if_pos e, sumF_cg n (g := f) (fun i hi => if_neg (by omega)), Int32.add_assoc]
    · rw [if_neg e, sumF_up n (by omega), Int32.add_assoc, Int32.add_comm v, Int32.add_assoc]
section SL
variable {F : Fx} {E Zf Zb : Nat → Prop} {t K lo wl : Nat} {cl sg : N2} {sv sw : N1} {nr : Nat} {r : N2} {N nq nb : Nat} {qs ws fb gb : N1} {at_ : N2} {ow : N1} {S : StS} {M : MS}
/-- the sums of a column of the tallies, when one cell of it grows -/
theorem ssum_up (hT : (S.1 1).1 = 6) {c y : Nat} {v : Int32} (hc : c < 6) (hy : y < 14) : ssum 1 (sset S 1 ((S.1 1).1, fup (S.1 1).2 c y ((S.1 1).2 c y + v))) (nI y) = ssum 1 S (nI y) + v := by
  rw [ssum_eq (by rw [ss_s]; exact hT) hy, ssum_eq hT hy, ← sumF_up (c := c) 6 hc, ss_s]
  refine sumF_cg 6 (fun i hi => ?_)
  by_cases e : i = c
  · rw [if_pos e]
    subst e
    exact fup_s rfl rfl
  · rw [if_neg e]
    exact fup_r e
theorem ssum_other (hT : (S.1 1).1 = 6) {c y y2 : Nat} {v : Int32} (hy : y2 < 14) (hne : y2 ≠ y) : ssum 1 (sset S 1 ((S.1 1).1, fup (S.1 1).2 c y v)) (nI y2) = ssum 1 S (nI y2) := by
  rw [ssum_eq (by rw [ss_s]; exact hT) hy, ssum_eq hT hy, ss_s]
  exact sumF_cg 6 (fun i hi => fup_c hne)
/-- a request that waits is taken out of the account for a moment -/
theorem RG.exw (h : RG F E Zf Zb t K lo wl cl sg sv sw nr r N nq nb qs ws fb gb at_ ow S M) {i : Nat} (hi : i < nr) (hw : r i 4 = 1) : RG F (fun x => E x ∨ x = r i 0) Zf Zb t K lo wl cl sg sv sw nr r N nq nb qs ws fb gb at_ ow S M := by
  obtain ⟨hX, hT, hD, hR, hY, hL, hN⟩ := h
  refine ⟨hX, hT, hD, hR.ex (fun k hk hne he => hne (Or.inl he)), hY, ?_, hN⟩
  refine ⟨fun k hk h0 hne => hL.1 k hk h0 (fun he => hne (Or.inl he)), fun a ha hu => ?_⟩
  obtain ⟨c1, c2⟩ := hL.2 a ha hu
  refine ⟨c1, c2.imp id ?_⟩
  rintro ⟨k, z1, z2, z3, z4, z5⟩
  refine ⟨k, z1, z2, z3, z4, ?_⟩
  rintro (he | he)
  · exact z5 he
  · have := hR.ne z1 hi he
    rw [this] at z3
    omega
theorem sadd_req {T : Tb} (hT : S.1 5 = T) {i j : Nat} {z : Int32} (h1 : i < T.1) (h2 : i < 16) (hj : j < 7) : sadd 5 S (nI i) (nI j) z = sset S 5 (T.1, fup T.2 i j (T.2 i j + z)) := by
  show sset S 5 (tadd 7 16 (S.1 5) (nI i) (nI j) z) = _
  rw [hT, ta h1 h2 hj (by omega) (by omega)]
/-- one more is sent, by the count -/
theorem RG.sentC (h : RG F E Zf Zb t K lo wl cl sg sv sw nr r N nq nb qs ws fb gb at_ ow S M) {c : Nat} (hc : c < 6) : RG F E Zf Zb t (K + 1) lo wl cl sg sv sw nr r N nq nb qs ws fb gb at_ ow (sadd 1 S (nI c) (1 : Int32) (1 : Int32)) (upd M.1 (90 + 8 * c + 1) (M.1 (90 + 8 * c + 1) + 1), M.2.1, upd M.2.2 7 (M.2.2 7 + 1)) := by
  have q := h.nqb
  obtain ⟨hX, hT, hD, hR, hY, hL, hN⟩ := h
  have hp : ∀ x, x ≠ 90 + 8 * c + 1 → upd M.1 (90 + 8 * c + 1) (M.1 (90 + 8 * c + 1) + 1) x = M.1 x := fun x hx => up_n hx
  have hq : ∀ x, x ≠ 7 → upd M.2.2 7 (M.2.2 7 + 1) x = M.2.2 x := fun x hx => up_n hx
  have e : sadd 1 S (nI c) (1 : Int32) (1 : Int32) = sset S 1 ((S.1 1).1, fup (S.1 1).2 c 1 ((S.1 1).2 c 1 + 1)) := sadd_tal hT.1 hc (y := 1) (by omega)
  have ev : (S.1 1).2 c 1 = M.1 (90 + 8 * c + 1) := (hT.2 c hc).1 1 (by omega)
  obtain ⟨x0, x1, v1, v2, v3, v4⟩ := (hT.2 c hc).2.2
  rw [e]
  refine ⟨hX.cg (Nat.le_refl _) q.1 q.2.1 (fun k hk => ss_n (by omega)) (fun x hx => hp x (by omega)), ?_, hD.cg (by omega) (fun _ _ _ => rfl) (fun x hx => hp x (by omega)), ?_, hY.cg (fun k h1 h2 => ss_n (by omega)) (fun x _ _ => hp x (by omega)), hL.cg q.2.2 (fun x _ _ => hp x (by omega)), ?_⟩
  · rw [ss_s]
    show gT _ (upd M.1 (90 + 8 * c + 1) (M.1 (90 + 8 * c + 1) + 1)) _
    rw [← ev]
    exact hT.up hc (by omega) (by omega) (fun _ => ⟨x1 + 1, by rw [v2, nI_1], by omega⟩)
  · rw [ss_n (by omega)]
    exact hR.cg (Nat.le_refl _) (Nat.le_refl _) (Nat.le_refl _) (fun x _ _ => hp x (by omega))
  · obtain ⟨n1, n2, n3, n4, n5, n6⟩ := hN
    refine ⟨(hq 5 (by omega)).trans n1, ?_, ?_, ?_, (hq 1 (by omega)).trans n5, fun x hx => (hp x (by omega)).trans (n6 x hx)⟩
    · rw [show (2 : Int32) = nI 2 from rfl, ssum_other hT.1 (by omega) (by omega)]
      show ssum 1 S (nI 2) = F.2.1.1 + upd M.2.2 7 (M.2.2 7 + 1) 6
      rw [hq 6 (by omega)]
      exact n2
    · rw [show ssum 1 _ (1 : Int32) = ssum 1 _ (nI 1) from rfl, ssum_up hT.1 hc (by omega)]
      show ssum 1 S (nI 1) + 1 = F.2.1.2.1 + upd M.2.2 7 (M.2.2 7 + 1) 7
      rw [up_s rfl, ← Int32.add_assoc]
      exact congrArg (· + 1) n3
    · show S.2 16 = F.2.1.2.2.1 + upd M.2.2 7 (M.2.2 7 + 1) 8
      rw [hq 8 (by omega)]
      exact n4
/-- its row, when it is sent -/
theorem RG.sentR (h : RG F E Zf Zb t K lo wl cl sg sv sw nr r N nq nb qs ws fb gb at_ ow S M) {i v : Nat} (hi : i < nr) (hE : E (r i 0)) (h3 : r i 3 ≤ 5) (hv : v ≤ t + 64) : RG F E Zf Zb t K lo wl cl sg sv sw nr (rsd r i v) N nq nb qs ws fb gb at_ ow (sput 5 (sput 5 (sadd 5 S (nI i) (3 : Int32) (1 : Int32)) (nI i) (4 : Int32) (0 : Int32)) (nI i) (5 : Int32) (nI v)) (psd M.1 i (r i 3 + 1) v, M.2) := by
  have q := h.nqb
  obtain ⟨hX, hT, hD, hR, hY, hL, hN⟩ := h
  have hne := fun k (hk : k < nr) (e : r k 0 = r i 0) => hR.ne hk hi e
  obtain ⟨k1, k2, k3, k4, k5, k6⟩ := hR
  have v3 := (k4 i 3 hi (by omega)).1
  have e : sput 5 (sput 5 (sadd 5 S (nI i) (3 : Int32) (1 : Int32)) (nI i) (4 : Int32) (0 : Int32)) (nI i) (5 : Int32) (nI v) = sset S 5 ((S.1 5).1, fup (fup (fup (S.1 5).2 i 3 (nI (r i 3 + 1))) i 4 (0 : Int32)) i 5 (nI v)) := by
    rw [show (3 : Int32) = nI 3 from rfl, show (4 : Int32) = nI 4 from rfl, show (5 : Int32) = nI 5 from rfl]
    rw [sadd_req (S := S) (T := S.1 5) rfl (by omega) (by omega) (by omega), v3, nI_1, sput_req ss_s (by show i < (S.1 5).1; omega) (by omega) (by omega), sput_req ss_s (by show i < (S.1 5).1; omega) (by omega) (by omega), sset2, sset2]
  have hp : ∀ x, x < 189 ∨ 317 ≤ x → psd M.1 i (r i 3 + 1) v x = M.1 x := fun x hx => psd_out (by omega)
  have ro : ∀ a c, a ≠ i → rsd r i v a c = r a c := fun a c e => if_neg e
  have ri : ∀ c, c ≠ 3 → c ≠ 4 → c ≠ 5 → rsd r i v i c = r i c := fun c h1 h2 h3 => by
    unfold rsd
    rw [if_pos rfl, if_neg h1, if_neg h2, if_neg h3]
  have r3 : rsd r i v i 3 = r i 3 + 1 := by unfold rsd; rw [if_pos rfl, if_pos rfl]
  have r4 : rsd r i v i 4 = 0 := by unfold rsd; rw [if_pos rfl, if_neg (by decide), if_pos rfl]
  have r5 : rsd r i v i 5 = v := by unfold rsd; rw [if_pos rfl, if_neg (by decide), if_neg (by decide), if_pos rfl]
  have r0 : ∀ a, rsd r i v a 0 = r a 0 := fun a => by
    by_cases e : a = i
    · rw [e, ri 0 (by decide) (by decide) (by decide)]
    · exact ro a 0 e
  rw [e]
  refine ⟨hX.cg (Nat.le_refl _) q.1 q.2.1 (fun k hk => ss_n (by omega)) (fun x hx => hp x (by omega)), ?_, hD.cg (Nat.le_refl _) (fun _ _ _ => rfl) (fun x hx => hp x (by omega)), ?_, hY.cg (fun k h1 h2 => ss_n (by omega)) (fun x _ _ => hp x (by omega)), ?_, hN.cg hT.1 ?_ ?_ ?_ rfl rfl (fun x hx => hp x (by omega))⟩
  · rw [ss_n (by omega)]
    exact hT.cg (Nat.le_refl _) (fun x _ _ => hp x (by omega))
  · rw [ss_s]
    refine ⟨k1, k2, (hp 188 (by omega)).trans k3, fun a j ha hj => ?_, fun a b hab hb => by rw [r0, r0]; exact k5 a b hab hb, fun a ha => ?_⟩
    · show fup (fup (fup (S.1 5).2 i 3 (nI (r i 3 + 1))) i 4 (0 : Int32)) i 5 (nI v) a j = _ ∧ psd M.1 i (r i 3 + 1) v (189 + 8 * a + j) = _
      by_cases ea : a = i
      · subst ea
        by_cases e3 : j = 3
        · subst e3
          rw [fup_c (by decide), fup_c (by decide), fup_s rfl rfl, r3]
          unfold psd
          rw [up_n (by omega), up_n (by omega), up_n (by omega), up_s rfl]
          exact ⟨rfl, rfl⟩
        · by_cases e4 : j = 4
          · subst e4
            rw [fup_c (by decide), fup_s rfl rfl, r4]
            unfold psd
            rw [up_n (by omega), up_n (by omega), up_s rfl]
            exact ⟨rfl, rfl⟩
          · by_cases e5 : j = 5
            · subst e5
              rw [fup_s rfl rfl, r5]
              unfold psd
              rw [up_n (by omega), up_s rfl]
              exact ⟨rfl, rfl⟩
            · rw [fup_c e5, fup_c e4, fup_c e3, ri j e3 e4 e5, psd_out (by omega)]
              exact k4 a j ha hj
      · rw [fup_r ea, fup_r ea, fup_r ea, ro a j ea, psd_out (by omega)]
        exact k4 a j ha hj
    · obtain ⟨a1, a2, a3, a4, a5, a6, a7, a8, a9, a10⟩ := k6 a ha
      by_cases ea : a = i
      · subst ea
        rw [ri 0 (by decide) (by decide) (by decide), ri 1 (by decide) (by decide) (by decide), ri 2 (by decide) (by decide) (by decide), r3, r4, r5, ri 6 (by decide) (by decide) (by decide)]
        exact ⟨a1, a2, a3, by omega, by omega, hv, a7, fun z => absurd z (by decide), fun z => by omega, fun _ z => absurd hE z⟩
      · rw [ro a 0 ea, ro a 1 ea, ro a 2 ea, ro a 3 ea, ro a 4 ea, ro a 5 ea, ro a 6 ea]
        exact ⟨a1, a2, a3, a4, a5, a6, a7, a8, a9, a10⟩
  · refine ⟨fun a ha h0 hn2 => ?_, fun a ha hu => ?_⟩
    · rw [r0] at hn2 ⊢
      have ea : a ≠ i := fun e => hn2 (by rw [e]; exact hE)
      rw [ro a 4 ea] at h0
      rw [ro a 7 ea, ro a 5 ea]
      obtain ⟨b1, b2, b3, b4, b5⟩ := hL.1 a ha h0 hn2
      exact ⟨b1, b2, b3, (psd_out (by omega)).trans b4, b5⟩
    · obtain ⟨c1, c2⟩ := hL.2 a ha hu
      refine ⟨c1, c2.imp id ?_⟩
      rintro ⟨k, z1, z2, z3, z4, z5⟩
      have ea : k ≠ i := fun e => z5 (by rw [e]; exact hE)
      exact ⟨k, z1, by rw [r0]; exact z2, by rw [ro k 4 ea]; exact z3, by rw [ro k 7 ea]; exact z4, by rw [r0]; exact z5⟩
  · rw [ss_n (by omega)]; exact hT.1
  · intro i hi
    rw [ss_n (by omega)]
  · intro i hi
    rw [ss_n (by omega)]
end SL
