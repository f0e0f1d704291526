/-! what the law sees of an object, by its current state alone -/
section VA
variable {X : RS} {S : StS}
theorem told_0 : fX5_told (0 : Int32) X = some ((X.2.1 0).2 12) := by
  unfold fX5_told
  rw [if_pos rfl]
theorem told_1 : fX5_told (1 : Int32) X = some (ssize 5 (X.2.1 0)) := by
  unfold fX5_told
  rw [if_neg (by decide), if_pos rfl]
theorem told_2 : fX5_told (2 : Int32) X = some (srows 5 (X.2.1 0) (4 : Int32) (1 : Int32)) := by
  unfold fX5_told
  rw [if_neg (by decide), if_neg (by decide), if_pos rfl]
theorem told_3 : fX5_told (3 : Int32) X = some (ssize 6 (X.2.1 0)) := by
  unfold fX5_told
  rw [if_neg (by decide), if_neg (by decide), if_neg (by decide), if_pos rfl]
theorem told_4 : fX5_told (4 : Int32) X = some (ssize 8 (X.2.1 0)) := by
  unfold fX5_told
  rw [if_neg (by decide), if_neg (by decide), if_neg (by decide), if_neg (by decide), if_pos rfl]
theorem told_5 : fX5_told (5 : Int32) X = some ((4 : Int32) - (srows 7 (X.2.1 0) (0 : Int32) (-9 : Int32))) := by
  unfold fX5_told
  rw [if_neg (by decide), if_neg (by decide), if_neg (by decide), if_neg (by decide), if_neg (by decide), if_pos rfl]
theorem told_6 : fX5_told (6 : Int32) X = some ((4 : Int32) - (srows 9 (X.2.1 0) (0 : Int32) (-9 : Int32))) := by
  unfold fX5_told
  rw [if_neg (by decide), if_neg (by decide), if_neg (by decide), if_neg (by decide), if_neg (by decide), if_neg (by decide), if_pos rfl]
theorem told_7 : fX5_told (7 : Int32) X = some ((X.2.1 0).2 15) := by
  unfold fX5_told
  rw [if_neg (by decide), if_neg (by decide), if_neg (by decide), if_neg (by decide), if_neg (by decide), if_neg (by decide), if_neg (by decide), if_pos rfl]
theorem told_8 : fX5_told (8 : Int32) X = some ((X.2.1 0).2 16) := by
  unfold fX5_told
  rw [if_neg (by decide), if_neg (by decide), if_neg (by decide), if_neg (by decide), if_neg (by decide), if_neg (by decide), if_neg (by decide), if_neg (by decide), if_pos rfl]
theorem told_10 : fX5_told (10 : Int32) X = some ((X.2.1 0).2 17) := by
  unfold fX5_told
  rw [if_neg (by decide), if_neg (by decide), if_neg (by decide), if_neg (by decide), if_neg (by decide), if_neg (by decide), if_neg (by decide), if_neg (by decide), if_neg (by decide), if_neg (by decide), if_pos rfl]
theorem told_11 : fX5_told (11 : Int32) X = some ((X.2.1 0).2 11) := by
  unfold fX5_told
  rw [if_neg (by decide), if_neg (by decide), if_neg (by decide), if_neg (by decide), if_neg (by decide), if_neg (by decide), if_neg (by decide), if_neg (by decide), if_neg (by decide), if_neg (by decide), if_neg (by decide), if_pos rfl]
theorem pend_go (h : (S.1 7).1 = 4) : ∀ (k w m : Nat), w + k = 4 → k < m → iter (bfX2_pendingWork_4 S) m (sumF (ctr (S.1 7)) w, nI w) = some (pnd (S.1 7)) := by
  intro k
  induction k with
  | zero =>
    intro w m hw hm
    obtain ⟨m, rfl⟩ : ∃ k, m = k + 1 := ⟨m - 1, by omega⟩
    obtain rfl : w = 4 := by omega
    rw [it_s, bfX2_pendingWork_4, if_pos (by decide)]
    rfl
  | succ k ih =>
    intro w m hw hm
    obtain ⟨m, rfl⟩ : ∃ k, m = k + 1 := ⟨m - 1, by omega⟩
    have hi := ih (w + 1) m (by omega) (by omega)
    rw [it_s, bfX2_pendingWork_4, if_neg (fun z => by have := (len_4 (by omega)).mp z; omega), show sget 7 S (nI w) (0 : Int32) = (S.1 7).2 w 0 from sg7 h (by omega) (c := 0) (by omega), show sget 7 S (nI w) (4 : Int32) = (S.1 7).2 w 4 from sg7 h (by omega) (c := 4) (by omega)]
    unfold bfX2_pendingWork_37
    rw [nm, nm, nA_1]
    refine Eq.trans ?_ hi
    rw [show sumF (ctr (S.1 7)) (w + 1) = sumF (ctr (S.1 7)) w + ctr (S.1 7) w from rfl]
    by_cases e : (S.1 7).2 w 0 = -9
    · rw [if_pos e, ctr_z e]
    · rw [if_neg e, ctr_n e]
theorem told_9 (h : ((X.2.1 0).1 7).1 = 4) : fX5_told (9 : Int32) X = some (pnd ((X.2.1 0).1 7)) := by
  unfold fX5_told
  rw [if_neg (by decide), if_neg (by decide), if_neg (by decide), if_neg (by decide), if_neg (by decide), if_neg (by decide), if_neg (by decide), if_neg (by decide), if_neg (by decide), if_pos rfl]
  rw [show fX2_pendingWork (X.2.1 0) = some (pnd ((X.2.1 0).1 7)) from pend_go h 4 0 FU (by omega) (by unfold FU; omega), ob_eq]
theorem cnt_X (h : ((X.2.1 0).1 1).1 = 6) {c w : Nat} (hc : c < 6) (hw : w < 8) : fX5_count (nI c) (nI w) X = some (((X.2.1 0).1 1).2 c w) := by
  unfold fX5_count bfX5_count_33
  rw [(isC c hc).1, ob_eq, if_neg (by decide), if_neg (nI_pos (by omega)), if_neg (show ¬ (7 : Int32) < nI w from nI_nlt (a := 7) (by omega) (by omega)), sget_tal h hc (by omega)]
theorem suc_X (h : ((X.2.1 0).1 1).1 = 6) {c w : Nat} (hc : c < 6) (hw : w < 6) : fX5_succeededAt (nI c) (nI (w + 1)) X = some (((X.2.1 0).1 1).2 c (8 + w)) := by
  unfold fX5_succeededAt
  rw [(isC c hc).1, ob_eq, if_neg (by decide), if_neg (show ¬ nI (w + 1) < (1 : Int32) from nI_nlt (b := 1) (by omega) (by omega)), mostA, if_pos (show nI (w + 1) ≤ (6 : Int32) from nI_le (b := 6) (by omega) (by omega)), nB_7, show 7 + (w + 1) = 8 + w by omega, sget_tal h hc (by omega)]
theorem prop_X {c w : Nat} (hc : c < 6) (hw : w < 12) : fX5_property (nI c) (nI w) X = some (sget 0 (X.2.1 0) (nI c) (nI w)) := by
  unfold fX5_property bfX5_property_33
  rw [(isC c hc).1, ob_eq, if_neg (by decide), if_neg (nI_pos (by omega)), if_neg (show ¬ (12 : Int32) ≤ nI w from nI_ge (b := 12) hw (by omega))]
end VA
/-- how many of four are taken -/
def oc (tk : N1) : Nat := sN (fun i => if tk i = 0 then 0 else 1) 4
theorem sN_cap {f : Nat → Nat} {m : Nat} : ∀ n, (∀ i, i < n → f i ≤ 1) → (∀ i, i < n → m ≤ i → f i = 0) → sN f n ≤ m ∧ sN f n ≤ n
  | 0, _, _ => ⟨Nat.zero_le _, Nat.le_refl _⟩
  | n + 1, h1, h2 => by
    obtain ⟨a, b⟩ := sN_cap (f := f) (m := m) n (fun i hi => h1 i (by omega)) (fun i hi => h2 i (by omega))
    show sN f n + f n ≤ m ∧ sN f n + f n ≤ n + 1
    have c := h1 n (by omega)
    by_cases e : m ≤ n
    · have := h2 n (by omega) e
      omega
    · omega
theorem sN_mono {f g : Nat → Nat} : ∀ n, (∀ i, i < n → f i ≤ g i) → sN f n ≤ sN g n
  | 0, _ => Nat.le_refl _
  | n + 1, h => by
    show sN f n + f n ≤ sN g n + g n
    have := sN_mono n (fun i hi => h i (by omega))
    have := h n (by omega)
    omega
theorem oc_F (tk : N1) : sumF (fun i => if tk i = 0 then (0 : Int32) else 1) 4 = nI (oc tk) := by
  unfold oc
  rw [← sumF_nI 4]
  refine sumF_cg 4 (fun i _ => ?_)
  by_cases e : tk i = 0
  · rw [if_pos e, if_pos e]; rfl
  · rw [if_neg e, if_neg e]; rfl
section WA
variable {F : Fx} {t K lo wl : Nat} {cl sg : N2} {sv sw : N1} {nr : Nat} {r : N2} {N nq nb : Nat} {qs ws fb gb : N1} {at_ : N2} {ow : N1} {X : RS} {M M0 : MS} {Zf Zb : Nat → Prop}
theorem told_5w (h : RG F (fun _ => False) Zf Zb t K lo wl cl sg sv sw nr r N nq nb qs ws fb gb at_ ow (X.2.1 0) M0) (hN : N < 2 ^ 30) : fX5_told (5 : Int32) X = some (nI (oc ws)) := by
  obtain ⟨hA, hQ, hF, hB, hG, hU⟩ := h.2.2.2.2.1
  rw [told_5, srows_free (w := 6) (tk := ws) rfl rfl rfl (by omega) (by omega) hF.1 (fun i hi => ⟨(hF.2 i hi).2.1, fun e => ?_⟩), busy4, oc_F]
  obtain ⟨a, ea⟩ : ∃ a, ws i = a + 1 := ⟨ws i - 1, by omega⟩
  obtain ⟨d1, d2, d3, ⟨d4, -⟩, -⟩ := (hF.2 i hi).2.2 a ea
  rw [d4]
  exact owI_9 (by have := (h.owner d1 d2).1; omega)
theorem told_6w (h : RG F (fun _ => False) Zf Zb t K lo wl cl sg sv sw nr r N nq nb qs ws fb gb at_ ow (X.2.1 0) M0) : fX5_told (6 : Int32) X = some (nI (oc gb)) := by
  obtain ⟨hA, hQ, hF, hB, hG, hU⟩ := h.2.2.2.2.1
  rw [told_6, srows_free (w := 1) (tk := gb) rfl rfl rfl (by omega) (by omega) hG.1 (fun i hi => ⟨fun e => ?_, fun e => ?_⟩), busy4, oc_F]
  · rw [(hG.2.1 i hi).1, e]
    rfl
  · obtain ⟨f', ef⟩ : ∃ f, gb i = f + 1 := ⟨gb i - 1, by omega⟩
    have f4 := ((hG.2.1 i hi).2.2 f' ef).1
    rw [(hG.2.1 i hi).1, ef]
    exact nI_neg (a := f') (by omega) (by decide)
/-- no more back workers than front workers are taken -/
theorem oc_le (h : RG F (fun _ => False) Zf Zb t K lo wl cl sg sv sw nr r N nq nb qs ws fb gb at_ ow (X.2.1 0) M0) : oc gb ≤ oc ws := by
  obtain ⟨hA, hQ, hF, hB, ⟨g1, g2, g3, g4⟩, hU⟩ := h.2.2.2.2.1
  have e1 : oc gb = sN (fun w => sN (fun f => if gb w = f + 1 then 1 else 0) 4) 4 := by
    refine sN_cg 4 (fun w hw => ?_)
    by_cases e : gb w = 0
    · rw [if_pos e, sN_zero 4 (fun f _ => if_neg (by omega))]
    · obtain ⟨f, ef⟩ : ∃ f, gb w = f + 1 := ⟨gb w - 1, by omega⟩
      have f4 := ((g2 w hw).2.2 f ef).1
      rw [if_neg e, sN_one (j := f) 4 f4 (fun f' _ hne => if_neg (by omega)), if_pos ef]
  rw [e1, sN_swap]
  refine sN_mono 4 (fun f hf => ?_)
  by_cases e : ∃ w, w < 4 ∧ gb w = f + 1
  · obtain ⟨w, w4, ew⟩ := e
    obtain ⟨f4, a, b1, -⟩ := (g2 w w4).2.2 f ew
    rw [sN_one (j := w) 4 w4 (fun u hu hne => if_neg (fun z => hne (g3 u w hu w4 (by omega) (by rw [z, ew])))), if_pos ew, if_neg (by omega)]
    exact Nat.le_refl _
  · rw [sN_zero 4 (fun w hw => if_neg (fun z => e ⟨w, hw, z⟩))]
    exact Nat.zero_le _
theorem oc_sv {sv' : N1} (h : RG F (fun _ => False) Zf Zb t K lo wl cl sg sv sw nr r N nq nb qs ws fb gb at_ ow (X.2.1 0) M0) (hN : N < 2 ^ 30) (h7 : ∀ w, w < 4 → sv' 0 ≤ w → ((X.2.1 0).1 7).2 w 0 = -9) (h9 : ∀ w, w < 4 → sv' 2 ≤ w → ((X.2.1 0).1 9).2 w 0 = -9) : oc ws ≤ sv' 0 ∧ oc gb ≤ sv' 2 ∧ oc ws ≤ 4 ∧ oc gb ≤ 4 := by
  obtain ⟨hA, hQ, hF, hB, hG, hU⟩ := h.2.2.2.2.1
  have le1 : ∀ (tk : N1) (i : Nat), (if tk i = 0 then 0 else 1) ≤ 1 := fun tk i => by
    by_cases e : tk i = 0
    · rw [if_pos e]; exact Nat.zero_le _
    · rw [if_neg e]; exact Nat.le_refl _
  have a1 := sN_cap (f := fun i => if ws i = 0 then 0 else 1) (m := sv' 0) 4 (fun i _ => le1 ws i) (fun i hi hs => if_pos (by
    apply Classical.byContradiction
    intro z
    obtain ⟨a, ea⟩ : ∃ a, ws i = a + 1 := ⟨ws i - 1, by omega⟩
    obtain ⟨d1, d2, d3, ⟨d4, -⟩, -⟩ := (hF.2 i hi).2.2 a ea
    exact owI_9 (o := ow a) (by have := (h.owner d1 d2).1; omega) (d4.symm.trans (h7 i hi hs))))
  have a2 := sN_cap (f := fun i => if gb i = 0 then 0 else 1) (m := sv' 2) 4 (fun i _ => le1 gb i) (fun i hi hs => if_pos (by
    apply Classical.byContradiction
    intro z
    obtain ⟨f', ef⟩ : ∃ f, gb i = f + 1 := ⟨gb i - 1, by omega⟩
    have f4 := ((hG.2.1 i hi).2.2 f' ef).1
    have := (hG.2.1 i hi).1.symm.trans (h9 i hi hs)
    rw [ef] at this
    exact nI_neg (a := f') (by omega) (by decide) this))
  exact ⟨a1.1, a2.1, a1.2, a2.2⟩
end WA
