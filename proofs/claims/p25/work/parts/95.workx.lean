/-! step 4: the class's work -/
def wU (T : Nat → Nat → Int32) (ws : N1) (at_ : N2) : Nat → Nat → Int32 := fun i j => if ws i = 0 then T i j else if at_ (ws i - 1) 7 = 2 then (if j = 2 then T i j + (-1) else if j = 4 then T i j + 1 else T i j) else if at_ (ws i - 1) 7 = 4 then (if j = 3 then T i j + (-1) else if j = 4 then T i j + 1 else T i j) else T i j
section WX
variable {F : Fx} {E Zf Zb : Nat → Prop} {t K lo wl : Nat} {cl sg : N2} {sv sw : N1} {nr : Nat} {r : N2} {N nq nb : Nat} {qs ws fb gb : N1} {at_ : N2} {ow : N1} {S S' : StS} {M M' : MS}
theorem sa7 (h : (S.1 7).1 = 4) {w c : Nat} {z : Int32} (hw : w < 4) (hc : c < 6) : sadd 7 S (nI w) (nI c) z = sset S 7 (4, fup (S.1 7).2 w c ((S.1 7).2 w c + z)) := by
  show sset S 7 (tadd 6 4 (S.1 7) (nI w) (nI c) z) = _
  rw [ta (by omega) hw hc (by omega) (by omega), h]
theorem work_two {T : Nat → Nat → Int32} {v c : Nat} (hv : v < 4) (hc : c < 4) : sadd 7 (sadd 7 (sset S 7 (4, T)) (nI v) (nI c) (-1 : Int32)) (nI v) (nI 4) (1 : Int32) = sset S 7 (4, fup (fup T v c (T v c + (-1))) v 4 (T v 4 + 1)) := by
  rw [sa7 (S := sset S 7 (4, T)) (c := c) (by rw [ss_s]) hv (by omega), ss_s, sset2]
  dsimp only
  rw [sa7 (S := sset S 7 (4, fup T v c (T v c + (-1)))) (c := 4) (by rw [ss_s]) hv (by omega), ss_s, sset2]
  dsimp only
  rw [fup_c (show 4 ≠ c by omega)]
theorem workX_go (h : RG F E Zf Zb t K lo wl cl sg sv sw nr r N nq nb qs ws fb gb at_ ow S M) (hNb : N < 2 ^ 30) : ∀ (k v m : Nat), v + k = 4 → k < m → iter bfX1_work_2 m (nI v, sset S 7 (4, fun i j => if i < v then wU (S.1 7).2 ws at_ i j else (S.1 7).2 i j)) = some (sset S 7 (4, fun i j => if i < 4 then wU (S.1 7).2 ws at_ i j else (S.1 7).2 i j)) := by
  obtain ⟨hA, hQ, hF, hB, hG, hU⟩ := h.2.2.2.2.1
  intro k
  induction k with
  | zero =>
    intro v m hv hm
    obtain ⟨m, rfl⟩ : ∃ k, m = k + 1 := ⟨m - 1, by omega⟩
    obtain rfl : v = 4 := by omega
    rw [it_s, bfX1_work_2, if_pos (by decide)]
  | succ k ih =>
    intro v m hv hm
    obtain ⟨m, rfl⟩ : ∃ k, m = k + 1 := ⟨m - 1, by omega⟩
    have hv4 : v < 4 := by omega
    have g : ∀ c, c < 6 → sget 7 (sset S 7 (4, fun i j => if i < v then wU (S.1 7).2 ws at_ i j else (S.1 7).2 i j)) (nI v) (nI c) = (S.1 7).2 v c := fun c hc => by
      rw [sg7 (by rw [ss_s]) hv4 hc, ss_s]
      exact if_neg (by omega)
    have hnext := ih (v + 1) m (by omega) (by omega)
    obtain ⟨c1, c2, c3⟩ := hF.2 v hv4
    rw [it_s, bfX1_work_2]
    unfold bfX1_work_36 bfX1_work_80
    rw [if_neg (fun z => by have := (len_4 (by omega)).mp z; omega), show (5 : Int32) = nI 5 from rfl, g 5 (by omega), nm, nA_1]
    rw [show sget 7 (sset S 7 (4, fun i j => if i < v then wU (S.1 7).2 ws at_ i j else (S.1 7).2 i j)) (nI v) (0 : Int32) = (S.1 7).2 v 0 from g 0 (by omega)]
    by_cases e0 : ws v = 0
    · have eT : (fun i j => if i < v then wU (S.1 7).2 ws at_ i j else (S.1 7).2 i j) = (fun i j => if i < v + 1 then wU (S.1 7).2 ws at_ i j else (S.1 7).2 i j) := by
        funext i j
        by_cases c : i = v
        · subst c
          rw [if_neg (by omega), if_pos (by omega)]
          unfold wU
          rw [if_pos e0]
        · by_cases d : i < v
          · rw [if_pos d, if_pos (by omega)]
          · rw [if_neg d, if_neg (by omega)]
      rw [if_pos (c2 e0), if_pos rfl, eT]
      exact hnext
    · obtain ⟨a, ea⟩ : ∃ a, ws v = a + 1 := ⟨ws v - 1, by omega⟩
      obtain ⟨d1, d2, d3, ⟨d4, d5, d6, d7, d8, d9⟩, d10, d11, d12, d13⟩ := c3 a ea
      have eo := (h.owner d1 d2).1
      have e9 : ¬ (S.1 7).2 v 0 = -9 := by rw [d4]; exact owI_9 (by omega)
      rw [if_neg e9, if_neg (show ¬ (1 : Int32) = 0 by decide), d9]
      unfold bfX1_work_51 bfX1_work_66 bfX1_work_80
      have a7 : at_ a 7 = 2 ∨ at_ a 7 = 3 ∨ at_ a 7 = 4 := by omega
      have step : ∀ c, c < 4 → (∀ j, wU (S.1 7).2 ws at_ v j = if j = c then (S.1 7).2 v j + (-1) else if j = 4 then (S.1 7).2 v j + 1 else (S.1 7).2 v j) → sadd 7 (sadd 7 (sset S 7 (4, fun i j => if i < v then wU (S.1 7).2 ws at_ i j else (S.1 7).2 i j)) (nI v) (nI c) (-1 : Int32)) (nI v) (nI 4) (1 : Int32) = sset S 7 (4, fun i j => if i < v + 1 then wU (S.1 7).2 ws at_ i j else (S.1 7).2 i j) := by
        intro c hc hw
        rw [work_two hv4 hc]
        refine congrArg (fun f => sset S 7 (4, f)) (funext fun i => funext fun j => ?_)
        by_cases ei : i = v
        · subst ei
          have hR : (if i < i + 1 then wU (S.1 7).2 ws at_ i j else (S.1 7).2 i j) = wU (S.1 7).2 ws at_ i j := if_pos (by omega)
          rw [hR, hw j]
          have hL : ∀ j, (fun i' j => if i' < i then wU (S.1 7).2 ws at_ i' j else (S.1 7).2 i' j) i j = (S.1 7).2 i j := fun j => if_neg (by omega)
          by_cases ej : j = 4
          · subst ej
            rw [fup_s rfl rfl]
            exact (congrArg (· + 1) (hL 4)).trans ((if_neg (show ¬ 4 = c by omega)).trans (if_pos rfl)).symm
          · rw [fup_c ej]
            by_cases ec : j = c
            · subst ec
              rw [fup_s rfl rfl, if_pos rfl]
              exact congrArg (· + (-1)) (hL j)
            · rw [fup_c ec, if_neg ec, if_neg ej]
              exact hL j
        · rw [fup_r ei, fup_r ei]
          by_cases d : i < v
          · exact (if_pos d).trans (if_pos (show i < v + 1 by omega)).symm
          · exact (if_neg d).trans (if_neg (show ¬ i < v + 1 by omega)).symm
      rcases a7 with e7 | e7 | e7
      · rw [e7, if_pos (show nI 2 = (2 : Int32) from rfl), if_pos (show nI 2 = (2 : Int32) from rfl), nm, nm, nA_1]
        rw [show sadd 7 (sadd 7 (sset S 7 (4, fun i j => if i < v then wU (S.1 7).2 ws at_ i j else (S.1 7).2 i j)) (nI v) (2 : Int32) (-1 : Int32)) (nI v) (4 : Int32) (1 : Int32) = _ from step 2 (by omega) (fun j => by unfold wU; rw [if_neg e0, show ws v - 1 = a by omega, if_pos e7])]
        exact hnext
      · have eT : (fun i j => if i < v then wU (S.1 7).2 ws at_ i j else (S.1 7).2 i j) = (fun i j => if i < v + 1 then wU (S.1 7).2 ws at_ i j else (S.1 7).2 i j) := by
          funext i j
          by_cases c : i = v
          · subst c
            rw [if_neg (by omega), if_pos (by omega)]
            unfold wU
            rw [if_neg e0, show ws i - 1 = a by omega, if_neg (by omega), if_neg (by omega)]
          · by_cases d : i < v
            · rw [if_pos d, if_pos (by omega)]
            · rw [if_neg d, if_neg (by omega)]
        rw [e7, if_neg (show ¬ nI 3 = (2 : Int32) by decide), if_neg (show ¬ nI 3 = (4 : Int32) by decide), eT]
        exact hnext
      · rw [e7, if_neg (show ¬ nI 4 = (2 : Int32) by decide), if_pos (show nI 4 = (4 : Int32) from rfl), if_neg (show ¬ nI 4 = (2 : Int32) by decide), nm, nm, nA_1]
        rw [show sadd 7 (sadd 7 (sset S 7 (4, fun i j => if i < v then wU (S.1 7).2 ws at_ i j else (S.1 7).2 i j)) (nI v) (3 : Int32) (-1 : Int32)) (nI v) (4 : Int32) (1 : Int32) = _ from step 3 (by omega) (fun j => by unfold wU; rw [if_neg e0, show ws v - 1 = a by omega, if_neg (by omega), if_pos e7])]
        exact hnext
theorem workX (h : RG F E Zf Zb t K lo wl cl sg sv sw nr r N nq nb qs ws fb gb at_ ow S M) (hNb : N < 2 ^ 30) : ∃ S', fX1_work S = some S' ∧ (S'.1 7).1 = 4 ∧ (∀ w j, w < 4 → (S'.1 7).2 w j = wU (S.1 7).2 ws at_ w j) ∧ (∀ k, k ≠ 7 → S'.1 k = S.1 k) ∧ S'.2 = S.2 := by
  have h1 := workX_go h hNb 4 0 FU (by omega) (by unfold FU; omega)
  have e : sset S 7 (4, fun i j => if i < 0 then wU (S.1 7).2 ws at_ i j else (S.1 7).2 i j) = S := by
    have e2 : ((4, fun i j => if i < 0 then wU (S.1 7).2 ws at_ i j else (S.1 7).2 i j) : Tb) = S.1 7 := by
      refine Prod.ext h.2.2.2.2.1.2.2.1.1.symm (funext fun i => funext fun j => ?_)
      exact if_neg (t := wU (S.1 7).2 ws at_ i j) (Nat.not_lt_zero i)
    rw [e2, ss_id]
  rw [e] at h1
  refine ⟨_, h1, by rw [ss_s], fun w j hw => ?_, fun k hk => ss_n hk, rfl⟩
  rw [ss_s]
  exact if_pos hw
end WX
