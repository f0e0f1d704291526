/-! a front worker takes: the sums are kept -/
section FK
variable {S S' S1 : StS} {sv o : N1}
theorem taf_ko {w k : Nat} {x : Int32} (h7 : (S.1 7).1 = 4) (hw : w < 4) (hsw : w < sv 0) (h0 : (S.1 7).2 w 0 = -9) (hk : k < (S.1 6).1) (hk2 : (S.1 6).1 ≤ 16) (hq4 : (S.1 6).2 k 4 = 0) (h : fX1_takeAtFront (nI w) (nI k) S = some (x, S1)) : Ko sv o o S S1 ∧ S1.1 5 = S.1 5 ∧ S1.1 1 = S.1 1 ∧ (x = -9 ∨ x = (S.1 6).2 k 0) := by
  have go : ∀ s0, bfX1_takeAtFront_26 (nI w) (nI k) s0 S = some (x, S1) → Ko sv o o S S1 ∧ S1.1 5 = S.1 5 ∧ S1.1 1 = S.1 1 ∧ x = s0 := by
    intro s0 h
    unfold bfX1_takeAtFront_26 bfX1_takeAtFront_56 at h
    rcases if_or h with ⟨-, h⟩ | ⟨-, h⟩
    · rw [scopy h7 hw hk (by omega), nm, show sput 7 (sset S 7 (4, fun i j => if i = w ∧ j < 6 then (S.1 6).2 k j else (S.1 7).2 i j)) (nI w) (5 : Int32) (2 : Int32) = _ from sp7 (c := 5) (by rw [ss_s]) hw (by omega), ss_s, sset2, nm, nm] at h
      have v1 := congrArg Prod.fst (Option.some.inj h)
      have v2 := congrArg Prod.snd (Option.some.inj h)
      dsimp only at v1 v2
      generalize hT : ((4, fup (fun i j => if i = w ∧ j < 6 then (S.1 6).2 k j else (S.1 7).2 i j) w 5 (2 : Int32)) : Tb) = T at v2
      have t1 : ∀ v c, v ≠ w → T.2 v c = (S.1 7).2 v c := fun v c hv => by
        rw [← hT]
        dsimp only
        rw [fup_r hv, if_neg (fun z => hv z.1)]
      have t2 : T.2 w 4 = 0 := by
        rw [← hT]
        dsimp only
        rw [fup_c (by omega), if_pos ⟨rfl, by omega⟩]
        exact hq4
      have kk : Ko sv o o S (sset S 7 T) := by
        refine Ko.of (ss_n (by omega)) (ss_n (by omega)) (ss_n (by omega)) ?_ (fun v hv hs e => ?_) (fun v _ _ e => by rw [ss_n (by omega)]; exact e)
        · rw [ss_s]
          show S.2 15 + S.2 16 + pnd T = _
          refine congrArg _ (sumF_cg 4 (fun v hv => ?_))
          by_cases e : v = w
          · rw [e, ctr_z h0]
            by_cases e2 : T.2 w 0 = -9
            · exact ctr_z e2
            · rw [ctr_n e2, t2]
          · exact ctr_cg (t1 v 0 e) (t1 v 4 e)
        · rw [ss_s, t1 v 0 (by omega)]
          exact e
      have k6 : Ko sv o o (sset S 7 T) (sdrop 6 (sset S 7 T) (nI k)) := oth_ko (k := 6) (Or.inl rfl)
      rw [← v2]
      exact ⟨kk.tr k6, (ss_n (k := 6) (by omega)).trans (ss_n (by omega)), (ss_n (k := 6) (by omega)).trans (ss_n (by omega)), v1.symm⟩
    · rw [nm] at h
      have v1 := congrArg Prod.fst (Option.some.inj h)
      have v2 := congrArg Prod.snd (Option.some.inj h)
      dsimp only at v1 v2
      rw [← v2]
      have k6 : Ko sv o o S (sdrop 6 S (nI k)) := oth_ko (k := 6) (Or.inl rfl)
      exact ⟨k6, ss_n (k := 6) (by omega), ss_n (k := 6) (by omega), v1.symm⟩
  unfold fX1_takeAtFront at h
  obtain ⟨u, -, h⟩ := ob_some h
  rcases if_or h with ⟨-, h⟩ | ⟨-, h⟩
  · obtain ⟨a, b, c, d⟩ := go _ h
    exact ⟨a, b, c, Or.inl d⟩
  · obtain ⟨a, b, c, d⟩ := go _ h
    exact ⟨a, b, c, Or.inr (d.trans (sg6 hk (by omega) (c := 0) (by omega)))⟩
end FK
