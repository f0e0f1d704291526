/-! a failing request leaves the front queue's table alone -/
section CM
variable {S : StS} {T : Tb}
theorem sget6 {k : Nat} {r c : Int32} (h : k ≠ 6) : sget k (sset S 6 T) r c = sget k S r c := by
  unfold sget
  rw [ss_n h]
theorem sfind6 {k : Nat} {c v : Int32} (h : k ≠ 6) : sfind k (sset S 6 T) c v = sfind k S c v := by
  unfold sfind
  rw [ss_n h]
theorem sadd6 {k : Nat} {r c v : Int32} (h : k ≠ 6) : sadd k (sset S 6 T) r c v = sset (sadd k S r c v) 6 T := by
  unfold sadd
  rw [ss_n h, sset_comm (fun z => h z.symm)]
theorem sput6 {k : Nat} {r c v : Int32} (h : k ≠ 6) : sput k (sset S 6 T) r c v = sset (sput k S r c v) 6 T := by
  unfold sput
  rw [ss_n h, sset_comm (fun z => h z.symm)]
theorem sdrop6 {k : Nat} {r : Int32} (h : k ≠ 6) : sdrop k (sset S 6 T) r = sset (sdrop k S r) 6 T := by
  unfold sdrop
  rw [ss_n h, sset_comm (fun z => h z.symm)]
theorem delay6 {p2 p3 : Int32} : fX0_delay p2 p3 (sset S 6 T) = (fX0_delay p2 p3 S).map (fun u => (u.1, sset u.2 6 T)) := by
  unfold fX0_delay bfX0_delay_138
  simp only [sget6 (show (5 : Nat) ≠ 6 by decide), sget6 (show (0 : Nat) ≠ 6 by decide), draw_X, nm, ob_eq, ss_2]
  repeat' split
  all_goals rfl
theorem fail6 {p2 p3 : Int32} : fX0_fail p2 p3 (sset S 6 T) = (fX0_fail p2 p3 S).map (fun u => sset u 6 T) := by
  have h130 : ∀ (X : StS) (x3 x4 : Int32), bfX0_fail_130 p2 p3 x3 x4 (sset X 6 T) = (bfX0_fail_130 p2 p3 x3 x4 X).map (fun u => sset u 6 T) := fun X x3 x4 => by
    unfold bfX0_fail_130
    rw [nm, nm, nm, nm, sadd6 (by decide), sdrop6 (by decide)]
    rfl
  have h100 : ∀ (X : StS) (x3 x4 x5 s0 : Int32), bfX0_fail_100 p2 p3 x3 x4 x5 s0 (sset X 6 T) = (bfX0_fail_100 p2 p3 x3 x4 x5 s0 X).map (fun u => sset u 6 T) := fun X x3 x4 x5 s0 => by
    unfold bfX0_fail_100
    simp only [nm, sget6 (show (5 : Nat) ≠ 6 by decide), ss_2]
    by_cases h5 : x5 = 0
    · rw [if_pos h5, if_pos h5]
      exact h130 X x3 x4
    · rw [if_neg h5, if_neg h5]
      by_cases h6 : X.2 12 + s0 < sget 5 X x3 2
      · rw [if_pos h6, if_pos h6, sadd6 (by decide), sput6 (by decide), sput6 (by decide), sput6 (by decide)]
        rfl
      · rw [if_neg h6, if_neg h6]
        exact h130 X x3 x4
  have h82 : ∀ (X : StS) (x3 x4 s0 : Int32), bfX0_fail_82 p2 p3 x3 x4 s0 (sset X 6 T) = (bfX0_fail_82 p2 p3 x3 x4 s0 X).map (fun u => sset u 6 T) := fun X x3 x4 s0 => by
    unfold bfX0_fail_82
    by_cases h5 : s0 = 0
    · rw [if_pos h5, if_pos h5]
      exact h100 X x3 x4 s0 0
    · rw [if_neg h5, if_neg h5, delay6]
      cases e : fX0_delay x3 x4 X with
      | none => rfl
      | some u => exact h100 u.2 x3 x4 s0 u.1
  unfold fX0_fail
  simp only [nm, sfind6 (show (5 : Nat) ≠ 6 by decide), sget6 (show (5 : Nat) ≠ 6 by decide), sget6 (show (0 : Nat) ≠ 6 by decide), sget6 (show (1 : Nat) ≠ 6 by decide), sadd6 (show (1 : Nat) ≠ 6 by decide)]
  by_cases h1 : sfind 5 S 0 p2 = -9
  · rw [if_pos h1, if_pos h1]
    rfl
  · rw [if_neg h1, if_neg h1]
    unfold bfX0_fail_81
    by_cases h2 : sget 0 (sadd 1 S (sget 5 S (sfind 5 S 0 p2) 1) p3 1) (sget 5 S (sfind 5 S 0 p2) 1) 3 ≤ sget 5 (sadd 1 S (sget 5 S (sfind 5 S 0 p2) 1) p3 1) (sfind 5 S 0 p2) 3
    · rw [if_pos h2, if_pos h2]
      exact h82 _ _ _ _
    · rw [if_neg h2, if_neg h2]
      by_cases h3 : sget 1 (sadd 1 S (sget 5 S (sfind 5 S 0 p2) 1) p3 1) (sget 5 S (sfind 5 S 0 p2) 1) 7 < 10
      · rw [if_pos h3, if_pos h3]
        exact h82 _ _ _ _
      · rw [if_neg h3, if_neg h3]
        exact h82 _ _ _ _
/-- so the class may put the new attempt into the queue first -/
theorem fail6_some {p2 p3 : Int32} {S' : StS} (h : fX0_fail p2 p3 S = some S') : fX0_fail p2 p3 (sset S 6 T) = some (sset S' 6 T) := by
  rw [fail6, h]
  rfl
end CM
