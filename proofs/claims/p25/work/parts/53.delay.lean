/-! an attempt fails: the request waits, or it fails, too -/
def rn (x : Int32) : Nat := (((x * 1103515245 + 12345).toUInt32 >>> ((16 : Int32).toUInt32 &&& Int32.toUInt32 31)).toInt32).toBitVec.toNat % 2 ^ 15
theorem rn_lt (x : Int32) : rn x < 32768 := Nat.mod_lt _ (by decide)
theorem rn_eq (x : Int32) : ((x * 1103515245 + 12345).toUInt32 >>> ((16 : Int32).toUInt32 &&& Int32.toUInt32 31)).toInt32 &&& 32767 = nI (rn x) := pk_and _ 15 (by decide)
def rawN (b k m : Nat) : Nat := min (b * 2 ^ (m - 1)) k
def dly (b k j m d : Nat) (x : Int32) : Nat := if j = 0 then rawN b k m else if j = 1 then 1 + rn x % rawN b k m else if j = 2 then rawN b k m - rawN b k m / 2 + rn x % (rawN b k m / 2 + 1) else min (b + rn x % (2 * (if d = 0 then b else d) + 1)) k
def sdn (j : Nat) (x : Int32) : Int32 := if j = 0 then x else x * 1103515245 + 12345
theorem raw_pos {b k m : Nat} (hb : 1 ≤ b) (hk : 1 ≤ k) : 1 ≤ rawN b k m := by
  have : 1 ≤ 2 ^ (m - 1) := Nat.one_le_two_pow
  have := Nat.mul_le_mul hb this
  unfold rawN
  omega
theorem dly_le {b k j m d : Nat} (x : Int32) (hb : 1 ≤ b) (hk : 1 ≤ k) : 1 ≤ dly b k j m d x ∧ dly b k j m d x ≤ k := by
  have h1 := raw_pos (m := m) hb hk
  have h2 : rawN b k m ≤ k := Nat.min_le_right _ _
  have h3 : rn x % rawN b k m < rawN b k m := Nat.mod_lt _ (by omega)
  have h4 : rn x % (rawN b k m / 2 + 1) < rawN b k m / 2 + 1 := Nat.mod_lt _ (by omega)
  unfold dly
  by_cases e0 : j = 0
  · rw [if_pos e0]; omega
  · rw [if_neg e0]
    by_cases e1 : j = 1
    · rw [if_pos e1]; omega
    · rw [if_neg e1]
      by_cases e2 : j = 2
      · rw [if_pos e2]; omega
      · rw [if_neg e2]; omega
theorem dly_0 (b k m d : Nat) (x : Int32) : dly b k 0 m d x = rawN b k m := if_pos rfl
theorem dly_1 (b k m d : Nat) (x : Int32) : dly b k 1 m d x = 1 + rn x % rawN b k m := by unfold dly; rw [if_neg (by decide), if_pos rfl]
theorem dly_2 (b k m d : Nat) (x : Int32) : dly b k 2 m d x = rawN b k m - rawN b k m / 2 + rn x % (rawN b k m / 2 + 1) := by unfold dly; rw [if_neg (by decide), if_neg (by decide), if_pos rfl]
theorem dly_3 (b k m d : Nat) (x : Int32) : dly b k 3 m d x = min (b + rn x % (2 * (if d = 0 then b else d) + 1)) k := by unfold dly; rw [if_neg (by decide), if_neg (by decide), if_neg (by decide)]
theorem sdn_0 (x : Int32) : sdn 0 x = x := if_pos rfl
theorem sdn_n {j : Nat} (h : j ≠ 0) (x : Int32) : sdn j x = x * 1103515245 + 12345 := if_neg h
theorem shl_ok : ∀ m, m < 6 → ((nI m &&& 31).toBitVec.smod 32).toNat = m := by decide
theorem shl_eq {b m : Nat} (hb : b ≤ 16) (h1 : 1 ≤ m) (hm : m ≤ 6) : nI b <<< ((nI m - 1) &&& 31) = nI (b * 2 ^ (m - 1)) := by
  rw [show nI m - 1 = nI (m - 1) from pk_sub (b := 1) h1]
  refine pk_shlN _ (m - 1) (shl_ok _ (by omega)) ?_
  have h3 : 2 ^ (m - 1) ≤ 2 ^ 5 := Nat.pow_le_pow_right (by decide) (by omega)
  have := Nat.mul_le_mul hb h3
  omega
theorem sh_le {b m : Nat} (hb : b ≤ 16) (hm : m ≤ 6) : b * 2 ^ (m - 1) ≤ 512 := by
  have h3 : 2 ^ (m - 1) ≤ 2 ^ 5 := Nat.pow_le_pow_right (by decide) (by omega)
  have := Nat.mul_le_mul hb h3
  omega
theorem min_nI {a b : Nat} (ha : a < 2 ^ 31) (hb : b < 2 ^ 31) : (if nI b < nI a then nI b else nI a) = nI (min a b) := by
  by_cases h : b < a
  · rw [if_pos (nI_lt h ha), Nat.min_eq_right (by omega)]
  · rw [if_neg (nI_nlt (by omega) hb), Nat.min_eq_left (by omega)]
theorem least_nI {a b : Nat} (ha : a < 2 ^ 31) (hb : b < 2 ^ 31) : (if nI b ≤ nI a then nI b else nI a) = nI (min a b) := by
  by_cases h : b ≤ a
  · rw [if_pos (nI_le h ha), Nat.min_eq_right (by omega)]
  · rw [if_neg (nI_ge (by omega) hb), Nat.min_eq_left (by omega)]
theorem rem_nI {a d : Nat} (ha : a < 2 ^ 31) (h0 : 0 < d) (hd : d < 2 ^ 31) : nI a - nI a / nI d * nI d = nI (a % d) := pk_rem ha h0 hd
theorem draw_X (S : StS) : fX0_draw S = some (nI (rn (S.2 13)), (S.1, upd S.2 13 (S.2 13 * 1103515245 + 12345))) := by
  unfold fX0_draw
  simp only [nm, up_s]
  rw [rn_eq]
theorem draws_M (M : MS) : fX6_draws M = some (nI (rn (M.1 184)), (upd M.1 184 (M.1 184 * 1103515245 + 12345), M.2)) := by
  rw [draws_eq, rn_eq]
theorem upd_self (f : Nat → Int32) (k : Nat) : upd f k (f k) = f := by
  funext j
  by_cases h : j = k
  · rw [up_s h, h]
  · rw [up_n h]
theorem delay_X {S : StS} {i c b k j m d : Nat} (hb : sget 0 S (nI c) (5 : Int32) = nI b) (hk : sget 0 S (nI c) (6 : Int32) = nI k) (hj : sget 0 S (nI c) (7 : Int32) = nI j) (hm : sget 5 S (nI i) (3 : Int32) = nI m) (hd : sget 5 S (nI i) (6 : Int32) = nI d) (b1 : 1 ≤ b) (b2 : b ≤ 16) (k1 : 1 ≤ k) (k2 : k ≤ 64) (j2 : j ≤ 3) (m1 : 1 ≤ m) (m2 : m ≤ 6) (d2 : d ≤ 64) : fX0_delay (nI i) (nI c) S = some (nI (dly b k j m d (S.2 13)), (S.1, upd S.2 13 (sdn j (S.2 13)))) := by
  have h1 := raw_pos (m := m) b1 k1
  have h2 : rawN b k m ≤ k := Nat.min_le_right _ _
  have h3 := rn_lt (S.2 13)
  have h4 := sh_le b2 m2
  have hraw : (if (1 : Int32) < (if nI k < nI (b * 2 ^ (m - 1)) then nI k else nI (b * 2 ^ (m - 1))) then (if nI k < nI (b * 2 ^ (m - 1)) then nI k else nI (b * 2 ^ (m - 1))) else (1 : Int32)) = nI (rawN b k m) := by
    rw [min_nI (by omega) (by omega)]
    show (if (1 : Int32) < nI (rawN b k m) then nI (rawN b k m) else (1 : Int32)) = _
    by_cases e : rawN b k m = 1
    · rw [e]; rfl
    · rw [if_pos ((ltn_1 (by omega)).mpr (by omega))]
  unfold fX0_delay
  rw [hb, hk, nm, nm, hm, shl_eq b2 m1 m2, hraw, nm, hj]
  simp only [eqn_1 (show j < 2 ^ 31 by omega), eqn_2 (show j < 2 ^ 31 by omega), eqn_3 (show j < 2 ^ 31 by omega)]
  by_cases e1 : j = 1
  · subst e1
    rw [dly_1, sdn_n (by decide)]
    rw [if_pos rfl, draw_X, ob_eq, if_neg (nI_ne0 h1 (by omega)), rem_nI (by omega) h1 (by omega), nB_1]
  · rw [if_neg e1]
    by_cases e2 : j = 2
    · subst e2
      have h5 : rn (S.2 13) % (rawN b k m / 2 + 1) < rawN b k m / 2 + 1 := Nat.mod_lt _ (by omega)
      have e9 : nI (rawN b k m) / (2 : Int32) = nI (rawN b k m / 2) := pk_div (d := 2) (by omega) (by decide) (by decide)
      rw [dly_2, sdn_n (by decide)]
      rw [if_pos rfl, draw_X, ob_eq, e9, nA_1, if_neg (nI_ne0 (by omega) (by omega)), rem_nI (by omega) (by omega) (by omega), pk_sub (by omega), nI_add]
    · rw [if_neg e2]
      by_cases e3 : j = 3
      · subst e3
        have key : ∀ q, 1 ≤ q → q ≤ 64 → bfX0_delay_138 (nI i) (nI c) (nI b) (nI k) (0 : Int32) (nI q) S = some (nI (min (b + rn (S.2 13) % (2 * q + 1)) k), (S.1, upd S.2 13 (S.2 13 * 1103515245 + 12345))) := by
          intro q q1 q2
          have h5 : rn (S.2 13) % (2 * q + 1) < 2 * q + 1 := Nat.mod_lt _ (by omega)
          unfold bfX0_delay_138
          rw [if_pos ((ltn_0 (by omega)).mpr (by omega)), nm, draw_X, ob_eq, nM_2, nA_1, if_neg (nI_ne0 (by omega) (by omega)), rem_nI (by omega) (by omega) (by omega), nI_add, min_nI (by omega) (by omega)]
        rw [dly_3, sdn_n (by decide)]
        rw [if_pos rfl, hd, nm]
        by_cases e4 : d = 0
        · rw [if_pos ((eqn_0 (by omega)).mpr e4), if_pos e4, key b b1 (by omega)]
        · rw [if_neg (fun q => e4 ((eqn_0 (by omega)).mp q)), if_neg e4, key d (by omega) (by omega)]
      · obtain rfl : j = 0 := by omega
        rw [dly_0, sdn_0]
        rw [if_neg e3, upd_self]
theorem delay_M {M : MS} {i c b k j m d : Nat} (hi : i < 16) (hc6 : c < 6) (hc : M.1 (189 + 8 * i + 1) = nI c) (hb : M.1 (12 * c + 5) = nI b) (hk : M.1 (12 * c + 6) = nI k) (hj : M.1 (12 * c + 7) = nI j) (hm : M.1 (189 + 8 * i + 3) = nI m) (hd : M.1 (189 + 8 * i + 6) = nI d) (b1 : 1 ≤ b) (b2 : b ≤ 16) (k1 : 1 ≤ k) (k2 : k ≤ 64) (j2 : j ≤ 3) (m1 : 1 ≤ m) (m2 : m ≤ 6) (d2 : d ≤ 64) : fX6_delayOf (nI i) M = some (nI (dly b k j m d (M.1 184)), (upd M.1 184 (sdn j (M.1 184)), M.2)) := by
  have h1 := raw_pos (m := m) b1 k1
  have h2 : rawN b k m ≤ k := Nat.min_le_right _ _
  have h3 := rn_lt (M.1 184)
  have h4 := sh_le b2 m2
  have hraw : (if nI (b * 2 ^ (m - 1)) ≤ nI k then nI (b * 2 ^ (m - 1)) else nI k) = nI (rawN b k m) := by
    rw [least_nI (by omega) (by omega), Nat.min_comm]
    rfl
  have o5 : fX6_of (nI c) (5 : Int32) M = some (nI b) := (of_n (k := 5) hc6 (by omega) M).trans (congrArg some hb)
  have o6 : fX6_of (nI c) (6 : Int32) M = some (nI k) := (of_n (k := 6) hc6 (by omega) M).trans (congrArg some hk)
  have o7 : fX6_of (nI c) (7 : Int32) M = some (nI j) := (of_n (k := 7) hc6 (by omega) M).trans (congrArg some hj)
  unfold fX6_delayOf
  rw [row_eq, ob_eq, nA_1, if_pos (okI_nI (by omega) (by decide)), nm, nI_clamp (by omega), hc, o5, ob_eq, o6, ob_eq, ob_eq, nA_3, if_pos (okI_nI (by omega) (by decide)), nI_clamp (by omega), hm, shl_eq b2 m1 m2, least_eq, hraw, ob_eq, o7, ob_eq]
  simp only [eqn_0 (show j < 2 ^ 31 by omega), eqn_1 (show j < 2 ^ 31 by omega), eqn_2 (show j < 2 ^ 31 by omega)]
  unfold dly sdn
  by_cases e0 : j = 0
  · rw [if_pos e0, if_pos e0, if_pos e0, upd_self]
  · rw [if_neg e0, if_neg e0, if_neg e0]
    by_cases e1 : j = 1
    · rw [if_pos e1, if_pos e1, draws_M, ob_eq, if_neg (nI_ne0 h1 (by omega)), rem_nI (by omega) h1 (by omega), nB_1]
    · rw [if_neg e1, if_neg e1]
      by_cases e2 : j = 2
      · have h5 : rn (M.1 184) % (rawN b k m / 2 + 1) < rawN b k m / 2 + 1 := Nat.mod_lt _ (by omega)
        have e9 : nI (rawN b k m) / (2 : Int32) = nI (rawN b k m / 2) := pk_div (d := 2) (by omega) (by decide) (by decide)
        rw [if_pos e2, if_pos e2, draws_M, ob_eq, e9, nA_1, if_neg (nI_ne0 (by omega) (by omega)), rem_nI (by omega) (by omega) (by omega), pk_sub (by omega), nI_add]
      · have key : ∀ q, 1 ≤ q → q ≤ 64 → bfX6_delayOf_150 (nI i) (nI b) (nI k) (nI q) M = some (nI (min (b + rn (M.1 184) % (2 * q + 1)) k), (upd M.1 184 (M.1 184 * 1103515245 + 12345), M.2)) := by
          intro q q1 q2
          have h5 : rn (M.1 184) % (2 * q + 1) < 2 * q + 1 := Nat.mod_lt _ (by omega)
          unfold bfX6_delayOf_150
          rw [draws_M, ob_eq, nM_2, nA_1, if_neg (nI_ne0 (by omega) (by omega)), rem_nI (by omega) (by omega) (by omega), nI_add, least_eq, least_nI (by omega) (by omega), ob_eq, Nat.min_comm]
        rw [if_neg e2, if_neg e2, ob_eq, nA_6, if_pos (okI_nI (by omega) (by decide)), nI_clamp (by omega), hd]
        simp only [eqn_0 (show d < 2 ^ 31 by omega)]
        by_cases e4 : d = 0
        · rw [if_pos e4, if_pos e4, key b b1 (by omega)]
        · rw [if_neg e4, if_neg e4, ob_eq, nA_6, if_pos (okI_nI (by omega) (by decide)), nI_clamp (by omega), hd, key d (by omega) (by omega)]
