/-! a ghost page: the pure functions alone that were read off the reference (no word of its code): partners of the class in the relation of parts 50 and on -/
abbrev MS : Type := (Nat → Int32) × (Nat → Int32) × (Nat → Int32)
def fX6_slot (p1 : Int32) (S : MS) : Option (Int32) :=
  some ((317 : Int32) + ((10 : Int32) * p1))
def bfX6_leaves_68 (p1 : Int32) (p2 : Int32) (s1 : Int32) (s2 : Int32) (S : MS) : Option (MS) :=
  nm (S.1, S.2.1, upd S.2.2 8 (s1 + s2)) fun S8 => ob (fX6_slot p1 S8) fun u9 => (if okI (u9 + (9 : Int32)) 5130 then nm (upd S8.1 ((u9 + (9 : Int32))).toNatClampNeg (0 : Int32), S8.2) fun S10 => some S10 else none)
def bfX6_leaves_52 (p1 : Int32) (p2 : Int32) (x3 : Int32) (s1 : Int32) (s2 : Int32) (s3 : Int32) (S : MS) : Option (MS) :=
  (if okI s1 5130 then nm (upd S.1 (s1).toNatClampNeg (s2 + s3), S.2) fun S11 => (if p2 = 0 then bfX6_leaves_68 p1 p2  ((S11.2.2 8)) x3 S11 else bfX6_leaves_68 p1 p2  ((S11.2.2 8)) ((0 : Int32)) S11) else none)
def bfX6_leaves_32 (p1 : Int32) (p2 : Int32) (x3 : Int32) (s1 : Int32) (s2 : Int32) (s3 : Int32) (S : MS) : Option (MS) :=
  (if okI s1 5130 then nm (upd S.1 (s1).toNatClampNeg (s2 + s3), S.2) fun S12 => (if p2 = 0 then bfX6_leaves_52 p1 p2  x3 ((186 : Int32)) ((S12.1 ((186 : Int32)).toNatClampNeg)) x3 S12 else bfX6_leaves_52 p1 p2  x3 ((186 : Int32)) ((S12.1 ((186 : Int32)).toNatClampNeg)) ((0 : Int32)) S12) else none)
def fX6_leaves (p1 : Int32) (p2 : Int32) (S : MS) : Option (MS) :=
  ob (fX6_slot p1 S) fun u13 => (if okI (u13 + (6 : Int32)) 5130 then nm ((S.1 ((u13 + (6 : Int32))).toNatClampNeg)) fun v14 => (if p2 = 0 then bfX6_leaves_32 p1 p2  v14 ((185 : Int32)) ((S.1 ((185 : Int32)).toNatClampNeg)) ((0 : Int32)) S else bfX6_leaves_32 p1 p2  v14 ((185 : Int32)) ((S.1 ((185 : Int32)).toNatClampNeg)) v14 S) else none)
def bfX6_pulls_13 (p1 : Int32) (p2 : Int32) (p3 : Int32) (K13 : Int32 × Int32 × (MS) → Option (Int32 × (MS))) (x : Int32 × Int32 × (MS)) : Option (Int32 × (MS)) :=
  match x with
  | (x4, x5, S) => (if okI p1 5130 then (if (S.1 (p1).toNatClampNeg) ≤ (x5 + (1 : Int32)) then (if okI p1 5130 then (if okI p1 5130 then nm (upd S.1 (p1).toNatClampNeg ((S.1 (p1).toNatClampNeg) - (1 : Int32)), S.2) fun S4 => some (x4, S4) else none) else none) else (if okI ((p2 + x5) + (1 : Int32)) 5130 then (if okI (p2 + x5) 5130 then nm (upd S.1 ((p2 + x5)).toNatClampNeg (S.1 (((p2 + x5) + (1 : Int32))).toNatClampNeg), S.2) fun S5 => K13 (x4, (x5 + (1 : Int32)), S5) else none) else none)) else none)
def fX6_pulls (p1 : Int32) (p2 : Int32) (p3 : Int32) (S : MS) : Option (Int32 × (MS)) :=
  (if okI (p2 + p3) 5130 then nm ((S.1 ((p2 + p3)).toNatClampNeg)) fun v6 => iter (bfX6_pulls_13 p1 p2 p3) FU (v6, p3, S) else none)
def bfX6_cancels_178 (p1 : Int32) (K96 : Int32 × (MS) → Option (MS)) (x2 : Int32) (s1 : Int32) (s2 : Int32) (S : MS) : Option (MS) :=
  (if okI s1 5130 then nm (upd S.1 (s1).toNatClampNeg s2, S.2) fun S8 => K96 ((x2 + (1 : Int32)), S8) else none)
def bfX6_cancels_139 (p1 : Int32) (K96 : Int32 × (MS) → Option (MS)) (x2 : Int32) (s1 : Int32) (s2 : Int32) (S : MS) : Option (MS) :=
  (if okI s1 5130 then nm (upd S.1 (s1).toNatClampNeg s2, S.2) fun S9 => (if okI ((595 : Int32) + x2) 5130 then (if (S9.1 (((595 : Int32) + x2)).toNatClampNeg) = p1 then bfX6_cancels_178 p1 K96 x2 (((595 : Int32) + x2)) ((-9 : Int32)) S9 else (if okI ((595 : Int32) + x2) 5130 then bfX6_cancels_178 p1 K96 x2 (((595 : Int32) + x2)) ((S9.1 (((595 : Int32) + x2)).toNatClampNeg)) S9 else none)) else none) else none)
def bfX6_cancels_96 (p1 : Int32) (K96 : Int32 × (MS) → Option (MS)) (x : Int32 × (MS)) : Option (MS) :=
  match x with
  | (x2, S) => (if (4 : Int32) ≤ x2 then ob (fX6_leaves p1 (0 : Int32) S) fun u10 => some u10 else (if okI ((591 : Int32) + x2) 5130 then (if (S.1 (((591 : Int32) + x2)).toNatClampNeg) = p1 then bfX6_cancels_139 p1 K96 x2 (((591 : Int32) + x2)) ((-9 : Int32)) S else (if okI ((591 : Int32) + x2) 5130 then bfX6_cancels_139 p1 K96 x2 (((591 : Int32) + x2)) ((S.1 (((591 : Int32) + x2)).toNatClampNeg)) S else none)) else none))
def bfX6_cancels_88 (p1 : Int32) (K58 : Int32 × (MS) → Option (MS)) (x2 : Int32) (S : MS) : Option (MS) :=
  K58 ((x2 + (-1 : Int32)), S)
def bfX6_cancels_58 (p1 : Int32) (K58 : Int32 × (MS) → Option (MS)) (x : Int32 × (MS)) : Option (MS) :=
  match x with
  | (x2, S) => (if x2 < 0 then iter (bfX6_cancels_96 p1) FU ((0 : Int32), S) else (if okI ((575 : Int32) + x2) 5130 then (if (S.1 (((575 : Int32) + x2)).toNatClampNeg) = p1 then ob (fX6_pulls (574 : Int32) (575 : Int32) x2 S) fun u11 => bfX6_cancels_88 p1 K58 x2 u11.2 else bfX6_cancels_88 p1 K58 x2 S) else none))
def bfX6_cancels_41 (p1 : Int32) (K11 : Int32 × (MS) → Option (MS)) (x2 : Int32) (S : MS) : Option (MS) :=
  K11 ((x2 + (-1 : Int32)), S)
def bfX6_cancels_11 (p1 : Int32) (K11 : Int32 × (MS) → Option (MS)) (x : Int32 × (MS)) : Option (MS) :=
  match x with
  | (x2, S) => (if x2 < 0 then nm (((S.1 ((574 : Int32)).toNatClampNeg) - (1 : Int32))) fun v12 => iter (bfX6_cancels_58 p1) FU (v12, S) else (if okI ((558 : Int32) + x2) 5130 then (if (S.1 (((558 : Int32) + x2)).toNatClampNeg) = p1 then ob (fX6_pulls (557 : Int32) (558 : Int32) x2 S) fun u13 => bfX6_cancels_41 p1 K11 x2 u13.2 else bfX6_cancels_41 p1 K11 x2 S) else none))
def fX6_cancels (p1 : Int32) (S : MS) : Option (MS) :=
  nm (((S.1 ((557 : Int32)).toNatClampNeg) - (1 : Int32))) fun v14 => iter (bfX6_cancels_11 p1) FU (v14, S)
def fX6_counts (p1 : Int32) (p2 : Int32) (p3 : Int32) (S : MS) : Option (MS) :=
  (if okI (((90 : Int32) + ((8 : Int32) * p1)) + p2) 5130 then (if okI (((90 : Int32) + ((8 : Int32) * p1)) + p2) 5130 then nm (upd S.1 ((((90 : Int32) + ((8 : Int32) * p1)) + p2)).toNatClampNeg ((S.1 ((((90 : Int32) + ((8 : Int32) * p1)) + p2)).toNatClampNeg) + p3), S.2) fun S2 => some S2 else none) else none)
def fX6_draws  (S : MS) : Option (Int32 × (MS)) :=
  nm (upd S.1 ((184 : Int32)).toNatClampNeg (((S.1 ((184 : Int32)).toNatClampNeg) * (1103515245 : Int32)) + (12345 : Int32)), S.2) fun S2 => some (((((S2.1 ((184 : Int32)).toNatClampNeg)).toUInt32 >>> (((16 : Int32)).toUInt32 &&& Int32.toUInt32 31)).toInt32 &&& (32767 : Int32)), S2)
def bfX6_least_10 (p1 : Int32) (p2 : Int32) (s0 : Int32) : Option (Int32) :=
  some s0
def fX6_least (p1 : Int32) (p2 : Int32) : Option (Int32) :=
  (if p2 ≤ p1 then bfX6_least_10 p1 p2  p2 else bfX6_least_10 p1 p2  p1)
def fX6_of (p1 : Int32) (p2 : Int32) (S : MS) : Option (Int32) :=
  (if okI (((0 : Int32) + ((12 : Int32) * p1)) + p2) 5130 then some (S.1 ((((0 : Int32) + ((12 : Int32) * p1)) + p2)).toNatClampNeg) else none)
def fX6_row (p1 : Int32) (S : MS) : Option (Int32) :=
  some ((189 : Int32) + ((8 : Int32) * p1))
def bfX6_delayOf_150 (p1 : Int32) (x3 : Int32) (x4 : Int32) (s0 : Int32) (S : MS) : Option (Int32 × (MS)) :=
  ob (fX6_draws  S) fun u14 => (if (((2 : Int32) * s0) + (1 : Int32)) = 0 then none else ob (fX6_least x4 ((x3 + (u14.1 - u14.1 / (((2 : Int32) * s0) + (1 : Int32)) * (((2 : Int32) * s0) + (1 : Int32)))))) fun u15 => some (u15, u14.2))
def fX6_delayOf (p1 : Int32) (S : MS) : Option (Int32 × (MS)) :=
  ob (fX6_row p1 S) fun u16 => (if okI (u16 + (1 : Int32)) 5130 then nm ((S.1 ((u16 + (1 : Int32))).toNatClampNeg)) fun v17 => ob (fX6_of v17 (5 : Int32) S) fun u18 => ob (fX6_of v17 (6 : Int32) S) fun u19 => ob (fX6_row p1 S) fun u20 => (if okI (u20 + (3 : Int32)) 5130 then ob (fX6_least u19 ((u18 <<< (((S.1 ((u20 + (3 : Int32))).toNatClampNeg) - (1 : Int32)) &&& 31)))) fun u21 => ob (fX6_of v17 (7 : Int32) S) fun u22 => (if u22 = (0 : Int32) then some (u21, S) else (if u22 = (1 : Int32) then ob (fX6_draws  S) fun u26 => (if u21 = 0 then none else some (((1 : Int32) + (u26.1 - u26.1 / u21 * u21)), u26.2)) else (if u22 = (2 : Int32) then ob (fX6_draws  S) fun u25 => (if ((u21 / (2 : Int32)) + (1 : Int32)) = 0 then none else some (((u21 - (u21 / (2 : Int32))) + (u25.1 - u25.1 / ((u21 / (2 : Int32)) + (1 : Int32)) * ((u21 / (2 : Int32)) + (1 : Int32)))), u25.2)) else ob (fX6_row p1 S) fun u23 => (if okI (u23 + (6 : Int32)) 5130 then (if (S.1 ((u23 + (6 : Int32))).toNatClampNeg) = 0 then bfX6_delayOf_150 p1  u18 u19 u18 S else ob (fX6_row p1 S) fun u24 => (if okI (u24 + (6 : Int32)) 5130 then bfX6_delayOf_150 p1  u18 u19 ((S.1 ((u24 + (6 : Int32))).toNatClampNeg)) S else none)) else none)))) else none) else none)
def bfX6_dies_6 (p1 : Int32) (K6 : Int32 × (MS) → Option (MS)) (x : Int32 × (MS)) : Option (MS) :=
  match x with
  | (x2, S) => ob (fX6_row (((S.1 ((188 : Int32)).toNatClampNeg) - (1 : Int32))) S) fun u5 => (if u5 ≤ x2 then nm (upd S.1 ((188 : Int32)).toNatClampNeg ((S.1 ((188 : Int32)).toNatClampNeg) - (1 : Int32)), S.2) fun S6 => some S6 else (if okI (x2 + (8 : Int32)) 5130 then (if okI x2 5130 then nm (upd S.1 (x2).toNatClampNeg (S.1 ((x2 + (8 : Int32))).toNatClampNeg), S.2) fun S7 => K6 ((x2 + (1 : Int32)), S7) else none) else none))
def fX6_dies (p1 : Int32) (S : MS) : Option (MS) :=
  ob (fX6_row p1 S) fun u8 => iter (bfX6_dies_6 p1) FU (u8, S)
def bfX6_fails_111 (p1 : Int32) (p2 : Int32) (x3 : Int32) (S : MS) : Option (MS) :=
  ob (fX6_counts x3 (3 : Int32) (1 : Int32) S) fun u19 => ob (fX6_dies p1 u19) fun u20 => some u20
def bfX6_fails_82 (p1 : Int32) (p2 : Int32) (x3 : Int32) (x4 : Int32) (s0 : Int32) (S : MS) : Option (MS) :=
  (if x4 = 0 then bfX6_fails_111 p1 p2  x3 S else ob (fX6_row p1 S) fun u21 => (if okI (u21 + (2 : Int32)) 5130 then (if ((S.2.2 5) + s0) < (S.1 ((u21 + (2 : Int32))).toNatClampNeg) then ob (fX6_counts x3 (7 : Int32) (-10 : Int32) S) fun u22 => ob (fX6_row p1 u22) fun u23 => (if okI (u23 + (4 : Int32)) 5130 then nm (upd u22.1 ((u23 + (4 : Int32))).toNatClampNeg (1 : Int32), u22.2) fun S24 => ob (fX6_row p1 S24) fun u25 => (if okI (u25 + (5 : Int32)) 5130 then nm (upd S24.1 ((u25 + (5 : Int32))).toNatClampNeg ((S24.2.2 5) + s0), S24.2) fun S26 => ob (fX6_row p1 S26) fun u27 => (if okI (u27 + (6 : Int32)) 5130 then nm (upd S26.1 ((u27 + (6 : Int32))).toNatClampNeg s0, S26.2) fun S28 => ob (fX6_row p1 S28) fun u29 => (if okI (u29 + (7 : Int32)) 5130 then nm (upd S28.1 ((u29 + (7 : Int32))).toNatClampNeg (-9 : Int32), S28.2) fun S30 => some S30 else none) else none) else none) else none) else bfX6_fails_111 p1 p2  x3 S) else none))
def bfX6_fails_66 (p1 : Int32) (p2 : Int32) (x3 : Int32) (s0 : Int32) (S : MS) : Option (MS) :=
  (if s0 = 0 then bfX6_fails_82 p1 p2  x3 s0 ((0 : Int32)) S else ob (fX6_delayOf p1 S) fun u31 => bfX6_fails_82 p1 p2  x3 s0 u31.1 u31.2)
def bfX6_fails_65 (p1 : Int32) (p2 : Int32) (x3 : Int32) (S : MS) : Option (MS) :=
  bfX6_fails_66 p1 p2  x3 ((0 : Int32)) S
def fX6_fails (p1 : Int32) (p2 : Int32) (S : MS) : Option (MS) :=
  ob (fX6_row p1 S) fun u32 => (if okI (u32 + (1 : Int32)) 5130 then nm ((S.1 ((u32 + (1 : Int32))).toNatClampNeg)) fun v33 => ob (fX6_counts v33 p2 (1 : Int32) S) fun u34 => ob (fX6_row p1 u34) fun u35 => (if okI (u35 + (3 : Int32)) 5130 then ob (fX6_of v33 (3 : Int32) u34) fun u36 => (if u36 ≤ (u34.1 ((u35 + (3 : Int32))).toNatClampNeg) then bfX6_fails_65 p1 p2  v33 u34 else (if okI (((90 : Int32) + ((8 : Int32) * v33)) + (7 : Int32)) 5130 then (if (u34.1 ((((90 : Int32) + ((8 : Int32) * v33)) + (7 : Int32))).toNatClampNeg) < (10 : Int32) then bfX6_fails_65 p1 p2  v33 u34 else bfX6_fails_66 p1 p2  v33 ((1 : Int32)) u34) else none)) else none) else none)
def bfX6_isOn_19 (p1 : Int32) (S : MS) (s0 : Int32) : Option (Int32) :=
  (if s0 = 0 ∨ s0 = 1 then some s0 else none)
def fX6_isOn (p1 : Int32) (S : MS) : Option (Int32) :=
  (if okI ((179 : Int32) + p1) 5130 then (if (S.1 (((179 : Int32) + p1)).toNatClampNeg) = (1 : Int32) then bfX6_isOn_19 p1 S  ((1 : Int32)) else bfX6_isOn_19 p1 S  ((0 : Int32))) else none)
def bfX6_placeOf_2 (p1 : Int32) (S : MS) (K2 : Int32 → Option (Int32)) (x2 : Int32) : Option (Int32) :=
  (if (S.1 ((188 : Int32)).toNatClampNeg) ≤ x2 then some (-9 : Int32) else ob (fX6_row x2 S) fun u2 => (if okI (u2 + (0 : Int32)) 5130 then (if (S.1 ((u2 + (0 : Int32))).toNatClampNeg) = p1 then some x2 else K2 ((x2 + (1 : Int32)))) else none))
def fX6_placeOf (p1 : Int32) (S : MS) : Option (Int32) :=
  iter (bfX6_placeOf_2 p1 S) FU ((0 : Int32))
def bfX6_abandons_47 (p1 : Int32) (x2 : Int32) (S : MS) : Option (MS) :=
  ob (fX6_fails x2 (5 : Int32) S) fun u9 => some u9
def fX6_abandons (p1 : Int32) (S : MS) : Option (MS) :=
  ob (fX6_placeOf p1 S) fun u10 => ob (fX6_row u10 S) fun u11 => (if okI (u11 + (7 : Int32)) 5130 then nm ((S.1 ((u11 + (7 : Int32))).toNatClampNeg)) fun v12 => ob (fX6_slot v12 S) fun u13 => (if okI (u13 + (0 : Int32)) 5130 then nm (upd S.1 ((u13 + (0 : Int32))).toNatClampNeg (-8 : Int32), S.2) fun S14 => ob (fX6_isOn (2 : Int32) S14) fun u15 => (if u15 = 0 then bfX6_abandons_47 p1  u10 S14 else ob (fX6_cancels v12 S14) fun u16 => bfX6_abandons_47 p1  u10 u16) else none) else none)
def bfX6_amplification_76 (S : MS) (s0 : Int32) : Option (Int32) :=
  some s0
def bfX6_amplification_7 (S : MS) (K7 : Int64 × Int64 × Int32 → Option (Int32)) (x : Int64 × Int64 × Int32) : Option (Int32) :=
  match x with
  | (x1, x3, x5) => (if (6 : Int32) ≤ x5 then (if (lg_cmp x3 (0 : Int64)) = 0 then bfX6_amplification_76 S  ((0 : Int32)) else (if x3 = 0 then none else bfX6_amplification_76 S  (((((100 : Int64) * x1) / x3)).toInt32))) else (if okI (((90 : Int32) + ((8 : Int32) * x5)) + (1 : Int32)) 5130 then nm ((x1 + ((S.1 ((((90 : Int32) + ((8 : Int32) * x5)) + (1 : Int32))).toNatClampNeg)).toInt64)) fun v3 => (if okI (((90 : Int32) + ((8 : Int32) * x5)) + (0 : Int32)) 5130 then nm ((x3 + ((S.1 ((((90 : Int32) + ((8 : Int32) * x5)) + (0 : Int32))).toNatClampNeg)).toInt64)) fun v4 => K7 (v3, v4, (x5 + (1 : Int32))) else none) else none))
def fX6_amplification (S : MS) : Option (Int32) :=
  iter (bfX6_amplification_7 S) FU ((0 : Int64), (0 : Int64), (0 : Int32))
def bfX6_answers_111 (p1 : Int32) (S : MS) : Option (MS) :=
  some S
def bfX6_answers_26 (p1 : Int32) (x2 : Int32) (s1 : Int32) (s2 : Int32) (S : MS) : Option (MS) :=
  ob (fX6_leaves s1 s2 S) fun u12 => (if x2 = (-8 : Int32) then bfX6_answers_111 p1  u12 else ob (fX6_placeOf x2 u12) fun u13 => ob (fX6_row u13 u12) fun u14 => (if okI (u14 + (1 : Int32)) 5130 then nm ((u12.1 ((u14 + (1 : Int32))).toNatClampNeg)) fun v15 => ob (fX6_counts v15 (2 : Int32) (1 : Int32) u12) fun u16 => ob (fX6_row u13 u16) fun u17 => (if okI (u17 + (3 : Int32)) 5130 then (if okI ((((138 : Int32) + ((6 : Int32) * v15)) + (u16.1 ((u17 + (3 : Int32))).toNatClampNeg)) - (1 : Int32)) 5130 then (if okI ((((138 : Int32) + ((6 : Int32) * v15)) + (u16.1 ((u17 + (3 : Int32))).toNatClampNeg)) - (1 : Int32)) 5130 then nm (upd u16.1 (((((138 : Int32) + ((6 : Int32) * v15)) + (u16.1 ((u17 + (3 : Int32))).toNatClampNeg)) - (1 : Int32))).toNatClampNeg ((u16.1 (((((138 : Int32) + ((6 : Int32) * v15)) + (u16.1 ((u17 + (3 : Int32))).toNatClampNeg)) - (1 : Int32))).toNatClampNeg) + (1 : Int32)), u16.2) fun S18 => nm (S18.1, S18.2.1, upd S18.2.2 6 ((S18.2.2 6) + (1 : Int32))) fun S19 => ob (fX6_dies u13 S19) fun u20 => bfX6_answers_111 p1  u20 else none) else none) else none) else none))
def fX6_answers (p1 : Int32) (S : MS) : Option (MS) :=
  ob (fX6_slot p1 S) fun u21 => (if okI (u21 + (0 : Int32)) 5130 then nm ((S.1 ((u21 + (0 : Int32))).toNatClampNeg)) fun v22 => (if v22 = (-8 : Int32) then bfX6_answers_26 p1  v22 p1 ((0 : Int32)) S else bfX6_answers_26 p1  v22 p1 ((1 : Int32)) S) else none)
def bfX6_in_15 (p1 : Int32) (p2 : Int32) (p3 : Int32) (s0 : Int32) : Option (Int32) :=
  (if s0 = 0 ∨ s0 = 1 then some s0 else none)
def bfX6_in_14 (p1 : Int32) (p2 : Int32) (p3 : Int32) : Option (Int32) :=
  bfX6_in_15 p1 p2 p3  ((0 : Int32))
def fX6_in (p1 : Int32) (p2 : Int32) (p3 : Int32) : Option (Int32) :=
  (if p1 < p2 then bfX6_in_14 p1 p2 p3 else (if p3 < p1 then bfX6_in_14 p1 p2 p3 else bfX6_in_15 p1 p2 p3  ((1 : Int32))))
def bfX6_ownerOf_23 (p1 : Int32) (S : MS) (s0 : Int32) : Option (Int32) :=
  some s0
def fX6_ownerOf (p1 : Int32) (S : MS) : Option (Int32) :=
  (if p1 = (-9 : Int32) then bfX6_ownerOf_23 p1 S  ((-9 : Int32)) else ob (fX6_slot p1 S) fun u2 => (if okI (u2 + (0 : Int32)) 5130 then bfX6_ownerOf_23 p1 S  ((S.1 ((u2 + (0 : Int32))).toNatClampNeg)) else none))
def bfX6_atWorker_37 (p1 : Int32) (p2 : Int32) (S : MS) (s0 : Int32) : Option (Int32) :=
  some s0
def bfX6_atWorker_27 (p1 : Int32) (p2 : Int32) (S : MS) (s2 : Int32) : Option (Int32) :=
  (if okI (s2 + p2) 5130 then ob (fX6_ownerOf ((S.1 ((s2 + p2)).toNatClampNeg)) S) fun u3 => bfX6_atWorker_37 p1 p2 S  u3 else none)
def fX6_atWorker (p1 : Int32) (p2 : Int32) (S : MS) : Option (Int32) :=
  ob (fX6_in p2 (0 : Int32) (3 : Int32)) fun u4 => (if u4 = 0 then bfX6_atWorker_37 p1 p2 S  ((-1 : Int32)) else (if p1 = 0 then bfX6_atWorker_27 p1 p2 S  ((591 : Int32)) else bfX6_atWorker_27 p1 p2 S  ((595 : Int32))))
def bfX6_copies_2 (p1 : Int32) (p2 : Int32) (K2 : Int32 × (MS) → Option (MS)) (x : Int32 × (MS)) : Option (MS) :=
  match x with
  | (x3, S) => (if (855 : Int32) ≤ x3 then some S else (if okI (((855 : Int32) * p1) + x3) 5130 then (if okI (((855 : Int32) * p2) + x3) 5130 then nm (upd S.1 ((((855 : Int32) * p2) + x3)).toNatClampNeg (S.1 ((((855 : Int32) * p1) + x3)).toNatClampNeg), S.2) fun S2 => K2 ((x3 + (1 : Int32)), S2) else none) else none))
def fX6_copies (p1 : Int32) (p2 : Int32) (S : MS) : Option (MS) :=
  iter (bfX6_copies_2 p1 p2) FU ((0 : Int32), S)
def bfX6_begins_39  (S : MS) : Option (MS) :=
  nm (S.1, S.2.1, upd S.2.2 1 ((S.2.2 1) + (1 : Int32))) fun S5 => ob (fX6_copies (0 : Int32) (S5.2.2 1) S5) fun u6 => some u6
def bfX6_begins_10  (K10 : Int32 × (MS) → Option (MS)) (x : Int32 × (MS)) : Option (MS) :=
  match x with
  | (x1, S) => (if (4 : Int32) ≤ x1 then nm (S.1, S.2.1, upd S.2.2 1 ((S.2.2 1) - (1 : Int32))) fun S7 => bfX6_begins_39   S7 else ob (fX6_copies ((x1 + (1 : Int32))) x1 S) fun u8 => K10 ((x1 + (1 : Int32)), u8))
def fX6_begins  (S : MS) : Option (MS) :=
  (if (S.2.2 1) = (4 : Int32) then iter (bfX6_begins_10) FU ((1 : Int32), S) else bfX6_begins_39   S)
def bfX6_freeSlot_2 (S : MS) (K2 : Int32 → Option (Int32)) (x1 : Int32) : Option (Int32) :=
  ob (fX6_slot x1 S) fun u2 => (if okI (u2 + (9 : Int32)) 5130 then (if (S.1 ((u2 + (9 : Int32))).toNatClampNeg) = (1 : Int32) then K2 ((x1 + (1 : Int32))) else some x1) else none)
def fX6_freeSlot (S : MS) : Option (Int32) :=
  iter (bfX6_freeSlot_2 S) FU ((0 : Int32))
def fX6_joins (p1 : Int32) (p2 : Int32) (p3 : Int32) (S : MS) : Option (MS) :=
  (if okI p1 5130 then (if okI (p2 + (S.1 (p1).toNatClampNeg)) 5130 then nm (upd S.1 ((p2 + (S.1 (p1).toNatClampNeg))).toNatClampNeg p3, S.2) fun S3 => (if okI p1 5130 then (if okI p1 5130 then nm (upd S3.1 (p1).toNatClampNeg ((S3.1 (p1).toNatClampNeg) + (1 : Int32)), S3.2) fun S4 => some S4 else none) else none) else none) else none)
def bfX6_loses_35 (p1 : Int32) (p2 : Int32) (S : MS) : Option (MS) :=
  some S
def fX6_loses (p1 : Int32) (p2 : Int32) (S : MS) : Option (MS) :=
  ob (fX6_slot p1 S) fun u6 => (if okI (u6 + (0 : Int32)) 5130 then nm ((S.1 ((u6 + (0 : Int32))).toNatClampNeg)) fun v7 => ob (fX6_leaves p1 (0 : Int32) S) fun u8 => (if v7 = (-8 : Int32) then bfX6_loses_35 p1 p2  u8 else ob (fX6_placeOf v7 u8) fun u9 => ob (fX6_fails u9 p2 u8) fun u10 => bfX6_loses_35 p1 p2  u10) else none)
def bfX6_sends_189 (p1 : Int32) (x2 : Int32) (x3 : Int32) (x4 : Int32) (S : MS) : Option (MS) :=
  ob (fX6_freeSlot  S) fun u53 => ob (fX6_slot u53 S) fun u54 => (if okI (u54 + (9 : Int32)) 5130 then nm (upd S.1 ((u54 + (9 : Int32))).toNatClampNeg (1 : Int32), S.2) fun S55 => ob (fX6_slot u53 S55) fun u56 => (if okI (u56 + (0 : Int32)) 5130 then nm (upd S55.1 ((u56 + (0 : Int32))).toNatClampNeg x2, S55.2) fun S57 => ob (fX6_slot u53 S57) fun u58 => (if okI (u58 + (1 : Int32)) 5130 then nm (upd S57.1 ((u58 + (1 : Int32))).toNatClampNeg x4, S57.2) fun S59 => ob (fX6_slot u53 S59) fun u60 => ob (fX6_of x3 (8 : Int32) S59) fun u61 => (if okI (u60 + (2 : Int32)) 5130 then nm (upd S59.1 ((u60 + (2 : Int32))).toNatClampNeg u61, S59.2) fun S62 => ob (fX6_slot u53 S62) fun u63 => ob (fX6_of x3 (8 : Int32) S62) fun u64 => (if okI (u63 + (3 : Int32)) 5130 then nm (upd S62.1 ((u63 + (3 : Int32))).toNatClampNeg u64, S62.2) fun S65 => ob (fX6_slot u53 S65) fun u66 => ob (fX6_of x3 (9 : Int32) S65) fun u67 => (if okI (u66 + (4 : Int32)) 5130 then nm (upd S65.1 ((u66 + (4 : Int32))).toNatClampNeg u67, S65.2) fun S68 => ob (fX6_slot u53 S68) fun u69 => ob (fX6_of x3 (9 : Int32) S68) fun u70 => (if okI (u69 + (5 : Int32)) 5130 then nm (upd S68.1 ((u69 + (5 : Int32))).toNatClampNeg u70, S68.2) fun S71 => ob (fX6_slot u53 S71) fun u72 => (if okI (u72 + (6 : Int32)) 5130 then nm (upd S71.1 ((u72 + (6 : Int32))).toNatClampNeg (0 : Int32), S71.2) fun S73 => ob (fX6_slot u53 S73) fun u74 => (if okI (u74 + (7 : Int32)) 5130 then nm (upd S73.1 ((u74 + (7 : Int32))).toNatClampNeg (1 : Int32), S73.2) fun S75 => ob (fX6_slot u53 S75) fun u76 => (if okI (u76 + (8 : Int32)) 5130 then nm (upd S75.1 ((u76 + (8 : Int32))).toNatClampNeg (-9 : Int32), S75.2) fun S77 => ob (fX6_placeOf x2 S77) fun u78 => ob (fX6_row u78 S77) fun u79 => (if okI (u79 + (7 : Int32)) 5130 then nm (upd S77.1 ((u79 + (7 : Int32))).toNatClampNeg u53, S77.2) fun S80 => ob (fX6_joins (557 : Int32) (558 : Int32) u53 S80) fun u81 => some u81 else none) else none) else none) else none) else none) else none) else none) else none) else none) else none) else none)
def fX6_sends (p1 : Int32) (S : MS) : Option (MS) :=
  ob (fX6_row p1 S) fun u82 => (if okI (u82 + (0 : Int32)) 5130 then nm ((S.1 ((u82 + (0 : Int32))).toNatClampNeg)) fun v83 => ob (fX6_row p1 S) fun u84 => (if okI (u84 + (1 : Int32)) 5130 then nm ((S.1 ((u84 + (1 : Int32))).toNatClampNeg)) fun v85 => ob (fX6_counts v85 (1 : Int32) (1 : Int32) S) fun u86 => nm (u86.1, u86.2.1, upd u86.2.2 7 ((u86.2.2 7) + (1 : Int32))) fun S87 => ob (fX6_row p1 S87) fun u88 => (if okI (u88 + (3 : Int32)) 5130 then (if okI (u88 + (3 : Int32)) 5130 then nm (upd S87.1 ((u88 + (3 : Int32))).toNatClampNeg ((S87.1 ((u88 + (3 : Int32))).toNatClampNeg) + (1 : Int32)), S87.2) fun S89 => ob (fX6_row p1 S89) fun u90 => (if okI (u90 + (4 : Int32)) 5130 then nm (upd S89.1 ((u90 + (4 : Int32))).toNatClampNeg (0 : Int32), S89.2) fun S91 => ob (fX6_row p1 S91) fun u92 => ob (fX6_of v85 (4 : Int32) S91) fun u93 => ob (fX6_row p1 S91) fun u94 => (if okI (u94 + (2 : Int32)) 5130 then ob (fX6_least (((S91.2.2 5) + u93)) ((S91.1 ((u94 + (2 : Int32))).toNatClampNeg))) fun u95 => (if okI (u92 + (5 : Int32)) 5130 then nm (upd S91.1 ((u92 + (5 : Int32))).toNatClampNeg u95, S91.2) fun S96 => ob (fX6_row p1 S96) fun u97 => (if okI (u97 + (7 : Int32)) 5130 then nm (upd S96.1 ((u97 + (7 : Int32))).toNatClampNeg (-9 : Int32), S96.2) fun S98 => ob (fX6_row p1 S98) fun u99 => (if okI (u99 + (5 : Int32)) 5130 then nm ((S98.1 ((u99 + (5 : Int32))).toNatClampNeg)) fun v100 => (if (S98.1 ((557 : Int32)).toNatClampNeg) = (S98.1 ((175 : Int32)).toNatClampNeg) then ob (fX6_isOn (0 : Int32) S98) fun u101 => (if u101 = 0 then ob (fX6_fails p1 (4 : Int32) S98) fun u104 => some u104 else ob (fX6_pulls (557 : Int32) (558 : Int32) (0 : Int32) S98) fun u102 => ob (fX6_loses u102.1 (4 : Int32) u102.2) fun u103 => bfX6_sends_189 p1  v83 v85 v100 u103) else bfX6_sends_189 p1  v83 v85 v100 S98) else none) else none) else none) else none) else none) else none) else none) else none) else none)
def fX6_creates (p1 : Int32) (S : MS) : Option (MS) :=
  ob (fX6_counts p1 (0 : Int32) (1 : Int32) S) fun u24 => nm ((((90 : Int32) + ((8 : Int32) * p1)) + (7 : Int32))) fun v25 => ob (fX6_of p1 (10 : Int32) u24) fun u26 => nm (((10 : Int32) * u26)) fun v27 => (if okI v25 5130 then ob (fX6_of p1 (11 : Int32) u24) fun u28 => ob (fX6_least v27 (((u24.1 (v25).toNatClampNeg) + u28))) fun u29 => (if okI v25 5130 then nm (upd u24.1 (v25).toNatClampNeg u29, u24.2) fun S30 => (if (S30.1 ((188 : Int32)).toNatClampNeg) = (16 : Int32) then ob (fX6_counts p1 (3 : Int32) (1 : Int32) S30) fun u46 => some u46 else nm ((S30.1 ((188 : Int32)).toNatClampNeg)) fun v31 => nm (upd S30.1 ((188 : Int32)).toNatClampNeg ((S30.1 ((188 : Int32)).toNatClampNeg) + (1 : Int32)), S30.2) fun S32 => ob (fX6_row v31 S32) fun u33 => (if okI (u33 + (0 : Int32)) 5130 then nm (upd S32.1 ((u33 + (0 : Int32))).toNatClampNeg (S32.1 ((183 : Int32)).toNatClampNeg), S32.2) fun S34 => nm (upd S34.1 ((183 : Int32)).toNatClampNeg ((S34.1 ((183 : Int32)).toNatClampNeg) + (1 : Int32)), S34.2) fun S35 => ob (fX6_row v31 S35) fun u36 => (if okI (u36 + (1 : Int32)) 5130 then nm (upd S35.1 ((u36 + (1 : Int32))).toNatClampNeg p1, S35.2) fun S37 => ob (fX6_row v31 S37) fun u38 => ob (fX6_of p1 (2 : Int32) S37) fun u39 => (if okI (u38 + (2 : Int32)) 5130 then nm (upd S37.1 ((u38 + (2 : Int32))).toNatClampNeg ((S37.2.2 5) + u39), S37.2) fun S40 => ob (fX6_row v31 S40) fun u41 => (if okI (u41 + (3 : Int32)) 5130 then nm (upd S40.1 ((u41 + (3 : Int32))).toNatClampNeg (0 : Int32), S40.2) fun S42 => ob (fX6_row v31 S42) fun u43 => (if okI (u43 + (6 : Int32)) 5130 then nm (upd S42.1 ((u43 + (6 : Int32))).toNatClampNeg (0 : Int32), S42.2) fun S44 => ob (fX6_sends v31 S44) fun u45 => some u45 else none) else none) else none) else none) else none)) else none) else none)
def bfX6_factorOf_77 (p1 : Int32) (S : MS) (s0 : Int32) : Option (Int32) :=
  some s0
def bfX6_factorOf_57 (p1 : Int32) (S : MS) (s0 : Int32) : Option (Int32) :=
  (if s0 = 0 then bfX6_factorOf_77 p1 S  ((1 : Int32)) else (if okI ((72 : Int32) + ((3 : Int32) * p1)) 5130 then bfX6_factorOf_77 p1 S  ((S.1 (((72 : Int32) + ((3 : Int32) * p1))).toNatClampNeg)) else none))
def bfX6_factorOf_56 (p1 : Int32) (S : MS) : Option (Int32) :=
  bfX6_factorOf_57 p1 S  ((0 : Int32))
def fX6_factorOf (p1 : Int32) (S : MS) : Option (Int32) :=
  (if okI ((72 : Int32) + ((3 : Int32) * p1)) 5130 then (if (S.1 (((72 : Int32) + ((3 : Int32) * p1))).toNatClampNeg) ≤ 0 then bfX6_factorOf_56 p1 S else (if okI (((72 : Int32) + ((3 : Int32) * p1)) + (1 : Int32)) 5130 then (if okI (((72 : Int32) + ((3 : Int32) * p1)) + (2 : Int32)) 5130 then ob (fX6_in (S.2.2 5) ((S.1 ((((72 : Int32) + ((3 : Int32) * p1)) + (1 : Int32))).toNatClampNeg)) (((S.1 ((((72 : Int32) + ((3 : Int32) * p1)) + (2 : Int32))).toNatClampNeg) - (1 : Int32)))) fun u2 => (if u2 = 0 then bfX6_factorOf_56 p1 S else bfX6_factorOf_57 p1 S  ((1 : Int32))) else none) else none)) else none)
def bfX6_finishesBack_73 (p1 : Int32) (S : MS) : Option (MS) :=
  some S
def fX6_finishesBack (p1 : Int32) (S : MS) : Option (MS) :=
  (if okI ((595 : Int32) + p1) 5130 then nm ((S.1 (((595 : Int32) + p1)).toNatClampNeg)) fun v7 => (if v7 = (-9 : Int32) then bfX6_finishesBack_73 p1  S else ob (fX6_slot v7 S) fun u8 => (if okI (u8 + (5 : Int32)) 5130 then (if (S.1 ((u8 + (5 : Int32))).toNatClampNeg) = 0 then (if okI ((595 : Int32) + p1) 5130 then nm (upd S.1 (((595 : Int32) + p1)).toNatClampNeg (-9 : Int32), S.2) fun S9 => ob (fX6_slot v7 S9) fun u10 => (if okI (u10 + (8 : Int32)) 5130 then (if okI ((591 : Int32) + (S9.1 ((u10 + (8 : Int32))).toNatClampNeg)) 5130 then nm (upd S9.1 (((591 : Int32) + (S9.1 ((u10 + (8 : Int32))).toNatClampNeg))).toNatClampNeg (-9 : Int32), S9.2) fun S11 => ob (fX6_answers v7 S11) fun u12 => bfX6_finishesBack_73 p1  u12 else none) else none) else none) else bfX6_finishesBack_73 p1  S) else none)) else none)
def bfX6_finishesFront_150 (p1 : Int32) (S : MS) : Option (MS) :=
  some S
def bfX6_finishesFront_49 (p1 : Int32) (S : MS) : Option (MS) :=
  some S
def fX6_finishesFront (p1 : Int32) (S : MS) : Option (MS) :=
  (if okI ((591 : Int32) + p1) 5130 then nm ((S.1 (((591 : Int32) + p1)).toNatClampNeg)) fun v12 => (if v12 = (-9 : Int32) then bfX6_finishesFront_49 p1  S else ob (fX6_slot v12 S) fun u13 => (if okI (u13 + (7 : Int32)) 5130 then (if (S.1 ((u13 + (7 : Int32))).toNatClampNeg) = (2 : Int32) then ob (fX6_slot v12 S) fun u14 => (if okI (u14 + (3 : Int32)) 5130 then (if (S.1 ((u14 + (3 : Int32))).toNatClampNeg) ≤ 0 then ob (fX6_slot v12 S) fun u15 => (if okI (u15 + (4 : Int32)) 5130 then (if (S.1 ((u15 + (4 : Int32))).toNatClampNeg) = 0 then (if okI ((591 : Int32) + p1) 5130 then nm (upd S.1 (((591 : Int32) + p1)).toNatClampNeg (-9 : Int32), S.2) fun S21 => ob (fX6_answers v12 S21) fun u22 => bfX6_finishesFront_150 p1  u22 else none) else (if (S.1 ((574 : Int32)).toNatClampNeg) = (S.1 ((177 : Int32)).toNatClampNeg) then (if okI ((591 : Int32) + p1) 5130 then nm (upd S.1 (((591 : Int32) + p1)).toNatClampNeg (-9 : Int32), S.2) fun S19 => ob (fX6_loses v12 (4 : Int32) S19) fun u20 => bfX6_finishesFront_150 p1  u20 else none) else ob (fX6_slot v12 S) fun u16 => (if okI (u16 + (7 : Int32)) 5130 then nm (upd S.1 ((u16 + (7 : Int32))).toNatClampNeg (3 : Int32), S.2) fun S17 => ob (fX6_joins (574 : Int32) (575 : Int32) v12 S17) fun u18 => bfX6_finishesFront_150 p1  u18 else none))) else none) else bfX6_finishesFront_49 p1  S) else none) else bfX6_finishesFront_49 p1  S) else none)) else none)
def bfX6_gathers_72 (p1 : Int32) (K4 : Int32 × Int32 × (MS) → Option (Int32 × (MS))) (x2 : Int32) (x3 : Int32) (S : MS) : Option (Int32 × (MS)) :=
  K4 (x2, (x3 + (1 : Int32)), S)
def bfX6_gathers_4 (p1 : Int32) (K4 : Int32 × Int32 × (MS) → Option (Int32 × (MS))) (x : Int32 × Int32 × (MS)) : Option (Int32 × (MS)) :=
  match x with
  | (x2, x3, S) => (if (S.1 ((188 : Int32)).toNatClampNeg) ≤ x3 then some (x2, S) else ob (fX6_row x3 S) fun u5 => (if okI (u5 + (4 : Int32)) 5130 then (if (S.1 ((u5 + (4 : Int32))).toNatClampNeg) = p1 then ob (fX6_row x3 S) fun u6 => (if okI (u6 + (5 : Int32)) 5130 then (if (S.1 ((u6 + (5 : Int32))).toNatClampNeg) = (S.2.2 5) then ob (fX6_row x3 S) fun u7 => (if okI (u7 + (0 : Int32)) 5130 then (if okI x2 16 then nm (S.1, upd S.2.1 (x2).toNatClampNeg (S.1 ((u7 + (0 : Int32))).toNatClampNeg), S.2.2) fun S8 => bfX6_gathers_72 p1 K4 ((x2 + (1 : Int32))) x3 S8 else none) else none) else bfX6_gathers_72 p1 K4 x2 x3 S) else none) else bfX6_gathers_72 p1 K4 x2 x3 S) else none))
def fX6_gathers (p1 : Int32) (S : MS) : Option (Int32 × (MS)) :=
  iter (bfX6_gathers_4 p1) FU ((0 : Int32), (0 : Int32), S)
def bfX6_isDue_45 (p1 : Int32) (S : MS) (s0 : Int32) : Option (Int32) :=
  (if s0 = 0 ∨ s0 = 1 then some s0 else none)
def bfX6_isDue_44 (p1 : Int32) (S : MS) : Option (Int32) :=
  bfX6_isDue_45 p1 S  ((0 : Int32))
def fX6_isDue (p1 : Int32) (S : MS) : Option (Int32) :=
  ob (fX6_of p1 (0 : Int32) S) fun u4 => (if u4 ≤ 0 then bfX6_isDue_44 p1 S else ob (fX6_of p1 (1 : Int32) S) fun u5 => (if (S.2.2 5) < u5 then bfX6_isDue_44 p1 S else ob (fX6_of p1 (1 : Int32) S) fun u6 => (if u4 = 0 then none else (if (((S.2.2 5) - u6) - ((S.2.2 5) - u6) / u4 * u4) = 0 then bfX6_isDue_45 p1 S  ((1 : Int32)) else bfX6_isDue_44 p1 S))))
def bfX6_left_38 (p1 : Int32) (S : MS) (s0 : Int32) : Option (Int32) :=
  some s0
def fX6_left (p1 : Int32) (S : MS) : Option (Int32) :=
  ob (fX6_slot p1 S) fun u3 => (if okI (u3 + (0 : Int32)) 5130 then (if (S.1 ((u3 + (0 : Int32))).toNatClampNeg) = (-8 : Int32) then bfX6_left_38 p1 S  ((0 : Int32)) else ob (fX6_slot p1 S) fun u4 => (if okI (u4 + (1 : Int32)) 5130 then bfX6_left_38 p1 S  (((S.1 ((u4 + (1 : Int32))).toNatClampNeg) - (S.2.2 5))) else none)) else none)
def bfX6_takesBack_128 (p1 : Int32) (S : MS) : Option (MS) :=
  some S
def bfX6_takesBack_125 (p1 : Int32) (K0 : (MS) → Option (MS)) (S : MS) : Option (MS) :=
  K0 (S)
def bfX6_takesBack_100 (p1 : Int32) (K0 : (MS) → Option (MS)) (x2 : Int32) (S : MS) : Option (MS) :=
  (if okI ((595 : Int32) + p1) 5130 then nm (upd S.1 (((595 : Int32) + p1)).toNatClampNeg x2, S.2) fun S11 => ob (fX6_slot x2 S11) fun u12 => (if okI (u12 + (7 : Int32)) 5130 then nm (upd S11.1 ((u12 + (7 : Int32))).toNatClampNeg (4 : Int32), S11.2) fun S13 => bfX6_takesBack_125 p1 K0 S13 else none) else none)
def bfX6_takesBack_0 (p1 : Int32) (K0 : (MS) → Option (MS)) (S : (MS)) : Option (MS) :=
  (if okI ((595 : Int32) + p1) 5130 then (if (S.1 (((595 : Int32) + p1)).toNatClampNeg) = (-9 : Int32) then (if (S.1 ((574 : Int32)).toNatClampNeg) ≤ 0 then bfX6_takesBack_128 p1  S else ob (fX6_pulls (574 : Int32) (575 : Int32) (0 : Int32) S) fun u14 => ob (fX6_isOn (1 : Int32) u14.2) fun u15 => (if u15 = 0 then bfX6_takesBack_100 p1 K0 u14.1 u14.2 else ob (fX6_left u14.1 u14.2) fun u16 => ob (fX6_slot u14.1 u14.2) fun u17 => (if okI (u17 + (4 : Int32)) 5130 then (if (u14.2.1 ((u17 + (4 : Int32))).toNatClampNeg) ≤ u16 then bfX6_takesBack_100 p1 K0 u14.1 u14.2 else ob (fX6_slot u14.1 u14.2) fun u18 => (if okI (u18 + (8 : Int32)) 5130 then (if okI ((591 : Int32) + (u14.2.1 ((u18 + (8 : Int32))).toNatClampNeg)) 5130 then nm (upd u14.2.1 (((591 : Int32) + (u14.2.1 ((u18 + (8 : Int32))).toNatClampNeg))).toNatClampNeg (-9 : Int32), u14.2.2) fun S19 => ob (fX6_loses u14.1 (6 : Int32) S19) fun u20 => bfX6_takesBack_125 p1 K0 u20 else none) else none)) else none))) else bfX6_takesBack_128 p1  S) else none)
def fX6_takesBack (p1 : Int32) (S : MS) : Option (MS) :=
  iter (bfX6_takesBack_0 p1) FU (S)
def bfX6_chosen_136 (S : MS) (x2 : Int32) : Option (Int32) :=
  some x2
def bfX6_chosen_129 (S : MS) (K62 : Int32 × Int32 × Int32 → Option (Int32)) (x1 : Int32) (x3 : Int32) (s0 : Int32) : Option (Int32) :=
  K62 (x1, s0, (x3 + (1 : Int32)))
def bfX6_chosen_62 (S : MS) (K62 : Int32 × Int32 × Int32 → Option (Int32)) (x : Int32 × Int32 × Int32) : Option (Int32) :=
  match x with
  | (x1, x2, x3) => (if x1 < x3 then bfX6_chosen_136 S  x2 else (if (S.1 ((178 : Int32)).toNatClampNeg) = (3 : Int32) then (if okI ((558 : Int32) + x3) 5130 then ob (fX6_slot ((S.1 (((558 : Int32) + x3)).toNatClampNeg)) S) fun u4 => (if okI (u4 + (1 : Int32)) 5130 then (if okI ((558 : Int32) + x2) 5130 then ob (fX6_slot ((S.1 (((558 : Int32) + x2)).toNatClampNeg)) S) fun u5 => (if okI (u5 + (1 : Int32)) 5130 then (if (S.1 ((u5 + (1 : Int32))).toNatClampNeg) ≤ (S.1 ((u4 + (1 : Int32))).toNatClampNeg) then bfX6_chosen_129 S K62 x1 x3 x2 else bfX6_chosen_129 S K62 x1 x3 x3) else none) else none) else none) else none) else bfX6_chosen_136 S  x2))
def bfX6_chosen_58 (S : MS) (x1 : Int32) : Option (Int32) :=
  iter (bfX6_chosen_62 S) FU (x1, (0 : Int32), (1 : Int32))
def bfX6_chosen_56 (S : MS) (x1 : Int32) : Option (Int32) :=
  some x1
def fX6_chosen (S : MS) : Option (Int32) :=
  nm (((S.1 ((557 : Int32)).toNatClampNeg) - (1 : Int32))) fun v6 => (if (S.1 ((178 : Int32)).toNatClampNeg) = (1 : Int32) then bfX6_chosen_56 S  v6 else (if (S.1 ((178 : Int32)).toNatClampNeg) = (2 : Int32) then (if ((2 : Int32) * (S.1 ((557 : Int32)).toNatClampNeg)) ≤ (S.1 ((175 : Int32)).toNatClampNeg) then bfX6_chosen_58 S  v6 else bfX6_chosen_56 S  v6) else bfX6_chosen_58 S  v6))
def bfX6_takesFront_134 (p1 : Int32) (S : MS) : Option (MS) :=
  some S
def bfX6_takesFront_131 (p1 : Int32) (K0 : (MS) → Option (MS)) (S : MS) : Option (MS) :=
  K0 (S)
def bfX6_takesFront_92 (p1 : Int32) (K0 : (MS) → Option (MS)) (x2 : Int32) (S : MS) : Option (MS) :=
  (if okI ((591 : Int32) + p1) 5130 then nm (upd S.1 (((591 : Int32) + p1)).toNatClampNeg x2, S.2) fun S13 => ob (fX6_slot x2 S13) fun u14 => (if okI (u14 + (7 : Int32)) 5130 then nm (upd S13.1 ((u14 + (7 : Int32))).toNatClampNeg (2 : Int32), S13.2) fun S15 => ob (fX6_slot x2 S15) fun u16 => (if okI (u16 + (8 : Int32)) 5130 then nm (upd S15.1 ((u16 + (8 : Int32))).toNatClampNeg p1, S15.2) fun S17 => bfX6_takesFront_131 p1 K0 S17 else none) else none) else none)
def bfX6_takesFront_0 (p1 : Int32) (K0 : (MS) → Option (MS)) (S : (MS)) : Option (MS) :=
  (if okI ((591 : Int32) + p1) 5130 then (if (S.1 (((591 : Int32) + p1)).toNatClampNeg) = (-9 : Int32) then (if (S.1 ((557 : Int32)).toNatClampNeg) ≤ 0 then bfX6_takesFront_134 p1  S else ob (fX6_chosen  S) fun u18 => ob (fX6_pulls (557 : Int32) (558 : Int32) u18 S) fun u19 => ob (fX6_isOn (1 : Int32) u19.2) fun u20 => (if u20 = 0 then bfX6_takesFront_92 p1 K0 u19.1 u19.2 else ob (fX6_left u19.1 u19.2) fun u21 => ob (fX6_slot u19.1 u19.2) fun u22 => (if okI (u22 + (2 : Int32)) 5130 then ob (fX6_slot u19.1 u19.2) fun u23 => (if okI (u23 + (4 : Int32)) 5130 then (if ((u19.2.1 ((u22 + (2 : Int32))).toNatClampNeg) + (u19.2.1 ((u23 + (4 : Int32))).toNatClampNeg)) ≤ u21 then bfX6_takesFront_92 p1 K0 u19.1 u19.2 else ob (fX6_loses u19.1 (6 : Int32) u19.2) fun u24 => bfX6_takesFront_131 p1 K0 u24) else none) else none))) else bfX6_takesFront_134 p1  S) else none)
def fX6_takesFront (p1 : Int32) (S : MS) : Option (MS) :=
  iter (bfX6_takesFront_0 p1) FU (S)
def bfX6_works_124  (K2 : Int32 × (MS) → Option (MS)) (x1 : Int32) (S : MS) : Option (MS) :=
  K2 ((x1 + (1 : Int32)), S)
def bfX6_works_57  (K2 : Int32 × (MS) → Option (MS)) (x1 : Int32) (S : MS) : Option (MS) :=
  (if okI ((591 : Int32) + x1) 5130 then nm ((S.1 (((591 : Int32) + x1)).toNatClampNeg)) fun v12 => (if v12 = (-9 : Int32) then bfX6_works_124  K2 x1 S else ob (fX6_slot v12 S) fun u13 => (if okI (u13 + (7 : Int32)) 5130 then (if (S.1 ((u13 + (7 : Int32))).toNatClampNeg) = (2 : Int32) then ob (fX6_slot v12 S) fun u14 => (if okI (u14 + (3 : Int32)) 5130 then (if okI (u14 + (3 : Int32)) 5130 then nm (upd S.1 ((u14 + (3 : Int32))).toNatClampNeg ((S.1 ((u14 + (3 : Int32))).toNatClampNeg) - (1 : Int32)), S.2) fun S15 => ob (fX6_slot v12 S15) fun u16 => (if okI (u16 + (6 : Int32)) 5130 then (if okI (u16 + (6 : Int32)) 5130 then nm (upd S15.1 ((u16 + (6 : Int32))).toNatClampNeg ((S15.1 ((u16 + (6 : Int32))).toNatClampNeg) + (1 : Int32)), S15.2) fun S17 => bfX6_works_124  K2 x1 S17 else none) else none) else none) else none) else bfX6_works_124  K2 x1 S) else none)) else none)
def bfX6_works_2  (K2 : Int32 × (MS) → Option (MS)) (x : Int32 × (MS)) : Option (MS) :=
  match x with
  | (x1, S) => (if (4 : Int32) ≤ x1 then some S else (if okI ((595 : Int32) + x1) 5130 then nm ((S.1 (((595 : Int32) + x1)).toNatClampNeg)) fun v18 => (if v18 = (-9 : Int32) then bfX6_works_57  K2 x1 S else ob (fX6_slot v18 S) fun u19 => (if okI (u19 + (5 : Int32)) 5130 then (if okI (u19 + (5 : Int32)) 5130 then nm (upd S.1 ((u19 + (5 : Int32))).toNatClampNeg ((S.1 ((u19 + (5 : Int32))).toNatClampNeg) - (1 : Int32)), S.2) fun S20 => ob (fX6_slot v18 S20) fun u21 => (if okI (u21 + (6 : Int32)) 5130 then (if okI (u21 + (6 : Int32)) 5130 then nm (upd S20.1 ((u21 + (6 : Int32))).toNatClampNeg ((S20.1 ((u21 + (6 : Int32))).toNatClampNeg) + (1 : Int32)), S20.2) fun S22 => bfX6_works_57  K2 x1 S22 else none) else none) else none) else none)) else none))
def fX6_works  (S : MS) : Option (MS) :=
  iter (bfX6_works_2) FU ((0 : Int32), S)
def bfX6_ticks_356  (s1 : Int32) (s2 : Int32) (S : MS) : Option (MS) :=
  (if okI s1 5130 then nm (upd S.1 (s1).toNatClampNeg s2, S.2) fun S26 => some S26 else none)
def bfX6_ticks_224  (K224 : Int32 × Int32 × (MS) → Option (MS)) (x : Int32 × Int32 × (MS)) : Option (MS) :=
  match x with
  | (x1, x2, S) => (if x1 ≤ x2 then nm (((599 : Int32) + ((4 : Int32) * (((S.2.2 5) - (1 : Int32)) - ((S.2.2 5) - (1 : Int32)) / (64 : Int32) * (64 : Int32))))) fun v27 => (if okI v27 5130 then nm (upd S.1 (v27).toNatClampNeg (S.1 ((557 : Int32)).toNatClampNeg), S.2) fun S28 => (if okI (v27 + (1 : Int32)) 5130 then nm (upd S28.1 ((v27 + (1 : Int32))).toNatClampNeg (S28.2.2 6), S28.2) fun S29 => (if okI (v27 + (2 : Int32)) 5130 then nm (upd S29.1 ((v27 + (2 : Int32))).toNatClampNeg (S29.2.2 7), S29.2) fun S30 => (if okI (v27 + (3 : Int32)) 5130 then nm (upd S30.1 ((v27 + (3 : Int32))).toNatClampNeg (S30.2.2 8), S30.2) fun S31 => (if (S31.1 ((557 : Int32)).toNatClampNeg) ≤ (S31.1 ((187 : Int32)).toNatClampNeg) then bfX6_ticks_356   ((187 : Int32)) ((S31.1 ((187 : Int32)).toNatClampNeg)) S31 else bfX6_ticks_356   ((187 : Int32)) ((S31.1 ((557 : Int32)).toNatClampNeg)) S31) else none) else none) else none) else none) else (if okI x2 16 then ob (fX6_abandons ((S.2.1 (x2).toNatClampNeg)) S) fun u32 => K224 (x1, (x2 + (1 : Int32)), u32) else none))
def bfX6_ticks_200  (K200 : Int32 × (MS) → Option (MS)) (x : Int32 × (MS)) : Option (MS) :=
  match x with
  | (x2, S) => (if (4 : Int32) ≤ x2 then ob (fX6_gathers (0 : Int32) S) fun u33 => iter (bfX6_ticks_224) FU (u33.1, (0 : Int32), u33.2) else ob (fX6_finishesFront x2 S) fun u34 => K200 ((x2 + (1 : Int32)), u34))
def bfX6_ticks_182  (K182 : Int32 × (MS) → Option (MS)) (x : Int32 × (MS)) : Option (MS) :=
  match x with
  | (x2, S) => (if (4 : Int32) ≤ x2 then iter (bfX6_ticks_200) FU ((0 : Int32), S) else ob (fX6_finishesBack x2 S) fun u35 => K182 ((x2 + (1 : Int32)), u35))
def bfX6_ticks_131  (K131 : Int32 × (MS) → Option (MS)) (x : Int32 × (MS)) : Option (MS) :=
  match x with
  | (x2, S) => (if (S.1 ((174 : Int32)).toNatClampNeg) ≤ x2 then ob (fX6_works  S) fun u36 => nm (upd u36.1 ((182 : Int32)).toNatClampNeg ((u36.1 ((182 : Int32)).toNatClampNeg) + (1 : Int32)), u36.2) fun S37 => nm (S37.1, S37.2.1, upd S37.2.2 5 ((S37.2.2 5) + (1 : Int32))) fun S38 => iter (bfX6_ticks_182) FU ((0 : Int32), S38) else ob (fX6_takesFront x2 S) fun u39 => K131 ((x2 + (1 : Int32)), u39))
def bfX6_ticks_106  (K106 : Int32 × (MS) → Option (MS)) (x : Int32 × (MS)) : Option (MS) :=
  match x with
  | (x2, S) => (if (S.1 ((176 : Int32)).toNatClampNeg) ≤ x2 then iter (bfX6_ticks_131) FU ((0 : Int32), S) else ob (fX6_takesBack x2 S) fun u40 => K106 ((x2 + (1 : Int32)), u40))
def bfX6_ticks_79  (K79 : Int32 × Int32 × (MS) → Option (MS)) (x : Int32 × Int32 × (MS)) : Option (MS) :=
  match x with
  | (x1, x2, S) => (if x1 ≤ x2 then iter (bfX6_ticks_106) FU ((0 : Int32), S) else (if okI x2 16 then ob (fX6_placeOf ((S.2.1 (x2).toNatClampNeg)) S) fun u41 => ob (fX6_sends u41 S) fun u42 => K79 (x1, (x2 + (1 : Int32)), u42) else none))
def bfX6_ticks_65  (K29 : Int32 × (MS) → Option (MS)) (x1 : Int32) (S : MS) : Option (MS) :=
  K29 ((x1 + (1 : Int32)), S)
def bfX6_ticks_37  (K29 : Int32 × (MS) → Option (MS)) (K37 : Int32 × Int32 × (MS) → Option (MS)) (x : Int32 × Int32 × (MS)) : Option (MS) :=
  match x with
  | (x1, x2, S) => ob (fX6_isDue x1 S) fun u43 => (if u43 = 0 then bfX6_ticks_65  K29 x1 S else ob (fX6_factorOf x1 S) fun u44 => (if u44 ≤ x2 then bfX6_ticks_65  K29 x1 S else ob (fX6_creates x1 S) fun u45 => K37 (x1, (x2 + (1 : Int32)), u45)))
def bfX6_ticks_29  (K29 : Int32 × (MS) → Option (MS)) (x : Int32 × (MS)) : Option (MS) :=
  match x with
  | (x1, S) => (if (6 : Int32) ≤ x1 then ob (fX6_gathers (1 : Int32) S) fun u46 => iter (bfX6_ticks_79) FU (u46.1, (0 : Int32), u46.2) else iter (bfX6_ticks_37  K29) FU (x1, (0 : Int32), S))
def fX6_ticks  (S : MS) : Option (MS) :=
  nm (S.1, S.2.1, upd S.2.2 5 (S.1 ((182 : Int32)).toNatClampNeg)) fun S47 => nm (S47.1, S47.2.1, upd S47.2.2 6 (0 : Int32)) fun S48 => nm (S48.1, S48.2.1, upd S48.2.2 7 (0 : Int32)) fun S49 => nm (S49.1, S49.2.1, upd S49.2.2 8 (0 : Int32)) fun S50 => iter (bfX6_ticks_29) FU ((0 : Int32), S50)
def bfX6_runs_4 (p1 : Int32) (K4 : Int32 × Int32 × (MS) → Option (Int32 × (MS))) (x : Int32 × Int32 × (MS)) : Option (Int32 × (MS)) :=
  match x with
  | (x2, x3, S) => (if p1 ≤ x3 then some (x2, S) else ob (fX6_ticks  S) fun u3 => nm ((x2 + (u3.2.2 6))) fun v4 => K4 (v4, (x3 + (1 : Int32)), u3))
def fX6_runs (p1 : Int32) (S : MS) : Option (Int32 × (MS)) :=
  iter (bfX6_runs_4 p1) FU ((0 : Int32), (0 : Int32), S)
def fX6_tries (p1 : Int32) (p2 : Int32) (S : MS) : Option (Int32 × (MS)) :=
  ob (fX6_copies (0 : Int32) (5 : Int32) S) fun u7 => nm (upd u7.1 ((178 : Int32)).toNatClampNeg p2, u7.2) fun S8 => nm ((S8.1 ((185 : Int32)).toNatClampNeg)) fun v9 => ob (fX6_runs p1 S8) fun u10 => nm (((u10.2.1 ((185 : Int32)).toNatClampNeg) - v9)) fun v11 => ob (fX6_copies (5 : Int32) (0 : Int32) u10.2) fun u12 => some (v11, u12)
def bfX6_bestDiscipline_64 (p1 : Int32) (K24 : Int32 × Int32 × Int32 × (MS) → Option (Int32 × (MS))) (x2 : Int32) (x4 : Int32) (s0 : Int32) (S : MS) : Option (Int32 × (MS)) :=
  K24 (x2, s0, (x4 + (1 : Int32)), S)
def bfX6_bestDiscipline_51 (p1 : Int32) (K24 : Int32 × Int32 × Int32 × (MS) → Option (Int32 × (MS))) (x3 : Int32) (x4 : Int32) (x5 : Int32) (s0 : Int32) (S : MS) : Option (Int32 × (MS)) :=
  (if x5 ≤ x3 then bfX6_bestDiscipline_64 p1 K24 s0 x4 x3 S else bfX6_bestDiscipline_64 p1 K24 s0 x4 x5 S)
def bfX6_bestDiscipline_24 (p1 : Int32) (K24 : Int32 × Int32 × Int32 × (MS) → Option (Int32 × (MS))) (x : Int32 × Int32 × Int32 × (MS)) : Option (Int32 × (MS)) :=
  match x with
  | (x2, x3, x4, S) => (if (3 : Int32) < x4 then some (x2, S) else ob (fX6_tries p1 x4 S) fun u4 => (if u4.1 ≤ x3 then bfX6_bestDiscipline_51 p1 K24 x3 x4 u4.1 x2 u4.2 else bfX6_bestDiscipline_51 p1 K24 x3 x4 u4.1 x4 u4.2))
def fX6_bestDiscipline (p1 : Int32) (S : MS) : Option (Int32 × (MS)) :=
  ob (fX6_in p1 (1 : Int32) (15 : Int32)) fun u5 => (if u5 = 0 then some ((-1 : Int32), S) else ob (fX6_tries p1 (0 : Int32) S) fun u6 => iter (bfX6_bestDiscipline_24 p1) FU ((0 : Int32), u6.1, (1 : Int32), u6.2))
def bfX6_busy_28 (p1 : Int32) (S : MS) (K4 : Int32 × Int32 → Option (Int32)) (x3 : Int32) (s0 : Int32) (s1 : Int32) : Option (Int32) :=
  nm ((s0 + s1)) fun v2 => K4 (v2, (x3 + (1 : Int32)))
def bfX6_busy_4 (p1 : Int32) (S : MS) (K4 : Int32 × Int32 → Option (Int32)) (x : Int32 × Int32) : Option (Int32) :=
  match x with
  | (x2, x3) => (if (4 : Int32) ≤ x3 then some x2 else (if okI (p1 + x3) 5130 then (if (S.1 ((p1 + x3)).toNatClampNeg) = (-9 : Int32) then bfX6_busy_28 p1 S K4 x3 x2 ((0 : Int32)) else bfX6_busy_28 p1 S K4 x3 x2 ((1 : Int32))) else none))
def fX6_busy (p1 : Int32) (S : MS) : Option (Int32) :=
  iter (bfX6_busy_4 p1 S) FU ((0 : Int32), (0 : Int32))
def fX6_isClient (p1 : Int32) : Option (Int32) :=
  ob (fX6_in p1 (0 : Int32) (5 : Int32)) fun u2 => (if u2 = 0 ∨ u2 = 1 then some u2 else none)
def bfX6_count_35 (p1 : Int32) (p2 : Int32) (S : MS) (s0 : Int32) : Option (Int32) :=
  some s0
def bfX6_count_34 (p1 : Int32) (p2 : Int32) (S : MS) : Option (Int32) :=
  bfX6_count_35 p1 p2 S  ((-1 : Int32))
def fX6_count (p1 : Int32) (p2 : Int32) (S : MS) : Option (Int32) :=
  ob (fX6_isClient p1) fun u3 => (if u3 = 0 then bfX6_count_34 p1 p2 S else ob (fX6_in p2 (0 : Int32) (7 : Int32)) fun u4 => (if u4 = 0 then bfX6_count_34 p1 p2 S else (if okI (((90 : Int32) + ((8 : Int32) * p1)) + p2) 5130 then bfX6_count_35 p1 p2 S  ((S.1 ((((90 : Int32) + ((8 : Int32) * p1)) + p2)).toNatClampNeg)) else none)))
def bfX6_mixedClient_80 (p1 : Int64) (p2 : Int32) (S : MS) (K80 : Int64 × Int32 → Option (Int64)) (x : Int64 × Int32) : Option (Int64) :=
  match x with
  | (x4, x6) => (if (6 : Int32) ≤ x6 then some x4 else (if okI (((138 : Int32) + ((6 : Int32) * p2)) + x6) 5130 then nm ((((31 : Int64) * x4) + ((S.1 ((((138 : Int32) + ((6 : Int32) * p2)) + x6)).toNatClampNeg)).toInt64)) fun v5 => K80 (v5, (x6 + (1 : Int32))) else none))
def bfX6_mixedClient_39 (p1 : Int64) (p2 : Int32) (S : MS) (K39 : Int64 × Int32 → Option (Int64)) (x : Int64 × Int32) : Option (Int64) :=
  match x with
  | (x4, x6) => (if (7 : Int32) < x6 then iter (bfX6_mixedClient_80 p1 p2 S) FU (x4, (0 : Int32)) else (if okI (((90 : Int32) + ((8 : Int32) * p2)) + x6) 5130 then nm ((((31 : Int64) * x4) + ((S.1 ((((90 : Int32) + ((8 : Int32) * p2)) + x6)).toNatClampNeg)).toInt64)) fun v6 => K39 (v6, (x6 + (1 : Int32))) else none))
def bfX6_mixedClient_6 (p1 : Int64) (p2 : Int32) (S : MS) (K6 : Int64 × Int32 → Option (Int64)) (x : Int64 × Int32) : Option (Int64) :=
  match x with
  | (x4, x6) => (if (12 : Int32) ≤ x6 then iter (bfX6_mixedClient_39 p1 p2 S) FU (x4, (0 : Int32)) else ob (fX6_of p2 x6 S) fun u7 => nm ((((31 : Int64) * x4) + (u7).toInt64)) fun v8 => K6 (v8, (x6 + (1 : Int32))))
def fX6_mixedClient (p1 : Int64) (p2 : Int32) (S : MS) : Option (Int64) :=
  iter (bfX6_mixedClient_6 p1 p2 S) FU (p1, (0 : Int32))
def bfX6_propertyOf_116 (p1 : Int32) (p2 : Int32) (S : MS) (s0 : Int32) : Option (Int32) :=
  some s0
def fX6_propertyOf (p1 : Int32) (p2 : Int32) (S : MS) : Option (Int32) :=
  (if p2 = (0 : Int32) then ob (fX6_row p1 S) fun u14 => (if okI (u14 + (1 : Int32)) 5130 then some (S.1 ((u14 + (1 : Int32))).toNatClampNeg) else none) else (if p2 = (1 : Int32) then ob (fX6_row p1 S) fun u13 => (if okI (u13 + (2 : Int32)) 5130 then some (S.1 ((u13 + (2 : Int32))).toNatClampNeg) else none) else (if p2 = (2 : Int32) then ob (fX6_row p1 S) fun u12 => (if okI (u12 + (3 : Int32)) 5130 then some (S.1 ((u12 + (3 : Int32))).toNatClampNeg) else none) else (if p2 = (3 : Int32) then ob (fX6_row p1 S) fun u9 => (if okI (u9 + (4 : Int32)) 5130 then (if (S.1 ((u9 + (4 : Int32))).toNatClampNeg) = (1 : Int32) then bfX6_propertyOf_116 p1 p2 S  ((0 : Int32)) else ob (fX6_row p1 S) fun u10 => (if okI (u10 + (7 : Int32)) 5130 then ob (fX6_slot ((S.1 ((u10 + (7 : Int32))).toNatClampNeg)) S) fun u11 => (if okI (u11 + (7 : Int32)) 5130 then bfX6_propertyOf_116 p1 p2 S  ((S.1 ((u11 + (7 : Int32))).toNatClampNeg)) else none) else none)) else none) else ob (fX6_row p1 S) fun u8 => (if okI (u8 + (5 : Int32)) 5130 then some (S.1 ((u8 + (5 : Int32))).toNatClampNeg) else none)))))
def bfX6_pending_45 (S : MS) (K4 : Int32 × Int32 → Option (Int32)) (x2 : Int32) (s0 : Int32) (s1 : Int32) : Option (Int32) :=
  nm ((s0 + s1)) fun v4 => K4 (v4, (x2 + (1 : Int32)))
def bfX6_pending_4 (S : MS) (K4 : Int32 × Int32 → Option (Int32)) (x : Int32 × Int32) : Option (Int32) :=
  match x with
  | (x1, x2) => (if (24 : Int32) ≤ x2 then some x1 else ob (fX6_slot x2 S) fun u5 => (if okI (u5 + (9 : Int32)) 5130 then (if (S.1 ((u5 + (9 : Int32))).toNatClampNeg) = (1 : Int32) then ob (fX6_slot x2 S) fun u6 => (if okI (u6 + (6 : Int32)) 5130 then bfX6_pending_45 S K4 x2 x1 ((S.1 ((u6 + (6 : Int32))).toNatClampNeg)) else none) else bfX6_pending_45 S K4 x2 x1 ((0 : Int32))) else none))
def fX6_pending (S : MS) : Option (Int32) :=
  iter (bfX6_pending_4 S) FU ((0 : Int32), (0 : Int32))
def bfX6_waiting_4 (S : MS) (K4 : Int32 × Int32 → Option (Int32)) (x : Int32 × Int32) : Option (Int32) :=
  match x with
  | (x1, x2) => (if (S.1 ((188 : Int32)).toNatClampNeg) ≤ x2 then some x1 else ob (fX6_row x2 S) fun u3 => (if okI (u3 + (4 : Int32)) 5130 then nm ((x1 + (S.1 ((u3 + (4 : Int32))).toNatClampNeg))) fun v4 => K4 (v4, (x2 + (1 : Int32))) else none))
def fX6_waiting (S : MS) : Option (Int32) :=
  iter (bfX6_waiting_4 S) FU ((0 : Int32), (0 : Int32))
def fX6_told (p1 : Int32) (S : MS) : Option (Int32) :=
  (if p1 = (0 : Int32) then some (S.1 ((182 : Int32)).toNatClampNeg) else (if p1 = (1 : Int32) then some (S.1 ((188 : Int32)).toNatClampNeg) else (if p1 = (2 : Int32) then ob (fX6_waiting  S) fun u8 => some u8 else (if p1 = (3 : Int32) then some (S.1 ((557 : Int32)).toNatClampNeg) else (if p1 = (4 : Int32) then some (S.1 ((574 : Int32)).toNatClampNeg) else (if p1 = (5 : Int32) then ob (fX6_busy (591 : Int32) S) fun u7 => some u7 else (if p1 = (6 : Int32) then ob (fX6_busy (595 : Int32) S) fun u6 => some u6 else (if p1 = (7 : Int32) then some (S.1 ((185 : Int32)).toNatClampNeg) else (if p1 = (8 : Int32) then some (S.1 ((186 : Int32)).toNatClampNeg) else (if p1 = (9 : Int32) then ob (fX6_pending  S) fun u5 => some u5 else (if p1 = (10 : Int32) then some (S.1 ((187 : Int32)).toNatClampNeg) else (if p1 = (11 : Int32) then some (S.1 ((178 : Int32)).toNatClampNeg) else (if p1 = (12 : Int32) then some (S.2.2 1) else some (-1 : Int32))))))))))))))
def bfX6_digest_243 (S : MS) (K243 : Int64 × Int32 → Option (Int64)) (x : Int64 × Int32) : Option (Int64) :=
  match x with
  | (x1, x3) => (if (4 : Int32) ≤ x3 then ob (fX6_amplification  S) fun u17 => some (((31 : Int64) * x1) + (u17).toInt64) else (if okI ((595 : Int32) + x3) 5130 then ob (fX6_ownerOf ((S.1 (((595 : Int32) + x3)).toNatClampNeg)) S) fun u18 => nm ((((31 : Int64) * x1) + (u18).toInt64)) fun v19 => K243 (v19, (x3 + (1 : Int32))) else none))
def bfX6_digest_208 (S : MS) (K208 : Int64 × Int32 → Option (Int64)) (x : Int64 × Int32) : Option (Int64) :=
  match x with
  | (x1, x3) => (if (4 : Int32) ≤ x3 then iter (bfX6_digest_243 S) FU (x1, (0 : Int32)) else (if okI ((591 : Int32) + x3) 5130 then ob (fX6_ownerOf ((S.1 (((591 : Int32) + x3)).toNatClampNeg)) S) fun u20 => nm ((((31 : Int64) * x1) + (u20).toInt64)) fun v21 => K208 (v21, (x3 + (1 : Int32))) else none))
def bfX6_digest_166 (S : MS) (K166 : Int64 × Int32 → Option (Int64)) (x : Int64 × Int32) : Option (Int64) :=
  match x with
  | (x1, x3) => (if (S.1 ((574 : Int32)).toNatClampNeg) ≤ x3 then iter (bfX6_digest_208 S) FU (x1, (0 : Int32)) else (if okI ((575 : Int32) + x3) 5130 then ob (fX6_ownerOf ((S.1 (((575 : Int32) + x3)).toNatClampNeg)) S) fun u22 => nm ((((31 : Int64) * x1) + (u22).toInt64)) fun v23 => K166 (v23, (x3 + (1 : Int32))) else none))
def bfX6_digest_124 (S : MS) (K124 : Int64 × Int32 → Option (Int64)) (x : Int64 × Int32) : Option (Int64) :=
  match x with
  | (x1, x3) => (if (S.1 ((557 : Int32)).toNatClampNeg) ≤ x3 then iter (bfX6_digest_166 S) FU (x1, (0 : Int32)) else (if okI ((558 : Int32) + x3) 5130 then ob (fX6_ownerOf ((S.1 (((558 : Int32) + x3)).toNatClampNeg)) S) fun u24 => nm ((((31 : Int64) * x1) + (u24).toInt64)) fun v25 => K124 (v25, (x3 + (1 : Int32))) else none))
def bfX6_digest_89 (S : MS) (K54 : Int64 × Int32 → Option (Int64)) (K89 : Int64 × Int32 × Int32 → Option (Int64)) (x : Int64 × Int32 × Int32) : Option (Int64) :=
  match x with
  | (x1, x3, x4) => (if (4 : Int32) < x4 then K54 (x1, (x3 + (1 : Int32))) else ob (fX6_propertyOf x3 x4 S) fun u26 => nm ((((31 : Int64) * x1) + (u26).toInt64)) fun v27 => K89 (v27, x3, (x4 + (1 : Int32))))
def bfX6_digest_54 (S : MS) (K54 : Int64 × Int32 → Option (Int64)) (x : Int64 × Int32) : Option (Int64) :=
  match x with
  | (x1, x3) => (if (S.1 ((188 : Int32)).toNatClampNeg) ≤ x3 then iter (bfX6_digest_124 S) FU (x1, (0 : Int32)) else ob (fX6_row x3 S) fun u28 => (if okI (u28 + (0 : Int32)) 5130 then nm ((((31 : Int64) * x1) + ((S.1 ((u28 + (0 : Int32))).toNatClampNeg)).toInt64)) fun v29 => iter (bfX6_digest_89 S K54) FU (v29, x3, (0 : Int32)) else none))
def bfX6_digest_33 (S : MS) (K33 : Int64 × Int32 → Option (Int64)) (x : Int64 × Int32) : Option (Int64) :=
  match x with
  | (x1, x3) => (if (6 : Int32) ≤ x3 then iter (bfX6_digest_54 S) FU (x1, (0 : Int32)) else ob (fX6_mixedClient x1 x3 S) fun u30 => K33 (u30, (x3 + (1 : Int32))))
def bfX6_digest_6 (S : MS) (K6 : Int64 × Int32 → Option (Int64)) (x : Int64 × Int32) : Option (Int64) :=
  match x with
  | (x1, x3) => (if (12 : Int32) < x3 then iter (bfX6_digest_33 S) FU (x1, (0 : Int32)) else ob (fX6_told x3 S) fun u31 => nm ((((31 : Int64) * x1) + (u31).toInt64)) fun v32 => K6 (v32, (x3 + (1 : Int32))))
def fX6_digest (S : MS) : Option (Int64) :=
  iter (bfX6_digest_6 S) FU ((18520 : Int64), (0 : Int32))
def bfX6_ifRun_29 (p1 : Int32) (p2 : Int32) (s0 : Int32) (S : MS) : Option (Int32 × (MS)) :=
  some (s0, S)
def bfX6_ifRun_28 (p1 : Int32) (p2 : Int32) (S : MS) : Option (Int32 × (MS)) :=
  bfX6_ifRun_29 p1 p2  ((-1 : Int32)) S
def fX6_ifRun (p1 : Int32) (p2 : Int32) (S : MS) : Option (Int32 × (MS)) :=
  ob (fX6_in p1 (1 : Int32) (60 : Int32)) fun u4 => (if u4 = 0 then bfX6_ifRun_28 p1 p2  S else ob (fX6_in p2 (0 : Int32) (3 : Int32)) fun u5 => (if u5 = 0 then bfX6_ifRun_28 p1 p2  S else ob (fX6_tries p1 p2 S) fun u6 => bfX6_ifRun_29 p1 p2  u6.1 u6.2))
def fX6_known (S : MS) : Option (Int32) :=
  ob (fX6_least ((S.1 ((182 : Int32)).toNatClampNeg)) (64 : Int32)) fun u2 => some u2
def bfX6_live_37 (p1 : Int32) (S : MS) (s0 : Int32) : Option (Int32) :=
  some s0
def fX6_live (p1 : Int32) (S : MS) : Option (Int32) :=
  (if 0 ≤ p1 then (if (S.1 ((188 : Int32)).toNatClampNeg) ≤ p1 then bfX6_live_37 p1 S  ((-9 : Int32)) else ob (fX6_row p1 S) fun u2 => (if okI (u2 + (0 : Int32)) 5130 then bfX6_live_37 p1 S  ((S.1 ((u2 + (0 : Int32))).toNatClampNeg)) else none)) else bfX6_live_37 p1 S  ((-1 : Int32)))
def fX6_past (p1 : Int32) (p2 : Int32) (S : MS) : Option (Int32) :=
  (if okI (((599 : Int32) + ((4 : Int32) * (p1 - p1 / (64 : Int32) * (64 : Int32)))) + p2) 5130 then some (S.1 ((((599 : Int32) + ((4 : Int32) * (p1 - p1 / (64 : Int32) * (64 : Int32)))) + p2)).toNatClampNeg) else none)
def bfX6_property_27 (p1 : Int32) (p2 : Int32) (S : MS) (s0 : Int32) : Option (Int32) :=
  some s0
def bfX6_property_26 (p1 : Int32) (p2 : Int32) (S : MS) : Option (Int32) :=
  bfX6_property_27 p1 p2 S  ((-1 : Int32))
def fX6_property (p1 : Int32) (p2 : Int32) (S : MS) : Option (Int32) :=
  ob (fX6_isClient p1) fun u4 => (if u4 = 0 then bfX6_property_26 p1 p2 S else ob (fX6_in p2 (0 : Int32) (11 : Int32)) fun u5 => (if u5 = 0 then bfX6_property_26 p1 p2 S else ob (fX6_of p1 p2 S) fun u6 => bfX6_property_27 p1 p2 S  u6))
def bfX6_queued_49 (p1 : Int32) (p2 : Int32) (S : MS) (s2 : Int32) : Option (Int32) :=
  (if okI (s2 + p2) 5130 then ob (fX6_ownerOf ((S.1 ((s2 + p2)).toNatClampNeg)) S) fun u2 => some u2 else none)
def bfX6_queued_24 (p1 : Int32) (p2 : Int32) (S : MS) (s0 : Int32) (s2 : Int32) : Option (Int32) :=
  (if okI s2 5130 then (if s0 < (S.1 (s2).toNatClampNeg) then (if p1 = 0 then bfX6_queued_49 p1 p2 S  ((558 : Int32)) else bfX6_queued_49 p1 p2 S  ((575 : Int32))) else some (-9 : Int32)) else none)
def fX6_queued (p1 : Int32) (p2 : Int32) (S : MS) : Option (Int32) :=
  (if 0 ≤ p2 then (if p1 = 0 then bfX6_queued_24 p1 p2 S  p2 ((557 : Int32)) else bfX6_queued_24 p1 p2 S  p2 ((574 : Int32))) else some (-1 : Int32))
def bfX6_quiet_49 (p1 : Int32) (S : MS) (x2 : Int32) : Option (Int32) :=
  some x2
def bfX6_quiet_14 (p1 : Int32) (S : MS) (K14 : Int32 → Option (Int32)) (x2 : Int32) : Option (Int32) :=
  ob (fX6_known  S) fun u4 => (if u4 ≤ x2 then bfX6_quiet_49 p1 S  x2 else ob (fX6_past ((((S.1 ((182 : Int32)).toNatClampNeg) - (1 : Int32)) - x2)) (0 : Int32) S) fun u5 => (if p1 < u5 then bfX6_quiet_49 p1 S  x2 else K14 ((x2 + (1 : Int32)))))
def fX6_quiet (p1 : Int32) (S : MS) : Option (Int32) :=
  ob (fX6_in p1 (0 : Int32) (16 : Int32)) fun u6 => (if u6 = 0 then some (-1 : Int32) else iter (bfX6_quiet_14 p1 S) FU ((0 : Int32)))
def bfX6_recovery_103 (p1 : Int32) (p2 : Int32) (S : MS) : Option (Int32) :=
  some (-9 : Int32)
def bfX6_recovery_97 (p1 : Int32) (p2 : Int32) (S : MS) (K48 : Int32 × Int32 → Option (Int32)) (x3 : Int32) (x4 : Int32) : Option (Int32) :=
  K48 (x3, (x4 + (1 : Int32)))
def bfX6_recovery_48 (p1 : Int32) (p2 : Int32) (S : MS) (K48 : Int32 × Int32 → Option (Int32)) (x : Int32 × Int32) : Option (Int32) :=
  match x with
  | (x3, x4) => (if (S.1 ((182 : Int32)).toNatClampNeg) ≤ x4 then bfX6_recovery_103 p1 p2 S else (if okI ((72 : Int32) + ((3 : Int32) * p1)) 5130 then (if (S.1 (((72 : Int32) + ((3 : Int32) * p1))).toNatClampNeg) ≤ 0 then bfX6_recovery_103 p1 p2 S else (if x4 < x3 then bfX6_recovery_97 p1 p2 S K48 x3 x4 else ob (fX6_past x4 (0 : Int32) S) fun u7 => (if p2 < u7 then bfX6_recovery_97 p1 p2 S K48 x3 x4 else some (x4 - x3)))) else none))
def bfX6_recovery_17 (p1 : Int32) (p2 : Int32) (S : MS) : Option (Int32) :=
  some (-1 : Int32)
def fX6_recovery (p1 : Int32) (p2 : Int32) (S : MS) : Option (Int32) :=
  ob (fX6_isClient p1) fun u8 => (if u8 = 0 then bfX6_recovery_17 p1 p2 S else ob (fX6_in p2 (0 : Int32) (16 : Int32)) fun u9 => (if u9 = 0 then bfX6_recovery_17 p1 p2 S else (if okI (((72 : Int32) + ((3 : Int32) * p1)) + (2 : Int32)) 5130 then nm ((S.1 ((((72 : Int32) + ((3 : Int32) * p1)) + (2 : Int32))).toNatClampNeg)) fun v10 => ob (fX6_known  S) fun u11 => nm (((S.1 ((182 : Int32)).toNatClampNeg) - u11)) fun v12 => iter (bfX6_recovery_48 p1 p2 S) FU (v10, v12) else none)))
def bfX6_request_34 (p1 : Int32) (p2 : Int32) (S : MS) (s0 : Int32) : Option (Int32) :=
  some s0
def fX6_request (p1 : Int32) (p2 : Int32) (S : MS) : Option (Int32) :=
  ob (fX6_in p2 (0 : Int32) (4 : Int32)) fun u4 => (if u4 = 0 then some (-1 : Int32) else ob (fX6_placeOf p1 S) fun u5 => (if u5 = (-9 : Int32) then bfX6_request_34 p1 p2 S  ((-9 : Int32)) else ob (fX6_propertyOf u5 p2 S) fun u6 => bfX6_request_34 p1 p2 S  u6))
def fX6_run (p1 : Int32) (S : MS) : Option (Int32 × (MS)) :=
  ob (fX6_in p1 (1 : Int32) (60 : Int32)) fun u4 => (if u4 = 0 then some ((-1 : Int32), S) else ob (fX6_begins  S) fun u5 => ob (fX6_runs p1 u5) fun u6 => some (u6.1, u6.2))
def bfX6_set_89 (p1 : Int32) (p2 : Int32) (p3 : Int32) (x4 : Int32) (S : MS) : Option (Int32 × (MS)) :=
  some (x4, S)
def bfX6_set_36 (p1 : Int32) (p2 : Int32) (p3 : Int32) (S : MS) : Option (Int32 × (MS)) :=
  some ((-1 : Int32), S)
def fX6_set (p1 : Int32) (p2 : Int32) (p3 : Int32) (S : MS) : Option (Int32 × (MS)) :=
  ob (fX6_isClient p1) fun u8 => (if u8 = 0 then bfX6_set_36 p1 p2 p3  S else ob (fX6_in p2 (0 : Int32) (11 : Int32)) fun u9 => (if u9 = 0 then bfX6_set_36 p1 p2 p3  S else (if okI p2 12 then (if okI p2 12 then ob (fX6_in p3 (((tabI leastL) (p2).toNatClampNeg)) (((tabI mostL) (p2).toNatClampNeg))) fun u10 => (if u10 = 0 then bfX6_set_36 p1 p2 p3  S else ob (fX6_begins  S) fun u11 => ob (fX6_of p1 p2 u11) fun u12 => (if okI (((0 : Int32) + ((12 : Int32) * p1)) + p2) 5130 then nm (upd u11.1 ((((0 : Int32) + ((12 : Int32) * p1)) + p2)).toNatClampNeg p3, u11.2) fun S13 => (if p2 = (10 : Int32) then (if okI (((90 : Int32) + ((8 : Int32) * p1)) + (7 : Int32)) 5130 then nm (upd S13.1 ((((90 : Int32) + ((8 : Int32) * p1)) + (7 : Int32))).toNatClampNeg ((10 : Int32) * p3), S13.2) fun S14 => bfX6_set_89 p1 p2 p3  u12 S14 else none) else bfX6_set_89 p1 p2 p3  u12 S13) else none)) else none) else none)))
def fX6_setDiscipline (p1 : Int32) (S : MS) : Option (Int32 × (MS)) :=
  ob (fX6_in p1 (0 : Int32) (3 : Int32)) fun u5 => (if u5 = 0 then some ((-1 : Int32), S) else ob (fX6_begins  S) fun u6 => nm ((u6.1 ((178 : Int32)).toNatClampNeg)) fun v7 => nm (upd u6.1 ((178 : Int32)).toNatClampNeg p1, u6.2) fun S8 => some (v7, S8))
def bfX6_setServer_136 (p1 : Int32) (p2 : Int32) (x3 : Int32) (S : MS) : Option (Int32 × (MS)) :=
  (if x3 = 0 then some ((-2 : Int32), S) else ob (fX6_begins  S) fun u6 => (if okI ((174 : Int32) + p1) 5130 then nm ((u6.1 (((174 : Int32) + p1)).toNatClampNeg)) fun v7 => (if okI ((174 : Int32) + p1) 5130 then nm (upd u6.1 (((174 : Int32) + p1)).toNatClampNeg p2, u6.2) fun S8 => some (v7, S8) else none) else none))
def bfX6_setServer_129 (p1 : Int32) (p2 : Int32) (K82 : Int32 × Int32 × (MS) → Option (Int32 × (MS))) (x4 : Int32) (s0 : Int32) (S : MS) : Option (Int32 × (MS)) :=
  K82 (s0, (x4 + (1 : Int32)), S)
def bfX6_setServer_128 (p1 : Int32) (p2 : Int32) (K82 : Int32 × Int32 × (MS) → Option (Int32 × (MS))) (x4 : Int32) (S : MS) : Option (Int32 × (MS)) :=
  bfX6_setServer_129 p1 p2 K82 x4 ((0 : Int32)) S
def bfX6_setServer_115 (p1 : Int32) (p2 : Int32) (K82 : Int32 × Int32 × (MS) → Option (Int32 × (MS))) (x4 : Int32) (s1 : Int32) (S : MS) : Option (Int32 × (MS)) :=
  (if okI (s1 + x4) 5130 then (if (S.1 ((s1 + x4)).toNatClampNeg) = (-9 : Int32) then bfX6_setServer_129 p1 p2 K82 x4 ((1 : Int32)) S else bfX6_setServer_128 p1 p2 K82 x4 S) else none)
def bfX6_setServer_82 (p1 : Int32) (p2 : Int32) (K82 : Int32 × Int32 × (MS) → Option (Int32 × (MS))) (x : Int32 × Int32 × (MS)) : Option (Int32 × (MS)) :=
  match x with
  | (x3, x4, S) => (if (4 : Int32) ≤ x4 then bfX6_setServer_136 p1 p2  x3 S else (if (p1 - p1 / (2 : Int32) * (2 : Int32)) = 0 then (if x3 = 0 then bfX6_setServer_128 p1 p2 K82 x4 S else (if p1 = 0 then bfX6_setServer_115 p1 p2 K82 x4 ((591 : Int32)) S else bfX6_setServer_115 p1 p2 K82 x4 ((595 : Int32)) S)) else bfX6_setServer_136 p1 p2  x3 S))
def bfX6_setServer_78 (p1 : Int32) (p2 : Int32) (s0 : Int32) (S : MS) : Option (Int32 × (MS)) :=
  iter (bfX6_setServer_82 p1 p2) FU (s0, p2, S)
def bfX6_setServer_73 (p1 : Int32) (p2 : Int32) (S : MS) : Option (Int32 × (MS)) :=
  bfX6_setServer_78 p1 p2  ((1 : Int32)) S
def bfX6_setServer_29 (p1 : Int32) (p2 : Int32) (S : MS) : Option (Int32 × (MS)) :=
  some ((-1 : Int32), S)
def bfX6_setServer_23 (p1 : Int32) (p2 : Int32) (s0 : Int32) (s1 : Int32) (s2 : Int32) (S : MS) : Option (Int32 × (MS)) :=
  ob (fX6_in s0 s1 s2) fun u9 => (if u9 = 0 then bfX6_setServer_29 p1 p2  S else (if p1 = (1 : Int32) then (if p2 < (S.1 ((557 : Int32)).toNatClampNeg) then bfX6_setServer_78 p1 p2  ((0 : Int32)) S else bfX6_setServer_78 p1 p2  ((1 : Int32)) S) else (if p1 = (3 : Int32) then (if p2 < (S.1 ((574 : Int32)).toNatClampNeg) then bfX6_setServer_78 p1 p2  ((0 : Int32)) S else bfX6_setServer_73 p1 p2  S) else bfX6_setServer_73 p1 p2  S)))
def fX6_setServer (p1 : Int32) (p2 : Int32) (S : MS) : Option (Int32 × (MS)) :=
  ob (fX6_in p1 (0 : Int32) (3 : Int32)) fun u10 => (if u10 = 0 then bfX6_setServer_29 p1 p2  S else (if (p1 - p1 / (2 : Int32) * (2 : Int32)) = 0 then bfX6_setServer_23 p1 p2  p2 ((1 : Int32)) ((4 : Int32)) S else bfX6_setServer_23 p1 p2  p2 ((1 : Int32)) ((16 : Int32)) S))
def bfX6_setSwitch_44 (p1 : Int32) (p2 : Int32) (x3 : Int32) (s1 : Int32) (s2 : Int32) (S : MS) : Option (Int32 × (MS)) :=
  (if okI s1 5130 then nm (upd S.1 (s1).toNatClampNeg s2, S.2) fun S5 => some (x3, S5) else none)
def fX6_setSwitch (p1 : Int32) (p2 : Int32) (S : MS) : Option (Int32 × (MS)) :=
  ob (fX6_in p1 (0 : Int32) (2 : Int32)) fun u6 => (if u6 = 0 then some ((-1 : Int32), S) else ob (fX6_begins  S) fun u7 => (if okI ((179 : Int32) + p1) 5130 then nm ((u7.1 (((179 : Int32) + p1)).toNatClampNeg)) fun v8 => (if p2 = 0 then bfX6_setSwitch_44 p1 p2  v8 (((179 : Int32) + p1)) ((0 : Int32)) u7 else bfX6_setSwitch_44 p1 p2  v8 (((179 : Int32) + p1)) ((1 : Int32)) u7) else none))
def bfX6_succeededAt_38 (p1 : Int32) (p2 : Int32) (S : MS) (s0 : Int32) : Option (Int32) :=
  some s0
def bfX6_succeededAt_37 (p1 : Int32) (p2 : Int32) (S : MS) : Option (Int32) :=
  bfX6_succeededAt_38 p1 p2 S  ((-1 : Int32))
def fX6_succeededAt (p1 : Int32) (p2 : Int32) (S : MS) : Option (Int32) :=
  ob (fX6_isClient p1) fun u3 => (if u3 = 0 then bfX6_succeededAt_37 p1 p2 S else ob (fX6_in p2 (1 : Int32) (6 : Int32)) fun u4 => (if u4 = 0 then bfX6_succeededAt_37 p1 p2 S else (if okI ((((138 : Int32) + ((6 : Int32) * p1)) + p2) - (1 : Int32)) 5130 then bfX6_succeededAt_38 p1 p2 S  ((S.1 (((((138 : Int32) + ((6 : Int32) * p1)) + p2) - (1 : Int32))).toNatClampNeg)) else none)))
def bfX6_surge_37 (p1 : Int32) (p2 : Int32) (p3 : Int32) (p4 : Int32) (S : MS) : Option (Int32 × (MS)) :=
  some ((-1 : Int32), S)
def fX6_surge (p1 : Int32) (p2 : Int32) (p3 : Int32) (p4 : Int32) (S : MS) : Option (Int32 × (MS)) :=
  ob (fX6_isClient p1) fun u9 => (if u9 = 0 then bfX6_surge_37 p1 p2 p3 p4  S else ob (fX6_in p2 (1 : Int32) (4 : Int32)) fun u10 => (if u10 = 0 then bfX6_surge_37 p1 p2 p3 p4  S else ob (fX6_in p3 (0 : Int32) (100 : Int32)) fun u11 => (if u11 = 0 then bfX6_surge_37 p1 p2 p3 p4  S else ob (fX6_in p4 (1 : Int32) (100 : Int32)) fun u12 => (if u12 = 0 then bfX6_surge_37 p1 p2 p3 p4  S else ob (fX6_begins  S) fun u13 => (if okI ((72 : Int32) + ((3 : Int32) * p1)) 5130 then nm (upd u13.1 (((72 : Int32) + ((3 : Int32) * p1))).toNatClampNeg p2, u13.2) fun S14 => (if okI (((72 : Int32) + ((3 : Int32) * p1)) + (1 : Int32)) 5130 then nm (upd S14.1 ((((72 : Int32) + ((3 : Int32) * p1)) + (1 : Int32))).toNatClampNeg ((S14.1 ((182 : Int32)).toNatClampNeg) + p3), S14.2) fun S15 => (if okI (((72 : Int32) + ((3 : Int32) * p1)) + (2 : Int32)) 5130 then nm (upd S15.1 ((((72 : Int32) + ((3 : Int32) * p1)) + (2 : Int32))).toNatClampNeg (((S15.1 ((182 : Int32)).toNatClampNeg) + p3) + p4), S15.2) fun S16 => (if okI (((72 : Int32) + ((3 : Int32) * p1)) + (2 : Int32)) 5130 then some ((S16.1 ((((72 : Int32) + ((3 : Int32) * p1)) + (2 : Int32))).toNatClampNeg), S16) else none) else none) else none) else none)))))
def fX6_undo  (S : MS) : Option (Int32 × (MS)) :=
  (if (S.2.2 1) = 0 then some ((-2 : Int32), S) else ob (fX6_copies (S.2.2 1) (0 : Int32) S) fun u3 => nm (u3.1, u3.2.1, upd u3.2.2 1 ((u3.2.2 1) - (1 : Int32))) fun S4 => some ((S4.2.2 1), S4))
def bfX6_window_50 (p1 : Int32) (p2 : Int32) (S : MS) (K50 : Int32 × Int32 → Option (Int32)) (x : Int32 × Int32) : Option (Int32) :=
  match x with
  | (x3, x4) => (if (S.1 ((182 : Int32)).toNatClampNeg) ≤ x4 then some x3 else ob (fX6_past x4 p1 S) fun u6 => nm ((x3 + u6)) fun v7 => K50 (v7, (x4 + (1 : Int32))))
def bfX6_window_19 (p1 : Int32) (p2 : Int32) (S : MS) : Option (Int32) :=
  some (-1 : Int32)
def fX6_window (p1 : Int32) (p2 : Int32) (S : MS) : Option (Int32) :=
  ob (fX6_in p1 (0 : Int32) (3 : Int32)) fun u8 => (if u8 = 0 then bfX6_window_19 p1 p2 S else ob (fX6_in p2 (1 : Int32) (64 : Int32)) fun u9 => (if u9 = 0 then bfX6_window_19 p1 p2 S else (if p2 ≤ (S.1 ((182 : Int32)).toNatClampNeg) then nm (((S.1 ((182 : Int32)).toNatClampNeg) - p2)) fun v10 => iter (bfX6_window_50 p1 p2 S) FU ((0 : Int32), v10) else some (-2 : Int32))))
def bfX6_init_tail_336  (K336 : Int32 × (MS) → Option (MS)) (x : Int32 × (MS)) : Option (MS) :=
  match x with
  | (x1, S) => (if (4 : Int32) ≤ x1 then some S else (if okI ((591 : Int32) + x1) 5130 then nm (upd S.1 (((591 : Int32) + x1)).toNatClampNeg (-9 : Int32), S.2) fun S10 => (if okI ((595 : Int32) + x1) 5130 then nm (upd S10.1 (((595 : Int32) + x1)).toNatClampNeg (-9 : Int32), S10.2) fun S11 => K336 ((x1 + (1 : Int32)), S11) else none) else none))
def bfX6_init_tail_233  (K225 : Int32 × (MS) → Option (MS)) (K233 : Int32 × Int32 × (MS) → Option (MS)) (x : Int32 × Int32 × (MS)) : Option (MS) :=
  match x with
  | (x1, x2, S) => (if (12 : Int32) ≤ x2 then (if okI (((90 : Int32) + ((8 : Int32) * x1)) + (7 : Int32)) 5130 then nm (upd S.1 ((((90 : Int32) + ((8 : Int32) * x1)) + (7 : Int32))).toNatClampNeg (200 : Int32), S.2) fun S12 => K225 ((x1 + (1 : Int32)), S12) else none) else (if okI x2 12 then (if okI (((0 : Int32) + ((12 : Int32) * x1)) + x2) 5130 then nm (upd S.1 ((((0 : Int32) + ((12 : Int32) * x1)) + x2)).toNatClampNeg ((tabI firstL) (x2).toNatClampNeg), S.2) fun S13 => K233 (x1, (x2 + (1 : Int32)), S13) else none) else none))
def bfX6_init_tail_225  (K225 : Int32 × (MS) → Option (MS)) (x : Int32 × (MS)) : Option (MS) :=
  match x with
  | (x1, S) => (if (6 : Int32) ≤ x1 then nm (upd S.1 ((174 : Int32)).toNatClampNeg (2 : Int32), S.2) fun S14 => nm (upd S14.1 ((175 : Int32)).toNatClampNeg (8 : Int32), S14.2) fun S15 => nm (upd S15.1 ((176 : Int32)).toNatClampNeg (1 : Int32), S15.2) fun S16 => nm (upd S16.1 ((177 : Int32)).toNatClampNeg (4 : Int32), S16.2) fun S17 => nm (upd S17.1 ((184 : Int32)).toNatClampNeg (1 : Int32), S17.2) fun S18 => iter (bfX6_init_tail_336) FU ((0 : Int32), S18) else iter (bfX6_init_tail_233  K225) FU (x1, (0 : Int32), S))
def fX6_init_tail (S : MS) : Option (MS) :=
  iter (bfX6_init_tail_225) FU ((0 : Int32), S)
def bornM : MS := (fun _ => 0, fun _ => 0, fun _ => 0)
def initM : MS := (fX6_init_tail bornM).getD bornM
theorem initM_eq : fX6_init_tail bornM = some initM := by
  have h : (fX6_init_tail bornM).isSome = true := by decide +kernel
  unfold initM
  cases e : fX6_init_tail bornM with
  | none => rw [e] at h; cases h
  | some q => rfl
