/-! literals beside nI; tables and pages at numbers -/
theorem up_s {f : Nat → Int32} {k j : Nat} {x : Int32} (h : j = k) : upd f k x j = x := by rw [h]; exact pk_us
theorem up_n {f : Nat → Int32} {k j : Nat} {x : Int32} (h : j ≠ k) : upd f k x j = f j := pk_un h
theorem okT {i n : Nat} (h : i < n) (hn : n < 2 ^ 31) : okI (nI i) n ↔ True := iff_true_intro (okI_nI h hn)
theorem nA_0 (a : Nat) : nI a + (0 : Int32) = nI (a + 0) := nI_add a 0
theorem nA_1 (a : Nat) : nI a + (1 : Int32) = nI (a + 1) := nI_add a 1
theorem nA_2 (a : Nat) : nI a + (2 : Int32) = nI (a + 2) := nI_add a 2
theorem nA_3 (a : Nat) : nI a + (3 : Int32) = nI (a + 3) := nI_add a 3
theorem nA_4 (a : Nat) : nI a + (4 : Int32) = nI (a + 4) := nI_add a 4
theorem nA_5 (a : Nat) : nI a + (5 : Int32) = nI (a + 5) := nI_add a 5
theorem nA_6 (a : Nat) : nI a + (6 : Int32) = nI (a + 6) := nI_add a 6
theorem nA_7 (a : Nat) : nI a + (7 : Int32) = nI (a + 7) := nI_add a 7
theorem nA_8 (a : Nat) : nI a + (8 : Int32) = nI (a + 8) := nI_add a 8
theorem nA_9 (a : Nat) : nI a + (9 : Int32) = nI (a + 9) := nI_add a 9
theorem nA_10 (a : Nat) : nI a + (10 : Int32) = nI (a + 10) := nI_add a 10
theorem nA_11 (a : Nat) : nI a + (11 : Int32) = nI (a + 11) := nI_add a 11
theorem nA_12 (a : Nat) : nI a + (12 : Int32) = nI (a + 12) := nI_add a 12
theorem nA_13 (a : Nat) : nI a + (13 : Int32) = nI (a + 13) := nI_add a 13
theorem nA_14 (a : Nat) : nI a + (14 : Int32) = nI (a + 14) := nI_add a 14
theorem nA_15 (a : Nat) : nI a + (15 : Int32) = nI (a + 15) := nI_add a 15
theorem nA_16 (a : Nat) : nI a + (16 : Int32) = nI (a + 16) := nI_add a 16
theorem nA_64 (a : Nat) : nI a + (64 : Int32) = nI (a + 64) := nI_add a 64
theorem nA_855 (a : Nat) : nI a + (855 : Int32) = nI (a + 855) := nI_add a 855
theorem nB_0 (a : Nat) : (0 : Int32) + nI a = nI (0 + a) := nI_add 0 a
theorem nB_1 (a : Nat) : (1 : Int32) + nI a = nI (1 + a) := nI_add 1 a
theorem nB_2 (a : Nat) : (2 : Int32) + nI a = nI (2 + a) := nI_add 2 a
theorem nB_4 (a : Nat) : (4 : Int32) + nI a = nI (4 + a) := nI_add 4 a
theorem nB_7 (a : Nat) : (7 : Int32) + nI a = nI (7 + a) := nI_add 7 a
theorem nB_10 (a : Nat) : (10 : Int32) + nI a = nI (10 + a) := nI_add 10 a
theorem nB_72 (a : Nat) : (72 : Int32) + nI a = nI (72 + a) := nI_add 72 a
theorem nB_90 (a : Nat) : (90 : Int32) + nI a = nI (90 + a) := nI_add 90 a
theorem nB_138 (a : Nat) : (138 : Int32) + nI a = nI (138 + a) := nI_add 138 a
theorem nB_174 (a : Nat) : (174 : Int32) + nI a = nI (174 + a) := nI_add 174 a
theorem nB_179 (a : Nat) : (179 : Int32) + nI a = nI (179 + a) := nI_add 179 a
theorem nB_189 (a : Nat) : (189 : Int32) + nI a = nI (189 + a) := nI_add 189 a
theorem nB_317 (a : Nat) : (317 : Int32) + nI a = nI (317 + a) := nI_add 317 a
theorem nB_558 (a : Nat) : (558 : Int32) + nI a = nI (558 + a) := nI_add 558 a
theorem nB_575 (a : Nat) : (575 : Int32) + nI a = nI (575 + a) := nI_add 575 a
theorem nB_591 (a : Nat) : (591 : Int32) + nI a = nI (591 + a) := nI_add 591 a
theorem nB_595 (a : Nat) : (595 : Int32) + nI a = nI (595 + a) := nI_add 595 a
theorem nB_599 (a : Nat) : (599 : Int32) + nI a = nI (599 + a) := nI_add 599 a
theorem nM_2 (a : Nat) : (2 : Int32) * nI a = nI (2 * a) := pk_mul 2 a
theorem nM_3 (a : Nat) : (3 : Int32) * nI a = nI (3 * a) := pk_mul 3 a
theorem nM_4 (a : Nat) : (4 : Int32) * nI a = nI (4 * a) := pk_mul 4 a
theorem nM_6 (a : Nat) : (6 : Int32) * nI a = nI (6 * a) := pk_mul 6 a
theorem nM_8 (a : Nat) : (8 : Int32) * nI a = nI (8 * a) := pk_mul 8 a
theorem nM_10 (a : Nat) : (10 : Int32) * nI a = nI (10 * a) := pk_mul 10 a
theorem nM_12 (a : Nat) : (12 : Int32) * nI a = nI (12 * a) := pk_mul 12 a
theorem nM_100 (a : Nat) : (100 : Int32) * nI a = nI (100 * a) := pk_mul 100 a
theorem nM_855 (a : Nat) : (855 : Int32) * nI a = nI (855 * a) := pk_mul 855 a
theorem cl_3 : ((3 : Int32)).toNatClampNeg = 3 := nI_clamp (n := 3) (by decide)
theorem cl_174 : ((174 : Int32)).toNatClampNeg = 174 := nI_clamp (n := 174) (by decide)
theorem cl_175 : ((175 : Int32)).toNatClampNeg = 175 := nI_clamp (n := 175) (by decide)
theorem cl_176 : ((176 : Int32)).toNatClampNeg = 176 := nI_clamp (n := 176) (by decide)
theorem cl_177 : ((177 : Int32)).toNatClampNeg = 177 := nI_clamp (n := 177) (by decide)
theorem cl_178 : ((178 : Int32)).toNatClampNeg = 178 := nI_clamp (n := 178) (by decide)
theorem cl_182 : ((182 : Int32)).toNatClampNeg = 182 := nI_clamp (n := 182) (by decide)
theorem cl_183 : ((183 : Int32)).toNatClampNeg = 183 := nI_clamp (n := 183) (by decide)
theorem cl_184 : ((184 : Int32)).toNatClampNeg = 184 := nI_clamp (n := 184) (by decide)
theorem cl_185 : ((185 : Int32)).toNatClampNeg = 185 := nI_clamp (n := 185) (by decide)
theorem cl_186 : ((186 : Int32)).toNatClampNeg = 186 := nI_clamp (n := 186) (by decide)
theorem cl_187 : ((187 : Int32)).toNatClampNeg = 187 := nI_clamp (n := 187) (by decide)
theorem cl_188 : ((188 : Int32)).toNatClampNeg = 188 := nI_clamp (n := 188) (by decide)
theorem cl_557 : ((557 : Int32)).toNatClampNeg = 557 := nI_clamp (n := 557) (by decide)
theorem cl_574 : ((574 : Int32)).toNatClampNeg = 574 := nI_clamp (n := 574) (by decide)
theorem cl_555 : ((555 : Int32)).toNatClampNeg = 555 := nI_clamp (n := 555) (by decide)
theorem ok_185 : okI (185 : Int32) 5130 ↔ True := iff_true_intro (okI_nI (i := 185) (by decide) (by decide))
theorem ok_186 : okI (186 : Int32) 5130 ↔ True := iff_true_intro (okI_nI (i := 186) (by decide) (by decide))
theorem ok_187 : okI (187 : Int32) 5130 ↔ True := iff_true_intro (okI_nI (i := 187) (by decide) (by decide))
theorem ok_557 : okI (557 : Int32) 5130 ↔ True := iff_true_intro (okI_nI (i := 557) (by decide) (by decide))
theorem ok_574 : okI (574 : Int32) 5130 ↔ True := iff_true_intro (okI_nI (i := 574) (by decide) (by decide))
theorem ok_558 : okI (558 : Int32) 5130 ↔ True := iff_true_intro (okI_nI (i := 558) (by decide) (by decide))
theorem ok_575 : okI (575 : Int32) 5130 ↔ True := iff_true_intro (okI_nI (i := 575) (by decide) (by decide))
theorem ok_591 : okI (591 : Int32) 5130 ↔ True := iff_true_intro (okI_nI (i := 591) (by decide) (by decide))
theorem ok_595 : okI (595 : Int32) 5130 ↔ True := iff_true_intro (okI_nI (i := 595) (by decide) (by decide))
theorem len_0 {a : Nat} (h : a < 2 ^ 31) : (0 : Int32) ≤ nI a ↔ 0 ≤ a := nI_leI (a := 0) (by decide) h
theorem eln_0 {a : Nat} (h : a < 2 ^ 31) : nI a ≤ (0 : Int32) ↔ a ≤ 0 := nI_leI (b := 0) h (by decide)
theorem ltn_0 {a : Nat} (h : a < 2 ^ 31) : (0 : Int32) < nI a ↔ 0 < a := nI_ltI (a := 0) (by decide) h
theorem tln_0 {a : Nat} (h : a < 2 ^ 31) : nI a < (0 : Int32) ↔ a < 0 := nI_ltI (b := 0) h (by decide)
theorem eqn_0 {a : Nat} (h : a < 2 ^ 31) : nI a = (0 : Int32) ↔ a = 0 := nI_eq (b := 0) h (by decide)
theorem len_1 {a : Nat} (h : a < 2 ^ 31) : (1 : Int32) ≤ nI a ↔ 1 ≤ a := nI_leI (a := 1) (by decide) h
theorem eln_1 {a : Nat} (h : a < 2 ^ 31) : nI a ≤ (1 : Int32) ↔ a ≤ 1 := nI_leI (b := 1) h (by decide)
theorem ltn_1 {a : Nat} (h : a < 2 ^ 31) : (1 : Int32) < nI a ↔ 1 < a := nI_ltI (a := 1) (by decide) h
theorem tln_1 {a : Nat} (h : a < 2 ^ 31) : nI a < (1 : Int32) ↔ a < 1 := nI_ltI (b := 1) h (by decide)
theorem eqn_1 {a : Nat} (h : a < 2 ^ 31) : nI a = (1 : Int32) ↔ a = 1 := nI_eq (b := 1) h (by decide)
theorem len_2 {a : Nat} (h : a < 2 ^ 31) : (2 : Int32) ≤ nI a ↔ 2 ≤ a := nI_leI (a := 2) (by decide) h
theorem eln_2 {a : Nat} (h : a < 2 ^ 31) : nI a ≤ (2 : Int32) ↔ a ≤ 2 := nI_leI (b := 2) h (by decide)
theorem ltn_2 {a : Nat} (h : a < 2 ^ 31) : (2 : Int32) < nI a ↔ 2 < a := nI_ltI (a := 2) (by decide) h
theorem tln_2 {a : Nat} (h : a < 2 ^ 31) : nI a < (2 : Int32) ↔ a < 2 := nI_ltI (b := 2) h (by decide)
theorem eqn_2 {a : Nat} (h : a < 2 ^ 31) : nI a = (2 : Int32) ↔ a = 2 := nI_eq (b := 2) h (by decide)
theorem len_3 {a : Nat} (h : a < 2 ^ 31) : (3 : Int32) ≤ nI a ↔ 3 ≤ a := nI_leI (a := 3) (by decide) h
theorem eln_3 {a : Nat} (h : a < 2 ^ 31) : nI a ≤ (3 : Int32) ↔ a ≤ 3 := nI_leI (b := 3) h (by decide)
theorem ltn_3 {a : Nat} (h : a < 2 ^ 31) : (3 : Int32) < nI a ↔ 3 < a := nI_ltI (a := 3) (by decide) h
theorem tln_3 {a : Nat} (h : a < 2 ^ 31) : nI a < (3 : Int32) ↔ a < 3 := nI_ltI (b := 3) h (by decide)
theorem eqn_3 {a : Nat} (h : a < 2 ^ 31) : nI a = (3 : Int32) ↔ a = 3 := nI_eq (b := 3) h (by decide)
theorem len_4 {a : Nat} (h : a < 2 ^ 31) : (4 : Int32) ≤ nI a ↔ 4 ≤ a := nI_leI (a := 4) (by decide) h
theorem eln_4 {a : Nat} (h : a < 2 ^ 31) : nI a ≤ (4 : Int32) ↔ a ≤ 4 := nI_leI (b := 4) h (by decide)
theorem ltn_4 {a : Nat} (h : a < 2 ^ 31) : (4 : Int32) < nI a ↔ 4 < a := nI_ltI (a := 4) (by decide) h
theorem tln_4 {a : Nat} (h : a < 2 ^ 31) : nI a < (4 : Int32) ↔ a < 4 := nI_ltI (b := 4) h (by decide)
theorem eqn_4 {a : Nat} (h : a < 2 ^ 31) : nI a = (4 : Int32) ↔ a = 4 := nI_eq (b := 4) h (by decide)
theorem len_5 {a : Nat} (h : a < 2 ^ 31) : (5 : Int32) ≤ nI a ↔ 5 ≤ a := nI_leI (a := 5) (by decide) h
theorem eln_5 {a : Nat} (h : a < 2 ^ 31) : nI a ≤ (5 : Int32) ↔ a ≤ 5 := nI_leI (b := 5) h (by decide)
theorem ltn_5 {a : Nat} (h : a < 2 ^ 31) : (5 : Int32) < nI a ↔ 5 < a := nI_ltI (a := 5) (by decide) h
theorem tln_5 {a : Nat} (h : a < 2 ^ 31) : nI a < (5 : Int32) ↔ a < 5 := nI_ltI (b := 5) h (by decide)
theorem eqn_5 {a : Nat} (h : a < 2 ^ 31) : nI a = (5 : Int32) ↔ a = 5 := nI_eq (b := 5) h (by decide)
theorem len_6 {a : Nat} (h : a < 2 ^ 31) : (6 : Int32) ≤ nI a ↔ 6 ≤ a := nI_leI (a := 6) (by decide) h
theorem eln_6 {a : Nat} (h : a < 2 ^ 31) : nI a ≤ (6 : Int32) ↔ a ≤ 6 := nI_leI (b := 6) h (by decide)
theorem ltn_6 {a : Nat} (h : a < 2 ^ 31) : (6 : Int32) < nI a ↔ 6 < a := nI_ltI (a := 6) (by decide) h
theorem tln_6 {a : Nat} (h : a < 2 ^ 31) : nI a < (6 : Int32) ↔ a < 6 := nI_ltI (b := 6) h (by decide)
theorem eqn_6 {a : Nat} (h : a < 2 ^ 31) : nI a = (6 : Int32) ↔ a = 6 := nI_eq (b := 6) h (by decide)
theorem len_7 {a : Nat} (h : a < 2 ^ 31) : (7 : Int32) ≤ nI a ↔ 7 ≤ a := nI_leI (a := 7) (by decide) h
theorem eln_7 {a : Nat} (h : a < 2 ^ 31) : nI a ≤ (7 : Int32) ↔ a ≤ 7 := nI_leI (b := 7) h (by decide)
theorem ltn_7 {a : Nat} (h : a < 2 ^ 31) : (7 : Int32) < nI a ↔ 7 < a := nI_ltI (a := 7) (by decide) h
theorem tln_7 {a : Nat} (h : a < 2 ^ 31) : nI a < (7 : Int32) ↔ a < 7 := nI_ltI (b := 7) h (by decide)
theorem eqn_7 {a : Nat} (h : a < 2 ^ 31) : nI a = (7 : Int32) ↔ a = 7 := nI_eq (b := 7) h (by decide)
theorem len_8 {a : Nat} (h : a < 2 ^ 31) : (8 : Int32) ≤ nI a ↔ 8 ≤ a := nI_leI (a := 8) (by decide) h
theorem eln_8 {a : Nat} (h : a < 2 ^ 31) : nI a ≤ (8 : Int32) ↔ a ≤ 8 := nI_leI (b := 8) h (by decide)
theorem ltn_8 {a : Nat} (h : a < 2 ^ 31) : (8 : Int32) < nI a ↔ 8 < a := nI_ltI (a := 8) (by decide) h
theorem tln_8 {a : Nat} (h : a < 2 ^ 31) : nI a < (8 : Int32) ↔ a < 8 := nI_ltI (b := 8) h (by decide)
theorem eqn_8 {a : Nat} (h : a < 2 ^ 31) : nI a = (8 : Int32) ↔ a = 8 := nI_eq (b := 8) h (by decide)
theorem len_9 {a : Nat} (h : a < 2 ^ 31) : (9 : Int32) ≤ nI a ↔ 9 ≤ a := nI_leI (a := 9) (by decide) h
theorem eln_9 {a : Nat} (h : a < 2 ^ 31) : nI a ≤ (9 : Int32) ↔ a ≤ 9 := nI_leI (b := 9) h (by decide)
theorem ltn_9 {a : Nat} (h : a < 2 ^ 31) : (9 : Int32) < nI a ↔ 9 < a := nI_ltI (a := 9) (by decide) h
theorem tln_9 {a : Nat} (h : a < 2 ^ 31) : nI a < (9 : Int32) ↔ a < 9 := nI_ltI (b := 9) h (by decide)
theorem eqn_9 {a : Nat} (h : a < 2 ^ 31) : nI a = (9 : Int32) ↔ a = 9 := nI_eq (b := 9) h (by decide)
theorem len_10 {a : Nat} (h : a < 2 ^ 31) : (10 : Int32) ≤ nI a ↔ 10 ≤ a := nI_leI (a := 10) (by decide) h
theorem eln_10 {a : Nat} (h : a < 2 ^ 31) : nI a ≤ (10 : Int32) ↔ a ≤ 10 := nI_leI (b := 10) h (by decide)
theorem ltn_10 {a : Nat} (h : a < 2 ^ 31) : (10 : Int32) < nI a ↔ 10 < a := nI_ltI (a := 10) (by decide) h
theorem tln_10 {a : Nat} (h : a < 2 ^ 31) : nI a < (10 : Int32) ↔ a < 10 := nI_ltI (b := 10) h (by decide)
theorem eqn_10 {a : Nat} (h : a < 2 ^ 31) : nI a = (10 : Int32) ↔ a = 10 := nI_eq (b := 10) h (by decide)
theorem len_11 {a : Nat} (h : a < 2 ^ 31) : (11 : Int32) ≤ nI a ↔ 11 ≤ a := nI_leI (a := 11) (by decide) h
theorem eln_11 {a : Nat} (h : a < 2 ^ 31) : nI a ≤ (11 : Int32) ↔ a ≤ 11 := nI_leI (b := 11) h (by decide)
theorem ltn_11 {a : Nat} (h : a < 2 ^ 31) : (11 : Int32) < nI a ↔ 11 < a := nI_ltI (a := 11) (by decide) h
theorem tln_11 {a : Nat} (h : a < 2 ^ 31) : nI a < (11 : Int32) ↔ a < 11 := nI_ltI (b := 11) h (by decide)
theorem eqn_11 {a : Nat} (h : a < 2 ^ 31) : nI a = (11 : Int32) ↔ a = 11 := nI_eq (b := 11) h (by decide)
theorem len_12 {a : Nat} (h : a < 2 ^ 31) : (12 : Int32) ≤ nI a ↔ 12 ≤ a := nI_leI (a := 12) (by decide) h
theorem eln_12 {a : Nat} (h : a < 2 ^ 31) : nI a ≤ (12 : Int32) ↔ a ≤ 12 := nI_leI (b := 12) h (by decide)
theorem ltn_12 {a : Nat} (h : a < 2 ^ 31) : (12 : Int32) < nI a ↔ 12 < a := nI_ltI (a := 12) (by decide) h
theorem tln_12 {a : Nat} (h : a < 2 ^ 31) : nI a < (12 : Int32) ↔ a < 12 := nI_ltI (b := 12) h (by decide)
theorem eqn_12 {a : Nat} (h : a < 2 ^ 31) : nI a = (12 : Int32) ↔ a = 12 := nI_eq (b := 12) h (by decide)
theorem len_13 {a : Nat} (h : a < 2 ^ 31) : (13 : Int32) ≤ nI a ↔ 13 ≤ a := nI_leI (a := 13) (by decide) h
theorem eln_13 {a : Nat} (h : a < 2 ^ 31) : nI a ≤ (13 : Int32) ↔ a ≤ 13 := nI_leI (b := 13) h (by decide)
theorem ltn_13 {a : Nat} (h : a < 2 ^ 31) : (13 : Int32) < nI a ↔ 13 < a := nI_ltI (a := 13) (by decide) h
theorem tln_13 {a : Nat} (h : a < 2 ^ 31) : nI a < (13 : Int32) ↔ a < 13 := nI_ltI (b := 13) h (by decide)
theorem eqn_13 {a : Nat} (h : a < 2 ^ 31) : nI a = (13 : Int32) ↔ a = 13 := nI_eq (b := 13) h (by decide)
theorem len_14 {a : Nat} (h : a < 2 ^ 31) : (14 : Int32) ≤ nI a ↔ 14 ≤ a := nI_leI (a := 14) (by decide) h
theorem eln_14 {a : Nat} (h : a < 2 ^ 31) : nI a ≤ (14 : Int32) ↔ a ≤ 14 := nI_leI (b := 14) h (by decide)
theorem ltn_14 {a : Nat} (h : a < 2 ^ 31) : (14 : Int32) < nI a ↔ 14 < a := nI_ltI (a := 14) (by decide) h
theorem tln_14 {a : Nat} (h : a < 2 ^ 31) : nI a < (14 : Int32) ↔ a < 14 := nI_ltI (b := 14) h (by decide)
theorem eqn_14 {a : Nat} (h : a < 2 ^ 31) : nI a = (14 : Int32) ↔ a = 14 := nI_eq (b := 14) h (by decide)
theorem len_15 {a : Nat} (h : a < 2 ^ 31) : (15 : Int32) ≤ nI a ↔ 15 ≤ a := nI_leI (a := 15) (by decide) h
theorem eln_15 {a : Nat} (h : a < 2 ^ 31) : nI a ≤ (15 : Int32) ↔ a ≤ 15 := nI_leI (b := 15) h (by decide)
theorem ltn_15 {a : Nat} (h : a < 2 ^ 31) : (15 : Int32) < nI a ↔ 15 < a := nI_ltI (a := 15) (by decide) h
theorem tln_15 {a : Nat} (h : a < 2 ^ 31) : nI a < (15 : Int32) ↔ a < 15 := nI_ltI (b := 15) h (by decide)
theorem eqn_15 {a : Nat} (h : a < 2 ^ 31) : nI a = (15 : Int32) ↔ a = 15 := nI_eq (b := 15) h (by decide)
theorem len_16 {a : Nat} (h : a < 2 ^ 31) : (16 : Int32) ≤ nI a ↔ 16 ≤ a := nI_leI (a := 16) (by decide) h
theorem eln_16 {a : Nat} (h : a < 2 ^ 31) : nI a ≤ (16 : Int32) ↔ a ≤ 16 := nI_leI (b := 16) h (by decide)
theorem ltn_16 {a : Nat} (h : a < 2 ^ 31) : (16 : Int32) < nI a ↔ 16 < a := nI_ltI (a := 16) (by decide) h
theorem tln_16 {a : Nat} (h : a < 2 ^ 31) : nI a < (16 : Int32) ↔ a < 16 := nI_ltI (b := 16) h (by decide)
theorem eqn_16 {a : Nat} (h : a < 2 ^ 31) : nI a = (16 : Int32) ↔ a = 16 := nI_eq (b := 16) h (by decide)
theorem len_60 {a : Nat} (h : a < 2 ^ 31) : (60 : Int32) ≤ nI a ↔ 60 ≤ a := nI_leI (a := 60) (by decide) h
theorem eln_60 {a : Nat} (h : a < 2 ^ 31) : nI a ≤ (60 : Int32) ↔ a ≤ 60 := nI_leI (b := 60) h (by decide)
theorem ltn_60 {a : Nat} (h : a < 2 ^ 31) : (60 : Int32) < nI a ↔ 60 < a := nI_ltI (a := 60) (by decide) h
theorem tln_60 {a : Nat} (h : a < 2 ^ 31) : nI a < (60 : Int32) ↔ a < 60 := nI_ltI (b := 60) h (by decide)
theorem eqn_60 {a : Nat} (h : a < 2 ^ 31) : nI a = (60 : Int32) ↔ a = 60 := nI_eq (b := 60) h (by decide)
theorem len_64 {a : Nat} (h : a < 2 ^ 31) : (64 : Int32) ≤ nI a ↔ 64 ≤ a := nI_leI (a := 64) (by decide) h
theorem eln_64 {a : Nat} (h : a < 2 ^ 31) : nI a ≤ (64 : Int32) ↔ a ≤ 64 := nI_leI (b := 64) h (by decide)
theorem ltn_64 {a : Nat} (h : a < 2 ^ 31) : (64 : Int32) < nI a ↔ 64 < a := nI_ltI (a := 64) (by decide) h
theorem tln_64 {a : Nat} (h : a < 2 ^ 31) : nI a < (64 : Int32) ↔ a < 64 := nI_ltI (b := 64) h (by decide)
theorem eqn_64 {a : Nat} (h : a < 2 ^ 31) : nI a = (64 : Int32) ↔ a = 64 := nI_eq (b := 64) h (by decide)
theorem len_100 {a : Nat} (h : a < 2 ^ 31) : (100 : Int32) ≤ nI a ↔ 100 ≤ a := nI_leI (a := 100) (by decide) h
theorem eln_100 {a : Nat} (h : a < 2 ^ 31) : nI a ≤ (100 : Int32) ↔ a ≤ 100 := nI_leI (b := 100) h (by decide)
theorem ltn_100 {a : Nat} (h : a < 2 ^ 31) : (100 : Int32) < nI a ↔ 100 < a := nI_ltI (a := 100) (by decide) h
theorem tln_100 {a : Nat} (h : a < 2 ^ 31) : nI a < (100 : Int32) ↔ a < 100 := nI_ltI (b := 100) h (by decide)
theorem eqn_100 {a : Nat} (h : a < 2 ^ 31) : nI a = (100 : Int32) ↔ a = 100 := nI_eq (b := 100) h (by decide)
theorem len_855 {a : Nat} (h : a < 2 ^ 31) : (855 : Int32) ≤ nI a ↔ 855 ≤ a := nI_leI (a := 855) (by decide) h
theorem eln_855 {a : Nat} (h : a < 2 ^ 31) : nI a ≤ (855 : Int32) ↔ a ≤ 855 := nI_leI (b := 855) h (by decide)
theorem ltn_855 {a : Nat} (h : a < 2 ^ 31) : (855 : Int32) < nI a ↔ 855 < a := nI_ltI (a := 855) (by decide) h
theorem tln_855 {a : Nat} (h : a < 2 ^ 31) : nI a < (855 : Int32) ↔ a < 855 := nI_ltI (b := 855) h (by decide)
theorem eqn_855 {a : Nat} (h : a < 2 ^ 31) : nI a = (855 : Int32) ↔ a = 855 := nI_eq (b := 855) h (by decide)
theorem nI_neg {a : Nat} (h : a < 2 ^ 31) {x : Int32} (hx : x < 0) : nI a ≠ x := fun e => nI_pos h (by rw [e]; exact hx)
theorem eq_m9 {a : Nat} (h : a < 2 ^ 31) : nI a = (-9 : Int32) ↔ False := iff_false_intro (nI_neg h (by decide))
theorem eq_m8 {a : Nat} (h : a < 2 ^ 31) : nI a = (-8 : Int32) ↔ False := iff_false_intro (nI_neg h (by decide))
/-- tables -/
theorem tz_n {rows : Nat} {T : Tb} (h : T.1 ≤ rows) : tz rows T = T.1 := Nat.min_eq_left h
theorem tg {w rows : Nat} {T : Tb} {i j : Nat} (h1 : i < T.1) (h2 : i < rows) (h3 : j < w) (hw : w ≤ 14) (hr : rows ≤ 64) : tget w rows T (nI i) (nI j) = T.2 i j := by
  have hz : i < tz rows T := by unfold tz; omega
  have := tz_le rows T
  unfold tget
  rw [if_pos ⟨okI_nI hz (by omega), okI_nI h3 (by omega)⟩, nI_clamp (by omega), nI_clamp (by omega)]
theorem tp {w rows : Nat} {T : Tb} {i j : Nat} {v : Int32} (h1 : i < T.1) (h2 : i < rows) (h3 : j < w) (hw : w ≤ 14) (hr : rows ≤ 64) : tput w rows T (nI i) (nI j) v = (T.1, fup T.2 i j v) := by
  have hz : i < tz rows T := by unfold tz; omega
  have := tz_le rows T
  unfold tput
  rw [if_pos ⟨okI_nI hz (by omega), okI_nI h3 (by omega)⟩, nI_clamp (by omega), nI_clamp (by omega)]
theorem ta {w rows : Nat} {T : Tb} {i j : Nat} {v : Int32} (h1 : i < T.1) (h2 : i < rows) (h3 : j < w) (hw : w ≤ 14) (hr : rows ≤ 64) : tadd w rows T (nI i) (nI j) v = (T.1, fup T.2 i j (T.2 i j + v)) := by
  unfold tadd
  rw [tg h1 h2 h3 hw hr, tp h1 h2 h3 hw hr]
theorem td {rows : Nat} {T : Tb} {i : Nat} (h1 : i < T.1) (h2 : T.1 ≤ rows) (hr : rows ≤ 64) : tdrop rows T (nI i) = (T.1 - 1, fun a j => if i ≤ a ∧ a + 1 < T.1 then T.2 (a + 1) j else T.2 a j) := by
  have hz : tz rows T = T.1 := tz_n h2
  unfold tdrop
  rw [hz, if_pos (okI_nI h1 (by omega)), nI_clamp (by omega)]
theorem td_out {rows : Nat} {T : Tb} {r : Int32} (h : r < 0) : tdrop rows T r = T := by
  unfold tdrop
  rw [if_neg (okI_neg h)]
theorem tap {rows : Nat} {T : Tb} (h : T.1 < rows) : tappend rows T = (nI T.1, T.1 + 1, fun i j => if i = T.1 then 0 else T.2 i j) := by
  unfold tappend
  rw [if_pos h]
theorem tap_full {rows : Nat} {T : Tb} (h : ¬ T.1 < rows) : tappend rows T = (-9, T) := by
  unfold tappend
  rw [if_neg h]
theorem tg_out {w rows : Nat} {T : Tb} {r c : Int32} (h : r < 0) : tget w rows T r c = -9 := by
  unfold tget
  rw [if_neg (fun q => okI_neg h q.1)]
theorem tg_far {w rows : Nat} {T : Tb} {i : Nat} {c : Int32} (h1 : T.1 ≤ i) (hi : i < 2 ^ 31) (hr : rows ≤ 64) : tget w rows T (nI i) c = -9 := by
  have hz : tz rows T ≤ i := by unfold tz; omega
  unfold tget
  rw [if_neg (fun q => by have := (okI_iff hi).mp q.1; omega)]
theorem tp_out {w rows : Nat} {T : Tb} {r c v : Int32} (h : r < 0) : tput w rows T r c v = T := by
  unfold tput
  rw [if_neg (fun q => okI_neg h q.1)]
theorem fup_s {f : Nat → Nat → Int32} {i j a b : Nat} {v : Int32} (h : a = i) (h2 : b = j) : fup f i j v a b = v := if_pos ⟨h, h2⟩
theorem fup_r {f : Nat → Nat → Int32} {i j a b : Nat} {v : Int32} (h : a ≠ i) : fup f i j v a b = f a b := if_neg (fun q => h q.1)
theorem fup_c {f : Nat → Nat → Int32} {i j a b : Nat} {v : Int32} (h : b ≠ j) : fup f i j v a b = f a b := if_neg (fun q => h q.2)
/-- the first place, and no place -/
theorem ff_none {g : Nat → Bool} : ∀ (n i : Nat), (∀ k, i ≤ k → k < i + n → g k = false) → firstF g n i = -9
  | 0, _, _ => rfl
  | n + 1, i, h => by
    show (if g i then nI i else firstF g n (i + 1)) = -9
    rw [h i (Nat.le_refl _) (by omega), if_neg (by decide)]
    exact ff_none n (i + 1) (fun k h1 h2 => h k (by omega) (by omega))
theorem ff_some {g : Nat → Bool} {m : Nat} (hm : g m = true) : ∀ (n i : Nat), i ≤ m → m < i + n → (∀ k, i ≤ k → k < m → g k = false) → firstF g n i = nI m
  | 0, i, h1, h2, _ => absurd h2 (by omega)
  | n + 1, i, h1, h2, h => by
    show (if g i then nI i else firstF g n (i + 1)) = nI m
    by_cases e : i = m
    · subst e
      rw [hm, if_pos rfl]
    · rw [h i (Nat.le_refl _) (by omega), if_neg (by decide)]
      exact ff_some hm n (i + 1) (by omega) (by omega) (fun k h3 h4 => h k (by omega) h4)
theorem tf_some {w rows : Nat} {T : Tb} {m j : Nat} {v : Int32} (h1 : m < T.1) (h2 : T.1 ≤ rows) (h3 : j < w) (hw : w ≤ 14) (hr : rows ≤ 64) (hv : T.2 m j = v) (hd : ∀ k, k < m → T.2 k j ≠ v) : tfind w rows T (nI j) v = nI m := by
  unfold tfind
  rw [tz_n h2]
  refine ff_some (m := m) ?_ _ _ (Nat.zero_le _) (by omega) (fun k _ h5 => ?_)
  · rw [tg h1 (by omega) h3 hw hr]
    exact decide_eq_true hv
  · rw [tg (by omega) (by omega) h3 hw hr]
    exact decide_eq_false (hd k h5)
theorem tf_none {w rows : Nat} {T : Tb} {j : Nat} {v : Int32} (h2 : T.1 ≤ rows) (h3 : j < w) (hw : w ≤ 14) (hr : rows ≤ 64) (hd : ∀ k, k < T.1 → T.2 k j ≠ v) : tfind w rows T (nI j) v = -9 := by
  unfold tfind
  rw [tz_n h2]
  refine ff_none _ _ (fun k _ h5 => ?_)
  rw [tg (by omega) (by omega) h3 hw hr]
  exact decide_eq_false (hd k (by omega))
/-- the State's tables after a change of one -/
theorem ss_s {S : StS} {k : Nat} {T : Tb} : (sset S k T).1 k = T := va_up_self _ _ _
theorem ss_n {S : StS} {k j : Nat} {T : Tb} (h : j ≠ k) : (sset S k T).1 j = S.1 j := va_up_ne _ _ h
theorem ss_2 {S : StS} {k : Nat} {T : Tb} : (sset S k T).2 = S.2 := rfl
/-- the reference's small methods at numbers -/
theorem row_eq (i : Nat) (M : MS) : fX6_row (nI i) M = some (nI (189 + 8 * i)) := by
  unfold fX6_row
  rw [nM_8, nB_189]
theorem slot_eq (a : Nat) (M : MS) : fX6_slot (nI a) M = some (nI (317 + 10 * a)) := by
  unfold fX6_slot
  rw [nM_10, nB_317]
theorem of_n {c k : Nat} (hc : c < 6) (hk : k < 12) (M : MS) : fX6_of (nI c) (nI k) M = some (M.1 (12 * c + k)) := by
  unfold fX6_of
  rw [nM_12, nB_0, nI_add, if_pos (okI_nI (by omega) (by decide)), nI_clamp (by omega), Nat.zero_add]
theorem counts_n {c k : Nat} (hc : c < 6) (hk : k < 8) (v : Int32) (M : MS) : fX6_counts (nI c) (nI k) v M = some (upd M.1 (90 + 8 * c + k) (M.1 (90 + 8 * c + k) + v), M.2) := by
  unfold fX6_counts
  rw [nM_8, nB_90, nI_add, if_pos (okI_nI (by omega) (by decide)), if_pos (okI_nI (by omega) (by decide)), nI_clamp (by omega)]
  rfl
theorem least_eq (a b : Int32) : fX6_least a b = some (if b ≤ a then b else a) := by
  unfold fX6_least bfX6_least_10
  by_cases h : b ≤ a
  · rw [if_pos h, if_pos h]
  · rw [if_neg h, if_neg h]
theorem isOn_n {k : Nat} (hk : k < 3) (M : MS) : fX6_isOn (nI k) M = some (if M.1 (179 + k) = 1 then 1 else 0) := by
  unfold fX6_isOn bfX6_isOn_19
  rw [nB_179, if_pos (okI_nI (by omega) (by decide)), nI_clamp (by omega)]
  by_cases h : M.1 (179 + k) = 1
  · rw [if_pos h, if_pos h, if_pos (Or.inr rfl)]
  · rw [if_neg h, if_neg h, if_pos (Or.inl rfl)]
theorem draws_eq (M : MS) : fX6_draws M = some ((((M.1 184 * 1103515245 + 12345).toUInt32 >>> ((16 : Int32).toUInt32 &&& Int32.toUInt32 31)).toInt32 &&& 32767), (upd M.1 184 (M.1 184 * 1103515245 + 12345), M.2)) := by
  unfold fX6_draws
  simp only [cl_184, nm, up_s]
theorem in_eq (x a b : Int32) : fX6_in x a b = some (if x < a then 0 else if b < x then 0 else 1) := by
  unfold fX6_in bfX6_in_14 bfX6_in_15
  by_cases h : x < a
  · rw [if_pos h, if_pos h, if_pos (Or.inl rfl)]
  · rw [if_neg h, if_neg h]
    by_cases h2 : b < x
    · rw [if_pos h2, if_pos h2, if_pos (Or.inl rfl)]
    · rw [if_neg h2, if_neg h2, if_pos (Or.inr rfl)]
theorem place_go {M : MS} {nr : Nat} (hn : nr ≤ 16) (h188 : M.1 188 = nI nr) (x : Int32) : ∀ (k i m : Nat), i + k = nr → k < m → iter (bfX6_placeOf_2 x M) m (nI i) = some (firstF (fun i => decide (M.1 (189 + 8 * i) = x)) k i) := by
  intro k
  induction k with
  | zero =>
    intro i m hi hm
    obtain ⟨m, rfl⟩ : ∃ m', m = m' + 1 := ⟨m - 1, by omega⟩
    show bfX6_placeOf_2 _ _ _ _ = _
    rw [bfX6_placeOf_2, cl_188, h188, if_pos (nI_le (by omega) (by omega))]
    rfl
  | succ k ih =>
    intro i m hi hm
    obtain ⟨m, rfl⟩ : ∃ m', m = m' + 1 := ⟨m - 1, by omega⟩
    show bfX6_placeOf_2 _ _ _ _ = _
    rw [bfX6_placeOf_2, cl_188, h188, if_neg (nI_ge (by omega) (by omega)), row_eq, ob_eq, nA_0, if_pos (okI_nI (by omega) (by decide)), nI_clamp (by omega)]
    unfold firstF
    by_cases h : M.1 (189 + 8 * i) = x
    · rw [if_pos (show M.1 (189 + 8 * i + 0) = x from h), if_pos (decide_eq_true h)]
    · rw [if_neg (show ¬ M.1 (189 + 8 * i + 0) = x from h), if_neg (by simpa using h), nA_1, ih (i + 1) m (by omega) (by omega)]
theorem place_eq {M : MS} {nr : Nat} (hn : nr ≤ 16) (h188 : M.1 188 = nI nr) (x : Int32) : fX6_placeOf x M = some (firstF (fun i => decide (M.1 (189 + 8 * i) = x)) nr 0) := by
  exact place_go hn h188 x nr 0 FU (by omega) (by unfold FU; omega)
/-- a row of the live requests goes: those behind it move up -/
def pdie (p : Nat → Int32) (nr i : Nat) : Nat → Int32 := fun a => if 189 + 8 * i ≤ a ∧ a < 189 + 8 * (nr - 1) then p (a + 8) else p a
theorem dies_go {M : MS} {nr i : Nat} (hn : nr ≤ 16) (hi : i < nr) (h188 : M.1 188 = nI nr) : ∀ (k a m : Nat) (p : Nat → Int32), a + k = 189 + 8 * (nr - 1) → 189 + 8 * i ≤ a → k < m → (∀ b, p b = if 189 + 8 * i ≤ b ∧ b < a then M.1 (b + 8) else M.1 b) → iter (bfX6_dies_6 (nI i)) m (nI a, (p, M.2)) = some (upd (pdie M.1 nr i) 188 (nI (nr - 1)), M.2) := by
  intro k
  induction k with
  | zero =>
    intro a m p ha hia hm hp
    obtain ⟨m, rfl⟩ : ∃ m', m = m' + 1 := ⟨m - 1, by omega⟩
    show bfX6_dies_6 _ _ _ = _
    have e : p 188 = nI nr := by rw [hp 188, if_neg (by omega), h188]
    have e1 : nI nr - 1 = nI (nr - 1) := pk_sub (b := 1) (by omega)
    rw [bfX6_dies_6]
    dsimp only
    rw [cl_188, e, e1, row_eq, ob_eq, if_pos (nI_le (by omega) (by omega)), nm]
    have e2 : p = pdie M.1 nr i := by
      funext b
      rw [hp b]
      unfold pdie
      rw [show a = 189 + 8 * (nr - 1) by omega]
    rw [e2]
  | succ k ih =>
    intro a m p ha hia hm hp
    obtain ⟨m, rfl⟩ : ∃ m', m = m' + 1 := ⟨m - 1, by omega⟩
    show bfX6_dies_6 _ _ _ = _
    have e : p 188 = nI nr := by rw [hp 188, if_neg (by omega), h188]
    have e1 : nI nr - 1 = nI (nr - 1) := pk_sub (b := 1) (by omega)
    rw [bfX6_dies_6]
    dsimp only
    rw [cl_188, e, e1, row_eq, ob_eq, if_neg (nI_ge (by omega) (by omega)), nA_8, if_pos (okI_nI (by omega) (by decide)), if_pos (okI_nI (by omega) (by decide)), nm, nI_clamp (by omega), nI_clamp (by omega), nA_1]
    refine ih (a + 1) m _ (by omega) (by omega) (by omega) (fun b => ?_)
    by_cases hb : b = a
    · rw [up_s hb, hp, if_neg (by omega), if_pos (by omega), hb]
    · rw [up_n hb, hp]
      by_cases h2 : 189 + 8 * i ≤ b ∧ b < a
      · rw [if_pos h2, if_pos (by omega)]
      · rw [if_neg h2, if_neg (by omega)]
theorem dies_eq {M : MS} {nr i : Nat} (hn : nr ≤ 16) (hi : i < nr) (h188 : M.1 188 = nI nr) : fX6_dies (nI i) M = some (upd (pdie M.1 nr i) 188 (nI (nr - 1)), M.2) := by
  unfold fX6_dies
  rw [row_eq, ob_eq]
  exact dies_go hn hi h188 (8 * (nr - 1) - 8 * i) (189 + 8 * i) FU M.1 (by omega) (by omega) (by unfold FU; omega) (fun b => by rw [if_neg (by omega)])
/-- an attempt is pulled out of a queue at place r -/
def ppull (p : Nat → Int32) (q n r : Nat) : Nat → Int32 := fun a => if q + r ≤ a ∧ a + 1 < q + n then p (a + 1) else p a
theorem pulls_go {M : MS} {m0 q n r : Nat} (hq : q + n ≤ 5130) (hm0 : m0 < q) (hr : r < n) (hmn : M.1 m0 = nI n) (x : Int32) : ∀ (k a m : Nat) (p : Nat → Int32), a + k = n - 1 → r ≤ a → k < m → (∀ b, p b = if q + r ≤ b ∧ b < q + a then M.1 (b + 1) else M.1 b) → iter (bfX6_pulls_13 (nI m0) (nI q) (nI r)) m (x, nI a, (p, M.2)) = some (x, upd (ppull M.1 q n r) m0 (nI (n - 1)), M.2) := by
  intro k
  induction k with
  | zero =>
    intro a m p ha hia hm hp
    obtain ⟨m, rfl⟩ : ∃ m', m = m' + 1 := ⟨m - 1, by omega⟩
    show bfX6_pulls_13 _ _ _ _ _ = _
    have e : p m0 = nI n := by rw [hp m0, if_neg (by omega), hmn]
    rw [bfX6_pulls_13]
    dsimp only
    have hc : (nI m0).toNatClampNeg = m0 := nI_clamp (by omega)
    have ho : okI (nI m0) 5130 ↔ True := okT (by omega) (by decide)
    simp only [hc, ho, if_true]
    rw [e, nA_1, if_pos (nI_le (by omega) (by omega)), nm]
    have e1 : nI n - 1 = nI (n - 1) := pk_sub (b := 1) (by omega)
    have e2 : p = ppull M.1 q n r := by
      funext b
      rw [hp b]
      unfold ppull
      by_cases h : q + r ≤ b ∧ b < q + a
      · rw [if_pos h, if_pos (by omega)]
      · rw [if_neg h, if_neg (by omega)]
    rw [e1, e2]
  | succ k ih =>
    intro a m p ha hia hm hp
    obtain ⟨m, rfl⟩ : ∃ m', m = m' + 1 := ⟨m - 1, by omega⟩
    show bfX6_pulls_13 _ _ _ _ _ = _
    have e : p m0 = nI n := by rw [hp m0, if_neg (by omega), hmn]
    rw [bfX6_pulls_13]
    dsimp only
    have hc : (nI m0).toNatClampNeg = m0 := nI_clamp (by omega)
    have ho : okI (nI m0) 5130 ↔ True := okT (by omega) (by decide)
    simp only [hc, ho, if_true]
    rw [e, nA_1, if_neg (nI_ge (by omega) (by omega)), nI_add, nA_1, if_pos (okI_nI (by omega) (by decide)), if_pos (okI_nI (by omega) (by decide)), nm, nI_clamp (by omega), nI_clamp (by omega)]
    refine ih (a + 1) m _ (by omega) (by omega) (by omega) (fun b => ?_)
    by_cases hb : b = q + a
    · rw [up_s hb, hp, if_neg (by omega), if_pos (by omega), hb]
    · rw [up_n hb, hp]
      by_cases h2 : q + r ≤ b ∧ b < q + a
      · rw [if_pos h2, if_pos (by omega)]
      · rw [if_neg h2, if_neg (by omega)]
theorem pulls_eq {M : MS} {m0 q n r : Nat} (hq : q + n ≤ 5130) (hm0 : m0 < q) (hr : r < n) (hn : n ≤ 900) (hmn : M.1 m0 = nI n) : fX6_pulls (nI m0) (nI q) (nI r) M = some (M.1 (q + r), upd (ppull M.1 q n r) m0 (nI (n - 1)), M.2) := by
  unfold fX6_pulls
  rw [nI_add, if_pos (okI_nI (by omega) (by decide)), nm, nI_clamp (by omega)]
  exact pulls_go hq hm0 hr hmn _ (n - 1 - r) r FU M.1 (by omega) (by omega) (by unfold FU; omega) (fun b => by rw [if_neg (by omega)])
theorem joins_eq {M : MS} {m0 q n : Nat} (hq : q + n < 5130) (hm0 : m0 < q) (hmn : M.1 m0 = nI n) (x : Int32) : fX6_joins (nI m0) (nI q) x M = some (upd (upd M.1 (q + n) x) m0 (nI (n + 1)), M.2) := by
  unfold fX6_joins
  have hc : (nI m0).toNatClampNeg = m0 := nI_clamp (by omega)
  have ho : okI (nI m0) 5130 ↔ True := okT (by omega) (by decide)
  simp only [hc, ho, if_true]
  rw [hmn, nI_add, if_pos (okI_nI (by omega) (by decide)), nm, nm, nI_clamp (by omega)]
  dsimp only
  rw [up_n (by omega), hmn, nA_1]
/-- the first slot that is not in use -/
theorem free_go {M : MS} {a0 : Nat} (ha : a0 < 24) (h0 : M.1 (317 + 10 * a0 + 9) ≠ 1) (h1 : ∀ b, b < a0 → M.1 (317 + 10 * b + 9) = 1) : ∀ (k a m : Nat), a + k = a0 → k < m → iter (bfX6_freeSlot_2 M) m (nI a) = some (nI a0) := by
  intro k
  induction k with
  | zero =>
    intro a m hi hm
    obtain ⟨m, rfl⟩ : ∃ m', m = m' + 1 := ⟨m - 1, by omega⟩
    show bfX6_freeSlot_2 _ _ _ = _
    obtain rfl : a = a0 := by omega
    rw [bfX6_freeSlot_2, slot_eq, ob_eq, nA_9, if_pos (okI_nI (by omega) (by decide)), nI_clamp (by omega), if_neg h0]
  | succ k ih =>
    intro a m hi hm
    obtain ⟨m, rfl⟩ : ∃ m', m = m' + 1 := ⟨m - 1, by omega⟩
    show bfX6_freeSlot_2 _ _ _ = _
    rw [bfX6_freeSlot_2, slot_eq, ob_eq, nA_9, if_pos (okI_nI (by omega) (by decide)), nI_clamp (by omega), if_pos (h1 a (by omega)), nA_1]
    exact ih (a + 1) m (by omega) (by omega)
theorem free_eq {M : MS} {a0 : Nat} (ha : a0 < 24) (h0 : M.1 (317 + 10 * a0 + 9) ≠ 1) (h1 : ∀ b, b < a0 → M.1 (317 + 10 * b + 9) = 1) : fX6_freeSlot M = some (nI a0) :=
  free_go ha h0 h1 a0 0 FU (by omega) (by unfold FU; omega)
/-- an attempt leaves the servers -/
theorem leaves_0 {a : Nat} (ha : a < 24) (M : MS) : fX6_leaves (nI a) 0 M = some (upd (upd (upd M.1 185 (M.1 185 + 0)) 186 (M.1 186 + M.1 (317 + 10 * a + 6))) (317 + 10 * a + 9) 0, M.2.1, upd M.2.2 8 (M.2.2 8 + M.1 (317 + 10 * a + 6))) := by
  unfold fX6_leaves bfX6_leaves_32 bfX6_leaves_52 bfX6_leaves_68
  rw [slot_eq, ob_eq, nA_6, if_pos (okI_nI (by omega) (by decide)), nI_clamp (by omega), nm, if_pos rfl, if_pos (ok_185.mpr trivial), nm, if_pos rfl, if_pos (ok_186.mpr trivial), nm, if_pos rfl, nm, slot_eq, ob_eq, nA_9, if_pos (okI_nI (by omega) (by decide)), nm, nI_clamp (by omega), cl_185, cl_186]
  dsimp only
  rw [up_n (show (186 : Nat) ≠ 185 by decide)]
theorem leaves_1 {a : Nat} (ha : a < 24) (M : MS) : fX6_leaves (nI a) 1 M = some (upd (upd (upd M.1 185 (M.1 185 + M.1 (317 + 10 * a + 6))) 186 (M.1 186 + 0)) (317 + 10 * a + 9) 0, M.2.1, upd M.2.2 8 (M.2.2 8 + 0)) := by
  unfold fX6_leaves bfX6_leaves_32 bfX6_leaves_52 bfX6_leaves_68
  rw [slot_eq, ob_eq, nA_6, if_pos (okI_nI (by omega) (by decide)), nI_clamp (by omega), nm, if_neg (by decide), if_pos (ok_185.mpr trivial), nm, if_neg (by decide), if_pos (ok_186.mpr trivial), nm, if_neg (by decide), nm, slot_eq, ob_eq, nA_9, if_pos (okI_nI (by omega) (by decide)), nm, nI_clamp (by omega), cl_185, cl_186]
  dsimp only
  rw [up_n (show (186 : Nat) ≠ 185 by decide)]
