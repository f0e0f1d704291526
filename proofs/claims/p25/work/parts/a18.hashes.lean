/-! digest, in both: its loops -/
def hf (v : Nat → Int32) (h : Int64) : Nat → Int64
  | 0 => h
  | n + 1 => (31 : Int64) * hf v h n + (v n).toInt64
def chs (p : Pg) (c : Nat) (h : Int64) : Int64 := hf (fun w => p (138 + 6 * c + w)) (hf (fun w => p (90 + 8 * c + w)) (hf (fun w => p (12 * c + w)) h 12) 8) 6
def hcl (p : Pg) (h : Int64) : Nat → Int64
  | 0 => h
  | c + 1 => chs p c (hcl p h c)
def hrq (nu : Nat → Int32) (vr : Nat → Nat → Int32) (h : Int64) : Nat → Int64
  | 0 => h
  | i + 1 => hf (vr i) ((31 : Int64) * hrq nu vr h i + (nu i).toInt64) 5
theorem dg6_X {X : RS} {v : Nat → Int32} {h : Int64} (hv : ∀ i, i < 13 → fX5_told (nI i) X = some (v i)) : ∀ (k i m : Nat), i + k = 13 → k < m → iter (bfX5_digest_6 X) m (hf v h i, nI i) = (ob (fX5_hashOfClients (hf v h 13) X) fun u16 => iter (bfX5_digest_39 X) FU (u16, (0 : Int32))) := by
  intro k
  induction k with
  | zero =>
    intro i m hi hm
    obtain ⟨m, rfl⟩ : ∃ k, m = k + 1 := ⟨m - 1, by omega⟩
    obtain rfl : i = 13 := by omega
    rw [it_s, bfX5_digest_6, if_pos (by decide)]
  | succ k ih =>
    intro i m hi hm
    obtain ⟨m, rfl⟩ : ∃ k, m = k + 1 := ⟨m - 1, by omega⟩
    rw [it_s, bfX5_digest_6, if_neg (show ¬ (12 : Int32) < nI i from nI_nlt (a := 12) (by omega) (by omega)), hv i (by omega), ob_eq, nm, nA_1]
    exact ih (i + 1) m (by omega) (by omega)
theorem dg6_M {M : MS} {v : Nat → Int32} {h : Int64} (hv : ∀ i, i < 13 → fX6_told (nI i) M = some (v i)) : ∀ (k i m : Nat), i + k = 13 → k < m → iter (bfX6_digest_6 M) m (hf v h i, nI i) = iter (bfX6_digest_33 M) FU (hf v h 13, (0 : Int32)) := by
  intro k
  induction k with
  | zero =>
    intro i m hi hm
    obtain ⟨m, rfl⟩ : ∃ k, m = k + 1 := ⟨m - 1, by omega⟩
    obtain rfl : i = 13 := by omega
    rw [it_s, bfX6_digest_6, if_pos (by decide)]
  | succ k ih =>
    intro i m hi hm
    obtain ⟨m, rfl⟩ : ∃ k, m = k + 1 := ⟨m - 1, by omega⟩
    rw [it_s, bfX6_digest_6, if_neg (show ¬ (12 : Int32) < nI i from nI_nlt (a := 12) (by omega) (by omega)), hv i (by omega), ob_eq, nm, nA_1]
    exact ih (i + 1) m (by omega) (by omega)
theorem hc79 {X : RS} {v : Nat → Int32} {h p1 : Int64} {c : Nat} {K5 : Int64 × Int32 → Option Int64} (hv : ∀ w, w < 6 → fX5_succeededAt (nI c) (nI (w + 1)) X = some (v w)) : ∀ (k i m : Nat), i + k = 6 → k < m → iter (bfX5_hashOfClients_79 p1 X K5) m (hf v h i, nI c, nI (i + 1)) = K5 (hf v h 6, nI (c + 1)) := by
  intro k
  induction k with
  | zero =>
    intro i m hi hm
    obtain ⟨m, rfl⟩ : ∃ k, m = k + 1 := ⟨m - 1, by omega⟩
    obtain rfl : i = 6 := by omega
    rw [it_s, bfX5_hashOfClients_79, mostA, if_pos (by decide)]
    rw [nA_1]
  | succ k ih =>
    intro i m hi hm
    obtain ⟨m, rfl⟩ : ∃ k, m = k + 1 := ⟨m - 1, by omega⟩
    rw [it_s, bfX5_hashOfClients_79, mostA, if_neg (show ¬ (6 : Int32) < nI (i + 1) from nI_nlt (a := 6) (by omega) (by omega)), hv i (by omega), ob_eq, nm, nA_1]
    exact ih (i + 1) m (by omega) (by omega)
theorem hc47 {X : RS} {v : Nat → Int32} {h p1 : Int64} {c : Nat} {K5 : Int64 × Int32 → Option Int64} (hv : ∀ w, w < 8 → fX5_count (nI c) (nI w) X = some (v w)) : ∀ (k i m : Nat), i + k = 8 → k < m → iter (bfX5_hashOfClients_47 p1 X K5) m (hf v h i, nI c, nI i) = iter (bfX5_hashOfClients_79 p1 X K5) FU (hf v h 8, nI c, (1 : Int32)) := by
  intro k
  induction k with
  | zero =>
    intro i m hi hm
    obtain ⟨m, rfl⟩ : ∃ k, m = k + 1 := ⟨m - 1, by omega⟩
    obtain rfl : i = 8 := by omega
    rw [it_s, bfX5_hashOfClients_47, if_pos (by decide)]
  | succ k ih =>
    intro i m hi hm
    obtain ⟨m, rfl⟩ : ∃ k, m = k + 1 := ⟨m - 1, by omega⟩
    rw [it_s, bfX5_hashOfClients_47, if_neg (show ¬ (7 : Int32) < nI i from nI_nlt (a := 7) (by omega) (by omega)), hv i (by omega), ob_eq, nm, nA_1]
    exact ih (i + 1) m (by omega) (by omega)
theorem hc15 {X : RS} {v : Nat → Int32} {h p1 : Int64} {c : Nat} {K5 : Int64 × Int32 → Option Int64} (hv : ∀ w, w < 12 → fX5_property (nI c) (nI w) X = some (v w)) : ∀ (k i m : Nat), i + k = 12 → k < m → iter (bfX5_hashOfClients_15 p1 X K5) m (hf v h i, nI c, nI i) = iter (bfX5_hashOfClients_47 p1 X K5) FU (hf v h 12, nI c, (0 : Int32)) := by
  intro k
  induction k with
  | zero =>
    intro i m hi hm
    obtain ⟨m, rfl⟩ : ∃ k, m = k + 1 := ⟨m - 1, by omega⟩
    obtain rfl : i = 12 := by omega
    rw [it_s, bfX5_hashOfClients_15, if_pos (by decide)]
  | succ k ih =>
    intro i m hi hm
    obtain ⟨m, rfl⟩ : ∃ k, m = k + 1 := ⟨m - 1, by omega⟩
    rw [it_s, bfX5_hashOfClients_15, if_neg (show ¬ (12 : Int32) ≤ nI i from nI_ge (b := 12) (by omega) (by omega)), hv i (by omega), ob_eq, nm, nA_1]
    exact ih (i + 1) m (by omega) (by omega)
theorem mc80 {M : MS} {h p1 : Int64} {c : Nat} (hc : c < 6)  : ∀ (k i m : Nat), i + k = 6 → k < m → iter (bfX6_mixedClient_80 p1 (nI c) M) m (hf (fun w => M.1 (138 + 6 * c + w)) h i, nI i) = some (hf (fun w => M.1 (138 + 6 * c + w)) h 6) := by
  intro k
  induction k with
  | zero =>
    intro i m hi hm
    obtain ⟨m, rfl⟩ : ∃ k, m = k + 1 := ⟨m - 1, by omega⟩
    obtain rfl : i = 6 := by omega
    rw [it_s, bfX6_mixedClient_80, if_pos (by decide)]
  | succ k ih =>
    intro i m hi hm
    obtain ⟨m, rfl⟩ : ∃ k, m = k + 1 := ⟨m - 1, by omega⟩
    rw [it_s, bfX6_mixedClient_80, if_neg (show ¬ (6 : Int32) ≤ nI i from nI_ge (b := 6) (by omega) (by omega)), nM_6, nB_138, nI_add, if_pos (okI_nI (by omega) (by decide)), nm, nI_clamp (by omega), nA_1]
    exact ih (i + 1) m (by omega) (by omega)
theorem mc39 {M : MS} {h p1 : Int64} {c : Nat} (hc : c < 6)  : ∀ (k i m : Nat), i + k = 8 → k < m → iter (bfX6_mixedClient_39 p1 (nI c) M) m (hf (fun w => M.1 (90 + 8 * c + w)) h i, nI i) = iter (bfX6_mixedClient_80 p1 (nI c) M) FU (hf (fun w => M.1 (90 + 8 * c + w)) h 8, (0 : Int32)) := by
  intro k
  induction k with
  | zero =>
    intro i m hi hm
    obtain ⟨m, rfl⟩ : ∃ k, m = k + 1 := ⟨m - 1, by omega⟩
    obtain rfl : i = 8 := by omega
    rw [it_s, bfX6_mixedClient_39, if_pos (by decide)]
  | succ k ih =>
    intro i m hi hm
    obtain ⟨m, rfl⟩ : ∃ k, m = k + 1 := ⟨m - 1, by omega⟩
    rw [it_s, bfX6_mixedClient_39, if_neg (show ¬ (7 : Int32) < nI i from nI_nlt (a := 7) (by omega) (by omega)), nM_8, nB_90, nI_add, if_pos (okI_nI (by omega) (by decide)), nm, nI_clamp (by omega), nA_1]
    exact ih (i + 1) m (by omega) (by omega)
theorem mc6 {M : MS} {h p1 : Int64} {c : Nat} (hc : c < 6)  : ∀ (k i m : Nat), i + k = 12 → k < m → iter (bfX6_mixedClient_6 p1 (nI c) M) m (hf (fun w => M.1 (12 * c + w)) h i, nI i) = iter (bfX6_mixedClient_39 p1 (nI c) M) FU (hf (fun w => M.1 (12 * c + w)) h 12, (0 : Int32)) := by
  intro k
  induction k with
  | zero =>
    intro i m hi hm
    obtain ⟨m, rfl⟩ : ∃ k, m = k + 1 := ⟨m - 1, by omega⟩
    obtain rfl : i = 12 := by omega
    rw [it_s, bfX6_mixedClient_6, if_pos (by decide)]
  | succ k ih =>
    intro i m hi hm
    obtain ⟨m, rfl⟩ : ∃ k, m = k + 1 := ⟨m - 1, by omega⟩
    rw [it_s, bfX6_mixedClient_6, if_neg (show ¬ (12 : Int32) ≤ nI i from nI_ge (b := 12) (by omega) (by omega)), of_n hc (by omega), ob_eq, nm, nA_1]
    exact ih (i + 1) m (by omega) (by omega)
theorem mixed_eq {M : MS} {h : Int64} {c : Nat} (hc : c < 6) : fX6_mixedClient h (nI c) M = some (chs M.1 c h) := by
  have e1 := mc6 (M := M) (h := h) (p1 := h) hc 12 0 FU (by omega) (by unfold FU; omega)
  have e2 := mc39 (M := M) (h := hf (fun w => M.1 (12 * c + w)) h 12) (p1 := h) hc 8 0 FU (by omega) (by unfold FU; omega)
  have e3 := mc80 (M := M) (h := hf (fun w => M.1 (90 + 8 * c + w)) (hf (fun w => M.1 (12 * c + w)) h 12) 8) (p1 := h) hc 6 0 FU (by omega) (by unfold FU; omega)
  exact e1.trans (e2.trans e3)
theorem hc5 {X : RS} {p : Pg} {h p1 : Int64} (h1 : ∀ c w, c < 6 → w < 12 → fX5_property (nI c) (nI w) X = some (p (12 * c + w))) (h2 : ∀ c w, c < 6 → w < 8 → fX5_count (nI c) (nI w) X = some (p (90 + 8 * c + w))) (h3 : ∀ c w, c < 6 → w < 6 → fX5_succeededAt (nI c) (nI (w + 1)) X = some (p (138 + 6 * c + w))) : ∀ (k c m : Nat), c + k = 6 → k < m → iter (bfX5_hashOfClients_5 p1 X) m (hcl p h c, nI c) = some (hcl p h 6) := by
  intro k
  induction k with
  | zero =>
    intro c m hc hm
    obtain ⟨m, rfl⟩ : ∃ k, m = k + 1 := ⟨m - 1, by omega⟩
    obtain rfl : c = 6 := by omega
    rw [it_s, bfX5_hashOfClients_5, if_pos (by decide)]
  | succ k ih =>
    intro c m hc hm
    obtain ⟨m, rfl⟩ : ∃ k, m = k + 1 := ⟨m - 1, by omega⟩
    have hc6 : c < 6 := by omega
    have e1 := hc15 (X := X) (v := fun w => p (12 * c + w)) (h := hcl p h c) (p1 := p1) (K5 := iter (bfX5_hashOfClients_5 p1 X) m) (fun w hw => h1 c w hc6 hw) 12 0 FU (by omega) (by unfold FU; omega)
    have e2 := hc47 (X := X) (v := fun w => p (90 + 8 * c + w)) (h := hf (fun w => p (12 * c + w)) (hcl p h c) 12) (p1 := p1) (K5 := iter (bfX5_hashOfClients_5 p1 X) m) (fun w hw => h2 c w hc6 hw) 8 0 FU (by omega) (by unfold FU; omega)
    have e3 := hc79 (X := X) (v := fun w => p (138 + 6 * c + w)) (h := hf (fun w => p (90 + 8 * c + w)) (hf (fun w => p (12 * c + w)) (hcl p h c) 12) 8) (p1 := p1) (K5 := iter (bfX5_hashOfClients_5 p1 X) m) (fun w hw => h3 c w hc6 hw) 6 0 FU (by omega) (by unfold FU; omega)
    rw [it_s, bfX5_hashOfClients_5, if_neg (show ¬ (6 : Int32) ≤ nI c from nI_ge (b := 6) hc6 (by omega))]
    exact e1.trans (e2.trans (e3.trans (ih (c + 1) m (by omega) (by omega))))
theorem dg33 {M : MS} {h : Int64} : ∀ (k c m : Nat), c + k = 6 → k < m → iter (bfX6_digest_33 M) m (hcl M.1 h c, nI c) = iter (bfX6_digest_54 M) FU (hcl M.1 h 6, (0 : Int32)) := by
  intro k
  induction k with
  | zero =>
    intro c m hc hm
    obtain ⟨m, rfl⟩ : ∃ k, m = k + 1 := ⟨m - 1, by omega⟩
    obtain rfl : c = 6 := by omega
    rw [it_s, bfX6_digest_33, if_pos (by decide)]
  | succ k ih =>
    intro c m hc hm
    obtain ⟨m, rfl⟩ : ∃ k, m = k + 1 := ⟨m - 1, by omega⟩
    rw [it_s, bfX6_digest_33, if_neg (show ¬ (6 : Int32) ≤ nI c from nI_ge (b := 6) (by omega) (by omega)), mixed_eq (by omega), ob_eq, nA_1]
    exact ih (c + 1) m (by omega) (by omega)
theorem dg73 {X : RS} {v : Nat → Int32} {h : Int64} {x : Nat} {nu : Int32} {K39 : Int64 × Int32 → Option Int64} (hv : ∀ k, k < 5 → fX5_request nu (nI k) X = some (v k)) : ∀ (k i m : Nat), i + k = 5 → k < m → iter (bfX5_digest_73 X K39) m (hf v h i, nI x, nu, nI i) = K39 (hf v h 5, nI (x + 1)) := by
  intro k
  induction k with
  | zero =>
    intro i m hi hm
    obtain ⟨m, rfl⟩ : ∃ k, m = k + 1 := ⟨m - 1, by omega⟩
    obtain rfl : i = 5 := by omega
    rw [it_s, bfX5_digest_73, if_pos (by decide)]
    rw [nA_1]
  | succ k ih =>
    intro i m hi hm
    obtain ⟨m, rfl⟩ : ∃ k, m = k + 1 := ⟨m - 1, by omega⟩
    rw [it_s, bfX5_digest_73, if_neg (show ¬ (4 : Int32) < nI i from nI_nlt (a := 4) (by omega) (by omega)), hv i (by omega), ob_eq, nm, nA_1]
    exact ih (i + 1) m (by omega) (by omega)
theorem dg89 {M : MS} {v : Nat → Int32} {h : Int64} {x : Nat} {K54 : Int64 × Int32 → Option Int64} (hv : ∀ k, k < 5 → fX6_propertyOf (nI x) (nI k) M = some (v k)) : ∀ (k i m : Nat), i + k = 5 → k < m → iter (bfX6_digest_89 M K54) m (hf v h i, nI x, nI i) = K54 (hf v h 5, nI (x + 1)) := by
  intro k
  induction k with
  | zero =>
    intro i m hi hm
    obtain ⟨m, rfl⟩ : ∃ k, m = k + 1 := ⟨m - 1, by omega⟩
    obtain rfl : i = 5 := by omega
    rw [it_s, bfX6_digest_89, if_pos (by decide)]
    rw [nA_1]
  | succ k ih =>
    intro i m hi hm
    obtain ⟨m, rfl⟩ : ∃ k, m = k + 1 := ⟨m - 1, by omega⟩
    rw [it_s, bfX6_digest_89, if_neg (show ¬ (4 : Int32) < nI i from nI_nlt (a := 4) (by omega) (by omega)), hv i (by omega), ob_eq, nm, nA_1]
    exact ih (i + 1) m (by omega) (by omega)
theorem dg39 {X : RS} {vr : Nat → Nat → Int32} {nu : Nat → Int32} {h : Int64} {nr : Nat} (hn : nr ≤ 16) (hs : ssize 5 (X.2.1 0) = nI nr) (hl : ∀ i, i < nr → fX5_live (nI i) X = some (nu i)) (hv : ∀ i k, i < nr → k < 5 → fX5_request (nu i) (nI k) X = some (vr i k)) : ∀ (k i m : Nat), i + k = nr → k < m → iter (bfX5_digest_39 X) m (hrq nu vr h i, nI i) = ob (fX5_hashOfServer (hrq nu vr h nr) ((ssize 6 (X.2.1 0))) ((ssize 8 (X.2.1 0))) X) fun u12 => ob (fX5_amplification X) fun u13 => some (((31 : Int64) * u12) + (u13).toInt64) := by
  intro k
  induction k with
  | zero =>
    intro i m hi hm
    obtain ⟨m, rfl⟩ : ∃ k, m = k + 1 := ⟨m - 1, by omega⟩
    obtain rfl : i = nr := by omega
    rw [it_s, bfX5_digest_39, hs, if_pos (nI_le (Nat.le_refl _) (by omega))]
  | succ k ih =>
    intro i m hi hm
    obtain ⟨m, rfl⟩ : ∃ k, m = k + 1 := ⟨m - 1, by omega⟩
    have e1 := dg73 (X := X) (v := vr i) (h := (31 : Int64) * hrq nu vr h i + (nu i).toInt64) (x := i) (nu := nu i) (K39 := iter (bfX5_digest_39 X) m) (fun k hk => hv i k (by omega) hk) 5 0 FU (by omega) (by unfold FU; omega)
    rw [it_s, bfX5_digest_39, hs, if_neg (nI_ge (by omega) (by omega)), hl i (by omega), ob_eq, nm]
    exact e1.trans (ih (i + 1) m (by omega) (by omega))
theorem dg54 {M : MS} {vr : Nat → Nat → Int32} {nu : Nat → Int32} {h : Int64} {nr : Nat} (hn : nr ≤ 16) (hs : M.1 188 = nI nr) (hl : ∀ i, i < nr → M.1 (189 + 8 * i + 0) = nu i) (hv : ∀ i k, i < nr → k < 5 → fX6_propertyOf (nI i) (nI k) M = some (vr i k)) : ∀ (k i m : Nat), i + k = nr → k < m → iter (bfX6_digest_54 M) m (hrq nu vr h i, nI i) = iter (bfX6_digest_124 M) FU (hrq nu vr h nr, (0 : Int32)) := by
  intro k
  induction k with
  | zero =>
    intro i m hi hm
    obtain ⟨m, rfl⟩ : ∃ k, m = k + 1 := ⟨m - 1, by omega⟩
    obtain rfl : i = nr := by omega
    rw [it_s, bfX6_digest_54, cl_188, hs, if_pos (nI_le (Nat.le_refl _) (by omega))]
  | succ k ih =>
    intro i m hi hm
    obtain ⟨m, rfl⟩ : ∃ k, m = k + 1 := ⟨m - 1, by omega⟩
    have e1 := dg89 (M := M) (v := vr i) (h := (31 : Int64) * hrq nu vr h i + (nu i).toInt64) (x := i) (K54 := iter (bfX6_digest_54 M) m) (fun k hk => hv i k (by omega) hk) 5 0 FU (by omega) (by unfold FU; omega)
    rw [it_s, bfX6_digest_54, cl_188, hs, if_neg (nI_ge (by omega) (by omega)), row_eq, ob_eq, nA_0, if_pos (okI_nI (by omega) (by decide)), nm, nI_clamp (by omega), hl i (by omega)]
    exact e1.trans (ih (i + 1) m (by omega) (by omega))
theorem hs103 {X : RS} {v : Nat → Int32} {h p1 : Int64} {p2 p3 : Int32} (hv : ∀ w, w < 4 → fX5_atWorker (1 : Int32) (nI w) X = some (v w)) : ∀ (k i m : Nat), i + k = 4 → k < m → iter (bfX5_hashOfServer_103 p1 p2 p3 X) m (hf v h i, nI i) = some (hf v h 4) := by
  intro k
  induction k with
  | zero =>
    intro i m hi hm
    obtain ⟨m, rfl⟩ : ∃ k, m = k + 1 := ⟨m - 1, by omega⟩
    obtain rfl : i = 4 := by omega
    rw [it_s, bfX5_hashOfServer_103, if_pos (by decide)]
  | succ k ih =>
    intro i m hi hm
    obtain ⟨m, rfl⟩ : ∃ k, m = k + 1 := ⟨m - 1, by omega⟩
    rw [it_s, bfX5_hashOfServer_103, if_neg (show ¬ (4 : Int32) ≤ nI i from nI_ge (b := 4) (by omega) (by omega)), hv i (by omega), ob_eq, nm, nA_1]
    exact ih (i + 1) m (by omega) (by omega)
theorem hs71 {X : RS} {v : Nat → Int32} {h p1 : Int64} {p2 p3 : Int32} (hv : ∀ w, w < 4 → fX5_atWorker (0 : Int32) (nI w) X = some (v w)) : ∀ (k i m : Nat), i + k = 4 → k < m → iter (bfX5_hashOfServer_71 p1 p2 p3 X) m (hf v h i, nI i) = iter (bfX5_hashOfServer_103 p1 p2 p3 X) FU (hf v h 4, (0 : Int32)) := by
  intro k
  induction k with
  | zero =>
    intro i m hi hm
    obtain ⟨m, rfl⟩ : ∃ k, m = k + 1 := ⟨m - 1, by omega⟩
    obtain rfl : i = 4 := by omega
    rw [it_s, bfX5_hashOfServer_71, if_pos (by decide)]
  | succ k ih =>
    intro i m hi hm
    obtain ⟨m, rfl⟩ : ∃ k, m = k + 1 := ⟨m - 1, by omega⟩
    rw [it_s, bfX5_hashOfServer_71, if_neg (show ¬ (4 : Int32) ≤ nI i from nI_ge (b := 4) (by omega) (by omega)), hv i (by omega), ob_eq, nm, nA_1]
    exact ih (i + 1) m (by omega) (by omega)
theorem hs38 {X : RS} {v : Nat → Int32} {h p1 : Int64} {p2 : Int32} {n : Nat} (hn : n ≤ 16) (hv : ∀ w, w < n → fX5_queued (1 : Int32) (nI w) X = some (v w)) : ∀ (k i m : Nat), i + k = n → k < m → iter (bfX5_hashOfServer_38 p1 p2 (nI n) X) m (hf v h i, nI i) = iter (bfX5_hashOfServer_71 p1 p2 (nI n) X) FU (hf v h n, (0 : Int32)) := by
  intro k
  induction k with
  | zero =>
    intro i m hi hm
    obtain ⟨m, rfl⟩ : ∃ k, m = k + 1 := ⟨m - 1, by omega⟩
    obtain rfl : i = n := by omega
    rw [it_s, bfX5_hashOfServer_38, if_pos (nI_le (by omega) (by omega))]
  | succ k ih =>
    intro i m hi hm
    obtain ⟨m, rfl⟩ : ∃ k, m = k + 1 := ⟨m - 1, by omega⟩
    rw [it_s, bfX5_hashOfServer_38, if_neg (nI_ge (by omega) (by omega)), hv i (by omega), ob_eq, nm, nA_1]
    exact ih (i + 1) m (by omega) (by omega)
theorem hs6 {X : RS} {v : Nat → Int32} {h p1 : Int64} {p3 : Int32} {n : Nat} (hn : n ≤ 16) (hv : ∀ w, w < n → fX5_queued (0 : Int32) (nI w) X = some (v w)) : ∀ (k i m : Nat), i + k = n → k < m → iter (bfX5_hashOfServer_6 p1 (nI n) p3 X) m (hf v h i, nI i) = iter (bfX5_hashOfServer_38 p1 (nI n) p3 X) FU (hf v h n, (0 : Int32)) := by
  intro k
  induction k with
  | zero =>
    intro i m hi hm
    obtain ⟨m, rfl⟩ : ∃ k, m = k + 1 := ⟨m - 1, by omega⟩
    obtain rfl : i = n := by omega
    rw [it_s, bfX5_hashOfServer_6, if_pos (nI_le (by omega) (by omega))]
  | succ k ih =>
    intro i m hi hm
    obtain ⟨m, rfl⟩ : ∃ k, m = k + 1 := ⟨m - 1, by omega⟩
    rw [it_s, bfX5_hashOfServer_6, if_neg (nI_ge (by omega) (by omega)), hv i (by omega), ob_eq, nm, nA_1]
    exact ih (i + 1) m (by omega) (by omega)
theorem dg243 {M : MS} {v : Nat → Int32} {h : Int64} (hv : ∀ k, k < 4 → fX6_ownerOf (M.1 (595 + k)) M = some (v k)) : ∀ (k i m : Nat), i + k = 4 → k < m → iter (bfX6_digest_243 M) m (hf v h i, nI i) = (ob (fX6_amplification M) fun u17 => some (((31 : Int64) * hf v h 4) + (u17).toInt64)) := by
  intro k
  induction k with
  | zero =>
    intro i m hi hm
    obtain ⟨m, rfl⟩ : ∃ k, m = k + 1 := ⟨m - 1, by omega⟩
    obtain rfl : i = 4 := by omega
    rw [it_s, bfX6_digest_243, if_pos (by decide)]
  | succ k ih =>
    intro i m hi hm
    obtain ⟨m, rfl⟩ : ∃ k, m = k + 1 := ⟨m - 1, by omega⟩
    have hcl' : ((595 : Int32) + nI i).toNatClampNeg = 595 + i := by rw [nB_595]; exact nI_clamp (by omega)
    have ho : okI ((595 : Int32) + nI i) 5130 := by rw [nB_595]; exact okI_nI (by omega) (by decide)
    rw [it_s, bfX6_digest_243, if_neg (show ¬ (4 : Int32) ≤ nI i from nI_ge (b := 4) (by omega) (by omega)), if_pos ho, show fX6_ownerOf (M.1 ((595 : Int32) + nI i).toNatClampNeg) M = some (v i) by rw [hcl']; exact hv i (by omega), ob_eq, nm, nA_1]
    exact ih (i + 1) m (by omega) (by omega)
theorem dg208 {M : MS} {v : Nat → Int32} {h : Int64} (hv : ∀ k, k < 4 → fX6_ownerOf (M.1 (591 + k)) M = some (v k)) : ∀ (k i m : Nat), i + k = 4 → k < m → iter (bfX6_digest_208 M) m (hf v h i, nI i) = iter (bfX6_digest_243 M) FU (hf v h 4, (0 : Int32)) := by
  intro k
  induction k with
  | zero =>
    intro i m hi hm
    obtain ⟨m, rfl⟩ : ∃ k, m = k + 1 := ⟨m - 1, by omega⟩
    obtain rfl : i = 4 := by omega
    rw [it_s, bfX6_digest_208, if_pos (by decide)]
  | succ k ih =>
    intro i m hi hm
    obtain ⟨m, rfl⟩ : ∃ k, m = k + 1 := ⟨m - 1, by omega⟩
    have hcl' : ((591 : Int32) + nI i).toNatClampNeg = 591 + i := by rw [nB_591]; exact nI_clamp (by omega)
    have ho : okI ((591 : Int32) + nI i) 5130 := by rw [nB_591]; exact okI_nI (by omega) (by decide)
    rw [it_s, bfX6_digest_208, if_neg (show ¬ (4 : Int32) ≤ nI i from nI_ge (b := 4) (by omega) (by omega)), if_pos ho, show fX6_ownerOf (M.1 ((591 : Int32) + nI i).toNatClampNeg) M = some (v i) by rw [hcl']; exact hv i (by omega), ob_eq, nm, nA_1]
    exact ih (i + 1) m (by omega) (by omega)
theorem dg166 {M : MS} {v : Nat → Int32} {h : Int64} {n : Nat} (hn : n ≤ 16) (hm0 : M.1 574 = nI n) (hv : ∀ k, k < n → fX6_ownerOf (M.1 (575 + k)) M = some (v k)) : ∀ (k i m : Nat), i + k = n → k < m → iter (bfX6_digest_166 M) m (hf v h i, nI i) = iter (bfX6_digest_208 M) FU (hf v h n, (0 : Int32)) := by
  intro k
  induction k with
  | zero =>
    intro i m hi hm
    obtain ⟨m, rfl⟩ : ∃ k, m = k + 1 := ⟨m - 1, by omega⟩
    obtain rfl : i = n := by omega
    rw [it_s, bfX6_digest_166, cl_574, hm0, if_pos (nI_le (by omega) (by omega))]
  | succ k ih =>
    intro i m hi hm
    obtain ⟨m, rfl⟩ : ∃ k, m = k + 1 := ⟨m - 1, by omega⟩
    have hcl' : ((575 : Int32) + nI i).toNatClampNeg = 575 + i := by rw [nB_575]; exact nI_clamp (by omega)
    have ho : okI ((575 : Int32) + nI i) 5130 := by rw [nB_575]; exact okI_nI (by omega) (by decide)
    rw [it_s, bfX6_digest_166, cl_574, hm0, if_neg (nI_ge (by omega) (by omega)), if_pos ho, show fX6_ownerOf (M.1 ((575 : Int32) + nI i).toNatClampNeg) M = some (v i) by rw [hcl']; exact hv i (by omega), ob_eq, nm, nA_1]
    exact ih (i + 1) m (by omega) (by omega)
theorem dg124 {M : MS} {v : Nat → Int32} {h : Int64} {n : Nat} (hn : n ≤ 16) (hm0 : M.1 557 = nI n) (hv : ∀ k, k < n → fX6_ownerOf (M.1 (558 + k)) M = some (v k)) : ∀ (k i m : Nat), i + k = n → k < m → iter (bfX6_digest_124 M) m (hf v h i, nI i) = iter (bfX6_digest_166 M) FU (hf v h n, (0 : Int32)) := by
  intro k
  induction k with
  | zero =>
    intro i m hi hm
    obtain ⟨m, rfl⟩ : ∃ k, m = k + 1 := ⟨m - 1, by omega⟩
    obtain rfl : i = n := by omega
    rw [it_s, bfX6_digest_124, cl_557, hm0, if_pos (nI_le (by omega) (by omega))]
  | succ k ih =>
    intro i m hi hm
    obtain ⟨m, rfl⟩ : ∃ k, m = k + 1 := ⟨m - 1, by omega⟩
    have hcl' : ((558 : Int32) + nI i).toNatClampNeg = 558 + i := by rw [nB_558]; exact nI_clamp (by omega)
    have ho : okI ((558 : Int32) + nI i) 5130 := by rw [nB_558]; exact okI_nI (by omega) (by decide)
    rw [it_s, bfX6_digest_124, cl_557, hm0, if_neg (nI_ge (by omega) (by omega)), if_pos ho, show fX6_ownerOf (M.1 ((558 : Int32) + nI i).toNatClampNeg) M = some (v i) by rw [hcl']; exact hv i (by omega), ob_eq, nm, nA_1]
    exact ih (i + 1) m (by omega) (by omega)
