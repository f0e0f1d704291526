theorem rec_lt {x : Int32} (h : okI x 4) : x.toNatClampNeg + 2 < 6 := by have := fun q => h (Or.inr q); omega
theorem rec_ne {x : Int32} (_ : okI x 4) : x.toNatClampNeg + 2 ≠ 0 := by omega
theorem rec_ne2 {x : Int32} (_ : okI x 4) : 0 ≠ x.toNatClampNeg + 2 := by omega
theorem dX5_amplification_0 : decode cX5_amplification 0 = .ok (.aload_n 0, 1) := by decide +kernel
theorem dX5_amplification_1 : decode cX5_amplification 1 = .ok (.getfield 10, 3) := by decide +kernel
theorem dX5_amplification_4 : decode cX5_amplification 4 = .ok (.iconst 0, 1) := by decide +kernel
theorem dX5_amplification_5 : decode cX5_amplification 5 = .ok (.invokevirtual 78, 3) := by decide +kernel
theorem dX5_amplification_8 : decode cX5_amplification 8 = .ok (.istore_n 1, 1) := by decide +kernel
theorem dX5_amplification_9 : decode cX5_amplification 9 = .ok (.iload_n 1, 1) := by decide +kernel
theorem dX5_amplification_10 : decode cX5_amplification 10 = .ok (.ifCond .le 23, 3) := by decide +kernel
theorem dX5_amplification_13 : decode cX5_amplification 13 = .ok (.ldc2_w 144, 3) := by decide +kernel
theorem dX5_amplification_16 : decode cX5_amplification 16 = .ok (.aload_n 0, 1) := by decide +kernel
theorem dX5_amplification_17 : decode cX5_amplification 17 = .ok (.getfield 10, 3) := by decide +kernel
theorem dX5_amplification_20 : decode cX5_amplification 20 = .ok (.iconst 1, 1) := by decide +kernel
theorem dX5_amplification_21 : decode cX5_amplification 21 = .ok (.invokevirtual 78, 3) := by decide +kernel
theorem dX5_amplification_24 : decode cX5_amplification 24 = .ok (.i2l, 1) := by decide +kernel
theorem dX5_amplification_25 : decode cX5_amplification 25 = .ok (.lmul, 1) := by decide +kernel
theorem dX5_amplification_26 : decode cX5_amplification 26 = .ok (.iload_n 1, 1) := by decide +kernel
theorem dX5_amplification_27 : decode cX5_amplification 27 = .ok (.i2l, 1) := by decide +kernel
theorem dX5_amplification_28 : decode cX5_amplification 28 = .ok (.ldiv, 1) := by decide +kernel
theorem dX5_amplification_29 : decode cX5_amplification 29 = .ok (.l2i, 1) := by decide +kernel
theorem dX5_amplification_30 : decode cX5_amplification 30 = .ok (.goto 4, 3) := by decide +kernel
theorem dX5_amplification_33 : decode cX5_amplification 33 = .ok (.iconst 0, 1) := by decide +kernel
theorem dX5_amplification_34 : decode cX5_amplification 34 = .ok (.ireturn, 1) := by decide +kernel
def bfX5_amplification_34 (S : RS) (s0 : Int32) : Option (Int32) :=
  some s0
def fX5_amplification (S : RS) : Option (Int32) :=
  ob (fX2_total (0 : Int32) (S.2.1 0)) fun u3 => (if u3 ≤ 0 then bfX5_amplification_34 S  ((0 : Int32)) else ob (fX2_total (1 : Int32) (S.2.1 0)) fun u4 => (if (u3).toInt64 = 0 then none else bfX5_amplification_34 S  (((((100 : Int64) * (u4).toInt64) / (u3).toInt64)).toInt32)))
set_option maxHeartbeats 4000000 in
set_option maxRecDepth 100000 in
theorem kX5_amplification (l : Launch) (D : va_G) (cI cS : ClassId) (aR : Nat → Nat) (S : RS) {q : Int32} (h : fX5_amplification S = some q) : Mc l D (tyL cI cS) false yX5_amplification cX5_amplification 2 (some .int) 4 [.ref (aR 0)] (wR cI cS aR S) (some (.int q)) (wR cI cS aR S) := by
  refine Mc_of RX5 (by decide +kernel) rfl wc_X5_amplification (Nat.le_of_ble_eq_true rfl) ?_
  intro p e s m args below meth c A Q ls C hA hz hP hD hS hl RET
  have RETh : ∀ {pc : Nat} {ls : Array Slot} {H : Heap} {locs : List Loc} {x : Int32} , decode cX5_amplification pc = .ok (.ireturn, 1) → some x = some q → va_P D vwCl (wR cI cS aR S) H → va_D A (wR cI cS aR S) → va_S A s.heap H locs → W p l e (rmL 4) s m args below meth c H locs 0 0 Q (F0 m pc ls [.int x]) := by
    intro pc ls H locs x hd h hP hD hS; cases h; exact RET (x_iret C hd) hP hD hS
  have B34 : ∀ (s0 : Int32), bfX5_amplification_34 S s0 = some q → ∀ (H : Heap) (locs : List Loc) (ls : Array Slot), va_P D vwCl (wR cI cS aR S) H → va_D A (wR cI cS aR S) → va_S A s.heap H locs → lv_has ls 2 [] → W p l e (rmL 4) s m args below meth c H locs 0 0 Q (F0 m 34 ls [.int s0]) := by
    intro s0 h H locs ls hP hD hS hl
    exact RETh dX5_amplification_34 h hP hD hS
  refine x_aload_n C dX5_amplification_0 rfl hl 0 rfl ?_
  refine x_get C inX5 hP 0 rfl rfl 0 (by decide) wf_X5_10 rfl dX5_amplification_1 ?_
  refine x_iconst (v := (0 : Int32)) C dX5_amplification_4 (by decide) ?_
  obtain ⟨u3, hu3, h⟩ := ob_some h
  refine x_callV (As := [.int _]) (n := 1) C (Mc.toR0 (X := S) (i := 0) (kX2_total l D cI cS (S.1 0) _ _ hu3) cS aR (by decide)) (fun hh => nomatch hh) wm_X5_78 wi_X2_total we_X2_total wz_X2 wc_X2_total (by decide +kernel) rfl hP hD hS hA 2 0 rfl rfl rfl hl.1 dX5_amplification_5 rfl (Nat.le_of_ble_eq_true rfl) ⟨Nat.le_of_ble_eq_true rfl, Nat.le_of_ble_eq_true rfl⟩ ⟨Nat.zero_le _, Nat.zero_le _⟩ (fun H locs hP hD hS => ?_)
  refine x_istore_n (lv' := [(1, .int u3), (0, .ref (aR 0))]) C dX5_amplification_8 rfl hl (by decide) rfl (fun ls hl => ?_)
  refine x_iload_n C dX5_amplification_9 rfl hl 0 rfl ?_
  refine x_if_le (tgt := 33) C h dX5_amplification_10 (by decide) (fun h => ?_) (fun h => ?_)
  · refine x_iconst (v := (0 : Int32)) C dX5_amplification_33 (by decide) ?_
    exact B34 _ h _ _ _ hP hD hS (lv_sub hl [] rfl)
  · refine x_ldc2 C wq_X5_144 dX5_amplification_13 ?_
    refine x_aload_n C dX5_amplification_16 rfl hl 1 rfl ?_
    refine x_get C inX5 hP 0 rfl rfl 0 (by decide) wf_X5_10 rfl dX5_amplification_17 ?_
    refine x_iconst (v := (1 : Int32)) C dX5_amplification_20 (by decide) ?_
    obtain ⟨u4, hu4, h⟩ := ob_some h
    refine x_callV (As := [.int _]) (n := 1) C (Mc.toR0 (X := S) (i := 0) (kX2_total l D cI cS (S.1 0) _ _ hu4) cS aR (by decide)) (fun hh => nomatch hh) wm_X5_78 wi_X2_total we_X2_total wz_X2 wc_X2_total (by decide +kernel) rfl hP hD hS hA 2 0 rfl rfl rfl hl.1 dX5_amplification_21 rfl (Nat.le_of_ble_eq_true rfl) ⟨Nat.le_of_ble_eq_true rfl, Nat.le_of_ble_eq_true rfl⟩ ⟨Nat.zero_le _, Nat.zero_le _⟩ (fun H locs hP hD hS => ?_)
    refine x_i2l C dX5_amplification_24 ?_
    refine x_lmul C dX5_amplification_25 ?_
    refine x_iload_n C dX5_amplification_26 rfl hl 0 rfl ?_
    refine x_i2l C dX5_amplification_27 ?_
    refine x_ldiv C h dX5_amplification_28 (fun h => ?_)
    refine x_l2i C dX5_amplification_29 ?_
    refine x_goto (tgt := 34) C dX5_amplification_30 (by decide) ?_
    exact B34 _ h _ _ _ hP hD hS (lv_sub hl [] rfl)
theorem dX5_atWorker_0 : decode cX5_atWorker 0 = .ok (.iload_n 2, 1) := by decide +kernel
theorem dX5_atWorker_1 : decode cX5_atWorker 1 = .ok (.ifCond .lt 8, 3) := by decide +kernel
theorem dX5_atWorker_4 : decode cX5_atWorker 4 = .ok (.iload_n 2, 1) := by decide +kernel
theorem dX5_atWorker_5 : decode cX5_atWorker 5 = .ok (.iconst 4, 1) := by decide +kernel
theorem dX5_atWorker_6 : decode cX5_atWorker 6 = .ok (.if_icmp .lt 5, 3) := by decide +kernel
theorem dX5_atWorker_9 : decode cX5_atWorker 9 = .ok (.iconst (-1), 1) := by decide +kernel
theorem dX5_atWorker_10 : decode cX5_atWorker 10 = .ok (.ireturn, 1) := by decide +kernel
theorem dX5_atWorker_11 : decode cX5_atWorker 11 = .ok (.aload_n 0, 1) := by decide +kernel
theorem dX5_atWorker_12 : decode cX5_atWorker 12 = .ok (.getfield 10, 3) := by decide +kernel
theorem dX5_atWorker_15 : decode cX5_atWorker 15 = .ok (.getfield 106, 3) := by decide +kernel
theorem dX5_atWorker_18 : decode cX5_atWorker 18 = .ok (.iload_n 1, 1) := by decide +kernel
theorem dX5_atWorker_19 : decode cX5_atWorker 19 = .ok (.ifCond .eq 18, 3) := by decide +kernel
theorem dX5_atWorker_22 : decode cX5_atWorker 22 = .ok (.aload_n 0, 1) := by decide +kernel
theorem dX5_atWorker_23 : decode cX5_atWorker 23 = .ok (.getfield 10, 3) := by decide +kernel
theorem dX5_atWorker_26 : decode cX5_atWorker 26 = .ok (.getfield 109, 3) := by decide +kernel
theorem dX5_atWorker_29 : decode cX5_atWorker 29 = .ok (.iload_n 2, 1) := by decide +kernel
theorem dX5_atWorker_30 : decode cX5_atWorker 30 = .ok (.iconst 0, 1) := by decide +kernel
theorem dX5_atWorker_31 : decode cX5_atWorker 31 = .ok (.invokevirtual 41, 3) := by decide +kernel
theorem dX5_atWorker_34 : decode cX5_atWorker 34 = .ok (.goto 4, 3) := by decide +kernel
theorem dX5_atWorker_37 : decode cX5_atWorker 37 = .ok (.iload_n 2, 1) := by decide +kernel
theorem dX5_atWorker_38 : decode cX5_atWorker 38 = .ok (.iconst 0, 1) := by decide +kernel
theorem dX5_atWorker_39 : decode cX5_atWorker 39 = .ok (.invokevirtual 41, 3) := by decide +kernel
theorem dX5_atWorker_42 : decode cX5_atWorker 42 = .ok (.ireturn, 1) := by decide +kernel
def bfX5_atWorker_38 (p1 : Int32) (p2 : Int32) (S : RS) (s1 : Int32) : Option (Int32) :=
  some (sget 7 (S.2.1 0) s1 (0 : Int32))
def bfX5_atWorker_9 (p1 : Int32) (p2 : Int32) (S : RS) : Option (Int32) :=
  some (-1 : Int32)
def fX5_atWorker (p1 : Int32) (p2 : Int32) (S : RS) : Option (Int32) :=
  (if p2 < 0 then bfX5_atWorker_9 p1 p2 S else (if p2 < (4 : Int32) then (if p1 = 0 then bfX5_atWorker_38 p1 p2 S  p2 else bfX5_atWorker_38 p1 p2 S  ((sget 9 (S.2.1 0) p2 (0 : Int32)))) else bfX5_atWorker_9 p1 p2 S))
set_option maxHeartbeats 4000000 in
set_option maxRecDepth 100000 in
theorem kX5_atWorker (l : Launch) (D : va_G) (cI cS : ClassId) (aR : Nat → Nat) (p1 : Int32) (p2 : Int32) (S : RS) {q : Int32} (h : fX5_atWorker p1 p2 S = some q) : Mc l D (tyL cI cS) false yX5_atWorker cX5_atWorker 3 (some .int) 2 [.ref (aR 0), .int p1, .int p2] (wR cI cS aR S) (some (.int q)) (wR cI cS aR S) := by
  refine Mc_of RX5 (by decide +kernel) rfl wc_X5_atWorker (Nat.le_of_ble_eq_true rfl) ?_
  intro p e s m args below meth c A Q ls C hA hz hP hD hS hl RET
  have RETh : ∀ {pc : Nat} {ls : Array Slot} {H : Heap} {locs : List Loc} {x : Int32} , decode cX5_atWorker pc = .ok (.ireturn, 1) → some x = some q → va_P D vwCl (wR cI cS aR S) H → va_D A (wR cI cS aR S) → va_S A s.heap H locs → W p l e (rmL 2) s m args below meth c H locs 0 0 Q (F0 m pc ls [.int x]) := by
    intro pc ls H locs x hd h hP hD hS; cases h; exact RET (x_iret C hd) hP hD hS
  have B38 : ∀ (s1 : Int32), bfX5_atWorker_38 p1 p2 S s1 = some q → ∀ (H : Heap) (locs : List Loc) (ls : Array Slot), va_P D vwCl (wR cI cS aR S) H → va_D A (wR cI cS aR S) → va_S A s.heap H locs → lv_has ls 3 [] → W p l e (rmL 2) s m args below meth c H locs 0 0 Q (F0 m 38 ls [.int s1, .ref (S.1 0 15)]) := by
    intro s1 h H locs ls hP hD hS hl
    refine x_iconst (v := (0 : Int32)) C dX5_atWorker_38 (by decide) ?_
    refine x_callV (As := [.int _, .int _]) (n := 2) C (Mc.toR0 (X := S) (i := 0) (kS_get l D cI cS (S.1 0) _ 7 (by decide) _ _) cS aR (by decide)) (fun hh => nomatch hh) wm_X5_41 wi_X3_get we_X3_get wz_X3 wc_X3_get (by decide +kernel) rfl hP hD hS hA 17 1 rfl rfl rfl hl.1 dX5_atWorker_39 rfl (Nat.le_of_ble_eq_true rfl) ⟨Nat.le_of_ble_eq_true rfl, Nat.le_of_ble_eq_true rfl⟩ ⟨Nat.zero_le _, Nat.zero_le _⟩ (fun H locs hP hD hS => ?_)
    exact RETh dX5_atWorker_42 h hP hD hS
  have B9 : bfX5_atWorker_9 p1 p2 S = some q → ∀ (H : Heap) (locs : List Loc) (ls : Array Slot), va_P D vwCl (wR cI cS aR S) H → va_D A (wR cI cS aR S) → va_S A s.heap H locs → lv_has ls 3 [] → W p l e (rmL 2) s m args below meth c H locs 0 0 Q (F0 m 9 ls []) := by
    intro  h H locs ls hP hD hS hl
    refine x_iconst (v := (-1 : Int32)) C dX5_atWorker_9 (by decide) ?_
    exact RETh dX5_atWorker_10 h hP hD hS
  refine x_iload_n C dX5_atWorker_0 rfl hl 2 rfl ?_
  refine x_if_lt (tgt := 9) C h dX5_atWorker_1 (by decide) (fun h => ?_) (fun h => ?_)
  · exact B9  h _ _ _ hP hD hS (lv_sub hl [] rfl)
  · refine x_iload_n C dX5_atWorker_4 rfl hl 2 rfl ?_
    refine x_iconst (v := (4 : Int32)) C dX5_atWorker_5 (by decide) ?_
    refine x_icmp_lt (tgt := 11) C h dX5_atWorker_6 (by decide) (fun h => ?_) (fun h => ?_)
    · refine x_aload_n C dX5_atWorker_11 rfl hl 0 rfl ?_
      refine x_get C inX5 hP 0 rfl rfl 0 (by decide) wf_X5_10 rfl dX5_atWorker_12 ?_
      refine x_get C inX2 hP 2 rfl rfl 7 (by decide) wf_X5_106 rfl dX5_atWorker_15 ?_
      refine x_iload_n C dX5_atWorker_18 rfl hl 1 rfl ?_
      refine x_if_eq (tgt := 37) C h dX5_atWorker_19 (by decide) (fun h => ?_) (fun h => ?_)
      · refine x_iload_n C dX5_atWorker_37 rfl hl 2 rfl ?_
        exact B38 _ h _ _ _ hP hD hS (lv_sub hl [] rfl)
      · refine x_aload_n C dX5_atWorker_22 rfl hl 0 rfl ?_
        refine x_get C inX5 hP 0 rfl rfl 0 (by decide) wf_X5_10 rfl dX5_atWorker_23 ?_
        refine x_get C inX2 hP 2 rfl rfl 9 (by decide) wf_X5_109 rfl dX5_atWorker_26 ?_
        refine x_iload_n C dX5_atWorker_29 rfl hl 2 rfl ?_
        refine x_iconst (v := (0 : Int32)) C dX5_atWorker_30 (by decide) ?_
        refine x_callV (As := [.int _, .int _]) (n := 2) C (Mc.toR0 (X := S) (i := 0) (kS_get l D cI cS (S.1 0) _ 9 (by decide) _ _) cS aR (by decide)) (fun hh => nomatch hh) wm_X5_41 wi_X3_get we_X3_get wz_X3 wc_X3_get (by decide +kernel) rfl hP hD hS hA 21 1 rfl rfl rfl hl.1 dX5_atWorker_31 rfl (Nat.le_of_ble_eq_true rfl) ⟨Nat.le_of_ble_eq_true rfl, Nat.le_of_ble_eq_true rfl⟩ ⟨Nat.zero_le _, Nat.zero_le _⟩ (fun H locs hP hD hS => ?_)
        refine x_goto (tgt := 38) C dX5_atWorker_34 (by decide) ?_
        exact B38 _ h _ _ _ hP hD hS (lv_sub hl [] rfl)
    · exact B9  h _ _ _ hP hD hS (lv_sub hl [] rfl)
theorem dX5_goodWorkWith_0 : decode cX5_goodWorkWith 0 = .ok (.aload_n 0, 1) := by decide +kernel
theorem dX5_goodWorkWith_1 : decode cX5_goodWorkWith 1 = .ok (.getfield 16, 3) := by decide +kernel
theorem dX5_goodWorkWith_4 : decode cX5_goodWorkWith 4 = .ok (.aload_n 0, 1) := by decide +kernel
theorem dX5_goodWorkWith_5 : decode cX5_goodWorkWith 5 = .ok (.getfield 10, 3) := by decide +kernel
theorem dX5_goodWorkWith_8 : decode cX5_goodWorkWith 8 = .ok (.invokevirtual 146, 3) := by decide +kernel
theorem dX5_goodWorkWith_11 : decode cX5_goodWorkWith 11 = .ok (.aload_n 0, 1) := by decide +kernel
theorem dX5_goodWorkWith_12 : decode cX5_goodWorkWith 12 = .ok (.getfield 16, 3) := by decide +kernel
theorem dX5_goodWorkWith_15 : decode cX5_goodWorkWith 15 = .ok (.iload_n 2, 1) := by decide +kernel
theorem dX5_goodWorkWith_16 : decode cX5_goodWorkWith 16 = .ok (.putfield 65, 3) := by decide +kernel
theorem dX5_goodWorkWith_19 : decode cX5_goodWorkWith 19 = .ok (.iconst 0, 1) := by decide +kernel
theorem dX5_goodWorkWith_20 : decode cX5_goodWorkWith 20 = .ok (.istore_n 3, 1) := by decide +kernel
theorem dX5_goodWorkWith_21 : decode cX5_goodWorkWith 21 = .ok (.iload_n 3, 1) := by decide +kernel
theorem dX5_goodWorkWith_22 : decode cX5_goodWorkWith 22 = .ok (.iload_n 1, 1) := by decide +kernel
theorem dX5_goodWorkWith_23 : decode cX5_goodWorkWith 23 = .ok (.if_icmp .ge 16, 3) := by decide +kernel
theorem dX5_goodWorkWith_26 : decode cX5_goodWorkWith 26 = .ok (.aload_n 0, 1) := by decide +kernel
theorem dX5_goodWorkWith_27 : decode cX5_goodWorkWith 27 = .ok (.getfield 16, 3) := by decide +kernel
theorem dX5_goodWorkWith_30 : decode cX5_goodWorkWith 30 = .ok (.invokestatic 81, 3) := by decide +kernel
theorem dX5_goodWorkWith_33 : decode cX5_goodWorkWith 33 = .ok (.iinc 3 1, 3) := by decide +kernel
theorem dX5_goodWorkWith_36 : decode cX5_goodWorkWith 36 = .ok (.goto (-15), 3) := by decide +kernel
theorem dX5_goodWorkWith_39 : decode cX5_goodWorkWith 39 = .ok (.aload_n 0, 1) := by decide +kernel
theorem dX5_goodWorkWith_40 : decode cX5_goodWorkWith 40 = .ok (.getfield 16, 3) := by decide +kernel
theorem dX5_goodWorkWith_43 : decode cX5_goodWorkWith 43 = .ok (.getfield 112, 3) := by decide +kernel
theorem dX5_goodWorkWith_46 : decode cX5_goodWorkWith 46 = .ok (.aload_n 0, 1) := by decide +kernel
theorem dX5_goodWorkWith_47 : decode cX5_goodWorkWith 47 = .ok (.getfield 10, 3) := by decide +kernel
theorem dX5_goodWorkWith_50 : decode cX5_goodWorkWith 50 = .ok (.getfield 112, 3) := by decide +kernel
theorem dX5_goodWorkWith_53 : decode cX5_goodWorkWith 53 = .ok (.isub, 1) := by decide +kernel
theorem dX5_goodWorkWith_54 : decode cX5_goodWorkWith 54 = .ok (.ireturn, 1) := by decide +kernel
def bfX5_goodWorkWith_21 (p1 : Int32) (p2 : Int32) (K21 : Int32 × (RS) → Option (Int32 × (RS))) (x : Int32 × (RS)) : Option (Int32 × (RS)) :=
  match x with
  | (x3, S) => (if p1 ≤ x3 then some ((((S.2.1 1).2 15) - ((S.2.1 0).2 15)), S) else ob (fX4_pass (S.2.1 1)) fun u5 => nm (rset S 1 u5) fun S6 => K21 ((x3 + (1 : Int32)), S6))
def fX5_goodWorkWith (p1 : Int32) (p2 : Int32) (S : RS) : Option (Int32 × (RS)) :=
  nm (rset S 1 (S.2.1 0)) fun S7 => nm (rset S7 1 ((S7.2.1 1).1, upd (S7.2.1 1).2 11 p2)) fun S8 => iter (bfX5_goodWorkWith_21 p1 p2) FU ((0 : Int32), S8)
set_option maxHeartbeats 4000000 in
set_option maxRecDepth 100000 in
theorem kX5_goodWorkWith (l : Launch) (D : va_G) (cI cS : ClassId) (aR : Nat → Nat) (p1 : Int32) (p2 : Int32) (S : RS) {q : Int32 × (RS)} (h : fX5_goodWorkWith p1 p2 S = some q) : Mc l D (tyL cI cS) false yX5_goodWorkWith cX5_goodWorkWith 4 (some .int) 8 [.ref (aR 0), .int p1, .int p2] (wR cI cS aR S) (some (.int q.1)) (wR cI cS aR q.2) := by
  refine Mc_of RX5 (by decide +kernel) rfl wc_X5_goodWorkWith (Nat.le_of_ble_eq_true rfl) ?_
  intro p e s m args below meth c A Q ls C hA hz hP hD hS hl RET
  have RETh : ∀ {pc : Nat} {ls : Array Slot} {H : Heap} {locs : List Loc} {x : Int32} {S1 : RS}, decode cX5_goodWorkWith pc = .ok (.ireturn, 1) → some (x, S1) = some q → va_P D vwCl (wR cI cS aR S1) H → va_D A (wR cI cS aR S1) → va_S A s.heap H locs → W p l e (rmL 8) s m args below meth c H locs 0 0 Q (F0 m pc ls [.int x]) := by
    intro pc ls H locs x S1 hd h hP hD hS; cases h; exact RET (x_iret C hd) hP hD hS
  have B21 : ∀ (n : Nat) (x : Int32 × (RS)), iter (bfX5_goodWorkWith_21 p1 p2) n x = some q → (match x with | (x3, S) => ∀ (H : Heap) (locs : List Loc) (ls : Array Slot), va_P D vwCl (wR cI cS aR S) H → va_D A (wR cI cS aR S) → va_S A s.heap H locs → lv_has ls 4 [(0, .ref (aR 0)), (1, .int p1), (3, .int x3)] → W p l e (rmL 8) s m args below meth c H locs 0 0 Q (F0 m 21 ls [])) := by
    refine iter_ind (fun x : Int32 × (RS) => (match x with | (x3, S) => ∀ (H : Heap) (locs : List Loc) (ls : Array Slot), va_P D vwCl (wR cI cS aR S) H → va_D A (wR cI cS aR S) → va_S A s.heap H locs → lv_has ls 4 [(0, .ref (aR 0)), (1, .int p1), (3, .int x3)] → W p l e (rmL 8) s m args below meth c H locs 0 0 Q (F0 m 21 ls []))) ?_
    intro K21 ih21 x h
    obtain ⟨x3, S⟩ := x
    intro H locs ls hP hD hS hl
    refine x_iload_n C dX5_goodWorkWith_21 rfl hl 2 rfl ?_
    refine x_iload_n C dX5_goodWorkWith_22 rfl hl 1 rfl ?_
    refine x_icmp_ge (tgt := 39) C h dX5_goodWorkWith_23 (by decide) (fun h => ?_) (fun h => ?_)
    · refine x_aload_n C dX5_goodWorkWith_39 rfl hl 0 rfl ?_
      refine x_get C inX5 hP 0 rfl rfl 1 (by decide) wf_X5_16 rfl dX5_goodWorkWith_40 ?_
      refine x_get C inX2 hP 25 rfl rfl 15 (by decide) wf_X5_112 rfl dX5_goodWorkWith_43 ?_
      refine x_aload_n C dX5_goodWorkWith_46 rfl hl 0 rfl ?_
      refine x_get C inX5 hP 0 rfl rfl 0 (by decide) wf_X5_10 rfl dX5_goodWorkWith_47 ?_
      refine x_get C inX2 hP 2 rfl rfl 15 (by decide) wf_X5_112 rfl dX5_goodWorkWith_50 ?_
      refine x_isub C dX5_goodWorkWith_53 ?_
      exact RETh dX5_goodWorkWith_54 h hP hD hS
    · refine x_aload_n C dX5_goodWorkWith_26 rfl hl 0 rfl ?_
      refine x_get C inX5 hP 0 rfl rfl 1 (by decide) wf_X5_16 rfl dX5_goodWorkWith_27 ?_
      obtain ⟨u5, hu5, h⟩ := ob_some h
      refine x_callS (As := [.ref _]) (n := 1) C (Mc.toR (X := S) (i := 1) (kX4_pass l D cI cS (S.1 1) _ hu5) cS aR (by decide)) (fun hh => nomatch hh) wm_X5_81 wt_X4_pass wz_X4 wc_X4_pass (by decide +kernel) rfl hP hD hS hA hl.1 dX5_goodWorkWith_30 rfl (Nat.le_of_ble_eq_true rfl) ⟨Nat.le_of_ble_eq_true rfl, Nat.le_of_ble_eq_true rfl⟩ ⟨Nat.zero_le _, Nat.zero_le _⟩ (fun H locs hP hD hS => ?_)
      refine x_nmS (wR cI cS aR) h hP hD (fun S6 h hP hD => ?_)
      refine x_iinc (v := (x3 + (1 : Int32))) (lv' := [(3, .int (x3 + (1 : Int32))), (0, .ref (aR 0)), (1, .int p1)]) C dX5_goodWorkWith_33 hl (k := 2) rfl rfl (by decide) rfl (fun ls hl => ?_)
      refine x_goto (tgt := 21) C dX5_goodWorkWith_36 (by decide) ?_
      exact ih21 _ h _ _ _ hP hD hS (lv_sub hl [1, 2, 0] rfl)
  refine x_aload_n C dX5_goodWorkWith_0 rfl hl 0 rfl ?_
  refine x_get C inX5 hP 0 rfl rfl 1 (by decide) wf_X5_16 rfl dX5_goodWorkWith_1 ?_
  refine x_aload_n C dX5_goodWorkWith_4 rfl hl 0 rfl ?_
  refine x_get C inX5 hP 0 rfl rfl 0 (by decide) wf_X5_10 rfl dX5_goodWorkWith_5 ?_
  refine x_callV (As := [.ref _]) (n := 1) C (kR_copyFrom l D cI cS aR S 1 0 (by decide) (by decide) (by decide)) (fun hh => nomatch hh) wm_X5_146 wi_X2_copyFrom we_X2_copyFrom wz_X2 wc_X2_copyFrom (by decide +kernel) rfl hP hD hS hA 25 0 rfl rfl rfl hl.1 dX5_goodWorkWith_8 rfl (Nat.le_of_ble_eq_true rfl) ⟨Nat.le_of_ble_eq_true rfl, Nat.le_of_ble_eq_true rfl⟩ ⟨Nat.zero_le _, Nat.zero_le _⟩ (fun H locs hP hD hS => ?_)
  refine x_nmS (wR cI cS aR) h hP hD (fun S7 h hP hD => ?_)
  refine x_aload_n C dX5_goodWorkWith_11 rfl hl 0 rfl ?_
  refine x_get C inX5 hP 0 rfl rfl 1 (by decide) wf_X5_16 rfl dX5_goodWorkWith_12 ?_
  refine x_iload_n C dX5_goodWorkWith_15 rfl hl 2 rfl ?_
  refine x_putM (wR cI cS aR) C h inX2 tyX2 tyX2_ok nmX2 hP hD hS 25 rfl rfl 11 (by decide) wf_X5_65 rfl (ft := .int) (by decide +kernel) rfl rfl (Nat.le_of_ble_eq_true rfl) rfl dX5_goodWorkWith_16 (fun S8 h H locs hP hD hS => ?_)
  refine x_iconst (v := (0 : Int32)) C dX5_goodWorkWith_19 (by decide) ?_
  refine x_istore_n (lv' := [(3, .int (0 : Int32)), (0, .ref (aR 0)), (1, .int p1), (2, .int p2)]) C dX5_goodWorkWith_20 rfl hl (by decide) rfl (fun ls hl => ?_)
  exact B21 FU _ h _ _ _ hP hD hS (lv_sub hl [1, 2, 0] rfl)
theorem dX5_bestDiscipline_0 : decode cX5_bestDiscipline 0 = .ok (.iload_n 1, 1) := by decide +kernel
theorem dX5_bestDiscipline_1 : decode cX5_bestDiscipline 1 = .ok (.iconst 1, 1) := by decide +kernel
theorem dX5_bestDiscipline_2 : decode cX5_bestDiscipline 2 = .ok (.if_icmp .lt 9, 3) := by decide +kernel
theorem dX5_bestDiscipline_5 : decode cX5_bestDiscipline 5 = .ok (.iload_n 1, 1) := by decide +kernel
theorem dX5_bestDiscipline_6 : decode cX5_bestDiscipline 6 = .ok (.bipush 15, 2) := by decide +kernel
theorem dX5_bestDiscipline_8 : decode cX5_bestDiscipline 8 = .ok (.if_icmp .le 5, 3) := by decide +kernel
theorem dX5_bestDiscipline_11 : decode cX5_bestDiscipline 11 = .ok (.iconst (-1), 1) := by decide +kernel
theorem dX5_bestDiscipline_12 : decode cX5_bestDiscipline 12 = .ok (.ireturn, 1) := by decide +kernel
theorem dX5_bestDiscipline_13 : decode cX5_bestDiscipline 13 = .ok (.iconst 0, 1) := by decide +kernel
theorem dX5_bestDiscipline_14 : decode cX5_bestDiscipline 14 = .ok (.istore_n 2, 1) := by decide +kernel
theorem dX5_bestDiscipline_15 : decode cX5_bestDiscipline 15 = .ok (.iconst (-1), 1) := by decide +kernel
theorem dX5_bestDiscipline_16 : decode cX5_bestDiscipline 16 = .ok (.istore_n 3, 1) := by decide +kernel
theorem dX5_bestDiscipline_17 : decode cX5_bestDiscipline 17 = .ok (.iconst 0, 1) := by decide +kernel
theorem dX5_bestDiscipline_18 : decode cX5_bestDiscipline 18 = .ok (.istore 4, 2) := by decide +kernel
theorem dX5_bestDiscipline_20 : decode cX5_bestDiscipline 20 = .ok (.iload 4, 2) := by decide +kernel
theorem dX5_bestDiscipline_22 : decode cX5_bestDiscipline 22 = .ok (.iconst 4, 1) := by decide +kernel
theorem dX5_bestDiscipline_23 : decode cX5_bestDiscipline 23 = .ok (.if_icmp .ge 30, 3) := by decide +kernel
theorem dX5_bestDiscipline_26 : decode cX5_bestDiscipline 26 = .ok (.aload_n 0, 1) := by decide +kernel
theorem dX5_bestDiscipline_27 : decode cX5_bestDiscipline 27 = .ok (.iload_n 1, 1) := by decide +kernel
theorem dX5_bestDiscipline_28 : decode cX5_bestDiscipline 28 = .ok (.iload 4, 2) := by decide +kernel
theorem dX5_bestDiscipline_30 : decode cX5_bestDiscipline 30 = .ok (.invokevirtual 87, 3) := by decide +kernel
theorem dX5_bestDiscipline_33 : decode cX5_bestDiscipline 33 = .ok (.istore 5, 2) := by decide +kernel
theorem dX5_bestDiscipline_35 : decode cX5_bestDiscipline 35 = .ok (.iload 5, 2) := by decide +kernel
theorem dX5_bestDiscipline_37 : decode cX5_bestDiscipline 37 = .ok (.iload_n 3, 1) := by decide +kernel
theorem dX5_bestDiscipline_38 : decode cX5_bestDiscipline 38 = .ok (.if_icmp .le 9, 3) := by decide +kernel
theorem dX5_bestDiscipline_41 : decode cX5_bestDiscipline 41 = .ok (.iload 5, 2) := by decide +kernel
theorem dX5_bestDiscipline_43 : decode cX5_bestDiscipline 43 = .ok (.istore_n 3, 1) := by decide +kernel
theorem dX5_bestDiscipline_44 : decode cX5_bestDiscipline 44 = .ok (.iload 4, 2) := by decide +kernel
theorem dX5_bestDiscipline_46 : decode cX5_bestDiscipline 46 = .ok (.istore_n 2, 1) := by decide +kernel
theorem dX5_bestDiscipline_47 : decode cX5_bestDiscipline 47 = .ok (.iinc 4 1, 3) := by decide +kernel
theorem dX5_bestDiscipline_50 : decode cX5_bestDiscipline 50 = .ok (.goto (-30), 3) := by decide +kernel
theorem dX5_bestDiscipline_53 : decode cX5_bestDiscipline 53 = .ok (.iload_n 2, 1) := by decide +kernel
theorem dX5_bestDiscipline_54 : decode cX5_bestDiscipline 54 = .ok (.ireturn, 1) := by decide +kernel
def bfX5_bestDiscipline_47 (p1 : Int32) (K20 : Int32 × Int32 × Int32 × (RS) → Option (Int32 × (RS))) (x2 : Int32) (x3 : Int32) (x4 : Int32) (S : RS) : Option (Int32 × (RS)) :=
  K20 (x2, x3, (x4 + (1 : Int32)), S)
def bfX5_bestDiscipline_20 (p1 : Int32) (K20 : Int32 × Int32 × Int32 × (RS) → Option (Int32 × (RS))) (x : Int32 × Int32 × Int32 × (RS)) : Option (Int32 × (RS)) :=
  match x with
  | (x2, x3, x4, S) => (if (4 : Int32) ≤ x4 then some (x2, S) else ob (fX5_goodWorkWith p1 x4 S) fun u2 => (if u2.1 ≤ x3 then bfX5_bestDiscipline_47 p1 K20 x2 x3 x4 u2.2 else bfX5_bestDiscipline_47 p1 K20 x4 u2.1 x4 u2.2))
def bfX5_bestDiscipline_11 (p1 : Int32) (S : RS) : Option (Int32 × (RS)) :=
  some ((-1 : Int32), S)
def fX5_bestDiscipline (p1 : Int32) (S : RS) : Option (Int32 × (RS)) :=
  (if p1 < (1 : Int32) then bfX5_bestDiscipline_11 p1  S else (if p1 ≤ (15 : Int32) then iter (bfX5_bestDiscipline_20 p1) FU ((0 : Int32), (-1 : Int32), (0 : Int32), S) else bfX5_bestDiscipline_11 p1  S))
set_option maxHeartbeats 4000000 in
set_option maxRecDepth 100000 in
theorem kX5_bestDiscipline (l : Launch) (D : va_G) (cI cS : ClassId) (aR : Nat → Nat) (p1 : Int32) (S : RS) {q : Int32 × (RS)} (h : fX5_bestDiscipline p1 S = some q) : Mc l D (tyL cI cS) false yX5_bestDiscipline cX5_bestDiscipline 6 (some .int) 9 [.ref (aR 0), .int p1] (wR cI cS aR S) (some (.int q.1)) (wR cI cS aR q.2) := by
  refine Mc_of RX5 (by decide +kernel) rfl wc_X5_bestDiscipline (Nat.le_of_ble_eq_true rfl) ?_
  intro p e s m args below meth c A Q ls C hA hz hP hD hS hl RET
  have RETh : ∀ {pc : Nat} {ls : Array Slot} {H : Heap} {locs : List Loc} {x : Int32} {S1 : RS}, decode cX5_bestDiscipline pc = .ok (.ireturn, 1) → some (x, S1) = some q → va_P D vwCl (wR cI cS aR S1) H → va_D A (wR cI cS aR S1) → va_S A s.heap H locs → W p l e (rmL 9) s m args below meth c H locs 0 0 Q (F0 m pc ls [.int x]) := by
    intro pc ls H locs x S1 hd h hP hD hS; cases h; exact RET (x_iret C hd) hP hD hS
  have B47 : ∀ (K20 : Int32 × Int32 × Int32 × (RS) → Option (Int32 × (RS))) (ih20 : ∀ x, K20 x = some q → (match x with | (x2, x3, x4, S) => ∀ (H : Heap) (locs : List Loc) (ls : Array Slot), va_P D vwCl (wR cI cS aR S) H → va_D A (wR cI cS aR S) → va_S A s.heap H locs → lv_has ls 6 [(0, .ref (aR 0)), (1, .int p1), (2, .int x2), (3, .int x3), (4, .int x4)] → W p l e (rmL 9) s m args below meth c H locs 0 0 Q (F0 m 20 ls []))) (x2 : Int32) (x3 : Int32) (x4 : Int32) (S : RS), bfX5_bestDiscipline_47 p1 K20 x2 x3 x4 S = some q → ∀ (H : Heap) (locs : List Loc) (ls : Array Slot), va_P D vwCl (wR cI cS aR S) H → va_D A (wR cI cS aR S) → va_S A s.heap H locs → lv_has ls 6 [(0, .ref (aR 0)), (1, .int p1), (2, .int x2), (3, .int x3), (4, .int x4)] → W p l e (rmL 9) s m args below meth c H locs 0 0 Q (F0 m 47 ls []) := by
    intro K20 ih20 x2 x3 x4 S h H locs ls hP hD hS hl
    refine x_iinc (v := (x4 + (1 : Int32))) (lv' := [(4, .int (x4 + (1 : Int32))), (0, .ref (aR 0)), (1, .int p1), (2, .int x2), (3, .int x3)]) C dX5_bestDiscipline_47 hl (k := 4) rfl rfl (by decide) rfl (fun ls hl => ?_)
    refine x_goto (tgt := 20) C dX5_bestDiscipline_50 (by decide) ?_
    exact ih20 _ h _ _ _ hP hD hS (lv_sub hl [1, 2, 3, 4, 0] rfl)
  have B20 : ∀ (n : Nat) (x : Int32 × Int32 × Int32 × (RS)), iter (bfX5_bestDiscipline_20 p1) n x = some q → (match x with | (x2, x3, x4, S) => ∀ (H : Heap) (locs : List Loc) (ls : Array Slot), va_P D vwCl (wR cI cS aR S) H → va_D A (wR cI cS aR S) → va_S A s.heap H locs → lv_has ls 6 [(0, .ref (aR 0)), (1, .int p1), (2, .int x2), (3, .int x3), (4, .int x4)] → W p l e (rmL 9) s m args below meth c H locs 0 0 Q (F0 m 20 ls [])) := by
    refine iter_ind (fun x : Int32 × Int32 × Int32 × (RS) => (match x with | (x2, x3, x4, S) => ∀ (H : Heap) (locs : List Loc) (ls : Array Slot), va_P D vwCl (wR cI cS aR S) H → va_D A (wR cI cS aR S) → va_S A s.heap H locs → lv_has ls 6 [(0, .ref (aR 0)), (1, .int p1), (2, .int x2), (3, .int x3), (4, .int x4)] → W p l e (rmL 9) s m args below meth c H locs 0 0 Q (F0 m 20 ls []))) ?_
    intro K20 ih20 x h
    obtain ⟨x2, x3, x4, S⟩ := x
    intro H locs ls hP hD hS hl
    refine x_iload C dX5_bestDiscipline_20 hl 4 rfl ?_
    refine x_iconst (v := (4 : Int32)) C dX5_bestDiscipline_22 (by decide) ?_
    refine x_icmp_ge (tgt := 53) C h dX5_bestDiscipline_23 (by decide) (fun h => ?_) (fun h => ?_)
    · refine x_iload_n C dX5_bestDiscipline_53 rfl hl 2 rfl ?_
      exact RETh dX5_bestDiscipline_54 h hP hD hS
    · refine x_aload_n C dX5_bestDiscipline_26 rfl hl 0 rfl ?_
      refine x_iload_n C dX5_bestDiscipline_27 rfl hl 1 rfl ?_
      refine x_iload C dX5_bestDiscipline_28 hl 4 rfl ?_
      obtain ⟨u2, hu2, h⟩ := ob_some h
      refine x_callV (As := [.int _, .int _]) (n := 2) C (kX5_goodWorkWith l D cI cS aR _ _ _ hu2) (fun hh => nomatch hh) wm_X5_87 wi_X5_goodWorkWith we_X5_goodWorkWith wz_X5 wc_X5_goodWorkWith (by decide +kernel) rfl hP hD hS hA 0 2 rfl rfl rfl hl.1 dX5_bestDiscipline_30 rfl (Nat.le_of_ble_eq_true rfl) ⟨Nat.le_of_ble_eq_true rfl, Nat.le_of_ble_eq_true rfl⟩ ⟨Nat.zero_le _, Nat.zero_le _⟩ (fun H locs hP hD hS => ?_)
      refine x_istore (lv' := [(5, .int u2.1), (0, .ref (aR 0)), (1, .int p1), (2, .int x2), (3, .int x3), (4, .int x4)]) C dX5_bestDiscipline_33 hl (by decide) rfl (fun ls hl => ?_)
      refine x_iload C dX5_bestDiscipline_35 hl 0 rfl ?_
      refine x_iload_n C dX5_bestDiscipline_37 rfl hl 4 rfl ?_
      refine x_icmp_le (tgt := 47) C h dX5_bestDiscipline_38 (by decide) (fun h => ?_) (fun h => ?_)
      · exact B47 K20 ih20 _ _ _ _ h _ _ _ hP hD hS (lv_sub hl [1, 2, 3, 4, 5] rfl)
      · refine x_iload C dX5_bestDiscipline_41 hl 0 rfl ?_
        refine x_istore_n (lv' := [(3, .int u2.1), (5, .int u2.1), (0, .ref (aR 0)), (1, .int p1), (2, .int x2), (4, .int x4)]) C dX5_bestDiscipline_43 rfl hl (by decide) rfl (fun ls hl => ?_)
        refine x_iload C dX5_bestDiscipline_44 hl 5 rfl ?_
        refine x_istore_n (lv' := [(2, .int x4), (3, .int u2.1), (5, .int u2.1), (0, .ref (aR 0)), (1, .int p1), (4, .int x4)]) C dX5_bestDiscipline_46 rfl hl (by decide) rfl (fun ls hl => ?_)
        exact B47 K20 ih20 _ _ _ _ h _ _ _ hP hD hS (lv_sub hl [3, 4, 0, 1, 5] rfl)
  have B11 : ∀ (S : RS), bfX5_bestDiscipline_11 p1 S = some q → ∀ (H : Heap) (locs : List Loc) (ls : Array Slot), va_P D vwCl (wR cI cS aR S) H → va_D A (wR cI cS aR S) → va_S A s.heap H locs → lv_has ls 6 [] → W p l e (rmL 9) s m args below meth c H locs 0 0 Q (F0 m 11 ls []) := by
    intro S h H locs ls hP hD hS hl
    refine x_iconst (v := (-1 : Int32)) C dX5_bestDiscipline_11 (by decide) ?_
    exact RETh dX5_bestDiscipline_12 h hP hD hS
  refine x_iload_n C dX5_bestDiscipline_0 rfl hl 1 rfl ?_
  refine x_iconst (v := (1 : Int32)) C dX5_bestDiscipline_1 (by decide) ?_
  refine x_icmp_lt (tgt := 11) C h dX5_bestDiscipline_2 (by decide) (fun h => ?_) (fun h => ?_)
  · exact B11 _ h _ _ _ hP hD hS (lv_sub hl [] rfl)
  · refine x_iload_n C dX5_bestDiscipline_5 rfl hl 1 rfl ?_
    refine x_bipush (v := (15 : Int32)) C dX5_bestDiscipline_6 (by decide) ?_
    refine x_icmp_le (tgt := 13) C h dX5_bestDiscipline_8 (by decide) (fun h => ?_) (fun h => ?_)
    · refine x_iconst (v := (0 : Int32)) C dX5_bestDiscipline_13 (by decide) ?_
      refine x_istore_n (lv' := [(2, .int (0 : Int32)), (0, .ref (aR 0)), (1, .int p1)]) C dX5_bestDiscipline_14 rfl hl (by decide) rfl (fun ls hl => ?_)
      refine x_iconst (v := (-1 : Int32)) C dX5_bestDiscipline_15 (by decide) ?_
      refine x_istore_n (lv' := [(3, .int (-1 : Int32)), (2, .int (0 : Int32)), (0, .ref (aR 0)), (1, .int p1)]) C dX5_bestDiscipline_16 rfl hl (by decide) rfl (fun ls hl => ?_)
      refine x_iconst (v := (0 : Int32)) C dX5_bestDiscipline_17 (by decide) ?_
      refine x_istore (lv' := [(4, .int (0 : Int32)), (3, .int (-1 : Int32)), (2, .int (0 : Int32)), (0, .ref (aR 0)), (1, .int p1)]) C dX5_bestDiscipline_18 hl (by decide) rfl (fun ls hl => ?_)
      exact B20 FU _ h _ _ _ hP hD hS (lv_sub hl [3, 4, 2, 1, 0] rfl)
    · exact B11 _ h _ _ _ hP hD hS (lv_sub hl [] rfl)
theorem dX5_isClient_0 : decode cX5_isClient 0 = .ok (.iload_n 0, 1) := by decide +kernel
theorem dX5_isClient_1 : decode cX5_isClient 1 = .ok (.ifCond .lt 13, 3) := by decide +kernel
theorem dX5_isClient_4 : decode cX5_isClient 4 = .ok (.iload_n 0, 1) := by decide +kernel
theorem dX5_isClient_5 : decode cX5_isClient 5 = .ok (.bipush 6, 2) := by decide +kernel
theorem dX5_isClient_7 : decode cX5_isClient 7 = .ok (.if_icmp .ge 7, 3) := by decide +kernel
theorem dX5_isClient_10 : decode cX5_isClient 10 = .ok (.iconst 1, 1) := by decide +kernel
theorem dX5_isClient_11 : decode cX5_isClient 11 = .ok (.goto 4, 3) := by decide +kernel
theorem dX5_isClient_14 : decode cX5_isClient 14 = .ok (.iconst 0, 1) := by decide +kernel
theorem dX5_isClient_15 : decode cX5_isClient 15 = .ok (.ireturn, 1) := by decide +kernel
def bfX5_isClient_15 (p1 : Int32) (s0 : Int32) : Option (Int32) :=
  (if s0 = 0 ∨ s0 = 1 then some s0 else none)
def bfX5_isClient_14 (p1 : Int32) : Option (Int32) :=
  bfX5_isClient_15 p1  ((0 : Int32))
def fX5_isClient (p1 : Int32) : Option (Int32) :=
  (if p1 < 0 then bfX5_isClient_14 p1 else (if (6 : Int32) ≤ p1 then bfX5_isClient_14 p1 else bfX5_isClient_15 p1  ((1 : Int32))))
set_option maxHeartbeats 4000000 in
set_option maxRecDepth 100000 in
theorem kX5_isClient (l : Launch) (D : va_G) (cI cS : ClassId) (ws : va_W) (p1 : Int32) {q : Int32} (h : fX5_isClient p1 = some q) : Mc l D (tyL cI cS) false yX5_isClient cX5_isClient 1 (some .boolean) 1 [.int p1] (ws) (some (.int q)) (ws) := by
  refine Mc_of RX5 (by decide +kernel) rfl wc_X5_isClient (Nat.le_of_ble_eq_true rfl) ?_
  intro p e s m args below meth c A Q ls C hA hz hP hD hS hl RET
  have RETh : ∀ {pc : Nat} {ls : Array Slot} {H : Heap} {locs : List Loc} {x : Int32} , (x = 0 ∨ x = 1) → decode cX5_isClient pc = .ok (.ireturn, 1) → some x = some q → va_P D vwCl (ws) H → va_D A (ws) → va_S A s.heap H locs → W p l e (rmL 1) s m args below meth c H locs 0 0 Q (F0 m pc ls [.int x]) := by
    intro pc ls H locs x hx hd h hP hD hS; cases h; exact RET (x_zret C hx hd) hP hD hS
  have B15 : ∀ (s0 : Int32), bfX5_isClient_15 p1 s0 = some q → ∀ (H : Heap) (locs : List Loc) (ls : Array Slot), va_P D vwCl (ws) H → va_D A (ws) → va_S A s.heap H locs → lv_has ls 1 [] → W p l e (rmL 1) s m args below meth c H locs 0 0 Q (F0 m 15 ls [.int s0]) := by
    intro s0 h H locs ls hP hD hS hl
    rcases x_ifn h with ⟨hc, h⟩
    exact RETh hc dX5_isClient_15 h hP hD hS
  have B14 : bfX5_isClient_14 p1 = some q → ∀ (H : Heap) (locs : List Loc) (ls : Array Slot), va_P D vwCl (ws) H → va_D A (ws) → va_S A s.heap H locs → lv_has ls 1 [] → W p l e (rmL 1) s m args below meth c H locs 0 0 Q (F0 m 14 ls []) := by
    intro  h H locs ls hP hD hS hl
    refine x_iconst (v := (0 : Int32)) C dX5_isClient_14 (by decide) ?_
    exact B15 _ h _ _ _ hP hD hS hl
  refine x_iload_n C dX5_isClient_0 rfl hl 0 rfl ?_
  refine x_if_lt (tgt := 14) C h dX5_isClient_1 (by decide) (fun h => ?_) (fun h => ?_)
  · exact B14  h _ _ _ hP hD hS (lv_sub hl [] rfl)
  · refine x_iload_n C dX5_isClient_4 rfl hl 0 rfl ?_
    refine x_bipush (v := (6 : Int32)) C dX5_isClient_5 (by decide) ?_
    refine x_icmp_ge (tgt := 14) C h dX5_isClient_7 (by decide) (fun h => ?_) (fun h => ?_)
    · exact B14  h _ _ _ hP hD hS (lv_sub hl [] rfl)
    · refine x_iconst (v := (1 : Int32)) C dX5_isClient_10 (by decide) ?_
      refine x_goto (tgt := 15) C dX5_isClient_11 (by decide) ?_
      exact B15 _ h _ _ _ hP hD hS (lv_sub hl [] rfl)
theorem dX5_count_0 : decode cX5_count 0 = .ok (.iload_n 1, 1) := by decide +kernel
theorem dX5_count_1 : decode cX5_count 1 = .ok (.invokestatic 23, 3) := by decide +kernel
theorem dX5_count_4 : decode cX5_count 4 = .ok (.ifCond .eq 28, 3) := by decide +kernel
theorem dX5_count_7 : decode cX5_count 7 = .ok (.iload_n 2, 1) := by decide +kernel
theorem dX5_count_8 : decode cX5_count 8 = .ok (.ifCond .lt 24, 3) := by decide +kernel
theorem dX5_count_11 : decode cX5_count 11 = .ok (.iload_n 2, 1) := by decide +kernel
theorem dX5_count_12 : decode cX5_count 12 = .ok (.bipush 7, 2) := by decide +kernel
theorem dX5_count_14 : decode cX5_count 14 = .ok (.if_icmp .gt 18, 3) := by decide +kernel
theorem dX5_count_17 : decode cX5_count 17 = .ok (.aload_n 0, 1) := by decide +kernel
theorem dX5_count_18 : decode cX5_count 18 = .ok (.getfield 10, 3) := by decide +kernel
theorem dX5_count_21 : decode cX5_count 21 = .ok (.getfield 51, 3) := by decide +kernel
theorem dX5_count_24 : decode cX5_count 24 = .ok (.iload_n 1, 1) := by decide +kernel
theorem dX5_count_25 : decode cX5_count 25 = .ok (.iload_n 2, 1) := by decide +kernel
theorem dX5_count_26 : decode cX5_count 26 = .ok (.invokevirtual 41, 3) := by decide +kernel
theorem dX5_count_29 : decode cX5_count 29 = .ok (.goto 4, 3) := by decide +kernel
theorem dX5_count_32 : decode cX5_count 32 = .ok (.iconst (-1), 1) := by decide +kernel
theorem dX5_count_33 : decode cX5_count 33 = .ok (.ireturn, 1) := by decide +kernel
def bfX5_count_33 (p1 : Int32) (p2 : Int32) (S : RS) (s0 : Int32) : Option (Int32) :=
  some s0
def bfX5_count_32 (p1 : Int32) (p2 : Int32) (S : RS) : Option (Int32) :=
  bfX5_count_33 p1 p2 S  ((-1 : Int32))
def fX5_count (p1 : Int32) (p2 : Int32) (S : RS) : Option (Int32) :=
  ob (fX5_isClient p1) fun u2 => (if u2 = 0 then bfX5_count_32 p1 p2 S else (if p2 < 0 then bfX5_count_32 p1 p2 S else (if (7 : Int32) < p2 then bfX5_count_32 p1 p2 S else bfX5_count_33 p1 p2 S  ((sget 1 (S.2.1 0) p1 p2)))))
set_option maxHeartbeats 4000000 in
set_option maxRecDepth 100000 in
theorem kX5_count (l : Launch) (D : va_G) (cI cS : ClassId) (aR : Nat → Nat) (p1 : Int32) (p2 : Int32) (S : RS) {q : Int32} (h : fX5_count p1 p2 S = some q) : Mc l D (tyL cI cS) false yX5_count cX5_count 3 (some .int) 2 [.ref (aR 0), .int p1, .int p2] (wR cI cS aR S) (some (.int q)) (wR cI cS aR S) := by
  refine Mc_of RX5 (by decide +kernel) rfl wc_X5_count (Nat.le_of_ble_eq_true rfl) ?_
  intro p e s m args below meth c A Q ls C hA hz hP hD hS hl RET
  have RETh : ∀ {pc : Nat} {ls : Array Slot} {H : Heap} {locs : List Loc} {x : Int32} , decode cX5_count pc = .ok (.ireturn, 1) → some x = some q → va_P D vwCl (wR cI cS aR S) H → va_D A (wR cI cS aR S) → va_S A s.heap H locs → W p l e (rmL 2) s m args below meth c H locs 0 0 Q (F0 m pc ls [.int x]) := by
    intro pc ls H locs x hd h hP hD hS; cases h; exact RET (x_iret C hd) hP hD hS
  have B33 : ∀ (s0 : Int32), bfX5_count_33 p1 p2 S s0 = some q → ∀ (H : Heap) (locs : List Loc) (ls : Array Slot), va_P D vwCl (wR cI cS aR S) H → va_D A (wR cI cS aR S) → va_S A s.heap H locs → lv_has ls 3 [] → W p l e (rmL 2) s m args below meth c H locs 0 0 Q (F0 m 33 ls [.int s0]) := by
    intro s0 h H locs ls hP hD hS hl
    exact RETh dX5_count_33 h hP hD hS
  have B32 : bfX5_count_32 p1 p2 S = some q → ∀ (H : Heap) (locs : List Loc) (ls : Array Slot), va_P D vwCl (wR cI cS aR S) H → va_D A (wR cI cS aR S) → va_S A s.heap H locs → lv_has ls 3 [] → W p l e (rmL 2) s m args below meth c H locs 0 0 Q (F0 m 32 ls []) := by
    intro  h H locs ls hP hD hS hl
    refine x_iconst (v := (-1 : Int32)) C dX5_count_32 (by decide) ?_
    exact B33 _ h _ _ _ hP hD hS hl
  refine x_iload_n C dX5_count_0 rfl hl 1 rfl ?_
  obtain ⟨u2, hu2, h⟩ := ob_some h
  refine x_callS (As := [.int _]) (n := 1) C (kX5_isClient l D cI cS _ _ hu2) (fun hh => nomatch hh) wm_X5_23 wt_X5_isClient wz_X5 wc_X5_isClient (by decide +kernel) rfl hP hD hS hA hl.1 dX5_count_1 rfl (Nat.le_of_ble_eq_true rfl) ⟨Nat.le_of_ble_eq_true rfl, Nat.le_of_ble_eq_true rfl⟩ ⟨Nat.zero_le _, Nat.zero_le _⟩ (fun H locs hP hD hS => ?_)
  refine x_if_eq (tgt := 32) C h dX5_count_4 (by decide) (fun h => ?_) (fun h => ?_)
  · exact B32  h _ _ _ hP hD hS (lv_sub hl [] rfl)
  · refine x_iload_n C dX5_count_7 rfl hl 2 rfl ?_
    refine x_if_lt (tgt := 32) C h dX5_count_8 (by decide) (fun h => ?_) (fun h => ?_)
    · exact B32  h _ _ _ hP hD hS (lv_sub hl [] rfl)
    · refine x_iload_n C dX5_count_11 rfl hl 2 rfl ?_
      refine x_bipush (v := (7 : Int32)) C dX5_count_12 (by decide) ?_
      refine x_icmp_gt (tgt := 32) C h dX5_count_14 (by decide) (fun h => ?_) (fun h => ?_)
      · exact B32  h _ _ _ hP hD hS (lv_sub hl [] rfl)
      · refine x_aload_n C dX5_count_17 rfl hl 0 rfl ?_
        refine x_get C inX5 hP 0 rfl rfl 0 (by decide) wf_X5_10 rfl dX5_count_18 ?_
        refine x_get C inX2 hP 2 rfl rfl 1 (by decide) wf_X5_51 rfl dX5_count_21 ?_
        refine x_iload_n C dX5_count_24 rfl hl 1 rfl ?_
        refine x_iload_n C dX5_count_25 rfl hl 2 rfl ?_
        refine x_callV (As := [.int _, .int _]) (n := 2) C (Mc.toR0 (X := S) (i := 0) (kS_get l D cI cS (S.1 0) _ 1 (by decide) _ _) cS aR (by decide)) (fun hh => nomatch hh) wm_X5_41 wi_X3_get we_X3_get wz_X3 wc_X3_get (by decide +kernel) rfl hP hD hS hA 5 1 rfl rfl rfl hl.1 dX5_count_26 rfl (Nat.le_of_ble_eq_true rfl) ⟨Nat.le_of_ble_eq_true rfl, Nat.le_of_ble_eq_true rfl⟩ ⟨Nat.zero_le _, Nat.zero_le _⟩ (fun H locs hP hD hS => ?_)
        refine x_goto (tgt := 33) C dX5_count_29 (by decide) ?_
        exact B33 _ h _ _ _ hP hD hS (lv_sub hl [] rfl)
theorem dX5_property_0 : decode cX5_property 0 = .ok (.iload_n 1, 1) := by decide +kernel
theorem dX5_property_1 : decode cX5_property 1 = .ok (.invokestatic 23, 3) := by decide +kernel
theorem dX5_property_4 : decode cX5_property 4 = .ok (.ifCond .eq 28, 3) := by decide +kernel
theorem dX5_property_7 : decode cX5_property 7 = .ok (.iload_n 2, 1) := by decide +kernel
theorem dX5_property_8 : decode cX5_property 8 = .ok (.ifCond .lt 24, 3) := by decide +kernel
theorem dX5_property_11 : decode cX5_property 11 = .ok (.iload_n 2, 1) := by decide +kernel
theorem dX5_property_12 : decode cX5_property 12 = .ok (.bipush 12, 2) := by decide +kernel
theorem dX5_property_14 : decode cX5_property 14 = .ok (.if_icmp .ge 18, 3) := by decide +kernel
theorem dX5_property_17 : decode cX5_property 17 = .ok (.aload_n 0, 1) := by decide +kernel
theorem dX5_property_18 : decode cX5_property 18 = .ok (.getfield 10, 3) := by decide +kernel
theorem dX5_property_21 : decode cX5_property 21 = .ok (.getfield 37, 3) := by decide +kernel
theorem dX5_property_24 : decode cX5_property 24 = .ok (.iload_n 1, 1) := by decide +kernel
theorem dX5_property_25 : decode cX5_property 25 = .ok (.iload_n 2, 1) := by decide +kernel
theorem dX5_property_26 : decode cX5_property 26 = .ok (.invokevirtual 41, 3) := by decide +kernel
theorem dX5_property_29 : decode cX5_property 29 = .ok (.goto 4, 3) := by decide +kernel
theorem dX5_property_32 : decode cX5_property 32 = .ok (.iconst (-1), 1) := by decide +kernel
theorem dX5_property_33 : decode cX5_property 33 = .ok (.ireturn, 1) := by decide +kernel
def bfX5_property_33 (p1 : Int32) (p2 : Int32) (S : RS) (s0 : Int32) : Option (Int32) :=
  some s0
def bfX5_property_32 (p1 : Int32) (p2 : Int32) (S : RS) : Option (Int32) :=
  bfX5_property_33 p1 p2 S  ((-1 : Int32))
def fX5_property (p1 : Int32) (p2 : Int32) (S : RS) : Option (Int32) :=
  ob (fX5_isClient p1) fun u2 => (if u2 = 0 then bfX5_property_32 p1 p2 S else (if p2 < 0 then bfX5_property_32 p1 p2 S else (if (12 : Int32) ≤ p2 then bfX5_property_32 p1 p2 S else bfX5_property_33 p1 p2 S  ((sget 0 (S.2.1 0) p1 p2)))))
set_option maxHeartbeats 4000000 in
set_option maxRecDepth 100000 in
theorem kX5_property (l : Launch) (D : va_G) (cI cS : ClassId) (aR : Nat → Nat) (p1 : Int32) (p2 : Int32) (S : RS) {q : Int32} (h : fX5_property p1 p2 S = some q) : Mc l D (tyL cI cS) false yX5_property cX5_property 3 (some .int) 2 [.ref (aR 0), .int p1, .int p2] (wR cI cS aR S) (some (.int q)) (wR cI cS aR S) := by
  refine Mc_of RX5 (by decide +kernel) rfl wc_X5_property (Nat.le_of_ble_eq_true rfl) ?_
  intro p e s m args below meth c A Q ls C hA hz hP hD hS hl RET
  have RETh : ∀ {pc : Nat} {ls : Array Slot} {H : Heap} {locs : List Loc} {x : Int32} , decode cX5_property pc = .ok (.ireturn, 1) → some x = some q → va_P D vwCl (wR cI cS aR S) H → va_D A (wR cI cS aR S) → va_S A s.heap H locs → W p l e (rmL 2) s m args below meth c H locs 0 0 Q (F0 m pc ls [.int x]) := by
    intro pc ls H locs x hd h hP hD hS; cases h; exact RET (x_iret C hd) hP hD hS
  have B33 : ∀ (s0 : Int32), bfX5_property_33 p1 p2 S s0 = some q → ∀ (H : Heap) (locs : List Loc) (ls : Array Slot), va_P D vwCl (wR cI cS aR S) H → va_D A (wR cI cS aR S) → va_S A s.heap H locs → lv_has ls 3 [] → W p l e (rmL 2) s m args below meth c H locs 0 0 Q (F0 m 33 ls [.int s0]) := by
    intro s0 h H locs ls hP hD hS hl
    exact RETh dX5_property_33 h hP hD hS
  have B32 : bfX5_property_32 p1 p2 S = some q → ∀ (H : Heap) (locs : List Loc) (ls : Array Slot), va_P D vwCl (wR cI cS aR S) H → va_D A (wR cI cS aR S) → va_S A s.heap H locs → lv_has ls 3 [] → W p l e (rmL 2) s m args below meth c H locs 0 0 Q (F0 m 32 ls []) := by
    intro  h H locs ls hP hD hS hl
    refine x_iconst (v := (-1 : Int32)) C dX5_property_32 (by decide) ?_
    exact B33 _ h _ _ _ hP hD hS hl
  refine x_iload_n C dX5_property_0 rfl hl 1 rfl ?_
  obtain ⟨u2, hu2, h⟩ := ob_some h
  refine x_callS (As := [.int _]) (n := 1) C (kX5_isClient l D cI cS _ _ hu2) (fun hh => nomatch hh) wm_X5_23 wt_X5_isClient wz_X5 wc_X5_isClient (by decide +kernel) rfl hP hD hS hA hl.1 dX5_property_1 rfl (Nat.le_of_ble_eq_true rfl) ⟨Nat.le_of_ble_eq_true rfl, Nat.le_of_ble_eq_true rfl⟩ ⟨Nat.zero_le _, Nat.zero_le _⟩ (fun H locs hP hD hS => ?_)
  refine x_if_eq (tgt := 32) C h dX5_property_4 (by decide) (fun h => ?_) (fun h => ?_)
  · exact B32  h _ _ _ hP hD hS (lv_sub hl [] rfl)
  · refine x_iload_n C dX5_property_7 rfl hl 2 rfl ?_
    refine x_if_lt (tgt := 32) C h dX5_property_8 (by decide) (fun h => ?_) (fun h => ?_)
    · exact B32  h _ _ _ hP hD hS (lv_sub hl [] rfl)
    · refine x_iload_n C dX5_property_11 rfl hl 2 rfl ?_
      refine x_bipush (v := (12 : Int32)) C dX5_property_12 (by decide) ?_
      refine x_icmp_ge (tgt := 32) C h dX5_property_14 (by decide) (fun h => ?_) (fun h => ?_)
      · exact B32  h _ _ _ hP hD hS (lv_sub hl [] rfl)
      · refine x_aload_n C dX5_property_17 rfl hl 0 rfl ?_
        refine x_get C inX5 hP 0 rfl rfl 0 (by decide) wf_X5_10 rfl dX5_property_18 ?_
        refine x_get C inX2 hP 2 rfl rfl 0 (by decide) wf_X5_37 rfl dX5_property_21 ?_
        refine x_iload_n C dX5_property_24 rfl hl 1 rfl ?_
        refine x_iload_n C dX5_property_25 rfl hl 2 rfl ?_
        refine x_callV (As := [.int _, .int _]) (n := 2) C (Mc.toR0 (X := S) (i := 0) (kS_get l D cI cS (S.1 0) _ 0 (by decide) _ _) cS aR (by decide)) (fun hh => nomatch hh) wm_X5_41 wi_X3_get we_X3_get wz_X3 wc_X3_get (by decide +kernel) rfl hP hD hS hA 3 1 rfl rfl rfl hl.1 dX5_property_26 rfl (Nat.le_of_ble_eq_true rfl) ⟨Nat.le_of_ble_eq_true rfl, Nat.le_of_ble_eq_true rfl⟩ ⟨Nat.zero_le _, Nat.zero_le _⟩ (fun H locs hP hD hS => ?_)
        refine x_goto (tgt := 33) C dX5_property_29 (by decide) ?_
        exact B33 _ h _ _ _ hP hD hS (lv_sub hl [] rfl)
theorem dX5_succeededAt_0 : decode cX5_succeededAt 0 = .ok (.iload_n 1, 1) := by decide +kernel
theorem dX5_succeededAt_1 : decode cX5_succeededAt 1 = .ok (.invokestatic 23, 3) := by decide +kernel
theorem dX5_succeededAt_4 : decode cX5_succeededAt 4 = .ok (.ifCond .eq 17, 3) := by decide +kernel
theorem dX5_succeededAt_7 : decode cX5_succeededAt 7 = .ok (.iload_n 2, 1) := by decide +kernel
theorem dX5_succeededAt_8 : decode cX5_succeededAt 8 = .ok (.iconst 1, 1) := by decide +kernel
theorem dX5_succeededAt_9 : decode cX5_succeededAt 9 = .ok (.if_icmp .lt 12, 3) := by decide +kernel
theorem dX5_succeededAt_12 : decode cX5_succeededAt 12 = .ok (.iload_n 2, 1) := by decide +kernel
theorem dX5_succeededAt_13 : decode cX5_succeededAt 13 = .ok (.getstatic 31, 3) := by decide +kernel
theorem dX5_succeededAt_16 : decode cX5_succeededAt 16 = .ok (.iconst 3, 1) := by decide +kernel
theorem dX5_succeededAt_17 : decode cX5_succeededAt 17 = .ok (.iaload, 1) := by decide +kernel
theorem dX5_succeededAt_18 : decode cX5_succeededAt 18 = .ok (.if_icmp .le 5, 3) := by decide +kernel
theorem dX5_succeededAt_21 : decode cX5_succeededAt 21 = .ok (.iconst (-1), 1) := by decide +kernel
theorem dX5_succeededAt_22 : decode cX5_succeededAt 22 = .ok (.ireturn, 1) := by decide +kernel
theorem dX5_succeededAt_23 : decode cX5_succeededAt 23 = .ok (.aload_n 0, 1) := by decide +kernel
theorem dX5_succeededAt_24 : decode cX5_succeededAt 24 = .ok (.getfield 10, 3) := by decide +kernel
theorem dX5_succeededAt_27 : decode cX5_succeededAt 27 = .ok (.getfield 51, 3) := by decide +kernel
theorem dX5_succeededAt_30 : decode cX5_succeededAt 30 = .ok (.iload_n 1, 1) := by decide +kernel
theorem dX5_succeededAt_31 : decode cX5_succeededAt 31 = .ok (.bipush 7, 2) := by decide +kernel
theorem dX5_succeededAt_33 : decode cX5_succeededAt 33 = .ok (.iload_n 2, 1) := by decide +kernel
theorem dX5_succeededAt_34 : decode cX5_succeededAt 34 = .ok (.iadd, 1) := by decide +kernel
theorem dX5_succeededAt_35 : decode cX5_succeededAt 35 = .ok (.invokevirtual 41, 3) := by decide +kernel
theorem dX5_succeededAt_38 : decode cX5_succeededAt 38 = .ok (.ireturn, 1) := by decide +kernel
def bfX5_succeededAt_21 (p1 : Int32) (p2 : Int32) (S : RS) : Option (Int32) :=
  some (-1 : Int32)
def fX5_succeededAt (p1 : Int32) (p2 : Int32) (S : RS) : Option (Int32) :=
  ob (fX5_isClient p1) fun u2 => (if u2 = 0 then bfX5_succeededAt_21 p1 p2 S else (if p2 < (1 : Int32) then bfX5_succeededAt_21 p1 p2 S else (if p2 ≤ (tabI mostL ((3 : Int32)).toNatClampNeg) then some (sget 1 (S.2.1 0) p1 (((7 : Int32) + p2))) else bfX5_succeededAt_21 p1 p2 S)))
set_option maxHeartbeats 4000000 in
set_option maxRecDepth 100000 in
theorem kX5_succeededAt (l : Launch) (D : va_G) (cI cS : ClassId) (aR : Nat → Nat) (p1 : Int32) (p2 : Int32) (S : RS) {q : Int32} (h : fX5_succeededAt p1 p2 S = some q) : Mc l D (tyL cI cS) true yX5_succeededAt cX5_succeededAt 3 (some .int) 2 [.ref (aR 0), .int p1, .int p2] (wR cI cS aR S) (some (.int q)) (wR cI cS aR S) := by
  refine Mc_of RX5 (by decide +kernel) rfl wc_X5_succeededAt (Nat.le_of_ble_eq_true rfl) ?_
  intro p e s m args below meth c A Q ls C hA hz hP hD hS hl RET
  obtain ⟨⟨aL, hL1, hL2⟩, ⟨aM, hM1, hM2⟩, -⟩ := hz rfl
  have RETh : ∀ {pc : Nat} {ls : Array Slot} {H : Heap} {locs : List Loc} {x : Int32} , decode cX5_succeededAt pc = .ok (.ireturn, 1) → some x = some q → va_P D vwCl (wR cI cS aR S) H → va_D A (wR cI cS aR S) → va_S A s.heap H locs → W p l e (rmL 2) s m args below meth c H locs 0 0 Q (F0 m pc ls [.int x]) := by
    intro pc ls H locs x hd h hP hD hS; cases h; exact RET (x_iret C hd) hP hD hS
  have B21 : bfX5_succeededAt_21 p1 p2 S = some q → ∀ (H : Heap) (locs : List Loc) (ls : Array Slot), va_P D vwCl (wR cI cS aR S) H → va_D A (wR cI cS aR S) → va_S A s.heap H locs → lv_has ls 3 [] → W p l e (rmL 2) s m args below meth c H locs 0 0 Q (F0 m 21 ls []) := by
    intro  h H locs ls hP hD hS hl
    refine x_iconst (v := (-1 : Int32)) C dX5_succeededAt_21 (by decide) ?_
    exact RETh dX5_succeededAt_22 h hP hD hS
  refine x_iload_n C dX5_succeededAt_0 rfl hl 1 rfl ?_
  obtain ⟨u2, hu2, h⟩ := ob_some h
  refine x_callS (As := [.int _]) (n := 1) C (kX5_isClient l D cI cS _ _ hu2) (fun hh => nomatch hh) wm_X5_23 wt_X5_isClient wz_X5 wc_X5_isClient (by decide +kernel) rfl hP hD hS hA hl.1 dX5_succeededAt_1 rfl (Nat.le_of_ble_eq_true rfl) ⟨Nat.le_of_ble_eq_true rfl, Nat.le_of_ble_eq_true rfl⟩ ⟨Nat.zero_le _, Nat.zero_le _⟩ (fun H locs hP hD hS => ?_)
  refine x_if_eq (tgt := 21) C h dX5_succeededAt_4 (by decide) (fun h => ?_) (fun h => ?_)
  · exact B21  h _ _ _ hP hD hS (lv_sub hl [] rfl)
  · refine x_iload_n C dX5_succeededAt_7 rfl hl 2 rfl ?_
    refine x_iconst (v := (1 : Int32)) C dX5_succeededAt_8 (by decide) ?_
    refine x_icmp_lt (tgt := 21) C h dX5_succeededAt_9 (by decide) (fun h => ?_) (fun h => ?_)
    · exact B21  h _ _ _ hP hD hS (lv_sub hl [] rfl)
    · refine x_iload_n C dX5_succeededAt_12 rfl hl 2 rfl ?_
      refine x_gets C hM1 hS wf_X5_31 dX5_succeededAt_13 ?_
      refine x_iconst (v := (3 : Int32)) C dX5_succeededAt_16 (by decide) ?_
      refine x_taldK C hM2 hS (by decide) dX5_succeededAt_17 ?_
      refine x_icmp_le (tgt := 23) C h dX5_succeededAt_18 (by decide) (fun h => ?_) (fun h => ?_)
      · refine x_aload_n C dX5_succeededAt_23 rfl hl 0 rfl ?_
        refine x_get C inX5 hP 0 rfl rfl 0 (by decide) wf_X5_10 rfl dX5_succeededAt_24 ?_
        refine x_get C inX2 hP 2 rfl rfl 1 (by decide) wf_X5_51 rfl dX5_succeededAt_27 ?_
        refine x_iload_n C dX5_succeededAt_30 rfl hl 1 rfl ?_
        refine x_bipush (v := (7 : Int32)) C dX5_succeededAt_31 (by decide) ?_
        refine x_iload_n C dX5_succeededAt_33 rfl hl 2 rfl ?_
        refine x_iadd C dX5_succeededAt_34 ?_
        refine x_callV (As := [.int _, .int _]) (n := 2) C (Mc.toR0 (X := S) (i := 0) (kS_get l D cI cS (S.1 0) _ 1 (by decide) _ _) cS aR (by decide)) (fun hh => nomatch hh) wm_X5_41 wi_X3_get we_X3_get wz_X3 wc_X3_get (by decide +kernel) rfl hP hD hS hA 5 1 rfl rfl rfl hl.1 dX5_succeededAt_35 rfl (Nat.le_of_ble_eq_true rfl) ⟨Nat.le_of_ble_eq_true rfl, Nat.le_of_ble_eq_true rfl⟩ ⟨Nat.zero_le _, Nat.zero_le _⟩ (fun H locs hP hD hS => ?_)
        exact RETh dX5_succeededAt_38 h hP hD hS
      · exact B21  h _ _ _ hP hD hS (lv_sub hl [] rfl)
theorem dX5_hashOfClients_0 : decode cX5_hashOfClients 0 = .ok (.lload_n 1, 1) := by decide +kernel
theorem dX5_hashOfClients_1 : decode cX5_hashOfClients 1 = .ok (.lstore_n 3, 1) := by decide +kernel
theorem dX5_hashOfClients_2 : decode cX5_hashOfClients 2 = .ok (.iconst 0, 1) := by decide +kernel
theorem dX5_hashOfClients_3 : decode cX5_hashOfClients 3 = .ok (.istore 5, 2) := by decide +kernel
theorem dX5_hashOfClients_5 : decode cX5_hashOfClients 5 = .ok (.iload 5, 2) := by decide +kernel
theorem dX5_hashOfClients_7 : decode cX5_hashOfClients 7 = .ok (.bipush 6, 2) := by decide +kernel
theorem dX5_hashOfClients_9 : decode cX5_hashOfClients 9 = .ok (.if_icmp .ge 108, 3) := by decide +kernel
theorem dX5_hashOfClients_12 : decode cX5_hashOfClients 12 = .ok (.iconst 0, 1) := by decide +kernel
theorem dX5_hashOfClients_13 : decode cX5_hashOfClients 13 = .ok (.istore 6, 2) := by decide +kernel
theorem dX5_hashOfClients_15 : decode cX5_hashOfClients 15 = .ok (.iload 6, 2) := by decide +kernel
theorem dX5_hashOfClients_17 : decode cX5_hashOfClients 17 = .ok (.bipush 12, 2) := by decide +kernel
theorem dX5_hashOfClients_19 : decode cX5_hashOfClients 19 = .ok (.if_icmp .ge 25, 3) := by decide +kernel
theorem dX5_hashOfClients_22 : decode cX5_hashOfClients 22 = .ok (.ldc2_w 151, 3) := by decide +kernel
theorem dX5_hashOfClients_25 : decode cX5_hashOfClients 25 = .ok (.lload_n 3, 1) := by decide +kernel
theorem dX5_hashOfClients_26 : decode cX5_hashOfClients 26 = .ok (.lmul, 1) := by decide +kernel
theorem dX5_hashOfClients_27 : decode cX5_hashOfClients 27 = .ok (.aload_n 0, 1) := by decide +kernel
theorem dX5_hashOfClients_28 : decode cX5_hashOfClients 28 = .ok (.iload 5, 2) := by decide +kernel
theorem dX5_hashOfClients_30 : decode cX5_hashOfClients 30 = .ok (.iload 6, 2) := by decide +kernel
theorem dX5_hashOfClients_32 : decode cX5_hashOfClients 32 = .ok (.invokevirtual 173, 3) := by decide +kernel
theorem dX5_hashOfClients_35 : decode cX5_hashOfClients 35 = .ok (.i2l, 1) := by decide +kernel
theorem dX5_hashOfClients_36 : decode cX5_hashOfClients 36 = .ok (.ladd, 1) := by decide +kernel
theorem dX5_hashOfClients_37 : decode cX5_hashOfClients 37 = .ok (.lstore_n 3, 1) := by decide +kernel
theorem dX5_hashOfClients_38 : decode cX5_hashOfClients 38 = .ok (.iinc 6 1, 3) := by decide +kernel
theorem dX5_hashOfClients_41 : decode cX5_hashOfClients 41 = .ok (.goto (-26), 3) := by decide +kernel
theorem dX5_hashOfClients_44 : decode cX5_hashOfClients 44 = .ok (.iconst 0, 1) := by decide +kernel
theorem dX5_hashOfClients_45 : decode cX5_hashOfClients 45 = .ok (.istore 6, 2) := by decide +kernel
theorem dX5_hashOfClients_47 : decode cX5_hashOfClients 47 = .ok (.iload 6, 2) := by decide +kernel
theorem dX5_hashOfClients_49 : decode cX5_hashOfClients 49 = .ok (.bipush 7, 2) := by decide +kernel
theorem dX5_hashOfClients_51 : decode cX5_hashOfClients 51 = .ok (.if_icmp .gt 25, 3) := by decide +kernel
theorem dX5_hashOfClients_54 : decode cX5_hashOfClients 54 = .ok (.ldc2_w 151, 3) := by decide +kernel
theorem dX5_hashOfClients_57 : decode cX5_hashOfClients 57 = .ok (.lload_n 3, 1) := by decide +kernel
theorem dX5_hashOfClients_58 : decode cX5_hashOfClients 58 = .ok (.lmul, 1) := by decide +kernel
theorem dX5_hashOfClients_59 : decode cX5_hashOfClients 59 = .ok (.aload_n 0, 1) := by decide +kernel
theorem dX5_hashOfClients_60 : decode cX5_hashOfClients 60 = .ok (.iload 5, 2) := by decide +kernel
theorem dX5_hashOfClients_62 : decode cX5_hashOfClients 62 = .ok (.iload 6, 2) := by decide +kernel
theorem dX5_hashOfClients_64 : decode cX5_hashOfClients 64 = .ok (.invokevirtual 176, 3) := by decide +kernel
theorem dX5_hashOfClients_67 : decode cX5_hashOfClients 67 = .ok (.i2l, 1) := by decide +kernel
theorem dX5_hashOfClients_68 : decode cX5_hashOfClients 68 = .ok (.ladd, 1) := by decide +kernel
theorem dX5_hashOfClients_69 : decode cX5_hashOfClients 69 = .ok (.lstore_n 3, 1) := by decide +kernel
theorem dX5_hashOfClients_70 : decode cX5_hashOfClients 70 = .ok (.iinc 6 1, 3) := by decide +kernel
theorem dX5_hashOfClients_73 : decode cX5_hashOfClients 73 = .ok (.goto (-26), 3) := by decide +kernel
theorem dX5_hashOfClients_76 : decode cX5_hashOfClients 76 = .ok (.iconst 1, 1) := by decide +kernel
theorem dX5_hashOfClients_77 : decode cX5_hashOfClients 77 = .ok (.istore 6, 2) := by decide +kernel
theorem dX5_hashOfClients_79 : decode cX5_hashOfClients 79 = .ok (.iload 6, 2) := by decide +kernel
theorem dX5_hashOfClients_81 : decode cX5_hashOfClients 81 = .ok (.getstatic 31, 3) := by decide +kernel
theorem dX5_hashOfClients_84 : decode cX5_hashOfClients 84 = .ok (.iconst 3, 1) := by decide +kernel
theorem dX5_hashOfClients_85 : decode cX5_hashOfClients 85 = .ok (.iaload, 1) := by decide +kernel
theorem dX5_hashOfClients_86 : decode cX5_hashOfClients 86 = .ok (.if_icmp .gt 25, 3) := by decide +kernel
theorem dX5_hashOfClients_89 : decode cX5_hashOfClients 89 = .ok (.ldc2_w 151, 3) := by decide +kernel
theorem dX5_hashOfClients_92 : decode cX5_hashOfClients 92 = .ok (.lload_n 3, 1) := by decide +kernel
theorem dX5_hashOfClients_93 : decode cX5_hashOfClients 93 = .ok (.lmul, 1) := by decide +kernel
theorem dX5_hashOfClients_94 : decode cX5_hashOfClients 94 = .ok (.aload_n 0, 1) := by decide +kernel
theorem dX5_hashOfClients_95 : decode cX5_hashOfClients 95 = .ok (.iload 5, 2) := by decide +kernel
theorem dX5_hashOfClients_97 : decode cX5_hashOfClients 97 = .ok (.iload 6, 2) := by decide +kernel
theorem dX5_hashOfClients_99 : decode cX5_hashOfClients 99 = .ok (.invokevirtual 179, 3) := by decide +kernel
theorem dX5_hashOfClients_102 : decode cX5_hashOfClients 102 = .ok (.i2l, 1) := by decide +kernel
theorem dX5_hashOfClients_103 : decode cX5_hashOfClients 103 = .ok (.ladd, 1) := by decide +kernel
theorem dX5_hashOfClients_104 : decode cX5_hashOfClients 104 = .ok (.lstore_n 3, 1) := by decide +kernel
theorem dX5_hashOfClients_105 : decode cX5_hashOfClients 105 = .ok (.iinc 6 1, 3) := by decide +kernel
theorem dX5_hashOfClients_108 : decode cX5_hashOfClients 108 = .ok (.goto (-29), 3) := by decide +kernel
theorem dX5_hashOfClients_111 : decode cX5_hashOfClients 111 = .ok (.iinc 5 1, 3) := by decide +kernel
theorem dX5_hashOfClients_114 : decode cX5_hashOfClients 114 = .ok (.goto (-109), 3) := by decide +kernel
theorem dX5_hashOfClients_117 : decode cX5_hashOfClients 117 = .ok (.lload_n 3, 1) := by decide +kernel
theorem dX5_hashOfClients_118 : decode cX5_hashOfClients 118 = .ok (.lreturn, 1) := by decide +kernel
def bfX5_hashOfClients_79 (p1 : Int64) (S : RS) (K5 : Int64 × Int32 → Option (Int64)) (K79 : Int64 × Int32 × Int32 → Option (Int64)) (x : Int64 × Int32 × Int32) : Option (Int64) :=
  match x with
  | (x3, x5, x6) => (if (tabI mostL ((3 : Int32)).toNatClampNeg) < x6 then K5 (x3, (x5 + (1 : Int32))) else ob (fX5_succeededAt x5 x6 S) fun u7 => nm ((((31 : Int64) * x3) + (u7).toInt64)) fun v8 => K79 (v8, x5, (x6 + (1 : Int32))))
def bfX5_hashOfClients_47 (p1 : Int64) (S : RS) (K5 : Int64 × Int32 → Option (Int64)) (K47 : Int64 × Int32 × Int32 → Option (Int64)) (x : Int64 × Int32 × Int32) : Option (Int64) :=
  match x with
  | (x3, x5, x6) => (if (7 : Int32) < x6 then iter (bfX5_hashOfClients_79 p1 S K5) FU (x3, x5, (1 : Int32)) else ob (fX5_count x5 x6 S) fun u9 => nm ((((31 : Int64) * x3) + (u9).toInt64)) fun v10 => K47 (v10, x5, (x6 + (1 : Int32))))
def bfX5_hashOfClients_15 (p1 : Int64) (S : RS) (K5 : Int64 × Int32 → Option (Int64)) (K15 : Int64 × Int32 × Int32 → Option (Int64)) (x : Int64 × Int32 × Int32) : Option (Int64) :=
  match x with
  | (x3, x5, x6) => (if (12 : Int32) ≤ x6 then iter (bfX5_hashOfClients_47 p1 S K5) FU (x3, x5, (0 : Int32)) else ob (fX5_property x5 x6 S) fun u11 => nm ((((31 : Int64) * x3) + (u11).toInt64)) fun v12 => K15 (v12, x5, (x6 + (1 : Int32))))
def bfX5_hashOfClients_5 (p1 : Int64) (S : RS) (K5 : Int64 × Int32 → Option (Int64)) (x : Int64 × Int32) : Option (Int64) :=
  match x with
  | (x3, x5) => (if (6 : Int32) ≤ x5 then some x3 else iter (bfX5_hashOfClients_15 p1 S K5) FU (x3, x5, (0 : Int32)))
def fX5_hashOfClients (p1 : Int64) (S : RS) : Option (Int64) :=
  iter (bfX5_hashOfClients_5 p1 S) FU (p1, (0 : Int32))
set_option maxHeartbeats 4000000 in
set_option maxRecDepth 100000 in
theorem kX5_hashOfClients (l : Launch) (D : va_G) (cI cS : ClassId) (aR : Nat → Nat) (p1 : Int64) (S : RS) {q : Int64} (h : fX5_hashOfClients p1 S = some q) : Mc l D (tyL cI cS) true yX5_hashOfClients cX5_hashOfClients 7 (some .long) 3 [.ref (aR 0), .long p1] (wR cI cS aR S) (some (.long q)) (wR cI cS aR S) := by
  refine Mc_of RX5 (by decide +kernel) rfl wc_X5_hashOfClients (Nat.le_of_ble_eq_true rfl) ?_
  intro p e s m args below meth c A Q ls C hA hz hP hD hS hl RET
  obtain ⟨⟨aL, hL1, hL2⟩, ⟨aM, hM1, hM2⟩, -⟩ := hz rfl
  have RETh : ∀ {pc : Nat} {ls : Array Slot} {H : Heap} {locs : List Loc} {x : Int64} , decode cX5_hashOfClients pc = .ok (.lreturn, 1) → some x = some q → va_P D vwCl (wR cI cS aR S) H → va_D A (wR cI cS aR S) → va_S A s.heap H locs → W p l e (rmL 3) s m args below meth c H locs 0 0 Q (F0 m pc ls [.long x]) := by
    intro pc ls H locs x hd h hP hD hS; cases h; exact RET (x_lret C hd) hP hD hS
  have B79 : ∀ (K5 : Int64 × Int32 → Option (Int64)) (ih5 : ∀ x, K5 x = some q → (match x with | (x3, x5) => ∀ (H : Heap) (locs : List Loc) (ls : Array Slot), va_P D vwCl (wR cI cS aR S) H → va_D A (wR cI cS aR S) → va_S A s.heap H locs → lv_has ls 7 [(0, .ref (aR 0)), (3, .long x3), (5, .int x5)] → W p l e (rmL 3) s m args below meth c H locs 0 0 Q (F0 m 5 ls []))) (n : Nat) (x : Int64 × Int32 × Int32), iter (bfX5_hashOfClients_79 p1 S K5) n x = some q → (match x with | (x3, x5, x6) => ∀ (H : Heap) (locs : List Loc) (ls : Array Slot), va_P D vwCl (wR cI cS aR S) H → va_D A (wR cI cS aR S) → va_S A s.heap H locs → lv_has ls 7 [(0, .ref (aR 0)), (3, .long x3), (5, .int x5), (6, .int x6)] → W p l e (rmL 3) s m args below meth c H locs 0 0 Q (F0 m 79 ls [])) := by
    intro K5 ih5
    refine iter_ind (fun x : Int64 × Int32 × Int32 => (match x with | (x3, x5, x6) => ∀ (H : Heap) (locs : List Loc) (ls : Array Slot), va_P D vwCl (wR cI cS aR S) H → va_D A (wR cI cS aR S) → va_S A s.heap H locs → lv_has ls 7 [(0, .ref (aR 0)), (3, .long x3), (5, .int x5), (6, .int x6)] → W p l e (rmL 3) s m args below meth c H locs 0 0 Q (F0 m 79 ls []))) ?_
    intro K79 ih79 x h
    obtain ⟨x3, x5, x6⟩ := x
    intro H locs ls hP hD hS hl
    refine x_iload C dX5_hashOfClients_79 hl 3 rfl ?_
    refine x_gets C hM1 hS wf_X5_31 dX5_hashOfClients_81 ?_
    refine x_iconst (v := (3 : Int32)) C dX5_hashOfClients_84 (by decide) ?_
    refine x_taldK C hM2 hS (by decide) dX5_hashOfClients_85 ?_
    refine x_icmp_gt (tgt := 111) C h dX5_hashOfClients_86 (by decide) (fun h => ?_) (fun h => ?_)
    · refine x_iinc (v := (x5 + (1 : Int32))) (lv' := [(5, .int (x5 + (1 : Int32))), (0, .ref (aR 0)), (3, .long x3), (6, .int x6)]) C dX5_hashOfClients_111 hl (k := 2) rfl rfl (by decide) rfl (fun ls hl => ?_)
      refine x_goto (tgt := 5) C dX5_hashOfClients_114 (by decide) ?_
      exact ih5 _ h _ _ _ hP hD hS (lv_sub hl [1, 2, 0] rfl)
    · refine x_ldc2 C wq_X5_151 dX5_hashOfClients_89 ?_
      refine x_lload_n C dX5_hashOfClients_92 rfl hl 1 rfl ?_
      refine x_lmul C dX5_hashOfClients_93 ?_
      refine x_aload_n C dX5_hashOfClients_94 rfl hl 0 rfl ?_
      refine x_iload C dX5_hashOfClients_95 hl 2 rfl ?_
      refine x_iload C dX5_hashOfClients_97 hl 3 rfl ?_
      obtain ⟨u7, hu7, h⟩ := ob_some h
      refine x_callV (As := [.int _, .int _]) (n := 2) C (kX5_succeededAt l D cI cS aR _ _ _ hu7) hz wm_X5_179 wi_X5_succeededAt we_X5_succeededAt wz_X5 wc_X5_succeededAt (by decide +kernel) rfl hP hD hS hA 0 2 rfl rfl rfl hl.1 dX5_hashOfClients_99 rfl (Nat.le_of_ble_eq_true rfl) ⟨Nat.le_of_ble_eq_true rfl, Nat.le_of_ble_eq_true rfl⟩ ⟨Nat.zero_le _, Nat.zero_le _⟩ (fun H locs hP hD hS => ?_)
      refine x_i2l C dX5_hashOfClients_102 ?_
      refine x_ladd C dX5_hashOfClients_103 ?_
      refine x_nml h (fun v8 h => ?_)
      refine x_lstore_n (lv' := [(3, .long v8), (0, .ref (aR 0)), (5, .int x5), (6, .int x6)]) C dX5_hashOfClients_104 rfl hl (by decide) rfl (fun ls hl => ?_)
      refine x_iinc (v := (x6 + (1 : Int32))) (lv' := [(6, .int (x6 + (1 : Int32))), (3, .long v8), (0, .ref (aR 0)), (5, .int x5)]) C dX5_hashOfClients_105 hl (k := 3) rfl rfl (by decide) rfl (fun ls hl => ?_)
      refine x_goto (tgt := 79) C dX5_hashOfClients_108 (by decide) ?_
      exact ih79 _ h _ _ _ hP hD hS (lv_sub hl [2, 1, 3, 0] rfl)
  have B47 : ∀ (K5 : Int64 × Int32 → Option (Int64)) (ih5 : ∀ x, K5 x = some q → (match x with | (x3, x5) => ∀ (H : Heap) (locs : List Loc) (ls : Array Slot), va_P D vwCl (wR cI cS aR S) H → va_D A (wR cI cS aR S) → va_S A s.heap H locs → lv_has ls 7 [(0, .ref (aR 0)), (3, .long x3), (5, .int x5)] → W p l e (rmL 3) s m args below meth c H locs 0 0 Q (F0 m 5 ls []))) (n : Nat) (x : Int64 × Int32 × Int32), iter (bfX5_hashOfClients_47 p1 S K5) n x = some q → (match x with | (x3, x5, x6) => ∀ (H : Heap) (locs : List Loc) (ls : Array Slot), va_P D vwCl (wR cI cS aR S) H → va_D A (wR cI cS aR S) → va_S A s.heap H locs → lv_has ls 7 [(0, .ref (aR 0)), (3, .long x3), (5, .int x5), (6, .int x6)] → W p l e (rmL 3) s m args below meth c H locs 0 0 Q (F0 m 47 ls [])) := by
    intro K5 ih5
    refine iter_ind (fun x : Int64 × Int32 × Int32 => (match x with | (x3, x5, x6) => ∀ (H : Heap) (locs : List Loc) (ls : Array Slot), va_P D vwCl (wR cI cS aR S) H → va_D A (wR cI cS aR S) → va_S A s.heap H locs → lv_has ls 7 [(0, .ref (aR 0)), (3, .long x3), (5, .int x5), (6, .int x6)] → W p l e (rmL 3) s m args below meth c H locs 0 0 Q (F0 m 47 ls []))) ?_
    intro K47 ih47 x h
    obtain ⟨x3, x5, x6⟩ := x
    intro H locs ls hP hD hS hl
    refine x_iload C dX5_hashOfClients_47 hl 3 rfl ?_
    refine x_bipush (v := (7 : Int32)) C dX5_hashOfClients_49 (by decide) ?_
    refine x_icmp_gt (tgt := 76) C h dX5_hashOfClients_51 (by decide) (fun h => ?_) (fun h => ?_)
    · refine x_iconst (v := (1 : Int32)) C dX5_hashOfClients_76 (by decide) ?_
      refine x_istore (lv' := [(6, .int (1 : Int32)), (0, .ref (aR 0)), (3, .long x3), (5, .int x5)]) C dX5_hashOfClients_77 hl (by decide) rfl (fun ls hl => ?_)
      exact B79 K5 ih5 FU _ h _ _ _ hP hD hS (lv_sub hl [1, 2, 3, 0] rfl)
    · refine x_ldc2 C wq_X5_151 dX5_hashOfClients_54 ?_
      refine x_lload_n C dX5_hashOfClients_57 rfl hl 1 rfl ?_
      refine x_lmul C dX5_hashOfClients_58 ?_
      refine x_aload_n C dX5_hashOfClients_59 rfl hl 0 rfl ?_
      refine x_iload C dX5_hashOfClients_60 hl 2 rfl ?_
      refine x_iload C dX5_hashOfClients_62 hl 3 rfl ?_
      obtain ⟨u9, hu9, h⟩ := ob_some h
      refine x_callV (As := [.int _, .int _]) (n := 2) C (kX5_count l D cI cS aR _ _ _ hu9) (fun hh => nomatch hh) wm_X5_176 wi_X5_count we_X5_count wz_X5 wc_X5_count (by decide +kernel) rfl hP hD hS hA 0 2 rfl rfl rfl hl.1 dX5_hashOfClients_64 rfl (Nat.le_of_ble_eq_true rfl) ⟨Nat.le_of_ble_eq_true rfl, Nat.le_of_ble_eq_true rfl⟩ ⟨Nat.zero_le _, Nat.zero_le _⟩ (fun H locs hP hD hS => ?_)
      refine x_i2l C dX5_hashOfClients_67 ?_
      refine x_ladd C dX5_hashOfClients_68 ?_
      refine x_nml h (fun v10 h => ?_)
      refine x_lstore_n (lv' := [(3, .long v10), (0, .ref (aR 0)), (5, .int x5), (6, .int x6)]) C dX5_hashOfClients_69 rfl hl (by decide) rfl (fun ls hl => ?_)
      refine x_iinc (v := (x6 + (1 : Int32))) (lv' := [(6, .int (x6 + (1 : Int32))), (3, .long v10), (0, .ref (aR 0)), (5, .int x5)]) C dX5_hashOfClients_70 hl (k := 3) rfl rfl (by decide) rfl (fun ls hl => ?_)
      refine x_goto (tgt := 47) C dX5_hashOfClients_73 (by decide) ?_
      exact ih47 _ h _ _ _ hP hD hS (lv_sub hl [2, 1, 3, 0] rfl)
  have B15 : ∀ (K5 : Int64 × Int32 → Option (Int64)) (ih5 : ∀ x, K5 x = some q → (match x with | (x3, x5) => ∀ (H : Heap) (locs : List Loc) (ls : Array Slot), va_P D vwCl (wR cI cS aR S) H → va_D A (wR cI cS aR S) → va_S A s.heap H locs → lv_has ls 7 [(0, .ref (aR 0)), (3, .long x3), (5, .int x5)] → W p l e (rmL 3) s m args below meth c H locs 0 0 Q (F0 m 5 ls []))) (n : Nat) (x : Int64 × Int32 × Int32), iter (bfX5_hashOfClients_15 p1 S K5) n x = some q → (match x with | (x3, x5, x6) => ∀ (H : Heap) (locs : List Loc) (ls : Array Slot), va_P D vwCl (wR cI cS aR S) H → va_D A (wR cI cS aR S) → va_S A s.heap H locs → lv_has ls 7 [(0, .ref (aR 0)), (3, .long x3), (5, .int x5), (6, .int x6)] → W p l e (rmL 3) s m args below meth c H locs 0 0 Q (F0 m 15 ls [])) := by
    intro K5 ih5
    refine iter_ind (fun x : Int64 × Int32 × Int32 => (match x with | (x3, x5, x6) => ∀ (H : Heap) (locs : List Loc) (ls : Array Slot), va_P D vwCl (wR cI cS aR S) H → va_D A (wR cI cS aR S) → va_S A s.heap H locs → lv_has ls 7 [(0, .ref (aR 0)), (3, .long x3), (5, .int x5), (6, .int x6)] → W p l e (rmL 3) s m args below meth c H locs 0 0 Q (F0 m 15 ls []))) ?_
    intro K15 ih15 x h
    obtain ⟨x3, x5, x6⟩ := x
    intro H locs ls hP hD hS hl
    refine x_iload C dX5_hashOfClients_15 hl 3 rfl ?_
    refine x_bipush (v := (12 : Int32)) C dX5_hashOfClients_17 (by decide) ?_
    refine x_icmp_ge (tgt := 44) C h dX5_hashOfClients_19 (by decide) (fun h => ?_) (fun h => ?_)
    · refine x_iconst (v := (0 : Int32)) C dX5_hashOfClients_44 (by decide) ?_
      refine x_istore (lv' := [(6, .int (0 : Int32)), (0, .ref (aR 0)), (3, .long x3), (5, .int x5)]) C dX5_hashOfClients_45 hl (by decide) rfl (fun ls hl => ?_)
      exact B47 K5 ih5 FU _ h _ _ _ hP hD hS (lv_sub hl [1, 2, 3, 0] rfl)
    · refine x_ldc2 C wq_X5_151 dX5_hashOfClients_22 ?_
      refine x_lload_n C dX5_hashOfClients_25 rfl hl 1 rfl ?_
      refine x_lmul C dX5_hashOfClients_26 ?_
      refine x_aload_n C dX5_hashOfClients_27 rfl hl 0 rfl ?_
      refine x_iload C dX5_hashOfClients_28 hl 2 rfl ?_
      refine x_iload C dX5_hashOfClients_30 hl 3 rfl ?_
      obtain ⟨u11, hu11, h⟩ := ob_some h
      refine x_callV (As := [.int _, .int _]) (n := 2) C (kX5_property l D cI cS aR _ _ _ hu11) (fun hh => nomatch hh) wm_X5_173 wi_X5_property we_X5_property wz_X5 wc_X5_property (by decide +kernel) rfl hP hD hS hA 0 2 rfl rfl rfl hl.1 dX5_hashOfClients_32 rfl (Nat.le_of_ble_eq_true rfl) ⟨Nat.le_of_ble_eq_true rfl, Nat.le_of_ble_eq_true rfl⟩ ⟨Nat.zero_le _, Nat.zero_le _⟩ (fun H locs hP hD hS => ?_)
      refine x_i2l C dX5_hashOfClients_35 ?_
      refine x_ladd C dX5_hashOfClients_36 ?_
      refine x_nml h (fun v12 h => ?_)
      refine x_lstore_n (lv' := [(3, .long v12), (0, .ref (aR 0)), (5, .int x5), (6, .int x6)]) C dX5_hashOfClients_37 rfl hl (by decide) rfl (fun ls hl => ?_)
      refine x_iinc (v := (x6 + (1 : Int32))) (lv' := [(6, .int (x6 + (1 : Int32))), (3, .long v12), (0, .ref (aR 0)), (5, .int x5)]) C dX5_hashOfClients_38 hl (k := 3) rfl rfl (by decide) rfl (fun ls hl => ?_)
      refine x_goto (tgt := 15) C dX5_hashOfClients_41 (by decide) ?_
      exact ih15 _ h _ _ _ hP hD hS (lv_sub hl [2, 1, 3, 0] rfl)
  have B5 : ∀ (n : Nat) (x : Int64 × Int32), iter (bfX5_hashOfClients_5 p1 S) n x = some q → (match x with | (x3, x5) => ∀ (H : Heap) (locs : List Loc) (ls : Array Slot), va_P D vwCl (wR cI cS aR S) H → va_D A (wR cI cS aR S) → va_S A s.heap H locs → lv_has ls 7 [(0, .ref (aR 0)), (3, .long x3), (5, .int x5)] → W p l e (rmL 3) s m args below meth c H locs 0 0 Q (F0 m 5 ls [])) := by
    refine iter_ind (fun x : Int64 × Int32 => (match x with | (x3, x5) => ∀ (H : Heap) (locs : List Loc) (ls : Array Slot), va_P D vwCl (wR cI cS aR S) H → va_D A (wR cI cS aR S) → va_S A s.heap H locs → lv_has ls 7 [(0, .ref (aR 0)), (3, .long x3), (5, .int x5)] → W p l e (rmL 3) s m args below meth c H locs 0 0 Q (F0 m 5 ls []))) ?_
    intro K5 ih5 x h
    obtain ⟨x3, x5⟩ := x
    intro H locs ls hP hD hS hl
    refine x_iload C dX5_hashOfClients_5 hl 2 rfl ?_
    refine x_bipush (v := (6 : Int32)) C dX5_hashOfClients_7 (by decide) ?_
    refine x_icmp_ge (tgt := 117) C h dX5_hashOfClients_9 (by decide) (fun h => ?_) (fun h => ?_)
    · refine x_lload_n C dX5_hashOfClients_117 rfl hl 1 rfl ?_
      exact RETh dX5_hashOfClients_118 h hP hD hS
    · refine x_iconst (v := (0 : Int32)) C dX5_hashOfClients_12 (by decide) ?_
      refine x_istore (lv' := [(6, .int (0 : Int32)), (0, .ref (aR 0)), (3, .long x3), (5, .int x5)]) C dX5_hashOfClients_13 hl (by decide) rfl (fun ls hl => ?_)
      exact B15 K5 ih5 FU _ h _ _ _ hP hD hS (lv_sub hl [1, 2, 3, 0] rfl)
  refine x_lload_n C dX5_hashOfClients_0 rfl hl 1 rfl ?_
  refine x_lstore_n (lv' := [(3, .long p1), (0, .ref (aR 0)), (1, .long p1)]) C dX5_hashOfClients_1 rfl hl (by decide) rfl (fun ls hl => ?_)
  refine x_iconst (v := (0 : Int32)) C dX5_hashOfClients_2 (by decide) ?_
  refine x_istore (lv' := [(5, .int (0 : Int32)), (3, .long p1), (0, .ref (aR 0)), (1, .long p1)]) C dX5_hashOfClients_3 hl (by decide) rfl (fun ls hl => ?_)
  exact B5 FU _ h _ _ _ hP hD hS (lv_sub hl [2, 1, 0] rfl)
theorem dX5_queued_0 : decode cX5_queued 0 = .ok (.iload_n 2, 1) := by decide +kernel
theorem dX5_queued_1 : decode cX5_queued 1 = .ok (.ifCond .ge 5, 3) := by decide +kernel
theorem dX5_queued_4 : decode cX5_queued 4 = .ok (.iconst (-1), 1) := by decide +kernel
theorem dX5_queued_5 : decode cX5_queued 5 = .ok (.ireturn, 1) := by decide +kernel
theorem dX5_queued_6 : decode cX5_queued 6 = .ok (.iload_n 1, 1) := by decide +kernel
theorem dX5_queued_7 : decode cX5_queued 7 = .ok (.ifCond .eq 29, 3) := by decide +kernel
theorem dX5_queued_10 : decode cX5_queued 10 = .ok (.aload_n 0, 1) := by decide +kernel
theorem dX5_queued_11 : decode cX5_queued 11 = .ok (.getfield 10, 3) := by decide +kernel
theorem dX5_queued_14 : decode cX5_queued 14 = .ok (.getfield 106, 3) := by decide +kernel
theorem dX5_queued_17 : decode cX5_queued 17 = .ok (.aload_n 0, 1) := by decide +kernel
theorem dX5_queued_18 : decode cX5_queued 18 = .ok (.getfield 10, 3) := by decide +kernel
theorem dX5_queued_21 : decode cX5_queued 21 = .ok (.getfield 103, 3) := by decide +kernel
theorem dX5_queued_24 : decode cX5_queued 24 = .ok (.iload_n 2, 1) := by decide +kernel
theorem dX5_queued_25 : decode cX5_queued 25 = .ok (.iconst 0, 1) := by decide +kernel
theorem dX5_queued_26 : decode cX5_queued 26 = .ok (.invokevirtual 41, 3) := by decide +kernel
theorem dX5_queued_29 : decode cX5_queued 29 = .ok (.iconst 0, 1) := by decide +kernel
theorem dX5_queued_30 : decode cX5_queued 30 = .ok (.invokevirtual 41, 3) := by decide +kernel
theorem dX5_queued_33 : decode cX5_queued 33 = .ok (.goto 15, 3) := by decide +kernel
theorem dX5_queued_36 : decode cX5_queued 36 = .ok (.aload_n 0, 1) := by decide +kernel
theorem dX5_queued_37 : decode cX5_queued 37 = .ok (.getfield 10, 3) := by decide +kernel
theorem dX5_queued_40 : decode cX5_queued 40 = .ok (.getfield 100, 3) := by decide +kernel
theorem dX5_queued_43 : decode cX5_queued 43 = .ok (.iload_n 2, 1) := by decide +kernel
theorem dX5_queued_44 : decode cX5_queued 44 = .ok (.iconst 0, 1) := by decide +kernel
theorem dX5_queued_45 : decode cX5_queued 45 = .ok (.invokevirtual 41, 3) := by decide +kernel
theorem dX5_queued_48 : decode cX5_queued 48 = .ok (.ireturn, 1) := by decide +kernel
def bfX5_queued_48 (p1 : Int32) (p2 : Int32) (S : RS) (s0 : Int32) : Option (Int32) :=
  some s0
def fX5_queued (p1 : Int32) (p2 : Int32) (S : RS) : Option (Int32) :=
  (if 0 ≤ p2 then (if p1 = 0 then bfX5_queued_48 p1 p2 S  ((sget 6 (S.2.1 0) p2 (0 : Int32))) else bfX5_queued_48 p1 p2 S  ((sget 7 (S.2.1 0) ((sget 8 (S.2.1 0) p2 (0 : Int32))) (0 : Int32)))) else some (-1 : Int32))
set_option maxHeartbeats 4000000 in
set_option maxRecDepth 100000 in
theorem kX5_queued (l : Launch) (D : va_G) (cI cS : ClassId) (aR : Nat → Nat) (p1 : Int32) (p2 : Int32) (S : RS) {q : Int32} (h : fX5_queued p1 p2 S = some q) : Mc l D (tyL cI cS) false yX5_queued cX5_queued 3 (some .int) 2 [.ref (aR 0), .int p1, .int p2] (wR cI cS aR S) (some (.int q)) (wR cI cS aR S) := by
  refine Mc_of RX5 (by decide +kernel) rfl wc_X5_queued (Nat.le_of_ble_eq_true rfl) ?_
  intro p e s m args below meth c A Q ls C hA hz hP hD hS hl RET
  have RETh : ∀ {pc : Nat} {ls : Array Slot} {H : Heap} {locs : List Loc} {x : Int32} , decode cX5_queued pc = .ok (.ireturn, 1) → some x = some q → va_P D vwCl (wR cI cS aR S) H → va_D A (wR cI cS aR S) → va_S A s.heap H locs → W p l e (rmL 2) s m args below meth c H locs 0 0 Q (F0 m pc ls [.int x]) := by
    intro pc ls H locs x hd h hP hD hS; cases h; exact RET (x_iret C hd) hP hD hS
  have B48 : ∀ (s0 : Int32), bfX5_queued_48 p1 p2 S s0 = some q → ∀ (H : Heap) (locs : List Loc) (ls : Array Slot), va_P D vwCl (wR cI cS aR S) H → va_D A (wR cI cS aR S) → va_S A s.heap H locs → lv_has ls 3 [] → W p l e (rmL 2) s m args below meth c H locs 0 0 Q (F0 m 48 ls [.int s0]) := by
    intro s0 h H locs ls hP hD hS hl
    exact RETh dX5_queued_48 h hP hD hS
  refine x_iload_n C dX5_queued_0 rfl hl 2 rfl ?_
  refine x_if_ge (tgt := 6) C h dX5_queued_1 (by decide) (fun h => ?_) (fun h => ?_)
  · refine x_iload_n C dX5_queued_6 rfl hl 1 rfl ?_
    refine x_if_eq (tgt := 36) C h dX5_queued_7 (by decide) (fun h => ?_) (fun h => ?_)
    · refine x_aload_n C dX5_queued_36 rfl hl 0 rfl ?_
      refine x_get C inX5 hP 0 rfl rfl 0 (by decide) wf_X5_10 rfl dX5_queued_37 ?_
      refine x_get C inX2 hP 2 rfl rfl 6 (by decide) wf_X5_100 rfl dX5_queued_40 ?_
      refine x_iload_n C dX5_queued_43 rfl hl 2 rfl ?_
      refine x_iconst (v := (0 : Int32)) C dX5_queued_44 (by decide) ?_
      refine x_callV (As := [.int _, .int _]) (n := 2) C (Mc.toR0 (X := S) (i := 0) (kS_get l D cI cS (S.1 0) _ 6 (by decide) _ _) cS aR (by decide)) (fun hh => nomatch hh) wm_X5_41 wi_X3_get we_X3_get wz_X3 wc_X3_get (by decide +kernel) rfl hP hD hS hA 15 1 rfl rfl rfl hl.1 dX5_queued_45 rfl (Nat.le_of_ble_eq_true rfl) ⟨Nat.le_of_ble_eq_true rfl, Nat.le_of_ble_eq_true rfl⟩ ⟨Nat.zero_le _, Nat.zero_le _⟩ (fun H locs hP hD hS => ?_)
      exact B48 _ h _ _ _ hP hD hS (lv_sub hl [] rfl)
    · refine x_aload_n C dX5_queued_10 rfl hl 0 rfl ?_
      refine x_get C inX5 hP 0 rfl rfl 0 (by decide) wf_X5_10 rfl dX5_queued_11 ?_
      refine x_get C inX2 hP 2 rfl rfl 7 (by decide) wf_X5_106 rfl dX5_queued_14 ?_
      refine x_aload_n C dX5_queued_17 rfl hl 0 rfl ?_
      refine x_get C inX5 hP 0 rfl rfl 0 (by decide) wf_X5_10 rfl dX5_queued_18 ?_
      refine x_get C inX2 hP 2 rfl rfl 8 (by decide) wf_X5_103 rfl dX5_queued_21 ?_
      refine x_iload_n C dX5_queued_24 rfl hl 2 rfl ?_
      refine x_iconst (v := (0 : Int32)) C dX5_queued_25 (by decide) ?_
      refine x_callV (As := [.int _, .int _]) (n := 2) C (Mc.toR0 (X := S) (i := 0) (kS_get l D cI cS (S.1 0) _ 8 (by decide) _ _) cS aR (by decide)) (fun hh => nomatch hh) wm_X5_41 wi_X3_get we_X3_get wz_X3 wc_X3_get (by decide +kernel) rfl hP hD hS hA 19 1 rfl rfl rfl hl.1 dX5_queued_26 rfl (Nat.le_of_ble_eq_true rfl) ⟨Nat.le_of_ble_eq_true rfl, Nat.le_of_ble_eq_true rfl⟩ ⟨Nat.zero_le _, Nat.zero_le _⟩ (fun H locs hP hD hS => ?_)
      refine x_iconst (v := (0 : Int32)) C dX5_queued_29 (by decide) ?_
      refine x_callV (As := [.int _, .int _]) (n := 2) C (Mc.toR0 (X := S) (i := 0) (kS_get l D cI cS (S.1 0) _ 7 (by decide) _ _) cS aR (by decide)) (fun hh => nomatch hh) wm_X5_41 wi_X3_get we_X3_get wz_X3 wc_X3_get (by decide +kernel) rfl hP hD hS hA 17 1 rfl rfl rfl hl.1 dX5_queued_30 rfl (Nat.le_of_ble_eq_true rfl) ⟨Nat.le_of_ble_eq_true rfl, Nat.le_of_ble_eq_true rfl⟩ ⟨Nat.zero_le _, Nat.zero_le _⟩ (fun H locs hP hD hS => ?_)
      refine x_goto (tgt := 48) C dX5_queued_33 (by decide) ?_
      exact B48 _ h _ _ _ hP hD hS (lv_sub hl [] rfl)
  · refine x_iconst (v := (-1 : Int32)) C dX5_queued_4 (by decide) ?_
    exact RETh dX5_queued_5 h hP hD hS
theorem dX5_hashOfServer_0 : decode cX5_hashOfServer 0 = .ok (.lload_n 1, 1) := by decide +kernel
theorem dX5_hashOfServer_1 : decode cX5_hashOfServer 1 = .ok (.lstore 5, 2) := by decide +kernel
theorem dX5_hashOfServer_3 : decode cX5_hashOfServer 3 = .ok (.iconst 0, 1) := by decide +kernel
theorem dX5_hashOfServer_4 : decode cX5_hashOfServer 4 = .ok (.istore 7, 2) := by decide +kernel
theorem dX5_hashOfServer_6 : decode cX5_hashOfServer 6 = .ok (.iload 7, 2) := by decide +kernel
theorem dX5_hashOfServer_8 : decode cX5_hashOfServer 8 = .ok (.iload_n 3, 1) := by decide +kernel
theorem dX5_hashOfServer_9 : decode cX5_hashOfServer 9 = .ok (.if_icmp .ge 26, 3) := by decide +kernel
theorem dX5_hashOfServer_12 : decode cX5_hashOfServer 12 = .ok (.ldc2_w 151, 3) := by decide +kernel
theorem dX5_hashOfServer_15 : decode cX5_hashOfServer 15 = .ok (.lload 5, 2) := by decide +kernel
theorem dX5_hashOfServer_17 : decode cX5_hashOfServer 17 = .ok (.lmul, 1) := by decide +kernel
theorem dX5_hashOfServer_18 : decode cX5_hashOfServer 18 = .ok (.aload_n 0, 1) := by decide +kernel
theorem dX5_hashOfServer_19 : decode cX5_hashOfServer 19 = .ok (.iconst 0, 1) := by decide +kernel
theorem dX5_hashOfServer_20 : decode cX5_hashOfServer 20 = .ok (.iload 7, 2) := by decide +kernel
theorem dX5_hashOfServer_22 : decode cX5_hashOfServer 22 = .ok (.invokevirtual 182, 3) := by decide +kernel
theorem dX5_hashOfServer_25 : decode cX5_hashOfServer 25 = .ok (.i2l, 1) := by decide +kernel
theorem dX5_hashOfServer_26 : decode cX5_hashOfServer 26 = .ok (.ladd, 1) := by decide +kernel
theorem dX5_hashOfServer_27 : decode cX5_hashOfServer 27 = .ok (.lstore 5, 2) := by decide +kernel
theorem dX5_hashOfServer_29 : decode cX5_hashOfServer 29 = .ok (.iinc 7 1, 3) := by decide +kernel
theorem dX5_hashOfServer_32 : decode cX5_hashOfServer 32 = .ok (.goto (-26), 3) := by decide +kernel
theorem dX5_hashOfServer_35 : decode cX5_hashOfServer 35 = .ok (.iconst 0, 1) := by decide +kernel
theorem dX5_hashOfServer_36 : decode cX5_hashOfServer 36 = .ok (.istore 7, 2) := by decide +kernel
theorem dX5_hashOfServer_38 : decode cX5_hashOfServer 38 = .ok (.iload 7, 2) := by decide +kernel
theorem dX5_hashOfServer_40 : decode cX5_hashOfServer 40 = .ok (.iload 4, 2) := by decide +kernel
theorem dX5_hashOfServer_42 : decode cX5_hashOfServer 42 = .ok (.if_icmp .ge 26, 3) := by decide +kernel
theorem dX5_hashOfServer_45 : decode cX5_hashOfServer 45 = .ok (.ldc2_w 151, 3) := by decide +kernel
theorem dX5_hashOfServer_48 : decode cX5_hashOfServer 48 = .ok (.lload 5, 2) := by decide +kernel
theorem dX5_hashOfServer_50 : decode cX5_hashOfServer 50 = .ok (.lmul, 1) := by decide +kernel
theorem dX5_hashOfServer_51 : decode cX5_hashOfServer 51 = .ok (.aload_n 0, 1) := by decide +kernel
theorem dX5_hashOfServer_52 : decode cX5_hashOfServer 52 = .ok (.iconst 1, 1) := by decide +kernel
theorem dX5_hashOfServer_53 : decode cX5_hashOfServer 53 = .ok (.iload 7, 2) := by decide +kernel
theorem dX5_hashOfServer_55 : decode cX5_hashOfServer 55 = .ok (.invokevirtual 182, 3) := by decide +kernel
theorem dX5_hashOfServer_58 : decode cX5_hashOfServer 58 = .ok (.i2l, 1) := by decide +kernel
theorem dX5_hashOfServer_59 : decode cX5_hashOfServer 59 = .ok (.ladd, 1) := by decide +kernel
theorem dX5_hashOfServer_60 : decode cX5_hashOfServer 60 = .ok (.lstore 5, 2) := by decide +kernel
theorem dX5_hashOfServer_62 : decode cX5_hashOfServer 62 = .ok (.iinc 7 1, 3) := by decide +kernel
theorem dX5_hashOfServer_65 : decode cX5_hashOfServer 65 = .ok (.goto (-27), 3) := by decide +kernel
theorem dX5_hashOfServer_68 : decode cX5_hashOfServer 68 = .ok (.iconst 0, 1) := by decide +kernel
theorem dX5_hashOfServer_69 : decode cX5_hashOfServer 69 = .ok (.istore 7, 2) := by decide +kernel
theorem dX5_hashOfServer_71 : decode cX5_hashOfServer 71 = .ok (.iload 7, 2) := by decide +kernel
theorem dX5_hashOfServer_73 : decode cX5_hashOfServer 73 = .ok (.iconst 4, 1) := by decide +kernel
theorem dX5_hashOfServer_74 : decode cX5_hashOfServer 74 = .ok (.if_icmp .ge 26, 3) := by decide +kernel
theorem dX5_hashOfServer_77 : decode cX5_hashOfServer 77 = .ok (.ldc2_w 151, 3) := by decide +kernel
theorem dX5_hashOfServer_80 : decode cX5_hashOfServer 80 = .ok (.lload 5, 2) := by decide +kernel
theorem dX5_hashOfServer_82 : decode cX5_hashOfServer 82 = .ok (.lmul, 1) := by decide +kernel
theorem dX5_hashOfServer_83 : decode cX5_hashOfServer 83 = .ok (.aload_n 0, 1) := by decide +kernel
theorem dX5_hashOfServer_84 : decode cX5_hashOfServer 84 = .ok (.iconst 0, 1) := by decide +kernel
theorem dX5_hashOfServer_85 : decode cX5_hashOfServer 85 = .ok (.iload 7, 2) := by decide +kernel
theorem dX5_hashOfServer_87 : decode cX5_hashOfServer 87 = .ok (.invokevirtual 186, 3) := by decide +kernel
theorem dX5_hashOfServer_90 : decode cX5_hashOfServer 90 = .ok (.i2l, 1) := by decide +kernel
theorem dX5_hashOfServer_91 : decode cX5_hashOfServer 91 = .ok (.ladd, 1) := by decide +kernel
theorem dX5_hashOfServer_92 : decode cX5_hashOfServer 92 = .ok (.lstore 5, 2) := by decide +kernel
theorem dX5_hashOfServer_94 : decode cX5_hashOfServer 94 = .ok (.iinc 7 1, 3) := by decide +kernel
theorem dX5_hashOfServer_97 : decode cX5_hashOfServer 97 = .ok (.goto (-26), 3) := by decide +kernel
theorem dX5_hashOfServer_100 : decode cX5_hashOfServer 100 = .ok (.iconst 0, 1) := by decide +kernel
theorem dX5_hashOfServer_101 : decode cX5_hashOfServer 101 = .ok (.istore 7, 2) := by decide +kernel
theorem dX5_hashOfServer_103 : decode cX5_hashOfServer 103 = .ok (.iload 7, 2) := by decide +kernel
theorem dX5_hashOfServer_105 : decode cX5_hashOfServer 105 = .ok (.iconst 4, 1) := by decide +kernel
theorem dX5_hashOfServer_106 : decode cX5_hashOfServer 106 = .ok (.if_icmp .ge 26, 3) := by decide +kernel
theorem dX5_hashOfServer_109 : decode cX5_hashOfServer 109 = .ok (.ldc2_w 151, 3) := by decide +kernel
theorem dX5_hashOfServer_112 : decode cX5_hashOfServer 112 = .ok (.lload 5, 2) := by decide +kernel
theorem dX5_hashOfServer_114 : decode cX5_hashOfServer 114 = .ok (.lmul, 1) := by decide +kernel
theorem dX5_hashOfServer_115 : decode cX5_hashOfServer 115 = .ok (.aload_n 0, 1) := by decide +kernel
theorem dX5_hashOfServer_116 : decode cX5_hashOfServer 116 = .ok (.iconst 1, 1) := by decide +kernel
theorem dX5_hashOfServer_117 : decode cX5_hashOfServer 117 = .ok (.iload 7, 2) := by decide +kernel
theorem dX5_hashOfServer_119 : decode cX5_hashOfServer 119 = .ok (.invokevirtual 186, 3) := by decide +kernel
theorem dX5_hashOfServer_122 : decode cX5_hashOfServer 122 = .ok (.i2l, 1) := by decide +kernel
theorem dX5_hashOfServer_123 : decode cX5_hashOfServer 123 = .ok (.ladd, 1) := by decide +kernel
theorem dX5_hashOfServer_124 : decode cX5_hashOfServer 124 = .ok (.lstore 5, 2) := by decide +kernel
theorem dX5_hashOfServer_126 : decode cX5_hashOfServer 126 = .ok (.iinc 7 1, 3) := by decide +kernel
theorem dX5_hashOfServer_129 : decode cX5_hashOfServer 129 = .ok (.goto (-26), 3) := by decide +kernel
theorem dX5_hashOfServer_132 : decode cX5_hashOfServer 132 = .ok (.lload 5, 2) := by decide +kernel
theorem dX5_hashOfServer_134 : decode cX5_hashOfServer 134 = .ok (.lreturn, 1) := by decide +kernel
def bfX5_hashOfServer_103 (p1 : Int64) (p2 : Int32) (p3 : Int32) (S : RS) (K103 : Int64 × Int32 → Option (Int64)) (x : Int64 × Int32) : Option (Int64) :=
  match x with
  | (x5, x7) => (if (4 : Int32) ≤ x7 then some x5 else ob (fX5_atWorker (1 : Int32) x7 S) fun u9 => nm ((((31 : Int64) * x5) + (u9).toInt64)) fun v10 => K103 (v10, (x7 + (1 : Int32))))
def bfX5_hashOfServer_71 (p1 : Int64) (p2 : Int32) (p3 : Int32) (S : RS) (K71 : Int64 × Int32 → Option (Int64)) (x : Int64 × Int32) : Option (Int64) :=
  match x with
  | (x5, x7) => (if (4 : Int32) ≤ x7 then iter (bfX5_hashOfServer_103 p1 p2 p3 S) FU (x5, (0 : Int32)) else ob (fX5_atWorker (0 : Int32) x7 S) fun u11 => nm ((((31 : Int64) * x5) + (u11).toInt64)) fun v12 => K71 (v12, (x7 + (1 : Int32))))
def bfX5_hashOfServer_38 (p1 : Int64) (p2 : Int32) (p3 : Int32) (S : RS) (K38 : Int64 × Int32 → Option (Int64)) (x : Int64 × Int32) : Option (Int64) :=
  match x with
  | (x5, x7) => (if p3 ≤ x7 then iter (bfX5_hashOfServer_71 p1 p2 p3 S) FU (x5, (0 : Int32)) else ob (fX5_queued (1 : Int32) x7 S) fun u13 => nm ((((31 : Int64) * x5) + (u13).toInt64)) fun v14 => K38 (v14, (x7 + (1 : Int32))))
def bfX5_hashOfServer_6 (p1 : Int64) (p2 : Int32) (p3 : Int32) (S : RS) (K6 : Int64 × Int32 → Option (Int64)) (x : Int64 × Int32) : Option (Int64) :=
  match x with
  | (x5, x7) => (if p2 ≤ x7 then iter (bfX5_hashOfServer_38 p1 p2 p3 S) FU (x5, (0 : Int32)) else ob (fX5_queued (0 : Int32) x7 S) fun u15 => nm ((((31 : Int64) * x5) + (u15).toInt64)) fun v16 => K6 (v16, (x7 + (1 : Int32))))
def fX5_hashOfServer (p1 : Int64) (p2 : Int32) (p3 : Int32) (S : RS) : Option (Int64) :=
  iter (bfX5_hashOfServer_6 p1 p2 p3 S) FU (p1, (0 : Int32))
set_option maxHeartbeats 4000000 in
set_option maxRecDepth 100000 in
theorem kX5_hashOfServer (l : Launch) (D : va_G) (cI cS : ClassId) (aR : Nat → Nat) (p1 : Int64) (p2 : Int32) (p3 : Int32) (S : RS) {q : Int64} (h : fX5_hashOfServer p1 p2 p3 S = some q) : Mc l D (tyL cI cS) false yX5_hashOfServer cX5_hashOfServer 8 (some .long) 3 [.ref (aR 0), .long p1, .int p2, .int p3] (wR cI cS aR S) (some (.long q)) (wR cI cS aR S) := by
  refine Mc_of RX5 (by decide +kernel) rfl wc_X5_hashOfServer (Nat.le_of_ble_eq_true rfl) ?_
  intro p e s m args below meth c A Q ls C hA hz hP hD hS hl RET
  have RETh : ∀ {pc : Nat} {ls : Array Slot} {H : Heap} {locs : List Loc} {x : Int64} , decode cX5_hashOfServer pc = .ok (.lreturn, 1) → some x = some q → va_P D vwCl (wR cI cS aR S) H → va_D A (wR cI cS aR S) → va_S A s.heap H locs → W p l e (rmL 3) s m args below meth c H locs 0 0 Q (F0 m pc ls [.long x]) := by
    intro pc ls H locs x hd h hP hD hS; cases h; exact RET (x_lret C hd) hP hD hS
  have B103 : ∀ (n : Nat) (x : Int64 × Int32), iter (bfX5_hashOfServer_103 p1 p2 p3 S) n x = some q → (match x with | (x5, x7) => ∀ (H : Heap) (locs : List Loc) (ls : Array Slot), va_P D vwCl (wR cI cS aR S) H → va_D A (wR cI cS aR S) → va_S A s.heap H locs → lv_has ls 8 [(0, .ref (aR 0)), (5, .long x5), (7, .int x7)] → W p l e (rmL 3) s m args below meth c H locs 0 0 Q (F0 m 103 ls [])) := by
    refine iter_ind (fun x : Int64 × Int32 => (match x with | (x5, x7) => ∀ (H : Heap) (locs : List Loc) (ls : Array Slot), va_P D vwCl (wR cI cS aR S) H → va_D A (wR cI cS aR S) → va_S A s.heap H locs → lv_has ls 8 [(0, .ref (aR 0)), (5, .long x5), (7, .int x7)] → W p l e (rmL 3) s m args below meth c H locs 0 0 Q (F0 m 103 ls []))) ?_
    intro K103 ih103 x h
    obtain ⟨x5, x7⟩ := x
    intro H locs ls hP hD hS hl
    refine x_iload C dX5_hashOfServer_103 hl 2 rfl ?_
    refine x_iconst (v := (4 : Int32)) C dX5_hashOfServer_105 (by decide) ?_
    refine x_icmp_ge (tgt := 132) C h dX5_hashOfServer_106 (by decide) (fun h => ?_) (fun h => ?_)
    · refine x_lload C dX5_hashOfServer_132 hl 1 rfl ?_
      exact RETh dX5_hashOfServer_134 h hP hD hS
    · refine x_ldc2 C wq_X5_151 dX5_hashOfServer_109 ?_
      refine x_lload C dX5_hashOfServer_112 hl 1 rfl ?_
      refine x_lmul C dX5_hashOfServer_114 ?_
      refine x_aload_n C dX5_hashOfServer_115 rfl hl 0 rfl ?_
      refine x_iconst (v := (1 : Int32)) C dX5_hashOfServer_116 (by decide) ?_
      refine x_iload C dX5_hashOfServer_117 hl 2 rfl ?_
      obtain ⟨u9, hu9, h⟩ := ob_some h
      refine x_callV (As := [.int _, .int _]) (n := 2) C (kX5_atWorker l D cI cS aR _ _ _ hu9) (fun hh => nomatch hh) wm_X5_186 wi_X5_atWorker we_X5_atWorker wz_X5 wc_X5_atWorker (by decide +kernel) rfl hP hD hS hA 0 2 rfl rfl rfl hl.1 dX5_hashOfServer_119 rfl (Nat.le_of_ble_eq_true rfl) ⟨Nat.le_of_ble_eq_true rfl, Nat.le_of_ble_eq_true rfl⟩ ⟨Nat.zero_le _, Nat.zero_le _⟩ (fun H locs hP hD hS => ?_)
      refine x_i2l C dX5_hashOfServer_122 ?_
      refine x_ladd C dX5_hashOfServer_123 ?_
      refine x_nml h (fun v10 h => ?_)
      refine x_lstore (lv' := [(5, .long v10), (0, .ref (aR 0)), (7, .int x7)]) C dX5_hashOfServer_124 hl (by decide) rfl (fun ls hl => ?_)
      refine x_iinc (v := (x7 + (1 : Int32))) (lv' := [(7, .int (x7 + (1 : Int32))), (5, .long v10), (0, .ref (aR 0))]) C dX5_hashOfServer_126 hl (k := 2) rfl rfl (by decide) rfl (fun ls hl => ?_)
      refine x_goto (tgt := 103) C dX5_hashOfServer_129 (by decide) ?_
      exact ih103 _ h _ _ _ hP hD hS (lv_sub hl [2, 1, 0] rfl)
  have B71 : ∀ (n : Nat) (x : Int64 × Int32), iter (bfX5_hashOfServer_71 p1 p2 p3 S) n x = some q → (match x with | (x5, x7) => ∀ (H : Heap) (locs : List Loc) (ls : Array Slot), va_P D vwCl (wR cI cS aR S) H → va_D A (wR cI cS aR S) → va_S A s.heap H locs → lv_has ls 8 [(0, .ref (aR 0)), (5, .long x5), (7, .int x7)] → W p l e (rmL 3) s m args below meth c H locs 0 0 Q (F0 m 71 ls [])) := by
    refine iter_ind (fun x : Int64 × Int32 => (match x with | (x5, x7) => ∀ (H : Heap) (locs : List Loc) (ls : Array Slot), va_P D vwCl (wR cI cS aR S) H → va_D A (wR cI cS aR S) → va_S A s.heap H locs → lv_has ls 8 [(0, .ref (aR 0)), (5, .long x5), (7, .int x7)] → W p l e (rmL 3) s m args below meth c H locs 0 0 Q (F0 m 71 ls []))) ?_
    intro K71 ih71 x h
    obtain ⟨x5, x7⟩ := x
    intro H locs ls hP hD hS hl
    refine x_iload C dX5_hashOfServer_71 hl 2 rfl ?_
    refine x_iconst (v := (4 : Int32)) C dX5_hashOfServer_73 (by decide) ?_
    refine x_icmp_ge (tgt := 100) C h dX5_hashOfServer_74 (by decide) (fun h => ?_) (fun h => ?_)
    · refine x_iconst (v := (0 : Int32)) C dX5_hashOfServer_100 (by decide) ?_
      refine x_istore (lv' := [(7, .int (0 : Int32)), (0, .ref (aR 0)), (5, .long x5)]) C dX5_hashOfServer_101 hl (by decide) rfl (fun ls hl => ?_)
      exact B103 FU _ h _ _ _ hP hD hS (lv_sub hl [1, 2, 0] rfl)
    · refine x_ldc2 C wq_X5_151 dX5_hashOfServer_77 ?_
      refine x_lload C dX5_hashOfServer_80 hl 1 rfl ?_
      refine x_lmul C dX5_hashOfServer_82 ?_
      refine x_aload_n C dX5_hashOfServer_83 rfl hl 0 rfl ?_
      refine x_iconst (v := (0 : Int32)) C dX5_hashOfServer_84 (by decide) ?_
      refine x_iload C dX5_hashOfServer_85 hl 2 rfl ?_
      obtain ⟨u11, hu11, h⟩ := ob_some h
      refine x_callV (As := [.int _, .int _]) (n := 2) C (kX5_atWorker l D cI cS aR _ _ _ hu11) (fun hh => nomatch hh) wm_X5_186 wi_X5_atWorker we_X5_atWorker wz_X5 wc_X5_atWorker (by decide +kernel) rfl hP hD hS hA 0 2 rfl rfl rfl hl.1 dX5_hashOfServer_87 rfl (Nat.le_of_ble_eq_true rfl) ⟨Nat.le_of_ble_eq_true rfl, Nat.le_of_ble_eq_true rfl⟩ ⟨Nat.zero_le _, Nat.zero_le _⟩ (fun H locs hP hD hS => ?_)
      refine x_i2l C dX5_hashOfServer_90 ?_
      refine x_ladd C dX5_hashOfServer_91 ?_
      refine x_nml h (fun v12 h => ?_)
      refine x_lstore (lv' := [(5, .long v12), (0, .ref (aR 0)), (7, .int x7)]) C dX5_hashOfServer_92 hl (by decide) rfl (fun ls hl => ?_)
      refine x_iinc (v := (x7 + (1 : Int32))) (lv' := [(7, .int (x7 + (1 : Int32))), (5, .long v12), (0, .ref (aR 0))]) C dX5_hashOfServer_94 hl (k := 2) rfl rfl (by decide) rfl (fun ls hl => ?_)
      refine x_goto (tgt := 71) C dX5_hashOfServer_97 (by decide) ?_
      exact ih71 _ h _ _ _ hP hD hS (lv_sub hl [2, 1, 0] rfl)
  have B38 : ∀ (n : Nat) (x : Int64 × Int32), iter (bfX5_hashOfServer_38 p1 p2 p3 S) n x = some q → (match x with | (x5, x7) => ∀ (H : Heap) (locs : List Loc) (ls : Array Slot), va_P D vwCl (wR cI cS aR S) H → va_D A (wR cI cS aR S) → va_S A s.heap H locs → lv_has ls 8 [(0, .ref (aR 0)), (4, .int p3), (5, .long x5), (7, .int x7)] → W p l e (rmL 3) s m args below meth c H locs 0 0 Q (F0 m 38 ls [])) := by
    refine iter_ind (fun x : Int64 × Int32 => (match x with | (x5, x7) => ∀ (H : Heap) (locs : List Loc) (ls : Array Slot), va_P D vwCl (wR cI cS aR S) H → va_D A (wR cI cS aR S) → va_S A s.heap H locs → lv_has ls 8 [(0, .ref (aR 0)), (4, .int p3), (5, .long x5), (7, .int x7)] → W p l e (rmL 3) s m args below meth c H locs 0 0 Q (F0 m 38 ls []))) ?_
    intro K38 ih38 x h
    obtain ⟨x5, x7⟩ := x
    intro H locs ls hP hD hS hl
    refine x_iload C dX5_hashOfServer_38 hl 3 rfl ?_
    refine x_iload C dX5_hashOfServer_40 hl 1 rfl ?_
    refine x_icmp_ge (tgt := 68) C h dX5_hashOfServer_42 (by decide) (fun h => ?_) (fun h => ?_)
    · refine x_iconst (v := (0 : Int32)) C dX5_hashOfServer_68 (by decide) ?_
      refine x_istore (lv' := [(7, .int (0 : Int32)), (0, .ref (aR 0)), (4, .int p3), (5, .long x5)]) C dX5_hashOfServer_69 hl (by decide) rfl (fun ls hl => ?_)
      exact B71 FU _ h _ _ _ hP hD hS (lv_sub hl [1, 3, 0] rfl)
    · refine x_ldc2 C wq_X5_151 dX5_hashOfServer_45 ?_
      refine x_lload C dX5_hashOfServer_48 hl 2 rfl ?_
      refine x_lmul C dX5_hashOfServer_50 ?_
      refine x_aload_n C dX5_hashOfServer_51 rfl hl 0 rfl ?_
      refine x_iconst (v := (1 : Int32)) C dX5_hashOfServer_52 (by decide) ?_
      refine x_iload C dX5_hashOfServer_53 hl 3 rfl ?_
      obtain ⟨u13, hu13, h⟩ := ob_some h
      refine x_callV (As := [.int _, .int _]) (n := 2) C (kX5_queued l D cI cS aR _ _ _ hu13) (fun hh => nomatch hh) wm_X5_182 wi_X5_queued we_X5_queued wz_X5 wc_X5_queued (by decide +kernel) rfl hP hD hS hA 0 2 rfl rfl rfl hl.1 dX5_hashOfServer_55 rfl (Nat.le_of_ble_eq_true rfl) ⟨Nat.le_of_ble_eq_true rfl, Nat.le_of_ble_eq_true rfl⟩ ⟨Nat.zero_le _, Nat.zero_le _⟩ (fun H locs hP hD hS => ?_)
      refine x_i2l C dX5_hashOfServer_58 ?_
      refine x_ladd C dX5_hashOfServer_59 ?_
      refine x_nml h (fun v14 h => ?_)
      refine x_lstore (lv' := [(5, .long v14), (0, .ref (aR 0)), (4, .int p3), (7, .int x7)]) C dX5_hashOfServer_60 hl (by decide) rfl (fun ls hl => ?_)
      refine x_iinc (v := (x7 + (1 : Int32))) (lv' := [(7, .int (x7 + (1 : Int32))), (5, .long v14), (0, .ref (aR 0)), (4, .int p3)]) C dX5_hashOfServer_62 hl (k := 3) rfl rfl (by decide) rfl (fun ls hl => ?_)
      refine x_goto (tgt := 38) C dX5_hashOfServer_65 (by decide) ?_
      exact ih38 _ h _ _ _ hP hD hS (lv_sub hl [2, 3, 1, 0] rfl)
  have B6 : ∀ (n : Nat) (x : Int64 × Int32), iter (bfX5_hashOfServer_6 p1 p2 p3 S) n x = some q → (match x with | (x5, x7) => ∀ (H : Heap) (locs : List Loc) (ls : Array Slot), va_P D vwCl (wR cI cS aR S) H → va_D A (wR cI cS aR S) → va_S A s.heap H locs → lv_has ls 8 [(0, .ref (aR 0)), (3, .int p2), (4, .int p3), (5, .long x5), (7, .int x7)] → W p l e (rmL 3) s m args below meth c H locs 0 0 Q (F0 m 6 ls [])) := by
    refine iter_ind (fun x : Int64 × Int32 => (match x with | (x5, x7) => ∀ (H : Heap) (locs : List Loc) (ls : Array Slot), va_P D vwCl (wR cI cS aR S) H → va_D A (wR cI cS aR S) → va_S A s.heap H locs → lv_has ls 8 [(0, .ref (aR 0)), (3, .int p2), (4, .int p3), (5, .long x5), (7, .int x7)] → W p l e (rmL 3) s m args below meth c H locs 0 0 Q (F0 m 6 ls []))) ?_
    intro K6 ih6 x h
    obtain ⟨x5, x7⟩ := x
    intro H locs ls hP hD hS hl
    refine x_iload C dX5_hashOfServer_6 hl 4 rfl ?_
    refine x_iload_n C dX5_hashOfServer_8 rfl hl 1 rfl ?_
    refine x_icmp_ge (tgt := 35) C h dX5_hashOfServer_9 (by decide) (fun h => ?_) (fun h => ?_)
    · refine x_iconst (v := (0 : Int32)) C dX5_hashOfServer_35 (by decide) ?_
      refine x_istore (lv' := [(7, .int (0 : Int32)), (0, .ref (aR 0)), (3, .int p2), (4, .int p3), (5, .long x5)]) C dX5_hashOfServer_36 hl (by decide) rfl (fun ls hl => ?_)
      exact B38 FU _ h _ _ _ hP hD hS (lv_sub hl [1, 3, 4, 0] rfl)
    · refine x_ldc2 C wq_X5_151 dX5_hashOfServer_12 ?_
      refine x_lload C dX5_hashOfServer_15 hl 3 rfl ?_
      refine x_lmul C dX5_hashOfServer_17 ?_
      refine x_aload_n C dX5_hashOfServer_18 rfl hl 0 rfl ?_
      refine x_iconst (v := (0 : Int32)) C dX5_hashOfServer_19 (by decide) ?_
      refine x_iload C dX5_hashOfServer_20 hl 4 rfl ?_
      obtain ⟨u15, hu15, h⟩ := ob_some h
      refine x_callV (As := [.int _, .int _]) (n := 2) C (kX5_queued l D cI cS aR _ _ _ hu15) (fun hh => nomatch hh) wm_X5_182 wi_X5_queued we_X5_queued wz_X5 wc_X5_queued (by decide +kernel) rfl hP hD hS hA 0 2 rfl rfl rfl hl.1 dX5_hashOfServer_22 rfl (Nat.le_of_ble_eq_true rfl) ⟨Nat.le_of_ble_eq_true rfl, Nat.le_of_ble_eq_true rfl⟩ ⟨Nat.zero_le _, Nat.zero_le _⟩ (fun H locs hP hD hS => ?_)
      refine x_i2l C dX5_hashOfServer_25 ?_
      refine x_ladd C dX5_hashOfServer_26 ?_
      refine x_nml h (fun v16 h => ?_)
      refine x_lstore (lv' := [(5, .long v16), (0, .ref (aR 0)), (3, .int p2), (4, .int p3), (7, .int x7)]) C dX5_hashOfServer_27 hl (by decide) rfl (fun ls hl => ?_)
      refine x_iinc (v := (x7 + (1 : Int32))) (lv' := [(7, .int (x7 + (1 : Int32))), (5, .long v16), (0, .ref (aR 0)), (3, .int p2), (4, .int p3)]) C dX5_hashOfServer_29 hl (k := 4) rfl rfl (by decide) rfl (fun ls hl => ?_)
      refine x_goto (tgt := 6) C dX5_hashOfServer_32 (by decide) ?_
      exact ih6 _ h _ _ _ hP hD hS (lv_sub hl [2, 3, 4, 1, 0] rfl)
  refine x_lload_n C dX5_hashOfServer_0 rfl hl 1 rfl ?_
  refine x_lstore (lv' := [(5, .long p1), (0, .ref (aR 0)), (1, .long p1), (3, .int p2), (4, .int p3)]) C dX5_hashOfServer_1 hl (by decide) rfl (fun ls hl => ?_)
  refine x_iconst (v := (0 : Int32)) C dX5_hashOfServer_3 (by decide) ?_
  refine x_istore (lv' := [(7, .int (0 : Int32)), (5, .long p1), (0, .ref (aR 0)), (1, .long p1), (3, .int p2), (4, .int p3)]) C dX5_hashOfServer_4 hl (by decide) rfl (fun ls hl => ?_)
  exact B6 FU _ h _ _ _ hP hD hS (lv_sub hl [2, 4, 5, 1, 0] rfl)
theorem dX5_live_0 : decode cX5_live 0 = .ok (.iload_n 1, 1) := by decide +kernel
theorem dX5_live_1 : decode cX5_live 1 = .ok (.ifCond .ge 7, 3) := by decide +kernel
theorem dX5_live_4 : decode cX5_live 4 = .ok (.iconst (-1), 1) := by decide +kernel
theorem dX5_live_5 : decode cX5_live 5 = .ok (.goto 15, 3) := by decide +kernel
theorem dX5_live_8 : decode cX5_live 8 = .ok (.aload_n 0, 1) := by decide +kernel
theorem dX5_live_9 : decode cX5_live 9 = .ok (.getfield 10, 3) := by decide +kernel
theorem dX5_live_12 : decode cX5_live 12 = .ok (.getfield 90, 3) := by decide +kernel
theorem dX5_live_15 : decode cX5_live 15 = .ok (.iload_n 1, 1) := by decide +kernel
theorem dX5_live_16 : decode cX5_live 16 = .ok (.iconst 0, 1) := by decide +kernel
theorem dX5_live_17 : decode cX5_live 17 = .ok (.invokevirtual 41, 3) := by decide +kernel
theorem dX5_live_20 : decode cX5_live 20 = .ok (.ireturn, 1) := by decide +kernel
def bfX5_live_20 (p1 : Int32) (S : RS) (s0 : Int32) : Option (Int32) :=
  some s0
def fX5_live (p1 : Int32) (S : RS) : Option (Int32) :=
  (if 0 ≤ p1 then bfX5_live_20 p1 S  ((sget 5 (S.2.1 0) p1 (0 : Int32))) else bfX5_live_20 p1 S  ((-1 : Int32)))
set_option maxHeartbeats 4000000 in
set_option maxRecDepth 100000 in
theorem kX5_live (l : Launch) (D : va_G) (cI cS : ClassId) (aR : Nat → Nat) (p1 : Int32) (S : RS) {q : Int32} (h : fX5_live p1 S = some q) : Mc l D (tyL cI cS) false yX5_live cX5_live 2 (some .int) 2 [.ref (aR 0), .int p1] (wR cI cS aR S) (some (.int q)) (wR cI cS aR S) := by
  refine Mc_of RX5 (by decide +kernel) rfl wc_X5_live (Nat.le_of_ble_eq_true rfl) ?_
  intro p e s m args below meth c A Q ls C hA hz hP hD hS hl RET
  have RETh : ∀ {pc : Nat} {ls : Array Slot} {H : Heap} {locs : List Loc} {x : Int32} , decode cX5_live pc = .ok (.ireturn, 1) → some x = some q → va_P D vwCl (wR cI cS aR S) H → va_D A (wR cI cS aR S) → va_S A s.heap H locs → W p l e (rmL 2) s m args below meth c H locs 0 0 Q (F0 m pc ls [.int x]) := by
    intro pc ls H locs x hd h hP hD hS; cases h; exact RET (x_iret C hd) hP hD hS
  have B20 : ∀ (s0 : Int32), bfX5_live_20 p1 S s0 = some q → ∀ (H : Heap) (locs : List Loc) (ls : Array Slot), va_P D vwCl (wR cI cS aR S) H → va_D A (wR cI cS aR S) → va_S A s.heap H locs → lv_has ls 2 [] → W p l e (rmL 2) s m args below meth c H locs 0 0 Q (F0 m 20 ls [.int s0]) := by
    intro s0 h H locs ls hP hD hS hl
    exact RETh dX5_live_20 h hP hD hS
  refine x_iload_n C dX5_live_0 rfl hl 1 rfl ?_
  refine x_if_ge (tgt := 8) C h dX5_live_1 (by decide) (fun h => ?_) (fun h => ?_)
  · refine x_aload_n C dX5_live_8 rfl hl 0 rfl ?_
    refine x_get C inX5 hP 0 rfl rfl 0 (by decide) wf_X5_10 rfl dX5_live_9 ?_
    refine x_get C inX2 hP 2 rfl rfl 5 (by decide) wf_X5_90 rfl dX5_live_12 ?_
    refine x_iload_n C dX5_live_15 rfl hl 1 rfl ?_
    refine x_iconst (v := (0 : Int32)) C dX5_live_16 (by decide) ?_
    refine x_callV (As := [.int _, .int _]) (n := 2) C (Mc.toR0 (X := S) (i := 0) (kS_get l D cI cS (S.1 0) _ 5 (by decide) _ _) cS aR (by decide)) (fun hh => nomatch hh) wm_X5_41 wi_X3_get we_X3_get wz_X3 wc_X3_get (by decide +kernel) rfl hP hD hS hA 13 1 rfl rfl rfl hl.1 dX5_live_17 rfl (Nat.le_of_ble_eq_true rfl) ⟨Nat.le_of_ble_eq_true rfl, Nat.le_of_ble_eq_true rfl⟩ ⟨Nat.zero_le _, Nat.zero_le _⟩ (fun H locs hP hD hS => ?_)
    exact B20 _ h _ _ _ hP hD hS (lv_sub hl [] rfl)
  · refine x_iconst (v := (-1 : Int32)) C dX5_live_4 (by decide) ?_
    refine x_goto (tgt := 20) C dX5_live_5 (by decide) ?_
    exact B20 _ h _ _ _ hP hD hS (lv_sub hl [] rfl)
theorem dX5_request_0 : decode cX5_request 0 = .ok (.iload_n 2, 1) := by decide +kernel
theorem dX5_request_1 : decode cX5_request 1 = .ok (.ifCond .lt 8, 3) := by decide +kernel
theorem dX5_request_4 : decode cX5_request 4 = .ok (.iload_n 2, 1) := by decide +kernel
theorem dX5_request_5 : decode cX5_request 5 = .ok (.iconst 4, 1) := by decide +kernel
theorem dX5_request_6 : decode cX5_request 6 = .ok (.if_icmp .le 5, 3) := by decide +kernel
theorem dX5_request_9 : decode cX5_request 9 = .ok (.iconst (-1), 1) := by decide +kernel
theorem dX5_request_10 : decode cX5_request 10 = .ok (.ireturn, 1) := by decide +kernel
theorem dX5_request_11 : decode cX5_request 11 = .ok (.aload_n 0, 1) := by decide +kernel
theorem dX5_request_12 : decode cX5_request 12 = .ok (.getfield 10, 3) := by decide +kernel
theorem dX5_request_15 : decode cX5_request 15 = .ok (.getfield 90, 3) := by decide +kernel
theorem dX5_request_18 : decode cX5_request 18 = .ok (.iconst 0, 1) := by decide +kernel
theorem dX5_request_19 : decode cX5_request 19 = .ok (.iload_n 1, 1) := by decide +kernel
theorem dX5_request_20 : decode cX5_request 20 = .ok (.invokevirtual 127, 3) := by decide +kernel
theorem dX5_request_23 : decode cX5_request 23 = .ok (.istore_n 3, 1) := by decide +kernel
theorem dX5_request_24 : decode cX5_request 24 = .ok (.iload_n 3, 1) := by decide +kernel
theorem dX5_request_25 : decode cX5_request 25 = .ok (.bipush (-9), 2) := by decide +kernel
theorem dX5_request_27 : decode cX5_request 27 = .ok (.if_icmp .ne 6, 3) := by decide +kernel
theorem dX5_request_30 : decode cX5_request 30 = .ok (.bipush (-9), 2) := by decide +kernel
theorem dX5_request_32 : decode cX5_request 32 = .ok (.ireturn, 1) := by decide +kernel
theorem dX5_request_33 : decode cX5_request 33 = .ok (.iload_n 2, 1) := by decide +kernel
theorem dX5_request_34 : decode cX5_request 34 = .ok (.tableswitch 78 0 3 #[30, 43, 56, 69], 30) := by decide +kernel
theorem dX5_request_64 : decode cX5_request 64 = .ok (.aload_n 0, 1) := by decide +kernel
theorem dX5_request_65 : decode cX5_request 65 = .ok (.getfield 10, 3) := by decide +kernel
theorem dX5_request_68 : decode cX5_request 68 = .ok (.getfield 90, 3) := by decide +kernel
theorem dX5_request_71 : decode cX5_request 71 = .ok (.iload_n 3, 1) := by decide +kernel
theorem dX5_request_72 : decode cX5_request 72 = .ok (.iconst 1, 1) := by decide +kernel
theorem dX5_request_73 : decode cX5_request 73 = .ok (.invokevirtual 41, 3) := by decide +kernel
theorem dX5_request_76 : decode cX5_request 76 = .ok (.ireturn, 1) := by decide +kernel
theorem dX5_request_77 : decode cX5_request 77 = .ok (.aload_n 0, 1) := by decide +kernel
theorem dX5_request_78 : decode cX5_request 78 = .ok (.getfield 10, 3) := by decide +kernel
theorem dX5_request_81 : decode cX5_request 81 = .ok (.getfield 90, 3) := by decide +kernel
theorem dX5_request_84 : decode cX5_request 84 = .ok (.iload_n 3, 1) := by decide +kernel
theorem dX5_request_85 : decode cX5_request 85 = .ok (.iconst 2, 1) := by decide +kernel
theorem dX5_request_86 : decode cX5_request 86 = .ok (.invokevirtual 41, 3) := by decide +kernel
theorem dX5_request_89 : decode cX5_request 89 = .ok (.ireturn, 1) := by decide +kernel
theorem dX5_request_90 : decode cX5_request 90 = .ok (.aload_n 0, 1) := by decide +kernel
theorem dX5_request_91 : decode cX5_request 91 = .ok (.getfield 10, 3) := by decide +kernel
theorem dX5_request_94 : decode cX5_request 94 = .ok (.getfield 90, 3) := by decide +kernel
theorem dX5_request_97 : decode cX5_request 97 = .ok (.iload_n 3, 1) := by decide +kernel
theorem dX5_request_98 : decode cX5_request 98 = .ok (.iconst 3, 1) := by decide +kernel
theorem dX5_request_99 : decode cX5_request 99 = .ok (.invokevirtual 41, 3) := by decide +kernel
theorem dX5_request_102 : decode cX5_request 102 = .ok (.ireturn, 1) := by decide +kernel
theorem dX5_request_103 : decode cX5_request 103 = .ok (.aload_n 0, 1) := by decide +kernel
theorem dX5_request_104 : decode cX5_request 104 = .ok (.getfield 10, 3) := by decide +kernel
theorem dX5_request_107 : decode cX5_request 107 = .ok (.iload_n 1, 1) := by decide +kernel
theorem dX5_request_108 : decode cX5_request 108 = .ok (.invokevirtual 130, 3) := by decide +kernel
theorem dX5_request_111 : decode cX5_request 111 = .ok (.ireturn, 1) := by decide +kernel
theorem dX5_request_112 : decode cX5_request 112 = .ok (.aload_n 0, 1) := by decide +kernel
theorem dX5_request_113 : decode cX5_request 113 = .ok (.getfield 10, 3) := by decide +kernel
theorem dX5_request_116 : decode cX5_request 116 = .ok (.getfield 90, 3) := by decide +kernel
theorem dX5_request_119 : decode cX5_request 119 = .ok (.iload_n 3, 1) := by decide +kernel
theorem dX5_request_120 : decode cX5_request 120 = .ok (.iconst 5, 1) := by decide +kernel
theorem dX5_request_121 : decode cX5_request 121 = .ok (.invokevirtual 41, 3) := by decide +kernel
theorem dX5_request_124 : decode cX5_request 124 = .ok (.ireturn, 1) := by decide +kernel
def bfX5_request_9 (p1 : Int32) (p2 : Int32) (S : RS) : Option (Int32) :=
  some (-1 : Int32)
def fX5_request (p1 : Int32) (p2 : Int32) (S : RS) : Option (Int32) :=
  (if p2 < 0 then bfX5_request_9 p1 p2 S else (if p2 ≤ (4 : Int32) then nm ((sfind 5 (S.2.1 0) (0 : Int32) p1)) fun v3 => (if v3 = (-9 : Int32) then some (-9 : Int32) else (if p2 = (0 : Int32) then some (sget 5 (S.2.1 0) v3 (1 : Int32)) else (if p2 = (1 : Int32) then some (sget 5 (S.2.1 0) v3 (2 : Int32)) else (if p2 = (2 : Int32) then some (sget 5 (S.2.1 0) v3 (3 : Int32)) else (if p2 = (3 : Int32) then ob (fX2_placeOf p1 (S.2.1 0)) fun u4 => some u4 else some (sget 5 (S.2.1 0) v3 (5 : Int32))))))) else bfX5_request_9 p1 p2 S))
set_option maxHeartbeats 4000000 in
set_option maxRecDepth 100000 in
theorem kX5_request (l : Launch) (D : va_G) (cI cS : ClassId) (aR : Nat → Nat) (p1 : Int32) (p2 : Int32) (S : RS) {q : Int32} (h : fX5_request p1 p2 S = some q) : Mc l D (tyL cI cS) false yX5_request cX5_request 4 (some .int) 4 [.ref (aR 0), .int p1, .int p2] (wR cI cS aR S) (some (.int q)) (wR cI cS aR S) := by
  refine Mc_of RX5 (by decide +kernel) rfl wc_X5_request (Nat.le_of_ble_eq_true rfl) ?_
  intro p e s m args below meth c A Q ls C hA hz hP hD hS hl RET
  have RETh : ∀ {pc : Nat} {ls : Array Slot} {H : Heap} {locs : List Loc} {x : Int32} , decode cX5_request pc = .ok (.ireturn, 1) → some x = some q → va_P D vwCl (wR cI cS aR S) H → va_D A (wR cI cS aR S) → va_S A s.heap H locs → W p l e (rmL 4) s m args below meth c H locs 0 0 Q (F0 m pc ls [.int x]) := by
    intro pc ls H locs x hd h hP hD hS; cases h; exact RET (x_iret C hd) hP hD hS
  have B9 : bfX5_request_9 p1 p2 S = some q → ∀ (H : Heap) (locs : List Loc) (ls : Array Slot), va_P D vwCl (wR cI cS aR S) H → va_D A (wR cI cS aR S) → va_S A s.heap H locs → lv_has ls 4 [] → W p l e (rmL 4) s m args below meth c H locs 0 0 Q (F0 m 9 ls []) := by
    intro  h H locs ls hP hD hS hl
    refine x_iconst (v := (-1 : Int32)) C dX5_request_9 (by decide) ?_
    exact RETh dX5_request_10 h hP hD hS
  refine x_iload_n C dX5_request_0 rfl hl 2 rfl ?_
  refine x_if_lt (tgt := 9) C h dX5_request_1 (by decide) (fun h => ?_) (fun h => ?_)
  · exact B9  h _ _ _ hP hD hS (lv_sub hl [] rfl)
  · refine x_iload_n C dX5_request_4 rfl hl 2 rfl ?_
    refine x_iconst (v := (4 : Int32)) C dX5_request_5 (by decide) ?_
    refine x_icmp_le (tgt := 11) C h dX5_request_6 (by decide) (fun h => ?_) (fun h => ?_)
    · refine x_aload_n C dX5_request_11 rfl hl 0 rfl ?_
      refine x_get C inX5 hP 0 rfl rfl 0 (by decide) wf_X5_10 rfl dX5_request_12 ?_
      refine x_get C inX2 hP 2 rfl rfl 5 (by decide) wf_X5_90 rfl dX5_request_15 ?_
      refine x_iconst (v := (0 : Int32)) C dX5_request_18 (by decide) ?_
      refine x_iload_n C dX5_request_19 rfl hl 1 rfl ?_
      refine x_callV (As := [.int _, .int _]) (n := 2) C (Mc.toR0 (X := S) (i := 0) (kS_find l D cI cS (S.1 0) _ 5 (by decide) _ _) cS aR (by decide)) (fun hh => nomatch hh) wm_X5_127 wi_X3_find we_X3_find wz_X3 wc_X3_find (by decide +kernel) rfl hP hD hS hA 13 1 rfl rfl rfl hl.1 dX5_request_20 rfl (Nat.le_of_ble_eq_true rfl) ⟨Nat.le_of_ble_eq_true rfl, Nat.le_of_ble_eq_true rfl⟩ ⟨Nat.zero_le _, Nat.zero_le _⟩ (fun H locs hP hD hS => ?_)
      refine x_nmi h (fun v3 h => ?_)
      refine x_istore_n (lv' := [(3, .int v3), (0, .ref (aR 0)), (1, .int p1), (2, .int p2)]) C dX5_request_23 rfl hl (by decide) rfl (fun ls hl => ?_)
      refine x_iload_n C dX5_request_24 rfl hl 0 rfl ?_
      refine x_bipush (v := (-9 : Int32)) C dX5_request_25 (by decide) ?_
      refine x_icmp_ne (tgt := 33) C h dX5_request_27 (by decide) (fun h => ?_) (fun h => ?_)
      · refine x_iload_n C dX5_request_33 rfl hl 3 rfl ?_
        rcases x_ifc h with ⟨hc, h⟩ | ⟨hc0, h⟩
        · refine x_tabIn (tgt := 64) C dX5_request_34 (by rw [hc]; decide) (by rw [hc]; decide) (by rw [hc]; rfl) (by decide) ?_
          refine x_aload_n C dX5_request_64 rfl hl 1 rfl ?_
          refine x_get C inX5 hP 0 rfl rfl 0 (by decide) wf_X5_10 rfl dX5_request_65 ?_
          refine x_get C inX2 hP 2 rfl rfl 5 (by decide) wf_X5_90 rfl dX5_request_68 ?_
          refine x_iload_n C dX5_request_71 rfl hl 0 rfl ?_
          refine x_iconst (v := (1 : Int32)) C dX5_request_72 (by decide) ?_
          refine x_callV (As := [.int _, .int _]) (n := 2) C (Mc.toR0 (X := S) (i := 0) (kS_get l D cI cS (S.1 0) _ 5 (by decide) _ _) cS aR (by decide)) (fun hh => nomatch hh) wm_X5_41 wi_X3_get we_X3_get wz_X3 wc_X3_get (by decide +kernel) rfl hP hD hS hA 13 1 rfl rfl rfl hl.1 dX5_request_73 rfl (Nat.le_of_ble_eq_true rfl) ⟨Nat.le_of_ble_eq_true rfl, Nat.le_of_ble_eq_true rfl⟩ ⟨Nat.zero_le _, Nat.zero_le _⟩ (fun H locs hP hD hS => ?_)
          exact RETh dX5_request_76 h hP hD hS
        ·
          rcases x_ifc h with ⟨hc, h⟩ | ⟨hc1, h⟩
          · refine x_tabIn (tgt := 77) C dX5_request_34 (by rw [hc]; decide) (by rw [hc]; decide) (by rw [hc]; rfl) (by decide) ?_
            refine x_aload_n C dX5_request_77 rfl hl 1 rfl ?_
            refine x_get C inX5 hP 0 rfl rfl 0 (by decide) wf_X5_10 rfl dX5_request_78 ?_
            refine x_get C inX2 hP 2 rfl rfl 5 (by decide) wf_X5_90 rfl dX5_request_81 ?_
            refine x_iload_n C dX5_request_84 rfl hl 0 rfl ?_
            refine x_iconst (v := (2 : Int32)) C dX5_request_85 (by decide) ?_
            refine x_callV (As := [.int _, .int _]) (n := 2) C (Mc.toR0 (X := S) (i := 0) (kS_get l D cI cS (S.1 0) _ 5 (by decide) _ _) cS aR (by decide)) (fun hh => nomatch hh) wm_X5_41 wi_X3_get we_X3_get wz_X3 wc_X3_get (by decide +kernel) rfl hP hD hS hA 13 1 rfl rfl rfl hl.1 dX5_request_86 rfl (Nat.le_of_ble_eq_true rfl) ⟨Nat.le_of_ble_eq_true rfl, Nat.le_of_ble_eq_true rfl⟩ ⟨Nat.zero_le _, Nat.zero_le _⟩ (fun H locs hP hD hS => ?_)
            exact RETh dX5_request_89 h hP hD hS
          ·
            rcases x_ifc h with ⟨hc, h⟩ | ⟨hc2, h⟩
            · refine x_tabIn (tgt := 90) C dX5_request_34 (by rw [hc]; decide) (by rw [hc]; decide) (by rw [hc]; rfl) (by decide) ?_
              refine x_aload_n C dX5_request_90 rfl hl 1 rfl ?_
              refine x_get C inX5 hP 0 rfl rfl 0 (by decide) wf_X5_10 rfl dX5_request_91 ?_
              refine x_get C inX2 hP 2 rfl rfl 5 (by decide) wf_X5_90 rfl dX5_request_94 ?_
              refine x_iload_n C dX5_request_97 rfl hl 0 rfl ?_
              refine x_iconst (v := (3 : Int32)) C dX5_request_98 (by decide) ?_
              refine x_callV (As := [.int _, .int _]) (n := 2) C (Mc.toR0 (X := S) (i := 0) (kS_get l D cI cS (S.1 0) _ 5 (by decide) _ _) cS aR (by decide)) (fun hh => nomatch hh) wm_X5_41 wi_X3_get we_X3_get wz_X3 wc_X3_get (by decide +kernel) rfl hP hD hS hA 13 1 rfl rfl rfl hl.1 dX5_request_99 rfl (Nat.le_of_ble_eq_true rfl) ⟨Nat.le_of_ble_eq_true rfl, Nat.le_of_ble_eq_true rfl⟩ ⟨Nat.zero_le _, Nat.zero_le _⟩ (fun H locs hP hD hS => ?_)
              exact RETh dX5_request_102 h hP hD hS
            ·
              rcases x_ifc h with ⟨hc, h⟩ | ⟨hc3, h⟩
              · refine x_tabIn (tgt := 103) C dX5_request_34 (by rw [hc]; decide) (by rw [hc]; decide) (by rw [hc]; rfl) (by decide) ?_
                refine x_aload_n C dX5_request_103 rfl hl 1 rfl ?_
                refine x_get C inX5 hP 0 rfl rfl 0 (by decide) wf_X5_10 rfl dX5_request_104 ?_
                refine x_iload_n C dX5_request_107 rfl hl 2 rfl ?_
                obtain ⟨u4, hu4, h⟩ := ob_some h
                refine x_callV (As := [.int _]) (n := 1) C (Mc.toR0 (X := S) (i := 0) (kX2_placeOf l D cI cS (S.1 0) _ _ hu4) cS aR (by decide)) (fun hh => nomatch hh) wm_X5_130 wi_X2_placeOf we_X2_placeOf wz_X2 wc_X2_placeOf (by decide +kernel) rfl hP hD hS hA 2 0 rfl rfl rfl hl.1 dX5_request_108 rfl (Nat.le_of_ble_eq_true rfl) ⟨Nat.le_of_ble_eq_true rfl, Nat.le_of_ble_eq_true rfl⟩ ⟨Nat.zero_le _, Nat.zero_le _⟩ (fun H locs hP hD hS => ?_)
                exact RETh dX5_request_111 h hP hD hS
              · refine x_switch (tgt := 112) C dX5_request_34 (x_tabO0_3 hc0 hc1 hc2 hc3) (by decide) ?_
                refine x_aload_n C dX5_request_112 rfl hl 1 rfl ?_
                refine x_get C inX5 hP 0 rfl rfl 0 (by decide) wf_X5_10 rfl dX5_request_113 ?_
                refine x_get C inX2 hP 2 rfl rfl 5 (by decide) wf_X5_90 rfl dX5_request_116 ?_
                refine x_iload_n C dX5_request_119 rfl hl 0 rfl ?_
                refine x_iconst (v := (5 : Int32)) C dX5_request_120 (by decide) ?_
                refine x_callV (As := [.int _, .int _]) (n := 2) C (Mc.toR0 (X := S) (i := 0) (kS_get l D cI cS (S.1 0) _ 5 (by decide) _ _) cS aR (by decide)) (fun hh => nomatch hh) wm_X5_41 wi_X3_get we_X3_get wz_X3 wc_X3_get (by decide +kernel) rfl hP hD hS hA 13 1 rfl rfl rfl hl.1 dX5_request_121 rfl (Nat.le_of_ble_eq_true rfl) ⟨Nat.le_of_ble_eq_true rfl, Nat.le_of_ble_eq_true rfl⟩ ⟨Nat.zero_le _, Nat.zero_le _⟩ (fun H locs hP hD hS => ?_)
                exact RETh dX5_request_124 h hP hD hS
      · refine x_bipush (v := (-9 : Int32)) C dX5_request_30 (by decide) ?_
        exact RETh dX5_request_32 h hP hD hS
    · exact B9  h _ _ _ hP hD hS (lv_sub hl [] rfl)
theorem dX5_told_0 : decode cX5_told 0 = .ok (.iload_n 1, 1) := by decide +kernel
theorem dX5_told_1 : decode cX5_told 1 = .ok (.tableswitch 198 0 12 #[67, 75, 86, 99, 110, 121, 137, 153, 161, 169, 177, 185, 193], 67) := by decide +kernel
theorem dX5_told_68 : decode cX5_told 68 = .ok (.aload_n 0, 1) := by decide +kernel
theorem dX5_told_69 : decode cX5_told 69 = .ok (.getfield 10, 3) := by decide +kernel
theorem dX5_told_72 : decode cX5_told 72 = .ok (.getfield 72, 3) := by decide +kernel
theorem dX5_told_75 : decode cX5_told 75 = .ok (.ireturn, 1) := by decide +kernel
theorem dX5_told_76 : decode cX5_told 76 = .ok (.aload_n 0, 1) := by decide +kernel
theorem dX5_told_77 : decode cX5_told 77 = .ok (.getfield 10, 3) := by decide +kernel
theorem dX5_told_80 : decode cX5_told 80 = .ok (.getfield 90, 3) := by decide +kernel
theorem dX5_told_83 : decode cX5_told 83 = .ok (.invokevirtual 93, 3) := by decide +kernel
theorem dX5_told_86 : decode cX5_told 86 = .ok (.ireturn, 1) := by decide +kernel
theorem dX5_told_87 : decode cX5_told 87 = .ok (.aload_n 0, 1) := by decide +kernel
theorem dX5_told_88 : decode cX5_told 88 = .ok (.getfield 10, 3) := by decide +kernel
theorem dX5_told_91 : decode cX5_told 91 = .ok (.getfield 90, 3) := by decide +kernel
theorem dX5_told_94 : decode cX5_told 94 = .ok (.iconst 4, 1) := by decide +kernel
theorem dX5_told_95 : decode cX5_told 95 = .ok (.iconst 1, 1) := by decide +kernel
theorem dX5_told_96 : decode cX5_told 96 = .ok (.invokevirtual 97, 3) := by decide +kernel
theorem dX5_told_99 : decode cX5_told 99 = .ok (.ireturn, 1) := by decide +kernel
theorem dX5_told_100 : decode cX5_told 100 = .ok (.aload_n 0, 1) := by decide +kernel
theorem dX5_told_101 : decode cX5_told 101 = .ok (.getfield 10, 3) := by decide +kernel
theorem dX5_told_104 : decode cX5_told 104 = .ok (.getfield 100, 3) := by decide +kernel
theorem dX5_told_107 : decode cX5_told 107 = .ok (.invokevirtual 93, 3) := by decide +kernel
theorem dX5_told_110 : decode cX5_told 110 = .ok (.ireturn, 1) := by decide +kernel
theorem dX5_told_111 : decode cX5_told 111 = .ok (.aload_n 0, 1) := by decide +kernel
theorem dX5_told_112 : decode cX5_told 112 = .ok (.getfield 10, 3) := by decide +kernel
theorem dX5_told_115 : decode cX5_told 115 = .ok (.getfield 103, 3) := by decide +kernel
theorem dX5_told_118 : decode cX5_told 118 = .ok (.invokevirtual 93, 3) := by decide +kernel
theorem dX5_told_121 : decode cX5_told 121 = .ok (.ireturn, 1) := by decide +kernel
theorem dX5_told_122 : decode cX5_told 122 = .ok (.iconst 4, 1) := by decide +kernel
theorem dX5_told_123 : decode cX5_told 123 = .ok (.aload_n 0, 1) := by decide +kernel
theorem dX5_told_124 : decode cX5_told 124 = .ok (.getfield 10, 3) := by decide +kernel
theorem dX5_told_127 : decode cX5_told 127 = .ok (.getfield 106, 3) := by decide +kernel
theorem dX5_told_130 : decode cX5_told 130 = .ok (.iconst 0, 1) := by decide +kernel
theorem dX5_told_131 : decode cX5_told 131 = .ok (.bipush (-9), 2) := by decide +kernel
theorem dX5_told_133 : decode cX5_told 133 = .ok (.invokevirtual 97, 3) := by decide +kernel
theorem dX5_told_136 : decode cX5_told 136 = .ok (.isub, 1) := by decide +kernel
theorem dX5_told_137 : decode cX5_told 137 = .ok (.ireturn, 1) := by decide +kernel
theorem dX5_told_138 : decode cX5_told 138 = .ok (.iconst 4, 1) := by decide +kernel
theorem dX5_told_139 : decode cX5_told 139 = .ok (.aload_n 0, 1) := by decide +kernel
theorem dX5_told_140 : decode cX5_told 140 = .ok (.getfield 10, 3) := by decide +kernel
theorem dX5_told_143 : decode cX5_told 143 = .ok (.getfield 109, 3) := by decide +kernel
theorem dX5_told_146 : decode cX5_told 146 = .ok (.iconst 0, 1) := by decide +kernel
theorem dX5_told_147 : decode cX5_told 147 = .ok (.bipush (-9), 2) := by decide +kernel
theorem dX5_told_149 : decode cX5_told 149 = .ok (.invokevirtual 97, 3) := by decide +kernel
theorem dX5_told_152 : decode cX5_told 152 = .ok (.isub, 1) := by decide +kernel
theorem dX5_told_153 : decode cX5_told 153 = .ok (.ireturn, 1) := by decide +kernel
theorem dX5_told_154 : decode cX5_told 154 = .ok (.aload_n 0, 1) := by decide +kernel
theorem dX5_told_155 : decode cX5_told 155 = .ok (.getfield 10, 3) := by decide +kernel
theorem dX5_told_158 : decode cX5_told 158 = .ok (.getfield 112, 3) := by decide +kernel
theorem dX5_told_161 : decode cX5_told 161 = .ok (.ireturn, 1) := by decide +kernel
theorem dX5_told_162 : decode cX5_told 162 = .ok (.aload_n 0, 1) := by decide +kernel
theorem dX5_told_163 : decode cX5_told 163 = .ok (.getfield 10, 3) := by decide +kernel
theorem dX5_told_166 : decode cX5_told 166 = .ok (.getfield 115, 3) := by decide +kernel
theorem dX5_told_169 : decode cX5_told 169 = .ok (.ireturn, 1) := by decide +kernel
theorem dX5_told_170 : decode cX5_told 170 = .ok (.aload_n 0, 1) := by decide +kernel
theorem dX5_told_171 : decode cX5_told 171 = .ok (.getfield 10, 3) := by decide +kernel
theorem dX5_told_174 : decode cX5_told 174 = .ok (.invokevirtual 118, 3) := by decide +kernel
theorem dX5_told_177 : decode cX5_told 177 = .ok (.ireturn, 1) := by decide +kernel
theorem dX5_told_178 : decode cX5_told 178 = .ok (.aload_n 0, 1) := by decide +kernel
theorem dX5_told_179 : decode cX5_told 179 = .ok (.getfield 10, 3) := by decide +kernel
theorem dX5_told_182 : decode cX5_told 182 = .ok (.getfield 121, 3) := by decide +kernel
theorem dX5_told_185 : decode cX5_told 185 = .ok (.ireturn, 1) := by decide +kernel
theorem dX5_told_186 : decode cX5_told 186 = .ok (.aload_n 0, 1) := by decide +kernel
theorem dX5_told_187 : decode cX5_told 187 = .ok (.getfield 10, 3) := by decide +kernel
theorem dX5_told_190 : decode cX5_told 190 = .ok (.getfield 65, 3) := by decide +kernel
theorem dX5_told_193 : decode cX5_told 193 = .ok (.ireturn, 1) := by decide +kernel
theorem dX5_told_194 : decode cX5_told 194 = .ok (.aload_n 0, 1) := by decide +kernel
theorem dX5_told_195 : decode cX5_told 195 = .ok (.getfield 124, 3) := by decide +kernel
theorem dX5_told_198 : decode cX5_told 198 = .ok (.ireturn, 1) := by decide +kernel
theorem dX5_told_199 : decode cX5_told 199 = .ok (.iconst (-1), 1) := by decide +kernel
theorem dX5_told_200 : decode cX5_told 200 = .ok (.ireturn, 1) := by decide +kernel
def fX5_told (p1 : Int32) (S : RS) : Option (Int32) :=
  (if p1 = (0 : Int32) then some ((S.2.1 0).2 12) else (if p1 = (1 : Int32) then some (ssize 5 (S.2.1 0)) else (if p1 = (2 : Int32) then some (srows 5 (S.2.1 0) (4 : Int32) (1 : Int32)) else (if p1 = (3 : Int32) then some (ssize 6 (S.2.1 0)) else (if p1 = (4 : Int32) then some (ssize 8 (S.2.1 0)) else (if p1 = (5 : Int32) then some ((4 : Int32) - (srows 7 (S.2.1 0) (0 : Int32) (-9 : Int32))) else (if p1 = (6 : Int32) then some ((4 : Int32) - (srows 9 (S.2.1 0) (0 : Int32) (-9 : Int32))) else (if p1 = (7 : Int32) then some ((S.2.1 0).2 15) else (if p1 = (8 : Int32) then some ((S.2.1 0).2 16) else (if p1 = (9 : Int32) then ob (fX2_pendingWork (S.2.1 0)) fun u2 => some u2 else (if p1 = (10 : Int32) then some ((S.2.1 0).2 17) else (if p1 = (11 : Int32) then some ((S.2.1 0).2 11) else (if p1 = (12 : Int32) then some S.2.2 else some (-1 : Int32))))))))))))))
set_option maxHeartbeats 4000000 in
set_option maxRecDepth 100000 in
theorem kX5_told (l : Launch) (D : va_G) (cI cS : ClassId) (aR : Nat → Nat) (p1 : Int32) (S : RS) {q : Int32} (h : fX5_told p1 S = some q) : Mc l D (tyL cI cS) false yX5_told cX5_told 2 (some .int) 3 [.ref (aR 0), .int p1] (wR cI cS aR S) (some (.int q)) (wR cI cS aR S) := by
  refine Mc_of RX5 (by decide +kernel) rfl wc_X5_told (Nat.le_of_ble_eq_true rfl) ?_
  intro p e s m args below meth c A Q ls C hA hz hP hD hS hl RET
  have RETh : ∀ {pc : Nat} {ls : Array Slot} {H : Heap} {locs : List Loc} {x : Int32} , decode cX5_told pc = .ok (.ireturn, 1) → some x = some q → va_P D vwCl (wR cI cS aR S) H → va_D A (wR cI cS aR S) → va_S A s.heap H locs → W p l e (rmL 3) s m args below meth c H locs 0 0 Q (F0 m pc ls [.int x]) := by
    intro pc ls H locs x hd h hP hD hS; cases h; exact RET (x_iret C hd) hP hD hS
  refine x_iload_n C dX5_told_0 rfl hl 1 rfl ?_
  rcases x_ifc h with ⟨hc, h⟩ | ⟨hc0, h⟩
  · refine x_tabIn (tgt := 68) C dX5_told_1 (by rw [hc]; decide) (by rw [hc]; decide) (by rw [hc]; rfl) (by decide) ?_
    refine x_aload_n C dX5_told_68 rfl hl 0 rfl ?_
    refine x_get C inX5 hP 0 rfl rfl 0 (by decide) wf_X5_10 rfl dX5_told_69 ?_
    refine x_get C inX2 hP 2 rfl rfl 12 (by decide) wf_X5_72 rfl dX5_told_72 ?_
    exact RETh dX5_told_75 h hP hD hS
  ·
    rcases x_ifc h with ⟨hc, h⟩ | ⟨hc1, h⟩
    · refine x_tabIn (tgt := 76) C dX5_told_1 (by rw [hc]; decide) (by rw [hc]; decide) (by rw [hc]; rfl) (by decide) ?_
      refine x_aload_n C dX5_told_76 rfl hl 0 rfl ?_
      refine x_get C inX5 hP 0 rfl rfl 0 (by decide) wf_X5_10 rfl dX5_told_77 ?_
      refine x_get C inX2 hP 2 rfl rfl 5 (by decide) wf_X5_90 rfl dX5_told_80 ?_
      refine x_callV (As := []) (n := 0) C (Mc.toR0 (X := S) (i := 0) (kS_size l D cI cS (S.1 0) _ 5 (by decide)) cS aR (by decide)) (fun hh => nomatch hh) wm_X5_93 wi_X3_size we_X3_size wz_X3 wc_X3_size (by decide +kernel) rfl hP hD hS hA 13 1 rfl rfl rfl hl.1 dX5_told_83 rfl (Nat.le_of_ble_eq_true rfl) ⟨Nat.le_of_ble_eq_true rfl, Nat.le_of_ble_eq_true rfl⟩ ⟨Nat.zero_le _, Nat.zero_le _⟩ (fun H locs hP hD hS => ?_)
      exact RETh dX5_told_86 h hP hD hS
    ·
      rcases x_ifc h with ⟨hc, h⟩ | ⟨hc2, h⟩
      · refine x_tabIn (tgt := 87) C dX5_told_1 (by rw [hc]; decide) (by rw [hc]; decide) (by rw [hc]; rfl) (by decide) ?_
        refine x_aload_n C dX5_told_87 rfl hl 0 rfl ?_
        refine x_get C inX5 hP 0 rfl rfl 0 (by decide) wf_X5_10 rfl dX5_told_88 ?_
        refine x_get C inX2 hP 2 rfl rfl 5 (by decide) wf_X5_90 rfl dX5_told_91 ?_
        refine x_iconst (v := (4 : Int32)) C dX5_told_94 (by decide) ?_
        refine x_iconst (v := (1 : Int32)) C dX5_told_95 (by decide) ?_
        refine x_callV (As := [.int _, .int _]) (n := 2) C (Mc.toR0 (X := S) (i := 0) (kS_rowsWith l D cI cS (S.1 0) _ 5 (by decide) _ _) cS aR (by decide)) (fun hh => nomatch hh) wm_X5_97 wi_X3_rowsWith we_X3_rowsWith wz_X3 wc_X3_rowsWith (by decide +kernel) rfl hP hD hS hA 13 1 rfl rfl rfl hl.1 dX5_told_96 rfl (Nat.le_of_ble_eq_true rfl) ⟨Nat.le_of_ble_eq_true rfl, Nat.le_of_ble_eq_true rfl⟩ ⟨Nat.zero_le _, Nat.zero_le _⟩ (fun H locs hP hD hS => ?_)
        exact RETh dX5_told_99 h hP hD hS
      ·
        rcases x_ifc h with ⟨hc, h⟩ | ⟨hc3, h⟩
        · refine x_tabIn (tgt := 100) C dX5_told_1 (by rw [hc]; decide) (by rw [hc]; decide) (by rw [hc]; rfl) (by decide) ?_
          refine x_aload_n C dX5_told_100 rfl hl 0 rfl ?_
          refine x_get C inX5 hP 0 rfl rfl 0 (by decide) wf_X5_10 rfl dX5_told_101 ?_
          refine x_get C inX2 hP 2 rfl rfl 6 (by decide) wf_X5_100 rfl dX5_told_104 ?_
          refine x_callV (As := []) (n := 0) C (Mc.toR0 (X := S) (i := 0) (kS_size l D cI cS (S.1 0) _ 6 (by decide)) cS aR (by decide)) (fun hh => nomatch hh) wm_X5_93 wi_X3_size we_X3_size wz_X3 wc_X3_size (by decide +kernel) rfl hP hD hS hA 15 1 rfl rfl rfl hl.1 dX5_told_107 rfl (Nat.le_of_ble_eq_true rfl) ⟨Nat.le_of_ble_eq_true rfl, Nat.le_of_ble_eq_true rfl⟩ ⟨Nat.zero_le _, Nat.zero_le _⟩ (fun H locs hP hD hS => ?_)
          exact RETh dX5_told_110 h hP hD hS
        ·
          rcases x_ifc h with ⟨hc, h⟩ | ⟨hc4, h⟩
          · refine x_tabIn (tgt := 111) C dX5_told_1 (by rw [hc]; decide) (by rw [hc]; decide) (by rw [hc]; rfl) (by decide) ?_
            refine x_aload_n C dX5_told_111 rfl hl 0 rfl ?_
            refine x_get C inX5 hP 0 rfl rfl 0 (by decide) wf_X5_10 rfl dX5_told_112 ?_
            refine x_get C inX2 hP 2 rfl rfl 8 (by decide) wf_X5_103 rfl dX5_told_115 ?_
            refine x_callV (As := []) (n := 0) C (Mc.toR0 (X := S) (i := 0) (kS_size l D cI cS (S.1 0) _ 8 (by decide)) cS aR (by decide)) (fun hh => nomatch hh) wm_X5_93 wi_X3_size we_X3_size wz_X3 wc_X3_size (by decide +kernel) rfl hP hD hS hA 19 1 rfl rfl rfl hl.1 dX5_told_118 rfl (Nat.le_of_ble_eq_true rfl) ⟨Nat.le_of_ble_eq_true rfl, Nat.le_of_ble_eq_true rfl⟩ ⟨Nat.zero_le _, Nat.zero_le _⟩ (fun H locs hP hD hS => ?_)
            exact RETh dX5_told_121 h hP hD hS
          ·
            rcases x_ifc h with ⟨hc, h⟩ | ⟨hc5, h⟩
            · refine x_tabIn (tgt := 122) C dX5_told_1 (by rw [hc]; decide) (by rw [hc]; decide) (by rw [hc]; rfl) (by decide) ?_
              refine x_iconst (v := (4 : Int32)) C dX5_told_122 (by decide) ?_
              refine x_aload_n C dX5_told_123 rfl hl 0 rfl ?_
              refine x_get C inX5 hP 0 rfl rfl 0 (by decide) wf_X5_10 rfl dX5_told_124 ?_
              refine x_get C inX2 hP 2 rfl rfl 7 (by decide) wf_X5_106 rfl dX5_told_127 ?_
              refine x_iconst (v := (0 : Int32)) C dX5_told_130 (by decide) ?_
              refine x_bipush (v := (-9 : Int32)) C dX5_told_131 (by decide) ?_
              refine x_callV (As := [.int _, .int _]) (n := 2) C (Mc.toR0 (X := S) (i := 0) (kS_rowsWith l D cI cS (S.1 0) _ 7 (by decide) _ _) cS aR (by decide)) (fun hh => nomatch hh) wm_X5_97 wi_X3_rowsWith we_X3_rowsWith wz_X3 wc_X3_rowsWith (by decide +kernel) rfl hP hD hS hA 17 1 rfl rfl rfl hl.1 dX5_told_133 rfl (Nat.le_of_ble_eq_true rfl) ⟨Nat.le_of_ble_eq_true rfl, Nat.le_of_ble_eq_true rfl⟩ ⟨Nat.zero_le _, Nat.zero_le _⟩ (fun H locs hP hD hS => ?_)
              refine x_isub C dX5_told_136 ?_
              exact RETh dX5_told_137 h hP hD hS
            ·
              rcases x_ifc h with ⟨hc, h⟩ | ⟨hc6, h⟩
              · refine x_tabIn (tgt := 138) C dX5_told_1 (by rw [hc]; decide) (by rw [hc]; decide) (by rw [hc]; rfl) (by decide) ?_
                refine x_iconst (v := (4 : Int32)) C dX5_told_138 (by decide) ?_
                refine x_aload_n C dX5_told_139 rfl hl 0 rfl ?_
                refine x_get C inX5 hP 0 rfl rfl 0 (by decide) wf_X5_10 rfl dX5_told_140 ?_
                refine x_get C inX2 hP 2 rfl rfl 9 (by decide) wf_X5_109 rfl dX5_told_143 ?_
                refine x_iconst (v := (0 : Int32)) C dX5_told_146 (by decide) ?_
                refine x_bipush (v := (-9 : Int32)) C dX5_told_147 (by decide) ?_
                refine x_callV (As := [.int _, .int _]) (n := 2) C (Mc.toR0 (X := S) (i := 0) (kS_rowsWith l D cI cS (S.1 0) _ 9 (by decide) _ _) cS aR (by decide)) (fun hh => nomatch hh) wm_X5_97 wi_X3_rowsWith we_X3_rowsWith wz_X3 wc_X3_rowsWith (by decide +kernel) rfl hP hD hS hA 21 1 rfl rfl rfl hl.1 dX5_told_149 rfl (Nat.le_of_ble_eq_true rfl) ⟨Nat.le_of_ble_eq_true rfl, Nat.le_of_ble_eq_true rfl⟩ ⟨Nat.zero_le _, Nat.zero_le _⟩ (fun H locs hP hD hS => ?_)
                refine x_isub C dX5_told_152 ?_
                exact RETh dX5_told_153 h hP hD hS
              ·
                rcases x_ifc h with ⟨hc, h⟩ | ⟨hc7, h⟩
                · refine x_tabIn (tgt := 154) C dX5_told_1 (by rw [hc]; decide) (by rw [hc]; decide) (by rw [hc]; rfl) (by decide) ?_
                  refine x_aload_n C dX5_told_154 rfl hl 0 rfl ?_
                  refine x_get C inX5 hP 0 rfl rfl 0 (by decide) wf_X5_10 rfl dX5_told_155 ?_
                  refine x_get C inX2 hP 2 rfl rfl 15 (by decide) wf_X5_112 rfl dX5_told_158 ?_
                  exact RETh dX5_told_161 h hP hD hS
                ·
                  rcases x_ifc h with ⟨hc, h⟩ | ⟨hc8, h⟩
                  · refine x_tabIn (tgt := 162) C dX5_told_1 (by rw [hc]; decide) (by rw [hc]; decide) (by rw [hc]; rfl) (by decide) ?_
                    refine x_aload_n C dX5_told_162 rfl hl 0 rfl ?_
                    refine x_get C inX5 hP 0 rfl rfl 0 (by decide) wf_X5_10 rfl dX5_told_163 ?_
                    refine x_get C inX2 hP 2 rfl rfl 16 (by decide) wf_X5_115 rfl dX5_told_166 ?_
                    exact RETh dX5_told_169 h hP hD hS
                  ·
                    rcases x_ifc h with ⟨hc, h⟩ | ⟨hc9, h⟩
                    · refine x_tabIn (tgt := 170) C dX5_told_1 (by rw [hc]; decide) (by rw [hc]; decide) (by rw [hc]; rfl) (by decide) ?_
                      refine x_aload_n C dX5_told_170 rfl hl 0 rfl ?_
                      refine x_get C inX5 hP 0 rfl rfl 0 (by decide) wf_X5_10 rfl dX5_told_171 ?_
                      obtain ⟨u2, hu2, h⟩ := ob_some h
                      refine x_callV (As := []) (n := 0) C (Mc.toR0 (X := S) (i := 0) (kX2_pendingWork l D cI cS (S.1 0) _ hu2) cS aR (by decide)) (fun hh => nomatch hh) wm_X5_118 wi_X2_pendingWork we_X2_pendingWork wz_X2 wc_X2_pendingWork (by decide +kernel) rfl hP hD hS hA 2 0 rfl rfl rfl hl.1 dX5_told_174 rfl (Nat.le_of_ble_eq_true rfl) ⟨Nat.le_of_ble_eq_true rfl, Nat.le_of_ble_eq_true rfl⟩ ⟨Nat.zero_le _, Nat.zero_le _⟩ (fun H locs hP hD hS => ?_)
                      exact RETh dX5_told_177 h hP hD hS
                    ·
                      rcases x_ifc h with ⟨hc, h⟩ | ⟨hc10, h⟩
                      · refine x_tabIn (tgt := 178) C dX5_told_1 (by rw [hc]; decide) (by rw [hc]; decide) (by rw [hc]; rfl) (by decide) ?_
                        refine x_aload_n C dX5_told_178 rfl hl 0 rfl ?_
                        refine x_get C inX5 hP 0 rfl rfl 0 (by decide) wf_X5_10 rfl dX5_told_179 ?_
                        refine x_get C inX2 hP 2 rfl rfl 17 (by decide) wf_X5_121 rfl dX5_told_182 ?_
                        exact RETh dX5_told_185 h hP hD hS
                      ·
                        rcases x_ifc h with ⟨hc, h⟩ | ⟨hc11, h⟩
                        · refine x_tabIn (tgt := 186) C dX5_told_1 (by rw [hc]; decide) (by rw [hc]; decide) (by rw [hc]; rfl) (by decide) ?_
                          refine x_aload_n C dX5_told_186 rfl hl 0 rfl ?_
                          refine x_get C inX5 hP 0 rfl rfl 0 (by decide) wf_X5_10 rfl dX5_told_187 ?_
                          refine x_get C inX2 hP 2 rfl rfl 11 (by decide) wf_X5_65 rfl dX5_told_190 ?_
                          exact RETh dX5_told_193 h hP hD hS
                        ·
                          rcases x_ifc h with ⟨hc, h⟩ | ⟨hc12, h⟩
                          · refine x_tabIn (tgt := 194) C dX5_told_1 (by rw [hc]; decide) (by rw [hc]; decide) (by rw [hc]; rfl) (by decide) ?_
                            refine x_aload_n C dX5_told_194 rfl hl 0 rfl ?_
                            refine x_get C inX5 hP 0 rfl rfl 3 (by decide) wf_X5_124 rfl dX5_told_195 ?_
                            exact RETh dX5_told_198 h hP hD hS
                          · refine x_switch (tgt := 199) C dX5_told_1 (x_tabO0_12 hc0 hc1 hc2 hc3 hc4 hc5 hc6 hc7 hc8 hc9 hc10 hc11 hc12) (by decide) ?_
                            refine x_iconst (v := (-1 : Int32)) C dX5_told_199 (by decide) ?_
                            exact RETh dX5_told_200 h hP hD hS
theorem dX5_digest_0 : decode cX5_digest 0 = .ok (.ldc2_w 149, 3) := by decide +kernel
theorem dX5_digest_3 : decode cX5_digest 3 = .ok (.lstore_n 1, 1) := by decide +kernel
theorem dX5_digest_4 : decode cX5_digest 4 = .ok (.iconst 0, 1) := by decide +kernel
theorem dX5_digest_5 : decode cX5_digest 5 = .ok (.istore_n 3, 1) := by decide +kernel
theorem dX5_digest_6 : decode cX5_digest 6 = .ok (.iload_n 3, 1) := by decide +kernel
theorem dX5_digest_7 : decode cX5_digest 7 = .ok (.bipush 12, 2) := by decide +kernel
theorem dX5_digest_9 : decode cX5_digest 9 = .ok (.if_icmp .gt 22, 3) := by decide +kernel
theorem dX5_digest_12 : decode cX5_digest 12 = .ok (.ldc2_w 151, 3) := by decide +kernel
theorem dX5_digest_15 : decode cX5_digest 15 = .ok (.lload_n 1, 1) := by decide +kernel
theorem dX5_digest_16 : decode cX5_digest 16 = .ok (.lmul, 1) := by decide +kernel
theorem dX5_digest_17 : decode cX5_digest 17 = .ok (.aload_n 0, 1) := by decide +kernel
theorem dX5_digest_18 : decode cX5_digest 18 = .ok (.iload_n 3, 1) := by decide +kernel
theorem dX5_digest_19 : decode cX5_digest 19 = .ok (.invokevirtual 153, 3) := by decide +kernel
theorem dX5_digest_22 : decode cX5_digest 22 = .ok (.i2l, 1) := by decide +kernel
theorem dX5_digest_23 : decode cX5_digest 23 = .ok (.ladd, 1) := by decide +kernel
theorem dX5_digest_24 : decode cX5_digest 24 = .ok (.lstore_n 1, 1) := by decide +kernel
theorem dX5_digest_25 : decode cX5_digest 25 = .ok (.iinc 3 1, 3) := by decide +kernel
theorem dX5_digest_28 : decode cX5_digest 28 = .ok (.goto (-22), 3) := by decide +kernel
theorem dX5_digest_31 : decode cX5_digest 31 = .ok (.aload_n 0, 1) := by decide +kernel
theorem dX5_digest_32 : decode cX5_digest 32 = .ok (.lload_n 1, 1) := by decide +kernel
theorem dX5_digest_33 : decode cX5_digest 33 = .ok (.invokevirtual 156, 3) := by decide +kernel
theorem dX5_digest_36 : decode cX5_digest 36 = .ok (.lstore_n 1, 1) := by decide +kernel
theorem dX5_digest_37 : decode cX5_digest 37 = .ok (.iconst 0, 1) := by decide +kernel
theorem dX5_digest_38 : decode cX5_digest 38 = .ok (.istore_n 3, 1) := by decide +kernel
theorem dX5_digest_39 : decode cX5_digest 39 = .ok (.iload_n 3, 1) := by decide +kernel
theorem dX5_digest_40 : decode cX5_digest 40 = .ok (.aload_n 0, 1) := by decide +kernel
theorem dX5_digest_41 : decode cX5_digest 41 = .ok (.getfield 10, 3) := by decide +kernel
theorem dX5_digest_44 : decode cX5_digest 44 = .ok (.getfield 90, 3) := by decide +kernel
theorem dX5_digest_47 : decode cX5_digest 47 = .ok (.invokevirtual 93, 3) := by decide +kernel
theorem dX5_digest_50 : decode cX5_digest 50 = .ok (.if_icmp .ge 57, 3) := by decide +kernel
theorem dX5_digest_53 : decode cX5_digest 53 = .ok (.aload_n 0, 1) := by decide +kernel
theorem dX5_digest_54 : decode cX5_digest 54 = .ok (.iload_n 3, 1) := by decide +kernel
theorem dX5_digest_55 : decode cX5_digest 55 = .ok (.invokevirtual 160, 3) := by decide +kernel
theorem dX5_digest_58 : decode cX5_digest 58 = .ok (.istore 4, 2) := by decide +kernel
theorem dX5_digest_60 : decode cX5_digest 60 = .ok (.ldc2_w 151, 3) := by decide +kernel
theorem dX5_digest_63 : decode cX5_digest 63 = .ok (.lload_n 1, 1) := by decide +kernel
theorem dX5_digest_64 : decode cX5_digest 64 = .ok (.lmul, 1) := by decide +kernel
theorem dX5_digest_65 : decode cX5_digest 65 = .ok (.iload 4, 2) := by decide +kernel
theorem dX5_digest_67 : decode cX5_digest 67 = .ok (.i2l, 1) := by decide +kernel
theorem dX5_digest_68 : decode cX5_digest 68 = .ok (.ladd, 1) := by decide +kernel
theorem dX5_digest_69 : decode cX5_digest 69 = .ok (.lstore_n 1, 1) := by decide +kernel
theorem dX5_digest_70 : decode cX5_digest 70 = .ok (.iconst 0, 1) := by decide +kernel
theorem dX5_digest_71 : decode cX5_digest 71 = .ok (.istore 5, 2) := by decide +kernel
theorem dX5_digest_73 : decode cX5_digest 73 = .ok (.iload 5, 2) := by decide +kernel
theorem dX5_digest_75 : decode cX5_digest 75 = .ok (.iconst 4, 1) := by decide +kernel
theorem dX5_digest_76 : decode cX5_digest 76 = .ok (.if_icmp .gt 25, 3) := by decide +kernel
theorem dX5_digest_79 : decode cX5_digest 79 = .ok (.ldc2_w 151, 3) := by decide +kernel
theorem dX5_digest_82 : decode cX5_digest 82 = .ok (.lload_n 1, 1) := by decide +kernel
theorem dX5_digest_83 : decode cX5_digest 83 = .ok (.lmul, 1) := by decide +kernel
theorem dX5_digest_84 : decode cX5_digest 84 = .ok (.aload_n 0, 1) := by decide +kernel
theorem dX5_digest_85 : decode cX5_digest 85 = .ok (.iload 4, 2) := by decide +kernel
theorem dX5_digest_87 : decode cX5_digest 87 = .ok (.iload 5, 2) := by decide +kernel
theorem dX5_digest_89 : decode cX5_digest 89 = .ok (.invokevirtual 163, 3) := by decide +kernel
theorem dX5_digest_92 : decode cX5_digest 92 = .ok (.i2l, 1) := by decide +kernel
theorem dX5_digest_93 : decode cX5_digest 93 = .ok (.ladd, 1) := by decide +kernel
theorem dX5_digest_94 : decode cX5_digest 94 = .ok (.lstore_n 1, 1) := by decide +kernel
theorem dX5_digest_95 : decode cX5_digest 95 = .ok (.iinc 5 1, 3) := by decide +kernel
theorem dX5_digest_98 : decode cX5_digest 98 = .ok (.goto (-25), 3) := by decide +kernel
theorem dX5_digest_101 : decode cX5_digest 101 = .ok (.iinc 3 1, 3) := by decide +kernel
theorem dX5_digest_104 : decode cX5_digest 104 = .ok (.goto (-65), 3) := by decide +kernel
theorem dX5_digest_107 : decode cX5_digest 107 = .ok (.aload_n 0, 1) := by decide +kernel
theorem dX5_digest_108 : decode cX5_digest 108 = .ok (.lload_n 1, 1) := by decide +kernel
theorem dX5_digest_109 : decode cX5_digest 109 = .ok (.aload_n 0, 1) := by decide +kernel
theorem dX5_digest_110 : decode cX5_digest 110 = .ok (.getfield 10, 3) := by decide +kernel
theorem dX5_digest_113 : decode cX5_digest 113 = .ok (.getfield 100, 3) := by decide +kernel
theorem dX5_digest_116 : decode cX5_digest 116 = .ok (.invokevirtual 93, 3) := by decide +kernel
theorem dX5_digest_119 : decode cX5_digest 119 = .ok (.aload_n 0, 1) := by decide +kernel
theorem dX5_digest_120 : decode cX5_digest 120 = .ok (.getfield 10, 3) := by decide +kernel
theorem dX5_digest_123 : decode cX5_digest 123 = .ok (.getfield 103, 3) := by decide +kernel
theorem dX5_digest_126 : decode cX5_digest 126 = .ok (.invokevirtual 93, 3) := by decide +kernel
theorem dX5_digest_129 : decode cX5_digest 129 = .ok (.invokevirtual 166, 3) := by decide +kernel
theorem dX5_digest_132 : decode cX5_digest 132 = .ok (.lstore_n 1, 1) := by decide +kernel
theorem dX5_digest_133 : decode cX5_digest 133 = .ok (.ldc2_w 151, 3) := by decide +kernel
theorem dX5_digest_136 : decode cX5_digest 136 = .ok (.lload_n 1, 1) := by decide +kernel
theorem dX5_digest_137 : decode cX5_digest 137 = .ok (.lmul, 1) := by decide +kernel
theorem dX5_digest_138 : decode cX5_digest 138 = .ok (.aload_n 0, 1) := by decide +kernel
theorem dX5_digest_139 : decode cX5_digest 139 = .ok (.invokevirtual 170, 3) := by decide +kernel
theorem dX5_digest_142 : decode cX5_digest 142 = .ok (.i2l, 1) := by decide +kernel
theorem dX5_digest_143 : decode cX5_digest 143 = .ok (.ladd, 1) := by decide +kernel
theorem dX5_digest_144 : decode cX5_digest 144 = .ok (.lreturn, 1) := by decide +kernel
def bfX5_digest_73 (S : RS) (K39 : Int64 × Int32 → Option (Int64)) (K73 : Int64 × Int32 × Int32 × Int32 → Option (Int64)) (x : Int64 × Int32 × Int32 × Int32) : Option (Int64) :=
  match x with
  | (x1, x3, x4, x5) => (if (4 : Int32) < x5 then K39 (x1, (x3 + (1 : Int32))) else ob (fX5_request x4 x5 S) fun u10 => nm ((((31 : Int64) * x1) + (u10).toInt64)) fun v11 => K73 (v11, x3, x4, (x5 + (1 : Int32))))
def bfX5_digest_39 (S : RS) (K39 : Int64 × Int32 → Option (Int64)) (x : Int64 × Int32) : Option (Int64) :=
  match x with
  | (x1, x3) => (if (ssize 5 (S.2.1 0)) ≤ x3 then ob (fX5_hashOfServer x1 ((ssize 6 (S.2.1 0))) ((ssize 8 (S.2.1 0))) S) fun u12 => ob (fX5_amplification S) fun u13 => some (((31 : Int64) * u12) + (u13).toInt64) else ob (fX5_live x3 S) fun u14 => nm ((((31 : Int64) * x1) + (u14).toInt64)) fun v15 => iter (bfX5_digest_73 S K39) FU (v15, x3, u14, (0 : Int32)))
def bfX5_digest_6 (S : RS) (K6 : Int64 × Int32 → Option (Int64)) (x : Int64 × Int32) : Option (Int64) :=
  match x with
  | (x1, x3) => (if (12 : Int32) < x3 then ob (fX5_hashOfClients x1 S) fun u16 => iter (bfX5_digest_39 S) FU (u16, (0 : Int32)) else ob (fX5_told x3 S) fun u17 => nm ((((31 : Int64) * x1) + (u17).toInt64)) fun v18 => K6 (v18, (x3 + (1 : Int32))))
def fX5_digest (S : RS) : Option (Int64) :=
  iter (bfX5_digest_6 S) FU ((18520 : Int64), (0 : Int32))
set_option maxHeartbeats 4000000 in
set_option maxRecDepth 100000 in
theorem kX5_digest (l : Launch) (D : va_G) (cI cS : ClassId) (aR : Nat → Nat) (S : RS) {q : Int64} (h : fX5_digest S = some q) : Mc l D (tyL cI cS) true yX5_digest cX5_digest 6 (some .long) 5 [.ref (aR 0)] (wR cI cS aR S) (some (.long q)) (wR cI cS aR S) := by
  refine Mc_of RX5 (by decide +kernel) rfl wc_X5_digest (Nat.le_of_ble_eq_true rfl) ?_
  intro p e s m args below meth c A Q ls C hA hz hP hD hS hl RET
  obtain ⟨⟨aL, hL1, hL2⟩, ⟨aM, hM1, hM2⟩, -⟩ := hz rfl
  have RETh : ∀ {pc : Nat} {ls : Array Slot} {H : Heap} {locs : List Loc} {x : Int64} , decode cX5_digest pc = .ok (.lreturn, 1) → some x = some q → va_P D vwCl (wR cI cS aR S) H → va_D A (wR cI cS aR S) → va_S A s.heap H locs → W p l e (rmL 5) s m args below meth c H locs 0 0 Q (F0 m pc ls [.long x]) := by
    intro pc ls H locs x hd h hP hD hS; cases h; exact RET (x_lret C hd) hP hD hS
  have B73 : ∀ (K39 : Int64 × Int32 → Option (Int64)) (ih39 : ∀ x, K39 x = some q → (match x with | (x1, x3) => ∀ (H : Heap) (locs : List Loc) (ls : Array Slot), va_P D vwCl (wR cI cS aR S) H → va_D A (wR cI cS aR S) → va_S A s.heap H locs → lv_has ls 6 [(0, .ref (aR 0)), (1, .long x1), (3, .int x3)] → W p l e (rmL 5) s m args below meth c H locs 0 0 Q (F0 m 39 ls []))) (n : Nat) (x : Int64 × Int32 × Int32 × Int32), iter (bfX5_digest_73 S K39) n x = some q → (match x with | (x1, x3, x4, x5) => ∀ (H : Heap) (locs : List Loc) (ls : Array Slot), va_P D vwCl (wR cI cS aR S) H → va_D A (wR cI cS aR S) → va_S A s.heap H locs → lv_has ls 6 [(0, .ref (aR 0)), (1, .long x1), (3, .int x3), (4, .int x4), (5, .int x5)] → W p l e (rmL 5) s m args below meth c H locs 0 0 Q (F0 m 73 ls [])) := by
    intro K39 ih39
    refine iter_ind (fun x : Int64 × Int32 × Int32 × Int32 => (match x with | (x1, x3, x4, x5) => ∀ (H : Heap) (locs : List Loc) (ls : Array Slot), va_P D vwCl (wR cI cS aR S) H → va_D A (wR cI cS aR S) → va_S A s.heap H locs → lv_has ls 6 [(0, .ref (aR 0)), (1, .long x1), (3, .int x3), (4, .int x4), (5, .int x5)] → W p l e (rmL 5) s m args below meth c H locs 0 0 Q (F0 m 73 ls []))) ?_
    intro K73 ih73 x h
    obtain ⟨x1, x3, x4, x5⟩ := x
    intro H locs ls hP hD hS hl
    refine x_iload C dX5_digest_73 hl 4 rfl ?_
    refine x_iconst (v := (4 : Int32)) C dX5_digest_75 (by decide) ?_
    refine x_icmp_gt (tgt := 101) C h dX5_digest_76 (by decide) (fun h => ?_) (fun h => ?_)
    · refine x_iinc (v := (x3 + (1 : Int32))) (lv' := [(3, .int (x3 + (1 : Int32))), (0, .ref (aR 0)), (1, .long x1), (4, .int x4), (5, .int x5)]) C dX5_digest_101 hl (k := 2) rfl rfl (by decide) rfl (fun ls hl => ?_)
      refine x_goto (tgt := 39) C dX5_digest_104 (by decide) ?_
      exact ih39 _ h _ _ _ hP hD hS (lv_sub hl [1, 2, 0] rfl)
    · refine x_ldc2 C wq_X5_151 dX5_digest_79 ?_
      refine x_lload_n C dX5_digest_82 rfl hl 1 rfl ?_
      refine x_lmul C dX5_digest_83 ?_
      refine x_aload_n C dX5_digest_84 rfl hl 0 rfl ?_
      refine x_iload C dX5_digest_85 hl 3 rfl ?_
      refine x_iload C dX5_digest_87 hl 4 rfl ?_
      obtain ⟨u10, hu10, h⟩ := ob_some h
      refine x_callV (As := [.int _, .int _]) (n := 2) C (kX5_request l D cI cS aR _ _ _ hu10) (fun hh => nomatch hh) wm_X5_163 wi_X5_request we_X5_request wz_X5 wc_X5_request (by decide +kernel) rfl hP hD hS hA 0 2 rfl rfl rfl hl.1 dX5_digest_89 rfl (Nat.le_of_ble_eq_true rfl) ⟨Nat.le_of_ble_eq_true rfl, Nat.le_of_ble_eq_true rfl⟩ ⟨Nat.zero_le _, Nat.zero_le _⟩ (fun H locs hP hD hS => ?_)
      refine x_i2l C dX5_digest_92 ?_
      refine x_ladd C dX5_digest_93 ?_
      refine x_nml h (fun v11 h => ?_)
      refine x_lstore_n (lv' := [(1, .long v11), (0, .ref (aR 0)), (3, .int x3), (4, .int x4), (5, .int x5)]) C dX5_digest_94 rfl hl (by decide) rfl (fun ls hl => ?_)
      refine x_iinc (v := (x5 + (1 : Int32))) (lv' := [(5, .int (x5 + (1 : Int32))), (1, .long v11), (0, .ref (aR 0)), (3, .int x3), (4, .int x4)]) C dX5_digest_95 hl (k := 4) rfl rfl (by decide) rfl (fun ls hl => ?_)
      refine x_goto (tgt := 73) C dX5_digest_98 (by decide) ?_
      exact ih73 _ h _ _ _ hP hD hS (lv_sub hl [2, 1, 3, 4, 0] rfl)
  have B39 : ∀ (n : Nat) (x : Int64 × Int32), iter (bfX5_digest_39 S) n x = some q → (match x with | (x1, x3) => ∀ (H : Heap) (locs : List Loc) (ls : Array Slot), va_P D vwCl (wR cI cS aR S) H → va_D A (wR cI cS aR S) → va_S A s.heap H locs → lv_has ls 6 [(0, .ref (aR 0)), (1, .long x1), (3, .int x3)] → W p l e (rmL 5) s m args below meth c H locs 0 0 Q (F0 m 39 ls [])) := by
    refine iter_ind (fun x : Int64 × Int32 => (match x with | (x1, x3) => ∀ (H : Heap) (locs : List Loc) (ls : Array Slot), va_P D vwCl (wR cI cS aR S) H → va_D A (wR cI cS aR S) → va_S A s.heap H locs → lv_has ls 6 [(0, .ref (aR 0)), (1, .long x1), (3, .int x3)] → W p l e (rmL 5) s m args below meth c H locs 0 0 Q (F0 m 39 ls []))) ?_
    intro K39 ih39 x h
    obtain ⟨x1, x3⟩ := x
    intro H locs ls hP hD hS hl
    refine x_iload_n C dX5_digest_39 rfl hl 2 rfl ?_
    refine x_aload_n C dX5_digest_40 rfl hl 0 rfl ?_
    refine x_get C inX5 hP 0 rfl rfl 0 (by decide) wf_X5_10 rfl dX5_digest_41 ?_
    refine x_get C inX2 hP 2 rfl rfl 5 (by decide) wf_X5_90 rfl dX5_digest_44 ?_
    refine x_callV (As := []) (n := 0) C (Mc.toR0 (X := S) (i := 0) (kS_size l D cI cS (S.1 0) _ 5 (by decide)) cS aR (by decide)) (fun hh => nomatch hh) wm_X5_93 wi_X3_size we_X3_size wz_X3 wc_X3_size (by decide +kernel) rfl hP hD hS hA 13 1 rfl rfl rfl hl.1 dX5_digest_47 rfl (Nat.le_of_ble_eq_true rfl) ⟨Nat.le_of_ble_eq_true rfl, Nat.le_of_ble_eq_true rfl⟩ ⟨Nat.zero_le _, Nat.zero_le _⟩ (fun H locs hP hD hS => ?_)
    refine x_icmp_ge (tgt := 107) C h dX5_digest_50 (by decide) (fun h => ?_) (fun h => ?_)
    · refine x_aload_n C dX5_digest_107 rfl hl 0 rfl ?_
      refine x_lload_n C dX5_digest_108 rfl hl 1 rfl ?_
      refine x_aload_n C dX5_digest_109 rfl hl 0 rfl ?_
      refine x_get C inX5 hP 0 rfl rfl 0 (by decide) wf_X5_10 rfl dX5_digest_110 ?_
      refine x_get C inX2 hP 2 rfl rfl 6 (by decide) wf_X5_100 rfl dX5_digest_113 ?_
      refine x_callV (As := []) (n := 0) C (Mc.toR0 (X := S) (i := 0) (kS_size l D cI cS (S.1 0) _ 6 (by decide)) cS aR (by decide)) (fun hh => nomatch hh) wm_X5_93 wi_X3_size we_X3_size wz_X3 wc_X3_size (by decide +kernel) rfl hP hD hS hA 15 1 rfl rfl rfl hl.1 dX5_digest_116 rfl (Nat.le_of_ble_eq_true rfl) ⟨Nat.le_of_ble_eq_true rfl, Nat.le_of_ble_eq_true rfl⟩ ⟨Nat.zero_le _, Nat.zero_le _⟩ (fun H locs hP hD hS => ?_)
      refine x_aload_n C dX5_digest_119 rfl hl 0 rfl ?_
      refine x_get C inX5 hP 0 rfl rfl 0 (by decide) wf_X5_10 rfl dX5_digest_120 ?_
      refine x_get C inX2 hP 2 rfl rfl 8 (by decide) wf_X5_103 rfl dX5_digest_123 ?_
      refine x_callV (As := []) (n := 0) C (Mc.toR0 (X := S) (i := 0) (kS_size l D cI cS (S.1 0) _ 8 (by decide)) cS aR (by decide)) (fun hh => nomatch hh) wm_X5_93 wi_X3_size we_X3_size wz_X3 wc_X3_size (by decide +kernel) rfl hP hD hS hA 19 1 rfl rfl rfl hl.1 dX5_digest_126 rfl (Nat.le_of_ble_eq_true rfl) ⟨Nat.le_of_ble_eq_true rfl, Nat.le_of_ble_eq_true rfl⟩ ⟨Nat.zero_le _, Nat.zero_le _⟩ (fun H locs hP hD hS => ?_)
      obtain ⟨u12, hu12, h⟩ := ob_some h
      refine x_callV (As := [.long _, .int _, .int _]) (n := 3) C (kX5_hashOfServer l D cI cS aR _ _ _ _ hu12) (fun hh => nomatch hh) wm_X5_166 wi_X5_hashOfServer we_X5_hashOfServer wz_X5 wc_X5_hashOfServer (by decide +kernel) rfl hP hD hS hA 0 2 rfl rfl rfl hl.1 dX5_digest_129 rfl (Nat.le_of_ble_eq_true rfl) ⟨Nat.le_of_ble_eq_true rfl, Nat.le_of_ble_eq_true rfl⟩ ⟨Nat.zero_le _, Nat.zero_le _⟩ (fun H locs hP hD hS => ?_)
      refine x_lstore_n (lv' := [(1, .long u12), (0, .ref (aR 0)), (3, .int x3)]) C dX5_digest_132 rfl hl (by decide) rfl (fun ls hl => ?_)
      refine x_ldc2 C wq_X5_151 dX5_digest_133 ?_
      refine x_lload_n C dX5_digest_136 rfl hl 0 rfl ?_
      refine x_lmul C dX5_digest_137 ?_
      refine x_aload_n C dX5_digest_138 rfl hl 1 rfl ?_
      obtain ⟨u13, hu13, h⟩ := ob_some h
      refine x_callV (As := []) (n := 0) C (kX5_amplification l D cI cS aR _ hu13) (fun hh => nomatch hh) wm_X5_170 wi_X5_amplification we_X5_amplification wz_X5 wc_X5_amplification (by decide +kernel) rfl hP hD hS hA 0 2 rfl rfl rfl hl.1 dX5_digest_139 rfl (Nat.le_of_ble_eq_true rfl) ⟨Nat.le_of_ble_eq_true rfl, Nat.le_of_ble_eq_true rfl⟩ ⟨Nat.zero_le _, Nat.zero_le _⟩ (fun H locs hP hD hS => ?_)
      refine x_i2l C dX5_digest_142 ?_
      refine x_ladd C dX5_digest_143 ?_
      exact RETh dX5_digest_144 h hP hD hS
    · refine x_aload_n C dX5_digest_53 rfl hl 0 rfl ?_
      refine x_iload_n C dX5_digest_54 rfl hl 2 rfl ?_
      obtain ⟨u14, hu14, h⟩ := ob_some h
      refine x_callV (As := [.int _]) (n := 1) C (kX5_live l D cI cS aR _ _ hu14) (fun hh => nomatch hh) wm_X5_160 wi_X5_live we_X5_live wz_X5 wc_X5_live (by decide +kernel) rfl hP hD hS hA 0 2 rfl rfl rfl hl.1 dX5_digest_55 rfl (Nat.le_of_ble_eq_true rfl) ⟨Nat.le_of_ble_eq_true rfl, Nat.le_of_ble_eq_true rfl⟩ ⟨Nat.zero_le _, Nat.zero_le _⟩ (fun H locs hP hD hS => ?_)
      refine x_istore (lv' := [(4, .int u14), (0, .ref (aR 0)), (1, .long x1), (3, .int x3)]) C dX5_digest_58 hl (by decide) rfl (fun ls hl => ?_)
      refine x_ldc2 C wq_X5_151 dX5_digest_60 ?_
      refine x_lload_n C dX5_digest_63 rfl hl 2 rfl ?_
      refine x_lmul C dX5_digest_64 ?_
      refine x_iload C dX5_digest_65 hl 0 rfl ?_
      refine x_i2l C dX5_digest_67 ?_
      refine x_ladd C dX5_digest_68 ?_
      refine x_nml h (fun v15 h => ?_)
      refine x_lstore_n (lv' := [(1, .long v15), (4, .int u14), (0, .ref (aR 0)), (3, .int x3)]) C dX5_digest_69 rfl hl (by decide) rfl (fun ls hl => ?_)
      refine x_iconst (v := (0 : Int32)) C dX5_digest_70 (by decide) ?_
      refine x_istore (lv' := [(5, .int (0 : Int32)), (1, .long v15), (4, .int u14), (0, .ref (aR 0)), (3, .int x3)]) C dX5_digest_71 hl (by decide) rfl (fun ls hl => ?_)
      exact B73 K39 ih39 FU _ h _ _ _ hP hD hS (lv_sub hl [3, 1, 4, 2, 0] rfl)
  have B6 : ∀ (n : Nat) (x : Int64 × Int32), iter (bfX5_digest_6 S) n x = some q → (match x with | (x1, x3) => ∀ (H : Heap) (locs : List Loc) (ls : Array Slot), va_P D vwCl (wR cI cS aR S) H → va_D A (wR cI cS aR S) → va_S A s.heap H locs → lv_has ls 6 [(0, .ref (aR 0)), (1, .long x1), (3, .int x3)] → W p l e (rmL 5) s m args below meth c H locs 0 0 Q (F0 m 6 ls [])) := by
    refine iter_ind (fun x : Int64 × Int32 => (match x with | (x1, x3) => ∀ (H : Heap) (locs : List Loc) (ls : Array Slot), va_P D vwCl (wR cI cS aR S) H → va_D A (wR cI cS aR S) → va_S A s.heap H locs → lv_has ls 6 [(0, .ref (aR 0)), (1, .long x1), (3, .int x3)] → W p l e (rmL 5) s m args below meth c H locs 0 0 Q (F0 m 6 ls []))) ?_
    intro K6 ih6 x h
    obtain ⟨x1, x3⟩ := x
    intro H locs ls hP hD hS hl
    refine x_iload_n C dX5_digest_6 rfl hl 2 rfl ?_
    refine x_bipush (v := (12 : Int32)) C dX5_digest_7 (by decide) ?_
    refine x_icmp_gt (tgt := 31) C h dX5_digest_9 (by decide) (fun h => ?_) (fun h => ?_)
    · refine x_aload_n C dX5_digest_31 rfl hl 0 rfl ?_
      refine x_lload_n C dX5_digest_32 rfl hl 1 rfl ?_
      obtain ⟨u16, hu16, h⟩ := ob_some h
      refine x_callV (As := [.long _]) (n := 1) C (kX5_hashOfClients l D cI cS aR _ _ hu16) hz wm_X5_156 wi_X5_hashOfClients we_X5_hashOfClients wz_X5 wc_X5_hashOfClients (by decide +kernel) rfl hP hD hS hA 0 2 rfl rfl rfl hl.1 dX5_digest_33 rfl (Nat.le_of_ble_eq_true rfl) ⟨Nat.le_of_ble_eq_true rfl, Nat.le_of_ble_eq_true rfl⟩ ⟨Nat.zero_le _, Nat.zero_le _⟩ (fun H locs hP hD hS => ?_)
      refine x_lstore_n (lv' := [(1, .long u16), (0, .ref (aR 0)), (3, .int x3)]) C dX5_digest_36 rfl hl (by decide) rfl (fun ls hl => ?_)
      refine x_iconst (v := (0 : Int32)) C dX5_digest_37 (by decide) ?_
      refine x_istore_n (lv' := [(3, .int (0 : Int32)), (1, .long u16), (0, .ref (aR 0))]) C dX5_digest_38 rfl hl (by decide) rfl (fun ls hl => ?_)
      exact B39 FU _ h _ _ _ hP hD hS (lv_sub hl [2, 1, 0] rfl)
    · refine x_ldc2 C wq_X5_151 dX5_digest_12 ?_
      refine x_lload_n C dX5_digest_15 rfl hl 1 rfl ?_
      refine x_lmul C dX5_digest_16 ?_
      refine x_aload_n C dX5_digest_17 rfl hl 0 rfl ?_
      refine x_iload_n C dX5_digest_18 rfl hl 2 rfl ?_
      obtain ⟨u17, hu17, h⟩ := ob_some h
      refine x_callV (As := [.int _]) (n := 1) C (kX5_told l D cI cS aR _ _ hu17) (fun hh => nomatch hh) wm_X5_153 wi_X5_told we_X5_told wz_X5 wc_X5_told (by decide +kernel) rfl hP hD hS hA 0 2 rfl rfl rfl hl.1 dX5_digest_19 rfl (Nat.le_of_ble_eq_true rfl) ⟨Nat.le_of_ble_eq_true rfl, Nat.le_of_ble_eq_true rfl⟩ ⟨Nat.zero_le _, Nat.zero_le _⟩ (fun H locs hP hD hS => ?_)
      refine x_i2l C dX5_digest_22 ?_
      refine x_ladd C dX5_digest_23 ?_
      refine x_nml h (fun v18 h => ?_)
      refine x_lstore_n (lv' := [(1, .long v18), (0, .ref (aR 0)), (3, .int x3)]) C dX5_digest_24 rfl hl (by decide) rfl (fun ls hl => ?_)
      refine x_iinc (v := (x3 + (1 : Int32))) (lv' := [(3, .int (x3 + (1 : Int32))), (1, .long v18), (0, .ref (aR 0))]) C dX5_digest_25 hl (k := 2) rfl rfl (by decide) rfl (fun ls hl => ?_)
      refine x_goto (tgt := 6) C dX5_digest_28 (by decide) ?_
      exact ih6 _ h _ _ _ hP hD hS (lv_sub hl [2, 1, 0] rfl)
  refine x_ldc2 C wq_X5_149 dX5_digest_0 ?_
  refine x_lstore_n (lv' := [(1, .long (18520 : Int64)), (0, .ref (aR 0))]) C dX5_digest_3 rfl hl (by decide) rfl (fun ls hl => ?_)
  refine x_iconst (v := (0 : Int32)) C dX5_digest_4 (by decide) ?_
  refine x_istore_n (lv' := [(3, .int (0 : Int32)), (1, .long (18520 : Int64)), (0, .ref (aR 0))]) C dX5_digest_5 rfl hl (by decide) rfl (fun ls hl => ?_)
  exact B6 FU _ h _ _ _ hP hD hS (lv_sub hl [2, 1, 0] rfl)
