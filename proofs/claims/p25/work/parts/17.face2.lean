theorem dX5_ifRun_0 : decode cX5_ifRun 0 = .ok (.iload_n 1, 1) := by decide +kernel
theorem dX5_ifRun_1 : decode cX5_ifRun 1 = .ok (.iconst 1, 1) := by decide +kernel
theorem dX5_ifRun_2 : decode cX5_ifRun 2 = .ok (.if_icmp .lt 18, 3) := by decide +kernel
theorem dX5_ifRun_5 : decode cX5_ifRun 5 = .ok (.iload_n 1, 1) := by decide +kernel
theorem dX5_ifRun_6 : decode cX5_ifRun 6 = .ok (.bipush 60, 2) := by decide +kernel
theorem dX5_ifRun_8 : decode cX5_ifRun 8 = .ok (.if_icmp .gt 12, 3) := by decide +kernel
theorem dX5_ifRun_11 : decode cX5_ifRun 11 = .ok (.iload_n 2, 1) := by decide +kernel
theorem dX5_ifRun_12 : decode cX5_ifRun 12 = .ok (.ifCond .lt 8, 3) := by decide +kernel
theorem dX5_ifRun_15 : decode cX5_ifRun 15 = .ok (.iload_n 2, 1) := by decide +kernel
theorem dX5_ifRun_16 : decode cX5_ifRun 16 = .ok (.iconst 4, 1) := by decide +kernel
theorem dX5_ifRun_17 : decode cX5_ifRun 17 = .ok (.if_icmp .lt 5, 3) := by decide +kernel
theorem dX5_ifRun_20 : decode cX5_ifRun 20 = .ok (.iconst (-1), 1) := by decide +kernel
theorem dX5_ifRun_21 : decode cX5_ifRun 21 = .ok (.ireturn, 1) := by decide +kernel
theorem dX5_ifRun_22 : decode cX5_ifRun 22 = .ok (.aload_n 0, 1) := by decide +kernel
theorem dX5_ifRun_23 : decode cX5_ifRun 23 = .ok (.iload_n 1, 1) := by decide +kernel
theorem dX5_ifRun_24 : decode cX5_ifRun 24 = .ok (.iload_n 2, 1) := by decide +kernel
theorem dX5_ifRun_25 : decode cX5_ifRun 25 = .ok (.invokevirtual 87, 3) := by decide +kernel
theorem dX5_ifRun_28 : decode cX5_ifRun 28 = .ok (.ireturn, 1) := by decide +kernel
def bfX5_ifRun_20 (p1 : Int32) (p2 : Int32) (S : RS) : Option (Int32 × (RS)) :=
  some ((-1 : Int32), S)
def fX5_ifRun (p1 : Int32) (p2 : Int32) (S : RS) : Option (Int32 × (RS)) :=
  (if p1 < (1 : Int32) then bfX5_ifRun_20 p1 p2  S else (if (60 : Int32) < p1 then bfX5_ifRun_20 p1 p2  S else (if p2 < 0 then bfX5_ifRun_20 p1 p2  S else (if p2 < (4 : Int32) then ob (fX5_goodWorkWith p1 p2 S) fun u2 => some (u2.1, u2.2) else bfX5_ifRun_20 p1 p2  S))))
set_option maxHeartbeats 4000000 in
set_option maxRecDepth 100000 in
theorem kX5_ifRun (l : Launch) (D : va_G) (cI cS : ClassId) (aR : Nat → Nat) (p1 : Int32) (p2 : Int32) (S : RS) {q : Int32 × (RS)} (h : fX5_ifRun p1 p2 S = some q) : Mc l D (tyL cI cS) false yX5_ifRun cX5_ifRun 3 (some .int) 9 [.ref (aR 0), .int p1, .int p2] (wR cI cS aR S) (some (.int q.1)) (wR cI cS aR q.2) := by
  refine Mc_of RX5 (by decide +kernel) rfl wc_X5_ifRun (Nat.le_of_ble_eq_true rfl) ?_
  intro p e s m args below meth c A Q ls C hA hz hP hD hS hl RET
  have RETh : ∀ {pc : Nat} {ls : Array Slot} {H : Heap} {locs : List Loc} {x : Int32} {S1 : RS}, decode cX5_ifRun pc = .ok (.ireturn, 1) → some (x, S1) = some q → va_P D vwCl (wR cI cS aR S1) H → va_D A (wR cI cS aR S1) → va_S A s.heap H locs → W p l e (rmL 9) s m args below meth c H locs 0 0 Q (F0 m pc ls [.int x]) := by
    intro pc ls H locs x S1 hd h hP hD hS; cases h; exact RET (x_iret C hd) hP hD hS
  have B20 : ∀ (S : RS), bfX5_ifRun_20 p1 p2 S = some q → ∀ (H : Heap) (locs : List Loc) (ls : Array Slot), va_P D vwCl (wR cI cS aR S) H → va_D A (wR cI cS aR S) → va_S A s.heap H locs → lv_has ls 3 [] → W p l e (rmL 9) s m args below meth c H locs 0 0 Q (F0 m 20 ls []) := by
    intro S h H locs ls hP hD hS hl
    refine x_iconst (v := (-1 : Int32)) C dX5_ifRun_20 (by decide) ?_
    exact RETh dX5_ifRun_21 h hP hD hS
  refine x_iload_n C dX5_ifRun_0 rfl hl 1 rfl ?_
  refine x_iconst (v := (1 : Int32)) C dX5_ifRun_1 (by decide) ?_
  refine x_icmp_lt (tgt := 20) C h dX5_ifRun_2 (by decide) (fun h => ?_) (fun h => ?_)
  · exact B20 _ h _ _ _ hP hD hS (lv_sub hl [] rfl)
  · refine x_iload_n C dX5_ifRun_5 rfl hl 1 rfl ?_
    refine x_bipush (v := (60 : Int32)) C dX5_ifRun_6 (by decide) ?_
    refine x_icmp_gt (tgt := 20) C h dX5_ifRun_8 (by decide) (fun h => ?_) (fun h => ?_)
    · exact B20 _ h _ _ _ hP hD hS (lv_sub hl [] rfl)
    · refine x_iload_n C dX5_ifRun_11 rfl hl 2 rfl ?_
      refine x_if_lt (tgt := 20) C h dX5_ifRun_12 (by decide) (fun h => ?_) (fun h => ?_)
      · exact B20 _ h _ _ _ hP hD hS (lv_sub hl [] rfl)
      · refine x_iload_n C dX5_ifRun_15 rfl hl 2 rfl ?_
        refine x_iconst (v := (4 : Int32)) C dX5_ifRun_16 (by decide) ?_
        refine x_icmp_lt (tgt := 22) C h dX5_ifRun_17 (by decide) (fun h => ?_) (fun h => ?_)
        · refine x_aload_n C dX5_ifRun_22 rfl hl 0 rfl ?_
          refine x_iload_n C dX5_ifRun_23 rfl hl 1 rfl ?_
          refine x_iload_n C dX5_ifRun_24 rfl hl 2 rfl ?_
          obtain ⟨u2, hu2, h⟩ := ob_some h
          refine x_callV (As := [.int _, .int _]) (n := 2) C (kX5_goodWorkWith l D cI cS aR _ _ _ hu2) (fun hh => nomatch hh) wm_X5_87 wi_X5_goodWorkWith we_X5_goodWorkWith wz_X5 wc_X5_goodWorkWith (by decide +kernel) rfl hP hD hS hA 0 2 rfl rfl rfl hl.1 dX5_ifRun_25 rfl (Nat.le_of_ble_eq_true rfl) ⟨Nat.le_of_ble_eq_true rfl, Nat.le_of_ble_eq_true rfl⟩ ⟨Nat.zero_le _, Nat.zero_le _⟩ (fun H locs hP hD hS => ?_)
          exact RETh dX5_ifRun_28 h hP hD hS
        · exact B20 _ h _ _ _ hP hD hS (lv_sub hl [] rfl)
theorem dX5_isAnyTakenFrom_0 : decode cX5_isAnyTakenFrom 0 = .ok (.iload_n 1, 1) := by decide +kernel
theorem dX5_isAnyTakenFrom_1 : decode cX5_isAnyTakenFrom 1 = .ok (.istore_n 2, 1) := by decide +kernel
theorem dX5_isAnyTakenFrom_2 : decode cX5_isAnyTakenFrom 2 = .ok (.iload_n 2, 1) := by decide +kernel
theorem dX5_isAnyTakenFrom_3 : decode cX5_isAnyTakenFrom 3 = .ok (.iconst 4, 1) := by decide +kernel
theorem dX5_isAnyTakenFrom_4 : decode cX5_isAnyTakenFrom 4 = .ok (.if_icmp .ge 22, 3) := by decide +kernel
theorem dX5_isAnyTakenFrom_7 : decode cX5_isAnyTakenFrom 7 = .ok (.aload_n 0, 1) := by decide +kernel
theorem dX5_isAnyTakenFrom_8 : decode cX5_isAnyTakenFrom 8 = .ok (.iload_n 2, 1) := by decide +kernel
theorem dX5_isAnyTakenFrom_9 : decode cX5_isAnyTakenFrom 9 = .ok (.iconst 0, 1) := by decide +kernel
theorem dX5_isAnyTakenFrom_10 : decode cX5_isAnyTakenFrom 10 = .ok (.invokevirtual 41, 3) := by decide +kernel
theorem dX5_isAnyTakenFrom_13 : decode cX5_isAnyTakenFrom 13 = .ok (.bipush (-9), 2) := by decide +kernel
theorem dX5_isAnyTakenFrom_15 : decode cX5_isAnyTakenFrom 15 = .ok (.if_icmp .eq 5, 3) := by decide +kernel
theorem dX5_isAnyTakenFrom_18 : decode cX5_isAnyTakenFrom 18 = .ok (.iconst 1, 1) := by decide +kernel
theorem dX5_isAnyTakenFrom_19 : decode cX5_isAnyTakenFrom 19 = .ok (.ireturn, 1) := by decide +kernel
theorem dX5_isAnyTakenFrom_20 : decode cX5_isAnyTakenFrom 20 = .ok (.iinc 2 1, 3) := by decide +kernel
theorem dX5_isAnyTakenFrom_23 : decode cX5_isAnyTakenFrom 23 = .ok (.goto (-21), 3) := by decide +kernel
theorem dX5_isAnyTakenFrom_26 : decode cX5_isAnyTakenFrom 26 = .ok (.iconst 0, 1) := by decide +kernel
theorem dX5_isAnyTakenFrom_27 : decode cX5_isAnyTakenFrom 27 = .ok (.ireturn, 1) := by decide +kernel
def bfX5_isAnyTakenFrom_7_2 (p2 : Int32) (S : RS) (K2 : Int32 → Option (Int32)) (x2 : Int32) : Option (Int32) :=
  (if (4 : Int32) ≤ x2 then some (0 : Int32) else (if (sget 7 (S.2.1 0) x2 (0 : Int32)) = (-9 : Int32) then K2 ((x2 + (1 : Int32))) else some (1 : Int32)))
def fX5_isAnyTakenFrom_7 (p2 : Int32) (S : RS) : Option (Int32) :=
  iter (bfX5_isAnyTakenFrom_7_2 p2 S) FU (p2)
set_option maxHeartbeats 4000000 in
set_option maxRecDepth 100000 in
theorem kX5_isAnyTakenFrom_7 (l : Launch) (D : va_G) (cI cS : ClassId) (aR : Nat → Nat) (p2 : Int32) (S : RS) {q : Int32} (h : fX5_isAnyTakenFrom_7 p2 S = some q) : Mc l D (tyL cI cS) false yX5_isAnyTakenFrom cX5_isAnyTakenFrom 3 (some .boolean) 2 [.ref (S.1 0 15), .int p2] (wR cI cS aR S) (some (.int q)) (wR cI cS aR S) := by
  refine Mc_of RX5 (by decide +kernel) rfl wc_X5_isAnyTakenFrom (Nat.le_of_ble_eq_true rfl) ?_
  intro p e s m args below meth c A Q ls C hA hz hP hD hS hl RET
  have RETh : ∀ {pc : Nat} {ls : Array Slot} {H : Heap} {locs : List Loc} {x : Int32} , (x = 0 ∨ x = 1) → decode cX5_isAnyTakenFrom pc = .ok (.ireturn, 1) → some x = some q → va_P D vwCl (wR cI cS aR S) H → va_D A (wR cI cS aR S) → va_S A s.heap H locs → W p l e (rmL 2) s m args below meth c H locs 0 0 Q (F0 m pc ls [.int x]) := by
    intro pc ls H locs x hx hd h hP hD hS; cases h; exact RET (x_zret C hx hd) hP hD hS
  have B2 : ∀ (n : Nat) (x : Int32), iter (bfX5_isAnyTakenFrom_7_2 p2 S) n x = some q → (fun (x2 : Int32) => ∀ (H : Heap) (locs : List Loc) (ls : Array Slot), va_P D vwCl (wR cI cS aR S) H → va_D A (wR cI cS aR S) → va_S A s.heap H locs → lv_has ls 3 [(0, .ref (S.1 0 15)), (2, .int x2)] → W p l e (rmL 2) s m args below meth c H locs 0 0 Q (F0 m 2 ls [])) x := by
    refine iter_ind (fun x : Int32 => (fun (x2 : Int32) => ∀ (H : Heap) (locs : List Loc) (ls : Array Slot), va_P D vwCl (wR cI cS aR S) H → va_D A (wR cI cS aR S) → va_S A s.heap H locs → lv_has ls 3 [(0, .ref (S.1 0 15)), (2, .int x2)] → W p l e (rmL 2) s m args below meth c H locs 0 0 Q (F0 m 2 ls [])) x) ?_
    intro K2 ih2 x h
    obtain ⟨x2, rfl⟩ : ∃ y, y = x := ⟨_, rfl⟩
    intro H locs ls hP hD hS hl
    refine x_iload_n C dX5_isAnyTakenFrom_2 rfl hl 1 rfl ?_
    refine x_iconst (v := (4 : Int32)) C dX5_isAnyTakenFrom_3 (by decide) ?_
    refine x_icmp_ge (tgt := 26) C h dX5_isAnyTakenFrom_4 (by decide) (fun h => ?_) (fun h => ?_)
    · refine x_iconst (v := (0 : Int32)) C dX5_isAnyTakenFrom_26 (by decide) ?_
      exact RETh (by decide) dX5_isAnyTakenFrom_27 h hP hD hS
    · refine x_aload_n C dX5_isAnyTakenFrom_7 rfl hl 0 rfl ?_
      refine x_iload_n C dX5_isAnyTakenFrom_8 rfl hl 1 rfl ?_
      refine x_iconst (v := (0 : Int32)) C dX5_isAnyTakenFrom_9 (by decide) ?_
      refine x_callV (As := [.int _, .int _]) (n := 2) C (Mc.toR0 (X := S) (i := 0) (kS_get l D cI cS (S.1 0) _ 7 (by decide) _ _) cS aR (by decide)) (fun hh => nomatch hh) wm_X5_41 wi_X3_get we_X3_get wz_X3 wc_X3_get (by decide +kernel) rfl hP hD hS hA 17 1 rfl rfl rfl hl.1 dX5_isAnyTakenFrom_10 rfl (Nat.le_of_ble_eq_true rfl) ⟨Nat.le_of_ble_eq_true rfl, Nat.le_of_ble_eq_true rfl⟩ ⟨Nat.zero_le _, Nat.zero_le _⟩ (fun H locs hP hD hS => ?_)
      refine x_bipush (v := (-9 : Int32)) C dX5_isAnyTakenFrom_13 (by decide) ?_
      refine x_icmp_eq (tgt := 20) C h dX5_isAnyTakenFrom_15 (by decide) (fun h => ?_) (fun h => ?_)
      · refine x_iinc (v := (x2 + (1 : Int32))) (lv' := [(2, .int (x2 + (1 : Int32))), (0, .ref (S.1 0 15))]) C dX5_isAnyTakenFrom_20 hl (k := 1) rfl rfl (by decide) rfl (fun ls hl => ?_)
        refine x_goto (tgt := 2) C dX5_isAnyTakenFrom_23 (by decide) ?_
        exact ih2 _ h _ _ _ hP hD hS (lv_sub hl [1, 0] rfl)
      · refine x_iconst (v := (1 : Int32)) C dX5_isAnyTakenFrom_18 (by decide) ?_
        exact RETh (by decide) dX5_isAnyTakenFrom_19 h hP hD hS
  refine x_iload_n C dX5_isAnyTakenFrom_0 rfl hl 1 rfl ?_
  refine x_istore_n (lv' := [(2, .int p2), (0, .ref (S.1 0 15)), (1, .int p2)]) C dX5_isAnyTakenFrom_1 rfl hl (by decide) rfl (fun ls hl => ?_)
  exact B2 FU _ h _ _ _ hP hD hS (lv_sub hl [1, 0] rfl)
def bfX5_isAnyTakenFrom_9_2 (p2 : Int32) (S : RS) (K2 : Int32 → Option (Int32)) (x2 : Int32) : Option (Int32) :=
  (if (4 : Int32) ≤ x2 then some (0 : Int32) else (if (sget 9 (S.2.1 0) x2 (0 : Int32)) = (-9 : Int32) then K2 ((x2 + (1 : Int32))) else some (1 : Int32)))
def fX5_isAnyTakenFrom_9 (p2 : Int32) (S : RS) : Option (Int32) :=
  iter (bfX5_isAnyTakenFrom_9_2 p2 S) FU (p2)
set_option maxHeartbeats 4000000 in
set_option maxRecDepth 100000 in
theorem kX5_isAnyTakenFrom_9 (l : Launch) (D : va_G) (cI cS : ClassId) (aR : Nat → Nat) (p2 : Int32) (S : RS) {q : Int32} (h : fX5_isAnyTakenFrom_9 p2 S = some q) : Mc l D (tyL cI cS) false yX5_isAnyTakenFrom cX5_isAnyTakenFrom 3 (some .boolean) 2 [.ref (S.1 0 19), .int p2] (wR cI cS aR S) (some (.int q)) (wR cI cS aR S) := by
  refine Mc_of RX5 (by decide +kernel) rfl wc_X5_isAnyTakenFrom (Nat.le_of_ble_eq_true rfl) ?_
  intro p e s m args below meth c A Q ls C hA hz hP hD hS hl RET
  have RETh : ∀ {pc : Nat} {ls : Array Slot} {H : Heap} {locs : List Loc} {x : Int32} , (x = 0 ∨ x = 1) → decode cX5_isAnyTakenFrom pc = .ok (.ireturn, 1) → some x = some q → va_P D vwCl (wR cI cS aR S) H → va_D A (wR cI cS aR S) → va_S A s.heap H locs → W p l e (rmL 2) s m args below meth c H locs 0 0 Q (F0 m pc ls [.int x]) := by
    intro pc ls H locs x hx hd h hP hD hS; cases h; exact RET (x_zret C hx hd) hP hD hS
  have B2 : ∀ (n : Nat) (x : Int32), iter (bfX5_isAnyTakenFrom_9_2 p2 S) n x = some q → (fun (x2 : Int32) => ∀ (H : Heap) (locs : List Loc) (ls : Array Slot), va_P D vwCl (wR cI cS aR S) H → va_D A (wR cI cS aR S) → va_S A s.heap H locs → lv_has ls 3 [(0, .ref (S.1 0 19)), (2, .int x2)] → W p l e (rmL 2) s m args below meth c H locs 0 0 Q (F0 m 2 ls [])) x := by
    refine iter_ind (fun x : Int32 => (fun (x2 : Int32) => ∀ (H : Heap) (locs : List Loc) (ls : Array Slot), va_P D vwCl (wR cI cS aR S) H → va_D A (wR cI cS aR S) → va_S A s.heap H locs → lv_has ls 3 [(0, .ref (S.1 0 19)), (2, .int x2)] → W p l e (rmL 2) s m args below meth c H locs 0 0 Q (F0 m 2 ls [])) x) ?_
    intro K2 ih2 x h
    obtain ⟨x2, rfl⟩ : ∃ y, y = x := ⟨_, rfl⟩
    intro H locs ls hP hD hS hl
    refine x_iload_n C dX5_isAnyTakenFrom_2 rfl hl 1 rfl ?_
    refine x_iconst (v := (4 : Int32)) C dX5_isAnyTakenFrom_3 (by decide) ?_
    refine x_icmp_ge (tgt := 26) C h dX5_isAnyTakenFrom_4 (by decide) (fun h => ?_) (fun h => ?_)
    · refine x_iconst (v := (0 : Int32)) C dX5_isAnyTakenFrom_26 (by decide) ?_
      exact RETh (by decide) dX5_isAnyTakenFrom_27 h hP hD hS
    · refine x_aload_n C dX5_isAnyTakenFrom_7 rfl hl 0 rfl ?_
      refine x_iload_n C dX5_isAnyTakenFrom_8 rfl hl 1 rfl ?_
      refine x_iconst (v := (0 : Int32)) C dX5_isAnyTakenFrom_9 (by decide) ?_
      refine x_callV (As := [.int _, .int _]) (n := 2) C (Mc.toR0 (X := S) (i := 0) (kS_get l D cI cS (S.1 0) _ 9 (by decide) _ _) cS aR (by decide)) (fun hh => nomatch hh) wm_X5_41 wi_X3_get we_X3_get wz_X3 wc_X3_get (by decide +kernel) rfl hP hD hS hA 21 1 rfl rfl rfl hl.1 dX5_isAnyTakenFrom_10 rfl (Nat.le_of_ble_eq_true rfl) ⟨Nat.le_of_ble_eq_true rfl, Nat.le_of_ble_eq_true rfl⟩ ⟨Nat.zero_le _, Nat.zero_le _⟩ (fun H locs hP hD hS => ?_)
      refine x_bipush (v := (-9 : Int32)) C dX5_isAnyTakenFrom_13 (by decide) ?_
      refine x_icmp_eq (tgt := 20) C h dX5_isAnyTakenFrom_15 (by decide) (fun h => ?_) (fun h => ?_)
      · refine x_iinc (v := (x2 + (1 : Int32))) (lv' := [(2, .int (x2 + (1 : Int32))), (0, .ref (S.1 0 19))]) C dX5_isAnyTakenFrom_20 hl (k := 1) rfl rfl (by decide) rfl (fun ls hl => ?_)
        refine x_goto (tgt := 2) C dX5_isAnyTakenFrom_23 (by decide) ?_
        exact ih2 _ h _ _ _ hP hD hS (lv_sub hl [1, 0] rfl)
      · refine x_iconst (v := (1 : Int32)) C dX5_isAnyTakenFrom_18 (by decide) ?_
        exact RETh (by decide) dX5_isAnyTakenFrom_19 h hP hD hS
  refine x_iload_n C dX5_isAnyTakenFrom_0 rfl hl 1 rfl ?_
  refine x_istore_n (lv' := [(2, .int p2), (0, .ref (S.1 0 19)), (1, .int p2)]) C dX5_isAnyTakenFrom_1 rfl hl (by decide) rfl (fun ls hl => ?_)
  exact B2 FU _ h _ _ _ hP hD hS (lv_sub hl [1, 0] rfl)
theorem dX5_isInUseBeyond_0 : decode cX5_isInUseBeyond 0 = .ok (.iload_n 1, 1) := by decide +kernel
theorem dX5_isInUseBeyond_1 : decode cX5_isInUseBeyond 1 = .ok (.tableswitch 71 0 2 #[27, 39, 59], 27) := by decide +kernel
theorem dX5_isInUseBeyond_28 : decode cX5_isInUseBeyond 28 = .ok (.aload_n 0, 1) := by decide +kernel
theorem dX5_isInUseBeyond_29 : decode cX5_isInUseBeyond 29 = .ok (.getfield 10, 3) := by decide +kernel
theorem dX5_isInUseBeyond_32 : decode cX5_isInUseBeyond 32 = .ok (.getfield 106, 3) := by decide +kernel
theorem dX5_isInUseBeyond_35 : decode cX5_isInUseBeyond 35 = .ok (.iload_n 2, 1) := by decide +kernel
theorem dX5_isInUseBeyond_36 : decode cX5_isInUseBeyond 36 = .ok (.invokestatic 189, 3) := by decide +kernel
theorem dX5_isInUseBeyond_39 : decode cX5_isInUseBeyond 39 = .ok (.ireturn, 1) := by decide +kernel
theorem dX5_isInUseBeyond_40 : decode cX5_isInUseBeyond 40 = .ok (.aload_n 0, 1) := by decide +kernel
theorem dX5_isInUseBeyond_41 : decode cX5_isInUseBeyond 41 = .ok (.getfield 10, 3) := by decide +kernel
theorem dX5_isInUseBeyond_44 : decode cX5_isInUseBeyond 44 = .ok (.getfield 100, 3) := by decide +kernel
theorem dX5_isInUseBeyond_47 : decode cX5_isInUseBeyond 47 = .ok (.invokevirtual 93, 3) := by decide +kernel
theorem dX5_isInUseBeyond_50 : decode cX5_isInUseBeyond 50 = .ok (.iload_n 2, 1) := by decide +kernel
theorem dX5_isInUseBeyond_51 : decode cX5_isInUseBeyond 51 = .ok (.if_icmp .le 7, 3) := by decide +kernel
theorem dX5_isInUseBeyond_54 : decode cX5_isInUseBeyond 54 = .ok (.iconst 1, 1) := by decide +kernel
theorem dX5_isInUseBeyond_55 : decode cX5_isInUseBeyond 55 = .ok (.goto 4, 3) := by decide +kernel
theorem dX5_isInUseBeyond_58 : decode cX5_isInUseBeyond 58 = .ok (.iconst 0, 1) := by decide +kernel
theorem dX5_isInUseBeyond_59 : decode cX5_isInUseBeyond 59 = .ok (.ireturn, 1) := by decide +kernel
theorem dX5_isInUseBeyond_60 : decode cX5_isInUseBeyond 60 = .ok (.aload_n 0, 1) := by decide +kernel
theorem dX5_isInUseBeyond_61 : decode cX5_isInUseBeyond 61 = .ok (.getfield 10, 3) := by decide +kernel
theorem dX5_isInUseBeyond_64 : decode cX5_isInUseBeyond 64 = .ok (.getfield 109, 3) := by decide +kernel
theorem dX5_isInUseBeyond_67 : decode cX5_isInUseBeyond 67 = .ok (.iload_n 2, 1) := by decide +kernel
theorem dX5_isInUseBeyond_68 : decode cX5_isInUseBeyond 68 = .ok (.invokestatic 189, 3) := by decide +kernel
theorem dX5_isInUseBeyond_71 : decode cX5_isInUseBeyond 71 = .ok (.ireturn, 1) := by decide +kernel
theorem dX5_isInUseBeyond_72 : decode cX5_isInUseBeyond 72 = .ok (.aload_n 0, 1) := by decide +kernel
theorem dX5_isInUseBeyond_73 : decode cX5_isInUseBeyond 73 = .ok (.getfield 10, 3) := by decide +kernel
theorem dX5_isInUseBeyond_76 : decode cX5_isInUseBeyond 76 = .ok (.getfield 103, 3) := by decide +kernel
theorem dX5_isInUseBeyond_79 : decode cX5_isInUseBeyond 79 = .ok (.invokevirtual 93, 3) := by decide +kernel
theorem dX5_isInUseBeyond_82 : decode cX5_isInUseBeyond 82 = .ok (.iload_n 2, 1) := by decide +kernel
theorem dX5_isInUseBeyond_83 : decode cX5_isInUseBeyond 83 = .ok (.if_icmp .le 7, 3) := by decide +kernel
theorem dX5_isInUseBeyond_86 : decode cX5_isInUseBeyond 86 = .ok (.iconst 1, 1) := by decide +kernel
theorem dX5_isInUseBeyond_87 : decode cX5_isInUseBeyond 87 = .ok (.goto 4, 3) := by decide +kernel
theorem dX5_isInUseBeyond_90 : decode cX5_isInUseBeyond 90 = .ok (.iconst 0, 1) := by decide +kernel
theorem dX5_isInUseBeyond_91 : decode cX5_isInUseBeyond 91 = .ok (.ireturn, 1) := by decide +kernel
def bfX5_isInUseBeyond_91 (p1 : Int32) (p2 : Int32) (S : RS) (s0 : Int32) : Option (Int32) :=
  (if s0 = 0 ∨ s0 = 1 then some s0 else none)
def bfX5_isInUseBeyond_59 (p1 : Int32) (p2 : Int32) (S : RS) (s0 : Int32) : Option (Int32) :=
  (if s0 = 0 ∨ s0 = 1 then some s0 else none)
def fX5_isInUseBeyond (p1 : Int32) (p2 : Int32) (S : RS) : Option (Int32) :=
  (if p1 = (0 : Int32) then ob (fX5_isAnyTakenFrom_7 p2 S) fun u4 => (if u4 = 0 ∨ u4 = 1 then some u4 else none) else (if p1 = (1 : Int32) then (if (ssize 6 (S.2.1 0)) ≤ p2 then bfX5_isInUseBeyond_59 p1 p2 S  ((0 : Int32)) else bfX5_isInUseBeyond_59 p1 p2 S  ((1 : Int32))) else (if p1 = (2 : Int32) then ob (fX5_isAnyTakenFrom_9 p2 S) fun u3 => (if u3 = 0 ∨ u3 = 1 then some u3 else none) else (if (ssize 8 (S.2.1 0)) ≤ p2 then bfX5_isInUseBeyond_91 p1 p2 S  ((0 : Int32)) else bfX5_isInUseBeyond_91 p1 p2 S  ((1 : Int32))))))
set_option maxHeartbeats 4000000 in
set_option maxRecDepth 100000 in
theorem kX5_isInUseBeyond (l : Launch) (D : va_G) (cI cS : ClassId) (aR : Nat → Nat) (p1 : Int32) (p2 : Int32) (S : RS) {q : Int32} (h : fX5_isInUseBeyond p1 p2 S = some q) : Mc l D (tyL cI cS) false yX5_isInUseBeyond cX5_isInUseBeyond 3 (some .boolean) 3 [.ref (aR 0), .int p1, .int p2] (wR cI cS aR S) (some (.int q)) (wR cI cS aR S) := by
  refine Mc_of RX5 (by decide +kernel) rfl wc_X5_isInUseBeyond (Nat.le_of_ble_eq_true rfl) ?_
  intro p e s m args below meth c A Q ls C hA hz hP hD hS hl RET
  have RETh : ∀ {pc : Nat} {ls : Array Slot} {H : Heap} {locs : List Loc} {x : Int32} , (x = 0 ∨ x = 1) → decode cX5_isInUseBeyond pc = .ok (.ireturn, 1) → some x = some q → va_P D vwCl (wR cI cS aR S) H → va_D A (wR cI cS aR S) → va_S A s.heap H locs → W p l e (rmL 3) s m args below meth c H locs 0 0 Q (F0 m pc ls [.int x]) := by
    intro pc ls H locs x hx hd h hP hD hS; cases h; exact RET (x_zret C hx hd) hP hD hS
  have B91 : ∀ (s0 : Int32), bfX5_isInUseBeyond_91 p1 p2 S s0 = some q → ∀ (H : Heap) (locs : List Loc) (ls : Array Slot), va_P D vwCl (wR cI cS aR S) H → va_D A (wR cI cS aR S) → va_S A s.heap H locs → lv_has ls 3 [] → W p l e (rmL 3) s m args below meth c H locs 0 0 Q (F0 m 91 ls [.int s0]) := by
    intro s0 h H locs ls hP hD hS hl
    rcases x_ifn h with ⟨hc, h⟩
    exact RETh hc dX5_isInUseBeyond_91 h hP hD hS
  have B59 : ∀ (s0 : Int32), bfX5_isInUseBeyond_59 p1 p2 S s0 = some q → ∀ (H : Heap) (locs : List Loc) (ls : Array Slot), va_P D vwCl (wR cI cS aR S) H → va_D A (wR cI cS aR S) → va_S A s.heap H locs → lv_has ls 3 [] → W p l e (rmL 3) s m args below meth c H locs 0 0 Q (F0 m 59 ls [.int s0]) := by
    intro s0 h H locs ls hP hD hS hl
    rcases x_ifn h with ⟨hc, h⟩
    exact RETh hc dX5_isInUseBeyond_59 h hP hD hS
  refine x_iload_n C dX5_isInUseBeyond_0 rfl hl 1 rfl ?_
  rcases x_ifc h with ⟨hc, h⟩ | ⟨hc0, h⟩
  · refine x_tabIn (tgt := 28) C dX5_isInUseBeyond_1 (by rw [hc]; decide) (by rw [hc]; decide) (by rw [hc]; rfl) (by decide) ?_
    refine x_aload_n C dX5_isInUseBeyond_28 rfl hl 0 rfl ?_
    refine x_get C inX5 hP 0 rfl rfl 0 (by decide) wf_X5_10 rfl dX5_isInUseBeyond_29 ?_
    refine x_get C inX2 hP 2 rfl rfl 7 (by decide) wf_X5_106 rfl dX5_isInUseBeyond_32 ?_
    refine x_iload_n C dX5_isInUseBeyond_35 rfl hl 2 rfl ?_
    obtain ⟨u4, hu4, h⟩ := ob_some h
    refine x_callS (As := [.ref _, .int _]) (n := 2) C (kX5_isAnyTakenFrom_7 l D cI cS aR _ _ hu4) (fun hh => nomatch hh) wm_X5_189 wt_X5_isAnyTakenFrom wz_X5 wc_X5_isAnyTakenFrom (by decide +kernel) rfl hP hD hS hA hl.1 dX5_isInUseBeyond_36 rfl (Nat.le_of_ble_eq_true rfl) ⟨Nat.le_of_ble_eq_true rfl, Nat.le_of_ble_eq_true rfl⟩ ⟨Nat.zero_le _, Nat.zero_le _⟩ (fun H locs hP hD hS => ?_)
    rcases x_ifn h with ⟨hc, h⟩
    exact RETh hc dX5_isInUseBeyond_39 h hP hD hS
  ·
    rcases x_ifc h with ⟨hc, h⟩ | ⟨hc1, h⟩
    · refine x_tabIn (tgt := 40) C dX5_isInUseBeyond_1 (by rw [hc]; decide) (by rw [hc]; decide) (by rw [hc]; rfl) (by decide) ?_
      refine x_aload_n C dX5_isInUseBeyond_40 rfl hl 0 rfl ?_
      refine x_get C inX5 hP 0 rfl rfl 0 (by decide) wf_X5_10 rfl dX5_isInUseBeyond_41 ?_
      refine x_get C inX2 hP 2 rfl rfl 6 (by decide) wf_X5_100 rfl dX5_isInUseBeyond_44 ?_
      refine x_callV (As := []) (n := 0) C (Mc.toR0 (X := S) (i := 0) (kS_size l D cI cS (S.1 0) _ 6 (by decide)) cS aR (by decide)) (fun hh => nomatch hh) wm_X5_93 wi_X3_size we_X3_size wz_X3 wc_X3_size (by decide +kernel) rfl hP hD hS hA 15 1 rfl rfl rfl hl.1 dX5_isInUseBeyond_47 rfl (Nat.le_of_ble_eq_true rfl) ⟨Nat.le_of_ble_eq_true rfl, Nat.le_of_ble_eq_true rfl⟩ ⟨Nat.zero_le _, Nat.zero_le _⟩ (fun H locs hP hD hS => ?_)
      refine x_iload_n C dX5_isInUseBeyond_50 rfl hl 2 rfl ?_
      refine x_icmp_le (tgt := 58) C h dX5_isInUseBeyond_51 (by decide) (fun h => ?_) (fun h => ?_)
      · refine x_iconst (v := (0 : Int32)) C dX5_isInUseBeyond_58 (by decide) ?_
        exact B59 _ h _ _ _ hP hD hS (lv_sub hl [] rfl)
      · refine x_iconst (v := (1 : Int32)) C dX5_isInUseBeyond_54 (by decide) ?_
        refine x_goto (tgt := 59) C dX5_isInUseBeyond_55 (by decide) ?_
        exact B59 _ h _ _ _ hP hD hS (lv_sub hl [] rfl)
    ·
      rcases x_ifc h with ⟨hc, h⟩ | ⟨hc2, h⟩
      · refine x_tabIn (tgt := 60) C dX5_isInUseBeyond_1 (by rw [hc]; decide) (by rw [hc]; decide) (by rw [hc]; rfl) (by decide) ?_
        refine x_aload_n C dX5_isInUseBeyond_60 rfl hl 0 rfl ?_
        refine x_get C inX5 hP 0 rfl rfl 0 (by decide) wf_X5_10 rfl dX5_isInUseBeyond_61 ?_
        refine x_get C inX2 hP 2 rfl rfl 9 (by decide) wf_X5_109 rfl dX5_isInUseBeyond_64 ?_
        refine x_iload_n C dX5_isInUseBeyond_67 rfl hl 2 rfl ?_
        obtain ⟨u3, hu3, h⟩ := ob_some h
        refine x_callS (As := [.ref _, .int _]) (n := 2) C (kX5_isAnyTakenFrom_9 l D cI cS aR _ _ hu3) (fun hh => nomatch hh) wm_X5_189 wt_X5_isAnyTakenFrom wz_X5 wc_X5_isAnyTakenFrom (by decide +kernel) rfl hP hD hS hA hl.1 dX5_isInUseBeyond_68 rfl (Nat.le_of_ble_eq_true rfl) ⟨Nat.le_of_ble_eq_true rfl, Nat.le_of_ble_eq_true rfl⟩ ⟨Nat.zero_le _, Nat.zero_le _⟩ (fun H locs hP hD hS => ?_)
        rcases x_ifn h with ⟨hc, h⟩
        exact RETh hc dX5_isInUseBeyond_71 h hP hD hS
      · refine x_switch (tgt := 72) C dX5_isInUseBeyond_1 (x_tabO0_2 hc0 hc1 hc2) (by decide) ?_
        refine x_aload_n C dX5_isInUseBeyond_72 rfl hl 0 rfl ?_
        refine x_get C inX5 hP 0 rfl rfl 0 (by decide) wf_X5_10 rfl dX5_isInUseBeyond_73 ?_
        refine x_get C inX2 hP 2 rfl rfl 8 (by decide) wf_X5_103 rfl dX5_isInUseBeyond_76 ?_
        refine x_callV (As := []) (n := 0) C (Mc.toR0 (X := S) (i := 0) (kS_size l D cI cS (S.1 0) _ 8 (by decide)) cS aR (by decide)) (fun hh => nomatch hh) wm_X5_93 wi_X3_size we_X3_size wz_X3 wc_X3_size (by decide +kernel) rfl hP hD hS hA 19 1 rfl rfl rfl hl.1 dX5_isInUseBeyond_79 rfl (Nat.le_of_ble_eq_true rfl) ⟨Nat.le_of_ble_eq_true rfl, Nat.le_of_ble_eq_true rfl⟩ ⟨Nat.zero_le _, Nat.zero_le _⟩ (fun H locs hP hD hS => ?_)
        refine x_iload_n C dX5_isInUseBeyond_82 rfl hl 2 rfl ?_
        refine x_icmp_le (tgt := 90) C h dX5_isInUseBeyond_83 (by decide) (fun h => ?_) (fun h => ?_)
        · refine x_iconst (v := (0 : Int32)) C dX5_isInUseBeyond_90 (by decide) ?_
          exact B91 _ h _ _ _ hP hD hS (lv_sub hl [] rfl)
        · refine x_iconst (v := (1 : Int32)) C dX5_isInUseBeyond_86 (by decide) ?_
          refine x_goto (tgt := 91) C dX5_isInUseBeyond_87 (by decide) ?_
          exact B91 _ h _ _ _ hP hD hS (lv_sub hl [] rfl)
theorem dX5_keepState_0 : decode cX5_keepState 0 = .ok (.aload_n 0, 1) := by decide +kernel
theorem dX5_keepState_1 : decode cX5_keepState 1 = .ok (.getfield 124, 3) := by decide +kernel
theorem dX5_keepState_4 : decode cX5_keepState 4 = .ok (.iconst 4, 1) := by decide +kernel
theorem dX5_keepState_5 : decode cX5_keepState 5 = .ok (.if_icmp .ne 7, 3) := by decide +kernel
theorem dX5_keepState_8 : decode cX5_keepState 8 = .ok (.aload_n 0, 1) := by decide +kernel
theorem dX5_keepState_9 : decode cX5_keepState 9 = .ok (.invokevirtual 193, 3) := by decide +kernel
theorem dX5_keepState_12 : decode cX5_keepState 12 = .ok (.aload_n 0, 1) := by decide +kernel
theorem dX5_keepState_13 : decode cX5_keepState 13 = .ok (.getfield 124, 3) := by decide +kernel
theorem dX5_keepState_16 : decode cX5_keepState 16 = .ok (.ifCond .lt 47, 3) := by decide +kernel
theorem dX5_keepState_19 : decode cX5_keepState 19 = .ok (.aload_n 0, 1) := by decide +kernel
theorem dX5_keepState_20 : decode cX5_keepState 20 = .ok (.getfield 124, 3) := by decide +kernel
theorem dX5_keepState_23 : decode cX5_keepState 23 = .ok (.aload_n 0, 1) := by decide +kernel
theorem dX5_keepState_24 : decode cX5_keepState 24 = .ok (.getfield 19, 3) := by decide +kernel
theorem dX5_keepState_27 : decode cX5_keepState 27 = .ok (.arraylength, 1) := by decide +kernel
theorem dX5_keepState_28 : decode cX5_keepState 28 = .ok (.if_icmp .ge 35, 3) := by decide +kernel
theorem dX5_keepState_31 : decode cX5_keepState 31 = .ok (.aload_n 0, 1) := by decide +kernel
theorem dX5_keepState_32 : decode cX5_keepState 32 = .ok (.getfield 19, 3) := by decide +kernel
theorem dX5_keepState_35 : decode cX5_keepState 35 = .ok (.aload_n 0, 1) := by decide +kernel
theorem dX5_keepState_36 : decode cX5_keepState 36 = .ok (.getfield 124, 3) := by decide +kernel
theorem dX5_keepState_39 : decode cX5_keepState 39 = .ok (.aaload, 1) := by decide +kernel
theorem dX5_keepState_40 : decode cX5_keepState 40 = .ok (.astore_n 1, 1) := by decide +kernel
theorem dX5_keepState_41 : decode cX5_keepState 41 = .ok (.aload_n 1, 1) := by decide +kernel
theorem dX5_keepState_42 : decode cX5_keepState 42 = .ok (.ifnull 21, 3) := by decide +kernel
theorem dX5_keepState_45 : decode cX5_keepState 45 = .ok (.aload_n 1, 1) := by decide +kernel
theorem dX5_keepState_46 : decode cX5_keepState 46 = .ok (.aload_n 0, 1) := by decide +kernel
theorem dX5_keepState_47 : decode cX5_keepState 47 = .ok (.getfield 10, 3) := by decide +kernel
theorem dX5_keepState_50 : decode cX5_keepState 50 = .ok (.invokevirtual 146, 3) := by decide +kernel
theorem dX5_keepState_53 : decode cX5_keepState 53 = .ok (.aload_n 0, 1) := by decide +kernel
theorem dX5_keepState_54 : decode cX5_keepState 54 = .ok (.dup, 1) := by decide +kernel
theorem dX5_keepState_55 : decode cX5_keepState 55 = .ok (.getfield 124, 3) := by decide +kernel
theorem dX5_keepState_58 : decode cX5_keepState 58 = .ok (.iconst 1, 1) := by decide +kernel
theorem dX5_keepState_59 : decode cX5_keepState 59 = .ok (.iadd, 1) := by decide +kernel
theorem dX5_keepState_60 : decode cX5_keepState 60 = .ok (.putfield 124, 3) := by decide +kernel
theorem dX5_keepState_63 : decode cX5_keepState 63 = .ok (.return_, 1) := by decide +kernel
def bfX5_keepState_63  (S : RS) : Option (RS) :=
  some S
def bfX5_keepState_12  (S : RS) : Option (RS) :=
  (if S.2.2 < 0 then bfX5_keepState_63   S else (if (4 : Int32) ≤ S.2.2 then bfX5_keepState_63   S else (if okI S.2.2 4 then nm (rset S ((S.2.2).toNatClampNeg + 2) (S.2.1 0)) fun S6 => nm (S6.1, S6.2.1, (S6.2.2 + (1 : Int32))) fun S7 => bfX5_keepState_63   S7 else none)))
def fX5_keepState  (S : RS) : Option (RS) :=
  (if S.2.2 = (4 : Int32) then nm (rdrop S) fun S8 => bfX5_keepState_12   S8 else bfX5_keepState_12   S)
set_option maxHeartbeats 4000000 in
set_option maxRecDepth 100000 in
theorem kX5_keepState (l : Launch) (D : va_G) (cI cS : ClassId) (aR : Nat → Nat)  (S : RS) {q : RS} (h : fX5_keepState  S = some q) : Mc l D (tyL cI cS) false yX5_keepState cX5_keepState 2 none 4 [.ref (aR 0)] (wR cI cS aR S) none (wR cI cS aR q) := by
  refine Mc_of RX5 (by decide +kernel) rfl wc_X5_keepState (Nat.le_of_ble_eq_true rfl) ?_
  intro p e s m args below meth c A Q ls C hA hz hP hD hS hl RET
  have RETh : ∀ {pc : Nat} {ls : Array Slot} {H : Heap} {locs : List Loc} {S1 : RS}, decode cX5_keepState pc = .ok (.return_, 1) → some S1 = some q → va_P D vwCl (wR cI cS aR S1) H → va_D A (wR cI cS aR S1) → va_S A s.heap H locs → W p l e (rmL 4) s m args below meth c H locs 0 0 Q (F0 m pc ls []) := by
    intro pc ls H locs S1 hd h hP hD hS; cases h; exact RET (x_vret C hd) hP hD hS
  have B63 : ∀ (S : RS), bfX5_keepState_63 S = some q → ∀ (H : Heap) (locs : List Loc) (ls : Array Slot), va_P D vwCl (wR cI cS aR S) H → va_D A (wR cI cS aR S) → va_S A s.heap H locs → lv_has ls 2 [] → W p l e (rmL 4) s m args below meth c H locs 0 0 Q (F0 m 63 ls []) := by
    intro S h H locs ls hP hD hS hl
    exact RETh dX5_keepState_63 h hP hD hS
  have B12 : ∀ (S : RS), bfX5_keepState_12 S = some q → ∀ (H : Heap) (locs : List Loc) (ls : Array Slot), va_P D vwCl (wR cI cS aR S) H → va_D A (wR cI cS aR S) → va_S A s.heap H locs → lv_has ls 2 [(0, .ref (aR 0))] → W p l e (rmL 4) s m args below meth c H locs 0 0 Q (F0 m 12 ls []) := by
    intro S h H locs ls hP hD hS hl
    refine x_aload_n C dX5_keepState_12 rfl hl 0 rfl ?_
    refine x_get C inX5 hP 0 rfl rfl 3 (by decide) wf_X5_124 rfl dX5_keepState_13 ?_
    refine x_if_lt (tgt := 63) C h dX5_keepState_16 (by decide) (fun h => ?_) (fun h => ?_)
    · exact B63 _ h _ _ _ hP hD hS (lv_sub hl [] rfl)
    · refine x_aload_n C dX5_keepState_19 rfl hl 0 rfl ?_
      refine x_get C inX5 hP 0 rfl rfl 3 (by decide) wf_X5_124 rfl dX5_keepState_20 ?_
      refine x_aload_n C dX5_keepState_23 rfl hl 0 rfl ?_
      refine x_get C inX5 hP 0 rfl rfl 2 (by decide) wf_X5_19 rfl dX5_keepState_24 ?_
      refine x_alen C hP 1 rfl (t0 := 1) rfl rfl dX5_keepState_27 ?_
      refine x_icmp_ge (tgt := 63) C h dX5_keepState_28 (by decide) (fun h => ?_) (fun h => ?_)
      · exact B63 _ h _ _ _ hP hD hS (lv_sub hl [] rfl)
      · refine x_aload_n C dX5_keepState_31 rfl hl 0 rfl ?_
        refine x_get C inX5 hP 0 rfl rfl 2 (by decide) wf_X5_19 rfl dX5_keepState_32 ?_
        refine x_aload_n C dX5_keepState_35 rfl hl 0 rfl ?_
        refine x_get C inX5 hP 0 rfl rfl 3 (by decide) wf_X5_124 rfl dX5_keepState_36 ?_
        obtain ⟨hc5, h⟩ := x_ifn h
        refine x_aald C (t0 := 1) (v := (S.1 ((S.2.2).toNatClampNeg + 2) 0)) (Cn := "RetryStorm$State") hc5 hP 1 rfl rfl rfl dX5_keepState_39 ?_
        refine x_astore_n (lv' := [(1, .ref (S.1 ((S.2.2).toNatClampNeg + 2) 0)), (0, .ref (aR 0))]) C dX5_keepState_40 rfl hl (by decide) rfl (fun ls hl => ?_)
        refine x_aload_n C dX5_keepState_41 rfl hl 0 rfl ?_
        refine x_ifnull C dX5_keepState_42 ?_
        refine x_aload_n C dX5_keepState_45 rfl hl 0 rfl ?_
        refine x_aload_n C dX5_keepState_46 rfl hl 1 rfl ?_
        refine x_get C inX5 hP 0 rfl rfl 0 (by decide) wf_X5_10 rfl dX5_keepState_47 ?_
        refine x_callV (As := [.ref _]) (n := 1) C (kR_copyFrom l D cI cS aR S ((S.2.2).toNatClampNeg + 2) 0 (rec_lt hc5) (by decide) (rec_ne hc5)) (fun hh => nomatch hh) wm_X5_146 wi_X2_copyFrom we_X2_copyFrom wz_X2 wc_X2_copyFrom (by decide +kernel) rfl hP hD hS hA (2 + 23 * ((S.2.2).toNatClampNeg + 2)) 0 (wR_recv cI cS aR S ((S.2.2).toNatClampNeg + 2) (rec_lt hc5)) rfl rfl hl.1 dX5_keepState_50 rfl (Nat.le_of_ble_eq_true rfl) ⟨Nat.le_of_ble_eq_true rfl, Nat.le_of_ble_eq_true rfl⟩ ⟨Nat.zero_le _, Nat.zero_le _⟩ (fun H locs hP hD hS => ?_)
        refine x_nmS (wR cI cS aR) h hP hD (fun S6 h hP hD => ?_)
        refine x_aload_n C dX5_keepState_53 rfl hl 1 rfl ?_
        refine x_dup C dX5_keepState_54 rfl ?_
        refine x_get C inX5 hP 0 rfl rfl 3 (by decide) wf_X5_124 rfl dX5_keepState_55 ?_
        refine x_iconst (v := (1 : Int32)) C dX5_keepState_58 (by decide) ?_
        refine x_iadd C dX5_keepState_59 ?_
        refine x_putM (wR cI cS aR) C h inX5 tyX5 tyX5_ok nmX5 hP hD hS 0 rfl rfl 3 (by decide) wf_X5_124 rfl (ft := .int) (by decide +kernel) rfl rfl (Nat.le_of_ble_eq_true rfl) rfl dX5_keepState_60 (fun S7 h H locs hP hD hS => ?_)
        exact B63 _ h _ _ _ hP hD hS (lv_sub hl [] rfl)
  refine x_aload_n C dX5_keepState_0 rfl hl 0 rfl ?_
  refine x_get C inX5 hP 0 rfl rfl 3 (by decide) wf_X5_124 rfl dX5_keepState_1 ?_
  refine x_iconst (v := (4 : Int32)) C dX5_keepState_4 (by decide) ?_
  refine x_icmp_ne (tgt := 12) C h dX5_keepState_5 (by decide) (fun h => ?_) (fun h => ?_)
  · exact B12 _ h _ _ _ hP hD hS hl
  · refine x_aload_n C dX5_keepState_8 rfl hl 0 rfl ?_
    refine x_callV (As := []) (n := 0) C (kX5_dropOldestRecord l D cI cS aR _) (fun hh => nomatch hh) wm_X5_193 wi_X5_dropOldestRecord we_X5_dropOldestRecord wz_X5 wc_X5_dropOldestRecord (by decide +kernel) rfl hP hD hS hA 0 2 rfl rfl rfl hl.1 dX5_keepState_9 rfl (Nat.le_of_ble_eq_true rfl) ⟨Nat.le_of_ble_eq_true rfl, Nat.le_of_ble_eq_true rfl⟩ ⟨Nat.zero_le _, Nat.zero_le _⟩ (fun H locs hP hD hS => ?_)
    refine x_nmS (wR cI cS aR) h hP hD (fun S8 h hP hD => ?_)
    exact B12 _ h _ _ _ hP hD hS hl
theorem dX5_mostOfServer_0 : decode cX5_mostOfServer 0 = .ok (.iload_n 0, 1) := by decide +kernel
theorem dX5_mostOfServer_1 : decode cX5_mostOfServer 1 = .ok (.ifCond .eq 8, 3) := by decide +kernel
theorem dX5_mostOfServer_4 : decode cX5_mostOfServer 4 = .ok (.iload_n 0, 1) := by decide +kernel
theorem dX5_mostOfServer_5 : decode cX5_mostOfServer 5 = .ok (.iconst 2, 1) := by decide +kernel
theorem dX5_mostOfServer_6 : decode cX5_mostOfServer 6 = .ok (.if_icmp .ne 7, 3) := by decide +kernel
theorem dX5_mostOfServer_9 : decode cX5_mostOfServer 9 = .ok (.iconst 4, 1) := by decide +kernel
theorem dX5_mostOfServer_10 : decode cX5_mostOfServer 10 = .ok (.goto 5, 3) := by decide +kernel
theorem dX5_mostOfServer_13 : decode cX5_mostOfServer 13 = .ok (.bipush 16, 2) := by decide +kernel
theorem dX5_mostOfServer_15 : decode cX5_mostOfServer 15 = .ok (.ireturn, 1) := by decide +kernel
def bfX5_mostOfServer_15 (p1 : Int32) (s0 : Int32) : Option (Int32) :=
  some s0
def bfX5_mostOfServer_9 (p1 : Int32) : Option (Int32) :=
  bfX5_mostOfServer_15 p1  ((4 : Int32))
def fX5_mostOfServer (p1 : Int32) : Option (Int32) :=
  (if p1 = 0 then bfX5_mostOfServer_9 p1 else (if p1 = (2 : Int32) then bfX5_mostOfServer_9 p1 else bfX5_mostOfServer_15 p1  ((16 : Int32))))
set_option maxHeartbeats 4000000 in
set_option maxRecDepth 100000 in
theorem kX5_mostOfServer (l : Launch) (D : va_G) (cI cS : ClassId) (ws : va_W) (p1 : Int32) {q : Int32} (h : fX5_mostOfServer p1 = some q) : Mc l D (tyL cI cS) false yX5_mostOfServer cX5_mostOfServer 1 (some .int) 1 [.int p1] (ws) (some (.int q)) (ws) := by
  refine Mc_of RX5 (by decide +kernel) rfl wc_X5_mostOfServer (Nat.le_of_ble_eq_true rfl) ?_
  intro p e s m args below meth c A Q ls C hA hz hP hD hS hl RET
  have RETh : ∀ {pc : Nat} {ls : Array Slot} {H : Heap} {locs : List Loc} {x : Int32} , decode cX5_mostOfServer pc = .ok (.ireturn, 1) → some x = some q → va_P D vwCl (ws) H → va_D A (ws) → va_S A s.heap H locs → W p l e (rmL 1) s m args below meth c H locs 0 0 Q (F0 m pc ls [.int x]) := by
    intro pc ls H locs x hd h hP hD hS; cases h; exact RET (x_iret C hd) hP hD hS
  have B15 : ∀ (s0 : Int32), bfX5_mostOfServer_15 p1 s0 = some q → ∀ (H : Heap) (locs : List Loc) (ls : Array Slot), va_P D vwCl (ws) H → va_D A (ws) → va_S A s.heap H locs → lv_has ls 1 [] → W p l e (rmL 1) s m args below meth c H locs 0 0 Q (F0 m 15 ls [.int s0]) := by
    intro s0 h H locs ls hP hD hS hl
    exact RETh dX5_mostOfServer_15 h hP hD hS
  have B9 : bfX5_mostOfServer_9 p1 = some q → ∀ (H : Heap) (locs : List Loc) (ls : Array Slot), va_P D vwCl (ws) H → va_D A (ws) → va_S A s.heap H locs → lv_has ls 1 [] → W p l e (rmL 1) s m args below meth c H locs 0 0 Q (F0 m 9 ls []) := by
    intro  h H locs ls hP hD hS hl
    refine x_iconst (v := (4 : Int32)) C dX5_mostOfServer_9 (by decide) ?_
    refine x_goto (tgt := 15) C dX5_mostOfServer_10 (by decide) ?_
    exact B15 _ h _ _ _ hP hD hS hl
  refine x_iload_n C dX5_mostOfServer_0 rfl hl 0 rfl ?_
  refine x_if_eq (tgt := 9) C h dX5_mostOfServer_1 (by decide) (fun h => ?_) (fun h => ?_)
  · exact B9  h _ _ _ hP hD hS (lv_sub hl [] rfl)
  · refine x_iload_n C dX5_mostOfServer_4 rfl hl 0 rfl ?_
    refine x_iconst (v := (2 : Int32)) C dX5_mostOfServer_5 (by decide) ?_
    refine x_icmp_ne (tgt := 13) C h dX5_mostOfServer_6 (by decide) (fun h => ?_) (fun h => ?_)
    · refine x_bipush (v := (16 : Int32)) C dX5_mostOfServer_13 (by decide) ?_
      exact B15 _ h _ _ _ hP hD hS (lv_sub hl [] rfl)
    · exact B9  h _ _ _ hP hD hS (lv_sub hl [] rfl)
def bfX5_quiet_61 (p1 : Int32) (S : RS) (x3 : Int32) : Option (Int32) :=
  some x3
def bfX5_quiet_27 (p1 : Int32) (S : RS) (K27 : Int32 × Int32 → Option (Int32)) (x : Int32 × Int32) : Option (Int32) :=
  match x with
  | (x2, x3) => (if x2 ≤ x3 then bfX5_quiet_61 p1 S  x3 else ob (fX2_ofTick (((((S.2.1 0).2 12) - (1 : Int32)) - x3)) (0 : Int32) (S.2.1 0)) fun u3 => (if p1 < u3 then bfX5_quiet_61 p1 S  x3 else K27 (x2, (x3 + (1 : Int32)))))
def bfX5_quiet_10 (p1 : Int32) (S : RS) : Option (Int32) :=
  some (-1 : Int32)
def fX5_quiet (p1 : Int32) (S : RS) : Option (Int32) :=
  (if p1 < 0 then bfX5_quiet_10 p1 S else (if p1 ≤ (16 : Int32) then nm ((if ((S.2.1 0).2 12) < (64 : Int32) then ((S.2.1 0).2 12) else (64 : Int32))) fun v4 => iter (bfX5_quiet_27 p1 S) FU (v4, (0 : Int32)) else bfX5_quiet_10 p1 S))
def bfX5_recovery_74 (p1 : Int32) (p2 : Int32) (S : RS) (K74 : Int32 × Int32 → Option (Int32)) (x : Int32 × Int32) : Option (Int32) :=
  match x with
  | (x3, x5) => (if ((S.2.1 0).2 12) ≤ x5 then some (-9 : Int32) else ob (fX2_ofTick x5 (0 : Int32) (S.2.1 0)) fun u6 => (if p2 < u6 then K74 (x3, (x5 + (1 : Int32))) else some (x5 - x3)))
def bfX5_recovery_17 (p1 : Int32) (p2 : Int32) (S : RS) : Option (Int32) :=
  some (-1 : Int32)
def fX5_recovery (p1 : Int32) (p2 : Int32) (S : RS) : Option (Int32) :=
  ob (fX5_isClient p1) fun u7 => (if u7 = 0 then bfX5_recovery_17 p1 p2 S else (if p2 < 0 then bfX5_recovery_17 p1 p2 S else (if p2 ≤ (16 : Int32) then (if (sget 2 (S.2.1 0) p1 (0 : Int32)) = 0 then some (-9 : Int32) else nm ((sget 2 (S.2.1 0) p1 (2 : Int32))) fun v8 => nm ((if (0 : Int32) < (((S.2.1 0).2 12) - (64 : Int32)) then (((S.2.1 0).2 12) - (64 : Int32)) else (0 : Int32))) fun v9 => nm ((if v8 < v9 then v9 else v8)) fun v10 => iter (bfX5_recovery_74 p1 p2 S) FU (v8, v10)) else bfX5_recovery_17 p1 p2 S)))
theorem dX5_run_0 : decode cX5_run 0 = .ok (.iload_n 1, 1) := by decide +kernel
theorem dX5_run_1 : decode cX5_run 1 = .ok (.iconst 1, 1) := by decide +kernel
theorem dX5_run_2 : decode cX5_run 2 = .ok (.if_icmp .lt 9, 3) := by decide +kernel
theorem dX5_run_5 : decode cX5_run 5 = .ok (.iload_n 1, 1) := by decide +kernel
theorem dX5_run_6 : decode cX5_run 6 = .ok (.bipush 60, 2) := by decide +kernel
theorem dX5_run_8 : decode cX5_run 8 = .ok (.if_icmp .le 5, 3) := by decide +kernel
theorem dX5_run_11 : decode cX5_run 11 = .ok (.iconst (-1), 1) := by decide +kernel
theorem dX5_run_12 : decode cX5_run 12 = .ok (.ireturn, 1) := by decide +kernel
theorem dX5_run_13 : decode cX5_run 13 = .ok (.aload_n 0, 1) := by decide +kernel
theorem dX5_run_14 : decode cX5_run 14 = .ok (.invokevirtual 34, 3) := by decide +kernel
theorem dX5_run_17 : decode cX5_run 17 = .ok (.aload_n 0, 1) := by decide +kernel
theorem dX5_run_18 : decode cX5_run 18 = .ok (.getfield 10, 3) := by decide +kernel
theorem dX5_run_21 : decode cX5_run 21 = .ok (.iconst 2, 1) := by decide +kernel
theorem dX5_run_22 : decode cX5_run 22 = .ok (.invokevirtual 78, 3) := by decide +kernel
theorem dX5_run_25 : decode cX5_run 25 = .ok (.istore_n 2, 1) := by decide +kernel
theorem dX5_run_26 : decode cX5_run 26 = .ok (.iconst 0, 1) := by decide +kernel
theorem dX5_run_27 : decode cX5_run 27 = .ok (.istore_n 3, 1) := by decide +kernel
theorem dX5_run_28 : decode cX5_run 28 = .ok (.iload_n 3, 1) := by decide +kernel
theorem dX5_run_29 : decode cX5_run 29 = .ok (.iload_n 1, 1) := by decide +kernel
theorem dX5_run_30 : decode cX5_run 30 = .ok (.if_icmp .ge 16, 3) := by decide +kernel
theorem dX5_run_33 : decode cX5_run 33 = .ok (.aload_n 0, 1) := by decide +kernel
theorem dX5_run_34 : decode cX5_run 34 = .ok (.getfield 10, 3) := by decide +kernel
theorem dX5_run_37 : decode cX5_run 37 = .ok (.invokestatic 81, 3) := by decide +kernel
theorem dX5_run_40 : decode cX5_run 40 = .ok (.iinc 3 1, 3) := by decide +kernel
theorem dX5_run_43 : decode cX5_run 43 = .ok (.goto (-15), 3) := by decide +kernel
theorem dX5_run_46 : decode cX5_run 46 = .ok (.aload_n 0, 1) := by decide +kernel
theorem dX5_run_47 : decode cX5_run 47 = .ok (.getfield 10, 3) := by decide +kernel
theorem dX5_run_50 : decode cX5_run 50 = .ok (.iconst 2, 1) := by decide +kernel
theorem dX5_run_51 : decode cX5_run 51 = .ok (.invokevirtual 78, 3) := by decide +kernel
theorem dX5_run_54 : decode cX5_run 54 = .ok (.iload_n 2, 1) := by decide +kernel
theorem dX5_run_55 : decode cX5_run 55 = .ok (.isub, 1) := by decide +kernel
theorem dX5_run_56 : decode cX5_run 56 = .ok (.ireturn, 1) := by decide +kernel
def bfX5_run_28 (p1 : Int32) (K28 : Int32 × Int32 × (RS) → Option (Int32 × (RS))) (x : Int32 × Int32 × (RS)) : Option (Int32 × (RS)) :=
  match x with
  | (x2, x3, S) => (if p1 ≤ x3 then ob (fX2_total (2 : Int32) (S.2.1 0)) fun u6 => some ((u6 - x2), S) else ob (fX4_pass (S.2.1 0)) fun u7 => nm (rset S 0 u7) fun S8 => K28 (x2, (x3 + (1 : Int32)), S8))
def bfX5_run_11 (p1 : Int32) (S : RS) : Option (Int32 × (RS)) :=
  some ((-1 : Int32), S)
def fX5_run (p1 : Int32) (S : RS) : Option (Int32 × (RS)) :=
  (if p1 < (1 : Int32) then bfX5_run_11 p1  S else (if p1 ≤ (60 : Int32) then ob (fX5_keepState S) fun u9 => ob (fX2_total (2 : Int32) (u9.2.1 0)) fun u10 => iter (bfX5_run_28 p1) FU (u10, (0 : Int32), u9) else bfX5_run_11 p1  S))
set_option maxHeartbeats 4000000 in
set_option maxRecDepth 100000 in
theorem kX5_run (l : Launch) (D : va_G) (cI cS : ClassId) (aR : Nat → Nat) (p1 : Int32) (S : RS) {q : Int32 × (RS)} (h : fX5_run p1 S = some q) : Mc l D (tyL cI cS) false yX5_run cX5_run 4 (some .int) 8 [.ref (aR 0), .int p1] (wR cI cS aR S) (some (.int q.1)) (wR cI cS aR q.2) := by
  refine Mc_of RX5 (by decide +kernel) rfl wc_X5_run (Nat.le_of_ble_eq_true rfl) ?_
  intro p e s m args below meth c A Q ls C hA hz hP hD hS hl RET
  have RETh : ∀ {pc : Nat} {ls : Array Slot} {H : Heap} {locs : List Loc} {x : Int32} {S1 : RS}, decode cX5_run pc = .ok (.ireturn, 1) → some (x, S1) = some q → va_P D vwCl (wR cI cS aR S1) H → va_D A (wR cI cS aR S1) → va_S A s.heap H locs → W p l e (rmL 8) s m args below meth c H locs 0 0 Q (F0 m pc ls [.int x]) := by
    intro pc ls H locs x S1 hd h hP hD hS; cases h; exact RET (x_iret C hd) hP hD hS
  have B28 : ∀ (n : Nat) (x : Int32 × Int32 × (RS)), iter (bfX5_run_28 p1) n x = some q → (match x with | (x2, x3, S) => ∀ (H : Heap) (locs : List Loc) (ls : Array Slot), va_P D vwCl (wR cI cS aR S) H → va_D A (wR cI cS aR S) → va_S A s.heap H locs → lv_has ls 4 [(0, .ref (aR 0)), (1, .int p1), (2, .int x2), (3, .int x3)] → W p l e (rmL 8) s m args below meth c H locs 0 0 Q (F0 m 28 ls [])) := by
    refine iter_ind (fun x : Int32 × Int32 × (RS) => (match x with | (x2, x3, S) => ∀ (H : Heap) (locs : List Loc) (ls : Array Slot), va_P D vwCl (wR cI cS aR S) H → va_D A (wR cI cS aR S) → va_S A s.heap H locs → lv_has ls 4 [(0, .ref (aR 0)), (1, .int p1), (2, .int x2), (3, .int x3)] → W p l e (rmL 8) s m args below meth c H locs 0 0 Q (F0 m 28 ls []))) ?_
    intro K28 ih28 x h
    obtain ⟨x2, x3, S⟩ := x
    intro H locs ls hP hD hS hl
    refine x_iload_n C dX5_run_28 rfl hl 3 rfl ?_
    refine x_iload_n C dX5_run_29 rfl hl 1 rfl ?_
    refine x_icmp_ge (tgt := 46) C h dX5_run_30 (by decide) (fun h => ?_) (fun h => ?_)
    · refine x_aload_n C dX5_run_46 rfl hl 0 rfl ?_
      refine x_get C inX5 hP 0 rfl rfl 0 (by decide) wf_X5_10 rfl dX5_run_47 ?_
      refine x_iconst (v := (2 : Int32)) C dX5_run_50 (by decide) ?_
      obtain ⟨u6, hu6, h⟩ := ob_some h
      refine x_callV (As := [.int _]) (n := 1) C (Mc.toR0 (X := S) (i := 0) (kX2_total l D cI cS (S.1 0) _ _ hu6) cS aR (by decide)) (fun hh => nomatch hh) wm_X5_78 wi_X2_total we_X2_total wz_X2 wc_X2_total (by decide +kernel) rfl hP hD hS hA 2 0 rfl rfl rfl hl.1 dX5_run_51 rfl (Nat.le_of_ble_eq_true rfl) ⟨Nat.le_of_ble_eq_true rfl, Nat.le_of_ble_eq_true rfl⟩ ⟨Nat.zero_le _, Nat.zero_le _⟩ (fun H locs hP hD hS => ?_)
      refine x_iload_n C dX5_run_54 rfl hl 2 rfl ?_
      refine x_isub C dX5_run_55 ?_
      exact RETh dX5_run_56 h hP hD hS
    · refine x_aload_n C dX5_run_33 rfl hl 0 rfl ?_
      refine x_get C inX5 hP 0 rfl rfl 0 (by decide) wf_X5_10 rfl dX5_run_34 ?_
      obtain ⟨u7, hu7, h⟩ := ob_some h
      refine x_callS (As := [.ref _]) (n := 1) C (Mc.toR (X := S) (i := 0) (kX4_pass l D cI cS (S.1 0) _ hu7) cS aR (by decide)) (fun hh => nomatch hh) wm_X5_81 wt_X4_pass wz_X4 wc_X4_pass (by decide +kernel) rfl hP hD hS hA hl.1 dX5_run_37 rfl (Nat.le_of_ble_eq_true rfl) ⟨Nat.le_of_ble_eq_true rfl, Nat.le_of_ble_eq_true rfl⟩ ⟨Nat.zero_le _, Nat.zero_le _⟩ (fun H locs hP hD hS => ?_)
      refine x_nmS (wR cI cS aR) h hP hD (fun S8 h hP hD => ?_)
      refine x_iinc (v := (x3 + (1 : Int32))) (lv' := [(3, .int (x3 + (1 : Int32))), (0, .ref (aR 0)), (1, .int p1), (2, .int x2)]) C dX5_run_40 hl (k := 3) rfl rfl (by decide) rfl (fun ls hl => ?_)
      refine x_goto (tgt := 28) C dX5_run_43 (by decide) ?_
      exact ih28 _ h _ _ _ hP hD hS (lv_sub hl [1, 2, 3, 0] rfl)
  have B11 : ∀ (S : RS), bfX5_run_11 p1 S = some q → ∀ (H : Heap) (locs : List Loc) (ls : Array Slot), va_P D vwCl (wR cI cS aR S) H → va_D A (wR cI cS aR S) → va_S A s.heap H locs → lv_has ls 4 [] → W p l e (rmL 8) s m args below meth c H locs 0 0 Q (F0 m 11 ls []) := by
    intro S h H locs ls hP hD hS hl
    refine x_iconst (v := (-1 : Int32)) C dX5_run_11 (by decide) ?_
    exact RETh dX5_run_12 h hP hD hS
  refine x_iload_n C dX5_run_0 rfl hl 1 rfl ?_
  refine x_iconst (v := (1 : Int32)) C dX5_run_1 (by decide) ?_
  refine x_icmp_lt (tgt := 11) C h dX5_run_2 (by decide) (fun h => ?_) (fun h => ?_)
  · exact B11 _ h _ _ _ hP hD hS (lv_sub hl [] rfl)
  · refine x_iload_n C dX5_run_5 rfl hl 1 rfl ?_
    refine x_bipush (v := (60 : Int32)) C dX5_run_6 (by decide) ?_
    refine x_icmp_le (tgt := 13) C h dX5_run_8 (by decide) (fun h => ?_) (fun h => ?_)
    · refine x_aload_n C dX5_run_13 rfl hl 0 rfl ?_
      obtain ⟨u9, hu9, h⟩ := ob_some h
      refine x_callV (As := []) (n := 0) C (kX5_keepState l D cI cS aR _ hu9) (fun hh => nomatch hh) wm_X5_34 wi_X5_keepState we_X5_keepState wz_X5 wc_X5_keepState (by decide +kernel) rfl hP hD hS hA 0 2 rfl rfl rfl hl.1 dX5_run_14 rfl (Nat.le_of_ble_eq_true rfl) ⟨Nat.le_of_ble_eq_true rfl, Nat.le_of_ble_eq_true rfl⟩ ⟨Nat.zero_le _, Nat.zero_le _⟩ (fun H locs hP hD hS => ?_)
      refine x_aload_n C dX5_run_17 rfl hl 0 rfl ?_
      refine x_get C inX5 hP 0 rfl rfl 0 (by decide) wf_X5_10 rfl dX5_run_18 ?_
      refine x_iconst (v := (2 : Int32)) C dX5_run_21 (by decide) ?_
      obtain ⟨u10, hu10, h⟩ := ob_some h
      refine x_callV (As := [.int _]) (n := 1) C (Mc.toR0 (X := u9) (i := 0) (kX2_total l D cI cS (u9.1 0) _ _ hu10) cS aR (by decide)) (fun hh => nomatch hh) wm_X5_78 wi_X2_total we_X2_total wz_X2 wc_X2_total (by decide +kernel) rfl hP hD hS hA 2 0 rfl rfl rfl hl.1 dX5_run_22 rfl (Nat.le_of_ble_eq_true rfl) ⟨Nat.le_of_ble_eq_true rfl, Nat.le_of_ble_eq_true rfl⟩ ⟨Nat.zero_le _, Nat.zero_le _⟩ (fun H locs hP hD hS => ?_)
      refine x_istore_n (lv' := [(2, .int u10), (0, .ref (aR 0)), (1, .int p1)]) C dX5_run_25 rfl hl (by decide) rfl (fun ls hl => ?_)
      refine x_iconst (v := (0 : Int32)) C dX5_run_26 (by decide) ?_
      refine x_istore_n (lv' := [(3, .int (0 : Int32)), (2, .int u10), (0, .ref (aR 0)), (1, .int p1)]) C dX5_run_27 rfl hl (by decide) rfl (fun ls hl => ?_)
      exact B28 FU _ h _ _ _ hP hD hS (lv_sub hl [2, 3, 1, 0] rfl)
    · exact B11 _ h _ _ _ hP hD hS (lv_sub hl [] rfl)
theorem dX5_set_0 : decode cX5_set 0 = .ok (.iload_n 1, 1) := by decide +kernel
theorem dX5_set_1 : decode cX5_set 1 = .ok (.invokestatic 23, 3) := by decide +kernel
theorem dX5_set_4 : decode cX5_set 4 = .ok (.ifCond .eq 31, 3) := by decide +kernel
theorem dX5_set_7 : decode cX5_set 7 = .ok (.iload_n 2, 1) := by decide +kernel
theorem dX5_set_8 : decode cX5_set 8 = .ok (.ifCond .lt 27, 3) := by decide +kernel
theorem dX5_set_11 : decode cX5_set 11 = .ok (.iload_n 2, 1) := by decide +kernel
theorem dX5_set_12 : decode cX5_set 12 = .ok (.bipush 12, 2) := by decide +kernel
theorem dX5_set_14 : decode cX5_set 14 = .ok (.if_icmp .ge 21, 3) := by decide +kernel
theorem dX5_set_17 : decode cX5_set 17 = .ok (.iload_n 3, 1) := by decide +kernel
theorem dX5_set_18 : decode cX5_set 18 = .ok (.getstatic 27, 3) := by decide +kernel
theorem dX5_set_21 : decode cX5_set 21 = .ok (.iload_n 2, 1) := by decide +kernel
theorem dX5_set_22 : decode cX5_set 22 = .ok (.iaload, 1) := by decide +kernel
theorem dX5_set_23 : decode cX5_set 23 = .ok (.if_icmp .lt 12, 3) := by decide +kernel
theorem dX5_set_26 : decode cX5_set 26 = .ok (.iload_n 3, 1) := by decide +kernel
theorem dX5_set_27 : decode cX5_set 27 = .ok (.getstatic 31, 3) := by decide +kernel
theorem dX5_set_30 : decode cX5_set 30 = .ok (.iload_n 2, 1) := by decide +kernel
theorem dX5_set_31 : decode cX5_set 31 = .ok (.iaload, 1) := by decide +kernel
theorem dX5_set_32 : decode cX5_set 32 = .ok (.if_icmp .le 5, 3) := by decide +kernel
theorem dX5_set_35 : decode cX5_set 35 = .ok (.iconst (-1), 1) := by decide +kernel
theorem dX5_set_36 : decode cX5_set 36 = .ok (.ireturn, 1) := by decide +kernel
theorem dX5_set_37 : decode cX5_set 37 = .ok (.aload_n 0, 1) := by decide +kernel
theorem dX5_set_38 : decode cX5_set 38 = .ok (.invokevirtual 34, 3) := by decide +kernel
theorem dX5_set_41 : decode cX5_set 41 = .ok (.aload_n 0, 1) := by decide +kernel
theorem dX5_set_42 : decode cX5_set 42 = .ok (.getfield 10, 3) := by decide +kernel
theorem dX5_set_45 : decode cX5_set 45 = .ok (.getfield 37, 3) := by decide +kernel
theorem dX5_set_48 : decode cX5_set 48 = .ok (.iload_n 1, 1) := by decide +kernel
theorem dX5_set_49 : decode cX5_set 49 = .ok (.iload_n 2, 1) := by decide +kernel
theorem dX5_set_50 : decode cX5_set 50 = .ok (.invokevirtual 41, 3) := by decide +kernel
theorem dX5_set_53 : decode cX5_set 53 = .ok (.istore 4, 2) := by decide +kernel
theorem dX5_set_55 : decode cX5_set 55 = .ok (.aload_n 0, 1) := by decide +kernel
theorem dX5_set_56 : decode cX5_set 56 = .ok (.getfield 10, 3) := by decide +kernel
theorem dX5_set_59 : decode cX5_set 59 = .ok (.getfield 37, 3) := by decide +kernel
theorem dX5_set_62 : decode cX5_set 62 = .ok (.iload_n 1, 1) := by decide +kernel
theorem dX5_set_63 : decode cX5_set 63 = .ok (.iload_n 2, 1) := by decide +kernel
theorem dX5_set_64 : decode cX5_set 64 = .ok (.iload_n 3, 1) := by decide +kernel
theorem dX5_set_65 : decode cX5_set 65 = .ok (.invokevirtual 47, 3) := by decide +kernel
theorem dX5_set_68 : decode cX5_set 68 = .ok (.iload_n 2, 1) := by decide +kernel
theorem dX5_set_69 : decode cX5_set 69 = .ok (.bipush 10, 2) := by decide +kernel
theorem dX5_set_71 : decode cX5_set 71 = .ok (.if_icmp .ne 20, 3) := by decide +kernel
theorem dX5_set_74 : decode cX5_set 74 = .ok (.aload_n 0, 1) := by decide +kernel
theorem dX5_set_75 : decode cX5_set 75 = .ok (.getfield 10, 3) := by decide +kernel
theorem dX5_set_78 : decode cX5_set 78 = .ok (.getfield 51, 3) := by decide +kernel
theorem dX5_set_81 : decode cX5_set 81 = .ok (.iload_n 1, 1) := by decide +kernel
theorem dX5_set_82 : decode cX5_set 82 = .ok (.bipush 7, 2) := by decide +kernel
theorem dX5_set_84 : decode cX5_set 84 = .ok (.bipush 10, 2) := by decide +kernel
theorem dX5_set_86 : decode cX5_set 86 = .ok (.iload_n 3, 1) := by decide +kernel
theorem dX5_set_87 : decode cX5_set 87 = .ok (.imul, 1) := by decide +kernel
theorem dX5_set_88 : decode cX5_set 88 = .ok (.invokevirtual 47, 3) := by decide +kernel
theorem dX5_set_91 : decode cX5_set 91 = .ok (.iload 4, 2) := by decide +kernel
theorem dX5_set_93 : decode cX5_set 93 = .ok (.ireturn, 1) := by decide +kernel
def bfX5_set_91 (p1 : Int32) (p2 : Int32) (p3 : Int32) (x4 : Int32) (S : RS) : Option (Int32 × (RS)) :=
  some (x4, S)
def bfX5_set_35 (p1 : Int32) (p2 : Int32) (p3 : Int32) (S : RS) : Option (Int32 × (RS)) :=
  some ((-1 : Int32), S)
def fX5_set (p1 : Int32) (p2 : Int32) (p3 : Int32) (S : RS) : Option (Int32 × (RS)) :=
  ob (fX5_isClient p1) fun u6 => (if u6 = 0 then bfX5_set_35 p1 p2 p3  S else (if p2 < 0 then bfX5_set_35 p1 p2 p3  S else (if (12 : Int32) ≤ p2 then bfX5_set_35 p1 p2 p3  S else (if okI p2 12 then (if p3 < (tabI leastL (p2).toNatClampNeg) then bfX5_set_35 p1 p2 p3  S else (if okI p2 12 then (if p3 ≤ (tabI mostL (p2).toNatClampNeg) then ob (fX5_keepState S) fun u7 => nm ((sget 0 (u7.2.1 0) p1 p2)) fun v8 => nm (rset u7 0 (sput 0 (u7.2.1 0) p1 p2 p3)) fun S9 => (if p2 = (10 : Int32) then nm (rset S9 0 (sput 1 (S9.2.1 0) p1 (7 : Int32) (((10 : Int32) * p3)))) fun S10 => bfX5_set_91 p1 p2 p3  v8 S10 else bfX5_set_91 p1 p2 p3  v8 S9) else bfX5_set_35 p1 p2 p3  S) else none)) else none))))
set_option maxHeartbeats 4000000 in
set_option maxRecDepth 100000 in
theorem kX5_set (l : Launch) (D : va_G) (cI cS : ClassId) (aR : Nat → Nat) (p1 : Int32) (p2 : Int32) (p3 : Int32) (S : RS) {q : Int32 × (RS)} (h : fX5_set p1 p2 p3 S = some q) : Mc l D (tyL cI cS) true yX5_set cX5_set 5 (some .int) 5 [.ref (aR 0), .int p1, .int p2, .int p3] (wR cI cS aR S) (some (.int q.1)) (wR cI cS aR q.2) := by
  refine Mc_of RX5 (by decide +kernel) rfl wc_X5_set (Nat.le_of_ble_eq_true rfl) ?_
  intro p e s m args below meth c A Q ls C hA hz hP hD hS hl RET
  obtain ⟨⟨aL, hL1, hL2⟩, ⟨aM, hM1, hM2⟩, -⟩ := hz rfl
  have RETh : ∀ {pc : Nat} {ls : Array Slot} {H : Heap} {locs : List Loc} {x : Int32} {S1 : RS}, decode cX5_set pc = .ok (.ireturn, 1) → some (x, S1) = some q → va_P D vwCl (wR cI cS aR S1) H → va_D A (wR cI cS aR S1) → va_S A s.heap H locs → W p l e (rmL 5) s m args below meth c H locs 0 0 Q (F0 m pc ls [.int x]) := by
    intro pc ls H locs x S1 hd h hP hD hS; cases h; exact RET (x_iret C hd) hP hD hS
  have B91 : ∀ (x4 : Int32) (S : RS), bfX5_set_91 p1 p2 p3 x4 S = some q → ∀ (H : Heap) (locs : List Loc) (ls : Array Slot), va_P D vwCl (wR cI cS aR S) H → va_D A (wR cI cS aR S) → va_S A s.heap H locs → lv_has ls 5 [(4, .int x4)] → W p l e (rmL 5) s m args below meth c H locs 0 0 Q (F0 m 91 ls []) := by
    intro x4 S h H locs ls hP hD hS hl
    refine x_iload C dX5_set_91 hl 0 rfl ?_
    exact RETh dX5_set_93 h hP hD hS
  have B35 : ∀ (S : RS), bfX5_set_35 p1 p2 p3 S = some q → ∀ (H : Heap) (locs : List Loc) (ls : Array Slot), va_P D vwCl (wR cI cS aR S) H → va_D A (wR cI cS aR S) → va_S A s.heap H locs → lv_has ls 5 [] → W p l e (rmL 5) s m args below meth c H locs 0 0 Q (F0 m 35 ls []) := by
    intro S h H locs ls hP hD hS hl
    refine x_iconst (v := (-1 : Int32)) C dX5_set_35 (by decide) ?_
    exact RETh dX5_set_36 h hP hD hS
  refine x_iload_n C dX5_set_0 rfl hl 1 rfl ?_
  obtain ⟨u6, hu6, h⟩ := ob_some h
  refine x_callS (As := [.int _]) (n := 1) C (kX5_isClient l D cI cS _ _ hu6) (fun hh => nomatch hh) wm_X5_23 wt_X5_isClient wz_X5 wc_X5_isClient (by decide +kernel) rfl hP hD hS hA hl.1 dX5_set_1 rfl (Nat.le_of_ble_eq_true rfl) ⟨Nat.le_of_ble_eq_true rfl, Nat.le_of_ble_eq_true rfl⟩ ⟨Nat.zero_le _, Nat.zero_le _⟩ (fun H locs hP hD hS => ?_)
  refine x_if_eq (tgt := 35) C h dX5_set_4 (by decide) (fun h => ?_) (fun h => ?_)
  · exact B35 _ h _ _ _ hP hD hS (lv_sub hl [] rfl)
  · refine x_iload_n C dX5_set_7 rfl hl 2 rfl ?_
    refine x_if_lt (tgt := 35) C h dX5_set_8 (by decide) (fun h => ?_) (fun h => ?_)
    · exact B35 _ h _ _ _ hP hD hS (lv_sub hl [] rfl)
    · refine x_iload_n C dX5_set_11 rfl hl 2 rfl ?_
      refine x_bipush (v := (12 : Int32)) C dX5_set_12 (by decide) ?_
      refine x_icmp_ge (tgt := 35) C h dX5_set_14 (by decide) (fun h => ?_) (fun h => ?_)
      · exact B35 _ h _ _ _ hP hD hS (lv_sub hl [] rfl)
      · refine x_iload_n C dX5_set_17 rfl hl 3 rfl ?_
        refine x_gets C hL1 hS wf_X5_27 dX5_set_18 ?_
        refine x_iload_n C dX5_set_21 rfl hl 2 rfl ?_
        refine x_tald C hL2 hS h dX5_set_22 (fun h => ?_)
        refine x_icmp_lt (tgt := 35) C h dX5_set_23 (by decide) (fun h => ?_) (fun h => ?_)
        · exact B35 _ h _ _ _ hP hD hS (lv_sub hl [] rfl)
        · refine x_iload_n C dX5_set_26 rfl hl 3 rfl ?_
          refine x_gets C hM1 hS wf_X5_31 dX5_set_27 ?_
          refine x_iload_n C dX5_set_30 rfl hl 2 rfl ?_
          refine x_tald C hM2 hS h dX5_set_31 (fun h => ?_)
          refine x_icmp_le (tgt := 37) C h dX5_set_32 (by decide) (fun h => ?_) (fun h => ?_)
          · refine x_aload_n C dX5_set_37 rfl hl 0 rfl ?_
            obtain ⟨u7, hu7, h⟩ := ob_some h
            refine x_callV (As := []) (n := 0) C (kX5_keepState l D cI cS aR _ hu7) (fun hh => nomatch hh) wm_X5_34 wi_X5_keepState we_X5_keepState wz_X5 wc_X5_keepState (by decide +kernel) rfl hP hD hS hA 0 2 rfl rfl rfl hl.1 dX5_set_38 rfl (Nat.le_of_ble_eq_true rfl) ⟨Nat.le_of_ble_eq_true rfl, Nat.le_of_ble_eq_true rfl⟩ ⟨Nat.zero_le _, Nat.zero_le _⟩ (fun H locs hP hD hS => ?_)
            refine x_aload_n C dX5_set_41 rfl hl 0 rfl ?_
            refine x_get C inX5 hP 0 rfl rfl 0 (by decide) wf_X5_10 rfl dX5_set_42 ?_
            refine x_get C inX2 hP 2 rfl rfl 0 (by decide) wf_X5_37 rfl dX5_set_45 ?_
            refine x_iload_n C dX5_set_48 rfl hl 1 rfl ?_
            refine x_iload_n C dX5_set_49 rfl hl 2 rfl ?_
            refine x_callV (As := [.int _, .int _]) (n := 2) C (Mc.toR0 (X := u7) (i := 0) (kS_get l D cI cS (u7.1 0) _ 0 (by decide) _ _) cS aR (by decide)) (fun hh => nomatch hh) wm_X5_41 wi_X3_get we_X3_get wz_X3 wc_X3_get (by decide +kernel) rfl hP hD hS hA 3 1 rfl rfl rfl hl.1 dX5_set_50 rfl (Nat.le_of_ble_eq_true rfl) ⟨Nat.le_of_ble_eq_true rfl, Nat.le_of_ble_eq_true rfl⟩ ⟨Nat.zero_le _, Nat.zero_le _⟩ (fun H locs hP hD hS => ?_)
            refine x_nmi h (fun v8 h => ?_)
            refine x_istore (lv' := [(4, .int v8), (0, .ref (aR 0)), (1, .int p1), (2, .int p2), (3, .int p3)]) C dX5_set_53 hl (by decide) rfl (fun ls hl => ?_)
            refine x_aload_n C dX5_set_55 rfl hl 1 rfl ?_
            refine x_get C inX5 hP 0 rfl rfl 0 (by decide) wf_X5_10 rfl dX5_set_56 ?_
            refine x_get C inX2 hP 2 rfl rfl 0 (by decide) wf_X5_37 rfl dX5_set_59 ?_
            refine x_iload_n C dX5_set_62 rfl hl 2 rfl ?_
            refine x_iload_n C dX5_set_63 rfl hl 3 rfl ?_
            refine x_iload_n C dX5_set_64 rfl hl 4 rfl ?_
            refine x_callV (As := [.int _, .int _, .int _]) (n := 3) C (Mc.toR (X := u7) (i := 0) (kS_put l D cI cS (u7.1 0) _ 0 (by decide) _ _ _) cS aR (by decide)) (fun hh => nomatch hh) wm_X5_47 wi_X3_put we_X3_put wz_X3 wc_X3_put (by decide +kernel) rfl hP hD hS hA 3 1 rfl rfl rfl hl.1 dX5_set_65 rfl (Nat.le_of_ble_eq_true rfl) ⟨Nat.le_of_ble_eq_true rfl, Nat.le_of_ble_eq_true rfl⟩ ⟨Nat.zero_le _, Nat.zero_le _⟩ (fun H locs hP hD hS => ?_)
            refine x_nmS (wR cI cS aR) h hP hD (fun S9 h hP hD => ?_)
            refine x_iload_n C dX5_set_68 rfl hl 3 rfl ?_
            refine x_bipush (v := (10 : Int32)) C dX5_set_69 (by decide) ?_
            refine x_icmp_ne (tgt := 91) C h dX5_set_71 (by decide) (fun h => ?_) (fun h => ?_)
            · exact B91 _ _ h _ _ _ hP hD hS (lv_sub hl [0] rfl)
            · refine x_aload_n C dX5_set_74 rfl hl 1 rfl ?_
              refine x_get C inX5 hP 0 rfl rfl 0 (by decide) wf_X5_10 rfl dX5_set_75 ?_
              refine x_get C inX2 hP 2 rfl rfl 1 (by decide) wf_X5_51 rfl dX5_set_78 ?_
              refine x_iload_n C dX5_set_81 rfl hl 2 rfl ?_
              refine x_bipush (v := (7 : Int32)) C dX5_set_82 (by decide) ?_
              refine x_bipush (v := (10 : Int32)) C dX5_set_84 (by decide) ?_
              refine x_iload_n C dX5_set_86 rfl hl 4 rfl ?_
              refine x_imul C dX5_set_87 ?_
              refine x_callV (As := [.int _, .int _, .int _]) (n := 3) C (Mc.toR (X := S9) (i := 0) (kS_put l D cI cS (S9.1 0) _ 1 (by decide) _ _ _) cS aR (by decide)) (fun hh => nomatch hh) wm_X5_47 wi_X3_put we_X3_put wz_X3 wc_X3_put (by decide +kernel) rfl hP hD hS hA 5 1 rfl rfl rfl hl.1 dX5_set_88 rfl (Nat.le_of_ble_eq_true rfl) ⟨Nat.le_of_ble_eq_true rfl, Nat.le_of_ble_eq_true rfl⟩ ⟨Nat.zero_le _, Nat.zero_le _⟩ (fun H locs hP hD hS => ?_)
              refine x_nmS (wR cI cS aR) h hP hD (fun S10 h hP hD => ?_)
              exact B91 _ _ h _ _ _ hP hD hS (lv_sub hl [0] rfl)
          · exact B35 _ h _ _ _ hP hD hS (lv_sub hl [] rfl)
theorem dX5_setDiscipline_0 : decode cX5_setDiscipline 0 = .ok (.iload_n 1, 1) := by decide +kernel
theorem dX5_setDiscipline_1 : decode cX5_setDiscipline 1 = .ok (.ifCond .lt 8, 3) := by decide +kernel
theorem dX5_setDiscipline_4 : decode cX5_setDiscipline 4 = .ok (.iload_n 1, 1) := by decide +kernel
theorem dX5_setDiscipline_5 : decode cX5_setDiscipline 5 = .ok (.iconst 4, 1) := by decide +kernel
theorem dX5_setDiscipline_6 : decode cX5_setDiscipline 6 = .ok (.if_icmp .lt 5, 3) := by decide +kernel
theorem dX5_setDiscipline_9 : decode cX5_setDiscipline 9 = .ok (.iconst (-1), 1) := by decide +kernel
theorem dX5_setDiscipline_10 : decode cX5_setDiscipline 10 = .ok (.ireturn, 1) := by decide +kernel
theorem dX5_setDiscipline_11 : decode cX5_setDiscipline 11 = .ok (.aload_n 0, 1) := by decide +kernel
theorem dX5_setDiscipline_12 : decode cX5_setDiscipline 12 = .ok (.invokevirtual 34, 3) := by decide +kernel
theorem dX5_setDiscipline_15 : decode cX5_setDiscipline 15 = .ok (.aload_n 0, 1) := by decide +kernel
theorem dX5_setDiscipline_16 : decode cX5_setDiscipline 16 = .ok (.getfield 10, 3) := by decide +kernel
theorem dX5_setDiscipline_19 : decode cX5_setDiscipline 19 = .ok (.getfield 65, 3) := by decide +kernel
theorem dX5_setDiscipline_22 : decode cX5_setDiscipline 22 = .ok (.istore_n 2, 1) := by decide +kernel
theorem dX5_setDiscipline_23 : decode cX5_setDiscipline 23 = .ok (.aload_n 0, 1) := by decide +kernel
theorem dX5_setDiscipline_24 : decode cX5_setDiscipline 24 = .ok (.getfield 10, 3) := by decide +kernel
theorem dX5_setDiscipline_27 : decode cX5_setDiscipline 27 = .ok (.iload_n 1, 1) := by decide +kernel
theorem dX5_setDiscipline_28 : decode cX5_setDiscipline 28 = .ok (.putfield 65, 3) := by decide +kernel
theorem dX5_setDiscipline_31 : decode cX5_setDiscipline 31 = .ok (.iload_n 2, 1) := by decide +kernel
theorem dX5_setDiscipline_32 : decode cX5_setDiscipline 32 = .ok (.ireturn, 1) := by decide +kernel
def bfX5_setDiscipline_9 (p1 : Int32) (S : RS) : Option (Int32 × (RS)) :=
  some ((-1 : Int32), S)
def fX5_setDiscipline (p1 : Int32) (S : RS) : Option (Int32 × (RS)) :=
  (if p1 < 0 then bfX5_setDiscipline_9 p1  S else (if p1 < (4 : Int32) then ob (fX5_keepState S) fun u3 => nm (rset u3 0 ((u3.2.1 0).1, upd (u3.2.1 0).2 11 p1)) fun S4 => some (((u3.2.1 0).2 11), S4) else bfX5_setDiscipline_9 p1  S))
set_option maxHeartbeats 4000000 in
set_option maxRecDepth 100000 in
theorem kX5_setDiscipline (l : Launch) (D : va_G) (cI cS : ClassId) (aR : Nat → Nat) (p1 : Int32) (S : RS) {q : Int32 × (RS)} (h : fX5_setDiscipline p1 S = some q) : Mc l D (tyL cI cS) false yX5_setDiscipline cX5_setDiscipline 3 (some .int) 5 [.ref (aR 0), .int p1] (wR cI cS aR S) (some (.int q.1)) (wR cI cS aR q.2) := by
  refine Mc_of RX5 (by decide +kernel) rfl wc_X5_setDiscipline (Nat.le_of_ble_eq_true rfl) ?_
  intro p e s m args below meth c A Q ls C hA hz hP hD hS hl RET
  have RETh : ∀ {pc : Nat} {ls : Array Slot} {H : Heap} {locs : List Loc} {x : Int32} {S1 : RS}, decode cX5_setDiscipline pc = .ok (.ireturn, 1) → some (x, S1) = some q → va_P D vwCl (wR cI cS aR S1) H → va_D A (wR cI cS aR S1) → va_S A s.heap H locs → W p l e (rmL 5) s m args below meth c H locs 0 0 Q (F0 m pc ls [.int x]) := by
    intro pc ls H locs x S1 hd h hP hD hS; cases h; exact RET (x_iret C hd) hP hD hS
  have B9 : ∀ (S : RS), bfX5_setDiscipline_9 p1 S = some q → ∀ (H : Heap) (locs : List Loc) (ls : Array Slot), va_P D vwCl (wR cI cS aR S) H → va_D A (wR cI cS aR S) → va_S A s.heap H locs → lv_has ls 3 [] → W p l e (rmL 5) s m args below meth c H locs 0 0 Q (F0 m 9 ls []) := by
    intro S h H locs ls hP hD hS hl
    refine x_iconst (v := (-1 : Int32)) C dX5_setDiscipline_9 (by decide) ?_
    exact RETh dX5_setDiscipline_10 h hP hD hS
  refine x_iload_n C dX5_setDiscipline_0 rfl hl 1 rfl ?_
  refine x_if_lt (tgt := 9) C h dX5_setDiscipline_1 (by decide) (fun h => ?_) (fun h => ?_)
  · exact B9 _ h _ _ _ hP hD hS (lv_sub hl [] rfl)
  · refine x_iload_n C dX5_setDiscipline_4 rfl hl 1 rfl ?_
    refine x_iconst (v := (4 : Int32)) C dX5_setDiscipline_5 (by decide) ?_
    refine x_icmp_lt (tgt := 11) C h dX5_setDiscipline_6 (by decide) (fun h => ?_) (fun h => ?_)
    · refine x_aload_n C dX5_setDiscipline_11 rfl hl 0 rfl ?_
      obtain ⟨u3, hu3, h⟩ := ob_some h
      refine x_callV (As := []) (n := 0) C (kX5_keepState l D cI cS aR _ hu3) (fun hh => nomatch hh) wm_X5_34 wi_X5_keepState we_X5_keepState wz_X5 wc_X5_keepState (by decide +kernel) rfl hP hD hS hA 0 2 rfl rfl rfl hl.1 dX5_setDiscipline_12 rfl (Nat.le_of_ble_eq_true rfl) ⟨Nat.le_of_ble_eq_true rfl, Nat.le_of_ble_eq_true rfl⟩ ⟨Nat.zero_le _, Nat.zero_le _⟩ (fun H locs hP hD hS => ?_)
      refine x_aload_n C dX5_setDiscipline_15 rfl hl 0 rfl ?_
      refine x_get C inX5 hP 0 rfl rfl 0 (by decide) wf_X5_10 rfl dX5_setDiscipline_16 ?_
      refine x_get C inX2 hP 2 rfl rfl 11 (by decide) wf_X5_65 rfl dX5_setDiscipline_19 ?_
      refine x_istore_n (lv' := [(2, .int ((u3.2.1 0).2 11)), (0, .ref (aR 0)), (1, .int p1)]) C dX5_setDiscipline_22 rfl hl (by decide) rfl (fun ls hl => ?_)
      refine x_aload_n C dX5_setDiscipline_23 rfl hl 1 rfl ?_
      refine x_get C inX5 hP 0 rfl rfl 0 (by decide) wf_X5_10 rfl dX5_setDiscipline_24 ?_
      refine x_iload_n C dX5_setDiscipline_27 rfl hl 2 rfl ?_
      refine x_putM (wR cI cS aR) C h inX2 tyX2 tyX2_ok nmX2 hP hD hS 2 rfl rfl 11 (by decide) wf_X5_65 rfl (ft := .int) (by decide +kernel) rfl rfl (Nat.le_of_ble_eq_true rfl) rfl dX5_setDiscipline_28 (fun S4 h H locs hP hD hS => ?_)
      refine x_iload_n C dX5_setDiscipline_31 rfl hl 0 rfl ?_
      exact RETh dX5_setDiscipline_32 h hP hD hS
    · exact B9 _ h _ _ _ hP hD hS (lv_sub hl [] rfl)
theorem dX5_setServer_0 : decode cX5_setServer 0 = .ok (.iload_n 1, 1) := by decide +kernel
theorem dX5_setServer_1 : decode cX5_setServer 1 = .ok (.ifCond .lt 21, 3) := by decide +kernel
theorem dX5_setServer_4 : decode cX5_setServer 4 = .ok (.iload_n 1, 1) := by decide +kernel
theorem dX5_setServer_5 : decode cX5_setServer 5 = .ok (.iconst 4, 1) := by decide +kernel
theorem dX5_setServer_6 : decode cX5_setServer 6 = .ok (.if_icmp .ge 16, 3) := by decide +kernel
theorem dX5_setServer_9 : decode cX5_setServer 9 = .ok (.iload_n 2, 1) := by decide +kernel
theorem dX5_setServer_10 : decode cX5_setServer 10 = .ok (.iconst 1, 1) := by decide +kernel
theorem dX5_setServer_11 : decode cX5_setServer 11 = .ok (.if_icmp .lt 11, 3) := by decide +kernel
theorem dX5_setServer_14 : decode cX5_setServer 14 = .ok (.iload_n 2, 1) := by decide +kernel
theorem dX5_setServer_15 : decode cX5_setServer 15 = .ok (.iload_n 1, 1) := by decide +kernel
theorem dX5_setServer_16 : decode cX5_setServer 16 = .ok (.invokestatic 54, 3) := by decide +kernel
theorem dX5_setServer_19 : decode cX5_setServer 19 = .ok (.if_icmp .le 5, 3) := by decide +kernel
theorem dX5_setServer_22 : decode cX5_setServer 22 = .ok (.iconst (-1), 1) := by decide +kernel
theorem dX5_setServer_23 : decode cX5_setServer 23 = .ok (.ireturn, 1) := by decide +kernel
theorem dX5_setServer_24 : decode cX5_setServer 24 = .ok (.aload_n 0, 1) := by decide +kernel
theorem dX5_setServer_25 : decode cX5_setServer 25 = .ok (.iload_n 1, 1) := by decide +kernel
theorem dX5_setServer_26 : decode cX5_setServer 26 = .ok (.iload_n 2, 1) := by decide +kernel
theorem dX5_setServer_27 : decode cX5_setServer 27 = .ok (.invokevirtual 58, 3) := by decide +kernel
theorem dX5_setServer_30 : decode cX5_setServer 30 = .ok (.ifCond .eq 6, 3) := by decide +kernel
theorem dX5_setServer_33 : decode cX5_setServer 33 = .ok (.bipush (-2), 2) := by decide +kernel
theorem dX5_setServer_35 : decode cX5_setServer 35 = .ok (.ireturn, 1) := by decide +kernel
theorem dX5_setServer_36 : decode cX5_setServer 36 = .ok (.aload_n 0, 1) := by decide +kernel
theorem dX5_setServer_37 : decode cX5_setServer 37 = .ok (.invokevirtual 34, 3) := by decide +kernel
theorem dX5_setServer_40 : decode cX5_setServer 40 = .ok (.aload_n 0, 1) := by decide +kernel
theorem dX5_setServer_41 : decode cX5_setServer 41 = .ok (.getfield 10, 3) := by decide +kernel
theorem dX5_setServer_44 : decode cX5_setServer 44 = .ok (.getfield 62, 3) := by decide +kernel
theorem dX5_setServer_47 : decode cX5_setServer 47 = .ok (.iload_n 1, 1) := by decide +kernel
theorem dX5_setServer_48 : decode cX5_setServer 48 = .ok (.iconst 0, 1) := by decide +kernel
theorem dX5_setServer_49 : decode cX5_setServer 49 = .ok (.invokevirtual 41, 3) := by decide +kernel
theorem dX5_setServer_52 : decode cX5_setServer 52 = .ok (.istore_n 3, 1) := by decide +kernel
theorem dX5_setServer_53 : decode cX5_setServer 53 = .ok (.aload_n 0, 1) := by decide +kernel
theorem dX5_setServer_54 : decode cX5_setServer 54 = .ok (.getfield 10, 3) := by decide +kernel
theorem dX5_setServer_57 : decode cX5_setServer 57 = .ok (.getfield 62, 3) := by decide +kernel
theorem dX5_setServer_60 : decode cX5_setServer 60 = .ok (.iload_n 1, 1) := by decide +kernel
theorem dX5_setServer_61 : decode cX5_setServer 61 = .ok (.iconst 0, 1) := by decide +kernel
theorem dX5_setServer_62 : decode cX5_setServer 62 = .ok (.iload_n 2, 1) := by decide +kernel
theorem dX5_setServer_63 : decode cX5_setServer 63 = .ok (.invokevirtual 47, 3) := by decide +kernel
theorem dX5_setServer_66 : decode cX5_setServer 66 = .ok (.iload_n 3, 1) := by decide +kernel
theorem dX5_setServer_67 : decode cX5_setServer 67 = .ok (.ireturn, 1) := by decide +kernel
def bfX5_setServer_22 (p1 : Int32) (p2 : Int32) (S : RS) : Option (Int32 × (RS)) :=
  some ((-1 : Int32), S)
def fX5_setServer (p1 : Int32) (p2 : Int32) (S : RS) : Option (Int32 × (RS)) :=
  (if p1 < 0 then bfX5_setServer_22 p1 p2  S else (if (4 : Int32) ≤ p1 then bfX5_setServer_22 p1 p2  S else (if p2 < (1 : Int32) then bfX5_setServer_22 p1 p2  S else ob (fX5_mostOfServer p1) fun u6 => (if p2 ≤ u6 then ob (fX5_isInUseBeyond p1 p2 S) fun u7 => (if u7 = 0 then ob (fX5_keepState S) fun u8 => nm ((sget 3 (u8.2.1 0) p1 (0 : Int32))) fun v9 => nm (rset u8 0 (sput 3 (u8.2.1 0) p1 (0 : Int32) p2)) fun S10 => some (v9, S10) else some ((-2 : Int32), S)) else bfX5_setServer_22 p1 p2  S))))
set_option maxHeartbeats 4000000 in
set_option maxRecDepth 100000 in
theorem kX5_setServer (l : Launch) (D : va_G) (cI cS : ClassId) (aR : Nat → Nat) (p1 : Int32) (p2 : Int32) (S : RS) {q : Int32 × (RS)} (h : fX5_setServer p1 p2 S = some q) : Mc l D (tyL cI cS) false yX5_setServer cX5_setServer 4 (some .int) 5 [.ref (aR 0), .int p1, .int p2] (wR cI cS aR S) (some (.int q.1)) (wR cI cS aR q.2) := by
  refine Mc_of RX5 (by decide +kernel) rfl wc_X5_setServer (Nat.le_of_ble_eq_true rfl) ?_
  intro p e s m args below meth c A Q ls C hA hz hP hD hS hl RET
  have RETh : ∀ {pc : Nat} {ls : Array Slot} {H : Heap} {locs : List Loc} {x : Int32} {S1 : RS}, decode cX5_setServer pc = .ok (.ireturn, 1) → some (x, S1) = some q → va_P D vwCl (wR cI cS aR S1) H → va_D A (wR cI cS aR S1) → va_S A s.heap H locs → W p l e (rmL 5) s m args below meth c H locs 0 0 Q (F0 m pc ls [.int x]) := by
    intro pc ls H locs x S1 hd h hP hD hS; cases h; exact RET (x_iret C hd) hP hD hS
  have B22 : ∀ (S : RS), bfX5_setServer_22 p1 p2 S = some q → ∀ (H : Heap) (locs : List Loc) (ls : Array Slot), va_P D vwCl (wR cI cS aR S) H → va_D A (wR cI cS aR S) → va_S A s.heap H locs → lv_has ls 4 [] → W p l e (rmL 5) s m args below meth c H locs 0 0 Q (F0 m 22 ls []) := by
    intro S h H locs ls hP hD hS hl
    refine x_iconst (v := (-1 : Int32)) C dX5_setServer_22 (by decide) ?_
    exact RETh dX5_setServer_23 h hP hD hS
  refine x_iload_n C dX5_setServer_0 rfl hl 1 rfl ?_
  refine x_if_lt (tgt := 22) C h dX5_setServer_1 (by decide) (fun h => ?_) (fun h => ?_)
  · exact B22 _ h _ _ _ hP hD hS (lv_sub hl [] rfl)
  · refine x_iload_n C dX5_setServer_4 rfl hl 1 rfl ?_
    refine x_iconst (v := (4 : Int32)) C dX5_setServer_5 (by decide) ?_
    refine x_icmp_ge (tgt := 22) C h dX5_setServer_6 (by decide) (fun h => ?_) (fun h => ?_)
    · exact B22 _ h _ _ _ hP hD hS (lv_sub hl [] rfl)
    · refine x_iload_n C dX5_setServer_9 rfl hl 2 rfl ?_
      refine x_iconst (v := (1 : Int32)) C dX5_setServer_10 (by decide) ?_
      refine x_icmp_lt (tgt := 22) C h dX5_setServer_11 (by decide) (fun h => ?_) (fun h => ?_)
      · exact B22 _ h _ _ _ hP hD hS (lv_sub hl [] rfl)
      · refine x_iload_n C dX5_setServer_14 rfl hl 2 rfl ?_
        refine x_iload_n C dX5_setServer_15 rfl hl 1 rfl ?_
        obtain ⟨u6, hu6, h⟩ := ob_some h
        refine x_callS (As := [.int _]) (n := 1) C (kX5_mostOfServer l D cI cS _ _ hu6) (fun hh => nomatch hh) wm_X5_54 wt_X5_mostOfServer wz_X5 wc_X5_mostOfServer (by decide +kernel) rfl hP hD hS hA hl.1 dX5_setServer_16 rfl (Nat.le_of_ble_eq_true rfl) ⟨Nat.le_of_ble_eq_true rfl, Nat.le_of_ble_eq_true rfl⟩ ⟨Nat.zero_le _, Nat.zero_le _⟩ (fun H locs hP hD hS => ?_)
        refine x_icmp_le (tgt := 24) C h dX5_setServer_19 (by decide) (fun h => ?_) (fun h => ?_)
        · refine x_aload_n C dX5_setServer_24 rfl hl 0 rfl ?_
          refine x_iload_n C dX5_setServer_25 rfl hl 1 rfl ?_
          refine x_iload_n C dX5_setServer_26 rfl hl 2 rfl ?_
          obtain ⟨u7, hu7, h⟩ := ob_some h
          refine x_callV (As := [.int _, .int _]) (n := 2) C (kX5_isInUseBeyond l D cI cS aR _ _ _ hu7) (fun hh => nomatch hh) wm_X5_58 wi_X5_isInUseBeyond we_X5_isInUseBeyond wz_X5 wc_X5_isInUseBeyond (by decide +kernel) rfl hP hD hS hA 0 2 rfl rfl rfl hl.1 dX5_setServer_27 rfl (Nat.le_of_ble_eq_true rfl) ⟨Nat.le_of_ble_eq_true rfl, Nat.le_of_ble_eq_true rfl⟩ ⟨Nat.zero_le _, Nat.zero_le _⟩ (fun H locs hP hD hS => ?_)
          refine x_if_eq (tgt := 36) C h dX5_setServer_30 (by decide) (fun h => ?_) (fun h => ?_)
          · refine x_aload_n C dX5_setServer_36 rfl hl 0 rfl ?_
            obtain ⟨u8, hu8, h⟩ := ob_some h
            refine x_callV (As := []) (n := 0) C (kX5_keepState l D cI cS aR _ hu8) (fun hh => nomatch hh) wm_X5_34 wi_X5_keepState we_X5_keepState wz_X5 wc_X5_keepState (by decide +kernel) rfl hP hD hS hA 0 2 rfl rfl rfl hl.1 dX5_setServer_37 rfl (Nat.le_of_ble_eq_true rfl) ⟨Nat.le_of_ble_eq_true rfl, Nat.le_of_ble_eq_true rfl⟩ ⟨Nat.zero_le _, Nat.zero_le _⟩ (fun H locs hP hD hS => ?_)
            refine x_aload_n C dX5_setServer_40 rfl hl 0 rfl ?_
            refine x_get C inX5 hP 0 rfl rfl 0 (by decide) wf_X5_10 rfl dX5_setServer_41 ?_
            refine x_get C inX2 hP 2 rfl rfl 3 (by decide) wf_X5_62 rfl dX5_setServer_44 ?_
            refine x_iload_n C dX5_setServer_47 rfl hl 1 rfl ?_
            refine x_iconst (v := (0 : Int32)) C dX5_setServer_48 (by decide) ?_
            refine x_callV (As := [.int _, .int _]) (n := 2) C (Mc.toR0 (X := u8) (i := 0) (kS_get l D cI cS (u8.1 0) _ 3 (by decide) _ _) cS aR (by decide)) (fun hh => nomatch hh) wm_X5_41 wi_X3_get we_X3_get wz_X3 wc_X3_get (by decide +kernel) rfl hP hD hS hA 9 1 rfl rfl rfl hl.1 dX5_setServer_49 rfl (Nat.le_of_ble_eq_true rfl) ⟨Nat.le_of_ble_eq_true rfl, Nat.le_of_ble_eq_true rfl⟩ ⟨Nat.zero_le _, Nat.zero_le _⟩ (fun H locs hP hD hS => ?_)
            refine x_nmi h (fun v9 h => ?_)
            refine x_istore_n (lv' := [(3, .int v9), (0, .ref (aR 0)), (1, .int p1), (2, .int p2)]) C dX5_setServer_52 rfl hl (by decide) rfl (fun ls hl => ?_)
            refine x_aload_n C dX5_setServer_53 rfl hl 1 rfl ?_
            refine x_get C inX5 hP 0 rfl rfl 0 (by decide) wf_X5_10 rfl dX5_setServer_54 ?_
            refine x_get C inX2 hP 2 rfl rfl 3 (by decide) wf_X5_62 rfl dX5_setServer_57 ?_
            refine x_iload_n C dX5_setServer_60 rfl hl 2 rfl ?_
            refine x_iconst (v := (0 : Int32)) C dX5_setServer_61 (by decide) ?_
            refine x_iload_n C dX5_setServer_62 rfl hl 3 rfl ?_
            refine x_callV (As := [.int _, .int _, .int _]) (n := 3) C (Mc.toR (X := u8) (i := 0) (kS_put l D cI cS (u8.1 0) _ 3 (by decide) _ _ _) cS aR (by decide)) (fun hh => nomatch hh) wm_X5_47 wi_X3_put we_X3_put wz_X3 wc_X3_put (by decide +kernel) rfl hP hD hS hA 9 1 rfl rfl rfl hl.1 dX5_setServer_63 rfl (Nat.le_of_ble_eq_true rfl) ⟨Nat.le_of_ble_eq_true rfl, Nat.le_of_ble_eq_true rfl⟩ ⟨Nat.zero_le _, Nat.zero_le _⟩ (fun H locs hP hD hS => ?_)
            refine x_nmS (wR cI cS aR) h hP hD (fun S10 h hP hD => ?_)
            refine x_iload_n C dX5_setServer_66 rfl hl 0 rfl ?_
            exact RETh dX5_setServer_67 h hP hD hS
          · refine x_bipush (v := (-2 : Int32)) C dX5_setServer_33 (by decide) ?_
            exact RETh dX5_setServer_35 h hP hD hS
        · exact B22 _ h _ _ _ hP hD hS (lv_sub hl [] rfl)
theorem dX5_setSwitch_0 : decode cX5_setSwitch 0 = .ok (.iload_n 1, 1) := by decide +kernel
theorem dX5_setSwitch_1 : decode cX5_setSwitch 1 = .ok (.ifCond .lt 8, 3) := by decide +kernel
theorem dX5_setSwitch_4 : decode cX5_setSwitch 4 = .ok (.iload_n 1, 1) := by decide +kernel
theorem dX5_setSwitch_5 : decode cX5_setSwitch 5 = .ok (.iconst 3, 1) := by decide +kernel
theorem dX5_setSwitch_6 : decode cX5_setSwitch 6 = .ok (.if_icmp .lt 5, 3) := by decide +kernel
theorem dX5_setSwitch_9 : decode cX5_setSwitch 9 = .ok (.iconst (-1), 1) := by decide +kernel
theorem dX5_setSwitch_10 : decode cX5_setSwitch 10 = .ok (.ireturn, 1) := by decide +kernel
theorem dX5_setSwitch_11 : decode cX5_setSwitch 11 = .ok (.aload_n 0, 1) := by decide +kernel
theorem dX5_setSwitch_12 : decode cX5_setSwitch 12 = .ok (.invokevirtual 34, 3) := by decide +kernel
theorem dX5_setSwitch_15 : decode cX5_setSwitch 15 = .ok (.aload_n 0, 1) := by decide +kernel
theorem dX5_setSwitch_16 : decode cX5_setSwitch 16 = .ok (.getfield 10, 3) := by decide +kernel
theorem dX5_setSwitch_19 : decode cX5_setSwitch 19 = .ok (.getfield 69, 3) := by decide +kernel
theorem dX5_setSwitch_22 : decode cX5_setSwitch 22 = .ok (.iload_n 1, 1) := by decide +kernel
theorem dX5_setSwitch_23 : decode cX5_setSwitch 23 = .ok (.iconst 0, 1) := by decide +kernel
theorem dX5_setSwitch_24 : decode cX5_setSwitch 24 = .ok (.invokevirtual 41, 3) := by decide +kernel
theorem dX5_setSwitch_27 : decode cX5_setSwitch 27 = .ok (.istore_n 3, 1) := by decide +kernel
theorem dX5_setSwitch_28 : decode cX5_setSwitch 28 = .ok (.aload_n 0, 1) := by decide +kernel
theorem dX5_setSwitch_29 : decode cX5_setSwitch 29 = .ok (.getfield 10, 3) := by decide +kernel
theorem dX5_setSwitch_32 : decode cX5_setSwitch 32 = .ok (.getfield 69, 3) := by decide +kernel
theorem dX5_setSwitch_35 : decode cX5_setSwitch 35 = .ok (.iload_n 1, 1) := by decide +kernel
theorem dX5_setSwitch_36 : decode cX5_setSwitch 36 = .ok (.iconst 0, 1) := by decide +kernel
theorem dX5_setSwitch_37 : decode cX5_setSwitch 37 = .ok (.iload_n 2, 1) := by decide +kernel
theorem dX5_setSwitch_38 : decode cX5_setSwitch 38 = .ok (.ifCond .eq 7, 3) := by decide +kernel
theorem dX5_setSwitch_41 : decode cX5_setSwitch 41 = .ok (.iconst 1, 1) := by decide +kernel
theorem dX5_setSwitch_42 : decode cX5_setSwitch 42 = .ok (.goto 4, 3) := by decide +kernel
theorem dX5_setSwitch_45 : decode cX5_setSwitch 45 = .ok (.iconst 0, 1) := by decide +kernel
theorem dX5_setSwitch_46 : decode cX5_setSwitch 46 = .ok (.invokevirtual 47, 3) := by decide +kernel
theorem dX5_setSwitch_49 : decode cX5_setSwitch 49 = .ok (.iload_n 3, 1) := by decide +kernel
theorem dX5_setSwitch_50 : decode cX5_setSwitch 50 = .ok (.ireturn, 1) := by decide +kernel
def bfX5_setSwitch_46 (p1 : Int32) (p2 : Int32) (x3 : Int32) (s1 : Int32) (s2 : Int32) (s3 : Int32) (S : RS) : Option (Int32 × (RS)) :=
  nm (rset S 0 (sput 4 (S.2.1 0) s1 s2 s3)) fun S4 => some (x3, S4)
def bfX5_setSwitch_9 (p1 : Int32) (p2 : Int32) (S : RS) : Option (Int32 × (RS)) :=
  some ((-1 : Int32), S)
def fX5_setSwitch (p1 : Int32) (p2 : Int32) (S : RS) : Option (Int32 × (RS)) :=
  (if p1 < 0 then bfX5_setSwitch_9 p1 p2  S else (if p1 < (3 : Int32) then ob (fX5_keepState S) fun u5 => nm ((sget 4 (u5.2.1 0) p1 (0 : Int32))) fun v6 => (if p2 = 0 then bfX5_setSwitch_46 p1 p2  v6 p1 ((0 : Int32)) ((0 : Int32)) u5 else bfX5_setSwitch_46 p1 p2  v6 p1 ((0 : Int32)) ((1 : Int32)) u5) else bfX5_setSwitch_9 p1 p2  S))
set_option maxHeartbeats 4000000 in
set_option maxRecDepth 100000 in
theorem kX5_setSwitch (l : Launch) (D : va_G) (cI cS : ClassId) (aR : Nat → Nat) (p1 : Int32) (p2 : Int32) (S : RS) {q : Int32 × (RS)} (h : fX5_setSwitch p1 p2 S = some q) : Mc l D (tyL cI cS) false yX5_setSwitch cX5_setSwitch 4 (some .int) 5 [.ref (aR 0), .int p1, .int p2] (wR cI cS aR S) (some (.int q.1)) (wR cI cS aR q.2) := by
  refine Mc_of RX5 (by decide +kernel) rfl wc_X5_setSwitch (Nat.le_of_ble_eq_true rfl) ?_
  intro p e s m args below meth c A Q ls C hA hz hP hD hS hl RET
  have RETh : ∀ {pc : Nat} {ls : Array Slot} {H : Heap} {locs : List Loc} {x : Int32} {S1 : RS}, decode cX5_setSwitch pc = .ok (.ireturn, 1) → some (x, S1) = some q → va_P D vwCl (wR cI cS aR S1) H → va_D A (wR cI cS aR S1) → va_S A s.heap H locs → W p l e (rmL 5) s m args below meth c H locs 0 0 Q (F0 m pc ls [.int x]) := by
    intro pc ls H locs x S1 hd h hP hD hS; cases h; exact RET (x_iret C hd) hP hD hS
  have B46 : ∀ (x3 : Int32) (s1 : Int32) (s2 : Int32) (s3 : Int32) (S : RS), bfX5_setSwitch_46 p1 p2 x3 s1 s2 s3 S = some q → ∀ (H : Heap) (locs : List Loc) (ls : Array Slot), va_P D vwCl (wR cI cS aR S) H → va_D A (wR cI cS aR S) → va_S A s.heap H locs → lv_has ls 4 [(3, .int x3)] → W p l e (rmL 5) s m args below meth c H locs 0 0 Q (F0 m 46 ls [.int s3, .int s2, .int s1, .ref (S.1 0 9)]) := by
    intro x3 s1 s2 s3 S h H locs ls hP hD hS hl
    refine x_callV (As := [.int _, .int _, .int _]) (n := 3) C (Mc.toR (X := S) (i := 0) (kS_put l D cI cS (S.1 0) _ 4 (by decide) _ _ _) cS aR (by decide)) (fun hh => nomatch hh) wm_X5_47 wi_X3_put we_X3_put wz_X3 wc_X3_put (by decide +kernel) rfl hP hD hS hA 11 1 rfl rfl rfl hl.1 dX5_setSwitch_46 rfl (Nat.le_of_ble_eq_true rfl) ⟨Nat.le_of_ble_eq_true rfl, Nat.le_of_ble_eq_true rfl⟩ ⟨Nat.zero_le _, Nat.zero_le _⟩ (fun H locs hP hD hS => ?_)
    refine x_nmS (wR cI cS aR) h hP hD (fun S4 h hP hD => ?_)
    refine x_iload_n C dX5_setSwitch_49 rfl hl 0 rfl ?_
    exact RETh dX5_setSwitch_50 h hP hD hS
  have B9 : ∀ (S : RS), bfX5_setSwitch_9 p1 p2 S = some q → ∀ (H : Heap) (locs : List Loc) (ls : Array Slot), va_P D vwCl (wR cI cS aR S) H → va_D A (wR cI cS aR S) → va_S A s.heap H locs → lv_has ls 4 [] → W p l e (rmL 5) s m args below meth c H locs 0 0 Q (F0 m 9 ls []) := by
    intro S h H locs ls hP hD hS hl
    refine x_iconst (v := (-1 : Int32)) C dX5_setSwitch_9 (by decide) ?_
    exact RETh dX5_setSwitch_10 h hP hD hS
  refine x_iload_n C dX5_setSwitch_0 rfl hl 1 rfl ?_
  refine x_if_lt (tgt := 9) C h dX5_setSwitch_1 (by decide) (fun h => ?_) (fun h => ?_)
  · exact B9 _ h _ _ _ hP hD hS (lv_sub hl [] rfl)
  · refine x_iload_n C dX5_setSwitch_4 rfl hl 1 rfl ?_
    refine x_iconst (v := (3 : Int32)) C dX5_setSwitch_5 (by decide) ?_
    refine x_icmp_lt (tgt := 11) C h dX5_setSwitch_6 (by decide) (fun h => ?_) (fun h => ?_)
    · refine x_aload_n C dX5_setSwitch_11 rfl hl 0 rfl ?_
      obtain ⟨u5, hu5, h⟩ := ob_some h
      refine x_callV (As := []) (n := 0) C (kX5_keepState l D cI cS aR _ hu5) (fun hh => nomatch hh) wm_X5_34 wi_X5_keepState we_X5_keepState wz_X5 wc_X5_keepState (by decide +kernel) rfl hP hD hS hA 0 2 rfl rfl rfl hl.1 dX5_setSwitch_12 rfl (Nat.le_of_ble_eq_true rfl) ⟨Nat.le_of_ble_eq_true rfl, Nat.le_of_ble_eq_true rfl⟩ ⟨Nat.zero_le _, Nat.zero_le _⟩ (fun H locs hP hD hS => ?_)
      refine x_aload_n C dX5_setSwitch_15 rfl hl 0 rfl ?_
      refine x_get C inX5 hP 0 rfl rfl 0 (by decide) wf_X5_10 rfl dX5_setSwitch_16 ?_
      refine x_get C inX2 hP 2 rfl rfl 4 (by decide) wf_X5_69 rfl dX5_setSwitch_19 ?_
      refine x_iload_n C dX5_setSwitch_22 rfl hl 1 rfl ?_
      refine x_iconst (v := (0 : Int32)) C dX5_setSwitch_23 (by decide) ?_
      refine x_callV (As := [.int _, .int _]) (n := 2) C (Mc.toR0 (X := u5) (i := 0) (kS_get l D cI cS (u5.1 0) _ 4 (by decide) _ _) cS aR (by decide)) (fun hh => nomatch hh) wm_X5_41 wi_X3_get we_X3_get wz_X3 wc_X3_get (by decide +kernel) rfl hP hD hS hA 11 1 rfl rfl rfl hl.1 dX5_setSwitch_24 rfl (Nat.le_of_ble_eq_true rfl) ⟨Nat.le_of_ble_eq_true rfl, Nat.le_of_ble_eq_true rfl⟩ ⟨Nat.zero_le _, Nat.zero_le _⟩ (fun H locs hP hD hS => ?_)
      refine x_nmi h (fun v6 h => ?_)
      refine x_istore_n (lv' := [(3, .int v6), (0, .ref (aR 0)), (1, .int p1), (2, .int p2)]) C dX5_setSwitch_27 rfl hl (by decide) rfl (fun ls hl => ?_)
      refine x_aload_n C dX5_setSwitch_28 rfl hl 1 rfl ?_
      refine x_get C inX5 hP 0 rfl rfl 0 (by decide) wf_X5_10 rfl dX5_setSwitch_29 ?_
      refine x_get C inX2 hP 2 rfl rfl 4 (by decide) wf_X5_69 rfl dX5_setSwitch_32 ?_
      refine x_iload_n C dX5_setSwitch_35 rfl hl 2 rfl ?_
      refine x_iconst (v := (0 : Int32)) C dX5_setSwitch_36 (by decide) ?_
      refine x_iload_n C dX5_setSwitch_37 rfl hl 3 rfl ?_
      refine x_if_eq (tgt := 45) C h dX5_setSwitch_38 (by decide) (fun h => ?_) (fun h => ?_)
      · refine x_iconst (v := (0 : Int32)) C dX5_setSwitch_45 (by decide) ?_
        exact B46 _ _ _ _ _ h _ _ _ hP hD hS (lv_sub hl [0] rfl)
      · refine x_iconst (v := (1 : Int32)) C dX5_setSwitch_41 (by decide) ?_
        refine x_goto (tgt := 46) C dX5_setSwitch_42 (by decide) ?_
        exact B46 _ _ _ _ _ h _ _ _ hP hD hS (lv_sub hl [0] rfl)
    · exact B9 _ h _ _ _ hP hD hS (lv_sub hl [] rfl)
theorem dX5_surge_0 : decode cX5_surge 0 = .ok (.iload_n 1, 1) := by decide +kernel
theorem dX5_surge_1 : decode cX5_surge 1 = .ok (.invokestatic 23, 3) := by decide +kernel
theorem dX5_surge_4 : decode cX5_surge 4 = .ok (.ifCond .eq 36, 3) := by decide +kernel
theorem dX5_surge_7 : decode cX5_surge 7 = .ok (.iload_n 2, 1) := by decide +kernel
theorem dX5_surge_8 : decode cX5_surge 8 = .ok (.iconst 1, 1) := by decide +kernel
theorem dX5_surge_9 : decode cX5_surge 9 = .ok (.if_icmp .lt 31, 3) := by decide +kernel
theorem dX5_surge_12 : decode cX5_surge 12 = .ok (.iload_n 2, 1) := by decide +kernel
theorem dX5_surge_13 : decode cX5_surge 13 = .ok (.iconst 4, 1) := by decide +kernel
theorem dX5_surge_14 : decode cX5_surge 14 = .ok (.if_icmp .gt 26, 3) := by decide +kernel
theorem dX5_surge_17 : decode cX5_surge 17 = .ok (.iload_n 3, 1) := by decide +kernel
theorem dX5_surge_18 : decode cX5_surge 18 = .ok (.ifCond .lt 22, 3) := by decide +kernel
theorem dX5_surge_21 : decode cX5_surge 21 = .ok (.iload_n 3, 1) := by decide +kernel
theorem dX5_surge_22 : decode cX5_surge 22 = .ok (.bipush 100, 2) := by decide +kernel
theorem dX5_surge_24 : decode cX5_surge 24 = .ok (.if_icmp .gt 16, 3) := by decide +kernel
theorem dX5_surge_27 : decode cX5_surge 27 = .ok (.iload 4, 2) := by decide +kernel
theorem dX5_surge_29 : decode cX5_surge 29 = .ok (.iconst 1, 1) := by decide +kernel
theorem dX5_surge_30 : decode cX5_surge 30 = .ok (.if_icmp .lt 10, 3) := by decide +kernel
theorem dX5_surge_33 : decode cX5_surge 33 = .ok (.iload 4, 2) := by decide +kernel
theorem dX5_surge_35 : decode cX5_surge 35 = .ok (.bipush 100, 2) := by decide +kernel
theorem dX5_surge_37 : decode cX5_surge 37 = .ok (.if_icmp .le 5, 3) := by decide +kernel
theorem dX5_surge_40 : decode cX5_surge 40 = .ok (.iconst (-1), 1) := by decide +kernel
theorem dX5_surge_41 : decode cX5_surge 41 = .ok (.ireturn, 1) := by decide +kernel
theorem dX5_surge_42 : decode cX5_surge 42 = .ok (.aload_n 0, 1) := by decide +kernel
theorem dX5_surge_43 : decode cX5_surge 43 = .ok (.invokevirtual 34, 3) := by decide +kernel
theorem dX5_surge_46 : decode cX5_surge 46 = .ok (.aload_n 0, 1) := by decide +kernel
theorem dX5_surge_47 : decode cX5_surge 47 = .ok (.getfield 10, 3) := by decide +kernel
theorem dX5_surge_50 : decode cX5_surge 50 = .ok (.getfield 72, 3) := by decide +kernel
theorem dX5_surge_53 : decode cX5_surge 53 = .ok (.iload_n 3, 1) := by decide +kernel
theorem dX5_surge_54 : decode cX5_surge 54 = .ok (.iadd, 1) := by decide +kernel
theorem dX5_surge_55 : decode cX5_surge 55 = .ok (.istore 5, 2) := by decide +kernel
theorem dX5_surge_57 : decode cX5_surge 57 = .ok (.aload_n 0, 1) := by decide +kernel
theorem dX5_surge_58 : decode cX5_surge 58 = .ok (.getfield 10, 3) := by decide +kernel
theorem dX5_surge_61 : decode cX5_surge 61 = .ok (.getfield 75, 3) := by decide +kernel
theorem dX5_surge_64 : decode cX5_surge 64 = .ok (.iload_n 1, 1) := by decide +kernel
theorem dX5_surge_65 : decode cX5_surge 65 = .ok (.iconst 0, 1) := by decide +kernel
theorem dX5_surge_66 : decode cX5_surge 66 = .ok (.iload_n 2, 1) := by decide +kernel
theorem dX5_surge_67 : decode cX5_surge 67 = .ok (.invokevirtual 47, 3) := by decide +kernel
theorem dX5_surge_70 : decode cX5_surge 70 = .ok (.aload_n 0, 1) := by decide +kernel
theorem dX5_surge_71 : decode cX5_surge 71 = .ok (.getfield 10, 3) := by decide +kernel
theorem dX5_surge_74 : decode cX5_surge 74 = .ok (.getfield 75, 3) := by decide +kernel
theorem dX5_surge_77 : decode cX5_surge 77 = .ok (.iload_n 1, 1) := by decide +kernel
theorem dX5_surge_78 : decode cX5_surge 78 = .ok (.iconst 1, 1) := by decide +kernel
theorem dX5_surge_79 : decode cX5_surge 79 = .ok (.iload 5, 2) := by decide +kernel
theorem dX5_surge_81 : decode cX5_surge 81 = .ok (.invokevirtual 47, 3) := by decide +kernel
theorem dX5_surge_84 : decode cX5_surge 84 = .ok (.aload_n 0, 1) := by decide +kernel
theorem dX5_surge_85 : decode cX5_surge 85 = .ok (.getfield 10, 3) := by decide +kernel
theorem dX5_surge_88 : decode cX5_surge 88 = .ok (.getfield 75, 3) := by decide +kernel
theorem dX5_surge_91 : decode cX5_surge 91 = .ok (.iload_n 1, 1) := by decide +kernel
theorem dX5_surge_92 : decode cX5_surge 92 = .ok (.iconst 2, 1) := by decide +kernel
theorem dX5_surge_93 : decode cX5_surge 93 = .ok (.iload 5, 2) := by decide +kernel
theorem dX5_surge_95 : decode cX5_surge 95 = .ok (.iload 4, 2) := by decide +kernel
theorem dX5_surge_97 : decode cX5_surge 97 = .ok (.iadd, 1) := by decide +kernel
theorem dX5_surge_98 : decode cX5_surge 98 = .ok (.invokevirtual 47, 3) := by decide +kernel
theorem dX5_surge_101 : decode cX5_surge 101 = .ok (.iload 5, 2) := by decide +kernel
theorem dX5_surge_103 : decode cX5_surge 103 = .ok (.iload 4, 2) := by decide +kernel
theorem dX5_surge_105 : decode cX5_surge 105 = .ok (.iadd, 1) := by decide +kernel
theorem dX5_surge_106 : decode cX5_surge 106 = .ok (.ireturn, 1) := by decide +kernel
def bfX5_surge_40 (p1 : Int32) (p2 : Int32) (p3 : Int32) (p4 : Int32) (S : RS) : Option (Int32 × (RS)) :=
  some ((-1 : Int32), S)
def fX5_surge (p1 : Int32) (p2 : Int32) (p3 : Int32) (p4 : Int32) (S : RS) : Option (Int32 × (RS)) :=
  ob (fX5_isClient p1) fun u7 => (if u7 = 0 then bfX5_surge_40 p1 p2 p3 p4  S else (if p2 < (1 : Int32) then bfX5_surge_40 p1 p2 p3 p4  S else (if (4 : Int32) < p2 then bfX5_surge_40 p1 p2 p3 p4  S else (if p3 < 0 then bfX5_surge_40 p1 p2 p3 p4  S else (if (100 : Int32) < p3 then bfX5_surge_40 p1 p2 p3 p4  S else (if p4 < (1 : Int32) then bfX5_surge_40 p1 p2 p3 p4  S else (if p4 ≤ (100 : Int32) then ob (fX5_keepState S) fun u8 => nm ((((u8.2.1 0).2 12) + p3)) fun v9 => nm (rset u8 0 (sput 2 (u8.2.1 0) p1 (0 : Int32) p2)) fun S10 => nm (rset S10 0 (sput 2 (S10.2.1 0) p1 (1 : Int32) v9)) fun S11 => nm (rset S11 0 (sput 2 (S11.2.1 0) p1 (2 : Int32) ((v9 + p4)))) fun S12 => some ((v9 + p4), S12) else bfX5_surge_40 p1 p2 p3 p4  S)))))))
set_option maxHeartbeats 4000000 in
set_option maxRecDepth 100000 in
theorem kX5_surge (l : Launch) (D : va_G) (cI cS : ClassId) (aR : Nat → Nat) (p1 : Int32) (p2 : Int32) (p3 : Int32) (p4 : Int32) (S : RS) {q : Int32 × (RS)} (h : fX5_surge p1 p2 p3 p4 S = some q) : Mc l D (tyL cI cS) false yX5_surge cX5_surge 6 (some .int) 5 [.ref (aR 0), .int p1, .int p2, .int p3, .int p4] (wR cI cS aR S) (some (.int q.1)) (wR cI cS aR q.2) := by
  refine Mc_of RX5 (by decide +kernel) rfl wc_X5_surge (Nat.le_of_ble_eq_true rfl) ?_
  intro p e s m args below meth c A Q ls C hA hz hP hD hS hl RET
  have RETh : ∀ {pc : Nat} {ls : Array Slot} {H : Heap} {locs : List Loc} {x : Int32} {S1 : RS}, decode cX5_surge pc = .ok (.ireturn, 1) → some (x, S1) = some q → va_P D vwCl (wR cI cS aR S1) H → va_D A (wR cI cS aR S1) → va_S A s.heap H locs → W p l e (rmL 5) s m args below meth c H locs 0 0 Q (F0 m pc ls [.int x]) := by
    intro pc ls H locs x S1 hd h hP hD hS; cases h; exact RET (x_iret C hd) hP hD hS
  have B40 : ∀ (S : RS), bfX5_surge_40 p1 p2 p3 p4 S = some q → ∀ (H : Heap) (locs : List Loc) (ls : Array Slot), va_P D vwCl (wR cI cS aR S) H → va_D A (wR cI cS aR S) → va_S A s.heap H locs → lv_has ls 6 [] → W p l e (rmL 5) s m args below meth c H locs 0 0 Q (F0 m 40 ls []) := by
    intro S h H locs ls hP hD hS hl
    refine x_iconst (v := (-1 : Int32)) C dX5_surge_40 (by decide) ?_
    exact RETh dX5_surge_41 h hP hD hS
  refine x_iload_n C dX5_surge_0 rfl hl 1 rfl ?_
  obtain ⟨u7, hu7, h⟩ := ob_some h
  refine x_callS (As := [.int _]) (n := 1) C (kX5_isClient l D cI cS _ _ hu7) (fun hh => nomatch hh) wm_X5_23 wt_X5_isClient wz_X5 wc_X5_isClient (by decide +kernel) rfl hP hD hS hA hl.1 dX5_surge_1 rfl (Nat.le_of_ble_eq_true rfl) ⟨Nat.le_of_ble_eq_true rfl, Nat.le_of_ble_eq_true rfl⟩ ⟨Nat.zero_le _, Nat.zero_le _⟩ (fun H locs hP hD hS => ?_)
  refine x_if_eq (tgt := 40) C h dX5_surge_4 (by decide) (fun h => ?_) (fun h => ?_)
  · exact B40 _ h _ _ _ hP hD hS (lv_sub hl [] rfl)
  · refine x_iload_n C dX5_surge_7 rfl hl 2 rfl ?_
    refine x_iconst (v := (1 : Int32)) C dX5_surge_8 (by decide) ?_
    refine x_icmp_lt (tgt := 40) C h dX5_surge_9 (by decide) (fun h => ?_) (fun h => ?_)
    · exact B40 _ h _ _ _ hP hD hS (lv_sub hl [] rfl)
    · refine x_iload_n C dX5_surge_12 rfl hl 2 rfl ?_
      refine x_iconst (v := (4 : Int32)) C dX5_surge_13 (by decide) ?_
      refine x_icmp_gt (tgt := 40) C h dX5_surge_14 (by decide) (fun h => ?_) (fun h => ?_)
      · exact B40 _ h _ _ _ hP hD hS (lv_sub hl [] rfl)
      · refine x_iload_n C dX5_surge_17 rfl hl 3 rfl ?_
        refine x_if_lt (tgt := 40) C h dX5_surge_18 (by decide) (fun h => ?_) (fun h => ?_)
        · exact B40 _ h _ _ _ hP hD hS (lv_sub hl [] rfl)
        · refine x_iload_n C dX5_surge_21 rfl hl 3 rfl ?_
          refine x_bipush (v := (100 : Int32)) C dX5_surge_22 (by decide) ?_
          refine x_icmp_gt (tgt := 40) C h dX5_surge_24 (by decide) (fun h => ?_) (fun h => ?_)
          · exact B40 _ h _ _ _ hP hD hS (lv_sub hl [] rfl)
          · refine x_iload C dX5_surge_27 hl 4 rfl ?_
            refine x_iconst (v := (1 : Int32)) C dX5_surge_29 (by decide) ?_
            refine x_icmp_lt (tgt := 40) C h dX5_surge_30 (by decide) (fun h => ?_) (fun h => ?_)
            · exact B40 _ h _ _ _ hP hD hS (lv_sub hl [] rfl)
            · refine x_iload C dX5_surge_33 hl 4 rfl ?_
              refine x_bipush (v := (100 : Int32)) C dX5_surge_35 (by decide) ?_
              refine x_icmp_le (tgt := 42) C h dX5_surge_37 (by decide) (fun h => ?_) (fun h => ?_)
              · refine x_aload_n C dX5_surge_42 rfl hl 0 rfl ?_
                obtain ⟨u8, hu8, h⟩ := ob_some h
                refine x_callV (As := []) (n := 0) C (kX5_keepState l D cI cS aR _ hu8) (fun hh => nomatch hh) wm_X5_34 wi_X5_keepState we_X5_keepState wz_X5 wc_X5_keepState (by decide +kernel) rfl hP hD hS hA 0 2 rfl rfl rfl hl.1 dX5_surge_43 rfl (Nat.le_of_ble_eq_true rfl) ⟨Nat.le_of_ble_eq_true rfl, Nat.le_of_ble_eq_true rfl⟩ ⟨Nat.zero_le _, Nat.zero_le _⟩ (fun H locs hP hD hS => ?_)
                refine x_aload_n C dX5_surge_46 rfl hl 0 rfl ?_
                refine x_get C inX5 hP 0 rfl rfl 0 (by decide) wf_X5_10 rfl dX5_surge_47 ?_
                refine x_get C inX2 hP 2 rfl rfl 12 (by decide) wf_X5_72 rfl dX5_surge_50 ?_
                refine x_iload_n C dX5_surge_53 rfl hl 3 rfl ?_
                refine x_iadd C dX5_surge_54 ?_
                refine x_nmi h (fun v9 h => ?_)
                refine x_istore (lv' := [(5, .int v9), (0, .ref (aR 0)), (1, .int p1), (2, .int p2), (3, .int p3), (4, .int p4)]) C dX5_surge_55 hl (by decide) rfl (fun ls hl => ?_)
                refine x_aload_n C dX5_surge_57 rfl hl 1 rfl ?_
                refine x_get C inX5 hP 0 rfl rfl 0 (by decide) wf_X5_10 rfl dX5_surge_58 ?_
                refine x_get C inX2 hP 2 rfl rfl 2 (by decide) wf_X5_75 rfl dX5_surge_61 ?_
                refine x_iload_n C dX5_surge_64 rfl hl 2 rfl ?_
                refine x_iconst (v := (0 : Int32)) C dX5_surge_65 (by decide) ?_
                refine x_iload_n C dX5_surge_66 rfl hl 3 rfl ?_
                refine x_callV (As := [.int _, .int _, .int _]) (n := 3) C (Mc.toR (X := u8) (i := 0) (kS_put l D cI cS (u8.1 0) _ 2 (by decide) _ _ _) cS aR (by decide)) (fun hh => nomatch hh) wm_X5_47 wi_X3_put we_X3_put wz_X3 wc_X3_put (by decide +kernel) rfl hP hD hS hA 7 1 rfl rfl rfl hl.1 dX5_surge_67 rfl (Nat.le_of_ble_eq_true rfl) ⟨Nat.le_of_ble_eq_true rfl, Nat.le_of_ble_eq_true rfl⟩ ⟨Nat.zero_le _, Nat.zero_le _⟩ (fun H locs hP hD hS => ?_)
                refine x_nmS (wR cI cS aR) h hP hD (fun S10 h hP hD => ?_)
                refine x_aload_n C dX5_surge_70 rfl hl 1 rfl ?_
                refine x_get C inX5 hP 0 rfl rfl 0 (by decide) wf_X5_10 rfl dX5_surge_71 ?_
                refine x_get C inX2 hP 2 rfl rfl 2 (by decide) wf_X5_75 rfl dX5_surge_74 ?_
                refine x_iload_n C dX5_surge_77 rfl hl 2 rfl ?_
                refine x_iconst (v := (1 : Int32)) C dX5_surge_78 (by decide) ?_
                refine x_iload C dX5_surge_79 hl 0 rfl ?_
                refine x_callV (As := [.int _, .int _, .int _]) (n := 3) C (Mc.toR (X := S10) (i := 0) (kS_put l D cI cS (S10.1 0) _ 2 (by decide) _ _ _) cS aR (by decide)) (fun hh => nomatch hh) wm_X5_47 wi_X3_put we_X3_put wz_X3 wc_X3_put (by decide +kernel) rfl hP hD hS hA 7 1 rfl rfl rfl hl.1 dX5_surge_81 rfl (Nat.le_of_ble_eq_true rfl) ⟨Nat.le_of_ble_eq_true rfl, Nat.le_of_ble_eq_true rfl⟩ ⟨Nat.zero_le _, Nat.zero_le _⟩ (fun H locs hP hD hS => ?_)
                refine x_nmS (wR cI cS aR) h hP hD (fun S11 h hP hD => ?_)
                refine x_aload_n C dX5_surge_84 rfl hl 1 rfl ?_
                refine x_get C inX5 hP 0 rfl rfl 0 (by decide) wf_X5_10 rfl dX5_surge_85 ?_
                refine x_get C inX2 hP 2 rfl rfl 2 (by decide) wf_X5_75 rfl dX5_surge_88 ?_
                refine x_iload_n C dX5_surge_91 rfl hl 2 rfl ?_
                refine x_iconst (v := (2 : Int32)) C dX5_surge_92 (by decide) ?_
                refine x_iload C dX5_surge_93 hl 0 rfl ?_
                refine x_iload C dX5_surge_95 hl 5 rfl ?_
                refine x_iadd C dX5_surge_97 ?_
                refine x_callV (As := [.int _, .int _, .int _]) (n := 3) C (Mc.toR (X := S11) (i := 0) (kS_put l D cI cS (S11.1 0) _ 2 (by decide) _ _ _) cS aR (by decide)) (fun hh => nomatch hh) wm_X5_47 wi_X3_put we_X3_put wz_X3 wc_X3_put (by decide +kernel) rfl hP hD hS hA 7 1 rfl rfl rfl hl.1 dX5_surge_98 rfl (Nat.le_of_ble_eq_true rfl) ⟨Nat.le_of_ble_eq_true rfl, Nat.le_of_ble_eq_true rfl⟩ ⟨Nat.zero_le _, Nat.zero_le _⟩ (fun H locs hP hD hS => ?_)
                refine x_nmS (wR cI cS aR) h hP hD (fun S12 h hP hD => ?_)
                refine x_iload C dX5_surge_101 hl 0 rfl ?_
                refine x_iload C dX5_surge_103 hl 5 rfl ?_
                refine x_iadd C dX5_surge_105 ?_
                exact RETh dX5_surge_106 h hP hD hS
              · exact B40 _ h _ _ _ hP hD hS (lv_sub hl [] rfl)
theorem dX5_undo_0 : decode cX5_undo 0 = .ok (.aload_n 0, 1) := by decide +kernel
theorem dX5_undo_1 : decode cX5_undo 1 = .ok (.getfield 124, 3) := by decide +kernel
theorem dX5_undo_4 : decode cX5_undo 4 = .ok (.iconst 1, 1) := by decide +kernel
theorem dX5_undo_5 : decode cX5_undo 5 = .ok (.if_icmp .lt 15, 3) := by decide +kernel
theorem dX5_undo_8 : decode cX5_undo 8 = .ok (.aload_n 0, 1) := by decide +kernel
theorem dX5_undo_9 : decode cX5_undo 9 = .ok (.getfield 124, 3) := by decide +kernel
theorem dX5_undo_12 : decode cX5_undo 12 = .ok (.aload_n 0, 1) := by decide +kernel
theorem dX5_undo_13 : decode cX5_undo 13 = .ok (.getfield 19, 3) := by decide +kernel
theorem dX5_undo_16 : decode cX5_undo 16 = .ok (.arraylength, 1) := by decide +kernel
theorem dX5_undo_17 : decode cX5_undo 17 = .ok (.if_icmp .le 6, 3) := by decide +kernel
theorem dX5_undo_20 : decode cX5_undo 20 = .ok (.bipush (-2), 2) := by decide +kernel
theorem dX5_undo_22 : decode cX5_undo 22 = .ok (.ireturn, 1) := by decide +kernel
theorem dX5_undo_23 : decode cX5_undo 23 = .ok (.aload_n 0, 1) := by decide +kernel
theorem dX5_undo_24 : decode cX5_undo 24 = .ok (.dup, 1) := by decide +kernel
theorem dX5_undo_25 : decode cX5_undo 25 = .ok (.getfield 124, 3) := by decide +kernel
theorem dX5_undo_28 : decode cX5_undo 28 = .ok (.iconst 1, 1) := by decide +kernel
theorem dX5_undo_29 : decode cX5_undo 29 = .ok (.isub, 1) := by decide +kernel
theorem dX5_undo_30 : decode cX5_undo 30 = .ok (.putfield 124, 3) := by decide +kernel
theorem dX5_undo_33 : decode cX5_undo 33 = .ok (.aload_n 0, 1) := by decide +kernel
theorem dX5_undo_34 : decode cX5_undo 34 = .ok (.getfield 19, 3) := by decide +kernel
theorem dX5_undo_37 : decode cX5_undo 37 = .ok (.aload_n 0, 1) := by decide +kernel
theorem dX5_undo_38 : decode cX5_undo 38 = .ok (.getfield 124, 3) := by decide +kernel
theorem dX5_undo_41 : decode cX5_undo 41 = .ok (.aaload, 1) := by decide +kernel
theorem dX5_undo_42 : decode cX5_undo 42 = .ok (.astore_n 1, 1) := by decide +kernel
theorem dX5_undo_43 : decode cX5_undo 43 = .ok (.aload_n 1, 1) := by decide +kernel
theorem dX5_undo_44 : decode cX5_undo 44 = .ok (.ifnull 11, 3) := by decide +kernel
theorem dX5_undo_47 : decode cX5_undo 47 = .ok (.aload_n 0, 1) := by decide +kernel
theorem dX5_undo_48 : decode cX5_undo 48 = .ok (.getfield 10, 3) := by decide +kernel
theorem dX5_undo_51 : decode cX5_undo 51 = .ok (.aload_n 1, 1) := by decide +kernel
theorem dX5_undo_52 : decode cX5_undo 52 = .ok (.invokevirtual 146, 3) := by decide +kernel
theorem dX5_undo_55 : decode cX5_undo 55 = .ok (.aload_n 0, 1) := by decide +kernel
theorem dX5_undo_56 : decode cX5_undo 56 = .ok (.getfield 124, 3) := by decide +kernel
theorem dX5_undo_59 : decode cX5_undo 59 = .ok (.ireturn, 1) := by decide +kernel
def bfX5_undo_20  (S : RS) : Option (Int32 × (RS)) :=
  some ((-2 : Int32), S)
def fX5_undo  (S : RS) : Option (Int32 × (RS)) :=
  (if S.2.2 < (1 : Int32) then bfX5_undo_20   S else (if S.2.2 ≤ (4 : Int32) then nm (S.1, S.2.1, (S.2.2 - (1 : Int32))) fun S4 => (if okI S4.2.2 4 then nm (rset S4 0 (S4.2.1 ((S4.2.2).toNatClampNeg + 2))) fun S6 => some (S6.2.2, S6) else none) else bfX5_undo_20   S))
set_option maxHeartbeats 4000000 in
set_option maxRecDepth 100000 in
theorem kX5_undo (l : Launch) (D : va_G) (cI cS : ClassId) (aR : Nat → Nat)  (S : RS) {q : Int32 × (RS)} (h : fX5_undo  S = some q) : Mc l D (tyL cI cS) false yX5_undo cX5_undo 2 (some .int) 4 [.ref (aR 0)] (wR cI cS aR S) (some (.int q.1)) (wR cI cS aR q.2) := by
  refine Mc_of RX5 (by decide +kernel) rfl wc_X5_undo (Nat.le_of_ble_eq_true rfl) ?_
  intro p e s m args below meth c A Q ls C hA hz hP hD hS hl RET
  have RETh : ∀ {pc : Nat} {ls : Array Slot} {H : Heap} {locs : List Loc} {x : Int32} {S1 : RS}, decode cX5_undo pc = .ok (.ireturn, 1) → some (x, S1) = some q → va_P D vwCl (wR cI cS aR S1) H → va_D A (wR cI cS aR S1) → va_S A s.heap H locs → W p l e (rmL 4) s m args below meth c H locs 0 0 Q (F0 m pc ls [.int x]) := by
    intro pc ls H locs x S1 hd h hP hD hS; cases h; exact RET (x_iret C hd) hP hD hS
  have B20 : ∀ (S : RS), bfX5_undo_20 S = some q → ∀ (H : Heap) (locs : List Loc) (ls : Array Slot), va_P D vwCl (wR cI cS aR S) H → va_D A (wR cI cS aR S) → va_S A s.heap H locs → lv_has ls 2 [] → W p l e (rmL 4) s m args below meth c H locs 0 0 Q (F0 m 20 ls []) := by
    intro S h H locs ls hP hD hS hl
    refine x_bipush (v := (-2 : Int32)) C dX5_undo_20 (by decide) ?_
    exact RETh dX5_undo_22 h hP hD hS
  refine x_aload_n C dX5_undo_0 rfl hl 0 rfl ?_
  refine x_get C inX5 hP 0 rfl rfl 3 (by decide) wf_X5_124 rfl dX5_undo_1 ?_
  refine x_iconst (v := (1 : Int32)) C dX5_undo_4 (by decide) ?_
  refine x_icmp_lt (tgt := 20) C h dX5_undo_5 (by decide) (fun h => ?_) (fun h => ?_)
  · exact B20 _ h _ _ _ hP hD hS (lv_sub hl [] rfl)
  · refine x_aload_n C dX5_undo_8 rfl hl 0 rfl ?_
    refine x_get C inX5 hP 0 rfl rfl 3 (by decide) wf_X5_124 rfl dX5_undo_9 ?_
    refine x_aload_n C dX5_undo_12 rfl hl 0 rfl ?_
    refine x_get C inX5 hP 0 rfl rfl 2 (by decide) wf_X5_19 rfl dX5_undo_13 ?_
    refine x_alen C hP 1 rfl (t0 := 1) rfl rfl dX5_undo_16 ?_
    refine x_icmp_le (tgt := 23) C h dX5_undo_17 (by decide) (fun h => ?_) (fun h => ?_)
    · refine x_aload_n C dX5_undo_23 rfl hl 0 rfl ?_
      refine x_dup C dX5_undo_24 rfl ?_
      refine x_get C inX5 hP 0 rfl rfl 3 (by decide) wf_X5_124 rfl dX5_undo_25 ?_
      refine x_iconst (v := (1 : Int32)) C dX5_undo_28 (by decide) ?_
      refine x_isub C dX5_undo_29 ?_
      refine x_putM (wR cI cS aR) C h inX5 tyX5 tyX5_ok nmX5 hP hD hS 0 rfl rfl 3 (by decide) wf_X5_124 rfl (ft := .int) (by decide +kernel) rfl rfl (Nat.le_of_ble_eq_true rfl) rfl dX5_undo_30 (fun S4 h H locs hP hD hS => ?_)
      refine x_aload_n C dX5_undo_33 rfl hl 0 rfl ?_
      refine x_get C inX5 hP 0 rfl rfl 2 (by decide) wf_X5_19 rfl dX5_undo_34 ?_
      refine x_aload_n C dX5_undo_37 rfl hl 0 rfl ?_
      refine x_get C inX5 hP 0 rfl rfl 3 (by decide) wf_X5_124 rfl dX5_undo_38 ?_
      obtain ⟨hc5, h⟩ := x_ifn h
      refine x_aald C (t0 := 1) (v := (S4.1 ((S4.2.2).toNatClampNeg + 2) 0)) (Cn := "RetryStorm$State") hc5 hP 1 rfl rfl rfl dX5_undo_41 ?_
      refine x_astore_n (lv' := [(1, .ref (S4.1 ((S4.2.2).toNatClampNeg + 2) 0)), (0, .ref (aR 0))]) C dX5_undo_42 rfl hl (by decide) rfl (fun ls hl => ?_)
      refine x_aload_n C dX5_undo_43 rfl hl 0 rfl ?_
      refine x_ifnull C dX5_undo_44 ?_
      refine x_aload_n C dX5_undo_47 rfl hl 1 rfl ?_
      refine x_get C inX5 hP 0 rfl rfl 0 (by decide) wf_X5_10 rfl dX5_undo_48 ?_
      refine x_aload_n C dX5_undo_51 rfl hl 0 rfl ?_
      refine x_callV (As := [.ref _]) (n := 1) C (kR_copyFrom l D cI cS aR S4 0 ((S4.2.2).toNatClampNeg + 2) (by decide) (rec_lt hc5) (rec_ne2 hc5)) (fun hh => nomatch hh) wm_X5_146 wi_X2_copyFrom we_X2_copyFrom wz_X2 wc_X2_copyFrom (by decide +kernel) rfl hP hD hS hA 2 0 rfl rfl rfl hl.1 dX5_undo_52 rfl (Nat.le_of_ble_eq_true rfl) ⟨Nat.le_of_ble_eq_true rfl, Nat.le_of_ble_eq_true rfl⟩ ⟨Nat.zero_le _, Nat.zero_le _⟩ (fun H locs hP hD hS => ?_)
      refine x_nmS (wR cI cS aR) h hP hD (fun S6 h hP hD => ?_)
      refine x_aload_n C dX5_undo_55 rfl hl 1 rfl ?_
      refine x_get C inX5 hP 0 rfl rfl 3 (by decide) wf_X5_124 rfl dX5_undo_56 ?_
      exact RETh dX5_undo_59 h hP hD hS
    · exact B20 _ h _ _ _ hP hD hS (lv_sub hl [] rfl)
theorem dX5_window_0 : decode cX5_window 0 = .ok (.iload_n 1, 1) := by decide +kernel
theorem dX5_window_1 : decode cX5_window 1 = .ok (.ifCond .lt 19, 3) := by decide +kernel
theorem dX5_window_4 : decode cX5_window 4 = .ok (.iload_n 1, 1) := by decide +kernel
theorem dX5_window_5 : decode cX5_window 5 = .ok (.iconst 4, 1) := by decide +kernel
theorem dX5_window_6 : decode cX5_window 6 = .ok (.if_icmp .ge 14, 3) := by decide +kernel
theorem dX5_window_9 : decode cX5_window 9 = .ok (.iload_n 2, 1) := by decide +kernel
theorem dX5_window_10 : decode cX5_window 10 = .ok (.iconst 1, 1) := by decide +kernel
theorem dX5_window_11 : decode cX5_window 11 = .ok (.if_icmp .lt 9, 3) := by decide +kernel
theorem dX5_window_14 : decode cX5_window 14 = .ok (.iload_n 2, 1) := by decide +kernel
theorem dX5_window_15 : decode cX5_window 15 = .ok (.bipush 64, 2) := by decide +kernel
theorem dX5_window_17 : decode cX5_window 17 = .ok (.if_icmp .le 5, 3) := by decide +kernel
theorem dX5_window_20 : decode cX5_window 20 = .ok (.iconst (-1), 1) := by decide +kernel
theorem dX5_window_21 : decode cX5_window 21 = .ok (.ireturn, 1) := by decide +kernel
theorem dX5_window_22 : decode cX5_window 22 = .ok (.aload_n 0, 1) := by decide +kernel
theorem dX5_window_23 : decode cX5_window 23 = .ok (.getfield 10, 3) := by decide +kernel
theorem dX5_window_26 : decode cX5_window 26 = .ok (.getfield 72, 3) := by decide +kernel
theorem dX5_window_29 : decode cX5_window 29 = .ok (.iload_n 2, 1) := by decide +kernel
theorem dX5_window_30 : decode cX5_window 30 = .ok (.if_icmp .ge 6, 3) := by decide +kernel
theorem dX5_window_33 : decode cX5_window 33 = .ok (.bipush (-2), 2) := by decide +kernel
theorem dX5_window_35 : decode cX5_window 35 = .ok (.ireturn, 1) := by decide +kernel
theorem dX5_window_36 : decode cX5_window 36 = .ok (.iconst 0, 1) := by decide +kernel
theorem dX5_window_37 : decode cX5_window 37 = .ok (.istore_n 3, 1) := by decide +kernel
theorem dX5_window_38 : decode cX5_window 38 = .ok (.iconst 1, 1) := by decide +kernel
theorem dX5_window_39 : decode cX5_window 39 = .ok (.istore 4, 2) := by decide +kernel
theorem dX5_window_41 : decode cX5_window 41 = .ok (.iload 4, 2) := by decide +kernel
theorem dX5_window_43 : decode cX5_window 43 = .ok (.iload_n 2, 1) := by decide +kernel
theorem dX5_window_44 : decode cX5_window 44 = .ok (.if_icmp .gt 30, 3) := by decide +kernel
theorem dX5_window_47 : decode cX5_window 47 = .ok (.iload_n 3, 1) := by decide +kernel
theorem dX5_window_48 : decode cX5_window 48 = .ok (.aload_n 0, 1) := by decide +kernel
theorem dX5_window_49 : decode cX5_window 49 = .ok (.getfield 10, 3) := by decide +kernel
theorem dX5_window_52 : decode cX5_window 52 = .ok (.aload_n 0, 1) := by decide +kernel
theorem dX5_window_53 : decode cX5_window 53 = .ok (.getfield 10, 3) := by decide +kernel
theorem dX5_window_56 : decode cX5_window 56 = .ok (.getfield 72, 3) := by decide +kernel
theorem dX5_window_59 : decode cX5_window 59 = .ok (.iload 4, 2) := by decide +kernel
theorem dX5_window_61 : decode cX5_window 61 = .ok (.isub, 1) := by decide +kernel
theorem dX5_window_62 : decode cX5_window 62 = .ok (.iload_n 1, 1) := by decide +kernel
theorem dX5_window_63 : decode cX5_window 63 = .ok (.invokevirtual 133, 3) := by decide +kernel
theorem dX5_window_66 : decode cX5_window 66 = .ok (.iadd, 1) := by decide +kernel
theorem dX5_window_67 : decode cX5_window 67 = .ok (.istore_n 3, 1) := by decide +kernel
theorem dX5_window_68 : decode cX5_window 68 = .ok (.iinc 4 1, 3) := by decide +kernel
theorem dX5_window_71 : decode cX5_window 71 = .ok (.goto (-30), 3) := by decide +kernel
theorem dX5_window_74 : decode cX5_window 74 = .ok (.iload_n 3, 1) := by decide +kernel
theorem dX5_window_75 : decode cX5_window 75 = .ok (.ireturn, 1) := by decide +kernel
def bfX5_window_41 (p1 : Int32) (p2 : Int32) (S : RS) (K41 : Int32 × Int32 → Option (Int32)) (x : Int32 × Int32) : Option (Int32) :=
  match x with
  | (x3, x4) => (if p2 < x4 then some x3 else ob (fX2_ofTick ((((S.2.1 0).2 12) - x4)) p1 (S.2.1 0)) fun u3 => nm ((x3 + u3)) fun v4 => K41 (v4, (x4 + (1 : Int32))))
def bfX5_window_20 (p1 : Int32) (p2 : Int32) (S : RS) : Option (Int32) :=
  some (-1 : Int32)
def fX5_window (p1 : Int32) (p2 : Int32) (S : RS) : Option (Int32) :=
  (if p1 < 0 then bfX5_window_20 p1 p2 S else (if (4 : Int32) ≤ p1 then bfX5_window_20 p1 p2 S else (if p2 < (1 : Int32) then bfX5_window_20 p1 p2 S else (if p2 ≤ (64 : Int32) then (if p2 ≤ ((S.2.1 0).2 12) then iter (bfX5_window_41 p1 p2 S) FU ((0 : Int32), (1 : Int32)) else some (-2 : Int32)) else bfX5_window_20 p1 p2 S))))
set_option maxHeartbeats 4000000 in
set_option maxRecDepth 100000 in
theorem kX5_window (l : Launch) (D : va_G) (cI cS : ClassId) (aR : Nat → Nat) (p1 : Int32) (p2 : Int32) (S : RS) {q : Int32} (h : fX5_window p1 p2 S = some q) : Mc l D (tyL cI cS) false yX5_window cX5_window 5 (some .int) 3 [.ref (aR 0), .int p1, .int p2] (wR cI cS aR S) (some (.int q)) (wR cI cS aR S) := by
  refine Mc_of RX5 (by decide +kernel) rfl wc_X5_window (Nat.le_of_ble_eq_true rfl) ?_
  intro p e s m args below meth c A Q ls C hA hz hP hD hS hl RET
  have RETh : ∀ {pc : Nat} {ls : Array Slot} {H : Heap} {locs : List Loc} {x : Int32} , decode cX5_window pc = .ok (.ireturn, 1) → some x = some q → va_P D vwCl (wR cI cS aR S) H → va_D A (wR cI cS aR S) → va_S A s.heap H locs → W p l e (rmL 3) s m args below meth c H locs 0 0 Q (F0 m pc ls [.int x]) := by
    intro pc ls H locs x hd h hP hD hS; cases h; exact RET (x_iret C hd) hP hD hS
  have B41 : ∀ (n : Nat) (x : Int32 × Int32), iter (bfX5_window_41 p1 p2 S) n x = some q → (match x with | (x3, x4) => ∀ (H : Heap) (locs : List Loc) (ls : Array Slot), va_P D vwCl (wR cI cS aR S) H → va_D A (wR cI cS aR S) → va_S A s.heap H locs → lv_has ls 5 [(0, .ref (aR 0)), (1, .int p1), (2, .int p2), (3, .int x3), (4, .int x4)] → W p l e (rmL 3) s m args below meth c H locs 0 0 Q (F0 m 41 ls [])) := by
    refine iter_ind (fun x : Int32 × Int32 => (match x with | (x3, x4) => ∀ (H : Heap) (locs : List Loc) (ls : Array Slot), va_P D vwCl (wR cI cS aR S) H → va_D A (wR cI cS aR S) → va_S A s.heap H locs → lv_has ls 5 [(0, .ref (aR 0)), (1, .int p1), (2, .int p2), (3, .int x3), (4, .int x4)] → W p l e (rmL 3) s m args below meth c H locs 0 0 Q (F0 m 41 ls []))) ?_
    intro K41 ih41 x h
    obtain ⟨x3, x4⟩ := x
    intro H locs ls hP hD hS hl
    refine x_iload C dX5_window_41 hl 4 rfl ?_
    refine x_iload_n C dX5_window_43 rfl hl 2 rfl ?_
    refine x_icmp_gt (tgt := 74) C h dX5_window_44 (by decide) (fun h => ?_) (fun h => ?_)
    · refine x_iload_n C dX5_window_74 rfl hl 3 rfl ?_
      exact RETh dX5_window_75 h hP hD hS
    · refine x_iload_n C dX5_window_47 rfl hl 3 rfl ?_
      refine x_aload_n C dX5_window_48 rfl hl 0 rfl ?_
      refine x_get C inX5 hP 0 rfl rfl 0 (by decide) wf_X5_10 rfl dX5_window_49 ?_
      refine x_aload_n C dX5_window_52 rfl hl 0 rfl ?_
      refine x_get C inX5 hP 0 rfl rfl 0 (by decide) wf_X5_10 rfl dX5_window_53 ?_
      refine x_get C inX2 hP 2 rfl rfl 12 (by decide) wf_X5_72 rfl dX5_window_56 ?_
      refine x_iload C dX5_window_59 hl 4 rfl ?_
      refine x_isub C dX5_window_61 ?_
      refine x_iload_n C dX5_window_62 rfl hl 1 rfl ?_
      obtain ⟨u3, hu3, h⟩ := ob_some h
      refine x_callV (As := [.int _, .int _]) (n := 2) C (Mc.toR0 (X := S) (i := 0) (kX2_ofTick l D cI cS (S.1 0) _ _ _ hu3) cS aR (by decide)) (fun hh => nomatch hh) wm_X5_133 wi_X2_ofTick we_X2_ofTick wz_X2 wc_X2_ofTick (by decide +kernel) rfl hP hD hS hA 2 0 rfl rfl rfl hl.1 dX5_window_63 rfl (Nat.le_of_ble_eq_true rfl) ⟨Nat.le_of_ble_eq_true rfl, Nat.le_of_ble_eq_true rfl⟩ ⟨Nat.zero_le _, Nat.zero_le _⟩ (fun H locs hP hD hS => ?_)
      refine x_iadd C dX5_window_66 ?_
      refine x_nmi h (fun v4 h => ?_)
      refine x_istore_n (lv' := [(3, .int v4), (0, .ref (aR 0)), (1, .int p1), (2, .int p2), (4, .int x4)]) C dX5_window_67 rfl hl (by decide) rfl (fun ls hl => ?_)
      refine x_iinc (v := (x4 + (1 : Int32))) (lv' := [(4, .int (x4 + (1 : Int32))), (3, .int v4), (0, .ref (aR 0)), (1, .int p1), (2, .int p2)]) C dX5_window_68 hl (k := 4) rfl rfl (by decide) rfl (fun ls hl => ?_)
      refine x_goto (tgt := 41) C dX5_window_71 (by decide) ?_
      exact ih41 _ h _ _ _ hP hD hS (lv_sub hl [2, 3, 4, 1, 0] rfl)
  have B20 : bfX5_window_20 p1 p2 S = some q → ∀ (H : Heap) (locs : List Loc) (ls : Array Slot), va_P D vwCl (wR cI cS aR S) H → va_D A (wR cI cS aR S) → va_S A s.heap H locs → lv_has ls 5 [] → W p l e (rmL 3) s m args below meth c H locs 0 0 Q (F0 m 20 ls []) := by
    intro  h H locs ls hP hD hS hl
    refine x_iconst (v := (-1 : Int32)) C dX5_window_20 (by decide) ?_
    exact RETh dX5_window_21 h hP hD hS
  refine x_iload_n C dX5_window_0 rfl hl 1 rfl ?_
  refine x_if_lt (tgt := 20) C h dX5_window_1 (by decide) (fun h => ?_) (fun h => ?_)
  · exact B20  h _ _ _ hP hD hS (lv_sub hl [] rfl)
  · refine x_iload_n C dX5_window_4 rfl hl 1 rfl ?_
    refine x_iconst (v := (4 : Int32)) C dX5_window_5 (by decide) ?_
    refine x_icmp_ge (tgt := 20) C h dX5_window_6 (by decide) (fun h => ?_) (fun h => ?_)
    · exact B20  h _ _ _ hP hD hS (lv_sub hl [] rfl)
    · refine x_iload_n C dX5_window_9 rfl hl 2 rfl ?_
      refine x_iconst (v := (1 : Int32)) C dX5_window_10 (by decide) ?_
      refine x_icmp_lt (tgt := 20) C h dX5_window_11 (by decide) (fun h => ?_) (fun h => ?_)
      · exact B20  h _ _ _ hP hD hS (lv_sub hl [] rfl)
      · refine x_iload_n C dX5_window_14 rfl hl 2 rfl ?_
        refine x_bipush (v := (64 : Int32)) C dX5_window_15 (by decide) ?_
        refine x_icmp_le (tgt := 22) C h dX5_window_17 (by decide) (fun h => ?_) (fun h => ?_)
        · refine x_aload_n C dX5_window_22 rfl hl 0 rfl ?_
          refine x_get C inX5 hP 0 rfl rfl 0 (by decide) wf_X5_10 rfl dX5_window_23 ?_
          refine x_get C inX2 hP 2 rfl rfl 12 (by decide) wf_X5_72 rfl dX5_window_26 ?_
          refine x_iload_n C dX5_window_29 rfl hl 2 rfl ?_
          refine x_icmp_ge (tgt := 36) C h dX5_window_30 (by decide) (fun h => ?_) (fun h => ?_)
          · refine x_iconst (v := (0 : Int32)) C dX5_window_36 (by decide) ?_
            refine x_istore_n (lv' := [(3, .int (0 : Int32)), (0, .ref (aR 0)), (1, .int p1), (2, .int p2)]) C dX5_window_37 rfl hl (by decide) rfl (fun ls hl => ?_)
            refine x_iconst (v := (1 : Int32)) C dX5_window_38 (by decide) ?_
            refine x_istore (lv' := [(4, .int (1 : Int32)), (3, .int (0 : Int32)), (0, .ref (aR 0)), (1, .int p1), (2, .int p2)]) C dX5_window_39 hl (by decide) rfl (fun ls hl => ?_)
            exact B41 FU _ h _ _ _ hP hD hS (lv_sub hl [2, 3, 4, 1, 0] rfl)
          · refine x_bipush (v := (-2 : Int32)) C dX5_window_33 (by decide) ?_
            exact RETh dX5_window_35 h hP hD hS
        · exact B20  h _ _ _ hP hD hS (lv_sub hl [] rfl)
