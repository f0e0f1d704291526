theorem dJ9_floorMod_7cf53_0 : decode cJ9_floorMod_7cf53 0 = .ok (.iload_n 0, 1) := by decide +kernel
theorem dJ9_floorMod_7cf53_1 : decode cJ9_floorMod_7cf53 1 = .ok (.iload_n 1, 1) := by decide +kernel
theorem dJ9_floorMod_7cf53_2 : decode cJ9_floorMod_7cf53 2 = .ok (.irem, 1) := by decide +kernel
theorem dJ9_floorMod_7cf53_3 : decode cJ9_floorMod_7cf53 3 = .ok (.istore_n 2, 1) := by decide +kernel
theorem dJ9_floorMod_7cf53_4 : decode cJ9_floorMod_7cf53 4 = .ok (.iload_n 0, 1) := by decide +kernel
theorem dJ9_floorMod_7cf53_5 : decode cJ9_floorMod_7cf53 5 = .ok (.iload_n 1, 1) := by decide +kernel
theorem dJ9_floorMod_7cf53_6 : decode cJ9_floorMod_7cf53 6 = .ok (.ixor, 1) := by decide +kernel
theorem dJ9_floorMod_7cf53_7 : decode cJ9_floorMod_7cf53 7 = .ok (.ifCond .ge 11, 3) := by decide +kernel
theorem dJ9_floorMod_7cf53_10 : decode cJ9_floorMod_7cf53 10 = .ok (.iload_n 2, 1) := by decide +kernel
theorem dJ9_floorMod_7cf53_11 : decode cJ9_floorMod_7cf53 11 = .ok (.ifCond .eq 7, 3) := by decide +kernel
theorem dJ9_floorMod_7cf53_14 : decode cJ9_floorMod_7cf53 14 = .ok (.iload_n 2, 1) := by decide +kernel
theorem dJ9_floorMod_7cf53_15 : decode cJ9_floorMod_7cf53 15 = .ok (.iload_n 1, 1) := by decide +kernel
theorem dJ9_floorMod_7cf53_16 : decode cJ9_floorMod_7cf53 16 = .ok (.iadd, 1) := by decide +kernel
theorem dJ9_floorMod_7cf53_17 : decode cJ9_floorMod_7cf53 17 = .ok (.ireturn, 1) := by decide +kernel
theorem dJ9_floorMod_7cf53_18 : decode cJ9_floorMod_7cf53 18 = .ok (.iload_n 2, 1) := by decide +kernel
theorem dJ9_floorMod_7cf53_19 : decode cJ9_floorMod_7cf53 19 = .ok (.ireturn, 1) := by decide +kernel
def bfJ9_floorMod_7cf53_18 (p1 : Int32) (p2 : Int32) (x2 : Int32) : Option (Int32) :=
  some x2
def fJ9_floorMod_7cf53 (p1 : Int32) (p2 : Int32) : Option (Int32) :=
  (if p2 = 0 then none else nm ((p1 - p1 / p2 * p2)) fun v2 => (if 0 ≤ (p1 ^^^ p2) then bfJ9_floorMod_7cf53_18 p1 p2  v2 else (if v2 = 0 then bfJ9_floorMod_7cf53_18 p1 p2  v2 else some (v2 + p2))))
set_option maxHeartbeats 4000000 in
set_option maxRecDepth 100000 in
theorem kJ9_floorMod_7cf53 (l : Launch) (D : va_G) (cI cS : ClassId) (ws : va_W) (p1 : Int32) (p2 : Int32) {q : Int32} (h : fJ9_floorMod_7cf53 p1 p2 = some q) : Mc l D (tyL cI cS) false yJ9_floorMod_7cf53 cJ9_floorMod_7cf53 3 (some .int) 1 [.int p1, .int p2] (ws) (some (.int q)) (ws) := by
  refine Mc_of RJ9 (by decide +kernel) rfl wc_J9_floorMod_7cf53 (Nat.le_of_ble_eq_true rfl) ?_
  intro p e s m args below meth c A Q ls C hA hz hP hD hS hl RET
  have RETh : ∀ {pc : Nat} {ls : Array Slot} {H : Heap} {locs : List Loc} {x : Int32} , decode cJ9_floorMod_7cf53 pc = .ok (.ireturn, 1) → some x = some q → va_P D vwCl (ws) H → va_D A (ws) → va_S A s.heap H locs → W p l e (rmL 1) s m args below meth c H locs 0 0 Q (F0 m pc ls [.int x]) := by
    intro pc ls H locs x hd h hP hD hS; cases h; exact RET (x_iret C hd) hP hD hS
  have B18 : ∀ (x2 : Int32), bfJ9_floorMod_7cf53_18 p1 p2 x2 = some q → ∀ (H : Heap) (locs : List Loc) (ls : Array Slot), va_P D vwCl (ws) H → va_D A (ws) → va_S A s.heap H locs → lv_has ls 3 [(2, .int x2)] → W p l e (rmL 1) s m args below meth c H locs 0 0 Q (F0 m 18 ls []) := by
    intro x2 h H locs ls hP hD hS hl
    refine x_iload_n C dJ9_floorMod_7cf53_18 rfl hl 0 rfl ?_
    exact RETh dJ9_floorMod_7cf53_19 h hP hD hS
  refine x_iload_n C dJ9_floorMod_7cf53_0 rfl hl 0 rfl ?_
  refine x_iload_n C dJ9_floorMod_7cf53_1 rfl hl 1 rfl ?_
  refine x_irem C h dJ9_floorMod_7cf53_2 (fun h => ?_)
  refine x_nmi h (fun v2 h => ?_)
  refine x_istore_n (lv' := [(2, .int v2), (0, .int p1), (1, .int p2)]) C dJ9_floorMod_7cf53_3 rfl hl (by decide) rfl (fun ls hl => ?_)
  refine x_iload_n C dJ9_floorMod_7cf53_4 rfl hl 1 rfl ?_
  refine x_iload_n C dJ9_floorMod_7cf53_5 rfl hl 2 rfl ?_
  refine x_ixor C dJ9_floorMod_7cf53_6 ?_
  refine x_if_ge (tgt := 18) C h dJ9_floorMod_7cf53_7 (by decide) (fun h => ?_) (fun h => ?_)
  · exact B18 _ h _ _ _ hP hD hS (lv_sub hl [0] rfl)
  · refine x_iload_n C dJ9_floorMod_7cf53_10 rfl hl 0 rfl ?_
    refine x_if_eq (tgt := 18) C h dJ9_floorMod_7cf53_11 (by decide) (fun h => ?_) (fun h => ?_)
    · exact B18 _ h _ _ _ hP hD hS (lv_sub hl [0] rfl)
    · refine x_iload_n C dJ9_floorMod_7cf53_14 rfl hl 0 rfl ?_
      refine x_iload_n C dJ9_floorMod_7cf53_15 rfl hl 2 rfl ?_
      refine x_iadd C dJ9_floorMod_7cf53_16 ?_
      exact RETh dJ9_floorMod_7cf53_17 h hP hD hS
theorem dJ7_rangeCheck_23922_0 : decode cJ7_rangeCheck_23922 0 = .ok (.iload_n 1, 1) := by decide +kernel
theorem dJ7_rangeCheck_23922_1 : decode cJ7_rangeCheck_23922 1 = .ok (.iload_n 2, 1) := by decide +kernel
theorem dJ7_rangeCheck_23922_2 : decode cJ7_rangeCheck_23922 2 = .ok (.if_icmp .le 44, 3) := by decide +kernel
theorem dJ7_rangeCheck_23922_5 : decode cJ7_rangeCheck_23922 5 = .ok (.new 43, 3) := by decide +kernel
theorem dJ7_rangeCheck_23922_46 : decode cJ7_rangeCheck_23922 46 = .ok (.iload_n 1, 1) := by decide +kernel
theorem dJ7_rangeCheck_23922_47 : decode cJ7_rangeCheck_23922 47 = .ok (.ifCond .ge 12, 3) := by decide +kernel
theorem dJ7_rangeCheck_23922_50 : decode cJ7_rangeCheck_23922 50 = .ok (.new 68, 3) := by decide +kernel
theorem dJ7_rangeCheck_23922_59 : decode cJ7_rangeCheck_23922 59 = .ok (.iload_n 2, 1) := by decide +kernel
theorem dJ7_rangeCheck_23922_60 : decode cJ7_rangeCheck_23922 60 = .ok (.iload_n 0, 1) := by decide +kernel
theorem dJ7_rangeCheck_23922_61 : decode cJ7_rangeCheck_23922 61 = .ok (.if_icmp .le 12, 3) := by decide +kernel
theorem dJ7_rangeCheck_23922_64 : decode cJ7_rangeCheck_23922 64 = .ok (.new 68, 3) := by decide +kernel
theorem dJ7_rangeCheck_23922_73 : decode cJ7_rangeCheck_23922 73 = .ok (.return_, 1) := by decide +kernel
def fJ7_rangeCheck_23922 (p1 : Int32) (p2 : Int32) (p3 : Int32) : Option (Unit) :=
  (if p2 ≤ p3 then (if 0 ≤ p2 then (if p3 ≤ p1 then some () else none) else none) else none)
set_option maxHeartbeats 4000000 in
set_option maxRecDepth 100000 in
theorem kJ7_rangeCheck_23922 (l : Launch) (D : va_G) (cI cS : ClassId) (ws : va_W) (p1 : Int32) (p2 : Int32) (p3 : Int32) {q : Unit} (h : fJ7_rangeCheck_23922 p1 p2 p3 = some q) : Mc l D (tyL cI cS) false yJ7_rangeCheck_23922 cJ7_rangeCheck_23922 3 none 1 [.int p1, .int p2, .int p3] (ws) none (ws) := by
  refine Mc_of RJ7 (by decide +kernel) rfl wc_J7_rangeCheck_23922 (Nat.le_of_ble_eq_true rfl) ?_
  intro p e s m args below meth c A Q ls C hA hz hP hD hS hl RET
  have RETh : ∀ {pc : Nat} {ls : Array Slot} {H : Heap} {locs : List Loc} , decode cJ7_rangeCheck_23922 pc = .ok (.return_, 1) → some () = some q → va_P D vwCl (ws) H → va_D A (ws) → va_S A s.heap H locs → W p l e (rmL 1) s m args below meth c H locs 0 0 Q (F0 m pc ls []) := by
    intro pc ls H locs hd h hP hD hS; cases h; exact RET (x_vret C hd) hP hD hS
  refine x_iload_n C dJ7_rangeCheck_23922_0 rfl hl 1 rfl ?_
  refine x_iload_n C dJ7_rangeCheck_23922_1 rfl hl 2 rfl ?_
  refine x_icmp_le (tgt := 46) C h dJ7_rangeCheck_23922_2 (by decide) (fun h => ?_) (fun h => ?_)
  · refine x_iload_n C dJ7_rangeCheck_23922_46 rfl hl 1 rfl ?_
    refine x_if_ge (tgt := 59) C h dJ7_rangeCheck_23922_47 (by decide) (fun h => ?_) (fun h => ?_)
    · refine x_iload_n C dJ7_rangeCheck_23922_59 rfl hl 2 rfl ?_
      refine x_iload_n C dJ7_rangeCheck_23922_60 rfl hl 0 rfl ?_
      refine x_icmp_le (tgt := 73) C h dJ7_rangeCheck_23922_61 (by decide) (fun h => ?_) (fun h => ?_)
      · exact RETh dJ7_rangeCheck_23922_73 h hP hD hS
      · cases h
    · cases h
  · cases h
theorem dJ7_fill_fda19_0 : decode cJ7_fill_fda19 0 = .ok (.aload_n 0, 1) := by decide +kernel
theorem dJ7_fill_fda19_1 : decode cJ7_fill_fda19 1 = .ok (.arraylength, 1) := by decide +kernel
theorem dJ7_fill_fda19_2 : decode cJ7_fill_fda19 2 = .ok (.iload_n 1, 1) := by decide +kernel
theorem dJ7_fill_fda19_3 : decode cJ7_fill_fda19 3 = .ok (.iload_n 2, 1) := by decide +kernel
theorem dJ7_fill_fda19_4 : decode cJ7_fill_fda19 4 = .ok (.invokestatic 13, 3) := by decide +kernel
theorem dJ7_fill_fda19_7 : decode cJ7_fill_fda19 7 = .ok (.iload_n 1, 1) := by decide +kernel
theorem dJ7_fill_fda19_8 : decode cJ7_fill_fda19 8 = .ok (.istore 4, 2) := by decide +kernel
theorem dJ7_fill_fda19_10 : decode cJ7_fill_fda19 10 = .ok (.iload 4, 2) := by decide +kernel
theorem dJ7_fill_fda19_12 : decode cJ7_fill_fda19 12 = .ok (.iload_n 2, 1) := by decide +kernel
theorem dJ7_fill_fda19_13 : decode cJ7_fill_fda19 13 = .ok (.if_icmp .ge 14, 3) := by decide +kernel
theorem dJ7_fill_fda19_16 : decode cJ7_fill_fda19 16 = .ok (.aload_n 0, 1) := by decide +kernel
theorem dJ7_fill_fda19_17 : decode cJ7_fill_fda19 17 = .ok (.iload 4, 2) := by decide +kernel
theorem dJ7_fill_fda19_19 : decode cJ7_fill_fda19 19 = .ok (.iload_n 3, 1) := by decide +kernel
theorem dJ7_fill_fda19_20 : decode cJ7_fill_fda19 20 = .ok (.iastore, 1) := by decide +kernel
theorem dJ7_fill_fda19_21 : decode cJ7_fill_fda19 21 = .ok (.iinc 4 1, 3) := by decide +kernel
theorem dJ7_fill_fda19_24 : decode cJ7_fill_fda19 24 = .ok (.goto (-14), 3) := by decide +kernel
theorem dJ7_fill_fda19_27 : decode cJ7_fill_fda19 27 = .ok (.return_, 1) := by decide +kernel
def bfJ7_fill_fda19_10 (nN : Nat) (p2 : Int32) (p3 : Int32) (p4 : Int32) (K10 : Int32 × (Nat → Int32) → Option (Nat → Int32)) (x : Int32 × (Nat → Int32)) : Option (Nat → Int32) :=
  match x with
  | (x4, S) => (if p3 ≤ x4 then some S else (if okI x4 nN then nm (upd S (x4).toNatClampNeg p4) fun S3 => K10 ((x4 + (1 : Int32)), S3) else none))
def fJ7_fill_fda19 (nN : Nat) (p2 : Int32) (p3 : Int32) (p4 : Int32) (S : Nat → Int32) : Option (Nat → Int32) :=
  ob (fJ7_rangeCheck_23922 (nI nN) p2 p3) fun u4 => iter (bfJ7_fill_fda19_10 nN p2 p3 p4) FU (p2, S)
set_option maxHeartbeats 4000000 in
set_option maxRecDepth 100000 in
theorem kJ7_fill_fda19 (l : Launch) (D : va_G) (cI cS : ClassId) (aA : Nat) (nN : Nat) (p2 : Int32) (p3 : Int32) (p4 : Int32) (S : Nat → Int32) {q : Nat → Int32} (h : fJ7_fill_fda19 nN p2 p3 p4 S = some q) : Mc l D (tyL cI cS) false yJ7_fill_fda19 cJ7_fill_fda19 5 none 2 [.ref aA, .int p2, .int p3, .int p4] (wI cI aA nN S) none (wI cI aA nN q) := by
  refine Mc_of RJ7 (by decide +kernel) rfl wc_J7_fill_fda19 (Nat.le_of_ble_eq_true rfl) ?_
  intro p e s m args below meth c A Q ls C hA hz hP hD hS hl RET
  have RETh : ∀ {pc : Nat} {ls : Array Slot} {H : Heap} {locs : List Loc} {S1 : Nat → Int32}, decode cJ7_fill_fda19 pc = .ok (.return_, 1) → some S1 = some q → va_P D vwCl (wI cI aA nN S1) H → va_D A (wI cI aA nN S1) → va_S A s.heap H locs → W p l e (rmL 2) s m args below meth c H locs 0 0 Q (F0 m pc ls []) := by
    intro pc ls H locs S1 hd h hP hD hS; cases h; exact RET (x_vret C hd) hP hD hS
  have B10 : ∀ (n : Nat) (x : Int32 × (Nat → Int32)), iter (bfJ7_fill_fda19_10 nN p2 p3 p4) n x = some q → (match x with | (x4, S) => ∀ (H : Heap) (locs : List Loc) (ls : Array Slot), va_P D vwCl (wI cI aA nN S) H → va_D A (wI cI aA nN S) → va_S A s.heap H locs → lv_has ls 5 [(0, .ref aA), (2, .int p3), (3, .int p4), (4, .int x4)] → W p l e (rmL 2) s m args below meth c H locs 0 0 Q (F0 m 10 ls [])) := by
    refine iter_ind (fun x : Int32 × (Nat → Int32) => (match x with | (x4, S) => ∀ (H : Heap) (locs : List Loc) (ls : Array Slot), va_P D vwCl (wI cI aA nN S) H → va_D A (wI cI aA nN S) → va_S A s.heap H locs → lv_has ls 5 [(0, .ref aA), (2, .int p3), (3, .int p4), (4, .int x4)] → W p l e (rmL 2) s m args below meth c H locs 0 0 Q (F0 m 10 ls []))) ?_
    intro K10 ih10 x h
    obtain ⟨x4, S⟩ := x
    intro H locs ls hP hD hS hl
    refine x_iload C dJ7_fill_fda19_10 hl 3 rfl ?_
    refine x_iload_n C dJ7_fill_fda19_12 rfl hl 1 rfl ?_
    refine x_icmp_ge (tgt := 27) C h dJ7_fill_fda19_13 (by decide) (fun h => ?_) (fun h => ?_)
    · exact RETh dJ7_fill_fda19_27 h hP hD hS
    · refine x_aload_n C dJ7_fill_fda19_16 rfl hl 0 rfl ?_
      refine x_iload C dJ7_fill_fda19_17 hl 3 rfl ?_
      refine x_iload_n C dJ7_fill_fda19_19 rfl hl 2 rfl ?_
      refine x_iastM (wI cI aA nN) C h hP hD hS 0 rfl (t0 := 0) rfl rfl dJ7_fill_fda19_20 (fun S3 h H locs hP hD hS => ?_)
      refine x_iinc (v := (x4 + (1 : Int32))) (lv' := [(4, .int (x4 + (1 : Int32))), (0, .ref aA), (2, .int p3), (3, .int p4)]) C dJ7_fill_fda19_21 hl (k := 3) rfl rfl (by decide) rfl (fun ls hl => ?_)
      refine x_goto (tgt := 10) C dJ7_fill_fda19_24 (by decide) ?_
      exact ih10 _ h _ _ _ hP hD hS (lv_sub hl [1, 2, 3, 0] rfl)
  refine x_aload_n C dJ7_fill_fda19_0 rfl hl 0 rfl ?_
  refine x_alen C hP 0 rfl (t0 := 0) rfl rfl dJ7_fill_fda19_1 ?_
  refine x_iload_n C dJ7_fill_fda19_2 rfl hl 1 rfl ?_
  refine x_iload_n C dJ7_fill_fda19_3 rfl hl 2 rfl ?_
  obtain ⟨u4, hu4, h⟩ := ob_some h
  refine x_callS (As := [.int _, .int _, .int _]) (n := 3) C (kJ7_rangeCheck_23922 l D cI cS _ _ _ _ hu4) (fun hh => nomatch hh) wm_J7_13 wt_J7_rangeCheck_23922 wz_J7 wc_J7_rangeCheck_23922 (by decide +kernel) rfl hP hD hS hA hl.1 dJ7_fill_fda19_4 rfl (Nat.le_of_ble_eq_true rfl) ⟨Nat.le_of_ble_eq_true rfl, Nat.le_of_ble_eq_true rfl⟩ ⟨Nat.zero_le _, Nat.zero_le _⟩ (fun H locs hP hD hS => ?_)
  refine x_iload_n C dJ7_fill_fda19_7 rfl hl 1 rfl ?_
  refine x_istore (lv' := [(4, .int p2), (0, .ref aA), (1, .int p2), (2, .int p3), (3, .int p4)]) C dJ7_fill_fda19_8 hl (by decide) rfl (fun ls hl => ?_)
  exact B10 FU _ h _ _ _ hP hD hS (lv_sub hl [1, 3, 4, 0] rfl)
theorem dX3_size_0 : decode cX3_size 0 = .ok (.aload_n 0, 1) := by decide +kernel
theorem dX3_size_1 : decode cX3_size 1 = .ok (.getfield 25, 3) := by decide +kernel
theorem dX3_size_4 : decode cX3_size 4 = .ok (.ireturn, 1) := by decide +kernel
def fX3_size (wW : Int32) (nN : Nat) (S : TV) : Option (Int32) :=
  some S.1
set_option maxHeartbeats 4000000 in
set_option maxRecDepth 100000 in
theorem kX3_size (l : Launch) (D : va_G) (cI cS : ClassId) (tA tC : Nat) (wW : Int32) (nN : Nat) (S : TV) {q : Int32} (h : fX3_size wW nN S = some q) : Mc l D (tyL cI cS) false yX3_size cX3_size 1 (some .int) 1 [.ref tA] (wT cI tA tC wW nN S) (some (.int q)) (wT cI tA tC wW nN S) := by
  refine Mc_of RX3 (by decide +kernel) rfl wc_X3_size (Nat.le_of_ble_eq_true rfl) ?_
  intro p e s m args below meth c A Q ls C hA hz hP hD hS hl RET
  have RETh : ∀ {pc : Nat} {ls : Array Slot} {H : Heap} {locs : List Loc} {x : Int32} , decode cX3_size pc = .ok (.ireturn, 1) → some x = some q → va_P D vwCl (wT cI tA tC wW nN S) H → va_D A (wT cI tA tC wW nN S) → va_S A s.heap H locs → W p l e (rmL 1) s m args below meth c H locs 0 0 Q (F0 m pc ls [.int x]) := by
    intro pc ls H locs x hd h hP hD hS; cases h; exact RET (x_iret C hd) hP hD hS
  refine x_aload_n C dX3_size_0 rfl hl 0 rfl ?_
  refine x_get C inX3 hP 0 rfl rfl 2 (by decide) wf_X3_25 rfl dX3_size_1 ?_
  exact RETh dX3_size_4 h hP hD hS
theorem dX3_get_0 : decode cX3_get 0 = .ok (.iload_n 1, 1) := by decide +kernel
theorem dX3_get_1 : decode cX3_get 1 = .ok (.ifCond .lt 23, 3) := by decide +kernel
theorem dX3_get_4 : decode cX3_get 4 = .ok (.iload_n 1, 1) := by decide +kernel
theorem dX3_get_5 : decode cX3_get 5 = .ok (.aload_n 0, 1) := by decide +kernel
theorem dX3_get_6 : decode cX3_get 6 = .ok (.getfield 25, 3) := by decide +kernel
theorem dX3_get_9 : decode cX3_get 9 = .ok (.if_icmp .ge 15, 3) := by decide +kernel
theorem dX3_get_12 : decode cX3_get 12 = .ok (.iload_n 2, 1) := by decide +kernel
theorem dX3_get_13 : decode cX3_get 13 = .ok (.ifCond .lt 11, 3) := by decide +kernel
theorem dX3_get_16 : decode cX3_get 16 = .ok (.iload_n 2, 1) := by decide +kernel
theorem dX3_get_17 : decode cX3_get 17 = .ok (.aload_n 0, 1) := by decide +kernel
theorem dX3_get_18 : decode cX3_get 18 = .ok (.getfield 9, 3) := by decide +kernel
theorem dX3_get_21 : decode cX3_get 21 = .ok (.if_icmp .lt 6, 3) := by decide +kernel
theorem dX3_get_24 : decode cX3_get 24 = .ok (.bipush (-9), 2) := by decide +kernel
theorem dX3_get_26 : decode cX3_get 26 = .ok (.ireturn, 1) := by decide +kernel
theorem dX3_get_27 : decode cX3_get 27 = .ok (.iload_n 1, 1) := by decide +kernel
theorem dX3_get_28 : decode cX3_get 28 = .ok (.aload_n 0, 1) := by decide +kernel
theorem dX3_get_29 : decode cX3_get 29 = .ok (.getfield 9, 3) := by decide +kernel
theorem dX3_get_32 : decode cX3_get 32 = .ok (.imul, 1) := by decide +kernel
theorem dX3_get_33 : decode cX3_get 33 = .ok (.iload_n 2, 1) := by decide +kernel
theorem dX3_get_34 : decode cX3_get 34 = .ok (.iadd, 1) := by decide +kernel
theorem dX3_get_35 : decode cX3_get 35 = .ok (.istore_n 3, 1) := by decide +kernel
theorem dX3_get_36 : decode cX3_get 36 = .ok (.iload_n 3, 1) := by decide +kernel
theorem dX3_get_37 : decode cX3_get 37 = .ok (.ifCond .lt 21, 3) := by decide +kernel
theorem dX3_get_40 : decode cX3_get 40 = .ok (.iload_n 3, 1) := by decide +kernel
theorem dX3_get_41 : decode cX3_get 41 = .ok (.aload_n 0, 1) := by decide +kernel
theorem dX3_get_42 : decode cX3_get 42 = .ok (.getfield 21, 3) := by decide +kernel
theorem dX3_get_45 : decode cX3_get 45 = .ok (.arraylength, 1) := by decide +kernel
theorem dX3_get_46 : decode cX3_get 46 = .ok (.if_icmp .ge 12, 3) := by decide +kernel
theorem dX3_get_49 : decode cX3_get 49 = .ok (.aload_n 0, 1) := by decide +kernel
theorem dX3_get_50 : decode cX3_get 50 = .ok (.getfield 21, 3) := by decide +kernel
theorem dX3_get_53 : decode cX3_get 53 = .ok (.iload_n 3, 1) := by decide +kernel
theorem dX3_get_54 : decode cX3_get 54 = .ok (.iaload, 1) := by decide +kernel
theorem dX3_get_55 : decode cX3_get 55 = .ok (.goto 5, 3) := by decide +kernel
theorem dX3_get_58 : decode cX3_get 58 = .ok (.bipush (-9), 2) := by decide +kernel
theorem dX3_get_60 : decode cX3_get 60 = .ok (.ireturn, 1) := by decide +kernel
def bfX3_get_60 (wW : Int32) (nN : Nat) (p1 : Int32) (p2 : Int32) (S : TV) (s0 : Int32) : Option (Int32) :=
  some s0
def bfX3_get_58 (wW : Int32) (nN : Nat) (p1 : Int32) (p2 : Int32) (S : TV) : Option (Int32) :=
  bfX3_get_60 wW nN p1 p2 S  ((-9 : Int32))
def bfX3_get_24 (wW : Int32) (nN : Nat) (p1 : Int32) (p2 : Int32) (S : TV) : Option (Int32) :=
  some (-9 : Int32)
def fX3_get (wW : Int32) (nN : Nat) (p1 : Int32) (p2 : Int32) (S : TV) : Option (Int32) :=
  (if p1 < 0 then bfX3_get_24 wW nN p1 p2 S else (if S.1 ≤ p1 then bfX3_get_24 wW nN p1 p2 S else (if p2 < 0 then bfX3_get_24 wW nN p1 p2 S else (if p2 < wW then nm (((p1 * wW) + p2)) fun v2 => (if v2 < 0 then bfX3_get_58 wW nN p1 p2 S else (if (nI nN) ≤ v2 then bfX3_get_58 wW nN p1 p2 S else (if okI v2 nN then bfX3_get_60 wW nN p1 p2 S  ((S.2 (v2).toNatClampNeg)) else none))) else bfX3_get_24 wW nN p1 p2 S))))
set_option maxHeartbeats 4000000 in
set_option maxRecDepth 100000 in
theorem kX3_get (l : Launch) (D : va_G) (cI cS : ClassId) (tA tC : Nat) (wW : Int32) (nN : Nat) (p1 : Int32) (p2 : Int32) (S : TV) {q : Int32} (h : fX3_get wW nN p1 p2 S = some q) : Mc l D (tyL cI cS) false yX3_get cX3_get 4 (some .int) 1 [.ref tA, .int p1, .int p2] (wT cI tA tC wW nN S) (some (.int q)) (wT cI tA tC wW nN S) := by
  refine Mc_of RX3 (by decide +kernel) rfl wc_X3_get (Nat.le_of_ble_eq_true rfl) ?_
  intro p e s m args below meth c A Q ls C hA hz hP hD hS hl RET
  have RETh : ∀ {pc : Nat} {ls : Array Slot} {H : Heap} {locs : List Loc} {x : Int32} , decode cX3_get pc = .ok (.ireturn, 1) → some x = some q → va_P D vwCl (wT cI tA tC wW nN S) H → va_D A (wT cI tA tC wW nN S) → va_S A s.heap H locs → W p l e (rmL 1) s m args below meth c H locs 0 0 Q (F0 m pc ls [.int x]) := by
    intro pc ls H locs x hd h hP hD hS; cases h; exact RET (x_iret C hd) hP hD hS
  have B60 : ∀ (s0 : Int32), bfX3_get_60 wW nN p1 p2 S s0 = some q → ∀ (H : Heap) (locs : List Loc) (ls : Array Slot), va_P D vwCl (wT cI tA tC wW nN S) H → va_D A (wT cI tA tC wW nN S) → va_S A s.heap H locs → lv_has ls 4 [] → W p l e (rmL 1) s m args below meth c H locs 0 0 Q (F0 m 60 ls [.int s0]) := by
    intro s0 h H locs ls hP hD hS hl
    exact RETh dX3_get_60 h hP hD hS
  have B58 : bfX3_get_58 wW nN p1 p2 S = some q → ∀ (H : Heap) (locs : List Loc) (ls : Array Slot), va_P D vwCl (wT cI tA tC wW nN S) H → va_D A (wT cI tA tC wW nN S) → va_S A s.heap H locs → lv_has ls 4 [] → W p l e (rmL 1) s m args below meth c H locs 0 0 Q (F0 m 58 ls []) := by
    intro  h H locs ls hP hD hS hl
    refine x_bipush (v := (-9 : Int32)) C dX3_get_58 (by decide) ?_
    exact B60 _ h _ _ _ hP hD hS hl
  have B24 : bfX3_get_24 wW nN p1 p2 S = some q → ∀ (H : Heap) (locs : List Loc) (ls : Array Slot), va_P D vwCl (wT cI tA tC wW nN S) H → va_D A (wT cI tA tC wW nN S) → va_S A s.heap H locs → lv_has ls 4 [] → W p l e (rmL 1) s m args below meth c H locs 0 0 Q (F0 m 24 ls []) := by
    intro  h H locs ls hP hD hS hl
    refine x_bipush (v := (-9 : Int32)) C dX3_get_24 (by decide) ?_
    exact RETh dX3_get_26 h hP hD hS
  refine x_iload_n C dX3_get_0 rfl hl 1 rfl ?_
  refine x_if_lt (tgt := 24) C h dX3_get_1 (by decide) (fun h => ?_) (fun h => ?_)
  · exact B24  h _ _ _ hP hD hS (lv_sub hl [] rfl)
  · refine x_iload_n C dX3_get_4 rfl hl 1 rfl ?_
    refine x_aload_n C dX3_get_5 rfl hl 0 rfl ?_
    refine x_get C inX3 hP 0 rfl rfl 2 (by decide) wf_X3_25 rfl dX3_get_6 ?_
    refine x_icmp_ge (tgt := 24) C h dX3_get_9 (by decide) (fun h => ?_) (fun h => ?_)
    · exact B24  h _ _ _ hP hD hS (lv_sub hl [] rfl)
    · refine x_iload_n C dX3_get_12 rfl hl 2 rfl ?_
      refine x_if_lt (tgt := 24) C h dX3_get_13 (by decide) (fun h => ?_) (fun h => ?_)
      · exact B24  h _ _ _ hP hD hS (lv_sub hl [] rfl)
      · refine x_iload_n C dX3_get_16 rfl hl 2 rfl ?_
        refine x_aload_n C dX3_get_17 rfl hl 0 rfl ?_
        refine x_get C inX3 hP 0 rfl rfl 0 (by decide) wf_X3_9 rfl dX3_get_18 ?_
        refine x_icmp_lt (tgt := 27) C h dX3_get_21 (by decide) (fun h => ?_) (fun h => ?_)
        · refine x_iload_n C dX3_get_27 rfl hl 1 rfl ?_
          refine x_aload_n C dX3_get_28 rfl hl 0 rfl ?_
          refine x_get C inX3 hP 0 rfl rfl 0 (by decide) wf_X3_9 rfl dX3_get_29 ?_
          refine x_imul C dX3_get_32 ?_
          refine x_iload_n C dX3_get_33 rfl hl 2 rfl ?_
          refine x_iadd C dX3_get_34 ?_
          refine x_nmi h (fun v2 h => ?_)
          refine x_istore_n (lv' := [(3, .int v2), (0, .ref tA), (1, .int p1), (2, .int p2)]) C dX3_get_35 rfl hl (by decide) rfl (fun ls hl => ?_)
          refine x_iload_n C dX3_get_36 rfl hl 0 rfl ?_
          refine x_if_lt (tgt := 58) C h dX3_get_37 (by decide) (fun h => ?_) (fun h => ?_)
          · exact B58  h _ _ _ hP hD hS (lv_sub hl [] rfl)
          · refine x_iload_n C dX3_get_40 rfl hl 0 rfl ?_
            refine x_aload_n C dX3_get_41 rfl hl 1 rfl ?_
            refine x_get C inX3 hP 0 rfl rfl 1 (by decide) wf_X3_21 rfl dX3_get_42 ?_
            refine x_alen C hP 1 rfl (t0 := 0) rfl rfl dX3_get_45 ?_
            refine x_icmp_ge (tgt := 58) C h dX3_get_46 (by decide) (fun h => ?_) (fun h => ?_)
            · exact B58  h _ _ _ hP hD hS (lv_sub hl [] rfl)
            · refine x_aload_n C dX3_get_49 rfl hl 1 rfl ?_
              refine x_get C inX3 hP 0 rfl rfl 1 (by decide) wf_X3_21 rfl dX3_get_50 ?_
              refine x_iload_n C dX3_get_53 rfl hl 0 rfl ?_
              refine x_iald C h hP 1 rfl (t0 := 0) rfl dX3_get_54 (fun h => ?_)
              refine x_goto (tgt := 60) C dX3_get_55 (by decide) ?_
              exact B60 _ h _ _ _ hP hD hS (lv_sub hl [] rfl)
        · exact B24  h _ _ _ hP hD hS (lv_sub hl [] rfl)
theorem dX3_put_0 : decode cX3_put 0 = .ok (.iload_n 1, 1) := by decide +kernel
theorem dX3_put_1 : decode cX3_put 1 = .ok (.ifCond .lt 23, 3) := by decide +kernel
theorem dX3_put_4 : decode cX3_put 4 = .ok (.iload_n 1, 1) := by decide +kernel
theorem dX3_put_5 : decode cX3_put 5 = .ok (.aload_n 0, 1) := by decide +kernel
theorem dX3_put_6 : decode cX3_put 6 = .ok (.getfield 25, 3) := by decide +kernel
theorem dX3_put_9 : decode cX3_put 9 = .ok (.if_icmp .ge 15, 3) := by decide +kernel
theorem dX3_put_12 : decode cX3_put 12 = .ok (.iload_n 2, 1) := by decide +kernel
theorem dX3_put_13 : decode cX3_put 13 = .ok (.ifCond .lt 11, 3) := by decide +kernel
theorem dX3_put_16 : decode cX3_put 16 = .ok (.iload_n 2, 1) := by decide +kernel
theorem dX3_put_17 : decode cX3_put 17 = .ok (.aload_n 0, 1) := by decide +kernel
theorem dX3_put_18 : decode cX3_put 18 = .ok (.getfield 9, 3) := by decide +kernel
theorem dX3_put_21 : decode cX3_put 21 = .ok (.if_icmp .lt 4, 3) := by decide +kernel
theorem dX3_put_24 : decode cX3_put 24 = .ok (.return_, 1) := by decide +kernel
theorem dX3_put_25 : decode cX3_put 25 = .ok (.iload_n 1, 1) := by decide +kernel
theorem dX3_put_26 : decode cX3_put 26 = .ok (.aload_n 0, 1) := by decide +kernel
theorem dX3_put_27 : decode cX3_put 27 = .ok (.getfield 9, 3) := by decide +kernel
theorem dX3_put_30 : decode cX3_put 30 = .ok (.imul, 1) := by decide +kernel
theorem dX3_put_31 : decode cX3_put 31 = .ok (.iload_n 2, 1) := by decide +kernel
theorem dX3_put_32 : decode cX3_put 32 = .ok (.iadd, 1) := by decide +kernel
theorem dX3_put_33 : decode cX3_put 33 = .ok (.istore 4, 2) := by decide +kernel
theorem dX3_put_35 : decode cX3_put 35 = .ok (.iload 4, 2) := by decide +kernel
theorem dX3_put_37 : decode cX3_put 37 = .ok (.ifCond .lt 21, 3) := by decide +kernel
theorem dX3_put_40 : decode cX3_put 40 = .ok (.iload 4, 2) := by decide +kernel
theorem dX3_put_42 : decode cX3_put 42 = .ok (.aload_n 0, 1) := by decide +kernel
theorem dX3_put_43 : decode cX3_put 43 = .ok (.getfield 21, 3) := by decide +kernel
theorem dX3_put_46 : decode cX3_put 46 = .ok (.arraylength, 1) := by decide +kernel
theorem dX3_put_47 : decode cX3_put 47 = .ok (.if_icmp .ge 11, 3) := by decide +kernel
theorem dX3_put_50 : decode cX3_put 50 = .ok (.aload_n 0, 1) := by decide +kernel
theorem dX3_put_51 : decode cX3_put 51 = .ok (.getfield 21, 3) := by decide +kernel
theorem dX3_put_54 : decode cX3_put 54 = .ok (.iload 4, 2) := by decide +kernel
theorem dX3_put_56 : decode cX3_put 56 = .ok (.iload_n 3, 1) := by decide +kernel
theorem dX3_put_57 : decode cX3_put 57 = .ok (.iastore, 1) := by decide +kernel
theorem dX3_put_58 : decode cX3_put 58 = .ok (.return_, 1) := by decide +kernel
def bfX3_put_58 (wW : Int32) (nN : Nat) (p1 : Int32) (p2 : Int32) (p3 : Int32) (S : TV) : Option (TV) :=
  some S
def bfX3_put_24 (wW : Int32) (nN : Nat) (p1 : Int32) (p2 : Int32) (p3 : Int32) (S : TV) : Option (TV) :=
  some S
def fX3_put (wW : Int32) (nN : Nat) (p1 : Int32) (p2 : Int32) (p3 : Int32) (S : TV) : Option (TV) :=
  (if p1 < 0 then bfX3_put_24 wW nN p1 p2 p3  S else (if S.1 ≤ p1 then bfX3_put_24 wW nN p1 p2 p3  S else (if p2 < 0 then bfX3_put_24 wW nN p1 p2 p3  S else (if p2 < wW then nm (((p1 * wW) + p2)) fun v3 => (if v3 < 0 then bfX3_put_58 wW nN p1 p2 p3  S else (if (nI nN) ≤ v3 then bfX3_put_58 wW nN p1 p2 p3  S else (if okI v3 nN then nm (S.1, upd S.2 (v3).toNatClampNeg p3) fun S4 => bfX3_put_58 wW nN p1 p2 p3  S4 else none))) else bfX3_put_24 wW nN p1 p2 p3  S))))
set_option maxHeartbeats 4000000 in
set_option maxRecDepth 100000 in
theorem kX3_put (l : Launch) (D : va_G) (cI cS : ClassId) (tA tC : Nat) (wW : Int32) (nN : Nat) (p1 : Int32) (p2 : Int32) (p3 : Int32) (S : TV) {q : TV} (h : fX3_put wW nN p1 p2 p3 S = some q) : Mc l D (tyL cI cS) false yX3_put cX3_put 5 none 1 [.ref tA, .int p1, .int p2, .int p3] (wT cI tA tC wW nN S) none (wT cI tA tC wW nN q) := by
  refine Mc_of RX3 (by decide +kernel) rfl wc_X3_put (Nat.le_of_ble_eq_true rfl) ?_
  intro p e s m args below meth c A Q ls C hA hz hP hD hS hl RET
  have RETh : ∀ {pc : Nat} {ls : Array Slot} {H : Heap} {locs : List Loc} {S1 : TV}, decode cX3_put pc = .ok (.return_, 1) → some S1 = some q → va_P D vwCl (wT cI tA tC wW nN S1) H → va_D A (wT cI tA tC wW nN S1) → va_S A s.heap H locs → W p l e (rmL 1) s m args below meth c H locs 0 0 Q (F0 m pc ls []) := by
    intro pc ls H locs S1 hd h hP hD hS; cases h; exact RET (x_vret C hd) hP hD hS
  have B58 : ∀ (S : TV), bfX3_put_58 wW nN p1 p2 p3 S = some q → ∀ (H : Heap) (locs : List Loc) (ls : Array Slot), va_P D vwCl (wT cI tA tC wW nN S) H → va_D A (wT cI tA tC wW nN S) → va_S A s.heap H locs → lv_has ls 5 [] → W p l e (rmL 1) s m args below meth c H locs 0 0 Q (F0 m 58 ls []) := by
    intro S h H locs ls hP hD hS hl
    exact RETh dX3_put_58 h hP hD hS
  have B24 : ∀ (S : TV), bfX3_put_24 wW nN p1 p2 p3 S = some q → ∀ (H : Heap) (locs : List Loc) (ls : Array Slot), va_P D vwCl (wT cI tA tC wW nN S) H → va_D A (wT cI tA tC wW nN S) → va_S A s.heap H locs → lv_has ls 5 [] → W p l e (rmL 1) s m args below meth c H locs 0 0 Q (F0 m 24 ls []) := by
    intro S h H locs ls hP hD hS hl
    exact RETh dX3_put_24 h hP hD hS
  refine x_iload_n C dX3_put_0 rfl hl 1 rfl ?_
  refine x_if_lt (tgt := 24) C h dX3_put_1 (by decide) (fun h => ?_) (fun h => ?_)
  · exact B24 _ h _ _ _ hP hD hS (lv_sub hl [] rfl)
  · refine x_iload_n C dX3_put_4 rfl hl 1 rfl ?_
    refine x_aload_n C dX3_put_5 rfl hl 0 rfl ?_
    refine x_get C inX3 hP 0 rfl rfl 2 (by decide) wf_X3_25 rfl dX3_put_6 ?_
    refine x_icmp_ge (tgt := 24) C h dX3_put_9 (by decide) (fun h => ?_) (fun h => ?_)
    · exact B24 _ h _ _ _ hP hD hS (lv_sub hl [] rfl)
    · refine x_iload_n C dX3_put_12 rfl hl 2 rfl ?_
      refine x_if_lt (tgt := 24) C h dX3_put_13 (by decide) (fun h => ?_) (fun h => ?_)
      · exact B24 _ h _ _ _ hP hD hS (lv_sub hl [] rfl)
      · refine x_iload_n C dX3_put_16 rfl hl 2 rfl ?_
        refine x_aload_n C dX3_put_17 rfl hl 0 rfl ?_
        refine x_get C inX3 hP 0 rfl rfl 0 (by decide) wf_X3_9 rfl dX3_put_18 ?_
        refine x_icmp_lt (tgt := 25) C h dX3_put_21 (by decide) (fun h => ?_) (fun h => ?_)
        · refine x_iload_n C dX3_put_25 rfl hl 1 rfl ?_
          refine x_aload_n C dX3_put_26 rfl hl 0 rfl ?_
          refine x_get C inX3 hP 0 rfl rfl 0 (by decide) wf_X3_9 rfl dX3_put_27 ?_
          refine x_imul C dX3_put_30 ?_
          refine x_iload_n C dX3_put_31 rfl hl 2 rfl ?_
          refine x_iadd C dX3_put_32 ?_
          refine x_nmi h (fun v3 h => ?_)
          refine x_istore (lv' := [(4, .int v3), (0, .ref tA), (1, .int p1), (2, .int p2), (3, .int p3)]) C dX3_put_33 hl (by decide) rfl (fun ls hl => ?_)
          refine x_iload C dX3_put_35 hl 0 rfl ?_
          refine x_if_lt (tgt := 58) C h dX3_put_37 (by decide) (fun h => ?_) (fun h => ?_)
          · exact B58 _ h _ _ _ hP hD hS (lv_sub hl [] rfl)
          · refine x_iload C dX3_put_40 hl 0 rfl ?_
            refine x_aload_n C dX3_put_42 rfl hl 1 rfl ?_
            refine x_get C inX3 hP 0 rfl rfl 1 (by decide) wf_X3_21 rfl dX3_put_43 ?_
            refine x_alen C hP 1 rfl (t0 := 0) rfl rfl dX3_put_46 ?_
            refine x_icmp_ge (tgt := 58) C h dX3_put_47 (by decide) (fun h => ?_) (fun h => ?_)
            · exact B58 _ h _ _ _ hP hD hS (lv_sub hl [] rfl)
            · refine x_aload_n C dX3_put_50 rfl hl 1 rfl ?_
              refine x_get C inX3 hP 0 rfl rfl 1 (by decide) wf_X3_21 rfl dX3_put_51 ?_
              refine x_iload C dX3_put_54 hl 0 rfl ?_
              refine x_iload_n C dX3_put_56 rfl hl 4 rfl ?_
              refine x_iastM (wT cI tA tC wW nN) C h hP hD hS 1 rfl (t0 := 0) rfl rfl dX3_put_57 (fun S4 h H locs hP hD hS => ?_)
              exact B58 _ h _ _ _ hP hD hS (lv_sub hl [] rfl)
        · exact B24 _ h _ _ _ hP hD hS (lv_sub hl [] rfl)
theorem dX3_add_0 : decode cX3_add 0 = .ok (.aload_n 0, 1) := by decide +kernel
theorem dX3_add_1 : decode cX3_add 1 = .ok (.iload_n 1, 1) := by decide +kernel
theorem dX3_add_2 : decode cX3_add 2 = .ok (.iload_n 2, 1) := by decide +kernel
theorem dX3_add_3 : decode cX3_add 3 = .ok (.aload_n 0, 1) := by decide +kernel
theorem dX3_add_4 : decode cX3_add 4 = .ok (.iload_n 1, 1) := by decide +kernel
theorem dX3_add_5 : decode cX3_add 5 = .ok (.iload_n 2, 1) := by decide +kernel
theorem dX3_add_6 : decode cX3_add 6 = .ok (.invokevirtual 28, 3) := by decide +kernel
theorem dX3_add_9 : decode cX3_add 9 = .ok (.iload_n 3, 1) := by decide +kernel
theorem dX3_add_10 : decode cX3_add 10 = .ok (.iadd, 1) := by decide +kernel
theorem dX3_add_11 : decode cX3_add 11 = .ok (.invokevirtual 31, 3) := by decide +kernel
theorem dX3_add_14 : decode cX3_add 14 = .ok (.return_, 1) := by decide +kernel
def fX3_add (wW : Int32) (nN : Nat) (p1 : Int32) (p2 : Int32) (p3 : Int32) (S : TV) : Option (TV) :=
  ob (fX3_get wW nN p1 p2 S) fun u3 => ob (fX3_put wW nN p1 p2 ((u3 + p3)) S) fun u4 => some u4
set_option maxHeartbeats 4000000 in
set_option maxRecDepth 100000 in
theorem kX3_add (l : Launch) (D : va_G) (cI cS : ClassId) (tA tC : Nat) (wW : Int32) (nN : Nat) (p1 : Int32) (p2 : Int32) (p3 : Int32) (S : TV) {q : TV} (h : fX3_add wW nN p1 p2 p3 S = some q) : Mc l D (tyL cI cS) false yX3_add cX3_add 4 none 2 [.ref tA, .int p1, .int p2, .int p3] (wT cI tA tC wW nN S) none (wT cI tA tC wW nN q) := by
  refine Mc_of RX3 (by decide +kernel) rfl wc_X3_add (Nat.le_of_ble_eq_true rfl) ?_
  intro p e s m args below meth c A Q ls C hA hz hP hD hS hl RET
  have RETh : ∀ {pc : Nat} {ls : Array Slot} {H : Heap} {locs : List Loc} {S1 : TV}, decode cX3_add pc = .ok (.return_, 1) → some S1 = some q → va_P D vwCl (wT cI tA tC wW nN S1) H → va_D A (wT cI tA tC wW nN S1) → va_S A s.heap H locs → W p l e (rmL 2) s m args below meth c H locs 0 0 Q (F0 m pc ls []) := by
    intro pc ls H locs S1 hd h hP hD hS; cases h; exact RET (x_vret C hd) hP hD hS
  refine x_aload_n C dX3_add_0 rfl hl 0 rfl ?_
  refine x_iload_n C dX3_add_1 rfl hl 1 rfl ?_
  refine x_iload_n C dX3_add_2 rfl hl 2 rfl ?_
  refine x_aload_n C dX3_add_3 rfl hl 0 rfl ?_
  refine x_iload_n C dX3_add_4 rfl hl 1 rfl ?_
  refine x_iload_n C dX3_add_5 rfl hl 2 rfl ?_
  obtain ⟨u3, hu3, h⟩ := ob_some h
  refine x_callV (As := [.int _, .int _]) (n := 2) C (kX3_get l D cI cS tA tC wW nN _ _ _ hu3) (fun hh => nomatch hh) wm_X3_28 wi_X3_get we_X3_get wz_X3 wc_X3_get (by decide +kernel) rfl hP hD hS hA 0 1 rfl rfl rfl hl.1 dX3_add_6 rfl (Nat.le_of_ble_eq_true rfl) ⟨Nat.le_of_ble_eq_true rfl, Nat.le_of_ble_eq_true rfl⟩ ⟨Nat.zero_le _, Nat.zero_le _⟩ (fun H locs hP hD hS => ?_)
  refine x_iload_n C dX3_add_9 rfl hl 3 rfl ?_
  refine x_iadd C dX3_add_10 ?_
  obtain ⟨u4, hu4, h⟩ := ob_some h
  refine x_callV (As := [.int _, .int _, .int _]) (n := 3) C (kX3_put l D cI cS tA tC wW nN _ _ _ _ hu4) (fun hh => nomatch hh) wm_X3_31 wi_X3_put we_X3_put wz_X3 wc_X3_put (by decide +kernel) rfl hP hD hS hA 0 1 rfl rfl rfl hl.1 dX3_add_11 rfl (Nat.le_of_ble_eq_true rfl) ⟨Nat.le_of_ble_eq_true rfl, Nat.le_of_ble_eq_true rfl⟩ ⟨Nat.zero_le _, Nat.zero_le _⟩ (fun H locs hP hD hS => ?_)
  exact RETh dX3_add_14 h hP hD hS
theorem dX3_putInAll_0 : decode cX3_putInAll 0 = .ok (.iconst 0, 1) := by decide +kernel
theorem dX3_putInAll_1 : decode cX3_putInAll 1 = .ok (.istore_n 3, 1) := by decide +kernel
theorem dX3_putInAll_2 : decode cX3_putInAll 2 = .ok (.iload_n 3, 1) := by decide +kernel
theorem dX3_putInAll_3 : decode cX3_putInAll 3 = .ok (.aload_n 0, 1) := by decide +kernel
theorem dX3_putInAll_4 : decode cX3_putInAll 4 = .ok (.getfield 25, 3) := by decide +kernel
theorem dX3_putInAll_7 : decode cX3_putInAll 7 = .ok (.if_icmp .ge 16, 3) := by decide +kernel
theorem dX3_putInAll_10 : decode cX3_putInAll 10 = .ok (.aload_n 0, 1) := by decide +kernel
theorem dX3_putInAll_11 : decode cX3_putInAll 11 = .ok (.iload_n 3, 1) := by decide +kernel
theorem dX3_putInAll_12 : decode cX3_putInAll 12 = .ok (.iload_n 1, 1) := by decide +kernel
theorem dX3_putInAll_13 : decode cX3_putInAll 13 = .ok (.iload_n 2, 1) := by decide +kernel
theorem dX3_putInAll_14 : decode cX3_putInAll 14 = .ok (.invokevirtual 31, 3) := by decide +kernel
theorem dX3_putInAll_17 : decode cX3_putInAll 17 = .ok (.iinc 3 1, 3) := by decide +kernel
theorem dX3_putInAll_20 : decode cX3_putInAll 20 = .ok (.goto (-18), 3) := by decide +kernel
theorem dX3_putInAll_23 : decode cX3_putInAll 23 = .ok (.return_, 1) := by decide +kernel
def bfX3_putInAll_2 (wW : Int32) (nN : Nat) (p1 : Int32) (p2 : Int32) (K2 : Int32 × (TV) → Option (TV)) (x : Int32 × (TV)) : Option (TV) :=
  match x with
  | (x3, S) => (if S.1 ≤ x3 then some S else ob (fX3_put wW nN x3 p1 p2 S) fun u2 => K2 ((x3 + (1 : Int32)), u2))
def fX3_putInAll (wW : Int32) (nN : Nat) (p1 : Int32) (p2 : Int32) (S : TV) : Option (TV) :=
  iter (bfX3_putInAll_2 wW nN p1 p2) FU ((0 : Int32), S)
set_option maxHeartbeats 4000000 in
set_option maxRecDepth 100000 in
theorem kX3_putInAll (l : Launch) (D : va_G) (cI cS : ClassId) (tA tC : Nat) (wW : Int32) (nN : Nat) (p1 : Int32) (p2 : Int32) (S : TV) {q : TV} (h : fX3_putInAll wW nN p1 p2 S = some q) : Mc l D (tyL cI cS) false yX3_putInAll cX3_putInAll 4 none 2 [.ref tA, .int p1, .int p2] (wT cI tA tC wW nN S) none (wT cI tA tC wW nN q) := by
  refine Mc_of RX3 (by decide +kernel) rfl wc_X3_putInAll (Nat.le_of_ble_eq_true rfl) ?_
  intro p e s m args below meth c A Q ls C hA hz hP hD hS hl RET
  have RETh : ∀ {pc : Nat} {ls : Array Slot} {H : Heap} {locs : List Loc} {S1 : TV}, decode cX3_putInAll pc = .ok (.return_, 1) → some S1 = some q → va_P D vwCl (wT cI tA tC wW nN S1) H → va_D A (wT cI tA tC wW nN S1) → va_S A s.heap H locs → W p l e (rmL 2) s m args below meth c H locs 0 0 Q (F0 m pc ls []) := by
    intro pc ls H locs S1 hd h hP hD hS; cases h; exact RET (x_vret C hd) hP hD hS
  have B2 : ∀ (n : Nat) (x : Int32 × (TV)), iter (bfX3_putInAll_2 wW nN p1 p2) n x = some q → (match x with | (x3, S) => ∀ (H : Heap) (locs : List Loc) (ls : Array Slot), va_P D vwCl (wT cI tA tC wW nN S) H → va_D A (wT cI tA tC wW nN S) → va_S A s.heap H locs → lv_has ls 4 [(0, .ref tA), (1, .int p1), (2, .int p2), (3, .int x3)] → W p l e (rmL 2) s m args below meth c H locs 0 0 Q (F0 m 2 ls [])) := by
    refine iter_ind (fun x : Int32 × (TV) => (match x with | (x3, S) => ∀ (H : Heap) (locs : List Loc) (ls : Array Slot), va_P D vwCl (wT cI tA tC wW nN S) H → va_D A (wT cI tA tC wW nN S) → va_S A s.heap H locs → lv_has ls 4 [(0, .ref tA), (1, .int p1), (2, .int p2), (3, .int x3)] → W p l e (rmL 2) s m args below meth c H locs 0 0 Q (F0 m 2 ls []))) ?_
    intro K2 ih2 x h
    obtain ⟨x3, S⟩ := x
    intro H locs ls hP hD hS hl
    refine x_iload_n C dX3_putInAll_2 rfl hl 3 rfl ?_
    refine x_aload_n C dX3_putInAll_3 rfl hl 0 rfl ?_
    refine x_get C inX3 hP 0 rfl rfl 2 (by decide) wf_X3_25 rfl dX3_putInAll_4 ?_
    refine x_icmp_ge (tgt := 23) C h dX3_putInAll_7 (by decide) (fun h => ?_) (fun h => ?_)
    · exact RETh dX3_putInAll_23 h hP hD hS
    · refine x_aload_n C dX3_putInAll_10 rfl hl 0 rfl ?_
      refine x_iload_n C dX3_putInAll_11 rfl hl 3 rfl ?_
      refine x_iload_n C dX3_putInAll_12 rfl hl 1 rfl ?_
      refine x_iload_n C dX3_putInAll_13 rfl hl 2 rfl ?_
      obtain ⟨u2, hu2, h⟩ := ob_some h
      refine x_callV (As := [.int _, .int _, .int _]) (n := 3) C (kX3_put l D cI cS tA tC wW nN _ _ _ _ hu2) (fun hh => nomatch hh) wm_X3_31 wi_X3_put we_X3_put wz_X3 wc_X3_put (by decide +kernel) rfl hP hD hS hA 0 1 rfl rfl rfl hl.1 dX3_putInAll_14 rfl (Nat.le_of_ble_eq_true rfl) ⟨Nat.le_of_ble_eq_true rfl, Nat.le_of_ble_eq_true rfl⟩ ⟨Nat.zero_le _, Nat.zero_le _⟩ (fun H locs hP hD hS => ?_)
      refine x_iinc (v := (x3 + (1 : Int32))) (lv' := [(3, .int (x3 + (1 : Int32))), (0, .ref tA), (1, .int p1), (2, .int p2)]) C dX3_putInAll_17 hl (k := 3) rfl rfl (by decide) rfl (fun ls hl => ?_)
      refine x_goto (tgt := 2) C dX3_putInAll_20 (by decide) ?_
      exact ih2 _ h _ _ _ hP hD hS (lv_sub hl [1, 2, 3, 0] rfl)
  refine x_iconst (v := (0 : Int32)) C dX3_putInAll_0 (by decide) ?_
  refine x_istore_n (lv' := [(3, .int (0 : Int32)), (0, .ref tA), (1, .int p1), (2, .int p2)]) C dX3_putInAll_1 rfl hl (by decide) rfl (fun ls hl => ?_)
  exact B2 FU _ h _ _ _ hP hD hS (lv_sub hl [1, 2, 3, 0] rfl)
theorem dX3_find_0 : decode cX3_find 0 = .ok (.iconst 0, 1) := by decide +kernel
theorem dX3_find_1 : decode cX3_find 1 = .ok (.istore_n 3, 1) := by decide +kernel
theorem dX3_find_2 : decode cX3_find 2 = .ok (.iload_n 3, 1) := by decide +kernel
theorem dX3_find_3 : decode cX3_find 3 = .ok (.aload_n 0, 1) := by decide +kernel
theorem dX3_find_4 : decode cX3_find 4 = .ok (.getfield 25, 3) := by decide +kernel
theorem dX3_find_7 : decode cX3_find 7 = .ok (.if_icmp .ge 21, 3) := by decide +kernel
theorem dX3_find_10 : decode cX3_find 10 = .ok (.aload_n 0, 1) := by decide +kernel
theorem dX3_find_11 : decode cX3_find 11 = .ok (.iload_n 3, 1) := by decide +kernel
theorem dX3_find_12 : decode cX3_find 12 = .ok (.iload_n 1, 1) := by decide +kernel
theorem dX3_find_13 : decode cX3_find 13 = .ok (.invokevirtual 28, 3) := by decide +kernel
theorem dX3_find_16 : decode cX3_find 16 = .ok (.iload_n 2, 1) := by decide +kernel
theorem dX3_find_17 : decode cX3_find 17 = .ok (.if_icmp .ne 5, 3) := by decide +kernel
theorem dX3_find_20 : decode cX3_find 20 = .ok (.iload_n 3, 1) := by decide +kernel
theorem dX3_find_21 : decode cX3_find 21 = .ok (.ireturn, 1) := by decide +kernel
theorem dX3_find_22 : decode cX3_find 22 = .ok (.iinc 3 1, 3) := by decide +kernel
theorem dX3_find_25 : decode cX3_find 25 = .ok (.goto (-23), 3) := by decide +kernel
theorem dX3_find_28 : decode cX3_find 28 = .ok (.bipush (-9), 2) := by decide +kernel
theorem dX3_find_30 : decode cX3_find 30 = .ok (.ireturn, 1) := by decide +kernel
def bfX3_find_2 (wW : Int32) (nN : Nat) (p1 : Int32) (p2 : Int32) (S : TV) (K2 : Int32 → Option (Int32)) (x3 : Int32) : Option (Int32) :=
  (if S.1 ≤ x3 then some (-9 : Int32) else ob (fX3_get wW nN x3 p1 S) fun u2 => (if u2 = p2 then some x3 else K2 ((x3 + (1 : Int32)))))
def fX3_find (wW : Int32) (nN : Nat) (p1 : Int32) (p2 : Int32) (S : TV) : Option (Int32) :=
  iter (bfX3_find_2 wW nN p1 p2 S) FU ((0 : Int32))
set_option maxHeartbeats 4000000 in
set_option maxRecDepth 100000 in
theorem kX3_find (l : Launch) (D : va_G) (cI cS : ClassId) (tA tC : Nat) (wW : Int32) (nN : Nat) (p1 : Int32) (p2 : Int32) (S : TV) {q : Int32} (h : fX3_find wW nN p1 p2 S = some q) : Mc l D (tyL cI cS) false yX3_find cX3_find 4 (some .int) 2 [.ref tA, .int p1, .int p2] (wT cI tA tC wW nN S) (some (.int q)) (wT cI tA tC wW nN S) := by
  refine Mc_of RX3 (by decide +kernel) rfl wc_X3_find (Nat.le_of_ble_eq_true rfl) ?_
  intro p e s m args below meth c A Q ls C hA hz hP hD hS hl RET
  have RETh : ∀ {pc : Nat} {ls : Array Slot} {H : Heap} {locs : List Loc} {x : Int32} , decode cX3_find pc = .ok (.ireturn, 1) → some x = some q → va_P D vwCl (wT cI tA tC wW nN S) H → va_D A (wT cI tA tC wW nN S) → va_S A s.heap H locs → W p l e (rmL 2) s m args below meth c H locs 0 0 Q (F0 m pc ls [.int x]) := by
    intro pc ls H locs x hd h hP hD hS; cases h; exact RET (x_iret C hd) hP hD hS
  have B2 : ∀ (n : Nat) (x : Int32), iter (bfX3_find_2 wW nN p1 p2 S) n x = some q → (fun (x3 : Int32) => ∀ (H : Heap) (locs : List Loc) (ls : Array Slot), va_P D vwCl (wT cI tA tC wW nN S) H → va_D A (wT cI tA tC wW nN S) → va_S A s.heap H locs → lv_has ls 4 [(0, .ref tA), (1, .int p1), (2, .int p2), (3, .int x3)] → W p l e (rmL 2) s m args below meth c H locs 0 0 Q (F0 m 2 ls [])) x := by
    refine iter_ind (fun x : Int32 => (fun (x3 : Int32) => ∀ (H : Heap) (locs : List Loc) (ls : Array Slot), va_P D vwCl (wT cI tA tC wW nN S) H → va_D A (wT cI tA tC wW nN S) → va_S A s.heap H locs → lv_has ls 4 [(0, .ref tA), (1, .int p1), (2, .int p2), (3, .int x3)] → W p l e (rmL 2) s m args below meth c H locs 0 0 Q (F0 m 2 ls [])) x) ?_
    intro K2 ih2 x h
    obtain ⟨x3, rfl⟩ : ∃ y, y = x := ⟨_, rfl⟩
    intro H locs ls hP hD hS hl
    refine x_iload_n C dX3_find_2 rfl hl 3 rfl ?_
    refine x_aload_n C dX3_find_3 rfl hl 0 rfl ?_
    refine x_get C inX3 hP 0 rfl rfl 2 (by decide) wf_X3_25 rfl dX3_find_4 ?_
    refine x_icmp_ge (tgt := 28) C h dX3_find_7 (by decide) (fun h => ?_) (fun h => ?_)
    · refine x_bipush (v := (-9 : Int32)) C dX3_find_28 (by decide) ?_
      exact RETh dX3_find_30 h hP hD hS
    · refine x_aload_n C dX3_find_10 rfl hl 0 rfl ?_
      refine x_iload_n C dX3_find_11 rfl hl 3 rfl ?_
      refine x_iload_n C dX3_find_12 rfl hl 1 rfl ?_
      obtain ⟨u2, hu2, h⟩ := ob_some h
      refine x_callV (As := [.int _, .int _]) (n := 2) C (kX3_get l D cI cS tA tC wW nN _ _ _ hu2) (fun hh => nomatch hh) wm_X3_28 wi_X3_get we_X3_get wz_X3 wc_X3_get (by decide +kernel) rfl hP hD hS hA 0 1 rfl rfl rfl hl.1 dX3_find_13 rfl (Nat.le_of_ble_eq_true rfl) ⟨Nat.le_of_ble_eq_true rfl, Nat.le_of_ble_eq_true rfl⟩ ⟨Nat.zero_le _, Nat.zero_le _⟩ (fun H locs hP hD hS => ?_)
      refine x_iload_n C dX3_find_16 rfl hl 2 rfl ?_
      refine x_icmp_ne (tgt := 22) C h dX3_find_17 (by decide) (fun h => ?_) (fun h => ?_)
      · refine x_iinc (v := (x3 + (1 : Int32))) (lv' := [(3, .int (x3 + (1 : Int32))), (0, .ref tA), (1, .int p1), (2, .int p2)]) C dX3_find_22 hl (k := 3) rfl rfl (by decide) rfl (fun ls hl => ?_)
        refine x_goto (tgt := 2) C dX3_find_25 (by decide) ?_
        exact ih2 _ h _ _ _ hP hD hS (lv_sub hl [1, 2, 3, 0] rfl)
      · refine x_iload_n C dX3_find_20 rfl hl 3 rfl ?_
        exact RETh dX3_find_21 h hP hD hS
  refine x_iconst (v := (0 : Int32)) C dX3_find_0 (by decide) ?_
  refine x_istore_n (lv' := [(3, .int (0 : Int32)), (0, .ref tA), (1, .int p1), (2, .int p2)]) C dX3_find_1 rfl hl (by decide) rfl (fun ls hl => ?_)
  exact B2 FU _ h _ _ _ hP hD hS (lv_sub hl [1, 2, 3, 0] rfl)
theorem dX3_rowsWith_0 : decode cX3_rowsWith 0 = .ok (.iconst 0, 1) := by decide +kernel
theorem dX3_rowsWith_1 : decode cX3_rowsWith 1 = .ok (.istore_n 3, 1) := by decide +kernel
theorem dX3_rowsWith_2 : decode cX3_rowsWith 2 = .ok (.iconst 0, 1) := by decide +kernel
theorem dX3_rowsWith_3 : decode cX3_rowsWith 3 = .ok (.istore 4, 2) := by decide +kernel
theorem dX3_rowsWith_5 : decode cX3_rowsWith 5 = .ok (.iload 4, 2) := by decide +kernel
theorem dX3_rowsWith_7 : decode cX3_rowsWith 7 = .ok (.aload_n 0, 1) := by decide +kernel
theorem dX3_rowsWith_8 : decode cX3_rowsWith 8 = .ok (.getfield 25, 3) := by decide +kernel
theorem dX3_rowsWith_11 : decode cX3_rowsWith 11 = .ok (.if_icmp .ge 28, 3) := by decide +kernel
theorem dX3_rowsWith_14 : decode cX3_rowsWith 14 = .ok (.iload_n 3, 1) := by decide +kernel
theorem dX3_rowsWith_15 : decode cX3_rowsWith 15 = .ok (.aload_n 0, 1) := by decide +kernel
theorem dX3_rowsWith_16 : decode cX3_rowsWith 16 = .ok (.iload 4, 2) := by decide +kernel
theorem dX3_rowsWith_18 : decode cX3_rowsWith 18 = .ok (.iload_n 1, 1) := by decide +kernel
theorem dX3_rowsWith_19 : decode cX3_rowsWith 19 = .ok (.invokevirtual 28, 3) := by decide +kernel
theorem dX3_rowsWith_22 : decode cX3_rowsWith 22 = .ok (.iload_n 2, 1) := by decide +kernel
theorem dX3_rowsWith_23 : decode cX3_rowsWith 23 = .ok (.if_icmp .ne 7, 3) := by decide +kernel
theorem dX3_rowsWith_26 : decode cX3_rowsWith 26 = .ok (.iconst 1, 1) := by decide +kernel
theorem dX3_rowsWith_27 : decode cX3_rowsWith 27 = .ok (.goto 4, 3) := by decide +kernel
theorem dX3_rowsWith_30 : decode cX3_rowsWith 30 = .ok (.iconst 0, 1) := by decide +kernel
theorem dX3_rowsWith_31 : decode cX3_rowsWith 31 = .ok (.iadd, 1) := by decide +kernel
theorem dX3_rowsWith_32 : decode cX3_rowsWith 32 = .ok (.istore_n 3, 1) := by decide +kernel
theorem dX3_rowsWith_33 : decode cX3_rowsWith 33 = .ok (.iinc 4 1, 3) := by decide +kernel
theorem dX3_rowsWith_36 : decode cX3_rowsWith 36 = .ok (.goto (-31), 3) := by decide +kernel
theorem dX3_rowsWith_39 : decode cX3_rowsWith 39 = .ok (.iload_n 3, 1) := by decide +kernel
theorem dX3_rowsWith_40 : decode cX3_rowsWith 40 = .ok (.ireturn, 1) := by decide +kernel
def bfX3_rowsWith_31 (wW : Int32) (nN : Nat) (p1 : Int32) (p2 : Int32) (S : TV) (K5 : Int32 × Int32 → Option (Int32)) (x4 : Int32) (s0 : Int32) (s1 : Int32) : Option (Int32) :=
  nm ((s0 + s1)) fun v3 => K5 (v3, (x4 + (1 : Int32)))
def bfX3_rowsWith_5 (wW : Int32) (nN : Nat) (p1 : Int32) (p2 : Int32) (S : TV) (K5 : Int32 × Int32 → Option (Int32)) (x : Int32 × Int32) : Option (Int32) :=
  match x with
  | (x3, x4) => (if S.1 ≤ x4 then some x3 else ob (fX3_get wW nN x4 p1 S) fun u4 => (if u4 = p2 then bfX3_rowsWith_31 wW nN p1 p2 S K5 x4 x3 ((1 : Int32)) else bfX3_rowsWith_31 wW nN p1 p2 S K5 x4 x3 ((0 : Int32))))
def fX3_rowsWith (wW : Int32) (nN : Nat) (p1 : Int32) (p2 : Int32) (S : TV) : Option (Int32) :=
  iter (bfX3_rowsWith_5 wW nN p1 p2 S) FU ((0 : Int32), (0 : Int32))
set_option maxHeartbeats 4000000 in
set_option maxRecDepth 100000 in
theorem kX3_rowsWith (l : Launch) (D : va_G) (cI cS : ClassId) (tA tC : Nat) (wW : Int32) (nN : Nat) (p1 : Int32) (p2 : Int32) (S : TV) {q : Int32} (h : fX3_rowsWith wW nN p1 p2 S = some q) : Mc l D (tyL cI cS) false yX3_rowsWith cX3_rowsWith 5 (some .int) 2 [.ref tA, .int p1, .int p2] (wT cI tA tC wW nN S) (some (.int q)) (wT cI tA tC wW nN S) := by
  refine Mc_of RX3 (by decide +kernel) rfl wc_X3_rowsWith (Nat.le_of_ble_eq_true rfl) ?_
  intro p e s m args below meth c A Q ls C hA hz hP hD hS hl RET
  have RETh : ∀ {pc : Nat} {ls : Array Slot} {H : Heap} {locs : List Loc} {x : Int32} , decode cX3_rowsWith pc = .ok (.ireturn, 1) → some x = some q → va_P D vwCl (wT cI tA tC wW nN S) H → va_D A (wT cI tA tC wW nN S) → va_S A s.heap H locs → W p l e (rmL 2) s m args below meth c H locs 0 0 Q (F0 m pc ls [.int x]) := by
    intro pc ls H locs x hd h hP hD hS; cases h; exact RET (x_iret C hd) hP hD hS
  have B31 : ∀ (K5 : Int32 × Int32 → Option (Int32)) (ih5 : ∀ x, K5 x = some q → (match x with | (x3, x4) => ∀ (H : Heap) (locs : List Loc) (ls : Array Slot), va_P D vwCl (wT cI tA tC wW nN S) H → va_D A (wT cI tA tC wW nN S) → va_S A s.heap H locs → lv_has ls 5 [(0, .ref tA), (1, .int p1), (2, .int p2), (3, .int x3), (4, .int x4)] → W p l e (rmL 2) s m args below meth c H locs 0 0 Q (F0 m 5 ls []))) (x4 : Int32) (s0 : Int32) (s1 : Int32), bfX3_rowsWith_31 wW nN p1 p2 S K5 x4 s0 s1 = some q → ∀ (H : Heap) (locs : List Loc) (ls : Array Slot), va_P D vwCl (wT cI tA tC wW nN S) H → va_D A (wT cI tA tC wW nN S) → va_S A s.heap H locs → lv_has ls 5 [(0, .ref tA), (1, .int p1), (2, .int p2), (4, .int x4)] → W p l e (rmL 2) s m args below meth c H locs 0 0 Q (F0 m 31 ls [.int s1, .int s0]) := by
    intro K5 ih5 x4 s0 s1 h H locs ls hP hD hS hl
    refine x_iadd C dX3_rowsWith_31 ?_
    refine x_nmi h (fun v3 h => ?_)
    refine x_istore_n (lv' := [(3, .int v3), (0, .ref tA), (1, .int p1), (2, .int p2), (4, .int x4)]) C dX3_rowsWith_32 rfl hl (by decide) rfl (fun ls hl => ?_)
    refine x_iinc (v := (x4 + (1 : Int32))) (lv' := [(4, .int (x4 + (1 : Int32))), (3, .int v3), (0, .ref tA), (1, .int p1), (2, .int p2)]) C dX3_rowsWith_33 hl (k := 4) rfl rfl (by decide) rfl (fun ls hl => ?_)
    refine x_goto (tgt := 5) C dX3_rowsWith_36 (by decide) ?_
    exact ih5 _ h _ _ _ hP hD hS (lv_sub hl [2, 3, 4, 1, 0] rfl)
  have B5 : ∀ (n : Nat) (x : Int32 × Int32), iter (bfX3_rowsWith_5 wW nN p1 p2 S) n x = some q → (match x with | (x3, x4) => ∀ (H : Heap) (locs : List Loc) (ls : Array Slot), va_P D vwCl (wT cI tA tC wW nN S) H → va_D A (wT cI tA tC wW nN S) → va_S A s.heap H locs → lv_has ls 5 [(0, .ref tA), (1, .int p1), (2, .int p2), (3, .int x3), (4, .int x4)] → W p l e (rmL 2) s m args below meth c H locs 0 0 Q (F0 m 5 ls [])) := by
    refine iter_ind (fun x : Int32 × Int32 => (match x with | (x3, x4) => ∀ (H : Heap) (locs : List Loc) (ls : Array Slot), va_P D vwCl (wT cI tA tC wW nN S) H → va_D A (wT cI tA tC wW nN S) → va_S A s.heap H locs → lv_has ls 5 [(0, .ref tA), (1, .int p1), (2, .int p2), (3, .int x3), (4, .int x4)] → W p l e (rmL 2) s m args below meth c H locs 0 0 Q (F0 m 5 ls []))) ?_
    intro K5 ih5 x h
    obtain ⟨x3, x4⟩ := x
    intro H locs ls hP hD hS hl
    refine x_iload C dX3_rowsWith_5 hl 4 rfl ?_
    refine x_aload_n C dX3_rowsWith_7 rfl hl 0 rfl ?_
    refine x_get C inX3 hP 0 rfl rfl 2 (by decide) wf_X3_25 rfl dX3_rowsWith_8 ?_
    refine x_icmp_ge (tgt := 39) C h dX3_rowsWith_11 (by decide) (fun h => ?_) (fun h => ?_)
    · refine x_iload_n C dX3_rowsWith_39 rfl hl 3 rfl ?_
      exact RETh dX3_rowsWith_40 h hP hD hS
    · refine x_iload_n C dX3_rowsWith_14 rfl hl 3 rfl ?_
      refine x_aload_n C dX3_rowsWith_15 rfl hl 0 rfl ?_
      refine x_iload C dX3_rowsWith_16 hl 4 rfl ?_
      refine x_iload_n C dX3_rowsWith_18 rfl hl 1 rfl ?_
      obtain ⟨u4, hu4, h⟩ := ob_some h
      refine x_callV (As := [.int _, .int _]) (n := 2) C (kX3_get l D cI cS tA tC wW nN _ _ _ hu4) (fun hh => nomatch hh) wm_X3_28 wi_X3_get we_X3_get wz_X3 wc_X3_get (by decide +kernel) rfl hP hD hS hA 0 1 rfl rfl rfl hl.1 dX3_rowsWith_19 rfl (Nat.le_of_ble_eq_true rfl) ⟨Nat.le_of_ble_eq_true rfl, Nat.le_of_ble_eq_true rfl⟩ ⟨Nat.zero_le _, Nat.zero_le _⟩ (fun H locs hP hD hS => ?_)
      refine x_iload_n C dX3_rowsWith_22 rfl hl 2 rfl ?_
      refine x_icmp_ne (tgt := 30) C h dX3_rowsWith_23 (by decide) (fun h => ?_) (fun h => ?_)
      · refine x_iconst (v := (0 : Int32)) C dX3_rowsWith_30 (by decide) ?_
        exact B31 K5 ih5 _ _ _ h _ _ _ hP hD hS (lv_sub hl [0, 1, 2, 4] rfl)
      · refine x_iconst (v := (1 : Int32)) C dX3_rowsWith_26 (by decide) ?_
        refine x_goto (tgt := 31) C dX3_rowsWith_27 (by decide) ?_
        exact B31 K5 ih5 _ _ _ h _ _ _ hP hD hS (lv_sub hl [0, 1, 2, 4] rfl)
  refine x_iconst (v := (0 : Int32)) C dX3_rowsWith_0 (by decide) ?_
  refine x_istore_n (lv' := [(3, .int (0 : Int32)), (0, .ref tA), (1, .int p1), (2, .int p2)]) C dX3_rowsWith_1 rfl hl (by decide) rfl (fun ls hl => ?_)
  refine x_iconst (v := (0 : Int32)) C dX3_rowsWith_2 (by decide) ?_
  refine x_istore (lv' := [(4, .int (0 : Int32)), (3, .int (0 : Int32)), (0, .ref tA), (1, .int p1), (2, .int p2)]) C dX3_rowsWith_3 hl (by decide) rfl (fun ls hl => ?_)
  exact B5 FU _ h _ _ _ hP hD hS (lv_sub hl [2, 3, 4, 1, 0] rfl)
theorem dX3_sumOf_0 : decode cX3_sumOf 0 = .ok (.iconst 0, 1) := by decide +kernel
theorem dX3_sumOf_1 : decode cX3_sumOf 1 = .ok (.istore_n 2, 1) := by decide +kernel
theorem dX3_sumOf_2 : decode cX3_sumOf 2 = .ok (.iconst 0, 1) := by decide +kernel
theorem dX3_sumOf_3 : decode cX3_sumOf 3 = .ok (.istore_n 3, 1) := by decide +kernel
theorem dX3_sumOf_4 : decode cX3_sumOf 4 = .ok (.iload_n 3, 1) := by decide +kernel
theorem dX3_sumOf_5 : decode cX3_sumOf 5 = .ok (.aload_n 0, 1) := by decide +kernel
theorem dX3_sumOf_6 : decode cX3_sumOf 6 = .ok (.getfield 25, 3) := by decide +kernel
theorem dX3_sumOf_9 : decode cX3_sumOf 9 = .ok (.if_icmp .ge 18, 3) := by decide +kernel
theorem dX3_sumOf_12 : decode cX3_sumOf 12 = .ok (.iload_n 2, 1) := by decide +kernel
theorem dX3_sumOf_13 : decode cX3_sumOf 13 = .ok (.aload_n 0, 1) := by decide +kernel
theorem dX3_sumOf_14 : decode cX3_sumOf 14 = .ok (.iload_n 3, 1) := by decide +kernel
theorem dX3_sumOf_15 : decode cX3_sumOf 15 = .ok (.iload_n 1, 1) := by decide +kernel
theorem dX3_sumOf_16 : decode cX3_sumOf 16 = .ok (.invokevirtual 28, 3) := by decide +kernel
theorem dX3_sumOf_19 : decode cX3_sumOf 19 = .ok (.iadd, 1) := by decide +kernel
theorem dX3_sumOf_20 : decode cX3_sumOf 20 = .ok (.istore_n 2, 1) := by decide +kernel
theorem dX3_sumOf_21 : decode cX3_sumOf 21 = .ok (.iinc 3 1, 3) := by decide +kernel
theorem dX3_sumOf_24 : decode cX3_sumOf 24 = .ok (.goto (-20), 3) := by decide +kernel
theorem dX3_sumOf_27 : decode cX3_sumOf 27 = .ok (.iload_n 2, 1) := by decide +kernel
theorem dX3_sumOf_28 : decode cX3_sumOf 28 = .ok (.ireturn, 1) := by decide +kernel
def bfX3_sumOf_4 (wW : Int32) (nN : Nat) (p1 : Int32) (S : TV) (K4 : Int32 × Int32 → Option (Int32)) (x : Int32 × Int32) : Option (Int32) :=
  match x with
  | (x2, x3) => (if S.1 ≤ x3 then some x2 else ob (fX3_get wW nN x3 p1 S) fun u3 => nm ((x2 + u3)) fun v4 => K4 (v4, (x3 + (1 : Int32))))
def fX3_sumOf (wW : Int32) (nN : Nat) (p1 : Int32) (S : TV) : Option (Int32) :=
  iter (bfX3_sumOf_4 wW nN p1 S) FU ((0 : Int32), (0 : Int32))
set_option maxHeartbeats 4000000 in
set_option maxRecDepth 100000 in
theorem kX3_sumOf (l : Launch) (D : va_G) (cI cS : ClassId) (tA tC : Nat) (wW : Int32) (nN : Nat) (p1 : Int32) (S : TV) {q : Int32} (h : fX3_sumOf wW nN p1 S = some q) : Mc l D (tyL cI cS) false yX3_sumOf cX3_sumOf 4 (some .int) 2 [.ref tA, .int p1] (wT cI tA tC wW nN S) (some (.int q)) (wT cI tA tC wW nN S) := by
  refine Mc_of RX3 (by decide +kernel) rfl wc_X3_sumOf (Nat.le_of_ble_eq_true rfl) ?_
  intro p e s m args below meth c A Q ls C hA hz hP hD hS hl RET
  have RETh : ∀ {pc : Nat} {ls : Array Slot} {H : Heap} {locs : List Loc} {x : Int32} , decode cX3_sumOf pc = .ok (.ireturn, 1) → some x = some q → va_P D vwCl (wT cI tA tC wW nN S) H → va_D A (wT cI tA tC wW nN S) → va_S A s.heap H locs → W p l e (rmL 2) s m args below meth c H locs 0 0 Q (F0 m pc ls [.int x]) := by
    intro pc ls H locs x hd h hP hD hS; cases h; exact RET (x_iret C hd) hP hD hS
  have B4 : ∀ (n : Nat) (x : Int32 × Int32), iter (bfX3_sumOf_4 wW nN p1 S) n x = some q → (match x with | (x2, x3) => ∀ (H : Heap) (locs : List Loc) (ls : Array Slot), va_P D vwCl (wT cI tA tC wW nN S) H → va_D A (wT cI tA tC wW nN S) → va_S A s.heap H locs → lv_has ls 4 [(0, .ref tA), (1, .int p1), (2, .int x2), (3, .int x3)] → W p l e (rmL 2) s m args below meth c H locs 0 0 Q (F0 m 4 ls [])) := by
    refine iter_ind (fun x : Int32 × Int32 => (match x with | (x2, x3) => ∀ (H : Heap) (locs : List Loc) (ls : Array Slot), va_P D vwCl (wT cI tA tC wW nN S) H → va_D A (wT cI tA tC wW nN S) → va_S A s.heap H locs → lv_has ls 4 [(0, .ref tA), (1, .int p1), (2, .int x2), (3, .int x3)] → W p l e (rmL 2) s m args below meth c H locs 0 0 Q (F0 m 4 ls []))) ?_
    intro K4 ih4 x h
    obtain ⟨x2, x3⟩ := x
    intro H locs ls hP hD hS hl
    refine x_iload_n C dX3_sumOf_4 rfl hl 3 rfl ?_
    refine x_aload_n C dX3_sumOf_5 rfl hl 0 rfl ?_
    refine x_get C inX3 hP 0 rfl rfl 2 (by decide) wf_X3_25 rfl dX3_sumOf_6 ?_
    refine x_icmp_ge (tgt := 27) C h dX3_sumOf_9 (by decide) (fun h => ?_) (fun h => ?_)
    · refine x_iload_n C dX3_sumOf_27 rfl hl 2 rfl ?_
      exact RETh dX3_sumOf_28 h hP hD hS
    · refine x_iload_n C dX3_sumOf_12 rfl hl 2 rfl ?_
      refine x_aload_n C dX3_sumOf_13 rfl hl 0 rfl ?_
      refine x_iload_n C dX3_sumOf_14 rfl hl 3 rfl ?_
      refine x_iload_n C dX3_sumOf_15 rfl hl 1 rfl ?_
      obtain ⟨u3, hu3, h⟩ := ob_some h
      refine x_callV (As := [.int _, .int _]) (n := 2) C (kX3_get l D cI cS tA tC wW nN _ _ _ hu3) (fun hh => nomatch hh) wm_X3_28 wi_X3_get we_X3_get wz_X3 wc_X3_get (by decide +kernel) rfl hP hD hS hA 0 1 rfl rfl rfl hl.1 dX3_sumOf_16 rfl (Nat.le_of_ble_eq_true rfl) ⟨Nat.le_of_ble_eq_true rfl, Nat.le_of_ble_eq_true rfl⟩ ⟨Nat.zero_le _, Nat.zero_le _⟩ (fun H locs hP hD hS => ?_)
      refine x_iadd C dX3_sumOf_19 ?_
      refine x_nmi h (fun v4 h => ?_)
      refine x_istore_n (lv' := [(2, .int v4), (0, .ref tA), (1, .int p1), (3, .int x3)]) C dX3_sumOf_20 rfl hl (by decide) rfl (fun ls hl => ?_)
      refine x_iinc (v := (x3 + (1 : Int32))) (lv' := [(3, .int (x3 + (1 : Int32))), (2, .int v4), (0, .ref tA), (1, .int p1)]) C dX3_sumOf_21 hl (k := 3) rfl rfl (by decide) rfl (fun ls hl => ?_)
      refine x_goto (tgt := 4) C dX3_sumOf_24 (by decide) ?_
      exact ih4 _ h _ _ _ hP hD hS (lv_sub hl [2, 3, 1, 0] rfl)
  refine x_iconst (v := (0 : Int32)) C dX3_sumOf_0 (by decide) ?_
  refine x_istore_n (lv' := [(2, .int (0 : Int32)), (0, .ref tA), (1, .int p1)]) C dX3_sumOf_1 rfl hl (by decide) rfl (fun ls hl => ?_)
  refine x_iconst (v := (0 : Int32)) C dX3_sumOf_2 (by decide) ?_
  refine x_istore_n (lv' := [(3, .int (0 : Int32)), (2, .int (0 : Int32)), (0, .ref tA), (1, .int p1)]) C dX3_sumOf_3 rfl hl (by decide) rfl (fun ls hl => ?_)
  exact B4 FU _ h _ _ _ hP hD hS (lv_sub hl [2, 3, 1, 0] rfl)
theorem dX3_drop_0 : decode cX3_drop 0 = .ok (.iload_n 1, 1) := by decide +kernel
theorem dX3_drop_1 : decode cX3_drop 1 = .ok (.ifCond .lt 11, 3) := by decide +kernel
theorem dX3_drop_4 : decode cX3_drop 4 = .ok (.iload_n 1, 1) := by decide +kernel
theorem dX3_drop_5 : decode cX3_drop 5 = .ok (.aload_n 0, 1) := by decide +kernel
theorem dX3_drop_6 : decode cX3_drop 6 = .ok (.getfield 25, 3) := by decide +kernel
theorem dX3_drop_9 : decode cX3_drop 9 = .ok (.if_icmp .lt 4, 3) := by decide +kernel
theorem dX3_drop_12 : decode cX3_drop 12 = .ok (.return_, 1) := by decide +kernel
theorem dX3_drop_13 : decode cX3_drop 13 = .ok (.iload_n 1, 1) := by decide +kernel
theorem dX3_drop_14 : decode cX3_drop 14 = .ok (.aload_n 0, 1) := by decide +kernel
theorem dX3_drop_15 : decode cX3_drop 15 = .ok (.getfield 9, 3) := by decide +kernel
theorem dX3_drop_18 : decode cX3_drop 18 = .ok (.imul, 1) := by decide +kernel
theorem dX3_drop_19 : decode cX3_drop 19 = .ok (.istore_n 2, 1) := by decide +kernel
theorem dX3_drop_20 : decode cX3_drop 20 = .ok (.iload_n 2, 1) := by decide +kernel
theorem dX3_drop_21 : decode cX3_drop 21 = .ok (.aload_n 0, 1) := by decide +kernel
theorem dX3_drop_22 : decode cX3_drop 22 = .ok (.getfield 9, 3) := by decide +kernel
theorem dX3_drop_25 : decode cX3_drop 25 = .ok (.iadd, 1) := by decide +kernel
theorem dX3_drop_26 : decode cX3_drop 26 = .ok (.istore_n 3, 1) := by decide +kernel
theorem dX3_drop_27 : decode cX3_drop 27 = .ok (.aload_n 0, 1) := by decide +kernel
theorem dX3_drop_28 : decode cX3_drop 28 = .ok (.getfield 25, 3) := by decide +kernel
theorem dX3_drop_31 : decode cX3_drop 31 = .ok (.aload_n 0, 1) := by decide +kernel
theorem dX3_drop_32 : decode cX3_drop 32 = .ok (.getfield 9, 3) := by decide +kernel
theorem dX3_drop_35 : decode cX3_drop 35 = .ok (.imul, 1) := by decide +kernel
theorem dX3_drop_36 : decode cX3_drop 36 = .ok (.iload_n 3, 1) := by decide +kernel
theorem dX3_drop_37 : decode cX3_drop 37 = .ok (.isub, 1) := by decide +kernel
theorem dX3_drop_38 : decode cX3_drop 38 = .ok (.istore 4, 2) := by decide +kernel
theorem dX3_drop_40 : decode cX3_drop 40 = .ok (.iload_n 2, 1) := by decide +kernel
theorem dX3_drop_41 : decode cX3_drop 41 = .ok (.ifCond .lt 35, 3) := by decide +kernel
theorem dX3_drop_44 : decode cX3_drop 44 = .ok (.iload 4, 2) := by decide +kernel
theorem dX3_drop_46 : decode cX3_drop 46 = .ok (.ifCond .lt 30, 3) := by decide +kernel
theorem dX3_drop_49 : decode cX3_drop 49 = .ok (.iload_n 3, 1) := by decide +kernel
theorem dX3_drop_50 : decode cX3_drop 50 = .ok (.iload 4, 2) := by decide +kernel
theorem dX3_drop_52 : decode cX3_drop 52 = .ok (.iadd, 1) := by decide +kernel
theorem dX3_drop_53 : decode cX3_drop 53 = .ok (.aload_n 0, 1) := by decide +kernel
theorem dX3_drop_54 : decode cX3_drop 54 = .ok (.getfield 21, 3) := by decide +kernel
theorem dX3_drop_57 : decode cX3_drop 57 = .ok (.arraylength, 1) := by decide +kernel
theorem dX3_drop_58 : decode cX3_drop 58 = .ok (.if_icmp .gt 18, 3) := by decide +kernel
theorem dX3_drop_61 : decode cX3_drop 61 = .ok (.aload_n 0, 1) := by decide +kernel
theorem dX3_drop_62 : decode cX3_drop 62 = .ok (.getfield 21, 3) := by decide +kernel
theorem dX3_drop_65 : decode cX3_drop 65 = .ok (.iload_n 3, 1) := by decide +kernel
theorem dX3_drop_66 : decode cX3_drop 66 = .ok (.aload_n 0, 1) := by decide +kernel
theorem dX3_drop_67 : decode cX3_drop 67 = .ok (.getfield 21, 3) := by decide +kernel
theorem dX3_drop_70 : decode cX3_drop 70 = .ok (.iload_n 2, 1) := by decide +kernel
theorem dX3_drop_71 : decode cX3_drop 71 = .ok (.iload 4, 2) := by decide +kernel
theorem dX3_drop_73 : decode cX3_drop 73 = .ok (.invokestatic 41, 3) := by decide +kernel
theorem dX3_drop_76 : decode cX3_drop 76 = .ok (.aload_n 0, 1) := by decide +kernel
theorem dX3_drop_77 : decode cX3_drop 77 = .ok (.dup, 1) := by decide +kernel
theorem dX3_drop_78 : decode cX3_drop 78 = .ok (.getfield 25, 3) := by decide +kernel
theorem dX3_drop_81 : decode cX3_drop 81 = .ok (.iconst 1, 1) := by decide +kernel
theorem dX3_drop_82 : decode cX3_drop 82 = .ok (.isub, 1) := by decide +kernel
theorem dX3_drop_83 : decode cX3_drop 83 = .ok (.putfield 25, 3) := by decide +kernel
theorem dX3_drop_86 : decode cX3_drop 86 = .ok (.return_, 1) := by decide +kernel
def bfX3_drop_76 (wW : Int32) (nN : Nat) (p1 : Int32) (S : TV) : Option (TV) :=
  nm ((S.1 - (1 : Int32)), S.2) fun S6 => some S6
def bfX3_drop_12 (wW : Int32) (nN : Nat) (p1 : Int32) (S : TV) : Option (TV) :=
  some S
def fX3_drop (wW : Int32) (nN : Nat) (p1 : Int32) (S : TV) : Option (TV) :=
  (if p1 < 0 then bfX3_drop_12 wW nN p1  S else (if p1 < S.1 then nm ((p1 * wW)) fun v7 => nm ((v7 + wW)) fun v8 => nm (((S.1 * wW) - v8)) fun v9 => (if v7 < 0 then bfX3_drop_76 wW nN p1  S else (if v9 < 0 then bfX3_drop_76 wW nN p1  S else (if (nI nN) < (v8 + v9) then bfX3_drop_76 wW nN p1  S else (if okC v8 v7 v9 nN nN then nm (S.1, va_cpy S.2 S.2 (v8).toNatClampNeg (v7).toNatClampNeg (v9).toNatClampNeg) fun S10 => bfX3_drop_76 wW nN p1  S10 else none)))) else bfX3_drop_12 wW nN p1  S))
set_option maxHeartbeats 4000000 in
set_option maxRecDepth 100000 in
theorem kX3_drop (l : Launch) (D : va_G) (cI cS : ClassId) (tA tC : Nat) (wW : Int32) (nN : Nat) (p1 : Int32) (S : TV) {q : TV} (h : fX3_drop wW nN p1 S = some q) : Mc l D (tyL cI cS) false yX3_drop cX3_drop 5 none 1 [.ref tA, .int p1] (wT cI tA tC wW nN S) none (wT cI tA tC wW nN q) := by
  refine Mc_of RX3 (by decide +kernel) rfl wc_X3_drop (Nat.le_of_ble_eq_true rfl) ?_
  intro p e s m args below meth c A Q ls C hA hz hP hD hS hl RET
  have RETh : ∀ {pc : Nat} {ls : Array Slot} {H : Heap} {locs : List Loc} {S1 : TV}, decode cX3_drop pc = .ok (.return_, 1) → some S1 = some q → va_P D vwCl (wT cI tA tC wW nN S1) H → va_D A (wT cI tA tC wW nN S1) → va_S A s.heap H locs → W p l e (rmL 1) s m args below meth c H locs 0 0 Q (F0 m pc ls []) := by
    intro pc ls H locs S1 hd h hP hD hS; cases h; exact RET (x_vret C hd) hP hD hS
  have B76 : ∀ (S : TV), bfX3_drop_76 wW nN p1 S = some q → ∀ (H : Heap) (locs : List Loc) (ls : Array Slot), va_P D vwCl (wT cI tA tC wW nN S) H → va_D A (wT cI tA tC wW nN S) → va_S A s.heap H locs → lv_has ls 5 [(0, .ref tA)] → W p l e (rmL 1) s m args below meth c H locs 0 0 Q (F0 m 76 ls []) := by
    intro S h H locs ls hP hD hS hl
    refine x_aload_n C dX3_drop_76 rfl hl 0 rfl ?_
    refine x_dup C dX3_drop_77 rfl ?_
    refine x_get C inX3 hP 0 rfl rfl 2 (by decide) wf_X3_25 rfl dX3_drop_78 ?_
    refine x_iconst (v := (1 : Int32)) C dX3_drop_81 (by decide) ?_
    refine x_isub C dX3_drop_82 ?_
    refine x_putM (wT cI tA tC wW nN) C h inX3 tyX3 tyX3_ok nmX3 hP hD hS 0 rfl rfl 2 (by decide) wf_X3_25 rfl (ft := .int) (by decide +kernel) rfl rfl (Nat.le_of_ble_eq_true rfl) rfl dX3_drop_83 (fun S6 h H locs hP hD hS => ?_)
    exact RETh dX3_drop_86 h hP hD hS
  have B12 : ∀ (S : TV), bfX3_drop_12 wW nN p1 S = some q → ∀ (H : Heap) (locs : List Loc) (ls : Array Slot), va_P D vwCl (wT cI tA tC wW nN S) H → va_D A (wT cI tA tC wW nN S) → va_S A s.heap H locs → lv_has ls 5 [] → W p l e (rmL 1) s m args below meth c H locs 0 0 Q (F0 m 12 ls []) := by
    intro S h H locs ls hP hD hS hl
    exact RETh dX3_drop_12 h hP hD hS
  refine x_iload_n C dX3_drop_0 rfl hl 1 rfl ?_
  refine x_if_lt (tgt := 12) C h dX3_drop_1 (by decide) (fun h => ?_) (fun h => ?_)
  · exact B12 _ h _ _ _ hP hD hS (lv_sub hl [] rfl)
  · refine x_iload_n C dX3_drop_4 rfl hl 1 rfl ?_
    refine x_aload_n C dX3_drop_5 rfl hl 0 rfl ?_
    refine x_get C inX3 hP 0 rfl rfl 2 (by decide) wf_X3_25 rfl dX3_drop_6 ?_
    refine x_icmp_lt (tgt := 13) C h dX3_drop_9 (by decide) (fun h => ?_) (fun h => ?_)
    · refine x_iload_n C dX3_drop_13 rfl hl 1 rfl ?_
      refine x_aload_n C dX3_drop_14 rfl hl 0 rfl ?_
      refine x_get C inX3 hP 0 rfl rfl 0 (by decide) wf_X3_9 rfl dX3_drop_15 ?_
      refine x_imul C dX3_drop_18 ?_
      refine x_nmi h (fun v7 h => ?_)
      refine x_istore_n (lv' := [(2, .int v7), (0, .ref tA), (1, .int p1)]) C dX3_drop_19 rfl hl (by decide) rfl (fun ls hl => ?_)
      refine x_iload_n C dX3_drop_20 rfl hl 0 rfl ?_
      refine x_aload_n C dX3_drop_21 rfl hl 1 rfl ?_
      refine x_get C inX3 hP 0 rfl rfl 0 (by decide) wf_X3_9 rfl dX3_drop_22 ?_
      refine x_iadd C dX3_drop_25 ?_
      refine x_nmi h (fun v8 h => ?_)
      refine x_istore_n (lv' := [(3, .int v8), (2, .int v7), (0, .ref tA), (1, .int p1)]) C dX3_drop_26 rfl hl (by decide) rfl (fun ls hl => ?_)
      refine x_aload_n C dX3_drop_27 rfl hl 2 rfl ?_
      refine x_get C inX3 hP 0 rfl rfl 2 (by decide) wf_X3_25 rfl dX3_drop_28 ?_
      refine x_aload_n C dX3_drop_31 rfl hl 2 rfl ?_
      refine x_get C inX3 hP 0 rfl rfl 0 (by decide) wf_X3_9 rfl dX3_drop_32 ?_
      refine x_imul C dX3_drop_35 ?_
      refine x_iload_n C dX3_drop_36 rfl hl 0 rfl ?_
      refine x_isub C dX3_drop_37 ?_
      refine x_nmi h (fun v9 h => ?_)
      refine x_istore (lv' := [(4, .int v9), (3, .int v8), (2, .int v7), (0, .ref tA), (1, .int p1)]) C dX3_drop_38 hl (by decide) rfl (fun ls hl => ?_)
      refine x_iload_n C dX3_drop_40 rfl hl 2 rfl ?_
      refine x_if_lt (tgt := 76) C h dX3_drop_41 (by decide) (fun h => ?_) (fun h => ?_)
      · exact B76 _ h _ _ _ hP hD hS (lv_sub hl [3] rfl)
      · refine x_iload C dX3_drop_44 hl 0 rfl ?_
        refine x_if_lt (tgt := 76) C h dX3_drop_46 (by decide) (fun h => ?_) (fun h => ?_)
        · exact B76 _ h _ _ _ hP hD hS (lv_sub hl [3] rfl)
        · refine x_iload_n C dX3_drop_49 rfl hl 1 rfl ?_
          refine x_iload C dX3_drop_50 hl 0 rfl ?_
          refine x_iadd C dX3_drop_52 ?_
          refine x_aload_n C dX3_drop_53 rfl hl 3 rfl ?_
          refine x_get C inX3 hP 0 rfl rfl 1 (by decide) wf_X3_21 rfl dX3_drop_54 ?_
          refine x_alen C hP 1 rfl (t0 := 0) rfl rfl dX3_drop_57 ?_
          refine x_icmp_gt (tgt := 76) C h dX3_drop_58 (by decide) (fun h => ?_) (fun h => ?_)
          · exact B76 _ h _ _ _ hP hD hS (lv_sub hl [3] rfl)
          · refine x_aload_n C dX3_drop_61 rfl hl 3 rfl ?_
            refine x_get C inX3 hP 0 rfl rfl 1 (by decide) wf_X3_21 rfl dX3_drop_62 ?_
            refine x_iload_n C dX3_drop_65 rfl hl 1 rfl ?_
            refine x_aload_n C dX3_drop_66 rfl hl 3 rfl ?_
            refine x_get C inX3 hP 0 rfl rfl 1 (by decide) wf_X3_21 rfl dX3_drop_67 ?_
            refine x_iload_n C dX3_drop_70 rfl hl 2 rfl ?_
            refine x_iload C dX3_drop_71 hl 0 rfl ?_
            refine x_acopyM (wT cI tA tC wW nN) C h hl.1 wm_X3_41 wn_arraycopy wt__java_lang_System_arraycopy wz_J10 hP hD hS 1 1 rfl rfl (t0 := 0) (t1 := 0) rfl rfl rfl (by decide) (Nat.le_of_ble_eq_true rfl) dX3_drop_73 (fun S10 h H locs hP hD hS => ?_)
            exact B76 _ h _ _ _ hP hD hS (lv_sub hl [3] rfl)
    · exact B12 _ h _ _ _ hP hD hS (lv_sub hl [] rfl)
/-- Arrays.fill over a table's cells -/
def fillT (n : Nat) (a b v : Int32) (S : TV) : Option TV := (fJ7_fill_fda19 n a b v S.2).map fun f => (S.1, f)
theorem kT_fill (l : Launch) (D : va_G) (cI cS : ClassId) (tA tC : Nat) (wW : Int32) (nN : Nat) (a b v : Int32) (S : TV) {q : TV} (h : fillT nN a b v S = some q) : Mc l D (tyL cI cS) false yJ7_fill_fda19 cJ7_fill_fda19 5 none 2 [.ref tC, .int a, .int b, .int v] (wT cI tA tC wW nN S) none (wT cI tA tC wW nN q) := by
  unfold fillT at h
  cases hf : fJ7_fill_fda19 nN a b v S.2 with
  | none => rw [hf] at h; cases h
  | some f =>
    rw [hf] at h
    cases h
    exact (kJ7_fill_fda19 l D cI cS tC nN a b v S.2 hf).mid rfl [(tA, .inr (1, [.int wW, .ref tC, .int S.1]))] []
theorem kTT_put (l : Launch) (D : va_G) (cI cS : ClassId) (tA tC tA2 tC2 : Nat) (wW : Int32) (nN : Nat) (wW2 : Int32) (nN2 : Nat) (a b v : Int32) (S : TV × TV) {q : TV} (h : fX3_put wW nN a b v S.1 = some q) : Mc l D (tyL cI cS) false yX3_put cX3_put 5 none 1 [.ref tA, .int a, .int b, .int v] (wTT cI tA tC wW nN tA2 tC2 wW2 nN2 S) none (wTT cI tA tC wW nN tA2 tC2 wW2 nN2 (q, S.2)) :=
  (kX3_put l D cI cS tA tC wW nN a b v S.1 h).mid rfl [] (wT cI tA2 tC2 wW2 nN2 S.2)
theorem kTT_get2 (l : Launch) (D : va_G) (cI cS : ClassId) (tA tC tA2 tC2 : Nat) (wW : Int32) (nN : Nat) (wW2 : Int32) (nN2 : Nat) (a b : Int32) (S : TV × TV) {q : Int32} (h : fX3_get wW2 nN2 a b S.2 = some q) : Mc l D (tyL cI cS) false yX3_get cX3_get 4 (some .int) 1 [.ref tA2, .int a, .int b] (wTT cI tA tC wW nN tA2 tC2 wW2 nN2 S) (some (.int q)) (wTT cI tA tC wW nN tA2 tC2 wW2 nN2 S) :=
  (kX3_get l D cI cS tA2 tC2 wW2 nN2 a b S.2 h).mid rfl (wT cI tA tC wW nN S.1) []
def putTT (w : Int32) (n : Nat) (a b v : Int32) (S : TV × TV) : Option (TV × TV) := (fX3_put w n a b v S.1).map fun f => (f, S.2)
theorem kTT_put' (l : Launch) (D : va_G) (cI cS : ClassId) (tA tC tA2 tC2 : Nat) (wW : Int32) (nN : Nat) (wW2 : Int32) (nN2 : Nat) (a b v : Int32) (S : TV × TV) {q : TV × TV} (h : putTT wW nN a b v S = some q) : Mc l D (tyL cI cS) false yX3_put cX3_put 5 none 1 [.ref tA, .int a, .int b, .int v] (wTT cI tA tC wW nN tA2 tC2 wW2 nN2 S) none (wTT cI tA tC wW nN tA2 tC2 wW2 nN2 q) := by
  unfold putTT at h
  cases hf : fX3_put wW nN a b v S.1 with
  | none => rw [hf] at h; cases h
  | some f => rw [hf] at h; cases h; exact kTT_put l D cI cS tA tC tA2 tC2 wW nN wW2 nN2 a b v S hf
theorem dX3_append_0 : decode cX3_append 0 = .ok (.aload_n 0, 1) := by decide +kernel
theorem dX3_append_1 : decode cX3_append 1 = .ok (.getfield 25, 3) := by decide +kernel
theorem dX3_append_4 : decode cX3_append 4 = .ok (.aload_n 0, 1) := by decide +kernel
theorem dX3_append_5 : decode cX3_append 5 = .ok (.getfield 9, 3) := by decide +kernel
theorem dX3_append_8 : decode cX3_append 8 = .ok (.imul, 1) := by decide +kernel
theorem dX3_append_9 : decode cX3_append 9 = .ok (.istore_n 1, 1) := by decide +kernel
theorem dX3_append_10 : decode cX3_append 10 = .ok (.iload_n 1, 1) := by decide +kernel
theorem dX3_append_11 : decode cX3_append 11 = .ok (.aload_n 0, 1) := by decide +kernel
theorem dX3_append_12 : decode cX3_append 12 = .ok (.getfield 9, 3) := by decide +kernel
theorem dX3_append_15 : decode cX3_append 15 = .ok (.iadd, 1) := by decide +kernel
theorem dX3_append_16 : decode cX3_append 16 = .ok (.istore_n 2, 1) := by decide +kernel
theorem dX3_append_17 : decode cX3_append 17 = .ok (.iload_n 1, 1) := by decide +kernel
theorem dX3_append_18 : decode cX3_append 18 = .ok (.ifCond .lt 17, 3) := by decide +kernel
theorem dX3_append_21 : decode cX3_append 21 = .ok (.iload_n 2, 1) := by decide +kernel
theorem dX3_append_22 : decode cX3_append 22 = .ok (.iload_n 1, 1) := by decide +kernel
theorem dX3_append_23 : decode cX3_append 23 = .ok (.if_icmp .lt 12, 3) := by decide +kernel
theorem dX3_append_26 : decode cX3_append 26 = .ok (.iload_n 2, 1) := by decide +kernel
theorem dX3_append_27 : decode cX3_append 27 = .ok (.aload_n 0, 1) := by decide +kernel
theorem dX3_append_28 : decode cX3_append 28 = .ok (.getfield 21, 3) := by decide +kernel
theorem dX3_append_31 : decode cX3_append 31 = .ok (.arraylength, 1) := by decide +kernel
theorem dX3_append_32 : decode cX3_append 32 = .ok (.if_icmp .le 6, 3) := by decide +kernel
theorem dX3_append_35 : decode cX3_append 35 = .ok (.bipush (-9), 2) := by decide +kernel
theorem dX3_append_37 : decode cX3_append 37 = .ok (.ireturn, 1) := by decide +kernel
theorem dX3_append_38 : decode cX3_append 38 = .ok (.aload_n 0, 1) := by decide +kernel
theorem dX3_append_39 : decode cX3_append 39 = .ok (.getfield 21, 3) := by decide +kernel
theorem dX3_append_42 : decode cX3_append 42 = .ok (.iload_n 1, 1) := by decide +kernel
theorem dX3_append_43 : decode cX3_append 43 = .ok (.iload_n 2, 1) := by decide +kernel
theorem dX3_append_44 : decode cX3_append 44 = .ok (.iconst 0, 1) := by decide +kernel
theorem dX3_append_45 : decode cX3_append 45 = .ok (.invokestatic 35, 3) := by decide +kernel
theorem dX3_append_48 : decode cX3_append 48 = .ok (.aload_n 0, 1) := by decide +kernel
theorem dX3_append_49 : decode cX3_append 49 = .ok (.dup, 1) := by decide +kernel
theorem dX3_append_50 : decode cX3_append 50 = .ok (.getfield 25, 3) := by decide +kernel
theorem dX3_append_53 : decode cX3_append 53 = .ok (.iconst 1, 1) := by decide +kernel
theorem dX3_append_54 : decode cX3_append 54 = .ok (.iadd, 1) := by decide +kernel
theorem dX3_append_55 : decode cX3_append 55 = .ok (.putfield 25, 3) := by decide +kernel
theorem dX3_append_58 : decode cX3_append 58 = .ok (.aload_n 0, 1) := by decide +kernel
theorem dX3_append_59 : decode cX3_append 59 = .ok (.getfield 25, 3) := by decide +kernel
theorem dX3_append_62 : decode cX3_append 62 = .ok (.iconst 1, 1) := by decide +kernel
theorem dX3_append_63 : decode cX3_append 63 = .ok (.isub, 1) := by decide +kernel
theorem dX3_append_64 : decode cX3_append 64 = .ok (.ireturn, 1) := by decide +kernel
def bfX3_append_35 (wW : Int32) (nN : Nat) (S : TV) : Option (Int32 × (TV)) :=
  some ((-9 : Int32), S)
def fX3_append (wW : Int32) (nN : Nat) (S : TV) : Option (Int32 × (TV)) :=
  nm ((S.1 * wW)) fun v5 => nm ((v5 + wW)) fun v6 => (if v5 < 0 then bfX3_append_35 wW nN  S else (if v6 < v5 then bfX3_append_35 wW nN  S else (if v6 ≤ (nI nN) then ob (fillT nN v5 v6 (0 : Int32) S) fun u7 => nm ((u7.1 + (1 : Int32)), u7.2) fun S8 => some ((S8.1 - (1 : Int32)), S8) else bfX3_append_35 wW nN  S)))
set_option maxHeartbeats 4000000 in
set_option maxRecDepth 100000 in
theorem kX3_append (l : Launch) (D : va_G) (cI cS : ClassId) (tA tC : Nat) (wW : Int32) (nN : Nat) (S : TV) {q : Int32 × (TV)} (h : fX3_append wW nN S = some q) : Mc l D (tyL cI cS) false yX3_append cX3_append 3 (some .int) 3 [.ref tA] (wT cI tA tC wW nN S) (some (.int q.1)) (wT cI tA tC wW nN q.2) := by
  refine Mc_of RX3 (by decide +kernel) rfl wc_X3_append (Nat.le_of_ble_eq_true rfl) ?_
  intro p e s m args below meth c A Q ls C hA hz hP hD hS hl RET
  have RETh : ∀ {pc : Nat} {ls : Array Slot} {H : Heap} {locs : List Loc} {x : Int32} {S1 : TV}, decode cX3_append pc = .ok (.ireturn, 1) → some (x, S1) = some q → va_P D vwCl (wT cI tA tC wW nN S1) H → va_D A (wT cI tA tC wW nN S1) → va_S A s.heap H locs → W p l e (rmL 3) s m args below meth c H locs 0 0 Q (F0 m pc ls [.int x]) := by
    intro pc ls H locs x S1 hd h hP hD hS; cases h; exact RET (x_iret C hd) hP hD hS
  have B35 : ∀ (S : TV), bfX3_append_35 wW nN S = some q → ∀ (H : Heap) (locs : List Loc) (ls : Array Slot), va_P D vwCl (wT cI tA tC wW nN S) H → va_D A (wT cI tA tC wW nN S) → va_S A s.heap H locs → lv_has ls 3 [] → W p l e (rmL 3) s m args below meth c H locs 0 0 Q (F0 m 35 ls []) := by
    intro S h H locs ls hP hD hS hl
    refine x_bipush (v := (-9 : Int32)) C dX3_append_35 (by decide) ?_
    exact RETh dX3_append_37 h hP hD hS
  refine x_aload_n C dX3_append_0 rfl hl 0 rfl ?_
  refine x_get C inX3 hP 0 rfl rfl 2 (by decide) wf_X3_25 rfl dX3_append_1 ?_
  refine x_aload_n C dX3_append_4 rfl hl 0 rfl ?_
  refine x_get C inX3 hP 0 rfl rfl 0 (by decide) wf_X3_9 rfl dX3_append_5 ?_
  refine x_imul C dX3_append_8 ?_
  refine x_nmi h (fun v5 h => ?_)
  refine x_istore_n (lv' := [(1, .int v5), (0, .ref tA)]) C dX3_append_9 rfl hl (by decide) rfl (fun ls hl => ?_)
  refine x_iload_n C dX3_append_10 rfl hl 0 rfl ?_
  refine x_aload_n C dX3_append_11 rfl hl 1 rfl ?_
  refine x_get C inX3 hP 0 rfl rfl 0 (by decide) wf_X3_9 rfl dX3_append_12 ?_
  refine x_iadd C dX3_append_15 ?_
  refine x_nmi h (fun v6 h => ?_)
  refine x_istore_n (lv' := [(2, .int v6), (1, .int v5), (0, .ref tA)]) C dX3_append_16 rfl hl (by decide) rfl (fun ls hl => ?_)
  refine x_iload_n C dX3_append_17 rfl hl 1 rfl ?_
  refine x_if_lt (tgt := 35) C h dX3_append_18 (by decide) (fun h => ?_) (fun h => ?_)
  · exact B35 _ h _ _ _ hP hD hS (lv_sub hl [] rfl)
  · refine x_iload_n C dX3_append_21 rfl hl 0 rfl ?_
    refine x_iload_n C dX3_append_22 rfl hl 1 rfl ?_
    refine x_icmp_lt (tgt := 35) C h dX3_append_23 (by decide) (fun h => ?_) (fun h => ?_)
    · exact B35 _ h _ _ _ hP hD hS (lv_sub hl [] rfl)
    · refine x_iload_n C dX3_append_26 rfl hl 0 rfl ?_
      refine x_aload_n C dX3_append_27 rfl hl 2 rfl ?_
      refine x_get C inX3 hP 0 rfl rfl 1 (by decide) wf_X3_21 rfl dX3_append_28 ?_
      refine x_alen C hP 1 rfl (t0 := 0) rfl rfl dX3_append_31 ?_
      refine x_icmp_le (tgt := 38) C h dX3_append_32 (by decide) (fun h => ?_) (fun h => ?_)
      · refine x_aload_n C dX3_append_38 rfl hl 2 rfl ?_
        refine x_get C inX3 hP 0 rfl rfl 1 (by decide) wf_X3_21 rfl dX3_append_39 ?_
        refine x_iload_n C dX3_append_42 rfl hl 1 rfl ?_
        refine x_iload_n C dX3_append_43 rfl hl 0 rfl ?_
        refine x_iconst (v := (0 : Int32)) C dX3_append_44 (by decide) ?_
        obtain ⟨u7, hu7, h⟩ := ob_some h
        refine x_callS (As := [.ref _, .int _, .int _, .int _]) (n := 4) C (kT_fill l D cI cS tA tC wW nN _ _ _ _ hu7) (fun hh => nomatch hh) wm_X3_35 wt_J7_fill_fda19 wz_J7 wc_J7_fill_fda19 (by decide +kernel) rfl hP hD hS hA hl.1 dX3_append_45 rfl (Nat.le_of_ble_eq_true rfl) ⟨Nat.le_of_ble_eq_true rfl, Nat.le_of_ble_eq_true rfl⟩ ⟨Nat.zero_le _, Nat.zero_le _⟩ (fun H locs hP hD hS => ?_)
        refine x_aload_n C dX3_append_48 rfl hl 2 rfl ?_
        refine x_dup C dX3_append_49 rfl ?_
        refine x_get C inX3 hP 0 rfl rfl 2 (by decide) wf_X3_25 rfl dX3_append_50 ?_
        refine x_iconst (v := (1 : Int32)) C dX3_append_53 (by decide) ?_
        refine x_iadd C dX3_append_54 ?_
        refine x_putM (wT cI tA tC wW nN) C h inX3 tyX3 tyX3_ok nmX3 hP hD hS 0 rfl rfl 2 (by decide) wf_X3_25 rfl (ft := .int) (by decide +kernel) rfl rfl (Nat.le_of_ble_eq_true rfl) rfl dX3_append_55 (fun S8 h H locs hP hD hS => ?_)
        refine x_aload_n C dX3_append_58 rfl hl 2 rfl ?_
        refine x_get C inX3 hP 0 rfl rfl 2 (by decide) wf_X3_25 rfl dX3_append_59 ?_
        refine x_iconst (v := (1 : Int32)) C dX3_append_62 (by decide) ?_
        refine x_isub C dX3_append_63 ?_
        exact RETh dX3_append_64 h hP hD hS
      · exact B35 _ h _ _ _ hP hD hS (lv_sub hl [] rfl)
theorem dX3_copyRow_0 : decode cX3_copyRow 0 = .ok (.iconst 0, 1) := by decide +kernel
theorem dX3_copyRow_1 : decode cX3_copyRow 1 = .ok (.istore 4, 2) := by decide +kernel
theorem dX3_copyRow_3 : decode cX3_copyRow 3 = .ok (.iload 4, 2) := by decide +kernel
theorem dX3_copyRow_5 : decode cX3_copyRow 5 = .ok (.aload_n 0, 1) := by decide +kernel
theorem dX3_copyRow_6 : decode cX3_copyRow 6 = .ok (.getfield 9, 3) := by decide +kernel
theorem dX3_copyRow_9 : decode cX3_copyRow 9 = .ok (.if_icmp .ge 23, 3) := by decide +kernel
theorem dX3_copyRow_12 : decode cX3_copyRow 12 = .ok (.aload_n 0, 1) := by decide +kernel
theorem dX3_copyRow_13 : decode cX3_copyRow 13 = .ok (.iload_n 1, 1) := by decide +kernel
theorem dX3_copyRow_14 : decode cX3_copyRow 14 = .ok (.iload 4, 2) := by decide +kernel
theorem dX3_copyRow_16 : decode cX3_copyRow 16 = .ok (.aload_n 2, 1) := by decide +kernel
theorem dX3_copyRow_17 : decode cX3_copyRow 17 = .ok (.iload_n 3, 1) := by decide +kernel
theorem dX3_copyRow_18 : decode cX3_copyRow 18 = .ok (.iload 4, 2) := by decide +kernel
theorem dX3_copyRow_20 : decode cX3_copyRow 20 = .ok (.invokevirtual 28, 3) := by decide +kernel
theorem dX3_copyRow_23 : decode cX3_copyRow 23 = .ok (.invokevirtual 31, 3) := by decide +kernel
theorem dX3_copyRow_26 : decode cX3_copyRow 26 = .ok (.iinc 4 1, 3) := by decide +kernel
theorem dX3_copyRow_29 : decode cX3_copyRow 29 = .ok (.goto (-26), 3) := by decide +kernel
theorem dX3_copyRow_32 : decode cX3_copyRow 32 = .ok (.return_, 1) := by decide +kernel
def bfX3_copyRow_3 (wW : Int32) (nN : Nat) (wW2 : Int32) (nN2 : Nat) (p1 : Int32) (p3 : Int32) (K3 : Int32 × (TV × TV) → Option (TV × TV)) (x : Int32 × (TV × TV)) : Option (TV × TV) :=
  match x with
  | (x4, S) => (if wW ≤ x4 then some S else ob (fX3_get wW2 nN2 p3 x4 S.2) fun u3 => ob (putTT wW nN p1 x4 u3 S) fun u4 => K3 ((x4 + (1 : Int32)), u4))
def fX3_copyRow (wW : Int32) (nN : Nat) (wW2 : Int32) (nN2 : Nat) (p1 : Int32) (p3 : Int32) (S : TV × TV) : Option (TV × TV) :=
  iter (bfX3_copyRow_3 wW nN wW2 nN2 p1 p3) FU ((0 : Int32), S)
set_option maxHeartbeats 4000000 in
set_option maxRecDepth 100000 in
theorem kX3_copyRow (l : Launch) (D : va_G) (cI cS : ClassId) (tA tC tA2 tC2 : Nat) (wW : Int32) (nN : Nat) (wW2 : Int32) (nN2 : Nat) (p1 : Int32) (p3 : Int32) (S : TV × TV) {q : TV × TV} (h : fX3_copyRow wW nN wW2 nN2 p1 p3 S = some q) : Mc l D (tyL cI cS) false yX3_copyRow cX3_copyRow 5 none 2 [.ref tA, .int p1, .ref tA2, .int p3] (wTT cI tA tC wW nN tA2 tC2 wW2 nN2 S) none (wTT cI tA tC wW nN tA2 tC2 wW2 nN2 q) := by
  refine Mc_of RX3 (by decide +kernel) rfl wc_X3_copyRow (Nat.le_of_ble_eq_true rfl) ?_
  intro p e s m args below meth c A Q ls C hA hz hP hD hS hl RET
  have RETh : ∀ {pc : Nat} {ls : Array Slot} {H : Heap} {locs : List Loc} {S1 : TV × TV}, decode cX3_copyRow pc = .ok (.return_, 1) → some S1 = some q → va_P D vwCl (wTT cI tA tC wW nN tA2 tC2 wW2 nN2 S1) H → va_D A (wTT cI tA tC wW nN tA2 tC2 wW2 nN2 S1) → va_S A s.heap H locs → W p l e (rmL 2) s m args below meth c H locs 0 0 Q (F0 m pc ls []) := by
    intro pc ls H locs S1 hd h hP hD hS; cases h; exact RET (x_vret C hd) hP hD hS
  have B3 : ∀ (n : Nat) (x : Int32 × (TV × TV)), iter (bfX3_copyRow_3 wW nN wW2 nN2 p1 p3) n x = some q → (match x with | (x4, S) => ∀ (H : Heap) (locs : List Loc) (ls : Array Slot), va_P D vwCl (wTT cI tA tC wW nN tA2 tC2 wW2 nN2 S) H → va_D A (wTT cI tA tC wW nN tA2 tC2 wW2 nN2 S) → va_S A s.heap H locs → lv_has ls 5 [(0, .ref tA), (1, .int p1), (2, .ref tA2), (3, .int p3), (4, .int x4)] → W p l e (rmL 2) s m args below meth c H locs 0 0 Q (F0 m 3 ls [])) := by
    refine iter_ind (fun x : Int32 × (TV × TV) => (match x with | (x4, S) => ∀ (H : Heap) (locs : List Loc) (ls : Array Slot), va_P D vwCl (wTT cI tA tC wW nN tA2 tC2 wW2 nN2 S) H → va_D A (wTT cI tA tC wW nN tA2 tC2 wW2 nN2 S) → va_S A s.heap H locs → lv_has ls 5 [(0, .ref tA), (1, .int p1), (2, .ref tA2), (3, .int p3), (4, .int x4)] → W p l e (rmL 2) s m args below meth c H locs 0 0 Q (F0 m 3 ls []))) ?_
    intro K3 ih3 x h
    obtain ⟨x4, S⟩ := x
    intro H locs ls hP hD hS hl
    refine x_iload C dX3_copyRow_3 hl 4 rfl ?_
    refine x_aload_n C dX3_copyRow_5 rfl hl 0 rfl ?_
    refine x_get C inX3 hP 0 rfl rfl 0 (by decide) wf_X3_9 rfl dX3_copyRow_6 ?_
    refine x_icmp_ge (tgt := 32) C h dX3_copyRow_9 (by decide) (fun h => ?_) (fun h => ?_)
    · exact RETh dX3_copyRow_32 h hP hD hS
    · refine x_aload_n C dX3_copyRow_12 rfl hl 0 rfl ?_
      refine x_iload_n C dX3_copyRow_13 rfl hl 1 rfl ?_
      refine x_iload C dX3_copyRow_14 hl 4 rfl ?_
      refine x_aload_n C dX3_copyRow_16 rfl hl 2 rfl ?_
      refine x_iload_n C dX3_copyRow_17 rfl hl 3 rfl ?_
      refine x_iload C dX3_copyRow_18 hl 4 rfl ?_
      obtain ⟨u3, hu3, h⟩ := ob_some h
      refine x_callV (As := [.int _, .int _]) (n := 2) C (kTT_get2 l D cI cS tA tC tA2 tC2 wW nN wW2 nN2 _ _ _ hu3) (fun hh => nomatch hh) wm_X3_28 wi_X3_get we_X3_get wz_X3 wc_X3_get (by decide +kernel) rfl hP hD hS hA 2 1 rfl rfl rfl hl.1 dX3_copyRow_20 rfl (Nat.le_of_ble_eq_true rfl) ⟨Nat.le_of_ble_eq_true rfl, Nat.le_of_ble_eq_true rfl⟩ ⟨Nat.zero_le _, Nat.zero_le _⟩ (fun H locs hP hD hS => ?_)
      obtain ⟨u4, hu4, h⟩ := ob_some h
      refine x_callV (As := [.int _, .int _, .int _]) (n := 3) C (kTT_put' l D cI cS tA tC tA2 tC2 wW nN wW2 nN2 _ _ _ _ hu4) (fun hh => nomatch hh) wm_X3_31 wi_X3_put we_X3_put wz_X3 wc_X3_put (by decide +kernel) rfl hP hD hS hA 0 1 rfl rfl rfl hl.1 dX3_copyRow_23 rfl (Nat.le_of_ble_eq_true rfl) ⟨Nat.le_of_ble_eq_true rfl, Nat.le_of_ble_eq_true rfl⟩ ⟨Nat.zero_le _, Nat.zero_le _⟩ (fun H locs hP hD hS => ?_)
      refine x_iinc (v := (x4 + (1 : Int32))) (lv' := [(4, .int (x4 + (1 : Int32))), (0, .ref tA), (1, .int p1), (2, .ref tA2), (3, .int p3)]) C dX3_copyRow_26 hl (k := 4) rfl rfl (by decide) rfl (fun ls hl => ?_)
      refine x_goto (tgt := 3) C dX3_copyRow_29 (by decide) ?_
      exact ih3 _ h _ _ _ hP hD hS (lv_sub hl [1, 2, 3, 4, 0] rfl)
  refine x_iconst (v := (0 : Int32)) C dX3_copyRow_0 (by decide) ?_
  refine x_istore (lv' := [(4, .int (0 : Int32)), (0, .ref tA), (1, .int p1), (2, .ref tA2), (3, .int p3)]) C dX3_copyRow_1 hl (by decide) rfl (fun ls hl => ?_)
  exact B3 FU _ h _ _ _ hP hD hS (lv_sub hl [1, 2, 3, 4, 0] rfl)
theorem dX3_copyFrom_0 : decode cX3_copyFrom 0 = .ok (.aload_n 1, 1) := by decide +kernel
theorem dX3_copyFrom_1 : decode cX3_copyFrom 1 = .ok (.getfield 21, 3) := by decide +kernel
theorem dX3_copyFrom_4 : decode cX3_copyFrom 4 = .ok (.iconst 0, 1) := by decide +kernel
theorem dX3_copyFrom_5 : decode cX3_copyFrom 5 = .ok (.aload_n 0, 1) := by decide +kernel
theorem dX3_copyFrom_6 : decode cX3_copyFrom 6 = .ok (.getfield 21, 3) := by decide +kernel
theorem dX3_copyFrom_9 : decode cX3_copyFrom 9 = .ok (.iconst 0, 1) := by decide +kernel
theorem dX3_copyFrom_10 : decode cX3_copyFrom 10 = .ok (.aload_n 1, 1) := by decide +kernel
theorem dX3_copyFrom_11 : decode cX3_copyFrom 11 = .ok (.getfield 21, 3) := by decide +kernel
theorem dX3_copyFrom_14 : decode cX3_copyFrom 14 = .ok (.arraylength, 1) := by decide +kernel
theorem dX3_copyFrom_15 : decode cX3_copyFrom 15 = .ok (.aload_n 0, 1) := by decide +kernel
theorem dX3_copyFrom_16 : decode cX3_copyFrom 16 = .ok (.getfield 21, 3) := by decide +kernel
theorem dX3_copyFrom_19 : decode cX3_copyFrom 19 = .ok (.arraylength, 1) := by decide +kernel
theorem dX3_copyFrom_20 : decode cX3_copyFrom 20 = .ok (.invokestatic 47, 3) := by decide +kernel
theorem dX3_copyFrom_23 : decode cX3_copyFrom 23 = .ok (.invokestatic 41, 3) := by decide +kernel
theorem dX3_copyFrom_26 : decode cX3_copyFrom 26 = .ok (.aload_n 0, 1) := by decide +kernel
theorem dX3_copyFrom_27 : decode cX3_copyFrom 27 = .ok (.aload_n 1, 1) := by decide +kernel
theorem dX3_copyFrom_28 : decode cX3_copyFrom 28 = .ok (.getfield 25, 3) := by decide +kernel
theorem dX3_copyFrom_31 : decode cX3_copyFrom 31 = .ok (.putfield 25, 3) := by decide +kernel
theorem dX3_copyFrom_34 : decode cX3_copyFrom 34 = .ok (.return_, 1) := by decide +kernel
def fX3_copyFrom (wW : Int32) (nN : Nat) (wW2 : Int32) (nN2 : Nat) (S : TV × TV) : Option (TV × TV) :=
  (if okC (0 : Int32) (0 : Int32) (if (nI nN) < (nI nN2) then (nI nN) else (nI nN2)) nN2 nN then nm ((S.1.1, va_cpy S.2.2 S.1.2 ((0 : Int32)).toNatClampNeg ((0 : Int32)).toNatClampNeg ((if (nI nN) < (nI nN2) then (nI nN) else (nI nN2))).toNatClampNeg), S.2) fun S3 => nm ((S3.2.1, S3.1.2), S3.2) fun S4 => some S4 else none)
set_option maxHeartbeats 4000000 in
set_option maxRecDepth 100000 in
theorem kX3_copyFrom (l : Launch) (D : va_G) (cI cS : ClassId) (tA tC tA2 tC2 : Nat) (wW : Int32) (nN : Nat) (wW2 : Int32) (nN2 : Nat) (S : TV × TV) {q : TV × TV} (h : fX3_copyFrom wW nN wW2 nN2 S = some q) : Mc l D (tyL cI cS) false yX3_copyFrom cX3_copyFrom 2 none 2 [.ref tA, .ref tA2] (wTT cI tA tC wW nN tA2 tC2 wW2 nN2 S) none (wTT cI tA tC wW nN tA2 tC2 wW2 nN2 q) := by
  refine Mc_of RX3 (by decide +kernel) rfl wc_X3_copyFrom (Nat.le_of_ble_eq_true rfl) ?_
  intro p e s m args below meth c A Q ls C hA hz hP hD hS hl RET
  have RETh : ∀ {pc : Nat} {ls : Array Slot} {H : Heap} {locs : List Loc} {S1 : TV × TV}, decode cX3_copyFrom pc = .ok (.return_, 1) → some S1 = some q → va_P D vwCl (wTT cI tA tC wW nN tA2 tC2 wW2 nN2 S1) H → va_D A (wTT cI tA tC wW nN tA2 tC2 wW2 nN2 S1) → va_S A s.heap H locs → W p l e (rmL 2) s m args below meth c H locs 0 0 Q (F0 m pc ls []) := by
    intro pc ls H locs S1 hd h hP hD hS; cases h; exact RET (x_vret C hd) hP hD hS
  refine x_aload_n C dX3_copyFrom_0 rfl hl 1 rfl ?_
  refine x_get C inX3 hP 2 rfl rfl 1 (by decide) wf_X3_21 rfl dX3_copyFrom_1 ?_
  refine x_iconst (v := (0 : Int32)) C dX3_copyFrom_4 (by decide) ?_
  refine x_aload_n C dX3_copyFrom_5 rfl hl 0 rfl ?_
  refine x_get C inX3 hP 0 rfl rfl 1 (by decide) wf_X3_21 rfl dX3_copyFrom_6 ?_
  refine x_iconst (v := (0 : Int32)) C dX3_copyFrom_9 (by decide) ?_
  refine x_aload_n C dX3_copyFrom_10 rfl hl 1 rfl ?_
  refine x_get C inX3 hP 2 rfl rfl 1 (by decide) wf_X3_21 rfl dX3_copyFrom_11 ?_
  refine x_alen C hP 3 rfl (t0 := 0) rfl rfl dX3_copyFrom_14 ?_
  refine x_aload_n C dX3_copyFrom_15 rfl hl 0 rfl ?_
  refine x_get C inX3 hP 0 rfl rfl 1 (by decide) wf_X3_21 rfl dX3_copyFrom_16 ?_
  refine x_alen C hP 1 rfl (t0 := 0) rfl rfl dX3_copyFrom_19 ?_
  refine x_min C hl.1 wm_X3_47 wt_J9_min_7cf53 wz_J9 wc_J9_min_7cf53 (by decide) (Nat.le_of_ble_eq_true rfl) ⟨Nat.zero_le _, Nat.zero_le _⟩ dX3_copyFrom_20 ?_
  refine x_acopyM (wTT cI tA tC wW nN tA2 tC2 wW2 nN2) C h hl.1 wm_X3_41 wn_arraycopy wt__java_lang_System_arraycopy wz_J10 hP hD hS 3 1 rfl rfl (t0 := 0) (t1 := 0) rfl rfl rfl (by decide) (Nat.le_of_ble_eq_true rfl) dX3_copyFrom_23 (fun S3 h H locs hP hD hS => ?_)
  refine x_aload_n C dX3_copyFrom_26 rfl hl 0 rfl ?_
  refine x_aload_n C dX3_copyFrom_27 rfl hl 1 rfl ?_
  refine x_get C inX3 hP 2 rfl rfl 2 (by decide) wf_X3_25 rfl dX3_copyFrom_28 ?_
  refine x_putM (wTT cI tA tC wW nN tA2 tC2 wW2 nN2) C h inX3 tyX3 tyX3_ok nmX3 hP hD hS 0 rfl rfl 2 (by decide) wf_X3_25 rfl (ft := .int) (by decide +kernel) rfl rfl (Nat.le_of_ble_eq_true rfl) rfl dX3_copyFrom_31 (fun S4 h H locs hP hD hS => ?_)
  exact RETh dX3_copyFrom_34 h hP hD hS
